/-! ===== the reference, exactly: reading boxes ===== -/
theorem RSh.hl {F F' : mF} {n : Nat} {A : Nat → Int} {B : Int32} (h : RSh F F' n) (hL : LF F 15 = A ∧ F 1 25 = B) : LF F' 15 = A ∧ F' 1 25 = B := by
  have e : LF F' 15 = LF F 15 := funext fun j => by
    unfold LF
    rw [h 15 j (by omega) (by omega)]
  exact ⟨e.trans hL.1, (h 1 25 (by omega) (by omega)).trans hL.2⟩
set_option maxHeartbeats 4000000 in
set_option maxRecDepth 100000 in
theorem x_X10_readBox (l : Launch) (G : tG) (σ : Nat → Nat) (cu : Nat) (X : mX) (Fa : mF) (h0 : Nat) (t0 : σ h0 = 1) (t : Nat → Int32) (hT : TI (σ, cu, X) t) (hI : TInv t) (hV : RV (t 3).toInt Fa) (hNM : NMS (FM G)) : Met l yX10_readBox (.code yX10_readBox cX10_readBox 5 none :: tWS) (tRm 3 73) (va_Pc [.ref h0] (mPre G (σ, cu, kO PRd X Fa))) (mQvX G (σ, cu, kO PRd X Fa) (fun Z => ∃ F : mF, Z = (σ, cu, kO PRd X F) ∧ (¬ (F 1 27).toInt = 0 ∨ (RA (t 3).toInt F ∧ (F 1 30).toInt = (Fa 1 30).toInt + 1)) ∧ 0 ≤ (F 1 30).toInt ∧ BXx (t 3).toInt Fa F)) 0 0 (mA (σ, cu, kO PRd X Fa)) := by
  refine mc_met (by decide) (Nat.le_of_ble_eq_true rfl) ?_
  intro p e s m below meth c E hr hlk hG ls hl
  have hl : lv_has ls 5 [(0, .ref h0)] := hl
  have hx := E.1
  have hb := E.2.1
  obtain ⟨H, eH⟩ : ∃ H, H = s.heap := ⟨_, rfl⟩
  obtain ⟨locs, eL⟩ : ∃ x : List Loc, x = [] := ⟨_, rfl⟩
  have hG : mGH G (σ, cu, kO PRd X Fa) s H locs := by rw [eH, eL]; exact hG
  suffices hW : W p l e (tRm 3 73) s m ([.ref h0] : List Value).toArray below meth c H locs 0 0 (MQ below (mQvX G (σ, cu, kO PRd X Fa) (fun Z => ∃ F : mF, Z = (σ, cu, kO PRd X F) ∧ (¬ (F 1 27).toInt = 0 ∨ (RA (t 3).toInt F ∧ (F 1 30).toInt = (Fa 1 30).toInt + 1)) ∧ 0 ≤ (F 1 30).toInt ∧ BXx (t 3).toInt Fa F)) ([.ref h0] : List Value).toArray s 0 0 (mA (σ, cu, kO PRd X Fa))) (F0 m 0 ls []) by subst eH; subst eL; exact hW
  clear eH eL
  have hcu : mCu cu := hG.2.2.1
  have hV0 := hV.1
  have hV2 := hV.2.1
  have hV3 := hV.2.2.1
  have hV4 := hV.2.2.2.1
  have hI1 := hI.1
  have hLFa : LF Fa 15 = LF Fa 15 ∧ Fa 1 25 = Fa 1 25 := ⟨rfl, rfl⟩
  have J136 : ∀ (n136 : Nat) (F : mF) (H : Heap) (locs : List Loc) (ls : Array Slot) (v1 : Int32) (v2 : Int32) (v3 : Int32) (v4 : Int32), mGH G (σ, cu, kO PRd X F) s H locs → lv_has ls 5 [(0, .ref h0), (1, .int v1), (2, .int v2), (3, .int v3), (4, .int v4)] → -1 ≤ v1.toInt → v1.toInt ≤ 23 → 0 ≤ v2.toInt → v2.toInt ≤ 184 → 0 ≤ v3.toInt → v3.toInt ≤ 9 → 0 ≤ v4.toInt → v4.toInt ≤ 4 → (NB Fa F (Fa 1 30).toInt.toNat v3.toInt v4.toInt ∧ v2.toInt = 8 * (Fa 1 30).toInt ∧ (Fa 1 30).toInt ≤ 23 ∧ RX (t 3).toInt Fa v1 ∧ BXr (24 - (t 3).toInt) (Fa 1 30).toInt (wT Fa) (qK Fa) (qC Fa) ∧ wT Fa = v1.toInt ∧ NUr (LF Fa 15) (Fa 1 25).toInt (Fa 1 26).toInt (qN F (Fa 1 30).toInt.toNat) v3.toInt v4.toInt (F 1 26).toInt (F 1 27).toInt ∧ (F 17 (8 * (Fa 1 30).toInt.toNat + 5)).toInt = 0) → (4 - v4.toInt).toNat < n136 → W p l e (tRm 3 73) s m ([.ref h0] : List Value).toArray below meth c H locs 0 0 (MQ below (mQvX G (σ, cu, kO PRd X Fa) (fun Z => ∃ F : mF, Z = (σ, cu, kO PRd X F) ∧ (¬ (F 1 27).toInt = 0 ∨ (RA (t 3).toInt F ∧ (F 1 30).toInt = (Fa 1 30).toInt + 1)) ∧ 0 ≤ (F 1 30).toInt ∧ BXx (t 3).toInt Fa F)) ([.ref h0] : List Value).toArray s 0 0 (mA (σ, cu, kO PRd X Fa))) (F0 m 136 ls []) := by
    intro n136
    induction n136 with
    | zero => intro F H locs ls v1 v2 v3 v4 hG hl b1 c1 b2 c2 b3 c3 b4 c4 hex136 hn136; exact absurd hn136 (Nat.not_lt_zero _)
    | succ n136 ih136 =>
      intro F H locs ls v1 v2 v3 v4 hG hl b1 c1 b2 c2 b3 c3 b4 c4 hex136 hn136
      have hLF := (RB.frx hex136.1.1).2.2.1
      refine lv_iload hx hb dX10_readBox_136 (lv_at hl 4 rfl) ?_
      refine lv_iload_n hx hb dX10_readBox_138 rfl (lv_at hl 3 rfl) ?_
      refine tc_callp (mc_runS (As := [.int v3]) (rest := [.int v4]) E hG (x_X10_numbersOf l G (σ, cu, kO PRd X F) v3 (by omega) (by omega)) ks_X10_numbersOf ml_X10_110 ⟨rfl, rfl, Nat.le_of_ble_eq_true rfl, Nat.le_of_ble_eq_true rfl⟩ rfl hl.1 rfl (Nat.le_of_ble_eq_true rfl) ⟨Nat.zero_le _, Nat.zero_le _⟩ dX10_readBox_139) (fun r1 pr1 => ?_)
      replace pr1 : r1.toInt = nNum v3.toInt ∧ ((v3.toInt = 3 ∧ r1.toInt = 4) ∨ ((v3.toInt = 4 ∨ v3.toInt = 5) ∧ r1.toInt = 0) ∨ (v3.toInt = 7 ∧ r1.toInt = 1) ∨ (¬ v3.toInt = 3 ∧ ¬ v3.toInt = 4 ∧ ¬ v3.toInt = 5 ∧ ¬ v3.toInt = 7 ∧ r1.toInt = 2)) := pr1
      refine lv_icmp_ge (tgt := 194) hx hb dX10_readBox_142 (by decide) (fun c2 => ?_) (fun c2 => ?_)
      · skip
        have ic2 := tn_le rfl rfl c2
        refine lv_aload_n hx hb dX10_readBox_194 rfl (lv_at hl 0 rfl) ?_
        refine mc_geti E hG t0 mi_359 dX10_readBox_195 (fun z3 lz3 uz3 qz3 => ?_)
        have wz3 := kq qz3 (PRd_27)
        have gz3 : z3.toInt = (F 1 27).toInt := by rw [wz3]
        have hbz2 : z3.toInt = (F 1 27).toInt := by rw [wz3]
        refine lv_if_ne (tgt := 206) hx hb dX10_readBox_198 (by decide) (fun c4 => ?_) (fun c4 => ?_)
        · skip
          have ic4 := tn_ne rfl kI_0 c4
          have hbad : ¬ (F 1 27).toInt = 0 := by rw [← wz3]; omega
          have hB6 := hex136.1.1
          have hRX := hex136.2.2.2.1
          have hM : BXm (t 3).toInt Fa F := BXm_bad hex136.2.2.2.2.1 hex136.2.2.2.2.2.2.1 hbad
          have hwv := hex136.2.2.2.2.2.1
          refine lv_iload_n hx hb dX10_readBox_206 rfl (lv_at hl 1 rfl) ?_
          refine lv_if_lt (tgt := 226) hx hb dX10_readBox_207 (by decide) (fun c5 => ?_) (fun c5 => ?_)
          · skip
            have ic5 := tn_lt rfl kI_0 c5
            refine lv_aload_n hx hb dX10_readBox_226 rfl (lv_at hl 0 rfl) ?_
            refine mc_getr E hG t0 mr_60 dX10_readBox_227 (fun oa6 hoa6 => ?_)
            refine lv_iload_n hx hb dX10_readBox_230 rfl (lv_at hl 2 rfl) ?_
            refine lv_bipush (v := 6) hx hb dX10_readBox_231 (by decide) ?_
            refine lv_iadd hx hb dX10_readBox_233 ?_
            refine lv_topi (fun z7 ez7 => ?_)
            have tz7 := tn_add ez7 rfl kI_6 (by omega) (by omega)
            refine lv_iload_n hx hb dX10_readBox_234 rfl (lv_at hl 1 rfl) ?_
            have k8 : rR z7.toNatClampNeg = (-1, 23) := by rw [rR_at (q := (Fa 1 30).toInt) (r := 6) (by omega) (by omega) (by omega) (by omega)]; rfl
            refine mc_iastX E hG hoa6 (by decide) rfl (lo := -1) (hi := 23) (show (0, (rR _).1, (rR _).2) = _ by rw [k8]) (t_in (by omega) (by omega)) (by omega) (by omega) dX10_readBox_235 (fun H locs hG => ?_)
            have hG := kO_set PRd_17 hG
            obtain ⟨F9, eF9⟩ : ∃ Z : mF, Z = up2 F 17 z7.toNatClampNeg v1 := ⟨_, rfl⟩
            rw [← eF9] at hG
            have hLF9 : LF F9 15 = LF Fa 15 ∧ F9 1 25 = Fa 1 25 := by rw [eF9, LF_up (by decide), up2_ne (by omega)]; exact hLF
            have hpF9 : (F9 1 26).toInt = (F 1 26).toInt := by rw [eF9, up2_ne (by omega)]
            have hbF9 : (F9 1 27).toInt = (F 1 27).toInt := by rw [eF9, up2_ne (by omega)]
            refine lv_aload_n hx hb dX10_readBox_236 rfl (lv_at hl 0 rfl) ?_
            refine lv_dup hx hb dX10_readBox_237 rfl ?_
            refine mc_geti E hG t0 mi_370 dX10_readBox_238 (fun z10 lz10 uz10 qz10 => ?_)
            have wz10 := kq qz10 (PRd_30)
            have gz10 : z10.toInt = (F9 1 30).toInt := by rw [wz10]
            have h30 : z10.toInt = (Fa 1 30).toInt := by rw [wz10, eF9, up2_ne (by omega), hB6 1 30 (by omega) (by omega)]
            have hI1 := hI.1
            have hx1 := hRX.1
            refine lv_iconst (v := 1) hx hb dX10_readBox_241 (by decide) ?_
            refine lv_iadd hx hb dX10_readBox_242 ?_
            refine lv_topi (fun z11 ez11 => ?_)
            have tz11 := tn_add ez11 rfl kI_1 (by omega) (by omega)
            refine mc_putX E hG t0 mp_370 (by omega) (by omega) rfl rfl dX10_readBox_243 (fun H locs hG => ?_)
            have hG := kO_set (PRd_30) hG
            obtain ⟨F12, eF12⟩ : ∃ Z : mF, Z = up2 F9 1 30 z11 := ⟨_, rfl⟩
            rw [← eF12] at hG
            have hLF12 : LF F12 15 = LF Fa 15 ∧ F12 1 25 = Fa 1 25 := by rw [eF12, LF_up (by decide), up2_ne (by omega)]; exact hLF9
            have hpF12 : (F12 1 26).toInt = (F9 1 26).toInt := by rw [eF12, up2_ne (by omega)]
            have hbF12 : (F12 1 27).toInt = (F9 1 27).toInt := by rw [eF12, up2_ne (by omega)]
            have h9 : 0 ≤ (F12 1 30).toInt := by rw [eF12, up2_at]; omega
            have h8e : F9 = up2 F 17 (8 * (Fa 1 30).toInt.toNat + 6) v1 := by rw [show 8 * (Fa 1 30).toInt.toNat + 6 = z7.toNatClampNeg by show _ = z7.toInt.toNat; omega]; exact eF9
            have hBX : BXx (t 3).toInt Fa F12 := BXx_end (RB.frx hB6) (Or.inl rfl) h8e eF12 hwv.symm (by omega) hM
            exact mc_vretX E hr hlk hG rfl ⟨_, rfl, Or.inl (by rw [eF12, up2_ne (by decide), eF9, up2_ne (by omega)]; exact hbad), h9, hBX⟩ dX10_readBox_246
          · skip
            have ic5 := tn_nlt rfl kI_0 c5
            refine lv_aload_n hx hb dX10_readBox_210 rfl (lv_at hl 0 rfl) ?_
            refine mc_getr E hG t0 mr_60 dX10_readBox_211 (fun oa13 hoa13 => ?_)
            refine lv_bipush (v := 8) hx hb dX10_readBox_214 (by decide) ?_
            refine lv_iload_n hx hb dX10_readBox_216 rfl (lv_at hl 1 rfl) ?_
            refine lv_imul hx hb dX10_readBox_217 ?_
            refine lv_topi (fun z14 ez14 => ?_)
            have tz14 := tn_mul ez14 kI_8 rfl (by omega) (by omega)
            refine lv_bipush (v := 7) hx hb dX10_readBox_218 (by decide) ?_
            refine lv_iadd hx hb dX10_readBox_220 ?_
            refine lv_topi (fun z15 ez15 => ?_)
            have tz15 := tn_add ez15 rfl kI_7 (by omega) (by omega)
            refine lv_dup2_11 hx hb dX10_readBox_221 rfl rfl ?_
            refine mc_rald E hG hoa13 (t_in (by omega) (by omega)) dX10_readBox_222 (fun z16 lz16 uz16 qz16 => ?_)
            rw [rR_at (q := v1.toInt) (r := 7) (by omega) (by omega) (by omega) (by omega)] at lz16 uz16
            have lz16 : 0 ≤ z16.toInt := lz16
            have uz16 : z16.toInt ≤ 8 := uz16
            have wz16 := kq qz16 PRd_17
            have hc7 : z16.toInt ≤ 7 := by
              rcases hRX.2 with q | q
              · omega
              · have hw9 := hV.2.2.2.2.2.1 ((Fa 1 32).toInt - 1).toNat (by omega)
                rw [← q.2.2.1] at hw9
                rw [wz16, show z15.toNatClampNeg = 8 * v1.toInt.toNat + 7 by show z15.toInt.toNat = _; omega, hB6 17 _ (by omega) (by omega)]
                exact q.2.2.2
            refine lv_iconst (v := 1) hx hb dX10_readBox_223 (by decide) ?_
            refine lv_iadd hx hb dX10_readBox_224 ?_
            refine lv_topi (fun z17 ez17 => ?_)
            have tz17 := tn_add ez17 rfl kI_1 (by omega) (by omega)
            have k18 : rR z15.toNatClampNeg = (0, 8) := by rw [rR_at (q := v1.toInt) (r := 7) (by omega) (by omega) (by omega) (by omega)]; rfl
            refine mc_iastX E hG hoa13 (by decide) rfl (lo := 0) (hi := 8) (show (0, (rR _).1, (rR _).2) = _ by rw [k18]) (t_in (by omega) (by omega)) (by omega) (by omega) dX10_readBox_225 (fun H locs hG => ?_)
            have hG := kO_set PRd_17 hG
            obtain ⟨F19, eF19⟩ : ∃ Z : mF, Z = up2 F 17 z15.toNatClampNeg z17 := ⟨_, rfl⟩
            rw [← eF19] at hG
            have hLF19 : LF F19 15 = LF Fa 15 ∧ F19 1 25 = Fa 1 25 := by rw [eF19, LF_up (by decide), up2_ne (by omega)]; exact hLF
            have hpF19 : (F19 1 26).toInt = (F 1 26).toInt := by rw [eF19, up2_ne (by omega)]
            have hbF19 : (F19 1 27).toInt = (F 1 27).toInt := by rw [eF19, up2_ne (by omega)]
            refine lv_aload_n hx hb dX10_readBox_226 rfl (lv_at hl 0 rfl) ?_
            refine mc_getr E hG t0 mr_60 dX10_readBox_227 (fun oa20 hoa20 => ?_)
            refine lv_iload_n hx hb dX10_readBox_230 rfl (lv_at hl 2 rfl) ?_
            refine lv_bipush (v := 6) hx hb dX10_readBox_231 (by decide) ?_
            refine lv_iadd hx hb dX10_readBox_233 ?_
            refine lv_topi (fun z21 ez21 => ?_)
            have tz21 := tn_add ez21 rfl kI_6 (by omega) (by omega)
            refine lv_iload_n hx hb dX10_readBox_234 rfl (lv_at hl 1 rfl) ?_
            have k22 : rR z21.toNatClampNeg = (-1, 23) := by rw [rR_at (q := (Fa 1 30).toInt) (r := 6) (by omega) (by omega) (by omega) (by omega)]; rfl
            refine mc_iastX E hG hoa20 (by decide) rfl (lo := -1) (hi := 23) (show (0, (rR _).1, (rR _).2) = _ by rw [k22]) (t_in (by omega) (by omega)) (by omega) (by omega) dX10_readBox_235 (fun H locs hG => ?_)
            have hG := kO_set PRd_17 hG
            obtain ⟨F23, eF23⟩ : ∃ Z : mF, Z = up2 F19 17 z21.toNatClampNeg v1 := ⟨_, rfl⟩
            rw [← eF23] at hG
            have hLF23 : LF F23 15 = LF Fa 15 ∧ F23 1 25 = Fa 1 25 := by rw [eF23, LF_up (by decide), up2_ne (by omega)]; exact hLF19
            have hpF23 : (F23 1 26).toInt = (F19 1 26).toInt := by rw [eF23, up2_ne (by omega)]
            have hbF23 : (F23 1 27).toInt = (F19 1 27).toInt := by rw [eF23, up2_ne (by omega)]
            refine lv_aload_n hx hb dX10_readBox_236 rfl (lv_at hl 0 rfl) ?_
            refine lv_dup hx hb dX10_readBox_237 rfl ?_
            refine mc_geti E hG t0 mi_370 dX10_readBox_238 (fun z24 lz24 uz24 qz24 => ?_)
            have wz24 := kq qz24 (PRd_30)
            have gz24 : z24.toInt = (F23 1 30).toInt := by rw [wz24]
            have h30 : z24.toInt = (Fa 1 30).toInt := by rw [wz24, eF23, up2_ne (by omega), eF19, up2_ne (by omega), hB6 1 30 (by omega) (by omega)]
            have hI1 := hI.1
            have hx1 := hRX.1
            refine lv_iconst (v := 1) hx hb dX10_readBox_241 (by decide) ?_
            refine lv_iadd hx hb dX10_readBox_242 ?_
            refine lv_topi (fun z25 ez25 => ?_)
            have tz25 := tn_add ez25 rfl kI_1 (by omega) (by omega)
            refine mc_putX E hG t0 mp_370 (by omega) (by omega) rfl rfl dX10_readBox_243 (fun H locs hG => ?_)
            have hG := kO_set (PRd_30) hG
            obtain ⟨F26, eF26⟩ : ∃ Z : mF, Z = up2 F23 1 30 z25 := ⟨_, rfl⟩
            rw [← eF26] at hG
            have hLF26 : LF F26 15 = LF Fa 15 ∧ F26 1 25 = Fa 1 25 := by rw [eF26, LF_up (by decide), up2_ne (by omega)]; exact hLF23
            have hpF26 : (F26 1 26).toInt = (F23 1 26).toInt := by rw [eF26, up2_ne (by omega)]
            have hbF26 : (F26 1 27).toInt = (F23 1 27).toInt := by rw [eF26, up2_ne (by omega)]
            have h9 : 0 ≤ (F26 1 30).toInt := by rw [eF26, up2_at]; omega
            have h8e : F23 = up2 F19 17 (8 * (Fa 1 30).toInt.toNat + 6) v1 := by rw [show 8 * (Fa 1 30).toInt.toNat + 6 = z21.toNatClampNeg by show _ = z21.toInt.toNat; omega]; exact eF23
            have ho9n : v1.toInt < (Fa 1 30).toInt := by
              rcases hRX.2 with q | q
              · omega
              · have hw9 := hV.2.2.2.2.2.1 ((Fa 1 32).toInt - 1).toNat (by omega)
                rw [← q.2.2.1] at hw9
                omega
            have hBX : BXx (t 3).toInt Fa F26 := BXx_end (RB.frx hB6) (Or.inr ⟨v1.toInt.toNat, _, by omega, by rw [show 8 * v1.toInt.toNat + 7 = z15.toNatClampNeg by show _ = z15.toInt.toNat; omega]; exact eF19⟩) h8e eF26 hwv.symm (by omega) hM
            exact mc_vretX E hr hlk hG rfl ⟨_, rfl, Or.inl (by rw [eF26, up2_ne (by decide), eF23, up2_ne (by omega), eF19, up2_ne (by omega)]; exact hbad), h9, hBX⟩ dX10_readBox_246
        · skip
          have ic4 := tn_eq rfl kI_0 c4
          refine lv_aload_n hx hb dX10_readBox_201 rfl (lv_at hl 0 rfl) ?_
          refine lv_iload_n hx hb dX10_readBox_202 rfl (lv_at hl 2 rfl) ?_
          refine mc_callvX hG (mc_runV (As := [.int v2]) (rest := []) E hG (x_X10_readShare l G σ cu X F h0 v2 t0 (by omega) (by omega) (Fa 1 30).toInt.toNat (by omega) (by omega)) t0 rfl kv_X10_readShare ml_X10_379 ⟨rfl, rfl, Nat.le_of_ble_eq_true rfl, Nat.le_of_ble_eq_true rfl⟩ rfl hl.1 rfl (Nat.le_of_ble_eq_true rfl) ⟨Nat.zero_le _, Nat.zero_le _⟩ dX10_readBox_203) (fun Z H locs eZ pZ hG => ?_)
          obtain ⟨F28, rfl, pF28⟩ := pZ
          clear eZ
          rw [hLF.1, hLF.2] at pF28
          have nF28 := pF28.2
          replace pF28 := pF28.1
          have hLF28 := pF28.hl hLF
          have hnb : ¬ (F 1 27).toInt = 1 := by rw [← wz3]; omega
          have hNB := hex136.1
          have hB6 : RB Fa F28 (Fa 1 30).toInt.toNat := fun c k q1 q2 => (pF28 c k q1 (fun z => q2 ⟨z.1, by omega, by omega⟩)).trans (hNB.1 c k q1 q2)
          have h76 : (F28 17 (8 * (Fa 1 30).toInt.toNat + 7)).toInt = 0 := by rw [pF28 17 _ (by omega) (by omega)]; exact hNB.2.2.1
          have h66 : (F28 17 (8 * (Fa 1 30).toInt.toNat)).toInt = 6 → 1 ≤ (F28 17 (8 * (Fa 1 30).toInt.toNat + 1)).toInt ∧ 1 ≤ (F28 17 (8 * (Fa 1 30).toInt.toNat + 2)).toInt := fun q => by
            rw [pF28 17 _ (by omega) (by omega), hNB.2.1] at q
            have q2 := (hNB.2.2.2.resolve_left hnb) q
            rw [pF28 17 _ (by omega) (by omega), pF28 17 _ (by omega) (by omega)]
            exact ⟨q2.1 (by omega), q2.2 (by omega)⟩
          have hRX := hex136.2.2.2.1
          have hM : BXm (t 3).toInt Fa F28 := BXm_good hex136.2.2.2.2.1 hex136.2.2.2.2.2.2.1 (by omega) (by omega) (by omega) hex136.2.2.2.2.2.2.2 nF28 (by unfold qK; rw [pF28 17 _ (by omega) (by omega)]; exact hNB.2.1) (fun j hj => by unfold qN; rw [pF28 17 _ (by omega) (by omega)])
          have hwv := hex136.2.2.2.2.2.1
          refine lv_iload_n hx hb dX10_readBox_206 rfl (lv_at hl 1 rfl) ?_
          refine lv_if_lt (tgt := 226) hx hb dX10_readBox_207 (by decide) (fun c29 => ?_) (fun c29 => ?_)
          · skip
            have ic29 := tn_lt rfl kI_0 c29
            refine lv_aload_n hx hb dX10_readBox_226 rfl (lv_at hl 0 rfl) ?_
            refine mc_getr E hG t0 mr_60 dX10_readBox_227 (fun oa30 hoa30 => ?_)
            refine lv_iload_n hx hb dX10_readBox_230 rfl (lv_at hl 2 rfl) ?_
            refine lv_bipush (v := 6) hx hb dX10_readBox_231 (by decide) ?_
            refine lv_iadd hx hb dX10_readBox_233 ?_
            refine lv_topi (fun z31 ez31 => ?_)
            have tz31 := tn_add ez31 rfl kI_6 (by omega) (by omega)
            refine lv_iload_n hx hb dX10_readBox_234 rfl (lv_at hl 1 rfl) ?_
            have k32 : rR z31.toNatClampNeg = (-1, 23) := by rw [rR_at (q := (Fa 1 30).toInt) (r := 6) (by omega) (by omega) (by omega) (by omega)]; rfl
            refine mc_iastX E hG hoa30 (by decide) rfl (lo := -1) (hi := 23) (show (0, (rR _).1, (rR _).2) = _ by rw [k32]) (t_in (by omega) (by omega)) (by omega) (by omega) dX10_readBox_235 (fun H locs hG => ?_)
            have hG := kO_set PRd_17 hG
            obtain ⟨F33, eF33⟩ : ∃ Z : mF, Z = up2 F28 17 z31.toNatClampNeg v1 := ⟨_, rfl⟩
            rw [← eF33] at hG
            have hLF33 : LF F33 15 = LF Fa 15 ∧ F33 1 25 = Fa 1 25 := by rw [eF33, LF_up (by decide), up2_ne (by omega)]; exact hLF28
            have hpF33 : (F33 1 26).toInt = (F28 1 26).toInt := by rw [eF33, up2_ne (by omega)]
            have hbF33 : (F33 1 27).toInt = (F28 1 27).toInt := by rw [eF33, up2_ne (by omega)]
            refine lv_aload_n hx hb dX10_readBox_236 rfl (lv_at hl 0 rfl) ?_
            refine lv_dup hx hb dX10_readBox_237 rfl ?_
            refine mc_geti E hG t0 mi_370 dX10_readBox_238 (fun z34 lz34 uz34 qz34 => ?_)
            have wz34 := kq qz34 (PRd_30)
            have gz34 : z34.toInt = (F33 1 30).toInt := by rw [wz34]
            have h30 : z34.toInt = (Fa 1 30).toInt := by rw [wz34, eF33, up2_ne (by omega), hB6 1 30 (by omega) (by omega)]
            have hI1 := hI.1
            have hx1 := hRX.1
            refine lv_iconst (v := 1) hx hb dX10_readBox_241 (by decide) ?_
            refine lv_iadd hx hb dX10_readBox_242 ?_
            refine lv_topi (fun z35 ez35 => ?_)
            have tz35 := tn_add ez35 rfl kI_1 (by omega) (by omega)
            refine mc_putX E hG t0 mp_370 (by omega) (by omega) rfl rfl dX10_readBox_243 (fun H locs hG => ?_)
            have hG := kO_set (PRd_30) hG
            obtain ⟨F36, eF36⟩ : ∃ Z : mF, Z = up2 F33 1 30 z35 := ⟨_, rfl⟩
            rw [← eF36] at hG
            have hLF36 : LF F36 15 = LF Fa 15 ∧ F36 1 25 = Fa 1 25 := by rw [eF36, LF_up (by decide), up2_ne (by omega)]; exact hLF33
            have hpF36 : (F36 1 26).toInt = (F33 1 26).toInt := by rw [eF36, up2_ne (by omega)]
            have hbF36 : (F36 1 27).toInt = (F33 1 27).toInt := by rw [eF36, up2_ne (by omega)]
            have h9 : 0 ≤ (F36 1 30).toInt := by rw [eF36, up2_at]; omega
            have h8e : F33 = up2 F28 17 (8 * (Fa 1 30).toInt.toNat + 6) v1 := by rw [show 8 * (Fa 1 30).toInt.toNat + 6 = z31.toNatClampNeg by show _ = z31.toInt.toNat; omega]; exact eF33
            have hBX : BXx (t 3).toInt Fa F36 := BXx_end (RB.frx hB6) (Or.inl rfl) h8e eF36 hwv.symm (by omega) hM
            exact mc_vretX E hr hlk hG rfl ⟨_, rfl, Or.inr ⟨RA_box (n := (Fa 1 30).toInt.toNat) (c := 0) hV (by omega) (by omega) hB6 h76 h66 (Or.inl ⟨by omega, by rcases hRX.2 with q | q <;> omega, rfl⟩) h8e eF36 (by omega), by rw [eF36, up2_at]; omega⟩, h9, hBX⟩ dX10_readBox_246
          · skip
            have ic29 := tn_nlt rfl kI_0 c29
            refine lv_aload_n hx hb dX10_readBox_210 rfl (lv_at hl 0 rfl) ?_
            refine mc_getr E hG t0 mr_60 dX10_readBox_211 (fun oa37 hoa37 => ?_)
            refine lv_bipush (v := 8) hx hb dX10_readBox_214 (by decide) ?_
            refine lv_iload_n hx hb dX10_readBox_216 rfl (lv_at hl 1 rfl) ?_
            refine lv_imul hx hb dX10_readBox_217 ?_
            refine lv_topi (fun z38 ez38 => ?_)
            have tz38 := tn_mul ez38 kI_8 rfl (by omega) (by omega)
            refine lv_bipush (v := 7) hx hb dX10_readBox_218 (by decide) ?_
            refine lv_iadd hx hb dX10_readBox_220 ?_
            refine lv_topi (fun z39 ez39 => ?_)
            have tz39 := tn_add ez39 rfl kI_7 (by omega) (by omega)
            refine lv_dup2_11 hx hb dX10_readBox_221 rfl rfl ?_
            refine mc_rald E hG hoa37 (t_in (by omega) (by omega)) dX10_readBox_222 (fun z40 lz40 uz40 qz40 => ?_)
            rw [rR_at (q := v1.toInt) (r := 7) (by omega) (by omega) (by omega) (by omega)] at lz40 uz40
            have lz40 : 0 ≤ z40.toInt := lz40
            have uz40 : z40.toInt ≤ 8 := uz40
            have wz40 := kq qz40 PRd_17
            have hc7 : z40.toInt ≤ 7 := by
              rcases hRX.2 with q | q
              · omega
              · have hw9 := hV.2.2.2.2.2.1 ((Fa 1 32).toInt - 1).toNat (by omega)
                rw [← q.2.2.1] at hw9
                rw [wz40, show z39.toNatClampNeg = 8 * v1.toInt.toNat + 7 by show z39.toInt.toNat = _; omega, hB6 17 _ (by omega) (by omega)]
                exact q.2.2.2
            refine lv_iconst (v := 1) hx hb dX10_readBox_223 (by decide) ?_
            refine lv_iadd hx hb dX10_readBox_224 ?_
            refine lv_topi (fun z41 ez41 => ?_)
            have tz41 := tn_add ez41 rfl kI_1 (by omega) (by omega)
            have k42 : rR z39.toNatClampNeg = (0, 8) := by rw [rR_at (q := v1.toInt) (r := 7) (by omega) (by omega) (by omega) (by omega)]; rfl
            refine mc_iastX E hG hoa37 (by decide) rfl (lo := 0) (hi := 8) (show (0, (rR _).1, (rR _).2) = _ by rw [k42]) (t_in (by omega) (by omega)) (by omega) (by omega) dX10_readBox_225 (fun H locs hG => ?_)
            have hG := kO_set PRd_17 hG
            obtain ⟨F43, eF43⟩ : ∃ Z : mF, Z = up2 F28 17 z39.toNatClampNeg z41 := ⟨_, rfl⟩
            rw [← eF43] at hG
            have hLF43 : LF F43 15 = LF Fa 15 ∧ F43 1 25 = Fa 1 25 := by rw [eF43, LF_up (by decide), up2_ne (by omega)]; exact hLF28
            have hpF43 : (F43 1 26).toInt = (F28 1 26).toInt := by rw [eF43, up2_ne (by omega)]
            have hbF43 : (F43 1 27).toInt = (F28 1 27).toInt := by rw [eF43, up2_ne (by omega)]
            refine lv_aload_n hx hb dX10_readBox_226 rfl (lv_at hl 0 rfl) ?_
            refine mc_getr E hG t0 mr_60 dX10_readBox_227 (fun oa44 hoa44 => ?_)
            refine lv_iload_n hx hb dX10_readBox_230 rfl (lv_at hl 2 rfl) ?_
            refine lv_bipush (v := 6) hx hb dX10_readBox_231 (by decide) ?_
            refine lv_iadd hx hb dX10_readBox_233 ?_
            refine lv_topi (fun z45 ez45 => ?_)
            have tz45 := tn_add ez45 rfl kI_6 (by omega) (by omega)
            refine lv_iload_n hx hb dX10_readBox_234 rfl (lv_at hl 1 rfl) ?_
            have k46 : rR z45.toNatClampNeg = (-1, 23) := by rw [rR_at (q := (Fa 1 30).toInt) (r := 6) (by omega) (by omega) (by omega) (by omega)]; rfl
            refine mc_iastX E hG hoa44 (by decide) rfl (lo := -1) (hi := 23) (show (0, (rR _).1, (rR _).2) = _ by rw [k46]) (t_in (by omega) (by omega)) (by omega) (by omega) dX10_readBox_235 (fun H locs hG => ?_)
            have hG := kO_set PRd_17 hG
            obtain ⟨F47, eF47⟩ : ∃ Z : mF, Z = up2 F43 17 z45.toNatClampNeg v1 := ⟨_, rfl⟩
            rw [← eF47] at hG
            have hLF47 : LF F47 15 = LF Fa 15 ∧ F47 1 25 = Fa 1 25 := by rw [eF47, LF_up (by decide), up2_ne (by omega)]; exact hLF43
            have hpF47 : (F47 1 26).toInt = (F43 1 26).toInt := by rw [eF47, up2_ne (by omega)]
            have hbF47 : (F47 1 27).toInt = (F43 1 27).toInt := by rw [eF47, up2_ne (by omega)]
            refine lv_aload_n hx hb dX10_readBox_236 rfl (lv_at hl 0 rfl) ?_
            refine lv_dup hx hb dX10_readBox_237 rfl ?_
            refine mc_geti E hG t0 mi_370 dX10_readBox_238 (fun z48 lz48 uz48 qz48 => ?_)
            have wz48 := kq qz48 (PRd_30)
            have gz48 : z48.toInt = (F47 1 30).toInt := by rw [wz48]
            have h30 : z48.toInt = (Fa 1 30).toInt := by rw [wz48, eF47, up2_ne (by omega), eF43, up2_ne (by omega), hB6 1 30 (by omega) (by omega)]
            have hI1 := hI.1
            have hx1 := hRX.1
            refine lv_iconst (v := 1) hx hb dX10_readBox_241 (by decide) ?_
            refine lv_iadd hx hb dX10_readBox_242 ?_
            refine lv_topi (fun z49 ez49 => ?_)
            have tz49 := tn_add ez49 rfl kI_1 (by omega) (by omega)
            refine mc_putX E hG t0 mp_370 (by omega) (by omega) rfl rfl dX10_readBox_243 (fun H locs hG => ?_)
            have hG := kO_set (PRd_30) hG
            obtain ⟨F50, eF50⟩ : ∃ Z : mF, Z = up2 F47 1 30 z49 := ⟨_, rfl⟩
            rw [← eF50] at hG
            have hLF50 : LF F50 15 = LF Fa 15 ∧ F50 1 25 = Fa 1 25 := by rw [eF50, LF_up (by decide), up2_ne (by omega)]; exact hLF47
            have hpF50 : (F50 1 26).toInt = (F47 1 26).toInt := by rw [eF50, up2_ne (by omega)]
            have hbF50 : (F50 1 27).toInt = (F47 1 27).toInt := by rw [eF50, up2_ne (by omega)]
            have h9 : 0 ≤ (F50 1 30).toInt := by rw [eF50, up2_at]; omega
            have h8e : F47 = up2 F43 17 (8 * (Fa 1 30).toInt.toNat + 6) v1 := by rw [show 8 * (Fa 1 30).toInt.toNat + 6 = z45.toNatClampNeg by show _ = z45.toInt.toNat; omega]; exact eF47
            have ho9n : v1.toInt < (Fa 1 30).toInt := by
              rcases hRX.2 with q | q
              · omega
              · have hw9 := hV.2.2.2.2.2.1 ((Fa 1 32).toInt - 1).toNat (by omega)
                rw [← q.2.2.1] at hw9
                omega
            have hBX : BXx (t 3).toInt Fa F50 := BXx_end (RB.frx hB6) (Or.inr ⟨v1.toInt.toNat, _, by omega, by rw [show 8 * v1.toInt.toNat + 7 = z39.toNatClampNeg by show _ = z39.toInt.toNat; omega]; exact eF43⟩) h8e eF50 hwv.symm (by omega) hM
            exact mc_vretX E hr hlk hG rfl ⟨_, rfl, Or.inr ⟨RA_box (n := (Fa 1 30).toInt.toNat) hV (by omega) (by omega) hB6 h76 h66 (Or.inr ⟨by omega, by rcases hRX.2 with q | q <;> omega, by rcases hRX.2 with q | q; omega; exact q.2.2.1, by rw [show 8 * v1.toInt.toNat + 7 = z39.toNatClampNeg by show _ = z39.toInt.toNat; omega]; exact eF43, by rw [show 8 * v1.toInt.toNat + 7 = z39.toNatClampNeg by show _ = z39.toInt.toNat; omega, ← wz40]; omega, by omega⟩) h8e eF50 (by omega), by rw [eF50, up2_at]; omega⟩, h9, hBX⟩ dX10_readBox_246
      · skip
        have ic2 := tn_nle rfl rfl c2
        refine lv_aload_n hx hb dX10_readBox_145 rfl (lv_at hl 0 rfl) ?_
        refine mc_geti E hG t0 mi_359 dX10_readBox_146 (fun z51 lz51 uz51 qz51 => ?_)
        have wz51 := kq qz51 (PRd_27)
        have gz51 : z51.toInt = (F 1 27).toInt := by rw [wz51]
        have hbz : z51.toInt = (F 1 27).toInt := by rw [wz51]
        refine lv_if_ne (tgt := 194) hx hb dX10_readBox_149 (by decide) (fun c52 => ?_) (fun c52 => ?_)
        · skip
          have ic52 := tn_ne rfl kI_0 c52
          refine lv_aload_n hx hb dX10_readBox_194 rfl (lv_at hl 0 rfl) ?_
          refine mc_geti E hG t0 mi_359 dX10_readBox_195 (fun z53 lz53 uz53 qz53 => ?_)
          have wz53 := kq qz53 (PRd_27)
          have gz53 : z53.toInt = (F 1 27).toInt := by rw [wz53]
          have hbz2 : z53.toInt = (F 1 27).toInt := by rw [wz53]
          refine lv_if_ne (tgt := 206) hx hb dX10_readBox_198 (by decide) (fun c54 => ?_) (fun c54 => ?_)
          · skip
            have ic54 := tn_ne rfl kI_0 c54
            have hbad : ¬ (F 1 27).toInt = 0 := by rw [← wz53]; omega
            have hB6 := hex136.1.1
            have hRX := hex136.2.2.2.1
            have hM : BXm (t 3).toInt Fa F := BXm_bad hex136.2.2.2.2.1 hex136.2.2.2.2.2.2.1 hbad
            have hwv := hex136.2.2.2.2.2.1
            refine lv_iload_n hx hb dX10_readBox_206 rfl (lv_at hl 1 rfl) ?_
            refine lv_if_lt (tgt := 226) hx hb dX10_readBox_207 (by decide) (fun c55 => ?_) (fun c55 => ?_)
            · skip
              have ic55 := tn_lt rfl kI_0 c55
              refine lv_aload_n hx hb dX10_readBox_226 rfl (lv_at hl 0 rfl) ?_
              refine mc_getr E hG t0 mr_60 dX10_readBox_227 (fun oa56 hoa56 => ?_)
              refine lv_iload_n hx hb dX10_readBox_230 rfl (lv_at hl 2 rfl) ?_
              refine lv_bipush (v := 6) hx hb dX10_readBox_231 (by decide) ?_
              refine lv_iadd hx hb dX10_readBox_233 ?_
              refine lv_topi (fun z57 ez57 => ?_)
              have tz57 := tn_add ez57 rfl kI_6 (by omega) (by omega)
              refine lv_iload_n hx hb dX10_readBox_234 rfl (lv_at hl 1 rfl) ?_
              have k58 : rR z57.toNatClampNeg = (-1, 23) := by rw [rR_at (q := (Fa 1 30).toInt) (r := 6) (by omega) (by omega) (by omega) (by omega)]; rfl
              refine mc_iastX E hG hoa56 (by decide) rfl (lo := -1) (hi := 23) (show (0, (rR _).1, (rR _).2) = _ by rw [k58]) (t_in (by omega) (by omega)) (by omega) (by omega) dX10_readBox_235 (fun H locs hG => ?_)
              have hG := kO_set PRd_17 hG
              obtain ⟨F59, eF59⟩ : ∃ Z : mF, Z = up2 F 17 z57.toNatClampNeg v1 := ⟨_, rfl⟩
              rw [← eF59] at hG
              have hLF59 : LF F59 15 = LF Fa 15 ∧ F59 1 25 = Fa 1 25 := by rw [eF59, LF_up (by decide), up2_ne (by omega)]; exact hLF
              have hpF59 : (F59 1 26).toInt = (F 1 26).toInt := by rw [eF59, up2_ne (by omega)]
              have hbF59 : (F59 1 27).toInt = (F 1 27).toInt := by rw [eF59, up2_ne (by omega)]
              refine lv_aload_n hx hb dX10_readBox_236 rfl (lv_at hl 0 rfl) ?_
              refine lv_dup hx hb dX10_readBox_237 rfl ?_
              refine mc_geti E hG t0 mi_370 dX10_readBox_238 (fun z60 lz60 uz60 qz60 => ?_)
              have wz60 := kq qz60 (PRd_30)
              have gz60 : z60.toInt = (F59 1 30).toInt := by rw [wz60]
              have h30 : z60.toInt = (Fa 1 30).toInt := by rw [wz60, eF59, up2_ne (by omega), hB6 1 30 (by omega) (by omega)]
              have hI1 := hI.1
              have hx1 := hRX.1
              refine lv_iconst (v := 1) hx hb dX10_readBox_241 (by decide) ?_
              refine lv_iadd hx hb dX10_readBox_242 ?_
              refine lv_topi (fun z61 ez61 => ?_)
              have tz61 := tn_add ez61 rfl kI_1 (by omega) (by omega)
              refine mc_putX E hG t0 mp_370 (by omega) (by omega) rfl rfl dX10_readBox_243 (fun H locs hG => ?_)
              have hG := kO_set (PRd_30) hG
              obtain ⟨F62, eF62⟩ : ∃ Z : mF, Z = up2 F59 1 30 z61 := ⟨_, rfl⟩
              rw [← eF62] at hG
              have hLF62 : LF F62 15 = LF Fa 15 ∧ F62 1 25 = Fa 1 25 := by rw [eF62, LF_up (by decide), up2_ne (by omega)]; exact hLF59
              have hpF62 : (F62 1 26).toInt = (F59 1 26).toInt := by rw [eF62, up2_ne (by omega)]
              have hbF62 : (F62 1 27).toInt = (F59 1 27).toInt := by rw [eF62, up2_ne (by omega)]
              have h9 : 0 ≤ (F62 1 30).toInt := by rw [eF62, up2_at]; omega
              have h8e : F59 = up2 F 17 (8 * (Fa 1 30).toInt.toNat + 6) v1 := by rw [show 8 * (Fa 1 30).toInt.toNat + 6 = z57.toNatClampNeg by show _ = z57.toInt.toNat; omega]; exact eF59
              have hBX : BXx (t 3).toInt Fa F62 := BXx_end (RB.frx hB6) (Or.inl rfl) h8e eF62 hwv.symm (by omega) hM
              exact mc_vretX E hr hlk hG rfl ⟨_, rfl, Or.inl (by rw [eF62, up2_ne (by decide), eF59, up2_ne (by omega)]; exact hbad), h9, hBX⟩ dX10_readBox_246
            · skip
              have ic55 := tn_nlt rfl kI_0 c55
              refine lv_aload_n hx hb dX10_readBox_210 rfl (lv_at hl 0 rfl) ?_
              refine mc_getr E hG t0 mr_60 dX10_readBox_211 (fun oa63 hoa63 => ?_)
              refine lv_bipush (v := 8) hx hb dX10_readBox_214 (by decide) ?_
              refine lv_iload_n hx hb dX10_readBox_216 rfl (lv_at hl 1 rfl) ?_
              refine lv_imul hx hb dX10_readBox_217 ?_
              refine lv_topi (fun z64 ez64 => ?_)
              have tz64 := tn_mul ez64 kI_8 rfl (by omega) (by omega)
              refine lv_bipush (v := 7) hx hb dX10_readBox_218 (by decide) ?_
              refine lv_iadd hx hb dX10_readBox_220 ?_
              refine lv_topi (fun z65 ez65 => ?_)
              have tz65 := tn_add ez65 rfl kI_7 (by omega) (by omega)
              refine lv_dup2_11 hx hb dX10_readBox_221 rfl rfl ?_
              refine mc_rald E hG hoa63 (t_in (by omega) (by omega)) dX10_readBox_222 (fun z66 lz66 uz66 qz66 => ?_)
              rw [rR_at (q := v1.toInt) (r := 7) (by omega) (by omega) (by omega) (by omega)] at lz66 uz66
              have lz66 : 0 ≤ z66.toInt := lz66
              have uz66 : z66.toInt ≤ 8 := uz66
              have wz66 := kq qz66 PRd_17
              have hc7 : z66.toInt ≤ 7 := by
                rcases hRX.2 with q | q
                · omega
                · have hw9 := hV.2.2.2.2.2.1 ((Fa 1 32).toInt - 1).toNat (by omega)
                  rw [← q.2.2.1] at hw9
                  rw [wz66, show z65.toNatClampNeg = 8 * v1.toInt.toNat + 7 by show z65.toInt.toNat = _; omega, hB6 17 _ (by omega) (by omega)]
                  exact q.2.2.2
              refine lv_iconst (v := 1) hx hb dX10_readBox_223 (by decide) ?_
              refine lv_iadd hx hb dX10_readBox_224 ?_
              refine lv_topi (fun z67 ez67 => ?_)
              have tz67 := tn_add ez67 rfl kI_1 (by omega) (by omega)
              have k68 : rR z65.toNatClampNeg = (0, 8) := by rw [rR_at (q := v1.toInt) (r := 7) (by omega) (by omega) (by omega) (by omega)]; rfl
              refine mc_iastX E hG hoa63 (by decide) rfl (lo := 0) (hi := 8) (show (0, (rR _).1, (rR _).2) = _ by rw [k68]) (t_in (by omega) (by omega)) (by omega) (by omega) dX10_readBox_225 (fun H locs hG => ?_)
              have hG := kO_set PRd_17 hG
              obtain ⟨F69, eF69⟩ : ∃ Z : mF, Z = up2 F 17 z65.toNatClampNeg z67 := ⟨_, rfl⟩
              rw [← eF69] at hG
              have hLF69 : LF F69 15 = LF Fa 15 ∧ F69 1 25 = Fa 1 25 := by rw [eF69, LF_up (by decide), up2_ne (by omega)]; exact hLF
              have hpF69 : (F69 1 26).toInt = (F 1 26).toInt := by rw [eF69, up2_ne (by omega)]
              have hbF69 : (F69 1 27).toInt = (F 1 27).toInt := by rw [eF69, up2_ne (by omega)]
              refine lv_aload_n hx hb dX10_readBox_226 rfl (lv_at hl 0 rfl) ?_
              refine mc_getr E hG t0 mr_60 dX10_readBox_227 (fun oa70 hoa70 => ?_)
              refine lv_iload_n hx hb dX10_readBox_230 rfl (lv_at hl 2 rfl) ?_
              refine lv_bipush (v := 6) hx hb dX10_readBox_231 (by decide) ?_
              refine lv_iadd hx hb dX10_readBox_233 ?_
              refine lv_topi (fun z71 ez71 => ?_)
              have tz71 := tn_add ez71 rfl kI_6 (by omega) (by omega)
              refine lv_iload_n hx hb dX10_readBox_234 rfl (lv_at hl 1 rfl) ?_
              have k72 : rR z71.toNatClampNeg = (-1, 23) := by rw [rR_at (q := (Fa 1 30).toInt) (r := 6) (by omega) (by omega) (by omega) (by omega)]; rfl
              refine mc_iastX E hG hoa70 (by decide) rfl (lo := -1) (hi := 23) (show (0, (rR _).1, (rR _).2) = _ by rw [k72]) (t_in (by omega) (by omega)) (by omega) (by omega) dX10_readBox_235 (fun H locs hG => ?_)
              have hG := kO_set PRd_17 hG
              obtain ⟨F73, eF73⟩ : ∃ Z : mF, Z = up2 F69 17 z71.toNatClampNeg v1 := ⟨_, rfl⟩
              rw [← eF73] at hG
              have hLF73 : LF F73 15 = LF Fa 15 ∧ F73 1 25 = Fa 1 25 := by rw [eF73, LF_up (by decide), up2_ne (by omega)]; exact hLF69
              have hpF73 : (F73 1 26).toInt = (F69 1 26).toInt := by rw [eF73, up2_ne (by omega)]
              have hbF73 : (F73 1 27).toInt = (F69 1 27).toInt := by rw [eF73, up2_ne (by omega)]
              refine lv_aload_n hx hb dX10_readBox_236 rfl (lv_at hl 0 rfl) ?_
              refine lv_dup hx hb dX10_readBox_237 rfl ?_
              refine mc_geti E hG t0 mi_370 dX10_readBox_238 (fun z74 lz74 uz74 qz74 => ?_)
              have wz74 := kq qz74 (PRd_30)
              have gz74 : z74.toInt = (F73 1 30).toInt := by rw [wz74]
              have h30 : z74.toInt = (Fa 1 30).toInt := by rw [wz74, eF73, up2_ne (by omega), eF69, up2_ne (by omega), hB6 1 30 (by omega) (by omega)]
              have hI1 := hI.1
              have hx1 := hRX.1
              refine lv_iconst (v := 1) hx hb dX10_readBox_241 (by decide) ?_
              refine lv_iadd hx hb dX10_readBox_242 ?_
              refine lv_topi (fun z75 ez75 => ?_)
              have tz75 := tn_add ez75 rfl kI_1 (by omega) (by omega)
              refine mc_putX E hG t0 mp_370 (by omega) (by omega) rfl rfl dX10_readBox_243 (fun H locs hG => ?_)
              have hG := kO_set (PRd_30) hG
              obtain ⟨F76, eF76⟩ : ∃ Z : mF, Z = up2 F73 1 30 z75 := ⟨_, rfl⟩
              rw [← eF76] at hG
              have hLF76 : LF F76 15 = LF Fa 15 ∧ F76 1 25 = Fa 1 25 := by rw [eF76, LF_up (by decide), up2_ne (by omega)]; exact hLF73
              have hpF76 : (F76 1 26).toInt = (F73 1 26).toInt := by rw [eF76, up2_ne (by omega)]
              have hbF76 : (F76 1 27).toInt = (F73 1 27).toInt := by rw [eF76, up2_ne (by omega)]
              have h9 : 0 ≤ (F76 1 30).toInt := by rw [eF76, up2_at]; omega
              have h8e : F73 = up2 F69 17 (8 * (Fa 1 30).toInt.toNat + 6) v1 := by rw [show 8 * (Fa 1 30).toInt.toNat + 6 = z71.toNatClampNeg by show _ = z71.toInt.toNat; omega]; exact eF73
              have ho9n : v1.toInt < (Fa 1 30).toInt := by
                rcases hRX.2 with q | q
                · omega
                · have hw9 := hV.2.2.2.2.2.1 ((Fa 1 32).toInt - 1).toNat (by omega)
                  rw [← q.2.2.1] at hw9
                  omega
              have hBX : BXx (t 3).toInt Fa F76 := BXx_end (RB.frx hB6) (Or.inr ⟨v1.toInt.toNat, _, by omega, by rw [show 8 * v1.toInt.toNat + 7 = z65.toNatClampNeg by show _ = z65.toInt.toNat; omega]; exact eF69⟩) h8e eF76 hwv.symm (by omega) hM
              exact mc_vretX E hr hlk hG rfl ⟨_, rfl, Or.inl (by rw [eF76, up2_ne (by decide), eF73, up2_ne (by omega), eF69, up2_ne (by omega)]; exact hbad), h9, hBX⟩ dX10_readBox_246
          · skip
            have ic54 := tn_eq rfl kI_0 c54
            refine lv_aload_n hx hb dX10_readBox_201 rfl (lv_at hl 0 rfl) ?_
            refine lv_iload_n hx hb dX10_readBox_202 rfl (lv_at hl 2 rfl) ?_
            refine mc_callvX hG (mc_runV (As := [.int v2]) (rest := []) E hG (x_X10_readShare l G σ cu X F h0 v2 t0 (by omega) (by omega) (Fa 1 30).toInt.toNat (by omega) (by omega)) t0 rfl kv_X10_readShare ml_X10_379 ⟨rfl, rfl, Nat.le_of_ble_eq_true rfl, Nat.le_of_ble_eq_true rfl⟩ rfl hl.1 rfl (Nat.le_of_ble_eq_true rfl) ⟨Nat.zero_le _, Nat.zero_le _⟩ dX10_readBox_203) (fun Z H locs eZ pZ hG => ?_)
            obtain ⟨F78, rfl, pF78⟩ := pZ
            clear eZ
            rw [hLF.1, hLF.2] at pF78
            have nF78 := pF78.2
            replace pF78 := pF78.1
            have hLF78 := pF78.hl hLF
            have hnb : ¬ (F 1 27).toInt = 1 := by rw [← wz53]; omega
            have hNB := hex136.1
            have hB6 : RB Fa F78 (Fa 1 30).toInt.toNat := fun c k q1 q2 => (pF78 c k q1 (fun z => q2 ⟨z.1, by omega, by omega⟩)).trans (hNB.1 c k q1 q2)
            have h76 : (F78 17 (8 * (Fa 1 30).toInt.toNat + 7)).toInt = 0 := by rw [pF78 17 _ (by omega) (by omega)]; exact hNB.2.2.1
            have h66 : (F78 17 (8 * (Fa 1 30).toInt.toNat)).toInt = 6 → 1 ≤ (F78 17 (8 * (Fa 1 30).toInt.toNat + 1)).toInt ∧ 1 ≤ (F78 17 (8 * (Fa 1 30).toInt.toNat + 2)).toInt := fun q => by
              rw [pF78 17 _ (by omega) (by omega), hNB.2.1] at q
              have q2 := (hNB.2.2.2.resolve_left hnb) q
              rw [pF78 17 _ (by omega) (by omega), pF78 17 _ (by omega) (by omega)]
              exact ⟨q2.1 (by omega), q2.2 (by omega)⟩
            have hRX := hex136.2.2.2.1
            have hM : BXm (t 3).toInt Fa F78 := BXm_good hex136.2.2.2.2.1 hex136.2.2.2.2.2.2.1 (by omega) (by omega) (by omega) hex136.2.2.2.2.2.2.2 nF78 (by unfold qK; rw [pF78 17 _ (by omega) (by omega)]; exact hNB.2.1) (fun j hj => by unfold qN; rw [pF78 17 _ (by omega) (by omega)])
            have hwv := hex136.2.2.2.2.2.1
            refine lv_iload_n hx hb dX10_readBox_206 rfl (lv_at hl 1 rfl) ?_
            refine lv_if_lt (tgt := 226) hx hb dX10_readBox_207 (by decide) (fun c79 => ?_) (fun c79 => ?_)
            · skip
              have ic79 := tn_lt rfl kI_0 c79
              refine lv_aload_n hx hb dX10_readBox_226 rfl (lv_at hl 0 rfl) ?_
              refine mc_getr E hG t0 mr_60 dX10_readBox_227 (fun oa80 hoa80 => ?_)
              refine lv_iload_n hx hb dX10_readBox_230 rfl (lv_at hl 2 rfl) ?_
              refine lv_bipush (v := 6) hx hb dX10_readBox_231 (by decide) ?_
              refine lv_iadd hx hb dX10_readBox_233 ?_
              refine lv_topi (fun z81 ez81 => ?_)
              have tz81 := tn_add ez81 rfl kI_6 (by omega) (by omega)
              refine lv_iload_n hx hb dX10_readBox_234 rfl (lv_at hl 1 rfl) ?_
              have k82 : rR z81.toNatClampNeg = (-1, 23) := by rw [rR_at (q := (Fa 1 30).toInt) (r := 6) (by omega) (by omega) (by omega) (by omega)]; rfl
              refine mc_iastX E hG hoa80 (by decide) rfl (lo := -1) (hi := 23) (show (0, (rR _).1, (rR _).2) = _ by rw [k82]) (t_in (by omega) (by omega)) (by omega) (by omega) dX10_readBox_235 (fun H locs hG => ?_)
              have hG := kO_set PRd_17 hG
              obtain ⟨F83, eF83⟩ : ∃ Z : mF, Z = up2 F78 17 z81.toNatClampNeg v1 := ⟨_, rfl⟩
              rw [← eF83] at hG
              have hLF83 : LF F83 15 = LF Fa 15 ∧ F83 1 25 = Fa 1 25 := by rw [eF83, LF_up (by decide), up2_ne (by omega)]; exact hLF78
              have hpF83 : (F83 1 26).toInt = (F78 1 26).toInt := by rw [eF83, up2_ne (by omega)]
              have hbF83 : (F83 1 27).toInt = (F78 1 27).toInt := by rw [eF83, up2_ne (by omega)]
              refine lv_aload_n hx hb dX10_readBox_236 rfl (lv_at hl 0 rfl) ?_
              refine lv_dup hx hb dX10_readBox_237 rfl ?_
              refine mc_geti E hG t0 mi_370 dX10_readBox_238 (fun z84 lz84 uz84 qz84 => ?_)
              have wz84 := kq qz84 (PRd_30)
              have gz84 : z84.toInt = (F83 1 30).toInt := by rw [wz84]
              have h30 : z84.toInt = (Fa 1 30).toInt := by rw [wz84, eF83, up2_ne (by omega), hB6 1 30 (by omega) (by omega)]
              have hI1 := hI.1
              have hx1 := hRX.1
              refine lv_iconst (v := 1) hx hb dX10_readBox_241 (by decide) ?_
              refine lv_iadd hx hb dX10_readBox_242 ?_
              refine lv_topi (fun z85 ez85 => ?_)
              have tz85 := tn_add ez85 rfl kI_1 (by omega) (by omega)
              refine mc_putX E hG t0 mp_370 (by omega) (by omega) rfl rfl dX10_readBox_243 (fun H locs hG => ?_)
              have hG := kO_set (PRd_30) hG
              obtain ⟨F86, eF86⟩ : ∃ Z : mF, Z = up2 F83 1 30 z85 := ⟨_, rfl⟩
              rw [← eF86] at hG
              have hLF86 : LF F86 15 = LF Fa 15 ∧ F86 1 25 = Fa 1 25 := by rw [eF86, LF_up (by decide), up2_ne (by omega)]; exact hLF83
              have hpF86 : (F86 1 26).toInt = (F83 1 26).toInt := by rw [eF86, up2_ne (by omega)]
              have hbF86 : (F86 1 27).toInt = (F83 1 27).toInt := by rw [eF86, up2_ne (by omega)]
              have h9 : 0 ≤ (F86 1 30).toInt := by rw [eF86, up2_at]; omega
              have h8e : F83 = up2 F78 17 (8 * (Fa 1 30).toInt.toNat + 6) v1 := by rw [show 8 * (Fa 1 30).toInt.toNat + 6 = z81.toNatClampNeg by show _ = z81.toInt.toNat; omega]; exact eF83
              have hBX : BXx (t 3).toInt Fa F86 := BXx_end (RB.frx hB6) (Or.inl rfl) h8e eF86 hwv.symm (by omega) hM
              exact mc_vretX E hr hlk hG rfl ⟨_, rfl, Or.inr ⟨RA_box (n := (Fa 1 30).toInt.toNat) (c := 0) hV (by omega) (by omega) hB6 h76 h66 (Or.inl ⟨by omega, by rcases hRX.2 with q | q <;> omega, rfl⟩) h8e eF86 (by omega), by rw [eF86, up2_at]; omega⟩, h9, hBX⟩ dX10_readBox_246
            · skip
              have ic79 := tn_nlt rfl kI_0 c79
              refine lv_aload_n hx hb dX10_readBox_210 rfl (lv_at hl 0 rfl) ?_
              refine mc_getr E hG t0 mr_60 dX10_readBox_211 (fun oa87 hoa87 => ?_)
              refine lv_bipush (v := 8) hx hb dX10_readBox_214 (by decide) ?_
              refine lv_iload_n hx hb dX10_readBox_216 rfl (lv_at hl 1 rfl) ?_
              refine lv_imul hx hb dX10_readBox_217 ?_
              refine lv_topi (fun z88 ez88 => ?_)
              have tz88 := tn_mul ez88 kI_8 rfl (by omega) (by omega)
              refine lv_bipush (v := 7) hx hb dX10_readBox_218 (by decide) ?_
              refine lv_iadd hx hb dX10_readBox_220 ?_
              refine lv_topi (fun z89 ez89 => ?_)
              have tz89 := tn_add ez89 rfl kI_7 (by omega) (by omega)
              refine lv_dup2_11 hx hb dX10_readBox_221 rfl rfl ?_
              refine mc_rald E hG hoa87 (t_in (by omega) (by omega)) dX10_readBox_222 (fun z90 lz90 uz90 qz90 => ?_)
              rw [rR_at (q := v1.toInt) (r := 7) (by omega) (by omega) (by omega) (by omega)] at lz90 uz90
              have lz90 : 0 ≤ z90.toInt := lz90
              have uz90 : z90.toInt ≤ 8 := uz90
              have wz90 := kq qz90 PRd_17
              have hc7 : z90.toInt ≤ 7 := by
                rcases hRX.2 with q | q
                · omega
                · have hw9 := hV.2.2.2.2.2.1 ((Fa 1 32).toInt - 1).toNat (by omega)
                  rw [← q.2.2.1] at hw9
                  rw [wz90, show z89.toNatClampNeg = 8 * v1.toInt.toNat + 7 by show z89.toInt.toNat = _; omega, hB6 17 _ (by omega) (by omega)]
                  exact q.2.2.2
              refine lv_iconst (v := 1) hx hb dX10_readBox_223 (by decide) ?_
              refine lv_iadd hx hb dX10_readBox_224 ?_
              refine lv_topi (fun z91 ez91 => ?_)
              have tz91 := tn_add ez91 rfl kI_1 (by omega) (by omega)
              have k92 : rR z89.toNatClampNeg = (0, 8) := by rw [rR_at (q := v1.toInt) (r := 7) (by omega) (by omega) (by omega) (by omega)]; rfl
              refine mc_iastX E hG hoa87 (by decide) rfl (lo := 0) (hi := 8) (show (0, (rR _).1, (rR _).2) = _ by rw [k92]) (t_in (by omega) (by omega)) (by omega) (by omega) dX10_readBox_225 (fun H locs hG => ?_)
              have hG := kO_set PRd_17 hG
              obtain ⟨F93, eF93⟩ : ∃ Z : mF, Z = up2 F78 17 z89.toNatClampNeg z91 := ⟨_, rfl⟩
              rw [← eF93] at hG
              have hLF93 : LF F93 15 = LF Fa 15 ∧ F93 1 25 = Fa 1 25 := by rw [eF93, LF_up (by decide), up2_ne (by omega)]; exact hLF78
              have hpF93 : (F93 1 26).toInt = (F78 1 26).toInt := by rw [eF93, up2_ne (by omega)]
              have hbF93 : (F93 1 27).toInt = (F78 1 27).toInt := by rw [eF93, up2_ne (by omega)]
              refine lv_aload_n hx hb dX10_readBox_226 rfl (lv_at hl 0 rfl) ?_
              refine mc_getr E hG t0 mr_60 dX10_readBox_227 (fun oa94 hoa94 => ?_)
              refine lv_iload_n hx hb dX10_readBox_230 rfl (lv_at hl 2 rfl) ?_
              refine lv_bipush (v := 6) hx hb dX10_readBox_231 (by decide) ?_
              refine lv_iadd hx hb dX10_readBox_233 ?_
              refine lv_topi (fun z95 ez95 => ?_)
              have tz95 := tn_add ez95 rfl kI_6 (by omega) (by omega)
              refine lv_iload_n hx hb dX10_readBox_234 rfl (lv_at hl 1 rfl) ?_
              have k96 : rR z95.toNatClampNeg = (-1, 23) := by rw [rR_at (q := (Fa 1 30).toInt) (r := 6) (by omega) (by omega) (by omega) (by omega)]; rfl
              refine mc_iastX E hG hoa94 (by decide) rfl (lo := -1) (hi := 23) (show (0, (rR _).1, (rR _).2) = _ by rw [k96]) (t_in (by omega) (by omega)) (by omega) (by omega) dX10_readBox_235 (fun H locs hG => ?_)
              have hG := kO_set PRd_17 hG
              obtain ⟨F97, eF97⟩ : ∃ Z : mF, Z = up2 F93 17 z95.toNatClampNeg v1 := ⟨_, rfl⟩
              rw [← eF97] at hG
              have hLF97 : LF F97 15 = LF Fa 15 ∧ F97 1 25 = Fa 1 25 := by rw [eF97, LF_up (by decide), up2_ne (by omega)]; exact hLF93
              have hpF97 : (F97 1 26).toInt = (F93 1 26).toInt := by rw [eF97, up2_ne (by omega)]
              have hbF97 : (F97 1 27).toInt = (F93 1 27).toInt := by rw [eF97, up2_ne (by omega)]
              refine lv_aload_n hx hb dX10_readBox_236 rfl (lv_at hl 0 rfl) ?_
              refine lv_dup hx hb dX10_readBox_237 rfl ?_
              refine mc_geti E hG t0 mi_370 dX10_readBox_238 (fun z98 lz98 uz98 qz98 => ?_)
              have wz98 := kq qz98 (PRd_30)
              have gz98 : z98.toInt = (F97 1 30).toInt := by rw [wz98]
              have h30 : z98.toInt = (Fa 1 30).toInt := by rw [wz98, eF97, up2_ne (by omega), eF93, up2_ne (by omega), hB6 1 30 (by omega) (by omega)]
              have hI1 := hI.1
              have hx1 := hRX.1
              refine lv_iconst (v := 1) hx hb dX10_readBox_241 (by decide) ?_
              refine lv_iadd hx hb dX10_readBox_242 ?_
              refine lv_topi (fun z99 ez99 => ?_)
              have tz99 := tn_add ez99 rfl kI_1 (by omega) (by omega)
              refine mc_putX E hG t0 mp_370 (by omega) (by omega) rfl rfl dX10_readBox_243 (fun H locs hG => ?_)
              have hG := kO_set (PRd_30) hG
              obtain ⟨F100, eF100⟩ : ∃ Z : mF, Z = up2 F97 1 30 z99 := ⟨_, rfl⟩
              rw [← eF100] at hG
              have hLF100 : LF F100 15 = LF Fa 15 ∧ F100 1 25 = Fa 1 25 := by rw [eF100, LF_up (by decide), up2_ne (by omega)]; exact hLF97
              have hpF100 : (F100 1 26).toInt = (F97 1 26).toInt := by rw [eF100, up2_ne (by omega)]
              have hbF100 : (F100 1 27).toInt = (F97 1 27).toInt := by rw [eF100, up2_ne (by omega)]
              have h9 : 0 ≤ (F100 1 30).toInt := by rw [eF100, up2_at]; omega
              have h8e : F97 = up2 F93 17 (8 * (Fa 1 30).toInt.toNat + 6) v1 := by rw [show 8 * (Fa 1 30).toInt.toNat + 6 = z95.toNatClampNeg by show _ = z95.toInt.toNat; omega]; exact eF97
              have ho9n : v1.toInt < (Fa 1 30).toInt := by
                rcases hRX.2 with q | q
                · omega
                · have hw9 := hV.2.2.2.2.2.1 ((Fa 1 32).toInt - 1).toNat (by omega)
                  rw [← q.2.2.1] at hw9
                  omega
              have hBX : BXx (t 3).toInt Fa F100 := BXx_end (RB.frx hB6) (Or.inr ⟨v1.toInt.toNat, _, by omega, by rw [show 8 * v1.toInt.toNat + 7 = z89.toNatClampNeg by show _ = z89.toInt.toNat; omega]; exact eF93⟩) h8e eF100 hwv.symm (by omega) hM
              exact mc_vretX E hr hlk hG rfl ⟨_, rfl, Or.inr ⟨RA_box (n := (Fa 1 30).toInt.toNat) hV (by omega) (by omega) hB6 h76 h66 (Or.inr ⟨by omega, by rcases hRX.2 with q | q <;> omega, by rcases hRX.2 with q | q; omega; exact q.2.2.1, by rw [show 8 * v1.toInt.toNat + 7 = z89.toNatClampNeg by show _ = z89.toInt.toNat; omega]; exact eF93, by rw [show 8 * v1.toInt.toNat + 7 = z89.toNatClampNeg by show _ = z89.toInt.toNat; omega, ← wz90]; omega, by omega⟩) h8e eF100 (by omega), by rw [eF100, up2_at]; omega⟩, h9, hBX⟩ dX10_readBox_246
        · skip
          have ic52 := tn_eq rfl kI_0 c52
          refine lv_aload_n hx hb dX10_readBox_152 rfl (lv_at hl 0 rfl) ?_
          refine mc_getr E hG t0 mr_60 dX10_readBox_153 (fun oa101 hoa101 => ?_)
          refine lv_iload_n hx hb dX10_readBox_156 rfl (lv_at hl 2 rfl) ?_
          refine lv_iconst (v := 1) hx hb dX10_readBox_157 (by decide) ?_
          refine lv_iadd hx hb dX10_readBox_158 ?_
          refine lv_topi (fun z102 ez102 => ?_)
          have tz102 := tn_add ez102 rfl kI_1 (by omega) (by omega)
          refine lv_iload hx hb dX10_readBox_159 (lv_at hl 4 rfl) ?_
          refine lv_iadd hx hb dX10_readBox_161 ?_
          refine lv_topi (fun z103 ez103 => ?_)
          have tz103 := tn_add ez103 rfl rfl (by omega) (by omega)
          refine lv_aload_n hx hb dX10_readBox_162 rfl (lv_at hl 0 rfl) ?_
          refine lv_iload_n hx hb dX10_readBox_163 rfl (lv_at hl 3 rfl) ?_
          refine lv_iload hx hb dX10_readBox_164 (lv_at hl 4 rfl) ?_
          refine lv_iload hx hb dX10_readBox_166 (lv_at hl 4 rfl) ?_
          refine lv_if_le (tgt := 183) hx hb dX10_readBox_168 (by decide) (fun c104 => ?_) (fun c104 => ?_)
          · skip
            have ic104 := tn_le rfl kI_0 c104
            refine lv_iconst (v := 0) hx hb dX10_readBox_183 (by decide) ?_
            refine mc_calliX hG (mc_runV (As := [.int v3, .int v4, .int 0]) (rest := [.int z103, .ref oa101]) E hG (x_X10_readNumber l G σ cu X F h0 v3 v4 (0 : Int32) t0 (by omega) (by omega) (by omega) (by omega)) t0 rfl kv_X10_readNumber ml_X10_376 ⟨rfl, rfl, Nat.le_of_ble_eq_true rfl, Nat.le_of_ble_eq_true rfl⟩ rfl hl.1 rfl (Nat.le_of_ble_eq_true rfl) ⟨Nat.zero_le _, Nat.zero_le _⟩ dX10_readBox_184) (fun r105 Z H locs eZ pZ hG => ?_)
            obtain ⟨F106, rfl, lr105, ur105, pF106⟩ := pZ
            clear eZ
            rw [hLF.1, hLF.2] at pF106
            have nF106 := pF106.2.2
            replace pF106 := And.intro pF106.1 pF106.2.1
            have hLF106 := pF106.1.hl hLF
            have k107 : rR z103.toNatClampNeg = (0, 99) := by rw [rR_at (q := (Fa 1 30).toInt) (r := (1 + v4.toInt)) (by omega) (by omega) (by omega) (by omega)]; rcases (show (1 + v4.toInt) = 1 ∨ (1 + v4.toInt) = 2 ∨ (1 + v4.toInt) = 3 ∨ (1 + v4.toInt) = 4 by omega) with h9 | h9 | h9 | h9 <;> rw [h9] <;> rfl
            refine mc_iastX E hG hoa101 (by decide) rfl (lo := 0) (hi := 99) (show (0, (rR _).1, (rR _).2) = _ by rw [k107]) (t_in (by omega) (by omega)) (by omega) (by omega) dX10_readBox_187 (fun H locs hG => ?_)
            have hG := kO_set PRd_17 hG
            obtain ⟨F108, eF108⟩ : ∃ Z : mF, Z = up2 F106 17 z103.toNatClampNeg r105 := ⟨_, rfl⟩
            rw [← eF108] at hG
            have hLF108 : LF F108 15 = LF Fa 15 ∧ F108 1 25 = Fa 1 25 := by rw [eF108, LF_up (by decide), up2_ne (by omega)]; exact hLF106
            have hpF108 : (F108 1 26).toInt = (F106 1 26).toInt := by rw [eF108, up2_ne (by omega)]
            have hbF108 : (F108 1 27).toInt = (F106 1 27).toInt := by rw [eF108, up2_ne (by omega)]
            obtain ⟨z109, ez109⟩ : ∃ y : Int32, y = v4 + (1) := ⟨_, rfl⟩
            refine lv_iinc (v := z109) (lv' := [(4, .int z109), (0, .ref h0), (1, .int v1), (2, .int v2), (3, .int v3)]) hx hb dX10_readBox_188 hl (k := 4) rfl (by rw [ez109]; rfl) (by decide) rfl (fun ls hl => ?_)
            have tz109 := tn_add ez109 rfl kI_1 (by omega) (by omega)
            refine lv_goto (tgt := 136) hx hb dX10_readBox_191 (by decide) ?_
            have hQ : NB Fa F108 (Fa 1 30).toInt.toNat v3.toInt z109.toInt := NB_s hex136.1 (by rw [← wz51]; omega) pF106.1 pF106.2 (by omega) (by omega) (by show ((z103.toInt.toNat : Nat) : Int) = _; omega) eF108 (by omega)
            have hQn : NUr (LF Fa 15) (Fa 1 25).toInt (Fa 1 26).toInt (qN F108 (Fa 1 30).toInt.toNat) v3.toInt z109.toInt (F108 1 26).toInt (F108 1 27).toInt := by
              rw [hpF108, hbF108]
              exact NUr_s hex136.2.2.2.2.2.2.1 (by omega) (by omega) (by omega) ⟨by omega, by omega⟩ nF106 (Or.inl (by omega)) (fun j hj => by unfold qN; rw [eF108, up2_ne (fun z => by have : z103.toNatClampNeg = z103.toInt.toNat := rfl; omega), pF106.1 17 _ (by omega)]) (by unfold qN; rw [eF108, show 8 * (Fa 1 30).toInt.toNat + 1 + v4.toInt.toNat = z103.toNatClampNeg by show _ = z103.toInt.toNat; omega, up2_at]) (by omega)
            have hQs : (F108 17 (8 * (Fa 1 30).toInt.toNat + 5)).toInt = 0 := by rw [eF108, up2_ne (fun z => by have : z103.toNatClampNeg = z103.toInt.toNat := rfl; omega), pF106.1 17 _ (by omega)]; exact hex136.2.2.2.2.2.2.2
            exact ih136 F108 H locs ls v1 v2 v3 z109 hG (lv_sub hl [1, 2, 3, 4, 0] rfl) (by omega) (by omega) (by omega) (by omega) (by omega) (by omega) (by omega) (by omega) (by exact ⟨hQ, by omega, by omega, by first | exact hex103.2.2.2.1 | exact hex136.2.2.2.1, by first | exact hex103.2.2.2.2.1 | exact hex136.2.2.2.2.1, by first | exact hex103.2.2.2.2.2.1 | exact hex136.2.2.2.2.2.1, hQn, hQs⟩) (by omega)
          · skip
            have ic104 := tn_nle rfl kI_0 c104
            refine lv_aload_n hx hb dX10_readBox_171 rfl (lv_at hl 0 rfl) ?_
            refine mc_getr E hG t0 mr_60 dX10_readBox_172 (fun oa110 hoa110 => ?_)
            refine lv_iload_n hx hb dX10_readBox_175 rfl (lv_at hl 2 rfl) ?_
            refine lv_iload hx hb dX10_readBox_176 (lv_at hl 4 rfl) ?_
            refine lv_iadd hx hb dX10_readBox_178 ?_
            refine lv_topi (fun z111 ez111 => ?_)
            have tz111 := tn_add ez111 rfl rfl (by omega) (by omega)
            refine mc_rald E hG hoa110 (t_in (by omega) (by omega)) dX10_readBox_179 (fun z112 lz112 uz112 qz112 => ?_)
            clear lz112 uz112
            have wz112 := kq qz112 PRd_17
            refine lv_goto (tgt := 184) hx hb dX10_readBox_180 (by decide) ?_
            refine mc_calliX hG (mc_runV (As := [.int v3, .int v4, .int z112]) (rest := [.int z103, .ref oa101]) E hG (x_X10_readNumber l G σ cu X F h0 v3 v4 z112 t0 (by omega) (by omega) (by omega) (by omega)) t0 rfl kv_X10_readNumber ml_X10_376 ⟨rfl, rfl, Nat.le_of_ble_eq_true rfl, Nat.le_of_ble_eq_true rfl⟩ rfl hl.1 rfl (Nat.le_of_ble_eq_true rfl) ⟨Nat.zero_le _, Nat.zero_le _⟩ dX10_readBox_184) (fun r113 Z H locs eZ pZ hG => ?_)
            obtain ⟨F114, rfl, lr113, ur113, pF114⟩ := pZ
            clear eZ
            rw [hLF.1, hLF.2] at pF114
            have nF114 := pF114.2.2
            replace pF114 := And.intro pF114.1 pF114.2.1
            have hLF114 := pF114.1.hl hLF
            have k115 : rR z103.toNatClampNeg = (0, 99) := by rw [rR_at (q := (Fa 1 30).toInt) (r := (1 + v4.toInt)) (by omega) (by omega) (by omega) (by omega)]; rcases (show (1 + v4.toInt) = 1 ∨ (1 + v4.toInt) = 2 ∨ (1 + v4.toInt) = 3 ∨ (1 + v4.toInt) = 4 by omega) with h9 | h9 | h9 | h9 <;> rw [h9] <;> rfl
            refine mc_iastX E hG hoa101 (by decide) rfl (lo := 0) (hi := 99) (show (0, (rR _).1, (rR _).2) = _ by rw [k115]) (t_in (by omega) (by omega)) (by omega) (by omega) dX10_readBox_187 (fun H locs hG => ?_)
            have hG := kO_set PRd_17 hG
            obtain ⟨F116, eF116⟩ : ∃ Z : mF, Z = up2 F114 17 z103.toNatClampNeg r113 := ⟨_, rfl⟩
            rw [← eF116] at hG
            have hLF116 : LF F116 15 = LF Fa 15 ∧ F116 1 25 = Fa 1 25 := by rw [eF116, LF_up (by decide), up2_ne (by omega)]; exact hLF114
            have hpF116 : (F116 1 26).toInt = (F114 1 26).toInt := by rw [eF116, up2_ne (by omega)]
            have hbF116 : (F116 1 27).toInt = (F114 1 27).toInt := by rw [eF116, up2_ne (by omega)]
            obtain ⟨z117, ez117⟩ : ∃ y : Int32, y = v4 + (1) := ⟨_, rfl⟩
            refine lv_iinc (v := z117) (lv' := [(4, .int z117), (0, .ref h0), (1, .int v1), (2, .int v2), (3, .int v3)]) hx hb dX10_readBox_188 hl (k := 4) rfl (by rw [ez117]; rfl) (by decide) rfl (fun ls hl => ?_)
            have tz117 := tn_add ez117 rfl kI_1 (by omega) (by omega)
            refine lv_goto (tgt := 136) hx hb dX10_readBox_191 (by decide) ?_
            have hQ : NB Fa F116 (Fa 1 30).toInt.toNat v3.toInt z117.toInt := NB_s hex136.1 (by rw [← wz51]; omega) pF114.1 pF114.2 (by omega) (by omega) (by show ((z103.toInt.toNat : Nat) : Int) = _; omega) eF116 (by omega)
            have hQn : NUr (LF Fa 15) (Fa 1 25).toInt (Fa 1 26).toInt (qN F116 (Fa 1 30).toInt.toNat) v3.toInt z117.toInt (F116 1 26).toInt (F116 1 27).toInt := by
              rw [hpF116, hbF116]
              exact NUr_s hex136.2.2.2.2.2.2.1 (by omega) (by omega) (by omega) ⟨by omega, by omega⟩ nF114 (Or.inr (by unfold qN; rw [wz112, show 8 * (Fa 1 30).toInt.toNat + 1 + (v4.toInt - 1).toNat = z111.toNatClampNeg by show _ = z111.toInt.toNat; omega])) (fun j hj => by unfold qN; rw [eF116, up2_ne (fun z => by have : z103.toNatClampNeg = z103.toInt.toNat := rfl; omega), pF114.1 17 _ (by omega)]) (by unfold qN; rw [eF116, show 8 * (Fa 1 30).toInt.toNat + 1 + v4.toInt.toNat = z103.toNatClampNeg by show _ = z103.toInt.toNat; omega, up2_at]) (by omega)
            have hQs : (F116 17 (8 * (Fa 1 30).toInt.toNat + 5)).toInt = 0 := by rw [eF116, up2_ne (fun z => by have : z103.toNatClampNeg = z103.toInt.toNat := rfl; omega), pF114.1 17 _ (by omega)]; exact hex136.2.2.2.2.2.2.2
            exact ih136 F116 H locs ls v1 v2 v3 z117 hG (lv_sub hl [1, 2, 3, 4, 0] rfl) (by omega) (by omega) (by omega) (by omega) (by omega) (by omega) (by omega) (by omega) (by exact ⟨hQ, by omega, by omega, by first | exact hex103.2.2.2.1 | exact hex136.2.2.2.1, by first | exact hex103.2.2.2.2.1 | exact hex136.2.2.2.2.1, by first | exact hex103.2.2.2.2.2.1 | exact hex136.2.2.2.2.2.1, hQn, hQs⟩) (by omega)
  have J103 : ∀ (n103 : Nat) (F : mF) (H : Heap) (locs : List Loc) (ls : Array Slot) (v1 : Int32) (v2 : Int32) (v3 : Int32) (v4 : Int32), mGH G (σ, cu, kO PRd X F) s H locs → lv_has ls 5 [(0, .ref h0), (1, .int v1), (2, .int v2), (3, .int v3), (4, .int v4)] → -1 ≤ v1.toInt → v1.toInt ≤ 23 → 0 ≤ v2.toInt → v2.toInt ≤ 184 → 0 ≤ v3.toInt → v3.toInt ≤ 9 → 1 ≤ v4.toInt → v4.toInt ≤ 8 → (ZB Fa F (Fa 1 30).toInt.toNat v4.toInt ∧ v2.toInt = 8 * (Fa 1 30).toInt ∧ (Fa 1 30).toInt ≤ 23 ∧ RX (t 3).toInt Fa v1 ∧ BXr (24 - (t 3).toInt) (Fa 1 30).toInt (wT Fa) (qK Fa) (qC Fa) ∧ wT Fa = v1.toInt ∧ NMr (LF Fa 15) (Fa 1 25).toInt (Fa 1 26).toInt v3.toInt (F 1 26).toInt (F 1 27).toInt) → (8 - v4.toInt).toNat < n103 → W p l e (tRm 3 73) s m ([.ref h0] : List Value).toArray below meth c H locs 0 0 (MQ below (mQvX G (σ, cu, kO PRd X Fa) (fun Z => ∃ F : mF, Z = (σ, cu, kO PRd X F) ∧ (¬ (F 1 27).toInt = 0 ∨ (RA (t 3).toInt F ∧ (F 1 30).toInt = (Fa 1 30).toInt + 1)) ∧ 0 ≤ (F 1 30).toInt ∧ BXx (t 3).toInt Fa F)) ([.ref h0] : List Value).toArray s 0 0 (mA (σ, cu, kO PRd X Fa))) (F0 m 103 ls []) := by
    intro n103
    induction n103 with
    | zero => intro F H locs ls v1 v2 v3 v4 hG hl b1 c1 b2 c2 b3 c3 b4 c4 hex103 hn103; exact absurd hn103 (Nat.not_lt_zero _)
    | succ n103 ih103 =>
      intro F H locs ls v1 v2 v3 v4 hG hl b1 c1 b2 c2 b3 c3 b4 c4 hex103 hn103
      have hLF := (RB.frx hex103.1.1).2.2.1
      refine lv_iload hx hb dX10_readBox_103 (lv_at hl 4 rfl) ?_
      refine lv_bipush (v := 8) hx hb dX10_readBox_105 (by decide) ?_
      refine lv_icmp_ge (tgt := 126) hx hb dX10_readBox_107 (by decide) (fun c118 => ?_) (fun c118 => ?_)
      · skip
        have ic118 := tn_le kI_8 rfl c118
        refine lv_aload_n hx hb dX10_readBox_126 rfl (lv_at hl 0 rfl) ?_
        refine mc_getr E hG t0 mr_60 dX10_readBox_127 (fun oa119 hoa119 => ?_)
        refine lv_iload_n hx hb dX10_readBox_130 rfl (lv_at hl 2 rfl) ?_
        refine lv_iload_n hx hb dX10_readBox_131 rfl (lv_at hl 3 rfl) ?_
        have k120 : rR v2.toNatClampNeg = (0, 9) := by rw [rR_at (q := (Fa 1 30).toInt) (r := 0) (by omega) (by omega) (by omega) (by omega)]; rfl
        refine mc_iastX E hG hoa119 (by decide) rfl (lo := 0) (hi := 9) (show (0, (rR _).1, (rR _).2) = _ by rw [k120]) (t_in (by omega) (by omega)) (by omega) (by omega) dX10_readBox_132 (fun H locs hG => ?_)
        have hG := kO_set PRd_17 hG
        obtain ⟨F121, eF121⟩ : ∃ Z : mF, Z = up2 F 17 v2.toNatClampNeg v3 := ⟨_, rfl⟩
        rw [← eF121] at hG
        have hLF121 : LF F121 15 = LF Fa 15 ∧ F121 1 25 = Fa 1 25 := by rw [eF121, LF_up (by decide), up2_ne (by omega)]; exact hLF
        have hpF121 : (F121 1 26).toInt = (F 1 26).toInt := by rw [eF121, up2_ne (by omega)]
        have hbF121 : (F121 1 27).toInt = (F 1 27).toInt := by rw [eF121, up2_ne (by omega)]
        refine lv_iconst (v := 0) hx hb dX10_readBox_133 (by decide) ?_
        refine lv_istore (lv' := [(4, .int 0), (0, .ref h0), (1, .int v1), (2, .int v2), (3, .int v3)]) hx hb dX10_readBox_134 hl (by decide) rfl (fun ls hl => ?_)
        have hQ : NB Fa F121 (Fa 1 30).toInt.toNat v3.toInt (0 : Int32).toInt := NB_0 hex103.1 (by omega) (by show ((v2.toInt.toNat : Nat) : Int) = _; omega) eF121 (by decide)
        have k0 := kI_0
        have hQn : NUr (LF Fa 15) (Fa 1 25).toInt (Fa 1 26).toInt (qN F121 (Fa 1 30).toInt.toNat) v3.toInt (0 : Int32).toInt (F121 1 26).toInt (F121 1 27).toInt := NUr_0 (by rw [hpF121, hbF121]; exact hex103.2.2.2.2.2.2) kI_0
        have hQs : (F121 17 (8 * (Fa 1 30).toInt.toNat + 5)).toInt = 0 := by rw [eF121, up2_ne (fun z => by have : v2.toNatClampNeg = v2.toInt.toNat := rfl; omega)]; exact hex103.1.2 5 (by decide) (by omega)
        exact J136 ((4 - (0 : Int32).toInt).toNat + 1) F121 H locs ls v1 v2 v3 (0 : Int32) hG (lv_sub hl [1, 2, 3, 4, 0] rfl) (by omega) (by omega) (by omega) (by omega) (by omega) (by omega) (by decide) (by decide) (by exact ⟨hQ, by omega, by omega, by first | exact hex103.2.2.2.1 | exact hex136.2.2.2.1, by first | exact hex103.2.2.2.2.1 | exact hex136.2.2.2.2.1, by first | exact hex103.2.2.2.2.2.1 | exact hex136.2.2.2.2.2.1, hQn, hQs⟩) (Nat.lt_succ_self _)
      · skip
        have ic118 := tn_nle kI_8 rfl c118
        refine lv_aload_n hx hb dX10_readBox_110 rfl (lv_at hl 0 rfl) ?_
        refine mc_getr E hG t0 mr_60 dX10_readBox_111 (fun oa122 hoa122 => ?_)
        refine lv_iload_n hx hb dX10_readBox_114 rfl (lv_at hl 2 rfl) ?_
        refine lv_iload hx hb dX10_readBox_115 (lv_at hl 4 rfl) ?_
        refine lv_iadd hx hb dX10_readBox_117 ?_
        refine lv_topi (fun z123 ez123 => ?_)
        have tz123 := tn_add ez123 rfl rfl (by omega) (by omega)
        refine lv_iconst (v := 0) hx hb dX10_readBox_118 (by decide) ?_
        refine mc_iastX E hG hoa122 (by decide) rfl (lo := (rR z123.toNatClampNeg).1) (hi := (rR z123.toNatClampNeg).2) rfl (t_in (by omega) (by omega)) (by rw [kI_0]; exact rR_0.1) (by rw [kI_0]; exact rR_0.2) dX10_readBox_119 (fun H locs hG => ?_)
        have hG := kO_set PRd_17 hG
        obtain ⟨F124, eF124⟩ : ∃ Z : mF, Z = up2 F 17 z123.toNatClampNeg (0 : Int32) := ⟨_, rfl⟩
        rw [← eF124] at hG
        have hLF124 : LF F124 15 = LF Fa 15 ∧ F124 1 25 = Fa 1 25 := by rw [eF124, LF_up (by decide), up2_ne (by omega)]; exact hLF
        have hpF124 : (F124 1 26).toInt = (F 1 26).toInt := by rw [eF124, up2_ne (by omega)]
        have hbF124 : (F124 1 27).toInt = (F 1 27).toInt := by rw [eF124, up2_ne (by omega)]
        obtain ⟨z125, ez125⟩ : ∃ y : Int32, y = v4 + (1) := ⟨_, rfl⟩
        refine lv_iinc (v := z125) (lv' := [(4, .int z125), (0, .ref h0), (1, .int v1), (2, .int v2), (3, .int v3)]) hx hb dX10_readBox_120 hl (k := 4) rfl (by rw [ez125]; rfl) (by decide) rfl (fun ls hl => ?_)
        have tz125 := tn_add ez125 rfl kI_1 (by omega) (by omega)
        refine lv_goto (tgt := 103) hx hb dX10_readBox_123 (by decide) ?_
        have hQ : ZB Fa F124 (Fa 1 30).toInt.toNat z125.toInt := ZB_s hex103.1 (by omega) (by omega) (by show ((z123.toInt.toNat : Nat) : Int) = _; omega) eF124 kI_0 (by omega)
        have hQn : NMr (LF Fa 15) (Fa 1 25).toInt (Fa 1 26).toInt v3.toInt (F124 1 26).toInt (F124 1 27).toInt := by rw [hpF124, hbF124]; exact hex103.2.2.2.2.2.2
        exact ih103 F124 H locs ls v1 v2 v3 z125 hG (lv_sub hl [1, 2, 3, 4, 0] rfl) (by omega) (by omega) (by omega) (by omega) (by omega) (by omega) (by omega) (by omega) (by exact ⟨hQ, by omega, by omega, by first | exact hRX | exact hex103.2.2.2.1, by first | exact hBXr | exact hex103.2.2.2.2.1, by first | exact hwt | exact hex103.2.2.2.2.2.1, hQn⟩) (by omega)
  refine lv_aload_n hx hb dX10_readBox_0 rfl (lv_at hl 0 rfl) ?_
  refine mc_geti E hG t0 mi_367 dX10_readBox_1 (fun z126 lz126 uz126 qz126 => ?_)
  have wz126 := kq qz126 (PRd_32)
  have gz126 : z126.toInt = (Fa 1 32).toInt := by rw [wz126]
  have gz126 : z126.toInt = (Fa 1 32).toInt := by rw [wz126]
  refine lv_if_le (tgt := 21) hx hb dX10_readBox_4 (by decide) (fun c127 => ?_) (fun c127 => ?_)
  · skip
    have ic127 := tn_le rfl kI_0 c127
    refine lv_iconst (v := -1) hx hb dX10_readBox_21 (by decide) ?_
    refine lv_istore_n (lv' := [(1, .int (-1)), (0, .ref h0)]) hx hb dX10_readBox_22 rfl hl (by decide) rfl (fun ls hl => ?_)
    have hwt : wT Fa = (-1 : Int32).toInt := by rw [kI_m1]; exact wT_no (by omega)
    have km1 := kI_m1
    refine lv_aload_n hx hb dX10_readBox_23 rfl (lv_at hl 1 rfl) ?_
    refine lv_aload_n hx hb dX10_readBox_24 rfl (lv_at hl 1 rfl) ?_
    refine mc_getn E hG t0 ff_X10_9 dX10_readBox_25 (fun oa128 hoa128 => ?_)
    refine lv_iconst (v := 3) hx hb dX10_readBox_28 (by decide) ?_
    refine mc_nald E hG hoa128 hG.2.2.1 (t_in (by decide) (by decide)) dX10_readBox_29 (fun z129 lz129 uz129 qz129 => ?_)
    have lz129 : 0 ≤ z129.toInt := lz129
    have uz129 : z129.toInt ≤ 24 := uz129
    have c3 : z129 = t 3 := qz129 _ (show kO PRd X Fa cu 3 = some (t 3) from (kO_out (PRd_cu hcu 3)).trans hT.2.1)
    have c3i : z129.toInt = (t 3).toInt := by rw [c3]
    refine lv_aload_n hx hb dX10_readBox_30 rfl (lv_at hl 1 rfl) ?_
    refine mc_geti E hG t0 mi_370 dX10_readBox_31 (fun z130 lz130 uz130 qz130 => ?_)
    have wz130 := kq qz130 (PRd_30)
    have gz130 : z130.toInt = (Fa 1 30).toInt := by rw [wz130]
    have gz130 : z130.toInt = (Fa 1 30).toInt := by rw [wz130]
    refine lv_iadd hx hb dX10_readBox_34 ?_
    refine lv_topi (fun z131 ez131 => ?_)
    have tz131 := tn_add ez131 rfl rfl (by omega) (by omega)
    refine lv_bipush (v := 24) hx hb dX10_readBox_35 (by decide) ?_
    refine lv_icmp_ge (tgt := 71) hx hb dX10_readBox_37 (by decide) (fun c132 => ?_) (fun c132 => ?_)
    · skip
      have ic132 := tn_le kI_24 rfl c132
      refine lv_iconst (v := 1) hx hb dX10_readBox_71 (by decide) ?_
      refine lv_goto (tgt := 76) hx hb dX10_readBox_72 (by decide) ?_
      refine mc_putX E hG t0 mp_359 (by decide) (by decide) (t_nz (by decide) (by decide)).1 (t_nz (by decide) (by decide)).2 dX10_readBox_76 (fun H locs hG => ?_)
      have hG := kO_set (PRd_27) hG
      obtain ⟨F133, eF133⟩ : ∃ Z : mF, Z = up2 Fa 1 27 (1 : Int32) := ⟨_, rfl⟩
      rw [← eF133] at hG
      have hLF133 : LF F133 15 = LF Fa 15 ∧ F133 1 25 = Fa 1 25 := by rw [eF133, LF_up (by decide), up2_ne (by omega)]; exact hLFa
      have hpF133 : (F133 1 26).toInt = (Fa 1 26).toInt := by rw [eF133, up2_ne (by omega)]
      have hbF133 : (F133 1 27).toInt = 1 := by rw [eF133, up2_at]; decide
      have hrF133 : mRN Fa F133 := mRN.refl.put (Or.inr rfl) eF133
      refine lv_aload_n hx hb dX10_readBox_79 rfl (lv_at hl 1 rfl) ?_
      refine mc_geti E hG t0 mi_359 dX10_readBox_80 (fun z134 lz134 uz134 qz134 => ?_)
      have wz134 := kq qz134 (PRd_27)
      have gz134 : z134.toInt = (F133 1 27).toInt := by rw [wz134]
      have hbd : z134.toInt = 1 := by rw [wz134, eF133, up2_at]; decide
      refine lv_if_eq (tgt := 87) hx hb dX10_readBox_83 (by decide) (fun c135 => ?_) (fun c135 => ?_)
      · exfalso
        have ic135 := tn_eq rfl kI_0 c135
        omega
      · skip
        have ic135 := tn_ne rfl kI_0 c135
        exact mc_vretX E hr hlk hG rfl ⟨_, rfl, Or.inl (by rw [eF133, up2_at]; decide), by rw [eF133, up2_ne (by decide)]; exact hV.1, BXx_no eF133 (by decide) (fun q => by unfold BXr at q; rw [hwt] at q; omega)⟩ dX10_readBox_86
    · skip
      have ic132 := tn_nle kI_24 rfl c132
      refine lv_iload_n hx hb dX10_readBox_40 rfl (lv_at hl 0 rfl) ?_
      refine lv_if_lt (tgt := 75) hx hb dX10_readBox_41 (by decide) (fun c136 => ?_) (fun c136 => ?_)
      · skip
        have ic136 := tn_lt kI_m1 kI_0 c136
        refine lv_iconst (v := 0) hx hb dX10_readBox_75 (by decide) ?_
        refine mc_putX E hG t0 mp_359 (by decide) (by decide) (t_nz (by decide) (by decide)).1 (t_nz (by decide) (by decide)).2 dX10_readBox_76 (fun H locs hG => ?_)
        have hG := kO_set (PRd_27) hG
        obtain ⟨F137, eF137⟩ : ∃ Z : mF, Z = up2 Fa 1 27 (0 : Int32) := ⟨_, rfl⟩
        rw [← eF137] at hG
        have hLF137 : LF F137 15 = LF Fa 15 ∧ F137 1 25 = Fa 1 25 := by rw [eF137, LF_up (by decide), up2_ne (by omega)]; exact hLFa
        have hpF137 : (F137 1 26).toInt = (Fa 1 26).toInt := by rw [eF137, up2_ne (by omega)]
        have hbF137 : (F137 1 27).toInt = 0 := by rw [eF137, up2_at]; decide
        have hrF137 : mRN Fa F137 := mRN.refl.put (Or.inr rfl) eF137
        refine lv_aload_n hx hb dX10_readBox_79 rfl (lv_at hl 1 rfl) ?_
        refine mc_geti E hG t0 mi_359 dX10_readBox_80 (fun z138 lz138 uz138 qz138 => ?_)
        have wz138 := kq qz138 (PRd_27)
        have gz138 : z138.toInt = (F137 1 27).toInt := by rw [wz138]
        have hbd : z138.toInt = 0 := by rw [wz138, eF137, up2_at]; decide
        refine lv_if_eq (tgt := 87) hx hb dX10_readBox_83 (by decide) (fun c139 => ?_) (fun c139 => ?_)
        · skip
          have ic139 := tn_eq rfl kI_0 c139
          have k1 := kI_m1
          have hRX : RX (t 3).toInt Fa (-1) := ⟨by omega, Or.inl ⟨by omega, by omega⟩⟩
          have hr30 : (F137 1 30).toInt = (Fa 1 30).toInt := by rw [eF137, up2_ne (by decide)]
          have hBXr : BXr (24 - (t 3).toInt) (Fa 1 30).toInt (wT Fa) (qK Fa) (qC Fa) := by unfold BXr; rw [hwt]; omega
          refine lv_bipush (v := 8) hx hb dX10_readBox_87 (by decide) ?_
          refine lv_aload_n hx hb dX10_readBox_89 rfl (lv_at hl 1 rfl) ?_
          refine mc_geti E hG t0 mi_370 dX10_readBox_90 (fun z140 lz140 uz140 qz140 => ?_)
          have wz140 := kq qz140 (PRd_30)
          have gz140 : z140.toInt = (F137 1 30).toInt := by rw [wz140]
          have gz140 : z140.toInt = (F137 1 30).toInt := by rw [wz140]
          refine lv_imul hx hb dX10_readBox_93 ?_
          refine lv_topi (fun z141 ez141 => ?_)
          have tz141 := tn_mul ez141 kI_8 rfl (by omega) (by omega)
          refine lv_istore_n (lv' := [(2, .int z141), (1, .int (-1)), (0, .ref h0)]) hx hb dX10_readBox_94 rfl hl (by decide) rfl (fun ls hl => ?_)
          refine lv_aload_n hx hb dX10_readBox_95 rfl (lv_at hl 2 rfl) ?_
          refine mc_calliX hG (mc_runV (As := []) (rest := []) E hG (x_X10_readName l G σ cu X F137 h0 t0 hNM) t0 rfl kv_X10_readName ml_X10_373 ⟨rfl, rfl, Nat.le_of_ble_eq_true rfl, Nat.le_of_ble_eq_true rfl⟩ rfl hl.1 rfl (Nat.le_of_ble_eq_true rfl) ⟨Nat.zero_le _, Nat.zero_le _⟩ dX10_readBox_96) (fun r142 Z H locs eZ pZ hG => ?_)
          obtain ⟨F143, rfl, lr142, ur142, pF143⟩ := pZ
          clear eZ
          rw [hLF137.1, hLF137.2, hpF137] at pF143
          have nF143 := pF143.2
          replace pF143 := pF143.1
          have hLF143 := pF143.hl hLF137
          refine lv_istore_n (lv' := [(3, .int r142), (2, .int z141), (1, .int (-1)), (0, .ref h0)]) hx hb dX10_readBox_99 rfl hl (by decide) rfl (fun ls hl => ?_)
          refine lv_iconst (v := 1) hx hb dX10_readBox_100 (by decide) ?_
          refine lv_istore (lv' := [(4, .int 1), (3, .int r142), (2, .int z141), (1, .int (-1)), (0, .ref h0)]) hx hb dX10_readBox_101 hl (by decide) rfl (fun ls hl => ?_)
          have hQ : ZB Fa F143 (Fa 1 30).toInt.toNat (1 : Int32).toInt := ZB_0 ((RB.refl.bad (Or.inr rfl) eF137).rn pF143) (by decide)
          have k1 := kI_1
          have hQn : NMr (LF Fa 15) (Fa 1 25).toInt (Fa 1 26).toInt r142.toInt (F143 1 26).toInt (F143 1 27).toInt := by
            rcases nF143 with ⟨w1, w2⟩ | ⟨w1, w2⟩
            · exact Or.inl ⟨by omega, w2⟩
            · exact Or.inr ⟨w1, w2⟩
          exact J103 ((8 - (1 : Int32).toInt).toNat + 1) F143 H locs ls (-1 : Int32) z141 r142 (1 : Int32) hG (lv_sub hl [4, 3, 2, 1, 0] rfl) (by decide) (by decide) (by omega) (by omega) (by omega) (by omega) (by decide) (by decide) (by exact ⟨hQ, by omega, by omega, by first | exact hRX | exact hex103.2.2.2.1, by first | exact hBXr | exact hex103.2.2.2.2.1, by first | exact hwt | exact hex103.2.2.2.2.2.1, hQn⟩) (Nat.lt_succ_self _)
        · exfalso
          have ic139 := tn_ne rfl kI_0 c139
          omega
      · exfalso
        have ic136 := tn_nlt kI_m1 kI_0 c136
        omega
  · skip
    have ic127 := tn_nle rfl kI_0 c127
    refine lv_aload_n hx hb dX10_readBox_7 rfl (lv_at hl 0 rfl) ?_
    refine mc_getr E hG t0 mr_63 dX10_readBox_8 (fun oa144 hoa144 => ?_)
    refine lv_aload_n hx hb dX10_readBox_11 rfl (lv_at hl 0 rfl) ?_
    refine mc_geti E hG t0 mi_367 dX10_readBox_12 (fun z145 lz145 uz145 qz145 => ?_)
    have wz145 := kq qz145 (PRd_32)
    have gz145 : z145.toInt = (Fa 1 32).toInt := by rw [wz145]
    have gz145 : z145.toInt = (Fa 1 32).toInt := by rw [wz145]
    refine lv_iconst (v := 1) hx hb dX10_readBox_15 (by decide) ?_
    refine lv_isub hx hb dX10_readBox_16 ?_
    refine lv_topi (fun z146 ez146 => ?_)
    have tz146 := tn_sub ez146 rfl kI_1 (by omega) (by omega)
    refine mc_iald E hG hoa144 ma_18 (t_in (by omega) (by omega)) dX10_readBox_17 (fun z147 lz147 uz147 qz147 => ?_)
    have wz147 := kq qz147 (PRd_18)
    have ho9 : z147 = Fa 18 ((Fa 1 32).toInt - 1).toNat := by rw [wz147, show z146.toNatClampNeg = ((Fa 1 32).toInt - 1).toNat by show z146.toInt.toNat = _; omega]
    have ho8 := hV.2.2.2.2.2.1 ((Fa 1 32).toInt - 1).toNat (by omega)
    rw [← ho9] at ho8
    refine lv_goto (tgt := 22) hx hb dX10_readBox_18 (by decide) ?_
    refine lv_istore_n (lv' := [(1, .int z147), (0, .ref h0)]) hx hb dX10_readBox_22 rfl hl (by decide) rfl (fun ls hl => ?_)
    have hwt : wT Fa = z147.toInt := by rw [wT_yes (by omega), ← ho9]
    refine lv_aload_n hx hb dX10_readBox_23 rfl (lv_at hl 1 rfl) ?_
    refine lv_aload_n hx hb dX10_readBox_24 rfl (lv_at hl 1 rfl) ?_
    refine mc_getn E hG t0 ff_X10_9 dX10_readBox_25 (fun oa148 hoa148 => ?_)
    refine lv_iconst (v := 3) hx hb dX10_readBox_28 (by decide) ?_
    refine mc_nald E hG hoa148 hG.2.2.1 (t_in (by decide) (by decide)) dX10_readBox_29 (fun z149 lz149 uz149 qz149 => ?_)
    have lz149 : 0 ≤ z149.toInt := lz149
    have uz149 : z149.toInt ≤ 24 := uz149
    have c3 : z149 = t 3 := qz149 _ (show kO PRd X Fa cu 3 = some (t 3) from (kO_out (PRd_cu hcu 3)).trans hT.2.1)
    have c3i : z149.toInt = (t 3).toInt := by rw [c3]
    refine lv_aload_n hx hb dX10_readBox_30 rfl (lv_at hl 1 rfl) ?_
    refine mc_geti E hG t0 mi_370 dX10_readBox_31 (fun z150 lz150 uz150 qz150 => ?_)
    have wz150 := kq qz150 (PRd_30)
    have gz150 : z150.toInt = (Fa 1 30).toInt := by rw [wz150]
    have gz150 : z150.toInt = (Fa 1 30).toInt := by rw [wz150]
    refine lv_iadd hx hb dX10_readBox_34 ?_
    refine lv_topi (fun z151 ez151 => ?_)
    have tz151 := tn_add ez151 rfl rfl (by omega) (by omega)
    refine lv_bipush (v := 24) hx hb dX10_readBox_35 (by decide) ?_
    refine lv_icmp_ge (tgt := 71) hx hb dX10_readBox_37 (by decide) (fun c152 => ?_) (fun c152 => ?_)
    · skip
      have ic152 := tn_le kI_24 rfl c152
      refine lv_iconst (v := 1) hx hb dX10_readBox_71 (by decide) ?_
      refine lv_goto (tgt := 76) hx hb dX10_readBox_72 (by decide) ?_
      refine mc_putX E hG t0 mp_359 (by decide) (by decide) (t_nz (by decide) (by decide)).1 (t_nz (by decide) (by decide)).2 dX10_readBox_76 (fun H locs hG => ?_)
      have hG := kO_set (PRd_27) hG
      obtain ⟨F153, eF153⟩ : ∃ Z : mF, Z = up2 Fa 1 27 (1 : Int32) := ⟨_, rfl⟩
      rw [← eF153] at hG
      have hLF153 : LF F153 15 = LF Fa 15 ∧ F153 1 25 = Fa 1 25 := by rw [eF153, LF_up (by decide), up2_ne (by omega)]; exact hLFa
      have hpF153 : (F153 1 26).toInt = (Fa 1 26).toInt := by rw [eF153, up2_ne (by omega)]
      have hbF153 : (F153 1 27).toInt = 1 := by rw [eF153, up2_at]; decide
      have hrF153 : mRN Fa F153 := mRN.refl.put (Or.inr rfl) eF153
      refine lv_aload_n hx hb dX10_readBox_79 rfl (lv_at hl 1 rfl) ?_
      refine mc_geti E hG t0 mi_359 dX10_readBox_80 (fun z154 lz154 uz154 qz154 => ?_)
      have wz154 := kq qz154 (PRd_27)
      have gz154 : z154.toInt = (F153 1 27).toInt := by rw [wz154]
      have hbd : z154.toInt = 1 := by rw [wz154, eF153, up2_at]; decide
      refine lv_if_eq (tgt := 87) hx hb dX10_readBox_83 (by decide) (fun c155 => ?_) (fun c155 => ?_)
      · exfalso
        have ic155 := tn_eq rfl kI_0 c155
        omega
      · skip
        have ic155 := tn_ne rfl kI_0 c155
        exact mc_vretX E hr hlk hG rfl ⟨_, rfl, Or.inl (by rw [eF153, up2_at]; decide), by rw [eF153, up2_ne (by decide)]; exact hV.1, BXx_no eF153 (by decide) (fun q => by unfold BXr at q; rw [hwt] at q; omega)⟩ dX10_readBox_86
    · skip
      have ic152 := tn_nle kI_24 rfl c152
      refine lv_iload_n hx hb dX10_readBox_40 rfl (lv_at hl 0 rfl) ?_
      refine lv_if_lt (tgt := 75) hx hb dX10_readBox_41 (by decide) (fun c156 => ?_) (fun c156 => ?_)
      · exfalso
        have ic156 := tn_lt rfl kI_0 c156
        omega
      · skip
        have ic156 := tn_nlt rfl kI_0 c156
        refine lv_aload_n hx hb dX10_readBox_44 rfl (lv_at hl 1 rfl) ?_
        refine mc_getr E hG t0 mr_60 dX10_readBox_45 (fun oa157 hoa157 => ?_)
        refine lv_bipush (v := 8) hx hb dX10_readBox_48 (by decide) ?_
        refine lv_iload_n hx hb dX10_readBox_50 rfl (lv_at hl 0 rfl) ?_
        refine lv_imul hx hb dX10_readBox_51 ?_
        refine lv_topi (fun z158 ez158 => ?_)
        have tz158 := tn_mul ez158 kI_8 rfl (by omega) (by omega)
        refine lv_bipush (v := 7) hx hb dX10_readBox_52 (by decide) ?_
        refine lv_iadd hx hb dX10_readBox_54 ?_
        refine lv_topi (fun z159 ez159 => ?_)
        have tz159 := tn_add ez159 rfl kI_7 (by omega) (by omega)
        refine mc_rald E hG hoa157 (t_in (by omega) (by omega)) dX10_readBox_55 (fun z160 lz160 uz160 qz160 => ?_)
        rw [rR_at (q := z147.toInt) (r := 7) (by omega) (by omega) (by omega) (by omega)] at lz160 uz160
        have lz160 : 0 ≤ z160.toInt := lz160
        have uz160 : z160.toInt ≤ 8 := uz160
        have wz160 := kq qz160 PRd_17
        have gc : qC Fa z147.toInt.toNat = z160.toInt := by unfold qC; rw [wz160, show z159.toNatClampNeg = 8 * z147.toInt.toNat + 7 by show z159.toInt.toNat = _; omega]
        refine lv_aload_n hx hb dX10_readBox_56 rfl (lv_at hl 1 rfl) ?_
        refine mc_getr E hG t0 mr_60 dX10_readBox_57 (fun oa161 hoa161 => ?_)
        refine lv_bipush (v := 8) hx hb dX10_readBox_60 (by decide) ?_
        refine lv_iload_n hx hb dX10_readBox_62 rfl (lv_at hl 0 rfl) ?_
        refine lv_imul hx hb dX10_readBox_63 ?_
        refine lv_topi (fun z162 ez162 => ?_)
        have tz162 := tn_mul ez162 kI_8 rfl (by omega) (by omega)
        refine mc_rald E hG hoa161 (t_in (by omega) (by omega)) dX10_readBox_64 (fun z163 lz163 uz163 qz163 => ?_)
        rw [rR_at (q := z147.toInt) (r := 0) (by omega) (by omega) (by omega) (by omega)] at lz163 uz163
        have lz163 : 0 ≤ z163.toInt := lz163
        have uz163 : z163.toInt ≤ 9 := uz163
        have wz163 := kq qz163 PRd_17
        have gk : qK Fa z147.toInt.toNat = z163.toInt := by unfold qK; rw [wz163, show z162.toNatClampNeg = 8 * z147.toInt.toNat by show z162.toInt.toNat = _; omega]
        refine tc_callp (mc_runS (As := [.int z163]) (rest := [.int z160, .ref h0]) E hG (x_X10_takes l G (σ, cu, kO PRd X Fa) z163) ks_X10_takes ml_X10_124 ⟨rfl, rfl, Nat.le_of_ble_eq_true rfl, Nat.le_of_ble_eq_true rfl⟩ rfl hl.1 rfl (Nat.le_of_ble_eq_true rfl) ⟨Nat.zero_le _, Nat.zero_le _⟩ dX10_readBox_65) (fun r164 pr164 => ?_)
        replace pr164 : (z163.toInt < 2 ∧ r164.toInt = 0) ∨ (2 ≤ z163.toInt ∧ z163.toInt < 7 ∧ r164.toInt = 1) ∨ (7 ≤ z163.toInt ∧ r164.toInt = 8) := pr164
        have hkd : r164.toInt = nKid (qK Fa z147.toInt.toNat) := by rw [gk]; exact nKid_t pr164 (by omega)
        refine lv_icmp_lt (tgt := 75) hx hb dX10_readBox_68 (by decide) (fun c165 => ?_) (fun c165 => ?_)
        · skip
          have ic165 := tn_lt rfl rfl c165
          refine lv_iconst (v := 0) hx hb dX10_readBox_75 (by decide) ?_
          refine mc_putX E hG t0 mp_359 (by decide) (by decide) (t_nz (by decide) (by decide)).1 (t_nz (by decide) (by decide)).2 dX10_readBox_76 (fun H locs hG => ?_)
          have hG := kO_set (PRd_27) hG
          obtain ⟨F166, eF166⟩ : ∃ Z : mF, Z = up2 Fa 1 27 (0 : Int32) := ⟨_, rfl⟩
          rw [← eF166] at hG
          have hLF166 : LF F166 15 = LF Fa 15 ∧ F166 1 25 = Fa 1 25 := by rw [eF166, LF_up (by decide), up2_ne (by omega)]; exact hLFa
          have hpF166 : (F166 1 26).toInt = (Fa 1 26).toInt := by rw [eF166, up2_ne (by omega)]
          have hbF166 : (F166 1 27).toInt = 0 := by rw [eF166, up2_at]; decide
          have hrF166 : mRN Fa F166 := mRN.refl.put (Or.inr rfl) eF166
          refine lv_aload_n hx hb dX10_readBox_79 rfl (lv_at hl 1 rfl) ?_
          refine mc_geti E hG t0 mi_359 dX10_readBox_80 (fun z167 lz167 uz167 qz167 => ?_)
          have wz167 := kq qz167 (PRd_27)
          have gz167 : z167.toInt = (F166 1 27).toInt := by rw [wz167]
          have hbd : z167.toInt = 0 := by rw [wz167, eF166, up2_at]; decide
          refine lv_if_eq (tgt := 87) hx hb dX10_readBox_83 (by decide) (fun c168 => ?_) (fun c168 => ?_)
          · skip
            have ic168 := tn_eq rfl kI_0 c168
            have hct : (Fa 17 (8 * z147.toInt.toNat + 7)).toInt ≤ 7 := by rw [show 8 * z147.toInt.toNat + 7 = z159.toNatClampNeg by show _ = z159.toInt.toNat; omega, ← wz160]; omega
            have hRX : RX (t 3).toInt Fa z147 := ⟨by omega, Or.inr ⟨by omega, by omega, ho9, hct⟩⟩
            have hr30 : (F166 1 30).toInt = (Fa 1 30).toInt := by rw [eF166, up2_ne (by decide)]
            have hBXr : BXr (24 - (t 3).toInt) (Fa 1 30).toInt (wT Fa) (qK Fa) (qC Fa) := by unfold BXr; rw [hwt]; omega
            refine lv_bipush (v := 8) hx hb dX10_readBox_87 (by decide) ?_
            refine lv_aload_n hx hb dX10_readBox_89 rfl (lv_at hl 1 rfl) ?_
            refine mc_geti E hG t0 mi_370 dX10_readBox_90 (fun z169 lz169 uz169 qz169 => ?_)
            have wz169 := kq qz169 (PRd_30)
            have gz169 : z169.toInt = (F166 1 30).toInt := by rw [wz169]
            have gz169 : z169.toInt = (F166 1 30).toInt := by rw [wz169]
            refine lv_imul hx hb dX10_readBox_93 ?_
            refine lv_topi (fun z170 ez170 => ?_)
            have tz170 := tn_mul ez170 kI_8 rfl (by omega) (by omega)
            refine lv_istore_n (lv' := [(2, .int z170), (1, .int z147), (0, .ref h0)]) hx hb dX10_readBox_94 rfl hl (by decide) rfl (fun ls hl => ?_)
            refine lv_aload_n hx hb dX10_readBox_95 rfl (lv_at hl 2 rfl) ?_
            refine mc_calliX hG (mc_runV (As := []) (rest := []) E hG (x_X10_readName l G σ cu X F166 h0 t0 hNM) t0 rfl kv_X10_readName ml_X10_373 ⟨rfl, rfl, Nat.le_of_ble_eq_true rfl, Nat.le_of_ble_eq_true rfl⟩ rfl hl.1 rfl (Nat.le_of_ble_eq_true rfl) ⟨Nat.zero_le _, Nat.zero_le _⟩ dX10_readBox_96) (fun r171 Z H locs eZ pZ hG => ?_)
            obtain ⟨F172, rfl, lr171, ur171, pF172⟩ := pZ
            clear eZ
            rw [hLF166.1, hLF166.2, hpF166] at pF172
            have nF172 := pF172.2
            replace pF172 := pF172.1
            have hLF172 := pF172.hl hLF166
            refine lv_istore_n (lv' := [(3, .int r171), (2, .int z170), (1, .int z147), (0, .ref h0)]) hx hb dX10_readBox_99 rfl hl (by decide) rfl (fun ls hl => ?_)
            refine lv_iconst (v := 1) hx hb dX10_readBox_100 (by decide) ?_
            refine lv_istore (lv' := [(4, .int 1), (3, .int r171), (2, .int z170), (1, .int z147), (0, .ref h0)]) hx hb dX10_readBox_101 hl (by decide) rfl (fun ls hl => ?_)
            have hQ : ZB Fa F172 (Fa 1 30).toInt.toNat (1 : Int32).toInt := ZB_0 ((RB.refl.bad (Or.inr rfl) eF166).rn pF172) (by decide)
            have k1 := kI_1
            have hQn : NMr (LF Fa 15) (Fa 1 25).toInt (Fa 1 26).toInt r171.toInt (F172 1 26).toInt (F172 1 27).toInt := by
              rcases nF172 with ⟨w1, w2⟩ | ⟨w1, w2⟩
              · exact Or.inl ⟨by omega, w2⟩
              · exact Or.inr ⟨w1, w2⟩
            exact J103 ((8 - (1 : Int32).toInt).toNat + 1) F172 H locs ls z147 z170 r171 (1 : Int32) hG (lv_sub hl [4, 3, 2, 1, 0] rfl) (by omega) (by omega) (by omega) (by omega) (by omega) (by omega) (by decide) (by decide) (by exact ⟨hQ, by omega, by omega, by first | exact hRX | exact hex103.2.2.2.1, by first | exact hBXr | exact hex103.2.2.2.2.1, by first | exact hwt | exact hex103.2.2.2.2.2.1, hQn⟩) (Nat.lt_succ_self _)
          · exfalso
            have ic168 := tn_ne rfl kI_0 c168
            omega
        · skip
          have ic165 := tn_nlt rfl rfl c165
          refine lv_iconst (v := 1) hx hb dX10_readBox_71 (by decide) ?_
          refine lv_goto (tgt := 76) hx hb dX10_readBox_72 (by decide) ?_
          refine mc_putX E hG t0 mp_359 (by decide) (by decide) (t_nz (by decide) (by decide)).1 (t_nz (by decide) (by decide)).2 dX10_readBox_76 (fun H locs hG => ?_)
          have hG := kO_set (PRd_27) hG
          obtain ⟨F173, eF173⟩ : ∃ Z : mF, Z = up2 Fa 1 27 (1 : Int32) := ⟨_, rfl⟩
          rw [← eF173] at hG
          have hLF173 : LF F173 15 = LF Fa 15 ∧ F173 1 25 = Fa 1 25 := by rw [eF173, LF_up (by decide), up2_ne (by omega)]; exact hLFa
          have hpF173 : (F173 1 26).toInt = (Fa 1 26).toInt := by rw [eF173, up2_ne (by omega)]
          have hbF173 : (F173 1 27).toInt = 1 := by rw [eF173, up2_at]; decide
          have hrF173 : mRN Fa F173 := mRN.refl.put (Or.inr rfl) eF173
          refine lv_aload_n hx hb dX10_readBox_79 rfl (lv_at hl 1 rfl) ?_
          refine mc_geti E hG t0 mi_359 dX10_readBox_80 (fun z174 lz174 uz174 qz174 => ?_)
          have wz174 := kq qz174 (PRd_27)
          have gz174 : z174.toInt = (F173 1 27).toInt := by rw [wz174]
          have hbd : z174.toInt = 1 := by rw [wz174, eF173, up2_at]; decide
          refine lv_if_eq (tgt := 87) hx hb dX10_readBox_83 (by decide) (fun c175 => ?_) (fun c175 => ?_)
          · exfalso
            have ic175 := tn_eq rfl kI_0 c175
            omega
          · skip
            have ic175 := tn_ne rfl kI_0 c175
            exact mc_vretX E hr hlk hG rfl ⟨_, rfl, Or.inl (by rw [eF173, up2_at]; decide), by rw [eF173, up2_ne (by decide)]; exact hV.1, BXx_no eF173 (by decide) (fun q => by unfold BXr at q; rw [hwt] at q; omega)⟩ dX10_readBox_86

set_option maxHeartbeats 4000000 in
set_option maxRecDepth 100000 in
theorem x_X10_goesOn (l : Launch) (G : tG) (σ : Nat → Nat) (cu : Nat) (X : mX) (Fa : mF) (h0 : Nat) (t0 : σ h0 = 1) (cm : Int) (hA9 : RA cm Fa) (hcm : 0 ≤ cm) (hS : STK Fa) (hPl : qP Fa ((Fa 1 30).toInt - 1).toNat = wT Fa) (hle : (Fa 1 26).toInt ≤ (Fa 1 25).toInt) : Met l yX10_goesOn (.code yX10_goesOn cX10_goesOn 1 (some .boolean) :: tWS) (tRm 1 20) (va_Pc [.ref h0] (mPre G (σ, cu, kO PRd X Fa))) (mQiX G (σ, cu, kO PRd X Fa) (fun r Z => ∃ F : mF, Z = (σ, cu, kO PRd X F) ∧ 0 ≤ r.toInt ∧ r.toInt ≤ 1 ∧ (r.toInt = 0 ∨ RV cm F) ∧ RK Fa F ∧ GOx Fa F r.toInt)) 0 0 (mA (σ, cu, kO PRd X Fa)) := by
  refine mc_met (by decide) (Nat.le_of_ble_eq_true rfl) ?_
  intro p e s m below meth c E hr hlk hG ls hl
  have hl : lv_has ls 1 [(0, .ref h0)] := hl
  have hx := E.1
  have hb := E.2.1
  obtain ⟨H, eH⟩ : ∃ H, H = s.heap := ⟨_, rfl⟩
  obtain ⟨locs, eL⟩ : ∃ x : List Loc, x = [] := ⟨_, rfl⟩
  have hG : mGH G (σ, cu, kO PRd X Fa) s H locs := by rw [eH, eL]; exact hG
  suffices hW : W p l e (tRm 1 20) s m ([.ref h0] : List Value).toArray below meth c H locs 0 0 (MQ below (mQiX G (σ, cu, kO PRd X Fa) (fun r Z => ∃ F : mF, Z = (σ, cu, kO PRd X F) ∧ 0 ≤ r.toInt ∧ r.toInt ≤ 1 ∧ (r.toInt = 0 ∨ RV cm F) ∧ RK Fa F ∧ GOx Fa F r.toInt)) ([.ref h0] : List Value).toArray s 0 0 (mA (σ, cu, kO PRd X Fa))) (F0 m 0 ls []) by subst eH; subst eL; exact hW
  clear eH eL
  have hcu : mCu cu := hG.2.2.1
  have hA1 := hA9.1
  have hA2 := hA9.2.1
  have hA3 := hA9.2.2.1
  have hA4 := hA9.2.2.2.1
  have hLFa : LF Fa 15 = LF Fa 15 ∧ Fa 1 25 = Fa 1 25 := ⟨rfl, rfl⟩
  have hB : ∀ i : Nat, (i : Int) < (Fa 1 32).toInt → 0 ≤ (Fa 18 i).toInt := fun i hi => (hA9.2.2.2.2.1 i hi).1
  have J46 : ∀ (n46 : Nat) (F : mF) (H : Heap) (locs : List Loc) (ls : Array Slot), mGH G (σ, cu, kO PRd X F) s H locs → lv_has ls 1 [(0, .ref h0)] → (RG Fa F ∧ UPx Fa F ∧ ¬ nx (LF Fa 15) (Fa 1 25).toInt (Fa 1 26).toInt = 40) → (F 1 32).toInt.toNat < n46 → W p l e (tRm 1 20) s m ([.ref h0] : List Value).toArray below meth c H locs 0 0 (MQ below (mQiX G (σ, cu, kO PRd X Fa) (fun r Z => ∃ F : mF, Z = (σ, cu, kO PRd X F) ∧ 0 ≤ r.toInt ∧ r.toInt ≤ 1 ∧ (r.toInt = 0 ∨ RV cm F) ∧ RK Fa F ∧ GOx Fa F r.toInt)) ([.ref h0] : List Value).toArray s 0 0 (mA (σ, cu, kO PRd X Fa))) (F0 m 46 ls []) := by
    intro n46
    induction n46 with
    | zero => intro F H locs ls hG hl hex46 hn46; exact absurd hn46 (Nat.not_lt_zero _)
    | succ n46 ih46 =>
      intro F H locs ls hG hl hex46 hn46
      have hg3 := hex46.1.2.2.1
      have hg4 := hex46.1.2.2.2
      have hLF := hex46.2.1.1.2.2.2.2
      refine lv_aload_n hx hb dX10_goesOn_46 rfl (lv_at hl 0 rfl) ?_
      refine mc_geti E hG t0 mi_367 dX10_goesOn_47 (fun z1 lz1 uz1 qz1 => ?_)
      have wz1 := kq qz1 (PRd_32)
      have gz1 : z1.toInt = (F 1 32).toInt := by rw [wz1]
      have hzz1 : z1.toInt = (F 1 32).toInt := by rw [wz1]
      refine lv_if_le (tgt := 85) hx hb dX10_goesOn_50 (by decide) (fun c2 => ?_) (fun c2 => ?_)
      · skip
        have ic2 := tn_le rfl kI_0 c2
        refine lv_aload_n hx hb dX10_goesOn_85 rfl (lv_at hl 0 rfl) ?_
        refine mc_geti E hG t0 mi_367 dX10_goesOn_86 (fun z3 lz3 uz3 qz3 => ?_)
        have wz3 := kq qz3 (PRd_32)
        have gz3 : z3.toInt = (F 1 32).toInt := by rw [wz3]
        have hzz3 : z3.toInt = (F 1 32).toInt := by rw [wz3]
        refine lv_if_le (tgt := 113) hx hb dX10_goesOn_89 (by decide) (fun c4 => ?_) (fun c4 => ?_)
        · skip
          have ic4 := tn_le rfl kI_0 c4
          refine lv_aload_n hx hb dX10_goesOn_113 rfl (lv_at hl 0 rfl) ?_
          refine lv_aload_n hx hb dX10_goesOn_114 rfl (lv_at hl 0 rfl) ?_
          refine mc_geti E hG t0 mi_367 dX10_goesOn_115 (fun z5 lz5 uz5 qz5 => ?_)
          have wz5 := kq qz5 (PRd_32)
          have gz5 : z5.toInt = (F 1 32).toInt := by rw [wz5]
          have hzz5 : z5.toInt = (F 1 32).toInt := by rw [wz5]
          refine lv_if_gt (tgt := 132) hx hb dX10_goesOn_118 (by decide) (fun c6 => ?_) (fun c6 => ?_)
          · skip
            have ic6 := tn_lt kI_0 rfl c6
            refine lv_iconst (v := 1) hx hb dX10_goesOn_132 (by decide) ?_
            refine lv_goto (tgt := 137) hx hb dX10_goesOn_133 (by decide) ?_
            refine mc_putX E hG t0 mp_359 (by decide) (by decide) (t_nz (by decide) (by decide)).1 (t_nz (by decide) (by decide)).2 dX10_goesOn_137 (fun H locs hG => ?_)
            have hG := kO_set (PRd_27) hG
            obtain ⟨F7, eF7⟩ : ∃ Z : mF, Z = up2 F 1 27 (1 : Int32) := ⟨_, rfl⟩
            rw [← eF7] at hG
            have hLF7 : LF F7 15 = LF Fa 15 ∧ F7 1 25 = Fa 1 25 := by rw [eF7, LF_up (by decide), up2_ne (by omega)]; exact hLF
            have hpF7 : (F7 1 26).toInt = (F 1 26).toInt := by rw [eF7, up2_ne (by omega)]
            have hbF7 : (F7 1 27).toInt = 1 := by rw [eF7, up2_at]; decide
            have hrF7 : mRN F F7 := mRN.refl.put (Or.inr rfl) eF7
            refine lv_iconst (v := 0) hx hb dX10_goesOn_140 (by decide) ?_
            have k0 := kI_0; have k1 := kI_1
            have hGO : GOx Fa F7 (0 : Int32).toInt := by rw [kI_0]; exact GO_end hex46.2.1 hPl hex46.2.2 hB eF7 hle (by omega)
            exact mc_iretX E hr hlk hG rfl (t_nz (by decide) (by decide)).1 ⟨_, rfl, by decide, by decide, Or.inl (by decide), ⟨by rw [eF7, up2_ne (by decide)]; exact hex46.1.1.1, by rw [eF7, up2_nc (by decide)]; exact hex46.1.1.2⟩, hGO⟩ dX10_goesOn_141
          · skip
            have ic6 := tn_nlt kI_0 rfl c6
            refine lv_aload_n hx hb dX10_goesOn_121 rfl (lv_at hl 0 rfl) ?_
            refine mc_geti E hG t0 mi_350 dX10_goesOn_122 (fun z8 lz8 uz8 qz8 => ?_)
            have wz8 := kq qz8 (PRd_26)
            have gz8 : z8.toInt = (F 1 26).toInt := by rw [wz8]
            refine lv_aload_n hx hb dX10_goesOn_125 rfl (lv_at hl 0 rfl) ?_
            refine mc_geti E hG t0 mi_340 dX10_goesOn_126 (fun z9 lz9 uz9 qz9 => ?_)
            have wz9 := kq qz9 (PRd_25)
            have gz9 : z9.toInt = (F 1 25).toInt := by rw [wz9]
            refine lv_icmp_ge (tgt := 136) hx hb dX10_goesOn_129 (by decide) (fun c10 => ?_) (fun c10 => ?_)
            · skip
              have ic10 := tn_le rfl rfl c10
              refine lv_iconst (v := 0) hx hb dX10_goesOn_136 (by decide) ?_
              refine mc_putX E hG t0 mp_359 (by decide) (by decide) (t_nz (by decide) (by decide)).1 (t_nz (by decide) (by decide)).2 dX10_goesOn_137 (fun H locs hG => ?_)
              have hG := kO_set (PRd_27) hG
              obtain ⟨F11, eF11⟩ : ∃ Z : mF, Z = up2 F 1 27 (0 : Int32) := ⟨_, rfl⟩
              rw [← eF11] at hG
              have hLF11 : LF F11 15 = LF Fa 15 ∧ F11 1 25 = Fa 1 25 := by rw [eF11, LF_up (by decide), up2_ne (by omega)]; exact hLF
              have hpF11 : (F11 1 26).toInt = (F 1 26).toInt := by rw [eF11, up2_ne (by omega)]
              have hbF11 : (F11 1 27).toInt = 0 := by rw [eF11, up2_at]; decide
              have hrF11 : mRN F F11 := mRN.refl.put (Or.inr rfl) eF11
              refine lv_iconst (v := 0) hx hb dX10_goesOn_140 (by decide) ?_
              have k0 := kI_0; have k1 := kI_1
              have hGO : GOx Fa F11 (0 : Int32).toInt := by rw [kI_0]; exact GO_end hex46.2.1 hPl hex46.2.2 hB eF11 hle (by omega)
              exact mc_iretX E hr hlk hG rfl (t_nz (by decide) (by decide)).1 ⟨_, rfl, by decide, by decide, Or.inl (by decide), ⟨by rw [eF11, up2_ne (by decide)]; exact hex46.1.1.1, by rw [eF11, up2_nc (by decide)]; exact hex46.1.1.2⟩, hGO⟩ dX10_goesOn_141
            · skip
              have ic10 := tn_nle rfl rfl c10
              refine lv_iconst (v := 1) hx hb dX10_goesOn_132 (by decide) ?_
              refine lv_goto (tgt := 137) hx hb dX10_goesOn_133 (by decide) ?_
              refine mc_putX E hG t0 mp_359 (by decide) (by decide) (t_nz (by decide) (by decide)).1 (t_nz (by decide) (by decide)).2 dX10_goesOn_137 (fun H locs hG => ?_)
              have hG := kO_set (PRd_27) hG
              obtain ⟨F12, eF12⟩ : ∃ Z : mF, Z = up2 F 1 27 (1 : Int32) := ⟨_, rfl⟩
              rw [← eF12] at hG
              have hLF12 : LF F12 15 = LF Fa 15 ∧ F12 1 25 = Fa 1 25 := by rw [eF12, LF_up (by decide), up2_ne (by omega)]; exact hLF
              have hpF12 : (F12 1 26).toInt = (F 1 26).toInt := by rw [eF12, up2_ne (by omega)]
              have hbF12 : (F12 1 27).toInt = 1 := by rw [eF12, up2_at]; decide
              have hrF12 : mRN F F12 := mRN.refl.put (Or.inr rfl) eF12
              refine lv_iconst (v := 0) hx hb dX10_goesOn_140 (by decide) ?_
              have k0 := kI_0; have k1 := kI_1
              have hGO : GOx Fa F12 (0 : Int32).toInt := by rw [kI_0]; exact GO_end hex46.2.1 hPl hex46.2.2 hB eF12 hle (by omega)
              exact mc_iretX E hr hlk hG rfl (t_nz (by decide) (by decide)).1 ⟨_, rfl, by decide, by decide, Or.inl (by decide), ⟨by rw [eF12, up2_ne (by decide)]; exact hex46.1.1.1, by rw [eF12, up2_nc (by decide)]; exact hex46.1.1.2⟩, hGO⟩ dX10_goesOn_141
        · skip
          have ic4 := tn_nle rfl kI_0 c4
          refine lv_aload_n hx hb dX10_goesOn_92 rfl (lv_at hl 0 rfl) ?_
          refine mc_calli hG (mc_runV (As := []) (rest := []) E hG (x_X10_here l G σ cu X F h0 t0) t0 rfl kv_X10_here ml_X10_356 ⟨rfl, rfl, Nat.le_of_ble_eq_true rfl, Nat.le_of_ble_eq_true rfl⟩ rfl hl.1 rfl (Nat.le_of_ble_eq_true rfl) ⟨Nat.zero_le _, Nat.zero_le _⟩ dX10_goesOn_93) (fun r13 H locs pr13 hG => ?_)
          replace pr13 : (r13.toInt = -1 ∧ nx (LF F 15) (F 1 25).toInt (F 1 26).toInt = 0) ∨ (0 ≤ r13.toInt ∧ r13.toInt ≤ 126 ∧ (F 1 26).toInt < (F 1 25).toInt ∧ (F 1 26).toInt ≤ 119 ∧ r13.toInt = nx (LF F 15) (F 1 25).toInt (F 1 26).toInt) := pr13
          have br13 : -1 ≤ r13.toInt ∧ r13.toInt ≤ 126 := by omega
          rw [hLF.1, hLF.2] at pr13
          refine lv_bipush (v := 44) hx hb dX10_goesOn_96 (by decide) ?_
          refine lv_icmp_ne (tgt := 113) hx hb dX10_goesOn_98 (by decide) (fun c14 => ?_) (fun c14 => ?_)
          · skip
            have ic14 := tn_ne rfl kI_44 c14
            refine lv_aload_n hx hb dX10_goesOn_113 rfl (lv_at hl 0 rfl) ?_
            refine lv_aload_n hx hb dX10_goesOn_114 rfl (lv_at hl 0 rfl) ?_
            refine mc_geti E hG t0 mi_367 dX10_goesOn_115 (fun z15 lz15 uz15 qz15 => ?_)
            have wz15 := kq qz15 (PRd_32)
            have gz15 : z15.toInt = (F 1 32).toInt := by rw [wz15]
            have hzz15 : z15.toInt = (F 1 32).toInt := by rw [wz15]
            refine lv_if_gt (tgt := 132) hx hb dX10_goesOn_118 (by decide) (fun c16 => ?_) (fun c16 => ?_)
            · skip
              have ic16 := tn_lt kI_0 rfl c16
              refine lv_iconst (v := 1) hx hb dX10_goesOn_132 (by decide) ?_
              refine lv_goto (tgt := 137) hx hb dX10_goesOn_133 (by decide) ?_
              refine mc_putX E hG t0 mp_359 (by decide) (by decide) (t_nz (by decide) (by decide)).1 (t_nz (by decide) (by decide)).2 dX10_goesOn_137 (fun H locs hG => ?_)
              have hG := kO_set (PRd_27) hG
              obtain ⟨F17, eF17⟩ : ∃ Z : mF, Z = up2 F 1 27 (1 : Int32) := ⟨_, rfl⟩
              rw [← eF17] at hG
              have hLF17 : LF F17 15 = LF Fa 15 ∧ F17 1 25 = Fa 1 25 := by rw [eF17, LF_up (by decide), up2_ne (by omega)]; exact hLF
              have hpF17 : (F17 1 26).toInt = (F 1 26).toInt := by rw [eF17, up2_ne (by omega)]
              have hbF17 : (F17 1 27).toInt = 1 := by rw [eF17, up2_at]; decide
              have hrF17 : mRN F F17 := mRN.refl.put (Or.inr rfl) eF17
              refine lv_iconst (v := 0) hx hb dX10_goesOn_140 (by decide) ?_
              have k0 := kI_0; have k1 := kI_1
              have hGO : GOx Fa F17 (0 : Int32).toInt := by rw [kI_0]; exact GO_end hex46.2.1 hPl hex46.2.2 hB eF17 hle (by omega)
              exact mc_iretX E hr hlk hG rfl (t_nz (by decide) (by decide)).1 ⟨_, rfl, by decide, by decide, Or.inl (by decide), ⟨by rw [eF17, up2_ne (by decide)]; exact hex46.1.1.1, by rw [eF17, up2_nc (by decide)]; exact hex46.1.1.2⟩, hGO⟩ dX10_goesOn_141
            · skip
              have ic16 := tn_nlt kI_0 rfl c16
              refine lv_aload_n hx hb dX10_goesOn_121 rfl (lv_at hl 0 rfl) ?_
              refine mc_geti E hG t0 mi_350 dX10_goesOn_122 (fun z18 lz18 uz18 qz18 => ?_)
              have wz18 := kq qz18 (PRd_26)
              have gz18 : z18.toInt = (F 1 26).toInt := by rw [wz18]
              refine lv_aload_n hx hb dX10_goesOn_125 rfl (lv_at hl 0 rfl) ?_
              refine mc_geti E hG t0 mi_340 dX10_goesOn_126 (fun z19 lz19 uz19 qz19 => ?_)
              have wz19 := kq qz19 (PRd_25)
              have gz19 : z19.toInt = (F 1 25).toInt := by rw [wz19]
              refine lv_icmp_ge (tgt := 136) hx hb dX10_goesOn_129 (by decide) (fun c20 => ?_) (fun c20 => ?_)
              · skip
                have ic20 := tn_le rfl rfl c20
                refine lv_iconst (v := 0) hx hb dX10_goesOn_136 (by decide) ?_
                refine mc_putX E hG t0 mp_359 (by decide) (by decide) (t_nz (by decide) (by decide)).1 (t_nz (by decide) (by decide)).2 dX10_goesOn_137 (fun H locs hG => ?_)
                have hG := kO_set (PRd_27) hG
                obtain ⟨F21, eF21⟩ : ∃ Z : mF, Z = up2 F 1 27 (0 : Int32) := ⟨_, rfl⟩
                rw [← eF21] at hG
                have hLF21 : LF F21 15 = LF Fa 15 ∧ F21 1 25 = Fa 1 25 := by rw [eF21, LF_up (by decide), up2_ne (by omega)]; exact hLF
                have hpF21 : (F21 1 26).toInt = (F 1 26).toInt := by rw [eF21, up2_ne (by omega)]
                have hbF21 : (F21 1 27).toInt = 0 := by rw [eF21, up2_at]; decide
                have hrF21 : mRN F F21 := mRN.refl.put (Or.inr rfl) eF21
                refine lv_iconst (v := 0) hx hb dX10_goesOn_140 (by decide) ?_
                have k0 := kI_0; have k1 := kI_1
                have hGO : GOx Fa F21 (0 : Int32).toInt := by rw [kI_0]; exact GO_end hex46.2.1 hPl hex46.2.2 hB eF21 hle (by omega)
                exact mc_iretX E hr hlk hG rfl (t_nz (by decide) (by decide)).1 ⟨_, rfl, by decide, by decide, Or.inl (by decide), ⟨by rw [eF21, up2_ne (by decide)]; exact hex46.1.1.1, by rw [eF21, up2_nc (by decide)]; exact hex46.1.1.2⟩, hGO⟩ dX10_goesOn_141
              · skip
                have ic20 := tn_nle rfl rfl c20
                refine lv_iconst (v := 1) hx hb dX10_goesOn_132 (by decide) ?_
                refine lv_goto (tgt := 137) hx hb dX10_goesOn_133 (by decide) ?_
                refine mc_putX E hG t0 mp_359 (by decide) (by decide) (t_nz (by decide) (by decide)).1 (t_nz (by decide) (by decide)).2 dX10_goesOn_137 (fun H locs hG => ?_)
                have hG := kO_set (PRd_27) hG
                obtain ⟨F22, eF22⟩ : ∃ Z : mF, Z = up2 F 1 27 (1 : Int32) := ⟨_, rfl⟩
                rw [← eF22] at hG
                have hLF22 : LF F22 15 = LF Fa 15 ∧ F22 1 25 = Fa 1 25 := by rw [eF22, LF_up (by decide), up2_ne (by omega)]; exact hLF
                have hpF22 : (F22 1 26).toInt = (F 1 26).toInt := by rw [eF22, up2_ne (by omega)]
                have hbF22 : (F22 1 27).toInt = 1 := by rw [eF22, up2_at]; decide
                have hrF22 : mRN F F22 := mRN.refl.put (Or.inr rfl) eF22
                refine lv_iconst (v := 0) hx hb dX10_goesOn_140 (by decide) ?_
                have k0 := kI_0; have k1 := kI_1
                have hGO : GOx Fa F22 (0 : Int32).toInt := by rw [kI_0]; exact GO_end hex46.2.1 hPl hex46.2.2 hB eF22 hle (by omega)
                exact mc_iretX E hr hlk hG rfl (t_nz (by decide) (by decide)).1 ⟨_, rfl, by decide, by decide, Or.inl (by decide), ⟨by rw [eF22, up2_ne (by decide)]; exact hex46.1.1.1, by rw [eF22, up2_nc (by decide)]; exact hex46.1.1.2⟩, hGO⟩ dX10_goesOn_141
          · skip
            have ic14 := tn_eq rfl kI_44 c14
            refine lv_aload_n hx hb dX10_goesOn_101 rfl (lv_at hl 0 rfl) ?_
            refine lv_dup hx hb dX10_goesOn_102 rfl ?_
            refine mc_geti E hG t0 mi_350 dX10_goesOn_103 (fun z23 lz23 uz23 qz23 => ?_)
            have wz23 := kq qz23 (PRd_26)
            have gz23 : z23.toInt = (F 1 26).toInt := by rw [wz23]
            have hg26 : z23.toInt = (F 1 26).toInt := by rw [wz23]
            refine lv_iconst (v := 1) hx hb dX10_goesOn_106 (by decide) ?_
            refine lv_iadd hx hb dX10_goesOn_107 ?_
            refine lv_topi (fun z24 ez24 => ?_)
            have tz24 := tn_add ez24 rfl kI_1 (by omega) (by omega)
            refine mc_putX E hG t0 mp_350 (by omega) (by omega) rfl rfl dX10_goesOn_108 (fun H locs hG => ?_)
            have hG := kO_set (PRd_26) hG
            obtain ⟨F25, eF25⟩ : ∃ Z : mF, Z = up2 F 1 26 z24 := ⟨_, rfl⟩
            rw [← eF25] at hG
            have hLF25 : LF F25 15 = LF Fa 15 ∧ F25 1 25 = Fa 1 25 := by rw [eF25, LF_up (by decide), up2_ne (by omega)]; exact hLF
            have hpF25 : (F25 1 26).toInt = z24.toInt := by rw [eF25, up2_at]
            have hbF25 : (F25 1 27).toInt = (F 1 27).toInt := by rw [eF25, up2_ne (by omega)]
            have hrF25 : mRN F F25 := mRN.refl.put (Or.inl rfl) eF25
            refine lv_iconst (v := 1) hx hb dX10_goesOn_111 (by decide) ?_
            have hg9 : RG Fa F25 := ⟨⟨by rw [eF25, up2_ne (by decide)]; exact hex46.1.1.1, by rw [eF25, up2_nc (by decide)]; exact hex46.1.1.2⟩, by rw [eF25, up2_nc (by decide)]; exact hex46.1.2.1, by rw [eF25, up2_ne (by decide)]; exact hex46.1.2.2.1, by rw [eF25, up2_ne (by decide)]; exact hex46.1.2.2.2⟩
            have hGO : GOx Fa F25 (1 : Int32).toInt := by rw [kI_1]; exact GO_comma hex46.2.1 hS hB hPl hex46.2.2 (by omega) (by omega) eF25 (by omega)
            exact mc_iretX E hr hlk hG rfl (t_nz (by decide) (by decide)).1 ⟨_, rfl, by decide, by decide, Or.inr (RG_RV hA9 hg9 (by rw [eF25, up2_ne (by decide), ← wz3]; omega)), hg9.1, hGO⟩ dX10_goesOn_112
      · skip
        have ic2 := tn_nle rfl kI_0 c2
        refine lv_aload_n hx hb dX10_goesOn_53 rfl (lv_at hl 0 rfl) ?_
        refine mc_calli hG (mc_runV (As := []) (rest := []) E hG (x_X10_here l G σ cu X F h0 t0) t0 rfl kv_X10_here ml_X10_356 ⟨rfl, rfl, Nat.le_of_ble_eq_true rfl, Nat.le_of_ble_eq_true rfl⟩ rfl hl.1 rfl (Nat.le_of_ble_eq_true rfl) ⟨Nat.zero_le _, Nat.zero_le _⟩ dX10_goesOn_54) (fun r26 H locs pr26 hG => ?_)
        replace pr26 : (r26.toInt = -1 ∧ nx (LF F 15) (F 1 25).toInt (F 1 26).toInt = 0) ∨ (0 ≤ r26.toInt ∧ r26.toInt ≤ 126 ∧ (F 1 26).toInt < (F 1 25).toInt ∧ (F 1 26).toInt ≤ 119 ∧ r26.toInt = nx (LF F 15) (F 1 25).toInt (F 1 26).toInt) := pr26
        have br26 : -1 ≤ r26.toInt ∧ r26.toInt ≤ 126 := by omega
        rw [hLF.1, hLF.2] at pr26
        refine lv_bipush (v := 41) hx hb dX10_goesOn_57 (by decide) ?_
        refine lv_icmp_ne (tgt := 85) hx hb dX10_goesOn_59 (by decide) (fun c27 => ?_) (fun c27 => ?_)
        · skip
          have ic27 := tn_ne rfl kI_41 c27
          refine lv_aload_n hx hb dX10_goesOn_85 rfl (lv_at hl 0 rfl) ?_
          refine mc_geti E hG t0 mi_367 dX10_goesOn_86 (fun z28 lz28 uz28 qz28 => ?_)
          have wz28 := kq qz28 (PRd_32)
          have gz28 : z28.toInt = (F 1 32).toInt := by rw [wz28]
          have hzz28 : z28.toInt = (F 1 32).toInt := by rw [wz28]
          refine lv_if_le (tgt := 113) hx hb dX10_goesOn_89 (by decide) (fun c29 => ?_) (fun c29 => ?_)
          · skip
            have ic29 := tn_le rfl kI_0 c29
            refine lv_aload_n hx hb dX10_goesOn_113 rfl (lv_at hl 0 rfl) ?_
            refine lv_aload_n hx hb dX10_goesOn_114 rfl (lv_at hl 0 rfl) ?_
            refine mc_geti E hG t0 mi_367 dX10_goesOn_115 (fun z30 lz30 uz30 qz30 => ?_)
            have wz30 := kq qz30 (PRd_32)
            have gz30 : z30.toInt = (F 1 32).toInt := by rw [wz30]
            have hzz30 : z30.toInt = (F 1 32).toInt := by rw [wz30]
            refine lv_if_gt (tgt := 132) hx hb dX10_goesOn_118 (by decide) (fun c31 => ?_) (fun c31 => ?_)
            · skip
              have ic31 := tn_lt kI_0 rfl c31
              refine lv_iconst (v := 1) hx hb dX10_goesOn_132 (by decide) ?_
              refine lv_goto (tgt := 137) hx hb dX10_goesOn_133 (by decide) ?_
              refine mc_putX E hG t0 mp_359 (by decide) (by decide) (t_nz (by decide) (by decide)).1 (t_nz (by decide) (by decide)).2 dX10_goesOn_137 (fun H locs hG => ?_)
              have hG := kO_set (PRd_27) hG
              obtain ⟨F32, eF32⟩ : ∃ Z : mF, Z = up2 F 1 27 (1 : Int32) := ⟨_, rfl⟩
              rw [← eF32] at hG
              have hLF32 : LF F32 15 = LF Fa 15 ∧ F32 1 25 = Fa 1 25 := by rw [eF32, LF_up (by decide), up2_ne (by omega)]; exact hLF
              have hpF32 : (F32 1 26).toInt = (F 1 26).toInt := by rw [eF32, up2_ne (by omega)]
              have hbF32 : (F32 1 27).toInt = 1 := by rw [eF32, up2_at]; decide
              have hrF32 : mRN F F32 := mRN.refl.put (Or.inr rfl) eF32
              refine lv_iconst (v := 0) hx hb dX10_goesOn_140 (by decide) ?_
              have k0 := kI_0; have k1 := kI_1
              have hGO : GOx Fa F32 (0 : Int32).toInt := by rw [kI_0]; exact GO_end hex46.2.1 hPl hex46.2.2 hB eF32 hle (by omega)
              exact mc_iretX E hr hlk hG rfl (t_nz (by decide) (by decide)).1 ⟨_, rfl, by decide, by decide, Or.inl (by decide), ⟨by rw [eF32, up2_ne (by decide)]; exact hex46.1.1.1, by rw [eF32, up2_nc (by decide)]; exact hex46.1.1.2⟩, hGO⟩ dX10_goesOn_141
            · skip
              have ic31 := tn_nlt kI_0 rfl c31
              refine lv_aload_n hx hb dX10_goesOn_121 rfl (lv_at hl 0 rfl) ?_
              refine mc_geti E hG t0 mi_350 dX10_goesOn_122 (fun z33 lz33 uz33 qz33 => ?_)
              have wz33 := kq qz33 (PRd_26)
              have gz33 : z33.toInt = (F 1 26).toInt := by rw [wz33]
              refine lv_aload_n hx hb dX10_goesOn_125 rfl (lv_at hl 0 rfl) ?_
              refine mc_geti E hG t0 mi_340 dX10_goesOn_126 (fun z34 lz34 uz34 qz34 => ?_)
              have wz34 := kq qz34 (PRd_25)
              have gz34 : z34.toInt = (F 1 25).toInt := by rw [wz34]
              refine lv_icmp_ge (tgt := 136) hx hb dX10_goesOn_129 (by decide) (fun c35 => ?_) (fun c35 => ?_)
              · skip
                have ic35 := tn_le rfl rfl c35
                refine lv_iconst (v := 0) hx hb dX10_goesOn_136 (by decide) ?_
                refine mc_putX E hG t0 mp_359 (by decide) (by decide) (t_nz (by decide) (by decide)).1 (t_nz (by decide) (by decide)).2 dX10_goesOn_137 (fun H locs hG => ?_)
                have hG := kO_set (PRd_27) hG
                obtain ⟨F36, eF36⟩ : ∃ Z : mF, Z = up2 F 1 27 (0 : Int32) := ⟨_, rfl⟩
                rw [← eF36] at hG
                have hLF36 : LF F36 15 = LF Fa 15 ∧ F36 1 25 = Fa 1 25 := by rw [eF36, LF_up (by decide), up2_ne (by omega)]; exact hLF
                have hpF36 : (F36 1 26).toInt = (F 1 26).toInt := by rw [eF36, up2_ne (by omega)]
                have hbF36 : (F36 1 27).toInt = 0 := by rw [eF36, up2_at]; decide
                have hrF36 : mRN F F36 := mRN.refl.put (Or.inr rfl) eF36
                refine lv_iconst (v := 0) hx hb dX10_goesOn_140 (by decide) ?_
                have k0 := kI_0; have k1 := kI_1
                have hGO : GOx Fa F36 (0 : Int32).toInt := by rw [kI_0]; exact GO_end hex46.2.1 hPl hex46.2.2 hB eF36 hle (by omega)
                exact mc_iretX E hr hlk hG rfl (t_nz (by decide) (by decide)).1 ⟨_, rfl, by decide, by decide, Or.inl (by decide), ⟨by rw [eF36, up2_ne (by decide)]; exact hex46.1.1.1, by rw [eF36, up2_nc (by decide)]; exact hex46.1.1.2⟩, hGO⟩ dX10_goesOn_141
              · skip
                have ic35 := tn_nle rfl rfl c35
                refine lv_iconst (v := 1) hx hb dX10_goesOn_132 (by decide) ?_
                refine lv_goto (tgt := 137) hx hb dX10_goesOn_133 (by decide) ?_
                refine mc_putX E hG t0 mp_359 (by decide) (by decide) (t_nz (by decide) (by decide)).1 (t_nz (by decide) (by decide)).2 dX10_goesOn_137 (fun H locs hG => ?_)
                have hG := kO_set (PRd_27) hG
                obtain ⟨F37, eF37⟩ : ∃ Z : mF, Z = up2 F 1 27 (1 : Int32) := ⟨_, rfl⟩
                rw [← eF37] at hG
                have hLF37 : LF F37 15 = LF Fa 15 ∧ F37 1 25 = Fa 1 25 := by rw [eF37, LF_up (by decide), up2_ne (by omega)]; exact hLF
                have hpF37 : (F37 1 26).toInt = (F 1 26).toInt := by rw [eF37, up2_ne (by omega)]
                have hbF37 : (F37 1 27).toInt = 1 := by rw [eF37, up2_at]; decide
                have hrF37 : mRN F F37 := mRN.refl.put (Or.inr rfl) eF37
                refine lv_iconst (v := 0) hx hb dX10_goesOn_140 (by decide) ?_
                have k0 := kI_0; have k1 := kI_1
                have hGO : GOx Fa F37 (0 : Int32).toInt := by rw [kI_0]; exact GO_end hex46.2.1 hPl hex46.2.2 hB eF37 hle (by omega)
                exact mc_iretX E hr hlk hG rfl (t_nz (by decide) (by decide)).1 ⟨_, rfl, by decide, by decide, Or.inl (by decide), ⟨by rw [eF37, up2_ne (by decide)]; exact hex46.1.1.1, by rw [eF37, up2_nc (by decide)]; exact hex46.1.1.2⟩, hGO⟩ dX10_goesOn_141
          · skip
            have ic29 := tn_nle rfl kI_0 c29
            refine lv_aload_n hx hb dX10_goesOn_92 rfl (lv_at hl 0 rfl) ?_
            refine mc_calli hG (mc_runV (As := []) (rest := []) E hG (x_X10_here l G σ cu X F h0 t0) t0 rfl kv_X10_here ml_X10_356 ⟨rfl, rfl, Nat.le_of_ble_eq_true rfl, Nat.le_of_ble_eq_true rfl⟩ rfl hl.1 rfl (Nat.le_of_ble_eq_true rfl) ⟨Nat.zero_le _, Nat.zero_le _⟩ dX10_goesOn_93) (fun r38 H locs pr38 hG => ?_)
            replace pr38 : (r38.toInt = -1 ∧ nx (LF F 15) (F 1 25).toInt (F 1 26).toInt = 0) ∨ (0 ≤ r38.toInt ∧ r38.toInt ≤ 126 ∧ (F 1 26).toInt < (F 1 25).toInt ∧ (F 1 26).toInt ≤ 119 ∧ r38.toInt = nx (LF F 15) (F 1 25).toInt (F 1 26).toInt) := pr38
            have br38 : -1 ≤ r38.toInt ∧ r38.toInt ≤ 126 := by omega
            rw [hLF.1, hLF.2] at pr38
            refine lv_bipush (v := 44) hx hb dX10_goesOn_96 (by decide) ?_
            refine lv_icmp_ne (tgt := 113) hx hb dX10_goesOn_98 (by decide) (fun c39 => ?_) (fun c39 => ?_)
            · skip
              have ic39 := tn_ne rfl kI_44 c39
              refine lv_aload_n hx hb dX10_goesOn_113 rfl (lv_at hl 0 rfl) ?_
              refine lv_aload_n hx hb dX10_goesOn_114 rfl (lv_at hl 0 rfl) ?_
              refine mc_geti E hG t0 mi_367 dX10_goesOn_115 (fun z40 lz40 uz40 qz40 => ?_)
              have wz40 := kq qz40 (PRd_32)
              have gz40 : z40.toInt = (F 1 32).toInt := by rw [wz40]
              have hzz40 : z40.toInt = (F 1 32).toInt := by rw [wz40]
              refine lv_if_gt (tgt := 132) hx hb dX10_goesOn_118 (by decide) (fun c41 => ?_) (fun c41 => ?_)
              · skip
                have ic41 := tn_lt kI_0 rfl c41
                refine lv_iconst (v := 1) hx hb dX10_goesOn_132 (by decide) ?_
                refine lv_goto (tgt := 137) hx hb dX10_goesOn_133 (by decide) ?_
                refine mc_putX E hG t0 mp_359 (by decide) (by decide) (t_nz (by decide) (by decide)).1 (t_nz (by decide) (by decide)).2 dX10_goesOn_137 (fun H locs hG => ?_)
                have hG := kO_set (PRd_27) hG
                obtain ⟨F42, eF42⟩ : ∃ Z : mF, Z = up2 F 1 27 (1 : Int32) := ⟨_, rfl⟩
                rw [← eF42] at hG
                have hLF42 : LF F42 15 = LF Fa 15 ∧ F42 1 25 = Fa 1 25 := by rw [eF42, LF_up (by decide), up2_ne (by omega)]; exact hLF
                have hpF42 : (F42 1 26).toInt = (F 1 26).toInt := by rw [eF42, up2_ne (by omega)]
                have hbF42 : (F42 1 27).toInt = 1 := by rw [eF42, up2_at]; decide
                have hrF42 : mRN F F42 := mRN.refl.put (Or.inr rfl) eF42
                refine lv_iconst (v := 0) hx hb dX10_goesOn_140 (by decide) ?_
                have k0 := kI_0; have k1 := kI_1
                have hGO : GOx Fa F42 (0 : Int32).toInt := by rw [kI_0]; exact GO_end hex46.2.1 hPl hex46.2.2 hB eF42 hle (by omega)
                exact mc_iretX E hr hlk hG rfl (t_nz (by decide) (by decide)).1 ⟨_, rfl, by decide, by decide, Or.inl (by decide), ⟨by rw [eF42, up2_ne (by decide)]; exact hex46.1.1.1, by rw [eF42, up2_nc (by decide)]; exact hex46.1.1.2⟩, hGO⟩ dX10_goesOn_141
              · skip
                have ic41 := tn_nlt kI_0 rfl c41
                refine lv_aload_n hx hb dX10_goesOn_121 rfl (lv_at hl 0 rfl) ?_
                refine mc_geti E hG t0 mi_350 dX10_goesOn_122 (fun z43 lz43 uz43 qz43 => ?_)
                have wz43 := kq qz43 (PRd_26)
                have gz43 : z43.toInt = (F 1 26).toInt := by rw [wz43]
                refine lv_aload_n hx hb dX10_goesOn_125 rfl (lv_at hl 0 rfl) ?_
                refine mc_geti E hG t0 mi_340 dX10_goesOn_126 (fun z44 lz44 uz44 qz44 => ?_)
                have wz44 := kq qz44 (PRd_25)
                have gz44 : z44.toInt = (F 1 25).toInt := by rw [wz44]
                refine lv_icmp_ge (tgt := 136) hx hb dX10_goesOn_129 (by decide) (fun c45 => ?_) (fun c45 => ?_)
                · skip
                  have ic45 := tn_le rfl rfl c45
                  refine lv_iconst (v := 0) hx hb dX10_goesOn_136 (by decide) ?_
                  refine mc_putX E hG t0 mp_359 (by decide) (by decide) (t_nz (by decide) (by decide)).1 (t_nz (by decide) (by decide)).2 dX10_goesOn_137 (fun H locs hG => ?_)
                  have hG := kO_set (PRd_27) hG
                  obtain ⟨F46, eF46⟩ : ∃ Z : mF, Z = up2 F 1 27 (0 : Int32) := ⟨_, rfl⟩
                  rw [← eF46] at hG
                  have hLF46 : LF F46 15 = LF Fa 15 ∧ F46 1 25 = Fa 1 25 := by rw [eF46, LF_up (by decide), up2_ne (by omega)]; exact hLF
                  have hpF46 : (F46 1 26).toInt = (F 1 26).toInt := by rw [eF46, up2_ne (by omega)]
                  have hbF46 : (F46 1 27).toInt = 0 := by rw [eF46, up2_at]; decide
                  have hrF46 : mRN F F46 := mRN.refl.put (Or.inr rfl) eF46
                  refine lv_iconst (v := 0) hx hb dX10_goesOn_140 (by decide) ?_
                  have k0 := kI_0; have k1 := kI_1
                  have hGO : GOx Fa F46 (0 : Int32).toInt := by rw [kI_0]; exact GO_end hex46.2.1 hPl hex46.2.2 hB eF46 hle (by omega)
                  exact mc_iretX E hr hlk hG rfl (t_nz (by decide) (by decide)).1 ⟨_, rfl, by decide, by decide, Or.inl (by decide), ⟨by rw [eF46, up2_ne (by decide)]; exact hex46.1.1.1, by rw [eF46, up2_nc (by decide)]; exact hex46.1.1.2⟩, hGO⟩ dX10_goesOn_141
                · skip
                  have ic45 := tn_nle rfl rfl c45
                  refine lv_iconst (v := 1) hx hb dX10_goesOn_132 (by decide) ?_
                  refine lv_goto (tgt := 137) hx hb dX10_goesOn_133 (by decide) ?_
                  refine mc_putX E hG t0 mp_359 (by decide) (by decide) (t_nz (by decide) (by decide)).1 (t_nz (by decide) (by decide)).2 dX10_goesOn_137 (fun H locs hG => ?_)
                  have hG := kO_set (PRd_27) hG
                  obtain ⟨F47, eF47⟩ : ∃ Z : mF, Z = up2 F 1 27 (1 : Int32) := ⟨_, rfl⟩
                  rw [← eF47] at hG
                  have hLF47 : LF F47 15 = LF Fa 15 ∧ F47 1 25 = Fa 1 25 := by rw [eF47, LF_up (by decide), up2_ne (by omega)]; exact hLF
                  have hpF47 : (F47 1 26).toInt = (F 1 26).toInt := by rw [eF47, up2_ne (by omega)]
                  have hbF47 : (F47 1 27).toInt = 1 := by rw [eF47, up2_at]; decide
                  have hrF47 : mRN F F47 := mRN.refl.put (Or.inr rfl) eF47
                  refine lv_iconst (v := 0) hx hb dX10_goesOn_140 (by decide) ?_
                  have k0 := kI_0; have k1 := kI_1
                  have hGO : GOx Fa F47 (0 : Int32).toInt := by rw [kI_0]; exact GO_end hex46.2.1 hPl hex46.2.2 hB eF47 hle (by omega)
                  exact mc_iretX E hr hlk hG rfl (t_nz (by decide) (by decide)).1 ⟨_, rfl, by decide, by decide, Or.inl (by decide), ⟨by rw [eF47, up2_ne (by decide)]; exact hex46.1.1.1, by rw [eF47, up2_nc (by decide)]; exact hex46.1.1.2⟩, hGO⟩ dX10_goesOn_141
            · skip
              have ic39 := tn_eq rfl kI_44 c39
              refine lv_aload_n hx hb dX10_goesOn_101 rfl (lv_at hl 0 rfl) ?_
              refine lv_dup hx hb dX10_goesOn_102 rfl ?_
              refine mc_geti E hG t0 mi_350 dX10_goesOn_103 (fun z48 lz48 uz48 qz48 => ?_)
              have wz48 := kq qz48 (PRd_26)
              have gz48 : z48.toInt = (F 1 26).toInt := by rw [wz48]
              have hg26 : z48.toInt = (F 1 26).toInt := by rw [wz48]
              refine lv_iconst (v := 1) hx hb dX10_goesOn_106 (by decide) ?_
              refine lv_iadd hx hb dX10_goesOn_107 ?_
              refine lv_topi (fun z49 ez49 => ?_)
              have tz49 := tn_add ez49 rfl kI_1 (by omega) (by omega)
              refine mc_putX E hG t0 mp_350 (by omega) (by omega) rfl rfl dX10_goesOn_108 (fun H locs hG => ?_)
              have hG := kO_set (PRd_26) hG
              obtain ⟨F50, eF50⟩ : ∃ Z : mF, Z = up2 F 1 26 z49 := ⟨_, rfl⟩
              rw [← eF50] at hG
              have hLF50 : LF F50 15 = LF Fa 15 ∧ F50 1 25 = Fa 1 25 := by rw [eF50, LF_up (by decide), up2_ne (by omega)]; exact hLF
              have hpF50 : (F50 1 26).toInt = z49.toInt := by rw [eF50, up2_at]
              have hbF50 : (F50 1 27).toInt = (F 1 27).toInt := by rw [eF50, up2_ne (by omega)]
              have hrF50 : mRN F F50 := mRN.refl.put (Or.inl rfl) eF50
              refine lv_iconst (v := 1) hx hb dX10_goesOn_111 (by decide) ?_
              have hg9 : RG Fa F50 := ⟨⟨by rw [eF50, up2_ne (by decide)]; exact hex46.1.1.1, by rw [eF50, up2_nc (by decide)]; exact hex46.1.1.2⟩, by rw [eF50, up2_nc (by decide)]; exact hex46.1.2.1, by rw [eF50, up2_ne (by decide)]; exact hex46.1.2.2.1, by rw [eF50, up2_ne (by decide)]; exact hex46.1.2.2.2⟩
              have hGO : GOx Fa F50 (1 : Int32).toInt := by rw [kI_1]; exact GO_comma hex46.2.1 hS hB hPl hex46.2.2 (by omega) (by omega) eF50 (by omega)
              exact mc_iretX E hr hlk hG rfl (t_nz (by decide) (by decide)).1 ⟨_, rfl, by decide, by decide, Or.inr (RG_RV hA9 hg9 (by rw [eF50, up2_ne (by decide), ← wz28]; omega)), hg9.1, hGO⟩ dX10_goesOn_112
        · skip
          have ic27 := tn_eq rfl kI_41 c27
          refine lv_aload_n hx hb dX10_goesOn_62 rfl (lv_at hl 0 rfl) ?_
          refine lv_dup hx hb dX10_goesOn_63 rfl ?_
          refine mc_geti E hG t0 mi_350 dX10_goesOn_64 (fun z51 lz51 uz51 qz51 => ?_)
          have wz51 := kq qz51 (PRd_26)
          have gz51 : z51.toInt = (F 1 26).toInt := by rw [wz51]
          have hg26 : z51.toInt = (F 1 26).toInt := by rw [wz51]
          refine lv_iconst (v := 1) hx hb dX10_goesOn_67 (by decide) ?_
          refine lv_iadd hx hb dX10_goesOn_68 ?_
          refine lv_topi (fun z52 ez52 => ?_)
          have tz52 := tn_add ez52 rfl kI_1 (by omega) (by omega)
          refine mc_putX E hG t0 mp_350 (by omega) (by omega) rfl rfl dX10_goesOn_69 (fun H locs hG => ?_)
          have hG := kO_set (PRd_26) hG
          obtain ⟨F53, eF53⟩ : ∃ Z : mF, Z = up2 F 1 26 z52 := ⟨_, rfl⟩
          rw [← eF53] at hG
          have hLF53 : LF F53 15 = LF Fa 15 ∧ F53 1 25 = Fa 1 25 := by rw [eF53, LF_up (by decide), up2_ne (by omega)]; exact hLF
          have hpF53 : (F53 1 26).toInt = z52.toInt := by rw [eF53, up2_at]
          have hbF53 : (F53 1 27).toInt = (F 1 27).toInt := by rw [eF53, up2_ne (by omega)]
          have hrF53 : mRN F F53 := mRN.refl.put (Or.inl rfl) eF53
          refine lv_aload_n hx hb dX10_goesOn_72 rfl (lv_at hl 0 rfl) ?_
          refine lv_dup hx hb dX10_goesOn_73 rfl ?_
          refine mc_geti E hG t0 mi_367 dX10_goesOn_74 (fun z54 lz54 uz54 qz54 => ?_)
          have wz54 := kq qz54 (PRd_32)
          have gz54 : z54.toInt = (F53 1 32).toInt := by rw [wz54]
          have hz77 : z54.toInt = (F 1 32).toInt := by rw [wz54, eF53, up2_ne (by decide)]
          refine lv_iconst (v := 1) hx hb dX10_goesOn_77 (by decide) ?_
          refine lv_isub hx hb dX10_goesOn_78 ?_
          refine lv_topi (fun z55 ez55 => ?_)
          have tz55 := tn_sub ez55 rfl kI_1 (by omega) (by omega)
          refine mc_putX E hG t0 mp_367 (by omega) (by omega) rfl rfl dX10_goesOn_79 (fun H locs hG => ?_)
          have hG := kO_set (PRd_32) hG
          obtain ⟨F56, eF56⟩ : ∃ Z : mF, Z = up2 F53 1 32 z55 := ⟨_, rfl⟩
          rw [← eF56] at hG
          have hLF56 : LF F56 15 = LF Fa 15 ∧ F56 1 25 = Fa 1 25 := by rw [eF56, LF_up (by decide), up2_ne (by omega)]; exact hLF53
          have hpF56 : (F56 1 26).toInt = (F53 1 26).toInt := by rw [eF56, up2_ne (by omega)]
          have hbF56 : (F56 1 27).toInt = (F53 1 27).toInt := by rw [eF56, up2_ne (by omega)]
          refine lv_goto (tgt := 46) hx hb dX10_goesOn_82 (by decide) ?_
          have hQ : RG Fa F56 := ⟨⟨by rw [eF56, up2_ne (by decide), eF53, up2_ne (by decide)]; exact hex46.1.1.1, by rw [eF56, up2_nc (by decide), eF53, up2_nc (by decide)]; exact hex46.1.1.2⟩, by rw [eF56, up2_nc (by decide), eF53, up2_nc (by decide)]; exact hex46.1.2.1, by rw [eF56, up2_at]; omega, by rw [eF56, up2_at]; omega⟩
          have hms : (F56 1 32).toInt = (F 1 32).toInt - 1 := by rw [eF56, up2_at]; omega
          have hQu := UPx_s hex46.2.1 hS hB (by omega) (by omega) eF53 (by omega) eF56 (by omega)
          have hQ4 := hex46.2.2
          exact ih46 F56 H locs ls hG (lv_sub hl [0] rfl) (by exact ⟨hQ, hQu, hQ4⟩) (by omega)
  refine lv_aload_n hx hb dX10_goesOn_0 rfl (lv_at hl 0 rfl) ?_
  refine mc_calli hG (mc_runV (As := []) (rest := []) E hG (x_X10_here l G σ cu X Fa h0 t0) t0 rfl kv_X10_here ml_X10_356 ⟨rfl, rfl, Nat.le_of_ble_eq_true rfl, Nat.le_of_ble_eq_true rfl⟩ rfl hl.1 rfl (Nat.le_of_ble_eq_true rfl) ⟨Nat.zero_le _, Nat.zero_le _⟩ dX10_goesOn_1) (fun r57 H locs pr57 hG => ?_)
  replace pr57 : (r57.toInt = -1 ∧ nx (LF Fa 15) (Fa 1 25).toInt (Fa 1 26).toInt = 0) ∨ (0 ≤ r57.toInt ∧ r57.toInt ≤ 126 ∧ (Fa 1 26).toInt < (Fa 1 25).toInt ∧ (Fa 1 26).toInt ≤ 119 ∧ r57.toInt = nx (LF Fa 15) (Fa 1 25).toInt (Fa 1 26).toInt) := pr57
  have br57 : -1 ≤ r57.toInt ∧ r57.toInt ≤ 126 := by omega
  rw [hLFa.1, hLFa.2] at pr57
  refine lv_bipush (v := 40) hx hb dX10_goesOn_4 (by decide) ?_
  refine lv_icmp_ne (tgt := 46) hx hb dX10_goesOn_6 (by decide) (fun c58 => ?_) (fun c58 => ?_)
  · skip
    have ic58 := tn_ne rfl kI_40 c58
    have hQ : RG Fa Fa := ⟨⟨rfl, rfl⟩, rfl, by omega, Int.le_refl _⟩
    have hQu : UPx Fa Fa := UPx_0 (by omega)
    have hQ4 : ¬ nx (LF Fa 15) (Fa 1 25).toInt (Fa 1 26).toInt = 40 := by omega
    exact J46 ((Fa 1 32).toInt.toNat + 1) Fa H locs ls hG (lv_sub hl [0] rfl) (by exact ⟨hQ, hQu, hQ4⟩) (Nat.lt_succ_self _)
  · skip
    have ic58 := tn_eq rfl kI_40 c58
    refine lv_aload_n hx hb dX10_goesOn_9 rfl (lv_at hl 0 rfl) ?_
    refine lv_dup hx hb dX10_goesOn_10 rfl ?_
    refine mc_geti E hG t0 mi_350 dX10_goesOn_11 (fun z59 lz59 uz59 qz59 => ?_)
    have wz59 := kq qz59 (PRd_26)
    have gz59 : z59.toInt = (Fa 1 26).toInt := by rw [wz59]
    have hg26 : z59.toInt = (Fa 1 26).toInt := by rw [wz59]
    refine lv_iconst (v := 1) hx hb dX10_goesOn_14 (by decide) ?_
    refine lv_iadd hx hb dX10_goesOn_15 ?_
    refine lv_topi (fun z60 ez60 => ?_)
    have tz60 := tn_add ez60 rfl kI_1 (by omega) (by omega)
    refine mc_putX E hG t0 mp_350 (by omega) (by omega) rfl rfl dX10_goesOn_16 (fun H locs hG => ?_)
    have hG := kO_set (PRd_26) hG
    obtain ⟨F61, eF61⟩ : ∃ Z : mF, Z = up2 Fa 1 26 z60 := ⟨_, rfl⟩
    rw [← eF61] at hG
    have hLF61 : LF F61 15 = LF Fa 15 ∧ F61 1 25 = Fa 1 25 := by rw [eF61, LF_up (by decide), up2_ne (by omega)]; exact hLFa
    have hpF61 : (F61 1 26).toInt = z60.toInt := by rw [eF61, up2_at]
    have hbF61 : (F61 1 27).toInt = (Fa 1 27).toInt := by rw [eF61, up2_ne (by omega)]
    have hrF61 : mRN Fa F61 := mRN.refl.put (Or.inl rfl) eF61
    refine lv_aload_n hx hb dX10_goesOn_19 rfl (lv_at hl 0 rfl) ?_
    refine mc_getr E hG t0 mr_63 dX10_goesOn_20 (fun oa62 hoa62 => ?_)
    refine lv_aload_n hx hb dX10_goesOn_23 rfl (lv_at hl 0 rfl) ?_
    refine mc_geti E hG t0 mi_367 dX10_goesOn_24 (fun z63 lz63 uz63 qz63 => ?_)
    have wz63 := kq qz63 (PRd_32)
    have gz63 : z63.toInt = (F61 1 32).toInt := by rw [wz63]
    have hgw : z63.toInt = (Fa 1 32).toInt := by rw [wz63, eF61, up2_ne (by decide)]
    refine lv_aload_n hx hb dX10_goesOn_27 rfl (lv_at hl 0 rfl) ?_
    refine mc_geti E hG t0 mi_370 dX10_goesOn_28 (fun z64 lz64 uz64 qz64 => ?_)
    have wz64 := kq qz64 (PRd_30)
    have gz64 : z64.toInt = (F61 1 30).toInt := by rw [wz64]
    have hgn : z64.toInt = (Fa 1 30).toInt := by rw [wz64, eF61, up2_ne (by decide)]
    refine lv_iconst (v := 1) hx hb dX10_goesOn_31 (by decide) ?_
    refine lv_isub hx hb dX10_goesOn_32 ?_
    refine lv_topi (fun z65 ez65 => ?_)
    have tz65 := tn_sub ez65 rfl kI_1 (by omega) (by omega)
    refine mc_iastX E hG hoa62 ma_18.1 ma_18.2.1 (ma_18.2.2 _) (t_in (by omega) (by omega)) (by omega) (by omega) dX10_goesOn_33 (fun H locs hG => ?_)
    have hG := kO_set (PRd_18) hG
    obtain ⟨F66, eF66⟩ : ∃ Z : mF, Z = up2 F61 18 (z63).toNatClampNeg z65 := ⟨_, rfl⟩
    rw [← eF66] at hG
    have hLF66 : LF F66 15 = LF Fa 15 ∧ F66 1 25 = Fa 1 25 := by rw [eF66, LF_up (by decide), up2_ne (by omega)]; exact hLF61
    have hpF66 : (F66 1 26).toInt = (F61 1 26).toInt := by rw [eF66, up2_ne (by omega)]
    have hbF66 : (F66 1 27).toInt = (F61 1 27).toInt := by rw [eF66, up2_ne (by omega)]
    refine lv_aload_n hx hb dX10_goesOn_34 rfl (lv_at hl 0 rfl) ?_
    refine lv_dup hx hb dX10_goesOn_35 rfl ?_
    refine mc_geti E hG t0 mi_367 dX10_goesOn_36 (fun z67 lz67 uz67 qz67 => ?_)
    have wz67 := kq qz67 (PRd_32)
    have gz67 : z67.toInt = (F66 1 32).toInt := by rw [wz67]
    have hgw2 : z67.toInt = (Fa 1 32).toInt := by rw [wz67, eF66, up2_ne (by omega), eF61, up2_ne (by decide)]
    refine lv_iconst (v := 1) hx hb dX10_goesOn_39 (by decide) ?_
    refine lv_iadd hx hb dX10_goesOn_40 ?_
    refine lv_topi (fun z68 ez68 => ?_)
    have tz68 := tn_add ez68 rfl kI_1 (by omega) (by omega)
    refine mc_putX E hG t0 mp_367 (by omega) (by omega) rfl rfl dX10_goesOn_41 (fun H locs hG => ?_)
    have hG := kO_set (PRd_32) hG
    obtain ⟨F69, eF69⟩ : ∃ Z : mF, Z = up2 F66 1 32 z68 := ⟨_, rfl⟩
    rw [← eF69] at hG
    have hLF69 : LF F69 15 = LF Fa 15 ∧ F69 1 25 = Fa 1 25 := by rw [eF69, LF_up (by decide), up2_ne (by omega)]; exact hLF66
    have hpF69 : (F69 1 26).toInt = (F66 1 26).toInt := by rw [eF69, up2_ne (by omega)]
    have hbF69 : (F69 1 27).toInt = (F66 1 27).toInt := by rw [eF69, up2_ne (by omega)]
    refine lv_iconst (v := 1) hx hb dX10_goesOn_44 (by decide) ?_
    have hP := RG_push (w := 0) hA9 eF61 eF66 (by show ((z63.toInt.toNat : Nat) : Int) = _; omega) (by omega) eF69 (by omega)
    have hGO : GOx Fa F69 (1 : Int32).toInt := by rw [kI_1]; exact GO_push (w := 0) hS (by omega) (by omega) hPl (by omega) eF61 (by omega) eF66 (by show ((z63.toInt.toNat : Nat) : Int) = _; omega) (by omega) eF69 (by omega)
    exact mc_iretX E hr hlk hG rfl (t_nz (by decide) (by decide)).1 ⟨_, rfl, by decide, by decide, Or.inr hP.1, hP.2, hGO⟩ dX10_goesOn_45

