/-! ===== the reference: asking ===== -/
set_option maxHeartbeats 4000000 in
set_option maxRecDepth 100000 in
theorem c_X10_asksIt (l : Launch) (G : tG) (σ : Nat → Nat) (cu : Nat) (X : mX) (h0 : Nat) (x1 : Int32) (x2 : Int32) (t0 : σ h0 = 1) (l1 : 0 ≤ x1.toInt) (u1 : x1.toInt ≤ 23) (l2 : 0 ≤ x2.toInt) (u2 : x2.toInt ≤ 1) (t : Nat → Int32) (hT : TI (σ, cu, X) t) (hI : TInv t) (hA : mAV (σ, cu, X)) (hc : x1.toInt < (t 3).toInt) : Met l yX10_asksIt (.code yX10_asksIt cX10_asksIt 7 (some .int) :: tWS) (tRm 5 116) (va_Pc [.ref h0, .int x1, .int x2] (mPre G (σ, cu, X))) (mQi G (σ, cu, X) (fun r => True)) 0 0 (mA (σ, cu, X)) := by
  refine mc_met (by decide) (Nat.le_of_ble_eq_true rfl) ?_
  intro p e s m below meth c E hr hlk hG ls hl
  have hl : lv_has ls 7 [(0, .ref h0), (1, .int x1), (2, .int x2)] := hl
  have hx := E.1
  have hb := E.2.1
  obtain ⟨H, eH⟩ : ∃ H, H = s.heap := ⟨_, rfl⟩
  obtain ⟨locs, eL⟩ : ∃ x : List Loc, x = [] := ⟨_, rfl⟩
  have hG : mGH G (σ, cu, X) s H locs := by rw [eH, eL]; exact hG
  suffices hW : W p l e (tRm 5 116) s m ([.ref h0, .int x1, .int x2] : List Value).toArray below meth c H locs 0 0 (MQ below (mQi G (σ, cu, X) (fun r => True)) ([.ref h0, .int x1, .int x2] : List Value).toArray s 0 0 (mA (σ, cu, X))) (F0 m 0 ls []) by subst eH; subst eL; exact hW
  clear eH eL
  obtain ⟨Fa, hG⟩ := mGain hG
  have hG : mGH G (σ, cu, kO (PA cu) X Fa) s H locs := hG (PA cu)
  have hcu : mCu cu := hG.2.2.1
  have J32 : ∀ (n32 : Nat) (F : mF) (H : Heap) (locs : List Loc) (ls : Array Slot) (v3 : Int32), mGH G (σ, cu, kO (PA cu) X F) s H locs → lv_has ls 7 [(0, .ref h0), (1, .int x1), (2, .int x2), (3, .int v3)] → 0 ≤ v3.toInt → v3.toInt ≤ 24 → AI cu (t 3).toInt F v3.toInt → AM cu F v3.toInt < n32 → W p l e (tRm 5 116) s m ([.ref h0, .int x1, .int x2] : List Value).toArray below meth c H locs 0 0 (MQ below (mQi G (σ, cu, X) (fun r => True)) ([.ref h0, .int x1, .int x2] : List Value).toArray s 0 0 (mA (σ, cu, X))) (F0 m 32 ls []) := by
    intro n32
    induction n32 with
    | zero => intro F H locs ls v3 hG hl b3 c3 hex32 hn32; exact absurd hn32 (Nat.not_lt_zero _)
    | succ n32 ih32 =>
      intro F H locs ls v3 hG hl b3 c3 hex32 hn32
      refine lv_iload_n hx hb dX10_asksIt_32 rfl (lv_at hl 3 rfl) ?_
      refine lv_if_le (tgt := 179) hx hb dX10_asksIt_33 (by decide) (fun c1 => ?_) (fun c1 => ?_)
      · skip
        have ic1 := tn_le rfl kI_0 c1
        refine lv_aload_n hx hb dX10_asksIt_179 rfl (lv_at hl 0 rfl) ?_
        refine lv_iload_n hx hb dX10_asksIt_180 rfl (lv_at hl 1 rfl) ?_
        refine lv_bipush (v := 22) hx hb dX10_asksIt_181 (by decide) ?_
        refine lv_iload_n hx hb dX10_asksIt_183 rfl (lv_at hl 2 rfl) ?_
        refine lv_iadd hx hb dX10_asksIt_184 ?_
        refine lv_topi (fun z2 ez2 => ?_)
        have tz2 := tn_add ez2 kI_22 rfl (by omega) (by omega)
        refine tc_callp (mc_runV (As := [.int x1, .int z2]) (rest := []) E hG (c_X10_get l G (σ, cu, kO (PA cu) X F) h0 x1 z2 t0 (by omega) (by omega) (by omega) (by omega)) t0 rfl kv_X10_get ml_X10_91 ⟨rfl, rfl, Nat.le_of_ble_eq_true rfl, Nat.le_of_ble_eq_true rfl⟩ rfl hl.1 rfl (Nat.le_of_ble_eq_true rfl) ⟨Nat.zero_le _, Nat.zero_le _⟩ dX10_asksIt_185) (fun r3 pr3 => ?_)
        replace pr3 : mV (σ, cu, kO (PA cu) X F) (ix x1.toInt z2.toInt) r3 := pr3
        have hG := kO_drop (PA_none hA) hG
        exact mc_iret E hr hlk hG trivial dX10_asksIt_188
      · skip
        have ic1 := tn_nle rfl kI_0 c1
        refine lv_aload_n hx hb dX10_asksIt_36 rfl (lv_at hl 0 rfl) ?_
        refine mc_getr E hG t0 mr_27 dX10_asksIt_37 (fun oa4 hoa4 => ?_)
        refine lv_iload_n hx hb dX10_asksIt_40 rfl (lv_at hl 3 rfl) ?_
        refine lv_iconst (v := 1) hx hb dX10_asksIt_41 (by decide) ?_
        refine lv_isub hx hb dX10_asksIt_42 ?_
        refine lv_topi (fun z5 ez5 => ?_)
        have tz5 := tn_sub ez5 rfl kI_1 (by omega) (by omega)
        refine mc_iald E hG hoa4 ma_6 (t_in (by omega) (by omega)) dX10_asksIt_43 (fun z6 lz6 uz6 qz6 => ?_)
        have wz6 := kq qz6 (PA_6)
        refine lv_istore (lv' := [(4, .int z6), (0, .ref h0), (1, .int x1), (2, .int x2), (3, .int v3)]) hx hb dX10_asksIt_44 hl (by decide) rfl (fun ls hl => ?_)
        refine lv_aload_n hx hb dX10_asksIt_46 rfl (lv_at hl 1 rfl) ?_
        refine mc_getr E hG t0 mr_30 dX10_asksIt_47 (fun oa7 hoa7 => ?_)
        refine lv_iload_n hx hb dX10_asksIt_50 rfl (lv_at hl 4 rfl) ?_
        refine lv_iconst (v := 1) hx hb dX10_asksIt_51 (by decide) ?_
        refine lv_isub hx hb dX10_asksIt_52 ?_
        refine lv_topi (fun z8 ez8 => ?_)
        have tz8 := tn_sub ez8 rfl kI_1 (by omega) (by omega)
        refine mc_iald E hG hoa7 ma_7 (t_in (by omega) (by omega)) dX10_asksIt_53 (fun z9 lz9 uz9 qz9 => ?_)
        have wz9 := kq qz9 (PA_7)
        refine lv_istore (lv' := [(5, .int z9), (4, .int z6), (0, .ref h0), (1, .int x1), (2, .int x2), (3, .int v3)]) hx hb dX10_asksIt_54 hl (by decide) rfl (fun ls hl => ?_)
        refine lv_aload_n hx hb dX10_asksIt_56 rfl (lv_at hl 2 rfl) ?_
        refine lv_iload hx hb dX10_asksIt_57 (lv_at hl 1 rfl) ?_
        refine lv_iload hx hb dX10_asksIt_59 (lv_at hl 0 rfl) ?_
        refine tc_callp (mc_runV (As := [.int z6, .int z9]) (rest := []) E hG (c_X10_untold l G (σ, cu, kO (PA cu) X F) h0 z6 z9 t0 (by omega) (by omega) (by omega) (by omega) t (kO_TI (PA_tr hcu) hT) hI) t0 rfl kv_X10_untold ml_X10_196 ⟨rfl, rfl, Nat.le_of_ble_eq_true rfl, Nat.le_of_ble_eq_true rfl⟩ rfl hl.1 rfl (Nat.le_of_ble_eq_true rfl) ⟨Nat.zero_le _, Nat.zero_le _⟩ dX10_asksIt_61) (fun r10 pr10 => ?_)
        replace pr10 : r10.toInt = -1 ∨ (z6.toInt < r10.toInt ∧ r10.toInt ≤ 23 ∧ r10.toInt < (t 3).toInt ∧ ∃ me : Int32, mV (σ, cu, kO (PA cu) X F) (ix r10.toInt 21) me ∧ ((K t z6.toInt 1 = 5 ∧ bU me 0) ∨ (¬ K t z6.toInt 1 = 5 ∧ bU me z9))) := pr10
        have br10 : -1 ≤ r10.toInt ∧ r10.toInt ≤ 23 := by rcases pr10 with h | h <;> omega
        refine lv_istore (lv' := [(6, .int r10), (5, .int z9), (4, .int z6), (0, .ref h0), (1, .int x1), (2, .int x2), (3, .int v3)]) hx hb dX10_asksIt_64 hl (by decide) rfl (fun ls hl => ?_)
        refine lv_iload hx hb dX10_asksIt_66 (lv_at hl 0 rfl) ?_
        refine lv_if_lt (tgt := 108) hx hb dX10_asksIt_68 (by decide) (fun c11 => ?_) (fun c11 => ?_)
        · skip
          have ic11 := tn_lt rfl kI_0 c11
          refine lv_aload_n hx hb dX10_asksIt_108 rfl (lv_at hl 3 rfl) ?_
          refine lv_iload hx hb dX10_asksIt_109 (lv_at hl 2 rfl) ?_
          refine lv_bipush (v := 22) hx hb dX10_asksIt_111 (by decide) ?_
          refine lv_iload hx hb dX10_asksIt_113 (lv_at hl 1 rfl) ?_
          refine lv_iadd hx hb dX10_asksIt_115 ?_
          refine lv_topi (fun z12 ez12 => ?_)
          have tz12 := tn_add ez12 kI_22 rfl (by omega) (by omega)
          refine lv_aload_n hx hb dX10_asksIt_116 rfl (lv_at hl 3 rfl) ?_
          refine lv_iload hx hb dX10_asksIt_117 (lv_at hl 2 rfl) ?_
          refine lv_iload hx hb dX10_asksIt_119 (lv_at hl 1 rfl) ?_
          refine tc_callp (mc_runV (As := [.int z6, .int z9]) (rest := [.int z12, .int z6, .ref h0]) E hG (c_X10_answerOf l G (σ, cu, kO (PA cu) X F) h0 z6 z9 t0 (by omega) (by omega) (by omega) (by omega)) t0 rfl kv_X10_answerOf ml_X10_199 ⟨rfl, rfl, Nat.le_of_ble_eq_true rfl, Nat.le_of_ble_eq_true rfl⟩ rfl hl.1 rfl (Nat.le_of_ble_eq_true rfl) ⟨Nat.zero_le _, Nat.zero_le _⟩ dX10_asksIt_121) (fun r13 pr13 => ?_)
          have k14 : fR z12.toInt.toNat = (-2147483648, 2147483647) := by rcases (show z12.toInt = 22 ∨ z12.toInt = 23 by omega) with h9 | h9 <;> rw [h9] <;> rfl
          refine mc_callv hG (mc_runV (As := [.int z6, .int z12, .int r13]) (rest := []) E hG (c_X10_put l G (σ, cu, kO (PA cu) X F) h0 z6 z12 r13 t0 (by omega) (by omega) (by omega) (by omega) (-2147483648) (2147483647) k14 (t_any1 _) (t_any2 _) (kn (PA_k hcu (by omega) (by omega) (by omega) (by omega)) (hA.2.2 _ _ (by omega) (by omega) (by omega) (by omega)))) t0 rfl kv_X10_put ml_X10_102 ⟨rfl, rfl, Nat.le_of_ble_eq_true rfl, Nat.le_of_ble_eq_true rfl⟩ rfl hl.1 rfl (Nat.le_of_ble_eq_true rfl) ⟨Nat.zero_le _, Nat.zero_le _⟩ dX10_asksIt_124) (fun H locs hG => ?_)
          refine lv_aload_n hx hb dX10_asksIt_127 rfl (lv_at hl 3 rfl) ?_
          refine lv_iload hx hb dX10_asksIt_128 (lv_at hl 2 rfl) ?_
          refine lv_bipush (v := 21) hx hb dX10_asksIt_130 (by decide) ?_
          refine lv_aload_n hx hb dX10_asksIt_132 rfl (lv_at hl 3 rfl) ?_
          refine lv_iload hx hb dX10_asksIt_133 (lv_at hl 2 rfl) ?_
          refine lv_bipush (v := 21) hx hb dX10_asksIt_135 (by decide) ?_
          refine tc_callp (mc_runV (As := [.int z6, .int 21]) (rest := [.int 21, .int z6, .ref h0]) E hG (c_X10_get l G (σ, cu, kO (PA cu) X F) h0 z6 (21 : Int32) t0 (by omega) (by omega) (by decide) (by decide)) t0 rfl kv_X10_get ml_X10_91 ⟨rfl, rfl, Nat.le_of_ble_eq_true rfl, Nat.le_of_ble_eq_true rfl⟩ rfl hl.1 rfl (Nat.le_of_ble_eq_true rfl) ⟨Nat.zero_le _, Nat.zero_le _⟩ dX10_asksIt_137) (fun r15 pr15 => ?_)
          replace pr15 : mV (σ, cu, kO (PA cu) X F) (ix z6.toInt (21 : Int32).toInt) r15 := pr15
          have pr15 := mV_l pr15 kI_21
          have br15 := mV_21 pr15 (by omega)
          have k16 := kI_21
          have wr15 := kv pr15 (PA_m (by omega) (by omega))
          refine lv_iconst (v := 1) hx hb dX10_asksIt_140 (by decide) ?_
          refine lv_iload hx hb dX10_asksIt_141 (lv_at hl 1 rfl) ?_
          refine lv_ishl hx hb dX10_asksIt_143 ?_
          refine lv_topi (fun z17 ez17 => ?_)
          refine lv_ior hx hb dX10_asksIt_144 ?_
          refine lv_topi (fun z18 ez18 => ?_)
          have hor := bU_or (m := r15) (w := z9) (by omega) (by omega) (by omega) (by omega)
          rw [← ez17, ← ez18] at hor
          refine mc_callvX hG (mc_runV (As := [.int z6, .int 21, .int z18]) (rest := []) E hG (c_X10_putX l G (σ, cu, kO (PA cu) X F) h0 z6 (21 : Int32) z18 t0 (by omega) (by omega) (by decide) (by decide) (0) (3) rfl (by omega) (by omega)) t0 rfl kv_X10_put ml_X10_102 ⟨rfl, rfl, Nat.le_of_ble_eq_true rfl, Nat.le_of_ble_eq_true rfl⟩ rfl hl.1 rfl (Nat.le_of_ble_eq_true rfl) ⟨Nat.zero_le _, Nat.zero_le _⟩ dX10_asksIt_145) (fun Z H locs eZ pZ hG => ?_)
          rw [pZ] at hG
          clear eZ pZ Z
          rw [show (21 : Int32).toInt = 21 from kI_21] at hG
          have hG := kO_set (PA_m (by omega) (by omega)) hG
          obtain ⟨F19, eF19⟩ : ∃ Z : mF, Z = up2 F cu (ix z6.toInt 21) z18 := ⟨_, rfl⟩
          rw [← eF19] at hG
          refine lv_aload_n hx hb dX10_asksIt_148 rfl (lv_at hl 3 rfl) ?_
          refine lv_dup hx hb dX10_asksIt_149 rfl ?_
          refine mc_geti E hG t0 mi_202 dX10_asksIt_150 (fun z20 lz20 uz20 qz20 => ?_)
          refine lv_aload_n hx hb dX10_asksIt_153 rfl (lv_at hl 3 rfl) ?_
          refine mc_getn E hG t0 ff_X10_9 dX10_asksIt_154 (fun oa21 hoa21 => ?_)
          refine lv_aload_n hx hb dX10_asksIt_157 rfl (lv_at hl 3 rfl) ?_
          refine mc_getr E hG t0 mr_15 dX10_asksIt_158 (fun oa22 hoa22 => ?_)
          refine lv_acmp_ne (rx := some oa21) (ry := some oa22) (tgt := 168) hx hb dX10_asksIt_161 (by decide) (fun c23 => ?_) (fun c23 => ?_)
          · skip
            refine lv_iconst (v := 0) hx hb dX10_asksIt_168 (by decide) ?_
            refine lv_iadd hx hb dX10_asksIt_169 ?_
            refine lv_topi (fun z24 ez24 => ?_)
            refine mc_put E hG t0 mp_202 (kn (PA_1 hcu) (hA.2.1 _ (by decide))) (t_any1 _) (t_any2 _) rfl rfl dX10_asksIt_170 (fun H locs hG => ?_)
            obtain ⟨z25, ez25⟩ : ∃ y : Int32, y = v3 + (-1) := ⟨_, rfl⟩
            refine lv_iinc (v := z25) (lv' := [(3, .int z25), (6, .int r10), (5, .int z9), (4, .int z6), (0, .ref h0), (1, .int x1), (2, .int x2)]) hx hb dX10_asksIt_173 hl (k := 6) rfl (by rw [ez25]; rfl) (by decide) rfl (fun ls hl => ?_)
            have tz25 := tn_add ez25 rfl kI_m1 (by omega) (by omega)
            refine lv_goto (tgt := 32) hx hb dX10_asksIt_176 (by decide) ?_
            have hi9 : z5.toNatClampNeg = (v3.toInt - 1).toNat := by show z5.toInt.toNat = _; omega
            rw [ez18, ez17] at eF19
            have hi8 : z8.toNatClampNeg = z5.toNatClampNeg := by show z8.toInt.toNat = z5.toInt.toNat; omega
            rw [hi8] at wz9
            have hP := AI_pop (n := z5.toNatClampNeg) hex32 (by omega) hcu (by show ((z5.toInt.toNat : Nat) : Int) = _; omega) wz6 wr15 wz9 (by omega) (by omega) (by omega) (by omega) eF19
            have q9 : v3.toInt - 1 = z25.toInt := by omega
            rw [q9] at hP
            have hP2 := hP.2
            have hP3 := hP.1.1.le
            exact ih32 F19 H locs ls z25 hG (lv_sub hl [4, 5, 6, 0] rfl) (by omega) (by omega) (by first | exact hP.1 | exact hP | exact AI_0) (by omega)
          · skip
            refine lv_iconst (v := 1) hx hb dX10_asksIt_164 (by decide) ?_
            refine lv_goto (tgt := 169) hx hb dX10_asksIt_165 (by decide) ?_
            refine lv_iadd hx hb dX10_asksIt_169 ?_
            refine lv_topi (fun z26 ez26 => ?_)
            refine mc_put E hG t0 mp_202 (kn (PA_1 hcu) (hA.2.1 _ (by decide))) (t_any1 _) (t_any2 _) rfl rfl dX10_asksIt_170 (fun H locs hG => ?_)
            obtain ⟨z27, ez27⟩ : ∃ y : Int32, y = v3 + (-1) := ⟨_, rfl⟩
            refine lv_iinc (v := z27) (lv' := [(3, .int z27), (6, .int r10), (5, .int z9), (4, .int z6), (0, .ref h0), (1, .int x1), (2, .int x2)]) hx hb dX10_asksIt_173 hl (k := 6) rfl (by rw [ez27]; rfl) (by decide) rfl (fun ls hl => ?_)
            have tz27 := tn_add ez27 rfl kI_m1 (by omega) (by omega)
            refine lv_goto (tgt := 32) hx hb dX10_asksIt_176 (by decide) ?_
            have hi9 : z5.toNatClampNeg = (v3.toInt - 1).toNat := by show z5.toInt.toNat = _; omega
            rw [ez18, ez17] at eF19
            have hi8 : z8.toNatClampNeg = z5.toNatClampNeg := by show z8.toInt.toNat = z5.toInt.toNat; omega
            rw [hi8] at wz9
            have hP := AI_pop (n := z5.toNatClampNeg) hex32 (by omega) hcu (by show ((z5.toInt.toNat : Nat) : Int) = _; omega) wz6 wr15 wz9 (by omega) (by omega) (by omega) (by omega) eF19
            have q9 : v3.toInt - 1 = z27.toInt := by omega
            rw [q9] at hP
            have hP2 := hP.2
            have hP3 := hP.1.1.le
            exact ih32 F19 H locs ls z27 hG (lv_sub hl [4, 5, 6, 0] rfl) (by omega) (by omega) (by first | exact hP.1 | exact hP | exact AI_0) (by omega)
        · skip
          have ic11 := tn_nlt rfl kI_0 c11
          refine lv_aload_n hx hb dX10_asksIt_71 rfl (lv_at hl 3 rfl) ?_
          refine mc_getr E hG t0 mr_27 dX10_asksIt_72 (fun oa28 hoa28 => ?_)
          refine lv_iload_n hx hb dX10_asksIt_75 rfl (lv_at hl 6 rfl) ?_
          refine lv_iload hx hb dX10_asksIt_76 (lv_at hl 0 rfl) ?_
          refine mc_iastX E hG hoa28 ma_6.1 ma_6.2.1 (ma_6.2.2 _) (t_in (by omega) (by omega)) (by omega) (by omega) dX10_asksIt_78 (fun H locs hG => ?_)
          have hG := kO_set (PA_6) hG
          obtain ⟨F29, eF29⟩ : ∃ Z : mF, Z = up2 F 6 (v3).toNatClampNeg r10 := ⟨_, rfl⟩
          rw [← eF29] at hG
          refine lv_aload_n hx hb dX10_asksIt_79 rfl (lv_at hl 3 rfl) ?_
          refine mc_getr E hG t0 mr_30 dX10_asksIt_80 (fun oa30 hoa30 => ?_)
          refine lv_iload_n hx hb dX10_asksIt_83 rfl (lv_at hl 6 rfl) ?_
          refine lv_aload_n hx hb dX10_asksIt_84 rfl (lv_at hl 3 rfl) ?_
          refine lv_iload hx hb dX10_asksIt_85 (lv_at hl 2 rfl) ?_
          refine lv_iconst (v := 1) hx hb dX10_asksIt_87 (by decide) ?_
          refine tc_callp (mc_runV (As := [.int z6, .int 1]) (rest := [.int v3, .ref oa30]) E hG (c_X10_get l G (σ, cu, kO (PA cu) X F29) h0 z6 (1 : Int32) t0 (by omega) (by omega) (by decide) (by decide)) t0 rfl kv_X10_get ml_X10_91 ⟨rfl, rfl, Nat.le_of_ble_eq_true rfl, Nat.le_of_ble_eq_true rfl⟩ rfl hl.1 rfl (Nat.le_of_ble_eq_true rfl) ⟨Nat.zero_le _, Nat.zero_le _⟩ dX10_asksIt_88) (fun r31 pr31 => ?_)
          replace pr31 : mV (σ, cu, kO (PA cu) X F29) (ix z6.toInt (1 : Int32).toInt) r31 := pr31
          have pr31 := mV_l pr31 kI_1
          have br31 := mV_1 pr31 (by omega)
          have cr31 := mT pr31 (kO_TI (PA_tr hcu) hT) (by omega) (by omega) (by decide) (by decide)
          have k32 := kI_1
          refine lv_iconst (v := 5) hx hb dX10_asksIt_91 (by decide) ?_
          refine lv_icmp_ne (tgt := 99) hx hb dX10_asksIt_92 (by decide) (fun c33 => ?_) (fun c33 => ?_)
          · skip
            have ic33 := tn_ne rfl kI_5 c33
            refine lv_iload hx hb dX10_asksIt_99 (lv_at hl 1 rfl) ?_
            refine mc_iastX E hG hoa30 ma_7.1 ma_7.2.1 (ma_7.2.2 _) (t_in (by omega) (by omega)) (by omega) (by omega) dX10_asksIt_101 (fun H locs hG => ?_)
            have hG := kO_set (PA_7) hG
            obtain ⟨F34, eF34⟩ : ∃ Z : mF, Z = up2 F29 7 (v3).toNatClampNeg z9 := ⟨_, rfl⟩
            rw [← eF34] at hG
            obtain ⟨z35, ez35⟩ : ∃ y : Int32, y = v3 + (1) := ⟨_, rfl⟩
            refine lv_iinc (v := z35) (lv' := [(3, .int z35), (6, .int r10), (5, .int z9), (4, .int z6), (0, .ref h0), (1, .int x1), (2, .int x2)]) hx hb dX10_asksIt_102 hl (k := 6) rfl (by rw [ez35]; rfl) (by decide) rfl (fun ls hl => ?_)
            have tz35 := tn_add ez35 rfl kI_1 (by omega) (by omega)
            refine lv_goto (tgt := 176) hx hb dX10_asksIt_105 (by decide) ?_
            refine lv_goto (tgt := 32) hx hb dX10_asksIt_176 (by decide) ?_
            have hi9 : z5.toNatClampNeg = (v3.toInt - 1).toNat := by show z5.toInt.toNat = _; omega
            rw [hi9] at wz6
            obtain ⟨g1, g2, g3, me, g4, g5⟩ := pr10.resolve_left (by omega)
            have wm := kv g4 (PA_m (by omega) (by omega))
            have hz : bU (F cu (ix r10.toInt 21)) z9 := by rw [← wm]; rcases g5 with ⟨q1, q2⟩ | ⟨q1, q2⟩ <;> first | (exfalso; omega) | exact q2
            have hP := AI_push (n := v3.toNatClampNeg) hex32 (by omega) hcu (by show ((v3.toInt.toNat : Nat) : Int) = _; omega) eF29 eF34 (by rw [← wz6]; omega) (by omega) (by omega) hz
            have q9 : v3.toInt + 1 = z35.toInt := by omega
            rw [q9] at hP
            have hP2 := hP.2
            have hP3 := hP.1.1.le
            exact ih32 F34 H locs ls z35 hG (lv_sub hl [4, 5, 6, 0] rfl) (by omega) (by omega) (by first | exact hP.1 | exact hP | exact AI_0) (by omega)
          · skip
            have ic33 := tn_eq rfl kI_5 c33
            refine lv_iconst (v := 0) hx hb dX10_asksIt_95 (by decide) ?_
            refine lv_goto (tgt := 101) hx hb dX10_asksIt_96 (by decide) ?_
            refine mc_iastX E hG hoa30 ma_7.1 ma_7.2.1 (ma_7.2.2 _) (t_in (by omega) (by omega)) (by decide) (by decide) dX10_asksIt_101 (fun H locs hG => ?_)
            have hG := kO_set (PA_7) hG
            obtain ⟨F36, eF36⟩ : ∃ Z : mF, Z = up2 F29 7 (v3).toNatClampNeg (0 : Int32) := ⟨_, rfl⟩
            rw [← eF36] at hG
            obtain ⟨z37, ez37⟩ : ∃ y : Int32, y = v3 + (1) := ⟨_, rfl⟩
            refine lv_iinc (v := z37) (lv' := [(3, .int z37), (6, .int r10), (5, .int z9), (4, .int z6), (0, .ref h0), (1, .int x1), (2, .int x2)]) hx hb dX10_asksIt_102 hl (k := 6) rfl (by rw [ez37]; rfl) (by decide) rfl (fun ls hl => ?_)
            have tz37 := tn_add ez37 rfl kI_1 (by omega) (by omega)
            refine lv_goto (tgt := 176) hx hb dX10_asksIt_105 (by decide) ?_
            refine lv_goto (tgt := 32) hx hb dX10_asksIt_176 (by decide) ?_
            have hi9 : z5.toNatClampNeg = (v3.toInt - 1).toNat := by show z5.toInt.toNat = _; omega
            rw [hi9] at wz6
            obtain ⟨g1, g2, g3, me, g4, g5⟩ := pr10.resolve_left (by omega)
            have wm := kv g4 (PA_m (by omega) (by omega))
            have hz : bU (F cu (ix r10.toInt 21)) (0 : Int32) := by rw [← wm]; rcases g5 with ⟨q1, q2⟩ | ⟨q1, q2⟩ <;> first | (exfalso; omega) | exact q2
            have hP := AI_push (n := v3.toNatClampNeg) hex32 (by omega) hcu (by show ((v3.toInt.toNat : Nat) : Int) = _; omega) eF29 eF36 (by rw [← wz6]; omega) (by omega) (by omega) hz
            have q9 : v3.toInt + 1 = z37.toInt := by omega
            rw [q9] at hP
            have hP2 := hP.2
            have hP3 := hP.1.1.le
            exact ih32 F36 H locs ls z37 hG (lv_sub hl [4, 5, 6, 0] rfl) (by omega) (by omega) (by first | exact hP.1 | exact hP | exact AI_0) (by omega)
  refine lv_iconst (v := 0) hx hb dX10_asksIt_0 (by decide) ?_
  refine lv_istore_n (lv' := [(3, .int 0), (0, .ref h0), (1, .int x1), (2, .int x2)]) hx hb dX10_asksIt_1 rfl hl (by decide) rfl (fun ls hl => ?_)
  refine lv_aload_n hx hb dX10_asksIt_2 rfl (lv_at hl 1 rfl) ?_
  refine lv_iload_n hx hb dX10_asksIt_3 rfl (lv_at hl 2 rfl) ?_
  refine lv_bipush (v := 21) hx hb dX10_asksIt_4 (by decide) ?_
  refine tc_callp (mc_runV (As := [.int x1, .int 21]) (rest := []) E hG (c_X10_get l G (σ, cu, kO (PA cu) X Fa) h0 x1 (21 : Int32) t0 (by omega) (by omega) (by decide) (by decide)) t0 rfl kv_X10_get ml_X10_91 ⟨rfl, rfl, Nat.le_of_ble_eq_true rfl, Nat.le_of_ble_eq_true rfl⟩ rfl hl.1 rfl (Nat.le_of_ble_eq_true rfl) ⟨Nat.zero_le _, Nat.zero_le _⟩ dX10_asksIt_6) (fun r38 pr38 => ?_)
  replace pr38 : mV (σ, cu, kO (PA cu) X Fa) (ix x1.toInt (21 : Int32).toInt) r38 := pr38
  have pr38 := mV_l pr38 kI_21
  have br38 := mV_21 pr38 (by omega)
  have k39 := kI_21
  have wr38 := kv pr38 (PA_m (by omega) (by omega))
  refine lv_iload_n hx hb dX10_asksIt_9 rfl (lv_at hl 3 rfl) ?_
  refine lv_ishr hx hb dX10_asksIt_10 ?_
  refine lv_topi (fun z40 ez40 => ?_)
  refine lv_iconst (v := 1) hx hb dX10_asksIt_11 (by decide) ?_
  refine lv_iand hx hb dX10_asksIt_12 ?_
  refine lv_topi (fun z41 ez41 => ?_)
  refine lv_if_ne (tgt := 32) hx hb dX10_asksIt_13 (by decide) (fun c42 => ?_) (fun c42 => ?_)
  · skip
    have ic42 := tn_ne rfl kI_0 c42
    exact J32 (AM cu Fa (0 : Int32).toInt + 1) Fa H locs ls (0 : Int32) hG (lv_sub hl [1, 2, 3, 0] rfl) (by decide) (by decide) (by first | exact hP.1 | exact hP | exact AI_0) (Nat.lt_succ_self _)
  · skip
    have ic42 := tn_eq rfl kI_0 c42
    refine lv_aload_n hx hb dX10_asksIt_16 rfl (lv_at hl 1 rfl) ?_
    refine mc_getr E hG t0 mr_27 dX10_asksIt_17 (fun oa43 hoa43 => ?_)
    refine lv_iconst (v := 0) hx hb dX10_asksIt_20 (by decide) ?_
    refine lv_iload_n hx hb dX10_asksIt_21 rfl (lv_at hl 2 rfl) ?_
    refine mc_iastX E hG hoa43 ma_6.1 ma_6.2.1 (ma_6.2.2 _) (t_in (by decide) (by decide)) (by omega) (by omega) dX10_asksIt_22 (fun H locs hG => ?_)
    have hG := kO_set (PA_6) hG
    obtain ⟨F44, eF44⟩ : ∃ Z : mF, Z = up2 Fa 6 ((0 : Int32)).toNatClampNeg x1 := ⟨_, rfl⟩
    rw [← eF44] at hG
    refine lv_aload_n hx hb dX10_asksIt_23 rfl (lv_at hl 1 rfl) ?_
    refine mc_getr E hG t0 mr_30 dX10_asksIt_24 (fun oa45 hoa45 => ?_)
    refine lv_iconst (v := 0) hx hb dX10_asksIt_27 (by decide) ?_
    refine lv_iload_n hx hb dX10_asksIt_28 rfl (lv_at hl 3 rfl) ?_
    refine mc_iastX E hG hoa45 ma_7.1 ma_7.2.1 (ma_7.2.2 _) (t_in (by decide) (by decide)) (by omega) (by omega) dX10_asksIt_29 (fun H locs hG => ?_)
    have hG := kO_set (PA_7) hG
    obtain ⟨F46, eF46⟩ : ∃ Z : mF, Z = up2 F44 7 ((0 : Int32)).toNatClampNeg x2 := ⟨_, rfl⟩
    rw [← eF46] at hG
    refine lv_iconst (v := 1) hx hb dX10_asksIt_30 (by decide) ?_
    refine lv_istore_n (lv' := [(3, .int 1), (0, .ref h0), (1, .int x1), (2, .int x2)]) hx hb dX10_asksIt_31 rfl hl (by decide) rfl (fun ls hl => ?_)
    have hz : bU (Fa cu (ix x1.toInt 21)) x2 := by unfold bU; rw [← wr38, ← ez40, ← ez41]; omega
    have hP := AI_one (t3 := (t 3).toInt) (F := Fa) hcu eF44 eF46 (by omega) (by omega) (by omega) hz
    exact J32 (AM cu F46 (1 : Int32).toInt + 1) F46 H locs ls (1 : Int32) hG (lv_sub hl [1, 2, 3, 0] rfl) (by decide) (by decide) (by first | exact hP.1 | exact hP | exact AI_0) (Nat.lt_succ_self _)

