/-! ===== the reference, exactly: reading letters ===== -/
set_option maxHeartbeats 4000000 in
set_option maxRecDepth 100000 in
theorem x_X10_nameLetter (l : Launch) (G : tG) (Y : mY) (h0 : Nat) (x1 : Int32) (x2 : Int32) (t0 : Y.1 h0 = 1) (l1 : 0 ≤ x1.toInt) (u1 : x1.toInt ≤ 9) (l2 : 0 ≤ x2.toInt) (u2 : x2.toInt ≤ 6) (hNM : NMS (FM G)) : Met l yX10_nameLetter (.code yX10_nameLetter cX10_nameLetter 3 (some .int) :: tWS) (tRm 0 0) (va_Pc [.ref h0, .int x1, .int x2] (mPre G Y)) (tQp (fun r => r.toInt = nml x1.toInt.toNat x2.toInt.toNat)) 0 0 tNo := by
  refine mc_met (by decide) (Nat.le_of_ble_eq_true rfl) ?_
  intro p e s m below meth c E hr hlk hG ls hl
  have hl : lv_has ls 3 [(0, .ref h0), (1, .int x1), (2, .int x2)] := hl
  have hx := E.1
  have hb := E.2.1
  obtain ⟨H, eH⟩ : ∃ H, H = s.heap := ⟨_, rfl⟩
  obtain ⟨locs, eL⟩ : ∃ x : List Loc, x = [] := ⟨_, rfl⟩
  have hG : mGH G Y s H locs := by rw [eH, eL]; exact hG
  suffices hW : W p l e (tRm 0 0) s m ([.ref h0, .int x1, .int x2] : List Value).toArray below meth c H locs 0 0 (MQ below (tQp (fun r => r.toInt = nml x1.toInt.toNat x2.toInt.toNat)) ([.ref h0, .int x1, .int x2] : List Value).toArray s 0 0 tNo) (F0 m 0 ls []) by subst eH; subst eL; exact hW
  refine lv_iload_n hx hb dX10_nameLetter_0 rfl (lv_at hl 2 rfl) ?_
  refine lv_bipush (v := 6) hx hb dX10_nameLetter_1 (by decide) ?_
  refine lv_icmp_ge (tgt := 20) hx hb dX10_nameLetter_3 (by decide) (fun c1 => ?_) (fun c1 => ?_)
  · skip
    have ic1 := tn_le kI_6 rfl c1
    refine lv_iconst (v := 0) hx hb dX10_nameLetter_20 (by decide) ?_
    exact tc_pret E hr hlk eH eL rfl (show (0 : Int32).toInt = nml x1.toInt.toNat x2.toInt.toNat by have kk := kI_0; first | assumption | (have q := nml_6 (k := x1.toInt.toNat) (j := x2.toInt.toNat) (by omega) (by omega); omega)) dX10_nameLetter_21
  · skip
    have ic1 := tn_nle kI_6 rfl c1
    refine lv_aload_n hx hb dX10_nameLetter_6 rfl (lv_at hl 0 rfl) ?_
    refine mc_getr E hG t0 mr_57 dX10_nameLetter_7 (fun oa2 hoa2 => ?_)
    refine lv_bipush (v := 6) hx hb dX10_nameLetter_10 (by decide) ?_
    refine lv_iload_n hx hb dX10_nameLetter_12 rfl (lv_at hl 1 rfl) ?_
    refine lv_imul hx hb dX10_nameLetter_13 ?_
    refine lv_topi (fun z3 ez3 => ?_)
    have tz3 := tn_mul ez3 kI_6 rfl (by omega) (by omega)
    refine lv_iload_n hx hb dX10_nameLetter_14 rfl (lv_at hl 2 rfl) ?_
    refine lv_iadd hx hb dX10_nameLetter_15 ?_
    refine lv_topi (fun z4 ez4 => ?_)
    have tz4 := tn_add ez4 rfl rfl (by omega) (by omega)
    refine mc_ialdK E hG hoa2 ma_16 rfl (t_in (by omega) (by omega)) dX10_nameLetter_16 (fun z5 lz5 uz5 qz5 wz5 => ?_)
    have nz5 := hNM x1.toInt.toNat x2.toInt.toNat (by omega) (by omega)
    rw [show 6 * x1.toInt.toNat + x2.toInt.toNat = z4.toNatClampNeg by show _ = z4.toInt.toNat; omega, ← wz5] at nz5
    refine lv_goto (tgt := 21) hx hb dX10_nameLetter_17 (by decide) ?_
    exact tc_pret E hr hlk eH eL rfl (show z5.toInt = nml x1.toInt.toNat x2.toInt.toNat by first | assumption | (have q := nml_6 (k := x1.toInt.toNat) (j := x2.toInt.toNat) (by omega) (by omega); omega)) dX10_nameLetter_21

set_option maxHeartbeats 4000000 in
set_option maxRecDepth 100000 in
theorem x_X10_here (l : Launch) (G : tG) (σ : Nat → Nat) (cu : Nat) (X : mX) (Fa : mF) (h0 : Nat) (t0 : σ h0 = 1) : Met l yX10_here (.code yX10_here cX10_here 1 (some .int) :: tWS) (tRm 0 0) (va_Pc [.ref h0] (mPre G (σ, cu, kO PRd X Fa))) (mQi G (σ, cu, kO PRd X Fa) (fun r => (r.toInt = -1 ∧ nx (LF Fa 15) (Fa 1 25).toInt (Fa 1 26).toInt = 0) ∨ (0 ≤ r.toInt ∧ r.toInt ≤ 126 ∧ (Fa 1 26).toInt < (Fa 1 25).toInt ∧ (Fa 1 26).toInt ≤ 119 ∧ r.toInt = nx (LF Fa 15) (Fa 1 25).toInt (Fa 1 26).toInt))) 0 0 (mA (σ, cu, kO PRd X Fa)) := by
  refine mc_met (by decide) (Nat.le_of_ble_eq_true rfl) ?_
  intro p e s m below meth c E hr hlk hG ls hl
  have hl : lv_has ls 1 [(0, .ref h0)] := hl
  have hx := E.1
  have hb := E.2.1
  obtain ⟨H, eH⟩ : ∃ H, H = s.heap := ⟨_, rfl⟩
  obtain ⟨locs, eL⟩ : ∃ x : List Loc, x = [] := ⟨_, rfl⟩
  have hG : mGH G (σ, cu, kO PRd X Fa) s H locs := by rw [eH, eL]; exact hG
  suffices hW : W p l e (tRm 0 0) s m ([.ref h0] : List Value).toArray below meth c H locs 0 0 (MQ below (mQi G (σ, cu, kO PRd X Fa) (fun r => (r.toInt = -1 ∧ nx (LF Fa 15) (Fa 1 25).toInt (Fa 1 26).toInt = 0) ∨ (0 ≤ r.toInt ∧ r.toInt ≤ 126 ∧ (Fa 1 26).toInt < (Fa 1 25).toInt ∧ (Fa 1 26).toInt ≤ 119 ∧ r.toInt = nx (LF Fa 15) (Fa 1 25).toInt (Fa 1 26).toInt))) ([.ref h0] : List Value).toArray s 0 0 (mA (σ, cu, kO PRd X Fa))) (F0 m 0 ls []) by subst eH; subst eL; exact hW
  clear eH eL
  have hcu : mCu cu := hG.2.2.1
  refine lv_aload_n hx hb dX10_here_0 rfl (lv_at hl 0 rfl) ?_
  refine mc_geti E hG t0 mi_350 dX10_here_1 (fun z1 lz1 uz1 qz1 => ?_)
  have wz1 := kq qz1 (PRd_26)
  have gz1 : z1.toInt = (Fa 1 26).toInt := by rw [wz1]
  have g1 : z1.toInt = (Fa 1 26).toInt := by rw [wz1]
  refine lv_aload_n hx hb dX10_here_4 rfl (lv_at hl 0 rfl) ?_
  refine mc_geti E hG t0 mi_340 dX10_here_5 (fun z2 lz2 uz2 qz2 => ?_)
  have wz2 := kq qz2 (PRd_25)
  have gz2 : z2.toInt = (Fa 1 25).toInt := by rw [wz2]
  have g2 : z2.toInt = (Fa 1 25).toInt := by rw [wz2]
  refine lv_icmp_ge (tgt := 23) hx hb dX10_here_8 (by decide) (fun c3 => ?_) (fun c3 => ?_)
  · skip
    have ic3 := tn_le rfl rfl c3
    refine lv_iconst (v := -1) hx hb dX10_here_23 (by decide) ?_
    exact mc_iret E hr hlk hG (show ((-1 : Int32).toInt = -1 ∧ nx (LF Fa 15) (Fa 1 25).toInt (Fa 1 26).toInt = 0) ∨ (0 ≤ (-1 : Int32).toInt ∧ (-1 : Int32).toInt ≤ 126 ∧ (Fa 1 26).toInt < (Fa 1 25).toInt ∧ (Fa 1 26).toInt ≤ 119 ∧ (-1 : Int32).toInt = nx (LF Fa 15) (Fa 1 25).toInt (Fa 1 26).toInt) by have kk := kI_m1; first | exact Or.inr ⟨by omega, by omega, by omega, by omega, by omega⟩ | exact Or.inl ⟨by omega, by unfold nx; rw [if_neg (by omega)]⟩) dX10_here_24
  · skip
    have ic3 := tn_nle rfl rfl c3
    refine lv_aload_n hx hb dX10_here_11 rfl (lv_at hl 0 rfl) ?_
    refine mc_getr E hG t0 mr_54 dX10_here_12 (fun oa4 hoa4 => ?_)
    refine lv_aload_n hx hb dX10_here_15 rfl (lv_at hl 0 rfl) ?_
    refine mc_geti E hG t0 mi_350 dX10_here_16 (fun z5 lz5 uz5 qz5 => ?_)
    have wz5 := kq qz5 (PRd_26)
    have gz5 : z5.toInt = (Fa 1 26).toInt := by rw [wz5]
    have g3 : z5.toInt = (Fa 1 26).toInt := by rw [wz5]
    refine mc_iald15 E hG hoa4 ma_15 (t_in (by omega) (by omega)) dX10_here_19 (fun z6 lz6 uz6 qz6 => ?_)
    have wz6 := kq qz6 (PRd_15)
    have g4 : z6.toInt = nx (LF Fa 15) (Fa 1 25).toInt (Fa 1 26).toInt := by rw [wz6, wz5]; unfold nx; rw [if_pos (by omega)]; rfl
    refine lv_goto (tgt := 24) hx hb dX10_here_20 (by decide) ?_
    exact mc_iret E hr hlk hG (show (z6.toInt = -1 ∧ nx (LF Fa 15) (Fa 1 25).toInt (Fa 1 26).toInt = 0) ∨ (0 ≤ z6.toInt ∧ z6.toInt ≤ 126 ∧ (Fa 1 26).toInt < (Fa 1 25).toInt ∧ (Fa 1 26).toInt ≤ 119 ∧ z6.toInt = nx (LF Fa 15) (Fa 1 25).toInt (Fa 1 26).toInt) by first | exact Or.inr ⟨by omega, by omega, by omega, by omega, by omega⟩ | exact Or.inl ⟨by omega, by unfold nx; rw [if_neg (by omega)]⟩) dX10_here_24

set_option maxHeartbeats 4000000 in
set_option maxRecDepth 100000 in
theorem x_X10_readName (l : Launch) (G : tG) (σ : Nat → Nat) (cu : Nat) (X : mX) (Fa : mF) (h0 : Nat) (t0 : σ h0 = 1) (hNM : NMS (FM G)) : Met l yX10_readName (.code yX10_readName cX10_readName 6 (some .int) :: tWS) (tRm 1 22) (va_Pc [.ref h0] (mPre G (σ, cu, kO PRd X Fa))) (mQiX G (σ, cu, kO PRd X Fa) (fun r Z => ∃ F : mF, Z = (σ, cu, kO PRd X F) ∧ 0 ≤ r.toInt ∧ r.toInt ≤ 9 ∧ mRN Fa F ∧ (((F 1 27).toInt = (Fa 1 27).toInt ∧ RM (LF Fa 15) (Fa 1 25).toInt (Fa 1 26).toInt r.toInt (F 1 26).toInt) ∨ ((F 1 27).toInt = 1 ∧ RM (LF Fa 15) (Fa 1 25).toInt (Fa 1 26).toInt (-1) (F 1 26).toInt)))) 0 0 (mA (σ, cu, kO PRd X Fa)) := by
  refine mc_met (by decide) (Nat.le_of_ble_eq_true rfl) ?_
  intro p e s m below meth c E hr hlk hG ls hl
  have hl : lv_has ls 6 [(0, .ref h0)] := hl
  have hx := E.1
  have hb := E.2.1
  obtain ⟨H, eH⟩ : ∃ H, H = s.heap := ⟨_, rfl⟩
  obtain ⟨locs, eL⟩ : ∃ x : List Loc, x = [] := ⟨_, rfl⟩
  have hG : mGH G (σ, cu, kO PRd X Fa) s H locs := by rw [eH, eL]; exact hG
  suffices hW : W p l e (tRm 1 22) s m ([.ref h0] : List Value).toArray below meth c H locs 0 0 (MQ below (mQiX G (σ, cu, kO PRd X Fa) (fun r Z => ∃ F : mF, Z = (σ, cu, kO PRd X F) ∧ 0 ≤ r.toInt ∧ r.toInt ≤ 9 ∧ mRN Fa F ∧ (((F 1 27).toInt = (Fa 1 27).toInt ∧ RM (LF Fa 15) (Fa 1 25).toInt (Fa 1 26).toInt r.toInt (F 1 26).toInt) ∨ ((F 1 27).toInt = 1 ∧ RM (LF Fa 15) (Fa 1 25).toInt (Fa 1 26).toInt (-1) (F 1 26).toInt)))) ([.ref h0] : List Value).toArray s 0 0 (mA (σ, cu, kO PRd X Fa))) (F0 m 0 ls []) by subst eH; subst eL; exact hW
  clear eH eL
  have hcu : mCu cu := hG.2.2.1
  have hLFa : LF Fa 15 = LF Fa 15 ∧ Fa 1 25 = Fa 1 25 := ⟨rfl, rfl⟩
  have J6 : ∀ (n6 : Nat) (F : mF) (H : Heap) (locs : List Loc) (ls : Array Slot) (v1 : Int32) (v2 : Int32), mGH G (σ, cu, kO PRd X F) s H locs → lv_has ls 6 [(0, .ref h0), (1, .int v1), (2, .int v2)] → 0 ≤ v2.toInt → v2.toInt ≤ 7 → (mRN Fa F ∧ (F 1 26).toInt = (Fa 1 26).toInt + v2.toInt ∧ (F 1 27).toInt = (Fa 1 27).toInt ∧ NOp (LF Fa 15) (Fa 1 25).toInt (Fa 1 26).toInt v1 v2.toInt.toNat ∧ (v2.toInt = 0 ∨ EXb v1)) → (7 - v2.toInt).toNat < n6 → W p l e (tRm 1 22) s m ([.ref h0] : List Value).toArray below meth c H locs 0 0 (MQ below (mQiX G (σ, cu, kO PRd X Fa) (fun r Z => ∃ F : mF, Z = (σ, cu, kO PRd X F) ∧ 0 ≤ r.toInt ∧ r.toInt ≤ 9 ∧ mRN Fa F ∧ (((F 1 27).toInt = (Fa 1 27).toInt ∧ RM (LF Fa 15) (Fa 1 25).toInt (Fa 1 26).toInt r.toInt (F 1 26).toInt) ∨ ((F 1 27).toInt = 1 ∧ RM (LF Fa 15) (Fa 1 25).toInt (Fa 1 26).toInt (-1) (F 1 26).toInt)))) ([.ref h0] : List Value).toArray s 0 0 (mA (σ, cu, kO PRd X Fa))) (F0 m 6 ls []) := by
    intro n6
    induction n6 with
    | zero => intro F H locs ls v1 v2 hG hl b2 c2 hex6 hn6; exact absurd hn6 (Nat.not_lt_zero _)
    | succ n6 ih6 =>
      intro F H locs ls v1 v2 hG hl b2 c2 hex6 hn6
      have J17 : ∀ (n17 : Nat) (F : mF) (H : Heap) (locs : List Loc) (ls : Array Slot) (v1 : Int32) (v2 : Int32) (v3 : Int32) (v4 : Int32), mGH G (σ, cu, kO PRd X F) s H locs → lv_has ls 6 [(0, .ref h0), (1, .int v1), (2, .int v2), (3, .int v3), (4, .int v4)] → 0 ≤ v2.toInt → v2.toInt ≤ 6 → 0 ≤ v4.toInt → v4.toInt ≤ 10 → (7 - v2.toInt).toNat < n6 + 1 → (mRN Fa F ∧ (F 1 26).toInt = (Fa 1 26).toInt + v2.toInt ∧ (F 1 27).toInt = (Fa 1 27).toInt ∧ NOp (LF Fa 15) (Fa 1 25).toInt (Fa 1 26).toInt v1 v2.toInt.toNat ∧ (v2.toInt = 0 ∨ EXb v1) ∧ NXp (LF Fa 15) (Fa 1 25).toInt (Fa 1 26).toInt v1 v3 v2.toInt.toNat v4.toInt.toNat ∧ (v3.toInt = 0 ∨ (F 1 26).toInt ≤ 119)) → (10 - v4.toInt).toNat < n17 → W p l e (tRm 1 22) s m ([.ref h0] : List Value).toArray below meth c H locs 0 0 (MQ below (mQiX G (σ, cu, kO PRd X Fa) (fun r Z => ∃ F : mF, Z = (σ, cu, kO PRd X F) ∧ 0 ≤ r.toInt ∧ r.toInt ≤ 9 ∧ mRN Fa F ∧ (((F 1 27).toInt = (Fa 1 27).toInt ∧ RM (LF Fa 15) (Fa 1 25).toInt (Fa 1 26).toInt r.toInt (F 1 26).toInt) ∨ ((F 1 27).toInt = 1 ∧ RM (LF Fa 15) (Fa 1 25).toInt (Fa 1 26).toInt (-1) (F 1 26).toInt)))) ([.ref h0] : List Value).toArray s 0 0 (mA (σ, cu, kO PRd X Fa))) (F0 m 17 ls []) := by
        intro n17
        induction n17 with
        | zero => intro F H locs ls v1 v2 v3 v4 hG hl b2 c2 b4 c4 hm6 hex17 hn17; exact absurd hn17 (Nat.not_lt_zero _)
        | succ n17 ih17 =>
          intro F H locs ls v1 v2 v3 v4 hG hl b2 c2 b4 c4 hm6 hex17 hn17
          have hLF := hex17.1.hl hLFa
          refine lv_iload hx hb dX10_readName_17 (lv_at hl 4 rfl) ?_
          refine lv_bipush (v := 10) hx hb dX10_readName_19 (by decide) ?_
          refine lv_icmp_ge (tgt := 95) hx hb dX10_readName_21 (by decide) (fun c1 => ?_) (fun c1 => ?_)
          · skip
            have ic1 := tn_le kI_10 rfl c1
            refine lv_iload_n hx hb dX10_readName_95 rfl (lv_at hl 3 rfl) ?_
            refine lv_if_ne (tgt := 106) hx hb dX10_readName_96 (by decide) (fun c2 => ?_) (fun c2 => ?_)
            · skip
              have ic2 := tn_ne rfl kI_0 c2
              refine lv_iload_n hx hb dX10_readName_106 rfl (lv_at hl 3 rfl) ?_
              refine lv_istore_n (lv' := [(1, .int v3), (0, .ref h0), (2, .int v2), (3, .int v3), (4, .int v4)]) hx hb dX10_readName_107 rfl hl (by decide) rfl (fun ls hl => ?_)
              refine lv_aload_n hx hb dX10_readName_108 rfl (lv_at hl 1 rfl) ?_
              refine lv_dup hx hb dX10_readName_109 rfl ?_
              refine mc_geti E hG t0 mi_350 dX10_readName_110 (fun z3 lz3 uz3 qz3 => ?_)
              have wz3 := kq qz3 (PRd_26)
              have gz3 : z3.toInt = (F 1 26).toInt := by rw [wz3]
              have hpl : z3.toInt ≤ 119 := by have q9 := hex17.2.2.2.2.2.2; omega
              refine lv_iconst (v := 1) hx hb dX10_readName_113 (by decide) ?_
              refine lv_iadd hx hb dX10_readName_114 ?_
              refine lv_topi (fun z4 ez4 => ?_)
              have tz4 := tn_add ez4 rfl kI_1 (by omega) (by omega)
              refine mc_putX E hG t0 mp_350 (by omega) (by omega) rfl rfl dX10_readName_115 (fun H locs hG => ?_)
              have hG := kO_set (PRd_26) hG
              obtain ⟨F5, eF5⟩ : ∃ Z : mF, Z = up2 F 1 26 z4 := ⟨_, rfl⟩
              rw [← eF5] at hG
              have hLF5 : LF F5 15 = LF Fa 15 ∧ F5 1 25 = Fa 1 25 := by rw [eF5, LF_up (by decide), up2_ne (by omega)]; exact hLF
              have hpF5 : (F5 1 26).toInt = z4.toInt := by rw [eF5, up2_at]
              have hbF5 : (F5 1 27).toInt = (F 1 27).toInt := by rw [eF5, up2_ne (by omega)]
              have hrF5 : mRN F F5 := mRN.refl.put (Or.inl rfl) eF5
              obtain ⟨z6, ez6⟩ : ∃ y : Int32, y = v2 + (1) := ⟨_, rfl⟩
              refine lv_iinc (v := z6) (lv' := [(2, .int z6), (1, .int v3), (0, .ref h0), (3, .int v3), (4, .int v4)]) hx hb dX10_readName_118 hl (k := 2) rfl (by rw [ez6]; rfl) (by decide) rfl (fun ls hl => ?_)
              have tz6 := tn_add ez6 rfl kI_1 (by omega) (by omega)
              refine lv_goto (tgt := 6) hx hb dX10_readName_121 (by decide) ?_
              have h27 : v4.toInt.toNat = 10 := by omega
              have hx10 := hex17.2.2.2.2.2.1
              rw [h27] at hx10
              have hQ : mRN Fa F5 ∧ (F5 1 26).toInt = (Fa 1 26).toInt + z6.toInt ∧ (F5 1 27).toInt = (Fa 1 27).toInt ∧ NOp (LF Fa 15) (Fa 1 25).toInt (Fa 1 26).toInt v3 z6.toInt.toNat ∧ (z6.toInt = 0 ∨ EXb v3) := ⟨hex17.1.trans hrF5, by omega, by omega, by rw [show z6.toInt.toNat = v2.toInt.toNat + 1 by omega]; exact NOp_s hex17.2.2.2.1 hx10, Or.inr (NXp_ex hx10 (by omega))⟩
              exact ih6 F5 H locs ls v3 z6 hG (lv_sub hl [2, 1, 0] rfl) (by omega) (by omega) (by exact hQ) (by omega)
            · skip
              have ic2 := tn_eq rfl kI_0 c2
              have h10 : v4.toInt.toNat = 10 := by omega
              have hx10 := hex17.2.2.2.2.2.1
              rw [h10] at hx10
              refine lv_aload_n hx hb dX10_readName_99 rfl (lv_at hl 0 rfl) ?_
              refine lv_iconst (v := 1) hx hb dX10_readName_100 (by decide) ?_
              refine mc_putX E hG t0 mp_359 (by decide) (by decide) (t_nz (by decide) (by decide)).1 (t_nz (by decide) (by decide)).2 dX10_readName_101 (fun H locs hG => ?_)
              have hG := kO_set (PRd_27) hG
              obtain ⟨F7, eF7⟩ : ∃ Z : mF, Z = up2 F 1 27 (1 : Int32) := ⟨_, rfl⟩
              rw [← eF7] at hG
              have hLF7 : LF F7 15 = LF Fa 15 ∧ F7 1 25 = Fa 1 25 := by rw [eF7, LF_up (by decide), up2_ne (by omega)]; exact hLF
              have hpF7 : (F7 1 26).toInt = (F 1 26).toInt := by rw [eF7, up2_ne (by omega)]
              have hbF7 : (F7 1 27).toInt = 1 := by rw [eF7, up2_at]; decide
              have hrF7 : mRN F F7 := mRN.refl.put (Or.inr rfl) eF7
              refine lv_iconst (v := 0) hx hb dX10_readName_104 (by decide) ?_
              exact mc_iretX E hr hlk hG rfl rfl ⟨_, rfl, (by have k0 := kI_0; omega), (by have k0 := kI_0; omega), hex17.1.trans hrF7, Or.inr ⟨hbF7, RM_no hex17.2.2.2.1 hex17.2.2.2.2.1 hx10 (by omega) (by omega) (by omega)⟩⟩ dX10_readName_105
          · skip
            have ic1 := tn_nle kI_10 rfl c1
            refine lv_iload_n hx hb dX10_readName_24 rfl (lv_at hl 1 rfl) ?_
            refine lv_iload hx hb dX10_readName_25 (lv_at hl 4 rfl) ?_
            refine lv_ishr hx hb dX10_readName_27 ?_
            refine lv_topi (fun z8 ez8 => ?_)
            refine lv_iconst (v := 1) hx hb dX10_readName_28 (by decide) ?_
            refine lv_iand hx hb dX10_readName_29 ?_
            refine lv_topi (fun z9 ez9 => ?_)
            refine lv_iconst (v := 1) hx hb dX10_readName_30 (by decide) ?_
            refine lv_icmp_ne (tgt := 38) hx hb dX10_readName_31 (by decide) (fun c10 => ?_) (fun c10 => ?_)
            · skip
              have ic10 := tn_ne rfl kI_1 c10
              have hno : ¬ tB v1 v4.toInt.toNat := fun q => ic10 (by rw [ez9, ez8]; exact (b24 (by omega) (by omega)).mpr q)
              refine lv_iconst (v := 0) hx hb dX10_readName_38 (by decide) ?_
              refine lv_istore (lv' := [(5, .int 0), (0, .ref h0), (1, .int v1), (2, .int v2), (3, .int v3), (4, .int v4)]) hx hb dX10_readName_39 hl (by decide) rfl (fun ls hl => ?_)
              refine lv_iload hx hb dX10_readName_41 (lv_at hl 0 rfl) ?_
              refine lv_if_eq (tgt := 59) hx hb dX10_readName_43 (by decide) (fun c11 => ?_) (fun c11 => ?_)
              · skip
                have ic11 := tn_eq kI_0 kI_0 c11
                refine lv_iload_n hx hb dX10_readName_59 rfl (lv_at hl 4 rfl) ?_
                refine lv_iload hx hb dX10_readName_60 (lv_at hl 0 rfl) ?_
                refine lv_if_eq (tgt := 86) hx hb dX10_readName_62 (by decide) (fun c12 => ?_) (fun c12 => ?_)
                · skip
                  have ic12 := tn_eq kI_0 kI_0 c12
                  refine lv_iconst (v := 0) hx hb dX10_readName_86 (by decide) ?_
                  refine lv_ior hx hb dX10_readName_87 ?_
                  refine lv_topi (fun z13 ez13 => ?_)
                  refine lv_istore_n (lv' := [(3, .int z13), (5, .int 0), (0, .ref h0), (1, .int v1), (2, .int v2), (4, .int v4)]) hx hb dX10_readName_88 rfl hl (by decide) rfl (fun ls hl => ?_)
                  obtain ⟨z14, ez14⟩ : ∃ y : Int32, y = v4 + (1) := ⟨_, rfl⟩
                  refine lv_iinc (v := z14) (lv' := [(4, .int z14), (3, .int z13), (5, .int 0), (0, .ref h0), (1, .int v1), (2, .int v2)]) hx hb dX10_readName_89 hl (k := 5) rfl (by rw [ez14]; rfl) (by decide) rfl (fun ls hl => ?_)
                  have tz14 := tn_add ez14 rfl kI_1 (by omega) (by omega)
                  refine lv_goto (tgt := 17) hx hb dX10_readName_92 (by decide) ?_
                  have hQ : mRN Fa F ∧ (F 1 26).toInt = (Fa 1 26).toInt + v2.toInt ∧ (F 1 27).toInt = (Fa 1 27).toInt ∧ NOp (LF Fa 15) (Fa 1 25).toInt (Fa 1 26).toInt v1 v2.toInt.toNat ∧ (v2.toInt = 0 ∨ EXb v1) ∧ NXp (LF Fa 15) (Fa 1 25).toInt (Fa 1 26).toInt v1 z13 v2.toInt.toNat z14.toInt.toNat ∧ (z13.toInt = 0 ∨ (F 1 26).toInt ≤ 119) := ⟨hex17.1, hex17.2.1, hex17.2.2.1, hex17.2.2.2.1, hex17.2.2.2.2.1, by rw [show z14.toInt.toNat = v4.toInt.toNat + 1 by omega]; exact NXp_c hex17.2.2.2.2.2.1 hno ez13, by rw [show z13 = v3 by rw [ez13]; exact Int32.or_zero]; exact hex17.2.2.2.2.2.2⟩
                  exact ih17 F H locs ls v1 v2 z13 z14 hG (lv_sub hl [3, 4, 5, 1, 0] rfl) (by omega) (by omega) (by omega) (by omega) (by omega) (by exact hQ) (by omega)
                · exfalso
                  have ic12 := tn_ne kI_0 kI_0 c12
                  omega
              · exfalso
                have ic11 := tn_ne kI_0 kI_0 c11
                omega
            · skip
              have ic10 := tn_eq rfl kI_1 c10
              have hop : tB v1 v4.toInt.toNat := (b24 (by omega) (by omega)).mp (by show ((v1 >>> (v4 &&& 31)) &&& 1).toInt = 1; rw [← ez8, ← ez9]; exact ic10)
              refine lv_iconst (v := 1) hx hb dX10_readName_34 (by decide) ?_
              refine lv_goto (tgt := 39) hx hb dX10_readName_35 (by decide) ?_
              refine lv_istore (lv' := [(5, .int 1), (0, .ref h0), (1, .int v1), (2, .int v2), (3, .int v3), (4, .int v4)]) hx hb dX10_readName_39 hl (by decide) rfl (fun ls hl => ?_)
              refine lv_iload hx hb dX10_readName_41 (lv_at hl 0 rfl) ?_
              refine lv_if_eq (tgt := 59) hx hb dX10_readName_43 (by decide) (fun c15 => ?_) (fun c15 => ?_)
              · exfalso
                have ic15 := tn_eq kI_1 kI_0 c15
                omega
              · skip
                have ic15 := tn_ne kI_1 kI_0 c15
                refine lv_aload_n hx hb dX10_readName_46 rfl (lv_at hl 1 rfl) ?_
                refine lv_iload hx hb dX10_readName_47 (lv_at hl 5 rfl) ?_
                refine lv_iload_n hx hb dX10_readName_49 rfl (lv_at hl 3 rfl) ?_
                refine tc_callp (mc_runV (As := [.int v4, .int v2]) (rest := []) E hG (x_X10_nameLetter l G (σ, cu, kO PRd X F) h0 v4 v2 t0 (by omega) (by omega) (by omega) (by omega) hNM) t0 rfl kv_X10_nameLetter ml_X10_353 ⟨rfl, rfl, Nat.le_of_ble_eq_true rfl, Nat.le_of_ble_eq_true rfl⟩ rfl hl.1 rfl (Nat.le_of_ble_eq_true rfl) ⟨Nat.zero_le _, Nat.zero_le _⟩ dX10_readName_50) (fun r16 pr16 => ?_)
                replace pr16 : r16.toInt = nml v4.toInt.toNat v2.toInt.toNat := pr16
                refine lv_if_ne (tgt := 59) hx hb dX10_readName_53 (by decide) (fun c17 => ?_) (fun c17 => ?_)
                · skip
                  have ic17 := tn_ne rfl kI_0 c17
                  have hnz : ¬ nml v4.toInt.toNat v2.toInt.toNat = 0 := by rw [← pr16]; omega
                  refine lv_iload_n hx hb dX10_readName_59 rfl (lv_at hl 4 rfl) ?_
                  refine lv_iload hx hb dX10_readName_60 (lv_at hl 0 rfl) ?_
                  refine lv_if_eq (tgt := 86) hx hb dX10_readName_62 (by decide) (fun c18 => ?_) (fun c18 => ?_)
                  · exfalso
                    have ic18 := tn_eq kI_1 kI_0 c18
                    omega
                  · skip
                    have ic18 := tn_ne kI_1 kI_0 c18
                    refine lv_aload_n hx hb dX10_readName_65 rfl (lv_at hl 1 rfl) ?_
                    refine lv_iload hx hb dX10_readName_66 (lv_at hl 5 rfl) ?_
                    refine lv_iload_n hx hb dX10_readName_68 rfl (lv_at hl 3 rfl) ?_
                    refine tc_callp (mc_runV (As := [.int v4, .int v2]) (rest := [.int v3]) E hG (x_X10_nameLetter l G (σ, cu, kO PRd X F) h0 v4 v2 t0 (by omega) (by omega) (by omega) (by omega) hNM) t0 rfl kv_X10_nameLetter ml_X10_353 ⟨rfl, rfl, Nat.le_of_ble_eq_true rfl, Nat.le_of_ble_eq_true rfl⟩ rfl hl.1 rfl (Nat.le_of_ble_eq_true rfl) ⟨Nat.zero_le _, Nat.zero_le _⟩ dX10_readName_69) (fun r19 pr19 => ?_)
                    replace pr19 : r19.toInt = nml v4.toInt.toNat v2.toInt.toNat := pr19
                    refine lv_aload_n hx hb dX10_readName_72 rfl (lv_at hl 1 rfl) ?_
                    refine mc_calli hG (mc_runV (As := []) (rest := [.int r19, .int v3]) E hG (x_X10_here l G σ cu X F h0 t0) t0 rfl kv_X10_here ml_X10_356 ⟨rfl, rfl, Nat.le_of_ble_eq_true rfl, Nat.le_of_ble_eq_true rfl⟩ rfl hl.1 rfl (Nat.le_of_ble_eq_true rfl) ⟨Nat.zero_le _, Nat.zero_le _⟩ dX10_readName_73) (fun r20 H locs pr20 hG => ?_)
                    replace pr20 : (r20.toInt = -1 ∧ nx (LF F 15) (F 1 25).toInt (F 1 26).toInt = 0) ∨ (0 ≤ r20.toInt ∧ r20.toInt ≤ 126 ∧ (F 1 26).toInt < (F 1 25).toInt ∧ (F 1 26).toInt ≤ 119 ∧ r20.toInt = nx (LF F 15) (F 1 25).toInt (F 1 26).toInt) := pr20
                    have br20 : -1 ≤ r20.toInt ∧ r20.toInt ≤ 126 := by omega
                    rw [hLF.1, hLF.2] at pr20
                    rw [show (F 1 26).toInt = (Fa 1 26).toInt + ((v2.toInt.toNat : Nat) : Int) by omega] at pr20
                    refine lv_icmp_ne (tgt := 86) hx hb dX10_readName_76 (by decide) (fun c21 => ?_) (fun c21 => ?_)
                    · skip
                      have ic21 := tn_ne rfl rfl c21
                      have hne : ¬ nml v4.toInt.toNat v2.toInt.toNat = nx (LF Fa 15) (Fa 1 25).toInt ((Fa 1 26).toInt + ((v2.toInt.toNat : Nat) : Int)) := by omega
                      refine lv_iconst (v := 0) hx hb dX10_readName_86 (by decide) ?_
                      refine lv_ior hx hb dX10_readName_87 ?_
                      refine lv_topi (fun z22 ez22 => ?_)
                      refine lv_istore_n (lv' := [(3, .int z22), (5, .int 1), (0, .ref h0), (1, .int v1), (2, .int v2), (4, .int v4)]) hx hb dX10_readName_88 rfl hl (by decide) rfl (fun ls hl => ?_)
                      obtain ⟨z23, ez23⟩ : ∃ y : Int32, y = v4 + (1) := ⟨_, rfl⟩
                      refine lv_iinc (v := z23) (lv' := [(4, .int z23), (3, .int z22), (5, .int 1), (0, .ref h0), (1, .int v1), (2, .int v2)]) hx hb dX10_readName_89 hl (k := 5) rfl (by rw [ez23]; rfl) (by decide) rfl (fun ls hl => ?_)
                      have tz23 := tn_add ez23 rfl kI_1 (by omega) (by omega)
                      refine lv_goto (tgt := 17) hx hb dX10_readName_92 (by decide) ?_
                      have hQ : mRN Fa F ∧ (F 1 26).toInt = (Fa 1 26).toInt + v2.toInt ∧ (F 1 27).toInt = (Fa 1 27).toInt ∧ NOp (LF Fa 15) (Fa 1 25).toInt (Fa 1 26).toInt v1 v2.toInt.toNat ∧ (v2.toInt = 0 ∨ EXb v1) ∧ NXp (LF Fa 15) (Fa 1 25).toInt (Fa 1 26).toInt v1 z22 v2.toInt.toNat z23.toInt.toNat ∧ (z22.toInt = 0 ∨ (F 1 26).toInt ≤ 119) := ⟨hex17.1, hex17.2.1, hex17.2.2.1, hex17.2.2.2.1, hex17.2.2.2.2.1, by rw [show z23.toInt.toNat = v4.toInt.toNat + 1 by omega]; exact NXp_b hex17.2.2.2.2.2.1 hne hnz ez22, by rw [show z22 = v3 by rw [ez22]; exact Int32.or_zero]; exact hex17.2.2.2.2.2.2⟩
                      exact ih17 F H locs ls v1 v2 z22 z23 hG (lv_sub hl [3, 4, 5, 1, 0] rfl) (by omega) (by omega) (by omega) (by omega) (by omega) (by exact hQ) (by omega)
                    · skip
                      have ic21 := tn_eq rfl rfl c21
                      have hn0 : 0 ≤ nml v4.toInt.toNat v2.toInt.toNat := nml_0 (by omega)
                      have heq : nml v4.toInt.toNat v2.toInt.toNat = nx (LF Fa 15) (Fa 1 25).toInt ((Fa 1 26).toInt + ((v2.toInt.toNat : Nat) : Int)) := by omega
                      refine lv_iconst (v := 1) hx hb dX10_readName_79 (by decide) ?_
                      refine lv_iload hx hb dX10_readName_80 (lv_at hl 5 rfl) ?_
                      refine lv_ishl hx hb dX10_readName_82 ?_
                      refine lv_topi (fun z24 ez24 => ?_)
                      refine lv_goto (tgt := 87) hx hb dX10_readName_83 (by decide) ?_
                      refine lv_ior hx hb dX10_readName_87 ?_
                      refine lv_topi (fun z25 ez25 => ?_)
                      refine lv_istore_n (lv' := [(3, .int z25), (5, .int 1), (0, .ref h0), (1, .int v1), (2, .int v2), (4, .int v4)]) hx hb dX10_readName_88 rfl hl (by decide) rfl (fun ls hl => ?_)
                      obtain ⟨z26, ez26⟩ : ∃ y : Int32, y = v4 + (1) := ⟨_, rfl⟩
                      refine lv_iinc (v := z26) (lv' := [(4, .int z26), (3, .int z25), (5, .int 1), (0, .ref h0), (1, .int v1), (2, .int v2)]) hx hb dX10_readName_89 hl (k := 5) rfl (by rw [ez26]; rfl) (by decide) rfl (fun ls hl => ?_)
                      have tz26 := tn_add ez26 rfl kI_1 (by omega) (by omega)
                      refine lv_goto (tgt := 17) hx hb dX10_readName_92 (by decide) ?_
                      have hQ : mRN Fa F ∧ (F 1 26).toInt = (Fa 1 26).toInt + v2.toInt ∧ (F 1 27).toInt = (Fa 1 27).toInt ∧ NOp (LF Fa 15) (Fa 1 25).toInt (Fa 1 26).toInt v1 v2.toInt.toNat ∧ (v2.toInt = 0 ∨ EXb v1) ∧ NXp (LF Fa 15) (Fa 1 25).toInt (Fa 1 26).toInt v1 z25 v2.toInt.toNat z26.toInt.toNat ∧ (z25.toInt = 0 ∨ (F 1 26).toInt ≤ 119) := ⟨hex17.1, hex17.2.1, hex17.2.2.1, hex17.2.2.2.1, hex17.2.2.2.2.1, by rw [show z26.toInt.toNat = v4.toInt.toNat + 1 by omega]; exact NXp_a hex17.2.2.2.2.2.1 (by omega) (by omega) hop hnz heq (by rw [ez25, ez24]), Or.inr (by omega)⟩
                      exact ih17 F H locs ls v1 v2 z25 z26 hG (lv_sub hl [3, 4, 5, 1, 0] rfl) (by omega) (by omega) (by omega) (by omega) (by omega) (by exact hQ) (by omega)
                · skip
                  have ic17 := tn_eq rfl kI_0 c17
                  refine lv_iload hx hb dX10_readName_56 (lv_at hl 5 rfl) ?_
                  exact mc_iretX E hr hlk hG rfl rfl ⟨_, rfl, (by omega), (by omega), hex17.1, Or.inl ⟨hex17.2.2.1, RM_yes hex17.2.2.2.1 hop (by omega) (by omega) (by rw [← pr16]; omega) (by omega)⟩⟩ dX10_readName_58
      have hLF := hex6.1.hl hLFa
      refine lv_iload_n hx hb dX10_readName_6 rfl (lv_at hl 2 rfl) ?_
      refine lv_bipush (v := 7) hx hb dX10_readName_7 (by decide) ?_
      refine lv_icmp_ge (tgt := 124) hx hb dX10_readName_9 (by decide) (fun c27 => ?_) (fun c27 => ?_)
      · skip
        have ic27 := tn_le kI_7 rfl c27
        refine lv_iconst (v := 0) hx hb dX10_readName_124 (by decide) ?_
        exact (NOp_7 hex6.2.2.2.1 hex6.2.2.2.2 (by omega)).elim
      · skip
        have ic27 := tn_nle kI_7 rfl c27
        refine lv_iconst (v := 0) hx hb dX10_readName_12 (by decide) ?_
        refine lv_istore_n (lv' := [(3, .int 0), (0, .ref h0), (1, .int v1), (2, .int v2)]) hx hb dX10_readName_13 rfl hl (by decide) rfl (fun ls hl => ?_)
        refine lv_iconst (v := 0) hx hb dX10_readName_14 (by decide) ?_
        refine lv_istore (lv' := [(4, .int 0), (3, .int 0), (0, .ref h0), (1, .int v1), (2, .int v2)]) hx hb dX10_readName_15 hl (by decide) rfl (fun ls hl => ?_)
        have hQ : mRN Fa F ∧ (F 1 26).toInt = (Fa 1 26).toInt + v2.toInt ∧ (F 1 27).toInt = (Fa 1 27).toInt ∧ NOp (LF Fa 15) (Fa 1 25).toInt (Fa 1 26).toInt v1 v2.toInt.toNat ∧ (v2.toInt = 0 ∨ EXb v1) ∧ NXp (LF Fa 15) (Fa 1 25).toInt (Fa 1 26).toInt v1 (0 : Int32) v2.toInt.toNat (0 : Int32).toInt.toNat ∧ ((0 : Int32).toInt = 0 ∨ (F 1 26).toInt ≤ 119) := ⟨hex6.1, hex6.2.1, hex6.2.2.1, hex6.2.2.2.1, hex6.2.2.2.2, NXp_0, Or.inl (by decide)⟩
        exact J17 ((10 - (0 : Int32).toInt).toNat + 1) F H locs ls v1 v2 (0 : Int32) (0 : Int32) hG (lv_sub hl [2, 3, 4, 1, 0] rfl) (by omega) (by omega) (by decide) (by decide) (by omega) (by exact hQ) (Nat.lt_succ_self _)
  refine lv_sipush (v := 1023) hx hb dX10_readName_0 (by decide) ?_
  refine lv_istore_n (lv' := [(1, .int 1023), (0, .ref h0)]) hx hb dX10_readName_3 rfl hl (by decide) rfl (fun ls hl => ?_)
  refine lv_iconst (v := 0) hx hb dX10_readName_4 (by decide) ?_
  refine lv_istore_n (lv' := [(2, .int 0), (1, .int 1023), (0, .ref h0)]) hx hb dX10_readName_5 rfl hl (by decide) rfl (fun ls hl => ?_)
  have k0 := kI_0
  have hQ : mRN Fa Fa ∧ (Fa 1 26).toInt = (Fa 1 26).toInt + (0 : Int32).toInt ∧ (Fa 1 27).toInt = (Fa 1 27).toInt ∧ NOp (LF Fa 15) (Fa 1 25).toInt (Fa 1 26).toInt (1023 : Int32) (0 : Int32).toInt.toNat ∧ ((0 : Int32).toInt = 0 ∨ EXb (1023 : Int32)) := ⟨mRN.refl, by omega, rfl, NOp_0, Or.inl rfl⟩
  exact J6 ((7 - (0 : Int32).toInt).toNat + 1) Fa H locs ls (1023 : Int32) (0 : Int32) hG (lv_sub hl [2, 1, 0] rfl) (by decide) (by decide) (by exact hQ) (Nat.lt_succ_self _)

set_option maxHeartbeats 4000000 in
set_option maxRecDepth 100000 in
theorem x_X10_readNumber (l : Launch) (G : tG) (σ : Nat → Nat) (cu : Nat) (X : mX) (Fa : mF) (h0 : Nat) (x1 : Int32) (x2 : Int32) (x3 : Int32) (t0 : σ h0 = 1) (l1 : 0 ≤ x1.toInt) (u1 : x1.toInt ≤ 9) (l2 : 0 ≤ x2.toInt) (u2 : x2.toInt ≤ 3) : Met l yX10_readNumber (.code yX10_readNumber cX10_readNumber 7 (some .int) :: tWS) (tRm 2 47) (va_Pc [.ref h0, .int x1, .int x2, .int x3] (mPre G (σ, cu, kO PRd X Fa))) (mQiX G (σ, cu, kO PRd X Fa) (fun r Z => ∃ F : mF, Z = (σ, cu, kO PRd X F) ∧ 0 ≤ r.toInt ∧ r.toInt ≤ 99 ∧ mRN Fa F ∧ ((F 1 27).toInt = 1 ∨ (x1.toInt = 6 → 1 ≤ r.toInt)) ∧ NRx (LF Fa 15) (Fa 1 25).toInt x1.toInt x2.toInt x3.toInt (Fa 1 26).toInt r.toInt (F 1 26).toInt (F 1 27).toInt)) 0 0 (mA (σ, cu, kO PRd X Fa)) := by
  refine mc_met (by decide) (Nat.le_of_ble_eq_true rfl) ?_
  intro p e s m below meth c E hr hlk hG ls hl
  have hl : lv_has ls 7 [(0, .ref h0), (1, .int x1), (2, .int x2), (3, .int x3)] := hl
  have hx := E.1
  have hb := E.2.1
  obtain ⟨H, eH⟩ : ∃ H, H = s.heap := ⟨_, rfl⟩
  obtain ⟨locs, eL⟩ : ∃ x : List Loc, x = [] := ⟨_, rfl⟩
  have hG : mGH G (σ, cu, kO PRd X Fa) s H locs := by rw [eH, eL]; exact hG
  suffices hW : W p l e (tRm 2 47) s m ([.ref h0, .int x1, .int x2, .int x3] : List Value).toArray below meth c H locs 0 0 (MQ below (mQiX G (σ, cu, kO PRd X Fa) (fun r Z => ∃ F : mF, Z = (σ, cu, kO PRd X F) ∧ 0 ≤ r.toInt ∧ r.toInt ≤ 99 ∧ mRN Fa F ∧ ((F 1 27).toInt = 1 ∨ (x1.toInt = 6 → 1 ≤ r.toInt)) ∧ NRx (LF Fa 15) (Fa 1 25).toInt x1.toInt x2.toInt x3.toInt (Fa 1 26).toInt r.toInt (F 1 26).toInt (F 1 27).toInt)) ([.ref h0, .int x1, .int x2, .int x3] : List Value).toArray s 0 0 (mA (σ, cu, kO PRd X Fa))) (F0 m 0 ls []) by subst eH; subst eL; exact hW
  clear eH eL
  have hcu : mCu cu := hG.2.2.1
  have hLFa : LF Fa 15 = LF Fa 15 ∧ Fa 1 25 = Fa 1 25 := ⟨rfl, rfl⟩
  have J38 : ∀ (n38 : Nat) (F : mF) (H : Heap) (locs : List Loc) (ls : Array Slot) (v4 : Int32) (v5 : Int32) (v6 : Int32), mGH G (σ, cu, kO PRd X F) s H locs → lv_has ls 7 [(0, .ref h0), (1, .int x1), (2, .int x2), (3, .int x3), (4, .int v4), (5, .int v5), (6, .int v6)] → 0 ≤ v4.toInt → v4.toInt ≤ 120 → 0 ≤ v5.toInt → v5.toInt ≤ 99 → 0 ≤ v6.toInt → v6.toInt ≤ 2 → (mRN Fa F ∧ v4.toInt = (Fa 1 26).toInt + 1 ∧ (F 1 26).toInt = (Fa 1 26).toInt + 1 + v6.toInt ∧ nx (LF Fa 15) (Fa 1 25).toInt (Fa 1 26).toInt = 32 ∧ DGn (LF Fa 15) (Fa 1 25).toInt ((Fa 1 26).toInt + 1) v6.toInt v5.toInt ∧ ((v6.toInt = 0 ∧ v5.toInt = 0) ∨ (v6.toInt = 1 ∧ v5.toInt ≤ 9) ∨ (v6.toInt = 2 ∧ v5.toInt ≤ 99))) → (2 - v6.toInt).toNat < n38 → W p l e (tRm 2 47) s m ([.ref h0, .int x1, .int x2, .int x3] : List Value).toArray below meth c H locs 0 0 (MQ below (mQiX G (σ, cu, kO PRd X Fa) (fun r Z => ∃ F : mF, Z = (σ, cu, kO PRd X F) ∧ 0 ≤ r.toInt ∧ r.toInt ≤ 99 ∧ mRN Fa F ∧ ((F 1 27).toInt = 1 ∨ (x1.toInt = 6 → 1 ≤ r.toInt)) ∧ NRx (LF Fa 15) (Fa 1 25).toInt x1.toInt x2.toInt x3.toInt (Fa 1 26).toInt r.toInt (F 1 26).toInt (F 1 27).toInt)) ([.ref h0, .int x1, .int x2, .int x3] : List Value).toArray s 0 0 (mA (σ, cu, kO PRd X Fa))) (F0 m 38 ls []) := by
    intro n38
    induction n38 with
    | zero => intro F H locs ls v4 v5 v6 hG hl b4 c4 b5 c5 b6 c6 hex38 hn38; exact absurd hn38 (Nat.not_lt_zero _)
    | succ n38 ih38 =>
      intro F H locs ls v4 v5 v6 hG hl b4 c4 b5 c5 b6 c6 hex38 hn38
      have hLF := hex38.1.hl hLFa
      refine lv_iload hx hb dX10_readNumber_38 (lv_at hl 6 rfl) ?_
      refine lv_iconst (v := 2) hx hb dX10_readNumber_40 (by decide) ?_
      refine lv_icmp_ge (tgt := 92) hx hb dX10_readNumber_41 (by decide) (fun c1 => ?_) (fun c1 => ?_)
      · skip
        have ic1 := tn_le kI_2 rfl c1
        have hRN := RNf_of hex38.2.2.2.2.1 (by unfold fg; omega)
        refine lv_aload_n hx hb dX10_readNumber_92 rfl (lv_at hl 0 rfl) ?_
        refine lv_aload_n hx hb dX10_readNumber_93 rfl (lv_at hl 0 rfl) ?_
        refine mc_geti E hG t0 mi_350 dX10_readNumber_94 (fun z2 lz2 uz2 qz2 => ?_)
        have wz2 := kq qz2 (PRd_26)
        have gz2 : z2.toInt = (F 1 26).toInt := by rw [wz2]
        refine lv_iload hx hb dX10_readNumber_97 (lv_at hl 4 rfl) ?_
        refine lv_icmp_ne (tgt := 106) hx hb dX10_readNumber_99 (by decide) (fun c3 => ?_) (fun c3 => ?_)
        · skip
          have ic3 := tn_ne rfl rfl c3
          refine lv_iconst (v := 0) hx hb dX10_readNumber_106 (by decide) ?_
          refine mc_putX E hG t0 mp_359 (by decide) (by decide) (t_nz (by decide) (by decide)).1 (t_nz (by decide) (by decide)).2 dX10_readNumber_107 (fun H locs hG => ?_)
          have hG := kO_set (PRd_27) hG
          obtain ⟨F4, eF4⟩ : ∃ Z : mF, Z = up2 F 1 27 (0 : Int32) := ⟨_, rfl⟩
          rw [← eF4] at hG
          have hLF4 : LF F4 15 = LF Fa 15 ∧ F4 1 25 = Fa 1 25 := by rw [eF4, LF_up (by decide), up2_ne (by omega)]; exact hLF
          have hpF4 : (F4 1 26).toInt = (F 1 26).toInt := by rw [eF4, up2_ne (by omega)]
          have hbF4 : (F4 1 27).toInt = 0 := by rw [eF4, up2_at]; decide
          have hrF4 : mRN F F4 := mRN.refl.put (Or.inr rfl) eF4
          refine lv_aload_n hx hb dX10_readNumber_110 rfl (lv_at hl 0 rfl) ?_
          refine mc_geti E hG t0 mi_359 dX10_readNumber_111 (fun z5 lz5 uz5 qz5 => ?_)
          have wz5 := kq qz5 (PRd_27)
          have gz5 : z5.toInt = (F4 1 27).toInt := by rw [wz5]
          refine lv_if_ne (tgt := 156) hx hb dX10_readNumber_114 (by decide) (fun c6 => ?_) (fun c6 => ?_)
          · skip
            have ic6 := tn_ne rfl kI_0 c6
            refine lv_iload hx hb dX10_readNumber_156 (lv_at hl 5 rfl) ?_
            exact mc_iretX E hr hlk hG rfl rfl ⟨_, rfl, (by omega), (by omega), (hex38.1.trans hrF4), Or.inr (by omega), (show NRx (LF Fa 15) (Fa 1 25).toInt x1.toInt x2.toInt x3.toInt (Fa 1 26).toInt _ (F4 1 26).toInt (F4 1 27).toInt from Or.inl ⟨by omega, hex38.2.2.2.1, hRN.2.2 (by omega), by rw [show (F4 1 26).toInt = (Fa 1 26).toInt + 1 + v6.toInt by omega]; exact hRN.1, by unfold MBe; omega, by omega⟩)⟩ dX10_readNumber_158
          · skip
            have ic6 := tn_eq rfl kI_0 c6
            refine lv_iload_n hx hb dX10_readNumber_117 rfl (lv_at hl 1 rfl) ?_
            refine lv_iload_n hx hb dX10_readNumber_118 rfl (lv_at hl 2 rfl) ?_
            refine lv_iload hx hb dX10_readNumber_119 (lv_at hl 5 rfl) ?_
            refine tc_callp (mc_runS (As := [.int x1, .int x2, .int v5]) (rest := []) E hG (x_X10_mayBe l G (σ, cu, kO PRd X F4) x1 x2 v5) ks_X10_mayBe ml_X10_120 ⟨rfl, rfl, Nat.le_of_ble_eq_true rfl, Nat.le_of_ble_eq_true rfl⟩ rfl hl.1 rfl (Nat.le_of_ble_eq_true rfl) ⟨Nat.zero_le _, Nat.zero_le _⟩ dX10_readNumber_121) (fun r7 pr7 => ?_)
            replace pr7 : r7.toInt = iMB x1.toInt x2.toInt v5.toInt := pr7
            have br7 := iMB_b pr7
            refine lv_if_eq (tgt := 145) hx hb dX10_readNumber_124 (by decide) (fun c8 => ?_) (fun c8 => ?_)
            · skip
              have ic8 := tn_eq rfl kI_0 c8
              refine lv_aload_n hx hb dX10_readNumber_145 rfl (lv_at hl 0 rfl) ?_
              refine lv_iconst (v := 1) hx hb dX10_readNumber_146 (by decide) ?_
              refine mc_putX E hG t0 mp_359 (by decide) (by decide) (t_nz (by decide) (by decide)).1 (t_nz (by decide) (by decide)).2 dX10_readNumber_147 (fun H locs hG => ?_)
              have hG := kO_set (PRd_27) hG
              obtain ⟨F9, eF9⟩ : ∃ Z : mF, Z = up2 F4 1 27 (1 : Int32) := ⟨_, rfl⟩
              rw [← eF9] at hG
              have hLF9 : LF F9 15 = LF Fa 15 ∧ F9 1 25 = Fa 1 25 := by rw [eF9, LF_up (by decide), up2_ne (by omega)]; exact hLF4
              have hpF9 : (F9 1 26).toInt = (F4 1 26).toInt := by rw [eF9, up2_ne (by omega)]
              have hbF9 : (F9 1 27).toInt = 1 := by rw [eF9, up2_at]; decide
              have hrF9 : mRN F4 F9 := mRN.refl.put (Or.inr rfl) eF9
              refine lv_aload_n hx hb dX10_readNumber_150 rfl (lv_at hl 0 rfl) ?_
              refine lv_iload hx hb dX10_readNumber_151 (lv_at hl 4 rfl) ?_
              refine mc_putX E hG t0 mp_350 (by omega) (by omega) rfl rfl dX10_readNumber_153 (fun H locs hG => ?_)
              have hG := kO_set (PRd_26) hG
              obtain ⟨F10, eF10⟩ : ∃ Z : mF, Z = up2 F9 1 26 v4 := ⟨_, rfl⟩
              rw [← eF10] at hG
              have hLF10 : LF F10 15 = LF Fa 15 ∧ F10 1 25 = Fa 1 25 := by rw [eF10, LF_up (by decide), up2_ne (by omega)]; exact hLF9
              have hpF10 : (F10 1 26).toInt = v4.toInt := by rw [eF10, up2_at]
              have hbF10 : (F10 1 27).toInt = (F9 1 27).toInt := by rw [eF10, up2_ne (by omega)]
              have hrF10 : mRN F9 F10 := mRN.refl.put (Or.inl rfl) eF10
              refine lv_iload hx hb dX10_readNumber_156 (lv_at hl 5 rfl) ?_
              exact mc_iretX E hr hlk hG rfl rfl ⟨_, rfl, (by omega), (by omega), (((hex38.1.trans hrF4).trans hrF9).trans hrF10), Or.inl (by omega), (show NRx (LF Fa 15) (Fa 1 25).toInt x1.toInt x2.toInt x3.toInt (Fa 1 26).toInt _ (F10 1 26).toInt (F10 1 27).toInt from Or.inr ⟨by omega, Or.inr (Or.inr ⟨hex38.2.2.2.1, hRN.2.2 (by omega), by omega, _, hRN.1, by unfold MBe; omega⟩)⟩)⟩ dX10_readNumber_158
            · skip
              have ic8 := tn_ne rfl kI_0 c8
              refine lv_iload_n hx hb dX10_readNumber_127 rfl (lv_at hl 1 rfl) ?_
              refine lv_iconst (v := 3) hx hb dX10_readNumber_128 (by decide) ?_
              refine lv_icmp_ne (tgt := 156) hx hb dX10_readNumber_129 (by decide) (fun c11 => ?_) (fun c11 => ?_)
              · skip
                have ic11 := tn_ne rfl kI_3 c11
                refine lv_iload hx hb dX10_readNumber_156 (lv_at hl 5 rfl) ?_
                exact mc_iretX E hr hlk hG rfl rfl ⟨_, rfl, (by omega), (by omega), (hex38.1.trans hrF4), Or.inr (by omega), (show NRx (LF Fa 15) (Fa 1 25).toInt x1.toInt x2.toInt x3.toInt (Fa 1 26).toInt _ (F4 1 26).toInt (F4 1 27).toInt from Or.inl ⟨by omega, hex38.2.2.2.1, hRN.2.2 (by omega), by rw [show (F4 1 26).toInt = (Fa 1 26).toInt + 1 + v6.toInt by omega]; exact hRN.1, by unfold MBe; omega, by omega⟩)⟩ dX10_readNumber_158
              · skip
                have ic11 := tn_eq rfl kI_3 c11
                refine lv_iload_n hx hb dX10_readNumber_132 rfl (lv_at hl 2 rfl) ?_
                refine lv_iconst (v := 2) hx hb dX10_readNumber_133 (by decide) ?_
                refine lv_irem hx hb dX10_readNumber_134 (by decide) ?_
                refine lv_topi (fun z12 ez12 => ?_)
                have tz12 := tn_rem ez12 kI_2 (by omega) (by decide)
                refine lv_iconst (v := 1) hx hb dX10_readNumber_135 (by decide) ?_
                refine lv_icmp_ne (tgt := 156) hx hb dX10_readNumber_136 (by decide) (fun c13 => ?_) (fun c13 => ?_)
                · skip
                  have ic13 := tn_ne rfl kI_1 c13
                  refine lv_iload hx hb dX10_readNumber_156 (lv_at hl 5 rfl) ?_
                  exact mc_iretX E hr hlk hG rfl rfl ⟨_, rfl, (by omega), (by omega), (hex38.1.trans hrF4), Or.inr (by omega), (show NRx (LF Fa 15) (Fa 1 25).toInt x1.toInt x2.toInt x3.toInt (Fa 1 26).toInt _ (F4 1 26).toInt (F4 1 27).toInt from Or.inl ⟨by omega, hex38.2.2.2.1, hRN.2.2 (by omega), by rw [show (F4 1 26).toInt = (Fa 1 26).toInt + 1 + v6.toInt by omega]; exact hRN.1, by unfold MBe; omega, by omega⟩)⟩ dX10_readNumber_158
                · skip
                  have ic13 := tn_eq rfl kI_1 c13
                  refine lv_iload hx hb dX10_readNumber_139 (lv_at hl 5 rfl) ?_
                  refine lv_iload_n hx hb dX10_readNumber_141 rfl (lv_at hl 3 rfl) ?_
                  refine lv_icmp_ge (tgt := 156) hx hb dX10_readNumber_142 (by decide) (fun c14 => ?_) (fun c14 => ?_)
                  · skip
                    have ic14 := tn_le rfl rfl c14
                    refine lv_iload hx hb dX10_readNumber_156 (lv_at hl 5 rfl) ?_
                    exact mc_iretX E hr hlk hG rfl rfl ⟨_, rfl, (by omega), (by omega), (hex38.1.trans hrF4), Or.inr (by omega), (show NRx (LF Fa 15) (Fa 1 25).toInt x1.toInt x2.toInt x3.toInt (Fa 1 26).toInt _ (F4 1 26).toInt (F4 1 27).toInt from Or.inl ⟨by omega, hex38.2.2.2.1, hRN.2.2 (by omega), by rw [show (F4 1 26).toInt = (Fa 1 26).toInt + 1 + v6.toInt by omega]; exact hRN.1, by unfold MBe; omega, by omega⟩)⟩ dX10_readNumber_158
                  · skip
                    have ic14 := tn_nle rfl rfl c14
                    refine lv_aload_n hx hb dX10_readNumber_145 rfl (lv_at hl 0 rfl) ?_
                    refine lv_iconst (v := 1) hx hb dX10_readNumber_146 (by decide) ?_
                    refine mc_putX E hG t0 mp_359 (by decide) (by decide) (t_nz (by decide) (by decide)).1 (t_nz (by decide) (by decide)).2 dX10_readNumber_147 (fun H locs hG => ?_)
                    have hG := kO_set (PRd_27) hG
                    obtain ⟨F15, eF15⟩ : ∃ Z : mF, Z = up2 F4 1 27 (1 : Int32) := ⟨_, rfl⟩
                    rw [← eF15] at hG
                    have hLF15 : LF F15 15 = LF Fa 15 ∧ F15 1 25 = Fa 1 25 := by rw [eF15, LF_up (by decide), up2_ne (by omega)]; exact hLF4
                    have hpF15 : (F15 1 26).toInt = (F4 1 26).toInt := by rw [eF15, up2_ne (by omega)]
                    have hbF15 : (F15 1 27).toInt = 1 := by rw [eF15, up2_at]; decide
                    have hrF15 : mRN F4 F15 := mRN.refl.put (Or.inr rfl) eF15
                    refine lv_aload_n hx hb dX10_readNumber_150 rfl (lv_at hl 0 rfl) ?_
                    refine lv_iload hx hb dX10_readNumber_151 (lv_at hl 4 rfl) ?_
                    refine mc_putX E hG t0 mp_350 (by omega) (by omega) rfl rfl dX10_readNumber_153 (fun H locs hG => ?_)
                    have hG := kO_set (PRd_26) hG
                    obtain ⟨F16, eF16⟩ : ∃ Z : mF, Z = up2 F15 1 26 v4 := ⟨_, rfl⟩
                    rw [← eF16] at hG
                    have hLF16 : LF F16 15 = LF Fa 15 ∧ F16 1 25 = Fa 1 25 := by rw [eF16, LF_up (by decide), up2_ne (by omega)]; exact hLF15
                    have hpF16 : (F16 1 26).toInt = v4.toInt := by rw [eF16, up2_at]
                    have hbF16 : (F16 1 27).toInt = (F15 1 27).toInt := by rw [eF16, up2_ne (by omega)]
                    have hrF16 : mRN F15 F16 := mRN.refl.put (Or.inl rfl) eF16
                    refine lv_iload hx hb dX10_readNumber_156 (lv_at hl 5 rfl) ?_
                    exact mc_iretX E hr hlk hG rfl rfl ⟨_, rfl, (by omega), (by omega), (((hex38.1.trans hrF4).trans hrF15).trans hrF16), Or.inl (by omega), (show NRx (LF Fa 15) (Fa 1 25).toInt x1.toInt x2.toInt x3.toInt (Fa 1 26).toInt _ (F16 1 26).toInt (F16 1 27).toInt from Or.inr ⟨by omega, Or.inr (Or.inr ⟨hex38.2.2.2.1, hRN.2.2 (by omega), by omega, _, hRN.1, by unfold MBe; omega⟩)⟩)⟩ dX10_readNumber_158
        · skip
          have ic3 := tn_eq rfl rfl c3
          refine lv_iconst (v := 1) hx hb dX10_readNumber_102 (by decide) ?_
          refine lv_goto (tgt := 107) hx hb dX10_readNumber_103 (by decide) ?_
          refine mc_putX E hG t0 mp_359 (by decide) (by decide) (t_nz (by decide) (by decide)).1 (t_nz (by decide) (by decide)).2 dX10_readNumber_107 (fun H locs hG => ?_)
          have hG := kO_set (PRd_27) hG
          obtain ⟨F17, eF17⟩ : ∃ Z : mF, Z = up2 F 1 27 (1 : Int32) := ⟨_, rfl⟩
          rw [← eF17] at hG
          have hLF17 : LF F17 15 = LF Fa 15 ∧ F17 1 25 = Fa 1 25 := by rw [eF17, LF_up (by decide), up2_ne (by omega)]; exact hLF
          have hpF17 : (F17 1 26).toInt = (F 1 26).toInt := by rw [eF17, up2_ne (by omega)]
          have hbF17 : (F17 1 27).toInt = 1 := by rw [eF17, up2_at]; decide
          have hrF17 : mRN F F17 := mRN.refl.put (Or.inr rfl) eF17
          refine lv_aload_n hx hb dX10_readNumber_110 rfl (lv_at hl 0 rfl) ?_
          refine mc_geti E hG t0 mi_359 dX10_readNumber_111 (fun z18 lz18 uz18 qz18 => ?_)
          have wz18 := kq qz18 (PRd_27)
          have gz18 : z18.toInt = (F17 1 27).toInt := by rw [wz18]
          refine lv_if_ne (tgt := 156) hx hb dX10_readNumber_114 (by decide) (fun c19 => ?_) (fun c19 => ?_)
          · skip
            have ic19 := tn_ne rfl kI_0 c19
            refine lv_iload hx hb dX10_readNumber_156 (lv_at hl 5 rfl) ?_
            exact mc_iretX E hr hlk hG rfl rfl ⟨_, rfl, (by omega), (by omega), (hex38.1.trans hrF17), Or.inl (by omega), (show NRx (LF Fa 15) (Fa 1 25).toInt x1.toInt x2.toInt x3.toInt (Fa 1 26).toInt _ (F17 1 26).toInt (F17 1 27).toInt from Or.inr ⟨by omega, Or.inr (Or.inl ⟨hex38.2.2.2.1, hRN.2.1 (by omega), by omega⟩)⟩)⟩ dX10_readNumber_158
          · skip
            have ic19 := tn_eq rfl kI_0 c19
            refine lv_iload_n hx hb dX10_readNumber_117 rfl (lv_at hl 1 rfl) ?_
            refine lv_iload_n hx hb dX10_readNumber_118 rfl (lv_at hl 2 rfl) ?_
            refine lv_iload hx hb dX10_readNumber_119 (lv_at hl 5 rfl) ?_
            refine tc_callp (mc_runS (As := [.int x1, .int x2, .int v5]) (rest := []) E hG (x_X10_mayBe l G (σ, cu, kO PRd X F17) x1 x2 v5) ks_X10_mayBe ml_X10_120 ⟨rfl, rfl, Nat.le_of_ble_eq_true rfl, Nat.le_of_ble_eq_true rfl⟩ rfl hl.1 rfl (Nat.le_of_ble_eq_true rfl) ⟨Nat.zero_le _, Nat.zero_le _⟩ dX10_readNumber_121) (fun r20 pr20 => ?_)
            replace pr20 : r20.toInt = iMB x1.toInt x2.toInt v5.toInt := pr20
            have br20 := iMB_b pr20
            refine lv_if_eq (tgt := 145) hx hb dX10_readNumber_124 (by decide) (fun c21 => ?_) (fun c21 => ?_)
            · skip
              have ic21 := tn_eq rfl kI_0 c21
              refine lv_aload_n hx hb dX10_readNumber_145 rfl (lv_at hl 0 rfl) ?_
              refine lv_iconst (v := 1) hx hb dX10_readNumber_146 (by decide) ?_
              refine mc_putX E hG t0 mp_359 (by decide) (by decide) (t_nz (by decide) (by decide)).1 (t_nz (by decide) (by decide)).2 dX10_readNumber_147 (fun H locs hG => ?_)
              have hG := kO_set (PRd_27) hG
              obtain ⟨F22, eF22⟩ : ∃ Z : mF, Z = up2 F17 1 27 (1 : Int32) := ⟨_, rfl⟩
              rw [← eF22] at hG
              have hLF22 : LF F22 15 = LF Fa 15 ∧ F22 1 25 = Fa 1 25 := by rw [eF22, LF_up (by decide), up2_ne (by omega)]; exact hLF17
              have hpF22 : (F22 1 26).toInt = (F17 1 26).toInt := by rw [eF22, up2_ne (by omega)]
              have hbF22 : (F22 1 27).toInt = 1 := by rw [eF22, up2_at]; decide
              have hrF22 : mRN F17 F22 := mRN.refl.put (Or.inr rfl) eF22
              refine lv_aload_n hx hb dX10_readNumber_150 rfl (lv_at hl 0 rfl) ?_
              refine lv_iload hx hb dX10_readNumber_151 (lv_at hl 4 rfl) ?_
              refine mc_putX E hG t0 mp_350 (by omega) (by omega) rfl rfl dX10_readNumber_153 (fun H locs hG => ?_)
              have hG := kO_set (PRd_26) hG
              obtain ⟨F23, eF23⟩ : ∃ Z : mF, Z = up2 F22 1 26 v4 := ⟨_, rfl⟩
              rw [← eF23] at hG
              have hLF23 : LF F23 15 = LF Fa 15 ∧ F23 1 25 = Fa 1 25 := by rw [eF23, LF_up (by decide), up2_ne (by omega)]; exact hLF22
              have hpF23 : (F23 1 26).toInt = v4.toInt := by rw [eF23, up2_at]
              have hbF23 : (F23 1 27).toInt = (F22 1 27).toInt := by rw [eF23, up2_ne (by omega)]
              have hrF23 : mRN F22 F23 := mRN.refl.put (Or.inl rfl) eF23
              refine lv_iload hx hb dX10_readNumber_156 (lv_at hl 5 rfl) ?_
              exact mc_iretX E hr hlk hG rfl rfl ⟨_, rfl, (by omega), (by omega), (((hex38.1.trans hrF17).trans hrF22).trans hrF23), Or.inl (by omega), (show NRx (LF Fa 15) (Fa 1 25).toInt x1.toInt x2.toInt x3.toInt (Fa 1 26).toInt _ (F23 1 26).toInt (F23 1 27).toInt from Or.inr ⟨by omega, Or.inr (Or.inl ⟨hex38.2.2.2.1, hRN.2.1 (by omega), by omega⟩)⟩)⟩ dX10_readNumber_158
            · skip
              have ic21 := tn_ne rfl kI_0 c21
              refine lv_iload_n hx hb dX10_readNumber_127 rfl (lv_at hl 1 rfl) ?_
              refine lv_iconst (v := 3) hx hb dX10_readNumber_128 (by decide) ?_
              refine lv_icmp_ne (tgt := 156) hx hb dX10_readNumber_129 (by decide) (fun c24 => ?_) (fun c24 => ?_)
              · skip
                have ic24 := tn_ne rfl kI_3 c24
                refine lv_iload hx hb dX10_readNumber_156 (lv_at hl 5 rfl) ?_
                exact mc_iretX E hr hlk hG rfl rfl ⟨_, rfl, (by omega), (by omega), (hex38.1.trans hrF17), Or.inl (by omega), (show NRx (LF Fa 15) (Fa 1 25).toInt x1.toInt x2.toInt x3.toInt (Fa 1 26).toInt _ (F17 1 26).toInt (F17 1 27).toInt from Or.inr ⟨by omega, Or.inr (Or.inl ⟨hex38.2.2.2.1, hRN.2.1 (by omega), by omega⟩)⟩)⟩ dX10_readNumber_158
              · skip
                have ic24 := tn_eq rfl kI_3 c24
                refine lv_iload_n hx hb dX10_readNumber_132 rfl (lv_at hl 2 rfl) ?_
                refine lv_iconst (v := 2) hx hb dX10_readNumber_133 (by decide) ?_
                refine lv_irem hx hb dX10_readNumber_134 (by decide) ?_
                refine lv_topi (fun z25 ez25 => ?_)
                have tz25 := tn_rem ez25 kI_2 (by omega) (by decide)
                refine lv_iconst (v := 1) hx hb dX10_readNumber_135 (by decide) ?_
                refine lv_icmp_ne (tgt := 156) hx hb dX10_readNumber_136 (by decide) (fun c26 => ?_) (fun c26 => ?_)
                · skip
                  have ic26 := tn_ne rfl kI_1 c26
                  refine lv_iload hx hb dX10_readNumber_156 (lv_at hl 5 rfl) ?_
                  exact mc_iretX E hr hlk hG rfl rfl ⟨_, rfl, (by omega), (by omega), (hex38.1.trans hrF17), Or.inl (by omega), (show NRx (LF Fa 15) (Fa 1 25).toInt x1.toInt x2.toInt x3.toInt (Fa 1 26).toInt _ (F17 1 26).toInt (F17 1 27).toInt from Or.inr ⟨by omega, Or.inr (Or.inl ⟨hex38.2.2.2.1, hRN.2.1 (by omega), by omega⟩)⟩)⟩ dX10_readNumber_158
                · skip
                  have ic26 := tn_eq rfl kI_1 c26
                  refine lv_iload hx hb dX10_readNumber_139 (lv_at hl 5 rfl) ?_
                  refine lv_iload_n hx hb dX10_readNumber_141 rfl (lv_at hl 3 rfl) ?_
                  refine lv_icmp_ge (tgt := 156) hx hb dX10_readNumber_142 (by decide) (fun c27 => ?_) (fun c27 => ?_)
                  · skip
                    have ic27 := tn_le rfl rfl c27
                    refine lv_iload hx hb dX10_readNumber_156 (lv_at hl 5 rfl) ?_
                    exact mc_iretX E hr hlk hG rfl rfl ⟨_, rfl, (by omega), (by omega), (hex38.1.trans hrF17), Or.inl (by omega), (show NRx (LF Fa 15) (Fa 1 25).toInt x1.toInt x2.toInt x3.toInt (Fa 1 26).toInt _ (F17 1 26).toInt (F17 1 27).toInt from Or.inr ⟨by omega, Or.inr (Or.inl ⟨hex38.2.2.2.1, hRN.2.1 (by omega), by omega⟩)⟩)⟩ dX10_readNumber_158
                  · skip
                    have ic27 := tn_nle rfl rfl c27
                    refine lv_aload_n hx hb dX10_readNumber_145 rfl (lv_at hl 0 rfl) ?_
                    refine lv_iconst (v := 1) hx hb dX10_readNumber_146 (by decide) ?_
                    refine mc_putX E hG t0 mp_359 (by decide) (by decide) (t_nz (by decide) (by decide)).1 (t_nz (by decide) (by decide)).2 dX10_readNumber_147 (fun H locs hG => ?_)
                    have hG := kO_set (PRd_27) hG
                    obtain ⟨F28, eF28⟩ : ∃ Z : mF, Z = up2 F17 1 27 (1 : Int32) := ⟨_, rfl⟩
                    rw [← eF28] at hG
                    have hLF28 : LF F28 15 = LF Fa 15 ∧ F28 1 25 = Fa 1 25 := by rw [eF28, LF_up (by decide), up2_ne (by omega)]; exact hLF17
                    have hpF28 : (F28 1 26).toInt = (F17 1 26).toInt := by rw [eF28, up2_ne (by omega)]
                    have hbF28 : (F28 1 27).toInt = 1 := by rw [eF28, up2_at]; decide
                    have hrF28 : mRN F17 F28 := mRN.refl.put (Or.inr rfl) eF28
                    refine lv_aload_n hx hb dX10_readNumber_150 rfl (lv_at hl 0 rfl) ?_
                    refine lv_iload hx hb dX10_readNumber_151 (lv_at hl 4 rfl) ?_
                    refine mc_putX E hG t0 mp_350 (by omega) (by omega) rfl rfl dX10_readNumber_153 (fun H locs hG => ?_)
                    have hG := kO_set (PRd_26) hG
                    obtain ⟨F29, eF29⟩ : ∃ Z : mF, Z = up2 F28 1 26 v4 := ⟨_, rfl⟩
                    rw [← eF29] at hG
                    have hLF29 : LF F29 15 = LF Fa 15 ∧ F29 1 25 = Fa 1 25 := by rw [eF29, LF_up (by decide), up2_ne (by omega)]; exact hLF28
                    have hpF29 : (F29 1 26).toInt = v4.toInt := by rw [eF29, up2_at]
                    have hbF29 : (F29 1 27).toInt = (F28 1 27).toInt := by rw [eF29, up2_ne (by omega)]
                    have hrF29 : mRN F28 F29 := mRN.refl.put (Or.inl rfl) eF29
                    refine lv_iload hx hb dX10_readNumber_156 (lv_at hl 5 rfl) ?_
                    exact mc_iretX E hr hlk hG rfl rfl ⟨_, rfl, (by omega), (by omega), (((hex38.1.trans hrF17).trans hrF28).trans hrF29), Or.inl (by omega), (show NRx (LF Fa 15) (Fa 1 25).toInt x1.toInt x2.toInt x3.toInt (Fa 1 26).toInt _ (F29 1 26).toInt (F29 1 27).toInt from Or.inr ⟨by omega, Or.inr (Or.inl ⟨hex38.2.2.2.1, hRN.2.1 (by omega), by omega⟩)⟩)⟩ dX10_readNumber_158
      · skip
        have ic1 := tn_nle kI_2 rfl c1
        refine lv_aload_n hx hb dX10_readNumber_44 rfl (lv_at hl 0 rfl) ?_
        refine mc_calli hG (mc_runV (As := []) (rest := []) E hG (x_X10_here l G σ cu X F h0 t0) t0 rfl kv_X10_here ml_X10_356 ⟨rfl, rfl, Nat.le_of_ble_eq_true rfl, Nat.le_of_ble_eq_true rfl⟩ rfl hl.1 rfl (Nat.le_of_ble_eq_true rfl) ⟨Nat.zero_le _, Nat.zero_le _⟩ dX10_readNumber_45) (fun r30 H locs pr30 hG => ?_)
        replace pr30 : (r30.toInt = -1 ∧ nx (LF F 15) (F 1 25).toInt (F 1 26).toInt = 0) ∨ (0 ≤ r30.toInt ∧ r30.toInt ≤ 126 ∧ (F 1 26).toInt < (F 1 25).toInt ∧ (F 1 26).toInt ≤ 119 ∧ r30.toInt = nx (LF F 15) (F 1 25).toInt (F 1 26).toInt) := pr30
        have br30 : -1 ≤ r30.toInt ∧ r30.toInt ≤ 126 := by omega
        rw [hLF.1, hLF.2] at pr30
        rw [show (F 1 26).toInt = (Fa 1 26).toInt + 1 + v6.toInt by omega] at pr30
        refine lv_i2l hx hb dX10_readNumber_48 rfl ?_
        refine lv_topl (fun z31 ez31 => ?_)
        have tz31 := tl_i2l ez31
        refine lv_ldc2 (v := 48) hx hb E.2.2.2.1 (E.2.2.2.2.1 _ (t_w8 19 rfl rfl)) dX10_readNumber_49 ?_
        refine lv_topl (fun z32 ez32 => ?_)
        have tz32 : z32.toInt = 48 := by rw [ez32]; decide
        refine lv_ldc2 (v := 57) hx hb E.2.2.2.1 (E.2.2.2.2.1 _ (t_w8 20 rfl rfl)) dX10_readNumber_52 ?_
        refine lv_topl (fun z33 ez33 => ?_)
        have tz33 : z33.toInt = 57 := by rw [ez33]; decide
        refine tc_callp (mc_runS (As := [.long z31, .long z32, .long z33]) (rest := []) E hG (c_X10_in l G (σ, cu, kO PRd X F) z31 z32 z33) ks_X10_in ml_X10_87 ⟨rfl, rfl, Nat.le_of_ble_eq_true rfl, Nat.le_of_ble_eq_true rfl⟩ rfl hl.1 rfl (Nat.le_of_ble_eq_true rfl) ⟨Nat.zero_le _, Nat.zero_le _⟩ dX10_readNumber_55) (fun r34 pr34 => ?_)
        replace pr34 : ((r34.toInt = 1 ∧ z32.toInt ≤ z31.toInt ∧ z31.toInt ≤ z33.toInt) ∨ (r34.toInt = 0 ∧ (z31.toInt < z32.toInt ∨ z33.toInt < z31.toInt))) := pr34
        refine lv_if_eq (tgt := 92) hx hb dX10_readNumber_58 (by decide) (fun c35 => ?_) (fun c35 => ?_)
        · skip
          have ic35 := tn_eq rfl kI_0 c35
          have hRN := RNf_of hex38.2.2.2.2.1 (by unfold fg; omega)
          refine lv_aload_n hx hb dX10_readNumber_92 rfl (lv_at hl 0 rfl) ?_
          refine lv_aload_n hx hb dX10_readNumber_93 rfl (lv_at hl 0 rfl) ?_
          refine mc_geti E hG t0 mi_350 dX10_readNumber_94 (fun z36 lz36 uz36 qz36 => ?_)
          have wz36 := kq qz36 (PRd_26)
          have gz36 : z36.toInt = (F 1 26).toInt := by rw [wz36]
          refine lv_iload hx hb dX10_readNumber_97 (lv_at hl 4 rfl) ?_
          refine lv_icmp_ne (tgt := 106) hx hb dX10_readNumber_99 (by decide) (fun c37 => ?_) (fun c37 => ?_)
          · skip
            have ic37 := tn_ne rfl rfl c37
            refine lv_iconst (v := 0) hx hb dX10_readNumber_106 (by decide) ?_
            refine mc_putX E hG t0 mp_359 (by decide) (by decide) (t_nz (by decide) (by decide)).1 (t_nz (by decide) (by decide)).2 dX10_readNumber_107 (fun H locs hG => ?_)
            have hG := kO_set (PRd_27) hG
            obtain ⟨F38, eF38⟩ : ∃ Z : mF, Z = up2 F 1 27 (0 : Int32) := ⟨_, rfl⟩
            rw [← eF38] at hG
            have hLF38 : LF F38 15 = LF Fa 15 ∧ F38 1 25 = Fa 1 25 := by rw [eF38, LF_up (by decide), up2_ne (by omega)]; exact hLF
            have hpF38 : (F38 1 26).toInt = (F 1 26).toInt := by rw [eF38, up2_ne (by omega)]
            have hbF38 : (F38 1 27).toInt = 0 := by rw [eF38, up2_at]; decide
            have hrF38 : mRN F F38 := mRN.refl.put (Or.inr rfl) eF38
            refine lv_aload_n hx hb dX10_readNumber_110 rfl (lv_at hl 0 rfl) ?_
            refine mc_geti E hG t0 mi_359 dX10_readNumber_111 (fun z39 lz39 uz39 qz39 => ?_)
            have wz39 := kq qz39 (PRd_27)
            have gz39 : z39.toInt = (F38 1 27).toInt := by rw [wz39]
            refine lv_if_ne (tgt := 156) hx hb dX10_readNumber_114 (by decide) (fun c40 => ?_) (fun c40 => ?_)
            · skip
              have ic40 := tn_ne rfl kI_0 c40
              refine lv_iload hx hb dX10_readNumber_156 (lv_at hl 5 rfl) ?_
              exact mc_iretX E hr hlk hG rfl rfl ⟨_, rfl, (by omega), (by omega), (hex38.1.trans hrF38), Or.inr (by omega), (show NRx (LF Fa 15) (Fa 1 25).toInt x1.toInt x2.toInt x3.toInt (Fa 1 26).toInt _ (F38 1 26).toInt (F38 1 27).toInt from Or.inl ⟨by omega, hex38.2.2.2.1, hRN.2.2 (by omega), by rw [show (F38 1 26).toInt = (Fa 1 26).toInt + 1 + v6.toInt by omega]; exact hRN.1, by unfold MBe; omega, by omega⟩)⟩ dX10_readNumber_158
            · skip
              have ic40 := tn_eq rfl kI_0 c40
              refine lv_iload_n hx hb dX10_readNumber_117 rfl (lv_at hl 1 rfl) ?_
              refine lv_iload_n hx hb dX10_readNumber_118 rfl (lv_at hl 2 rfl) ?_
              refine lv_iload hx hb dX10_readNumber_119 (lv_at hl 5 rfl) ?_
              refine tc_callp (mc_runS (As := [.int x1, .int x2, .int v5]) (rest := []) E hG (x_X10_mayBe l G (σ, cu, kO PRd X F38) x1 x2 v5) ks_X10_mayBe ml_X10_120 ⟨rfl, rfl, Nat.le_of_ble_eq_true rfl, Nat.le_of_ble_eq_true rfl⟩ rfl hl.1 rfl (Nat.le_of_ble_eq_true rfl) ⟨Nat.zero_le _, Nat.zero_le _⟩ dX10_readNumber_121) (fun r41 pr41 => ?_)
              replace pr41 : r41.toInt = iMB x1.toInt x2.toInt v5.toInt := pr41
              have br41 := iMB_b pr41
              refine lv_if_eq (tgt := 145) hx hb dX10_readNumber_124 (by decide) (fun c42 => ?_) (fun c42 => ?_)
              · skip
                have ic42 := tn_eq rfl kI_0 c42
                refine lv_aload_n hx hb dX10_readNumber_145 rfl (lv_at hl 0 rfl) ?_
                refine lv_iconst (v := 1) hx hb dX10_readNumber_146 (by decide) ?_
                refine mc_putX E hG t0 mp_359 (by decide) (by decide) (t_nz (by decide) (by decide)).1 (t_nz (by decide) (by decide)).2 dX10_readNumber_147 (fun H locs hG => ?_)
                have hG := kO_set (PRd_27) hG
                obtain ⟨F43, eF43⟩ : ∃ Z : mF, Z = up2 F38 1 27 (1 : Int32) := ⟨_, rfl⟩
                rw [← eF43] at hG
                have hLF43 : LF F43 15 = LF Fa 15 ∧ F43 1 25 = Fa 1 25 := by rw [eF43, LF_up (by decide), up2_ne (by omega)]; exact hLF38
                have hpF43 : (F43 1 26).toInt = (F38 1 26).toInt := by rw [eF43, up2_ne (by omega)]
                have hbF43 : (F43 1 27).toInt = 1 := by rw [eF43, up2_at]; decide
                have hrF43 : mRN F38 F43 := mRN.refl.put (Or.inr rfl) eF43
                refine lv_aload_n hx hb dX10_readNumber_150 rfl (lv_at hl 0 rfl) ?_
                refine lv_iload hx hb dX10_readNumber_151 (lv_at hl 4 rfl) ?_
                refine mc_putX E hG t0 mp_350 (by omega) (by omega) rfl rfl dX10_readNumber_153 (fun H locs hG => ?_)
                have hG := kO_set (PRd_26) hG
                obtain ⟨F44, eF44⟩ : ∃ Z : mF, Z = up2 F43 1 26 v4 := ⟨_, rfl⟩
                rw [← eF44] at hG
                have hLF44 : LF F44 15 = LF Fa 15 ∧ F44 1 25 = Fa 1 25 := by rw [eF44, LF_up (by decide), up2_ne (by omega)]; exact hLF43
                have hpF44 : (F44 1 26).toInt = v4.toInt := by rw [eF44, up2_at]
                have hbF44 : (F44 1 27).toInt = (F43 1 27).toInt := by rw [eF44, up2_ne (by omega)]
                have hrF44 : mRN F43 F44 := mRN.refl.put (Or.inl rfl) eF44
                refine lv_iload hx hb dX10_readNumber_156 (lv_at hl 5 rfl) ?_
                exact mc_iretX E hr hlk hG rfl rfl ⟨_, rfl, (by omega), (by omega), (((hex38.1.trans hrF38).trans hrF43).trans hrF44), Or.inl (by omega), (show NRx (LF Fa 15) (Fa 1 25).toInt x1.toInt x2.toInt x3.toInt (Fa 1 26).toInt _ (F44 1 26).toInt (F44 1 27).toInt from Or.inr ⟨by omega, Or.inr (Or.inr ⟨hex38.2.2.2.1, hRN.2.2 (by omega), by omega, _, hRN.1, by unfold MBe; omega⟩)⟩)⟩ dX10_readNumber_158
              · skip
                have ic42 := tn_ne rfl kI_0 c42
                refine lv_iload_n hx hb dX10_readNumber_127 rfl (lv_at hl 1 rfl) ?_
                refine lv_iconst (v := 3) hx hb dX10_readNumber_128 (by decide) ?_
                refine lv_icmp_ne (tgt := 156) hx hb dX10_readNumber_129 (by decide) (fun c45 => ?_) (fun c45 => ?_)
                · skip
                  have ic45 := tn_ne rfl kI_3 c45
                  refine lv_iload hx hb dX10_readNumber_156 (lv_at hl 5 rfl) ?_
                  exact mc_iretX E hr hlk hG rfl rfl ⟨_, rfl, (by omega), (by omega), (hex38.1.trans hrF38), Or.inr (by omega), (show NRx (LF Fa 15) (Fa 1 25).toInt x1.toInt x2.toInt x3.toInt (Fa 1 26).toInt _ (F38 1 26).toInt (F38 1 27).toInt from Or.inl ⟨by omega, hex38.2.2.2.1, hRN.2.2 (by omega), by rw [show (F38 1 26).toInt = (Fa 1 26).toInt + 1 + v6.toInt by omega]; exact hRN.1, by unfold MBe; omega, by omega⟩)⟩ dX10_readNumber_158
                · skip
                  have ic45 := tn_eq rfl kI_3 c45
                  refine lv_iload_n hx hb dX10_readNumber_132 rfl (lv_at hl 2 rfl) ?_
                  refine lv_iconst (v := 2) hx hb dX10_readNumber_133 (by decide) ?_
                  refine lv_irem hx hb dX10_readNumber_134 (by decide) ?_
                  refine lv_topi (fun z46 ez46 => ?_)
                  have tz46 := tn_rem ez46 kI_2 (by omega) (by decide)
                  refine lv_iconst (v := 1) hx hb dX10_readNumber_135 (by decide) ?_
                  refine lv_icmp_ne (tgt := 156) hx hb dX10_readNumber_136 (by decide) (fun c47 => ?_) (fun c47 => ?_)
                  · skip
                    have ic47 := tn_ne rfl kI_1 c47
                    refine lv_iload hx hb dX10_readNumber_156 (lv_at hl 5 rfl) ?_
                    exact mc_iretX E hr hlk hG rfl rfl ⟨_, rfl, (by omega), (by omega), (hex38.1.trans hrF38), Or.inr (by omega), (show NRx (LF Fa 15) (Fa 1 25).toInt x1.toInt x2.toInt x3.toInt (Fa 1 26).toInt _ (F38 1 26).toInt (F38 1 27).toInt from Or.inl ⟨by omega, hex38.2.2.2.1, hRN.2.2 (by omega), by rw [show (F38 1 26).toInt = (Fa 1 26).toInt + 1 + v6.toInt by omega]; exact hRN.1, by unfold MBe; omega, by omega⟩)⟩ dX10_readNumber_158
                  · skip
                    have ic47 := tn_eq rfl kI_1 c47
                    refine lv_iload hx hb dX10_readNumber_139 (lv_at hl 5 rfl) ?_
                    refine lv_iload_n hx hb dX10_readNumber_141 rfl (lv_at hl 3 rfl) ?_
                    refine lv_icmp_ge (tgt := 156) hx hb dX10_readNumber_142 (by decide) (fun c48 => ?_) (fun c48 => ?_)
                    · skip
                      have ic48 := tn_le rfl rfl c48
                      refine lv_iload hx hb dX10_readNumber_156 (lv_at hl 5 rfl) ?_
                      exact mc_iretX E hr hlk hG rfl rfl ⟨_, rfl, (by omega), (by omega), (hex38.1.trans hrF38), Or.inr (by omega), (show NRx (LF Fa 15) (Fa 1 25).toInt x1.toInt x2.toInt x3.toInt (Fa 1 26).toInt _ (F38 1 26).toInt (F38 1 27).toInt from Or.inl ⟨by omega, hex38.2.2.2.1, hRN.2.2 (by omega), by rw [show (F38 1 26).toInt = (Fa 1 26).toInt + 1 + v6.toInt by omega]; exact hRN.1, by unfold MBe; omega, by omega⟩)⟩ dX10_readNumber_158
                    · skip
                      have ic48 := tn_nle rfl rfl c48
                      refine lv_aload_n hx hb dX10_readNumber_145 rfl (lv_at hl 0 rfl) ?_
                      refine lv_iconst (v := 1) hx hb dX10_readNumber_146 (by decide) ?_
                      refine mc_putX E hG t0 mp_359 (by decide) (by decide) (t_nz (by decide) (by decide)).1 (t_nz (by decide) (by decide)).2 dX10_readNumber_147 (fun H locs hG => ?_)
                      have hG := kO_set (PRd_27) hG
                      obtain ⟨F49, eF49⟩ : ∃ Z : mF, Z = up2 F38 1 27 (1 : Int32) := ⟨_, rfl⟩
                      rw [← eF49] at hG
                      have hLF49 : LF F49 15 = LF Fa 15 ∧ F49 1 25 = Fa 1 25 := by rw [eF49, LF_up (by decide), up2_ne (by omega)]; exact hLF38
                      have hpF49 : (F49 1 26).toInt = (F38 1 26).toInt := by rw [eF49, up2_ne (by omega)]
                      have hbF49 : (F49 1 27).toInt = 1 := by rw [eF49, up2_at]; decide
                      have hrF49 : mRN F38 F49 := mRN.refl.put (Or.inr rfl) eF49
                      refine lv_aload_n hx hb dX10_readNumber_150 rfl (lv_at hl 0 rfl) ?_
                      refine lv_iload hx hb dX10_readNumber_151 (lv_at hl 4 rfl) ?_
                      refine mc_putX E hG t0 mp_350 (by omega) (by omega) rfl rfl dX10_readNumber_153 (fun H locs hG => ?_)
                      have hG := kO_set (PRd_26) hG
                      obtain ⟨F50, eF50⟩ : ∃ Z : mF, Z = up2 F49 1 26 v4 := ⟨_, rfl⟩
                      rw [← eF50] at hG
                      have hLF50 : LF F50 15 = LF Fa 15 ∧ F50 1 25 = Fa 1 25 := by rw [eF50, LF_up (by decide), up2_ne (by omega)]; exact hLF49
                      have hpF50 : (F50 1 26).toInt = v4.toInt := by rw [eF50, up2_at]
                      have hbF50 : (F50 1 27).toInt = (F49 1 27).toInt := by rw [eF50, up2_ne (by omega)]
                      have hrF50 : mRN F49 F50 := mRN.refl.put (Or.inl rfl) eF50
                      refine lv_iload hx hb dX10_readNumber_156 (lv_at hl 5 rfl) ?_
                      exact mc_iretX E hr hlk hG rfl rfl ⟨_, rfl, (by omega), (by omega), (((hex38.1.trans hrF38).trans hrF49).trans hrF50), Or.inl (by omega), (show NRx (LF Fa 15) (Fa 1 25).toInt x1.toInt x2.toInt x3.toInt (Fa 1 26).toInt _ (F50 1 26).toInt (F50 1 27).toInt from Or.inr ⟨by omega, Or.inr (Or.inr ⟨hex38.2.2.2.1, hRN.2.2 (by omega), by omega, _, hRN.1, by unfold MBe; omega⟩)⟩)⟩ dX10_readNumber_158
          · skip
            have ic37 := tn_eq rfl rfl c37
            refine lv_iconst (v := 1) hx hb dX10_readNumber_102 (by decide) ?_
            refine lv_goto (tgt := 107) hx hb dX10_readNumber_103 (by decide) ?_
            refine mc_putX E hG t0 mp_359 (by decide) (by decide) (t_nz (by decide) (by decide)).1 (t_nz (by decide) (by decide)).2 dX10_readNumber_107 (fun H locs hG => ?_)
            have hG := kO_set (PRd_27) hG
            obtain ⟨F51, eF51⟩ : ∃ Z : mF, Z = up2 F 1 27 (1 : Int32) := ⟨_, rfl⟩
            rw [← eF51] at hG
            have hLF51 : LF F51 15 = LF Fa 15 ∧ F51 1 25 = Fa 1 25 := by rw [eF51, LF_up (by decide), up2_ne (by omega)]; exact hLF
            have hpF51 : (F51 1 26).toInt = (F 1 26).toInt := by rw [eF51, up2_ne (by omega)]
            have hbF51 : (F51 1 27).toInt = 1 := by rw [eF51, up2_at]; decide
            have hrF51 : mRN F F51 := mRN.refl.put (Or.inr rfl) eF51
            refine lv_aload_n hx hb dX10_readNumber_110 rfl (lv_at hl 0 rfl) ?_
            refine mc_geti E hG t0 mi_359 dX10_readNumber_111 (fun z52 lz52 uz52 qz52 => ?_)
            have wz52 := kq qz52 (PRd_27)
            have gz52 : z52.toInt = (F51 1 27).toInt := by rw [wz52]
            refine lv_if_ne (tgt := 156) hx hb dX10_readNumber_114 (by decide) (fun c53 => ?_) (fun c53 => ?_)
            · skip
              have ic53 := tn_ne rfl kI_0 c53
              refine lv_iload hx hb dX10_readNumber_156 (lv_at hl 5 rfl) ?_
              exact mc_iretX E hr hlk hG rfl rfl ⟨_, rfl, (by omega), (by omega), (hex38.1.trans hrF51), Or.inl (by omega), (show NRx (LF Fa 15) (Fa 1 25).toInt x1.toInt x2.toInt x3.toInt (Fa 1 26).toInt _ (F51 1 26).toInt (F51 1 27).toInt from Or.inr ⟨by omega, Or.inr (Or.inl ⟨hex38.2.2.2.1, hRN.2.1 (by omega), by omega⟩)⟩)⟩ dX10_readNumber_158
            · skip
              have ic53 := tn_eq rfl kI_0 c53
              refine lv_iload_n hx hb dX10_readNumber_117 rfl (lv_at hl 1 rfl) ?_
              refine lv_iload_n hx hb dX10_readNumber_118 rfl (lv_at hl 2 rfl) ?_
              refine lv_iload hx hb dX10_readNumber_119 (lv_at hl 5 rfl) ?_
              refine tc_callp (mc_runS (As := [.int x1, .int x2, .int v5]) (rest := []) E hG (x_X10_mayBe l G (σ, cu, kO PRd X F51) x1 x2 v5) ks_X10_mayBe ml_X10_120 ⟨rfl, rfl, Nat.le_of_ble_eq_true rfl, Nat.le_of_ble_eq_true rfl⟩ rfl hl.1 rfl (Nat.le_of_ble_eq_true rfl) ⟨Nat.zero_le _, Nat.zero_le _⟩ dX10_readNumber_121) (fun r54 pr54 => ?_)
              replace pr54 : r54.toInt = iMB x1.toInt x2.toInt v5.toInt := pr54
              have br54 := iMB_b pr54
              refine lv_if_eq (tgt := 145) hx hb dX10_readNumber_124 (by decide) (fun c55 => ?_) (fun c55 => ?_)
              · skip
                have ic55 := tn_eq rfl kI_0 c55
                refine lv_aload_n hx hb dX10_readNumber_145 rfl (lv_at hl 0 rfl) ?_
                refine lv_iconst (v := 1) hx hb dX10_readNumber_146 (by decide) ?_
                refine mc_putX E hG t0 mp_359 (by decide) (by decide) (t_nz (by decide) (by decide)).1 (t_nz (by decide) (by decide)).2 dX10_readNumber_147 (fun H locs hG => ?_)
                have hG := kO_set (PRd_27) hG
                obtain ⟨F56, eF56⟩ : ∃ Z : mF, Z = up2 F51 1 27 (1 : Int32) := ⟨_, rfl⟩
                rw [← eF56] at hG
                have hLF56 : LF F56 15 = LF Fa 15 ∧ F56 1 25 = Fa 1 25 := by rw [eF56, LF_up (by decide), up2_ne (by omega)]; exact hLF51
                have hpF56 : (F56 1 26).toInt = (F51 1 26).toInt := by rw [eF56, up2_ne (by omega)]
                have hbF56 : (F56 1 27).toInt = 1 := by rw [eF56, up2_at]; decide
                have hrF56 : mRN F51 F56 := mRN.refl.put (Or.inr rfl) eF56
                refine lv_aload_n hx hb dX10_readNumber_150 rfl (lv_at hl 0 rfl) ?_
                refine lv_iload hx hb dX10_readNumber_151 (lv_at hl 4 rfl) ?_
                refine mc_putX E hG t0 mp_350 (by omega) (by omega) rfl rfl dX10_readNumber_153 (fun H locs hG => ?_)
                have hG := kO_set (PRd_26) hG
                obtain ⟨F57, eF57⟩ : ∃ Z : mF, Z = up2 F56 1 26 v4 := ⟨_, rfl⟩
                rw [← eF57] at hG
                have hLF57 : LF F57 15 = LF Fa 15 ∧ F57 1 25 = Fa 1 25 := by rw [eF57, LF_up (by decide), up2_ne (by omega)]; exact hLF56
                have hpF57 : (F57 1 26).toInt = v4.toInt := by rw [eF57, up2_at]
                have hbF57 : (F57 1 27).toInt = (F56 1 27).toInt := by rw [eF57, up2_ne (by omega)]
                have hrF57 : mRN F56 F57 := mRN.refl.put (Or.inl rfl) eF57
                refine lv_iload hx hb dX10_readNumber_156 (lv_at hl 5 rfl) ?_
                exact mc_iretX E hr hlk hG rfl rfl ⟨_, rfl, (by omega), (by omega), (((hex38.1.trans hrF51).trans hrF56).trans hrF57), Or.inl (by omega), (show NRx (LF Fa 15) (Fa 1 25).toInt x1.toInt x2.toInt x3.toInt (Fa 1 26).toInt _ (F57 1 26).toInt (F57 1 27).toInt from Or.inr ⟨by omega, Or.inr (Or.inl ⟨hex38.2.2.2.1, hRN.2.1 (by omega), by omega⟩)⟩)⟩ dX10_readNumber_158
              · skip
                have ic55 := tn_ne rfl kI_0 c55
                refine lv_iload_n hx hb dX10_readNumber_127 rfl (lv_at hl 1 rfl) ?_
                refine lv_iconst (v := 3) hx hb dX10_readNumber_128 (by decide) ?_
                refine lv_icmp_ne (tgt := 156) hx hb dX10_readNumber_129 (by decide) (fun c58 => ?_) (fun c58 => ?_)
                · skip
                  have ic58 := tn_ne rfl kI_3 c58
                  refine lv_iload hx hb dX10_readNumber_156 (lv_at hl 5 rfl) ?_
                  exact mc_iretX E hr hlk hG rfl rfl ⟨_, rfl, (by omega), (by omega), (hex38.1.trans hrF51), Or.inl (by omega), (show NRx (LF Fa 15) (Fa 1 25).toInt x1.toInt x2.toInt x3.toInt (Fa 1 26).toInt _ (F51 1 26).toInt (F51 1 27).toInt from Or.inr ⟨by omega, Or.inr (Or.inl ⟨hex38.2.2.2.1, hRN.2.1 (by omega), by omega⟩)⟩)⟩ dX10_readNumber_158
                · skip
                  have ic58 := tn_eq rfl kI_3 c58
                  refine lv_iload_n hx hb dX10_readNumber_132 rfl (lv_at hl 2 rfl) ?_
                  refine lv_iconst (v := 2) hx hb dX10_readNumber_133 (by decide) ?_
                  refine lv_irem hx hb dX10_readNumber_134 (by decide) ?_
                  refine lv_topi (fun z59 ez59 => ?_)
                  have tz59 := tn_rem ez59 kI_2 (by omega) (by decide)
                  refine lv_iconst (v := 1) hx hb dX10_readNumber_135 (by decide) ?_
                  refine lv_icmp_ne (tgt := 156) hx hb dX10_readNumber_136 (by decide) (fun c60 => ?_) (fun c60 => ?_)
                  · skip
                    have ic60 := tn_ne rfl kI_1 c60
                    refine lv_iload hx hb dX10_readNumber_156 (lv_at hl 5 rfl) ?_
                    exact mc_iretX E hr hlk hG rfl rfl ⟨_, rfl, (by omega), (by omega), (hex38.1.trans hrF51), Or.inl (by omega), (show NRx (LF Fa 15) (Fa 1 25).toInt x1.toInt x2.toInt x3.toInt (Fa 1 26).toInt _ (F51 1 26).toInt (F51 1 27).toInt from Or.inr ⟨by omega, Or.inr (Or.inl ⟨hex38.2.2.2.1, hRN.2.1 (by omega), by omega⟩)⟩)⟩ dX10_readNumber_158
                  · skip
                    have ic60 := tn_eq rfl kI_1 c60
                    refine lv_iload hx hb dX10_readNumber_139 (lv_at hl 5 rfl) ?_
                    refine lv_iload_n hx hb dX10_readNumber_141 rfl (lv_at hl 3 rfl) ?_
                    refine lv_icmp_ge (tgt := 156) hx hb dX10_readNumber_142 (by decide) (fun c61 => ?_) (fun c61 => ?_)
                    · skip
                      have ic61 := tn_le rfl rfl c61
                      refine lv_iload hx hb dX10_readNumber_156 (lv_at hl 5 rfl) ?_
                      exact mc_iretX E hr hlk hG rfl rfl ⟨_, rfl, (by omega), (by omega), (hex38.1.trans hrF51), Or.inl (by omega), (show NRx (LF Fa 15) (Fa 1 25).toInt x1.toInt x2.toInt x3.toInt (Fa 1 26).toInt _ (F51 1 26).toInt (F51 1 27).toInt from Or.inr ⟨by omega, Or.inr (Or.inl ⟨hex38.2.2.2.1, hRN.2.1 (by omega), by omega⟩)⟩)⟩ dX10_readNumber_158
                    · skip
                      have ic61 := tn_nle rfl rfl c61
                      refine lv_aload_n hx hb dX10_readNumber_145 rfl (lv_at hl 0 rfl) ?_
                      refine lv_iconst (v := 1) hx hb dX10_readNumber_146 (by decide) ?_
                      refine mc_putX E hG t0 mp_359 (by decide) (by decide) (t_nz (by decide) (by decide)).1 (t_nz (by decide) (by decide)).2 dX10_readNumber_147 (fun H locs hG => ?_)
                      have hG := kO_set (PRd_27) hG
                      obtain ⟨F62, eF62⟩ : ∃ Z : mF, Z = up2 F51 1 27 (1 : Int32) := ⟨_, rfl⟩
                      rw [← eF62] at hG
                      have hLF62 : LF F62 15 = LF Fa 15 ∧ F62 1 25 = Fa 1 25 := by rw [eF62, LF_up (by decide), up2_ne (by omega)]; exact hLF51
                      have hpF62 : (F62 1 26).toInt = (F51 1 26).toInt := by rw [eF62, up2_ne (by omega)]
                      have hbF62 : (F62 1 27).toInt = 1 := by rw [eF62, up2_at]; decide
                      have hrF62 : mRN F51 F62 := mRN.refl.put (Or.inr rfl) eF62
                      refine lv_aload_n hx hb dX10_readNumber_150 rfl (lv_at hl 0 rfl) ?_
                      refine lv_iload hx hb dX10_readNumber_151 (lv_at hl 4 rfl) ?_
                      refine mc_putX E hG t0 mp_350 (by omega) (by omega) rfl rfl dX10_readNumber_153 (fun H locs hG => ?_)
                      have hG := kO_set (PRd_26) hG
                      obtain ⟨F63, eF63⟩ : ∃ Z : mF, Z = up2 F62 1 26 v4 := ⟨_, rfl⟩
                      rw [← eF63] at hG
                      have hLF63 : LF F63 15 = LF Fa 15 ∧ F63 1 25 = Fa 1 25 := by rw [eF63, LF_up (by decide), up2_ne (by omega)]; exact hLF62
                      have hpF63 : (F63 1 26).toInt = v4.toInt := by rw [eF63, up2_at]
                      have hbF63 : (F63 1 27).toInt = (F62 1 27).toInt := by rw [eF63, up2_ne (by omega)]
                      have hrF63 : mRN F62 F63 := mRN.refl.put (Or.inl rfl) eF63
                      refine lv_iload hx hb dX10_readNumber_156 (lv_at hl 5 rfl) ?_
                      exact mc_iretX E hr hlk hG rfl rfl ⟨_, rfl, (by omega), (by omega), (((hex38.1.trans hrF51).trans hrF62).trans hrF63), Or.inl (by omega), (show NRx (LF Fa 15) (Fa 1 25).toInt x1.toInt x2.toInt x3.toInt (Fa 1 26).toInt _ (F63 1 26).toInt (F63 1 27).toInt from Or.inr ⟨by omega, Or.inr (Or.inl ⟨hex38.2.2.2.1, hRN.2.1 (by omega), by omega⟩)⟩)⟩ dX10_readNumber_158
        · skip
          have ic35 := tn_ne rfl kI_0 c35
          have hfg : fg (LF Fa 15) (Fa 1 25).toInt ((Fa 1 26).toInt + 1 + v6.toInt) := by unfold fg; omega
          refine lv_bipush (v := 10) hx hb dX10_readNumber_61 (by decide) ?_
          refine lv_iload hx hb dX10_readNumber_63 (lv_at hl 5 rfl) ?_
          refine lv_imul hx hb dX10_readNumber_65 ?_
          refine lv_topi (fun z64 ez64 => ?_)
          have tz64 := tn_mul ez64 kI_10 rfl (by omega) (by omega)
          refine lv_aload_n hx hb dX10_readNumber_66 rfl (lv_at hl 0 rfl) ?_
          refine mc_calli hG (mc_runV (As := []) (rest := [.int z64]) E hG (x_X10_here l G σ cu X F h0 t0) t0 rfl kv_X10_here ml_X10_356 ⟨rfl, rfl, Nat.le_of_ble_eq_true rfl, Nat.le_of_ble_eq_true rfl⟩ rfl hl.1 rfl (Nat.le_of_ble_eq_true rfl) ⟨Nat.zero_le _, Nat.zero_le _⟩ dX10_readNumber_67) (fun r65 H locs pr65 hG => ?_)
          replace pr65 : (r65.toInt = -1 ∧ nx (LF F 15) (F 1 25).toInt (F 1 26).toInt = 0) ∨ (0 ≤ r65.toInt ∧ r65.toInt ≤ 126 ∧ (F 1 26).toInt < (F 1 25).toInt ∧ (F 1 26).toInt ≤ 119 ∧ r65.toInt = nx (LF F 15) (F 1 25).toInt (F 1 26).toInt) := pr65
          have br65 : -1 ≤ r65.toInt ∧ r65.toInt ≤ 126 := by omega
          rw [hLF.1, hLF.2] at pr65
          rw [show (F 1 26).toInt = (Fa 1 26).toInt + 1 + v6.toInt by omega] at pr65
          refine lv_iadd hx hb dX10_readNumber_70 ?_
          refine lv_topi (fun z66 ez66 => ?_)
          have tz66 := tn_add ez66 rfl rfl (by omega) (by omega)
          refine lv_bipush (v := 48) hx hb dX10_readNumber_71 (by decide) ?_
          refine lv_isub hx hb dX10_readNumber_73 ?_
          refine lv_topi (fun z67 ez67 => ?_)
          have tz67 := tn_sub ez67 rfl kI_48 (by omega) (by omega)
          refine lv_istore (lv' := [(5, .int z67), (0, .ref h0), (1, .int x1), (2, .int x2), (3, .int x3), (4, .int v4), (6, .int v6)]) hx hb dX10_readNumber_74 hl (by decide) rfl (fun ls hl => ?_)
          refine lv_aload_n hx hb dX10_readNumber_76 rfl (lv_at hl 1 rfl) ?_
          refine lv_dup hx hb dX10_readNumber_77 rfl ?_
          refine mc_geti E hG t0 mi_350 dX10_readNumber_78 (fun z68 lz68 uz68 qz68 => ?_)
          have wz68 := kq qz68 (PRd_26)
          have gz68 : z68.toInt = (F 1 26).toInt := by rw [wz68]
          refine lv_iconst (v := 1) hx hb dX10_readNumber_81 (by decide) ?_
          refine lv_iadd hx hb dX10_readNumber_82 ?_
          refine lv_topi (fun z69 ez69 => ?_)
          have tz69 := tn_add ez69 rfl kI_1 (by omega) (by omega)
          refine mc_putX E hG t0 mp_350 (by omega) (by omega) rfl rfl dX10_readNumber_83 (fun H locs hG => ?_)
          have hG := kO_set (PRd_26) hG
          obtain ⟨F70, eF70⟩ : ∃ Z : mF, Z = up2 F 1 26 z69 := ⟨_, rfl⟩
          rw [← eF70] at hG
          have hLF70 : LF F70 15 = LF Fa 15 ∧ F70 1 25 = Fa 1 25 := by rw [eF70, LF_up (by decide), up2_ne (by omega)]; exact hLF
          have hpF70 : (F70 1 26).toInt = z69.toInt := by rw [eF70, up2_at]
          have hbF70 : (F70 1 27).toInt = (F 1 27).toInt := by rw [eF70, up2_ne (by omega)]
          have hrF70 : mRN F F70 := mRN.refl.put (Or.inl rfl) eF70
          obtain ⟨z71, ez71⟩ : ∃ y : Int32, y = v6 + (1) := ⟨_, rfl⟩
          refine lv_iinc (v := z71) (lv' := [(6, .int z71), (5, .int z67), (0, .ref h0), (1, .int x1), (2, .int x2), (3, .int x3), (4, .int v4)]) hx hb dX10_readNumber_86 hl (k := 6) rfl (by rw [ez71]; rfl) (by decide) rfl (fun ls hl => ?_)
          have tz71 := tn_add ez71 rfl kI_1 (by omega) (by omega)
          refine lv_goto (tgt := 38) hx hb dX10_readNumber_89 (by decide) ?_
          have hQ : mRN Fa F70 ∧ v4.toInt = (Fa 1 26).toInt + 1 ∧ (F70 1 26).toInt = (Fa 1 26).toInt + 1 + z71.toInt ∧ nx (LF Fa 15) (Fa 1 25).toInt (Fa 1 26).toInt = 32 ∧ DGn (LF Fa 15) (Fa 1 25).toInt ((Fa 1 26).toInt + 1) z71.toInt z67.toInt := ⟨hex38.1.trans hrF70, hex38.2.1, by omega, hex38.2.2.2.1, DGn_s hex38.2.2.2.2.1 (by omega) hfg (by omega) (by omega)⟩
          exact ih38 F70 H locs ls v4 z67 z71 hG (lv_sub hl [2, 3, 4, 5, 6, 1, 0] rfl) (by omega) (by omega) (by omega) (by omega) (by omega) (by omega) (by exact ⟨hQ.1, hQ.2.1, hQ.2.2.1, hQ.2.2.2.1, hQ.2.2.2.2, by omega⟩) (by omega)
  refine lv_aload_n hx hb dX10_readNumber_0 rfl (lv_at hl 0 rfl) ?_
  refine mc_calli hG (mc_runV (As := []) (rest := []) E hG (x_X10_here l G σ cu X Fa h0 t0) t0 rfl kv_X10_here ml_X10_356 ⟨rfl, rfl, Nat.le_of_ble_eq_true rfl, Nat.le_of_ble_eq_true rfl⟩ rfl hl.1 rfl (Nat.le_of_ble_eq_true rfl) ⟨Nat.zero_le _, Nat.zero_le _⟩ dX10_readNumber_1) (fun r72 H locs pr72 hG => ?_)
  replace pr72 : (r72.toInt = -1 ∧ nx (LF Fa 15) (Fa 1 25).toInt (Fa 1 26).toInt = 0) ∨ (0 ≤ r72.toInt ∧ r72.toInt ≤ 126 ∧ (Fa 1 26).toInt < (Fa 1 25).toInt ∧ (Fa 1 26).toInt ≤ 119 ∧ r72.toInt = nx (LF Fa 15) (Fa 1 25).toInt (Fa 1 26).toInt) := pr72
  have br72 : -1 ≤ r72.toInt ∧ r72.toInt ≤ 126 := by omega
  rw [hLFa.1, hLFa.2] at pr72
  refine lv_bipush (v := 32) hx hb dX10_readNumber_4 (by decide) ?_
  refine lv_icmp_eq (tgt := 16) hx hb dX10_readNumber_6 (by decide) (fun c73 => ?_) (fun c73 => ?_)
  · skip
    have ic73 := tn_eq rfl kI_32 c73
    refine lv_aload_n hx hb dX10_readNumber_16 rfl (lv_at hl 0 rfl) ?_
    refine lv_dup hx hb dX10_readNumber_17 rfl ?_
    refine mc_geti E hG t0 mi_350 dX10_readNumber_18 (fun z74 lz74 uz74 qz74 => ?_)
    have wz74 := kq qz74 (PRd_26)
    have gz74 : z74.toInt = (Fa 1 26).toInt := by rw [wz74]
    refine lv_iconst (v := 1) hx hb dX10_readNumber_21 (by decide) ?_
    refine lv_iadd hx hb dX10_readNumber_22 ?_
    refine lv_topi (fun z75 ez75 => ?_)
    have tz75 := tn_add ez75 rfl kI_1 (by omega) (by omega)
    refine mc_putX E hG t0 mp_350 (by omega) (by omega) rfl rfl dX10_readNumber_23 (fun H locs hG => ?_)
    have hG := kO_set (PRd_26) hG
    obtain ⟨F76, eF76⟩ : ∃ Z : mF, Z = up2 Fa 1 26 z75 := ⟨_, rfl⟩
    rw [← eF76] at hG
    have hLF76 : LF F76 15 = LF Fa 15 ∧ F76 1 25 = Fa 1 25 := by rw [eF76, LF_up (by decide), up2_ne (by omega)]; exact hLFa
    have hpF76 : (F76 1 26).toInt = z75.toInt := by rw [eF76, up2_at]
    have hbF76 : (F76 1 27).toInt = (Fa 1 27).toInt := by rw [eF76, up2_ne (by omega)]
    have hrF76 : mRN Fa F76 := mRN.refl.put (Or.inl rfl) eF76
    refine lv_aload_n hx hb dX10_readNumber_26 rfl (lv_at hl 0 rfl) ?_
    refine mc_geti E hG t0 mi_350 dX10_readNumber_27 (fun z77 lz77 uz77 qz77 => ?_)
    have wz77 := kq qz77 (PRd_26)
    have gz77 : z77.toInt = (F76 1 26).toInt := by rw [wz77]
    refine lv_istore (lv' := [(4, .int z77), (0, .ref h0), (1, .int x1), (2, .int x2), (3, .int x3)]) hx hb dX10_readNumber_30 hl (by decide) rfl (fun ls hl => ?_)
    refine lv_iconst (v := 0) hx hb dX10_readNumber_32 (by decide) ?_
    refine lv_istore (lv' := [(5, .int 0), (4, .int z77), (0, .ref h0), (1, .int x1), (2, .int x2), (3, .int x3)]) hx hb dX10_readNumber_33 hl (by decide) rfl (fun ls hl => ?_)
    refine lv_iconst (v := 0) hx hb dX10_readNumber_35 (by decide) ?_
    refine lv_istore (lv' := [(6, .int 0), (5, .int 0), (4, .int z77), (0, .ref h0), (1, .int x1), (2, .int x2), (3, .int x3)]) hx hb dX10_readNumber_36 hl (by decide) rfl (fun ls hl => ?_)
    have k0 := kI_0
    have hQ : mRN Fa F76 ∧ z77.toInt = (Fa 1 26).toInt + 1 ∧ (F76 1 26).toInt = (Fa 1 26).toInt + 1 + (0 : Int32).toInt ∧ nx (LF Fa 15) (Fa 1 25).toInt (Fa 1 26).toInt = 32 ∧ DGn (LF Fa 15) (Fa 1 25).toInt ((Fa 1 26).toInt + 1) (0 : Int32).toInt (0 : Int32).toInt := ⟨hrF76, by omega, by omega, by omega, Or.inl ⟨by omega, by omega⟩⟩
    exact J38 ((2 - (0 : Int32).toInt).toNat + 1) F76 H locs ls z77 (0 : Int32) (0 : Int32) hG (lv_sub hl [3, 4, 5, 6, 2, 1, 0] rfl) (by omega) (by omega) (by decide) (by decide) (by decide) (by decide) (by exact ⟨hQ.1, hQ.2.1, hQ.2.2.1, hQ.2.2.2.1, hQ.2.2.2.2, by omega⟩) (Nat.lt_succ_self _)
  · skip
    have ic73 := tn_ne rfl kI_32 c73
    refine lv_aload_n hx hb dX10_readNumber_9 rfl (lv_at hl 0 rfl) ?_
    refine lv_iconst (v := 1) hx hb dX10_readNumber_10 (by decide) ?_
    refine mc_putX E hG t0 mp_359 (by decide) (by decide) (t_nz (by decide) (by decide)).1 (t_nz (by decide) (by decide)).2 dX10_readNumber_11 (fun H locs hG => ?_)
    have hG := kO_set (PRd_27) hG
    obtain ⟨F78, eF78⟩ : ∃ Z : mF, Z = up2 Fa 1 27 (1 : Int32) := ⟨_, rfl⟩
    rw [← eF78] at hG
    have hLF78 : LF F78 15 = LF Fa 15 ∧ F78 1 25 = Fa 1 25 := by rw [eF78, LF_up (by decide), up2_ne (by omega)]; exact hLFa
    have hpF78 : (F78 1 26).toInt = (Fa 1 26).toInt := by rw [eF78, up2_ne (by omega)]
    have hbF78 : (F78 1 27).toInt = 1 := by rw [eF78, up2_at]; decide
    have hrF78 : mRN Fa F78 := mRN.refl.put (Or.inr rfl) eF78
    refine lv_iconst (v := 0) hx hb dX10_readNumber_14 (by decide) ?_
    exact mc_iretX E hr hlk hG rfl rfl ⟨_, rfl, (by have k0 := kI_0; omega), (by have k0 := kI_0; omega), (mRN.refl.trans hrF78), Or.inl (by omega), (show NRx (LF Fa 15) (Fa 1 25).toInt x1.toInt x2.toInt x3.toInt (Fa 1 26).toInt _ (F78 1 26).toInt (F78 1 27).toInt from Or.inr ⟨by omega, Or.inl ⟨by omega, by omega⟩⟩)⟩ dX10_readNumber_15

set_option maxHeartbeats 4000000 in
set_option maxRecDepth 100000 in
theorem x_X10_readShare (l : Launch) (G : tG) (σ : Nat → Nat) (cu : Nat) (X : mX) (Fa : mF) (h0 : Nat) (x1 : Int32) (t0 : σ h0 = 1) (l1 : 0 ≤ x1.toInt) (u1 : x1.toInt ≤ 184) (q : Nat) (hq : x1.toInt = 8 * (q : Int)) (hq2 : q ≤ 23) : Met l yX10_readShare (.code yX10_readShare cX10_readShare 2 none :: tWS) (tRm 1 25) (va_Pc [.ref h0, .int x1] (mPre G (σ, cu, kO PRd X Fa))) (mQvX G (σ, cu, kO PRd X Fa) (fun Z => ∃ F : mF, Z = (σ, cu, kO PRd X F) ∧ RSh Fa F q ∧ SHx (LF Fa 15) (Fa 1 25).toInt (Fa 1 26).toInt (Fa 1 27).toInt (Fa 17 (8 * q + 5)) (F 1 26).toInt (F 1 27).toInt (F 17 (8 * q + 5)))) 0 0 (mA (σ, cu, kO PRd X Fa)) := by
  refine mc_met (by decide) (Nat.le_of_ble_eq_true rfl) ?_
  intro p e s m below meth c E hr hlk hG ls hl
  have hl : lv_has ls 2 [(0, .ref h0), (1, .int x1)] := hl
  have hx := E.1
  have hb := E.2.1
  obtain ⟨H, eH⟩ : ∃ H, H = s.heap := ⟨_, rfl⟩
  obtain ⟨locs, eL⟩ : ∃ x : List Loc, x = [] := ⟨_, rfl⟩
  have hG : mGH G (σ, cu, kO PRd X Fa) s H locs := by rw [eH, eL]; exact hG
  suffices hW : W p l e (tRm 1 25) s m ([.ref h0, .int x1] : List Value).toArray below meth c H locs 0 0 (MQ below (mQvX G (σ, cu, kO PRd X Fa) (fun Z => ∃ F : mF, Z = (σ, cu, kO PRd X F) ∧ RSh Fa F q ∧ SHx (LF Fa 15) (Fa 1 25).toInt (Fa 1 26).toInt (Fa 1 27).toInt (Fa 17 (8 * q + 5)) (F 1 26).toInt (F 1 27).toInt (F 17 (8 * q + 5)))) ([.ref h0, .int x1] : List Value).toArray s 0 0 (mA (σ, cu, kO PRd X Fa))) (F0 m 0 ls []) by subst eH; subst eL; exact hW
  clear eH eL
  have hcu : mCu cu := hG.2.2.1
  have hLFa : LF Fa 15 = LF Fa 15 ∧ Fa 1 25 = Fa 1 25 := ⟨rfl, rfl⟩
  refine lv_aload_n hx hb dX10_readShare_0 rfl (lv_at hl 0 rfl) ?_
  refine mc_calli hG (mc_runV (As := []) (rest := []) E hG (x_X10_here l G σ cu X Fa h0 t0) t0 rfl kv_X10_here ml_X10_356 ⟨rfl, rfl, Nat.le_of_ble_eq_true rfl, Nat.le_of_ble_eq_true rfl⟩ rfl hl.1 rfl (Nat.le_of_ble_eq_true rfl) ⟨Nat.zero_le _, Nat.zero_le _⟩ dX10_readShare_1) (fun r1 H locs pr1 hG => ?_)
  replace pr1 : (r1.toInt = -1 ∧ nx (LF Fa 15) (Fa 1 25).toInt (Fa 1 26).toInt = 0) ∨ (0 ≤ r1.toInt ∧ r1.toInt ≤ 126 ∧ (Fa 1 26).toInt < (Fa 1 25).toInt ∧ (Fa 1 26).toInt ≤ 119 ∧ r1.toInt = nx (LF Fa 15) (Fa 1 25).toInt (Fa 1 26).toInt) := pr1
  have br1 : -1 ≤ r1.toInt ∧ r1.toInt ≤ 126 := by omega
  rw [hLFa.1, hLFa.2] at pr1
  refine lv_bipush (v := 42) hx hb dX10_readShare_4 (by decide) ?_
  refine lv_icmp_eq (tgt := 10) hx hb dX10_readShare_6 (by decide) (fun c2 => ?_) (fun c2 => ?_)
  · skip
    have ic2 := tn_eq rfl kI_42 c2
    refine lv_aload_n hx hb dX10_readShare_10 rfl (lv_at hl 0 rfl) ?_
    refine lv_dup hx hb dX10_readShare_11 rfl ?_
    refine mc_geti E hG t0 mi_350 dX10_readShare_12 (fun z3 lz3 uz3 qz3 => ?_)
    have wz3 := kq qz3 (PRd_26)
    have gz3 : z3.toInt = (Fa 1 26).toInt := by rw [wz3]
    refine lv_iconst (v := 1) hx hb dX10_readShare_15 (by decide) ?_
    refine lv_iadd hx hb dX10_readShare_16 ?_
    refine lv_topi (fun z4 ez4 => ?_)
    have tz4 := tn_add ez4 rfl kI_1 (by omega) (by omega)
    refine mc_putX E hG t0 mp_350 (by omega) (by omega) rfl rfl dX10_readShare_17 (fun H locs hG => ?_)
    have hG := kO_set (PRd_26) hG
    obtain ⟨F5, eF5⟩ : ∃ Z : mF, Z = up2 Fa 1 26 z4 := ⟨_, rfl⟩
    rw [← eF5] at hG
    have hLF5 : LF F5 15 = LF Fa 15 ∧ F5 1 25 = Fa 1 25 := by rw [eF5, LF_up (by decide), up2_ne (by omega)]; exact hLFa
    have hpF5 : (F5 1 26).toInt = z4.toInt := by rw [eF5, up2_at]
    have hbF5 : (F5 1 27).toInt = (Fa 1 27).toInt := by rw [eF5, up2_ne (by omega)]
    have hrF5 : mRN Fa F5 := mRN.refl.put (Or.inl rfl) eF5
    refine lv_aload_n hx hb dX10_readShare_20 rfl (lv_at hl 0 rfl) ?_
    refine mc_calli hG (mc_runV (As := []) (rest := []) E hG (x_X10_here l G σ cu X F5 h0 t0) t0 rfl kv_X10_here ml_X10_356 ⟨rfl, rfl, Nat.le_of_ble_eq_true rfl, Nat.le_of_ble_eq_true rfl⟩ rfl hl.1 rfl (Nat.le_of_ble_eq_true rfl) ⟨Nat.zero_le _, Nat.zero_le _⟩ dX10_readShare_21) (fun r6 H locs pr6 hG => ?_)
    replace pr6 : (r6.toInt = -1 ∧ nx (LF F5 15) (F5 1 25).toInt (F5 1 26).toInt = 0) ∨ (0 ≤ r6.toInt ∧ r6.toInt ≤ 126 ∧ (F5 1 26).toInt < (F5 1 25).toInt ∧ (F5 1 26).toInt ≤ 119 ∧ r6.toInt = nx (LF F5 15) (F5 1 25).toInt (F5 1 26).toInt) := pr6
    have br6 : -1 ≤ r6.toInt ∧ r6.toInt ≤ 126 := by omega
    rw [hLF5.1, hLF5.2] at pr6
    rw [show (F5 1 26).toInt = (Fa 1 26).toInt + 1 by omega] at pr6
    refine lv_i2l hx hb dX10_readShare_24 rfl ?_
    refine lv_topl (fun z7 ez7 => ?_)
    have tz7 := tl_i2l ez7
    refine lv_ldc2 (v := 48) hx hb E.2.2.2.1 (E.2.2.2.2.1 _ (t_w8 19 rfl rfl)) dX10_readShare_25 ?_
    refine lv_topl (fun z8 ez8 => ?_)
    have tz8 : z8.toInt = 48 := by rw [ez8]; decide
    refine lv_ldc2 (v := 57) hx hb E.2.2.2.1 (E.2.2.2.2.1 _ (t_w8 20 rfl rfl)) dX10_readShare_28 ?_
    refine lv_topl (fun z9 ez9 => ?_)
    have tz9 : z9.toInt = 57 := by rw [ez9]; decide
    refine tc_callp (mc_runS (As := [.long z7, .long z8, .long z9]) (rest := []) E hG (c_X10_in l G (σ, cu, kO PRd X F5) z7 z8 z9) ks_X10_in ml_X10_87 ⟨rfl, rfl, Nat.le_of_ble_eq_true rfl, Nat.le_of_ble_eq_true rfl⟩ rfl hl.1 rfl (Nat.le_of_ble_eq_true rfl) ⟨Nat.zero_le _, Nat.zero_le _⟩ dX10_readShare_31) (fun r10 pr10 => ?_)
    replace pr10 : ((r10.toInt = 1 ∧ z8.toInt ≤ z7.toInt ∧ z7.toInt ≤ z9.toInt) ∨ (r10.toInt = 0 ∧ (z7.toInt < z8.toInt ∨ z9.toInt < z7.toInt))) := pr10
    refine lv_if_ne (tgt := 43) hx hb dX10_readShare_34 (by decide) (fun c11 => ?_) (fun c11 => ?_)
    · skip
      have ic11 := tn_ne rfl kI_0 c11
      refine lv_aload_n hx hb dX10_readShare_43 rfl (lv_at hl 0 rfl) ?_
      refine mc_getr E hG t0 mr_60 dX10_readShare_44 (fun oa12 hoa12 => ?_)
      refine lv_iload_n hx hb dX10_readShare_47 rfl (lv_at hl 1 rfl) ?_
      refine lv_iconst (v := 5) hx hb dX10_readShare_48 (by decide) ?_
      refine lv_iadd hx hb dX10_readShare_49 ?_
      refine lv_topi (fun z13 ez13 => ?_)
      have tz13 := tn_add ez13 rfl kI_5 (by omega) (by omega)
      refine lv_aload_n hx hb dX10_readShare_50 rfl (lv_at hl 0 rfl) ?_
      refine mc_calli hG (mc_runV (As := []) (rest := [.int z13, .ref oa12]) E hG (x_X10_here l G σ cu X F5 h0 t0) t0 rfl kv_X10_here ml_X10_356 ⟨rfl, rfl, Nat.le_of_ble_eq_true rfl, Nat.le_of_ble_eq_true rfl⟩ rfl hl.1 rfl (Nat.le_of_ble_eq_true rfl) ⟨Nat.zero_le _, Nat.zero_le _⟩ dX10_readShare_51) (fun r14 H locs pr14 hG => ?_)
      replace pr14 : (r14.toInt = -1 ∧ nx (LF F5 15) (F5 1 25).toInt (F5 1 26).toInt = 0) ∨ (0 ≤ r14.toInt ∧ r14.toInt ≤ 126 ∧ (F5 1 26).toInt < (F5 1 25).toInt ∧ (F5 1 26).toInt ≤ 119 ∧ r14.toInt = nx (LF F5 15) (F5 1 25).toInt (F5 1 26).toInt) := pr14
      have br14 : -1 ≤ r14.toInt ∧ r14.toInt ≤ 126 := by omega
      rw [hLF5.1, hLF5.2] at pr14
      rw [show (F5 1 26).toInt = (Fa 1 26).toInt + 1 by omega] at pr14
      refine lv_bipush (v := 48) hx hb dX10_readShare_54 (by decide) ?_
      refine lv_isub hx hb dX10_readShare_56 ?_
      refine lv_topi (fun z15 ez15 => ?_)
      have tz15 := tn_sub ez15 rfl kI_48 (by omega) (by omega)
      have k16 : rR z13.toNatClampNeg = (0, 9) := by rw [rR_at (q := (q : Int)) (r := 5) (by omega) (by omega) (by omega) (by omega)]; rfl
      refine mc_iastX E hG hoa12 (by decide) rfl (lo := 0) (hi := 9) (show (0, (rR _).1, (rR _).2) = _ by rw [k16]) (t_in (by omega) (by omega)) (by omega) (by omega) dX10_readShare_57 (fun H locs hG => ?_)
      have hG := kO_set PRd_17 hG
      obtain ⟨F17, eF17⟩ : ∃ Z : mF, Z = up2 F5 17 z13.toNatClampNeg z15 := ⟨_, rfl⟩
      rw [← eF17] at hG
      have hLF17 : LF F17 15 = LF Fa 15 ∧ F17 1 25 = Fa 1 25 := by rw [eF17, LF_up (by decide), up2_ne (by omega)]; exact hLF5
      have hpF17 : (F17 1 26).toInt = (F5 1 26).toInt := by rw [eF17, up2_ne (by omega)]
      have hbF17 : (F17 1 27).toInt = (F5 1 27).toInt := by rw [eF17, up2_ne (by omega)]
      refine lv_aload_n hx hb dX10_readShare_58 rfl (lv_at hl 0 rfl) ?_
      refine lv_dup hx hb dX10_readShare_59 rfl ?_
      refine mc_geti E hG t0 mi_350 dX10_readShare_60 (fun z18 lz18 uz18 qz18 => ?_)
      have wz18 := kq qz18 (PRd_26)
      have gz18 : z18.toInt = (F17 1 26).toInt := by rw [wz18]
      refine lv_iconst (v := 1) hx hb dX10_readShare_63 (by decide) ?_
      refine lv_iadd hx hb dX10_readShare_64 ?_
      refine lv_topi (fun z19 ez19 => ?_)
      have tz19 := tn_add ez19 rfl kI_1 (by omega) (by omega)
      refine mc_putX E hG t0 mp_350 (by omega) (by omega) rfl rfl dX10_readShare_65 (fun H locs hG => ?_)
      have hG := kO_set (PRd_26) hG
      obtain ⟨F20, eF20⟩ : ∃ Z : mF, Z = up2 F17 1 26 z19 := ⟨_, rfl⟩
      rw [← eF20] at hG
      have hLF20 : LF F20 15 = LF Fa 15 ∧ F20 1 25 = Fa 1 25 := by rw [eF20, LF_up (by decide), up2_ne (by omega)]; exact hLF17
      have hpF20 : (F20 1 26).toInt = z19.toInt := by rw [eF20, up2_at]
      have hbF20 : (F20 1 27).toInt = (F17 1 27).toInt := by rw [eF20, up2_ne (by omega)]
      have hrF20 : mRN F17 F20 := mRN.refl.put (Or.inl rfl) eF20
      exact mc_vretX E hr hlk hG rfl ⟨_, rfl, (fun c k q1 q2 => by rw [eF20, up2_ne (fun z => q1 ⟨z.1, by omega⟩), eF17, up2_ne (fun z => q2 ⟨z.1, by rw [z.2]; show z13.toInt.toNat = _; omega⟩), eF5, up2_ne (fun z => q1 ⟨z.1, by omega⟩)]), Or.inr (Or.inr ⟨by omega, by unfold fg; omega, by omega, by omega, by rw [eF20, up2_ne (by omega), eF17, show 8 * q + 5 = z13.toNatClampNeg by show _ = z13.toInt.toNat; omega, up2_at]; omega⟩)⟩ dX10_readShare_68
    · skip
      have ic11 := tn_eq rfl kI_0 c11
      refine lv_aload_n hx hb dX10_readShare_37 rfl (lv_at hl 0 rfl) ?_
      refine lv_iconst (v := 1) hx hb dX10_readShare_38 (by decide) ?_
      refine mc_putX E hG t0 mp_359 (by decide) (by decide) (t_nz (by decide) (by decide)).1 (t_nz (by decide) (by decide)).2 dX10_readShare_39 (fun H locs hG => ?_)
      have hG := kO_set (PRd_27) hG
      obtain ⟨F21, eF21⟩ : ∃ Z : mF, Z = up2 F5 1 27 (1 : Int32) := ⟨_, rfl⟩
      rw [← eF21] at hG
      have hLF21 : LF F21 15 = LF Fa 15 ∧ F21 1 25 = Fa 1 25 := by rw [eF21, LF_up (by decide), up2_ne (by omega)]; exact hLF5
      have hpF21 : (F21 1 26).toInt = (F5 1 26).toInt := by rw [eF21, up2_ne (by omega)]
      have hbF21 : (F21 1 27).toInt = 1 := by rw [eF21, up2_at]; decide
      have hrF21 : mRN F5 F21 := mRN.refl.put (Or.inr rfl) eF21
      exact mc_vretX E hr hlk hG rfl ⟨_, rfl, ((mRN.refl.put (Or.inl rfl) eF5).put (Or.inr rfl) eF21).sh, Or.inr (Or.inl ⟨by omega, by unfold fg; omega, by omega, by omega, by rw [eF21, up2_ne (by omega), eF5, up2_ne (by omega)]⟩)⟩ dX10_readShare_42
  · skip
    have ic2 := tn_ne rfl kI_42 c2
    exact mc_vretX E hr hlk hG rfl ⟨_, rfl, mRN.refl.sh, Or.inl ⟨by omega, rfl, rfl, rfl⟩⟩ dX10_readShare_9

