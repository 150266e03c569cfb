/-! ===== the reference: reading letters ===== -/
set_option maxHeartbeats 4000000 in
set_option maxRecDepth 100000 in
theorem c_X10_here2 (l : Launch) (G : tG) (σ : Nat → Nat) (cu : Nat) (X : mX) (Fa : mF) (h0 : Nat) (t0 : σ h0 = 1) : Met l yX10_here (.code yX10_here cX10_here 1 (some .int) :: tWS) (tRm 0 0) (va_Pc [.ref h0] (mPre G (σ, cu, kO PRd X Fa))) (mQi G (σ, cu, kO PRd X Fa) (fun r => (r.toInt = -1 ∧ (Fa 1 25).toInt ≤ (Fa 1 26).toInt) ∨ (0 ≤ r.toInt ∧ r.toInt ≤ 126 ∧ (Fa 1 26).toInt < (Fa 1 25).toInt ∧ (Fa 1 26).toInt ≤ 119 ∧ r.toInt = (Fa 15 (Fa 1 26).toNatClampNeg).toInt))) 0 0 (mA (σ, cu, kO PRd X Fa)) := by
  refine mc_met (by decide) (Nat.le_of_ble_eq_true rfl) ?_
  intro p e s m below meth c E hr hlk hG ls hl
  have hl : lv_has ls 1 [(0, .ref h0)] := hl
  have hx := E.1
  have hb := E.2.1
  obtain ⟨H, eH⟩ : ∃ H, H = s.heap := ⟨_, rfl⟩
  obtain ⟨locs, eL⟩ : ∃ x : List Loc, x = [] := ⟨_, rfl⟩
  have hG : mGH G (σ, cu, kO PRd X Fa) s H locs := by rw [eH, eL]; exact hG
  suffices hW : W p l e (tRm 0 0) s m ([.ref h0] : List Value).toArray below meth c H locs 0 0 (MQ below (mQi G (σ, cu, kO PRd X Fa) (fun r => (r.toInt = -1 ∧ (Fa 1 25).toInt ≤ (Fa 1 26).toInt) ∨ (0 ≤ r.toInt ∧ r.toInt ≤ 126 ∧ (Fa 1 26).toInt < (Fa 1 25).toInt ∧ (Fa 1 26).toInt ≤ 119 ∧ r.toInt = (Fa 15 (Fa 1 26).toNatClampNeg).toInt))) ([.ref h0] : List Value).toArray s 0 0 (mA (σ, cu, kO PRd X Fa))) (F0 m 0 ls []) by subst eH; subst eL; exact hW
  clear eH eL
  have hcu : mCu cu := hG.2.2.1
  refine lv_aload_n hx hb dX10_here_0 rfl (lv_at hl 0 rfl) ?_
  refine mc_geti E hG t0 mi_350 dX10_here_1 (fun z1 lz1 uz1 qz1 => ?_)
  have wz1 := kq qz1 (PRd_26)
  have g1 : z1.toInt = (Fa 1 26).toInt := by rw [wz1]
  refine lv_aload_n hx hb dX10_here_4 rfl (lv_at hl 0 rfl) ?_
  refine mc_geti E hG t0 mi_340 dX10_here_5 (fun z2 lz2 uz2 qz2 => ?_)
  have wz2 := kq qz2 (PRd_25)
  have g2 : z2.toInt = (Fa 1 25).toInt := by rw [wz2]
  refine lv_icmp_ge (tgt := 23) hx hb dX10_here_8 (by decide) (fun c3 => ?_) (fun c3 => ?_)
  · skip
    have ic3 := tn_le rfl rfl c3
    refine lv_iconst (v := -1) hx hb dX10_here_23 (by decide) ?_
    exact mc_iret E hr hlk hG (show ((-1 : Int32).toInt = -1 ∧ (Fa 1 25).toInt ≤ (Fa 1 26).toInt) ∨ (0 ≤ (-1 : Int32).toInt ∧ (-1 : Int32).toInt ≤ 126 ∧ (Fa 1 26).toInt < (Fa 1 25).toInt ∧ (Fa 1 26).toInt ≤ 119 ∧ (-1 : Int32).toInt = (Fa 15 (Fa 1 26).toNatClampNeg).toInt) by have kk := kI_m1; first | exact Or.inl ⟨by omega, by omega⟩ | exact Or.inr ⟨by omega, by omega, by omega, by omega, by omega⟩) dX10_here_24
  · skip
    have ic3 := tn_nle rfl rfl c3
    refine lv_aload_n hx hb dX10_here_11 rfl (lv_at hl 0 rfl) ?_
    refine mc_getr E hG t0 mr_54 dX10_here_12 (fun oa4 hoa4 => ?_)
    refine lv_aload_n hx hb dX10_here_15 rfl (lv_at hl 0 rfl) ?_
    refine mc_geti E hG t0 mi_350 dX10_here_16 (fun z5 lz5 uz5 qz5 => ?_)
    have wz5 := kq qz5 (PRd_26)
    have g3 : z5.toInt = (Fa 1 26).toInt := by rw [wz5]
    refine mc_iald15 E hG hoa4 ma_15 (t_in (by omega) (by omega)) dX10_here_19 (fun z6 lz6 uz6 qz6 => ?_)
    have wz6 := kq qz6 (PRd_15)
    have g4 : z6.toInt = (Fa 15 (Fa 1 26).toNatClampNeg).toInt := by rw [wz6, wz5]
    refine lv_goto (tgt := 24) hx hb dX10_here_20 (by decide) ?_
    exact mc_iret E hr hlk hG (show (z6.toInt = -1 ∧ (Fa 1 25).toInt ≤ (Fa 1 26).toInt) ∨ (0 ≤ z6.toInt ∧ z6.toInt ≤ 126 ∧ (Fa 1 26).toInt < (Fa 1 25).toInt ∧ (Fa 1 26).toInt ≤ 119 ∧ z6.toInt = (Fa 15 (Fa 1 26).toNatClampNeg).toInt) by first | exact Or.inl ⟨by omega, by omega⟩ | exact Or.inr ⟨by omega, by omega, by omega, by omega, by omega⟩) dX10_here_24

set_option maxHeartbeats 4000000 in
set_option maxRecDepth 100000 in
theorem c_X10_readName (l : Launch) (G : tG) (σ : Nat → Nat) (cu : Nat) (X : mX) (Fa : mF) (h0 : Nat) (t0 : σ h0 = 1) : Met l yX10_readName (.code yX10_readName cX10_readName 6 (some .int) :: tWS) (tRm 1 22) (va_Pc [.ref h0] (mPre G (σ, cu, kO PRd X Fa))) (mQiX G (σ, cu, kO PRd X Fa) (fun r Z => ∃ F : mF, Z = (σ, cu, kO PRd X F) ∧ 0 ≤ r.toInt ∧ r.toInt ≤ 9 ∧ mRN Fa F)) 0 0 (mA (σ, cu, kO PRd X Fa)) := by
  refine mc_met (by decide) (Nat.le_of_ble_eq_true rfl) ?_
  intro p e s m below meth c E hr hlk hG ls hl
  have hl : lv_has ls 6 [(0, .ref h0)] := hl
  have hx := E.1
  have hb := E.2.1
  obtain ⟨H, eH⟩ : ∃ H, H = s.heap := ⟨_, rfl⟩
  obtain ⟨locs, eL⟩ : ∃ x : List Loc, x = [] := ⟨_, rfl⟩
  have hG : mGH G (σ, cu, kO PRd X Fa) s H locs := by rw [eH, eL]; exact hG
  suffices hW : W p l e (tRm 1 22) s m ([.ref h0] : List Value).toArray below meth c H locs 0 0 (MQ below (mQiX G (σ, cu, kO PRd X Fa) (fun r Z => ∃ F : mF, Z = (σ, cu, kO PRd X F) ∧ 0 ≤ r.toInt ∧ r.toInt ≤ 9 ∧ mRN Fa F)) ([.ref h0] : List Value).toArray s 0 0 (mA (σ, cu, kO PRd X Fa))) (F0 m 0 ls []) by subst eH; subst eL; exact hW
  clear eH eL
  have hcu : mCu cu := hG.2.2.1
  have J6 : ∀ (n6 : Nat) (F : mF) (H : Heap) (locs : List Loc) (ls : Array Slot) (v1 : Int32) (v2 : Int32), mGH G (σ, cu, kO PRd X F) s H locs → lv_has ls 6 [(0, .ref h0), (1, .int v1), (2, .int v2)] → 0 ≤ v2.toInt → v2.toInt ≤ 7 → mRN Fa F → (7 - v2.toInt).toNat < n6 → W p l e (tRm 1 22) s m ([.ref h0] : List Value).toArray below meth c H locs 0 0 (MQ below (mQiX G (σ, cu, kO PRd X Fa) (fun r Z => ∃ F : mF, Z = (σ, cu, kO PRd X F) ∧ 0 ≤ r.toInt ∧ r.toInt ≤ 9 ∧ mRN Fa F)) ([.ref h0] : List Value).toArray s 0 0 (mA (σ, cu, kO PRd X Fa))) (F0 m 6 ls []) := by
    intro n6
    induction n6 with
    | zero => intro F H locs ls v1 v2 hG hl b2 c2 hex6 hn6; exact absurd hn6 (Nat.not_lt_zero _)
    | succ n6 ih6 =>
      intro F H locs ls v1 v2 hG hl b2 c2 hex6 hn6
      have J17 : ∀ (n17 : Nat) (F : mF) (H : Heap) (locs : List Loc) (ls : Array Slot) (v1 : Int32) (v2 : Int32) (v3 : Int32) (v4 : Int32), mGH G (σ, cu, kO PRd X F) s H locs → lv_has ls 6 [(0, .ref h0), (1, .int v1), (2, .int v2), (3, .int v3), (4, .int v4)] → 0 ≤ v2.toInt → v2.toInt ≤ 6 → 0 ≤ v4.toInt → v4.toInt ≤ 10 → (7 - v2.toInt).toNat < n6 + 1 → (mRN Fa F ∧ (v3.toInt = 0 ∨ (F 1 26).toInt ≤ 119)) → (10 - v4.toInt).toNat < n17 → W p l e (tRm 1 22) s m ([.ref h0] : List Value).toArray below meth c H locs 0 0 (MQ below (mQiX G (σ, cu, kO PRd X Fa) (fun r Z => ∃ F : mF, Z = (σ, cu, kO PRd X F) ∧ 0 ≤ r.toInt ∧ r.toInt ≤ 9 ∧ mRN Fa F)) ([.ref h0] : List Value).toArray s 0 0 (mA (σ, cu, kO PRd X Fa))) (F0 m 17 ls []) := by
        intro n17
        induction n17 with
        | zero => intro F H locs ls v1 v2 v3 v4 hG hl b2 c2 b4 c4 hm6 hex17 hn17; exact absurd hn17 (Nat.not_lt_zero _)
        | succ n17 ih17 =>
          intro F H locs ls v1 v2 v3 v4 hG hl b2 c2 b4 c4 hm6 hex17 hn17
          refine lv_iload hx hb dX10_readName_17 (lv_at hl 4 rfl) ?_
          refine lv_bipush (v := 10) hx hb dX10_readName_19 (by decide) ?_
          refine lv_icmp_ge (tgt := 95) hx hb dX10_readName_21 (by decide) (fun c1 => ?_) (fun c1 => ?_)
          · skip
            have ic1 := tn_le kI_10 rfl c1
            refine lv_iload_n hx hb dX10_readName_95 rfl (lv_at hl 3 rfl) ?_
            refine lv_if_ne (tgt := 106) hx hb dX10_readName_96 (by decide) (fun c2 => ?_) (fun c2 => ?_)
            · skip
              have ic2 := tn_ne rfl kI_0 c2
              refine lv_iload_n hx hb dX10_readName_106 rfl (lv_at hl 3 rfl) ?_
              refine lv_istore_n (lv' := [(1, .int v3), (0, .ref h0), (2, .int v2), (3, .int v3), (4, .int v4)]) hx hb dX10_readName_107 rfl hl (by decide) rfl (fun ls hl => ?_)
              refine lv_aload_n hx hb dX10_readName_108 rfl (lv_at hl 1 rfl) ?_
              refine lv_dup hx hb dX10_readName_109 rfl ?_
              refine mc_geti E hG t0 mi_350 dX10_readName_110 (fun z3 lz3 uz3 qz3 => ?_)
              have wz3 := kq qz3 (PRd_26)
              have hpl : z3.toInt ≤ 119 := by have q9 := hex17.2; rw [wz3]; omega
              refine lv_iconst (v := 1) hx hb dX10_readName_113 (by decide) ?_
              refine lv_iadd hx hb dX10_readName_114 ?_
              refine lv_topi (fun z4 ez4 => ?_)
              have tz4 := tn_add ez4 rfl kI_1 (by omega) (by omega)
              refine mc_putX E hG t0 mp_350 (by omega) (by omega) rfl rfl dX10_readName_115 (fun H locs hG => ?_)
              have hG := kO_set (PRd_26) hG
              obtain ⟨F5, eF5⟩ : ∃ Z : mF, Z = up2 F 1 26 z4 := ⟨_, rfl⟩
              rw [← eF5] at hG
              obtain ⟨z6, ez6⟩ : ∃ y : Int32, y = v2 + (1) := ⟨_, rfl⟩
              refine lv_iinc (v := z6) (lv' := [(2, .int z6), (1, .int v3), (0, .ref h0), (3, .int v3), (4, .int v4)]) hx hb dX10_readName_118 hl (k := 2) rfl (by rw [ez6]; rfl) (by decide) rfl (fun ls hl => ?_)
              have tz6 := tn_add ez6 rfl kI_1 (by omega) (by omega)
              refine lv_goto (tgt := 6) hx hb dX10_readName_121 (by decide) ?_
              have hQ : mRN Fa F5 := hex17.1.put (Or.inl rfl) eF5
              exact ih6 F5 H locs ls v3 z6 hG (lv_sub hl [2, 1, 0] rfl) (by omega) (by omega) (by exact hQ) (by omega)
            · skip
              have ic2 := tn_eq rfl kI_0 c2
              refine lv_aload_n hx hb dX10_readName_99 rfl (lv_at hl 0 rfl) ?_
              refine lv_iconst (v := 1) hx hb dX10_readName_100 (by decide) ?_
              refine mc_putX E hG t0 mp_359 (by decide) (by decide) (t_nz (by decide) (by decide)).1 (t_nz (by decide) (by decide)).2 dX10_readName_101 (fun H locs hG => ?_)
              have hG := kO_set (PRd_27) hG
              obtain ⟨F7, eF7⟩ : ∃ Z : mF, Z = up2 F 1 27 (1 : Int32) := ⟨_, rfl⟩
              rw [← eF7] at hG
              refine lv_iconst (v := 0) hx hb dX10_readName_104 (by decide) ?_
              exact mc_iretX E hr hlk hG rfl rfl ⟨_, rfl, (by have k0 := kI_0; omega), (by have k0 := kI_0; omega), (hex17.1.put (Or.inr rfl) eF7)⟩ dX10_readName_105
          · skip
            have ic1 := tn_nle kI_10 rfl c1
            refine lv_iload_n hx hb dX10_readName_24 rfl (lv_at hl 1 rfl) ?_
            refine lv_iload hx hb dX10_readName_25 (lv_at hl 4 rfl) ?_
            refine lv_ishr hx hb dX10_readName_27 ?_
            refine lv_topi (fun z8 ez8 => ?_)
            refine lv_iconst (v := 1) hx hb dX10_readName_28 (by decide) ?_
            refine lv_iand hx hb dX10_readName_29 ?_
            refine lv_topi (fun z9 ez9 => ?_)
            refine lv_iconst (v := 1) hx hb dX10_readName_30 (by decide) ?_
            refine lv_icmp_ne (tgt := 38) hx hb dX10_readName_31 (by decide) (fun c10 => ?_) (fun c10 => ?_)
            · skip
              have ic10 := tn_ne rfl kI_1 c10
              refine lv_iconst (v := 0) hx hb dX10_readName_38 (by decide) ?_
              refine lv_istore (lv' := [(5, .int 0), (0, .ref h0), (1, .int v1), (2, .int v2), (3, .int v3), (4, .int v4)]) hx hb dX10_readName_39 hl (by decide) rfl (fun ls hl => ?_)
              refine lv_iload hx hb dX10_readName_41 (lv_at hl 0 rfl) ?_
              refine lv_if_eq (tgt := 59) hx hb dX10_readName_43 (by decide) (fun c11 => ?_) (fun c11 => ?_)
              · skip
                have ic11 := tn_eq kI_0 kI_0 c11
                refine lv_iload_n hx hb dX10_readName_59 rfl (lv_at hl 4 rfl) ?_
                refine lv_iload hx hb dX10_readName_60 (lv_at hl 0 rfl) ?_
                refine lv_if_eq (tgt := 86) hx hb dX10_readName_62 (by decide) (fun c12 => ?_) (fun c12 => ?_)
                · skip
                  have ic12 := tn_eq kI_0 kI_0 c12
                  refine lv_iconst (v := 0) hx hb dX10_readName_86 (by decide) ?_
                  refine lv_ior hx hb dX10_readName_87 ?_
                  refine lv_topi (fun z13 ez13 => ?_)
                  refine lv_istore_n (lv' := [(3, .int z13), (5, .int 0), (0, .ref h0), (1, .int v1), (2, .int v2), (4, .int v4)]) hx hb dX10_readName_88 rfl hl (by decide) rfl (fun ls hl => ?_)
                  obtain ⟨z14, ez14⟩ : ∃ y : Int32, y = v4 + (1) := ⟨_, rfl⟩
                  refine lv_iinc (v := z14) (lv' := [(4, .int z14), (3, .int z13), (5, .int 0), (0, .ref h0), (1, .int v1), (2, .int v2)]) hx hb dX10_readName_89 hl (k := 5) rfl (by rw [ez14]; rfl) (by decide) rfl (fun ls hl => ?_)
                  have tz14 := tn_add ez14 rfl kI_1 (by omega) (by omega)
                  refine lv_goto (tgt := 17) hx hb dX10_readName_92 (by decide) ?_
                  have hQ : mRN Fa F ∧ (z13.toInt = 0 ∨ (F 1 26).toInt ≤ 119) := by rw [show z13 = v3 by rw [ez13]; exact Int32.or_zero]; exact hex17
                  exact ih17 F H locs ls v1 v2 z13 z14 hG (lv_sub hl [3, 4, 5, 1, 0] rfl) (by omega) (by omega) (by omega) (by omega) (by omega) (by exact hQ) (by omega)
                · exfalso
                  have ic12 := tn_ne kI_0 kI_0 c12
                  omega
              · exfalso
                have ic11 := tn_ne kI_0 kI_0 c11
                omega
            · skip
              have ic10 := tn_eq rfl kI_1 c10
              refine lv_iconst (v := 1) hx hb dX10_readName_34 (by decide) ?_
              refine lv_goto (tgt := 39) hx hb dX10_readName_35 (by decide) ?_
              refine lv_istore (lv' := [(5, .int 1), (0, .ref h0), (1, .int v1), (2, .int v2), (3, .int v3), (4, .int v4)]) hx hb dX10_readName_39 hl (by decide) rfl (fun ls hl => ?_)
              refine lv_iload hx hb dX10_readName_41 (lv_at hl 0 rfl) ?_
              refine lv_if_eq (tgt := 59) hx hb dX10_readName_43 (by decide) (fun c15 => ?_) (fun c15 => ?_)
              · exfalso
                have ic15 := tn_eq kI_1 kI_0 c15
                omega
              · skip
                have ic15 := tn_ne kI_1 kI_0 c15
                refine lv_aload_n hx hb dX10_readName_46 rfl (lv_at hl 1 rfl) ?_
                refine lv_iload hx hb dX10_readName_47 (lv_at hl 5 rfl) ?_
                refine lv_iload_n hx hb dX10_readName_49 rfl (lv_at hl 3 rfl) ?_
                refine tc_callp (mc_runV (As := [.int v4, .int v2]) (rest := []) E hG (c_X10_nameLetter l G (σ, cu, kO PRd X F) h0 v4 v2 t0 (by omega) (by omega) (by omega) (by omega)) t0 rfl kv_X10_nameLetter ml_X10_353 ⟨rfl, rfl, Nat.le_of_ble_eq_true rfl, Nat.le_of_ble_eq_true rfl⟩ rfl hl.1 rfl (Nat.le_of_ble_eq_true rfl) ⟨Nat.zero_le _, Nat.zero_le _⟩ dX10_readName_50) (fun r16 pr16 => ?_)
                replace pr16 : 0 ≤ r16.toInt ∧ r16.toInt ≤ 127 := pr16
                refine lv_if_ne (tgt := 59) hx hb dX10_readName_53 (by decide) (fun c17 => ?_) (fun c17 => ?_)
                · skip
                  have ic17 := tn_ne rfl kI_0 c17
                  refine lv_iload_n hx hb dX10_readName_59 rfl (lv_at hl 4 rfl) ?_
                  refine lv_iload hx hb dX10_readName_60 (lv_at hl 0 rfl) ?_
                  refine lv_if_eq (tgt := 86) hx hb dX10_readName_62 (by decide) (fun c18 => ?_) (fun c18 => ?_)
                  · exfalso
                    have ic18 := tn_eq kI_1 kI_0 c18
                    omega
                  · skip
                    have ic18 := tn_ne kI_1 kI_0 c18
                    refine lv_aload_n hx hb dX10_readName_65 rfl (lv_at hl 1 rfl) ?_
                    refine lv_iload hx hb dX10_readName_66 (lv_at hl 5 rfl) ?_
                    refine lv_iload_n hx hb dX10_readName_68 rfl (lv_at hl 3 rfl) ?_
                    refine tc_callp (mc_runV (As := [.int v4, .int v2]) (rest := [.int v3]) E hG (c_X10_nameLetter l G (σ, cu, kO PRd X F) h0 v4 v2 t0 (by omega) (by omega) (by omega) (by omega)) t0 rfl kv_X10_nameLetter ml_X10_353 ⟨rfl, rfl, Nat.le_of_ble_eq_true rfl, Nat.le_of_ble_eq_true rfl⟩ rfl hl.1 rfl (Nat.le_of_ble_eq_true rfl) ⟨Nat.zero_le _, Nat.zero_le _⟩ dX10_readName_69) (fun r19 pr19 => ?_)
                    replace pr19 : 0 ≤ r19.toInt ∧ r19.toInt ≤ 127 := pr19
                    refine lv_aload_n hx hb dX10_readName_72 rfl (lv_at hl 1 rfl) ?_
                    refine mc_calli hG (mc_runV (As := []) (rest := [.int r19, .int v3]) E hG (c_X10_here2 l G σ cu X F h0 t0) t0 rfl kv_X10_here ml_X10_356 ⟨rfl, rfl, Nat.le_of_ble_eq_true rfl, Nat.le_of_ble_eq_true rfl⟩ rfl hl.1 rfl (Nat.le_of_ble_eq_true rfl) ⟨Nat.zero_le _, Nat.zero_le _⟩ dX10_readName_73) (fun r20 H locs pr20 hG => ?_)
                    replace pr20 : (r20.toInt = -1 ∧ (F 1 25).toInt ≤ (F 1 26).toInt) ∨ (0 ≤ r20.toInt ∧ r20.toInt ≤ 126 ∧ (F 1 26).toInt < (F 1 25).toInt ∧ (F 1 26).toInt ≤ 119 ∧ r20.toInt = (F 15 (F 1 26).toNatClampNeg).toInt) := pr20
                    have br20 : -1 ≤ r20.toInt ∧ r20.toInt ≤ 126 := by omega
                    refine lv_icmp_ne (tgt := 86) hx hb dX10_readName_76 (by decide) (fun c21 => ?_) (fun c21 => ?_)
                    · skip
                      have ic21 := tn_ne rfl rfl c21
                      refine lv_iconst (v := 0) hx hb dX10_readName_86 (by decide) ?_
                      refine lv_ior hx hb dX10_readName_87 ?_
                      refine lv_topi (fun z22 ez22 => ?_)
                      refine lv_istore_n (lv' := [(3, .int z22), (5, .int 1), (0, .ref h0), (1, .int v1), (2, .int v2), (4, .int v4)]) hx hb dX10_readName_88 rfl hl (by decide) rfl (fun ls hl => ?_)
                      obtain ⟨z23, ez23⟩ : ∃ y : Int32, y = v4 + (1) := ⟨_, rfl⟩
                      refine lv_iinc (v := z23) (lv' := [(4, .int z23), (3, .int z22), (5, .int 1), (0, .ref h0), (1, .int v1), (2, .int v2)]) hx hb dX10_readName_89 hl (k := 5) rfl (by rw [ez23]; rfl) (by decide) rfl (fun ls hl => ?_)
                      have tz23 := tn_add ez23 rfl kI_1 (by omega) (by omega)
                      refine lv_goto (tgt := 17) hx hb dX10_readName_92 (by decide) ?_
                      have hQ : mRN Fa F ∧ (z22.toInt = 0 ∨ (F 1 26).toInt ≤ 119) := by rw [show z22 = v3 by rw [ez22]; exact Int32.or_zero]; exact hex17
                      exact ih17 F H locs ls v1 v2 z22 z23 hG (lv_sub hl [3, 4, 5, 1, 0] rfl) (by omega) (by omega) (by omega) (by omega) (by omega) (by exact hQ) (by omega)
                    · skip
                      have ic21 := tn_eq rfl rfl c21
                      refine lv_iconst (v := 1) hx hb dX10_readName_79 (by decide) ?_
                      refine lv_iload hx hb dX10_readName_80 (lv_at hl 5 rfl) ?_
                      refine lv_ishl hx hb dX10_readName_82 ?_
                      refine lv_topi (fun z24 ez24 => ?_)
                      refine lv_goto (tgt := 87) hx hb dX10_readName_83 (by decide) ?_
                      refine lv_ior hx hb dX10_readName_87 ?_
                      refine lv_topi (fun z25 ez25 => ?_)
                      refine lv_istore_n (lv' := [(3, .int z25), (5, .int 1), (0, .ref h0), (1, .int v1), (2, .int v2), (4, .int v4)]) hx hb dX10_readName_88 rfl hl (by decide) rfl (fun ls hl => ?_)
                      obtain ⟨z26, ez26⟩ : ∃ y : Int32, y = v4 + (1) := ⟨_, rfl⟩
                      refine lv_iinc (v := z26) (lv' := [(4, .int z26), (3, .int z25), (5, .int 1), (0, .ref h0), (1, .int v1), (2, .int v2)]) hx hb dX10_readName_89 hl (k := 5) rfl (by rw [ez26]; rfl) (by decide) rfl (fun ls hl => ?_)
                      have tz26 := tn_add ez26 rfl kI_1 (by omega) (by omega)
                      refine lv_goto (tgt := 17) hx hb dX10_readName_92 (by decide) ?_
                      have hQ : mRN Fa F ∧ (z25.toInt = 0 ∨ (F 1 26).toInt ≤ 119) := ⟨hex17.1, Or.inr (by omega)⟩
                      exact ih17 F H locs ls v1 v2 z25 z26 hG (lv_sub hl [3, 4, 5, 1, 0] rfl) (by omega) (by omega) (by omega) (by omega) (by omega) (by exact hQ) (by omega)
                · skip
                  have ic17 := tn_eq rfl kI_0 c17
                  refine lv_iload hx hb dX10_readName_56 (lv_at hl 5 rfl) ?_
                  exact mc_iretX E hr hlk hG rfl rfl ⟨_, rfl, (by omega), (by omega), hex17.1⟩ dX10_readName_58
      refine lv_iload_n hx hb dX10_readName_6 rfl (lv_at hl 2 rfl) ?_
      refine lv_bipush (v := 7) hx hb dX10_readName_7 (by decide) ?_
      refine lv_icmp_ge (tgt := 124) hx hb dX10_readName_9 (by decide) (fun c27 => ?_) (fun c27 => ?_)
      · skip
        have ic27 := tn_le kI_7 rfl c27
        refine lv_iconst (v := 0) hx hb dX10_readName_124 (by decide) ?_
        exact mc_iretX E hr hlk hG rfl rfl ⟨_, rfl, (by have k0 := kI_0; omega), (by have k0 := kI_0; omega), hex6⟩ dX10_readName_125
      · skip
        have ic27 := tn_nle kI_7 rfl c27
        refine lv_iconst (v := 0) hx hb dX10_readName_12 (by decide) ?_
        refine lv_istore_n (lv' := [(3, .int 0), (0, .ref h0), (1, .int v1), (2, .int v2)]) hx hb dX10_readName_13 rfl hl (by decide) rfl (fun ls hl => ?_)
        refine lv_iconst (v := 0) hx hb dX10_readName_14 (by decide) ?_
        refine lv_istore (lv' := [(4, .int 0), (3, .int 0), (0, .ref h0), (1, .int v1), (2, .int v2)]) hx hb dX10_readName_15 hl (by decide) rfl (fun ls hl => ?_)
        have hQ : mRN Fa F ∧ ((0 : Int32).toInt = 0 ∨ (F 1 26).toInt ≤ 119) := ⟨hex6, Or.inl (by decide)⟩
        exact J17 ((10 - (0 : Int32).toInt).toNat + 1) F H locs ls v1 v2 (0 : Int32) (0 : Int32) hG (lv_sub hl [2, 3, 4, 1, 0] rfl) (by omega) (by omega) (by decide) (by decide) (by omega) (by exact hQ) (Nat.lt_succ_self _)
  refine lv_sipush (v := 1023) hx hb dX10_readName_0 (by decide) ?_
  refine lv_istore_n (lv' := [(1, .int 1023), (0, .ref h0)]) hx hb dX10_readName_3 rfl hl (by decide) rfl (fun ls hl => ?_)
  refine lv_iconst (v := 0) hx hb dX10_readName_4 (by decide) ?_
  refine lv_istore_n (lv' := [(2, .int 0), (1, .int 1023), (0, .ref h0)]) hx hb dX10_readName_5 rfl hl (by decide) rfl (fun ls hl => ?_)
  have hQ : mRN Fa Fa := mRN.refl
  exact J6 ((7 - (0 : Int32).toInt).toNat + 1) Fa H locs ls (1023 : Int32) (0 : Int32) hG (lv_sub hl [2, 1, 0] rfl) (by decide) (by decide) (by exact hQ) (Nat.lt_succ_self _)

set_option maxHeartbeats 4000000 in
set_option maxRecDepth 100000 in
theorem c_X10_readNumber (l : Launch) (G : tG) (σ : Nat → Nat) (cu : Nat) (X : mX) (Fa : mF) (h0 : Nat) (x1 : Int32) (x2 : Int32) (x3 : Int32) (t0 : σ h0 = 1) (l1 : 0 ≤ x1.toInt) (u1 : x1.toInt ≤ 9) (l2 : 0 ≤ x2.toInt) (u2 : x2.toInt ≤ 3) : Met l yX10_readNumber (.code yX10_readNumber cX10_readNumber 7 (some .int) :: tWS) (tRm 2 47) (va_Pc [.ref h0, .int x1, .int x2, .int x3] (mPre G (σ, cu, kO PRd X Fa))) (mQiX G (σ, cu, kO PRd X Fa) (fun r Z => ∃ F : mF, Z = (σ, cu, kO PRd X F) ∧ 0 ≤ r.toInt ∧ r.toInt ≤ 99 ∧ mRN Fa F ∧ ((F 1 27).toInt = 1 ∨ (x1.toInt = 6 → 1 ≤ r.toInt)))) 0 0 (mA (σ, cu, kO PRd X Fa)) := by
  refine mc_met (by decide) (Nat.le_of_ble_eq_true rfl) ?_
  intro p e s m below meth c E hr hlk hG ls hl
  have hl : lv_has ls 7 [(0, .ref h0), (1, .int x1), (2, .int x2), (3, .int x3)] := hl
  have hx := E.1
  have hb := E.2.1
  obtain ⟨H, eH⟩ : ∃ H, H = s.heap := ⟨_, rfl⟩
  obtain ⟨locs, eL⟩ : ∃ x : List Loc, x = [] := ⟨_, rfl⟩
  have hG : mGH G (σ, cu, kO PRd X Fa) s H locs := by rw [eH, eL]; exact hG
  suffices hW : W p l e (tRm 2 47) s m ([.ref h0, .int x1, .int x2, .int x3] : List Value).toArray below meth c H locs 0 0 (MQ below (mQiX G (σ, cu, kO PRd X Fa) (fun r Z => ∃ F : mF, Z = (σ, cu, kO PRd X F) ∧ 0 ≤ r.toInt ∧ r.toInt ≤ 99 ∧ mRN Fa F ∧ ((F 1 27).toInt = 1 ∨ (x1.toInt = 6 → 1 ≤ r.toInt)))) ([.ref h0, .int x1, .int x2, .int x3] : List Value).toArray s 0 0 (mA (σ, cu, kO PRd X Fa))) (F0 m 0 ls []) by subst eH; subst eL; exact hW
  clear eH eL
  have hcu : mCu cu := hG.2.2.1
  have J38 : ∀ (n38 : Nat) (F : mF) (H : Heap) (locs : List Loc) (ls : Array Slot) (v4 : Int32) (v5 : Int32) (v6 : Int32), mGH G (σ, cu, kO PRd X F) s H locs → lv_has ls 7 [(0, .ref h0), (1, .int x1), (2, .int x2), (3, .int x3), (4, .int v4), (5, .int v5), (6, .int v6)] → 0 ≤ v4.toInt → v4.toInt ≤ 120 → 0 ≤ v5.toInt → v5.toInt ≤ 99 → 0 ≤ v6.toInt → v6.toInt ≤ 2 → (mRN Fa F ∧ ((v6.toInt = 0 ∧ v5.toInt = 0) ∨ (v6.toInt = 1 ∧ v5.toInt ≤ 9) ∨ (v6.toInt = 2 ∧ v5.toInt ≤ 99))) → (2 - v6.toInt).toNat < n38 → W p l e (tRm 2 47) s m ([.ref h0, .int x1, .int x2, .int x3] : List Value).toArray below meth c H locs 0 0 (MQ below (mQiX G (σ, cu, kO PRd X Fa) (fun r Z => ∃ F : mF, Z = (σ, cu, kO PRd X F) ∧ 0 ≤ r.toInt ∧ r.toInt ≤ 99 ∧ mRN Fa F ∧ ((F 1 27).toInt = 1 ∨ (x1.toInt = 6 → 1 ≤ r.toInt)))) ([.ref h0, .int x1, .int x2, .int x3] : List Value).toArray s 0 0 (mA (σ, cu, kO PRd X Fa))) (F0 m 38 ls []) := by
    intro n38
    induction n38 with
    | zero => intro F H locs ls v4 v5 v6 hG hl b4 c4 b5 c5 b6 c6 hex38 hn38; exact absurd hn38 (Nat.not_lt_zero _)
    | succ n38 ih38 =>
      intro F H locs ls v4 v5 v6 hG hl b4 c4 b5 c5 b6 c6 hex38 hn38
      refine lv_iload hx hb dX10_readNumber_38 (lv_at hl 6 rfl) ?_
      refine lv_iconst (v := 2) hx hb dX10_readNumber_40 (by decide) ?_
      refine lv_icmp_ge (tgt := 92) hx hb dX10_readNumber_41 (by decide) (fun c1 => ?_) (fun c1 => ?_)
      · skip
        have ic1 := tn_le kI_2 rfl c1
        refine lv_aload_n hx hb dX10_readNumber_92 rfl (lv_at hl 0 rfl) ?_
        refine lv_aload_n hx hb dX10_readNumber_93 rfl (lv_at hl 0 rfl) ?_
        refine mc_geti E hG t0 mi_350 dX10_readNumber_94 (fun z2 lz2 uz2 qz2 => ?_)
        have wz2 := kq qz2 (PRd_26)
        refine lv_iload hx hb dX10_readNumber_97 (lv_at hl 4 rfl) ?_
        refine lv_icmp_ne (tgt := 106) hx hb dX10_readNumber_99 (by decide) (fun c3 => ?_) (fun c3 => ?_)
        · skip
          have ic3 := tn_ne rfl rfl c3
          refine lv_iconst (v := 0) hx hb dX10_readNumber_106 (by decide) ?_
          refine mc_putX E hG t0 mp_359 (by decide) (by decide) (t_nz (by decide) (by decide)).1 (t_nz (by decide) (by decide)).2 dX10_readNumber_107 (fun H locs hG => ?_)
          have hG := kO_set (PRd_27) hG
          obtain ⟨F4, eF4⟩ : ∃ Z : mF, Z = up2 F 1 27 (0 : Int32) := ⟨_, rfl⟩
          rw [← eF4] at hG
          refine lv_aload_n hx hb dX10_readNumber_110 rfl (lv_at hl 0 rfl) ?_
          refine mc_geti E hG t0 mi_359 dX10_readNumber_111 (fun z5 lz5 uz5 qz5 => ?_)
          have wz5 := kq qz5 (PRd_27)
          have hbd : z5.toInt = 0 := by rw [wz5, eF4, up2_at]; decide
          refine lv_if_ne (tgt := 156) hx hb dX10_readNumber_114 (by decide) (fun c6 => ?_) (fun c6 => ?_)
          · skip
            have ic6 := tn_ne rfl kI_0 c6
            refine lv_iload hx hb dX10_readNumber_156 (lv_at hl 5 rfl) ?_
            exact mc_iretX E hr hlk hG rfl rfl ⟨_, rfl, (by omega), (by omega), (hex38.1.put (Or.inr rfl) eF4), Or.inr (by omega)⟩ dX10_readNumber_158
          · skip
            have ic6 := tn_eq rfl kI_0 c6
            refine lv_iload_n hx hb dX10_readNumber_117 rfl (lv_at hl 1 rfl) ?_
            refine lv_iload_n hx hb dX10_readNumber_118 rfl (lv_at hl 2 rfl) ?_
            refine lv_iload hx hb dX10_readNumber_119 (lv_at hl 5 rfl) ?_
            refine tc_callp (mc_runS (As := [.int x1, .int x2, .int v5]) (rest := []) E hG (c_X10_mayBe l G (σ, cu, kO PRd X F4) x1 x2 v5) ks_X10_mayBe ml_X10_120 ⟨rfl, rfl, Nat.le_of_ble_eq_true rfl, Nat.le_of_ble_eq_true rfl⟩ rfl hl.1 rfl (Nat.le_of_ble_eq_true rfl) ⟨Nat.zero_le _, Nat.zero_le _⟩ dX10_readNumber_121) (fun r7 pr7 => ?_)
            replace pr7 : (r7.toInt = 1 ∧ 0 ≤ v5.toInt ∧ v5.toInt ≤ 99 ∧ (x1.toInt = 6 → 1 ≤ v5.toInt)) ∨ r7.toInt = 0 := pr7
            refine lv_if_eq (tgt := 145) hx hb dX10_readNumber_124 (by decide) (fun c8 => ?_) (fun c8 => ?_)
            · skip
              have ic8 := tn_eq rfl kI_0 c8
              refine lv_aload_n hx hb dX10_readNumber_145 rfl (lv_at hl 0 rfl) ?_
              refine lv_iconst (v := 1) hx hb dX10_readNumber_146 (by decide) ?_
              refine mc_putX E hG t0 mp_359 (by decide) (by decide) (t_nz (by decide) (by decide)).1 (t_nz (by decide) (by decide)).2 dX10_readNumber_147 (fun H locs hG => ?_)
              have hG := kO_set (PRd_27) hG
              obtain ⟨F9, eF9⟩ : ∃ Z : mF, Z = up2 F4 1 27 (1 : Int32) := ⟨_, rfl⟩
              rw [← eF9] at hG
              refine lv_aload_n hx hb dX10_readNumber_150 rfl (lv_at hl 0 rfl) ?_
              refine lv_iload hx hb dX10_readNumber_151 (lv_at hl 4 rfl) ?_
              refine mc_putX E hG t0 mp_350 (by omega) (by omega) rfl rfl dX10_readNumber_153 (fun H locs hG => ?_)
              have hG := kO_set (PRd_26) hG
              obtain ⟨F10, eF10⟩ : ∃ Z : mF, Z = up2 F9 1 26 v4 := ⟨_, rfl⟩
              rw [← eF10] at hG
              refine lv_iload hx hb dX10_readNumber_156 (lv_at hl 5 rfl) ?_
              exact mc_iretX E hr hlk hG rfl rfl ⟨_, rfl, (by omega), (by omega), (((hex38.1.put (Or.inr rfl) eF4).put (Or.inr rfl) eF9).put (Or.inl rfl) eF10), Or.inl (by rw [eF10, up2_ne (by decide), eF9, up2_at]; decide)⟩ dX10_readNumber_158
            · skip
              have ic8 := tn_ne rfl kI_0 c8
              refine lv_iload_n hx hb dX10_readNumber_127 rfl (lv_at hl 1 rfl) ?_
              refine lv_iconst (v := 3) hx hb dX10_readNumber_128 (by decide) ?_
              refine lv_icmp_ne (tgt := 156) hx hb dX10_readNumber_129 (by decide) (fun c11 => ?_) (fun c11 => ?_)
              · skip
                have ic11 := tn_ne rfl kI_3 c11
                refine lv_iload hx hb dX10_readNumber_156 (lv_at hl 5 rfl) ?_
                exact mc_iretX E hr hlk hG rfl rfl ⟨_, rfl, (by omega), (by omega), (hex38.1.put (Or.inr rfl) eF4), Or.inr (by omega)⟩ dX10_readNumber_158
              · skip
                have ic11 := tn_eq rfl kI_3 c11
                refine lv_iload_n hx hb dX10_readNumber_132 rfl (lv_at hl 2 rfl) ?_
                refine lv_iconst (v := 2) hx hb dX10_readNumber_133 (by decide) ?_
                refine lv_irem hx hb dX10_readNumber_134 (by decide) ?_
                refine lv_topi (fun z12 ez12 => ?_)
                have tz12 := tn_rem ez12 kI_2 (by omega) (by decide)
                refine lv_iconst (v := 1) hx hb dX10_readNumber_135 (by decide) ?_
                refine lv_icmp_ne (tgt := 156) hx hb dX10_readNumber_136 (by decide) (fun c13 => ?_) (fun c13 => ?_)
                · skip
                  have ic13 := tn_ne rfl kI_1 c13
                  refine lv_iload hx hb dX10_readNumber_156 (lv_at hl 5 rfl) ?_
                  exact mc_iretX E hr hlk hG rfl rfl ⟨_, rfl, (by omega), (by omega), (hex38.1.put (Or.inr rfl) eF4), Or.inr (by omega)⟩ dX10_readNumber_158
                · skip
                  have ic13 := tn_eq rfl kI_1 c13
                  refine lv_iload hx hb dX10_readNumber_139 (lv_at hl 5 rfl) ?_
                  refine lv_iload_n hx hb dX10_readNumber_141 rfl (lv_at hl 3 rfl) ?_
                  refine lv_icmp_ge (tgt := 156) hx hb dX10_readNumber_142 (by decide) (fun c14 => ?_) (fun c14 => ?_)
                  · skip
                    have ic14 := tn_le rfl rfl c14
                    refine lv_iload hx hb dX10_readNumber_156 (lv_at hl 5 rfl) ?_
                    exact mc_iretX E hr hlk hG rfl rfl ⟨_, rfl, (by omega), (by omega), (hex38.1.put (Or.inr rfl) eF4), Or.inr (by omega)⟩ dX10_readNumber_158
                  · skip
                    have ic14 := tn_nle rfl rfl c14
                    refine lv_aload_n hx hb dX10_readNumber_145 rfl (lv_at hl 0 rfl) ?_
                    refine lv_iconst (v := 1) hx hb dX10_readNumber_146 (by decide) ?_
                    refine mc_putX E hG t0 mp_359 (by decide) (by decide) (t_nz (by decide) (by decide)).1 (t_nz (by decide) (by decide)).2 dX10_readNumber_147 (fun H locs hG => ?_)
                    have hG := kO_set (PRd_27) hG
                    obtain ⟨F15, eF15⟩ : ∃ Z : mF, Z = up2 F4 1 27 (1 : Int32) := ⟨_, rfl⟩
                    rw [← eF15] at hG
                    refine lv_aload_n hx hb dX10_readNumber_150 rfl (lv_at hl 0 rfl) ?_
                    refine lv_iload hx hb dX10_readNumber_151 (lv_at hl 4 rfl) ?_
                    refine mc_putX E hG t0 mp_350 (by omega) (by omega) rfl rfl dX10_readNumber_153 (fun H locs hG => ?_)
                    have hG := kO_set (PRd_26) hG
                    obtain ⟨F16, eF16⟩ : ∃ Z : mF, Z = up2 F15 1 26 v4 := ⟨_, rfl⟩
                    rw [← eF16] at hG
                    refine lv_iload hx hb dX10_readNumber_156 (lv_at hl 5 rfl) ?_
                    exact mc_iretX E hr hlk hG rfl rfl ⟨_, rfl, (by omega), (by omega), (((hex38.1.put (Or.inr rfl) eF4).put (Or.inr rfl) eF15).put (Or.inl rfl) eF16), Or.inl (by rw [eF16, up2_ne (by decide), eF15, up2_at]; decide)⟩ dX10_readNumber_158
        · skip
          have ic3 := tn_eq rfl rfl c3
          refine lv_iconst (v := 1) hx hb dX10_readNumber_102 (by decide) ?_
          refine lv_goto (tgt := 107) hx hb dX10_readNumber_103 (by decide) ?_
          refine mc_putX E hG t0 mp_359 (by decide) (by decide) (t_nz (by decide) (by decide)).1 (t_nz (by decide) (by decide)).2 dX10_readNumber_107 (fun H locs hG => ?_)
          have hG := kO_set (PRd_27) hG
          obtain ⟨F17, eF17⟩ : ∃ Z : mF, Z = up2 F 1 27 (1 : Int32) := ⟨_, rfl⟩
          rw [← eF17] at hG
          refine lv_aload_n hx hb dX10_readNumber_110 rfl (lv_at hl 0 rfl) ?_
          refine mc_geti E hG t0 mi_359 dX10_readNumber_111 (fun z18 lz18 uz18 qz18 => ?_)
          have wz18 := kq qz18 (PRd_27)
          have hbd : z18.toInt = 1 := by rw [wz18, eF17, up2_at]; decide
          refine lv_if_ne (tgt := 156) hx hb dX10_readNumber_114 (by decide) (fun c19 => ?_) (fun c19 => ?_)
          · skip
            have ic19 := tn_ne rfl kI_0 c19
            refine lv_iload hx hb dX10_readNumber_156 (lv_at hl 5 rfl) ?_
            exact mc_iretX E hr hlk hG rfl rfl ⟨_, rfl, (by omega), (by omega), (hex38.1.put (Or.inr rfl) eF17), Or.inl (by rw [eF17, up2_at]; decide)⟩ dX10_readNumber_158
          · skip
            have ic19 := tn_eq rfl kI_0 c19
            refine lv_iload_n hx hb dX10_readNumber_117 rfl (lv_at hl 1 rfl) ?_
            refine lv_iload_n hx hb dX10_readNumber_118 rfl (lv_at hl 2 rfl) ?_
            refine lv_iload hx hb dX10_readNumber_119 (lv_at hl 5 rfl) ?_
            refine tc_callp (mc_runS (As := [.int x1, .int x2, .int v5]) (rest := []) E hG (c_X10_mayBe l G (σ, cu, kO PRd X F17) x1 x2 v5) ks_X10_mayBe ml_X10_120 ⟨rfl, rfl, Nat.le_of_ble_eq_true rfl, Nat.le_of_ble_eq_true rfl⟩ rfl hl.1 rfl (Nat.le_of_ble_eq_true rfl) ⟨Nat.zero_le _, Nat.zero_le _⟩ dX10_readNumber_121) (fun r20 pr20 => ?_)
            replace pr20 : (r20.toInt = 1 ∧ 0 ≤ v5.toInt ∧ v5.toInt ≤ 99 ∧ (x1.toInt = 6 → 1 ≤ v5.toInt)) ∨ r20.toInt = 0 := pr20
            refine lv_if_eq (tgt := 145) hx hb dX10_readNumber_124 (by decide) (fun c21 => ?_) (fun c21 => ?_)
            · skip
              have ic21 := tn_eq rfl kI_0 c21
              refine lv_aload_n hx hb dX10_readNumber_145 rfl (lv_at hl 0 rfl) ?_
              refine lv_iconst (v := 1) hx hb dX10_readNumber_146 (by decide) ?_
              refine mc_putX E hG t0 mp_359 (by decide) (by decide) (t_nz (by decide) (by decide)).1 (t_nz (by decide) (by decide)).2 dX10_readNumber_147 (fun H locs hG => ?_)
              have hG := kO_set (PRd_27) hG
              obtain ⟨F22, eF22⟩ : ∃ Z : mF, Z = up2 F17 1 27 (1 : Int32) := ⟨_, rfl⟩
              rw [← eF22] at hG
              refine lv_aload_n hx hb dX10_readNumber_150 rfl (lv_at hl 0 rfl) ?_
              refine lv_iload hx hb dX10_readNumber_151 (lv_at hl 4 rfl) ?_
              refine mc_putX E hG t0 mp_350 (by omega) (by omega) rfl rfl dX10_readNumber_153 (fun H locs hG => ?_)
              have hG := kO_set (PRd_26) hG
              obtain ⟨F23, eF23⟩ : ∃ Z : mF, Z = up2 F22 1 26 v4 := ⟨_, rfl⟩
              rw [← eF23] at hG
              refine lv_iload hx hb dX10_readNumber_156 (lv_at hl 5 rfl) ?_
              exact mc_iretX E hr hlk hG rfl rfl ⟨_, rfl, (by omega), (by omega), (((hex38.1.put (Or.inr rfl) eF17).put (Or.inr rfl) eF22).put (Or.inl rfl) eF23), Or.inl (by rw [eF23, up2_ne (by decide), eF22, up2_at]; decide)⟩ dX10_readNumber_158
            · skip
              have ic21 := tn_ne rfl kI_0 c21
              refine lv_iload_n hx hb dX10_readNumber_127 rfl (lv_at hl 1 rfl) ?_
              refine lv_iconst (v := 3) hx hb dX10_readNumber_128 (by decide) ?_
              refine lv_icmp_ne (tgt := 156) hx hb dX10_readNumber_129 (by decide) (fun c24 => ?_) (fun c24 => ?_)
              · skip
                have ic24 := tn_ne rfl kI_3 c24
                refine lv_iload hx hb dX10_readNumber_156 (lv_at hl 5 rfl) ?_
                exact mc_iretX E hr hlk hG rfl rfl ⟨_, rfl, (by omega), (by omega), (hex38.1.put (Or.inr rfl) eF17), Or.inl (by rw [eF17, up2_at]; decide)⟩ dX10_readNumber_158
              · skip
                have ic24 := tn_eq rfl kI_3 c24
                refine lv_iload_n hx hb dX10_readNumber_132 rfl (lv_at hl 2 rfl) ?_
                refine lv_iconst (v := 2) hx hb dX10_readNumber_133 (by decide) ?_
                refine lv_irem hx hb dX10_readNumber_134 (by decide) ?_
                refine lv_topi (fun z25 ez25 => ?_)
                have tz25 := tn_rem ez25 kI_2 (by omega) (by decide)
                refine lv_iconst (v := 1) hx hb dX10_readNumber_135 (by decide) ?_
                refine lv_icmp_ne (tgt := 156) hx hb dX10_readNumber_136 (by decide) (fun c26 => ?_) (fun c26 => ?_)
                · skip
                  have ic26 := tn_ne rfl kI_1 c26
                  refine lv_iload hx hb dX10_readNumber_156 (lv_at hl 5 rfl) ?_
                  exact mc_iretX E hr hlk hG rfl rfl ⟨_, rfl, (by omega), (by omega), (hex38.1.put (Or.inr rfl) eF17), Or.inl (by rw [eF17, up2_at]; decide)⟩ dX10_readNumber_158
                · skip
                  have ic26 := tn_eq rfl kI_1 c26
                  refine lv_iload hx hb dX10_readNumber_139 (lv_at hl 5 rfl) ?_
                  refine lv_iload_n hx hb dX10_readNumber_141 rfl (lv_at hl 3 rfl) ?_
                  refine lv_icmp_ge (tgt := 156) hx hb dX10_readNumber_142 (by decide) (fun c27 => ?_) (fun c27 => ?_)
                  · skip
                    have ic27 := tn_le rfl rfl c27
                    refine lv_iload hx hb dX10_readNumber_156 (lv_at hl 5 rfl) ?_
                    exact mc_iretX E hr hlk hG rfl rfl ⟨_, rfl, (by omega), (by omega), (hex38.1.put (Or.inr rfl) eF17), Or.inl (by rw [eF17, up2_at]; decide)⟩ dX10_readNumber_158
                  · skip
                    have ic27 := tn_nle rfl rfl c27
                    refine lv_aload_n hx hb dX10_readNumber_145 rfl (lv_at hl 0 rfl) ?_
                    refine lv_iconst (v := 1) hx hb dX10_readNumber_146 (by decide) ?_
                    refine mc_putX E hG t0 mp_359 (by decide) (by decide) (t_nz (by decide) (by decide)).1 (t_nz (by decide) (by decide)).2 dX10_readNumber_147 (fun H locs hG => ?_)
                    have hG := kO_set (PRd_27) hG
                    obtain ⟨F28, eF28⟩ : ∃ Z : mF, Z = up2 F17 1 27 (1 : Int32) := ⟨_, rfl⟩
                    rw [← eF28] at hG
                    refine lv_aload_n hx hb dX10_readNumber_150 rfl (lv_at hl 0 rfl) ?_
                    refine lv_iload hx hb dX10_readNumber_151 (lv_at hl 4 rfl) ?_
                    refine mc_putX E hG t0 mp_350 (by omega) (by omega) rfl rfl dX10_readNumber_153 (fun H locs hG => ?_)
                    have hG := kO_set (PRd_26) hG
                    obtain ⟨F29, eF29⟩ : ∃ Z : mF, Z = up2 F28 1 26 v4 := ⟨_, rfl⟩
                    rw [← eF29] at hG
                    refine lv_iload hx hb dX10_readNumber_156 (lv_at hl 5 rfl) ?_
                    exact mc_iretX E hr hlk hG rfl rfl ⟨_, rfl, (by omega), (by omega), (((hex38.1.put (Or.inr rfl) eF17).put (Or.inr rfl) eF28).put (Or.inl rfl) eF29), Or.inl (by rw [eF29, up2_ne (by decide), eF28, up2_at]; decide)⟩ dX10_readNumber_158
      · skip
        have ic1 := tn_nle kI_2 rfl c1
        refine lv_aload_n hx hb dX10_readNumber_44 rfl (lv_at hl 0 rfl) ?_
        refine mc_calli hG (mc_runV (As := []) (rest := []) E hG (c_X10_here2 l G σ cu X F h0 t0) t0 rfl kv_X10_here ml_X10_356 ⟨rfl, rfl, Nat.le_of_ble_eq_true rfl, Nat.le_of_ble_eq_true rfl⟩ rfl hl.1 rfl (Nat.le_of_ble_eq_true rfl) ⟨Nat.zero_le _, Nat.zero_le _⟩ dX10_readNumber_45) (fun r30 H locs pr30 hG => ?_)
        replace pr30 : (r30.toInt = -1 ∧ (F 1 25).toInt ≤ (F 1 26).toInt) ∨ (0 ≤ r30.toInt ∧ r30.toInt ≤ 126 ∧ (F 1 26).toInt < (F 1 25).toInt ∧ (F 1 26).toInt ≤ 119 ∧ r30.toInt = (F 15 (F 1 26).toNatClampNeg).toInt) := pr30
        have br30 : -1 ≤ r30.toInt ∧ r30.toInt ≤ 126 := by omega
        refine lv_i2l hx hb dX10_readNumber_48 rfl ?_
        refine lv_topl (fun z31 ez31 => ?_)
        have tz31 := tl_i2l ez31
        refine lv_ldc2 (v := 48) hx hb E.2.2.2.1 (E.2.2.2.2.1 _ (t_w8 19 rfl rfl)) dX10_readNumber_49 ?_
        refine lv_topl (fun z32 ez32 => ?_)
        have tz32 : z32.toInt = 48 := by rw [ez32]; decide
        refine lv_ldc2 (v := 57) hx hb E.2.2.2.1 (E.2.2.2.2.1 _ (t_w8 20 rfl rfl)) dX10_readNumber_52 ?_
        refine lv_topl (fun z33 ez33 => ?_)
        have tz33 : z33.toInt = 57 := by rw [ez33]; decide
        refine tc_callp (mc_runS (As := [.long z31, .long z32, .long z33]) (rest := []) E hG (c_X10_in l G (σ, cu, kO PRd X F) z31 z32 z33) ks_X10_in ml_X10_87 ⟨rfl, rfl, Nat.le_of_ble_eq_true rfl, Nat.le_of_ble_eq_true rfl⟩ rfl hl.1 rfl (Nat.le_of_ble_eq_true rfl) ⟨Nat.zero_le _, Nat.zero_le _⟩ dX10_readNumber_55) (fun r34 pr34 => ?_)
        replace pr34 : ((r34.toInt = 1 ∧ z32.toInt ≤ z31.toInt ∧ z31.toInt ≤ z33.toInt) ∨ (r34.toInt = 0 ∧ (z31.toInt < z32.toInt ∨ z33.toInt < z31.toInt))) := pr34
        refine lv_if_eq (tgt := 92) hx hb dX10_readNumber_58 (by decide) (fun c35 => ?_) (fun c35 => ?_)
        · skip
          have ic35 := tn_eq rfl kI_0 c35
          refine lv_aload_n hx hb dX10_readNumber_92 rfl (lv_at hl 0 rfl) ?_
          refine lv_aload_n hx hb dX10_readNumber_93 rfl (lv_at hl 0 rfl) ?_
          refine mc_geti E hG t0 mi_350 dX10_readNumber_94 (fun z36 lz36 uz36 qz36 => ?_)
          have wz36 := kq qz36 (PRd_26)
          refine lv_iload hx hb dX10_readNumber_97 (lv_at hl 4 rfl) ?_
          refine lv_icmp_ne (tgt := 106) hx hb dX10_readNumber_99 (by decide) (fun c37 => ?_) (fun c37 => ?_)
          · skip
            have ic37 := tn_ne rfl rfl c37
            refine lv_iconst (v := 0) hx hb dX10_readNumber_106 (by decide) ?_
            refine mc_putX E hG t0 mp_359 (by decide) (by decide) (t_nz (by decide) (by decide)).1 (t_nz (by decide) (by decide)).2 dX10_readNumber_107 (fun H locs hG => ?_)
            have hG := kO_set (PRd_27) hG
            obtain ⟨F38, eF38⟩ : ∃ Z : mF, Z = up2 F 1 27 (0 : Int32) := ⟨_, rfl⟩
            rw [← eF38] at hG
            refine lv_aload_n hx hb dX10_readNumber_110 rfl (lv_at hl 0 rfl) ?_
            refine mc_geti E hG t0 mi_359 dX10_readNumber_111 (fun z39 lz39 uz39 qz39 => ?_)
            have wz39 := kq qz39 (PRd_27)
            have hbd : z39.toInt = 0 := by rw [wz39, eF38, up2_at]; decide
            refine lv_if_ne (tgt := 156) hx hb dX10_readNumber_114 (by decide) (fun c40 => ?_) (fun c40 => ?_)
            · skip
              have ic40 := tn_ne rfl kI_0 c40
              refine lv_iload hx hb dX10_readNumber_156 (lv_at hl 5 rfl) ?_
              exact mc_iretX E hr hlk hG rfl rfl ⟨_, rfl, (by omega), (by omega), (hex38.1.put (Or.inr rfl) eF38), Or.inr (by omega)⟩ dX10_readNumber_158
            · skip
              have ic40 := tn_eq rfl kI_0 c40
              refine lv_iload_n hx hb dX10_readNumber_117 rfl (lv_at hl 1 rfl) ?_
              refine lv_iload_n hx hb dX10_readNumber_118 rfl (lv_at hl 2 rfl) ?_
              refine lv_iload hx hb dX10_readNumber_119 (lv_at hl 5 rfl) ?_
              refine tc_callp (mc_runS (As := [.int x1, .int x2, .int v5]) (rest := []) E hG (c_X10_mayBe l G (σ, cu, kO PRd X F38) x1 x2 v5) ks_X10_mayBe ml_X10_120 ⟨rfl, rfl, Nat.le_of_ble_eq_true rfl, Nat.le_of_ble_eq_true rfl⟩ rfl hl.1 rfl (Nat.le_of_ble_eq_true rfl) ⟨Nat.zero_le _, Nat.zero_le _⟩ dX10_readNumber_121) (fun r41 pr41 => ?_)
              replace pr41 : (r41.toInt = 1 ∧ 0 ≤ v5.toInt ∧ v5.toInt ≤ 99 ∧ (x1.toInt = 6 → 1 ≤ v5.toInt)) ∨ r41.toInt = 0 := pr41
              refine lv_if_eq (tgt := 145) hx hb dX10_readNumber_124 (by decide) (fun c42 => ?_) (fun c42 => ?_)
              · skip
                have ic42 := tn_eq rfl kI_0 c42
                refine lv_aload_n hx hb dX10_readNumber_145 rfl (lv_at hl 0 rfl) ?_
                refine lv_iconst (v := 1) hx hb dX10_readNumber_146 (by decide) ?_
                refine mc_putX E hG t0 mp_359 (by decide) (by decide) (t_nz (by decide) (by decide)).1 (t_nz (by decide) (by decide)).2 dX10_readNumber_147 (fun H locs hG => ?_)
                have hG := kO_set (PRd_27) hG
                obtain ⟨F43, eF43⟩ : ∃ Z : mF, Z = up2 F38 1 27 (1 : Int32) := ⟨_, rfl⟩
                rw [← eF43] at hG
                refine lv_aload_n hx hb dX10_readNumber_150 rfl (lv_at hl 0 rfl) ?_
                refine lv_iload hx hb dX10_readNumber_151 (lv_at hl 4 rfl) ?_
                refine mc_putX E hG t0 mp_350 (by omega) (by omega) rfl rfl dX10_readNumber_153 (fun H locs hG => ?_)
                have hG := kO_set (PRd_26) hG
                obtain ⟨F44, eF44⟩ : ∃ Z : mF, Z = up2 F43 1 26 v4 := ⟨_, rfl⟩
                rw [← eF44] at hG
                refine lv_iload hx hb dX10_readNumber_156 (lv_at hl 5 rfl) ?_
                exact mc_iretX E hr hlk hG rfl rfl ⟨_, rfl, (by omega), (by omega), (((hex38.1.put (Or.inr rfl) eF38).put (Or.inr rfl) eF43).put (Or.inl rfl) eF44), Or.inl (by rw [eF44, up2_ne (by decide), eF43, up2_at]; decide)⟩ dX10_readNumber_158
              · skip
                have ic42 := tn_ne rfl kI_0 c42
                refine lv_iload_n hx hb dX10_readNumber_127 rfl (lv_at hl 1 rfl) ?_
                refine lv_iconst (v := 3) hx hb dX10_readNumber_128 (by decide) ?_
                refine lv_icmp_ne (tgt := 156) hx hb dX10_readNumber_129 (by decide) (fun c45 => ?_) (fun c45 => ?_)
                · skip
                  have ic45 := tn_ne rfl kI_3 c45
                  refine lv_iload hx hb dX10_readNumber_156 (lv_at hl 5 rfl) ?_
                  exact mc_iretX E hr hlk hG rfl rfl ⟨_, rfl, (by omega), (by omega), (hex38.1.put (Or.inr rfl) eF38), Or.inr (by omega)⟩ dX10_readNumber_158
                · skip
                  have ic45 := tn_eq rfl kI_3 c45
                  refine lv_iload_n hx hb dX10_readNumber_132 rfl (lv_at hl 2 rfl) ?_
                  refine lv_iconst (v := 2) hx hb dX10_readNumber_133 (by decide) ?_
                  refine lv_irem hx hb dX10_readNumber_134 (by decide) ?_
                  refine lv_topi (fun z46 ez46 => ?_)
                  have tz46 := tn_rem ez46 kI_2 (by omega) (by decide)
                  refine lv_iconst (v := 1) hx hb dX10_readNumber_135 (by decide) ?_
                  refine lv_icmp_ne (tgt := 156) hx hb dX10_readNumber_136 (by decide) (fun c47 => ?_) (fun c47 => ?_)
                  · skip
                    have ic47 := tn_ne rfl kI_1 c47
                    refine lv_iload hx hb dX10_readNumber_156 (lv_at hl 5 rfl) ?_
                    exact mc_iretX E hr hlk hG rfl rfl ⟨_, rfl, (by omega), (by omega), (hex38.1.put (Or.inr rfl) eF38), Or.inr (by omega)⟩ dX10_readNumber_158
                  · skip
                    have ic47 := tn_eq rfl kI_1 c47
                    refine lv_iload hx hb dX10_readNumber_139 (lv_at hl 5 rfl) ?_
                    refine lv_iload_n hx hb dX10_readNumber_141 rfl (lv_at hl 3 rfl) ?_
                    refine lv_icmp_ge (tgt := 156) hx hb dX10_readNumber_142 (by decide) (fun c48 => ?_) (fun c48 => ?_)
                    · skip
                      have ic48 := tn_le rfl rfl c48
                      refine lv_iload hx hb dX10_readNumber_156 (lv_at hl 5 rfl) ?_
                      exact mc_iretX E hr hlk hG rfl rfl ⟨_, rfl, (by omega), (by omega), (hex38.1.put (Or.inr rfl) eF38), Or.inr (by omega)⟩ dX10_readNumber_158
                    · skip
                      have ic48 := tn_nle rfl rfl c48
                      refine lv_aload_n hx hb dX10_readNumber_145 rfl (lv_at hl 0 rfl) ?_
                      refine lv_iconst (v := 1) hx hb dX10_readNumber_146 (by decide) ?_
                      refine mc_putX E hG t0 mp_359 (by decide) (by decide) (t_nz (by decide) (by decide)).1 (t_nz (by decide) (by decide)).2 dX10_readNumber_147 (fun H locs hG => ?_)
                      have hG := kO_set (PRd_27) hG
                      obtain ⟨F49, eF49⟩ : ∃ Z : mF, Z = up2 F38 1 27 (1 : Int32) := ⟨_, rfl⟩
                      rw [← eF49] at hG
                      refine lv_aload_n hx hb dX10_readNumber_150 rfl (lv_at hl 0 rfl) ?_
                      refine lv_iload hx hb dX10_readNumber_151 (lv_at hl 4 rfl) ?_
                      refine mc_putX E hG t0 mp_350 (by omega) (by omega) rfl rfl dX10_readNumber_153 (fun H locs hG => ?_)
                      have hG := kO_set (PRd_26) hG
                      obtain ⟨F50, eF50⟩ : ∃ Z : mF, Z = up2 F49 1 26 v4 := ⟨_, rfl⟩
                      rw [← eF50] at hG
                      refine lv_iload hx hb dX10_readNumber_156 (lv_at hl 5 rfl) ?_
                      exact mc_iretX E hr hlk hG rfl rfl ⟨_, rfl, (by omega), (by omega), (((hex38.1.put (Or.inr rfl) eF38).put (Or.inr rfl) eF49).put (Or.inl rfl) eF50), Or.inl (by rw [eF50, up2_ne (by decide), eF49, up2_at]; decide)⟩ dX10_readNumber_158
          · skip
            have ic37 := tn_eq rfl rfl c37
            refine lv_iconst (v := 1) hx hb dX10_readNumber_102 (by decide) ?_
            refine lv_goto (tgt := 107) hx hb dX10_readNumber_103 (by decide) ?_
            refine mc_putX E hG t0 mp_359 (by decide) (by decide) (t_nz (by decide) (by decide)).1 (t_nz (by decide) (by decide)).2 dX10_readNumber_107 (fun H locs hG => ?_)
            have hG := kO_set (PRd_27) hG
            obtain ⟨F51, eF51⟩ : ∃ Z : mF, Z = up2 F 1 27 (1 : Int32) := ⟨_, rfl⟩
            rw [← eF51] at hG
            refine lv_aload_n hx hb dX10_readNumber_110 rfl (lv_at hl 0 rfl) ?_
            refine mc_geti E hG t0 mi_359 dX10_readNumber_111 (fun z52 lz52 uz52 qz52 => ?_)
            have wz52 := kq qz52 (PRd_27)
            have hbd : z52.toInt = 1 := by rw [wz52, eF51, up2_at]; decide
            refine lv_if_ne (tgt := 156) hx hb dX10_readNumber_114 (by decide) (fun c53 => ?_) (fun c53 => ?_)
            · skip
              have ic53 := tn_ne rfl kI_0 c53
              refine lv_iload hx hb dX10_readNumber_156 (lv_at hl 5 rfl) ?_
              exact mc_iretX E hr hlk hG rfl rfl ⟨_, rfl, (by omega), (by omega), (hex38.1.put (Or.inr rfl) eF51), Or.inl (by rw [eF51, up2_at]; decide)⟩ dX10_readNumber_158
            · skip
              have ic53 := tn_eq rfl kI_0 c53
              refine lv_iload_n hx hb dX10_readNumber_117 rfl (lv_at hl 1 rfl) ?_
              refine lv_iload_n hx hb dX10_readNumber_118 rfl (lv_at hl 2 rfl) ?_
              refine lv_iload hx hb dX10_readNumber_119 (lv_at hl 5 rfl) ?_
              refine tc_callp (mc_runS (As := [.int x1, .int x2, .int v5]) (rest := []) E hG (c_X10_mayBe l G (σ, cu, kO PRd X F51) x1 x2 v5) ks_X10_mayBe ml_X10_120 ⟨rfl, rfl, Nat.le_of_ble_eq_true rfl, Nat.le_of_ble_eq_true rfl⟩ rfl hl.1 rfl (Nat.le_of_ble_eq_true rfl) ⟨Nat.zero_le _, Nat.zero_le _⟩ dX10_readNumber_121) (fun r54 pr54 => ?_)
              replace pr54 : (r54.toInt = 1 ∧ 0 ≤ v5.toInt ∧ v5.toInt ≤ 99 ∧ (x1.toInt = 6 → 1 ≤ v5.toInt)) ∨ r54.toInt = 0 := pr54
              refine lv_if_eq (tgt := 145) hx hb dX10_readNumber_124 (by decide) (fun c55 => ?_) (fun c55 => ?_)
              · skip
                have ic55 := tn_eq rfl kI_0 c55
                refine lv_aload_n hx hb dX10_readNumber_145 rfl (lv_at hl 0 rfl) ?_
                refine lv_iconst (v := 1) hx hb dX10_readNumber_146 (by decide) ?_
                refine mc_putX E hG t0 mp_359 (by decide) (by decide) (t_nz (by decide) (by decide)).1 (t_nz (by decide) (by decide)).2 dX10_readNumber_147 (fun H locs hG => ?_)
                have hG := kO_set (PRd_27) hG
                obtain ⟨F56, eF56⟩ : ∃ Z : mF, Z = up2 F51 1 27 (1 : Int32) := ⟨_, rfl⟩
                rw [← eF56] at hG
                refine lv_aload_n hx hb dX10_readNumber_150 rfl (lv_at hl 0 rfl) ?_
                refine lv_iload hx hb dX10_readNumber_151 (lv_at hl 4 rfl) ?_
                refine mc_putX E hG t0 mp_350 (by omega) (by omega) rfl rfl dX10_readNumber_153 (fun H locs hG => ?_)
                have hG := kO_set (PRd_26) hG
                obtain ⟨F57, eF57⟩ : ∃ Z : mF, Z = up2 F56 1 26 v4 := ⟨_, rfl⟩
                rw [← eF57] at hG
                refine lv_iload hx hb dX10_readNumber_156 (lv_at hl 5 rfl) ?_
                exact mc_iretX E hr hlk hG rfl rfl ⟨_, rfl, (by omega), (by omega), (((hex38.1.put (Or.inr rfl) eF51).put (Or.inr rfl) eF56).put (Or.inl rfl) eF57), Or.inl (by rw [eF57, up2_ne (by decide), eF56, up2_at]; decide)⟩ dX10_readNumber_158
              · skip
                have ic55 := tn_ne rfl kI_0 c55
                refine lv_iload_n hx hb dX10_readNumber_127 rfl (lv_at hl 1 rfl) ?_
                refine lv_iconst (v := 3) hx hb dX10_readNumber_128 (by decide) ?_
                refine lv_icmp_ne (tgt := 156) hx hb dX10_readNumber_129 (by decide) (fun c58 => ?_) (fun c58 => ?_)
                · skip
                  have ic58 := tn_ne rfl kI_3 c58
                  refine lv_iload hx hb dX10_readNumber_156 (lv_at hl 5 rfl) ?_
                  exact mc_iretX E hr hlk hG rfl rfl ⟨_, rfl, (by omega), (by omega), (hex38.1.put (Or.inr rfl) eF51), Or.inl (by rw [eF51, up2_at]; decide)⟩ dX10_readNumber_158
                · skip
                  have ic58 := tn_eq rfl kI_3 c58
                  refine lv_iload_n hx hb dX10_readNumber_132 rfl (lv_at hl 2 rfl) ?_
                  refine lv_iconst (v := 2) hx hb dX10_readNumber_133 (by decide) ?_
                  refine lv_irem hx hb dX10_readNumber_134 (by decide) ?_
                  refine lv_topi (fun z59 ez59 => ?_)
                  have tz59 := tn_rem ez59 kI_2 (by omega) (by decide)
                  refine lv_iconst (v := 1) hx hb dX10_readNumber_135 (by decide) ?_
                  refine lv_icmp_ne (tgt := 156) hx hb dX10_readNumber_136 (by decide) (fun c60 => ?_) (fun c60 => ?_)
                  · skip
                    have ic60 := tn_ne rfl kI_1 c60
                    refine lv_iload hx hb dX10_readNumber_156 (lv_at hl 5 rfl) ?_
                    exact mc_iretX E hr hlk hG rfl rfl ⟨_, rfl, (by omega), (by omega), (hex38.1.put (Or.inr rfl) eF51), Or.inl (by rw [eF51, up2_at]; decide)⟩ dX10_readNumber_158
                  · skip
                    have ic60 := tn_eq rfl kI_1 c60
                    refine lv_iload hx hb dX10_readNumber_139 (lv_at hl 5 rfl) ?_
                    refine lv_iload_n hx hb dX10_readNumber_141 rfl (lv_at hl 3 rfl) ?_
                    refine lv_icmp_ge (tgt := 156) hx hb dX10_readNumber_142 (by decide) (fun c61 => ?_) (fun c61 => ?_)
                    · skip
                      have ic61 := tn_le rfl rfl c61
                      refine lv_iload hx hb dX10_readNumber_156 (lv_at hl 5 rfl) ?_
                      exact mc_iretX E hr hlk hG rfl rfl ⟨_, rfl, (by omega), (by omega), (hex38.1.put (Or.inr rfl) eF51), Or.inl (by rw [eF51, up2_at]; decide)⟩ dX10_readNumber_158
                    · skip
                      have ic61 := tn_nle rfl rfl c61
                      refine lv_aload_n hx hb dX10_readNumber_145 rfl (lv_at hl 0 rfl) ?_
                      refine lv_iconst (v := 1) hx hb dX10_readNumber_146 (by decide) ?_
                      refine mc_putX E hG t0 mp_359 (by decide) (by decide) (t_nz (by decide) (by decide)).1 (t_nz (by decide) (by decide)).2 dX10_readNumber_147 (fun H locs hG => ?_)
                      have hG := kO_set (PRd_27) hG
                      obtain ⟨F62, eF62⟩ : ∃ Z : mF, Z = up2 F51 1 27 (1 : Int32) := ⟨_, rfl⟩
                      rw [← eF62] at hG
                      refine lv_aload_n hx hb dX10_readNumber_150 rfl (lv_at hl 0 rfl) ?_
                      refine lv_iload hx hb dX10_readNumber_151 (lv_at hl 4 rfl) ?_
                      refine mc_putX E hG t0 mp_350 (by omega) (by omega) rfl rfl dX10_readNumber_153 (fun H locs hG => ?_)
                      have hG := kO_set (PRd_26) hG
                      obtain ⟨F63, eF63⟩ : ∃ Z : mF, Z = up2 F62 1 26 v4 := ⟨_, rfl⟩
                      rw [← eF63] at hG
                      refine lv_iload hx hb dX10_readNumber_156 (lv_at hl 5 rfl) ?_
                      exact mc_iretX E hr hlk hG rfl rfl ⟨_, rfl, (by omega), (by omega), (((hex38.1.put (Or.inr rfl) eF51).put (Or.inr rfl) eF62).put (Or.inl rfl) eF63), Or.inl (by rw [eF63, up2_ne (by decide), eF62, up2_at]; decide)⟩ dX10_readNumber_158
        · skip
          have ic35 := tn_ne rfl kI_0 c35
          refine lv_bipush (v := 10) hx hb dX10_readNumber_61 (by decide) ?_
          refine lv_iload hx hb dX10_readNumber_63 (lv_at hl 5 rfl) ?_
          refine lv_imul hx hb dX10_readNumber_65 ?_
          refine lv_topi (fun z64 ez64 => ?_)
          have tz64 := tn_mul ez64 kI_10 rfl (by omega) (by omega)
          refine lv_aload_n hx hb dX10_readNumber_66 rfl (lv_at hl 0 rfl) ?_
          refine mc_calli hG (mc_runV (As := []) (rest := [.int z64]) E hG (c_X10_here2 l G σ cu X F h0 t0) t0 rfl kv_X10_here ml_X10_356 ⟨rfl, rfl, Nat.le_of_ble_eq_true rfl, Nat.le_of_ble_eq_true rfl⟩ rfl hl.1 rfl (Nat.le_of_ble_eq_true rfl) ⟨Nat.zero_le _, Nat.zero_le _⟩ dX10_readNumber_67) (fun r65 H locs pr65 hG => ?_)
          replace pr65 : (r65.toInt = -1 ∧ (F 1 25).toInt ≤ (F 1 26).toInt) ∨ (0 ≤ r65.toInt ∧ r65.toInt ≤ 126 ∧ (F 1 26).toInt < (F 1 25).toInt ∧ (F 1 26).toInt ≤ 119 ∧ r65.toInt = (F 15 (F 1 26).toNatClampNeg).toInt) := pr65
          have br65 : -1 ≤ r65.toInt ∧ r65.toInt ≤ 126 := by omega
          refine lv_iadd hx hb dX10_readNumber_70 ?_
          refine lv_topi (fun z66 ez66 => ?_)
          have tz66 := tn_add ez66 rfl rfl (by omega) (by omega)
          refine lv_bipush (v := 48) hx hb dX10_readNumber_71 (by decide) ?_
          refine lv_isub hx hb dX10_readNumber_73 ?_
          refine lv_topi (fun z67 ez67 => ?_)
          have tz67 := tn_sub ez67 rfl kI_48 (by omega) (by omega)
          refine lv_istore (lv' := [(5, .int z67), (0, .ref h0), (1, .int x1), (2, .int x2), (3, .int x3), (4, .int v4), (6, .int v6)]) hx hb dX10_readNumber_74 hl (by decide) rfl (fun ls hl => ?_)
          refine lv_aload_n hx hb dX10_readNumber_76 rfl (lv_at hl 1 rfl) ?_
          refine lv_dup hx hb dX10_readNumber_77 rfl ?_
          refine mc_geti E hG t0 mi_350 dX10_readNumber_78 (fun z68 lz68 uz68 qz68 => ?_)
          have wz68 := kq qz68 (PRd_26)
          have hpl : z68.toInt = (F 1 26).toInt := by rw [wz68]
          refine lv_iconst (v := 1) hx hb dX10_readNumber_81 (by decide) ?_
          refine lv_iadd hx hb dX10_readNumber_82 ?_
          refine lv_topi (fun z69 ez69 => ?_)
          have tz69 := tn_add ez69 rfl kI_1 (by omega) (by omega)
          refine mc_putX E hG t0 mp_350 (by omega) (by omega) rfl rfl dX10_readNumber_83 (fun H locs hG => ?_)
          have hG := kO_set (PRd_26) hG
          obtain ⟨F70, eF70⟩ : ∃ Z : mF, Z = up2 F 1 26 z69 := ⟨_, rfl⟩
          rw [← eF70] at hG
          obtain ⟨z71, ez71⟩ : ∃ y : Int32, y = v6 + (1) := ⟨_, rfl⟩
          refine lv_iinc (v := z71) (lv' := [(6, .int z71), (5, .int z67), (0, .ref h0), (1, .int x1), (2, .int x2), (3, .int x3), (4, .int v4)]) hx hb dX10_readNumber_86 hl (k := 6) rfl (by rw [ez71]; rfl) (by decide) rfl (fun ls hl => ?_)
          have tz71 := tn_add ez71 rfl kI_1 (by omega) (by omega)
          refine lv_goto (tgt := 38) hx hb dX10_readNumber_89 (by decide) ?_
          have hQ : mRN Fa F70 := hex38.1.put (Or.inl rfl) eF70
          exact ih38 F70 H locs ls v4 z67 z71 hG (lv_sub hl [2, 3, 4, 5, 6, 1, 0] rfl) (by omega) (by omega) (by omega) (by omega) (by omega) (by omega) (by exact ⟨hQ, by omega⟩) (by omega)
  refine lv_aload_n hx hb dX10_readNumber_0 rfl (lv_at hl 0 rfl) ?_
  refine mc_calli hG (mc_runV (As := []) (rest := []) E hG (c_X10_here2 l G σ cu X Fa h0 t0) t0 rfl kv_X10_here ml_X10_356 ⟨rfl, rfl, Nat.le_of_ble_eq_true rfl, Nat.le_of_ble_eq_true rfl⟩ rfl hl.1 rfl (Nat.le_of_ble_eq_true rfl) ⟨Nat.zero_le _, Nat.zero_le _⟩ dX10_readNumber_1) (fun r72 H locs pr72 hG => ?_)
  replace pr72 : (r72.toInt = -1 ∧ (Fa 1 25).toInt ≤ (Fa 1 26).toInt) ∨ (0 ≤ r72.toInt ∧ r72.toInt ≤ 126 ∧ (Fa 1 26).toInt < (Fa 1 25).toInt ∧ (Fa 1 26).toInt ≤ 119 ∧ r72.toInt = (Fa 15 (Fa 1 26).toNatClampNeg).toInt) := pr72
  have br72 : -1 ≤ r72.toInt ∧ r72.toInt ≤ 126 := by omega
  refine lv_bipush (v := 32) hx hb dX10_readNumber_4 (by decide) ?_
  refine lv_icmp_eq (tgt := 16) hx hb dX10_readNumber_6 (by decide) (fun c73 => ?_) (fun c73 => ?_)
  · skip
    have ic73 := tn_eq rfl kI_32 c73
    refine lv_aload_n hx hb dX10_readNumber_16 rfl (lv_at hl 0 rfl) ?_
    refine lv_dup hx hb dX10_readNumber_17 rfl ?_
    refine mc_geti E hG t0 mi_350 dX10_readNumber_18 (fun z74 lz74 uz74 qz74 => ?_)
    have wz74 := kq qz74 (PRd_26)
    have hpl : z74.toInt = (Fa 1 26).toInt := by rw [wz74]
    refine lv_iconst (v := 1) hx hb dX10_readNumber_21 (by decide) ?_
    refine lv_iadd hx hb dX10_readNumber_22 ?_
    refine lv_topi (fun z75 ez75 => ?_)
    have tz75 := tn_add ez75 rfl kI_1 (by omega) (by omega)
    refine mc_putX E hG t0 mp_350 (by omega) (by omega) rfl rfl dX10_readNumber_23 (fun H locs hG => ?_)
    have hG := kO_set (PRd_26) hG
    obtain ⟨F76, eF76⟩ : ∃ Z : mF, Z = up2 Fa 1 26 z75 := ⟨_, rfl⟩
    rw [← eF76] at hG
    refine lv_aload_n hx hb dX10_readNumber_26 rfl (lv_at hl 0 rfl) ?_
    refine mc_geti E hG t0 mi_350 dX10_readNumber_27 (fun z77 lz77 uz77 qz77 => ?_)
    have wz77 := kq qz77 (PRd_26)
    refine lv_istore (lv' := [(4, .int z77), (0, .ref h0), (1, .int x1), (2, .int x2), (3, .int x3)]) hx hb dX10_readNumber_30 hl (by decide) rfl (fun ls hl => ?_)
    refine lv_iconst (v := 0) hx hb dX10_readNumber_32 (by decide) ?_
    refine lv_istore (lv' := [(5, .int 0), (4, .int z77), (0, .ref h0), (1, .int x1), (2, .int x2), (3, .int x3)]) hx hb dX10_readNumber_33 hl (by decide) rfl (fun ls hl => ?_)
    refine lv_iconst (v := 0) hx hb dX10_readNumber_35 (by decide) ?_
    refine lv_istore (lv' := [(6, .int 0), (5, .int 0), (4, .int z77), (0, .ref h0), (1, .int x1), (2, .int x2), (3, .int x3)]) hx hb dX10_readNumber_36 hl (by decide) rfl (fun ls hl => ?_)
    have hQ : mRN Fa F76 := mRN.refl.put (Or.inl rfl) eF76
    have k0 := kI_0
    exact J38 ((2 - (0 : Int32).toInt).toNat + 1) F76 H locs ls z77 (0 : Int32) (0 : Int32) hG (lv_sub hl [3, 4, 5, 6, 2, 1, 0] rfl) (by omega) (by omega) (by decide) (by decide) (by decide) (by decide) (by exact ⟨hQ, by omega⟩) (Nat.lt_succ_self _)
  · skip
    have ic73 := tn_ne rfl kI_32 c73
    refine lv_aload_n hx hb dX10_readNumber_9 rfl (lv_at hl 0 rfl) ?_
    refine lv_iconst (v := 1) hx hb dX10_readNumber_10 (by decide) ?_
    refine mc_putX E hG t0 mp_359 (by decide) (by decide) (t_nz (by decide) (by decide)).1 (t_nz (by decide) (by decide)).2 dX10_readNumber_11 (fun H locs hG => ?_)
    have hG := kO_set (PRd_27) hG
    obtain ⟨F78, eF78⟩ : ∃ Z : mF, Z = up2 Fa 1 27 (1 : Int32) := ⟨_, rfl⟩
    rw [← eF78] at hG
    refine lv_iconst (v := 0) hx hb dX10_readNumber_14 (by decide) ?_
    exact mc_iretX E hr hlk hG rfl rfl ⟨_, rfl, (by have k0 := kI_0; omega), (by have k0 := kI_0; omega), (mRN.refl.put (Or.inr rfl) eF78), Or.inl (by rw [eF78, up2_at]; decide)⟩ dX10_readNumber_15

set_option maxHeartbeats 4000000 in
set_option maxRecDepth 100000 in
theorem c_X10_readShare (l : Launch) (G : tG) (σ : Nat → Nat) (cu : Nat) (X : mX) (Fa : mF) (h0 : Nat) (x1 : Int32) (t0 : σ h0 = 1) (l1 : 0 ≤ x1.toInt) (u1 : x1.toInt ≤ 184) (q : Nat) (hq : x1.toInt = 8 * (q : Int)) (hq2 : q ≤ 23) : Met l yX10_readShare (.code yX10_readShare cX10_readShare 2 none :: tWS) (tRm 1 25) (va_Pc [.ref h0, .int x1] (mPre G (σ, cu, kO PRd X Fa))) (mQvX G (σ, cu, kO PRd X Fa) (fun Z => ∃ F : mF, Z = (σ, cu, kO PRd X F) ∧ RSh Fa F q)) 0 0 (mA (σ, cu, kO PRd X Fa)) := by
  refine mc_met (by decide) (Nat.le_of_ble_eq_true rfl) ?_
  intro p e s m below meth c E hr hlk hG ls hl
  have hl : lv_has ls 2 [(0, .ref h0), (1, .int x1)] := hl
  have hx := E.1
  have hb := E.2.1
  obtain ⟨H, eH⟩ : ∃ H, H = s.heap := ⟨_, rfl⟩
  obtain ⟨locs, eL⟩ : ∃ x : List Loc, x = [] := ⟨_, rfl⟩
  have hG : mGH G (σ, cu, kO PRd X Fa) s H locs := by rw [eH, eL]; exact hG
  suffices hW : W p l e (tRm 1 25) s m ([.ref h0, .int x1] : List Value).toArray below meth c H locs 0 0 (MQ below (mQvX G (σ, cu, kO PRd X Fa) (fun Z => ∃ F : mF, Z = (σ, cu, kO PRd X F) ∧ RSh Fa F q)) ([.ref h0, .int x1] : List Value).toArray s 0 0 (mA (σ, cu, kO PRd X Fa))) (F0 m 0 ls []) by subst eH; subst eL; exact hW
  clear eH eL
  have hcu : mCu cu := hG.2.2.1
  refine lv_aload_n hx hb dX10_readShare_0 rfl (lv_at hl 0 rfl) ?_
  refine mc_calli hG (mc_runV (As := []) (rest := []) E hG (c_X10_here2 l G σ cu X Fa h0 t0) t0 rfl kv_X10_here ml_X10_356 ⟨rfl, rfl, Nat.le_of_ble_eq_true rfl, Nat.le_of_ble_eq_true rfl⟩ rfl hl.1 rfl (Nat.le_of_ble_eq_true rfl) ⟨Nat.zero_le _, Nat.zero_le _⟩ dX10_readShare_1) (fun r1 H locs pr1 hG => ?_)
  replace pr1 : (r1.toInt = -1 ∧ (Fa 1 25).toInt ≤ (Fa 1 26).toInt) ∨ (0 ≤ r1.toInt ∧ r1.toInt ≤ 126 ∧ (Fa 1 26).toInt < (Fa 1 25).toInt ∧ (Fa 1 26).toInt ≤ 119 ∧ r1.toInt = (Fa 15 (Fa 1 26).toNatClampNeg).toInt) := pr1
  have br1 : -1 ≤ r1.toInt ∧ r1.toInt ≤ 126 := by omega
  refine lv_bipush (v := 42) hx hb dX10_readShare_4 (by decide) ?_
  refine lv_icmp_eq (tgt := 10) hx hb dX10_readShare_6 (by decide) (fun c2 => ?_) (fun c2 => ?_)
  · skip
    have ic2 := tn_eq rfl kI_42 c2
    refine lv_aload_n hx hb dX10_readShare_10 rfl (lv_at hl 0 rfl) ?_
    refine lv_dup hx hb dX10_readShare_11 rfl ?_
    refine mc_geti E hG t0 mi_350 dX10_readShare_12 (fun z3 lz3 uz3 qz3 => ?_)
    have wz3 := kq qz3 (PRd_26)
    have hpl : z3.toInt = (Fa 1 26).toInt := by rw [wz3]
    refine lv_iconst (v := 1) hx hb dX10_readShare_15 (by decide) ?_
    refine lv_iadd hx hb dX10_readShare_16 ?_
    refine lv_topi (fun z4 ez4 => ?_)
    have tz4 := tn_add ez4 rfl kI_1 (by omega) (by omega)
    refine mc_putX E hG t0 mp_350 (by omega) (by omega) rfl rfl dX10_readShare_17 (fun H locs hG => ?_)
    have hG := kO_set (PRd_26) hG
    obtain ⟨F5, eF5⟩ : ∃ Z : mF, Z = up2 Fa 1 26 z4 := ⟨_, rfl⟩
    rw [← eF5] at hG
    refine lv_aload_n hx hb dX10_readShare_20 rfl (lv_at hl 0 rfl) ?_
    refine mc_calli hG (mc_runV (As := []) (rest := []) E hG (c_X10_here2 l G σ cu X F5 h0 t0) t0 rfl kv_X10_here ml_X10_356 ⟨rfl, rfl, Nat.le_of_ble_eq_true rfl, Nat.le_of_ble_eq_true rfl⟩ rfl hl.1 rfl (Nat.le_of_ble_eq_true rfl) ⟨Nat.zero_le _, Nat.zero_le _⟩ dX10_readShare_21) (fun r6 H locs pr6 hG => ?_)
    replace pr6 : (r6.toInt = -1 ∧ (F5 1 25).toInt ≤ (F5 1 26).toInt) ∨ (0 ≤ r6.toInt ∧ r6.toInt ≤ 126 ∧ (F5 1 26).toInt < (F5 1 25).toInt ∧ (F5 1 26).toInt ≤ 119 ∧ r6.toInt = (F5 15 (F5 1 26).toNatClampNeg).toInt) := pr6
    have br6 : -1 ≤ r6.toInt ∧ r6.toInt ≤ 126 := by omega
    refine lv_i2l hx hb dX10_readShare_24 rfl ?_
    refine lv_topl (fun z7 ez7 => ?_)
    have tz7 := tl_i2l ez7
    refine lv_ldc2 (v := 48) hx hb E.2.2.2.1 (E.2.2.2.2.1 _ (t_w8 19 rfl rfl)) dX10_readShare_25 ?_
    refine lv_topl (fun z8 ez8 => ?_)
    have tz8 : z8.toInt = 48 := by rw [ez8]; decide
    refine lv_ldc2 (v := 57) hx hb E.2.2.2.1 (E.2.2.2.2.1 _ (t_w8 20 rfl rfl)) dX10_readShare_28 ?_
    refine lv_topl (fun z9 ez9 => ?_)
    have tz9 : z9.toInt = 57 := by rw [ez9]; decide
    refine tc_callp (mc_runS (As := [.long z7, .long z8, .long z9]) (rest := []) E hG (c_X10_in l G (σ, cu, kO PRd X F5) z7 z8 z9) ks_X10_in ml_X10_87 ⟨rfl, rfl, Nat.le_of_ble_eq_true rfl, Nat.le_of_ble_eq_true rfl⟩ rfl hl.1 rfl (Nat.le_of_ble_eq_true rfl) ⟨Nat.zero_le _, Nat.zero_le _⟩ dX10_readShare_31) (fun r10 pr10 => ?_)
    replace pr10 : ((r10.toInt = 1 ∧ z8.toInt ≤ z7.toInt ∧ z7.toInt ≤ z9.toInt) ∨ (r10.toInt = 0 ∧ (z7.toInt < z8.toInt ∨ z9.toInt < z7.toInt))) := pr10
    refine lv_if_ne (tgt := 43) hx hb dX10_readShare_34 (by decide) (fun c11 => ?_) (fun c11 => ?_)
    · skip
      have ic11 := tn_ne rfl kI_0 c11
      refine lv_aload_n hx hb dX10_readShare_43 rfl (lv_at hl 0 rfl) ?_
      refine mc_getr E hG t0 mr_60 dX10_readShare_44 (fun oa12 hoa12 => ?_)
      refine lv_iload_n hx hb dX10_readShare_47 rfl (lv_at hl 1 rfl) ?_
      refine lv_iconst (v := 5) hx hb dX10_readShare_48 (by decide) ?_
      refine lv_iadd hx hb dX10_readShare_49 ?_
      refine lv_topi (fun z13 ez13 => ?_)
      have tz13 := tn_add ez13 rfl kI_5 (by omega) (by omega)
      refine lv_aload_n hx hb dX10_readShare_50 rfl (lv_at hl 0 rfl) ?_
      refine mc_calli hG (mc_runV (As := []) (rest := [.int z13, .ref oa12]) E hG (c_X10_here2 l G σ cu X F5 h0 t0) t0 rfl kv_X10_here ml_X10_356 ⟨rfl, rfl, Nat.le_of_ble_eq_true rfl, Nat.le_of_ble_eq_true rfl⟩ rfl hl.1 rfl (Nat.le_of_ble_eq_true rfl) ⟨Nat.zero_le _, Nat.zero_le _⟩ dX10_readShare_51) (fun r14 H locs pr14 hG => ?_)
      replace pr14 : (r14.toInt = -1 ∧ (F5 1 25).toInt ≤ (F5 1 26).toInt) ∨ (0 ≤ r14.toInt ∧ r14.toInt ≤ 126 ∧ (F5 1 26).toInt < (F5 1 25).toInt ∧ (F5 1 26).toInt ≤ 119 ∧ r14.toInt = (F5 15 (F5 1 26).toNatClampNeg).toInt) := pr14
      have br14 : -1 ≤ r14.toInt ∧ r14.toInt ≤ 126 := by omega
      refine lv_bipush (v := 48) hx hb dX10_readShare_54 (by decide) ?_
      refine lv_isub hx hb dX10_readShare_56 ?_
      refine lv_topi (fun z15 ez15 => ?_)
      have tz15 := tn_sub ez15 rfl kI_48 (by omega) (by omega)
      have k16 : rR z13.toNatClampNeg = (0, 9) := by rw [rR_at (q := (q : Int)) (r := 5) (by omega) (by omega) (by omega) (by omega)]; rfl
      refine mc_iastX E hG hoa12 (by decide) rfl (lo := 0) (hi := 9) (show (0, (rR _).1, (rR _).2) = _ by rw [k16]) (t_in (by omega) (by omega)) (by omega) (by omega) dX10_readShare_57 (fun H locs hG => ?_)
      have hG := kO_set PRd_17 hG
      obtain ⟨F17, eF17⟩ : ∃ Z : mF, Z = up2 F5 17 z13.toNatClampNeg z15 := ⟨_, rfl⟩
      rw [← eF17] at hG
      refine lv_aload_n hx hb dX10_readShare_58 rfl (lv_at hl 0 rfl) ?_
      refine lv_dup hx hb dX10_readShare_59 rfl ?_
      refine mc_geti E hG t0 mi_350 dX10_readShare_60 (fun z18 lz18 uz18 qz18 => ?_)
      have wz18 := kq qz18 (PRd_26)
      have hpl2 : z18.toInt = (F17 1 26).toInt := by rw [wz18]
      have hpl3 : (F17 1 26).toInt = (F5 1 26).toInt := by rw [eF17, up2_ne (by omega)]
      refine lv_iconst (v := 1) hx hb dX10_readShare_63 (by decide) ?_
      refine lv_iadd hx hb dX10_readShare_64 ?_
      refine lv_topi (fun z19 ez19 => ?_)
      have tz19 := tn_add ez19 rfl kI_1 (by omega) (by omega)
      refine mc_putX E hG t0 mp_350 (by omega) (by omega) rfl rfl dX10_readShare_65 (fun H locs hG => ?_)
      have hG := kO_set (PRd_26) hG
      obtain ⟨F20, eF20⟩ : ∃ Z : mF, Z = up2 F17 1 26 z19 := ⟨_, rfl⟩
      rw [← eF20] at hG
      exact mc_vretX E hr hlk hG rfl ⟨_, rfl, (fun c k q1 q2 => by rw [eF20, up2_ne (fun z => q1 ⟨z.1, by omega⟩), eF17, up2_ne (fun z => q2 ⟨z.1, by rw [z.2]; show z13.toInt.toNat = _; omega⟩), eF5, up2_ne (fun z => q1 ⟨z.1, by omega⟩)])⟩ dX10_readShare_68
    · skip
      have ic11 := tn_eq rfl kI_0 c11
      refine lv_aload_n hx hb dX10_readShare_37 rfl (lv_at hl 0 rfl) ?_
      refine lv_iconst (v := 1) hx hb dX10_readShare_38 (by decide) ?_
      refine mc_putX E hG t0 mp_359 (by decide) (by decide) (t_nz (by decide) (by decide)).1 (t_nz (by decide) (by decide)).2 dX10_readShare_39 (fun H locs hG => ?_)
      have hG := kO_set (PRd_27) hG
      obtain ⟨F21, eF21⟩ : ∃ Z : mF, Z = up2 F5 1 27 (1 : Int32) := ⟨_, rfl⟩
      rw [← eF21] at hG
      exact mc_vretX E hr hlk hG rfl ⟨_, rfl, ((mRN.refl.put (Or.inl rfl) eF5).put (Or.inr rfl) eF21).sh⟩ dX10_readShare_42
  · skip
    have ic2 := tn_ne rfl kI_42 c2
    exact mc_vretX E hr hlk hG rfl ⟨_, rfl, mRN.refl.sh⟩ dX10_readShare_9

