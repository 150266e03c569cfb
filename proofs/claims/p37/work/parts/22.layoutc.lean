set_option maxHeartbeats 4000000 in
set_option maxRecDepth 100000 in
theorem c_X3_onlyKid_c (l : Launch) (G : tG) (τ : Nat → Nat) (h0 : Nat) (h1 : Nat) (t0 : τ h0 = 27) (t1 : τ h1 = 31) : Met l yX3_onlyKid (.code yX3_onlyKid cX3_onlyKid 2 (some (.object "LaidOutBoxes$Box")) :: tWS) (tRm 1 22) (va_Pc [.ref h0, .ref h1] (tPre G τ)) (tQpq (fun r => r = none ∨ ∃ y, r = some y ∧ τ y = 31)) 0 0 tNo := by
  refine tc_met (by decide) (Nat.le_of_ble_eq_true rfl) ?_
  intro p e s m below meth c E hSt hr hlk hG ls hl
  have hl : lv_has ls 2 [(0, .ref h0), (1, .ref h1)] := hl
  have hx := E.1
  have hb := E.2.1
  obtain ⟨H, eH⟩ : ∃ H, H = s.heap := ⟨_, rfl⟩
  obtain ⟨locs, eL⟩ : ∃ x : List Loc, x = [] := ⟨_, rfl⟩
  have hG : tGH G τ s H locs := by rw [eH, eL]; exact hG
  suffices hW : W p l e (tRm 1 22) s m ([.ref h0, .ref h1] : List Value).toArray below meth c H locs 0 0 (MQ below (tQpq (fun r => r = none ∨ ∃ y, r = some y ∧ τ y = 31)) ([.ref h0, .ref h1] : List Value).toArray s 0 0 tNo) (F0 m 0 ls []) by subst eH; subst eL; exact hW
  refine lv_aload_n hx hb dX3_onlyKid_0 rfl (lv_at hl 1 rfl) ?_
  refine tc_geti E hG t1 fik_X3_144 dX3_onlyKid_1 (fun z1 lz1 uz1 => ?_)
  refine lv_if_le (tgt := 19) hx hb dX3_onlyKid_4 (by decide) (fun c2 => ?_) (fun c2 => ?_)
  · skip
    have ic2 := tn_le rfl kI_0 c2
    refine lv_null hx hb dX3_onlyKid_19 ?_
    exact tc_pnret E hr hlk eH eL (Or.inl rfl) dX3_onlyKid_20
  · skip
    have ic2 := tn_nle rfl kI_0 c2
    refine lv_aload_n hx hb dX3_onlyKid_7 rfl (lv_at hl 0 rfl) ?_
    refine tc_getr E hG t0 frc_X3_9 dX3_onlyKid_8 (fun oa3 hoa3 => ?_)
    refine lv_aload_n hx hb dX3_onlyKid_11 rfl (lv_at hl 1 rfl) ?_
    refine lv_iconst (v := 0) hx hb dX3_onlyKid_12 (by decide) ?_
    refine tc_callpr (tc_runV (As := [.ref h1, .int 0]) (rest := []) E hSt hG (c_X8_kidOf_c l G τ oa3 h1 (0 : Int32) hoa3 t1 (by decide) (by decide)) hoa3 rv_26 kv_X8_kidOf ml_X3_147 ⟨rfl, rfl, Nat.le_of_ble_eq_true rfl, Nat.le_of_ble_eq_true rfl⟩ rfl hl.1 rfl (Nat.le_of_ble_eq_true rfl) ⟨Nat.zero_le _, Nat.zero_le _⟩ dX3_onlyKid_13) (fun r4 pr4 => ?_)
    refine lv_goto (tgt := 20) hx hb dX3_onlyKid_16 (by decide) ?_
    exact tc_pqret E hr hlk eH eL (Or.inr ⟨_, rfl, pr4⟩) dX3_onlyKid_20

set_option maxHeartbeats 4000000 in
set_option maxRecDepth 100000 in
theorem c_X3_isDue_c (l : Launch) (G : tG) (τ : Nat → Nat) (h0 : Nat) (x1 : Int32) (x2 : Int32) (t0 : τ h0 = 27) : Met l yX3_isDue (.code yX3_isDue cX3_isDue 3 (some .boolean) :: tWS) (tRm 1 21) (va_Pc [.ref h0, .int x1, .int x2] (tPre G τ)) (tQp (fun r => (0 ≤ r.toInt ∧ r.toInt ≤ 1) ∧ (r.toInt = 0 ∨ (0 ≤ x1.toInt ∧ x1.toInt ≤ 23)))) 0 0 tNo := by
  refine tc_met (by decide) (Nat.le_of_ble_eq_true rfl) ?_
  intro p e s m below meth c E hSt hr hlk hG ls hl
  have hl : lv_has ls 3 [(0, .ref h0), (1, .int x1), (2, .int x2)] := hl
  have hx := E.1
  have hb := E.2.1
  obtain ⟨H, eH⟩ : ∃ H, H = s.heap := ⟨_, rfl⟩
  obtain ⟨locs, eL⟩ : ∃ x : List Loc, x = [] := ⟨_, rfl⟩
  have hG : tGH G τ s H locs := by rw [eH, eL]; exact hG
  suffices hW : W p l e (tRm 1 21) s m ([.ref h0, .int x1, .int x2] : List Value).toArray below meth c H locs 0 0 (MQ below (tQp (fun r => (0 ≤ r.toInt ∧ r.toInt ≤ 1) ∧ (r.toInt = 0 ∨ (0 ≤ x1.toInt ∧ x1.toInt ≤ 23)))) ([.ref h0, .int x1, .int x2] : List Value).toArray s 0 0 tNo) (F0 m 0 ls []) by subst eH; subst eL; exact hW
  refine lv_aload_n hx hb dX3_isDue_0 rfl (lv_at hl 0 rfl) ?_
  refine tc_getrS E hG t0 frc_X3_9 dX3_isDue_1 (fun oa1 hoa1 fv2 => ?_)
  have fv2 := fv2 _ rfl
  refine lv_iload_n hx hb dX3_isDue_4 rfl (lv_at hl 1 rfl) ?_
  refine tc_callp (tc_runV (As := [.int x1]) (rest := []) E hSt hG (c_X8_has_c l G τ oa1 x1 hoa1) hoa1 rv_26 kv_X8_has ml_X3_80 ⟨rfl, rfl, Nat.le_of_ble_eq_true rfl, Nat.le_of_ble_eq_true rfl⟩ rfl hl.1 rfl (Nat.le_of_ble_eq_true rfl) ⟨Nat.zero_le _, Nat.zero_le _⟩ dX3_isDue_5) (fun r3 pr3 => ?_)
  have pr3 : (0 ≤ r3.toInt ∧ r3.toInt ≤ 1) ∧ (r3.toInt = 0 ∨ (0 ≤ x1.toInt ∧ x1.toInt ≤ 23)) := pr3
  refine lv_if_eq (tgt := 54) hx hb dX3_isDue_8 (by decide) (fun c4 => ?_) (fun c4 => ?_)
  · skip
    have ic4 := tn_eq rfl kI_0 c4
    refine lv_iconst (v := 0) hx hb dX3_isDue_54 (by decide) ?_
    exact tc_pret E hr hlk eH eL (t_nz (by decide) (by decide)).1 (show (0 ≤ (0 : Int32).toInt ∧ (0 : Int32).toInt ≤ 1) ∧ ((0 : Int32).toInt = 0 ∨ (0 ≤ x1.toInt ∧ x1.toInt ≤ 23)) by have kk := kI_0; omega) dX3_isDue_55
  · skip
    have ic4 := tn_ne rfl kI_0 c4
    refine lv_aload_n hx hb dX3_isDue_11 rfl (lv_at hl 0 rfl) ?_
    refine tc_seen E ff_X3_9 fv2 dX3_isDue_12 ?_
    refine tc_getiS E hG hoa1 fic_X3_48 dX3_isDue_15 (fun z5 lz5 uz5 fv6 => ?_)
    have fv6 := fv6 _ rfl
    refine lv_aload_n hx hb dX3_isDue_18 rfl (lv_at hl 0 rfl) ?_
    refine tc_seen E ff_X3_9 fv2 dX3_isDue_19 ?_
    refine tc_getiS E hG hoa1 fic_X3_51 dX3_isDue_22 (fun z7 lz7 uz7 fv8 => ?_)
    have fv8 := fv8 _ rfl
    refine lv_iand hx hb dX3_isDue_25 ?_
    refine lv_topi (fun z9 ez9 => ?_)
    refine lv_iload_n hx hb dX3_isDue_26 rfl (lv_at hl 1 rfl) ?_
    refine lv_iushr hx hb dX3_isDue_27 rfl ?_
    refine lv_topi (fun z10 ez10 => ?_)
    refine lv_iconst (v := 1) hx hb dX3_isDue_28 (by decide) ?_
    refine lv_iand hx hb dX3_isDue_29 ?_
    refine lv_topi (fun z11 ez11 => ?_)
    refine lv_iconst (v := 1) hx hb dX3_isDue_30 (by decide) ?_
    refine lv_icmp_ne (tgt := 54) hx hb dX3_isDue_31 (by decide) (fun c12 => ?_) (fun c12 => ?_)
    · skip
      have ic12 := tn_ne rfl kI_1 c12
      refine lv_iconst (v := 0) hx hb dX3_isDue_54 (by decide) ?_
      exact tc_pret E hr hlk eH eL (t_nz (by decide) (by decide)).1 (show (0 ≤ (0 : Int32).toInt ∧ (0 : Int32).toInt ≤ 1) ∧ ((0 : Int32).toInt = 0 ∨ (0 ≤ x1.toInt ∧ x1.toInt ≤ 23)) by have kk := kI_0; omega) dX3_isDue_55
    · skip
      have ic12 := tn_eq rfl kI_1 c12
      refine lv_aload_n hx hb dX3_isDue_34 rfl (lv_at hl 0 rfl) ?_
      refine tc_seen E ff_X3_9 fv2 dX3_isDue_35 ?_
      refine tc_getrS E hG hoa1 frc_X3_34 dX3_isDue_38 (fun oa13 hoa13 fv14 => ?_)
      have fv14 := fv14 _ rfl
      refine lv_iload_n hx hb dX3_isDue_41 rfl (lv_at hl 1 rfl) ?_
      refine tc_aald3S E hG hoa13 ta_34 (t_in (by omega) (by omega)) dX3_isDue_42 (fun oa15 hoa15 fv16 => ?_)
      refine tc_getiS E hG hoa15 fik_X3_84 dX3_isDue_43 (fun z17 lz17 uz17 fv18 => ?_)
      have fv18 := fv18 _ rfl
      refine lv_iload_n hx hb dX3_isDue_46 rfl (lv_at hl 2 rfl) ?_
      refine lv_icmp_ne (tgt := 54) hx hb dX3_isDue_47 (by decide) (fun c19 => ?_) (fun c19 => ?_)
      · skip
        have ic19 := tn_ne rfl rfl c19
        refine lv_iconst (v := 0) hx hb dX3_isDue_54 (by decide) ?_
        exact tc_pret E hr hlk eH eL (t_nz (by decide) (by decide)).1 (show (0 ≤ (0 : Int32).toInt ∧ (0 : Int32).toInt ≤ 1) ∧ ((0 : Int32).toInt = 0 ∨ (0 ≤ x1.toInt ∧ x1.toInt ≤ 23)) by have kk := kI_0; omega) dX3_isDue_55
      · skip
        have ic19 := tn_eq rfl rfl c19
        refine lv_iconst (v := 1) hx hb dX3_isDue_50 (by decide) ?_
        refine lv_goto (tgt := 55) hx hb dX3_isDue_51 (by decide) ?_
        exact tc_pret E hr hlk eH eL (t_nz (by decide) (by decide)).1 (show (0 ≤ (1 : Int32).toInt ∧ (1 : Int32).toInt ≤ 1) ∧ ((1 : Int32).toInt = 0 ∨ (0 ≤ x1.toInt ∧ x1.toInt ≤ 23)) by have kk := kI_1; omega) dX3_isDue_55

set_option maxHeartbeats 4000000 in
set_option maxRecDepth 100000 in
theorem c_X3_layText_c (l : Launch) (G : tG) (τ : Nat → Nat) (h0 : Nat) (h1 : Nat) (t0 : τ h0 = 27) (t1 : τ h1 = 31) : Met l yX3_layText (.code yX3_layText cX3_layText 7 none :: tWS) (tRm 2 44) (va_Pc [.ref h0, .ref h1] (tPre G τ)) (tQv G τ) 0 0 (tA τ) := by
  refine tc_met (by decide) (Nat.le_of_ble_eq_true rfl) ?_
  intro p e s m below meth c E hSt hr hlk hG ls hl
  have hl : lv_has ls 7 [(0, .ref h0), (1, .ref h1)] := hl
  have hx := E.1
  have hb := E.2.1
  obtain ⟨H, eH⟩ : ∃ H, H = s.heap := ⟨_, rfl⟩
  obtain ⟨locs, eL⟩ : ∃ x : List Loc, x = [] := ⟨_, rfl⟩
  have hG : tGH G τ s H locs := by rw [eH, eL]; exact hG
  suffices hW : W p l e (tRm 2 44) s m ([.ref h0, .ref h1] : List Value).toArray below meth c H locs 0 0 (MQ below (tQv G τ) ([.ref h0, .ref h1] : List Value).toArray s 0 0 (tA τ)) (F0 m 0 ls []) by subst eH; subst eL; exact hW
  clear eH eL
  have J10 : ∀ (n10 : Nat) (H : Heap) (locs : List Loc) (ls : Array Slot) (v2 : Int32) (v3 : Int32) (v4 : Int32) (v5 : Int32), tGH G τ s H locs → lv_has ls 7 [(1, .ref h1), (2, .int v2), (3, .int v3), (4, .int v4), (5, .int v5)] → 0 ≤ v2.toInt → 0 ≤ v5.toInt → (2147483647 - v5.toInt).toNat < n10 → W p l e (tRm 2 44) s m ([.ref h0, .ref h1] : List Value).toArray below meth c H locs 0 0 (MQ below (tQv G τ) ([.ref h0, .ref h1] : List Value).toArray s 0 0 (tA τ)) (F0 m 10 ls []) := by
    intro n10
    induction n10 with
    | zero => intro H locs ls v2 v3 v4 v5 hG hl b2 b5 hn10; exact absurd hn10 (Nat.not_lt_zero _)
    | succ n10 ih10 =>
      intro H locs ls v2 v3 v4 v5 hG hl b2 b5 hn10
      have J74 : ∀ (H : Heap) (locs : List Loc) (ls : Array Slot) (v2 : Int32) (v3 : Int32) (v4 : Int32) (v5 : Int32), tGH G τ s H locs → lv_has ls 7 [(1, .ref h1), (2, .int v2), (3, .int v3), (4, .int v4), (5, .int v5)] → 0 ≤ v2.toInt → 0 ≤ v5.toInt → v5.toInt ≤ 2147483646 → (2147483647 - v5.toInt).toNat < n10 + 1 → W p l e (tRm 2 44) s m ([.ref h0, .ref h1] : List Value).toArray below meth c H locs 0 0 (MQ below (tQv G τ) ([.ref h0, .ref h1] : List Value).toArray s 0 0 (tA τ)) (F0 m 74 ls []) := by
        intro H locs ls v2 v3 v4 v5 hG hl b2 b5 c5 hm10
        refine lv_iload_n hx hb dX3_layText_74 rfl (lv_at hl 1 rfl) ?_
        refine lv_iload hx hb dX3_layText_75 (lv_at hl 3 rfl) ?_
        refine tc_max (rest := []) E hl.1 ml_X3_155 kn_max1 kn_math kn_max2 ⟨Nat.le_of_ble_eq_true rfl, Nat.le_of_ble_eq_true rfl⟩ ⟨Nat.zero_le _, Nat.zero_le _⟩ dX3_layText_77 (fun z1 ez1 => ?_)
        have tz1 := tn_max ez1
        refine lv_istore_n (lv' := [(2, .int z1), (1, .ref h1), (3, .int v3), (4, .int v4), (5, .int v5)]) hx hb dX3_layText_80 rfl hl (by decide) rfl (fun ls hl => ?_)
        obtain ⟨z2, ez2⟩ : ∃ y : Int32, y = v5 + (1) := ⟨_, rfl⟩
        refine lv_iinc (v := z2) (lv' := [(5, .int z2), (2, .int z1), (1, .ref h1), (3, .int v3), (4, .int v4)]) hx hb dX3_layText_81 hl (k := 4) rfl (by rw [ez2]; rfl) (by decide) rfl (fun ls hl => ?_)
        have tz2 := tn_add ez2 rfl kI_1 (by omega) (by omega)
        refine lv_goto (tgt := 10) hx hb dX3_layText_84 (by decide) ?_
        exact ih10 H locs ls z1 v3 v4 z2 hG (lv_sub hl [2, 1, 3, 4, 0] rfl) (by omega) (by omega) (by omega)
      have J67 : ∀ (H : Heap) (locs : List Loc) (ls : Array Slot) (v2 : Int32) (v3 : Int32) (v5 : Int32) (v6 : Int32), tGH G τ s H locs → lv_has ls 7 [(1, .ref h1), (2, .int v2), (3, .int v3), (5, .int v5), (6, .int v6)] → 0 ≤ v2.toInt → 0 ≤ v5.toInt → v5.toInt ≤ 2147483646 → (2147483647 - v5.toInt).toNat < n10 + 1 → W p l e (tRm 2 44) s m ([.ref h0, .ref h1] : List Value).toArray below meth c H locs 0 0 (MQ below (tQv G τ) ([.ref h0, .ref h1] : List Value).toArray s 0 0 (tA τ)) (F0 m 67 ls []) := by
        intro H locs ls v2 v3 v5 v6 hG hl b2 b5 c5 hm10
        refine lv_iload hx hb dX3_layText_67 (lv_at hl 4 rfl) ?_
        refine lv_istore (lv' := [(4, .int v6), (1, .ref h1), (2, .int v2), (3, .int v3), (5, .int v5), (6, .int v6)]) hx hb dX3_layText_69 hl (by decide) rfl (fun ls hl => ?_)
        obtain ⟨z3, ez3⟩ : ∃ y : Int32, y = v3 + (1) := ⟨_, rfl⟩
        refine lv_iinc (v := z3) (lv' := [(3, .int z3), (4, .int v6), (1, .ref h1), (2, .int v2), (5, .int v5), (6, .int v6)]) hx hb dX3_layText_71 hl (k := 3) rfl (by rw [ez3]; rfl) (by decide) rfl (fun ls hl => ?_)
        exact J74 H locs ls v2 z3 v6 v5 hG (lv_sub hl [2, 3, 0, 1, 4] rfl) (by omega) (by omega) (by omega) (by omega)
      refine lv_iload hx hb dX3_layText_10 (lv_at hl 4 rfl) ?_
      refine lv_aload_n hx hb dX3_layText_12 rfl (lv_at hl 0 rfl) ?_
      refine tc_getr E hG t1 frk_X3_111 dX3_layText_13 (fun oa4 hoa4 => ?_)
      refine lv_iconst (v := 0) hx hb dX3_layText_16 (by decide) ?_
      refine tc_iald E hG hoa4 ta_32 (t_in (by decide) (by decide)) dX3_layText_17 (fun z5 lz5 uz5 => ?_)
      refine lv_icmp_ge (tgt := 87) hx hb dX3_layText_18 (by decide) (fun c6 => ?_) (fun c6 => ?_)
      · skip
        have ic6 := tn_le rfl rfl c6
        have y7 := t_any2 v5
        have y8 := t_any1 z5
        have y9 := t_any2 z5
        refine lv_aload_n hx hb dX3_layText_87 rfl (lv_at hl 0 rfl) ?_
        refine tc_getr E hG t1 frk_X3_57 dX3_layText_88 (fun oa10 hoa10 => ?_)
        refine lv_iload_n hx hb dX3_layText_91 rfl (lv_at hl 1 rfl) ?_
        refine lv_iconst (v := 2) hx hb dX3_layText_92 (by decide) ?_
        refine lv_iload_n hx hb dX3_layText_93 rfl (lv_at hl 2 rfl) ?_
        refine lv_imul hx hb dX3_layText_94 ?_
        refine lv_topi (fun z11 ez11 => ?_)
        refine tc_callv hG (tc_runV (As := [.int v2, .int z11]) (rest := []) E hSt hG (c_X2_sizeTo l G τ oa10 v2 z11 hoa10) hoa10 rv_4 kv_X2_sizeTo ml_X3_115 ⟨rfl, rfl, Nat.le_of_ble_eq_true rfl, Nat.le_of_ble_eq_true rfl⟩ rfl hl.1 rfl (Nat.le_of_ble_eq_true rfl) ⟨Nat.zero_le _, Nat.zero_le _⟩ dX3_layText_95) (fun H locs hG => ?_)
        refine lv_iload_n hx hb dX3_layText_98 rfl (lv_at hl 2 rfl) ?_
        refine lv_if_le (tgt := 110) hx hb dX3_layText_99 (by decide) (fun c13 => ?_) (fun c13 => ?_)
        · skip
          have ic13 := tn_le rfl kI_0 c13
          have y14 := t_any1 v3
          have y15 := t_any2 v3
          exact tc_vret E hr hlk hG dX3_layText_110
        · skip
          have ic13 := tn_nle rfl kI_0 c13
          have y16 := t_any1 v3
          have y17 := t_any2 v3
          refine lv_aload_n hx hb dX3_layText_102 rfl (lv_at hl 0 rfl) ?_
          refine tc_getr E hG t1 frk_X3_57 dX3_layText_103 (fun oa18 hoa18 => ?_)
          refine lv_iconst (v := 1) hx hb dX3_layText_106 (by decide) ?_
          refine tc_puti E hG hoa18 fp_X3_160 (t_any1 _) (t_any2 _) dX3_layText_107 (fun H locs hG => ?_)
          exact tc_vret E hr hlk hG dX3_layText_110
      · skip
        have ic6 := tn_nle rfl rfl c6
        have y19 := t_any2 v5
        have y20 := t_any1 z5
        have y21 := t_any2 z5
        refine lv_aload_n hx hb dX3_layText_21 rfl (lv_at hl 0 rfl) ?_
        refine tc_getr E hG t1 frk_X3_111 dX3_layText_22 (fun oa22 hoa22 => ?_)
        refine lv_iconst (v := 1) hx hb dX3_layText_25 (by decide) ?_
        refine tc_iald E hG hoa22 ta_32 (t_in (by decide) (by decide)) dX3_layText_26 (fun z23 lz23 uz23 => ?_)
        refine lv_iload hx hb dX3_layText_27 (lv_at hl 4 rfl) ?_
        refine tc_callp (tc_runS (As := [.int z23, .int v5]) (rest := []) E hSt hG (c_X3_wordWide l G τ z23 v5) ks_X3_wordWide ml_X3_151 ⟨rfl, rfl, Nat.le_of_ble_eq_true rfl, Nat.le_of_ble_eq_true rfl⟩ rfl hl.1 rfl (Nat.le_of_ble_eq_true rfl) ⟨Nat.zero_le _, Nat.zero_le _⟩ dX3_layText_29) (fun r24 pr24 => ?_)
        refine lv_istore (lv' := [(6, .int r24), (1, .ref h1), (2, .int v2), (3, .int v3), (4, .int v4), (5, .int v5)]) hx hb dX3_layText_32 hl (by decide) rfl (fun ls hl => ?_)
        refine lv_iload_n hx hb dX3_layText_34 rfl (lv_at hl 3 rfl) ?_
        refine lv_if_le (tgt := 67) hx hb dX3_layText_35 (by decide) (fun c25 => ?_) (fun c25 => ?_)
        · skip
          have ic25 := tn_le rfl kI_0 c25
          have y26 := t_any1 v3
          have y27 := t_any2 v3
          exact J67 H locs ls v2 v3 v5 r24 hG (lv_sub hl [1, 2, 3, 5, 0] rfl) (by omega) (by omega) (by omega) (by omega)
        · skip
          have ic25 := tn_nle rfl kI_0 c25
          have y28 := t_any1 v3
          have y29 := t_any2 v3
          refine lv_iload hx hb dX3_layText_38 (lv_at hl 4 rfl) ?_
          refine lv_iconst (v := 1) hx hb dX3_layText_40 (by decide) ?_
          refine lv_iadd hx hb dX3_layText_41 ?_
          refine lv_topi (fun z30 ez30 => ?_)
          refine lv_iload hx hb dX3_layText_42 (lv_at hl 0 rfl) ?_
          refine lv_iadd hx hb dX3_layText_44 ?_
          refine lv_topi (fun z31 ez31 => ?_)
          refine lv_aload_n hx hb dX3_layText_45 rfl (lv_at hl 1 rfl) ?_
          refine tc_getr E hG t1 frk_X3_57 dX3_layText_46 (fun oa32 hoa32 => ?_)
          refine tc_geti E hG hoa32 fi_X3_68 dX3_layText_49 (fun z33 lz33 uz33 => ?_)
          refine lv_icmp_gt (tgt := 67) hx hb dX3_layText_52 (by decide) (fun c34 => ?_) (fun c34 => ?_)
          · skip
            have ic34 := tn_lt rfl rfl c34
            have y35 := t_any1 z31
            have y36 := t_any2 z31
            have y37 := t_any1 z33
            have y38 := t_any2 z33
            exact J67 H locs ls v2 v3 v5 r24 hG (lv_sub hl [1, 2, 3, 5, 0] rfl) (by omega) (by omega) (by omega) (by omega)
          · skip
            have ic34 := tn_nlt rfl rfl c34
            have y39 := t_any1 z31
            have y40 := t_any2 z31
            have y41 := t_any1 z33
            have y42 := t_any2 z33
            refine lv_iload hx hb dX3_layText_55 (lv_at hl 4 rfl) ?_
            refine lv_iconst (v := 1) hx hb dX3_layText_57 (by decide) ?_
            refine lv_iload hx hb dX3_layText_58 (lv_at hl 0 rfl) ?_
            refine lv_iadd hx hb dX3_layText_60 ?_
            refine lv_topi (fun z43 ez43 => ?_)
            refine lv_iadd hx hb dX3_layText_61 ?_
            refine lv_topi (fun z44 ez44 => ?_)
            refine lv_istore (lv' := [(4, .int z44), (6, .int r24), (1, .ref h1), (2, .int v2), (3, .int v3), (5, .int v5)]) hx hb dX3_layText_62 hl (by decide) rfl (fun ls hl => ?_)
            refine lv_goto (tgt := 74) hx hb dX3_layText_64 (by decide) ?_
            exact J74 H locs ls v2 v3 z44 v5 hG (lv_sub hl [2, 3, 4, 0, 5] rfl) (by omega) (by omega) (by omega) (by omega)
  refine lv_iconst (v := 0) hx hb dX3_layText_0 (by decide) ?_
  refine lv_istore_n (lv' := [(2, .int 0), (0, .ref h0), (1, .ref h1)]) hx hb dX3_layText_1 rfl hl (by decide) rfl (fun ls hl => ?_)
  refine lv_iconst (v := 0) hx hb dX3_layText_2 (by decide) ?_
  refine lv_istore_n (lv' := [(3, .int 0), (2, .int 0), (0, .ref h0), (1, .ref h1)]) hx hb dX3_layText_3 rfl hl (by decide) rfl (fun ls hl => ?_)
  refine lv_iconst (v := 0) hx hb dX3_layText_4 (by decide) ?_
  refine lv_istore (lv' := [(4, .int 0), (3, .int 0), (2, .int 0), (0, .ref h0), (1, .ref h1)]) hx hb dX3_layText_5 hl (by decide) rfl (fun ls hl => ?_)
  refine lv_iconst (v := 0) hx hb dX3_layText_7 (by decide) ?_
  refine lv_istore (lv' := [(5, .int 0), (4, .int 0), (3, .int 0), (2, .int 0), (0, .ref h0), (1, .ref h1)]) hx hb dX3_layText_8 hl (by decide) rfl (fun ls hl => ?_)
  exact J10 ((2147483647 - (0 : Int32).toInt).toNat + 1) H locs ls (0 : Int32) (0 : Int32) (0 : Int32) (0 : Int32) hG (lv_sub hl [5, 3, 2, 1, 0] rfl) (by decide) (by decide) (Nat.lt_succ_self _)

set_option maxHeartbeats 4000000 in
set_option maxRecDepth 100000 in
theorem c_X3_hasSharers_c (l : Launch) (G : tG) (τ : Nat → Nat) (h0 : Nat) (h1 : Nat) (t0 : τ h0 = 27) (t1 : τ h1 = 31) : Met l yX3_hasSharers (.code yX3_hasSharers cX3_hasSharers 3 (some .boolean) :: tWS) (tRm 1 22) (va_Pc [.ref h0, .ref h1] (tPre G τ)) (tQp (fun r => 0 ≤ r.toInt ∧ r.toInt ≤ 1)) 0 0 tNo := by
  refine tc_met (by decide) (Nat.le_of_ble_eq_true rfl) ?_
  intro p e s m below meth c E hSt hr hlk hG ls hl
  have hl : lv_has ls 3 [(0, .ref h0), (1, .ref h1)] := hl
  have hx := E.1
  have hb := E.2.1
  obtain ⟨H, eH⟩ : ∃ H, H = s.heap := ⟨_, rfl⟩
  obtain ⟨locs, eL⟩ : ∃ x : List Loc, x = [] := ⟨_, rfl⟩
  have hG : tGH G τ s H locs := by rw [eH, eL]; exact hG
  suffices hW : W p l e (tRm 1 22) s m ([.ref h0, .ref h1] : List Value).toArray below meth c H locs 0 0 (MQ below (tQp (fun r => 0 ≤ r.toInt ∧ r.toInt ≤ 1)) ([.ref h0, .ref h1] : List Value).toArray s 0 0 tNo) (F0 m 0 ls []) by subst eH; subst eL; exact hW
  have J2 : ∀ (n2 : Nat) (ls : Array Slot) (v2 : Int32), lv_has ls 3 [(0, .ref h0), (1, .ref h1), (2, .int v2)] → 0 ≤ v2.toInt → v2.toInt ≤ 8 → (8 - v2.toInt).toNat < n2 → W p l e (tRm 1 22) s m ([.ref h0, .ref h1] : List Value).toArray below meth c H locs 0 0 (MQ below (tQp (fun r => 0 ≤ r.toInt ∧ r.toInt ≤ 1)) ([.ref h0, .ref h1] : List Value).toArray s 0 0 tNo) (F0 m 2 ls []) := by
    intro n2
    induction n2 with
    | zero => intro ls v2 hl b2 c2 hn2; exact absurd hn2 (Nat.not_lt_zero _)
    | succ n2 ih2 =>
      intro ls v2 hl b2 c2 hn2
      refine lv_iload_n hx hb dX3_hasSharers_2 rfl (lv_at hl 2 rfl) ?_
      refine lv_aload_n hx hb dX3_hasSharers_3 rfl (lv_at hl 1 rfl) ?_
      refine tc_geti E hG t1 fik_X3_144 dX3_hasSharers_4 (fun z1 lz1 uz1 => ?_)
      refine lv_icmp_ge (tgt := 33) hx hb dX3_hasSharers_7 (by decide) (fun c2 => ?_) (fun c2 => ?_)
      · skip
        have ic2 := tn_le rfl rfl c2
        refine lv_iconst (v := 0) hx hb dX3_hasSharers_33 (by decide) ?_
        exact tc_pret E hr hlk eH eL (t_nz (by decide) (by decide)).1 (show 0 ≤ (0 : Int32).toInt ∧ (0 : Int32).toInt ≤ 1 by have kk := kI_0; omega) dX3_hasSharers_34
      · skip
        have ic2 := tn_nle rfl rfl c2
        refine lv_aload_n hx hb dX3_hasSharers_10 rfl (lv_at hl 0 rfl) ?_
        refine tc_getr E hG t0 frc_X3_9 dX3_hasSharers_11 (fun oa3 hoa3 => ?_)
        refine lv_aload_n hx hb dX3_hasSharers_14 rfl (lv_at hl 1 rfl) ?_
        refine lv_iload_n hx hb dX3_hasSharers_15 rfl (lv_at hl 2 rfl) ?_
        refine tc_callpr (tc_runV (As := [.ref h1, .int v2]) (rest := []) E hSt hG (c_X8_kidOf_c l G τ oa3 h1 v2 hoa3 t1 (by omega) (by omega)) hoa3 rv_26 kv_X8_kidOf ml_X3_147 ⟨rfl, rfl, Nat.le_of_ble_eq_true rfl, Nat.le_of_ble_eq_true rfl⟩ rfl hl.1 rfl (Nat.le_of_ble_eq_true rfl) ⟨Nat.zero_le _, Nat.zero_le _⟩ dX3_hasSharers_16) (fun r4 pr4 => ?_)
        refine tc_geti E hG pr4 fik_X3_234 dX3_hasSharers_19 (fun z5 _ _ => ?_)
        refine lv_if_le (tgt := 27) hx hb dX3_hasSharers_22 (by decide) (fun c6 => ?_) (fun c6 => ?_)
        · skip
          have ic6 := tn_le rfl kI_0 c6
          obtain ⟨z7, ez7⟩ : ∃ y : Int32, y = v2 + (1) := ⟨_, rfl⟩
          refine lv_iinc (v := z7) (lv' := [(2, .int z7), (0, .ref h0), (1, .ref h1)]) hx hb dX3_hasSharers_27 hl (k := 2) rfl (by rw [ez7]; rfl) (by decide) rfl (fun ls hl => ?_)
          have tz7 := tn_add ez7 rfl kI_1 (by omega) (by omega)
          refine lv_goto (tgt := 2) hx hb dX3_hasSharers_30 (by decide) ?_
          exact ih2 ls z7 (lv_sub hl [1, 2, 0] rfl) (by omega) (by omega) (by omega)
        · skip
          have ic6 := tn_nle rfl kI_0 c6
          refine lv_iconst (v := 1) hx hb dX3_hasSharers_25 (by decide) ?_
          exact tc_pret E hr hlk eH eL (t_nz (by decide) (by decide)).1 (show 0 ≤ (1 : Int32).toInt ∧ (1 : Int32).toInt ≤ 1 by have kk := kI_1; omega) dX3_hasSharers_26
  refine lv_iconst (v := 0) hx hb dX3_hasSharers_0 (by decide) ?_
  refine lv_istore_n (lv' := [(2, .int 0), (0, .ref h0), (1, .ref h1)]) hx hb dX3_hasSharers_1 rfl hl (by decide) rfl (fun ls hl => ?_)
  exact J2 ((8 - (0 : Int32).toInt).toNat + 1) ls (0 : Int32) (lv_sub hl [1, 2, 0] rfl) (by decide) (by decide) (Nat.lt_succ_self _)

set_option maxHeartbeats 4000000 in
set_option maxRecDepth 100000 in
theorem c_X3_shareOut_c (l : Launch) (G : tG) (τ : Nat → Nat) (h0 : Nat) (h1 : Nat) (x2 : Int32) (t0 : τ h0 = 27) (t1 : τ h1 = 31) : Met l yX3_shareOut (.code yX3_shareOut cX3_shareOut 8 none :: tWS) (tRm 1 22) (va_Pc [.ref h0, .ref h1, .int x2] (tPre G τ)) (tQv G τ) 0 0 (tA τ) := by
  refine tc_met (by decide) (Nat.le_of_ble_eq_true rfl) ?_
  intro p e s m below meth c E hSt hr hlk hG ls hl
  have hl : lv_has ls 8 [(0, .ref h0), (1, .ref h1), (2, .int x2)] := hl
  have hx := E.1
  have hb := E.2.1
  obtain ⟨H, eH⟩ : ∃ H, H = s.heap := ⟨_, rfl⟩
  obtain ⟨locs, eL⟩ : ∃ x : List Loc, x = [] := ⟨_, rfl⟩
  have hG : tGH G τ s H locs := by rw [eH, eL]; exact hG
  suffices hW : W p l e (tRm 1 22) s m ([.ref h0, .ref h1, .int x2] : List Value).toArray below meth c H locs 0 0 (MQ below (tQv G τ) ([.ref h0, .ref h1, .int x2] : List Value).toArray s 0 0 (tA τ)) (F0 m 0 ls []) by subst eH; subst eL; exact hW
  clear eH eL
  have J153 : ∀ (n153 : Nat) (H : Heap) (locs : List Loc) (ls : Array Slot) (v5 : Int32) (v6 : Int32), tGH G τ s H locs → lv_has ls 8 [(0, .ref h0), (1, .ref h1), (5, .int v5), (6, .int v6)] → 0 ≤ v6.toInt → v6.toInt ≤ 8 → (8 - v6.toInt).toNat < n153 → W p l e (tRm 1 22) s m ([.ref h0, .ref h1, .int x2] : List Value).toArray below meth c H locs 0 0 (MQ below (tQv G τ) ([.ref h0, .ref h1, .int x2] : List Value).toArray s 0 0 (tA τ)) (F0 m 153 ls []) := by
    intro n153
    induction n153 with
    | zero => intro H locs ls v5 v6 hG hl b6 c6 hn153; exact absurd hn153 (Nat.not_lt_zero _)
    | succ n153 ih153 =>
      intro H locs ls v5 v6 hG hl b6 c6 hn153
      have J201 : ∀ (H : Heap) (locs : List Loc) (ls : Array Slot) (v5 : Int32) (v6 : Int32), tGH G τ s H locs → lv_has ls 8 [(0, .ref h0), (1, .ref h1), (5, .int v5), (6, .int v6)] → 0 ≤ v5.toInt → 0 ≤ v6.toInt → v6.toInt ≤ 7 → (8 - v6.toInt).toNat < n153 + 1 → W p l e (tRm 1 22) s m ([.ref h0, .ref h1, .int x2] : List Value).toArray below meth c H locs 0 0 (MQ below (tQv G τ) ([.ref h0, .ref h1, .int x2] : List Value).toArray s 0 0 (tA τ)) (F0 m 201 ls []) := by
        intro H locs ls v5 v6 hG hl b5 b6 c6 hm153
        obtain ⟨z1, ez1⟩ : ∃ y : Int32, y = v6 + (1) := ⟨_, rfl⟩
        refine lv_iinc (v := z1) (lv' := [(6, .int z1), (0, .ref h0), (1, .ref h1), (5, .int v5)]) hx hb dX3_shareOut_201 hl (k := 3) rfl (by rw [ez1]; rfl) (by decide) rfl (fun ls hl => ?_)
        have tz1 := tn_add ez1 rfl kI_1 (by omega) (by omega)
        refine lv_goto (tgt := 153) hx hb dX3_shareOut_204 (by decide) ?_
        exact ih153 H locs ls v5 z1 hG (lv_sub hl [1, 2, 3, 0] rfl) (by omega) (by omega) (by omega)
      refine lv_iload hx hb dX3_shareOut_153 (lv_at hl 3 rfl) ?_
      refine lv_aload_n hx hb dX3_shareOut_155 rfl (lv_at hl 1 rfl) ?_
      refine tc_geti E hG t1 fik_X3_144 dX3_shareOut_156 (fun z2 lz2 uz2 => ?_)
      refine lv_icmp_ge (tgt := 207) hx hb dX3_shareOut_159 (by decide) (fun c3 => ?_) (fun c3 => ?_)
      · skip
        have ic3 := tn_le rfl rfl c3
        exact tc_vret E hr hlk hG dX3_shareOut_207
      · skip
        have ic3 := tn_nle rfl rfl c3
        refine lv_iload hx hb dX3_shareOut_162 (lv_at hl 2 rfl) ?_
        refine lv_if_le (tgt := 207) hx hb dX3_shareOut_164 (by decide) (fun c4 => ?_) (fun c4 => ?_)
        · skip
          have ic4 := tn_le rfl kI_0 c4
          exact tc_vret E hr hlk hG dX3_shareOut_207
        · skip
          have ic4 := tn_nle rfl kI_0 c4
          refine lv_aload_n hx hb dX3_shareOut_167 rfl (lv_at hl 0 rfl) ?_
          refine tc_getr E hG t0 frc_X3_9 dX3_shareOut_168 (fun oa5 hoa5 => ?_)
          refine lv_aload_n hx hb dX3_shareOut_171 rfl (lv_at hl 1 rfl) ?_
          refine lv_iload hx hb dX3_shareOut_172 (lv_at hl 3 rfl) ?_
          refine tc_callpr (tc_runV (As := [.ref h1, .int v6]) (rest := []) E hSt hG (c_X8_kidOf_c l G τ oa5 h1 v6 hoa5 t1 (by omega) (by omega)) hoa5 rv_26 kv_X8_kidOf ml_X3_147 ⟨rfl, rfl, Nat.le_of_ble_eq_true rfl, Nat.le_of_ble_eq_true rfl⟩ rfl hl.1 rfl (Nat.le_of_ble_eq_true rfl) ⟨Nat.zero_le _, Nat.zero_le _⟩ dX3_shareOut_174) (fun r6 pr6 => ?_)
          refine lv_astore (lv' := [(7, .ref r6), (0, .ref h0), (1, .ref h1), (5, .int v5), (6, .int v6)]) hx hb dX3_shareOut_177 hl (by decide) rfl (fun ls hl => ?_)
          refine lv_aload hx hb dX3_shareOut_179 (lv_at hl 0 rfl) ?_
          refine tc_geti E hG pr6 fik_X3_250 dX3_shareOut_181 (fun z7 lz7 uz7 => ?_)
          refine lv_if_ne (tgt := 201) hx hb dX3_shareOut_184 (by decide) (fun c8 => ?_) (fun c8 => ?_)
          · skip
            have ic8 := tn_ne rfl kI_0 c8
            exact J201 H locs ls v5 v6 hG (lv_sub hl [1, 2, 3, 4] rfl) (by omega) (by omega) (by omega) (by omega)
          · skip
            have ic8 := tn_eq rfl kI_0 c8
            refine lv_aload hx hb dX3_shareOut_187 (lv_at hl 0 rfl) ?_
            refine lv_dup hx hb dX3_shareOut_189 rfl ?_
            refine tc_geti E hG pr6 fik_X3_247 dX3_shareOut_190 (fun z9 _ _ => ?_)
            refine lv_iconst (v := 1) hx hb dX3_shareOut_193 (by decide) ?_
            refine lv_iadd hx hb dX3_shareOut_194 ?_
            refine lv_topi (fun z10 ez10 => ?_)
            refine tc_puti E hG pr6 fpk_X3_247 (t_any1 _) (t_any2 _) dX3_shareOut_195 (fun H locs hG => ?_)
            obtain ⟨z11, ez11⟩ : ∃ y : Int32, y = v5 + (-1) := ⟨_, rfl⟩
            refine lv_iinc (v := z11) (lv' := [(5, .int z11), (7, .ref r6), (0, .ref h0), (1, .ref h1), (6, .int v6)]) hx hb dX3_shareOut_198 hl (k := 3) rfl (by rw [ez11]; rfl) (by decide) rfl (fun ls hl => ?_)
            have y12 := t_any2 v5
            have tz11 := tn_add ez11 rfl kI_m1 (by omega) (by omega)
            exact J201 H locs ls z11 v6 hG (lv_sub hl [2, 3, 0, 4] rfl) (by omega) (by omega) (by omega) (by omega)
  have J89 : ∀ (n89 : Nat) (H : Heap) (locs : List Loc) (ls : Array Slot) (v3 : Int32) (v4 : Int32) (v5 : Int32) (v6 : Int32), tGH G τ s H locs → lv_has ls 8 [(0, .ref h0), (1, .ref h1), (3, .int v3), (4, .int v4), (5, .int v5), (6, .int v6)] → 0 ≤ v3.toInt → 0 ≤ v6.toInt → v6.toInt ≤ 8 → (8 - v6.toInt).toNat < n89 → W p l e (tRm 1 22) s m ([.ref h0, .ref h1, .int x2] : List Value).toArray below meth c H locs 0 0 (MQ below (tQv G τ) ([.ref h0, .ref h1, .int x2] : List Value).toArray s 0 0 (tA τ)) (F0 m 89 ls []) := by
    intro n89
    induction n89 with
    | zero => intro H locs ls v3 v4 v5 v6 hG hl b3 b6 c6 hn89; exact absurd hn89 (Nat.not_lt_zero _)
    | succ n89 ih89 =>
      intro H locs ls v3 v4 v5 v6 hG hl b3 b6 c6 hn89
      have J144 : ∀ (H : Heap) (locs : List Loc) (ls : Array Slot) (v3 : Int32) (v4 : Int32) (v5 : Int32) (v6 : Int32), tGH G τ s H locs → lv_has ls 8 [(0, .ref h0), (1, .ref h1), (3, .int v3), (4, .int v4), (5, .int v5), (6, .int v6)] → 0 ≤ v3.toInt → 0 ≤ v6.toInt → v6.toInt ≤ 7 → (8 - v6.toInt).toNat < n89 + 1 → W p l e (tRm 1 22) s m ([.ref h0, .ref h1, .int x2] : List Value).toArray below meth c H locs 0 0 (MQ below (tQv G τ) ([.ref h0, .ref h1, .int x2] : List Value).toArray s 0 0 (tA τ)) (F0 m 144 ls []) := by
        intro H locs ls v3 v4 v5 v6 hG hl b3 b6 c6 hm89
        obtain ⟨z13, ez13⟩ : ∃ y : Int32, y = v6 + (1) := ⟨_, rfl⟩
        refine lv_iinc (v := z13) (lv' := [(6, .int z13), (0, .ref h0), (1, .ref h1), (3, .int v3), (4, .int v4), (5, .int v5)]) hx hb dX3_shareOut_144 hl (k := 5) rfl (by rw [ez13]; rfl) (by decide) rfl (fun ls hl => ?_)
        have tz13 := tn_add ez13 rfl kI_1 (by omega) (by omega)
        refine lv_goto (tgt := 89) hx hb dX3_shareOut_147 (by decide) ?_
        exact ih89 H locs ls v3 v4 v5 z13 hG (lv_sub hl [1, 2, 3, 4, 5, 0] rfl) (by omega) (by omega) (by omega) (by omega)
      refine lv_iload hx hb dX3_shareOut_89 (lv_at hl 5 rfl) ?_
      refine lv_aload_n hx hb dX3_shareOut_91 rfl (lv_at hl 1 rfl) ?_
      refine tc_geti E hG t1 fik_X3_144 dX3_shareOut_92 (fun z14 lz14 uz14 => ?_)
      refine lv_icmp_ge (tgt := 150) hx hb dX3_shareOut_95 (by decide) (fun c15 => ?_) (fun c15 => ?_)
      · skip
        have ic15 := tn_le rfl rfl c15
        refine lv_iconst (v := 0) hx hb dX3_shareOut_150 (by decide) ?_
        refine lv_istore (lv' := [(6, .int 0), (0, .ref h0), (1, .ref h1), (3, .int v3), (4, .int v4), (5, .int v5)]) hx hb dX3_shareOut_151 hl (by decide) rfl (fun ls hl => ?_)
        exact J153 ((8 - (0 : Int32).toInt).toNat + 1) H locs ls v5 (0 : Int32) hG (lv_sub hl [1, 2, 5, 0] rfl) (by decide) (by decide) (Nat.lt_succ_self _)
      · skip
        have ic15 := tn_nle rfl rfl c15
        refine lv_aload_n hx hb dX3_shareOut_98 rfl (lv_at hl 0 rfl) ?_
        refine tc_getr E hG t0 frc_X3_9 dX3_shareOut_99 (fun oa16 hoa16 => ?_)
        refine lv_aload_n hx hb dX3_shareOut_102 rfl (lv_at hl 1 rfl) ?_
        refine lv_iload hx hb dX3_shareOut_103 (lv_at hl 5 rfl) ?_
        refine tc_callpr (tc_runV (As := [.ref h1, .int v6]) (rest := []) E hSt hG (c_X8_kidOf_c l G τ oa16 h1 v6 hoa16 t1 (by omega) (by omega)) hoa16 rv_26 kv_X8_kidOf ml_X3_147 ⟨rfl, rfl, Nat.le_of_ble_eq_true rfl, Nat.le_of_ble_eq_true rfl⟩ rfl hl.1 rfl (Nat.le_of_ble_eq_true rfl) ⟨Nat.zero_le _, Nat.zero_le _⟩ dX3_shareOut_105) (fun r17 pr17 => ?_)
        refine lv_astore (lv' := [(7, .ref r17), (0, .ref h0), (1, .ref h1), (3, .int v3), (4, .int v4), (5, .int v5), (6, .int v6)]) hx hb dX3_shareOut_108 hl (by decide) rfl (fun ls hl => ?_)
        refine lv_aload hx hb dX3_shareOut_110 (lv_at hl 0 rfl) ?_
        refine tc_geti E hG pr17 fik_X3_250 dX3_shareOut_112 (fun z18 lz18 uz18 => ?_)
        refine lv_if_ne (tgt := 144) hx hb dX3_shareOut_115 (by decide) (fun c19 => ?_) (fun c19 => ?_)
        · skip
          have ic19 := tn_ne rfl kI_0 c19
          exact J144 H locs ls v3 v4 v5 v6 hG (lv_sub hl [1, 2, 3, 4, 5, 6] rfl) (by omega) (by omega) (by omega) (by omega)
        · skip
          have ic19 := tn_eq rfl kI_0 c19
          refine lv_aload hx hb dX3_shareOut_118 (lv_at hl 0 rfl) ?_
          refine lv_iload_n hx hb dX3_shareOut_120 rfl (lv_at hl 3 rfl) ?_
          refine lv_aload hx hb dX3_shareOut_121 (lv_at hl 0 rfl) ?_
          refine tc_geti E hG pr17 fik_X3_234 dX3_shareOut_123 (fun z20 _ _ => ?_)
          refine lv_iload hx hb dX3_shareOut_126 (lv_at hl 4 rfl) ?_
          refine tc_callp (tc_runN (As := [.int v3, .int z20, .int v4]) (rest := [.ref r17]) E hSt hG (c_X9_timesBy l G τ v3 z20 v4) ks_X9_timesBy (List.mem_of_getElem? (i := 3) rfl) ⟨rfl, rfl, Nat.le_of_ble_eq_true rfl, Nat.le_of_ble_eq_true rfl⟩ rfl hl.1 rfl (Nat.le_of_ble_eq_true rfl) ⟨Nat.zero_le _, Nat.zero_le _⟩ dX3_shareOut_128) (fun r21 pr21 => ?_)
          refine tc_puti E hG pr17 fpk_X3_247 (t_any1 _) (t_any2 _) dX3_shareOut_131 (fun H locs hG => ?_)
          refine lv_iload hx hb dX3_shareOut_134 (lv_at hl 5 rfl) ?_
          refine lv_aload hx hb dX3_shareOut_136 (lv_at hl 0 rfl) ?_
          refine tc_geti E hG pr17 fik_X3_247 dX3_shareOut_138 (fun z22 _ _ => ?_)
          refine lv_isub hx hb dX3_shareOut_141 ?_
          refine lv_topi (fun z23 ez23 => ?_)
          refine lv_istore (lv' := [(5, .int z23), (7, .ref r17), (0, .ref h0), (1, .ref h1), (3, .int v3), (4, .int v4), (6, .int v6)]) hx hb dX3_shareOut_142 hl (by decide) rfl (fun ls hl => ?_)
          exact J144 H locs ls v3 v4 z23 v6 hG (lv_sub hl [2, 3, 4, 5, 0, 6] rfl) (by omega) (by omega) (by omega) (by omega)
  have J8 : ∀ (n8 : Nat) (H : Heap) (locs : List Loc) (ls : Array Slot) (v3 : Int32) (v4 : Int32) (v5 : Int32), tGH G τ s H locs → lv_has ls 8 [(0, .ref h0), (1, .ref h1), (3, .int v3), (4, .int v4), (5, .int v5)] → 0 ≤ v5.toInt → v5.toInt ≤ 8 → (8 - v5.toInt).toNat < n8 → W p l e (tRm 1 22) s m ([.ref h0, .ref h1, .int x2] : List Value).toArray below meth c H locs 0 0 (MQ below (tQv G τ) ([.ref h0, .ref h1, .int x2] : List Value).toArray s 0 0 (tA τ)) (F0 m 8 ls []) := by
    intro n8
    induction n8 with
    | zero => intro H locs ls v3 v4 v5 hG hl b5 c5 hn8; exact absurd hn8 (Nat.not_lt_zero _)
    | succ n8 ih8 =>
      intro H locs ls v3 v4 v5 hG hl b5 c5 hn8
      have J68 : ∀ (H : Heap) (locs : List Loc) (ls : Array Slot) (v3 : Int32) (v5 : Int32) (vs0 : Int32) (vs1 : Int32), tGH G τ s H locs → lv_has ls 8 [(0, .ref h0), (1, .ref h1), (3, .int v3), (5, .int v5)] → 0 ≤ v5.toInt → v5.toInt ≤ 7 → (8 - v5.toInt).toNat < n8 + 1 → W p l e (tRm 1 22) s m ([.ref h0, .ref h1, .int x2] : List Value).toArray below meth c H locs 0 0 (MQ below (tQv G τ) ([.ref h0, .ref h1, .int x2] : List Value).toArray s 0 0 (tA τ)) (F0 m 68 ls [.int vs1, .int vs0]) := by
        intro H locs ls v3 v5 vs0 vs1 hG hl b5 c5 hm8
        refine lv_iadd hx hb dX3_shareOut_68 ?_
        refine lv_topi (fun z24 ez24 => ?_)
        refine lv_istore (lv' := [(4, .int z24), (0, .ref h0), (1, .ref h1), (3, .int v3), (5, .int v5)]) hx hb dX3_shareOut_69 hl (by decide) rfl (fun ls hl => ?_)
        obtain ⟨z25, ez25⟩ : ∃ y : Int32, y = v5 + (1) := ⟨_, rfl⟩
        refine lv_iinc (v := z25) (lv' := [(5, .int z25), (4, .int z24), (0, .ref h0), (1, .ref h1), (3, .int v3)]) hx hb dX3_shareOut_71 hl (k := 4) rfl (by rw [ez25]; rfl) (by decide) rfl (fun ls hl => ?_)
        have tz25 := tn_add ez25 rfl kI_1 (by omega) (by omega)
        refine lv_goto (tgt := 8) hx hb dX3_shareOut_74 (by decide) ?_
        exact ih8 H locs ls v3 z24 z25 hG (lv_sub hl [2, 3, 4, 1, 0] rfl) (by omega) (by omega) (by omega)
      have J47 : ∀ (H : Heap) (locs : List Loc) (ls : Array Slot) (v4 : Int32) (v5 : Int32) (a6 : Nat) (vs0 : Int32) (vs1 : Int32), tGH G τ s H locs → lv_has ls 8 [(0, .ref h0), (1, .ref h1), (4, .int v4), (5, .int v5), (6, .ref a6)] → 0 ≤ v5.toInt → v5.toInt ≤ 7 → τ a6 = 31 → (8 - v5.toInt).toNat < n8 + 1 → W p l e (tRm 1 22) s m ([.ref h0, .ref h1, .int x2] : List Value).toArray below meth c H locs 0 0 (MQ below (tQv G τ) ([.ref h0, .ref h1, .int x2] : List Value).toArray s 0 0 (tA τ)) (F0 m 47 ls [.int vs1, .int vs0]) := by
        intro H locs ls v4 v5 a6 vs0 vs1 hG hl b5 c5 e6 hm8
        refine lv_isub hx hb dX3_shareOut_47 ?_
        refine lv_topi (fun z26 ez26 => ?_)
        refine lv_istore_n (lv' := [(3, .int z26), (0, .ref h0), (1, .ref h1), (4, .int v4), (5, .int v5), (6, .ref a6)]) hx hb dX3_shareOut_48 rfl hl (by decide) rfl (fun ls hl => ?_)
        refine lv_iload hx hb dX3_shareOut_49 (lv_at hl 3 rfl) ?_
        refine lv_aload hx hb dX3_shareOut_51 (lv_at hl 5 rfl) ?_
        refine tc_geti E hG e6 fik_X3_250 dX3_shareOut_53 (fun z27 lz27 uz27 => ?_)
        refine lv_if_eq (tgt := 63) hx hb dX3_shareOut_56 (by decide) (fun c28 => ?_) (fun c28 => ?_)
        · skip
          have ic28 := tn_eq rfl kI_0 c28
          refine lv_aload hx hb dX3_shareOut_63 (lv_at hl 5 rfl) ?_
          refine tc_geti E hG e6 fik_X3_234 dX3_shareOut_65 (fun z29 _ _ => ?_)
          exact J68 H locs ls z26 v5 v4 z29 hG (lv_sub hl [1, 2, 0, 4] rfl) (by omega) (by omega) (by omega)
        · skip
          have ic28 := tn_ne rfl kI_0 c28
          refine lv_iconst (v := 0) hx hb dX3_shareOut_59 (by decide) ?_
          refine lv_goto (tgt := 68) hx hb dX3_shareOut_60 (by decide) ?_
          exact J68 H locs ls z26 v5 v4 (0 : Int32) hG (lv_sub hl [1, 2, 0, 4] rfl) (by omega) (by omega) (by omega)
      refine lv_iload hx hb dX3_shareOut_8 (lv_at hl 4 rfl) ?_
      refine lv_aload_n hx hb dX3_shareOut_10 rfl (lv_at hl 1 rfl) ?_
      refine tc_geti E hG t1 fik_X3_144 dX3_shareOut_11 (fun z30 lz30 uz30 => ?_)
      refine lv_icmp_ge (tgt := 77) hx hb dX3_shareOut_14 (by decide) (fun c31 => ?_) (fun c31 => ?_)
      · skip
        have ic31 := tn_le rfl rfl c31
        refine lv_iconst (v := 0) hx hb dX3_shareOut_77 (by decide) ?_
        refine lv_iload_n hx hb dX3_shareOut_78 rfl (lv_at hl 2 rfl) ?_
        refine tc_max (rest := []) E hl.1 ml_X3_155 kn_max1 kn_math kn_max2 ⟨Nat.le_of_ble_eq_true rfl, Nat.le_of_ble_eq_true rfl⟩ ⟨Nat.zero_le _, Nat.zero_le _⟩ dX3_shareOut_79 (fun z32 ez32 => ?_)
        have tz32 := tn_max ez32
        have kk33_ := kI_0
        refine lv_istore_n (lv' := [(3, .int z32), (0, .ref h0), (1, .ref h1), (4, .int v4), (5, .int v5)]) hx hb dX3_shareOut_82 rfl hl (by decide) rfl (fun ls hl => ?_)
        refine lv_iload_n hx hb dX3_shareOut_83 rfl (lv_at hl 0 rfl) ?_
        refine lv_istore (lv' := [(5, .int z32), (3, .int z32), (0, .ref h0), (1, .ref h1), (4, .int v4)]) hx hb dX3_shareOut_84 hl (by decide) rfl (fun ls hl => ?_)
        refine lv_iconst (v := 0) hx hb dX3_shareOut_86 (by decide) ?_
        refine lv_istore (lv' := [(6, .int 0), (5, .int z32), (3, .int z32), (0, .ref h0), (1, .ref h1), (4, .int v4)]) hx hb dX3_shareOut_87 hl (by decide) rfl (fun ls hl => ?_)
        exact J89 ((8 - (0 : Int32).toInt).toNat + 1) H locs ls z32 v4 z32 (0 : Int32) hG (lv_sub hl [3, 4, 2, 5, 1, 0] rfl) (by omega) (by decide) (by decide) (Nat.lt_succ_self _)
      · skip
        have ic31 := tn_nle rfl rfl c31
        refine lv_aload_n hx hb dX3_shareOut_17 rfl (lv_at hl 0 rfl) ?_
        refine tc_getr E hG t0 frc_X3_9 dX3_shareOut_18 (fun oa34 hoa34 => ?_)
        refine lv_aload_n hx hb dX3_shareOut_21 rfl (lv_at hl 1 rfl) ?_
        refine lv_iload hx hb dX3_shareOut_22 (lv_at hl 4 rfl) ?_
        refine tc_callpr (tc_runV (As := [.ref h1, .int v5]) (rest := []) E hSt hG (c_X8_kidOf_c l G τ oa34 h1 v5 hoa34 t1 (by omega) (by omega)) hoa34 rv_26 kv_X8_kidOf ml_X3_147 ⟨rfl, rfl, Nat.le_of_ble_eq_true rfl, Nat.le_of_ble_eq_true rfl⟩ rfl hl.1 rfl (Nat.le_of_ble_eq_true rfl) ⟨Nat.zero_le _, Nat.zero_le _⟩ dX3_shareOut_24) (fun r35 pr35 => ?_)
        refine lv_astore (lv' := [(6, .ref r35), (0, .ref h0), (1, .ref h1), (3, .int v3), (4, .int v4), (5, .int v5)]) hx hb dX3_shareOut_27 hl (by decide) rfl (fun ls hl => ?_)
        refine lv_iload_n hx hb dX3_shareOut_29 rfl (lv_at hl 3 rfl) ?_
        refine lv_aload hx hb dX3_shareOut_30 (lv_at hl 0 rfl) ?_
        refine tc_geti E hG pr35 fik_X3_250 dX3_shareOut_32 (fun z36 lz36 uz36 => ?_)
        refine lv_if_eq (tgt := 46) hx hb dX3_shareOut_35 (by decide) (fun c37 => ?_) (fun c37 => ?_)
        · skip
          have ic37 := tn_eq rfl kI_0 c37
          refine lv_iconst (v := 0) hx hb dX3_shareOut_46 (by decide) ?_
          exact J47 H locs ls v4 v5 (r35) v3 (0 : Int32) hG (lv_sub hl [1, 2, 4, 5, 0] rfl) (by omega) (by omega) pr35 (by omega)
        · skip
          have ic37 := tn_ne rfl kI_0 c37
          refine lv_aload hx hb dX3_shareOut_38 (lv_at hl 0 rfl) ?_
          refine tc_geti E hG pr35 fik_X3_247 dX3_shareOut_40 (fun z38 _ _ => ?_)
          refine lv_goto (tgt := 47) hx hb dX3_shareOut_43 (by decide) ?_
          exact J47 H locs ls v4 v5 (r35) v3 z38 hG (lv_sub hl [1, 2, 4, 5, 0] rfl) (by omega) (by omega) pr35 (by omega)
  refine lv_iload_n hx hb dX3_shareOut_0 rfl (lv_at hl 2 rfl) ?_
  refine lv_istore_n (lv' := [(3, .int x2), (0, .ref h0), (1, .ref h1), (2, .int x2)]) hx hb dX3_shareOut_1 rfl hl (by decide) rfl (fun ls hl => ?_)
  refine lv_iconst (v := 0) hx hb dX3_shareOut_2 (by decide) ?_
  refine lv_istore (lv' := [(4, .int 0), (3, .int x2), (0, .ref h0), (1, .ref h1), (2, .int x2)]) hx hb dX3_shareOut_3 hl (by decide) rfl (fun ls hl => ?_)
  refine lv_iconst (v := 0) hx hb dX3_shareOut_5 (by decide) ?_
  refine lv_istore (lv' := [(5, .int 0), (4, .int 0), (3, .int x2), (0, .ref h0), (1, .ref h1), (2, .int x2)]) hx hb dX3_shareOut_6 hl (by decide) rfl (fun ls hl => ?_)
  exact J8 ((8 - (0 : Int32).toInt).toNat + 1) H locs ls x2 (0 : Int32) (0 : Int32) hG (lv_sub hl [3, 4, 2, 1, 0] rfl) (by decide) (by decide) (Nat.lt_succ_self _)

set_option maxHeartbeats 4000000 in
set_option maxRecDepth 100000 in
theorem c_X3_freeze_c (l : Launch) (G : tG) (τ : Nat → Nat) (h0 : Nat) (h1 : Nat) (t0 : τ h0 = 27) (t1 : τ h1 = 31) : Met l yX3_freeze (.code yX3_freeze cX3_freeze 7 (some .int) :: tWS) (tRm 1 22) (va_Pc [.ref h0, .ref h1] (tPre G τ)) (tQi G τ (fun r => True)) 0 0 (tA τ) := by
  refine tc_met (by decide) (Nat.le_of_ble_eq_true rfl) ?_
  intro p e s m below meth c E hSt hr hlk hG ls hl
  have hl : lv_has ls 7 [(0, .ref h0), (1, .ref h1)] := hl
  have hx := E.1
  have hb := E.2.1
  obtain ⟨H, eH⟩ : ∃ H, H = s.heap := ⟨_, rfl⟩
  obtain ⟨locs, eL⟩ : ∃ x : List Loc, x = [] := ⟨_, rfl⟩
  have hG : tGH G τ s H locs := by rw [eH, eL]; exact hG
  suffices hW : W p l e (tRm 1 22) s m ([.ref h0, .ref h1] : List Value).toArray below meth c H locs 0 0 (MQ below (tQi G τ (fun r => True)) ([.ref h0, .ref h1] : List Value).toArray s 0 0 (tA τ)) (F0 m 0 ls []) by subst eH; subst eL; exact hW
  clear eH eL
  have J76 : ∀ (n76 : Nat) (H : Heap) (locs : List Loc) (ls : Array Slot) (v2 : Int32) (v3 : Int32) (v4 : Int32), tGH G τ s H locs → lv_has ls 7 [(0, .ref h0), (1, .ref h1), (2, .int v2), (3, .int v3), (4, .int v4)] → 0 ≤ v4.toInt → v4.toInt ≤ 8 → (8 - v4.toInt).toNat < n76 → W p l e (tRm 1 22) s m ([.ref h0, .ref h1] : List Value).toArray below meth c H locs 0 0 (MQ below (tQi G τ (fun r => True)) ([.ref h0, .ref h1] : List Value).toArray s 0 0 (tA τ)) (F0 m 76 ls []) := by
    intro n76
    induction n76 with
    | zero => intro H locs ls v2 v3 v4 hG hl b4 c4 hn76; exact absurd hn76 (Nat.not_lt_zero _)
    | succ n76 ih76 =>
      intro H locs ls v2 v3 v4 hG hl b4 c4 hn76
      have J177 : ∀ (H : Heap) (locs : List Loc) (ls : Array Slot) (v2 : Int32) (v3 : Int32) (v4 : Int32), tGH G τ s H locs → lv_has ls 7 [(0, .ref h0), (1, .ref h1), (2, .int v2), (3, .int v3), (4, .int v4)] → 0 ≤ v4.toInt → v4.toInt ≤ 7 → (8 - v4.toInt).toNat < n76 + 1 → W p l e (tRm 1 22) s m ([.ref h0, .ref h1] : List Value).toArray below meth c H locs 0 0 (MQ below (tQi G τ (fun r => True)) ([.ref h0, .ref h1] : List Value).toArray s 0 0 (tA τ)) (F0 m 177 ls []) := by
        intro H locs ls v2 v3 v4 hG hl b4 c4 hm76
        obtain ⟨z1, ez1⟩ : ∃ y : Int32, y = v4 + (1) := ⟨_, rfl⟩
        refine lv_iinc (v := z1) (lv' := [(4, .int z1), (0, .ref h0), (1, .ref h1), (2, .int v2), (3, .int v3)]) hx hb dX3_freeze_177 hl (k := 4) rfl (by rw [ez1]; rfl) (by decide) rfl (fun ls hl => ?_)
        have tz1 := tn_add ez1 rfl kI_1 (by omega) (by omega)
        refine lv_goto (tgt := 76) hx hb dX3_freeze_180 (by decide) ?_
        exact ih76 H locs ls v2 v3 z1 hG (lv_sub hl [1, 2, 3, 4, 0] rfl) (by omega) (by omega) (by omega)
      have J156 : ∀ (H : Heap) (locs : List Loc) (ls : Array Slot) (v2 : Int32) (v3 : Int32) (v4 : Int32) (a5 : Nat) (v6 : Int32), tGH G τ s H locs → lv_has ls 7 [(0, .ref h0), (1, .ref h1), (2, .int v2), (3, .int v3), (4, .int v4), (5, .ref a5), (6, .int v6)] → 0 ≤ v4.toInt → v4.toInt ≤ 7 → τ a5 = 31 → (8 - v4.toInt).toNat < n76 + 1 → W p l e (tRm 1 22) s m ([.ref h0, .ref h1] : List Value).toArray below meth c H locs 0 0 (MQ below (tQi G τ (fun r => True)) ([.ref h0, .ref h1] : List Value).toArray s 0 0 (tA τ)) (F0 m 156 ls []) := by
        intro H locs ls v2 v3 v4 a5 v6 hG hl b4 c4 e5 hm76
        refine lv_aload hx hb dX3_freeze_156 (lv_at hl 5 rfl) ?_
        refine lv_dup hx hb dX3_freeze_158 rfl ?_
        refine tc_geti E hG e5 fik_X3_247 dX3_freeze_159 (fun z2 _ _ => ?_)
        refine lv_iload hx hb dX3_freeze_162 (lv_at hl 6 rfl) ?_
        refine lv_iadd hx hb dX3_freeze_164 ?_
        refine lv_topi (fun z3 ez3 => ?_)
        refine tc_puti E hG e5 fpk_X3_247 (t_any1 _) (t_any2 _) dX3_freeze_165 (fun H locs hG => ?_)
        refine lv_aload hx hb dX3_freeze_168 (lv_at hl 5 rfl) ?_
        refine lv_iconst (v := 1) hx hb dX3_freeze_170 (by decide) ?_
        refine tc_putz E hG e5 fpk_X3_250 (by decide) (by decide) dX3_freeze_171 (fun H locs hG => ?_)
        obtain ⟨z4, ez4⟩ : ∃ y : Int32, y = v3 + (1) := ⟨_, rfl⟩
        refine lv_iinc (v := z4) (lv' := [(3, .int z4), (0, .ref h0), (1, .ref h1), (2, .int v2), (4, .int v4), (5, .ref a5), (6, .int v6)]) hx hb dX3_freeze_174 hl (k := 3) rfl (by rw [ez4]; rfl) (by decide) rfl (fun ls hl => ?_)
        exact J177 H locs ls v2 z4 v4 hG (lv_sub hl [1, 2, 3, 0, 4] rfl) (by omega) (by omega) (by omega)
      have J147 : ∀ (H : Heap) (locs : List Loc) (ls : Array Slot) (v2 : Int32) (v3 : Int32) (v4 : Int32) (a5 : Nat) (v6 : Int32), tGH G τ s H locs → lv_has ls 7 [(0, .ref h0), (1, .ref h1), (2, .int v2), (3, .int v3), (4, .int v4), (5, .ref a5), (6, .int v6)] → 0 ≤ v4.toInt → v4.toInt ≤ 7 → τ a5 = 31 → (8 - v4.toInt).toNat < n76 + 1 → W p l e (tRm 1 22) s m ([.ref h0, .ref h1] : List Value).toArray below meth c H locs 0 0 (MQ below (tQi G τ (fun r => True)) ([.ref h0, .ref h1] : List Value).toArray s 0 0 (tA τ)) (F0 m 147 ls []) := by
        intro H locs ls v2 v3 v4 a5 v6 hG hl b4 c4 e5 hm76
        refine lv_iload_n hx hb dX3_freeze_147 rfl (lv_at hl 2 rfl) ?_
        refine lv_if_ge (tgt := 177) hx hb dX3_freeze_148 (by decide) (fun c5 => ?_) (fun c5 => ?_)
        · skip
          have ic5 := tn_le kI_0 rfl c5
          exact J177 H locs ls v2 v3 v4 hG (lv_sub hl [0, 1, 2, 3, 4] rfl) (by omega) (by omega) (by omega)
        · skip
          have ic5 := tn_nle kI_0 rfl c5
          refine lv_iload hx hb dX3_freeze_151 (lv_at hl 6 rfl) ?_
          refine lv_if_ge (tgt := 177) hx hb dX3_freeze_153 (by decide) (fun c6 => ?_) (fun c6 => ?_)
          · skip
            have ic6 := tn_le kI_0 rfl c6
            exact J177 H locs ls v2 v3 v4 hG (lv_sub hl [0, 1, 2, 3, 4] rfl) (by omega) (by omega) (by omega)
          · skip
            have ic6 := tn_nle kI_0 rfl c6
            exact J156 H locs ls v2 v3 v4 (a5) v6 hG (lv_sub hl [0, 1, 2, 3, 4, 5, 6] rfl) (by omega) (by omega) e5 (by omega)
      refine lv_iload hx hb dX3_freeze_76 (lv_at hl 4 rfl) ?_
      refine lv_aload_n hx hb dX3_freeze_78 rfl (lv_at hl 1 rfl) ?_
      refine tc_geti E hG t1 fik_X3_144 dX3_freeze_79 (fun z7 lz7 uz7 => ?_)
      refine lv_icmp_ge (tgt := 183) hx hb dX3_freeze_82 (by decide) (fun c8 => ?_) (fun c8 => ?_)
      · skip
        have ic8 := tn_le rfl rfl c8
        refine lv_iload_n hx hb dX3_freeze_183 rfl (lv_at hl 3 rfl) ?_
        exact tc_iret E hr hlk hG trivial dX3_freeze_184
      · skip
        have ic8 := tn_nle rfl rfl c8
        refine lv_aload_n hx hb dX3_freeze_85 rfl (lv_at hl 0 rfl) ?_
        refine tc_getr E hG t0 frc_X3_9 dX3_freeze_86 (fun oa9 hoa9 => ?_)
        refine lv_aload_n hx hb dX3_freeze_89 rfl (lv_at hl 1 rfl) ?_
        refine lv_iload hx hb dX3_freeze_90 (lv_at hl 4 rfl) ?_
        refine tc_callpr (tc_runV (As := [.ref h1, .int v4]) (rest := []) E hSt hG (c_X8_kidOf_c l G τ oa9 h1 v4 hoa9 t1 (by omega) (by omega)) hoa9 rv_26 kv_X8_kidOf ml_X3_147 ⟨rfl, rfl, Nat.le_of_ble_eq_true rfl, Nat.le_of_ble_eq_true rfl⟩ rfl hl.1 rfl (Nat.le_of_ble_eq_true rfl) ⟨Nat.zero_le _, Nat.zero_le _⟩ dX3_freeze_92) (fun r10 pr10 => ?_)
        refine lv_astore (lv' := [(5, .ref r10), (0, .ref h0), (1, .ref h1), (2, .int v2), (3, .int v3), (4, .int v4)]) hx hb dX3_freeze_95 hl (by decide) rfl (fun ls hl => ?_)
        refine lv_aload hx hb dX3_freeze_97 (lv_at hl 0 rfl) ?_
        refine tc_geti E hG pr10 fik_X3_247 dX3_freeze_99 (fun z11 _ _ => ?_)
        refine lv_aload hx hb dX3_freeze_102 (lv_at hl 0 rfl) ?_
        refine tc_geti E hG pr10 fik_X3_237 dX3_freeze_104 (fun z12 _ _ => ?_)
        refine lv_aload hx hb dX3_freeze_107 (lv_at hl 0 rfl) ?_
        refine tc_geti E hG pr10 fik_X3_240 dX3_freeze_109 (fun z13 _ _ => ?_)
        refine tc_callp (tc_runS (As := [.int z13]) (rest := [.int z12, .int z11]) E hSt hG (c_X0_orNoEnd l G τ z13) ks_X0_orNoEnd ml_X3_183 ⟨rfl, rfl, Nat.le_of_ble_eq_true rfl, Nat.le_of_ble_eq_true rfl⟩ rfl hl.1 rfl (Nat.le_of_ble_eq_true rfl) ⟨Nat.zero_le _, Nat.zero_le _⟩ dX3_freeze_112) (fun r14 pr14 => ?_)
        refine tc_callp (tc_runN (As := [.int z11, .int z12, .int r14]) (rest := []) E hSt hG (c_X9_held l G τ z11 z12 r14) ks_X9_held (List.mem_of_getElem? (i := 2) rfl) ⟨rfl, rfl, Nat.le_of_ble_eq_true rfl, Nat.le_of_ble_eq_true rfl⟩ rfl hl.1 rfl (Nat.le_of_ble_eq_true rfl) ⟨Nat.zero_le _, Nat.zero_le _⟩ dX3_freeze_115) (fun r15 pr15 => ?_)
        refine lv_aload hx hb dX3_freeze_118 (lv_at hl 0 rfl) ?_
        refine tc_geti E hG pr10 fik_X3_247 dX3_freeze_120 (fun z16 _ _ => ?_)
        refine lv_isub hx hb dX3_freeze_123 ?_
        refine lv_topi (fun z17 ez17 => ?_)
        refine lv_istore (lv' := [(6, .int z17), (5, .ref r10), (0, .ref h0), (1, .ref h1), (2, .int v2), (3, .int v3), (4, .int v4)]) hx hb dX3_freeze_124 hl (by decide) rfl (fun ls hl => ?_)
        refine lv_aload hx hb dX3_freeze_126 (lv_at hl 1 rfl) ?_
        refine tc_geti E hG pr10 fik_X3_250 dX3_freeze_128 (fun z18 lz18 uz18 => ?_)
        refine lv_if_ne (tgt := 177) hx hb dX3_freeze_131 (by decide) (fun c19 => ?_) (fun c19 => ?_)
        · skip
          have ic19 := tn_ne rfl kI_0 c19
          exact J177 H locs ls v2 v3 v4 hG (lv_sub hl [2, 3, 4, 5, 6] rfl) (by omega) (by omega) (by omega)
        · skip
          have ic19 := tn_eq rfl kI_0 c19
          refine lv_iload_n hx hb dX3_freeze_134 rfl (lv_at hl 4 rfl) ?_
          refine lv_if_eq (tgt := 156) hx hb dX3_freeze_135 (by decide) (fun c20 => ?_) (fun c20 => ?_)
          · skip
            have ic20 := tn_eq rfl kI_0 c20
            exact J156 H locs ls v2 v3 v4 (r10) z17 hG (lv_sub hl [2, 3, 4, 5, 6, 1, 0] rfl) (by omega) (by omega) pr10 (by omega)
          · skip
            have ic20 := tn_ne rfl kI_0 c20
            refine lv_iload_n hx hb dX3_freeze_138 rfl (lv_at hl 4 rfl) ?_
            refine lv_if_le (tgt := 147) hx hb dX3_freeze_139 (by decide) (fun c21 => ?_) (fun c21 => ?_)
            · skip
              have ic21 := tn_le rfl kI_0 c21
              exact J147 H locs ls v2 v3 v4 (r10) z17 hG (lv_sub hl [2, 3, 4, 5, 6, 1, 0] rfl) (by omega) (by omega) pr10 (by omega)
            · skip
              have ic21 := tn_nle rfl kI_0 c21
              refine lv_iload hx hb dX3_freeze_142 (lv_at hl 0 rfl) ?_
              refine lv_if_gt (tgt := 156) hx hb dX3_freeze_144 (by decide) (fun c22 => ?_) (fun c22 => ?_)
              · skip
                have ic22 := tn_lt kI_0 rfl c22
                exact J156 H locs ls v2 v3 v4 (r10) z17 hG (lv_sub hl [2, 3, 4, 5, 6, 1, 0] rfl) (by omega) (by omega) pr10 (by omega)
              · skip
                have ic22 := tn_nlt kI_0 rfl c22
                exact J147 H locs ls v2 v3 v4 (r10) z17 hG (lv_sub hl [2, 3, 4, 5, 6, 1, 0] rfl) (by omega) (by omega) pr10 (by omega)
  have J4 : ∀ (n4 : Nat) (H : Heap) (locs : List Loc) (ls : Array Slot) (v2 : Int32) (v3 : Int32), tGH G τ s H locs → lv_has ls 7 [(0, .ref h0), (1, .ref h1), (2, .int v2), (3, .int v3)] → 0 ≤ v3.toInt → v3.toInt ≤ 8 → (8 - v3.toInt).toNat < n4 → W p l e (tRm 1 22) s m ([.ref h0, .ref h1] : List Value).toArray below meth c H locs 0 0 (MQ below (tQi G τ (fun r => True)) ([.ref h0, .ref h1] : List Value).toArray s 0 0 (tA τ)) (F0 m 4 ls []) := by
    intro n4
    induction n4 with
    | zero => intro H locs ls v2 v3 hG hl b3 c3 hn4; exact absurd hn4 (Nat.not_lt_zero _)
    | succ n4 ih4 =>
      intro H locs ls v2 v3 hG hl b3 c3 hn4
      have J63 : ∀ (H : Heap) (locs : List Loc) (ls : Array Slot) (v3 : Int32) (vs0 : Int32) (vs1 : Int32), tGH G τ s H locs → lv_has ls 7 [(0, .ref h0), (1, .ref h1), (3, .int v3)] → 0 ≤ v3.toInt → v3.toInt ≤ 7 → (8 - v3.toInt).toNat < n4 + 1 → W p l e (tRm 1 22) s m ([.ref h0, .ref h1] : List Value).toArray below meth c H locs 0 0 (MQ below (tQi G τ (fun r => True)) ([.ref h0, .ref h1] : List Value).toArray s 0 0 (tA τ)) (F0 m 63 ls [.int vs1, .int vs0]) := by
        intro H locs ls v3 vs0 vs1 hG hl b3 c3 hm4
        refine lv_iadd hx hb dX3_freeze_63 ?_
        refine lv_topi (fun z23 ez23 => ?_)
        refine lv_istore_n (lv' := [(2, .int z23), (0, .ref h0), (1, .ref h1), (3, .int v3)]) hx hb dX3_freeze_64 rfl hl (by decide) rfl (fun ls hl => ?_)
        obtain ⟨z24, ez24⟩ : ∃ y : Int32, y = v3 + (1) := ⟨_, rfl⟩
        refine lv_iinc (v := z24) (lv' := [(3, .int z24), (2, .int z23), (0, .ref h0), (1, .ref h1)]) hx hb dX3_freeze_65 hl (k := 3) rfl (by rw [ez24]; rfl) (by decide) rfl (fun ls hl => ?_)
        have tz24 := tn_add ez24 rfl kI_1 (by omega) (by omega)
        refine lv_goto (tgt := 4) hx hb dX3_freeze_68 (by decide) ?_
        exact ih4 H locs ls z23 z24 hG (lv_sub hl [2, 3, 1, 0] rfl) (by omega) (by omega) (by omega)
      refine lv_iload_n hx hb dX3_freeze_4 rfl (lv_at hl 3 rfl) ?_
      refine lv_aload_n hx hb dX3_freeze_5 rfl (lv_at hl 1 rfl) ?_
      refine tc_geti E hG t1 fik_X3_144 dX3_freeze_6 (fun z25 lz25 uz25 => ?_)
      refine lv_icmp_ge (tgt := 71) hx hb dX3_freeze_9 (by decide) (fun c26 => ?_) (fun c26 => ?_)
      · skip
        have ic26 := tn_le rfl rfl c26
        refine lv_iconst (v := 0) hx hb dX3_freeze_71 (by decide) ?_
        refine lv_istore_n (lv' := [(3, .int 0), (0, .ref h0), (1, .ref h1), (2, .int v2)]) hx hb dX3_freeze_72 rfl hl (by decide) rfl (fun ls hl => ?_)
        refine lv_iconst (v := 0) hx hb dX3_freeze_73 (by decide) ?_
        refine lv_istore (lv' := [(4, .int 0), (3, .int 0), (0, .ref h0), (1, .ref h1), (2, .int v2)]) hx hb dX3_freeze_74 hl (by decide) rfl (fun ls hl => ?_)
        exact J76 ((8 - (0 : Int32).toInt).toNat + 1) H locs ls v2 (0 : Int32) (0 : Int32) hG (lv_sub hl [2, 3, 4, 1, 0] rfl) (by decide) (by decide) (Nat.lt_succ_self _)
      · skip
        have ic26 := tn_nle rfl rfl c26
        refine lv_aload_n hx hb dX3_freeze_12 rfl (lv_at hl 0 rfl) ?_
        refine tc_getr E hG t0 frc_X3_9 dX3_freeze_13 (fun oa27 hoa27 => ?_)
        refine lv_aload_n hx hb dX3_freeze_16 rfl (lv_at hl 1 rfl) ?_
        refine lv_iload_n hx hb dX3_freeze_17 rfl (lv_at hl 3 rfl) ?_
        refine tc_callpr (tc_runV (As := [.ref h1, .int v3]) (rest := []) E hSt hG (c_X8_kidOf_c l G τ oa27 h1 v3 hoa27 t1 (by omega) (by omega)) hoa27 rv_26 kv_X8_kidOf ml_X3_147 ⟨rfl, rfl, Nat.le_of_ble_eq_true rfl, Nat.le_of_ble_eq_true rfl⟩ rfl hl.1 rfl (Nat.le_of_ble_eq_true rfl) ⟨Nat.zero_le _, Nat.zero_le _⟩ dX3_freeze_18) (fun r28 pr28 => ?_)
        refine lv_astore (lv' := [(4, .ref r28), (0, .ref h0), (1, .ref h1), (2, .int v2), (3, .int v3)]) hx hb dX3_freeze_21 hl (by decide) rfl (fun ls hl => ?_)
        refine lv_iload_n hx hb dX3_freeze_23 rfl (lv_at hl 3 rfl) ?_
        refine lv_aload hx hb dX3_freeze_24 (lv_at hl 0 rfl) ?_
        refine tc_geti E hG pr28 fik_X3_250 dX3_freeze_26 (fun z29 lz29 uz29 => ?_)
        refine lv_if_eq (tgt := 36) hx hb dX3_freeze_29 (by decide) (fun c30 => ?_) (fun c30 => ?_)
        · skip
          have ic30 := tn_eq rfl kI_0 c30
          refine lv_aload hx hb dX3_freeze_36 (lv_at hl 0 rfl) ?_
          refine tc_geti E hG pr28 fik_X3_247 dX3_freeze_38 (fun z31 _ _ => ?_)
          refine lv_aload hx hb dX3_freeze_41 (lv_at hl 0 rfl) ?_
          refine tc_geti E hG pr28 fik_X3_237 dX3_freeze_43 (fun z32 _ _ => ?_)
          refine lv_aload hx hb dX3_freeze_46 (lv_at hl 0 rfl) ?_
          refine tc_geti E hG pr28 fik_X3_240 dX3_freeze_48 (fun z33 _ _ => ?_)
          refine tc_callp (tc_runS (As := [.int z33]) (rest := [.int z32, .int z31, .int v2]) E hSt hG (c_X0_orNoEnd l G τ z33) ks_X0_orNoEnd ml_X3_183 ⟨rfl, rfl, Nat.le_of_ble_eq_true rfl, Nat.le_of_ble_eq_true rfl⟩ rfl hl.1 rfl (Nat.le_of_ble_eq_true rfl) ⟨Nat.zero_le _, Nat.zero_le _⟩ dX3_freeze_51) (fun r34 pr34 => ?_)
          refine tc_callp (tc_runN (As := [.int z31, .int z32, .int r34]) (rest := [.int v2]) E hSt hG (c_X9_held l G τ z31 z32 r34) ks_X9_held (List.mem_of_getElem? (i := 2) rfl) ⟨rfl, rfl, Nat.le_of_ble_eq_true rfl, Nat.le_of_ble_eq_true rfl⟩ rfl hl.1 rfl (Nat.le_of_ble_eq_true rfl) ⟨Nat.zero_le _, Nat.zero_le _⟩ dX3_freeze_54) (fun r35 pr35 => ?_)
          refine lv_aload hx hb dX3_freeze_57 (lv_at hl 0 rfl) ?_
          refine tc_geti E hG pr28 fik_X3_247 dX3_freeze_59 (fun z36 _ _ => ?_)
          refine lv_isub hx hb dX3_freeze_62 ?_
          refine lv_topi (fun z37 ez37 => ?_)
          exact J63 H locs ls v3 v2 z37 hG (lv_sub hl [1, 2, 4] rfl) (by omega) (by omega) (by omega)
        · skip
          have ic30 := tn_ne rfl kI_0 c30
          refine lv_iconst (v := 0) hx hb dX3_freeze_32 (by decide) ?_
          refine lv_goto (tgt := 63) hx hb dX3_freeze_33 (by decide) ?_
          exact J63 H locs ls v3 v2 (0 : Int32) hG (lv_sub hl [1, 2, 4] rfl) (by omega) (by omega) (by omega)
  refine lv_iconst (v := 0) hx hb dX3_freeze_0 (by decide) ?_
  refine lv_istore_n (lv' := [(2, .int 0), (0, .ref h0), (1, .ref h1)]) hx hb dX3_freeze_1 rfl hl (by decide) rfl (fun ls hl => ?_)
  refine lv_iconst (v := 0) hx hb dX3_freeze_2 (by decide) ?_
  refine lv_istore_n (lv' := [(3, .int 0), (2, .int 0), (0, .ref h0), (1, .ref h1)]) hx hb dX3_freeze_3 rfl hl (by decide) rfl (fun ls hl => ?_)
  exact J4 ((8 - (0 : Int32).toInt).toNat + 1) H locs ls (0 : Int32) (0 : Int32) hG (lv_sub hl [2, 3, 1, 0] rfl) (by decide) (by decide) (Nat.lt_succ_self _)

set_option maxHeartbeats 4000000 in
set_option maxRecDepth 100000 in
theorem c_X3_roundsOf_c (l : Launch) (G : tG) (τ : Nat → Nat) (h0 : Nat) (h1 : Nat) (x2 : Int32) (t0 : τ h0 = 27) (t1 : τ h1 = 31) : Met l yX3_roundsOf (.code yX3_roundsOf cX3_roundsOf 6 (some .int) :: tWS) (tRm 2 49) (va_Pc [.ref h0, .ref h1, .int x2] (tPre G τ)) (tQi G τ (fun r => True)) 0 0 (tA τ) := by
  refine tc_met (by decide) (Nat.le_of_ble_eq_true rfl) ?_
  intro p e s m below meth c E hSt hr hlk hG ls hl
  have hl : lv_has ls 6 [(0, .ref h0), (1, .ref h1), (2, .int x2)] := hl
  have hx := E.1
  have hb := E.2.1
  obtain ⟨H, eH⟩ : ∃ H, H = s.heap := ⟨_, rfl⟩
  obtain ⟨locs, eL⟩ : ∃ x : List Loc, x = [] := ⟨_, rfl⟩
  have hG : tGH G τ s H locs := by rw [eH, eL]; exact hG
  suffices hW : W p l e (tRm 2 49) s m ([.ref h0, .ref h1, .int x2] : List Value).toArray below meth c H locs 0 0 (MQ below (tQi G τ (fun r => True)) ([.ref h0, .ref h1, .int x2] : List Value).toArray s 0 0 (tA τ)) (F0 m 0 ls []) by subst eH; subst eL; exact hW
  clear eH eL
  have J75 : ∀ (n75 : Nat) (H : Heap) (locs : List Loc) (ls : Array Slot) (v3 : Int32) (v4 : Int32), tGH G τ s H locs → lv_has ls 6 [(0, .ref h0), (1, .ref h1), (2, .int x2), (3, .int v3), (4, .int v4)] → 0 ≤ v4.toInt → v4.toInt ≤ 8 → (8 - v4.toInt).toNat < n75 → W p l e (tRm 2 49) s m ([.ref h0, .ref h1, .int x2] : List Value).toArray below meth c H locs 0 0 (MQ below (tQi G τ (fun r => True)) ([.ref h0, .ref h1, .int x2] : List Value).toArray s 0 0 (tA τ)) (F0 m 75 ls []) := by
    intro n75
    induction n75 with
    | zero => intro H locs ls v3 v4 hG hl b4 c4 hn75; exact absurd hn75 (Nat.not_lt_zero _)
    | succ n75 ih75 =>
      intro H locs ls v3 v4 hG hl b4 c4 hn75
      refine lv_iload hx hb dX3_roundsOf_75 (lv_at hl 4 rfl) ?_
      refine lv_bipush (v := 8) hx hb dX3_roundsOf_77 (by decide) ?_
      refine lv_icmp_ge (tgt := 106) hx hb dX3_roundsOf_79 (by decide) (fun c1 => ?_) (fun c1 => ?_)
      · skip
        have ic1 := tn_le kI_8 rfl c1
        refine lv_iload hx hb dX3_roundsOf_106 (lv_at hl 4 rfl) ?_
        exact tc_iret E hr hlk hG trivial dX3_roundsOf_108
      · skip
        have ic1 := tn_nle kI_8 rfl c1
        refine lv_iload_n hx hb dX3_roundsOf_82 rfl (lv_at hl 3 rfl) ?_
        refine lv_if_le (tgt := 106) hx hb dX3_roundsOf_83 (by decide) (fun c2 => ?_) (fun c2 => ?_)
        · skip
          have ic2 := tn_le rfl kI_0 c2
          refine lv_iload hx hb dX3_roundsOf_106 (lv_at hl 4 rfl) ?_
          exact tc_iret E hr hlk hG trivial dX3_roundsOf_108
        · skip
          have ic2 := tn_nle rfl kI_0 c2
          refine lv_aload_n hx hb dX3_roundsOf_86 rfl (lv_at hl 0 rfl) ?_
          refine lv_aload_n hx hb dX3_roundsOf_87 rfl (lv_at hl 1 rfl) ?_
          refine lv_iload_n hx hb dX3_roundsOf_88 rfl (lv_at hl 2 rfl) ?_
          refine tc_callv hG (tc_runV (As := [.ref h1, .int x2]) (rest := []) E hSt hG (c_X3_shareOut_c l G τ h0 h1 x2 t0 t1) t0 rv_27 kv_X3_shareOut ml_X3_254 ⟨rfl, rfl, Nat.le_of_ble_eq_true rfl, Nat.le_of_ble_eq_true rfl⟩ rfl hl.1 rfl (Nat.le_of_ble_eq_true rfl) ⟨Nat.zero_le _, Nat.zero_le _⟩ dX3_roundsOf_89) (fun H locs hG => ?_)
          refine lv_iload_n hx hb dX3_roundsOf_92 rfl (lv_at hl 3 rfl) ?_
          refine lv_aload_n hx hb dX3_roundsOf_93 rfl (lv_at hl 0 rfl) ?_
          refine lv_aload_n hx hb dX3_roundsOf_94 rfl (lv_at hl 1 rfl) ?_
          refine tc_calli hG (tc_runV (As := [.ref h1]) (rest := [.int v3]) E hSt hG (c_X3_freeze_c l G τ h0 h1 t0 t1) t0 rv_27 kv_X3_freeze ml_X3_257 ⟨rfl, rfl, Nat.le_of_ble_eq_true rfl, Nat.le_of_ble_eq_true rfl⟩ rfl hl.1 rfl (Nat.le_of_ble_eq_true rfl) ⟨Nat.zero_le _, Nat.zero_le _⟩ dX3_roundsOf_95) (fun r4 H locs pr4 hG => ?_)
          refine lv_isub hx hb dX3_roundsOf_98 ?_
          refine lv_topi (fun z5 ez5 => ?_)
          refine lv_istore_n (lv' := [(3, .int z5), (0, .ref h0), (1, .ref h1), (2, .int x2), (4, .int v4)]) hx hb dX3_roundsOf_99 rfl hl (by decide) rfl (fun ls hl => ?_)
          obtain ⟨z6, ez6⟩ : ∃ y : Int32, y = v4 + (1) := ⟨_, rfl⟩
          refine lv_iinc (v := z6) (lv' := [(4, .int z6), (3, .int z5), (0, .ref h0), (1, .ref h1), (2, .int x2)]) hx hb dX3_roundsOf_100 hl (k := 4) rfl (by rw [ez6]; rfl) (by decide) rfl (fun ls hl => ?_)
          have tz6 := tn_add ez6 rfl kI_1 (by omega) (by omega)
          refine lv_goto (tgt := 75) hx hb dX3_roundsOf_103 (by decide) ?_
          exact ih75 H locs ls z5 z6 hG (lv_sub hl [2, 3, 4, 1, 0] rfl) (by omega) (by omega) (by omega)
  have J5 : ∀ (n5 : Nat) (H : Heap) (locs : List Loc) (ls : Array Slot) (v3 : Int32) (v4 : Int32), tGH G τ s H locs → lv_has ls 6 [(0, .ref h0), (1, .ref h1), (2, .int x2), (3, .int v3), (4, .int v4)] → 0 ≤ v4.toInt → v4.toInt ≤ 8 → (8 - v4.toInt).toNat < n5 → W p l e (tRm 2 49) s m ([.ref h0, .ref h1, .int x2] : List Value).toArray below meth c H locs 0 0 (MQ below (tQi G τ (fun r => True)) ([.ref h0, .ref h1, .int x2] : List Value).toArray s 0 0 (tA τ)) (F0 m 5 ls []) := by
    intro n5
    induction n5 with
    | zero => intro H locs ls v3 v4 hG hl b4 c4 hn5; exact absurd hn5 (Nat.not_lt_zero _)
    | succ n5 ih5 =>
      intro H locs ls v3 v4 hG hl b4 c4 hn5
      have J64 : ∀ (H : Heap) (locs : List Loc) (ls : Array Slot) (v4 : Int32) (vs0 : Int32) (vs1 : Int32), tGH G τ s H locs → lv_has ls 6 [(0, .ref h0), (1, .ref h1), (2, .int x2), (4, .int v4)] → 0 ≤ v4.toInt → v4.toInt ≤ 7 → 0 ≤ vs1.toInt → vs1.toInt ≤ 1 → (8 - v4.toInt).toNat < n5 + 1 → W p l e (tRm 2 49) s m ([.ref h0, .ref h1, .int x2] : List Value).toArray below meth c H locs 0 0 (MQ below (tQi G τ (fun r => True)) ([.ref h0, .ref h1, .int x2] : List Value).toArray s 0 0 (tA τ)) (F0 m 64 ls [.int vs1, .int vs0]) := by
        intro H locs ls v4 vs0 vs1 hG hl b4 c4 bs1 cs1 hm5
        refine lv_iadd hx hb dX3_roundsOf_64 ?_
        refine lv_topi (fun z7 ez7 => ?_)
        refine lv_istore_n (lv' := [(3, .int z7), (0, .ref h0), (1, .ref h1), (2, .int x2), (4, .int v4)]) hx hb dX3_roundsOf_65 rfl hl (by decide) rfl (fun ls hl => ?_)
        obtain ⟨z8, ez8⟩ : ∃ y : Int32, y = v4 + (1) := ⟨_, rfl⟩
        refine lv_iinc (v := z8) (lv' := [(4, .int z8), (3, .int z7), (0, .ref h0), (1, .ref h1), (2, .int x2)]) hx hb dX3_roundsOf_66 hl (k := 4) rfl (by rw [ez8]; rfl) (by decide) rfl (fun ls hl => ?_)
        have tz8 := tn_add ez8 rfl kI_1 (by omega) (by omega)
        refine lv_goto (tgt := 5) hx hb dX3_roundsOf_69 (by decide) ?_
        exact ih5 H locs ls z7 z8 hG (lv_sub hl [2, 3, 4, 1, 0] rfl) (by omega) (by omega) (by omega)
      have J47 : ∀ (H : Heap) (locs : List Loc) (ls : Array Slot) (v3 : Int32) (v4 : Int32) (a5 : Nat) (as0 : Nat) (vs1 : Int32), tGH G τ s H locs → lv_has ls 6 [(0, .ref h0), (1, .ref h1), (2, .int x2), (3, .int v3), (4, .int v4), (5, .ref a5)] → 0 ≤ v4.toInt → v4.toInt ≤ 7 → τ a5 = 31 → τ as0 = 31 → 0 ≤ vs1.toInt → vs1.toInt ≤ 1 → (8 - v4.toInt).toNat < n5 + 1 → W p l e (tRm 2 49) s m ([.ref h0, .ref h1, .int x2] : List Value).toArray below meth c H locs 0 0 (MQ below (tQi G τ (fun r => True)) ([.ref h0, .ref h1, .int x2] : List Value).toArray s 0 0 (tA τ)) (F0 m 47 ls [.int vs1, .ref as0]) := by
        intro H locs ls v3 v4 a5 as0 vs1 hG hl b4 c4 e5 es0 bs1 cs1 hm5
        refine tc_putz E hG es0 fpk_X3_250 (by omega) (by omega) dX3_roundsOf_47 (fun H locs hG => ?_)
        refine lv_iload_n hx hb dX3_roundsOf_50 rfl (lv_at hl 3 rfl) ?_
        refine lv_aload hx hb dX3_roundsOf_51 (lv_at hl 5 rfl) ?_
        refine tc_geti E hG e5 fik_X3_250 dX3_roundsOf_53 (fun z9 lz9 uz9 => ?_)
        refine lv_if_eq (tgt := 63) hx hb dX3_roundsOf_56 (by decide) (fun c10 => ?_) (fun c10 => ?_)
        · skip
          have ic10 := tn_eq rfl kI_0 c10
          refine lv_iconst (v := 1) hx hb dX3_roundsOf_63 (by decide) ?_
          exact J64 H locs ls v4 v3 (1 : Int32) hG (lv_sub hl [0, 1, 2, 4] rfl) (by omega) (by omega) (by decide) (by decide) (by omega)
        · skip
          have ic10 := tn_ne rfl kI_0 c10
          refine lv_iconst (v := 0) hx hb dX3_roundsOf_59 (by decide) ?_
          refine lv_goto (tgt := 64) hx hb dX3_roundsOf_60 (by decide) ?_
          exact J64 H locs ls v4 v3 (0 : Int32) hG (lv_sub hl [0, 1, 2, 4] rfl) (by omega) (by omega) (by decide) (by decide) (by omega)
      refine lv_iload hx hb dX3_roundsOf_5 (lv_at hl 4 rfl) ?_
      refine lv_aload_n hx hb dX3_roundsOf_7 rfl (lv_at hl 1 rfl) ?_
      refine tc_geti E hG t1 fik_X3_144 dX3_roundsOf_8 (fun z11 lz11 uz11 => ?_)
      refine lv_icmp_ge (tgt := 72) hx hb dX3_roundsOf_11 (by decide) (fun c12 => ?_) (fun c12 => ?_)
      · skip
        have ic12 := tn_le rfl rfl c12
        refine lv_iconst (v := 0) hx hb dX3_roundsOf_72 (by decide) ?_
        refine lv_istore (lv' := [(4, .int 0), (0, .ref h0), (1, .ref h1), (2, .int x2), (3, .int v3)]) hx hb dX3_roundsOf_73 hl (by decide) rfl (fun ls hl => ?_)
        exact J75 ((8 - (0 : Int32).toInt).toNat + 1) H locs ls v3 (0 : Int32) hG (lv_sub hl [1, 2, 3, 4, 0] rfl) (by decide) (by decide) (Nat.lt_succ_self _)
      · skip
        have ic12 := tn_nle rfl rfl c12
        refine lv_aload_n hx hb dX3_roundsOf_14 rfl (lv_at hl 0 rfl) ?_
        refine tc_getr E hG t0 frc_X3_9 dX3_roundsOf_15 (fun oa13 hoa13 => ?_)
        refine lv_aload_n hx hb dX3_roundsOf_18 rfl (lv_at hl 1 rfl) ?_
        refine lv_iload hx hb dX3_roundsOf_19 (lv_at hl 4 rfl) ?_
        refine tc_callpr (tc_runV (As := [.ref h1, .int v4]) (rest := []) E hSt hG (c_X8_kidOf_c l G τ oa13 h1 v4 hoa13 t1 (by omega) (by omega)) hoa13 rv_26 kv_X8_kidOf ml_X3_147 ⟨rfl, rfl, Nat.le_of_ble_eq_true rfl, Nat.le_of_ble_eq_true rfl⟩ rfl hl.1 rfl (Nat.le_of_ble_eq_true rfl) ⟨Nat.zero_le _, Nat.zero_le _⟩ dX3_roundsOf_21) (fun r14 pr14 => ?_)
        refine lv_astore (lv' := [(5, .ref r14), (0, .ref h0), (1, .ref h1), (2, .int x2), (3, .int v3), (4, .int v4)]) hx hb dX3_roundsOf_24 hl (by decide) rfl (fun ls hl => ?_)
        refine lv_aload hx hb dX3_roundsOf_26 (lv_at hl 0 rfl) ?_
        refine lv_iconst (v := 0) hx hb dX3_roundsOf_28 (by decide) ?_
        refine tc_puti E hG pr14 fpk_X3_247 (t_any1 _) (t_any2 _) dX3_roundsOf_29 (fun H locs hG => ?_)
        refine lv_aload hx hb dX3_roundsOf_32 (lv_at hl 0 rfl) ?_
        refine lv_aload hx hb dX3_roundsOf_34 (lv_at hl 0 rfl) ?_
        refine tc_geti E hG pr14 fik_X3_234 dX3_roundsOf_36 (fun z15 _ _ => ?_)
        refine lv_if_ne (tgt := 46) hx hb dX3_roundsOf_39 (by decide) (fun c16 => ?_) (fun c16 => ?_)
        · skip
          have ic16 := tn_ne rfl kI_0 c16
          refine lv_iconst (v := 0) hx hb dX3_roundsOf_46 (by decide) ?_
          exact J47 H locs ls v3 v4 (r14) (r14) (0 : Int32) hG (lv_sub hl [1, 2, 3, 4, 5, 0] rfl) (by omega) (by omega) pr14 pr14 (by decide) (by decide) (by omega)
        · skip
          have ic16 := tn_eq rfl kI_0 c16
          refine lv_iconst (v := 1) hx hb dX3_roundsOf_42 (by decide) ?_
          refine lv_goto (tgt := 47) hx hb dX3_roundsOf_43 (by decide) ?_
          exact J47 H locs ls v3 v4 (r14) (r14) (1 : Int32) hG (lv_sub hl [1, 2, 3, 4, 5, 0] rfl) (by omega) (by omega) pr14 pr14 (by decide) (by decide) (by omega)
  refine lv_iconst (v := 0) hx hb dX3_roundsOf_0 (by decide) ?_
  refine lv_istore_n (lv' := [(3, .int 0), (0, .ref h0), (1, .ref h1), (2, .int x2)]) hx hb dX3_roundsOf_1 rfl hl (by decide) rfl (fun ls hl => ?_)
  refine lv_iconst (v := 0) hx hb dX3_roundsOf_2 (by decide) ?_
  refine lv_istore (lv' := [(4, .int 0), (3, .int 0), (0, .ref h0), (1, .ref h1), (2, .int x2)]) hx hb dX3_roundsOf_3 hl (by decide) rfl (fun ls hl => ?_)
  exact J5 ((8 - (0 : Int32).toInt).toNat + 1) H locs ls (0 : Int32) (0 : Int32) hG (lv_sub hl [2, 3, 4, 1, 0] rfl) (by decide) (by decide) (Nat.lt_succ_self _)

set_option maxHeartbeats 4000000 in
set_option maxRecDepth 100000 in
theorem c_X3_greatestAcross_c (l : Launch) (G : tG) (τ : Nat → Nat) (h0 : Nat) (h1 : Nat) (x2 : Int32) (t0 : τ h0 = 27) (t1 : τ h1 = 31) (l2 : 0 ≤ x2.toInt) (u2 : x2.toInt ≤ 1) : Met l yX3_greatestAcross (.code yX3_greatestAcross cX3_greatestAcross 6 (some .int) :: tWS) (tRm 1 22) (va_Pc [.ref h0, .ref h1, .int x2] (tPre G τ)) (tQp (fun r => True)) 0 0 tNo := by
  refine tc_met (by decide) (Nat.le_of_ble_eq_true rfl) ?_
  intro p e s m below meth c E hSt hr hlk hG ls hl
  have hl : lv_has ls 6 [(0, .ref h0), (1, .ref h1), (2, .int x2)] := hl
  have hx := E.1
  have hb := E.2.1
  obtain ⟨H, eH⟩ : ∃ H, H = s.heap := ⟨_, rfl⟩
  obtain ⟨locs, eL⟩ : ∃ x : List Loc, x = [] := ⟨_, rfl⟩
  have hG : tGH G τ s H locs := by rw [eH, eL]; exact hG
  suffices hW : W p l e (tRm 1 22) s m ([.ref h0, .ref h1, .int x2] : List Value).toArray below meth c H locs 0 0 (MQ below (tQp (fun r => True)) ([.ref h0, .ref h1, .int x2] : List Value).toArray s 0 0 tNo) (F0 m 0 ls []) by subst eH; subst eL; exact hW
  have J5 : ∀ (n5 : Nat) (ls : Array Slot) (v3 : Int32) (v4 : Int32), lv_has ls 6 [(0, .ref h0), (1, .ref h1), (2, .int x2), (3, .int v3), (4, .int v4)] → 0 ≤ v3.toInt → 0 ≤ v4.toInt → v4.toInt ≤ 8 → (8 - v4.toInt).toNat < n5 → W p l e (tRm 1 22) s m ([.ref h0, .ref h1, .int x2] : List Value).toArray below meth c H locs 0 0 (MQ below (tQp (fun r => True)) ([.ref h0, .ref h1, .int x2] : List Value).toArray s 0 0 tNo) (F0 m 5 ls []) := by
    intro n5
    induction n5 with
    | zero => intro ls v3 v4 hl b3 b4 c4 hn5; exact absurd hn5 (Nat.not_lt_zero _)
    | succ n5 ih5 =>
      intro ls v3 v4 hl b3 b4 c4 hn5
      have J47 : ∀ (ls : Array Slot) (v4 : Int32) (vs0 : Int32) (vs1 : Int32), lv_has ls 6 [(0, .ref h0), (1, .ref h1), (2, .int x2), (4, .int v4)] → 0 ≤ v4.toInt → v4.toInt ≤ 7 → 0 ≤ vs0.toInt → (8 - v4.toInt).toNat < n5 + 1 → W p l e (tRm 1 22) s m ([.ref h0, .ref h1, .int x2] : List Value).toArray below meth c H locs 0 0 (MQ below (tQp (fun r => True)) ([.ref h0, .ref h1, .int x2] : List Value).toArray s 0 0 tNo) (F0 m 47 ls [.int vs1, .int vs0]) := by
        intro ls v4 vs0 vs1 hl b4 c4 bs0 hm5
        refine tc_max (rest := []) E hl.1 ml_X3_155 kn_max1 kn_math kn_max2 ⟨Nat.le_of_ble_eq_true rfl, Nat.le_of_ble_eq_true rfl⟩ ⟨Nat.zero_le _, Nat.zero_le _⟩ dX3_greatestAcross_47 (fun z1 ez1 => ?_)
        have tz1 := tn_max ez1
        refine lv_istore_n (lv' := [(3, .int z1), (0, .ref h0), (1, .ref h1), (2, .int x2), (4, .int v4)]) hx hb dX3_greatestAcross_50 rfl hl (by decide) rfl (fun ls hl => ?_)
        obtain ⟨z2, ez2⟩ : ∃ y : Int32, y = v4 + (1) := ⟨_, rfl⟩
        refine lv_iinc (v := z2) (lv' := [(4, .int z2), (3, .int z1), (0, .ref h0), (1, .ref h1), (2, .int x2)]) hx hb dX3_greatestAcross_51 hl (k := 4) rfl (by rw [ez2]; rfl) (by decide) rfl (fun ls hl => ?_)
        have tz2 := tn_add ez2 rfl kI_1 (by omega) (by omega)
        refine lv_goto (tgt := 5) hx hb dX3_greatestAcross_54 (by decide) ?_
        exact ih5 ls z1 z2 (lv_sub hl [2, 3, 4, 1, 0] rfl) (by omega) (by omega) (by omega) (by omega)
      refine lv_iload hx hb dX3_greatestAcross_5 (lv_at hl 4 rfl) ?_
      refine lv_aload_n hx hb dX3_greatestAcross_7 rfl (lv_at hl 1 rfl) ?_
      refine tc_geti E hG t1 fik_X3_144 dX3_greatestAcross_8 (fun z3 lz3 uz3 => ?_)
      refine lv_icmp_ge (tgt := 57) hx hb dX3_greatestAcross_11 (by decide) (fun c4 => ?_) (fun c4 => ?_)
      · skip
        have ic4 := tn_le rfl rfl c4
        refine lv_iload_n hx hb dX3_greatestAcross_57 rfl (lv_at hl 3 rfl) ?_
        exact tc_pret E hr hlk eH eL rfl trivial dX3_greatestAcross_58
      · skip
        have ic4 := tn_nle rfl rfl c4
        refine lv_aload_n hx hb dX3_greatestAcross_14 rfl (lv_at hl 0 rfl) ?_
        refine tc_getr E hG t0 frc_X3_9 dX3_greatestAcross_15 (fun oa5 hoa5 => ?_)
        refine lv_aload_n hx hb dX3_greatestAcross_18 rfl (lv_at hl 1 rfl) ?_
        refine lv_iload hx hb dX3_greatestAcross_19 (lv_at hl 4 rfl) ?_
        refine tc_callpr (tc_runV (As := [.ref h1, .int v4]) (rest := []) E hSt hG (c_X8_kidOf_c l G τ oa5 h1 v4 hoa5 t1 (by omega) (by omega)) hoa5 rv_26 kv_X8_kidOf ml_X3_147 ⟨rfl, rfl, Nat.le_of_ble_eq_true rfl, Nat.le_of_ble_eq_true rfl⟩ rfl hl.1 rfl (Nat.le_of_ble_eq_true rfl) ⟨Nat.zero_le _, Nat.zero_le _⟩ dX3_greatestAcross_21) (fun r6 pr6 => ?_)
        refine tc_getr E hG pr6 frk_X3_57 dX3_greatestAcross_24 (fun oa7 hoa7 => ?_)
        refine lv_astore (lv' := [(5, .ref oa7), (0, .ref h0), (1, .ref h1), (2, .int x2), (3, .int v3), (4, .int v4)]) hx hb dX3_greatestAcross_27 hl (by decide) rfl (fun ls hl => ?_)
        refine lv_iload_n hx hb dX3_greatestAcross_29 rfl (lv_at hl 4 rfl) ?_
        refine lv_iload_n hx hb dX3_greatestAcross_30 rfl (lv_at hl 3 rfl) ?_
        refine lv_if_eq (tgt := 42) hx hb dX3_greatestAcross_31 (by decide) (fun c8 => ?_) (fun c8 => ?_)
        · skip
          have ic8 := tn_eq rfl kI_0 c8
          refine lv_aload hx hb dX3_greatestAcross_42 (lv_at hl 0 rfl) ?_
          refine tc_geti E hG hoa7 fi_X3_173 dX3_greatestAcross_44 (fun z9 _ _ => ?_)
          exact J47 ls v4 v3 z9 (lv_sub hl [1, 2, 3, 5] rfl) (by omega) (by omega) (by omega) (by omega)
        · skip
          have ic8 := tn_ne rfl kI_0 c8
          refine lv_aload hx hb dX3_greatestAcross_34 (lv_at hl 0 rfl) ?_
          refine tc_geti E hG hoa7 fi_X3_176 dX3_greatestAcross_36 (fun z10 _ _ => ?_)
          refine lv_goto (tgt := 47) hx hb dX3_greatestAcross_39 (by decide) ?_
          exact J47 ls v4 v3 z10 (lv_sub hl [1, 2, 3, 5] rfl) (by omega) (by omega) (by omega) (by omega)
  refine lv_iconst (v := 0) hx hb dX3_greatestAcross_0 (by decide) ?_
  refine lv_istore_n (lv' := [(3, .int 0), (0, .ref h0), (1, .ref h1), (2, .int x2)]) hx hb dX3_greatestAcross_1 rfl hl (by decide) rfl (fun ls hl => ?_)
  refine lv_iconst (v := 0) hx hb dX3_greatestAcross_2 (by decide) ?_
  refine lv_istore (lv' := [(4, .int 0), (3, .int 0), (0, .ref h0), (1, .ref h1), (2, .int x2)]) hx hb dX3_greatestAcross_3 hl (by decide) rfl (fun ls hl => ?_)
  exact J5 ((8 - (0 : Int32).toInt).toNat + 1) ls (0 : Int32) (0 : Int32) (lv_sub hl [2, 3, 4, 1, 0] rfl) (by decide) (by decide) (by decide) (Nat.lt_succ_self _)

set_option maxHeartbeats 4000000 in
set_option maxRecDepth 100000 in
theorem c_X3_placeInLine_c (l : Launch) (G : tG) (τ : Nat → Nat) (h0 : Nat) (h1 : Nat) (x2 : Int32) (t0 : τ h0 = 27) (t1 : τ h1 = 31) (l2 : 0 ≤ x2.toInt) (u2 : x2.toInt ≤ 1) : Met l yX3_placeInLine (.code yX3_placeInLine cX3_placeInLine 7 none :: tWS) (tRm 1 22) (va_Pc [.ref h0, .ref h1, .int x2] (tPre G τ)) (tQv G τ) 0 0 (tA τ) := by
  refine tc_met (by decide) (Nat.le_of_ble_eq_true rfl) ?_
  intro p e s m below meth c E hSt hr hlk hG ls hl
  have hl : lv_has ls 7 [(0, .ref h0), (1, .ref h1), (2, .int x2)] := hl
  have hx := E.1
  have hb := E.2.1
  obtain ⟨H, eH⟩ : ∃ H, H = s.heap := ⟨_, rfl⟩
  obtain ⟨locs, eL⟩ : ∃ x : List Loc, x = [] := ⟨_, rfl⟩
  have hG : tGH G τ s H locs := by rw [eH, eL]; exact hG
  suffices hW : W p l e (tRm 1 22) s m ([.ref h0, .ref h1, .int x2] : List Value).toArray below meth c H locs 0 0 (MQ below (tQv G τ) ([.ref h0, .ref h1, .int x2] : List Value).toArray s 0 0 (tA τ)) (F0 m 0 ls []) by subst eH; subst eL; exact hW
  clear eH eL
  have J13 : ∀ (n13 : Nat) (H : Heap) (locs : List Loc) (ls : Array Slot) (v3 : Int32) (v4 : Int32) (v5 : Int32), tGH G τ s H locs → lv_has ls 7 [(0, .ref h0), (1, .ref h1), (2, .int x2), (3, .int v3), (4, .int v4), (5, .int v5)] → 0 ≤ v5.toInt → v5.toInt ≤ 8 → (8 - v5.toInt).toNat < n13 → W p l e (tRm 1 22) s m ([.ref h0, .ref h1, .int x2] : List Value).toArray below meth c H locs 0 0 (MQ below (tQv G τ) ([.ref h0, .ref h1, .int x2] : List Value).toArray s 0 0 (tA τ)) (F0 m 13 ls []) := by
    intro n13
    induction n13 with
    | zero => intro H locs ls v3 v4 v5 hG hl b5 c5 hn13; exact absurd hn13 (Nat.not_lt_zero _)
    | succ n13 ih13 =>
      intro H locs ls v3 v4 v5 hG hl b5 c5 hn13
      have J110 : ∀ (H : Heap) (locs : List Loc) (ls : Array Slot) (v4 : Int32) (v5 : Int32) (vs0 : Int32) (vs1 : Int32), tGH G τ s H locs → lv_has ls 7 [(0, .ref h0), (1, .ref h1), (2, .int x2), (4, .int v4), (5, .int v5)] → 0 ≤ v5.toInt → v5.toInt ≤ 7 → (8 - v5.toInt).toNat < n13 + 1 → W p l e (tRm 1 22) s m ([.ref h0, .ref h1, .int x2] : List Value).toArray below meth c H locs 0 0 (MQ below (tQv G τ) ([.ref h0, .ref h1, .int x2] : List Value).toArray s 0 0 (tA τ)) (F0 m 110 ls [.int vs1, .int vs0]) := by
        intro H locs ls v4 v5 vs0 vs1 hG hl b5 c5 hm13
        refine lv_aload_n hx hb dX3_placeInLine_110 rfl (lv_at hl 1 rfl) ?_
        refine tc_getr E hG t1 frk_X3_111 dX3_placeInLine_111 (fun oa1 hoa1 => ?_)
        refine lv_iconst (v := 1) hx hb dX3_placeInLine_114 (by decide) ?_
        refine tc_iald E hG hoa1 ta_32 (t_in (by decide) (by decide)) dX3_placeInLine_115 (fun z2 _ _ => ?_)
        refine lv_iadd hx hb dX3_placeInLine_116 ?_
        refine lv_topi (fun z3 ez3 => ?_)
        refine lv_iadd hx hb dX3_placeInLine_117 ?_
        refine lv_topi (fun z4 ez4 => ?_)
        refine lv_istore_n (lv' := [(3, .int z4), (0, .ref h0), (1, .ref h1), (2, .int x2), (4, .int v4), (5, .int v5)]) hx hb dX3_placeInLine_118 rfl hl (by decide) rfl (fun ls hl => ?_)
        obtain ⟨z5, ez5⟩ : ∃ y : Int32, y = v5 + (1) := ⟨_, rfl⟩
        refine lv_iinc (v := z5) (lv' := [(5, .int z5), (3, .int z4), (0, .ref h0), (1, .ref h1), (2, .int x2), (4, .int v4)]) hx hb dX3_placeInLine_119 hl (k := 5) rfl (by rw [ez5]; rfl) (by decide) rfl (fun ls hl => ?_)
        have tz5 := tn_add ez5 rfl kI_1 (by omega) (by omega)
        refine lv_goto (tgt := 13) hx hb dX3_placeInLine_122 (by decide) ?_
        exact ih13 H locs ls z4 v4 z5 hG (lv_sub hl [2, 3, 4, 1, 5, 0] rfl) (by omega) (by omega) (by omega)
      have J92 : ∀ (H : Heap) (locs : List Loc) (ls : Array Slot) (v3 : Int32) (v4 : Int32) (v5 : Int32) (a6 : Nat), tGH G τ s H locs → lv_has ls 7 [(0, .ref h0), (1, .ref h1), (2, .int x2), (3, .int v3), (4, .int v4), (5, .int v5), (6, .ref a6)] → 0 ≤ v5.toInt → v5.toInt ≤ 7 → τ a6 = 4 → (8 - v5.toInt).toNat < n13 + 1 → W p l e (tRm 1 22) s m ([.ref h0, .ref h1, .int x2] : List Value).toArray below meth c H locs 0 0 (MQ below (tQv G τ) ([.ref h0, .ref h1, .int x2] : List Value).toArray s 0 0 (tA τ)) (F0 m 92 ls []) := by
        intro H locs ls v3 v4 v5 a6 hG hl b5 c5 e6 hm13
        refine lv_iload_n hx hb dX3_placeInLine_92 rfl (lv_at hl 3 rfl) ?_
        refine lv_iload_n hx hb dX3_placeInLine_93 rfl (lv_at hl 2 rfl) ?_
        refine lv_if_eq (tgt := 105) hx hb dX3_placeInLine_94 (by decide) (fun c6 => ?_) (fun c6 => ?_)
        · skip
          have ic6 := tn_eq rfl kI_0 c6
          refine lv_aload hx hb dX3_placeInLine_105 (lv_at hl 6 rfl) ?_
          refine tc_geti E hG e6 fi_X3_176 dX3_placeInLine_107 (fun z7 _ _ => ?_)
          exact J110 H locs ls v4 v5 v3 z7 hG (lv_sub hl [0, 1, 2, 4, 5] rfl) (by omega) (by omega) (by omega)
        · skip
          have ic6 := tn_ne rfl kI_0 c6
          refine lv_aload hx hb dX3_placeInLine_97 (lv_at hl 6 rfl) ?_
          refine tc_geti E hG e6 fi_X3_173 dX3_placeInLine_99 (fun z8 _ _ => ?_)
          refine lv_goto (tgt := 110) hx hb dX3_placeInLine_102 (by decide) ?_
          exact J110 H locs ls v4 v5 v3 z8 hG (lv_sub hl [0, 1, 2, 4, 5] rfl) (by omega) (by omega) (by omega)
      refine lv_iload hx hb dX3_placeInLine_13 (lv_at hl 5 rfl) ?_
      refine lv_aload_n hx hb dX3_placeInLine_15 rfl (lv_at hl 1 rfl) ?_
      refine tc_geti E hG t1 fik_X3_144 dX3_placeInLine_16 (fun z9 lz9 uz9 => ?_)
      refine lv_icmp_ge (tgt := 125) hx hb dX3_placeInLine_19 (by decide) (fun c10 => ?_) (fun c10 => ?_)
      · skip
        have ic10 := tn_le rfl rfl c10
        exact tc_vret E hr hlk hG dX3_placeInLine_125
      · skip
        have ic10 := tn_nle rfl rfl c10
        refine lv_aload_n hx hb dX3_placeInLine_22 rfl (lv_at hl 0 rfl) ?_
        refine tc_getr E hG t0 frc_X3_9 dX3_placeInLine_23 (fun oa11 hoa11 => ?_)
        refine lv_aload_n hx hb dX3_placeInLine_26 rfl (lv_at hl 1 rfl) ?_
        refine lv_iload hx hb dX3_placeInLine_27 (lv_at hl 5 rfl) ?_
        refine tc_callpr (tc_runV (As := [.ref h1, .int v5]) (rest := []) E hSt hG (c_X8_kidOf_c l G τ oa11 h1 v5 hoa11 t1 (by omega) (by omega)) hoa11 rv_26 kv_X8_kidOf ml_X3_147 ⟨rfl, rfl, Nat.le_of_ble_eq_true rfl, Nat.le_of_ble_eq_true rfl⟩ rfl hl.1 rfl (Nat.le_of_ble_eq_true rfl) ⟨Nat.zero_le _, Nat.zero_le _⟩ dX3_placeInLine_29) (fun r12 pr12 => ?_)
        refine tc_getr E hG pr12 frk_X3_57 dX3_placeInLine_32 (fun oa13 hoa13 => ?_)
        refine lv_astore (lv' := [(6, .ref oa13), (0, .ref h0), (1, .ref h1), (2, .int x2), (3, .int v3), (4, .int v4), (5, .int v5)]) hx hb dX3_placeInLine_35 hl (by decide) rfl (fun ls hl => ?_)
        refine lv_iload_n hx hb dX3_placeInLine_37 rfl (lv_at hl 3 rfl) ?_
        refine lv_if_eq (tgt := 68) hx hb dX3_placeInLine_38 (by decide) (fun c14 => ?_) (fun c14 => ?_)
        · skip
          have ic14 := tn_eq rfl kI_0 c14
          refine lv_aload hx hb dX3_placeInLine_68 (lv_at hl 0 rfl) ?_
          refine lv_aload_n hx hb dX3_placeInLine_70 rfl (lv_at hl 2 rfl) ?_
          refine tc_getr E hG t1 frk_X3_57 dX3_placeInLine_71 (fun oa15 hoa15 => ?_)
          refine tc_geti E hG hoa15 fi_X3_173 dX3_placeInLine_74 (fun z16 _ _ => ?_)
          refine lv_aload hx hb dX3_placeInLine_77 (lv_at hl 0 rfl) ?_
          refine tc_geti E hG hoa13 fi_X3_173 dX3_placeInLine_79 (fun z17 _ _ => ?_)
          refine lv_isub hx hb dX3_placeInLine_82 ?_
          refine lv_topi (fun z18 ez18 => ?_)
          refine lv_iload hx hb dX3_placeInLine_83 (lv_at hl 5 rfl) ?_
          refine tc_callp (tc_runS (As := [.int z18, .int v4]) (rest := [.ref oa13]) E hSt hG (c_X3_aligned l G τ z18 v4) ks_X3_aligned ml_X3_198 ⟨rfl, rfl, Nat.le_of_ble_eq_true rfl, Nat.le_of_ble_eq_true rfl⟩ rfl hl.1 rfl (Nat.le_of_ble_eq_true rfl) ⟨Nat.zero_le _, Nat.zero_le _⟩ dX3_placeInLine_85) (fun r19 pr19 => ?_)
          refine lv_iload_n hx hb dX3_placeInLine_88 rfl (lv_at hl 4 rfl) ?_
          refine tc_callv hG (tc_runV (As := [.int r19, .int v3]) (rest := []) E hSt hG (c_X2_placeAt l G τ oa13 r19 v3 hoa13) hoa13 rv_4 kv_X2_placeAt ml_X3_170 ⟨rfl, rfl, Nat.le_of_ble_eq_true rfl, Nat.le_of_ble_eq_true rfl⟩ rfl hl.1 rfl (Nat.le_of_ble_eq_true rfl) ⟨Nat.zero_le _, Nat.zero_le _⟩ dX3_placeInLine_89) (fun H locs hG => ?_)
          exact J92 H locs ls v3 v4 v5 (oa13) hG (lv_sub hl [1, 2, 3, 4, 5, 6, 0] rfl) (by omega) (by omega) hoa13 (by omega)
        · skip
          have ic14 := tn_ne rfl kI_0 c14
          refine lv_aload hx hb dX3_placeInLine_41 (lv_at hl 0 rfl) ?_
          refine lv_iload_n hx hb dX3_placeInLine_43 rfl (lv_at hl 4 rfl) ?_
          refine lv_aload_n hx hb dX3_placeInLine_44 rfl (lv_at hl 2 rfl) ?_
          refine tc_getr E hG t1 frk_X3_57 dX3_placeInLine_45 (fun oa21 hoa21 => ?_)
          refine tc_geti E hG hoa21 fi_X3_176 dX3_placeInLine_48 (fun z22 _ _ => ?_)
          refine lv_aload hx hb dX3_placeInLine_51 (lv_at hl 0 rfl) ?_
          refine tc_geti E hG hoa13 fi_X3_176 dX3_placeInLine_53 (fun z23 _ _ => ?_)
          refine lv_isub hx hb dX3_placeInLine_56 ?_
          refine lv_topi (fun z24 ez24 => ?_)
          refine lv_iload hx hb dX3_placeInLine_57 (lv_at hl 5 rfl) ?_
          refine tc_callp (tc_runS (As := [.int z24, .int v4]) (rest := [.int v3, .ref oa13]) E hSt hG (c_X3_aligned l G τ z24 v4) ks_X3_aligned ml_X3_198 ⟨rfl, rfl, Nat.le_of_ble_eq_true rfl, Nat.le_of_ble_eq_true rfl⟩ rfl hl.1 rfl (Nat.le_of_ble_eq_true rfl) ⟨Nat.zero_le _, Nat.zero_le _⟩ dX3_placeInLine_59) (fun r25 pr25 => ?_)
          refine tc_callv hG (tc_runV (As := [.int v3, .int r25]) (rest := []) E hSt hG (c_X2_placeAt l G τ oa13 v3 r25 hoa13) hoa13 rv_4 kv_X2_placeAt ml_X3_170 ⟨rfl, rfl, Nat.le_of_ble_eq_true rfl, Nat.le_of_ble_eq_true rfl⟩ rfl hl.1 rfl (Nat.le_of_ble_eq_true rfl) ⟨Nat.zero_le _, Nat.zero_le _⟩ dX3_placeInLine_62) (fun H locs hG => ?_)
          refine lv_goto (tgt := 92) hx hb dX3_placeInLine_65 (by decide) ?_
          exact J92 H locs ls v3 v4 v5 (oa13) hG (lv_sub hl [1, 2, 3, 4, 5, 6, 0] rfl) (by omega) (by omega) hoa13 (by omega)
  refine lv_iconst (v := 0) hx hb dX3_placeInLine_0 (by decide) ?_
  refine lv_istore_n (lv' := [(3, .int 0), (0, .ref h0), (1, .ref h1), (2, .int x2)]) hx hb dX3_placeInLine_1 rfl hl (by decide) rfl (fun ls hl => ?_)
  refine lv_aload_n hx hb dX3_placeInLine_2 rfl (lv_at hl 2 rfl) ?_
  refine tc_getr E hG t1 frk_X3_111 dX3_placeInLine_3 (fun oa27 hoa27 => ?_)
  refine lv_iconst (v := 0) hx hb dX3_placeInLine_6 (by decide) ?_
  refine tc_iald E hG hoa27 ta_32 (t_in (by decide) (by decide)) dX3_placeInLine_7 (fun z28 _ _ => ?_)
  refine lv_istore (lv' := [(4, .int z28), (3, .int 0), (0, .ref h0), (1, .ref h1), (2, .int x2)]) hx hb dX3_placeInLine_8 hl (by decide) rfl (fun ls hl => ?_)
  refine lv_iconst (v := 0) hx hb dX3_placeInLine_10 (by decide) ?_
  refine lv_istore (lv' := [(5, .int 0), (4, .int z28), (3, .int 0), (0, .ref h0), (1, .ref h1), (2, .int x2)]) hx hb dX3_placeInLine_11 hl (by decide) rfl (fun ls hl => ?_)
  exact J13 ((8 - (0 : Int32).toInt).toNat + 1) H locs ls (0 : Int32) z28 (0 : Int32) hG (lv_sub hl [3, 4, 5, 2, 1, 0] rfl) (by decide) (by decide) (Nat.lt_succ_self _)

set_option maxHeartbeats 4000000 in
set_option maxRecDepth 100000 in
theorem c_X3_baseOf_c (l : Launch) (G : tG) (τ : Nat → Nat) : ∀ (d : Nat) (h0 : Nat) (h1 : Nat) (x2 : Int32) (x3 : Int32) (t0 : τ h0 = 27) (t1 : τ h1 = 31) (l2 : 0 ≤ x2.toInt) (u2 : x2.toInt ≤ 1) (l3 : 0 ≤ x3.toInt) (hd : (24 - x3.toInt).toNat < d), Met l yX3_baseOf (.code yX3_baseOf cX3_baseOf 7 (some .int) :: tWS) (tRm (1 * d + 4) (26 * d + 90)) (va_Pc [.ref h0, .ref h1, .int x2, .int x3] (tPre G τ)) (tQi G τ (fun r => True)) 0 0 (tA τ) := by
  intro d
  induction d with
  | zero => intro h0 h1 x2 x3 t0 t1 l2 u2 l3 hd; exact absurd hd (Nat.not_lt_zero _)
  | succ d ih =>
  intro h0 h1 x2 x3 t0 t1 l2 u2 l3 hd
  refine tc_met (by decide) (Nat.le_of_ble_eq_true rfl) ?_
  intro p e s m below meth c E hSt hr hlk hG ls hl
  have hl : lv_has ls 7 [(0, .ref h0), (1, .ref h1), (2, .int x2), (3, .int x3)] := hl
  have hx := E.1
  have hb := E.2.1
  obtain ⟨H, eH⟩ : ∃ H, H = s.heap := ⟨_, rfl⟩
  obtain ⟨locs, eL⟩ : ∃ x : List Loc, x = [] := ⟨_, rfl⟩
  have hG : tGH G τ s H locs := by rw [eH, eL]; exact hG
  suffices hW : W p l e (tRm (1 * (d + 1) + 4) (26 * (d + 1) + 90)) s m ([.ref h0, .ref h1, .int x2, .int x3] : List Value).toArray below meth c H locs 0 0 (MQ below (tQi G τ (fun r => True)) ([.ref h0, .ref h1, .int x2, .int x3] : List Value).toArray s 0 0 (tA τ)) (F0 m 0 ls []) by subst eH; subst eL; exact hW
  clear eH eL
  have J61 : ∀ (n61 : Nat) (H : Heap) (locs : List Loc) (ls : Array Slot) (v4 : Int32), tGH G τ s H locs → lv_has ls 7 [(0, .ref h0), (1, .ref h1), (2, .int x2), (3, .int x3), (4, .int v4)] → x3.toInt ≤ 23 → 0 ≤ v4.toInt → v4.toInt ≤ 8 → (8 - v4.toInt).toNat < n61 → W p l e (tRm (1 * (d + 1) + 4) (26 * (d + 1) + 90)) s m ([.ref h0, .ref h1, .int x2, .int x3] : List Value).toArray below meth c H locs 0 0 (MQ below (tQi G τ (fun r => True)) ([.ref h0, .ref h1, .int x2, .int x3] : List Value).toArray s 0 0 (tA τ)) (F0 m 61 ls []) := by
    intro n61
    induction n61 with
    | zero => intro H locs ls v4 hG hl cp3 b4 c4 hn61; exact absurd hn61 (Nat.not_lt_zero _)
    | succ n61 ih61 =>
      intro H locs ls v4 hG hl cp3 b4 c4 hn61
      refine lv_iload hx hb dX3_baseOf_61 (lv_at hl 4 rfl) ?_
      refine lv_aload_n hx hb dX3_baseOf_63 rfl (lv_at hl 1 rfl) ?_
      refine tc_geti E hG t1 fik_X3_144 dX3_baseOf_64 (fun z1 lz1 uz1 => ?_)
      refine lv_icmp_ge (tgt := 119) hx hb dX3_baseOf_67 (by decide) (fun c2 => ?_) (fun c2 => ?_)
      · skip
        have ic2 := tn_le rfl rfl c2
        refine lv_bipush (v := -5) hx hb dX3_baseOf_119 (by decide) ?_
        exact tc_iret E hr hlk hG trivial dX3_baseOf_121
      · skip
        have ic2 := tn_nle rfl rfl c2
        refine lv_aload_n hx hb dX3_baseOf_70 rfl (lv_at hl 0 rfl) ?_
        refine tc_getr E hG t0 frc_X3_9 dX3_baseOf_71 (fun oa3 hoa3 => ?_)
        refine lv_aload_n hx hb dX3_baseOf_74 rfl (lv_at hl 1 rfl) ?_
        refine lv_iload hx hb dX3_baseOf_75 (lv_at hl 4 rfl) ?_
        refine tc_callpr (tc_runV (As := [.ref h1, .int v4]) (rest := []) E hSt hG (c_X8_kidOf_c l G τ oa3 h1 v4 hoa3 t1 (by omega) (by omega)) hoa3 rv_26 kv_X8_kidOf ml_X3_147 (tRm_ok (by omega) (by omega)) rfl hl.1 rfl (Nat.le_of_ble_eq_true rfl) ⟨Nat.zero_le _, Nat.zero_le _⟩ dX3_baseOf_77) (fun r4 pr4 => ?_)
        refine lv_astore (lv' := [(5, .ref r4), (0, .ref h0), (1, .ref h1), (2, .int x2), (3, .int x3), (4, .int v4)]) hx hb dX3_baseOf_80 hl (by decide) rfl (fun ls hl => ?_)
        refine lv_aload_n hx hb dX3_baseOf_82 rfl (lv_at hl 1 rfl) ?_
        refine lv_aload hx hb dX3_baseOf_83 (lv_at hl 0 rfl) ?_
        refine lv_iload_n hx hb dX3_baseOf_85 rfl (lv_at hl 3 rfl) ?_
        refine lv_iload_n hx hb dX3_baseOf_86 rfl (lv_at hl 4 rfl) ?_
        refine lv_iconst (v := 1) hx hb dX3_baseOf_87 (by decide) ?_
        refine lv_iadd hx hb dX3_baseOf_88 ?_
        refine lv_topi (fun z5 ez5 => ?_)
        have tz5 := tn_add ez5 rfl kI_1 (by omega) (by omega)
        refine tc_calli hG (tc_runV (As := [.ref r4, .int x2, .int z5]) (rest := []) E hSt hG (ih h0 r4 x2 z5 t0 pr4 (by omega) (by omega) (by omega) (by omega)) t0 rv_27 kv_X3_baseOf ml_X3_261 (tRm_ok (by omega) (by omega)) rfl hl.1 rfl (Nat.le_of_ble_eq_true rfl) ⟨Nat.zero_le _, Nat.zero_le _⟩ dX3_baseOf_89) (fun r6 H locs pr6 hG => ?_)
        refine lv_istore (lv' := [(6, .int r6), (5, .ref r4), (0, .ref h0), (1, .ref h1), (2, .int x2), (3, .int x3), (4, .int v4)]) hx hb dX3_baseOf_92 hl (by decide) rfl (fun ls hl => ?_)
        refine lv_iload hx hb dX3_baseOf_94 (lv_at hl 0 rfl) ?_
        refine lv_bipush (v := -5) hx hb dX3_baseOf_96 (by decide) ?_
        refine lv_icmp_eq (tgt := 113) hx hb dX3_baseOf_98 (by decide) (fun c7 => ?_) (fun c7 => ?_)
        · skip
          have ic7 := tn_eq rfl kI_m5 c7
          obtain ⟨z8, ez8⟩ : ∃ y : Int32, y = v4 + (1) := ⟨_, rfl⟩
          refine lv_iinc (v := z8) (lv' := [(4, .int z8), (6, .int r6), (5, .ref r4), (0, .ref h0), (1, .ref h1), (2, .int x2), (3, .int x3)]) hx hb dX3_baseOf_113 hl (k := 6) rfl (by rw [ez8]; rfl) (by decide) rfl (fun ls hl => ?_)
          have tz8 := tn_add ez8 rfl kI_1 (by omega) (by omega)
          refine lv_goto (tgt := 61) hx hb dX3_baseOf_116 (by decide) ?_
          exact ih61 H locs ls z8 hG (lv_sub hl [3, 4, 5, 6, 0] rfl) (by omega) (by omega) (by omega) (by omega)
        · skip
          have ic7 := tn_ne rfl kI_m5 c7
          refine lv_aload hx hb dX3_baseOf_101 (lv_at hl 1 rfl) ?_
          refine tc_getr E hG pr4 frk_X3_57 dX3_baseOf_103 (fun oa9 hoa9 => ?_)
          refine tc_geti E hG hoa9 fi_X3_267 dX3_baseOf_106 (fun z10 _ _ => ?_)
          refine lv_iload hx hb dX3_baseOf_109 (lv_at hl 0 rfl) ?_
          refine lv_iadd hx hb dX3_baseOf_111 ?_
          refine lv_topi (fun z11 ez11 => ?_)
          exact tc_iret E hr hlk hG trivial dX3_baseOf_112
  have J22 : ∀ (H : Heap) (locs : List Loc) (ls : Array Slot), tGH G τ s H locs → lv_has ls 7 [(0, .ref h0), (1, .ref h1), (2, .int x2), (3, .int x3)] → W p l e (tRm (1 * (d + 1) + 4) (26 * (d + 1) + 90)) s m ([.ref h0, .ref h1, .int x2, .int x3] : List Value).toArray below meth c H locs 0 0 (MQ below (tQi G τ (fun r => True)) ([.ref h0, .ref h1, .int x2, .int x3] : List Value).toArray s 0 0 (tA τ)) (F0 m 22 ls []) := by
    intro H locs ls hG hl
    refine lv_aload_n hx hb dX3_baseOf_22 rfl (lv_at hl 1 rfl) ?_
    refine tc_getr E hG t1 frk_X3_57 dX3_baseOf_23 (fun oa12 hoa12 => ?_)
    refine tc_geti E hG hoa12 fi_X3_264 dX3_baseOf_26 (fun z13 lz13 uz13 => ?_)
    refine lv_if_eq (tgt := 50) hx hb dX3_baseOf_29 (by decide) (fun c14 => ?_) (fun c14 => ?_)
    · skip
      have ic14 := tn_eq rfl kI_0 c14
      refine lv_aload_n hx hb dX3_baseOf_50 rfl (lv_at hl 1 rfl) ?_
      refine tc_getr E hG t1 frk_X3_57 dX3_baseOf_51 (fun oa15 hoa15 => ?_)
      refine tc_geti E hG hoa15 fi_X3_160 dX3_baseOf_54 (fun z16 _ _ => ?_)
      exact tc_iret E hr hlk hG trivial dX3_baseOf_57
    · skip
      have ic14 := tn_ne rfl kI_0 c14
      refine lv_aload_n hx hb dX3_baseOf_32 rfl (lv_at hl 1 rfl) ?_
      refine tc_getr E hG t1 frk_X3_57 dX3_baseOf_33 (fun oa17 hoa17 => ?_)
      refine tc_geti E hG hoa17 fi_X3_160 dX3_baseOf_36 (fun z18 _ _ => ?_)
      refine lv_bipush (v := -5) hx hb dX3_baseOf_39 (by decide) ?_
      refine lv_icmp_ne (tgt := 50) hx hb dX3_baseOf_41 (by decide) (fun c19 => ?_) (fun c19 => ?_)
      · skip
        have ic19 := tn_ne rfl kI_m5 c19
        refine lv_aload_n hx hb dX3_baseOf_50 rfl (lv_at hl 1 rfl) ?_
        refine tc_getr E hG t1 frk_X3_57 dX3_baseOf_51 (fun oa20 hoa20 => ?_)
        refine tc_geti E hG hoa20 fi_X3_160 dX3_baseOf_54 (fun z21 _ _ => ?_)
        exact tc_iret E hr hlk hG trivial dX3_baseOf_57
      · skip
        have ic19 := tn_eq rfl kI_m5 c19
        refine lv_iload_n hx hb dX3_baseOf_44 rfl (lv_at hl 3 rfl) ?_
        refine lv_bipush (v := 24) hx hb dX3_baseOf_45 (by decide) ?_
        refine lv_icmp_lt (tgt := 58) hx hb dX3_baseOf_47 (by decide) (fun c22 => ?_) (fun c22 => ?_)
        · skip
          have ic22 := tn_lt rfl kI_24 c22
          refine lv_iconst (v := 0) hx hb dX3_baseOf_58 (by decide) ?_
          refine lv_istore (lv' := [(4, .int 0), (0, .ref h0), (1, .ref h1), (2, .int x2), (3, .int x3)]) hx hb dX3_baseOf_59 hl (by decide) rfl (fun ls hl => ?_)
          exact J61 ((8 - (0 : Int32).toInt).toNat + 1) H locs ls (0 : Int32) hG (lv_sub hl [1, 2, 3, 4, 0] rfl) (by omega) (by decide) (by decide) (Nat.lt_succ_self _)
        · skip
          have ic22 := tn_nlt rfl kI_24 c22
          refine lv_aload_n hx hb dX3_baseOf_50 rfl (lv_at hl 1 rfl) ?_
          refine tc_getr E hG t1 frk_X3_57 dX3_baseOf_51 (fun oa23 hoa23 => ?_)
          refine tc_geti E hG hoa23 fi_X3_160 dX3_baseOf_54 (fun z24 _ _ => ?_)
          exact tc_iret E hr hlk hG trivial dX3_baseOf_57
  refine lv_iload_n hx hb dX3_baseOf_0 rfl (lv_at hl 2 rfl) ?_
  refine lv_if_eq (tgt := 22) hx hb dX3_baseOf_1 (by decide) (fun c25 => ?_) (fun c25 => ?_)
  · skip
    have ic25 := tn_eq rfl kI_0 c25
    exact J22 H locs ls hG (lv_sub hl [0, 1, 2, 3] rfl)
  · skip
    have ic25 := tn_ne rfl kI_0 c25
    refine lv_aload_n hx hb dX3_baseOf_4 rfl (lv_at hl 0 rfl) ?_
    refine tc_getr E hG t0 frc_X3_9 dX3_baseOf_5 (fun oa26 hoa26 => ?_)
    refine lv_dup hx hb dX3_baseOf_8 rfl ?_
    refine tc_geti E hG hoa26 fic_X3_105 dX3_baseOf_9 (fun z27 _ _ => ?_)
    refine lv_iconst (v := 1) hx hb dX3_baseOf_12 (by decide) ?_
    refine lv_aload_n hx hb dX3_baseOf_13 rfl (lv_at hl 1 rfl) ?_
    refine tc_geti E hG t1 fik_X3_87 dX3_baseOf_14 (fun z28 lz28 uz28 => ?_)
    refine lv_ishl hx hb dX3_baseOf_17 ?_
    refine lv_topi (fun z29 ez29 => ?_)
    refine lv_ior hx hb dX3_baseOf_18 ?_
    refine lv_topi (fun z30 ez30 => ?_)
    refine tc_puti E hG hoa26 fpc_X3_105 (t_any1 _) (t_any2 _) dX3_baseOf_19 (fun H locs hG => ?_)
    exact J22 H locs ls hG (lv_sub hl [0, 1, 2, 3] rfl)

set_option maxHeartbeats 4000000 in
set_option maxRecDepth 100000 in
theorem c_X3_baseAsLaid_c (l : Launch) (G : tG) (τ : Nat → Nat) (h0 : Nat) (h1 : Nat) (t0 : τ h0 = 27) (t1 : τ h1 = 31) : Met l yX3_baseAsLaid (.code yX3_baseAsLaid cX3_baseAsLaid 2 (some .int) :: tWS) (tRm 30 766) (va_Pc [.ref h0, .ref h1] (tPre G τ)) (tQi G τ (fun r => True)) 0 0 (tA τ) := by
  refine tc_met (by decide) (Nat.le_of_ble_eq_true rfl) ?_
  intro p e s m below meth c E hSt hr hlk hG ls hl
  have hl : lv_has ls 2 [(0, .ref h0), (1, .ref h1)] := hl
  have hx := E.1
  have hb := E.2.1
  obtain ⟨H, eH⟩ : ∃ H, H = s.heap := ⟨_, rfl⟩
  obtain ⟨locs, eL⟩ : ∃ x : List Loc, x = [] := ⟨_, rfl⟩
  have hG : tGH G τ s H locs := by rw [eH, eL]; exact hG
  suffices hW : W p l e (tRm 30 766) s m ([.ref h0, .ref h1] : List Value).toArray below meth c H locs 0 0 (MQ below (tQi G τ (fun r => True)) ([.ref h0, .ref h1] : List Value).toArray s 0 0 (tA τ)) (F0 m 0 ls []) by subst eH; subst eL; exact hW
  clear eH eL
  refine lv_aload_n hx hb dX3_baseAsLaid_0 rfl (lv_at hl 0 rfl) ?_
  refine lv_aload_n hx hb dX3_baseAsLaid_1 rfl (lv_at hl 1 rfl) ?_
  refine lv_iconst (v := 0) hx hb dX3_baseAsLaid_2 (by decide) ?_
  refine lv_iconst (v := 0) hx hb dX3_baseAsLaid_3 (by decide) ?_
  refine tc_calli hG (tc_runV (As := [.ref h1, .int 0, .int 0]) (rest := []) E hSt hG (c_X3_baseOf_c l G τ 25 h0 h1 (0 : Int32) (0 : Int32) t0 t1 (by decide) (by decide) (by decide) (by first | decide | omega)) t0 rv_27 kv_X3_baseOf ml_X3_261 ⟨rfl, rfl, Nat.le_of_ble_eq_true rfl, Nat.le_of_ble_eq_true rfl⟩ rfl hl.1 rfl (Nat.le_of_ble_eq_true rfl) ⟨Nat.zero_le _, Nat.zero_le _⟩ dX3_baseAsLaid_4) (fun r1 H locs pr1 hG => ?_)
  exact tc_iret E hr hlk hG trivial dX3_baseAsLaid_7

set_option maxHeartbeats 4000000 in
set_option maxRecDepth 100000 in
theorem c_X3_standOnBase_c (l : Launch) (G : tG) (τ : Nat → Nat) (h0 : Nat) (h1 : Nat) (x2 : Int32) (x3 : Int32) (t0 : τ h0 = 27) (t1 : τ h1 = 31) (l3 : 0 ≤ x3.toInt) (u3 : x3.toInt ≤ 23) : Met l yX3_standOnBase (.code yX3_standOnBase cX3_standOnBase 9 none :: tWS) (tRm 30 766) (va_Pc [.ref h0, .ref h1, .int x2, .int x3] (tPre G τ)) (tQv G τ) 0 0 (tA τ) := by
  refine tc_met (by decide) (Nat.le_of_ble_eq_true rfl) ?_
  intro p e s m below meth c E hSt hr hlk hG ls hl
  have hl : lv_has ls 9 [(0, .ref h0), (1, .ref h1), (2, .int x2), (3, .int x3)] := hl
  have hx := E.1
  have hb := E.2.1
  obtain ⟨H, eH⟩ : ∃ H, H = s.heap := ⟨_, rfl⟩
  obtain ⟨locs, eL⟩ : ∃ x : List Loc, x = [] := ⟨_, rfl⟩
  have hG : tGH G τ s H locs := by rw [eH, eL]; exact hG
  suffices hW : W p l e (tRm 30 766) s m ([.ref h0, .ref h1, .int x2, .int x3] : List Value).toArray below meth c H locs 0 0 (MQ below (tQv G τ) ([.ref h0, .ref h1, .int x2, .int x3] : List Value).toArray s 0 0 (tA τ)) (F0 m 0 ls []) by subst eH; subst eL; exact hW
  clear eH eL
  have J125 : ∀ (n125 : Nat) (H : Heap) (locs : List Loc) (ls : Array Slot) (v4 : Int32) (v6 : Int32) (v7 : Int32), tGH G τ s H locs → lv_has ls 9 [(0, .ref h0), (1, .ref h1), (4, .int v4), (6, .int v6), (7, .int v7)] → 0 ≤ v4.toInt → 0 ≤ v7.toInt → v7.toInt ≤ 8 → (8 - v7.toInt).toNat < n125 → W p l e (tRm 30 766) s m ([.ref h0, .ref h1, .int x2, .int x3] : List Value).toArray below meth c H locs 0 0 (MQ below (tQv G τ) ([.ref h0, .ref h1, .int x2, .int x3] : List Value).toArray s 0 0 (tA τ)) (F0 m 125 ls []) := by
    intro n125
    induction n125 with
    | zero => intro H locs ls v4 v6 v7 hG hl b4 b7 c7 hn125; exact absurd hn125 (Nat.not_lt_zero _)
    | succ n125 ih125 =>
      intro H locs ls v4 v6 v7 hG hl b4 b7 c7 hn125
      refine lv_iload hx hb dX3_standOnBase_125 (lv_at hl 4 rfl) ?_
      refine lv_aload_n hx hb dX3_standOnBase_127 rfl (lv_at hl 1 rfl) ?_
      refine tc_geti E hG t1 fik_X3_144 dX3_standOnBase_128 (fun z1 lz1 uz1 => ?_)
      refine lv_icmp_ge (tgt := 190) hx hb dX3_standOnBase_131 (by decide) (fun c2 => ?_) (fun c2 => ?_)
      · skip
        have ic2 := tn_le rfl rfl c2
        refine lv_aload_n hx hb dX3_standOnBase_190 rfl (lv_at hl 1 rfl) ?_
        refine tc_geti E hG t1 fik_X3_144 dX3_standOnBase_191 (fun z3 lz3 uz3 => ?_)
        refine lv_if_le (tgt := 206) hx hb dX3_standOnBase_194 (by decide) (fun c4 => ?_) (fun c4 => ?_)
        · skip
          have ic4 := tn_le rfl kI_0 c4
          exact tc_vret E hr hlk hG dX3_standOnBase_206
        · skip
          have ic4 := tn_nle rfl kI_0 c4
          refine lv_aload_n hx hb dX3_standOnBase_197 rfl (lv_at hl 1 rfl) ?_
          refine tc_getr E hG t1 frk_X3_57 dX3_standOnBase_198 (fun oa5 hoa5 => ?_)
          refine lv_iload hx hb dX3_standOnBase_201 (lv_at hl 2 rfl) ?_
          refine tc_puti E hG hoa5 fp_X3_160 (t_any1 _) (t_any2 _) dX3_standOnBase_203 (fun H locs hG => ?_)
          exact tc_vret E hr hlk hG dX3_standOnBase_206
      · skip
        have ic2 := tn_nle rfl rfl c2
        refine lv_aload_n hx hb dX3_standOnBase_134 rfl (lv_at hl 0 rfl) ?_
        refine tc_getr E hG t0 frc_X3_9 dX3_standOnBase_135 (fun oa6 hoa6 => ?_)
        refine lv_aload_n hx hb dX3_standOnBase_138 rfl (lv_at hl 1 rfl) ?_
        refine lv_iload hx hb dX3_standOnBase_139 (lv_at hl 4 rfl) ?_
        refine tc_callpr (tc_runV (As := [.ref h1, .int v7]) (rest := []) E hSt hG (c_X8_kidOf_c l G τ oa6 h1 v7 hoa6 t1 (by omega) (by omega)) hoa6 rv_26 kv_X8_kidOf ml_X3_147 ⟨rfl, rfl, Nat.le_of_ble_eq_true rfl, Nat.le_of_ble_eq_true rfl⟩ rfl hl.1 rfl (Nat.le_of_ble_eq_true rfl) ⟨Nat.zero_le _, Nat.zero_le _⟩ dX3_standOnBase_141) (fun r7 pr7 => ?_)
        refine lv_astore (lv' := [(8, .ref r7), (0, .ref h0), (1, .ref h1), (4, .int v4), (6, .int v6), (7, .int v7)]) hx hb dX3_standOnBase_144 hl (by decide) rfl (fun ls hl => ?_)
        refine lv_aload hx hb dX3_standOnBase_146 (lv_at hl 0 rfl) ?_
        refine tc_getr E hG pr7 frk_X3_57 dX3_standOnBase_148 (fun oa8 hoa8 => ?_)
        refine lv_iload hx hb dX3_standOnBase_151 (lv_at hl 4 rfl) ?_
        refine lv_iload hx hb dX3_standOnBase_153 (lv_at hl 3 rfl) ?_
        refine lv_aload hx hb dX3_standOnBase_155 (lv_at hl 0 rfl) ?_
        refine tc_geti E hG pr7 fik_X3_247 dX3_standOnBase_157 (fun z9 _ _ => ?_)
        refine lv_isub hx hb dX3_standOnBase_160 ?_
        refine lv_topi (fun z10 ez10 => ?_)
        refine tc_callv hG (tc_runV (As := [.int v6, .int z10]) (rest := []) E hSt hG (c_X2_placeAt l G τ oa8 v6 z10 hoa8) hoa8 rv_4 kv_X2_placeAt ml_X3_170 ⟨rfl, rfl, Nat.le_of_ble_eq_true rfl, Nat.le_of_ble_eq_true rfl⟩ rfl hl.1 rfl (Nat.le_of_ble_eq_true rfl) ⟨Nat.zero_le _, Nat.zero_le _⟩ dX3_standOnBase_161) (fun H locs hG => ?_)
        refine lv_iload hx hb dX3_standOnBase_164 (lv_at hl 4 rfl) ?_
        refine lv_aload hx hb dX3_standOnBase_166 (lv_at hl 0 rfl) ?_
        refine tc_getr E hG pr7 frk_X3_57 dX3_standOnBase_168 (fun oa12 hoa12 => ?_)
        refine tc_geti E hG hoa12 fi_X3_173 dX3_standOnBase_171 (fun z13 _ _ => ?_)
        refine lv_aload_n hx hb dX3_standOnBase_174 rfl (lv_at hl 2 rfl) ?_
        refine tc_getr E hG t1 frk_X3_111 dX3_standOnBase_175 (fun oa14 hoa14 => ?_)
        refine lv_iconst (v := 1) hx hb dX3_standOnBase_178 (by decide) ?_
        refine tc_iald E hG hoa14 ta_32 (t_in (by decide) (by decide)) dX3_standOnBase_179 (fun z15 _ _ => ?_)
        refine lv_iadd hx hb dX3_standOnBase_180 ?_
        refine lv_topi (fun z16 ez16 => ?_)
        refine lv_iadd hx hb dX3_standOnBase_181 ?_
        refine lv_topi (fun z17 ez17 => ?_)
        refine lv_istore (lv' := [(6, .int z17), (8, .ref r7), (0, .ref h0), (1, .ref h1), (4, .int v4), (7, .int v7)]) hx hb dX3_standOnBase_182 hl (by decide) rfl (fun ls hl => ?_)
        obtain ⟨z18, ez18⟩ : ∃ y : Int32, y = v7 + (1) := ⟨_, rfl⟩
        refine lv_iinc (v := z18) (lv' := [(7, .int z18), (6, .int z17), (8, .ref r7), (0, .ref h0), (1, .ref h1), (4, .int v4)]) hx hb dX3_standOnBase_184 hl (k := 5) rfl (by rw [ez18]; rfl) (by decide) rfl (fun ls hl => ?_)
        have tz18 := tn_add ez18 rfl kI_1 (by omega) (by omega)
        refine lv_goto (tgt := 125) hx hb dX3_standOnBase_187 (by decide) ?_
        exact ih125 H locs ls v4 z17 z18 hG (lv_sub hl [3, 4, 5, 1, 0] rfl) (by omega) (by omega) (by omega) (by omega)
  have J9 : ∀ (n9 : Nat) (H : Heap) (locs : List Loc) (ls : Array Slot) (v4 : Int32) (v5 : Int32) (v6 : Int32), tGH G τ s H locs → lv_has ls 9 [(0, .ref h0), (1, .ref h1), (2, .int x2), (3, .int x3), (4, .int v4), (5, .int v5), (6, .int v6)] → 0 ≤ v4.toInt → 0 ≤ v5.toInt → 0 ≤ v6.toInt → v6.toInt ≤ 8 → (8 - v6.toInt).toNat < n9 → W p l e (tRm 30 766) s m ([.ref h0, .ref h1, .int x2, .int x3] : List Value).toArray below meth c H locs 0 0 (MQ below (tQv G τ) ([.ref h0, .ref h1, .int x2, .int x3] : List Value).toArray s 0 0 (tA τ)) (F0 m 9 ls []) := by
    intro n9
    induction n9 with
    | zero => intro H locs ls v4 v5 v6 hG hl b4 b5 b6 c6 hn9; exact absurd hn9 (Nat.not_lt_zero _)
    | succ n9 ih9 =>
      intro H locs ls v4 v5 v6 hG hl b4 b5 b6 c6 hn9
      have J64 : ∀ (H : Heap) (locs : List Loc) (ls : Array Slot) (v4 : Int32) (v5 : Int32) (v6 : Int32) (a7 : Nat) (as0 : Nat) (vs1 : Int32), tGH G τ s H locs → lv_has ls 9 [(0, .ref h0), (1, .ref h1), (2, .int x2), (3, .int x3), (4, .int v4), (5, .int v5), (6, .int v6), (7, .ref a7)] → 0 ≤ v4.toInt → 0 ≤ v5.toInt → 0 ≤ v6.toInt → v6.toInt ≤ 7 → τ a7 = 31 → τ as0 = 31 → (8 - v6.toInt).toNat < n9 + 1 → W p l e (tRm 30 766) s m ([.ref h0, .ref h1, .int x2, .int x3] : List Value).toArray below meth c H locs 0 0 (MQ below (tQv G τ) ([.ref h0, .ref h1, .int x2, .int x3] : List Value).toArray s 0 0 (tA τ)) (F0 m 64 ls [.int vs1, .ref as0]) := by
        intro H locs ls v4 v5 v6 a7 as0 vs1 hG hl b4 b5 b6 c6 e7 es0 hm9
        refine tc_puti E hG es0 fpk_X3_247 (t_any1 _) (t_any2 _) dX3_standOnBase_64 (fun H locs hG => ?_)
        refine lv_iload hx hb dX3_standOnBase_67 (lv_at hl 4 rfl) ?_
        refine lv_aload hx hb dX3_standOnBase_69 (lv_at hl 7 rfl) ?_
        refine tc_geti E hG e7 fik_X3_247 dX3_standOnBase_71 (fun z19 _ _ => ?_)
        refine tc_max (rest := []) E hl.1 ml_X3_155 kn_max1 kn_math kn_max2 ⟨Nat.le_of_ble_eq_true rfl, Nat.le_of_ble_eq_true rfl⟩ ⟨Nat.zero_le _, Nat.zero_le _⟩ dX3_standOnBase_74 (fun z20 ez20 => ?_)
        have tz20 := tn_max ez20
        refine lv_istore (lv' := [(4, .int z20), (0, .ref h0), (1, .ref h1), (2, .int x2), (3, .int x3), (5, .int v5), (6, .int v6), (7, .ref a7)]) hx hb dX3_standOnBase_77 hl (by decide) rfl (fun ls hl => ?_)
        refine lv_iload hx hb dX3_standOnBase_79 (lv_at hl 5 rfl) ?_
        refine lv_aload hx hb dX3_standOnBase_81 (lv_at hl 7 rfl) ?_
        refine tc_getr E hG e7 frk_X3_57 dX3_standOnBase_83 (fun oa21 hoa21 => ?_)
        refine tc_geti E hG hoa21 fi_X3_176 dX3_standOnBase_86 (fun z22 _ _ => ?_)
        refine lv_aload hx hb dX3_standOnBase_89 (lv_at hl 7 rfl) ?_
        refine tc_geti E hG e7 fik_X3_247 dX3_standOnBase_91 (fun z23 _ _ => ?_)
        refine lv_isub hx hb dX3_standOnBase_94 ?_
        refine lv_topi (fun z24 ez24 => ?_)
        refine tc_max (rest := []) E hl.1 ml_X3_155 kn_max1 kn_math kn_max2 ⟨Nat.le_of_ble_eq_true rfl, Nat.le_of_ble_eq_true rfl⟩ ⟨Nat.zero_le _, Nat.zero_le _⟩ dX3_standOnBase_95 (fun z25 ez25 => ?_)
        have tz25 := tn_max ez25
        refine lv_istore (lv' := [(5, .int z25), (4, .int z20), (0, .ref h0), (1, .ref h1), (2, .int x2), (3, .int x3), (6, .int v6), (7, .ref a7)]) hx hb dX3_standOnBase_98 hl (by decide) rfl (fun ls hl => ?_)
        obtain ⟨z26, ez26⟩ : ∃ y : Int32, y = v6 + (1) := ⟨_, rfl⟩
        refine lv_iinc (v := z26) (lv' := [(6, .int z26), (5, .int z25), (4, .int z20), (0, .ref h0), (1, .ref h1), (2, .int x2), (3, .int x3), (7, .ref a7)]) hx hb dX3_standOnBase_100 hl (k := 6) rfl (by rw [ez26]; rfl) (by decide) rfl (fun ls hl => ?_)
        have tz26 := tn_add ez26 rfl kI_1 (by omega) (by omega)
        refine lv_goto (tgt := 9) hx hb dX3_standOnBase_103 (by decide) ?_
        exact ih9 H locs ls z20 z25 z26 hG (lv_sub hl [3, 4, 5, 6, 2, 1, 0] rfl) (by omega) (by omega) (by omega) (by omega) (by omega)
      refine lv_iload hx hb dX3_standOnBase_9 (lv_at hl 6 rfl) ?_
      refine lv_aload_n hx hb dX3_standOnBase_11 rfl (lv_at hl 1 rfl) ?_
      refine tc_geti E hG t1 fik_X3_144 dX3_standOnBase_12 (fun z27 lz27 uz27 => ?_)
      refine lv_icmp_ge (tgt := 106) hx hb dX3_standOnBase_15 (by decide) (fun c28 => ?_) (fun c28 => ?_)
      · skip
        have ic28 := tn_le rfl rfl c28
        refine lv_aload_n hx hb dX3_standOnBase_106 rfl (lv_at hl 1 rfl) ?_
        refine tc_getr E hG t1 frk_X3_57 dX3_standOnBase_107 (fun oa29 hoa29 => ?_)
        refine lv_iload_n hx hb dX3_standOnBase_110 rfl (lv_at hl 2 rfl) ?_
        refine lv_iload hx hb dX3_standOnBase_111 (lv_at hl 4 rfl) ?_
        refine lv_iload hx hb dX3_standOnBase_113 (lv_at hl 5 rfl) ?_
        refine lv_iadd hx hb dX3_standOnBase_115 ?_
        refine lv_topi (fun z30 ez30 => ?_)
        refine tc_callv hG (tc_runV (As := [.int x2, .int z30]) (rest := []) E hSt hG (c_X2_sizeTo l G τ oa29 x2 z30 hoa29) hoa29 rv_4 kv_X2_sizeTo ml_X3_115 ⟨rfl, rfl, Nat.le_of_ble_eq_true rfl, Nat.le_of_ble_eq_true rfl⟩ rfl hl.1 rfl (Nat.le_of_ble_eq_true rfl) ⟨Nat.zero_le _, Nat.zero_le _⟩ dX3_standOnBase_116) (fun H locs hG => ?_)
        refine lv_iconst (v := 0) hx hb dX3_standOnBase_119 (by decide) ?_
        refine lv_istore (lv' := [(6, .int 0), (0, .ref h0), (1, .ref h1), (2, .int x2), (3, .int x3), (4, .int v4), (5, .int v5)]) hx hb dX3_standOnBase_120 hl (by decide) rfl (fun ls hl => ?_)
        refine lv_iconst (v := 0) hx hb dX3_standOnBase_122 (by decide) ?_
        refine lv_istore (lv' := [(7, .int 0), (6, .int 0), (0, .ref h0), (1, .ref h1), (2, .int x2), (3, .int x3), (4, .int v4), (5, .int v5)]) hx hb dX3_standOnBase_123 hl (by decide) rfl (fun ls hl => ?_)
        exact J125 ((8 - (0 : Int32).toInt).toNat + 1) H locs ls v4 (0 : Int32) (0 : Int32) hG (lv_sub hl [2, 3, 6, 1, 0] rfl) (by omega) (by decide) (by decide) (Nat.lt_succ_self _)
      · skip
        have ic28 := tn_nle rfl rfl c28
        refine lv_aload_n hx hb dX3_standOnBase_18 rfl (lv_at hl 0 rfl) ?_
        refine tc_getr E hG t0 frc_X3_9 dX3_standOnBase_19 (fun oa32 hoa32 => ?_)
        refine lv_aload_n hx hb dX3_standOnBase_22 rfl (lv_at hl 1 rfl) ?_
        refine lv_iload hx hb dX3_standOnBase_23 (lv_at hl 6 rfl) ?_
        refine tc_callpr (tc_runV (As := [.ref h1, .int v6]) (rest := []) E hSt hG (c_X8_kidOf_c l G τ oa32 h1 v6 hoa32 t1 (by omega) (by omega)) hoa32 rv_26 kv_X8_kidOf ml_X3_147 ⟨rfl, rfl, Nat.le_of_ble_eq_true rfl, Nat.le_of_ble_eq_true rfl⟩ rfl hl.1 rfl (Nat.le_of_ble_eq_true rfl) ⟨Nat.zero_le _, Nat.zero_le _⟩ dX3_standOnBase_25) (fun r33 pr33 => ?_)
        refine lv_astore (lv' := [(7, .ref r33), (0, .ref h0), (1, .ref h1), (2, .int x2), (3, .int x3), (4, .int v4), (5, .int v5), (6, .int v6)]) hx hb dX3_standOnBase_28 hl (by decide) rfl (fun ls hl => ?_)
        refine lv_aload_n hx hb dX3_standOnBase_30 rfl (lv_at hl 1 rfl) ?_
        refine lv_aload hx hb dX3_standOnBase_31 (lv_at hl 0 rfl) ?_
        refine lv_iconst (v := 1) hx hb dX3_standOnBase_33 (by decide) ?_
        refine lv_iload_n hx hb dX3_standOnBase_34 rfl (lv_at hl 4 rfl) ?_
        refine lv_iconst (v := 1) hx hb dX3_standOnBase_35 (by decide) ?_
        refine lv_iadd hx hb dX3_standOnBase_36 ?_
        refine lv_topi (fun z34 ez34 => ?_)
        have tz34 := tn_add ez34 rfl kI_1 (by omega) (by omega)
        refine tc_calli hG (tc_runV (As := [.ref r33, .int 1, .int z34]) (rest := []) E hSt hG (c_X3_baseOf_c l G τ 25 h0 r33 (1 : Int32) z34 t0 pr33 (by decide) (by decide) (by omega) (by first | decide | omega)) t0 rv_27 kv_X3_baseOf ml_X3_261 ⟨rfl, rfl, Nat.le_of_ble_eq_true rfl, Nat.le_of_ble_eq_true rfl⟩ rfl hl.1 rfl (Nat.le_of_ble_eq_true rfl) ⟨Nat.zero_le _, Nat.zero_le _⟩ dX3_standOnBase_37) (fun r35 H locs pr35 hG => ?_)
        refine lv_istore (lv' := [(8, .int r35), (7, .ref r33), (0, .ref h0), (1, .ref h1), (2, .int x2), (3, .int x3), (4, .int v4), (5, .int v5), (6, .int v6)]) hx hb dX3_standOnBase_40 hl (by decide) rfl (fun ls hl => ?_)
        refine lv_aload hx hb dX3_standOnBase_42 (lv_at hl 1 rfl) ?_
        refine lv_iload hx hb dX3_standOnBase_44 (lv_at hl 0 rfl) ?_
        refine lv_bipush (v := -5) hx hb dX3_standOnBase_46 (by decide) ?_
        refine lv_icmp_ne (tgt := 62) hx hb dX3_standOnBase_48 (by decide) (fun c36 => ?_) (fun c36 => ?_)
        · skip
          have ic36 := tn_ne rfl kI_m5 c36
          refine lv_iload hx hb dX3_standOnBase_62 (lv_at hl 0 rfl) ?_
          exact J64 H locs ls v4 v5 v6 (r33) (r33) r35 hG (lv_sub hl [2, 3, 4, 5, 6, 7, 8, 1] rfl) (by omega) (by omega) (by omega) (by omega) pr33 pr33 (by omega)
        · skip
          have ic36 := tn_eq rfl kI_m5 c36
          refine lv_aload hx hb dX3_standOnBase_51 (lv_at hl 1 rfl) ?_
          refine tc_getr E hG pr33 frk_X3_57 dX3_standOnBase_53 (fun oa37 hoa37 => ?_)
          refine tc_geti E hG hoa37 fi_X3_176 dX3_standOnBase_56 (fun z38 _ _ => ?_)
          refine lv_goto (tgt := 64) hx hb dX3_standOnBase_59 (by decide) ?_
          exact J64 H locs ls v4 v5 v6 (r33) (r33) z38 hG (lv_sub hl [2, 3, 4, 5, 6, 7, 8, 1] rfl) (by omega) (by omega) (by omega) (by omega) pr33 pr33 (by omega)
  refine lv_iconst (v := 0) hx hb dX3_standOnBase_0 (by decide) ?_
  refine lv_istore (lv' := [(4, .int 0), (0, .ref h0), (1, .ref h1), (2, .int x2), (3, .int x3)]) hx hb dX3_standOnBase_1 hl (by decide) rfl (fun ls hl => ?_)
  refine lv_iconst (v := 0) hx hb dX3_standOnBase_3 (by decide) ?_
  refine lv_istore (lv' := [(5, .int 0), (4, .int 0), (0, .ref h0), (1, .ref h1), (2, .int x2), (3, .int x3)]) hx hb dX3_standOnBase_4 hl (by decide) rfl (fun ls hl => ?_)
  refine lv_iconst (v := 0) hx hb dX3_standOnBase_6 (by decide) ?_
  refine lv_istore (lv' := [(6, .int 0), (5, .int 0), (4, .int 0), (0, .ref h0), (1, .ref h1), (2, .int x2), (3, .int x3)]) hx hb dX3_standOnBase_7 hl (by decide) rfl (fun ls hl => ?_)
  exact J9 ((8 - (0 : Int32).toInt).toNat + 1) H locs ls (0 : Int32) (0 : Int32) (0 : Int32) hG (lv_sub hl [3, 4, 5, 6, 2, 1, 0] rfl) (by decide) (by decide) (by decide) (by decide) (Nat.lt_succ_self _)

def P_X3_askedOf_c (l : Launch) (G : tG) (τ : Nat → Nat) (d : Nat) : Prop := ∀ (h0 : Nat) (h1 : Nat) (x2 : Int32) (x3 : Int32), τ h0 = 27 → τ h1 = 31 → 0 ≤ x3.toInt → (24 - x3.toInt).toNat < d → Met l yX3_askedOf (.code yX3_askedOf cX3_askedOf 5 (some .int) :: tWS) (tRm (3 * d + 4) (74 * d + 120)) (va_Pc [.ref h0, .ref h1, .int x2, .int x3] (tPre G τ)) (tQi G τ (fun r => True)) 0 0 (tA τ)
set_option maxHeartbeats 4000000 in
set_option maxRecDepth 100000 in
theorem c_X3_greatestOfKids_c (l : Launch) (G : tG) (τ : Nat → Nat) (h0 : Nat) (h1 : Nat) (x2 : Int32) (x3 : Int32) (t0 : τ h0 = 27) (t1 : τ h1 = 31) (l3 : 0 ≤ x3.toInt) (u3 : x3.toInt ≤ 23) (d : Nat) (ih : P_X3_askedOf_c l G τ d) (hd : (24 - x3.toInt).toNat < d + 1) : Met l yX3_greatestOfKids (.code yX3_greatestOfKids cX3_greatestOfKids 6 (some .int) :: tWS) (tRm (3 * d + 5) (74 * d + 144)) (va_Pc [.ref h0, .ref h1, .int x2, .int x3] (tPre G τ)) (tQi G τ (fun r => True)) 0 0 (tA τ) := by
  refine tc_met (by decide) (Nat.le_of_ble_eq_true rfl) ?_
  intro p e s m below meth c E hSt hr hlk hG ls hl
  have hl : lv_has ls 6 [(0, .ref h0), (1, .ref h1), (2, .int x2), (3, .int x3)] := hl
  have hx := E.1
  have hb := E.2.1
  obtain ⟨H, eH⟩ : ∃ H, H = s.heap := ⟨_, rfl⟩
  obtain ⟨locs, eL⟩ : ∃ x : List Loc, x = [] := ⟨_, rfl⟩
  have hG : tGH G τ s H locs := by rw [eH, eL]; exact hG
  suffices hW : W p l e (tRm (3 * d + 5) (74 * d + 144)) s m ([.ref h0, .ref h1, .int x2, .int x3] : List Value).toArray below meth c H locs 0 0 (MQ below (tQi G τ (fun r => True)) ([.ref h0, .ref h1, .int x2, .int x3] : List Value).toArray s 0 0 (tA τ)) (F0 m 0 ls []) by subst eH; subst eL; exact hW
  clear eH eL
  have J6 : ∀ (n6 : Nat) (H : Heap) (locs : List Loc) (ls : Array Slot) (v4 : Int32) (v5 : Int32), tGH G τ s H locs → lv_has ls 6 [(0, .ref h0), (1, .ref h1), (2, .int x2), (3, .int x3), (4, .int v4), (5, .int v5)] → 0 ≤ v4.toInt → 0 ≤ v5.toInt → v5.toInt ≤ 8 → (8 - v5.toInt).toNat < n6 → W p l e (tRm (3 * d + 5) (74 * d + 144)) s m ([.ref h0, .ref h1, .int x2, .int x3] : List Value).toArray below meth c H locs 0 0 (MQ below (tQi G τ (fun r => True)) ([.ref h0, .ref h1, .int x2, .int x3] : List Value).toArray s 0 0 (tA τ)) (F0 m 6 ls []) := by
    intro n6
    induction n6 with
    | zero => intro H locs ls v4 v5 hG hl b4 b5 c5 hn6; exact absurd hn6 (Nat.not_lt_zero _)
    | succ n6 ih6 =>
      intro H locs ls v4 v5 hG hl b4 b5 c5 hn6
      refine lv_iload hx hb dX3_greatestOfKids_6 (lv_at hl 5 rfl) ?_
      refine lv_aload_n hx hb dX3_greatestOfKids_8 rfl (lv_at hl 1 rfl) ?_
      refine tc_geti E hG t1 fik_X3_144 dX3_greatestOfKids_9 (fun z1 lz1 uz1 => ?_)
      refine lv_icmp_ge (tgt := 46) hx hb dX3_greatestOfKids_12 (by decide) (fun c2 => ?_) (fun c2 => ?_)
      · skip
        have ic2 := tn_le rfl rfl c2
        refine lv_iload hx hb dX3_greatestOfKids_46 (lv_at hl 4 rfl) ?_
        exact tc_iret E hr hlk hG trivial dX3_greatestOfKids_48
      · skip
        have ic2 := tn_nle rfl rfl c2
        refine lv_iload hx hb dX3_greatestOfKids_15 (lv_at hl 4 rfl) ?_
        refine lv_aload_n hx hb dX3_greatestOfKids_17 rfl (lv_at hl 0 rfl) ?_
        refine lv_aload_n hx hb dX3_greatestOfKids_18 rfl (lv_at hl 0 rfl) ?_
        refine tc_getr E hG t0 frc_X3_9 dX3_greatestOfKids_19 (fun oa3 hoa3 => ?_)
        refine lv_aload_n hx hb dX3_greatestOfKids_22 rfl (lv_at hl 1 rfl) ?_
        refine lv_iload hx hb dX3_greatestOfKids_23 (lv_at hl 5 rfl) ?_
        refine tc_callpr (tc_runV (As := [.ref h1, .int v5]) (rest := [.ref h0, .int v4]) E hSt hG (c_X8_kidOf_c l G τ oa3 h1 v5 hoa3 t1 (by omega) (by omega)) hoa3 rv_26 kv_X8_kidOf ml_X3_147 (tRm_ok (by omega) (by omega)) rfl hl.1 rfl (Nat.le_of_ble_eq_true rfl) ⟨Nat.zero_le _, Nat.zero_le _⟩ dX3_greatestOfKids_25) (fun r4 pr4 => ?_)
        refine lv_iload_n hx hb dX3_greatestOfKids_28 rfl (lv_at hl 2 rfl) ?_
        refine lv_iload_n hx hb dX3_greatestOfKids_29 rfl (lv_at hl 3 rfl) ?_
        refine lv_iconst (v := 1) hx hb dX3_greatestOfKids_30 (by decide) ?_
        refine lv_iadd hx hb dX3_greatestOfKids_31 ?_
        refine lv_topi (fun z5 ez5 => ?_)
        have tz5 := tn_add ez5 rfl kI_1 (by omega) (by omega)
        refine tc_calli hG (tc_runV (As := [.ref r4, .int x2, .int z5]) (rest := [.int v4]) E hSt hG (ih h0 r4 x2 z5 t0 pr4 (by omega) (by omega)) t0 rv_27 kv_X3_askedOf ml_X3_191 (tRm_ok (by omega) (by omega)) rfl hl.1 rfl (Nat.le_of_ble_eq_true rfl) ⟨Nat.zero_le _, Nat.zero_le _⟩ dX3_greatestOfKids_32) (fun r6 H locs pr6 hG => ?_)
        refine tc_max (rest := []) E hl.1 ml_X3_155 kn_max1 kn_math kn_max2 ⟨tMx1 (by omega), tMx2 (k := 0) rfl (by omega)⟩ ⟨Nat.zero_le _, Nat.zero_le _⟩ dX3_greatestOfKids_35 (fun z7 ez7 => ?_)
        have tz7 := tn_max ez7
        refine lv_istore (lv' := [(4, .int z7), (0, .ref h0), (1, .ref h1), (2, .int x2), (3, .int x3), (5, .int v5)]) hx hb dX3_greatestOfKids_38 hl (by decide) rfl (fun ls hl => ?_)
        obtain ⟨z8, ez8⟩ : ∃ y : Int32, y = v5 + (1) := ⟨_, rfl⟩
        refine lv_iinc (v := z8) (lv' := [(5, .int z8), (4, .int z7), (0, .ref h0), (1, .ref h1), (2, .int x2), (3, .int x3)]) hx hb dX3_greatestOfKids_40 hl (k := 5) rfl (by rw [ez8]; rfl) (by decide) rfl (fun ls hl => ?_)
        have tz8 := tn_add ez8 rfl kI_1 (by omega) (by omega)
        refine lv_goto (tgt := 6) hx hb dX3_greatestOfKids_43 (by decide) ?_
        exact ih6 H locs ls z7 z8 hG (lv_sub hl [2, 3, 4, 5, 1, 0] rfl) (by omega) (by omega) (by omega) (by omega)
  refine lv_iconst (v := 0) hx hb dX3_greatestOfKids_0 (by decide) ?_
  refine lv_istore (lv' := [(4, .int 0), (0, .ref h0), (1, .ref h1), (2, .int x2), (3, .int x3)]) hx hb dX3_greatestOfKids_1 hl (by decide) rfl (fun ls hl => ?_)
  refine lv_iconst (v := 0) hx hb dX3_greatestOfKids_3 (by decide) ?_
  refine lv_istore (lv' := [(5, .int 0), (4, .int 0), (0, .ref h0), (1, .ref h1), (2, .int x2), (3, .int x3)]) hx hb dX3_greatestOfKids_4 hl (by decide) rfl (fun ls hl => ?_)
  exact J6 ((8 - (0 : Int32).toInt).toNat + 1) H locs ls (0 : Int32) (0 : Int32) hG (lv_sub hl [2, 3, 4, 5, 1, 0] rfl) (by decide) (by decide) (by decide) (Nat.lt_succ_self _)

set_option maxHeartbeats 4000000 in
set_option maxRecDepth 100000 in
theorem c_X3_kidsTogether_c (l : Launch) (G : tG) (τ : Nat → Nat) (h0 : Nat) (h1 : Nat) (x2 : Int32) (x3 : Int32) (t0 : τ h0 = 27) (t1 : τ h1 = 31) (l3 : 0 ≤ x3.toInt) (u3 : x3.toInt ≤ 23) (d : Nat) (ih : P_X3_askedOf_c l G τ d) (hd : (24 - x3.toInt).toNat < d + 1) : Met l yX3_kidsTogether (.code yX3_kidsTogether cX3_kidsTogether 7 (some .int) :: tWS) (tRm (3 * d + 5) (74 * d + 144)) (va_Pc [.ref h0, .ref h1, .int x2, .int x3] (tPre G τ)) (tQi G τ (fun r => True)) 0 0 (tA τ) := by
  refine tc_met (by decide) (Nat.le_of_ble_eq_true rfl) ?_
  intro p e s m below meth c E hSt hr hlk hG ls hl
  have hl : lv_has ls 7 [(0, .ref h0), (1, .ref h1), (2, .int x2), (3, .int x3)] := hl
  have hx := E.1
  have hb := E.2.1
  obtain ⟨H, eH⟩ : ∃ H, H = s.heap := ⟨_, rfl⟩
  obtain ⟨locs, eL⟩ : ∃ x : List Loc, x = [] := ⟨_, rfl⟩
  have hG : tGH G τ s H locs := by rw [eH, eL]; exact hG
  suffices hW : W p l e (tRm (3 * d + 5) (74 * d + 144)) s m ([.ref h0, .ref h1, .int x2, .int x3] : List Value).toArray below meth c H locs 0 0 (MQ below (tQi G τ (fun r => True)) ([.ref h0, .ref h1, .int x2, .int x3] : List Value).toArray s 0 0 (tA τ)) (F0 m 0 ls []) by subst eH; subst eL; exact hW
  clear eH eL
  have J22 : ∀ (n22 : Nat) (H : Heap) (locs : List Loc) (ls : Array Slot) (v4 : Int32) (v5 : Int32), tGH G τ s H locs → lv_has ls 7 [(0, .ref h0), (1, .ref h1), (2, .int x2), (3, .int x3), (4, .int v4), (5, .int v5)] → 0 ≤ v5.toInt → v5.toInt ≤ 8 → (8 - v5.toInt).toNat < n22 → W p l e (tRm (3 * d + 5) (74 * d + 144)) s m ([.ref h0, .ref h1, .int x2, .int x3] : List Value).toArray below meth c H locs 0 0 (MQ below (tQi G τ (fun r => True)) ([.ref h0, .ref h1, .int x2, .int x3] : List Value).toArray s 0 0 (tA τ)) (F0 m 22 ls []) := by
    intro n22
    induction n22 with
    | zero => intro H locs ls v4 v5 hG hl b5 c5 hn22; exact absurd hn22 (Nat.not_lt_zero _)
    | succ n22 ih22 =>
      intro H locs ls v4 v5 hG hl b5 c5 hn22
      refine lv_iload hx hb dX3_kidsTogether_22 (lv_at hl 5 rfl) ?_
      refine lv_aload_n hx hb dX3_kidsTogether_24 rfl (lv_at hl 1 rfl) ?_
      refine tc_geti E hG t1 fik_X3_144 dX3_kidsTogether_25 (fun z1 lz1 uz1 => ?_)
      refine lv_icmp_ge (tgt := 80) hx hb dX3_kidsTogether_28 (by decide) (fun c2 => ?_) (fun c2 => ?_)
      · skip
        have ic2 := tn_le rfl rfl c2
        refine lv_iload hx hb dX3_kidsTogether_80 (lv_at hl 4 rfl) ?_
        exact tc_iret E hr hlk hG trivial dX3_kidsTogether_82
      · skip
        have ic2 := tn_nle rfl rfl c2
        refine lv_aload_n hx hb dX3_kidsTogether_31 rfl (lv_at hl 0 rfl) ?_
        refine tc_getr E hG t0 frc_X3_9 dX3_kidsTogether_32 (fun oa3 hoa3 => ?_)
        refine lv_aload_n hx hb dX3_kidsTogether_35 rfl (lv_at hl 1 rfl) ?_
        refine lv_iload hx hb dX3_kidsTogether_36 (lv_at hl 5 rfl) ?_
        refine tc_callpr (tc_runV (As := [.ref h1, .int v5]) (rest := []) E hSt hG (c_X8_kidOf_c l G τ oa3 h1 v5 hoa3 t1 (by omega) (by omega)) hoa3 rv_26 kv_X8_kidOf ml_X3_147 (tRm_ok (by omega) (by omega)) rfl hl.1 rfl (Nat.le_of_ble_eq_true rfl) ⟨Nat.zero_le _, Nat.zero_le _⟩ dX3_kidsTogether_38) (fun r4 pr4 => ?_)
        refine lv_astore (lv' := [(6, .ref r4), (0, .ref h0), (1, .ref h1), (2, .int x2), (3, .int x3), (4, .int v4), (5, .int v5)]) hx hb dX3_kidsTogether_41 hl (by decide) rfl (fun ls hl => ?_)
        refine lv_iload hx hb dX3_kidsTogether_43 (lv_at hl 5 rfl) ?_
        refine lv_aload_n hx hb dX3_kidsTogether_45 rfl (lv_at hl 1 rfl) ?_
        refine lv_aload hx hb dX3_kidsTogether_46 (lv_at hl 0 rfl) ?_
        refine lv_iload_n hx hb dX3_kidsTogether_48 rfl (lv_at hl 3 rfl) ?_
        refine lv_iload_n hx hb dX3_kidsTogether_49 rfl (lv_at hl 4 rfl) ?_
        refine lv_iconst (v := 1) hx hb dX3_kidsTogether_50 (by decide) ?_
        refine lv_iadd hx hb dX3_kidsTogether_51 ?_
        refine lv_topi (fun z5 ez5 => ?_)
        have tz5 := tn_add ez5 rfl kI_1 (by omega) (by omega)
        refine tc_calli hG (tc_runV (As := [.ref r4, .int x2, .int z5]) (rest := [.int v4]) E hSt hG (ih h0 r4 x2 z5 t0 pr4 (by omega) (by omega)) t0 rv_27 kv_X3_askedOf ml_X3_191 (tRm_ok (by omega) (by omega)) rfl hl.1 rfl (Nat.le_of_ble_eq_true rfl) ⟨Nat.zero_le _, Nat.zero_le _⟩ dX3_kidsTogether_52) (fun r6 H locs pr6 hG => ?_)
        refine lv_aload hx hb dX3_kidsTogether_55 (lv_at hl 0 rfl) ?_
        refine tc_geti E hG pr4 fik_X3_237 dX3_kidsTogether_57 (fun z7 _ _ => ?_)
        refine lv_aload hx hb dX3_kidsTogether_60 (lv_at hl 0 rfl) ?_
        refine tc_geti E hG pr4 fik_X3_240 dX3_kidsTogether_62 (fun z8 _ _ => ?_)
        refine tc_callp (tc_runS (As := [.int z8]) (rest := [.int z7, .int r6, .int v4]) E hSt hG (c_X0_orNoEnd l G τ z8) ks_X0_orNoEnd ml_X3_183 (tRm_ok (by omega) (by omega)) rfl hl.1 rfl (Nat.le_of_ble_eq_true rfl) ⟨Nat.zero_le _, Nat.zero_le _⟩ dX3_kidsTogether_65) (fun r9 pr9 => ?_)
        refine tc_callp (tc_runN (As := [.int r6, .int z7, .int r9]) (rest := [.int v4]) E hSt hG (c_X9_held l G τ r6 z7 r9) ks_X9_held (List.mem_of_getElem? (i := 2) rfl) (tRm_ok (by omega) (by omega)) rfl hl.1 rfl (Nat.le_of_ble_eq_true rfl) ⟨Nat.zero_le _, Nat.zero_le _⟩ dX3_kidsTogether_68) (fun r10 pr10 => ?_)
        refine lv_iadd hx hb dX3_kidsTogether_71 ?_
        refine lv_topi (fun z11 ez11 => ?_)
        refine lv_istore (lv' := [(4, .int z11), (6, .ref r4), (0, .ref h0), (1, .ref h1), (2, .int x2), (3, .int x3), (5, .int v5)]) hx hb dX3_kidsTogether_72 hl (by decide) rfl (fun ls hl => ?_)
        obtain ⟨z12, ez12⟩ : ∃ y : Int32, y = v5 + (1) := ⟨_, rfl⟩
        refine lv_iinc (v := z12) (lv' := [(5, .int z12), (4, .int z11), (6, .ref r4), (0, .ref h0), (1, .ref h1), (2, .int x2), (3, .int x3)]) hx hb dX3_kidsTogether_74 hl (k := 6) rfl (by rw [ez12]; rfl) (by decide) rfl (fun ls hl => ?_)
        have tz12 := tn_add ez12 rfl kI_1 (by omega) (by omega)
        refine lv_goto (tgt := 22) hx hb dX3_kidsTogether_77 (by decide) ?_
        exact ih22 H locs ls z11 z12 hG (lv_sub hl [3, 4, 5, 6, 1, 0] rfl) (by omega) (by omega) (by omega)
  refine lv_iconst (v := 0) hx hb dX3_kidsTogether_0 (by decide) ?_
  refine lv_aload_n hx hb dX3_kidsTogether_1 rfl (lv_at hl 1 rfl) ?_
  refine tc_geti E hG t1 fik_X3_144 dX3_kidsTogether_2 (fun z13 lz13 uz13 => ?_)
  refine lv_iconst (v := 1) hx hb dX3_kidsTogether_5 (by decide) ?_
  refine lv_isub hx hb dX3_kidsTogether_6 ?_
  refine lv_topi (fun z14 ez14 => ?_)
  have tz14 := tn_sub ez14 rfl kI_1 (by omega) (by omega)
  refine tc_max (rest := []) E hl.1 ml_X3_155 kn_max1 kn_math kn_max2 ⟨tMx1 (by omega), tMx2 (k := 0) rfl (by omega)⟩ ⟨Nat.zero_le _, Nat.zero_le _⟩ dX3_kidsTogether_7 (fun z15 ez15 => ?_)
  have tz15 := tn_max ez15
  have kk16_ := kI_0
  refine lv_aload_n hx hb dX3_kidsTogether_10 rfl (lv_at hl 1 rfl) ?_
  refine tc_getr E hG t1 frk_X3_111 dX3_kidsTogether_11 (fun oa17 hoa17 => ?_)
  refine lv_iconst (v := 1) hx hb dX3_kidsTogether_14 (by decide) ?_
  refine tc_iald E hG hoa17 ta_32 (t_in (by decide) (by decide)) dX3_kidsTogether_15 (fun z18 _ _ => ?_)
  refine lv_imul hx hb dX3_kidsTogether_16 ?_
  refine lv_topi (fun z19 ez19 => ?_)
  refine lv_istore (lv' := [(4, .int z19), (0, .ref h0), (1, .ref h1), (2, .int x2), (3, .int x3)]) hx hb dX3_kidsTogether_17 hl (by decide) rfl (fun ls hl => ?_)
  refine lv_iconst (v := 0) hx hb dX3_kidsTogether_19 (by decide) ?_
  refine lv_istore (lv' := [(5, .int 0), (4, .int z19), (0, .ref h0), (1, .ref h1), (2, .int x2), (3, .int x3)]) hx hb dX3_kidsTogether_20 hl (by decide) rfl (fun ls hl => ?_)
  exact J22 ((8 - (0 : Int32).toInt).toNat + 1) H locs ls z19 (0 : Int32) hG (lv_sub hl [2, 3, 4, 5, 1, 0] rfl) (by decide) (by decide) (Nat.lt_succ_self _)

set_option maxHeartbeats 4000000 in
set_option maxRecDepth 100000 in
theorem c_X3_figured_c (l : Launch) (G : tG) (τ : Nat → Nat) (h0 : Nat) (h1 : Nat) (x2 : Int32) (x3 : Int32) (t0 : τ h0 = 27) (t1 : τ h1 = 31) (l3 : 0 ≤ x3.toInt) (u3 : x3.toInt ≤ 23) (d : Nat) (ih : P_X3_askedOf_c l G τ d) (hd : (24 - x3.toInt).toNat < d + 1) : Met l yX3_figured (.code yX3_figured cX3_figured 5 (some .int) :: tWS) (tRm (3 * d + 6) (74 * d + 170)) (va_Pc [.ref h0, .ref h1, .int x2, .int x3] (tPre G τ)) (tQi G τ (fun r => True)) 0 0 (tA τ) := by
  refine tc_met (by decide) (Nat.le_of_ble_eq_true rfl) ?_
  intro p e s m below meth c E hSt hr hlk hG ls hl
  have hl : lv_has ls 5 [(0, .ref h0), (1, .ref h1), (2, .int x2), (3, .int x3)] := hl
  have hx := E.1
  have hb := E.2.1
  obtain ⟨H, eH⟩ : ∃ H, H = s.heap := ⟨_, rfl⟩
  obtain ⟨locs, eL⟩ : ∃ x : List Loc, x = [] := ⟨_, rfl⟩
  have hG : tGH G τ s H locs := by rw [eH, eL]; exact hG
  suffices hW : W p l e (tRm (3 * d + 6) (74 * d + 170)) s m ([.ref h0, .ref h1, .int x2, .int x3] : List Value).toArray below meth c H locs 0 0 (MQ below (tQi G τ (fun r => True)) ([.ref h0, .ref h1, .int x2, .int x3] : List Value).toArray s 0 0 (tA τ)) (F0 m 0 ls []) by subst eH; subst eL; exact hW
  clear eH eL
  refine lv_aload_n hx hb dX3_figured_0 rfl (lv_at hl 1 rfl) ?_
  refine tc_getr E hG t1 frk_X3_111 dX3_figured_1 (fun oa1 hoa1 => ?_)
  refine lv_iconst (v := 0) hx hb dX3_figured_4 (by decide) ?_
  refine tc_iald E hG hoa1 ta_32 (t_in (by decide) (by decide)) dX3_figured_5 (fun z2 _ _ => ?_)
  refine lv_istore (lv' := [(4, .int z2), (0, .ref h0), (1, .ref h1), (2, .int x2), (3, .int x3)]) hx hb dX3_figured_6 hl (by decide) rfl (fun ls hl => ?_)
  refine lv_aload_n hx hb dX3_figured_8 rfl (lv_at hl 2 rfl) ?_
  refine tc_geti E hG t1 fik_X3_108 dX3_figured_9 (fun z3 _ _ => ?_)
  rcases (show (z3.toInt < 0 ∨ 8 < z3.toInt) ∨ z3.toInt = 0 ∨ z3.toInt = 1 ∨ z3.toInt = 2 ∨ z3.toInt = 3 ∨ z3.toInt = 4 ∨ z3.toInt = 5 ∨ z3.toInt = 6 ∨ z3.toInt = 7 ∨ z3.toInt = 8 by omega) with k4 | k4 | k4 | k4 | k4 | k4 | k4 | k4 | k4 | k4
  · refine lv_tableOut (tgt := 149) hx hb dX3_figured_12 k4 (by decide) ?_
    refine lv_aload_n hx hb dX3_figured_149 rfl (lv_at hl 1 rfl) ?_
    refine lv_aload_n hx hb dX3_figured_150 rfl (lv_at hl 2 rfl) ?_
    refine lv_iload_n hx hb dX3_figured_151 rfl (lv_at hl 3 rfl) ?_
    refine lv_iload_n hx hb dX3_figured_152 rfl (lv_at hl 4 rfl) ?_
    refine tc_calli hG (tc_runV (As := [.ref h1, .int x2, .int x3]) (rest := []) E hSt hG (c_X3_greatestOfKids_c l G τ h0 h1 x2 x3 t0 t1 (by omega) (by omega) d ih (by omega)) t0 rv_27 kv_X3_greatestOfKids ml_X3_291 (tRm_ok (by omega) (by omega)) rfl hl.1 rfl (Nat.le_of_ble_eq_true rfl) ⟨Nat.zero_le _, Nat.zero_le _⟩ dX3_figured_153) (fun r5 H locs pr5 hG => ?_)
    exact tc_iret E hr hlk hG trivial dX3_figured_156
  · refine lv_tableIn (off := 52) (tgt := 64) hx hb dX3_figured_12 (by rw [k4]; decide) (by rw [k4]; decide) (by rw [k4]; rfl) (by decide) ?_
    refine lv_iload hx hb dX3_figured_64 (lv_at hl 0 rfl) ?_
    exact tc_iret E hr hlk hG trivial dX3_figured_66
  · refine lv_tableIn (off := 55) (tgt := 67) hx hb dX3_figured_12 (by rw [k4]; decide) (by rw [k4]; decide) (by rw [k4]; rfl) (by decide) ?_
    refine lv_iload_n hx hb dX3_figured_67 rfl (lv_at hl 3 rfl) ?_
    refine lv_if_ne (tgt := 78) hx hb dX3_figured_68 (by decide) (fun c6 => ?_) (fun c6 => ?_)
    · skip
      have ic6 := tn_ne rfl kI_0 c6
      refine lv_aload_n hx hb dX3_figured_78 rfl (lv_at hl 2 rfl) ?_
      refine tc_callp (tc_runS (As := [.ref h1]) (rest := []) E hSt hG (c_X3_widestWord_c l G τ h1 t1) ks_X3_widestWord ml_X3_288 (tRm_ok (by omega) (by omega)) rfl hl.1 rfl (Nat.le_of_ble_eq_true rfl) ⟨Nat.zero_le _, Nat.zero_le _⟩ dX3_figured_79) (fun r7 pr7 => ?_)
      exact tc_iret E hr hlk hG trivial dX3_figured_82
    · skip
      have ic6 := tn_eq rfl kI_0 c6
      refine lv_aload_n hx hb dX3_figured_71 rfl (lv_at hl 2 rfl) ?_
      refine tc_callp (tc_runS (As := [.ref h1]) (rest := []) E hSt hG (c_X3_wordsInALine_c l G τ h1 t1) ks_X3_wordsInALine ml_X3_285 (tRm_ok (by omega) (by omega)) rfl hl.1 rfl (Nat.le_of_ble_eq_true rfl) ⟨Nat.zero_le _, Nat.zero_le _⟩ dX3_figured_72) (fun r8 pr8 => ?_)
      refine lv_goto (tgt := 82) hx hb dX3_figured_75 (by decide) ?_
      exact tc_iret E hr hlk hG trivial dX3_figured_82
  · refine lv_tableIn (off := 71) (tgt := 83) hx hb dX3_figured_12 (by rw [k4]; decide) (by rw [k4]; decide) (by rw [k4]; rfl) (by decide) ?_
    refine lv_aload_n hx hb dX3_figured_83 rfl (lv_at hl 1 rfl) ?_
    refine lv_aload_n hx hb dX3_figured_84 rfl (lv_at hl 2 rfl) ?_
    refine lv_iload_n hx hb dX3_figured_85 rfl (lv_at hl 3 rfl) ?_
    refine lv_iload_n hx hb dX3_figured_86 rfl (lv_at hl 4 rfl) ?_
    refine tc_calli hG (tc_runV (As := [.ref h1, .int x2, .int x3]) (rest := []) E hSt hG (c_X3_greatestOfKids_c l G τ h0 h1 x2 x3 t0 t1 (by omega) (by omega) d ih (by omega)) t0 rv_27 kv_X3_greatestOfKids ml_X3_291 (tRm_ok (by omega) (by omega)) rfl hl.1 rfl (Nat.le_of_ble_eq_true rfl) ⟨Nat.zero_le _, Nat.zero_le _⟩ dX3_figured_87) (fun r9 H locs pr9 hG => ?_)
    refine lv_iconst (v := 2) hx hb dX3_figured_90 (by decide) ?_
    refine lv_iload hx hb dX3_figured_91 (lv_at hl 0 rfl) ?_
    refine lv_imul hx hb dX3_figured_93 ?_
    refine lv_topi (fun z10 ez10 => ?_)
    refine lv_iadd hx hb dX3_figured_94 ?_
    refine lv_topi (fun z11 ez11 => ?_)
    exact tc_iret E hr hlk hG trivial dX3_figured_95
  · refine lv_tableIn (off := 84) (tgt := 96) hx hb dX3_figured_12 (by rw [k4]; decide) (by rw [k4]; decide) (by rw [k4]; rfl) (by decide) ?_
    refine lv_aload_n hx hb dX3_figured_96 rfl (lv_at hl 1 rfl) ?_
    refine lv_aload_n hx hb dX3_figured_97 rfl (lv_at hl 2 rfl) ?_
    refine lv_iload_n hx hb dX3_figured_98 rfl (lv_at hl 3 rfl) ?_
    refine lv_iload_n hx hb dX3_figured_99 rfl (lv_at hl 4 rfl) ?_
    refine tc_calli hG (tc_runV (As := [.ref h1, .int x2, .int x3]) (rest := []) E hSt hG (c_X3_greatestOfKids_c l G τ h0 h1 x2 x3 t0 t1 (by omega) (by omega) d ih (by omega)) t0 rv_27 kv_X3_greatestOfKids ml_X3_291 (tRm_ok (by omega) (by omega)) rfl hl.1 rfl (Nat.le_of_ble_eq_true rfl) ⟨Nat.zero_le _, Nat.zero_le _⟩ dX3_figured_100) (fun r12 H locs pr12 hG => ?_)
    refine lv_iload hx hb dX3_figured_103 (lv_at hl 0 rfl) ?_
    refine lv_aload_n hx hb dX3_figured_105 rfl (lv_at hl 2 rfl) ?_
    refine tc_getr E hG t1 frk_X3_111 dX3_figured_106 (fun oa13 hoa13 => ?_)
    refine lv_iconst (v := 1) hx hb dX3_figured_109 (by decide) ?_
    refine tc_iald E hG hoa13 ta_32 (t_in (by decide) (by decide)) dX3_figured_110 (fun z14 _ _ => ?_)
    refine tc_callp (tc_runS (As := [.int z14]) (rest := [.int z2, .int r12]) E hSt hG (c_X0_orNoEnd l G τ z14) ks_X0_orNoEnd ml_X3_183 (tRm_ok (by omega) (by omega)) rfl hl.1 rfl (Nat.le_of_ble_eq_true rfl) ⟨Nat.zero_le _, Nat.zero_le _⟩ dX3_figured_111) (fun r15 pr15 => ?_)
    refine tc_callp (tc_runN (As := [.int r12, .int z2, .int r15]) (rest := []) E hSt hG (c_X9_held l G τ r12 z2 r15) ks_X9_held (List.mem_of_getElem? (i := 2) rfl) (tRm_ok (by omega) (by omega)) rfl hl.1 rfl (Nat.le_of_ble_eq_true rfl) ⟨Nat.zero_le _, Nat.zero_le _⟩ dX3_figured_114) (fun r16 pr16 => ?_)
    exact tc_iret E hr hlk hG trivial dX3_figured_117
  · refine lv_tableIn (off := 137) (tgt := 149) hx hb dX3_figured_12 (by rw [k4]; decide) (by rw [k4]; decide) (by rw [k4]; rfl) (by decide) ?_
    refine lv_aload_n hx hb dX3_figured_149 rfl (lv_at hl 1 rfl) ?_
    refine lv_aload_n hx hb dX3_figured_150 rfl (lv_at hl 2 rfl) ?_
    refine lv_iload_n hx hb dX3_figured_151 rfl (lv_at hl 3 rfl) ?_
    refine lv_iload_n hx hb dX3_figured_152 rfl (lv_at hl 4 rfl) ?_
    refine tc_calli hG (tc_runV (As := [.ref h1, .int x2, .int x3]) (rest := []) E hSt hG (c_X3_greatestOfKids_c l G τ h0 h1 x2 x3 t0 t1 (by omega) (by omega) d ih (by omega)) t0 rv_27 kv_X3_greatestOfKids ml_X3_291 (tRm_ok (by omega) (by omega)) rfl hl.1 rfl (Nat.le_of_ble_eq_true rfl) ⟨Nat.zero_le _, Nat.zero_le _⟩ dX3_figured_153) (fun r17 H locs pr17 hG => ?_)
    exact tc_iret E hr hlk hG trivial dX3_figured_156
  · refine lv_tableIn (off := 106) (tgt := 118) hx hb dX3_figured_12 (by rw [k4]; decide) (by rw [k4]; decide) (by rw [k4]; rfl) (by decide) ?_
    refine lv_aload_n hx hb dX3_figured_118 rfl (lv_at hl 1 rfl) ?_
    refine lv_aload_n hx hb dX3_figured_119 rfl (lv_at hl 2 rfl) ?_
    refine lv_iconst (v := 0) hx hb dX3_figured_120 (by decide) ?_
    refine lv_iload_n hx hb dX3_figured_121 rfl (lv_at hl 4 rfl) ?_
    refine tc_calli hG (tc_runV (As := [.ref h1, .int 0, .int x3]) (rest := []) E hSt hG (c_X3_greatestOfKids_c l G τ h0 h1 (0 : Int32) x3 t0 t1 (by omega) (by omega) d ih (by omega)) t0 rv_27 kv_X3_greatestOfKids ml_X3_291 (tRm_ok (by omega) (by omega)) rfl hl.1 rfl (Nat.le_of_ble_eq_true rfl) ⟨Nat.zero_le _, Nat.zero_le _⟩ dX3_figured_122) (fun r18 H locs pr18 hG => ?_)
    exact tc_iret E hr hlk hG trivial dX3_figured_125
  · refine lv_tableIn (off := 114) (tgt := 126) hx hb dX3_figured_12 (by rw [k4]; decide) (by rw [k4]; decide) (by rw [k4]; rfl) (by decide) ?_
    refine lv_iload_n hx hb dX3_figured_126 rfl (lv_at hl 3 rfl) ?_
    refine lv_if_ne (tgt := 138) hx hb dX3_figured_127 (by decide) (fun c19 => ?_) (fun c19 => ?_)
    · skip
      have ic19 := tn_ne rfl kI_0 c19
      refine lv_iload hx hb dX3_figured_138 (lv_at hl 0 rfl) ?_
      exact tc_iret E hr hlk hG trivial dX3_figured_140
    · skip
      have ic19 := tn_eq rfl kI_0 c19
      refine lv_bipush (v := 10) hx hb dX3_figured_130 (by decide) ?_
      refine lv_iload hx hb dX3_figured_132 (lv_at hl 0 rfl) ?_
      refine lv_imul hx hb dX3_figured_134 ?_
      refine lv_topi (fun z20 ez20 => ?_)
      refine lv_goto (tgt := 140) hx hb dX3_figured_135 (by decide) ?_
      exact tc_iret E hr hlk hG trivial dX3_figured_140
  · refine lv_tableIn (off := 137) (tgt := 149) hx hb dX3_figured_12 (by rw [k4]; decide) (by rw [k4]; decide) (by rw [k4]; rfl) (by decide) ?_
    refine lv_aload_n hx hb dX3_figured_149 rfl (lv_at hl 1 rfl) ?_
    refine lv_aload_n hx hb dX3_figured_150 rfl (lv_at hl 2 rfl) ?_
    refine lv_iload_n hx hb dX3_figured_151 rfl (lv_at hl 3 rfl) ?_
    refine lv_iload_n hx hb dX3_figured_152 rfl (lv_at hl 4 rfl) ?_
    refine tc_calli hG (tc_runV (As := [.ref h1, .int x2, .int x3]) (rest := []) E hSt hG (c_X3_greatestOfKids_c l G τ h0 h1 x2 x3 t0 t1 (by omega) (by omega) d ih (by omega)) t0 rv_27 kv_X3_greatestOfKids ml_X3_291 (tRm_ok (by omega) (by omega)) rfl hl.1 rfl (Nat.le_of_ble_eq_true rfl) ⟨Nat.zero_le _, Nat.zero_le _⟩ dX3_figured_153) (fun r21 H locs pr21 hG => ?_)
    exact tc_iret E hr hlk hG trivial dX3_figured_156
  · refine lv_tableIn (off := 129) (tgt := 141) hx hb dX3_figured_12 (by rw [k4]; decide) (by rw [k4]; decide) (by rw [k4]; rfl) (by decide) ?_
    refine lv_aload_n hx hb dX3_figured_141 rfl (lv_at hl 1 rfl) ?_
    refine lv_aload_n hx hb dX3_figured_142 rfl (lv_at hl 2 rfl) ?_
    refine lv_iload_n hx hb dX3_figured_143 rfl (lv_at hl 3 rfl) ?_
    refine lv_iload_n hx hb dX3_figured_144 rfl (lv_at hl 4 rfl) ?_
    refine tc_calli hG (tc_runV (As := [.ref h1, .int x2, .int x3]) (rest := []) E hSt hG (c_X3_kidsTogether_c l G τ h0 h1 x2 x3 t0 t1 (by omega) (by omega) d ih (by omega)) t0 rv_27 kv_X3_kidsTogether ml_X3_294 (tRm_ok (by omega) (by omega)) rfl hl.1 rfl (Nat.le_of_ble_eq_true rfl) ⟨Nat.zero_le _, Nat.zero_le _⟩ dX3_figured_145) (fun r22 H locs pr22 hG => ?_)
    exact tc_iret E hr hlk hG trivial dX3_figured_148

set_option maxHeartbeats 4000000 in
set_option maxRecDepth 100000 in
theorem c_X3_askedOf_c (l : Launch) (G : tG) (τ : Nat → Nat) : ∀ (d : Nat) (h0 : Nat) (h1 : Nat) (x2 : Int32) (x3 : Int32) (t0 : τ h0 = 27) (t1 : τ h1 = 31) (l3 : 0 ≤ x3.toInt) (hd : (24 - x3.toInt).toNat < d), Met l yX3_askedOf (.code yX3_askedOf cX3_askedOf 5 (some .int) :: tWS) (tRm (3 * d + 4) (74 * d + 120)) (va_Pc [.ref h0, .ref h1, .int x2, .int x3] (tPre G τ)) (tQi G τ (fun r => True)) 0 0 (tA τ) := by
  intro d
  induction d with
  | zero => intro h0 h1 x2 x3 t0 t1 l3 hd; exact absurd hd (Nat.not_lt_zero _)
  | succ d ih =>
  intro h0 h1 x2 x3 t0 t1 l3 hd
  refine tc_met (by decide) (Nat.le_of_ble_eq_true rfl) ?_
  intro p e s m below meth c E hSt hr hlk hG ls hl
  have hl : lv_has ls 5 [(0, .ref h0), (1, .ref h1), (2, .int x2), (3, .int x3)] := hl
  have hx := E.1
  have hb := E.2.1
  obtain ⟨H, eH⟩ : ∃ H, H = s.heap := ⟨_, rfl⟩
  obtain ⟨locs, eL⟩ : ∃ x : List Loc, x = [] := ⟨_, rfl⟩
  have hG : tGH G τ s H locs := by rw [eH, eL]; exact hG
  suffices hW : W p l e (tRm (3 * (d + 1) + 4) (74 * (d + 1) + 120)) s m ([.ref h0, .ref h1, .int x2, .int x3] : List Value).toArray below meth c H locs 0 0 (MQ below (tQi G τ (fun r => True)) ([.ref h0, .ref h1, .int x2, .int x3] : List Value).toArray s 0 0 (tA τ)) (F0 m 0 ls []) by subst eH; subst eL; exact hW
  clear eH eL
  refine lv_aload_n hx hb dX3_askedOf_0 rfl (lv_at hl 1 rfl) ?_
  refine lv_iload_n hx hb dX3_askedOf_1 rfl (lv_at hl 2 rfl) ?_
  refine tc_callp (tc_runV (As := [.int x2]) (rest := []) E hSt hG (c_X0_hasMemo_k l G τ h1 x2 t1) t1 rv_31 kv_X0_hasMemo ml_X3_270 (tRm_ok (by omega) (by omega)) rfl hl.1 rfl (Nat.le_of_ble_eq_true rfl) ⟨Nat.zero_le _, Nat.zero_le _⟩ dX3_askedOf_2) (fun r1 pr1 => ?_)
  have pr1 : 0 ≤ r1.toInt ∧ r1.toInt ≤ 1 := pr1
  refine lv_if_ne (tgt := 14) hx hb dX3_askedOf_5 (by decide) (fun c2 => ?_) (fun c2 => ?_)
  · skip
    have ic2 := tn_ne rfl kI_0 c2
    refine lv_aload_n hx hb dX3_askedOf_14 rfl (lv_at hl 1 rfl) ?_
    refine lv_iload_n hx hb dX3_askedOf_15 rfl (lv_at hl 2 rfl) ?_
    refine tc_callp (tc_runV (As := [.int x2]) (rest := []) E hSt hG (c_X0_memoOf_k l G τ h1 x2 t1) t1 rv_31 kv_X0_memoOf ml_X3_273 (tRm_ok (by omega) (by omega)) rfl hl.1 rfl (Nat.le_of_ble_eq_true rfl) ⟨Nat.zero_le _, Nat.zero_le _⟩ dX3_askedOf_16) (fun r3 pr3 => ?_)
    exact tc_iret E hr hlk hG trivial dX3_askedOf_19
  · skip
    have ic2 := tn_eq rfl kI_0 c2
    refine lv_iload_n hx hb dX3_askedOf_8 rfl (lv_at hl 3 rfl) ?_
    refine lv_bipush (v := 24) hx hb dX3_askedOf_9 (by decide) ?_
    refine lv_icmp_lt (tgt := 20) hx hb dX3_askedOf_11 (by decide) (fun c4 => ?_) (fun c4 => ?_)
    · skip
      have ic4 := tn_lt rfl kI_24 c4
      refine lv_aload_n hx hb dX3_askedOf_20 rfl (lv_at hl 0 rfl) ?_
      refine lv_aload_n hx hb dX3_askedOf_21 rfl (lv_at hl 1 rfl) ?_
      refine lv_iload_n hx hb dX3_askedOf_22 rfl (lv_at hl 2 rfl) ?_
      refine lv_iload_n hx hb dX3_askedOf_23 rfl (lv_at hl 3 rfl) ?_
      refine tc_calli hG (tc_runV (As := [.ref h1, .int x2, .int x3]) (rest := []) E hSt hG (c_X3_figured_c l G τ h0 h1 x2 x3 t0 t1 (by omega) (by omega) d ih (by omega)) t0 rv_27 kv_X3_figured ml_X3_276 (tRm_ok (by omega) (by omega)) rfl hl.1 rfl (Nat.le_of_ble_eq_true rfl) ⟨Nat.zero_le _, Nat.zero_le _⟩ dX3_askedOf_24) (fun r5 H locs pr5 hG => ?_)
      refine lv_istore (lv' := [(4, .int r5), (0, .ref h0), (1, .ref h1), (2, .int x2), (3, .int x3)]) hx hb dX3_askedOf_27 hl (by decide) rfl (fun ls hl => ?_)
      refine lv_aload_n hx hb dX3_askedOf_29 rfl (lv_at hl 2 rfl) ?_
      refine lv_iload_n hx hb dX3_askedOf_30 rfl (lv_at hl 3 rfl) ?_
      refine lv_iload hx hb dX3_askedOf_31 (lv_at hl 0 rfl) ?_
      refine tc_callv hG (tc_runV (As := [.int x2, .int r5]) (rest := []) E hSt hG (c_X0_keepMemo_k l G τ h1 x2 r5 t1) t1 rv_31 kv_X0_keepMemo ml_X3_279 (tRm_ok (by omega) (by omega)) rfl hl.1 rfl (Nat.le_of_ble_eq_true rfl) ⟨Nat.zero_le _, Nat.zero_le _⟩ dX3_askedOf_33) (fun H locs hG => ?_)
      refine lv_aload_n hx hb dX3_askedOf_36 rfl (lv_at hl 1 rfl) ?_
      refine lv_dup hx hb dX3_askedOf_37 rfl ?_
      refine tc_geti E hG t0 fic_X3_282 dX3_askedOf_38 (fun z7 _ _ => ?_)
      refine lv_iconst (v := 1) hx hb dX3_askedOf_41 (by decide) ?_
      refine lv_iadd hx hb dX3_askedOf_42 ?_
      refine lv_topi (fun z8 ez8 => ?_)
      refine tc_puti E hG t0 fpc_X3_282 (t_any1 _) (t_any2 _) dX3_askedOf_43 (fun H locs hG => ?_)
      refine lv_iload hx hb dX3_askedOf_46 (lv_at hl 0 rfl) ?_
      exact tc_iret E hr hlk hG trivial dX3_askedOf_48
    · skip
      have ic4 := tn_nlt rfl kI_24 c4
      refine lv_aload_n hx hb dX3_askedOf_14 rfl (lv_at hl 1 rfl) ?_
      refine lv_iload_n hx hb dX3_askedOf_15 rfl (lv_at hl 2 rfl) ?_
      refine tc_callp (tc_runV (As := [.int x2]) (rest := []) E hSt hG (c_X0_memoOf_k l G τ h1 x2 t1) t1 rv_31 kv_X0_memoOf ml_X3_273 (tRm_ok (by omega) (by omega)) rfl hl.1 rfl (Nat.le_of_ble_eq_true rfl) ⟨Nat.zero_le _, Nat.zero_le _⟩ dX3_askedOf_16) (fun r9 pr9 => ?_)
      exact tc_iret E hr hlk hG trivial dX3_askedOf_19

set_option maxHeartbeats 4000000 in
set_option maxRecDepth 100000 in
theorem c_X3_ask_c (l : Launch) (G : tG) (τ : Nat → Nat) (h0 : Nat) (h1 : Nat) (x2 : Int32) (t0 : τ h0 = 27) (t1 : τ h1 = 31) : Met l yX3_ask (.code yX3_ask cX3_ask 3 (some .int) :: tWS) (tRm 80 1994) (va_Pc [.ref h0, .ref h1, .int x2] (tPre G τ)) (tQi G τ (fun r => True)) 0 0 (tA τ) := by
  refine tc_met (by decide) (Nat.le_of_ble_eq_true rfl) ?_
  intro p e s m below meth c E hSt hr hlk hG ls hl
  have hl : lv_has ls 3 [(0, .ref h0), (1, .ref h1), (2, .int x2)] := hl
  have hx := E.1
  have hb := E.2.1
  obtain ⟨H, eH⟩ : ∃ H, H = s.heap := ⟨_, rfl⟩
  obtain ⟨locs, eL⟩ : ∃ x : List Loc, x = [] := ⟨_, rfl⟩
  have hG : tGH G τ s H locs := by rw [eH, eL]; exact hG
  suffices hW : W p l e (tRm 80 1994) s m ([.ref h0, .ref h1, .int x2] : List Value).toArray below meth c H locs 0 0 (MQ below (tQi G τ (fun r => True)) ([.ref h0, .ref h1, .int x2] : List Value).toArray s 0 0 (tA τ)) (F0 m 0 ls []) by subst eH; subst eL; exact hW
  clear eH eL
  refine lv_aload_n hx hb dX3_ask_0 rfl (lv_at hl 0 rfl) ?_
  refine lv_aload_n hx hb dX3_ask_1 rfl (lv_at hl 1 rfl) ?_
  refine lv_iload_n hx hb dX3_ask_2 rfl (lv_at hl 2 rfl) ?_
  refine lv_iconst (v := 0) hx hb dX3_ask_3 (by decide) ?_
  refine tc_calli hG (tc_runV (As := [.ref h1, .int x2, .int 0]) (rest := []) E hSt hG (c_X3_askedOf_c l G τ 25 h0 h1 x2 (0 : Int32) t0 t1 (by decide) (by first | decide | omega)) t0 rv_27 kv_X3_askedOf ml_X3_191 ⟨rfl, rfl, Nat.le_of_ble_eq_true rfl, Nat.le_of_ble_eq_true rfl⟩ rfl hl.1 rfl (Nat.le_of_ble_eq_true rfl) ⟨Nat.zero_le _, Nat.zero_le _⟩ dX3_ask_4) (fun r1 H locs pr1 hG => ?_)
  exact tc_iret E hr hlk hG trivial dX3_ask_7

def P_X3_lay_c (l : Launch) (G : tG) (τ : Nat → Nat) (d : Nat) : Prop := ∀ (h0 : Nat) (h1 : Nat) (x2 : Int32) (x3 : Int32) (x4 : Int32) (x5 : Int32) (x6 : Int32), τ h0 = 27 → τ h1 = 31 → 0 ≤ x6.toInt → (24 - x6.toInt).toNat < d → Met l yX3_lay (.code yX3_lay cX3_lay 8 none :: tWS) (tRm (42 * d + 40) (541 * d + 1500)) (va_Pc [.ref h0, .ref h1, .int x2, .int x3, .int x4, .int x5, .int x6] (tPre G τ)) (tQv G τ) 0 0 (tA τ)
set_option maxHeartbeats 4000000 in
set_option maxRecDepth 100000 in
theorem c_X3_layLoose_c (l : Launch) (G : tG) (τ : Nat → Nat) (h0 : Nat) (h1 : Nat) (h2 : Nat) (x3 : Int32) (t0 : τ h0 = 27) (t1 : τ h1 = 31) (t2 : τ h2 = 31) (l3 : 0 ≤ x3.toInt) (u3 : x3.toInt ≤ 23) (d : Nat) (ih : P_X3_lay_c l G τ d) (hd : (24 - x3.toInt).toNat < d + 1) : Met l yX3_layLoose (.code yX3_layLoose cX3_layLoose 4 none :: tWS) (tRm (42 * d + 41) (541 * d + 1527)) (va_Pc [.ref h0, .ref h1, .ref h2, .int x3] (tPre G τ)) (tQv G τ) 0 0 (tA τ) := by
  refine tc_met (by decide) (Nat.le_of_ble_eq_true rfl) ?_
  intro p e s m below meth c E hSt hr hlk hG ls hl
  have hl : lv_has ls 4 [(0, .ref h0), (1, .ref h1), (2, .ref h2), (3, .int x3)] := hl
  have hx := E.1
  have hb := E.2.1
  obtain ⟨H, eH⟩ : ∃ H, H = s.heap := ⟨_, rfl⟩
  obtain ⟨locs, eL⟩ : ∃ x : List Loc, x = [] := ⟨_, rfl⟩
  have hG : tGH G τ s H locs := by rw [eH, eL]; exact hG
  suffices hW : W p l e (tRm (42 * d + 41) (541 * d + 1527)) s m ([.ref h0, .ref h1, .ref h2, .int x3] : List Value).toArray below meth c H locs 0 0 (MQ below (tQv G τ) ([.ref h0, .ref h1, .ref h2, .int x3] : List Value).toArray s 0 0 (tA τ)) (F0 m 0 ls []) by subst eH; subst eL; exact hW
  clear eH eL
  refine lv_aload_n hx hb dX3_layLoose_0 rfl (lv_at hl 0 rfl) ?_
  refine lv_aload_n hx hb dX3_layLoose_1 rfl (lv_at hl 2 rfl) ?_
  refine lv_iconst (v := 0) hx hb dX3_layLoose_2 (by decide) ?_
  refine lv_aload_n hx hb dX3_layLoose_3 rfl (lv_at hl 1 rfl) ?_
  refine tc_getr E hG t1 frk_X3_57 dX3_layLoose_4 (fun oa1 hoa1 => ?_)
  refine tc_geti E hG hoa1 fi_X3_68 dX3_layLoose_7 (fun z2 _ _ => ?_)
  refine lv_iconst (v := 0) hx hb dX3_layLoose_10 (by decide) ?_
  refine lv_aload_n hx hb dX3_layLoose_11 rfl (lv_at hl 1 rfl) ?_
  refine tc_getr E hG t1 frk_X3_57 dX3_layLoose_12 (fun oa3 hoa3 => ?_)
  refine tc_geti E hG hoa3 fi_X3_74 dX3_layLoose_15 (fun z4 _ _ => ?_)
  refine lv_iload_n hx hb dX3_layLoose_18 rfl (lv_at hl 3 rfl) ?_
  refine lv_iconst (v := 1) hx hb dX3_layLoose_19 (by decide) ?_
  refine lv_iadd hx hb dX3_layLoose_20 ?_
  refine lv_topi (fun z5 ez5 => ?_)
  have tz5 := tn_add ez5 rfl kI_1 (by omega) (by omega)
  refine tc_callv hG (tc_runV (As := [.ref h2, .int 0, .int z2, .int 0, .int z4, .int z5]) (rest := []) E hSt hG (ih h0 h2 (0 : Int32) z2 (0 : Int32) z4 z5 t0 t2 (by omega) (by omega)) t0 rv_27 kv_X3_lay ml_X3_44 (tRm_ok (by omega) (by omega)) rfl hl.1 rfl (Nat.le_of_ble_eq_true rfl) ⟨Nat.zero_le _, Nat.zero_le _⟩ dX3_layLoose_21) (fun H locs hG => ?_)
  exact tc_vret E hr hlk hG dX3_layLoose_24

set_option maxHeartbeats 4000000 in
set_option maxRecDepth 100000 in
theorem c_X3_layAlong_c (l : Launch) (G : tG) (τ : Nat → Nat) (h0 : Nat) (h1 : Nat) (h2 : Nat) (x3 : Int32) (x4 : Int32) (x5 : Int32) (t0 : τ h0 = 27) (t1 : τ h1 = 31) (t2 : τ h2 = 31) (l5 : 0 ≤ x5.toInt) (u5 : x5.toInt ≤ 23) (d : Nat) (ih : P_X3_lay_c l G τ d) (hd : (24 - x5.toInt).toNat < d + 1) : Met l yX3_layAlong (.code yX3_layAlong cX3_layAlong 9 (some .int) :: tWS) (tRm (42 * d + 41) (541 * d + 1527)) (va_Pc [.ref h0, .ref h1, .ref h2, .int x3, .int x4, .int x5] (tPre G τ)) (tQi G τ (fun r => True)) 0 0 (tA τ) := by
  refine tc_met (by decide) (Nat.le_of_ble_eq_true rfl) ?_
  intro p e s m below meth c E hSt hr hlk hG ls hl
  have hl : lv_has ls 9 [(0, .ref h0), (1, .ref h1), (2, .ref h2), (3, .int x3), (4, .int x4), (5, .int x5)] := hl
  have hx := E.1
  have hb := E.2.1
  obtain ⟨H, eH⟩ : ∃ H, H = s.heap := ⟨_, rfl⟩
  obtain ⟨locs, eL⟩ : ∃ x : List Loc, x = [] := ⟨_, rfl⟩
  have hG : tGH G τ s H locs := by rw [eH, eL]; exact hG
  suffices hW : W p l e (tRm (42 * d + 41) (541 * d + 1527)) s m ([.ref h0, .ref h1, .ref h2, .int x3, .int x4, .int x5] : List Value).toArray below meth c H locs 0 0 (MQ below (tQi G τ (fun r => True)) ([.ref h0, .ref h1, .ref h2, .int x3, .int x4, .int x5] : List Value).toArray s 0 0 (tA τ)) (F0 m 0 ls []) by subst eH; subst eL; exact hW
  clear eH eL
  have J64 : ∀ (H : Heap) (locs : List Loc) (ls : Array Slot) (v6 : Int32) (v7 : Int32) (vs0 : Int32), tGH G τ s H locs → lv_has ls 9 [(0, .ref h0), (2, .ref h2), (3, .int x3), (4, .int x4), (5, .int x5), (6, .int v6), (7, .int v7)] → 0 ≤ v6.toInt → v6.toInt ≤ 1 → vs0.toInt ≤ 999 → W p l e (tRm (42 * d + 41) (541 * d + 1527)) s m ([.ref h0, .ref h1, .ref h2, .int x3, .int x4, .int x5] : List Value).toArray below meth c H locs 0 0 (MQ below (tQi G τ (fun r => True)) ([.ref h0, .ref h1, .ref h2, .int x3, .int x4, .int x5] : List Value).toArray s 0 0 (tA τ)) (F0 m 64 ls [.int vs0]) := by
    intro H locs ls v6 v7 vs0 hG hl b6 c6 cs0
    refine lv_istore (lv' := [(8, .int vs0), (0, .ref h0), (2, .ref h2), (3, .int x3), (4, .int x4), (5, .int x5), (6, .int v6), (7, .int v7)]) hx hb dX3_layAlong_64 hl (by decide) rfl (fun ls hl => ?_)
    refine lv_iload hx hb dX3_layAlong_66 (lv_at hl 6 rfl) ?_
    refine lv_if_eq (tgt := 95) hx hb dX3_layAlong_68 (by decide) (fun c1 => ?_) (fun c1 => ?_)
    · skip
      have ic1 := tn_eq rfl kI_0 c1
      refine lv_aload_n hx hb dX3_layAlong_95 rfl (lv_at hl 1 rfl) ?_
      refine lv_aload_n hx hb dX3_layAlong_96 rfl (lv_at hl 2 rfl) ?_
      refine lv_iload hx hb dX3_layAlong_97 (lv_at hl 0 rfl) ?_
      refine lv_iload hx hb dX3_layAlong_99 (lv_at hl 7 rfl) ?_
      refine lv_iload_n hx hb dX3_layAlong_101 rfl (lv_at hl 3 rfl) ?_
      refine lv_iload hx hb dX3_layAlong_102 (lv_at hl 4 rfl) ?_
      refine lv_iload hx hb dX3_layAlong_104 (lv_at hl 5 rfl) ?_
      refine lv_iconst (v := 1) hx hb dX3_layAlong_106 (by decide) ?_
      refine lv_iadd hx hb dX3_layAlong_107 ?_
      refine lv_topi (fun z2 ez2 => ?_)
      have tz2 := tn_add ez2 rfl kI_1 (by omega) (by omega)
      refine tc_callv hG (tc_runV (As := [.ref h2, .int vs0, .int v7, .int x3, .int x4, .int z2]) (rest := []) E hSt hG (ih h0 h2 vs0 v7 x3 x4 z2 t0 t2 (by omega) (by omega)) t0 rv_27 kv_X3_lay ml_X3_44 (tRm_ok (by omega) (by omega)) rfl hl.1 rfl (Nat.le_of_ble_eq_true rfl) ⟨Nat.zero_le _, Nat.zero_le _⟩ dX3_layAlong_108) (fun H locs hG => ?_)
      refine lv_aload_n hx hb dX3_layAlong_111 rfl (lv_at hl 2 rfl) ?_
      refine tc_getr E hG t2 frk_X3_57 dX3_layAlong_112 (fun oa4 hoa4 => ?_)
      refine tc_geti E hG hoa4 fi_X3_176 dX3_layAlong_115 (fun z5 _ _ => ?_)
      exact tc_iret E hr hlk hG trivial dX3_layAlong_118
    · skip
      have ic1 := tn_ne rfl kI_0 c1
      refine lv_aload_n hx hb dX3_layAlong_71 rfl (lv_at hl 1 rfl) ?_
      refine lv_aload_n hx hb dX3_layAlong_72 rfl (lv_at hl 2 rfl) ?_
      refine lv_iload_n hx hb dX3_layAlong_73 rfl (lv_at hl 3 rfl) ?_
      refine lv_iload hx hb dX3_layAlong_74 (lv_at hl 4 rfl) ?_
      refine lv_iload hx hb dX3_layAlong_76 (lv_at hl 0 rfl) ?_
      refine lv_iload hx hb dX3_layAlong_78 (lv_at hl 7 rfl) ?_
      refine lv_iload hx hb dX3_layAlong_80 (lv_at hl 5 rfl) ?_
      refine lv_iconst (v := 1) hx hb dX3_layAlong_82 (by decide) ?_
      refine lv_iadd hx hb dX3_layAlong_83 ?_
      refine lv_topi (fun z6 ez6 => ?_)
      have tz6 := tn_add ez6 rfl kI_1 (by omega) (by omega)
      refine tc_callv hG (tc_runV (As := [.ref h2, .int x3, .int x4, .int vs0, .int v7, .int z6]) (rest := []) E hSt hG (ih h0 h2 x3 x4 vs0 v7 z6 t0 t2 (by omega) (by omega)) t0 rv_27 kv_X3_lay ml_X3_44 (tRm_ok (by omega) (by omega)) rfl hl.1 rfl (Nat.le_of_ble_eq_true rfl) ⟨Nat.zero_le _, Nat.zero_le _⟩ dX3_layAlong_84) (fun H locs hG => ?_)
      refine lv_aload_n hx hb dX3_layAlong_87 rfl (lv_at hl 2 rfl) ?_
      refine tc_getr E hG t2 frk_X3_57 dX3_layAlong_88 (fun oa8 hoa8 => ?_)
      refine tc_geti E hG hoa8 fi_X3_173 dX3_layAlong_91 (fun z9 _ _ => ?_)
      exact tc_iret E hr hlk hG trivial dX3_layAlong_94
  have J63 : ∀ (H : Heap) (locs : List Loc) (ls : Array Slot) (v6 : Int32) (v7 : Int32), tGH G τ s H locs → lv_has ls 9 [(0, .ref h0), (2, .ref h2), (3, .int x3), (4, .int x4), (5, .int x5), (6, .int v6), (7, .int v7)] → 0 ≤ v6.toInt → v6.toInt ≤ 1 → W p l e (tRm (42 * d + 41) (541 * d + 1527)) s m ([.ref h0, .ref h1, .ref h2, .int x3, .int x4, .int x5] : List Value).toArray below meth c H locs 0 0 (MQ below (tQi G τ (fun r => True)) ([.ref h0, .ref h1, .ref h2, .int x3, .int x4, .int x5] : List Value).toArray s 0 0 (tA τ)) (F0 m 63 ls []) := by
    intro H locs ls v6 v7 hG hl b6 c6
    refine lv_iconst (v := 0) hx hb dX3_layAlong_63 (by decide) ?_
    exact J64 H locs ls v6 v7 (0 : Int32) hG (lv_sub hl [0, 1, 2, 3, 4, 5, 6] rfl) (by omega) (by omega) (by decide)
  have J38 : ∀ (H : Heap) (locs : List Loc) (ls : Array Slot) (v6 : Int32) (vs0 : Int32), tGH G τ s H locs → lv_has ls 9 [(0, .ref h0), (1, .ref h1), (2, .ref h2), (3, .int x3), (4, .int x4), (5, .int x5), (6, .int v6)] → 0 ≤ v6.toInt → v6.toInt ≤ 1 → W p l e (tRm (42 * d + 41) (541 * d + 1527)) s m ([.ref h0, .ref h1, .ref h2, .int x3, .int x4, .int x5] : List Value).toArray below meth c H locs 0 0 (MQ below (tQi G τ (fun r => True)) ([.ref h0, .ref h1, .ref h2, .int x3, .int x4, .int x5] : List Value).toArray s 0 0 (tA τ)) (F0 m 38 ls [.int vs0]) := by
    intro H locs ls v6 vs0 hG hl b6 c6
    refine lv_istore (lv' := [(7, .int vs0), (0, .ref h0), (1, .ref h1), (2, .ref h2), (3, .int x3), (4, .int x4), (5, .int x5), (6, .int v6)]) hx hb dX3_layAlong_38 hl (by decide) rfl (fun ls hl => ?_)
    refine lv_aload_n hx hb dX3_layAlong_40 rfl (lv_at hl 2 rfl) ?_
    refine tc_getr E hG t1 frk_X3_111 dX3_layAlong_41 (fun oa10 hoa10 => ?_)
    refine lv_iconst (v := 0) hx hb dX3_layAlong_44 (by decide) ?_
    refine tc_iald E hG hoa10 ta_32 (t_in (by decide) (by decide)) dX3_layAlong_45 (fun z11 _ _ => ?_)
    refine lv_iconst (v := 3) hx hb dX3_layAlong_46 (by decide) ?_
    refine lv_icmp_ne (tgt := 63) hx hb dX3_layAlong_47 (by decide) (fun c12 => ?_) (fun c12 => ?_)
    · skip
      have ic12 := tn_ne rfl kI_3 c12
      exact J63 H locs ls v6 vs0 hG (lv_sub hl [1, 3, 4, 5, 6, 7, 0] rfl) (by omega) (by omega)
    · skip
      have ic12 := tn_eq rfl kI_3 c12
      refine lv_iload hx hb dX3_layAlong_50 (lv_at hl 0 rfl) ?_
      refine lv_sipush (v := 1000) hx hb dX3_layAlong_52 (by decide) ?_
      refine lv_icmp_ge (tgt := 63) hx hb dX3_layAlong_55 (by decide) (fun c13 => ?_) (fun c13 => ?_)
      · skip
        have ic13 := tn_le kI_1000 rfl c13
        exact J63 H locs ls v6 vs0 hG (lv_sub hl [1, 3, 4, 5, 6, 7, 0] rfl) (by omega) (by omega)
      · skip
        have ic13 := tn_nle kI_1000 rfl c13
        refine lv_iload hx hb dX3_layAlong_58 (lv_at hl 0 rfl) ?_
        refine lv_goto (tgt := 64) hx hb dX3_layAlong_60 (by decide) ?_
        exact J64 H locs ls v6 vs0 vs0 hG (lv_sub hl [1, 3, 4, 5, 6, 7, 0] rfl) (by omega) (by omega) (by omega)
  have J14 : ∀ (H : Heap) (locs : List Loc) (ls : Array Slot) (vs0 : Int32), tGH G τ s H locs → lv_has ls 9 [(0, .ref h0), (1, .ref h1), (2, .ref h2), (3, .int x3), (4, .int x4), (5, .int x5)] → 0 ≤ vs0.toInt → vs0.toInt ≤ 1 → W p l e (tRm (42 * d + 41) (541 * d + 1527)) s m ([.ref h0, .ref h1, .ref h2, .int x3, .int x4, .int x5] : List Value).toArray below meth c H locs 0 0 (MQ below (tQi G τ (fun r => True)) ([.ref h0, .ref h1, .ref h2, .int x3, .int x4, .int x5] : List Value).toArray s 0 0 (tA τ)) (F0 m 14 ls [.int vs0]) := by
    intro H locs ls vs0 hG hl bs0 cs0
    refine lv_istore (lv' := [(6, .int vs0), (0, .ref h0), (1, .ref h1), (2, .ref h2), (3, .int x3), (4, .int x4), (5, .int x5)]) hx hb dX3_layAlong_14 hl (by decide) rfl (fun ls hl => ?_)
    refine lv_iload hx hb dX3_layAlong_16 (lv_at hl 0 rfl) ?_
    refine lv_if_eq (tgt := 31) hx hb dX3_layAlong_18 (by decide) (fun c14 => ?_) (fun c14 => ?_)
    · skip
      have ic14 := tn_eq rfl kI_0 c14
      refine lv_aload_n hx hb dX3_layAlong_31 rfl (lv_at hl 2 rfl) ?_
      refine tc_getr E hG t1 frk_X3_57 dX3_layAlong_32 (fun oa15 hoa15 => ?_)
      refine tc_geti E hG hoa15 fi_X3_68 dX3_layAlong_35 (fun z16 _ _ => ?_)
      exact J38 H locs ls vs0 z16 hG (lv_sub hl [1, 2, 3, 4, 5, 6, 0] rfl) (by omega) (by omega)
    · skip
      have ic14 := tn_ne rfl kI_0 c14
      refine lv_aload_n hx hb dX3_layAlong_21 rfl (lv_at hl 2 rfl) ?_
      refine tc_getr E hG t1 frk_X3_57 dX3_layAlong_22 (fun oa17 hoa17 => ?_)
      refine tc_geti E hG hoa17 fi_X3_74 dX3_layAlong_25 (fun z18 _ _ => ?_)
      refine lv_goto (tgt := 38) hx hb dX3_layAlong_28 (by decide) ?_
      exact J38 H locs ls vs0 z18 hG (lv_sub hl [1, 2, 3, 4, 5, 6, 0] rfl) (by omega) (by omega)
  refine lv_aload_n hx hb dX3_layAlong_0 rfl (lv_at hl 1 rfl) ?_
  refine tc_geti E hG t1 fik_X3_108 dX3_layAlong_1 (fun z19 _ _ => ?_)
  refine lv_bipush (v := 8) hx hb dX3_layAlong_4 (by decide) ?_
  refine lv_icmp_ne (tgt := 13) hx hb dX3_layAlong_6 (by decide) (fun c20 => ?_) (fun c20 => ?_)
  · skip
    have ic20 := tn_ne rfl kI_8 c20
    refine lv_iconst (v := 0) hx hb dX3_layAlong_13 (by decide) ?_
    exact J14 H locs ls (0 : Int32) hG (lv_sub hl [0, 1, 2, 3, 4, 5] rfl) (by decide) (by decide)
  · skip
    have ic20 := tn_eq rfl kI_8 c20
    refine lv_iconst (v := 1) hx hb dX3_layAlong_9 (by decide) ?_
    refine lv_goto (tgt := 14) hx hb dX3_layAlong_10 (by decide) ?_
    exact J14 H locs ls (1 : Int32) hG (lv_sub hl [0, 1, 2, 3, 4, 5] rfl) (by decide) (by decide)

set_option maxHeartbeats 4000000 in
set_option maxRecDepth 100000 in
theorem c_X3_layPad_c (l : Launch) (G : tG) (τ : Nat → Nat) (h0 : Nat) (h1 : Nat) (x2 : Int32) (t0 : τ h0 = 27) (t1 : τ h1 = 31) (l2 : 0 ≤ x2.toInt) (u2 : x2.toInt ≤ 23) (d : Nat) (ih : P_X3_lay_c l G τ d) (hd : (24 - x2.toInt).toNat < d + 1) : Met l yX3_layPad (.code yX3_layPad cX3_layPad 7 none :: tWS) (tRm (42 * d + 41) (541 * d + 1527)) (va_Pc [.ref h0, .ref h1, .int x2] (tPre G τ)) (tQv G τ) 0 0 (tA τ) := by
  refine tc_met (by decide) (Nat.le_of_ble_eq_true rfl) ?_
  intro p e s m below meth c E hSt hr hlk hG ls hl
  have hl : lv_has ls 7 [(0, .ref h0), (1, .ref h1), (2, .int x2)] := hl
  have hx := E.1
  have hb := E.2.1
  obtain ⟨H, eH⟩ : ∃ H, H = s.heap := ⟨_, rfl⟩
  obtain ⟨locs, eL⟩ : ∃ x : List Loc, x = [] := ⟨_, rfl⟩
  have hG : tGH G τ s H locs := by rw [eH, eL]; exact hG
  suffices hW : W p l e (tRm (42 * d + 41) (541 * d + 1527)) s m ([.ref h0, .ref h1, .int x2] : List Value).toArray below meth c H locs 0 0 (MQ below (tQv G τ) ([.ref h0, .ref h1, .int x2] : List Value).toArray s 0 0 (tA τ)) (F0 m 0 ls []) by subst eH; subst eL; exact hW
  clear eH eL
  refine lv_aload_n hx hb dX3_layPad_0 rfl (lv_at hl 1 rfl) ?_
  refine tc_getr E hG t1 frk_X3_57 dX3_layPad_1 (fun oa1 hoa1 => ?_)
  refine lv_astore_n (lv' := [(3, .ref oa1), (0, .ref h0), (1, .ref h1), (2, .int x2)]) hx hb dX3_layPad_4 rfl hl (by decide) rfl (fun ls hl => ?_)
  refine lv_aload_n hx hb dX3_layPad_5 rfl (lv_at hl 2 rfl) ?_
  refine tc_getr E hG t1 frk_X3_111 dX3_layPad_6 (fun oa2 hoa2 => ?_)
  refine lv_iconst (v := 0) hx hb dX3_layPad_9 (by decide) ?_
  refine tc_iald E hG hoa2 ta_32 (t_in (by decide) (by decide)) dX3_layPad_10 (fun z3 _ _ => ?_)
  refine lv_istore (lv' := [(4, .int z3), (3, .ref oa1), (0, .ref h0), (1, .ref h1), (2, .int x2)]) hx hb dX3_layPad_11 hl (by decide) rfl (fun ls hl => ?_)
  refine lv_aload_n hx hb dX3_layPad_13 rfl (lv_at hl 3 rfl) ?_
  refine tc_getr E hG t1 frk_X3_111 dX3_layPad_14 (fun oa4 hoa4 => ?_)
  refine lv_iconst (v := 1) hx hb dX3_layPad_17 (by decide) ?_
  refine tc_iald E hG hoa4 ta_32 (t_in (by decide) (by decide)) dX3_layPad_18 (fun z5 _ _ => ?_)
  refine lv_istore (lv' := [(5, .int z5), (4, .int z3), (3, .ref oa1), (0, .ref h0), (1, .ref h1), (2, .int x2)]) hx hb dX3_layPad_19 hl (by decide) rfl (fun ls hl => ?_)
  refine lv_aload_n hx hb dX3_layPad_21 rfl (lv_at hl 3 rfl) ?_
  refine lv_aload_n hx hb dX3_layPad_22 rfl (lv_at hl 4 rfl) ?_
  refine tc_callpq (tc_runV (As := [.ref h1]) (rest := []) E hSt hG (c_X3_onlyKid_c l G τ h0 h1 t0 t1) t0 rv_27 kv_X3_onlyKid ml_X3_163 (tRm_ok (by omega) (by omega)) rfl hl.1 rfl (Nat.le_of_ble_eq_true rfl) ⟨Nat.zero_le _, Nat.zero_le _⟩ dX3_layPad_23) (fun r6 pr6 => ?_)
  rcases r6 with _ | br6
  · skip
    refine lv_astoreN (lv' := [(6, .null), (5, .int z5), (4, .int z3), (3, .ref oa1), (0, .ref h0), (1, .ref h1), (2, .int x2)]) hx hb dX3_layPad_26 hl (by decide) rfl (fun ls hl => ?_)
    refine lv_aloadN hx hb dX3_layPad_28 (lv_at hl 0 rfl) ?_
    refine lv_ifnonnullN hx hb dX3_layPad_30 ?_
    refine lv_aload_n hx hb dX3_layPad_33 rfl (lv_at hl 3 rfl) ?_
    refine lv_iconst (v := 2) hx hb dX3_layPad_34 (by decide) ?_
    refine lv_iload hx hb dX3_layPad_35 (lv_at hl 2 rfl) ?_
    refine lv_imul hx hb dX3_layPad_37 ?_
    refine lv_topi (fun z7 ez7 => ?_)
    refine lv_iconst (v := 2) hx hb dX3_layPad_38 (by decide) ?_
    refine lv_iload hx hb dX3_layPad_39 (lv_at hl 1 rfl) ?_
    refine lv_imul hx hb dX3_layPad_41 ?_
    refine lv_topi (fun z8 ez8 => ?_)
    refine tc_callv hG (tc_runV (As := [.int z7, .int z8]) (rest := []) E hSt hG (c_X2_sizeTo l G τ oa1 z7 z8 hoa1) hoa1 rv_4 kv_X2_sizeTo ml_X3_115 (tRm_ok (by omega) (by omega)) rfl hl.1 rfl (Nat.le_of_ble_eq_true rfl) ⟨Nat.zero_le _, Nat.zero_le _⟩ dX3_layPad_42) (fun H locs hG => ?_)
    exact tc_vret E hr hlk hG dX3_layPad_45
  · have pr6 := tq_some pr6
    refine lv_astore (lv' := [(6, .ref br6), (5, .int z5), (4, .int z3), (3, .ref oa1), (0, .ref h0), (1, .ref h1), (2, .int x2)]) hx hb dX3_layPad_26 hl (by decide) rfl (fun ls hl => ?_)
    refine lv_aload hx hb dX3_layPad_28 (lv_at hl 0 rfl) ?_
    refine lv_ifnonnull (tgt := 46) hx hb dX3_layPad_30 (by decide) ?_
    refine lv_aload_n hx hb dX3_layPad_46 rfl (lv_at hl 4 rfl) ?_
    refine lv_aload hx hb dX3_layPad_47 (lv_at hl 0 rfl) ?_
    refine lv_aload_n hx hb dX3_layPad_49 rfl (lv_at hl 3 rfl) ?_
    refine tc_geti E hG hoa1 fi_X3_63 dX3_layPad_50 (fun z10 _ _ => ?_)
    refine lv_iconst (v := 2) hx hb dX3_layPad_53 (by decide) ?_
    refine lv_iload hx hb dX3_layPad_54 (lv_at hl 2 rfl) ?_
    refine lv_imul hx hb dX3_layPad_56 ?_
    refine lv_topi (fun z11 ez11 => ?_)
    refine tc_callp (tc_runS (As := [.int z10, .int z11]) (rest := [.ref br6, .ref h0]) E hSt hG (c_X3_lessBy l G τ z10 z11) ks_X3_lessBy ml_X3_167 (tRm_ok (by omega) (by omega)) rfl hl.1 rfl (Nat.le_of_ble_eq_true rfl) ⟨Nat.zero_le _, Nat.zero_le _⟩ dX3_layPad_57) (fun r12 pr12 => ?_)
    refine lv_aload_n hx hb dX3_layPad_60 rfl (lv_at hl 3 rfl) ?_
    refine tc_geti E hG hoa1 fi_X3_68 dX3_layPad_61 (fun z13 _ _ => ?_)
    refine lv_iconst (v := 2) hx hb dX3_layPad_64 (by decide) ?_
    refine lv_iload hx hb dX3_layPad_65 (lv_at hl 2 rfl) ?_
    refine lv_imul hx hb dX3_layPad_67 ?_
    refine lv_topi (fun z14 ez14 => ?_)
    refine tc_callp (tc_runS (As := [.int z13, .int z14]) (rest := [.int r12, .ref br6, .ref h0]) E hSt hG (c_X3_lessBy l G τ z13 z14) ks_X3_lessBy ml_X3_167 (tRm_ok (by omega) (by omega)) rfl hl.1 rfl (Nat.le_of_ble_eq_true rfl) ⟨Nat.zero_le _, Nat.zero_le _⟩ dX3_layPad_68) (fun r15 pr15 => ?_)
    refine lv_aload_n hx hb dX3_layPad_71 rfl (lv_at hl 3 rfl) ?_
    refine tc_geti E hG hoa1 fi_X3_71 dX3_layPad_72 (fun z16 _ _ => ?_)
    refine lv_iconst (v := 2) hx hb dX3_layPad_75 (by decide) ?_
    refine lv_iload hx hb dX3_layPad_76 (lv_at hl 1 rfl) ?_
    refine lv_imul hx hb dX3_layPad_78 ?_
    refine lv_topi (fun z17 ez17 => ?_)
    refine tc_callp (tc_runS (As := [.int z16, .int z17]) (rest := [.int r15, .int r12, .ref br6, .ref h0]) E hSt hG (c_X3_lessBy l G τ z16 z17) ks_X3_lessBy ml_X3_167 (tRm_ok (by omega) (by omega)) rfl hl.1 rfl (Nat.le_of_ble_eq_true rfl) ⟨Nat.zero_le _, Nat.zero_le _⟩ dX3_layPad_79) (fun r18 pr18 => ?_)
    refine lv_aload_n hx hb dX3_layPad_82 rfl (lv_at hl 3 rfl) ?_
    refine tc_geti E hG hoa1 fi_X3_74 dX3_layPad_83 (fun z19 _ _ => ?_)
    refine lv_iconst (v := 2) hx hb dX3_layPad_86 (by decide) ?_
    refine lv_iload hx hb dX3_layPad_87 (lv_at hl 1 rfl) ?_
    refine lv_imul hx hb dX3_layPad_89 ?_
    refine lv_topi (fun z20 ez20 => ?_)
    refine tc_callp (tc_runS (As := [.int z19, .int z20]) (rest := [.int r18, .int r15, .int r12, .ref br6, .ref h0]) E hSt hG (c_X3_lessBy l G τ z19 z20) ks_X3_lessBy ml_X3_167 (tRm_ok (by omega) (by omega)) rfl hl.1 rfl (Nat.le_of_ble_eq_true rfl) ⟨Nat.zero_le _, Nat.zero_le _⟩ dX3_layPad_90) (fun r21 pr21 => ?_)
    refine lv_iload_n hx hb dX3_layPad_93 rfl (lv_at hl 6 rfl) ?_
    refine lv_iconst (v := 1) hx hb dX3_layPad_94 (by decide) ?_
    refine lv_iadd hx hb dX3_layPad_95 ?_
    refine lv_topi (fun z22 ez22 => ?_)
    have tz22 := tn_add ez22 rfl kI_1 (by omega) (by omega)
    refine tc_callv hG (tc_runV (As := [.ref br6, .int r12, .int r15, .int r18, .int r21, .int z22]) (rest := []) E hSt hG (ih h0 br6 r12 r15 r18 r21 z22 t0 pr6 (by omega) (by omega)) t0 rv_27 kv_X3_lay ml_X3_44 (tRm_ok (by omega) (by omega)) rfl hl.1 rfl (Nat.le_of_ble_eq_true rfl) ⟨Nat.zero_le _, Nat.zero_le _⟩ dX3_layPad_96) (fun H locs hG => ?_)
    refine lv_aload hx hb dX3_layPad_99 (lv_at hl 0 rfl) ?_
    refine tc_getr E hG pr6 frk_X3_57 dX3_layPad_101 (fun oa24 hoa24 => ?_)
    refine lv_iload hx hb dX3_layPad_104 (lv_at hl 2 rfl) ?_
    refine lv_iload hx hb dX3_layPad_106 (lv_at hl 1 rfl) ?_
    refine tc_callv hG (tc_runV (As := [.int z3, .int z5]) (rest := []) E hSt hG (c_X2_placeAt l G τ oa24 z3 z5 hoa24) hoa24 rv_4 kv_X2_placeAt ml_X3_170 (tRm_ok (by omega) (by omega)) rfl hl.1 rfl (Nat.le_of_ble_eq_true rfl) ⟨Nat.zero_le _, Nat.zero_le _⟩ dX3_layPad_108) (fun H locs hG => ?_)
    refine lv_aload_n hx hb dX3_layPad_111 rfl (lv_at hl 3 rfl) ?_
    refine lv_aload hx hb dX3_layPad_112 (lv_at hl 0 rfl) ?_
    refine tc_getr E hG pr6 frk_X3_57 dX3_layPad_114 (fun oa26 hoa26 => ?_)
    refine tc_geti E hG hoa26 fi_X3_173 dX3_layPad_117 (fun z27 _ _ => ?_)
    refine lv_iconst (v := 2) hx hb dX3_layPad_120 (by decide) ?_
    refine lv_iload hx hb dX3_layPad_121 (lv_at hl 2 rfl) ?_
    refine lv_imul hx hb dX3_layPad_123 ?_
    refine lv_topi (fun z28 ez28 => ?_)
    refine lv_iadd hx hb dX3_layPad_124 ?_
    refine lv_topi (fun z29 ez29 => ?_)
    refine lv_aload hx hb dX3_layPad_125 (lv_at hl 0 rfl) ?_
    refine tc_getr E hG pr6 frk_X3_57 dX3_layPad_127 (fun oa30 hoa30 => ?_)
    refine tc_geti E hG hoa30 fi_X3_176 dX3_layPad_130 (fun z31 _ _ => ?_)
    refine lv_iconst (v := 2) hx hb dX3_layPad_133 (by decide) ?_
    refine lv_iload hx hb dX3_layPad_134 (lv_at hl 1 rfl) ?_
    refine lv_imul hx hb dX3_layPad_136 ?_
    refine lv_topi (fun z32 ez32 => ?_)
    refine lv_iadd hx hb dX3_layPad_137 ?_
    refine lv_topi (fun z33 ez33 => ?_)
    refine tc_callv hG (tc_runV (As := [.int z29, .int z33]) (rest := []) E hSt hG (c_X2_sizeTo l G τ oa1 z29 z33 hoa1) hoa1 rv_4 kv_X2_sizeTo ml_X3_115 (tRm_ok (by omega) (by omega)) rfl hl.1 rfl (Nat.le_of_ble_eq_true rfl) ⟨Nat.zero_le _, Nat.zero_le _⟩ dX3_layPad_138) (fun H locs hG => ?_)
    exact tc_vret E hr hlk hG dX3_layPad_141

set_option maxHeartbeats 4000000 in
set_option maxRecDepth 100000 in
theorem c_X3_layLimit_c (l : Launch) (G : tG) (τ : Nat → Nat) (h0 : Nat) (h1 : Nat) (x2 : Int32) (t0 : τ h0 = 27) (t1 : τ h1 = 31) (l2 : 0 ≤ x2.toInt) (u2 : x2.toInt ≤ 23) (d : Nat) (ih : P_X3_lay_c l G τ d) (hd : (24 - x2.toInt).toNat < d + 1) : Met l yX3_layLimit (.code yX3_layLimit cX3_layLimit 9 none :: tWS) (tRm (42 * d + 41) (541 * d + 1527)) (va_Pc [.ref h0, .ref h1, .int x2] (tPre G τ)) (tQv G τ) 0 0 (tA τ) := by
  refine tc_met (by decide) (Nat.le_of_ble_eq_true rfl) ?_
  intro p e s m below meth c E hSt hr hlk hG ls hl
  have hl : lv_has ls 9 [(0, .ref h0), (1, .ref h1), (2, .int x2)] := hl
  have hx := E.1
  have hb := E.2.1
  obtain ⟨H, eH⟩ : ∃ H, H = s.heap := ⟨_, rfl⟩
  obtain ⟨locs, eL⟩ : ∃ x : List Loc, x = [] := ⟨_, rfl⟩
  have hG : tGH G τ s H locs := by rw [eH, eL]; exact hG
  suffices hW : W p l e (tRm (42 * d + 41) (541 * d + 1527)) s m ([.ref h0, .ref h1, .int x2] : List Value).toArray below meth c H locs 0 0 (MQ below (tQv G τ) ([.ref h0, .ref h1, .int x2] : List Value).toArray s 0 0 (tA τ)) (F0 m 0 ls []) by subst eH; subst eL; exact hW
  clear eH eL
  refine lv_aload_n hx hb dX3_layLimit_0 rfl (lv_at hl 1 rfl) ?_
  refine tc_getr E hG t1 frk_X3_57 dX3_layLimit_1 (fun oa1 hoa1 => ?_)
  refine lv_astore_n (lv' := [(3, .ref oa1), (0, .ref h0), (1, .ref h1), (2, .int x2)]) hx hb dX3_layLimit_4 rfl hl (by decide) rfl (fun ls hl => ?_)
  refine lv_aload_n hx hb dX3_layLimit_5 rfl (lv_at hl 2 rfl) ?_
  refine tc_getr E hG t1 frk_X3_111 dX3_layLimit_6 (fun oa2 hoa2 => ?_)
  refine lv_iconst (v := 0) hx hb dX3_layLimit_9 (by decide) ?_
  refine tc_iald E hG hoa2 ta_32 (t_in (by decide) (by decide)) dX3_layLimit_10 (fun z3 _ _ => ?_)
  refine lv_aload_n hx hb dX3_layLimit_11 rfl (lv_at hl 0 rfl) ?_
  refine tc_geti E hG hoa1 fi_X3_63 dX3_layLimit_12 (fun z4 _ _ => ?_)
  refine lv_aload_n hx hb dX3_layLimit_15 rfl (lv_at hl 0 rfl) ?_
  refine tc_geti E hG hoa1 fi_X3_68 dX3_layLimit_16 (fun z5 _ _ => ?_)
  refine tc_callp (tc_runN (As := [.int z3, .int z4, .int z5]) (rest := []) E hSt hG (c_X9_held l G τ z3 z4 z5) ks_X9_held (List.mem_of_getElem? (i := 2) rfl) (tRm_ok (by omega) (by omega)) rfl hl.1 rfl (Nat.le_of_ble_eq_true rfl) ⟨Nat.zero_le _, Nat.zero_le _⟩ dX3_layLimit_19) (fun r6 pr6 => ?_)
  refine lv_istore (lv' := [(4, .int r6), (3, .ref oa1), (0, .ref h0), (1, .ref h1), (2, .int x2)]) hx hb dX3_layLimit_22 hl (by decide) rfl (fun ls hl => ?_)
  refine lv_aload_n hx hb dX3_layLimit_24 rfl (lv_at hl 3 rfl) ?_
  refine tc_getr E hG t1 frk_X3_111 dX3_layLimit_25 (fun oa7 hoa7 => ?_)
  refine lv_iconst (v := 1) hx hb dX3_layLimit_28 (by decide) ?_
  refine tc_iald E hG hoa7 ta_32 (t_in (by decide) (by decide)) dX3_layLimit_29 (fun z8 _ _ => ?_)
  refine tc_callp (tc_runS (As := [.int z8]) (rest := []) E hSt hG (c_X0_orNoEnd l G τ z8) ks_X0_orNoEnd ml_X3_183 (tRm_ok (by omega) (by omega)) rfl hl.1 rfl (Nat.le_of_ble_eq_true rfl) ⟨Nat.zero_le _, Nat.zero_le _⟩ dX3_layLimit_30) (fun r9 pr9 => ?_)
  refine lv_aload_n hx hb dX3_layLimit_33 rfl (lv_at hl 1 rfl) ?_
  refine tc_geti E hG hoa1 fi_X3_63 dX3_layLimit_34 (fun z10 _ _ => ?_)
  refine lv_aload_n hx hb dX3_layLimit_37 rfl (lv_at hl 1 rfl) ?_
  refine tc_geti E hG hoa1 fi_X3_68 dX3_layLimit_38 (fun z11 _ _ => ?_)
  refine tc_callp (tc_runN (As := [.int r9, .int z10, .int z11]) (rest := []) E hSt hG (c_X9_held l G τ r9 z10 z11) ks_X9_held (List.mem_of_getElem? (i := 2) rfl) (tRm_ok (by omega) (by omega)) rfl hl.1 rfl (Nat.le_of_ble_eq_true rfl) ⟨Nat.zero_le _, Nat.zero_le _⟩ dX3_layLimit_41) (fun r12 pr12 => ?_)
  refine lv_istore (lv' := [(5, .int r12), (4, .int r6), (3, .ref oa1), (0, .ref h0), (1, .ref h1), (2, .int x2)]) hx hb dX3_layLimit_44 hl (by decide) rfl (fun ls hl => ?_)
  refine lv_aload_n hx hb dX3_layLimit_46 rfl (lv_at hl 4 rfl) ?_
  refine tc_getr E hG t1 frk_X3_111 dX3_layLimit_47 (fun oa13 hoa13 => ?_)
  refine lv_iconst (v := 2) hx hb dX3_layLimit_50 (by decide) ?_
  refine tc_iald E hG hoa13 ta_32 (t_in (by decide) (by decide)) dX3_layLimit_51 (fun z14 _ _ => ?_)
  refine lv_aload_n hx hb dX3_layLimit_52 rfl (lv_at hl 2 rfl) ?_
  refine tc_geti E hG hoa1 fi_X3_71 dX3_layLimit_53 (fun z15 _ _ => ?_)
  refine lv_aload_n hx hb dX3_layLimit_56 rfl (lv_at hl 2 rfl) ?_
  refine tc_geti E hG hoa1 fi_X3_74 dX3_layLimit_57 (fun z16 _ _ => ?_)
  refine tc_callp (tc_runN (As := [.int z14, .int z15, .int z16]) (rest := []) E hSt hG (c_X9_held l G τ z14 z15 z16) ks_X9_held (List.mem_of_getElem? (i := 2) rfl) (tRm_ok (by omega) (by omega)) rfl hl.1 rfl (Nat.le_of_ble_eq_true rfl) ⟨Nat.zero_le _, Nat.zero_le _⟩ dX3_layLimit_60) (fun r17 pr17 => ?_)
  refine lv_istore (lv' := [(6, .int r17), (5, .int r12), (4, .int r6), (3, .ref oa1), (0, .ref h0), (1, .ref h1), (2, .int x2)]) hx hb dX3_layLimit_63 hl (by decide) rfl (fun ls hl => ?_)
  refine lv_aload_n hx hb dX3_layLimit_65 rfl (lv_at hl 5 rfl) ?_
  refine tc_getr E hG t1 frk_X3_111 dX3_layLimit_66 (fun oa18 hoa18 => ?_)
  refine lv_iconst (v := 3) hx hb dX3_layLimit_69 (by decide) ?_
  refine tc_iald E hG hoa18 ta_32 (t_in (by decide) (by decide)) dX3_layLimit_70 (fun z19 _ _ => ?_)
  refine tc_callp (tc_runS (As := [.int z19]) (rest := []) E hSt hG (c_X0_orNoEnd l G τ z19) ks_X0_orNoEnd ml_X3_183 (tRm_ok (by omega) (by omega)) rfl hl.1 rfl (Nat.le_of_ble_eq_true rfl) ⟨Nat.zero_le _, Nat.zero_le _⟩ dX3_layLimit_71) (fun r20 pr20 => ?_)
  refine lv_aload_n hx hb dX3_layLimit_74 rfl (lv_at hl 3 rfl) ?_
  refine tc_geti E hG hoa1 fi_X3_71 dX3_layLimit_75 (fun z21 _ _ => ?_)
  refine lv_aload_n hx hb dX3_layLimit_78 rfl (lv_at hl 3 rfl) ?_
  refine tc_geti E hG hoa1 fi_X3_74 dX3_layLimit_79 (fun z22 _ _ => ?_)
  refine tc_callp (tc_runN (As := [.int r20, .int z21, .int z22]) (rest := []) E hSt hG (c_X9_held l G τ r20 z21 z22) ks_X9_held (List.mem_of_getElem? (i := 2) rfl) (tRm_ok (by omega) (by omega)) rfl hl.1 rfl (Nat.le_of_ble_eq_true rfl) ⟨Nat.zero_le _, Nat.zero_le _⟩ dX3_layLimit_82) (fun r23 pr23 => ?_)
  refine lv_istore (lv' := [(7, .int r23), (6, .int r17), (5, .int r12), (4, .int r6), (3, .ref oa1), (0, .ref h0), (1, .ref h1), (2, .int x2)]) hx hb dX3_layLimit_85 hl (by decide) rfl (fun ls hl => ?_)
  refine lv_aload_n hx hb dX3_layLimit_87 rfl (lv_at hl 5 rfl) ?_
  refine lv_aload_n hx hb dX3_layLimit_88 rfl (lv_at hl 6 rfl) ?_
  refine tc_callpq (tc_runV (As := [.ref h1]) (rest := []) E hSt hG (c_X3_onlyKid_c l G τ h0 h1 t0 t1) t0 rv_27 kv_X3_onlyKid ml_X3_163 (tRm_ok (by omega) (by omega)) rfl hl.1 rfl (Nat.le_of_ble_eq_true rfl) ⟨Nat.zero_le _, Nat.zero_le _⟩ dX3_layLimit_89) (fun r24 pr24 => ?_)
  rcases r24 with _ | br24
  · skip
    refine lv_astoreN (lv' := [(8, .null), (7, .int r23), (6, .int r17), (5, .int r12), (4, .int r6), (3, .ref oa1), (0, .ref h0), (1, .ref h1), (2, .int x2)]) hx hb dX3_layLimit_92 hl (by decide) rfl (fun ls hl => ?_)
    refine lv_aloadN hx hb dX3_layLimit_94 (lv_at hl 0 rfl) ?_
    refine lv_ifnonnullN hx hb dX3_layLimit_96 ?_
    refine lv_aload_n hx hb dX3_layLimit_99 rfl (lv_at hl 5 rfl) ?_
    refine lv_iload hx hb dX3_layLimit_100 (lv_at hl 4 rfl) ?_
    refine lv_iload hx hb dX3_layLimit_102 (lv_at hl 2 rfl) ?_
    refine tc_callv hG (tc_runV (As := [.int r6, .int r17]) (rest := []) E hSt hG (c_X2_sizeTo l G τ oa1 r6 r17 hoa1) hoa1 rv_4 kv_X2_sizeTo ml_X3_115 (tRm_ok (by omega) (by omega)) rfl hl.1 rfl (Nat.le_of_ble_eq_true rfl) ⟨Nat.zero_le _, Nat.zero_le _⟩ dX3_layLimit_104) (fun H locs hG => ?_)
    exact tc_vret E hr hlk hG dX3_layLimit_107
  · have pr24 := tq_some pr24
    refine lv_astore (lv' := [(8, .ref br24), (7, .int r23), (6, .int r17), (5, .int r12), (4, .int r6), (3, .ref oa1), (0, .ref h0), (1, .ref h1), (2, .int x2)]) hx hb dX3_layLimit_92 hl (by decide) rfl (fun ls hl => ?_)
    refine lv_aload hx hb dX3_layLimit_94 (lv_at hl 0 rfl) ?_
    refine lv_ifnonnull (tgt := 108) hx hb dX3_layLimit_96 (by decide) ?_
    refine lv_aload_n hx hb dX3_layLimit_108 rfl (lv_at hl 6 rfl) ?_
    refine lv_aload hx hb dX3_layLimit_109 (lv_at hl 0 rfl) ?_
    refine lv_iload hx hb dX3_layLimit_111 (lv_at hl 4 rfl) ?_
    refine lv_iload hx hb dX3_layLimit_113 (lv_at hl 3 rfl) ?_
    refine lv_iload hx hb dX3_layLimit_115 (lv_at hl 2 rfl) ?_
    refine lv_iload hx hb dX3_layLimit_117 (lv_at hl 1 rfl) ?_
    refine lv_iload_n hx hb dX3_layLimit_119 rfl (lv_at hl 8 rfl) ?_
    refine lv_iconst (v := 1) hx hb dX3_layLimit_120 (by decide) ?_
    refine lv_iadd hx hb dX3_layLimit_121 ?_
    refine lv_topi (fun z26 ez26 => ?_)
    have tz26 := tn_add ez26 rfl kI_1 (by omega) (by omega)
    refine tc_callv hG (tc_runV (As := [.ref br24, .int r6, .int r12, .int r17, .int r23, .int z26]) (rest := []) E hSt hG (ih h0 br24 r6 r12 r17 r23 z26 t0 pr24 (by omega) (by omega)) t0 rv_27 kv_X3_lay ml_X3_44 (tRm_ok (by omega) (by omega)) rfl hl.1 rfl (Nat.le_of_ble_eq_true rfl) ⟨Nat.zero_le _, Nat.zero_le _⟩ dX3_layLimit_122) (fun H locs hG => ?_)
    refine lv_aload hx hb dX3_layLimit_125 (lv_at hl 0 rfl) ?_
    refine tc_getr E hG pr24 frk_X3_57 dX3_layLimit_127 (fun oa28 hoa28 => ?_)
    refine lv_iconst (v := 0) hx hb dX3_layLimit_130 (by decide) ?_
    refine lv_iconst (v := 0) hx hb dX3_layLimit_131 (by decide) ?_
    refine tc_callv hG (tc_runV (As := [.int 0, .int 0]) (rest := []) E hSt hG (c_X2_placeAt l G τ oa28 (0 : Int32) (0 : Int32) hoa28) hoa28 rv_4 kv_X2_placeAt ml_X3_170 (tRm_ok (by omega) (by omega)) rfl hl.1 rfl (Nat.le_of_ble_eq_true rfl) ⟨Nat.zero_le _, Nat.zero_le _⟩ dX3_layLimit_132) (fun H locs hG => ?_)
    refine lv_aload_n hx hb dX3_layLimit_135 rfl (lv_at hl 5 rfl) ?_
    refine lv_aload hx hb dX3_layLimit_136 (lv_at hl 0 rfl) ?_
    refine tc_getr E hG pr24 frk_X3_57 dX3_layLimit_138 (fun oa30 hoa30 => ?_)
    refine tc_geti E hG hoa30 fi_X3_173 dX3_layLimit_141 (fun z31 _ _ => ?_)
    refine lv_aload hx hb dX3_layLimit_144 (lv_at hl 0 rfl) ?_
    refine tc_getr E hG pr24 frk_X3_57 dX3_layLimit_146 (fun oa32 hoa32 => ?_)
    refine tc_geti E hG hoa32 fi_X3_176 dX3_layLimit_149 (fun z33 _ _ => ?_)
    refine tc_callv hG (tc_runV (As := [.int z31, .int z33]) (rest := []) E hSt hG (c_X2_sizeTo l G τ oa1 z31 z33 hoa1) hoa1 rv_4 kv_X2_sizeTo ml_X3_115 (tRm_ok (by omega) (by omega)) rfl hl.1 rfl (Nat.le_of_ble_eq_true rfl) ⟨Nat.zero_le _, Nat.zero_le _⟩ dX3_layLimit_152) (fun H locs hG => ?_)
    exact tc_vret E hr hlk hG dX3_layLimit_155

set_option maxHeartbeats 4000000 in
set_option maxRecDepth 100000 in
theorem c_X3_layCentre_c (l : Launch) (G : tG) (τ : Nat → Nat) (h0 : Nat) (h1 : Nat) (x2 : Int32) (t0 : τ h0 = 27) (t1 : τ h1 = 31) (l2 : 0 ≤ x2.toInt) (u2 : x2.toInt ≤ 23) (d : Nat) (ih : P_X3_lay_c l G τ d) (hd : (24 - x2.toInt).toNat < d + 1) : Met l yX3_layCentre (.code yX3_layCentre cX3_layCentre 7 none :: tWS) (tRm (42 * d + 42) (541 * d + 1550)) (va_Pc [.ref h0, .ref h1, .int x2] (tPre G τ)) (tQv G τ) 0 0 (tA τ) := by
  refine tc_met (by decide) (Nat.le_of_ble_eq_true rfl) ?_
  intro p e s m below meth c E hSt hr hlk hG ls hl
  have hl : lv_has ls 7 [(0, .ref h0), (1, .ref h1), (2, .int x2)] := hl
  have hx := E.1
  have hb := E.2.1
  obtain ⟨H, eH⟩ : ∃ H, H = s.heap := ⟨_, rfl⟩
  obtain ⟨locs, eL⟩ : ∃ x : List Loc, x = [] := ⟨_, rfl⟩
  have hG : tGH G τ s H locs := by rw [eH, eL]; exact hG
  suffices hW : W p l e (tRm (42 * d + 42) (541 * d + 1550)) s m ([.ref h0, .ref h1, .int x2] : List Value).toArray below meth c H locs 0 0 (MQ below (tQv G τ) ([.ref h0, .ref h1, .int x2] : List Value).toArray s 0 0 (tA τ)) (F0 m 0 ls []) by subst eH; subst eL; exact hW
  clear eH eL
  refine lv_aload_n hx hb dX3_layCentre_0 rfl (lv_at hl 1 rfl) ?_
  refine tc_getr E hG t1 frk_X3_57 dX3_layCentre_1 (fun oa1 hoa1 => ?_)
  refine lv_astore_n (lv' := [(3, .ref oa1), (0, .ref h0), (1, .ref h1), (2, .int x2)]) hx hb dX3_layCentre_4 rfl hl (by decide) rfl (fun ls hl => ?_)
  refine lv_aload_n hx hb dX3_layCentre_5 rfl (lv_at hl 1 rfl) ?_
  refine lv_aload_n hx hb dX3_layCentre_6 rfl (lv_at hl 2 rfl) ?_
  refine tc_callpq (tc_runV (As := [.ref h1]) (rest := []) E hSt hG (c_X3_onlyKid_c l G τ h0 h1 t0 t1) t0 rv_27 kv_X3_onlyKid ml_X3_163 (tRm_ok (by omega) (by omega)) rfl hl.1 rfl (Nat.le_of_ble_eq_true rfl) ⟨Nat.zero_le _, Nat.zero_le _⟩ dX3_layCentre_7) (fun r2 pr2 => ?_)
  rcases r2 with _ | br2
  · skip
    refine lv_astoreN (lv' := [(4, .null), (3, .ref oa1), (0, .ref h0), (1, .ref h1), (2, .int x2)]) hx hb dX3_layCentre_10 hl (by decide) rfl (fun ls hl => ?_)
    refine lv_iconst (v := 0) hx hb dX3_layCentre_12 (by decide) ?_
    refine lv_istore (lv' := [(5, .int 0), (4, .null), (3, .ref oa1), (0, .ref h0), (1, .ref h1), (2, .int x2)]) hx hb dX3_layCentre_13 hl (by decide) rfl (fun ls hl => ?_)
    refine lv_iconst (v := 0) hx hb dX3_layCentre_15 (by decide) ?_
    refine lv_istore (lv' := [(6, .int 0), (5, .int 0), (4, .null), (3, .ref oa1), (0, .ref h0), (1, .ref h1), (2, .int x2)]) hx hb dX3_layCentre_16 hl (by decide) rfl (fun ls hl => ?_)
    refine lv_aloadN hx hb dX3_layCentre_18 (lv_at hl 2 rfl) ?_
    refine lv_ifnullN (tgt := 51) hx hb dX3_layCentre_20 (by decide) ?_
    refine lv_aload_n hx hb dX3_layCentre_51 rfl (lv_at hl 3 rfl) ?_
    refine lv_aload_n hx hb dX3_layCentre_52 rfl (lv_at hl 3 rfl) ?_
    refine tc_geti E hG hoa1 fi_X3_68 dX3_layCentre_53 (fun z3 _ _ => ?_)
    refine lv_sipush (v := 1000) hx hb dX3_layCentre_56 (by decide) ?_
    refine lv_icmp_ge (tgt := 69) hx hb dX3_layCentre_59 (by decide) (fun c4 => ?_) (fun c4 => ?_)
    · skip
      have ic4 := tn_le kI_1000 rfl c4
      refine lv_iload hx hb dX3_layCentre_69 (lv_at hl 1 rfl) ?_
      refine lv_aload_n hx hb dX3_layCentre_71 rfl (lv_at hl 3 rfl) ?_
      refine tc_geti E hG hoa1 fi_X3_74 dX3_layCentre_72 (fun z5 _ _ => ?_)
      refine lv_sipush (v := 1000) hx hb dX3_layCentre_75 (by decide) ?_
      refine lv_icmp_ge (tgt := 88) hx hb dX3_layCentre_78 (by decide) (fun c6 => ?_) (fun c6 => ?_)
      · skip
        have ic6 := tn_le kI_1000 rfl c6
        refine lv_iload hx hb dX3_layCentre_88 (lv_at hl 0 rfl) ?_
        refine tc_callv hG (tc_runV (As := [.int 0, .int 0]) (rest := []) E hSt hG (c_X2_sizeTo l G τ oa1 (0 : Int32) (0 : Int32) hoa1) hoa1 rv_4 kv_X2_sizeTo ml_X3_115 (tRm_ok (by omega) (by omega)) rfl hl.1 rfl (Nat.le_of_ble_eq_true rfl) ⟨Nat.zero_le _, Nat.zero_le _⟩ dX3_layCentre_90) (fun H locs hG => ?_)
        refine lv_aloadN hx hb dX3_layCentre_93 (lv_at hl 2 rfl) ?_
        refine lv_ifnullN (tgt := 124) hx hb dX3_layCentre_95 (by decide) ?_
        exact tc_vret E hr hlk hG dX3_layCentre_124
      · skip
        have ic6 := tn_nle kI_1000 rfl c6
        refine lv_aload_n hx hb dX3_layCentre_81 rfl (lv_at hl 3 rfl) ?_
        refine tc_geti E hG hoa1 fi_X3_74 dX3_layCentre_82 (fun z8 _ _ => ?_)
        refine lv_goto (tgt := 90) hx hb dX3_layCentre_85 (by decide) ?_
        refine tc_callv hG (tc_runV (As := [.int 0, .int z8]) (rest := []) E hSt hG (c_X2_sizeTo l G τ oa1 (0 : Int32) z8 hoa1) hoa1 rv_4 kv_X2_sizeTo ml_X3_115 (tRm_ok (by omega) (by omega)) rfl hl.1 rfl (Nat.le_of_ble_eq_true rfl) ⟨Nat.zero_le _, Nat.zero_le _⟩ dX3_layCentre_90) (fun H locs hG => ?_)
        refine lv_aloadN hx hb dX3_layCentre_93 (lv_at hl 2 rfl) ?_
        refine lv_ifnullN (tgt := 124) hx hb dX3_layCentre_95 (by decide) ?_
        exact tc_vret E hr hlk hG dX3_layCentre_124
    · skip
      have ic4 := tn_nle kI_1000 rfl c4
      refine lv_aload_n hx hb dX3_layCentre_62 rfl (lv_at hl 3 rfl) ?_
      refine tc_geti E hG hoa1 fi_X3_68 dX3_layCentre_63 (fun z10 _ _ => ?_)
      refine lv_goto (tgt := 71) hx hb dX3_layCentre_66 (by decide) ?_
      refine lv_aload_n hx hb dX3_layCentre_71 rfl (lv_at hl 3 rfl) ?_
      refine tc_geti E hG hoa1 fi_X3_74 dX3_layCentre_72 (fun z11 _ _ => ?_)
      refine lv_sipush (v := 1000) hx hb dX3_layCentre_75 (by decide) ?_
      refine lv_icmp_ge (tgt := 88) hx hb dX3_layCentre_78 (by decide) (fun c12 => ?_) (fun c12 => ?_)
      · skip
        have ic12 := tn_le kI_1000 rfl c12
        refine lv_iload hx hb dX3_layCentre_88 (lv_at hl 0 rfl) ?_
        refine tc_callv hG (tc_runV (As := [.int z10, .int 0]) (rest := []) E hSt hG (c_X2_sizeTo l G τ oa1 z10 (0 : Int32) hoa1) hoa1 rv_4 kv_X2_sizeTo ml_X3_115 (tRm_ok (by omega) (by omega)) rfl hl.1 rfl (Nat.le_of_ble_eq_true rfl) ⟨Nat.zero_le _, Nat.zero_le _⟩ dX3_layCentre_90) (fun H locs hG => ?_)
        refine lv_aloadN hx hb dX3_layCentre_93 (lv_at hl 2 rfl) ?_
        refine lv_ifnullN (tgt := 124) hx hb dX3_layCentre_95 (by decide) ?_
        exact tc_vret E hr hlk hG dX3_layCentre_124
      · skip
        have ic12 := tn_nle kI_1000 rfl c12
        refine lv_aload_n hx hb dX3_layCentre_81 rfl (lv_at hl 3 rfl) ?_
        refine tc_geti E hG hoa1 fi_X3_74 dX3_layCentre_82 (fun z14 _ _ => ?_)
        refine lv_goto (tgt := 90) hx hb dX3_layCentre_85 (by decide) ?_
        refine tc_callv hG (tc_runV (As := [.int z10, .int z14]) (rest := []) E hSt hG (c_X2_sizeTo l G τ oa1 z10 z14 hoa1) hoa1 rv_4 kv_X2_sizeTo ml_X3_115 (tRm_ok (by omega) (by omega)) rfl hl.1 rfl (Nat.le_of_ble_eq_true rfl) ⟨Nat.zero_le _, Nat.zero_le _⟩ dX3_layCentre_90) (fun H locs hG => ?_)
        refine lv_aloadN hx hb dX3_layCentre_93 (lv_at hl 2 rfl) ?_
        refine lv_ifnullN (tgt := 124) hx hb dX3_layCentre_95 (by decide) ?_
        exact tc_vret E hr hlk hG dX3_layCentre_124
  · have pr2 := tq_some pr2
    refine lv_astore (lv' := [(4, .ref br2), (3, .ref oa1), (0, .ref h0), (1, .ref h1), (2, .int x2)]) hx hb dX3_layCentre_10 hl (by decide) rfl (fun ls hl => ?_)
    refine lv_iconst (v := 0) hx hb dX3_layCentre_12 (by decide) ?_
    refine lv_istore (lv' := [(5, .int 0), (4, .ref br2), (3, .ref oa1), (0, .ref h0), (1, .ref h1), (2, .int x2)]) hx hb dX3_layCentre_13 hl (by decide) rfl (fun ls hl => ?_)
    refine lv_iconst (v := 0) hx hb dX3_layCentre_15 (by decide) ?_
    refine lv_istore (lv' := [(6, .int 0), (5, .int 0), (4, .ref br2), (3, .ref oa1), (0, .ref h0), (1, .ref h1), (2, .int x2)]) hx hb dX3_layCentre_16 hl (by decide) rfl (fun ls hl => ?_)
    refine lv_aload hx hb dX3_layCentre_18 (lv_at hl 2 rfl) ?_
    refine lv_ifnull hx hb dX3_layCentre_20 ?_
    refine lv_aload_n hx hb dX3_layCentre_23 rfl (lv_at hl 4 rfl) ?_
    refine lv_aload_n hx hb dX3_layCentre_24 rfl (lv_at hl 5 rfl) ?_
    refine lv_aload hx hb dX3_layCentre_25 (lv_at hl 2 rfl) ?_
    refine lv_iload_n hx hb dX3_layCentre_27 rfl (lv_at hl 6 rfl) ?_
    refine tc_callv hG (tc_runV (As := [.ref h1, .ref br2, .int x2]) (rest := []) E hSt hG (c_X3_layLoose_c l G τ h0 h1 br2 x2 t0 t1 pr2 (by omega) (by omega) d ih (by omega)) t0 rv_27 kv_X3_layLoose ml_X3_187 (tRm_ok (by omega) (by omega)) rfl hl.1 rfl (Nat.le_of_ble_eq_true rfl) ⟨Nat.zero_le _, Nat.zero_le _⟩ dX3_layCentre_28) (fun H locs hG => ?_)
    refine lv_aload hx hb dX3_layCentre_31 (lv_at hl 2 rfl) ?_
    refine tc_getr E hG pr2 frk_X3_57 dX3_layCentre_33 (fun oa17 hoa17 => ?_)
    refine tc_geti E hG hoa17 fi_X3_173 dX3_layCentre_36 (fun z18 _ _ => ?_)
    refine lv_istore (lv' := [(5, .int z18), (6, .int 0), (4, .ref br2), (3, .ref oa1), (0, .ref h0), (1, .ref h1), (2, .int x2)]) hx hb dX3_layCentre_39 hl (by decide) rfl (fun ls hl => ?_)
    refine lv_aload hx hb dX3_layCentre_41 (lv_at hl 2 rfl) ?_
    refine tc_getr E hG pr2 frk_X3_57 dX3_layCentre_43 (fun oa19 hoa19 => ?_)
    refine tc_geti E hG hoa19 fi_X3_176 dX3_layCentre_46 (fun z20 _ _ => ?_)
    refine lv_istore (lv' := [(6, .int z20), (5, .int z18), (4, .ref br2), (3, .ref oa1), (0, .ref h0), (1, .ref h1), (2, .int x2)]) hx hb dX3_layCentre_49 hl (by decide) rfl (fun ls hl => ?_)
    refine lv_aload_n hx hb dX3_layCentre_51 rfl (lv_at hl 3 rfl) ?_
    refine lv_aload_n hx hb dX3_layCentre_52 rfl (lv_at hl 3 rfl) ?_
    refine tc_geti E hG hoa1 fi_X3_68 dX3_layCentre_53 (fun z21 _ _ => ?_)
    refine lv_sipush (v := 1000) hx hb dX3_layCentre_56 (by decide) ?_
    refine lv_icmp_ge (tgt := 69) hx hb dX3_layCentre_59 (by decide) (fun c22 => ?_) (fun c22 => ?_)
    · skip
      have ic22 := tn_le kI_1000 rfl c22
      refine lv_iload hx hb dX3_layCentre_69 (lv_at hl 1 rfl) ?_
      refine lv_aload_n hx hb dX3_layCentre_71 rfl (lv_at hl 3 rfl) ?_
      refine tc_geti E hG hoa1 fi_X3_74 dX3_layCentre_72 (fun z23 _ _ => ?_)
      refine lv_sipush (v := 1000) hx hb dX3_layCentre_75 (by decide) ?_
      refine lv_icmp_ge (tgt := 88) hx hb dX3_layCentre_78 (by decide) (fun c24 => ?_) (fun c24 => ?_)
      · skip
        have ic24 := tn_le kI_1000 rfl c24
        refine lv_iload hx hb dX3_layCentre_88 (lv_at hl 0 rfl) ?_
        refine tc_callv hG (tc_runV (As := [.int z18, .int z20]) (rest := []) E hSt hG (c_X2_sizeTo l G τ oa1 z18 z20 hoa1) hoa1 rv_4 kv_X2_sizeTo ml_X3_115 (tRm_ok (by omega) (by omega)) rfl hl.1 rfl (Nat.le_of_ble_eq_true rfl) ⟨Nat.zero_le _, Nat.zero_le _⟩ dX3_layCentre_90) (fun H locs hG => ?_)
        refine lv_aload hx hb dX3_layCentre_93 (lv_at hl 2 rfl) ?_
        refine lv_ifnull hx hb dX3_layCentre_95 ?_
        refine lv_aload hx hb dX3_layCentre_98 (lv_at hl 2 rfl) ?_
        refine tc_getr E hG pr2 frk_X3_57 dX3_layCentre_100 (fun oa26 hoa26 => ?_)
        refine lv_aload_n hx hb dX3_layCentre_103 rfl (lv_at hl 3 rfl) ?_
        refine tc_geti E hG hoa1 fi_X3_173 dX3_layCentre_104 (fun z27 _ _ => ?_)
        refine lv_iload hx hb dX3_layCentre_107 (lv_at hl 1 rfl) ?_
        refine lv_isub hx hb dX3_layCentre_109 ?_
        refine lv_topi (fun z28 ez28 => ?_)
        refine lv_iconst (v := 2) hx hb dX3_layCentre_110 (by decide) ?_
        refine lv_idiv hx hb dX3_layCentre_111 (by decide) ?_
        refine lv_topi (fun z29 ez29 => ?_)
        refine lv_aload_n hx hb dX3_layCentre_112 rfl (lv_at hl 3 rfl) ?_
        refine tc_geti E hG hoa1 fi_X3_176 dX3_layCentre_113 (fun z30 _ _ => ?_)
        refine lv_iload hx hb dX3_layCentre_116 (lv_at hl 0 rfl) ?_
        refine lv_isub hx hb dX3_layCentre_118 ?_
        refine lv_topi (fun z31 ez31 => ?_)
        refine lv_iconst (v := 2) hx hb dX3_layCentre_119 (by decide) ?_
        refine lv_idiv hx hb dX3_layCentre_120 (by decide) ?_
        refine lv_topi (fun z32 ez32 => ?_)
        refine tc_callv hG (tc_runV (As := [.int z29, .int z32]) (rest := []) E hSt hG (c_X2_placeAt l G τ oa26 z29 z32 hoa26) hoa26 rv_4 kv_X2_placeAt ml_X3_170 (tRm_ok (by omega) (by omega)) rfl hl.1 rfl (Nat.le_of_ble_eq_true rfl) ⟨Nat.zero_le _, Nat.zero_le _⟩ dX3_layCentre_121) (fun H locs hG => ?_)
        exact tc_vret E hr hlk hG dX3_layCentre_124
      · skip
        have ic24 := tn_nle kI_1000 rfl c24
        refine lv_aload_n hx hb dX3_layCentre_81 rfl (lv_at hl 3 rfl) ?_
        refine tc_geti E hG hoa1 fi_X3_74 dX3_layCentre_82 (fun z34 _ _ => ?_)
        refine lv_goto (tgt := 90) hx hb dX3_layCentre_85 (by decide) ?_
        refine tc_callv hG (tc_runV (As := [.int z18, .int z34]) (rest := []) E hSt hG (c_X2_sizeTo l G τ oa1 z18 z34 hoa1) hoa1 rv_4 kv_X2_sizeTo ml_X3_115 (tRm_ok (by omega) (by omega)) rfl hl.1 rfl (Nat.le_of_ble_eq_true rfl) ⟨Nat.zero_le _, Nat.zero_le _⟩ dX3_layCentre_90) (fun H locs hG => ?_)
        refine lv_aload hx hb dX3_layCentre_93 (lv_at hl 2 rfl) ?_
        refine lv_ifnull hx hb dX3_layCentre_95 ?_
        refine lv_aload hx hb dX3_layCentre_98 (lv_at hl 2 rfl) ?_
        refine tc_getr E hG pr2 frk_X3_57 dX3_layCentre_100 (fun oa36 hoa36 => ?_)
        refine lv_aload_n hx hb dX3_layCentre_103 rfl (lv_at hl 3 rfl) ?_
        refine tc_geti E hG hoa1 fi_X3_173 dX3_layCentre_104 (fun z37 _ _ => ?_)
        refine lv_iload hx hb dX3_layCentre_107 (lv_at hl 1 rfl) ?_
        refine lv_isub hx hb dX3_layCentre_109 ?_
        refine lv_topi (fun z38 ez38 => ?_)
        refine lv_iconst (v := 2) hx hb dX3_layCentre_110 (by decide) ?_
        refine lv_idiv hx hb dX3_layCentre_111 (by decide) ?_
        refine lv_topi (fun z39 ez39 => ?_)
        refine lv_aload_n hx hb dX3_layCentre_112 rfl (lv_at hl 3 rfl) ?_
        refine tc_geti E hG hoa1 fi_X3_176 dX3_layCentre_113 (fun z40 _ _ => ?_)
        refine lv_iload hx hb dX3_layCentre_116 (lv_at hl 0 rfl) ?_
        refine lv_isub hx hb dX3_layCentre_118 ?_
        refine lv_topi (fun z41 ez41 => ?_)
        refine lv_iconst (v := 2) hx hb dX3_layCentre_119 (by decide) ?_
        refine lv_idiv hx hb dX3_layCentre_120 (by decide) ?_
        refine lv_topi (fun z42 ez42 => ?_)
        refine tc_callv hG (tc_runV (As := [.int z39, .int z42]) (rest := []) E hSt hG (c_X2_placeAt l G τ oa36 z39 z42 hoa36) hoa36 rv_4 kv_X2_placeAt ml_X3_170 (tRm_ok (by omega) (by omega)) rfl hl.1 rfl (Nat.le_of_ble_eq_true rfl) ⟨Nat.zero_le _, Nat.zero_le _⟩ dX3_layCentre_121) (fun H locs hG => ?_)
        exact tc_vret E hr hlk hG dX3_layCentre_124
    · skip
      have ic22 := tn_nle kI_1000 rfl c22
      refine lv_aload_n hx hb dX3_layCentre_62 rfl (lv_at hl 3 rfl) ?_
      refine tc_geti E hG hoa1 fi_X3_68 dX3_layCentre_63 (fun z44 _ _ => ?_)
      refine lv_goto (tgt := 71) hx hb dX3_layCentre_66 (by decide) ?_
      refine lv_aload_n hx hb dX3_layCentre_71 rfl (lv_at hl 3 rfl) ?_
      refine tc_geti E hG hoa1 fi_X3_74 dX3_layCentre_72 (fun z45 _ _ => ?_)
      refine lv_sipush (v := 1000) hx hb dX3_layCentre_75 (by decide) ?_
      refine lv_icmp_ge (tgt := 88) hx hb dX3_layCentre_78 (by decide) (fun c46 => ?_) (fun c46 => ?_)
      · skip
        have ic46 := tn_le kI_1000 rfl c46
        refine lv_iload hx hb dX3_layCentre_88 (lv_at hl 0 rfl) ?_
        refine tc_callv hG (tc_runV (As := [.int z44, .int z20]) (rest := []) E hSt hG (c_X2_sizeTo l G τ oa1 z44 z20 hoa1) hoa1 rv_4 kv_X2_sizeTo ml_X3_115 (tRm_ok (by omega) (by omega)) rfl hl.1 rfl (Nat.le_of_ble_eq_true rfl) ⟨Nat.zero_le _, Nat.zero_le _⟩ dX3_layCentre_90) (fun H locs hG => ?_)
        refine lv_aload hx hb dX3_layCentre_93 (lv_at hl 2 rfl) ?_
        refine lv_ifnull hx hb dX3_layCentre_95 ?_
        refine lv_aload hx hb dX3_layCentre_98 (lv_at hl 2 rfl) ?_
        refine tc_getr E hG pr2 frk_X3_57 dX3_layCentre_100 (fun oa48 hoa48 => ?_)
        refine lv_aload_n hx hb dX3_layCentre_103 rfl (lv_at hl 3 rfl) ?_
        refine tc_geti E hG hoa1 fi_X3_173 dX3_layCentre_104 (fun z49 _ _ => ?_)
        refine lv_iload hx hb dX3_layCentre_107 (lv_at hl 1 rfl) ?_
        refine lv_isub hx hb dX3_layCentre_109 ?_
        refine lv_topi (fun z50 ez50 => ?_)
        refine lv_iconst (v := 2) hx hb dX3_layCentre_110 (by decide) ?_
        refine lv_idiv hx hb dX3_layCentre_111 (by decide) ?_
        refine lv_topi (fun z51 ez51 => ?_)
        refine lv_aload_n hx hb dX3_layCentre_112 rfl (lv_at hl 3 rfl) ?_
        refine tc_geti E hG hoa1 fi_X3_176 dX3_layCentre_113 (fun z52 _ _ => ?_)
        refine lv_iload hx hb dX3_layCentre_116 (lv_at hl 0 rfl) ?_
        refine lv_isub hx hb dX3_layCentre_118 ?_
        refine lv_topi (fun z53 ez53 => ?_)
        refine lv_iconst (v := 2) hx hb dX3_layCentre_119 (by decide) ?_
        refine lv_idiv hx hb dX3_layCentre_120 (by decide) ?_
        refine lv_topi (fun z54 ez54 => ?_)
        refine tc_callv hG (tc_runV (As := [.int z51, .int z54]) (rest := []) E hSt hG (c_X2_placeAt l G τ oa48 z51 z54 hoa48) hoa48 rv_4 kv_X2_placeAt ml_X3_170 (tRm_ok (by omega) (by omega)) rfl hl.1 rfl (Nat.le_of_ble_eq_true rfl) ⟨Nat.zero_le _, Nat.zero_le _⟩ dX3_layCentre_121) (fun H locs hG => ?_)
        exact tc_vret E hr hlk hG dX3_layCentre_124
      · skip
        have ic46 := tn_nle kI_1000 rfl c46
        refine lv_aload_n hx hb dX3_layCentre_81 rfl (lv_at hl 3 rfl) ?_
        refine tc_geti E hG hoa1 fi_X3_74 dX3_layCentre_82 (fun z56 _ _ => ?_)
        refine lv_goto (tgt := 90) hx hb dX3_layCentre_85 (by decide) ?_
        refine tc_callv hG (tc_runV (As := [.int z44, .int z56]) (rest := []) E hSt hG (c_X2_sizeTo l G τ oa1 z44 z56 hoa1) hoa1 rv_4 kv_X2_sizeTo ml_X3_115 (tRm_ok (by omega) (by omega)) rfl hl.1 rfl (Nat.le_of_ble_eq_true rfl) ⟨Nat.zero_le _, Nat.zero_le _⟩ dX3_layCentre_90) (fun H locs hG => ?_)
        refine lv_aload hx hb dX3_layCentre_93 (lv_at hl 2 rfl) ?_
        refine lv_ifnull hx hb dX3_layCentre_95 ?_
        refine lv_aload hx hb dX3_layCentre_98 (lv_at hl 2 rfl) ?_
        refine tc_getr E hG pr2 frk_X3_57 dX3_layCentre_100 (fun oa58 hoa58 => ?_)
        refine lv_aload_n hx hb dX3_layCentre_103 rfl (lv_at hl 3 rfl) ?_
        refine tc_geti E hG hoa1 fi_X3_173 dX3_layCentre_104 (fun z59 _ _ => ?_)
        refine lv_iload hx hb dX3_layCentre_107 (lv_at hl 1 rfl) ?_
        refine lv_isub hx hb dX3_layCentre_109 ?_
        refine lv_topi (fun z60 ez60 => ?_)
        refine lv_iconst (v := 2) hx hb dX3_layCentre_110 (by decide) ?_
        refine lv_idiv hx hb dX3_layCentre_111 (by decide) ?_
        refine lv_topi (fun z61 ez61 => ?_)
        refine lv_aload_n hx hb dX3_layCentre_112 rfl (lv_at hl 3 rfl) ?_
        refine tc_geti E hG hoa1 fi_X3_176 dX3_layCentre_113 (fun z62 _ _ => ?_)
        refine lv_iload hx hb dX3_layCentre_116 (lv_at hl 0 rfl) ?_
        refine lv_isub hx hb dX3_layCentre_118 ?_
        refine lv_topi (fun z63 ez63 => ?_)
        refine lv_iconst (v := 2) hx hb dX3_layCentre_119 (by decide) ?_
        refine lv_idiv hx hb dX3_layCentre_120 (by decide) ?_
        refine lv_topi (fun z64 ez64 => ?_)
        refine tc_callv hG (tc_runV (As := [.int z61, .int z64]) (rest := []) E hSt hG (c_X2_placeAt l G τ oa58 z61 z64 hoa58) hoa58 rv_4 kv_X2_placeAt ml_X3_170 (tRm_ok (by omega) (by omega)) rfl hl.1 rfl (Nat.le_of_ble_eq_true rfl) ⟨Nat.zero_le _, Nat.zero_le _⟩ dX3_layCentre_121) (fun H locs hG => ?_)
        exact tc_vret E hr hlk hG dX3_layCentre_124

set_option maxHeartbeats 4000000 in
set_option maxRecDepth 100000 in
theorem c_X3_layFit_c (l : Launch) (G : tG) (τ : Nat → Nat) (h0 : Nat) (h1 : Nat) (x2 : Int32) (t0 : τ h0 = 27) (t1 : τ h1 = 31) (l2 : 0 ≤ x2.toInt) (u2 : x2.toInt ≤ 23) (d : Nat) (ih : P_X3_lay_c l G τ d) (hd : (24 - x2.toInt).toNat < d + 1) : Met l yX3_layFit (.code yX3_layFit cX3_layFit 6 none :: tWS) (tRm (42 * d + 80) (541 * d + 1994)) (va_Pc [.ref h0, .ref h1, .int x2] (tPre G τ)) (tQv G τ) 0 0 (tA τ) := by
  refine tc_met (by decide) (Nat.le_of_ble_eq_true rfl) ?_
  intro p e s m below meth c E hSt hr hlk hG ls hl
  have hl : lv_has ls 6 [(0, .ref h0), (1, .ref h1), (2, .int x2)] := hl
  have hx := E.1
  have hb := E.2.1
  obtain ⟨H, eH⟩ : ∃ H, H = s.heap := ⟨_, rfl⟩
  obtain ⟨locs, eL⟩ : ∃ x : List Loc, x = [] := ⟨_, rfl⟩
  have hG : tGH G τ s H locs := by rw [eH, eL]; exact hG
  suffices hW : W p l e (tRm (42 * d + 80) (541 * d + 1994)) s m ([.ref h0, .ref h1, .int x2] : List Value).toArray below meth c H locs 0 0 (MQ below (tQv G τ) ([.ref h0, .ref h1, .int x2] : List Value).toArray s 0 0 (tA τ)) (F0 m 0 ls []) by subst eH; subst eL; exact hW
  clear eH eL
  refine lv_aload_n hx hb dX3_layFit_0 rfl (lv_at hl 1 rfl) ?_
  refine tc_getr E hG t1 frk_X3_57 dX3_layFit_1 (fun oa1 hoa1 => ?_)
  refine lv_astore_n (lv' := [(3, .ref oa1), (0, .ref h0), (1, .ref h1), (2, .int x2)]) hx hb dX3_layFit_4 rfl hl (by decide) rfl (fun ls hl => ?_)
  refine lv_aload_n hx hb dX3_layFit_5 rfl (lv_at hl 1 rfl) ?_
  refine lv_aload_n hx hb dX3_layFit_6 rfl (lv_at hl 2 rfl) ?_
  refine tc_callpq (tc_runV (As := [.ref h1]) (rest := []) E hSt hG (c_X3_onlyKid_c l G τ h0 h1 t0 t1) t0 rv_27 kv_X3_onlyKid ml_X3_163 (tRm_ok (by omega) (by omega)) rfl hl.1 rfl (Nat.le_of_ble_eq_true rfl) ⟨Nat.zero_le _, Nat.zero_le _⟩ dX3_layFit_7) (fun r2 pr2 => ?_)
  rcases r2 with _ | br2
  · skip
    refine lv_astoreN (lv' := [(4, .null), (3, .ref oa1), (0, .ref h0), (1, .ref h1), (2, .int x2)]) hx hb dX3_layFit_10 hl (by decide) rfl (fun ls hl => ?_)
    refine lv_aloadN hx hb dX3_layFit_12 (lv_at hl 0 rfl) ?_
    refine lv_ifnonnullN hx hb dX3_layFit_14 ?_
    refine lv_aload_n hx hb dX3_layFit_17 rfl (lv_at hl 1 rfl) ?_
    refine lv_iconst (v := 0) hx hb dX3_layFit_18 (by decide) ?_
    refine lv_aload_n hx hb dX3_layFit_19 rfl (lv_at hl 1 rfl) ?_
    refine tc_geti E hG hoa1 fi_X3_71 dX3_layFit_20 (fun z3 _ _ => ?_)
    refine tc_callv hG (tc_runV (As := [.int 0, .int z3]) (rest := []) E hSt hG (c_X2_sizeTo l G τ oa1 (0 : Int32) z3 hoa1) hoa1 rv_4 kv_X2_sizeTo ml_X3_115 (tRm_ok (by omega) (by omega)) rfl hl.1 rfl (Nat.le_of_ble_eq_true rfl) ⟨Nat.zero_le _, Nat.zero_le _⟩ dX3_layFit_23) (fun H locs hG => ?_)
    exact tc_vret E hr hlk hG dX3_layFit_26
  · have pr2 := tq_some pr2
    refine lv_astore (lv' := [(4, .ref br2), (3, .ref oa1), (0, .ref h0), (1, .ref h1), (2, .int x2)]) hx hb dX3_layFit_10 hl (by decide) rfl (fun ls hl => ?_)
    refine lv_aload hx hb dX3_layFit_12 (lv_at hl 0 rfl) ?_
    refine lv_ifnonnull (tgt := 27) hx hb dX3_layFit_14 (by decide) ?_
    refine lv_aload_n hx hb dX3_layFit_27 rfl (lv_at hl 2 rfl) ?_
    refine lv_aload hx hb dX3_layFit_28 (lv_at hl 0 rfl) ?_
    refine lv_iconst (v := 0) hx hb dX3_layFit_30 (by decide) ?_
    refine lv_iload_n hx hb dX3_layFit_31 rfl (lv_at hl 4 rfl) ?_
    refine lv_iconst (v := 1) hx hb dX3_layFit_32 (by decide) ?_
    refine lv_iadd hx hb dX3_layFit_33 ?_
    refine lv_topi (fun z5 ez5 => ?_)
    have tz5 := tn_add ez5 rfl kI_1 (by omega) (by omega)
    refine tc_calli hG (tc_runV (As := [.ref br2, .int 0, .int z5]) (rest := []) E hSt hG (c_X3_askedOf_c l G τ 25 h0 br2 (0 : Int32) z5 t0 pr2 (by omega) (by first | decide | omega)) t0 rv_27 kv_X3_askedOf ml_X3_191 (tRm_ok (by omega) (by omega)) rfl hl.1 rfl (Nat.le_of_ble_eq_true rfl) ⟨Nat.zero_le _, Nat.zero_le _⟩ dX3_layFit_34) (fun r6 H locs pr6 hG => ?_)
    refine lv_aload_n hx hb dX3_layFit_37 rfl (lv_at hl 1 rfl) ?_
    refine tc_geti E hG hoa1 fi_X3_63 dX3_layFit_38 (fun z7 _ _ => ?_)
    refine lv_aload_n hx hb dX3_layFit_41 rfl (lv_at hl 1 rfl) ?_
    refine tc_geti E hG hoa1 fi_X3_68 dX3_layFit_42 (fun z8 _ _ => ?_)
    refine tc_callp (tc_runN (As := [.int r6, .int z7, .int z8]) (rest := []) E hSt hG (c_X9_held l G τ r6 z7 z8) ks_X9_held (List.mem_of_getElem? (i := 2) rfl) (tRm_ok (by omega) (by omega)) rfl hl.1 rfl (Nat.le_of_ble_eq_true rfl) ⟨Nat.zero_le _, Nat.zero_le _⟩ dX3_layFit_45) (fun r9 pr9 => ?_)
    refine lv_istore (lv' := [(5, .int r9), (4, .ref br2), (3, .ref oa1), (0, .ref h0), (1, .ref h1), (2, .int x2)]) hx hb dX3_layFit_48 hl (by decide) rfl (fun ls hl => ?_)
    refine lv_aload_n hx hb dX3_layFit_50 rfl (lv_at hl 3 rfl) ?_
    refine lv_aload hx hb dX3_layFit_51 (lv_at hl 1 rfl) ?_
    refine lv_iload hx hb dX3_layFit_53 (lv_at hl 0 rfl) ?_
    refine lv_iload hx hb dX3_layFit_55 (lv_at hl 0 rfl) ?_
    refine lv_aload_n hx hb dX3_layFit_57 rfl (lv_at hl 2 rfl) ?_
    refine tc_geti E hG hoa1 fi_X3_71 dX3_layFit_58 (fun z10 _ _ => ?_)
    refine lv_aload_n hx hb dX3_layFit_61 rfl (lv_at hl 2 rfl) ?_
    refine tc_geti E hG hoa1 fi_X3_74 dX3_layFit_62 (fun z11 _ _ => ?_)
    refine lv_iload_n hx hb dX3_layFit_65 rfl (lv_at hl 5 rfl) ?_
    refine lv_iconst (v := 1) hx hb dX3_layFit_66 (by decide) ?_
    refine lv_iadd hx hb dX3_layFit_67 ?_
    refine lv_topi (fun z12 ez12 => ?_)
    have tz12 := tn_add ez12 rfl kI_1 (by omega) (by omega)
    refine tc_callv hG (tc_runV (As := [.ref br2, .int r9, .int r9, .int z10, .int z11, .int z12]) (rest := []) E hSt hG (ih h0 br2 r9 r9 z10 z11 z12 t0 pr2 (by omega) (by omega)) t0 rv_27 kv_X3_lay ml_X3_44 (tRm_ok (by omega) (by omega)) rfl hl.1 rfl (Nat.le_of_ble_eq_true rfl) ⟨Nat.zero_le _, Nat.zero_le _⟩ dX3_layFit_68) (fun H locs hG => ?_)
    refine lv_aload hx hb dX3_layFit_71 (lv_at hl 1 rfl) ?_
    refine tc_getr E hG pr2 frk_X3_57 dX3_layFit_73 (fun oa14 hoa14 => ?_)
    refine lv_iconst (v := 0) hx hb dX3_layFit_76 (by decide) ?_
    refine lv_iconst (v := 0) hx hb dX3_layFit_77 (by decide) ?_
    refine tc_callv hG (tc_runV (As := [.int 0, .int 0]) (rest := []) E hSt hG (c_X2_placeAt l G τ oa14 (0 : Int32) (0 : Int32) hoa14) hoa14 rv_4 kv_X2_placeAt ml_X3_170 (tRm_ok (by omega) (by omega)) rfl hl.1 rfl (Nat.le_of_ble_eq_true rfl) ⟨Nat.zero_le _, Nat.zero_le _⟩ dX3_layFit_78) (fun H locs hG => ?_)
    refine lv_aload_n hx hb dX3_layFit_81 rfl (lv_at hl 2 rfl) ?_
    refine lv_aload hx hb dX3_layFit_82 (lv_at hl 1 rfl) ?_
    refine tc_getr E hG pr2 frk_X3_57 dX3_layFit_84 (fun oa16 hoa16 => ?_)
    refine tc_geti E hG hoa16 fi_X3_173 dX3_layFit_87 (fun z17 _ _ => ?_)
    refine lv_aload hx hb dX3_layFit_90 (lv_at hl 1 rfl) ?_
    refine tc_getr E hG pr2 frk_X3_57 dX3_layFit_92 (fun oa18 hoa18 => ?_)
    refine tc_geti E hG hoa18 fi_X3_176 dX3_layFit_95 (fun z19 _ _ => ?_)
    refine tc_callv hG (tc_runV (As := [.int z17, .int z19]) (rest := []) E hSt hG (c_X2_sizeTo l G τ oa1 z17 z19 hoa1) hoa1 rv_4 kv_X2_sizeTo ml_X3_115 (tRm_ok (by omega) (by omega)) rfl hl.1 rfl (Nat.le_of_ble_eq_true rfl) ⟨Nat.zero_le _, Nat.zero_le _⟩ dX3_layFit_98) (fun H locs hG => ?_)
    exact tc_vret E hr hlk hG dX3_layFit_101

set_option maxHeartbeats 4000000 in
set_option maxRecDepth 100000 in
theorem c_X3_layRatio_c (l : Launch) (G : tG) (τ : Nat → Nat) (h0 : Nat) (h1 : Nat) (x2 : Int32) (t0 : τ h0 = 27) (t1 : τ h1 = 31) (l2 : 0 ≤ x2.toInt) (u2 : x2.toInt ≤ 23) (d : Nat) (ih : P_X3_lay_c l G τ d) (hd : (24 - x2.toInt).toNat < d + 1) : Met l yX3_layRatio (.code yX3_layRatio cX3_layRatio 9 none :: tWS) (tRm (42 * d + 41) (541 * d + 1527)) (va_Pc [.ref h0, .ref h1, .int x2] (tPre G τ)) (tQv G τ) 0 0 (tA τ) := by
  refine tc_met (by decide) (Nat.le_of_ble_eq_true rfl) ?_
  intro p e s m below meth c E hSt hr hlk hG ls hl
  have hl : lv_has ls 9 [(0, .ref h0), (1, .ref h1), (2, .int x2)] := hl
  have hx := E.1
  have hb := E.2.1
  obtain ⟨H, eH⟩ : ∃ H, H = s.heap := ⟨_, rfl⟩
  obtain ⟨locs, eL⟩ : ∃ x : List Loc, x = [] := ⟨_, rfl⟩
  have hG : tGH G τ s H locs := by rw [eH, eL]; exact hG
  suffices hW : W p l e (tRm (42 * d + 41) (541 * d + 1527)) s m ([.ref h0, .ref h1, .int x2] : List Value).toArray below meth c H locs 0 0 (MQ below (tQv G τ) ([.ref h0, .ref h1, .int x2] : List Value).toArray s 0 0 (tA τ)) (F0 m 0 ls []) by subst eH; subst eL; exact hW
  clear eH eL
  have J103 : ∀ (H : Heap) (locs : List Loc) (ls : Array Slot) (a3 : Nat) (v6 : Int32) (v7 : Int32), tGH G τ s H locs → lv_has ls 9 [(0, .ref h0), (1, .ref h1), (2, .int x2), (3, .ref a3), (6, .int v6), (7, .int v7)] → τ a3 = 4 → W p l e (tRm (42 * d + 41) (541 * d + 1527)) s m ([.ref h0, .ref h1, .int x2] : List Value).toArray below meth c H locs 0 0 (MQ below (tQv G τ) ([.ref h0, .ref h1, .int x2] : List Value).toArray s 0 0 (tA τ)) (F0 m 103 ls []) := by
    intro H locs ls a3 v6 v7 hG hl e3
    refine lv_aload_n hx hb dX3_layRatio_103 rfl (lv_at hl 3 rfl) ?_
    refine lv_iload hx hb dX3_layRatio_104 (lv_at hl 4 rfl) ?_
    refine lv_iload hx hb dX3_layRatio_106 (lv_at hl 5 rfl) ?_
    refine tc_callv hG (tc_runV (As := [.int v6, .int v7]) (rest := []) E hSt hG (c_X2_sizeTo l G τ a3 v6 v7 e3) e3 rv_4 kv_X2_sizeTo ml_X3_115 (tRm_ok (by omega) (by omega)) rfl hl.1 rfl (Nat.le_of_ble_eq_true rfl) ⟨Nat.zero_le _, Nat.zero_le _⟩ dX3_layRatio_108) (fun H locs hG => ?_)
    refine lv_aload_n hx hb dX3_layRatio_111 rfl (lv_at hl 0 rfl) ?_
    refine lv_aload_n hx hb dX3_layRatio_112 rfl (lv_at hl 1 rfl) ?_
    refine tc_callpq (tc_runV (As := [.ref h1]) (rest := []) E hSt hG (c_X3_onlyKid_c l G τ h0 h1 t0 t1) t0 rv_27 kv_X3_onlyKid ml_X3_163 (tRm_ok (by omega) (by omega)) rfl hl.1 rfl (Nat.le_of_ble_eq_true rfl) ⟨Nat.zero_le _, Nat.zero_le _⟩ dX3_layRatio_113) (fun r2 pr2 => ?_)
    rcases r2 with _ | br2
    · skip
      refine lv_astoreN (lv' := [(8, .null), (0, .ref h0), (1, .ref h1), (2, .int x2), (3, .ref a3), (6, .int v6), (7, .int v7)]) hx hb dX3_layRatio_116 hl (by decide) rfl (fun ls hl => ?_)
      refine lv_aloadN hx hb dX3_layRatio_118 (lv_at hl 0 rfl) ?_
      refine lv_ifnullN (tgt := 158) hx hb dX3_layRatio_120 (by decide) ?_
      exact tc_vret E hr hlk hG dX3_layRatio_158
    · have pr2 := tq_some pr2
      refine lv_astore (lv' := [(8, .ref br2), (0, .ref h0), (1, .ref h1), (2, .int x2), (3, .ref a3), (6, .int v6), (7, .int v7)]) hx hb dX3_layRatio_116 hl (by decide) rfl (fun ls hl => ?_)
      refine lv_aload hx hb dX3_layRatio_118 (lv_at hl 0 rfl) ?_
      refine lv_ifnull hx hb dX3_layRatio_120 ?_
      refine lv_aload_n hx hb dX3_layRatio_123 rfl (lv_at hl 1 rfl) ?_
      refine lv_aload hx hb dX3_layRatio_124 (lv_at hl 0 rfl) ?_
      refine lv_aload_n hx hb dX3_layRatio_126 rfl (lv_at hl 4 rfl) ?_
      refine tc_geti E hG e3 fi_X3_173 dX3_layRatio_127 (fun z3 _ _ => ?_)
      refine lv_aload_n hx hb dX3_layRatio_130 rfl (lv_at hl 4 rfl) ?_
      refine tc_geti E hG e3 fi_X3_173 dX3_layRatio_131 (fun z4 _ _ => ?_)
      refine lv_aload_n hx hb dX3_layRatio_134 rfl (lv_at hl 4 rfl) ?_
      refine tc_geti E hG e3 fi_X3_176 dX3_layRatio_135 (fun z5 _ _ => ?_)
      refine lv_aload_n hx hb dX3_layRatio_138 rfl (lv_at hl 4 rfl) ?_
      refine tc_geti E hG e3 fi_X3_176 dX3_layRatio_139 (fun z6 _ _ => ?_)
      refine lv_iload_n hx hb dX3_layRatio_142 rfl (lv_at hl 3 rfl) ?_
      refine lv_iconst (v := 1) hx hb dX3_layRatio_143 (by decide) ?_
      refine lv_iadd hx hb dX3_layRatio_144 ?_
      refine lv_topi (fun z7 ez7 => ?_)
      have tz7 := tn_add ez7 rfl kI_1 (by omega) (by omega)
      refine tc_callv hG (tc_runV (As := [.ref br2, .int z3, .int z4, .int z5, .int z6, .int z7]) (rest := []) E hSt hG (ih h0 br2 z3 z4 z5 z6 z7 t0 pr2 (by omega) (by omega)) t0 rv_27 kv_X3_lay ml_X3_44 (tRm_ok (by omega) (by omega)) rfl hl.1 rfl (Nat.le_of_ble_eq_true rfl) ⟨Nat.zero_le _, Nat.zero_le _⟩ dX3_layRatio_145) (fun H locs hG => ?_)
      refine lv_aload hx hb dX3_layRatio_148 (lv_at hl 0 rfl) ?_
      refine tc_getr E hG pr2 frk_X3_57 dX3_layRatio_150 (fun oa9 hoa9 => ?_)
      refine lv_iconst (v := 0) hx hb dX3_layRatio_153 (by decide) ?_
      refine lv_iconst (v := 0) hx hb dX3_layRatio_154 (by decide) ?_
      refine tc_callv hG (tc_runV (As := [.int 0, .int 0]) (rest := []) E hSt hG (c_X2_placeAt l G τ oa9 (0 : Int32) (0 : Int32) hoa9) hoa9 rv_4 kv_X2_placeAt ml_X3_170 (tRm_ok (by omega) (by omega)) rfl hl.1 rfl (Nat.le_of_ble_eq_true rfl) ⟨Nat.zero_le _, Nat.zero_le _⟩ dX3_layRatio_155) (fun H locs hG => ?_)
      exact tc_vret E hr hlk hG dX3_layRatio_158
  have J66 : ∀ (H : Heap) (locs : List Loc) (ls : Array Slot) (a3 : Nat) (v4 : Int32) (v5 : Int32) (v6 : Int32), tGH G τ s H locs → lv_has ls 9 [(0, .ref h0), (1, .ref h1), (2, .int x2), (3, .ref a3), (4, .int v4), (5, .int v5), (6, .int v6)] → τ a3 = 4 → W p l e (tRm (42 * d + 41) (541 * d + 1527)) s m ([.ref h0, .ref h1, .int x2] : List Value).toArray below meth c H locs 0 0 (MQ below (tQv G τ) ([.ref h0, .ref h1, .int x2] : List Value).toArray s 0 0 (tA τ)) (F0 m 66 ls []) := by
    intro H locs ls a3 v4 v5 v6 hG hl e3
    refine lv_iload hx hb dX3_layRatio_66 (lv_at hl 6 rfl) ?_
    refine lv_iload hx hb dX3_layRatio_68 (lv_at hl 5 rfl) ?_
    refine lv_iload hx hb dX3_layRatio_70 (lv_at hl 4 rfl) ?_
    refine tc_callp (tc_runN (As := [.int v6, .int v5, .int v4]) (rest := []) E hSt hG (c_X9_timesBy l G τ v6 v5 v4) ks_X9_timesBy (List.mem_of_getElem? (i := 3) rfl) (tRm_ok (by omega) (by omega)) rfl hl.1 rfl (Nat.le_of_ble_eq_true rfl) ⟨Nat.zero_le _, Nat.zero_le _⟩ dX3_layRatio_72) (fun r11 pr11 => ?_)
    refine lv_istore (lv' := [(7, .int r11), (0, .ref h0), (1, .ref h1), (2, .int x2), (3, .ref a3), (4, .int v4), (5, .int v5), (6, .int v6)]) hx hb dX3_layRatio_75 hl (by decide) rfl (fun ls hl => ?_)
    refine lv_iload hx hb dX3_layRatio_77 (lv_at hl 0 rfl) ?_
    refine lv_aload_n hx hb dX3_layRatio_79 rfl (lv_at hl 4 rfl) ?_
    refine tc_geti E hG e3 fi_X3_74 dX3_layRatio_80 (fun z12 _ _ => ?_)
    refine lv_icmp_le (tgt := 103) hx hb dX3_layRatio_83 (by decide) (fun c13 => ?_) (fun c13 => ?_)
    · skip
      have ic13 := tn_le rfl rfl c13
      exact J103 H locs ls (a3) v6 r11 hG (lv_sub hl [1, 2, 3, 4, 7, 0] rfl) e3
    · skip
      have ic13 := tn_nle rfl rfl c13
      refine lv_aload_n hx hb dX3_layRatio_86 rfl (lv_at hl 4 rfl) ?_
      refine tc_geti E hG e3 fi_X3_74 dX3_layRatio_87 (fun z14 _ _ => ?_)
      refine lv_istore (lv' := [(7, .int z14), (0, .ref h0), (1, .ref h1), (2, .int x2), (3, .ref a3), (4, .int v4), (5, .int v5), (6, .int v6)]) hx hb dX3_layRatio_90 hl (by decide) rfl (fun ls hl => ?_)
      refine lv_iload hx hb dX3_layRatio_92 (lv_at hl 0 rfl) ?_
      refine lv_iload hx hb dX3_layRatio_94 (lv_at hl 5 rfl) ?_
      refine lv_iload hx hb dX3_layRatio_96 (lv_at hl 6 rfl) ?_
      refine tc_callp (tc_runN (As := [.int z14, .int v4, .int v5]) (rest := []) E hSt hG (c_X9_timesBy l G τ z14 v4 v5) ks_X9_timesBy (List.mem_of_getElem? (i := 3) rfl) (tRm_ok (by omega) (by omega)) rfl hl.1 rfl (Nat.le_of_ble_eq_true rfl) ⟨Nat.zero_le _, Nat.zero_le _⟩ dX3_layRatio_98) (fun r15 pr15 => ?_)
      refine lv_istore (lv' := [(6, .int r15), (7, .int z14), (0, .ref h0), (1, .ref h1), (2, .int x2), (3, .ref a3), (4, .int v4), (5, .int v5)]) hx hb dX3_layRatio_101 hl (by decide) rfl (fun ls hl => ?_)
      exact J103 H locs ls (a3) r15 z14 hG (lv_sub hl [2, 3, 4, 5, 0, 1] rfl) e3
  have J64 : ∀ (H : Heap) (locs : List Loc) (ls : Array Slot) (a3 : Nat) (v4 : Int32) (v5 : Int32) (vs0 : Int32), tGH G τ s H locs → lv_has ls 9 [(0, .ref h0), (1, .ref h1), (2, .int x2), (3, .ref a3), (4, .int v4), (5, .int v5)] → τ a3 = 4 → W p l e (tRm (42 * d + 41) (541 * d + 1527)) s m ([.ref h0, .ref h1, .int x2] : List Value).toArray below meth c H locs 0 0 (MQ below (tQv G τ) ([.ref h0, .ref h1, .int x2] : List Value).toArray s 0 0 (tA τ)) (F0 m 64 ls [.int vs0]) := by
    intro H locs ls a3 v4 v5 vs0 hG hl e3
    refine lv_istore (lv' := [(6, .int vs0), (0, .ref h0), (1, .ref h1), (2, .int x2), (3, .ref a3), (4, .int v4), (5, .int v5)]) hx hb dX3_layRatio_64 hl (by decide) rfl (fun ls hl => ?_)
    exact J66 H locs ls (a3) v4 v5 vs0 hG (lv_sub hl [1, 2, 3, 4, 5, 6, 0] rfl) e3
  refine lv_aload_n hx hb dX3_layRatio_0 rfl (lv_at hl 1 rfl) ?_
  refine tc_getr E hG t1 frk_X3_57 dX3_layRatio_1 (fun oa16 hoa16 => ?_)
  refine lv_astore_n (lv' := [(3, .ref oa16), (0, .ref h0), (1, .ref h1), (2, .int x2)]) hx hb dX3_layRatio_4 rfl hl (by decide) rfl (fun ls hl => ?_)
  refine lv_aload_n hx hb dX3_layRatio_5 rfl (lv_at hl 2 rfl) ?_
  refine tc_getr E hG t1 frk_X3_111 dX3_layRatio_6 (fun oa17 hoa17 => ?_)
  refine lv_iconst (v := 0) hx hb dX3_layRatio_9 (by decide) ?_
  refine tc_iald E hG hoa17 ta_32 (t_in (by decide) (by decide)) dX3_layRatio_10 (fun z18 _ _ => ?_)
  refine lv_istore (lv' := [(4, .int z18), (3, .ref oa16), (0, .ref h0), (1, .ref h1), (2, .int x2)]) hx hb dX3_layRatio_11 hl (by decide) rfl (fun ls hl => ?_)
  refine lv_aload_n hx hb dX3_layRatio_13 rfl (lv_at hl 3 rfl) ?_
  refine tc_getr E hG t1 frk_X3_111 dX3_layRatio_14 (fun oa19 hoa19 => ?_)
  refine lv_iconst (v := 1) hx hb dX3_layRatio_17 (by decide) ?_
  refine tc_iald E hG hoa19 ta_32 (t_in (by decide) (by decide)) dX3_layRatio_18 (fun z20 _ _ => ?_)
  refine lv_istore (lv' := [(5, .int z20), (4, .int z18), (3, .ref oa16), (0, .ref h0), (1, .ref h1), (2, .int x2)]) hx hb dX3_layRatio_19 hl (by decide) rfl (fun ls hl => ?_)
  refine lv_aload_n hx hb dX3_layRatio_21 rfl (lv_at hl 2 rfl) ?_
  refine tc_geti E hG hoa16 fi_X3_68 dX3_layRatio_22 (fun z21 _ _ => ?_)
  refine lv_istore (lv' := [(6, .int z21), (5, .int z20), (4, .int z18), (3, .ref oa16), (0, .ref h0), (1, .ref h1), (2, .int x2)]) hx hb dX3_layRatio_25 hl (by decide) rfl (fun ls hl => ?_)
  refine lv_iload hx hb dX3_layRatio_27 (lv_at hl 0 rfl) ?_
  refine lv_sipush (v := 1000) hx hb dX3_layRatio_29 (by decide) ?_
  refine lv_icmp_lt (tgt := 66) hx hb dX3_layRatio_32 (by decide) (fun c22 => ?_) (fun c22 => ?_)
  · skip
    have ic22 := tn_lt rfl kI_1000 c22
    exact J66 H locs ls (oa16) z18 z20 z21 hG (lv_sub hl [4, 5, 6, 3, 2, 1, 0] rfl) hoa16
  · skip
    have ic22 := tn_nlt rfl kI_1000 c22
    refine lv_aload_n hx hb dX3_layRatio_35 rfl (lv_at hl 3 rfl) ?_
    refine tc_geti E hG hoa16 fi_X3_74 dX3_layRatio_36 (fun z23 _ _ => ?_)
    refine lv_sipush (v := 1000) hx hb dX3_layRatio_39 (by decide) ?_
    refine lv_icmp_lt (tgt := 53) hx hb dX3_layRatio_42 (by decide) (fun c24 => ?_) (fun c24 => ?_)
    · skip
      have ic24 := tn_lt rfl kI_1000 c24
      refine lv_aload_n hx hb dX3_layRatio_53 rfl (lv_at hl 3 rfl) ?_
      refine tc_geti E hG hoa16 fi_X3_74 dX3_layRatio_54 (fun z25 _ _ => ?_)
      refine lv_iload hx hb dX3_layRatio_57 (lv_at hl 2 rfl) ?_
      refine lv_iload hx hb dX3_layRatio_59 (lv_at hl 1 rfl) ?_
      refine tc_callp (tc_runN (As := [.int z25, .int z18, .int z20]) (rest := []) E hSt hG (c_X9_timesBy l G τ z25 z18 z20) ks_X9_timesBy (List.mem_of_getElem? (i := 3) rfl) (tRm_ok (by omega) (by omega)) rfl hl.1 rfl (Nat.le_of_ble_eq_true rfl) ⟨Nat.zero_le _, Nat.zero_le _⟩ dX3_layRatio_61) (fun r26 pr26 => ?_)
      exact J64 H locs ls (oa16) z18 z20 r26 hG (lv_sub hl [4, 5, 6, 3, 2, 1] rfl) hoa16
    · skip
      have ic24 := tn_nlt rfl kI_1000 c24
      refine lv_bipush (v := 10) hx hb dX3_layRatio_45 (by decide) ?_
      refine lv_iload hx hb dX3_layRatio_47 (lv_at hl 2 rfl) ?_
      refine lv_imul hx hb dX3_layRatio_49 ?_
      refine lv_topi (fun z27 ez27 => ?_)
      refine lv_goto (tgt := 64) hx hb dX3_layRatio_50 (by decide) ?_
      exact J64 H locs ls (oa16) z18 z20 z27 hG (lv_sub hl [4, 5, 6, 3, 2, 1] rfl) hoa16

set_option maxHeartbeats 4000000 in
set_option maxRecDepth 100000 in
theorem c_X3_layLayers_c (l : Launch) (G : tG) (τ : Nat → Nat) (h0 : Nat) (h1 : Nat) (x2 : Int32) (t0 : τ h0 = 27) (t1 : τ h1 = 31) (l2 : 0 ≤ x2.toInt) (u2 : x2.toInt ≤ 23) (d : Nat) (ih : P_X3_lay_c l G τ d) (hd : (24 - x2.toInt).toNat < d + 1) : Met l yX3_layLayers (.code yX3_layLayers cX3_layLayers 9 none :: tWS) (tRm (42 * d + 42) (541 * d + 1550)) (va_Pc [.ref h0, .ref h1, .int x2] (tPre G τ)) (tQv G τ) 0 0 (tA τ) := by
  refine tc_met (by decide) (Nat.le_of_ble_eq_true rfl) ?_
  intro p e s m below meth c E hSt hr hlk hG ls hl
  have hl : lv_has ls 9 [(0, .ref h0), (1, .ref h1), (2, .int x2)] := hl
  have hx := E.1
  have hb := E.2.1
  obtain ⟨H, eH⟩ : ∃ H, H = s.heap := ⟨_, rfl⟩
  obtain ⟨locs, eL⟩ : ∃ x : List Loc, x = [] := ⟨_, rfl⟩
  have hG : tGH G τ s H locs := by rw [eH, eL]; exact hG
  suffices hW : W p l e (tRm (42 * d + 42) (541 * d + 1550)) s m ([.ref h0, .ref h1, .int x2] : List Value).toArray below meth c H locs 0 0 (MQ below (tQv G τ) ([.ref h0, .ref h1, .int x2] : List Value).toArray s 0 0 (tA τ)) (F0 m 0 ls []) by subst eH; subst eL; exact hW
  clear eH eL
  have J90 : ∀ (n90 : Nat) (H : Heap) (locs : List Loc) (ls : Array Slot) (a3 : Nat) (v6 : Int32), tGH G τ s H locs → lv_has ls 9 [(0, .ref h0), (1, .ref h1), (3, .ref a3), (6, .int v6)] → τ a3 = 4 → 0 ≤ v6.toInt → v6.toInt ≤ 8 → (8 - v6.toInt).toNat < n90 → W p l e (tRm (42 * d + 42) (541 * d + 1550)) s m ([.ref h0, .ref h1, .int x2] : List Value).toArray below meth c H locs 0 0 (MQ below (tQv G τ) ([.ref h0, .ref h1, .int x2] : List Value).toArray s 0 0 (tA τ)) (F0 m 90 ls []) := by
    intro n90
    induction n90 with
    | zero => intro H locs ls a3 v6 hG hl e3 b6 c6 hn90; exact absurd hn90 (Nat.not_lt_zero _)
    | succ n90 ih90 =>
      intro H locs ls a3 v6 hG hl e3 b6 c6 hn90
      refine lv_iload hx hb dX3_layLayers_90 (lv_at hl 3 rfl) ?_
      refine lv_aload_n hx hb dX3_layLayers_92 rfl (lv_at hl 1 rfl) ?_
      refine tc_geti E hG t1 fik_X3_144 dX3_layLayers_93 (fun z1 lz1 uz1 => ?_)
      refine lv_icmp_ge (tgt := 163) hx hb dX3_layLayers_96 (by decide) (fun c2 => ?_) (fun c2 => ?_)
      · skip
        have ic2 := tn_le rfl rfl c2
        exact tc_vret E hr hlk hG dX3_layLayers_163
      · skip
        have ic2 := tn_nle rfl rfl c2
        refine lv_aload_n hx hb dX3_layLayers_99 rfl (lv_at hl 0 rfl) ?_
        refine tc_getr E hG t0 frc_X3_9 dX3_layLayers_100 (fun oa3 hoa3 => ?_)
        refine lv_aload_n hx hb dX3_layLayers_103 rfl (lv_at hl 1 rfl) ?_
        refine lv_iload hx hb dX3_layLayers_104 (lv_at hl 3 rfl) ?_
        refine tc_callpr (tc_runV (As := [.ref h1, .int v6]) (rest := []) E hSt hG (c_X8_kidOf_c l G τ oa3 h1 v6 hoa3 t1 (by omega) (by omega)) hoa3 rv_26 kv_X8_kidOf ml_X3_147 (tRm_ok (by omega) (by omega)) rfl hl.1 rfl (Nat.le_of_ble_eq_true rfl) ⟨Nat.zero_le _, Nat.zero_le _⟩ dX3_layLayers_106) (fun r4 pr4 => ?_)
        refine tc_getr E hG pr4 frk_X3_57 dX3_layLayers_109 (fun oa5 hoa5 => ?_)
        refine lv_astore (lv' := [(7, .ref oa5), (0, .ref h0), (1, .ref h1), (3, .ref a3), (6, .int v6)]) hx hb dX3_layLayers_112 hl (by decide) rfl (fun ls hl => ?_)
        refine lv_aload_n hx hb dX3_layLayers_114 rfl (lv_at hl 2 rfl) ?_
        refine tc_getr E hG t1 frk_X3_111 dX3_layLayers_115 (fun oa6 hoa6 => ?_)
        refine lv_iconst (v := 0) hx hb dX3_layLayers_118 (by decide) ?_
        refine tc_iald E hG hoa6 ta_32 (t_in (by decide) (by decide)) dX3_layLayers_119 (fun z7 _ _ => ?_)
        refine lv_istore (lv' := [(8, .int z7), (7, .ref oa5), (0, .ref h0), (1, .ref h1), (3, .ref a3), (6, .int v6)]) hx hb dX3_layLayers_120 hl (by decide) rfl (fun ls hl => ?_)
        refine lv_aload hx hb dX3_layLayers_122 (lv_at hl 1 rfl) ?_
        refine lv_aload_n hx hb dX3_layLayers_124 rfl (lv_at hl 4 rfl) ?_
        refine tc_geti E hG e3 fi_X3_173 dX3_layLayers_125 (fun z8 _ _ => ?_)
        refine lv_aload hx hb dX3_layLayers_128 (lv_at hl 1 rfl) ?_
        refine tc_geti E hG hoa5 fi_X3_173 dX3_layLayers_130 (fun z9 _ _ => ?_)
        refine lv_isub hx hb dX3_layLayers_133 ?_
        refine lv_topi (fun z10 ez10 => ?_)
        refine lv_iload hx hb dX3_layLayers_134 (lv_at hl 0 rfl) ?_
        refine tc_callp (tc_runS (As := [.int z10, .int z7]) (rest := [.ref oa5]) E hSt hG (c_X3_aligned l G τ z10 z7) ks_X3_aligned ml_X3_198 (tRm_ok (by omega) (by omega)) rfl hl.1 rfl (Nat.le_of_ble_eq_true rfl) ⟨Nat.zero_le _, Nat.zero_le _⟩ dX3_layLayers_136) (fun r11 pr11 => ?_)
        refine lv_aload_n hx hb dX3_layLayers_139 rfl (lv_at hl 4 rfl) ?_
        refine tc_geti E hG e3 fi_X3_176 dX3_layLayers_140 (fun z12 _ _ => ?_)
        refine lv_aload hx hb dX3_layLayers_143 (lv_at hl 1 rfl) ?_
        refine tc_geti E hG hoa5 fi_X3_176 dX3_layLayers_145 (fun z13 _ _ => ?_)
        refine lv_isub hx hb dX3_layLayers_148 ?_
        refine lv_topi (fun z14 ez14 => ?_)
        refine lv_iload hx hb dX3_layLayers_149 (lv_at hl 0 rfl) ?_
        refine tc_callp (tc_runS (As := [.int z14, .int z7]) (rest := [.int r11, .ref oa5]) E hSt hG (c_X3_aligned l G τ z14 z7) ks_X3_aligned ml_X3_198 (tRm_ok (by omega) (by omega)) rfl hl.1 rfl (Nat.le_of_ble_eq_true rfl) ⟨Nat.zero_le _, Nat.zero_le _⟩ dX3_layLayers_151) (fun r15 pr15 => ?_)
        refine tc_callv hG (tc_runV (As := [.int r11, .int r15]) (rest := []) E hSt hG (c_X2_placeAt l G τ oa5 r11 r15 hoa5) hoa5 rv_4 kv_X2_placeAt ml_X3_170 (tRm_ok (by omega) (by omega)) rfl hl.1 rfl (Nat.le_of_ble_eq_true rfl) ⟨Nat.zero_le _, Nat.zero_le _⟩ dX3_layLayers_154) (fun H locs hG => ?_)
        obtain ⟨z17, ez17⟩ : ∃ y : Int32, y = v6 + (1) := ⟨_, rfl⟩
        refine lv_iinc (v := z17) (lv' := [(6, .int z17), (8, .int z7), (7, .ref oa5), (0, .ref h0), (1, .ref h1), (3, .ref a3)]) hx hb dX3_layLayers_157 hl (k := 5) rfl (by rw [ez17]; rfl) (by decide) rfl (fun ls hl => ?_)
        have tz17 := tn_add ez17 rfl kI_1 (by omega) (by omega)
        refine lv_goto (tgt := 90) hx hb dX3_layLayers_160 (by decide) ?_
        exact ih90 H locs ls (a3) z17 hG (lv_sub hl [3, 4, 5, 0] rfl) e3 (by omega) (by omega) (by omega)
  have J14 : ∀ (n14 : Nat) (H : Heap) (locs : List Loc) (ls : Array Slot) (a3 : Nat) (v4 : Int32) (v5 : Int32) (v6 : Int32), tGH G τ s H locs → lv_has ls 9 [(0, .ref h0), (1, .ref h1), (2, .int x2), (3, .ref a3), (4, .int v4), (5, .int v5), (6, .int v6)] → τ a3 = 4 → 0 ≤ v4.toInt → 0 ≤ v5.toInt → 0 ≤ v6.toInt → v6.toInt ≤ 8 → (8 - v6.toInt).toNat < n14 → W p l e (tRm (42 * d + 42) (541 * d + 1550)) s m ([.ref h0, .ref h1, .int x2] : List Value).toArray below meth c H locs 0 0 (MQ below (tQv G τ) ([.ref h0, .ref h1, .int x2] : List Value).toArray s 0 0 (tA τ)) (F0 m 14 ls []) := by
    intro n14
    induction n14 with
    | zero => intro H locs ls a3 v4 v5 v6 hG hl e3 b4 b5 b6 c6 hn14; exact absurd hn14 (Nat.not_lt_zero _)
    | succ n14 ih14 =>
      intro H locs ls a3 v4 v5 v6 hG hl e3 b4 b5 b6 c6 hn14
      refine lv_iload hx hb dX3_layLayers_14 (lv_at hl 6 rfl) ?_
      refine lv_aload_n hx hb dX3_layLayers_16 rfl (lv_at hl 1 rfl) ?_
      refine tc_geti E hG t1 fik_X3_144 dX3_layLayers_17 (fun z18 lz18 uz18 => ?_)
      refine lv_icmp_ge (tgt := 79) hx hb dX3_layLayers_20 (by decide) (fun c19 => ?_) (fun c19 => ?_)
      · skip
        have ic19 := tn_le rfl rfl c19
        refine lv_aload_n hx hb dX3_layLayers_79 rfl (lv_at hl 3 rfl) ?_
        refine lv_iload hx hb dX3_layLayers_80 (lv_at hl 4 rfl) ?_
        refine lv_iload hx hb dX3_layLayers_82 (lv_at hl 5 rfl) ?_
        refine tc_callv hG (tc_runV (As := [.int v4, .int v5]) (rest := []) E hSt hG (c_X2_sizeTo l G τ a3 v4 v5 e3) e3 rv_4 kv_X2_sizeTo ml_X3_115 (tRm_ok (by omega) (by omega)) rfl hl.1 rfl (Nat.le_of_ble_eq_true rfl) ⟨Nat.zero_le _, Nat.zero_le _⟩ dX3_layLayers_84) (fun H locs hG => ?_)
        refine lv_iconst (v := 0) hx hb dX3_layLayers_87 (by decide) ?_
        refine lv_istore (lv' := [(6, .int 0), (0, .ref h0), (1, .ref h1), (2, .int x2), (3, .ref a3), (4, .int v4), (5, .int v5)]) hx hb dX3_layLayers_88 hl (by decide) rfl (fun ls hl => ?_)
        exact J90 ((8 - (0 : Int32).toInt).toNat + 1) H locs ls (a3) (0 : Int32) hG (lv_sub hl [1, 2, 4, 0] rfl) e3 (by decide) (by decide) (Nat.lt_succ_self _)
      · skip
        have ic19 := tn_nle rfl rfl c19
        refine lv_aload_n hx hb dX3_layLayers_23 rfl (lv_at hl 0 rfl) ?_
        refine tc_getr E hG t0 frc_X3_9 dX3_layLayers_24 (fun oa21 hoa21 => ?_)
        refine lv_aload_n hx hb dX3_layLayers_27 rfl (lv_at hl 1 rfl) ?_
        refine lv_iload hx hb dX3_layLayers_28 (lv_at hl 6 rfl) ?_
        refine tc_callpr (tc_runV (As := [.ref h1, .int v6]) (rest := []) E hSt hG (c_X8_kidOf_c l G τ oa21 h1 v6 hoa21 t1 (by omega) (by omega)) hoa21 rv_26 kv_X8_kidOf ml_X3_147 (tRm_ok (by omega) (by omega)) rfl hl.1 rfl (Nat.le_of_ble_eq_true rfl) ⟨Nat.zero_le _, Nat.zero_le _⟩ dX3_layLayers_30) (fun r22 pr22 => ?_)
        refine lv_astore (lv' := [(7, .ref r22), (0, .ref h0), (1, .ref h1), (2, .int x2), (3, .ref a3), (4, .int v4), (5, .int v5), (6, .int v6)]) hx hb dX3_layLayers_33 hl (by decide) rfl (fun ls hl => ?_)
        refine lv_aload_n hx hb dX3_layLayers_35 rfl (lv_at hl 1 rfl) ?_
        refine lv_aload_n hx hb dX3_layLayers_36 rfl (lv_at hl 2 rfl) ?_
        refine lv_aload hx hb dX3_layLayers_37 (lv_at hl 0 rfl) ?_
        refine lv_iload_n hx hb dX3_layLayers_39 rfl (lv_at hl 3 rfl) ?_
        refine tc_callv hG (tc_runV (As := [.ref h1, .ref r22, .int x2]) (rest := []) E hSt hG (c_X3_layLoose_c l G τ h0 h1 r22 x2 t0 t1 pr22 (by omega) (by omega) d ih (by omega)) t0 rv_27 kv_X3_layLoose ml_X3_187 (tRm_ok (by omega) (by omega)) rfl hl.1 rfl (Nat.le_of_ble_eq_true rfl) ⟨Nat.zero_le _, Nat.zero_le _⟩ dX3_layLayers_40) (fun H locs hG => ?_)
        refine lv_iload hx hb dX3_layLayers_43 (lv_at hl 5 rfl) ?_
        refine lv_aload hx hb dX3_layLayers_45 (lv_at hl 0 rfl) ?_
        refine tc_getr E hG pr22 frk_X3_57 dX3_layLayers_47 (fun oa24 hoa24 => ?_)
        refine tc_geti E hG hoa24 fi_X3_173 dX3_layLayers_50 (fun z25 _ _ => ?_)
        refine tc_max (rest := []) E hl.1 ml_X3_155 kn_max1 kn_math kn_max2 ⟨tMx1 (by omega), tMx2 (k := 0) rfl (by omega)⟩ ⟨Nat.zero_le _, Nat.zero_le _⟩ dX3_layLayers_53 (fun z26 ez26 => ?_)
        have tz26 := tn_max ez26
        refine lv_istore (lv' := [(4, .int z26), (7, .ref r22), (0, .ref h0), (1, .ref h1), (2, .int x2), (3, .ref a3), (5, .int v5), (6, .int v6)]) hx hb dX3_layLayers_56 hl (by decide) rfl (fun ls hl => ?_)
        refine lv_iload hx hb dX3_layLayers_58 (lv_at hl 6 rfl) ?_
        refine lv_aload hx hb dX3_layLayers_60 (lv_at hl 1 rfl) ?_
        refine tc_getr E hG pr22 frk_X3_57 dX3_layLayers_62 (fun oa27 hoa27 => ?_)
        refine tc_geti E hG hoa27 fi_X3_176 dX3_layLayers_65 (fun z28 _ _ => ?_)
        refine tc_max (rest := []) E hl.1 ml_X3_155 kn_max1 kn_math kn_max2 ⟨tMx1 (by omega), tMx2 (k := 0) rfl (by omega)⟩ ⟨Nat.zero_le _, Nat.zero_le _⟩ dX3_layLayers_68 (fun z29 ez29 => ?_)
        have tz29 := tn_max ez29
        refine lv_istore (lv' := [(5, .int z29), (4, .int z26), (7, .ref r22), (0, .ref h0), (1, .ref h1), (2, .int x2), (3, .ref a3), (6, .int v6)]) hx hb dX3_layLayers_71 hl (by decide) rfl (fun ls hl => ?_)
        obtain ⟨z30, ez30⟩ : ∃ y : Int32, y = v6 + (1) := ⟨_, rfl⟩
        refine lv_iinc (v := z30) (lv' := [(6, .int z30), (5, .int z29), (4, .int z26), (7, .ref r22), (0, .ref h0), (1, .ref h1), (2, .int x2), (3, .ref a3)]) hx hb dX3_layLayers_73 hl (k := 7) rfl (by rw [ez30]; rfl) (by decide) rfl (fun ls hl => ?_)
        have tz30 := tn_add ez30 rfl kI_1 (by omega) (by omega)
        refine lv_goto (tgt := 14) hx hb dX3_layLayers_76 (by decide) ?_
        exact ih14 H locs ls (a3) z26 z29 z30 hG (lv_sub hl [4, 5, 6, 7, 2, 1, 0] rfl) e3 (by omega) (by omega) (by omega) (by omega) (by omega)
  refine lv_aload_n hx hb dX3_layLayers_0 rfl (lv_at hl 1 rfl) ?_
  refine tc_getr E hG t1 frk_X3_57 dX3_layLayers_1 (fun oa31 hoa31 => ?_)
  refine lv_astore_n (lv' := [(3, .ref oa31), (0, .ref h0), (1, .ref h1), (2, .int x2)]) hx hb dX3_layLayers_4 rfl hl (by decide) rfl (fun ls hl => ?_)
  refine lv_iconst (v := 0) hx hb dX3_layLayers_5 (by decide) ?_
  refine lv_istore (lv' := [(4, .int 0), (3, .ref oa31), (0, .ref h0), (1, .ref h1), (2, .int x2)]) hx hb dX3_layLayers_6 hl (by decide) rfl (fun ls hl => ?_)
  refine lv_iconst (v := 0) hx hb dX3_layLayers_8 (by decide) ?_
  refine lv_istore (lv' := [(5, .int 0), (4, .int 0), (3, .ref oa31), (0, .ref h0), (1, .ref h1), (2, .int x2)]) hx hb dX3_layLayers_9 hl (by decide) rfl (fun ls hl => ?_)
  refine lv_iconst (v := 0) hx hb dX3_layLayers_11 (by decide) ?_
  refine lv_istore (lv' := [(6, .int 0), (5, .int 0), (4, .int 0), (3, .ref oa31), (0, .ref h0), (1, .ref h1), (2, .int x2)]) hx hb dX3_layLayers_12 hl (by decide) rfl (fun ls hl => ?_)
  exact J14 ((8 - (0 : Int32).toInt).toNat + 1) H locs ls (oa31) (0 : Int32) (0 : Int32) (0 : Int32) hG (lv_sub hl [4, 5, 6, 3, 2, 1, 0] rfl) hoa31 (by decide) (by decide) (by decide) (by decide) (Nat.lt_succ_self _)

set_option maxHeartbeats 4000000 in
set_option maxRecDepth 100000 in
theorem c_X3_layWithoutShare_c (l : Launch) (G : tG) (τ : Nat → Nat) (h0 : Nat) (h1 : Nat) (x2 : Int32) (x3 : Int32) (t0 : τ h0 = 27) (t1 : τ h1 = 31) (l2 : 0 ≤ x2.toInt) (u2 : x2.toInt ≤ 1) (l3 : 0 ≤ x3.toInt) (u3 : x3.toInt ≤ 23) (d : Nat) (ih : P_X3_lay_c l G τ d) (hd : (24 - x3.toInt).toNat < d + 1) : Met l yX3_layWithoutShare (.code yX3_layWithoutShare cX3_layWithoutShare 7 (some .int) :: tWS) (tRm (42 * d + 42) (541 * d + 1555)) (va_Pc [.ref h0, .ref h1, .int x2, .int x3] (tPre G τ)) (tQi G τ (fun r => True)) 0 0 (tA τ) := by
  refine tc_met (by decide) (Nat.le_of_ble_eq_true rfl) ?_
  intro p e s m below meth c E hSt hr hlk hG ls hl
  have hl : lv_has ls 7 [(0, .ref h0), (1, .ref h1), (2, .int x2), (3, .int x3)] := hl
  have hx := E.1
  have hb := E.2.1
  obtain ⟨H, eH⟩ : ∃ H, H = s.heap := ⟨_, rfl⟩
  obtain ⟨locs, eL⟩ : ∃ x : List Loc, x = [] := ⟨_, rfl⟩
  have hG : tGH G τ s H locs := by rw [eH, eL]; exact hG
  suffices hW : W p l e (tRm (42 * d + 42) (541 * d + 1555)) s m ([.ref h0, .ref h1, .int x2, .int x3] : List Value).toArray below meth c H locs 0 0 (MQ below (tQi G τ (fun r => True)) ([.ref h0, .ref h1, .int x2, .int x3] : List Value).toArray s 0 0 (tA τ)) (F0 m 0 ls []) by subst eH; subst eL; exact hW
  clear eH eL
  have J6 : ∀ (n6 : Nat) (H : Heap) (locs : List Loc) (ls : Array Slot) (v4 : Int32) (v5 : Int32), tGH G τ s H locs → lv_has ls 7 [(0, .ref h0), (1, .ref h1), (2, .int x2), (3, .int x3), (4, .int v4), (5, .int v5)] → 0 ≤ v5.toInt → v5.toInt ≤ 8 → (8 - v5.toInt).toNat < n6 → W p l e (tRm (42 * d + 42) (541 * d + 1555)) s m ([.ref h0, .ref h1, .int x2, .int x3] : List Value).toArray below meth c H locs 0 0 (MQ below (tQi G τ (fun r => True)) ([.ref h0, .ref h1, .int x2, .int x3] : List Value).toArray s 0 0 (tA τ)) (F0 m 6 ls []) := by
    intro n6
    induction n6 with
    | zero => intro H locs ls v4 v5 hG hl b5 c5 hn6; exact absurd hn6 (Nat.not_lt_zero _)
    | succ n6 ih6 =>
      intro H locs ls v4 v5 hG hl b5 c5 hn6
      have J65 : ∀ (H : Heap) (locs : List Loc) (ls : Array Slot) (v4 : Int32) (v5 : Int32), tGH G τ s H locs → lv_has ls 7 [(0, .ref h0), (1, .ref h1), (2, .int x2), (3, .int x3), (4, .int v4), (5, .int v5)] → 0 ≤ v5.toInt → v5.toInt ≤ 7 → (8 - v5.toInt).toNat < n6 + 1 → W p l e (tRm (42 * d + 42) (541 * d + 1555)) s m ([.ref h0, .ref h1, .int x2, .int x3] : List Value).toArray below meth c H locs 0 0 (MQ below (tQi G τ (fun r => True)) ([.ref h0, .ref h1, .int x2, .int x3] : List Value).toArray s 0 0 (tA τ)) (F0 m 65 ls []) := by
        intro H locs ls v4 v5 hG hl b5 c5 hm6
        obtain ⟨z1, ez1⟩ : ∃ y : Int32, y = v5 + (1) := ⟨_, rfl⟩
        refine lv_iinc (v := z1) (lv' := [(5, .int z1), (0, .ref h0), (1, .ref h1), (2, .int x2), (3, .int x3), (4, .int v4)]) hx hb dX3_layWithoutShare_65 hl (k := 5) rfl (by rw [ez1]; rfl) (by decide) rfl (fun ls hl => ?_)
        have tz1 := tn_add ez1 rfl kI_1 (by omega) (by omega)
        refine lv_goto (tgt := 6) hx hb dX3_layWithoutShare_68 (by decide) ?_
        exact ih6 H locs ls v4 z1 hG (lv_sub hl [1, 2, 3, 4, 5, 0] rfl) (by omega) (by omega) (by omega)
      have J39 : ∀ (H : Heap) (locs : List Loc) (ls : Array Slot) (v4 : Int32) (v5 : Int32) (a6 : Nat), tGH G τ s H locs → lv_has ls 7 [(0, .ref h0), (1, .ref h1), (2, .int x2), (3, .int x3), (4, .int v4), (5, .int v5), (6, .ref a6)] → 0 ≤ v5.toInt → v5.toInt ≤ 7 → τ a6 = 31 → (8 - v5.toInt).toNat < n6 + 1 → W p l e (tRm (42 * d + 42) (541 * d + 1555)) s m ([.ref h0, .ref h1, .int x2, .int x3] : List Value).toArray below meth c H locs 0 0 (MQ below (tQi G τ (fun r => True)) ([.ref h0, .ref h1, .int x2, .int x3] : List Value).toArray s 0 0 (tA τ)) (F0 m 39 ls []) := by
        intro H locs ls v4 v5 a6 hG hl b5 c5 e6 hm6
        refine lv_iload hx hb dX3_layWithoutShare_39 (lv_at hl 4 rfl) ?_
        refine lv_aload_n hx hb dX3_layWithoutShare_41 rfl (lv_at hl 0 rfl) ?_
        refine lv_aload_n hx hb dX3_layWithoutShare_42 rfl (lv_at hl 1 rfl) ?_
        refine lv_aload hx hb dX3_layWithoutShare_43 (lv_at hl 6 rfl) ?_
        refine lv_aload hx hb dX3_layWithoutShare_45 (lv_at hl 6 rfl) ?_
        refine tc_geti E hG e6 fik_X3_237 dX3_layWithoutShare_47 (fun z2 _ _ => ?_)
        refine lv_aload hx hb dX3_layWithoutShare_50 (lv_at hl 6 rfl) ?_
        refine tc_geti E hG e6 fik_X3_240 dX3_layWithoutShare_52 (fun z3 _ _ => ?_)
        refine tc_callp (tc_runS (As := [.int z3]) (rest := [.int z2, .ref a6, .ref h1, .ref h0, .int v4]) E hSt hG (c_X0_orNoEnd l G τ z3) ks_X0_orNoEnd ml_X3_183 (tRm_ok (by omega) (by omega)) rfl hl.1 rfl (Nat.le_of_ble_eq_true rfl) ⟨Nat.zero_le _, Nat.zero_le _⟩ dX3_layWithoutShare_55) (fun r4 pr4 => ?_)
        refine lv_iload_n hx hb dX3_layWithoutShare_58 rfl (lv_at hl 3 rfl) ?_
        refine tc_calli hG (tc_runV (As := [.ref h1, .ref a6, .int z2, .int r4, .int x3]) (rest := [.int v4]) E hSt hG (c_X3_layAlong_c l G τ h0 h1 a6 z2 r4 x3 t0 t1 e6 (by omega) (by omega) d ih (by omega)) t0 rv_27 kv_X3_layAlong ml_X3_243 (tRm_ok (by omega) (by omega)) rfl hl.1 rfl (Nat.le_of_ble_eq_true rfl) ⟨Nat.zero_le _, Nat.zero_le _⟩ dX3_layWithoutShare_59) (fun r5 H locs pr5 hG => ?_)
        refine lv_iadd hx hb dX3_layWithoutShare_62 ?_
        refine lv_topi (fun z6 ez6 => ?_)
        refine lv_istore (lv' := [(4, .int z6), (0, .ref h0), (1, .ref h1), (2, .int x2), (3, .int x3), (5, .int v5), (6, .ref a6)]) hx hb dX3_layWithoutShare_63 hl (by decide) rfl (fun ls hl => ?_)
        exact J65 H locs ls z6 v5 hG (lv_sub hl [1, 2, 3, 4, 0, 5] rfl) (by omega) (by omega) (by omega)
      refine lv_iload hx hb dX3_layWithoutShare_6 (lv_at hl 5 rfl) ?_
      refine lv_aload_n hx hb dX3_layWithoutShare_8 rfl (lv_at hl 1 rfl) ?_
      refine tc_geti E hG t1 fik_X3_144 dX3_layWithoutShare_9 (fun z7 lz7 uz7 => ?_)
      refine lv_icmp_ge (tgt := 71) hx hb dX3_layWithoutShare_12 (by decide) (fun c8 => ?_) (fun c8 => ?_)
      · skip
        have ic8 := tn_le rfl rfl c8
        refine lv_iload hx hb dX3_layWithoutShare_71 (lv_at hl 4 rfl) ?_
        exact tc_iret E hr hlk hG trivial dX3_layWithoutShare_73
      · skip
        have ic8 := tn_nle rfl rfl c8
        refine lv_aload_n hx hb dX3_layWithoutShare_15 rfl (lv_at hl 0 rfl) ?_
        refine tc_getr E hG t0 frc_X3_9 dX3_layWithoutShare_16 (fun oa9 hoa9 => ?_)
        refine lv_aload_n hx hb dX3_layWithoutShare_19 rfl (lv_at hl 1 rfl) ?_
        refine lv_iload hx hb dX3_layWithoutShare_20 (lv_at hl 5 rfl) ?_
        refine tc_callpr (tc_runV (As := [.ref h1, .int v5]) (rest := []) E hSt hG (c_X8_kidOf_c l G τ oa9 h1 v5 hoa9 t1 (by omega) (by omega)) hoa9 rv_26 kv_X8_kidOf ml_X3_147 (tRm_ok (by omega) (by omega)) rfl hl.1 rfl (Nat.le_of_ble_eq_true rfl) ⟨Nat.zero_le _, Nat.zero_le _⟩ dX3_layWithoutShare_22) (fun r10 pr10 => ?_)
        refine lv_astore (lv' := [(6, .ref r10), (0, .ref h0), (1, .ref h1), (2, .int x2), (3, .int x3), (4, .int v4), (5, .int v5)]) hx hb dX3_layWithoutShare_25 hl (by decide) rfl (fun ls hl => ?_)
        refine lv_iload_n hx hb dX3_layWithoutShare_27 rfl (lv_at hl 3 rfl) ?_
        refine lv_if_eq (tgt := 39) hx hb dX3_layWithoutShare_28 (by decide) (fun c11 => ?_) (fun c11 => ?_)
        · skip
          have ic11 := tn_eq rfl kI_0 c11
          exact J39 H locs ls v4 v5 (r10) hG (lv_sub hl [1, 2, 3, 4, 5, 6, 0] rfl) (by omega) (by omega) pr10 (by omega)
        · skip
          have ic11 := tn_ne rfl kI_0 c11
          refine lv_aload hx hb dX3_layWithoutShare_31 (lv_at hl 0 rfl) ?_
          refine tc_geti E hG pr10 fik_X3_234 dX3_layWithoutShare_33 (fun z12 _ _ => ?_)
          refine lv_if_ne (tgt := 65) hx hb dX3_layWithoutShare_36 (by decide) (fun c13 => ?_) (fun c13 => ?_)
          · skip
            have ic13 := tn_ne rfl kI_0 c13
            exact J65 H locs ls v4 v5 hG (lv_sub hl [1, 2, 3, 4, 5, 6] rfl) (by omega) (by omega) (by omega)
          · skip
            have ic13 := tn_eq rfl kI_0 c13
            exact J39 H locs ls v4 v5 (r10) hG (lv_sub hl [1, 2, 3, 4, 5, 6, 0] rfl) (by omega) (by omega) pr10 (by omega)
  refine lv_iconst (v := 0) hx hb dX3_layWithoutShare_0 (by decide) ?_
  refine lv_istore (lv' := [(4, .int 0), (0, .ref h0), (1, .ref h1), (2, .int x2), (3, .int x3)]) hx hb dX3_layWithoutShare_1 hl (by decide) rfl (fun ls hl => ?_)
  refine lv_iconst (v := 0) hx hb dX3_layWithoutShare_3 (by decide) ?_
  refine lv_istore (lv' := [(5, .int 0), (4, .int 0), (0, .ref h0), (1, .ref h1), (2, .int x2), (3, .int x3)]) hx hb dX3_layWithoutShare_4 hl (by decide) rfl (fun ls hl => ?_)
  exact J6 ((8 - (0 : Int32).toInt).toNat + 1) H locs ls (0 : Int32) (0 : Int32) hG (lv_sub hl [2, 3, 4, 5, 1, 0] rfl) (by decide) (by decide) (Nat.lt_succ_self _)

set_option maxHeartbeats 4000000 in
set_option maxRecDepth 100000 in
theorem c_X3_layByShare_c (l : Launch) (G : tG) (τ : Nat → Nat) (h0 : Nat) (h1 : Nat) (x2 : Int32) (t0 : τ h0 = 27) (t1 : τ h1 = 31) (l2 : 0 ≤ x2.toInt) (u2 : x2.toInt ≤ 23) (d : Nat) (ih : P_X3_lay_c l G τ d) (hd : (24 - x2.toInt).toNat < d + 1) : Met l yX3_layByShare (.code yX3_layByShare cX3_layByShare 6 (some .int) :: tWS) (tRm (42 * d + 42) (541 * d + 1555)) (va_Pc [.ref h0, .ref h1, .int x2] (tPre G τ)) (tQi G τ (fun r => True)) 0 0 (tA τ) := by
  refine tc_met (by decide) (Nat.le_of_ble_eq_true rfl) ?_
  intro p e s m below meth c E hSt hr hlk hG ls hl
  have hl : lv_has ls 6 [(0, .ref h0), (1, .ref h1), (2, .int x2)] := hl
  have hx := E.1
  have hb := E.2.1
  obtain ⟨H, eH⟩ : ∃ H, H = s.heap := ⟨_, rfl⟩
  obtain ⟨locs, eL⟩ : ∃ x : List Loc, x = [] := ⟨_, rfl⟩
  have hG : tGH G τ s H locs := by rw [eH, eL]; exact hG
  suffices hW : W p l e (tRm (42 * d + 42) (541 * d + 1555)) s m ([.ref h0, .ref h1, .int x2] : List Value).toArray below meth c H locs 0 0 (MQ below (tQi G τ (fun r => True)) ([.ref h0, .ref h1, .int x2] : List Value).toArray s 0 0 (tA τ)) (F0 m 0 ls []) by subst eH; subst eL; exact hW
  clear eH eL
  have J5 : ∀ (n5 : Nat) (H : Heap) (locs : List Loc) (ls : Array Slot) (v3 : Int32) (v4 : Int32), tGH G τ s H locs → lv_has ls 6 [(0, .ref h0), (1, .ref h1), (2, .int x2), (3, .int v3), (4, .int v4)] → 0 ≤ v4.toInt → v4.toInt ≤ 8 → (8 - v4.toInt).toNat < n5 → W p l e (tRm (42 * d + 42) (541 * d + 1555)) s m ([.ref h0, .ref h1, .int x2] : List Value).toArray below meth c H locs 0 0 (MQ below (tQi G τ (fun r => True)) ([.ref h0, .ref h1, .int x2] : List Value).toArray s 0 0 (tA τ)) (F0 m 5 ls []) := by
    intro n5
    induction n5 with
    | zero => intro H locs ls v3 v4 hG hl b4 c4 hn5; exact absurd hn5 (Nat.not_lt_zero _)
    | succ n5 ih5 =>
      intro H locs ls v3 v4 hG hl b4 c4 hn5
      have J55 : ∀ (H : Heap) (locs : List Loc) (ls : Array Slot) (v3 : Int32) (v4 : Int32), tGH G τ s H locs → lv_has ls 6 [(0, .ref h0), (1, .ref h1), (2, .int x2), (3, .int v3), (4, .int v4)] → 0 ≤ v4.toInt → v4.toInt ≤ 7 → (8 - v4.toInt).toNat < n5 + 1 → W p l e (tRm (42 * d + 42) (541 * d + 1555)) s m ([.ref h0, .ref h1, .int x2] : List Value).toArray below meth c H locs 0 0 (MQ below (tQi G τ (fun r => True)) ([.ref h0, .ref h1, .int x2] : List Value).toArray s 0 0 (tA τ)) (F0 m 55 ls []) := by
        intro H locs ls v3 v4 hG hl b4 c4 hm5
        obtain ⟨z1, ez1⟩ : ∃ y : Int32, y = v4 + (1) := ⟨_, rfl⟩
        refine lv_iinc (v := z1) (lv' := [(4, .int z1), (0, .ref h0), (1, .ref h1), (2, .int x2), (3, .int v3)]) hx hb dX3_layByShare_55 hl (k := 4) rfl (by rw [ez1]; rfl) (by decide) rfl (fun ls hl => ?_)
        have tz1 := tn_add ez1 rfl kI_1 (by omega) (by omega)
        refine lv_goto (tgt := 5) hx hb dX3_layByShare_58 (by decide) ?_
        exact ih5 H locs ls v3 z1 hG (lv_sub hl [1, 2, 3, 4, 0] rfl) (by omega) (by omega) (by omega)
      refine lv_iload hx hb dX3_layByShare_5 (lv_at hl 4 rfl) ?_
      refine lv_aload_n hx hb dX3_layByShare_7 rfl (lv_at hl 1 rfl) ?_
      refine tc_geti E hG t1 fik_X3_144 dX3_layByShare_8 (fun z2 lz2 uz2 => ?_)
      refine lv_icmp_ge (tgt := 61) hx hb dX3_layByShare_11 (by decide) (fun c3 => ?_) (fun c3 => ?_)
      · skip
        have ic3 := tn_le rfl rfl c3
        refine lv_iload_n hx hb dX3_layByShare_61 rfl (lv_at hl 3 rfl) ?_
        exact tc_iret E hr hlk hG trivial dX3_layByShare_62
      · skip
        have ic3 := tn_nle rfl rfl c3
        refine lv_aload_n hx hb dX3_layByShare_14 rfl (lv_at hl 0 rfl) ?_
        refine tc_getr E hG t0 frc_X3_9 dX3_layByShare_15 (fun oa4 hoa4 => ?_)
        refine lv_aload_n hx hb dX3_layByShare_18 rfl (lv_at hl 1 rfl) ?_
        refine lv_iload hx hb dX3_layByShare_19 (lv_at hl 4 rfl) ?_
        refine tc_callpr (tc_runV (As := [.ref h1, .int v4]) (rest := []) E hSt hG (c_X8_kidOf_c l G τ oa4 h1 v4 hoa4 t1 (by omega) (by omega)) hoa4 rv_26 kv_X8_kidOf ml_X3_147 (tRm_ok (by omega) (by omega)) rfl hl.1 rfl (Nat.le_of_ble_eq_true rfl) ⟨Nat.zero_le _, Nat.zero_le _⟩ dX3_layByShare_21) (fun r5 pr5 => ?_)
        refine lv_astore (lv' := [(5, .ref r5), (0, .ref h0), (1, .ref h1), (2, .int x2), (3, .int v3), (4, .int v4)]) hx hb dX3_layByShare_24 hl (by decide) rfl (fun ls hl => ?_)
        refine lv_aload hx hb dX3_layByShare_26 (lv_at hl 0 rfl) ?_
        refine tc_geti E hG pr5 fik_X3_234 dX3_layByShare_28 (fun z6 _ _ => ?_)
        refine lv_if_le (tgt := 55) hx hb dX3_layByShare_31 (by decide) (fun c7 => ?_) (fun c7 => ?_)
        · skip
          have ic7 := tn_le rfl kI_0 c7
          exact J55 H locs ls v3 v4 hG (lv_sub hl [1, 2, 3, 4, 5] rfl) (by omega) (by omega) (by omega)
        · skip
          have ic7 := tn_nle rfl kI_0 c7
          refine lv_iload_n hx hb dX3_layByShare_34 rfl (lv_at hl 4 rfl) ?_
          refine lv_aload_n hx hb dX3_layByShare_35 rfl (lv_at hl 1 rfl) ?_
          refine lv_aload_n hx hb dX3_layByShare_36 rfl (lv_at hl 2 rfl) ?_
          refine lv_aload hx hb dX3_layByShare_37 (lv_at hl 0 rfl) ?_
          refine lv_aload hx hb dX3_layByShare_39 (lv_at hl 0 rfl) ?_
          refine tc_geti E hG pr5 fik_X3_247 dX3_layByShare_41 (fun z8 _ _ => ?_)
          refine lv_aload hx hb dX3_layByShare_44 (lv_at hl 0 rfl) ?_
          refine tc_geti E hG pr5 fik_X3_247 dX3_layByShare_46 (fun z9 _ _ => ?_)
          refine lv_iload_n hx hb dX3_layByShare_49 rfl (lv_at hl 3 rfl) ?_
          refine tc_calli hG (tc_runV (As := [.ref h1, .ref r5, .int z8, .int z9, .int x2]) (rest := [.int v3]) E hSt hG (c_X3_layAlong_c l G τ h0 h1 r5 z8 z9 x2 t0 t1 pr5 (by omega) (by omega) d ih (by omega)) t0 rv_27 kv_X3_layAlong ml_X3_243 (tRm_ok (by omega) (by omega)) rfl hl.1 rfl (Nat.le_of_ble_eq_true rfl) ⟨Nat.zero_le _, Nat.zero_le _⟩ dX3_layByShare_50) (fun r10 H locs pr10 hG => ?_)
          refine lv_iadd hx hb dX3_layByShare_53 ?_
          refine lv_topi (fun z11 ez11 => ?_)
          refine lv_istore_n (lv' := [(3, .int z11), (5, .ref r5), (0, .ref h0), (1, .ref h1), (2, .int x2), (4, .int v4)]) hx hb dX3_layByShare_54 rfl hl (by decide) rfl (fun ls hl => ?_)
          exact J55 H locs ls z11 v4 hG (lv_sub hl [2, 3, 4, 0, 5] rfl) (by omega) (by omega) (by omega)
  refine lv_iconst (v := 0) hx hb dX3_layByShare_0 (by decide) ?_
  refine lv_istore_n (lv' := [(3, .int 0), (0, .ref h0), (1, .ref h1), (2, .int x2)]) hx hb dX3_layByShare_1 rfl hl (by decide) rfl (fun ls hl => ?_)
  refine lv_iconst (v := 0) hx hb dX3_layByShare_2 (by decide) ?_
  refine lv_istore (lv' := [(4, .int 0), (3, .int 0), (0, .ref h0), (1, .ref h1), (2, .int x2)]) hx hb dX3_layByShare_3 hl (by decide) rfl (fun ls hl => ?_)
  exact J5 ((8 - (0 : Int32).toInt).toNat + 1) H locs ls (0 : Int32) (0 : Int32) hG (lv_sub hl [2, 3, 4, 1, 0] rfl) (by decide) (by decide) (Nat.lt_succ_self _)

set_option maxHeartbeats 4000000 in
set_option maxRecDepth 100000 in
theorem c_X3_layLine_c (l : Launch) (G : tG) (τ : Nat → Nat) (h0 : Nat) (h1 : Nat) (x2 : Int32) (t0 : τ h0 = 27) (t1 : τ h1 = 31) (l2 : 0 ≤ x2.toInt) (u2 : x2.toInt ≤ 23) (d : Nat) (ih : P_X3_lay_c l G τ d) (hd : (24 - x2.toInt).toNat < d + 1) : Met l yX3_layLine (.code yX3_layLine cX3_layLine 10 none :: tWS) (tRm (42 * d + 43) (541 * d + 1581)) (va_Pc [.ref h0, .ref h1, .int x2] (tPre G τ)) (tQv G τ) 0 0 (tA τ) := by
  refine tc_met (by decide) (Nat.le_of_ble_eq_true rfl) ?_
  intro p e s m below meth c E hSt hr hlk hG ls hl
  have hl : lv_has ls 10 [(0, .ref h0), (1, .ref h1), (2, .int x2)] := hl
  have hx := E.1
  have hb := E.2.1
  obtain ⟨H, eH⟩ : ∃ H, H = s.heap := ⟨_, rfl⟩
  obtain ⟨locs, eL⟩ : ∃ x : List Loc, x = [] := ⟨_, rfl⟩
  have hG : tGH G τ s H locs := by rw [eH, eL]; exact hG
  suffices hW : W p l e (tRm (42 * d + 43) (541 * d + 1581)) s m ([.ref h0, .ref h1, .int x2] : List Value).toArray below meth c H locs 0 0 (MQ below (tQv G τ) ([.ref h0, .ref h1, .int x2] : List Value).toArray s 0 0 (tA τ)) (F0 m 0 ls []) by subst eH; subst eL; exact hW
  clear eH eL
  have J236 : ∀ (H : Heap) (locs : List Loc) (ls : Array Slot) (v4 : Int32) (as0 : Nat) (vs1 : Int32) (vs2 : Int32), tGH G τ s H locs → lv_has ls 10 [(0, .ref h0), (1, .ref h1), (4, .int v4)] → 0 ≤ v4.toInt → v4.toInt ≤ 1 → τ as0 = 4 → W p l e (tRm (42 * d + 43) (541 * d + 1581)) s m ([.ref h0, .ref h1, .int x2] : List Value).toArray below meth c H locs 0 0 (MQ below (tQv G τ) ([.ref h0, .ref h1, .int x2] : List Value).toArray s 0 0 (tA τ)) (F0 m 236 ls [.int vs2, .int vs1, .ref as0]) := by
    intro H locs ls v4 as0 vs1 vs2 hG hl b4 c4 es0
    refine tc_callv hG (tc_runV (As := [.int vs1, .int vs2]) (rest := []) E hSt hG (c_X2_sizeTo l G τ as0 vs1 vs2 es0) es0 rv_4 kv_X2_sizeTo ml_X3_115 (tRm_ok (by omega) (by omega)) rfl hl.1 rfl (Nat.le_of_ble_eq_true rfl) ⟨Nat.zero_le _, Nat.zero_le _⟩ dX3_layLine_236) (fun H locs hG => ?_)
    refine lv_aload_n hx hb dX3_layLine_239 rfl (lv_at hl 0 rfl) ?_
    refine lv_aload_n hx hb dX3_layLine_240 rfl (lv_at hl 1 rfl) ?_
    refine lv_iload hx hb dX3_layLine_241 (lv_at hl 2 rfl) ?_
    refine tc_callv hG (tc_runV (As := [.ref h1, .int v4]) (rest := []) E hSt hG (c_X3_placeInLine_c l G τ h0 h1 v4 t0 t1 (by omega) (by omega)) t0 rv_27 kv_X3_placeInLine ml_X3_230 (tRm_ok (by omega) (by omega)) rfl hl.1 rfl (Nat.le_of_ble_eq_true rfl) ⟨Nat.zero_le _, Nat.zero_le _⟩ dX3_layLine_243) (fun H locs hG => ?_)
    exact tc_vret E hr hlk hG dX3_layLine_246
  have J224 : ∀ (H : Heap) (locs : List Loc) (ls : Array Slot) (v4 : Int32) (v8 : Int32) (v9 : Int32) (as0 : Nat) (vs1 : Int32), tGH G τ s H locs → lv_has ls 10 [(0, .ref h0), (1, .ref h1), (4, .int v4), (8, .int v8), (9, .int v9)] → 0 ≤ v4.toInt → v4.toInt ≤ 1 → τ as0 = 4 → W p l e (tRm (42 * d + 43) (541 * d + 1581)) s m ([.ref h0, .ref h1, .int x2] : List Value).toArray below meth c H locs 0 0 (MQ below (tQv G τ) ([.ref h0, .ref h1, .int x2] : List Value).toArray s 0 0 (tA τ)) (F0 m 224 ls [.int vs1, .ref as0]) := by
    intro H locs ls v4 v8 v9 as0 vs1 hG hl b4 c4 es0
    refine lv_iload hx hb dX3_layLine_224 (lv_at hl 2 rfl) ?_
    refine lv_if_eq (tgt := 234) hx hb dX3_layLine_226 (by decide) (fun c3 => ?_) (fun c3 => ?_)
    · skip
      have ic3 := tn_eq rfl kI_0 c3
      refine lv_iload hx hb dX3_layLine_234 (lv_at hl 3 rfl) ?_
      exact J236 H locs ls v4 (as0) vs1 v8 hG (lv_sub hl [0, 1, 2] rfl) (by omega) (by omega) es0
    · skip
      have ic3 := tn_ne rfl kI_0 c3
      refine lv_iload hx hb dX3_layLine_229 (lv_at hl 4 rfl) ?_
      refine lv_goto (tgt := 236) hx hb dX3_layLine_231 (by decide) ?_
      exact J236 H locs ls v4 (as0) vs1 v9 hG (lv_sub hl [0, 1, 2] rfl) (by omega) (by omega) es0
  have J202 : ∀ (H : Heap) (locs : List Loc) (ls : Array Slot) (a3 : Nat) (v4 : Int32) (v8 : Int32), tGH G τ s H locs → lv_has ls 10 [(0, .ref h0), (1, .ref h1), (3, .ref a3), (4, .int v4), (8, .int v8)] → τ a3 = 4 → 0 ≤ v4.toInt → v4.toInt ≤ 1 → W p l e (tRm (42 * d + 43) (541 * d + 1581)) s m ([.ref h0, .ref h1, .int x2] : List Value).toArray below meth c H locs 0 0 (MQ below (tQv G τ) ([.ref h0, .ref h1, .int x2] : List Value).toArray s 0 0 (tA τ)) (F0 m 202 ls []) := by
    intro H locs ls a3 v4 v8 hG hl e3 b4 c4
    refine lv_aload_n hx hb dX3_layLine_202 rfl (lv_at hl 0 rfl) ?_
    refine lv_aload_n hx hb dX3_layLine_203 rfl (lv_at hl 1 rfl) ?_
    refine lv_iload hx hb dX3_layLine_204 (lv_at hl 3 rfl) ?_
    refine tc_callp (tc_runV (As := [.ref h1, .int v4]) (rest := []) E hSt hG (c_X3_greatestAcross_c l G τ h0 h1 v4 t0 t1 (by omega) (by omega)) t0 rv_27 kv_X3_greatestAcross ml_X3_226 (tRm_ok (by omega) (by omega)) rfl hl.1 rfl (Nat.le_of_ble_eq_true rfl) ⟨Nat.zero_le _, Nat.zero_le _⟩ dX3_layLine_206) (fun r4 pr4 => ?_)
    refine lv_istore (lv' := [(9, .int r4), (0, .ref h0), (1, .ref h1), (3, .ref a3), (4, .int v4), (8, .int v8)]) hx hb dX3_layLine_209 hl (by decide) rfl (fun ls hl => ?_)
    refine lv_aload_n hx hb dX3_layLine_211 rfl (lv_at hl 3 rfl) ?_
    refine lv_iload hx hb dX3_layLine_212 (lv_at hl 4 rfl) ?_
    refine lv_if_eq (tgt := 222) hx hb dX3_layLine_214 (by decide) (fun c5 => ?_) (fun c5 => ?_)
    · skip
      have ic5 := tn_eq rfl kI_0 c5
      refine lv_iload hx hb dX3_layLine_222 (lv_at hl 0 rfl) ?_
      exact J224 H locs ls v4 v8 r4 (a3) r4 hG (lv_sub hl [1, 2, 4, 5, 0] rfl) (by omega) (by omega) e3
    · skip
      have ic5 := tn_ne rfl kI_0 c5
      refine lv_iload hx hb dX3_layLine_217 (lv_at hl 5 rfl) ?_
      refine lv_goto (tgt := 224) hx hb dX3_layLine_219 (by decide) ?_
      exact J224 H locs ls v4 v8 r4 (a3) v8 hG (lv_sub hl [1, 2, 4, 5, 0] rfl) (by omega) (by omega) e3
  have J156 : ∀ (H : Heap) (locs : List Loc) (ls : Array Slot) (a3 : Nat) (v4 : Int32) (v5 : Int32) (v6 : Int32) (vs0 : Int32) (vs1 : Int32), tGH G τ s H locs → lv_has ls 10 [(0, .ref h0), (1, .ref h1), (2, .int x2), (3, .ref a3), (4, .int v4), (5, .int v5), (6, .int v6)] → τ a3 = 4 → 0 ≤ v4.toInt → v4.toInt ≤ 1 → W p l e (tRm (42 * d + 43) (541 * d + 1581)) s m ([.ref h0, .ref h1, .int x2] : List Value).toArray below meth c H locs 0 0 (MQ below (tQv G τ) ([.ref h0, .ref h1, .int x2] : List Value).toArray s 0 0 (tA τ)) (F0 m 156 ls [.int vs1, .int vs0]) := by
    intro H locs ls a3 v4 v5 v6 vs0 vs1 hG hl e3 b4 c4
    refine lv_iload hx hb dX3_layLine_156 (lv_at hl 5 rfl) ?_
    refine tc_callp (tc_runN (As := [.int vs0, .int vs1, .int v5]) (rest := []) E hSt hG (c_X9_held l G τ vs0 vs1 v5) ks_X9_held (List.mem_of_getElem? (i := 2) rfl) (tRm_ok (by omega) (by omega)) rfl hl.1 rfl (Nat.le_of_ble_eq_true rfl) ⟨Nat.zero_le _, Nat.zero_le _⟩ dX3_layLine_158) (fun r6 pr6 => ?_)
    refine lv_istore (lv' := [(8, .int r6), (0, .ref h0), (1, .ref h1), (2, .int x2), (3, .ref a3), (4, .int v4), (5, .int v5), (6, .int v6)]) hx hb dX3_layLine_161 hl (by decide) rfl (fun ls hl => ?_)
    refine lv_aload_n hx hb dX3_layLine_163 rfl (lv_at hl 4 rfl) ?_
    refine lv_iconst (v := 0) hx hb dX3_layLine_164 (by decide) ?_
    refine lv_iload hx hb dX3_layLine_165 (lv_at hl 7 rfl) ?_
    refine lv_iload hx hb dX3_layLine_167 (lv_at hl 0 rfl) ?_
    refine lv_isub hx hb dX3_layLine_169 ?_
    refine lv_topi (fun z7 ez7 => ?_)
    refine tc_max (rest := [.ref a3]) E hl.1 ml_X3_155 kn_max1 kn_math kn_max2 ⟨tMx1 (by omega), tMx2 (k := 1) rfl (by omega)⟩ ⟨Nat.zero_le _, Nat.zero_le _⟩ dX3_layLine_170 (fun z8 ez8 => ?_)
    have tz8 := tn_max ez8
    have kk9_ := kI_0
    refine tc_puti E hG e3 fp_X3_219 (t_any1 _) (t_any2 _) dX3_layLine_173 (fun H locs hG => ?_)
    refine lv_iload hx hb dX3_layLine_176 (lv_at hl 5 rfl) ?_
    refine lv_if_eq (tgt := 202) hx hb dX3_layLine_178 (by decide) (fun c10 => ?_) (fun c10 => ?_)
    · skip
      have ic10 := tn_eq rfl kI_0 c10
      exact J202 H locs ls (a3) v4 r6 hG (lv_sub hl [1, 2, 4, 5, 0] rfl) e3 (by omega) (by omega)
    · skip
      have ic10 := tn_ne rfl kI_0 c10
      refine lv_aload_n hx hb dX3_layLine_181 rfl (lv_at hl 2 rfl) ?_
      refine tc_getr E hG t1 frk_X3_111 dX3_layLine_182 (fun oa11 hoa11 => ?_)
      refine lv_iconst (v := 0) hx hb dX3_layLine_185 (by decide) ?_
      refine tc_iald E hG hoa11 ta_32 (t_in (by decide) (by decide)) dX3_layLine_186 (fun z12 _ _ => ?_)
      refine lv_iconst (v := 4) hx hb dX3_layLine_187 (by decide) ?_
      refine lv_icmp_ne (tgt := 202) hx hb dX3_layLine_188 (by decide) (fun c13 => ?_) (fun c13 => ?_)
      · skip
        have ic13 := tn_ne rfl kI_4 c13
        exact J202 H locs ls (a3) v4 r6 hG (lv_sub hl [1, 2, 4, 5, 0] rfl) e3 (by omega) (by omega)
      · skip
        have ic13 := tn_eq rfl kI_4 c13
        refine lv_aload_n hx hb dX3_layLine_191 rfl (lv_at hl 1 rfl) ?_
        refine lv_aload_n hx hb dX3_layLine_192 rfl (lv_at hl 2 rfl) ?_
        refine lv_iload hx hb dX3_layLine_193 (lv_at hl 0 rfl) ?_
        refine lv_iload_n hx hb dX3_layLine_195 rfl (lv_at hl 3 rfl) ?_
        refine tc_callv hG (tc_runV (As := [.ref h1, .int r6, .int x2]) (rest := []) E hSt hG (c_X3_standOnBase_c l G τ h0 h1 r6 x2 t0 t1 (by omega) (by omega)) t0 rv_27 kv_X3_standOnBase ml_X3_222 (tRm_ok (by omega) (by omega)) rfl hl.1 rfl (Nat.le_of_ble_eq_true rfl) ⟨Nat.zero_le _, Nat.zero_le _⟩ dX3_layLine_196) (fun H locs hG => ?_)
        refine lv_goto (tgt := 246) hx hb dX3_layLine_199 (by decide) ?_
        exact tc_vret E hr hlk hG dX3_layLine_246
  have J140 : ∀ (H : Heap) (locs : List Loc) (ls : Array Slot) (a3 : Nat) (v4 : Int32) (v5 : Int32) (v6 : Int32) (vs0 : Int32), tGH G τ s H locs → lv_has ls 10 [(0, .ref h0), (1, .ref h1), (2, .int x2), (3, .ref a3), (4, .int v4), (5, .int v5), (6, .int v6)] → τ a3 = 4 → 0 ≤ v4.toInt → v4.toInt ≤ 1 → W p l e (tRm (42 * d + 43) (541 * d + 1581)) s m ([.ref h0, .ref h1, .int x2] : List Value).toArray below meth c H locs 0 0 (MQ below (tQv G τ) ([.ref h0, .ref h1, .int x2] : List Value).toArray s 0 0 (tA τ)) (F0 m 140 ls [.int vs0]) := by
    intro H locs ls a3 v4 v5 v6 vs0 hG hl e3 b4 c4
    refine lv_iload hx hb dX3_layLine_140 (lv_at hl 4 rfl) ?_
    refine lv_if_eq (tgt := 152) hx hb dX3_layLine_142 (by decide) (fun c15 => ?_) (fun c15 => ?_)
    · skip
      have ic15 := tn_eq rfl kI_0 c15
      refine lv_aload_n hx hb dX3_layLine_152 rfl (lv_at hl 3 rfl) ?_
      refine tc_geti E hG e3 fi_X3_71 dX3_layLine_153 (fun z16 _ _ => ?_)
      exact J156 H locs ls (a3) v4 v5 v6 vs0 z16 hG (lv_sub hl [0, 1, 2, 3, 4, 5, 6] rfl) e3 (by omega) (by omega)
    · skip
      have ic15 := tn_ne rfl kI_0 c15
      refine lv_aload_n hx hb dX3_layLine_145 rfl (lv_at hl 3 rfl) ?_
      refine tc_geti E hG e3 fi_X3_63 dX3_layLine_146 (fun z17 _ _ => ?_)
      refine lv_goto (tgt := 156) hx hb dX3_layLine_149 (by decide) ?_
      exact J156 H locs ls (a3) v4 v5 v6 vs0 z17 hG (lv_sub hl [0, 1, 2, 3, 4, 5, 6] rfl) e3 (by omega) (by omega)
  have J128 : ∀ (H : Heap) (locs : List Loc) (ls : Array Slot) (a3 : Nat) (v4 : Int32) (v5 : Int32) (v6 : Int32) (v7 : Int32), tGH G τ s H locs → lv_has ls 10 [(0, .ref h0), (1, .ref h1), (2, .int x2), (3, .ref a3), (4, .int v4), (5, .int v5), (6, .int v6), (7, .int v7)] → τ a3 = 4 → 0 ≤ v4.toInt → v4.toInt ≤ 1 → 0 ≤ v7.toInt → v7.toInt ≤ 1 → W p l e (tRm (42 * d + 43) (541 * d + 1581)) s m ([.ref h0, .ref h1, .int x2] : List Value).toArray below meth c H locs 0 0 (MQ below (tQv G τ) ([.ref h0, .ref h1, .int x2] : List Value).toArray s 0 0 (tA τ)) (F0 m 128 ls []) := by
    intro H locs ls a3 v4 v5 v6 v7 hG hl e3 b4 c4 b7 c7
    refine lv_iload hx hb dX3_layLine_128 (lv_at hl 7 rfl) ?_
    refine lv_if_eq (tgt := 138) hx hb dX3_layLine_130 (by decide) (fun c18 => ?_) (fun c18 => ?_)
    · skip
      have ic18 := tn_eq rfl kI_0 c18
      refine lv_iload hx hb dX3_layLine_138 (lv_at hl 6 rfl) ?_
      exact J140 H locs ls (a3) v4 v5 v6 v6 hG (lv_sub hl [0, 1, 2, 3, 4, 5, 6] rfl) e3 (by omega) (by omega)
    · skip
      have ic18 := tn_ne rfl kI_0 c18
      refine lv_iload hx hb dX3_layLine_133 (lv_at hl 5 rfl) ?_
      refine lv_goto (tgt := 140) hx hb dX3_layLine_135 (by decide) ?_
      exact J140 H locs ls (a3) v4 v5 v6 v5 hG (lv_sub hl [0, 1, 2, 3, 4, 5, 6] rfl) e3 (by omega) (by omega)
  have J79 : ∀ (H : Heap) (locs : List Loc) (ls : Array Slot) (a3 : Nat) (v4 : Int32) (v5 : Int32) (v6 : Int32) (vs0 : Int32), tGH G τ s H locs → lv_has ls 10 [(0, .ref h0), (1, .ref h1), (2, .int x2), (3, .ref a3), (4, .int v4), (5, .int v5), (6, .int v6)] → τ a3 = 4 → 0 ≤ v4.toInt → v4.toInt ≤ 1 → 0 ≤ vs0.toInt → vs0.toInt ≤ 1 → W p l e (tRm (42 * d + 43) (541 * d + 1581)) s m ([.ref h0, .ref h1, .int x2] : List Value).toArray below meth c H locs 0 0 (MQ below (tQv G τ) ([.ref h0, .ref h1, .int x2] : List Value).toArray s 0 0 (tA τ)) (F0 m 79 ls [.int vs0]) := by
    intro H locs ls a3 v4 v5 v6 vs0 hG hl e3 b4 c4 bs0 cs0
    refine lv_istore (lv' := [(7, .int vs0), (0, .ref h0), (1, .ref h1), (2, .int x2), (3, .ref a3), (4, .int v4), (5, .int v5), (6, .int v6)]) hx hb dX3_layLine_79 hl (by decide) rfl (fun ls hl => ?_)
    refine lv_iload hx hb dX3_layLine_81 (lv_at hl 7 rfl) ?_
    refine lv_aload_n hx hb dX3_layLine_83 rfl (lv_at hl 1 rfl) ?_
    refine lv_aload_n hx hb dX3_layLine_84 rfl (lv_at hl 2 rfl) ?_
    refine lv_iload hx hb dX3_layLine_85 (lv_at hl 0 rfl) ?_
    refine lv_iload_n hx hb dX3_layLine_87 rfl (lv_at hl 3 rfl) ?_
    refine tc_calli hG (tc_runV (As := [.ref h1, .int vs0, .int x2]) (rest := [.int v6]) E hSt hG (c_X3_layWithoutShare_c l G τ h0 h1 vs0 x2 t0 t1 (by omega) (by omega) (by omega) (by omega) d ih (by omega)) t0 rv_27 kv_X3_layWithoutShare ml_X3_205 (tRm_ok (by omega) (by omega)) rfl hl.1 rfl (Nat.le_of_ble_eq_true rfl) ⟨Nat.zero_le _, Nat.zero_le _⟩ dX3_layLine_88) (fun r19 H locs pr19 hG => ?_)
    refine lv_iadd hx hb dX3_layLine_91 ?_
    refine lv_topi (fun z20 ez20 => ?_)
    refine lv_istore (lv' := [(6, .int z20), (7, .int vs0), (0, .ref h0), (1, .ref h1), (2, .int x2), (3, .ref a3), (4, .int v4), (5, .int v5)]) hx hb dX3_layLine_92 hl (by decide) rfl (fun ls hl => ?_)
    refine lv_iload hx hb dX3_layLine_94 (lv_at hl 1 rfl) ?_
    refine lv_if_eq (tgt := 128) hx hb dX3_layLine_96 (by decide) (fun c21 => ?_) (fun c21 => ?_)
    · skip
      have ic21 := tn_eq rfl kI_0 c21
      exact J128 H locs ls (a3) v4 v5 z20 vs0 hG (lv_sub hl [2, 3, 4, 5, 6, 7, 0, 1] rfl) e3 (by omega) (by omega) (by omega) (by omega)
    · skip
      have ic21 := tn_ne rfl kI_0 c21
      refine lv_aload_n hx hb dX3_layLine_99 rfl (lv_at hl 5 rfl) ?_
      refine lv_aload_n hx hb dX3_layLine_100 rfl (lv_at hl 2 rfl) ?_
      refine lv_aload_n hx hb dX3_layLine_101 rfl (lv_at hl 3 rfl) ?_
      refine lv_iconst (v := 0) hx hb dX3_layLine_102 (by decide) ?_
      refine lv_iload hx hb dX3_layLine_103 (lv_at hl 7 rfl) ?_
      refine lv_iload hx hb dX3_layLine_105 (lv_at hl 0 rfl) ?_
      refine lv_isub hx hb dX3_layLine_107 ?_
      refine lv_topi (fun z22 ez22 => ?_)
      refine tc_max (rest := [.ref h1, .ref h0, .ref a3]) E hl.1 ml_X3_155 kn_max1 kn_math kn_max2 ⟨tMx1 (by omega), tMx2 (k := 3) rfl (by omega)⟩ ⟨Nat.zero_le _, Nat.zero_le _⟩ dX3_layLine_108 (fun z23 ez23 => ?_)
      have tz23 := tn_max ez23
      have kk24_ := kI_0
      refine tc_calli hG (tc_runV (As := [.ref h1, .int z23]) (rest := [.ref a3]) E hSt hG (c_X3_roundsOf_c l G τ h0 h1 z23 t0 t1) t0 rv_27 kv_X3_roundsOf ml_X3_209 (tRm_ok (by omega) (by omega)) rfl hl.1 rfl (Nat.le_of_ble_eq_true rfl) ⟨Nat.zero_le _, Nat.zero_le _⟩ dX3_layLine_111) (fun r25 H locs pr25 hG => ?_)
      refine tc_puti E hG e3 fp_X3_213 (t_any1 _) (t_any2 _) dX3_layLine_114 (fun H locs hG => ?_)
      refine lv_iload hx hb dX3_layLine_117 (lv_at hl 0 rfl) ?_
      refine lv_aload_n hx hb dX3_layLine_119 rfl (lv_at hl 2 rfl) ?_
      refine lv_aload_n hx hb dX3_layLine_120 rfl (lv_at hl 3 rfl) ?_
      refine lv_iload_n hx hb dX3_layLine_121 rfl (lv_at hl 4 rfl) ?_
      refine tc_calli hG (tc_runV (As := [.ref h1, .int x2]) (rest := [.int z20]) E hSt hG (c_X3_layByShare_c l G τ h0 h1 x2 t0 t1 (by omega) (by omega) d ih (by omega)) t0 rv_27 kv_X3_layByShare ml_X3_216 (tRm_ok (by omega) (by omega)) rfl hl.1 rfl (Nat.le_of_ble_eq_true rfl) ⟨Nat.zero_le _, Nat.zero_le _⟩ dX3_layLine_122) (fun r26 H locs pr26 hG => ?_)
      refine lv_iadd hx hb dX3_layLine_125 ?_
      refine lv_topi (fun z27 ez27 => ?_)
      refine lv_istore (lv' := [(6, .int z27), (7, .int vs0), (0, .ref h0), (1, .ref h1), (2, .int x2), (3, .ref a3), (4, .int v4), (5, .int v5)]) hx hb dX3_layLine_126 hl (by decide) rfl (fun ls hl => ?_)
      exact J128 H locs ls (a3) v4 v5 z27 vs0 hG (lv_sub hl [2, 3, 4, 5, 6, 7, 0, 1] rfl) e3 (by omega) (by omega) (by omega) (by omega)
  have J78 : ∀ (H : Heap) (locs : List Loc) (ls : Array Slot) (a3 : Nat) (v4 : Int32) (v5 : Int32) (v6 : Int32), tGH G τ s H locs → lv_has ls 10 [(0, .ref h0), (1, .ref h1), (2, .int x2), (3, .ref a3), (4, .int v4), (5, .int v5), (6, .int v6)] → τ a3 = 4 → 0 ≤ v4.toInt → v4.toInt ≤ 1 → W p l e (tRm (42 * d + 43) (541 * d + 1581)) s m ([.ref h0, .ref h1, .int x2] : List Value).toArray below meth c H locs 0 0 (MQ below (tQv G τ) ([.ref h0, .ref h1, .int x2] : List Value).toArray s 0 0 (tA τ)) (F0 m 78 ls []) := by
    intro H locs ls a3 v4 v5 v6 hG hl e3 b4 c4
    refine lv_iconst (v := 0) hx hb dX3_layLine_78 (by decide) ?_
    exact J79 H locs ls (a3) v4 v5 v6 (0 : Int32) hG (lv_sub hl [0, 1, 2, 3, 4, 5, 6] rfl) e3 (by omega) (by omega) (by decide) (by decide)
  have J37 : ∀ (H : Heap) (locs : List Loc) (ls : Array Slot) (a3 : Nat) (v4 : Int32) (vs0 : Int32), tGH G τ s H locs → lv_has ls 10 [(0, .ref h0), (1, .ref h1), (2, .int x2), (3, .ref a3), (4, .int v4)] → τ a3 = 4 → 0 ≤ v4.toInt → v4.toInt ≤ 1 → W p l e (tRm (42 * d + 43) (541 * d + 1581)) s m ([.ref h0, .ref h1, .int x2] : List Value).toArray below meth c H locs 0 0 (MQ below (tQv G τ) ([.ref h0, .ref h1, .int x2] : List Value).toArray s 0 0 (tA τ)) (F0 m 37 ls [.int vs0]) := by
    intro H locs ls a3 v4 vs0 hG hl e3 b4 c4
    refine lv_istore (lv' := [(5, .int vs0), (0, .ref h0), (1, .ref h1), (2, .int x2), (3, .ref a3), (4, .int v4)]) hx hb dX3_layLine_37 hl (by decide) rfl (fun ls hl => ?_)
    refine lv_iconst (v := 0) hx hb dX3_layLine_39 (by decide) ?_
    refine lv_aload_n hx hb dX3_layLine_40 rfl (lv_at hl 2 rfl) ?_
    refine tc_geti E hG t1 fik_X3_144 dX3_layLine_41 (fun z28 lz28 uz28 => ?_)
    refine lv_iconst (v := 1) hx hb dX3_layLine_44 (by decide) ?_
    refine lv_isub hx hb dX3_layLine_45 ?_
    refine lv_topi (fun z29 ez29 => ?_)
    have tz29 := tn_sub ez29 rfl kI_1 (by omega) (by omega)
    refine tc_max (rest := []) E hl.1 ml_X3_155 kn_max1 kn_math kn_max2 ⟨tMx1 (by omega), tMx2 (k := 0) rfl (by omega)⟩ ⟨Nat.zero_le _, Nat.zero_le _⟩ dX3_layLine_46 (fun z30 ez30 => ?_)
    have tz30 := tn_max ez30
    have kk31_ := kI_0
    refine lv_aload_n hx hb dX3_layLine_49 rfl (lv_at hl 2 rfl) ?_
    refine tc_getr E hG t1 frk_X3_111 dX3_layLine_50 (fun oa32 hoa32 => ?_)
    refine lv_iconst (v := 1) hx hb dX3_layLine_53 (by decide) ?_
    refine tc_iald E hG hoa32 ta_32 (t_in (by decide) (by decide)) dX3_layLine_54 (fun z33 _ _ => ?_)
    refine lv_imul hx hb dX3_layLine_55 ?_
    refine lv_topi (fun z34 ez34 => ?_)
    refine lv_istore (lv' := [(6, .int z34), (5, .int vs0), (0, .ref h0), (1, .ref h1), (2, .int x2), (3, .ref a3), (4, .int v4)]) hx hb dX3_layLine_56 hl (by decide) rfl (fun ls hl => ?_)
    refine lv_iload hx hb dX3_layLine_58 (lv_at hl 1 rfl) ?_
    refine lv_sipush (v := 1000) hx hb dX3_layLine_60 (by decide) ?_
    refine lv_icmp_ge (tgt := 78) hx hb dX3_layLine_63 (by decide) (fun c35 => ?_) (fun c35 => ?_)
    · skip
      have ic35 := tn_le kI_1000 rfl c35
      exact J78 H locs ls (a3) v4 vs0 z34 hG (lv_sub hl [2, 3, 4, 5, 6, 1, 0] rfl) e3 (by omega) (by omega)
    · skip
      have ic35 := tn_nle kI_1000 rfl c35
      refine lv_aload_n hx hb dX3_layLine_66 rfl (lv_at hl 2 rfl) ?_
      refine lv_aload_n hx hb dX3_layLine_67 rfl (lv_at hl 3 rfl) ?_
      refine tc_callp (tc_runV (As := [.ref h1]) (rest := []) E hSt hG (c_X3_hasSharers_c l G τ h0 h1 t0 t1) t0 rv_27 kv_X3_hasSharers ml_X3_201 (tRm_ok (by omega) (by omega)) rfl hl.1 rfl (Nat.le_of_ble_eq_true rfl) ⟨Nat.zero_le _, Nat.zero_le _⟩ dX3_layLine_68) (fun r36 pr36 => ?_)
      have pr36 : 0 ≤ r36.toInt ∧ r36.toInt ≤ 1 := pr36
      refine lv_if_eq (tgt := 78) hx hb dX3_layLine_71 (by decide) (fun c37 => ?_) (fun c37 => ?_)
      · skip
        have ic37 := tn_eq rfl kI_0 c37
        exact J78 H locs ls (a3) v4 vs0 z34 hG (lv_sub hl [2, 3, 4, 5, 6, 1, 0] rfl) e3 (by omega) (by omega)
      · skip
        have ic37 := tn_ne rfl kI_0 c37
        refine lv_iconst (v := 1) hx hb dX3_layLine_74 (by decide) ?_
        refine lv_goto (tgt := 79) hx hb dX3_layLine_75 (by decide) ?_
        exact J79 H locs ls (a3) v4 vs0 z34 (1 : Int32) hG (lv_sub hl [2, 3, 4, 5, 6, 1, 0] rfl) e3 (by omega) (by omega) (by decide) (by decide)
  have J19 : ∀ (H : Heap) (locs : List Loc) (ls : Array Slot) (a3 : Nat) (vs0 : Int32), tGH G τ s H locs → lv_has ls 10 [(0, .ref h0), (1, .ref h1), (2, .int x2), (3, .ref a3)] → τ a3 = 4 → 0 ≤ vs0.toInt → vs0.toInt ≤ 1 → W p l e (tRm (42 * d + 43) (541 * d + 1581)) s m ([.ref h0, .ref h1, .int x2] : List Value).toArray below meth c H locs 0 0 (MQ below (tQv G τ) ([.ref h0, .ref h1, .int x2] : List Value).toArray s 0 0 (tA τ)) (F0 m 19 ls [.int vs0]) := by
    intro H locs ls a3 vs0 hG hl e3 bs0 cs0
    refine lv_istore (lv' := [(4, .int vs0), (0, .ref h0), (1, .ref h1), (2, .int x2), (3, .ref a3)]) hx hb dX3_layLine_19 hl (by decide) rfl (fun ls hl => ?_)
    refine lv_iload hx hb dX3_layLine_21 (lv_at hl 0 rfl) ?_
    refine lv_if_eq (tgt := 33) hx hb dX3_layLine_23 (by decide) (fun c38 => ?_) (fun c38 => ?_)
    · skip
      have ic38 := tn_eq rfl kI_0 c38
      refine lv_aload_n hx hb dX3_layLine_33 rfl (lv_at hl 4 rfl) ?_
      refine tc_geti E hG e3 fi_X3_74 dX3_layLine_34 (fun z39 _ _ => ?_)
      exact J37 H locs ls (a3) vs0 z39 hG (lv_sub hl [1, 2, 3, 4, 0] rfl) e3 (by omega) (by omega)
    · skip
      have ic38 := tn_ne rfl kI_0 c38
      refine lv_aload_n hx hb dX3_layLine_26 rfl (lv_at hl 4 rfl) ?_
      refine tc_geti E hG e3 fi_X3_68 dX3_layLine_27 (fun z40 _ _ => ?_)
      refine lv_goto (tgt := 37) hx hb dX3_layLine_30 (by decide) ?_
      exact J37 H locs ls (a3) vs0 z40 hG (lv_sub hl [1, 2, 3, 4, 0] rfl) e3 (by omega) (by omega)
  refine lv_aload_n hx hb dX3_layLine_0 rfl (lv_at hl 1 rfl) ?_
  refine tc_getr E hG t1 frk_X3_57 dX3_layLine_1 (fun oa41 hoa41 => ?_)
  refine lv_astore_n (lv' := [(3, .ref oa41), (0, .ref h0), (1, .ref h1), (2, .int x2)]) hx hb dX3_layLine_4 rfl hl (by decide) rfl (fun ls hl => ?_)
  refine lv_aload_n hx hb dX3_layLine_5 rfl (lv_at hl 2 rfl) ?_
  refine tc_geti E hG t1 fik_X3_108 dX3_layLine_6 (fun z42 _ _ => ?_)
  refine lv_bipush (v := 8) hx hb dX3_layLine_9 (by decide) ?_
  refine lv_icmp_ne (tgt := 18) hx hb dX3_layLine_11 (by decide) (fun c43 => ?_) (fun c43 => ?_)
  · skip
    have ic43 := tn_ne rfl kI_8 c43
    refine lv_iconst (v := 0) hx hb dX3_layLine_18 (by decide) ?_
    exact J19 H locs ls (oa41) (0 : Int32) hG (lv_sub hl [1, 2, 3, 0] rfl) hoa41 (by decide) (by decide)
  · skip
    have ic43 := tn_eq rfl kI_8 c43
    refine lv_iconst (v := 1) hx hb dX3_layLine_14 (by decide) ?_
    refine lv_goto (tgt := 19) hx hb dX3_layLine_15 (by decide) ?_
    exact J19 H locs ls (oa41) (1 : Int32) hG (lv_sub hl [1, 2, 3, 0] rfl) hoa41 (by decide) (by decide)

set_option maxHeartbeats 4000000 in
set_option maxRecDepth 100000 in
theorem c_X3_layByKind_c (l : Launch) (G : tG) (τ : Nat → Nat) (h0 : Nat) (h1 : Nat) (x2 : Int32) (t0 : τ h0 = 27) (t1 : τ h1 = 31) (l2 : 0 ≤ x2.toInt) (u2 : x2.toInt ≤ 23) (d : Nat) (ih : P_X3_lay_c l G τ d) (hd : (24 - x2.toInt).toNat < d + 1) : Met l yX3_layByKind (.code yX3_layByKind cX3_layByKind 3 none :: tWS) (tRm (42 * d + 81) (541 * d + 2019)) (va_Pc [.ref h0, .ref h1, .int x2] (tPre G τ)) (tQv G τ) 0 0 (tA τ) := by
  refine tc_met (by decide) (Nat.le_of_ble_eq_true rfl) ?_
  intro p e s m below meth c E hSt hr hlk hG ls hl
  have hl : lv_has ls 3 [(0, .ref h0), (1, .ref h1), (2, .int x2)] := hl
  have hx := E.1
  have hb := E.2.1
  obtain ⟨H, eH⟩ : ∃ H, H = s.heap := ⟨_, rfl⟩
  obtain ⟨locs, eL⟩ : ∃ x : List Loc, x = [] := ⟨_, rfl⟩
  have hG : tGH G τ s H locs := by rw [eH, eL]; exact hG
  suffices hW : W p l e (tRm (42 * d + 81) (541 * d + 2019)) s m ([.ref h0, .ref h1, .int x2] : List Value).toArray below meth c H locs 0 0 (MQ below (tQv G τ) ([.ref h0, .ref h1, .int x2] : List Value).toArray s 0 0 (tA τ)) (F0 m 0 ls []) by subst eH; subst eL; exact hW
  clear eH eL
  refine lv_aload_n hx hb dX3_layByKind_0 rfl (lv_at hl 1 rfl) ?_
  refine tc_geti E hG t1 fik_X3_108 dX3_layByKind_1 (fun z1 _ _ => ?_)
  rcases (show (z1.toInt < 0 ∨ 7 < z1.toInt) ∨ z1.toInt = 0 ∨ z1.toInt = 1 ∨ z1.toInt = 2 ∨ z1.toInt = 3 ∨ z1.toInt = 4 ∨ z1.toInt = 5 ∨ z1.toInt = 6 ∨ z1.toInt = 7 by omega) with k2 | k2 | k2 | k2 | k2 | k2 | k2 | k2 | k2
  · refine lv_tableOut (tgt := 136) hx hb dX3_layByKind_4 k2 (by decide) ?_
    refine lv_aload_n hx hb dX3_layByKind_136 rfl (lv_at hl 0 rfl) ?_
    refine lv_aload_n hx hb dX3_layByKind_137 rfl (lv_at hl 1 rfl) ?_
    refine lv_iload_n hx hb dX3_layByKind_138 rfl (lv_at hl 2 rfl) ?_
    refine tc_callv hG (tc_runV (As := [.ref h1, .int x2]) (rest := []) E hSt hG (c_X3_layLine_c l G τ h0 h1 x2 t0 t1 (by omega) (by omega) d ih (by omega)) t0 rv_27 kv_X3_layLine ml_X3_141 (tRm_ok (by omega) (by omega)) rfl hl.1 rfl (Nat.le_of_ble_eq_true rfl) ⟨Nat.zero_le _, Nat.zero_le _⟩ dX3_layByKind_139) (fun H locs hG => ?_)
    exact tc_vret E hr hlk hG dX3_layByKind_142
  · refine lv_tableIn (off := 48) (tgt := 52) hx hb dX3_layByKind_4 (by rw [k2]; decide) (by rw [k2]; decide) (by rw [k2]; rfl) (by decide) ?_
    refine lv_aload_n hx hb dX3_layByKind_52 rfl (lv_at hl 1 rfl) ?_
    refine tc_getr E hG t1 frk_X3_57 dX3_layByKind_53 (fun oa4 hoa4 => ?_)
    refine lv_aload_n hx hb dX3_layByKind_56 rfl (lv_at hl 1 rfl) ?_
    refine tc_getr E hG t1 frk_X3_111 dX3_layByKind_57 (fun oa5 hoa5 => ?_)
    refine lv_iconst (v := 0) hx hb dX3_layByKind_60 (by decide) ?_
    refine tc_iald E hG hoa5 ta_32 (t_in (by decide) (by decide)) dX3_layByKind_61 (fun z6 _ _ => ?_)
    refine lv_aload_n hx hb dX3_layByKind_62 rfl (lv_at hl 1 rfl) ?_
    refine tc_getr E hG t1 frk_X3_111 dX3_layByKind_63 (fun oa7 hoa7 => ?_)
    refine lv_iconst (v := 1) hx hb dX3_layByKind_66 (by decide) ?_
    refine tc_iald E hG hoa7 ta_32 (t_in (by decide) (by decide)) dX3_layByKind_67 (fun z8 _ _ => ?_)
    refine tc_callv hG (tc_runV (As := [.int z6, .int z8]) (rest := []) E hSt hG (c_X2_sizeTo l G τ oa4 z6 z8 hoa4) hoa4 rv_4 kv_X2_sizeTo ml_X3_115 (tRm_ok (by omega) (by omega)) rfl hl.1 rfl (Nat.le_of_ble_eq_true rfl) ⟨Nat.zero_le _, Nat.zero_le _⟩ dX3_layByKind_68) (fun H locs hG => ?_)
    refine lv_goto (tgt := 142) hx hb dX3_layByKind_71 (by decide) ?_
    exact tc_vret E hr hlk hG dX3_layByKind_142
  · refine lv_tableIn (off := 70) (tgt := 74) hx hb dX3_layByKind_4 (by rw [k2]; decide) (by rw [k2]; decide) (by rw [k2]; rfl) (by decide) ?_
    refine lv_aload_n hx hb dX3_layByKind_74 rfl (lv_at hl 0 rfl) ?_
    refine lv_aload_n hx hb dX3_layByKind_75 rfl (lv_at hl 1 rfl) ?_
    refine tc_callv hG (tc_runV (As := [.ref h1]) (rest := []) E hSt hG (c_X3_layText_c l G τ h0 h1 t0 t1) t0 rv_27 kv_X3_layText ml_X3_119 (tRm_ok (by omega) (by omega)) rfl hl.1 rfl (Nat.le_of_ble_eq_true rfl) ⟨Nat.zero_le _, Nat.zero_le _⟩ dX3_layByKind_76) (fun H locs hG => ?_)
    refine lv_goto (tgt := 142) hx hb dX3_layByKind_79 (by decide) ?_
    exact tc_vret E hr hlk hG dX3_layByKind_142
  · refine lv_tableIn (off := 78) (tgt := 82) hx hb dX3_layByKind_4 (by rw [k2]; decide) (by rw [k2]; decide) (by rw [k2]; rfl) (by decide) ?_
    refine lv_aload_n hx hb dX3_layByKind_82 rfl (lv_at hl 0 rfl) ?_
    refine lv_aload_n hx hb dX3_layByKind_83 rfl (lv_at hl 1 rfl) ?_
    refine lv_iload_n hx hb dX3_layByKind_84 rfl (lv_at hl 2 rfl) ?_
    refine tc_callv hG (tc_runV (As := [.ref h1, .int x2]) (rest := []) E hSt hG (c_X3_layPad_c l G τ h0 h1 x2 t0 t1 (by omega) (by omega) d ih (by omega)) t0 rv_27 kv_X3_layPad ml_X3_123 (tRm_ok (by omega) (by omega)) rfl hl.1 rfl (Nat.le_of_ble_eq_true rfl) ⟨Nat.zero_le _, Nat.zero_le _⟩ dX3_layByKind_85) (fun H locs hG => ?_)
    refine lv_goto (tgt := 142) hx hb dX3_layByKind_88 (by decide) ?_
    exact tc_vret E hr hlk hG dX3_layByKind_142
  · refine lv_tableIn (off := 87) (tgt := 91) hx hb dX3_layByKind_4 (by rw [k2]; decide) (by rw [k2]; decide) (by rw [k2]; rfl) (by decide) ?_
    refine lv_aload_n hx hb dX3_layByKind_91 rfl (lv_at hl 0 rfl) ?_
    refine lv_aload_n hx hb dX3_layByKind_92 rfl (lv_at hl 1 rfl) ?_
    refine lv_iload_n hx hb dX3_layByKind_93 rfl (lv_at hl 2 rfl) ?_
    refine tc_callv hG (tc_runV (As := [.ref h1, .int x2]) (rest := []) E hSt hG (c_X3_layLimit_c l G τ h0 h1 x2 t0 t1 (by omega) (by omega) d ih (by omega)) t0 rv_27 kv_X3_layLimit ml_X3_126 (tRm_ok (by omega) (by omega)) rfl hl.1 rfl (Nat.le_of_ble_eq_true rfl) ⟨Nat.zero_le _, Nat.zero_le _⟩ dX3_layByKind_94) (fun H locs hG => ?_)
    refine lv_goto (tgt := 142) hx hb dX3_layByKind_97 (by decide) ?_
    exact tc_vret E hr hlk hG dX3_layByKind_142
  · refine lv_tableIn (off := 96) (tgt := 100) hx hb dX3_layByKind_4 (by rw [k2]; decide) (by rw [k2]; decide) (by rw [k2]; rfl) (by decide) ?_
    refine lv_aload_n hx hb dX3_layByKind_100 rfl (lv_at hl 0 rfl) ?_
    refine lv_aload_n hx hb dX3_layByKind_101 rfl (lv_at hl 1 rfl) ?_
    refine lv_iload_n hx hb dX3_layByKind_102 rfl (lv_at hl 2 rfl) ?_
    refine tc_callv hG (tc_runV (As := [.ref h1, .int x2]) (rest := []) E hSt hG (c_X3_layCentre_c l G τ h0 h1 x2 t0 t1 (by omega) (by omega) d ih (by omega)) t0 rv_27 kv_X3_layCentre ml_X3_129 (tRm_ok (by omega) (by omega)) rfl hl.1 rfl (Nat.le_of_ble_eq_true rfl) ⟨Nat.zero_le _, Nat.zero_le _⟩ dX3_layByKind_103) (fun H locs hG => ?_)
    refine lv_goto (tgt := 142) hx hb dX3_layByKind_106 (by decide) ?_
    exact tc_vret E hr hlk hG dX3_layByKind_142
  · refine lv_tableIn (off := 105) (tgt := 109) hx hb dX3_layByKind_4 (by rw [k2]; decide) (by rw [k2]; decide) (by rw [k2]; rfl) (by decide) ?_
    refine lv_aload_n hx hb dX3_layByKind_109 rfl (lv_at hl 0 rfl) ?_
    refine lv_aload_n hx hb dX3_layByKind_110 rfl (lv_at hl 1 rfl) ?_
    refine lv_iload_n hx hb dX3_layByKind_111 rfl (lv_at hl 2 rfl) ?_
    refine tc_callv hG (tc_runV (As := [.ref h1, .int x2]) (rest := []) E hSt hG (c_X3_layFit_c l G τ h0 h1 x2 t0 t1 (by omega) (by omega) d ih (by omega)) t0 rv_27 kv_X3_layFit ml_X3_132 (tRm_ok (by omega) (by omega)) rfl hl.1 rfl (Nat.le_of_ble_eq_true rfl) ⟨Nat.zero_le _, Nat.zero_le _⟩ dX3_layByKind_112) (fun H locs hG => ?_)
    refine lv_goto (tgt := 142) hx hb dX3_layByKind_115 (by decide) ?_
    exact tc_vret E hr hlk hG dX3_layByKind_142
  · refine lv_tableIn (off := 114) (tgt := 118) hx hb dX3_layByKind_4 (by rw [k2]; decide) (by rw [k2]; decide) (by rw [k2]; rfl) (by decide) ?_
    refine lv_aload_n hx hb dX3_layByKind_118 rfl (lv_at hl 0 rfl) ?_
    refine lv_aload_n hx hb dX3_layByKind_119 rfl (lv_at hl 1 rfl) ?_
    refine lv_iload_n hx hb dX3_layByKind_120 rfl (lv_at hl 2 rfl) ?_
    refine tc_callv hG (tc_runV (As := [.ref h1, .int x2]) (rest := []) E hSt hG (c_X3_layRatio_c l G τ h0 h1 x2 t0 t1 (by omega) (by omega) d ih (by omega)) t0 rv_27 kv_X3_layRatio ml_X3_135 (tRm_ok (by omega) (by omega)) rfl hl.1 rfl (Nat.le_of_ble_eq_true rfl) ⟨Nat.zero_le _, Nat.zero_le _⟩ dX3_layByKind_121) (fun H locs hG => ?_)
    refine lv_goto (tgt := 142) hx hb dX3_layByKind_124 (by decide) ?_
    exact tc_vret E hr hlk hG dX3_layByKind_142
  · refine lv_tableIn (off := 123) (tgt := 127) hx hb dX3_layByKind_4 (by rw [k2]; decide) (by rw [k2]; decide) (by rw [k2]; rfl) (by decide) ?_
    refine lv_aload_n hx hb dX3_layByKind_127 rfl (lv_at hl 0 rfl) ?_
    refine lv_aload_n hx hb dX3_layByKind_128 rfl (lv_at hl 1 rfl) ?_
    refine lv_iload_n hx hb dX3_layByKind_129 rfl (lv_at hl 2 rfl) ?_
    refine tc_callv hG (tc_runV (As := [.ref h1, .int x2]) (rest := []) E hSt hG (c_X3_layLayers_c l G τ h0 h1 x2 t0 t1 (by omega) (by omega) d ih (by omega)) t0 rv_27 kv_X3_layLayers ml_X3_138 (tRm_ok (by omega) (by omega)) rfl hl.1 rfl (Nat.le_of_ble_eq_true rfl) ⟨Nat.zero_le _, Nat.zero_le _⟩ dX3_layByKind_130) (fun H locs hG => ?_)
    refine lv_goto (tgt := 142) hx hb dX3_layByKind_133 (by decide) ?_
    exact tc_vret E hr hlk hG dX3_layByKind_142

set_option maxHeartbeats 4000000 in
set_option maxRecDepth 100000 in
theorem c_X3_lay_c (l : Launch) (G : tG) (τ : Nat → Nat) : ∀ (d : Nat) (h0 : Nat) (h1 : Nat) (x2 : Int32) (x3 : Int32) (x4 : Int32) (x5 : Int32) (x6 : Int32) (t0 : τ h0 = 27) (t1 : τ h1 = 31) (l6 : 0 ≤ x6.toInt) (hd : (24 - x6.toInt).toNat < d), Met l yX3_lay (.code yX3_lay cX3_lay 8 none :: tWS) (tRm (42 * d + 40) (541 * d + 1500)) (va_Pc [.ref h0, .ref h1, .int x2, .int x3, .int x4, .int x5, .int x6] (tPre G τ)) (tQv G τ) 0 0 (tA τ) := by
  intro d
  induction d with
  | zero => intro h0 h1 x2 x3 x4 x5 x6 t0 t1 l6 hd; exact absurd hd (Nat.not_lt_zero _)
  | succ d ih =>
  intro h0 h1 x2 x3 x4 x5 x6 t0 t1 l6 hd
  refine tc_met (by decide) (Nat.le_of_ble_eq_true rfl) ?_
  intro p e s m below meth c E hSt hr hlk hG ls hl
  have hl : lv_has ls 8 [(0, .ref h0), (1, .ref h1), (2, .int x2), (3, .int x3), (4, .int x4), (5, .int x5), (6, .int x6)] := hl
  have hx := E.1
  have hb := E.2.1
  obtain ⟨H, eH⟩ : ∃ H, H = s.heap := ⟨_, rfl⟩
  obtain ⟨locs, eL⟩ : ∃ x : List Loc, x = [] := ⟨_, rfl⟩
  have hG : tGH G τ s H locs := by rw [eH, eL]; exact hG
  suffices hW : W p l e (tRm (42 * (d + 1) + 40) (541 * (d + 1) + 1500)) s m ([.ref h0, .ref h1, .int x2, .int x3, .int x4, .int x5, .int x6] : List Value).toArray below meth c H locs 0 0 (MQ below (tQv G τ) ([.ref h0, .ref h1, .int x2, .int x3, .int x4, .int x5, .int x6] : List Value).toArray s 0 0 (tA τ)) (F0 m 0 ls []) by subst eH; subst eL; exact hW
  clear eH eL
  have J49 : ∀ (H : Heap) (locs : List Loc) (ls : Array Slot), tGH G τ s H locs → lv_has ls 8 [(0, .ref h0), (1, .ref h1), (2, .int x2), (3, .int x3), (4, .int x4), (5, .int x5), (6, .int x6)] → x6.toInt ≤ 23 → W p l e (tRm (42 * (d + 1) + 40) (541 * (d + 1) + 1500)) s m ([.ref h0, .ref h1, .int x2, .int x3, .int x4, .int x5, .int x6] : List Value).toArray below meth c H locs 0 0 (MQ below (tQv G τ) ([.ref h0, .ref h1, .int x2, .int x3, .int x4, .int x5, .int x6] : List Value).toArray s 0 0 (tA τ)) (F0 m 49 ls []) := by
    intro H locs ls hG hl cp6
    refine lv_iconst (v := 1) hx hb dX3_lay_49 (by decide) ?_
    refine lv_aload_n hx hb dX3_lay_50 rfl (lv_at hl 1 rfl) ?_
    refine tc_geti E hG t1 fik_X3_87 dX3_lay_51 (fun z1 lz1 uz1 => ?_)
    refine lv_ishl hx hb dX3_lay_54 ?_
    refine lv_topi (fun z2 ez2 => ?_)
    refine lv_istore (lv' := [(7, .int z2), (0, .ref h0), (1, .ref h1), (2, .int x2), (3, .int x3), (4, .int x4), (5, .int x5), (6, .int x6)]) hx hb dX3_lay_55 hl (by decide) rfl (fun ls hl => ?_)
    refine lv_aload_n hx hb dX3_lay_57 rfl (lv_at hl 1 rfl) ?_
    refine lv_dup hx hb dX3_lay_58 rfl ?_
    refine tc_geti E hG t0 fic_X3_15 dX3_lay_59 (fun z3 _ _ => ?_)
    refine lv_iconst (v := 1) hx hb dX3_lay_62 (by decide) ?_
    refine lv_iadd hx hb dX3_lay_63 ?_
    refine lv_topi (fun z4 ez4 => ?_)
    refine tc_puti E hG t0 fpc_X3_15 (t_any1 _) (t_any2 _) dX3_lay_64 (fun H locs hG => ?_)
    refine lv_aload_n hx hb dX3_lay_67 rfl (lv_at hl 1 rfl) ?_
    refine lv_dup hx hb dX3_lay_68 rfl ?_
    refine tc_geti E hG t0 fic_X3_22 dX3_lay_69 (fun z5 _ _ => ?_)
    refine lv_iload hx hb dX3_lay_72 (lv_at hl 0 rfl) ?_
    refine lv_ior hx hb dX3_lay_74 ?_
    refine lv_topi (fun z6 ez6 => ?_)
    refine tc_puti E hG t0 fpc_X3_22 (t_any1 _) (t_any2 _) dX3_lay_75 (fun H locs hG => ?_)
    refine lv_aload_n hx hb dX3_lay_78 rfl (lv_at hl 2 rfl) ?_
    refine tc_getr E hG t1 frk_X3_57 dX3_lay_79 (fun oa7 hoa7 => ?_)
    refine lv_iload_n hx hb dX3_lay_82 rfl (lv_at hl 3 rfl) ?_
    refine lv_iload_n hx hb dX3_lay_83 rfl (lv_at hl 4 rfl) ?_
    refine lv_iload hx hb dX3_lay_84 (lv_at hl 5 rfl) ?_
    refine lv_iload hx hb dX3_lay_86 (lv_at hl 6 rfl) ?_
    refine tc_callv hG (tc_runV (As := [.int x2, .int x3, .int x4, .int x5]) (rest := []) E hSt hG (c_X2_begin l G τ oa7 x2 x3 x4 x5 hoa7) hoa7 rv_4 kv_X2_begin ml_X3_97 (tRm_ok (by omega) (by omega)) rfl hl.1 rfl (Nat.le_of_ble_eq_true rfl) ⟨Nat.zero_le _, Nat.zero_le _⟩ dX3_lay_88) (fun H locs hG => ?_)
    refine lv_aload_n hx hb dX3_lay_91 rfl (lv_at hl 1 rfl) ?_
    refine lv_aload_n hx hb dX3_lay_92 rfl (lv_at hl 2 rfl) ?_
    refine lv_iload hx hb dX3_lay_93 (lv_at hl 7 rfl) ?_
    refine tc_callv hG (tc_runV (As := [.ref h1, .int x6]) (rest := []) E hSt hG (c_X3_layByKind_c l G τ h0 h1 x6 t0 t1 (by omega) (by omega) d ih (by omega)) t0 rv_27 kv_X3_layByKind ml_X3_101 (tRm_ok (by omega) (by omega)) rfl hl.1 rfl (Nat.le_of_ble_eq_true rfl) ⟨Nat.zero_le _, Nat.zero_le _⟩ dX3_lay_95) (fun H locs hG => ?_)
    refine lv_aload_n hx hb dX3_lay_98 rfl (lv_at hl 1 rfl) ?_
    refine tc_getr E hG t0 frc_X3_9 dX3_lay_99 (fun oa10 hoa10 => ?_)
    refine lv_dup hx hb dX3_lay_102 rfl ?_
    refine tc_geti E hG hoa10 fic_X3_51 dX3_lay_103 (fun z11 _ _ => ?_)
    refine lv_iload hx hb dX3_lay_106 (lv_at hl 0 rfl) ?_
    refine lv_iconst (v := -1) hx hb dX3_lay_108 (by decide) ?_
    refine lv_ixor hx hb dX3_lay_109 ?_
    refine lv_topi (fun z12 ez12 => ?_)
    refine lv_iand hx hb dX3_lay_110 ?_
    refine lv_topi (fun z13 ez13 => ?_)
    refine tc_puti E hG hoa10 fpc_X3_51 (t_any1 _) (t_any2 _) dX3_lay_111 (fun H locs hG => ?_)
    refine lv_aload_n hx hb dX3_lay_114 rfl (lv_at hl 1 rfl) ?_
    refine tc_getr E hG t0 frc_X3_9 dX3_lay_115 (fun oa14 hoa14 => ?_)
    refine lv_dup hx hb dX3_lay_118 rfl ?_
    refine tc_geti E hG hoa14 fic_X3_105 dX3_lay_119 (fun z15 _ _ => ?_)
    refine lv_iload hx hb dX3_lay_122 (lv_at hl 0 rfl) ?_
    refine lv_iconst (v := -1) hx hb dX3_lay_124 (by decide) ?_
    refine lv_ixor hx hb dX3_lay_125 ?_
    refine lv_topi (fun z16 ez16 => ?_)
    refine lv_iand hx hb dX3_lay_126 ?_
    refine lv_topi (fun z17 ez17 => ?_)
    refine tc_puti E hG hoa14 fpc_X3_105 (t_any1 _) (t_any2 _) dX3_lay_127 (fun H locs hG => ?_)
    exact tc_vret E hr hlk hG dX3_lay_130
  refine lv_iload hx hb dX3_lay_0 (lv_at hl 6 rfl) ?_
  refine lv_bipush (v := 24) hx hb dX3_lay_2 (by decide) ?_
  refine lv_icmp_lt (tgt := 8) hx hb dX3_lay_4 (by decide) (fun c18 => ?_) (fun c18 => ?_)
  · skip
    have ic18 := tn_lt rfl kI_24 c18
    refine lv_aload_n hx hb dX3_lay_8 rfl (lv_at hl 0 rfl) ?_
    refine tc_getr E hG t0 frc_X3_9 dX3_lay_9 (fun oa19 hoa19 => ?_)
    refine lv_aload_n hx hb dX3_lay_12 rfl (lv_at hl 1 rfl) ?_
    refine tc_geti E hG t1 fik_X3_87 dX3_lay_13 (fun z20 lz20 uz20 => ?_)
    refine tc_callp (tc_runV (As := [.int z20]) (rest := []) E hSt hG (c_X8_isDirty_c l G τ oa19 z20 hoa19) hoa19 rv_26 kv_X8_isDirty ml_X3_90 (tRm_ok (by omega) (by omega)) rfl hl.1 rfl (Nat.le_of_ble_eq_true rfl) ⟨Nat.zero_le _, Nat.zero_le _⟩ dX3_lay_16) (fun r21 pr21 => ?_)
    have pr21 : 0 ≤ r21.toInt ∧ r21.toInt ≤ 1 := pr21
    refine lv_if_ne (tgt := 49) hx hb dX3_lay_19 (by decide) (fun c22 => ?_) (fun c22 => ?_)
    · skip
      have ic22 := tn_ne rfl kI_0 c22
      exact J49 H locs ls hG (lv_sub hl [0, 1, 2, 3, 4, 5, 6] rfl) (by omega)
    · skip
      have ic22 := tn_eq rfl kI_0 c22
      refine lv_aload_n hx hb dX3_lay_22 rfl (lv_at hl 1 rfl) ?_
      refine tc_getr E hG t1 frk_X3_57 dX3_lay_23 (fun oa23 hoa23 => ?_)
      refine lv_iload_n hx hb dX3_lay_26 rfl (lv_at hl 2 rfl) ?_
      refine lv_iload_n hx hb dX3_lay_27 rfl (lv_at hl 3 rfl) ?_
      refine lv_iload hx hb dX3_lay_28 (lv_at hl 4 rfl) ?_
      refine lv_iload hx hb dX3_lay_30 (lv_at hl 5 rfl) ?_
      refine tc_callp (tc_runV (As := [.int x2, .int x3, .int x4, .int x5]) (rest := []) E hSt hG (c_X2_wasLaidBy l G τ oa23 x2 x3 x4 x5 hoa23) hoa23 rv_4 kv_X2_wasLaidBy ml_X3_93 (tRm_ok (by omega) (by omega)) rfl hl.1 rfl (Nat.le_of_ble_eq_true rfl) ⟨Nat.zero_le _, Nat.zero_le _⟩ dX3_lay_32) (fun r24 pr24 => ?_)
      have pr24 : 0 ≤ r24.toInt ∧ r24.toInt ≤ 1 := pr24
      refine lv_if_eq (tgt := 49) hx hb dX3_lay_35 (by decide) (fun c25 => ?_) (fun c25 => ?_)
      · skip
        have ic25 := tn_eq rfl kI_0 c25
        exact J49 H locs ls hG (lv_sub hl [0, 1, 2, 3, 4, 5, 6] rfl) (by omega)
      · skip
        have ic25 := tn_ne rfl kI_0 c25
        refine lv_aload_n hx hb dX3_lay_38 rfl (lv_at hl 0 rfl) ?_
        refine lv_dup hx hb dX3_lay_39 rfl ?_
        refine tc_geti E hG t0 fic_X3_19 dX3_lay_40 (fun z26 _ _ => ?_)
        refine lv_iconst (v := 1) hx hb dX3_lay_43 (by decide) ?_
        refine lv_iadd hx hb dX3_lay_44 ?_
        refine lv_topi (fun z27 ez27 => ?_)
        refine tc_puti E hG t0 fpc_X3_19 (t_any1 _) (t_any2 _) dX3_lay_45 (fun H locs hG => ?_)
        exact tc_vret E hr hlk hG dX3_lay_48
  · skip
    have ic18 := tn_nlt rfl kI_24 c18
    exact tc_vret E hr hlk hG dX3_lay_7

set_option maxHeartbeats 4000000 in
set_option maxRecDepth 100000 in
theorem c_X3_layOut_c (l : Launch) (G : tG) (τ : Nat → Nat) (h0 : Nat) (t0 : τ h0 = 27) : Met l yX3_layOut (.code yX3_layOut cX3_layOut 5 none :: tWS) (tRm 1091 15052) (va_Pc [.ref h0] (tPre G τ)) (tQv G τ) 0 0 (tA τ) := by
  refine tc_met (by decide) (Nat.le_of_ble_eq_true rfl) ?_
  intro p e s m below meth c E hSt hr hlk hG ls hl
  have hl : lv_has ls 5 [(0, .ref h0)] := hl
  have hx := E.1
  have hb := E.2.1
  obtain ⟨H, eH⟩ : ∃ H, H = s.heap := ⟨_, rfl⟩
  obtain ⟨locs, eL⟩ : ∃ x : List Loc, x = [] := ⟨_, rfl⟩
  have hG : tGH G τ s H locs := by rw [eH, eL]; exact hG
  suffices hW : W p l e (tRm 1091 15052) s m ([.ref h0] : List Value).toArray below meth c H locs 0 0 (MQ below (tQv G τ) ([.ref h0] : List Value).toArray s 0 0 (tA τ)) (F0 m 0 ls []) by subst eH; subst eL; exact hW
  clear eH eL
  have J168 : ∀ (H : Heap) (locs : List Loc) (ls : Array Slot), tGH G τ s H locs → lv_has ls 5 [(0, .ref h0)] → W p l e (tRm 1091 15052) s m ([.ref h0] : List Value).toArray below meth c H locs 0 0 (MQ below (tQv G τ) ([.ref h0] : List Value).toArray s 0 0 (tA τ)) (F0 m 168 ls []) := by
    intro H locs ls hG hl
    refine lv_aload_n hx hb dX3_layOut_168 rfl (lv_at hl 0 rfl) ?_
    refine tc_getrS E hG t0 frc_X3_9 dX3_layOut_169 (fun oa1 hoa1 fv2 => ?_)
    have fv2 := fv2 _ rfl
    refine lv_iconst (v := 0) hx hb dX3_layOut_172 (by decide) ?_
    refine tc_putS E hG hoa1 fpc_X3_48 (t_any1 _) (t_any2 _) rfl rfl dX3_layOut_173 (fun H locs hG oq4 sl3 => ?_)
    have fv5 := tSl.kept fv2 (oq4 _ (t_apart t0 hoa1 (by decide)))
    have fv6 := (sl3 _ rfl).1
    refine lv_aload_n hx hb dX3_layOut_176 rfl (lv_at hl 0 rfl) ?_
    refine lv_dup hx hb dX3_layOut_177 rfl ?_
    refine tc_getiS E hG t0 fic_X3_77 dX3_layOut_178 (fun z7 lz7 uz7 fv8 => ?_)
    have fv8 := fv8 _ rfl
    refine lv_aload_n hx hb dX3_layOut_181 rfl (lv_at hl 0 rfl) ?_
    refine tc_getiS E hG t0 fic_X3_15 dX3_layOut_182 (fun z9 lz9 uz9 fv10 => ?_)
    have fv10 := fv10 _ rfl
    refine lv_aload_n hx hb dX3_layOut_185 rfl (lv_at hl 0 rfl) ?_
    refine tc_getiS E hG t0 fic_X3_19 dX3_layOut_186 (fun z11 lz11 uz11 fv12 => ?_)
    have fv12 := fv12 _ rfl
    refine lv_iadd hx hb dX3_layOut_189 ?_
    refine lv_topi (fun z13 ez13 => ?_)
    refine lv_iadd hx hb dX3_layOut_190 ?_
    refine lv_topi (fun z14 ez14 => ?_)
    refine tc_putS E hG t0 fpc_X3_77 (t_any1 _) (t_any2 _) rfl rfl dX3_layOut_191 (fun H locs hG oq16 sl15 => ?_)
    have fv17 := (sl15 _ rfl).2 _ _ _ _ ff_X3_9 (by decide) fv5
    have fv18 := tSl.kept fv6 (oq16 _ (t_apart hoa1 t0 (by decide)))
    have fv19 := (sl15 _ rfl).2 _ _ _ _ ff_X3_15 (by decide) fv10
    have fv20 := (sl15 _ rfl).2 _ _ _ _ ff_X3_19 (by decide) fv12
    have fv21 := (sl15 _ rfl).1
    exact tc_vret E hr hlk hG dX3_layOut_194
  have J68 : ∀ (n68 : Nat) (H : Heap) (locs : List Loc) (ls : Array Slot) (v1 : Int32), tGH G τ s H locs → lv_has ls 5 [(0, .ref h0), (1, .int v1)] → 1 ≤ v1.toInt → v1.toInt ≤ 24 → (24 - v1.toInt).toNat < n68 → W p l e (tRm 1091 15052) s m ([.ref h0] : List Value).toArray below meth c H locs 0 0 (MQ below (tQv G τ) ([.ref h0] : List Value).toArray s 0 0 (tA τ)) (F0 m 68 ls []) := by
    intro n68
    induction n68 with
    | zero => intro H locs ls v1 hG hl b1 c1 hn68; exact absurd hn68 (Nat.not_lt_zero _)
    | succ n68 ih68 =>
      intro H locs ls v1 hG hl b1 c1 hn68
      have J94 : ∀ (n94 : Nat) (H : Heap) (locs : List Loc) (ls : Array Slot) (v1 : Int32) (v2 : Int32), tGH G τ s H locs → lv_has ls 5 [(0, .ref h0), (1, .int v1), (2, .int v2)] → 1 ≤ v1.toInt → v1.toInt ≤ 23 → 0 ≤ v2.toInt → v2.toInt ≤ 24 → (24 - v1.toInt).toNat < n68 + 1 → (24 - v2.toInt).toNat < n94 → W p l e (tRm 1091 15052) s m ([.ref h0] : List Value).toArray below meth c H locs 0 0 (MQ below (tQv G τ) ([.ref h0] : List Value).toArray s 0 0 (tA τ)) (F0 m 94 ls []) := by
        intro n94
        induction n94 with
        | zero => intro H locs ls v1 v2 hG hl b1 c1 b2 c2 hm68 hn94; exact absurd hn94 (Nat.not_lt_zero _)
        | succ n94 ih94 =>
          intro H locs ls v1 v2 hG hl b1 c1 b2 c2 hm68 hn94
          have J156 : ∀ (H : Heap) (locs : List Loc) (ls : Array Slot) (v1 : Int32) (v2 : Int32), tGH G τ s H locs → lv_has ls 5 [(0, .ref h0), (1, .int v1), (2, .int v2)] → 1 ≤ v1.toInt → v1.toInt ≤ 23 → 0 ≤ v2.toInt → v2.toInt ≤ 23 → (24 - v1.toInt).toNat < n68 + 1 → (24 - v2.toInt).toNat < n94 + 1 → W p l e (tRm 1091 15052) s m ([.ref h0] : List Value).toArray below meth c H locs 0 0 (MQ below (tQv G τ) ([.ref h0] : List Value).toArray s 0 0 (tA τ)) (F0 m 156 ls []) := by
            intro H locs ls v1 v2 hG hl b1 c1 b2 c2 hm68 hm94
            obtain ⟨z22, ez22⟩ : ∃ y : Int32, y = v2 + (1) := ⟨_, rfl⟩
            refine lv_iinc (v := z22) (lv' := [(2, .int z22), (0, .ref h0), (1, .int v1)]) hx hb dX3_layOut_156 hl (k := 2) rfl (by rw [ez22]; rfl) (by decide) rfl (fun ls hl => ?_)
            have tz22 := tn_add ez22 rfl kI_1 (by omega) (by omega)
            refine lv_goto (tgt := 94) hx hb dX3_layOut_159 (by decide) ?_
            exact ih94 H locs ls v1 z22 hG (lv_sub hl [1, 2, 0] rfl) (by omega) (by omega) (by omega) (by omega) (by omega) (by omega)
          refine lv_iload_n hx hb dX3_layOut_94 rfl (lv_at hl 2 rfl) ?_
          refine lv_aload_n hx hb dX3_layOut_95 rfl (lv_at hl 0 rfl) ?_
          refine tc_getrS E hG t0 frc_X3_9 dX3_layOut_96 (fun oa23 hoa23 fv24 => ?_)
          have fv24 := fv24 _ rfl
          refine tc_getiS E hG hoa23 fic_X3_54 dX3_layOut_99 (fun z25 lz25 uz25 fv26 => ?_)
          have fv26 := fv26 _ rfl
          refine lv_icmp_ge (tgt := 162) hx hb dX3_layOut_102 (by decide) (fun c27 => ?_) (fun c27 => ?_)
          · skip
            have ic27 := tn_le rfl rfl c27
            obtain ⟨z28, ez28⟩ : ∃ y : Int32, y = v1 + (1) := ⟨_, rfl⟩
            refine lv_iinc (v := z28) (lv' := [(1, .int z28), (0, .ref h0), (2, .int v2)]) hx hb dX3_layOut_162 hl (k := 1) rfl (by rw [ez28]; rfl) (by decide) rfl (fun ls hl => ?_)
            have tz28 := tn_add ez28 rfl kI_1 (by omega) (by omega)
            refine lv_goto (tgt := 68) hx hb dX3_layOut_165 (by decide) ?_
            exact ih68 H locs ls z28 hG (lv_sub hl [1, 0] rfl) (by omega) (by omega) (by omega)
          · skip
            have ic27 := tn_nle rfl rfl c27
            refine lv_aload_n hx hb dX3_layOut_105 rfl (lv_at hl 0 rfl) ?_
            refine lv_iload_n hx hb dX3_layOut_106 rfl (lv_at hl 2 rfl) ?_
            refine lv_iload_n hx hb dX3_layOut_107 rfl (lv_at hl 1 rfl) ?_
            refine tc_callp (tc_runV (As := [.int v2, .int v1]) (rest := []) E hSt hG (c_X3_isDue_c l G τ h0 v2 v1 t0) t0 rv_27 kv_X3_isDue ml_X3_30 ⟨rfl, rfl, Nat.le_of_ble_eq_true rfl, Nat.le_of_ble_eq_true rfl⟩ rfl hl.1 rfl (Nat.le_of_ble_eq_true rfl) ⟨Nat.zero_le _, Nat.zero_le _⟩ dX3_layOut_108) (fun r29 pr29 => ?_)
            have pr29 : (0 ≤ r29.toInt ∧ r29.toInt ≤ 1) ∧ (r29.toInt = 0 ∨ (0 ≤ v2.toInt ∧ v2.toInt ≤ 23)) := pr29
            refine lv_if_eq (tgt := 156) hx hb dX3_layOut_111 (by decide) (fun c30 => ?_) (fun c30 => ?_)
            · skip
              have ic30 := tn_eq rfl kI_0 c30
              exact J156 H locs ls v1 v2 hG (lv_sub hl [0, 1, 2] rfl) (by omega) (by omega) (by omega) (by omega) (by omega) (by omega)
            · skip
              have ic30 := tn_ne rfl kI_0 c30
              refine lv_aload_n hx hb dX3_layOut_114 rfl (lv_at hl 0 rfl) ?_
              refine tc_seen E ff_X3_9 fv24 dX3_layOut_115 ?_
              refine tc_getrS E hG hoa23 frc_X3_34 dX3_layOut_118 (fun oa31 hoa31 fv32 => ?_)
              have fv32 := fv32 _ rfl
              refine lv_iload_n hx hb dX3_layOut_121 rfl (lv_at hl 2 rfl) ?_
              refine tc_aald3S E hG hoa31 ta_34 (t_in (by omega) (by omega)) dX3_layOut_122 (fun oa33 hoa33 fv34 => ?_)
              refine lv_astore_n (lv' := [(3, .ref oa33), (0, .ref h0), (1, .int v1), (2, .int v2)]) hx hb dX3_layOut_123 rfl hl (by decide) rfl (fun ls hl => ?_)
              refine lv_aload_n hx hb dX3_layOut_124 rfl (lv_at hl 0 rfl) ?_
              refine tc_getrS E hG hoa33 frk_X3_57 dX3_layOut_125 (fun oa35 hoa35 fv36 => ?_)
              have fv36 := fv36 _ rfl
              refine lv_astore (lv' := [(4, .ref oa35), (3, .ref oa33), (0, .ref h0), (1, .int v1), (2, .int v2)]) hx hb dX3_layOut_128 hl (by decide) rfl (fun ls hl => ?_)
              refine lv_aload_n hx hb dX3_layOut_130 rfl (lv_at hl 2 rfl) ?_
              refine lv_aload_n hx hb dX3_layOut_131 rfl (lv_at hl 1 rfl) ?_
              refine lv_aload hx hb dX3_layOut_132 (lv_at hl 0 rfl) ?_
              refine tc_getiS E hG hoa35 fi_X3_63 dX3_layOut_134 (fun z37 lz37 uz37 fv38 => ?_)
              have fv38 := fv38 _ rfl
              refine lv_aload hx hb dX3_layOut_137 (lv_at hl 0 rfl) ?_
              refine tc_getiS E hG hoa35 fi_X3_68 dX3_layOut_139 (fun z39 lz39 uz39 fv40 => ?_)
              have fv40 := fv40 _ rfl
              refine lv_aload hx hb dX3_layOut_142 (lv_at hl 0 rfl) ?_
              refine tc_getiS E hG hoa35 fi_X3_71 dX3_layOut_144 (fun z41 lz41 uz41 fv42 => ?_)
              have fv42 := fv42 _ rfl
              refine lv_aload hx hb dX3_layOut_147 (lv_at hl 0 rfl) ?_
              refine tc_getiS E hG hoa35 fi_X3_74 dX3_layOut_149 (fun z43 lz43 uz43 fv44 => ?_)
              have fv44 := fv44 _ rfl
              refine lv_iload_n hx hb dX3_layOut_152 rfl (lv_at hl 3 rfl) ?_
              refine tc_callv hG (tc_runV (As := [.ref oa33, .int z37, .int z39, .int z41, .int z43, .int v1]) (rest := []) E hSt hG (c_X3_lay_c l G τ 25 h0 oa33 z37 z39 z41 z43 v1 t0 hoa33 (by omega) (by first | decide | omega)) t0 rv_27 kv_X3_lay ml_X3_44 ⟨rfl, rfl, Nat.le_of_ble_eq_true rfl, Nat.le_of_ble_eq_true rfl⟩ rfl hl.1 rfl (Nat.le_of_ble_eq_true rfl) ⟨Nat.zero_le _, Nat.zero_le _⟩ dX3_layOut_153) (fun H locs hG => ?_)
              exact J156 H locs ls v1 v2 hG (lv_sub hl [2, 3, 4] rfl) (by omega) (by omega) (by omega) (by omega) (by omega) (by omega)
      refine lv_iload_n hx hb dX3_layOut_68 rfl (lv_at hl 1 rfl) ?_
      refine lv_bipush (v := 24) hx hb dX3_layOut_69 (by decide) ?_
      refine lv_icmp_ge (tgt := 168) hx hb dX3_layOut_71 (by decide) (fun c46 => ?_) (fun c46 => ?_)
      · skip
        have ic46 := tn_le kI_24 rfl c46
        exact J168 H locs ls hG (lv_sub hl [0] rfl)
      · skip
        have ic46 := tn_nle kI_24 rfl c46
        refine lv_aload_n hx hb dX3_layOut_74 rfl (lv_at hl 0 rfl) ?_
        refine tc_getrS E hG t0 frc_X3_9 dX3_layOut_75 (fun oa47 hoa47 fv48 => ?_)
        have fv48 := fv48 _ rfl
        refine tc_getiS E hG hoa47 fic_X3_48 dX3_layOut_78 (fun z49 lz49 uz49 fv50 => ?_)
        have fv50 := fv50 _ rfl
        refine lv_aload_n hx hb dX3_layOut_81 rfl (lv_at hl 0 rfl) ?_
        refine tc_seen E ff_X3_9 fv48 dX3_layOut_82 ?_
        refine tc_getiS E hG hoa47 fic_X3_51 dX3_layOut_85 (fun z51 lz51 uz51 fv52 => ?_)
        have fv52 := fv52 _ rfl
        refine lv_iand hx hb dX3_layOut_88 ?_
        refine lv_topi (fun z53 ez53 => ?_)
        refine lv_if_eq (tgt := 168) hx hb dX3_layOut_89 (by decide) (fun c54 => ?_) (fun c54 => ?_)
        · skip
          have ic54 := tn_eq rfl kI_0 c54
          exact J168 H locs ls hG (lv_sub hl [0] rfl)
        · skip
          have ic54 := tn_ne rfl kI_0 c54
          refine lv_iconst (v := 0) hx hb dX3_layOut_92 (by decide) ?_
          refine lv_istore_n (lv' := [(2, .int 0), (0, .ref h0), (1, .int v1)]) hx hb dX3_layOut_93 rfl hl (by decide) rfl (fun ls hl => ?_)
          exact J94 ((24 - (0 : Int32).toInt).toNat + 1) H locs ls v1 (0 : Int32) hG (lv_sub hl [1, 2, 0] rfl) (by omega) (by omega) (by decide) (by decide) (by omega) (Nat.lt_succ_self _)
  have J66 : ∀ (H : Heap) (locs : List Loc) (ls : Array Slot), tGH G τ s H locs → lv_has ls 5 [(0, .ref h0)] → W p l e (tRm 1091 15052) s m ([.ref h0] : List Value).toArray below meth c H locs 0 0 (MQ below (tQv G τ) ([.ref h0] : List Value).toArray s 0 0 (tA τ)) (F0 m 66 ls []) := by
    intro H locs ls hG hl
    refine lv_iconst (v := 1) hx hb dX3_layOut_66 (by decide) ?_
    refine lv_istore_n (lv' := [(1, .int 1), (0, .ref h0)]) hx hb dX3_layOut_67 rfl hl (by decide) rfl (fun ls hl => ?_)
    exact J68 ((24 - (1 : Int32).toInt).toNat + 1) H locs ls (1 : Int32) hG (lv_sub hl [1, 0] rfl) (by decide) (by decide) (Nat.lt_succ_self _)
  refine lv_aload_n hx hb dX3_layOut_0 rfl (lv_at hl 0 rfl) ?_
  refine lv_iconst (v := 0) hx hb dX3_layOut_1 (by decide) ?_
  refine tc_putS E hG t0 fpc_X3_15 (t_any1 _) (t_any2 _) rfl rfl dX3_layOut_2 (fun H locs hG oq56 sl55 => ?_)
  have fv57 := (sl55 _ rfl).1
  refine lv_aload_n hx hb dX3_layOut_5 rfl (lv_at hl 0 rfl) ?_
  refine lv_iconst (v := 0) hx hb dX3_layOut_6 (by decide) ?_
  refine tc_putS E hG t0 fpc_X3_19 (t_any1 _) (t_any2 _) rfl rfl dX3_layOut_7 (fun H locs hG oq59 sl58 => ?_)
  have fv60 := (sl58 _ rfl).2 _ _ _ _ ff_X3_15 (by decide) fv57
  have fv61 := (sl58 _ rfl).1
  refine lv_aload_n hx hb dX3_layOut_10 rfl (lv_at hl 0 rfl) ?_
  refine lv_iconst (v := 0) hx hb dX3_layOut_11 (by decide) ?_
  refine tc_putS E hG t0 fpc_X3_22 (t_any1 _) (t_any2 _) rfl rfl dX3_layOut_12 (fun H locs hG oq63 sl62 => ?_)
  have fv64 := (sl62 _ rfl).2 _ _ _ _ ff_X3_15 (by decide) fv60
  have fv65 := (sl62 _ rfl).2 _ _ _ _ ff_X3_19 (by decide) fv61
  have fv66 := (sl62 _ rfl).1
  refine lv_aload_n hx hb dX3_layOut_15 rfl (lv_at hl 0 rfl) ?_
  refine lv_aload_n hx hb dX3_layOut_16 rfl (lv_at hl 0 rfl) ?_
  refine tc_getrS E hG t0 frc_X3_9 dX3_layOut_17 (fun oa67 hoa67 fv68 => ?_)
  have fv68 := fv68 _ rfl
  refine tc_getiS E hG hoa67 fic_X3_25 dX3_layOut_20 (fun z69 lz69 uz69 fv70 => ?_)
  have fv70 := fv70 _ rfl
  refine lv_iconst (v := 0) hx hb dX3_layOut_23 (by decide) ?_
  refine tc_callp (tc_runV (As := [.int z69, .int 0]) (rest := []) E hSt hG (c_X3_isDue_c l G τ h0 z69 (0 : Int32) t0) t0 rv_27 kv_X3_isDue ml_X3_30 ⟨rfl, rfl, Nat.le_of_ble_eq_true rfl, Nat.le_of_ble_eq_true rfl⟩ rfl hl.1 rfl (Nat.le_of_ble_eq_true rfl) ⟨Nat.zero_le _, Nat.zero_le _⟩ dX3_layOut_24) (fun r71 pr71 => ?_)
  have pr71 : (0 ≤ r71.toInt ∧ r71.toInt ≤ 1) ∧ (r71.toInt = 0 ∨ (0 ≤ z69.toInt ∧ z69.toInt ≤ 23)) := pr71
  have k72 := kI_0
  refine lv_if_eq (tgt := 66) hx hb dX3_layOut_27 (by decide) (fun c73 => ?_) (fun c73 => ?_)
  · skip
    have ic73 := tn_eq rfl kI_0 c73
    exact J66 H locs ls hG (lv_sub hl [0] rfl)
  · skip
    have ic73 := tn_ne rfl kI_0 c73
    refine lv_aload_n hx hb dX3_layOut_30 rfl (lv_at hl 0 rfl) ?_
    refine lv_aload_n hx hb dX3_layOut_31 rfl (lv_at hl 0 rfl) ?_
    refine tc_seen E ff_X3_9 fv68 dX3_layOut_32 ?_
    refine tc_getrS E hG hoa67 frc_X3_34 dX3_layOut_35 (fun oa74 hoa74 fv75 => ?_)
    have fv75 := fv75 _ rfl
    refine lv_aload_n hx hb dX3_layOut_38 rfl (lv_at hl 0 rfl) ?_
    refine tc_seen E ff_X3_9 fv68 dX3_layOut_39 ?_
    refine tc_seen E ff_X3_25 fv70 dX3_layOut_42 ?_
    refine tc_aald3S E hG hoa74 ta_34 (t_in (by omega) (by omega)) dX3_layOut_45 (fun oa76 hoa76 fv77 => ?_)
    refine lv_iconst (v := 0) hx hb dX3_layOut_46 (by decide) ?_
    refine lv_aload_n hx hb dX3_layOut_47 rfl (lv_at hl 0 rfl) ?_
    refine tc_seen E ff_X3_9 fv68 dX3_layOut_48 ?_
    refine tc_getiS E hG hoa67 fic_X3_38 dX3_layOut_51 (fun z78 lz78 uz78 fv79 => ?_)
    have fv79 := fv79 _ rfl
    refine lv_iconst (v := 0) hx hb dX3_layOut_54 (by decide) ?_
    refine lv_aload_n hx hb dX3_layOut_55 rfl (lv_at hl 0 rfl) ?_
    refine tc_seen E ff_X3_9 fv68 dX3_layOut_56 ?_
    refine tc_getiS E hG hoa67 fic_X3_41 dX3_layOut_59 (fun z80 lz80 uz80 fv81 => ?_)
    have fv81 := fv81 _ rfl
    refine lv_iconst (v := 0) hx hb dX3_layOut_62 (by decide) ?_
    refine tc_callv hG (tc_runV (As := [.ref oa76, .int 0, .int z78, .int 0, .int z80, .int 0]) (rest := []) E hSt hG (c_X3_lay_c l G τ 25 h0 oa76 (0 : Int32) z78 (0 : Int32) z80 (0 : Int32) t0 hoa76 (by decide) (by first | decide | omega)) t0 rv_27 kv_X3_lay ml_X3_44 ⟨rfl, rfl, Nat.le_of_ble_eq_true rfl, Nat.le_of_ble_eq_true rfl⟩ rfl hl.1 rfl (Nat.le_of_ble_eq_true rfl) ⟨Nat.zero_le _, Nat.zero_le _⟩ dX3_layOut_63) (fun H locs hG => ?_)
    exact J66 H locs ls hG (lv_sub hl [0] rfl)
