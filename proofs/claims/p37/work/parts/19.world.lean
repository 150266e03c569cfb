set_option maxHeartbeats 4000000 in
set_option maxRecDepth 100000 in
theorem c_X8_has_c (l : Launch) (G : tG) (τ : Nat → Nat) (h0 : Nat) (x1 : Int32) (t0 : τ h0 = 26) : Met l yX8_has (.code yX8_has cX8_has 2 (some .boolean) :: tWS) (tRm 0 0) (va_Pc [.ref h0, .int x1] (tPre G τ)) (tQp (fun r => (0 ≤ r.toInt ∧ r.toInt ≤ 1) ∧ (r.toInt = 0 ∨ (0 ≤ x1.toInt ∧ x1.toInt ≤ 23)))) 0 0 tNo := by
  refine tc_met (by decide) (Nat.le_of_ble_eq_true rfl) ?_
  intro p e s m below meth c E hSt hr hlk hG ls hl
  have hl : lv_has ls 2 [(0, .ref h0), (1, .int x1)] := hl
  have hx := E.1
  have hb := E.2.1
  obtain ⟨H, eH⟩ : ∃ H, H = s.heap := ⟨_, rfl⟩
  obtain ⟨locs, eL⟩ : ∃ x : List Loc, x = [] := ⟨_, rfl⟩
  have hG : tGH G τ s H locs := by rw [eH, eL]; exact hG
  suffices hW : W p l e (tRm 0 0) s m ([.ref h0, .int x1] : List Value).toArray below meth c H locs 0 0 (MQ below (tQp (fun r => (0 ≤ r.toInt ∧ r.toInt ≤ 1) ∧ (r.toInt = 0 ∨ (0 ≤ x1.toInt ∧ x1.toInt ≤ 23)))) ([.ref h0, .int x1] : List Value).toArray s 0 0 tNo) (F0 m 0 ls []) by subst eH; subst eL; exact hW
  refine lv_iload_n hx hb dX8_has_0 rfl (lv_at hl 1 rfl) ?_
  refine lv_if_lt (tgt := 26) hx hb dX8_has_1 (by decide) (fun c1 => ?_) (fun c1 => ?_)
  · skip
    have ic1 := tn_lt rfl kI_0 c1
    refine lv_iconst (v := 0) hx hb dX8_has_26 (by decide) ?_
    exact tc_pret E hr hlk eH eL (t_nz (by decide) (by decide)).1 (show (0 ≤ (0 : Int32).toInt ∧ (0 : Int32).toInt ≤ 1) ∧ ((0 : Int32).toInt = 0 ∨ (0 ≤ x1.toInt ∧ x1.toInt ≤ 23)) by have kk := kI_0; omega) dX8_has_27
  · skip
    have ic1 := tn_nlt rfl kI_0 c1
    refine lv_iload_n hx hb dX8_has_4 rfl (lv_at hl 1 rfl) ?_
    refine lv_bipush (v := 24) hx hb dX8_has_5 (by decide) ?_
    refine lv_icmp_ge (tgt := 26) hx hb dX8_has_7 (by decide) (fun c2 => ?_) (fun c2 => ?_)
    · skip
      have ic2 := tn_le kI_24 rfl c2
      refine lv_iconst (v := 0) hx hb dX8_has_26 (by decide) ?_
      exact tc_pret E hr hlk eH eL (t_nz (by decide) (by decide)).1 (show (0 ≤ (0 : Int32).toInt ∧ (0 : Int32).toInt ≤ 1) ∧ ((0 : Int32).toInt = 0 ∨ (0 ≤ x1.toInt ∧ x1.toInt ≤ 23)) by have kk := kI_0; omega) dX8_has_27
    · skip
      have ic2 := tn_nle kI_24 rfl c2
      refine lv_aload_n hx hb dX8_has_10 rfl (lv_at hl 0 rfl) ?_
      refine tc_geti E hG t0 fic_X8_40 dX8_has_11 (fun z3 _ _ => ?_)
      refine lv_iload_n hx hb dX8_has_14 rfl (lv_at hl 1 rfl) ?_
      refine lv_iushr hx hb dX8_has_15 rfl ?_
      refine lv_topi (fun z4 ez4 => ?_)
      refine lv_iconst (v := 1) hx hb dX8_has_16 (by decide) ?_
      refine lv_iand hx hb dX8_has_17 ?_
      refine lv_topi (fun z5 ez5 => ?_)
      refine lv_iconst (v := 1) hx hb dX8_has_18 (by decide) ?_
      refine lv_icmp_ne (tgt := 26) hx hb dX8_has_19 (by decide) (fun c6 => ?_) (fun c6 => ?_)
      · skip
        have ic6 := tn_ne rfl kI_1 c6
        refine lv_iconst (v := 0) hx hb dX8_has_26 (by decide) ?_
        exact tc_pret E hr hlk eH eL (t_nz (by decide) (by decide)).1 (show (0 ≤ (0 : Int32).toInt ∧ (0 : Int32).toInt ≤ 1) ∧ ((0 : Int32).toInt = 0 ∨ (0 ≤ x1.toInt ∧ x1.toInt ≤ 23)) by have kk := kI_0; omega) dX8_has_27
      · skip
        have ic6 := tn_eq rfl kI_1 c6
        refine lv_iconst (v := 1) hx hb dX8_has_22 (by decide) ?_
        refine lv_goto (tgt := 27) hx hb dX8_has_23 (by decide) ?_
        exact tc_pret E hr hlk eH eL (t_nz (by decide) (by decide)).1 (show (0 ≤ (1 : Int32).toInt ∧ (1 : Int32).toInt ≤ 1) ∧ ((1 : Int32).toInt = 0 ∨ (0 ≤ x1.toInt ∧ x1.toInt ≤ 23)) by have kk := kI_1; omega) dX8_has_27

set_option maxHeartbeats 4000000 in
set_option maxRecDepth 100000 in
theorem c_X8_has_t (l : Launch) (G : tG) (τ : Nat → Nat) (h0 : Nat) (x1 : Int32) (t0 : τ h0 = 28) : Met l yX8_has (.code yX8_has cX8_has 2 (some .boolean) :: tWS) (tRm 0 0) (va_Pc [.ref h0, .int x1] (tPre G τ)) (tQp (fun r => (0 ≤ r.toInt ∧ r.toInt ≤ 1) ∧ (r.toInt = 0 ∨ (0 ≤ x1.toInt ∧ x1.toInt ≤ 23)))) 0 0 tNo := by
  refine tc_met (by decide) (Nat.le_of_ble_eq_true rfl) ?_
  intro p e s m below meth c E hSt hr hlk hG ls hl
  have hl : lv_has ls 2 [(0, .ref h0), (1, .int x1)] := hl
  have hx := E.1
  have hb := E.2.1
  obtain ⟨H, eH⟩ : ∃ H, H = s.heap := ⟨_, rfl⟩
  obtain ⟨locs, eL⟩ : ∃ x : List Loc, x = [] := ⟨_, rfl⟩
  have hG : tGH G τ s H locs := by rw [eH, eL]; exact hG
  suffices hW : W p l e (tRm 0 0) s m ([.ref h0, .int x1] : List Value).toArray below meth c H locs 0 0 (MQ below (tQp (fun r => (0 ≤ r.toInt ∧ r.toInt ≤ 1) ∧ (r.toInt = 0 ∨ (0 ≤ x1.toInt ∧ x1.toInt ≤ 23)))) ([.ref h0, .int x1] : List Value).toArray s 0 0 tNo) (F0 m 0 ls []) by subst eH; subst eL; exact hW
  refine lv_iload_n hx hb dX8_has_0 rfl (lv_at hl 1 rfl) ?_
  refine lv_if_lt (tgt := 26) hx hb dX8_has_1 (by decide) (fun c1 => ?_) (fun c1 => ?_)
  · skip
    have ic1 := tn_lt rfl kI_0 c1
    refine lv_iconst (v := 0) hx hb dX8_has_26 (by decide) ?_
    exact tc_pret E hr hlk eH eL (t_nz (by decide) (by decide)).1 (show (0 ≤ (0 : Int32).toInt ∧ (0 : Int32).toInt ≤ 1) ∧ ((0 : Int32).toInt = 0 ∨ (0 ≤ x1.toInt ∧ x1.toInt ≤ 23)) by have kk := kI_0; omega) dX8_has_27
  · skip
    have ic1 := tn_nlt rfl kI_0 c1
    refine lv_iload_n hx hb dX8_has_4 rfl (lv_at hl 1 rfl) ?_
    refine lv_bipush (v := 24) hx hb dX8_has_5 (by decide) ?_
    refine lv_icmp_ge (tgt := 26) hx hb dX8_has_7 (by decide) (fun c2 => ?_) (fun c2 => ?_)
    · skip
      have ic2 := tn_le kI_24 rfl c2
      refine lv_iconst (v := 0) hx hb dX8_has_26 (by decide) ?_
      exact tc_pret E hr hlk eH eL (t_nz (by decide) (by decide)).1 (show (0 ≤ (0 : Int32).toInt ∧ (0 : Int32).toInt ≤ 1) ∧ ((0 : Int32).toInt = 0 ∨ (0 ≤ x1.toInt ∧ x1.toInt ≤ 23)) by have kk := kI_0; omega) dX8_has_27
    · skip
      have ic2 := tn_nle kI_24 rfl c2
      refine lv_aload_n hx hb dX8_has_10 rfl (lv_at hl 0 rfl) ?_
      refine tc_geti E hG t0 fit_X8_40 dX8_has_11 (fun z3 _ _ => ?_)
      refine lv_iload_n hx hb dX8_has_14 rfl (lv_at hl 1 rfl) ?_
      refine lv_iushr hx hb dX8_has_15 rfl ?_
      refine lv_topi (fun z4 ez4 => ?_)
      refine lv_iconst (v := 1) hx hb dX8_has_16 (by decide) ?_
      refine lv_iand hx hb dX8_has_17 ?_
      refine lv_topi (fun z5 ez5 => ?_)
      refine lv_iconst (v := 1) hx hb dX8_has_18 (by decide) ?_
      refine lv_icmp_ne (tgt := 26) hx hb dX8_has_19 (by decide) (fun c6 => ?_) (fun c6 => ?_)
      · skip
        have ic6 := tn_ne rfl kI_1 c6
        refine lv_iconst (v := 0) hx hb dX8_has_26 (by decide) ?_
        exact tc_pret E hr hlk eH eL (t_nz (by decide) (by decide)).1 (show (0 ≤ (0 : Int32).toInt ∧ (0 : Int32).toInt ≤ 1) ∧ ((0 : Int32).toInt = 0 ∨ (0 ≤ x1.toInt ∧ x1.toInt ≤ 23)) by have kk := kI_0; omega) dX8_has_27
      · skip
        have ic6 := tn_eq rfl kI_1 c6
        refine lv_iconst (v := 1) hx hb dX8_has_22 (by decide) ?_
        refine lv_goto (tgt := 27) hx hb dX8_has_23 (by decide) ?_
        exact tc_pret E hr hlk eH eL (t_nz (by decide) (by decide)).1 (show (0 ≤ (1 : Int32).toInt ∧ (1 : Int32).toInt ≤ 1) ∧ ((1 : Int32).toInt = 0 ∨ (0 ≤ x1.toInt ∧ x1.toInt ≤ 23)) by have kk := kI_1; omega) dX8_has_27

set_option maxHeartbeats 4000000 in
set_option maxRecDepth 100000 in
theorem c_X8_isDirty_c (l : Launch) (G : tG) (τ : Nat → Nat) (h0 : Nat) (x1 : Int32) (t0 : τ h0 = 26) : Met l yX8_isDirty (.code yX8_isDirty cX8_isDirty 2 (some .boolean) :: tWS) (tRm 0 0) (va_Pc [.ref h0, .int x1] (tPre G τ)) (tQp (fun r => 0 ≤ r.toInt ∧ r.toInt ≤ 1)) 0 0 tNo := by
  refine tc_met (by decide) (Nat.le_of_ble_eq_true rfl) ?_
  intro p e s m below meth c E hSt hr hlk hG ls hl
  have hl : lv_has ls 2 [(0, .ref h0), (1, .int x1)] := hl
  have hx := E.1
  have hb := E.2.1
  obtain ⟨H, eH⟩ : ∃ H, H = s.heap := ⟨_, rfl⟩
  obtain ⟨locs, eL⟩ : ∃ x : List Loc, x = [] := ⟨_, rfl⟩
  have hG : tGH G τ s H locs := by rw [eH, eL]; exact hG
  suffices hW : W p l e (tRm 0 0) s m ([.ref h0, .int x1] : List Value).toArray below meth c H locs 0 0 (MQ below (tQp (fun r => 0 ≤ r.toInt ∧ r.toInt ≤ 1)) ([.ref h0, .int x1] : List Value).toArray s 0 0 tNo) (F0 m 0 ls []) by subst eH; subst eL; exact hW
  refine lv_aload_n hx hb dX8_isDirty_0 rfl (lv_at hl 0 rfl) ?_
  refine tc_geti E hG t0 fic_X8_43 dX8_isDirty_1 (fun z1 _ _ => ?_)
  refine lv_iload_n hx hb dX8_isDirty_4 rfl (lv_at hl 1 rfl) ?_
  refine lv_iushr hx hb dX8_isDirty_5 rfl ?_
  refine lv_topi (fun z2 ez2 => ?_)
  refine lv_iconst (v := 1) hx hb dX8_isDirty_6 (by decide) ?_
  refine lv_iand hx hb dX8_isDirty_7 ?_
  refine lv_topi (fun z3 ez3 => ?_)
  refine lv_iconst (v := 1) hx hb dX8_isDirty_8 (by decide) ?_
  refine lv_icmp_ne (tgt := 16) hx hb dX8_isDirty_9 (by decide) (fun c4 => ?_) (fun c4 => ?_)
  · skip
    have ic4 := tn_ne rfl kI_1 c4
    refine lv_iconst (v := 0) hx hb dX8_isDirty_16 (by decide) ?_
    exact tc_pret E hr hlk eH eL (t_nz (by decide) (by decide)).1 (show 0 ≤ (0 : Int32).toInt ∧ (0 : Int32).toInt ≤ 1 by have kk := kI_0; omega) dX8_isDirty_17
  · skip
    have ic4 := tn_eq rfl kI_1 c4
    refine lv_iconst (v := 1) hx hb dX8_isDirty_12 (by decide) ?_
    refine lv_goto (tgt := 17) hx hb dX8_isDirty_13 (by decide) ?_
    exact tc_pret E hr hlk eH eL (t_nz (by decide) (by decide)).1 (show 0 ≤ (1 : Int32).toInt ∧ (1 : Int32).toInt ≤ 1 by have kk := kI_1; omega) dX8_isDirty_17

set_option maxHeartbeats 4000000 in
set_option maxRecDepth 100000 in
theorem c_X8_countBoxes (l : Launch) (G : tG) (τ : Nat → Nat) (h0 : Nat) (t0 : τ h0 = 2) : Met l yX8_countBoxes (.code yX8_countBoxes cX8_countBoxes 1 (some .int) :: tWS) (tRm 1 20) (va_Pc [.ref h0] (tPre G τ)) (tQp (fun r => True)) 0 0 tNo := by
  refine tc_met (by decide) (Nat.le_of_ble_eq_true rfl) ?_
  intro p e s m below meth c E hSt hr hlk hG ls hl
  have hl : lv_has ls 1 [(0, .ref h0)] := hl
  have hx := E.1
  have hb := E.2.1
  obtain ⟨H, eH⟩ : ∃ H, H = s.heap := ⟨_, rfl⟩
  obtain ⟨locs, eL⟩ : ∃ x : List Loc, x = [] := ⟨_, rfl⟩
  have hG : tGH G τ s H locs := by rw [eH, eL]; exact hG
  suffices hW : W p l e (tRm 1 20) s m ([.ref h0] : List Value).toArray below meth c H locs 0 0 (MQ below (tQp (fun r => True)) ([.ref h0] : List Value).toArray s 0 0 tNo) (F0 m 0 ls []) by subst eH; subst eL; exact hW
  refine lv_aload_n hx hb dX8_countBoxes_0 rfl (lv_at hl 0 rfl) ?_
  refine tc_geti E hG t0 fi_X8_40 dX8_countBoxes_1 (fun z1 _ _ => ?_)
  refine tc_callp (tc_runS (As := [.int z1]) (rest := []) E hSt hG (c_J6_bitCount_0f7a4 l G τ z1) ks_J6_bitCount_0f7a4 ml_X8_46 ⟨rfl, rfl, Nat.le_of_ble_eq_true rfl, Nat.le_of_ble_eq_true rfl⟩ rfl hl.1 rfl (Nat.le_of_ble_eq_true rfl) ⟨Nat.zero_le _, Nat.zero_le _⟩ dX8_countBoxes_4) (fun r2 pr2 => ?_)
  exact tc_pret E hr hlk eH eL rfl trivial dX8_countBoxes_7

set_option maxHeartbeats 4000000 in
set_option maxRecDepth 100000 in
theorem c_X8_countBoxes_c (l : Launch) (G : tG) (τ : Nat → Nat) (h0 : Nat) (t0 : τ h0 = 26) : Met l yX8_countBoxes (.code yX8_countBoxes cX8_countBoxes 1 (some .int) :: tWS) (tRm 1 20) (va_Pc [.ref h0] (tPre G τ)) (tQp (fun r => True)) 0 0 tNo := by
  refine tc_met (by decide) (Nat.le_of_ble_eq_true rfl) ?_
  intro p e s m below meth c E hSt hr hlk hG ls hl
  have hl : lv_has ls 1 [(0, .ref h0)] := hl
  have hx := E.1
  have hb := E.2.1
  obtain ⟨H, eH⟩ : ∃ H, H = s.heap := ⟨_, rfl⟩
  obtain ⟨locs, eL⟩ : ∃ x : List Loc, x = [] := ⟨_, rfl⟩
  have hG : tGH G τ s H locs := by rw [eH, eL]; exact hG
  suffices hW : W p l e (tRm 1 20) s m ([.ref h0] : List Value).toArray below meth c H locs 0 0 (MQ below (tQp (fun r => True)) ([.ref h0] : List Value).toArray s 0 0 tNo) (F0 m 0 ls []) by subst eH; subst eL; exact hW
  refine lv_aload_n hx hb dX8_countBoxes_0 rfl (lv_at hl 0 rfl) ?_
  refine tc_geti E hG t0 fic_X8_40 dX8_countBoxes_1 (fun z1 _ _ => ?_)
  refine tc_callp (tc_runS (As := [.int z1]) (rest := []) E hSt hG (c_J6_bitCount_0f7a4 l G τ z1) ks_J6_bitCount_0f7a4 ml_X8_46 ⟨rfl, rfl, Nat.le_of_ble_eq_true rfl, Nat.le_of_ble_eq_true rfl⟩ rfl hl.1 rfl (Nat.le_of_ble_eq_true rfl) ⟨Nat.zero_le _, Nat.zero_le _⟩ dX8_countBoxes_4) (fun r2 pr2 => ?_)
  exact tc_pret E hr hlk eH eL rfl trivial dX8_countBoxes_7

set_option maxHeartbeats 4000000 in
set_option maxRecDepth 100000 in
theorem c_X8_countBoxes_t (l : Launch) (G : tG) (τ : Nat → Nat) (h0 : Nat) (t0 : τ h0 = 28) : Met l yX8_countBoxes (.code yX8_countBoxes cX8_countBoxes 1 (some .int) :: tWS) (tRm 1 20) (va_Pc [.ref h0] (tPre G τ)) (tQp (fun r => True)) 0 0 tNo := by
  refine tc_met (by decide) (Nat.le_of_ble_eq_true rfl) ?_
  intro p e s m below meth c E hSt hr hlk hG ls hl
  have hl : lv_has ls 1 [(0, .ref h0)] := hl
  have hx := E.1
  have hb := E.2.1
  obtain ⟨H, eH⟩ : ∃ H, H = s.heap := ⟨_, rfl⟩
  obtain ⟨locs, eL⟩ : ∃ x : List Loc, x = [] := ⟨_, rfl⟩
  have hG : tGH G τ s H locs := by rw [eH, eL]; exact hG
  suffices hW : W p l e (tRm 1 20) s m ([.ref h0] : List Value).toArray below meth c H locs 0 0 (MQ below (tQp (fun r => True)) ([.ref h0] : List Value).toArray s 0 0 tNo) (F0 m 0 ls []) by subst eH; subst eL; exact hW
  refine lv_aload_n hx hb dX8_countBoxes_0 rfl (lv_at hl 0 rfl) ?_
  refine tc_geti E hG t0 fit_X8_40 dX8_countBoxes_1 (fun z1 _ _ => ?_)
  refine tc_callp (tc_runS (As := [.int z1]) (rest := []) E hSt hG (c_J6_bitCount_0f7a4 l G τ z1) ks_J6_bitCount_0f7a4 ml_X8_46 ⟨rfl, rfl, Nat.le_of_ble_eq_true rfl, Nat.le_of_ble_eq_true rfl⟩ rfl hl.1 rfl (Nat.le_of_ble_eq_true rfl) ⟨Nat.zero_le _, Nat.zero_le _⟩ dX8_countBoxes_4) (fun r2 pr2 => ?_)
  exact tc_pret E hr hlk eH eL rfl trivial dX8_countBoxes_7

set_option maxHeartbeats 4000000 in
set_option maxRecDepth 100000 in
theorem c_X8_kidOf (l : Launch) (G : tG) (τ : Nat → Nat) (h0 : Nat) (h1 : Nat) (x2 : Int32) (t0 : τ h0 = 2) (t1 : τ h1 = 3) (l2 : 0 ≤ x2.toInt) (u2 : x2.toInt ≤ 7) : Met l yX8_kidOf (.code yX8_kidOf cX8_kidOf 3 (some (.object "LaidOutBoxes$Box")) :: tWS) (tRm 0 0) (va_Pc [.ref h0, .ref h1, .int x2] (tPre G τ)) (tQpr (fun r => τ r = 3)) 0 0 tNo := by
  refine tc_met (by decide) (Nat.le_of_ble_eq_true rfl) ?_
  intro p e s m below meth c E hSt hr hlk hG ls hl
  have hl : lv_has ls 3 [(0, .ref h0), (1, .ref h1), (2, .int x2)] := hl
  have hx := E.1
  have hb := E.2.1
  obtain ⟨H, eH⟩ : ∃ H, H = s.heap := ⟨_, rfl⟩
  obtain ⟨locs, eL⟩ : ∃ x : List Loc, x = [] := ⟨_, rfl⟩
  have hG : tGH G τ s H locs := by rw [eH, eL]; exact hG
  suffices hW : W p l e (tRm 0 0) s m ([.ref h0, .ref h1, .int x2] : List Value).toArray below meth c H locs 0 0 (MQ below (tQpr (fun r => τ r = 3)) ([.ref h0, .ref h1, .int x2] : List Value).toArray s 0 0 tNo) (F0 m 0 ls []) by subst eH; subst eL; exact hW
  refine lv_aload_n hx hb dX8_kidOf_0 rfl (lv_at hl 0 rfl) ?_
  refine tc_getr E hG t0 fr_X8_11 dX8_kidOf_1 (fun oa1 hoa1 => ?_)
  refine lv_aload_n hx hb dX8_kidOf_4 rfl (lv_at hl 1 rfl) ?_
  refine tc_getr E hG t1 fr_X8_52 dX8_kidOf_5 (fun oa2 hoa2 => ?_)
  refine lv_iload_n hx hb dX8_kidOf_8 rfl (lv_at hl 2 rfl) ?_
  refine tc_iald E hG hoa2 ta_12 (t_in (by omega) (by omega)) dX8_kidOf_9 (fun z3 lz3 uz3 => ?_)
  refine tc_aald3 E hG hoa1 ta_10 (t_in (by omega) (by omega)) dX8_kidOf_10 (fun oa4 hoa4 => ?_)
  exact tc_paret E hr hlk eH eL hoa4 dX8_kidOf_11

set_option maxHeartbeats 4000000 in
set_option maxRecDepth 100000 in
theorem c_X8_kidOf_c (l : Launch) (G : tG) (τ : Nat → Nat) (h0 : Nat) (h1 : Nat) (x2 : Int32) (t0 : τ h0 = 26) (t1 : τ h1 = 31) (l2 : 0 ≤ x2.toInt) (u2 : x2.toInt ≤ 7) : Met l yX8_kidOf (.code yX8_kidOf cX8_kidOf 3 (some (.object "LaidOutBoxes$Box")) :: tWS) (tRm 0 0) (va_Pc [.ref h0, .ref h1, .int x2] (tPre G τ)) (tQpr (fun r => τ r = 31)) 0 0 tNo := by
  refine tc_met (by decide) (Nat.le_of_ble_eq_true rfl) ?_
  intro p e s m below meth c E hSt hr hlk hG ls hl
  have hl : lv_has ls 3 [(0, .ref h0), (1, .ref h1), (2, .int x2)] := hl
  have hx := E.1
  have hb := E.2.1
  obtain ⟨H, eH⟩ : ∃ H, H = s.heap := ⟨_, rfl⟩
  obtain ⟨locs, eL⟩ : ∃ x : List Loc, x = [] := ⟨_, rfl⟩
  have hG : tGH G τ s H locs := by rw [eH, eL]; exact hG
  suffices hW : W p l e (tRm 0 0) s m ([.ref h0, .ref h1, .int x2] : List Value).toArray below meth c H locs 0 0 (MQ below (tQpr (fun r => τ r = 31)) ([.ref h0, .ref h1, .int x2] : List Value).toArray s 0 0 tNo) (F0 m 0 ls []) by subst eH; subst eL; exact hW
  refine lv_aload_n hx hb dX8_kidOf_0 rfl (lv_at hl 0 rfl) ?_
  refine tc_getr E hG t0 frc_X8_11 dX8_kidOf_1 (fun oa1 hoa1 => ?_)
  refine lv_aload_n hx hb dX8_kidOf_4 rfl (lv_at hl 1 rfl) ?_
  refine tc_getr E hG t1 frk_X8_52 dX8_kidOf_5 (fun oa2 hoa2 => ?_)
  refine lv_iload_n hx hb dX8_kidOf_8 rfl (lv_at hl 2 rfl) ?_
  refine tc_iald E hG hoa2 ta_33 (t_in (by omega) (by omega)) dX8_kidOf_9 (fun z3 lz3 uz3 => ?_)
  refine tc_aald3 E hG hoa1 ta_34 (t_in (by omega) (by omega)) dX8_kidOf_10 (fun oa4 hoa4 => ?_)
  exact tc_paret E hr hlk eH eL hoa4 dX8_kidOf_11

set_option maxHeartbeats 4000000 in
set_option maxRecDepth 100000 in
theorem c_X8_takesOneMore (l : Launch) (G : tG) (τ : Nat → Nat) (h0 : Nat) (x1 : Int32) (t0 : τ h0 = 2) : Met l yX8_takesOneMore (.code yX8_takesOneMore cX8_takesOneMore 2 (some .boolean) :: tWS) (tRm 2 40) (va_Pc [.ref h0, .int x1] (tPre G τ)) (tQp (fun r => 0 ≤ r.toInt ∧ r.toInt ≤ 1)) 0 0 tNo := by
  refine tc_met (by decide) (Nat.le_of_ble_eq_true rfl) ?_
  intro p e s m below meth c E hSt hr hlk hG ls hl
  have hl : lv_has ls 2 [(0, .ref h0), (1, .int x1)] := hl
  have hx := E.1
  have hb := E.2.1
  obtain ⟨H, eH⟩ : ∃ H, H = s.heap := ⟨_, rfl⟩
  obtain ⟨locs, eL⟩ : ∃ x : List Loc, x = [] := ⟨_, rfl⟩
  have hG : tGH G τ s H locs := by rw [eH, eL]; exact hG
  suffices hW : W p l e (tRm 2 40) s m ([.ref h0, .int x1] : List Value).toArray below meth c H locs 0 0 (MQ below (tQp (fun r => 0 ≤ r.toInt ∧ r.toInt ≤ 1)) ([.ref h0, .int x1] : List Value).toArray s 0 0 tNo) (F0 m 0 ls []) by subst eH; subst eL; exact hW
  refine lv_aload_n hx hb dX8_takesOneMore_0 rfl (lv_at hl 0 rfl) ?_
  refine lv_iload_n hx hb dX8_takesOneMore_1 rfl (lv_at hl 1 rfl) ?_
  refine tc_callp (tc_runV (As := [.int x1]) (rest := []) E hSt hG (c_X8_has l G τ h0 x1 t0) t0 rv_2 kv_X8_has ml_X8_55 ⟨rfl, rfl, Nat.le_of_ble_eq_true rfl, Nat.le_of_ble_eq_true rfl⟩ rfl hl.1 rfl (Nat.le_of_ble_eq_true rfl) ⟨Nat.zero_le _, Nat.zero_le _⟩ dX8_takesOneMore_2) (fun r1 pr1 => ?_)
  have pr1 : (0 ≤ r1.toInt ∧ r1.toInt ≤ 1) ∧ (r1.toInt = 0 ∨ (0 ≤ x1.toInt ∧ x1.toInt ≤ 23)) := pr1
  refine lv_if_ne (tgt := 25) hx hb dX8_takesOneMore_5 (by decide) (fun c2 => ?_) (fun c2 => ?_)
  · skip
    have ic2 := tn_ne rfl kI_0 c2
    refine lv_aload_n hx hb dX8_takesOneMore_25 rfl (lv_at hl 0 rfl) ?_
    refine tc_getrS E hG t0 fr_X8_11 dX8_takesOneMore_26 (fun oa3 hoa3 fv4 => ?_)
    have fv4 := fv4 _ rfl
    refine lv_iload_n hx hb dX8_takesOneMore_29 rfl (lv_at hl 1 rfl) ?_
    refine tc_aald3S E hG hoa3 ta_10 (t_in (by omega) (by omega)) dX8_takesOneMore_30 (fun oa5 hoa5 fv6 => ?_)
    refine tc_getiS E hG hoa5 fi_X8_59 dX8_takesOneMore_31 (fun z7 lz7 uz7 fv8 => ?_)
    have fv8 := fv8 _ rfl
    refine lv_aload_n hx hb dX8_takesOneMore_34 rfl (lv_at hl 0 rfl) ?_
    refine tc_seen E ff_X8_11 fv4 dX8_takesOneMore_35 ?_
    refine lv_iload_n hx hb dX8_takesOneMore_38 rfl (lv_at hl 1 rfl) ?_
    refine tc_aald3C E hG hoa3 ta_10 (t_in (by omega) (by omega)) fv6 dX8_takesOneMore_39 ?_
    refine tc_getiS E hG hoa5 fi_X8_62 dX8_takesOneMore_40 (fun z9 lz9 uz9 fv10 => ?_)
    have fv10 := fv10 _ rfl
    refine tc_callp (tc_runS (As := [.int z9]) (rest := [.int z7]) E hSt hG (c_X1_childrenOf l G τ z9) ks_X1_childrenOf ml_X8_65 ⟨rfl, rfl, Nat.le_of_ble_eq_true rfl, Nat.le_of_ble_eq_true rfl⟩ rfl hl.1 rfl (Nat.le_of_ble_eq_true rfl) ⟨Nat.zero_le _, Nat.zero_le _⟩ dX8_takesOneMore_43) (fun r11 pr11 => ?_)
    have pr11 : 0 ≤ r11.toInt ∧ r11.toInt ≤ 8 := pr11
    refine lv_icmp_ge (tgt := 53) hx hb dX8_takesOneMore_46 (by decide) (fun c12 => ?_) (fun c12 => ?_)
    · skip
      have ic12 := tn_le rfl rfl c12
      refine lv_iconst (v := 0) hx hb dX8_takesOneMore_53 (by decide) ?_
      exact tc_pret E hr hlk eH eL (t_nz (by decide) (by decide)).1 (show 0 ≤ (0 : Int32).toInt ∧ (0 : Int32).toInt ≤ 1 by have kk := kI_0; omega) dX8_takesOneMore_54
    · skip
      have ic12 := tn_nle rfl rfl c12
      refine lv_iconst (v := 1) hx hb dX8_takesOneMore_49 (by decide) ?_
      refine lv_goto (tgt := 54) hx hb dX8_takesOneMore_50 (by decide) ?_
      exact tc_pret E hr hlk eH eL (t_nz (by decide) (by decide)).1 (show 0 ≤ (1 : Int32).toInt ∧ (1 : Int32).toInt ≤ 1 by have kk := kI_1; omega) dX8_takesOneMore_54
  · skip
    have ic2 := tn_eq rfl kI_0 c2
    refine lv_aload_n hx hb dX8_takesOneMore_8 rfl (lv_at hl 0 rfl) ?_
    refine lv_aload_n hx hb dX8_takesOneMore_9 rfl (lv_at hl 0 rfl) ?_
    refine tc_getiS E hG t0 fi_X8_24 dX8_takesOneMore_10 (fun z13 lz13 uz13 fv14 => ?_)
    have fv14 := fv14 _ rfl
    refine tc_callp (tc_runV (As := [.int z13]) (rest := []) E hSt hG (c_X8_has l G τ h0 z13 t0) t0 rv_2 kv_X8_has ml_X8_55 ⟨rfl, rfl, Nat.le_of_ble_eq_true rfl, Nat.le_of_ble_eq_true rfl⟩ rfl hl.1 rfl (Nat.le_of_ble_eq_true rfl) ⟨Nat.zero_le _, Nat.zero_le _⟩ dX8_takesOneMore_13) (fun r15 pr15 => ?_)
    have pr15 : (0 ≤ r15.toInt ∧ r15.toInt ≤ 1) ∧ (r15.toInt = 0 ∨ (0 ≤ z13.toInt ∧ z13.toInt ≤ 23)) := pr15
    refine lv_if_ne (tgt := 23) hx hb dX8_takesOneMore_16 (by decide) (fun c16 => ?_) (fun c16 => ?_)
    · skip
      have ic16 := tn_ne rfl kI_0 c16
      refine lv_iconst (v := 0) hx hb dX8_takesOneMore_23 (by decide) ?_
      exact tc_pret E hr hlk eH eL (t_nz (by decide) (by decide)).1 (show 0 ≤ (0 : Int32).toInt ∧ (0 : Int32).toInt ≤ 1 by have kk := kI_0; omega) dX8_takesOneMore_24
    · skip
      have ic16 := tn_eq rfl kI_0 c16
      refine lv_iconst (v := 1) hx hb dX8_takesOneMore_19 (by decide) ?_
      refine lv_goto (tgt := 24) hx hb dX8_takesOneMore_20 (by decide) ?_
      exact tc_pret E hr hlk eH eL (t_nz (by decide) (by decide)).1 (show 0 ≤ (1 : Int32).toInt ∧ (1 : Int32).toInt ≤ 1 by have kk := kI_1; omega) dX8_takesOneMore_24

set_option maxHeartbeats 4000000 in
set_option maxRecDepth 100000 in
theorem c_X8_mark (l : Launch) (G : tG) (τ : Nat → Nat) (h0 : Nat) (x1 : Int32) (t0 : τ h0 = 2) : Met l yX8_mark (.code yX8_mark cX8_mark 7 none :: tWS) (tRm 1 21) (va_Pc [.ref h0, .int x1] (tPre G τ)) (tQv G τ) 0 0 (tA τ) := by
  refine tc_met (by decide) (Nat.le_of_ble_eq_true rfl) ?_
  intro p e s m below meth c E hSt hr hlk hG ls hl
  have hl : lv_has ls 7 [(0, .ref h0), (1, .int x1)] := hl
  have hx := E.1
  have hb := E.2.1
  obtain ⟨H, eH⟩ : ∃ H, H = s.heap := ⟨_, rfl⟩
  obtain ⟨locs, eL⟩ : ∃ x : List Loc, x = [] := ⟨_, rfl⟩
  have hG : tGH G τ s H locs := by rw [eH, eL]; exact hG
  suffices hW : W p l e (tRm 1 21) s m ([.ref h0, .int x1] : List Value).toArray below meth c H locs 0 0 (MQ below (tQv G τ) ([.ref h0, .int x1] : List Value).toArray s 0 0 (tA τ)) (F0 m 0 ls []) by subst eH; subst eL; exact hW
  clear eH eL
  have J4 : ∀ (n4 : Nat) (H : Heap) (locs : List Loc) (ls : Array Slot) (v2 : Int32) (v3 : Int32), tGH G τ s H locs → lv_has ls 7 [(0, .ref h0), (2, .int v2), (3, .int v3)] → 0 ≤ v3.toInt → v3.toInt ≤ 24 → (24 - v3.toInt).toNat < n4 → W p l e (tRm 1 21) s m ([.ref h0, .int x1] : List Value).toArray below meth c H locs 0 0 (MQ below (tQv G τ) ([.ref h0, .int x1] : List Value).toArray s 0 0 (tA τ)) (F0 m 4 ls []) := by
    intro n4
    induction n4 with
    | zero => intro H locs ls v2 v3 hG hl b3 c3 hn4; exact absurd hn4 (Nat.not_lt_zero _)
    | succ n4 ih4 =>
      intro H locs ls v2 v3 hG hl b3 c3 hn4
      have J73 : ∀ (H : Heap) (locs : List Loc) (ls : Array Slot) (v3 : Int32) (a4 : Nat) (v5 : Int32) (vs0 : Int32), tGH G τ s H locs → lv_has ls 7 [(0, .ref h0), (3, .int v3), (4, .ref a4), (5, .int v5)] → 0 ≤ v3.toInt → v3.toInt ≤ 23 → τ a4 = 3 → 0 ≤ vs0.toInt → vs0.toInt ≤ 1 → (24 - v3.toInt).toNat < n4 + 1 → W p l e (tRm 1 21) s m ([.ref h0, .int x1] : List Value).toArray below meth c H locs 0 0 (MQ below (tQv G τ) ([.ref h0, .int x1] : List Value).toArray s 0 0 (tA τ)) (F0 m 73 ls [.int vs0]) := by
        intro H locs ls v3 a4 v5 vs0 hG hl b3 c3 e4 bs0 cs0 hm4
        refine lv_istore (lv' := [(6, .int vs0), (0, .ref h0), (3, .int v3), (4, .ref a4), (5, .int v5)]) hx hb dX8_mark_73 hl (by decide) rfl (fun ls hl => ?_)
        refine lv_aload_n hx hb dX8_mark_75 rfl (lv_at hl 1 rfl) ?_
        refine lv_dup hx hb dX8_mark_76 rfl ?_
        refine tc_geti E hG t0 fi_X8_43 dX8_mark_77 (fun z1 _ _ => ?_)
        refine lv_iload hx hb dX8_mark_80 (lv_at hl 4 rfl) ?_
        refine lv_ior hx hb dX8_mark_82 ?_
        refine lv_topi (fun z2 ez2 => ?_)
        refine tc_puti E hG t0 fp_X8_43 (t_any1 _) (t_any2 _) dX8_mark_83 (fun H locs hG => ?_)
        refine lv_aload hx hb dX8_mark_86 (lv_at hl 3 rfl) ?_
        refine lv_iconst (v := 0) hx hb dX8_mark_88 (by decide) ?_
        refine tc_puti E hG e4 fp_X8_142 (t_any1 _) (t_any2 _) dX8_mark_89 (fun H locs hG => ?_)
        refine lv_iload hx hb dX8_mark_92 (lv_at hl 0 rfl) ?_
        refine lv_if_eq (tgt := 109) hx hb dX8_mark_94 (by decide) (fun c3 => ?_) (fun c3 => ?_)
        · skip
          have ic3 := tn_eq rfl kI_0 c3
          refine lv_aload hx hb dX8_mark_109 (lv_at hl 3 rfl) ?_
          refine tc_geti E hG e4 fi_X8_102 dX8_mark_111 (fun z4 _ _ => ?_)
          refine lv_istore_n (lv' := [(2, .int z4), (6, .int vs0), (0, .ref h0), (3, .int v3), (4, .ref a4), (5, .int v5)]) hx hb dX8_mark_114 rfl hl (by decide) rfl (fun ls hl => ?_)
          obtain ⟨z5, ez5⟩ : ∃ y : Int32, y = v3 + (1) := ⟨_, rfl⟩
          refine lv_iinc (v := z5) (lv' := [(3, .int z5), (2, .int z4), (6, .int vs0), (0, .ref h0), (4, .ref a4), (5, .int v5)]) hx hb dX8_mark_115 hl (k := 3) rfl (by rw [ez5]; rfl) (by decide) rfl (fun ls hl => ?_)
          have tz5 := tn_add ez5 rfl kI_1 (by omega) (by omega)
          refine lv_goto (tgt := 4) hx hb dX8_mark_118 (by decide) ?_
          exact ih4 H locs ls z4 z5 hG (lv_sub hl [3, 1, 0] rfl) (by omega) (by omega) (by omega)
        · skip
          have ic3 := tn_ne rfl kI_0 c3
          refine lv_aload_n hx hb dX8_mark_97 rfl (lv_at hl 1 rfl) ?_
          refine lv_dup hx hb dX8_mark_98 rfl ?_
          refine tc_geti E hG t0 fi_X8_122 dX8_mark_99 (fun z6 _ _ => ?_)
          refine lv_iload hx hb dX8_mark_102 (lv_at hl 4 rfl) ?_
          refine lv_ior hx hb dX8_mark_104 ?_
          refine lv_topi (fun z7 ez7 => ?_)
          refine tc_puti E hG t0 fp_X8_122 (t_any1 _) (t_any2 _) dX8_mark_105 (fun H locs hG => ?_)
          exact tc_vret E hr hlk hG dX8_mark_108
      have J68 : ∀ (H : Heap) (locs : List Loc) (ls : Array Slot) (v3 : Int32) (a4 : Nat) (v5 : Int32), tGH G τ s H locs → lv_has ls 7 [(0, .ref h0), (3, .int v3), (4, .ref a4), (5, .int v5)] → 0 ≤ v3.toInt → v3.toInt ≤ 23 → τ a4 = 3 → (24 - v3.toInt).toNat < n4 + 1 → W p l e (tRm 1 21) s m ([.ref h0, .int x1] : List Value).toArray below meth c H locs 0 0 (MQ below (tQv G τ) ([.ref h0, .int x1] : List Value).toArray s 0 0 (tA τ)) (F0 m 68 ls []) := by
        intro H locs ls v3 a4 v5 hG hl b3 c3 e4 hm4
        refine lv_iconst (v := 1) hx hb dX8_mark_68 (by decide) ?_
        refine lv_goto (tgt := 73) hx hb dX8_mark_69 (by decide) ?_
        exact J73 H locs ls v3 (a4) v5 (1 : Int32) hG (lv_sub hl [0, 1, 2, 3] rfl) (by omega) (by omega) e4 (by decide) (by decide) (by omega)
      have J72 : ∀ (H : Heap) (locs : List Loc) (ls : Array Slot) (v3 : Int32) (a4 : Nat) (v5 : Int32), tGH G τ s H locs → lv_has ls 7 [(0, .ref h0), (3, .int v3), (4, .ref a4), (5, .int v5)] → 0 ≤ v3.toInt → v3.toInt ≤ 23 → τ a4 = 3 → (24 - v3.toInt).toNat < n4 + 1 → W p l e (tRm 1 21) s m ([.ref h0, .int x1] : List Value).toArray below meth c H locs 0 0 (MQ below (tQv G τ) ([.ref h0, .int x1] : List Value).toArray s 0 0 (tA τ)) (F0 m 72 ls []) := by
        intro H locs ls v3 a4 v5 hG hl b3 c3 e4 hm4
        refine lv_iconst (v := 0) hx hb dX8_mark_72 (by decide) ?_
        exact J73 H locs ls v3 (a4) v5 (0 : Int32) hG (lv_sub hl [0, 1, 2, 3] rfl) (by omega) (by omega) e4 (by decide) (by decide) (by omega)
      refine lv_iload_n hx hb dX8_mark_4 rfl (lv_at hl 2 rfl) ?_
      refine lv_bipush (v := 24) hx hb dX8_mark_5 (by decide) ?_
      refine lv_icmp_ge (tgt := 121) hx hb dX8_mark_7 (by decide) (fun c8 => ?_) (fun c8 => ?_)
      · skip
        have ic8 := tn_le kI_24 rfl c8
        exact tc_vret E hr hlk hG dX8_mark_121
      · skip
        have ic8 := tn_nle kI_24 rfl c8
        refine lv_aload_n hx hb dX8_mark_10 rfl (lv_at hl 0 rfl) ?_
        refine lv_iload_n hx hb dX8_mark_11 rfl (lv_at hl 1 rfl) ?_
        refine tc_callp (tc_runV (As := [.int v2]) (rest := []) E hSt hG (c_X8_has l G τ h0 v2 t0) t0 rv_2 kv_X8_has ml_X8_55 ⟨rfl, rfl, Nat.le_of_ble_eq_true rfl, Nat.le_of_ble_eq_true rfl⟩ rfl hl.1 rfl (Nat.le_of_ble_eq_true rfl) ⟨Nat.zero_le _, Nat.zero_le _⟩ dX8_mark_12) (fun r9 pr9 => ?_)
        have pr9 : (0 ≤ r9.toInt ∧ r9.toInt ≤ 1) ∧ (r9.toInt = 0 ∨ (0 ≤ v2.toInt ∧ v2.toInt ≤ 23)) := pr9
        refine lv_if_eq (tgt := 121) hx hb dX8_mark_15 (by decide) (fun c10 => ?_) (fun c10 => ?_)
        · skip
          have ic10 := tn_eq rfl kI_0 c10
          exact tc_vret E hr hlk hG dX8_mark_121
        · skip
          have ic10 := tn_ne rfl kI_0 c10
          refine lv_aload_n hx hb dX8_mark_18 rfl (lv_at hl 0 rfl) ?_
          refine tc_getr E hG t0 fr_X8_11 dX8_mark_19 (fun oa11 hoa11 => ?_)
          refine lv_iload_n hx hb dX8_mark_22 rfl (lv_at hl 1 rfl) ?_
          refine tc_aald3 E hG hoa11 ta_10 (t_in (by omega) (by omega)) dX8_mark_23 (fun oa12 hoa12 => ?_)
          refine lv_astore (lv' := [(4, .ref oa12), (0, .ref h0), (2, .int v2), (3, .int v3)]) hx hb dX8_mark_24 hl (by decide) rfl (fun ls hl => ?_)
          refine lv_iconst (v := 1) hx hb dX8_mark_26 (by decide) ?_
          refine lv_iload_n hx hb dX8_mark_27 rfl (lv_at hl 2 rfl) ?_
          refine lv_ishl hx hb dX8_mark_28 ?_
          refine lv_topi (fun z13 ez13 => ?_)
          refine lv_istore (lv' := [(5, .int z13), (4, .ref oa12), (0, .ref h0), (2, .int v2), (3, .int v3)]) hx hb dX8_mark_29 hl (by decide) rfl (fun ls hl => ?_)
          refine lv_iload_n hx hb dX8_mark_31 rfl (lv_at hl 3 rfl) ?_
          refine lv_aload_n hx hb dX8_mark_32 rfl (lv_at hl 2 rfl) ?_
          refine tc_geti E hG t0 fi_X8_24 dX8_mark_33 (fun z14 _ _ => ?_)
          refine lv_icmp_eq (tgt := 68) hx hb dX8_mark_36 (by decide) (fun c15 => ?_) (fun c15 => ?_)
          · skip
            have ic15 := tn_eq rfl rfl c15
            exact J68 H locs ls v3 (oa12) z13 hG (lv_sub hl [2, 4, 1, 0] rfl) (by omega) (by omega) hoa12 (by omega)
          · skip
            have ic15 := tn_ne rfl rfl c15
            refine lv_aload hx hb dX8_mark_39 (lv_at hl 1 rfl) ?_
            refine tc_getr E hG hoa12 fr_X8_132 dX8_mark_41 (fun oa16 hoa16 => ?_)
            refine tc_callp (tc_runV (As := []) (rest := []) E hSt hG (c_X2_wasJust l G τ oa16 hoa16) hoa16 rv_4 kv_X2_wasJust ml_X8_136 ⟨rfl, rfl, Nat.le_of_ble_eq_true rfl, Nat.le_of_ble_eq_true rfl⟩ rfl hl.1 rfl (Nat.le_of_ble_eq_true rfl) ⟨Nat.zero_le _, Nat.zero_le _⟩ dX8_mark_44) (fun r17 pr17 => ?_)
            have pr17 : 0 ≤ r17.toInt ∧ r17.toInt ≤ 1 := pr17
            refine lv_if_eq (tgt := 72) hx hb dX8_mark_47 (by decide) (fun c18 => ?_) (fun c18 => ?_)
            · skip
              have ic18 := tn_eq rfl kI_0 c18
              exact J72 H locs ls v3 (oa12) z13 hG (lv_sub hl [2, 4, 1, 0] rfl) (by omega) (by omega) hoa12 (by omega)
            · skip
              have ic18 := tn_ne rfl kI_0 c18
              refine lv_aload hx hb dX8_mark_50 (lv_at hl 1 rfl) ?_
              refine tc_geti E hG hoa12 fi_X8_142 dX8_mark_52 (fun z19 _ _ => ?_)
              refine lv_if_ne (tgt := 72) hx hb dX8_mark_55 (by decide) (fun c20 => ?_) (fun c20 => ?_)
              · skip
                have ic20 := tn_ne rfl kI_0 c20
                exact J72 H locs ls v3 (oa12) z13 hG (lv_sub hl [2, 4, 1, 0] rfl) (by omega) (by omega) hoa12 (by omega)
              · skip
                have ic20 := tn_eq rfl kI_0 c20
                refine lv_aload_n hx hb dX8_mark_58 rfl (lv_at hl 2 rfl) ?_
                refine tc_geti E hG t0 fi_X8_125 dX8_mark_59 (fun z21 _ _ => ?_)
                refine lv_iload hx hb dX8_mark_62 (lv_at hl 0 rfl) ?_
                refine lv_iand hx hb dX8_mark_64 ?_
                refine lv_topi (fun z22 ez22 => ?_)
                refine lv_if_ne (tgt := 72) hx hb dX8_mark_65 (by decide) (fun c23 => ?_) (fun c23 => ?_)
                · skip
                  have ic23 := tn_ne rfl kI_0 c23
                  exact J72 H locs ls v3 (oa12) z13 hG (lv_sub hl [2, 4, 1, 0] rfl) (by omega) (by omega) hoa12 (by omega)
                · skip
                  have ic23 := tn_eq rfl kI_0 c23
                  exact J68 H locs ls v3 (oa12) z13 hG (lv_sub hl [2, 4, 1, 0] rfl) (by omega) (by omega) hoa12 (by omega)
  refine lv_iload_n hx hb dX8_mark_0 rfl (lv_at hl 1 rfl) ?_
  refine lv_istore_n (lv' := [(2, .int x1), (0, .ref h0), (1, .int x1)]) hx hb dX8_mark_1 rfl hl (by decide) rfl (fun ls hl => ?_)
  refine lv_iconst (v := 0) hx hb dX8_mark_2 (by decide) ?_
  refine lv_istore_n (lv' := [(3, .int 0), (2, .int x1), (0, .ref h0), (1, .int x1)]) hx hb dX8_mark_3 rfl hl (by decide) rfl (fun ls hl => ?_)
  exact J4 ((24 - (0 : Int32).toInt).toNat + 1) H locs ls x1 (0 : Int32) hG (lv_sub hl [2, 1, 0] rfl) (by decide) (by decide) (Nat.lt_succ_self _)

set_option maxHeartbeats 4000000 in
set_option maxRecDepth 100000 in
theorem c_X8_tellScreen (l : Launch) (G : tG) (τ : Nat → Nat) (h0 : Nat) (x1 : Int32) (x2 : Int32) (t0 : τ h0 = 2) : Met l yX8_tellScreen (.code yX8_tellScreen cX8_tellScreen 3 none :: tWS) (tRm 1 21) (va_Pc [.ref h0, .int x1, .int x2] (tPre G τ)) (tQv G τ) 0 0 (tA τ) := by
  refine tc_met (by decide) (Nat.le_of_ble_eq_true rfl) ?_
  intro p e s m below meth c E hSt hr hlk hG ls hl
  have hl : lv_has ls 3 [(0, .ref h0), (1, .int x1), (2, .int x2)] := hl
  have hx := E.1
  have hb := E.2.1
  obtain ⟨H, eH⟩ : ∃ H, H = s.heap := ⟨_, rfl⟩
  obtain ⟨locs, eL⟩ : ∃ x : List Loc, x = [] := ⟨_, rfl⟩
  have hG : tGH G τ s H locs := by rw [eH, eL]; exact hG
  suffices hW : W p l e (tRm 1 21) s m ([.ref h0, .int x1, .int x2] : List Value).toArray below meth c H locs 0 0 (MQ below (tQv G τ) ([.ref h0, .int x1, .int x2] : List Value).toArray s 0 0 (tA τ)) (F0 m 0 ls []) by subst eH; subst eL; exact hW
  clear eH eL
  refine lv_aload_n hx hb dX8_tellScreen_0 rfl (lv_at hl 0 rfl) ?_
  refine lv_iload_n hx hb dX8_tellScreen_1 rfl (lv_at hl 1 rfl) ?_
  refine tc_puti E hG t0 fp_X8_28 (t_any1 _) (t_any2 _) dX8_tellScreen_2 (fun H locs hG => ?_)
  refine lv_aload_n hx hb dX8_tellScreen_5 rfl (lv_at hl 0 rfl) ?_
  refine lv_iload_n hx hb dX8_tellScreen_6 rfl (lv_at hl 2 rfl) ?_
  refine tc_puti E hG t0 fp_X8_31 (t_any1 _) (t_any2 _) dX8_tellScreen_7 (fun H locs hG => ?_)
  refine lv_aload_n hx hb dX8_tellScreen_10 rfl (lv_at hl 0 rfl) ?_
  refine lv_aload_n hx hb dX8_tellScreen_11 rfl (lv_at hl 0 rfl) ?_
  refine tc_geti E hG t0 fi_X8_24 dX8_tellScreen_12 (fun z1 _ _ => ?_)
  refine tc_callp (tc_runV (As := [.int z1]) (rest := []) E hSt hG (c_X8_has l G τ h0 z1 t0) t0 rv_2 kv_X8_has ml_X8_55 ⟨rfl, rfl, Nat.le_of_ble_eq_true rfl, Nat.le_of_ble_eq_true rfl⟩ rfl hl.1 rfl (Nat.le_of_ble_eq_true rfl) ⟨Nat.zero_le _, Nat.zero_le _⟩ dX8_tellScreen_15) (fun r2 pr2 => ?_)
  have pr2 : (0 ≤ r2.toInt ∧ r2.toInt ≤ 1) ∧ (r2.toInt = 0 ∨ (0 ≤ z1.toInt ∧ z1.toInt ≤ 23)) := pr2
  refine lv_if_eq (tgt := 51) hx hb dX8_tellScreen_18 (by decide) (fun c3 => ?_) (fun c3 => ?_)
  · skip
    have ic3 := tn_eq rfl kI_0 c3
    exact tc_vret E hr hlk hG dX8_tellScreen_51
  · skip
    have ic3 := tn_ne rfl kI_0 c3
    refine lv_aload_n hx hb dX8_tellScreen_21 rfl (lv_at hl 0 rfl) ?_
    refine lv_dup hx hb dX8_tellScreen_22 rfl ?_
    refine tc_geti E hG t0 fi_X8_43 dX8_tellScreen_23 (fun z4 _ _ => ?_)
    refine lv_iconst (v := 1) hx hb dX8_tellScreen_26 (by decide) ?_
    refine lv_aload_n hx hb dX8_tellScreen_27 rfl (lv_at hl 0 rfl) ?_
    refine tc_geti E hG t0 fi_X8_24 dX8_tellScreen_28 (fun z5 _ _ => ?_)
    refine lv_ishl hx hb dX8_tellScreen_31 ?_
    refine lv_topi (fun z6 ez6 => ?_)
    refine lv_ior hx hb dX8_tellScreen_32 ?_
    refine lv_topi (fun z7 ez7 => ?_)
    refine tc_puti E hG t0 fp_X8_43 (t_any1 _) (t_any2 _) dX8_tellScreen_33 (fun H locs hG => ?_)
    refine lv_aload_n hx hb dX8_tellScreen_36 rfl (lv_at hl 0 rfl) ?_
    refine lv_dup hx hb dX8_tellScreen_37 rfl ?_
    refine tc_geti E hG t0 fi_X8_122 dX8_tellScreen_38 (fun z8 _ _ => ?_)
    refine lv_iconst (v := 1) hx hb dX8_tellScreen_41 (by decide) ?_
    refine lv_aload_n hx hb dX8_tellScreen_42 rfl (lv_at hl 0 rfl) ?_
    refine tc_geti E hG t0 fi_X8_24 dX8_tellScreen_43 (fun z9 _ _ => ?_)
    refine lv_ishl hx hb dX8_tellScreen_46 ?_
    refine lv_topi (fun z10 ez10 => ?_)
    refine lv_ior hx hb dX8_tellScreen_47 ?_
    refine lv_topi (fun z11 ez11 => ?_)
    refine tc_puti E hG t0 fp_X8_122 (t_any1 _) (t_any2 _) dX8_tellScreen_48 (fun H locs hG => ?_)
    exact tc_vret E hr hlk hG dX8_tellScreen_51

set_option maxHeartbeats 4000000 in
set_option maxRecDepth 100000 in
theorem c_X8_overBits (l : Launch) (G : tG) (τ : Nat → Nat) (h0 : Nat) (t0 : τ h0 = 2) : Met l yX8_overBits (.code yX8_overBits cX8_overBits 3 (some .int) :: tWS) (tRm 1 21) (va_Pc [.ref h0] (tPre G τ)) (tQp (fun r => True)) 0 0 tNo := by
  refine tc_met (by decide) (Nat.le_of_ble_eq_true rfl) ?_
  intro p e s m below meth c E hSt hr hlk hG ls hl
  have hl : lv_has ls 3 [(0, .ref h0)] := hl
  have hx := E.1
  have hb := E.2.1
  obtain ⟨H, eH⟩ : ∃ H, H = s.heap := ⟨_, rfl⟩
  obtain ⟨locs, eL⟩ : ∃ x : List Loc, x = [] := ⟨_, rfl⟩
  have hG : tGH G τ s H locs := by rw [eH, eL]; exact hG
  suffices hW : W p l e (tRm 1 21) s m ([.ref h0] : List Value).toArray below meth c H locs 0 0 (MQ below (tQp (fun r => True)) ([.ref h0] : List Value).toArray s 0 0 tNo) (F0 m 0 ls []) by subst eH; subst eL; exact hW
  have J4 : ∀ (n4 : Nat) (ls : Array Slot) (v1 : Int32) (v2 : Int32), lv_has ls 3 [(0, .ref h0), (1, .int v1), (2, .int v2)] → 0 ≤ v2.toInt → v2.toInt ≤ 24 → (24 - v2.toInt).toNat < n4 → W p l e (tRm 1 21) s m ([.ref h0] : List Value).toArray below meth c H locs 0 0 (MQ below (tQp (fun r => True)) ([.ref h0] : List Value).toArray s 0 0 tNo) (F0 m 4 ls []) := by
    intro n4
    induction n4 with
    | zero => intro ls v1 v2 hl b2 c2 hn4; exact absurd hn4 (Nat.not_lt_zero _)
    | succ n4 ih4 =>
      intro ls v1 v2 hl b2 c2 hn4
      have J41 : ∀ (ls : Array Slot) (v1 : Int32) (v2 : Int32), lv_has ls 3 [(0, .ref h0), (1, .int v1), (2, .int v2)] → 0 ≤ v2.toInt → v2.toInt ≤ 23 → (24 - v2.toInt).toNat < n4 + 1 → W p l e (tRm 1 21) s m ([.ref h0] : List Value).toArray below meth c H locs 0 0 (MQ below (tQp (fun r => True)) ([.ref h0] : List Value).toArray s 0 0 tNo) (F0 m 41 ls []) := by
        intro ls v1 v2 hl b2 c2 hm4
        obtain ⟨z1, ez1⟩ : ∃ y : Int32, y = v2 + (1) := ⟨_, rfl⟩
        refine lv_iinc (v := z1) (lv' := [(2, .int z1), (0, .ref h0), (1, .int v1)]) hx hb dX8_overBits_41 hl (k := 2) rfl (by rw [ez1]; rfl) (by decide) rfl (fun ls hl => ?_)
        have tz1 := tn_add ez1 rfl kI_1 (by omega) (by omega)
        refine lv_goto (tgt := 4) hx hb dX8_overBits_44 (by decide) ?_
        exact ih4 ls v1 z1 (lv_sub hl [1, 2, 0] rfl) (by omega) (by omega) (by omega)
      refine lv_iload_n hx hb dX8_overBits_4 rfl (lv_at hl 2 rfl) ?_
      refine lv_aload_n hx hb dX8_overBits_5 rfl (lv_at hl 0 rfl) ?_
      refine tc_geti E hG t0 fi_X8_70 dX8_overBits_6 (fun z2 lz2 uz2 => ?_)
      refine lv_icmp_ge (tgt := 47) hx hb dX8_overBits_9 (by decide) (fun c3 => ?_) (fun c3 => ?_)
      · skip
        have ic3 := tn_le rfl rfl c3
        refine lv_iload_n hx hb dX8_overBits_47 rfl (lv_at hl 1 rfl) ?_
        exact tc_pret E hr hlk eH eL rfl trivial dX8_overBits_48
      · skip
        have ic3 := tn_nle rfl rfl c3
        refine lv_aload_n hx hb dX8_overBits_12 rfl (lv_at hl 0 rfl) ?_
        refine lv_iload_n hx hb dX8_overBits_13 rfl (lv_at hl 2 rfl) ?_
        refine tc_callp (tc_runV (As := [.int v2]) (rest := []) E hSt hG (c_X8_has l G τ h0 v2 t0) t0 rv_2 kv_X8_has ml_X8_55 ⟨rfl, rfl, Nat.le_of_ble_eq_true rfl, Nat.le_of_ble_eq_true rfl⟩ rfl hl.1 rfl (Nat.le_of_ble_eq_true rfl) ⟨Nat.zero_le _, Nat.zero_le _⟩ dX8_overBits_14) (fun r4 pr4 => ?_)
        have pr4 : (0 ≤ r4.toInt ∧ r4.toInt ≤ 1) ∧ (r4.toInt = 0 ∨ (0 ≤ v2.toInt ∧ v2.toInt ≤ 23)) := pr4
        refine lv_if_eq (tgt := 41) hx hb dX8_overBits_17 (by decide) (fun c5 => ?_) (fun c5 => ?_)
        · skip
          have ic5 := tn_eq rfl kI_0 c5
          exact J41 ls v1 v2 (lv_sub hl [0, 1, 2] rfl) (by omega) (by omega) (by omega)
        · skip
          have ic5 := tn_ne rfl kI_0 c5
          refine lv_aload_n hx hb dX8_overBits_20 rfl (lv_at hl 0 rfl) ?_
          refine tc_getr E hG t0 fr_X8_11 dX8_overBits_21 (fun oa6 hoa6 => ?_)
          refine lv_iload_n hx hb dX8_overBits_24 rfl (lv_at hl 2 rfl) ?_
          refine tc_aald3 E hG hoa6 ta_10 (t_in (by omega) (by omega)) dX8_overBits_25 (fun oa7 hoa7 => ?_)
          refine tc_getr E hG hoa7 fr_X8_132 dX8_overBits_26 (fun oa8 hoa8 => ?_)
          refine tc_geti E hG hoa8 fi_X8_149 dX8_overBits_29 (fun z9 _ _ => ?_)
          refine lv_if_le (tgt := 41) hx hb dX8_overBits_32 (by decide) (fun c10 => ?_) (fun c10 => ?_)
          · skip
            have ic10 := tn_le rfl kI_0 c10
            exact J41 ls v1 v2 (lv_sub hl [0, 1, 2] rfl) (by omega) (by omega) (by omega)
          · skip
            have ic10 := tn_nle rfl kI_0 c10
            refine lv_iload_n hx hb dX8_overBits_35 rfl (lv_at hl 1 rfl) ?_
            refine lv_iconst (v := 1) hx hb dX8_overBits_36 (by decide) ?_
            refine lv_iload_n hx hb dX8_overBits_37 rfl (lv_at hl 2 rfl) ?_
            refine lv_ishl hx hb dX8_overBits_38 ?_
            refine lv_topi (fun z11 ez11 => ?_)
            refine lv_ior hx hb dX8_overBits_39 ?_
            refine lv_topi (fun z12 ez12 => ?_)
            refine lv_istore_n (lv' := [(1, .int z12), (0, .ref h0), (2, .int v2)]) hx hb dX8_overBits_40 rfl hl (by decide) rfl (fun ls hl => ?_)
            exact J41 ls z12 v2 (lv_sub hl [1, 0, 2] rfl) (by omega) (by omega) (by omega)
  refine lv_iconst (v := 0) hx hb dX8_overBits_0 (by decide) ?_
  refine lv_istore_n (lv' := [(1, .int 0), (0, .ref h0)]) hx hb dX8_overBits_1 rfl hl (by decide) rfl (fun ls hl => ?_)
  refine lv_iconst (v := 0) hx hb dX8_overBits_2 (by decide) ?_
  refine lv_istore_n (lv' := [(2, .int 0), (1, .int 0), (0, .ref h0)]) hx hb dX8_overBits_3 rfl hl (by decide) rfl (fun ls hl => ?_)
  exact J4 ((24 - (0 : Int32).toInt).toNat + 1) ls (0 : Int32) (0 : Int32) (lv_sub hl [2, 1, 0] rfl) (by decide) (by decide) (Nat.lt_succ_self _)

set_option maxHeartbeats 4000000 in
set_option maxRecDepth 100000 in
theorem c_X8_mark_c (l : Launch) (G : tG) (τ : Nat → Nat) (h0 : Nat) (x1 : Int32) (t0 : τ h0 = 26) : Met l yX8_mark (.code yX8_mark cX8_mark 7 none :: tWS) (tRm 1 21) (va_Pc [.ref h0, .int x1] (tPre G τ)) (tQv G τ) 0 0 (tA τ) := by
  refine tc_met (by decide) (Nat.le_of_ble_eq_true rfl) ?_
  intro p e s m below meth c E hSt hr hlk hG ls hl
  have hl : lv_has ls 7 [(0, .ref h0), (1, .int x1)] := hl
  have hx := E.1
  have hb := E.2.1
  obtain ⟨H, eH⟩ : ∃ H, H = s.heap := ⟨_, rfl⟩
  obtain ⟨locs, eL⟩ : ∃ x : List Loc, x = [] := ⟨_, rfl⟩
  have hG : tGH G τ s H locs := by rw [eH, eL]; exact hG
  suffices hW : W p l e (tRm 1 21) s m ([.ref h0, .int x1] : List Value).toArray below meth c H locs 0 0 (MQ below (tQv G τ) ([.ref h0, .int x1] : List Value).toArray s 0 0 (tA τ)) (F0 m 0 ls []) by subst eH; subst eL; exact hW
  clear eH eL
  have J4 : ∀ (n4 : Nat) (H : Heap) (locs : List Loc) (ls : Array Slot) (v2 : Int32) (v3 : Int32), tGH G τ s H locs → lv_has ls 7 [(0, .ref h0), (2, .int v2), (3, .int v3)] → 0 ≤ v3.toInt → v3.toInt ≤ 24 → (24 - v3.toInt).toNat < n4 → W p l e (tRm 1 21) s m ([.ref h0, .int x1] : List Value).toArray below meth c H locs 0 0 (MQ below (tQv G τ) ([.ref h0, .int x1] : List Value).toArray s 0 0 (tA τ)) (F0 m 4 ls []) := by
    intro n4
    induction n4 with
    | zero => intro H locs ls v2 v3 hG hl b3 c3 hn4; exact absurd hn4 (Nat.not_lt_zero _)
    | succ n4 ih4 =>
      intro H locs ls v2 v3 hG hl b3 c3 hn4
      have J73 : ∀ (H : Heap) (locs : List Loc) (ls : Array Slot) (v3 : Int32) (a4 : Nat) (v5 : Int32) (vs0 : Int32), tGH G τ s H locs → lv_has ls 7 [(0, .ref h0), (3, .int v3), (4, .ref a4), (5, .int v5)] → 0 ≤ v3.toInt → v3.toInt ≤ 23 → τ a4 = 31 → 0 ≤ vs0.toInt → vs0.toInt ≤ 1 → (24 - v3.toInt).toNat < n4 + 1 → W p l e (tRm 1 21) s m ([.ref h0, .int x1] : List Value).toArray below meth c H locs 0 0 (MQ below (tQv G τ) ([.ref h0, .int x1] : List Value).toArray s 0 0 (tA τ)) (F0 m 73 ls [.int vs0]) := by
        intro H locs ls v3 a4 v5 vs0 hG hl b3 c3 e4 bs0 cs0 hm4
        refine lv_istore (lv' := [(6, .int vs0), (0, .ref h0), (3, .int v3), (4, .ref a4), (5, .int v5)]) hx hb dX8_mark_73 hl (by decide) rfl (fun ls hl => ?_)
        refine lv_aload_n hx hb dX8_mark_75 rfl (lv_at hl 1 rfl) ?_
        refine lv_dup hx hb dX8_mark_76 rfl ?_
        refine tc_geti E hG t0 fic_X8_43 dX8_mark_77 (fun z1 _ _ => ?_)
        refine lv_iload hx hb dX8_mark_80 (lv_at hl 4 rfl) ?_
        refine lv_ior hx hb dX8_mark_82 ?_
        refine lv_topi (fun z2 ez2 => ?_)
        refine tc_puti E hG t0 fpc_X8_43 (t_any1 _) (t_any2 _) dX8_mark_83 (fun H locs hG => ?_)
        refine lv_aload hx hb dX8_mark_86 (lv_at hl 3 rfl) ?_
        refine lv_iconst (v := 0) hx hb dX8_mark_88 (by decide) ?_
        refine tc_puti E hG e4 fpk_X8_142 (t_any1 _) (t_any2 _) dX8_mark_89 (fun H locs hG => ?_)
        refine lv_iload hx hb dX8_mark_92 (lv_at hl 0 rfl) ?_
        refine lv_if_eq (tgt := 109) hx hb dX8_mark_94 (by decide) (fun c3 => ?_) (fun c3 => ?_)
        · skip
          have ic3 := tn_eq rfl kI_0 c3
          refine lv_aload hx hb dX8_mark_109 (lv_at hl 3 rfl) ?_
          refine tc_geti E hG e4 fik_X8_102 dX8_mark_111 (fun z4 _ _ => ?_)
          refine lv_istore_n (lv' := [(2, .int z4), (6, .int vs0), (0, .ref h0), (3, .int v3), (4, .ref a4), (5, .int v5)]) hx hb dX8_mark_114 rfl hl (by decide) rfl (fun ls hl => ?_)
          obtain ⟨z5, ez5⟩ : ∃ y : Int32, y = v3 + (1) := ⟨_, rfl⟩
          refine lv_iinc (v := z5) (lv' := [(3, .int z5), (2, .int z4), (6, .int vs0), (0, .ref h0), (4, .ref a4), (5, .int v5)]) hx hb dX8_mark_115 hl (k := 3) rfl (by rw [ez5]; rfl) (by decide) rfl (fun ls hl => ?_)
          have tz5 := tn_add ez5 rfl kI_1 (by omega) (by omega)
          refine lv_goto (tgt := 4) hx hb dX8_mark_118 (by decide) ?_
          exact ih4 H locs ls z4 z5 hG (lv_sub hl [3, 1, 0] rfl) (by omega) (by omega) (by omega)
        · skip
          have ic3 := tn_ne rfl kI_0 c3
          refine lv_aload_n hx hb dX8_mark_97 rfl (lv_at hl 1 rfl) ?_
          refine lv_dup hx hb dX8_mark_98 rfl ?_
          refine tc_geti E hG t0 fic_X8_122 dX8_mark_99 (fun z6 _ _ => ?_)
          refine lv_iload hx hb dX8_mark_102 (lv_at hl 4 rfl) ?_
          refine lv_ior hx hb dX8_mark_104 ?_
          refine lv_topi (fun z7 ez7 => ?_)
          refine tc_puti E hG t0 fpc_X8_122 (t_any1 _) (t_any2 _) dX8_mark_105 (fun H locs hG => ?_)
          exact tc_vret E hr hlk hG dX8_mark_108
      have J68 : ∀ (H : Heap) (locs : List Loc) (ls : Array Slot) (v3 : Int32) (a4 : Nat) (v5 : Int32), tGH G τ s H locs → lv_has ls 7 [(0, .ref h0), (3, .int v3), (4, .ref a4), (5, .int v5)] → 0 ≤ v3.toInt → v3.toInt ≤ 23 → τ a4 = 31 → (24 - v3.toInt).toNat < n4 + 1 → W p l e (tRm 1 21) s m ([.ref h0, .int x1] : List Value).toArray below meth c H locs 0 0 (MQ below (tQv G τ) ([.ref h0, .int x1] : List Value).toArray s 0 0 (tA τ)) (F0 m 68 ls []) := by
        intro H locs ls v3 a4 v5 hG hl b3 c3 e4 hm4
        refine lv_iconst (v := 1) hx hb dX8_mark_68 (by decide) ?_
        refine lv_goto (tgt := 73) hx hb dX8_mark_69 (by decide) ?_
        exact J73 H locs ls v3 (a4) v5 (1 : Int32) hG (lv_sub hl [0, 1, 2, 3] rfl) (by omega) (by omega) e4 (by decide) (by decide) (by omega)
      have J72 : ∀ (H : Heap) (locs : List Loc) (ls : Array Slot) (v3 : Int32) (a4 : Nat) (v5 : Int32), tGH G τ s H locs → lv_has ls 7 [(0, .ref h0), (3, .int v3), (4, .ref a4), (5, .int v5)] → 0 ≤ v3.toInt → v3.toInt ≤ 23 → τ a4 = 31 → (24 - v3.toInt).toNat < n4 + 1 → W p l e (tRm 1 21) s m ([.ref h0, .int x1] : List Value).toArray below meth c H locs 0 0 (MQ below (tQv G τ) ([.ref h0, .int x1] : List Value).toArray s 0 0 (tA τ)) (F0 m 72 ls []) := by
        intro H locs ls v3 a4 v5 hG hl b3 c3 e4 hm4
        refine lv_iconst (v := 0) hx hb dX8_mark_72 (by decide) ?_
        exact J73 H locs ls v3 (a4) v5 (0 : Int32) hG (lv_sub hl [0, 1, 2, 3] rfl) (by omega) (by omega) e4 (by decide) (by decide) (by omega)
      refine lv_iload_n hx hb dX8_mark_4 rfl (lv_at hl 2 rfl) ?_
      refine lv_bipush (v := 24) hx hb dX8_mark_5 (by decide) ?_
      refine lv_icmp_ge (tgt := 121) hx hb dX8_mark_7 (by decide) (fun c8 => ?_) (fun c8 => ?_)
      · skip
        have ic8 := tn_le kI_24 rfl c8
        exact tc_vret E hr hlk hG dX8_mark_121
      · skip
        have ic8 := tn_nle kI_24 rfl c8
        refine lv_aload_n hx hb dX8_mark_10 rfl (lv_at hl 0 rfl) ?_
        refine lv_iload_n hx hb dX8_mark_11 rfl (lv_at hl 1 rfl) ?_
        refine tc_callp (tc_runV (As := [.int v2]) (rest := []) E hSt hG (c_X8_has_c l G τ h0 v2 t0) t0 rv_26 kv_X8_has ml_X8_55 ⟨rfl, rfl, Nat.le_of_ble_eq_true rfl, Nat.le_of_ble_eq_true rfl⟩ rfl hl.1 rfl (Nat.le_of_ble_eq_true rfl) ⟨Nat.zero_le _, Nat.zero_le _⟩ dX8_mark_12) (fun r9 pr9 => ?_)
        have pr9 : (0 ≤ r9.toInt ∧ r9.toInt ≤ 1) ∧ (r9.toInt = 0 ∨ (0 ≤ v2.toInt ∧ v2.toInt ≤ 23)) := pr9
        refine lv_if_eq (tgt := 121) hx hb dX8_mark_15 (by decide) (fun c10 => ?_) (fun c10 => ?_)
        · skip
          have ic10 := tn_eq rfl kI_0 c10
          exact tc_vret E hr hlk hG dX8_mark_121
        · skip
          have ic10 := tn_ne rfl kI_0 c10
          refine lv_aload_n hx hb dX8_mark_18 rfl (lv_at hl 0 rfl) ?_
          refine tc_getr E hG t0 frc_X8_11 dX8_mark_19 (fun oa11 hoa11 => ?_)
          refine lv_iload_n hx hb dX8_mark_22 rfl (lv_at hl 1 rfl) ?_
          refine tc_aald3 E hG hoa11 ta_34 (t_in (by omega) (by omega)) dX8_mark_23 (fun oa12 hoa12 => ?_)
          refine lv_astore (lv' := [(4, .ref oa12), (0, .ref h0), (2, .int v2), (3, .int v3)]) hx hb dX8_mark_24 hl (by decide) rfl (fun ls hl => ?_)
          refine lv_iconst (v := 1) hx hb dX8_mark_26 (by decide) ?_
          refine lv_iload_n hx hb dX8_mark_27 rfl (lv_at hl 2 rfl) ?_
          refine lv_ishl hx hb dX8_mark_28 ?_
          refine lv_topi (fun z13 ez13 => ?_)
          refine lv_istore (lv' := [(5, .int z13), (4, .ref oa12), (0, .ref h0), (2, .int v2), (3, .int v3)]) hx hb dX8_mark_29 hl (by decide) rfl (fun ls hl => ?_)
          refine lv_iload_n hx hb dX8_mark_31 rfl (lv_at hl 3 rfl) ?_
          refine lv_aload_n hx hb dX8_mark_32 rfl (lv_at hl 2 rfl) ?_
          refine tc_geti E hG t0 fic_X8_24 dX8_mark_33 (fun z14 _ _ => ?_)
          refine lv_icmp_eq (tgt := 68) hx hb dX8_mark_36 (by decide) (fun c15 => ?_) (fun c15 => ?_)
          · skip
            have ic15 := tn_eq rfl rfl c15
            exact J68 H locs ls v3 (oa12) z13 hG (lv_sub hl [2, 4, 1, 0] rfl) (by omega) (by omega) hoa12 (by omega)
          · skip
            have ic15 := tn_ne rfl rfl c15
            refine lv_aload hx hb dX8_mark_39 (lv_at hl 1 rfl) ?_
            refine tc_getr E hG hoa12 frk_X8_132 dX8_mark_41 (fun oa16 hoa16 => ?_)
            refine tc_callp (tc_runV (As := []) (rest := []) E hSt hG (c_X2_wasJust l G τ oa16 hoa16) hoa16 rv_4 kv_X2_wasJust ml_X8_136 ⟨rfl, rfl, Nat.le_of_ble_eq_true rfl, Nat.le_of_ble_eq_true rfl⟩ rfl hl.1 rfl (Nat.le_of_ble_eq_true rfl) ⟨Nat.zero_le _, Nat.zero_le _⟩ dX8_mark_44) (fun r17 pr17 => ?_)
            have pr17 : 0 ≤ r17.toInt ∧ r17.toInt ≤ 1 := pr17
            refine lv_if_eq (tgt := 72) hx hb dX8_mark_47 (by decide) (fun c18 => ?_) (fun c18 => ?_)
            · skip
              have ic18 := tn_eq rfl kI_0 c18
              exact J72 H locs ls v3 (oa12) z13 hG (lv_sub hl [2, 4, 1, 0] rfl) (by omega) (by omega) hoa12 (by omega)
            · skip
              have ic18 := tn_ne rfl kI_0 c18
              refine lv_aload hx hb dX8_mark_50 (lv_at hl 1 rfl) ?_
              refine tc_geti E hG hoa12 fik_X8_142 dX8_mark_52 (fun z19 _ _ => ?_)
              refine lv_if_ne (tgt := 72) hx hb dX8_mark_55 (by decide) (fun c20 => ?_) (fun c20 => ?_)
              · skip
                have ic20 := tn_ne rfl kI_0 c20
                exact J72 H locs ls v3 (oa12) z13 hG (lv_sub hl [2, 4, 1, 0] rfl) (by omega) (by omega) hoa12 (by omega)
              · skip
                have ic20 := tn_eq rfl kI_0 c20
                refine lv_aload_n hx hb dX8_mark_58 rfl (lv_at hl 2 rfl) ?_
                refine tc_geti E hG t0 fic_X8_125 dX8_mark_59 (fun z21 _ _ => ?_)
                refine lv_iload hx hb dX8_mark_62 (lv_at hl 0 rfl) ?_
                refine lv_iand hx hb dX8_mark_64 ?_
                refine lv_topi (fun z22 ez22 => ?_)
                refine lv_if_ne (tgt := 72) hx hb dX8_mark_65 (by decide) (fun c23 => ?_) (fun c23 => ?_)
                · skip
                  have ic23 := tn_ne rfl kI_0 c23
                  exact J72 H locs ls v3 (oa12) z13 hG (lv_sub hl [2, 4, 1, 0] rfl) (by omega) (by omega) hoa12 (by omega)
                · skip
                  have ic23 := tn_eq rfl kI_0 c23
                  exact J68 H locs ls v3 (oa12) z13 hG (lv_sub hl [2, 4, 1, 0] rfl) (by omega) (by omega) hoa12 (by omega)
  refine lv_iload_n hx hb dX8_mark_0 rfl (lv_at hl 1 rfl) ?_
  refine lv_istore_n (lv' := [(2, .int x1), (0, .ref h0), (1, .int x1)]) hx hb dX8_mark_1 rfl hl (by decide) rfl (fun ls hl => ?_)
  refine lv_iconst (v := 0) hx hb dX8_mark_2 (by decide) ?_
  refine lv_istore_n (lv' := [(3, .int 0), (2, .int x1), (0, .ref h0), (1, .int x1)]) hx hb dX8_mark_3 rfl hl (by decide) rfl (fun ls hl => ?_)
  exact J4 ((24 - (0 : Int32).toInt).toNat + 1) H locs ls x1 (0 : Int32) hG (lv_sub hl [2, 1, 0] rfl) (by decide) (by decide) (Nat.lt_succ_self _)

set_option maxHeartbeats 4000000 in
set_option maxRecDepth 100000 in
theorem c_X8_tellScreen_c (l : Launch) (G : tG) (τ : Nat → Nat) (h0 : Nat) (x1 : Int32) (x2 : Int32) (t0 : τ h0 = 26) : Met l yX8_tellScreen (.code yX8_tellScreen cX8_tellScreen 3 none :: tWS) (tRm 1 21) (va_Pc [.ref h0, .int x1, .int x2] (tPre G τ)) (tQv G τ) 0 0 (tA τ) := by
  refine tc_met (by decide) (Nat.le_of_ble_eq_true rfl) ?_
  intro p e s m below meth c E hSt hr hlk hG ls hl
  have hl : lv_has ls 3 [(0, .ref h0), (1, .int x1), (2, .int x2)] := hl
  have hx := E.1
  have hb := E.2.1
  obtain ⟨H, eH⟩ : ∃ H, H = s.heap := ⟨_, rfl⟩
  obtain ⟨locs, eL⟩ : ∃ x : List Loc, x = [] := ⟨_, rfl⟩
  have hG : tGH G τ s H locs := by rw [eH, eL]; exact hG
  suffices hW : W p l e (tRm 1 21) s m ([.ref h0, .int x1, .int x2] : List Value).toArray below meth c H locs 0 0 (MQ below (tQv G τ) ([.ref h0, .int x1, .int x2] : List Value).toArray s 0 0 (tA τ)) (F0 m 0 ls []) by subst eH; subst eL; exact hW
  clear eH eL
  refine lv_aload_n hx hb dX8_tellScreen_0 rfl (lv_at hl 0 rfl) ?_
  refine lv_iload_n hx hb dX8_tellScreen_1 rfl (lv_at hl 1 rfl) ?_
  refine tc_puti E hG t0 fpc_X8_28 (t_any1 _) (t_any2 _) dX8_tellScreen_2 (fun H locs hG => ?_)
  refine lv_aload_n hx hb dX8_tellScreen_5 rfl (lv_at hl 0 rfl) ?_
  refine lv_iload_n hx hb dX8_tellScreen_6 rfl (lv_at hl 2 rfl) ?_
  refine tc_puti E hG t0 fpc_X8_31 (t_any1 _) (t_any2 _) dX8_tellScreen_7 (fun H locs hG => ?_)
  refine lv_aload_n hx hb dX8_tellScreen_10 rfl (lv_at hl 0 rfl) ?_
  refine lv_aload_n hx hb dX8_tellScreen_11 rfl (lv_at hl 0 rfl) ?_
  refine tc_geti E hG t0 fic_X8_24 dX8_tellScreen_12 (fun z1 _ _ => ?_)
  refine tc_callp (tc_runV (As := [.int z1]) (rest := []) E hSt hG (c_X8_has_c l G τ h0 z1 t0) t0 rv_26 kv_X8_has ml_X8_55 ⟨rfl, rfl, Nat.le_of_ble_eq_true rfl, Nat.le_of_ble_eq_true rfl⟩ rfl hl.1 rfl (Nat.le_of_ble_eq_true rfl) ⟨Nat.zero_le _, Nat.zero_le _⟩ dX8_tellScreen_15) (fun r2 pr2 => ?_)
  have pr2 : (0 ≤ r2.toInt ∧ r2.toInt ≤ 1) ∧ (r2.toInt = 0 ∨ (0 ≤ z1.toInt ∧ z1.toInt ≤ 23)) := pr2
  refine lv_if_eq (tgt := 51) hx hb dX8_tellScreen_18 (by decide) (fun c3 => ?_) (fun c3 => ?_)
  · skip
    have ic3 := tn_eq rfl kI_0 c3
    exact tc_vret E hr hlk hG dX8_tellScreen_51
  · skip
    have ic3 := tn_ne rfl kI_0 c3
    refine lv_aload_n hx hb dX8_tellScreen_21 rfl (lv_at hl 0 rfl) ?_
    refine lv_dup hx hb dX8_tellScreen_22 rfl ?_
    refine tc_geti E hG t0 fic_X8_43 dX8_tellScreen_23 (fun z4 _ _ => ?_)
    refine lv_iconst (v := 1) hx hb dX8_tellScreen_26 (by decide) ?_
    refine lv_aload_n hx hb dX8_tellScreen_27 rfl (lv_at hl 0 rfl) ?_
    refine tc_geti E hG t0 fic_X8_24 dX8_tellScreen_28 (fun z5 _ _ => ?_)
    refine lv_ishl hx hb dX8_tellScreen_31 ?_
    refine lv_topi (fun z6 ez6 => ?_)
    refine lv_ior hx hb dX8_tellScreen_32 ?_
    refine lv_topi (fun z7 ez7 => ?_)
    refine tc_puti E hG t0 fpc_X8_43 (t_any1 _) (t_any2 _) dX8_tellScreen_33 (fun H locs hG => ?_)
    refine lv_aload_n hx hb dX8_tellScreen_36 rfl (lv_at hl 0 rfl) ?_
    refine lv_dup hx hb dX8_tellScreen_37 rfl ?_
    refine tc_geti E hG t0 fic_X8_122 dX8_tellScreen_38 (fun z8 _ _ => ?_)
    refine lv_iconst (v := 1) hx hb dX8_tellScreen_41 (by decide) ?_
    refine lv_aload_n hx hb dX8_tellScreen_42 rfl (lv_at hl 0 rfl) ?_
    refine tc_geti E hG t0 fic_X8_24 dX8_tellScreen_43 (fun z9 _ _ => ?_)
    refine lv_ishl hx hb dX8_tellScreen_46 ?_
    refine lv_topi (fun z10 ez10 => ?_)
    refine lv_ior hx hb dX8_tellScreen_47 ?_
    refine lv_topi (fun z11 ez11 => ?_)
    refine tc_puti E hG t0 fpc_X8_122 (t_any1 _) (t_any2 _) dX8_tellScreen_48 (fun H locs hG => ?_)
    exact tc_vret E hr hlk hG dX8_tellScreen_51

set_option maxHeartbeats 4000000 in
set_option maxRecDepth 100000 in
theorem c_X8_tell_c (l : Launch) (G : tG) (τ : Nat → Nat) (h0 : Nat) (x1 : Int32) (x2 : Int32) (x3 : Int32) (t0 : τ h0 = 26) (l1 : 0 ≤ x1.toInt) (u1 : x1.toInt ≤ 23) (l2 : 0 ≤ x2.toInt) (u2 : x2.toInt ≤ 6) : Met l yX8_tell (.code yX8_tell cX8_tell 6 (some .int) :: tWS) (tRm 2 47) (va_Pc [.ref h0, .int x1, .int x2, .int x3] (tPre G τ)) (tQi G τ (fun r => True)) 0 0 (tA τ) := by
  refine tc_met (by decide) (Nat.le_of_ble_eq_true rfl) ?_
  intro p e s m below meth c E hSt hr hlk hG ls hl
  have hl : lv_has ls 6 [(0, .ref h0), (1, .int x1), (2, .int x2), (3, .int x3)] := hl
  have hx := E.1
  have hb := E.2.1
  obtain ⟨H, eH⟩ : ∃ H, H = s.heap := ⟨_, rfl⟩
  obtain ⟨locs, eL⟩ : ∃ x : List Loc, x = [] := ⟨_, rfl⟩
  have hG : tGH G τ s H locs := by rw [eH, eL]; exact hG
  suffices hW : W p l e (tRm 2 47) s m ([.ref h0, .int x1, .int x2, .int x3] : List Value).toArray below meth c H locs 0 0 (MQ below (tQi G τ (fun r => True)) ([.ref h0, .int x1, .int x2, .int x3] : List Value).toArray s 0 0 (tA τ)) (F0 m 0 ls []) by subst eH; subst eL; exact hW
  clear eH eL
  have J101 : ∀ (H : Heap) (locs : List Loc) (ls : Array Slot) (a4 : Nat) (v5 : Int32), tGH G τ s H locs → lv_has ls 6 [(0, .ref h0), (1, .int x1), (2, .int x2), (4, .ref a4), (5, .int v5)] → τ a4 = 31 → W p l e (tRm 2 47) s m ([.ref h0, .int x1, .int x2, .int x3] : List Value).toArray below meth c H locs 0 0 (MQ below (tQi G τ (fun r => True)) ([.ref h0, .int x1, .int x2, .int x3] : List Value).toArray s 0 0 (tA τ)) (F0 m 101 ls []) := by
    intro H locs ls a4 v5 hG hl e4
    refine lv_aload_n hx hb dX8_tell_101 rfl (lv_at hl 0 rfl) ?_
    refine lv_iload_n hx hb dX8_tell_102 rfl (lv_at hl 2 rfl) ?_
    refine lv_iconst (v := 4) hx hb dX8_tell_103 (by decide) ?_
    refine lv_icmp_ge (tgt := 111) hx hb dX8_tell_104 (by decide) (fun c1 => ?_) (fun c1 => ?_)
    · skip
      have ic1 := tn_le kI_4 rfl c1
      refine lv_aload hx hb dX8_tell_111 (lv_at hl 3 rfl) ?_
      refine tc_geti E hG e4 fik_X8_102 dX8_tell_113 (fun z2 _ _ => ?_)
      refine tc_callv hG (tc_runV (As := [.int z2]) (rest := []) E hSt hG (c_X8_mark_c l G τ h0 z2 t0) t0 rv_26 kv_X8_mark ml_X8_87 ⟨rfl, rfl, Nat.le_of_ble_eq_true rfl, Nat.le_of_ble_eq_true rfl⟩ rfl hl.1 rfl (Nat.le_of_ble_eq_true rfl) ⟨Nat.zero_le _, Nat.zero_le _⟩ dX8_tell_116) (fun H locs hG => ?_)
      refine lv_iload hx hb dX8_tell_119 (lv_at hl 4 rfl) ?_
      exact tc_iret E hr hlk hG trivial dX8_tell_121
    · skip
      have ic1 := tn_nle kI_4 rfl c1
      refine lv_iload_n hx hb dX8_tell_107 rfl (lv_at hl 1 rfl) ?_
      refine lv_goto (tgt := 116) hx hb dX8_tell_108 (by decide) ?_
      refine tc_callv hG (tc_runV (As := [.int x1]) (rest := []) E hSt hG (c_X8_mark_c l G τ h0 x1 t0) t0 rv_26 kv_X8_mark ml_X8_87 ⟨rfl, rfl, Nat.le_of_ble_eq_true rfl, Nat.le_of_ble_eq_true rfl⟩ rfl hl.1 rfl (Nat.le_of_ble_eq_true rfl) ⟨Nat.zero_le _, Nat.zero_le _⟩ dX8_tell_116) (fun H locs hG => ?_)
      refine lv_iload hx hb dX8_tell_119 (lv_at hl 4 rfl) ?_
      exact tc_iret E hr hlk hG trivial dX8_tell_121
  refine lv_aload_n hx hb dX8_tell_0 rfl (lv_at hl 0 rfl) ?_
  refine tc_getr E hG t0 frc_X8_11 dX8_tell_1 (fun oa5 hoa5 => ?_)
  refine lv_iload_n hx hb dX8_tell_4 rfl (lv_at hl 1 rfl) ?_
  refine tc_aald3 E hG hoa5 ta_34 (t_in (by omega) (by omega)) dX8_tell_5 (fun oa6 hoa6 => ?_)
  refine lv_astore (lv' := [(4, .ref oa6), (0, .ref h0), (1, .int x1), (2, .int x2), (3, .int x3)]) hx hb dX8_tell_6 hl (by decide) rfl (fun ls hl => ?_)
  refine lv_iload_n hx hb dX8_tell_8 rfl (lv_at hl 3 rfl) ?_
  rcases (show (x2.toInt < 4 ∨ 6 < x2.toInt) ∨ x2.toInt = 4 ∨ x2.toInt = 5 ∨ x2.toInt = 6 by omega) with k7 | k7 | k7 | k7
  · refine lv_tableOut (tgt := 84) hx hb dX8_tell_9 k7 (by decide) ?_
    refine lv_aload hx hb dX8_tell_84 (lv_at hl 0 rfl) ?_
    refine tc_getr E hG hoa6 frk_X8_99 dX8_tell_86 (fun oa8 hoa8 => ?_)
    refine lv_iload_n hx hb dX8_tell_89 rfl (lv_at hl 3 rfl) ?_
    refine tc_iald E hG hoa8 ta_32 (t_in (by omega) (by omega)) dX8_tell_90 (fun z9 _ _ => ?_)
    refine lv_istore (lv' := [(5, .int z9), (4, .ref oa6), (0, .ref h0), (1, .int x1), (2, .int x2), (3, .int x3)]) hx hb dX8_tell_91 hl (by decide) rfl (fun ls hl => ?_)
    refine lv_aload hx hb dX8_tell_93 (lv_at hl 1 rfl) ?_
    refine tc_getr E hG hoa6 frk_X8_99 dX8_tell_95 (fun oa10 hoa10 => ?_)
    refine lv_iload_n hx hb dX8_tell_98 rfl (lv_at hl 4 rfl) ?_
    refine lv_iload_n hx hb dX8_tell_99 rfl (lv_at hl 5 rfl) ?_
    refine tc_iast E hG hoa10 ta_32 (t_in (by omega) (by omega)) (t_any1 _) (t_any2 _) dX8_tell_100 (fun H locs hG  => ?_)
    exact J101 H locs ls (oa6) z9 hG (lv_sub hl [2, 3, 4, 1, 0] rfl) hoa6
  · refine lv_tableIn (off := 27) (tgt := 36) hx hb dX8_tell_9 (by rw [k7]; decide) (by rw [k7]; decide) (by rw [k7]; rfl) (by decide) ?_
    refine lv_aload hx hb dX8_tell_36 (lv_at hl 0 rfl) ?_
    refine tc_geti E hG hoa6 fik_X8_90 dX8_tell_38 (fun z11 _ _ => ?_)
    refine lv_istore (lv' := [(5, .int z11), (4, .ref oa6), (0, .ref h0), (1, .int x1), (2, .int x2), (3, .int x3)]) hx hb dX8_tell_41 hl (by decide) rfl (fun ls hl => ?_)
    refine lv_aload hx hb dX8_tell_43 (lv_at hl 1 rfl) ?_
    refine lv_iload_n hx hb dX8_tell_45 rfl (lv_at hl 5 rfl) ?_
    refine tc_puti E hG hoa6 fpk_X8_90 (t_any1 _) (t_any2 _) dX8_tell_46 (fun H locs hG => ?_)
    refine lv_goto (tgt := 101) hx hb dX8_tell_49 (by decide) ?_
    exact J101 H locs ls (oa6) z11 hG (lv_sub hl [2, 3, 4, 1, 0] rfl) hoa6
  · refine lv_tableIn (off := 43) (tgt := 52) hx hb dX8_tell_9 (by rw [k7]; decide) (by rw [k7]; decide) (by rw [k7]; rfl) (by decide) ?_
    refine lv_aload hx hb dX8_tell_52 (lv_at hl 0 rfl) ?_
    refine tc_geti E hG hoa6 fik_X8_93 dX8_tell_54 (fun z12 _ _ => ?_)
    refine lv_istore (lv' := [(5, .int z12), (4, .ref oa6), (0, .ref h0), (1, .int x1), (2, .int x2), (3, .int x3)]) hx hb dX8_tell_57 hl (by decide) rfl (fun ls hl => ?_)
    refine lv_aload hx hb dX8_tell_59 (lv_at hl 1 rfl) ?_
    refine lv_iload_n hx hb dX8_tell_61 rfl (lv_at hl 5 rfl) ?_
    refine tc_puti E hG hoa6 fpk_X8_93 (t_any1 _) (t_any2 _) dX8_tell_62 (fun H locs hG => ?_)
    refine lv_goto (tgt := 101) hx hb dX8_tell_65 (by decide) ?_
    exact J101 H locs ls (oa6) z12 hG (lv_sub hl [2, 3, 4, 1, 0] rfl) hoa6
  · refine lv_tableIn (off := 59) (tgt := 68) hx hb dX8_tell_9 (by rw [k7]; decide) (by rw [k7]; decide) (by rw [k7]; rfl) (by decide) ?_
    refine lv_aload hx hb dX8_tell_68 (lv_at hl 0 rfl) ?_
    refine tc_geti E hG hoa6 fik_X8_96 dX8_tell_70 (fun z13 _ _ => ?_)
    refine lv_istore (lv' := [(5, .int z13), (4, .ref oa6), (0, .ref h0), (1, .int x1), (2, .int x2), (3, .int x3)]) hx hb dX8_tell_73 hl (by decide) rfl (fun ls hl => ?_)
    refine lv_aload hx hb dX8_tell_75 (lv_at hl 1 rfl) ?_
    refine lv_iload_n hx hb dX8_tell_77 rfl (lv_at hl 5 rfl) ?_
    refine tc_puti E hG hoa6 fpk_X8_96 (t_any1 _) (t_any2 _) dX8_tell_78 (fun H locs hG => ?_)
    refine lv_goto (tgt := 101) hx hb dX8_tell_81 (by decide) ?_
    exact J101 H locs ls (oa6) z13 hG (lv_sub hl [2, 3, 4, 1, 0] rfl) hoa6

set_option maxHeartbeats 4000000 in
set_option maxRecDepth 100000 in
theorem c_X8_overBits_c (l : Launch) (G : tG) (τ : Nat → Nat) (h0 : Nat) (t0 : τ h0 = 26) : Met l yX8_overBits (.code yX8_overBits cX8_overBits 3 (some .int) :: tWS) (tRm 1 21) (va_Pc [.ref h0] (tPre G τ)) (tQp (fun r => True)) 0 0 tNo := by
  refine tc_met (by decide) (Nat.le_of_ble_eq_true rfl) ?_
  intro p e s m below meth c E hSt hr hlk hG ls hl
  have hl : lv_has ls 3 [(0, .ref h0)] := hl
  have hx := E.1
  have hb := E.2.1
  obtain ⟨H, eH⟩ : ∃ H, H = s.heap := ⟨_, rfl⟩
  obtain ⟨locs, eL⟩ : ∃ x : List Loc, x = [] := ⟨_, rfl⟩
  have hG : tGH G τ s H locs := by rw [eH, eL]; exact hG
  suffices hW : W p l e (tRm 1 21) s m ([.ref h0] : List Value).toArray below meth c H locs 0 0 (MQ below (tQp (fun r => True)) ([.ref h0] : List Value).toArray s 0 0 tNo) (F0 m 0 ls []) by subst eH; subst eL; exact hW
  have J4 : ∀ (n4 : Nat) (ls : Array Slot) (v1 : Int32) (v2 : Int32), lv_has ls 3 [(0, .ref h0), (1, .int v1), (2, .int v2)] → 0 ≤ v2.toInt → v2.toInt ≤ 24 → (24 - v2.toInt).toNat < n4 → W p l e (tRm 1 21) s m ([.ref h0] : List Value).toArray below meth c H locs 0 0 (MQ below (tQp (fun r => True)) ([.ref h0] : List Value).toArray s 0 0 tNo) (F0 m 4 ls []) := by
    intro n4
    induction n4 with
    | zero => intro ls v1 v2 hl b2 c2 hn4; exact absurd hn4 (Nat.not_lt_zero _)
    | succ n4 ih4 =>
      intro ls v1 v2 hl b2 c2 hn4
      have J41 : ∀ (ls : Array Slot) (v1 : Int32) (v2 : Int32), lv_has ls 3 [(0, .ref h0), (1, .int v1), (2, .int v2)] → 0 ≤ v2.toInt → v2.toInt ≤ 23 → (24 - v2.toInt).toNat < n4 + 1 → W p l e (tRm 1 21) s m ([.ref h0] : List Value).toArray below meth c H locs 0 0 (MQ below (tQp (fun r => True)) ([.ref h0] : List Value).toArray s 0 0 tNo) (F0 m 41 ls []) := by
        intro ls v1 v2 hl b2 c2 hm4
        obtain ⟨z1, ez1⟩ : ∃ y : Int32, y = v2 + (1) := ⟨_, rfl⟩
        refine lv_iinc (v := z1) (lv' := [(2, .int z1), (0, .ref h0), (1, .int v1)]) hx hb dX8_overBits_41 hl (k := 2) rfl (by rw [ez1]; rfl) (by decide) rfl (fun ls hl => ?_)
        have tz1 := tn_add ez1 rfl kI_1 (by omega) (by omega)
        refine lv_goto (tgt := 4) hx hb dX8_overBits_44 (by decide) ?_
        exact ih4 ls v1 z1 (lv_sub hl [1, 2, 0] rfl) (by omega) (by omega) (by omega)
      refine lv_iload_n hx hb dX8_overBits_4 rfl (lv_at hl 2 rfl) ?_
      refine lv_aload_n hx hb dX8_overBits_5 rfl (lv_at hl 0 rfl) ?_
      refine tc_geti E hG t0 fic_X8_70 dX8_overBits_6 (fun z2 lz2 uz2 => ?_)
      refine lv_icmp_ge (tgt := 47) hx hb dX8_overBits_9 (by decide) (fun c3 => ?_) (fun c3 => ?_)
      · skip
        have ic3 := tn_le rfl rfl c3
        refine lv_iload_n hx hb dX8_overBits_47 rfl (lv_at hl 1 rfl) ?_
        exact tc_pret E hr hlk eH eL rfl trivial dX8_overBits_48
      · skip
        have ic3 := tn_nle rfl rfl c3
        refine lv_aload_n hx hb dX8_overBits_12 rfl (lv_at hl 0 rfl) ?_
        refine lv_iload_n hx hb dX8_overBits_13 rfl (lv_at hl 2 rfl) ?_
        refine tc_callp (tc_runV (As := [.int v2]) (rest := []) E hSt hG (c_X8_has_c l G τ h0 v2 t0) t0 rv_26 kv_X8_has ml_X8_55 ⟨rfl, rfl, Nat.le_of_ble_eq_true rfl, Nat.le_of_ble_eq_true rfl⟩ rfl hl.1 rfl (Nat.le_of_ble_eq_true rfl) ⟨Nat.zero_le _, Nat.zero_le _⟩ dX8_overBits_14) (fun r4 pr4 => ?_)
        have pr4 : (0 ≤ r4.toInt ∧ r4.toInt ≤ 1) ∧ (r4.toInt = 0 ∨ (0 ≤ v2.toInt ∧ v2.toInt ≤ 23)) := pr4
        refine lv_if_eq (tgt := 41) hx hb dX8_overBits_17 (by decide) (fun c5 => ?_) (fun c5 => ?_)
        · skip
          have ic5 := tn_eq rfl kI_0 c5
          exact J41 ls v1 v2 (lv_sub hl [0, 1, 2] rfl) (by omega) (by omega) (by omega)
        · skip
          have ic5 := tn_ne rfl kI_0 c5
          refine lv_aload_n hx hb dX8_overBits_20 rfl (lv_at hl 0 rfl) ?_
          refine tc_getr E hG t0 frc_X8_11 dX8_overBits_21 (fun oa6 hoa6 => ?_)
          refine lv_iload_n hx hb dX8_overBits_24 rfl (lv_at hl 2 rfl) ?_
          refine tc_aald3 E hG hoa6 ta_34 (t_in (by omega) (by omega)) dX8_overBits_25 (fun oa7 hoa7 => ?_)
          refine tc_getr E hG hoa7 frk_X8_132 dX8_overBits_26 (fun oa8 hoa8 => ?_)
          refine tc_geti E hG hoa8 fi_X8_149 dX8_overBits_29 (fun z9 _ _ => ?_)
          refine lv_if_le (tgt := 41) hx hb dX8_overBits_32 (by decide) (fun c10 => ?_) (fun c10 => ?_)
          · skip
            have ic10 := tn_le rfl kI_0 c10
            exact J41 ls v1 v2 (lv_sub hl [0, 1, 2] rfl) (by omega) (by omega) (by omega)
          · skip
            have ic10 := tn_nle rfl kI_0 c10
            refine lv_iload_n hx hb dX8_overBits_35 rfl (lv_at hl 1 rfl) ?_
            refine lv_iconst (v := 1) hx hb dX8_overBits_36 (by decide) ?_
            refine lv_iload_n hx hb dX8_overBits_37 rfl (lv_at hl 2 rfl) ?_
            refine lv_ishl hx hb dX8_overBits_38 ?_
            refine lv_topi (fun z11 ez11 => ?_)
            refine lv_ior hx hb dX8_overBits_39 ?_
            refine lv_topi (fun z12 ez12 => ?_)
            refine lv_istore_n (lv' := [(1, .int z12), (0, .ref h0), (2, .int v2)]) hx hb dX8_overBits_40 rfl hl (by decide) rfl (fun ls hl => ?_)
            exact J41 ls z12 v2 (lv_sub hl [1, 0, 2] rfl) (by omega) (by omega) (by omega)
  refine lv_iconst (v := 0) hx hb dX8_overBits_0 (by decide) ?_
  refine lv_istore_n (lv' := [(1, .int 0), (0, .ref h0)]) hx hb dX8_overBits_1 rfl hl (by decide) rfl (fun ls hl => ?_)
  refine lv_iconst (v := 0) hx hb dX8_overBits_2 (by decide) ?_
  refine lv_istore_n (lv' := [(2, .int 0), (1, .int 0), (0, .ref h0)]) hx hb dX8_overBits_3 rfl hl (by decide) rfl (fun ls hl => ?_)
  exact J4 ((24 - (0 : Int32).toInt).toNat + 1) ls (0 : Int32) (0 : Int32) (lv_sub hl [2, 1, 0] rfl) (by decide) (by decide) (Nat.lt_succ_self _)

set_option maxHeartbeats 4000000 in
set_option maxRecDepth 100000 in
theorem c_X8_markAllAnew (l : Launch) (G : tG) (τ : Nat → Nat) (h0 : Nat) (t0 : τ h0 = 26) : Met l yX8_markAllAnew (.code yX8_markAllAnew cX8_markAllAnew 2 none :: tWS) (tRm 1 21) (va_Pc [.ref h0] (tPre G τ)) (tQv G τ) 0 0 (tA τ) := by
  refine tc_met (by decide) (Nat.le_of_ble_eq_true rfl) ?_
  intro p e s m below meth c E hSt hr hlk hG ls hl
  have hl : lv_has ls 2 [(0, .ref h0)] := hl
  have hx := E.1
  have hb := E.2.1
  obtain ⟨H, eH⟩ : ∃ H, H = s.heap := ⟨_, rfl⟩
  obtain ⟨locs, eL⟩ : ∃ x : List Loc, x = [] := ⟨_, rfl⟩
  have hG : tGH G τ s H locs := by rw [eH, eL]; exact hG
  suffices hW : W p l e (tRm 1 21) s m ([.ref h0] : List Value).toArray below meth c H locs 0 0 (MQ below (tQv G τ) ([.ref h0] : List Value).toArray s 0 0 (tA τ)) (F0 m 0 ls []) by subst eH; subst eL; exact hW
  clear eH eL
  have J35 : ∀ (n35 : Nat) (H : Heap) (locs : List Loc) (ls : Array Slot) (v1 : Int32), tGH G τ s H locs → lv_has ls 2 [(0, .ref h0), (1, .int v1)] → 0 ≤ v1.toInt → v1.toInt ≤ 24 → (24 - v1.toInt).toNat < n35 → W p l e (tRm 1 21) s m ([.ref h0] : List Value).toArray below meth c H locs 0 0 (MQ below (tQv G τ) ([.ref h0] : List Value).toArray s 0 0 (tA τ)) (F0 m 35 ls []) := by
    intro n35
    induction n35 with
    | zero => intro H locs ls v1 hG hl b1 c1 hn35; exact absurd hn35 (Nat.not_lt_zero _)
    | succ n35 ih35 =>
      intro H locs ls v1 hG hl b1 c1 hn35
      refine lv_iload_n hx hb dX8_markAllAnew_35 rfl (lv_at hl 1 rfl) ?_
      refine lv_aload_n hx hb dX8_markAllAnew_36 rfl (lv_at hl 0 rfl) ?_
      refine tc_geti E hG t0 fic_X8_70 dX8_markAllAnew_37 (fun z1 lz1 uz1 => ?_)
      refine lv_icmp_ge (tgt := 59) hx hb dX8_markAllAnew_40 (by decide) (fun c2 => ?_) (fun c2 => ?_)
      · skip
        have ic2 := tn_le rfl rfl c2
        exact tc_vret E hr hlk hG dX8_markAllAnew_59
      · skip
        have ic2 := tn_nle rfl rfl c2
        refine lv_aload_n hx hb dX8_markAllAnew_43 rfl (lv_at hl 0 rfl) ?_
        refine tc_getr E hG t0 frc_X8_11 dX8_markAllAnew_44 (fun oa3 hoa3 => ?_)
        refine lv_iload_n hx hb dX8_markAllAnew_47 rfl (lv_at hl 1 rfl) ?_
        refine tc_aald3 E hG hoa3 ta_34 (t_in (by omega) (by omega)) dX8_markAllAnew_48 (fun oa4 hoa4 => ?_)
        refine lv_iconst (v := 0) hx hb dX8_markAllAnew_49 (by decide) ?_
        refine tc_puti E hG hoa4 fpk_X8_142 (t_any1 _) (t_any2 _) dX8_markAllAnew_50 (fun H locs hG => ?_)
        obtain ⟨z5, ez5⟩ : ∃ y : Int32, y = v1 + (1) := ⟨_, rfl⟩
        refine lv_iinc (v := z5) (lv' := [(1, .int z5), (0, .ref h0)]) hx hb dX8_markAllAnew_53 hl (k := 1) rfl (by rw [ez5]; rfl) (by decide) rfl (fun ls hl => ?_)
        have tz5 := tn_add ez5 rfl kI_1 (by omega) (by omega)
        refine lv_goto (tgt := 35) hx hb dX8_markAllAnew_56 (by decide) ?_
        exact ih35 H locs ls z5 hG (lv_sub hl [1, 0] rfl) (by omega) (by omega) (by omega)
  have J30 : ∀ (H : Heap) (locs : List Loc) (ls : Array Slot) (as0 : Nat) (vs1 : Int32), tGH G τ s H locs → lv_has ls 2 [(0, .ref h0)] → τ as0 = 26 → W p l e (tRm 1 21) s m ([.ref h0] : List Value).toArray below meth c H locs 0 0 (MQ below (tQv G τ) ([.ref h0] : List Value).toArray s 0 0 (tA τ)) (F0 m 30 ls [.int vs1, .ref as0]) := by
    intro H locs ls as0 vs1 hG hl es0
    refine tc_puti E hG es0 fpc_X8_122 (t_any1 _) (t_any2 _) dX8_markAllAnew_30 (fun H locs hG => ?_)
    refine lv_iconst (v := 0) hx hb dX8_markAllAnew_33 (by decide) ?_
    refine lv_istore_n (lv' := [(1, .int 0), (0, .ref h0)]) hx hb dX8_markAllAnew_34 rfl hl (by decide) rfl (fun ls hl => ?_)
    exact J35 ((24 - (0 : Int32).toInt).toNat + 1) H locs ls (0 : Int32) hG (lv_sub hl [1, 0] rfl) (by decide) (by decide) (Nat.lt_succ_self _)
  refine lv_aload_n hx hb dX8_markAllAnew_0 rfl (lv_at hl 0 rfl) ?_
  refine lv_aload_n hx hb dX8_markAllAnew_1 rfl (lv_at hl 0 rfl) ?_
  refine tc_geti E hG t0 fic_X8_40 dX8_markAllAnew_2 (fun z6 _ _ => ?_)
  refine tc_puti E hG t0 fpc_X8_43 (t_any1 _) (t_any2 _) dX8_markAllAnew_5 (fun H locs hG => ?_)
  refine lv_aload_n hx hb dX8_markAllAnew_8 rfl (lv_at hl 0 rfl) ?_
  refine lv_aload_n hx hb dX8_markAllAnew_9 rfl (lv_at hl 0 rfl) ?_
  refine lv_aload_n hx hb dX8_markAllAnew_10 rfl (lv_at hl 0 rfl) ?_
  refine tc_geti E hG t0 fic_X8_24 dX8_markAllAnew_11 (fun z7 _ _ => ?_)
  refine tc_callp (tc_runV (As := [.int z7]) (rest := [.ref h0]) E hSt hG (c_X8_has_c l G τ h0 z7 t0) t0 rv_26 kv_X8_has ml_X8_55 ⟨rfl, rfl, Nat.le_of_ble_eq_true rfl, Nat.le_of_ble_eq_true rfl⟩ rfl hl.1 rfl (Nat.le_of_ble_eq_true rfl) ⟨Nat.zero_le _, Nat.zero_le _⟩ dX8_markAllAnew_14) (fun r8 pr8 => ?_)
  have pr8 : (0 ≤ r8.toInt ∧ r8.toInt ≤ 1) ∧ (r8.toInt = 0 ∨ (0 ≤ z7.toInt ∧ z7.toInt ≤ 23)) := pr8
  refine lv_if_eq (tgt := 29) hx hb dX8_markAllAnew_17 (by decide) (fun c9 => ?_) (fun c9 => ?_)
  · skip
    have ic9 := tn_eq rfl kI_0 c9
    refine lv_iconst (v := 0) hx hb dX8_markAllAnew_29 (by decide) ?_
    exact J30 H locs ls (h0) (0 : Int32) hG (lv_sub hl [0] rfl) t0
  · skip
    have ic9 := tn_ne rfl kI_0 c9
    refine lv_iconst (v := 1) hx hb dX8_markAllAnew_20 (by decide) ?_
    refine lv_aload_n hx hb dX8_markAllAnew_21 rfl (lv_at hl 0 rfl) ?_
    refine tc_geti E hG t0 fic_X8_24 dX8_markAllAnew_22 (fun z10 _ _ => ?_)
    refine lv_ishl hx hb dX8_markAllAnew_25 ?_
    refine lv_topi (fun z11 ez11 => ?_)
    refine lv_goto (tgt := 30) hx hb dX8_markAllAnew_26 (by decide) ?_
    exact J30 H locs ls (h0) z11 hG (lv_sub hl [0] rfl) t0

set_option maxHeartbeats 4000000 in
set_option maxRecDepth 100000 in
theorem c_X8_draw (l : Launch) (G : tG) (τ : Nat → Nat) (h0 : Nat) (x1 : Int32) (t0 : τ h0 = 2) : Met l yX8_draw (.code yX8_draw cX8_draw 2 (some .int) :: tWS) (tRm 0 0) (va_Pc [.ref h0, .int x1] (tPre G τ)) (tQi G τ (fun r => True)) 0 0 (tA τ) := by
  refine tc_met (by decide) (Nat.le_of_ble_eq_true rfl) ?_
  intro p e s m below meth c E hSt hr hlk hG ls hl
  have hl : lv_has ls 2 [(0, .ref h0), (1, .int x1)] := hl
  have hx := E.1
  have hb := E.2.1
  obtain ⟨H, eH⟩ : ∃ H, H = s.heap := ⟨_, rfl⟩
  obtain ⟨locs, eL⟩ : ∃ x : List Loc, x = [] := ⟨_, rfl⟩
  have hG : tGH G τ s H locs := by rw [eH, eL]; exact hG
  suffices hW : W p l e (tRm 0 0) s m ([.ref h0, .int x1] : List Value).toArray below meth c H locs 0 0 (MQ below (tQi G τ (fun r => True)) ([.ref h0, .int x1] : List Value).toArray s 0 0 (tA τ)) (F0 m 0 ls []) by subst eH; subst eL; exact hW
  clear eH eL
  refine lv_aload_n hx hb dX8_draw_0 rfl (lv_at hl 0 rfl) ?_
  refine lv_aload_n hx hb dX8_draw_1 rfl (lv_at hl 0 rfl) ?_
  refine tc_geti E hG t0 fi_X8_34 dX8_draw_2 (fun z1 _ _ => ?_)
  refine lv_ldc (v := 1103515245) hx hb E.2.2.2.1 (E.2.2.2.2.1 _ (t_w5 193 rfl rfl)) dX8_draw_5 ?_
  refine lv_topi (fun z2 ez2 => ?_)
  refine lv_imul hx hb dX8_draw_7 ?_
  refine lv_topi (fun z3 ez3 => ?_)
  refine lv_sipush (v := 12345) hx hb dX8_draw_8 (by decide) ?_
  refine lv_iadd hx hb dX8_draw_11 ?_
  refine lv_topi (fun z4 ez4 => ?_)
  refine tc_puti E hG t0 fp_X8_34 (t_any1 _) (t_any2 _) dX8_draw_12 (fun H locs hG => ?_)
  refine lv_iload_n hx hb dX8_draw_15 rfl (lv_at hl 1 rfl) ?_
  refine lv_if_ne (tgt := 23) hx hb dX8_draw_16 (by decide) (fun c5 => ?_) (fun c5 => ?_)
  · skip
    have ic5 := tn_ne rfl kI_0 c5
    refine lv_aload_n hx hb dX8_draw_23 rfl (lv_at hl 0 rfl) ?_
    refine tc_geti E hG t0 fi_X8_34 dX8_draw_24 (fun z6 _ _ => ?_)
    refine lv_bipush (v := 16) hx hb dX8_draw_27 (by decide) ?_
    refine lv_iushr hx hb dX8_draw_29 rfl ?_
    refine lv_topi (fun z7 ez7 => ?_)
    refine lv_iload_n hx hb dX8_draw_30 rfl (lv_at hl 1 rfl) ?_
    refine lv_irem hx hb dX8_draw_31 (by assumption) ?_
    refine lv_topi (fun z8 ez8 => ?_)
    exact tc_iret E hr hlk hG trivial dX8_draw_32
  · skip
    have ic5 := tn_eq rfl kI_0 c5
    refine lv_iconst (v := 0) hx hb dX8_draw_19 (by decide) ?_
    refine lv_goto (tgt := 32) hx hb dX8_draw_20 (by decide) ?_
    exact tc_iret E hr hlk hG trivial dX8_draw_32

set_option maxHeartbeats 4000000 in
set_option maxRecDepth 100000 in
theorem c_X8_overTogether (l : Launch) (G : tG) (τ : Nat → Nat) (h0 : Nat) (t0 : τ h0 = 26) : Met l yX8_overTogether (.code yX8_overTogether cX8_overTogether 3 (some .int) :: tWS) (tRm 1 21) (va_Pc [.ref h0] (tPre G τ)) (tQp (fun r => True)) 0 0 tNo := by
  refine tc_met (by decide) (Nat.le_of_ble_eq_true rfl) ?_
  intro p e s m below meth c E hSt hr hlk hG ls hl
  have hl : lv_has ls 3 [(0, .ref h0)] := hl
  have hx := E.1
  have hb := E.2.1
  obtain ⟨H, eH⟩ : ∃ H, H = s.heap := ⟨_, rfl⟩
  obtain ⟨locs, eL⟩ : ∃ x : List Loc, x = [] := ⟨_, rfl⟩
  have hG : tGH G τ s H locs := by rw [eH, eL]; exact hG
  suffices hW : W p l e (tRm 1 21) s m ([.ref h0] : List Value).toArray below meth c H locs 0 0 (MQ below (tQp (fun r => True)) ([.ref h0] : List Value).toArray s 0 0 tNo) (F0 m 0 ls []) by subst eH; subst eL; exact hW
  have J4 : ∀ (n4 : Nat) (ls : Array Slot) (v1 : Int32) (v2 : Int32), lv_has ls 3 [(0, .ref h0), (1, .int v1), (2, .int v2)] → 0 ≤ v2.toInt → v2.toInt ≤ 24 → (24 - v2.toInt).toNat < n4 → W p l e (tRm 1 21) s m ([.ref h0] : List Value).toArray below meth c H locs 0 0 (MQ below (tQp (fun r => True)) ([.ref h0] : List Value).toArray s 0 0 tNo) (F0 m 4 ls []) := by
    intro n4
    induction n4 with
    | zero => intro ls v1 v2 hl b2 c2 hn4; exact absurd hn4 (Nat.not_lt_zero _)
    | succ n4 ih4 =>
      intro ls v1 v2 hl b2 c2 hn4
      have J35 : ∀ (ls : Array Slot) (v1 : Int32) (v2 : Int32), lv_has ls 3 [(0, .ref h0), (1, .int v1), (2, .int v2)] → 0 ≤ v2.toInt → v2.toInt ≤ 23 → (24 - v2.toInt).toNat < n4 + 1 → W p l e (tRm 1 21) s m ([.ref h0] : List Value).toArray below meth c H locs 0 0 (MQ below (tQp (fun r => True)) ([.ref h0] : List Value).toArray s 0 0 tNo) (F0 m 35 ls []) := by
        intro ls v1 v2 hl b2 c2 hm4
        obtain ⟨z1, ez1⟩ : ∃ y : Int32, y = v2 + (1) := ⟨_, rfl⟩
        refine lv_iinc (v := z1) (lv' := [(2, .int z1), (0, .ref h0), (1, .int v1)]) hx hb dX8_overTogether_35 hl (k := 2) rfl (by rw [ez1]; rfl) (by decide) rfl (fun ls hl => ?_)
        have tz1 := tn_add ez1 rfl kI_1 (by omega) (by omega)
        refine lv_goto (tgt := 4) hx hb dX8_overTogether_38 (by decide) ?_
        exact ih4 ls v1 z1 (lv_sub hl [1, 2, 0] rfl) (by omega) (by omega) (by omega)
      refine lv_iload_n hx hb dX8_overTogether_4 rfl (lv_at hl 2 rfl) ?_
      refine lv_aload_n hx hb dX8_overTogether_5 rfl (lv_at hl 0 rfl) ?_
      refine tc_geti E hG t0 fic_X8_70 dX8_overTogether_6 (fun z2 lz2 uz2 => ?_)
      refine lv_icmp_ge (tgt := 41) hx hb dX8_overTogether_9 (by decide) (fun c3 => ?_) (fun c3 => ?_)
      · skip
        have ic3 := tn_le rfl rfl c3
        refine lv_iload_n hx hb dX8_overTogether_41 rfl (lv_at hl 1 rfl) ?_
        exact tc_pret E hr hlk eH eL rfl trivial dX8_overTogether_42
      · skip
        have ic3 := tn_nle rfl rfl c3
        refine lv_aload_n hx hb dX8_overTogether_12 rfl (lv_at hl 0 rfl) ?_
        refine lv_iload_n hx hb dX8_overTogether_13 rfl (lv_at hl 2 rfl) ?_
        refine tc_callp (tc_runV (As := [.int v2]) (rest := []) E hSt hG (c_X8_has_c l G τ h0 v2 t0) t0 rv_26 kv_X8_has ml_X8_55 ⟨rfl, rfl, Nat.le_of_ble_eq_true rfl, Nat.le_of_ble_eq_true rfl⟩ rfl hl.1 rfl (Nat.le_of_ble_eq_true rfl) ⟨Nat.zero_le _, Nat.zero_le _⟩ dX8_overTogether_14) (fun r4 pr4 => ?_)
        have pr4 : (0 ≤ r4.toInt ∧ r4.toInt ≤ 1) ∧ (r4.toInt = 0 ∨ (0 ≤ v2.toInt ∧ v2.toInt ≤ 23)) := pr4
        refine lv_if_eq (tgt := 35) hx hb dX8_overTogether_17 (by decide) (fun c5 => ?_) (fun c5 => ?_)
        · skip
          have ic5 := tn_eq rfl kI_0 c5
          exact J35 ls v1 v2 (lv_sub hl [0, 1, 2] rfl) (by omega) (by omega) (by omega)
        · skip
          have ic5 := tn_ne rfl kI_0 c5
          refine lv_iload_n hx hb dX8_overTogether_20 rfl (lv_at hl 1 rfl) ?_
          refine lv_aload_n hx hb dX8_overTogether_21 rfl (lv_at hl 0 rfl) ?_
          refine tc_getr E hG t0 frc_X8_11 dX8_overTogether_22 (fun oa6 hoa6 => ?_)
          refine lv_iload_n hx hb dX8_overTogether_25 rfl (lv_at hl 2 rfl) ?_
          refine tc_aald3 E hG hoa6 ta_34 (t_in (by omega) (by omega)) dX8_overTogether_26 (fun oa7 hoa7 => ?_)
          refine tc_getr E hG hoa7 frk_X8_132 dX8_overTogether_27 (fun oa8 hoa8 => ?_)
          refine tc_geti E hG hoa8 fi_X8_149 dX8_overTogether_30 (fun z9 _ _ => ?_)
          refine lv_iadd hx hb dX8_overTogether_33 ?_
          refine lv_topi (fun z10 ez10 => ?_)
          refine lv_istore_n (lv' := [(1, .int z10), (0, .ref h0), (2, .int v2)]) hx hb dX8_overTogether_34 rfl hl (by decide) rfl (fun ls hl => ?_)
          exact J35 ls z10 v2 (lv_sub hl [1, 0, 2] rfl) (by omega) (by omega) (by omega)
  refine lv_iconst (v := 0) hx hb dX8_overTogether_0 (by decide) ?_
  refine lv_istore_n (lv' := [(1, .int 0), (0, .ref h0)]) hx hb dX8_overTogether_1 rfl hl (by decide) rfl (fun ls hl => ?_)
  refine lv_iconst (v := 0) hx hb dX8_overTogether_2 (by decide) ?_
  refine lv_istore_n (lv' := [(2, .int 0), (1, .int 0), (0, .ref h0)]) hx hb dX8_overTogether_3 rfl hl (by decide) rfl (fun ls hl => ?_)
  exact J4 ((24 - (0 : Int32).toInt).toNat + 1) ls (0 : Int32) (0 : Int32) (lv_sub hl [2, 1, 0] rfl) (by decide) (by decide) (Nat.lt_succ_self _)

set_option maxHeartbeats 4000000 in
set_option maxRecDepth 100000 in
theorem c_X8_leftInTop (l : Launch) (G : tG) (τ : Nat → Nat) (h0 : Nat) (x1 : Int32) (t0 : τ h0 = 2) : Met l yX8_leftInTop (.code yX8_leftInTop cX8_leftInTop 5 (some .int) :: tWS) (tRm 1 21) (va_Pc [.ref h0, .int x1] (tPre G τ)) (tQp (fun r => True)) 0 0 tNo := by
  refine tc_met (by decide) (Nat.le_of_ble_eq_true rfl) ?_
  intro p e s m below meth c E hSt hr hlk hG ls hl
  have hl : lv_has ls 5 [(0, .ref h0), (1, .int x1)] := hl
  have hx := E.1
  have hb := E.2.1
  obtain ⟨H, eH⟩ : ∃ H, H = s.heap := ⟨_, rfl⟩
  obtain ⟨locs, eL⟩ : ∃ x : List Loc, x = [] := ⟨_, rfl⟩
  have hG : tGH G τ s H locs := by rw [eH, eL]; exact hG
  suffices hW : W p l e (tRm 1 21) s m ([.ref h0, .int x1] : List Value).toArray below meth c H locs 0 0 (MQ below (tQp (fun r => True)) ([.ref h0, .int x1] : List Value).toArray s 0 0 tNo) (F0 m 0 ls []) by subst eH; subst eL; exact hW
  have J7 : ∀ (n7 : Nat) (ls : Array Slot) (v2 : Int32) (v3 : Int32) (v4 : Int32), lv_has ls 5 [(0, .ref h0), (2, .int v2), (3, .int v3), (4, .int v4)] → 0 ≤ v4.toInt → v4.toInt ≤ 24 → (24 - v4.toInt).toNat < n7 → W p l e (tRm 1 21) s m ([.ref h0, .int x1] : List Value).toArray below meth c H locs 0 0 (MQ below (tQp (fun r => True)) ([.ref h0, .int x1] : List Value).toArray s 0 0 tNo) (F0 m 7 ls []) := by
    intro n7
    induction n7 with
    | zero => intro ls v2 v3 v4 hl b4 c4 hn7; exact absurd hn7 (Nat.not_lt_zero _)
    | succ n7 ih7 =>
      intro ls v2 v3 v4 hl b4 c4 hn7
      refine lv_iload hx hb dX8_leftInTop_7 (lv_at hl 3 rfl) ?_
      refine lv_bipush (v := 24) hx hb dX8_leftInTop_9 (by decide) ?_
      refine lv_icmp_ge (tgt := 53) hx hb dX8_leftInTop_11 (by decide) (fun c1 => ?_) (fun c1 => ?_)
      · skip
        have ic1 := tn_le kI_24 rfl c1
        refine lv_iload_n hx hb dX8_leftInTop_53 rfl (lv_at hl 1 rfl) ?_
        exact tc_pret E hr hlk eH eL rfl trivial dX8_leftInTop_54
      · skip
        have ic1 := tn_nle kI_24 rfl c1
        refine lv_aload_n hx hb dX8_leftInTop_14 rfl (lv_at hl 0 rfl) ?_
        refine lv_iload_n hx hb dX8_leftInTop_15 rfl (lv_at hl 2 rfl) ?_
        refine tc_callp (tc_runV (As := [.int v3]) (rest := []) E hSt hG (c_X8_has l G τ h0 v3 t0) t0 rv_2 kv_X8_has ml_X8_55 ⟨rfl, rfl, Nat.le_of_ble_eq_true rfl, Nat.le_of_ble_eq_true rfl⟩ rfl hl.1 rfl (Nat.le_of_ble_eq_true rfl) ⟨Nat.zero_le _, Nat.zero_le _⟩ dX8_leftInTop_16) (fun r2 pr2 => ?_)
        have pr2 : (0 ≤ r2.toInt ∧ r2.toInt ≤ 1) ∧ (r2.toInt = 0 ∨ (0 ≤ v3.toInt ∧ v3.toInt ≤ 23)) := pr2
        refine lv_if_eq (tgt := 53) hx hb dX8_leftInTop_19 (by decide) (fun c3 => ?_) (fun c3 => ?_)
        · skip
          have ic3 := tn_eq rfl kI_0 c3
          refine lv_iload_n hx hb dX8_leftInTop_53 rfl (lv_at hl 1 rfl) ?_
          exact tc_pret E hr hlk eH eL rfl trivial dX8_leftInTop_54
        · skip
          have ic3 := tn_ne rfl kI_0 c3
          refine lv_iload_n hx hb dX8_leftInTop_22 rfl (lv_at hl 1 rfl) ?_
          refine lv_aload_n hx hb dX8_leftInTop_23 rfl (lv_at hl 0 rfl) ?_
          refine tc_getr E hG t0 fr_X8_11 dX8_leftInTop_24 (fun oa4 hoa4 => ?_)
          refine lv_iload_n hx hb dX8_leftInTop_27 rfl (lv_at hl 2 rfl) ?_
          refine tc_aald3 E hG hoa4 ta_10 (t_in (by omega) (by omega)) dX8_leftInTop_28 (fun oa5 hoa5 => ?_)
          refine tc_getr E hG hoa5 fr_X8_132 dX8_leftInTop_29 (fun oa6 hoa6 => ?_)
          refine tc_geti E hG hoa6 fi_X8_152 dX8_leftInTop_32 (fun z7 _ _ => ?_)
          refine lv_iadd hx hb dX8_leftInTop_35 ?_
          refine lv_topi (fun z8 ez8 => ?_)
          refine lv_istore_n (lv' := [(2, .int z8), (0, .ref h0), (3, .int v3), (4, .int v4)]) hx hb dX8_leftInTop_36 rfl hl (by decide) rfl (fun ls hl => ?_)
          refine lv_aload_n hx hb dX8_leftInTop_37 rfl (lv_at hl 1 rfl) ?_
          refine tc_getr E hG t0 fr_X8_11 dX8_leftInTop_38 (fun oa9 hoa9 => ?_)
          refine lv_iload_n hx hb dX8_leftInTop_41 rfl (lv_at hl 2 rfl) ?_
          refine tc_aald3 E hG hoa9 ta_10 (t_in (by omega) (by omega)) dX8_leftInTop_42 (fun oa10 hoa10 => ?_)
          refine tc_geti E hG hoa10 fi_X8_102 dX8_leftInTop_43 (fun z11 _ _ => ?_)
          refine lv_istore_n (lv' := [(3, .int z11), (2, .int z8), (0, .ref h0), (4, .int v4)]) hx hb dX8_leftInTop_46 rfl hl (by decide) rfl (fun ls hl => ?_)
          obtain ⟨z12, ez12⟩ : ∃ y : Int32, y = v4 + (1) := ⟨_, rfl⟩
          refine lv_iinc (v := z12) (lv' := [(4, .int z12), (3, .int z11), (2, .int z8), (0, .ref h0)]) hx hb dX8_leftInTop_47 hl (k := 3) rfl (by rw [ez12]; rfl) (by decide) rfl (fun ls hl => ?_)
          have tz12 := tn_add ez12 rfl kI_1 (by omega) (by omega)
          refine lv_goto (tgt := 7) hx hb dX8_leftInTop_50 (by decide) ?_
          exact ih7 ls z8 z11 z12 (lv_sub hl [3, 2, 1, 0] rfl) (by omega) (by omega) (by omega)
  refine lv_iconst (v := 0) hx hb dX8_leftInTop_0 (by decide) ?_
  refine lv_istore_n (lv' := [(2, .int 0), (0, .ref h0), (1, .int x1)]) hx hb dX8_leftInTop_1 rfl hl (by decide) rfl (fun ls hl => ?_)
  refine lv_iload_n hx hb dX8_leftInTop_2 rfl (lv_at hl 2 rfl) ?_
  refine lv_istore_n (lv' := [(3, .int x1), (2, .int 0), (0, .ref h0), (1, .int x1)]) hx hb dX8_leftInTop_3 rfl hl (by decide) rfl (fun ls hl => ?_)
  refine lv_iconst (v := 0) hx hb dX8_leftInTop_4 (by decide) ?_
  refine lv_istore (lv' := [(4, .int 0), (3, .int x1), (2, .int 0), (0, .ref h0), (1, .int x1)]) hx hb dX8_leftInTop_5 hl (by decide) rfl (fun ls hl => ?_)
  exact J7 ((24 - (0 : Int32).toInt).toNat + 1) ls (0 : Int32) x1 (0 : Int32) (lv_sub hl [3, 2, 1, 0] rfl) (by decide) (by decide) (Nat.lt_succ_self _)

set_option maxHeartbeats 4000000 in
set_option maxRecDepth 100000 in
theorem c_X8_upperInTop (l : Launch) (G : tG) (τ : Nat → Nat) (h0 : Nat) (x1 : Int32) (t0 : τ h0 = 2) : Met l yX8_upperInTop (.code yX8_upperInTop cX8_upperInTop 5 (some .int) :: tWS) (tRm 1 21) (va_Pc [.ref h0, .int x1] (tPre G τ)) (tQp (fun r => True)) 0 0 tNo := by
  refine tc_met (by decide) (Nat.le_of_ble_eq_true rfl) ?_
  intro p e s m below meth c E hSt hr hlk hG ls hl
  have hl : lv_has ls 5 [(0, .ref h0), (1, .int x1)] := hl
  have hx := E.1
  have hb := E.2.1
  obtain ⟨H, eH⟩ : ∃ H, H = s.heap := ⟨_, rfl⟩
  obtain ⟨locs, eL⟩ : ∃ x : List Loc, x = [] := ⟨_, rfl⟩
  have hG : tGH G τ s H locs := by rw [eH, eL]; exact hG
  suffices hW : W p l e (tRm 1 21) s m ([.ref h0, .int x1] : List Value).toArray below meth c H locs 0 0 (MQ below (tQp (fun r => True)) ([.ref h0, .int x1] : List Value).toArray s 0 0 tNo) (F0 m 0 ls []) by subst eH; subst eL; exact hW
  have J7 : ∀ (n7 : Nat) (ls : Array Slot) (v2 : Int32) (v3 : Int32) (v4 : Int32), lv_has ls 5 [(0, .ref h0), (2, .int v2), (3, .int v3), (4, .int v4)] → 0 ≤ v4.toInt → v4.toInt ≤ 24 → (24 - v4.toInt).toNat < n7 → W p l e (tRm 1 21) s m ([.ref h0, .int x1] : List Value).toArray below meth c H locs 0 0 (MQ below (tQp (fun r => True)) ([.ref h0, .int x1] : List Value).toArray s 0 0 tNo) (F0 m 7 ls []) := by
    intro n7
    induction n7 with
    | zero => intro ls v2 v3 v4 hl b4 c4 hn7; exact absurd hn7 (Nat.not_lt_zero _)
    | succ n7 ih7 =>
      intro ls v2 v3 v4 hl b4 c4 hn7
      refine lv_iload hx hb dX8_upperInTop_7 (lv_at hl 3 rfl) ?_
      refine lv_bipush (v := 24) hx hb dX8_upperInTop_9 (by decide) ?_
      refine lv_icmp_ge (tgt := 53) hx hb dX8_upperInTop_11 (by decide) (fun c1 => ?_) (fun c1 => ?_)
      · skip
        have ic1 := tn_le kI_24 rfl c1
        refine lv_iload_n hx hb dX8_upperInTop_53 rfl (lv_at hl 1 rfl) ?_
        exact tc_pret E hr hlk eH eL rfl trivial dX8_upperInTop_54
      · skip
        have ic1 := tn_nle kI_24 rfl c1
        refine lv_aload_n hx hb dX8_upperInTop_14 rfl (lv_at hl 0 rfl) ?_
        refine lv_iload_n hx hb dX8_upperInTop_15 rfl (lv_at hl 2 rfl) ?_
        refine tc_callp (tc_runV (As := [.int v3]) (rest := []) E hSt hG (c_X8_has l G τ h0 v3 t0) t0 rv_2 kv_X8_has ml_X8_55 ⟨rfl, rfl, Nat.le_of_ble_eq_true rfl, Nat.le_of_ble_eq_true rfl⟩ rfl hl.1 rfl (Nat.le_of_ble_eq_true rfl) ⟨Nat.zero_le _, Nat.zero_le _⟩ dX8_upperInTop_16) (fun r2 pr2 => ?_)
        have pr2 : (0 ≤ r2.toInt ∧ r2.toInt ≤ 1) ∧ (r2.toInt = 0 ∨ (0 ≤ v3.toInt ∧ v3.toInt ≤ 23)) := pr2
        refine lv_if_eq (tgt := 53) hx hb dX8_upperInTop_19 (by decide) (fun c3 => ?_) (fun c3 => ?_)
        · skip
          have ic3 := tn_eq rfl kI_0 c3
          refine lv_iload_n hx hb dX8_upperInTop_53 rfl (lv_at hl 1 rfl) ?_
          exact tc_pret E hr hlk eH eL rfl trivial dX8_upperInTop_54
        · skip
          have ic3 := tn_ne rfl kI_0 c3
          refine lv_iload_n hx hb dX8_upperInTop_22 rfl (lv_at hl 1 rfl) ?_
          refine lv_aload_n hx hb dX8_upperInTop_23 rfl (lv_at hl 0 rfl) ?_
          refine tc_getr E hG t0 fr_X8_11 dX8_upperInTop_24 (fun oa4 hoa4 => ?_)
          refine lv_iload_n hx hb dX8_upperInTop_27 rfl (lv_at hl 2 rfl) ?_
          refine tc_aald3 E hG hoa4 ta_10 (t_in (by omega) (by omega)) dX8_upperInTop_28 (fun oa5 hoa5 => ?_)
          refine tc_getr E hG hoa5 fr_X8_132 dX8_upperInTop_29 (fun oa6 hoa6 => ?_)
          refine tc_geti E hG hoa6 fi_X8_155 dX8_upperInTop_32 (fun z7 _ _ => ?_)
          refine lv_iadd hx hb dX8_upperInTop_35 ?_
          refine lv_topi (fun z8 ez8 => ?_)
          refine lv_istore_n (lv' := [(2, .int z8), (0, .ref h0), (3, .int v3), (4, .int v4)]) hx hb dX8_upperInTop_36 rfl hl (by decide) rfl (fun ls hl => ?_)
          refine lv_aload_n hx hb dX8_upperInTop_37 rfl (lv_at hl 1 rfl) ?_
          refine tc_getr E hG t0 fr_X8_11 dX8_upperInTop_38 (fun oa9 hoa9 => ?_)
          refine lv_iload_n hx hb dX8_upperInTop_41 rfl (lv_at hl 2 rfl) ?_
          refine tc_aald3 E hG hoa9 ta_10 (t_in (by omega) (by omega)) dX8_upperInTop_42 (fun oa10 hoa10 => ?_)
          refine tc_geti E hG hoa10 fi_X8_102 dX8_upperInTop_43 (fun z11 _ _ => ?_)
          refine lv_istore_n (lv' := [(3, .int z11), (2, .int z8), (0, .ref h0), (4, .int v4)]) hx hb dX8_upperInTop_46 rfl hl (by decide) rfl (fun ls hl => ?_)
          obtain ⟨z12, ez12⟩ : ∃ y : Int32, y = v4 + (1) := ⟨_, rfl⟩
          refine lv_iinc (v := z12) (lv' := [(4, .int z12), (3, .int z11), (2, .int z8), (0, .ref h0)]) hx hb dX8_upperInTop_47 hl (k := 3) rfl (by rw [ez12]; rfl) (by decide) rfl (fun ls hl => ?_)
          have tz12 := tn_add ez12 rfl kI_1 (by omega) (by omega)
          refine lv_goto (tgt := 7) hx hb dX8_upperInTop_50 (by decide) ?_
          exact ih7 ls z8 z11 z12 (lv_sub hl [3, 2, 1, 0] rfl) (by omega) (by omega) (by omega)
  refine lv_iconst (v := 0) hx hb dX8_upperInTop_0 (by decide) ?_
  refine lv_istore_n (lv' := [(2, .int 0), (0, .ref h0), (1, .int x1)]) hx hb dX8_upperInTop_1 rfl hl (by decide) rfl (fun ls hl => ?_)
  refine lv_iload_n hx hb dX8_upperInTop_2 rfl (lv_at hl 2 rfl) ?_
  refine lv_istore_n (lv' := [(3, .int x1), (2, .int 0), (0, .ref h0), (1, .int x1)]) hx hb dX8_upperInTop_3 rfl hl (by decide) rfl (fun ls hl => ?_)
  refine lv_iconst (v := 0) hx hb dX8_upperInTop_4 (by decide) ?_
  refine lv_istore (lv' := [(4, .int 0), (3, .int x1), (2, .int 0), (0, .ref h0), (1, .int x1)]) hx hb dX8_upperInTop_5 hl (by decide) rfl (fun ls hl => ?_)
  exact J7 ((24 - (0 : Int32).toInt).toNat + 1) ls (0 : Int32) x1 (0 : Int32) (lv_sub hl [3, 2, 1, 0] rfl) (by decide) (by decide) (Nat.lt_succ_self _)

set_option maxHeartbeats 4000000 in
set_option maxRecDepth 100000 in
theorem c_X8_isLaidLike (l : Launch) (G : tG) (τ : Nat → Nat) (h0 : Nat) (h1 : Nat) (t0 : τ h0 = 26) (t1 : τ h1 = 26) : Met l yX8_isLaidLike (.code yX8_isLaidLike cX8_isLaidLike 3 (some .boolean) :: tWS) (tRm 1 21) (va_Pc [.ref h0, .ref h1] (tPre G τ)) (tQp (fun r => 0 ≤ r.toInt ∧ r.toInt ≤ 1)) 0 0 tNo := by
  refine tc_met (by decide) (Nat.le_of_ble_eq_true rfl) ?_
  intro p e s m below meth c E hSt hr hlk hG ls hl
  have hl : lv_has ls 3 [(0, .ref h0), (1, .ref h1)] := hl
  have hx := E.1
  have hb := E.2.1
  obtain ⟨H, eH⟩ : ∃ H, H = s.heap := ⟨_, rfl⟩
  obtain ⟨locs, eL⟩ : ∃ x : List Loc, x = [] := ⟨_, rfl⟩
  have hG : tGH G τ s H locs := by rw [eH, eL]; exact hG
  suffices hW : W p l e (tRm 1 21) s m ([.ref h0, .ref h1] : List Value).toArray below meth c H locs 0 0 (MQ below (tQp (fun r => 0 ≤ r.toInt ∧ r.toInt ≤ 1)) ([.ref h0, .ref h1] : List Value).toArray s 0 0 tNo) (F0 m 0 ls []) by subst eH; subst eL; exact hW
  have J2 : ∀ (n2 : Nat) (ls : Array Slot) (v2 : Int32), lv_has ls 3 [(0, .ref h0), (1, .ref h1), (2, .int v2)] → 0 ≤ v2.toInt → v2.toInt ≤ 24 → (24 - v2.toInt).toNat < n2 → W p l e (tRm 1 21) s m ([.ref h0, .ref h1] : List Value).toArray below meth c H locs 0 0 (MQ below (tQp (fun r => 0 ≤ r.toInt ∧ r.toInt ≤ 1)) ([.ref h0, .ref h1] : List Value).toArray s 0 0 tNo) (F0 m 2 ls []) := by
    intro n2
    induction n2 with
    | zero => intro ls v2 hl b2 c2 hn2; exact absurd hn2 (Nat.not_lt_zero _)
    | succ n2 ih2 =>
      intro ls v2 hl b2 c2 hn2
      have J44 : ∀ (ls : Array Slot) (v2 : Int32), lv_has ls 3 [(0, .ref h0), (1, .ref h1), (2, .int v2)] → 0 ≤ v2.toInt → v2.toInt ≤ 23 → (24 - v2.toInt).toNat < n2 + 1 → W p l e (tRm 1 21) s m ([.ref h0, .ref h1] : List Value).toArray below meth c H locs 0 0 (MQ below (tQp (fun r => 0 ≤ r.toInt ∧ r.toInt ≤ 1)) ([.ref h0, .ref h1] : List Value).toArray s 0 0 tNo) (F0 m 44 ls []) := by
        intro ls v2 hl b2 c2 hm2
        obtain ⟨z1, ez1⟩ : ∃ y : Int32, y = v2 + (1) := ⟨_, rfl⟩
        refine lv_iinc (v := z1) (lv' := [(2, .int z1), (0, .ref h0), (1, .ref h1)]) hx hb dX8_isLaidLike_44 hl (k := 2) rfl (by rw [ez1]; rfl) (by decide) rfl (fun ls hl => ?_)
        have tz1 := tn_add ez1 rfl kI_1 (by omega) (by omega)
        refine lv_goto (tgt := 2) hx hb dX8_isLaidLike_47 (by decide) ?_
        exact ih2 ls z1 (lv_sub hl [1, 2, 0] rfl) (by omega) (by omega) (by omega)
      refine lv_iload_n hx hb dX8_isLaidLike_2 rfl (lv_at hl 2 rfl) ?_
      refine lv_aload_n hx hb dX8_isLaidLike_3 rfl (lv_at hl 0 rfl) ?_
      refine tc_geti E hG t0 fic_X8_70 dX8_isLaidLike_4 (fun z2 lz2 uz2 => ?_)
      refine lv_icmp_ge (tgt := 50) hx hb dX8_isLaidLike_7 (by decide) (fun c3 => ?_) (fun c3 => ?_)
      · skip
        have ic3 := tn_le rfl rfl c3
        refine lv_iconst (v := 1) hx hb dX8_isLaidLike_50 (by decide) ?_
        exact tc_pret E hr hlk eH eL (t_nz (by decide) (by decide)).1 (show 0 ≤ (1 : Int32).toInt ∧ (1 : Int32).toInt ≤ 1 by have kk := kI_1; omega) dX8_isLaidLike_51
      · skip
        have ic3 := tn_nle rfl rfl c3
        refine lv_aload_n hx hb dX8_isLaidLike_10 rfl (lv_at hl 0 rfl) ?_
        refine lv_iload_n hx hb dX8_isLaidLike_11 rfl (lv_at hl 2 rfl) ?_
        refine tc_callp (tc_runV (As := [.int v2]) (rest := []) E hSt hG (c_X8_has_c l G τ h0 v2 t0) t0 rv_26 kv_X8_has ml_X8_55 ⟨rfl, rfl, Nat.le_of_ble_eq_true rfl, Nat.le_of_ble_eq_true rfl⟩ rfl hl.1 rfl (Nat.le_of_ble_eq_true rfl) ⟨Nat.zero_le _, Nat.zero_le _⟩ dX8_isLaidLike_12) (fun r4 pr4 => ?_)
        have pr4 : (0 ≤ r4.toInt ∧ r4.toInt ≤ 1) ∧ (r4.toInt = 0 ∨ (0 ≤ v2.toInt ∧ v2.toInt ≤ 23)) := pr4
        refine lv_if_eq (tgt := 44) hx hb dX8_isLaidLike_15 (by decide) (fun c5 => ?_) (fun c5 => ?_)
        · skip
          have ic5 := tn_eq rfl kI_0 c5
          exact J44 ls v2 (lv_sub hl [0, 1, 2] rfl) (by omega) (by omega) (by omega)
        · skip
          have ic5 := tn_ne rfl kI_0 c5
          refine lv_aload_n hx hb dX8_isLaidLike_18 rfl (lv_at hl 0 rfl) ?_
          refine tc_getr E hG t0 frc_X8_11 dX8_isLaidLike_19 (fun oa6 hoa6 => ?_)
          refine lv_iload_n hx hb dX8_isLaidLike_22 rfl (lv_at hl 2 rfl) ?_
          refine tc_aald3 E hG hoa6 ta_34 (t_in (by omega) (by omega)) dX8_isLaidLike_23 (fun oa7 hoa7 => ?_)
          refine tc_getr E hG hoa7 frk_X8_132 dX8_isLaidLike_24 (fun oa8 hoa8 => ?_)
          refine lv_aload_n hx hb dX8_isLaidLike_27 rfl (lv_at hl 1 rfl) ?_
          refine tc_getr E hG t1 frc_X8_11 dX8_isLaidLike_28 (fun oa9 hoa9 => ?_)
          refine lv_iload_n hx hb dX8_isLaidLike_31 rfl (lv_at hl 2 rfl) ?_
          refine tc_aald3 E hG hoa9 ta_34 (t_in (by omega) (by omega)) dX8_isLaidLike_32 (fun oa10 hoa10 => ?_)
          refine tc_getr E hG hoa10 frk_X8_132 dX8_isLaidLike_33 (fun oa11 hoa11 => ?_)
          refine tc_callp (tc_runV (As := [.ref oa11]) (rest := []) E hSt hG (c_X2_isLike l G τ oa8 oa11 hoa8 hoa11) hoa8 rv_4 kv_X2_isLike ml_X8_168 ⟨rfl, rfl, Nat.le_of_ble_eq_true rfl, Nat.le_of_ble_eq_true rfl⟩ rfl hl.1 rfl (Nat.le_of_ble_eq_true rfl) ⟨Nat.zero_le _, Nat.zero_le _⟩ dX8_isLaidLike_36) (fun r12 pr12 => ?_)
          have pr12 : 0 ≤ r12.toInt ∧ r12.toInt ≤ 1 := pr12
          refine lv_if_ne (tgt := 44) hx hb dX8_isLaidLike_39 (by decide) (fun c13 => ?_) (fun c13 => ?_)
          · skip
            have ic13 := tn_ne rfl kI_0 c13
            exact J44 ls v2 (lv_sub hl [0, 1, 2] rfl) (by omega) (by omega) (by omega)
          · skip
            have ic13 := tn_eq rfl kI_0 c13
            refine lv_iconst (v := 0) hx hb dX8_isLaidLike_42 (by decide) ?_
            exact tc_pret E hr hlk eH eL (t_nz (by decide) (by decide)).1 (show 0 ≤ (0 : Int32).toInt ∧ (0 : Int32).toInt ≤ 1 by have kk := kI_0; omega) dX8_isLaidLike_43
  refine lv_iconst (v := 0) hx hb dX8_isLaidLike_0 (by decide) ?_
  refine lv_istore_n (lv' := [(2, .int 0), (0, .ref h0), (1, .ref h1)]) hx hb dX8_isLaidLike_1 rfl hl (by decide) rfl (fun ls hl => ?_)
  exact J2 ((24 - (0 : Int32).toInt).toNat + 1) ls (0 : Int32) (lv_sub hl [1, 2, 0] rfl) (by decide) (by decide) (Nat.lt_succ_self _)

set_option maxHeartbeats 4000000 in
set_option maxRecDepth 100000 in
theorem c_X8_copyFrom_c (l : Launch) (G : tG) (τ : Nat → Nat) (h0 : Nat) (h1 : Nat) (t0 : τ h0 = 26) (t1 : τ h1 = 2) : Met l yX8_copyFrom (.code yX8_copyFrom cX8_copyFrom 3 none :: tWS) (tRm 2 61) (va_Pc [.ref h0, .ref h1] (tPre G τ)) (tQv G τ) 0 0 (tA τ) := by
  refine tc_met (by decide) (Nat.le_of_ble_eq_true rfl) ?_
  intro p e s m below meth c E hSt hr hlk hG ls hl
  have hl : lv_has ls 3 [(0, .ref h0), (1, .ref h1)] := hl
  have hx := E.1
  have hb := E.2.1
  obtain ⟨H, eH⟩ : ∃ H, H = s.heap := ⟨_, rfl⟩
  obtain ⟨locs, eL⟩ : ∃ x : List Loc, x = [] := ⟨_, rfl⟩
  have hG : tGH G τ s H locs := by rw [eH, eL]; exact hG
  suffices hW : W p l e (tRm 2 61) s m ([.ref h0, .ref h1] : List Value).toArray below meth c H locs 0 0 (MQ below (tQv G τ) ([.ref h0, .ref h1] : List Value).toArray s 0 0 (tA τ)) (F0 m 0 ls []) by subst eH; subst eL; exact hW
  clear eH eL
  have J2 : ∀ (n2 : Nat) (H : Heap) (locs : List Loc) (ls : Array Slot) (v2 : Int32), tGH G τ s H locs → lv_has ls 3 [(0, .ref h0), (1, .ref h1), (2, .int v2)] → 0 ≤ v2.toInt → v2.toInt ≤ 24 → (24 - v2.toInt).toNat < n2 → W p l e (tRm 2 61) s m ([.ref h0, .ref h1] : List Value).toArray below meth c H locs 0 0 (MQ below (tQv G τ) ([.ref h0, .ref h1] : List Value).toArray s 0 0 (tA τ)) (F0 m 2 ls []) := by
    intro n2
    induction n2 with
    | zero => intro H locs ls v2 hG hl b2 c2 hn2; exact absurd hn2 (Nat.not_lt_zero _)
    | succ n2 ih2 =>
      intro H locs ls v2 hG hl b2 c2 hn2
      have J33 : ∀ (H : Heap) (locs : List Loc) (ls : Array Slot) (v2 : Int32), tGH G τ s H locs → lv_has ls 3 [(0, .ref h0), (1, .ref h1), (2, .int v2)] → 0 ≤ v2.toInt → v2.toInt ≤ 23 → (24 - v2.toInt).toNat < n2 + 1 → W p l e (tRm 2 61) s m ([.ref h0, .ref h1] : List Value).toArray below meth c H locs 0 0 (MQ below (tQv G τ) ([.ref h0, .ref h1] : List Value).toArray s 0 0 (tA τ)) (F0 m 33 ls []) := by
        intro H locs ls v2 hG hl b2 c2 hm2
        obtain ⟨z1, ez1⟩ : ∃ y : Int32, y = v2 + (1) := ⟨_, rfl⟩
        refine lv_iinc (v := z1) (lv' := [(2, .int z1), (0, .ref h0), (1, .ref h1)]) hx hb dX8_copyFrom_33 hl (k := 2) rfl (by rw [ez1]; rfl) (by decide) rfl (fun ls hl => ?_)
        have tz1 := tn_add ez1 rfl kI_1 (by omega) (by omega)
        refine lv_goto (tgt := 2) hx hb dX8_copyFrom_36 (by decide) ?_
        exact ih2 H locs ls z1 hG (lv_sub hl [1, 2, 0] rfl) (by omega) (by omega) (by omega)
      refine lv_iload_n hx hb dX8_copyFrom_2 rfl (lv_at hl 2 rfl) ?_
      refine lv_aload_n hx hb dX8_copyFrom_3 rfl (lv_at hl 1 rfl) ?_
      refine tc_geti E hG t1 fi_X8_70 dX8_copyFrom_4 (fun z2 lz2 uz2 => ?_)
      refine lv_icmp_ge (tgt := 39) hx hb dX8_copyFrom_7 (by decide) (fun c3 => ?_) (fun c3 => ?_)
      · skip
        have ic3 := tn_le rfl rfl c3
        refine lv_aload_n hx hb dX8_copyFrom_39 rfl (lv_at hl 1 rfl) ?_
        refine tc_getr E hG t1 fr_X8_17 dX8_copyFrom_40 (fun oa4 hoa4 => ?_)
        refine lv_iconst (v := 0) hx hb dX8_copyFrom_43 (by decide) ?_
        refine lv_aload_n hx hb dX8_copyFrom_44 rfl (lv_at hl 0 rfl) ?_
        refine tc_getr E hG t0 frc_X8_17 dX8_copyFrom_45 (fun oa5 hoa5 => ?_)
        refine lv_iconst (v := 0) hx hb dX8_copyFrom_48 (by decide) ?_
        refine lv_bipush (v := 8) hx hb dX8_copyFrom_49 (by decide) ?_
        have k8 := kI_8
        have k9 := kI_0
        have k10 := kI_0
        refine tc_copyi (rest := []) E hl.1 hG ml_X8_176 kn_copy1 kn_copy2 kn_copy3 hoa4 hoa5 ta_36 ta_36 (by omega) (by omega) (by omega) (by omega) (by omega) ⟨Nat.le_of_ble_eq_true rfl, by decide +kernel⟩ dX8_copyFrom_51 (fun H locs hG oq6 => ?_)
        refine lv_aload_n hx hb dX8_copyFrom_54 rfl (lv_at hl 1 rfl) ?_
        refine tc_getr E hG t1 fr_X8_21 dX8_copyFrom_55 (fun oa11 hoa11 => ?_)
        refine lv_iconst (v := 0) hx hb dX8_copyFrom_58 (by decide) ?_
        refine lv_aload_n hx hb dX8_copyFrom_59 rfl (lv_at hl 0 rfl) ?_
        refine tc_getr E hG t0 frc_X8_21 dX8_copyFrom_60 (fun oa12 hoa12 => ?_)
        refine lv_iconst (v := 0) hx hb dX8_copyFrom_63 (by decide) ?_
        refine lv_bipush (v := 8) hx hb dX8_copyFrom_64 (by decide) ?_
        have k15 := kI_8
        have k16 := kI_0
        have k17 := kI_0
        refine tc_copyi (rest := []) E hl.1 hG ml_X8_176 kn_copy1 kn_copy2 kn_copy3 hoa11 hoa12 ta_13 ta_13 (by omega) (by omega) (by omega) (by omega) (by omega) ⟨Nat.le_of_ble_eq_true rfl, by decide +kernel⟩ dX8_copyFrom_66 (fun H locs hG oq13 => ?_)
        refine lv_aload_n hx hb dX8_copyFrom_69 rfl (lv_at hl 0 rfl) ?_
        refine lv_aload_n hx hb dX8_copyFrom_70 rfl (lv_at hl 1 rfl) ?_
        refine tc_geti E hG t1 fi_X8_145 dX8_copyFrom_71 (fun z18 lz18 uz18 => ?_)
        refine tc_puti E hG t0 fpc_X8_145 (by omega) (by omega) dX8_copyFrom_74 (fun H locs hG => ?_)
        refine lv_aload_n hx hb dX8_copyFrom_77 rfl (lv_at hl 0 rfl) ?_
        refine lv_aload_n hx hb dX8_copyFrom_78 rfl (lv_at hl 1 rfl) ?_
        refine tc_geti E hG t1 fi_X8_40 dX8_copyFrom_79 (fun z19 _ _ => ?_)
        refine tc_puti E hG t0 fpc_X8_40 (t_any1 _) (t_any2 _) dX8_copyFrom_82 (fun H locs hG => ?_)
        refine lv_aload_n hx hb dX8_copyFrom_85 rfl (lv_at hl 0 rfl) ?_
        refine lv_aload_n hx hb dX8_copyFrom_86 rfl (lv_at hl 1 rfl) ?_
        refine tc_geti E hG t1 fi_X8_43 dX8_copyFrom_87 (fun z20 _ _ => ?_)
        refine tc_puti E hG t0 fpc_X8_43 (t_any1 _) (t_any2 _) dX8_copyFrom_90 (fun H locs hG => ?_)
        refine lv_aload_n hx hb dX8_copyFrom_93 rfl (lv_at hl 0 rfl) ?_
        refine lv_aload_n hx hb dX8_copyFrom_94 rfl (lv_at hl 1 rfl) ?_
        refine tc_geti E hG t1 fi_X8_122 dX8_copyFrom_95 (fun z21 _ _ => ?_)
        refine tc_puti E hG t0 fpc_X8_122 (t_any1 _) (t_any2 _) dX8_copyFrom_98 (fun H locs hG => ?_)
        refine lv_aload_n hx hb dX8_copyFrom_101 rfl (lv_at hl 0 rfl) ?_
        refine lv_aload_n hx hb dX8_copyFrom_102 rfl (lv_at hl 1 rfl) ?_
        refine tc_geti E hG t1 fi_X8_125 dX8_copyFrom_103 (fun z22 _ _ => ?_)
        refine tc_puti E hG t0 fpc_X8_125 (t_any1 _) (t_any2 _) dX8_copyFrom_106 (fun H locs hG => ?_)
        refine lv_aload_n hx hb dX8_copyFrom_109 rfl (lv_at hl 0 rfl) ?_
        refine lv_aload_n hx hb dX8_copyFrom_110 rfl (lv_at hl 1 rfl) ?_
        refine tc_geti E hG t1 fi_X8_70 dX8_copyFrom_111 (fun z23 lz23 uz23 => ?_)
        refine tc_puti E hG t0 fpc_X8_70 (by omega) (by omega) dX8_copyFrom_114 (fun H locs hG => ?_)
        refine lv_aload_n hx hb dX8_copyFrom_117 rfl (lv_at hl 0 rfl) ?_
        refine lv_aload_n hx hb dX8_copyFrom_118 rfl (lv_at hl 1 rfl) ?_
        refine tc_geti E hG t1 fi_X8_24 dX8_copyFrom_119 (fun z24 _ _ => ?_)
        refine tc_puti E hG t0 fpc_X8_24 (t_any1 _) (t_any2 _) dX8_copyFrom_122 (fun H locs hG => ?_)
        refine lv_aload_n hx hb dX8_copyFrom_125 rfl (lv_at hl 0 rfl) ?_
        refine lv_aload_n hx hb dX8_copyFrom_126 rfl (lv_at hl 1 rfl) ?_
        refine tc_geti E hG t1 fi_X8_28 dX8_copyFrom_127 (fun z25 _ _ => ?_)
        refine tc_puti E hG t0 fpc_X8_28 (t_any1 _) (t_any2 _) dX8_copyFrom_130 (fun H locs hG => ?_)
        refine lv_aload_n hx hb dX8_copyFrom_133 rfl (lv_at hl 0 rfl) ?_
        refine lv_aload_n hx hb dX8_copyFrom_134 rfl (lv_at hl 1 rfl) ?_
        refine tc_geti E hG t1 fi_X8_31 dX8_copyFrom_135 (fun z26 _ _ => ?_)
        refine tc_puti E hG t0 fpc_X8_31 (t_any1 _) (t_any2 _) dX8_copyFrom_138 (fun H locs hG => ?_)
        refine lv_aload_n hx hb dX8_copyFrom_141 rfl (lv_at hl 0 rfl) ?_
        refine lv_aload_n hx hb dX8_copyFrom_142 rfl (lv_at hl 1 rfl) ?_
        refine tc_geti E hG t1 fi_X8_34 dX8_copyFrom_143 (fun z27 _ _ => ?_)
        refine tc_puti E hG t0 fpc_X8_34 (t_any1 _) (t_any2 _) dX8_copyFrom_146 (fun H locs hG => ?_)
        exact tc_vret E hr hlk hG dX8_copyFrom_149
      · skip
        have ic3 := tn_nle rfl rfl c3
        refine lv_aload_n hx hb dX8_copyFrom_10 rfl (lv_at hl 1 rfl) ?_
        refine lv_iload_n hx hb dX8_copyFrom_11 rfl (lv_at hl 2 rfl) ?_
        refine tc_callp (tc_runV (As := [.int v2]) (rest := []) E hSt hG (c_X8_has l G τ h1 v2 t1) t1 rv_2 kv_X8_has ml_X8_55 ⟨rfl, rfl, Nat.le_of_ble_eq_true rfl, Nat.le_of_ble_eq_true rfl⟩ rfl hl.1 rfl (Nat.le_of_ble_eq_true rfl) ⟨Nat.zero_le _, Nat.zero_le _⟩ dX8_copyFrom_12) (fun r28 pr28 => ?_)
        have pr28 : (0 ≤ r28.toInt ∧ r28.toInt ≤ 1) ∧ (r28.toInt = 0 ∨ (0 ≤ v2.toInt ∧ v2.toInt ≤ 23)) := pr28
        refine lv_if_eq (tgt := 33) hx hb dX8_copyFrom_15 (by decide) (fun c29 => ?_) (fun c29 => ?_)
        · skip
          have ic29 := tn_eq rfl kI_0 c29
          exact J33 H locs ls v2 hG (lv_sub hl [0, 1, 2] rfl) (by omega) (by omega) (by omega)
        · skip
          have ic29 := tn_ne rfl kI_0 c29
          refine lv_aload_n hx hb dX8_copyFrom_18 rfl (lv_at hl 0 rfl) ?_
          refine tc_getr E hG t0 frc_X8_11 dX8_copyFrom_19 (fun oa30 hoa30 => ?_)
          refine lv_iload_n hx hb dX8_copyFrom_22 rfl (lv_at hl 2 rfl) ?_
          refine tc_aald3 E hG hoa30 ta_34 (t_in (by omega) (by omega)) dX8_copyFrom_23 (fun oa31 hoa31 => ?_)
          refine lv_aload_n hx hb dX8_copyFrom_24 rfl (lv_at hl 1 rfl) ?_
          refine tc_getr E hG t1 fr_X8_11 dX8_copyFrom_25 (fun oa32 hoa32 => ?_)
          refine lv_iload_n hx hb dX8_copyFrom_28 rfl (lv_at hl 2 rfl) ?_
          refine tc_aald3 E hG hoa32 ta_10 (t_in (by omega) (by omega)) dX8_copyFrom_29 (fun oa33 hoa33 => ?_)
          refine tc_callv hG (tc_runV (As := [.ref oa33]) (rest := []) E hSt hG (c_X0_copyFrom_k l G τ oa31 oa33 hoa31 hoa33) hoa31 rv_31 kv_X0_copyFrom ml_X8_172 ⟨rfl, rfl, Nat.le_of_ble_eq_true rfl, Nat.le_of_ble_eq_true rfl⟩ rfl hl.1 rfl (Nat.le_of_ble_eq_true rfl) ⟨Nat.zero_le _, Nat.zero_le _⟩ dX8_copyFrom_30) (fun H locs hG => ?_)
          exact J33 H locs ls v2 hG (lv_sub hl [0, 1, 2] rfl) (by omega) (by omega) (by omega)
  refine lv_iconst (v := 0) hx hb dX8_copyFrom_0 (by decide) ?_
  refine lv_istore_n (lv' := [(2, .int 0), (0, .ref h0), (1, .ref h1)]) hx hb dX8_copyFrom_1 rfl hl (by decide) rfl (fun ls hl => ?_)
  exact J2 ((24 - (0 : Int32).toInt).toNat + 1) H locs ls (0 : Int32) hG (lv_sub hl [1, 2, 0] rfl) (by decide) (by decide) (Nat.lt_succ_self _)

set_option maxHeartbeats 4000000 in
set_option maxRecDepth 100000 in
theorem c_X8_copyFrom_t (l : Launch) (G : tG) (τ : Nat → Nat) (h0 : Nat) (h1 : Nat) (t0 : τ h0 = 26) (t1 : τ h1 = 28) : Met l yX8_copyFrom (.code yX8_copyFrom cX8_copyFrom 3 none :: tWS) (tRm 2 61) (va_Pc [.ref h0, .ref h1] (tPre G τ)) (tQv G τ) 0 0 (tA τ) := by
  refine tc_met (by decide) (Nat.le_of_ble_eq_true rfl) ?_
  intro p e s m below meth c E hSt hr hlk hG ls hl
  have hl : lv_has ls 3 [(0, .ref h0), (1, .ref h1)] := hl
  have hx := E.1
  have hb := E.2.1
  obtain ⟨H, eH⟩ : ∃ H, H = s.heap := ⟨_, rfl⟩
  obtain ⟨locs, eL⟩ : ∃ x : List Loc, x = [] := ⟨_, rfl⟩
  have hG : tGH G τ s H locs := by rw [eH, eL]; exact hG
  suffices hW : W p l e (tRm 2 61) s m ([.ref h0, .ref h1] : List Value).toArray below meth c H locs 0 0 (MQ below (tQv G τ) ([.ref h0, .ref h1] : List Value).toArray s 0 0 (tA τ)) (F0 m 0 ls []) by subst eH; subst eL; exact hW
  clear eH eL
  have J2 : ∀ (n2 : Nat) (H : Heap) (locs : List Loc) (ls : Array Slot) (v2 : Int32), tGH G τ s H locs → lv_has ls 3 [(0, .ref h0), (1, .ref h1), (2, .int v2)] → 0 ≤ v2.toInt → v2.toInt ≤ 24 → (24 - v2.toInt).toNat < n2 → W p l e (tRm 2 61) s m ([.ref h0, .ref h1] : List Value).toArray below meth c H locs 0 0 (MQ below (tQv G τ) ([.ref h0, .ref h1] : List Value).toArray s 0 0 (tA τ)) (F0 m 2 ls []) := by
    intro n2
    induction n2 with
    | zero => intro H locs ls v2 hG hl b2 c2 hn2; exact absurd hn2 (Nat.not_lt_zero _)
    | succ n2 ih2 =>
      intro H locs ls v2 hG hl b2 c2 hn2
      have J33 : ∀ (H : Heap) (locs : List Loc) (ls : Array Slot) (v2 : Int32), tGH G τ s H locs → lv_has ls 3 [(0, .ref h0), (1, .ref h1), (2, .int v2)] → 0 ≤ v2.toInt → v2.toInt ≤ 23 → (24 - v2.toInt).toNat < n2 + 1 → W p l e (tRm 2 61) s m ([.ref h0, .ref h1] : List Value).toArray below meth c H locs 0 0 (MQ below (tQv G τ) ([.ref h0, .ref h1] : List Value).toArray s 0 0 (tA τ)) (F0 m 33 ls []) := by
        intro H locs ls v2 hG hl b2 c2 hm2
        obtain ⟨z1, ez1⟩ : ∃ y : Int32, y = v2 + (1) := ⟨_, rfl⟩
        refine lv_iinc (v := z1) (lv' := [(2, .int z1), (0, .ref h0), (1, .ref h1)]) hx hb dX8_copyFrom_33 hl (k := 2) rfl (by rw [ez1]; rfl) (by decide) rfl (fun ls hl => ?_)
        have tz1 := tn_add ez1 rfl kI_1 (by omega) (by omega)
        refine lv_goto (tgt := 2) hx hb dX8_copyFrom_36 (by decide) ?_
        exact ih2 H locs ls z1 hG (lv_sub hl [1, 2, 0] rfl) (by omega) (by omega) (by omega)
      refine lv_iload_n hx hb dX8_copyFrom_2 rfl (lv_at hl 2 rfl) ?_
      refine lv_aload_n hx hb dX8_copyFrom_3 rfl (lv_at hl 1 rfl) ?_
      refine tc_geti E hG t1 fit_X8_70 dX8_copyFrom_4 (fun z2 lz2 uz2 => ?_)
      refine lv_icmp_ge (tgt := 39) hx hb dX8_copyFrom_7 (by decide) (fun c3 => ?_) (fun c3 => ?_)
      · skip
        have ic3 := tn_le rfl rfl c3
        refine lv_aload_n hx hb dX8_copyFrom_39 rfl (lv_at hl 1 rfl) ?_
        refine tc_getr E hG t1 frt_X8_17 dX8_copyFrom_40 (fun oa4 hoa4 => ?_)
        refine lv_iconst (v := 0) hx hb dX8_copyFrom_43 (by decide) ?_
        refine lv_aload_n hx hb dX8_copyFrom_44 rfl (lv_at hl 0 rfl) ?_
        refine tc_getr E hG t0 frc_X8_17 dX8_copyFrom_45 (fun oa5 hoa5 => ?_)
        refine lv_iconst (v := 0) hx hb dX8_copyFrom_48 (by decide) ?_
        refine lv_bipush (v := 8) hx hb dX8_copyFrom_49 (by decide) ?_
        have k8 := kI_8
        have k9 := kI_0
        have k10 := kI_0
        refine tc_copyi (rest := []) E hl.1 hG ml_X8_176 kn_copy1 kn_copy2 kn_copy3 hoa4 hoa5 ta_36 ta_36 (by omega) (by omega) (by omega) (by omega) (by omega) ⟨Nat.le_of_ble_eq_true rfl, by decide +kernel⟩ dX8_copyFrom_51 (fun H locs hG oq6 => ?_)
        refine lv_aload_n hx hb dX8_copyFrom_54 rfl (lv_at hl 1 rfl) ?_
        refine tc_getr E hG t1 frt_X8_21 dX8_copyFrom_55 (fun oa11 hoa11 => ?_)
        refine lv_iconst (v := 0) hx hb dX8_copyFrom_58 (by decide) ?_
        refine lv_aload_n hx hb dX8_copyFrom_59 rfl (lv_at hl 0 rfl) ?_
        refine tc_getr E hG t0 frc_X8_21 dX8_copyFrom_60 (fun oa12 hoa12 => ?_)
        refine lv_iconst (v := 0) hx hb dX8_copyFrom_63 (by decide) ?_
        refine lv_bipush (v := 8) hx hb dX8_copyFrom_64 (by decide) ?_
        have k15 := kI_8
        have k16 := kI_0
        have k17 := kI_0
        refine tc_copyi (rest := []) E hl.1 hG ml_X8_176 kn_copy1 kn_copy2 kn_copy3 hoa11 hoa12 ta_13 ta_13 (by omega) (by omega) (by omega) (by omega) (by omega) ⟨Nat.le_of_ble_eq_true rfl, by decide +kernel⟩ dX8_copyFrom_66 (fun H locs hG oq13 => ?_)
        refine lv_aload_n hx hb dX8_copyFrom_69 rfl (lv_at hl 0 rfl) ?_
        refine lv_aload_n hx hb dX8_copyFrom_70 rfl (lv_at hl 1 rfl) ?_
        refine tc_geti E hG t1 fit_X8_145 dX8_copyFrom_71 (fun z18 lz18 uz18 => ?_)
        refine tc_puti E hG t0 fpc_X8_145 (by omega) (by omega) dX8_copyFrom_74 (fun H locs hG => ?_)
        refine lv_aload_n hx hb dX8_copyFrom_77 rfl (lv_at hl 0 rfl) ?_
        refine lv_aload_n hx hb dX8_copyFrom_78 rfl (lv_at hl 1 rfl) ?_
        refine tc_geti E hG t1 fit_X8_40 dX8_copyFrom_79 (fun z19 _ _ => ?_)
        refine tc_puti E hG t0 fpc_X8_40 (t_any1 _) (t_any2 _) dX8_copyFrom_82 (fun H locs hG => ?_)
        refine lv_aload_n hx hb dX8_copyFrom_85 rfl (lv_at hl 0 rfl) ?_
        refine lv_aload_n hx hb dX8_copyFrom_86 rfl (lv_at hl 1 rfl) ?_
        refine tc_geti E hG t1 fit_X8_43 dX8_copyFrom_87 (fun z20 _ _ => ?_)
        refine tc_puti E hG t0 fpc_X8_43 (t_any1 _) (t_any2 _) dX8_copyFrom_90 (fun H locs hG => ?_)
        refine lv_aload_n hx hb dX8_copyFrom_93 rfl (lv_at hl 0 rfl) ?_
        refine lv_aload_n hx hb dX8_copyFrom_94 rfl (lv_at hl 1 rfl) ?_
        refine tc_geti E hG t1 fit_X8_122 dX8_copyFrom_95 (fun z21 _ _ => ?_)
        refine tc_puti E hG t0 fpc_X8_122 (t_any1 _) (t_any2 _) dX8_copyFrom_98 (fun H locs hG => ?_)
        refine lv_aload_n hx hb dX8_copyFrom_101 rfl (lv_at hl 0 rfl) ?_
        refine lv_aload_n hx hb dX8_copyFrom_102 rfl (lv_at hl 1 rfl) ?_
        refine tc_geti E hG t1 fit_X8_125 dX8_copyFrom_103 (fun z22 _ _ => ?_)
        refine tc_puti E hG t0 fpc_X8_125 (t_any1 _) (t_any2 _) dX8_copyFrom_106 (fun H locs hG => ?_)
        refine lv_aload_n hx hb dX8_copyFrom_109 rfl (lv_at hl 0 rfl) ?_
        refine lv_aload_n hx hb dX8_copyFrom_110 rfl (lv_at hl 1 rfl) ?_
        refine tc_geti E hG t1 fit_X8_70 dX8_copyFrom_111 (fun z23 lz23 uz23 => ?_)
        refine tc_puti E hG t0 fpc_X8_70 (by omega) (by omega) dX8_copyFrom_114 (fun H locs hG => ?_)
        refine lv_aload_n hx hb dX8_copyFrom_117 rfl (lv_at hl 0 rfl) ?_
        refine lv_aload_n hx hb dX8_copyFrom_118 rfl (lv_at hl 1 rfl) ?_
        refine tc_geti E hG t1 fit_X8_24 dX8_copyFrom_119 (fun z24 lz24 uz24 => ?_)
        refine tc_puti E hG t0 fpc_X8_24 (t_any1 _) (t_any2 _) dX8_copyFrom_122 (fun H locs hG => ?_)
        refine lv_aload_n hx hb dX8_copyFrom_125 rfl (lv_at hl 0 rfl) ?_
        refine lv_aload_n hx hb dX8_copyFrom_126 rfl (lv_at hl 1 rfl) ?_
        refine tc_geti E hG t1 fit_X8_28 dX8_copyFrom_127 (fun z25 _ _ => ?_)
        refine tc_puti E hG t0 fpc_X8_28 (t_any1 _) (t_any2 _) dX8_copyFrom_130 (fun H locs hG => ?_)
        refine lv_aload_n hx hb dX8_copyFrom_133 rfl (lv_at hl 0 rfl) ?_
        refine lv_aload_n hx hb dX8_copyFrom_134 rfl (lv_at hl 1 rfl) ?_
        refine tc_geti E hG t1 fit_X8_31 dX8_copyFrom_135 (fun z26 _ _ => ?_)
        refine tc_puti E hG t0 fpc_X8_31 (t_any1 _) (t_any2 _) dX8_copyFrom_138 (fun H locs hG => ?_)
        refine lv_aload_n hx hb dX8_copyFrom_141 rfl (lv_at hl 0 rfl) ?_
        refine lv_aload_n hx hb dX8_copyFrom_142 rfl (lv_at hl 1 rfl) ?_
        refine tc_geti E hG t1 fit_X8_34 dX8_copyFrom_143 (fun z27 _ _ => ?_)
        refine tc_puti E hG t0 fpc_X8_34 (t_any1 _) (t_any2 _) dX8_copyFrom_146 (fun H locs hG => ?_)
        exact tc_vret E hr hlk hG dX8_copyFrom_149
      · skip
        have ic3 := tn_nle rfl rfl c3
        refine lv_aload_n hx hb dX8_copyFrom_10 rfl (lv_at hl 1 rfl) ?_
        refine lv_iload_n hx hb dX8_copyFrom_11 rfl (lv_at hl 2 rfl) ?_
        refine tc_callp (tc_runV (As := [.int v2]) (rest := []) E hSt hG (c_X8_has_t l G τ h1 v2 t1) t1 rv_28 kv_X8_has ml_X8_55 ⟨rfl, rfl, Nat.le_of_ble_eq_true rfl, Nat.le_of_ble_eq_true rfl⟩ rfl hl.1 rfl (Nat.le_of_ble_eq_true rfl) ⟨Nat.zero_le _, Nat.zero_le _⟩ dX8_copyFrom_12) (fun r28 pr28 => ?_)
        have pr28 : (0 ≤ r28.toInt ∧ r28.toInt ≤ 1) ∧ (r28.toInt = 0 ∨ (0 ≤ v2.toInt ∧ v2.toInt ≤ 23)) := pr28
        refine lv_if_eq (tgt := 33) hx hb dX8_copyFrom_15 (by decide) (fun c29 => ?_) (fun c29 => ?_)
        · skip
          have ic29 := tn_eq rfl kI_0 c29
          exact J33 H locs ls v2 hG (lv_sub hl [0, 1, 2] rfl) (by omega) (by omega) (by omega)
        · skip
          have ic29 := tn_ne rfl kI_0 c29
          refine lv_aload_n hx hb dX8_copyFrom_18 rfl (lv_at hl 0 rfl) ?_
          refine tc_getr E hG t0 frc_X8_11 dX8_copyFrom_19 (fun oa30 hoa30 => ?_)
          refine lv_iload_n hx hb dX8_copyFrom_22 rfl (lv_at hl 2 rfl) ?_
          refine tc_aald3 E hG hoa30 ta_34 (t_in (by omega) (by omega)) dX8_copyFrom_23 (fun oa31 hoa31 => ?_)
          refine lv_aload_n hx hb dX8_copyFrom_24 rfl (lv_at hl 1 rfl) ?_
          refine tc_getr E hG t1 frt_X8_11 dX8_copyFrom_25 (fun oa32 hoa32 => ?_)
          refine lv_iload_n hx hb dX8_copyFrom_28 rfl (lv_at hl 2 rfl) ?_
          refine tc_aald3 E hG hoa32 ta_10 (t_in (by omega) (by omega)) dX8_copyFrom_29 (fun oa33 hoa33 => ?_)
          refine tc_callv hG (tc_runV (As := [.ref oa33]) (rest := []) E hSt hG (c_X0_copyFrom_k l G τ oa31 oa33 hoa31 hoa33) hoa31 rv_31 kv_X0_copyFrom ml_X8_172 ⟨rfl, rfl, Nat.le_of_ble_eq_true rfl, Nat.le_of_ble_eq_true rfl⟩ rfl hl.1 rfl (Nat.le_of_ble_eq_true rfl) ⟨Nat.zero_le _, Nat.zero_le _⟩ dX8_copyFrom_30) (fun H locs hG => ?_)
          exact J33 H locs ls v2 hG (lv_sub hl [0, 1, 2] rfl) (by omega) (by omega) (by omega)
  refine lv_iconst (v := 0) hx hb dX8_copyFrom_0 (by decide) ?_
  refine lv_istore_n (lv' := [(2, .int 0), (0, .ref h0), (1, .ref h1)]) hx hb dX8_copyFrom_1 rfl hl (by decide) rfl (fun ls hl => ?_)
  exact J2 ((24 - (0 : Int32).toInt).toNat + 1) H locs ls (0 : Int32) hG (lv_sub hl [1, 2, 0] rfl) (by decide) (by decide) (Nat.lt_succ_self _)
