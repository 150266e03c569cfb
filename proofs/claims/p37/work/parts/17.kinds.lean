theorem tl_ne {x y : Int64} {z : Int32} (ez : z = lg_cmp x y) (h : ¬ z.toInt = 0) : ¬ x = y := by
  intro e
  subst e
  exact h (by rw [ez]; simp [lg_cmp])
theorem tRm_ok {f lo F LO k : Nat} (h1 : f + 1 ≤ F) (h2 : 8 + (k + 11) + lo ≤ LO) : (tRm f lo).cells = 0 ∧ (tRm f lo).slots = 0 ∧ (tRm f lo).frames + 1 ≤ (tRm F LO).frames ∧ 8 + (k + 11) + (tRm f lo).locals ≤ (tRm F LO).locals := ⟨rfl, rfl, h1, h2⟩
theorem tMx1 {F LO : Nat} (h : 1 ≤ F) : 1 ≤ (tRm F LO).frames := h
theorem tMx2 {F LO k w : Nat} {rest : List Value} (e : (rest.map fun v => v.category).sum = k) (h : k + w ≤ LO) : (rest.map fun v => v.category).sum + w ≤ (tRm F LO).locals := by rw [e]; exact h
theorem tq_some {τ : Nat → Nat} {b t : Nat} (h : (some b : Option Nat) = none ∨ ∃ y, (some b : Option Nat) = some y ∧ τ y = t) : τ b = t := by
  rcases h with h | ⟨y, h, e⟩
  · cases h
  · cases h; exact e

theorem tn_tab0 {z : Int32} {n : Nat} (e : z = tSw 0 n) : 0 ≤ z.toInt ∧ z.toInt ≤ 4 := by
  subst e
  by_cases h : n < 10
  · rcases (show n = 0 ∨ n = 1 ∨ n = 2 ∨ n = 3 ∨ n = 4 ∨ n = 5 ∨ n = 6 ∨ n = 7 ∨ n = 8 ∨ n = 9 by omega) with h | h | h | h | h | h | h | h | h | h <;> subst h <;> decide
  · have : tSw 0 n = 0 := by
      unfold tSw
      simp only [List.getD_cons_zero, List.getD_cons_succ, List.getD_nil]
      rw [List.getD_eq_getElem?_getD, List.getElem?_eq_none (by simp; omega)]
      rfl
    rw [this]
    decide

theorem tn_tab1 {z : Int32} {n : Nat} (e : z = tSw 1 n) : 0 ≤ z.toInt ∧ z.toInt ≤ 8 := by
  subst e
  by_cases h : n < 10
  · rcases (show n = 0 ∨ n = 1 ∨ n = 2 ∨ n = 3 ∨ n = 4 ∨ n = 5 ∨ n = 6 ∨ n = 7 ∨ n = 8 ∨ n = 9 by omega) with h | h | h | h | h | h | h | h | h | h <;> subst h <;> decide
  · have : tSw 1 n = 0 := by
      unfold tSw
      simp only [List.getD_cons_zero, List.getD_cons_succ, List.getD_nil]
      rw [List.getD_eq_getElem?_getD, List.getElem?_eq_none (by simp; omega)]
      rfl
    rw [this]
    decide

theorem tn_tab2 {z : Int32} {n : Nat} (e : z = tSw 2 n) : 0 ≤ z.toInt ∧ z.toInt ≤ 1 := by
  subst e
  by_cases h : n < 10
  · rcases (show n = 0 ∨ n = 1 ∨ n = 2 ∨ n = 3 ∨ n = 4 ∨ n = 5 ∨ n = 6 ∨ n = 7 ∨ n = 8 ∨ n = 9 by omega) with h | h | h | h | h | h | h | h | h | h <;> subst h <;> decide
  · have : tSw 2 n = 0 := by
      unfold tSw
      simp only [List.getD_cons_zero, List.getD_cons_succ, List.getD_nil]
      rw [List.getD_eq_getElem?_getD, List.getElem?_eq_none (by simp; omega)]
      rfl
    rw [this]
    decide

theorem tn_tab3 {z : Int32} {n : Nat} (e : z = tSw 3 n) : 0 ≤ z.toInt ∧ z.toInt ≤ 99 := by
  subst e
  by_cases h : n < 10
  · rcases (show n = 0 ∨ n = 1 ∨ n = 2 ∨ n = 3 ∨ n = 4 ∨ n = 5 ∨ n = 6 ∨ n = 7 ∨ n = 8 ∨ n = 9 by omega) with h | h | h | h | h | h | h | h | h | h <;> subst h <;> decide
  · have : tSw 3 n = 0 := by
      unfold tSw
      simp only [List.getD_cons_zero, List.getD_cons_succ, List.getD_nil]
      rw [List.getD_eq_getElem?_getD, List.getElem?_eq_none (by simp; omega)]
      rfl
    rw [this]
    decide

theorem tn_tab4 {z : Int32} {n : Nat} (e : z = tSw 4 n) : 0 ≤ z.toInt ∧ z.toInt ≤ 99 := by
  subst e
  by_cases h : n < 10
  · rcases (show n = 0 ∨ n = 1 ∨ n = 2 ∨ n = 3 ∨ n = 4 ∨ n = 5 ∨ n = 6 ∨ n = 7 ∨ n = 8 ∨ n = 9 by omega) with h | h | h | h | h | h | h | h | h | h <;> subst h <;> decide
  · have : tSw 4 n = 0 := by
      unfold tSw
      simp only [List.getD_cons_zero, List.getD_cons_succ, List.getD_nil]
      rw [List.getD_eq_getElem?_getD, List.getElem?_eq_none (by simp; omega)]
      rfl
    rw [this]
    decide

set_option maxHeartbeats 4000000 in
set_option maxRecDepth 100000 in
theorem c_X8_has (l : Launch) (G : tG) (τ : Nat → Nat) (h0 : Nat) (x1 : Int32) (t0 : τ h0 = 2) : Met l yX8_has (.code yX8_has cX8_has 2 (some .boolean) :: tWS) (tRm 0 0) (va_Pc [.ref h0, .int x1] (tPre G τ)) (tQp (fun r => (0 ≤ r.toInt ∧ r.toInt ≤ 1) ∧ (r.toInt = 0 ∨ (0 ≤ x1.toInt ∧ x1.toInt ≤ 23)))) 0 0 tNo := by
  refine tc_met (by decide) (Nat.le_of_ble_eq_true rfl) ?_
  intro p e s m below meth c E hSt hr hlk hG ls hl
  have hl : lv_has ls 2 [(0, .ref h0), (1, .int x1)] := hl
  have hx := E.1
  have hb := E.2.1
  obtain ⟨H, eH⟩ : ∃ H, H = s.heap := ⟨_, rfl⟩
  obtain ⟨locs, eL⟩ : ∃ x : List Loc, x = [] := ⟨_, rfl⟩
  have hG : tGH G τ s H locs := by rw [eH, eL]; exact hG
  suffices hW : W p l e (tRm 0 0) s m ([.ref h0, .int x1] : List Value).toArray below meth c H locs 0 0 (MQ below (tQp (fun r => (0 ≤ r.toInt ∧ r.toInt ≤ 1) ∧ (r.toInt = 0 ∨ (0 ≤ x1.toInt ∧ x1.toInt ≤ 23)))) ([.ref h0, .int x1] : List Value).toArray s 0 0 tNo) (F0 m 0 ls []) by subst eH; subst eL; exact hW
  refine lv_iload_n hx hb dX8_has_0 rfl (lv_at hl 1 rfl) ?_
  refine lv_if_lt (tgt := 26) hx hb dX8_has_1 (by decide) (fun c1 => ?_) (fun c1 => ?_)
  · skip
    have ic1 := tn_lt rfl kI_0 c1
    refine lv_iconst (v := 0) hx hb dX8_has_26 (by decide) ?_
    exact tc_pret E hr hlk eH eL (t_nz (by decide) (by decide)).1 (show (0 ≤ (0 : Int32).toInt ∧ (0 : Int32).toInt ≤ 1) ∧ ((0 : Int32).toInt = 0 ∨ (0 ≤ x1.toInt ∧ x1.toInt ≤ 23)) by have kk := kI_0; omega) dX8_has_27
  · skip
    have ic1 := tn_nlt rfl kI_0 c1
    refine lv_iload_n hx hb dX8_has_4 rfl (lv_at hl 1 rfl) ?_
    refine lv_bipush (v := 24) hx hb dX8_has_5 (by decide) ?_
    refine lv_icmp_ge (tgt := 26) hx hb dX8_has_7 (by decide) (fun c2 => ?_) (fun c2 => ?_)
    · skip
      have ic2 := tn_le kI_24 rfl c2
      refine lv_iconst (v := 0) hx hb dX8_has_26 (by decide) ?_
      exact tc_pret E hr hlk eH eL (t_nz (by decide) (by decide)).1 (show (0 ≤ (0 : Int32).toInt ∧ (0 : Int32).toInt ≤ 1) ∧ ((0 : Int32).toInt = 0 ∨ (0 ≤ x1.toInt ∧ x1.toInt ≤ 23)) by have kk := kI_0; omega) dX8_has_27
    · skip
      have ic2 := tn_nle kI_24 rfl c2
      refine lv_aload_n hx hb dX8_has_10 rfl (lv_at hl 0 rfl) ?_
      refine tc_geti E hG t0 fi_X8_40 dX8_has_11 (fun z3 _ _ => ?_)
      refine lv_iload_n hx hb dX8_has_14 rfl (lv_at hl 1 rfl) ?_
      refine lv_iushr hx hb dX8_has_15 rfl ?_
      refine lv_topi (fun z4 ez4 => ?_)
      refine lv_iconst (v := 1) hx hb dX8_has_16 (by decide) ?_
      refine lv_iand hx hb dX8_has_17 ?_
      refine lv_topi (fun z5 ez5 => ?_)
      refine lv_iconst (v := 1) hx hb dX8_has_18 (by decide) ?_
      refine lv_icmp_ne (tgt := 26) hx hb dX8_has_19 (by decide) (fun c6 => ?_) (fun c6 => ?_)
      · skip
        have ic6 := tn_ne rfl kI_1 c6
        refine lv_iconst (v := 0) hx hb dX8_has_26 (by decide) ?_
        exact tc_pret E hr hlk eH eL (t_nz (by decide) (by decide)).1 (show (0 ≤ (0 : Int32).toInt ∧ (0 : Int32).toInt ≤ 1) ∧ ((0 : Int32).toInt = 0 ∨ (0 ≤ x1.toInt ∧ x1.toInt ≤ 23)) by have kk := kI_0; omega) dX8_has_27
      · skip
        have ic6 := tn_eq rfl kI_1 c6
        refine lv_iconst (v := 1) hx hb dX8_has_22 (by decide) ?_
        refine lv_goto (tgt := 27) hx hb dX8_has_23 (by decide) ?_
        exact tc_pret E hr hlk eH eL (t_nz (by decide) (by decide)).1 (show (0 ≤ (1 : Int32).toInt ∧ (1 : Int32).toInt ≤ 1) ∧ ((1 : Int32).toInt = 0 ∨ (0 ≤ x1.toInt ∧ x1.toInt ≤ 23)) by have kk := kI_1; omega) dX8_has_27

set_option maxHeartbeats 4000000 in
set_option maxRecDepth 100000 in
theorem c_X8_isDirty (l : Launch) (G : tG) (τ : Nat → Nat) (h0 : Nat) (x1 : Int32) (t0 : τ h0 = 2) : Met l yX8_isDirty (.code yX8_isDirty cX8_isDirty 2 (some .boolean) :: tWS) (tRm 0 0) (va_Pc [.ref h0, .int x1] (tPre G τ)) (tQp (fun r => 0 ≤ r.toInt ∧ r.toInt ≤ 1)) 0 0 tNo := by
  refine tc_met (by decide) (Nat.le_of_ble_eq_true rfl) ?_
  intro p e s m below meth c E hSt hr hlk hG ls hl
  have hl : lv_has ls 2 [(0, .ref h0), (1, .int x1)] := hl
  have hx := E.1
  have hb := E.2.1
  obtain ⟨H, eH⟩ : ∃ H, H = s.heap := ⟨_, rfl⟩
  obtain ⟨locs, eL⟩ : ∃ x : List Loc, x = [] := ⟨_, rfl⟩
  have hG : tGH G τ s H locs := by rw [eH, eL]; exact hG
  suffices hW : W p l e (tRm 0 0) s m ([.ref h0, .int x1] : List Value).toArray below meth c H locs 0 0 (MQ below (tQp (fun r => 0 ≤ r.toInt ∧ r.toInt ≤ 1)) ([.ref h0, .int x1] : List Value).toArray s 0 0 tNo) (F0 m 0 ls []) by subst eH; subst eL; exact hW
  refine lv_aload_n hx hb dX8_isDirty_0 rfl (lv_at hl 0 rfl) ?_
  refine tc_geti E hG t0 fi_X8_43 dX8_isDirty_1 (fun z1 _ _ => ?_)
  refine lv_iload_n hx hb dX8_isDirty_4 rfl (lv_at hl 1 rfl) ?_
  refine lv_iushr hx hb dX8_isDirty_5 rfl ?_
  refine lv_topi (fun z2 ez2 => ?_)
  refine lv_iconst (v := 1) hx hb dX8_isDirty_6 (by decide) ?_
  refine lv_iand hx hb dX8_isDirty_7 ?_
  refine lv_topi (fun z3 ez3 => ?_)
  refine lv_iconst (v := 1) hx hb dX8_isDirty_8 (by decide) ?_
  refine lv_icmp_ne (tgt := 16) hx hb dX8_isDirty_9 (by decide) (fun c4 => ?_) (fun c4 => ?_)
  · skip
    have ic4 := tn_ne rfl kI_1 c4
    refine lv_iconst (v := 0) hx hb dX8_isDirty_16 (by decide) ?_
    exact tc_pret E hr hlk eH eL (t_nz (by decide) (by decide)).1 (show 0 ≤ (0 : Int32).toInt ∧ (0 : Int32).toInt ≤ 1 by have kk := kI_0; omega) dX8_isDirty_17
  · skip
    have ic4 := tn_eq rfl kI_1 c4
    refine lv_iconst (v := 1) hx hb dX8_isDirty_12 (by decide) ?_
    refine lv_goto (tgt := 17) hx hb dX8_isDirty_13 (by decide) ?_
    exact tc_pret E hr hlk eH eL (t_nz (by decide) (by decide)).1 (show 0 ≤ (1 : Int32).toInt ∧ (1 : Int32).toInt ≤ 1 by have kk := kI_1; omega) dX8_isDirty_17

set_option maxHeartbeats 4000000 in
set_option maxRecDepth 100000 in
theorem c_X1_isKind (l : Launch) (G : tG) (τ : Nat → Nat) (x0 : Int32)  : Met l yX1_isKind (.code yX1_isKind cX1_isKind 1 (some .boolean) :: tWS) (tRm 0 0) (va_Pc [.int x0] (tPre G τ)) (tQp (fun r => (0 ≤ r.toInt ∧ r.toInt ≤ 1) ∧ (r.toInt = 0 ∨ (0 ≤ x0.toInt ∧ x0.toInt ≤ 9)))) 0 0 tNo := by
  refine tc_met (by decide) (Nat.le_of_ble_eq_true rfl) ?_
  intro p e s m below meth c E hSt hr hlk hG ls hl
  have hl : lv_has ls 1 [(0, .int x0)] := hl
  have hx := E.1
  have hb := E.2.1
  obtain ⟨H, eH⟩ : ∃ H, H = s.heap := ⟨_, rfl⟩
  obtain ⟨locs, eL⟩ : ∃ x : List Loc, x = [] := ⟨_, rfl⟩
  have hG : tGH G τ s H locs := by rw [eH, eL]; exact hG
  suffices hW : W p l e (tRm 0 0) s m ([.int x0] : List Value).toArray below meth c H locs 0 0 (MQ below (tQp (fun r => (0 ≤ r.toInt ∧ r.toInt ≤ 1) ∧ (r.toInt = 0 ∨ (0 ≤ x0.toInt ∧ x0.toInt ≤ 9)))) ([.int x0] : List Value).toArray s 0 0 tNo) (F0 m 0 ls []) by subst eH; subst eL; exact hW
  refine lv_iload_n hx hb dX1_isKind_0 rfl (lv_at hl 0 rfl) ?_
  refine lv_if_lt (tgt := 14) hx hb dX1_isKind_1 (by decide) (fun c1 => ?_) (fun c1 => ?_)
  · skip
    have ic1 := tn_lt rfl kI_0 c1
    refine lv_iconst (v := 0) hx hb dX1_isKind_14 (by decide) ?_
    exact tc_pret E hr hlk eH eL (t_nz (by decide) (by decide)).1 (show (0 ≤ (0 : Int32).toInt ∧ (0 : Int32).toInt ≤ 1) ∧ ((0 : Int32).toInt = 0 ∨ (0 ≤ x0.toInt ∧ x0.toInt ≤ 9)) by have kk := kI_0; omega) dX1_isKind_15
  · skip
    have ic1 := tn_nlt rfl kI_0 c1
    refine lv_iload_n hx hb dX1_isKind_4 rfl (lv_at hl 0 rfl) ?_
    refine lv_bipush (v := 10) hx hb dX1_isKind_5 (by decide) ?_
    refine lv_icmp_ge (tgt := 14) hx hb dX1_isKind_7 (by decide) (fun c2 => ?_) (fun c2 => ?_)
    · skip
      have ic2 := tn_le kI_10 rfl c2
      refine lv_iconst (v := 0) hx hb dX1_isKind_14 (by decide) ?_
      exact tc_pret E hr hlk eH eL (t_nz (by decide) (by decide)).1 (show (0 ≤ (0 : Int32).toInt ∧ (0 : Int32).toInt ≤ 1) ∧ ((0 : Int32).toInt = 0 ∨ (0 ≤ x0.toInt ∧ x0.toInt ≤ 9)) by have kk := kI_0; omega) dX1_isKind_15
    · skip
      have ic2 := tn_nle kI_10 rfl c2
      refine lv_iconst (v := 1) hx hb dX1_isKind_10 (by decide) ?_
      refine lv_goto (tgt := 15) hx hb dX1_isKind_11 (by decide) ?_
      exact tc_pret E hr hlk eH eL (t_nz (by decide) (by decide)).1 (show (0 ≤ (1 : Int32).toInt ∧ (1 : Int32).toInt ≤ 1) ∧ ((1 : Int32).toInt = 0 ∨ (0 ≤ x0.toInt ∧ x0.toInt ≤ 9)) by have kk := kI_1; omega) dX1_isKind_15

set_option maxHeartbeats 4000000 in
set_option maxRecDepth 100000 in
theorem c_X1_numbersOf (l : Launch) (G : tG) (τ : Nat → Nat) (x0 : Int32)  : Met l yX1_numbersOf (.code yX1_numbersOf cX1_numbersOf 1 (some .int) :: tWS) (tRm 1 20) (va_Pc [.int x0] (tPre G τ)) (tQp (fun r => (0 ≤ r.toInt ∧ r.toInt ≤ 4) ∧ (r.toInt = 0 ∨ (0 ≤ x0.toInt ∧ x0.toInt ≤ 9)))) 0 0 tNo := by
  refine tc_met (by decide) (Nat.le_of_ble_eq_true rfl) ?_
  intro p e s m below meth c E hSt hr hlk hG ls hl
  have hl : lv_has ls 1 [(0, .int x0)] := hl
  have hx := E.1
  have hb := E.2.1
  obtain ⟨H, eH⟩ : ∃ H, H = s.heap := ⟨_, rfl⟩
  obtain ⟨locs, eL⟩ : ∃ x : List Loc, x = [] := ⟨_, rfl⟩
  have hG : tGH G τ s H locs := by rw [eH, eL]; exact hG
  suffices hW : W p l e (tRm 1 20) s m ([.int x0] : List Value).toArray below meth c H locs 0 0 (MQ below (tQp (fun r => (0 ≤ r.toInt ∧ r.toInt ≤ 4) ∧ (r.toInt = 0 ∨ (0 ≤ x0.toInt ∧ x0.toInt ≤ 9)))) ([.int x0] : List Value).toArray s 0 0 tNo) (F0 m 0 ls []) by subst eH; subst eL; exact hW
  refine lv_iload_n hx hb dX1_numbersOf_0 rfl (lv_at hl 0 rfl) ?_
  refine tc_callp (tc_runS (As := [.int x0]) (rest := []) E hSt hG (c_X1_isKind l G τ x0) ks_X1_isKind ml_X1_9 ⟨rfl, rfl, Nat.le_of_ble_eq_true rfl, Nat.le_of_ble_eq_true rfl⟩ rfl hl.1 rfl (Nat.le_of_ble_eq_true rfl) ⟨Nat.zero_le _, Nat.zero_le _⟩ dX1_numbersOf_1) (fun r1 pr1 => ?_)
  have pr1 : (0 ≤ r1.toInt ∧ r1.toInt ≤ 1) ∧ (r1.toInt = 0 ∨ (0 ≤ x0.toInt ∧ x0.toInt ≤ 9)) := pr1
  refine lv_if_eq (tgt := 15) hx hb dX1_numbersOf_4 (by decide) (fun c2 => ?_) (fun c2 => ?_)
  · skip
    have ic2 := tn_eq rfl kI_0 c2
    refine lv_iconst (v := 0) hx hb dX1_numbersOf_15 (by decide) ?_
    exact tc_pret E hr hlk eH eL rfl (show (0 ≤ (0 : Int32).toInt ∧ (0 : Int32).toInt ≤ 4) ∧ ((0 : Int32).toInt = 0 ∨ (0 ≤ x0.toInt ∧ x0.toInt ≤ 9)) by have kk := kI_0; omega) dX1_numbersOf_16
  · skip
    have ic2 := tn_ne rfl kI_0 c2
    refine tc_gets E hSt hG 0 (by decide) fs_X1_15 dX1_numbersOf_7 ?_
    refine lv_iload_n hx hb dX1_numbersOf_10 rfl (lv_at hl 0 rfl) ?_
    refine tc_tald E hSt hG 0 (by decide) (t_in (by omega) (by omega)) dX1_numbersOf_11 ?_
    refine lv_topi (fun z3 ez3 => ?_)
    have tz3 := tn_tab0 ez3
    refine lv_goto (tgt := 16) hx hb dX1_numbersOf_12 (by decide) ?_
    exact tc_pret E hr hlk eH eL rfl (show (0 ≤ z3.toInt ∧ z3.toInt ≤ 4) ∧ (z3.toInt = 0 ∨ (0 ≤ x0.toInt ∧ x0.toInt ≤ 9)) by omega) dX1_numbersOf_16

set_option maxHeartbeats 4000000 in
set_option maxRecDepth 100000 in
theorem c_X1_childrenOf (l : Launch) (G : tG) (τ : Nat → Nat) (x0 : Int32)  : Met l yX1_childrenOf (.code yX1_childrenOf cX1_childrenOf 1 (some .int) :: tWS) (tRm 1 20) (va_Pc [.int x0] (tPre G τ)) (tQp (fun r => 0 ≤ r.toInt ∧ r.toInt ≤ 8)) 0 0 tNo := by
  refine tc_met (by decide) (Nat.le_of_ble_eq_true rfl) ?_
  intro p e s m below meth c E hSt hr hlk hG ls hl
  have hl : lv_has ls 1 [(0, .int x0)] := hl
  have hx := E.1
  have hb := E.2.1
  obtain ⟨H, eH⟩ : ∃ H, H = s.heap := ⟨_, rfl⟩
  obtain ⟨locs, eL⟩ : ∃ x : List Loc, x = [] := ⟨_, rfl⟩
  have hG : tGH G τ s H locs := by rw [eH, eL]; exact hG
  suffices hW : W p l e (tRm 1 20) s m ([.int x0] : List Value).toArray below meth c H locs 0 0 (MQ below (tQp (fun r => 0 ≤ r.toInt ∧ r.toInt ≤ 8)) ([.int x0] : List Value).toArray s 0 0 tNo) (F0 m 0 ls []) by subst eH; subst eL; exact hW
  refine lv_iload_n hx hb dX1_childrenOf_0 rfl (lv_at hl 0 rfl) ?_
  refine tc_callp (tc_runS (As := [.int x0]) (rest := []) E hSt hG (c_X1_isKind l G τ x0) ks_X1_isKind ml_X1_9 ⟨rfl, rfl, Nat.le_of_ble_eq_true rfl, Nat.le_of_ble_eq_true rfl⟩ rfl hl.1 rfl (Nat.le_of_ble_eq_true rfl) ⟨Nat.zero_le _, Nat.zero_le _⟩ dX1_childrenOf_1) (fun r1 pr1 => ?_)
  have pr1 : (0 ≤ r1.toInt ∧ r1.toInt ≤ 1) ∧ (r1.toInt = 0 ∨ (0 ≤ x0.toInt ∧ x0.toInt ≤ 9)) := pr1
  refine lv_if_eq (tgt := 15) hx hb dX1_childrenOf_4 (by decide) (fun c2 => ?_) (fun c2 => ?_)
  · skip
    have ic2 := tn_eq rfl kI_0 c2
    refine lv_iconst (v := 0) hx hb dX1_childrenOf_15 (by decide) ?_
    exact tc_pret E hr hlk eH eL rfl (show 0 ≤ (0 : Int32).toInt ∧ (0 : Int32).toInt ≤ 8 by have kk := kI_0; omega) dX1_childrenOf_16
  · skip
    have ic2 := tn_ne rfl kI_0 c2
    refine tc_gets E hSt hG 1 (by decide) fs_X1_19 dX1_childrenOf_7 ?_
    refine lv_iload_n hx hb dX1_childrenOf_10 rfl (lv_at hl 0 rfl) ?_
    refine tc_tald E hSt hG 1 (by decide) (t_in (by omega) (by omega)) dX1_childrenOf_11 ?_
    refine lv_topi (fun z3 ez3 => ?_)
    have tz3 := tn_tab1 ez3
    refine lv_goto (tgt := 16) hx hb dX1_childrenOf_12 (by decide) ?_
    exact tc_pret E hr hlk eH eL rfl (show 0 ≤ z3.toInt ∧ z3.toInt ≤ 8 by omega) dX1_childrenOf_16

set_option maxHeartbeats 4000000 in
set_option maxRecDepth 100000 in
theorem c_X1_isInRange (l : Launch) (G : tG) (τ : Nat → Nat) (x0 : Int32) (x1 : Int32) (x2 : Int32)  : Met l yX1_isInRange (.code yX1_isInRange cX1_isInRange 4 (some .boolean) :: tWS) (tRm 2 40) (va_Pc [.int x0, .int x1, .int x2] (tPre G τ)) (tQp (fun r => (0 ≤ r.toInt ∧ r.toInt ≤ 1) ∧ (r.toInt = 0 ∨ (0 ≤ x1.toInt ∧ x1.toInt ≤ 3)))) 0 0 tNo := by
  refine tc_met (by decide) (Nat.le_of_ble_eq_true rfl) ?_
  intro p e s m below meth c E hSt hr hlk hG ls hl
  have hl : lv_has ls 4 [(0, .int x0), (1, .int x1), (2, .int x2)] := hl
  have hx := E.1
  have hb := E.2.1
  obtain ⟨H, eH⟩ : ∃ H, H = s.heap := ⟨_, rfl⟩
  obtain ⟨locs, eL⟩ : ∃ x : List Loc, x = [] := ⟨_, rfl⟩
  have hG : tGH G τ s H locs := by rw [eH, eL]; exact hG
  suffices hW : W p l e (tRm 2 40) s m ([.int x0, .int x1, .int x2] : List Value).toArray below meth c H locs 0 0 (MQ below (tQp (fun r => (0 ≤ r.toInt ∧ r.toInt ≤ 1) ∧ (r.toInt = 0 ∨ (0 ≤ x1.toInt ∧ x1.toInt ≤ 3)))) ([.int x0, .int x1, .int x2] : List Value).toArray s 0 0 tNo) (F0 m 0 ls []) by subst eH; subst eL; exact hW
  refine lv_iload_n hx hb dX1_isInRange_0 rfl (lv_at hl 1 rfl) ?_
  refine lv_if_lt (tgt := 12) hx hb dX1_isInRange_1 (by decide) (fun c1 => ?_) (fun c1 => ?_)
  · skip
    have ic1 := tn_lt rfl kI_0 c1
    refine lv_iconst (v := 0) hx hb dX1_isInRange_12 (by decide) ?_
    exact tc_pret E hr hlk eH eL (t_nz (by decide) (by decide)).1 (show (0 ≤ (0 : Int32).toInt ∧ (0 : Int32).toInt ≤ 1) ∧ ((0 : Int32).toInt = 0 ∨ (0 ≤ x1.toInt ∧ x1.toInt ≤ 3)) by have kk := kI_0; omega) dX1_isInRange_13
  · skip
    have ic1 := tn_nlt rfl kI_0 c1
    refine lv_iload_n hx hb dX1_isInRange_4 rfl (lv_at hl 1 rfl) ?_
    refine lv_iload_n hx hb dX1_isInRange_5 rfl (lv_at hl 0 rfl) ?_
    refine tc_callp (tc_runS (As := [.int x0]) (rest := [.int x1]) E hSt hG (c_X1_numbersOf l G τ x0) ks_X1_numbersOf ml_X1_22 ⟨rfl, rfl, Nat.le_of_ble_eq_true rfl, Nat.le_of_ble_eq_true rfl⟩ rfl hl.1 rfl (Nat.le_of_ble_eq_true rfl) ⟨Nat.zero_le _, Nat.zero_le _⟩ dX1_isInRange_6) (fun r2 pr2 => ?_)
    have pr2 : (0 ≤ r2.toInt ∧ r2.toInt ≤ 4) ∧ (r2.toInt = 0 ∨ (0 ≤ x0.toInt ∧ x0.toInt ≤ 9)) := pr2
    refine lv_icmp_lt (tgt := 14) hx hb dX1_isInRange_9 (by decide) (fun c3 => ?_) (fun c3 => ?_)
    · skip
      have ic3 := tn_lt rfl rfl c3
      refine lv_iload_n hx hb dX1_isInRange_14 rfl (lv_at hl 1 rfl) ?_
      refine lv_iconst (v := 2) hx hb dX1_isInRange_15 (by decide) ?_
      refine lv_irem hx hb dX1_isInRange_16 (by decide) ?_
      refine lv_topi (fun z4 ez4 => ?_)
      have tz4 := tn_rem ez4 kI_2 (by omega) (by decide)
      refine lv_if_ne (tgt := 28) hx hb dX1_isInRange_17 (by decide) (fun c5 => ?_) (fun c5 => ?_)
      · skip
        have ic5 := tn_ne rfl kI_0 c5
        refine tc_gets E hSt hG 4 (by decide) fs_X1_29 dX1_isInRange_28 ?_
        refine lv_iload_n hx hb dX1_isInRange_31 rfl (lv_at hl 0 rfl) ?_
        refine tc_tald E hSt hG 4 (by decide) (t_in (by omega) (by omega)) dX1_isInRange_32 ?_
        refine lv_topi (fun z6 ez6 => ?_)
        have tz6 := tn_tab4 ez6
        refine lv_istore_n (lv' := [(3, .int z6), (0, .int x0), (1, .int x1), (2, .int x2)]) hx hb dX1_isInRange_33 rfl hl (by decide) rfl (fun ls hl => ?_)
        refine lv_iload_n hx hb dX1_isInRange_34 rfl (lv_at hl 3 rfl) ?_
        refine tc_gets E hSt hG 2 (by decide) fs_X1_32 dX1_isInRange_35 ?_
        refine lv_iload_n hx hb dX1_isInRange_38 rfl (lv_at hl 1 rfl) ?_
        refine tc_tald E hSt hG 2 (by decide) (t_in (by omega) (by omega)) dX1_isInRange_39 ?_
        refine lv_topi (fun z7 ez7 => ?_)
        have tz7 := tn_tab2 ez7
        refine lv_icmp_lt (tgt := 52) hx hb dX1_isInRange_40 (by decide) (fun c8 => ?_) (fun c8 => ?_)
        · skip
          have ic8 := tn_lt rfl rfl c8
          refine lv_iconst (v := 0) hx hb dX1_isInRange_52 (by decide) ?_
          exact tc_pret E hr hlk eH eL (t_nz (by decide) (by decide)).1 (show (0 ≤ (0 : Int32).toInt ∧ (0 : Int32).toInt ≤ 1) ∧ ((0 : Int32).toInt = 0 ∨ (0 ≤ x1.toInt ∧ x1.toInt ≤ 3)) by have kk := kI_0; omega) dX1_isInRange_53
        · skip
          have ic8 := tn_nlt rfl rfl c8
          refine lv_iload_n hx hb dX1_isInRange_43 rfl (lv_at hl 3 rfl) ?_
          refine lv_iload_n hx hb dX1_isInRange_44 rfl (lv_at hl 0 rfl) ?_
          refine lv_icmp_gt (tgt := 52) hx hb dX1_isInRange_45 (by decide) (fun c9 => ?_) (fun c9 => ?_)
          · skip
            have ic9 := tn_lt rfl rfl c9
            refine lv_iconst (v := 0) hx hb dX1_isInRange_52 (by decide) ?_
            exact tc_pret E hr hlk eH eL (t_nz (by decide) (by decide)).1 (show (0 ≤ (0 : Int32).toInt ∧ (0 : Int32).toInt ≤ 1) ∧ ((0 : Int32).toInt = 0 ∨ (0 ≤ x1.toInt ∧ x1.toInt ≤ 3)) by have kk := kI_0; omega) dX1_isInRange_53
          · skip
            have ic9 := tn_nlt rfl rfl c9
            refine lv_iconst (v := 1) hx hb dX1_isInRange_48 (by decide) ?_
            refine lv_goto (tgt := 53) hx hb dX1_isInRange_49 (by decide) ?_
            exact tc_pret E hr hlk eH eL (t_nz (by decide) (by decide)).1 (show (0 ≤ (1 : Int32).toInt ∧ (1 : Int32).toInt ≤ 1) ∧ ((1 : Int32).toInt = 0 ∨ (0 ≤ x1.toInt ∧ x1.toInt ≤ 3)) by have kk := kI_1; omega) dX1_isInRange_53
      · skip
        have ic5 := tn_eq rfl kI_0 c5
        refine tc_gets E hSt hG 3 (by decide) fs_X1_26 dX1_isInRange_20 ?_
        refine lv_iload_n hx hb dX1_isInRange_23 rfl (lv_at hl 0 rfl) ?_
        refine tc_tald E hSt hG 3 (by decide) (t_in (by omega) (by omega)) dX1_isInRange_24 ?_
        refine lv_topi (fun z10 ez10 => ?_)
        have tz10 := tn_tab3 ez10
        refine lv_goto (tgt := 33) hx hb dX1_isInRange_25 (by decide) ?_
        refine lv_istore_n (lv' := [(3, .int z10), (0, .int x0), (1, .int x1), (2, .int x2)]) hx hb dX1_isInRange_33 rfl hl (by decide) rfl (fun ls hl => ?_)
        refine lv_iload_n hx hb dX1_isInRange_34 rfl (lv_at hl 3 rfl) ?_
        refine tc_gets E hSt hG 2 (by decide) fs_X1_32 dX1_isInRange_35 ?_
        refine lv_iload_n hx hb dX1_isInRange_38 rfl (lv_at hl 1 rfl) ?_
        refine tc_tald E hSt hG 2 (by decide) (t_in (by omega) (by omega)) dX1_isInRange_39 ?_
        refine lv_topi (fun z11 ez11 => ?_)
        have tz11 := tn_tab2 ez11
        refine lv_icmp_lt (tgt := 52) hx hb dX1_isInRange_40 (by decide) (fun c12 => ?_) (fun c12 => ?_)
        · skip
          have ic12 := tn_lt rfl rfl c12
          refine lv_iconst (v := 0) hx hb dX1_isInRange_52 (by decide) ?_
          exact tc_pret E hr hlk eH eL (t_nz (by decide) (by decide)).1 (show (0 ≤ (0 : Int32).toInt ∧ (0 : Int32).toInt ≤ 1) ∧ ((0 : Int32).toInt = 0 ∨ (0 ≤ x1.toInt ∧ x1.toInt ≤ 3)) by have kk := kI_0; omega) dX1_isInRange_53
        · skip
          have ic12 := tn_nlt rfl rfl c12
          refine lv_iload_n hx hb dX1_isInRange_43 rfl (lv_at hl 3 rfl) ?_
          refine lv_iload_n hx hb dX1_isInRange_44 rfl (lv_at hl 0 rfl) ?_
          refine lv_icmp_gt (tgt := 52) hx hb dX1_isInRange_45 (by decide) (fun c13 => ?_) (fun c13 => ?_)
          · skip
            have ic13 := tn_lt rfl rfl c13
            refine lv_iconst (v := 0) hx hb dX1_isInRange_52 (by decide) ?_
            exact tc_pret E hr hlk eH eL (t_nz (by decide) (by decide)).1 (show (0 ≤ (0 : Int32).toInt ∧ (0 : Int32).toInt ≤ 1) ∧ ((0 : Int32).toInt = 0 ∨ (0 ≤ x1.toInt ∧ x1.toInt ≤ 3)) by have kk := kI_0; omega) dX1_isInRange_53
          · skip
            have ic13 := tn_nlt rfl rfl c13
            refine lv_iconst (v := 1) hx hb dX1_isInRange_48 (by decide) ?_
            refine lv_goto (tgt := 53) hx hb dX1_isInRange_49 (by decide) ?_
            exact tc_pret E hr hlk eH eL (t_nz (by decide) (by decide)).1 (show (0 ≤ (1 : Int32).toInt ∧ (1 : Int32).toInt ≤ 1) ∧ ((1 : Int32).toInt = 0 ∨ (0 ≤ x1.toInt ∧ x1.toInt ≤ 3)) by have kk := kI_1; omega) dX1_isInRange_53
    · skip
      have ic3 := tn_nlt rfl rfl c3
      refine lv_iconst (v := 0) hx hb dX1_isInRange_12 (by decide) ?_
      exact tc_pret E hr hlk eH eL (t_nz (by decide) (by decide)).1 (show (0 ≤ (0 : Int32).toInt ∧ (0 : Int32).toInt ≤ 1) ∧ ((0 : Int32).toInt = 0 ∨ (0 ≤ x1.toInt ∧ x1.toInt ≤ 3)) by have kk := kI_0; omega) dX1_isInRange_13

set_option maxHeartbeats 4000000 in
set_option maxRecDepth 100000 in
theorem c_X1_mayHave (l : Launch) (G : tG) (τ : Nat → Nat) (x0 : Int32) (x1 : Int32) (x2 : Int32) (x3 : Int32) (x4 : Int32)  : Met l yX1_mayHave (.code yX1_mayHave cX1_mayHave 6 (some .boolean) :: tWS) (tRm 3 63) (va_Pc [.int x0, .int x1, .int x2, .int x3, .int x4] (tPre G τ)) (tQp (fun r => 0 ≤ r.toInt ∧ r.toInt ≤ 1)) 0 0 tNo := by
  refine tc_met (by decide) (Nat.le_of_ble_eq_true rfl) ?_
  intro p e s m below meth c E hSt hr hlk hG ls hl
  have hl : lv_has ls 6 [(0, .int x0), (1, .int x1), (2, .int x2), (3, .int x3), (4, .int x4)] := hl
  have hx := E.1
  have hb := E.2.1
  obtain ⟨H, eH⟩ : ∃ H, H = s.heap := ⟨_, rfl⟩
  obtain ⟨locs, eL⟩ : ∃ x : List Loc, x = [] := ⟨_, rfl⟩
  have hG : tGH G τ s H locs := by rw [eH, eL]; exact hG
  suffices hW : W p l e (tRm 3 63) s m ([.int x0, .int x1, .int x2, .int x3, .int x4] : List Value).toArray below meth c H locs 0 0 (MQ below (tQp (fun r => 0 ≤ r.toInt ∧ r.toInt ≤ 1)) ([.int x0, .int x1, .int x2, .int x3, .int x4] : List Value).toArray s 0 0 tNo) (F0 m 0 ls []) by subst eH; subst eL; exact hW
  have J78 : ∀ (ls : Array Slot), lv_has ls 6 [(0, .int x0), (1, .int x1), (2, .int x2), (3, .int x3), (4, .int x4)] → W p l e (tRm 3 63) s m ([.int x0, .int x1, .int x2, .int x3, .int x4] : List Value).toArray below meth c H locs 0 0 (MQ below (tQp (fun r => 0 ≤ r.toInt ∧ r.toInt ≤ 1)) ([.int x0, .int x1, .int x2, .int x3, .int x4] : List Value).toArray s 0 0 tNo) (F0 m 78 ls []) := by
    intro ls hl
    refine lv_iload_n hx hb dX1_mayHave_78 rfl (lv_at hl 0 rfl) ?_
    refine lv_iconst (v := 3) hx hb dX1_mayHave_79 (by decide) ?_
    refine lv_icmp_ne (tgt := 94) hx hb dX1_mayHave_80 (by decide) (fun c1 => ?_) (fun c1 => ?_)
    · skip
      have ic1 := tn_ne rfl kI_3 c1
      refine lv_iconst (v := 1) hx hb dX1_mayHave_94 (by decide) ?_
      refine lv_goto (tgt := 99) hx hb dX1_mayHave_95 (by decide) ?_
      exact tc_pret E hr hlk eH eL (t_nz (by decide) (by decide)).1 (show 0 ≤ (1 : Int32).toInt ∧ (1 : Int32).toInt ≤ 1 by have kk := kI_1; omega) dX1_mayHave_99
    · skip
      have ic1 := tn_eq rfl kI_3 c1
      refine lv_iload_n hx hb dX1_mayHave_83 rfl (lv_at hl 1 rfl) ?_
      refine lv_iload_n hx hb dX1_mayHave_84 rfl (lv_at hl 2 rfl) ?_
      refine lv_icmp_gt (tgt := 98) hx hb dX1_mayHave_85 (by decide) (fun c2 => ?_) (fun c2 => ?_)
      · skip
        have ic2 := tn_lt rfl rfl c2
        refine lv_iconst (v := 0) hx hb dX1_mayHave_98 (by decide) ?_
        exact tc_pret E hr hlk eH eL (t_nz (by decide) (by decide)).1 (show 0 ≤ (0 : Int32).toInt ∧ (0 : Int32).toInt ≤ 1 by have kk := kI_0; omega) dX1_mayHave_99
      · skip
        have ic2 := tn_nlt rfl rfl c2
        refine lv_iload_n hx hb dX1_mayHave_88 rfl (lv_at hl 3 rfl) ?_
        refine lv_iload hx hb dX1_mayHave_89 (lv_at hl 4 rfl) ?_
        refine lv_icmp_gt (tgt := 98) hx hb dX1_mayHave_91 (by decide) (fun c3 => ?_) (fun c3 => ?_)
        · skip
          have ic3 := tn_lt rfl rfl c3
          refine lv_iconst (v := 0) hx hb dX1_mayHave_98 (by decide) ?_
          exact tc_pret E hr hlk eH eL (t_nz (by decide) (by decide)).1 (show 0 ≤ (0 : Int32).toInt ∧ (0 : Int32).toInt ≤ 1 by have kk := kI_0; omega) dX1_mayHave_99
        · skip
          have ic3 := tn_nlt rfl rfl c3
          refine lv_iconst (v := 1) hx hb dX1_mayHave_94 (by decide) ?_
          refine lv_goto (tgt := 99) hx hb dX1_mayHave_95 (by decide) ?_
          exact tc_pret E hr hlk eH eL (t_nz (by decide) (by decide)).1 (show 0 ≤ (1 : Int32).toInt ∧ (1 : Int32).toInt ≤ 1 by have kk := kI_1; omega) dX1_mayHave_99
  have J60 : ∀ (ls : Array Slot) (v5 : Int32), lv_has ls 6 [(0, .int x0), (1, .int x1), (2, .int x2), (3, .int x3), (4, .int x4), (5, .int v5)] → 0 ≤ v5.toInt → v5.toInt ≤ 4 → W p l e (tRm 3 63) s m ([.int x0, .int x1, .int x2, .int x3, .int x4] : List Value).toArray below meth c H locs 0 0 (MQ below (tQp (fun r => 0 ≤ r.toInt ∧ r.toInt ≤ 1)) ([.int x0, .int x1, .int x2, .int x3, .int x4] : List Value).toArray s 0 0 tNo) (F0 m 60 ls []) := by
    intro ls v5 hl b5 c5
    refine lv_iload hx hb dX1_mayHave_60 (lv_at hl 5 rfl) ?_
    refine lv_iconst (v := 3) hx hb dX1_mayHave_62 (by decide) ?_
    refine lv_icmp_le (tgt := 78) hx hb dX1_mayHave_63 (by decide) (fun c4 => ?_) (fun c4 => ?_)
    · skip
      have ic4 := tn_le rfl kI_3 c4
      exact J78 ls (lv_sub hl [0, 1, 2, 3, 4] rfl)
    · skip
      have ic4 := tn_nle rfl kI_3 c4
      refine lv_iload_n hx hb dX1_mayHave_66 rfl (lv_at hl 0 rfl) ?_
      refine lv_iconst (v := 3) hx hb dX1_mayHave_67 (by decide) ?_
      refine lv_iload hx hb dX1_mayHave_68 (lv_at hl 4 rfl) ?_
      refine tc_callp (tc_runS (As := [.int x0, .int 3, .int x4]) (rest := []) E hSt hG (c_X1_isInRange l G τ x0 (3 : Int32) x4) ks_X1_isInRange ml_X1_35 ⟨rfl, rfl, Nat.le_of_ble_eq_true rfl, Nat.le_of_ble_eq_true rfl⟩ rfl hl.1 rfl (Nat.le_of_ble_eq_true rfl) ⟨Nat.zero_le _, Nat.zero_le _⟩ dX1_mayHave_70) (fun r5 pr5 => ?_)
      have pr5 : (0 ≤ r5.toInt ∧ r5.toInt ≤ 1) ∧ (r5.toInt = 0 ∨ (0 ≤ (3 : Int32).toInt ∧ (3 : Int32).toInt ≤ 3)) := pr5
      have k6 := kI_3
      refine lv_if_ne (tgt := 78) hx hb dX1_mayHave_73 (by decide) (fun c7 => ?_) (fun c7 => ?_)
      · skip
        have ic7 := tn_ne rfl kI_0 c7
        exact J78 ls (lv_sub hl [0, 1, 2, 3, 4] rfl)
      · skip
        have ic7 := tn_eq rfl kI_0 c7
        refine lv_iconst (v := 0) hx hb dX1_mayHave_76 (by decide) ?_
        exact tc_pret E hr hlk eH eL (t_nz (by decide) (by decide)).1 (show 0 ≤ (0 : Int32).toInt ∧ (0 : Int32).toInt ≤ 1 by have kk := kI_0; omega) dX1_mayHave_77
  have J45 : ∀ (ls : Array Slot) (v5 : Int32), lv_has ls 6 [(0, .int x0), (1, .int x1), (2, .int x2), (3, .int x3), (4, .int x4), (5, .int v5)] → 0 ≤ v5.toInt → v5.toInt ≤ 4 → W p l e (tRm 3 63) s m ([.int x0, .int x1, .int x2, .int x3, .int x4] : List Value).toArray below meth c H locs 0 0 (MQ below (tQp (fun r => 0 ≤ r.toInt ∧ r.toInt ≤ 1)) ([.int x0, .int x1, .int x2, .int x3, .int x4] : List Value).toArray s 0 0 tNo) (F0 m 45 ls []) := by
    intro ls v5 hl b5 c5
    refine lv_iload hx hb dX1_mayHave_45 (lv_at hl 5 rfl) ?_
    refine lv_iconst (v := 2) hx hb dX1_mayHave_47 (by decide) ?_
    refine lv_icmp_le (tgt := 60) hx hb dX1_mayHave_48 (by decide) (fun c8 => ?_) (fun c8 => ?_)
    · skip
      have ic8 := tn_le rfl kI_2 c8
      exact J60 ls v5 (lv_sub hl [0, 1, 2, 3, 4, 5] rfl) (by omega) (by omega)
    · skip
      have ic8 := tn_nle rfl kI_2 c8
      refine lv_iload_n hx hb dX1_mayHave_51 rfl (lv_at hl 0 rfl) ?_
      refine lv_iconst (v := 2) hx hb dX1_mayHave_52 (by decide) ?_
      refine lv_iload_n hx hb dX1_mayHave_53 rfl (lv_at hl 3 rfl) ?_
      refine tc_callp (tc_runS (As := [.int x0, .int 2, .int x3]) (rest := []) E hSt hG (c_X1_isInRange l G τ x0 (2 : Int32) x3) ks_X1_isInRange ml_X1_35 ⟨rfl, rfl, Nat.le_of_ble_eq_true rfl, Nat.le_of_ble_eq_true rfl⟩ rfl hl.1 rfl (Nat.le_of_ble_eq_true rfl) ⟨Nat.zero_le _, Nat.zero_le _⟩ dX1_mayHave_54) (fun r9 pr9 => ?_)
      have pr9 : (0 ≤ r9.toInt ∧ r9.toInt ≤ 1) ∧ (r9.toInt = 0 ∨ (0 ≤ (2 : Int32).toInt ∧ (2 : Int32).toInt ≤ 3)) := pr9
      have k10 := kI_2
      refine lv_if_eq (tgt := 76) hx hb dX1_mayHave_57 (by decide) (fun c11 => ?_) (fun c11 => ?_)
      · skip
        have ic11 := tn_eq rfl kI_0 c11
        refine lv_iconst (v := 0) hx hb dX1_mayHave_76 (by decide) ?_
        exact tc_pret E hr hlk eH eL (t_nz (by decide) (by decide)).1 (show 0 ≤ (0 : Int32).toInt ∧ (0 : Int32).toInt ≤ 1 by have kk := kI_0; omega) dX1_mayHave_77
      · skip
        have ic11 := tn_ne rfl kI_0 c11
        exact J60 ls v5 (lv_sub hl [0, 1, 2, 3, 4, 5] rfl) (by omega) (by omega)
  have J30 : ∀ (ls : Array Slot) (v5 : Int32), lv_has ls 6 [(0, .int x0), (1, .int x1), (2, .int x2), (3, .int x3), (4, .int x4), (5, .int v5)] → 0 ≤ v5.toInt → v5.toInt ≤ 4 → W p l e (tRm 3 63) s m ([.int x0, .int x1, .int x2, .int x3, .int x4] : List Value).toArray below meth c H locs 0 0 (MQ below (tQp (fun r => 0 ≤ r.toInt ∧ r.toInt ≤ 1)) ([.int x0, .int x1, .int x2, .int x3, .int x4] : List Value).toArray s 0 0 tNo) (F0 m 30 ls []) := by
    intro ls v5 hl b5 c5
    refine lv_iload hx hb dX1_mayHave_30 (lv_at hl 5 rfl) ?_
    refine lv_iconst (v := 1) hx hb dX1_mayHave_32 (by decide) ?_
    refine lv_icmp_le (tgt := 45) hx hb dX1_mayHave_33 (by decide) (fun c12 => ?_) (fun c12 => ?_)
    · skip
      have ic12 := tn_le rfl kI_1 c12
      exact J45 ls v5 (lv_sub hl [0, 1, 2, 3, 4, 5] rfl) (by omega) (by omega)
    · skip
      have ic12 := tn_nle rfl kI_1 c12
      refine lv_iload_n hx hb dX1_mayHave_36 rfl (lv_at hl 0 rfl) ?_
      refine lv_iconst (v := 1) hx hb dX1_mayHave_37 (by decide) ?_
      refine lv_iload_n hx hb dX1_mayHave_38 rfl (lv_at hl 2 rfl) ?_
      refine tc_callp (tc_runS (As := [.int x0, .int 1, .int x2]) (rest := []) E hSt hG (c_X1_isInRange l G τ x0 (1 : Int32) x2) ks_X1_isInRange ml_X1_35 ⟨rfl, rfl, Nat.le_of_ble_eq_true rfl, Nat.le_of_ble_eq_true rfl⟩ rfl hl.1 rfl (Nat.le_of_ble_eq_true rfl) ⟨Nat.zero_le _, Nat.zero_le _⟩ dX1_mayHave_39) (fun r13 pr13 => ?_)
      have pr13 : (0 ≤ r13.toInt ∧ r13.toInt ≤ 1) ∧ (r13.toInt = 0 ∨ (0 ≤ (1 : Int32).toInt ∧ (1 : Int32).toInt ≤ 3)) := pr13
      have k14 := kI_1
      refine lv_if_eq (tgt := 76) hx hb dX1_mayHave_42 (by decide) (fun c15 => ?_) (fun c15 => ?_)
      · skip
        have ic15 := tn_eq rfl kI_0 c15
        refine lv_iconst (v := 0) hx hb dX1_mayHave_76 (by decide) ?_
        exact tc_pret E hr hlk eH eL (t_nz (by decide) (by decide)).1 (show 0 ≤ (0 : Int32).toInt ∧ (0 : Int32).toInt ≤ 1 by have kk := kI_0; omega) dX1_mayHave_77
      · skip
        have ic15 := tn_ne rfl kI_0 c15
        exact J45 ls v5 (lv_sub hl [0, 1, 2, 3, 4, 5] rfl) (by omega) (by omega)
  refine lv_iload_n hx hb dX1_mayHave_0 rfl (lv_at hl 0 rfl) ?_
  refine tc_callp (tc_runS (As := [.int x0]) (rest := []) E hSt hG (c_X1_isKind l G τ x0) ks_X1_isKind ml_X1_9 ⟨rfl, rfl, Nat.le_of_ble_eq_true rfl, Nat.le_of_ble_eq_true rfl⟩ rfl hl.1 rfl (Nat.le_of_ble_eq_true rfl) ⟨Nat.zero_le _, Nat.zero_le _⟩ dX1_mayHave_1) (fun r16 pr16 => ?_)
  have pr16 : (0 ≤ r16.toInt ∧ r16.toInt ≤ 1) ∧ (r16.toInt = 0 ∨ (0 ≤ x0.toInt ∧ x0.toInt ≤ 9)) := pr16
  refine lv_if_ne (tgt := 9) hx hb dX1_mayHave_4 (by decide) (fun c17 => ?_) (fun c17 => ?_)
  · skip
    have ic17 := tn_ne rfl kI_0 c17
    refine tc_gets E hSt hG 0 (by decide) fs_X1_15 dX1_mayHave_9 ?_
    refine lv_iload_n hx hb dX1_mayHave_12 rfl (lv_at hl 0 rfl) ?_
    refine tc_tald E hSt hG 0 (by decide) (t_in (by omega) (by omega)) dX1_mayHave_13 ?_
    refine lv_topi (fun z18 ez18 => ?_)
    have tz18 := tn_tab0 ez18
    refine lv_istore (lv' := [(5, .int z18), (0, .int x0), (1, .int x1), (2, .int x2), (3, .int x3), (4, .int x4)]) hx hb dX1_mayHave_14 hl (by decide) rfl (fun ls hl => ?_)
    refine lv_iload hx hb dX1_mayHave_16 (lv_at hl 0 rfl) ?_
    refine lv_if_le (tgt := 30) hx hb dX1_mayHave_18 (by decide) (fun c19 => ?_) (fun c19 => ?_)
    · skip
      have ic19 := tn_le rfl kI_0 c19
      exact J30 ls z18 (lv_sub hl [1, 2, 3, 4, 5, 0] rfl) (by omega) (by omega)
    · skip
      have ic19 := tn_nle rfl kI_0 c19
      refine lv_iload_n hx hb dX1_mayHave_21 rfl (lv_at hl 1 rfl) ?_
      refine lv_iconst (v := 0) hx hb dX1_mayHave_22 (by decide) ?_
      refine lv_iload_n hx hb dX1_mayHave_23 rfl (lv_at hl 2 rfl) ?_
      refine tc_callp (tc_runS (As := [.int x0, .int 0, .int x1]) (rest := []) E hSt hG (c_X1_isInRange l G τ x0 (0 : Int32) x1) ks_X1_isInRange ml_X1_35 ⟨rfl, rfl, Nat.le_of_ble_eq_true rfl, Nat.le_of_ble_eq_true rfl⟩ rfl hl.1 rfl (Nat.le_of_ble_eq_true rfl) ⟨Nat.zero_le _, Nat.zero_le _⟩ dX1_mayHave_24) (fun r20 pr20 => ?_)
      have pr20 : (0 ≤ r20.toInt ∧ r20.toInt ≤ 1) ∧ (r20.toInt = 0 ∨ (0 ≤ (0 : Int32).toInt ∧ (0 : Int32).toInt ≤ 3)) := pr20
      have k21 := kI_0
      refine lv_if_eq (tgt := 76) hx hb dX1_mayHave_27 (by decide) (fun c22 => ?_) (fun c22 => ?_)
      · skip
        have ic22 := tn_eq rfl kI_0 c22
        refine lv_iconst (v := 0) hx hb dX1_mayHave_76 (by decide) ?_
        exact tc_pret E hr hlk eH eL (t_nz (by decide) (by decide)).1 (show 0 ≤ (0 : Int32).toInt ∧ (0 : Int32).toInt ≤ 1 by have kk := kI_0; omega) dX1_mayHave_77
      · skip
        have ic22 := tn_ne rfl kI_0 c22
        exact J30 ls z18 (lv_sub hl [1, 2, 3, 4, 5, 0] rfl) (by omega) (by omega)
  · skip
    have ic17 := tn_eq rfl kI_0 c17
    refine lv_iconst (v := 0) hx hb dX1_mayHave_7 (by decide) ?_
    exact tc_pret E hr hlk eH eL (t_nz (by decide) (by decide)).1 (show 0 ≤ (0 : Int32).toInt ∧ (0 : Int32).toInt ≤ 1 by have kk := kI_0; omega) dX1_mayHave_8

set_option maxHeartbeats 4000000 in
set_option maxRecDepth 100000 in
theorem c_X1_passesFor (l : Launch) (G : tG) (τ : Nat → Nat) (x0 : Int32) (x1 : Int32)  : Met l yX1_passesFor (.code yX1_passesFor cX1_passesFor 2 (some .boolean) :: tWS) (tRm 0 0) (va_Pc [.int x0, .int x1] (tPre G τ)) (tQp (fun r => 0 ≤ r.toInt ∧ r.toInt ≤ 1)) 0 0 tNo := by
  refine tc_met (by decide) (Nat.le_of_ble_eq_true rfl) ?_
  intro p e s m below meth c E hSt hr hlk hG ls hl
  have hl : lv_has ls 2 [(0, .int x0), (1, .int x1)] := hl
  have hx := E.1
  have hb := E.2.1
  obtain ⟨H, eH⟩ : ∃ H, H = s.heap := ⟨_, rfl⟩
  obtain ⟨locs, eL⟩ : ∃ x : List Loc, x = [] := ⟨_, rfl⟩
  have hG : tGH G τ s H locs := by rw [eH, eL]; exact hG
  suffices hW : W p l e (tRm 0 0) s m ([.int x0, .int x1] : List Value).toArray below meth c H locs 0 0 (MQ below (tQp (fun r => 0 ≤ r.toInt ∧ r.toInt ≤ 1)) ([.int x0, .int x1] : List Value).toArray s 0 0 tNo) (F0 m 0 ls []) by subst eH; subst eL; exact hW
  have J27 : ∀ (ls : Array Slot), lv_has ls 2 [(0, .int x0), (1, .int x1)] → W p l e (tRm 0 0) s m ([.int x0, .int x1] : List Value).toArray below meth c H locs 0 0 (MQ below (tQp (fun r => 0 ≤ r.toInt ∧ r.toInt ≤ 1)) ([.int x0, .int x1] : List Value).toArray s 0 0 tNo) (F0 m 27 ls []) := by
    intro ls hl
    refine lv_iload_n hx hb dX1_passesFor_27 rfl (lv_at hl 0 rfl) ?_
    refine lv_iconst (v := 3) hx hb dX1_passesFor_28 (by decide) ?_
    refine lv_icmp_ne (tgt := 41) hx hb dX1_passesFor_29 (by decide) (fun c1 => ?_) (fun c1 => ?_)
    · skip
      have ic1 := tn_ne rfl kI_3 c1
      refine lv_iconst (v := 0) hx hb dX1_passesFor_41 (by decide) ?_
      exact tc_pret E hr hlk eH eL (t_nz (by decide) (by decide)).1 (show 0 ≤ (0 : Int32).toInt ∧ (0 : Int32).toInt ≤ 1 by have kk := kI_0; omega) dX1_passesFor_42
    · skip
      have ic1 := tn_eq rfl kI_3 c1
      refine lv_iload_n hx hb dX1_passesFor_32 rfl (lv_at hl 1 rfl) ?_
      refine lv_iconst (v := 2) hx hb dX1_passesFor_33 (by decide) ?_
      refine lv_icmp_ne (tgt := 41) hx hb dX1_passesFor_34 (by decide) (fun c2 => ?_) (fun c2 => ?_)
      · skip
        have ic2 := tn_ne rfl kI_2 c2
        refine lv_iconst (v := 0) hx hb dX1_passesFor_41 (by decide) ?_
        exact tc_pret E hr hlk eH eL (t_nz (by decide) (by decide)).1 (show 0 ≤ (0 : Int32).toInt ∧ (0 : Int32).toInt ≤ 1 by have kk := kI_0; omega) dX1_passesFor_42
      · skip
        have ic2 := tn_eq rfl kI_2 c2
        refine lv_iconst (v := 1) hx hb dX1_passesFor_37 (by decide) ?_
        refine lv_goto (tgt := 42) hx hb dX1_passesFor_38 (by decide) ?_
        exact tc_pret E hr hlk eH eL (t_nz (by decide) (by decide)).1 (show 0 ≤ (1 : Int32).toInt ∧ (1 : Int32).toInt ≤ 1 by have kk := kI_1; omega) dX1_passesFor_42
  have J17 : ∀ (ls : Array Slot), lv_has ls 2 [(0, .int x0), (1, .int x1)] → W p l e (tRm 0 0) s m ([.int x0, .int x1] : List Value).toArray below meth c H locs 0 0 (MQ below (tQp (fun r => 0 ≤ r.toInt ∧ r.toInt ≤ 1)) ([.int x0, .int x1] : List Value).toArray s 0 0 tNo) (F0 m 17 ls []) := by
    intro ls hl
    refine lv_iload_n hx hb dX1_passesFor_17 rfl (lv_at hl 0 rfl) ?_
    refine lv_iconst (v := 5) hx hb dX1_passesFor_18 (by decide) ?_
    refine lv_icmp_ne (tgt := 27) hx hb dX1_passesFor_19 (by decide) (fun c3 => ?_) (fun c3 => ?_)
    · skip
      have ic3 := tn_ne rfl kI_5 c3
      exact J27 ls (lv_sub hl [0, 1] rfl)
    · skip
      have ic3 := tn_eq rfl kI_5 c3
      refine lv_iload_n hx hb dX1_passesFor_22 rfl (lv_at hl 1 rfl) ?_
      refine lv_iconst (v := 4) hx hb dX1_passesFor_23 (by decide) ?_
      refine lv_icmp_eq (tgt := 37) hx hb dX1_passesFor_24 (by decide) (fun c4 => ?_) (fun c4 => ?_)
      · skip
        have ic4 := tn_eq rfl kI_4 c4
        refine lv_iconst (v := 1) hx hb dX1_passesFor_37 (by decide) ?_
        refine lv_goto (tgt := 42) hx hb dX1_passesFor_38 (by decide) ?_
        exact tc_pret E hr hlk eH eL (t_nz (by decide) (by decide)).1 (show 0 ≤ (1 : Int32).toInt ∧ (1 : Int32).toInt ≤ 1 by have kk := kI_1; omega) dX1_passesFor_42
      · skip
        have ic4 := tn_ne rfl kI_4 c4
        exact J27 ls (lv_sub hl [0, 1] rfl)
  refine lv_iload_n hx hb dX1_passesFor_0 rfl (lv_at hl 0 rfl) ?_
  refine lv_iload_n hx hb dX1_passesFor_1 rfl (lv_at hl 1 rfl) ?_
  refine lv_icmp_eq (tgt := 37) hx hb dX1_passesFor_2 (by decide) (fun c5 => ?_) (fun c5 => ?_)
  · skip
    have ic5 := tn_eq rfl rfl c5
    refine lv_iconst (v := 1) hx hb dX1_passesFor_37 (by decide) ?_
    refine lv_goto (tgt := 42) hx hb dX1_passesFor_38 (by decide) ?_
    exact tc_pret E hr hlk eH eL (t_nz (by decide) (by decide)).1 (show 0 ≤ (1 : Int32).toInt ∧ (1 : Int32).toInt ≤ 1 by have kk := kI_1; omega) dX1_passesFor_42
  · skip
    have ic5 := tn_ne rfl rfl c5
    refine lv_iload_n hx hb dX1_passesFor_5 rfl (lv_at hl 0 rfl) ?_
    refine lv_bipush (v := 9) hx hb dX1_passesFor_6 (by decide) ?_
    refine lv_icmp_ne (tgt := 17) hx hb dX1_passesFor_8 (by decide) (fun c6 => ?_) (fun c6 => ?_)
    · skip
      have ic6 := tn_ne rfl kI_9 c6
      exact J17 ls (lv_sub hl [0, 1] rfl)
    · skip
      have ic6 := tn_eq rfl kI_9 c6
      refine lv_iload_n hx hb dX1_passesFor_11 rfl (lv_at hl 1 rfl) ?_
      refine lv_bipush (v := 8) hx hb dX1_passesFor_12 (by decide) ?_
      refine lv_icmp_eq (tgt := 37) hx hb dX1_passesFor_14 (by decide) (fun c7 => ?_) (fun c7 => ?_)
      · skip
        have ic7 := tn_eq rfl kI_8 c7
        refine lv_iconst (v := 1) hx hb dX1_passesFor_37 (by decide) ?_
        refine lv_goto (tgt := 42) hx hb dX1_passesFor_38 (by decide) ?_
        exact tc_pret E hr hlk eH eL (t_nz (by decide) (by decide)).1 (show 0 ≤ (1 : Int32).toInt ∧ (1 : Int32).toInt ≤ 1 by have kk := kI_1; omega) dX1_passesFor_42
      · skip
        have ic7 := tn_ne rfl kI_8 c7
        exact J17 ls (lv_sub hl [0, 1] rfl)

set_option maxHeartbeats 4000000 in
set_option maxRecDepth 100000 in
theorem c_X9_held (l : Launch) (G : tG) (τ : Nat → Nat) (x0 : Int32) (x1 : Int32) (x2 : Int32)  : Met l yX9_held (.code yX9_held cX9_held 3 (some .int) :: tWS) (tRm 0 0) (va_Pc [.int x0, .int x1, .int x2] (tPre G τ)) (tQp (fun r => True)) 0 0 tNo := by
  refine tc_met (by decide) (Nat.le_of_ble_eq_true rfl) ?_
  intro p e s m below meth c E hSt hr hlk hG ls hl
  have hl : lv_has ls 3 [(0, .int x0), (1, .int x1), (2, .int x2)] := hl
  have hx := E.1
  have hb := E.2.1
  obtain ⟨H, eH⟩ : ∃ H, H = s.heap := ⟨_, rfl⟩
  obtain ⟨locs, eL⟩ : ∃ x : List Loc, x = [] := ⟨_, rfl⟩
  have hG : tGH G τ s H locs := by rw [eH, eL]; exact hG
  suffices hW : W p l e (tRm 0 0) s m ([.int x0, .int x1, .int x2] : List Value).toArray below meth c H locs 0 0 (MQ below (tQp (fun r => True)) ([.int x0, .int x1, .int x2] : List Value).toArray s 0 0 tNo) (F0 m 0 ls []) by subst eH; subst eL; exact hW
  refine lv_iload_n hx hb dX9_held_0 rfl (lv_at hl 0 rfl) ?_
  refine lv_iload_n hx hb dX9_held_1 rfl (lv_at hl 1 rfl) ?_
  refine lv_icmp_ge (tgt := 7) hx hb dX9_held_2 (by decide) (fun c1 => ?_) (fun c1 => ?_)
  · skip
    have ic1 := tn_le rfl rfl c1
    refine lv_iload_n hx hb dX9_held_7 rfl (lv_at hl 0 rfl) ?_
    refine lv_iload_n hx hb dX9_held_8 rfl (lv_at hl 2 rfl) ?_
    refine lv_icmp_le (tgt := 16) hx hb dX9_held_9 (by decide) (fun c2 => ?_) (fun c2 => ?_)
    · skip
      have ic2 := tn_le rfl rfl c2
      refine lv_iload_n hx hb dX9_held_16 rfl (lv_at hl 0 rfl) ?_
      exact tc_pret E hr hlk eH eL rfl trivial dX9_held_17
    · skip
      have ic2 := tn_nle rfl rfl c2
      refine lv_iload_n hx hb dX9_held_12 rfl (lv_at hl 2 rfl) ?_
      refine lv_goto (tgt := 17) hx hb dX9_held_13 (by decide) ?_
      exact tc_pret E hr hlk eH eL rfl trivial dX9_held_17
  · skip
    have ic1 := tn_nle rfl rfl c1
    refine lv_iload_n hx hb dX9_held_5 rfl (lv_at hl 1 rfl) ?_
    exact tc_pret E hr hlk eH eL rfl trivial dX9_held_6

set_option maxHeartbeats 4000000 in
set_option maxRecDepth 100000 in
theorem c_X9_timesBy (l : Launch) (G : tG) (τ : Nat → Nat) (x0 : Int32) (x1 : Int32) (x2 : Int32)  : Met l yX9_timesBy (.code yX9_timesBy cX9_timesBy 3 (some .int) :: tWS) (tRm 0 0) (va_Pc [.int x0, .int x1, .int x2] (tPre G τ)) (tQp (fun r => True)) 0 0 tNo := by
  refine tc_met (by decide) (Nat.le_of_ble_eq_true rfl) ?_
  intro p e s m below meth c E hSt hr hlk hG ls hl
  have hl : lv_has ls 3 [(0, .int x0), (1, .int x1), (2, .int x2)] := hl
  have hx := E.1
  have hb := E.2.1
  obtain ⟨H, eH⟩ : ∃ H, H = s.heap := ⟨_, rfl⟩
  obtain ⟨locs, eL⟩ : ∃ x : List Loc, x = [] := ⟨_, rfl⟩
  have hG : tGH G τ s H locs := by rw [eH, eL]; exact hG
  suffices hW : W p l e (tRm 0 0) s m ([.int x0, .int x1, .int x2] : List Value).toArray below meth c H locs 0 0 (MQ below (tQp (fun r => True)) ([.int x0, .int x1, .int x2] : List Value).toArray s 0 0 tNo) (F0 m 0 ls []) by subst eH; subst eL; exact hW
  refine lv_iload_n hx hb dX9_timesBy_0 rfl (lv_at hl 2 rfl) ?_
  refine lv_if_ne (tgt := 8) hx hb dX9_timesBy_1 (by decide) (fun c1 => ?_) (fun c1 => ?_)
  · skip
    have ic1 := tn_ne rfl kI_0 c1
    refine lv_iload_n hx hb dX9_timesBy_8 rfl (lv_at hl 0 rfl) ?_
    refine lv_iload_n hx hb dX9_timesBy_9 rfl (lv_at hl 1 rfl) ?_
    refine lv_imul hx hb dX9_timesBy_10 ?_
    refine lv_topi (fun z2 ez2 => ?_)
    refine lv_iload_n hx hb dX9_timesBy_11 rfl (lv_at hl 2 rfl) ?_
    refine lv_idiv hx hb dX9_timesBy_12 (by assumption) ?_
    refine lv_topi (fun z3 ez3 => ?_)
    exact tc_pret E hr hlk eH eL rfl trivial dX9_timesBy_13
  · skip
    have ic1 := tn_eq rfl kI_0 c1
    refine lv_iconst (v := 0) hx hb dX9_timesBy_4 (by decide) ?_
    refine lv_goto (tgt := 13) hx hb dX9_timesBy_5 (by decide) ?_
    exact tc_pret E hr hlk eH eL rfl trivial dX9_timesBy_13

set_option maxHeartbeats 4000000 in
set_option maxRecDepth 100000 in
theorem c_X9_isTape (l : Launch) (G : tG) (τ : Nat → Nat) (x0 : Int32)  : Met l yX9_isTape (.code yX9_isTape cX9_isTape 1 (some .boolean) :: tWS) (tRm 0 0) (va_Pc [.int x0] (tPre G τ)) (tQp (fun r => (0 ≤ r.toInt ∧ r.toInt ≤ 1) ∧ (r.toInt = 0 ∨ (0 ≤ x0.toInt ∧ x0.toInt ≤ 3)) ∧ (r.toInt = 1 ∨ x0.toInt < 0 ∨ 3 < x0.toInt))) 0 0 tNo := by
  refine tc_met (by decide) (Nat.le_of_ble_eq_true rfl) ?_
  intro p e s m below meth c E hSt hr hlk hG ls hl
  have hl : lv_has ls 1 [(0, .int x0)] := hl
  have hx := E.1
  have hb := E.2.1
  obtain ⟨H, eH⟩ : ∃ H, H = s.heap := ⟨_, rfl⟩
  obtain ⟨locs, eL⟩ : ∃ x : List Loc, x = [] := ⟨_, rfl⟩
  have hG : tGH G τ s H locs := by rw [eH, eL]; exact hG
  suffices hW : W p l e (tRm 0 0) s m ([.int x0] : List Value).toArray below meth c H locs 0 0 (MQ below (tQp (fun r => (0 ≤ r.toInt ∧ r.toInt ≤ 1) ∧ (r.toInt = 0 ∨ (0 ≤ x0.toInt ∧ x0.toInt ≤ 3)) ∧ (r.toInt = 1 ∨ x0.toInt < 0 ∨ 3 < x0.toInt))) ([.int x0] : List Value).toArray s 0 0 tNo) (F0 m 0 ls []) by subst eH; subst eL; exact hW
  refine lv_iload_n hx hb dX9_isTape_0 rfl (lv_at hl 0 rfl) ?_
  refine lv_if_lt (tgt := 13) hx hb dX9_isTape_1 (by decide) (fun c1 => ?_) (fun c1 => ?_)
  · skip
    have ic1 := tn_lt rfl kI_0 c1
    refine lv_iconst (v := 0) hx hb dX9_isTape_13 (by decide) ?_
    exact tc_pret E hr hlk eH eL (t_nz (by decide) (by decide)).1 (show (0 ≤ (0 : Int32).toInt ∧ (0 : Int32).toInt ≤ 1) ∧ ((0 : Int32).toInt = 0 ∨ (0 ≤ x0.toInt ∧ x0.toInt ≤ 3)) ∧ ((0 : Int32).toInt = 1 ∨ x0.toInt < 0 ∨ 3 < x0.toInt) by have kk := kI_0; omega) dX9_isTape_14
  · skip
    have ic1 := tn_nlt rfl kI_0 c1
    refine lv_iload_n hx hb dX9_isTape_4 rfl (lv_at hl 0 rfl) ?_
    refine lv_iconst (v := 4) hx hb dX9_isTape_5 (by decide) ?_
    refine lv_icmp_ge (tgt := 13) hx hb dX9_isTape_6 (by decide) (fun c2 => ?_) (fun c2 => ?_)
    · skip
      have ic2 := tn_le kI_4 rfl c2
      refine lv_iconst (v := 0) hx hb dX9_isTape_13 (by decide) ?_
      exact tc_pret E hr hlk eH eL (t_nz (by decide) (by decide)).1 (show (0 ≤ (0 : Int32).toInt ∧ (0 : Int32).toInt ≤ 1) ∧ ((0 : Int32).toInt = 0 ∨ (0 ≤ x0.toInt ∧ x0.toInt ≤ 3)) ∧ ((0 : Int32).toInt = 1 ∨ x0.toInt < 0 ∨ 3 < x0.toInt) by have kk := kI_0; omega) dX9_isTape_14
    · skip
      have ic2 := tn_nle kI_4 rfl c2
      refine lv_iconst (v := 1) hx hb dX9_isTape_9 (by decide) ?_
      refine lv_goto (tgt := 14) hx hb dX9_isTape_10 (by decide) ?_
      exact tc_pret E hr hlk eH eL (t_nz (by decide) (by decide)).1 (show (0 ≤ (1 : Int32).toInt ∧ (1 : Int32).toInt ≤ 1) ∧ ((1 : Int32).toInt = 0 ∨ (0 ≤ x0.toInt ∧ x0.toInt ≤ 3)) ∧ ((1 : Int32).toInt = 1 ∨ x0.toInt < 0 ∨ 3 < x0.toInt) by have kk := kI_1; omega) dX9_isTape_14

set_option maxHeartbeats 4000000 in
set_option maxRecDepth 100000 in
theorem c_X9_bitOf (l : Launch) (G : tG) (τ : Nat → Nat) (x0 : Int32) (x1 : Int32)  : Met l yX9_bitOf (.code yX9_bitOf cX9_bitOf 2 (some .int) :: tWS) (tRm 0 0) (va_Pc [.int x0, .int x1] (tPre G τ)) (tQp (fun r => True)) 0 0 tNo := by
  refine tc_met (by decide) (Nat.le_of_ble_eq_true rfl) ?_
  intro p e s m below meth c E hSt hr hlk hG ls hl
  have hl : lv_has ls 2 [(0, .int x0), (1, .int x1)] := hl
  have hx := E.1
  have hb := E.2.1
  obtain ⟨H, eH⟩ : ∃ H, H = s.heap := ⟨_, rfl⟩
  obtain ⟨locs, eL⟩ : ∃ x : List Loc, x = [] := ⟨_, rfl⟩
  have hG : tGH G τ s H locs := by rw [eH, eL]; exact hG
  suffices hW : W p l e (tRm 0 0) s m ([.int x0, .int x1] : List Value).toArray below meth c H locs 0 0 (MQ below (tQp (fun r => True)) ([.int x0, .int x1] : List Value).toArray s 0 0 tNo) (F0 m 0 ls []) by subst eH; subst eL; exact hW
  refine lv_iload_n hx hb dX9_bitOf_0 rfl (lv_at hl 0 rfl) ?_
  refine lv_iload_n hx hb dX9_bitOf_1 rfl (lv_at hl 1 rfl) ?_
  refine lv_iushr hx hb dX9_bitOf_2 rfl ?_
  refine lv_topi (fun z1 ez1 => ?_)
  refine lv_iconst (v := 1) hx hb dX9_bitOf_3 (by decide) ?_
  refine lv_iand hx hb dX9_bitOf_4 ?_
  refine lv_topi (fun z2 ez2 => ?_)
  exact tc_pret E hr hlk eH eL rfl trivial dX9_bitOf_5

set_option maxHeartbeats 4000000 in
set_option maxRecDepth 100000 in
theorem c_X6_hasPlace (l : Launch) (G : tG) (τ : Nat → Nat) (h0 : Nat) (x1 : Int32) (t0 : τ h0 = 9) : Met l yX6_hasPlace (.code yX6_hasPlace cX6_hasPlace 2 (some .boolean) :: tWS) (tRm 0 0) (va_Pc [.ref h0, .int x1] (tPre G τ)) (tQp (fun r => (0 ≤ r.toInt ∧ r.toInt ≤ 1) ∧ (r.toInt = 0 ∨ (0 ≤ x1.toInt ∧ x1.toInt ≤ 59)))) 0 0 tNo := by
  refine tc_met (by decide) (Nat.le_of_ble_eq_true rfl) ?_
  intro p e s m below meth c E hSt hr hlk hG ls hl
  have hl : lv_has ls 2 [(0, .ref h0), (1, .int x1)] := hl
  have hx := E.1
  have hb := E.2.1
  obtain ⟨H, eH⟩ : ∃ H, H = s.heap := ⟨_, rfl⟩
  obtain ⟨locs, eL⟩ : ∃ x : List Loc, x = [] := ⟨_, rfl⟩
  have hG : tGH G τ s H locs := by rw [eH, eL]; exact hG
  suffices hW : W p l e (tRm 0 0) s m ([.ref h0, .int x1] : List Value).toArray below meth c H locs 0 0 (MQ below (tQp (fun r => (0 ≤ r.toInt ∧ r.toInt ≤ 1) ∧ (r.toInt = 0 ∨ (0 ≤ x1.toInt ∧ x1.toInt ≤ 59)))) ([.ref h0, .int x1] : List Value).toArray s 0 0 tNo) (F0 m 0 ls []) by subst eH; subst eL; exact hW
  refine lv_iload_n hx hb dX6_hasPlace_0 rfl (lv_at hl 1 rfl) ?_
  refine lv_if_lt (tgt := 16) hx hb dX6_hasPlace_1 (by decide) (fun c1 => ?_) (fun c1 => ?_)
  · skip
    have ic1 := tn_lt rfl kI_0 c1
    refine lv_iconst (v := 0) hx hb dX6_hasPlace_16 (by decide) ?_
    exact tc_pret E hr hlk eH eL (t_nz (by decide) (by decide)).1 (show (0 ≤ (0 : Int32).toInt ∧ (0 : Int32).toInt ≤ 1) ∧ ((0 : Int32).toInt = 0 ∨ (0 ≤ x1.toInt ∧ x1.toInt ≤ 59)) by have kk := kI_0; omega) dX6_hasPlace_17
  · skip
    have ic1 := tn_nlt rfl kI_0 c1
    refine lv_iload_n hx hb dX6_hasPlace_4 rfl (lv_at hl 1 rfl) ?_
    refine lv_aload_n hx hb dX6_hasPlace_5 rfl (lv_at hl 0 rfl) ?_
    refine tc_geti E hG t0 fi_X6_19 dX6_hasPlace_6 (fun z2 lz2 uz2 => ?_)
    refine lv_icmp_ge (tgt := 16) hx hb dX6_hasPlace_9 (by decide) (fun c3 => ?_) (fun c3 => ?_)
    · skip
      have ic3 := tn_le rfl rfl c3
      refine lv_iconst (v := 0) hx hb dX6_hasPlace_16 (by decide) ?_
      exact tc_pret E hr hlk eH eL (t_nz (by decide) (by decide)).1 (show (0 ≤ (0 : Int32).toInt ∧ (0 : Int32).toInt ≤ 1) ∧ ((0 : Int32).toInt = 0 ∨ (0 ≤ x1.toInt ∧ x1.toInt ≤ 59)) by have kk := kI_0; omega) dX6_hasPlace_17
    · skip
      have ic3 := tn_nle rfl rfl c3
      refine lv_iconst (v := 1) hx hb dX6_hasPlace_12 (by decide) ?_
      refine lv_goto (tgt := 17) hx hb dX6_hasPlace_13 (by decide) ?_
      exact tc_pret E hr hlk eH eL (t_nz (by decide) (by decide)).1 (show (0 ≤ (1 : Int32).toInt ∧ (1 : Int32).toInt ≤ 1) ∧ ((1 : Int32).toInt = 0 ∨ (0 ≤ x1.toInt ∧ x1.toInt ≤ 59)) by have kk := kI_1; omega) dX6_hasPlace_17

set_option maxHeartbeats 4000000 in
set_option maxRecDepth 100000 in
theorem c_X6_hasRun (l : Launch) (G : tG) (τ : Nat → Nat) (h0 : Nat) (x1 : Int32) (x2 : Int32) (t0 : τ h0 = 9) : Met l yX6_hasRun (.code yX6_hasRun cX6_hasRun 3 (some .boolean) :: tWS) (tRm 0 0) (va_Pc [.ref h0, .int x1, .int x2] (tPre G τ)) (tQp (fun r => (0 ≤ r.toInt ∧ r.toInt ≤ 1) ∧ (r.toInt = 0 ∨ (0 ≤ x1.toInt ∧ 0 ≤ x2.toInt ∧ x1.toInt + x2.toInt ≤ 60)))) 0 0 tNo := by
  refine tc_met (by decide) (Nat.le_of_ble_eq_true rfl) ?_
  intro p e s m below meth c E hSt hr hlk hG ls hl
  have hl : lv_has ls 3 [(0, .ref h0), (1, .int x1), (2, .int x2)] := hl
  have hx := E.1
  have hb := E.2.1
  obtain ⟨H, eH⟩ : ∃ H, H = s.heap := ⟨_, rfl⟩
  obtain ⟨locs, eL⟩ : ∃ x : List Loc, x = [] := ⟨_, rfl⟩
  have hG : tGH G τ s H locs := by rw [eH, eL]; exact hG
  suffices hW : W p l e (tRm 0 0) s m ([.ref h0, .int x1, .int x2] : List Value).toArray below meth c H locs 0 0 (MQ below (tQp (fun r => (0 ≤ r.toInt ∧ r.toInt ≤ 1) ∧ (r.toInt = 0 ∨ (0 ≤ x1.toInt ∧ 0 ≤ x2.toInt ∧ x1.toInt + x2.toInt ≤ 60)))) ([.ref h0, .int x1, .int x2] : List Value).toArray s 0 0 tNo) (F0 m 0 ls []) by subst eH; subst eL; exact hW
  refine lv_iload_n hx hb dX6_hasRun_0 rfl (lv_at hl 2 rfl) ?_
  refine lv_if_lt (tgt := 30) hx hb dX6_hasRun_1 (by decide) (fun c1 => ?_) (fun c1 => ?_)
  · skip
    have ic1 := tn_lt rfl kI_0 c1
    refine lv_iconst (v := 0) hx hb dX6_hasRun_30 (by decide) ?_
    exact tc_pret E hr hlk eH eL (t_nz (by decide) (by decide)).1 (show (0 ≤ (0 : Int32).toInt ∧ (0 : Int32).toInt ≤ 1) ∧ ((0 : Int32).toInt = 0 ∨ (0 ≤ x1.toInt ∧ 0 ≤ x2.toInt ∧ x1.toInt + x2.toInt ≤ 60)) by have kk := kI_0; omega) dX6_hasRun_31
  · skip
    have ic1 := tn_nlt rfl kI_0 c1
    refine lv_iload_n hx hb dX6_hasRun_4 rfl (lv_at hl 1 rfl) ?_
    refine lv_if_lt (tgt := 30) hx hb dX6_hasRun_5 (by decide) (fun c2 => ?_) (fun c2 => ?_)
    · skip
      have ic2 := tn_lt rfl kI_0 c2
      refine lv_iconst (v := 0) hx hb dX6_hasRun_30 (by decide) ?_
      exact tc_pret E hr hlk eH eL (t_nz (by decide) (by decide)).1 (show (0 ≤ (0 : Int32).toInt ∧ (0 : Int32).toInt ≤ 1) ∧ ((0 : Int32).toInt = 0 ∨ (0 ≤ x1.toInt ∧ 0 ≤ x2.toInt ∧ x1.toInt + x2.toInt ≤ 60)) by have kk := kI_0; omega) dX6_hasRun_31
    · skip
      have ic2 := tn_nlt rfl kI_0 c2
      refine lv_iload_n hx hb dX6_hasRun_8 rfl (lv_at hl 2 rfl) ?_
      refine lv_aload_n hx hb dX6_hasRun_9 rfl (lv_at hl 0 rfl) ?_
      refine tc_getiS E hG t0 fi_X6_19 dX6_hasRun_10 (fun z3 lz3 uz3 fv4 => ?_)
      have fv4 := fv4 _ rfl
      refine lv_icmp_gt (tgt := 30) hx hb dX6_hasRun_13 (by decide) (fun c5 => ?_) (fun c5 => ?_)
      · skip
        have ic5 := tn_lt rfl rfl c5
        refine lv_iconst (v := 0) hx hb dX6_hasRun_30 (by decide) ?_
        exact tc_pret E hr hlk eH eL (t_nz (by decide) (by decide)).1 (show (0 ≤ (0 : Int32).toInt ∧ (0 : Int32).toInt ≤ 1) ∧ ((0 : Int32).toInt = 0 ∨ (0 ≤ x1.toInt ∧ 0 ≤ x2.toInt ∧ x1.toInt + x2.toInt ≤ 60)) by have kk := kI_0; omega) dX6_hasRun_31
      · skip
        have ic5 := tn_nlt rfl rfl c5
        refine lv_iload_n hx hb dX6_hasRun_16 rfl (lv_at hl 1 rfl) ?_
        refine lv_aload_n hx hb dX6_hasRun_17 rfl (lv_at hl 0 rfl) ?_
        refine tc_seen E ff_X6_19 fv4 dX6_hasRun_18 ?_
        refine lv_iload_n hx hb dX6_hasRun_21 rfl (lv_at hl 2 rfl) ?_
        refine lv_isub hx hb dX6_hasRun_22 ?_
        refine lv_topi (fun z6 ez6 => ?_)
        have tz6 := tn_sub ez6 rfl rfl (by omega) (by omega)
        refine lv_icmp_gt (tgt := 30) hx hb dX6_hasRun_23 (by decide) (fun c7 => ?_) (fun c7 => ?_)
        · skip
          have ic7 := tn_lt rfl rfl c7
          refine lv_iconst (v := 0) hx hb dX6_hasRun_30 (by decide) ?_
          exact tc_pret E hr hlk eH eL (t_nz (by decide) (by decide)).1 (show (0 ≤ (0 : Int32).toInt ∧ (0 : Int32).toInt ≤ 1) ∧ ((0 : Int32).toInt = 0 ∨ (0 ≤ x1.toInt ∧ 0 ≤ x2.toInt ∧ x1.toInt + x2.toInt ≤ 60)) by have kk := kI_0; omega) dX6_hasRun_31
        · skip
          have ic7 := tn_nlt rfl rfl c7
          refine lv_iconst (v := 1) hx hb dX6_hasRun_26 (by decide) ?_
          refine lv_goto (tgt := 31) hx hb dX6_hasRun_27 (by decide) ?_
          exact tc_pret E hr hlk eH eL (t_nz (by decide) (by decide)).1 (show (0 ≤ (1 : Int32).toInt ∧ (1 : Int32).toInt ≤ 1) ∧ ((1 : Int32).toInt = 0 ∨ (0 ≤ x1.toInt ∧ 0 ≤ x2.toInt ∧ x1.toInt + x2.toInt ≤ 60)) by have kk := kI_1; omega) dX6_hasRun_31

set_option maxHeartbeats 4000000 in
set_option maxRecDepth 100000 in
theorem c_X6_cutToSort (l : Launch) (G : tG) (τ : Nat → Nat) (h0 : Nat) (x1 : Int64) (t0 : τ h0 = 9) : Met l yX6_cutToSort (.code yX6_cutToSort cX6_cutToSort 3 (some .long) :: tWS) (tRm 0 0) (va_Pc [.ref h0, .long x1] (tPre G τ)) (tQpl (fun r => True)) 0 0 tNo := by
  refine tc_met (by decide) (Nat.le_of_ble_eq_true rfl) ?_
  intro p e s m below meth c E hSt hr hlk hG ls hl
  have hl : lv_has ls 3 [(0, .ref h0), (1, .long x1)] := hl
  have hx := E.1
  have hb := E.2.1
  obtain ⟨H, eH⟩ : ∃ H, H = s.heap := ⟨_, rfl⟩
  obtain ⟨locs, eL⟩ : ∃ x : List Loc, x = [] := ⟨_, rfl⟩
  have hG : tGH G τ s H locs := by rw [eH, eL]; exact hG
  suffices hW : W p l e (tRm 0 0) s m ([.ref h0, .long x1] : List Value).toArray below meth c H locs 0 0 (MQ below (tQpl (fun r => True)) ([.ref h0, .long x1] : List Value).toArray s 0 0 tNo) (F0 m 0 ls []) by subst eH; subst eL; exact hW
  refine lv_aload_n hx hb dX6_cutToSort_0 rfl (lv_at hl 0 rfl) ?_
  refine tc_geti E hG t0 fi_X6_15 dX6_cutToSort_1 (fun z1 _ _ => ?_)
  rcases (show (z1.toInt < 0 ∨ 2 < z1.toInt) ∨ z1.toInt = 0 ∨ z1.toInt = 1 ∨ z1.toInt = 2 by omega) with k2 | k2 | k2 | k2
  · refine lv_tableOut (tgt := 46) hx hb dX6_cutToSort_4 k2 (by decide) ?_
    refine lv_lload_n hx hb dX6_cutToSort_46 rfl (lv_at hl 1 rfl) ?_
    exact tc_plret E hr hlk eH eL trivial dX6_cutToSort_47
  · refine lv_tableIn (off := 28) (tgt := 32) hx hb dX6_cutToSort_4 (by rw [k2]; decide) (by rw [k2]; decide) (by rw [k2]; rfl) (by decide) ?_
    refine lv_lload_n hx hb dX6_cutToSort_32 rfl (lv_at hl 1 rfl) ?_
    refine lv_l2i hx hb dX6_cutToSort_33 rfl ?_
    refine lv_topi (fun z3 ez3 => ?_)
    refine lv_i2b hx hb dX6_cutToSort_34 rfl ?_
    refine lv_topi (fun z4 ez4 => ?_)
    refine lv_i2l hx hb dX6_cutToSort_35 rfl ?_
    refine lv_topl (fun z5 ez5 => ?_)
    exact tc_plret E hr hlk eH eL trivial dX6_cutToSort_36
  · refine lv_tableIn (off := 33) (tgt := 37) hx hb dX6_cutToSort_4 (by rw [k2]; decide) (by rw [k2]; decide) (by rw [k2]; rfl) (by decide) ?_
    refine lv_lload_n hx hb dX6_cutToSort_37 rfl (lv_at hl 1 rfl) ?_
    refine lv_l2i hx hb dX6_cutToSort_38 rfl ?_
    refine lv_topi (fun z6 ez6 => ?_)
    refine lv_i2s hx hb dX6_cutToSort_39 rfl ?_
    refine lv_topi (fun z7 ez7 => ?_)
    refine lv_i2l hx hb dX6_cutToSort_40 rfl ?_
    refine lv_topl (fun z8 ez8 => ?_)
    exact tc_plret E hr hlk eH eL trivial dX6_cutToSort_41
  · refine lv_tableIn (off := 38) (tgt := 42) hx hb dX6_cutToSort_4 (by rw [k2]; decide) (by rw [k2]; decide) (by rw [k2]; rfl) (by decide) ?_
    refine lv_lload_n hx hb dX6_cutToSort_42 rfl (lv_at hl 1 rfl) ?_
    refine lv_l2i hx hb dX6_cutToSort_43 rfl ?_
    refine lv_topi (fun z9 ez9 => ?_)
    refine lv_i2l hx hb dX6_cutToSort_44 rfl ?_
    refine lv_topl (fun z10 ez10 => ?_)
    exact tc_plret E hr hlk eH eL trivial dX6_cutToSort_45
