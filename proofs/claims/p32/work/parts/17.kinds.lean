theorem tq_some {τ : Nat → Nat} {b t : Nat} (h : (some b : Option Nat) = none ∨ ∃ y, (some b : Option Nat) = some y ∧ τ y = t) : τ b = t := by
  rcases h with h | ⟨y, h, e⟩
  · cases h
  · cases h; exact e

theorem tn_tab0 {z : Int32} {n : Nat} (e : z = tSw 0 n) : 0 ≤ z.toInt ∧ z.toInt ≤ 4 := by
  subst e
  by_cases h : n < 10
  · rcases (show n = 0 ∨ n = 1 ∨ n = 2 ∨ n = 3 ∨ n = 4 ∨ n = 5 ∨ n = 6 ∨ n = 7 ∨ n = 8 ∨ n = 9 by omega) with h | h | h | h | h | h | h | h | h | h <;> subst h <;> decide
  · have : tSw 0 n = 0 := by
      unfold tSw
      simp only [List.getD_cons_zero, List.getD_cons_succ, List.getD_nil]
      rw [List.getD_eq_getElem?_getD, List.getElem?_eq_none (by simp; omega)]
      rfl
    rw [this]
    decide

theorem tn_tab1 {z : Int32} {n : Nat} (e : z = tSw 1 n) : 0 ≤ z.toInt ∧ z.toInt ≤ 8 := by
  subst e
  by_cases h : n < 10
  · rcases (show n = 0 ∨ n = 1 ∨ n = 2 ∨ n = 3 ∨ n = 4 ∨ n = 5 ∨ n = 6 ∨ n = 7 ∨ n = 8 ∨ n = 9 by omega) with h | h | h | h | h | h | h | h | h | h <;> subst h <;> decide
  · have : tSw 1 n = 0 := by
      unfold tSw
      simp only [List.getD_cons_zero, List.getD_cons_succ, List.getD_nil]
      rw [List.getD_eq_getElem?_getD, List.getElem?_eq_none (by simp; omega)]
      rfl
    rw [this]
    decide

theorem tn_tab2 {z : Int32} {n : Nat} (e : z = tSw 2 n) : 0 ≤ z.toInt ∧ z.toInt ≤ 1 := by
  subst e
  by_cases h : n < 10
  · rcases (show n = 0 ∨ n = 1 ∨ n = 2 ∨ n = 3 ∨ n = 4 ∨ n = 5 ∨ n = 6 ∨ n = 7 ∨ n = 8 ∨ n = 9 by omega) with h | h | h | h | h | h | h | h | h | h <;> subst h <;> decide
  · have : tSw 2 n = 0 := by
      unfold tSw
      simp only [List.getD_cons_zero, List.getD_cons_succ, List.getD_nil]
      rw [List.getD_eq_getElem?_getD, List.getElem?_eq_none (by simp; omega)]
      rfl
    rw [this]
    decide

theorem tn_tab3 {z : Int32} {n : Nat} (e : z = tSw 3 n) : 0 ≤ z.toInt ∧ z.toInt ≤ 99 := by
  subst e
  by_cases h : n < 10
  · rcases (show n = 0 ∨ n = 1 ∨ n = 2 ∨ n = 3 ∨ n = 4 ∨ n = 5 ∨ n = 6 ∨ n = 7 ∨ n = 8 ∨ n = 9 by omega) with h | h | h | h | h | h | h | h | h | h <;> subst h <;> decide
  · have : tSw 3 n = 0 := by
      unfold tSw
      simp only [List.getD_cons_zero, List.getD_cons_succ, List.getD_nil]
      rw [List.getD_eq_getElem?_getD, List.getElem?_eq_none (by simp; omega)]
      rfl
    rw [this]
    decide

theorem tn_tab4 {z : Int32} {n : Nat} (e : z = tSw 4 n) : 0 ≤ z.toInt ∧ z.toInt ≤ 99 := by
  subst e
  by_cases h : n < 10
  · rcases (show n = 0 ∨ n = 1 ∨ n = 2 ∨ n = 3 ∨ n = 4 ∨ n = 5 ∨ n = 6 ∨ n = 7 ∨ n = 8 ∨ n = 9 by omega) with h | h | h | h | h | h | h | h | h | h <;> subst h <;> decide
  · have : tSw 4 n = 0 := by
      unfold tSw
      simp only [List.getD_cons_zero, List.getD_cons_succ, List.getD_nil]
      rw [List.getD_eq_getElem?_getD, List.getElem?_eq_none (by simp; omega)]
      rfl
    rw [this]
    decide

set_option maxHeartbeats 4000000 in
set_option maxRecDepth 100000 in
theorem c_X8_has (l : Launch) (G : tG) (τ : Nat → Nat) (h0 : Nat) (x1 : Int32) (t0 : τ h0 = 2) : Met l yX8_has (.code yX8_has cX8_has 2 (some .boolean) :: tWS) (tRm 0 0) (va_Pc [.ref h0, .int x1] (tPre G τ)) (tQi G τ (fun r => (0 ≤ r.toInt ∧ r.toInt ≤ 1) ∧ (r.toInt = 0 ∨ (0 ≤ x1.toInt ∧ x1.toInt ≤ 23)))) 0 0 (tA τ) := by
  refine tc_met (by decide) (Nat.le_of_ble_eq_true rfl) ?_
  intro p e s m below meth c E hSt hr hlk hG ls hl
  have hl : lv_has ls 2 [(0, .ref h0), (1, .int x1)] := hl
  have hx := E.1
  have hb := E.2.1
  obtain ⟨H, eH⟩ : ∃ H, H = s.heap := ⟨_, rfl⟩
  obtain ⟨locs, eL⟩ : ∃ x : List Loc, x = [] := ⟨_, rfl⟩
  have hG : tGH G τ s H locs := by rw [eH, eL]; exact hG
  suffices hW : W p l e (tRm 0 0) s m _ below meth c H locs 0 0 (MQ below (tQi G τ (fun r => (0 ≤ r.toInt ∧ r.toInt ≤ 1) ∧ (r.toInt = 0 ∨ (0 ≤ x1.toInt ∧ x1.toInt ≤ 23)))) ([.ref h0, .int x1] : List Value).toArray s 0 0 (tA τ)) (F0 m 0 ls []) by rw [eH, eL] at hW; exact hW
  clear eH eL
  refine lv_iload_n hx hb dX8_has_0 rfl (lv_at hl 1 rfl) ?_
  refine lv_if_lt (tgt := 26) hx hb dX8_has_1 (by decide) (fun c1 => ?_) (fun c1 => ?_)
  · skip
    have ic1 := tn_lt rfl kI_0 c1
    refine lv_iconst (v := 0) hx hb dX8_has_26 (by decide) ?_
    exact tc_zret E hr hlk hG (t_nz (by decide) (by decide)).1 (show (0 ≤ (0 : Int32).toInt ∧ (0 : Int32).toInt ≤ 1) ∧ ((0 : Int32).toInt = 0 ∨ (0 ≤ x1.toInt ∧ x1.toInt ≤ 23)) by have kk := kI_0; omega) dX8_has_27
  · skip
    have ic1 := tn_nlt rfl kI_0 c1
    refine lv_iload_n hx hb dX8_has_4 rfl (lv_at hl 1 rfl) ?_
    refine lv_bipush (v := 24) hx hb dX8_has_5 (by decide) ?_
    refine lv_icmp_ge (tgt := 26) hx hb dX8_has_7 (by decide) (fun c2 => ?_) (fun c2 => ?_)
    · skip
      have ic2 := tn_le kI_24 rfl c2
      refine lv_iconst (v := 0) hx hb dX8_has_26 (by decide) ?_
      exact tc_zret E hr hlk hG (t_nz (by decide) (by decide)).1 (show (0 ≤ (0 : Int32).toInt ∧ (0 : Int32).toInt ≤ 1) ∧ ((0 : Int32).toInt = 0 ∨ (0 ≤ x1.toInt ∧ x1.toInt ≤ 23)) by have kk := kI_0; omega) dX8_has_27
    · skip
      have ic2 := tn_nle kI_24 rfl c2
      refine lv_aload_n hx hb dX8_has_10 rfl (lv_at hl 0 rfl) ?_
      refine tc_geti E hG t0 fi_X8_40 dX8_has_11 (fun z3 _ _ => ?_)
      refine lv_iload_n hx hb dX8_has_14 rfl (lv_at hl 1 rfl) ?_
      refine lv_iushr hx hb dX8_has_15 rfl ?_
      refine lv_topi (fun z4 ez4 => ?_)
      refine lv_iconst (v := 1) hx hb dX8_has_16 (by decide) ?_
      refine lv_iand hx hb dX8_has_17 ?_
      refine lv_topi (fun z5 ez5 => ?_)
      refine lv_iconst (v := 1) hx hb dX8_has_18 (by decide) ?_
      refine lv_icmp_ne (tgt := 26) hx hb dX8_has_19 (by decide) (fun c6 => ?_) (fun c6 => ?_)
      · skip
        have ic6 := tn_ne rfl kI_1 c6
        refine lv_iconst (v := 0) hx hb dX8_has_26 (by decide) ?_
        exact tc_zret E hr hlk hG (t_nz (by decide) (by decide)).1 (show (0 ≤ (0 : Int32).toInt ∧ (0 : Int32).toInt ≤ 1) ∧ ((0 : Int32).toInt = 0 ∨ (0 ≤ x1.toInt ∧ x1.toInt ≤ 23)) by have kk := kI_0; omega) dX8_has_27
      · skip
        have ic6 := tn_eq rfl kI_1 c6
        refine lv_iconst (v := 1) hx hb dX8_has_22 (by decide) ?_
        refine lv_goto (tgt := 27) hx hb dX8_has_23 (by decide) ?_
        exact tc_zret E hr hlk hG (t_nz (by decide) (by decide)).1 (show (0 ≤ (1 : Int32).toInt ∧ (1 : Int32).toInt ≤ 1) ∧ ((1 : Int32).toInt = 0 ∨ (0 ≤ x1.toInt ∧ x1.toInt ≤ 23)) by have kk := kI_1; omega) dX8_has_27

set_option maxHeartbeats 4000000 in
set_option maxRecDepth 100000 in
theorem c_X8_isDirty (l : Launch) (G : tG) (τ : Nat → Nat) (h0 : Nat) (x1 : Int32) (t0 : τ h0 = 2) : Met l yX8_isDirty (.code yX8_isDirty cX8_isDirty 2 (some .boolean) :: tWS) (tRm 0 0) (va_Pc [.ref h0, .int x1] (tPre G τ)) (tQi G τ (fun r => 0 ≤ r.toInt ∧ r.toInt ≤ 1)) 0 0 (tA τ) := by
  refine tc_met (by decide) (Nat.le_of_ble_eq_true rfl) ?_
  intro p e s m below meth c E hSt hr hlk hG ls hl
  have hl : lv_has ls 2 [(0, .ref h0), (1, .int x1)] := hl
  have hx := E.1
  have hb := E.2.1
  obtain ⟨H, eH⟩ : ∃ H, H = s.heap := ⟨_, rfl⟩
  obtain ⟨locs, eL⟩ : ∃ x : List Loc, x = [] := ⟨_, rfl⟩
  have hG : tGH G τ s H locs := by rw [eH, eL]; exact hG
  suffices hW : W p l e (tRm 0 0) s m _ below meth c H locs 0 0 (MQ below (tQi G τ (fun r => 0 ≤ r.toInt ∧ r.toInt ≤ 1)) ([.ref h0, .int x1] : List Value).toArray s 0 0 (tA τ)) (F0 m 0 ls []) by rw [eH, eL] at hW; exact hW
  clear eH eL
  refine lv_aload_n hx hb dX8_isDirty_0 rfl (lv_at hl 0 rfl) ?_
  refine tc_geti E hG t0 fi_X8_43 dX8_isDirty_1 (fun z1 _ _ => ?_)
  refine lv_iload_n hx hb dX8_isDirty_4 rfl (lv_at hl 1 rfl) ?_
  refine lv_iushr hx hb dX8_isDirty_5 rfl ?_
  refine lv_topi (fun z2 ez2 => ?_)
  refine lv_iconst (v := 1) hx hb dX8_isDirty_6 (by decide) ?_
  refine lv_iand hx hb dX8_isDirty_7 ?_
  refine lv_topi (fun z3 ez3 => ?_)
  refine lv_iconst (v := 1) hx hb dX8_isDirty_8 (by decide) ?_
  refine lv_icmp_ne (tgt := 16) hx hb dX8_isDirty_9 (by decide) (fun c4 => ?_) (fun c4 => ?_)
  · skip
    have ic4 := tn_ne rfl kI_1 c4
    refine lv_iconst (v := 0) hx hb dX8_isDirty_16 (by decide) ?_
    exact tc_zret E hr hlk hG (t_nz (by decide) (by decide)).1 (show 0 ≤ (0 : Int32).toInt ∧ (0 : Int32).toInt ≤ 1 by have kk := kI_0; omega) dX8_isDirty_17
  · skip
    have ic4 := tn_eq rfl kI_1 c4
    refine lv_iconst (v := 1) hx hb dX8_isDirty_12 (by decide) ?_
    refine lv_goto (tgt := 17) hx hb dX8_isDirty_13 (by decide) ?_
    exact tc_zret E hr hlk hG (t_nz (by decide) (by decide)).1 (show 0 ≤ (1 : Int32).toInt ∧ (1 : Int32).toInt ≤ 1 by have kk := kI_1; omega) dX8_isDirty_17

set_option maxHeartbeats 4000000 in
set_option maxRecDepth 100000 in
theorem c_X1_isKind (l : Launch) (G : tG) (τ : Nat → Nat) (x0 : Int32)  : Met l yX1_isKind (.code yX1_isKind cX1_isKind 1 (some .boolean) :: tWS) (tRm 0 0) (va_Pc [.int x0] (tPre G τ)) (tQi G τ (fun r => (0 ≤ r.toInt ∧ r.toInt ≤ 1) ∧ (r.toInt = 0 ∨ (0 ≤ x0.toInt ∧ x0.toInt ≤ 9)))) 0 0 (tA τ) := by
  refine tc_met (by decide) (Nat.le_of_ble_eq_true rfl) ?_
  intro p e s m below meth c E hSt hr hlk hG ls hl
  have hl : lv_has ls 1 [(0, .int x0)] := hl
  have hx := E.1
  have hb := E.2.1
  obtain ⟨H, eH⟩ : ∃ H, H = s.heap := ⟨_, rfl⟩
  obtain ⟨locs, eL⟩ : ∃ x : List Loc, x = [] := ⟨_, rfl⟩
  have hG : tGH G τ s H locs := by rw [eH, eL]; exact hG
  suffices hW : W p l e (tRm 0 0) s m _ below meth c H locs 0 0 (MQ below (tQi G τ (fun r => (0 ≤ r.toInt ∧ r.toInt ≤ 1) ∧ (r.toInt = 0 ∨ (0 ≤ x0.toInt ∧ x0.toInt ≤ 9)))) ([.int x0] : List Value).toArray s 0 0 (tA τ)) (F0 m 0 ls []) by rw [eH, eL] at hW; exact hW
  clear eH eL
  refine lv_iload_n hx hb dX1_isKind_0 rfl (lv_at hl 0 rfl) ?_
  refine lv_if_lt (tgt := 14) hx hb dX1_isKind_1 (by decide) (fun c1 => ?_) (fun c1 => ?_)
  · skip
    have ic1 := tn_lt rfl kI_0 c1
    refine lv_iconst (v := 0) hx hb dX1_isKind_14 (by decide) ?_
    exact tc_zret E hr hlk hG (t_nz (by decide) (by decide)).1 (show (0 ≤ (0 : Int32).toInt ∧ (0 : Int32).toInt ≤ 1) ∧ ((0 : Int32).toInt = 0 ∨ (0 ≤ x0.toInt ∧ x0.toInt ≤ 9)) by have kk := kI_0; omega) dX1_isKind_15
  · skip
    have ic1 := tn_nlt rfl kI_0 c1
    refine lv_iload_n hx hb dX1_isKind_4 rfl (lv_at hl 0 rfl) ?_
    refine lv_bipush (v := 10) hx hb dX1_isKind_5 (by decide) ?_
    refine lv_icmp_ge (tgt := 14) hx hb dX1_isKind_7 (by decide) (fun c2 => ?_) (fun c2 => ?_)
    · skip
      have ic2 := tn_le kI_10 rfl c2
      refine lv_iconst (v := 0) hx hb dX1_isKind_14 (by decide) ?_
      exact tc_zret E hr hlk hG (t_nz (by decide) (by decide)).1 (show (0 ≤ (0 : Int32).toInt ∧ (0 : Int32).toInt ≤ 1) ∧ ((0 : Int32).toInt = 0 ∨ (0 ≤ x0.toInt ∧ x0.toInt ≤ 9)) by have kk := kI_0; omega) dX1_isKind_15
    · skip
      have ic2 := tn_nle kI_10 rfl c2
      refine lv_iconst (v := 1) hx hb dX1_isKind_10 (by decide) ?_
      refine lv_goto (tgt := 15) hx hb dX1_isKind_11 (by decide) ?_
      exact tc_zret E hr hlk hG (t_nz (by decide) (by decide)).1 (show (0 ≤ (1 : Int32).toInt ∧ (1 : Int32).toInt ≤ 1) ∧ ((1 : Int32).toInt = 0 ∨ (0 ≤ x0.toInt ∧ x0.toInt ≤ 9)) by have kk := kI_1; omega) dX1_isKind_15

set_option maxHeartbeats 4000000 in
set_option maxRecDepth 100000 in
theorem c_X1_numbersOf (l : Launch) (G : tG) (τ : Nat → Nat) (x0 : Int32)  : Met l yX1_numbersOf (.code yX1_numbersOf cX1_numbersOf 1 (some .int) :: tWS) (tRm 1 20) (va_Pc [.int x0] (tPre G τ)) (tQi G τ (fun r => (0 ≤ r.toInt ∧ r.toInt ≤ 4) ∧ (r.toInt = 0 ∨ (0 ≤ x0.toInt ∧ x0.toInt ≤ 9)))) 0 0 (tA τ) := by
  refine tc_met (by decide) (Nat.le_of_ble_eq_true rfl) ?_
  intro p e s m below meth c E hSt hr hlk hG ls hl
  have hl : lv_has ls 1 [(0, .int x0)] := hl
  have hx := E.1
  have hb := E.2.1
  obtain ⟨H, eH⟩ : ∃ H, H = s.heap := ⟨_, rfl⟩
  obtain ⟨locs, eL⟩ : ∃ x : List Loc, x = [] := ⟨_, rfl⟩
  have hG : tGH G τ s H locs := by rw [eH, eL]; exact hG
  suffices hW : W p l e (tRm 1 20) s m _ below meth c H locs 0 0 (MQ below (tQi G τ (fun r => (0 ≤ r.toInt ∧ r.toInt ≤ 4) ∧ (r.toInt = 0 ∨ (0 ≤ x0.toInt ∧ x0.toInt ≤ 9)))) ([.int x0] : List Value).toArray s 0 0 (tA τ)) (F0 m 0 ls []) by rw [eH, eL] at hW; exact hW
  clear eH eL
  refine lv_iload_n hx hb dX1_numbersOf_0 rfl (lv_at hl 0 rfl) ?_
  refine tc_calli hG (tc_runS (As := [.int x0]) (rest := []) E hSt hG (c_X1_isKind l G τ x0) ks_X1_isKind ml_X1_9 ⟨rfl, rfl, Nat.le_of_ble_eq_true rfl, Nat.le_of_ble_eq_true rfl⟩ rfl hl.1 rfl (Nat.le_of_ble_eq_true rfl) ⟨Nat.zero_le _, Nat.zero_le _⟩ dX1_numbersOf_1) (fun r1 H locs pr1 hG => ?_)
  have pr1 : (0 ≤ r1.toInt ∧ r1.toInt ≤ 1) ∧ (r1.toInt = 0 ∨ (0 ≤ x0.toInt ∧ x0.toInt ≤ 9)) := pr1
  refine lv_if_eq (tgt := 15) hx hb dX1_numbersOf_4 (by decide) (fun c2 => ?_) (fun c2 => ?_)
  · skip
    have ic2 := tn_eq rfl kI_0 c2
    refine lv_iconst (v := 0) hx hb dX1_numbersOf_15 (by decide) ?_
    exact tc_iret E hr hlk hG (show (0 ≤ (0 : Int32).toInt ∧ (0 : Int32).toInt ≤ 4) ∧ ((0 : Int32).toInt = 0 ∨ (0 ≤ x0.toInt ∧ x0.toInt ≤ 9)) by have kk := kI_0; omega) dX1_numbersOf_16
  · skip
    have ic2 := tn_ne rfl kI_0 c2
    refine tc_gets E hSt hG 0 (by decide) fs_X1_15 dX1_numbersOf_7 ?_
    refine lv_iload_n hx hb dX1_numbersOf_10 rfl (lv_at hl 0 rfl) ?_
    refine tc_tald E hSt hG 0 (by decide) (t_in (by omega) (by omega)) dX1_numbersOf_11 ?_
    refine lv_topi (fun z3 ez3 => ?_)
    have tz3 := tn_tab0 ez3
    refine lv_goto (tgt := 16) hx hb dX1_numbersOf_12 (by decide) ?_
    exact tc_iret E hr hlk hG (show (0 ≤ z3.toInt ∧ z3.toInt ≤ 4) ∧ (z3.toInt = 0 ∨ (0 ≤ x0.toInt ∧ x0.toInt ≤ 9)) by omega) dX1_numbersOf_16
