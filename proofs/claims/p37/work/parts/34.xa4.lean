set_option maxHeartbeats 4000000 in
set_option maxRecDepth 100000 in
theorem x_X9_child (l : Launch) (G : tG) (τ : Nat → Nat) (h0 : Nat) (x1 : Int32) (x2 : Int32) (t0 : τ h0 = 1) (h8 : h0 = G.2.2.1 8) : Met l yX9_child (.code yX9_child cX9_child 3 (some .int) :: tWS) (tRm 1 21) (va_Pc [.ref h0, .int x1, .int x2] (tPre G τ)) (tQp (fun r => (((0 ≤ x1.toInt ∧ x1.toInt ≤ 23 ∧ tB ((FF G) (G.2.2.1 10) 4) x1.toInt.toNat) ∧ 0 ≤ x2.toInt ∧ x2.toInt < ((FF G) ((G.2.2.1 10) + 1 + (3 + 4 * x1.toNatClampNeg)) 10).toInt) ∧ r = (FF G) (((G.2.2.1 10) + 1 + (3 + 4 * x1.toNatClampNeg)) + 2) x2.toNatClampNeg) ∨ (¬ ((0 ≤ x1.toInt ∧ x1.toInt ≤ 23 ∧ tB ((FF G) (G.2.2.1 10) 4) x1.toInt.toNat) ∧ 0 ≤ x2.toInt ∧ x2.toInt < ((FF G) ((G.2.2.1 10) + 1 + (3 + 4 * x1.toNatClampNeg)) 10).toInt) ∧ r = -1))) 0 0 tNo := by
  refine tc_met (by decide) (Nat.le_of_ble_eq_true rfl) ?_
  intro p e s m below meth c E hSt hr hlk hG ls hl
  have hl : lv_has ls 3 [(0, .ref h0), (1, .int x1), (2, .int x2)] := hl
  have hx := E.1
  have hb := E.2.1
  obtain ⟨H, eH⟩ : ∃ H, H = s.heap := ⟨_, rfl⟩
  obtain ⟨locs, eL⟩ : ∃ x : List Loc, x = [] := ⟨_, rfl⟩
  have hG : tGH G τ s H locs := by rw [eH, eL]; exact hG
  suffices hW : W p l e (tRm 1 21) s m ([.ref h0, .int x1, .int x2] : List Value).toArray below meth c H locs 0 0 (MQ below (tQp (fun r => (((0 ≤ x1.toInt ∧ x1.toInt ≤ 23 ∧ tB ((FF G) (G.2.2.1 10) 4) x1.toInt.toNat) ∧ 0 ≤ x2.toInt ∧ x2.toInt < ((FF G) ((G.2.2.1 10) + 1 + (3 + 4 * x1.toNatClampNeg)) 10).toInt) ∧ r = (FF G) (((G.2.2.1 10) + 1 + (3 + 4 * x1.toNatClampNeg)) + 2) x2.toNatClampNeg) ∨ (¬ ((0 ≤ x1.toInt ∧ x1.toInt ≤ 23 ∧ tB ((FF G) (G.2.2.1 10) 4) x1.toInt.toNat) ∧ 0 ≤ x2.toInt ∧ x2.toInt < ((FF G) ((G.2.2.1 10) + 1 + (3 + 4 * x1.toNatClampNeg)) 10).toInt) ∧ r = -1))) ([.ref h0, .int x1, .int x2] : List Value).toArray s 0 0 tNo) (F0 m 0 ls []) by subst eH; subst eL; exact hW
  refine lv_aload_n hx hb dX9_child_0 rfl (lv_at hl 0 rfl) ?_
  refine tc_getrG E hG t0 fr_X9_12 rfl (fun _ => h8) (fun z => by cases z) dX9_child_1 (fun ha1 => ?_)
  replace ha1 : τ (G.2.2.1 10) = 2 := ha1
  refine lv_iload_n hx hb dX9_child_4 rfl (lv_at hl 1 rfl) ?_
  refine tc_callp (tc_runV (As := [.int x1]) (rest := []) E hSt hG (x_X8_has l G τ (G.2.2.1 10) x1 ha1) ha1 rv_2 kv_X8_has ml_X9_83 ⟨rfl, rfl, Nat.le_of_ble_eq_true rfl, Nat.le_of_ble_eq_true rfl⟩ rfl hl.1 rfl (Nat.le_of_ble_eq_true rfl) ⟨Nat.zero_le _, Nat.zero_le _⟩ dX9_child_5) (fun r2 pr2 => ?_)
  have pr2 : (r2.toInt = 1 ∧ (0 ≤ x1.toInt ∧ x1.toInt ≤ 23 ∧ tB ((FF G) (G.2.2.1 10) 4) x1.toInt.toNat)) ∨ (r2.toInt = 0 ∧ ¬ (0 ≤ x1.toInt ∧ x1.toInt ≤ 23 ∧ tB ((FF G) (G.2.2.1 10) 4) x1.toInt.toNat)) := pr2
  refine lv_if_eq (tgt := 31) hx hb dX9_child_8 (by decide) (fun c3 => ?_) (fun c3 => ?_)
  · skip
    have ic3 := tn_eq rfl kI_0 c3
    refine lv_iconst (v := -1) hx hb dX9_child_31 (by decide) ?_
    exact tc_pret E hr hlk eH eL rfl (show (((0 ≤ x1.toInt ∧ x1.toInt ≤ 23 ∧ tB ((FF G) (G.2.2.1 10) 4) x1.toInt.toNat) ∧ 0 ≤ x2.toInt ∧ x2.toInt < ((FF G) ((G.2.2.1 10) + 1 + (3 + 4 * x1.toNatClampNeg)) 10).toInt) ∧ (-1 : Int32) = (FF G) (((G.2.2.1 10) + 1 + (3 + 4 * x1.toNatClampNeg)) + 2) x2.toNatClampNeg) ∨ (¬ ((0 ≤ x1.toInt ∧ x1.toInt ≤ 23 ∧ tB ((FF G) (G.2.2.1 10) 4) x1.toInt.toNat) ∧ 0 ≤ x2.toInt ∧ x2.toInt < ((FF G) ((G.2.2.1 10) + 1 + (3 + 4 * x1.toNatClampNeg)) 10).toInt) ∧ (-1 : Int32) = -1) by have kk := kI_m1; exact Or.inr ⟨by grind, rfl⟩) dX9_child_32
  · skip
    have ic3 := tn_ne rfl kI_0 c3
    refine lv_iload_n hx hb dX9_child_11 rfl (lv_at hl 2 rfl) ?_
    refine lv_if_lt (tgt := 31) hx hb dX9_child_12 (by decide) (fun c4 => ?_) (fun c4 => ?_)
    · skip
      have ic4 := tn_lt rfl kI_0 c4
      refine lv_iconst (v := -1) hx hb dX9_child_31 (by decide) ?_
      exact tc_pret E hr hlk eH eL rfl (show (((0 ≤ x1.toInt ∧ x1.toInt ≤ 23 ∧ tB ((FF G) (G.2.2.1 10) 4) x1.toInt.toNat) ∧ 0 ≤ x2.toInt ∧ x2.toInt < ((FF G) ((G.2.2.1 10) + 1 + (3 + 4 * x1.toNatClampNeg)) 10).toInt) ∧ (-1 : Int32) = (FF G) (((G.2.2.1 10) + 1 + (3 + 4 * x1.toNatClampNeg)) + 2) x2.toNatClampNeg) ∨ (¬ ((0 ≤ x1.toInt ∧ x1.toInt ≤ 23 ∧ tB ((FF G) (G.2.2.1 10) 4) x1.toInt.toNat) ∧ 0 ≤ x2.toInt ∧ x2.toInt < ((FF G) ((G.2.2.1 10) + 1 + (3 + 4 * x1.toNatClampNeg)) 10).toInt) ∧ (-1 : Int32) = -1) by have kk := kI_m1; exact Or.inr ⟨by grind, rfl⟩) dX9_child_32
    · skip
      have ic4 := tn_nlt rfl kI_0 c4
      refine lv_iload_n hx hb dX9_child_15 rfl (lv_at hl 2 rfl) ?_
      refine lv_aload_n hx hb dX9_child_16 rfl (lv_at hl 0 rfl) ?_
      refine tc_getrG E hG t0 fr_X9_12 rfl (fun _ => h8) (fun z => by cases z) dX9_child_17 (fun ha5 => ?_)
      replace ha5 : τ (G.2.2.1 10) = 2 := ha5
      refine tc_getrF (d := 1) E hG ha5 fr_X9_86 rfl dX9_child_20 (fun ha6 => ?_)
      refine lv_iload_n hx hb dX9_child_23 rfl (lv_at hl 1 rfl) ?_
      refine tc_aald3F (d := 3 + 4 * x1.toNatClampNeg) E hG ha6 ta_10 rfl (t_in (by omega) (by omega)) dX9_child_24 (fun ha7 => ?_)
      have nx1 : x1.toNatClampNeg = x1.toInt.toNat := rfl
      refine tc_getF E hG ha7 fi_X9_110 rfl dX9_child_25 (fun z8 lz8 uz8 wz8 => ?_)
      replace wz8 : z8 = (FF G) (((G.2.2.1 10) + 1) + (3 + 4 * x1.toNatClampNeg)) 10 := wz8
      have cz8 : z8.toInt = ((FF G) (((G.2.2.1 10) + 1) + (3 + 4 * x1.toNatClampNeg)) 10).toInt := by rw [wz8]
      refine lv_icmp_lt (tgt := 33) hx hb dX9_child_28 (by decide) (fun c9 => ?_) (fun c9 => ?_)
      · skip
        have ic9 := tn_lt rfl rfl c9
        refine lv_aload_n hx hb dX9_child_33 rfl (lv_at hl 0 rfl) ?_
        refine tc_getrG E hG t0 fr_X9_12 rfl (fun _ => h8) (fun z => by cases z) dX9_child_34 (fun ha10 => ?_)
        replace ha10 : τ (G.2.2.1 10) = 2 := ha10
        refine tc_getrF (d := 1) E hG ha10 fr_X9_86 rfl dX9_child_37 (fun ha11 => ?_)
        refine lv_iload_n hx hb dX9_child_40 rfl (lv_at hl 1 rfl) ?_
        refine tc_aald3F (d := 3 + 4 * x1.toNatClampNeg) E hG ha11 ta_10 rfl (t_in (by omega) (by omega)) dX9_child_41 (fun ha12 => ?_)
        have nx1 : x1.toNatClampNeg = x1.toInt.toNat := rfl
        refine tc_getrF (d := 2) E hG ha12 fr_X9_161 rfl dX9_child_42 (fun ha13 => ?_)
        refine lv_iload_n hx hb dX9_child_45 rfl (lv_at hl 2 rfl) ?_
        refine tc_ialdF E hG ha13 ta_12 rfl (t_in (by omega) (by omega)) dX9_child_46 (fun z14 lz14 uz14 wz14 => ?_)
        replace wz14 : z14 = (FF G) ((((G.2.2.1 10) + 1) + (3 + 4 * x1.toNatClampNeg)) + 2) x2.toNatClampNeg := wz14
        have cz14 : z14.toInt = ((FF G) ((((G.2.2.1 10) + 1) + (3 + 4 * x1.toNatClampNeg)) + 2) x2.toNatClampNeg).toInt := by rw [wz14]
        exact tc_pret E hr hlk eH eL rfl (show (((0 ≤ x1.toInt ∧ x1.toInt ≤ 23 ∧ tB ((FF G) (G.2.2.1 10) 4) x1.toInt.toNat) ∧ 0 ≤ x2.toInt ∧ x2.toInt < ((FF G) ((G.2.2.1 10) + 1 + (3 + 4 * x1.toNatClampNeg)) 10).toInt) ∧ z14 = (FF G) (((G.2.2.1 10) + 1 + (3 + 4 * x1.toNatClampNeg)) + 2) x2.toNatClampNeg) ∨ (¬ ((0 ≤ x1.toInt ∧ x1.toInt ≤ 23 ∧ tB ((FF G) (G.2.2.1 10) 4) x1.toInt.toNat) ∧ 0 ≤ x2.toInt ∧ x2.toInt < ((FF G) ((G.2.2.1 10) + 1 + (3 + 4 * x1.toNatClampNeg)) 10).toInt) ∧ z14 = -1) by exact Or.inl ⟨by grind, (by simp only [wz14, wz8])⟩) dX9_child_47
      · skip
        have ic9 := tn_nlt rfl rfl c9
        refine lv_iconst (v := -1) hx hb dX9_child_31 (by decide) ?_
        exact tc_pret E hr hlk eH eL rfl (show (((0 ≤ x1.toInt ∧ x1.toInt ≤ 23 ∧ tB ((FF G) (G.2.2.1 10) 4) x1.toInt.toNat) ∧ 0 ≤ x2.toInt ∧ x2.toInt < ((FF G) ((G.2.2.1 10) + 1 + (3 + 4 * x1.toNatClampNeg)) 10).toInt) ∧ (-1 : Int32) = (FF G) (((G.2.2.1 10) + 1 + (3 + 4 * x1.toNatClampNeg)) + 2) x2.toNatClampNeg) ∨ (¬ ((0 ≤ x1.toInt ∧ x1.toInt ≤ 23 ∧ tB ((FF G) (G.2.2.1 10) 4) x1.toInt.toNat) ∧ 0 ≤ x2.toInt ∧ x2.toInt < ((FF G) ((G.2.2.1 10) + 1 + (3 + 4 * x1.toNatClampNeg)) 10).toInt) ∧ (-1 : Int32) = -1) by have kk := kI_m1; exact Or.inr ⟨by grind, rfl⟩) dX9_child_32

set_option maxHeartbeats 4000000 in
set_option maxRecDepth 100000 in
theorem x_X9_taken (l : Launch) (G : tG) (τ : Nat → Nat) (h0 : Nat) (x1 : Int32) (x2 : Int32) (t0 : τ h0 = 1) (h8 : h0 = G.2.2.1 8) : Met l yX9_taken (.code yX9_taken cX9_taken 4 (some .int) :: tWS) (tRm 1 21) (va_Pc [.ref h0, .int x1, .int x2] (tPre G τ)) (tQp (fun r => (¬ (0 ≤ x2.toInt ∧ x2.toInt ≤ 9) ∧ r = -2) ∨ ((0 ≤ x2.toInt ∧ x2.toInt ≤ 9) ∧ ¬ (0 ≤ x1.toInt ∧ x1.toInt ≤ 23 ∧ tB ((FF G) (G.2.2.1 10) 4) x1.toInt.toNat) ∧ r = -11) ∨ ((0 ≤ x2.toInt ∧ x2.toInt ≤ 9) ∧ (0 ≤ x1.toInt ∧ x1.toInt ≤ 23 ∧ tB ((FF G) (G.2.2.1 10) 4) x1.toInt.toNat) ∧ (((FF G) ((G.2.2.1 10) + 1 + (3 + 4 * x1.toNatClampNeg)) 4).toInt = x2.toInt ∨ (((FF G) ((G.2.2.1 10) + 1 + (3 + 4 * x1.toNatClampNeg)) 4).toInt = 9 ∧ x2.toInt = 8) ∨ (((FF G) ((G.2.2.1 10) + 1 + (3 + 4 * x1.toNatClampNeg)) 4).toInt = 5 ∧ x2.toInt = 4) ∨ (((FF G) ((G.2.2.1 10) + 1 + (3 + 4 * x1.toNatClampNeg)) 4).toInt = 3 ∧ x2.toInt = 2)) ∧ r = ((FF G) ((G.2.2.1 10) + 1 + (3 + 4 * x1.toNatClampNeg)) 4)) ∨ ((0 ≤ x2.toInt ∧ x2.toInt ≤ 9) ∧ (0 ≤ x1.toInt ∧ x1.toInt ≤ 23 ∧ tB ((FF G) (G.2.2.1 10) 4) x1.toInt.toNat) ∧ ¬ (((FF G) ((G.2.2.1 10) + 1 + (3 + 4 * x1.toNatClampNeg)) 4).toInt = x2.toInt ∨ (((FF G) ((G.2.2.1 10) + 1 + (3 + 4 * x1.toNatClampNeg)) 4).toInt = 9 ∧ x2.toInt = 8) ∨ (((FF G) ((G.2.2.1 10) + 1 + (3 + 4 * x1.toNatClampNeg)) 4).toInt = 5 ∧ x2.toInt = 4) ∨ (((FF G) ((G.2.2.1 10) + 1 + (3 + 4 * x1.toNatClampNeg)) 4).toInt = 3 ∧ x2.toInt = 2)) ∧ r = -12))) 0 0 tNo := by
  refine tc_met (by decide) (Nat.le_of_ble_eq_true rfl) ?_
  intro p e s m below meth c E hSt hr hlk hG ls hl
  have hl : lv_has ls 4 [(0, .ref h0), (1, .int x1), (2, .int x2)] := hl
  have hx := E.1
  have hb := E.2.1
  obtain ⟨H, eH⟩ : ∃ H, H = s.heap := ⟨_, rfl⟩
  obtain ⟨locs, eL⟩ : ∃ x : List Loc, x = [] := ⟨_, rfl⟩
  have hG : tGH G τ s H locs := by rw [eH, eL]; exact hG
  suffices hW : W p l e (tRm 1 21) s m ([.ref h0, .int x1, .int x2] : List Value).toArray below meth c H locs 0 0 (MQ below (tQp (fun r => (¬ (0 ≤ x2.toInt ∧ x2.toInt ≤ 9) ∧ r = -2) ∨ ((0 ≤ x2.toInt ∧ x2.toInt ≤ 9) ∧ ¬ (0 ≤ x1.toInt ∧ x1.toInt ≤ 23 ∧ tB ((FF G) (G.2.2.1 10) 4) x1.toInt.toNat) ∧ r = -11) ∨ ((0 ≤ x2.toInt ∧ x2.toInt ≤ 9) ∧ (0 ≤ x1.toInt ∧ x1.toInt ≤ 23 ∧ tB ((FF G) (G.2.2.1 10) 4) x1.toInt.toNat) ∧ (((FF G) ((G.2.2.1 10) + 1 + (3 + 4 * x1.toNatClampNeg)) 4).toInt = x2.toInt ∨ (((FF G) ((G.2.2.1 10) + 1 + (3 + 4 * x1.toNatClampNeg)) 4).toInt = 9 ∧ x2.toInt = 8) ∨ (((FF G) ((G.2.2.1 10) + 1 + (3 + 4 * x1.toNatClampNeg)) 4).toInt = 5 ∧ x2.toInt = 4) ∨ (((FF G) ((G.2.2.1 10) + 1 + (3 + 4 * x1.toNatClampNeg)) 4).toInt = 3 ∧ x2.toInt = 2)) ∧ r = ((FF G) ((G.2.2.1 10) + 1 + (3 + 4 * x1.toNatClampNeg)) 4)) ∨ ((0 ≤ x2.toInt ∧ x2.toInt ≤ 9) ∧ (0 ≤ x1.toInt ∧ x1.toInt ≤ 23 ∧ tB ((FF G) (G.2.2.1 10) 4) x1.toInt.toNat) ∧ ¬ (((FF G) ((G.2.2.1 10) + 1 + (3 + 4 * x1.toNatClampNeg)) 4).toInt = x2.toInt ∨ (((FF G) ((G.2.2.1 10) + 1 + (3 + 4 * x1.toNatClampNeg)) 4).toInt = 9 ∧ x2.toInt = 8) ∨ (((FF G) ((G.2.2.1 10) + 1 + (3 + 4 * x1.toNatClampNeg)) 4).toInt = 5 ∧ x2.toInt = 4) ∨ (((FF G) ((G.2.2.1 10) + 1 + (3 + 4 * x1.toNatClampNeg)) 4).toInt = 3 ∧ x2.toInt = 2)) ∧ r = -12))) ([.ref h0, .int x1, .int x2] : List Value).toArray s 0 0 tNo) (F0 m 0 ls []) by subst eH; subst eL; exact hW
  refine lv_iload_n hx hb dX9_taken_0 rfl (lv_at hl 2 rfl) ?_
  refine tc_callp (tc_runS (As := [.int x2]) (rest := []) E hSt hG (x_X1_isKind l G τ x2) ks_X1_isKind ml_X9_341 ⟨rfl, rfl, Nat.le_of_ble_eq_true rfl, Nat.le_of_ble_eq_true rfl⟩ rfl hl.1 rfl (Nat.le_of_ble_eq_true rfl) ⟨Nat.zero_le _, Nat.zero_le _⟩ dX9_taken_1) (fun r1 pr1 => ?_)
  have pr1 : (r1.toInt = 1 ∧ (0 ≤ x2.toInt ∧ x2.toInt ≤ 9)) ∨ (r1.toInt = 0 ∧ ¬ (0 ≤ x2.toInt ∧ x2.toInt ≤ 9)) := pr1
  refine lv_if_ne (tgt := 10) hx hb dX9_taken_4 (by decide) (fun c2 => ?_) (fun c2 => ?_)
  · skip
    have ic2 := tn_ne rfl kI_0 c2
    refine lv_aload_n hx hb dX9_taken_10 rfl (lv_at hl 0 rfl) ?_
    refine tc_getrG E hG t0 fr_X9_12 rfl (fun _ => h8) (fun z => by cases z) dX9_taken_11 (fun ha3 => ?_)
    replace ha3 : τ (G.2.2.1 10) = 2 := ha3
    refine lv_iload_n hx hb dX9_taken_14 rfl (lv_at hl 1 rfl) ?_
    refine tc_callp (tc_runV (As := [.int x1]) (rest := []) E hSt hG (x_X8_has l G τ (G.2.2.1 10) x1 ha3) ha3 rv_2 kv_X8_has ml_X9_83 ⟨rfl, rfl, Nat.le_of_ble_eq_true rfl, Nat.le_of_ble_eq_true rfl⟩ rfl hl.1 rfl (Nat.le_of_ble_eq_true rfl) ⟨Nat.zero_le _, Nat.zero_le _⟩ dX9_taken_15) (fun r4 pr4 => ?_)
    have pr4 : (r4.toInt = 1 ∧ (0 ≤ x1.toInt ∧ x1.toInt ≤ 23 ∧ tB ((FF G) (G.2.2.1 10) 4) x1.toInt.toNat)) ∨ (r4.toInt = 0 ∧ ¬ (0 ≤ x1.toInt ∧ x1.toInt ≤ 23 ∧ tB ((FF G) (G.2.2.1 10) 4) x1.toInt.toNat)) := pr4
    refine lv_if_ne (tgt := 24) hx hb dX9_taken_18 (by decide) (fun c5 => ?_) (fun c5 => ?_)
    · skip
      have ic5 := tn_ne rfl kI_0 c5
      refine lv_aload_n hx hb dX9_taken_24 rfl (lv_at hl 0 rfl) ?_
      refine tc_getrG E hG t0 fr_X9_12 rfl (fun _ => h8) (fun z => by cases z) dX9_taken_25 (fun ha6 => ?_)
      replace ha6 : τ (G.2.2.1 10) = 2 := ha6
      refine tc_getrF (d := 1) E hG ha6 fr_X9_86 rfl dX9_taken_28 (fun ha7 => ?_)
      refine lv_iload_n hx hb dX9_taken_31 rfl (lv_at hl 1 rfl) ?_
      refine tc_aald3F (d := 3 + 4 * x1.toNatClampNeg) E hG ha7 ta_10 rfl (t_in (by omega) (by omega)) dX9_taken_32 (fun ha8 => ?_)
      have nx1 : x1.toNatClampNeg = x1.toInt.toNat := rfl
      refine tc_getF E hG ha8 fi_X9_127 rfl dX9_taken_33 (fun z9 lz9 uz9 wz9 => ?_)
      replace wz9 : z9 = (FF G) (((G.2.2.1 10) + 1) + (3 + 4 * x1.toNatClampNeg)) 4 := wz9
      have cz9 : z9.toInt = ((FF G) (((G.2.2.1 10) + 1) + (3 + 4 * x1.toNatClampNeg)) 4).toInt := by rw [wz9]
      refine lv_istore_n (lv' := [(3, .int z9), (0, .ref h0), (1, .int x1), (2, .int x2)]) hx hb dX9_taken_36 rfl hl (by decide) rfl (fun ls hl => ?_)
      refine lv_iload_n hx hb dX9_taken_37 rfl (lv_at hl 0 rfl) ?_
      refine lv_iload_n hx hb dX9_taken_38 rfl (lv_at hl 3 rfl) ?_
      refine tc_callp (tc_runS (As := [.int z9, .int x2]) (rest := []) E hSt hG (x_X1_passesFor l G τ z9 x2) ks_X1_passesFor ml_X9_344 ⟨rfl, rfl, Nat.le_of_ble_eq_true rfl, Nat.le_of_ble_eq_true rfl⟩ rfl hl.1 rfl (Nat.le_of_ble_eq_true rfl) ⟨Nat.zero_le _, Nat.zero_le _⟩ dX9_taken_39) (fun r10 pr10 => ?_)
      have pr10 : (r10.toInt = 1 ∧ (z9.toInt = x2.toInt ∨ (z9.toInt = 9 ∧ x2.toInt = 8) ∨ (z9.toInt = 5 ∧ x2.toInt = 4) ∨ (z9.toInt = 3 ∧ x2.toInt = 2))) ∨ (r10.toInt = 0 ∧ ¬ (z9.toInt = x2.toInt ∨ (z9.toInt = 9 ∧ x2.toInt = 8) ∨ (z9.toInt = 5 ∧ x2.toInt = 4) ∨ (z9.toInt = 3 ∧ x2.toInt = 2))) := pr10
      refine lv_if_eq (tgt := 49) hx hb dX9_taken_42 (by decide) (fun c11 => ?_) (fun c11 => ?_)
      · skip
        have ic11 := tn_eq rfl kI_0 c11
        refine lv_bipush (v := -12) hx hb dX9_taken_49 (by decide) ?_
        exact tc_pret E hr hlk eH eL rfl (show (¬ (0 ≤ x2.toInt ∧ x2.toInt ≤ 9) ∧ (-12 : Int32) = -2) ∨ ((0 ≤ x2.toInt ∧ x2.toInt ≤ 9) ∧ ¬ (0 ≤ x1.toInt ∧ x1.toInt ≤ 23 ∧ tB ((FF G) (G.2.2.1 10) 4) x1.toInt.toNat) ∧ (-12 : Int32) = -11) ∨ ((0 ≤ x2.toInt ∧ x2.toInt ≤ 9) ∧ (0 ≤ x1.toInt ∧ x1.toInt ≤ 23 ∧ tB ((FF G) (G.2.2.1 10) 4) x1.toInt.toNat) ∧ (((FF G) ((G.2.2.1 10) + 1 + (3 + 4 * x1.toNatClampNeg)) 4).toInt = x2.toInt ∨ (((FF G) ((G.2.2.1 10) + 1 + (3 + 4 * x1.toNatClampNeg)) 4).toInt = 9 ∧ x2.toInt = 8) ∨ (((FF G) ((G.2.2.1 10) + 1 + (3 + 4 * x1.toNatClampNeg)) 4).toInt = 5 ∧ x2.toInt = 4) ∨ (((FF G) ((G.2.2.1 10) + 1 + (3 + 4 * x1.toNatClampNeg)) 4).toInt = 3 ∧ x2.toInt = 2)) ∧ (-12 : Int32) = ((FF G) ((G.2.2.1 10) + 1 + (3 + 4 * x1.toNatClampNeg)) 4)) ∨ ((0 ≤ x2.toInt ∧ x2.toInt ≤ 9) ∧ (0 ≤ x1.toInt ∧ x1.toInt ≤ 23 ∧ tB ((FF G) (G.2.2.1 10) 4) x1.toInt.toNat) ∧ ¬ (((FF G) ((G.2.2.1 10) + 1 + (3 + 4 * x1.toNatClampNeg)) 4).toInt = x2.toInt ∨ (((FF G) ((G.2.2.1 10) + 1 + (3 + 4 * x1.toNatClampNeg)) 4).toInt = 9 ∧ x2.toInt = 8) ∨ (((FF G) ((G.2.2.1 10) + 1 + (3 + 4 * x1.toNatClampNeg)) 4).toInt = 5 ∧ x2.toInt = 4) ∨ (((FF G) ((G.2.2.1 10) + 1 + (3 + 4 * x1.toNatClampNeg)) 4).toInt = 3 ∧ x2.toInt = 2)) ∧ (-12 : Int32) = -12) by have kk := kI_m12; exact Or.inr (Or.inr (Or.inr ⟨by grind, by grind, by grind, rfl⟩))) dX9_taken_51
      · skip
        have ic11 := tn_ne rfl kI_0 c11
        refine lv_iload_n hx hb dX9_taken_45 rfl (lv_at hl 0 rfl) ?_
        refine lv_goto (tgt := 51) hx hb dX9_taken_46 (by decide) ?_
        exact tc_pret E hr hlk eH eL rfl (show (¬ (0 ≤ x2.toInt ∧ x2.toInt ≤ 9) ∧ z9 = -2) ∨ ((0 ≤ x2.toInt ∧ x2.toInt ≤ 9) ∧ ¬ (0 ≤ x1.toInt ∧ x1.toInt ≤ 23 ∧ tB ((FF G) (G.2.2.1 10) 4) x1.toInt.toNat) ∧ z9 = -11) ∨ ((0 ≤ x2.toInt ∧ x2.toInt ≤ 9) ∧ (0 ≤ x1.toInt ∧ x1.toInt ≤ 23 ∧ tB ((FF G) (G.2.2.1 10) 4) x1.toInt.toNat) ∧ (((FF G) ((G.2.2.1 10) + 1 + (3 + 4 * x1.toNatClampNeg)) 4).toInt = x2.toInt ∨ (((FF G) ((G.2.2.1 10) + 1 + (3 + 4 * x1.toNatClampNeg)) 4).toInt = 9 ∧ x2.toInt = 8) ∨ (((FF G) ((G.2.2.1 10) + 1 + (3 + 4 * x1.toNatClampNeg)) 4).toInt = 5 ∧ x2.toInt = 4) ∨ (((FF G) ((G.2.2.1 10) + 1 + (3 + 4 * x1.toNatClampNeg)) 4).toInt = 3 ∧ x2.toInt = 2)) ∧ z9 = ((FF G) ((G.2.2.1 10) + 1 + (3 + 4 * x1.toNatClampNeg)) 4)) ∨ ((0 ≤ x2.toInt ∧ x2.toInt ≤ 9) ∧ (0 ≤ x1.toInt ∧ x1.toInt ≤ 23 ∧ tB ((FF G) (G.2.2.1 10) 4) x1.toInt.toNat) ∧ ¬ (((FF G) ((G.2.2.1 10) + 1 + (3 + 4 * x1.toNatClampNeg)) 4).toInt = x2.toInt ∨ (((FF G) ((G.2.2.1 10) + 1 + (3 + 4 * x1.toNatClampNeg)) 4).toInt = 9 ∧ x2.toInt = 8) ∨ (((FF G) ((G.2.2.1 10) + 1 + (3 + 4 * x1.toNatClampNeg)) 4).toInt = 5 ∧ x2.toInt = 4) ∨ (((FF G) ((G.2.2.1 10) + 1 + (3 + 4 * x1.toNatClampNeg)) 4).toInt = 3 ∧ x2.toInt = 2)) ∧ z9 = -12) by exact Or.inr (Or.inr (Or.inl ⟨by grind, by grind, by grind, (by simp only [wz9])⟩))) dX9_taken_51
    · skip
      have ic5 := tn_eq rfl kI_0 c5
      refine lv_bipush (v := -11) hx hb dX9_taken_21 (by decide) ?_
      exact tc_pret E hr hlk eH eL rfl (show (¬ (0 ≤ x2.toInt ∧ x2.toInt ≤ 9) ∧ (-11 : Int32) = -2) ∨ ((0 ≤ x2.toInt ∧ x2.toInt ≤ 9) ∧ ¬ (0 ≤ x1.toInt ∧ x1.toInt ≤ 23 ∧ tB ((FF G) (G.2.2.1 10) 4) x1.toInt.toNat) ∧ (-11 : Int32) = -11) ∨ ((0 ≤ x2.toInt ∧ x2.toInt ≤ 9) ∧ (0 ≤ x1.toInt ∧ x1.toInt ≤ 23 ∧ tB ((FF G) (G.2.2.1 10) 4) x1.toInt.toNat) ∧ (((FF G) ((G.2.2.1 10) + 1 + (3 + 4 * x1.toNatClampNeg)) 4).toInt = x2.toInt ∨ (((FF G) ((G.2.2.1 10) + 1 + (3 + 4 * x1.toNatClampNeg)) 4).toInt = 9 ∧ x2.toInt = 8) ∨ (((FF G) ((G.2.2.1 10) + 1 + (3 + 4 * x1.toNatClampNeg)) 4).toInt = 5 ∧ x2.toInt = 4) ∨ (((FF G) ((G.2.2.1 10) + 1 + (3 + 4 * x1.toNatClampNeg)) 4).toInt = 3 ∧ x2.toInt = 2)) ∧ (-11 : Int32) = ((FF G) ((G.2.2.1 10) + 1 + (3 + 4 * x1.toNatClampNeg)) 4)) ∨ ((0 ≤ x2.toInt ∧ x2.toInt ≤ 9) ∧ (0 ≤ x1.toInt ∧ x1.toInt ≤ 23 ∧ tB ((FF G) (G.2.2.1 10) 4) x1.toInt.toNat) ∧ ¬ (((FF G) ((G.2.2.1 10) + 1 + (3 + 4 * x1.toNatClampNeg)) 4).toInt = x2.toInt ∨ (((FF G) ((G.2.2.1 10) + 1 + (3 + 4 * x1.toNatClampNeg)) 4).toInt = 9 ∧ x2.toInt = 8) ∨ (((FF G) ((G.2.2.1 10) + 1 + (3 + 4 * x1.toNatClampNeg)) 4).toInt = 5 ∧ x2.toInt = 4) ∨ (((FF G) ((G.2.2.1 10) + 1 + (3 + 4 * x1.toNatClampNeg)) 4).toInt = 3 ∧ x2.toInt = 2)) ∧ (-11 : Int32) = -12) by have kk := kI_m11; exact Or.inr (Or.inl ⟨by grind, by grind, rfl⟩)) dX9_taken_23
  · skip
    have ic2 := tn_eq rfl kI_0 c2
    refine lv_bipush (v := -2) hx hb dX9_taken_7 (by decide) ?_
    exact tc_pret E hr hlk eH eL rfl (show (¬ (0 ≤ x2.toInt ∧ x2.toInt ≤ 9) ∧ (-2 : Int32) = -2) ∨ ((0 ≤ x2.toInt ∧ x2.toInt ≤ 9) ∧ ¬ (0 ≤ x1.toInt ∧ x1.toInt ≤ 23 ∧ tB ((FF G) (G.2.2.1 10) 4) x1.toInt.toNat) ∧ (-2 : Int32) = -11) ∨ ((0 ≤ x2.toInt ∧ x2.toInt ≤ 9) ∧ (0 ≤ x1.toInt ∧ x1.toInt ≤ 23 ∧ tB ((FF G) (G.2.2.1 10) 4) x1.toInt.toNat) ∧ (((FF G) ((G.2.2.1 10) + 1 + (3 + 4 * x1.toNatClampNeg)) 4).toInt = x2.toInt ∨ (((FF G) ((G.2.2.1 10) + 1 + (3 + 4 * x1.toNatClampNeg)) 4).toInt = 9 ∧ x2.toInt = 8) ∨ (((FF G) ((G.2.2.1 10) + 1 + (3 + 4 * x1.toNatClampNeg)) 4).toInt = 5 ∧ x2.toInt = 4) ∨ (((FF G) ((G.2.2.1 10) + 1 + (3 + 4 * x1.toNatClampNeg)) 4).toInt = 3 ∧ x2.toInt = 2)) ∧ (-2 : Int32) = ((FF G) ((G.2.2.1 10) + 1 + (3 + 4 * x1.toNatClampNeg)) 4)) ∨ ((0 ≤ x2.toInt ∧ x2.toInt ≤ 9) ∧ (0 ≤ x1.toInt ∧ x1.toInt ≤ 23 ∧ tB ((FF G) (G.2.2.1 10) 4) x1.toInt.toNat) ∧ ¬ (((FF G) ((G.2.2.1 10) + 1 + (3 + 4 * x1.toNatClampNeg)) 4).toInt = x2.toInt ∨ (((FF G) ((G.2.2.1 10) + 1 + (3 + 4 * x1.toNatClampNeg)) 4).toInt = 9 ∧ x2.toInt = 8) ∨ (((FF G) ((G.2.2.1 10) + 1 + (3 + 4 * x1.toNatClampNeg)) 4).toInt = 5 ∧ x2.toInt = 4) ∨ (((FF G) ((G.2.2.1 10) + 1 + (3 + 4 * x1.toNatClampNeg)) 4).toInt = 3 ∧ x2.toInt = 2)) ∧ (-2 : Int32) = -12) by have kk := kI_m2; exact Or.inl ⟨by grind, rfl⟩) dX9_taken_9
