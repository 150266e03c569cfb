set_option maxHeartbeats 4000000 in
set_option maxRecDepth 100000 in
theorem x_X8_takesOneMore (l : Launch) (G : tG) (τ : Nat → Nat) (h0 : Nat) (x1 : Int32) (t0 : τ h0 = 2) : Met l yX8_takesOneMore (.code yX8_takesOneMore cX8_takesOneMore 2 (some .boolean) :: tWS) (tRm 2 40) (va_Pc [.ref h0, .int x1] (tPre G τ)) (tQp (fun r => (r.toInt = 1 ∧ ((¬ (0 ≤ x1.toInt ∧ x1.toInt ≤ 23 ∧ tB ((FF G) h0 4) x1.toInt.toNat) ∧ ¬ (0 ≤ ((FF G) h0 9).toInt ∧ ((FF G) h0 9).toInt ≤ 23 ∧ tB ((FF G) h0 4) ((FF G) h0 9).toInt.toNat)) ∨ ((0 ≤ x1.toInt ∧ x1.toInt ≤ 23 ∧ tB ((FF G) h0 4) x1.toInt.toNat) ∧ ((FF G) (h0 + 1 + (3 + 4 * x1.toNatClampNeg)) 10).toInt < nKid ((FF G) (h0 + 1 + (3 + 4 * x1.toNatClampNeg)) 4).toInt))) ∨ (r.toInt = 0 ∧ ¬ ((¬ (0 ≤ x1.toInt ∧ x1.toInt ≤ 23 ∧ tB ((FF G) h0 4) x1.toInt.toNat) ∧ ¬ (0 ≤ ((FF G) h0 9).toInt ∧ ((FF G) h0 9).toInt ≤ 23 ∧ tB ((FF G) h0 4) ((FF G) h0 9).toInt.toNat)) ∨ ((0 ≤ x1.toInt ∧ x1.toInt ≤ 23 ∧ tB ((FF G) h0 4) x1.toInt.toNat) ∧ ((FF G) (h0 + 1 + (3 + 4 * x1.toNatClampNeg)) 10).toInt < nKid ((FF G) (h0 + 1 + (3 + 4 * x1.toNatClampNeg)) 4).toInt))))) 0 0 tNo := by
  refine tc_met (by decide) (Nat.le_of_ble_eq_true rfl) ?_
  intro p e s m below meth c E hSt hr hlk hG ls hl
  have hl : lv_has ls 2 [(0, .ref h0), (1, .int x1)] := hl
  have hx := E.1
  have hb := E.2.1
  obtain ⟨H, eH⟩ : ∃ H, H = s.heap := ⟨_, rfl⟩
  obtain ⟨locs, eL⟩ : ∃ x : List Loc, x = [] := ⟨_, rfl⟩
  have hG : tGH G τ s H locs := by rw [eH, eL]; exact hG
  suffices hW : W p l e (tRm 2 40) s m ([.ref h0, .int x1] : List Value).toArray below meth c H locs 0 0 (MQ below (tQp (fun r => (r.toInt = 1 ∧ ((¬ (0 ≤ x1.toInt ∧ x1.toInt ≤ 23 ∧ tB ((FF G) h0 4) x1.toInt.toNat) ∧ ¬ (0 ≤ ((FF G) h0 9).toInt ∧ ((FF G) h0 9).toInt ≤ 23 ∧ tB ((FF G) h0 4) ((FF G) h0 9).toInt.toNat)) ∨ ((0 ≤ x1.toInt ∧ x1.toInt ≤ 23 ∧ tB ((FF G) h0 4) x1.toInt.toNat) ∧ ((FF G) (h0 + 1 + (3 + 4 * x1.toNatClampNeg)) 10).toInt < nKid ((FF G) (h0 + 1 + (3 + 4 * x1.toNatClampNeg)) 4).toInt))) ∨ (r.toInt = 0 ∧ ¬ ((¬ (0 ≤ x1.toInt ∧ x1.toInt ≤ 23 ∧ tB ((FF G) h0 4) x1.toInt.toNat) ∧ ¬ (0 ≤ ((FF G) h0 9).toInt ∧ ((FF G) h0 9).toInt ≤ 23 ∧ tB ((FF G) h0 4) ((FF G) h0 9).toInt.toNat)) ∨ ((0 ≤ x1.toInt ∧ x1.toInt ≤ 23 ∧ tB ((FF G) h0 4) x1.toInt.toNat) ∧ ((FF G) (h0 + 1 + (3 + 4 * x1.toNatClampNeg)) 10).toInt < nKid ((FF G) (h0 + 1 + (3 + 4 * x1.toNatClampNeg)) 4).toInt))))) ([.ref h0, .int x1] : List Value).toArray s 0 0 tNo) (F0 m 0 ls []) by subst eH; subst eL; exact hW
  refine lv_aload_n hx hb dX8_takesOneMore_0 rfl (lv_at hl 0 rfl) ?_
  refine lv_iload_n hx hb dX8_takesOneMore_1 rfl (lv_at hl 1 rfl) ?_
  refine tc_callp (tc_runV (As := [.int x1]) (rest := []) E hSt hG (x_X8_has l G τ h0 x1 t0) t0 rv_2 kv_X8_has ml_X8_55 ⟨rfl, rfl, Nat.le_of_ble_eq_true rfl, Nat.le_of_ble_eq_true rfl⟩ rfl hl.1 rfl (Nat.le_of_ble_eq_true rfl) ⟨Nat.zero_le _, Nat.zero_le _⟩ dX8_takesOneMore_2) (fun r1 pr1 => ?_)
  have pr1 : (r1.toInt = 1 ∧ (0 ≤ x1.toInt ∧ x1.toInt ≤ 23 ∧ tB ((FF G) h0 4) x1.toInt.toNat)) ∨ (r1.toInt = 0 ∧ ¬ (0 ≤ x1.toInt ∧ x1.toInt ≤ 23 ∧ tB ((FF G) h0 4) x1.toInt.toNat)) := pr1
  refine lv_if_ne (tgt := 25) hx hb dX8_takesOneMore_5 (by decide) (fun c2 => ?_) (fun c2 => ?_)
  · skip
    have ic2 := tn_ne rfl kI_0 c2
    refine lv_aload_n hx hb dX8_takesOneMore_25 rfl (lv_at hl 0 rfl) ?_
    refine tc_getrF (d := 1) E hG t0 fr_X8_11 rfl dX8_takesOneMore_26 (fun ha3 => ?_)
    refine lv_iload_n hx hb dX8_takesOneMore_29 rfl (lv_at hl 1 rfl) ?_
    refine tc_aald3F (d := 3 + 4 * x1.toNatClampNeg) E hG ha3 ta_10 rfl (t_in (by omega) (by omega)) dX8_takesOneMore_30 (fun ha4 => ?_)
    have nx1 : x1.toNatClampNeg = x1.toInt.toNat := rfl
    refine tc_getF E hG ha4 fi_X8_59 rfl dX8_takesOneMore_31 (fun z5 lz5 uz5 wz5 => ?_)
    replace wz5 : z5 = (FF G) ((h0 + 1) + (3 + 4 * x1.toNatClampNeg)) 10 := wz5
    have cz5 : z5.toInt = ((FF G) ((h0 + 1) + (3 + 4 * x1.toNatClampNeg)) 10).toInt := by rw [wz5]
    refine lv_aload_n hx hb dX8_takesOneMore_34 rfl (lv_at hl 0 rfl) ?_
    refine tc_getrF (d := 1) E hG t0 fr_X8_11 rfl dX8_takesOneMore_35 (fun ha6 => ?_)
    refine lv_iload_n hx hb dX8_takesOneMore_38 rfl (lv_at hl 1 rfl) ?_
    refine tc_aald3F (d := 3 + 4 * x1.toNatClampNeg) E hG ha6 ta_10 rfl (t_in (by omega) (by omega)) dX8_takesOneMore_39 (fun ha7 => ?_)
    have nx1 : x1.toNatClampNeg = x1.toInt.toNat := rfl
    refine tc_getF E hG ha7 fi_X8_62 rfl dX8_takesOneMore_40 (fun z8 lz8 uz8 wz8 => ?_)
    replace wz8 : z8 = (FF G) ((h0 + 1) + (3 + 4 * x1.toNatClampNeg)) 4 := wz8
    have cz8 : z8.toInt = ((FF G) ((h0 + 1) + (3 + 4 * x1.toNatClampNeg)) 4).toInt := by rw [wz8]
    refine tc_callp (tc_runS (As := [.int z8]) (rest := [.int z5]) E hSt hG (x_X1_childrenOf l G τ z8) ks_X1_childrenOf ml_X8_65 ⟨rfl, rfl, Nat.le_of_ble_eq_true rfl, Nat.le_of_ble_eq_true rfl⟩ rfl hl.1 rfl (Nat.le_of_ble_eq_true rfl) ⟨Nat.zero_le _, Nat.zero_le _⟩ dX8_takesOneMore_43) (fun r9 pr9 => ?_)
    have pr9 : r9.toInt = nKid z8.toInt ∧ (0 ≤ r9.toInt ∧ r9.toInt ≤ 8) := pr9
    refine lv_icmp_ge (tgt := 53) hx hb dX8_takesOneMore_46 (by decide) (fun c10 => ?_) (fun c10 => ?_)
    · skip
      have ic10 := tn_le rfl rfl c10
      refine lv_iconst (v := 0) hx hb dX8_takesOneMore_53 (by decide) ?_
      exact tc_pret E hr hlk eH eL (t_nz (by decide) (by decide)).1 (show ((0 : Int32).toInt = 1 ∧ ((¬ (0 ≤ x1.toInt ∧ x1.toInt ≤ 23 ∧ tB ((FF G) h0 4) x1.toInt.toNat) ∧ ¬ (0 ≤ ((FF G) h0 9).toInt ∧ ((FF G) h0 9).toInt ≤ 23 ∧ tB ((FF G) h0 4) ((FF G) h0 9).toInt.toNat)) ∨ ((0 ≤ x1.toInt ∧ x1.toInt ≤ 23 ∧ tB ((FF G) h0 4) x1.toInt.toNat) ∧ ((FF G) (h0 + 1 + (3 + 4 * x1.toNatClampNeg)) 10).toInt < nKid ((FF G) (h0 + 1 + (3 + 4 * x1.toNatClampNeg)) 4).toInt))) ∨ ((0 : Int32).toInt = 0 ∧ ¬ ((¬ (0 ≤ x1.toInt ∧ x1.toInt ≤ 23 ∧ tB ((FF G) h0 4) x1.toInt.toNat) ∧ ¬ (0 ≤ ((FF G) h0 9).toInt ∧ ((FF G) h0 9).toInt ≤ 23 ∧ tB ((FF G) h0 4) ((FF G) h0 9).toInt.toNat)) ∨ ((0 ≤ x1.toInt ∧ x1.toInt ≤ 23 ∧ tB ((FF G) h0 4) x1.toInt.toNat) ∧ ((FF G) (h0 + 1 + (3 + 4 * x1.toNatClampNeg)) 10).toInt < nKid ((FF G) (h0 + 1 + (3 + 4 * x1.toNatClampNeg)) 4).toInt))) by have kk := kI_0; grind) dX8_takesOneMore_54
    · skip
      have ic10 := tn_nle rfl rfl c10
      refine lv_iconst (v := 1) hx hb dX8_takesOneMore_49 (by decide) ?_
      refine lv_goto (tgt := 54) hx hb dX8_takesOneMore_50 (by decide) ?_
      exact tc_pret E hr hlk eH eL (t_nz (by decide) (by decide)).1 (show ((1 : Int32).toInt = 1 ∧ ((¬ (0 ≤ x1.toInt ∧ x1.toInt ≤ 23 ∧ tB ((FF G) h0 4) x1.toInt.toNat) ∧ ¬ (0 ≤ ((FF G) h0 9).toInt ∧ ((FF G) h0 9).toInt ≤ 23 ∧ tB ((FF G) h0 4) ((FF G) h0 9).toInt.toNat)) ∨ ((0 ≤ x1.toInt ∧ x1.toInt ≤ 23 ∧ tB ((FF G) h0 4) x1.toInt.toNat) ∧ ((FF G) (h0 + 1 + (3 + 4 * x1.toNatClampNeg)) 10).toInt < nKid ((FF G) (h0 + 1 + (3 + 4 * x1.toNatClampNeg)) 4).toInt))) ∨ ((1 : Int32).toInt = 0 ∧ ¬ ((¬ (0 ≤ x1.toInt ∧ x1.toInt ≤ 23 ∧ tB ((FF G) h0 4) x1.toInt.toNat) ∧ ¬ (0 ≤ ((FF G) h0 9).toInt ∧ ((FF G) h0 9).toInt ≤ 23 ∧ tB ((FF G) h0 4) ((FF G) h0 9).toInt.toNat)) ∨ ((0 ≤ x1.toInt ∧ x1.toInt ≤ 23 ∧ tB ((FF G) h0 4) x1.toInt.toNat) ∧ ((FF G) (h0 + 1 + (3 + 4 * x1.toNatClampNeg)) 10).toInt < nKid ((FF G) (h0 + 1 + (3 + 4 * x1.toNatClampNeg)) 4).toInt))) by have kk := kI_1; grind) dX8_takesOneMore_54
  · skip
    have ic2 := tn_eq rfl kI_0 c2
    refine lv_aload_n hx hb dX8_takesOneMore_8 rfl (lv_at hl 0 rfl) ?_
    refine lv_aload_n hx hb dX8_takesOneMore_9 rfl (lv_at hl 0 rfl) ?_
    refine tc_getF E hG t0 fi_X8_24 rfl dX8_takesOneMore_10 (fun z11 lz11 uz11 wz11 => ?_)
    replace wz11 : z11 = (FF G) h0 9 := wz11
    have cz11 : z11.toInt = ((FF G) h0 9).toInt := by rw [wz11]
    refine tc_callp (tc_runV (As := [.int z11]) (rest := []) E hSt hG (x_X8_has l G τ h0 z11 t0) t0 rv_2 kv_X8_has ml_X8_55 ⟨rfl, rfl, Nat.le_of_ble_eq_true rfl, Nat.le_of_ble_eq_true rfl⟩ rfl hl.1 rfl (Nat.le_of_ble_eq_true rfl) ⟨Nat.zero_le _, Nat.zero_le _⟩ dX8_takesOneMore_13) (fun r12 pr12 => ?_)
    have pr12 : (r12.toInt = 1 ∧ (0 ≤ z11.toInt ∧ z11.toInt ≤ 23 ∧ tB ((FF G) h0 4) z11.toInt.toNat)) ∨ (r12.toInt = 0 ∧ ¬ (0 ≤ z11.toInt ∧ z11.toInt ≤ 23 ∧ tB ((FF G) h0 4) z11.toInt.toNat)) := pr12
    refine lv_if_ne (tgt := 23) hx hb dX8_takesOneMore_16 (by decide) (fun c13 => ?_) (fun c13 => ?_)
    · skip
      have ic13 := tn_ne rfl kI_0 c13
      refine lv_iconst (v := 0) hx hb dX8_takesOneMore_23 (by decide) ?_
      exact tc_pret E hr hlk eH eL (t_nz (by decide) (by decide)).1 (show ((0 : Int32).toInt = 1 ∧ ((¬ (0 ≤ x1.toInt ∧ x1.toInt ≤ 23 ∧ tB ((FF G) h0 4) x1.toInt.toNat) ∧ ¬ (0 ≤ ((FF G) h0 9).toInt ∧ ((FF G) h0 9).toInt ≤ 23 ∧ tB ((FF G) h0 4) ((FF G) h0 9).toInt.toNat)) ∨ ((0 ≤ x1.toInt ∧ x1.toInt ≤ 23 ∧ tB ((FF G) h0 4) x1.toInt.toNat) ∧ ((FF G) (h0 + 1 + (3 + 4 * x1.toNatClampNeg)) 10).toInt < nKid ((FF G) (h0 + 1 + (3 + 4 * x1.toNatClampNeg)) 4).toInt))) ∨ ((0 : Int32).toInt = 0 ∧ ¬ ((¬ (0 ≤ x1.toInt ∧ x1.toInt ≤ 23 ∧ tB ((FF G) h0 4) x1.toInt.toNat) ∧ ¬ (0 ≤ ((FF G) h0 9).toInt ∧ ((FF G) h0 9).toInt ≤ 23 ∧ tB ((FF G) h0 4) ((FF G) h0 9).toInt.toNat)) ∨ ((0 ≤ x1.toInt ∧ x1.toInt ≤ 23 ∧ tB ((FF G) h0 4) x1.toInt.toNat) ∧ ((FF G) (h0 + 1 + (3 + 4 * x1.toNatClampNeg)) 10).toInt < nKid ((FF G) (h0 + 1 + (3 + 4 * x1.toNatClampNeg)) 4).toInt))) by have kk := kI_0; grind) dX8_takesOneMore_24
    · skip
      have ic13 := tn_eq rfl kI_0 c13
      refine lv_iconst (v := 1) hx hb dX8_takesOneMore_19 (by decide) ?_
      refine lv_goto (tgt := 24) hx hb dX8_takesOneMore_20 (by decide) ?_
      exact tc_pret E hr hlk eH eL (t_nz (by decide) (by decide)).1 (show ((1 : Int32).toInt = 1 ∧ ((¬ (0 ≤ x1.toInt ∧ x1.toInt ≤ 23 ∧ tB ((FF G) h0 4) x1.toInt.toNat) ∧ ¬ (0 ≤ ((FF G) h0 9).toInt ∧ ((FF G) h0 9).toInt ≤ 23 ∧ tB ((FF G) h0 4) ((FF G) h0 9).toInt.toNat)) ∨ ((0 ≤ x1.toInt ∧ x1.toInt ≤ 23 ∧ tB ((FF G) h0 4) x1.toInt.toNat) ∧ ((FF G) (h0 + 1 + (3 + 4 * x1.toNatClampNeg)) 10).toInt < nKid ((FF G) (h0 + 1 + (3 + 4 * x1.toNatClampNeg)) 4).toInt))) ∨ ((1 : Int32).toInt = 0 ∧ ¬ ((¬ (0 ≤ x1.toInt ∧ x1.toInt ≤ 23 ∧ tB ((FF G) h0 4) x1.toInt.toNat) ∧ ¬ (0 ≤ ((FF G) h0 9).toInt ∧ ((FF G) h0 9).toInt ≤ 23 ∧ tB ((FF G) h0 4) ((FF G) h0 9).toInt.toNat)) ∨ ((0 ≤ x1.toInt ∧ x1.toInt ≤ 23 ∧ tB ((FF G) h0 4) x1.toInt.toNat) ∧ ((FF G) (h0 + 1 + (3 + 4 * x1.toNatClampNeg)) 10).toInt < nKid ((FF G) (h0 + 1 + (3 + 4 * x1.toNatClampNeg)) 4).toInt))) by have kk := kI_1; grind) dX8_takesOneMore_24

set_option maxHeartbeats 4000000 in
set_option maxRecDepth 100000 in
theorem x_X9_mayHoldChildren (l : Launch) (G : tG) (τ : Nat → Nat) (h0 : Nat) (x1 : Int32) (t0 : τ h0 = 1) (h8 : h0 = G.2.2.1 8) : Met l yX9_mayHoldChildren (.code yX9_mayHoldChildren cX9_mayHoldChildren 2 (some .boolean) :: tWS) (tRm 1 21) (va_Pc [.ref h0, .int x1] (tPre G τ)) (tQp (fun r => (r.toInt = 1 ∧ (x1.toInt = -1 ∨ (0 ≤ x1.toInt ∧ x1.toInt ≤ 23 ∧ tB ((FF G) (G.2.2.1 10) 4) x1.toInt.toNat))) ∨ (r.toInt = 0 ∧ ¬ (x1.toInt = -1 ∨ (0 ≤ x1.toInt ∧ x1.toInt ≤ 23 ∧ tB ((FF G) (G.2.2.1 10) 4) x1.toInt.toNat))))) 0 0 tNo := by
  refine tc_met (by decide) (Nat.le_of_ble_eq_true rfl) ?_
  intro p e s m below meth c E hSt hr hlk hG ls hl
  have hl : lv_has ls 2 [(0, .ref h0), (1, .int x1)] := hl
  have hx := E.1
  have hb := E.2.1
  obtain ⟨H, eH⟩ : ∃ H, H = s.heap := ⟨_, rfl⟩
  obtain ⟨locs, eL⟩ : ∃ x : List Loc, x = [] := ⟨_, rfl⟩
  have hG : tGH G τ s H locs := by rw [eH, eL]; exact hG
  suffices hW : W p l e (tRm 1 21) s m ([.ref h0, .int x1] : List Value).toArray below meth c H locs 0 0 (MQ below (tQp (fun r => (r.toInt = 1 ∧ (x1.toInt = -1 ∨ (0 ≤ x1.toInt ∧ x1.toInt ≤ 23 ∧ tB ((FF G) (G.2.2.1 10) 4) x1.toInt.toNat))) ∨ (r.toInt = 0 ∧ ¬ (x1.toInt = -1 ∨ (0 ≤ x1.toInt ∧ x1.toInt ≤ 23 ∧ tB ((FF G) (G.2.2.1 10) 4) x1.toInt.toNat))))) ([.ref h0, .int x1] : List Value).toArray s 0 0 tNo) (F0 m 0 ls []) by subst eH; subst eL; exact hW
  refine lv_iload_n hx hb dX9_mayHoldChildren_0 rfl (lv_at hl 1 rfl) ?_
  refine lv_iconst (v := -1) hx hb dX9_mayHoldChildren_1 (by decide) ?_
  refine lv_icmp_eq (tgt := 16) hx hb dX9_mayHoldChildren_2 (by decide) (fun c1 => ?_) (fun c1 => ?_)
  · skip
    have ic1 := tn_eq rfl kI_m1 c1
    refine lv_iconst (v := 1) hx hb dX9_mayHoldChildren_16 (by decide) ?_
    refine lv_goto (tgt := 21) hx hb dX9_mayHoldChildren_17 (by decide) ?_
    exact tc_pret E hr hlk eH eL (t_nz (by decide) (by decide)).1 (show ((1 : Int32).toInt = 1 ∧ (x1.toInt = -1 ∨ (0 ≤ x1.toInt ∧ x1.toInt ≤ 23 ∧ tB ((FF G) (G.2.2.1 10) 4) x1.toInt.toNat))) ∨ ((1 : Int32).toInt = 0 ∧ ¬ (x1.toInt = -1 ∨ (0 ≤ x1.toInt ∧ x1.toInt ≤ 23 ∧ tB ((FF G) (G.2.2.1 10) 4) x1.toInt.toNat))) by have kk := kI_1; grind) dX9_mayHoldChildren_21
  · skip
    have ic1 := tn_ne rfl kI_m1 c1
    refine lv_aload_n hx hb dX9_mayHoldChildren_5 rfl (lv_at hl 0 rfl) ?_
    refine tc_getrG E hG t0 fr_X9_12 rfl (fun _ => h8) (fun z => by cases z) dX9_mayHoldChildren_6 (fun ha2 => ?_)
    replace ha2 : τ (G.2.2.1 10) = 2 := ha2
    refine lv_iload_n hx hb dX9_mayHoldChildren_9 rfl (lv_at hl 1 rfl) ?_
    refine tc_callp (tc_runV (As := [.int x1]) (rest := []) E hSt hG (x_X8_has l G τ (G.2.2.1 10) x1 ha2) ha2 rv_2 kv_X8_has ml_X9_83 ⟨rfl, rfl, Nat.le_of_ble_eq_true rfl, Nat.le_of_ble_eq_true rfl⟩ rfl hl.1 rfl (Nat.le_of_ble_eq_true rfl) ⟨Nat.zero_le _, Nat.zero_le _⟩ dX9_mayHoldChildren_10) (fun r3 pr3 => ?_)
    have pr3 : (r3.toInt = 1 ∧ (0 ≤ x1.toInt ∧ x1.toInt ≤ 23 ∧ tB ((FF G) (G.2.2.1 10) 4) x1.toInt.toNat)) ∨ (r3.toInt = 0 ∧ ¬ (0 ≤ x1.toInt ∧ x1.toInt ≤ 23 ∧ tB ((FF G) (G.2.2.1 10) 4) x1.toInt.toNat)) := pr3
    refine lv_if_eq (tgt := 20) hx hb dX9_mayHoldChildren_13 (by decide) (fun c4 => ?_) (fun c4 => ?_)
    · skip
      have ic4 := tn_eq rfl kI_0 c4
      refine lv_iconst (v := 0) hx hb dX9_mayHoldChildren_20 (by decide) ?_
      exact tc_pret E hr hlk eH eL (t_nz (by decide) (by decide)).1 (show ((0 : Int32).toInt = 1 ∧ (x1.toInt = -1 ∨ (0 ≤ x1.toInt ∧ x1.toInt ≤ 23 ∧ tB ((FF G) (G.2.2.1 10) 4) x1.toInt.toNat))) ∨ ((0 : Int32).toInt = 0 ∧ ¬ (x1.toInt = -1 ∨ (0 ≤ x1.toInt ∧ x1.toInt ≤ 23 ∧ tB ((FF G) (G.2.2.1 10) 4) x1.toInt.toNat))) by have kk := kI_0; grind) dX9_mayHoldChildren_21
    · skip
      have ic4 := tn_ne rfl kI_0 c4
      refine lv_iconst (v := 1) hx hb dX9_mayHoldChildren_16 (by decide) ?_
      refine lv_goto (tgt := 21) hx hb dX9_mayHoldChildren_17 (by decide) ?_
      exact tc_pret E hr hlk eH eL (t_nz (by decide) (by decide)).1 (show ((1 : Int32).toInt = 1 ∧ (x1.toInt = -1 ∨ (0 ≤ x1.toInt ∧ x1.toInt ≤ 23 ∧ tB ((FF G) (G.2.2.1 10) 4) x1.toInt.toNat))) ∨ ((1 : Int32).toInt = 0 ∧ ¬ (x1.toInt = -1 ∨ (0 ≤ x1.toInt ∧ x1.toInt ≤ 23 ∧ tB ((FF G) (G.2.2.1 10) 4) x1.toInt.toNat))) by have kk := kI_1; grind) dX9_mayHoldChildren_21
