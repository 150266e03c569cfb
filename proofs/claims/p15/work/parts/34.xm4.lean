set_option maxHeartbeats 4000000 in
set_option maxRecDepth 100000 in
theorem x_X3_ask (l : Launch) (G : tG) (F : mF) (τ : Nat → Nat) (h0 : Nat) (h1 : Nat) (x2 : Int32) (t0 : τ h0 = 5) (t1 : τ h1 = 3) (l2 : 0 ≤ x2.toInt) (u2 : x2.toInt ≤ 1) (hU : ∀ q, τ q = 2 → q = (G.2.2.1 10)) (hK : AKF F (G.2.2.1 10)) (hC : CINV F (G.2.2.1 10)) (hb9 : ∃ n : Nat, n ≤ 23 ∧ tB (F (G.2.2.1 10) 4) n ∧ h1 = (G.2.2.1 10) + 1 + (3 + 4 * n)) : Met l yX3_ask (.code yX3_ask cX3_ask 3 (some .int) :: tWS) (tRm 80 1994) (va_Pc [.ref h0, .ref h1, .int x2] (tPre (gF G F) τ)) (tQF G τ (fun r F9 => ASK F F9 (G.2.2.1 10) h1 x2.toInt r.toInt)) 0 0 (tA τ) := by
  refine tc_met (by decide) (Nat.le_of_ble_eq_true rfl) ?_
  intro p e s m below meth c E hSt hr hlk hG ls hl
  have hl : lv_has ls 3 [(0, .ref h0), (1, .ref h1), (2, .int x2)] := hl
  have hx := E.1
  have hb := E.2.1
  obtain ⟨H, eH⟩ : ∃ H, H = s.heap := ⟨_, rfl⟩
  obtain ⟨locs, eL⟩ : ∃ x : List Loc, x = [] := ⟨_, rfl⟩
  have hG : tGH (gF G F) τ s H locs := by rw [eH, eL]; exact hG
  suffices hW : W p l e (tRm 80 1994) s m ([.ref h0, .ref h1, .int x2] : List Value).toArray below meth c H locs 0 0 (MQ below (tQF G τ (fun r F9 => ASK F F9 (G.2.2.1 10) h1 x2.toInt r.toInt)) ([.ref h0, .ref h1, .int x2] : List Value).toArray s 0 0 (tA τ)) (F0 m 0 ls []) by subst eH; subst eL; exact hW
  clear eH eL
  obtain ⟨n9, hn9, hA9, en9⟩ := id hb9
  refine lv_aload_n hx hb dX3_ask_0 rfl (lv_at hl 0 rfl) ?_
  refine lv_aload_n hx hb dX3_ask_1 rfl (lv_at hl 1 rfl) ?_
  refine lv_iload_n hx hb dX3_ask_2 rfl (lv_at hl 2 rfl) ?_
  refine lv_iconst (v := 0) hx hb dX3_ask_3 (by decide) ?_
  refine tc_calliF hG (tc_runV (As := [.ref h1, .int x2, .int 0]) (rest := []) E hSt hG (x_X3_askedOf l (gF G F) τ 25 F h0 h1 x2 (0 : Int32) t0 t1 (by omega) (by omega) (by decide) (by decide) (by first | decide | omega) hU hK hC ⟨n9, hn9, hA9, en9, (by have k0 := kI_0; omega)⟩) t0 rv_5 kv_X3_askedOf ml_X3_191 ⟨rfl, rfl, Nat.le_of_ble_eq_true rfl, Nat.le_of_ble_eq_true rfl⟩ rfl hl.1 rfl (Nat.le_of_ble_eq_true rfl) ⟨Nat.zero_le _, Nat.zero_le _⟩ dX3_ask_4) (fun r1 F2 H locs pr1 hG => ?_)
  have E := E.f1 (F' := F2)
  have hSt := hSt.f1 (F' := F2)
  replace pr1 : ASK F F2 (G.2.2.1 10) h1 x2.toInt r1.toInt := pr1
  have k3 := kI_0
  exact tc_iretF E hr hlk hG rfl pr1 dX3_ask_7

set_option maxHeartbeats 4000000 in
set_option maxRecDepth 100000 in
theorem x_X9_asks (l : Launch) (G : tG) (F : mF) (τ : Nat → Nat) (h0 : Nat) (x1 : Int32) (x2 : Int32) (t0 : τ h0 = 1) (h8 : h0 = G.2.2.1 8) (hU : ∀ q, τ q = 2 → q = (G.2.2.1 10)) (hK : AKF F (G.2.2.1 10)) (hC : CINV F (G.2.2.1 10)) : Met l yX9_asks (.code yX9_asks cX9_asks 3 (some .int) :: tWS) (tRm 81 2016) (va_Pc [.ref h0, .int x1, .int x2] (tPre (gF G F) τ)) (tQF G τ (fun r F9 => (¬ (0 ≤ x1.toInt ∧ x1.toInt ≤ 23 ∧ tB (F (G.2.2.1 10) 4) x1.toInt.toNat ∧ (x2.toInt = 0 ∨ x2.toInt = 1)) ∧ r = -1 ∧ F9 = F) ∨ ((0 ≤ x1.toInt ∧ x1.toInt ≤ 23 ∧ tB (F (G.2.2.1 10) 4) x1.toInt.toNat ∧ (x2.toInt = 0 ∨ x2.toInt = 1)) ∧ MMx F F9 (G.2.2.1 10) ∧ CINV F9 (G.2.2.1 10) ∧ r.toInt = asT (kT F (G.2.2.1 10)) 24 x1.toInt x2.toInt))) 0 0 (tA τ) := by
  refine tc_met (by decide) (Nat.le_of_ble_eq_true rfl) ?_
  intro p e s m below meth c E hSt hr hlk hG ls hl
  have hl : lv_has ls 3 [(0, .ref h0), (1, .int x1), (2, .int x2)] := hl
  have hx := E.1
  have hb := E.2.1
  obtain ⟨H, eH⟩ : ∃ H, H = s.heap := ⟨_, rfl⟩
  obtain ⟨locs, eL⟩ : ∃ x : List Loc, x = [] := ⟨_, rfl⟩
  have hG : tGH (gF G F) τ s H locs := by rw [eH, eL]; exact hG
  suffices hW : W p l e (tRm 81 2016) s m ([.ref h0, .int x1, .int x2] : List Value).toArray below meth c H locs 0 0 (MQ below (tQF G τ (fun r F9 => (¬ (0 ≤ x1.toInt ∧ x1.toInt ≤ 23 ∧ tB (F (G.2.2.1 10) 4) x1.toInt.toNat ∧ (x2.toInt = 0 ∨ x2.toInt = 1)) ∧ r = -1 ∧ F9 = F) ∨ ((0 ≤ x1.toInt ∧ x1.toInt ≤ 23 ∧ tB (F (G.2.2.1 10) 4) x1.toInt.toNat ∧ (x2.toInt = 0 ∨ x2.toInt = 1)) ∧ MMx F F9 (G.2.2.1 10) ∧ CINV F9 (G.2.2.1 10) ∧ r.toInt = asT (kT F (G.2.2.1 10)) 24 x1.toInt x2.toInt))) ([.ref h0, .int x1, .int x2] : List Value).toArray s 0 0 (tA τ)) (F0 m 0 ls []) by subst eH; subst eL; exact hW
  clear eH eL
  refine lv_aload_n hx hb dX9_asks_0 rfl (lv_at hl 0 rfl) ?_
  refine tc_getrG E hG t0 fr_X9_12 rfl (fun _ => h8) (fun z => by cases z) dX9_asks_1 (fun ha1 => ?_)
  replace ha1 : τ (G.2.2.1 10) = 2 := ha1
  refine lv_iload_n hx hb dX9_asks_4 rfl (lv_at hl 1 rfl) ?_
  refine tc_callp (tc_runV (As := [.int x1]) (rest := []) E hSt hG (x_X8_has l (gF G F) τ (G.2.2.1 10) x1 ha1) ha1 rv_2 kv_X8_has ml_X9_83 ⟨rfl, rfl, Nat.le_of_ble_eq_true rfl, Nat.le_of_ble_eq_true rfl⟩ rfl hl.1 rfl (Nat.le_of_ble_eq_true rfl) ⟨Nat.zero_le _, Nat.zero_le _⟩ dX9_asks_5) (fun r2 pr2 => ?_)
  have pr2 : (r2.toInt = 1 ∧ (0 ≤ x1.toInt ∧ x1.toInt ≤ 23 ∧ tB (F (G.2.2.1 10) 4) x1.toInt.toNat)) ∨ (r2.toInt = 0 ∧ ¬ (0 ≤ x1.toInt ∧ x1.toInt ≤ 23 ∧ tB (F (G.2.2.1 10) 4) x1.toInt.toNat)) := pr2
  refine lv_if_eq (tgt := 20) hx hb dX9_asks_8 (by decide) (fun c3 => ?_) (fun c3 => ?_)
  · skip
    have ic3 := tn_eq rfl kI_0 c3
    refine lv_iconst (v := -1) hx hb dX9_asks_20 (by decide) ?_
    exact tc_iretF E hr hlk hG rfl (Or.inl ⟨(by grind), rfl, rfl⟩) dX9_asks_21
  · skip
    have ic3 := tn_ne rfl kI_0 c3
    refine lv_iload_n hx hb dX9_asks_11 rfl (lv_at hl 2 rfl) ?_
    refine lv_if_eq (tgt := 22) hx hb dX9_asks_12 (by decide) (fun c4 => ?_) (fun c4 => ?_)
    · skip
      have ic4 := tn_eq rfl kI_0 c4
      refine lv_aload_n hx hb dX9_asks_22 rfl (lv_at hl 0 rfl) ?_
      refine tc_getr E hG t0 fr_X9_26 dX9_asks_23 (fun oa5 hoa5 => ?_)
      refine lv_aload_n hx hb dX9_asks_26 rfl (lv_at hl 0 rfl) ?_
      refine tc_getrG E hG t0 fr_X9_12 rfl (fun _ => h8) (fun z => by cases z) dX9_asks_27 (fun ha6 => ?_)
      replace ha6 : τ (G.2.2.1 10) = 2 := ha6
      refine tc_getrF (d := 1) E hG ha6 fr_X9_86 rfl dX9_asks_30 (fun ha7 => ?_)
      refine lv_iload_n hx hb dX9_asks_33 rfl (lv_at hl 1 rfl) ?_
      refine tc_aald3F (d := 3 + 4 * x1.toNatClampNeg) E hG ha7 ta_10 rfl (t_in (by omega) (by omega)) dX9_asks_34 (fun ha8 => ?_)
      have nx1 : x1.toNatClampNeg = x1.toInt.toNat := rfl
      refine lv_iload_n hx hb dX9_asks_35 rfl (lv_at hl 2 rfl) ?_
      refine tc_calliF hG (tc_runV (As := [.ref (((G.2.2.1 10) + 1) + (3 + 4 * x1.toNatClampNeg)), .int x2]) (rest := []) E hSt hG (x_X3_ask l G F τ oa5 (((G.2.2.1 10) + 1) + (3 + 4 * x1.toNatClampNeg)) x2 hoa5 ha8 (by omega) (by omega) hU hK hC ⟨_, (by omega), (by rcases pr2 with ⟨_, q9⟩ | ⟨q9, _⟩; exact q9.2.2; (exfalso; omega)), rfl⟩) hoa5 rv_5 kv_X3_ask ml_X9_261 ⟨rfl, rfl, Nat.le_of_ble_eq_true rfl, Nat.le_of_ble_eq_true rfl⟩ rfl hl.1 rfl (Nat.le_of_ble_eq_true rfl) ⟨Nat.zero_le _, Nat.zero_le _⟩ dX9_asks_36) (fun r9 F10 H locs pr9 hG => ?_)
      have E := E.f1 (F' := F10)
      have hSt := hSt.f1 (F' := F10)
      replace pr9 : ASK F F10 (G.2.2.1 10) (((G.2.2.1 10) + 1) + (3 + 4 * x1.toNatClampNeg)) x2.toInt r9.toInt := pr9
      exact tc_iretF E hr hlk hG rfl (Or.inr ⟨(by grind), pr9.1, pr9.2.1, (by have h9 := pr9.2.2.2; rw [bn_eq rfl, show ((x1.toNatClampNeg : Nat) : Int) = x1.toInt from (by show ((x1.toInt.toNat : Nat) : Int) = _; omega)] at h9; exact h9)⟩) dX9_asks_39
    · skip
      have ic4 := tn_ne rfl kI_0 c4
      refine lv_iload_n hx hb dX9_asks_15 rfl (lv_at hl 2 rfl) ?_
      refine lv_iconst (v := 1) hx hb dX9_asks_16 (by decide) ?_
      refine lv_icmp_eq (tgt := 22) hx hb dX9_asks_17 (by decide) (fun c11 => ?_) (fun c11 => ?_)
      · skip
        have ic11 := tn_eq rfl kI_1 c11
        refine lv_aload_n hx hb dX9_asks_22 rfl (lv_at hl 0 rfl) ?_
        refine tc_getr E hG t0 fr_X9_26 dX9_asks_23 (fun oa12 hoa12 => ?_)
        refine lv_aload_n hx hb dX9_asks_26 rfl (lv_at hl 0 rfl) ?_
        refine tc_getrG E hG t0 fr_X9_12 rfl (fun _ => h8) (fun z => by cases z) dX9_asks_27 (fun ha13 => ?_)
        replace ha13 : τ (G.2.2.1 10) = 2 := ha13
        refine tc_getrF (d := 1) E hG ha13 fr_X9_86 rfl dX9_asks_30 (fun ha14 => ?_)
        refine lv_iload_n hx hb dX9_asks_33 rfl (lv_at hl 1 rfl) ?_
        refine tc_aald3F (d := 3 + 4 * x1.toNatClampNeg) E hG ha14 ta_10 rfl (t_in (by omega) (by omega)) dX9_asks_34 (fun ha15 => ?_)
        have nx1 : x1.toNatClampNeg = x1.toInt.toNat := rfl
        refine lv_iload_n hx hb dX9_asks_35 rfl (lv_at hl 2 rfl) ?_
        refine tc_calliF hG (tc_runV (As := [.ref (((G.2.2.1 10) + 1) + (3 + 4 * x1.toNatClampNeg)), .int x2]) (rest := []) E hSt hG (x_X3_ask l G F τ oa12 (((G.2.2.1 10) + 1) + (3 + 4 * x1.toNatClampNeg)) x2 hoa12 ha15 (by omega) (by omega) hU hK hC ⟨_, (by omega), (by rcases pr2 with ⟨_, q9⟩ | ⟨q9, _⟩; exact q9.2.2; (exfalso; omega)), rfl⟩) hoa12 rv_5 kv_X3_ask ml_X9_261 ⟨rfl, rfl, Nat.le_of_ble_eq_true rfl, Nat.le_of_ble_eq_true rfl⟩ rfl hl.1 rfl (Nat.le_of_ble_eq_true rfl) ⟨Nat.zero_le _, Nat.zero_le _⟩ dX9_asks_36) (fun r16 F17 H locs pr16 hG => ?_)
        have E := E.f1 (F' := F17)
        have hSt := hSt.f1 (F' := F17)
        replace pr16 : ASK F F17 (G.2.2.1 10) (((G.2.2.1 10) + 1) + (3 + 4 * x1.toNatClampNeg)) x2.toInt r16.toInt := pr16
        exact tc_iretF E hr hlk hG rfl (Or.inr ⟨(by grind), pr16.1, pr16.2.1, (by have h9 := pr16.2.2.2; rw [bn_eq rfl, show ((x1.toNatClampNeg : Nat) : Int) = x1.toInt from (by show ((x1.toInt.toNat : Nat) : Int) = _; omega)] at h9; exact h9)⟩) dX9_asks_39
      · skip
        have ic11 := tn_ne rfl kI_1 c11
        refine lv_iconst (v := -1) hx hb dX9_asks_20 (by decide) ?_
        exact tc_iretF E hr hlk hG rfl (Or.inl ⟨(by grind), rfl, rfl⟩) dX9_asks_21
