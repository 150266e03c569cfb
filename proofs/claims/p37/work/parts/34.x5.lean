set_option maxHeartbeats 4000000 in
set_option maxRecDepth 100000 in
theorem x_X8_addPlanRow (l : Launch) (G : tG) (F : mF) (τ : Nat → Nat) (h0 : Nat) (x1 : Int32) (x2 : Int32) (t0 : τ h0 = 2) (l1 : 0 ≤ x1.toInt) (u1 : x1.toInt ≤ 23) : Met l yX8_addPlanRow (.code yX8_addPlanRow cX8_addPlanRow 3 (some .int) :: tWS) (tRm 0 0) (va_Pc [.ref h0, .int x1, .int x2] (tPre (gF G F) τ)) (tQF G τ (fun r F9 => ((F h0 3).toInt ≥ 8 ∧ r = F h0 3 ∧ F9 = F) ∨ ((F h0 3).toInt ≤ 7 ∧ r = F h0 3 + 1 ∧ F9 = up2 F h0 3 (F h0 3 + 1)))) 0 0 (tA τ) := by
  refine tc_met (by decide) (Nat.le_of_ble_eq_true rfl) ?_
  intro p e s m below meth c E hSt hr hlk hG ls hl
  have hl : lv_has ls 3 [(0, .ref h0), (1, .int x1), (2, .int x2)] := hl
  have hx := E.1
  have hb := E.2.1
  obtain ⟨H, eH⟩ : ∃ H, H = s.heap := ⟨_, rfl⟩
  obtain ⟨locs, eL⟩ : ∃ x : List Loc, x = [] := ⟨_, rfl⟩
  have hG : tGH (gF G F) τ s H locs := by rw [eH, eL]; exact hG
  suffices hW : W p l e (tRm 0 0) s m ([.ref h0, .int x1, .int x2] : List Value).toArray below meth c H locs 0 0 (MQ below (tQF G τ (fun r F9 => ((F h0 3).toInt ≥ 8 ∧ r = F h0 3 ∧ F9 = F) ∨ ((F h0 3).toInt ≤ 7 ∧ r = F h0 3 + 1 ∧ F9 = up2 F h0 3 (F h0 3 + 1)))) ([.ref h0, .int x1, .int x2] : List Value).toArray s 0 0 (tA τ)) (F0 m 0 ls []) by subst eH; subst eL; exact hW
  clear eH eL
  refine lv_aload_n hx hb dX8_addPlanRow_0 rfl (lv_at hl 0 rfl) ?_
  refine tc_getF E hG t0 fi_X8_145 rfl dX8_addPlanRow_1 (fun z1 lz1 uz1 wz1 => ?_)
  replace wz1 : z1 = F h0 3 := wz1
  have cz1 : z1.toInt = (F h0 3).toInt := by rw [wz1]
  refine lv_bipush (v := 8) hx hb dX8_addPlanRow_4 (by decide) ?_
  refine lv_icmp_ge (tgt := 39) hx hb dX8_addPlanRow_6 (by decide) (fun c2 => ?_) (fun c2 => ?_)
  · skip
    have ic2 := tn_le kI_8 rfl c2
    refine lv_aload_n hx hb dX8_addPlanRow_39 rfl (lv_at hl 0 rfl) ?_
    refine tc_getF E hG t0 fi_X8_145 rfl dX8_addPlanRow_40 (fun z3 lz3 uz3 wz3 => ?_)
    replace wz3 : z3 = F h0 3 := wz3
    have cz3 : z3.toInt = (F h0 3).toInt := by rw [wz3]
    exact tc_iretF E hr hlk hG rfl (Or.inl ⟨by omega, (by simp only [wz3, wz1]), rfl⟩) dX8_addPlanRow_43
  · skip
    have ic2 := tn_nle kI_8 rfl c2
    refine lv_aload_n hx hb dX8_addPlanRow_9 rfl (lv_at hl 0 rfl) ?_
    refine tc_getr E hG t0 fr_X8_17 dX8_addPlanRow_10 (fun oa4 hoa4 => ?_)
    refine lv_aload_n hx hb dX8_addPlanRow_13 rfl (lv_at hl 0 rfl) ?_
    refine tc_getF E hG t0 fi_X8_145 rfl dX8_addPlanRow_14 (fun z5 lz5 uz5 wz5 => ?_)
    replace wz5 : z5 = F h0 3 := wz5
    have cz5 : z5.toInt = (F h0 3).toInt := by rw [wz5]
    refine lv_iload_n hx hb dX8_addPlanRow_17 rfl (lv_at hl 1 rfl) ?_
    refine tc_iast E hG hoa4 ta_36 (t_in (by omega) (by omega)) (by omega) (by omega) dX8_addPlanRow_18 (fun H locs hG  => ?_)
    refine lv_aload_n hx hb dX8_addPlanRow_19 rfl (lv_at hl 0 rfl) ?_
    refine tc_getr E hG t0 fr_X8_21 dX8_addPlanRow_20 (fun oa6 hoa6 => ?_)
    refine lv_aload_n hx hb dX8_addPlanRow_23 rfl (lv_at hl 0 rfl) ?_
    refine tc_getF E hG t0 fi_X8_145 rfl dX8_addPlanRow_24 (fun z7 lz7 uz7 wz7 => ?_)
    replace wz7 : z7 = F h0 3 := wz7
    have cz7 : z7.toInt = (F h0 3).toInt := by rw [wz7]
    refine lv_iload_n hx hb dX8_addPlanRow_27 rfl (lv_at hl 2 rfl) ?_
    refine tc_iast E hG hoa6 ta_13 (t_in (by omega) (by omega)) (t_any1 _) (t_any2 _) dX8_addPlanRow_28 (fun H locs hG  => ?_)
    refine lv_aload_n hx hb dX8_addPlanRow_29 rfl (lv_at hl 0 rfl) ?_
    refine lv_dup hx hb dX8_addPlanRow_30 rfl ?_
    refine tc_getF E hG t0 fi_X8_145 rfl dX8_addPlanRow_31 (fun z8 lz8 uz8 wz8 => ?_)
    replace wz8 : z8 = F h0 3 := wz8
    have cz8 : z8.toInt = (F h0 3).toInt := by rw [wz8]
    refine lv_iconst (v := 1) hx hb dX8_addPlanRow_34 (by decide) ?_
    refine lv_iadd hx hb dX8_addPlanRow_35 ?_
    refine lv_topi (fun z9 ez9 => ?_)
    have tz9 := tn_add ez9 rfl kI_1 (by omega) (by omega)
    refine tc_putF (lo := 0) (hi := 8) E hG t0 (by decide) rfl rfl fq_X8_145 (by omega) (by omega) rfl rfl dX8_addPlanRow_36 (fun H locs hG => ?_)
    obtain ⟨F10, eF10⟩ : ∃ Z : mF, Z = up2 F h0 3 z9 := ⟨_, rfl⟩
    replace hG : tGH (gF G F10) τ s H locs := by rw [eF10]; exact hG
    have E := E.f1 (F' := F10)
    have hSt := hSt.f1 (F' := F10)
    refine lv_aload_n hx hb dX8_addPlanRow_39 rfl (lv_at hl 0 rfl) ?_
    refine tc_getF E hG t0 fi_X8_145 rfl dX8_addPlanRow_40 (fun z11 lz11 uz11 wz11 => ?_)
    replace wz11 : z11 = F10 h0 3 := wz11
    replace wz11 : z11 = z9 := by rw [wz11, eF10, up2_at]
    have cz11 : z11.toInt = (z9).toInt := by rw [wz11]
    exact tc_iretF E hr hlk hG rfl (Or.inr ⟨by omega, (by simp only [wz11, ez9, wz8, wz7, wz5, wz1]), (by rw [eF10]; simp only [wz11, ez9, wz8, wz7, wz5, wz1])⟩) dX8_addPlanRow_43

theorem rmF_ne {F : mF} {b c k : Nat} {pl : Int32} (h : ¬ (c = b ∨ c = b + 2)) : rmF F b pl c k = F c k := by
  unfold rmF
  rw [up2_ne (by omega), upR_ne (by omega)]
theorem rmF_10 {F : mF} {b : Nat} {pl : Int32} : rmF F b pl b 10 = F b 10 - 1 := by
  unfold rmF
  rw [up2_at]

set_option maxHeartbeats 4000000 in
set_option maxRecDepth 100000 in
theorem x_X8_move (l : Launch) (G : tG) (F : mF) (τ : Nat → Nat) (h0 : Nat) (x1 : Int32) (x2 : Int32) (t0 : τ h0 = 2) (l1 : 0 ≤ x1.toInt) (u1 : x1.toInt ≤ 23) (hp0 : 0 ≤ (F (h0 + 1 + (3 + 4 * x1.toNatClampNeg)) 5).toInt) (hp1 : (F (h0 + 1 + (3 + 4 * x1.toNatClampNeg)) 5).toInt ≤ 23) (hin : ∃ j : Nat, (j : Int) < (F (h0 + 1 + (3 + 4 * (F (h0 + 1 + (3 + 4 * x1.toNatClampNeg)) 5).toNatClampNeg)) 10).toInt ∧ (F ((h0 + 1 + (3 + 4 * (F (h0 + 1 + (3 + 4 * x1.toNatClampNeg)) 5).toNatClampNeg)) + 2) j).toInt = x1.toInt) (hpl0 : 0 ≤ x2.toInt) (hpl1 : x2.toInt < (F (h0 + 1 + (3 + 4 * (F (h0 + 1 + (3 + 4 * x1.toNatClampNeg)) 5).toNatClampNeg)) 10).toInt) (hk8 : (F (h0 + 1 + (3 + 4 * (F (h0 + 1 + (3 + 4 * x1.toNatClampNeg)) 5).toNatClampNeg)) 10).toInt ≤ 8) : Met l yX8_move (.code yX8_move cX8_move 5 (some .int) :: tWS) (tRm 2 62) (va_Pc [.ref h0, .int x1, .int x2] (tPre (gF G F) τ)) (tQF G τ (fun r F9 => (0 ≤ r.toInt ∧ r.toInt < (F (h0 + 1 + (3 + 4 * (F (h0 + 1 + (3 + 4 * x1.toNatClampNeg)) 5).toNatClampNeg)) 10).toInt ∧ (F ((h0 + 1 + (3 + 4 * (F (h0 + 1 + (3 + 4 * x1.toNatClampNeg)) 5).toNatClampNeg)) + 2) r.toInt.toNat).toInt = x1.toInt ∧ ∀ j : Nat, (j : Int) < r.toInt → ¬ (F ((h0 + 1 + (3 + 4 * (F (h0 + 1 + (3 + 4 * x1.toNatClampNeg)) 5).toNatClampNeg)) + 2) j).toInt = x1.toInt) ∧ ((r.toInt = x2.toInt ∧ F9 = F) ∨ (¬ r.toInt = x2.toInt ∧ F9 = adF (rmF F (h0 + 1 + (3 + 4 * (F (h0 + 1 + (3 + 4 * x1.toNatClampNeg)) 5).toNatClampNeg)) r) (h0 + 1 + (3 + 4 * (F (h0 + 1 + (3 + 4 * x1.toNatClampNeg)) 5).toNatClampNeg)) x1 x2)))) 0 0 (tA τ) := by
  refine tc_met (by decide) (Nat.le_of_ble_eq_true rfl) ?_
  intro p e s m below meth c E hSt hr hlk hG ls hl
  have hl : lv_has ls 5 [(0, .ref h0), (1, .int x1), (2, .int x2)] := hl
  have hx := E.1
  have hb := E.2.1
  obtain ⟨H, eH⟩ : ∃ H, H = s.heap := ⟨_, rfl⟩
  obtain ⟨locs, eL⟩ : ∃ x : List Loc, x = [] := ⟨_, rfl⟩
  have hG : tGH (gF G F) τ s H locs := by rw [eH, eL]; exact hG
  suffices hW : W p l e (tRm 2 62) s m ([.ref h0, .int x1, .int x2] : List Value).toArray below meth c H locs 0 0 (MQ below (tQF G τ (fun r F9 => (0 ≤ r.toInt ∧ r.toInt < (F (h0 + 1 + (3 + 4 * (F (h0 + 1 + (3 + 4 * x1.toNatClampNeg)) 5).toNatClampNeg)) 10).toInt ∧ (F ((h0 + 1 + (3 + 4 * (F (h0 + 1 + (3 + 4 * x1.toNatClampNeg)) 5).toNatClampNeg)) + 2) r.toInt.toNat).toInt = x1.toInt ∧ ∀ j : Nat, (j : Int) < r.toInt → ¬ (F ((h0 + 1 + (3 + 4 * (F (h0 + 1 + (3 + 4 * x1.toNatClampNeg)) 5).toNatClampNeg)) + 2) j).toInt = x1.toInt) ∧ ((r.toInt = x2.toInt ∧ F9 = F) ∨ (¬ r.toInt = x2.toInt ∧ F9 = adF (rmF F (h0 + 1 + (3 + 4 * (F (h0 + 1 + (3 + 4 * x1.toNatClampNeg)) 5).toNatClampNeg)) r) (h0 + 1 + (3 + 4 * (F (h0 + 1 + (3 + 4 * x1.toNatClampNeg)) 5).toNatClampNeg)) x1 x2)))) ([.ref h0, .int x1, .int x2] : List Value).toArray s 0 0 (tA τ)) (F0 m 0 ls []) by subst eH; subst eL; exact hW
  clear eH eL
  refine lv_aload_n hx hb dX8_move_0 rfl (lv_at hl 0 rfl) ?_
  refine tc_getrF (d := 1) E hG t0 fr_X8_11 rfl dX8_move_1 (fun ha1 => ?_)
  refine lv_aload_n hx hb dX8_move_4 rfl (lv_at hl 0 rfl) ?_
  refine tc_getrF (d := 1) E hG t0 fr_X8_11 rfl dX8_move_5 (fun ha2 => ?_)
  refine lv_iload_n hx hb dX8_move_8 rfl (lv_at hl 1 rfl) ?_
  refine tc_aald3F (d := 3 + 4 * x1.toNatClampNeg) E hG ha2 ta_10 rfl (t_in (by omega) (by omega)) dX8_move_9 (fun ha3 => ?_)
  have nx1 : x1.toNatClampNeg = x1.toInt.toNat := rfl
  refine tc_getF E hG ha3 fi_X8_102 rfl dX8_move_10 (fun z4 lz4 uz4 wz4 => ?_)
  replace wz4 : z4 = F ((h0 + 1) + (3 + 4 * x1.toNatClampNeg)) 5 := wz4
  have cz4 : z4.toInt = (F ((h0 + 1) + (3 + 4 * x1.toNatClampNeg)) 5).toInt := by rw [wz4]
  subst wz4
  refine tc_aald3F (d := 3 + 4 * (F (h0 + 1 + (3 + 4 * x1.toNatClampNeg)) 5).toNatClampNeg) E hG ha1 ta_10 rfl (t_in (by omega) (by omega)) dX8_move_13 (fun ha5 => ?_)
  have nn6 : (F (h0 + 1 + (3 + 4 * x1.toNatClampNeg)) 5).toNatClampNeg = (F (h0 + 1 + (3 + 4 * x1.toNatClampNeg)) 5).toInt.toNat := rfl
  refine lv_astore_n (lv' := [(3, .ref ((h0 + 1) + (3 + 4 * (F (h0 + 1 + (3 + 4 * x1.toNatClampNeg)) 5).toNatClampNeg))), (0, .ref h0), (1, .int x1), (2, .int x2)]) hx hb dX8_move_14 rfl hl (by decide) rfl (fun ls hl => ?_)
  refine lv_aload_n hx hb dX8_move_15 rfl (lv_at hl 0 rfl) ?_
  refine lv_iload_n hx hb dX8_move_16 rfl (lv_at hl 2 rfl) ?_
  refine tc_callp (tc_runV (As := [.int x1]) (rest := []) E hSt hG (x_X0_placeOfKid l (gF G F) τ ((h0 + 1) + (3 + 4 * (F (h0 + 1 + (3 + 4 * x1.toNatClampNeg)) 5).toNatClampNeg)) x1 ha5) ha5 rv_3 kv_X0_placeOfKid ml_X8_113 ⟨rfl, rfl, Nat.le_of_ble_eq_true rfl, Nat.le_of_ble_eq_true rfl⟩ rfl hl.1 rfl (Nat.le_of_ble_eq_true rfl) ⟨Nat.zero_le _, Nat.zero_le _⟩ dX8_move_17) (fun r7 pr7 => ?_)
  have pr7 : (r7.toInt = -1 ∧ ∀ j : Nat, (j : Int) < (F ((h0 + 1) + (3 + 4 * (F (h0 + 1 + (3 + 4 * x1.toNatClampNeg)) 5).toNatClampNeg)) 10).toInt → ¬ (F (((h0 + 1) + (3 + 4 * (F (h0 + 1 + (3 + 4 * x1.toNatClampNeg)) 5).toNatClampNeg)) + 2) j).toInt = x1.toInt) ∨ (0 ≤ r7.toInt ∧ r7.toInt < (F ((h0 + 1) + (3 + 4 * (F (h0 + 1 + (3 + 4 * x1.toNatClampNeg)) 5).toNatClampNeg)) 10).toInt ∧ r7.toInt ≤ 7 ∧ (F (((h0 + 1) + (3 + 4 * (F (h0 + 1 + (3 + 4 * x1.toNatClampNeg)) 5).toNatClampNeg)) + 2) r7.toInt.toNat).toInt = x1.toInt ∧ ∀ j : Nat, (j : Int) < r7.toInt → ¬ (F (((h0 + 1) + (3 + 4 * (F (h0 + 1 + (3 + 4 * x1.toNatClampNeg)) 5).toNatClampNeg)) + 2) j).toInt = x1.toInt) := pr7
  have pk : (0 ≤ r7.toInt ∧ r7.toInt < (F (h0 + 1 + (3 + 4 * (F (h0 + 1 + (3 + 4 * x1.toNatClampNeg)) 5).toNatClampNeg)) 10).toInt ∧ (F ((h0 + 1 + (3 + 4 * (F (h0 + 1 + (3 + 4 * x1.toNatClampNeg)) 5).toNatClampNeg)) + 2) r7.toInt.toNat).toInt = x1.toInt ∧ ∀ j : Nat, (j : Int) < r7.toInt → ¬ (F ((h0 + 1 + (3 + 4 * (F (h0 + 1 + (3 + 4 * x1.toNatClampNeg)) 5).toNatClampNeg)) + 2) j).toInt = x1.toInt) := by obtain ⟨j9, a9, b9⟩ := hin; rcases pr7 with ⟨_, q9⟩ | ⟨q1, q2, q3, q4, q5⟩; exact absurd b9 (q9 j9 a9); exact ⟨q1, q2, q4, q5⟩
  refine lv_istore (lv' := [(4, .int r7), (3, .ref ((h0 + 1) + (3 + 4 * (F (h0 + 1 + (3 + 4 * x1.toNatClampNeg)) 5).toNatClampNeg))), (0, .ref h0), (1, .int x1), (2, .int x2)]) hx hb dX8_move_20 hl (by decide) rfl (fun ls hl => ?_)
  refine lv_iload hx hb dX8_move_22 (lv_at hl 0 rfl) ?_
  refine lv_iload_n hx hb dX8_move_24 rfl (lv_at hl 4 rfl) ?_
  refine lv_icmp_eq (tgt := 48) hx hb dX8_move_25 (by decide) (fun c8 => ?_) (fun c8 => ?_)
  · skip
    have ic8 := tn_eq rfl rfl c8
    refine lv_iload hx hb dX8_move_48 (lv_at hl 0 rfl) ?_
    exact tc_iretF E hr hlk hG rfl ⟨pk, Or.inl ⟨by omega, rfl⟩⟩ dX8_move_50
  · skip
    have ic8 := tn_ne rfl rfl c8
    refine lv_aload_n hx hb dX8_move_28 rfl (lv_at hl 1 rfl) ?_
    refine lv_iload hx hb dX8_move_29 (lv_at hl 0 rfl) ?_
    refine tc_callvF hG (tc_runV (As := [.int r7]) (rest := []) E hSt hG (x_X0_removeKid l G F τ ((h0 + 1) + (3 + 4 * (F (h0 + 1 + (3 + 4 * x1.toNatClampNeg)) 5).toNatClampNeg)) r7 ha5) ha5 rv_3 kv_X0_removeKid ml_X8_116 ⟨rfl, rfl, Nat.le_of_ble_eq_true rfl, Nat.le_of_ble_eq_true rfl⟩ rfl hl.1 rfl (Nat.le_of_ble_eq_true rfl) ⟨Nat.zero_le _, Nat.zero_le _⟩ dX8_move_31) (fun F10 H locs pr9 hG => ?_)
    have E := E.f1 (F' := F10)
    have hSt := hSt.f1 (F' := F10)
    replace pr9 : ((r7.toInt < 0 ∨ (F ((h0 + 1) + (3 + 4 * (F (h0 + 1 + (3 + 4 * x1.toNatClampNeg)) 5).toNatClampNeg)) 10).toInt ≤ r7.toInt) ∧ F10 = F) ∨ (0 ≤ r7.toInt ∧ r7.toInt < (F ((h0 + 1) + (3 + 4 * (F (h0 + 1 + (3 + 4 * x1.toNatClampNeg)) 5).toNatClampNeg)) 10).toInt ∧ (F ((h0 + 1) + (3 + 4 * (F (h0 + 1 + (3 + 4 * x1.toNatClampNeg)) 5).toNatClampNeg)) 10).toInt ≤ 8 ∧ F10 = rmF F ((h0 + 1) + (3 + 4 * (F (h0 + 1 + (3 + 4 * x1.toNatClampNeg)) 5).toNatClampNeg)) r7) := pr9
    have qr9 : F10 = rmF F ((h0 + 1) + (3 + 4 * (F (h0 + 1 + (3 + 4 * x1.toNatClampNeg)) 5).toNatClampNeg)) r7 := by rcases pr9 with ⟨q9, _⟩ | ⟨_, _, _, q9⟩; (exfalso; omega); exact q9
    have rr9 : F10 ((h0 + 1) + (3 + 4 * (F (h0 + 1 + (3 + 4 * x1.toNatClampNeg)) 5).toNatClampNeg)) 10 = F ((h0 + 1) + (3 + 4 * (F (h0 + 1 + (3 + 4 * x1.toNatClampNeg)) 5).toNatClampNeg)) 10 - 1 := by rw [qr9]; exact rmF_10
    have r2r9 : (F10 ((h0 + 1) + (3 + 4 * (F (h0 + 1 + (3 + 4 * x1.toNatClampNeg)) 5).toNatClampNeg)) 10).toInt = (F ((h0 + 1) + (3 + 4 * (F (h0 + 1 + (3 + 4 * x1.toNatClampNeg)) 5).toNatClampNeg)) 10).toInt - 1 := by rw [rr9]; exact tn_sub rfl rfl kI_1 (by omega) (by omega)
    refine lv_aload_n hx hb dX8_move_34 rfl (lv_at hl 1 rfl) ?_
    refine lv_iload_n hx hb dX8_move_35 rfl (lv_at hl 3 rfl) ?_
    refine lv_iload_n hx hb dX8_move_36 rfl (lv_at hl 4 rfl) ?_
    refine tc_callvF hG (tc_runV (As := [.int x1, .int x2]) (rest := []) E hSt hG (x_X0_addKid l G F10 τ ((h0 + 1) + (3 + 4 * (F (h0 + 1 + (3 + 4 * x1.toNatClampNeg)) 5).toNatClampNeg)) x1 x2 ha5 (by omega) (by omega)) ha5 rv_3 kv_X0_addKid ml_X8_83 ⟨rfl, rfl, Nat.le_of_ble_eq_true rfl, Nat.le_of_ble_eq_true rfl⟩ rfl hl.1 rfl (Nat.le_of_ble_eq_true rfl) ⟨Nat.zero_le _, Nat.zero_le _⟩ dX8_move_37) (fun F12 H locs pr11 hG => ?_)
    have E := E.f1 (F' := F12)
    have hSt := hSt.f1 (F' := F12)
    replace pr11 : (((F10 ((h0 + 1) + (3 + 4 * (F (h0 + 1 + (3 + 4 * x1.toNatClampNeg)) 5).toNatClampNeg)) 10).toInt ≥ 8 ∨ x2.toInt < 0 ∨ (F10 ((h0 + 1) + (3 + 4 * (F (h0 + 1 + (3 + 4 * x1.toNatClampNeg)) 5).toNatClampNeg)) 10).toInt < x2.toInt) ∧ F12 = F10) ∨ ((F10 ((h0 + 1) + (3 + 4 * (F (h0 + 1 + (3 + 4 * x1.toNatClampNeg)) 5).toNatClampNeg)) 10).toInt ≤ 7 ∧ 0 ≤ x2.toInt ∧ x2.toInt ≤ (F10 ((h0 + 1) + (3 + 4 * (F (h0 + 1 + (3 + 4 * x1.toNatClampNeg)) 5).toNatClampNeg)) 10).toInt ∧ F12 = adF F10 ((h0 + 1) + (3 + 4 * (F (h0 + 1 + (3 + 4 * x1.toNatClampNeg)) 5).toNatClampNeg)) x1 x2) := pr11
    have qr11 : F12 = adF F10 ((h0 + 1) + (3 + 4 * (F (h0 + 1 + (3 + 4 * x1.toNatClampNeg)) 5).toNatClampNeg)) x1 x2 := by rcases pr11 with ⟨q9, _⟩ | ⟨_, _, _, q9⟩; (exfalso; omega); exact q9
    refine lv_aload_n hx hb dX8_move_40 rfl (lv_at hl 2 rfl) ?_
    refine lv_aload_n hx hb dX8_move_41 rfl (lv_at hl 1 rfl) ?_
    refine tc_getF E hG ha5 fi_X8_119 rfl dX8_move_42 (fun z13 lz13 uz13 wz13 => ?_)
    replace wz13 : z13 = F12 ((h0 + 1) + (3 + 4 * (F (h0 + 1 + (3 + 4 * x1.toNatClampNeg)) 5).toNatClampNeg)) 0 := wz13
    have cz13 : z13.toInt = (F12 ((h0 + 1) + (3 + 4 * (F (h0 + 1 + (3 + 4 * x1.toNatClampNeg)) 5).toNatClampNeg)) 0).toInt := by rw [wz13]
    refine tc_callv hG (tc_runV (As := [.int z13]) (rest := []) E hSt hG (c_X8_mark l (gF G F12) τ h0 z13 t0) t0 rv_2 kv_X8_mark ml_X8_87 ⟨rfl, rfl, Nat.le_of_ble_eq_true rfl, Nat.le_of_ble_eq_true rfl⟩ rfl hl.1 rfl (Nat.le_of_ble_eq_true rfl) ⟨Nat.zero_le _, Nat.zero_le _⟩ dX8_move_45) (fun H locs hG => ?_)
    refine lv_iload hx hb dX8_move_48 (lv_at hl 0 rfl) ?_
    exact tc_iretF E hr hlk hG rfl ⟨pk, Or.inr ⟨by omega, (by rw [qr11, qr9])⟩⟩ dX8_move_50
