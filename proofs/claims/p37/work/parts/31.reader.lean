set_option maxHeartbeats 4000000 in
set_option maxRecDepth 100000 in
theorem c_J0_checkIndex_df160_p (l : Launch) (G : tG) (τ : Nat → Nat) (x0 : Int32) (x1 : Int32) (l0 : 0 ≤ x0.toInt) (hlt : x0.toInt < x1.toInt) : Met l yJ0_checkIndex_df160 (.code yJ0_checkIndex_df160 cJ0_checkIndex_df160 2 none :: tWS) (tRm 1 22) (va_Pc [.int x0, .int x1] (tPre G τ)) (tQpv) 0 0 tNo := by
  refine tc_met (by decide) (Nat.le_of_ble_eq_true rfl) ?_
  intro p e s m below meth c E hSt hr hlk hG ls hl
  have hl : lv_has ls 2 [(0, .int x0), (1, .int x1)] := hl
  have hx := E.1
  have hb := E.2.1
  obtain ⟨H, eH⟩ : ∃ H, H = s.heap := ⟨_, rfl⟩
  obtain ⟨locs, eL⟩ : ∃ x : List Loc, x = [] := ⟨_, rfl⟩
  have hG : tGH G τ s H locs := by rw [eH, eL]; exact hG
  suffices hW : W p l e (tRm 1 22) s m ([.int x0, .int x1] : List Value).toArray below meth c H locs 0 0 (MQ below (tQpv) ([.int x0, .int x1] : List Value).toArray s 0 0 tNo) (F0 m 0 ls []) by subst eH; subst eL; exact hW
  refine lv_iload_n hx hb dJ0_checkIndex_df160_0 rfl (lv_at hl 0 rfl) ?_
  refine lv_iload_n hx hb dJ0_checkIndex_df160_1 rfl (lv_at hl 1 rfl) ?_
  rcases hSt.2.2.2.2.1 with hZ | ⟨tf, hZ⟩
  · refine va_gets hx hb hZ hG.2 E.2.2.2.1 (E.2.2.2.2.1 _ (t_w3 205 rfl rfl)) (fun _ h => h) dJ0_checkIndex_df160_2 ?_
    refine tc_callp (tc_runS (As := [.int x0, .int x1, .null]) (rest := []) E hSt hG (c_J3_checkIndex_8e157_n l G τ x0 x1 (by omega) (by omega)) ks_J3_checkIndex_8e157 ml_J0_1059 ⟨rfl, rfl, Nat.le_of_ble_eq_true rfl, Nat.le_of_ble_eq_true rfl⟩ rfl hl.1 rfl (Nat.le_of_ble_eq_true rfl) ⟨Nat.zero_le _, Nat.zero_le _⟩ dJ0_checkIndex_df160_5) (fun r1 pr1 => ?_)
    refine lv_pop hx hb dJ0_checkIndex_df160_8 rfl ?_
    exact tc_pvret E hr hlk eH eL dJ0_checkIndex_df160_9
  · refine va_gets hx hb hZ hG.2 E.2.2.2.1 (E.2.2.2.2.1 _ (t_w3 205 rfl rfl)) (fun _ h => h) dJ0_checkIndex_df160_2 ?_
    refine tc_callp (tc_runS (As := [.int x0, .int x1, .ref tf]) (rest := []) E hSt hG (c_J3_checkIndex_8e157_o l G τ x0 x1 tf (by omega) (by omega)) ks_J3_checkIndex_8e157 ml_J0_1059 ⟨rfl, rfl, Nat.le_of_ble_eq_true rfl, Nat.le_of_ble_eq_true rfl⟩ rfl hl.1 rfl (Nat.le_of_ble_eq_true rfl) ⟨Nat.zero_le _, Nat.zero_le _⟩ dJ0_checkIndex_df160_5) (fun r2 pr2 => ?_)
    refine lv_pop hx hb dJ0_checkIndex_df160_8 rfl ?_
    exact tc_pvret E hr hlk eH eL dJ0_checkIndex_df160_9

set_option maxHeartbeats 4000000 in
set_option maxRecDepth 100000 in
theorem c_J1_charAt_3b067_p (l : Launch) (G : tG) (τ : Nat → Nat) (k0 : Nat) (x1 : Int32) (hk0 : k0 < 10) (l1 : 0 ≤ x1.toInt) (u1 : x1.toInt ≤ 6) (hlt : x1.toInt < ((tXl.getD k0 0 : Nat) : Int)) : Met l yJ1_charAt_3b067 (.code yJ1_charAt_3b067 cJ1_charAt_3b067 2 (some .char) :: tWS) (tRm 2 43) (va_Pc [.ref (G.2.2.2.2.1 k0), .int x1] (tPre G τ)) (tQp (fun r => 0 ≤ r.toInt ∧ r.toInt ≤ 65535)) 0 0 tNo := by
  refine tc_met (by decide) (Nat.le_of_ble_eq_true rfl) ?_
  intro p e s m below meth c E hSt hr hlk hG ls hl
  have hl : lv_has ls 2 [(0, .ref (G.2.2.2.2.1 k0)), (1, .int x1)] := hl
  have hx := E.1
  have hb := E.2.1
  obtain ⟨H, eH⟩ : ∃ H, H = s.heap := ⟨_, rfl⟩
  obtain ⟨locs, eL⟩ : ∃ x : List Loc, x = [] := ⟨_, rfl⟩
  have hG : tGH G τ s H locs := by rw [eH, eL]; exact hG
  suffices hW : W p l e (tRm 2 43) s m ([.ref (G.2.2.2.2.1 k0), .int x1] : List Value).toArray below meth c H locs 0 0 (MQ below (tQp (fun r => 0 ≤ r.toInt ∧ r.toInt ≤ 65535)) ([.ref (G.2.2.2.2.1 k0), .int x1] : List Value).toArray s 0 0 tNo) (F0 m 0 ls []) by subst eH; subst eL; exact hW
  refine lv_iload_n hx hb dJ1_charAt_3b067_0 rfl (lv_at hl 1 rfl) ?_
  refine lv_aload_n hx hb dJ1_charAt_3b067_1 rfl (lv_at hl 0 rfl) ?_
  refine ts_alen E hSt hG hk0 dJ1_charAt_3b067_2 (fun z1 ez1 => ?_)
  have tz1 : z1.toInt = ((tXl.getD k0 0 : Nat) : Int) := by have q := ts_le k0 hk0; rw [ez1]; exact nI_toInt (by omega)
  have qz1 := ts_le k0 hk0
  refine tc_callpv (tc_runS (As := [.int x1, .int z1]) (rest := []) E hSt hG (c_J0_checkIndex_df160_p l G τ x1 z1 (by omega) (by omega)) ks_J0_checkIndex_df160 ml_J1_9 ⟨rfl, rfl, Nat.le_of_ble_eq_true rfl, Nat.le_of_ble_eq_true rfl⟩ rfl hl.1 rfl (Nat.le_of_ble_eq_true rfl) ⟨Nat.zero_le _, Nat.zero_le _⟩ dJ1_charAt_3b067_3) ?_
  refine lv_aload_n hx hb dJ1_charAt_3b067_6 rfl (lv_at hl 0 rfl) ?_
  refine lv_iload_n hx hb dJ1_charAt_3b067_7 rfl (lv_at hl 1 rfl) ?_
  refine ts_bald E hSt hG hk0 (t_in (by omega) (by omega)) dJ1_charAt_3b067_8 (fun z3 => ?_)
  refine lv_sipush (v := 255) hx hb dJ1_charAt_3b067_9 (by decide) ?_
  refine lv_iand hx hb dJ1_charAt_3b067_12 ?_
  refine lv_topi (fun z4 ez4 => ?_)
  refine lv_i2c hx hb dJ1_charAt_3b067_13 rfl ?_
  refine lv_topi (fun z5 ez5 => ?_)
  have tz5 := tn_i2c ez5
  exact tc_pret E hr hlk eH eL (t_nc (by omega) (by omega)).1 (show 0 ≤ z5.toInt ∧ z5.toInt ≤ 65535 by omega) dJ1_charAt_3b067_14

set_option maxHeartbeats 4000000 in
set_option maxRecDepth 100000 in
theorem c_J0_charAt_5068e_p (l : Launch) (G : tG) (τ : Nat → Nat) (k0 : Nat) (x1 : Int32) (hk0 : k0 < 10) (l1 : 0 ≤ x1.toInt) (u1 : x1.toInt ≤ 6) (hlt : x1.toInt < ((tXl.getD k0 0 : Nat) : Int)) : Met l yJ0_charAt_5068e (.code yJ0_charAt_5068e cJ0_charAt_5068e 2 (some .char) :: tWS) (tRm 3 64) (va_Pc [.ref (G.2.2.2.1 k0), .int x1] (tPre G τ)) (tQp (fun r => 0 ≤ r.toInt ∧ r.toInt ≤ 65535)) 0 0 tNo := by
  refine tc_met (by decide) (Nat.le_of_ble_eq_true rfl) ?_
  intro p e s m below meth c E hSt hr hlk hG ls hl
  have hl : lv_has ls 2 [(0, .ref (G.2.2.2.1 k0)), (1, .int x1)] := hl
  have hx := E.1
  have hb := E.2.1
  obtain ⟨H, eH⟩ : ∃ H, H = s.heap := ⟨_, rfl⟩
  obtain ⟨locs, eL⟩ : ∃ x : List Loc, x = [] := ⟨_, rfl⟩
  have hG : tGH G τ s H locs := by rw [eH, eL]; exact hG
  suffices hW : W p l e (tRm 3 64) s m ([.ref (G.2.2.2.1 k0), .int x1] : List Value).toArray below meth c H locs 0 0 (MQ below (tQp (fun r => 0 ≤ r.toInt ∧ r.toInt ≤ 65535)) ([.ref (G.2.2.2.1 k0), .int x1] : List Value).toArray s 0 0 tNo) (F0 m 0 ls []) by subst eH; subst eL; exact hW
  refine lv_aload_n hx hb dJ0_charAt_5068e_0 rfl (lv_at hl 0 rfl) ?_
  refine tc_callp (ts_runV (As := []) (rest := []) E hSt hG hk0 (c_J0_isLatin1_aae02 l G τ k0 hk0) rfl kv_J0_isLatin1_aae02 ml_J0_492 ⟨rfl, rfl, Nat.le_of_ble_eq_true rfl, Nat.le_of_ble_eq_true rfl⟩ rfl hl.1 rfl (Nat.le_of_ble_eq_true rfl) ⟨Nat.zero_le _, Nat.zero_le _⟩ dJ0_charAt_5068e_1) (fun r1 pr1 => ?_)
  have pr1 : r1.toInt = 1 := pr1
  refine lv_if_eq (tgt := 16) hx hb dJ0_charAt_5068e_4 (by decide) (fun c2 => ?_) (fun c2 => ?_)
  · exfalso
    have ic2 := tn_eq rfl kI_0 c2
    omega
  · skip
    have ic2 := tn_ne rfl kI_0 c2
    refine lv_aload_n hx hb dJ0_charAt_5068e_7 rfl (lv_at hl 0 rfl) ?_
    refine vk_getf hx hb (hSt.2.1.1 k0 hk0).2.2.1 hG.2 E.2.2.2.1 (E.2.2.2.2.1 _ (t_w8 171 rfl rfl)) (fun _ h => h) dJ0_charAt_5068e_8 ?_
    refine lv_iload_n hx hb dJ0_charAt_5068e_11 rfl (lv_at hl 1 rfl) ?_
    refine tc_callp (tc_runS (As := [.ref (G.2.2.2.2.1 k0), .int x1]) (rest := []) E hSt hG (c_J1_charAt_3b067_p l G τ k0 x1 hk0 (by omega) (by omega) (by omega)) ks_J1_charAt_3b067 ml_J0_495 ⟨rfl, rfl, Nat.le_of_ble_eq_true rfl, Nat.le_of_ble_eq_true rfl⟩ rfl hl.1 rfl (Nat.le_of_ble_eq_true rfl) ⟨Nat.zero_le _, Nat.zero_le _⟩ dJ0_charAt_5068e_12) (fun r3 pr3 => ?_)
    have pr3 : 0 ≤ r3.toInt ∧ r3.toInt ≤ 65535 := pr3
    exact tc_pret E hr hlk eH eL (t_nc (by omega) (by omega)).1 (show 0 ≤ r3.toInt ∧ r3.toInt ≤ 65535 by omega) dJ0_charAt_5068e_15
