set_option maxHeartbeats 4000000 in
set_option maxRecDepth 100000 in
theorem c_J0_checkIndex_df160_p (l : Launch) (G : tG) (τ : Nat → Nat) (x0 : Int32) (x1 : Int32) (l0 : 0 ≤ x0.toInt) (hlt : x0.toInt < x1.toInt) : Met l yJ0_checkIndex_df160 (.code yJ0_checkIndex_df160 cJ0_checkIndex_df160 2 none :: tWS) (tRm 1 22) (va_Pc [.int x0, .int x1] (tPre G τ)) (tQpv) 0 0 tNo := by
  refine tc_met (by decide) (Nat.le_of_ble_eq_true rfl) ?_
  intro p e s m below meth c E hSt hr hlk hG ls hl
  have hl : lv_has ls 2 [(0, .int x0), (1, .int x1)] := hl
  have hx := E.1
  have hb := E.2.1
  obtain ⟨H, eH⟩ : ∃ H, H = s.heap := ⟨_, rfl⟩
  obtain ⟨locs, eL⟩ : ∃ x : List Loc, x = [] := ⟨_, rfl⟩
  have hG : tGH G τ s H locs := by rw [eH, eL]; exact hG
  suffices hW : W p l e (tRm 1 22) s m ([.int x0, .int x1] : List Value).toArray below meth c H locs 0 0 (MQ below (tQpv) ([.int x0, .int x1] : List Value).toArray s 0 0 tNo) (F0 m 0 ls []) by subst eH; subst eL; exact hW
  refine lv_iload_n hx hb dJ0_checkIndex_df160_0 rfl (lv_at hl 0 rfl) ?_
  refine lv_iload_n hx hb dJ0_checkIndex_df160_1 rfl (lv_at hl 1 rfl) ?_
  rcases hSt.2.2.2.2.1 with hZ | ⟨tf, hZ⟩
  · refine va_gets hx hb hZ hG.2 E.2.2.2.1 (E.2.2.2.2.1 _ (t_w3 205 rfl rfl)) (fun _ h => h) dJ0_checkIndex_df160_2 ?_
    refine tc_callp (tc_runS (As := [.int x0, .int x1, .null]) (rest := []) E hSt hG (c_J3_checkIndex_8e157_n l G τ x0 x1 (by omega) (by omega)) ks_J3_checkIndex_8e157 ml_J0_1059 ⟨rfl, rfl, Nat.le_of_ble_eq_true rfl, Nat.le_of_ble_eq_true rfl⟩ rfl hl.1 rfl (Nat.le_of_ble_eq_true rfl) ⟨Nat.zero_le _, Nat.zero_le _⟩ dJ0_checkIndex_df160_5) (fun r1 pr1 => ?_)
    refine lv_pop hx hb dJ0_checkIndex_df160_8 rfl ?_
    exact tc_pvret E hr hlk eH eL dJ0_checkIndex_df160_9
  · refine va_gets hx hb hZ hG.2 E.2.2.2.1 (E.2.2.2.2.1 _ (t_w3 205 rfl rfl)) (fun _ h => h) dJ0_checkIndex_df160_2 ?_
    refine tc_callp (tc_runS (As := [.int x0, .int x1, .ref tf]) (rest := []) E hSt hG (c_J3_checkIndex_8e157_o l G τ x0 x1 tf (by omega) (by omega)) ks_J3_checkIndex_8e157 ml_J0_1059 ⟨rfl, rfl, Nat.le_of_ble_eq_true rfl, Nat.le_of_ble_eq_true rfl⟩ rfl hl.1 rfl (Nat.le_of_ble_eq_true rfl) ⟨Nat.zero_le _, Nat.zero_le _⟩ dJ0_checkIndex_df160_5) (fun r2 pr2 => ?_)
    refine lv_pop hx hb dJ0_checkIndex_df160_8 rfl ?_
    exact tc_pvret E hr hlk eH eL dJ0_checkIndex_df160_9

set_option maxHeartbeats 4000000 in
set_option maxRecDepth 100000 in
theorem c_J1_charAt_3b067_p (l : Launch) (G : tG) (τ : Nat → Nat) (k0 : Nat) (x1 : Int32) (hk0 : k0 < 10) (l1 : 0 ≤ x1.toInt) (u1 : x1.toInt ≤ 6) (hlt : x1.toInt < ((tXl.getD k0 0 : Nat) : Int)) : Met l yJ1_charAt_3b067 (.code yJ1_charAt_3b067 cJ1_charAt_3b067 2 (some .char) :: tWS) (tRm 2 43) (va_Pc [.ref (G.2.2.2.2 k0), .int x1] (tPre G τ)) (tQp (fun r => 0 ≤ r.toInt ∧ r.toInt ≤ 65535)) 0 0 tNo := by
  refine tc_met (by decide) (Nat.le_of_ble_eq_true rfl) ?_
  intro p e s m below meth c E hSt hr hlk hG ls hl
  have hl : lv_has ls 2 [(0, .ref (G.2.2.2.2 k0)), (1, .int x1)] := hl
  have hx := E.1
  have hb := E.2.1
  obtain ⟨H, eH⟩ : ∃ H, H = s.heap := ⟨_, rfl⟩
  obtain ⟨locs, eL⟩ : ∃ x : List Loc, x = [] := ⟨_, rfl⟩
  have hG : tGH G τ s H locs := by rw [eH, eL]; exact hG
  suffices hW : W p l e (tRm 2 43) s m ([.ref (G.2.2.2.2 k0), .int x1] : List Value).toArray below meth c H locs 0 0 (MQ below (tQp (fun r => 0 ≤ r.toInt ∧ r.toInt ≤ 65535)) ([.ref (G.2.2.2.2 k0), .int x1] : List Value).toArray s 0 0 tNo) (F0 m 0 ls []) by subst eH; subst eL; exact hW
  refine lv_iload_n hx hb dJ1_charAt_3b067_0 rfl (lv_at hl 1 rfl) ?_
  refine lv_aload_n hx hb dJ1_charAt_3b067_1 rfl (lv_at hl 0 rfl) ?_
  refine ts_alen E hSt hG hk0 dJ1_charAt_3b067_2 (fun z1 ez1 => ?_)
  have tz1 : z1.toInt = ((tXl.getD k0 0 : Nat) : Int) := by have q := ts_le k0 hk0; rw [ez1]; exact nI_toInt (by omega)
  have qz1 := ts_le k0 hk0
  refine tc_callpv (tc_runS (As := [.int x1, .int z1]) (rest := []) E hSt hG (c_J0_checkIndex_df160_p l G τ x1 z1 (by omega) (by omega)) ks_J0_checkIndex_df160 ml_J1_9 ⟨rfl, rfl, Nat.le_of_ble_eq_true rfl, Nat.le_of_ble_eq_true rfl⟩ rfl hl.1 rfl (Nat.le_of_ble_eq_true rfl) ⟨Nat.zero_le _, Nat.zero_le _⟩ dJ1_charAt_3b067_3) ?_
  refine lv_aload_n hx hb dJ1_charAt_3b067_6 rfl (lv_at hl 0 rfl) ?_
  refine lv_iload_n hx hb dJ1_charAt_3b067_7 rfl (lv_at hl 1 rfl) ?_
  refine ts_bald E hSt hG hk0 (t_in (by omega) (by omega)) dJ1_charAt_3b067_8 (fun z3 => ?_)
  refine lv_sipush (v := 255) hx hb dJ1_charAt_3b067_9 (by decide) ?_
  refine lv_iand hx hb dJ1_charAt_3b067_12 ?_
  refine lv_topi (fun z4 ez4 => ?_)
  refine lv_i2c hx hb dJ1_charAt_3b067_13 rfl ?_
  refine lv_topi (fun z5 ez5 => ?_)
  have tz5 := tn_i2c ez5
  exact tc_pret E hr hlk eH eL (t_nc (by omega) (by omega)).1 (show 0 ≤ z5.toInt ∧ z5.toInt ≤ 65535 by omega) dJ1_charAt_3b067_14

set_option maxHeartbeats 4000000 in
set_option maxRecDepth 100000 in
theorem c_J0_charAt_5068e_p (l : Launch) (G : tG) (τ : Nat → Nat) (k0 : Nat) (x1 : Int32) (hk0 : k0 < 10) (l1 : 0 ≤ x1.toInt) (u1 : x1.toInt ≤ 6) (hlt : x1.toInt < ((tXl.getD k0 0 : Nat) : Int)) : Met l yJ0_charAt_5068e (.code yJ0_charAt_5068e cJ0_charAt_5068e 2 (some .char) :: tWS) (tRm 3 64) (va_Pc [.ref (G.2.2.2.1 k0), .int x1] (tPre G τ)) (tQp (fun r => 0 ≤ r.toInt ∧ r.toInt ≤ 65535)) 0 0 tNo := by
  refine tc_met (by decide) (Nat.le_of_ble_eq_true rfl) ?_
  intro p e s m below meth c E hSt hr hlk hG ls hl
  have hl : lv_has ls 2 [(0, .ref (G.2.2.2.1 k0)), (1, .int x1)] := hl
  have hx := E.1
  have hb := E.2.1
  obtain ⟨H, eH⟩ : ∃ H, H = s.heap := ⟨_, rfl⟩
  obtain ⟨locs, eL⟩ : ∃ x : List Loc, x = [] := ⟨_, rfl⟩
  have hG : tGH G τ s H locs := by rw [eH, eL]; exact hG
  suffices hW : W p l e (tRm 3 64) s m ([.ref (G.2.2.2.1 k0), .int x1] : List Value).toArray below meth c H locs 0 0 (MQ below (tQp (fun r => 0 ≤ r.toInt ∧ r.toInt ≤ 65535)) ([.ref (G.2.2.2.1 k0), .int x1] : List Value).toArray s 0 0 tNo) (F0 m 0 ls []) by subst eH; subst eL; exact hW
  refine lv_aload_n hx hb dJ0_charAt_5068e_0 rfl (lv_at hl 0 rfl) ?_
  refine tc_callp (ts_runV (As := []) (rest := []) E hSt hG hk0 (c_J0_isLatin1_aae02 l G τ k0 hk0) rfl kv_J0_isLatin1_aae02 ml_J0_492 ⟨rfl, rfl, Nat.le_of_ble_eq_true rfl, Nat.le_of_ble_eq_true rfl⟩ rfl hl.1 rfl (Nat.le_of_ble_eq_true rfl) ⟨Nat.zero_le _, Nat.zero_le _⟩ dJ0_charAt_5068e_1) (fun r1 pr1 => ?_)
  have pr1 : r1.toInt = 1 := pr1
  refine lv_if_eq (tgt := 16) hx hb dJ0_charAt_5068e_4 (by decide) (fun c2 => ?_) (fun c2 => ?_)
  · exfalso
    have ic2 := tn_eq rfl kI_0 c2
    omega
  · skip
    have ic2 := tn_ne rfl kI_0 c2
    refine lv_aload_n hx hb dJ0_charAt_5068e_7 rfl (lv_at hl 0 rfl) ?_
    refine vk_getf hx hb (hSt.2.1.1 k0 hk0).2.2.1 hG.2 E.2.2.2.1 (E.2.2.2.2.1 _ (t_w8 171 rfl rfl)) (fun _ h => h) dJ0_charAt_5068e_8 ?_
    refine lv_iload_n hx hb dJ0_charAt_5068e_11 rfl (lv_at hl 1 rfl) ?_
    refine tc_callp (tc_runS (As := [.ref (G.2.2.2.2 k0), .int x1]) (rest := []) E hSt hG (c_J1_charAt_3b067_p l G τ k0 x1 hk0 (by omega) (by omega) (by omega)) ks_J1_charAt_3b067 ml_J0_495 ⟨rfl, rfl, Nat.le_of_ble_eq_true rfl, Nat.le_of_ble_eq_true rfl⟩ rfl hl.1 rfl (Nat.le_of_ble_eq_true rfl) ⟨Nat.zero_le _, Nat.zero_le _⟩ dJ0_charAt_5068e_12) (fun r3 pr3 => ?_)
    have pr3 : 0 ≤ r3.toInt ∧ r3.toInt ≤ 65535 := pr3
    exact tc_pret E hr hlk eH eL (t_nc (by omega) (by omega)).1 (show 0 ≤ r3.toInt ∧ r3.toInt ≤ 65535 by omega) dJ0_charAt_5068e_15

set_option maxHeartbeats 4000000 in
set_option maxRecDepth 100000 in
theorem c_X5_next (l : Launch) (G : tG) (τ : Nat → Nat) (h0 : Nat) (t0 : τ h0 = 22) : Met l yX5_next (.code yX5_next cX5_next 1 (some .char) :: tWS) (tRm 0 0) (va_Pc [.ref h0] (tPre G τ)) (tQpH (fun r H => (0 ≤ r.toInt ∧ r.toInt ≤ 65535) ∧ (r.toInt = 0 ∨ ∀ y : Int32, tSl G H h0 4 9 (.int y) → y.toInt ≤ 119))) 0 0 tNo := by
  refine tc_met (by decide) (Nat.le_of_ble_eq_true rfl) ?_
  intro p e s m below meth c E hSt hr hlk hG ls hl
  have hl : lv_has ls 1 [(0, .ref h0)] := hl
  have hx := E.1
  have hb := E.2.1
  obtain ⟨H, eH⟩ : ∃ H, H = s.heap := ⟨_, rfl⟩
  obtain ⟨locs, eL⟩ : ∃ x : List Loc, x = [] := ⟨_, rfl⟩
  have hG : tGH G τ s H locs := by rw [eH, eL]; exact hG
  suffices hW : W p l e (tRm 0 0) s m ([.ref h0] : List Value).toArray below meth c H locs 0 0 (MQ below (tQpH (fun r H => (0 ≤ r.toInt ∧ r.toInt ≤ 65535) ∧ (r.toInt = 0 ∨ ∀ y : Int32, tSl G H h0 4 9 (.int y) → y.toInt ≤ 119))) ([.ref h0] : List Value).toArray s 0 0 tNo) (F0 m 0 ls []) by subst eH; subst eL; exact hW
  refine lv_aload_n hx hb dX5_next_0 rfl (lv_at hl 0 rfl) ?_
  refine tc_getiS E hG t0 fiw_X5_46 dX5_next_1 (fun z1 lz1 uz1 fv2 => ?_)
  have fv2 := fv2 _ rfl
  refine lv_aload_n hx hb dX5_next_4 rfl (lv_at hl 0 rfl) ?_
  refine tc_getiS E hG t0 fiw_X5_39 dX5_next_5 (fun z3 lz3 uz3 fv4 => ?_)
  have fv4 := fv4 _ rfl
  refine lv_icmp_ge (tgt := 23) hx hb dX5_next_8 (by decide) (fun c5 => ?_) (fun c5 => ?_)
  · skip
    have ic5 := tn_le rfl rfl c5
    refine lv_iconst (v := 0) hx hb dX5_next_23 (by decide) ?_
    exact tc_pretH E hr hlk eH eL (t_nc (by decide) (by decide)).1 ⟨⟨by decide, by decide⟩, Or.inl rfl⟩ dX5_next_24
  · skip
    have ic5 := tn_nle rfl rfl c5
    refine lv_aload_n hx hb dX5_next_11 rfl (lv_at hl 0 rfl) ?_
    refine tc_getrS E hG t0 frw_X5_29 dX5_next_12 (fun oa6 hoa6 fv7 => ?_)
    have fv7 := fv7 _ rfl
    refine lv_aload_n hx hb dX5_next_15 rfl (lv_at hl 0 rfl) ?_
    refine tc_seen E ff_X5_46 fv2 dX5_next_16 ?_
    refine tc_cald E hG hoa6 ta_18 (t_in (by omega) (by omega)) dX5_next_19 (fun z8 lz8 uz8 => ?_)
    refine lv_goto (tgt := 24) hx hb dX5_next_20 (by decide) ?_
    exact tc_pretH E hr hlk eH eL (t_nc (by omega) (by omega)).1 ⟨⟨by omega, by omega⟩, Or.inr (fun y hy => by have e := tSl.uniqI hy fv2; subst e; omega)⟩ dX5_next_24

set_option maxHeartbeats 4000000 in
set_option maxRecDepth 100000 in
theorem c_X5_nextIsFigure (l : Launch) (G : tG) (τ : Nat → Nat) (h0 : Nat) (t0 : τ h0 = 22) : Met l yX5_nextIsFigure (.code yX5_nextIsFigure cX5_nextIsFigure 1 (some .boolean) :: tWS) (tRm 1 20) (va_Pc [.ref h0] (tPre G τ)) (tQpH (fun r H => (0 ≤ r.toInt ∧ r.toInt ≤ 1) ∧ (r.toInt = 0 ∨ ∀ y : Int32, tSl G H h0 4 9 (.int y) → y.toInt ≤ 119))) 0 0 tNo := by
  refine tc_met (by decide) (Nat.le_of_ble_eq_true rfl) ?_
  intro p e s m below meth c E hSt hr hlk hG ls hl
  have hl : lv_has ls 1 [(0, .ref h0)] := hl
  have hx := E.1
  have hb := E.2.1
  obtain ⟨H, eH⟩ : ∃ H, H = s.heap := ⟨_, rfl⟩
  obtain ⟨locs, eL⟩ : ∃ x : List Loc, x = [] := ⟨_, rfl⟩
  have hG : tGH G τ s H locs := by rw [eH, eL]; exact hG
  suffices hW : W p l e (tRm 1 20) s m ([.ref h0] : List Value).toArray below meth c H locs 0 0 (MQ below (tQpH (fun r H => (0 ≤ r.toInt ∧ r.toInt ≤ 1) ∧ (r.toInt = 0 ∨ ∀ y : Int32, tSl G H h0 4 9 (.int y) → y.toInt ≤ 119))) ([.ref h0] : List Value).toArray s 0 0 tNo) (F0 m 0 ls []) by subst eH; subst eL; exact hW
  refine lv_aload_n hx hb dX5_nextIsFigure_0 rfl (lv_at hl 0 rfl) ?_
  refine tc_callpH (tc_runV (As := []) (rest := []) E hSt hG (c_X5_next l G τ h0 t0) t0 rv_22 kv_X5_next ml_X5_64 ⟨rfl, rfl, Nat.le_of_ble_eq_true rfl, Nat.le_of_ble_eq_true rfl⟩ rfl hl.1 rfl (Nat.le_of_ble_eq_true rfl) ⟨Nat.zero_le _, Nat.zero_le _⟩ dX5_nextIsFigure_1) (fun r1 pr1 => ?_)
  have pr1 : (0 ≤ r1.toInt ∧ r1.toInt ≤ 65535) ∧ (r1.toInt = 0 ∨ ∀ y : Int32, tSl G H h0 4 9 (.int y) → y.toInt ≤ 119) := pr1
  obtain ⟨gp2, lgp2, ugp2, fgp2⟩ := tc_look hG t0 fiw_X5_46
  have fgp2 := fgp2 _ rfl
  have qr1 : r1.toInt = 0 ∨ gp2.toInt ≤ 119 := pr1.2.elim Or.inl (fun h => Or.inr (h _ fgp2))
  refine lv_bipush (v := 48) hx hb dX5_nextIsFigure_4 (by decide) ?_
  refine lv_icmp_lt (tgt := 22) hx hb dX5_nextIsFigure_6 (by decide) (fun c3 => ?_) (fun c3 => ?_)
  · skip
    have ic3 := tn_lt rfl kI_48 c3
    refine lv_iconst (v := 0) hx hb dX5_nextIsFigure_22 (by decide) ?_
    exact tc_pretH E hr hlk eH eL (t_nz (by decide) (by decide)).1 ⟨⟨by decide, by decide⟩, Or.inl rfl⟩ dX5_nextIsFigure_23
  · skip
    have ic3 := tn_nlt rfl kI_48 c3
    refine lv_aload_n hx hb dX5_nextIsFigure_9 rfl (lv_at hl 0 rfl) ?_
    refine tc_callpH (tc_runV (As := []) (rest := []) E hSt hG (c_X5_next l G τ h0 t0) t0 rv_22 kv_X5_next ml_X5_64 ⟨rfl, rfl, Nat.le_of_ble_eq_true rfl, Nat.le_of_ble_eq_true rfl⟩ rfl hl.1 rfl (Nat.le_of_ble_eq_true rfl) ⟨Nat.zero_le _, Nat.zero_le _⟩ dX5_nextIsFigure_10) (fun r4 pr4 => ?_)
    have pr4 : (0 ≤ r4.toInt ∧ r4.toInt ≤ 65535) ∧ (r4.toInt = 0 ∨ ∀ y : Int32, tSl G H h0 4 9 (.int y) → y.toInt ≤ 119) := pr4
    have qr4 : r4.toInt = 0 ∨ gp2.toInt ≤ 119 := pr4.2.elim Or.inl (fun h => Or.inr (h _ fgp2))
    refine lv_bipush (v := 57) hx hb dX5_nextIsFigure_13 (by decide) ?_
    refine lv_icmp_gt (tgt := 22) hx hb dX5_nextIsFigure_15 (by decide) (fun c5 => ?_) (fun c5 => ?_)
    · skip
      have ic5 := tn_lt kI_57 rfl c5
      refine lv_iconst (v := 0) hx hb dX5_nextIsFigure_22 (by decide) ?_
      exact tc_pretH E hr hlk eH eL (t_nz (by decide) (by decide)).1 ⟨⟨by decide, by decide⟩, Or.inl rfl⟩ dX5_nextIsFigure_23
    · skip
      have ic5 := tn_nlt kI_57 rfl c5
      refine lv_iconst (v := 1) hx hb dX5_nextIsFigure_18 (by decide) ?_
      refine lv_goto (tgt := 23) hx hb dX5_nextIsFigure_19 (by decide) ?_
      exact tc_pretH E hr hlk eH eL (t_nz (by decide) (by decide)).1 ⟨⟨by decide, by decide⟩, Or.inr (fun y hy => by have e := tSl.uniqI hy fgp2; subst e; omega)⟩ dX5_nextIsFigure_23

set_option maxHeartbeats 4000000 in
set_option maxRecDepth 100000 in
theorem c_X5_passed (l : Launch) (G : tG) (τ : Nat → Nat) (h0 : Nat) (x1 : Int32) (t0 : τ h0 = 22) (l1 : 1 ≤ x1.toInt) (u1 : x1.toInt ≤ 65535) (gn : Int32) (lgn : 0 ≤ gn.toInt) (ugn : gn.toInt ≤ 24) : Met l yX5_passed (.code yX5_passed cX5_passed 2 (some .boolean) :: tWS) (tRm 1 20) (va_Pc [.ref h0, .int x1] (tPreH G τ (fun H => tSl G H h0 4 5 (.int gn)))) (tQiH G τ (fun r H => (0 ≤ r.toInt ∧ r.toInt ≤ 1) ∧ tSl G H h0 4 5 (.int gn))) 0 0 (tA τ) := by
  refine tc_metH (by decide) (Nat.le_of_ble_eq_true rfl) ?_
  intro p e s m below meth c E hSt hr hlk hG hΦ ls hl
  have hl : lv_has ls 2 [(0, .ref h0), (1, .int x1)] := hl
  have hx := E.1
  have hb := E.2.1
  obtain ⟨H, eH⟩ : ∃ H, H = s.heap := ⟨_, rfl⟩
  obtain ⟨locs, eL⟩ : ∃ x : List Loc, x = [] := ⟨_, rfl⟩
  have hG : tGH G τ s H locs := by rw [eH, eL]; exact hG
  have hΦ : tSl G H h0 4 5 (.int gn) := by rw [eH]; exact hΦ
  suffices hW : W p l e (tRm 1 20) s m ([.ref h0, .int x1] : List Value).toArray below meth c H locs 0 0 (MQ below (tQiH G τ (fun r H => (0 ≤ r.toInt ∧ r.toInt ≤ 1) ∧ tSl G H h0 4 5 (.int gn))) ([.ref h0, .int x1] : List Value).toArray s 0 0 (tA τ)) (F0 m 0 ls []) by subst eH; subst eL; exact hW
  clear eH eL
  refine lv_aload_n hx hb dX5_passed_0 rfl (lv_at hl 0 rfl) ?_
  refine tc_callpH (tc_runV (As := []) (rest := []) E hSt hG (c_X5_next l G τ h0 t0) t0 rv_22 kv_X5_next ml_X5_64 ⟨rfl, rfl, Nat.le_of_ble_eq_true rfl, Nat.le_of_ble_eq_true rfl⟩ rfl hl.1 rfl (Nat.le_of_ble_eq_true rfl) ⟨Nat.zero_le _, Nat.zero_le _⟩ dX5_passed_1) (fun r1 pr1 => ?_)
  have pr1 : (0 ≤ r1.toInt ∧ r1.toInt ≤ 65535) ∧ (r1.toInt = 0 ∨ ∀ y : Int32, tSl G H h0 4 9 (.int y) → y.toInt ≤ 119) := pr1
  obtain ⟨gp2, lgp2, ugp2, fgp2⟩ := tc_look hG t0 fiw_X5_46
  have fgp2 := fgp2 _ rfl
  have qr1 : r1.toInt = 0 ∨ gp2.toInt ≤ 119 := pr1.2.elim Or.inl (fun h => Or.inr (h _ fgp2))
  refine lv_iload_n hx hb dX5_passed_4 rfl (lv_at hl 1 rfl) ?_
  refine lv_icmp_eq (tgt := 10) hx hb dX5_passed_5 (by decide) (fun c3 => ?_) (fun c3 => ?_)
  · skip
    have ic3 := tn_eq rfl rfl c3
    refine lv_aload_n hx hb dX5_passed_10 rfl (lv_at hl 0 rfl) ?_
    refine lv_dup hx hb dX5_passed_11 rfl ?_
    refine tc_seen E ff_X5_46 fgp2 dX5_passed_12 ?_
    refine lv_iconst (v := 1) hx hb dX5_passed_15 (by decide) ?_
    refine lv_iadd hx hb dX5_passed_16 ?_
    refine lv_topi (fun z4 ez4 => ?_)
    have tz4 := tn_add ez4 rfl kI_1 (by omega) (by omega)
    refine tc_putS E hG t0 fpw_X5_46 (by omega) (by omega) rfl rfl dX5_passed_17 (fun H locs hG oq6 sl5 => ?_)
    have fv7 := (sl5 _ rfl).2 _ _ _ _ ff_X5_49 (by decide) hΦ
    have fv8 := (sl5 _ rfl).1
    refine lv_iconst (v := 1) hx hb dX5_passed_20 (by decide) ?_
    exact tc_retH E hr hlk hG (t_nz (by decide) (by decide)).1 ⟨(show 0 ≤ (1 : Int32).toInt ∧ (1 : Int32).toInt ≤ 1 by have kk := kI_1; omega), fv7⟩ dX5_passed_21
  · skip
    have ic3 := tn_ne rfl rfl c3
    refine lv_iconst (v := 0) hx hb dX5_passed_8 (by decide) ?_
    exact tc_retH E hr hlk hG (t_nz (by decide) (by decide)).1 ⟨(show 0 ≤ (0 : Int32).toInt ∧ (0 : Int32).toInt ≤ 1 by have kk := kI_0; omega), hΦ⟩ dX5_passed_9

set_option maxHeartbeats 4000000 in
set_option maxRecDepth 100000 in
theorem c_X5_readNumber (l : Launch) (G : tG) (τ : Nat → Nat) (h0 : Nat) (t0 : τ h0 = 22) (gn : Int32) (lgn : 0 ≤ gn.toInt) (ugn : gn.toInt ≤ 24) : Met l yX5_readNumber (.code yX5_readNumber cX5_readNumber 3 (some .int) :: tWS) (tRm 2 40) (va_Pc [.ref h0] (tPreH G τ (fun H => tSl G H h0 4 5 (.int gn)))) (tQiH G τ (fun r H => ((0 : Int) ≤ 0) ∧ tSl G H h0 4 5 (.int gn))) 0 0 (tA τ) := by
  refine tc_metH (by decide) (Nat.le_of_ble_eq_true rfl) ?_
  intro p e s m below meth c E hSt hr hlk hG hΦ ls hl
  have hl : lv_has ls 3 [(0, .ref h0)] := hl
  have hx := E.1
  have hb := E.2.1
  obtain ⟨H, eH⟩ : ∃ H, H = s.heap := ⟨_, rfl⟩
  obtain ⟨locs, eL⟩ : ∃ x : List Loc, x = [] := ⟨_, rfl⟩
  have hG : tGH G τ s H locs := by rw [eH, eL]; exact hG
  have hΦ : tSl G H h0 4 5 (.int gn) := by rw [eH]; exact hΦ
  suffices hW : W p l e (tRm 2 40) s m ([.ref h0] : List Value).toArray below meth c H locs 0 0 (MQ below (tQiH G τ (fun r H => ((0 : Int) ≤ 0) ∧ tSl G H h0 4 5 (.int gn))) ([.ref h0] : List Value).toArray s 0 0 (tA τ)) (F0 m 0 ls []) by subst eH; subst eL; exact hW
  clear eH eL
  have J4 : ∀ (n4 : Nat) (H : Heap) (locs : List Loc) (ls : Array Slot) (v1 : Int32) (v2 : Int32), tGH G τ s H locs → lv_has ls 3 [(0, .ref h0), (1, .int v1), (2, .int v2)] → 0 ≤ v2.toInt → v2.toInt ≤ 2 → tSl G H h0 4 5 (.int gn) → (2 - v2.toInt).toNat < n4 → W p l e (tRm 2 40) s m ([.ref h0] : List Value).toArray below meth c H locs 0 0 (MQ below (tQiH G τ (fun r H => ((0 : Int) ≤ 0) ∧ tSl G H h0 4 5 (.int gn))) ([.ref h0] : List Value).toArray s 0 0 (tA τ)) (F0 m 4 ls []) := by
    intro n4
    induction n4 with
    | zero => intro H locs ls v1 v2 hG hl b2 c2 hc5 hn4; exact absurd hn4 (Nat.not_lt_zero _)
    | succ n4 ih4 =>
      intro H locs ls v1 v2 hG hl b2 c2 hc5 hn4
      refine lv_iload_n hx hb dX5_readNumber_4 rfl (lv_at hl 2 rfl) ?_
      refine lv_iconst (v := 2) hx hb dX5_readNumber_5 (by decide) ?_
      refine lv_icmp_ge (tgt := 45) hx hb dX5_readNumber_6 (by decide) (fun c1 => ?_) (fun c1 => ?_)
      · skip
        have ic1 := tn_le kI_2 rfl c1
        refine lv_iload_n hx hb dX5_readNumber_45 rfl (lv_at hl 1 rfl) ?_
        exact tc_retH E hr hlk hG rfl ⟨(show (0 : Int) ≤ 0 by omega), hc5⟩ dX5_readNumber_46
      · skip
        have ic1 := tn_nle kI_2 rfl c1
        refine lv_aload_n hx hb dX5_readNumber_9 rfl (lv_at hl 0 rfl) ?_
        refine tc_callpH (tc_runV (As := []) (rest := []) E hSt hG (c_X5_nextIsFigure l G τ h0 t0) t0 rv_22 kv_X5_nextIsFigure ml_X5_115 ⟨rfl, rfl, Nat.le_of_ble_eq_true rfl, Nat.le_of_ble_eq_true rfl⟩ rfl hl.1 rfl (Nat.le_of_ble_eq_true rfl) ⟨Nat.zero_le _, Nat.zero_le _⟩ dX5_readNumber_10) (fun r2 pr2 => ?_)
        have pr2 : (0 ≤ r2.toInt ∧ r2.toInt ≤ 1) ∧ (r2.toInt = 0 ∨ ∀ y : Int32, tSl G H h0 4 9 (.int y) → y.toInt ≤ 119) := pr2
        obtain ⟨gp3, lgp3, ugp3, fgp3⟩ := tc_look hG t0 fiw_X5_46
        have fgp3 := fgp3 _ rfl
        have qr2 : r2.toInt = 0 ∨ gp3.toInt ≤ 119 := pr2.2.elim Or.inl (fun h => Or.inr (h _ fgp3))
        refine lv_if_eq (tgt := 45) hx hb dX5_readNumber_13 (by decide) (fun c4 => ?_) (fun c4 => ?_)
        · skip
          have ic4 := tn_eq rfl kI_0 c4
          refine lv_iload_n hx hb dX5_readNumber_45 rfl (lv_at hl 1 rfl) ?_
          exact tc_retH E hr hlk hG rfl ⟨(show (0 : Int) ≤ 0 by omega), hc5⟩ dX5_readNumber_46
        · skip
          have ic4 := tn_ne rfl kI_0 c4
          refine lv_bipush (v := 10) hx hb dX5_readNumber_16 (by decide) ?_
          refine lv_iload_n hx hb dX5_readNumber_18 rfl (lv_at hl 1 rfl) ?_
          refine lv_imul hx hb dX5_readNumber_19 ?_
          refine lv_topi (fun z5 ez5 => ?_)
          refine lv_aload_n hx hb dX5_readNumber_20 rfl (lv_at hl 0 rfl) ?_
          refine tc_callpH (tc_runV (As := []) (rest := [.int z5]) E hSt hG (c_X5_next l G τ h0 t0) t0 rv_22 kv_X5_next ml_X5_64 ⟨rfl, rfl, Nat.le_of_ble_eq_true rfl, Nat.le_of_ble_eq_true rfl⟩ rfl hl.1 rfl (Nat.le_of_ble_eq_true rfl) ⟨Nat.zero_le _, Nat.zero_le _⟩ dX5_readNumber_21) (fun r6 pr6 => ?_)
          have pr6 : (0 ≤ r6.toInt ∧ r6.toInt ≤ 65535) ∧ (r6.toInt = 0 ∨ ∀ y : Int32, tSl G H h0 4 9 (.int y) → y.toInt ≤ 119) := pr6
          have qr6 : r6.toInt = 0 ∨ gp3.toInt ≤ 119 := pr6.2.elim Or.inl (fun h => Or.inr (h _ fgp3))
          refine lv_iadd hx hb dX5_readNumber_24 ?_
          refine lv_topi (fun z7 ez7 => ?_)
          refine lv_bipush (v := 48) hx hb dX5_readNumber_25 (by decide) ?_
          refine lv_isub hx hb dX5_readNumber_27 ?_
          refine lv_topi (fun z8 ez8 => ?_)
          refine lv_istore_n (lv' := [(1, .int z8), (0, .ref h0), (2, .int v2)]) hx hb dX5_readNumber_28 rfl hl (by decide) rfl (fun ls hl => ?_)
          refine lv_aload_n hx hb dX5_readNumber_29 rfl (lv_at hl 1 rfl) ?_
          refine lv_dup hx hb dX5_readNumber_30 rfl ?_
          refine tc_seen E ff_X5_46 fgp3 dX5_readNumber_31 ?_
          refine lv_iconst (v := 1) hx hb dX5_readNumber_34 (by decide) ?_
          refine lv_iadd hx hb dX5_readNumber_35 ?_
          refine lv_topi (fun z9 ez9 => ?_)
          have tz9 := tn_add ez9 rfl kI_1 (by omega) (by omega)
          refine tc_putS E hG t0 fpw_X5_46 (by omega) (by omega) rfl rfl dX5_readNumber_36 (fun H locs hG oq11 sl10 => ?_)
          have fv12 := (sl10 _ rfl).2 _ _ _ _ ff_X5_49 (by decide) hc5
          have fv13 := (sl10 _ rfl).1
          obtain ⟨z14, ez14⟩ : ∃ y : Int32, y = v2 + (1) := ⟨_, rfl⟩
          refine lv_iinc (v := z14) (lv' := [(2, .int z14), (1, .int z8), (0, .ref h0)]) hx hb dX5_readNumber_39 hl (k := 2) rfl (by rw [ez14]; rfl) (by decide) rfl (fun ls hl => ?_)
          have tz14 := tn_add ez14 rfl kI_1 (by omega) (by omega)
          refine lv_goto (tgt := 4) hx hb dX5_readNumber_42 (by decide) ?_
          exact ih4 H locs ls z8 z14 hG (lv_sub hl [2, 1, 0] rfl) (by omega) (by omega) fv12 (by omega)
  refine lv_iconst (v := 0) hx hb dX5_readNumber_0 (by decide) ?_
  refine lv_istore_n (lv' := [(1, .int 0), (0, .ref h0)]) hx hb dX5_readNumber_1 rfl hl (by decide) rfl (fun ls hl => ?_)
  refine lv_iconst (v := 0) hx hb dX5_readNumber_2 (by decide) ?_
  refine lv_istore_n (lv' := [(2, .int 0), (1, .int 0), (0, .ref h0)]) hx hb dX5_readNumber_3 rfl hl (by decide) rfl (fun ls hl => ?_)
  exact J4 ((2 - (0 : Int32).toInt).toNat + 1) H locs ls (0 : Int32) (0 : Int32) hG (lv_sub hl [2, 1, 0] rfl) (by decide) (by decide) hΦ (Nat.lt_succ_self _)

set_option maxHeartbeats 4000000 in
set_option maxRecDepth 100000 in
theorem c_X5_readShare (l : Launch) (G : tG) (τ : Nat → Nat) (h0 : Nat) (x1 : Int32) (t0 : τ h0 = 22) (l1 : 0 ≤ x1.toInt) (u1 : x1.toInt ≤ 23) (gn : Int32) (lgn : 0 ≤ gn.toInt) (ugn : gn.toInt ≤ 24) : Met l yX5_readShare (.code yX5_readShare cX5_readShare 2 (some .boolean) :: tWS) (tRm 2 41) (va_Pc [.ref h0, .int x1] (tPreH G τ (fun H => tSl G H h0 4 5 (.int gn)))) (tQiH G τ (fun r H => (0 ≤ r.toInt ∧ r.toInt ≤ 1) ∧ tSl G H h0 4 5 (.int gn))) 0 0 (tA τ) := by
  refine tc_metH (by decide) (Nat.le_of_ble_eq_true rfl) ?_
  intro p e s m below meth c E hSt hr hlk hG hΦ ls hl
  have hl : lv_has ls 2 [(0, .ref h0), (1, .int x1)] := hl
  have hx := E.1
  have hb := E.2.1
  obtain ⟨H, eH⟩ : ∃ H, H = s.heap := ⟨_, rfl⟩
  obtain ⟨locs, eL⟩ : ∃ x : List Loc, x = [] := ⟨_, rfl⟩
  have hG : tGH G τ s H locs := by rw [eH, eL]; exact hG
  have hΦ : tSl G H h0 4 5 (.int gn) := by rw [eH]; exact hΦ
  suffices hW : W p l e (tRm 2 41) s m ([.ref h0, .int x1] : List Value).toArray below meth c H locs 0 0 (MQ below (tQiH G τ (fun r H => (0 ≤ r.toInt ∧ r.toInt ≤ 1) ∧ tSl G H h0 4 5 (.int gn))) ([.ref h0, .int x1] : List Value).toArray s 0 0 (tA τ)) (F0 m 0 ls []) by subst eH; subst eL; exact hW
  clear eH eL
  refine lv_aload_n hx hb dX5_readShare_0 rfl (lv_at hl 0 rfl) ?_
  refine tc_getrS E hG t0 frw_X5_18 dX5_readShare_1 (fun oa1 hoa1 fv2 => ?_)
  have fv2 := fv2 _ rfl
  refine lv_iload_n hx hb dX5_readShare_4 rfl (lv_at hl 1 rfl) ?_
  refine lv_iconst (v := 0) hx hb dX5_readShare_5 (by decide) ?_
  refine tc_iastS E hG hoa1 ta_15 (t_in (by omega) (by omega)) (t_any1 _) (t_any2 _) dX5_readShare_6 (fun H locs hG oq3 => ?_)
  have fv4 := tSl.kept hΦ (oq3 _ (t_apart t0 hoa1 (by decide)))
  have fv5 := tSl.kept fv2 (oq3 _ (t_apart t0 hoa1 (by decide)))
  refine lv_aload_n hx hb dX5_readShare_7 rfl (lv_at hl 0 rfl) ?_
  refine lv_bipush (v := 42) hx hb dX5_readShare_8 (by decide) ?_
  refine tc_calliH hG (tc_runVH (As := [.int 42]) (rest := []) E hSt hG (c_X5_passed l G τ h0 (42 : Int32) t0 (by decide) (by decide) gn (by omega) (by omega)) (fv4) t0 rv_22 kv_X5_passed ml_X5_68 ⟨rfl, rfl, Nat.le_of_ble_eq_true rfl, Nat.le_of_ble_eq_true rfl⟩ rfl hl.1 rfl (Nat.le_of_ble_eq_true rfl) ⟨Nat.zero_le _, Nat.zero_le _⟩ dX5_readShare_10) (fun r6 H locs pr6 hG => ?_)
  have pr6 : (0 ≤ r6.toInt ∧ r6.toInt ≤ 1) ∧ tSl G H h0 4 5 (.int gn) := pr6
  have fv7 := pr6.2
  refine lv_if_ne (tgt := 18) hx hb dX5_readShare_13 (by decide) (fun c8 => ?_) (fun c8 => ?_)
  · skip
    have ic8 := tn_ne rfl kI_0 c8
    refine lv_aload_n hx hb dX5_readShare_18 rfl (lv_at hl 0 rfl) ?_
    refine tc_callpH (tc_runV (As := []) (rest := []) E hSt hG (c_X5_nextIsFigure l G τ h0 t0) t0 rv_22 kv_X5_nextIsFigure ml_X5_115 ⟨rfl, rfl, Nat.le_of_ble_eq_true rfl, Nat.le_of_ble_eq_true rfl⟩ rfl hl.1 rfl (Nat.le_of_ble_eq_true rfl) ⟨Nat.zero_le _, Nat.zero_le _⟩ dX5_readShare_19) (fun r9 pr9 => ?_)
    have pr9 : (0 ≤ r9.toInt ∧ r9.toInt ≤ 1) ∧ (r9.toInt = 0 ∨ ∀ y : Int32, tSl G H h0 4 9 (.int y) → y.toInt ≤ 119) := pr9
    obtain ⟨gp10, lgp10, ugp10, fgp10⟩ := tc_look hG t0 fiw_X5_46
    have fgp10 := fgp10 _ rfl
    have qr9 : r9.toInt = 0 ∨ gp10.toInt ≤ 119 := pr9.2.elim Or.inl (fun h => Or.inr (h _ fgp10))
    refine lv_if_ne (tgt := 27) hx hb dX5_readShare_22 (by decide) (fun c11 => ?_) (fun c11 => ?_)
    · skip
      have ic11 := tn_ne rfl kI_0 c11
      refine lv_aload_n hx hb dX5_readShare_27 rfl (lv_at hl 0 rfl) ?_
      refine tc_getrS E hG t0 frw_X5_18 dX5_readShare_28 (fun oa12 hoa12 fv13 => ?_)
      have fv13 := fv13 _ rfl
      refine lv_iload_n hx hb dX5_readShare_31 rfl (lv_at hl 1 rfl) ?_
      refine lv_aload_n hx hb dX5_readShare_32 rfl (lv_at hl 0 rfl) ?_
      refine tc_callpH (tc_runV (As := []) (rest := [.int x1, .ref oa12]) E hSt hG (c_X5_next l G τ h0 t0) t0 rv_22 kv_X5_next ml_X5_64 ⟨rfl, rfl, Nat.le_of_ble_eq_true rfl, Nat.le_of_ble_eq_true rfl⟩ rfl hl.1 rfl (Nat.le_of_ble_eq_true rfl) ⟨Nat.zero_le _, Nat.zero_le _⟩ dX5_readShare_33) (fun r14 pr14 => ?_)
      have pr14 : (0 ≤ r14.toInt ∧ r14.toInt ≤ 65535) ∧ (r14.toInt = 0 ∨ ∀ y : Int32, tSl G H h0 4 9 (.int y) → y.toInt ≤ 119) := pr14
      have qr14 : r14.toInt = 0 ∨ gp10.toInt ≤ 119 := pr14.2.elim Or.inl (fun h => Or.inr (h _ fgp10))
      refine lv_bipush (v := 48) hx hb dX5_readShare_36 (by decide) ?_
      refine lv_isub hx hb dX5_readShare_38 ?_
      refine lv_topi (fun z15 ez15 => ?_)
      have tz15 := tn_sub ez15 rfl kI_48 (by omega) (by omega)
      refine tc_iastS E hG hoa12 ta_15 (t_in (by omega) (by omega)) (t_any1 _) (t_any2 _) dX5_readShare_39 (fun H locs hG oq16 => ?_)
      have fv17 := tSl.kept fv7 (oq16 _ (t_apart t0 hoa12 (by decide)))
      have fv18 := tSl.kept fgp10 (oq16 _ (t_apart t0 hoa12 (by decide)))
      have fv19 := tSl.kept fv13 (oq16 _ (t_apart t0 hoa12 (by decide)))
      refine lv_aload_n hx hb dX5_readShare_40 rfl (lv_at hl 0 rfl) ?_
      refine lv_dup hx hb dX5_readShare_41 rfl ?_
      refine tc_seen E ff_X5_46 fv18 dX5_readShare_42 ?_
      refine lv_iconst (v := 1) hx hb dX5_readShare_45 (by decide) ?_
      refine lv_iadd hx hb dX5_readShare_46 ?_
      refine lv_topi (fun z20 ez20 => ?_)
      have tz20 := tn_add ez20 rfl kI_1 (by omega) (by omega)
      refine tc_putS E hG t0 fpw_X5_46 (by omega) (by omega) rfl rfl dX5_readShare_47 (fun H locs hG oq22 sl21 => ?_)
      have fv23 := (sl21 _ rfl).2 _ _ _ _ ff_X5_49 (by decide) fv17
      have fv24 := (sl21 _ rfl).2 _ _ _ _ ff_X5_18 (by decide) fv19
      have fv25 := (sl21 _ rfl).1
      refine lv_iconst (v := 1) hx hb dX5_readShare_50 (by decide) ?_
      exact tc_retH E hr hlk hG (t_nz (by decide) (by decide)).1 ⟨(show 0 ≤ (1 : Int32).toInt ∧ (1 : Int32).toInt ≤ 1 by have kk := kI_1; omega), fv23⟩ dX5_readShare_51
    · skip
      have ic11 := tn_eq rfl kI_0 c11
      refine lv_iconst (v := 0) hx hb dX5_readShare_25 (by decide) ?_
      exact tc_retH E hr hlk hG (t_nz (by decide) (by decide)).1 ⟨(show 0 ≤ (0 : Int32).toInt ∧ (0 : Int32).toInt ≤ 1 by have kk := kI_0; omega), fv7⟩ dX5_readShare_26
  · skip
    have ic8 := tn_eq rfl kI_0 c8
    refine lv_iconst (v := 1) hx hb dX5_readShare_16 (by decide) ?_
    exact tc_retH E hr hlk hG (t_nz (by decide) (by decide)).1 ⟨(show 0 ≤ (1 : Int32).toInt ∧ (1 : Int32).toInt ≤ 1 by have kk := kI_1; omega), fv7⟩ dX5_readShare_17

set_option maxHeartbeats 4000000 in
set_option maxRecDepth 100000 in
theorem c_X5_lettersLike (l : Launch) (G : tG) (τ : Nat → Nat) (h0 : Nat) (k1 : Nat) (t0 : τ h0 = 22) (hk1 : k1 < 10) : Met l yX5_lettersLike (.code yX5_lettersLike cX5_lettersLike 4 (some .int) :: tWS) (tRm 4 85) (va_Pc [.ref h0, .ref (G.2.2.2.1 k1)] (tPre G τ)) (tQpH (fun r H => (0 ≤ r.toInt ∧ r.toInt ≤ 6) ∧ (∀ y : Int32, tSl G H h0 4 9 (.int y) → y.toInt + r.toInt ≤ 120))) 0 0 tNo := by
  refine tc_met (by decide) (Nat.le_of_ble_eq_true rfl) ?_
  intro p e s m below meth c E hSt hr hlk hG ls hl
  have hl : lv_has ls 4 [(0, .ref h0), (1, .ref (G.2.2.2.1 k1))] := hl
  have hx := E.1
  have hb := E.2.1
  obtain ⟨H, eH⟩ : ∃ H, H = s.heap := ⟨_, rfl⟩
  obtain ⟨locs, eL⟩ : ∃ x : List Loc, x = [] := ⟨_, rfl⟩
  have hG : tGH G τ s H locs := by rw [eH, eL]; exact hG
  suffices hW : W p l e (tRm 4 85) s m ([.ref h0, .ref (G.2.2.2.1 k1)] : List Value).toArray below meth c H locs 0 0 (MQ below (tQpH (fun r H => (0 ≤ r.toInt ∧ r.toInt ≤ 6) ∧ (∀ y : Int32, tSl G H h0 4 9 (.int y) → y.toInt + r.toInt ≤ 120))) ([.ref h0, .ref (G.2.2.2.1 k1)] : List Value).toArray s 0 0 tNo) (F0 m 0 ls []) by subst eH; subst eL; exact hW
  obtain ⟨g9, lg9, ug9, fg9⟩ := tc_look hG t0 fiw_X5_46
  have fg9 := fg9 _ rfl
  obtain ⟨g7, lg7, ug7, fg7⟩ := tc_look hG t0 fiw_X5_39
  have fg7 := fg7 _ rfl
  have J19 : ∀ (n19 : Nat) (ls : Array Slot) (v2 : Int32) (v3 : Int32), lv_has ls 4 [(0, .ref h0), (1, .ref (G.2.2.2.1 k1)), (2, .int v2), (3, .int v3)] → -120 ≤ v2.toInt → v2.toInt ≤ 6 → 0 ≤ v3.toInt → v3.toInt ≤ 6 → v2.toInt ≤ g7.toInt - g9.toInt ∧ v2.toInt ≤ ((tXl.getD k1 0 : Nat) : Int) → (6 - v3.toInt).toNat < n19 → W p l e (tRm 4 85) s m ([.ref h0, .ref (G.2.2.2.1 k1)] : List Value).toArray below meth c H locs 0 0 (MQ below (tQpH (fun r H => (0 ≤ r.toInt ∧ r.toInt ≤ 6) ∧ (∀ y : Int32, tSl G H h0 4 9 (.int y) → y.toInt + r.toInt ≤ 120))) ([.ref h0, .ref (G.2.2.2.1 k1)] : List Value).toArray s 0 0 tNo) (F0 m 19 ls []) := by
    intro n19
    induction n19 with
    | zero => intro ls v2 v3 hl b2 c2 b3 c3 hex19 hn19; exact absurd hn19 (Nat.not_lt_zero _)
    | succ n19 ih19 =>
      intro ls v2 v3 hl b2 c2 b3 c3 hex19 hn19
      refine lv_iload_n hx hb dX5_lettersLike_19 rfl (lv_at hl 3 rfl) ?_
      refine lv_iload_n hx hb dX5_lettersLike_20 rfl (lv_at hl 2 rfl) ?_
      refine lv_icmp_ge (tgt := 51) hx hb dX5_lettersLike_21 (by decide) (fun c1 => ?_) (fun c1 => ?_)
      · skip
        have ic1 := tn_le rfl rfl c1
        refine lv_iconst (v := 0) hx hb dX5_lettersLike_51 (by decide) ?_
        refine lv_iload_n hx hb dX5_lettersLike_52 rfl (lv_at hl 2 rfl) ?_
        refine tc_max (rest := []) E hl.1 ml_X5_95 kn_max1 kn_math kn_max2 ⟨Nat.le_of_ble_eq_true rfl, Nat.le_of_ble_eq_true rfl⟩ ⟨Nat.zero_le _, Nat.zero_le _⟩ dX5_lettersLike_53 (fun z2 ez2 => ?_)
        have tz2 := tn_max ez2
        have kk3_ := kI_0
        exact tc_pretH E hr hlk eH eL rfl ⟨⟨by omega, by omega⟩, fun y hy => by have e := tSl.uniqI hy fg9; subst e; omega⟩ dX5_lettersLike_56
      · skip
        have ic1 := tn_nle rfl rfl c1
        refine lv_aload_n hx hb dX5_lettersLike_24 rfl (lv_at hl 0 rfl) ?_
        refine tc_getrS E hG t0 frw_X5_29 dX5_lettersLike_25 (fun oa4 hoa4 fv5 => ?_)
        have fv5 := fv5 _ rfl
        refine lv_aload_n hx hb dX5_lettersLike_28 rfl (lv_at hl 0 rfl) ?_
        refine tc_seen E ff_X5_46 fg9 dX5_lettersLike_29 ?_
        refine lv_iload_n hx hb dX5_lettersLike_32 rfl (lv_at hl 3 rfl) ?_
        refine lv_iadd hx hb dX5_lettersLike_33 ?_
        refine lv_topi (fun z6 ez6 => ?_)
        have tz6 := tn_add ez6 rfl rfl (by omega) (by omega)
        refine tc_cald E hG hoa4 ta_18 (t_in (by omega) (by omega)) dX5_lettersLike_34 (fun z7 lz7 uz7 => ?_)
        refine lv_aload_n hx hb dX5_lettersLike_35 rfl (lv_at hl 1 rfl) ?_
        refine lv_iload_n hx hb dX5_lettersLike_36 rfl (lv_at hl 3 rfl) ?_
        refine tc_callp (ts_runV (As := [.int v3]) (rest := [.int z7]) E hSt hG hk1 (c_J0_charAt_5068e_p l G τ k1 v3 hk1 (by omega) (by omega) (by omega)) rfl kv_J0_charAt_5068e ml_X5_102 ⟨rfl, rfl, Nat.le_of_ble_eq_true rfl, Nat.le_of_ble_eq_true rfl⟩ rfl hl.1 rfl (Nat.le_of_ble_eq_true rfl) ⟨Nat.zero_le _, Nat.zero_le _⟩ dX5_lettersLike_37) (fun r8 pr8 => ?_)
        have pr8 : 0 ≤ r8.toInt ∧ r8.toInt ≤ 65535 := pr8
        refine lv_icmp_eq (tgt := 45) hx hb dX5_lettersLike_40 (by decide) (fun c9 => ?_) (fun c9 => ?_)
        · skip
          have ic9 := tn_eq rfl rfl c9
          obtain ⟨z10, ez10⟩ : ∃ y : Int32, y = v3 + (1) := ⟨_, rfl⟩
          refine lv_iinc (v := z10) (lv' := [(3, .int z10), (0, .ref h0), (1, .ref (G.2.2.2.1 k1)), (2, .int v2)]) hx hb dX5_lettersLike_45 hl (k := 3) rfl (by rw [ez10]; rfl) (by decide) rfl (fun ls hl => ?_)
          have tz10 := tn_add ez10 rfl kI_1 (by omega) (by omega)
          refine lv_goto (tgt := 19) hx hb dX5_lettersLike_48 (by decide) ?_
          exact ih19 ls v2 z10 (lv_sub hl [1, 2, 3, 0] rfl) (by omega) (by omega) (by omega) (by omega) (by omega) (by omega)
        · skip
          have ic9 := tn_ne rfl rfl c9
          refine lv_iload_n hx hb dX5_lettersLike_43 rfl (lv_at hl 3 rfl) ?_
          exact tc_pretH E hr hlk eH eL rfl ⟨⟨by omega, by omega⟩, fun y hy => by have e := tSl.uniqI hy fg9; subst e; omega⟩ dX5_lettersLike_44
  refine lv_aload_n hx hb dX5_lettersLike_0 rfl (lv_at hl 1 rfl) ?_
  refine tc_callp (ts_runV (As := []) (rest := []) E hSt hG hk1 (c_J0_length_8abf5 l G τ k1 hk1) rfl kv_J0_length_8abf5 ml_X5_98 ⟨rfl, rfl, Nat.le_of_ble_eq_true rfl, Nat.le_of_ble_eq_true rfl⟩ rfl hl.1 rfl (Nat.le_of_ble_eq_true rfl) ⟨Nat.zero_le _, Nat.zero_le _⟩ dX5_lettersLike_1) (fun r11 pr11 => ?_)
  have pr11 : r11.toInt = ((tXl.getD k1 0 : Nat) : Int) ∧ 0 ≤ r11.toInt ∧ r11.toInt ≤ 6 := pr11
  refine lv_aload_n hx hb dX5_lettersLike_4 rfl (lv_at hl 0 rfl) ?_
  refine tc_seen E ff_X5_39 fg7 dX5_lettersLike_5 ?_
  refine lv_aload_n hx hb dX5_lettersLike_8 rfl (lv_at hl 0 rfl) ?_
  refine tc_seen E ff_X5_46 fg9 dX5_lettersLike_9 ?_
  refine lv_isub hx hb dX5_lettersLike_12 ?_
  refine lv_topi (fun z12 ez12 => ?_)
  have tz12 := tn_sub ez12 rfl rfl (by omega) (by omega)
  refine tc_min (rest := []) E hl.1 ml_X5_33 kn_min1 kn_math kn_min2 ⟨Nat.le_of_ble_eq_true rfl, Nat.le_of_ble_eq_true rfl⟩ ⟨Nat.zero_le _, Nat.zero_le _⟩ dX5_lettersLike_13 (fun z13 ez13 => ?_)
  have tz13 := tn_min ez13
  refine lv_istore_n (lv' := [(2, .int z13), (0, .ref h0), (1, .ref (G.2.2.2.1 k1))]) hx hb dX5_lettersLike_16 rfl hl (by decide) rfl (fun ls hl => ?_)
  refine lv_iconst (v := 0) hx hb dX5_lettersLike_17 (by decide) ?_
  refine lv_istore_n (lv' := [(3, .int 0), (2, .int z13), (0, .ref h0), (1, .ref (G.2.2.2.1 k1))]) hx hb dX5_lettersLike_18 rfl hl (by decide) rfl (fun ls hl => ?_)
  exact J19 ((6 - (0 : Int32).toInt).toNat + 1) ls z13 (0 : Int32) (lv_sub hl [2, 3, 1, 0] rfl) (by omega) (by omega) (by decide) (by decide) (by omega) (Nat.lt_succ_self _)

set_option maxHeartbeats 4000000 in
set_option maxRecDepth 100000 in
theorem c_X5_readName (l : Launch) (G : tG) (τ : Nat → Nat) (h0 : Nat) (t0 : τ h0 = 22) (gn : Int32) (lgn : 0 ≤ gn.toInt) (ugn : gn.toInt ≤ 24) : Met l yX5_readName (.code yX5_readName cX5_readName 5 (some .int) :: tWS) (tRm 5 108) (va_Pc [.ref h0] (tPreH G τ (fun H => tSl G H h0 4 5 (.int gn)))) (tQiH G τ (fun r H => (-1 ≤ r.toInt ∧ r.toInt ≤ 9) ∧ tSl G H h0 4 5 (.int gn))) 0 0 (tA τ) := by
  refine tc_metH (by decide) (Nat.le_of_ble_eq_true rfl) ?_
  intro p e s m below meth c E hSt hr hlk hG hΦ ls hl
  have hl : lv_has ls 5 [(0, .ref h0)] := hl
  have hx := E.1
  have hb := E.2.1
  obtain ⟨H, eH⟩ : ∃ H, H = s.heap := ⟨_, rfl⟩
  obtain ⟨locs, eL⟩ : ∃ x : List Loc, x = [] := ⟨_, rfl⟩
  have hG : tGH G τ s H locs := by rw [eH, eL]; exact hG
  have hΦ : tSl G H h0 4 5 (.int gn) := by rw [eH]; exact hΦ
  suffices hW : W p l e (tRm 5 108) s m ([.ref h0] : List Value).toArray below meth c H locs 0 0 (MQ below (tQiH G τ (fun r H => (-1 ≤ r.toInt ∧ r.toInt ≤ 9) ∧ tSl G H h0 4 5 (.int gn))) ([.ref h0] : List Value).toArray s 0 0 (tA τ)) (F0 m 0 ls []) by subst eH; subst eL; exact hW
  clear eH eL
  obtain ⟨g9, lg9, ug9, fg9⟩ := tc_look hG t0 fiw_X5_46
  have fg9 := fg9 _ rfl
  have J4 : ∀ (n4 : Nat) (ls : Array Slot) (v1 : Int32) (v2 : Int32), lv_has ls 5 [(0, .ref h0), (1, .int v1), (2, .int v2)] → 0 ≤ v1.toInt → v1.toInt ≤ 6 → 0 ≤ v2.toInt → v2.toInt ≤ 10 → g9.toInt + v1.toInt ≤ 120 → (10 - v2.toInt).toNat < n4 → W p l e (tRm 5 108) s m ([.ref h0] : List Value).toArray below meth c H locs 0 0 (MQ below (tQiH G τ (fun r H => (-1 ≤ r.toInt ∧ r.toInt ≤ 9) ∧ tSl G H h0 4 5 (.int gn))) ([.ref h0] : List Value).toArray s 0 0 (tA τ)) (F0 m 4 ls []) := by
    intro n4
    induction n4 with
    | zero => intro ls v1 v2 hl b1 c1 b2 c2 hex4 hn4; exact absurd hn4 (Nat.not_lt_zero _)
    | succ n4 ih4 =>
      intro ls v1 v2 hl b1 c1 b2 c2 hex4 hn4
      refine lv_iload_n hx hb dX5_readName_4 rfl (lv_at hl 2 rfl) ?_
      refine lv_bipush (v := 10) hx hb dX5_readName_5 (by decide) ?_
      refine lv_icmp_ge (tgt := 57) hx hb dX5_readName_7 (by decide) (fun c1 => ?_) (fun c1 => ?_)
      · skip
        have ic1 := tn_le kI_10 rfl c1
        refine lv_aload_n hx hb dX5_readName_57 rfl (lv_at hl 0 rfl) ?_
        refine lv_dup hx hb dX5_readName_58 rfl ?_
        refine tc_seen E ff_X5_46 fg9 dX5_readName_59 ?_
        refine lv_iload_n hx hb dX5_readName_62 rfl (lv_at hl 1 rfl) ?_
        refine lv_iadd hx hb dX5_readName_63 ?_
        refine lv_topi (fun z2 ez2 => ?_)
        have tz2 := tn_add ez2 rfl rfl (by omega) (by omega)
        refine tc_putS E hG t0 fpw_X5_46 (by omega) (by omega) rfl rfl dX5_readName_64 (fun H locs hG oq4 sl3 => ?_)
        have fv5 := (sl3 _ rfl).2 _ _ _ _ ff_X5_49 (by decide) hΦ
        have fv6 := (sl3 _ rfl).1
        refine lv_iconst (v := -1) hx hb dX5_readName_67 (by decide) ?_
        exact tc_retH E hr hlk hG rfl ⟨(show -1 ≤ (-1 : Int32).toInt ∧ (-1 : Int32).toInt ≤ 9 by have kk := kI_m1; omega), fv5⟩ dX5_readName_68
      · skip
        have ic1 := tn_nle kI_10 rfl c1
        refine lv_iload_n hx hb dX5_readName_10 rfl (lv_at hl 2 rfl) ?_
        refine tc_callpr (tc_runS (As := [.int v2]) (rest := []) E hSt hG (c_X1_nameOf l G τ v2) ks_X1_nameOf ml_X5_87 ⟨rfl, rfl, Nat.le_of_ble_eq_true rfl, Nat.le_of_ble_eq_true rfl⟩ rfl hl.1 rfl (Nat.le_of_ble_eq_true rfl) ⟨Nat.zero_le _, Nat.zero_le _⟩ dX5_readName_11) (fun r7 pr7 => ?_)
        obtain ⟨kr7, hkr7, rfl⟩ := pr7
        refine lv_astore_n (lv' := [(3, .ref (G.2.2.2.1 kr7)), (0, .ref h0), (1, .int v1), (2, .int v2)]) hx hb dX5_readName_14 rfl hl (by decide) rfl (fun ls hl => ?_)
        refine lv_aload_n hx hb dX5_readName_15 rfl (lv_at hl 1 rfl) ?_
        refine lv_aload_n hx hb dX5_readName_16 rfl (lv_at hl 0 rfl) ?_
        refine tc_callpH (tc_runV (As := [.ref (G.2.2.2.1 kr7)]) (rest := []) E hSt hG (c_X5_lettersLike l G τ h0 kr7 t0 hkr7) t0 rv_22 kv_X5_lettersLike ml_X5_91 ⟨rfl, rfl, Nat.le_of_ble_eq_true rfl, Nat.le_of_ble_eq_true rfl⟩ rfl hl.1 rfl (Nat.le_of_ble_eq_true rfl) ⟨Nat.zero_le _, Nat.zero_le _⟩ dX5_readName_17) (fun r8 pr8 => ?_)
        have pr8 : (0 ≤ r8.toInt ∧ r8.toInt ≤ 6) ∧ (∀ y : Int32, tSl G H h0 4 9 (.int y) → y.toInt + r8.toInt ≤ 120) := pr8
        have qr8 := pr8.2 _ fg9
        refine lv_istore (lv' := [(4, .int r8), (3, .ref (G.2.2.2.1 kr7)), (0, .ref h0), (1, .int v1), (2, .int v2)]) hx hb dX5_readName_20 hl (by decide) rfl (fun ls hl => ?_)
        refine lv_iload_n hx hb dX5_readName_22 rfl (lv_at hl 3 rfl) ?_
        refine lv_iload hx hb dX5_readName_23 (lv_at hl 0 rfl) ?_
        refine tc_max (rest := []) E hl.1 ml_X5_95 kn_max1 kn_math kn_max2 ⟨Nat.le_of_ble_eq_true rfl, Nat.le_of_ble_eq_true rfl⟩ ⟨Nat.zero_le _, Nat.zero_le _⟩ dX5_readName_25 (fun z9 ez9 => ?_)
        have tz9 := tn_max ez9
        refine lv_istore_n (lv' := [(1, .int z9), (4, .int r8), (3, .ref (G.2.2.2.1 kr7)), (0, .ref h0), (2, .int v2)]) hx hb dX5_readName_28 rfl hl (by decide) rfl (fun ls hl => ?_)
        refine lv_iload hx hb dX5_readName_29 (lv_at hl 1 rfl) ?_
        refine lv_aload_n hx hb dX5_readName_31 rfl (lv_at hl 2 rfl) ?_
        refine tc_callp (ts_runV (As := []) (rest := [.int r8]) E hSt hG hkr7 (c_J0_length_8abf5 l G τ kr7 hkr7) rfl kv_J0_length_8abf5 ml_X5_98 ⟨rfl, rfl, Nat.le_of_ble_eq_true rfl, Nat.le_of_ble_eq_true rfl⟩ rfl hl.1 rfl (Nat.le_of_ble_eq_true rfl) ⟨Nat.zero_le _, Nat.zero_le _⟩ dX5_readName_32) (fun r10 pr10 => ?_)
        have pr10 : r10.toInt = ((tXl.getD kr7 0 : Nat) : Int) ∧ 0 ≤ r10.toInt ∧ r10.toInt ≤ 6 := pr10
        refine lv_icmp_ne (tgt := 51) hx hb dX5_readName_35 (by decide) (fun c11 => ?_) (fun c11 => ?_)
        · skip
          have ic11 := tn_ne rfl rfl c11
          obtain ⟨z12, ez12⟩ : ∃ y : Int32, y = v2 + (1) := ⟨_, rfl⟩
          refine lv_iinc (v := z12) (lv' := [(2, .int z12), (1, .int z9), (4, .int r8), (3, .ref (G.2.2.2.1 kr7)), (0, .ref h0)]) hx hb dX5_readName_51 hl (k := 4) rfl (by rw [ez12]; rfl) (by decide) rfl (fun ls hl => ?_)
          have tz12 := tn_add ez12 rfl kI_1 (by omega) (by omega)
          refine lv_goto (tgt := 4) hx hb dX5_readName_54 (by decide) ?_
          exact ih4 ls z9 z12 (lv_sub hl [4, 1, 0] rfl) (by omega) (by omega) (by omega) (by omega) (by have kk := kI_0; omega) (by omega)
        · skip
          have ic11 := tn_eq rfl rfl c11
          refine lv_aload_n hx hb dX5_readName_38 rfl (lv_at hl 3 rfl) ?_
          refine lv_dup hx hb dX5_readName_39 rfl ?_
          refine tc_seen E ff_X5_46 fg9 dX5_readName_40 ?_
          refine lv_iload hx hb dX5_readName_43 (lv_at hl 1 rfl) ?_
          refine lv_iadd hx hb dX5_readName_45 ?_
          refine lv_topi (fun z13 ez13 => ?_)
          have tz13 := tn_add ez13 rfl rfl (by omega) (by omega)
          refine tc_putS E hG t0 fpw_X5_46 (by omega) (by omega) rfl rfl dX5_readName_46 (fun H locs hG oq15 sl14 => ?_)
          have fv16 := (sl14 _ rfl).2 _ _ _ _ ff_X5_49 (by decide) hΦ
          have fv17 := (sl14 _ rfl).1
          refine lv_iload_n hx hb dX5_readName_49 rfl (lv_at hl 4 rfl) ?_
          exact tc_retH E hr hlk hG rfl ⟨(show -1 ≤ v2.toInt ∧ v2.toInt ≤ 9 by omega), fv16⟩ dX5_readName_50
  refine lv_iconst (v := 0) hx hb dX5_readName_0 (by decide) ?_
  refine lv_istore_n (lv' := [(1, .int 0), (0, .ref h0)]) hx hb dX5_readName_1 rfl hl (by decide) rfl (fun ls hl => ?_)
  refine lv_iconst (v := 0) hx hb dX5_readName_2 (by decide) ?_
  refine lv_istore_n (lv' := [(2, .int 0), (1, .int 0), (0, .ref h0)]) hx hb dX5_readName_3 rfl hl (by decide) rfl (fun ls hl => ?_)
  exact J4 ((10 - (0 : Int32).toInt).toNat + 1) ls (0 : Int32) (0 : Int32) (lv_sub hl [2, 1, 0] rfl) (by decide) (by decide) (by decide) (by decide) (by have kk := kI_0; omega) (Nat.lt_succ_self _)

set_option maxHeartbeats 4000000 in
set_option maxRecDepth 100000 in
theorem c_X5_readNumbers (l : Launch) (G : tG) (τ : Nat → Nat) (h0 : Nat) (x1 : Int32) (t0 : τ h0 = 22) (l1 : 0 ≤ x1.toInt) (u1 : x1.toInt ≤ 23) (gn : Int32) (lgn : 0 ≤ gn.toInt) (ugn : gn.toInt ≤ 24) : Met l yX5_readNumbers (.code yX5_readNumbers cX5_readNumbers 6 (some .boolean) :: tWS) (tRm 3 63) (va_Pc [.ref h0, .int x1] (tPreH G τ (fun H => tSl G H h0 4 5 (.int gn)))) (tQiH G τ (fun r H => (0 ≤ r.toInt ∧ r.toInt ≤ 1) ∧ tSl G H h0 4 5 (.int gn))) 0 0 (tA τ) := by
  refine tc_metH (by decide) (Nat.le_of_ble_eq_true rfl) ?_
  intro p e s m below meth c E hSt hr hlk hG hΦ ls hl
  have hl : lv_has ls 6 [(0, .ref h0), (1, .int x1)] := hl
  have hx := E.1
  have hb := E.2.1
  obtain ⟨H, eH⟩ : ∃ H, H = s.heap := ⟨_, rfl⟩
  obtain ⟨locs, eL⟩ : ∃ x : List Loc, x = [] := ⟨_, rfl⟩
  have hG : tGH G τ s H locs := by rw [eH, eL]; exact hG
  have hΦ : tSl G H h0 4 5 (.int gn) := by rw [eH]; exact hΦ
  suffices hW : W p l e (tRm 3 63) s m ([.ref h0, .int x1] : List Value).toArray below meth c H locs 0 0 (MQ below (tQiH G τ (fun r H => (0 ≤ r.toInt ∧ r.toInt ≤ 1) ∧ tSl G H h0 4 5 (.int gn))) ([.ref h0, .int x1] : List Value).toArray s 0 0 (tA τ)) (F0 m 0 ls []) by subst eH; subst eL; exact hW
  clear eH eL
  have J14 : ∀ (n14 : Nat) (H : Heap) (locs : List Loc) (ls : Array Slot) (a2 : Nat) (v3 : Int32), tGH G τ s H locs → lv_has ls 6 [(0, .ref h0), (1, .int x1), (2, .ref a2), (3, .int v3)] → τ a2 = 11 → 0 ≤ v3.toInt → v3.toInt ≤ 4 → tSl G H h0 4 5 (.int gn) → (4 - v3.toInt).toNat < n14 → W p l e (tRm 3 63) s m ([.ref h0, .int x1] : List Value).toArray below meth c H locs 0 0 (MQ below (tQiH G τ (fun r H => (0 ≤ r.toInt ∧ r.toInt ≤ 1) ∧ tSl G H h0 4 5 (.int gn))) ([.ref h0, .int x1] : List Value).toArray s 0 0 (tA τ)) (F0 m 14 ls []) := by
    intro n14
    induction n14 with
    | zero => intro H locs ls a2 v3 hG hl e2 b3 c3 hc5 hn14; exact absurd hn14 (Nat.not_lt_zero _)
    | succ n14 ih14 =>
      intro H locs ls a2 v3 hG hl e2 b3 c3 hc5 hn14
      refine lv_iload_n hx hb dX5_readNumbers_14 rfl (lv_at hl 3 rfl) ?_
      refine lv_aload_n hx hb dX5_readNumbers_15 rfl (lv_at hl 0 rfl) ?_
      refine tc_getrS E hG t0 frw_X5_9 dX5_readNumbers_16 (fun oa1 hoa1 fv2 => ?_)
      have fv2 := fv2 _ rfl
      refine lv_iload_n hx hb dX5_readNumbers_19 rfl (lv_at hl 1 rfl) ?_
      refine tc_iald E hG hoa1 ta_15 (t_in (by omega) (by omega)) dX5_readNumbers_20 (fun z3 _ _ => ?_)
      refine tc_callp (tc_runS (As := [.int z3]) (rest := [.int v3]) E hSt hG (c_X1_numbersOf l G τ z3) ks_X1_numbersOf ml_X5_112 ⟨rfl, rfl, Nat.le_of_ble_eq_true rfl, Nat.le_of_ble_eq_true rfl⟩ rfl hl.1 rfl (Nat.le_of_ble_eq_true rfl) ⟨Nat.zero_le _, Nat.zero_le _⟩ dX5_readNumbers_21) (fun r4 pr4 => ?_)
      have pr4 : (0 ≤ r4.toInt ∧ r4.toInt ≤ 4) ∧ (r4.toInt = 0 ∨ (0 ≤ z3.toInt ∧ z3.toInt ≤ 9)) := pr4
      refine lv_icmp_ge (tgt := 128) hx hb dX5_readNumbers_24 (by decide) (fun c5 => ?_) (fun c5 => ?_)
      · skip
        have ic5 := tn_le rfl rfl c5
        refine lv_iconst (v := 1) hx hb dX5_readNumbers_128 (by decide) ?_
        exact tc_retH E hr hlk hG (t_nz (by decide) (by decide)).1 ⟨(show 0 ≤ (1 : Int32).toInt ∧ (1 : Int32).toInt ≤ 1 by have kk := kI_1; omega), hc5⟩ dX5_readNumbers_129
      · skip
        have ic5 := tn_nle rfl rfl c5
        refine lv_aload_n hx hb dX5_readNumbers_27 rfl (lv_at hl 0 rfl) ?_
        refine lv_bipush (v := 32) hx hb dX5_readNumbers_28 (by decide) ?_
        refine tc_calliH hG (tc_runVH (As := [.int 32]) (rest := []) E hSt hG (c_X5_passed l G τ h0 (32 : Int32) t0 (by decide) (by decide) gn (by omega) (by omega)) (hc5) t0 rv_22 kv_X5_passed ml_X5_68 ⟨rfl, rfl, Nat.le_of_ble_eq_true rfl, Nat.le_of_ble_eq_true rfl⟩ rfl hl.1 rfl (Nat.le_of_ble_eq_true rfl) ⟨Nat.zero_le _, Nat.zero_le _⟩ dX5_readNumbers_30) (fun r6 H locs pr6 hG => ?_)
        have pr6 : (0 ≤ r6.toInt ∧ r6.toInt ≤ 1) ∧ tSl G H h0 4 5 (.int gn) := pr6
        have fv7 := pr6.2
        refine lv_if_eq (tgt := 43) hx hb dX5_readNumbers_33 (by decide) (fun c8 => ?_) (fun c8 => ?_)
        · skip
          have ic8 := tn_eq rfl kI_0 c8
          refine lv_iconst (v := 0) hx hb dX5_readNumbers_43 (by decide) ?_
          exact tc_retH E hr hlk hG (t_nz (by decide) (by decide)).1 ⟨(show 0 ≤ (0 : Int32).toInt ∧ (0 : Int32).toInt ≤ 1 by have kk := kI_0; omega), fv7⟩ dX5_readNumbers_44
        · skip
          have ic8 := tn_ne rfl kI_0 c8
          refine lv_aload_n hx hb dX5_readNumbers_36 rfl (lv_at hl 0 rfl) ?_
          refine tc_callpH (tc_runV (As := []) (rest := []) E hSt hG (c_X5_nextIsFigure l G τ h0 t0) t0 rv_22 kv_X5_nextIsFigure ml_X5_115 ⟨rfl, rfl, Nat.le_of_ble_eq_true rfl, Nat.le_of_ble_eq_true rfl⟩ rfl hl.1 rfl (Nat.le_of_ble_eq_true rfl) ⟨Nat.zero_le _, Nat.zero_le _⟩ dX5_readNumbers_37) (fun r9 pr9 => ?_)
          have pr9 : (0 ≤ r9.toInt ∧ r9.toInt ≤ 1) ∧ (r9.toInt = 0 ∨ ∀ y : Int32, tSl G H h0 4 9 (.int y) → y.toInt ≤ 119) := pr9
          obtain ⟨gp10, lgp10, ugp10, fgp10⟩ := tc_look hG t0 fiw_X5_46
          have fgp10 := fgp10 _ rfl
          have qr9 : r9.toInt = 0 ∨ gp10.toInt ≤ 119 := pr9.2.elim Or.inl (fun h => Or.inr (h _ fgp10))
          refine lv_if_ne (tgt := 45) hx hb dX5_readNumbers_40 (by decide) (fun c11 => ?_) (fun c11 => ?_)
          · skip
            have ic11 := tn_ne rfl kI_0 c11
            refine lv_aload_n hx hb dX5_readNumbers_45 rfl (lv_at hl 0 rfl) ?_
            refine tc_seen E ff_X5_46 fgp10 dX5_readNumbers_46 ?_
            refine lv_istore (lv' := [(4, .int gp10), (0, .ref h0), (1, .int x1), (2, .ref a2), (3, .int v3)]) hx hb dX5_readNumbers_49 hl (by decide) rfl (fun ls hl => ?_)
            refine lv_aload_n hx hb dX5_readNumbers_51 rfl (lv_at hl 3 rfl) ?_
            refine lv_iload_n hx hb dX5_readNumbers_52 rfl (lv_at hl 4 rfl) ?_
            refine lv_aload_n hx hb dX5_readNumbers_53 rfl (lv_at hl 1 rfl) ?_
            refine tc_calliH hG (tc_runVH (As := []) (rest := [.int v3, .ref a2]) E hSt hG (c_X5_readNumber l G τ h0 t0 gn (by omega) (by omega)) (fv7) t0 rv_22 kv_X5_readNumber ml_X5_119 ⟨rfl, rfl, Nat.le_of_ble_eq_true rfl, Nat.le_of_ble_eq_true rfl⟩ rfl hl.1 rfl (Nat.le_of_ble_eq_true rfl) ⟨Nat.zero_le _, Nat.zero_le _⟩ dX5_readNumbers_54) (fun r12 H locs pr12 hG => ?_)
            have pr12 : ((0 : Int) ≤ 0) ∧ tSl G H h0 4 5 (.int gn) := pr12
            have fv13 := pr12.2
            refine tc_iastS E hG e2 ta_11 (t_in (by omega) (by omega)) (t_any1 _) (t_any2 _) dX5_readNumbers_57 (fun H locs hG oq14 => ?_)
            have fv15 := tSl.kept fv13 (oq14 _ (t_apart t0 e2 (by decide)))
            refine lv_aload_n hx hb dX5_readNumbers_58 rfl (lv_at hl 1 rfl) ?_
            refine tc_getrS E hG t0 frw_X5_9 dX5_readNumbers_59 (fun oa16 hoa16 fv17 => ?_)
            have fv17 := fv17 _ rfl
            refine lv_iload_n hx hb dX5_readNumbers_62 rfl (lv_at hl 2 rfl) ?_
            refine tc_iald E hG hoa16 ta_15 (t_in (by omega) (by omega)) dX5_readNumbers_63 (fun z18 _ _ => ?_)
            refine lv_iconst (v := 3) hx hb dX5_readNumbers_64 (by decide) ?_
            refine lv_icmp_ne (tgt := 90) hx hb dX5_readNumbers_65 (by decide) (fun c19 => ?_) (fun c19 => ?_)
            · skip
              have ic19 := tn_ne rfl kI_3 c19
              refine lv_iconst (v := 0) hx hb dX5_readNumbers_90 (by decide) ?_
              refine lv_istore (lv' := [(5, .int 0), (4, .int gp10), (0, .ref h0), (1, .int x1), (2, .ref a2), (3, .int v3)]) hx hb dX5_readNumbers_91 hl (by decide) rfl (fun ls hl => ?_)
              refine lv_iload hx hb dX5_readNumbers_93 (lv_at hl 0 rfl) ?_
              refine lv_if_ne (tgt := 114) hx hb dX5_readNumbers_95 (by decide) (fun c20 => ?_) (fun c20 => ?_)
              · exfalso
                have ic20 := tn_ne kI_0 kI_0 c20
                omega
              · skip
                have ic20 := tn_eq kI_0 kI_0 c20
                refine lv_aload_n hx hb dX5_readNumbers_98 rfl (lv_at hl 2 rfl) ?_
                refine tc_seen E ff_X5_9 fv17 dX5_readNumbers_99 ?_
                refine lv_iload_n hx hb dX5_readNumbers_102 rfl (lv_at hl 3 rfl) ?_
                refine tc_iald E hG hoa16 ta_15 (t_in (by omega) (by omega)) dX5_readNumbers_103 (fun z21 _ _ => ?_)
                refine lv_iload_n hx hb dX5_readNumbers_104 rfl (lv_at hl 5 rfl) ?_
                refine lv_aload_n hx hb dX5_readNumbers_105 rfl (lv_at hl 4 rfl) ?_
                refine lv_iload_n hx hb dX5_readNumbers_106 rfl (lv_at hl 5 rfl) ?_
                refine tc_iald E hG e2 ta_11 (t_in (by omega) (by omega)) dX5_readNumbers_107 (fun z22 _ _ => ?_)
                refine tc_callp (tc_runS (As := [.int z21, .int v3, .int z22]) (rest := []) E hSt hG (c_X1_isInRange l G τ z21 v3 z22) ks_X1_isInRange ml_X5_122 ⟨rfl, rfl, Nat.le_of_ble_eq_true rfl, Nat.le_of_ble_eq_true rfl⟩ rfl hl.1 rfl (Nat.le_of_ble_eq_true rfl) ⟨Nat.zero_le _, Nat.zero_le _⟩ dX5_readNumbers_108) (fun r23 pr23 => ?_)
                have pr23 : (0 ≤ r23.toInt ∧ r23.toInt ≤ 1) ∧ (r23.toInt = 0 ∨ (0 ≤ v3.toInt ∧ v3.toInt ≤ 3)) := pr23
                refine lv_if_ne (tgt := 122) hx hb dX5_readNumbers_111 (by decide) (fun c24 => ?_) (fun c24 => ?_)
                · skip
                  have ic24 := tn_ne rfl kI_0 c24
                  obtain ⟨z25, ez25⟩ : ∃ y : Int32, y = v3 + (1) := ⟨_, rfl⟩
                  refine lv_iinc (v := z25) (lv' := [(3, .int z25), (5, .int 0), (4, .int gp10), (0, .ref h0), (1, .int x1), (2, .ref a2)]) hx hb dX5_readNumbers_122 hl (k := 5) rfl (by rw [ez25]; rfl) (by decide) rfl (fun ls hl => ?_)
                  have tz25 := tn_add ez25 rfl kI_1 (by omega) (by omega)
                  refine lv_goto (tgt := 14) hx hb dX5_readNumbers_125 (by decide) ?_
                  exact ih14 H locs ls (a2) z25 hG (lv_sub hl [3, 4, 5, 0] rfl) e2 (by omega) (by omega) fv15 (by omega)
                · skip
                  have ic24 := tn_eq rfl kI_0 c24
                  refine lv_aload_n hx hb dX5_readNumbers_114 rfl (lv_at hl 2 rfl) ?_
                  refine lv_iload hx hb dX5_readNumbers_115 (lv_at hl 1 rfl) ?_
                  refine tc_putS E hG t0 fpw_X5_46 (by omega) (by omega) rfl rfl dX5_readNumbers_117 (fun H locs hG oq27 sl26 => ?_)
                  have fv28 := (sl26 _ rfl).2 _ _ _ _ ff_X5_49 (by decide) fv15
                  have fv29 := (sl26 _ rfl).2 _ _ _ _ ff_X5_9 (by decide) fv17
                  have fv30 := (sl26 _ rfl).1
                  refine lv_iconst (v := 0) hx hb dX5_readNumbers_120 (by decide) ?_
                  exact tc_retH E hr hlk hG (t_nz (by decide) (by decide)).1 ⟨(show 0 ≤ (0 : Int32).toInt ∧ (0 : Int32).toInt ≤ 1 by have kk := kI_0; omega), fv28⟩ dX5_readNumbers_121
            · skip
              have ic19 := tn_eq rfl kI_3 c19
              refine lv_iload_n hx hb dX5_readNumbers_68 rfl (lv_at hl 4 rfl) ?_
              refine lv_iconst (v := 2) hx hb dX5_readNumbers_69 (by decide) ?_
              refine lv_irem hx hb dX5_readNumbers_70 (by decide) ?_
              refine lv_topi (fun z31 ez31 => ?_)
              have tz31 := tn_rem ez31 kI_2 (by omega) (by decide)
              refine lv_iconst (v := 1) hx hb dX5_readNumbers_71 (by decide) ?_
              refine lv_icmp_ne (tgt := 90) hx hb dX5_readNumbers_72 (by decide) (fun c32 => ?_) (fun c32 => ?_)
              · skip
                have ic32 := tn_ne rfl kI_1 c32
                refine lv_iconst (v := 0) hx hb dX5_readNumbers_90 (by decide) ?_
                refine lv_istore (lv' := [(5, .int 0), (4, .int gp10), (0, .ref h0), (1, .int x1), (2, .ref a2), (3, .int v3)]) hx hb dX5_readNumbers_91 hl (by decide) rfl (fun ls hl => ?_)
                refine lv_iload hx hb dX5_readNumbers_93 (lv_at hl 0 rfl) ?_
                refine lv_if_ne (tgt := 114) hx hb dX5_readNumbers_95 (by decide) (fun c33 => ?_) (fun c33 => ?_)
                · exfalso
                  have ic33 := tn_ne kI_0 kI_0 c33
                  omega
                · skip
                  have ic33 := tn_eq kI_0 kI_0 c33
                  refine lv_aload_n hx hb dX5_readNumbers_98 rfl (lv_at hl 2 rfl) ?_
                  refine tc_seen E ff_X5_9 fv17 dX5_readNumbers_99 ?_
                  refine lv_iload_n hx hb dX5_readNumbers_102 rfl (lv_at hl 3 rfl) ?_
                  refine tc_iald E hG hoa16 ta_15 (t_in (by omega) (by omega)) dX5_readNumbers_103 (fun z34 _ _ => ?_)
                  refine lv_iload_n hx hb dX5_readNumbers_104 rfl (lv_at hl 5 rfl) ?_
                  refine lv_aload_n hx hb dX5_readNumbers_105 rfl (lv_at hl 4 rfl) ?_
                  refine lv_iload_n hx hb dX5_readNumbers_106 rfl (lv_at hl 5 rfl) ?_
                  refine tc_iald E hG e2 ta_11 (t_in (by omega) (by omega)) dX5_readNumbers_107 (fun z35 _ _ => ?_)
                  refine tc_callp (tc_runS (As := [.int z34, .int v3, .int z35]) (rest := []) E hSt hG (c_X1_isInRange l G τ z34 v3 z35) ks_X1_isInRange ml_X5_122 ⟨rfl, rfl, Nat.le_of_ble_eq_true rfl, Nat.le_of_ble_eq_true rfl⟩ rfl hl.1 rfl (Nat.le_of_ble_eq_true rfl) ⟨Nat.zero_le _, Nat.zero_le _⟩ dX5_readNumbers_108) (fun r36 pr36 => ?_)
                  have pr36 : (0 ≤ r36.toInt ∧ r36.toInt ≤ 1) ∧ (r36.toInt = 0 ∨ (0 ≤ v3.toInt ∧ v3.toInt ≤ 3)) := pr36
                  refine lv_if_ne (tgt := 122) hx hb dX5_readNumbers_111 (by decide) (fun c37 => ?_) (fun c37 => ?_)
                  · skip
                    have ic37 := tn_ne rfl kI_0 c37
                    obtain ⟨z38, ez38⟩ : ∃ y : Int32, y = v3 + (1) := ⟨_, rfl⟩
                    refine lv_iinc (v := z38) (lv' := [(3, .int z38), (5, .int 0), (4, .int gp10), (0, .ref h0), (1, .int x1), (2, .ref a2)]) hx hb dX5_readNumbers_122 hl (k := 5) rfl (by rw [ez38]; rfl) (by decide) rfl (fun ls hl => ?_)
                    have tz38 := tn_add ez38 rfl kI_1 (by omega) (by omega)
                    refine lv_goto (tgt := 14) hx hb dX5_readNumbers_125 (by decide) ?_
                    exact ih14 H locs ls (a2) z38 hG (lv_sub hl [3, 4, 5, 0] rfl) e2 (by omega) (by omega) fv15 (by omega)
                  · skip
                    have ic37 := tn_eq rfl kI_0 c37
                    refine lv_aload_n hx hb dX5_readNumbers_114 rfl (lv_at hl 2 rfl) ?_
                    refine lv_iload hx hb dX5_readNumbers_115 (lv_at hl 1 rfl) ?_
                    refine tc_putS E hG t0 fpw_X5_46 (by omega) (by omega) rfl rfl dX5_readNumbers_117 (fun H locs hG oq40 sl39 => ?_)
                    have fv41 := (sl39 _ rfl).2 _ _ _ _ ff_X5_49 (by decide) fv15
                    have fv42 := (sl39 _ rfl).2 _ _ _ _ ff_X5_9 (by decide) fv17
                    have fv43 := (sl39 _ rfl).1
                    refine lv_iconst (v := 0) hx hb dX5_readNumbers_120 (by decide) ?_
                    exact tc_retH E hr hlk hG (t_nz (by decide) (by decide)).1 ⟨(show 0 ≤ (0 : Int32).toInt ∧ (0 : Int32).toInt ≤ 1 by have kk := kI_0; omega), fv41⟩ dX5_readNumbers_121
              · skip
                have ic32 := tn_eq rfl kI_1 c32
                refine lv_aload_n hx hb dX5_readNumbers_75 rfl (lv_at hl 3 rfl) ?_
                refine lv_iload_n hx hb dX5_readNumbers_76 rfl (lv_at hl 4 rfl) ?_
                refine tc_iald E hG e2 ta_11 (t_in (by omega) (by omega)) dX5_readNumbers_77 (fun z44 _ _ => ?_)
                refine lv_aload_n hx hb dX5_readNumbers_78 rfl (lv_at hl 3 rfl) ?_
                refine lv_iload_n hx hb dX5_readNumbers_79 rfl (lv_at hl 4 rfl) ?_
                refine lv_iconst (v := 1) hx hb dX5_readNumbers_80 (by decide) ?_
                refine lv_isub hx hb dX5_readNumbers_81 ?_
                refine lv_topi (fun z45 ez45 => ?_)
                have tz45 := tn_sub ez45 rfl kI_1 (by omega) (by omega)
                refine tc_iald E hG e2 ta_11 (t_in (by omega) (by omega)) dX5_readNumbers_82 (fun z46 _ _ => ?_)
                refine lv_icmp_ge (tgt := 90) hx hb dX5_readNumbers_83 (by decide) (fun c47 => ?_) (fun c47 => ?_)
                · skip
                  have ic47 := tn_le rfl rfl c47
                  refine lv_iconst (v := 0) hx hb dX5_readNumbers_90 (by decide) ?_
                  refine lv_istore (lv' := [(5, .int 0), (4, .int gp10), (0, .ref h0), (1, .int x1), (2, .ref a2), (3, .int v3)]) hx hb dX5_readNumbers_91 hl (by decide) rfl (fun ls hl => ?_)
                  refine lv_iload hx hb dX5_readNumbers_93 (lv_at hl 0 rfl) ?_
                  refine lv_if_ne (tgt := 114) hx hb dX5_readNumbers_95 (by decide) (fun c48 => ?_) (fun c48 => ?_)
                  · exfalso
                    have ic48 := tn_ne kI_0 kI_0 c48
                    omega
                  · skip
                    have ic48 := tn_eq kI_0 kI_0 c48
                    refine lv_aload_n hx hb dX5_readNumbers_98 rfl (lv_at hl 2 rfl) ?_
                    refine tc_seen E ff_X5_9 fv17 dX5_readNumbers_99 ?_
                    refine lv_iload_n hx hb dX5_readNumbers_102 rfl (lv_at hl 3 rfl) ?_
                    refine tc_iald E hG hoa16 ta_15 (t_in (by omega) (by omega)) dX5_readNumbers_103 (fun z49 _ _ => ?_)
                    refine lv_iload_n hx hb dX5_readNumbers_104 rfl (lv_at hl 5 rfl) ?_
                    refine lv_aload_n hx hb dX5_readNumbers_105 rfl (lv_at hl 4 rfl) ?_
                    refine lv_iload_n hx hb dX5_readNumbers_106 rfl (lv_at hl 5 rfl) ?_
                    refine tc_iald E hG e2 ta_11 (t_in (by omega) (by omega)) dX5_readNumbers_107 (fun z50 _ _ => ?_)
                    refine tc_callp (tc_runS (As := [.int z49, .int v3, .int z50]) (rest := []) E hSt hG (c_X1_isInRange l G τ z49 v3 z50) ks_X1_isInRange ml_X5_122 ⟨rfl, rfl, Nat.le_of_ble_eq_true rfl, Nat.le_of_ble_eq_true rfl⟩ rfl hl.1 rfl (Nat.le_of_ble_eq_true rfl) ⟨Nat.zero_le _, Nat.zero_le _⟩ dX5_readNumbers_108) (fun r51 pr51 => ?_)
                    have pr51 : (0 ≤ r51.toInt ∧ r51.toInt ≤ 1) ∧ (r51.toInt = 0 ∨ (0 ≤ v3.toInt ∧ v3.toInt ≤ 3)) := pr51
                    refine lv_if_ne (tgt := 122) hx hb dX5_readNumbers_111 (by decide) (fun c52 => ?_) (fun c52 => ?_)
                    · skip
                      have ic52 := tn_ne rfl kI_0 c52
                      obtain ⟨z53, ez53⟩ : ∃ y : Int32, y = v3 + (1) := ⟨_, rfl⟩
                      refine lv_iinc (v := z53) (lv' := [(3, .int z53), (5, .int 0), (4, .int gp10), (0, .ref h0), (1, .int x1), (2, .ref a2)]) hx hb dX5_readNumbers_122 hl (k := 5) rfl (by rw [ez53]; rfl) (by decide) rfl (fun ls hl => ?_)
                      have tz53 := tn_add ez53 rfl kI_1 (by omega) (by omega)
                      refine lv_goto (tgt := 14) hx hb dX5_readNumbers_125 (by decide) ?_
                      exact ih14 H locs ls (a2) z53 hG (lv_sub hl [3, 4, 5, 0] rfl) e2 (by omega) (by omega) fv15 (by omega)
                    · skip
                      have ic52 := tn_eq rfl kI_0 c52
                      refine lv_aload_n hx hb dX5_readNumbers_114 rfl (lv_at hl 2 rfl) ?_
                      refine lv_iload hx hb dX5_readNumbers_115 (lv_at hl 1 rfl) ?_
                      refine tc_putS E hG t0 fpw_X5_46 (by omega) (by omega) rfl rfl dX5_readNumbers_117 (fun H locs hG oq55 sl54 => ?_)
                      have fv56 := (sl54 _ rfl).2 _ _ _ _ ff_X5_49 (by decide) fv15
                      have fv57 := (sl54 _ rfl).2 _ _ _ _ ff_X5_9 (by decide) fv17
                      have fv58 := (sl54 _ rfl).1
                      refine lv_iconst (v := 0) hx hb dX5_readNumbers_120 (by decide) ?_
                      exact tc_retH E hr hlk hG (t_nz (by decide) (by decide)).1 ⟨(show 0 ≤ (0 : Int32).toInt ∧ (0 : Int32).toInt ≤ 1 by have kk := kI_0; omega), fv56⟩ dX5_readNumbers_121
                · skip
                  have ic47 := tn_nle rfl rfl c47
                  refine lv_iconst (v := 1) hx hb dX5_readNumbers_86 (by decide) ?_
                  refine lv_goto (tgt := 91) hx hb dX5_readNumbers_87 (by decide) ?_
                  refine lv_istore (lv' := [(5, .int 1), (4, .int gp10), (0, .ref h0), (1, .int x1), (2, .ref a2), (3, .int v3)]) hx hb dX5_readNumbers_91 hl (by decide) rfl (fun ls hl => ?_)
                  refine lv_iload hx hb dX5_readNumbers_93 (lv_at hl 0 rfl) ?_
                  refine lv_if_ne (tgt := 114) hx hb dX5_readNumbers_95 (by decide) (fun c59 => ?_) (fun c59 => ?_)
                  · skip
                    have ic59 := tn_ne kI_1 kI_0 c59
                    refine lv_aload_n hx hb dX5_readNumbers_114 rfl (lv_at hl 2 rfl) ?_
                    refine lv_iload hx hb dX5_readNumbers_115 (lv_at hl 1 rfl) ?_
                    refine tc_putS E hG t0 fpw_X5_46 (by omega) (by omega) rfl rfl dX5_readNumbers_117 (fun H locs hG oq61 sl60 => ?_)
                    have fv62 := (sl60 _ rfl).2 _ _ _ _ ff_X5_49 (by decide) fv15
                    have fv63 := (sl60 _ rfl).2 _ _ _ _ ff_X5_9 (by decide) fv17
                    have fv64 := (sl60 _ rfl).1
                    refine lv_iconst (v := 0) hx hb dX5_readNumbers_120 (by decide) ?_
                    exact tc_retH E hr hlk hG (t_nz (by decide) (by decide)).1 ⟨(show 0 ≤ (0 : Int32).toInt ∧ (0 : Int32).toInt ≤ 1 by have kk := kI_0; omega), fv62⟩ dX5_readNumbers_121
                  · exfalso
                    have ic59 := tn_eq kI_1 kI_0 c59
                    omega
          · skip
            have ic11 := tn_eq rfl kI_0 c11
            refine lv_iconst (v := 0) hx hb dX5_readNumbers_43 (by decide) ?_
            exact tc_retH E hr hlk hG (t_nz (by decide) (by decide)).1 ⟨(show 0 ≤ (0 : Int32).toInt ∧ (0 : Int32).toInt ≤ 1 by have kk := kI_0; omega), fv7⟩ dX5_readNumbers_44
  refine lv_aload_n hx hb dX5_readNumbers_0 rfl (lv_at hl 0 rfl) ?_
  refine tc_getrS E hG t0 frw_X5_26 dX5_readNumbers_1 (fun oa65 hoa65 fv66 => ?_)
  have fv66 := fv66 _ rfl
  refine lv_iload_n hx hb dX5_readNumbers_4 rfl (lv_at hl 1 rfl) ?_
  refine tc_aald5 E hG hoa65 ta_17 (t_in (by omega) (by omega)) dX5_readNumbers_5 (fun oa67 hoa67 => ?_)
  refine lv_astore_n (lv' := [(2, .ref oa67), (0, .ref h0), (1, .int x1)]) hx hb dX5_readNumbers_6 rfl hl (by decide) rfl (fun ls hl => ?_)
  refine lv_aload_n hx hb dX5_readNumbers_7 rfl (lv_at hl 0 rfl) ?_
  refine lv_iconst (v := 0) hx hb dX5_readNumbers_8 (by decide) ?_
  refine tc_fill (rest := []) E hSt hG hoa67 ml_X5_106 ⟨Nat.le_of_ble_eq_true rfl, Nat.le_of_ble_eq_true rfl⟩ hl.1 (Nat.le_of_ble_eq_true rfl) ⟨Nat.zero_le _, Nat.zero_le _⟩ dX5_readNumbers_9 (fun H locs hG kp68 => ?_)
  have fv69 := kp68 _ _ _ _ (t_apart t0 hoa67 (by decide)) hΦ
  have fv70 := kp68 _ _ _ _ (t_apart t0 hoa67 (by decide)) fv66
  refine lv_iconst (v := 0) hx hb dX5_readNumbers_12 (by decide) ?_
  refine lv_istore_n (lv' := [(3, .int 0), (2, .ref oa67), (0, .ref h0), (1, .int x1)]) hx hb dX5_readNumbers_13 rfl hl (by decide) rfl (fun ls hl => ?_)
  exact J14 ((4 - (0 : Int32).toInt).toNat + 1) H locs ls (oa67) (0 : Int32) hG (lv_sub hl [2, 3, 1, 0] rfl) hoa67 (by decide) (by decide) fv69 (Nat.lt_succ_self _)

set_option maxHeartbeats 4000000 in
set_option maxRecDepth 100000 in
theorem c_X5_parentOfNext (l : Launch) (G : tG) (τ : Nat → Nat) (h0 : Nat) (t0 : τ h0 = 22) (gn : Int32) (lgn : 0 ≤ gn.toInt) (ugn : gn.toInt ≤ 24) (hg1 : 1 ≤ gn.toInt) : Met l yX5_parentOfNext (.code yX5_parentOfNext cX5_parentOfNext 3 (some .int) :: tWS) (tRm 2 41) (va_Pc [.ref h0] (tPreH G τ (fun H => tSl G H h0 4 5 (.int gn)))) (tQiH G τ (fun r H => (-1 ≤ r.toInt ∧ r.toInt ≤ 23) ∧ tSl G H h0 4 5 (.int gn))) 0 0 (tA τ) := by
  refine tc_metH (by decide) (Nat.le_of_ble_eq_true rfl) ?_
  intro p e s m below meth c E hSt hr hlk hG hΦ ls hl
  have hl : lv_has ls 3 [(0, .ref h0)] := hl
  have hx := E.1
  have hb := E.2.1
  obtain ⟨H, eH⟩ : ∃ H, H = s.heap := ⟨_, rfl⟩
  obtain ⟨locs, eL⟩ : ∃ x : List Loc, x = [] := ⟨_, rfl⟩
  have hG : tGH G τ s H locs := by rw [eH, eL]; exact hG
  have hΦ : tSl G H h0 4 5 (.int gn) := by rw [eH]; exact hΦ
  suffices hW : W p l e (tRm 2 41) s m ([.ref h0] : List Value).toArray below meth c H locs 0 0 (MQ below (tQiH G τ (fun r H => (-1 ≤ r.toInt ∧ r.toInt ≤ 23) ∧ tSl G H h0 4 5 (.int gn))) ([.ref h0] : List Value).toArray s 0 0 (tA τ)) (F0 m 0 ls []) by subst eH; subst eL; exact hW
  clear eH eL
  have J27 : ∀ (n27 : Nat) (H : Heap) (locs : List Loc) (ls : Array Slot) (v1 : Int32) (v2 : Int32), tGH G τ s H locs → lv_has ls 3 [(0, .ref h0), (1, .int v1), (2, .int v2)] → -1 ≤ v1.toInt → v1.toInt ≤ 23 → 0 ≤ v2.toInt → v2.toInt ≤ 24 → tSl G H h0 4 5 (.int gn) → (24 - v2.toInt).toNat < n27 → W p l e (tRm 2 41) s m ([.ref h0] : List Value).toArray below meth c H locs 0 0 (MQ below (tQiH G τ (fun r H => (-1 ≤ r.toInt ∧ r.toInt ≤ 23) ∧ tSl G H h0 4 5 (.int gn))) ([.ref h0] : List Value).toArray s 0 0 (tA τ)) (F0 m 27 ls []) := by
    intro n27
    induction n27 with
    | zero => intro H locs ls v1 v2 hG hl b1 c1 b2 c2 hc5 hn27; exact absurd hn27 (Nat.not_lt_zero _)
    | succ n27 ih27 =>
      intro H locs ls v1 v2 hG hl b1 c1 b2 c2 hc5 hn27
      refine lv_iload_n hx hb dX5_parentOfNext_27 rfl (lv_at hl 2 rfl) ?_
      refine lv_bipush (v := 24) hx hb dX5_parentOfNext_28 (by decide) ?_
      refine lv_icmp_ge (tgt := 73) hx hb dX5_parentOfNext_30 (by decide) (fun c1 => ?_) (fun c1 => ?_)
      · skip
        have ic1 := tn_le kI_24 rfl c1
        refine lv_aload_n hx hb dX5_parentOfNext_73 rfl (lv_at hl 0 rfl) ?_
        refine lv_iload_n hx hb dX5_parentOfNext_74 rfl (lv_at hl 1 rfl) ?_
        refine lv_iconst (v := -1) hx hb dX5_parentOfNext_75 (by decide) ?_
        refine lv_icmp_ne (tgt := 83) hx hb dX5_parentOfNext_76 (by decide) (fun c2 => ?_) (fun c2 => ?_)
        · skip
          have ic2 := tn_ne rfl kI_m1 c2
          refine lv_iconst (v := 0) hx hb dX5_parentOfNext_83 (by decide) ?_
          refine tc_putS E hG t0 fpw_X5_52 (by decide) (by decide) (t_nz (by decide) (by decide)).1 (t_nz (by decide) (by decide)).2 dX5_parentOfNext_84 (fun H locs hG oq4 sl3 => ?_)
          have fv5 := (sl3 _ rfl).2 _ _ _ _ ff_X5_49 (by decide) hc5
          have fv6 := (sl3 _ rfl).1
          refine lv_iconst (v := -1) hx hb dX5_parentOfNext_87 (by decide) ?_
          exact tc_retH E hr hlk hG rfl ⟨(show -1 ≤ (-1 : Int32).toInt ∧ (-1 : Int32).toInt ≤ 23 by have kk := kI_m1; omega), fv5⟩ dX5_parentOfNext_88
        · skip
          have ic2 := tn_eq rfl kI_m1 c2
          refine lv_iconst (v := 1) hx hb dX5_parentOfNext_79 (by decide) ?_
          refine lv_goto (tgt := 84) hx hb dX5_parentOfNext_80 (by decide) ?_
          refine tc_putS E hG t0 fpw_X5_52 (by decide) (by decide) (t_nz (by decide) (by decide)).1 (t_nz (by decide) (by decide)).2 dX5_parentOfNext_84 (fun H locs hG oq8 sl7 => ?_)
          have fv9 := (sl7 _ rfl).2 _ _ _ _ ff_X5_49 (by decide) hc5
          have fv10 := (sl7 _ rfl).1
          refine lv_iconst (v := -1) hx hb dX5_parentOfNext_87 (by decide) ?_
          exact tc_retH E hr hlk hG rfl ⟨(show -1 ≤ (-1 : Int32).toInt ∧ (-1 : Int32).toInt ≤ 23 by have kk := kI_m1; omega), fv9⟩ dX5_parentOfNext_88
      · skip
        have ic1 := tn_nle kI_24 rfl c1
        refine lv_iload_n hx hb dX5_parentOfNext_33 rfl (lv_at hl 1 rfl) ?_
        refine lv_iconst (v := -1) hx hb dX5_parentOfNext_34 (by decide) ?_
        refine lv_icmp_eq (tgt := 73) hx hb dX5_parentOfNext_35 (by decide) (fun c11 => ?_) (fun c11 => ?_)
        · skip
          have ic11 := tn_eq rfl kI_m1 c11
          refine lv_aload_n hx hb dX5_parentOfNext_73 rfl (lv_at hl 0 rfl) ?_
          refine lv_iload_n hx hb dX5_parentOfNext_74 rfl (lv_at hl 1 rfl) ?_
          refine lv_iconst (v := -1) hx hb dX5_parentOfNext_75 (by decide) ?_
          refine lv_icmp_ne (tgt := 83) hx hb dX5_parentOfNext_76 (by decide) (fun c12 => ?_) (fun c12 => ?_)
          · exfalso
            have ic12 := tn_ne rfl kI_m1 c12
            omega
          · skip
            have ic12 := tn_eq rfl kI_m1 c12
            refine lv_iconst (v := 1) hx hb dX5_parentOfNext_79 (by decide) ?_
            refine lv_goto (tgt := 84) hx hb dX5_parentOfNext_80 (by decide) ?_
            refine tc_putS E hG t0 fpw_X5_52 (by decide) (by decide) (t_nz (by decide) (by decide)).1 (t_nz (by decide) (by decide)).2 dX5_parentOfNext_84 (fun H locs hG oq14 sl13 => ?_)
            have fv15 := (sl13 _ rfl).2 _ _ _ _ ff_X5_49 (by decide) hc5
            have fv16 := (sl13 _ rfl).1
            refine lv_iconst (v := -1) hx hb dX5_parentOfNext_87 (by decide) ?_
            exact tc_retH E hr hlk hG rfl ⟨(show -1 ≤ (-1 : Int32).toInt ∧ (-1 : Int32).toInt ≤ 23 by have kk := kI_m1; omega), fv15⟩ dX5_parentOfNext_88
        · skip
          have ic11 := tn_ne rfl kI_m1 c11
          refine lv_aload_n hx hb dX5_parentOfNext_38 rfl (lv_at hl 0 rfl) ?_
          refine lv_bipush (v := 44) hx hb dX5_parentOfNext_39 (by decide) ?_
          refine tc_calliH hG (tc_runVH (As := [.int 44]) (rest := []) E hSt hG (c_X5_passed l G τ h0 (44 : Int32) t0 (by decide) (by decide) gn (by omega) (by omega)) (hc5) t0 rv_22 kv_X5_passed ml_X5_68 ⟨rfl, rfl, Nat.le_of_ble_eq_true rfl, Nat.le_of_ble_eq_true rfl⟩ rfl hl.1 rfl (Nat.le_of_ble_eq_true rfl) ⟨Nat.zero_le _, Nat.zero_le _⟩ dX5_parentOfNext_41) (fun r17 H locs pr17 hG => ?_)
          have pr17 : (0 ≤ r17.toInt ∧ r17.toInt ≤ 1) ∧ tSl G H h0 4 5 (.int gn) := pr17
          have fv18 := pr17.2
          refine lv_if_eq (tgt := 49) hx hb dX5_parentOfNext_44 (by decide) (fun c19 => ?_) (fun c19 => ?_)
          · skip
            have ic19 := tn_eq rfl kI_0 c19
            refine lv_aload_n hx hb dX5_parentOfNext_49 rfl (lv_at hl 0 rfl) ?_
            refine lv_bipush (v := 41) hx hb dX5_parentOfNext_50 (by decide) ?_
            refine tc_calliH hG (tc_runVH (As := [.int 41]) (rest := []) E hSt hG (c_X5_passed l G τ h0 (41 : Int32) t0 (by decide) (by decide) gn (by omega) (by omega)) (fv18) t0 rv_22 kv_X5_passed ml_X5_68 ⟨rfl, rfl, Nat.le_of_ble_eq_true rfl, Nat.le_of_ble_eq_true rfl⟩ rfl hl.1 rfl (Nat.le_of_ble_eq_true rfl) ⟨Nat.zero_le _, Nat.zero_le _⟩ dX5_parentOfNext_52) (fun r20 H locs pr20 hG => ?_)
            have pr20 : (0 ≤ r20.toInt ∧ r20.toInt ≤ 1) ∧ tSl G H h0 4 5 (.int gn) := pr20
            have fv21 := pr20.2
            refine lv_if_ne (tgt := 60) hx hb dX5_parentOfNext_55 (by decide) (fun c22 => ?_) (fun c22 => ?_)
            · skip
              have ic22 := tn_ne rfl kI_0 c22
              refine lv_aload_n hx hb dX5_parentOfNext_60 rfl (lv_at hl 0 rfl) ?_
              refine tc_getrS E hG t0 frw_X5_15 dX5_parentOfNext_61 (fun oa23 hoa23 fv24 => ?_)
              have fv24 := fv24 _ rfl
              refine lv_iload_n hx hb dX5_parentOfNext_64 rfl (lv_at hl 1 rfl) ?_
              refine tc_iald E hG hoa23 ta_16 (t_in (by omega) (by omega)) dX5_parentOfNext_65 (fun z25 lz25 uz25 => ?_)
              refine lv_istore_n (lv' := [(1, .int z25), (0, .ref h0), (2, .int v2)]) hx hb dX5_parentOfNext_66 rfl hl (by decide) rfl (fun ls hl => ?_)
              obtain ⟨z26, ez26⟩ : ∃ y : Int32, y = v2 + (1) := ⟨_, rfl⟩
              refine lv_iinc (v := z26) (lv' := [(2, .int z26), (1, .int z25), (0, .ref h0)]) hx hb dX5_parentOfNext_67 hl (k := 2) rfl (by rw [ez26]; rfl) (by decide) rfl (fun ls hl => ?_)
              have tz26 := tn_add ez26 rfl kI_1 (by omega) (by omega)
              refine lv_goto (tgt := 27) hx hb dX5_parentOfNext_70 (by decide) ?_
              exact ih27 H locs ls z25 z26 hG (lv_sub hl [2, 1, 0] rfl) (by omega) (by omega) (by omega) (by omega) fv21 (by omega)
            · skip
              have ic22 := tn_eq rfl kI_0 c22
              refine lv_iconst (v := -1) hx hb dX5_parentOfNext_58 (by decide) ?_
              exact tc_retH E hr hlk hG rfl ⟨(show -1 ≤ (-1 : Int32).toInt ∧ (-1 : Int32).toInt ≤ 23 by have kk := kI_m1; omega), fv21⟩ dX5_parentOfNext_59
          · skip
            have ic19 := tn_ne rfl kI_0 c19
            refine lv_iload_n hx hb dX5_parentOfNext_47 rfl (lv_at hl 1 rfl) ?_
            exact tc_retH E hr hlk hG rfl ⟨(show -1 ≤ v1.toInt ∧ v1.toInt ≤ 23 by omega), fv18⟩ dX5_parentOfNext_48
  refine lv_aload_n hx hb dX5_parentOfNext_0 rfl (lv_at hl 0 rfl) ?_
  refine tc_seen E ff_X5_49 hΦ dX5_parentOfNext_1 ?_
  refine lv_iconst (v := 1) hx hb dX5_parentOfNext_4 (by decide) ?_
  refine lv_isub hx hb dX5_parentOfNext_5 ?_
  refine lv_topi (fun z27 ez27 => ?_)
  have tz27 := tn_sub ez27 rfl kI_1 (by omega) (by omega)
  refine lv_istore_n (lv' := [(1, .int z27), (0, .ref h0)]) hx hb dX5_parentOfNext_6 rfl hl (by decide) rfl (fun ls hl => ?_)
  refine lv_aload_n hx hb dX5_parentOfNext_7 rfl (lv_at hl 1 rfl) ?_
  refine lv_bipush (v := 40) hx hb dX5_parentOfNext_8 (by decide) ?_
  refine tc_calliH hG (tc_runVH (As := [.int 40]) (rest := []) E hSt hG (c_X5_passed l G τ h0 (40 : Int32) t0 (by decide) (by decide) gn (by omega) (by omega)) (hΦ) t0 rv_22 kv_X5_passed ml_X5_68 ⟨rfl, rfl, Nat.le_of_ble_eq_true rfl, Nat.le_of_ble_eq_true rfl⟩ rfl hl.1 rfl (Nat.le_of_ble_eq_true rfl) ⟨Nat.zero_le _, Nat.zero_le _⟩ dX5_parentOfNext_10) (fun r28 H locs pr28 hG => ?_)
  have pr28 : (0 ≤ r28.toInt ∧ r28.toInt ≤ 1) ∧ tSl G H h0 4 5 (.int gn) := pr28
  have fv29 := pr28.2
  refine lv_if_eq (tgt := 18) hx hb dX5_parentOfNext_13 (by decide) (fun c30 => ?_) (fun c30 => ?_)
  · skip
    have ic30 := tn_eq rfl kI_0 c30
    refine lv_aload_n hx hb dX5_parentOfNext_18 rfl (lv_at hl 1 rfl) ?_
    refine tc_getrS E hG t0 frw_X5_15 dX5_parentOfNext_19 (fun oa31 hoa31 fv32 => ?_)
    have fv32 := fv32 _ rfl
    refine lv_iload_n hx hb dX5_parentOfNext_22 rfl (lv_at hl 0 rfl) ?_
    refine tc_iald E hG hoa31 ta_16 (t_in (by omega) (by omega)) dX5_parentOfNext_23 (fun z33 lz33 uz33 => ?_)
    refine lv_istore_n (lv' := [(1, .int z33), (0, .ref h0)]) hx hb dX5_parentOfNext_24 rfl hl (by decide) rfl (fun ls hl => ?_)
    refine lv_iconst (v := 0) hx hb dX5_parentOfNext_25 (by decide) ?_
    refine lv_istore_n (lv' := [(2, .int 0), (1, .int z33), (0, .ref h0)]) hx hb dX5_parentOfNext_26 rfl hl (by decide) rfl (fun ls hl => ?_)
    exact J27 ((24 - (0 : Int32).toInt).toNat + 1) H locs ls z33 (0 : Int32) hG (lv_sub hl [2, 1, 0] rfl) (by omega) (by omega) (by decide) (by decide) fv29 (Nat.lt_succ_self _)
  · skip
    have ic30 := tn_ne rfl kI_0 c30
    refine lv_iload_n hx hb dX5_parentOfNext_16 rfl (lv_at hl 0 rfl) ?_
    exact tc_retH E hr hlk hG rfl ⟨(show -1 ≤ z27.toInt ∧ z27.toInt ≤ 23 by omega), fv29⟩ dX5_parentOfNext_17

set_option maxHeartbeats 4000000 in
set_option maxRecDepth 100000 in
theorem c_X5_readBox (l : Launch) (G : tG) (τ : Nat → Nat) (h0 : Nat) (x1 : Int32) (t0 : τ h0 = 22) (l1 : -1 ≤ x1.toInt) (u1 : x1.toInt ≤ 23) (gn : Int32) (lgn : 0 ≤ gn.toInt) (ugn : gn.toInt ≤ 24) : Met l yX5_readBox (.code yX5_readBox cX5_readBox 5 (some .boolean) :: tWS) (tRm 6 132) (va_Pc [.ref h0, .int x1] (tPreH G τ (fun H => tSl G H h0 4 5 (.int gn)))) (tQiH G τ (fun r H => (0 ≤ r.toInt ∧ r.toInt ≤ 1) ∧ ∃ n : Int32, tSl G H h0 4 5 (.int n) ∧ 0 ≤ n.toInt ∧ n.toInt ≤ 24 ∧ (r.toInt = 0 ∨ 1 ≤ n.toInt))) 0 0 (tA τ) := by
  refine tc_metH (by decide) (Nat.le_of_ble_eq_true rfl) ?_
  intro p e s m below meth c E hSt hr hlk hG hΦ ls hl
  have hl : lv_has ls 5 [(0, .ref h0), (1, .int x1)] := hl
  have hx := E.1
  have hb := E.2.1
  obtain ⟨H, eH⟩ : ∃ H, H = s.heap := ⟨_, rfl⟩
  obtain ⟨locs, eL⟩ : ∃ x : List Loc, x = [] := ⟨_, rfl⟩
  have hG : tGH G τ s H locs := by rw [eH, eL]; exact hG
  have hΦ : tSl G H h0 4 5 (.int gn) := by rw [eH]; exact hΦ
  suffices hW : W p l e (tRm 6 132) s m ([.ref h0, .int x1] : List Value).toArray below meth c H locs 0 0 (MQ below (tQiH G τ (fun r H => (0 ≤ r.toInt ∧ r.toInt ≤ 1) ∧ ∃ n : Int32, tSl G H h0 4 5 (.int n) ∧ 0 ≤ n.toInt ∧ n.toInt ≤ 24 ∧ (r.toInt = 0 ∨ 1 ≤ n.toInt))) ([.ref h0, .int x1] : List Value).toArray s 0 0 (tA τ)) (F0 m 0 ls []) by subst eH; subst eL; exact hW
  clear eH eL
  refine lv_iload_n hx hb dX5_readBox_0 rfl (lv_at hl 1 rfl) ?_
  refine lv_iconst (v := -1) hx hb dX5_readBox_1 (by decide) ?_
  refine lv_icmp_eq (tgt := 23) hx hb dX5_readBox_2 (by decide) (fun c1 => ?_) (fun c1 => ?_)
  · skip
    have ic1 := tn_eq rfl kI_m1 c1
    refine lv_iconst (v := 1) hx hb dX5_readBox_23 (by decide) ?_
    refine lv_goto (tgt := 28) hx hb dX5_readBox_24 (by decide) ?_
    refine lv_istore_n (lv' := [(2, .int 1), (0, .ref h0), (1, .int x1)]) hx hb dX5_readBox_28 rfl hl (by decide) rfl (fun ls hl => ?_)
    refine lv_iload_n hx hb dX5_readBox_29 rfl (lv_at hl 0 rfl) ?_
    refine lv_if_eq (tgt := 53) hx hb dX5_readBox_30 (by decide) (fun c2 => ?_) (fun c2 => ?_)
    · exfalso
      have ic2 := tn_eq kI_1 kI_0 c2
      omega
    · skip
      have ic2 := tn_ne kI_1 kI_0 c2
      refine lv_aload_n hx hb dX5_readBox_33 rfl (lv_at hl 1 rfl) ?_
      refine tc_seen E ff_X5_49 hΦ dX5_readBox_34 ?_
      refine lv_aload_n hx hb dX5_readBox_37 rfl (lv_at hl 1 rfl) ?_
      refine tc_getiS E hG t0 fiw_X5_43 dX5_readBox_38 (fun z3 lz3 uz3 fv4 => ?_)
      have fv4 := fv4 _ rfl
      refine lv_icmp_ge (tgt := 53) hx hb dX5_readBox_41 (by decide) (fun c5 => ?_) (fun c5 => ?_)
      · skip
        have ic5 := tn_le rfl rfl c5
        refine lv_iconst (v := 0) hx hb dX5_readBox_53 (by decide) ?_
        exact tc_retH E hr hlk hG (t_nz (by decide) (by decide)).1 ⟨⟨by have kk := kI_0; omega, by have kk := kI_0; omega⟩, gn, hΦ, by omega, by omega, by have kk := kI_0; omega⟩ dX5_readBox_54
      · skip
        have ic5 := tn_nle rfl rfl c5
        refine lv_aload_n hx hb dX5_readBox_44 rfl (lv_at hl 1 rfl) ?_
        refine tc_seen E ff_X5_49 hΦ dX5_readBox_45 ?_
        refine lv_bipush (v := 24) hx hb dX5_readBox_48 (by decide) ?_
        refine lv_icmp_lt (tgt := 55) hx hb dX5_readBox_50 (by decide) (fun c6 => ?_) (fun c6 => ?_)
        · skip
          have ic6 := tn_lt rfl kI_24 c6
          refine lv_aload_n hx hb dX5_readBox_55 rfl (lv_at hl 1 rfl) ?_
          refine tc_calliH hG (tc_runVH (As := []) (rest := []) E hSt hG (c_X5_readName l G τ h0 t0 gn (by omega) (by omega)) (hΦ) t0 rv_22 kv_X5_readName ml_X5_78 ⟨rfl, rfl, Nat.le_of_ble_eq_true rfl, Nat.le_of_ble_eq_true rfl⟩ rfl hl.1 rfl (Nat.le_of_ble_eq_true rfl) ⟨Nat.zero_le _, Nat.zero_le _⟩ dX5_readBox_56) (fun r7 H locs pr7 hG => ?_)
          have pr7 : (-1 ≤ r7.toInt ∧ r7.toInt ≤ 9) ∧ tSl G H h0 4 5 (.int gn) := pr7
          have fv8 := pr7.2
          refine lv_istore_n (lv' := [(3, .int r7), (2, .int 1), (0, .ref h0), (1, .int x1)]) hx hb dX5_readBox_59 rfl hl (by decide) rfl (fun ls hl => ?_)
          refine lv_iload_n hx hb dX5_readBox_60 rfl (lv_at hl 0 rfl) ?_
          refine lv_iconst (v := -1) hx hb dX5_readBox_61 (by decide) ?_
          refine lv_icmp_ne (tgt := 67) hx hb dX5_readBox_62 (by decide) (fun c9 => ?_) (fun c9 => ?_)
          · skip
            have ic9 := tn_ne rfl kI_m1 c9
            refine lv_aload_n hx hb dX5_readBox_67 rfl (lv_at hl 2 rfl) ?_
            refine tc_seen E ff_X5_49 fv8 dX5_readBox_68 ?_
            refine lv_istore (lv' := [(4, .int gn), (3, .int r7), (2, .int 1), (0, .ref h0), (1, .int x1)]) hx hb dX5_readBox_71 hl (by decide) rfl (fun ls hl => ?_)
            refine lv_aload_n hx hb dX5_readBox_73 rfl (lv_at hl 3 rfl) ?_
            refine lv_dup hx hb dX5_readBox_74 rfl ?_
            refine tc_seen E ff_X5_49 fv8 dX5_readBox_75 ?_
            refine lv_iconst (v := 1) hx hb dX5_readBox_78 (by decide) ?_
            refine lv_iadd hx hb dX5_readBox_79 ?_
            refine lv_topi (fun z10 ez10 => ?_)
            have tz10 := tn_add ez10 rfl kI_1 (by omega) (by omega)
            refine tc_putS E hG t0 fpw_X5_49 (by omega) (by omega) rfl rfl dX5_readBox_80 (fun H locs hG oq12 sl11 => ?_)
            have fv13 := (sl11 _ rfl).1
            refine lv_aload_n hx hb dX5_readBox_83 rfl (lv_at hl 3 rfl) ?_
            refine tc_getrS E hG t0 frw_X5_9 dX5_readBox_84 (fun oa14 hoa14 fv15 => ?_)
            have fv15 := fv15 _ rfl
            refine lv_iload hx hb dX5_readBox_87 (lv_at hl 0 rfl) ?_
            refine lv_iload_n hx hb dX5_readBox_89 rfl (lv_at hl 1 rfl) ?_
            refine tc_iastS E hG hoa14 ta_15 (t_in (by omega) (by omega)) (t_any1 _) (t_any2 _) dX5_readBox_90 (fun H locs hG oq16 => ?_)
            have fv17 := tSl.kept fv13 (oq16 _ (t_apart t0 hoa14 (by decide)))
            have fv18 := tSl.kept fv15 (oq16 _ (t_apart t0 hoa14 (by decide)))
            refine lv_aload_n hx hb dX5_readBox_91 rfl (lv_at hl 3 rfl) ?_
            refine tc_getrS E hG t0 frw_X5_15 dX5_readBox_92 (fun oa19 hoa19 fv20 => ?_)
            have fv20 := fv20 _ rfl
            refine lv_iload hx hb dX5_readBox_95 (lv_at hl 0 rfl) ?_
            refine lv_iload_n hx hb dX5_readBox_97 rfl (lv_at hl 4 rfl) ?_
            refine tc_iastS E hG hoa19 ta_16 (t_in (by omega) (by omega)) (by omega) (by omega) dX5_readBox_98 (fun H locs hG oq21 => ?_)
            have fv22 := tSl.kept fv17 (oq21 _ (t_apart t0 hoa19 (by decide)))
            have fv23 := tSl.kept fv18 (oq21 _ (t_apart t0 hoa19 (by decide)))
            have fv24 := tSl.kept fv20 (oq21 _ (t_apart t0 hoa19 (by decide)))
            refine lv_aload_n hx hb dX5_readBox_99 rfl (lv_at hl 3 rfl) ?_
            refine tc_getrS E hG t0 frw_X5_21 dX5_readBox_100 (fun oa25 hoa25 fv26 => ?_)
            have fv26 := fv26 _ rfl
            refine lv_iload hx hb dX5_readBox_103 (lv_at hl 0 rfl) ?_
            refine lv_iconst (v := 0) hx hb dX5_readBox_105 (by decide) ?_
            refine tc_iastS E hG hoa25 ta_15 (t_in (by omega) (by omega)) (t_any1 _) (t_any2 _) dX5_readBox_106 (fun H locs hG oq27 => ?_)
            have fv28 := tSl.kept fv22 (oq27 _ (t_apart t0 hoa25 (by decide)))
            have fv29 := tSl.kept fv23 (oq27 _ (t_apart t0 hoa25 (by decide)))
            have fv30 := tSl.kept fv24 (oq27 _ (t_apart t0 hoa25 (by decide)))
            have fv31 := tSl.kept fv26 (oq27 _ (t_apart t0 hoa25 (by decide)))
            refine lv_iload_n hx hb dX5_readBox_107 rfl (lv_at hl 4 rfl) ?_
            refine lv_iconst (v := -1) hx hb dX5_readBox_108 (by decide) ?_
            refine lv_icmp_eq (tgt := 122) hx hb dX5_readBox_109 (by decide) (fun c32 => ?_) (fun c32 => ?_)
            · skip
              have ic32 := tn_eq rfl kI_m1 c32
              refine lv_aload_n hx hb dX5_readBox_122 rfl (lv_at hl 3 rfl) ?_
              refine lv_iload hx hb dX5_readBox_123 (lv_at hl 0 rfl) ?_
              refine tc_calliH hG (tc_runVH (As := [.int gn]) (rest := []) E hSt hG (c_X5_readNumbers l G τ h0 gn t0 (by omega) (by omega) z10 (by omega) (by omega)) (fv28) t0 rv_22 kv_X5_readNumbers ml_X5_81 ⟨rfl, rfl, Nat.le_of_ble_eq_true rfl, Nat.le_of_ble_eq_true rfl⟩ rfl hl.1 rfl (Nat.le_of_ble_eq_true rfl) ⟨Nat.zero_le _, Nat.zero_le _⟩ dX5_readBox_125) (fun r33 H locs pr33 hG => ?_)
              have pr33 : (0 ≤ r33.toInt ∧ r33.toInt ≤ 1) ∧ tSl G H h0 4 5 (.int z10) := pr33
              have fv34 := pr33.2
              refine lv_if_eq (tgt := 144) hx hb dX5_readBox_128 (by decide) (fun c35 => ?_) (fun c35 => ?_)
              · skip
                have ic35 := tn_eq rfl kI_0 c35
                refine lv_iconst (v := 0) hx hb dX5_readBox_144 (by decide) ?_
                exact tc_retH E hr hlk hG (t_nz (by decide) (by decide)).1 ⟨⟨by have kk := kI_0; omega, by have kk := kI_0; omega⟩, z10, fv34, by omega, by omega, by have kk := kI_0; omega⟩ dX5_readBox_145
              · skip
                have ic35 := tn_ne rfl kI_0 c35
                refine lv_aload_n hx hb dX5_readBox_131 rfl (lv_at hl 3 rfl) ?_
                refine lv_iload hx hb dX5_readBox_132 (lv_at hl 0 rfl) ?_
                refine tc_calliH hG (tc_runVH (As := [.int gn]) (rest := []) E hSt hG (c_X5_readShare l G τ h0 gn t0 (by omega) (by omega) z10 (by omega) (by omega)) (fv34) t0 rv_22 kv_X5_readShare ml_X5_84 ⟨rfl, rfl, Nat.le_of_ble_eq_true rfl, Nat.le_of_ble_eq_true rfl⟩ rfl hl.1 rfl (Nat.le_of_ble_eq_true rfl) ⟨Nat.zero_le _, Nat.zero_le _⟩ dX5_readBox_134) (fun r36 H locs pr36 hG => ?_)
                have pr36 : (0 ≤ r36.toInt ∧ r36.toInt ≤ 1) ∧ tSl G H h0 4 5 (.int z10) := pr36
                have fv37 := pr36.2
                refine lv_if_eq (tgt := 144) hx hb dX5_readBox_137 (by decide) (fun c38 => ?_) (fun c38 => ?_)
                · skip
                  have ic38 := tn_eq rfl kI_0 c38
                  refine lv_iconst (v := 0) hx hb dX5_readBox_144 (by decide) ?_
                  exact tc_retH E hr hlk hG (t_nz (by decide) (by decide)).1 ⟨⟨by have kk := kI_0; omega, by have kk := kI_0; omega⟩, z10, fv37, by omega, by omega, by have kk := kI_0; omega⟩ dX5_readBox_145
                · skip
                  have ic38 := tn_ne rfl kI_0 c38
                  refine lv_iconst (v := 1) hx hb dX5_readBox_140 (by decide) ?_
                  refine lv_goto (tgt := 145) hx hb dX5_readBox_141 (by decide) ?_
                  exact tc_retH E hr hlk hG (t_nz (by decide) (by decide)).1 ⟨⟨by have kk := kI_1; omega, by have kk := kI_1; omega⟩, z10, fv37, by omega, by omega, by have kk := kI_1; omega⟩ dX5_readBox_145
            · exfalso
              have ic32 := tn_ne rfl kI_m1 c32
              omega
          · skip
            have ic9 := tn_eq rfl kI_m1 c9
            refine lv_iconst (v := 0) hx hb dX5_readBox_65 (by decide) ?_
            exact tc_retH E hr hlk hG (t_nz (by decide) (by decide)).1 ⟨⟨by have kk := kI_0; omega, by have kk := kI_0; omega⟩, gn, fv8, by omega, by omega, by have kk := kI_0; omega⟩ dX5_readBox_66
        · skip
          have ic6 := tn_nlt rfl kI_24 c6
          refine lv_iconst (v := 0) hx hb dX5_readBox_53 (by decide) ?_
          exact tc_retH E hr hlk hG (t_nz (by decide) (by decide)).1 ⟨⟨by have kk := kI_0; omega, by have kk := kI_0; omega⟩, gn, hΦ, by omega, by omega, by have kk := kI_0; omega⟩ dX5_readBox_54
  · skip
    have ic1 := tn_ne rfl kI_m1 c1
    refine lv_aload_n hx hb dX5_readBox_5 rfl (lv_at hl 0 rfl) ?_
    refine tc_getrS E hG t0 frw_X5_21 dX5_readBox_6 (fun oa39 hoa39 fv40 => ?_)
    have fv40 := fv40 _ rfl
    refine lv_iload_n hx hb dX5_readBox_9 rfl (lv_at hl 1 rfl) ?_
    refine tc_iald E hG hoa39 ta_15 (t_in (by omega) (by omega)) dX5_readBox_10 (fun z41 _ _ => ?_)
    refine lv_aload_n hx hb dX5_readBox_11 rfl (lv_at hl 0 rfl) ?_
    refine tc_getrS E hG t0 frw_X5_9 dX5_readBox_12 (fun oa42 hoa42 fv43 => ?_)
    have fv43 := fv43 _ rfl
    refine lv_iload_n hx hb dX5_readBox_15 rfl (lv_at hl 1 rfl) ?_
    refine tc_iald E hG hoa42 ta_15 (t_in (by omega) (by omega)) dX5_readBox_16 (fun z44 _ _ => ?_)
    refine tc_callp (tc_runS (As := [.int z44]) (rest := [.int z41]) E hSt hG (c_X1_childrenOf l G τ z44) ks_X1_childrenOf ml_X5_72 ⟨rfl, rfl, Nat.le_of_ble_eq_true rfl, Nat.le_of_ble_eq_true rfl⟩ rfl hl.1 rfl (Nat.le_of_ble_eq_true rfl) ⟨Nat.zero_le _, Nat.zero_le _⟩ dX5_readBox_17) (fun r45 pr45 => ?_)
    have pr45 : 0 ≤ r45.toInt ∧ r45.toInt ≤ 8 := pr45
    refine lv_icmp_ge (tgt := 27) hx hb dX5_readBox_20 (by decide) (fun c46 => ?_) (fun c46 => ?_)
    · skip
      have ic46 := tn_le rfl rfl c46
      refine lv_iconst (v := 0) hx hb dX5_readBox_27 (by decide) ?_
      refine lv_istore_n (lv' := [(2, .int 0), (0, .ref h0), (1, .int x1)]) hx hb dX5_readBox_28 rfl hl (by decide) rfl (fun ls hl => ?_)
      refine lv_iload_n hx hb dX5_readBox_29 rfl (lv_at hl 0 rfl) ?_
      refine lv_if_eq (tgt := 53) hx hb dX5_readBox_30 (by decide) (fun c47 => ?_) (fun c47 => ?_)
      · skip
        have ic47 := tn_eq kI_0 kI_0 c47
        refine lv_iconst (v := 0) hx hb dX5_readBox_53 (by decide) ?_
        exact tc_retH E hr hlk hG (t_nz (by decide) (by decide)).1 ⟨⟨by have kk := kI_0; omega, by have kk := kI_0; omega⟩, gn, hΦ, by omega, by omega, by have kk := kI_0; omega⟩ dX5_readBox_54
      · exfalso
        have ic47 := tn_ne kI_0 kI_0 c47
        omega
    · skip
      have ic46 := tn_nle rfl rfl c46
      refine lv_iconst (v := 1) hx hb dX5_readBox_23 (by decide) ?_
      refine lv_goto (tgt := 28) hx hb dX5_readBox_24 (by decide) ?_
      refine lv_istore_n (lv' := [(2, .int 1), (0, .ref h0), (1, .int x1)]) hx hb dX5_readBox_28 rfl hl (by decide) rfl (fun ls hl => ?_)
      refine lv_iload_n hx hb dX5_readBox_29 rfl (lv_at hl 0 rfl) ?_
      refine lv_if_eq (tgt := 53) hx hb dX5_readBox_30 (by decide) (fun c48 => ?_) (fun c48 => ?_)
      · exfalso
        have ic48 := tn_eq kI_1 kI_0 c48
        omega
      · skip
        have ic48 := tn_ne kI_1 kI_0 c48
        refine lv_aload_n hx hb dX5_readBox_33 rfl (lv_at hl 1 rfl) ?_
        refine tc_seen E ff_X5_49 hΦ dX5_readBox_34 ?_
        refine lv_aload_n hx hb dX5_readBox_37 rfl (lv_at hl 1 rfl) ?_
        refine tc_getiS E hG t0 fiw_X5_43 dX5_readBox_38 (fun z49 lz49 uz49 fv50 => ?_)
        have fv50 := fv50 _ rfl
        refine lv_icmp_ge (tgt := 53) hx hb dX5_readBox_41 (by decide) (fun c51 => ?_) (fun c51 => ?_)
        · skip
          have ic51 := tn_le rfl rfl c51
          refine lv_iconst (v := 0) hx hb dX5_readBox_53 (by decide) ?_
          exact tc_retH E hr hlk hG (t_nz (by decide) (by decide)).1 ⟨⟨by have kk := kI_0; omega, by have kk := kI_0; omega⟩, gn, hΦ, by omega, by omega, by have kk := kI_0; omega⟩ dX5_readBox_54
        · skip
          have ic51 := tn_nle rfl rfl c51
          refine lv_aload_n hx hb dX5_readBox_44 rfl (lv_at hl 1 rfl) ?_
          refine tc_seen E ff_X5_49 hΦ dX5_readBox_45 ?_
          refine lv_bipush (v := 24) hx hb dX5_readBox_48 (by decide) ?_
          refine lv_icmp_lt (tgt := 55) hx hb dX5_readBox_50 (by decide) (fun c52 => ?_) (fun c52 => ?_)
          · skip
            have ic52 := tn_lt rfl kI_24 c52
            refine lv_aload_n hx hb dX5_readBox_55 rfl (lv_at hl 1 rfl) ?_
            refine tc_calliH hG (tc_runVH (As := []) (rest := []) E hSt hG (c_X5_readName l G τ h0 t0 gn (by omega) (by omega)) (hΦ) t0 rv_22 kv_X5_readName ml_X5_78 ⟨rfl, rfl, Nat.le_of_ble_eq_true rfl, Nat.le_of_ble_eq_true rfl⟩ rfl hl.1 rfl (Nat.le_of_ble_eq_true rfl) ⟨Nat.zero_le _, Nat.zero_le _⟩ dX5_readBox_56) (fun r53 H locs pr53 hG => ?_)
            have pr53 : (-1 ≤ r53.toInt ∧ r53.toInt ≤ 9) ∧ tSl G H h0 4 5 (.int gn) := pr53
            have fv54 := pr53.2
            refine lv_istore_n (lv' := [(3, .int r53), (2, .int 1), (0, .ref h0), (1, .int x1)]) hx hb dX5_readBox_59 rfl hl (by decide) rfl (fun ls hl => ?_)
            refine lv_iload_n hx hb dX5_readBox_60 rfl (lv_at hl 0 rfl) ?_
            refine lv_iconst (v := -1) hx hb dX5_readBox_61 (by decide) ?_
            refine lv_icmp_ne (tgt := 67) hx hb dX5_readBox_62 (by decide) (fun c55 => ?_) (fun c55 => ?_)
            · skip
              have ic55 := tn_ne rfl kI_m1 c55
              refine lv_aload_n hx hb dX5_readBox_67 rfl (lv_at hl 2 rfl) ?_
              refine tc_seen E ff_X5_49 fv54 dX5_readBox_68 ?_
              refine lv_istore (lv' := [(4, .int gn), (3, .int r53), (2, .int 1), (0, .ref h0), (1, .int x1)]) hx hb dX5_readBox_71 hl (by decide) rfl (fun ls hl => ?_)
              refine lv_aload_n hx hb dX5_readBox_73 rfl (lv_at hl 3 rfl) ?_
              refine lv_dup hx hb dX5_readBox_74 rfl ?_
              refine tc_seen E ff_X5_49 fv54 dX5_readBox_75 ?_
              refine lv_iconst (v := 1) hx hb dX5_readBox_78 (by decide) ?_
              refine lv_iadd hx hb dX5_readBox_79 ?_
              refine lv_topi (fun z56 ez56 => ?_)
              have tz56 := tn_add ez56 rfl kI_1 (by omega) (by omega)
              refine tc_putS E hG t0 fpw_X5_49 (by omega) (by omega) rfl rfl dX5_readBox_80 (fun H locs hG oq58 sl57 => ?_)
              have fv59 := (sl57 _ rfl).1
              refine lv_aload_n hx hb dX5_readBox_83 rfl (lv_at hl 3 rfl) ?_
              refine tc_getrS E hG t0 frw_X5_9 dX5_readBox_84 (fun oa60 hoa60 fv61 => ?_)
              have fv61 := fv61 _ rfl
              refine lv_iload hx hb dX5_readBox_87 (lv_at hl 0 rfl) ?_
              refine lv_iload_n hx hb dX5_readBox_89 rfl (lv_at hl 1 rfl) ?_
              refine tc_iastS E hG hoa60 ta_15 (t_in (by omega) (by omega)) (t_any1 _) (t_any2 _) dX5_readBox_90 (fun H locs hG oq62 => ?_)
              have fv63 := tSl.kept fv59 (oq62 _ (t_apart t0 hoa60 (by decide)))
              have fv64 := tSl.kept fv61 (oq62 _ (t_apart t0 hoa60 (by decide)))
              refine lv_aload_n hx hb dX5_readBox_91 rfl (lv_at hl 3 rfl) ?_
              refine tc_getrS E hG t0 frw_X5_15 dX5_readBox_92 (fun oa65 hoa65 fv66 => ?_)
              have fv66 := fv66 _ rfl
              refine lv_iload hx hb dX5_readBox_95 (lv_at hl 0 rfl) ?_
              refine lv_iload_n hx hb dX5_readBox_97 rfl (lv_at hl 4 rfl) ?_
              refine tc_iastS E hG hoa65 ta_16 (t_in (by omega) (by omega)) (by omega) (by omega) dX5_readBox_98 (fun H locs hG oq67 => ?_)
              have fv68 := tSl.kept fv63 (oq67 _ (t_apart t0 hoa65 (by decide)))
              have fv69 := tSl.kept fv64 (oq67 _ (t_apart t0 hoa65 (by decide)))
              have fv70 := tSl.kept fv66 (oq67 _ (t_apart t0 hoa65 (by decide)))
              refine lv_aload_n hx hb dX5_readBox_99 rfl (lv_at hl 3 rfl) ?_
              refine tc_getrS E hG t0 frw_X5_21 dX5_readBox_100 (fun oa71 hoa71 fv72 => ?_)
              have fv72 := fv72 _ rfl
              refine lv_iload hx hb dX5_readBox_103 (lv_at hl 0 rfl) ?_
              refine lv_iconst (v := 0) hx hb dX5_readBox_105 (by decide) ?_
              refine tc_iastS E hG hoa71 ta_15 (t_in (by omega) (by omega)) (t_any1 _) (t_any2 _) dX5_readBox_106 (fun H locs hG oq73 => ?_)
              have fv74 := tSl.kept fv68 (oq73 _ (t_apart t0 hoa71 (by decide)))
              have fv75 := tSl.kept fv69 (oq73 _ (t_apart t0 hoa71 (by decide)))
              have fv76 := tSl.kept fv70 (oq73 _ (t_apart t0 hoa71 (by decide)))
              have fv77 := tSl.kept fv72 (oq73 _ (t_apart t0 hoa71 (by decide)))
              refine lv_iload_n hx hb dX5_readBox_107 rfl (lv_at hl 4 rfl) ?_
              refine lv_iconst (v := -1) hx hb dX5_readBox_108 (by decide) ?_
              refine lv_icmp_eq (tgt := 122) hx hb dX5_readBox_109 (by decide) (fun c78 => ?_) (fun c78 => ?_)
              · exfalso
                have ic78 := tn_eq rfl kI_m1 c78
                omega
              · skip
                have ic78 := tn_ne rfl kI_m1 c78
                refine lv_aload_n hx hb dX5_readBox_112 rfl (lv_at hl 3 rfl) ?_
                refine tc_seen E ff_X5_21 fv77 dX5_readBox_113 ?_
                refine lv_iload_n hx hb dX5_readBox_116 rfl (lv_at hl 4 rfl) ?_
                refine lv_dup2_11 hx hb dX5_readBox_117 rfl rfl ?_
                refine tc_iald E hG hoa71 ta_15 (t_in (by omega) (by omega)) dX5_readBox_118 (fun z79 _ _ => ?_)
                refine lv_iconst (v := 1) hx hb dX5_readBox_119 (by decide) ?_
                refine lv_iadd hx hb dX5_readBox_120 ?_
                refine lv_topi (fun z80 ez80 => ?_)
                refine tc_iastS E hG hoa71 ta_15 (t_in (by omega) (by omega)) (t_any1 _) (t_any2 _) dX5_readBox_121 (fun H locs hG oq81 => ?_)
                have fv82 := tSl.kept fv74 (oq81 _ (t_apart t0 hoa71 (by decide)))
                have fv83 := tSl.kept fv75 (oq81 _ (t_apart t0 hoa71 (by decide)))
                have fv84 := tSl.kept fv76 (oq81 _ (t_apart t0 hoa71 (by decide)))
                have fv85 := tSl.kept fv77 (oq81 _ (t_apart t0 hoa71 (by decide)))
                refine lv_aload_n hx hb dX5_readBox_122 rfl (lv_at hl 3 rfl) ?_
                refine lv_iload hx hb dX5_readBox_123 (lv_at hl 0 rfl) ?_
                refine tc_calliH hG (tc_runVH (As := [.int gn]) (rest := []) E hSt hG (c_X5_readNumbers l G τ h0 gn t0 (by omega) (by omega) z56 (by omega) (by omega)) (fv82) t0 rv_22 kv_X5_readNumbers ml_X5_81 ⟨rfl, rfl, Nat.le_of_ble_eq_true rfl, Nat.le_of_ble_eq_true rfl⟩ rfl hl.1 rfl (Nat.le_of_ble_eq_true rfl) ⟨Nat.zero_le _, Nat.zero_le _⟩ dX5_readBox_125) (fun r86 H locs pr86 hG => ?_)
                have pr86 : (0 ≤ r86.toInt ∧ r86.toInt ≤ 1) ∧ tSl G H h0 4 5 (.int z56) := pr86
                have fv87 := pr86.2
                refine lv_if_eq (tgt := 144) hx hb dX5_readBox_128 (by decide) (fun c88 => ?_) (fun c88 => ?_)
                · skip
                  have ic88 := tn_eq rfl kI_0 c88
                  refine lv_iconst (v := 0) hx hb dX5_readBox_144 (by decide) ?_
                  exact tc_retH E hr hlk hG (t_nz (by decide) (by decide)).1 ⟨⟨by have kk := kI_0; omega, by have kk := kI_0; omega⟩, z56, fv87, by omega, by omega, by have kk := kI_0; omega⟩ dX5_readBox_145
                · skip
                  have ic88 := tn_ne rfl kI_0 c88
                  refine lv_aload_n hx hb dX5_readBox_131 rfl (lv_at hl 3 rfl) ?_
                  refine lv_iload hx hb dX5_readBox_132 (lv_at hl 0 rfl) ?_
                  refine tc_calliH hG (tc_runVH (As := [.int gn]) (rest := []) E hSt hG (c_X5_readShare l G τ h0 gn t0 (by omega) (by omega) z56 (by omega) (by omega)) (fv87) t0 rv_22 kv_X5_readShare ml_X5_84 ⟨rfl, rfl, Nat.le_of_ble_eq_true rfl, Nat.le_of_ble_eq_true rfl⟩ rfl hl.1 rfl (Nat.le_of_ble_eq_true rfl) ⟨Nat.zero_le _, Nat.zero_le _⟩ dX5_readBox_134) (fun r89 H locs pr89 hG => ?_)
                  have pr89 : (0 ≤ r89.toInt ∧ r89.toInt ≤ 1) ∧ tSl G H h0 4 5 (.int z56) := pr89
                  have fv90 := pr89.2
                  refine lv_if_eq (tgt := 144) hx hb dX5_readBox_137 (by decide) (fun c91 => ?_) (fun c91 => ?_)
                  · skip
                    have ic91 := tn_eq rfl kI_0 c91
                    refine lv_iconst (v := 0) hx hb dX5_readBox_144 (by decide) ?_
                    exact tc_retH E hr hlk hG (t_nz (by decide) (by decide)).1 ⟨⟨by have kk := kI_0; omega, by have kk := kI_0; omega⟩, z56, fv90, by omega, by omega, by have kk := kI_0; omega⟩ dX5_readBox_145
                  · skip
                    have ic91 := tn_ne rfl kI_0 c91
                    refine lv_iconst (v := 1) hx hb dX5_readBox_140 (by decide) ?_
                    refine lv_goto (tgt := 145) hx hb dX5_readBox_141 (by decide) ?_
                    exact tc_retH E hr hlk hG (t_nz (by decide) (by decide)).1 ⟨⟨by have kk := kI_1; omega, by have kk := kI_1; omega⟩, z56, fv90, by omega, by omega, by have kk := kI_1; omega⟩ dX5_readBox_145
            · skip
              have ic55 := tn_eq rfl kI_m1 c55
              refine lv_iconst (v := 0) hx hb dX5_readBox_65 (by decide) ?_
              exact tc_retH E hr hlk hG (t_nz (by decide) (by decide)).1 ⟨⟨by have kk := kI_0; omega, by have kk := kI_0; omega⟩, gn, fv54, by omega, by omega, by have kk := kI_0; omega⟩ dX5_readBox_66
          · skip
            have ic52 := tn_nlt rfl kI_24 c52
            refine lv_iconst (v := 0) hx hb dX5_readBox_53 (by decide) ?_
            exact tc_retH E hr hlk hG (t_nz (by decide) (by decide)).1 ⟨⟨by have kk := kI_0; omega, by have kk := kI_0; omega⟩, gn, hΦ, by omega, by omega, by have kk := kI_0; omega⟩ dX5_readBox_54
