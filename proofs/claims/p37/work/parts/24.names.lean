set_option maxHeartbeats 4000000 in
set_option maxRecDepth 100000 in
theorem c_J0_coder_7d493 (l : Launch) (G : tG) (τ : Nat → Nat) (k0 : Nat) (hk0 : k0 < 10) : Met l yJ0_coder_7d493 (.code yJ0_coder_7d493 cJ0_coder_7d493 1 (some .byte) :: tWS) (tRm 0 0) (va_Pc [.ref (G.2.2.2.1 k0)] (tPre G τ)) (tQp (fun r => r.toInt = 0)) 0 0 tNo := by
  refine tc_met (by decide) (Nat.le_of_ble_eq_true rfl) ?_
  intro p e s m below meth c E hSt hr hlk hG ls hl
  have hl : lv_has ls 1 [(0, .ref (G.2.2.2.1 k0))] := hl
  have hx := E.1
  have hb := E.2.1
  obtain ⟨H, eH⟩ : ∃ H, H = s.heap := ⟨_, rfl⟩
  obtain ⟨locs, eL⟩ : ∃ x : List Loc, x = [] := ⟨_, rfl⟩
  have hG : tGH G τ s H locs := by rw [eH, eL]; exact hG
  suffices hW : W p l e (tRm 0 0) s m ([.ref (G.2.2.2.1 k0)] : List Value).toArray below meth c H locs 0 0 (MQ below (tQp (fun r => r.toInt = 0)) ([.ref (G.2.2.2.1 k0)] : List Value).toArray s 0 0 tNo) (F0 m 0 ls []) by subst eH; subst eL; exact hW
  refine va_gets hx hb hSt.2.2.2.1 hG.2 E.2.2.2.1 (E.2.2.2.2.1 _ (t_w3 189 rfl rfl)) (fun _ h => h) dJ0_coder_7d493_0 ?_
  refine lv_if_eq (tgt := 13) hx hb dJ0_coder_7d493_3 (by decide) (fun c1 => ?_) (fun c1 => ?_)
  · exfalso
    have ic1 := tn_eq kI_1 kI_0 c1
    omega
  · skip
    have ic1 := tn_ne kI_1 kI_0 c1
    refine lv_aload_n hx hb dJ0_coder_7d493_6 rfl (lv_at hl 0 rfl) ?_
    refine vk_getf hx hb (hSt.2.1.1 k0 hk0).2.1 hG.2 E.2.2.2.1 (E.2.2.2.2.1 _ (t_w8 172 rfl rfl)) (fun _ h => h) dJ0_coder_7d493_7 ?_
    refine lv_goto (tgt := 14) hx hb dJ0_coder_7d493_10 (by decide) ?_
    exact tc_pret E hr hlk eH eL (by decide) (show (0 : Int32).toInt = 0 by have kk := kI_0; omega) dJ0_coder_7d493_14

set_option maxHeartbeats 4000000 in
set_option maxRecDepth 100000 in
theorem c_J0_isLatin1_aae02 (l : Launch) (G : tG) (τ : Nat → Nat) (k0 : Nat) (hk0 : k0 < 10) : Met l yJ0_isLatin1_aae02 (.code yJ0_isLatin1_aae02 cJ0_isLatin1_aae02 1 (some .boolean) :: tWS) (tRm 0 0) (va_Pc [.ref (G.2.2.2.1 k0)] (tPre G τ)) (tQp (fun r => r.toInt = 1)) 0 0 tNo := by
  refine tc_met (by decide) (Nat.le_of_ble_eq_true rfl) ?_
  intro p e s m below meth c E hSt hr hlk hG ls hl
  have hl : lv_has ls 1 [(0, .ref (G.2.2.2.1 k0))] := hl
  have hx := E.1
  have hb := E.2.1
  obtain ⟨H, eH⟩ : ∃ H, H = s.heap := ⟨_, rfl⟩
  obtain ⟨locs, eL⟩ : ∃ x : List Loc, x = [] := ⟨_, rfl⟩
  have hG : tGH G τ s H locs := by rw [eH, eL]; exact hG
  suffices hW : W p l e (tRm 0 0) s m ([.ref (G.2.2.2.1 k0)] : List Value).toArray below meth c H locs 0 0 (MQ below (tQp (fun r => r.toInt = 1)) ([.ref (G.2.2.2.1 k0)] : List Value).toArray s 0 0 tNo) (F0 m 0 ls []) by subst eH; subst eL; exact hW
  refine va_gets hx hb hSt.2.2.2.1 hG.2 E.2.2.2.1 (E.2.2.2.2.1 _ (t_w3 189 rfl rfl)) (fun _ h => h) dJ0_isLatin1_aae02_0 ?_
  refine lv_if_eq (tgt := 17) hx hb dJ0_isLatin1_aae02_3 (by decide) (fun c1 => ?_) (fun c1 => ?_)
  · exfalso
    have ic1 := tn_eq kI_1 kI_0 c1
    omega
  · skip
    have ic1 := tn_ne kI_1 kI_0 c1
    refine lv_aload_n hx hb dJ0_isLatin1_aae02_6 rfl (lv_at hl 0 rfl) ?_
    refine vk_getf hx hb (hSt.2.1.1 k0 hk0).2.1 hG.2 E.2.2.2.1 (E.2.2.2.2.1 _ (t_w8 172 rfl rfl)) (fun _ h => h) dJ0_isLatin1_aae02_7 ?_
    refine lv_if_ne (tgt := 17) hx hb dJ0_isLatin1_aae02_10 (by decide) (fun c2 => ?_) (fun c2 => ?_)
    · exfalso
      have ic2 := tn_ne kI_0 kI_0 c2
      omega
    · skip
      have ic2 := tn_eq kI_0 kI_0 c2
      refine lv_iconst (v := 1) hx hb dJ0_isLatin1_aae02_13 (by decide) ?_
      refine lv_goto (tgt := 18) hx hb dJ0_isLatin1_aae02_14 (by decide) ?_
      exact tc_pret E hr hlk eH eL (t_nz (by decide) (by decide)).1 (show (1 : Int32).toInt = 1 by have kk := kI_1; omega) dJ0_isLatin1_aae02_18

set_option maxHeartbeats 4000000 in
set_option maxRecDepth 100000 in
theorem c_J3_checkIndex_8e157_n (l : Launch) (G : tG) (τ : Nat → Nat) (x0 : Int32) (x1 : Int32) (l0 : 0 ≤ x0.toInt) (hlt : x0.toInt < x1.toInt) : Met l yJ3_checkIndex_8e157 (.code yJ3_checkIndex_8e157 cJ3_checkIndex_8e157 3 (some .int) :: tWS) (tRm 0 0) (va_Pc [.int x0, .int x1, .null] (tPre G τ)) (tQp (fun r => True)) 0 0 tNo := by
  refine tc_met (by decide) (Nat.le_of_ble_eq_true rfl) ?_
  intro p e s m below meth c E hSt hr hlk hG ls hl
  have hl : lv_has ls 3 [(0, .int x0), (1, .int x1), (2, .null)] := hl
  have hx := E.1
  have hb := E.2.1
  obtain ⟨H, eH⟩ : ∃ H, H = s.heap := ⟨_, rfl⟩
  obtain ⟨locs, eL⟩ : ∃ x : List Loc, x = [] := ⟨_, rfl⟩
  have hG : tGH G τ s H locs := by rw [eH, eL]; exact hG
  suffices hW : W p l e (tRm 0 0) s m ([.int x0, .int x1, .null] : List Value).toArray below meth c H locs 0 0 (MQ below (tQp (fun r => True)) ([.int x0, .int x1, .null] : List Value).toArray s 0 0 tNo) (F0 m 0 ls []) by subst eH; subst eL; exact hW
  refine lv_iload_n hx hb dJ3_checkIndex_8e157_0 rfl (lv_at hl 0 rfl) ?_
  refine lv_if_lt (tgt := 9) hx hb dJ3_checkIndex_8e157_1 (by decide) (fun c1 => ?_) (fun c1 => ?_)
  · exfalso
    have ic1 := tn_lt rfl kI_0 c1
    omega
  · skip
    have ic1 := tn_nlt rfl kI_0 c1
    refine lv_iload_n hx hb dJ3_checkIndex_8e157_4 rfl (lv_at hl 0 rfl) ?_
    refine lv_iload_n hx hb dJ3_checkIndex_8e157_5 rfl (lv_at hl 1 rfl) ?_
    refine lv_icmp_lt (tgt := 16) hx hb dJ3_checkIndex_8e157_6 (by decide) (fun c2 => ?_) (fun c2 => ?_)
    · skip
      have ic2 := tn_lt rfl rfl c2
      refine lv_iload_n hx hb dJ3_checkIndex_8e157_16 rfl (lv_at hl 0 rfl) ?_
      exact tc_pret E hr hlk eH eL rfl trivial dJ3_checkIndex_8e157_17
    · skip
      have ic2 := tn_nlt rfl rfl c2
      exfalso; omega

set_option maxHeartbeats 4000000 in
set_option maxRecDepth 100000 in
theorem c_J3_checkIndex_8e157_o (l : Launch) (G : tG) (τ : Nat → Nat) (x0 : Int32) (x1 : Int32) (h2 : Nat) (l0 : 0 ≤ x0.toInt) (hlt : x0.toInt < x1.toInt) : Met l yJ3_checkIndex_8e157 (.code yJ3_checkIndex_8e157 cJ3_checkIndex_8e157 3 (some .int) :: tWS) (tRm 0 0) (va_Pc [.int x0, .int x1, .ref h2] (tPre G τ)) (tQp (fun r => True)) 0 0 tNo := by
  refine tc_met (by decide) (Nat.le_of_ble_eq_true rfl) ?_
  intro p e s m below meth c E hSt hr hlk hG ls hl
  have hl : lv_has ls 3 [(0, .int x0), (1, .int x1), (2, .ref h2)] := hl
  have hx := E.1
  have hb := E.2.1
  obtain ⟨H, eH⟩ : ∃ H, H = s.heap := ⟨_, rfl⟩
  obtain ⟨locs, eL⟩ : ∃ x : List Loc, x = [] := ⟨_, rfl⟩
  have hG : tGH G τ s H locs := by rw [eH, eL]; exact hG
  suffices hW : W p l e (tRm 0 0) s m ([.int x0, .int x1, .ref h2] : List Value).toArray below meth c H locs 0 0 (MQ below (tQp (fun r => True)) ([.int x0, .int x1, .ref h2] : List Value).toArray s 0 0 tNo) (F0 m 0 ls []) by subst eH; subst eL; exact hW
  refine lv_iload_n hx hb dJ3_checkIndex_8e157_0 rfl (lv_at hl 0 rfl) ?_
  refine lv_if_lt (tgt := 9) hx hb dJ3_checkIndex_8e157_1 (by decide) (fun c1 => ?_) (fun c1 => ?_)
  · exfalso
    have ic1 := tn_lt rfl kI_0 c1
    omega
  · skip
    have ic1 := tn_nlt rfl kI_0 c1
    refine lv_iload_n hx hb dJ3_checkIndex_8e157_4 rfl (lv_at hl 0 rfl) ?_
    refine lv_iload_n hx hb dJ3_checkIndex_8e157_5 rfl (lv_at hl 1 rfl) ?_
    refine lv_icmp_lt (tgt := 16) hx hb dJ3_checkIndex_8e157_6 (by decide) (fun c2 => ?_) (fun c2 => ?_)
    · skip
      have ic2 := tn_lt rfl rfl c2
      refine lv_iload_n hx hb dJ3_checkIndex_8e157_16 rfl (lv_at hl 0 rfl) ?_
      exact tc_pret E hr hlk eH eL rfl trivial dJ3_checkIndex_8e157_17
    · skip
      have ic2 := tn_nlt rfl rfl c2
      exfalso; omega

set_option maxHeartbeats 4000000 in
set_option maxRecDepth 100000 in
theorem c_J0_checkIndex_df160 (l : Launch) (G : tG) (τ : Nat → Nat) (x0 : Int32) (x1 : Int32) (l0 : 0 ≤ x0.toInt) (hlt : x0.toInt < x1.toInt) : Met l yJ0_checkIndex_df160 (.code yJ0_checkIndex_df160 cJ0_checkIndex_df160 2 none :: tWS) (tRm 1 22) (va_Pc [.int x0, .int x1] (tPre G τ)) (tQv G τ) 0 0 (tA τ) := by
  refine tc_met (by decide) (Nat.le_of_ble_eq_true rfl) ?_
  intro p e s m below meth c E hSt hr hlk hG ls hl
  have hl : lv_has ls 2 [(0, .int x0), (1, .int x1)] := hl
  have hx := E.1
  have hb := E.2.1
  obtain ⟨H, eH⟩ : ∃ H, H = s.heap := ⟨_, rfl⟩
  obtain ⟨locs, eL⟩ : ∃ x : List Loc, x = [] := ⟨_, rfl⟩
  have hG : tGH G τ s H locs := by rw [eH, eL]; exact hG
  suffices hW : W p l e (tRm 1 22) s m ([.int x0, .int x1] : List Value).toArray below meth c H locs 0 0 (MQ below (tQv G τ) ([.int x0, .int x1] : List Value).toArray s 0 0 (tA τ)) (F0 m 0 ls []) by subst eH; subst eL; exact hW
  clear eH eL
  refine lv_iload_n hx hb dJ0_checkIndex_df160_0 rfl (lv_at hl 0 rfl) ?_
  refine lv_iload_n hx hb dJ0_checkIndex_df160_1 rfl (lv_at hl 1 rfl) ?_
  rcases hSt.2.2.2.2.1 with hZ | ⟨tf, hZ⟩
  · refine va_gets hx hb hZ hG.2 E.2.2.2.1 (E.2.2.2.2.1 _ (t_w3 205 rfl rfl)) (fun _ h => h) dJ0_checkIndex_df160_2 ?_
    refine tc_callp (tc_runS (As := [.int x0, .int x1, .null]) (rest := []) E hSt hG (c_J3_checkIndex_8e157_n l G τ x0 x1 (by omega) (by omega)) ks_J3_checkIndex_8e157 ml_J0_1059 ⟨rfl, rfl, Nat.le_of_ble_eq_true rfl, Nat.le_of_ble_eq_true rfl⟩ rfl hl.1 rfl (Nat.le_of_ble_eq_true rfl) ⟨Nat.zero_le _, Nat.zero_le _⟩ dJ0_checkIndex_df160_5) (fun r1 pr1 => ?_)
    refine lv_pop hx hb dJ0_checkIndex_df160_8 rfl ?_
    exact tc_vret E hr hlk hG dJ0_checkIndex_df160_9
  · refine va_gets hx hb hZ hG.2 E.2.2.2.1 (E.2.2.2.2.1 _ (t_w3 205 rfl rfl)) (fun _ h => h) dJ0_checkIndex_df160_2 ?_
    refine tc_callp (tc_runS (As := [.int x0, .int x1, .ref tf]) (rest := []) E hSt hG (c_J3_checkIndex_8e157_o l G τ x0 x1 tf (by omega) (by omega)) ks_J3_checkIndex_8e157 ml_J0_1059 ⟨rfl, rfl, Nat.le_of_ble_eq_true rfl, Nat.le_of_ble_eq_true rfl⟩ rfl hl.1 rfl (Nat.le_of_ble_eq_true rfl) ⟨Nat.zero_le _, Nat.zero_le _⟩ dJ0_checkIndex_df160_5) (fun r2 pr2 => ?_)
    refine lv_pop hx hb dJ0_checkIndex_df160_8 rfl ?_
    exact tc_vret E hr hlk hG dJ0_checkIndex_df160_9

set_option maxHeartbeats 4000000 in
set_option maxRecDepth 100000 in
theorem c_J1_charAt_3b067 (l : Launch) (G : tG) (τ : Nat → Nat) (k0 : Nat) (x1 : Int32) (hk0 : k0 < 10) (l1 : 0 ≤ x1.toInt) (u1 : x1.toInt ≤ 6) (hlt : x1.toInt < ((tXl.getD k0 0 : Nat) : Int)) : Met l yJ1_charAt_3b067 (.code yJ1_charAt_3b067 cJ1_charAt_3b067 2 (some .char) :: tWS) (tRm 2 43) (va_Pc [.ref (G.2.2.2.2.1 k0), .int x1] (tPre G τ)) (tQi G τ (fun r => 0 ≤ r.toInt ∧ r.toInt ≤ 65535)) 0 0 (tA τ) := by
  refine tc_met (by decide) (Nat.le_of_ble_eq_true rfl) ?_
  intro p e s m below meth c E hSt hr hlk hG ls hl
  have hl : lv_has ls 2 [(0, .ref (G.2.2.2.2.1 k0)), (1, .int x1)] := hl
  have hx := E.1
  have hb := E.2.1
  obtain ⟨H, eH⟩ : ∃ H, H = s.heap := ⟨_, rfl⟩
  obtain ⟨locs, eL⟩ : ∃ x : List Loc, x = [] := ⟨_, rfl⟩
  have hG : tGH G τ s H locs := by rw [eH, eL]; exact hG
  suffices hW : W p l e (tRm 2 43) s m ([.ref (G.2.2.2.2.1 k0), .int x1] : List Value).toArray below meth c H locs 0 0 (MQ below (tQi G τ (fun r => 0 ≤ r.toInt ∧ r.toInt ≤ 65535)) ([.ref (G.2.2.2.2.1 k0), .int x1] : List Value).toArray s 0 0 (tA τ)) (F0 m 0 ls []) by subst eH; subst eL; exact hW
  clear eH eL
  refine lv_iload_n hx hb dJ1_charAt_3b067_0 rfl (lv_at hl 1 rfl) ?_
  refine lv_aload_n hx hb dJ1_charAt_3b067_1 rfl (lv_at hl 0 rfl) ?_
  refine ts_alen E hSt hG hk0 dJ1_charAt_3b067_2 (fun z1 ez1 => ?_)
  have tz1 : z1.toInt = ((tXl.getD k0 0 : Nat) : Int) := by have q := ts_le k0 hk0; rw [ez1]; exact nI_toInt (by omega)
  have qz1 := ts_le k0 hk0
  refine tc_callv hG (tc_runS (As := [.int x1, .int z1]) (rest := []) E hSt hG (c_J0_checkIndex_df160 l G τ x1 z1 (by omega) (by omega)) ks_J0_checkIndex_df160 ml_J1_9 ⟨rfl, rfl, Nat.le_of_ble_eq_true rfl, Nat.le_of_ble_eq_true rfl⟩ rfl hl.1 rfl (Nat.le_of_ble_eq_true rfl) ⟨Nat.zero_le _, Nat.zero_le _⟩ dJ1_charAt_3b067_3) (fun H locs hG => ?_)
  refine lv_aload_n hx hb dJ1_charAt_3b067_6 rfl (lv_at hl 0 rfl) ?_
  refine lv_iload_n hx hb dJ1_charAt_3b067_7 rfl (lv_at hl 1 rfl) ?_
  refine ts_bald E hSt hG hk0 (t_in (by omega) (by omega)) dJ1_charAt_3b067_8 (fun z3 => ?_)
  refine lv_sipush (v := 255) hx hb dJ1_charAt_3b067_9 (by decide) ?_
  refine lv_iand hx hb dJ1_charAt_3b067_12 ?_
  refine lv_topi (fun z4 ez4 => ?_)
  refine lv_i2c hx hb dJ1_charAt_3b067_13 rfl ?_
  refine lv_topi (fun z5 ez5 => ?_)
  have tz5 := tn_i2c ez5
  exact tc_zret E hr hlk hG (t_nc (by omega) (by omega)).1 (show 0 ≤ z5.toInt ∧ z5.toInt ≤ 65535 by omega) dJ1_charAt_3b067_14

set_option maxHeartbeats 4000000 in
set_option maxRecDepth 100000 in
theorem c_J0_length_8abf5 (l : Launch) (G : tG) (τ : Nat → Nat) (k0 : Nat) (hk0 : k0 < 10) : Met l yJ0_length_8abf5 (.code yJ0_length_8abf5 cJ0_length_8abf5 1 (some .int) :: tWS) (tRm 1 20) (va_Pc [.ref (G.2.2.2.1 k0)] (tPre G τ)) (tQp (fun r => r.toInt = ((tXl.getD k0 0 : Nat) : Int) ∧ 0 ≤ r.toInt ∧ r.toInt ≤ 6)) 0 0 tNo := by
  refine tc_met (by decide) (Nat.le_of_ble_eq_true rfl) ?_
  intro p e s m below meth c E hSt hr hlk hG ls hl
  have hl : lv_has ls 1 [(0, .ref (G.2.2.2.1 k0))] := hl
  have hx := E.1
  have hb := E.2.1
  obtain ⟨H, eH⟩ : ∃ H, H = s.heap := ⟨_, rfl⟩
  obtain ⟨locs, eL⟩ : ∃ x : List Loc, x = [] := ⟨_, rfl⟩
  have hG : tGH G τ s H locs := by rw [eH, eL]; exact hG
  suffices hW : W p l e (tRm 1 20) s m ([.ref (G.2.2.2.1 k0)] : List Value).toArray below meth c H locs 0 0 (MQ below (tQp (fun r => r.toInt = ((tXl.getD k0 0 : Nat) : Int) ∧ 0 ≤ r.toInt ∧ r.toInt ≤ 6)) ([.ref (G.2.2.2.1 k0)] : List Value).toArray s 0 0 tNo) (F0 m 0 ls []) by subst eH; subst eL; exact hW
  refine lv_aload_n hx hb dJ0_length_8abf5_0 rfl (lv_at hl 0 rfl) ?_
  refine vk_getf hx hb (hSt.2.1.1 k0 hk0).2.2.1 hG.2 E.2.2.2.1 (E.2.2.2.2.1 _ (t_w8 171 rfl rfl)) (fun _ h => h) dJ0_length_8abf5_1 ?_
  refine ts_alen E hSt hG hk0 dJ0_length_8abf5_4 (fun z1 ez1 => ?_)
  have tz1 : z1.toInt = ((tXl.getD k0 0 : Nat) : Int) := by have q := ts_le k0 hk0; rw [ez1]; exact nI_toInt (by omega)
  have qz1 := ts_le k0 hk0
  refine lv_aload_n hx hb dJ0_length_8abf5_5 rfl (lv_at hl 0 rfl) ?_
  refine tc_callp (ts_runV (As := []) (rest := [.int z1]) E hSt hG hk0 (c_J0_coder_7d493 l G τ k0 hk0) rfl kv_J0_coder_7d493 ml_J0_335 ⟨rfl, rfl, Nat.le_of_ble_eq_true rfl, Nat.le_of_ble_eq_true rfl⟩ rfl hl.1 rfl (Nat.le_of_ble_eq_true rfl) ⟨Nat.zero_le _, Nat.zero_le _⟩ dJ0_length_8abf5_6) (fun r2 pr2 => ?_)
  have pr2 : r2.toInt = 0 := pr2
  refine lv_ishr hx hb dJ0_length_8abf5_9 ?_
  refine lv_topi (fun z3 ez3 => ?_)
  exact tc_pret E hr hlk eH eL rfl (show z3.toInt = ((tXl.getD k0 0 : Nat) : Int) ∧ 0 ≤ z3.toInt ∧ z3.toInt ≤ 6 by (have q := ts_len0 hk0 ‹_› ‹_› ‹_›; have q2 := ts_le k0 hk0; omega)) dJ0_length_8abf5_10

set_option maxHeartbeats 4000000 in
set_option maxRecDepth 100000 in
theorem c_J0_charAt_5068e (l : Launch) (G : tG) (τ : Nat → Nat) (k0 : Nat) (x1 : Int32) (hk0 : k0 < 10) (l1 : 0 ≤ x1.toInt) (u1 : x1.toInt ≤ 6) (hlt : x1.toInt < ((tXl.getD k0 0 : Nat) : Int)) : Met l yJ0_charAt_5068e (.code yJ0_charAt_5068e cJ0_charAt_5068e 2 (some .char) :: tWS) (tRm 3 64) (va_Pc [.ref (G.2.2.2.1 k0), .int x1] (tPre G τ)) (tQi G τ (fun r => 0 ≤ r.toInt ∧ r.toInt ≤ 65535)) 0 0 (tA τ) := by
  refine tc_met (by decide) (Nat.le_of_ble_eq_true rfl) ?_
  intro p e s m below meth c E hSt hr hlk hG ls hl
  have hl : lv_has ls 2 [(0, .ref (G.2.2.2.1 k0)), (1, .int x1)] := hl
  have hx := E.1
  have hb := E.2.1
  obtain ⟨H, eH⟩ : ∃ H, H = s.heap := ⟨_, rfl⟩
  obtain ⟨locs, eL⟩ : ∃ x : List Loc, x = [] := ⟨_, rfl⟩
  have hG : tGH G τ s H locs := by rw [eH, eL]; exact hG
  suffices hW : W p l e (tRm 3 64) s m ([.ref (G.2.2.2.1 k0), .int x1] : List Value).toArray below meth c H locs 0 0 (MQ below (tQi G τ (fun r => 0 ≤ r.toInt ∧ r.toInt ≤ 65535)) ([.ref (G.2.2.2.1 k0), .int x1] : List Value).toArray s 0 0 (tA τ)) (F0 m 0 ls []) by subst eH; subst eL; exact hW
  clear eH eL
  refine lv_aload_n hx hb dJ0_charAt_5068e_0 rfl (lv_at hl 0 rfl) ?_
  refine tc_callp (ts_runV (As := []) (rest := []) E hSt hG hk0 (c_J0_isLatin1_aae02 l G τ k0 hk0) rfl kv_J0_isLatin1_aae02 ml_J0_492 ⟨rfl, rfl, Nat.le_of_ble_eq_true rfl, Nat.le_of_ble_eq_true rfl⟩ rfl hl.1 rfl (Nat.le_of_ble_eq_true rfl) ⟨Nat.zero_le _, Nat.zero_le _⟩ dJ0_charAt_5068e_1) (fun r1 pr1 => ?_)
  have pr1 : r1.toInt = 1 := pr1
  refine lv_if_eq (tgt := 16) hx hb dJ0_charAt_5068e_4 (by decide) (fun c2 => ?_) (fun c2 => ?_)
  · exfalso
    have ic2 := tn_eq rfl kI_0 c2
    omega
  · skip
    have ic2 := tn_ne rfl kI_0 c2
    refine lv_aload_n hx hb dJ0_charAt_5068e_7 rfl (lv_at hl 0 rfl) ?_
    refine vk_getf hx hb (hSt.2.1.1 k0 hk0).2.2.1 hG.2 E.2.2.2.1 (E.2.2.2.2.1 _ (t_w8 171 rfl rfl)) (fun _ h => h) dJ0_charAt_5068e_8 ?_
    refine lv_iload_n hx hb dJ0_charAt_5068e_11 rfl (lv_at hl 1 rfl) ?_
    refine tc_calli hG (tc_runS (As := [.ref (G.2.2.2.2.1 k0), .int x1]) (rest := []) E hSt hG (c_J1_charAt_3b067 l G τ k0 x1 hk0 (by omega) (by omega) (by omega)) ks_J1_charAt_3b067 ml_J0_495 ⟨rfl, rfl, Nat.le_of_ble_eq_true rfl, Nat.le_of_ble_eq_true rfl⟩ rfl hl.1 rfl (Nat.le_of_ble_eq_true rfl) ⟨Nat.zero_le _, Nat.zero_le _⟩ dJ0_charAt_5068e_12) (fun r3 H locs pr3 hG => ?_)
    have pr3 : 0 ≤ r3.toInt ∧ r3.toInt ≤ 65535 := pr3
    exact tc_zret E hr hlk hG (t_nc (by omega) (by omega)).1 (show 0 ≤ r3.toInt ∧ r3.toInt ≤ 65535 by omega) dJ0_charAt_5068e_15

set_option maxHeartbeats 4000000 in
set_option maxRecDepth 100000 in
theorem c_X1_nameOf (l : Launch) (G : tG) (τ : Nat → Nat) (x0 : Int32)  : Met l yX1_nameOf (.code yX1_nameOf cX1_nameOf 1 (some (.object "java/lang/String")) :: tWS) (tRm 0 0) (va_Pc [.int x0] (tPre G τ)) (tQpr (fun r => ∃ k, k < 10 ∧ r = G.2.2.2.1 k)) 0 0 tNo := by
  refine tc_met (by decide) (Nat.le_of_ble_eq_true rfl) ?_
  intro p e s m below meth c E hSt hr hlk hG ls hl
  have hl : lv_has ls 1 [(0, .int x0)] := hl
  have hx := E.1
  have hb := E.2.1
  obtain ⟨H, eH⟩ : ∃ H, H = s.heap := ⟨_, rfl⟩
  obtain ⟨locs, eL⟩ : ∃ x : List Loc, x = [] := ⟨_, rfl⟩
  have hG : tGH G τ s H locs := by rw [eH, eL]; exact hG
  suffices hW : W p l e (tRm 0 0) s m ([.int x0] : List Value).toArray below meth c H locs 0 0 (MQ below (tQpr (fun r => ∃ k, k < 10 ∧ r = G.2.2.2.1 k)) ([.int x0] : List Value).toArray s 0 0 tNo) (F0 m 0 ls []) by subst eH; subst eL; exact hW
  refine lv_iload_n hx hb dX1_nameOf_0 rfl (lv_at hl 0 rfl) ?_
  rcases (show (x0.toInt < 0 ∨ 8 < x0.toInt) ∨ x0.toInt = 0 ∨ x0.toInt = 1 ∨ x0.toInt = 2 ∨ x0.toInt = 3 ∨ x0.toInt = 4 ∨ x0.toInt = 5 ∨ x0.toInt = 6 ∨ x0.toInt = 7 ∨ x0.toInt = 8 by omega) with k1 | k1 | k1 | k1 | k1 | k1 | k1 | k1 | k1 | k1
  · refine lv_tableOut (tgt := 79) hx hb dX1_nameOf_1 k1 (by decide) ?_
    refine va_ldcS hx hb E.2.2.2.1 (hSt.2.2.1 9 (by decide)) dX1_nameOf_79 ?_
    exact tc_paret E hr hlk eH eL ⟨9, (by decide : 9 < 10), rfl⟩ dX1_nameOf_81
  · refine lv_tableIn (off := 51) (tgt := 52) hx hb dX1_nameOf_1 (by rw [k1]; decide) (by rw [k1]; decide) (by rw [k1]; rfl) (by decide) ?_
    refine va_ldcS hx hb E.2.2.2.1 (hSt.2.2.1 0 (by decide)) dX1_nameOf_52 ?_
    exact tc_paret E hr hlk eH eL ⟨0, (by decide : 0 < 10), rfl⟩ dX1_nameOf_54
  · refine lv_tableIn (off := 54) (tgt := 55) hx hb dX1_nameOf_1 (by rw [k1]; decide) (by rw [k1]; decide) (by rw [k1]; rfl) (by decide) ?_
    refine va_ldcS hx hb E.2.2.2.1 (hSt.2.2.1 1 (by decide)) dX1_nameOf_55 ?_
    exact tc_paret E hr hlk eH eL ⟨1, (by decide : 1 < 10), rfl⟩ dX1_nameOf_57
  · refine lv_tableIn (off := 57) (tgt := 58) hx hb dX1_nameOf_1 (by rw [k1]; decide) (by rw [k1]; decide) (by rw [k1]; rfl) (by decide) ?_
    refine va_ldcS hx hb E.2.2.2.1 (hSt.2.2.1 2 (by decide)) dX1_nameOf_58 ?_
    exact tc_paret E hr hlk eH eL ⟨2, (by decide : 2 < 10), rfl⟩ dX1_nameOf_60
  · refine lv_tableIn (off := 60) (tgt := 61) hx hb dX1_nameOf_1 (by rw [k1]; decide) (by rw [k1]; decide) (by rw [k1]; rfl) (by decide) ?_
    refine va_ldcS hx hb E.2.2.2.1 (hSt.2.2.1 3 (by decide)) dX1_nameOf_61 ?_
    exact tc_paret E hr hlk eH eL ⟨3, (by decide : 3 < 10), rfl⟩ dX1_nameOf_63
  · refine lv_tableIn (off := 63) (tgt := 64) hx hb dX1_nameOf_1 (by rw [k1]; decide) (by rw [k1]; decide) (by rw [k1]; rfl) (by decide) ?_
    refine va_ldcS hx hb E.2.2.2.1 (hSt.2.2.1 4 (by decide)) dX1_nameOf_64 ?_
    exact tc_paret E hr hlk eH eL ⟨4, (by decide : 4 < 10), rfl⟩ dX1_nameOf_66
  · refine lv_tableIn (off := 66) (tgt := 67) hx hb dX1_nameOf_1 (by rw [k1]; decide) (by rw [k1]; decide) (by rw [k1]; rfl) (by decide) ?_
    refine va_ldcS hx hb E.2.2.2.1 (hSt.2.2.1 5 (by decide)) dX1_nameOf_67 ?_
    exact tc_paret E hr hlk eH eL ⟨5, (by decide : 5 < 10), rfl⟩ dX1_nameOf_69
  · refine lv_tableIn (off := 69) (tgt := 70) hx hb dX1_nameOf_1 (by rw [k1]; decide) (by rw [k1]; decide) (by rw [k1]; rfl) (by decide) ?_
    refine va_ldcS hx hb E.2.2.2.1 (hSt.2.2.1 6 (by decide)) dX1_nameOf_70 ?_
    exact tc_paret E hr hlk eH eL ⟨6, (by decide : 6 < 10), rfl⟩ dX1_nameOf_72
  · refine lv_tableIn (off := 72) (tgt := 73) hx hb dX1_nameOf_1 (by rw [k1]; decide) (by rw [k1]; decide) (by rw [k1]; rfl) (by decide) ?_
    refine va_ldcS hx hb E.2.2.2.1 (hSt.2.2.1 7 (by decide)) dX1_nameOf_73 ?_
    exact tc_paret E hr hlk eH eL ⟨7, (by decide : 7 < 10), rfl⟩ dX1_nameOf_75
  · refine lv_tableIn (off := 75) (tgt := 76) hx hb dX1_nameOf_1 (by rw [k1]; decide) (by rw [k1]; decide) (by rw [k1]; rfl) (by decide) ?_
    refine va_ldcS hx hb E.2.2.2.1 (hSt.2.2.1 8 (by decide)) dX1_nameOf_76 ?_
    exact tc_paret E hr hlk eH eL ⟨8, (by decide : 8 < 10), rfl⟩ dX1_nameOf_78
