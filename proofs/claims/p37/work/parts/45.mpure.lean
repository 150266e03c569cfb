/-! ===== the reference: who writes nothing ===== -/
theorem mV_is {Y : mY} {i : Nat} {r : Int32} (h : mV Y i r) (e : r.toInt = 1) : mV Y i 1 := by
  have : r = 1 := Int32.toInt_inj.mp (by rw [e]; decide)
  rw [← this]; exact h
theorem mV_ex {Y : mY} {i : Nat} {v : Int32} (h : mV Y i v) (h2 : ¬ v.toInt = 1) : ∃ v : Int32, ¬ v.toInt = 1 ∧ mV Y i v := ⟨v, h2, h⟩
theorem mV_sh {Y : mY} {i : Nat} {v : Int32} (h : mV Y i v) (h2 : 0 < v.toInt) : ∃ v : Int32, 0 < v.toInt ∧ mV Y i v := ⟨v, h2, h⟩
set_option maxHeartbeats 4000000 in
set_option maxRecDepth 100000 in
theorem c_X10_isBox (l : Launch) (G : tG) (Y : mY) (h0 : Nat) (x1 : Int32) (t0 : Y.1 h0 = 1) : Met l yX10_isBox (.code yX10_isBox cX10_isBox 2 (some .boolean) :: tWS) (tRm 1 25) (va_Pc [.ref h0, .int x1] (mPre G Y)) (tQp (fun r => (r.toInt = 1 ∧ 0 ≤ x1.toInt ∧ x1.toInt ≤ 23 ∧ mV Y (ix x1.toInt 0) 1) ∨ (r.toInt = 0 ∧ (x1.toInt < 0 ∨ 23 < x1.toInt ∨ ∃ v : Int32, ¬ v.toInt = 1 ∧ mV Y (ix x1.toInt 0) v)))) 0 0 tNo := by
  refine mc_met (by decide) (Nat.le_of_ble_eq_true rfl) ?_
  intro p e s m below meth c E hr hlk hG ls hl
  have hl : lv_has ls 2 [(0, .ref h0), (1, .int x1)] := hl
  have hx := E.1
  have hb := E.2.1
  obtain ⟨H, eH⟩ : ∃ H, H = s.heap := ⟨_, rfl⟩
  obtain ⟨locs, eL⟩ : ∃ x : List Loc, x = [] := ⟨_, rfl⟩
  have hG : mGH G Y s H locs := by rw [eH, eL]; exact hG
  suffices hW : W p l e (tRm 1 25) s m ([.ref h0, .int x1] : List Value).toArray below meth c H locs 0 0 (MQ below (tQp (fun r => (r.toInt = 1 ∧ 0 ≤ x1.toInt ∧ x1.toInt ≤ 23 ∧ mV Y (ix x1.toInt 0) 1) ∨ (r.toInt = 0 ∧ (x1.toInt < 0 ∨ 23 < x1.toInt ∨ ∃ v : Int32, ¬ v.toInt = 1 ∧ mV Y (ix x1.toInt 0) v)))) ([.ref h0, .int x1] : List Value).toArray s 0 0 tNo) (F0 m 0 ls []) by subst eH; subst eL; exact hW
  refine lv_iload_n hx hb dX10_isBox_0 rfl (lv_at hl 1 rfl) ?_
  refine lv_i2l hx hb dX10_isBox_1 rfl ?_
  refine lv_topl (fun z1 ez1 => ?_)
  have tz1 := tl_i2l ez1
  refine lv_lconst (v := 0) hx hb dX10_isBox_2 (by decide) ?_
  refine lv_topl (fun z2 ez2 => ?_)
  have tz2 : z2.toInt = 0 := by rw [ez2]; decide
  refine lv_ldc2 (v := 23) hx hb E.2.2.2.1 (E.2.2.2.2.1 _ (t_w6 166 rfl rfl)) dX10_isBox_3 ?_
  refine lv_topl (fun z3 ez3 => ?_)
  have tz3 : z3.toInt = 23 := by rw [ez3]; decide
  refine tc_callp (mc_runS (As := [.long z1, .long z2, .long z3]) (rest := []) E hG (c_X10_in l G Y z1 z2 z3) ks_X10_in ml_X10_87 ⟨rfl, rfl, Nat.le_of_ble_eq_true rfl, Nat.le_of_ble_eq_true rfl⟩ rfl hl.1 rfl (Nat.le_of_ble_eq_true rfl) ⟨Nat.zero_le _, Nat.zero_le _⟩ dX10_isBox_6) (fun r4 pr4 => ?_)
  have pr4 : ((r4.toInt = 1 ∧ z2.toInt ≤ z1.toInt ∧ z1.toInt ≤ z3.toInt) ∨ (r4.toInt = 0 ∧ (z1.toInt < z2.toInt ∨ z3.toInt < z1.toInt))) := pr4
  refine lv_if_eq (tgt := 26) hx hb dX10_isBox_9 (by decide) (fun c5 => ?_) (fun c5 => ?_)
  · skip
    have ic5 := tn_eq rfl kI_0 c5
    refine lv_iconst (v := 0) hx hb dX10_isBox_26 (by decide) ?_
    exact tc_pret E hr hlk eH eL (t_nz (by decide) (by decide)).1 (show ((0 : Int32).toInt = 1 ∧ 0 ≤ x1.toInt ∧ x1.toInt ≤ 23 ∧ mV Y (ix x1.toInt 0) 1) ∨ ((0 : Int32).toInt = 0 ∧ (x1.toInt < 0 ∨ 23 < x1.toInt ∨ ∃ v : Int32, ¬ v.toInt = 1 ∧ mV Y (ix x1.toInt 0) v)) by have kk := kI_0; first | exact Or.inl ⟨kk, by omega, by omega, mV_is (by assumption) (by omega)⟩ | exact Or.inr ⟨kk, by omega⟩ | exact Or.inr ⟨kk, Or.inr (Or.inr (mV_ex (by assumption) (by omega)))⟩) dX10_isBox_27
  · skip
    have ic5 := tn_ne rfl kI_0 c5
    refine lv_aload_n hx hb dX10_isBox_12 rfl (lv_at hl 0 rfl) ?_
    refine lv_iload_n hx hb dX10_isBox_13 rfl (lv_at hl 1 rfl) ?_
    refine lv_iconst (v := 0) hx hb dX10_isBox_14 (by decide) ?_
    refine tc_callp (mc_runV (As := [.int x1, .int 0]) (rest := []) E hG (c_X10_get l G Y h0 x1 (0 : Int32) t0 (by omega) (by omega) (by decide) (by decide)) t0 rfl kv_X10_get ml_X10_91 ⟨rfl, rfl, Nat.le_of_ble_eq_true rfl, Nat.le_of_ble_eq_true rfl⟩ rfl hl.1 rfl (Nat.le_of_ble_eq_true rfl) ⟨Nat.zero_le _, Nat.zero_le _⟩ dX10_isBox_15) (fun r6 pr6 => ?_)
    have pr6 : mV Y (ix x1.toInt (0 : Int32).toInt) r6 := pr6
    have pr6 := mV_l pr6 kI_0
    have br6 := mV_0 pr6 (by omega)
    have k7 := kI_0
    refine lv_iconst (v := 1) hx hb dX10_isBox_18 (by decide) ?_
    refine lv_icmp_ne (tgt := 26) hx hb dX10_isBox_19 (by decide) (fun c8 => ?_) (fun c8 => ?_)
    · skip
      have ic8 := tn_ne rfl kI_1 c8
      refine lv_iconst (v := 0) hx hb dX10_isBox_26 (by decide) ?_
      exact tc_pret E hr hlk eH eL (t_nz (by decide) (by decide)).1 (show ((0 : Int32).toInt = 1 ∧ 0 ≤ x1.toInt ∧ x1.toInt ≤ 23 ∧ mV Y (ix x1.toInt 0) 1) ∨ ((0 : Int32).toInt = 0 ∧ (x1.toInt < 0 ∨ 23 < x1.toInt ∨ ∃ v : Int32, ¬ v.toInt = 1 ∧ mV Y (ix x1.toInt 0) v)) by have kk := kI_0; first | exact Or.inl ⟨kk, by omega, by omega, mV_is (by assumption) (by omega)⟩ | exact Or.inr ⟨kk, by omega⟩ | exact Or.inr ⟨kk, Or.inr (Or.inr (mV_ex (by assumption) (by omega)))⟩) dX10_isBox_27
    · skip
      have ic8 := tn_eq rfl kI_1 c8
      refine lv_iconst (v := 1) hx hb dX10_isBox_22 (by decide) ?_
      refine lv_goto (tgt := 27) hx hb dX10_isBox_23 (by decide) ?_
      exact tc_pret E hr hlk eH eL (t_nz (by decide) (by decide)).1 (show ((1 : Int32).toInt = 1 ∧ 0 ≤ x1.toInt ∧ x1.toInt ≤ 23 ∧ mV Y (ix x1.toInt 0) 1) ∨ ((1 : Int32).toInt = 0 ∧ (x1.toInt < 0 ∨ 23 < x1.toInt ∨ ∃ v : Int32, ¬ v.toInt = 1 ∧ mV Y (ix x1.toInt 0) v)) by have kk := kI_1; first | exact Or.inl ⟨kk, by omega, by omega, mV_is (by assumption) (by omega)⟩ | exact Or.inr ⟨kk, by omega⟩ | exact Or.inr ⟨kk, Or.inr (Or.inr (mV_ex (by assumption) (by omega)))⟩) dX10_isBox_27

set_option maxHeartbeats 4000000 in
set_option maxRecDepth 100000 in
theorem c_X10_childOf (l : Launch) (G : tG) (Y : mY) (h0 : Nat) (x1 : Int32) (x2 : Int32) (t0 : Y.1 h0 = 1) (l1 : 0 ≤ x1.toInt) (u1 : x1.toInt ≤ 23) (l2 : 0 ≤ x2.toInt) (u2 : x2.toInt ≤ 7) : Met l yX10_childOf (.code yX10_childOf cX10_childOf 3 (some .int) :: tWS) (tRm 1 22) (va_Pc [.ref h0, .int x1, .int x2] (mPre G Y)) (tQp (fun r => mV Y (ix x1.toInt (11 + x2.toInt)) r)) 0 0 tNo := by
  refine mc_met (by decide) (Nat.le_of_ble_eq_true rfl) ?_
  intro p e s m below meth c E hr hlk hG ls hl
  have hl : lv_has ls 3 [(0, .ref h0), (1, .int x1), (2, .int x2)] := hl
  have hx := E.1
  have hb := E.2.1
  obtain ⟨H, eH⟩ : ∃ H, H = s.heap := ⟨_, rfl⟩
  obtain ⟨locs, eL⟩ : ∃ x : List Loc, x = [] := ⟨_, rfl⟩
  have hG : mGH G Y s H locs := by rw [eH, eL]; exact hG
  suffices hW : W p l e (tRm 1 22) s m ([.ref h0, .int x1, .int x2] : List Value).toArray below meth c H locs 0 0 (MQ below (tQp (fun r => mV Y (ix x1.toInt (11 + x2.toInt)) r)) ([.ref h0, .int x1, .int x2] : List Value).toArray s 0 0 tNo) (F0 m 0 ls []) by subst eH; subst eL; exact hW
  refine lv_aload_n hx hb dX10_childOf_0 rfl (lv_at hl 0 rfl) ?_
  refine lv_iload_n hx hb dX10_childOf_1 rfl (lv_at hl 1 rfl) ?_
  refine lv_bipush (v := 11) hx hb dX10_childOf_2 (by decide) ?_
  refine lv_iload_n hx hb dX10_childOf_4 rfl (lv_at hl 2 rfl) ?_
  refine lv_iadd hx hb dX10_childOf_5 ?_
  refine lv_topi (fun z1 ez1 => ?_)
  have tz1 := tn_add ez1 kI_11 rfl (by omega) (by omega)
  refine tc_callp (mc_runV (As := [.int x1, .int z1]) (rest := []) E hG (c_X10_get l G Y h0 x1 z1 t0 (by omega) (by omega) (by omega) (by omega)) t0 rfl kv_X10_get ml_X10_91 ⟨rfl, rfl, Nat.le_of_ble_eq_true rfl, Nat.le_of_ble_eq_true rfl⟩ rfl hl.1 rfl (Nat.le_of_ble_eq_true rfl) ⟨Nat.zero_le _, Nat.zero_le _⟩ dX10_childOf_6) (fun r2 pr2 => ?_)
  have pr2 : mV Y (ix x1.toInt z1.toInt) r2 := pr2
  have br2 := mV_r 11 18 (0) (23) pr2 (by omega) (by omega) (by omega) (by decide) (by decide)
  exact tc_pret E hr hlk eH eL rfl (show mV Y (ix x1.toInt (11 + x2.toInt)) r2 by exact mV_l (by assumption) (by omega)) dX10_childOf_9

set_option maxHeartbeats 4000000 in
set_option maxRecDepth 100000 in
theorem c_X10_manyOf (l : Launch) (G : tG) (Y : mY) (h0 : Nat) (x1 : Int32) (t0 : Y.1 h0 = 1) (l1 : 0 ≤ x1.toInt) (u1 : x1.toInt ≤ 23) : Met l yX10_manyOf (.code yX10_manyOf cX10_manyOf 2 (some .int) :: tWS) (tRm 1 22) (va_Pc [.ref h0, .int x1] (mPre G Y)) (tQp (fun r => mV Y (ix x1.toInt 10) r)) 0 0 tNo := by
  refine mc_met (by decide) (Nat.le_of_ble_eq_true rfl) ?_
  intro p e s m below meth c E hr hlk hG ls hl
  have hl : lv_has ls 2 [(0, .ref h0), (1, .int x1)] := hl
  have hx := E.1
  have hb := E.2.1
  obtain ⟨H, eH⟩ : ∃ H, H = s.heap := ⟨_, rfl⟩
  obtain ⟨locs, eL⟩ : ∃ x : List Loc, x = [] := ⟨_, rfl⟩
  have hG : mGH G Y s H locs := by rw [eH, eL]; exact hG
  suffices hW : W p l e (tRm 1 22) s m ([.ref h0, .int x1] : List Value).toArray below meth c H locs 0 0 (MQ below (tQp (fun r => mV Y (ix x1.toInt 10) r)) ([.ref h0, .int x1] : List Value).toArray s 0 0 tNo) (F0 m 0 ls []) by subst eH; subst eL; exact hW
  refine lv_aload_n hx hb dX10_manyOf_0 rfl (lv_at hl 0 rfl) ?_
  refine lv_iload_n hx hb dX10_manyOf_1 rfl (lv_at hl 1 rfl) ?_
  refine lv_bipush (v := 10) hx hb dX10_manyOf_2 (by decide) ?_
  refine tc_callp (mc_runV (As := [.int x1, .int 10]) (rest := []) E hG (c_X10_get l G Y h0 x1 (10 : Int32) t0 (by omega) (by omega) (by decide) (by decide)) t0 rfl kv_X10_get ml_X10_91 ⟨rfl, rfl, Nat.le_of_ble_eq_true rfl, Nat.le_of_ble_eq_true rfl⟩ rfl hl.1 rfl (Nat.le_of_ble_eq_true rfl) ⟨Nat.zero_le _, Nat.zero_le _⟩ dX10_manyOf_4) (fun r1 pr1 => ?_)
  have pr1 : mV Y (ix x1.toInt (10 : Int32).toInt) r1 := pr1
  have pr1 := mV_l pr1 kI_10
  have br1 := mV_10 pr1 (by omega)
  have k2 := kI_10
  exact tc_pret E hr hlk eH eL rfl (show mV Y (ix x1.toInt 10) r1 by assumption) dX10_manyOf_7

set_option maxHeartbeats 4000000 in
set_option maxRecDepth 100000 in
theorem c_X10_takes (l : Launch) (G : tG) (Y : mY) (x0 : Int32)  : Met l yX10_takes (.code yX10_takes cX10_takes 1 (some .int) :: tWS) (tRm 0 0) (va_Pc [.int x0] (mPre G Y)) (tQp (fun r => 0 ≤ r.toInt ∧ r.toInt ≤ 8)) 0 0 tNo := by
  refine mc_met (by decide) (Nat.le_of_ble_eq_true rfl) ?_
  intro p e s m below meth c E hr hlk hG ls hl
  have hl : lv_has ls 1 [(0, .int x0)] := hl
  have hx := E.1
  have hb := E.2.1
  obtain ⟨H, eH⟩ : ∃ H, H = s.heap := ⟨_, rfl⟩
  obtain ⟨locs, eL⟩ : ∃ x : List Loc, x = [] := ⟨_, rfl⟩
  have hG : mGH G Y s H locs := by rw [eH, eL]; exact hG
  suffices hW : W p l e (tRm 0 0) s m ([.int x0] : List Value).toArray below meth c H locs 0 0 (MQ below (tQp (fun r => 0 ≤ r.toInt ∧ r.toInt ≤ 8)) ([.int x0] : List Value).toArray s 0 0 tNo) (F0 m 0 ls []) by subst eH; subst eL; exact hW
  refine lv_iload_n hx hb dX10_takes_0 rfl (lv_at hl 0 rfl) ?_
  refine lv_iconst (v := 2) hx hb dX10_takes_1 (by decide) ?_
  refine lv_icmp_ge (tgt := 9) hx hb dX10_takes_2 (by decide) (fun c1 => ?_) (fun c1 => ?_)
  · skip
    have ic1 := tn_le kI_2 rfl c1
    refine lv_iload_n hx hb dX10_takes_9 rfl (lv_at hl 0 rfl) ?_
    refine lv_bipush (v := 7) hx hb dX10_takes_10 (by decide) ?_
    refine lv_icmp_ge (tgt := 19) hx hb dX10_takes_12 (by decide) (fun c2 => ?_) (fun c2 => ?_)
    · skip
      have ic2 := tn_le kI_7 rfl c2
      refine lv_bipush (v := 8) hx hb dX10_takes_19 (by decide) ?_
      exact tc_pret E hr hlk eH eL rfl (show 0 ≤ (8 : Int32).toInt ∧ (8 : Int32).toInt ≤ 8 by have kk := kI_8; omega) dX10_takes_21
    · skip
      have ic2 := tn_nle kI_7 rfl c2
      refine lv_iconst (v := 1) hx hb dX10_takes_15 (by decide) ?_
      refine lv_goto (tgt := 21) hx hb dX10_takes_16 (by decide) ?_
      exact tc_pret E hr hlk eH eL rfl (show 0 ≤ (1 : Int32).toInt ∧ (1 : Int32).toInt ≤ 8 by have kk := kI_1; omega) dX10_takes_21
  · skip
    have ic1 := tn_nle kI_2 rfl c1
    refine lv_iconst (v := 0) hx hb dX10_takes_5 (by decide) ?_
    refine lv_goto (tgt := 21) hx hb dX10_takes_6 (by decide) ?_
    exact tc_pret E hr hlk eH eL rfl (show 0 ≤ (0 : Int32).toInt ∧ (0 : Int32).toInt ≤ 8 by have kk := kI_0; omega) dX10_takes_21

set_option maxHeartbeats 4000000 in
set_option maxRecDepth 100000 in
theorem c_X10_numbersOf (l : Launch) (G : tG) (Y : mY) (x0 : Int32)  : Met l yX10_numbersOf (.code yX10_numbersOf cX10_numbersOf 1 (some .int) :: tWS) (tRm 0 0) (va_Pc [.int x0] (mPre G Y)) (tQp (fun r => (x0.toInt = 3 ∧ r.toInt = 4) ∨ ((x0.toInt = 4 ∨ x0.toInt = 5) ∧ r.toInt = 0) ∨ (x0.toInt = 7 ∧ r.toInt = 1) ∨ (¬ x0.toInt = 3 ∧ ¬ x0.toInt = 4 ∧ ¬ x0.toInt = 5 ∧ ¬ x0.toInt = 7 ∧ r.toInt = 2))) 0 0 tNo := by
  refine mc_met (by decide) (Nat.le_of_ble_eq_true rfl) ?_
  intro p e s m below meth c E hr hlk hG ls hl
  have hl : lv_has ls 1 [(0, .int x0)] := hl
  have hx := E.1
  have hb := E.2.1
  obtain ⟨H, eH⟩ : ∃ H, H = s.heap := ⟨_, rfl⟩
  obtain ⟨locs, eL⟩ : ∃ x : List Loc, x = [] := ⟨_, rfl⟩
  have hG : mGH G Y s H locs := by rw [eH, eL]; exact hG
  suffices hW : W p l e (tRm 0 0) s m ([.int x0] : List Value).toArray below meth c H locs 0 0 (MQ below (tQp (fun r => (x0.toInt = 3 ∧ r.toInt = 4) ∨ ((x0.toInt = 4 ∨ x0.toInt = 5) ∧ r.toInt = 0) ∨ (x0.toInt = 7 ∧ r.toInt = 1) ∨ (¬ x0.toInt = 3 ∧ ¬ x0.toInt = 4 ∧ ¬ x0.toInt = 5 ∧ ¬ x0.toInt = 7 ∧ r.toInt = 2))) ([.int x0] : List Value).toArray s 0 0 tNo) (F0 m 0 ls []) by subst eH; subst eL; exact hW
  refine lv_iload_n hx hb dX10_numbersOf_0 rfl (lv_at hl 0 rfl) ?_
  rcases (show (x0.toInt < 3 ∨ 7 < x0.toInt) ∨ x0.toInt = 3 ∨ x0.toInt = 4 ∨ x0.toInt = 5 ∨ x0.toInt = 6 ∨ x0.toInt = 7 by omega) with k1 | k1 | k1 | k1 | k1 | k1
  · refine lv_tableOut (tgt := 42) hx hb dX10_numbersOf_1 k1 (by decide) ?_
    refine lv_iconst (v := 2) hx hb dX10_numbersOf_42 (by decide) ?_
    exact tc_pret E hr hlk eH eL rfl (show (x0.toInt = 3 ∧ (2 : Int32).toInt = 4) ∨ ((x0.toInt = 4 ∨ x0.toInt = 5) ∧ (2 : Int32).toInt = 0) ∨ (x0.toInt = 7 ∧ (2 : Int32).toInt = 1) ∨ (¬ x0.toInt = 3 ∧ ¬ x0.toInt = 4 ∧ ¬ x0.toInt = 5 ∧ ¬ x0.toInt = 7 ∧ (2 : Int32).toInt = 2) by have kk := kI_2; omega) dX10_numbersOf_43
  · refine lv_tableIn (off := 35) (tgt := 36) hx hb dX10_numbersOf_1 (by rw [k1]; decide) (by rw [k1]; decide) (by rw [k1]; rfl) (by decide) ?_
    refine lv_iconst (v := 4) hx hb dX10_numbersOf_36 (by decide) ?_
    exact tc_pret E hr hlk eH eL rfl (show (x0.toInt = 3 ∧ (4 : Int32).toInt = 4) ∨ ((x0.toInt = 4 ∨ x0.toInt = 5) ∧ (4 : Int32).toInt = 0) ∨ (x0.toInt = 7 ∧ (4 : Int32).toInt = 1) ∨ (¬ x0.toInt = 3 ∧ ¬ x0.toInt = 4 ∧ ¬ x0.toInt = 5 ∧ ¬ x0.toInt = 7 ∧ (4 : Int32).toInt = 2) by have kk := kI_4; omega) dX10_numbersOf_37
  · refine lv_tableIn (off := 37) (tgt := 38) hx hb dX10_numbersOf_1 (by rw [k1]; decide) (by rw [k1]; decide) (by rw [k1]; rfl) (by decide) ?_
    refine lv_iconst (v := 0) hx hb dX10_numbersOf_38 (by decide) ?_
    exact tc_pret E hr hlk eH eL rfl (show (x0.toInt = 3 ∧ (0 : Int32).toInt = 4) ∨ ((x0.toInt = 4 ∨ x0.toInt = 5) ∧ (0 : Int32).toInt = 0) ∨ (x0.toInt = 7 ∧ (0 : Int32).toInt = 1) ∨ (¬ x0.toInt = 3 ∧ ¬ x0.toInt = 4 ∧ ¬ x0.toInt = 5 ∧ ¬ x0.toInt = 7 ∧ (0 : Int32).toInt = 2) by have kk := kI_0; omega) dX10_numbersOf_39
  · refine lv_tableIn (off := 37) (tgt := 38) hx hb dX10_numbersOf_1 (by rw [k1]; decide) (by rw [k1]; decide) (by rw [k1]; rfl) (by decide) ?_
    refine lv_iconst (v := 0) hx hb dX10_numbersOf_38 (by decide) ?_
    exact tc_pret E hr hlk eH eL rfl (show (x0.toInt = 3 ∧ (0 : Int32).toInt = 4) ∨ ((x0.toInt = 4 ∨ x0.toInt = 5) ∧ (0 : Int32).toInt = 0) ∨ (x0.toInt = 7 ∧ (0 : Int32).toInt = 1) ∨ (¬ x0.toInt = 3 ∧ ¬ x0.toInt = 4 ∧ ¬ x0.toInt = 5 ∧ ¬ x0.toInt = 7 ∧ (0 : Int32).toInt = 2) by have kk := kI_0; omega) dX10_numbersOf_39
  · refine lv_tableIn (off := 41) (tgt := 42) hx hb dX10_numbersOf_1 (by rw [k1]; decide) (by rw [k1]; decide) (by rw [k1]; rfl) (by decide) ?_
    refine lv_iconst (v := 2) hx hb dX10_numbersOf_42 (by decide) ?_
    exact tc_pret E hr hlk eH eL rfl (show (x0.toInt = 3 ∧ (2 : Int32).toInt = 4) ∨ ((x0.toInt = 4 ∨ x0.toInt = 5) ∧ (2 : Int32).toInt = 0) ∨ (x0.toInt = 7 ∧ (2 : Int32).toInt = 1) ∨ (¬ x0.toInt = 3 ∧ ¬ x0.toInt = 4 ∧ ¬ x0.toInt = 5 ∧ ¬ x0.toInt = 7 ∧ (2 : Int32).toInt = 2) by have kk := kI_2; omega) dX10_numbersOf_43
  · refine lv_tableIn (off := 39) (tgt := 40) hx hb dX10_numbersOf_1 (by rw [k1]; decide) (by rw [k1]; decide) (by rw [k1]; rfl) (by decide) ?_
    refine lv_iconst (v := 1) hx hb dX10_numbersOf_40 (by decide) ?_
    exact tc_pret E hr hlk eH eL rfl (show (x0.toInt = 3 ∧ (1 : Int32).toInt = 4) ∨ ((x0.toInt = 4 ∨ x0.toInt = 5) ∧ (1 : Int32).toInt = 0) ∨ (x0.toInt = 7 ∧ (1 : Int32).toInt = 1) ∨ (¬ x0.toInt = 3 ∧ ¬ x0.toInt = 4 ∧ ¬ x0.toInt = 5 ∧ ¬ x0.toInt = 7 ∧ (1 : Int32).toInt = 2) by have kk := kI_1; omega) dX10_numbersOf_41

set_option maxHeartbeats 4000000 in
set_option maxRecDepth 100000 in
theorem c_X10_leastOf (l : Launch) (G : tG) (Y : mY) (x0 : Int32)  : Met l yX10_leastOf (.code yX10_leastOf cX10_leastOf 1 (some .int) :: tWS) (tRm 0 0) (va_Pc [.int x0] (mPre G Y)) (tQp (fun r => (x0.toInt = 6 ∧ r.toInt = 1) ∨ (¬ x0.toInt = 6 ∧ r.toInt = 0))) 0 0 tNo := by
  refine mc_met (by decide) (Nat.le_of_ble_eq_true rfl) ?_
  intro p e s m below meth c E hr hlk hG ls hl
  have hl : lv_has ls 1 [(0, .int x0)] := hl
  have hx := E.1
  have hb := E.2.1
  obtain ⟨H, eH⟩ : ∃ H, H = s.heap := ⟨_, rfl⟩
  obtain ⟨locs, eL⟩ : ∃ x : List Loc, x = [] := ⟨_, rfl⟩
  have hG : mGH G Y s H locs := by rw [eH, eL]; exact hG
  suffices hW : W p l e (tRm 0 0) s m ([.int x0] : List Value).toArray below meth c H locs 0 0 (MQ below (tQp (fun r => (x0.toInt = 6 ∧ r.toInt = 1) ∨ (¬ x0.toInt = 6 ∧ r.toInt = 0))) ([.int x0] : List Value).toArray s 0 0 tNo) (F0 m 0 ls []) by subst eH; subst eL; exact hW
  refine lv_iload_n hx hb dX10_leastOf_0 rfl (lv_at hl 0 rfl) ?_
  refine lv_bipush (v := 6) hx hb dX10_leastOf_1 (by decide) ?_
  refine lv_icmp_ne (tgt := 10) hx hb dX10_leastOf_3 (by decide) (fun c1 => ?_) (fun c1 => ?_)
  · skip
    have ic1 := tn_ne rfl kI_6 c1
    refine lv_iconst (v := 0) hx hb dX10_leastOf_10 (by decide) ?_
    exact tc_pret E hr hlk eH eL rfl (show (x0.toInt = 6 ∧ (0 : Int32).toInt = 1) ∨ (¬ x0.toInt = 6 ∧ (0 : Int32).toInt = 0) by have kk := kI_0; omega) dX10_leastOf_11
  · skip
    have ic1 := tn_eq rfl kI_6 c1
    refine lv_iconst (v := 1) hx hb dX10_leastOf_6 (by decide) ?_
    refine lv_goto (tgt := 11) hx hb dX10_leastOf_7 (by decide) ?_
    exact tc_pret E hr hlk eH eL rfl (show (x0.toInt = 6 ∧ (1 : Int32).toInt = 1) ∨ (¬ x0.toInt = 6 ∧ (1 : Int32).toInt = 0) by have kk := kI_1; omega) dX10_leastOf_11

set_option maxHeartbeats 4000000 in
set_option maxRecDepth 100000 in
theorem c_X10_mostOf (l : Launch) (G : tG) (Y : mY) (x0 : Int32) (x1 : Int32)  : Met l yX10_mostOf (.code yX10_mostOf cX10_mostOf 2 (some .int) :: tWS) (tRm 0 0) (va_Pc [.int x0, .int x1] (mPre G Y)) (tQp (fun r => 2 ≤ r.toInt ∧ r.toInt ≤ 99)) 0 0 tNo := by
  refine mc_met (by decide) (Nat.le_of_ble_eq_true rfl) ?_
  intro p e s m below meth c E hr hlk hG ls hl
  have hl : lv_has ls 2 [(0, .int x0), (1, .int x1)] := hl
  have hx := E.1
  have hb := E.2.1
  obtain ⟨H, eH⟩ : ∃ H, H = s.heap := ⟨_, rfl⟩
  obtain ⟨locs, eL⟩ : ∃ x : List Loc, x = [] := ⟨_, rfl⟩
  have hG : mGH G Y s H locs := by rw [eH, eL]; exact hG
  suffices hW : W p l e (tRm 0 0) s m ([.int x0, .int x1] : List Value).toArray below meth c H locs 0 0 (MQ below (tQp (fun r => 2 ≤ r.toInt ∧ r.toInt ≤ 99)) ([.int x0, .int x1] : List Value).toArray s 0 0 tNo) (F0 m 0 ls []) by subst eH; subst eL; exact hW
  refine lv_iload_n hx hb dX10_mostOf_0 rfl (lv_at hl 0 rfl) ?_
  rcases (show (x0.toInt < 0 ∨ 7 < x0.toInt) ∨ x0.toInt = 0 ∨ x0.toInt = 1 ∨ x0.toInt = 2 ∨ x0.toInt = 3 ∨ x0.toInt = 4 ∨ x0.toInt = 5 ∨ x0.toInt = 6 ∨ x0.toInt = 7 by omega) with k1 | k1 | k1 | k1 | k1 | k1 | k1 | k1 | k1
  · refine lv_tableOut (tgt := 71) hx hb dX10_mostOf_1 k1 (by decide) ?_
    refine lv_iload_n hx hb dX10_mostOf_71 rfl (lv_at hl 1 rfl) ?_
    refine lv_if_ne (tgt := 79) hx hb dX10_mostOf_72 (by decide) (fun c2 => ?_) (fun c2 => ?_)
    · skip
      have ic2 := tn_ne rfl kI_0 c2
      refine lv_bipush (v := 20) hx hb dX10_mostOf_79 (by decide) ?_
      exact tc_pret E hr hlk eH eL rfl (show 2 ≤ (20 : Int32).toInt ∧ (20 : Int32).toInt ≤ 99 by have kk := kI_20; omega) dX10_mostOf_81
    · skip
      have ic2 := tn_eq rfl kI_0 c2
      refine lv_iconst (v := 4) hx hb dX10_mostOf_75 (by decide) ?_
      refine lv_goto (tgt := 81) hx hb dX10_mostOf_76 (by decide) ?_
      exact tc_pret E hr hlk eH eL rfl (show 2 ≤ (4 : Int32).toInt ∧ (4 : Int32).toInt ≤ 99 by have kk := kI_4; omega) dX10_mostOf_81
  · refine lv_tableIn (off := 47) (tgt := 48) hx hb dX10_mostOf_1 (by rw [k1]; decide) (by rw [k1]; decide) (by rw [k1]; rfl) (by decide) ?_
    refine lv_bipush (v := 99) hx hb dX10_mostOf_48 (by decide) ?_
    exact tc_pret E hr hlk eH eL rfl (show 2 ≤ (99 : Int32).toInt ∧ (99 : Int32).toInt ≤ 99 by have kk := kI_99; omega) dX10_mostOf_50
  · refine lv_tableIn (off := 50) (tgt := 51) hx hb dX10_mostOf_1 (by rw [k1]; decide) (by rw [k1]; decide) (by rw [k1]; rfl) (by decide) ?_
    refine lv_iload_n hx hb dX10_mostOf_51 rfl (lv_at hl 1 rfl) ?_
    refine lv_if_ne (tgt := 60) hx hb dX10_mostOf_52 (by decide) (fun c3 => ?_) (fun c3 => ?_)
    · skip
      have ic3 := tn_ne rfl kI_0 c3
      refine lv_bipush (v := 31) hx hb dX10_mostOf_60 (by decide) ?_
      exact tc_pret E hr hlk eH eL rfl (show 2 ≤ (31 : Int32).toInt ∧ (31 : Int32).toInt ≤ 99 by have kk := kI_31; omega) dX10_mostOf_62
    · skip
      have ic3 := tn_eq rfl kI_0 c3
      refine lv_bipush (v := 12) hx hb dX10_mostOf_55 (by decide) ?_
      refine lv_goto (tgt := 62) hx hb dX10_mostOf_57 (by decide) ?_
      exact tc_pret E hr hlk eH eL rfl (show 2 ≤ (12 : Int32).toInt ∧ (12 : Int32).toInt ≤ 99 by have kk := kI_12; omega) dX10_mostOf_62
  · refine lv_tableIn (off := 62) (tgt := 63) hx hb dX10_mostOf_1 (by rw [k1]; decide) (by rw [k1]; decide) (by rw [k1]; rfl) (by decide) ?_
    refine lv_bipush (v := 20) hx hb dX10_mostOf_63 (by decide) ?_
    exact tc_pret E hr hlk eH eL rfl (show 2 ≤ (20 : Int32).toInt ∧ (20 : Int32).toInt ≤ 99 by have kk := kI_20; omega) dX10_mostOf_65
  · refine lv_tableIn (off := 47) (tgt := 48) hx hb dX10_mostOf_1 (by rw [k1]; decide) (by rw [k1]; decide) (by rw [k1]; rfl) (by decide) ?_
    refine lv_bipush (v := 99) hx hb dX10_mostOf_48 (by decide) ?_
    exact tc_pret E hr hlk eH eL rfl (show 2 ≤ (99 : Int32).toInt ∧ (99 : Int32).toInt ≤ 99 by have kk := kI_99; omega) dX10_mostOf_50
  · refine lv_tableIn (off := 70) (tgt := 71) hx hb dX10_mostOf_1 (by rw [k1]; decide) (by rw [k1]; decide) (by rw [k1]; rfl) (by decide) ?_
    refine lv_iload_n hx hb dX10_mostOf_71 rfl (lv_at hl 1 rfl) ?_
    refine lv_if_ne (tgt := 79) hx hb dX10_mostOf_72 (by decide) (fun c4 => ?_) (fun c4 => ?_)
    · skip
      have ic4 := tn_ne rfl kI_0 c4
      refine lv_bipush (v := 20) hx hb dX10_mostOf_79 (by decide) ?_
      exact tc_pret E hr hlk eH eL rfl (show 2 ≤ (20 : Int32).toInt ∧ (20 : Int32).toInt ≤ 99 by have kk := kI_20; omega) dX10_mostOf_81
    · skip
      have ic4 := tn_eq rfl kI_0 c4
      refine lv_iconst (v := 4) hx hb dX10_mostOf_75 (by decide) ?_
      refine lv_goto (tgt := 81) hx hb dX10_mostOf_76 (by decide) ?_
      exact tc_pret E hr hlk eH eL rfl (show 2 ≤ (4 : Int32).toInt ∧ (4 : Int32).toInt ≤ 99 by have kk := kI_4; omega) dX10_mostOf_81
  · refine lv_tableIn (off := 70) (tgt := 71) hx hb dX10_mostOf_1 (by rw [k1]; decide) (by rw [k1]; decide) (by rw [k1]; rfl) (by decide) ?_
    refine lv_iload_n hx hb dX10_mostOf_71 rfl (lv_at hl 1 rfl) ?_
    refine lv_if_ne (tgt := 79) hx hb dX10_mostOf_72 (by decide) (fun c5 => ?_) (fun c5 => ?_)
    · skip
      have ic5 := tn_ne rfl kI_0 c5
      refine lv_bipush (v := 20) hx hb dX10_mostOf_79 (by decide) ?_
      exact tc_pret E hr hlk eH eL rfl (show 2 ≤ (20 : Int32).toInt ∧ (20 : Int32).toInt ≤ 99 by have kk := kI_20; omega) dX10_mostOf_81
    · skip
      have ic5 := tn_eq rfl kI_0 c5
      refine lv_iconst (v := 4) hx hb dX10_mostOf_75 (by decide) ?_
      refine lv_goto (tgt := 81) hx hb dX10_mostOf_76 (by decide) ?_
      exact tc_pret E hr hlk eH eL rfl (show 2 ≤ (4 : Int32).toInt ∧ (4 : Int32).toInt ≤ 99 by have kk := kI_4; omega) dX10_mostOf_81
  · refine lv_tableIn (off := 65) (tgt := 66) hx hb dX10_mostOf_1 (by rw [k1]; decide) (by rw [k1]; decide) (by rw [k1]; rfl) (by decide) ?_
    refine lv_bipush (v := 9) hx hb dX10_mostOf_66 (by decide) ?_
    exact tc_pret E hr hlk eH eL rfl (show 2 ≤ (9 : Int32).toInt ∧ (9 : Int32).toInt ≤ 99 by have kk := kI_9; omega) dX10_mostOf_68
  · refine lv_tableIn (off := 68) (tgt := 69) hx hb dX10_mostOf_1 (by rw [k1]; decide) (by rw [k1]; decide) (by rw [k1]; rfl) (by decide) ?_
    refine lv_iconst (v := 2) hx hb dX10_mostOf_69 (by decide) ?_
    exact tc_pret E hr hlk eH eL rfl (show 2 ≤ (2 : Int32).toInt ∧ (2 : Int32).toInt ≤ 99 by have kk := kI_2; omega) dX10_mostOf_70

set_option maxHeartbeats 4000000 in
set_option maxRecDepth 100000 in
theorem c_X10_mayBe (l : Launch) (G : tG) (Y : mY) (x0 : Int32) (x1 : Int32) (x2 : Int32)  : Met l yX10_mayBe (.code yX10_mayBe cX10_mayBe 3 (some .boolean) :: tWS) (tRm 1 25) (va_Pc [.int x0, .int x1, .int x2] (mPre G Y)) (tQp (fun r => (r.toInt = 1 ∧ 0 ≤ x2.toInt ∧ x2.toInt ≤ 99 ∧ (x0.toInt = 6 → 1 ≤ x2.toInt)) ∨ r.toInt = 0)) 0 0 tNo := by
  refine mc_met (by decide) (Nat.le_of_ble_eq_true rfl) ?_
  intro p e s m below meth c E hr hlk hG ls hl
  have hl : lv_has ls 3 [(0, .int x0), (1, .int x1), (2, .int x2)] := hl
  have hx := E.1
  have hb := E.2.1
  obtain ⟨H, eH⟩ : ∃ H, H = s.heap := ⟨_, rfl⟩
  obtain ⟨locs, eL⟩ : ∃ x : List Loc, x = [] := ⟨_, rfl⟩
  have hG : mGH G Y s H locs := by rw [eH, eL]; exact hG
  suffices hW : W p l e (tRm 1 25) s m ([.int x0, .int x1, .int x2] : List Value).toArray below meth c H locs 0 0 (MQ below (tQp (fun r => (r.toInt = 1 ∧ 0 ≤ x2.toInt ∧ x2.toInt ≤ 99 ∧ (x0.toInt = 6 → 1 ≤ x2.toInt)) ∨ r.toInt = 0)) ([.int x0, .int x1, .int x2] : List Value).toArray s 0 0 tNo) (F0 m 0 ls []) by subst eH; subst eL; exact hW
  refine lv_iload_n hx hb dX10_mayBe_0 rfl (lv_at hl 2 rfl) ?_
  refine lv_i2l hx hb dX10_mayBe_1 rfl ?_
  refine lv_topl (fun z1 ez1 => ?_)
  have tz1 := tl_i2l ez1
  refine lv_iload_n hx hb dX10_mayBe_2 rfl (lv_at hl 0 rfl) ?_
  refine tc_callp (mc_runS (As := [.int x0]) (rest := [.long z1]) E hG (c_X10_leastOf l G Y x0) ks_X10_leastOf ml_X10_95 ⟨rfl, rfl, Nat.le_of_ble_eq_true rfl, Nat.le_of_ble_eq_true rfl⟩ rfl hl.1 rfl (Nat.le_of_ble_eq_true rfl) ⟨Nat.zero_le _, Nat.zero_le _⟩ dX10_mayBe_3) (fun r2 pr2 => ?_)
  have pr2 : (x0.toInt = 6 ∧ r2.toInt = 1) ∨ (¬ x0.toInt = 6 ∧ r2.toInt = 0) := pr2
  refine lv_i2l hx hb dX10_mayBe_6 rfl ?_
  refine lv_topl (fun z3 ez3 => ?_)
  have tz3 := tl_i2l ez3
  refine lv_iload_n hx hb dX10_mayBe_7 rfl (lv_at hl 0 rfl) ?_
  refine lv_iload_n hx hb dX10_mayBe_8 rfl (lv_at hl 1 rfl) ?_
  refine tc_callp (mc_runS (As := [.int x0, .int x1]) (rest := [.long z3, .long z1]) E hG (c_X10_mostOf l G Y x0 x1) ks_X10_mostOf ml_X10_99 ⟨rfl, rfl, Nat.le_of_ble_eq_true rfl, Nat.le_of_ble_eq_true rfl⟩ rfl hl.1 rfl (Nat.le_of_ble_eq_true rfl) ⟨Nat.zero_le _, Nat.zero_le _⟩ dX10_mayBe_9) (fun r4 pr4 => ?_)
  have pr4 : 2 ≤ r4.toInt ∧ r4.toInt ≤ 99 := pr4
  refine lv_i2l hx hb dX10_mayBe_12 rfl ?_
  refine lv_topl (fun z5 ez5 => ?_)
  have tz5 := tl_i2l ez5
  refine tc_callp (mc_runS (As := [.long z1, .long z3, .long z5]) (rest := []) E hG (c_X10_in l G Y z1 z3 z5) ks_X10_in ml_X10_87 ⟨rfl, rfl, Nat.le_of_ble_eq_true rfl, Nat.le_of_ble_eq_true rfl⟩ rfl hl.1 rfl (Nat.le_of_ble_eq_true rfl) ⟨Nat.zero_le _, Nat.zero_le _⟩ dX10_mayBe_13) (fun r6 pr6 => ?_)
  have pr6 : ((r6.toInt = 1 ∧ z3.toInt ≤ z1.toInt ∧ z1.toInt ≤ z5.toInt) ∨ (r6.toInt = 0 ∧ (z1.toInt < z3.toInt ∨ z5.toInt < z1.toInt))) := pr6
  exact tc_pret E hr hlk eH eL (t_nz (by omega) (by omega)).1 (show (r6.toInt = 1 ∧ 0 ≤ x2.toInt ∧ x2.toInt ≤ 99 ∧ (x0.toInt = 6 → 1 ≤ x2.toInt)) ∨ r6.toInt = 0 by omega) dX10_mayBe_16

set_option maxHeartbeats 4000000 in
set_option maxRecDepth 100000 in
theorem c_X10_isFixed (l : Launch) (G : tG) (Y : mY) (h0 : Nat) (x1 : Int32) (t0 : Y.1 h0 = 1) (l1 : 0 ≤ x1.toInt) (u1 : x1.toInt ≤ 23) : Met l yX10_isFixed (.code yX10_isFixed cX10_isFixed 2 (some .boolean) :: tWS) (tRm 1 22) (va_Pc [.ref h0, .int x1] (mPre G Y)) (tQp (fun r => 0 ≤ r.toInt ∧ r.toInt ≤ 1)) 0 0 tNo := by
  refine mc_met (by decide) (Nat.le_of_ble_eq_true rfl) ?_
  intro p e s m below meth c E hr hlk hG ls hl
  have hl : lv_has ls 2 [(0, .ref h0), (1, .int x1)] := hl
  have hx := E.1
  have hb := E.2.1
  obtain ⟨H, eH⟩ : ∃ H, H = s.heap := ⟨_, rfl⟩
  obtain ⟨locs, eL⟩ : ∃ x : List Loc, x = [] := ⟨_, rfl⟩
  have hG : mGH G Y s H locs := by rw [eH, eL]; exact hG
  suffices hW : W p l e (tRm 1 22) s m ([.ref h0, .int x1] : List Value).toArray below meth c H locs 0 0 (MQ below (tQp (fun r => 0 ≤ r.toInt ∧ r.toInt ≤ 1)) ([.ref h0, .int x1] : List Value).toArray s 0 0 tNo) (F0 m 0 ls []) by subst eH; subst eL; exact hW
  refine lv_aload_n hx hb dX10_isFixed_0 rfl (lv_at hl 0 rfl) ?_
  refine lv_iload_n hx hb dX10_isFixed_1 rfl (lv_at hl 1 rfl) ?_
  refine lv_bipush (v := 25) hx hb dX10_isFixed_2 (by decide) ?_
  refine tc_callp (mc_runV (As := [.int x1, .int 25]) (rest := []) E hG (c_X10_get l G Y h0 x1 (25 : Int32) t0 (by omega) (by omega) (by decide) (by decide)) t0 rfl kv_X10_get ml_X10_91 ⟨rfl, rfl, Nat.le_of_ble_eq_true rfl, Nat.le_of_ble_eq_true rfl⟩ rfl hl.1 rfl (Nat.le_of_ble_eq_true rfl) ⟨Nat.zero_le _, Nat.zero_le _⟩ dX10_isFixed_4) (fun r1 pr1 => ?_)
  have pr1 : mV Y (ix x1.toInt (25 : Int32).toInt) r1 := pr1
  have pr1 := mV_l pr1 kI_25
  have br1 := mV_25 pr1 (by omega)
  have k2 := kI_25
  refine lv_iconst (v := 1) hx hb dX10_isFixed_7 (by decide) ?_
  refine lv_icmp_ne (tgt := 49) hx hb dX10_isFixed_8 (by decide) (fun c3 => ?_) (fun c3 => ?_)
  · skip
    have ic3 := tn_ne rfl kI_1 c3
    refine lv_iconst (v := 0) hx hb dX10_isFixed_49 (by decide) ?_
    exact tc_pret E hr hlk eH eL (t_nz (by decide) (by decide)).1 (show 0 ≤ (0 : Int32).toInt ∧ (0 : Int32).toInt ≤ 1 by have kk := kI_0; omega) dX10_isFixed_50
  · skip
    have ic3 := tn_eq rfl kI_1 c3
    refine lv_aload_n hx hb dX10_isFixed_11 rfl (lv_at hl 0 rfl) ?_
    refine lv_iload_n hx hb dX10_isFixed_12 rfl (lv_at hl 1 rfl) ?_
    refine lv_bipush (v := 26) hx hb dX10_isFixed_13 (by decide) ?_
    refine tc_callp (mc_runV (As := [.int x1, .int 26]) (rest := []) E hG (c_X10_get l G Y h0 x1 (26 : Int32) t0 (by omega) (by omega) (by decide) (by decide)) t0 rfl kv_X10_get ml_X10_91 ⟨rfl, rfl, Nat.le_of_ble_eq_true rfl, Nat.le_of_ble_eq_true rfl⟩ rfl hl.1 rfl (Nat.le_of_ble_eq_true rfl) ⟨Nat.zero_le _, Nat.zero_le _⟩ dX10_isFixed_15) (fun r4 pr4 => ?_)
    have pr4 : mV Y (ix x1.toInt (26 : Int32).toInt) r4 := pr4
    have pr4 := mV_l pr4 kI_26
    have br4 := mV_26 pr4 (by omega)
    have k5 := kI_26
    refine lv_aload_n hx hb dX10_isFixed_18 rfl (lv_at hl 0 rfl) ?_
    refine lv_iload_n hx hb dX10_isFixed_19 rfl (lv_at hl 1 rfl) ?_
    refine lv_bipush (v := 27) hx hb dX10_isFixed_20 (by decide) ?_
    refine tc_callp (mc_runV (As := [.int x1, .int 27]) (rest := [.int r4]) E hG (c_X10_get l G Y h0 x1 (27 : Int32) t0 (by omega) (by omega) (by decide) (by decide)) t0 rfl kv_X10_get ml_X10_91 ⟨rfl, rfl, Nat.le_of_ble_eq_true rfl, Nat.le_of_ble_eq_true rfl⟩ rfl hl.1 rfl (Nat.le_of_ble_eq_true rfl) ⟨Nat.zero_le _, Nat.zero_le _⟩ dX10_isFixed_22) (fun r6 pr6 => ?_)
    have pr6 : mV Y (ix x1.toInt (27 : Int32).toInt) r6 := pr6
    have pr6 := mV_l pr6 kI_27
    have br6 := mV_27 pr6 (by omega)
    have k7 := kI_27
    refine lv_icmp_ne (tgt := 49) hx hb dX10_isFixed_25 (by decide) (fun c8 => ?_) (fun c8 => ?_)
    · skip
      have ic8 := tn_ne rfl rfl c8
      refine lv_iconst (v := 0) hx hb dX10_isFixed_49 (by decide) ?_
      exact tc_pret E hr hlk eH eL (t_nz (by decide) (by decide)).1 (show 0 ≤ (0 : Int32).toInt ∧ (0 : Int32).toInt ≤ 1 by have kk := kI_0; omega) dX10_isFixed_50
    · skip
      have ic8 := tn_eq rfl rfl c8
      refine lv_aload_n hx hb dX10_isFixed_28 rfl (lv_at hl 0 rfl) ?_
      refine lv_iload_n hx hb dX10_isFixed_29 rfl (lv_at hl 1 rfl) ?_
      refine lv_bipush (v := 28) hx hb dX10_isFixed_30 (by decide) ?_
      refine tc_callp (mc_runV (As := [.int x1, .int 28]) (rest := []) E hG (c_X10_get l G Y h0 x1 (28 : Int32) t0 (by omega) (by omega) (by decide) (by decide)) t0 rfl kv_X10_get ml_X10_91 ⟨rfl, rfl, Nat.le_of_ble_eq_true rfl, Nat.le_of_ble_eq_true rfl⟩ rfl hl.1 rfl (Nat.le_of_ble_eq_true rfl) ⟨Nat.zero_le _, Nat.zero_le _⟩ dX10_isFixed_32) (fun r9 pr9 => ?_)
      have pr9 : mV Y (ix x1.toInt (28 : Int32).toInt) r9 := pr9
      have pr9 := mV_l pr9 kI_28
      have br9 := mV_28 pr9 (by omega)
      have k10 := kI_28
      refine lv_aload_n hx hb dX10_isFixed_35 rfl (lv_at hl 0 rfl) ?_
      refine lv_iload_n hx hb dX10_isFixed_36 rfl (lv_at hl 1 rfl) ?_
      refine lv_bipush (v := 29) hx hb dX10_isFixed_37 (by decide) ?_
      refine tc_callp (mc_runV (As := [.int x1, .int 29]) (rest := [.int r9]) E hG (c_X10_get l G Y h0 x1 (29 : Int32) t0 (by omega) (by omega) (by decide) (by decide)) t0 rfl kv_X10_get ml_X10_91 ⟨rfl, rfl, Nat.le_of_ble_eq_true rfl, Nat.le_of_ble_eq_true rfl⟩ rfl hl.1 rfl (Nat.le_of_ble_eq_true rfl) ⟨Nat.zero_le _, Nat.zero_le _⟩ dX10_isFixed_39) (fun r11 pr11 => ?_)
      have pr11 : mV Y (ix x1.toInt (29 : Int32).toInt) r11 := pr11
      have pr11 := mV_l pr11 kI_29
      have br11 := mV_29 pr11 (by omega)
      have k12 := kI_29
      refine lv_icmp_ne (tgt := 49) hx hb dX10_isFixed_42 (by decide) (fun c13 => ?_) (fun c13 => ?_)
      · skip
        have ic13 := tn_ne rfl rfl c13
        refine lv_iconst (v := 0) hx hb dX10_isFixed_49 (by decide) ?_
        exact tc_pret E hr hlk eH eL (t_nz (by decide) (by decide)).1 (show 0 ≤ (0 : Int32).toInt ∧ (0 : Int32).toInt ≤ 1 by have kk := kI_0; omega) dX10_isFixed_50
      · skip
        have ic13 := tn_eq rfl rfl c13
        refine lv_iconst (v := 1) hx hb dX10_isFixed_45 (by decide) ?_
        refine lv_goto (tgt := 50) hx hb dX10_isFixed_46 (by decide) ?_
        exact tc_pret E hr hlk eH eL (t_nz (by decide) (by decide)).1 (show 0 ≤ (1 : Int32).toInt ∧ (1 : Int32).toInt ≤ 1 by have kk := kI_1; omega) dX10_isFixed_50

set_option maxHeartbeats 4000000 in
set_option maxRecDepth 100000 in
theorem c_X10_areGood (l : Launch) (G : tG) (Y : mY) (x0 : Int32) (x1 : Int32) (x2 : Int32) (x3 : Int32) (x4 : Int32)  : Met l yX10_areGood (.code yX10_areGood cX10_areGood 7 (some .boolean) :: tWS) (tRm 2 47) (va_Pc [.int x0, .int x1, .int x2, .int x3, .int x4] (mPre G Y)) (tQp (fun r => (r.toInt = 0 ∨ (r.toInt = 1 ∧ (x0.toInt = 4 ∨ x0.toInt = 5 ∨ (0 ≤ x1.toInt ∧ x1.toInt ≤ 99 ∧ (x0.toInt = 6 → 1 ≤ x1.toInt))) ∧ (x0.toInt = 4 ∨ x0.toInt = 5 ∨ x0.toInt = 7 ∨ (0 ≤ x2.toInt ∧ x2.toInt ≤ 99 ∧ (x0.toInt = 6 → 1 ≤ x2.toInt))) ∧ (¬ x0.toInt = 3 ∨ (0 ≤ x3.toInt ∧ x3.toInt ≤ 99 ∧ 0 ≤ x4.toInt ∧ x4.toInt ≤ 99)))))) 0 0 tNo := by
  refine mc_met (by decide) (Nat.le_of_ble_eq_true rfl) ?_
  intro p e s m below meth c E hr hlk hG ls hl
  have hl : lv_has ls 7 [(0, .int x0), (1, .int x1), (2, .int x2), (3, .int x3), (4, .int x4)] := hl
  have hx := E.1
  have hb := E.2.1
  obtain ⟨H, eH⟩ : ∃ H, H = s.heap := ⟨_, rfl⟩
  obtain ⟨locs, eL⟩ : ∃ x : List Loc, x = [] := ⟨_, rfl⟩
  have hG : mGH G Y s H locs := by rw [eH, eL]; exact hG
  suffices hW : W p l e (tRm 2 47) s m ([.int x0, .int x1, .int x2, .int x3, .int x4] : List Value).toArray below meth c H locs 0 0 (MQ below (tQp (fun r => (r.toInt = 0 ∨ (r.toInt = 1 ∧ (x0.toInt = 4 ∨ x0.toInt = 5 ∨ (0 ≤ x1.toInt ∧ x1.toInt ≤ 99 ∧ (x0.toInt = 6 → 1 ≤ x1.toInt))) ∧ (x0.toInt = 4 ∨ x0.toInt = 5 ∨ x0.toInt = 7 ∨ (0 ≤ x2.toInt ∧ x2.toInt ≤ 99 ∧ (x0.toInt = 6 → 1 ≤ x2.toInt))) ∧ (¬ x0.toInt = 3 ∨ (0 ≤ x3.toInt ∧ x3.toInt ≤ 99 ∧ 0 ≤ x4.toInt ∧ x4.toInt ≤ 99)))))) ([.int x0, .int x1, .int x2, .int x3, .int x4] : List Value).toArray s 0 0 tNo) (F0 m 0 ls []) by subst eH; subst eL; exact hW
  refine lv_iload_n hx hb dX10_areGood_0 rfl (lv_at hl 0 rfl) ?_
  refine tc_callp (mc_runS (As := [.int x0]) (rest := []) E hG (c_X10_numbersOf l G Y x0) ks_X10_numbersOf ml_X10_110 ⟨rfl, rfl, Nat.le_of_ble_eq_true rfl, Nat.le_of_ble_eq_true rfl⟩ rfl hl.1 rfl (Nat.le_of_ble_eq_true rfl) ⟨Nat.zero_le _, Nat.zero_le _⟩ dX10_areGood_1) (fun r1 pr1 => ?_)
  have pr1 : (x0.toInt = 3 ∧ r1.toInt = 4) ∨ ((x0.toInt = 4 ∨ x0.toInt = 5) ∧ r1.toInt = 0) ∨ (x0.toInt = 7 ∧ r1.toInt = 1) ∨ (¬ x0.toInt = 3 ∧ ¬ x0.toInt = 4 ∧ ¬ x0.toInt = 5 ∧ ¬ x0.toInt = 7 ∧ r1.toInt = 2) := pr1
  refine lv_istore (lv' := [(5, .int r1), (0, .int x0), (1, .int x1), (2, .int x2), (3, .int x3), (4, .int x4)]) hx hb dX10_areGood_4 hl (by decide) rfl (fun ls hl => ?_)
  refine lv_iload hx hb dX10_areGood_6 (lv_at hl 0 rfl) ?_
  refine lv_iconst (v := 1) hx hb dX10_areGood_8 (by decide) ?_
  refine lv_icmp_lt (tgt := 21) hx hb dX10_areGood_9 (by decide) (fun c2 => ?_) (fun c2 => ?_)
  · skip
    have ic2 := tn_lt rfl kI_1 c2
    refine lv_iload hx hb dX10_areGood_21 (lv_at hl 0 rfl) ?_
    refine lv_iconst (v := 2) hx hb dX10_areGood_23 (by decide) ?_
    refine lv_icmp_lt (tgt := 36) hx hb dX10_areGood_24 (by decide) (fun c3 => ?_) (fun c3 => ?_)
    · skip
      have ic3 := tn_lt rfl kI_2 c3
      refine lv_iload hx hb dX10_areGood_36 (lv_at hl 0 rfl) ?_
      refine lv_iconst (v := 3) hx hb dX10_areGood_38 (by decide) ?_
      refine lv_icmp_lt (tgt := 61) hx hb dX10_areGood_39 (by decide) (fun c4 => ?_) (fun c4 => ?_)
      · skip
        have ic4 := tn_lt rfl kI_3 c4
        refine lv_iconst (v := 1) hx hb dX10_areGood_61 (by decide) ?_
        refine lv_goto (tgt := 66) hx hb dX10_areGood_62 (by decide) ?_
        refine lv_istore (lv' := [(6, .int 1), (5, .int r1), (0, .int x0), (1, .int x1), (2, .int x2), (3, .int x3), (4, .int x4)]) hx hb dX10_areGood_66 hl (by decide) rfl (fun ls hl => ?_)
        refine lv_iload hx hb dX10_areGood_68 (lv_at hl 0 rfl) ?_
        refine lv_if_eq (tgt := 93) hx hb dX10_areGood_70 (by decide) (fun c5 => ?_) (fun c5 => ?_)
        · exfalso
          have ic5 := tn_eq kI_1 kI_0 c5
          omega
        · skip
          have ic5 := tn_ne kI_1 kI_0 c5
          refine lv_iload_n hx hb dX10_areGood_73 rfl (lv_at hl 2 rfl) ?_
          refine lv_iconst (v := 3) hx hb dX10_areGood_74 (by decide) ?_
          refine lv_icmp_ne (tgt := 89) hx hb dX10_areGood_75 (by decide) (fun c6 => ?_) (fun c6 => ?_)
          · skip
            have ic6 := tn_ne rfl kI_3 c6
            refine lv_iconst (v := 1) hx hb dX10_areGood_89 (by decide) ?_
            refine lv_goto (tgt := 94) hx hb dX10_areGood_90 (by decide) ?_
            exact tc_pret E hr hlk eH eL (t_nz (by decide) (by decide)).1 (show ((1 : Int32).toInt = 0 ∨ ((1 : Int32).toInt = 1 ∧ (x0.toInt = 4 ∨ x0.toInt = 5 ∨ (0 ≤ x1.toInt ∧ x1.toInt ≤ 99 ∧ (x0.toInt = 6 → 1 ≤ x1.toInt))) ∧ (x0.toInt = 4 ∨ x0.toInt = 5 ∨ x0.toInt = 7 ∨ (0 ≤ x2.toInt ∧ x2.toInt ≤ 99 ∧ (x0.toInt = 6 → 1 ≤ x2.toInt))) ∧ (¬ x0.toInt = 3 ∨ (0 ≤ x3.toInt ∧ x3.toInt ≤ 99 ∧ 0 ≤ x4.toInt ∧ x4.toInt ≤ 99)))) by have kk := kI_1; omega) dX10_areGood_94
          · skip
            have ic6 := tn_eq rfl kI_3 c6
            refine lv_iload_n hx hb dX10_areGood_78 rfl (lv_at hl 3 rfl) ?_
            refine lv_iload_n hx hb dX10_areGood_79 rfl (lv_at hl 4 rfl) ?_
            refine lv_icmp_gt (tgt := 93) hx hb dX10_areGood_80 (by decide) (fun c7 => ?_) (fun c7 => ?_)
            · skip
              have ic7 := tn_lt rfl rfl c7
              refine lv_iconst (v := 0) hx hb dX10_areGood_93 (by decide) ?_
              exact tc_pret E hr hlk eH eL (t_nz (by decide) (by decide)).1 (show ((0 : Int32).toInt = 0 ∨ ((0 : Int32).toInt = 1 ∧ (x0.toInt = 4 ∨ x0.toInt = 5 ∨ (0 ≤ x1.toInt ∧ x1.toInt ≤ 99 ∧ (x0.toInt = 6 → 1 ≤ x1.toInt))) ∧ (x0.toInt = 4 ∨ x0.toInt = 5 ∨ x0.toInt = 7 ∨ (0 ≤ x2.toInt ∧ x2.toInt ≤ 99 ∧ (x0.toInt = 6 → 1 ≤ x2.toInt))) ∧ (¬ x0.toInt = 3 ∨ (0 ≤ x3.toInt ∧ x3.toInt ≤ 99 ∧ 0 ≤ x4.toInt ∧ x4.toInt ≤ 99)))) by have kk := kI_0; omega) dX10_areGood_94
            · skip
              have ic7 := tn_nlt rfl rfl c7
              refine lv_iload_n hx hb dX10_areGood_83 rfl (lv_at hl 5 rfl) ?_
              refine lv_iload hx hb dX10_areGood_84 (lv_at hl 6 rfl) ?_
              refine lv_icmp_gt (tgt := 93) hx hb dX10_areGood_86 (by decide) (fun c8 => ?_) (fun c8 => ?_)
              · skip
                have ic8 := tn_lt rfl rfl c8
                refine lv_iconst (v := 0) hx hb dX10_areGood_93 (by decide) ?_
                exact tc_pret E hr hlk eH eL (t_nz (by decide) (by decide)).1 (show ((0 : Int32).toInt = 0 ∨ ((0 : Int32).toInt = 1 ∧ (x0.toInt = 4 ∨ x0.toInt = 5 ∨ (0 ≤ x1.toInt ∧ x1.toInt ≤ 99 ∧ (x0.toInt = 6 → 1 ≤ x1.toInt))) ∧ (x0.toInt = 4 ∨ x0.toInt = 5 ∨ x0.toInt = 7 ∨ (0 ≤ x2.toInt ∧ x2.toInt ≤ 99 ∧ (x0.toInt = 6 → 1 ≤ x2.toInt))) ∧ (¬ x0.toInt = 3 ∨ (0 ≤ x3.toInt ∧ x3.toInt ≤ 99 ∧ 0 ≤ x4.toInt ∧ x4.toInt ≤ 99)))) by have kk := kI_0; omega) dX10_areGood_94
              · skip
                have ic8 := tn_nlt rfl rfl c8
                refine lv_iconst (v := 1) hx hb dX10_areGood_89 (by decide) ?_
                refine lv_goto (tgt := 94) hx hb dX10_areGood_90 (by decide) ?_
                exact tc_pret E hr hlk eH eL (t_nz (by decide) (by decide)).1 (show ((1 : Int32).toInt = 0 ∨ ((1 : Int32).toInt = 1 ∧ (x0.toInt = 4 ∨ x0.toInt = 5 ∨ (0 ≤ x1.toInt ∧ x1.toInt ≤ 99 ∧ (x0.toInt = 6 → 1 ≤ x1.toInt))) ∧ (x0.toInt = 4 ∨ x0.toInt = 5 ∨ x0.toInt = 7 ∨ (0 ≤ x2.toInt ∧ x2.toInt ≤ 99 ∧ (x0.toInt = 6 → 1 ≤ x2.toInt))) ∧ (¬ x0.toInt = 3 ∨ (0 ≤ x3.toInt ∧ x3.toInt ≤ 99 ∧ 0 ≤ x4.toInt ∧ x4.toInt ≤ 99)))) by have kk := kI_1; omega) dX10_areGood_94
      · exfalso
        have ic4 := tn_nlt rfl kI_3 c4
        omega
    · exfalso
      have ic3 := tn_nlt rfl kI_2 c3
      omega
  · skip
    have ic2 := tn_nlt rfl kI_1 c2
    refine lv_iload_n hx hb dX10_areGood_12 rfl (lv_at hl 1 rfl) ?_
    refine lv_iconst (v := 0) hx hb dX10_areGood_13 (by decide) ?_
    refine lv_iload_n hx hb dX10_areGood_14 rfl (lv_at hl 2 rfl) ?_
    refine tc_callp (mc_runS (As := [.int x0, .int 0, .int x1]) (rest := []) E hG (c_X10_mayBe l G Y x0 (0 : Int32) x1) ks_X10_mayBe ml_X10_120 ⟨rfl, rfl, Nat.le_of_ble_eq_true rfl, Nat.le_of_ble_eq_true rfl⟩ rfl hl.1 rfl (Nat.le_of_ble_eq_true rfl) ⟨Nat.zero_le _, Nat.zero_le _⟩ dX10_areGood_15) (fun r9 pr9 => ?_)
    have pr9 : (r9.toInt = 1 ∧ 0 ≤ x1.toInt ∧ x1.toInt ≤ 99 ∧ (x0.toInt = 6 → 1 ≤ x1.toInt)) ∨ r9.toInt = 0 := pr9
    have k10 := kI_0
    refine lv_if_eq (tgt := 65) hx hb dX10_areGood_18 (by decide) (fun c11 => ?_) (fun c11 => ?_)
    · skip
      have ic11 := tn_eq rfl kI_0 c11
      refine lv_iconst (v := 0) hx hb dX10_areGood_65 (by decide) ?_
      refine lv_istore (lv' := [(6, .int 0), (5, .int r1), (0, .int x0), (1, .int x1), (2, .int x2), (3, .int x3), (4, .int x4)]) hx hb dX10_areGood_66 hl (by decide) rfl (fun ls hl => ?_)
      refine lv_iload hx hb dX10_areGood_68 (lv_at hl 0 rfl) ?_
      refine lv_if_eq (tgt := 93) hx hb dX10_areGood_70 (by decide) (fun c12 => ?_) (fun c12 => ?_)
      · skip
        have ic12 := tn_eq kI_0 kI_0 c12
        refine lv_iconst (v := 0) hx hb dX10_areGood_93 (by decide) ?_
        exact tc_pret E hr hlk eH eL (t_nz (by decide) (by decide)).1 (show ((0 : Int32).toInt = 0 ∨ ((0 : Int32).toInt = 1 ∧ (x0.toInt = 4 ∨ x0.toInt = 5 ∨ (0 ≤ x1.toInt ∧ x1.toInt ≤ 99 ∧ (x0.toInt = 6 → 1 ≤ x1.toInt))) ∧ (x0.toInt = 4 ∨ x0.toInt = 5 ∨ x0.toInt = 7 ∨ (0 ≤ x2.toInt ∧ x2.toInt ≤ 99 ∧ (x0.toInt = 6 → 1 ≤ x2.toInt))) ∧ (¬ x0.toInt = 3 ∨ (0 ≤ x3.toInt ∧ x3.toInt ≤ 99 ∧ 0 ≤ x4.toInt ∧ x4.toInt ≤ 99)))) by have kk := kI_0; omega) dX10_areGood_94
      · exfalso
        have ic12 := tn_ne kI_0 kI_0 c12
        omega
    · skip
      have ic11 := tn_ne rfl kI_0 c11
      refine lv_iload hx hb dX10_areGood_21 (lv_at hl 0 rfl) ?_
      refine lv_iconst (v := 2) hx hb dX10_areGood_23 (by decide) ?_
      refine lv_icmp_lt (tgt := 36) hx hb dX10_areGood_24 (by decide) (fun c13 => ?_) (fun c13 => ?_)
      · skip
        have ic13 := tn_lt rfl kI_2 c13
        refine lv_iload hx hb dX10_areGood_36 (lv_at hl 0 rfl) ?_
        refine lv_iconst (v := 3) hx hb dX10_areGood_38 (by decide) ?_
        refine lv_icmp_lt (tgt := 61) hx hb dX10_areGood_39 (by decide) (fun c14 => ?_) (fun c14 => ?_)
        · skip
          have ic14 := tn_lt rfl kI_3 c14
          refine lv_iconst (v := 1) hx hb dX10_areGood_61 (by decide) ?_
          refine lv_goto (tgt := 66) hx hb dX10_areGood_62 (by decide) ?_
          refine lv_istore (lv' := [(6, .int 1), (5, .int r1), (0, .int x0), (1, .int x1), (2, .int x2), (3, .int x3), (4, .int x4)]) hx hb dX10_areGood_66 hl (by decide) rfl (fun ls hl => ?_)
          refine lv_iload hx hb dX10_areGood_68 (lv_at hl 0 rfl) ?_
          refine lv_if_eq (tgt := 93) hx hb dX10_areGood_70 (by decide) (fun c15 => ?_) (fun c15 => ?_)
          · exfalso
            have ic15 := tn_eq kI_1 kI_0 c15
            omega
          · skip
            have ic15 := tn_ne kI_1 kI_0 c15
            refine lv_iload_n hx hb dX10_areGood_73 rfl (lv_at hl 2 rfl) ?_
            refine lv_iconst (v := 3) hx hb dX10_areGood_74 (by decide) ?_
            refine lv_icmp_ne (tgt := 89) hx hb dX10_areGood_75 (by decide) (fun c16 => ?_) (fun c16 => ?_)
            · skip
              have ic16 := tn_ne rfl kI_3 c16
              refine lv_iconst (v := 1) hx hb dX10_areGood_89 (by decide) ?_
              refine lv_goto (tgt := 94) hx hb dX10_areGood_90 (by decide) ?_
              exact tc_pret E hr hlk eH eL (t_nz (by decide) (by decide)).1 (show ((1 : Int32).toInt = 0 ∨ ((1 : Int32).toInt = 1 ∧ (x0.toInt = 4 ∨ x0.toInt = 5 ∨ (0 ≤ x1.toInt ∧ x1.toInt ≤ 99 ∧ (x0.toInt = 6 → 1 ≤ x1.toInt))) ∧ (x0.toInt = 4 ∨ x0.toInt = 5 ∨ x0.toInt = 7 ∨ (0 ≤ x2.toInt ∧ x2.toInt ≤ 99 ∧ (x0.toInt = 6 → 1 ≤ x2.toInt))) ∧ (¬ x0.toInt = 3 ∨ (0 ≤ x3.toInt ∧ x3.toInt ≤ 99 ∧ 0 ≤ x4.toInt ∧ x4.toInt ≤ 99)))) by have kk := kI_1; omega) dX10_areGood_94
            · skip
              have ic16 := tn_eq rfl kI_3 c16
              refine lv_iload_n hx hb dX10_areGood_78 rfl (lv_at hl 3 rfl) ?_
              refine lv_iload_n hx hb dX10_areGood_79 rfl (lv_at hl 4 rfl) ?_
              refine lv_icmp_gt (tgt := 93) hx hb dX10_areGood_80 (by decide) (fun c17 => ?_) (fun c17 => ?_)
              · skip
                have ic17 := tn_lt rfl rfl c17
                refine lv_iconst (v := 0) hx hb dX10_areGood_93 (by decide) ?_
                exact tc_pret E hr hlk eH eL (t_nz (by decide) (by decide)).1 (show ((0 : Int32).toInt = 0 ∨ ((0 : Int32).toInt = 1 ∧ (x0.toInt = 4 ∨ x0.toInt = 5 ∨ (0 ≤ x1.toInt ∧ x1.toInt ≤ 99 ∧ (x0.toInt = 6 → 1 ≤ x1.toInt))) ∧ (x0.toInt = 4 ∨ x0.toInt = 5 ∨ x0.toInt = 7 ∨ (0 ≤ x2.toInt ∧ x2.toInt ≤ 99 ∧ (x0.toInt = 6 → 1 ≤ x2.toInt))) ∧ (¬ x0.toInt = 3 ∨ (0 ≤ x3.toInt ∧ x3.toInt ≤ 99 ∧ 0 ≤ x4.toInt ∧ x4.toInt ≤ 99)))) by have kk := kI_0; omega) dX10_areGood_94
              · skip
                have ic17 := tn_nlt rfl rfl c17
                refine lv_iload_n hx hb dX10_areGood_83 rfl (lv_at hl 5 rfl) ?_
                refine lv_iload hx hb dX10_areGood_84 (lv_at hl 6 rfl) ?_
                refine lv_icmp_gt (tgt := 93) hx hb dX10_areGood_86 (by decide) (fun c18 => ?_) (fun c18 => ?_)
                · skip
                  have ic18 := tn_lt rfl rfl c18
                  refine lv_iconst (v := 0) hx hb dX10_areGood_93 (by decide) ?_
                  exact tc_pret E hr hlk eH eL (t_nz (by decide) (by decide)).1 (show ((0 : Int32).toInt = 0 ∨ ((0 : Int32).toInt = 1 ∧ (x0.toInt = 4 ∨ x0.toInt = 5 ∨ (0 ≤ x1.toInt ∧ x1.toInt ≤ 99 ∧ (x0.toInt = 6 → 1 ≤ x1.toInt))) ∧ (x0.toInt = 4 ∨ x0.toInt = 5 ∨ x0.toInt = 7 ∨ (0 ≤ x2.toInt ∧ x2.toInt ≤ 99 ∧ (x0.toInt = 6 → 1 ≤ x2.toInt))) ∧ (¬ x0.toInt = 3 ∨ (0 ≤ x3.toInt ∧ x3.toInt ≤ 99 ∧ 0 ≤ x4.toInt ∧ x4.toInt ≤ 99)))) by have kk := kI_0; omega) dX10_areGood_94
                · skip
                  have ic18 := tn_nlt rfl rfl c18
                  refine lv_iconst (v := 1) hx hb dX10_areGood_89 (by decide) ?_
                  refine lv_goto (tgt := 94) hx hb dX10_areGood_90 (by decide) ?_
                  exact tc_pret E hr hlk eH eL (t_nz (by decide) (by decide)).1 (show ((1 : Int32).toInt = 0 ∨ ((1 : Int32).toInt = 1 ∧ (x0.toInt = 4 ∨ x0.toInt = 5 ∨ (0 ≤ x1.toInt ∧ x1.toInt ≤ 99 ∧ (x0.toInt = 6 → 1 ≤ x1.toInt))) ∧ (x0.toInt = 4 ∨ x0.toInt = 5 ∨ x0.toInt = 7 ∨ (0 ≤ x2.toInt ∧ x2.toInt ≤ 99 ∧ (x0.toInt = 6 → 1 ≤ x2.toInt))) ∧ (¬ x0.toInt = 3 ∨ (0 ≤ x3.toInt ∧ x3.toInt ≤ 99 ∧ 0 ≤ x4.toInt ∧ x4.toInt ≤ 99)))) by have kk := kI_1; omega) dX10_areGood_94
        · exfalso
          have ic14 := tn_nlt rfl kI_3 c14
          omega
      · skip
        have ic13 := tn_nlt rfl kI_2 c13
        refine lv_iload_n hx hb dX10_areGood_27 rfl (lv_at hl 1 rfl) ?_
        refine lv_iconst (v := 1) hx hb dX10_areGood_28 (by decide) ?_
        refine lv_iload_n hx hb dX10_areGood_29 rfl (lv_at hl 3 rfl) ?_
        refine tc_callp (mc_runS (As := [.int x0, .int 1, .int x2]) (rest := []) E hG (c_X10_mayBe l G Y x0 (1 : Int32) x2) ks_X10_mayBe ml_X10_120 ⟨rfl, rfl, Nat.le_of_ble_eq_true rfl, Nat.le_of_ble_eq_true rfl⟩ rfl hl.1 rfl (Nat.le_of_ble_eq_true rfl) ⟨Nat.zero_le _, Nat.zero_le _⟩ dX10_areGood_30) (fun r19 pr19 => ?_)
        have pr19 : (r19.toInt = 1 ∧ 0 ≤ x2.toInt ∧ x2.toInt ≤ 99 ∧ (x0.toInt = 6 → 1 ≤ x2.toInt)) ∨ r19.toInt = 0 := pr19
        have k20 := kI_1
        refine lv_if_eq (tgt := 65) hx hb dX10_areGood_33 (by decide) (fun c21 => ?_) (fun c21 => ?_)
        · skip
          have ic21 := tn_eq rfl kI_0 c21
          refine lv_iconst (v := 0) hx hb dX10_areGood_65 (by decide) ?_
          refine lv_istore (lv' := [(6, .int 0), (5, .int r1), (0, .int x0), (1, .int x1), (2, .int x2), (3, .int x3), (4, .int x4)]) hx hb dX10_areGood_66 hl (by decide) rfl (fun ls hl => ?_)
          refine lv_iload hx hb dX10_areGood_68 (lv_at hl 0 rfl) ?_
          refine lv_if_eq (tgt := 93) hx hb dX10_areGood_70 (by decide) (fun c22 => ?_) (fun c22 => ?_)
          · skip
            have ic22 := tn_eq kI_0 kI_0 c22
            refine lv_iconst (v := 0) hx hb dX10_areGood_93 (by decide) ?_
            exact tc_pret E hr hlk eH eL (t_nz (by decide) (by decide)).1 (show ((0 : Int32).toInt = 0 ∨ ((0 : Int32).toInt = 1 ∧ (x0.toInt = 4 ∨ x0.toInt = 5 ∨ (0 ≤ x1.toInt ∧ x1.toInt ≤ 99 ∧ (x0.toInt = 6 → 1 ≤ x1.toInt))) ∧ (x0.toInt = 4 ∨ x0.toInt = 5 ∨ x0.toInt = 7 ∨ (0 ≤ x2.toInt ∧ x2.toInt ≤ 99 ∧ (x0.toInt = 6 → 1 ≤ x2.toInt))) ∧ (¬ x0.toInt = 3 ∨ (0 ≤ x3.toInt ∧ x3.toInt ≤ 99 ∧ 0 ≤ x4.toInt ∧ x4.toInt ≤ 99)))) by have kk := kI_0; omega) dX10_areGood_94
          · exfalso
            have ic22 := tn_ne kI_0 kI_0 c22
            omega
        · skip
          have ic21 := tn_ne rfl kI_0 c21
          refine lv_iload hx hb dX10_areGood_36 (lv_at hl 0 rfl) ?_
          refine lv_iconst (v := 3) hx hb dX10_areGood_38 (by decide) ?_
          refine lv_icmp_lt (tgt := 61) hx hb dX10_areGood_39 (by decide) (fun c23 => ?_) (fun c23 => ?_)
          · skip
            have ic23 := tn_lt rfl kI_3 c23
            refine lv_iconst (v := 1) hx hb dX10_areGood_61 (by decide) ?_
            refine lv_goto (tgt := 66) hx hb dX10_areGood_62 (by decide) ?_
            refine lv_istore (lv' := [(6, .int 1), (5, .int r1), (0, .int x0), (1, .int x1), (2, .int x2), (3, .int x3), (4, .int x4)]) hx hb dX10_areGood_66 hl (by decide) rfl (fun ls hl => ?_)
            refine lv_iload hx hb dX10_areGood_68 (lv_at hl 0 rfl) ?_
            refine lv_if_eq (tgt := 93) hx hb dX10_areGood_70 (by decide) (fun c24 => ?_) (fun c24 => ?_)
            · exfalso
              have ic24 := tn_eq kI_1 kI_0 c24
              omega
            · skip
              have ic24 := tn_ne kI_1 kI_0 c24
              refine lv_iload_n hx hb dX10_areGood_73 rfl (lv_at hl 2 rfl) ?_
              refine lv_iconst (v := 3) hx hb dX10_areGood_74 (by decide) ?_
              refine lv_icmp_ne (tgt := 89) hx hb dX10_areGood_75 (by decide) (fun c25 => ?_) (fun c25 => ?_)
              · skip
                have ic25 := tn_ne rfl kI_3 c25
                refine lv_iconst (v := 1) hx hb dX10_areGood_89 (by decide) ?_
                refine lv_goto (tgt := 94) hx hb dX10_areGood_90 (by decide) ?_
                exact tc_pret E hr hlk eH eL (t_nz (by decide) (by decide)).1 (show ((1 : Int32).toInt = 0 ∨ ((1 : Int32).toInt = 1 ∧ (x0.toInt = 4 ∨ x0.toInt = 5 ∨ (0 ≤ x1.toInt ∧ x1.toInt ≤ 99 ∧ (x0.toInt = 6 → 1 ≤ x1.toInt))) ∧ (x0.toInt = 4 ∨ x0.toInt = 5 ∨ x0.toInt = 7 ∨ (0 ≤ x2.toInt ∧ x2.toInt ≤ 99 ∧ (x0.toInt = 6 → 1 ≤ x2.toInt))) ∧ (¬ x0.toInt = 3 ∨ (0 ≤ x3.toInt ∧ x3.toInt ≤ 99 ∧ 0 ≤ x4.toInt ∧ x4.toInt ≤ 99)))) by have kk := kI_1; omega) dX10_areGood_94
              · skip
                have ic25 := tn_eq rfl kI_3 c25
                refine lv_iload_n hx hb dX10_areGood_78 rfl (lv_at hl 3 rfl) ?_
                refine lv_iload_n hx hb dX10_areGood_79 rfl (lv_at hl 4 rfl) ?_
                refine lv_icmp_gt (tgt := 93) hx hb dX10_areGood_80 (by decide) (fun c26 => ?_) (fun c26 => ?_)
                · skip
                  have ic26 := tn_lt rfl rfl c26
                  refine lv_iconst (v := 0) hx hb dX10_areGood_93 (by decide) ?_
                  exact tc_pret E hr hlk eH eL (t_nz (by decide) (by decide)).1 (show ((0 : Int32).toInt = 0 ∨ ((0 : Int32).toInt = 1 ∧ (x0.toInt = 4 ∨ x0.toInt = 5 ∨ (0 ≤ x1.toInt ∧ x1.toInt ≤ 99 ∧ (x0.toInt = 6 → 1 ≤ x1.toInt))) ∧ (x0.toInt = 4 ∨ x0.toInt = 5 ∨ x0.toInt = 7 ∨ (0 ≤ x2.toInt ∧ x2.toInt ≤ 99 ∧ (x0.toInt = 6 → 1 ≤ x2.toInt))) ∧ (¬ x0.toInt = 3 ∨ (0 ≤ x3.toInt ∧ x3.toInt ≤ 99 ∧ 0 ≤ x4.toInt ∧ x4.toInt ≤ 99)))) by have kk := kI_0; omega) dX10_areGood_94
                · skip
                  have ic26 := tn_nlt rfl rfl c26
                  refine lv_iload_n hx hb dX10_areGood_83 rfl (lv_at hl 5 rfl) ?_
                  refine lv_iload hx hb dX10_areGood_84 (lv_at hl 6 rfl) ?_
                  refine lv_icmp_gt (tgt := 93) hx hb dX10_areGood_86 (by decide) (fun c27 => ?_) (fun c27 => ?_)
                  · skip
                    have ic27 := tn_lt rfl rfl c27
                    refine lv_iconst (v := 0) hx hb dX10_areGood_93 (by decide) ?_
                    exact tc_pret E hr hlk eH eL (t_nz (by decide) (by decide)).1 (show ((0 : Int32).toInt = 0 ∨ ((0 : Int32).toInt = 1 ∧ (x0.toInt = 4 ∨ x0.toInt = 5 ∨ (0 ≤ x1.toInt ∧ x1.toInt ≤ 99 ∧ (x0.toInt = 6 → 1 ≤ x1.toInt))) ∧ (x0.toInt = 4 ∨ x0.toInt = 5 ∨ x0.toInt = 7 ∨ (0 ≤ x2.toInt ∧ x2.toInt ≤ 99 ∧ (x0.toInt = 6 → 1 ≤ x2.toInt))) ∧ (¬ x0.toInt = 3 ∨ (0 ≤ x3.toInt ∧ x3.toInt ≤ 99 ∧ 0 ≤ x4.toInt ∧ x4.toInt ≤ 99)))) by have kk := kI_0; omega) dX10_areGood_94
                  · skip
                    have ic27 := tn_nlt rfl rfl c27
                    refine lv_iconst (v := 1) hx hb dX10_areGood_89 (by decide) ?_
                    refine lv_goto (tgt := 94) hx hb dX10_areGood_90 (by decide) ?_
                    exact tc_pret E hr hlk eH eL (t_nz (by decide) (by decide)).1 (show ((1 : Int32).toInt = 0 ∨ ((1 : Int32).toInt = 1 ∧ (x0.toInt = 4 ∨ x0.toInt = 5 ∨ (0 ≤ x1.toInt ∧ x1.toInt ≤ 99 ∧ (x0.toInt = 6 → 1 ≤ x1.toInt))) ∧ (x0.toInt = 4 ∨ x0.toInt = 5 ∨ x0.toInt = 7 ∨ (0 ≤ x2.toInt ∧ x2.toInt ≤ 99 ∧ (x0.toInt = 6 → 1 ≤ x2.toInt))) ∧ (¬ x0.toInt = 3 ∨ (0 ≤ x3.toInt ∧ x3.toInt ≤ 99 ∧ 0 ≤ x4.toInt ∧ x4.toInt ≤ 99)))) by have kk := kI_1; omega) dX10_areGood_94
          · skip
            have ic23 := tn_nlt rfl kI_3 c23
            refine lv_iload_n hx hb dX10_areGood_42 rfl (lv_at hl 1 rfl) ?_
            refine lv_iconst (v := 2) hx hb dX10_areGood_43 (by decide) ?_
            refine lv_iload_n hx hb dX10_areGood_44 rfl (lv_at hl 4 rfl) ?_
            refine tc_callp (mc_runS (As := [.int x0, .int 2, .int x3]) (rest := []) E hG (c_X10_mayBe l G Y x0 (2 : Int32) x3) ks_X10_mayBe ml_X10_120 ⟨rfl, rfl, Nat.le_of_ble_eq_true rfl, Nat.le_of_ble_eq_true rfl⟩ rfl hl.1 rfl (Nat.le_of_ble_eq_true rfl) ⟨Nat.zero_le _, Nat.zero_le _⟩ dX10_areGood_45) (fun r28 pr28 => ?_)
            have pr28 : (r28.toInt = 1 ∧ 0 ≤ x3.toInt ∧ x3.toInt ≤ 99 ∧ (x0.toInt = 6 → 1 ≤ x3.toInt)) ∨ r28.toInt = 0 := pr28
            have k29 := kI_2
            refine lv_if_eq (tgt := 65) hx hb dX10_areGood_48 (by decide) (fun c30 => ?_) (fun c30 => ?_)
            · skip
              have ic30 := tn_eq rfl kI_0 c30
              refine lv_iconst (v := 0) hx hb dX10_areGood_65 (by decide) ?_
              refine lv_istore (lv' := [(6, .int 0), (5, .int r1), (0, .int x0), (1, .int x1), (2, .int x2), (3, .int x3), (4, .int x4)]) hx hb dX10_areGood_66 hl (by decide) rfl (fun ls hl => ?_)
              refine lv_iload hx hb dX10_areGood_68 (lv_at hl 0 rfl) ?_
              refine lv_if_eq (tgt := 93) hx hb dX10_areGood_70 (by decide) (fun c31 => ?_) (fun c31 => ?_)
              · skip
                have ic31 := tn_eq kI_0 kI_0 c31
                refine lv_iconst (v := 0) hx hb dX10_areGood_93 (by decide) ?_
                exact tc_pret E hr hlk eH eL (t_nz (by decide) (by decide)).1 (show ((0 : Int32).toInt = 0 ∨ ((0 : Int32).toInt = 1 ∧ (x0.toInt = 4 ∨ x0.toInt = 5 ∨ (0 ≤ x1.toInt ∧ x1.toInt ≤ 99 ∧ (x0.toInt = 6 → 1 ≤ x1.toInt))) ∧ (x0.toInt = 4 ∨ x0.toInt = 5 ∨ x0.toInt = 7 ∨ (0 ≤ x2.toInt ∧ x2.toInt ≤ 99 ∧ (x0.toInt = 6 → 1 ≤ x2.toInt))) ∧ (¬ x0.toInt = 3 ∨ (0 ≤ x3.toInt ∧ x3.toInt ≤ 99 ∧ 0 ≤ x4.toInt ∧ x4.toInt ≤ 99)))) by have kk := kI_0; omega) dX10_areGood_94
              · exfalso
                have ic31 := tn_ne kI_0 kI_0 c31
                omega
            · skip
              have ic30 := tn_ne rfl kI_0 c30
              refine lv_iload_n hx hb dX10_areGood_51 rfl (lv_at hl 1 rfl) ?_
              refine lv_iconst (v := 3) hx hb dX10_areGood_52 (by decide) ?_
              refine lv_iload hx hb dX10_areGood_53 (lv_at hl 5 rfl) ?_
              refine tc_callp (mc_runS (As := [.int x0, .int 3, .int x4]) (rest := []) E hG (c_X10_mayBe l G Y x0 (3 : Int32) x4) ks_X10_mayBe ml_X10_120 ⟨rfl, rfl, Nat.le_of_ble_eq_true rfl, Nat.le_of_ble_eq_true rfl⟩ rfl hl.1 rfl (Nat.le_of_ble_eq_true rfl) ⟨Nat.zero_le _, Nat.zero_le _⟩ dX10_areGood_55) (fun r32 pr32 => ?_)
              have pr32 : (r32.toInt = 1 ∧ 0 ≤ x4.toInt ∧ x4.toInt ≤ 99 ∧ (x0.toInt = 6 → 1 ≤ x4.toInt)) ∨ r32.toInt = 0 := pr32
              have k33 := kI_3
              refine lv_if_eq (tgt := 65) hx hb dX10_areGood_58 (by decide) (fun c34 => ?_) (fun c34 => ?_)
              · skip
                have ic34 := tn_eq rfl kI_0 c34
                refine lv_iconst (v := 0) hx hb dX10_areGood_65 (by decide) ?_
                refine lv_istore (lv' := [(6, .int 0), (5, .int r1), (0, .int x0), (1, .int x1), (2, .int x2), (3, .int x3), (4, .int x4)]) hx hb dX10_areGood_66 hl (by decide) rfl (fun ls hl => ?_)
                refine lv_iload hx hb dX10_areGood_68 (lv_at hl 0 rfl) ?_
                refine lv_if_eq (tgt := 93) hx hb dX10_areGood_70 (by decide) (fun c35 => ?_) (fun c35 => ?_)
                · skip
                  have ic35 := tn_eq kI_0 kI_0 c35
                  refine lv_iconst (v := 0) hx hb dX10_areGood_93 (by decide) ?_
                  exact tc_pret E hr hlk eH eL (t_nz (by decide) (by decide)).1 (show ((0 : Int32).toInt = 0 ∨ ((0 : Int32).toInt = 1 ∧ (x0.toInt = 4 ∨ x0.toInt = 5 ∨ (0 ≤ x1.toInt ∧ x1.toInt ≤ 99 ∧ (x0.toInt = 6 → 1 ≤ x1.toInt))) ∧ (x0.toInt = 4 ∨ x0.toInt = 5 ∨ x0.toInt = 7 ∨ (0 ≤ x2.toInt ∧ x2.toInt ≤ 99 ∧ (x0.toInt = 6 → 1 ≤ x2.toInt))) ∧ (¬ x0.toInt = 3 ∨ (0 ≤ x3.toInt ∧ x3.toInt ≤ 99 ∧ 0 ≤ x4.toInt ∧ x4.toInt ≤ 99)))) by have kk := kI_0; omega) dX10_areGood_94
                · exfalso
                  have ic35 := tn_ne kI_0 kI_0 c35
                  omega
              · skip
                have ic34 := tn_ne rfl kI_0 c34
                refine lv_iconst (v := 1) hx hb dX10_areGood_61 (by decide) ?_
                refine lv_goto (tgt := 66) hx hb dX10_areGood_62 (by decide) ?_
                refine lv_istore (lv' := [(6, .int 1), (5, .int r1), (0, .int x0), (1, .int x1), (2, .int x2), (3, .int x3), (4, .int x4)]) hx hb dX10_areGood_66 hl (by decide) rfl (fun ls hl => ?_)
                refine lv_iload hx hb dX10_areGood_68 (lv_at hl 0 rfl) ?_
                refine lv_if_eq (tgt := 93) hx hb dX10_areGood_70 (by decide) (fun c36 => ?_) (fun c36 => ?_)
                · exfalso
                  have ic36 := tn_eq kI_1 kI_0 c36
                  omega
                · skip
                  have ic36 := tn_ne kI_1 kI_0 c36
                  refine lv_iload_n hx hb dX10_areGood_73 rfl (lv_at hl 2 rfl) ?_
                  refine lv_iconst (v := 3) hx hb dX10_areGood_74 (by decide) ?_
                  refine lv_icmp_ne (tgt := 89) hx hb dX10_areGood_75 (by decide) (fun c37 => ?_) (fun c37 => ?_)
                  · skip
                    have ic37 := tn_ne rfl kI_3 c37
                    refine lv_iconst (v := 1) hx hb dX10_areGood_89 (by decide) ?_
                    refine lv_goto (tgt := 94) hx hb dX10_areGood_90 (by decide) ?_
                    exact tc_pret E hr hlk eH eL (t_nz (by decide) (by decide)).1 (show ((1 : Int32).toInt = 0 ∨ ((1 : Int32).toInt = 1 ∧ (x0.toInt = 4 ∨ x0.toInt = 5 ∨ (0 ≤ x1.toInt ∧ x1.toInt ≤ 99 ∧ (x0.toInt = 6 → 1 ≤ x1.toInt))) ∧ (x0.toInt = 4 ∨ x0.toInt = 5 ∨ x0.toInt = 7 ∨ (0 ≤ x2.toInt ∧ x2.toInt ≤ 99 ∧ (x0.toInt = 6 → 1 ≤ x2.toInt))) ∧ (¬ x0.toInt = 3 ∨ (0 ≤ x3.toInt ∧ x3.toInt ≤ 99 ∧ 0 ≤ x4.toInt ∧ x4.toInt ≤ 99)))) by have kk := kI_1; omega) dX10_areGood_94
                  · skip
                    have ic37 := tn_eq rfl kI_3 c37
                    refine lv_iload_n hx hb dX10_areGood_78 rfl (lv_at hl 3 rfl) ?_
                    refine lv_iload_n hx hb dX10_areGood_79 rfl (lv_at hl 4 rfl) ?_
                    refine lv_icmp_gt (tgt := 93) hx hb dX10_areGood_80 (by decide) (fun c38 => ?_) (fun c38 => ?_)
                    · skip
                      have ic38 := tn_lt rfl rfl c38
                      refine lv_iconst (v := 0) hx hb dX10_areGood_93 (by decide) ?_
                      exact tc_pret E hr hlk eH eL (t_nz (by decide) (by decide)).1 (show ((0 : Int32).toInt = 0 ∨ ((0 : Int32).toInt = 1 ∧ (x0.toInt = 4 ∨ x0.toInt = 5 ∨ (0 ≤ x1.toInt ∧ x1.toInt ≤ 99 ∧ (x0.toInt = 6 → 1 ≤ x1.toInt))) ∧ (x0.toInt = 4 ∨ x0.toInt = 5 ∨ x0.toInt = 7 ∨ (0 ≤ x2.toInt ∧ x2.toInt ≤ 99 ∧ (x0.toInt = 6 → 1 ≤ x2.toInt))) ∧ (¬ x0.toInt = 3 ∨ (0 ≤ x3.toInt ∧ x3.toInt ≤ 99 ∧ 0 ≤ x4.toInt ∧ x4.toInt ≤ 99)))) by have kk := kI_0; omega) dX10_areGood_94
                    · skip
                      have ic38 := tn_nlt rfl rfl c38
                      refine lv_iload_n hx hb dX10_areGood_83 rfl (lv_at hl 5 rfl) ?_
                      refine lv_iload hx hb dX10_areGood_84 (lv_at hl 6 rfl) ?_
                      refine lv_icmp_gt (tgt := 93) hx hb dX10_areGood_86 (by decide) (fun c39 => ?_) (fun c39 => ?_)
                      · skip
                        have ic39 := tn_lt rfl rfl c39
                        refine lv_iconst (v := 0) hx hb dX10_areGood_93 (by decide) ?_
                        exact tc_pret E hr hlk eH eL (t_nz (by decide) (by decide)).1 (show ((0 : Int32).toInt = 0 ∨ ((0 : Int32).toInt = 1 ∧ (x0.toInt = 4 ∨ x0.toInt = 5 ∨ (0 ≤ x1.toInt ∧ x1.toInt ≤ 99 ∧ (x0.toInt = 6 → 1 ≤ x1.toInt))) ∧ (x0.toInt = 4 ∨ x0.toInt = 5 ∨ x0.toInt = 7 ∨ (0 ≤ x2.toInt ∧ x2.toInt ≤ 99 ∧ (x0.toInt = 6 → 1 ≤ x2.toInt))) ∧ (¬ x0.toInt = 3 ∨ (0 ≤ x3.toInt ∧ x3.toInt ≤ 99 ∧ 0 ≤ x4.toInt ∧ x4.toInt ≤ 99)))) by have kk := kI_0; omega) dX10_areGood_94
                      · skip
                        have ic39 := tn_nlt rfl rfl c39
                        refine lv_iconst (v := 1) hx hb dX10_areGood_89 (by decide) ?_
                        refine lv_goto (tgt := 94) hx hb dX10_areGood_90 (by decide) ?_
                        exact tc_pret E hr hlk eH eL (t_nz (by decide) (by decide)).1 (show ((1 : Int32).toInt = 0 ∨ ((1 : Int32).toInt = 1 ∧ (x0.toInt = 4 ∨ x0.toInt = 5 ∨ (0 ≤ x1.toInt ∧ x1.toInt ≤ 99 ∧ (x0.toInt = 6 → 1 ≤ x1.toInt))) ∧ (x0.toInt = 4 ∨ x0.toInt = 5 ∨ x0.toInt = 7 ∨ (0 ≤ x2.toInt ∧ x2.toInt ≤ 99 ∧ (x0.toInt = 6 → 1 ≤ x2.toInt))) ∧ (¬ x0.toInt = 3 ∨ (0 ≤ x3.toInt ∧ x3.toInt ≤ 99 ∧ 0 ≤ x4.toInt ∧ x4.toInt ≤ 99)))) by have kk := kI_1; omega) dX10_areGood_94

set_option maxHeartbeats 4000000 in
set_option maxRecDepth 100000 in
theorem c_X10_isRoom (l : Launch) (G : tG) (Y : mY) (h0 : Nat) (x1 : Int32) (t0 : Y.1 h0 = 1) (l1 : -1 ≤ x1.toInt) (u1 : x1.toInt ≤ 23) : Met l yX10_isRoom (.code yX10_isRoom cX10_isRoom 2 (some .boolean) :: tWS) (tRm 2 43) (va_Pc [.ref h0, .int x1] (mPre G Y)) (tQp (fun r => 0 ≤ r.toInt ∧ r.toInt ≤ 1)) 0 0 tNo := by
  refine mc_met (by decide) (Nat.le_of_ble_eq_true rfl) ?_
  intro p e s m below meth c E hr hlk hG ls hl
  have hl : lv_has ls 2 [(0, .ref h0), (1, .int x1)] := hl
  have hx := E.1
  have hb := E.2.1
  obtain ⟨H, eH⟩ : ∃ H, H = s.heap := ⟨_, rfl⟩
  obtain ⟨locs, eL⟩ : ∃ x : List Loc, x = [] := ⟨_, rfl⟩
  have hG : mGH G Y s H locs := by rw [eH, eL]; exact hG
  suffices hW : W p l e (tRm 2 43) s m ([.ref h0, .int x1] : List Value).toArray below meth c H locs 0 0 (MQ below (tQp (fun r => 0 ≤ r.toInt ∧ r.toInt ≤ 1)) ([.ref h0, .int x1] : List Value).toArray s 0 0 tNo) (F0 m 0 ls []) by subst eH; subst eL; exact hW
  refine lv_iload_n hx hb dX10_isRoom_0 rfl (lv_at hl 1 rfl) ?_
  refine lv_if_ge (tgt := 21) hx hb dX10_isRoom_1 (by decide) (fun c1 => ?_) (fun c1 => ?_)
  · skip
    have ic1 := tn_le kI_0 rfl c1
    refine lv_aload_n hx hb dX10_isRoom_21 rfl (lv_at hl 0 rfl) ?_
    refine lv_iload_n hx hb dX10_isRoom_22 rfl (lv_at hl 1 rfl) ?_
    refine tc_callp (mc_runV (As := [.int x1]) (rest := []) E hG (c_X10_manyOf l G Y h0 x1 t0 (by omega) (by omega)) t0 rfl kv_X10_manyOf ml_X10_117 ⟨rfl, rfl, Nat.le_of_ble_eq_true rfl, Nat.le_of_ble_eq_true rfl⟩ rfl hl.1 rfl (Nat.le_of_ble_eq_true rfl) ⟨Nat.zero_le _, Nat.zero_le _⟩ dX10_isRoom_23) (fun r2 pr2 => ?_)
    have pr2 : mV Y (ix x1.toInt 10) r2 := pr2
    have br2 := mV_10 pr2 (by omega)
    refine lv_aload_n hx hb dX10_isRoom_26 rfl (lv_at hl 0 rfl) ?_
    refine lv_iload_n hx hb dX10_isRoom_27 rfl (lv_at hl 1 rfl) ?_
    refine lv_iconst (v := 1) hx hb dX10_isRoom_28 (by decide) ?_
    refine tc_callp (mc_runV (As := [.int x1, .int 1]) (rest := [.int r2]) E hG (c_X10_get l G Y h0 x1 (1 : Int32) t0 (by omega) (by omega) (by decide) (by decide)) t0 rfl kv_X10_get ml_X10_91 ⟨rfl, rfl, Nat.le_of_ble_eq_true rfl, Nat.le_of_ble_eq_true rfl⟩ rfl hl.1 rfl (Nat.le_of_ble_eq_true rfl) ⟨Nat.zero_le _, Nat.zero_le _⟩ dX10_isRoom_29) (fun r3 pr3 => ?_)
    have pr3 : mV Y (ix x1.toInt (1 : Int32).toInt) r3 := pr3
    have pr3 := mV_l pr3 kI_1
    have br3 := mV_1 pr3 (by omega)
    have k4 := kI_1
    refine tc_callp (mc_runS (As := [.int r3]) (rest := [.int r2]) E hG (c_X10_takes l G Y r3) ks_X10_takes ml_X10_124 ⟨rfl, rfl, Nat.le_of_ble_eq_true rfl, Nat.le_of_ble_eq_true rfl⟩ rfl hl.1 rfl (Nat.le_of_ble_eq_true rfl) ⟨Nat.zero_le _, Nat.zero_le _⟩ dX10_isRoom_32) (fun r5 pr5 => ?_)
    have pr5 : 0 ≤ r5.toInt ∧ r5.toInt ≤ 8 := pr5
    refine lv_icmp_ge (tgt := 42) hx hb dX10_isRoom_35 (by decide) (fun c6 => ?_) (fun c6 => ?_)
    · skip
      have ic6 := tn_le rfl rfl c6
      refine lv_iconst (v := 0) hx hb dX10_isRoom_42 (by decide) ?_
      exact tc_pret E hr hlk eH eL (t_nz (by decide) (by decide)).1 (show 0 ≤ (0 : Int32).toInt ∧ (0 : Int32).toInt ≤ 1 by have kk := kI_0; omega) dX10_isRoom_43
    · skip
      have ic6 := tn_nle rfl rfl c6
      refine lv_iconst (v := 1) hx hb dX10_isRoom_38 (by decide) ?_
      refine lv_goto (tgt := 43) hx hb dX10_isRoom_39 (by decide) ?_
      exact tc_pret E hr hlk eH eL (t_nz (by decide) (by decide)).1 (show 0 ≤ (1 : Int32).toInt ∧ (1 : Int32).toInt ≤ 1 by have kk := kI_1; omega) dX10_isRoom_43
  · skip
    have ic1 := tn_nle kI_0 rfl c1
    refine lv_aload_n hx hb dX10_isRoom_4 rfl (lv_at hl 0 rfl) ?_
    refine mc_getn E hG t0 ff_X10_9 dX10_isRoom_5 (fun oa7 hoa7 => ?_)
    refine lv_iconst (v := 0) hx hb dX10_isRoom_8 (by decide) ?_
    refine mc_nald E hG hoa7 hG.2.2.1 (t_in (by decide) (by decide)) dX10_isRoom_9 (fun z8 lz8 uz8 qz8 => ?_)
    have lz8 : -1 ≤ z8.toInt := lz8
    have uz8 : z8.toInt ≤ 23 := uz8
    refine lv_if_ge (tgt := 17) hx hb dX10_isRoom_10 (by decide) (fun c9 => ?_) (fun c9 => ?_)
    · skip
      have ic9 := tn_le kI_0 rfl c9
      refine lv_iconst (v := 0) hx hb dX10_isRoom_17 (by decide) ?_
      refine lv_goto (tgt := 43) hx hb dX10_isRoom_18 (by decide) ?_
      exact tc_pret E hr hlk eH eL (t_nz (by decide) (by decide)).1 (show 0 ≤ (0 : Int32).toInt ∧ (0 : Int32).toInt ≤ 1 by have kk := kI_0; omega) dX10_isRoom_43
    · skip
      have ic9 := tn_nle kI_0 rfl c9
      refine lv_iconst (v := 1) hx hb dX10_isRoom_13 (by decide) ?_
      refine lv_goto (tgt := 43) hx hb dX10_isRoom_14 (by decide) ?_
      exact tc_pret E hr hlk eH eL (t_nz (by decide) (by decide)).1 (show 0 ≤ (1 : Int32).toInt ∧ (1 : Int32).toInt ≤ 1 by have kk := kI_1; omega) dX10_isRoom_43

set_option maxHeartbeats 4000000 in
set_option maxRecDepth 100000 in
theorem c_X10_wordOf (l : Launch) (G : tG) (Y : mY) (x0 : Int32) (x1 : Int32)  : Met l yX10_wordOf (.code yX10_wordOf cX10_wordOf 3 (some .int) :: tWS) (tRm 0 0) (va_Pc [.int x0, .int x1] (mPre G Y)) (tQp (fun r => True)) 0 0 tNo := by
  refine mc_met (by decide) (Nat.le_of_ble_eq_true rfl) ?_
  intro p e s m below meth c E hr hlk hG ls hl
  have hl : lv_has ls 3 [(0, .int x0), (1, .int x1)] := hl
  have hx := E.1
  have hb := E.2.1
  obtain ⟨H, eH⟩ : ∃ H, H = s.heap := ⟨_, rfl⟩
  obtain ⟨locs, eL⟩ : ∃ x : List Loc, x = [] := ⟨_, rfl⟩
  have hG : mGH G Y s H locs := by rw [eH, eL]; exact hG
  suffices hW : W p l e (tRm 0 0) s m ([.int x0, .int x1] : List Value).toArray below meth c H locs 0 0 (MQ below (tQp (fun r => True)) ([.int x0, .int x1] : List Value).toArray s 0 0 tNo) (F0 m 0 ls []) by subst eH; subst eL; exact hW
  refine lv_iload_n hx hb dX10_wordOf_0 rfl (lv_at hl 0 rfl) ?_
  refine lv_iload_n hx hb dX10_wordOf_1 rfl (lv_at hl 1 rfl) ?_
  refine lv_iadd hx hb dX10_wordOf_2 ?_
  refine lv_topi (fun z1 ez1 => ?_)
  refine lv_bipush (v := 32) hx hb dX10_wordOf_3 (by decide) ?_
  refine lv_irem hx hb dX10_wordOf_5 (by decide) ?_
  refine lv_topi (fun z2 ez2 => ?_)
  refine lv_istore_n (lv' := [(2, .int z2), (0, .int x0), (1, .int x1)]) hx hb dX10_wordOf_6 rfl hl (by decide) rfl (fun ls hl => ?_)
  refine lv_iconst (v := 1) hx hb dX10_wordOf_7 (by decide) ?_
  refine lv_bipush (v := 7) hx hb dX10_wordOf_8 (by decide) ?_
  refine lv_iload_n hx hb dX10_wordOf_10 rfl (lv_at hl 0 rfl) ?_
  refine lv_imul hx hb dX10_wordOf_11 ?_
  refine lv_topi (fun z3 ez3 => ?_)
  refine lv_iload_n hx hb dX10_wordOf_12 rfl (lv_at hl 0 rfl) ?_
  refine lv_imul hx hb dX10_wordOf_13 ?_
  refine lv_topi (fun z4 ez4 => ?_)
  refine lv_iconst (v := 3) hx hb dX10_wordOf_14 (by decide) ?_
  refine lv_iload_n hx hb dX10_wordOf_15 rfl (lv_at hl 0 rfl) ?_
  refine lv_imul hx hb dX10_wordOf_16 ?_
  refine lv_topi (fun z5 ez5 => ?_)
  refine lv_iadd hx hb dX10_wordOf_17 ?_
  refine lv_topi (fun z6 ez6 => ?_)
  refine lv_bipush (v := 9) hx hb dX10_wordOf_18 (by decide) ?_
  refine lv_irem hx hb dX10_wordOf_20 (by decide) ?_
  refine lv_topi (fun z7 ez7 => ?_)
  refine lv_iadd hx hb dX10_wordOf_21 ?_
  refine lv_topi (fun z8 ez8 => ?_)
  exact tc_pret E hr hlk eH eL rfl trivial dX10_wordOf_22

set_option maxHeartbeats 4000000 in
set_option maxRecDepth 100000 in
theorem c_X10_textOf (l : Launch) (G : tG) (Y : mY) (h0 : Nat) (x1 : Int32) (x2 : Int32) (t0 : Y.1 h0 = 1) (l1 : 0 ≤ x1.toInt) (u1 : x1.toInt ≤ 23) (l2 : 0 ≤ x2.toInt) (u2 : x2.toInt ≤ 1) : Met l yX10_textOf (.code yX10_textOf cX10_textOf 7 (some .int) :: tWS) (tRm 1 22) (va_Pc [.ref h0, .int x1, .int x2] (mPre G Y)) (tQp (fun r => True)) 0 0 tNo := by
  refine mc_met (by decide) (Nat.le_of_ble_eq_true rfl) ?_
  intro p e s m below meth c E hr hlk hG ls hl
  have hl : lv_has ls 7 [(0, .ref h0), (1, .int x1), (2, .int x2)] := hl
  have hx := E.1
  have hb := E.2.1
  obtain ⟨H, eH⟩ : ∃ H, H = s.heap := ⟨_, rfl⟩
  obtain ⟨locs, eL⟩ : ∃ x : List Loc, x = [] := ⟨_, rfl⟩
  have hG : mGH G Y s H locs := by rw [eH, eL]; exact hG
  suffices hW : W p l e (tRm 1 22) s m ([.ref h0, .int x1, .int x2] : List Value).toArray below meth c H locs 0 0 (MQ below (tQp (fun r => True)) ([.ref h0, .int x1, .int x2] : List Value).toArray s 0 0 tNo) (F0 m 0 ls []) by subst eH; subst eL; exact hW
  have J8 : ∀ (n8 : Nat) (ls : Array Slot) (v3 : Int32) (v4 : Int32) (v5 : Int32), lv_has ls 7 [(0, .ref h0), (1, .int x1), (2, .int x2), (3, .int v3), (4, .int v4), (5, .int v5)] → 0 ≤ v4.toInt → 0 ≤ v5.toInt → v5.toInt ≤ 99 → (99 - v5.toInt).toNat < n8 → W p l e (tRm 1 22) s m ([.ref h0, .int x1, .int x2] : List Value).toArray below meth c H locs 0 0 (MQ below (tQp (fun r => True)) ([.ref h0, .int x1, .int x2] : List Value).toArray s 0 0 tNo) (F0 m 8 ls []) := by
    intro n8
    induction n8 with
    | zero => intro ls v3 v4 v5 hl b4 b5 c5 hn8; exact absurd hn8 (Nat.not_lt_zero _)
    | succ n8 ih8 =>
      intro ls v3 v4 v5 hl b4 b5 c5 hn8
      have J62 : ∀ (ls : Array Slot) (v3 : Int32) (v5 : Int32) (vs0 : Int32), lv_has ls 7 [(0, .ref h0), (1, .int x1), (2, .int x2), (3, .int v3), (5, .int v5)] → 0 ≤ v5.toInt → v5.toInt ≤ 98 → 0 ≤ vs0.toInt → (99 - v5.toInt).toNat < n8 + 1 → W p l e (tRm 1 22) s m ([.ref h0, .int x1, .int x2] : List Value).toArray below meth c H locs 0 0 (MQ below (tQp (fun r => True)) ([.ref h0, .int x1, .int x2] : List Value).toArray s 0 0 tNo) (F0 m 62 ls [.int vs0]) := by
        intro ls v3 v5 vs0 hl b5 c5 bs0 hm8
        refine lv_istore (lv' := [(4, .int vs0), (0, .ref h0), (1, .int x1), (2, .int x2), (3, .int v3), (5, .int v5)]) hx hb dX10_textOf_62 hl (by decide) rfl (fun ls hl => ?_)
        obtain ⟨z1, ez1⟩ : ∃ y : Int32, y = v5 + (1) := ⟨_, rfl⟩
        refine lv_iinc (v := z1) (lv' := [(5, .int z1), (4, .int vs0), (0, .ref h0), (1, .int x1), (2, .int x2), (3, .int v3)]) hx hb dX10_textOf_64 hl (k := 5) rfl (by rw [ez1]; rfl) (by decide) rfl (fun ls hl => ?_)
        have tz1 := tn_add ez1 rfl kI_1 (by omega) (by omega)
        refine lv_goto (tgt := 8) hx hb dX10_textOf_67 (by decide) ?_
        exact ih8 ls v3 vs0 z1 (lv_sub hl [2, 3, 4, 5, 1, 0] rfl) (by omega) (by omega) (by omega) (by omega)
      have J45 : ∀ (ls : Array Slot) (v4 : Int32) (v5 : Int32) (v6 : Int32) (vs0 : Int32) (vs1 : Int32) (vs2 : Int32), lv_has ls 7 [(0, .ref h0), (1, .int x1), (2, .int x2), (4, .int v4), (5, .int v5), (6, .int v6)] → 0 ≤ v4.toInt → 0 ≤ v5.toInt → v5.toInt ≤ 98 → 0 ≤ vs2.toInt → vs2.toInt ≤ 1 → (99 - v5.toInt).toNat < n8 + 1 → W p l e (tRm 1 22) s m ([.ref h0, .int x1, .int x2] : List Value).toArray below meth c H locs 0 0 (MQ below (tQp (fun r => True)) ([.ref h0, .int x1, .int x2] : List Value).toArray s 0 0 tNo) (F0 m 45 ls [.int vs2, .int vs1, .int vs0]) := by
        intro ls v4 v5 v6 vs0 vs1 vs2 hl b4 b5 c5 bs2 cs2 hm8
        refine lv_iadd hx hb dX10_textOf_45 ?_
        refine lv_topi (fun z2 ez2 => ?_)
        refine lv_iadd hx hb dX10_textOf_46 ?_
        refine lv_topi (fun z3 ez3 => ?_)
        refine lv_istore_n (lv' := [(3, .int z3), (0, .ref h0), (1, .int x1), (2, .int x2), (4, .int v4), (5, .int v5), (6, .int v6)]) hx hb dX10_textOf_47 rfl hl (by decide) rfl (fun ls hl => ?_)
        refine lv_iload hx hb dX10_textOf_48 (lv_at hl 6 rfl) ?_
        refine lv_iload hx hb dX10_textOf_50 (lv_at hl 4 rfl) ?_
        refine lv_icmp_le (tgt := 60) hx hb dX10_textOf_52 (by decide) (fun c4 => ?_) (fun c4 => ?_)
        · skip
          have ic4 := tn_le rfl rfl c4
          refine lv_iload hx hb dX10_textOf_60 (lv_at hl 4 rfl) ?_
          exact J62 ls z3 v5 v4 (lv_sub hl [1, 2, 3, 0, 5] rfl) (by omega) (by omega) (by omega) (by omega)
        · skip
          have ic4 := tn_nle rfl rfl c4
          refine lv_iload hx hb dX10_textOf_55 (lv_at hl 6 rfl) ?_
          refine lv_goto (tgt := 62) hx hb dX10_textOf_57 (by decide) ?_
          exact J62 ls z3 v5 v6 (lv_sub hl [1, 2, 3, 0, 5] rfl) (by omega) (by omega) (by omega) (by omega)
      refine lv_iload hx hb dX10_textOf_8 (lv_at hl 5 rfl) ?_
      refine lv_aload_n hx hb dX10_textOf_10 rfl (lv_at hl 0 rfl) ?_
      refine lv_iload_n hx hb dX10_textOf_11 rfl (lv_at hl 1 rfl) ?_
      refine lv_iconst (v := 2) hx hb dX10_textOf_12 (by decide) ?_
      refine tc_callp (mc_runV (As := [.int x1, .int 2]) (rest := [.int v5]) E hG (c_X10_get l G Y h0 x1 (2 : Int32) t0 (by omega) (by omega) (by decide) (by decide)) t0 rfl kv_X10_get ml_X10_91 ⟨rfl, rfl, Nat.le_of_ble_eq_true rfl, Nat.le_of_ble_eq_true rfl⟩ rfl hl.1 rfl (Nat.le_of_ble_eq_true rfl) ⟨Nat.zero_le _, Nat.zero_le _⟩ dX10_textOf_13) (fun r5 pr5 => ?_)
      have pr5 : mV Y (ix x1.toInt (2 : Int32).toInt) r5 := pr5
      have pr5 := mV_l pr5 kI_2
      have br5 := mV_2 pr5 (by omega)
      have k6 := kI_2
      refine lv_icmp_ge (tgt := 70) hx hb dX10_textOf_16 (by decide) (fun c7 => ?_) (fun c7 => ?_)
      · skip
        have ic7 := tn_le rfl rfl c7
        refine lv_iload_n hx hb dX10_textOf_70 rfl (lv_at hl 2 rfl) ?_
        refine lv_if_ne (tgt := 78) hx hb dX10_textOf_71 (by decide) (fun c8 => ?_) (fun c8 => ?_)
        · skip
          have ic8 := tn_ne rfl kI_0 c8
          refine lv_iload hx hb dX10_textOf_78 (lv_at hl 4 rfl) ?_
          exact tc_pret E hr hlk eH eL rfl trivial dX10_textOf_80
        · skip
          have ic8 := tn_eq rfl kI_0 c8
          refine lv_iload_n hx hb dX10_textOf_74 rfl (lv_at hl 3 rfl) ?_
          refine lv_goto (tgt := 80) hx hb dX10_textOf_75 (by decide) ?_
          exact tc_pret E hr hlk eH eL rfl trivial dX10_textOf_80
      · skip
        have ic7 := tn_nle rfl rfl c7
        refine lv_aload_n hx hb dX10_textOf_19 rfl (lv_at hl 0 rfl) ?_
        refine lv_iload_n hx hb dX10_textOf_20 rfl (lv_at hl 1 rfl) ?_
        refine lv_iconst (v := 3) hx hb dX10_textOf_21 (by decide) ?_
        refine tc_callp (mc_runV (As := [.int x1, .int 3]) (rest := []) E hG (c_X10_get l G Y h0 x1 (3 : Int32) t0 (by omega) (by omega) (by decide) (by decide)) t0 rfl kv_X10_get ml_X10_91 ⟨rfl, rfl, Nat.le_of_ble_eq_true rfl, Nat.le_of_ble_eq_true rfl⟩ rfl hl.1 rfl (Nat.le_of_ble_eq_true rfl) ⟨Nat.zero_le _, Nat.zero_le _⟩ dX10_textOf_22) (fun r9 pr9 => ?_)
        have pr9 : mV Y (ix x1.toInt (3 : Int32).toInt) r9 := pr9
        have pr9 := mV_l pr9 kI_3
        have br9 := mV_3 pr9 (by omega)
        have k10 := kI_3
        refine lv_iload hx hb dX10_textOf_25 (lv_at hl 5 rfl) ?_
        refine tc_callp (mc_runS (As := [.int r9, .int v5]) (rest := []) E hG (c_X10_wordOf l G Y r9 v5) ks_X10_wordOf ml_X10_174 ⟨rfl, rfl, Nat.le_of_ble_eq_true rfl, Nat.le_of_ble_eq_true rfl⟩ rfl hl.1 rfl (Nat.le_of_ble_eq_true rfl) ⟨Nat.zero_le _, Nat.zero_le _⟩ dX10_textOf_27) (fun r11 pr11 => ?_)
        refine lv_istore (lv' := [(6, .int r11), (0, .ref h0), (1, .int x1), (2, .int x2), (3, .int v3), (4, .int v4), (5, .int v5)]) hx hb dX10_textOf_30 hl (by decide) rfl (fun ls hl => ?_)
        refine lv_iload_n hx hb dX10_textOf_32 rfl (lv_at hl 4 rfl) ?_
        refine lv_iload hx hb dX10_textOf_33 (lv_at hl 0 rfl) ?_
        refine lv_iload hx hb dX10_textOf_35 (lv_at hl 6 rfl) ?_
        refine lv_if_le (tgt := 44) hx hb dX10_textOf_37 (by decide) (fun c12 => ?_) (fun c12 => ?_)
        · skip
          have ic12 := tn_le rfl kI_0 c12
          refine lv_iconst (v := 0) hx hb dX10_textOf_44 (by decide) ?_
          exact J45 ls v4 v5 r11 v3 r11 (0 : Int32) (lv_sub hl [1, 2, 3, 5, 6, 0] rfl) (by omega) (by omega) (by omega) (by decide) (by decide) (by omega)
        · skip
          have ic12 := tn_nle rfl kI_0 c12
          refine lv_iconst (v := 1) hx hb dX10_textOf_40 (by decide) ?_
          refine lv_goto (tgt := 45) hx hb dX10_textOf_41 (by decide) ?_
          exact J45 ls v4 v5 r11 v3 r11 (1 : Int32) (lv_sub hl [1, 2, 3, 5, 6, 0] rfl) (by omega) (by omega) (by omega) (by decide) (by decide) (by omega)
  refine lv_iconst (v := 0) hx hb dX10_textOf_0 (by decide) ?_
  refine lv_istore_n (lv' := [(3, .int 0), (0, .ref h0), (1, .int x1), (2, .int x2)]) hx hb dX10_textOf_1 rfl hl (by decide) rfl (fun ls hl => ?_)
  refine lv_iconst (v := 0) hx hb dX10_textOf_2 (by decide) ?_
  refine lv_istore (lv' := [(4, .int 0), (3, .int 0), (0, .ref h0), (1, .int x1), (2, .int x2)]) hx hb dX10_textOf_3 hl (by decide) rfl (fun ls hl => ?_)
  refine lv_iconst (v := 0) hx hb dX10_textOf_5 (by decide) ?_
  refine lv_istore (lv' := [(5, .int 0), (4, .int 0), (3, .int 0), (0, .ref h0), (1, .int x1), (2, .int x2)]) hx hb dX10_textOf_6 hl (by decide) rfl (fun ls hl => ?_)
  exact J8 ((99 - (0 : Int32).toInt).toNat + 1) ls (0 : Int32) (0 : Int32) (0 : Int32) (lv_sub hl [3, 4, 5, 2, 1, 0] rfl) (by decide) (by decide) (by decide) (Nat.lt_succ_self _)

set_option maxHeartbeats 4000000 in
set_option maxRecDepth 100000 in
theorem c_X10_toldBy (l : Launch) (G : tG) (Y : mY) (h0 : Nat) (x1 : Int32) (x2 : Int32) (x3 : Int32) (t0 : Y.1 h0 = 1) (l1 : 0 ≤ x1.toInt) (u1 : x1.toInt ≤ 23) (l2 : 0 ≤ x2.toInt) (u2 : x2.toInt ≤ 7) (l3 : 0 ≤ x3.toInt) (u3 : x3.toInt ≤ 1) : Met l yX10_toldBy (.code yX10_toldBy cX10_toldBy 5 (some .int) :: tWS) (tRm 2 44) (va_Pc [.ref h0, .int x1, .int x2, .int x3] (mPre G Y)) (tQp (fun r => True)) 0 0 tNo := by
  refine mc_met (by decide) (Nat.le_of_ble_eq_true rfl) ?_
  intro p e s m below meth c E hr hlk hG ls hl
  have hl : lv_has ls 5 [(0, .ref h0), (1, .int x1), (2, .int x2), (3, .int x3)] := hl
  have hx := E.1
  have hb := E.2.1
  obtain ⟨H, eH⟩ : ∃ H, H = s.heap := ⟨_, rfl⟩
  obtain ⟨locs, eL⟩ : ∃ x : List Loc, x = [] := ⟨_, rfl⟩
  have hG : mGH G Y s H locs := by rw [eH, eL]; exact hG
  suffices hW : W p l e (tRm 2 44) s m ([.ref h0, .int x1, .int x2, .int x3] : List Value).toArray below meth c H locs 0 0 (MQ below (tQp (fun r => True)) ([.ref h0, .int x1, .int x2, .int x3] : List Value).toArray s 0 0 tNo) (F0 m 0 ls []) by subst eH; subst eL; exact hW
  have J15 : ∀ (ls : Array Slot) (vs0 : Int32), lv_has ls 5 [(0, .ref h0), (1, .int x1), (2, .int x2)] → 0 ≤ vs0.toInt → vs0.toInt ≤ 1 → W p l e (tRm 2 44) s m ([.ref h0, .int x1, .int x2, .int x3] : List Value).toArray below meth c H locs 0 0 (MQ below (tQp (fun r => True)) ([.ref h0, .int x1, .int x2, .int x3] : List Value).toArray s 0 0 tNo) (F0 m 15 ls [.int vs0]) := by
    intro ls vs0 hl bs0 cs0
    refine lv_istore (lv' := [(4, .int vs0), (0, .ref h0), (1, .int x1), (2, .int x2)]) hx hb dX10_toldBy_15 hl (by decide) rfl (fun ls hl => ?_)
    refine lv_aload_n hx hb dX10_toldBy_17 rfl (lv_at hl 1 rfl) ?_
    refine lv_aload_n hx hb dX10_toldBy_18 rfl (lv_at hl 1 rfl) ?_
    refine lv_iload_n hx hb dX10_toldBy_19 rfl (lv_at hl 2 rfl) ?_
    refine lv_iload_n hx hb dX10_toldBy_20 rfl (lv_at hl 3 rfl) ?_
    refine tc_callp (mc_runV (As := [.int x1, .int x2]) (rest := [.ref h0]) E hG (c_X10_childOf l G Y h0 x1 x2 t0 (by omega) (by omega) (by omega) (by omega)) t0 rfl kv_X10_childOf ml_X10_153 ⟨rfl, rfl, Nat.le_of_ble_eq_true rfl, Nat.le_of_ble_eq_true rfl⟩ rfl hl.1 rfl (Nat.le_of_ble_eq_true rfl) ⟨Nat.zero_le _, Nat.zero_le _⟩ dX10_toldBy_21) (fun r1 pr1 => ?_)
    have pr1 : mV Y (ix x1.toInt (11 + x2.toInt)) r1 := pr1
    have br1 := mV_r 11 18 0 23 pr1 (by omega) (by omega) (by omega) (by decide) (by decide)
    refine lv_bipush (v := 22) hx hb dX10_toldBy_24 (by decide) ?_
    refine lv_iload hx hb dX10_toldBy_26 (lv_at hl 0 rfl) ?_
    refine lv_iadd hx hb dX10_toldBy_28 ?_
    refine lv_topi (fun z2 ez2 => ?_)
    have tz2 := tn_add ez2 kI_22 rfl (by omega) (by omega)
    refine tc_callp (mc_runV (As := [.int r1, .int z2]) (rest := []) E hG (c_X10_get l G Y h0 r1 z2 t0 (by omega) (by omega) (by omega) (by omega)) t0 rfl kv_X10_get ml_X10_91 ⟨rfl, rfl, Nat.le_of_ble_eq_true rfl, Nat.le_of_ble_eq_true rfl⟩ rfl hl.1 rfl (Nat.le_of_ble_eq_true rfl) ⟨Nat.zero_le _, Nat.zero_le _⟩ dX10_toldBy_29) (fun r3 pr3 => ?_)
    have pr3 : mV Y (ix r1.toInt z2.toInt) r3 := pr3
    exact tc_pret E hr hlk eH eL rfl trivial dX10_toldBy_32
  refine lv_aload_n hx hb dX10_toldBy_0 rfl (lv_at hl 0 rfl) ?_
  refine lv_iload_n hx hb dX10_toldBy_1 rfl (lv_at hl 1 rfl) ?_
  refine lv_iconst (v := 1) hx hb dX10_toldBy_2 (by decide) ?_
  refine tc_callp (mc_runV (As := [.int x1, .int 1]) (rest := []) E hG (c_X10_get l G Y h0 x1 (1 : Int32) t0 (by omega) (by omega) (by decide) (by decide)) t0 rfl kv_X10_get ml_X10_91 ⟨rfl, rfl, Nat.le_of_ble_eq_true rfl, Nat.le_of_ble_eq_true rfl⟩ rfl hl.1 rfl (Nat.le_of_ble_eq_true rfl) ⟨Nat.zero_le _, Nat.zero_le _⟩ dX10_toldBy_3) (fun r4 pr4 => ?_)
  have pr4 : mV Y (ix x1.toInt (1 : Int32).toInt) r4 := pr4
  have pr4 := mV_l pr4 kI_1
  have br4 := mV_1 pr4 (by omega)
  have k5 := kI_1
  refine lv_iconst (v := 5) hx hb dX10_toldBy_6 (by decide) ?_
  refine lv_icmp_ne (tgt := 14) hx hb dX10_toldBy_7 (by decide) (fun c6 => ?_) (fun c6 => ?_)
  · skip
    have ic6 := tn_ne rfl kI_5 c6
    refine lv_iload_n hx hb dX10_toldBy_14 rfl (lv_at hl 3 rfl) ?_
    exact J15 ls x3 (lv_sub hl [0, 1, 2] rfl) (by omega) (by omega)
  · skip
    have ic6 := tn_eq rfl kI_5 c6
    refine lv_iconst (v := 0) hx hb dX10_toldBy_10 (by decide) ?_
    refine lv_goto (tgt := 15) hx hb dX10_toldBy_11 (by decide) ?_
    exact J15 ls (0 : Int32) (lv_sub hl [0, 1, 2] rfl) (by decide) (by decide)

set_option maxHeartbeats 4000000 in
set_option maxRecDepth 100000 in
theorem c_X10_mostTold (l : Launch) (G : tG) (Y : mY) (h0 : Nat) (x1 : Int32) (x2 : Int32) (t0 : Y.1 h0 = 1) (l1 : 0 ≤ x1.toInt) (u1 : x1.toInt ≤ 23) (l2 : 0 ≤ x2.toInt) (u2 : x2.toInt ≤ 1) : Met l yX10_mostTold (.code yX10_mostTold cX10_mostTold 6 (some .int) :: tWS) (tRm 3 68) (va_Pc [.ref h0, .int x1, .int x2] (mPre G Y)) (tQp (fun r => True)) 0 0 tNo := by
  refine mc_met (by decide) (Nat.le_of_ble_eq_true rfl) ?_
  intro p e s m below meth c E hr hlk hG ls hl
  have hl : lv_has ls 6 [(0, .ref h0), (1, .int x1), (2, .int x2)] := hl
  have hx := E.1
  have hb := E.2.1
  obtain ⟨H, eH⟩ : ∃ H, H = s.heap := ⟨_, rfl⟩
  obtain ⟨locs, eL⟩ : ∃ x : List Loc, x = [] := ⟨_, rfl⟩
  have hG : mGH G Y s H locs := by rw [eH, eL]; exact hG
  suffices hW : W p l e (tRm 3 68) s m ([.ref h0, .int x1, .int x2] : List Value).toArray below meth c H locs 0 0 (MQ below (tQp (fun r => True)) ([.ref h0, .int x1, .int x2] : List Value).toArray s 0 0 tNo) (F0 m 0 ls []) by subst eH; subst eL; exact hW
  have J5 : ∀ (n5 : Nat) (ls : Array Slot) (v3 : Int32) (v4 : Int32), lv_has ls 6 [(0, .ref h0), (1, .int x1), (2, .int x2), (3, .int v3), (4, .int v4)] → 0 ≤ v3.toInt → 0 ≤ v4.toInt → v4.toInt ≤ 8 → (8 - v4.toInt).toNat < n5 → W p l e (tRm 3 68) s m ([.ref h0, .int x1, .int x2] : List Value).toArray below meth c H locs 0 0 (MQ below (tQp (fun r => True)) ([.ref h0, .int x1, .int x2] : List Value).toArray s 0 0 tNo) (F0 m 5 ls []) := by
    intro n5
    induction n5 with
    | zero => intro ls v3 v4 hl b3 b4 c4 hn5; exact absurd hn5 (Nat.not_lt_zero _)
    | succ n5 ih5 =>
      intro ls v3 v4 hl b3 b4 c4 hn5
      have J37 : ∀ (ls : Array Slot) (v4 : Int32) (vs0 : Int32), lv_has ls 6 [(0, .ref h0), (1, .int x1), (2, .int x2), (4, .int v4)] → 0 ≤ v4.toInt → v4.toInt ≤ 7 → 0 ≤ vs0.toInt → (8 - v4.toInt).toNat < n5 + 1 → W p l e (tRm 3 68) s m ([.ref h0, .int x1, .int x2] : List Value).toArray below meth c H locs 0 0 (MQ below (tQp (fun r => True)) ([.ref h0, .int x1, .int x2] : List Value).toArray s 0 0 tNo) (F0 m 37 ls [.int vs0]) := by
        intro ls v4 vs0 hl b4 c4 bs0 hm5
        refine lv_istore_n (lv' := [(3, .int vs0), (0, .ref h0), (1, .int x1), (2, .int x2), (4, .int v4)]) hx hb dX10_mostTold_37 rfl hl (by decide) rfl (fun ls hl => ?_)
        obtain ⟨z1, ez1⟩ : ∃ y : Int32, y = v4 + (1) := ⟨_, rfl⟩
        refine lv_iinc (v := z1) (lv' := [(4, .int z1), (3, .int vs0), (0, .ref h0), (1, .int x1), (2, .int x2)]) hx hb dX10_mostTold_38 hl (k := 4) rfl (by rw [ez1]; rfl) (by decide) rfl (fun ls hl => ?_)
        have tz1 := tn_add ez1 rfl kI_1 (by omega) (by omega)
        refine lv_goto (tgt := 5) hx hb dX10_mostTold_41 (by decide) ?_
        exact ih5 ls vs0 z1 (lv_sub hl [2, 3, 4, 1, 0] rfl) (by omega) (by omega) (by omega) (by omega)
      refine lv_iload hx hb dX10_mostTold_5 (lv_at hl 4 rfl) ?_
      refine lv_aload_n hx hb dX10_mostTold_7 rfl (lv_at hl 0 rfl) ?_
      refine lv_iload_n hx hb dX10_mostTold_8 rfl (lv_at hl 1 rfl) ?_
      refine tc_callp (mc_runV (As := [.int x1]) (rest := [.int v4]) E hG (c_X10_manyOf l G Y h0 x1 t0 (by omega) (by omega)) t0 rfl kv_X10_manyOf ml_X10_117 ⟨rfl, rfl, Nat.le_of_ble_eq_true rfl, Nat.le_of_ble_eq_true rfl⟩ rfl hl.1 rfl (Nat.le_of_ble_eq_true rfl) ⟨Nat.zero_le _, Nat.zero_le _⟩ dX10_mostTold_9) (fun r2 pr2 => ?_)
      have pr2 : mV Y (ix x1.toInt 10) r2 := pr2
      have br2 := mV_10 pr2 (by omega)
      refine lv_icmp_ge (tgt := 44) hx hb dX10_mostTold_12 (by decide) (fun c3 => ?_) (fun c3 => ?_)
      · skip
        have ic3 := tn_le rfl rfl c3
        refine lv_iload_n hx hb dX10_mostTold_44 rfl (lv_at hl 3 rfl) ?_
        exact tc_pret E hr hlk eH eL rfl trivial dX10_mostTold_45
      · skip
        have ic3 := tn_nle rfl rfl c3
        refine lv_aload_n hx hb dX10_mostTold_15 rfl (lv_at hl 0 rfl) ?_
        refine lv_iload_n hx hb dX10_mostTold_16 rfl (lv_at hl 1 rfl) ?_
        refine lv_iload hx hb dX10_mostTold_17 (lv_at hl 4 rfl) ?_
        refine lv_iload_n hx hb dX10_mostTold_19 rfl (lv_at hl 2 rfl) ?_
        refine tc_callp (mc_runV (As := [.int x1, .int v4, .int x2]) (rest := []) E hG (c_X10_toldBy l G Y h0 x1 v4 x2 t0 (by omega) (by omega) (by omega) (by omega) (by omega) (by omega)) t0 rfl kv_X10_toldBy ml_X10_177 ⟨rfl, rfl, Nat.le_of_ble_eq_true rfl, Nat.le_of_ble_eq_true rfl⟩ rfl hl.1 rfl (Nat.le_of_ble_eq_true rfl) ⟨Nat.zero_le _, Nat.zero_le _⟩ dX10_mostTold_20) (fun r4 pr4 => ?_)
        refine lv_istore (lv' := [(5, .int r4), (0, .ref h0), (1, .int x1), (2, .int x2), (3, .int v3), (4, .int v4)]) hx hb dX10_mostTold_23 hl (by decide) rfl (fun ls hl => ?_)
        refine lv_iload hx hb dX10_mostTold_25 (lv_at hl 0 rfl) ?_
        refine lv_iload_n hx hb dX10_mostTold_27 rfl (lv_at hl 4 rfl) ?_
        refine lv_icmp_le (tgt := 36) hx hb dX10_mostTold_28 (by decide) (fun c5 => ?_) (fun c5 => ?_)
        · skip
          have ic5 := tn_le rfl rfl c5
          refine lv_iload_n hx hb dX10_mostTold_36 rfl (lv_at hl 4 rfl) ?_
          exact J37 ls v4 v3 (lv_sub hl [1, 2, 3, 5] rfl) (by omega) (by omega) (by omega) (by omega)
        · skip
          have ic5 := tn_nle rfl rfl c5
          refine lv_iload hx hb dX10_mostTold_31 (lv_at hl 0 rfl) ?_
          refine lv_goto (tgt := 37) hx hb dX10_mostTold_33 (by decide) ?_
          exact J37 ls v4 r4 (lv_sub hl [1, 2, 3, 5] rfl) (by omega) (by omega) (by omega) (by omega)
  refine lv_iconst (v := 0) hx hb dX10_mostTold_0 (by decide) ?_
  refine lv_istore_n (lv' := [(3, .int 0), (0, .ref h0), (1, .int x1), (2, .int x2)]) hx hb dX10_mostTold_1 rfl hl (by decide) rfl (fun ls hl => ?_)
  refine lv_iconst (v := 0) hx hb dX10_mostTold_2 (by decide) ?_
  refine lv_istore (lv' := [(4, .int 0), (3, .int 0), (0, .ref h0), (1, .int x1), (2, .int x2)]) hx hb dX10_mostTold_3 hl (by decide) rfl (fun ls hl => ?_)
  exact J5 ((8 - (0 : Int32).toInt).toNat + 1) ls (0 : Int32) (0 : Int32) (lv_sub hl [2, 3, 4, 1, 0] rfl) (by decide) (by decide) (by decide) (Nat.lt_succ_self _)

set_option maxHeartbeats 4000000 in
set_option maxRecDepth 100000 in
theorem c_X10_allTold (l : Launch) (G : tG) (Y : mY) (h0 : Nat) (x1 : Int32) (x2 : Int32) (t0 : Y.1 h0 = 1) (l1 : 0 ≤ x1.toInt) (u1 : x1.toInt ≤ 23) (l2 : 0 ≤ x2.toInt) (u2 : x2.toInt ≤ 1) : Met l yX10_allTold (.code yX10_allTold cX10_allTold 7 (some .int) :: tWS) (tRm 3 68) (va_Pc [.ref h0, .int x1, .int x2] (mPre G Y)) (tQp (fun r => True)) 0 0 tNo := by
  refine mc_met (by decide) (Nat.le_of_ble_eq_true rfl) ?_
  intro p e s m below meth c E hr hlk hG ls hl
  have hl : lv_has ls 7 [(0, .ref h0), (1, .int x1), (2, .int x2)] := hl
  have hx := E.1
  have hb := E.2.1
  obtain ⟨H, eH⟩ : ∃ H, H = s.heap := ⟨_, rfl⟩
  obtain ⟨locs, eL⟩ : ∃ x : List Loc, x = [] := ⟨_, rfl⟩
  have hG : mGH G Y s H locs := by rw [eH, eL]; exact hG
  suffices hW : W p l e (tRm 3 68) s m ([.ref h0, .int x1, .int x2] : List Value).toArray below meth c H locs 0 0 (MQ below (tQp (fun r => True)) ([.ref h0, .int x1, .int x2] : List Value).toArray s 0 0 tNo) (F0 m 0 ls []) by subst eH; subst eL; exact hW
  have J30 : ∀ (n30 : Nat) (ls : Array Slot) (v3 : Int32) (v4 : Int32) (v5 : Int32), lv_has ls 7 [(0, .ref h0), (1, .int x1), (2, .int x2), (3, .int v3), (4, .int v4), (5, .int v5)] → 0 ≤ v3.toInt → v3.toInt ≤ 8 → 0 ≤ v5.toInt → v5.toInt ≤ 8 → (8 - v5.toInt).toNat < n30 → W p l e (tRm 3 68) s m ([.ref h0, .int x1, .int x2] : List Value).toArray below meth c H locs 0 0 (MQ below (tQp (fun r => True)) ([.ref h0, .int x1, .int x2] : List Value).toArray s 0 0 tNo) (F0 m 30 ls []) := by
    intro n30
    induction n30 with
    | zero => intro ls v3 v4 v5 hl b3 c3 b5 c5 hn30; exact absurd hn30 (Nat.not_lt_zero _)
    | succ n30 ih30 =>
      intro ls v3 v4 v5 hl b3 c3 b5 c5 hn30
      refine lv_iload hx hb dX10_allTold_30 (lv_at hl 5 rfl) ?_
      refine lv_iload_n hx hb dX10_allTold_32 rfl (lv_at hl 3 rfl) ?_
      refine lv_icmp_ge (tgt := 86) hx hb dX10_allTold_33 (by decide) (fun c1 => ?_) (fun c1 => ?_)
      · skip
        have ic1 := tn_le rfl rfl c1
        refine lv_iload hx hb dX10_allTold_86 (lv_at hl 4 rfl) ?_
        exact tc_pret E hr hlk eH eL rfl trivial dX10_allTold_88
      · skip
        have ic1 := tn_nle rfl rfl c1
        refine lv_aload_n hx hb dX10_allTold_36 rfl (lv_at hl 0 rfl) ?_
        refine lv_iload_n hx hb dX10_allTold_37 rfl (lv_at hl 1 rfl) ?_
        refine lv_iload hx hb dX10_allTold_38 (lv_at hl 5 rfl) ?_
        refine tc_callp (mc_runV (As := [.int x1, .int v5]) (rest := []) E hG (c_X10_childOf l G Y h0 x1 v5 t0 (by omega) (by omega) (by omega) (by omega)) t0 rfl kv_X10_childOf ml_X10_153 ⟨rfl, rfl, Nat.le_of_ble_eq_true rfl, Nat.le_of_ble_eq_true rfl⟩ rfl hl.1 rfl (Nat.le_of_ble_eq_true rfl) ⟨Nat.zero_le _, Nat.zero_le _⟩ dX10_allTold_40) (fun r2 pr2 => ?_)
        have pr2 : mV Y (ix x1.toInt (11 + v5.toInt)) r2 := pr2
        have br2 := mV_r 11 18 0 23 pr2 (by omega) (by omega) (by omega) (by decide) (by decide)
        refine lv_istore (lv' := [(6, .int r2), (0, .ref h0), (1, .int x1), (2, .int x2), (3, .int v3), (4, .int v4), (5, .int v5)]) hx hb dX10_allTold_43 hl (by decide) rfl (fun ls hl => ?_)
        refine lv_iload hx hb dX10_allTold_45 (lv_at hl 5 rfl) ?_
        refine lv_aload_n hx hb dX10_allTold_47 rfl (lv_at hl 1 rfl) ?_
        refine lv_iload_n hx hb dX10_allTold_48 rfl (lv_at hl 2 rfl) ?_
        refine lv_iload hx hb dX10_allTold_49 (lv_at hl 6 rfl) ?_
        refine lv_iload_n hx hb dX10_allTold_51 rfl (lv_at hl 3 rfl) ?_
        refine tc_callp (mc_runV (As := [.int x1, .int v5, .int x2]) (rest := [.int v4]) E hG (c_X10_toldBy l G Y h0 x1 v5 x2 t0 (by omega) (by omega) (by omega) (by omega) (by omega) (by omega)) t0 rfl kv_X10_toldBy ml_X10_177 ⟨rfl, rfl, Nat.le_of_ble_eq_true rfl, Nat.le_of_ble_eq_true rfl⟩ rfl hl.1 rfl (Nat.le_of_ble_eq_true rfl) ⟨Nat.zero_le _, Nat.zero_le _⟩ dX10_allTold_52) (fun r3 pr3 => ?_)
        refine lv_aload_n hx hb dX10_allTold_55 rfl (lv_at hl 1 rfl) ?_
        refine lv_iload hx hb dX10_allTold_56 (lv_at hl 0 rfl) ?_
        refine lv_bipush (v := 7) hx hb dX10_allTold_58 (by decide) ?_
        refine tc_callp (mc_runV (As := [.int r2, .int 7]) (rest := [.int r3, .int v4]) E hG (c_X10_get l G Y h0 r2 (7 : Int32) t0 (by omega) (by omega) (by decide) (by decide)) t0 rfl kv_X10_get ml_X10_91 ⟨rfl, rfl, Nat.le_of_ble_eq_true rfl, Nat.le_of_ble_eq_true rfl⟩ rfl hl.1 rfl (Nat.le_of_ble_eq_true rfl) ⟨Nat.zero_le _, Nat.zero_le _⟩ dX10_allTold_60) (fun r4 pr4 => ?_)
        have pr4 : mV Y (ix r2.toInt (7 : Int32).toInt) r4 := pr4
        have pr4 := mV_l pr4 kI_7
        have br4 := mV_7 pr4 (by omega)
        have k5 := kI_7
        refine lv_aload_n hx hb dX10_allTold_63 rfl (lv_at hl 1 rfl) ?_
        refine lv_iload hx hb dX10_allTold_64 (lv_at hl 0 rfl) ?_
        refine lv_bipush (v := 8) hx hb dX10_allTold_66 (by decide) ?_
        refine tc_callp (mc_runV (As := [.int r2, .int 8]) (rest := [.int r4, .int r3, .int v4]) E hG (c_X10_get l G Y h0 r2 (8 : Int32) t0 (by omega) (by omega) (by decide) (by decide)) t0 rfl kv_X10_get ml_X10_91 ⟨rfl, rfl, Nat.le_of_ble_eq_true rfl, Nat.le_of_ble_eq_true rfl⟩ rfl hl.1 rfl (Nat.le_of_ble_eq_true rfl) ⟨Nat.zero_le _, Nat.zero_le _⟩ dX10_allTold_68) (fun r6 pr6 => ?_)
        have pr6 : mV Y (ix r2.toInt (8 : Int32).toInt) r6 := pr6
        have pr6 := mV_l pr6 kI_8
        have br6 := mV_8 pr6 (by omega)
        have k7 := kI_8
        refine tc_callp (mc_runS (As := [.int r6]) (rest := [.int r4, .int r3, .int v4]) E hG (c_X10_ended l G Y r6 (by omega) (by omega)) ks_X10_ended ml_X10_181 ⟨rfl, rfl, Nat.le_of_ble_eq_true rfl, Nat.le_of_ble_eq_true rfl⟩ rfl hl.1 rfl (Nat.le_of_ble_eq_true rfl) ⟨Nat.zero_le _, Nat.zero_le _⟩ dX10_allTold_71) (fun r8 pr8 => ?_)
        have pr8 : (0 ≤ r8.toInt ∧ r8.toInt ≤ 1000) := pr8
        refine tc_callp (mc_runS (As := [.int r3, .int r4, .int r8]) (rest := [.int v4]) E hG (c_X10_held l G Y r3 r4 r8) ks_X10_held ml_X10_184 ⟨rfl, rfl, Nat.le_of_ble_eq_true rfl, Nat.le_of_ble_eq_true rfl⟩ rfl hl.1 rfl (Nat.le_of_ble_eq_true rfl) ⟨Nat.zero_le _, Nat.zero_le _⟩ dX10_allTold_74) (fun r9 pr9 => ?_)
        have pr9 : (r9 = r3 ∧ r4.toInt ≤ r3.toInt ∧ r3.toInt ≤ r8.toInt) ∨ (r9 = r4 ∧ r3.toInt < r4.toInt) ∨ (r9 = r8 ∧ r8.toInt < r3.toInt) := pr9
        have br9 : 0 ≤ r9.toInt ∧ r9.toInt ≤ 1000 := by rcases pr9 with ⟨w, _⟩ | ⟨w, _⟩ | ⟨w, _⟩ <;> rw [w] <;> omega
        refine lv_iadd hx hb dX10_allTold_77 ?_
        refine lv_topi (fun z10 ez10 => ?_)
        refine lv_istore (lv' := [(4, .int z10), (6, .int r2), (0, .ref h0), (1, .int x1), (2, .int x2), (3, .int v3), (5, .int v5)]) hx hb dX10_allTold_78 hl (by decide) rfl (fun ls hl => ?_)
        obtain ⟨z11, ez11⟩ : ∃ y : Int32, y = v5 + (1) := ⟨_, rfl⟩
        refine lv_iinc (v := z11) (lv' := [(5, .int z11), (4, .int z10), (6, .int r2), (0, .ref h0), (1, .int x1), (2, .int x2), (3, .int v3)]) hx hb dX10_allTold_80 hl (k := 6) rfl (by rw [ez11]; rfl) (by decide) rfl (fun ls hl => ?_)
        have tz11 := tn_add ez11 rfl kI_1 (by omega) (by omega)
        refine lv_goto (tgt := 30) hx hb dX10_allTold_83 (by decide) ?_
        exact ih30 ls v3 z10 z11 (lv_sub hl [3, 4, 5, 6, 1, 0] rfl) (by omega) (by omega) (by omega) (by omega) (by omega)
  have J25 : ∀ (ls : Array Slot) (v3 : Int32) (vs0 : Int32), lv_has ls 7 [(0, .ref h0), (1, .int x1), (2, .int x2), (3, .int v3)] → 0 ≤ v3.toInt → v3.toInt ≤ 8 → 0 ≤ vs0.toInt → vs0.toInt ≤ 693 → W p l e (tRm 3 68) s m ([.ref h0, .int x1, .int x2] : List Value).toArray below meth c H locs 0 0 (MQ below (tQp (fun r => True)) ([.ref h0, .int x1, .int x2] : List Value).toArray s 0 0 tNo) (F0 m 25 ls [.int vs0]) := by
    intro ls v3 vs0 hl b3 c3 bs0 cs0
    refine lv_istore (lv' := [(4, .int vs0), (0, .ref h0), (1, .int x1), (2, .int x2), (3, .int v3)]) hx hb dX10_allTold_25 hl (by decide) rfl (fun ls hl => ?_)
    refine lv_iconst (v := 0) hx hb dX10_allTold_27 (by decide) ?_
    refine lv_istore (lv' := [(5, .int 0), (4, .int vs0), (0, .ref h0), (1, .int x1), (2, .int x2), (3, .int v3)]) hx hb dX10_allTold_28 hl (by decide) rfl (fun ls hl => ?_)
    exact J30 ((8 - (0 : Int32).toInt).toNat + 1) ls v3 vs0 (0 : Int32) (lv_sub hl [2, 3, 4, 5, 1, 0] rfl) (by omega) (by omega) (by decide) (by decide) (Nat.lt_succ_self _)
  refine lv_aload_n hx hb dX10_allTold_0 rfl (lv_at hl 0 rfl) ?_
  refine lv_iload_n hx hb dX10_allTold_1 rfl (lv_at hl 1 rfl) ?_
  refine tc_callp (mc_runV (As := [.int x1]) (rest := []) E hG (c_X10_manyOf l G Y h0 x1 t0 (by omega) (by omega)) t0 rfl kv_X10_manyOf ml_X10_117 ⟨rfl, rfl, Nat.le_of_ble_eq_true rfl, Nat.le_of_ble_eq_true rfl⟩ rfl hl.1 rfl (Nat.le_of_ble_eq_true rfl) ⟨Nat.zero_le _, Nat.zero_le _⟩ dX10_allTold_2) (fun r12 pr12 => ?_)
  have pr12 : mV Y (ix x1.toInt 10) r12 := pr12
  have br12 := mV_10 pr12 (by omega)
  refine lv_istore_n (lv' := [(3, .int r12), (0, .ref h0), (1, .int x1), (2, .int x2)]) hx hb dX10_allTold_5 rfl hl (by decide) rfl (fun ls hl => ?_)
  refine lv_iload_n hx hb dX10_allTold_6 rfl (lv_at hl 0 rfl) ?_
  refine lv_iconst (v := 1) hx hb dX10_allTold_7 (by decide) ?_
  refine lv_icmp_le (tgt := 24) hx hb dX10_allTold_8 (by decide) (fun c13 => ?_) (fun c13 => ?_)
  · skip
    have ic13 := tn_le rfl kI_1 c13
    refine lv_iconst (v := 0) hx hb dX10_allTold_24 (by decide) ?_
    exact J25 ls r12 (0 : Int32) (lv_sub hl [1, 2, 3, 0] rfl) (by omega) (by omega) (by decide) (by decide)
  · skip
    have ic13 := tn_nle rfl kI_1 c13
    refine lv_iload_n hx hb dX10_allTold_11 rfl (lv_at hl 0 rfl) ?_
    refine lv_iconst (v := 1) hx hb dX10_allTold_12 (by decide) ?_
    refine lv_isub hx hb dX10_allTold_13 ?_
    refine lv_topi (fun z14 ez14 => ?_)
    have tz14 := tn_sub ez14 rfl kI_1 (by omega) (by omega)
    refine lv_aload_n hx hb dX10_allTold_14 rfl (lv_at hl 1 rfl) ?_
    refine lv_iload_n hx hb dX10_allTold_15 rfl (lv_at hl 2 rfl) ?_
    refine lv_iconst (v := 3) hx hb dX10_allTold_16 (by decide) ?_
    refine tc_callp (mc_runV (As := [.int x1, .int 3]) (rest := [.int z14]) E hG (c_X10_get l G Y h0 x1 (3 : Int32) t0 (by omega) (by omega) (by decide) (by decide)) t0 rfl kv_X10_get ml_X10_91 ⟨rfl, rfl, Nat.le_of_ble_eq_true rfl, Nat.le_of_ble_eq_true rfl⟩ rfl hl.1 rfl (Nat.le_of_ble_eq_true rfl) ⟨Nat.zero_le _, Nat.zero_le _⟩ dX10_allTold_17) (fun r15 pr15 => ?_)
    have pr15 : mV Y (ix x1.toInt (3 : Int32).toInt) r15 := pr15
    have pr15 := mV_l pr15 kI_3
    have br15 := mV_3 pr15 (by omega)
    have k16 := kI_3
    refine lv_imul hx hb dX10_allTold_20 ?_
    refine lv_topi (fun z17 ez17 => ?_)
    have tz17 := tn_mulb (a := 7) (b := 99) ez17 (by omega) (by omega) (by omega) (by omega) (by decide)
    refine lv_goto (tgt := 25) hx hb dX10_allTold_21 (by decide) ?_
    exact J25 ls r12 z17 (lv_sub hl [1, 2, 3, 0] rfl) (by omega) (by omega) (by omega) (by omega)

set_option maxHeartbeats 4000000 in
set_option maxRecDepth 100000 in
theorem c_X10_answerOf (l : Launch) (G : tG) (Y : mY) (h0 : Nat) (x1 : Int32) (x2 : Int32) (t0 : Y.1 h0 = 1) (l1 : 0 ≤ x1.toInt) (u1 : x1.toInt ≤ 23) (l2 : 0 ≤ x2.toInt) (u2 : x2.toInt ≤ 1) : Met l yX10_answerOf (.code yX10_answerOf cX10_answerOf 3 (some .int) :: tWS) (tRm 4 94) (va_Pc [.ref h0, .int x1, .int x2] (mPre G Y)) (tQp (fun r => True)) 0 0 tNo := by
  refine mc_met (by decide) (Nat.le_of_ble_eq_true rfl) ?_
  intro p e s m below meth c E hr hlk hG ls hl
  have hl : lv_has ls 3 [(0, .ref h0), (1, .int x1), (2, .int x2)] := hl
  have hx := E.1
  have hb := E.2.1
  obtain ⟨H, eH⟩ : ∃ H, H = s.heap := ⟨_, rfl⟩
  obtain ⟨locs, eL⟩ : ∃ x : List Loc, x = [] := ⟨_, rfl⟩
  have hG : mGH G Y s H locs := by rw [eH, eL]; exact hG
  suffices hW : W p l e (tRm 4 94) s m ([.ref h0, .int x1, .int x2] : List Value).toArray below meth c H locs 0 0 (MQ below (tQp (fun r => True)) ([.ref h0, .int x1, .int x2] : List Value).toArray s 0 0 tNo) (F0 m 0 ls []) by subst eH; subst eL; exact hW
  refine lv_aload_n hx hb dX10_answerOf_0 rfl (lv_at hl 0 rfl) ?_
  refine lv_iload_n hx hb dX10_answerOf_1 rfl (lv_at hl 1 rfl) ?_
  refine lv_iconst (v := 1) hx hb dX10_answerOf_2 (by decide) ?_
  refine tc_callp (mc_runV (As := [.int x1, .int 1]) (rest := []) E hG (c_X10_get l G Y h0 x1 (1 : Int32) t0 (by omega) (by omega) (by decide) (by decide)) t0 rfl kv_X10_get ml_X10_91 ⟨rfl, rfl, Nat.le_of_ble_eq_true rfl, Nat.le_of_ble_eq_true rfl⟩ rfl hl.1 rfl (Nat.le_of_ble_eq_true rfl) ⟨Nat.zero_le _, Nat.zero_le _⟩ dX10_answerOf_3) (fun r1 pr1 => ?_)
  have pr1 : mV Y (ix x1.toInt (1 : Int32).toInt) r1 := pr1
  have pr1 := mV_l pr1 kI_1
  have br1 := mV_1 pr1 (by omega)
  have k2 := kI_1
  rcases (show (r1.toInt < 0 ∨ 8 < r1.toInt) ∨ r1.toInt = 0 ∨ r1.toInt = 1 ∨ r1.toInt = 2 ∨ r1.toInt = 3 ∨ r1.toInt = 4 ∨ r1.toInt = 5 ∨ r1.toInt = 6 ∨ r1.toInt = 7 ∨ r1.toInt = 8 by omega) with k3 | k3 | k3 | k3 | k3 | k3 | k3 | k3 | k3 | k3
  · refine lv_tableOut (tgt := 141) hx hb dX10_answerOf_6 k3 (by decide) ?_
    refine lv_aload_n hx hb dX10_answerOf_141 rfl (lv_at hl 0 rfl) ?_
    refine lv_iload_n hx hb dX10_answerOf_142 rfl (lv_at hl 1 rfl) ?_
    refine lv_iload_n hx hb dX10_answerOf_143 rfl (lv_at hl 2 rfl) ?_
    refine tc_callp (mc_runV (As := [.int x1, .int x2]) (rest := []) E hG (c_X10_mostTold l G Y h0 x1 x2 t0 (by omega) (by omega) (by omega) (by omega)) t0 rfl kv_X10_mostTold ml_X10_190 ⟨rfl, rfl, Nat.le_of_ble_eq_true rfl, Nat.le_of_ble_eq_true rfl⟩ rfl hl.1 rfl (Nat.le_of_ble_eq_true rfl) ⟨Nat.zero_le _, Nat.zero_le _⟩ dX10_answerOf_144) (fun r4 pr4 => ?_)
    exact tc_pret E hr hlk eH eL rfl trivial dX10_answerOf_147
  · refine lv_tableIn (off := 50) (tgt := 56) hx hb dX10_answerOf_6 (by rw [k3]; decide) (by rw [k3]; decide) (by rw [k3]; rfl) (by decide) ?_
    refine lv_aload_n hx hb dX10_answerOf_56 rfl (lv_at hl 0 rfl) ?_
    refine lv_iload_n hx hb dX10_answerOf_57 rfl (lv_at hl 1 rfl) ?_
    refine lv_iconst (v := 2) hx hb dX10_answerOf_58 (by decide) ?_
    refine tc_callp (mc_runV (As := [.int x1, .int 2]) (rest := []) E hG (c_X10_get l G Y h0 x1 (2 : Int32) t0 (by omega) (by omega) (by decide) (by decide)) t0 rfl kv_X10_get ml_X10_91 ⟨rfl, rfl, Nat.le_of_ble_eq_true rfl, Nat.le_of_ble_eq_true rfl⟩ rfl hl.1 rfl (Nat.le_of_ble_eq_true rfl) ⟨Nat.zero_le _, Nat.zero_le _⟩ dX10_answerOf_59) (fun r5 pr5 => ?_)
    have pr5 : mV Y (ix x1.toInt (2 : Int32).toInt) r5 := pr5
    have pr5 := mV_l pr5 kI_2
    have br5 := mV_2 pr5 (by omega)
    have k6 := kI_2
    exact tc_pret E hr hlk eH eL rfl trivial dX10_answerOf_62
  · refine lv_tableIn (off := 57) (tgt := 63) hx hb dX10_answerOf_6 (by rw [k3]; decide) (by rw [k3]; decide) (by rw [k3]; rfl) (by decide) ?_
    refine lv_aload_n hx hb dX10_answerOf_63 rfl (lv_at hl 0 rfl) ?_
    refine lv_iload_n hx hb dX10_answerOf_64 rfl (lv_at hl 1 rfl) ?_
    refine lv_iload_n hx hb dX10_answerOf_65 rfl (lv_at hl 2 rfl) ?_
    refine tc_callp (mc_runV (As := [.int x1, .int x2]) (rest := []) E hG (c_X10_textOf l G Y h0 x1 x2 t0 (by omega) (by omega) (by omega) (by omega)) t0 rfl kv_X10_textOf ml_X10_187 ⟨rfl, rfl, Nat.le_of_ble_eq_true rfl, Nat.le_of_ble_eq_true rfl⟩ rfl hl.1 rfl (Nat.le_of_ble_eq_true rfl) ⟨Nat.zero_le _, Nat.zero_le _⟩ dX10_answerOf_66) (fun r7 pr7 => ?_)
    exact tc_pret E hr hlk eH eL rfl trivial dX10_answerOf_69
  · refine lv_tableIn (off := 64) (tgt := 70) hx hb dX10_answerOf_6 (by rw [k3]; decide) (by rw [k3]; decide) (by rw [k3]; rfl) (by decide) ?_
    refine lv_aload_n hx hb dX10_answerOf_70 rfl (lv_at hl 0 rfl) ?_
    refine lv_iload_n hx hb dX10_answerOf_71 rfl (lv_at hl 1 rfl) ?_
    refine lv_iload_n hx hb dX10_answerOf_72 rfl (lv_at hl 2 rfl) ?_
    refine tc_callp (mc_runV (As := [.int x1, .int x2]) (rest := []) E hG (c_X10_mostTold l G Y h0 x1 x2 t0 (by omega) (by omega) (by omega) (by omega)) t0 rfl kv_X10_mostTold ml_X10_190 ⟨rfl, rfl, Nat.le_of_ble_eq_true rfl, Nat.le_of_ble_eq_true rfl⟩ rfl hl.1 rfl (Nat.le_of_ble_eq_true rfl) ⟨Nat.zero_le _, Nat.zero_le _⟩ dX10_answerOf_73) (fun r8 pr8 => ?_)
    refine lv_iconst (v := 2) hx hb dX10_answerOf_76 (by decide) ?_
    refine lv_aload_n hx hb dX10_answerOf_77 rfl (lv_at hl 0 rfl) ?_
    refine lv_iload_n hx hb dX10_answerOf_78 rfl (lv_at hl 1 rfl) ?_
    refine lv_iconst (v := 2) hx hb dX10_answerOf_79 (by decide) ?_
    refine tc_callp (mc_runV (As := [.int x1, .int 2]) (rest := [.int 2, .int r8]) E hG (c_X10_get l G Y h0 x1 (2 : Int32) t0 (by omega) (by omega) (by decide) (by decide)) t0 rfl kv_X10_get ml_X10_91 ⟨rfl, rfl, Nat.le_of_ble_eq_true rfl, Nat.le_of_ble_eq_true rfl⟩ rfl hl.1 rfl (Nat.le_of_ble_eq_true rfl) ⟨Nat.zero_le _, Nat.zero_le _⟩ dX10_answerOf_80) (fun r9 pr9 => ?_)
    have pr9 : mV Y (ix x1.toInt (2 : Int32).toInt) r9 := pr9
    have pr9 := mV_l pr9 kI_2
    have br9 := mV_2 pr9 (by omega)
    have k10 := kI_2
    refine lv_imul hx hb dX10_answerOf_83 ?_
    refine lv_topi (fun z11 ez11 => ?_)
    have tz11 := tn_mul ez11 kI_2 rfl (by omega) (by omega)
    refine lv_iadd hx hb dX10_answerOf_84 ?_
    refine lv_topi (fun z12 ez12 => ?_)
    exact tc_pret E hr hlk eH eL rfl trivial dX10_answerOf_85
  · refine lv_tableIn (off := 80) (tgt := 86) hx hb dX10_answerOf_6 (by rw [k3]; decide) (by rw [k3]; decide) (by rw [k3]; rfl) (by decide) ?_
    refine lv_aload_n hx hb dX10_answerOf_86 rfl (lv_at hl 0 rfl) ?_
    refine lv_iload_n hx hb dX10_answerOf_87 rfl (lv_at hl 1 rfl) ?_
    refine lv_iload_n hx hb dX10_answerOf_88 rfl (lv_at hl 2 rfl) ?_
    refine tc_callp (mc_runV (As := [.int x1, .int x2]) (rest := []) E hG (c_X10_mostTold l G Y h0 x1 x2 t0 (by omega) (by omega) (by omega) (by omega)) t0 rfl kv_X10_mostTold ml_X10_190 ⟨rfl, rfl, Nat.le_of_ble_eq_true rfl, Nat.le_of_ble_eq_true rfl⟩ rfl hl.1 rfl (Nat.le_of_ble_eq_true rfl) ⟨Nat.zero_le _, Nat.zero_le _⟩ dX10_answerOf_89) (fun r13 pr13 => ?_)
    refine lv_aload_n hx hb dX10_answerOf_92 rfl (lv_at hl 0 rfl) ?_
    refine lv_iload_n hx hb dX10_answerOf_93 rfl (lv_at hl 1 rfl) ?_
    refine lv_iconst (v := 2) hx hb dX10_answerOf_94 (by decide) ?_
    refine tc_callp (mc_runV (As := [.int x1, .int 2]) (rest := [.int r13]) E hG (c_X10_get l G Y h0 x1 (2 : Int32) t0 (by omega) (by omega) (by decide) (by decide)) t0 rfl kv_X10_get ml_X10_91 ⟨rfl, rfl, Nat.le_of_ble_eq_true rfl, Nat.le_of_ble_eq_true rfl⟩ rfl hl.1 rfl (Nat.le_of_ble_eq_true rfl) ⟨Nat.zero_le _, Nat.zero_le _⟩ dX10_answerOf_95) (fun r14 pr14 => ?_)
    have pr14 : mV Y (ix x1.toInt (2 : Int32).toInt) r14 := pr14
    have pr14 := mV_l pr14 kI_2
    have br14 := mV_2 pr14 (by omega)
    have k15 := kI_2
    refine lv_aload_n hx hb dX10_answerOf_98 rfl (lv_at hl 0 rfl) ?_
    refine lv_iload_n hx hb dX10_answerOf_99 rfl (lv_at hl 1 rfl) ?_
    refine lv_iconst (v := 3) hx hb dX10_answerOf_100 (by decide) ?_
    refine tc_callp (mc_runV (As := [.int x1, .int 3]) (rest := [.int r14, .int r13]) E hG (c_X10_get l G Y h0 x1 (3 : Int32) t0 (by omega) (by omega) (by decide) (by decide)) t0 rfl kv_X10_get ml_X10_91 ⟨rfl, rfl, Nat.le_of_ble_eq_true rfl, Nat.le_of_ble_eq_true rfl⟩ rfl hl.1 rfl (Nat.le_of_ble_eq_true rfl) ⟨Nat.zero_le _, Nat.zero_le _⟩ dX10_answerOf_101) (fun r16 pr16 => ?_)
    have pr16 : mV Y (ix x1.toInt (3 : Int32).toInt) r16 := pr16
    have pr16 := mV_l pr16 kI_3
    have br16 := mV_3 pr16 (by omega)
    have k17 := kI_3
    refine tc_callp (mc_runS (As := [.int r16]) (rest := [.int r14, .int r13]) E hG (c_X10_ended l G Y r16 (by omega) (by omega)) ks_X10_ended ml_X10_181 ⟨rfl, rfl, Nat.le_of_ble_eq_true rfl, Nat.le_of_ble_eq_true rfl⟩ rfl hl.1 rfl (Nat.le_of_ble_eq_true rfl) ⟨Nat.zero_le _, Nat.zero_le _⟩ dX10_answerOf_104) (fun r18 pr18 => ?_)
    have pr18 : (0 ≤ r18.toInt ∧ r18.toInt ≤ 1000) := pr18
    refine tc_callp (mc_runS (As := [.int r13, .int r14, .int r18]) (rest := []) E hG (c_X10_held l G Y r13 r14 r18) ks_X10_held ml_X10_184 ⟨rfl, rfl, Nat.le_of_ble_eq_true rfl, Nat.le_of_ble_eq_true rfl⟩ rfl hl.1 rfl (Nat.le_of_ble_eq_true rfl) ⟨Nat.zero_le _, Nat.zero_le _⟩ dX10_answerOf_107) (fun r19 pr19 => ?_)
    have pr19 : (r19 = r13 ∧ r14.toInt ≤ r13.toInt ∧ r13.toInt ≤ r18.toInt) ∨ (r19 = r14 ∧ r13.toInt < r14.toInt) ∨ (r19 = r18 ∧ r18.toInt < r13.toInt) := pr19
    have br19 : 0 ≤ r19.toInt ∧ r19.toInt ≤ 1000 := by rcases pr19 with ⟨w, _⟩ | ⟨w, _⟩ | ⟨w, _⟩ <;> rw [w] <;> omega
    exact tc_pret E hr hlk eH eL rfl trivial dX10_answerOf_110
  · refine lv_tableIn (off := 135) (tgt := 141) hx hb dX10_answerOf_6 (by rw [k3]; decide) (by rw [k3]; decide) (by rw [k3]; rfl) (by decide) ?_
    refine lv_aload_n hx hb dX10_answerOf_141 rfl (lv_at hl 0 rfl) ?_
    refine lv_iload_n hx hb dX10_answerOf_142 rfl (lv_at hl 1 rfl) ?_
    refine lv_iload_n hx hb dX10_answerOf_143 rfl (lv_at hl 2 rfl) ?_
    refine tc_callp (mc_runV (As := [.int x1, .int x2]) (rest := []) E hG (c_X10_mostTold l G Y h0 x1 x2 t0 (by omega) (by omega) (by omega) (by omega)) t0 rfl kv_X10_mostTold ml_X10_190 ⟨rfl, rfl, Nat.le_of_ble_eq_true rfl, Nat.le_of_ble_eq_true rfl⟩ rfl hl.1 rfl (Nat.le_of_ble_eq_true rfl) ⟨Nat.zero_le _, Nat.zero_le _⟩ dX10_answerOf_144) (fun r20 pr20 => ?_)
    exact tc_pret E hr hlk eH eL rfl trivial dX10_answerOf_147
  · refine lv_tableIn (off := 135) (tgt := 141) hx hb dX10_answerOf_6 (by rw [k3]; decide) (by rw [k3]; decide) (by rw [k3]; rfl) (by decide) ?_
    refine lv_aload_n hx hb dX10_answerOf_141 rfl (lv_at hl 0 rfl) ?_
    refine lv_iload_n hx hb dX10_answerOf_142 rfl (lv_at hl 1 rfl) ?_
    refine lv_iload_n hx hb dX10_answerOf_143 rfl (lv_at hl 2 rfl) ?_
    refine tc_callp (mc_runV (As := [.int x1, .int x2]) (rest := []) E hG (c_X10_mostTold l G Y h0 x1 x2 t0 (by omega) (by omega) (by omega) (by omega)) t0 rfl kv_X10_mostTold ml_X10_190 ⟨rfl, rfl, Nat.le_of_ble_eq_true rfl, Nat.le_of_ble_eq_true rfl⟩ rfl hl.1 rfl (Nat.le_of_ble_eq_true rfl) ⟨Nat.zero_le _, Nat.zero_le _⟩ dX10_answerOf_144) (fun r21 pr21 => ?_)
    exact tc_pret E hr hlk eH eL rfl trivial dX10_answerOf_147
  · refine lv_tableIn (off := 105) (tgt := 111) hx hb dX10_answerOf_6 (by rw [k3]; decide) (by rw [k3]; decide) (by rw [k3]; rfl) (by decide) ?_
    refine lv_iload_n hx hb dX10_answerOf_111 rfl (lv_at hl 2 rfl) ?_
    refine lv_if_ne (tgt := 127) hx hb dX10_answerOf_112 (by decide) (fun c22 => ?_) (fun c22 => ?_)
    · skip
      have ic22 := tn_ne rfl kI_0 c22
      refine lv_aload_n hx hb dX10_answerOf_127 rfl (lv_at hl 0 rfl) ?_
      refine lv_iload_n hx hb dX10_answerOf_128 rfl (lv_at hl 1 rfl) ?_
      refine lv_iconst (v := 2) hx hb dX10_answerOf_129 (by decide) ?_
      refine tc_callp (mc_runV (As := [.int x1, .int 2]) (rest := []) E hG (c_X10_get l G Y h0 x1 (2 : Int32) t0 (by omega) (by omega) (by decide) (by decide)) t0 rfl kv_X10_get ml_X10_91 ⟨rfl, rfl, Nat.le_of_ble_eq_true rfl, Nat.le_of_ble_eq_true rfl⟩ rfl hl.1 rfl (Nat.le_of_ble_eq_true rfl) ⟨Nat.zero_le _, Nat.zero_le _⟩ dX10_answerOf_130) (fun r23 pr23 => ?_)
      have pr23 : mV Y (ix x1.toInt (2 : Int32).toInt) r23 := pr23
      have pr23 := mV_l pr23 kI_2
      have br23 := mV_2 pr23 (by omega)
      have k24 := kI_2
      exact tc_pret E hr hlk eH eL rfl trivial dX10_answerOf_133
    · skip
      have ic22 := tn_eq rfl kI_0 c22
      refine lv_bipush (v := 10) hx hb dX10_answerOf_115 (by decide) ?_
      refine lv_aload_n hx hb dX10_answerOf_117 rfl (lv_at hl 0 rfl) ?_
      refine lv_iload_n hx hb dX10_answerOf_118 rfl (lv_at hl 1 rfl) ?_
      refine lv_iconst (v := 2) hx hb dX10_answerOf_119 (by decide) ?_
      refine tc_callp (mc_runV (As := [.int x1, .int 2]) (rest := [.int 10]) E hG (c_X10_get l G Y h0 x1 (2 : Int32) t0 (by omega) (by omega) (by decide) (by decide)) t0 rfl kv_X10_get ml_X10_91 ⟨rfl, rfl, Nat.le_of_ble_eq_true rfl, Nat.le_of_ble_eq_true rfl⟩ rfl hl.1 rfl (Nat.le_of_ble_eq_true rfl) ⟨Nat.zero_le _, Nat.zero_le _⟩ dX10_answerOf_120) (fun r25 pr25 => ?_)
      have pr25 : mV Y (ix x1.toInt (2 : Int32).toInt) r25 := pr25
      have pr25 := mV_l pr25 kI_2
      have br25 := mV_2 pr25 (by omega)
      have k26 := kI_2
      refine lv_imul hx hb dX10_answerOf_123 ?_
      refine lv_topi (fun z27 ez27 => ?_)
      have tz27 := tn_mul ez27 kI_10 rfl (by omega) (by omega)
      refine lv_goto (tgt := 133) hx hb dX10_answerOf_124 (by decide) ?_
      exact tc_pret E hr hlk eH eL rfl trivial dX10_answerOf_133
  · refine lv_tableIn (off := 135) (tgt := 141) hx hb dX10_answerOf_6 (by rw [k3]; decide) (by rw [k3]; decide) (by rw [k3]; rfl) (by decide) ?_
    refine lv_aload_n hx hb dX10_answerOf_141 rfl (lv_at hl 0 rfl) ?_
    refine lv_iload_n hx hb dX10_answerOf_142 rfl (lv_at hl 1 rfl) ?_
    refine lv_iload_n hx hb dX10_answerOf_143 rfl (lv_at hl 2 rfl) ?_
    refine tc_callp (mc_runV (As := [.int x1, .int x2]) (rest := []) E hG (c_X10_mostTold l G Y h0 x1 x2 t0 (by omega) (by omega) (by omega) (by omega)) t0 rfl kv_X10_mostTold ml_X10_190 ⟨rfl, rfl, Nat.le_of_ble_eq_true rfl, Nat.le_of_ble_eq_true rfl⟩ rfl hl.1 rfl (Nat.le_of_ble_eq_true rfl) ⟨Nat.zero_le _, Nat.zero_le _⟩ dX10_answerOf_144) (fun r28 pr28 => ?_)
    exact tc_pret E hr hlk eH eL rfl trivial dX10_answerOf_147
  · refine lv_tableIn (off := 128) (tgt := 134) hx hb dX10_answerOf_6 (by rw [k3]; decide) (by rw [k3]; decide) (by rw [k3]; rfl) (by decide) ?_
    refine lv_aload_n hx hb dX10_answerOf_134 rfl (lv_at hl 0 rfl) ?_
    refine lv_iload_n hx hb dX10_answerOf_135 rfl (lv_at hl 1 rfl) ?_
    refine lv_iload_n hx hb dX10_answerOf_136 rfl (lv_at hl 2 rfl) ?_
    refine tc_callp (mc_runV (As := [.int x1, .int x2]) (rest := []) E hG (c_X10_allTold l G Y h0 x1 x2 t0 (by omega) (by omega) (by omega) (by omega)) t0 rfl kv_X10_allTold ml_X10_193 ⟨rfl, rfl, Nat.le_of_ble_eq_true rfl, Nat.le_of_ble_eq_true rfl⟩ rfl hl.1 rfl (Nat.le_of_ble_eq_true rfl) ⟨Nat.zero_le _, Nat.zero_le _⟩ dX10_answerOf_137) (fun r29 pr29 => ?_)
    exact tc_pret E hr hlk eH eL rfl trivial dX10_answerOf_140

set_option maxHeartbeats 4000000 in
set_option maxRecDepth 100000 in
theorem c_X10_ownBase (l : Launch) (G : tG) (Y : mY) (h0 : Nat) (x1 : Int32) (t0 : Y.1 h0 = 1) (l1 : 0 ≤ x1.toInt) (u1 : x1.toInt ≤ 23) : Met l yX10_ownBase (.code yX10_ownBase cX10_ownBase 3 (some .int) :: tWS) (tRm 1 22) (va_Pc [.ref h0, .int x1] (mPre G Y)) (tQp (fun r => True)) 0 0 tNo := by
  refine mc_met (by decide) (Nat.le_of_ble_eq_true rfl) ?_
  intro p e s m below meth c E hr hlk hG ls hl
  have hl : lv_has ls 3 [(0, .ref h0), (1, .int x1)] := hl
  have hx := E.1
  have hb := E.2.1
  obtain ⟨H, eH⟩ : ∃ H, H = s.heap := ⟨_, rfl⟩
  obtain ⟨locs, eL⟩ : ∃ x : List Loc, x = [] := ⟨_, rfl⟩
  have hG : mGH G Y s H locs := by rw [eH, eL]; exact hG
  suffices hW : W p l e (tRm 1 22) s m ([.ref h0, .int x1] : List Value).toArray below meth c H locs 0 0 (MQ below (tQp (fun r => True)) ([.ref h0, .int x1] : List Value).toArray s 0 0 tNo) (F0 m 0 ls []) by subst eH; subst eL; exact hW
  refine lv_aload_n hx hb dX10_ownBase_0 rfl (lv_at hl 0 rfl) ?_
  refine lv_iload_n hx hb dX10_ownBase_1 rfl (lv_at hl 1 rfl) ?_
  refine lv_iconst (v := 1) hx hb dX10_ownBase_2 (by decide) ?_
  refine tc_callp (mc_runV (As := [.int x1, .int 1]) (rest := []) E hG (c_X10_get l G Y h0 x1 (1 : Int32) t0 (by omega) (by omega) (by decide) (by decide)) t0 rfl kv_X10_get ml_X10_91 ⟨rfl, rfl, Nat.le_of_ble_eq_true rfl, Nat.le_of_ble_eq_true rfl⟩ rfl hl.1 rfl (Nat.le_of_ble_eq_true rfl) ⟨Nat.zero_le _, Nat.zero_le _⟩ dX10_ownBase_3) (fun r1 pr1 => ?_)
  have pr1 : mV Y (ix x1.toInt (1 : Int32).toInt) r1 := pr1
  have pr1 := mV_l pr1 kI_1
  have br1 := mV_1 pr1 (by omega)
  have k2 := kI_1
  refine lv_istore_n (lv' := [(2, .int r1), (0, .ref h0), (1, .int x1)]) hx hb dX10_ownBase_6 rfl hl (by decide) rfl (fun ls hl => ?_)
  refine lv_aload_n hx hb dX10_ownBase_7 rfl (lv_at hl 1 rfl) ?_
  refine lv_iload_n hx hb dX10_ownBase_8 rfl (lv_at hl 2 rfl) ?_
  refine lv_bipush (v := 25) hx hb dX10_ownBase_9 (by decide) ?_
  refine tc_callp (mc_runV (As := [.int x1, .int 25]) (rest := []) E hG (c_X10_get l G Y h0 x1 (25 : Int32) t0 (by omega) (by omega) (by decide) (by decide)) t0 rfl kv_X10_get ml_X10_91 ⟨rfl, rfl, Nat.le_of_ble_eq_true rfl, Nat.le_of_ble_eq_true rfl⟩ rfl hl.1 rfl (Nat.le_of_ble_eq_true rfl) ⟨Nat.zero_le _, Nat.zero_le _⟩ dX10_ownBase_11) (fun r3 pr3 => ?_)
  have pr3 : mV Y (ix x1.toInt (25 : Int32).toInt) r3 := pr3
  have pr3 := mV_l pr3 kI_25
  have br3 := mV_25 pr3 (by omega)
  have k4 := kI_25
  refine lv_if_eq (tgt := 32) hx hb dX10_ownBase_14 (by decide) (fun c5 => ?_) (fun c5 => ?_)
  · skip
    have ic5 := tn_eq rfl kI_0 c5
    refine lv_bipush (v := -5) hx hb dX10_ownBase_32 (by decide) ?_
    exact tc_pret E hr hlk eH eL rfl trivial dX10_ownBase_34
  · skip
    have ic5 := tn_ne rfl kI_0 c5
    refine lv_iload_n hx hb dX10_ownBase_17 rfl (lv_at hl 0 rfl) ?_
    refine lv_if_eq (tgt := 32) hx hb dX10_ownBase_18 (by decide) (fun c6 => ?_) (fun c6 => ?_)
    · skip
      have ic6 := tn_eq rfl kI_0 c6
      refine lv_bipush (v := -5) hx hb dX10_ownBase_32 (by decide) ?_
      exact tc_pret E hr hlk eH eL rfl trivial dX10_ownBase_34
    · skip
      have ic6 := tn_ne rfl kI_0 c6
      refine lv_aload_n hx hb dX10_ownBase_21 rfl (lv_at hl 1 rfl) ?_
      refine lv_iload_n hx hb dX10_ownBase_22 rfl (lv_at hl 2 rfl) ?_
      refine lv_bipush (v := 36) hx hb dX10_ownBase_23 (by decide) ?_
      refine tc_callp (mc_runV (As := [.int x1, .int 36]) (rest := []) E hG (c_X10_get l G Y h0 x1 (36 : Int32) t0 (by omega) (by omega) (by decide) (by decide)) t0 rfl kv_X10_get ml_X10_91 ⟨rfl, rfl, Nat.le_of_ble_eq_true rfl, Nat.le_of_ble_eq_true rfl⟩ rfl hl.1 rfl (Nat.le_of_ble_eq_true rfl) ⟨Nat.zero_le _, Nat.zero_le _⟩ dX10_ownBase_25) (fun r7 pr7 => ?_)
      have pr7 : mV Y (ix x1.toInt (36 : Int32).toInt) r7 := pr7
      have pr7 := mV_l pr7 kI_36
      have br7 := mV_36 pr7 (by omega)
      have k8 := kI_36
      refine lv_iconst (v := 2) hx hb dX10_ownBase_28 (by decide) ?_
      refine lv_icmp_ne (tgt := 35) hx hb dX10_ownBase_29 (by decide) (fun c9 => ?_) (fun c9 => ?_)
      · skip
        have ic9 := tn_ne rfl kI_2 c9
        refine lv_aload_n hx hb dX10_ownBase_35 rfl (lv_at hl 1 rfl) ?_
        refine lv_iload_n hx hb dX10_ownBase_36 rfl (lv_at hl 2 rfl) ?_
        refine lv_bipush (v := 36) hx hb dX10_ownBase_37 (by decide) ?_
        refine tc_callp (mc_runV (As := [.int x1, .int 36]) (rest := []) E hG (c_X10_get l G Y h0 x1 (36 : Int32) t0 (by omega) (by omega) (by decide) (by decide)) t0 rfl kv_X10_get ml_X10_91 ⟨rfl, rfl, Nat.le_of_ble_eq_true rfl, Nat.le_of_ble_eq_true rfl⟩ rfl hl.1 rfl (Nat.le_of_ble_eq_true rfl) ⟨Nat.zero_le _, Nat.zero_le _⟩ dX10_ownBase_39) (fun r10 pr10 => ?_)
        have pr10 : mV Y (ix x1.toInt (36 : Int32).toInt) r10 := pr10
        have pr10 := mV_l pr10 kI_36
        have br10 := mV_36 pr10 (by omega)
        have k11 := kI_36
        refine lv_iconst (v := 1) hx hb dX10_ownBase_42 (by decide) ?_
        refine lv_icmp_ne (tgt := 56) hx hb dX10_ownBase_43 (by decide) (fun c12 => ?_) (fun c12 => ?_)
        · skip
          have ic12 := tn_ne rfl kI_1 c12
          refine lv_bipush (v := -6) hx hb dX10_ownBase_56 (by decide) ?_
          exact tc_pret E hr hlk eH eL rfl trivial dX10_ownBase_58
        · skip
          have ic12 := tn_eq rfl kI_1 c12
          refine lv_aload_n hx hb dX10_ownBase_46 rfl (lv_at hl 1 rfl) ?_
          refine lv_iload_n hx hb dX10_ownBase_47 rfl (lv_at hl 2 rfl) ?_
          refine lv_bipush (v := 37) hx hb dX10_ownBase_48 (by decide) ?_
          refine tc_callp (mc_runV (As := [.int x1, .int 37]) (rest := []) E hG (c_X10_get l G Y h0 x1 (37 : Int32) t0 (by omega) (by omega) (by decide) (by decide)) t0 rfl kv_X10_get ml_X10_91 ⟨rfl, rfl, Nat.le_of_ble_eq_true rfl, Nat.le_of_ble_eq_true rfl⟩ rfl hl.1 rfl (Nat.le_of_ble_eq_true rfl) ⟨Nat.zero_le _, Nat.zero_le _⟩ dX10_ownBase_50) (fun r13 pr13 => ?_)
          have pr13 : mV Y (ix x1.toInt (37 : Int32).toInt) r13 := pr13
          have pr13 := mV_l pr13 kI_37
          have k14 := kI_37
          refine lv_goto (tgt := 58) hx hb dX10_ownBase_53 (by decide) ?_
          exact tc_pret E hr hlk eH eL rfl trivial dX10_ownBase_58
      · skip
        have ic9 := tn_eq rfl kI_2 c9
        refine lv_bipush (v := -5) hx hb dX10_ownBase_32 (by decide) ?_
        exact tc_pret E hr hlk eH eL rfl trivial dX10_ownBase_34

set_option maxHeartbeats 4000000 in
set_option maxRecDepth 100000 in
theorem c_X10_less (l : Launch) (G : tG) (Y : mY) (x0 : Int32) (x1 : Int32) (l0 : 0 ≤ x0.toInt) (u0 : x0.toInt ≤ 1000) (l1 : 0 ≤ x1.toInt) (u1 : x1.toInt ≤ 2000) : Met l yX10_less (.code yX10_less cX10_less 2 (some .int) :: tWS) (tRm 0 0) (va_Pc [.int x0, .int x1] (mPre G Y)) (tQp (fun r => 0 ≤ r.toInt ∧ r.toInt ≤ 1000)) 0 0 tNo := by
  refine mc_met (by decide) (Nat.le_of_ble_eq_true rfl) ?_
  intro p e s m below meth c E hr hlk hG ls hl
  have hl : lv_has ls 2 [(0, .int x0), (1, .int x1)] := hl
  have hx := E.1
  have hb := E.2.1
  obtain ⟨H, eH⟩ : ∃ H, H = s.heap := ⟨_, rfl⟩
  obtain ⟨locs, eL⟩ : ∃ x : List Loc, x = [] := ⟨_, rfl⟩
  have hG : mGH G Y s H locs := by rw [eH, eL]; exact hG
  suffices hW : W p l e (tRm 0 0) s m ([.int x0, .int x1] : List Value).toArray below meth c H locs 0 0 (MQ below (tQp (fun r => 0 ≤ r.toInt ∧ r.toInt ≤ 1000)) ([.int x0, .int x1] : List Value).toArray s 0 0 tNo) (F0 m 0 ls []) by subst eH; subst eL; exact hW
  refine lv_iload_n hx hb dX10_less_0 rfl (lv_at hl 0 rfl) ?_
  refine lv_sipush (v := 1000) hx hb dX10_less_1 (by decide) ?_
  refine lv_icmp_ne (tgt := 13) hx hb dX10_less_4 (by decide) (fun c1 => ?_) (fun c1 => ?_)
  · skip
    have ic1 := tn_ne rfl kI_1000 c1
    refine lv_iload_n hx hb dX10_less_13 rfl (lv_at hl 0 rfl) ?_
    refine lv_iload_n hx hb dX10_less_14 rfl (lv_at hl 1 rfl) ?_
    refine lv_icmp_ge (tgt := 22) hx hb dX10_less_15 (by decide) (fun c2 => ?_) (fun c2 => ?_)
    · skip
      have ic2 := tn_le rfl rfl c2
      refine lv_iload_n hx hb dX10_less_22 rfl (lv_at hl 0 rfl) ?_
      refine lv_iload_n hx hb dX10_less_23 rfl (lv_at hl 1 rfl) ?_
      refine lv_isub hx hb dX10_less_24 ?_
      refine lv_topi (fun z3 ez3 => ?_)
      have tz3 := tn_sub ez3 rfl rfl (by omega) (by omega)
      exact tc_pret E hr hlk eH eL rfl (show 0 ≤ z3.toInt ∧ z3.toInt ≤ 1000 by omega) dX10_less_25
    · skip
      have ic2 := tn_nle rfl rfl c2
      refine lv_iconst (v := 0) hx hb dX10_less_18 (by decide) ?_
      refine lv_goto (tgt := 25) hx hb dX10_less_19 (by decide) ?_
      exact tc_pret E hr hlk eH eL rfl (show 0 ≤ (0 : Int32).toInt ∧ (0 : Int32).toInt ≤ 1000 by have kk := kI_0; omega) dX10_less_25
  · skip
    have ic1 := tn_eq rfl kI_1000 c1
    refine lv_sipush (v := 1000) hx hb dX10_less_7 (by decide) ?_
    refine lv_goto (tgt := 25) hx hb dX10_less_10 (by decide) ?_
    exact tc_pret E hr hlk eH eL rfl (show 0 ≤ (1000 : Int32).toInt ∧ (1000 : Int32).toInt ≤ 1000 by have kk := kI_1000; omega) dX10_less_25

set_option maxHeartbeats 4000000 in
set_option maxRecDepth 100000 in
theorem c_X10_low (l : Launch) (G : tG) (Y : mY) (h0 : Nat) (x1 : Int32) (x2 : Int32) (t0 : Y.1 h0 = 1) (l1 : 0 ≤ x1.toInt) (u1 : x1.toInt ≤ 23) (l2 : 0 ≤ x2.toInt) (u2 : x2.toInt ≤ 1) : Met l yX10_low (.code yX10_low cX10_low 3 (some .int) :: tWS) (tRm 1 22) (va_Pc [.ref h0, .int x1, .int x2] (mPre G Y)) (tQp (fun r => 0 ≤ r.toInt ∧ r.toInt ≤ 1000)) 0 0 tNo := by
  refine mc_met (by decide) (Nat.le_of_ble_eq_true rfl) ?_
  intro p e s m below meth c E hr hlk hG ls hl
  have hl : lv_has ls 3 [(0, .ref h0), (1, .int x1), (2, .int x2)] := hl
  have hx := E.1
  have hb := E.2.1
  obtain ⟨H, eH⟩ : ∃ H, H = s.heap := ⟨_, rfl⟩
  obtain ⟨locs, eL⟩ : ∃ x : List Loc, x = [] := ⟨_, rfl⟩
  have hG : mGH G Y s H locs := by rw [eH, eL]; exact hG
  suffices hW : W p l e (tRm 1 22) s m ([.ref h0, .int x1, .int x2] : List Value).toArray below meth c H locs 0 0 (MQ below (tQp (fun r => 0 ≤ r.toInt ∧ r.toInt ≤ 1000)) ([.ref h0, .int x1, .int x2] : List Value).toArray s 0 0 tNo) (F0 m 0 ls []) by subst eH; subst eL; exact hW
  refine lv_aload_n hx hb dX10_low_0 rfl (lv_at hl 0 rfl) ?_
  refine lv_iload_n hx hb dX10_low_1 rfl (lv_at hl 1 rfl) ?_
  refine lv_bipush (v := 26) hx hb dX10_low_2 (by decide) ?_
  refine lv_iconst (v := 2) hx hb dX10_low_4 (by decide) ?_
  refine lv_iload_n hx hb dX10_low_5 rfl (lv_at hl 2 rfl) ?_
  refine lv_imul hx hb dX10_low_6 ?_
  refine lv_topi (fun z1 ez1 => ?_)
  have tz1 := tn_mul ez1 kI_2 rfl (by omega) (by omega)
  refine lv_iadd hx hb dX10_low_7 ?_
  refine lv_topi (fun z2 ez2 => ?_)
  have tz2 := tn_add ez2 kI_26 rfl (by omega) (by omega)
  refine tc_callp (mc_runV (As := [.int x1, .int z2]) (rest := []) E hG (c_X10_get l G Y h0 x1 z2 t0 (by omega) (by omega) (by omega) (by omega)) t0 rfl kv_X10_get ml_X10_91 ⟨rfl, rfl, Nat.le_of_ble_eq_true rfl, Nat.le_of_ble_eq_true rfl⟩ rfl hl.1 rfl (Nat.le_of_ble_eq_true rfl) ⟨Nat.zero_le _, Nat.zero_le _⟩ dX10_low_8) (fun r3 pr3 => ?_)
  have pr3 : mV Y (ix x1.toInt z2.toInt) r3 := pr3
  have br3 := mV_r 26 28 (0) (1000) pr3 (by omega) (by omega) (by omega) (by decide) (by decide)
  exact tc_pret E hr hlk eH eL rfl (show 0 ≤ r3.toInt ∧ r3.toInt ≤ 1000 by omega) dX10_low_11

set_option maxHeartbeats 4000000 in
set_option maxRecDepth 100000 in
theorem c_X10_most (l : Launch) (G : tG) (Y : mY) (h0 : Nat) (x1 : Int32) (x2 : Int32) (t0 : Y.1 h0 = 1) (l1 : 0 ≤ x1.toInt) (u1 : x1.toInt ≤ 23) (l2 : 0 ≤ x2.toInt) (u2 : x2.toInt ≤ 1) : Met l yX10_most (.code yX10_most cX10_most 3 (some .int) :: tWS) (tRm 1 22) (va_Pc [.ref h0, .int x1, .int x2] (mPre G Y)) (tQp (fun r => 0 ≤ r.toInt ∧ r.toInt ≤ 1000)) 0 0 tNo := by
  refine mc_met (by decide) (Nat.le_of_ble_eq_true rfl) ?_
  intro p e s m below meth c E hr hlk hG ls hl
  have hl : lv_has ls 3 [(0, .ref h0), (1, .int x1), (2, .int x2)] := hl
  have hx := E.1
  have hb := E.2.1
  obtain ⟨H, eH⟩ : ∃ H, H = s.heap := ⟨_, rfl⟩
  obtain ⟨locs, eL⟩ : ∃ x : List Loc, x = [] := ⟨_, rfl⟩
  have hG : mGH G Y s H locs := by rw [eH, eL]; exact hG
  suffices hW : W p l e (tRm 1 22) s m ([.ref h0, .int x1, .int x2] : List Value).toArray below meth c H locs 0 0 (MQ below (tQp (fun r => 0 ≤ r.toInt ∧ r.toInt ≤ 1000)) ([.ref h0, .int x1, .int x2] : List Value).toArray s 0 0 tNo) (F0 m 0 ls []) by subst eH; subst eL; exact hW
  refine lv_aload_n hx hb dX10_most_0 rfl (lv_at hl 0 rfl) ?_
  refine lv_iload_n hx hb dX10_most_1 rfl (lv_at hl 1 rfl) ?_
  refine lv_bipush (v := 26) hx hb dX10_most_2 (by decide) ?_
  refine lv_iconst (v := 2) hx hb dX10_most_4 (by decide) ?_
  refine lv_iload_n hx hb dX10_most_5 rfl (lv_at hl 2 rfl) ?_
  refine lv_imul hx hb dX10_most_6 ?_
  refine lv_topi (fun z1 ez1 => ?_)
  have tz1 := tn_mul ez1 kI_2 rfl (by omega) (by omega)
  refine lv_iadd hx hb dX10_most_7 ?_
  refine lv_topi (fun z2 ez2 => ?_)
  have tz2 := tn_add ez2 kI_26 rfl (by omega) (by omega)
  refine lv_iconst (v := 1) hx hb dX10_most_8 (by decide) ?_
  refine lv_iadd hx hb dX10_most_9 ?_
  refine lv_topi (fun z3 ez3 => ?_)
  have tz3 := tn_add ez3 rfl kI_1 (by omega) (by omega)
  refine tc_callp (mc_runV (As := [.int x1, .int z3]) (rest := []) E hG (c_X10_get l G Y h0 x1 z3 t0 (by omega) (by omega) (by omega) (by omega)) t0 rfl kv_X10_get ml_X10_91 ⟨rfl, rfl, Nat.le_of_ble_eq_true rfl, Nat.le_of_ble_eq_true rfl⟩ rfl hl.1 rfl (Nat.le_of_ble_eq_true rfl) ⟨Nat.zero_le _, Nat.zero_le _⟩ dX10_most_10) (fun r4 pr4 => ?_)
  have pr4 : mV Y (ix x1.toInt z3.toInt) r4 := pr4
  have br4 := mV_r 27 29 (0) (1000) pr4 (by omega) (by omega) (by omega) (by decide) (by decide)
  exact tc_pret E hr hlk eH eL rfl (show 0 ≤ r4.toInt ∧ r4.toInt ≤ 1000 by omega) dX10_most_13

set_option maxHeartbeats 4000000 in
set_option maxRecDepth 100000 in
theorem c_X10_sizeOf (l : Launch) (G : tG) (Y : mY) (h0 : Nat) (x1 : Int32) (x2 : Int32) (t0 : Y.1 h0 = 1) (l1 : 0 ≤ x1.toInt) (u1 : x1.toInt ≤ 23) (l2 : 0 ≤ x2.toInt) (u2 : x2.toInt ≤ 1) : Met l yX10_sizeOf (.code yX10_sizeOf cX10_sizeOf 3 (some .int) :: tWS) (tRm 1 22) (va_Pc [.ref h0, .int x1, .int x2] (mPre G Y)) (tQp (fun r => 0 ≤ r.toInt ∧ r.toInt ≤ 1000)) 0 0 tNo := by
  refine mc_met (by decide) (Nat.le_of_ble_eq_true rfl) ?_
  intro p e s m below meth c E hr hlk hG ls hl
  have hl : lv_has ls 3 [(0, .ref h0), (1, .int x1), (2, .int x2)] := hl
  have hx := E.1
  have hb := E.2.1
  obtain ⟨H, eH⟩ : ∃ H, H = s.heap := ⟨_, rfl⟩
  obtain ⟨locs, eL⟩ : ∃ x : List Loc, x = [] := ⟨_, rfl⟩
  have hG : mGH G Y s H locs := by rw [eH, eL]; exact hG
  suffices hW : W p l e (tRm 1 22) s m ([.ref h0, .int x1, .int x2] : List Value).toArray below meth c H locs 0 0 (MQ below (tQp (fun r => 0 ≤ r.toInt ∧ r.toInt ≤ 1000)) ([.ref h0, .int x1, .int x2] : List Value).toArray s 0 0 tNo) (F0 m 0 ls []) by subst eH; subst eL; exact hW
  refine lv_aload_n hx hb dX10_sizeOf_0 rfl (lv_at hl 0 rfl) ?_
  refine lv_iload_n hx hb dX10_sizeOf_1 rfl (lv_at hl 1 rfl) ?_
  refine lv_bipush (v := 32) hx hb dX10_sizeOf_2 (by decide) ?_
  refine lv_iload_n hx hb dX10_sizeOf_4 rfl (lv_at hl 2 rfl) ?_
  refine lv_iadd hx hb dX10_sizeOf_5 ?_
  refine lv_topi (fun z1 ez1 => ?_)
  have tz1 := tn_add ez1 kI_32 rfl (by omega) (by omega)
  refine tc_callp (mc_runV (As := [.int x1, .int z1]) (rest := []) E hG (c_X10_get l G Y h0 x1 z1 t0 (by omega) (by omega) (by omega) (by omega)) t0 rfl kv_X10_get ml_X10_91 ⟨rfl, rfl, Nat.le_of_ble_eq_true rfl, Nat.le_of_ble_eq_true rfl⟩ rfl hl.1 rfl (Nat.le_of_ble_eq_true rfl) ⟨Nat.zero_le _, Nat.zero_le _⟩ dX10_sizeOf_6) (fun r2 pr2 => ?_)
  have pr2 : mV Y (ix x1.toInt z1.toInt) r2 := pr2
  have br2 := mV_r 32 33 (0) (1000) pr2 (by omega) (by omega) (by omega) (by decide) (by decide)
  exact tc_pret E hr hlk eH eL rfl (show 0 ≤ r2.toInt ∧ r2.toInt ≤ 1000 by omega) dX10_sizeOf_9

set_option maxHeartbeats 4000000 in
set_option maxRecDepth 100000 in
theorem c_X10_limited (l : Launch) (G : tG) (Y : mY) (h0 : Nat) (x1 : Int32) (x2 : Int32) (x3 : Int32) (t0 : Y.1 h0 = 1) (l1 : 0 ≤ x1.toInt) (u1 : x1.toInt ≤ 23) (l2 : 0 ≤ x2.toInt) (u2 : x2.toInt ≤ 3) (l3 : 0 ≤ x3.toInt) (u3 : x3.toInt ≤ 1) : Met l yX10_limited (.code yX10_limited cX10_limited 5 (some .int) :: tWS) (tRm 2 44) (va_Pc [.ref h0, .int x1, .int x2, .int x3] (mPre G Y)) (tQp (fun r => 0 ≤ r.toInt ∧ r.toInt ≤ 1000)) 0 0 tNo := by
  refine mc_met (by decide) (Nat.le_of_ble_eq_true rfl) ?_
  intro p e s m below meth c E hr hlk hG ls hl
  have hl : lv_has ls 5 [(0, .ref h0), (1, .int x1), (2, .int x2), (3, .int x3)] := hl
  have hx := E.1
  have hb := E.2.1
  obtain ⟨H, eH⟩ : ∃ H, H = s.heap := ⟨_, rfl⟩
  obtain ⟨locs, eL⟩ : ∃ x : List Loc, x = [] := ⟨_, rfl⟩
  have hG : mGH G Y s H locs := by rw [eH, eL]; exact hG
  suffices hW : W p l e (tRm 2 44) s m ([.ref h0, .int x1, .int x2, .int x3] : List Value).toArray below meth c H locs 0 0 (MQ below (tQp (fun r => 0 ≤ r.toInt ∧ r.toInt ≤ 1000)) ([.ref h0, .int x1, .int x2, .int x3] : List Value).toArray s 0 0 tNo) (F0 m 0 ls []) by subst eH; subst eL; exact hW
  have J27 : ∀ (ls : Array Slot) (vs0 : Int32), lv_has ls 5 [(0, .ref h0), (1, .int x1), (3, .int x3)] → 0 ≤ vs0.toInt → vs0.toInt ≤ 1000 → W p l e (tRm 2 44) s m ([.ref h0, .int x1, .int x2, .int x3] : List Value).toArray below meth c H locs 0 0 (MQ below (tQp (fun r => 0 ≤ r.toInt ∧ r.toInt ≤ 1000)) ([.ref h0, .int x1, .int x2, .int x3] : List Value).toArray s 0 0 tNo) (F0 m 27 ls [.int vs0]) := by
    intro ls vs0 hl bs0 cs0
    refine lv_aload_n hx hb dX10_limited_27 rfl (lv_at hl 0 rfl) ?_
    refine lv_iload_n hx hb dX10_limited_28 rfl (lv_at hl 1 rfl) ?_
    refine lv_iload_n hx hb dX10_limited_29 rfl (lv_at hl 2 rfl) ?_
    refine tc_callp (mc_runV (As := [.int x1, .int x3]) (rest := [.int vs0]) E hG (c_X10_low l G Y h0 x1 x3 t0 (by omega) (by omega) (by omega) (by omega)) t0 rfl kv_X10_low ml_X10_224 ⟨rfl, rfl, Nat.le_of_ble_eq_true rfl, Nat.le_of_ble_eq_true rfl⟩ rfl hl.1 rfl (Nat.le_of_ble_eq_true rfl) ⟨Nat.zero_le _, Nat.zero_le _⟩ dX10_limited_30) (fun r1 pr1 => ?_)
    have pr1 : 0 ≤ r1.toInt ∧ r1.toInt ≤ 1000 := pr1
    refine lv_aload_n hx hb dX10_limited_33 rfl (lv_at hl 0 rfl) ?_
    refine lv_iload_n hx hb dX10_limited_34 rfl (lv_at hl 1 rfl) ?_
    refine lv_iload_n hx hb dX10_limited_35 rfl (lv_at hl 2 rfl) ?_
    refine tc_callp (mc_runV (As := [.int x1, .int x3]) (rest := [.int r1, .int vs0]) E hG (c_X10_most l G Y h0 x1 x3 t0 (by omega) (by omega) (by omega) (by omega)) t0 rfl kv_X10_most ml_X10_227 ⟨rfl, rfl, Nat.le_of_ble_eq_true rfl, Nat.le_of_ble_eq_true rfl⟩ rfl hl.1 rfl (Nat.le_of_ble_eq_true rfl) ⟨Nat.zero_le _, Nat.zero_le _⟩ dX10_limited_36) (fun r2 pr2 => ?_)
    have pr2 : 0 ≤ r2.toInt ∧ r2.toInt ≤ 1000 := pr2
    refine tc_callp (mc_runS (As := [.int vs0, .int r1, .int r2]) (rest := []) E hG (c_X10_held l G Y vs0 r1 r2) ks_X10_held ml_X10_184 ⟨rfl, rfl, Nat.le_of_ble_eq_true rfl, Nat.le_of_ble_eq_true rfl⟩ rfl hl.1 rfl (Nat.le_of_ble_eq_true rfl) ⟨Nat.zero_le _, Nat.zero_le _⟩ dX10_limited_39) (fun r3 pr3 => ?_)
    have pr3 : (r3 = vs0 ∧ r1.toInt ≤ vs0.toInt ∧ vs0.toInt ≤ r2.toInt) ∨ (r3 = r1 ∧ vs0.toInt < r1.toInt) ∨ (r3 = r2 ∧ r2.toInt < vs0.toInt) := pr3
    have br3 : 0 ≤ r3.toInt ∧ r3.toInt ≤ 1000 := by rcases pr3 with ⟨w, _⟩ | ⟨w, _⟩ | ⟨w, _⟩ <;> rw [w] <;> omega
    exact tc_pret E hr hlk eH eL rfl (show 0 ≤ r3.toInt ∧ r3.toInt ≤ 1000 by omega) dX10_limited_42
  refine lv_aload_n hx hb dX10_limited_0 rfl (lv_at hl 0 rfl) ?_
  refine lv_iload_n hx hb dX10_limited_1 rfl (lv_at hl 1 rfl) ?_
  refine lv_iconst (v := 2) hx hb dX10_limited_2 (by decide) ?_
  refine lv_iload_n hx hb dX10_limited_3 rfl (lv_at hl 2 rfl) ?_
  refine lv_iadd hx hb dX10_limited_4 ?_
  refine lv_topi (fun z4 ez4 => ?_)
  have tz4 := tn_add ez4 kI_2 rfl (by omega) (by omega)
  refine tc_callp (mc_runV (As := [.int x1, .int z4]) (rest := []) E hG (c_X10_get l G Y h0 x1 z4 t0 (by omega) (by omega) (by omega) (by omega)) t0 rfl kv_X10_get ml_X10_91 ⟨rfl, rfl, Nat.le_of_ble_eq_true rfl, Nat.le_of_ble_eq_true rfl⟩ rfl hl.1 rfl (Nat.le_of_ble_eq_true rfl) ⟨Nat.zero_le _, Nat.zero_le _⟩ dX10_limited_5) (fun r5 pr5 => ?_)
  have pr5 : mV Y (ix x1.toInt z4.toInt) r5 := pr5
  have br5 := mV_r 2 5 (0) (99) pr5 (by omega) (by omega) (by omega) (by decide) (by decide)
  refine lv_istore (lv' := [(4, .int r5), (0, .ref h0), (1, .int x1), (2, .int x2), (3, .int x3)]) hx hb dX10_limited_8 hl (by decide) rfl (fun ls hl => ?_)
  refine lv_iload_n hx hb dX10_limited_10 rfl (lv_at hl 3 rfl) ?_
  refine lv_iconst (v := 2) hx hb dX10_limited_11 (by decide) ?_
  refine lv_irem hx hb dX10_limited_12 (by decide) ?_
  refine lv_topi (fun z6 ez6 => ?_)
  have tz6 := tn_rem ez6 kI_2 (by omega) (by decide)
  refine lv_iconst (v := 1) hx hb dX10_limited_13 (by decide) ?_
  refine lv_icmp_ne (tgt := 25) hx hb dX10_limited_14 (by decide) (fun c7 => ?_) (fun c7 => ?_)
  · skip
    have ic7 := tn_ne rfl kI_1 c7
    refine lv_iload hx hb dX10_limited_25 (lv_at hl 0 rfl) ?_
    exact J27 ls r5 (lv_sub hl [1, 2, 4] rfl) (by omega) (by omega)
  · skip
    have ic7 := tn_eq rfl kI_1 c7
    refine lv_iload hx hb dX10_limited_17 (lv_at hl 0 rfl) ?_
    refine tc_callp (mc_runS (As := [.int r5]) (rest := []) E hG (c_X10_ended l G Y r5 (by omega) (by omega)) ks_X10_ended ml_X10_181 ⟨rfl, rfl, Nat.le_of_ble_eq_true rfl, Nat.le_of_ble_eq_true rfl⟩ rfl hl.1 rfl (Nat.le_of_ble_eq_true rfl) ⟨Nat.zero_le _, Nat.zero_le _⟩ dX10_limited_19) (fun r8 pr8 => ?_)
    have pr8 : (0 ≤ r8.toInt ∧ r8.toInt ≤ 1000) := pr8
    refine lv_goto (tgt := 27) hx hb dX10_limited_22 (by decide) ?_
    exact J27 ls r8 (lv_sub hl [1, 2, 4] rfl) (by omega) (by omega)

set_option maxHeartbeats 4000000 in
set_option maxRecDepth 100000 in
theorem c_X10_beside (l : Launch) (G : tG) (Y : mY) (x0 : Int32) (x1 : Int32)  : Met l yX10_beside (.code yX10_beside cX10_beside 2 (some .int) :: tWS) (tRm 0 0) (va_Pc [.int x0, .int x1] (mPre G Y)) (tQp (fun r => True)) 0 0 tNo := by
  refine mc_met (by decide) (Nat.le_of_ble_eq_true rfl) ?_
  intro p e s m below meth c E hr hlk hG ls hl
  have hl : lv_has ls 2 [(0, .int x0), (1, .int x1)] := hl
  have hx := E.1
  have hb := E.2.1
  obtain ⟨H, eH⟩ : ∃ H, H = s.heap := ⟨_, rfl⟩
  obtain ⟨locs, eL⟩ : ∃ x : List Loc, x = [] := ⟨_, rfl⟩
  have hG : mGH G Y s H locs := by rw [eH, eL]; exact hG
  suffices hW : W p l e (tRm 0 0) s m ([.int x0, .int x1] : List Value).toArray below meth c H locs 0 0 (MQ below (tQp (fun r => True)) ([.int x0, .int x1] : List Value).toArray s 0 0 tNo) (F0 m 0 ls []) by subst eH; subst eL; exact hW
  refine lv_iload_n hx hb dX10_beside_0 rfl (lv_at hl 0 rfl) ?_
  refine lv_iconst (v := 1) hx hb dX10_beside_1 (by decide) ?_
  refine lv_icmp_ne (tgt := 11) hx hb dX10_beside_2 (by decide) (fun c1 => ?_) (fun c1 => ?_)
  · skip
    have ic1 := tn_ne rfl kI_1 c1
    refine lv_iload_n hx hb dX10_beside_11 rfl (lv_at hl 0 rfl) ?_
    refine lv_iconst (v := 2) hx hb dX10_beside_12 (by decide) ?_
    refine lv_icmp_ne (tgt := 20) hx hb dX10_beside_13 (by decide) (fun c2 => ?_) (fun c2 => ?_)
    · skip
      have ic2 := tn_ne rfl kI_2 c2
      refine lv_iconst (v := 0) hx hb dX10_beside_20 (by decide) ?_
      exact tc_pret E hr hlk eH eL rfl trivial dX10_beside_21
    · skip
      have ic2 := tn_eq rfl kI_2 c2
      refine lv_iload_n hx hb dX10_beside_16 rfl (lv_at hl 1 rfl) ?_
      refine lv_goto (tgt := 21) hx hb dX10_beside_17 (by decide) ?_
      exact tc_pret E hr hlk eH eL rfl trivial dX10_beside_21
  · skip
    have ic1 := tn_eq rfl kI_1 c1
    refine lv_iload_n hx hb dX10_beside_5 rfl (lv_at hl 1 rfl) ?_
    refine lv_iconst (v := 2) hx hb dX10_beside_6 (by decide) ?_
    refine lv_idiv hx hb dX10_beside_7 (by decide) ?_
    refine lv_topi (fun z3 ez3 => ?_)
    refine lv_goto (tgt := 21) hx hb dX10_beside_8 (by decide) ?_
    exact tc_pret E hr hlk eH eL rfl trivial dX10_beside_21

set_option maxHeartbeats 4000000 in
set_option maxRecDepth 100000 in
theorem c_X10_alongOf (l : Launch) (G : tG) (Y : mY) (x0 : Int32)  : Met l yX10_alongOf (.code yX10_alongOf cX10_alongOf 1 (some .int) :: tWS) (tRm 0 0) (va_Pc [.int x0] (mPre G Y)) (tQp (fun r => 0 ≤ r.toInt ∧ r.toInt ≤ 1)) 0 0 tNo := by
  refine mc_met (by decide) (Nat.le_of_ble_eq_true rfl) ?_
  intro p e s m below meth c E hr hlk hG ls hl
  have hl : lv_has ls 1 [(0, .int x0)] := hl
  have hx := E.1
  have hb := E.2.1
  obtain ⟨H, eH⟩ : ∃ H, H = s.heap := ⟨_, rfl⟩
  obtain ⟨locs, eL⟩ : ∃ x : List Loc, x = [] := ⟨_, rfl⟩
  have hG : mGH G Y s H locs := by rw [eH, eL]; exact hG
  suffices hW : W p l e (tRm 0 0) s m ([.int x0] : List Value).toArray below meth c H locs 0 0 (MQ below (tQp (fun r => 0 ≤ r.toInt ∧ r.toInt ≤ 1)) ([.int x0] : List Value).toArray s 0 0 tNo) (F0 m 0 ls []) by subst eH; subst eL; exact hW
  refine lv_iload_n hx hb dX10_alongOf_0 rfl (lv_at hl 0 rfl) ?_
  refine lv_bipush (v := 8) hx hb dX10_alongOf_1 (by decide) ?_
  refine lv_icmp_ne (tgt := 10) hx hb dX10_alongOf_3 (by decide) (fun c1 => ?_) (fun c1 => ?_)
  · skip
    have ic1 := tn_ne rfl kI_8 c1
    refine lv_iconst (v := 1) hx hb dX10_alongOf_10 (by decide) ?_
    exact tc_pret E hr hlk eH eL rfl (show 0 ≤ (1 : Int32).toInt ∧ (1 : Int32).toInt ≤ 1 by have kk := kI_1; omega) dX10_alongOf_11
  · skip
    have ic1 := tn_eq rfl kI_8 c1
    refine lv_iconst (v := 0) hx hb dX10_alongOf_6 (by decide) ?_
    refine lv_goto (tgt := 11) hx hb dX10_alongOf_7 (by decide) ?_
    exact tc_pret E hr hlk eH eL rfl (show 0 ≤ (0 : Int32).toInt ∧ (0 : Int32).toInt ≤ 1 by have kk := kI_0; omega) dX10_alongOf_11

set_option maxHeartbeats 4000000 in
set_option maxRecDepth 100000 in
theorem c_X10_gapsOf (l : Launch) (G : tG) (Y : mY) (h0 : Nat) (x1 : Int32) (t0 : Y.1 h0 = 1) (l1 : 0 ≤ x1.toInt) (u1 : x1.toInt ≤ 23) : Met l yX10_gapsOf (.code yX10_gapsOf cX10_gapsOf 3 (some .int) :: tWS) (tRm 2 43) (va_Pc [.ref h0, .int x1] (mPre G Y)) (tQp (fun r => 0 ≤ r.toInt ∧ r.toInt ≤ 693)) 0 0 tNo := by
  refine mc_met (by decide) (Nat.le_of_ble_eq_true rfl) ?_
  intro p e s m below meth c E hr hlk hG ls hl
  have hl : lv_has ls 3 [(0, .ref h0), (1, .int x1)] := hl
  have hx := E.1
  have hb := E.2.1
  obtain ⟨H, eH⟩ : ∃ H, H = s.heap := ⟨_, rfl⟩
  obtain ⟨locs, eL⟩ : ∃ x : List Loc, x = [] := ⟨_, rfl⟩
  have hG : mGH G Y s H locs := by rw [eH, eL]; exact hG
  suffices hW : W p l e (tRm 2 43) s m ([.ref h0, .int x1] : List Value).toArray below meth c H locs 0 0 (MQ below (tQp (fun r => 0 ≤ r.toInt ∧ r.toInt ≤ 693)) ([.ref h0, .int x1] : List Value).toArray s 0 0 tNo) (F0 m 0 ls []) by subst eH; subst eL; exact hW
  refine lv_aload_n hx hb dX10_gapsOf_0 rfl (lv_at hl 0 rfl) ?_
  refine lv_iload_n hx hb dX10_gapsOf_1 rfl (lv_at hl 1 rfl) ?_
  refine tc_callp (mc_runV (As := [.int x1]) (rest := []) E hG (c_X10_manyOf l G Y h0 x1 t0 (by omega) (by omega)) t0 rfl kv_X10_manyOf ml_X10_117 ⟨rfl, rfl, Nat.le_of_ble_eq_true rfl, Nat.le_of_ble_eq_true rfl⟩ rfl hl.1 rfl (Nat.le_of_ble_eq_true rfl) ⟨Nat.zero_le _, Nat.zero_le _⟩ dX10_gapsOf_2) (fun r1 pr1 => ?_)
  have pr1 : mV Y (ix x1.toInt 10) r1 := pr1
  have br1 := mV_10 pr1 (by omega)
  refine lv_istore_n (lv' := [(2, .int r1), (0, .ref h0), (1, .int x1)]) hx hb dX10_gapsOf_5 rfl hl (by decide) rfl (fun ls hl => ?_)
  refine lv_iload_n hx hb dX10_gapsOf_6 rfl (lv_at hl 0 rfl) ?_
  refine lv_iconst (v := 1) hx hb dX10_gapsOf_7 (by decide) ?_
  refine lv_icmp_le (tgt := 24) hx hb dX10_gapsOf_8 (by decide) (fun c2 => ?_) (fun c2 => ?_)
  · skip
    have ic2 := tn_le rfl kI_1 c2
    refine lv_iconst (v := 0) hx hb dX10_gapsOf_24 (by decide) ?_
    exact tc_pret E hr hlk eH eL rfl (show 0 ≤ (0 : Int32).toInt ∧ (0 : Int32).toInt ≤ 693 by have kk := kI_0; omega) dX10_gapsOf_25
  · skip
    have ic2 := tn_nle rfl kI_1 c2
    refine lv_iload_n hx hb dX10_gapsOf_11 rfl (lv_at hl 0 rfl) ?_
    refine lv_iconst (v := 1) hx hb dX10_gapsOf_12 (by decide) ?_
    refine lv_isub hx hb dX10_gapsOf_13 ?_
    refine lv_topi (fun z3 ez3 => ?_)
    have tz3 := tn_sub ez3 rfl kI_1 (by omega) (by omega)
    refine lv_aload_n hx hb dX10_gapsOf_14 rfl (lv_at hl 1 rfl) ?_
    refine lv_iload_n hx hb dX10_gapsOf_15 rfl (lv_at hl 2 rfl) ?_
    refine lv_iconst (v := 3) hx hb dX10_gapsOf_16 (by decide) ?_
    refine tc_callp (mc_runV (As := [.int x1, .int 3]) (rest := [.int z3]) E hG (c_X10_get l G Y h0 x1 (3 : Int32) t0 (by omega) (by omega) (by decide) (by decide)) t0 rfl kv_X10_get ml_X10_91 ⟨rfl, rfl, Nat.le_of_ble_eq_true rfl, Nat.le_of_ble_eq_true rfl⟩ rfl hl.1 rfl (Nat.le_of_ble_eq_true rfl) ⟨Nat.zero_le _, Nat.zero_le _⟩ dX10_gapsOf_17) (fun r4 pr4 => ?_)
    have pr4 : mV Y (ix x1.toInt (3 : Int32).toInt) r4 := pr4
    have pr4 := mV_l pr4 kI_3
    have br4 := mV_3 pr4 (by omega)
    have k5 := kI_3
    refine lv_imul hx hb dX10_gapsOf_20 ?_
    refine lv_topi (fun z6 ez6 => ?_)
    have tz6 := tn_mulb (a := 7) (b := 99) ez6 (by omega) (by omega) (by omega) (by omega) (by decide)
    refine lv_goto (tgt := 25) hx hb dX10_gapsOf_21 (by decide) ?_
    exact tc_pret E hr hlk eH eL rfl (show 0 ≤ z6.toInt ∧ z6.toInt ≤ 693 by omega) dX10_gapsOf_25

set_option maxHeartbeats 4000000 in
set_option maxRecDepth 100000 in
theorem c_X10_belowOf (l : Launch) (G : tG) (Y : mY) (h0 : Nat) (x1 : Int32) (t0 : Y.1 h0 = 1) (l1 : 0 ≤ x1.toInt) (u1 : x1.toInt ≤ 23) : Met l yX10_belowOf (.code yX10_belowOf cX10_belowOf 5 (some .int) :: tWS) (tRm 2 44) (va_Pc [.ref h0, .int x1] (mPre G Y)) (tQp (fun r => True)) 0 0 tNo := by
  refine mc_met (by decide) (Nat.le_of_ble_eq_true rfl) ?_
  intro p e s m below meth c E hr hlk hG ls hl
  have hl : lv_has ls 5 [(0, .ref h0), (1, .int x1)] := hl
  have hx := E.1
  have hb := E.2.1
  obtain ⟨H, eH⟩ : ∃ H, H = s.heap := ⟨_, rfl⟩
  obtain ⟨locs, eL⟩ : ∃ x : List Loc, x = [] := ⟨_, rfl⟩
  have hG : mGH G Y s H locs := by rw [eH, eL]; exact hG
  suffices hW : W p l e (tRm 2 44) s m ([.ref h0, .int x1] : List Value).toArray below meth c H locs 0 0 (MQ below (tQp (fun r => True)) ([.ref h0, .int x1] : List Value).toArray s 0 0 tNo) (F0 m 0 ls []) by subst eH; subst eL; exact hW
  have J4 : ∀ (n4 : Nat) (ls : Array Slot) (v2 : Int32) (v3 : Int32), lv_has ls 5 [(0, .ref h0), (1, .int x1), (2, .int v2), (3, .int v3)] → 0 ≤ v2.toInt → 0 ≤ v3.toInt → v3.toInt ≤ 8 → (8 - v3.toInt).toNat < n4 → W p l e (tRm 2 44) s m ([.ref h0, .int x1] : List Value).toArray below meth c H locs 0 0 (MQ below (tQp (fun r => True)) ([.ref h0, .int x1] : List Value).toArray s 0 0 tNo) (F0 m 4 ls []) := by
    intro n4
    induction n4 with
    | zero => intro ls v2 v3 hl b2 b3 c3 hn4; exact absurd hn4 (Nat.not_lt_zero _)
    | succ n4 ih4 =>
      intro ls v2 v3 hl b2 b3 c3 hn4
      have J50 : ∀ (ls : Array Slot) (v3 : Int32) (vs0 : Int32), lv_has ls 5 [(0, .ref h0), (1, .int x1), (3, .int v3)] → 0 ≤ v3.toInt → v3.toInt ≤ 7 → 0 ≤ vs0.toInt → (8 - v3.toInt).toNat < n4 + 1 → W p l e (tRm 2 44) s m ([.ref h0, .int x1] : List Value).toArray below meth c H locs 0 0 (MQ below (tQp (fun r => True)) ([.ref h0, .int x1] : List Value).toArray s 0 0 tNo) (F0 m 50 ls [.int vs0]) := by
        intro ls v3 vs0 hl b3 c3 bs0 hm4
        refine lv_istore_n (lv' := [(2, .int vs0), (0, .ref h0), (1, .int x1), (3, .int v3)]) hx hb dX10_belowOf_50 rfl hl (by decide) rfl (fun ls hl => ?_)
        obtain ⟨z1, ez1⟩ : ∃ y : Int32, y = v3 + (1) := ⟨_, rfl⟩
        refine lv_iinc (v := z1) (lv' := [(3, .int z1), (2, .int vs0), (0, .ref h0), (1, .int x1)]) hx hb dX10_belowOf_51 hl (k := 3) rfl (by rw [ez1]; rfl) (by decide) rfl (fun ls hl => ?_)
        have tz1 := tn_add ez1 rfl kI_1 (by omega) (by omega)
        refine lv_goto (tgt := 4) hx hb dX10_belowOf_54 (by decide) ?_
        exact ih4 ls vs0 z1 (lv_sub hl [2, 3, 1, 0] rfl) (by omega) (by omega) (by omega) (by omega)
      refine lv_iload_n hx hb dX10_belowOf_4 rfl (lv_at hl 3 rfl) ?_
      refine lv_aload_n hx hb dX10_belowOf_5 rfl (lv_at hl 0 rfl) ?_
      refine lv_iload_n hx hb dX10_belowOf_6 rfl (lv_at hl 1 rfl) ?_
      refine tc_callp (mc_runV (As := [.int x1]) (rest := [.int v3]) E hG (c_X10_manyOf l G Y h0 x1 t0 (by omega) (by omega)) t0 rfl kv_X10_manyOf ml_X10_117 ⟨rfl, rfl, Nat.le_of_ble_eq_true rfl, Nat.le_of_ble_eq_true rfl⟩ rfl hl.1 rfl (Nat.le_of_ble_eq_true rfl) ⟨Nat.zero_le _, Nat.zero_le _⟩ dX10_belowOf_7) (fun r2 pr2 => ?_)
      have pr2 : mV Y (ix x1.toInt 10) r2 := pr2
      have br2 := mV_10 pr2 (by omega)
      refine lv_icmp_ge (tgt := 57) hx hb dX10_belowOf_10 (by decide) (fun c3 => ?_) (fun c3 => ?_)
      · skip
        have ic3 := tn_le rfl rfl c3
        refine lv_iload_n hx hb dX10_belowOf_57 rfl (lv_at hl 2 rfl) ?_
        exact tc_pret E hr hlk eH eL rfl trivial dX10_belowOf_58
      · skip
        have ic3 := tn_nle rfl rfl c3
        refine lv_aload_n hx hb dX10_belowOf_13 rfl (lv_at hl 0 rfl) ?_
        refine lv_aload_n hx hb dX10_belowOf_14 rfl (lv_at hl 0 rfl) ?_
        refine lv_iload_n hx hb dX10_belowOf_15 rfl (lv_at hl 1 rfl) ?_
        refine lv_iload_n hx hb dX10_belowOf_16 rfl (lv_at hl 3 rfl) ?_
        refine tc_callp (mc_runV (As := [.int x1, .int v3]) (rest := [.ref h0]) E hG (c_X10_childOf l G Y h0 x1 v3 t0 (by omega) (by omega) (by omega) (by omega)) t0 rfl kv_X10_childOf ml_X10_153 ⟨rfl, rfl, Nat.le_of_ble_eq_true rfl, Nat.le_of_ble_eq_true rfl⟩ rfl hl.1 rfl (Nat.le_of_ble_eq_true rfl) ⟨Nat.zero_le _, Nat.zero_le _⟩ dX10_belowOf_17) (fun r4 pr4 => ?_)
        have pr4 : mV Y (ix x1.toInt (11 + v3.toInt)) r4 := pr4
        have br4 := mV_r 11 18 0 23 pr4 (by omega) (by omega) (by omega) (by decide) (by decide)
        refine lv_iconst (v := 1) hx hb dX10_belowOf_20 (by decide) ?_
        refine tc_callp (mc_runV (As := [.int r4, .int 1]) (rest := []) E hG (c_X10_sizeOf l G Y h0 r4 (1 : Int32) t0 (by omega) (by omega) (by decide) (by decide)) t0 rfl kv_X10_sizeOf ml_X10_243 ⟨rfl, rfl, Nat.le_of_ble_eq_true rfl, Nat.le_of_ble_eq_true rfl⟩ rfl hl.1 rfl (Nat.le_of_ble_eq_true rfl) ⟨Nat.zero_le _, Nat.zero_le _⟩ dX10_belowOf_21) (fun r5 pr5 => ?_)
        have pr5 : 0 ≤ r5.toInt ∧ r5.toInt ≤ 1000 := pr5
        have k6 := kI_1
        refine lv_aload_n hx hb dX10_belowOf_24 rfl (lv_at hl 0 rfl) ?_
        refine mc_getr E hG t0 mr_51 dX10_belowOf_25 (fun oa7 hoa7 => ?_)
        refine lv_bipush (v := 8) hx hb dX10_belowOf_28 (by decide) ?_
        refine lv_iload_n hx hb dX10_belowOf_30 rfl (lv_at hl 1 rfl) ?_
        refine lv_imul hx hb dX10_belowOf_31 ?_
        refine lv_topi (fun z8 ez8 => ?_)
        have tz8 := tn_mul ez8 kI_8 rfl (by omega) (by omega)
        refine lv_iload_n hx hb dX10_belowOf_32 rfl (lv_at hl 3 rfl) ?_
        refine lv_iadd hx hb dX10_belowOf_33 ?_
        refine lv_topi (fun z9 ez9 => ?_)
        have tz9 := tn_add ez9 rfl rfl (by omega) (by omega)
        refine mc_iald E hG hoa7 ma_14 (t_in (by omega) (by omega)) dX10_belowOf_34 (fun z10 lz10 uz10 qz10 => ?_)
        refine lv_isub hx hb dX10_belowOf_35 ?_
        refine lv_topi (fun z11 ez11 => ?_)
        refine lv_istore (lv' := [(4, .int z11), (0, .ref h0), (1, .int x1), (2, .int v2), (3, .int v3)]) hx hb dX10_belowOf_36 hl (by decide) rfl (fun ls hl => ?_)
        refine lv_iload hx hb dX10_belowOf_38 (lv_at hl 0 rfl) ?_
        refine lv_iload_n hx hb dX10_belowOf_40 rfl (lv_at hl 3 rfl) ?_
        refine lv_icmp_le (tgt := 49) hx hb dX10_belowOf_41 (by decide) (fun c12 => ?_) (fun c12 => ?_)
        · skip
          have ic12 := tn_le rfl rfl c12
          refine lv_iload_n hx hb dX10_belowOf_49 rfl (lv_at hl 3 rfl) ?_
          exact J50 ls v3 v2 (lv_sub hl [1, 2, 4] rfl) (by omega) (by omega) (by omega) (by omega)
        · skip
          have ic12 := tn_nle rfl rfl c12
          refine lv_iload hx hb dX10_belowOf_44 (lv_at hl 0 rfl) ?_
          refine lv_goto (tgt := 50) hx hb dX10_belowOf_46 (by decide) ?_
          exact J50 ls v3 z11 (lv_sub hl [1, 2, 4] rfl) (by omega) (by omega) (by omega) (by omega)
  refine lv_iconst (v := 0) hx hb dX10_belowOf_0 (by decide) ?_
  refine lv_istore_n (lv' := [(2, .int 0), (0, .ref h0), (1, .int x1)]) hx hb dX10_belowOf_1 rfl hl (by decide) rfl (fun ls hl => ?_)
  refine lv_iconst (v := 0) hx hb dX10_belowOf_2 (by decide) ?_
  refine lv_istore_n (lv' := [(3, .int 0), (2, .int 0), (0, .ref h0), (1, .int x1)]) hx hb dX10_belowOf_3 rfl hl (by decide) rfl (fun ls hl => ?_)
  exact J4 ((8 - (0 : Int32).toInt).toNat + 1) ls (0 : Int32) (0 : Int32) (lv_sub hl [2, 3, 1, 0] rfl) (by decide) (by decide) (by decide) (Nat.lt_succ_self _)

set_option maxHeartbeats 4000000 in
set_option maxRecDepth 100000 in
theorem c_X10_isAt (l : Launch) (G : tG) (Y : mY) (h0 : Nat) (x1 : Int32) (x2 : Int32) (x3 : Int32) (t0 : Y.1 h0 = 1) (l1 : 0 ≤ x1.toInt) (u1 : x1.toInt ≤ 23) : Met l yX10_isAt (.code yX10_isAt cX10_isAt 4 (some .boolean) :: tWS) (tRm 1 25) (va_Pc [.ref h0, .int x1, .int x2, .int x3] (mPre G Y)) (tQp (fun r => 0 ≤ r.toInt ∧ r.toInt ≤ 1)) 0 0 tNo := by
  refine mc_met (by decide) (Nat.le_of_ble_eq_true rfl) ?_
  intro p e s m below meth c E hr hlk hG ls hl
  have hl : lv_has ls 4 [(0, .ref h0), (1, .int x1), (2, .int x2), (3, .int x3)] := hl
  have hx := E.1
  have hb := E.2.1
  obtain ⟨H, eH⟩ : ∃ H, H = s.heap := ⟨_, rfl⟩
  obtain ⟨locs, eL⟩ : ∃ x : List Loc, x = [] := ⟨_, rfl⟩
  have hG : mGH G Y s H locs := by rw [eH, eL]; exact hG
  suffices hW : W p l e (tRm 1 25) s m ([.ref h0, .int x1, .int x2, .int x3] : List Value).toArray below meth c H locs 0 0 (MQ below (tQp (fun r => 0 ≤ r.toInt ∧ r.toInt ≤ 1)) ([.ref h0, .int x1, .int x2, .int x3] : List Value).toArray s 0 0 tNo) (F0 m 0 ls []) by subst eH; subst eL; exact hW
  refine lv_aload_n hx hb dX10_isAt_0 rfl (lv_at hl 0 rfl) ?_
  refine lv_iload_n hx hb dX10_isAt_1 rfl (lv_at hl 1 rfl) ?_
  refine lv_bipush (v := 25) hx hb dX10_isAt_2 (by decide) ?_
  refine tc_callp (mc_runV (As := [.int x1, .int 25]) (rest := []) E hG (c_X10_get l G Y h0 x1 (25 : Int32) t0 (by omega) (by omega) (by decide) (by decide)) t0 rfl kv_X10_get ml_X10_91 ⟨rfl, rfl, Nat.le_of_ble_eq_true rfl, Nat.le_of_ble_eq_true rfl⟩ rfl hl.1 rfl (Nat.le_of_ble_eq_true rfl) ⟨Nat.zero_le _, Nat.zero_le _⟩ dX10_isAt_4) (fun r1 pr1 => ?_)
  have pr1 : mV Y (ix x1.toInt (25 : Int32).toInt) r1 := pr1
  have pr1 := mV_l pr1 kI_25
  have br1 := mV_25 pr1 (by omega)
  have k2 := kI_25
  refine lv_iconst (v := 1) hx hb dX10_isAt_7 (by decide) ?_
  refine lv_icmp_ne (tgt := 53) hx hb dX10_isAt_8 (by decide) (fun c3 => ?_) (fun c3 => ?_)
  · skip
    have ic3 := tn_ne rfl kI_1 c3
    refine lv_iconst (v := 0) hx hb dX10_isAt_53 (by decide) ?_
    exact tc_pret E hr hlk eH eL (t_nz (by decide) (by decide)).1 (show 0 ≤ (0 : Int32).toInt ∧ (0 : Int32).toInt ≤ 1 by have kk := kI_0; omega) dX10_isAt_54
  · skip
    have ic3 := tn_eq rfl kI_1 c3
    refine lv_iload_n hx hb dX10_isAt_11 rfl (lv_at hl 2 rfl) ?_
    refine lv_i2l hx hb dX10_isAt_12 rfl ?_
    refine lv_topl (fun z4 ez4 => ?_)
    have tz4 := tl_i2l ez4
    refine lv_lconst (v := 0) hx hb dX10_isAt_13 (by decide) ?_
    refine lv_topl (fun z5 ez5 => ?_)
    have tz5 : z5.toInt = 0 := by rw [ez5]; decide
    refine lv_aload_n hx hb dX10_isAt_14 rfl (lv_at hl 0 rfl) ?_
    refine lv_iload_n hx hb dX10_isAt_15 rfl (lv_at hl 1 rfl) ?_
    refine lv_bipush (v := 32) hx hb dX10_isAt_16 (by decide) ?_
    refine tc_callp (mc_runV (As := [.int x1, .int 32]) (rest := [.long z5, .long z4]) E hG (c_X10_get l G Y h0 x1 (32 : Int32) t0 (by omega) (by omega) (by decide) (by decide)) t0 rfl kv_X10_get ml_X10_91 ⟨rfl, rfl, Nat.le_of_ble_eq_true rfl, Nat.le_of_ble_eq_true rfl⟩ rfl hl.1 rfl (Nat.le_of_ble_eq_true rfl) ⟨Nat.zero_le _, Nat.zero_le _⟩ dX10_isAt_18) (fun r6 pr6 => ?_)
    have pr6 : mV Y (ix x1.toInt (32 : Int32).toInt) r6 := pr6
    have pr6 := mV_l pr6 kI_32
    have br6 := mV_32 pr6 (by omega)
    have k7 := kI_32
    refine lv_iconst (v := 1) hx hb dX10_isAt_21 (by decide) ?_
    refine lv_isub hx hb dX10_isAt_22 ?_
    refine lv_topi (fun z8 ez8 => ?_)
    have tz8 := tn_sub ez8 rfl kI_1 (by omega) (by omega)
    refine lv_i2l hx hb dX10_isAt_23 rfl ?_
    refine lv_topl (fun z9 ez9 => ?_)
    have tz9 := tl_i2l ez9
    refine tc_callp (mc_runS (As := [.long z4, .long z5, .long z9]) (rest := []) E hG (c_X10_in l G Y z4 z5 z9) ks_X10_in ml_X10_87 ⟨rfl, rfl, Nat.le_of_ble_eq_true rfl, Nat.le_of_ble_eq_true rfl⟩ rfl hl.1 rfl (Nat.le_of_ble_eq_true rfl) ⟨Nat.zero_le _, Nat.zero_le _⟩ dX10_isAt_24) (fun r10 pr10 => ?_)
    have pr10 : ((r10.toInt = 1 ∧ z5.toInt ≤ z4.toInt ∧ z4.toInt ≤ z9.toInt) ∨ (r10.toInt = 0 ∧ (z4.toInt < z5.toInt ∨ z9.toInt < z4.toInt))) := pr10
    refine lv_if_eq (tgt := 53) hx hb dX10_isAt_27 (by decide) (fun c11 => ?_) (fun c11 => ?_)
    · skip
      have ic11 := tn_eq rfl kI_0 c11
      refine lv_iconst (v := 0) hx hb dX10_isAt_53 (by decide) ?_
      exact tc_pret E hr hlk eH eL (t_nz (by decide) (by decide)).1 (show 0 ≤ (0 : Int32).toInt ∧ (0 : Int32).toInt ≤ 1 by have kk := kI_0; omega) dX10_isAt_54
    · skip
      have ic11 := tn_ne rfl kI_0 c11
      refine lv_iload_n hx hb dX10_isAt_30 rfl (lv_at hl 3 rfl) ?_
      refine lv_i2l hx hb dX10_isAt_31 rfl ?_
      refine lv_topl (fun z12 ez12 => ?_)
      have tz12 := tl_i2l ez12
      refine lv_lconst (v := 0) hx hb dX10_isAt_32 (by decide) ?_
      refine lv_topl (fun z13 ez13 => ?_)
      have tz13 : z13.toInt = 0 := by rw [ez13]; decide
      refine lv_aload_n hx hb dX10_isAt_33 rfl (lv_at hl 0 rfl) ?_
      refine lv_iload_n hx hb dX10_isAt_34 rfl (lv_at hl 1 rfl) ?_
      refine lv_bipush (v := 33) hx hb dX10_isAt_35 (by decide) ?_
      refine tc_callp (mc_runV (As := [.int x1, .int 33]) (rest := [.long z13, .long z12]) E hG (c_X10_get l G Y h0 x1 (33 : Int32) t0 (by omega) (by omega) (by decide) (by decide)) t0 rfl kv_X10_get ml_X10_91 ⟨rfl, rfl, Nat.le_of_ble_eq_true rfl, Nat.le_of_ble_eq_true rfl⟩ rfl hl.1 rfl (Nat.le_of_ble_eq_true rfl) ⟨Nat.zero_le _, Nat.zero_le _⟩ dX10_isAt_37) (fun r14 pr14 => ?_)
      have pr14 : mV Y (ix x1.toInt (33 : Int32).toInt) r14 := pr14
      have pr14 := mV_l pr14 kI_33
      have br14 := mV_33 pr14 (by omega)
      have k15 := kI_33
      refine lv_iconst (v := 1) hx hb dX10_isAt_40 (by decide) ?_
      refine lv_isub hx hb dX10_isAt_41 ?_
      refine lv_topi (fun z16 ez16 => ?_)
      have tz16 := tn_sub ez16 rfl kI_1 (by omega) (by omega)
      refine lv_i2l hx hb dX10_isAt_42 rfl ?_
      refine lv_topl (fun z17 ez17 => ?_)
      have tz17 := tl_i2l ez17
      refine tc_callp (mc_runS (As := [.long z12, .long z13, .long z17]) (rest := []) E hG (c_X10_in l G Y z12 z13 z17) ks_X10_in ml_X10_87 ⟨rfl, rfl, Nat.le_of_ble_eq_true rfl, Nat.le_of_ble_eq_true rfl⟩ rfl hl.1 rfl (Nat.le_of_ble_eq_true rfl) ⟨Nat.zero_le _, Nat.zero_le _⟩ dX10_isAt_43) (fun r18 pr18 => ?_)
      have pr18 : ((r18.toInt = 1 ∧ z13.toInt ≤ z12.toInt ∧ z12.toInt ≤ z17.toInt) ∨ (r18.toInt = 0 ∧ (z12.toInt < z13.toInt ∨ z17.toInt < z12.toInt))) := pr18
      refine lv_if_eq (tgt := 53) hx hb dX10_isAt_46 (by decide) (fun c19 => ?_) (fun c19 => ?_)
      · skip
        have ic19 := tn_eq rfl kI_0 c19
        refine lv_iconst (v := 0) hx hb dX10_isAt_53 (by decide) ?_
        exact tc_pret E hr hlk eH eL (t_nz (by decide) (by decide)).1 (show 0 ≤ (0 : Int32).toInt ∧ (0 : Int32).toInt ≤ 1 by have kk := kI_0; omega) dX10_isAt_54
      · skip
        have ic19 := tn_ne rfl kI_0 c19
        refine lv_iconst (v := 1) hx hb dX10_isAt_49 (by decide) ?_
        refine lv_goto (tgt := 54) hx hb dX10_isAt_50 (by decide) ?_
        exact tc_pret E hr hlk eH eL (t_nz (by decide) (by decide)).1 (show 0 ≤ (1 : Int32).toInt ∧ (1 : Int32).toInt ≤ 1 by have kk := kI_1; omega) dX10_isAt_54

set_option maxHeartbeats 4000000 in
set_option maxRecDepth 100000 in
theorem c_X10_bitsOf (l : Launch) (G : tG) (Y : mY) (h0 : Nat) (x1 : Int32) (t0 : Y.1 h0 = 1) (l1 : 0 ≤ x1.toInt) (u1 : x1.toInt ≤ 37) : Met l yX10_bitsOf (.code yX10_bitsOf cX10_bitsOf 4 (some .int) :: tWS) (tRm 2 46) (va_Pc [.ref h0, .int x1] (mPre G Y)) (tQp (fun r => True)) 0 0 tNo := by
  refine mc_met (by decide) (Nat.le_of_ble_eq_true rfl) ?_
  intro p e s m below meth c E hr hlk hG ls hl
  have hl : lv_has ls 4 [(0, .ref h0), (1, .int x1)] := hl
  have hx := E.1
  have hb := E.2.1
  obtain ⟨H, eH⟩ : ∃ H, H = s.heap := ⟨_, rfl⟩
  obtain ⟨locs, eL⟩ : ∃ x : List Loc, x = [] := ⟨_, rfl⟩
  have hG : mGH G Y s H locs := by rw [eH, eL]; exact hG
  suffices hW : W p l e (tRm 2 46) s m ([.ref h0, .int x1] : List Value).toArray below meth c H locs 0 0 (MQ below (tQp (fun r => True)) ([.ref h0, .int x1] : List Value).toArray s 0 0 tNo) (F0 m 0 ls []) by subst eH; subst eL; exact hW
  have J4 : ∀ (n4 : Nat) (ls : Array Slot) (v2 : Int32) (v3 : Int32), lv_has ls 4 [(0, .ref h0), (1, .int x1), (2, .int v2), (3, .int v3)] → 0 ≤ v3.toInt → v3.toInt ≤ 24 → (24 - v3.toInt).toNat < n4 → W p l e (tRm 2 46) s m ([.ref h0, .int x1] : List Value).toArray below meth c H locs 0 0 (MQ below (tQp (fun r => True)) ([.ref h0, .int x1] : List Value).toArray s 0 0 tNo) (F0 m 4 ls []) := by
    intro n4
    induction n4 with
    | zero => intro ls v2 v3 hl b3 c3 hn4; exact absurd hn4 (Nat.not_lt_zero _)
    | succ n4 ih4 =>
      intro ls v2 v3 hl b3 c3 hn4
      have J35 : ∀ (ls : Array Slot) (v3 : Int32) (vs0 : Int32) (vs1 : Int32), lv_has ls 4 [(0, .ref h0), (1, .int x1), (3, .int v3)] → 0 ≤ v3.toInt → v3.toInt ≤ 23 → (24 - v3.toInt).toNat < n4 + 1 → W p l e (tRm 2 46) s m ([.ref h0, .int x1] : List Value).toArray below meth c H locs 0 0 (MQ below (tQp (fun r => True)) ([.ref h0, .int x1] : List Value).toArray s 0 0 tNo) (F0 m 35 ls [.int vs1, .int vs0]) := by
        intro ls v3 vs0 vs1 hl b3 c3 hm4
        refine lv_ior hx hb dX10_bitsOf_35 ?_
        refine lv_topi (fun z1 ez1 => ?_)
        refine lv_istore_n (lv' := [(2, .int z1), (0, .ref h0), (1, .int x1), (3, .int v3)]) hx hb dX10_bitsOf_36 rfl hl (by decide) rfl (fun ls hl => ?_)
        obtain ⟨z2, ez2⟩ : ∃ y : Int32, y = v3 + (1) := ⟨_, rfl⟩
        refine lv_iinc (v := z2) (lv' := [(3, .int z2), (2, .int z1), (0, .ref h0), (1, .int x1)]) hx hb dX10_bitsOf_37 hl (k := 3) rfl (by rw [ez2]; rfl) (by decide) rfl (fun ls hl => ?_)
        have tz2 := tn_add ez2 rfl kI_1 (by omega) (by omega)
        refine lv_goto (tgt := 4) hx hb dX10_bitsOf_40 (by decide) ?_
        exact ih4 ls z1 z2 (lv_sub hl [2, 3, 1, 0] rfl) (by omega) (by omega) (by omega)
      have J34 : ∀ (ls : Array Slot) (v3 : Int32) (vs0 : Int32), lv_has ls 4 [(0, .ref h0), (1, .int x1), (3, .int v3)] → 0 ≤ v3.toInt → v3.toInt ≤ 23 → (24 - v3.toInt).toNat < n4 + 1 → W p l e (tRm 2 46) s m ([.ref h0, .int x1] : List Value).toArray below meth c H locs 0 0 (MQ below (tQp (fun r => True)) ([.ref h0, .int x1] : List Value).toArray s 0 0 tNo) (F0 m 34 ls [.int vs0]) := by
        intro ls v3 vs0 hl b3 c3 hm4
        refine lv_iconst (v := 0) hx hb dX10_bitsOf_34 (by decide) ?_
        exact J35 ls v3 vs0 (0 : Int32) (lv_sub hl [0, 1, 2] rfl) (by omega) (by omega) (by omega)
      refine lv_iload_n hx hb dX10_bitsOf_4 rfl (lv_at hl 3 rfl) ?_
      refine lv_bipush (v := 24) hx hb dX10_bitsOf_5 (by decide) ?_
      refine lv_icmp_ge (tgt := 43) hx hb dX10_bitsOf_7 (by decide) (fun c3 => ?_) (fun c3 => ?_)
      · skip
        have ic3 := tn_le kI_24 rfl c3
        refine lv_iload_n hx hb dX10_bitsOf_43 rfl (lv_at hl 2 rfl) ?_
        exact tc_pret E hr hlk eH eL rfl trivial dX10_bitsOf_44
      · skip
        have ic3 := tn_nle kI_24 rfl c3
        refine lv_iload_n hx hb dX10_bitsOf_10 rfl (lv_at hl 2 rfl) ?_
        refine lv_aload_n hx hb dX10_bitsOf_11 rfl (lv_at hl 0 rfl) ?_
        refine lv_iload_n hx hb dX10_bitsOf_12 rfl (lv_at hl 3 rfl) ?_
        refine tc_callp (mc_runV (As := [.int v3]) (rest := [.int v2]) E hG (c_X10_isBox l G Y h0 v3 t0) t0 rfl kv_X10_isBox ml_X10_127 ⟨rfl, rfl, Nat.le_of_ble_eq_true rfl, Nat.le_of_ble_eq_true rfl⟩ rfl hl.1 rfl (Nat.le_of_ble_eq_true rfl) ⟨Nat.zero_le _, Nat.zero_le _⟩ dX10_bitsOf_13) (fun r4 pr4 => ?_)
        have pr4 : (r4.toInt = 1 ∧ 0 ≤ v3.toInt ∧ v3.toInt ≤ 23 ∧ mV Y (ix v3.toInt 0) 1) ∨ (r4.toInt = 0 ∧ (v3.toInt < 0 ∨ 23 < v3.toInt ∨ ∃ v : Int32, ¬ v.toInt = 1 ∧ mV Y (ix v3.toInt 0) v)) := pr4
        refine lv_if_eq (tgt := 34) hx hb dX10_bitsOf_16 (by decide) (fun c5 => ?_) (fun c5 => ?_)
        · skip
          have ic5 := tn_eq rfl kI_0 c5
          exact J34 ls v3 v2 (lv_sub hl [0, 1, 3] rfl) (by omega) (by omega) (by omega)
        · skip
          have ic5 := tn_ne rfl kI_0 c5
          refine lv_aload_n hx hb dX10_bitsOf_19 rfl (lv_at hl 0 rfl) ?_
          refine lv_iload_n hx hb dX10_bitsOf_20 rfl (lv_at hl 3 rfl) ?_
          refine lv_iload_n hx hb dX10_bitsOf_21 rfl (lv_at hl 1 rfl) ?_
          refine tc_callp (mc_runV (As := [.int v3, .int x1]) (rest := [.int v2]) E hG (c_X10_get l G Y h0 v3 x1 t0 (by omega) (by omega) (by omega) (by omega)) t0 rfl kv_X10_get ml_X10_91 ⟨rfl, rfl, Nat.le_of_ble_eq_true rfl, Nat.le_of_ble_eq_true rfl⟩ rfl hl.1 rfl (Nat.le_of_ble_eq_true rfl) ⟨Nat.zero_le _, Nat.zero_le _⟩ dX10_bitsOf_22) (fun r6 pr6 => ?_)
          have pr6 : mV Y (ix v3.toInt x1.toInt) r6 := pr6
          refine lv_if_le (tgt := 34) hx hb dX10_bitsOf_25 (by decide) (fun c7 => ?_) (fun c7 => ?_)
          · skip
            have ic7 := tn_le rfl kI_0 c7
            exact J34 ls v3 v2 (lv_sub hl [0, 1, 3] rfl) (by omega) (by omega) (by omega)
          · skip
            have ic7 := tn_nle rfl kI_0 c7
            refine lv_iconst (v := 1) hx hb dX10_bitsOf_28 (by decide) ?_
            refine lv_iload_n hx hb dX10_bitsOf_29 rfl (lv_at hl 3 rfl) ?_
            refine lv_ishl hx hb dX10_bitsOf_30 ?_
            refine lv_topi (fun z8 ez8 => ?_)
            refine lv_goto (tgt := 35) hx hb dX10_bitsOf_31 (by decide) ?_
            exact J35 ls v3 v2 z8 (lv_sub hl [0, 1, 3] rfl) (by omega) (by omega) (by omega)
  refine lv_iconst (v := 0) hx hb dX10_bitsOf_0 (by decide) ?_
  refine lv_istore_n (lv' := [(2, .int 0), (0, .ref h0), (1, .int x1)]) hx hb dX10_bitsOf_1 rfl hl (by decide) rfl (fun ls hl => ?_)
  refine lv_iconst (v := 0) hx hb dX10_bitsOf_2 (by decide) ?_
  refine lv_istore_n (lv' := [(3, .int 0), (2, .int 0), (0, .ref h0), (1, .int x1)]) hx hb dX10_bitsOf_3 rfl hl (by decide) rfl (fun ls hl => ?_)
  exact J4 ((24 - (0 : Int32).toInt).toNat + 1) ls (0 : Int32) (0 : Int32) (lv_sub hl [2, 3, 1, 0] rfl) (by decide) (by decide) (Nat.lt_succ_self _)

set_option maxHeartbeats 4000000 in
set_option maxRecDepth 100000 in
theorem c_X10_many (l : Launch) (G : tG) (Y : mY) (h0 : Nat) (t0 : Y.1 h0 = 1) : Met l yX10_many (.code yX10_many cX10_many 3 (some .int) :: tWS) (tRm 2 46) (va_Pc [.ref h0] (mPre G Y)) (tQp (fun r => True)) 0 0 tNo := by
  refine mc_met (by decide) (Nat.le_of_ble_eq_true rfl) ?_
  intro p e s m below meth c E hr hlk hG ls hl
  have hl : lv_has ls 3 [(0, .ref h0)] := hl
  have hx := E.1
  have hb := E.2.1
  obtain ⟨H, eH⟩ : ∃ H, H = s.heap := ⟨_, rfl⟩
  obtain ⟨locs, eL⟩ : ∃ x : List Loc, x = [] := ⟨_, rfl⟩
  have hG : mGH G Y s H locs := by rw [eH, eL]; exact hG
  suffices hW : W p l e (tRm 2 46) s m ([.ref h0] : List Value).toArray below meth c H locs 0 0 (MQ below (tQp (fun r => True)) ([.ref h0] : List Value).toArray s 0 0 tNo) (F0 m 0 ls []) by subst eH; subst eL; exact hW
  have J4 : ∀ (n4 : Nat) (ls : Array Slot) (v1 : Int32) (v2 : Int32), lv_has ls 3 [(0, .ref h0), (1, .int v1), (2, .int v2)] → 0 ≤ v2.toInt → v2.toInt ≤ 24 → (24 - v2.toInt).toNat < n4 → W p l e (tRm 2 46) s m ([.ref h0] : List Value).toArray below meth c H locs 0 0 (MQ below (tQp (fun r => True)) ([.ref h0] : List Value).toArray s 0 0 tNo) (F0 m 4 ls []) := by
    intro n4
    induction n4 with
    | zero => intro ls v1 v2 hl b2 c2 hn4; exact absurd hn4 (Nat.not_lt_zero _)
    | succ n4 ih4 =>
      intro ls v1 v2 hl b2 c2 hn4
      have J24 : ∀ (ls : Array Slot) (v2 : Int32) (vs0 : Int32) (vs1 : Int32), lv_has ls 3 [(0, .ref h0), (2, .int v2)] → 0 ≤ v2.toInt → v2.toInt ≤ 23 → 0 ≤ vs1.toInt → vs1.toInt ≤ 1 → (24 - v2.toInt).toNat < n4 + 1 → W p l e (tRm 2 46) s m ([.ref h0] : List Value).toArray below meth c H locs 0 0 (MQ below (tQp (fun r => True)) ([.ref h0] : List Value).toArray s 0 0 tNo) (F0 m 24 ls [.int vs1, .int vs0]) := by
        intro ls v2 vs0 vs1 hl b2 c2 bs1 cs1 hm4
        refine lv_iadd hx hb dX10_many_24 ?_
        refine lv_topi (fun z1 ez1 => ?_)
        refine lv_istore_n (lv' := [(1, .int z1), (0, .ref h0), (2, .int v2)]) hx hb dX10_many_25 rfl hl (by decide) rfl (fun ls hl => ?_)
        obtain ⟨z2, ez2⟩ : ∃ y : Int32, y = v2 + (1) := ⟨_, rfl⟩
        refine lv_iinc (v := z2) (lv' := [(2, .int z2), (1, .int z1), (0, .ref h0)]) hx hb dX10_many_26 hl (k := 2) rfl (by rw [ez2]; rfl) (by decide) rfl (fun ls hl => ?_)
        have tz2 := tn_add ez2 rfl kI_1 (by omega) (by omega)
        refine lv_goto (tgt := 4) hx hb dX10_many_29 (by decide) ?_
        exact ih4 ls z1 z2 (lv_sub hl [2, 1, 0] rfl) (by omega) (by omega) (by omega)
      refine lv_iload_n hx hb dX10_many_4 rfl (lv_at hl 2 rfl) ?_
      refine lv_bipush (v := 24) hx hb dX10_many_5 (by decide) ?_
      refine lv_icmp_ge (tgt := 32) hx hb dX10_many_7 (by decide) (fun c3 => ?_) (fun c3 => ?_)
      · skip
        have ic3 := tn_le kI_24 rfl c3
        refine lv_iload_n hx hb dX10_many_32 rfl (lv_at hl 1 rfl) ?_
        exact tc_pret E hr hlk eH eL rfl trivial dX10_many_33
      · skip
        have ic3 := tn_nle kI_24 rfl c3
        refine lv_iload_n hx hb dX10_many_10 rfl (lv_at hl 1 rfl) ?_
        refine lv_aload_n hx hb dX10_many_11 rfl (lv_at hl 0 rfl) ?_
        refine lv_iload_n hx hb dX10_many_12 rfl (lv_at hl 2 rfl) ?_
        refine tc_callp (mc_runV (As := [.int v2]) (rest := [.int v1]) E hG (c_X10_isBox l G Y h0 v2 t0) t0 rfl kv_X10_isBox ml_X10_127 ⟨rfl, rfl, Nat.le_of_ble_eq_true rfl, Nat.le_of_ble_eq_true rfl⟩ rfl hl.1 rfl (Nat.le_of_ble_eq_true rfl) ⟨Nat.zero_le _, Nat.zero_le _⟩ dX10_many_13) (fun r4 pr4 => ?_)
        have pr4 : (r4.toInt = 1 ∧ 0 ≤ v2.toInt ∧ v2.toInt ≤ 23 ∧ mV Y (ix v2.toInt 0) 1) ∨ (r4.toInt = 0 ∧ (v2.toInt < 0 ∨ 23 < v2.toInt ∨ ∃ v : Int32, ¬ v.toInt = 1 ∧ mV Y (ix v2.toInt 0) v)) := pr4
        refine lv_if_eq (tgt := 23) hx hb dX10_many_16 (by decide) (fun c5 => ?_) (fun c5 => ?_)
        · skip
          have ic5 := tn_eq rfl kI_0 c5
          refine lv_iconst (v := 0) hx hb dX10_many_23 (by decide) ?_
          exact J24 ls v2 v1 (0 : Int32) (lv_sub hl [0, 2] rfl) (by omega) (by omega) (by decide) (by decide) (by omega)
        · skip
          have ic5 := tn_ne rfl kI_0 c5
          refine lv_iconst (v := 1) hx hb dX10_many_19 (by decide) ?_
          refine lv_goto (tgt := 24) hx hb dX10_many_20 (by decide) ?_
          exact J24 ls v2 v1 (1 : Int32) (lv_sub hl [0, 2] rfl) (by omega) (by omega) (by decide) (by decide) (by omega)
  refine lv_iconst (v := 0) hx hb dX10_many_0 (by decide) ?_
  refine lv_istore_n (lv' := [(1, .int 0), (0, .ref h0)]) hx hb dX10_many_1 rfl hl (by decide) rfl (fun ls hl => ?_)
  refine lv_iconst (v := 0) hx hb dX10_many_2 (by decide) ?_
  refine lv_istore_n (lv' := [(2, .int 0), (1, .int 0), (0, .ref h0)]) hx hb dX10_many_3 rfl hl (by decide) rfl (fun ls hl => ?_)
  exact J4 ((24 - (0 : Int32).toInt).toNat + 1) ls (0 : Int32) (0 : Int32) (lv_sub hl [2, 1, 0] rfl) (by decide) (by decide) (Nat.lt_succ_self _)

theorem c_X10_here (l : Launch) (G : tG) (Y : mY) (h0 : Nat) (t0 : Y.1 h0 = 1) : Met l yX10_here (.code yX10_here cX10_here 1 (some .int) :: tWS) (tRm 0 0) (va_Pc [.ref h0] (mPre G Y)) (tQp (fun r => r.toInt = -1 ∨ (0 ≤ r.toInt ∧ r.toInt ≤ 126 ∧ ∀ y, Y.2.2 1 26 = some y → y.toInt ≤ 119))) 0 0 tNo := by
  refine mc_met (by decide) (Nat.le_of_ble_eq_true rfl) ?_
  intro p e s m below meth c E hr hlk hG ls hl
  have hl : lv_has ls 1 [(0, .ref h0)] := hl
  have hx := E.1
  have hb := E.2.1
  obtain ⟨F, hG, hF⟩ := mFull hG
  have hF26 := fun y => hF 1 26 y h0 t0 (by decide) ⟨0, 120, rfl⟩ (show 26 < 40 by decide)
  generalize hZ : ((Y.1, Y.2.1, fun c k => some (F c k)) : mY) = Z at hG
  have hZ1 : ∀ c k y, Z.2.2 c k = some y → F c k = y := fun c k y h => by rw [← hZ] at h; exact Option.some.inj h
  have t0 : Z.1 h0 = 1 := by rw [← hZ]; exact t0
  have hZ2 : ∀ c k, Z.2.2 c k = some (F c k) := fun c k => by rw [← hZ]
  refine lv_aload_n hx hb dX10_here_0 rfl (lv_at hl 0 rfl) ?_
  refine mc_geti E hG t0 mi_350 dX10_here_1 (fun z1 l1 u1 q1 => ?_)
  refine lv_aload_n hx hb dX10_here_4 rfl (lv_at hl 0 rfl) ?_
  refine mc_geti E hG t0 mi_340 dX10_here_5 (fun z2 l2 u2 q2 => ?_)
  refine lv_icmp_ge (tgt := 23) hx hb dX10_here_8 (by decide) (fun hc => ?_) (fun hc => ?_)
  · refine lv_iconst (v := -1) hx hb dX10_here_23 (by decide) ?_
    exact tc_pret E hr hlk rfl rfl rfl (Or.inl (by decide)) dX10_here_24
  · have ic := tn_nle rfl rfl hc
    refine lv_aload_n hx hb dX10_here_11 rfl (lv_at hl 0 rfl) ?_
    refine mc_getr E hG t0 mr_54 dX10_here_12 (fun b hb9 => ?_)
    refine lv_aload_n hx hb dX10_here_15 rfl (lv_at hl 0 rfl) ?_
    refine mc_geti E hG t0 mi_350 dX10_here_16 (fun z3 l3 u3 q3 => ?_)
    have e13 : z3 = z1 := (q3 _ (hZ2 1 26)).trans (q1 _ (hZ2 1 26)).symm
    subst e13
    refine mc_iald15 E hG hb9 ma_15 (t_in (by omega) (by omega)) dX10_here_19 (fun z4 l4 u4 q4 => ?_)
    refine lv_goto (tgt := 24) hx hb dX10_here_20 (by decide) ?_
    refine tc_pret E hr hlk rfl rfl rfl (Or.inr ⟨l4, u4, fun y hy => ?_⟩) dX10_here_24
    have e1 := hF26 y hy
    have e2 := q3 _ (hZ2 1 26)
    rw [← e1, ← e2]
    omega
set_option maxHeartbeats 4000000 in
set_option maxRecDepth 100000 in
theorem c_X10_isFull (l : Launch) (G : tG) (Y : mY) (h0 : Nat) (t0 : Y.1 h0 = 1) : Met l yX10_isFull (.code yX10_isFull cX10_isFull 1 (some .boolean) :: tWS) (tRm 0 0) (va_Pc [.ref h0] (mPre G Y)) (tQp (fun r => 0 ≤ r.toInt ∧ r.toInt ≤ 1)) 0 0 tNo := by
  refine mc_met (by decide) (Nat.le_of_ble_eq_true rfl) ?_
  intro p e s m below meth c E hr hlk hG ls hl
  have hl : lv_has ls 1 [(0, .ref h0)] := hl
  have hx := E.1
  have hb := E.2.1
  obtain ⟨H, eH⟩ : ∃ H, H = s.heap := ⟨_, rfl⟩
  obtain ⟨locs, eL⟩ : ∃ x : List Loc, x = [] := ⟨_, rfl⟩
  have hG : mGH G Y s H locs := by rw [eH, eL]; exact hG
  suffices hW : W p l e (tRm 0 0) s m ([.ref h0] : List Value).toArray below meth c H locs 0 0 (MQ below (tQp (fun r => 0 ≤ r.toInt ∧ r.toInt ≤ 1)) ([.ref h0] : List Value).toArray s 0 0 tNo) (F0 m 0 ls []) by subst eH; subst eL; exact hW
  refine lv_aload_n hx hb dX10_isFull_0 rfl (lv_at hl 0 rfl) ?_
  refine mc_geti E hG t0 mi_343 dX10_isFull_1 (fun z1 lz1 uz1 qz1 => ?_)
  refine lv_ldcw (v := 40000) hx hb E.2.2.2.1 (E.2.2.2.2.1 _ (t_w8 53 rfl rfl)) dX10_isFull_4 ?_
  refine lv_topi (fun z2 ez2 => ?_)
  refine lv_icmp_lt (tgt := 14) hx hb dX10_isFull_7 (by decide) (fun c3 => ?_) (fun c3 => ?_)
  · skip
    have ic3 := tn_lt rfl rfl c3
    refine lv_iconst (v := 0) hx hb dX10_isFull_14 (by decide) ?_
    exact tc_pret E hr hlk eH eL (t_nz (by decide) (by decide)).1 (show 0 ≤ (0 : Int32).toInt ∧ (0 : Int32).toInt ≤ 1 by have kk := kI_0; omega) dX10_isFull_15
  · skip
    have ic3 := tn_nlt rfl rfl c3
    refine lv_iconst (v := 1) hx hb dX10_isFull_10 (by decide) ?_
    refine lv_goto (tgt := 15) hx hb dX10_isFull_11 (by decide) ?_
    exact tc_pret E hr hlk eH eL (t_nz (by decide) (by decide)).1 (show 0 ≤ (1 : Int32).toInt ∧ (1 : Int32).toInt ≤ 1 by have kk := kI_1; omega) dX10_isFull_15

set_option maxHeartbeats 4000000 in
set_option maxRecDepth 100000 in
theorem c_X10_isFitting (l : Launch) (G : tG) (Y : mY) (h0 : Nat) (t0 : Y.1 h0 = 1) : Met l yX10_isFitting (.code yX10_isFitting cX10_isFitting 1 (some .boolean) :: tWS) (tRm 3 69) (va_Pc [.ref h0] (mPre G Y)) (tQp (fun r => 0 ≤ r.toInt ∧ r.toInt ≤ 1)) 0 0 tNo := by
  refine mc_met (by decide) (Nat.le_of_ble_eq_true rfl) ?_
  intro p e s m below meth c E hr hlk hG ls hl
  have hl : lv_has ls 1 [(0, .ref h0)] := hl
  have hx := E.1
  have hb := E.2.1
  obtain ⟨H, eH⟩ : ∃ H, H = s.heap := ⟨_, rfl⟩
  obtain ⟨locs, eL⟩ : ∃ x : List Loc, x = [] := ⟨_, rfl⟩
  have hG : mGH G Y s H locs := by rw [eH, eL]; exact hG
  suffices hW : W p l e (tRm 3 69) s m ([.ref h0] : List Value).toArray below meth c H locs 0 0 (MQ below (tQp (fun r => 0 ≤ r.toInt ∧ r.toInt ≤ 1)) ([.ref h0] : List Value).toArray s 0 0 tNo) (F0 m 0 ls []) by subst eH; subst eL; exact hW
  refine lv_aload_n hx hb dX10_isFitting_0 rfl (lv_at hl 0 rfl) ?_
  refine lv_bipush (v := 34) hx hb dX10_isFitting_1 (by decide) ?_
  refine tc_callp (mc_runV (As := [.int 34]) (rest := []) E hG (c_X10_bitsOf l G Y h0 (34 : Int32) t0 (by decide) (by decide)) t0 rfl kv_X10_bitsOf ml_X10_337 ⟨rfl, rfl, Nat.le_of_ble_eq_true rfl, Nat.le_of_ble_eq_true rfl⟩ rfl hl.1 rfl (Nat.le_of_ble_eq_true rfl) ⟨Nat.zero_le _, Nat.zero_le _⟩ dX10_isFitting_3) (fun r1 pr1 => ?_)
  refine lv_if_ne (tgt := 13) hx hb dX10_isFitting_6 (by decide) (fun c2 => ?_) (fun c2 => ?_)
  · skip
    have ic2 := tn_ne rfl kI_0 c2
    refine lv_iconst (v := 0) hx hb dX10_isFitting_13 (by decide) ?_
    exact tc_pret E hr hlk eH eL (t_nz (by decide) (by decide)).1 (show 0 ≤ (0 : Int32).toInt ∧ (0 : Int32).toInt ≤ 1 by have kk := kI_0; omega) dX10_isFitting_14
  · skip
    have ic2 := tn_eq rfl kI_0 c2
    refine lv_iconst (v := 1) hx hb dX10_isFitting_9 (by decide) ?_
    refine lv_goto (tgt := 14) hx hb dX10_isFitting_10 (by decide) ?_
    exact tc_pret E hr hlk eH eL (t_nz (by decide) (by decide)).1 (show 0 ≤ (1 : Int32).toInt ∧ (1 : Int32).toInt ≤ 1 by have kk := kI_1; omega) dX10_isFitting_14

set_option maxHeartbeats 4000000 in
set_option maxRecDepth 100000 in
theorem c_X10_taken (l : Launch) (G : tG) (Y : mY) (h0 : Nat) (x1 : Int32) (x2 : Int32) (t0 : Y.1 h0 = 1) : Met l yX10_taken (.code yX10_taken cX10_taken 5 (some .int) :: tWS) (tRm 2 46) (va_Pc [.ref h0, .int x1, .int x2] (mPre G Y)) (tQp (fun r => True)) 0 0 tNo := by
  refine mc_met (by decide) (Nat.le_of_ble_eq_true rfl) ?_
  intro p e s m below meth c E hr hlk hG ls hl
  have hl : lv_has ls 5 [(0, .ref h0), (1, .int x1), (2, .int x2)] := hl
  have hx := E.1
  have hb := E.2.1
  obtain ⟨H, eH⟩ : ∃ H, H = s.heap := ⟨_, rfl⟩
  obtain ⟨locs, eL⟩ : ∃ x : List Loc, x = [] := ⟨_, rfl⟩
  have hG : mGH G Y s H locs := by rw [eH, eL]; exact hG
  suffices hW : W p l e (tRm 2 46) s m ([.ref h0, .int x1, .int x2] : List Value).toArray below meth c H locs 0 0 (MQ below (tQp (fun r => True)) ([.ref h0, .int x1, .int x2] : List Value).toArray s 0 0 tNo) (F0 m 0 ls []) by subst eH; subst eL; exact hW
  have J70 : ∀ (ls : Array Slot) (v3 : Int32) (vs0 : Int32), lv_has ls 5 [(2, .int x2), (3, .int v3)] → 0 ≤ v3.toInt → v3.toInt ≤ 9 → 0 ≤ vs0.toInt → vs0.toInt ≤ 1 → W p l e (tRm 2 46) s m ([.ref h0, .int x1, .int x2] : List Value).toArray below meth c H locs 0 0 (MQ below (tQp (fun r => True)) ([.ref h0, .int x1, .int x2] : List Value).toArray s 0 0 tNo) (F0 m 70 ls [.int vs0]) := by
    intro ls v3 vs0 hl b3 c3 bs0 cs0
    refine lv_istore (lv' := [(4, .int vs0), (2, .int x2), (3, .int v3)]) hx hb dX10_taken_70 hl (by decide) rfl (fun ls hl => ?_)
    refine lv_iload_n hx hb dX10_taken_72 rfl (lv_at hl 2 rfl) ?_
    refine lv_iload_n hx hb dX10_taken_73 rfl (lv_at hl 1 rfl) ?_
    refine lv_icmp_eq (tgt := 82) hx hb dX10_taken_74 (by decide) (fun c1 => ?_) (fun c1 => ?_)
    · skip
      have ic1 := tn_eq rfl rfl c1
      refine lv_iload_n hx hb dX10_taken_82 rfl (lv_at hl 2 rfl) ?_
      refine lv_goto (tgt := 88) hx hb dX10_taken_83 (by decide) ?_
      exact tc_pret E hr hlk eH eL rfl trivial dX10_taken_88
    · skip
      have ic1 := tn_ne rfl rfl c1
      refine lv_iload hx hb dX10_taken_77 (lv_at hl 0 rfl) ?_
      refine lv_if_eq (tgt := 86) hx hb dX10_taken_79 (by decide) (fun c2 => ?_) (fun c2 => ?_)
      · skip
        have ic2 := tn_eq rfl kI_0 c2
        refine lv_bipush (v := -12) hx hb dX10_taken_86 (by decide) ?_
        exact tc_pret E hr hlk eH eL rfl trivial dX10_taken_88
      · skip
        have ic2 := tn_ne rfl kI_0 c2
        refine lv_iload_n hx hb dX10_taken_82 rfl (lv_at hl 2 rfl) ?_
        refine lv_goto (tgt := 88) hx hb dX10_taken_83 (by decide) ?_
        exact tc_pret E hr hlk eH eL rfl trivial dX10_taken_88
  have J69 : ∀ (ls : Array Slot) (v3 : Int32), lv_has ls 5 [(2, .int x2), (3, .int v3)] → 0 ≤ v3.toInt → v3.toInt ≤ 9 → W p l e (tRm 2 46) s m ([.ref h0, .int x1, .int x2] : List Value).toArray below meth c H locs 0 0 (MQ below (tQp (fun r => True)) ([.ref h0, .int x1, .int x2] : List Value).toArray s 0 0 tNo) (F0 m 69 ls []) := by
    intro ls v3 hl b3 c3
    refine lv_iconst (v := 0) hx hb dX10_taken_69 (by decide) ?_
    exact J70 ls v3 (0 : Int32) (lv_sub hl [0, 1] rfl) (by omega) (by omega) (by decide) (by decide)
  have J65 : ∀ (ls : Array Slot) (v3 : Int32), lv_has ls 5 [(2, .int x2), (3, .int v3)] → 2 ≤ x2.toInt → x2.toInt ≤ 8 → 3 ≤ v3.toInt → v3.toInt ≤ 9 → W p l e (tRm 2 46) s m ([.ref h0, .int x1, .int x2] : List Value).toArray below meth c H locs 0 0 (MQ below (tQp (fun r => True)) ([.ref h0, .int x1, .int x2] : List Value).toArray s 0 0 tNo) (F0 m 65 ls []) := by
    intro ls v3 hl bp2 cp2 b3 c3
    refine lv_iconst (v := 1) hx hb dX10_taken_65 (by decide) ?_
    refine lv_goto (tgt := 70) hx hb dX10_taken_66 (by decide) ?_
    exact J70 ls v3 (1 : Int32) (lv_sub hl [0, 1] rfl) (by omega) (by omega) (by decide) (by decide)
  have J55 : ∀ (ls : Array Slot) (v3 : Int32), lv_has ls 5 [(2, .int x2), (3, .int v3)] → 0 ≤ v3.toInt → v3.toInt ≤ 9 → W p l e (tRm 2 46) s m ([.ref h0, .int x1, .int x2] : List Value).toArray below meth c H locs 0 0 (MQ below (tQp (fun r => True)) ([.ref h0, .int x1, .int x2] : List Value).toArray s 0 0 tNo) (F0 m 55 ls []) := by
    intro ls v3 hl b3 c3
    refine lv_iload_n hx hb dX10_taken_55 rfl (lv_at hl 1 rfl) ?_
    refine lv_iconst (v := 3) hx hb dX10_taken_56 (by decide) ?_
    refine lv_icmp_ne (tgt := 69) hx hb dX10_taken_57 (by decide) (fun c3 => ?_) (fun c3 => ?_)
    · skip
      have ic3 := tn_ne rfl kI_3 c3
      exact J69 ls v3 (lv_sub hl [0, 1] rfl) (by omega) (by omega)
    · skip
      have ic3 := tn_eq rfl kI_3 c3
      refine lv_iload_n hx hb dX10_taken_60 rfl (lv_at hl 0 rfl) ?_
      refine lv_iconst (v := 2) hx hb dX10_taken_61 (by decide) ?_
      refine lv_icmp_ne (tgt := 69) hx hb dX10_taken_62 (by decide) (fun c4 => ?_) (fun c4 => ?_)
      · skip
        have ic4 := tn_ne rfl kI_2 c4
        exact J69 ls v3 (lv_sub hl [0, 1] rfl) (by omega) (by omega)
      · skip
        have ic4 := tn_eq rfl kI_2 c4
        exact J65 ls v3 (lv_sub hl [0, 1] rfl) (by omega) (by omega) (by omega) (by omega)
  have J45 : ∀ (ls : Array Slot) (v3 : Int32), lv_has ls 5 [(2, .int x2), (3, .int v3)] → 0 ≤ v3.toInt → v3.toInt ≤ 9 → W p l e (tRm 2 46) s m ([.ref h0, .int x1, .int x2] : List Value).toArray below meth c H locs 0 0 (MQ below (tQp (fun r => True)) ([.ref h0, .int x1, .int x2] : List Value).toArray s 0 0 tNo) (F0 m 45 ls []) := by
    intro ls v3 hl b3 c3
    refine lv_iload_n hx hb dX10_taken_45 rfl (lv_at hl 1 rfl) ?_
    refine lv_iconst (v := 5) hx hb dX10_taken_46 (by decide) ?_
    refine lv_icmp_ne (tgt := 55) hx hb dX10_taken_47 (by decide) (fun c5 => ?_) (fun c5 => ?_)
    · skip
      have ic5 := tn_ne rfl kI_5 c5
      exact J55 ls v3 (lv_sub hl [0, 1] rfl) (by omega) (by omega)
    · skip
      have ic5 := tn_eq rfl kI_5 c5
      refine lv_iload_n hx hb dX10_taken_50 rfl (lv_at hl 0 rfl) ?_
      refine lv_iconst (v := 4) hx hb dX10_taken_51 (by decide) ?_
      refine lv_icmp_eq (tgt := 65) hx hb dX10_taken_52 (by decide) (fun c6 => ?_) (fun c6 => ?_)
      · skip
        have ic6 := tn_eq rfl kI_4 c6
        exact J65 ls v3 (lv_sub hl [0, 1] rfl) (by omega) (by omega) (by omega) (by omega)
      · skip
        have ic6 := tn_ne rfl kI_4 c6
        exact J55 ls v3 (lv_sub hl [0, 1] rfl) (by omega) (by omega)
  refine lv_iload_n hx hb dX10_taken_0 rfl (lv_at hl 2 rfl) ?_
  refine lv_i2l hx hb dX10_taken_1 rfl ?_
  refine lv_topl (fun z7 ez7 => ?_)
  have tz7 := tl_i2l ez7
  refine lv_lconst (v := 0) hx hb dX10_taken_2 (by decide) ?_
  refine lv_topl (fun z8 ez8 => ?_)
  have tz8 : z8.toInt = 0 := by rw [ez8]; decide
  refine lv_ldc2 (v := 9) hx hb E.2.2.2.1 (E.2.2.2.2.1 _ (t_w6 174 rfl rfl)) dX10_taken_3 ?_
  refine lv_topl (fun z9 ez9 => ?_)
  have tz9 : z9.toInt = 9 := by rw [ez9]; decide
  refine tc_callp (mc_runS (As := [.long z7, .long z8, .long z9]) (rest := []) E hG (c_X10_in l G Y z7 z8 z9) ks_X10_in ml_X10_87 ⟨rfl, rfl, Nat.le_of_ble_eq_true rfl, Nat.le_of_ble_eq_true rfl⟩ rfl hl.1 rfl (Nat.le_of_ble_eq_true rfl) ⟨Nat.zero_le _, Nat.zero_le _⟩ dX10_taken_6) (fun r10 pr10 => ?_)
  have pr10 : ((r10.toInt = 1 ∧ z8.toInt ≤ z7.toInt ∧ z7.toInt ≤ z9.toInt) ∨ (r10.toInt = 0 ∧ (z7.toInt < z8.toInt ∨ z9.toInt < z7.toInt))) := pr10
  refine lv_if_ne (tgt := 15) hx hb dX10_taken_9 (by decide) (fun c11 => ?_) (fun c11 => ?_)
  · skip
    have ic11 := tn_ne rfl kI_0 c11
    refine lv_aload_n hx hb dX10_taken_15 rfl (lv_at hl 0 rfl) ?_
    refine lv_iload_n hx hb dX10_taken_16 rfl (lv_at hl 1 rfl) ?_
    refine tc_callp (mc_runV (As := [.int x1]) (rest := []) E hG (c_X10_isBox l G Y h0 x1 t0) t0 rfl kv_X10_isBox ml_X10_127 ⟨rfl, rfl, Nat.le_of_ble_eq_true rfl, Nat.le_of_ble_eq_true rfl⟩ rfl hl.1 rfl (Nat.le_of_ble_eq_true rfl) ⟨Nat.zero_le _, Nat.zero_le _⟩ dX10_taken_17) (fun r12 pr12 => ?_)
    have pr12 : (r12.toInt = 1 ∧ 0 ≤ x1.toInt ∧ x1.toInt ≤ 23 ∧ mV Y (ix x1.toInt 0) 1) ∨ (r12.toInt = 0 ∧ (x1.toInt < 0 ∨ 23 < x1.toInt ∨ ∃ v : Int32, ¬ v.toInt = 1 ∧ mV Y (ix x1.toInt 0) v)) := pr12
    refine lv_if_ne (tgt := 26) hx hb dX10_taken_20 (by decide) (fun c13 => ?_) (fun c13 => ?_)
    · skip
      have ic13 := tn_ne rfl kI_0 c13
      refine lv_aload_n hx hb dX10_taken_26 rfl (lv_at hl 0 rfl) ?_
      refine lv_iload_n hx hb dX10_taken_27 rfl (lv_at hl 1 rfl) ?_
      refine lv_iconst (v := 1) hx hb dX10_taken_28 (by decide) ?_
      refine tc_callp (mc_runV (As := [.int x1, .int 1]) (rest := []) E hG (c_X10_get l G Y h0 x1 (1 : Int32) t0 (by omega) (by omega) (by decide) (by decide)) t0 rfl kv_X10_get ml_X10_91 ⟨rfl, rfl, Nat.le_of_ble_eq_true rfl, Nat.le_of_ble_eq_true rfl⟩ rfl hl.1 rfl (Nat.le_of_ble_eq_true rfl) ⟨Nat.zero_le _, Nat.zero_le _⟩ dX10_taken_29) (fun r14 pr14 => ?_)
      have pr14 : mV Y (ix x1.toInt (1 : Int32).toInt) r14 := pr14
      have pr14 := mV_l pr14 kI_1
      have br14 := mV_1 pr14 (by omega)
      have k15 := kI_1
      refine lv_istore_n (lv' := [(3, .int r14), (0, .ref h0), (1, .int x1), (2, .int x2)]) hx hb dX10_taken_32 rfl hl (by decide) rfl (fun ls hl => ?_)
      refine lv_iload_n hx hb dX10_taken_33 rfl (lv_at hl 0 rfl) ?_
      refine lv_bipush (v := 9) hx hb dX10_taken_34 (by decide) ?_
      refine lv_icmp_ne (tgt := 45) hx hb dX10_taken_36 (by decide) (fun c16 => ?_) (fun c16 => ?_)
      · skip
        have ic16 := tn_ne rfl kI_9 c16
        exact J45 ls r14 (lv_sub hl [3, 0] rfl) (by omega) (by omega)
      · skip
        have ic16 := tn_eq rfl kI_9 c16
        refine lv_iload_n hx hb dX10_taken_39 rfl (lv_at hl 3 rfl) ?_
        refine lv_bipush (v := 8) hx hb dX10_taken_40 (by decide) ?_
        refine lv_icmp_eq (tgt := 65) hx hb dX10_taken_42 (by decide) (fun c17 => ?_) (fun c17 => ?_)
        · skip
          have ic17 := tn_eq rfl kI_8 c17
          exact J65 ls r14 (lv_sub hl [3, 0] rfl) (by omega) (by omega) (by omega) (by omega)
        · skip
          have ic17 := tn_ne rfl kI_8 c17
          exact J45 ls r14 (lv_sub hl [3, 0] rfl) (by omega) (by omega)
    · skip
      have ic13 := tn_eq rfl kI_0 c13
      refine lv_bipush (v := -11) hx hb dX10_taken_23 (by decide) ?_
      exact tc_pret E hr hlk eH eL rfl trivial dX10_taken_25
  · skip
    have ic11 := tn_eq rfl kI_0 c11
    refine lv_bipush (v := -2) hx hb dX10_taken_12 (by decide) ?_
    exact tc_pret E hr hlk eH eL rfl trivial dX10_taken_14

set_option maxHeartbeats 4000000 in
set_option maxRecDepth 100000 in
theorem c_X10_isTape (l : Launch) (G : tG) (Y : mY) (x0 : Int32)  : Met l yX10_isTape (.code yX10_isTape cX10_isTape 1 (some .boolean) :: tWS) (tRm 1 25) (va_Pc [.int x0] (mPre G Y)) (tQp (fun r => (r.toInt = 1 ∧ 0 ≤ x0.toInt ∧ x0.toInt ≤ 3) ∨ (r.toInt = 0 ∧ (x0.toInt < 0 ∨ 3 < x0.toInt)))) 0 0 tNo := by
  refine mc_met (by decide) (Nat.le_of_ble_eq_true rfl) ?_
  intro p e s m below meth c E hr hlk hG ls hl
  have hl : lv_has ls 1 [(0, .int x0)] := hl
  have hx := E.1
  have hb := E.2.1
  obtain ⟨H, eH⟩ : ∃ H, H = s.heap := ⟨_, rfl⟩
  obtain ⟨locs, eL⟩ : ∃ x : List Loc, x = [] := ⟨_, rfl⟩
  have hG : mGH G Y s H locs := by rw [eH, eL]; exact hG
  suffices hW : W p l e (tRm 1 25) s m ([.int x0] : List Value).toArray below meth c H locs 0 0 (MQ below (tQp (fun r => (r.toInt = 1 ∧ 0 ≤ x0.toInt ∧ x0.toInt ≤ 3) ∨ (r.toInt = 0 ∧ (x0.toInt < 0 ∨ 3 < x0.toInt)))) ([.int x0] : List Value).toArray s 0 0 tNo) (F0 m 0 ls []) by subst eH; subst eL; exact hW
  refine lv_iload_n hx hb dX10_isTape_0 rfl (lv_at hl 0 rfl) ?_
  refine lv_i2l hx hb dX10_isTape_1 rfl ?_
  refine lv_topl (fun z1 ez1 => ?_)
  have tz1 := tl_i2l ez1
  refine lv_lconst (v := 0) hx hb dX10_isTape_2 (by decide) ?_
  refine lv_topl (fun z2 ez2 => ?_)
  have tz2 : z2.toInt = 0 := by rw [ez2]; decide
  refine lv_ldc2 (v := 3) hx hb E.2.2.2.1 (E.2.2.2.2.1 _ (t_w7 212 rfl rfl)) dX10_isTape_3 ?_
  refine lv_topl (fun z3 ez3 => ?_)
  have tz3 : z3.toInt = 3 := by rw [ez3]; decide
  refine tc_callp (mc_runS (As := [.long z1, .long z2, .long z3]) (rest := []) E hG (c_X10_in l G Y z1 z2 z3) ks_X10_in ml_X10_87 ⟨rfl, rfl, Nat.le_of_ble_eq_true rfl, Nat.le_of_ble_eq_true rfl⟩ rfl hl.1 rfl (Nat.le_of_ble_eq_true rfl) ⟨Nat.zero_le _, Nat.zero_le _⟩ dX10_isTape_6) (fun r4 pr4 => ?_)
  have pr4 : ((r4.toInt = 1 ∧ z2.toInt ≤ z1.toInt ∧ z1.toInt ≤ z3.toInt) ∨ (r4.toInt = 0 ∧ (z1.toInt < z2.toInt ∨ z3.toInt < z1.toInt))) := pr4
  exact tc_pret E hr hlk eH eL (t_nz (by omega) (by omega)).1 (show (r4.toInt = 1 ∧ 0 ≤ x0.toInt ∧ x0.toInt ≤ 3) ∨ (r4.toInt = 0 ∧ (x0.toInt < 0 ∨ 3 < x0.toInt)) by omega) dX10_isTape_9

set_option maxHeartbeats 4000000 in
set_option maxRecDepth 100000 in
theorem c_X10_narrowed (l : Launch) (G : tG) (Y : mY) (x0 : Int64) (x2 : Int32)  : Met l yX10_narrowed (.code yX10_narrowed cX10_narrowed 3 (some .long) :: tWS) (tRm 0 0) (va_Pc [.long x0, .int x2] (mPre G Y)) (tQpl (fun r => True)) 0 0 tNo := by
  refine mc_met (by decide) (Nat.le_of_ble_eq_true rfl) ?_
  intro p e s m below meth c E hr hlk hG ls hl
  have hl : lv_has ls 3 [(0, .long x0), (2, .int x2)] := hl
  have hx := E.1
  have hb := E.2.1
  obtain ⟨H, eH⟩ : ∃ H, H = s.heap := ⟨_, rfl⟩
  obtain ⟨locs, eL⟩ : ∃ x : List Loc, x = [] := ⟨_, rfl⟩
  have hG : mGH G Y s H locs := by rw [eH, eL]; exact hG
  suffices hW : W p l e (tRm 0 0) s m ([.long x0, .int x2] : List Value).toArray below meth c H locs 0 0 (MQ below (tQpl (fun r => True)) ([.long x0, .int x2] : List Value).toArray s 0 0 tNo) (F0 m 0 ls []) by subst eH; subst eL; exact hW
  refine lv_iload_n hx hb dX10_narrowed_0 rfl (lv_at hl 1 rfl) ?_
  refine lv_if_ne (tgt := 11) hx hb dX10_narrowed_1 (by decide) (fun c1 => ?_) (fun c1 => ?_)
  · skip
    have ic1 := tn_ne rfl kI_0 c1
    refine lv_iload_n hx hb dX10_narrowed_11 rfl (lv_at hl 1 rfl) ?_
    refine lv_iconst (v := 1) hx hb dX10_narrowed_12 (by decide) ?_
    refine lv_icmp_ne (tgt := 23) hx hb dX10_narrowed_13 (by decide) (fun c2 => ?_) (fun c2 => ?_)
    · skip
      have ic2 := tn_ne rfl kI_1 c2
      refine lv_iload_n hx hb dX10_narrowed_23 rfl (lv_at hl 1 rfl) ?_
      refine lv_iconst (v := 2) hx hb dX10_narrowed_24 (by decide) ?_
      refine lv_icmp_ne (tgt := 34) hx hb dX10_narrowed_25 (by decide) (fun c3 => ?_) (fun c3 => ?_)
      · skip
        have ic3 := tn_ne rfl kI_2 c3
        refine lv_lload_n hx hb dX10_narrowed_34 rfl (lv_at hl 0 rfl) ?_
        exact tc_plret E hr hlk eH eL trivial dX10_narrowed_35
      · skip
        have ic3 := tn_eq rfl kI_2 c3
        refine lv_lload_n hx hb dX10_narrowed_28 rfl (lv_at hl 0 rfl) ?_
        refine lv_l2i hx hb dX10_narrowed_29 rfl ?_
        refine lv_topi (fun z4 ez4 => ?_)
        refine lv_i2l hx hb dX10_narrowed_30 rfl ?_
        refine lv_topl (fun z5 ez5 => ?_)
        have tz5 := tl_i2l ez5
        refine lv_goto (tgt := 35) hx hb dX10_narrowed_31 (by decide) ?_
        exact tc_plret E hr hlk eH eL trivial dX10_narrowed_35
    · skip
      have ic2 := tn_eq rfl kI_1 c2
      refine lv_lload_n hx hb dX10_narrowed_16 rfl (lv_at hl 0 rfl) ?_
      refine lv_l2i hx hb dX10_narrowed_17 rfl ?_
      refine lv_topi (fun z6 ez6 => ?_)
      refine lv_i2s hx hb dX10_narrowed_18 rfl ?_
      refine lv_topi (fun z7 ez7 => ?_)
      refine lv_i2l hx hb dX10_narrowed_19 rfl ?_
      refine lv_topl (fun z8 ez8 => ?_)
      have tz8 := tl_i2l ez8
      refine lv_goto (tgt := 35) hx hb dX10_narrowed_20 (by decide) ?_
      exact tc_plret E hr hlk eH eL trivial dX10_narrowed_35
  · skip
    have ic1 := tn_eq rfl kI_0 c1
    refine lv_lload_n hx hb dX10_narrowed_4 rfl (lv_at hl 0 rfl) ?_
    refine lv_l2i hx hb dX10_narrowed_5 rfl ?_
    refine lv_topi (fun z9 ez9 => ?_)
    refine lv_i2b hx hb dX10_narrowed_6 rfl ?_
    refine lv_topi (fun z10 ez10 => ?_)
    refine lv_i2l hx hb dX10_narrowed_7 rfl ?_
    refine lv_topl (fun z11 ez11 => ?_)
    have tz11 := tl_i2l ez11
    refine lv_goto (tgt := 35) hx hb dX10_narrowed_8 (by decide) ?_
    exact tc_plret E hr hlk eH eL trivial dX10_narrowed_35

set_option maxHeartbeats 4000000 in
set_option maxRecDepth 100000 in
theorem c_X10_child (l : Launch) (G : tG) (Y : mY) (h0 : Nat) (x1 : Int32) (x2 : Int32) (t0 : Y.1 h0 = 1) : Met l yX10_child (.code yX10_child cX10_child 3 (some .int) :: tWS) (tRm 2 46) (va_Pc [.ref h0, .int x1, .int x2] (mPre G Y)) (tQp (fun r => True)) 0 0 tNo := by
  refine mc_met (by decide) (Nat.le_of_ble_eq_true rfl) ?_
  intro p e s m below meth c E hr hlk hG ls hl
  have hl : lv_has ls 3 [(0, .ref h0), (1, .int x1), (2, .int x2)] := hl
  have hx := E.1
  have hb := E.2.1
  obtain ⟨H, eH⟩ : ∃ H, H = s.heap := ⟨_, rfl⟩
  obtain ⟨locs, eL⟩ : ∃ x : List Loc, x = [] := ⟨_, rfl⟩
  have hG : mGH G Y s H locs := by rw [eH, eL]; exact hG
  suffices hW : W p l e (tRm 2 46) s m ([.ref h0, .int x1, .int x2] : List Value).toArray below meth c H locs 0 0 (MQ below (tQp (fun r => True)) ([.ref h0, .int x1, .int x2] : List Value).toArray s 0 0 tNo) (F0 m 0 ls []) by subst eH; subst eL; exact hW
  refine lv_aload_n hx hb dX10_child_0 rfl (lv_at hl 0 rfl) ?_
  refine lv_iload_n hx hb dX10_child_1 rfl (lv_at hl 1 rfl) ?_
  refine tc_callp (mc_runV (As := [.int x1]) (rest := []) E hG (c_X10_isBox l G Y h0 x1 t0) t0 rfl kv_X10_isBox ml_X10_127 ⟨rfl, rfl, Nat.le_of_ble_eq_true rfl, Nat.le_of_ble_eq_true rfl⟩ rfl hl.1 rfl (Nat.le_of_ble_eq_true rfl) ⟨Nat.zero_le _, Nat.zero_le _⟩ dX10_child_2) (fun r1 pr1 => ?_)
  have pr1 : (r1.toInt = 1 ∧ 0 ≤ x1.toInt ∧ x1.toInt ≤ 23 ∧ mV Y (ix x1.toInt 0) 1) ∨ (r1.toInt = 0 ∧ (x1.toInt < 0 ∨ 23 < x1.toInt ∨ ∃ v : Int32, ¬ v.toInt = 1 ∧ mV Y (ix x1.toInt 0) v)) := pr1
  refine lv_if_eq (tgt := 34) hx hb dX10_child_5 (by decide) (fun c2 => ?_) (fun c2 => ?_)
  · skip
    have ic2 := tn_eq rfl kI_0 c2
    refine lv_iconst (v := -1) hx hb dX10_child_34 (by decide) ?_
    exact tc_pret E hr hlk eH eL rfl trivial dX10_child_35
  · skip
    have ic2 := tn_ne rfl kI_0 c2
    refine lv_iload_n hx hb dX10_child_8 rfl (lv_at hl 2 rfl) ?_
    refine lv_i2l hx hb dX10_child_9 rfl ?_
    refine lv_topl (fun z3 ez3 => ?_)
    have tz3 := tl_i2l ez3
    refine lv_lconst (v := 0) hx hb dX10_child_10 (by decide) ?_
    refine lv_topl (fun z4 ez4 => ?_)
    have tz4 : z4.toInt = 0 := by rw [ez4]; decide
    refine lv_aload_n hx hb dX10_child_11 rfl (lv_at hl 0 rfl) ?_
    refine lv_iload_n hx hb dX10_child_12 rfl (lv_at hl 1 rfl) ?_
    refine tc_callp (mc_runV (As := [.int x1]) (rest := [.long z4, .long z3]) E hG (c_X10_manyOf l G Y h0 x1 t0 (by omega) (by omega)) t0 rfl kv_X10_manyOf ml_X10_117 ⟨rfl, rfl, Nat.le_of_ble_eq_true rfl, Nat.le_of_ble_eq_true rfl⟩ rfl hl.1 rfl (Nat.le_of_ble_eq_true rfl) ⟨Nat.zero_le _, Nat.zero_le _⟩ dX10_child_13) (fun r5 pr5 => ?_)
    have pr5 : mV Y (ix x1.toInt 10) r5 := pr5
    have br5 := mV_10 pr5 (by omega)
    refine lv_iconst (v := 1) hx hb dX10_child_16 (by decide) ?_
    refine lv_isub hx hb dX10_child_17 ?_
    refine lv_topi (fun z6 ez6 => ?_)
    have tz6 := tn_sub ez6 rfl kI_1 (by omega) (by omega)
    refine lv_i2l hx hb dX10_child_18 rfl ?_
    refine lv_topl (fun z7 ez7 => ?_)
    have tz7 := tl_i2l ez7
    refine tc_callp (mc_runS (As := [.long z3, .long z4, .long z7]) (rest := []) E hG (c_X10_in l G Y z3 z4 z7) ks_X10_in ml_X10_87 ⟨rfl, rfl, Nat.le_of_ble_eq_true rfl, Nat.le_of_ble_eq_true rfl⟩ rfl hl.1 rfl (Nat.le_of_ble_eq_true rfl) ⟨Nat.zero_le _, Nat.zero_le _⟩ dX10_child_19) (fun r8 pr8 => ?_)
    have pr8 : ((r8.toInt = 1 ∧ z4.toInt ≤ z3.toInt ∧ z3.toInt ≤ z7.toInt) ∨ (r8.toInt = 0 ∧ (z3.toInt < z4.toInt ∨ z7.toInt < z3.toInt))) := pr8
    refine lv_if_eq (tgt := 34) hx hb dX10_child_22 (by decide) (fun c9 => ?_) (fun c9 => ?_)
    · skip
      have ic9 := tn_eq rfl kI_0 c9
      refine lv_iconst (v := -1) hx hb dX10_child_34 (by decide) ?_
      exact tc_pret E hr hlk eH eL rfl trivial dX10_child_35
    · skip
      have ic9 := tn_ne rfl kI_0 c9
      refine lv_aload_n hx hb dX10_child_25 rfl (lv_at hl 0 rfl) ?_
      refine lv_iload_n hx hb dX10_child_26 rfl (lv_at hl 1 rfl) ?_
      refine lv_iload_n hx hb dX10_child_27 rfl (lv_at hl 2 rfl) ?_
      refine tc_callp (mc_runV (As := [.int x1, .int x2]) (rest := []) E hG (c_X10_childOf l G Y h0 x1 x2 t0 (by omega) (by omega) (by omega) (by omega)) t0 rfl kv_X10_childOf ml_X10_153 ⟨rfl, rfl, Nat.le_of_ble_eq_true rfl, Nat.le_of_ble_eq_true rfl⟩ rfl hl.1 rfl (Nat.le_of_ble_eq_true rfl) ⟨Nat.zero_le _, Nat.zero_le _⟩ dX10_child_28) (fun r10 pr10 => ?_)
      have pr10 : mV Y (ix x1.toInt (11 + x2.toInt)) r10 := pr10
      have br10 := mV_r 11 18 0 23 pr10 (by omega) (by omega) (by omega) (by decide) (by decide)
      refine lv_goto (tgt := 35) hx hb dX10_child_31 (by decide) ?_
      exact tc_pret E hr hlk eH eL rfl trivial dX10_child_35

set_option maxHeartbeats 4000000 in
set_option maxRecDepth 100000 in
theorem c_X10_bounds (l : Launch) (G : tG) (Y : mY) (h0 : Nat) (x1 : Int32) (x2 : Int32) (t0 : Y.1 h0 = 1) : Met l yX10_bounds (.code yX10_bounds cX10_bounds 3 (some .int) :: tWS) (tRm 2 46) (va_Pc [.ref h0, .int x1, .int x2] (mPre G Y)) (tQp (fun r => True)) 0 0 tNo := by
  refine mc_met (by decide) (Nat.le_of_ble_eq_true rfl) ?_
  intro p e s m below meth c E hr hlk hG ls hl
  have hl : lv_has ls 3 [(0, .ref h0), (1, .int x1), (2, .int x2)] := hl
  have hx := E.1
  have hb := E.2.1
  obtain ⟨H, eH⟩ : ∃ H, H = s.heap := ⟨_, rfl⟩
  obtain ⟨locs, eL⟩ : ∃ x : List Loc, x = [] := ⟨_, rfl⟩
  have hG : mGH G Y s H locs := by rw [eH, eL]; exact hG
  suffices hW : W p l e (tRm 2 46) s m ([.ref h0, .int x1, .int x2] : List Value).toArray below meth c H locs 0 0 (MQ below (tQp (fun r => True)) ([.ref h0, .int x1, .int x2] : List Value).toArray s 0 0 tNo) (F0 m 0 ls []) by subst eH; subst eL; exact hW
  refine lv_aload_n hx hb dX10_bounds_0 rfl (lv_at hl 0 rfl) ?_
  refine lv_iload_n hx hb dX10_bounds_1 rfl (lv_at hl 1 rfl) ?_
  refine tc_callp (mc_runV (As := [.int x1]) (rest := []) E hG (c_X10_isBox l G Y h0 x1 t0) t0 rfl kv_X10_isBox ml_X10_127 ⟨rfl, rfl, Nat.le_of_ble_eq_true rfl, Nat.le_of_ble_eq_true rfl⟩ rfl hl.1 rfl (Nat.le_of_ble_eq_true rfl) ⟨Nat.zero_le _, Nat.zero_le _⟩ dX10_bounds_2) (fun r1 pr1 => ?_)
  have pr1 : (r1.toInt = 1 ∧ 0 ≤ x1.toInt ∧ x1.toInt ≤ 23 ∧ mV Y (ix x1.toInt 0) 1) ∨ (r1.toInt = 0 ∧ (x1.toInt < 0 ∨ 23 < x1.toInt ∨ ∃ v : Int32, ¬ v.toInt = 1 ∧ mV Y (ix x1.toInt 0) v)) := pr1
  refine lv_if_eq (tgt := 20) hx hb dX10_bounds_5 (by decide) (fun c2 => ?_) (fun c2 => ?_)
  · skip
    have ic2 := tn_eq rfl kI_0 c2
    refine lv_iconst (v := -1) hx hb dX10_bounds_20 (by decide) ?_
    exact tc_pret E hr hlk eH eL rfl trivial dX10_bounds_21
  · skip
    have ic2 := tn_ne rfl kI_0 c2
    refine lv_iload_n hx hb dX10_bounds_8 rfl (lv_at hl 2 rfl) ?_
    refine lv_i2l hx hb dX10_bounds_9 rfl ?_
    refine lv_topl (fun z3 ez3 => ?_)
    have tz3 := tl_i2l ez3
    refine lv_lconst (v := 0) hx hb dX10_bounds_10 (by decide) ?_
    refine lv_topl (fun z4 ez4 => ?_)
    have tz4 : z4.toInt = 0 := by rw [ez4]; decide
    refine lv_ldc2 (v := 3) hx hb E.2.2.2.1 (E.2.2.2.2.1 _ (t_w7 212 rfl rfl)) dX10_bounds_11 ?_
    refine lv_topl (fun z5 ez5 => ?_)
    have tz5 : z5.toInt = 3 := by rw [ez5]; decide
    refine tc_callp (mc_runS (As := [.long z3, .long z4, .long z5]) (rest := []) E hG (c_X10_in l G Y z3 z4 z5) ks_X10_in ml_X10_87 ⟨rfl, rfl, Nat.le_of_ble_eq_true rfl, Nat.le_of_ble_eq_true rfl⟩ rfl hl.1 rfl (Nat.le_of_ble_eq_true rfl) ⟨Nat.zero_le _, Nat.zero_le _⟩ dX10_bounds_14) (fun r6 pr6 => ?_)
    have pr6 : ((r6.toInt = 1 ∧ z4.toInt ≤ z3.toInt ∧ z3.toInt ≤ z5.toInt) ∨ (r6.toInt = 0 ∧ (z3.toInt < z4.toInt ∨ z5.toInt < z3.toInt))) := pr6
    refine lv_if_ne (tgt := 22) hx hb dX10_bounds_17 (by decide) (fun c7 => ?_) (fun c7 => ?_)
    · skip
      have ic7 := tn_ne rfl kI_0 c7
      refine lv_aload_n hx hb dX10_bounds_22 rfl (lv_at hl 0 rfl) ?_
      refine lv_iload_n hx hb dX10_bounds_23 rfl (lv_at hl 1 rfl) ?_
      refine lv_bipush (v := 25) hx hb dX10_bounds_24 (by decide) ?_
      refine tc_callp (mc_runV (As := [.int x1, .int 25]) (rest := []) E hG (c_X10_get l G Y h0 x1 (25 : Int32) t0 (by omega) (by omega) (by decide) (by decide)) t0 rfl kv_X10_get ml_X10_91 ⟨rfl, rfl, Nat.le_of_ble_eq_true rfl, Nat.le_of_ble_eq_true rfl⟩ rfl hl.1 rfl (Nat.le_of_ble_eq_true rfl) ⟨Nat.zero_le _, Nat.zero_le _⟩ dX10_bounds_26) (fun r8 pr8 => ?_)
      have pr8 : mV Y (ix x1.toInt (25 : Int32).toInt) r8 := pr8
      have pr8 := mV_l pr8 kI_25
      have br8 := mV_25 pr8 (by omega)
      have k9 := kI_25
      refine lv_if_ne (tgt := 37) hx hb dX10_bounds_29 (by decide) (fun c10 => ?_) (fun c10 => ?_)
      · skip
        have ic10 := tn_ne rfl kI_0 c10
        refine lv_aload_n hx hb dX10_bounds_37 rfl (lv_at hl 0 rfl) ?_
        refine lv_iload_n hx hb dX10_bounds_38 rfl (lv_at hl 1 rfl) ?_
        refine lv_bipush (v := 26) hx hb dX10_bounds_39 (by decide) ?_
        refine lv_iload_n hx hb dX10_bounds_41 rfl (lv_at hl 2 rfl) ?_
        refine lv_iadd hx hb dX10_bounds_42 ?_
        refine lv_topi (fun z11 ez11 => ?_)
        have tz11 := tn_add ez11 kI_26 rfl (by omega) (by omega)
        refine tc_callp (mc_runV (As := [.int x1, .int z11]) (rest := []) E hG (c_X10_get l G Y h0 x1 z11 t0 (by omega) (by omega) (by omega) (by omega)) t0 rfl kv_X10_get ml_X10_91 ⟨rfl, rfl, Nat.le_of_ble_eq_true rfl, Nat.le_of_ble_eq_true rfl⟩ rfl hl.1 rfl (Nat.le_of_ble_eq_true rfl) ⟨Nat.zero_le _, Nat.zero_le _⟩ dX10_bounds_43) (fun r12 pr12 => ?_)
        have pr12 : mV Y (ix x1.toInt z11.toInt) r12 := pr12
        have br12 := mV_r 26 29 (0) (1000) pr12 (by omega) (by omega) (by omega) (by decide) (by decide)
        exact tc_pret E hr hlk eH eL rfl trivial dX10_bounds_46
      · skip
        have ic10 := tn_eq rfl kI_0 c10
        refine lv_bipush (v := -5) hx hb dX10_bounds_32 (by decide) ?_
        refine lv_goto (tgt := 46) hx hb dX10_bounds_34 (by decide) ?_
        exact tc_pret E hr hlk eH eL rfl trivial dX10_bounds_46
    · skip
      have ic7 := tn_eq rfl kI_0 c7
      refine lv_iconst (v := -1) hx hb dX10_bounds_20 (by decide) ?_
      exact tc_pret E hr hlk eH eL rfl trivial dX10_bounds_21

set_option maxHeartbeats 4000000 in
set_option maxRecDepth 100000 in
theorem c_X10_told (l : Launch) (G : tG) (Y : mY) (h0 : Nat) (x1 : Int32) (t0 : Y.1 h0 = 1) : Met l yX10_told (.code yX10_told cX10_told 2 (some .int) :: tWS) (tRm 3 69) (va_Pc [.ref h0, .int x1] (mPre G Y)) (tQp (fun r => True)) 0 0 tNo := by
  refine mc_met (by decide) (Nat.le_of_ble_eq_true rfl) ?_
  intro p e s m below meth c E hr hlk hG ls hl
  have hl : lv_has ls 2 [(0, .ref h0), (1, .int x1)] := hl
  have hx := E.1
  have hb := E.2.1
  obtain ⟨H, eH⟩ : ∃ H, H = s.heap := ⟨_, rfl⟩
  obtain ⟨locs, eL⟩ : ∃ x : List Loc, x = [] := ⟨_, rfl⟩
  have hG : mGH G Y s H locs := by rw [eH, eL]; exact hG
  suffices hW : W p l e (tRm 3 69) s m ([.ref h0, .int x1] : List Value).toArray below meth c H locs 0 0 (MQ below (tQp (fun r => True)) ([.ref h0, .int x1] : List Value).toArray s 0 0 tNo) (F0 m 0 ls []) by subst eH; subst eL; exact hW
  refine lv_iload_n hx hb dX10_told_0 rfl (lv_at hl 1 rfl) ?_
  rcases (show (x1.toInt < 0 ∨ 13 < x1.toInt) ∨ x1.toInt = 0 ∨ x1.toInt = 1 ∨ x1.toInt = 2 ∨ x1.toInt = 3 ∨ x1.toInt = 4 ∨ x1.toInt = 5 ∨ x1.toInt = 6 ∨ x1.toInt = 7 ∨ x1.toInt = 8 ∨ x1.toInt = 9 ∨ x1.toInt = 10 ∨ x1.toInt = 11 ∨ x1.toInt = 12 ∨ x1.toInt = 13 by omega) with k1 | k1 | k1 | k1 | k1 | k1 | k1 | k1 | k1 | k1 | k1 | k1 | k1 | k1 | k1
  · refine lv_tableOut (tgt := 173) hx hb dX10_told_1 k1 (by decide) ?_
    refine lv_iconst (v := -1) hx hb dX10_told_173 (by decide) ?_
    exact tc_pret E hr hlk eH eL rfl trivial dX10_told_174
  · refine lv_tableIn (off := 71) (tgt := 72) hx hb dX10_told_1 (by rw [k1]; decide) (by rw [k1]; decide) (by rw [k1]; rfl) (by decide) ?_
    refine lv_aload_n hx hb dX10_told_72 rfl (lv_at hl 0 rfl) ?_
    refine mc_getn E hG t0 ff_X10_9 dX10_told_73 (fun oa2 hoa2 => ?_)
    refine lv_iconst (v := 1) hx hb dX10_told_76 (by decide) ?_
    refine mc_nald E hG hoa2 hG.2.2.1 (t_in (by decide) (by decide)) dX10_told_77 (fun z3 lz3 uz3 qz3 => ?_)
    have lz3 : 0 ≤ z3.toInt := lz3
    have uz3 : z3.toInt ≤ 200 := uz3
    exact tc_pret E hr hlk eH eL rfl trivial dX10_told_78
  · refine lv_tableIn (off := 78) (tgt := 79) hx hb dX10_told_1 (by rw [k1]; decide) (by rw [k1]; decide) (by rw [k1]; rfl) (by decide) ?_
    refine lv_aload_n hx hb dX10_told_79 rfl (lv_at hl 0 rfl) ?_
    refine mc_getn E hG t0 ff_X10_9 dX10_told_80 (fun oa4 hoa4 => ?_)
    refine lv_iconst (v := 2) hx hb dX10_told_83 (by decide) ?_
    refine mc_nald E hG hoa4 hG.2.2.1 (t_in (by decide) (by decide)) dX10_told_84 (fun z5 lz5 uz5 qz5 => ?_)
    have lz5 : 0 ≤ z5.toInt := lz5
    have uz5 : z5.toInt ≤ 1000 := uz5
    exact tc_pret E hr hlk eH eL rfl trivial dX10_told_85
  · refine lv_tableIn (off := 85) (tgt := 86) hx hb dX10_told_1 (by rw [k1]; decide) (by rw [k1]; decide) (by rw [k1]; rfl) (by decide) ?_
    refine lv_aload_n hx hb dX10_told_86 rfl (lv_at hl 0 rfl) ?_
    refine mc_getn E hG t0 ff_X10_9 dX10_told_87 (fun oa6 hoa6 => ?_)
    refine lv_iconst (v := 0) hx hb dX10_told_90 (by decide) ?_
    refine mc_nald E hG hoa6 hG.2.2.1 (t_in (by decide) (by decide)) dX10_told_91 (fun z7 lz7 uz7 qz7 => ?_)
    have lz7 : -1 ≤ z7.toInt := lz7
    have uz7 : z7.toInt ≤ 23 := uz7
    refine lv_if_ge (tgt := 100) hx hb dX10_told_92 (by decide) (fun c8 => ?_) (fun c8 => ?_)
    · skip
      have ic8 := tn_le kI_0 rfl c8
      refine lv_aload_n hx hb dX10_told_100 rfl (lv_at hl 0 rfl) ?_
      refine mc_getn E hG t0 ff_X10_9 dX10_told_101 (fun oa9 hoa9 => ?_)
      refine lv_iconst (v := 0) hx hb dX10_told_104 (by decide) ?_
      refine mc_nald E hG hoa9 hG.2.2.1 (t_in (by decide) (by decide)) dX10_told_105 (fun z10 lz10 uz10 qz10 => ?_)
      have lz10 : -1 ≤ z10.toInt := lz10
      have uz10 : z10.toInt ≤ 23 := uz10
      exact tc_pret E hr hlk eH eL rfl trivial dX10_told_106
    · skip
      have ic8 := tn_nle kI_0 rfl c8
      refine lv_bipush (v := -5) hx hb dX10_told_95 (by decide) ?_
      refine lv_goto (tgt := 106) hx hb dX10_told_97 (by decide) ?_
      exact tc_pret E hr hlk eH eL rfl trivial dX10_told_106
  · refine lv_tableIn (off := 106) (tgt := 107) hx hb dX10_told_1 (by rw [k1]; decide) (by rw [k1]; decide) (by rw [k1]; rfl) (by decide) ?_
    refine lv_aload_n hx hb dX10_told_107 rfl (lv_at hl 0 rfl) ?_
    refine lv_iconst (v := 0) hx hb dX10_told_108 (by decide) ?_
    refine tc_callp (mc_runV (As := [.int 0]) (rest := []) E hG (c_X10_bitsOf l G Y h0 (0 : Int32) t0 (by decide) (by decide)) t0 rfl kv_X10_bitsOf ml_X10_337 ⟨rfl, rfl, Nat.le_of_ble_eq_true rfl, Nat.le_of_ble_eq_true rfl⟩ rfl hl.1 rfl (Nat.le_of_ble_eq_true rfl) ⟨Nat.zero_le _, Nat.zero_le _⟩ dX10_told_109) (fun r11 pr11 => ?_)
    exact tc_pret E hr hlk eH eL rfl trivial dX10_told_112
  · refine lv_tableIn (off := 112) (tgt := 113) hx hb dX10_told_1 (by rw [k1]; decide) (by rw [k1]; decide) (by rw [k1]; rfl) (by decide) ?_
    refine lv_aload_n hx hb dX10_told_113 rfl (lv_at hl 0 rfl) ?_
    refine lv_bipush (v := 19) hx hb dX10_told_114 (by decide) ?_
    refine tc_callp (mc_runV (As := [.int 19]) (rest := []) E hG (c_X10_bitsOf l G Y h0 (19 : Int32) t0 (by decide) (by decide)) t0 rfl kv_X10_bitsOf ml_X10_337 ⟨rfl, rfl, Nat.le_of_ble_eq_true rfl, Nat.le_of_ble_eq_true rfl⟩ rfl hl.1 rfl (Nat.le_of_ble_eq_true rfl) ⟨Nat.zero_le _, Nat.zero_le _⟩ dX10_told_116) (fun r12 pr12 => ?_)
    exact tc_pret E hr hlk eH eL rfl trivial dX10_told_119
  · refine lv_tableIn (off := 119) (tgt := 120) hx hb dX10_told_1 (by rw [k1]; decide) (by rw [k1]; decide) (by rw [k1]; rfl) (by decide) ?_
    refine lv_aload_n hx hb dX10_told_120 rfl (lv_at hl 0 rfl) ?_
    refine lv_bipush (v := 20) hx hb dX10_told_121 (by decide) ?_
    refine tc_callp (mc_runV (As := [.int 20]) (rest := []) E hG (c_X10_bitsOf l G Y h0 (20 : Int32) t0 (by decide) (by decide)) t0 rfl kv_X10_bitsOf ml_X10_337 ⟨rfl, rfl, Nat.le_of_ble_eq_true rfl, Nat.le_of_ble_eq_true rfl⟩ rfl hl.1 rfl (Nat.le_of_ble_eq_true rfl) ⟨Nat.zero_le _, Nat.zero_le _⟩ dX10_told_123) (fun r13 pr13 => ?_)
    exact tc_pret E hr hlk eH eL rfl trivial dX10_told_126
  · refine lv_tableIn (off := 126) (tgt := 127) hx hb dX10_told_1 (by rw [k1]; decide) (by rw [k1]; decide) (by rw [k1]; rfl) (by decide) ?_
    refine lv_aload_n hx hb dX10_told_127 rfl (lv_at hl 0 rfl) ?_
    refine lv_bipush (v := 34) hx hb dX10_told_128 (by decide) ?_
    refine tc_callp (mc_runV (As := [.int 34]) (rest := []) E hG (c_X10_bitsOf l G Y h0 (34 : Int32) t0 (by decide) (by decide)) t0 rfl kv_X10_bitsOf ml_X10_337 ⟨rfl, rfl, Nat.le_of_ble_eq_true rfl, Nat.le_of_ble_eq_true rfl⟩ rfl hl.1 rfl (Nat.le_of_ble_eq_true rfl) ⟨Nat.zero_le _, Nat.zero_le _⟩ dX10_told_130) (fun r14 pr14 => ?_)
    exact tc_pret E hr hlk eH eL rfl trivial dX10_told_133
  · refine lv_tableIn (off := 133) (tgt := 134) hx hb dX10_told_1 (by rw [k1]; decide) (by rw [k1]; decide) (by rw [k1]; rfl) (by decide) ?_
    refine lv_aload_n hx hb dX10_told_134 rfl (lv_at hl 0 rfl) ?_
    refine mc_geti E hG t0 mi_321 dX10_told_135 (fun z15 lz15 uz15 qz15 => ?_)
    exact tc_pret E hr hlk eH eL rfl trivial dX10_told_138
  · refine lv_tableIn (off := 138) (tgt := 139) hx hb dX10_told_1 (by rw [k1]; decide) (by rw [k1]; decide) (by rw [k1]; rfl) (by decide) ?_
    refine lv_aload_n hx hb dX10_told_139 rfl (lv_at hl 0 rfl) ?_
    refine mc_geti E hG t0 mi_324 dX10_told_140 (fun z16 lz16 uz16 qz16 => ?_)
    exact tc_pret E hr hlk eH eL rfl trivial dX10_told_143
  · refine lv_tableIn (off := 143) (tgt := 144) hx hb dX10_told_1 (by rw [k1]; decide) (by rw [k1]; decide) (by rw [k1]; rfl) (by decide) ?_
    refine lv_aload_n hx hb dX10_told_144 rfl (lv_at hl 0 rfl) ?_
    refine mc_getn E hG t0 ff_X10_9 dX10_told_145 (fun oa17 hoa17 => ?_)
    refine lv_iconst (v := 3) hx hb dX10_told_148 (by decide) ?_
    refine mc_nald E hG hoa17 hG.2.2.1 (t_in (by decide) (by decide)) dX10_told_149 (fun z18 lz18 uz18 qz18 => ?_)
    have lz18 : 0 ≤ z18.toInt := lz18
    have uz18 : z18.toInt ≤ 24 := uz18
    exact tc_pret E hr hlk eH eL rfl trivial dX10_told_150
  · refine lv_tableIn (off := 150) (tgt := 151) hx hb dX10_told_1 (by rw [k1]; decide) (by rw [k1]; decide) (by rw [k1]; rfl) (by decide) ?_
    refine lv_aload_n hx hb dX10_told_151 rfl (lv_at hl 0 rfl) ?_
    refine mc_geti E hG t0 mi_340 dX10_told_152 (fun z19 lz19 uz19 qz19 => ?_)
    exact tc_pret E hr hlk eH eL rfl trivial dX10_told_155
  · refine lv_tableIn (off := 155) (tgt := 156) hx hb dX10_told_1 (by rw [k1]; decide) (by rw [k1]; decide) (by rw [k1]; rfl) (by decide) ?_
    refine lv_aload_n hx hb dX10_told_156 rfl (lv_at hl 0 rfl) ?_
    refine mc_getn E hG t0 ff_X10_9 dX10_told_157 (fun oa20 hoa20 => ?_)
    refine lv_iconst (v := 5) hx hb dX10_told_160 (by decide) ?_
    refine mc_nald E hG hoa20 hG.2.2.1 (t_in (by decide) (by decide)) dX10_told_161 (fun z21 lz21 uz21 qz21 => ?_)
    have lz21 : 0 ≤ z21.toInt := lz21
    have uz21 : z21.toInt ≤ 8 := uz21
    exact tc_pret E hr hlk eH eL rfl trivial dX10_told_162
  · refine lv_tableIn (off := 162) (tgt := 163) hx hb dX10_told_1 (by rw [k1]; decide) (by rw [k1]; decide) (by rw [k1]; rfl) (by decide) ?_
    refine lv_aload_n hx hb dX10_told_163 rfl (lv_at hl 0 rfl) ?_
    refine mc_geti E hG t0 mi_343 dX10_told_164 (fun z22 lz22 uz22 qz22 => ?_)
    exact tc_pret E hr hlk eH eL rfl trivial dX10_told_167
  · refine lv_tableIn (off := 167) (tgt := 168) hx hb dX10_told_1 (by rw [k1]; decide) (by rw [k1]; decide) (by rw [k1]; rfl) (by decide) ?_
    refine lv_aload_n hx hb dX10_told_168 rfl (lv_at hl 0 rfl) ?_
    refine mc_geti E hG t0 mi_202 dX10_told_169 (fun z23 lz23 uz23 qz23 => ?_)
    exact tc_pret E hr hlk eH eL rfl trivial dX10_told_172

