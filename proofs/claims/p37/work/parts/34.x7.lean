/-- how many bits are set, as it is counted -/
def ush (x : Int32) (k : Int32) : Int32 := (x.toUInt32 >>> (k.toUInt32 &&& Int32.toUInt32 31)).toInt32
def bc1 (x : Int32) : Int32 := x - (ush x 1 &&& 1431655765)
def bc2 (x : Int32) : Int32 := (x &&& 858993459) + (ush x 2 &&& 858993459)
def bc3 (x : Int32) : Int32 := (x + ush x 4) &&& 252645135
def bc4 (x : Int32) : Int32 := x + ush x 8
def bc5 (x : Int32) : Int32 := x + ush x 16
def bcE (x : Int32) : Int32 := bc5 (bc4 (bc3 (bc2 (bc1 x)))) &&& 63

set_option maxHeartbeats 4000000 in
set_option maxRecDepth 100000 in
theorem x_J6_bitCount_0f7a4 (l : Launch) (G : tG) (τ : Nat → Nat) (x0 : Int32)  : Met l yJ6_bitCount_0f7a4 (.code yJ6_bitCount_0f7a4 cJ6_bitCount_0f7a4 1 (some .int) :: tWS) (tRm 0 0) (va_Pc [.int x0] (tPre G τ)) (tQp (fun r => r = bcE x0)) 0 0 tNo := by
  refine tc_met (by decide) (Nat.le_of_ble_eq_true rfl) ?_
  intro p e s m below meth c E hSt hr hlk hG ls hl
  have hl : lv_has ls 1 [(0, .int x0)] := hl
  have hx := E.1
  have hb := E.2.1
  obtain ⟨H, eH⟩ : ∃ H, H = s.heap := ⟨_, rfl⟩
  obtain ⟨locs, eL⟩ : ∃ x : List Loc, x = [] := ⟨_, rfl⟩
  have hG : tGH G τ s H locs := by rw [eH, eL]; exact hG
  suffices hW : W p l e (tRm 0 0) s m ([.int x0] : List Value).toArray below meth c H locs 0 0 (MQ below (tQp (fun r => r = bcE x0)) ([.int x0] : List Value).toArray s 0 0 tNo) (F0 m 0 ls []) by subst eH; subst eL; exact hW
  refine lv_iload_n hx hb dJ6_bitCount_0f7a4_0 rfl (lv_at hl 0 rfl) ?_
  refine lv_iload_n hx hb dJ6_bitCount_0f7a4_1 rfl (lv_at hl 0 rfl) ?_
  refine lv_iconst (v := 1) hx hb dJ6_bitCount_0f7a4_2 (by decide) ?_
  refine lv_iushr hx hb dJ6_bitCount_0f7a4_3 rfl ?_
  refine lv_topi (fun z1 ez1 => ?_)
  refine lv_ldcw (v := 1431655765) hx hb E.2.2.2.1 (E.2.2.2.2.1 _ (t_w3 94 rfl rfl)) dJ6_bitCount_0f7a4_4 ?_
  refine lv_topi (fun z2 ez2 => ?_)
  refine lv_iand hx hb dJ6_bitCount_0f7a4_7 ?_
  refine lv_topi (fun z3 ez3 => ?_)
  refine lv_isub hx hb dJ6_bitCount_0f7a4_8 ?_
  refine lv_topi (fun z4 ez4 => ?_)
  refine lv_istore_n (lv' := [(0, .int z4)]) hx hb dJ6_bitCount_0f7a4_9 rfl hl (by decide) rfl (fun ls hl => ?_)
  refine lv_iload_n hx hb dJ6_bitCount_0f7a4_10 rfl (lv_at hl 0 rfl) ?_
  refine lv_ldcw (v := 858993459) hx hb E.2.2.2.1 (E.2.2.2.2.1 _ (t_w3 95 rfl rfl)) dJ6_bitCount_0f7a4_11 ?_
  refine lv_topi (fun z5 ez5 => ?_)
  refine lv_iand hx hb dJ6_bitCount_0f7a4_14 ?_
  refine lv_topi (fun z6 ez6 => ?_)
  refine lv_iload_n hx hb dJ6_bitCount_0f7a4_15 rfl (lv_at hl 0 rfl) ?_
  refine lv_iconst (v := 2) hx hb dJ6_bitCount_0f7a4_16 (by decide) ?_
  refine lv_iushr hx hb dJ6_bitCount_0f7a4_17 rfl ?_
  refine lv_topi (fun z7 ez7 => ?_)
  refine lv_ldcw (v := 858993459) hx hb E.2.2.2.1 (E.2.2.2.2.1 _ (t_w3 95 rfl rfl)) dJ6_bitCount_0f7a4_18 ?_
  refine lv_topi (fun z8 ez8 => ?_)
  refine lv_iand hx hb dJ6_bitCount_0f7a4_21 ?_
  refine lv_topi (fun z9 ez9 => ?_)
  refine lv_iadd hx hb dJ6_bitCount_0f7a4_22 ?_
  refine lv_topi (fun z10 ez10 => ?_)
  refine lv_istore_n (lv' := [(0, .int z10)]) hx hb dJ6_bitCount_0f7a4_23 rfl hl (by decide) rfl (fun ls hl => ?_)
  refine lv_iload_n hx hb dJ6_bitCount_0f7a4_24 rfl (lv_at hl 0 rfl) ?_
  refine lv_iload_n hx hb dJ6_bitCount_0f7a4_25 rfl (lv_at hl 0 rfl) ?_
  refine lv_iconst (v := 4) hx hb dJ6_bitCount_0f7a4_26 (by decide) ?_
  refine lv_iushr hx hb dJ6_bitCount_0f7a4_27 rfl ?_
  refine lv_topi (fun z11 ez11 => ?_)
  refine lv_iadd hx hb dJ6_bitCount_0f7a4_28 ?_
  refine lv_topi (fun z12 ez12 => ?_)
  refine lv_ldcw (v := 252645135) hx hb E.2.2.2.1 (E.2.2.2.2.1 _ (t_w3 96 rfl rfl)) dJ6_bitCount_0f7a4_29 ?_
  refine lv_topi (fun z13 ez13 => ?_)
  refine lv_iand hx hb dJ6_bitCount_0f7a4_32 ?_
  refine lv_topi (fun z14 ez14 => ?_)
  refine lv_istore_n (lv' := [(0, .int z14)]) hx hb dJ6_bitCount_0f7a4_33 rfl hl (by decide) rfl (fun ls hl => ?_)
  refine lv_iload_n hx hb dJ6_bitCount_0f7a4_34 rfl (lv_at hl 0 rfl) ?_
  refine lv_iload_n hx hb dJ6_bitCount_0f7a4_35 rfl (lv_at hl 0 rfl) ?_
  refine lv_bipush (v := 8) hx hb dJ6_bitCount_0f7a4_36 (by decide) ?_
  refine lv_iushr hx hb dJ6_bitCount_0f7a4_38 rfl ?_
  refine lv_topi (fun z15 ez15 => ?_)
  refine lv_iadd hx hb dJ6_bitCount_0f7a4_39 ?_
  refine lv_topi (fun z16 ez16 => ?_)
  refine lv_istore_n (lv' := [(0, .int z16)]) hx hb dJ6_bitCount_0f7a4_40 rfl hl (by decide) rfl (fun ls hl => ?_)
  refine lv_iload_n hx hb dJ6_bitCount_0f7a4_41 rfl (lv_at hl 0 rfl) ?_
  refine lv_iload_n hx hb dJ6_bitCount_0f7a4_42 rfl (lv_at hl 0 rfl) ?_
  refine lv_bipush (v := 16) hx hb dJ6_bitCount_0f7a4_43 (by decide) ?_
  refine lv_iushr hx hb dJ6_bitCount_0f7a4_45 rfl ?_
  refine lv_topi (fun z17 ez17 => ?_)
  refine lv_iadd hx hb dJ6_bitCount_0f7a4_46 ?_
  refine lv_topi (fun z18 ez18 => ?_)
  refine lv_istore_n (lv' := [(0, .int z18)]) hx hb dJ6_bitCount_0f7a4_47 rfl hl (by decide) rfl (fun ls hl => ?_)
  refine lv_iload_n hx hb dJ6_bitCount_0f7a4_48 rfl (lv_at hl 0 rfl) ?_
  refine lv_bipush (v := 63) hx hb dJ6_bitCount_0f7a4_49 (by decide) ?_
  refine lv_iand hx hb dJ6_bitCount_0f7a4_51 ?_
  refine lv_topi (fun z19 ez19 => ?_)
  exact tc_pret E hr hlk eH eL rfl (show z19 = bcE x0 by (unfold bcE bc5 bc4 bc3 bc2 bc1 ush; simp only [ez19, ez18, ez17, ez16, ez15, ez14, ez13, ez12, ez11, ez10, ez9, ez8, ez7, ez6, ez5, ez4, ez3, ez2, ez1])) dJ6_bitCount_0f7a4_52

set_option maxHeartbeats 4000000 in
set_option maxRecDepth 100000 in
theorem x_X8_countBoxes (l : Launch) (G : tG) (τ : Nat → Nat) (h0 : Nat) (t0 : τ h0 = 2) : Met l yX8_countBoxes (.code yX8_countBoxes cX8_countBoxes 1 (some .int) :: tWS) (tRm 1 20) (va_Pc [.ref h0] (tPre G τ)) (tQp (fun r => r = bcE ((FF G) h0 4))) 0 0 tNo := by
  refine tc_met (by decide) (Nat.le_of_ble_eq_true rfl) ?_
  intro p e s m below meth c E hSt hr hlk hG ls hl
  have hl : lv_has ls 1 [(0, .ref h0)] := hl
  have hx := E.1
  have hb := E.2.1
  obtain ⟨H, eH⟩ : ∃ H, H = s.heap := ⟨_, rfl⟩
  obtain ⟨locs, eL⟩ : ∃ x : List Loc, x = [] := ⟨_, rfl⟩
  have hG : tGH G τ s H locs := by rw [eH, eL]; exact hG
  suffices hW : W p l e (tRm 1 20) s m ([.ref h0] : List Value).toArray below meth c H locs 0 0 (MQ below (tQp (fun r => r = bcE ((FF G) h0 4))) ([.ref h0] : List Value).toArray s 0 0 tNo) (F0 m 0 ls []) by subst eH; subst eL; exact hW
  refine lv_aload_n hx hb dX8_countBoxes_0 rfl (lv_at hl 0 rfl) ?_
  refine tc_getF E hG t0 fi_X8_40 rfl dX8_countBoxes_1 (fun z1 lz1 uz1 wz1 => ?_)
  replace wz1 : z1 = (FF G) h0 4 := wz1
  have cz1 : z1.toInt = ((FF G) h0 4).toInt := by rw [wz1]
  refine tc_callp (tc_runS (As := [.int z1]) (rest := []) E hSt hG (x_J6_bitCount_0f7a4 l G τ z1) ks_J6_bitCount_0f7a4 ml_X8_46 ⟨rfl, rfl, Nat.le_of_ble_eq_true rfl, Nat.le_of_ble_eq_true rfl⟩ rfl hl.1 rfl (Nat.le_of_ble_eq_true rfl) ⟨Nat.zero_le _, Nat.zero_le _⟩ dX8_countBoxes_4) (fun r2 pr2 => ?_)
  have pr2 : r2 = bcE z1 := pr2
  exact tc_pret E hr hlk eH eL rfl (show r2 = bcE ((FF G) h0 4) by (rw [pr2]; simp only [wz1])) dX8_countBoxes_7

set_option maxHeartbeats 4000000 in
set_option maxRecDepth 100000 in
theorem x_X8_drop (l : Launch) (G : tG) (F : mF) (τ : Nat → Nat) (h0 : Nat) (x1 : Int32) (t0 : τ h0 = 2) (l1 : 0 ≤ x1.toInt) (u1 : x1.toInt ≤ 23) (hin : 0 ≤ (F (h0 + 1 + (3 + 4 * x1.toNatClampNeg)) 5).toInt → ∃ j : Nat, (j : Int) < (F (h0 + 1 + (3 + 4 * (F (h0 + 1 + (3 + 4 * x1.toNatClampNeg)) 5).toNatClampNeg)) 10).toInt ∧ (F ((h0 + 1 + (3 + 4 * (F (h0 + 1 + (3 + 4 * x1.toNatClampNeg)) 5).toNatClampNeg)) + 2) j).toInt = x1.toInt) (hne : ¬ (F (h0 + 1 + (3 + 4 * x1.toNatClampNeg)) 5).toInt = x1.toInt) : Met l yX8_drop (.code yX8_drop cX8_drop 4 (some .int) :: tWS) (tRm 30 714) (va_Pc [.ref h0, .int x1] (tPre (gF G F) τ)) (tQF G τ (fun r F9 => ∃ th : Int32, (∀ n : Nat, tB th n ↔ tB (F h0 4) n ∧ ¬ sbF F h0 24 (h0 + 1 + (3 + 4 * x1.toNatClampNeg)) n) ∧ r = bcE (F h0 4) - bcE th ∧ (((0 ≤ (F (h0 + 1 + (3 + 4 * x1.toNatClampNeg)) 5).toInt ∧ (F (h0 + 1 + (3 + 4 * x1.toNatClampNeg)) 5).toInt ≤ 23 ∧ tB th (F (h0 + 1 + (3 + 4 * x1.toNatClampNeg)) 5).toInt.toNat) ∧ ∃ pl : Int32, (0 ≤ pl.toInt ∧ pl.toInt < (F (h0 + 1 + (3 + 4 * (F (h0 + 1 + (3 + 4 * x1.toNatClampNeg)) 5).toNatClampNeg)) 10).toInt ∧ (F ((h0 + 1 + (3 + 4 * (F (h0 + 1 + (3 + 4 * x1.toNatClampNeg)) 5).toNatClampNeg)) + 2) pl.toInt.toNat).toInt = x1.toInt ∧ ∀ j : Nat, (j : Int) < pl.toInt → ¬ (F ((h0 + 1 + (3 + 4 * (F (h0 + 1 + (3 + 4 * x1.toNatClampNeg)) 5).toNatClampNeg)) + 2) j).toInt = x1.toInt) ∧ F9 = rmF (up2 F h0 4 th) (h0 + 1 + (3 + 4 * (F (h0 + 1 + (3 + 4 * x1.toNatClampNeg)) 5).toNatClampNeg)) pl) ∨ (¬ (0 ≤ (F (h0 + 1 + (3 + 4 * x1.toNatClampNeg)) 5).toInt ∧ (F (h0 + 1 + (3 + 4 * x1.toNatClampNeg)) 5).toInt ≤ 23 ∧ tB th (F (h0 + 1 + (3 + 4 * x1.toNatClampNeg)) 5).toInt.toNat) ∧ F9 = up2 (up2 F h0 4 th) h0 9 (-1))))) 0 0 (tA τ) := by
  refine tc_met (by decide) (Nat.le_of_ble_eq_true rfl) ?_
  intro p e s m below meth c E hSt hr hlk hG ls hl
  have hl : lv_has ls 4 [(0, .ref h0), (1, .int x1)] := hl
  have hx := E.1
  have hb := E.2.1
  obtain ⟨H, eH⟩ : ∃ H, H = s.heap := ⟨_, rfl⟩
  obtain ⟨locs, eL⟩ : ∃ x : List Loc, x = [] := ⟨_, rfl⟩
  have hG : tGH (gF G F) τ s H locs := by rw [eH, eL]; exact hG
  suffices hW : W p l e (tRm 30 714) s m ([.ref h0, .int x1] : List Value).toArray below meth c H locs 0 0 (MQ below (tQF G τ (fun r F9 => ∃ th : Int32, (∀ n : Nat, tB th n ↔ tB (F h0 4) n ∧ ¬ sbF F h0 24 (h0 + 1 + (3 + 4 * x1.toNatClampNeg)) n) ∧ r = bcE (F h0 4) - bcE th ∧ (((0 ≤ (F (h0 + 1 + (3 + 4 * x1.toNatClampNeg)) 5).toInt ∧ (F (h0 + 1 + (3 + 4 * x1.toNatClampNeg)) 5).toInt ≤ 23 ∧ tB th (F (h0 + 1 + (3 + 4 * x1.toNatClampNeg)) 5).toInt.toNat) ∧ ∃ pl : Int32, (0 ≤ pl.toInt ∧ pl.toInt < (F (h0 + 1 + (3 + 4 * (F (h0 + 1 + (3 + 4 * x1.toNatClampNeg)) 5).toNatClampNeg)) 10).toInt ∧ (F ((h0 + 1 + (3 + 4 * (F (h0 + 1 + (3 + 4 * x1.toNatClampNeg)) 5).toNatClampNeg)) + 2) pl.toInt.toNat).toInt = x1.toInt ∧ ∀ j : Nat, (j : Int) < pl.toInt → ¬ (F ((h0 + 1 + (3 + 4 * (F (h0 + 1 + (3 + 4 * x1.toNatClampNeg)) 5).toNatClampNeg)) + 2) j).toInt = x1.toInt) ∧ F9 = rmF (up2 F h0 4 th) (h0 + 1 + (3 + 4 * (F (h0 + 1 + (3 + 4 * x1.toNatClampNeg)) 5).toNatClampNeg)) pl) ∨ (¬ (0 ≤ (F (h0 + 1 + (3 + 4 * x1.toNatClampNeg)) 5).toInt ∧ (F (h0 + 1 + (3 + 4 * x1.toNatClampNeg)) 5).toInt ≤ 23 ∧ tB th (F (h0 + 1 + (3 + 4 * x1.toNatClampNeg)) 5).toInt.toNat) ∧ F9 = up2 (up2 F h0 4 th) h0 9 (-1))))) ([.ref h0, .int x1] : List Value).toArray s 0 0 (tA τ)) (F0 m 0 ls []) by subst eH; subst eL; exact hW
  clear eH eL
  have nx1 : x1.toNatClampNeg = x1.toInt.toNat := rfl
  have np : (F (h0 + 1 + (3 + 4 * x1.toNatClampNeg)) 5).toNatClampNeg = (F (h0 + 1 + (3 + 4 * x1.toNatClampNeg)) 5).toInt.toNat := rfl
  refine lv_aload_n hx hb dX8_drop_0 rfl (lv_at hl 0 rfl) ?_
  refine tc_callp (tc_runV (As := []) (rest := []) E hSt hG (x_X8_countBoxes l (gF G F) τ h0 t0) t0 rv_2 kv_X8_countBoxes ml_X8_105 ⟨rfl, rfl, Nat.le_of_ble_eq_true rfl, Nat.le_of_ble_eq_true rfl⟩ rfl hl.1 rfl (Nat.le_of_ble_eq_true rfl) ⟨Nat.zero_le _, Nat.zero_le _⟩ dX8_drop_1) (fun r1 pr1 => ?_)
  have pr1 : r1 = bcE (F h0 4) := pr1
  refine lv_istore_n (lv' := [(2, .int r1), (0, .ref h0), (1, .int x1)]) hx hb dX8_drop_4 rfl hl (by decide) rfl (fun ls hl => ?_)
  refine lv_aload_n hx hb dX8_drop_5 rfl (lv_at hl 1 rfl) ?_
  refine tc_getrF (d := 1) E hG t0 fr_X8_11 rfl dX8_drop_6 (fun ha2 => ?_)
  refine lv_iload_n hx hb dX8_drop_9 rfl (lv_at hl 2 rfl) ?_
  refine tc_aald3F (d := 3 + 4 * x1.toNatClampNeg) E hG ha2 ta_10 rfl (t_in (by omega) (by omega)) dX8_drop_10 (fun ha3 => ?_)
  have nx1 : x1.toNatClampNeg = x1.toInt.toNat := rfl
  refine lv_astore_n (lv' := [(3, .ref ((h0 + 1) + (3 + 4 * x1.toNatClampNeg))), (2, .int r1), (0, .ref h0), (1, .int x1)]) hx hb dX8_drop_11 rfl hl (by decide) rfl (fun ls hl => ?_)
  refine lv_aload_n hx hb dX8_drop_12 rfl (lv_at hl 2 rfl) ?_
  refine lv_aload_n hx hb dX8_drop_13 rfl (lv_at hl 0 rfl) ?_
  refine lv_iconst (v := 0) hx hb dX8_drop_14 (by decide) ?_
  refine tc_callvF hG (tc_runV (As := [.ref ((h0 + 1) + (3 + 4 * x1.toNatClampNeg)), .int 0]) (rest := []) E hSt hG (x_X8_forget l (gF G F) τ 25 F h0 ((h0 + 1) + (3 + 4 * x1.toNatClampNeg)) (0 : Int32) t0 ha3 (by decide) (by first | decide | omega) (by omega)) t0 rv_2 kv_X8_forget ml_X8_109 ⟨rfl, rfl, Nat.le_of_ble_eq_true rfl, Nat.le_of_ble_eq_true rfl⟩ rfl hl.1 rfl (Nat.le_of_ble_eq_true rfl) ⟨Nat.zero_le _, Nat.zero_le _⟩ dX8_drop_15) (fun F5 H locs pr4 hG => ?_)
  have E := E.f1 (F' := F5)
  have hSt := hSt.f1 (F' := F5)
  replace pr4 : ∃ th : Int32, F5 = up2 F h0 4 th ∧ ∀ n : Nat, tB th n ↔ tB (F h0 4) n ∧ ¬ sbF F h0 (24 - (0 : Int32).toInt).toNat ((h0 + 1) + (3 + 4 * x1.toNatClampNeg)) n := pr4
  have k6 := kI_0
  obtain ⟨th, eF5, hth⟩ := pr4
  refine lv_aload_n hx hb dX8_drop_18 rfl (lv_at hl 2 rfl) ?_
  refine lv_aload_n hx hb dX8_drop_19 rfl (lv_at hl 0 rfl) ?_
  refine tc_getF E hG ha3 fi_X8_102 rfl dX8_drop_20 (fun z7 lz7 uz7 wz7 => ?_)
  replace wz7 : z7 = F5 ((h0 + 1) + (3 + 4 * x1.toNatClampNeg)) 5 := wz7
  replace wz7 : z7 = F ((h0 + 1) + (3 + 4 * x1.toNatClampNeg)) 5 := by rw [wz7, eF5, up2_ne (by omega)]
  have cz7 : z7.toInt = (F ((h0 + 1) + (3 + 4 * x1.toNatClampNeg)) 5).toInt := by rw [wz7]
  replace wz7 : z7 = F (h0 + 1 + (3 + 4 * x1.toNatClampNeg)) 5 := wz7
  subst wz7
  refine tc_callp (tc_runV (As := [.int (F (h0 + 1 + (3 + 4 * x1.toNatClampNeg)) 5)]) (rest := []) E hSt hG (x_X8_has l (gF G F5) τ h0 (F (h0 + 1 + (3 + 4 * x1.toNatClampNeg)) 5) t0) t0 rv_2 kv_X8_has ml_X8_55 ⟨rfl, rfl, Nat.le_of_ble_eq_true rfl, Nat.le_of_ble_eq_true rfl⟩ rfl hl.1 rfl (Nat.le_of_ble_eq_true rfl) ⟨Nat.zero_le _, Nat.zero_le _⟩ dX8_drop_23) (fun r8 pr8 => ?_)
  have pr8 : (r8.toInt = 1 ∧ (0 ≤ (F (h0 + 1 + (3 + 4 * x1.toNatClampNeg)) 5).toInt ∧ (F (h0 + 1 + (3 + 4 * x1.toNatClampNeg)) 5).toInt ≤ 23 ∧ tB (F5 h0 4) (F (h0 + 1 + (3 + 4 * x1.toNatClampNeg)) 5).toInt.toNat)) ∨ (r8.toInt = 0 ∧ ¬ (0 ≤ (F (h0 + 1 + (3 + 4 * x1.toNatClampNeg)) 5).toInt ∧ (F (h0 + 1 + (3 + 4 * x1.toNatClampNeg)) 5).toInt ≤ 23 ∧ tB (F5 h0 4) (F (h0 + 1 + (3 + 4 * x1.toNatClampNeg)) 5).toInt.toNat)) := pr8
  rw [show F5 h0 4 = th from (by rw [eF5, up2_at])] at pr8
  refine lv_if_eq (tgt := 65) hx hb dX8_drop_26 (by decide) (fun c9 => ?_) (fun c9 => ?_)
  · skip
    have ic9 := tn_eq rfl kI_0 c9
    refine lv_aload_n hx hb dX8_drop_65 rfl (lv_at hl 2 rfl) ?_
    refine lv_iconst (v := -1) hx hb dX8_drop_66 (by decide) ?_
    refine tc_putF (lo := -2147483648) (hi := 2147483647) E hG t0 (by decide) rfl rfl fq_X8_24 (t_any1 _) (t_any2 _) rfl rfl dX8_drop_67 (fun H locs hG => ?_)
    obtain ⟨F10, eF10⟩ : ∃ Z : mF, Z = up2 F5 h0 9 (-1 : Int32) := ⟨_, rfl⟩
    replace hG : tGH (gF G F10) τ s H locs := by rw [eF10]; exact hG
    have E := E.f1 (F' := F10)
    have hSt := hSt.f1 (F' := F10)
    refine lv_iload_n hx hb dX8_drop_70 rfl (lv_at hl 1 rfl) ?_
    refine lv_aload_n hx hb dX8_drop_71 rfl (lv_at hl 2 rfl) ?_
    refine tc_callp (tc_runV (As := []) (rest := [.int r1]) E hSt hG (x_X8_countBoxes l (gF G F10) τ h0 t0) t0 rv_2 kv_X8_countBoxes ml_X8_105 ⟨rfl, rfl, Nat.le_of_ble_eq_true rfl, Nat.le_of_ble_eq_true rfl⟩ rfl hl.1 rfl (Nat.le_of_ble_eq_true rfl) ⟨Nat.zero_le _, Nat.zero_le _⟩ dX8_drop_72) (fun r11 pr11 => ?_)
    have pr11 : r11 = bcE (F10 h0 4) := pr11
    rw [show F10 h0 4 = th from (by rw [eF10, up2_ne (by omega), eF5, up2_at])] at pr11
    refine lv_isub hx hb dX8_drop_75 ?_
    refine lv_topi (fun z12 ez12 => ?_)
    exact tc_iretF E hr hlk hG rfl ⟨th, hth, (by simp only [ez12, pr11, pr1]), Or.inr ⟨(by grind), (by rw [eF10, eF5])⟩⟩ dX8_drop_76
  · skip
    have ic9 := tn_ne rfl kI_0 c9
    refine lv_aload_n hx hb dX8_drop_29 rfl (lv_at hl 2 rfl) ?_
    refine tc_getrF (d := 1) E hG t0 fr_X8_11 rfl dX8_drop_30 (fun ha13 => ?_)
    refine lv_aload_n hx hb dX8_drop_33 rfl (lv_at hl 0 rfl) ?_
    refine tc_getF E hG ha3 fi_X8_102 rfl dX8_drop_34 (fun z14 lz14 uz14 wz14 => ?_)
    replace wz14 : z14 = F5 ((h0 + 1) + (3 + 4 * x1.toNatClampNeg)) 5 := wz14
    replace wz14 : z14 = F ((h0 + 1) + (3 + 4 * x1.toNatClampNeg)) 5 := by rw [wz14, eF5, up2_ne (by omega)]
    have cz14 : z14.toInt = (F ((h0 + 1) + (3 + 4 * x1.toNatClampNeg)) 5).toInt := by rw [wz14]
    replace wz14 : z14 = F (h0 + 1 + (3 + 4 * x1.toNatClampNeg)) 5 := wz14
    subst wz14
    refine tc_aald3F (d := 3 + 4 * (F (h0 + 1 + (3 + 4 * x1.toNatClampNeg)) 5).toNatClampNeg) E hG ha13 ta_10 rfl (t_in (by omega) (by omega)) dX8_drop_37 (fun ha15 => ?_)
    have nn16 : (F (h0 + 1 + (3 + 4 * x1.toNatClampNeg)) 5).toNatClampNeg = (F (h0 + 1 + (3 + 4 * x1.toNatClampNeg)) 5).toInt.toNat := rfl
    refine lv_aload_n hx hb dX8_drop_38 rfl (lv_at hl 2 rfl) ?_
    refine tc_getrF (d := 1) E hG t0 fr_X8_11 rfl dX8_drop_39 (fun ha17 => ?_)
    refine lv_aload_n hx hb dX8_drop_42 rfl (lv_at hl 0 rfl) ?_
    refine tc_getF E hG ha3 fi_X8_102 rfl dX8_drop_43 (fun z18 lz18 uz18 wz18 => ?_)
    replace wz18 : z18 = F5 ((h0 + 1) + (3 + 4 * x1.toNatClampNeg)) 5 := wz18
    replace wz18 : z18 = F ((h0 + 1) + (3 + 4 * x1.toNatClampNeg)) 5 := by rw [wz18, eF5, up2_ne (by omega)]
    have cz18 : z18.toInt = (F ((h0 + 1) + (3 + 4 * x1.toNatClampNeg)) 5).toInt := by rw [wz18]
    replace wz18 : z18 = F (h0 + 1 + (3 + 4 * x1.toNatClampNeg)) 5 := wz18
    subst wz18
    refine tc_aald3F (d := 3 + 4 * (F (h0 + 1 + (3 + 4 * x1.toNatClampNeg)) 5).toNatClampNeg) E hG ha17 ta_10 rfl (t_in (by omega) (by omega)) dX8_drop_46 (fun ha19 => ?_)
    have nn20 : (F (h0 + 1 + (3 + 4 * x1.toNatClampNeg)) 5).toNatClampNeg = (F (h0 + 1 + (3 + 4 * x1.toNatClampNeg)) 5).toInt.toNat := rfl
    refine lv_iload_n hx hb dX8_drop_47 rfl (lv_at hl 3 rfl) ?_
    refine tc_callp (tc_runV (As := [.int x1]) (rest := [.ref ((h0 + 1) + (3 + 4 * (F (h0 + 1 + (3 + 4 * x1.toNatClampNeg)) 5).toNatClampNeg))]) E hSt hG (x_X0_placeOfKid l (gF G F5) τ ((h0 + 1) + (3 + 4 * (F (h0 + 1 + (3 + 4 * x1.toNatClampNeg)) 5).toNatClampNeg)) x1 ha19) ha19 rv_3 kv_X0_placeOfKid ml_X8_113 ⟨rfl, rfl, Nat.le_of_ble_eq_true rfl, Nat.le_of_ble_eq_true rfl⟩ rfl hl.1 rfl (Nat.le_of_ble_eq_true rfl) ⟨Nat.zero_le _, Nat.zero_le _⟩ dX8_drop_48) (fun r21 pr21 => ?_)
    have pr21 : (r21.toInt = -1 ∧ ∀ j : Nat, (j : Int) < (F5 ((h0 + 1) + (3 + 4 * (F (h0 + 1 + (3 + 4 * x1.toNatClampNeg)) 5).toNatClampNeg)) 10).toInt → ¬ (F5 (((h0 + 1) + (3 + 4 * (F (h0 + 1 + (3 + 4 * x1.toNatClampNeg)) 5).toNatClampNeg)) + 2) j).toInt = x1.toInt) ∨ (0 ≤ r21.toInt ∧ r21.toInt < (F5 ((h0 + 1) + (3 + 4 * (F (h0 + 1 + (3 + 4 * x1.toNatClampNeg)) 5).toNatClampNeg)) 10).toInt ∧ r21.toInt ≤ 7 ∧ (F5 (((h0 + 1) + (3 + 4 * (F (h0 + 1 + (3 + 4 * x1.toNatClampNeg)) 5).toNatClampNeg)) + 2) r21.toInt.toNat).toInt = x1.toInt ∧ ∀ j : Nat, (j : Int) < r21.toInt → ¬ (F5 (((h0 + 1) + (3 + 4 * (F (h0 + 1 + (3 + 4 * x1.toNatClampNeg)) 5).toNatClampNeg)) + 2) j).toInt = x1.toInt) := pr21
    have pk : (0 ≤ r21.toInt ∧ r21.toInt < (F (h0 + 1 + (3 + 4 * (F (h0 + 1 + (3 + 4 * x1.toNatClampNeg)) 5).toNatClampNeg)) 10).toInt ∧ (F ((h0 + 1 + (3 + 4 * (F (h0 + 1 + (3 + 4 * x1.toNatClampNeg)) 5).toNatClampNeg)) + 2) r21.toInt.toNat).toInt = x1.toInt ∧ ∀ j : Nat, (j : Int) < r21.toInt → ¬ (F ((h0 + 1 + (3 + 4 * (F (h0 + 1 + (3 + 4 * x1.toNatClampNeg)) 5).toNatClampNeg)) + 2) j).toInt = x1.toInt) := by
      have g0 : F5 (h0 + 1 + (3 + 4 * (F (h0 + 1 + (3 + 4 * x1.toNatClampNeg)) 5).toNatClampNeg)) 10 = F (h0 + 1 + (3 + 4 * (F (h0 + 1 + (3 + 4 * x1.toNatClampNeg)) 5).toNatClampNeg)) 10 := by rw [eF5, up2_ne (by omega)]
      have g1 : ∀ j, F5 ((h0 + 1 + (3 + 4 * (F (h0 + 1 + (3 + 4 * x1.toNatClampNeg)) 5).toNatClampNeg)) + 2) j = F ((h0 + 1 + (3 + 4 * (F (h0 + 1 + (3 + 4 * x1.toNatClampNeg)) 5).toNatClampNeg)) + 2) j := fun j => by rw [eF5, up2_ne (by omega)]
      obtain ⟨j9, a9, b9⟩ := hin (by omega)
      simp only [g0, g1] at pr21
      rcases pr21 with ⟨_, q9⟩ | ⟨q1, q2, q3, q4, q5⟩
      · exact absurd b9 (q9 j9 a9)
      · exact ⟨q1, q2, q4, q5⟩
    refine tc_callvF hG (tc_runV (As := [.int r21]) (rest := []) E hSt hG (x_X0_removeKid l G F5 τ ((h0 + 1) + (3 + 4 * (F (h0 + 1 + (3 + 4 * x1.toNatClampNeg)) 5).toNatClampNeg)) r21 ha15) ha15 rv_3 kv_X0_removeKid ml_X8_116 ⟨rfl, rfl, Nat.le_of_ble_eq_true rfl, Nat.le_of_ble_eq_true rfl⟩ rfl hl.1 rfl (Nat.le_of_ble_eq_true rfl) ⟨Nat.zero_le _, Nat.zero_le _⟩ dX8_drop_51) (fun F23 H locs pr22 hG => ?_)
    have E := E.f1 (F' := F23)
    have hSt := hSt.f1 (F' := F23)
    replace pr22 : ((r21.toInt < 0 ∨ (F5 ((h0 + 1) + (3 + 4 * (F (h0 + 1 + (3 + 4 * x1.toNatClampNeg)) 5).toNatClampNeg)) 10).toInt ≤ r21.toInt) ∧ F23 = F5) ∨ (0 ≤ r21.toInt ∧ r21.toInt < (F5 ((h0 + 1) + (3 + 4 * (F (h0 + 1 + (3 + 4 * x1.toNatClampNeg)) 5).toNatClampNeg)) 10).toInt ∧ (F5 ((h0 + 1) + (3 + 4 * (F (h0 + 1 + (3 + 4 * x1.toNatClampNeg)) 5).toNatClampNeg)) 10).toInt ≤ 8 ∧ F23 = rmF F5 ((h0 + 1) + (3 + 4 * (F (h0 + 1 + (3 + 4 * x1.toNatClampNeg)) 5).toNatClampNeg)) r21) := pr22
    have gr22 : F5 ((h0 + 1) + (3 + 4 * (F (h0 + 1 + (3 + 4 * x1.toNatClampNeg)) 5).toNatClampNeg)) 10 = F ((h0 + 1) + (3 + 4 * (F (h0 + 1 + (3 + 4 * x1.toNatClampNeg)) 5).toNatClampNeg)) 10 := by rw [eF5, up2_ne (by omega)]
    have qr22 : F23 = rmF F5 ((h0 + 1) + (3 + 4 * (F (h0 + 1 + (3 + 4 * x1.toNatClampNeg)) 5).toNatClampNeg)) r21 := by rcases pr22 with ⟨q9, _⟩ | ⟨_, _, _, q9⟩; (exfalso; rw [gr22] at q9; omega); exact q9
    refine lv_aload_n hx hb dX8_drop_54 rfl (lv_at hl 2 rfl) ?_
    refine lv_aload_n hx hb dX8_drop_55 rfl (lv_at hl 0 rfl) ?_
    refine tc_getF E hG ha3 fi_X8_102 rfl dX8_drop_56 (fun z24 lz24 uz24 wz24 => ?_)
    replace wz24 : z24 = F23 ((h0 + 1) + (3 + 4 * x1.toNatClampNeg)) 5 := wz24
    replace wz24 : z24 = F ((h0 + 1) + (3 + 4 * x1.toNatClampNeg)) 5 := by rw [wz24, qr22, rmF_ne (by omega), eF5, up2_ne (by omega)]
    have cz24 : z24.toInt = (F ((h0 + 1) + (3 + 4 * x1.toNatClampNeg)) 5).toInt := by rw [wz24]
    replace wz24 : z24 = F (h0 + 1 + (3 + 4 * x1.toNatClampNeg)) 5 := wz24
    subst wz24
    refine tc_callv hG (tc_runV (As := [.int (F (h0 + 1 + (3 + 4 * x1.toNatClampNeg)) 5)]) (rest := []) E hSt hG (c_X8_mark l (gF G F23) τ h0 (F (h0 + 1 + (3 + 4 * x1.toNatClampNeg)) 5) t0) t0 rv_2 kv_X8_mark ml_X8_87 ⟨rfl, rfl, Nat.le_of_ble_eq_true rfl, Nat.le_of_ble_eq_true rfl⟩ rfl hl.1 rfl (Nat.le_of_ble_eq_true rfl) ⟨Nat.zero_le _, Nat.zero_le _⟩ dX8_drop_59) (fun H locs hG => ?_)
    refine lv_goto (tgt := 70) hx hb dX8_drop_62 (by decide) ?_
    refine lv_iload_n hx hb dX8_drop_70 rfl (lv_at hl 1 rfl) ?_
    refine lv_aload_n hx hb dX8_drop_71 rfl (lv_at hl 2 rfl) ?_
    refine tc_callp (tc_runV (As := []) (rest := [.int r1]) E hSt hG (x_X8_countBoxes l (gF G F23) τ h0 t0) t0 rv_2 kv_X8_countBoxes ml_X8_105 ⟨rfl, rfl, Nat.le_of_ble_eq_true rfl, Nat.le_of_ble_eq_true rfl⟩ rfl hl.1 rfl (Nat.le_of_ble_eq_true rfl) ⟨Nat.zero_le _, Nat.zero_le _⟩ dX8_drop_72) (fun r26 pr26 => ?_)
    have pr26 : r26 = bcE (F23 h0 4) := pr26
    rw [show F23 h0 4 = th from (by rw [qr22, rmF_ne (by omega), eF5, up2_at])] at pr26
    refine lv_isub hx hb dX8_drop_75 ?_
    refine lv_topi (fun z27 ez27 => ?_)
    exact tc_iretF E hr hlk hG rfl ⟨th, hth, (by simp only [ez27, pr26, pr1]), Or.inl ⟨(by grind), r21, pk, (by rw [qr22, eF5])⟩⟩ dX8_drop_76
