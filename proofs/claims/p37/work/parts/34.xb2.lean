set_option maxHeartbeats 4000000 in
set_option maxRecDepth 100000 in
theorem x_X9_image (l : Launch) (G : tG) (F : mF) (τ : Nat → Nat) (h0 : Nat) (t0 : τ h0 = 1) (h8 : h0 = G.2.2.1 8) (hap : G.2.2.1 11 + 100 ≤ G.2.2.1 10 ∨ G.2.2.1 10 + 100 ≤ G.2.2.1 11) (hax : ¬ (G.2.2.1 10 ≤ h0 ∧ h0 < G.2.2.1 10 + 100) ∧ ¬ (G.2.2.1 11 ≤ h0 ∧ h0 < G.2.2.1 11 + 100)) (h24 : (F (G.2.2.1 10) 8).toInt ≤ 24) : Met l yX9_image (.code yX9_image cX9_image 1 (some .int) :: tWS) (tRm 3 83) (va_Pc [.ref h0] (tPre (gF G F) τ)) (tQF G τ (fun r F9 => ∃ F1 : mF, cpW F F1 (G.2.2.1 11) (G.2.2.1 10) ∧ F9 = up2 F1 h0 11 1 ∧ r = bcE (F (G.2.2.1 10) 4))) 0 0 (tA τ) := by
  refine tc_met (by decide) (Nat.le_of_ble_eq_true rfl) ?_
  intro p e s m below meth c E hSt hr hlk hG ls hl
  have hl : lv_has ls 1 [(0, .ref h0)] := hl
  have hx := E.1
  have hb := E.2.1
  obtain ⟨H, eH⟩ : ∃ H, H = s.heap := ⟨_, rfl⟩
  obtain ⟨locs, eL⟩ : ∃ x : List Loc, x = [] := ⟨_, rfl⟩
  have hG : tGH (gF G F) τ s H locs := by rw [eH, eL]; exact hG
  suffices hW : W p l e (tRm 3 83) s m ([.ref h0] : List Value).toArray below meth c H locs 0 0 (MQ below (tQF G τ (fun r F9 => ∃ F1 : mF, cpW F F1 (G.2.2.1 11) (G.2.2.1 10) ∧ F9 = up2 F1 h0 11 1 ∧ r = bcE (F (G.2.2.1 10) 4))) ([.ref h0] : List Value).toArray s 0 0 (tA τ)) (F0 m 0 ls []) by subst eH; subst eL; exact hW
  clear eH eL
  refine lv_aload_n hx hb dX9_image_0 rfl (lv_at hl 0 rfl) ?_
  refine tc_getrG E hG t0 fr_X9_18 rfl (fun _ => h8) (fun z => by cases z) dX9_image_1 (fun ha1 => ?_)
  replace ha1 : τ (G.2.2.1 11) = 30 := ha1
  refine lv_aload_n hx hb dX9_image_4 rfl (lv_at hl 0 rfl) ?_
  refine tc_getrG E hG t0 fr_X9_12 rfl (fun _ => h8) (fun z => by cases z) dX9_image_5 (fun ha2 => ?_)
  replace ha2 : τ (G.2.2.1 10) = 2 := ha2
  refine tc_callvF hG (tc_runV (As := [.ref (G.2.2.1 10)]) (rest := []) E hSt hG (x_X8_copyFrom_m l G F τ (G.2.2.1 11) (G.2.2.1 10) ha1 ha2 (by omega) (by omega)) ha1 rv_30 kv_X8_copyFrom ml_X9_380 ⟨rfl, rfl, Nat.le_of_ble_eq_true rfl, Nat.le_of_ble_eq_true rfl⟩ rfl hl.1 rfl (Nat.le_of_ble_eq_true rfl) ⟨Nat.zero_le _, Nat.zero_le _⟩ dX9_image_8) (fun F4 H locs pr3 hG => ?_)
  have E := E.f1 (F' := F4)
  have hSt := hSt.f1 (F' := F4)
  replace pr3 : cpW F F4 (G.2.2.1 11) (G.2.2.1 10) := pr3
  refine lv_aload_n hx hb dX9_image_11 rfl (lv_at hl 0 rfl) ?_
  refine lv_iconst (v := 1) hx hb dX9_image_12 (by decide) ?_
  refine tc_putF (lo := 0) (hi := 1) E hG t0 (by decide) rfl rfl fq_X9_383 (by decide) (by decide) (t_nz (by decide) (by decide)).1 (t_nz (by decide) (by decide)).2 dX9_image_13 (fun H locs hG => ?_)
  obtain ⟨F5, eF5⟩ : ∃ Z : mF, Z = up2 F4 h0 11 (1 : Int32) := ⟨_, rfl⟩
  replace hG : tGH (gF G F5) τ s H locs := by rw [eF5]; exact hG
  have E := E.f1 (F' := F5)
  have hSt := hSt.f1 (F' := F5)
  refine lv_aload_n hx hb dX9_image_16 rfl (lv_at hl 0 rfl) ?_
  refine tc_getrG E hG t0 fr_X9_12 rfl (fun _ => h8) (fun z => by cases z) dX9_image_17 (fun ha6 => ?_)
  replace ha6 : τ (G.2.2.1 10) = 2 := ha6
  refine tc_callp (tc_runV (As := []) (rest := []) E hSt hG (x_X8_countBoxes l (gF G F5) τ (G.2.2.1 10) ha6) ha6 rv_2 kv_X8_countBoxes ml_X9_338 ⟨rfl, rfl, Nat.le_of_ble_eq_true rfl, Nat.le_of_ble_eq_true rfl⟩ rfl hl.1 rfl (Nat.le_of_ble_eq_true rfl) ⟨Nat.zero_le _, Nat.zero_le _⟩ dX9_image_20) (fun r7 pr7 => ?_)
  have pr7 : r7 = bcE (F5 (G.2.2.1 10) 4) := pr7
  rw [show F5 (G.2.2.1 10) 4 = F (G.2.2.1 10) 4 from (by rw [eF5, up2_ne (by omega), pr3.2.1 _ _ (by omega)])] at pr7
  exact tc_iretF E hr hlk hG rfl ⟨F4, pr3, (by rw [eF5]), (by rw [pr7])⟩ dX9_image_23

set_option maxHeartbeats 4000000 in
set_option maxRecDepth 100000 in
theorem x_X9_undo (l : Launch) (G : tG) (F : mF) (τ : Nat → Nat) (h0 : Nat) (t0 : τ h0 = 1) (h8 : h0 = G.2.2.1 8) (hap : G.2.2.1 11 + 100 ≤ G.2.2.1 10 ∨ G.2.2.1 10 + 100 ≤ G.2.2.1 11) (hax : ¬ (G.2.2.1 10 ≤ h0 ∧ h0 < G.2.2.1 10 + 100) ∧ ¬ (G.2.2.1 11 ≤ h0 ∧ h0 < G.2.2.1 11 + 100)) (h24 : (F (G.2.2.1 11) 8).toInt ≤ 24) : Met l yX9_undo (.code yX9_undo cX9_undo 1 (some .int) :: tWS) (tRm 3 83) (va_Pc [.ref h0] (tPre (gF G F) τ)) (tQF G τ (fun r F9 => ((F h0 11).toInt = 0 ∧ r = -3 ∧ F9 = F) ∨ (¬ (F h0 11).toInt = 0 ∧ cpW F F9 (G.2.2.1 10) (G.2.2.1 11) ∧ r = bcE (F (G.2.2.1 11) 4)))) 0 0 (tA τ) := by
  refine tc_met (by decide) (Nat.le_of_ble_eq_true rfl) ?_
  intro p e s m below meth c E hSt hr hlk hG ls hl
  have hl : lv_has ls 1 [(0, .ref h0)] := hl
  have hx := E.1
  have hb := E.2.1
  obtain ⟨H, eH⟩ : ∃ H, H = s.heap := ⟨_, rfl⟩
  obtain ⟨locs, eL⟩ : ∃ x : List Loc, x = [] := ⟨_, rfl⟩
  have hG : tGH (gF G F) τ s H locs := by rw [eH, eL]; exact hG
  suffices hW : W p l e (tRm 3 83) s m ([.ref h0] : List Value).toArray below meth c H locs 0 0 (MQ below (tQF G τ (fun r F9 => ((F h0 11).toInt = 0 ∧ r = -3 ∧ F9 = F) ∨ (¬ (F h0 11).toInt = 0 ∧ cpW F F9 (G.2.2.1 10) (G.2.2.1 11) ∧ r = bcE (F (G.2.2.1 11) 4)))) ([.ref h0] : List Value).toArray s 0 0 (tA τ)) (F0 m 0 ls []) by subst eH; subst eL; exact hW
  clear eH eL
  refine lv_aload_n hx hb dX9_undo_0 rfl (lv_at hl 0 rfl) ?_
  refine tc_getF E hG t0 fi_X9_383 rfl dX9_undo_1 (fun z1 lz1 uz1 wz1 => ?_)
  replace wz1 : z1 = F h0 11 := wz1
  have cz1 : z1.toInt = (F h0 11).toInt := by rw [wz1]
  refine lv_if_ne (tgt := 10) hx hb dX9_undo_4 (by decide) (fun c2 => ?_) (fun c2 => ?_)
  · skip
    have ic2 := tn_ne rfl kI_0 c2
    refine lv_aload_n hx hb dX9_undo_10 rfl (lv_at hl 0 rfl) ?_
    refine tc_getrG E hG t0 fr_X9_12 rfl (fun _ => h8) (fun z => by cases z) dX9_undo_11 (fun ha3 => ?_)
    replace ha3 : τ (G.2.2.1 10) = 2 := ha3
    refine lv_aload_n hx hb dX9_undo_14 rfl (lv_at hl 0 rfl) ?_
    refine tc_getrG E hG t0 fr_X9_18 rfl (fun _ => h8) (fun z => by cases z) dX9_undo_15 (fun ha4 => ?_)
    replace ha4 : τ (G.2.2.1 11) = 30 := ha4
    refine tc_callvF hG (tc_runV (As := [.ref (G.2.2.1 11)]) (rest := []) E hSt hG (x_X8_copyFrom l G F τ (G.2.2.1 10) (G.2.2.1 11) ha3 ha4 (by omega) (by omega)) ha3 rv_2 kv_X8_copyFrom ml_X9_380 ⟨rfl, rfl, Nat.le_of_ble_eq_true rfl, Nat.le_of_ble_eq_true rfl⟩ rfl hl.1 rfl (Nat.le_of_ble_eq_true rfl) ⟨Nat.zero_le _, Nat.zero_le _⟩ dX9_undo_18) (fun F6 H locs pr5 hG => ?_)
    have E := E.f1 (F' := F6)
    have hSt := hSt.f1 (F' := F6)
    replace pr5 : cpW F F6 (G.2.2.1 10) (G.2.2.1 11) := pr5
    refine lv_aload_n hx hb dX9_undo_21 rfl (lv_at hl 0 rfl) ?_
    refine tc_getrG E hG t0 fr_X9_12 rfl (fun _ => h8) (fun z => by cases z) dX9_undo_22 (fun ha7 => ?_)
    replace ha7 : τ (G.2.2.1 10) = 2 := ha7
    refine tc_callp (tc_runV (As := []) (rest := []) E hSt hG (x_X8_countBoxes l (gF G F6) τ (G.2.2.1 10) ha7) ha7 rv_2 kv_X8_countBoxes ml_X9_338 ⟨rfl, rfl, Nat.le_of_ble_eq_true rfl, Nat.le_of_ble_eq_true rfl⟩ rfl hl.1 rfl (Nat.le_of_ble_eq_true rfl) ⟨Nat.zero_le _, Nat.zero_le _⟩ dX9_undo_25) (fun r8 pr8 => ?_)
    have pr8 : r8 = bcE (F6 (G.2.2.1 10) 4) := pr8
    exact tc_iretF E hr hlk hG rfl (Or.inr ⟨by omega, pr5, (by rw [pr8, pr5.1.2.1])⟩) dX9_undo_28
  · skip
    have ic2 := tn_eq rfl kI_0 c2
    refine lv_bipush (v := -3) hx hb dX9_undo_7 (by decide) ?_
    exact tc_iretF E hr hlk hG rfl (Or.inl ⟨by omega, rfl, rfl⟩) dX9_undo_9
