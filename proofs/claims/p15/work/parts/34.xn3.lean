set_option maxHeartbeats 4000000 in
set_option maxRecDepth 100000 in
theorem x_X9_lays (l : Launch) (G : tG) (F : mF) (τ : Nat → Nat) (h0 : Nat) (t0 : τ h0 = 1) (hU : ∀ q, τ q = 2 → q = (G.2.2.1 10)) (hK : AKF F (G.2.2.1 10)) (hC : CINV F (G.2.2.1 10)) (hD : DEPF F (G.2.2.1 10)) : Met l yX9_lays (.code yX9_lays cX9_lays 1 (some .int) :: tWS) (tRm 1092 15076) (va_Pc [.ref h0] (tPre (gF G F) τ)) (tQF G τ (fun r F9 => HRx F F9 (G.2.2.1 10))) 0 0 (tA τ) := by
  refine tc_met (by decide) (Nat.le_of_ble_eq_true rfl) ?_
  intro p e s m below meth c E hSt hr hlk hG ls hl
  have hl : lv_has ls 1 [(0, .ref h0)] := hl
  have hx := E.1
  have hb := E.2.1
  obtain ⟨H, eH⟩ : ∃ H, H = s.heap := ⟨_, rfl⟩
  obtain ⟨locs, eL⟩ : ∃ x : List Loc, x = [] := ⟨_, rfl⟩
  have hG : tGH (gF G F) τ s H locs := by rw [eH, eL]; exact hG
  suffices hW : W p l e (tRm 1092 15076) s m ([.ref h0] : List Value).toArray below meth c H locs 0 0 (MQ below (tQF G τ (fun r F9 => HRx F F9 (G.2.2.1 10))) ([.ref h0] : List Value).toArray s 0 0 (tA τ)) (F0 m 0 ls []) by subst eH; subst eL; exact hW
  clear eH eL
  refine lv_aload_n hx hb dX9_lays_0 rfl (lv_at hl 0 rfl) ?_
  refine tc_getr E hG t0 fr_X9_26 dX9_lays_1 (fun oa1 hoa1 => ?_)
  refine tc_callvF hG (tc_runV (As := []) (rest := []) E hSt hG (x_X3_layOut l G F τ oa1 hoa1 hU hK hC hD) hoa1 rv_5 kv_X3_layOut ml_X9_196 ⟨rfl, rfl, Nat.le_of_ble_eq_true rfl, Nat.le_of_ble_eq_true rfl⟩ rfl hl.1 rfl (Nat.le_of_ble_eq_true rfl) ⟨Nat.zero_le _, Nat.zero_le _⟩ dX9_lays_4) (fun F3 H locs pr2 hG => ?_)
  have E := E.f1 (F' := F3)
  have hSt := hSt.f1 (F' := F3)
  replace pr2 : HRx F F3 (G.2.2.1 10) := pr2
  refine lv_aload_n hx hb dX9_lays_7 rfl (lv_at hl 0 rfl) ?_
  refine lv_aload_n hx hb dX9_lays_8 rfl (lv_at hl 0 rfl) ?_
  refine tc_getr E hG t0 fr_X9_26 dX9_lays_9 (fun oa4 hoa4 => ?_)
  refine tc_geti E hG hoa4 fi_X9_199 dX9_lays_12 (fun z5 _ _ => ?_)
  refine tc_puti E hG t0 fp_X9_202 (t_any1 _) (t_any2 _) dX9_lays_15 (fun H locs hG => ?_)
  refine lv_aload_n hx hb dX9_lays_18 rfl (lv_at hl 0 rfl) ?_
  refine lv_aload_n hx hb dX9_lays_19 rfl (lv_at hl 0 rfl) ?_
  refine tc_getr E hG t0 fr_X9_26 dX9_lays_20 (fun oa6 hoa6 => ?_)
  refine tc_geti E hG hoa6 fi_X9_205 dX9_lays_23 (fun z7 _ _ => ?_)
  refine tc_puti E hG t0 fp_X9_208 (t_any1 _) (t_any2 _) dX9_lays_26 (fun H locs hG => ?_)
  refine lv_aload_n hx hb dX9_lays_29 rfl (lv_at hl 0 rfl) ?_
  refine tc_geti E hG t0 fi_X9_202 dX9_lays_30 (fun z8 _ _ => ?_)
  exact tc_iretF E hr hlk hG rfl pr2 dX9_lays_33
