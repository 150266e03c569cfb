section TKV
variable {p : Program} {l : Launch} {e : Env} {R : Room} {s : State} {m : MethodId} {args : Array Value} {below : List Frame} {meth : Method} {c : Code} {H : Heap} {locs : List Loc} {Q : State → Prop} {pc : Nat} {ls : Array Slot} {rest st0 : List Value} {G G1 : tG} {τ : Nat → Nat} {cells slots : Nat}
theorem tc_callvK {av : Array Value} (hG : tGH G τ s H locs) (hr : va_Run p l e R s m args below meth c H locs cells slots 0 0 (F0 m pc ls st0) rest (tQv G1 τ av) (tA τ))
    (kk : ∀ (H1 : Heap) (locs1 : List Loc), tGH G1 τ s H1 locs1 → W p l e R s m args below meth c H1 locs1 cells slots Q (F0 m (pc + 3) ls rest)) : W p l e R s m args below meth c H locs cells slots Q (F0 m pc ls st0) :=
  va_callv hr hG.2 (fun _ _ h => h) (fun _ h => h) (fun _ t H1 locs1 ht _ _ hB _ _ hS => kk H1 locs1 ⟨ht ▸ hB, hS⟩)
end TKV
set_option maxHeartbeats 4000000 in
set_option maxRecDepth 100000 in
theorem c_X9_screen (l : Launch) (G : tG) (τ : Nat → Nat) (h0 : Nat) (x1 : Int32) (x2 : Int32) (t0 : τ h0 = 1) (h8 : G.2.2.1 8 = h0) (h6 : G.2.2.1 6 ≠ 0) (y1 y2 : Int32) (k1 : kW G (G.2.2.1 6) 10 = some y1) (k2 : kW G (G.2.2.1 6) 11 = some y2) : Met l yX9_screen (.code yX9_screen cX9_screen 4 (some .int) :: tWS) (tRm 2 43) (va_Pc [.ref h0, .int x1, .int x2] (tPre G τ)) (tQk τ (fun r Z => (sOK x1 x2 → r = 1000 * y1 + y2 ∧ Z = gSet (gSet G (G.2.2.1 6) 10 x1) (G.2.2.1 6) 11 x2) ∧ (¬ sOK x1 x2 → r = -2 ∧ Z = G))) 0 0 (tA τ) := by
  refine tc_met (by decide) (Nat.le_of_ble_eq_true rfl) ?_
  intro p e s m below meth c E hSt hr hlk hG ls hl
  have hl : lv_has ls 4 [(0, .ref h0), (1, .int x1), (2, .int x2)] := hl
  have hx := E.1
  have hb := E.2.1
  obtain ⟨H, eH⟩ : ∃ H, H = s.heap := ⟨_, rfl⟩
  obtain ⟨locs, eL⟩ : ∃ x : List Loc, x = [] := ⟨_, rfl⟩
  have hG : tGH G τ s H locs := by rw [eH, eL]; exact hG
  suffices hW : W p l e (tRm 2 43) s m ([.ref h0, .int x1, .int x2] : List Value).toArray below meth c H locs 0 0 (MQ below (tQk τ (fun r Z => (sOK x1 x2 → r = 1000 * y1 + y2 ∧ Z = gSet (gSet G (G.2.2.1 6) 10 x1) (G.2.2.1 6) 11 x2) ∧ (¬ sOK x1 x2 → r = -2 ∧ Z = G))) ([.ref h0, .int x1, .int x2] : List Value).toArray s 0 0 (tA τ)) (F0 m 0 ls []) by subst eH; subst eL; exact hW
  clear eH eL
  have J32 : ∀ (H : Heap) (locs : List Loc) (ls : Array Slot), tGH G τ s H locs → lv_has ls 4 [(0, .ref h0), (1, .int x1), (2, .int x2)] → 0 ≤ x1.toInt → x1.toInt ≤ 200 → 0 ≤ x2.toInt → x2.toInt ≤ 1000 → (x2.toInt ≤ 200 ∨ x2.toInt = 1000) → W p l e (tRm 2 43) s m ([.ref h0, .int x1, .int x2] : List Value).toArray below meth c H locs 0 0 (MQ below (tQk τ (fun r Z => (sOK x1 x2 → r = 1000 * y1 + y2 ∧ Z = gSet (gSet G (G.2.2.1 6) 10 x1) (G.2.2.1 6) 11 x2) ∧ (¬ sOK x1 x2 → r = -2 ∧ Z = G))) ([.ref h0, .int x1, .int x2] : List Value).toArray s 0 0 (tA τ)) (F0 m 32 ls []) := by
    intro H locs ls hG hl bp1 cp1 bp2 cp2 dp2
    refine lv_sipush (v := 1000) hx hb dX9_screen_32 (by decide) ?_
    refine lv_aload_n hx hb dX9_screen_35 rfl (lv_at hl 0 rfl) ?_
    refine tc_getrK (k := 0) E hG t0 (by decide) fr_X9_12 rfl h8 h6 dX9_screen_36 (fun hoa1 => ?_)
    refine tc_getK E hG hoa1 fi_X9_117 rfl dX9_screen_39 (fun z2 _ _ qz2 => ?_)
    have fz2 := qz2 _ k1
    refine lv_imul hx hb dX9_screen_42 ?_
    refine lv_topi (fun z3 ez3 => ?_)
    refine lv_aload_n hx hb dX9_screen_43 rfl (lv_at hl 0 rfl) ?_
    refine tc_getrK (k := 0) E hG t0 (by decide) fr_X9_12 rfl h8 h6 dX9_screen_44 (fun hoa4 => ?_)
    refine tc_getK E hG hoa4 fi_X9_120 rfl dX9_screen_47 (fun z5 _ _ qz5 => ?_)
    have fz5 := qz5 _ k2
    refine lv_iadd hx hb dX9_screen_50 ?_
    refine lv_topi (fun z6 ez6 => ?_)
    refine lv_istore_n (lv' := [(3, .int z6), (0, .ref h0), (1, .int x1), (2, .int x2)]) hx hb dX9_screen_51 rfl hl (by decide) rfl (fun ls hl => ?_)
    refine lv_aload_n hx hb dX9_screen_52 rfl (lv_at hl 1 rfl) ?_
    refine tc_getrK (k := 0) E hG t0 (by decide) fr_X9_12 rfl h8 h6 dX9_screen_53 (fun hoa7 => ?_)
    refine lv_iload_n hx hb dX9_screen_56 rfl (lv_at hl 2 rfl) ?_
    refine lv_iload_n hx hb dX9_screen_57 rfl (lv_at hl 3 rfl) ?_
    refine tc_callvK hG (tc_runV (As := [.int x1, .int x2]) (rest := []) E hSt hG (c_X8_tellScreen l G τ _ x1 x2 hoa7 (by omega) (by omega)) hoa7 rv_2 kv_X8_tellScreen ml_X9_123 ⟨rfl, rfl, Nat.le_of_ble_eq_true rfl, Nat.le_of_ble_eq_true rfl⟩ rfl hl.1 rfl (Nat.le_of_ble_eq_true rfl) ⟨Nat.zero_le _, Nat.zero_le _⟩ dX9_screen_58) (fun H locs hG => ?_)
    refine lv_iload_n hx hb dX9_screen_61 rfl (lv_at hl 0 rfl) ?_
    exact tc_kret (G := gSet (gSet G (G.2.2.1 6) 10 x1) (G.2.2.1 6) 11 x2) E hr hlk hG (show (sOK x1 x2 → z6 = 1000 * y1 + y2 ∧ gSet (gSet G (G.2.2.1 6) 10 x1) (G.2.2.1 6) 11 x2 = gSet (gSet G (G.2.2.1 6) 10 x1) (G.2.2.1 6) 11 x2) ∧ (¬ sOK x1 x2 → z6 = -2 ∧ gSet (gSet G (G.2.2.1 6) 10 x1) (G.2.2.1 6) 11 x2 = G) from ⟨fun _ => ⟨by rw [ez6, ez3, fz2, fz5], rfl⟩, fun hn => absurd (show sOK x1 x2 by unfold sOK; omega) hn⟩) dX9_screen_62
  refine lv_iload_n hx hb dX9_screen_0 rfl (lv_at hl 1 rfl) ?_
  refine lv_if_lt (tgt := 29) hx hb dX9_screen_1 (by decide) (fun c9 => ?_) (fun c9 => ?_)
  · skip
    have ic9 := tn_lt rfl kI_0 c9
    refine lv_bipush (v := -2) hx hb dX9_screen_29 (by decide) ?_
    exact tc_kret E hr hlk hG (show (sOK x1 x2 → (-2 : Int32) = 1000 * y1 + y2 ∧ G = gSet (gSet G (G.2.2.1 6) 10 x1) (G.2.2.1 6) 11 x2) ∧ (¬ sOK x1 x2 → (-2 : Int32) = -2 ∧ G = G) from ⟨fun hn => absurd hn (by unfold sOK; omega), fun _ => ⟨rfl, rfl⟩⟩) dX9_screen_31
  · skip
    have ic9 := tn_nlt rfl kI_0 c9
    refine lv_iload_n hx hb dX9_screen_4 rfl (lv_at hl 1 rfl) ?_
    refine lv_sipush (v := 200) hx hb dX9_screen_5 (by decide) ?_
    refine lv_icmp_gt (tgt := 29) hx hb dX9_screen_8 (by decide) (fun c10 => ?_) (fun c10 => ?_)
    · skip
      have ic10 := tn_lt kI_200 rfl c10
      refine lv_bipush (v := -2) hx hb dX9_screen_29 (by decide) ?_
      exact tc_kret E hr hlk hG (show (sOK x1 x2 → (-2 : Int32) = 1000 * y1 + y2 ∧ G = gSet (gSet G (G.2.2.1 6) 10 x1) (G.2.2.1 6) 11 x2) ∧ (¬ sOK x1 x2 → (-2 : Int32) = -2 ∧ G = G) from ⟨fun hn => absurd hn (by unfold sOK; omega), fun _ => ⟨rfl, rfl⟩⟩) dX9_screen_31
    · skip
      have ic10 := tn_nlt kI_200 rfl c10
      refine lv_iload_n hx hb dX9_screen_11 rfl (lv_at hl 2 rfl) ?_
      refine lv_if_lt (tgt := 29) hx hb dX9_screen_12 (by decide) (fun c11 => ?_) (fun c11 => ?_)
      · skip
        have ic11 := tn_lt rfl kI_0 c11
        refine lv_bipush (v := -2) hx hb dX9_screen_29 (by decide) ?_
        exact tc_kret E hr hlk hG (show (sOK x1 x2 → (-2 : Int32) = 1000 * y1 + y2 ∧ G = gSet (gSet G (G.2.2.1 6) 10 x1) (G.2.2.1 6) 11 x2) ∧ (¬ sOK x1 x2 → (-2 : Int32) = -2 ∧ G = G) from ⟨fun hn => absurd hn (by unfold sOK; omega), fun _ => ⟨rfl, rfl⟩⟩) dX9_screen_31
      · skip
        have ic11 := tn_nlt rfl kI_0 c11
        refine lv_iload_n hx hb dX9_screen_15 rfl (lv_at hl 2 rfl) ?_
        refine lv_sipush (v := 200) hx hb dX9_screen_16 (by decide) ?_
        refine lv_icmp_le (tgt := 32) hx hb dX9_screen_19 (by decide) (fun c12 => ?_) (fun c12 => ?_)
        · skip
          have ic12 := tn_le rfl kI_200 c12
          exact J32 H locs ls hG (lv_sub hl [0, 1, 2] rfl) (by omega) (by omega) (by omega) (by omega) (by omega)
        · skip
          have ic12 := tn_nle rfl kI_200 c12
          refine lv_iload_n hx hb dX9_screen_22 rfl (lv_at hl 2 rfl) ?_
          refine lv_sipush (v := 1000) hx hb dX9_screen_23 (by decide) ?_
          refine lv_icmp_eq (tgt := 32) hx hb dX9_screen_26 (by decide) (fun c13 => ?_) (fun c13 => ?_)
          · skip
            have ic13 := tn_eq rfl kI_1000 c13
            exact J32 H locs ls hG (lv_sub hl [0, 1, 2] rfl) (by omega) (by omega) (by omega) (by omega) (by omega)
          · skip
            have ic13 := tn_ne rfl kI_1000 c13
            refine lv_bipush (v := -2) hx hb dX9_screen_29 (by decide) ?_
            exact tc_kret E hr hlk hG (show (sOK x1 x2 → (-2 : Int32) = 1000 * y1 + y2 ∧ G = gSet (gSet G (G.2.2.1 6) 10 x1) (G.2.2.1 6) 11 x2) ∧ (¬ sOK x1 x2 → (-2 : Int32) = -2 ∧ G = G) from ⟨fun hn => absurd hn (by unfold sOK; omega), fun _ => ⟨rfl, rfl⟩⟩) dX9_screen_31

set_option maxHeartbeats 4000000 in
set_option maxRecDepth 100000 in
theorem c_X9_image (l : Launch) (G : tG) (τ : Nat → Nat) (h0 : Nat) (t0 : τ h0 = 1) (h8 : G.2.2.1 8 = h0) (h6 : G.2.2.1 6 ≠ 0) (h7 : G.2.2.1 7 ≠ 0) (y1 y2 : Int32) (k1 : kW G (G.2.2.1 6) 10 = some y1) (k2 : kW G (G.2.2.1 6) 11 = some y2) (hy1 : 0 ≤ y1.toInt) (hy2 : 0 ≤ y2.toInt) : Met l yX9_image (.code yX9_image cX9_image 1 (some .int) :: tWS) (tRm 3 83) (va_Pc [.ref h0] (tPre G τ)) (tQk τ (fun r Z => Z = gSet (gSet (gSet G (G.2.2.1 7) 10 y1) (G.2.2.1 7) 11 y2) h0 11 1)) 0 0 (tA τ) := by
  refine tc_met (by decide) (Nat.le_of_ble_eq_true rfl) ?_
  intro p e s m below meth c E hSt hr hlk hG ls hl
  have hl : lv_has ls 1 [(0, .ref h0)] := hl
  have hx := E.1
  have hb := E.2.1
  obtain ⟨H, eH⟩ : ∃ H, H = s.heap := ⟨_, rfl⟩
  obtain ⟨locs, eL⟩ : ∃ x : List Loc, x = [] := ⟨_, rfl⟩
  have hG : tGH G τ s H locs := by rw [eH, eL]; exact hG
  suffices hW : W p l e (tRm 3 83) s m ([.ref h0] : List Value).toArray below meth c H locs 0 0 (MQ below (tQk τ (fun r Z => Z = gSet (gSet (gSet G (G.2.2.1 7) 10 y1) (G.2.2.1 7) 11 y2) h0 11 1)) ([.ref h0] : List Value).toArray s 0 0 (tA τ)) (F0 m 0 ls []) by subst eH; subst eL; exact hW
  clear eH eL
  refine lv_aload_n hx hb dX9_image_0 rfl (lv_at hl 0 rfl) ?_
  refine tc_getrK (k := 1) E hG t0 (by decide) fr_X9_18 rfl h8 h7 dX9_image_1 (fun hoa1 => ?_)
  refine lv_aload_n hx hb dX9_image_4 rfl (lv_at hl 0 rfl) ?_
  refine tc_getrK (k := 0) E hG t0 (by decide) fr_X9_12 rfl h8 h6 dX9_image_5 (fun hoa2 => ?_)
  refine tc_callvK hG (tc_runV (As := [.ref (G.2.2.1 6)]) (rest := []) E hSt hG (c_X8_copyFrom_m2 l G τ (G.2.2.1 7) (G.2.2.1 6) hoa1 hoa2 y1 y2 k1 k2 hy1 hy2 (t_apart hoa2 hoa1 (by decide))) hoa1 rv_30 kv_X8_copyFrom ml_X9_380 ⟨rfl, rfl, Nat.le_of_ble_eq_true rfl, Nat.le_of_ble_eq_true rfl⟩ rfl hl.1 rfl (Nat.le_of_ble_eq_true rfl) ⟨Nat.zero_le _, Nat.zero_le _⟩ dX9_image_8) (fun H locs hG => ?_)
  have E := (E.gs (a := G.2.2.1 7) (k := 10) (x := y1)).gs (a := G.2.2.1 7) (k := 11) (x := y2)
  have hSt := (hSt.gs (a := G.2.2.1 7) (k := 10) (x := y1)).gs (a := G.2.2.1 7) (k := 11) (x := y2)
  refine lv_aload_n hx hb dX9_image_11 rfl (lv_at hl 0 rfl) ?_
  refine lv_iconst (v := 1) hx hb dX9_image_12 (by decide) ?_
  refine tc_putKg E hG t0 (by decide) rfl rfl (by decide) fq_X9_383 (by decide) (by decide) (by decide) (t_nz (by decide) (by decide)).1 (t_nz (by decide) (by decide)).2 dX9_image_13 (fun H locs hG => ?_)
  have E := E.gs (a := h0) (k := 11) (x := 1)
  have hSt := hSt.gs (a := h0) (k := 11) (x := 1)
  refine lv_aload_n hx hb dX9_image_16 rfl (lv_at hl 0 rfl) ?_
  refine tc_getr E hG t0 fr_X9_12 dX9_image_17 (fun oa4 hoa4 => ?_)
  refine tc_callp (tc_runV (As := []) (rest := []) E hSt hG (c_X8_countBoxes l _ τ oa4 hoa4) hoa4 rv_2 kv_X8_countBoxes ml_X9_338 ⟨rfl, rfl, Nat.le_of_ble_eq_true rfl, Nat.le_of_ble_eq_true rfl⟩ rfl hl.1 rfl (Nat.le_of_ble_eq_true rfl) ⟨Nat.zero_le _, Nat.zero_le _⟩ dX9_image_20) (fun r5 pr5 => ?_)
  exact tc_kret E hr hlk hG rfl dX9_image_23

set_option maxHeartbeats 4000000 in
set_option maxRecDepth 100000 in
theorem c_X9_undo (l : Launch) (G : tG) (τ : Nat → Nat) (h0 : Nat) (t0 : τ h0 = 1) (h8 : G.2.2.1 8 = h0) (h6 : G.2.2.1 6 ≠ 0) (h7 : G.2.2.1 7 ≠ 0) (f y1 y2 : Int32) (kf : kW G h0 11 = some f) (k1 : kW G (G.2.2.1 7) 10 = some y1) (k2 : kW G (G.2.2.1 7) 11 = some y2) (hy1 : 0 ≤ y1.toInt) (hy2 : 0 ≤ y2.toInt) : Met l yX9_undo (.code yX9_undo cX9_undo 1 (some .int) :: tWS) (tRm 3 83) (va_Pc [.ref h0] (tPre G τ)) (tQk τ (fun r Z => (f.toInt = 0 → Z = G) ∧ (¬ f.toInt = 0 → Z = gSet (gSet G (G.2.2.1 6) 10 y1) (G.2.2.1 6) 11 y2))) 0 0 (tA τ) := by
  refine tc_met (by decide) (Nat.le_of_ble_eq_true rfl) ?_
  intro p e s m below meth c E hSt hr hlk hG ls hl
  have hl : lv_has ls 1 [(0, .ref h0)] := hl
  have hx := E.1
  have hb := E.2.1
  obtain ⟨H, eH⟩ : ∃ H, H = s.heap := ⟨_, rfl⟩
  obtain ⟨locs, eL⟩ : ∃ x : List Loc, x = [] := ⟨_, rfl⟩
  have hG : tGH G τ s H locs := by rw [eH, eL]; exact hG
  suffices hW : W p l e (tRm 3 83) s m ([.ref h0] : List Value).toArray below meth c H locs 0 0 (MQ below (tQk τ (fun r Z => (f.toInt = 0 → Z = G) ∧ (¬ f.toInt = 0 → Z = gSet (gSet G (G.2.2.1 6) 10 y1) (G.2.2.1 6) 11 y2))) ([.ref h0] : List Value).toArray s 0 0 (tA τ)) (F0 m 0 ls []) by subst eH; subst eL; exact hW
  clear eH eL
  refine lv_aload_n hx hb dX9_undo_0 rfl (lv_at hl 0 rfl) ?_
  refine tc_getK E hG t0 fi_X9_383 rfl dX9_undo_1 (fun z1 lz1 uz1 qz1 => ?_)
  have f9 := qz1 _ kf
  refine lv_if_ne (tgt := 10) hx hb dX9_undo_4 (by decide) (fun c2 => ?_) (fun c2 => ?_)
  · skip
    have ic2 := tn_ne rfl kI_0 c2
    refine lv_aload_n hx hb dX9_undo_10 rfl (lv_at hl 0 rfl) ?_
    refine tc_getrK (k := 0) E hG t0 (by decide) fr_X9_12 rfl h8 h6 dX9_undo_11 (fun hoa3 => ?_)
    refine lv_aload_n hx hb dX9_undo_14 rfl (lv_at hl 0 rfl) ?_
    refine tc_getrK (k := 1) E hG t0 (by decide) fr_X9_18 rfl h8 h7 dX9_undo_15 (fun hoa4 => ?_)
    refine tc_callvK hG (tc_runV (As := [.ref (G.2.2.1 7)]) (rest := []) E hSt hG (c_X8_copyFrom_2m l G τ (G.2.2.1 6) (G.2.2.1 7) hoa3 hoa4 y1 y2 k1 k2 hy1 hy2 (t_apart hoa4 hoa3 (by decide))) hoa3 rv_2 kv_X8_copyFrom ml_X9_380 ⟨rfl, rfl, Nat.le_of_ble_eq_true rfl, Nat.le_of_ble_eq_true rfl⟩ rfl hl.1 rfl (Nat.le_of_ble_eq_true rfl) ⟨Nat.zero_le _, Nat.zero_le _⟩ dX9_undo_18) (fun H locs hG => ?_)
    have E := (E.gs (a := G.2.2.1 6) (k := 10) (x := y1)).gs (a := G.2.2.1 6) (k := 11) (x := y2)
    have hSt := (hSt.gs (a := G.2.2.1 6) (k := 10) (x := y1)).gs (a := G.2.2.1 6) (k := 11) (x := y2)
    refine lv_aload_n hx hb dX9_undo_21 rfl (lv_at hl 0 rfl) ?_
    refine tc_getr E hG t0 fr_X9_12 dX9_undo_22 (fun oa6 hoa6 => ?_)
    refine tc_callp (tc_runV (As := []) (rest := []) E hSt hG (c_X8_countBoxes l _ τ oa6 hoa6) hoa6 rv_2 kv_X8_countBoxes ml_X9_338 ⟨rfl, rfl, Nat.le_of_ble_eq_true rfl, Nat.le_of_ble_eq_true rfl⟩ rfl hl.1 rfl (Nat.le_of_ble_eq_true rfl) ⟨Nat.zero_le _, Nat.zero_le _⟩ dX9_undo_25) (fun r7 pr7 => ?_)
    exact tc_kret E hr hlk hG (show (f.toInt = 0 → gSet (gSet G (G.2.2.1 6) 10 y1) (G.2.2.1 6) 11 y2 = G) ∧ (¬ f.toInt = 0 → gSet (gSet G (G.2.2.1 6) 10 y1) (G.2.2.1 6) 11 y2 = gSet (gSet G (G.2.2.1 6) 10 y1) (G.2.2.1 6) 11 y2) from ⟨fun h => absurd (by rw [f9]; exact h) ic2, fun _ => rfl⟩) dX9_undo_28
  · skip
    have ic2 := tn_eq rfl kI_0 c2
    refine lv_bipush (v := -3) hx hb dX9_undo_7 (by decide) ?_
    exact tc_kret E hr hlk hG (show (f.toInt = 0 → G = G) ∧ (¬ f.toInt = 0 → G = gSet (gSet G (G.2.2.1 6) 10 y1) (G.2.2.1 6) 11 y2) from ⟨fun _ => rfl, fun h => absurd (by rw [← f9]; exact ic2) h⟩) dX9_undo_9

