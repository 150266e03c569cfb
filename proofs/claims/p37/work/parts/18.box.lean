set_option maxHeartbeats 4000000 in
set_option maxRecDepth 100000 in
theorem c_X2_placeAt (l : Launch) (G : tG) (τ : Nat → Nat) (h0 : Nat) (x1 : Int32) (x2 : Int32) (t0 : τ h0 = 4) : Met l yX2_placeAt (.code yX2_placeAt cX2_placeAt 3 none :: tWS) (tRm 0 0) (va_Pc [.ref h0, .int x1, .int x2] (tPre G τ)) (tQv G τ) 0 0 (tA τ) := by
  refine tc_met (by decide) (Nat.le_of_ble_eq_true rfl) ?_
  intro p e s m below meth c E hSt hr hlk hG ls hl
  have hl : lv_has ls 3 [(0, .ref h0), (1, .int x1), (2, .int x2)] := hl
  have hx := E.1
  have hb := E.2.1
  obtain ⟨H, eH⟩ : ∃ H, H = s.heap := ⟨_, rfl⟩
  obtain ⟨locs, eL⟩ : ∃ x : List Loc, x = [] := ⟨_, rfl⟩
  have hG : tGH G τ s H locs := by rw [eH, eL]; exact hG
  suffices hW : W p l e (tRm 0 0) s m ([.ref h0, .int x1, .int x2] : List Value).toArray below meth c H locs 0 0 (MQ below (tQv G τ) ([.ref h0, .int x1, .int x2] : List Value).toArray s 0 0 (tA τ)) (F0 m 0 ls []) by subst eH; subst eL; exact hW
  clear eH eL
  refine lv_aload_n hx hb dX2_placeAt_0 rfl (lv_at hl 0 rfl) ?_
  refine lv_iload_n hx hb dX2_placeAt_1 rfl (lv_at hl 1 rfl) ?_
  refine tc_puti E hG t0 fp_X2_55 (t_any1 _) (t_any2 _) dX2_placeAt_2 (fun H locs hG => ?_)
  refine lv_aload_n hx hb dX2_placeAt_5 rfl (lv_at hl 0 rfl) ?_
  refine lv_iload_n hx hb dX2_placeAt_6 rfl (lv_at hl 2 rfl) ?_
  refine tc_puti E hG t0 fp_X2_58 (t_any1 _) (t_any2 _) dX2_placeAt_7 (fun H locs hG => ?_)
  exact tc_vret E hr hlk hG dX2_placeAt_10

set_option maxHeartbeats 4000000 in
set_option maxRecDepth 100000 in
theorem c_X2_begin (l : Launch) (G : tG) (τ : Nat → Nat) (h0 : Nat) (x1 : Int32) (x2 : Int32) (x3 : Int32) (x4 : Int32) (t0 : τ h0 = 4) : Met l yX2_begin (.code yX2_begin cX2_begin 5 none :: tWS) (tRm 0 0) (va_Pc [.ref h0, .int x1, .int x2, .int x3, .int x4] (tPre G τ)) (tQv G τ) 0 0 (tA τ) := by
  refine tc_met (by decide) (Nat.le_of_ble_eq_true rfl) ?_
  intro p e s m below meth c E hSt hr hlk hG ls hl
  have hl : lv_has ls 5 [(0, .ref h0), (1, .int x1), (2, .int x2), (3, .int x3), (4, .int x4)] := hl
  have hx := E.1
  have hb := E.2.1
  obtain ⟨H, eH⟩ : ∃ H, H = s.heap := ⟨_, rfl⟩
  obtain ⟨locs, eL⟩ : ∃ x : List Loc, x = [] := ⟨_, rfl⟩
  have hG : tGH G τ s H locs := by rw [eH, eL]; exact hG
  suffices hW : W p l e (tRm 0 0) s m ([.ref h0, .int x1, .int x2, .int x3, .int x4] : List Value).toArray below meth c H locs 0 0 (MQ below (tQv G τ) ([.ref h0, .int x1, .int x2, .int x3, .int x4] : List Value).toArray s 0 0 (tA τ)) (F0 m 0 ls []) by subst eH; subst eL; exact hW
  clear eH eL
  refine lv_aload_n hx hb dX2_begin_0 rfl (lv_at hl 0 rfl) ?_
  refine lv_iconst (v := 1) hx hb dX2_begin_1 (by decide) ?_
  refine tc_putz E hG t0 fp_X2_19 (by decide) (by decide) dX2_begin_2 (fun H locs hG => ?_)
  refine lv_aload_n hx hb dX2_begin_5 rfl (lv_at hl 0 rfl) ?_
  refine lv_iload_n hx hb dX2_begin_6 rfl (lv_at hl 1 rfl) ?_
  refine tc_puti E hG t0 fp_X2_33 (t_any1 _) (t_any2 _) dX2_begin_7 (fun H locs hG => ?_)
  refine lv_aload_n hx hb dX2_begin_10 rfl (lv_at hl 0 rfl) ?_
  refine lv_iload_n hx hb dX2_begin_11 rfl (lv_at hl 2 rfl) ?_
  refine tc_puti E hG t0 fp_X2_36 (t_any1 _) (t_any2 _) dX2_begin_12 (fun H locs hG => ?_)
  refine lv_aload_n hx hb dX2_begin_15 rfl (lv_at hl 0 rfl) ?_
  refine lv_iload_n hx hb dX2_begin_16 rfl (lv_at hl 3 rfl) ?_
  refine tc_puti E hG t0 fp_X2_39 (t_any1 _) (t_any2 _) dX2_begin_17 (fun H locs hG => ?_)
  refine lv_aload_n hx hb dX2_begin_20 rfl (lv_at hl 0 rfl) ?_
  refine lv_iload hx hb dX2_begin_21 (lv_at hl 4 rfl) ?_
  refine tc_puti E hG t0 fp_X2_42 (t_any1 _) (t_any2 _) dX2_begin_23 (fun H locs hG => ?_)
  refine lv_aload_n hx hb dX2_begin_26 rfl (lv_at hl 0 rfl) ?_
  refine lv_iconst (v := 0) hx hb dX2_begin_27 (by decide) ?_
  refine tc_puti E hG t0 fp_X2_45 (t_any1 _) (t_any2 _) dX2_begin_28 (fun H locs hG => ?_)
  refine lv_aload_n hx hb dX2_begin_31 rfl (lv_at hl 0 rfl) ?_
  refine lv_iconst (v := 0) hx hb dX2_begin_32 (by decide) ?_
  refine tc_puti E hG t0 fp_X2_48 (t_any1 _) (t_any2 _) dX2_begin_33 (fun H locs hG => ?_)
  refine lv_aload_n hx hb dX2_begin_36 rfl (lv_at hl 0 rfl) ?_
  refine lv_bipush (v := -5) hx hb dX2_begin_37 (by decide) ?_
  refine tc_puti E hG t0 fp_X2_9 (t_any1 _) (t_any2 _) dX2_begin_39 (fun H locs hG => ?_)
  exact tc_vret E hr hlk hG dX2_begin_42

set_option maxHeartbeats 4000000 in
set_option maxRecDepth 100000 in
theorem c_X2_forget (l : Launch) (G : tG) (τ : Nat → Nat) (h0 : Nat) (t0 : τ h0 = 4) : Met l yX2_forget (.code yX2_forget cX2_forget 1 none :: tWS) (tRm 1 24) (va_Pc [.ref h0] (tPre G τ)) (tQv G τ) 0 0 (tA τ) := by
  refine tc_met (by decide) (Nat.le_of_ble_eq_true rfl) ?_
  intro p e s m below meth c E hSt hr hlk hG ls hl
  have hl : lv_has ls 1 [(0, .ref h0)] := hl
  have hx := E.1
  have hb := E.2.1
  obtain ⟨H, eH⟩ : ∃ H, H = s.heap := ⟨_, rfl⟩
  obtain ⟨locs, eL⟩ : ∃ x : List Loc, x = [] := ⟨_, rfl⟩
  have hG : tGH G τ s H locs := by rw [eH, eL]; exact hG
  suffices hW : W p l e (tRm 1 24) s m ([.ref h0] : List Value).toArray below meth c H locs 0 0 (MQ below (tQv G τ) ([.ref h0] : List Value).toArray s 0 0 (tA τ)) (F0 m 0 ls []) by subst eH; subst eL; exact hW
  clear eH eL
  refine lv_aload_n hx hb dX2_forget_0 rfl (lv_at hl 0 rfl) ?_
  refine lv_iconst (v := 0) hx hb dX2_forget_1 (by decide) ?_
  refine lv_iconst (v := 0) hx hb dX2_forget_2 (by decide) ?_
  refine lv_iconst (v := 0) hx hb dX2_forget_3 (by decide) ?_
  refine lv_iconst (v := 0) hx hb dX2_forget_4 (by decide) ?_
  refine tc_callv hG (tc_runV (As := [.int 0, .int 0, .int 0, .int 0]) (rest := []) E hSt hG (c_X2_begin l G τ h0 (0 : Int32) (0 : Int32) (0 : Int32) (0 : Int32) t0) t0 rv_4 kv_X2_begin ml_X2_15 ⟨rfl, rfl, Nat.le_of_ble_eq_true rfl, Nat.le_of_ble_eq_true rfl⟩ rfl hl.1 rfl (Nat.le_of_ble_eq_true rfl) ⟨Nat.zero_le _, Nat.zero_le _⟩ dX2_forget_5) (fun H locs hG => ?_)
  refine lv_aload_n hx hb dX2_forget_8 rfl (lv_at hl 0 rfl) ?_
  refine lv_iconst (v := 0) hx hb dX2_forget_9 (by decide) ?_
  refine tc_putz E hG t0 fp_X2_19 (by decide) (by decide) dX2_forget_10 (fun H locs hG => ?_)
  refine lv_aload_n hx hb dX2_forget_13 rfl (lv_at hl 0 rfl) ?_
  refine lv_iconst (v := 0) hx hb dX2_forget_14 (by decide) ?_
  refine lv_iconst (v := 0) hx hb dX2_forget_15 (by decide) ?_
  refine tc_callv hG (tc_runV (As := [.int 0, .int 0]) (rest := []) E hSt hG (c_X2_placeAt l G τ h0 (0 : Int32) (0 : Int32) t0) t0 rv_4 kv_X2_placeAt ml_X2_23 ⟨rfl, rfl, Nat.le_of_ble_eq_true rfl, Nat.le_of_ble_eq_true rfl⟩ rfl hl.1 rfl (Nat.le_of_ble_eq_true rfl) ⟨Nat.zero_le _, Nat.zero_le _⟩ dX2_forget_16) (fun H locs hG => ?_)
  refine lv_aload_n hx hb dX2_forget_19 rfl (lv_at hl 0 rfl) ?_
  refine lv_iconst (v := 0) hx hb dX2_forget_20 (by decide) ?_
  refine tc_puti E hG t0 fp_X2_27 (t_any1 _) (t_any2 _) dX2_forget_21 (fun H locs hG => ?_)
  refine lv_aload_n hx hb dX2_forget_24 rfl (lv_at hl 0 rfl) ?_
  refine lv_iconst (v := 0) hx hb dX2_forget_25 (by decide) ?_
  refine tc_puti E hG t0 fp_X2_30 (t_any1 _) (t_any2 _) dX2_forget_26 (fun H locs hG => ?_)
  exact tc_vret E hr hlk hG dX2_forget_29

set_option maxHeartbeats 4000000 in
set_option maxRecDepth 100000 in
theorem c_X2_wasLaidBy (l : Launch) (G : tG) (τ : Nat → Nat) (h0 : Nat) (x1 : Int32) (x2 : Int32) (x3 : Int32) (x4 : Int32) (t0 : τ h0 = 4) : Met l yX2_wasLaidBy (.code yX2_wasLaidBy cX2_wasLaidBy 5 (some .boolean) :: tWS) (tRm 0 0) (va_Pc [.ref h0, .int x1, .int x2, .int x3, .int x4] (tPre G τ)) (tQp (fun r => 0 ≤ r.toInt ∧ r.toInt ≤ 1)) 0 0 tNo := by
  refine tc_met (by decide) (Nat.le_of_ble_eq_true rfl) ?_
  intro p e s m below meth c E hSt hr hlk hG ls hl
  have hl : lv_has ls 5 [(0, .ref h0), (1, .int x1), (2, .int x2), (3, .int x3), (4, .int x4)] := hl
  have hx := E.1
  have hb := E.2.1
  obtain ⟨H, eH⟩ : ∃ H, H = s.heap := ⟨_, rfl⟩
  obtain ⟨locs, eL⟩ : ∃ x : List Loc, x = [] := ⟨_, rfl⟩
  have hG : tGH G τ s H locs := by rw [eH, eL]; exact hG
  suffices hW : W p l e (tRm 0 0) s m ([.ref h0, .int x1, .int x2, .int x3, .int x4] : List Value).toArray below meth c H locs 0 0 (MQ below (tQp (fun r => 0 ≤ r.toInt ∧ r.toInt ≤ 1)) ([.ref h0, .int x1, .int x2, .int x3, .int x4] : List Value).toArray s 0 0 tNo) (F0 m 0 ls []) by subst eH; subst eL; exact hW
  refine lv_aload_n hx hb dX2_wasLaidBy_0 rfl (lv_at hl 0 rfl) ?_
  refine tc_geti E hG t0 fi_X2_19 dX2_wasLaidBy_1 (fun z1 lz1 uz1 => ?_)
  refine lv_if_eq (tgt := 44) hx hb dX2_wasLaidBy_4 (by decide) (fun c2 => ?_) (fun c2 => ?_)
  · skip
    have ic2 := tn_eq rfl kI_0 c2
    refine lv_iconst (v := 0) hx hb dX2_wasLaidBy_44 (by decide) ?_
    exact tc_pret E hr hlk eH eL (t_nz (by decide) (by decide)).1 (show 0 ≤ (0 : Int32).toInt ∧ (0 : Int32).toInt ≤ 1 by have kk := kI_0; omega) dX2_wasLaidBy_45
  · skip
    have ic2 := tn_ne rfl kI_0 c2
    refine lv_aload_n hx hb dX2_wasLaidBy_7 rfl (lv_at hl 0 rfl) ?_
    refine tc_geti E hG t0 fi_X2_33 dX2_wasLaidBy_8 (fun z3 _ _ => ?_)
    refine lv_iload_n hx hb dX2_wasLaidBy_11 rfl (lv_at hl 1 rfl) ?_
    refine lv_icmp_ne (tgt := 44) hx hb dX2_wasLaidBy_12 (by decide) (fun c4 => ?_) (fun c4 => ?_)
    · skip
      have ic4 := tn_ne rfl rfl c4
      refine lv_iconst (v := 0) hx hb dX2_wasLaidBy_44 (by decide) ?_
      exact tc_pret E hr hlk eH eL (t_nz (by decide) (by decide)).1 (show 0 ≤ (0 : Int32).toInt ∧ (0 : Int32).toInt ≤ 1 by have kk := kI_0; omega) dX2_wasLaidBy_45
    · skip
      have ic4 := tn_eq rfl rfl c4
      refine lv_aload_n hx hb dX2_wasLaidBy_15 rfl (lv_at hl 0 rfl) ?_
      refine tc_geti E hG t0 fi_X2_36 dX2_wasLaidBy_16 (fun z5 _ _ => ?_)
      refine lv_iload_n hx hb dX2_wasLaidBy_19 rfl (lv_at hl 2 rfl) ?_
      refine lv_icmp_ne (tgt := 44) hx hb dX2_wasLaidBy_20 (by decide) (fun c6 => ?_) (fun c6 => ?_)
      · skip
        have ic6 := tn_ne rfl rfl c6
        refine lv_iconst (v := 0) hx hb dX2_wasLaidBy_44 (by decide) ?_
        exact tc_pret E hr hlk eH eL (t_nz (by decide) (by decide)).1 (show 0 ≤ (0 : Int32).toInt ∧ (0 : Int32).toInt ≤ 1 by have kk := kI_0; omega) dX2_wasLaidBy_45
      · skip
        have ic6 := tn_eq rfl rfl c6
        refine lv_aload_n hx hb dX2_wasLaidBy_23 rfl (lv_at hl 0 rfl) ?_
        refine tc_geti E hG t0 fi_X2_39 dX2_wasLaidBy_24 (fun z7 _ _ => ?_)
        refine lv_iload_n hx hb dX2_wasLaidBy_27 rfl (lv_at hl 3 rfl) ?_
        refine lv_icmp_ne (tgt := 44) hx hb dX2_wasLaidBy_28 (by decide) (fun c8 => ?_) (fun c8 => ?_)
        · skip
          have ic8 := tn_ne rfl rfl c8
          refine lv_iconst (v := 0) hx hb dX2_wasLaidBy_44 (by decide) ?_
          exact tc_pret E hr hlk eH eL (t_nz (by decide) (by decide)).1 (show 0 ≤ (0 : Int32).toInt ∧ (0 : Int32).toInt ≤ 1 by have kk := kI_0; omega) dX2_wasLaidBy_45
        · skip
          have ic8 := tn_eq rfl rfl c8
          refine lv_aload_n hx hb dX2_wasLaidBy_31 rfl (lv_at hl 0 rfl) ?_
          refine tc_geti E hG t0 fi_X2_42 dX2_wasLaidBy_32 (fun z9 _ _ => ?_)
          refine lv_iload hx hb dX2_wasLaidBy_35 (lv_at hl 4 rfl) ?_
          refine lv_icmp_ne (tgt := 44) hx hb dX2_wasLaidBy_37 (by decide) (fun c10 => ?_) (fun c10 => ?_)
          · skip
            have ic10 := tn_ne rfl rfl c10
            refine lv_iconst (v := 0) hx hb dX2_wasLaidBy_44 (by decide) ?_
            exact tc_pret E hr hlk eH eL (t_nz (by decide) (by decide)).1 (show 0 ≤ (0 : Int32).toInt ∧ (0 : Int32).toInt ≤ 1 by have kk := kI_0; omega) dX2_wasLaidBy_45
          · skip
            have ic10 := tn_eq rfl rfl c10
            refine lv_iconst (v := 1) hx hb dX2_wasLaidBy_40 (by decide) ?_
            refine lv_goto (tgt := 45) hx hb dX2_wasLaidBy_41 (by decide) ?_
            exact tc_pret E hr hlk eH eL (t_nz (by decide) (by decide)).1 (show 0 ≤ (1 : Int32).toInt ∧ (1 : Int32).toInt ≤ 1 by have kk := kI_1; omega) dX2_wasLaidBy_45

set_option maxHeartbeats 4000000 in
set_option maxRecDepth 100000 in
theorem c_X2_wasJust (l : Launch) (G : tG) (τ : Nat → Nat) (h0 : Nat) (t0 : τ h0 = 4) : Met l yX2_wasJust (.code yX2_wasJust cX2_wasJust 1 (some .boolean) :: tWS) (tRm 0 0) (va_Pc [.ref h0] (tPre G τ)) (tQp (fun r => 0 ≤ r.toInt ∧ r.toInt ≤ 1)) 0 0 tNo := by
  refine tc_met (by decide) (Nat.le_of_ble_eq_true rfl) ?_
  intro p e s m below meth c E hSt hr hlk hG ls hl
  have hl : lv_has ls 1 [(0, .ref h0)] := hl
  have hx := E.1
  have hb := E.2.1
  obtain ⟨H, eH⟩ : ∃ H, H = s.heap := ⟨_, rfl⟩
  obtain ⟨locs, eL⟩ : ∃ x : List Loc, x = [] := ⟨_, rfl⟩
  have hG : tGH G τ s H locs := by rw [eH, eL]; exact hG
  suffices hW : W p l e (tRm 0 0) s m ([.ref h0] : List Value).toArray below meth c H locs 0 0 (MQ below (tQp (fun r => 0 ≤ r.toInt ∧ r.toInt ≤ 1)) ([.ref h0] : List Value).toArray s 0 0 tNo) (F0 m 0 ls []) by subst eH; subst eL; exact hW
  refine lv_aload_n hx hb dX2_wasJust_0 rfl (lv_at hl 0 rfl) ?_
  refine tc_geti E hG t0 fi_X2_19 dX2_wasJust_1 (fun z1 lz1 uz1 => ?_)
  refine lv_if_eq (tgt := 33) hx hb dX2_wasJust_4 (by decide) (fun c2 => ?_) (fun c2 => ?_)
  · skip
    have ic2 := tn_eq rfl kI_0 c2
    refine lv_iconst (v := 0) hx hb dX2_wasJust_33 (by decide) ?_
    exact tc_pret E hr hlk eH eL (t_nz (by decide) (by decide)).1 (show 0 ≤ (0 : Int32).toInt ∧ (0 : Int32).toInt ≤ 1 by have kk := kI_0; omega) dX2_wasJust_34
  · skip
    have ic2 := tn_ne rfl kI_0 c2
    refine lv_aload_n hx hb dX2_wasJust_7 rfl (lv_at hl 0 rfl) ?_
    refine tc_geti E hG t0 fi_X2_33 dX2_wasJust_8 (fun z3 _ _ => ?_)
    refine lv_aload_n hx hb dX2_wasJust_11 rfl (lv_at hl 0 rfl) ?_
    refine tc_geti E hG t0 fi_X2_36 dX2_wasJust_12 (fun z4 _ _ => ?_)
    refine lv_icmp_ne (tgt := 33) hx hb dX2_wasJust_15 (by decide) (fun c5 => ?_) (fun c5 => ?_)
    · skip
      have ic5 := tn_ne rfl rfl c5
      refine lv_iconst (v := 0) hx hb dX2_wasJust_33 (by decide) ?_
      exact tc_pret E hr hlk eH eL (t_nz (by decide) (by decide)).1 (show 0 ≤ (0 : Int32).toInt ∧ (0 : Int32).toInt ≤ 1 by have kk := kI_0; omega) dX2_wasJust_34
    · skip
      have ic5 := tn_eq rfl rfl c5
      refine lv_aload_n hx hb dX2_wasJust_18 rfl (lv_at hl 0 rfl) ?_
      refine tc_geti E hG t0 fi_X2_39 dX2_wasJust_19 (fun z6 _ _ => ?_)
      refine lv_aload_n hx hb dX2_wasJust_22 rfl (lv_at hl 0 rfl) ?_
      refine tc_geti E hG t0 fi_X2_42 dX2_wasJust_23 (fun z7 _ _ => ?_)
      refine lv_icmp_ne (tgt := 33) hx hb dX2_wasJust_26 (by decide) (fun c8 => ?_) (fun c8 => ?_)
      · skip
        have ic8 := tn_ne rfl rfl c8
        refine lv_iconst (v := 0) hx hb dX2_wasJust_33 (by decide) ?_
        exact tc_pret E hr hlk eH eL (t_nz (by decide) (by decide)).1 (show 0 ≤ (0 : Int32).toInt ∧ (0 : Int32).toInt ≤ 1 by have kk := kI_0; omega) dX2_wasJust_34
      · skip
        have ic8 := tn_eq rfl rfl c8
        refine lv_iconst (v := 1) hx hb dX2_wasJust_29 (by decide) ?_
        refine lv_goto (tgt := 34) hx hb dX2_wasJust_30 (by decide) ?_
        exact tc_pret E hr hlk eH eL (t_nz (by decide) (by decide)).1 (show 0 ≤ (1 : Int32).toInt ∧ (1 : Int32).toInt ≤ 1 by have kk := kI_1; omega) dX2_wasJust_34

set_option maxHeartbeats 4000000 in
set_option maxRecDepth 100000 in
theorem c_X2_sizeTo (l : Launch) (G : tG) (τ : Nat → Nat) (h0 : Nat) (x1 : Int32) (x2 : Int32) (t0 : τ h0 = 4) : Met l yX2_sizeTo (.code yX2_sizeTo cX2_sizeTo 3 none :: tWS) (tRm 1 22) (va_Pc [.ref h0, .int x1, .int x2] (tPre G τ)) (tQv G τ) 0 0 (tA τ) := by
  refine tc_met (by decide) (Nat.le_of_ble_eq_true rfl) ?_
  intro p e s m below meth c E hSt hr hlk hG ls hl
  have hl : lv_has ls 3 [(0, .ref h0), (1, .int x1), (2, .int x2)] := hl
  have hx := E.1
  have hb := E.2.1
  obtain ⟨H, eH⟩ : ∃ H, H = s.heap := ⟨_, rfl⟩
  obtain ⟨locs, eL⟩ : ∃ x : List Loc, x = [] := ⟨_, rfl⟩
  have hG : tGH G τ s H locs := by rw [eH, eL]; exact hG
  suffices hW : W p l e (tRm 1 22) s m ([.ref h0, .int x1, .int x2] : List Value).toArray below meth c H locs 0 0 (MQ below (tQv G τ) ([.ref h0, .int x1, .int x2] : List Value).toArray s 0 0 (tA τ)) (F0 m 0 ls []) by subst eH; subst eL; exact hW
  clear eH eL
  refine lv_aload_n hx hb dX2_sizeTo_0 rfl (lv_at hl 0 rfl) ?_
  refine lv_iload_n hx hb dX2_sizeTo_1 rfl (lv_at hl 1 rfl) ?_
  refine lv_aload_n hx hb dX2_sizeTo_2 rfl (lv_at hl 0 rfl) ?_
  refine tc_geti E hG t0 fi_X2_33 dX2_sizeTo_3 (fun z1 _ _ => ?_)
  refine lv_aload_n hx hb dX2_sizeTo_6 rfl (lv_at hl 0 rfl) ?_
  refine tc_geti E hG t0 fi_X2_36 dX2_sizeTo_7 (fun z2 _ _ => ?_)
  refine tc_callp (tc_runN (As := [.int x1, .int z1, .int z2]) (rest := [.ref h0]) E hSt hG (c_X9_held l G τ x1 z1 z2) ks_X9_held (List.mem_of_getElem? (i := 1) rfl) ⟨rfl, rfl, Nat.le_of_ble_eq_true rfl, Nat.le_of_ble_eq_true rfl⟩ rfl hl.1 rfl (Nat.le_of_ble_eq_true rfl) ⟨Nat.zero_le _, Nat.zero_le _⟩ dX2_sizeTo_10) (fun r3 pr3 => ?_)
  refine tc_puti E hG t0 fp_X2_27 (t_any1 _) (t_any2 _) dX2_sizeTo_13 (fun H locs hG => ?_)
  refine lv_aload_n hx hb dX2_sizeTo_16 rfl (lv_at hl 0 rfl) ?_
  refine lv_iload_n hx hb dX2_sizeTo_17 rfl (lv_at hl 2 rfl) ?_
  refine lv_aload_n hx hb dX2_sizeTo_18 rfl (lv_at hl 0 rfl) ?_
  refine tc_geti E hG t0 fi_X2_39 dX2_sizeTo_19 (fun z4 _ _ => ?_)
  refine lv_aload_n hx hb dX2_sizeTo_22 rfl (lv_at hl 0 rfl) ?_
  refine tc_geti E hG t0 fi_X2_42 dX2_sizeTo_23 (fun z5 _ _ => ?_)
  refine tc_callp (tc_runN (As := [.int x2, .int z4, .int z5]) (rest := [.ref h0]) E hSt hG (c_X9_held l G τ x2 z4 z5) ks_X9_held (List.mem_of_getElem? (i := 1) rfl) ⟨rfl, rfl, Nat.le_of_ble_eq_true rfl, Nat.le_of_ble_eq_true rfl⟩ rfl hl.1 rfl (Nat.le_of_ble_eq_true rfl) ⟨Nat.zero_le _, Nat.zero_le _⟩ dX2_sizeTo_26) (fun r6 pr6 => ?_)
  refine tc_puti E hG t0 fp_X2_30 (t_any1 _) (t_any2 _) dX2_sizeTo_29 (fun H locs hG => ?_)
  exact tc_vret E hr hlk hG dX2_sizeTo_32

set_option maxHeartbeats 4000000 in
set_option maxRecDepth 100000 in
theorem c_X2_isLike (l : Launch) (G : tG) (τ : Nat → Nat) (h0 : Nat) (h1 : Nat) (t0 : τ h0 = 4) (t1 : τ h1 = 4) : Met l yX2_isLike (.code yX2_isLike cX2_isLike 2 (some .boolean) :: tWS) (tRm 0 0) (va_Pc [.ref h0, .ref h1] (tPre G τ)) (tQp (fun r => 0 ≤ r.toInt ∧ r.toInt ≤ 1)) 0 0 tNo := by
  refine tc_met (by decide) (Nat.le_of_ble_eq_true rfl) ?_
  intro p e s m below meth c E hSt hr hlk hG ls hl
  have hl : lv_has ls 2 [(0, .ref h0), (1, .ref h1)] := hl
  have hx := E.1
  have hb := E.2.1
  obtain ⟨H, eH⟩ : ∃ H, H = s.heap := ⟨_, rfl⟩
  obtain ⟨locs, eL⟩ : ∃ x : List Loc, x = [] := ⟨_, rfl⟩
  have hG : tGH G τ s H locs := by rw [eH, eL]; exact hG
  suffices hW : W p l e (tRm 0 0) s m ([.ref h0, .ref h1] : List Value).toArray below meth c H locs 0 0 (MQ below (tQp (fun r => 0 ≤ r.toInt ∧ r.toInt ≤ 1)) ([.ref h0, .ref h1] : List Value).toArray s 0 0 tNo) (F0 m 0 ls []) by subst eH; subst eL; exact hW
  refine lv_aload_n hx hb dX2_isLike_0 rfl (lv_at hl 0 rfl) ?_
  refine tc_geti E hG t0 fi_X2_55 dX2_isLike_1 (fun z1 _ _ => ?_)
  refine lv_aload_n hx hb dX2_isLike_4 rfl (lv_at hl 1 rfl) ?_
  refine tc_geti E hG t1 fi_X2_55 dX2_isLike_5 (fun z2 _ _ => ?_)
  refine lv_icmp_ne (tgt := 59) hx hb dX2_isLike_8 (by decide) (fun c3 => ?_) (fun c3 => ?_)
  · skip
    have ic3 := tn_ne rfl rfl c3
    refine lv_iconst (v := 0) hx hb dX2_isLike_59 (by decide) ?_
    exact tc_pret E hr hlk eH eL (t_nz (by decide) (by decide)).1 (show 0 ≤ (0 : Int32).toInt ∧ (0 : Int32).toInt ≤ 1 by have kk := kI_0; omega) dX2_isLike_60
  · skip
    have ic3 := tn_eq rfl rfl c3
    refine lv_aload_n hx hb dX2_isLike_11 rfl (lv_at hl 0 rfl) ?_
    refine tc_geti E hG t0 fi_X2_58 dX2_isLike_12 (fun z4 _ _ => ?_)
    refine lv_aload_n hx hb dX2_isLike_15 rfl (lv_at hl 1 rfl) ?_
    refine tc_geti E hG t1 fi_X2_58 dX2_isLike_16 (fun z5 _ _ => ?_)
    refine lv_icmp_ne (tgt := 59) hx hb dX2_isLike_19 (by decide) (fun c6 => ?_) (fun c6 => ?_)
    · skip
      have ic6 := tn_ne rfl rfl c6
      refine lv_iconst (v := 0) hx hb dX2_isLike_59 (by decide) ?_
      exact tc_pret E hr hlk eH eL (t_nz (by decide) (by decide)).1 (show 0 ≤ (0 : Int32).toInt ∧ (0 : Int32).toInt ≤ 1 by have kk := kI_0; omega) dX2_isLike_60
    · skip
      have ic6 := tn_eq rfl rfl c6
      refine lv_aload_n hx hb dX2_isLike_22 rfl (lv_at hl 0 rfl) ?_
      refine tc_geti E hG t0 fi_X2_27 dX2_isLike_23 (fun z7 _ _ => ?_)
      refine lv_aload_n hx hb dX2_isLike_26 rfl (lv_at hl 1 rfl) ?_
      refine tc_geti E hG t1 fi_X2_27 dX2_isLike_27 (fun z8 _ _ => ?_)
      refine lv_icmp_ne (tgt := 59) hx hb dX2_isLike_30 (by decide) (fun c9 => ?_) (fun c9 => ?_)
      · skip
        have ic9 := tn_ne rfl rfl c9
        refine lv_iconst (v := 0) hx hb dX2_isLike_59 (by decide) ?_
        exact tc_pret E hr hlk eH eL (t_nz (by decide) (by decide)).1 (show 0 ≤ (0 : Int32).toInt ∧ (0 : Int32).toInt ≤ 1 by have kk := kI_0; omega) dX2_isLike_60
      · skip
        have ic9 := tn_eq rfl rfl c9
        refine lv_aload_n hx hb dX2_isLike_33 rfl (lv_at hl 0 rfl) ?_
        refine tc_geti E hG t0 fi_X2_30 dX2_isLike_34 (fun z10 _ _ => ?_)
        refine lv_aload_n hx hb dX2_isLike_37 rfl (lv_at hl 1 rfl) ?_
        refine tc_geti E hG t1 fi_X2_30 dX2_isLike_38 (fun z11 _ _ => ?_)
        refine lv_icmp_ne (tgt := 59) hx hb dX2_isLike_41 (by decide) (fun c12 => ?_) (fun c12 => ?_)
        · skip
          have ic12 := tn_ne rfl rfl c12
          refine lv_iconst (v := 0) hx hb dX2_isLike_59 (by decide) ?_
          exact tc_pret E hr hlk eH eL (t_nz (by decide) (by decide)).1 (show 0 ≤ (0 : Int32).toInt ∧ (0 : Int32).toInt ≤ 1 by have kk := kI_0; omega) dX2_isLike_60
        · skip
          have ic12 := tn_eq rfl rfl c12
          refine lv_aload_n hx hb dX2_isLike_44 rfl (lv_at hl 0 rfl) ?_
          refine tc_geti E hG t0 fi_X2_45 dX2_isLike_45 (fun z13 _ _ => ?_)
          refine lv_aload_n hx hb dX2_isLike_48 rfl (lv_at hl 1 rfl) ?_
          refine tc_geti E hG t1 fi_X2_45 dX2_isLike_49 (fun z14 _ _ => ?_)
          refine lv_icmp_ne (tgt := 59) hx hb dX2_isLike_52 (by decide) (fun c15 => ?_) (fun c15 => ?_)
          · skip
            have ic15 := tn_ne rfl rfl c15
            refine lv_iconst (v := 0) hx hb dX2_isLike_59 (by decide) ?_
            exact tc_pret E hr hlk eH eL (t_nz (by decide) (by decide)).1 (show 0 ≤ (0 : Int32).toInt ∧ (0 : Int32).toInt ≤ 1 by have kk := kI_0; omega) dX2_isLike_60
          · skip
            have ic15 := tn_eq rfl rfl c15
            refine lv_iconst (v := 1) hx hb dX2_isLike_55 (by decide) ?_
            refine lv_goto (tgt := 60) hx hb dX2_isLike_56 (by decide) ?_
            exact tc_pret E hr hlk eH eL (t_nz (by decide) (by decide)).1 (show 0 ≤ (1 : Int32).toInt ∧ (1 : Int32).toInt ≤ 1 by have kk := kI_1; omega) dX2_isLike_60

set_option maxHeartbeats 4000000 in
set_option maxRecDepth 100000 in
theorem c_X2_copyFrom (l : Launch) (G : tG) (τ : Nat → Nat) (h0 : Nat) (h1 : Nat) (t0 : τ h0 = 4) (t1 : τ h1 = 4) : Met l yX2_copyFrom (.code yX2_copyFrom cX2_copyFrom 2 none :: tWS) (tRm 0 0) (va_Pc [.ref h0, .ref h1] (tPre G τ)) (tQv G τ) 0 0 (tA τ) := by
  refine tc_met (by decide) (Nat.le_of_ble_eq_true rfl) ?_
  intro p e s m below meth c E hSt hr hlk hG ls hl
  have hl : lv_has ls 2 [(0, .ref h0), (1, .ref h1)] := hl
  have hx := E.1
  have hb := E.2.1
  obtain ⟨H, eH⟩ : ∃ H, H = s.heap := ⟨_, rfl⟩
  obtain ⟨locs, eL⟩ : ∃ x : List Loc, x = [] := ⟨_, rfl⟩
  have hG : tGH G τ s H locs := by rw [eH, eL]; exact hG
  suffices hW : W p l e (tRm 0 0) s m ([.ref h0, .ref h1] : List Value).toArray below meth c H locs 0 0 (MQ below (tQv G τ) ([.ref h0, .ref h1] : List Value).toArray s 0 0 (tA τ)) (F0 m 0 ls []) by subst eH; subst eL; exact hW
  clear eH eL
  refine lv_aload_n hx hb dX2_copyFrom_0 rfl (lv_at hl 0 rfl) ?_
  refine lv_aload_n hx hb dX2_copyFrom_1 rfl (lv_at hl 1 rfl) ?_
  refine tc_geti E hG t1 fi_X2_19 dX2_copyFrom_2 (fun z1 lz1 uz1 => ?_)
  refine tc_putz E hG t0 fp_X2_19 (by omega) (by omega) dX2_copyFrom_5 (fun H locs hG => ?_)
  refine lv_aload_n hx hb dX2_copyFrom_8 rfl (lv_at hl 0 rfl) ?_
  refine lv_aload_n hx hb dX2_copyFrom_9 rfl (lv_at hl 1 rfl) ?_
  refine tc_geti E hG t1 fi_X2_33 dX2_copyFrom_10 (fun z2 _ _ => ?_)
  refine tc_puti E hG t0 fp_X2_33 (t_any1 _) (t_any2 _) dX2_copyFrom_13 (fun H locs hG => ?_)
  refine lv_aload_n hx hb dX2_copyFrom_16 rfl (lv_at hl 0 rfl) ?_
  refine lv_aload_n hx hb dX2_copyFrom_17 rfl (lv_at hl 1 rfl) ?_
  refine tc_geti E hG t1 fi_X2_36 dX2_copyFrom_18 (fun z3 _ _ => ?_)
  refine tc_puti E hG t0 fp_X2_36 (t_any1 _) (t_any2 _) dX2_copyFrom_21 (fun H locs hG => ?_)
  refine lv_aload_n hx hb dX2_copyFrom_24 rfl (lv_at hl 0 rfl) ?_
  refine lv_aload_n hx hb dX2_copyFrom_25 rfl (lv_at hl 1 rfl) ?_
  refine tc_geti E hG t1 fi_X2_39 dX2_copyFrom_26 (fun z4 _ _ => ?_)
  refine tc_puti E hG t0 fp_X2_39 (t_any1 _) (t_any2 _) dX2_copyFrom_29 (fun H locs hG => ?_)
  refine lv_aload_n hx hb dX2_copyFrom_32 rfl (lv_at hl 0 rfl) ?_
  refine lv_aload_n hx hb dX2_copyFrom_33 rfl (lv_at hl 1 rfl) ?_
  refine tc_geti E hG t1 fi_X2_42 dX2_copyFrom_34 (fun z5 _ _ => ?_)
  refine tc_puti E hG t0 fp_X2_42 (t_any1 _) (t_any2 _) dX2_copyFrom_37 (fun H locs hG => ?_)
  refine lv_aload_n hx hb dX2_copyFrom_40 rfl (lv_at hl 0 rfl) ?_
  refine lv_aload_n hx hb dX2_copyFrom_41 rfl (lv_at hl 1 rfl) ?_
  refine tc_geti E hG t1 fi_X2_55 dX2_copyFrom_42 (fun z6 _ _ => ?_)
  refine tc_puti E hG t0 fp_X2_55 (t_any1 _) (t_any2 _) dX2_copyFrom_45 (fun H locs hG => ?_)
  refine lv_aload_n hx hb dX2_copyFrom_48 rfl (lv_at hl 0 rfl) ?_
  refine lv_aload_n hx hb dX2_copyFrom_49 rfl (lv_at hl 1 rfl) ?_
  refine tc_geti E hG t1 fi_X2_58 dX2_copyFrom_50 (fun z7 _ _ => ?_)
  refine tc_puti E hG t0 fp_X2_58 (t_any1 _) (t_any2 _) dX2_copyFrom_53 (fun H locs hG => ?_)
  refine lv_aload_n hx hb dX2_copyFrom_56 rfl (lv_at hl 0 rfl) ?_
  refine lv_aload_n hx hb dX2_copyFrom_57 rfl (lv_at hl 1 rfl) ?_
  refine tc_geti E hG t1 fi_X2_27 dX2_copyFrom_58 (fun z8 _ _ => ?_)
  refine tc_puti E hG t0 fp_X2_27 (t_any1 _) (t_any2 _) dX2_copyFrom_61 (fun H locs hG => ?_)
  refine lv_aload_n hx hb dX2_copyFrom_64 rfl (lv_at hl 0 rfl) ?_
  refine lv_aload_n hx hb dX2_copyFrom_65 rfl (lv_at hl 1 rfl) ?_
  refine tc_geti E hG t1 fi_X2_30 dX2_copyFrom_66 (fun z9 _ _ => ?_)
  refine tc_puti E hG t0 fp_X2_30 (t_any1 _) (t_any2 _) dX2_copyFrom_69 (fun H locs hG => ?_)
  refine lv_aload_n hx hb dX2_copyFrom_72 rfl (lv_at hl 0 rfl) ?_
  refine lv_aload_n hx hb dX2_copyFrom_73 rfl (lv_at hl 1 rfl) ?_
  refine tc_geti E hG t1 fi_X2_45 dX2_copyFrom_74 (fun z10 _ _ => ?_)
  refine tc_puti E hG t0 fp_X2_45 (t_any1 _) (t_any2 _) dX2_copyFrom_77 (fun H locs hG => ?_)
  refine lv_aload_n hx hb dX2_copyFrom_80 rfl (lv_at hl 0 rfl) ?_
  refine lv_aload_n hx hb dX2_copyFrom_81 rfl (lv_at hl 1 rfl) ?_
  refine tc_geti E hG t1 fi_X2_48 dX2_copyFrom_82 (fun z11 _ _ => ?_)
  refine tc_puti E hG t0 fp_X2_48 (t_any1 _) (t_any2 _) dX2_copyFrom_85 (fun H locs hG => ?_)
  refine lv_aload_n hx hb dX2_copyFrom_88 rfl (lv_at hl 0 rfl) ?_
  refine lv_aload_n hx hb dX2_copyFrom_89 rfl (lv_at hl 1 rfl) ?_
  refine tc_geti E hG t1 fi_X2_9 dX2_copyFrom_90 (fun z12 _ _ => ?_)
  refine tc_puti E hG t0 fp_X2_9 (t_any1 _) (t_any2 _) dX2_copyFrom_93 (fun H locs hG => ?_)
  exact tc_vret E hr hlk hG dX2_copyFrom_96

set_option maxHeartbeats 4000000 in
set_option maxRecDepth 100000 in
theorem c_X0_orNoEnd (l : Launch) (G : tG) (τ : Nat → Nat) (x0 : Int32)  : Met l yX0_orNoEnd (.code yX0_orNoEnd cX0_orNoEnd 1 (some .int) :: tWS) (tRm 0 0) (va_Pc [.int x0] (tPre G τ)) (tQp (fun r => True)) 0 0 tNo := by
  refine tc_met (by decide) (Nat.le_of_ble_eq_true rfl) ?_
  intro p e s m below meth c E hSt hr hlk hG ls hl
  have hl : lv_has ls 1 [(0, .int x0)] := hl
  have hx := E.1
  have hb := E.2.1
  obtain ⟨H, eH⟩ : ∃ H, H = s.heap := ⟨_, rfl⟩
  obtain ⟨locs, eL⟩ : ∃ x : List Loc, x = [] := ⟨_, rfl⟩
  have hG : tGH G τ s H locs := by rw [eH, eL]; exact hG
  suffices hW : W p l e (tRm 0 0) s m ([.int x0] : List Value).toArray below meth c H locs 0 0 (MQ below (tQp (fun r => True)) ([.int x0] : List Value).toArray s 0 0 tNo) (F0 m 0 ls []) by subst eH; subst eL; exact hW
  refine lv_iload_n hx hb dX0_orNoEnd_0 rfl (lv_at hl 0 rfl) ?_
  refine lv_bipush (v := 99) hx hb dX0_orNoEnd_1 (by decide) ?_
  refine lv_icmp_ne (tgt := 12) hx hb dX0_orNoEnd_3 (by decide) (fun c1 => ?_) (fun c1 => ?_)
  · skip
    have ic1 := tn_ne rfl kI_99 c1
    refine lv_iload_n hx hb dX0_orNoEnd_12 rfl (lv_at hl 0 rfl) ?_
    exact tc_pret E hr hlk eH eL rfl trivial dX0_orNoEnd_13
  · skip
    have ic1 := tn_eq rfl kI_99 c1
    refine lv_sipush (v := 1000) hx hb dX0_orNoEnd_6 (by decide) ?_
    refine lv_goto (tgt := 13) hx hb dX0_orNoEnd_9 (by decide) ?_
    exact tc_pret E hr hlk eH eL rfl trivial dX0_orNoEnd_13

set_option maxHeartbeats 4000000 in
set_option maxRecDepth 100000 in
theorem c_X0_hasMemo (l : Launch) (G : tG) (τ : Nat → Nat) (h0 : Nat) (x1 : Int32) (t0 : τ h0 = 3) : Met l yX0_hasMemo (.code yX0_hasMemo cX0_hasMemo 2 (some .boolean) :: tWS) (tRm 0 0) (va_Pc [.ref h0, .int x1] (tPre G τ)) (tQp (fun r => 0 ≤ r.toInt ∧ r.toInt ≤ 1)) 0 0 tNo := by
  refine tc_met (by decide) (Nat.le_of_ble_eq_true rfl) ?_
  intro p e s m below meth c E hSt hr hlk hG ls hl
  have hl : lv_has ls 2 [(0, .ref h0), (1, .int x1)] := hl
  have hx := E.1
  have hb := E.2.1
  obtain ⟨H, eH⟩ : ∃ H, H = s.heap := ⟨_, rfl⟩
  obtain ⟨locs, eL⟩ : ∃ x : List Loc, x = [] := ⟨_, rfl⟩
  have hG : tGH G τ s H locs := by rw [eH, eL]; exact hG
  suffices hW : W p l e (tRm 0 0) s m ([.ref h0, .int x1] : List Value).toArray below meth c H locs 0 0 (MQ below (tQp (fun r => 0 ≤ r.toInt ∧ r.toInt ≤ 1)) ([.ref h0, .int x1] : List Value).toArray s 0 0 tNo) (F0 m 0 ls []) by subst eH; subst eL; exact hW
  refine lv_aload_n hx hb dX0_hasMemo_0 rfl (lv_at hl 0 rfl) ?_
  refine tc_geti E hG t0 fi_X0_50 dX0_hasMemo_1 (fun z1 _ _ => ?_)
  refine lv_iload_n hx hb dX0_hasMemo_4 rfl (lv_at hl 1 rfl) ?_
  refine lv_iushr hx hb dX0_hasMemo_5 rfl ?_
  refine lv_topi (fun z2 ez2 => ?_)
  refine lv_iconst (v := 1) hx hb dX0_hasMemo_6 (by decide) ?_
  refine lv_iand hx hb dX0_hasMemo_7 ?_
  refine lv_topi (fun z3 ez3 => ?_)
  refine lv_iconst (v := 1) hx hb dX0_hasMemo_8 (by decide) ?_
  refine lv_icmp_ne (tgt := 16) hx hb dX0_hasMemo_9 (by decide) (fun c4 => ?_) (fun c4 => ?_)
  · skip
    have ic4 := tn_ne rfl kI_1 c4
    refine lv_iconst (v := 0) hx hb dX0_hasMemo_16 (by decide) ?_
    exact tc_pret E hr hlk eH eL (t_nz (by decide) (by decide)).1 (show 0 ≤ (0 : Int32).toInt ∧ (0 : Int32).toInt ≤ 1 by have kk := kI_0; omega) dX0_hasMemo_17
  · skip
    have ic4 := tn_eq rfl kI_1 c4
    refine lv_iconst (v := 1) hx hb dX0_hasMemo_12 (by decide) ?_
    refine lv_goto (tgt := 17) hx hb dX0_hasMemo_13 (by decide) ?_
    exact tc_pret E hr hlk eH eL (t_nz (by decide) (by decide)).1 (show 0 ≤ (1 : Int32).toInt ∧ (1 : Int32).toInt ≤ 1 by have kk := kI_1; omega) dX0_hasMemo_17

set_option maxHeartbeats 4000000 in
set_option maxRecDepth 100000 in
theorem c_X0_memoOf (l : Launch) (G : tG) (τ : Nat → Nat) (h0 : Nat) (x1 : Int32) (t0 : τ h0 = 3) : Met l yX0_memoOf (.code yX0_memoOf cX0_memoOf 2 (some .int) :: tWS) (tRm 0 0) (va_Pc [.ref h0, .int x1] (tPre G τ)) (tQp (fun r => True)) 0 0 tNo := by
  refine tc_met (by decide) (Nat.le_of_ble_eq_true rfl) ?_
  intro p e s m below meth c E hSt hr hlk hG ls hl
  have hl : lv_has ls 2 [(0, .ref h0), (1, .int x1)] := hl
  have hx := E.1
  have hb := E.2.1
  obtain ⟨H, eH⟩ : ∃ H, H = s.heap := ⟨_, rfl⟩
  obtain ⟨locs, eL⟩ : ∃ x : List Loc, x = [] := ⟨_, rfl⟩
  have hG : tGH G τ s H locs := by rw [eH, eL]; exact hG
  suffices hW : W p l e (tRm 0 0) s m ([.ref h0, .int x1] : List Value).toArray below meth c H locs 0 0 (MQ below (tQp (fun r => True)) ([.ref h0, .int x1] : List Value).toArray s 0 0 tNo) (F0 m 0 ls []) by subst eH; subst eL; exact hW
  refine lv_iload_n hx hb dX0_memoOf_0 rfl (lv_at hl 1 rfl) ?_
  refine lv_if_ne (tgt := 11) hx hb dX0_memoOf_1 (by decide) (fun c1 => ?_) (fun c1 => ?_)
  · skip
    have ic1 := tn_ne rfl kI_0 c1
    refine lv_aload_n hx hb dX0_memoOf_11 rfl (lv_at hl 0 rfl) ?_
    refine tc_geti E hG t0 fi_X0_73 dX0_memoOf_12 (fun z2 _ _ => ?_)
    exact tc_pret E hr hlk eH eL rfl trivial dX0_memoOf_15
  · skip
    have ic1 := tn_eq rfl kI_0 c1
    refine lv_aload_n hx hb dX0_memoOf_4 rfl (lv_at hl 0 rfl) ?_
    refine tc_geti E hG t0 fi_X0_70 dX0_memoOf_5 (fun z3 _ _ => ?_)
    refine lv_goto (tgt := 15) hx hb dX0_memoOf_8 (by decide) ?_
    exact tc_pret E hr hlk eH eL rfl trivial dX0_memoOf_15

set_option maxHeartbeats 4000000 in
set_option maxRecDepth 100000 in
theorem c_X0_keepMemo (l : Launch) (G : tG) (τ : Nat → Nat) (h0 : Nat) (x1 : Int32) (x2 : Int32) (t0 : τ h0 = 3) : Met l yX0_keepMemo (.code yX0_keepMemo cX0_keepMemo 3 none :: tWS) (tRm 0 0) (va_Pc [.ref h0, .int x1, .int x2] (tPre G τ)) (tQv G τ) 0 0 (tA τ) := by
  refine tc_met (by decide) (Nat.le_of_ble_eq_true rfl) ?_
  intro p e s m below meth c E hSt hr hlk hG ls hl
  have hl : lv_has ls 3 [(0, .ref h0), (1, .int x1), (2, .int x2)] := hl
  have hx := E.1
  have hb := E.2.1
  obtain ⟨H, eH⟩ : ∃ H, H = s.heap := ⟨_, rfl⟩
  obtain ⟨locs, eL⟩ : ∃ x : List Loc, x = [] := ⟨_, rfl⟩
  have hG : tGH G τ s H locs := by rw [eH, eL]; exact hG
  suffices hW : W p l e (tRm 0 0) s m ([.ref h0, .int x1, .int x2] : List Value).toArray below meth c H locs 0 0 (MQ below (tQv G τ) ([.ref h0, .int x1, .int x2] : List Value).toArray s 0 0 (tA τ)) (F0 m 0 ls []) by subst eH; subst eL; exact hW
  clear eH eL
  refine lv_aload_n hx hb dX0_keepMemo_0 rfl (lv_at hl 0 rfl) ?_
  refine lv_dup hx hb dX0_keepMemo_1 rfl ?_
  refine tc_geti E hG t0 fi_X0_50 dX0_keepMemo_2 (fun z1 _ _ => ?_)
  refine lv_iconst (v := 1) hx hb dX0_keepMemo_5 (by decide) ?_
  refine lv_iload_n hx hb dX0_keepMemo_6 rfl (lv_at hl 1 rfl) ?_
  refine lv_ishl hx hb dX0_keepMemo_7 ?_
  refine lv_topi (fun z2 ez2 => ?_)
  refine lv_ior hx hb dX0_keepMemo_8 ?_
  refine lv_topi (fun z3 ez3 => ?_)
  refine tc_puti E hG t0 fp_X0_50 (t_any1 _) (t_any2 _) dX0_keepMemo_9 (fun H locs hG => ?_)
  refine lv_iload_n hx hb dX0_keepMemo_12 rfl (lv_at hl 1 rfl) ?_
  refine lv_if_ne (tgt := 24) hx hb dX0_keepMemo_13 (by decide) (fun c4 => ?_) (fun c4 => ?_)
  · skip
    have ic4 := tn_ne rfl kI_0 c4
    refine lv_aload_n hx hb dX0_keepMemo_24 rfl (lv_at hl 0 rfl) ?_
    refine lv_iload_n hx hb dX0_keepMemo_25 rfl (lv_at hl 2 rfl) ?_
    refine tc_puti E hG t0 fp_X0_73 (t_any1 _) (t_any2 _) dX0_keepMemo_26 (fun H locs hG => ?_)
    exact tc_vret E hr hlk hG dX0_keepMemo_29
  · skip
    have ic4 := tn_eq rfl kI_0 c4
    refine lv_aload_n hx hb dX0_keepMemo_16 rfl (lv_at hl 0 rfl) ?_
    refine lv_iload_n hx hb dX0_keepMemo_17 rfl (lv_at hl 2 rfl) ?_
    refine tc_puti E hG t0 fp_X0_70 (t_any1 _) (t_any2 _) dX0_keepMemo_18 (fun H locs hG => ?_)
    refine lv_goto (tgt := 29) hx hb dX0_keepMemo_21 (by decide) ?_
    exact tc_vret E hr hlk hG dX0_keepMemo_29

set_option maxHeartbeats 4000000 in
set_option maxRecDepth 100000 in
theorem c_X0_hasMemo_k (l : Launch) (G : tG) (τ : Nat → Nat) (h0 : Nat) (x1 : Int32) (t0 : τ h0 = 31) : Met l yX0_hasMemo (.code yX0_hasMemo cX0_hasMemo 2 (some .boolean) :: tWS) (tRm 0 0) (va_Pc [.ref h0, .int x1] (tPre G τ)) (tQp (fun r => 0 ≤ r.toInt ∧ r.toInt ≤ 1)) 0 0 tNo := by
  refine tc_met (by decide) (Nat.le_of_ble_eq_true rfl) ?_
  intro p e s m below meth c E hSt hr hlk hG ls hl
  have hl : lv_has ls 2 [(0, .ref h0), (1, .int x1)] := hl
  have hx := E.1
  have hb := E.2.1
  obtain ⟨H, eH⟩ : ∃ H, H = s.heap := ⟨_, rfl⟩
  obtain ⟨locs, eL⟩ : ∃ x : List Loc, x = [] := ⟨_, rfl⟩
  have hG : tGH G τ s H locs := by rw [eH, eL]; exact hG
  suffices hW : W p l e (tRm 0 0) s m ([.ref h0, .int x1] : List Value).toArray below meth c H locs 0 0 (MQ below (tQp (fun r => 0 ≤ r.toInt ∧ r.toInt ≤ 1)) ([.ref h0, .int x1] : List Value).toArray s 0 0 tNo) (F0 m 0 ls []) by subst eH; subst eL; exact hW
  refine lv_aload_n hx hb dX0_hasMemo_0 rfl (lv_at hl 0 rfl) ?_
  refine tc_geti E hG t0 fik_X0_50 dX0_hasMemo_1 (fun z1 _ _ => ?_)
  refine lv_iload_n hx hb dX0_hasMemo_4 rfl (lv_at hl 1 rfl) ?_
  refine lv_iushr hx hb dX0_hasMemo_5 rfl ?_
  refine lv_topi (fun z2 ez2 => ?_)
  refine lv_iconst (v := 1) hx hb dX0_hasMemo_6 (by decide) ?_
  refine lv_iand hx hb dX0_hasMemo_7 ?_
  refine lv_topi (fun z3 ez3 => ?_)
  refine lv_iconst (v := 1) hx hb dX0_hasMemo_8 (by decide) ?_
  refine lv_icmp_ne (tgt := 16) hx hb dX0_hasMemo_9 (by decide) (fun c4 => ?_) (fun c4 => ?_)
  · skip
    have ic4 := tn_ne rfl kI_1 c4
    refine lv_iconst (v := 0) hx hb dX0_hasMemo_16 (by decide) ?_
    exact tc_pret E hr hlk eH eL (t_nz (by decide) (by decide)).1 (show 0 ≤ (0 : Int32).toInt ∧ (0 : Int32).toInt ≤ 1 by have kk := kI_0; omega) dX0_hasMemo_17
  · skip
    have ic4 := tn_eq rfl kI_1 c4
    refine lv_iconst (v := 1) hx hb dX0_hasMemo_12 (by decide) ?_
    refine lv_goto (tgt := 17) hx hb dX0_hasMemo_13 (by decide) ?_
    exact tc_pret E hr hlk eH eL (t_nz (by decide) (by decide)).1 (show 0 ≤ (1 : Int32).toInt ∧ (1 : Int32).toInt ≤ 1 by have kk := kI_1; omega) dX0_hasMemo_17

set_option maxHeartbeats 4000000 in
set_option maxRecDepth 100000 in
theorem c_X0_memoOf_k (l : Launch) (G : tG) (τ : Nat → Nat) (h0 : Nat) (x1 : Int32) (t0 : τ h0 = 31) : Met l yX0_memoOf (.code yX0_memoOf cX0_memoOf 2 (some .int) :: tWS) (tRm 0 0) (va_Pc [.ref h0, .int x1] (tPre G τ)) (tQp (fun r => True)) 0 0 tNo := by
  refine tc_met (by decide) (Nat.le_of_ble_eq_true rfl) ?_
  intro p e s m below meth c E hSt hr hlk hG ls hl
  have hl : lv_has ls 2 [(0, .ref h0), (1, .int x1)] := hl
  have hx := E.1
  have hb := E.2.1
  obtain ⟨H, eH⟩ : ∃ H, H = s.heap := ⟨_, rfl⟩
  obtain ⟨locs, eL⟩ : ∃ x : List Loc, x = [] := ⟨_, rfl⟩
  have hG : tGH G τ s H locs := by rw [eH, eL]; exact hG
  suffices hW : W p l e (tRm 0 0) s m ([.ref h0, .int x1] : List Value).toArray below meth c H locs 0 0 (MQ below (tQp (fun r => True)) ([.ref h0, .int x1] : List Value).toArray s 0 0 tNo) (F0 m 0 ls []) by subst eH; subst eL; exact hW
  refine lv_iload_n hx hb dX0_memoOf_0 rfl (lv_at hl 1 rfl) ?_
  refine lv_if_ne (tgt := 11) hx hb dX0_memoOf_1 (by decide) (fun c1 => ?_) (fun c1 => ?_)
  · skip
    have ic1 := tn_ne rfl kI_0 c1
    refine lv_aload_n hx hb dX0_memoOf_11 rfl (lv_at hl 0 rfl) ?_
    refine tc_geti E hG t0 fik_X0_73 dX0_memoOf_12 (fun z2 _ _ => ?_)
    exact tc_pret E hr hlk eH eL rfl trivial dX0_memoOf_15
  · skip
    have ic1 := tn_eq rfl kI_0 c1
    refine lv_aload_n hx hb dX0_memoOf_4 rfl (lv_at hl 0 rfl) ?_
    refine tc_geti E hG t0 fik_X0_70 dX0_memoOf_5 (fun z3 _ _ => ?_)
    refine lv_goto (tgt := 15) hx hb dX0_memoOf_8 (by decide) ?_
    exact tc_pret E hr hlk eH eL rfl trivial dX0_memoOf_15

set_option maxHeartbeats 4000000 in
set_option maxRecDepth 100000 in
theorem c_X0_keepMemo_k (l : Launch) (G : tG) (τ : Nat → Nat) (h0 : Nat) (x1 : Int32) (x2 : Int32) (t0 : τ h0 = 31) : Met l yX0_keepMemo (.code yX0_keepMemo cX0_keepMemo 3 none :: tWS) (tRm 0 0) (va_Pc [.ref h0, .int x1, .int x2] (tPre G τ)) (tQv G τ) 0 0 (tA τ) := by
  refine tc_met (by decide) (Nat.le_of_ble_eq_true rfl) ?_
  intro p e s m below meth c E hSt hr hlk hG ls hl
  have hl : lv_has ls 3 [(0, .ref h0), (1, .int x1), (2, .int x2)] := hl
  have hx := E.1
  have hb := E.2.1
  obtain ⟨H, eH⟩ : ∃ H, H = s.heap := ⟨_, rfl⟩
  obtain ⟨locs, eL⟩ : ∃ x : List Loc, x = [] := ⟨_, rfl⟩
  have hG : tGH G τ s H locs := by rw [eH, eL]; exact hG
  suffices hW : W p l e (tRm 0 0) s m ([.ref h0, .int x1, .int x2] : List Value).toArray below meth c H locs 0 0 (MQ below (tQv G τ) ([.ref h0, .int x1, .int x2] : List Value).toArray s 0 0 (tA τ)) (F0 m 0 ls []) by subst eH; subst eL; exact hW
  clear eH eL
  refine lv_aload_n hx hb dX0_keepMemo_0 rfl (lv_at hl 0 rfl) ?_
  refine lv_dup hx hb dX0_keepMemo_1 rfl ?_
  refine tc_geti E hG t0 fik_X0_50 dX0_keepMemo_2 (fun z1 _ _ => ?_)
  refine lv_iconst (v := 1) hx hb dX0_keepMemo_5 (by decide) ?_
  refine lv_iload_n hx hb dX0_keepMemo_6 rfl (lv_at hl 1 rfl) ?_
  refine lv_ishl hx hb dX0_keepMemo_7 ?_
  refine lv_topi (fun z2 ez2 => ?_)
  refine lv_ior hx hb dX0_keepMemo_8 ?_
  refine lv_topi (fun z3 ez3 => ?_)
  refine tc_puti E hG t0 fpk_X0_50 (t_any1 _) (t_any2 _) dX0_keepMemo_9 (fun H locs hG => ?_)
  refine lv_iload_n hx hb dX0_keepMemo_12 rfl (lv_at hl 1 rfl) ?_
  refine lv_if_ne (tgt := 24) hx hb dX0_keepMemo_13 (by decide) (fun c4 => ?_) (fun c4 => ?_)
  · skip
    have ic4 := tn_ne rfl kI_0 c4
    refine lv_aload_n hx hb dX0_keepMemo_24 rfl (lv_at hl 0 rfl) ?_
    refine lv_iload_n hx hb dX0_keepMemo_25 rfl (lv_at hl 2 rfl) ?_
    refine tc_puti E hG t0 fpk_X0_73 (t_any1 _) (t_any2 _) dX0_keepMemo_26 (fun H locs hG => ?_)
    exact tc_vret E hr hlk hG dX0_keepMemo_29
  · skip
    have ic4 := tn_eq rfl kI_0 c4
    refine lv_aload_n hx hb dX0_keepMemo_16 rfl (lv_at hl 0 rfl) ?_
    refine lv_iload_n hx hb dX0_keepMemo_17 rfl (lv_at hl 2 rfl) ?_
    refine tc_puti E hG t0 fpk_X0_70 (t_any1 _) (t_any2 _) dX0_keepMemo_18 (fun H locs hG => ?_)
    refine lv_goto (tgt := 29) hx hb dX0_keepMemo_21 (by decide) ?_
    exact tc_vret E hr hlk hG dX0_keepMemo_29

set_option maxHeartbeats 4000000 in
set_option maxRecDepth 100000 in
theorem c_X0_placeOfKid (l : Launch) (G : tG) (τ : Nat → Nat) (h0 : Nat) (x1 : Int32) (t0 : τ h0 = 3) : Met l yX0_placeOfKid (.code yX0_placeOfKid cX0_placeOfKid 3 (some .int) :: tWS) (tRm 0 0) (va_Pc [.ref h0, .int x1] (tPre G τ)) (tQp (fun r => -1 ≤ r.toInt ∧ r.toInt ≤ 7)) 0 0 tNo := by
  refine tc_met (by decide) (Nat.le_of_ble_eq_true rfl) ?_
  intro p e s m below meth c E hSt hr hlk hG ls hl
  have hl : lv_has ls 3 [(0, .ref h0), (1, .int x1)] := hl
  have hx := E.1
  have hb := E.2.1
  obtain ⟨H, eH⟩ : ∃ H, H = s.heap := ⟨_, rfl⟩
  obtain ⟨locs, eL⟩ : ∃ x : List Loc, x = [] := ⟨_, rfl⟩
  have hG : tGH G τ s H locs := by rw [eH, eL]; exact hG
  suffices hW : W p l e (tRm 0 0) s m ([.ref h0, .int x1] : List Value).toArray below meth c H locs 0 0 (MQ below (tQp (fun r => -1 ≤ r.toInt ∧ r.toInt ≤ 7)) ([.ref h0, .int x1] : List Value).toArray s 0 0 tNo) (F0 m 0 ls []) by subst eH; subst eL; exact hW
  have J2 : ∀ (n2 : Nat) (ls : Array Slot) (v2 : Int32), lv_has ls 3 [(0, .ref h0), (1, .int x1), (2, .int v2)] → 0 ≤ v2.toInt → v2.toInt ≤ 8 → (8 - v2.toInt).toNat < n2 → W p l e (tRm 0 0) s m ([.ref h0, .int x1] : List Value).toArray below meth c H locs 0 0 (MQ below (tQp (fun r => -1 ≤ r.toInt ∧ r.toInt ≤ 7)) ([.ref h0, .int x1] : List Value).toArray s 0 0 tNo) (F0 m 2 ls []) := by
    intro n2
    induction n2 with
    | zero => intro ls v2 hl b2 c2 hn2; exact absurd hn2 (Nat.not_lt_zero _)
    | succ n2 ih2 =>
      intro ls v2 hl b2 c2 hn2
      refine lv_iload_n hx hb dX0_placeOfKid_2 rfl (lv_at hl 2 rfl) ?_
      refine lv_aload_n hx hb dX0_placeOfKid_3 rfl (lv_at hl 0 rfl) ?_
      refine tc_geti E hG t0 fi_X0_47 dX0_placeOfKid_4 (fun z1 lz1 uz1 => ?_)
      refine lv_icmp_ge (tgt := 28) hx hb dX0_placeOfKid_7 (by decide) (fun c2 => ?_) (fun c2 => ?_)
      · skip
        have ic2 := tn_le rfl rfl c2
        refine lv_iconst (v := -1) hx hb dX0_placeOfKid_28 (by decide) ?_
        exact tc_pret E hr hlk eH eL rfl (show -1 ≤ (-1 : Int32).toInt ∧ (-1 : Int32).toInt ≤ 7 by have kk := kI_m1; omega) dX0_placeOfKid_29
      · skip
        have ic2 := tn_nle rfl rfl c2
        refine lv_aload_n hx hb dX0_placeOfKid_10 rfl (lv_at hl 0 rfl) ?_
        refine tc_getr E hG t0 fr_X0_15 dX0_placeOfKid_11 (fun oa3 hoa3 => ?_)
        refine lv_iload_n hx hb dX0_placeOfKid_14 rfl (lv_at hl 2 rfl) ?_
        refine tc_iald E hG hoa3 ta_12 (t_in (by omega) (by omega)) dX0_placeOfKid_15 (fun z4 lz4 uz4 => ?_)
        refine lv_iload_n hx hb dX0_placeOfKid_16 rfl (lv_at hl 1 rfl) ?_
        refine lv_icmp_ne (tgt := 22) hx hb dX0_placeOfKid_17 (by decide) (fun c5 => ?_) (fun c5 => ?_)
        · skip
          have ic5 := tn_ne rfl rfl c5
          obtain ⟨z6, ez6⟩ : ∃ y : Int32, y = v2 + (1) := ⟨_, rfl⟩
          refine lv_iinc (v := z6) (lv' := [(2, .int z6), (0, .ref h0), (1, .int x1)]) hx hb dX0_placeOfKid_22 hl (k := 2) rfl (by rw [ez6]; rfl) (by decide) rfl (fun ls hl => ?_)
          have tz6 := tn_add ez6 rfl kI_1 (by omega) (by omega)
          refine lv_goto (tgt := 2) hx hb dX0_placeOfKid_25 (by decide) ?_
          exact ih2 ls z6 (lv_sub hl [1, 2, 0] rfl) (by omega) (by omega) (by omega)
        · skip
          have ic5 := tn_eq rfl rfl c5
          refine lv_iload_n hx hb dX0_placeOfKid_20 rfl (lv_at hl 2 rfl) ?_
          exact tc_pret E hr hlk eH eL rfl (show -1 ≤ v2.toInt ∧ v2.toInt ≤ 7 by omega) dX0_placeOfKid_21
  refine lv_iconst (v := 0) hx hb dX0_placeOfKid_0 (by decide) ?_
  refine lv_istore_n (lv' := [(2, .int 0), (0, .ref h0), (1, .int x1)]) hx hb dX0_placeOfKid_1 rfl hl (by decide) rfl (fun ls hl => ?_)
  exact J2 ((8 - (0 : Int32).toInt).toNat + 1) ls (0 : Int32) (lv_sub hl [1, 2, 0] rfl) (by decide) (by decide) (Nat.lt_succ_self _)

set_option maxHeartbeats 4000000 in
set_option maxRecDepth 100000 in
theorem c_X0_copyFrom_k (l : Launch) (G : tG) (τ : Nat → Nat) (h0 : Nat) (h1 : Nat) (t0 : τ h0 = 31) (t1 : τ h1 = 3) : Met l yX0_copyFrom (.code yX0_copyFrom cX0_copyFrom 2 none :: tWS) (tRm 1 40) (va_Pc [.ref h0, .ref h1] (tPre G τ)) (tQv G τ) 0 0 (tA τ) := by
  refine tc_met (by decide) (Nat.le_of_ble_eq_true rfl) ?_
  intro p e s m below meth c E hSt hr hlk hG ls hl
  have hl : lv_has ls 2 [(0, .ref h0), (1, .ref h1)] := hl
  have hx := E.1
  have hb := E.2.1
  obtain ⟨H, eH⟩ : ∃ H, H = s.heap := ⟨_, rfl⟩
  obtain ⟨locs, eL⟩ : ∃ x : List Loc, x = [] := ⟨_, rfl⟩
  have hG : tGH G τ s H locs := by rw [eH, eL]; exact hG
  suffices hW : W p l e (tRm 1 40) s m ([.ref h0, .ref h1] : List Value).toArray below meth c H locs 0 0 (MQ below (tQv G τ) ([.ref h0, .ref h1] : List Value).toArray s 0 0 (tA τ)) (F0 m 0 ls []) by subst eH; subst eL; exact hW
  clear eH eL
  refine lv_aload_n hx hb dX0_copyFrom_0 rfl (lv_at hl 0 rfl) ?_
  refine lv_aload_n hx hb dX0_copyFrom_1 rfl (lv_at hl 1 rfl) ?_
  refine tc_geti E hG t1 fi_X0_29 dX0_copyFrom_2 (fun z1 _ _ => ?_)
  refine tc_puti E hG t0 fpk_X0_29 (t_any1 _) (t_any2 _) dX0_copyFrom_5 (fun H locs hG => ?_)
  refine lv_aload_n hx hb dX0_copyFrom_8 rfl (lv_at hl 0 rfl) ?_
  refine lv_aload_n hx hb dX0_copyFrom_9 rfl (lv_at hl 1 rfl) ?_
  refine tc_geti E hG t1 fi_X0_32 dX0_copyFrom_10 (fun z2 _ _ => ?_)
  refine tc_puti E hG t0 fpk_X0_32 (t_any1 _) (t_any2 _) dX0_copyFrom_13 (fun H locs hG => ?_)
  refine lv_aload_n hx hb dX0_copyFrom_16 rfl (lv_at hl 0 rfl) ?_
  refine lv_aload_n hx hb dX0_copyFrom_17 rfl (lv_at hl 1 rfl) ?_
  refine tc_geti E hG t1 fi_X0_35 dX0_copyFrom_18 (fun z3 _ _ => ?_)
  refine tc_puti E hG t0 fpk_X0_35 (t_any1 _) (t_any2 _) dX0_copyFrom_21 (fun H locs hG => ?_)
  refine lv_aload_n hx hb dX0_copyFrom_24 rfl (lv_at hl 0 rfl) ?_
  refine lv_aload_n hx hb dX0_copyFrom_25 rfl (lv_at hl 1 rfl) ?_
  refine tc_geti E hG t1 fi_X0_38 dX0_copyFrom_26 (fun z4 _ _ => ?_)
  refine tc_puti E hG t0 fpk_X0_38 (t_any1 _) (t_any2 _) dX0_copyFrom_29 (fun H locs hG => ?_)
  refine lv_aload_n hx hb dX0_copyFrom_32 rfl (lv_at hl 1 rfl) ?_
  refine tc_getr E hG t1 fr_X0_9 dX0_copyFrom_33 (fun oa5 hoa5 => ?_)
  refine lv_iconst (v := 0) hx hb dX0_copyFrom_36 (by decide) ?_
  refine lv_aload_n hx hb dX0_copyFrom_37 rfl (lv_at hl 0 rfl) ?_
  refine tc_getr E hG t0 frk_X0_9 dX0_copyFrom_38 (fun oa6 hoa6 => ?_)
  refine lv_iconst (v := 0) hx hb dX0_copyFrom_41 (by decide) ?_
  refine lv_iconst (v := 4) hx hb dX0_copyFrom_42 (by decide) ?_
  have k9 := kI_4
  have k10 := kI_0
  have k11 := kI_0
  refine tc_copyi (rest := []) E hl.1 hG ml_X0_76 kn_copy1 kn_copy2 kn_copy3 hoa5 hoa6 ta_11 ta_32 (by omega) (by omega) (by omega) (by omega) (by omega) ⟨Nat.le_of_ble_eq_true rfl, by decide +kernel⟩ dX0_copyFrom_43 (fun H locs hG oq7 => ?_)
  refine lv_aload_n hx hb dX0_copyFrom_46 rfl (lv_at hl 1 rfl) ?_
  refine tc_getr E hG t1 fr_X0_15 dX0_copyFrom_47 (fun oa12 hoa12 => ?_)
  refine lv_iconst (v := 0) hx hb dX0_copyFrom_50 (by decide) ?_
  refine lv_aload_n hx hb dX0_copyFrom_51 rfl (lv_at hl 0 rfl) ?_
  refine tc_getr E hG t0 frk_X0_15 dX0_copyFrom_52 (fun oa13 hoa13 => ?_)
  refine lv_iconst (v := 0) hx hb dX0_copyFrom_55 (by decide) ?_
  refine lv_aload_n hx hb dX0_copyFrom_56 rfl (lv_at hl 1 rfl) ?_
  refine tc_geti E hG t1 fi_X0_47 dX0_copyFrom_57 (fun z14 lz14 uz14 => ?_)
  have k17 := kI_0
  have k18 := kI_0
  refine tc_copyi (rest := []) E hl.1 hG ml_X0_76 kn_copy1 kn_copy2 kn_copy3 hoa12 hoa13 ta_12 ta_33 (by omega) (by omega) (by omega) (by omega) (by omega) ⟨Nat.le_of_ble_eq_true rfl, by decide +kernel⟩ dX0_copyFrom_60 (fun H locs hG oq15 => ?_)
  refine lv_aload_n hx hb dX0_copyFrom_63 rfl (lv_at hl 0 rfl) ?_
  refine lv_aload_n hx hb dX0_copyFrom_64 rfl (lv_at hl 1 rfl) ?_
  refine tc_geti E hG t1 fi_X0_41 dX0_copyFrom_65 (fun z19 _ _ => ?_)
  refine tc_puti E hG t0 fpk_X0_41 (t_any1 _) (t_any2 _) dX0_copyFrom_68 (fun H locs hG => ?_)
  refine lv_aload_n hx hb dX0_copyFrom_71 rfl (lv_at hl 0 rfl) ?_
  refine lv_aload_n hx hb dX0_copyFrom_72 rfl (lv_at hl 1 rfl) ?_
  refine tc_geti E hG t1 fi_X0_44 dX0_copyFrom_73 (fun z20 _ _ => ?_)
  refine tc_puti E hG t0 fpk_X0_44 (t_any1 _) (t_any2 _) dX0_copyFrom_76 (fun H locs hG => ?_)
  refine lv_aload_n hx hb dX0_copyFrom_79 rfl (lv_at hl 0 rfl) ?_
  refine lv_aload_n hx hb dX0_copyFrom_80 rfl (lv_at hl 1 rfl) ?_
  refine tc_geti E hG t1 fi_X0_47 dX0_copyFrom_81 (fun z21 lz21 uz21 => ?_)
  refine tc_puti E hG t0 fpk_X0_47 (by omega) (by omega) dX0_copyFrom_84 (fun H locs hG => ?_)
  refine lv_aload_n hx hb dX0_copyFrom_87 rfl (lv_at hl 0 rfl) ?_
  refine lv_aload_n hx hb dX0_copyFrom_88 rfl (lv_at hl 1 rfl) ?_
  refine tc_geti E hG t1 fi_X0_50 dX0_copyFrom_89 (fun z22 _ _ => ?_)
  refine tc_puti E hG t0 fpk_X0_50 (t_any1 _) (t_any2 _) dX0_copyFrom_92 (fun H locs hG => ?_)
  refine lv_aload_n hx hb dX0_copyFrom_95 rfl (lv_at hl 0 rfl) ?_
  refine lv_aload_n hx hb dX0_copyFrom_96 rfl (lv_at hl 1 rfl) ?_
  refine tc_geti E hG t1 fi_X0_70 dX0_copyFrom_97 (fun z23 _ _ => ?_)
  refine tc_puti E hG t0 fpk_X0_70 (t_any1 _) (t_any2 _) dX0_copyFrom_100 (fun H locs hG => ?_)
  refine lv_aload_n hx hb dX0_copyFrom_103 rfl (lv_at hl 0 rfl) ?_
  refine lv_aload_n hx hb dX0_copyFrom_104 rfl (lv_at hl 1 rfl) ?_
  refine tc_geti E hG t1 fi_X0_73 dX0_copyFrom_105 (fun z24 _ _ => ?_)
  refine tc_puti E hG t0 fpk_X0_73 (t_any1 _) (t_any2 _) dX0_copyFrom_108 (fun H locs hG => ?_)
  refine lv_aload_n hx hb dX0_copyFrom_111 rfl (lv_at hl 0 rfl) ?_
  refine tc_getr E hG t0 frk_X0_21 dX0_copyFrom_112 (fun oa25 hoa25 => ?_)
  refine lv_aload_n hx hb dX0_copyFrom_115 rfl (lv_at hl 1 rfl) ?_
  refine tc_getr E hG t1 fr_X0_21 dX0_copyFrom_116 (fun oa26 hoa26 => ?_)
  refine tc_callv hG (tc_runV (As := [.ref oa26]) (rest := []) E hSt hG (c_X2_copyFrom l G τ oa25 oa26 hoa25 hoa26) hoa25 rv_4 kv_X2_copyFrom ml_X0_82 ⟨rfl, rfl, Nat.le_of_ble_eq_true rfl, Nat.le_of_ble_eq_true rfl⟩ rfl hl.1 rfl (Nat.le_of_ble_eq_true rfl) ⟨Nat.zero_le _, Nat.zero_le _⟩ dX0_copyFrom_119) (fun H locs hG => ?_)
  exact tc_vret E hr hlk hG dX0_copyFrom_122

set_option maxHeartbeats 4000000 in
set_option maxRecDepth 100000 in
theorem c_X0_hasTold (l : Launch) (G : tG) (τ : Nat → Nat) (h0 : Nat) (x1 : Int32) (t0 : τ h0 = 3) : Met l yX0_hasTold (.code yX0_hasTold cX0_hasTold 2 (some .boolean) :: tWS) (tRm 2 40) (va_Pc [.ref h0, .int x1] (tPre G τ)) (tQp (fun r => (0 ≤ r.toInt ∧ r.toInt ≤ 1) ∧ (r.toInt = 0 ∨ (0 ≤ x1.toInt ∧ x1.toInt ≤ 6)))) 0 0 tNo := by
  refine tc_met (by decide) (Nat.le_of_ble_eq_true rfl) ?_
  intro p e s m below meth c E hSt hr hlk hG ls hl
  have hl : lv_has ls 2 [(0, .ref h0), (1, .int x1)] := hl
  have hx := E.1
  have hb := E.2.1
  obtain ⟨H, eH⟩ : ∃ H, H = s.heap := ⟨_, rfl⟩
  obtain ⟨locs, eL⟩ : ∃ x : List Loc, x = [] := ⟨_, rfl⟩
  have hG : tGH G τ s H locs := by rw [eH, eL]; exact hG
  suffices hW : W p l e (tRm 2 40) s m ([.ref h0, .int x1] : List Value).toArray below meth c H locs 0 0 (MQ below (tQp (fun r => (0 ≤ r.toInt ∧ r.toInt ≤ 1) ∧ (r.toInt = 0 ∨ (0 ≤ x1.toInt ∧ x1.toInt ≤ 6)))) ([.ref h0, .int x1] : List Value).toArray s 0 0 tNo) (F0 m 0 ls []) by subst eH; subst eL; exact hW
  refine lv_iload_n hx hb dX0_hasTold_0 rfl (lv_at hl 1 rfl) ?_
  refine lv_if_lt (tgt := 30) hx hb dX0_hasTold_1 (by decide) (fun c1 => ?_) (fun c1 => ?_)
  · skip
    have ic1 := tn_lt rfl kI_0 c1
    refine lv_iconst (v := 0) hx hb dX0_hasTold_30 (by decide) ?_
    exact tc_pret E hr hlk eH eL (t_nz (by decide) (by decide)).1 (show (0 ≤ (0 : Int32).toInt ∧ (0 : Int32).toInt ≤ 1) ∧ ((0 : Int32).toInt = 0 ∨ (0 ≤ x1.toInt ∧ x1.toInt ≤ 6)) by have kk := kI_0; omega) dX0_hasTold_31
  · skip
    have ic1 := tn_nlt rfl kI_0 c1
    refine lv_iload_n hx hb dX0_hasTold_4 rfl (lv_at hl 1 rfl) ?_
    refine lv_aload_n hx hb dX0_hasTold_5 rfl (lv_at hl 0 rfl) ?_
    refine tc_geti E hG t0 fi_X0_29 dX0_hasTold_6 (fun z2 _ _ => ?_)
    refine tc_callp (tc_runS (As := [.int z2]) (rest := [.int x1]) E hSt hG (c_X1_numbersOf l G τ z2) ks_X1_numbersOf ml_X0_56 ⟨rfl, rfl, Nat.le_of_ble_eq_true rfl, Nat.le_of_ble_eq_true rfl⟩ rfl hl.1 rfl (Nat.le_of_ble_eq_true rfl) ⟨Nat.zero_le _, Nat.zero_le _⟩ dX0_hasTold_9) (fun r3 pr3 => ?_)
    have pr3 : (0 ≤ r3.toInt ∧ r3.toInt ≤ 4) ∧ (r3.toInt = 0 ∨ (0 ≤ z2.toInt ∧ z2.toInt ≤ 9)) := pr3
    refine lv_icmp_lt (tgt := 26) hx hb dX0_hasTold_12 (by decide) (fun c4 => ?_) (fun c4 => ?_)
    · skip
      have ic4 := tn_lt rfl rfl c4
      refine lv_iconst (v := 1) hx hb dX0_hasTold_26 (by decide) ?_
      refine lv_goto (tgt := 31) hx hb dX0_hasTold_27 (by decide) ?_
      exact tc_pret E hr hlk eH eL (t_nz (by decide) (by decide)).1 (show (0 ≤ (1 : Int32).toInt ∧ (1 : Int32).toInt ≤ 1) ∧ ((1 : Int32).toInt = 0 ∨ (0 ≤ x1.toInt ∧ x1.toInt ≤ 6)) by have kk := kI_1; omega) dX0_hasTold_31
    · skip
      have ic4 := tn_nlt rfl rfl c4
      refine lv_iload_n hx hb dX0_hasTold_15 rfl (lv_at hl 1 rfl) ?_
      refine lv_iconst (v := 4) hx hb dX0_hasTold_16 (by decide) ?_
      refine lv_icmp_lt (tgt := 30) hx hb dX0_hasTold_17 (by decide) (fun c5 => ?_) (fun c5 => ?_)
      · skip
        have ic5 := tn_lt rfl kI_4 c5
        refine lv_iconst (v := 0) hx hb dX0_hasTold_30 (by decide) ?_
        exact tc_pret E hr hlk eH eL (t_nz (by decide) (by decide)).1 (show (0 ≤ (0 : Int32).toInt ∧ (0 : Int32).toInt ≤ 1) ∧ ((0 : Int32).toInt = 0 ∨ (0 ≤ x1.toInt ∧ x1.toInt ≤ 6)) by have kk := kI_0; omega) dX0_hasTold_31
      · skip
        have ic5 := tn_nlt rfl kI_4 c5
        refine lv_iload_n hx hb dX0_hasTold_20 rfl (lv_at hl 1 rfl) ?_
        refine lv_bipush (v := 6) hx hb dX0_hasTold_21 (by decide) ?_
        refine lv_icmp_gt (tgt := 30) hx hb dX0_hasTold_23 (by decide) (fun c6 => ?_) (fun c6 => ?_)
        · skip
          have ic6 := tn_lt kI_6 rfl c6
          refine lv_iconst (v := 0) hx hb dX0_hasTold_30 (by decide) ?_
          exact tc_pret E hr hlk eH eL (t_nz (by decide) (by decide)).1 (show (0 ≤ (0 : Int32).toInt ∧ (0 : Int32).toInt ≤ 1) ∧ ((0 : Int32).toInt = 0 ∨ (0 ≤ x1.toInt ∧ x1.toInt ≤ 6)) by have kk := kI_0; omega) dX0_hasTold_31
        · skip
          have ic6 := tn_nlt kI_6 rfl c6
          refine lv_iconst (v := 1) hx hb dX0_hasTold_26 (by decide) ?_
          refine lv_goto (tgt := 31) hx hb dX0_hasTold_27 (by decide) ?_
          exact tc_pret E hr hlk eH eL (t_nz (by decide) (by decide)).1 (show (0 ≤ (1 : Int32).toInt ∧ (1 : Int32).toInt ≤ 1) ∧ ((1 : Int32).toInt = 0 ∨ (0 ≤ x1.toInt ∧ x1.toInt ≤ 6)) by have kk := kI_1; omega) dX0_hasTold_31

set_option maxHeartbeats 4000000 in
set_option maxRecDepth 100000 in
theorem c_X0_keepsOrder (l : Launch) (G : tG) (τ : Nat → Nat) (h0 : Nat) (x1 : Int32) (x2 : Int32) (t0 : τ h0 = 3) (l1 : 0 ≤ x1.toInt) (u1 : x1.toInt ≤ 3) : Met l yX0_keepsOrder (.code yX0_keepsOrder cX0_keepsOrder 3 (some .boolean) :: tWS) (tRm 0 0) (va_Pc [.ref h0, .int x1, .int x2] (tPre G τ)) (tQp (fun r => 0 ≤ r.toInt ∧ r.toInt ≤ 1)) 0 0 tNo := by
  refine tc_met (by decide) (Nat.le_of_ble_eq_true rfl) ?_
  intro p e s m below meth c E hSt hr hlk hG ls hl
  have hl : lv_has ls 3 [(0, .ref h0), (1, .int x1), (2, .int x2)] := hl
  have hx := E.1
  have hb := E.2.1
  obtain ⟨H, eH⟩ : ∃ H, H = s.heap := ⟨_, rfl⟩
  obtain ⟨locs, eL⟩ : ∃ x : List Loc, x = [] := ⟨_, rfl⟩
  have hG : tGH G τ s H locs := by rw [eH, eL]; exact hG
  suffices hW : W p l e (tRm 0 0) s m ([.ref h0, .int x1, .int x2] : List Value).toArray below meth c H locs 0 0 (MQ below (tQp (fun r => 0 ≤ r.toInt ∧ r.toInt ≤ 1)) ([.ref h0, .int x1, .int x2] : List Value).toArray s 0 0 tNo) (F0 m 0 ls []) by subst eH; subst eL; exact hW
  refine lv_aload_n hx hb dX0_keepsOrder_0 rfl (lv_at hl 0 rfl) ?_
  refine tc_geti E hG t0 fi_X0_29 dX0_keepsOrder_1 (fun z1 _ _ => ?_)
  refine lv_iconst (v := 3) hx hb dX0_keepsOrder_4 (by decide) ?_
  refine lv_icmp_eq (tgt := 10) hx hb dX0_keepsOrder_5 (by decide) (fun c2 => ?_) (fun c2 => ?_)
  · skip
    have ic2 := tn_eq rfl kI_3 c2
    refine lv_iload_n hx hb dX0_keepsOrder_10 rfl (lv_at hl 1 rfl) ?_
    refine lv_iconst (v := 2) hx hb dX0_keepsOrder_11 (by decide) ?_
    refine lv_irem hx hb dX0_keepsOrder_12 (by decide) ?_
    refine lv_topi (fun z3 ez3 => ?_)
    have tz3 := tn_rem ez3 kI_2 (by omega) (by decide)
    refine lv_if_ne (tgt := 36) hx hb dX0_keepsOrder_13 (by decide) (fun c4 => ?_) (fun c4 => ?_)
    · skip
      have ic4 := tn_ne rfl kI_0 c4
      refine lv_iload_n hx hb dX0_keepsOrder_36 rfl (lv_at hl 2 rfl) ?_
      refine lv_aload_n hx hb dX0_keepsOrder_37 rfl (lv_at hl 0 rfl) ?_
      refine tc_getr E hG t0 fr_X0_9 dX0_keepsOrder_38 (fun oa5 hoa5 => ?_)
      refine lv_iload_n hx hb dX0_keepsOrder_41 rfl (lv_at hl 1 rfl) ?_
      refine lv_iconst (v := 1) hx hb dX0_keepsOrder_42 (by decide) ?_
      refine lv_isub hx hb dX0_keepsOrder_43 ?_
      refine lv_topi (fun z6 ez6 => ?_)
      have tz6 := tn_sub ez6 rfl kI_1 (by omega) (by omega)
      refine tc_iald E hG hoa5 ta_11 (t_in (by omega) (by omega)) dX0_keepsOrder_44 (fun z7 _ _ => ?_)
      refine lv_icmp_lt (tgt := 52) hx hb dX0_keepsOrder_45 (by decide) (fun c8 => ?_) (fun c8 => ?_)
      · skip
        have ic8 := tn_lt rfl rfl c8
        refine lv_iconst (v := 0) hx hb dX0_keepsOrder_52 (by decide) ?_
        exact tc_pret E hr hlk eH eL (t_nz (by decide) (by decide)).1 (show 0 ≤ (0 : Int32).toInt ∧ (0 : Int32).toInt ≤ 1 by have kk := kI_0; omega) dX0_keepsOrder_53
      · skip
        have ic8 := tn_nlt rfl rfl c8
        refine lv_iconst (v := 1) hx hb dX0_keepsOrder_48 (by decide) ?_
        refine lv_goto (tgt := 53) hx hb dX0_keepsOrder_49 (by decide) ?_
        exact tc_pret E hr hlk eH eL (t_nz (by decide) (by decide)).1 (show 0 ≤ (1 : Int32).toInt ∧ (1 : Int32).toInt ≤ 1 by have kk := kI_1; omega) dX0_keepsOrder_53
    · skip
      have ic4 := tn_eq rfl kI_0 c4
      refine lv_iload_n hx hb dX0_keepsOrder_16 rfl (lv_at hl 2 rfl) ?_
      refine lv_aload_n hx hb dX0_keepsOrder_17 rfl (lv_at hl 0 rfl) ?_
      refine tc_getr E hG t0 fr_X0_9 dX0_keepsOrder_18 (fun oa9 hoa9 => ?_)
      refine lv_iload_n hx hb dX0_keepsOrder_21 rfl (lv_at hl 1 rfl) ?_
      refine lv_iconst (v := 1) hx hb dX0_keepsOrder_22 (by decide) ?_
      refine lv_iadd hx hb dX0_keepsOrder_23 ?_
      refine lv_topi (fun z10 ez10 => ?_)
      have tz10 := tn_add ez10 rfl kI_1 (by omega) (by omega)
      refine tc_iald E hG hoa9 ta_11 (t_in (by omega) (by omega)) dX0_keepsOrder_24 (fun z11 _ _ => ?_)
      refine lv_icmp_gt (tgt := 32) hx hb dX0_keepsOrder_25 (by decide) (fun c12 => ?_) (fun c12 => ?_)
      · skip
        have ic12 := tn_lt rfl rfl c12
        refine lv_iconst (v := 0) hx hb dX0_keepsOrder_32 (by decide) ?_
        refine lv_goto (tgt := 53) hx hb dX0_keepsOrder_33 (by decide) ?_
        exact tc_pret E hr hlk eH eL (t_nz (by decide) (by decide)).1 (show 0 ≤ (0 : Int32).toInt ∧ (0 : Int32).toInt ≤ 1 by have kk := kI_0; omega) dX0_keepsOrder_53
      · skip
        have ic12 := tn_nlt rfl rfl c12
        refine lv_iconst (v := 1) hx hb dX0_keepsOrder_28 (by decide) ?_
        refine lv_goto (tgt := 53) hx hb dX0_keepsOrder_29 (by decide) ?_
        exact tc_pret E hr hlk eH eL (t_nz (by decide) (by decide)).1 (show 0 ≤ (1 : Int32).toInt ∧ (1 : Int32).toInt ≤ 1 by have kk := kI_1; omega) dX0_keepsOrder_53
  · skip
    have ic2 := tn_ne rfl kI_3 c2
    refine lv_iconst (v := 1) hx hb dX0_keepsOrder_8 (by decide) ?_
    exact tc_pret E hr hlk eH eL (t_nz (by decide) (by decide)).1 (show 0 ≤ (1 : Int32).toInt ∧ (1 : Int32).toInt ≤ 1 by have kk := kI_1; omega) dX0_keepsOrder_9

set_option maxHeartbeats 4000000 in
set_option maxRecDepth 100000 in
theorem c_X0_mayBeTold (l : Launch) (G : tG) (τ : Nat → Nat) (h0 : Nat) (x1 : Int32) (x2 : Int32) (t0 : τ h0 = 3) : Met l yX0_mayBeTold (.code yX0_mayBeTold cX0_mayBeTold 3 (some .boolean) :: tWS) (tRm 3 63) (va_Pc [.ref h0, .int x1, .int x2] (tPre G τ)) (tQp (fun r => 0 ≤ r.toInt ∧ r.toInt ≤ 1)) 0 0 tNo := by
  refine tc_met (by decide) (Nat.le_of_ble_eq_true rfl) ?_
  intro p e s m below meth c E hSt hr hlk hG ls hl
  have hl : lv_has ls 3 [(0, .ref h0), (1, .int x1), (2, .int x2)] := hl
  have hx := E.1
  have hb := E.2.1
  obtain ⟨H, eH⟩ : ∃ H, H = s.heap := ⟨_, rfl⟩
  obtain ⟨locs, eL⟩ : ∃ x : List Loc, x = [] := ⟨_, rfl⟩
  have hG : tGH G τ s H locs := by rw [eH, eL]; exact hG
  suffices hW : W p l e (tRm 3 63) s m ([.ref h0, .int x1, .int x2] : List Value).toArray below meth c H locs 0 0 (MQ below (tQp (fun r => 0 ≤ r.toInt ∧ r.toInt ≤ 1)) ([.ref h0, .int x1, .int x2] : List Value).toArray s 0 0 tNo) (F0 m 0 ls []) by subst eH; subst eL; exact hW
  refine lv_iload_n hx hb dX0_mayBeTold_0 rfl (lv_at hl 1 rfl) ?_
  rcases (show (x1.toInt < 4 ∨ 6 < x1.toInt) ∨ x1.toInt = 4 ∨ x1.toInt = 5 ∨ x1.toInt = 6 by omega) with k1 | k1 | k1 | k1
  · refine lv_tableOut (tgt := 82) hx hb dX0_mayBeTold_1 k1 (by decide) ?_
    refine lv_aload_n hx hb dX0_mayBeTold_82 rfl (lv_at hl 0 rfl) ?_
    refine tc_geti E hG t0 fi_X0_29 dX0_mayBeTold_83 (fun z2 _ _ => ?_)
    refine lv_iload_n hx hb dX0_mayBeTold_86 rfl (lv_at hl 1 rfl) ?_
    refine lv_iload_n hx hb dX0_mayBeTold_87 rfl (lv_at hl 2 rfl) ?_
    refine tc_callp (tc_runS (As := [.int z2, .int x1, .int x2]) (rest := []) E hSt hG (c_X1_isInRange l G τ z2 x1 x2) ks_X1_isInRange ml_X0_62 ⟨rfl, rfl, Nat.le_of_ble_eq_true rfl, Nat.le_of_ble_eq_true rfl⟩ rfl hl.1 rfl (Nat.le_of_ble_eq_true rfl) ⟨Nat.zero_le _, Nat.zero_le _⟩ dX0_mayBeTold_88) (fun r3 pr3 => ?_)
    have pr3 : (0 ≤ r3.toInt ∧ r3.toInt ≤ 1) ∧ (r3.toInt = 0 ∨ (0 ≤ x1.toInt ∧ x1.toInt ≤ 3)) := pr3
    refine lv_if_eq (tgt := 107) hx hb dX0_mayBeTold_91 (by decide) (fun c4 => ?_) (fun c4 => ?_)
    · skip
      have ic4 := tn_eq rfl kI_0 c4
      refine lv_iconst (v := 0) hx hb dX0_mayBeTold_107 (by decide) ?_
      exact tc_pret E hr hlk eH eL (t_nz (by decide) (by decide)).1 (show 0 ≤ (0 : Int32).toInt ∧ (0 : Int32).toInt ≤ 1 by have kk := kI_0; omega) dX0_mayBeTold_108
    · skip
      have ic4 := tn_ne rfl kI_0 c4
      refine lv_aload_n hx hb dX0_mayBeTold_94 rfl (lv_at hl 0 rfl) ?_
      refine lv_iload_n hx hb dX0_mayBeTold_95 rfl (lv_at hl 1 rfl) ?_
      refine lv_iload_n hx hb dX0_mayBeTold_96 rfl (lv_at hl 2 rfl) ?_
      refine tc_callp (tc_runV (As := [.int x1, .int x2]) (rest := []) E hSt hG (c_X0_keepsOrder l G τ h0 x1 x2 t0 (by omega) (by omega)) t0 rv_3 kv_X0_keepsOrder ml_X0_66 ⟨rfl, rfl, Nat.le_of_ble_eq_true rfl, Nat.le_of_ble_eq_true rfl⟩ rfl hl.1 rfl (Nat.le_of_ble_eq_true rfl) ⟨Nat.zero_le _, Nat.zero_le _⟩ dX0_mayBeTold_97) (fun r5 pr5 => ?_)
      have pr5 : 0 ≤ r5.toInt ∧ r5.toInt ≤ 1 := pr5
      refine lv_if_eq (tgt := 107) hx hb dX0_mayBeTold_100 (by decide) (fun c6 => ?_) (fun c6 => ?_)
      · skip
        have ic6 := tn_eq rfl kI_0 c6
        refine lv_iconst (v := 0) hx hb dX0_mayBeTold_107 (by decide) ?_
        exact tc_pret E hr hlk eH eL (t_nz (by decide) (by decide)).1 (show 0 ≤ (0 : Int32).toInt ∧ (0 : Int32).toInt ≤ 1 by have kk := kI_0; omega) dX0_mayBeTold_108
      · skip
        have ic6 := tn_ne rfl kI_0 c6
        refine lv_iconst (v := 1) hx hb dX0_mayBeTold_103 (by decide) ?_
        refine lv_goto (tgt := 108) hx hb dX0_mayBeTold_104 (by decide) ?_
        exact tc_pret E hr hlk eH eL (t_nz (by decide) (by decide)).1 (show 0 ≤ (1 : Int32).toInt ∧ (1 : Int32).toInt ≤ 1 by have kk := kI_1; omega) dX0_mayBeTold_108
  · refine lv_tableIn (off := 27) (tgt := 28) hx hb dX0_mayBeTold_1 (by rw [k1]; decide) (by rw [k1]; decide) (by rw [k1]; rfl) (by decide) ?_
    refine lv_iload_n hx hb dX0_mayBeTold_28 rfl (lv_at hl 2 rfl) ?_
    refine lv_if_lt (tgt := 42) hx hb dX0_mayBeTold_29 (by decide) (fun c7 => ?_) (fun c7 => ?_)
    · skip
      have ic7 := tn_lt rfl kI_0 c7
      refine lv_iconst (v := 0) hx hb dX0_mayBeTold_42 (by decide) ?_
      exact tc_pret E hr hlk eH eL (t_nz (by decide) (by decide)).1 (show 0 ≤ (0 : Int32).toInt ∧ (0 : Int32).toInt ≤ 1 by have kk := kI_0; omega) dX0_mayBeTold_43
    · skip
      have ic7 := tn_nlt rfl kI_0 c7
      refine lv_iload_n hx hb dX0_mayBeTold_32 rfl (lv_at hl 2 rfl) ?_
      refine lv_bipush (v := 9) hx hb dX0_mayBeTold_33 (by decide) ?_
      refine lv_icmp_gt (tgt := 42) hx hb dX0_mayBeTold_35 (by decide) (fun c8 => ?_) (fun c8 => ?_)
      · skip
        have ic8 := tn_lt kI_9 rfl c8
        refine lv_iconst (v := 0) hx hb dX0_mayBeTold_42 (by decide) ?_
        exact tc_pret E hr hlk eH eL (t_nz (by decide) (by decide)).1 (show 0 ≤ (0 : Int32).toInt ∧ (0 : Int32).toInt ≤ 1 by have kk := kI_0; omega) dX0_mayBeTold_43
      · skip
        have ic8 := tn_nlt kI_9 rfl c8
        refine lv_iconst (v := 1) hx hb dX0_mayBeTold_38 (by decide) ?_
        refine lv_goto (tgt := 43) hx hb dX0_mayBeTold_39 (by decide) ?_
        exact tc_pret E hr hlk eH eL (t_nz (by decide) (by decide)).1 (show 0 ≤ (1 : Int32).toInt ∧ (1 : Int32).toInt ≤ 1 by have kk := kI_1; omega) dX0_mayBeTold_43
  · refine lv_tableIn (off := 43) (tgt := 44) hx hb dX0_mayBeTold_1 (by rw [k1]; decide) (by rw [k1]; decide) (by rw [k1]; rfl) (by decide) ?_
    refine lv_iload_n hx hb dX0_mayBeTold_44 rfl (lv_at hl 2 rfl) ?_
    refine lv_if_lt (tgt := 60) hx hb dX0_mayBeTold_45 (by decide) (fun c9 => ?_) (fun c9 => ?_)
    · skip
      have ic9 := tn_lt rfl kI_0 c9
      refine lv_iconst (v := 0) hx hb dX0_mayBeTold_60 (by decide) ?_
      exact tc_pret E hr hlk eH eL (t_nz (by decide) (by decide)).1 (show 0 ≤ (0 : Int32).toInt ∧ (0 : Int32).toInt ≤ 1 by have kk := kI_0; omega) dX0_mayBeTold_61
    · skip
      have ic9 := tn_nlt rfl kI_0 c9
      refine lv_iload_n hx hb dX0_mayBeTold_48 rfl (lv_at hl 2 rfl) ?_
      refine lv_aload_n hx hb dX0_mayBeTold_49 rfl (lv_at hl 0 rfl) ?_
      refine tc_geti E hG t0 fi_X0_44 dX0_mayBeTold_50 (fun z10 _ _ => ?_)
      refine lv_icmp_gt (tgt := 60) hx hb dX0_mayBeTold_53 (by decide) (fun c11 => ?_) (fun c11 => ?_)
      · skip
        have ic11 := tn_lt rfl rfl c11
        refine lv_iconst (v := 0) hx hb dX0_mayBeTold_60 (by decide) ?_
        exact tc_pret E hr hlk eH eL (t_nz (by decide) (by decide)).1 (show 0 ≤ (0 : Int32).toInt ∧ (0 : Int32).toInt ≤ 1 by have kk := kI_0; omega) dX0_mayBeTold_61
      · skip
        have ic11 := tn_nlt rfl rfl c11
        refine lv_iconst (v := 1) hx hb dX0_mayBeTold_56 (by decide) ?_
        refine lv_goto (tgt := 61) hx hb dX0_mayBeTold_57 (by decide) ?_
        exact tc_pret E hr hlk eH eL (t_nz (by decide) (by decide)).1 (show 0 ≤ (1 : Int32).toInt ∧ (1 : Int32).toInt ≤ 1 by have kk := kI_1; omega) dX0_mayBeTold_61
  · refine lv_tableIn (off := 61) (tgt := 62) hx hb dX0_mayBeTold_1 (by rw [k1]; decide) (by rw [k1]; decide) (by rw [k1]; rfl) (by decide) ?_
    refine lv_iload_n hx hb dX0_mayBeTold_62 rfl (lv_at hl 2 rfl) ?_
    refine lv_aload_n hx hb dX0_mayBeTold_63 rfl (lv_at hl 0 rfl) ?_
    refine tc_geti E hG t0 fi_X0_41 dX0_mayBeTold_64 (fun z12 _ _ => ?_)
    refine lv_icmp_lt (tgt := 80) hx hb dX0_mayBeTold_67 (by decide) (fun c13 => ?_) (fun c13 => ?_)
    · skip
      have ic13 := tn_lt rfl rfl c13
      refine lv_iconst (v := 0) hx hb dX0_mayBeTold_80 (by decide) ?_
      exact tc_pret E hr hlk eH eL (t_nz (by decide) (by decide)).1 (show 0 ≤ (0 : Int32).toInt ∧ (0 : Int32).toInt ≤ 1 by have kk := kI_0; omega) dX0_mayBeTold_81
    · skip
      have ic13 := tn_nlt rfl rfl c13
      refine lv_iload_n hx hb dX0_mayBeTold_70 rfl (lv_at hl 2 rfl) ?_
      refine lv_bipush (v := 99) hx hb dX0_mayBeTold_71 (by decide) ?_
      refine lv_icmp_gt (tgt := 80) hx hb dX0_mayBeTold_73 (by decide) (fun c14 => ?_) (fun c14 => ?_)
      · skip
        have ic14 := tn_lt kI_99 rfl c14
        refine lv_iconst (v := 0) hx hb dX0_mayBeTold_80 (by decide) ?_
        exact tc_pret E hr hlk eH eL (t_nz (by decide) (by decide)).1 (show 0 ≤ (0 : Int32).toInt ∧ (0 : Int32).toInt ≤ 1 by have kk := kI_0; omega) dX0_mayBeTold_81
      · skip
        have ic14 := tn_nlt kI_99 rfl c14
        refine lv_iconst (v := 1) hx hb dX0_mayBeTold_76 (by decide) ?_
        refine lv_goto (tgt := 81) hx hb dX0_mayBeTold_77 (by decide) ?_
        exact tc_pret E hr hlk eH eL (t_nz (by decide) (by decide)).1 (show 0 ≤ (1 : Int32).toInt ∧ (1 : Int32).toInt ≤ 1 by have kk := kI_1; omega) dX0_mayBeTold_81

set_option maxHeartbeats 4000000 in
set_option maxRecDepth 100000 in
theorem c_J6_bitCount_0f7a4 (l : Launch) (G : tG) (τ : Nat → Nat) (x0 : Int32)  : Met l yJ6_bitCount_0f7a4 (.code yJ6_bitCount_0f7a4 cJ6_bitCount_0f7a4 1 (some .int) :: tWS) (tRm 0 0) (va_Pc [.int x0] (tPre G τ)) (tQp (fun r => True)) 0 0 tNo := by
  refine tc_met (by decide) (Nat.le_of_ble_eq_true rfl) ?_
  intro p e s m below meth c E hSt hr hlk hG ls hl
  have hl : lv_has ls 1 [(0, .int x0)] := hl
  have hx := E.1
  have hb := E.2.1
  obtain ⟨H, eH⟩ : ∃ H, H = s.heap := ⟨_, rfl⟩
  obtain ⟨locs, eL⟩ : ∃ x : List Loc, x = [] := ⟨_, rfl⟩
  have hG : tGH G τ s H locs := by rw [eH, eL]; exact hG
  suffices hW : W p l e (tRm 0 0) s m ([.int x0] : List Value).toArray below meth c H locs 0 0 (MQ below (tQp (fun r => True)) ([.int x0] : List Value).toArray s 0 0 tNo) (F0 m 0 ls []) by subst eH; subst eL; exact hW
  refine lv_iload_n hx hb dJ6_bitCount_0f7a4_0 rfl (lv_at hl 0 rfl) ?_
  refine lv_iload_n hx hb dJ6_bitCount_0f7a4_1 rfl (lv_at hl 0 rfl) ?_
  refine lv_iconst (v := 1) hx hb dJ6_bitCount_0f7a4_2 (by decide) ?_
  refine lv_iushr hx hb dJ6_bitCount_0f7a4_3 rfl ?_
  refine lv_topi (fun z1 ez1 => ?_)
  refine lv_ldcw (v := 1431655765) hx hb E.2.2.2.1 (E.2.2.2.2.1 _ (t_w3 94 rfl rfl)) dJ6_bitCount_0f7a4_4 ?_
  refine lv_topi (fun z2 ez2 => ?_)
  refine lv_iand hx hb dJ6_bitCount_0f7a4_7 ?_
  refine lv_topi (fun z3 ez3 => ?_)
  refine lv_isub hx hb dJ6_bitCount_0f7a4_8 ?_
  refine lv_topi (fun z4 ez4 => ?_)
  refine lv_istore_n (lv' := [(0, .int z4)]) hx hb dJ6_bitCount_0f7a4_9 rfl hl (by decide) rfl (fun ls hl => ?_)
  refine lv_iload_n hx hb dJ6_bitCount_0f7a4_10 rfl (lv_at hl 0 rfl) ?_
  refine lv_ldcw (v := 858993459) hx hb E.2.2.2.1 (E.2.2.2.2.1 _ (t_w3 95 rfl rfl)) dJ6_bitCount_0f7a4_11 ?_
  refine lv_topi (fun z5 ez5 => ?_)
  refine lv_iand hx hb dJ6_bitCount_0f7a4_14 ?_
  refine lv_topi (fun z6 ez6 => ?_)
  refine lv_iload_n hx hb dJ6_bitCount_0f7a4_15 rfl (lv_at hl 0 rfl) ?_
  refine lv_iconst (v := 2) hx hb dJ6_bitCount_0f7a4_16 (by decide) ?_
  refine lv_iushr hx hb dJ6_bitCount_0f7a4_17 rfl ?_
  refine lv_topi (fun z7 ez7 => ?_)
  refine lv_ldcw (v := 858993459) hx hb E.2.2.2.1 (E.2.2.2.2.1 _ (t_w3 95 rfl rfl)) dJ6_bitCount_0f7a4_18 ?_
  refine lv_topi (fun z8 ez8 => ?_)
  refine lv_iand hx hb dJ6_bitCount_0f7a4_21 ?_
  refine lv_topi (fun z9 ez9 => ?_)
  refine lv_iadd hx hb dJ6_bitCount_0f7a4_22 ?_
  refine lv_topi (fun z10 ez10 => ?_)
  refine lv_istore_n (lv' := [(0, .int z10)]) hx hb dJ6_bitCount_0f7a4_23 rfl hl (by decide) rfl (fun ls hl => ?_)
  refine lv_iload_n hx hb dJ6_bitCount_0f7a4_24 rfl (lv_at hl 0 rfl) ?_
  refine lv_iload_n hx hb dJ6_bitCount_0f7a4_25 rfl (lv_at hl 0 rfl) ?_
  refine lv_iconst (v := 4) hx hb dJ6_bitCount_0f7a4_26 (by decide) ?_
  refine lv_iushr hx hb dJ6_bitCount_0f7a4_27 rfl ?_
  refine lv_topi (fun z11 ez11 => ?_)
  refine lv_iadd hx hb dJ6_bitCount_0f7a4_28 ?_
  refine lv_topi (fun z12 ez12 => ?_)
  refine lv_ldcw (v := 252645135) hx hb E.2.2.2.1 (E.2.2.2.2.1 _ (t_w3 96 rfl rfl)) dJ6_bitCount_0f7a4_29 ?_
  refine lv_topi (fun z13 ez13 => ?_)
  refine lv_iand hx hb dJ6_bitCount_0f7a4_32 ?_
  refine lv_topi (fun z14 ez14 => ?_)
  refine lv_istore_n (lv' := [(0, .int z14)]) hx hb dJ6_bitCount_0f7a4_33 rfl hl (by decide) rfl (fun ls hl => ?_)
  refine lv_iload_n hx hb dJ6_bitCount_0f7a4_34 rfl (lv_at hl 0 rfl) ?_
  refine lv_iload_n hx hb dJ6_bitCount_0f7a4_35 rfl (lv_at hl 0 rfl) ?_
  refine lv_bipush (v := 8) hx hb dJ6_bitCount_0f7a4_36 (by decide) ?_
  refine lv_iushr hx hb dJ6_bitCount_0f7a4_38 rfl ?_
  refine lv_topi (fun z15 ez15 => ?_)
  refine lv_iadd hx hb dJ6_bitCount_0f7a4_39 ?_
  refine lv_topi (fun z16 ez16 => ?_)
  refine lv_istore_n (lv' := [(0, .int z16)]) hx hb dJ6_bitCount_0f7a4_40 rfl hl (by decide) rfl (fun ls hl => ?_)
  refine lv_iload_n hx hb dJ6_bitCount_0f7a4_41 rfl (lv_at hl 0 rfl) ?_
  refine lv_iload_n hx hb dJ6_bitCount_0f7a4_42 rfl (lv_at hl 0 rfl) ?_
  refine lv_bipush (v := 16) hx hb dJ6_bitCount_0f7a4_43 (by decide) ?_
  refine lv_iushr hx hb dJ6_bitCount_0f7a4_45 rfl ?_
  refine lv_topi (fun z17 ez17 => ?_)
  refine lv_iadd hx hb dJ6_bitCount_0f7a4_46 ?_
  refine lv_topi (fun z18 ez18 => ?_)
  refine lv_istore_n (lv' := [(0, .int z18)]) hx hb dJ6_bitCount_0f7a4_47 rfl hl (by decide) rfl (fun ls hl => ?_)
  refine lv_iload_n hx hb dJ6_bitCount_0f7a4_48 rfl (lv_at hl 0 rfl) ?_
  refine lv_bipush (v := 63) hx hb dJ6_bitCount_0f7a4_49 (by decide) ?_
  refine lv_iand hx hb dJ6_bitCount_0f7a4_51 ?_
  refine lv_topi (fun z19 ez19 => ?_)
  exact tc_pret E hr hlk eH eL rfl trivial dJ6_bitCount_0f7a4_52
