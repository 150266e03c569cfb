set_option maxHeartbeats 4000000 in
set_option maxRecDepth 100000 in
theorem x_X9_held (l : Launch) (G : tG) (τ : Nat → Nat) (x0 : Int32) (x1 : Int32) (x2 : Int32) (l0 : 0 ≤ x0.toInt) (u0 : x0.toInt ≤ 13600) (l1 : 0 ≤ x1.toInt) (u1 : x1.toInt ≤ 99) (l2 : 0 ≤ x2.toInt) (u2 : x2.toInt ≤ 1000) : Met l yX9_held (.code yX9_held cX9_held 3 (some .int) :: tWS) (tRm 0 0) (va_Pc [.int x0, .int x1, .int x2] (tPre G τ)) (tQp (fun r => r.toInt = hdI x0.toInt x1.toInt x2.toInt ∧ 0 ≤ r.toInt ∧ r.toInt ≤ 1000)) 0 0 tNo := by
  refine tc_met (by decide) (Nat.le_of_ble_eq_true rfl) ?_
  intro p e s m below meth c E hSt hr hlk hG ls hl
  have hl : lv_has ls 3 [(0, .int x0), (1, .int x1), (2, .int x2)] := hl
  have hx := E.1
  have hb := E.2.1
  obtain ⟨H, eH⟩ : ∃ H, H = s.heap := ⟨_, rfl⟩
  obtain ⟨locs, eL⟩ : ∃ x : List Loc, x = [] := ⟨_, rfl⟩
  have hG : tGH G τ s H locs := by rw [eH, eL]; exact hG
  suffices hW : W p l e (tRm 0 0) s m ([.int x0, .int x1, .int x2] : List Value).toArray below meth c H locs 0 0 (MQ below (tQp (fun r => r.toInt = hdI x0.toInt x1.toInt x2.toInt ∧ 0 ≤ r.toInt ∧ r.toInt ≤ 1000)) ([.int x0, .int x1, .int x2] : List Value).toArray s 0 0 tNo) (F0 m 0 ls []) by subst eH; subst eL; exact hW
  refine lv_iload_n hx hb dX9_held_0 rfl (lv_at hl 0 rfl) ?_
  refine lv_iload_n hx hb dX9_held_1 rfl (lv_at hl 1 rfl) ?_
  refine lv_icmp_ge (tgt := 7) hx hb dX9_held_2 (by decide) (fun c1 => ?_) (fun c1 => ?_)
  · skip
    have ic1 := tn_le rfl rfl c1
    refine lv_iload_n hx hb dX9_held_7 rfl (lv_at hl 0 rfl) ?_
    refine lv_iload_n hx hb dX9_held_8 rfl (lv_at hl 2 rfl) ?_
    refine lv_icmp_le (tgt := 16) hx hb dX9_held_9 (by decide) (fun c2 => ?_) (fun c2 => ?_)
    · skip
      have ic2 := tn_le rfl rfl c2
      refine lv_iload_n hx hb dX9_held_16 rfl (lv_at hl 0 rfl) ?_
      exact tc_pret E hr hlk eH eL rfl (show x0.toInt = hdI x0.toInt x1.toInt x2.toInt ∧ 0 ≤ x0.toInt ∧ x0.toInt ≤ 1000 by (unfold hdI; split <;> (try split) <;> omega)) dX9_held_17
    · skip
      have ic2 := tn_nle rfl rfl c2
      refine lv_iload_n hx hb dX9_held_12 rfl (lv_at hl 2 rfl) ?_
      refine lv_goto (tgt := 17) hx hb dX9_held_13 (by decide) ?_
      exact tc_pret E hr hlk eH eL rfl (show x2.toInt = hdI x0.toInt x1.toInt x2.toInt ∧ 0 ≤ x2.toInt ∧ x2.toInt ≤ 1000 by (unfold hdI; split <;> (try split) <;> omega)) dX9_held_17
  · skip
    have ic1 := tn_nle rfl rfl c1
    refine lv_iload_n hx hb dX9_held_5 rfl (lv_at hl 1 rfl) ?_
    exact tc_pret E hr hlk eH eL rfl (show x1.toInt = hdI x0.toInt x1.toInt x2.toInt ∧ 0 ≤ x1.toInt ∧ x1.toInt ≤ 1000 by (unfold hdI; split <;> (try split) <;> omega)) dX9_held_6

set_option maxHeartbeats 4000000 in
set_option maxRecDepth 100000 in
theorem x_X0_orNoEnd (l : Launch) (G : tG) (τ : Nat → Nat) (x0 : Int32) (l0 : 0 ≤ x0.toInt) (u0 : x0.toInt ≤ 99) : Met l yX0_orNoEnd (.code yX0_orNoEnd cX0_orNoEnd 1 (some .int) :: tWS) (tRm 0 0) (va_Pc [.int x0] (tPre G τ)) (tQp (fun r => r.toInt = enI x0.toInt ∧ 0 ≤ r.toInt ∧ r.toInt ≤ 1000)) 0 0 tNo := by
  refine tc_met (by decide) (Nat.le_of_ble_eq_true rfl) ?_
  intro p e s m below meth c E hSt hr hlk hG ls hl
  have hl : lv_has ls 1 [(0, .int x0)] := hl
  have hx := E.1
  have hb := E.2.1
  obtain ⟨H, eH⟩ : ∃ H, H = s.heap := ⟨_, rfl⟩
  obtain ⟨locs, eL⟩ : ∃ x : List Loc, x = [] := ⟨_, rfl⟩
  have hG : tGH G τ s H locs := by rw [eH, eL]; exact hG
  suffices hW : W p l e (tRm 0 0) s m ([.int x0] : List Value).toArray below meth c H locs 0 0 (MQ below (tQp (fun r => r.toInt = enI x0.toInt ∧ 0 ≤ r.toInt ∧ r.toInt ≤ 1000)) ([.int x0] : List Value).toArray s 0 0 tNo) (F0 m 0 ls []) by subst eH; subst eL; exact hW
  refine lv_iload_n hx hb dX0_orNoEnd_0 rfl (lv_at hl 0 rfl) ?_
  refine lv_bipush (v := 99) hx hb dX0_orNoEnd_1 (by decide) ?_
  refine lv_icmp_ne (tgt := 12) hx hb dX0_orNoEnd_3 (by decide) (fun c1 => ?_) (fun c1 => ?_)
  · skip
    have ic1 := tn_ne rfl kI_99 c1
    refine lv_iload_n hx hb dX0_orNoEnd_12 rfl (lv_at hl 0 rfl) ?_
    exact tc_pret E hr hlk eH eL rfl (show x0.toInt = enI x0.toInt ∧ 0 ≤ x0.toInt ∧ x0.toInt ≤ 1000 by (unfold enI; split <;> omega)) dX0_orNoEnd_13
  · skip
    have ic1 := tn_eq rfl kI_99 c1
    refine lv_sipush (v := 1000) hx hb dX0_orNoEnd_6 (by decide) ?_
    refine lv_goto (tgt := 13) hx hb dX0_orNoEnd_9 (by decide) ?_
    exact tc_pret E hr hlk eH eL rfl (show (1000 : Int32).toInt = enI x0.toInt ∧ 0 ≤ (1000 : Int32).toInt ∧ (1000 : Int32).toInt ≤ 1000 by have kk := kI_1000; (unfold enI; split <;> omega)) dX0_orNoEnd_13

set_option maxHeartbeats 4000000 in
set_option maxRecDepth 100000 in
theorem x_X3_wordWide (l : Launch) (G : tG) (τ : Nat → Nat) (x0 : Int32) (x1 : Int32) (l0 : 0 ≤ x0.toInt) (u0 : x0.toInt ≤ 99) (l1 : 0 ≤ x1.toInt) (u1 : x1.toInt ≤ 99) : Met l yX3_wordWide (.code yX3_wordWide cX3_wordWide 3 (some .int) :: tWS) (tRm 0 0) (va_Pc [.int x0, .int x1] (tPre G τ)) (tQp (fun r => r.toInt = wdI x0.toInt x1.toInt ∧ 1 ≤ r.toInt ∧ r.toInt ≤ 9)) 0 0 tNo := by
  refine tc_met (by decide) (Nat.le_of_ble_eq_true rfl) ?_
  intro p e s m below meth c E hSt hr hlk hG ls hl
  have hl : lv_has ls 3 [(0, .int x0), (1, .int x1)] := hl
  have hx := E.1
  have hb := E.2.1
  obtain ⟨H, eH⟩ : ∃ H, H = s.heap := ⟨_, rfl⟩
  obtain ⟨locs, eL⟩ : ∃ x : List Loc, x = [] := ⟨_, rfl⟩
  have hG : tGH G τ s H locs := by rw [eH, eL]; exact hG
  suffices hW : W p l e (tRm 0 0) s m ([.int x0, .int x1] : List Value).toArray below meth c H locs 0 0 (MQ below (tQp (fun r => r.toInt = wdI x0.toInt x1.toInt ∧ 1 ≤ r.toInt ∧ r.toInt ≤ 9)) ([.int x0, .int x1] : List Value).toArray s 0 0 tNo) (F0 m 0 ls []) by subst eH; subst eL; exact hW
  refine lv_iload_n hx hb dX3_wordWide_0 rfl (lv_at hl 0 rfl) ?_
  refine lv_iload_n hx hb dX3_wordWide_1 rfl (lv_at hl 1 rfl) ?_
  refine lv_iadd hx hb dX3_wordWide_2 ?_
  refine lv_topi (fun z1 ez1 => ?_)
  have tz1 := tn_add ez1 rfl rfl (by omega) (by omega)
  refine lv_bipush (v := 32) hx hb dX3_wordWide_3 (by decide) ?_
  refine lv_irem hx hb dX3_wordWide_5 (by decide) ?_
  refine lv_topi (fun z2 ez2 => ?_)
  have tz2 := tn_rem ez2 kI_32 (by omega) (by decide)
  refine lv_istore_n (lv' := [(2, .int z2), (0, .int x0), (1, .int x1)]) hx hb dX3_wordWide_6 rfl hl (by decide) rfl (fun ls hl => ?_)
  refine lv_iconst (v := 1) hx hb dX3_wordWide_7 (by decide) ?_
  refine lv_bipush (v := 7) hx hb dX3_wordWide_8 (by decide) ?_
  refine lv_iload_n hx hb dX3_wordWide_10 rfl (lv_at hl 0 rfl) ?_
  refine lv_imul hx hb dX3_wordWide_11 ?_
  refine lv_topi (fun z3 ez3 => ?_)
  have tz3 := tn_mul ez3 kI_7 rfl (by omega) (by omega)
  refine lv_iload_n hx hb dX3_wordWide_12 rfl (lv_at hl 0 rfl) ?_
  refine lv_imul hx hb dX3_wordWide_13 ?_
  refine lv_topi (fun z4 ez4 => ?_)
  obtain ⟨tz4, lz4, uz4⟩ := tn_mulc (a := 217) (b := 31) ez4 (by omega) (by omega) (by omega) (by omega) (by decide)
  refine lv_iconst (v := 3) hx hb dX3_wordWide_14 (by decide) ?_
  refine lv_iload_n hx hb dX3_wordWide_15 rfl (lv_at hl 0 rfl) ?_
  refine lv_imul hx hb dX3_wordWide_16 ?_
  refine lv_topi (fun z5 ez5 => ?_)
  have tz5 := tn_mul ez5 kI_3 rfl (by omega) (by omega)
  refine lv_iadd hx hb dX3_wordWide_17 ?_
  refine lv_topi (fun z6 ez6 => ?_)
  have tz6 := tn_add ez6 rfl rfl (by omega) (by omega)
  refine lv_bipush (v := 9) hx hb dX3_wordWide_18 (by decide) ?_
  refine lv_irem hx hb dX3_wordWide_20 (by decide) ?_
  refine lv_topi (fun z7 ez7 => ?_)
  have tz7 := tn_rem ez7 kI_9 (by omega) (by decide)
  refine lv_iadd hx hb dX3_wordWide_21 ?_
  refine lv_topi (fun z8 ez8 => ?_)
  have tz8 := tn_add ez8 kI_1 rfl (by omega) (by omega)
  exact tc_pret E hr hlk eH eL rfl (show z8.toInt = wdI x0.toInt x1.toInt ∧ 1 ≤ z8.toInt ∧ z8.toInt ≤ 9 by (have h9 := wdI_bd x0.toInt x1.toInt; have h8 : z8.toInt = wdI x0.toInt x1.toInt := (by unfold wdI; rw [tz8, tz7, tz6, tz5, tz4, tz3, tz2, tz1]); exact ⟨h8, by omega, by omega⟩)) dX3_wordWide_22

set_option maxHeartbeats 4000000 in
set_option maxRecDepth 100000 in
theorem x_X3_wordsInALine (l : Launch) (G : tG) (τ : Nat → Nat) (h0 : Nat) (t0 : τ h0 = 3) (hr0 : 0 ≤ ((FF G) (h0 + 1) 0).toInt ∧ ((FF G) (h0 + 1) 0).toInt ≤ 99) (hr1 : 0 ≤ ((FF G) (h0 + 1) 1).toInt ∧ ((FF G) (h0 + 1) 1).toInt ≤ 99) : Met l yX3_wordsInALine (.code yX3_wordsInALine cX3_wordsInALine 3 (some .int) :: tWS) (tRm 1 22) (va_Pc [.ref h0] (tPre G τ)) (tQp (fun r => r.toInt = txI ((FF G) (h0 + 1) 0).toInt ((FF G) (h0 + 1) 1).toInt 0 ∧ 0 ≤ r.toInt ∧ r.toInt ≤ 1000)) 0 0 tNo := by
  refine tc_met (by decide) (Nat.le_of_ble_eq_true rfl) ?_
  intro p e s m below meth c E hSt hr hlk hG ls hl
  have hl : lv_has ls 3 [(0, .ref h0)] := hl
  have hx := E.1
  have hb := E.2.1
  obtain ⟨H, eH⟩ : ∃ H, H = s.heap := ⟨_, rfl⟩
  obtain ⟨locs, eL⟩ : ∃ x : List Loc, x = [] := ⟨_, rfl⟩
  have hG : tGH G τ s H locs := by rw [eH, eL]; exact hG
  suffices hW : W p l e (tRm 1 22) s m ([.ref h0] : List Value).toArray below meth c H locs 0 0 (MQ below (tQp (fun r => r.toInt = txI ((FF G) (h0 + 1) 0).toInt ((FF G) (h0 + 1) 1).toInt 0 ∧ 0 ≤ r.toInt ∧ r.toInt ≤ 1000)) ([.ref h0] : List Value).toArray s 0 0 tNo) (F0 m 0 ls []) by subst eH; subst eL; exact hW
  have J15 : ∀ (n15 : Nat) (ls : Array Slot) (v1 : Int32) (v2 : Int32), lv_has ls 3 [(0, .ref h0), (1, .int v1), (2, .int v2)] → 0 ≤ v1.toInt → v1.toInt ≤ 1000 → 0 ≤ v2.toInt → v2.toInt ≤ 99 → (v1.toInt = (if 0 < ((FF G) (h0 + 1) 0).toInt then ((FF G) (h0 + 1) 0).toInt - 1 else 0) + sumI (fun k => wdI ((FF G) (h0 + 1) 1).toInt (k : Int)) v2.toInt.toNat ∧ v2.toInt ≤ ((FF G) (h0 + 1) 0).toInt ∧ v1.toInt ≤ 98 + 9 * v2.toInt) → (99 - v2.toInt).toNat < n15 → W p l e (tRm 1 22) s m ([.ref h0] : List Value).toArray below meth c H locs 0 0 (MQ below (tQp (fun r => r.toInt = txI ((FF G) (h0 + 1) 0).toInt ((FF G) (h0 + 1) 1).toInt 0 ∧ 0 ≤ r.toInt ∧ r.toInt ≤ 1000)) ([.ref h0] : List Value).toArray s 0 0 tNo) (F0 m 15 ls []) := by
    intro n15
    induction n15 with
    | zero => intro ls v1 v2 hl b1 c1 b2 c2 hex15 hn15; exact absurd hn15 (Nat.not_lt_zero _)
    | succ n15 ih15 =>
      intro ls v1 v2 hl b1 c1 b2 c2 hex15 hn15
      refine lv_iload_n hx hb dX3_wordsInALine_15 rfl (lv_at hl 2 rfl) ?_
      refine lv_aload_n hx hb dX3_wordsInALine_16 rfl (lv_at hl 0 rfl) ?_
      refine tc_getrF (d := 1) E hG t0 fr_X3_111 rfl dX3_wordsInALine_17 (fun ha1 => ?_)
      refine lv_iconst (v := 0) hx hb dX3_wordsInALine_20 (by decide) ?_
      refine tc_ialdF E hG ha1 ta_11 rfl (t_in (by decide) (by decide)) dX3_wordsInALine_21 (fun z2 lz2 uz2 wz2 => ?_)
      replace wz2 : z2 = (FF G) (h0 + 1) 0 := wz2
      have cz2 : z2.toInt = ((FF G) (h0 + 1) 0).toInt := by rw [wz2]
      have bz2 : 0 ≤ z2.toInt ∧ z2.toInt ≤ 99 := by rw [cz2]; exact hr0
      refine lv_icmp_ge (tgt := 44) hx hb dX3_wordsInALine_22 (by decide) (fun c3 => ?_) (fun c3 => ?_)
      · skip
        have ic3 := tn_le rfl rfl c3
        refine lv_iload_n hx hb dX3_wordsInALine_44 rfl (lv_at hl 1 rfl) ?_
        exact tc_pret E hr hlk eH eL rfl (show v1.toInt = txI ((FF G) (h0 + 1) 0).toInt ((FF G) (h0 + 1) 1).toInt 0 ∧ 0 ≤ v1.toInt ∧ v1.toInt ≤ 1000 by (refine ⟨?_, by omega, by omega⟩; unfold txI; rw [if_pos rfl, show (((FF G) (h0 + 1) 0).toInt).toNat = v2.toInt.toNat by omega]; exact hex15.1)) dX3_wordsInALine_45
      · skip
        have ic3 := tn_nle rfl rfl c3
        refine lv_iload_n hx hb dX3_wordsInALine_25 rfl (lv_at hl 1 rfl) ?_
        refine lv_aload_n hx hb dX3_wordsInALine_26 rfl (lv_at hl 0 rfl) ?_
        refine tc_getrF (d := 1) E hG t0 fr_X3_111 rfl dX3_wordsInALine_27 (fun ha4 => ?_)
        refine lv_iconst (v := 1) hx hb dX3_wordsInALine_30 (by decide) ?_
        refine tc_ialdF E hG ha4 ta_11 rfl (t_in (by decide) (by decide)) dX3_wordsInALine_31 (fun z5 lz5 uz5 wz5 => ?_)
        replace wz5 : z5 = (FF G) (h0 + 1) 1 := wz5
        have cz5 : z5.toInt = ((FF G) (h0 + 1) 1).toInt := by rw [wz5]
        have bz5 : 0 ≤ z5.toInt ∧ z5.toInt ≤ 99 := by rw [cz5]; exact hr1
        refine lv_iload_n hx hb dX3_wordsInALine_32 rfl (lv_at hl 2 rfl) ?_
        refine tc_callp (tc_runS (As := [.int z5, .int v2]) (rest := [.int v1]) E hSt hG (x_X3_wordWide l G τ z5 v2 (by omega) (by omega) (by omega) (by omega)) ks_X3_wordWide ml_X3_151 ⟨rfl, rfl, Nat.le_of_ble_eq_true rfl, Nat.le_of_ble_eq_true rfl⟩ rfl hl.1 rfl (Nat.le_of_ble_eq_true rfl) ⟨Nat.zero_le _, Nat.zero_le _⟩ dX3_wordsInALine_33) (fun r6 pr6 => ?_)
        have pr6 : r6.toInt = wdI z5.toInt v2.toInt ∧ 1 ≤ r6.toInt ∧ r6.toInt ≤ 9 := pr6
        rw [cz5] at pr6
        refine lv_iadd hx hb dX3_wordsInALine_36 ?_
        refine lv_topi (fun z7 ez7 => ?_)
        have tz7 := tn_add ez7 rfl rfl (by omega) (by omega)
        refine lv_istore_n (lv' := [(1, .int z7), (0, .ref h0), (2, .int v2)]) hx hb dX3_wordsInALine_37 rfl hl (by decide) rfl (fun ls hl => ?_)
        obtain ⟨z8, ez8⟩ : ∃ y : Int32, y = v2 + (1) := ⟨_, rfl⟩
        refine lv_iinc (v := z8) (lv' := [(2, .int z8), (1, .int z7), (0, .ref h0)]) hx hb dX3_wordsInALine_38 hl (k := 2) rfl (by rw [ez8]; rfl) (by decide) rfl (fun ls hl => ?_)
        have tz8 := tn_add ez8 rfl kI_1 (by omega) (by omega)
        refine lv_goto (tgt := 15) hx hb dX3_wordsInALine_41 (by decide) ?_
        exact ih15 ls z7 z8 (lv_sub hl [2, 1, 0] rfl) (by omega) (by omega) (by omega) (by omega) (by refine ⟨?_, by omega, by omega⟩; rw [show z8.toInt.toNat = v2.toInt.toNat + 1 by omega]; show _ = _ + (sumI (fun k => wdI ((FF G) (h0 + 1) 1).toInt (k : Int)) v2.toInt.toNat + wdI ((FF G) (h0 + 1) 1).toInt ((v2.toInt.toNat : Nat) : Int)); rw [show ((v2.toInt.toNat : Nat) : Int) = v2.toInt by omega]; omega) (by omega)
  refine lv_iconst (v := 0) hx hb dX3_wordsInALine_0 (by decide) ?_
  refine lv_aload_n hx hb dX3_wordsInALine_1 rfl (lv_at hl 0 rfl) ?_
  refine tc_getrF (d := 1) E hG t0 fr_X3_111 rfl dX3_wordsInALine_2 (fun ha9 => ?_)
  refine lv_iconst (v := 0) hx hb dX3_wordsInALine_5 (by decide) ?_
  refine tc_ialdF E hG ha9 ta_11 rfl (t_in (by decide) (by decide)) dX3_wordsInALine_6 (fun z10 lz10 uz10 wz10 => ?_)
  replace wz10 : z10 = (FF G) (h0 + 1) 0 := wz10
  have cz10 : z10.toInt = ((FF G) (h0 + 1) 0).toInt := by rw [wz10]
  have bz10 : 0 ≤ z10.toInt ∧ z10.toInt ≤ 99 := by rw [cz10]; exact hr0
  refine lv_iconst (v := 1) hx hb dX3_wordsInALine_7 (by decide) ?_
  refine lv_isub hx hb dX3_wordsInALine_8 ?_
  refine lv_topi (fun z11 ez11 => ?_)
  have tz11 := tn_sub ez11 rfl kI_1 (by omega) (by omega)
  refine tc_max (rest := []) E hl.1 ml_X3_155 kn_max1 kn_math kn_max2 ⟨Nat.le_of_ble_eq_true rfl, Nat.le_of_ble_eq_true rfl⟩ ⟨Nat.zero_le _, Nat.zero_le _⟩ dX3_wordsInALine_9 (fun z12 ez12 => ?_)
  have tz12 := tn_max ez12
  have kk13_ := kI_0
  refine lv_istore_n (lv' := [(1, .int z12), (0, .ref h0)]) hx hb dX3_wordsInALine_12 rfl hl (by decide) rfl (fun ls hl => ?_)
  refine lv_iconst (v := 0) hx hb dX3_wordsInALine_13 (by decide) ?_
  refine lv_istore_n (lv' := [(2, .int 0), (1, .int z12), (0, .ref h0)]) hx hb dX3_wordsInALine_14 rfl hl (by decide) rfl (fun ls hl => ?_)
  exact J15 ((99 - (0 : Int32).toInt).toNat + 1) ls z12 (0 : Int32) (lv_sub hl [2, 1, 0] rfl) (by omega) (by omega) (by decide) (by decide) (by have k0 := kI_0; refine ⟨?_, by omega, by omega⟩; rw [show (0 : Int32).toInt.toNat = 0 from by decide]; show _ = _ + (0 : Int); split <;> omega) (Nat.lt_succ_self _)

set_option maxHeartbeats 4000000 in
set_option maxRecDepth 100000 in
theorem x_X3_widestWord (l : Launch) (G : tG) (τ : Nat → Nat) (h0 : Nat) (t0 : τ h0 = 3) (hr0 : 0 ≤ ((FF G) (h0 + 1) 0).toInt ∧ ((FF G) (h0 + 1) 0).toInt ≤ 99) (hr1 : 0 ≤ ((FF G) (h0 + 1) 1).toInt ∧ ((FF G) (h0 + 1) 1).toInt ≤ 99) : Met l yX3_widestWord (.code yX3_widestWord cX3_widestWord 3 (some .int) :: tWS) (tRm 1 22) (va_Pc [.ref h0] (tPre G τ)) (tQp (fun r => r.toInt = txI ((FF G) (h0 + 1) 0).toInt ((FF G) (h0 + 1) 1).toInt 1 ∧ 0 ≤ r.toInt ∧ r.toInt ≤ 9)) 0 0 tNo := by
  refine tc_met (by decide) (Nat.le_of_ble_eq_true rfl) ?_
  intro p e s m below meth c E hSt hr hlk hG ls hl
  have hl : lv_has ls 3 [(0, .ref h0)] := hl
  have hx := E.1
  have hb := E.2.1
  obtain ⟨H, eH⟩ : ∃ H, H = s.heap := ⟨_, rfl⟩
  obtain ⟨locs, eL⟩ : ∃ x : List Loc, x = [] := ⟨_, rfl⟩
  have hG : tGH G τ s H locs := by rw [eH, eL]; exact hG
  suffices hW : W p l e (tRm 1 22) s m ([.ref h0] : List Value).toArray below meth c H locs 0 0 (MQ below (tQp (fun r => r.toInt = txI ((FF G) (h0 + 1) 0).toInt ((FF G) (h0 + 1) 1).toInt 1 ∧ 0 ≤ r.toInt ∧ r.toInt ≤ 9)) ([.ref h0] : List Value).toArray s 0 0 tNo) (F0 m 0 ls []) by subst eH; subst eL; exact hW
  have J4 : ∀ (n4 : Nat) (ls : Array Slot) (v1 : Int32) (v2 : Int32), lv_has ls 3 [(0, .ref h0), (1, .int v1), (2, .int v2)] → 0 ≤ v1.toInt → v1.toInt ≤ 9 → 0 ≤ v2.toInt → v2.toInt ≤ 99 → (v1.toInt = mxI (fun k => wdI ((FF G) (h0 + 1) 1).toInt (k : Int)) v2.toInt.toNat ∧ v2.toInt ≤ ((FF G) (h0 + 1) 0).toInt) → (99 - v2.toInt).toNat < n4 → W p l e (tRm 1 22) s m ([.ref h0] : List Value).toArray below meth c H locs 0 0 (MQ below (tQp (fun r => r.toInt = txI ((FF G) (h0 + 1) 0).toInt ((FF G) (h0 + 1) 1).toInt 1 ∧ 0 ≤ r.toInt ∧ r.toInt ≤ 9)) ([.ref h0] : List Value).toArray s 0 0 tNo) (F0 m 4 ls []) := by
    intro n4
    induction n4 with
    | zero => intro ls v1 v2 hl b1 c1 b2 c2 hex4 hn4; exact absurd hn4 (Nat.not_lt_zero _)
    | succ n4 ih4 =>
      intro ls v1 v2 hl b1 c1 b2 c2 hex4 hn4
      refine lv_iload_n hx hb dX3_widestWord_4 rfl (lv_at hl 2 rfl) ?_
      refine lv_aload_n hx hb dX3_widestWord_5 rfl (lv_at hl 0 rfl) ?_
      refine tc_getrF (d := 1) E hG t0 fr_X3_111 rfl dX3_widestWord_6 (fun ha1 => ?_)
      refine lv_iconst (v := 0) hx hb dX3_widestWord_9 (by decide) ?_
      refine tc_ialdF E hG ha1 ta_11 rfl (t_in (by decide) (by decide)) dX3_widestWord_10 (fun z2 lz2 uz2 wz2 => ?_)
      replace wz2 : z2 = (FF G) (h0 + 1) 0 := wz2
      have cz2 : z2.toInt = ((FF G) (h0 + 1) 0).toInt := by rw [wz2]
      have bz2 : 0 ≤ z2.toInt ∧ z2.toInt ≤ 99 := by rw [cz2]; exact hr0
      refine lv_icmp_ge (tgt := 35) hx hb dX3_widestWord_11 (by decide) (fun c3 => ?_) (fun c3 => ?_)
      · skip
        have ic3 := tn_le rfl rfl c3
        refine lv_iload_n hx hb dX3_widestWord_35 rfl (lv_at hl 1 rfl) ?_
        exact tc_pret E hr hlk eH eL rfl (show v1.toInt = txI ((FF G) (h0 + 1) 0).toInt ((FF G) (h0 + 1) 1).toInt 1 ∧ 0 ≤ v1.toInt ∧ v1.toInt ≤ 9 by (refine ⟨?_, by omega, by omega⟩; unfold txI; rw [if_neg (by decide), show (((FF G) (h0 + 1) 0).toInt).toNat = v2.toInt.toNat by omega]; exact hex4.1)) dX3_widestWord_36
      · skip
        have ic3 := tn_nle rfl rfl c3
        refine lv_iload_n hx hb dX3_widestWord_14 rfl (lv_at hl 1 rfl) ?_
        refine lv_aload_n hx hb dX3_widestWord_15 rfl (lv_at hl 0 rfl) ?_
        refine tc_getrF (d := 1) E hG t0 fr_X3_111 rfl dX3_widestWord_16 (fun ha4 => ?_)
        refine lv_iconst (v := 1) hx hb dX3_widestWord_19 (by decide) ?_
        refine tc_ialdF E hG ha4 ta_11 rfl (t_in (by decide) (by decide)) dX3_widestWord_20 (fun z5 lz5 uz5 wz5 => ?_)
        replace wz5 : z5 = (FF G) (h0 + 1) 1 := wz5
        have cz5 : z5.toInt = ((FF G) (h0 + 1) 1).toInt := by rw [wz5]
        have bz5 : 0 ≤ z5.toInt ∧ z5.toInt ≤ 99 := by rw [cz5]; exact hr1
        refine lv_iload_n hx hb dX3_widestWord_21 rfl (lv_at hl 2 rfl) ?_
        refine tc_callp (tc_runS (As := [.int z5, .int v2]) (rest := [.int v1]) E hSt hG (x_X3_wordWide l G τ z5 v2 (by omega) (by omega) (by omega) (by omega)) ks_X3_wordWide ml_X3_151 ⟨rfl, rfl, Nat.le_of_ble_eq_true rfl, Nat.le_of_ble_eq_true rfl⟩ rfl hl.1 rfl (Nat.le_of_ble_eq_true rfl) ⟨Nat.zero_le _, Nat.zero_le _⟩ dX3_widestWord_22) (fun r6 pr6 => ?_)
        have pr6 : r6.toInt = wdI z5.toInt v2.toInt ∧ 1 ≤ r6.toInt ∧ r6.toInt ≤ 9 := pr6
        rw [cz5] at pr6
        refine tc_max (rest := []) E hl.1 ml_X3_155 kn_max1 kn_math kn_max2 ⟨Nat.le_of_ble_eq_true rfl, Nat.le_of_ble_eq_true rfl⟩ ⟨Nat.zero_le _, Nat.zero_le _⟩ dX3_widestWord_25 (fun z7 ez7 => ?_)
        have tz7 := tn_max ez7
        refine lv_istore_n (lv' := [(1, .int z7), (0, .ref h0), (2, .int v2)]) hx hb dX3_widestWord_28 rfl hl (by decide) rfl (fun ls hl => ?_)
        obtain ⟨z8, ez8⟩ : ∃ y : Int32, y = v2 + (1) := ⟨_, rfl⟩
        refine lv_iinc (v := z8) (lv' := [(2, .int z8), (1, .int z7), (0, .ref h0)]) hx hb dX3_widestWord_29 hl (k := 2) rfl (by rw [ez8]; rfl) (by decide) rfl (fun ls hl => ?_)
        have tz8 := tn_add ez8 rfl kI_1 (by omega) (by omega)
        refine lv_goto (tgt := 4) hx hb dX3_widestWord_32 (by decide) ?_
        exact ih4 ls z7 z8 (lv_sub hl [2, 1, 0] rfl) (by omega) (by omega) (by omega) (by omega) (by refine ⟨?_, by omega⟩; rw [show z8.toInt.toNat = v2.toInt.toNat + 1 by omega]; show _ = if mxI (fun k => wdI ((FF G) (h0 + 1) 1).toInt (k : Int)) v2.toInt.toNat < wdI ((FF G) (h0 + 1) 1).toInt ((v2.toInt.toNat : Nat) : Int) then wdI ((FF G) (h0 + 1) 1).toInt ((v2.toInt.toNat : Nat) : Int) else mxI (fun k => wdI ((FF G) (h0 + 1) 1).toInt (k : Int)) v2.toInt.toNat; rw [show ((v2.toInt.toNat : Nat) : Int) = v2.toInt by omega]; split <;> omega) (by omega)
  refine lv_iconst (v := 0) hx hb dX3_widestWord_0 (by decide) ?_
  refine lv_istore_n (lv' := [(1, .int 0), (0, .ref h0)]) hx hb dX3_widestWord_1 rfl hl (by decide) rfl (fun ls hl => ?_)
  refine lv_iconst (v := 0) hx hb dX3_widestWord_2 (by decide) ?_
  refine lv_istore_n (lv' := [(2, .int 0), (1, .int 0), (0, .ref h0)]) hx hb dX3_widestWord_3 rfl hl (by decide) rfl (fun ls hl => ?_)
  exact J4 ((99 - (0 : Int32).toInt).toNat + 1) ls (0 : Int32) (0 : Int32) (lv_sub hl [2, 1, 0] rfl) (by decide) (by decide) (by decide) (by decide) (by have k0 := kI_0; refine ⟨?_, by omega⟩; rw [show (0 : Int32).toInt.toNat = 0 from by decide]; exact kI_0) (Nat.lt_succ_self _)

set_option maxHeartbeats 4000000 in
set_option maxRecDepth 100000 in
theorem x_X0_hasMemo (l : Launch) (G : tG) (τ : Nat → Nat) (h0 : Nat) (x1 : Int32) (t0 : τ h0 = 3) (l1 : 0 ≤ x1.toInt) (u1 : x1.toInt ≤ 1) : Met l yX0_hasMemo (.code yX0_hasMemo cX0_hasMemo 2 (some .boolean) :: tWS) (tRm 0 0) (va_Pc [.ref h0, .int x1] (tPre G τ)) (tQp (fun r => (r.toInt = 1 ∧ (tB ((FF G) h0 11) x1.toInt.toNat)) ∨ (r.toInt = 0 ∧ ¬ (tB ((FF G) h0 11) x1.toInt.toNat)))) 0 0 tNo := by
  refine tc_met (by decide) (Nat.le_of_ble_eq_true rfl) ?_
  intro p e s m below meth c E hSt hr hlk hG ls hl
  have hl : lv_has ls 2 [(0, .ref h0), (1, .int x1)] := hl
  have hx := E.1
  have hb := E.2.1
  obtain ⟨H, eH⟩ : ∃ H, H = s.heap := ⟨_, rfl⟩
  obtain ⟨locs, eL⟩ : ∃ x : List Loc, x = [] := ⟨_, rfl⟩
  have hG : tGH G τ s H locs := by rw [eH, eL]; exact hG
  suffices hW : W p l e (tRm 0 0) s m ([.ref h0, .int x1] : List Value).toArray below meth c H locs 0 0 (MQ below (tQp (fun r => (r.toInt = 1 ∧ (tB ((FF G) h0 11) x1.toInt.toNat)) ∨ (r.toInt = 0 ∧ ¬ (tB ((FF G) h0 11) x1.toInt.toNat)))) ([.ref h0, .int x1] : List Value).toArray s 0 0 tNo) (F0 m 0 ls []) by subst eH; subst eL; exact hW
  refine lv_aload_n hx hb dX0_hasMemo_0 rfl (lv_at hl 0 rfl) ?_
  refine tc_getF E hG t0 fi_X0_50 rfl dX0_hasMemo_1 (fun z1 lz1 uz1 wz1 => ?_)
  replace wz1 : z1 = (FF G) h0 11 := wz1
  have cz1 : z1.toInt = ((FF G) h0 11).toInt := by rw [wz1]
  refine lv_iload_n hx hb dX0_hasMemo_4 rfl (lv_at hl 1 rfl) ?_
  refine lv_iushr hx hb dX0_hasMemo_5 rfl ?_
  refine lv_topi (fun z2 ez2 => ?_)
  refine lv_iconst (v := 1) hx hb dX0_hasMemo_6 (by decide) ?_
  refine lv_iand hx hb dX0_hasMemo_7 ?_
  refine lv_topi (fun z3 ez3 => ?_)
  have bz3 := tB_get (y := x1) (by omega) (by omega) ez2 ez3
  rw [wz1] at bz3
  refine lv_iconst (v := 1) hx hb dX0_hasMemo_8 (by decide) ?_
  refine lv_icmp_ne (tgt := 16) hx hb dX0_hasMemo_9 (by decide) (fun c4 => ?_) (fun c4 => ?_)
  · skip
    have ic4 := tn_ne rfl kI_1 c4
    refine lv_iconst (v := 0) hx hb dX0_hasMemo_16 (by decide) ?_
    exact tc_pret E hr hlk eH eL (t_nz (by decide) (by decide)).1 (show ((0 : Int32).toInt = 1 ∧ (tB ((FF G) h0 11) x1.toInt.toNat)) ∨ ((0 : Int32).toInt = 0 ∧ ¬ (tB ((FF G) h0 11) x1.toInt.toNat)) by have kk := kI_0; exact Or.inr ⟨by decide, (by rcases bz3 with ⟨_, b9⟩ | ⟨_, b9⟩; (exfalso; omega); exact b9)⟩) dX0_hasMemo_17
  · skip
    have ic4 := tn_eq rfl kI_1 c4
    refine lv_iconst (v := 1) hx hb dX0_hasMemo_12 (by decide) ?_
    refine lv_goto (tgt := 17) hx hb dX0_hasMemo_13 (by decide) ?_
    exact tc_pret E hr hlk eH eL (t_nz (by decide) (by decide)).1 (show ((1 : Int32).toInt = 1 ∧ (tB ((FF G) h0 11) x1.toInt.toNat)) ∨ ((1 : Int32).toInt = 0 ∧ ¬ (tB ((FF G) h0 11) x1.toInt.toNat)) by have kk := kI_1; exact Or.inl ⟨by decide, (by rcases bz3 with ⟨_, b9⟩ | ⟨_, b9⟩; exact b9; exfalso; omega)⟩) dX0_hasMemo_17

set_option maxHeartbeats 4000000 in
set_option maxRecDepth 100000 in
theorem x_X0_memoOf (l : Launch) (G : tG) (τ : Nat → Nat) (h0 : Nat) (x1 : Int32) (t0 : τ h0 = 3) (l1 : 0 ≤ x1.toInt) (u1 : x1.toInt ≤ 1) : Met l yX0_memoOf (.code yX0_memoOf cX0_memoOf 2 (some .int) :: tWS) (tRm 0 0) (va_Pc [.ref h0, .int x1] (tPre G τ)) (tQp (fun r => r.toInt = if x1.toInt = 0 then ((FF G) h0 12).toInt else ((FF G) h0 13).toInt)) 0 0 tNo := by
  refine tc_met (by decide) (Nat.le_of_ble_eq_true rfl) ?_
  intro p e s m below meth c E hSt hr hlk hG ls hl
  have hl : lv_has ls 2 [(0, .ref h0), (1, .int x1)] := hl
  have hx := E.1
  have hb := E.2.1
  obtain ⟨H, eH⟩ : ∃ H, H = s.heap := ⟨_, rfl⟩
  obtain ⟨locs, eL⟩ : ∃ x : List Loc, x = [] := ⟨_, rfl⟩
  have hG : tGH G τ s H locs := by rw [eH, eL]; exact hG
  suffices hW : W p l e (tRm 0 0) s m ([.ref h0, .int x1] : List Value).toArray below meth c H locs 0 0 (MQ below (tQp (fun r => r.toInt = if x1.toInt = 0 then ((FF G) h0 12).toInt else ((FF G) h0 13).toInt)) ([.ref h0, .int x1] : List Value).toArray s 0 0 tNo) (F0 m 0 ls []) by subst eH; subst eL; exact hW
  refine lv_iload_n hx hb dX0_memoOf_0 rfl (lv_at hl 1 rfl) ?_
  refine lv_if_ne (tgt := 11) hx hb dX0_memoOf_1 (by decide) (fun c1 => ?_) (fun c1 => ?_)
  · skip
    have ic1 := tn_ne rfl kI_0 c1
    refine lv_aload_n hx hb dX0_memoOf_11 rfl (lv_at hl 0 rfl) ?_
    refine tc_getF E hG t0 fi_X0_73 rfl dX0_memoOf_12 (fun z2 lz2 uz2 wz2 => ?_)
    replace wz2 : z2 = (FF G) h0 13 := wz2
    have cz2 : z2.toInt = ((FF G) h0 13).toInt := by rw [wz2]
    exact tc_pret E hr hlk eH eL rfl (show z2.toInt = if x1.toInt = 0 then ((FF G) h0 12).toInt else ((FF G) h0 13).toInt by (first | (rw [if_pos (by omega)]; omega) | (rw [if_neg (by omega)]; omega))) dX0_memoOf_15
  · skip
    have ic1 := tn_eq rfl kI_0 c1
    refine lv_aload_n hx hb dX0_memoOf_4 rfl (lv_at hl 0 rfl) ?_
    refine tc_getF E hG t0 fi_X0_70 rfl dX0_memoOf_5 (fun z3 lz3 uz3 wz3 => ?_)
    replace wz3 : z3 = (FF G) h0 12 := wz3
    have cz3 : z3.toInt = ((FF G) h0 12).toInt := by rw [wz3]
    refine lv_goto (tgt := 15) hx hb dX0_memoOf_8 (by decide) ?_
    exact tc_pret E hr hlk eH eL rfl (show z3.toInt = if x1.toInt = 0 then ((FF G) h0 12).toInt else ((FF G) h0 13).toInt by (first | (rw [if_pos (by omega)]; omega) | (rw [if_neg (by omega)]; omega))) dX0_memoOf_15

set_option maxHeartbeats 4000000 in
set_option maxRecDepth 100000 in
theorem x_X0_keepMemo (l : Launch) (G : tG) (F : mF) (τ : Nat → Nat) (h0 : Nat) (x1 : Int32) (x2 : Int32) (t0 : τ h0 = 3) (l1 : 0 ≤ x1.toInt) (u1 : x1.toInt ≤ 1) : Met l yX0_keepMemo (.code yX0_keepMemo cX0_keepMemo 3 none :: tWS) (tRm 0 0) (va_Pc [.ref h0, .int x1, .int x2] (tPre (gF G F) τ)) (tQG G τ (fun F9 => KPM F F9 h0 x1 x2)) 0 0 (tA τ) := by
  refine tc_met (by decide) (Nat.le_of_ble_eq_true rfl) ?_
  intro p e s m below meth c E hSt hr hlk hG ls hl
  have hl : lv_has ls 3 [(0, .ref h0), (1, .int x1), (2, .int x2)] := hl
  have hx := E.1
  have hb := E.2.1
  obtain ⟨H, eH⟩ : ∃ H, H = s.heap := ⟨_, rfl⟩
  obtain ⟨locs, eL⟩ : ∃ x : List Loc, x = [] := ⟨_, rfl⟩
  have hG : tGH (gF G F) τ s H locs := by rw [eH, eL]; exact hG
  suffices hW : W p l e (tRm 0 0) s m ([.ref h0, .int x1, .int x2] : List Value).toArray below meth c H locs 0 0 (MQ below (tQG G τ (fun F9 => KPM F F9 h0 x1 x2)) ([.ref h0, .int x1, .int x2] : List Value).toArray s 0 0 (tA τ)) (F0 m 0 ls []) by subst eH; subst eL; exact hW
  clear eH eL
  refine lv_aload_n hx hb dX0_keepMemo_0 rfl (lv_at hl 0 rfl) ?_
  refine lv_dup hx hb dX0_keepMemo_1 rfl ?_
  refine tc_getF E hG t0 fi_X0_50 rfl dX0_keepMemo_2 (fun z1 lz1 uz1 wz1 => ?_)
  replace wz1 : z1 = F h0 11 := wz1
  have cz1 : z1.toInt = (F h0 11).toInt := by rw [wz1]
  refine lv_iconst (v := 1) hx hb dX0_keepMemo_5 (by decide) ?_
  refine lv_iload_n hx hb dX0_keepMemo_6 rfl (lv_at hl 1 rfl) ?_
  refine lv_ishl hx hb dX0_keepMemo_7 ?_
  refine lv_topi (fun z2 ez2 => ?_)
  refine lv_ior hx hb dX0_keepMemo_8 ?_
  refine lv_topi (fun z3 ez3 => ?_)
  refine tc_putF (lo := -2147483648) (hi := 2147483647) E hG t0 (by decide) rfl rfl fq_X0_50 (t_any1 _) (t_any2 _) rfl rfl dX0_keepMemo_9 (fun H locs hG => ?_)
  obtain ⟨F4, eF4⟩ : ∃ Z : mF, Z = up2 F h0 11 z3 := ⟨_, rfl⟩
  replace hG : tGH (gF G F4) τ s H locs := by rw [eF4]; exact hG
  have E := E.f1 (F' := F4)
  have hSt := hSt.f1 (F' := F4)
  refine lv_iload_n hx hb dX0_keepMemo_12 rfl (lv_at hl 1 rfl) ?_
  refine lv_if_ne (tgt := 24) hx hb dX0_keepMemo_13 (by decide) (fun c5 => ?_) (fun c5 => ?_)
  · skip
    have ic5 := tn_ne rfl kI_0 c5
    refine lv_aload_n hx hb dX0_keepMemo_24 rfl (lv_at hl 0 rfl) ?_
    refine lv_iload_n hx hb dX0_keepMemo_25 rfl (lv_at hl 2 rfl) ?_
    refine tc_putF (lo := -2147483648) (hi := 2147483647) E hG t0 (by decide) rfl rfl fq_X0_73 (t_any1 _) (t_any2 _) rfl rfl dX0_keepMemo_26 (fun H locs hG => ?_)
    obtain ⟨F6, eF6⟩ : ∃ Z : mF, Z = up2 F4 h0 13 x2 := ⟨_, rfl⟩
    replace hG : tGH (gF G F6) τ s H locs := by rw [eF6]; exact hG
    have E := E.f1 (F' := F6)
    have hSt := hSt.f1 (F' := F6)
    exact tc_vretF E hr hlk hG (by unfold KPM; rw [if_neg (by omega), eF6, eF4]; simp only [ez3, ez2, wz1]) dX0_keepMemo_29
  · skip
    have ic5 := tn_eq rfl kI_0 c5
    refine lv_aload_n hx hb dX0_keepMemo_16 rfl (lv_at hl 0 rfl) ?_
    refine lv_iload_n hx hb dX0_keepMemo_17 rfl (lv_at hl 2 rfl) ?_
    refine tc_putF (lo := -2147483648) (hi := 2147483647) E hG t0 (by decide) rfl rfl fq_X0_70 (t_any1 _) (t_any2 _) rfl rfl dX0_keepMemo_18 (fun H locs hG => ?_)
    obtain ⟨F7, eF7⟩ : ∃ Z : mF, Z = up2 F4 h0 12 x2 := ⟨_, rfl⟩
    replace hG : tGH (gF G F7) τ s H locs := by rw [eF7]; exact hG
    have E := E.f1 (F' := F7)
    have hSt := hSt.f1 (F' := F7)
    refine lv_goto (tgt := 29) hx hb dX0_keepMemo_21 (by decide) ?_
    exact tc_vretF E hr hlk hG (by unfold KPM; rw [if_pos (by omega), eF7, eF4]; simp only [ez3, ez2, wz1]) dX0_keepMemo_29
