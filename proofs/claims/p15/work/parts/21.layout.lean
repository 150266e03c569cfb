set_option maxHeartbeats 4000000 in
set_option maxRecDepth 100000 in
theorem c_X3_wordWide (l : Launch) (G : tG) (τ : Nat → Nat) (x0 : Int32) (x1 : Int32)  : Met l yX3_wordWide (.code yX3_wordWide cX3_wordWide 3 (some .int) :: tWS) (tRm 0 0) (va_Pc [.int x0, .int x1] (tPre G τ)) (tQp (fun r => True)) 0 0 tNo := by
  refine tc_met (by decide) (Nat.le_of_ble_eq_true rfl) ?_
  intro p e s m below meth c E hSt hr hlk hG ls hl
  have hl : lv_has ls 3 [(0, .int x0), (1, .int x1)] := hl
  have hx := E.1
  have hb := E.2.1
  obtain ⟨H, eH⟩ : ∃ H, H = s.heap := ⟨_, rfl⟩
  obtain ⟨locs, eL⟩ : ∃ x : List Loc, x = [] := ⟨_, rfl⟩
  have hG : tGH G τ s H locs := by rw [eH, eL]; exact hG
  suffices hW : W p l e (tRm 0 0) s m ([.int x0, .int x1] : List Value).toArray below meth c H locs 0 0 (MQ below (tQp (fun r => True)) ([.int x0, .int x1] : List Value).toArray s 0 0 tNo) (F0 m 0 ls []) by subst eH; subst eL; exact hW
  refine lv_iload_n hx hb dX3_wordWide_0 rfl (lv_at hl 0 rfl) ?_
  refine lv_iload_n hx hb dX3_wordWide_1 rfl (lv_at hl 1 rfl) ?_
  refine lv_iadd hx hb dX3_wordWide_2 ?_
  refine lv_topi (fun z1 ez1 => ?_)
  refine lv_bipush (v := 32) hx hb dX3_wordWide_3 (by decide) ?_
  refine lv_irem hx hb dX3_wordWide_5 (by decide) ?_
  refine lv_topi (fun z2 ez2 => ?_)
  refine lv_istore_n (lv' := [(2, .int z2), (0, .int x0), (1, .int x1)]) hx hb dX3_wordWide_6 rfl hl (by decide) rfl (fun ls hl => ?_)
  refine lv_iconst (v := 1) hx hb dX3_wordWide_7 (by decide) ?_
  refine lv_bipush (v := 7) hx hb dX3_wordWide_8 (by decide) ?_
  refine lv_iload_n hx hb dX3_wordWide_10 rfl (lv_at hl 0 rfl) ?_
  refine lv_imul hx hb dX3_wordWide_11 ?_
  refine lv_topi (fun z3 ez3 => ?_)
  refine lv_iload_n hx hb dX3_wordWide_12 rfl (lv_at hl 0 rfl) ?_
  refine lv_imul hx hb dX3_wordWide_13 ?_
  refine lv_topi (fun z4 ez4 => ?_)
  refine lv_iconst (v := 3) hx hb dX3_wordWide_14 (by decide) ?_
  refine lv_iload_n hx hb dX3_wordWide_15 rfl (lv_at hl 0 rfl) ?_
  refine lv_imul hx hb dX3_wordWide_16 ?_
  refine lv_topi (fun z5 ez5 => ?_)
  refine lv_iadd hx hb dX3_wordWide_17 ?_
  refine lv_topi (fun z6 ez6 => ?_)
  refine lv_bipush (v := 9) hx hb dX3_wordWide_18 (by decide) ?_
  refine lv_irem hx hb dX3_wordWide_20 (by decide) ?_
  refine lv_topi (fun z7 ez7 => ?_)
  refine lv_iadd hx hb dX3_wordWide_21 ?_
  refine lv_topi (fun z8 ez8 => ?_)
  exact tc_pret E hr hlk eH eL rfl trivial dX3_wordWide_22

set_option maxHeartbeats 4000000 in
set_option maxRecDepth 100000 in
theorem c_X3_lessBy (l : Launch) (G : tG) (τ : Nat → Nat) (x0 : Int32) (x1 : Int32)  : Met l yX3_lessBy (.code yX3_lessBy cX3_lessBy 2 (some .int) :: tWS) (tRm 1 21) (va_Pc [.int x0, .int x1] (tPre G τ)) (tQp (fun r => True)) 0 0 tNo := by
  refine tc_met (by decide) (Nat.le_of_ble_eq_true rfl) ?_
  intro p e s m below meth c E hSt hr hlk hG ls hl
  have hl : lv_has ls 2 [(0, .int x0), (1, .int x1)] := hl
  have hx := E.1
  have hb := E.2.1
  obtain ⟨H, eH⟩ : ∃ H, H = s.heap := ⟨_, rfl⟩
  obtain ⟨locs, eL⟩ : ∃ x : List Loc, x = [] := ⟨_, rfl⟩
  have hG : tGH G τ s H locs := by rw [eH, eL]; exact hG
  suffices hW : W p l e (tRm 1 21) s m ([.int x0, .int x1] : List Value).toArray below meth c H locs 0 0 (MQ below (tQp (fun r => True)) ([.int x0, .int x1] : List Value).toArray s 0 0 tNo) (F0 m 0 ls []) by subst eH; subst eL; exact hW
  refine lv_iload_n hx hb dX3_lessBy_0 rfl (lv_at hl 0 rfl) ?_
  refine lv_sipush (v := 1000) hx hb dX3_lessBy_1 (by decide) ?_
  refine lv_icmp_lt (tgt := 13) hx hb dX3_lessBy_4 (by decide) (fun c1 => ?_) (fun c1 => ?_)
  · skip
    have ic1 := tn_lt rfl kI_1000 c1
    refine lv_iconst (v := 0) hx hb dX3_lessBy_13 (by decide) ?_
    refine lv_iload_n hx hb dX3_lessBy_14 rfl (lv_at hl 0 rfl) ?_
    refine lv_iload_n hx hb dX3_lessBy_15 rfl (lv_at hl 1 rfl) ?_
    refine lv_isub hx hb dX3_lessBy_16 ?_
    refine lv_topi (fun z2 ez2 => ?_)
    refine tc_max (rest := []) E hl.1 ml_X3_155 kn_max1 kn_math kn_max2 ⟨Nat.le_of_ble_eq_true rfl, Nat.le_of_ble_eq_true rfl⟩ ⟨Nat.zero_le _, Nat.zero_le _⟩ dX3_lessBy_17 (fun z3 ez3 => ?_)
    have tz3 := tn_max ez3
    have kk4_ := kI_0
    exact tc_pret E hr hlk eH eL rfl trivial dX3_lessBy_20
  · skip
    have ic1 := tn_nlt rfl kI_1000 c1
    refine lv_sipush (v := 1000) hx hb dX3_lessBy_7 (by decide) ?_
    refine lv_goto (tgt := 20) hx hb dX3_lessBy_10 (by decide) ?_
    exact tc_pret E hr hlk eH eL rfl trivial dX3_lessBy_20

set_option maxHeartbeats 4000000 in
set_option maxRecDepth 100000 in
theorem c_X3_aligned (l : Launch) (G : tG) (τ : Nat → Nat) (x0 : Int32) (x1 : Int32)  : Met l yX3_aligned (.code yX3_aligned cX3_aligned 2 (some .int) :: tWS) (tRm 0 0) (va_Pc [.int x0, .int x1] (tPre G τ)) (tQp (fun r => True)) 0 0 tNo := by
  refine tc_met (by decide) (Nat.le_of_ble_eq_true rfl) ?_
  intro p e s m below meth c E hSt hr hlk hG ls hl
  have hl : lv_has ls 2 [(0, .int x0), (1, .int x1)] := hl
  have hx := E.1
  have hb := E.2.1
  obtain ⟨H, eH⟩ : ∃ H, H = s.heap := ⟨_, rfl⟩
  obtain ⟨locs, eL⟩ : ∃ x : List Loc, x = [] := ⟨_, rfl⟩
  have hG : tGH G τ s H locs := by rw [eH, eL]; exact hG
  suffices hW : W p l e (tRm 0 0) s m ([.int x0, .int x1] : List Value).toArray below meth c H locs 0 0 (MQ below (tQp (fun r => True)) ([.int x0, .int x1] : List Value).toArray s 0 0 tNo) (F0 m 0 ls []) by subst eH; subst eL; exact hW
  refine lv_iload_n hx hb dX3_aligned_0 rfl (lv_at hl 1 rfl) ?_
  rcases (show (¬ x1.toInt = 1 ∧ ¬ x1.toInt = 2) ∨ x1.toInt = 1 ∨ x1.toInt = 2 by omega) with k1 | k1 | k1
  · refine lv_lookup (off := 33) (tgt := 34) hx hb dX3_aligned_1 (by decide) (by simp [Op.lookupswitch.offset_cons, Op.lookupswitch.offset, k1, eq_comm]) (by decide) ?_
    refine lv_iconst (v := 0) hx hb dX3_aligned_34 (by decide) ?_
    exact tc_pret E hr hlk eH eL rfl trivial dX3_aligned_35
  · refine lv_lookup (off := 27) (tgt := 28) hx hb dX3_aligned_1 (by decide) (by rw [k1]; rfl) (by decide) ?_
    refine lv_iload_n hx hb dX3_aligned_28 rfl (lv_at hl 0 rfl) ?_
    refine lv_iconst (v := 2) hx hb dX3_aligned_29 (by decide) ?_
    refine lv_idiv hx hb dX3_aligned_30 (by decide) ?_
    refine lv_topi (fun z2 ez2 => ?_)
    exact tc_pret E hr hlk eH eL rfl trivial dX3_aligned_31
  · refine lv_lookup (off := 31) (tgt := 32) hx hb dX3_aligned_1 (by decide) (by rw [k1]; rfl) (by decide) ?_
    refine lv_iload_n hx hb dX3_aligned_32 rfl (lv_at hl 0 rfl) ?_
    exact tc_pret E hr hlk eH eL rfl trivial dX3_aligned_33

set_option maxHeartbeats 4000000 in
set_option maxRecDepth 100000 in
theorem c_X3_wordsInALine (l : Launch) (G : tG) (τ : Nat → Nat) (h0 : Nat) (t0 : τ h0 = 3) : Met l yX3_wordsInALine (.code yX3_wordsInALine cX3_wordsInALine 3 (some .int) :: tWS) (tRm 1 22) (va_Pc [.ref h0] (tPre G τ)) (tQp (fun r => True)) 0 0 tNo := by
  refine tc_met (by decide) (Nat.le_of_ble_eq_true rfl) ?_
  intro p e s m below meth c E hSt hr hlk hG ls hl
  have hl : lv_has ls 3 [(0, .ref h0)] := hl
  have hx := E.1
  have hb := E.2.1
  obtain ⟨H, eH⟩ : ∃ H, H = s.heap := ⟨_, rfl⟩
  obtain ⟨locs, eL⟩ : ∃ x : List Loc, x = [] := ⟨_, rfl⟩
  have hG : tGH G τ s H locs := by rw [eH, eL]; exact hG
  suffices hW : W p l e (tRm 1 22) s m ([.ref h0] : List Value).toArray below meth c H locs 0 0 (MQ below (tQp (fun r => True)) ([.ref h0] : List Value).toArray s 0 0 tNo) (F0 m 0 ls []) by subst eH; subst eL; exact hW
  have J15 : ∀ (n15 : Nat) (ls : Array Slot) (v1 : Int32) (v2 : Int32), lv_has ls 3 [(0, .ref h0), (1, .int v1), (2, .int v2)] → 0 ≤ v2.toInt → (2147483647 - v2.toInt).toNat < n15 → W p l e (tRm 1 22) s m ([.ref h0] : List Value).toArray below meth c H locs 0 0 (MQ below (tQp (fun r => True)) ([.ref h0] : List Value).toArray s 0 0 tNo) (F0 m 15 ls []) := by
    intro n15
    induction n15 with
    | zero => intro ls v1 v2 hl b2 hn15; exact absurd hn15 (Nat.not_lt_zero _)
    | succ n15 ih15 =>
      intro ls v1 v2 hl b2 hn15
      refine lv_iload_n hx hb dX3_wordsInALine_15 rfl (lv_at hl 2 rfl) ?_
      refine lv_aload_n hx hb dX3_wordsInALine_16 rfl (lv_at hl 0 rfl) ?_
      refine tc_getr E hG t0 fr_X3_111 dX3_wordsInALine_17 (fun oa1 hoa1 => ?_)
      refine lv_iconst (v := 0) hx hb dX3_wordsInALine_20 (by decide) ?_
      refine tc_iald E hG hoa1 ta_11 (t_in (by decide) (by decide)) dX3_wordsInALine_21 (fun z2 lz2 uz2 => ?_)
      refine lv_icmp_ge (tgt := 44) hx hb dX3_wordsInALine_22 (by decide) (fun c3 => ?_) (fun c3 => ?_)
      · skip
        have ic3 := tn_le rfl rfl c3
        have y4 := t_any2 v2
        have y5 := t_any1 z2
        have y6 := t_any2 z2
        refine lv_iload_n hx hb dX3_wordsInALine_44 rfl (lv_at hl 1 rfl) ?_
        exact tc_pret E hr hlk eH eL rfl trivial dX3_wordsInALine_45
      · skip
        have ic3 := tn_nle rfl rfl c3
        have y7 := t_any2 v2
        have y8 := t_any1 z2
        have y9 := t_any2 z2
        refine lv_iload_n hx hb dX3_wordsInALine_25 rfl (lv_at hl 1 rfl) ?_
        refine lv_aload_n hx hb dX3_wordsInALine_26 rfl (lv_at hl 0 rfl) ?_
        refine tc_getr E hG t0 fr_X3_111 dX3_wordsInALine_27 (fun oa10 hoa10 => ?_)
        refine lv_iconst (v := 1) hx hb dX3_wordsInALine_30 (by decide) ?_
        refine tc_iald E hG hoa10 ta_11 (t_in (by decide) (by decide)) dX3_wordsInALine_31 (fun z11 lz11 uz11 => ?_)
        refine lv_iload_n hx hb dX3_wordsInALine_32 rfl (lv_at hl 2 rfl) ?_
        refine tc_callp (tc_runS (As := [.int z11, .int v2]) (rest := [.int v1]) E hSt hG (c_X3_wordWide l G τ z11 v2) ks_X3_wordWide ml_X3_151 ⟨rfl, rfl, Nat.le_of_ble_eq_true rfl, Nat.le_of_ble_eq_true rfl⟩ rfl hl.1 rfl (Nat.le_of_ble_eq_true rfl) ⟨Nat.zero_le _, Nat.zero_le _⟩ dX3_wordsInALine_33) (fun r12 pr12 => ?_)
        refine lv_iadd hx hb dX3_wordsInALine_36 ?_
        refine lv_topi (fun z13 ez13 => ?_)
        refine lv_istore_n (lv' := [(1, .int z13), (0, .ref h0), (2, .int v2)]) hx hb dX3_wordsInALine_37 rfl hl (by decide) rfl (fun ls hl => ?_)
        obtain ⟨z14, ez14⟩ : ∃ y : Int32, y = v2 + (1) := ⟨_, rfl⟩
        refine lv_iinc (v := z14) (lv' := [(2, .int z14), (1, .int z13), (0, .ref h0)]) hx hb dX3_wordsInALine_38 hl (k := 2) rfl (by rw [ez14]; rfl) (by decide) rfl (fun ls hl => ?_)
        have tz14 := tn_add ez14 rfl kI_1 (by omega) (by omega)
        refine lv_goto (tgt := 15) hx hb dX3_wordsInALine_41 (by decide) ?_
        exact ih15 ls z13 z14 (lv_sub hl [2, 1, 0] rfl) (by omega) (by omega)
  refine lv_iconst (v := 0) hx hb dX3_wordsInALine_0 (by decide) ?_
  refine lv_aload_n hx hb dX3_wordsInALine_1 rfl (lv_at hl 0 rfl) ?_
  refine tc_getr E hG t0 fr_X3_111 dX3_wordsInALine_2 (fun oa15 hoa15 => ?_)
  refine lv_iconst (v := 0) hx hb dX3_wordsInALine_5 (by decide) ?_
  refine tc_iald E hG hoa15 ta_11 (t_in (by decide) (by decide)) dX3_wordsInALine_6 (fun z16 lz16 uz16 => ?_)
  refine lv_iconst (v := 1) hx hb dX3_wordsInALine_7 (by decide) ?_
  refine lv_isub hx hb dX3_wordsInALine_8 ?_
  refine lv_topi (fun z17 ez17 => ?_)
  refine tc_max (rest := []) E hl.1 ml_X3_155 kn_max1 kn_math kn_max2 ⟨Nat.le_of_ble_eq_true rfl, Nat.le_of_ble_eq_true rfl⟩ ⟨Nat.zero_le _, Nat.zero_le _⟩ dX3_wordsInALine_9 (fun z18 ez18 => ?_)
  have tz18 := tn_max ez18
  have kk19_ := kI_0
  refine lv_istore_n (lv' := [(1, .int z18), (0, .ref h0)]) hx hb dX3_wordsInALine_12 rfl hl (by decide) rfl (fun ls hl => ?_)
  refine lv_iconst (v := 0) hx hb dX3_wordsInALine_13 (by decide) ?_
  refine lv_istore_n (lv' := [(2, .int 0), (1, .int z18), (0, .ref h0)]) hx hb dX3_wordsInALine_14 rfl hl (by decide) rfl (fun ls hl => ?_)
  exact J15 ((2147483647 - (0 : Int32).toInt).toNat + 1) ls z18 (0 : Int32) (lv_sub hl [2, 1, 0] rfl) (by decide) (Nat.lt_succ_self _)

set_option maxHeartbeats 4000000 in
set_option maxRecDepth 100000 in
theorem c_X3_widestWord (l : Launch) (G : tG) (τ : Nat → Nat) (h0 : Nat) (t0 : τ h0 = 3) : Met l yX3_widestWord (.code yX3_widestWord cX3_widestWord 3 (some .int) :: tWS) (tRm 1 22) (va_Pc [.ref h0] (tPre G τ)) (tQp (fun r => True)) 0 0 tNo := by
  refine tc_met (by decide) (Nat.le_of_ble_eq_true rfl) ?_
  intro p e s m below meth c E hSt hr hlk hG ls hl
  have hl : lv_has ls 3 [(0, .ref h0)] := hl
  have hx := E.1
  have hb := E.2.1
  obtain ⟨H, eH⟩ : ∃ H, H = s.heap := ⟨_, rfl⟩
  obtain ⟨locs, eL⟩ : ∃ x : List Loc, x = [] := ⟨_, rfl⟩
  have hG : tGH G τ s H locs := by rw [eH, eL]; exact hG
  suffices hW : W p l e (tRm 1 22) s m ([.ref h0] : List Value).toArray below meth c H locs 0 0 (MQ below (tQp (fun r => True)) ([.ref h0] : List Value).toArray s 0 0 tNo) (F0 m 0 ls []) by subst eH; subst eL; exact hW
  have J4 : ∀ (n4 : Nat) (ls : Array Slot) (v1 : Int32) (v2 : Int32), lv_has ls 3 [(0, .ref h0), (1, .int v1), (2, .int v2)] → 0 ≤ v1.toInt → 0 ≤ v2.toInt → (2147483647 - v2.toInt).toNat < n4 → W p l e (tRm 1 22) s m ([.ref h0] : List Value).toArray below meth c H locs 0 0 (MQ below (tQp (fun r => True)) ([.ref h0] : List Value).toArray s 0 0 tNo) (F0 m 4 ls []) := by
    intro n4
    induction n4 with
    | zero => intro ls v1 v2 hl b1 b2 hn4; exact absurd hn4 (Nat.not_lt_zero _)
    | succ n4 ih4 =>
      intro ls v1 v2 hl b1 b2 hn4
      refine lv_iload_n hx hb dX3_widestWord_4 rfl (lv_at hl 2 rfl) ?_
      refine lv_aload_n hx hb dX3_widestWord_5 rfl (lv_at hl 0 rfl) ?_
      refine tc_getr E hG t0 fr_X3_111 dX3_widestWord_6 (fun oa1 hoa1 => ?_)
      refine lv_iconst (v := 0) hx hb dX3_widestWord_9 (by decide) ?_
      refine tc_iald E hG hoa1 ta_11 (t_in (by decide) (by decide)) dX3_widestWord_10 (fun z2 lz2 uz2 => ?_)
      refine lv_icmp_ge (tgt := 35) hx hb dX3_widestWord_11 (by decide) (fun c3 => ?_) (fun c3 => ?_)
      · skip
        have ic3 := tn_le rfl rfl c3
        have y4 := t_any2 v2
        have y5 := t_any1 z2
        have y6 := t_any2 z2
        refine lv_iload_n hx hb dX3_widestWord_35 rfl (lv_at hl 1 rfl) ?_
        exact tc_pret E hr hlk eH eL rfl trivial dX3_widestWord_36
      · skip
        have ic3 := tn_nle rfl rfl c3
        have y7 := t_any2 v2
        have y8 := t_any1 z2
        have y9 := t_any2 z2
        refine lv_iload_n hx hb dX3_widestWord_14 rfl (lv_at hl 1 rfl) ?_
        refine lv_aload_n hx hb dX3_widestWord_15 rfl (lv_at hl 0 rfl) ?_
        refine tc_getr E hG t0 fr_X3_111 dX3_widestWord_16 (fun oa10 hoa10 => ?_)
        refine lv_iconst (v := 1) hx hb dX3_widestWord_19 (by decide) ?_
        refine tc_iald E hG hoa10 ta_11 (t_in (by decide) (by decide)) dX3_widestWord_20 (fun z11 lz11 uz11 => ?_)
        refine lv_iload_n hx hb dX3_widestWord_21 rfl (lv_at hl 2 rfl) ?_
        refine tc_callp (tc_runS (As := [.int z11, .int v2]) (rest := [.int v1]) E hSt hG (c_X3_wordWide l G τ z11 v2) ks_X3_wordWide ml_X3_151 ⟨rfl, rfl, Nat.le_of_ble_eq_true rfl, Nat.le_of_ble_eq_true rfl⟩ rfl hl.1 rfl (Nat.le_of_ble_eq_true rfl) ⟨Nat.zero_le _, Nat.zero_le _⟩ dX3_widestWord_22) (fun r12 pr12 => ?_)
        refine tc_max (rest := []) E hl.1 ml_X3_155 kn_max1 kn_math kn_max2 ⟨Nat.le_of_ble_eq_true rfl, Nat.le_of_ble_eq_true rfl⟩ ⟨Nat.zero_le _, Nat.zero_le _⟩ dX3_widestWord_25 (fun z13 ez13 => ?_)
        have tz13 := tn_max ez13
        refine lv_istore_n (lv' := [(1, .int z13), (0, .ref h0), (2, .int v2)]) hx hb dX3_widestWord_28 rfl hl (by decide) rfl (fun ls hl => ?_)
        obtain ⟨z14, ez14⟩ : ∃ y : Int32, y = v2 + (1) := ⟨_, rfl⟩
        refine lv_iinc (v := z14) (lv' := [(2, .int z14), (1, .int z13), (0, .ref h0)]) hx hb dX3_widestWord_29 hl (k := 2) rfl (by rw [ez14]; rfl) (by decide) rfl (fun ls hl => ?_)
        have tz14 := tn_add ez14 rfl kI_1 (by omega) (by omega)
        refine lv_goto (tgt := 4) hx hb dX3_widestWord_32 (by decide) ?_
        exact ih4 ls z13 z14 (lv_sub hl [2, 1, 0] rfl) (by omega) (by omega) (by omega)
  refine lv_iconst (v := 0) hx hb dX3_widestWord_0 (by decide) ?_
  refine lv_istore_n (lv' := [(1, .int 0), (0, .ref h0)]) hx hb dX3_widestWord_1 rfl hl (by decide) rfl (fun ls hl => ?_)
  refine lv_iconst (v := 0) hx hb dX3_widestWord_2 (by decide) ?_
  refine lv_istore_n (lv' := [(2, .int 0), (1, .int 0), (0, .ref h0)]) hx hb dX3_widestWord_3 rfl hl (by decide) rfl (fun ls hl => ?_)
  exact J4 ((2147483647 - (0 : Int32).toInt).toNat + 1) ls (0 : Int32) (0 : Int32) (lv_sub hl [2, 1, 0] rfl) (by decide) (by decide) (Nat.lt_succ_self _)

set_option maxHeartbeats 4000000 in
set_option maxRecDepth 100000 in
theorem c_X3_wordsInALine_c (l : Launch) (G : tG) (τ : Nat → Nat) (h0 : Nat) (t0 : τ h0 = 31) : Met l yX3_wordsInALine (.code yX3_wordsInALine cX3_wordsInALine 3 (some .int) :: tWS) (tRm 1 22) (va_Pc [.ref h0] (tPre G τ)) (tQp (fun r => True)) 0 0 tNo := by
  refine tc_met (by decide) (Nat.le_of_ble_eq_true rfl) ?_
  intro p e s m below meth c E hSt hr hlk hG ls hl
  have hl : lv_has ls 3 [(0, .ref h0)] := hl
  have hx := E.1
  have hb := E.2.1
  obtain ⟨H, eH⟩ : ∃ H, H = s.heap := ⟨_, rfl⟩
  obtain ⟨locs, eL⟩ : ∃ x : List Loc, x = [] := ⟨_, rfl⟩
  have hG : tGH G τ s H locs := by rw [eH, eL]; exact hG
  suffices hW : W p l e (tRm 1 22) s m ([.ref h0] : List Value).toArray below meth c H locs 0 0 (MQ below (tQp (fun r => True)) ([.ref h0] : List Value).toArray s 0 0 tNo) (F0 m 0 ls []) by subst eH; subst eL; exact hW
  have J15 : ∀ (n15 : Nat) (ls : Array Slot) (v1 : Int32) (v2 : Int32), lv_has ls 3 [(0, .ref h0), (1, .int v1), (2, .int v2)] → 0 ≤ v2.toInt → (2147483647 - v2.toInt).toNat < n15 → W p l e (tRm 1 22) s m ([.ref h0] : List Value).toArray below meth c H locs 0 0 (MQ below (tQp (fun r => True)) ([.ref h0] : List Value).toArray s 0 0 tNo) (F0 m 15 ls []) := by
    intro n15
    induction n15 with
    | zero => intro ls v1 v2 hl b2 hn15; exact absurd hn15 (Nat.not_lt_zero _)
    | succ n15 ih15 =>
      intro ls v1 v2 hl b2 hn15
      refine lv_iload_n hx hb dX3_wordsInALine_15 rfl (lv_at hl 2 rfl) ?_
      refine lv_aload_n hx hb dX3_wordsInALine_16 rfl (lv_at hl 0 rfl) ?_
      refine tc_getr E hG t0 frk_X3_111 dX3_wordsInALine_17 (fun oa1 hoa1 => ?_)
      refine lv_iconst (v := 0) hx hb dX3_wordsInALine_20 (by decide) ?_
      refine tc_iald E hG hoa1 ta_32 (t_in (by decide) (by decide)) dX3_wordsInALine_21 (fun z2 lz2 uz2 => ?_)
      refine lv_icmp_ge (tgt := 44) hx hb dX3_wordsInALine_22 (by decide) (fun c3 => ?_) (fun c3 => ?_)
      · skip
        have ic3 := tn_le rfl rfl c3
        have y4 := t_any2 v2
        have y5 := t_any1 z2
        have y6 := t_any2 z2
        refine lv_iload_n hx hb dX3_wordsInALine_44 rfl (lv_at hl 1 rfl) ?_
        exact tc_pret E hr hlk eH eL rfl trivial dX3_wordsInALine_45
      · skip
        have ic3 := tn_nle rfl rfl c3
        have y7 := t_any2 v2
        have y8 := t_any1 z2
        have y9 := t_any2 z2
        refine lv_iload_n hx hb dX3_wordsInALine_25 rfl (lv_at hl 1 rfl) ?_
        refine lv_aload_n hx hb dX3_wordsInALine_26 rfl (lv_at hl 0 rfl) ?_
        refine tc_getr E hG t0 frk_X3_111 dX3_wordsInALine_27 (fun oa10 hoa10 => ?_)
        refine lv_iconst (v := 1) hx hb dX3_wordsInALine_30 (by decide) ?_
        refine tc_iald E hG hoa10 ta_32 (t_in (by decide) (by decide)) dX3_wordsInALine_31 (fun z11 lz11 uz11 => ?_)
        refine lv_iload_n hx hb dX3_wordsInALine_32 rfl (lv_at hl 2 rfl) ?_
        refine tc_callp (tc_runS (As := [.int z11, .int v2]) (rest := [.int v1]) E hSt hG (c_X3_wordWide l G τ z11 v2) ks_X3_wordWide ml_X3_151 ⟨rfl, rfl, Nat.le_of_ble_eq_true rfl, Nat.le_of_ble_eq_true rfl⟩ rfl hl.1 rfl (Nat.le_of_ble_eq_true rfl) ⟨Nat.zero_le _, Nat.zero_le _⟩ dX3_wordsInALine_33) (fun r12 pr12 => ?_)
        refine lv_iadd hx hb dX3_wordsInALine_36 ?_
        refine lv_topi (fun z13 ez13 => ?_)
        refine lv_istore_n (lv' := [(1, .int z13), (0, .ref h0), (2, .int v2)]) hx hb dX3_wordsInALine_37 rfl hl (by decide) rfl (fun ls hl => ?_)
        obtain ⟨z14, ez14⟩ : ∃ y : Int32, y = v2 + (1) := ⟨_, rfl⟩
        refine lv_iinc (v := z14) (lv' := [(2, .int z14), (1, .int z13), (0, .ref h0)]) hx hb dX3_wordsInALine_38 hl (k := 2) rfl (by rw [ez14]; rfl) (by decide) rfl (fun ls hl => ?_)
        have tz14 := tn_add ez14 rfl kI_1 (by omega) (by omega)
        refine lv_goto (tgt := 15) hx hb dX3_wordsInALine_41 (by decide) ?_
        exact ih15 ls z13 z14 (lv_sub hl [2, 1, 0] rfl) (by omega) (by omega)
  refine lv_iconst (v := 0) hx hb dX3_wordsInALine_0 (by decide) ?_
  refine lv_aload_n hx hb dX3_wordsInALine_1 rfl (lv_at hl 0 rfl) ?_
  refine tc_getr E hG t0 frk_X3_111 dX3_wordsInALine_2 (fun oa15 hoa15 => ?_)
  refine lv_iconst (v := 0) hx hb dX3_wordsInALine_5 (by decide) ?_
  refine tc_iald E hG hoa15 ta_32 (t_in (by decide) (by decide)) dX3_wordsInALine_6 (fun z16 lz16 uz16 => ?_)
  refine lv_iconst (v := 1) hx hb dX3_wordsInALine_7 (by decide) ?_
  refine lv_isub hx hb dX3_wordsInALine_8 ?_
  refine lv_topi (fun z17 ez17 => ?_)
  refine tc_max (rest := []) E hl.1 ml_X3_155 kn_max1 kn_math kn_max2 ⟨Nat.le_of_ble_eq_true rfl, Nat.le_of_ble_eq_true rfl⟩ ⟨Nat.zero_le _, Nat.zero_le _⟩ dX3_wordsInALine_9 (fun z18 ez18 => ?_)
  have tz18 := tn_max ez18
  have kk19_ := kI_0
  refine lv_istore_n (lv' := [(1, .int z18), (0, .ref h0)]) hx hb dX3_wordsInALine_12 rfl hl (by decide) rfl (fun ls hl => ?_)
  refine lv_iconst (v := 0) hx hb dX3_wordsInALine_13 (by decide) ?_
  refine lv_istore_n (lv' := [(2, .int 0), (1, .int z18), (0, .ref h0)]) hx hb dX3_wordsInALine_14 rfl hl (by decide) rfl (fun ls hl => ?_)
  exact J15 ((2147483647 - (0 : Int32).toInt).toNat + 1) ls z18 (0 : Int32) (lv_sub hl [2, 1, 0] rfl) (by decide) (Nat.lt_succ_self _)

set_option maxHeartbeats 4000000 in
set_option maxRecDepth 100000 in
theorem c_X3_widestWord_c (l : Launch) (G : tG) (τ : Nat → Nat) (h0 : Nat) (t0 : τ h0 = 31) : Met l yX3_widestWord (.code yX3_widestWord cX3_widestWord 3 (some .int) :: tWS) (tRm 1 22) (va_Pc [.ref h0] (tPre G τ)) (tQp (fun r => True)) 0 0 tNo := by
  refine tc_met (by decide) (Nat.le_of_ble_eq_true rfl) ?_
  intro p e s m below meth c E hSt hr hlk hG ls hl
  have hl : lv_has ls 3 [(0, .ref h0)] := hl
  have hx := E.1
  have hb := E.2.1
  obtain ⟨H, eH⟩ : ∃ H, H = s.heap := ⟨_, rfl⟩
  obtain ⟨locs, eL⟩ : ∃ x : List Loc, x = [] := ⟨_, rfl⟩
  have hG : tGH G τ s H locs := by rw [eH, eL]; exact hG
  suffices hW : W p l e (tRm 1 22) s m ([.ref h0] : List Value).toArray below meth c H locs 0 0 (MQ below (tQp (fun r => True)) ([.ref h0] : List Value).toArray s 0 0 tNo) (F0 m 0 ls []) by subst eH; subst eL; exact hW
  have J4 : ∀ (n4 : Nat) (ls : Array Slot) (v1 : Int32) (v2 : Int32), lv_has ls 3 [(0, .ref h0), (1, .int v1), (2, .int v2)] → 0 ≤ v1.toInt → 0 ≤ v2.toInt → (2147483647 - v2.toInt).toNat < n4 → W p l e (tRm 1 22) s m ([.ref h0] : List Value).toArray below meth c H locs 0 0 (MQ below (tQp (fun r => True)) ([.ref h0] : List Value).toArray s 0 0 tNo) (F0 m 4 ls []) := by
    intro n4
    induction n4 with
    | zero => intro ls v1 v2 hl b1 b2 hn4; exact absurd hn4 (Nat.not_lt_zero _)
    | succ n4 ih4 =>
      intro ls v1 v2 hl b1 b2 hn4
      refine lv_iload_n hx hb dX3_widestWord_4 rfl (lv_at hl 2 rfl) ?_
      refine lv_aload_n hx hb dX3_widestWord_5 rfl (lv_at hl 0 rfl) ?_
      refine tc_getr E hG t0 frk_X3_111 dX3_widestWord_6 (fun oa1 hoa1 => ?_)
      refine lv_iconst (v := 0) hx hb dX3_widestWord_9 (by decide) ?_
      refine tc_iald E hG hoa1 ta_32 (t_in (by decide) (by decide)) dX3_widestWord_10 (fun z2 lz2 uz2 => ?_)
      refine lv_icmp_ge (tgt := 35) hx hb dX3_widestWord_11 (by decide) (fun c3 => ?_) (fun c3 => ?_)
      · skip
        have ic3 := tn_le rfl rfl c3
        have y4 := t_any2 v2
        have y5 := t_any1 z2
        have y6 := t_any2 z2
        refine lv_iload_n hx hb dX3_widestWord_35 rfl (lv_at hl 1 rfl) ?_
        exact tc_pret E hr hlk eH eL rfl trivial dX3_widestWord_36
      · skip
        have ic3 := tn_nle rfl rfl c3
        have y7 := t_any2 v2
        have y8 := t_any1 z2
        have y9 := t_any2 z2
        refine lv_iload_n hx hb dX3_widestWord_14 rfl (lv_at hl 1 rfl) ?_
        refine lv_aload_n hx hb dX3_widestWord_15 rfl (lv_at hl 0 rfl) ?_
        refine tc_getr E hG t0 frk_X3_111 dX3_widestWord_16 (fun oa10 hoa10 => ?_)
        refine lv_iconst (v := 1) hx hb dX3_widestWord_19 (by decide) ?_
        refine tc_iald E hG hoa10 ta_32 (t_in (by decide) (by decide)) dX3_widestWord_20 (fun z11 lz11 uz11 => ?_)
        refine lv_iload_n hx hb dX3_widestWord_21 rfl (lv_at hl 2 rfl) ?_
        refine tc_callp (tc_runS (As := [.int z11, .int v2]) (rest := [.int v1]) E hSt hG (c_X3_wordWide l G τ z11 v2) ks_X3_wordWide ml_X3_151 ⟨rfl, rfl, Nat.le_of_ble_eq_true rfl, Nat.le_of_ble_eq_true rfl⟩ rfl hl.1 rfl (Nat.le_of_ble_eq_true rfl) ⟨Nat.zero_le _, Nat.zero_le _⟩ dX3_widestWord_22) (fun r12 pr12 => ?_)
        refine tc_max (rest := []) E hl.1 ml_X3_155 kn_max1 kn_math kn_max2 ⟨Nat.le_of_ble_eq_true rfl, Nat.le_of_ble_eq_true rfl⟩ ⟨Nat.zero_le _, Nat.zero_le _⟩ dX3_widestWord_25 (fun z13 ez13 => ?_)
        have tz13 := tn_max ez13
        refine lv_istore_n (lv' := [(1, .int z13), (0, .ref h0), (2, .int v2)]) hx hb dX3_widestWord_28 rfl hl (by decide) rfl (fun ls hl => ?_)
        obtain ⟨z14, ez14⟩ : ∃ y : Int32, y = v2 + (1) := ⟨_, rfl⟩
        refine lv_iinc (v := z14) (lv' := [(2, .int z14), (1, .int z13), (0, .ref h0)]) hx hb dX3_widestWord_29 hl (k := 2) rfl (by rw [ez14]; rfl) (by decide) rfl (fun ls hl => ?_)
        have tz14 := tn_add ez14 rfl kI_1 (by omega) (by omega)
        refine lv_goto (tgt := 4) hx hb dX3_widestWord_32 (by decide) ?_
        exact ih4 ls z13 z14 (lv_sub hl [2, 1, 0] rfl) (by omega) (by omega) (by omega)
  refine lv_iconst (v := 0) hx hb dX3_widestWord_0 (by decide) ?_
  refine lv_istore_n (lv' := [(1, .int 0), (0, .ref h0)]) hx hb dX3_widestWord_1 rfl hl (by decide) rfl (fun ls hl => ?_)
  refine lv_iconst (v := 0) hx hb dX3_widestWord_2 (by decide) ?_
  refine lv_istore_n (lv' := [(2, .int 0), (1, .int 0), (0, .ref h0)]) hx hb dX3_widestWord_3 rfl hl (by decide) rfl (fun ls hl => ?_)
  exact J4 ((2147483647 - (0 : Int32).toInt).toNat + 1) ls (0 : Int32) (0 : Int32) (lv_sub hl [2, 1, 0] rfl) (by decide) (by decide) (Nat.lt_succ_self _)

set_option maxHeartbeats 4000000 in
set_option maxRecDepth 100000 in
theorem c_X3_onlyKid (l : Launch) (G : tG) (τ : Nat → Nat) (h0 : Nat) (h1 : Nat) (t0 : τ h0 = 5) (t1 : τ h1 = 3) : Met l yX3_onlyKid (.code yX3_onlyKid cX3_onlyKid 2 (some (.object "LaidOutBoxes$Box")) :: tWS) (tRm 1 22) (va_Pc [.ref h0, .ref h1] (tPre G τ)) (tQpq (fun r => r = none ∨ ∃ y, r = some y ∧ τ y = 3)) 0 0 tNo := by
  refine tc_met (by decide) (Nat.le_of_ble_eq_true rfl) ?_
  intro p e s m below meth c E hSt hr hlk hG ls hl
  have hl : lv_has ls 2 [(0, .ref h0), (1, .ref h1)] := hl
  have hx := E.1
  have hb := E.2.1
  obtain ⟨H, eH⟩ : ∃ H, H = s.heap := ⟨_, rfl⟩
  obtain ⟨locs, eL⟩ : ∃ x : List Loc, x = [] := ⟨_, rfl⟩
  have hG : tGH G τ s H locs := by rw [eH, eL]; exact hG
  suffices hW : W p l e (tRm 1 22) s m ([.ref h0, .ref h1] : List Value).toArray below meth c H locs 0 0 (MQ below (tQpq (fun r => r = none ∨ ∃ y, r = some y ∧ τ y = 3)) ([.ref h0, .ref h1] : List Value).toArray s 0 0 tNo) (F0 m 0 ls []) by subst eH; subst eL; exact hW
  refine lv_aload_n hx hb dX3_onlyKid_0 rfl (lv_at hl 1 rfl) ?_
  refine tc_geti E hG t1 fi_X3_144 dX3_onlyKid_1 (fun z1 lz1 uz1 => ?_)
  refine lv_if_le (tgt := 19) hx hb dX3_onlyKid_4 (by decide) (fun c2 => ?_) (fun c2 => ?_)
  · skip
    have ic2 := tn_le rfl kI_0 c2
    refine lv_null hx hb dX3_onlyKid_19 ?_
    exact tc_pnret E hr hlk eH eL (Or.inl rfl) dX3_onlyKid_20
  · skip
    have ic2 := tn_nle rfl kI_0 c2
    refine lv_aload_n hx hb dX3_onlyKid_7 rfl (lv_at hl 0 rfl) ?_
    refine tc_getr E hG t0 fr_X3_9 dX3_onlyKid_8 (fun oa3 hoa3 => ?_)
    refine lv_aload_n hx hb dX3_onlyKid_11 rfl (lv_at hl 1 rfl) ?_
    refine lv_iconst (v := 0) hx hb dX3_onlyKid_12 (by decide) ?_
    refine tc_callpr (tc_runV (As := [.ref h1, .int 0]) (rest := []) E hSt hG (c_X8_kidOf l G τ oa3 h1 (0 : Int32) hoa3 t1 (by decide) (by decide)) hoa3 rv_2 kv_X8_kidOf ml_X3_147 ⟨rfl, rfl, Nat.le_of_ble_eq_true rfl, Nat.le_of_ble_eq_true rfl⟩ rfl hl.1 rfl (Nat.le_of_ble_eq_true rfl) ⟨Nat.zero_le _, Nat.zero_le _⟩ dX3_onlyKid_13) (fun r4 pr4 => ?_)
    refine lv_goto (tgt := 20) hx hb dX3_onlyKid_16 (by decide) ?_
    exact tc_pqret E hr hlk eH eL (Or.inr ⟨_, rfl, pr4⟩) dX3_onlyKid_20

set_option maxHeartbeats 4000000 in
set_option maxRecDepth 100000 in
theorem c_X3_isDue (l : Launch) (G : tG) (τ : Nat → Nat) (h0 : Nat) (x1 : Int32) (x2 : Int32) (t0 : τ h0 = 5) : Met l yX3_isDue (.code yX3_isDue cX3_isDue 3 (some .boolean) :: tWS) (tRm 1 21) (va_Pc [.ref h0, .int x1, .int x2] (tPre G τ)) (tQp (fun r => (0 ≤ r.toInt ∧ r.toInt ≤ 1) ∧ (r.toInt = 0 ∨ (0 ≤ x1.toInt ∧ x1.toInt ≤ 23)))) 0 0 tNo := by
  refine tc_met (by decide) (Nat.le_of_ble_eq_true rfl) ?_
  intro p e s m below meth c E hSt hr hlk hG ls hl
  have hl : lv_has ls 3 [(0, .ref h0), (1, .int x1), (2, .int x2)] := hl
  have hx := E.1
  have hb := E.2.1
  obtain ⟨H, eH⟩ : ∃ H, H = s.heap := ⟨_, rfl⟩
  obtain ⟨locs, eL⟩ : ∃ x : List Loc, x = [] := ⟨_, rfl⟩
  have hG : tGH G τ s H locs := by rw [eH, eL]; exact hG
  suffices hW : W p l e (tRm 1 21) s m ([.ref h0, .int x1, .int x2] : List Value).toArray below meth c H locs 0 0 (MQ below (tQp (fun r => (0 ≤ r.toInt ∧ r.toInt ≤ 1) ∧ (r.toInt = 0 ∨ (0 ≤ x1.toInt ∧ x1.toInt ≤ 23)))) ([.ref h0, .int x1, .int x2] : List Value).toArray s 0 0 tNo) (F0 m 0 ls []) by subst eH; subst eL; exact hW
  refine lv_aload_n hx hb dX3_isDue_0 rfl (lv_at hl 0 rfl) ?_
  refine tc_getrS E hG t0 fr_X3_9 dX3_isDue_1 (fun oa1 hoa1 fv2 => ?_)
  have fv2 := fv2 _ rfl
  refine lv_iload_n hx hb dX3_isDue_4 rfl (lv_at hl 1 rfl) ?_
  refine tc_callp (tc_runV (As := [.int x1]) (rest := []) E hSt hG (c_X8_has l G τ oa1 x1 hoa1) hoa1 rv_2 kv_X8_has ml_X3_80 ⟨rfl, rfl, Nat.le_of_ble_eq_true rfl, Nat.le_of_ble_eq_true rfl⟩ rfl hl.1 rfl (Nat.le_of_ble_eq_true rfl) ⟨Nat.zero_le _, Nat.zero_le _⟩ dX3_isDue_5) (fun r3 pr3 => ?_)
  have pr3 : (0 ≤ r3.toInt ∧ r3.toInt ≤ 1) ∧ (r3.toInt = 0 ∨ (0 ≤ x1.toInt ∧ x1.toInt ≤ 23)) := pr3
  refine lv_if_eq (tgt := 54) hx hb dX3_isDue_8 (by decide) (fun c4 => ?_) (fun c4 => ?_)
  · skip
    have ic4 := tn_eq rfl kI_0 c4
    refine lv_iconst (v := 0) hx hb dX3_isDue_54 (by decide) ?_
    exact tc_pret E hr hlk eH eL (t_nz (by decide) (by decide)).1 (show (0 ≤ (0 : Int32).toInt ∧ (0 : Int32).toInt ≤ 1) ∧ ((0 : Int32).toInt = 0 ∨ (0 ≤ x1.toInt ∧ x1.toInt ≤ 23)) by have kk := kI_0; omega) dX3_isDue_55
  · skip
    have ic4 := tn_ne rfl kI_0 c4
    refine lv_aload_n hx hb dX3_isDue_11 rfl (lv_at hl 0 rfl) ?_
    refine tc_seen E ff_X3_9 fv2 dX3_isDue_12 ?_
    refine tc_getiS E hG hoa1 fi_X3_48 dX3_isDue_15 (fun z5 lz5 uz5 fv6 => ?_)
    have fv6 := fv6 _ rfl
    refine lv_aload_n hx hb dX3_isDue_18 rfl (lv_at hl 0 rfl) ?_
    refine tc_seen E ff_X3_9 fv2 dX3_isDue_19 ?_
    refine tc_getiS E hG hoa1 fi_X3_51 dX3_isDue_22 (fun z7 lz7 uz7 fv8 => ?_)
    have fv8 := fv8 _ rfl
    refine lv_iand hx hb dX3_isDue_25 ?_
    refine lv_topi (fun z9 ez9 => ?_)
    refine lv_iload_n hx hb dX3_isDue_26 rfl (lv_at hl 1 rfl) ?_
    refine lv_iushr hx hb dX3_isDue_27 rfl ?_
    refine lv_topi (fun z10 ez10 => ?_)
    refine lv_iconst (v := 1) hx hb dX3_isDue_28 (by decide) ?_
    refine lv_iand hx hb dX3_isDue_29 ?_
    refine lv_topi (fun z11 ez11 => ?_)
    refine lv_iconst (v := 1) hx hb dX3_isDue_30 (by decide) ?_
    refine lv_icmp_ne (tgt := 54) hx hb dX3_isDue_31 (by decide) (fun c12 => ?_) (fun c12 => ?_)
    · skip
      have ic12 := tn_ne rfl kI_1 c12
      refine lv_iconst (v := 0) hx hb dX3_isDue_54 (by decide) ?_
      exact tc_pret E hr hlk eH eL (t_nz (by decide) (by decide)).1 (show (0 ≤ (0 : Int32).toInt ∧ (0 : Int32).toInt ≤ 1) ∧ ((0 : Int32).toInt = 0 ∨ (0 ≤ x1.toInt ∧ x1.toInt ≤ 23)) by have kk := kI_0; omega) dX3_isDue_55
    · skip
      have ic12 := tn_eq rfl kI_1 c12
      refine lv_aload_n hx hb dX3_isDue_34 rfl (lv_at hl 0 rfl) ?_
      refine tc_seen E ff_X3_9 fv2 dX3_isDue_35 ?_
      refine tc_getrS E hG hoa1 fr_X3_34 dX3_isDue_38 (fun oa13 hoa13 fv14 => ?_)
      have fv14 := fv14 _ rfl
      refine lv_iload_n hx hb dX3_isDue_41 rfl (lv_at hl 1 rfl) ?_
      refine tc_aald3S E hG hoa13 ta_10 (t_in (by omega) (by omega)) dX3_isDue_42 (fun oa15 hoa15 fv16 => ?_)
      refine tc_getiS E hG hoa15 fi_X3_84 dX3_isDue_43 (fun z17 lz17 uz17 fv18 => ?_)
      have fv18 := fv18 _ rfl
      refine lv_iload_n hx hb dX3_isDue_46 rfl (lv_at hl 2 rfl) ?_
      refine lv_icmp_ne (tgt := 54) hx hb dX3_isDue_47 (by decide) (fun c19 => ?_) (fun c19 => ?_)
      · skip
        have ic19 := tn_ne rfl rfl c19
        refine lv_iconst (v := 0) hx hb dX3_isDue_54 (by decide) ?_
        exact tc_pret E hr hlk eH eL (t_nz (by decide) (by decide)).1 (show (0 ≤ (0 : Int32).toInt ∧ (0 : Int32).toInt ≤ 1) ∧ ((0 : Int32).toInt = 0 ∨ (0 ≤ x1.toInt ∧ x1.toInt ≤ 23)) by have kk := kI_0; omega) dX3_isDue_55
      · skip
        have ic19 := tn_eq rfl rfl c19
        refine lv_iconst (v := 1) hx hb dX3_isDue_50 (by decide) ?_
        refine lv_goto (tgt := 55) hx hb dX3_isDue_51 (by decide) ?_
        exact tc_pret E hr hlk eH eL (t_nz (by decide) (by decide)).1 (show (0 ≤ (1 : Int32).toInt ∧ (1 : Int32).toInt ≤ 1) ∧ ((1 : Int32).toInt = 0 ∨ (0 ≤ x1.toInt ∧ x1.toInt ≤ 23)) by have kk := kI_1; omega) dX3_isDue_55

set_option maxHeartbeats 4000000 in
set_option maxRecDepth 100000 in
theorem c_X3_layText (l : Launch) (G : tG) (τ : Nat → Nat) (h0 : Nat) (h1 : Nat) (t0 : τ h0 = 5) (t1 : τ h1 = 3) : Met l yX3_layText (.code yX3_layText cX3_layText 7 none :: tWS) (tRm 2 44) (va_Pc [.ref h0, .ref h1] (tPre G τ)) (tQv G τ) 0 0 (tA τ) := by
  refine tc_met (by decide) (Nat.le_of_ble_eq_true rfl) ?_
  intro p e s m below meth c E hSt hr hlk hG ls hl
  have hl : lv_has ls 7 [(0, .ref h0), (1, .ref h1)] := hl
  have hx := E.1
  have hb := E.2.1
  obtain ⟨H, eH⟩ : ∃ H, H = s.heap := ⟨_, rfl⟩
  obtain ⟨locs, eL⟩ : ∃ x : List Loc, x = [] := ⟨_, rfl⟩
  have hG : tGH G τ s H locs := by rw [eH, eL]; exact hG
  suffices hW : W p l e (tRm 2 44) s m ([.ref h0, .ref h1] : List Value).toArray below meth c H locs 0 0 (MQ below (tQv G τ) ([.ref h0, .ref h1] : List Value).toArray s 0 0 (tA τ)) (F0 m 0 ls []) by subst eH; subst eL; exact hW
  clear eH eL
  have J10 : ∀ (n10 : Nat) (H : Heap) (locs : List Loc) (ls : Array Slot) (v2 : Int32) (v3 : Int32) (v4 : Int32) (v5 : Int32), tGH G τ s H locs → lv_has ls 7 [(1, .ref h1), (2, .int v2), (3, .int v3), (4, .int v4), (5, .int v5)] → 0 ≤ v2.toInt → 0 ≤ v5.toInt → (2147483647 - v5.toInt).toNat < n10 → W p l e (tRm 2 44) s m ([.ref h0, .ref h1] : List Value).toArray below meth c H locs 0 0 (MQ below (tQv G τ) ([.ref h0, .ref h1] : List Value).toArray s 0 0 (tA τ)) (F0 m 10 ls []) := by
    intro n10
    induction n10 with
    | zero => intro H locs ls v2 v3 v4 v5 hG hl b2 b5 hn10; exact absurd hn10 (Nat.not_lt_zero _)
    | succ n10 ih10 =>
      intro H locs ls v2 v3 v4 v5 hG hl b2 b5 hn10
      have J74 : ∀ (H : Heap) (locs : List Loc) (ls : Array Slot) (v2 : Int32) (v3 : Int32) (v4 : Int32) (v5 : Int32), tGH G τ s H locs → lv_has ls 7 [(1, .ref h1), (2, .int v2), (3, .int v3), (4, .int v4), (5, .int v5)] → 0 ≤ v2.toInt → 0 ≤ v5.toInt → v5.toInt ≤ 2147483646 → (2147483647 - v5.toInt).toNat < n10 + 1 → W p l e (tRm 2 44) s m ([.ref h0, .ref h1] : List Value).toArray below meth c H locs 0 0 (MQ below (tQv G τ) ([.ref h0, .ref h1] : List Value).toArray s 0 0 (tA τ)) (F0 m 74 ls []) := by
        intro H locs ls v2 v3 v4 v5 hG hl b2 b5 c5 hm10
        refine lv_iload_n hx hb dX3_layText_74 rfl (lv_at hl 1 rfl) ?_
        refine lv_iload hx hb dX3_layText_75 (lv_at hl 3 rfl) ?_
        refine tc_max (rest := []) E hl.1 ml_X3_155 kn_max1 kn_math kn_max2 ⟨Nat.le_of_ble_eq_true rfl, Nat.le_of_ble_eq_true rfl⟩ ⟨Nat.zero_le _, Nat.zero_le _⟩ dX3_layText_77 (fun z1 ez1 => ?_)
        have tz1 := tn_max ez1
        refine lv_istore_n (lv' := [(2, .int z1), (1, .ref h1), (3, .int v3), (4, .int v4), (5, .int v5)]) hx hb dX3_layText_80 rfl hl (by decide) rfl (fun ls hl => ?_)
        obtain ⟨z2, ez2⟩ : ∃ y : Int32, y = v5 + (1) := ⟨_, rfl⟩
        refine lv_iinc (v := z2) (lv' := [(5, .int z2), (2, .int z1), (1, .ref h1), (3, .int v3), (4, .int v4)]) hx hb dX3_layText_81 hl (k := 4) rfl (by rw [ez2]; rfl) (by decide) rfl (fun ls hl => ?_)
        have tz2 := tn_add ez2 rfl kI_1 (by omega) (by omega)
        refine lv_goto (tgt := 10) hx hb dX3_layText_84 (by decide) ?_
        exact ih10 H locs ls z1 v3 v4 z2 hG (lv_sub hl [2, 1, 3, 4, 0] rfl) (by omega) (by omega) (by omega)
      have J67 : ∀ (H : Heap) (locs : List Loc) (ls : Array Slot) (v2 : Int32) (v3 : Int32) (v5 : Int32) (v6 : Int32), tGH G τ s H locs → lv_has ls 7 [(1, .ref h1), (2, .int v2), (3, .int v3), (5, .int v5), (6, .int v6)] → 0 ≤ v2.toInt → 0 ≤ v5.toInt → v5.toInt ≤ 2147483646 → (2147483647 - v5.toInt).toNat < n10 + 1 → W p l e (tRm 2 44) s m ([.ref h0, .ref h1] : List Value).toArray below meth c H locs 0 0 (MQ below (tQv G τ) ([.ref h0, .ref h1] : List Value).toArray s 0 0 (tA τ)) (F0 m 67 ls []) := by
        intro H locs ls v2 v3 v5 v6 hG hl b2 b5 c5 hm10
        refine lv_iload hx hb dX3_layText_67 (lv_at hl 4 rfl) ?_
        refine lv_istore (lv' := [(4, .int v6), (1, .ref h1), (2, .int v2), (3, .int v3), (5, .int v5), (6, .int v6)]) hx hb dX3_layText_69 hl (by decide) rfl (fun ls hl => ?_)
        obtain ⟨z3, ez3⟩ : ∃ y : Int32, y = v3 + (1) := ⟨_, rfl⟩
        refine lv_iinc (v := z3) (lv' := [(3, .int z3), (4, .int v6), (1, .ref h1), (2, .int v2), (5, .int v5), (6, .int v6)]) hx hb dX3_layText_71 hl (k := 3) rfl (by rw [ez3]; rfl) (by decide) rfl (fun ls hl => ?_)
        exact J74 H locs ls v2 z3 v6 v5 hG (lv_sub hl [2, 3, 0, 1, 4] rfl) (by omega) (by omega) (by omega) (by omega)
      refine lv_iload hx hb dX3_layText_10 (lv_at hl 4 rfl) ?_
      refine lv_aload_n hx hb dX3_layText_12 rfl (lv_at hl 0 rfl) ?_
      refine tc_getr E hG t1 fr_X3_111 dX3_layText_13 (fun oa4 hoa4 => ?_)
      refine lv_iconst (v := 0) hx hb dX3_layText_16 (by decide) ?_
      refine tc_iald E hG hoa4 ta_11 (t_in (by decide) (by decide)) dX3_layText_17 (fun z5 lz5 uz5 => ?_)
      refine lv_icmp_ge (tgt := 87) hx hb dX3_layText_18 (by decide) (fun c6 => ?_) (fun c6 => ?_)
      · skip
        have ic6 := tn_le rfl rfl c6
        have y7 := t_any2 v5
        have y8 := t_any1 z5
        have y9 := t_any2 z5
        refine lv_aload_n hx hb dX3_layText_87 rfl (lv_at hl 0 rfl) ?_
        refine tc_getr E hG t1 fr_X3_57 dX3_layText_88 (fun oa10 hoa10 => ?_)
        refine lv_iload_n hx hb dX3_layText_91 rfl (lv_at hl 1 rfl) ?_
        refine lv_iconst (v := 2) hx hb dX3_layText_92 (by decide) ?_
        refine lv_iload_n hx hb dX3_layText_93 rfl (lv_at hl 2 rfl) ?_
        refine lv_imul hx hb dX3_layText_94 ?_
        refine lv_topi (fun z11 ez11 => ?_)
        refine tc_callv hG (tc_runV (As := [.int v2, .int z11]) (rest := []) E hSt hG (c_X2_sizeTo l G τ oa10 v2 z11 hoa10) hoa10 rv_4 kv_X2_sizeTo ml_X3_115 ⟨rfl, rfl, Nat.le_of_ble_eq_true rfl, Nat.le_of_ble_eq_true rfl⟩ rfl hl.1 rfl (Nat.le_of_ble_eq_true rfl) ⟨Nat.zero_le _, Nat.zero_le _⟩ dX3_layText_95) (fun H locs hG => ?_)
        refine lv_iload_n hx hb dX3_layText_98 rfl (lv_at hl 2 rfl) ?_
        refine lv_if_le (tgt := 110) hx hb dX3_layText_99 (by decide) (fun c13 => ?_) (fun c13 => ?_)
        · skip
          have ic13 := tn_le rfl kI_0 c13
          have y14 := t_any1 v3
          have y15 := t_any2 v3
          exact tc_vret E hr hlk hG dX3_layText_110
        · skip
          have ic13 := tn_nle rfl kI_0 c13
          have y16 := t_any1 v3
          have y17 := t_any2 v3
          refine lv_aload_n hx hb dX3_layText_102 rfl (lv_at hl 0 rfl) ?_
          refine tc_getr E hG t1 fr_X3_57 dX3_layText_103 (fun oa18 hoa18 => ?_)
          refine lv_iconst (v := 1) hx hb dX3_layText_106 (by decide) ?_
          refine tc_puti E hG hoa18 fp_X3_160 (t_any1 _) (t_any2 _) dX3_layText_107 (fun H locs hG => ?_)
          exact tc_vret E hr hlk hG dX3_layText_110
      · skip
        have ic6 := tn_nle rfl rfl c6
        have y19 := t_any2 v5
        have y20 := t_any1 z5
        have y21 := t_any2 z5
        refine lv_aload_n hx hb dX3_layText_21 rfl (lv_at hl 0 rfl) ?_
        refine tc_getr E hG t1 fr_X3_111 dX3_layText_22 (fun oa22 hoa22 => ?_)
        refine lv_iconst (v := 1) hx hb dX3_layText_25 (by decide) ?_
        refine tc_iald E hG hoa22 ta_11 (t_in (by decide) (by decide)) dX3_layText_26 (fun z23 lz23 uz23 => ?_)
        refine lv_iload hx hb dX3_layText_27 (lv_at hl 4 rfl) ?_
        refine tc_callp (tc_runS (As := [.int z23, .int v5]) (rest := []) E hSt hG (c_X3_wordWide l G τ z23 v5) ks_X3_wordWide ml_X3_151 ⟨rfl, rfl, Nat.le_of_ble_eq_true rfl, Nat.le_of_ble_eq_true rfl⟩ rfl hl.1 rfl (Nat.le_of_ble_eq_true rfl) ⟨Nat.zero_le _, Nat.zero_le _⟩ dX3_layText_29) (fun r24 pr24 => ?_)
        refine lv_istore (lv' := [(6, .int r24), (1, .ref h1), (2, .int v2), (3, .int v3), (4, .int v4), (5, .int v5)]) hx hb dX3_layText_32 hl (by decide) rfl (fun ls hl => ?_)
        refine lv_iload_n hx hb dX3_layText_34 rfl (lv_at hl 3 rfl) ?_
        refine lv_if_le (tgt := 67) hx hb dX3_layText_35 (by decide) (fun c25 => ?_) (fun c25 => ?_)
        · skip
          have ic25 := tn_le rfl kI_0 c25
          have y26 := t_any1 v3
          have y27 := t_any2 v3
          exact J67 H locs ls v2 v3 v5 r24 hG (lv_sub hl [1, 2, 3, 5, 0] rfl) (by omega) (by omega) (by omega) (by omega)
        · skip
          have ic25 := tn_nle rfl kI_0 c25
          have y28 := t_any1 v3
          have y29 := t_any2 v3
          refine lv_iload hx hb dX3_layText_38 (lv_at hl 4 rfl) ?_
          refine lv_iconst (v := 1) hx hb dX3_layText_40 (by decide) ?_
          refine lv_iadd hx hb dX3_layText_41 ?_
          refine lv_topi (fun z30 ez30 => ?_)
          refine lv_iload hx hb dX3_layText_42 (lv_at hl 0 rfl) ?_
          refine lv_iadd hx hb dX3_layText_44 ?_
          refine lv_topi (fun z31 ez31 => ?_)
          refine lv_aload_n hx hb dX3_layText_45 rfl (lv_at hl 1 rfl) ?_
          refine tc_getr E hG t1 fr_X3_57 dX3_layText_46 (fun oa32 hoa32 => ?_)
          refine tc_geti E hG hoa32 fi_X3_68 dX3_layText_49 (fun z33 lz33 uz33 => ?_)
          refine lv_icmp_gt (tgt := 67) hx hb dX3_layText_52 (by decide) (fun c34 => ?_) (fun c34 => ?_)
          · skip
            have ic34 := tn_lt rfl rfl c34
            have y35 := t_any1 z31
            have y36 := t_any2 z31
            have y37 := t_any1 z33
            have y38 := t_any2 z33
            exact J67 H locs ls v2 v3 v5 r24 hG (lv_sub hl [1, 2, 3, 5, 0] rfl) (by omega) (by omega) (by omega) (by omega)
          · skip
            have ic34 := tn_nlt rfl rfl c34
            have y39 := t_any1 z31
            have y40 := t_any2 z31
            have y41 := t_any1 z33
            have y42 := t_any2 z33
            refine lv_iload hx hb dX3_layText_55 (lv_at hl 4 rfl) ?_
            refine lv_iconst (v := 1) hx hb dX3_layText_57 (by decide) ?_
            refine lv_iload hx hb dX3_layText_58 (lv_at hl 0 rfl) ?_
            refine lv_iadd hx hb dX3_layText_60 ?_
            refine lv_topi (fun z43 ez43 => ?_)
            refine lv_iadd hx hb dX3_layText_61 ?_
            refine lv_topi (fun z44 ez44 => ?_)
            refine lv_istore (lv' := [(4, .int z44), (6, .int r24), (1, .ref h1), (2, .int v2), (3, .int v3), (5, .int v5)]) hx hb dX3_layText_62 hl (by decide) rfl (fun ls hl => ?_)
            refine lv_goto (tgt := 74) hx hb dX3_layText_64 (by decide) ?_
            exact J74 H locs ls v2 v3 z44 v5 hG (lv_sub hl [2, 3, 4, 0, 5] rfl) (by omega) (by omega) (by omega) (by omega)
  refine lv_iconst (v := 0) hx hb dX3_layText_0 (by decide) ?_
  refine lv_istore_n (lv' := [(2, .int 0), (0, .ref h0), (1, .ref h1)]) hx hb dX3_layText_1 rfl hl (by decide) rfl (fun ls hl => ?_)
  refine lv_iconst (v := 0) hx hb dX3_layText_2 (by decide) ?_
  refine lv_istore_n (lv' := [(3, .int 0), (2, .int 0), (0, .ref h0), (1, .ref h1)]) hx hb dX3_layText_3 rfl hl (by decide) rfl (fun ls hl => ?_)
  refine lv_iconst (v := 0) hx hb dX3_layText_4 (by decide) ?_
  refine lv_istore (lv' := [(4, .int 0), (3, .int 0), (2, .int 0), (0, .ref h0), (1, .ref h1)]) hx hb dX3_layText_5 hl (by decide) rfl (fun ls hl => ?_)
  refine lv_iconst (v := 0) hx hb dX3_layText_7 (by decide) ?_
  refine lv_istore (lv' := [(5, .int 0), (4, .int 0), (3, .int 0), (2, .int 0), (0, .ref h0), (1, .ref h1)]) hx hb dX3_layText_8 hl (by decide) rfl (fun ls hl => ?_)
  exact J10 ((2147483647 - (0 : Int32).toInt).toNat + 1) H locs ls (0 : Int32) (0 : Int32) (0 : Int32) (0 : Int32) hG (lv_sub hl [5, 3, 2, 1, 0] rfl) (by decide) (by decide) (Nat.lt_succ_self _)

set_option maxHeartbeats 4000000 in
set_option maxRecDepth 100000 in
theorem c_X3_hasSharers (l : Launch) (G : tG) (τ : Nat → Nat) (h0 : Nat) (h1 : Nat) (t0 : τ h0 = 5) (t1 : τ h1 = 3) : Met l yX3_hasSharers (.code yX3_hasSharers cX3_hasSharers 3 (some .boolean) :: tWS) (tRm 1 22) (va_Pc [.ref h0, .ref h1] (tPre G τ)) (tQp (fun r => 0 ≤ r.toInt ∧ r.toInt ≤ 1)) 0 0 tNo := by
  refine tc_met (by decide) (Nat.le_of_ble_eq_true rfl) ?_
  intro p e s m below meth c E hSt hr hlk hG ls hl
  have hl : lv_has ls 3 [(0, .ref h0), (1, .ref h1)] := hl
  have hx := E.1
  have hb := E.2.1
  obtain ⟨H, eH⟩ : ∃ H, H = s.heap := ⟨_, rfl⟩
  obtain ⟨locs, eL⟩ : ∃ x : List Loc, x = [] := ⟨_, rfl⟩
  have hG : tGH G τ s H locs := by rw [eH, eL]; exact hG
  suffices hW : W p l e (tRm 1 22) s m ([.ref h0, .ref h1] : List Value).toArray below meth c H locs 0 0 (MQ below (tQp (fun r => 0 ≤ r.toInt ∧ r.toInt ≤ 1)) ([.ref h0, .ref h1] : List Value).toArray s 0 0 tNo) (F0 m 0 ls []) by subst eH; subst eL; exact hW
  have J2 : ∀ (n2 : Nat) (ls : Array Slot) (v2 : Int32), lv_has ls 3 [(0, .ref h0), (1, .ref h1), (2, .int v2)] → 0 ≤ v2.toInt → v2.toInt ≤ 8 → (8 - v2.toInt).toNat < n2 → W p l e (tRm 1 22) s m ([.ref h0, .ref h1] : List Value).toArray below meth c H locs 0 0 (MQ below (tQp (fun r => 0 ≤ r.toInt ∧ r.toInt ≤ 1)) ([.ref h0, .ref h1] : List Value).toArray s 0 0 tNo) (F0 m 2 ls []) := by
    intro n2
    induction n2 with
    | zero => intro ls v2 hl b2 c2 hn2; exact absurd hn2 (Nat.not_lt_zero _)
    | succ n2 ih2 =>
      intro ls v2 hl b2 c2 hn2
      refine lv_iload_n hx hb dX3_hasSharers_2 rfl (lv_at hl 2 rfl) ?_
      refine lv_aload_n hx hb dX3_hasSharers_3 rfl (lv_at hl 1 rfl) ?_
      refine tc_geti E hG t1 fi_X3_144 dX3_hasSharers_4 (fun z1 lz1 uz1 => ?_)
      refine lv_icmp_ge (tgt := 33) hx hb dX3_hasSharers_7 (by decide) (fun c2 => ?_) (fun c2 => ?_)
      · skip
        have ic2 := tn_le rfl rfl c2
        refine lv_iconst (v := 0) hx hb dX3_hasSharers_33 (by decide) ?_
        exact tc_pret E hr hlk eH eL (t_nz (by decide) (by decide)).1 (show 0 ≤ (0 : Int32).toInt ∧ (0 : Int32).toInt ≤ 1 by have kk := kI_0; omega) dX3_hasSharers_34
      · skip
        have ic2 := tn_nle rfl rfl c2
        refine lv_aload_n hx hb dX3_hasSharers_10 rfl (lv_at hl 0 rfl) ?_
        refine tc_getr E hG t0 fr_X3_9 dX3_hasSharers_11 (fun oa3 hoa3 => ?_)
        refine lv_aload_n hx hb dX3_hasSharers_14 rfl (lv_at hl 1 rfl) ?_
        refine lv_iload_n hx hb dX3_hasSharers_15 rfl (lv_at hl 2 rfl) ?_
        refine tc_callpr (tc_runV (As := [.ref h1, .int v2]) (rest := []) E hSt hG (c_X8_kidOf l G τ oa3 h1 v2 hoa3 t1 (by omega) (by omega)) hoa3 rv_2 kv_X8_kidOf ml_X3_147 ⟨rfl, rfl, Nat.le_of_ble_eq_true rfl, Nat.le_of_ble_eq_true rfl⟩ rfl hl.1 rfl (Nat.le_of_ble_eq_true rfl) ⟨Nat.zero_le _, Nat.zero_le _⟩ dX3_hasSharers_16) (fun r4 pr4 => ?_)
        refine tc_geti E hG pr4 fi_X3_234 dX3_hasSharers_19 (fun z5 _ _ => ?_)
        refine lv_if_le (tgt := 27) hx hb dX3_hasSharers_22 (by decide) (fun c6 => ?_) (fun c6 => ?_)
        · skip
          have ic6 := tn_le rfl kI_0 c6
          obtain ⟨z7, ez7⟩ : ∃ y : Int32, y = v2 + (1) := ⟨_, rfl⟩
          refine lv_iinc (v := z7) (lv' := [(2, .int z7), (0, .ref h0), (1, .ref h1)]) hx hb dX3_hasSharers_27 hl (k := 2) rfl (by rw [ez7]; rfl) (by decide) rfl (fun ls hl => ?_)
          have tz7 := tn_add ez7 rfl kI_1 (by omega) (by omega)
          refine lv_goto (tgt := 2) hx hb dX3_hasSharers_30 (by decide) ?_
          exact ih2 ls z7 (lv_sub hl [1, 2, 0] rfl) (by omega) (by omega) (by omega)
        · skip
          have ic6 := tn_nle rfl kI_0 c6
          refine lv_iconst (v := 1) hx hb dX3_hasSharers_25 (by decide) ?_
          exact tc_pret E hr hlk eH eL (t_nz (by decide) (by decide)).1 (show 0 ≤ (1 : Int32).toInt ∧ (1 : Int32).toInt ≤ 1 by have kk := kI_1; omega) dX3_hasSharers_26
  refine lv_iconst (v := 0) hx hb dX3_hasSharers_0 (by decide) ?_
  refine lv_istore_n (lv' := [(2, .int 0), (0, .ref h0), (1, .ref h1)]) hx hb dX3_hasSharers_1 rfl hl (by decide) rfl (fun ls hl => ?_)
  exact J2 ((8 - (0 : Int32).toInt).toNat + 1) ls (0 : Int32) (lv_sub hl [1, 2, 0] rfl) (by decide) (by decide) (Nat.lt_succ_self _)

set_option maxHeartbeats 4000000 in
set_option maxRecDepth 100000 in
theorem c_X3_shareOut (l : Launch) (G : tG) (τ : Nat → Nat) (h0 : Nat) (h1 : Nat) (x2 : Int32) (t0 : τ h0 = 5) (t1 : τ h1 = 3) : Met l yX3_shareOut (.code yX3_shareOut cX3_shareOut 8 none :: tWS) (tRm 1 22) (va_Pc [.ref h0, .ref h1, .int x2] (tPre G τ)) (tQv G τ) 0 0 (tA τ) := by
  refine tc_met (by decide) (Nat.le_of_ble_eq_true rfl) ?_
  intro p e s m below meth c E hSt hr hlk hG ls hl
  have hl : lv_has ls 8 [(0, .ref h0), (1, .ref h1), (2, .int x2)] := hl
  have hx := E.1
  have hb := E.2.1
  obtain ⟨H, eH⟩ : ∃ H, H = s.heap := ⟨_, rfl⟩
  obtain ⟨locs, eL⟩ : ∃ x : List Loc, x = [] := ⟨_, rfl⟩
  have hG : tGH G τ s H locs := by rw [eH, eL]; exact hG
  suffices hW : W p l e (tRm 1 22) s m ([.ref h0, .ref h1, .int x2] : List Value).toArray below meth c H locs 0 0 (MQ below (tQv G τ) ([.ref h0, .ref h1, .int x2] : List Value).toArray s 0 0 (tA τ)) (F0 m 0 ls []) by subst eH; subst eL; exact hW
  clear eH eL
  have J153 : ∀ (n153 : Nat) (H : Heap) (locs : List Loc) (ls : Array Slot) (v5 : Int32) (v6 : Int32), tGH G τ s H locs → lv_has ls 8 [(0, .ref h0), (1, .ref h1), (5, .int v5), (6, .int v6)] → 0 ≤ v6.toInt → v6.toInt ≤ 8 → (8 - v6.toInt).toNat < n153 → W p l e (tRm 1 22) s m ([.ref h0, .ref h1, .int x2] : List Value).toArray below meth c H locs 0 0 (MQ below (tQv G τ) ([.ref h0, .ref h1, .int x2] : List Value).toArray s 0 0 (tA τ)) (F0 m 153 ls []) := by
    intro n153
    induction n153 with
    | zero => intro H locs ls v5 v6 hG hl b6 c6 hn153; exact absurd hn153 (Nat.not_lt_zero _)
    | succ n153 ih153 =>
      intro H locs ls v5 v6 hG hl b6 c6 hn153
      have J201 : ∀ (H : Heap) (locs : List Loc) (ls : Array Slot) (v5 : Int32) (v6 : Int32), tGH G τ s H locs → lv_has ls 8 [(0, .ref h0), (1, .ref h1), (5, .int v5), (6, .int v6)] → 0 ≤ v5.toInt → 0 ≤ v6.toInt → v6.toInt ≤ 7 → (8 - v6.toInt).toNat < n153 + 1 → W p l e (tRm 1 22) s m ([.ref h0, .ref h1, .int x2] : List Value).toArray below meth c H locs 0 0 (MQ below (tQv G τ) ([.ref h0, .ref h1, .int x2] : List Value).toArray s 0 0 (tA τ)) (F0 m 201 ls []) := by
        intro H locs ls v5 v6 hG hl b5 b6 c6 hm153
        obtain ⟨z1, ez1⟩ : ∃ y : Int32, y = v6 + (1) := ⟨_, rfl⟩
        refine lv_iinc (v := z1) (lv' := [(6, .int z1), (0, .ref h0), (1, .ref h1), (5, .int v5)]) hx hb dX3_shareOut_201 hl (k := 3) rfl (by rw [ez1]; rfl) (by decide) rfl (fun ls hl => ?_)
        have tz1 := tn_add ez1 rfl kI_1 (by omega) (by omega)
        refine lv_goto (tgt := 153) hx hb dX3_shareOut_204 (by decide) ?_
        exact ih153 H locs ls v5 z1 hG (lv_sub hl [1, 2, 3, 0] rfl) (by omega) (by omega) (by omega)
      refine lv_iload hx hb dX3_shareOut_153 (lv_at hl 3 rfl) ?_
      refine lv_aload_n hx hb dX3_shareOut_155 rfl (lv_at hl 1 rfl) ?_
      refine tc_geti E hG t1 fi_X3_144 dX3_shareOut_156 (fun z2 lz2 uz2 => ?_)
      refine lv_icmp_ge (tgt := 207) hx hb dX3_shareOut_159 (by decide) (fun c3 => ?_) (fun c3 => ?_)
      · skip
        have ic3 := tn_le rfl rfl c3
        exact tc_vret E hr hlk hG dX3_shareOut_207
      · skip
        have ic3 := tn_nle rfl rfl c3
        refine lv_iload hx hb dX3_shareOut_162 (lv_at hl 2 rfl) ?_
        refine lv_if_le (tgt := 207) hx hb dX3_shareOut_164 (by decide) (fun c4 => ?_) (fun c4 => ?_)
        · skip
          have ic4 := tn_le rfl kI_0 c4
          exact tc_vret E hr hlk hG dX3_shareOut_207
        · skip
          have ic4 := tn_nle rfl kI_0 c4
          refine lv_aload_n hx hb dX3_shareOut_167 rfl (lv_at hl 0 rfl) ?_
          refine tc_getr E hG t0 fr_X3_9 dX3_shareOut_168 (fun oa5 hoa5 => ?_)
          refine lv_aload_n hx hb dX3_shareOut_171 rfl (lv_at hl 1 rfl) ?_
          refine lv_iload hx hb dX3_shareOut_172 (lv_at hl 3 rfl) ?_
          refine tc_callpr (tc_runV (As := [.ref h1, .int v6]) (rest := []) E hSt hG (c_X8_kidOf l G τ oa5 h1 v6 hoa5 t1 (by omega) (by omega)) hoa5 rv_2 kv_X8_kidOf ml_X3_147 ⟨rfl, rfl, Nat.le_of_ble_eq_true rfl, Nat.le_of_ble_eq_true rfl⟩ rfl hl.1 rfl (Nat.le_of_ble_eq_true rfl) ⟨Nat.zero_le _, Nat.zero_le _⟩ dX3_shareOut_174) (fun r6 pr6 => ?_)
          refine lv_astore (lv' := [(7, .ref r6), (0, .ref h0), (1, .ref h1), (5, .int v5), (6, .int v6)]) hx hb dX3_shareOut_177 hl (by decide) rfl (fun ls hl => ?_)
          refine lv_aload hx hb dX3_shareOut_179 (lv_at hl 0 rfl) ?_
          refine tc_geti E hG pr6 fi_X3_250 dX3_shareOut_181 (fun z7 lz7 uz7 => ?_)
          refine lv_if_ne (tgt := 201) hx hb dX3_shareOut_184 (by decide) (fun c8 => ?_) (fun c8 => ?_)
          · skip
            have ic8 := tn_ne rfl kI_0 c8
            exact J201 H locs ls v5 v6 hG (lv_sub hl [1, 2, 3, 4] rfl) (by omega) (by omega) (by omega) (by omega)
          · skip
            have ic8 := tn_eq rfl kI_0 c8
            refine lv_aload hx hb dX3_shareOut_187 (lv_at hl 0 rfl) ?_
            refine lv_dup hx hb dX3_shareOut_189 rfl ?_
            refine tc_geti E hG pr6 fi_X3_247 dX3_shareOut_190 (fun z9 _ _ => ?_)
            refine lv_iconst (v := 1) hx hb dX3_shareOut_193 (by decide) ?_
            refine lv_iadd hx hb dX3_shareOut_194 ?_
            refine lv_topi (fun z10 ez10 => ?_)
            refine tc_puti E hG pr6 fp_X3_247 (t_any1 _) (t_any2 _) dX3_shareOut_195 (fun H locs hG => ?_)
            obtain ⟨z11, ez11⟩ : ∃ y : Int32, y = v5 + (-1) := ⟨_, rfl⟩
            refine lv_iinc (v := z11) (lv' := [(5, .int z11), (7, .ref r6), (0, .ref h0), (1, .ref h1), (6, .int v6)]) hx hb dX3_shareOut_198 hl (k := 3) rfl (by rw [ez11]; rfl) (by decide) rfl (fun ls hl => ?_)
            have y12 := t_any2 v5
            have tz11 := tn_add ez11 rfl kI_m1 (by omega) (by omega)
            exact J201 H locs ls z11 v6 hG (lv_sub hl [2, 3, 0, 4] rfl) (by omega) (by omega) (by omega) (by omega)
  have J89 : ∀ (n89 : Nat) (H : Heap) (locs : List Loc) (ls : Array Slot) (v3 : Int32) (v4 : Int32) (v5 : Int32) (v6 : Int32), tGH G τ s H locs → lv_has ls 8 [(0, .ref h0), (1, .ref h1), (3, .int v3), (4, .int v4), (5, .int v5), (6, .int v6)] → 0 ≤ v3.toInt → 0 ≤ v6.toInt → v6.toInt ≤ 8 → (8 - v6.toInt).toNat < n89 → W p l e (tRm 1 22) s m ([.ref h0, .ref h1, .int x2] : List Value).toArray below meth c H locs 0 0 (MQ below (tQv G τ) ([.ref h0, .ref h1, .int x2] : List Value).toArray s 0 0 (tA τ)) (F0 m 89 ls []) := by
    intro n89
    induction n89 with
    | zero => intro H locs ls v3 v4 v5 v6 hG hl b3 b6 c6 hn89; exact absurd hn89 (Nat.not_lt_zero _)
    | succ n89 ih89 =>
      intro H locs ls v3 v4 v5 v6 hG hl b3 b6 c6 hn89
      have J144 : ∀ (H : Heap) (locs : List Loc) (ls : Array Slot) (v3 : Int32) (v4 : Int32) (v5 : Int32) (v6 : Int32), tGH G τ s H locs → lv_has ls 8 [(0, .ref h0), (1, .ref h1), (3, .int v3), (4, .int v4), (5, .int v5), (6, .int v6)] → 0 ≤ v3.toInt → 0 ≤ v6.toInt → v6.toInt ≤ 7 → (8 - v6.toInt).toNat < n89 + 1 → W p l e (tRm 1 22) s m ([.ref h0, .ref h1, .int x2] : List Value).toArray below meth c H locs 0 0 (MQ below (tQv G τ) ([.ref h0, .ref h1, .int x2] : List Value).toArray s 0 0 (tA τ)) (F0 m 144 ls []) := by
        intro H locs ls v3 v4 v5 v6 hG hl b3 b6 c6 hm89
        obtain ⟨z13, ez13⟩ : ∃ y : Int32, y = v6 + (1) := ⟨_, rfl⟩
        refine lv_iinc (v := z13) (lv' := [(6, .int z13), (0, .ref h0), (1, .ref h1), (3, .int v3), (4, .int v4), (5, .int v5)]) hx hb dX3_shareOut_144 hl (k := 5) rfl (by rw [ez13]; rfl) (by decide) rfl (fun ls hl => ?_)
        have tz13 := tn_add ez13 rfl kI_1 (by omega) (by omega)
        refine lv_goto (tgt := 89) hx hb dX3_shareOut_147 (by decide) ?_
        exact ih89 H locs ls v3 v4 v5 z13 hG (lv_sub hl [1, 2, 3, 4, 5, 0] rfl) (by omega) (by omega) (by omega) (by omega)
      refine lv_iload hx hb dX3_shareOut_89 (lv_at hl 5 rfl) ?_
      refine lv_aload_n hx hb dX3_shareOut_91 rfl (lv_at hl 1 rfl) ?_
      refine tc_geti E hG t1 fi_X3_144 dX3_shareOut_92 (fun z14 lz14 uz14 => ?_)
      refine lv_icmp_ge (tgt := 150) hx hb dX3_shareOut_95 (by decide) (fun c15 => ?_) (fun c15 => ?_)
      · skip
        have ic15 := tn_le rfl rfl c15
        refine lv_iconst (v := 0) hx hb dX3_shareOut_150 (by decide) ?_
        refine lv_istore (lv' := [(6, .int 0), (0, .ref h0), (1, .ref h1), (3, .int v3), (4, .int v4), (5, .int v5)]) hx hb dX3_shareOut_151 hl (by decide) rfl (fun ls hl => ?_)
        exact J153 ((8 - (0 : Int32).toInt).toNat + 1) H locs ls v5 (0 : Int32) hG (lv_sub hl [1, 2, 5, 0] rfl) (by decide) (by decide) (Nat.lt_succ_self _)
      · skip
        have ic15 := tn_nle rfl rfl c15
        refine lv_aload_n hx hb dX3_shareOut_98 rfl (lv_at hl 0 rfl) ?_
        refine tc_getr E hG t0 fr_X3_9 dX3_shareOut_99 (fun oa16 hoa16 => ?_)
        refine lv_aload_n hx hb dX3_shareOut_102 rfl (lv_at hl 1 rfl) ?_
        refine lv_iload hx hb dX3_shareOut_103 (lv_at hl 5 rfl) ?_
        refine tc_callpr (tc_runV (As := [.ref h1, .int v6]) (rest := []) E hSt hG (c_X8_kidOf l G τ oa16 h1 v6 hoa16 t1 (by omega) (by omega)) hoa16 rv_2 kv_X8_kidOf ml_X3_147 ⟨rfl, rfl, Nat.le_of_ble_eq_true rfl, Nat.le_of_ble_eq_true rfl⟩ rfl hl.1 rfl (Nat.le_of_ble_eq_true rfl) ⟨Nat.zero_le _, Nat.zero_le _⟩ dX3_shareOut_105) (fun r17 pr17 => ?_)
        refine lv_astore (lv' := [(7, .ref r17), (0, .ref h0), (1, .ref h1), (3, .int v3), (4, .int v4), (5, .int v5), (6, .int v6)]) hx hb dX3_shareOut_108 hl (by decide) rfl (fun ls hl => ?_)
        refine lv_aload hx hb dX3_shareOut_110 (lv_at hl 0 rfl) ?_
        refine tc_geti E hG pr17 fi_X3_250 dX3_shareOut_112 (fun z18 lz18 uz18 => ?_)
        refine lv_if_ne (tgt := 144) hx hb dX3_shareOut_115 (by decide) (fun c19 => ?_) (fun c19 => ?_)
        · skip
          have ic19 := tn_ne rfl kI_0 c19
          exact J144 H locs ls v3 v4 v5 v6 hG (lv_sub hl [1, 2, 3, 4, 5, 6] rfl) (by omega) (by omega) (by omega) (by omega)
        · skip
          have ic19 := tn_eq rfl kI_0 c19
          refine lv_aload hx hb dX3_shareOut_118 (lv_at hl 0 rfl) ?_
          refine lv_iload_n hx hb dX3_shareOut_120 rfl (lv_at hl 3 rfl) ?_
          refine lv_aload hx hb dX3_shareOut_121 (lv_at hl 0 rfl) ?_
          refine tc_geti E hG pr17 fi_X3_234 dX3_shareOut_123 (fun z20 _ _ => ?_)
          refine lv_iload hx hb dX3_shareOut_126 (lv_at hl 4 rfl) ?_
          refine tc_callp (tc_runN (As := [.int v3, .int z20, .int v4]) (rest := [.ref r17]) E hSt hG (c_X9_timesBy l G τ v3 z20 v4) ks_X9_timesBy (List.mem_of_getElem? (i := 3) rfl) ⟨rfl, rfl, Nat.le_of_ble_eq_true rfl, Nat.le_of_ble_eq_true rfl⟩ rfl hl.1 rfl (Nat.le_of_ble_eq_true rfl) ⟨Nat.zero_le _, Nat.zero_le _⟩ dX3_shareOut_128) (fun r21 pr21 => ?_)
          refine tc_puti E hG pr17 fp_X3_247 (t_any1 _) (t_any2 _) dX3_shareOut_131 (fun H locs hG => ?_)
          refine lv_iload hx hb dX3_shareOut_134 (lv_at hl 5 rfl) ?_
          refine lv_aload hx hb dX3_shareOut_136 (lv_at hl 0 rfl) ?_
          refine tc_geti E hG pr17 fi_X3_247 dX3_shareOut_138 (fun z22 _ _ => ?_)
          refine lv_isub hx hb dX3_shareOut_141 ?_
          refine lv_topi (fun z23 ez23 => ?_)
          refine lv_istore (lv' := [(5, .int z23), (7, .ref r17), (0, .ref h0), (1, .ref h1), (3, .int v3), (4, .int v4), (6, .int v6)]) hx hb dX3_shareOut_142 hl (by decide) rfl (fun ls hl => ?_)
          exact J144 H locs ls v3 v4 z23 v6 hG (lv_sub hl [2, 3, 4, 5, 0, 6] rfl) (by omega) (by omega) (by omega) (by omega)
  have J8 : ∀ (n8 : Nat) (H : Heap) (locs : List Loc) (ls : Array Slot) (v3 : Int32) (v4 : Int32) (v5 : Int32), tGH G τ s H locs → lv_has ls 8 [(0, .ref h0), (1, .ref h1), (3, .int v3), (4, .int v4), (5, .int v5)] → 0 ≤ v5.toInt → v5.toInt ≤ 8 → (8 - v5.toInt).toNat < n8 → W p l e (tRm 1 22) s m ([.ref h0, .ref h1, .int x2] : List Value).toArray below meth c H locs 0 0 (MQ below (tQv G τ) ([.ref h0, .ref h1, .int x2] : List Value).toArray s 0 0 (tA τ)) (F0 m 8 ls []) := by
    intro n8
    induction n8 with
    | zero => intro H locs ls v3 v4 v5 hG hl b5 c5 hn8; exact absurd hn8 (Nat.not_lt_zero _)
    | succ n8 ih8 =>
      intro H locs ls v3 v4 v5 hG hl b5 c5 hn8
      have J68 : ∀ (H : Heap) (locs : List Loc) (ls : Array Slot) (v3 : Int32) (v5 : Int32) (vs0 : Int32) (vs1 : Int32), tGH G τ s H locs → lv_has ls 8 [(0, .ref h0), (1, .ref h1), (3, .int v3), (5, .int v5)] → 0 ≤ v5.toInt → v5.toInt ≤ 7 → (8 - v5.toInt).toNat < n8 + 1 → W p l e (tRm 1 22) s m ([.ref h0, .ref h1, .int x2] : List Value).toArray below meth c H locs 0 0 (MQ below (tQv G τ) ([.ref h0, .ref h1, .int x2] : List Value).toArray s 0 0 (tA τ)) (F0 m 68 ls [.int vs1, .int vs0]) := by
        intro H locs ls v3 v5 vs0 vs1 hG hl b5 c5 hm8
        refine lv_iadd hx hb dX3_shareOut_68 ?_
        refine lv_topi (fun z24 ez24 => ?_)
        refine lv_istore (lv' := [(4, .int z24), (0, .ref h0), (1, .ref h1), (3, .int v3), (5, .int v5)]) hx hb dX3_shareOut_69 hl (by decide) rfl (fun ls hl => ?_)
        obtain ⟨z25, ez25⟩ : ∃ y : Int32, y = v5 + (1) := ⟨_, rfl⟩
        refine lv_iinc (v := z25) (lv' := [(5, .int z25), (4, .int z24), (0, .ref h0), (1, .ref h1), (3, .int v3)]) hx hb dX3_shareOut_71 hl (k := 4) rfl (by rw [ez25]; rfl) (by decide) rfl (fun ls hl => ?_)
        have tz25 := tn_add ez25 rfl kI_1 (by omega) (by omega)
        refine lv_goto (tgt := 8) hx hb dX3_shareOut_74 (by decide) ?_
        exact ih8 H locs ls v3 z24 z25 hG (lv_sub hl [2, 3, 4, 1, 0] rfl) (by omega) (by omega) (by omega)
      have J47 : ∀ (H : Heap) (locs : List Loc) (ls : Array Slot) (v4 : Int32) (v5 : Int32) (a6 : Nat) (vs0 : Int32) (vs1 : Int32), tGH G τ s H locs → lv_has ls 8 [(0, .ref h0), (1, .ref h1), (4, .int v4), (5, .int v5), (6, .ref a6)] → 0 ≤ v5.toInt → v5.toInt ≤ 7 → τ a6 = 3 → (8 - v5.toInt).toNat < n8 + 1 → W p l e (tRm 1 22) s m ([.ref h0, .ref h1, .int x2] : List Value).toArray below meth c H locs 0 0 (MQ below (tQv G τ) ([.ref h0, .ref h1, .int x2] : List Value).toArray s 0 0 (tA τ)) (F0 m 47 ls [.int vs1, .int vs0]) := by
        intro H locs ls v4 v5 a6 vs0 vs1 hG hl b5 c5 e6 hm8
        refine lv_isub hx hb dX3_shareOut_47 ?_
        refine lv_topi (fun z26 ez26 => ?_)
        refine lv_istore_n (lv' := [(3, .int z26), (0, .ref h0), (1, .ref h1), (4, .int v4), (5, .int v5), (6, .ref a6)]) hx hb dX3_shareOut_48 rfl hl (by decide) rfl (fun ls hl => ?_)
        refine lv_iload hx hb dX3_shareOut_49 (lv_at hl 3 rfl) ?_
        refine lv_aload hx hb dX3_shareOut_51 (lv_at hl 5 rfl) ?_
        refine tc_geti E hG e6 fi_X3_250 dX3_shareOut_53 (fun z27 lz27 uz27 => ?_)
        refine lv_if_eq (tgt := 63) hx hb dX3_shareOut_56 (by decide) (fun c28 => ?_) (fun c28 => ?_)
        · skip
          have ic28 := tn_eq rfl kI_0 c28
          refine lv_aload hx hb dX3_shareOut_63 (lv_at hl 5 rfl) ?_
          refine tc_geti E hG e6 fi_X3_234 dX3_shareOut_65 (fun z29 _ _ => ?_)
          exact J68 H locs ls z26 v5 v4 z29 hG (lv_sub hl [1, 2, 0, 4] rfl) (by omega) (by omega) (by omega)
        · skip
          have ic28 := tn_ne rfl kI_0 c28
          refine lv_iconst (v := 0) hx hb dX3_shareOut_59 (by decide) ?_
          refine lv_goto (tgt := 68) hx hb dX3_shareOut_60 (by decide) ?_
          exact J68 H locs ls z26 v5 v4 (0 : Int32) hG (lv_sub hl [1, 2, 0, 4] rfl) (by omega) (by omega) (by omega)
      refine lv_iload hx hb dX3_shareOut_8 (lv_at hl 4 rfl) ?_
      refine lv_aload_n hx hb dX3_shareOut_10 rfl (lv_at hl 1 rfl) ?_
      refine tc_geti E hG t1 fi_X3_144 dX3_shareOut_11 (fun z30 lz30 uz30 => ?_)
      refine lv_icmp_ge (tgt := 77) hx hb dX3_shareOut_14 (by decide) (fun c31 => ?_) (fun c31 => ?_)
      · skip
        have ic31 := tn_le rfl rfl c31
        refine lv_iconst (v := 0) hx hb dX3_shareOut_77 (by decide) ?_
        refine lv_iload_n hx hb dX3_shareOut_78 rfl (lv_at hl 2 rfl) ?_
        refine tc_max (rest := []) E hl.1 ml_X3_155 kn_max1 kn_math kn_max2 ⟨Nat.le_of_ble_eq_true rfl, Nat.le_of_ble_eq_true rfl⟩ ⟨Nat.zero_le _, Nat.zero_le _⟩ dX3_shareOut_79 (fun z32 ez32 => ?_)
        have tz32 := tn_max ez32
        have kk33_ := kI_0
        refine lv_istore_n (lv' := [(3, .int z32), (0, .ref h0), (1, .ref h1), (4, .int v4), (5, .int v5)]) hx hb dX3_shareOut_82 rfl hl (by decide) rfl (fun ls hl => ?_)
        refine lv_iload_n hx hb dX3_shareOut_83 rfl (lv_at hl 0 rfl) ?_
        refine lv_istore (lv' := [(5, .int z32), (3, .int z32), (0, .ref h0), (1, .ref h1), (4, .int v4)]) hx hb dX3_shareOut_84 hl (by decide) rfl (fun ls hl => ?_)
        refine lv_iconst (v := 0) hx hb dX3_shareOut_86 (by decide) ?_
        refine lv_istore (lv' := [(6, .int 0), (5, .int z32), (3, .int z32), (0, .ref h0), (1, .ref h1), (4, .int v4)]) hx hb dX3_shareOut_87 hl (by decide) rfl (fun ls hl => ?_)
        exact J89 ((8 - (0 : Int32).toInt).toNat + 1) H locs ls z32 v4 z32 (0 : Int32) hG (lv_sub hl [3, 4, 2, 5, 1, 0] rfl) (by omega) (by decide) (by decide) (Nat.lt_succ_self _)
      · skip
        have ic31 := tn_nle rfl rfl c31
        refine lv_aload_n hx hb dX3_shareOut_17 rfl (lv_at hl 0 rfl) ?_
        refine tc_getr E hG t0 fr_X3_9 dX3_shareOut_18 (fun oa34 hoa34 => ?_)
        refine lv_aload_n hx hb dX3_shareOut_21 rfl (lv_at hl 1 rfl) ?_
        refine lv_iload hx hb dX3_shareOut_22 (lv_at hl 4 rfl) ?_
        refine tc_callpr (tc_runV (As := [.ref h1, .int v5]) (rest := []) E hSt hG (c_X8_kidOf l G τ oa34 h1 v5 hoa34 t1 (by omega) (by omega)) hoa34 rv_2 kv_X8_kidOf ml_X3_147 ⟨rfl, rfl, Nat.le_of_ble_eq_true rfl, Nat.le_of_ble_eq_true rfl⟩ rfl hl.1 rfl (Nat.le_of_ble_eq_true rfl) ⟨Nat.zero_le _, Nat.zero_le _⟩ dX3_shareOut_24) (fun r35 pr35 => ?_)
        refine lv_astore (lv' := [(6, .ref r35), (0, .ref h0), (1, .ref h1), (3, .int v3), (4, .int v4), (5, .int v5)]) hx hb dX3_shareOut_27 hl (by decide) rfl (fun ls hl => ?_)
        refine lv_iload_n hx hb dX3_shareOut_29 rfl (lv_at hl 3 rfl) ?_
        refine lv_aload hx hb dX3_shareOut_30 (lv_at hl 0 rfl) ?_
        refine tc_geti E hG pr35 fi_X3_250 dX3_shareOut_32 (fun z36 lz36 uz36 => ?_)
        refine lv_if_eq (tgt := 46) hx hb dX3_shareOut_35 (by decide) (fun c37 => ?_) (fun c37 => ?_)
        · skip
          have ic37 := tn_eq rfl kI_0 c37
          refine lv_iconst (v := 0) hx hb dX3_shareOut_46 (by decide) ?_
          exact J47 H locs ls v4 v5 (r35) v3 (0 : Int32) hG (lv_sub hl [1, 2, 4, 5, 0] rfl) (by omega) (by omega) pr35 (by omega)
        · skip
          have ic37 := tn_ne rfl kI_0 c37
          refine lv_aload hx hb dX3_shareOut_38 (lv_at hl 0 rfl) ?_
          refine tc_geti E hG pr35 fi_X3_247 dX3_shareOut_40 (fun z38 _ _ => ?_)
          refine lv_goto (tgt := 47) hx hb dX3_shareOut_43 (by decide) ?_
          exact J47 H locs ls v4 v5 (r35) v3 z38 hG (lv_sub hl [1, 2, 4, 5, 0] rfl) (by omega) (by omega) pr35 (by omega)
  refine lv_iload_n hx hb dX3_shareOut_0 rfl (lv_at hl 2 rfl) ?_
  refine lv_istore_n (lv' := [(3, .int x2), (0, .ref h0), (1, .ref h1), (2, .int x2)]) hx hb dX3_shareOut_1 rfl hl (by decide) rfl (fun ls hl => ?_)
  refine lv_iconst (v := 0) hx hb dX3_shareOut_2 (by decide) ?_
  refine lv_istore (lv' := [(4, .int 0), (3, .int x2), (0, .ref h0), (1, .ref h1), (2, .int x2)]) hx hb dX3_shareOut_3 hl (by decide) rfl (fun ls hl => ?_)
  refine lv_iconst (v := 0) hx hb dX3_shareOut_5 (by decide) ?_
  refine lv_istore (lv' := [(5, .int 0), (4, .int 0), (3, .int x2), (0, .ref h0), (1, .ref h1), (2, .int x2)]) hx hb dX3_shareOut_6 hl (by decide) rfl (fun ls hl => ?_)
  exact J8 ((8 - (0 : Int32).toInt).toNat + 1) H locs ls x2 (0 : Int32) (0 : Int32) hG (lv_sub hl [3, 4, 2, 1, 0] rfl) (by decide) (by decide) (Nat.lt_succ_self _)

set_option maxHeartbeats 4000000 in
set_option maxRecDepth 100000 in
theorem c_X3_freeze (l : Launch) (G : tG) (τ : Nat → Nat) (h0 : Nat) (h1 : Nat) (t0 : τ h0 = 5) (t1 : τ h1 = 3) : Met l yX3_freeze (.code yX3_freeze cX3_freeze 7 (some .int) :: tWS) (tRm 1 22) (va_Pc [.ref h0, .ref h1] (tPre G τ)) (tQi G τ (fun r => True)) 0 0 (tA τ) := by
  refine tc_met (by decide) (Nat.le_of_ble_eq_true rfl) ?_
  intro p e s m below meth c E hSt hr hlk hG ls hl
  have hl : lv_has ls 7 [(0, .ref h0), (1, .ref h1)] := hl
  have hx := E.1
  have hb := E.2.1
  obtain ⟨H, eH⟩ : ∃ H, H = s.heap := ⟨_, rfl⟩
  obtain ⟨locs, eL⟩ : ∃ x : List Loc, x = [] := ⟨_, rfl⟩
  have hG : tGH G τ s H locs := by rw [eH, eL]; exact hG
  suffices hW : W p l e (tRm 1 22) s m ([.ref h0, .ref h1] : List Value).toArray below meth c H locs 0 0 (MQ below (tQi G τ (fun r => True)) ([.ref h0, .ref h1] : List Value).toArray s 0 0 (tA τ)) (F0 m 0 ls []) by subst eH; subst eL; exact hW
  clear eH eL
  have J76 : ∀ (n76 : Nat) (H : Heap) (locs : List Loc) (ls : Array Slot) (v2 : Int32) (v3 : Int32) (v4 : Int32), tGH G τ s H locs → lv_has ls 7 [(0, .ref h0), (1, .ref h1), (2, .int v2), (3, .int v3), (4, .int v4)] → 0 ≤ v4.toInt → v4.toInt ≤ 8 → (8 - v4.toInt).toNat < n76 → W p l e (tRm 1 22) s m ([.ref h0, .ref h1] : List Value).toArray below meth c H locs 0 0 (MQ below (tQi G τ (fun r => True)) ([.ref h0, .ref h1] : List Value).toArray s 0 0 (tA τ)) (F0 m 76 ls []) := by
    intro n76
    induction n76 with
    | zero => intro H locs ls v2 v3 v4 hG hl b4 c4 hn76; exact absurd hn76 (Nat.not_lt_zero _)
    | succ n76 ih76 =>
      intro H locs ls v2 v3 v4 hG hl b4 c4 hn76
      have J177 : ∀ (H : Heap) (locs : List Loc) (ls : Array Slot) (v2 : Int32) (v3 : Int32) (v4 : Int32), tGH G τ s H locs → lv_has ls 7 [(0, .ref h0), (1, .ref h1), (2, .int v2), (3, .int v3), (4, .int v4)] → 0 ≤ v4.toInt → v4.toInt ≤ 7 → (8 - v4.toInt).toNat < n76 + 1 → W p l e (tRm 1 22) s m ([.ref h0, .ref h1] : List Value).toArray below meth c H locs 0 0 (MQ below (tQi G τ (fun r => True)) ([.ref h0, .ref h1] : List Value).toArray s 0 0 (tA τ)) (F0 m 177 ls []) := by
        intro H locs ls v2 v3 v4 hG hl b4 c4 hm76
        obtain ⟨z1, ez1⟩ : ∃ y : Int32, y = v4 + (1) := ⟨_, rfl⟩
        refine lv_iinc (v := z1) (lv' := [(4, .int z1), (0, .ref h0), (1, .ref h1), (2, .int v2), (3, .int v3)]) hx hb dX3_freeze_177 hl (k := 4) rfl (by rw [ez1]; rfl) (by decide) rfl (fun ls hl => ?_)
        have tz1 := tn_add ez1 rfl kI_1 (by omega) (by omega)
        refine lv_goto (tgt := 76) hx hb dX3_freeze_180 (by decide) ?_
        exact ih76 H locs ls v2 v3 z1 hG (lv_sub hl [1, 2, 3, 4, 0] rfl) (by omega) (by omega) (by omega)
      have J156 : ∀ (H : Heap) (locs : List Loc) (ls : Array Slot) (v2 : Int32) (v3 : Int32) (v4 : Int32) (a5 : Nat) (v6 : Int32), tGH G τ s H locs → lv_has ls 7 [(0, .ref h0), (1, .ref h1), (2, .int v2), (3, .int v3), (4, .int v4), (5, .ref a5), (6, .int v6)] → 0 ≤ v4.toInt → v4.toInt ≤ 7 → τ a5 = 3 → (8 - v4.toInt).toNat < n76 + 1 → W p l e (tRm 1 22) s m ([.ref h0, .ref h1] : List Value).toArray below meth c H locs 0 0 (MQ below (tQi G τ (fun r => True)) ([.ref h0, .ref h1] : List Value).toArray s 0 0 (tA τ)) (F0 m 156 ls []) := by
        intro H locs ls v2 v3 v4 a5 v6 hG hl b4 c4 e5 hm76
        refine lv_aload hx hb dX3_freeze_156 (lv_at hl 5 rfl) ?_
        refine lv_dup hx hb dX3_freeze_158 rfl ?_
        refine tc_geti E hG e5 fi_X3_247 dX3_freeze_159 (fun z2 _ _ => ?_)
        refine lv_iload hx hb dX3_freeze_162 (lv_at hl 6 rfl) ?_
        refine lv_iadd hx hb dX3_freeze_164 ?_
        refine lv_topi (fun z3 ez3 => ?_)
        refine tc_puti E hG e5 fp_X3_247 (t_any1 _) (t_any2 _) dX3_freeze_165 (fun H locs hG => ?_)
        refine lv_aload hx hb dX3_freeze_168 (lv_at hl 5 rfl) ?_
        refine lv_iconst (v := 1) hx hb dX3_freeze_170 (by decide) ?_
        refine tc_putz E hG e5 fp_X3_250 (by decide) (by decide) dX3_freeze_171 (fun H locs hG => ?_)
        obtain ⟨z4, ez4⟩ : ∃ y : Int32, y = v3 + (1) := ⟨_, rfl⟩
        refine lv_iinc (v := z4) (lv' := [(3, .int z4), (0, .ref h0), (1, .ref h1), (2, .int v2), (4, .int v4), (5, .ref a5), (6, .int v6)]) hx hb dX3_freeze_174 hl (k := 3) rfl (by rw [ez4]; rfl) (by decide) rfl (fun ls hl => ?_)
        exact J177 H locs ls v2 z4 v4 hG (lv_sub hl [1, 2, 3, 0, 4] rfl) (by omega) (by omega) (by omega)
      have J147 : ∀ (H : Heap) (locs : List Loc) (ls : Array Slot) (v2 : Int32) (v3 : Int32) (v4 : Int32) (a5 : Nat) (v6 : Int32), tGH G τ s H locs → lv_has ls 7 [(0, .ref h0), (1, .ref h1), (2, .int v2), (3, .int v3), (4, .int v4), (5, .ref a5), (6, .int v6)] → 0 ≤ v4.toInt → v4.toInt ≤ 7 → τ a5 = 3 → (8 - v4.toInt).toNat < n76 + 1 → W p l e (tRm 1 22) s m ([.ref h0, .ref h1] : List Value).toArray below meth c H locs 0 0 (MQ below (tQi G τ (fun r => True)) ([.ref h0, .ref h1] : List Value).toArray s 0 0 (tA τ)) (F0 m 147 ls []) := by
        intro H locs ls v2 v3 v4 a5 v6 hG hl b4 c4 e5 hm76
        refine lv_iload_n hx hb dX3_freeze_147 rfl (lv_at hl 2 rfl) ?_
        refine lv_if_ge (tgt := 177) hx hb dX3_freeze_148 (by decide) (fun c5 => ?_) (fun c5 => ?_)
        · skip
          have ic5 := tn_le kI_0 rfl c5
          exact J177 H locs ls v2 v3 v4 hG (lv_sub hl [0, 1, 2, 3, 4] rfl) (by omega) (by omega) (by omega)
        · skip
          have ic5 := tn_nle kI_0 rfl c5
          refine lv_iload hx hb dX3_freeze_151 (lv_at hl 6 rfl) ?_
          refine lv_if_ge (tgt := 177) hx hb dX3_freeze_153 (by decide) (fun c6 => ?_) (fun c6 => ?_)
          · skip
            have ic6 := tn_le kI_0 rfl c6
            exact J177 H locs ls v2 v3 v4 hG (lv_sub hl [0, 1, 2, 3, 4] rfl) (by omega) (by omega) (by omega)
          · skip
            have ic6 := tn_nle kI_0 rfl c6
            exact J156 H locs ls v2 v3 v4 (a5) v6 hG (lv_sub hl [0, 1, 2, 3, 4, 5, 6] rfl) (by omega) (by omega) e5 (by omega)
      refine lv_iload hx hb dX3_freeze_76 (lv_at hl 4 rfl) ?_
      refine lv_aload_n hx hb dX3_freeze_78 rfl (lv_at hl 1 rfl) ?_
      refine tc_geti E hG t1 fi_X3_144 dX3_freeze_79 (fun z7 lz7 uz7 => ?_)
      refine lv_icmp_ge (tgt := 183) hx hb dX3_freeze_82 (by decide) (fun c8 => ?_) (fun c8 => ?_)
      · skip
        have ic8 := tn_le rfl rfl c8
        refine lv_iload_n hx hb dX3_freeze_183 rfl (lv_at hl 3 rfl) ?_
        exact tc_iret E hr hlk hG trivial dX3_freeze_184
      · skip
        have ic8 := tn_nle rfl rfl c8
        refine lv_aload_n hx hb dX3_freeze_85 rfl (lv_at hl 0 rfl) ?_
        refine tc_getr E hG t0 fr_X3_9 dX3_freeze_86 (fun oa9 hoa9 => ?_)
        refine lv_aload_n hx hb dX3_freeze_89 rfl (lv_at hl 1 rfl) ?_
        refine lv_iload hx hb dX3_freeze_90 (lv_at hl 4 rfl) ?_
        refine tc_callpr (tc_runV (As := [.ref h1, .int v4]) (rest := []) E hSt hG (c_X8_kidOf l G τ oa9 h1 v4 hoa9 t1 (by omega) (by omega)) hoa9 rv_2 kv_X8_kidOf ml_X3_147 ⟨rfl, rfl, Nat.le_of_ble_eq_true rfl, Nat.le_of_ble_eq_true rfl⟩ rfl hl.1 rfl (Nat.le_of_ble_eq_true rfl) ⟨Nat.zero_le _, Nat.zero_le _⟩ dX3_freeze_92) (fun r10 pr10 => ?_)
        refine lv_astore (lv' := [(5, .ref r10), (0, .ref h0), (1, .ref h1), (2, .int v2), (3, .int v3), (4, .int v4)]) hx hb dX3_freeze_95 hl (by decide) rfl (fun ls hl => ?_)
        refine lv_aload hx hb dX3_freeze_97 (lv_at hl 0 rfl) ?_
        refine tc_geti E hG pr10 fi_X3_247 dX3_freeze_99 (fun z11 _ _ => ?_)
        refine lv_aload hx hb dX3_freeze_102 (lv_at hl 0 rfl) ?_
        refine tc_geti E hG pr10 fi_X3_237 dX3_freeze_104 (fun z12 _ _ => ?_)
        refine lv_aload hx hb dX3_freeze_107 (lv_at hl 0 rfl) ?_
        refine tc_geti E hG pr10 fi_X3_240 dX3_freeze_109 (fun z13 _ _ => ?_)
        refine tc_callp (tc_runS (As := [.int z13]) (rest := [.int z12, .int z11]) E hSt hG (c_X0_orNoEnd l G τ z13) ks_X0_orNoEnd ml_X3_183 ⟨rfl, rfl, Nat.le_of_ble_eq_true rfl, Nat.le_of_ble_eq_true rfl⟩ rfl hl.1 rfl (Nat.le_of_ble_eq_true rfl) ⟨Nat.zero_le _, Nat.zero_le _⟩ dX3_freeze_112) (fun r14 pr14 => ?_)
        refine tc_callp (tc_runN (As := [.int z11, .int z12, .int r14]) (rest := []) E hSt hG (c_X9_held l G τ z11 z12 r14) ks_X9_held (List.mem_of_getElem? (i := 2) rfl) ⟨rfl, rfl, Nat.le_of_ble_eq_true rfl, Nat.le_of_ble_eq_true rfl⟩ rfl hl.1 rfl (Nat.le_of_ble_eq_true rfl) ⟨Nat.zero_le _, Nat.zero_le _⟩ dX3_freeze_115) (fun r15 pr15 => ?_)
        refine lv_aload hx hb dX3_freeze_118 (lv_at hl 0 rfl) ?_
        refine tc_geti E hG pr10 fi_X3_247 dX3_freeze_120 (fun z16 _ _ => ?_)
        refine lv_isub hx hb dX3_freeze_123 ?_
        refine lv_topi (fun z17 ez17 => ?_)
        refine lv_istore (lv' := [(6, .int z17), (5, .ref r10), (0, .ref h0), (1, .ref h1), (2, .int v2), (3, .int v3), (4, .int v4)]) hx hb dX3_freeze_124 hl (by decide) rfl (fun ls hl => ?_)
        refine lv_aload hx hb dX3_freeze_126 (lv_at hl 1 rfl) ?_
        refine tc_geti E hG pr10 fi_X3_250 dX3_freeze_128 (fun z18 lz18 uz18 => ?_)
        refine lv_if_ne (tgt := 177) hx hb dX3_freeze_131 (by decide) (fun c19 => ?_) (fun c19 => ?_)
        · skip
          have ic19 := tn_ne rfl kI_0 c19
          exact J177 H locs ls v2 v3 v4 hG (lv_sub hl [2, 3, 4, 5, 6] rfl) (by omega) (by omega) (by omega)
        · skip
          have ic19 := tn_eq rfl kI_0 c19
          refine lv_iload_n hx hb dX3_freeze_134 rfl (lv_at hl 4 rfl) ?_
          refine lv_if_eq (tgt := 156) hx hb dX3_freeze_135 (by decide) (fun c20 => ?_) (fun c20 => ?_)
          · skip
            have ic20 := tn_eq rfl kI_0 c20
            exact J156 H locs ls v2 v3 v4 (r10) z17 hG (lv_sub hl [2, 3, 4, 5, 6, 1, 0] rfl) (by omega) (by omega) pr10 (by omega)
          · skip
            have ic20 := tn_ne rfl kI_0 c20
            refine lv_iload_n hx hb dX3_freeze_138 rfl (lv_at hl 4 rfl) ?_
            refine lv_if_le (tgt := 147) hx hb dX3_freeze_139 (by decide) (fun c21 => ?_) (fun c21 => ?_)
            · skip
              have ic21 := tn_le rfl kI_0 c21
              exact J147 H locs ls v2 v3 v4 (r10) z17 hG (lv_sub hl [2, 3, 4, 5, 6, 1, 0] rfl) (by omega) (by omega) pr10 (by omega)
            · skip
              have ic21 := tn_nle rfl kI_0 c21
              refine lv_iload hx hb dX3_freeze_142 (lv_at hl 0 rfl) ?_
              refine lv_if_gt (tgt := 156) hx hb dX3_freeze_144 (by decide) (fun c22 => ?_) (fun c22 => ?_)
              · skip
                have ic22 := tn_lt kI_0 rfl c22
                exact J156 H locs ls v2 v3 v4 (r10) z17 hG (lv_sub hl [2, 3, 4, 5, 6, 1, 0] rfl) (by omega) (by omega) pr10 (by omega)
              · skip
                have ic22 := tn_nlt kI_0 rfl c22
                exact J147 H locs ls v2 v3 v4 (r10) z17 hG (lv_sub hl [2, 3, 4, 5, 6, 1, 0] rfl) (by omega) (by omega) pr10 (by omega)
  have J4 : ∀ (n4 : Nat) (H : Heap) (locs : List Loc) (ls : Array Slot) (v2 : Int32) (v3 : Int32), tGH G τ s H locs → lv_has ls 7 [(0, .ref h0), (1, .ref h1), (2, .int v2), (3, .int v3)] → 0 ≤ v3.toInt → v3.toInt ≤ 8 → (8 - v3.toInt).toNat < n4 → W p l e (tRm 1 22) s m ([.ref h0, .ref h1] : List Value).toArray below meth c H locs 0 0 (MQ below (tQi G τ (fun r => True)) ([.ref h0, .ref h1] : List Value).toArray s 0 0 (tA τ)) (F0 m 4 ls []) := by
    intro n4
    induction n4 with
    | zero => intro H locs ls v2 v3 hG hl b3 c3 hn4; exact absurd hn4 (Nat.not_lt_zero _)
    | succ n4 ih4 =>
      intro H locs ls v2 v3 hG hl b3 c3 hn4
      have J63 : ∀ (H : Heap) (locs : List Loc) (ls : Array Slot) (v3 : Int32) (vs0 : Int32) (vs1 : Int32), tGH G τ s H locs → lv_has ls 7 [(0, .ref h0), (1, .ref h1), (3, .int v3)] → 0 ≤ v3.toInt → v3.toInt ≤ 7 → (8 - v3.toInt).toNat < n4 + 1 → W p l e (tRm 1 22) s m ([.ref h0, .ref h1] : List Value).toArray below meth c H locs 0 0 (MQ below (tQi G τ (fun r => True)) ([.ref h0, .ref h1] : List Value).toArray s 0 0 (tA τ)) (F0 m 63 ls [.int vs1, .int vs0]) := by
        intro H locs ls v3 vs0 vs1 hG hl b3 c3 hm4
        refine lv_iadd hx hb dX3_freeze_63 ?_
        refine lv_topi (fun z23 ez23 => ?_)
        refine lv_istore_n (lv' := [(2, .int z23), (0, .ref h0), (1, .ref h1), (3, .int v3)]) hx hb dX3_freeze_64 rfl hl (by decide) rfl (fun ls hl => ?_)
        obtain ⟨z24, ez24⟩ : ∃ y : Int32, y = v3 + (1) := ⟨_, rfl⟩
        refine lv_iinc (v := z24) (lv' := [(3, .int z24), (2, .int z23), (0, .ref h0), (1, .ref h1)]) hx hb dX3_freeze_65 hl (k := 3) rfl (by rw [ez24]; rfl) (by decide) rfl (fun ls hl => ?_)
        have tz24 := tn_add ez24 rfl kI_1 (by omega) (by omega)
        refine lv_goto (tgt := 4) hx hb dX3_freeze_68 (by decide) ?_
        exact ih4 H locs ls z23 z24 hG (lv_sub hl [2, 3, 1, 0] rfl) (by omega) (by omega) (by omega)
      refine lv_iload_n hx hb dX3_freeze_4 rfl (lv_at hl 3 rfl) ?_
      refine lv_aload_n hx hb dX3_freeze_5 rfl (lv_at hl 1 rfl) ?_
      refine tc_geti E hG t1 fi_X3_144 dX3_freeze_6 (fun z25 lz25 uz25 => ?_)
      refine lv_icmp_ge (tgt := 71) hx hb dX3_freeze_9 (by decide) (fun c26 => ?_) (fun c26 => ?_)
      · skip
        have ic26 := tn_le rfl rfl c26
        refine lv_iconst (v := 0) hx hb dX3_freeze_71 (by decide) ?_
        refine lv_istore_n (lv' := [(3, .int 0), (0, .ref h0), (1, .ref h1), (2, .int v2)]) hx hb dX3_freeze_72 rfl hl (by decide) rfl (fun ls hl => ?_)
        refine lv_iconst (v := 0) hx hb dX3_freeze_73 (by decide) ?_
        refine lv_istore (lv' := [(4, .int 0), (3, .int 0), (0, .ref h0), (1, .ref h1), (2, .int v2)]) hx hb dX3_freeze_74 hl (by decide) rfl (fun ls hl => ?_)
        exact J76 ((8 - (0 : Int32).toInt).toNat + 1) H locs ls v2 (0 : Int32) (0 : Int32) hG (lv_sub hl [2, 3, 4, 1, 0] rfl) (by decide) (by decide) (Nat.lt_succ_self _)
      · skip
        have ic26 := tn_nle rfl rfl c26
        refine lv_aload_n hx hb dX3_freeze_12 rfl (lv_at hl 0 rfl) ?_
        refine tc_getr E hG t0 fr_X3_9 dX3_freeze_13 (fun oa27 hoa27 => ?_)
        refine lv_aload_n hx hb dX3_freeze_16 rfl (lv_at hl 1 rfl) ?_
        refine lv_iload_n hx hb dX3_freeze_17 rfl (lv_at hl 3 rfl) ?_
        refine tc_callpr (tc_runV (As := [.ref h1, .int v3]) (rest := []) E hSt hG (c_X8_kidOf l G τ oa27 h1 v3 hoa27 t1 (by omega) (by omega)) hoa27 rv_2 kv_X8_kidOf ml_X3_147 ⟨rfl, rfl, Nat.le_of_ble_eq_true rfl, Nat.le_of_ble_eq_true rfl⟩ rfl hl.1 rfl (Nat.le_of_ble_eq_true rfl) ⟨Nat.zero_le _, Nat.zero_le _⟩ dX3_freeze_18) (fun r28 pr28 => ?_)
        refine lv_astore (lv' := [(4, .ref r28), (0, .ref h0), (1, .ref h1), (2, .int v2), (3, .int v3)]) hx hb dX3_freeze_21 hl (by decide) rfl (fun ls hl => ?_)
        refine lv_iload_n hx hb dX3_freeze_23 rfl (lv_at hl 3 rfl) ?_
        refine lv_aload hx hb dX3_freeze_24 (lv_at hl 0 rfl) ?_
        refine tc_geti E hG pr28 fi_X3_250 dX3_freeze_26 (fun z29 lz29 uz29 => ?_)
        refine lv_if_eq (tgt := 36) hx hb dX3_freeze_29 (by decide) (fun c30 => ?_) (fun c30 => ?_)
        · skip
          have ic30 := tn_eq rfl kI_0 c30
          refine lv_aload hx hb dX3_freeze_36 (lv_at hl 0 rfl) ?_
          refine tc_geti E hG pr28 fi_X3_247 dX3_freeze_38 (fun z31 _ _ => ?_)
          refine lv_aload hx hb dX3_freeze_41 (lv_at hl 0 rfl) ?_
          refine tc_geti E hG pr28 fi_X3_237 dX3_freeze_43 (fun z32 _ _ => ?_)
          refine lv_aload hx hb dX3_freeze_46 (lv_at hl 0 rfl) ?_
          refine tc_geti E hG pr28 fi_X3_240 dX3_freeze_48 (fun z33 _ _ => ?_)
          refine tc_callp (tc_runS (As := [.int z33]) (rest := [.int z32, .int z31, .int v2]) E hSt hG (c_X0_orNoEnd l G τ z33) ks_X0_orNoEnd ml_X3_183 ⟨rfl, rfl, Nat.le_of_ble_eq_true rfl, Nat.le_of_ble_eq_true rfl⟩ rfl hl.1 rfl (Nat.le_of_ble_eq_true rfl) ⟨Nat.zero_le _, Nat.zero_le _⟩ dX3_freeze_51) (fun r34 pr34 => ?_)
          refine tc_callp (tc_runN (As := [.int z31, .int z32, .int r34]) (rest := [.int v2]) E hSt hG (c_X9_held l G τ z31 z32 r34) ks_X9_held (List.mem_of_getElem? (i := 2) rfl) ⟨rfl, rfl, Nat.le_of_ble_eq_true rfl, Nat.le_of_ble_eq_true rfl⟩ rfl hl.1 rfl (Nat.le_of_ble_eq_true rfl) ⟨Nat.zero_le _, Nat.zero_le _⟩ dX3_freeze_54) (fun r35 pr35 => ?_)
          refine lv_aload hx hb dX3_freeze_57 (lv_at hl 0 rfl) ?_
          refine tc_geti E hG pr28 fi_X3_247 dX3_freeze_59 (fun z36 _ _ => ?_)
          refine lv_isub hx hb dX3_freeze_62 ?_
          refine lv_topi (fun z37 ez37 => ?_)
          exact J63 H locs ls v3 v2 z37 hG (lv_sub hl [1, 2, 4] rfl) (by omega) (by omega) (by omega)
        · skip
          have ic30 := tn_ne rfl kI_0 c30
          refine lv_iconst (v := 0) hx hb dX3_freeze_32 (by decide) ?_
          refine lv_goto (tgt := 63) hx hb dX3_freeze_33 (by decide) ?_
          exact J63 H locs ls v3 v2 (0 : Int32) hG (lv_sub hl [1, 2, 4] rfl) (by omega) (by omega) (by omega)
  refine lv_iconst (v := 0) hx hb dX3_freeze_0 (by decide) ?_
  refine lv_istore_n (lv' := [(2, .int 0), (0, .ref h0), (1, .ref h1)]) hx hb dX3_freeze_1 rfl hl (by decide) rfl (fun ls hl => ?_)
  refine lv_iconst (v := 0) hx hb dX3_freeze_2 (by decide) ?_
  refine lv_istore_n (lv' := [(3, .int 0), (2, .int 0), (0, .ref h0), (1, .ref h1)]) hx hb dX3_freeze_3 rfl hl (by decide) rfl (fun ls hl => ?_)
  exact J4 ((8 - (0 : Int32).toInt).toNat + 1) H locs ls (0 : Int32) (0 : Int32) hG (lv_sub hl [2, 3, 1, 0] rfl) (by decide) (by decide) (Nat.lt_succ_self _)

set_option maxHeartbeats 4000000 in
set_option maxRecDepth 100000 in
theorem c_X3_roundsOf (l : Launch) (G : tG) (τ : Nat → Nat) (h0 : Nat) (h1 : Nat) (x2 : Int32) (t0 : τ h0 = 5) (t1 : τ h1 = 3) : Met l yX3_roundsOf (.code yX3_roundsOf cX3_roundsOf 6 (some .int) :: tWS) (tRm 2 49) (va_Pc [.ref h0, .ref h1, .int x2] (tPre G τ)) (tQi G τ (fun r => True)) 0 0 (tA τ) := by
  refine tc_met (by decide) (Nat.le_of_ble_eq_true rfl) ?_
  intro p e s m below meth c E hSt hr hlk hG ls hl
  have hl : lv_has ls 6 [(0, .ref h0), (1, .ref h1), (2, .int x2)] := hl
  have hx := E.1
  have hb := E.2.1
  obtain ⟨H, eH⟩ : ∃ H, H = s.heap := ⟨_, rfl⟩
  obtain ⟨locs, eL⟩ : ∃ x : List Loc, x = [] := ⟨_, rfl⟩
  have hG : tGH G τ s H locs := by rw [eH, eL]; exact hG
  suffices hW : W p l e (tRm 2 49) s m ([.ref h0, .ref h1, .int x2] : List Value).toArray below meth c H locs 0 0 (MQ below (tQi G τ (fun r => True)) ([.ref h0, .ref h1, .int x2] : List Value).toArray s 0 0 (tA τ)) (F0 m 0 ls []) by subst eH; subst eL; exact hW
  clear eH eL
  have J75 : ∀ (n75 : Nat) (H : Heap) (locs : List Loc) (ls : Array Slot) (v3 : Int32) (v4 : Int32), tGH G τ s H locs → lv_has ls 6 [(0, .ref h0), (1, .ref h1), (2, .int x2), (3, .int v3), (4, .int v4)] → 0 ≤ v4.toInt → v4.toInt ≤ 8 → (8 - v4.toInt).toNat < n75 → W p l e (tRm 2 49) s m ([.ref h0, .ref h1, .int x2] : List Value).toArray below meth c H locs 0 0 (MQ below (tQi G τ (fun r => True)) ([.ref h0, .ref h1, .int x2] : List Value).toArray s 0 0 (tA τ)) (F0 m 75 ls []) := by
    intro n75
    induction n75 with
    | zero => intro H locs ls v3 v4 hG hl b4 c4 hn75; exact absurd hn75 (Nat.not_lt_zero _)
    | succ n75 ih75 =>
      intro H locs ls v3 v4 hG hl b4 c4 hn75
      refine lv_iload hx hb dX3_roundsOf_75 (lv_at hl 4 rfl) ?_
      refine lv_bipush (v := 8) hx hb dX3_roundsOf_77 (by decide) ?_
      refine lv_icmp_ge (tgt := 106) hx hb dX3_roundsOf_79 (by decide) (fun c1 => ?_) (fun c1 => ?_)
      · skip
        have ic1 := tn_le kI_8 rfl c1
        refine lv_iload hx hb dX3_roundsOf_106 (lv_at hl 4 rfl) ?_
        exact tc_iret E hr hlk hG trivial dX3_roundsOf_108
      · skip
        have ic1 := tn_nle kI_8 rfl c1
        refine lv_iload_n hx hb dX3_roundsOf_82 rfl (lv_at hl 3 rfl) ?_
        refine lv_if_le (tgt := 106) hx hb dX3_roundsOf_83 (by decide) (fun c2 => ?_) (fun c2 => ?_)
        · skip
          have ic2 := tn_le rfl kI_0 c2
          refine lv_iload hx hb dX3_roundsOf_106 (lv_at hl 4 rfl) ?_
          exact tc_iret E hr hlk hG trivial dX3_roundsOf_108
        · skip
          have ic2 := tn_nle rfl kI_0 c2
          refine lv_aload_n hx hb dX3_roundsOf_86 rfl (lv_at hl 0 rfl) ?_
          refine lv_aload_n hx hb dX3_roundsOf_87 rfl (lv_at hl 1 rfl) ?_
          refine lv_iload_n hx hb dX3_roundsOf_88 rfl (lv_at hl 2 rfl) ?_
          refine tc_callv hG (tc_runV (As := [.ref h1, .int x2]) (rest := []) E hSt hG (c_X3_shareOut l G τ h0 h1 x2 t0 t1) t0 rv_5 kv_X3_shareOut ml_X3_254 ⟨rfl, rfl, Nat.le_of_ble_eq_true rfl, Nat.le_of_ble_eq_true rfl⟩ rfl hl.1 rfl (Nat.le_of_ble_eq_true rfl) ⟨Nat.zero_le _, Nat.zero_le _⟩ dX3_roundsOf_89) (fun H locs hG => ?_)
          refine lv_iload_n hx hb dX3_roundsOf_92 rfl (lv_at hl 3 rfl) ?_
          refine lv_aload_n hx hb dX3_roundsOf_93 rfl (lv_at hl 0 rfl) ?_
          refine lv_aload_n hx hb dX3_roundsOf_94 rfl (lv_at hl 1 rfl) ?_
          refine tc_calli hG (tc_runV (As := [.ref h1]) (rest := [.int v3]) E hSt hG (c_X3_freeze l G τ h0 h1 t0 t1) t0 rv_5 kv_X3_freeze ml_X3_257 ⟨rfl, rfl, Nat.le_of_ble_eq_true rfl, Nat.le_of_ble_eq_true rfl⟩ rfl hl.1 rfl (Nat.le_of_ble_eq_true rfl) ⟨Nat.zero_le _, Nat.zero_le _⟩ dX3_roundsOf_95) (fun r4 H locs pr4 hG => ?_)
          refine lv_isub hx hb dX3_roundsOf_98 ?_
          refine lv_topi (fun z5 ez5 => ?_)
          refine lv_istore_n (lv' := [(3, .int z5), (0, .ref h0), (1, .ref h1), (2, .int x2), (4, .int v4)]) hx hb dX3_roundsOf_99 rfl hl (by decide) rfl (fun ls hl => ?_)
          obtain ⟨z6, ez6⟩ : ∃ y : Int32, y = v4 + (1) := ⟨_, rfl⟩
          refine lv_iinc (v := z6) (lv' := [(4, .int z6), (3, .int z5), (0, .ref h0), (1, .ref h1), (2, .int x2)]) hx hb dX3_roundsOf_100 hl (k := 4) rfl (by rw [ez6]; rfl) (by decide) rfl (fun ls hl => ?_)
          have tz6 := tn_add ez6 rfl kI_1 (by omega) (by omega)
          refine lv_goto (tgt := 75) hx hb dX3_roundsOf_103 (by decide) ?_
          exact ih75 H locs ls z5 z6 hG (lv_sub hl [2, 3, 4, 1, 0] rfl) (by omega) (by omega) (by omega)
  have J5 : ∀ (n5 : Nat) (H : Heap) (locs : List Loc) (ls : Array Slot) (v3 : Int32) (v4 : Int32), tGH G τ s H locs → lv_has ls 6 [(0, .ref h0), (1, .ref h1), (2, .int x2), (3, .int v3), (4, .int v4)] → 0 ≤ v4.toInt → v4.toInt ≤ 8 → (8 - v4.toInt).toNat < n5 → W p l e (tRm 2 49) s m ([.ref h0, .ref h1, .int x2] : List Value).toArray below meth c H locs 0 0 (MQ below (tQi G τ (fun r => True)) ([.ref h0, .ref h1, .int x2] : List Value).toArray s 0 0 (tA τ)) (F0 m 5 ls []) := by
    intro n5
    induction n5 with
    | zero => intro H locs ls v3 v4 hG hl b4 c4 hn5; exact absurd hn5 (Nat.not_lt_zero _)
    | succ n5 ih5 =>
      intro H locs ls v3 v4 hG hl b4 c4 hn5
      have J64 : ∀ (H : Heap) (locs : List Loc) (ls : Array Slot) (v4 : Int32) (vs0 : Int32) (vs1 : Int32), tGH G τ s H locs → lv_has ls 6 [(0, .ref h0), (1, .ref h1), (2, .int x2), (4, .int v4)] → 0 ≤ v4.toInt → v4.toInt ≤ 7 → 0 ≤ vs1.toInt → vs1.toInt ≤ 1 → (8 - v4.toInt).toNat < n5 + 1 → W p l e (tRm 2 49) s m ([.ref h0, .ref h1, .int x2] : List Value).toArray below meth c H locs 0 0 (MQ below (tQi G τ (fun r => True)) ([.ref h0, .ref h1, .int x2] : List Value).toArray s 0 0 (tA τ)) (F0 m 64 ls [.int vs1, .int vs0]) := by
        intro H locs ls v4 vs0 vs1 hG hl b4 c4 bs1 cs1 hm5
        refine lv_iadd hx hb dX3_roundsOf_64 ?_
        refine lv_topi (fun z7 ez7 => ?_)
        refine lv_istore_n (lv' := [(3, .int z7), (0, .ref h0), (1, .ref h1), (2, .int x2), (4, .int v4)]) hx hb dX3_roundsOf_65 rfl hl (by decide) rfl (fun ls hl => ?_)
        obtain ⟨z8, ez8⟩ : ∃ y : Int32, y = v4 + (1) := ⟨_, rfl⟩
        refine lv_iinc (v := z8) (lv' := [(4, .int z8), (3, .int z7), (0, .ref h0), (1, .ref h1), (2, .int x2)]) hx hb dX3_roundsOf_66 hl (k := 4) rfl (by rw [ez8]; rfl) (by decide) rfl (fun ls hl => ?_)
        have tz8 := tn_add ez8 rfl kI_1 (by omega) (by omega)
        refine lv_goto (tgt := 5) hx hb dX3_roundsOf_69 (by decide) ?_
        exact ih5 H locs ls z7 z8 hG (lv_sub hl [2, 3, 4, 1, 0] rfl) (by omega) (by omega) (by omega)
      have J47 : ∀ (H : Heap) (locs : List Loc) (ls : Array Slot) (v3 : Int32) (v4 : Int32) (a5 : Nat) (as0 : Nat) (vs1 : Int32), tGH G τ s H locs → lv_has ls 6 [(0, .ref h0), (1, .ref h1), (2, .int x2), (3, .int v3), (4, .int v4), (5, .ref a5)] → 0 ≤ v4.toInt → v4.toInt ≤ 7 → τ a5 = 3 → τ as0 = 3 → 0 ≤ vs1.toInt → vs1.toInt ≤ 1 → (8 - v4.toInt).toNat < n5 + 1 → W p l e (tRm 2 49) s m ([.ref h0, .ref h1, .int x2] : List Value).toArray below meth c H locs 0 0 (MQ below (tQi G τ (fun r => True)) ([.ref h0, .ref h1, .int x2] : List Value).toArray s 0 0 (tA τ)) (F0 m 47 ls [.int vs1, .ref as0]) := by
        intro H locs ls v3 v4 a5 as0 vs1 hG hl b4 c4 e5 es0 bs1 cs1 hm5
        refine tc_putz E hG es0 fp_X3_250 (by omega) (by omega) dX3_roundsOf_47 (fun H locs hG => ?_)
        refine lv_iload_n hx hb dX3_roundsOf_50 rfl (lv_at hl 3 rfl) ?_
        refine lv_aload hx hb dX3_roundsOf_51 (lv_at hl 5 rfl) ?_
        refine tc_geti E hG e5 fi_X3_250 dX3_roundsOf_53 (fun z9 lz9 uz9 => ?_)
        refine lv_if_eq (tgt := 63) hx hb dX3_roundsOf_56 (by decide) (fun c10 => ?_) (fun c10 => ?_)
        · skip
          have ic10 := tn_eq rfl kI_0 c10
          refine lv_iconst (v := 1) hx hb dX3_roundsOf_63 (by decide) ?_
          exact J64 H locs ls v4 v3 (1 : Int32) hG (lv_sub hl [0, 1, 2, 4] rfl) (by omega) (by omega) (by decide) (by decide) (by omega)
        · skip
          have ic10 := tn_ne rfl kI_0 c10
          refine lv_iconst (v := 0) hx hb dX3_roundsOf_59 (by decide) ?_
          refine lv_goto (tgt := 64) hx hb dX3_roundsOf_60 (by decide) ?_
          exact J64 H locs ls v4 v3 (0 : Int32) hG (lv_sub hl [0, 1, 2, 4] rfl) (by omega) (by omega) (by decide) (by decide) (by omega)
      refine lv_iload hx hb dX3_roundsOf_5 (lv_at hl 4 rfl) ?_
      refine lv_aload_n hx hb dX3_roundsOf_7 rfl (lv_at hl 1 rfl) ?_
      refine tc_geti E hG t1 fi_X3_144 dX3_roundsOf_8 (fun z11 lz11 uz11 => ?_)
      refine lv_icmp_ge (tgt := 72) hx hb dX3_roundsOf_11 (by decide) (fun c12 => ?_) (fun c12 => ?_)
      · skip
        have ic12 := tn_le rfl rfl c12
        refine lv_iconst (v := 0) hx hb dX3_roundsOf_72 (by decide) ?_
        refine lv_istore (lv' := [(4, .int 0), (0, .ref h0), (1, .ref h1), (2, .int x2), (3, .int v3)]) hx hb dX3_roundsOf_73 hl (by decide) rfl (fun ls hl => ?_)
        exact J75 ((8 - (0 : Int32).toInt).toNat + 1) H locs ls v3 (0 : Int32) hG (lv_sub hl [1, 2, 3, 4, 0] rfl) (by decide) (by decide) (Nat.lt_succ_self _)
      · skip
        have ic12 := tn_nle rfl rfl c12
        refine lv_aload_n hx hb dX3_roundsOf_14 rfl (lv_at hl 0 rfl) ?_
        refine tc_getr E hG t0 fr_X3_9 dX3_roundsOf_15 (fun oa13 hoa13 => ?_)
        refine lv_aload_n hx hb dX3_roundsOf_18 rfl (lv_at hl 1 rfl) ?_
        refine lv_iload hx hb dX3_roundsOf_19 (lv_at hl 4 rfl) ?_
        refine tc_callpr (tc_runV (As := [.ref h1, .int v4]) (rest := []) E hSt hG (c_X8_kidOf l G τ oa13 h1 v4 hoa13 t1 (by omega) (by omega)) hoa13 rv_2 kv_X8_kidOf ml_X3_147 ⟨rfl, rfl, Nat.le_of_ble_eq_true rfl, Nat.le_of_ble_eq_true rfl⟩ rfl hl.1 rfl (Nat.le_of_ble_eq_true rfl) ⟨Nat.zero_le _, Nat.zero_le _⟩ dX3_roundsOf_21) (fun r14 pr14 => ?_)
        refine lv_astore (lv' := [(5, .ref r14), (0, .ref h0), (1, .ref h1), (2, .int x2), (3, .int v3), (4, .int v4)]) hx hb dX3_roundsOf_24 hl (by decide) rfl (fun ls hl => ?_)
        refine lv_aload hx hb dX3_roundsOf_26 (lv_at hl 0 rfl) ?_
        refine lv_iconst (v := 0) hx hb dX3_roundsOf_28 (by decide) ?_
        refine tc_puti E hG pr14 fp_X3_247 (t_any1 _) (t_any2 _) dX3_roundsOf_29 (fun H locs hG => ?_)
        refine lv_aload hx hb dX3_roundsOf_32 (lv_at hl 0 rfl) ?_
        refine lv_aload hx hb dX3_roundsOf_34 (lv_at hl 0 rfl) ?_
        refine tc_geti E hG pr14 fi_X3_234 dX3_roundsOf_36 (fun z15 _ _ => ?_)
        refine lv_if_ne (tgt := 46) hx hb dX3_roundsOf_39 (by decide) (fun c16 => ?_) (fun c16 => ?_)
        · skip
          have ic16 := tn_ne rfl kI_0 c16
          refine lv_iconst (v := 0) hx hb dX3_roundsOf_46 (by decide) ?_
          exact J47 H locs ls v3 v4 (r14) (r14) (0 : Int32) hG (lv_sub hl [1, 2, 3, 4, 5, 0] rfl) (by omega) (by omega) pr14 pr14 (by decide) (by decide) (by omega)
        · skip
          have ic16 := tn_eq rfl kI_0 c16
          refine lv_iconst (v := 1) hx hb dX3_roundsOf_42 (by decide) ?_
          refine lv_goto (tgt := 47) hx hb dX3_roundsOf_43 (by decide) ?_
          exact J47 H locs ls v3 v4 (r14) (r14) (1 : Int32) hG (lv_sub hl [1, 2, 3, 4, 5, 0] rfl) (by omega) (by omega) pr14 pr14 (by decide) (by decide) (by omega)
  refine lv_iconst (v := 0) hx hb dX3_roundsOf_0 (by decide) ?_
  refine lv_istore_n (lv' := [(3, .int 0), (0, .ref h0), (1, .ref h1), (2, .int x2)]) hx hb dX3_roundsOf_1 rfl hl (by decide) rfl (fun ls hl => ?_)
  refine lv_iconst (v := 0) hx hb dX3_roundsOf_2 (by decide) ?_
  refine lv_istore (lv' := [(4, .int 0), (3, .int 0), (0, .ref h0), (1, .ref h1), (2, .int x2)]) hx hb dX3_roundsOf_3 hl (by decide) rfl (fun ls hl => ?_)
  exact J5 ((8 - (0 : Int32).toInt).toNat + 1) H locs ls (0 : Int32) (0 : Int32) hG (lv_sub hl [2, 3, 4, 1, 0] rfl) (by decide) (by decide) (Nat.lt_succ_self _)

set_option maxHeartbeats 4000000 in
set_option maxRecDepth 100000 in
theorem c_X3_greatestAcross (l : Launch) (G : tG) (τ : Nat → Nat) (h0 : Nat) (h1 : Nat) (x2 : Int32) (t0 : τ h0 = 5) (t1 : τ h1 = 3) (l2 : 0 ≤ x2.toInt) (u2 : x2.toInt ≤ 1) : Met l yX3_greatestAcross (.code yX3_greatestAcross cX3_greatestAcross 6 (some .int) :: tWS) (tRm 1 22) (va_Pc [.ref h0, .ref h1, .int x2] (tPre G τ)) (tQp (fun r => True)) 0 0 tNo := by
  refine tc_met (by decide) (Nat.le_of_ble_eq_true rfl) ?_
  intro p e s m below meth c E hSt hr hlk hG ls hl
  have hl : lv_has ls 6 [(0, .ref h0), (1, .ref h1), (2, .int x2)] := hl
  have hx := E.1
  have hb := E.2.1
  obtain ⟨H, eH⟩ : ∃ H, H = s.heap := ⟨_, rfl⟩
  obtain ⟨locs, eL⟩ : ∃ x : List Loc, x = [] := ⟨_, rfl⟩
  have hG : tGH G τ s H locs := by rw [eH, eL]; exact hG
  suffices hW : W p l e (tRm 1 22) s m ([.ref h0, .ref h1, .int x2] : List Value).toArray below meth c H locs 0 0 (MQ below (tQp (fun r => True)) ([.ref h0, .ref h1, .int x2] : List Value).toArray s 0 0 tNo) (F0 m 0 ls []) by subst eH; subst eL; exact hW
  have J5 : ∀ (n5 : Nat) (ls : Array Slot) (v3 : Int32) (v4 : Int32), lv_has ls 6 [(0, .ref h0), (1, .ref h1), (2, .int x2), (3, .int v3), (4, .int v4)] → 0 ≤ v3.toInt → 0 ≤ v4.toInt → v4.toInt ≤ 8 → (8 - v4.toInt).toNat < n5 → W p l e (tRm 1 22) s m ([.ref h0, .ref h1, .int x2] : List Value).toArray below meth c H locs 0 0 (MQ below (tQp (fun r => True)) ([.ref h0, .ref h1, .int x2] : List Value).toArray s 0 0 tNo) (F0 m 5 ls []) := by
    intro n5
    induction n5 with
    | zero => intro ls v3 v4 hl b3 b4 c4 hn5; exact absurd hn5 (Nat.not_lt_zero _)
    | succ n5 ih5 =>
      intro ls v3 v4 hl b3 b4 c4 hn5
      have J47 : ∀ (ls : Array Slot) (v4 : Int32) (vs0 : Int32) (vs1 : Int32), lv_has ls 6 [(0, .ref h0), (1, .ref h1), (2, .int x2), (4, .int v4)] → 0 ≤ v4.toInt → v4.toInt ≤ 7 → 0 ≤ vs0.toInt → (8 - v4.toInt).toNat < n5 + 1 → W p l e (tRm 1 22) s m ([.ref h0, .ref h1, .int x2] : List Value).toArray below meth c H locs 0 0 (MQ below (tQp (fun r => True)) ([.ref h0, .ref h1, .int x2] : List Value).toArray s 0 0 tNo) (F0 m 47 ls [.int vs1, .int vs0]) := by
        intro ls v4 vs0 vs1 hl b4 c4 bs0 hm5
        refine tc_max (rest := []) E hl.1 ml_X3_155 kn_max1 kn_math kn_max2 ⟨Nat.le_of_ble_eq_true rfl, Nat.le_of_ble_eq_true rfl⟩ ⟨Nat.zero_le _, Nat.zero_le _⟩ dX3_greatestAcross_47 (fun z1 ez1 => ?_)
        have tz1 := tn_max ez1
        refine lv_istore_n (lv' := [(3, .int z1), (0, .ref h0), (1, .ref h1), (2, .int x2), (4, .int v4)]) hx hb dX3_greatestAcross_50 rfl hl (by decide) rfl (fun ls hl => ?_)
        obtain ⟨z2, ez2⟩ : ∃ y : Int32, y = v4 + (1) := ⟨_, rfl⟩
        refine lv_iinc (v := z2) (lv' := [(4, .int z2), (3, .int z1), (0, .ref h0), (1, .ref h1), (2, .int x2)]) hx hb dX3_greatestAcross_51 hl (k := 4) rfl (by rw [ez2]; rfl) (by decide) rfl (fun ls hl => ?_)
        have tz2 := tn_add ez2 rfl kI_1 (by omega) (by omega)
        refine lv_goto (tgt := 5) hx hb dX3_greatestAcross_54 (by decide) ?_
        exact ih5 ls z1 z2 (lv_sub hl [2, 3, 4, 1, 0] rfl) (by omega) (by omega) (by omega) (by omega)
      refine lv_iload hx hb dX3_greatestAcross_5 (lv_at hl 4 rfl) ?_
      refine lv_aload_n hx hb dX3_greatestAcross_7 rfl (lv_at hl 1 rfl) ?_
      refine tc_geti E hG t1 fi_X3_144 dX3_greatestAcross_8 (fun z3 lz3 uz3 => ?_)
      refine lv_icmp_ge (tgt := 57) hx hb dX3_greatestAcross_11 (by decide) (fun c4 => ?_) (fun c4 => ?_)
      · skip
        have ic4 := tn_le rfl rfl c4
        refine lv_iload_n hx hb dX3_greatestAcross_57 rfl (lv_at hl 3 rfl) ?_
        exact tc_pret E hr hlk eH eL rfl trivial dX3_greatestAcross_58
      · skip
        have ic4 := tn_nle rfl rfl c4
        refine lv_aload_n hx hb dX3_greatestAcross_14 rfl (lv_at hl 0 rfl) ?_
        refine tc_getr E hG t0 fr_X3_9 dX3_greatestAcross_15 (fun oa5 hoa5 => ?_)
        refine lv_aload_n hx hb dX3_greatestAcross_18 rfl (lv_at hl 1 rfl) ?_
        refine lv_iload hx hb dX3_greatestAcross_19 (lv_at hl 4 rfl) ?_
        refine tc_callpr (tc_runV (As := [.ref h1, .int v4]) (rest := []) E hSt hG (c_X8_kidOf l G τ oa5 h1 v4 hoa5 t1 (by omega) (by omega)) hoa5 rv_2 kv_X8_kidOf ml_X3_147 ⟨rfl, rfl, Nat.le_of_ble_eq_true rfl, Nat.le_of_ble_eq_true rfl⟩ rfl hl.1 rfl (Nat.le_of_ble_eq_true rfl) ⟨Nat.zero_le _, Nat.zero_le _⟩ dX3_greatestAcross_21) (fun r6 pr6 => ?_)
        refine tc_getr E hG pr6 fr_X3_57 dX3_greatestAcross_24 (fun oa7 hoa7 => ?_)
        refine lv_astore (lv' := [(5, .ref oa7), (0, .ref h0), (1, .ref h1), (2, .int x2), (3, .int v3), (4, .int v4)]) hx hb dX3_greatestAcross_27 hl (by decide) rfl (fun ls hl => ?_)
        refine lv_iload_n hx hb dX3_greatestAcross_29 rfl (lv_at hl 4 rfl) ?_
        refine lv_iload_n hx hb dX3_greatestAcross_30 rfl (lv_at hl 3 rfl) ?_
        refine lv_if_eq (tgt := 42) hx hb dX3_greatestAcross_31 (by decide) (fun c8 => ?_) (fun c8 => ?_)
        · skip
          have ic8 := tn_eq rfl kI_0 c8
          refine lv_aload hx hb dX3_greatestAcross_42 (lv_at hl 0 rfl) ?_
          refine tc_geti E hG hoa7 fi_X3_173 dX3_greatestAcross_44 (fun z9 _ _ => ?_)
          exact J47 ls v4 v3 z9 (lv_sub hl [1, 2, 3, 5] rfl) (by omega) (by omega) (by omega) (by omega)
        · skip
          have ic8 := tn_ne rfl kI_0 c8
          refine lv_aload hx hb dX3_greatestAcross_34 (lv_at hl 0 rfl) ?_
          refine tc_geti E hG hoa7 fi_X3_176 dX3_greatestAcross_36 (fun z10 _ _ => ?_)
          refine lv_goto (tgt := 47) hx hb dX3_greatestAcross_39 (by decide) ?_
          exact J47 ls v4 v3 z10 (lv_sub hl [1, 2, 3, 5] rfl) (by omega) (by omega) (by omega) (by omega)
  refine lv_iconst (v := 0) hx hb dX3_greatestAcross_0 (by decide) ?_
  refine lv_istore_n (lv' := [(3, .int 0), (0, .ref h0), (1, .ref h1), (2, .int x2)]) hx hb dX3_greatestAcross_1 rfl hl (by decide) rfl (fun ls hl => ?_)
  refine lv_iconst (v := 0) hx hb dX3_greatestAcross_2 (by decide) ?_
  refine lv_istore (lv' := [(4, .int 0), (3, .int 0), (0, .ref h0), (1, .ref h1), (2, .int x2)]) hx hb dX3_greatestAcross_3 hl (by decide) rfl (fun ls hl => ?_)
  exact J5 ((8 - (0 : Int32).toInt).toNat + 1) ls (0 : Int32) (0 : Int32) (lv_sub hl [2, 3, 4, 1, 0] rfl) (by decide) (by decide) (by decide) (Nat.lt_succ_self _)

set_option maxHeartbeats 4000000 in
set_option maxRecDepth 100000 in
theorem c_X3_placeInLine (l : Launch) (G : tG) (τ : Nat → Nat) (h0 : Nat) (h1 : Nat) (x2 : Int32) (t0 : τ h0 = 5) (t1 : τ h1 = 3) (l2 : 0 ≤ x2.toInt) (u2 : x2.toInt ≤ 1) : Met l yX3_placeInLine (.code yX3_placeInLine cX3_placeInLine 7 none :: tWS) (tRm 1 22) (va_Pc [.ref h0, .ref h1, .int x2] (tPre G τ)) (tQv G τ) 0 0 (tA τ) := by
  refine tc_met (by decide) (Nat.le_of_ble_eq_true rfl) ?_
  intro p e s m below meth c E hSt hr hlk hG ls hl
  have hl : lv_has ls 7 [(0, .ref h0), (1, .ref h1), (2, .int x2)] := hl
  have hx := E.1
  have hb := E.2.1
  obtain ⟨H, eH⟩ : ∃ H, H = s.heap := ⟨_, rfl⟩
  obtain ⟨locs, eL⟩ : ∃ x : List Loc, x = [] := ⟨_, rfl⟩
  have hG : tGH G τ s H locs := by rw [eH, eL]; exact hG
  suffices hW : W p l e (tRm 1 22) s m ([.ref h0, .ref h1, .int x2] : List Value).toArray below meth c H locs 0 0 (MQ below (tQv G τ) ([.ref h0, .ref h1, .int x2] : List Value).toArray s 0 0 (tA τ)) (F0 m 0 ls []) by subst eH; subst eL; exact hW
  clear eH eL
  have J13 : ∀ (n13 : Nat) (H : Heap) (locs : List Loc) (ls : Array Slot) (v3 : Int32) (v4 : Int32) (v5 : Int32), tGH G τ s H locs → lv_has ls 7 [(0, .ref h0), (1, .ref h1), (2, .int x2), (3, .int v3), (4, .int v4), (5, .int v5)] → 0 ≤ v5.toInt → v5.toInt ≤ 8 → (8 - v5.toInt).toNat < n13 → W p l e (tRm 1 22) s m ([.ref h0, .ref h1, .int x2] : List Value).toArray below meth c H locs 0 0 (MQ below (tQv G τ) ([.ref h0, .ref h1, .int x2] : List Value).toArray s 0 0 (tA τ)) (F0 m 13 ls []) := by
    intro n13
    induction n13 with
    | zero => intro H locs ls v3 v4 v5 hG hl b5 c5 hn13; exact absurd hn13 (Nat.not_lt_zero _)
    | succ n13 ih13 =>
      intro H locs ls v3 v4 v5 hG hl b5 c5 hn13
      have J110 : ∀ (H : Heap) (locs : List Loc) (ls : Array Slot) (v4 : Int32) (v5 : Int32) (vs0 : Int32) (vs1 : Int32), tGH G τ s H locs → lv_has ls 7 [(0, .ref h0), (1, .ref h1), (2, .int x2), (4, .int v4), (5, .int v5)] → 0 ≤ v5.toInt → v5.toInt ≤ 7 → (8 - v5.toInt).toNat < n13 + 1 → W p l e (tRm 1 22) s m ([.ref h0, .ref h1, .int x2] : List Value).toArray below meth c H locs 0 0 (MQ below (tQv G τ) ([.ref h0, .ref h1, .int x2] : List Value).toArray s 0 0 (tA τ)) (F0 m 110 ls [.int vs1, .int vs0]) := by
        intro H locs ls v4 v5 vs0 vs1 hG hl b5 c5 hm13
        refine lv_aload_n hx hb dX3_placeInLine_110 rfl (lv_at hl 1 rfl) ?_
        refine tc_getr E hG t1 fr_X3_111 dX3_placeInLine_111 (fun oa1 hoa1 => ?_)
        refine lv_iconst (v := 1) hx hb dX3_placeInLine_114 (by decide) ?_
        refine tc_iald E hG hoa1 ta_11 (t_in (by decide) (by decide)) dX3_placeInLine_115 (fun z2 _ _ => ?_)
        refine lv_iadd hx hb dX3_placeInLine_116 ?_
        refine lv_topi (fun z3 ez3 => ?_)
        refine lv_iadd hx hb dX3_placeInLine_117 ?_
        refine lv_topi (fun z4 ez4 => ?_)
        refine lv_istore_n (lv' := [(3, .int z4), (0, .ref h0), (1, .ref h1), (2, .int x2), (4, .int v4), (5, .int v5)]) hx hb dX3_placeInLine_118 rfl hl (by decide) rfl (fun ls hl => ?_)
        obtain ⟨z5, ez5⟩ : ∃ y : Int32, y = v5 + (1) := ⟨_, rfl⟩
        refine lv_iinc (v := z5) (lv' := [(5, .int z5), (3, .int z4), (0, .ref h0), (1, .ref h1), (2, .int x2), (4, .int v4)]) hx hb dX3_placeInLine_119 hl (k := 5) rfl (by rw [ez5]; rfl) (by decide) rfl (fun ls hl => ?_)
        have tz5 := tn_add ez5 rfl kI_1 (by omega) (by omega)
        refine lv_goto (tgt := 13) hx hb dX3_placeInLine_122 (by decide) ?_
        exact ih13 H locs ls z4 v4 z5 hG (lv_sub hl [2, 3, 4, 1, 5, 0] rfl) (by omega) (by omega) (by omega)
      have J92 : ∀ (H : Heap) (locs : List Loc) (ls : Array Slot) (v3 : Int32) (v4 : Int32) (v5 : Int32) (a6 : Nat), tGH G τ s H locs → lv_has ls 7 [(0, .ref h0), (1, .ref h1), (2, .int x2), (3, .int v3), (4, .int v4), (5, .int v5), (6, .ref a6)] → 0 ≤ v5.toInt → v5.toInt ≤ 7 → τ a6 = 4 → (8 - v5.toInt).toNat < n13 + 1 → W p l e (tRm 1 22) s m ([.ref h0, .ref h1, .int x2] : List Value).toArray below meth c H locs 0 0 (MQ below (tQv G τ) ([.ref h0, .ref h1, .int x2] : List Value).toArray s 0 0 (tA τ)) (F0 m 92 ls []) := by
        intro H locs ls v3 v4 v5 a6 hG hl b5 c5 e6 hm13
        refine lv_iload_n hx hb dX3_placeInLine_92 rfl (lv_at hl 3 rfl) ?_
        refine lv_iload_n hx hb dX3_placeInLine_93 rfl (lv_at hl 2 rfl) ?_
        refine lv_if_eq (tgt := 105) hx hb dX3_placeInLine_94 (by decide) (fun c6 => ?_) (fun c6 => ?_)
        · skip
          have ic6 := tn_eq rfl kI_0 c6
          refine lv_aload hx hb dX3_placeInLine_105 (lv_at hl 6 rfl) ?_
          refine tc_geti E hG e6 fi_X3_176 dX3_placeInLine_107 (fun z7 _ _ => ?_)
          exact J110 H locs ls v4 v5 v3 z7 hG (lv_sub hl [0, 1, 2, 4, 5] rfl) (by omega) (by omega) (by omega)
        · skip
          have ic6 := tn_ne rfl kI_0 c6
          refine lv_aload hx hb dX3_placeInLine_97 (lv_at hl 6 rfl) ?_
          refine tc_geti E hG e6 fi_X3_173 dX3_placeInLine_99 (fun z8 _ _ => ?_)
          refine lv_goto (tgt := 110) hx hb dX3_placeInLine_102 (by decide) ?_
          exact J110 H locs ls v4 v5 v3 z8 hG (lv_sub hl [0, 1, 2, 4, 5] rfl) (by omega) (by omega) (by omega)
      refine lv_iload hx hb dX3_placeInLine_13 (lv_at hl 5 rfl) ?_
      refine lv_aload_n hx hb dX3_placeInLine_15 rfl (lv_at hl 1 rfl) ?_
      refine tc_geti E hG t1 fi_X3_144 dX3_placeInLine_16 (fun z9 lz9 uz9 => ?_)
      refine lv_icmp_ge (tgt := 125) hx hb dX3_placeInLine_19 (by decide) (fun c10 => ?_) (fun c10 => ?_)
      · skip
        have ic10 := tn_le rfl rfl c10
        exact tc_vret E hr hlk hG dX3_placeInLine_125
      · skip
        have ic10 := tn_nle rfl rfl c10
        refine lv_aload_n hx hb dX3_placeInLine_22 rfl (lv_at hl 0 rfl) ?_
        refine tc_getr E hG t0 fr_X3_9 dX3_placeInLine_23 (fun oa11 hoa11 => ?_)
        refine lv_aload_n hx hb dX3_placeInLine_26 rfl (lv_at hl 1 rfl) ?_
        refine lv_iload hx hb dX3_placeInLine_27 (lv_at hl 5 rfl) ?_
        refine tc_callpr (tc_runV (As := [.ref h1, .int v5]) (rest := []) E hSt hG (c_X8_kidOf l G τ oa11 h1 v5 hoa11 t1 (by omega) (by omega)) hoa11 rv_2 kv_X8_kidOf ml_X3_147 ⟨rfl, rfl, Nat.le_of_ble_eq_true rfl, Nat.le_of_ble_eq_true rfl⟩ rfl hl.1 rfl (Nat.le_of_ble_eq_true rfl) ⟨Nat.zero_le _, Nat.zero_le _⟩ dX3_placeInLine_29) (fun r12 pr12 => ?_)
        refine tc_getr E hG pr12 fr_X3_57 dX3_placeInLine_32 (fun oa13 hoa13 => ?_)
        refine lv_astore (lv' := [(6, .ref oa13), (0, .ref h0), (1, .ref h1), (2, .int x2), (3, .int v3), (4, .int v4), (5, .int v5)]) hx hb dX3_placeInLine_35 hl (by decide) rfl (fun ls hl => ?_)
        refine lv_iload_n hx hb dX3_placeInLine_37 rfl (lv_at hl 3 rfl) ?_
        refine lv_if_eq (tgt := 68) hx hb dX3_placeInLine_38 (by decide) (fun c14 => ?_) (fun c14 => ?_)
        · skip
          have ic14 := tn_eq rfl kI_0 c14
          refine lv_aload hx hb dX3_placeInLine_68 (lv_at hl 0 rfl) ?_
          refine lv_aload_n hx hb dX3_placeInLine_70 rfl (lv_at hl 2 rfl) ?_
          refine tc_getr E hG t1 fr_X3_57 dX3_placeInLine_71 (fun oa15 hoa15 => ?_)
          refine tc_geti E hG hoa15 fi_X3_173 dX3_placeInLine_74 (fun z16 _ _ => ?_)
          refine lv_aload hx hb dX3_placeInLine_77 (lv_at hl 0 rfl) ?_
          refine tc_geti E hG hoa13 fi_X3_173 dX3_placeInLine_79 (fun z17 _ _ => ?_)
          refine lv_isub hx hb dX3_placeInLine_82 ?_
          refine lv_topi (fun z18 ez18 => ?_)
          refine lv_iload hx hb dX3_placeInLine_83 (lv_at hl 5 rfl) ?_
          refine tc_callp (tc_runS (As := [.int z18, .int v4]) (rest := [.ref oa13]) E hSt hG (c_X3_aligned l G τ z18 v4) ks_X3_aligned ml_X3_198 ⟨rfl, rfl, Nat.le_of_ble_eq_true rfl, Nat.le_of_ble_eq_true rfl⟩ rfl hl.1 rfl (Nat.le_of_ble_eq_true rfl) ⟨Nat.zero_le _, Nat.zero_le _⟩ dX3_placeInLine_85) (fun r19 pr19 => ?_)
          refine lv_iload_n hx hb dX3_placeInLine_88 rfl (lv_at hl 4 rfl) ?_
          refine tc_callv hG (tc_runV (As := [.int r19, .int v3]) (rest := []) E hSt hG (c_X2_placeAt l G τ oa13 r19 v3 hoa13) hoa13 rv_4 kv_X2_placeAt ml_X3_170 ⟨rfl, rfl, Nat.le_of_ble_eq_true rfl, Nat.le_of_ble_eq_true rfl⟩ rfl hl.1 rfl (Nat.le_of_ble_eq_true rfl) ⟨Nat.zero_le _, Nat.zero_le _⟩ dX3_placeInLine_89) (fun H locs hG => ?_)
          exact J92 H locs ls v3 v4 v5 (oa13) hG (lv_sub hl [1, 2, 3, 4, 5, 6, 0] rfl) (by omega) (by omega) hoa13 (by omega)
        · skip
          have ic14 := tn_ne rfl kI_0 c14
          refine lv_aload hx hb dX3_placeInLine_41 (lv_at hl 0 rfl) ?_
          refine lv_iload_n hx hb dX3_placeInLine_43 rfl (lv_at hl 4 rfl) ?_
          refine lv_aload_n hx hb dX3_placeInLine_44 rfl (lv_at hl 2 rfl) ?_
          refine tc_getr E hG t1 fr_X3_57 dX3_placeInLine_45 (fun oa21 hoa21 => ?_)
          refine tc_geti E hG hoa21 fi_X3_176 dX3_placeInLine_48 (fun z22 _ _ => ?_)
          refine lv_aload hx hb dX3_placeInLine_51 (lv_at hl 0 rfl) ?_
          refine tc_geti E hG hoa13 fi_X3_176 dX3_placeInLine_53 (fun z23 _ _ => ?_)
          refine lv_isub hx hb dX3_placeInLine_56 ?_
          refine lv_topi (fun z24 ez24 => ?_)
          refine lv_iload hx hb dX3_placeInLine_57 (lv_at hl 5 rfl) ?_
          refine tc_callp (tc_runS (As := [.int z24, .int v4]) (rest := [.int v3, .ref oa13]) E hSt hG (c_X3_aligned l G τ z24 v4) ks_X3_aligned ml_X3_198 ⟨rfl, rfl, Nat.le_of_ble_eq_true rfl, Nat.le_of_ble_eq_true rfl⟩ rfl hl.1 rfl (Nat.le_of_ble_eq_true rfl) ⟨Nat.zero_le _, Nat.zero_le _⟩ dX3_placeInLine_59) (fun r25 pr25 => ?_)
          refine tc_callv hG (tc_runV (As := [.int v3, .int r25]) (rest := []) E hSt hG (c_X2_placeAt l G τ oa13 v3 r25 hoa13) hoa13 rv_4 kv_X2_placeAt ml_X3_170 ⟨rfl, rfl, Nat.le_of_ble_eq_true rfl, Nat.le_of_ble_eq_true rfl⟩ rfl hl.1 rfl (Nat.le_of_ble_eq_true rfl) ⟨Nat.zero_le _, Nat.zero_le _⟩ dX3_placeInLine_62) (fun H locs hG => ?_)
          refine lv_goto (tgt := 92) hx hb dX3_placeInLine_65 (by decide) ?_
          exact J92 H locs ls v3 v4 v5 (oa13) hG (lv_sub hl [1, 2, 3, 4, 5, 6, 0] rfl) (by omega) (by omega) hoa13 (by omega)
  refine lv_iconst (v := 0) hx hb dX3_placeInLine_0 (by decide) ?_
  refine lv_istore_n (lv' := [(3, .int 0), (0, .ref h0), (1, .ref h1), (2, .int x2)]) hx hb dX3_placeInLine_1 rfl hl (by decide) rfl (fun ls hl => ?_)
  refine lv_aload_n hx hb dX3_placeInLine_2 rfl (lv_at hl 2 rfl) ?_
  refine tc_getr E hG t1 fr_X3_111 dX3_placeInLine_3 (fun oa27 hoa27 => ?_)
  refine lv_iconst (v := 0) hx hb dX3_placeInLine_6 (by decide) ?_
  refine tc_iald E hG hoa27 ta_11 (t_in (by decide) (by decide)) dX3_placeInLine_7 (fun z28 _ _ => ?_)
  refine lv_istore (lv' := [(4, .int z28), (3, .int 0), (0, .ref h0), (1, .ref h1), (2, .int x2)]) hx hb dX3_placeInLine_8 hl (by decide) rfl (fun ls hl => ?_)
  refine lv_iconst (v := 0) hx hb dX3_placeInLine_10 (by decide) ?_
  refine lv_istore (lv' := [(5, .int 0), (4, .int z28), (3, .int 0), (0, .ref h0), (1, .ref h1), (2, .int x2)]) hx hb dX3_placeInLine_11 hl (by decide) rfl (fun ls hl => ?_)
  exact J13 ((8 - (0 : Int32).toInt).toNat + 1) H locs ls (0 : Int32) z28 (0 : Int32) hG (lv_sub hl [3, 4, 5, 2, 1, 0] rfl) (by decide) (by decide) (Nat.lt_succ_self _)

set_option maxHeartbeats 4000000 in
set_option maxRecDepth 100000 in
theorem c_X3_baseOf (l : Launch) (G : tG) (τ : Nat → Nat) : ∀ (d : Nat) (h0 : Nat) (h1 : Nat) (x2 : Int32) (x3 : Int32) (t0 : τ h0 = 5) (t1 : τ h1 = 3) (l2 : 0 ≤ x2.toInt) (u2 : x2.toInt ≤ 1) (l3 : 0 ≤ x3.toInt) (hd : (24 - x3.toInt).toNat < d), Met l yX3_baseOf (.code yX3_baseOf cX3_baseOf 7 (some .int) :: tWS) (tRm (1 * d + 4) (26 * d + 90)) (va_Pc [.ref h0, .ref h1, .int x2, .int x3] (tPre G τ)) (tQi G τ (fun r => True)) 0 0 (tA τ) := by
  intro d
  induction d with
  | zero => intro h0 h1 x2 x3 t0 t1 l2 u2 l3 hd; exact absurd hd (Nat.not_lt_zero _)
  | succ d ih =>
  intro h0 h1 x2 x3 t0 t1 l2 u2 l3 hd
  refine tc_met (by decide) (Nat.le_of_ble_eq_true rfl) ?_
  intro p e s m below meth c E hSt hr hlk hG ls hl
  have hl : lv_has ls 7 [(0, .ref h0), (1, .ref h1), (2, .int x2), (3, .int x3)] := hl
  have hx := E.1
  have hb := E.2.1
  obtain ⟨H, eH⟩ : ∃ H, H = s.heap := ⟨_, rfl⟩
  obtain ⟨locs, eL⟩ : ∃ x : List Loc, x = [] := ⟨_, rfl⟩
  have hG : tGH G τ s H locs := by rw [eH, eL]; exact hG
  suffices hW : W p l e (tRm (1 * (d + 1) + 4) (26 * (d + 1) + 90)) s m ([.ref h0, .ref h1, .int x2, .int x3] : List Value).toArray below meth c H locs 0 0 (MQ below (tQi G τ (fun r => True)) ([.ref h0, .ref h1, .int x2, .int x3] : List Value).toArray s 0 0 (tA τ)) (F0 m 0 ls []) by subst eH; subst eL; exact hW
  clear eH eL
  have J61 : ∀ (n61 : Nat) (H : Heap) (locs : List Loc) (ls : Array Slot) (v4 : Int32), tGH G τ s H locs → lv_has ls 7 [(0, .ref h0), (1, .ref h1), (2, .int x2), (3, .int x3), (4, .int v4)] → x3.toInt ≤ 23 → 0 ≤ v4.toInt → v4.toInt ≤ 8 → (8 - v4.toInt).toNat < n61 → W p l e (tRm (1 * (d + 1) + 4) (26 * (d + 1) + 90)) s m ([.ref h0, .ref h1, .int x2, .int x3] : List Value).toArray below meth c H locs 0 0 (MQ below (tQi G τ (fun r => True)) ([.ref h0, .ref h1, .int x2, .int x3] : List Value).toArray s 0 0 (tA τ)) (F0 m 61 ls []) := by
    intro n61
    induction n61 with
    | zero => intro H locs ls v4 hG hl cp3 b4 c4 hn61; exact absurd hn61 (Nat.not_lt_zero _)
    | succ n61 ih61 =>
      intro H locs ls v4 hG hl cp3 b4 c4 hn61
      refine lv_iload hx hb dX3_baseOf_61 (lv_at hl 4 rfl) ?_
      refine lv_aload_n hx hb dX3_baseOf_63 rfl (lv_at hl 1 rfl) ?_
      refine tc_geti E hG t1 fi_X3_144 dX3_baseOf_64 (fun z1 lz1 uz1 => ?_)
      refine lv_icmp_ge (tgt := 119) hx hb dX3_baseOf_67 (by decide) (fun c2 => ?_) (fun c2 => ?_)
      · skip
        have ic2 := tn_le rfl rfl c2
        refine lv_bipush (v := -5) hx hb dX3_baseOf_119 (by decide) ?_
        exact tc_iret E hr hlk hG trivial dX3_baseOf_121
      · skip
        have ic2 := tn_nle rfl rfl c2
        refine lv_aload_n hx hb dX3_baseOf_70 rfl (lv_at hl 0 rfl) ?_
        refine tc_getr E hG t0 fr_X3_9 dX3_baseOf_71 (fun oa3 hoa3 => ?_)
        refine lv_aload_n hx hb dX3_baseOf_74 rfl (lv_at hl 1 rfl) ?_
        refine lv_iload hx hb dX3_baseOf_75 (lv_at hl 4 rfl) ?_
        refine tc_callpr (tc_runV (As := [.ref h1, .int v4]) (rest := []) E hSt hG (c_X8_kidOf l G τ oa3 h1 v4 hoa3 t1 (by omega) (by omega)) hoa3 rv_2 kv_X8_kidOf ml_X3_147 (tRm_ok (by omega) (by omega)) rfl hl.1 rfl (Nat.le_of_ble_eq_true rfl) ⟨Nat.zero_le _, Nat.zero_le _⟩ dX3_baseOf_77) (fun r4 pr4 => ?_)
        refine lv_astore (lv' := [(5, .ref r4), (0, .ref h0), (1, .ref h1), (2, .int x2), (3, .int x3), (4, .int v4)]) hx hb dX3_baseOf_80 hl (by decide) rfl (fun ls hl => ?_)
        refine lv_aload_n hx hb dX3_baseOf_82 rfl (lv_at hl 1 rfl) ?_
        refine lv_aload hx hb dX3_baseOf_83 (lv_at hl 0 rfl) ?_
        refine lv_iload_n hx hb dX3_baseOf_85 rfl (lv_at hl 3 rfl) ?_
        refine lv_iload_n hx hb dX3_baseOf_86 rfl (lv_at hl 4 rfl) ?_
        refine lv_iconst (v := 1) hx hb dX3_baseOf_87 (by decide) ?_
        refine lv_iadd hx hb dX3_baseOf_88 ?_
        refine lv_topi (fun z5 ez5 => ?_)
        have tz5 := tn_add ez5 rfl kI_1 (by omega) (by omega)
        refine tc_calli hG (tc_runV (As := [.ref r4, .int x2, .int z5]) (rest := []) E hSt hG (ih h0 r4 x2 z5 t0 pr4 (by omega) (by omega) (by omega) (by omega)) t0 rv_5 kv_X3_baseOf ml_X3_261 (tRm_ok (by omega) (by omega)) rfl hl.1 rfl (Nat.le_of_ble_eq_true rfl) ⟨Nat.zero_le _, Nat.zero_le _⟩ dX3_baseOf_89) (fun r6 H locs pr6 hG => ?_)
        refine lv_istore (lv' := [(6, .int r6), (5, .ref r4), (0, .ref h0), (1, .ref h1), (2, .int x2), (3, .int x3), (4, .int v4)]) hx hb dX3_baseOf_92 hl (by decide) rfl (fun ls hl => ?_)
        refine lv_iload hx hb dX3_baseOf_94 (lv_at hl 0 rfl) ?_
        refine lv_bipush (v := -5) hx hb dX3_baseOf_96 (by decide) ?_
        refine lv_icmp_eq (tgt := 113) hx hb dX3_baseOf_98 (by decide) (fun c7 => ?_) (fun c7 => ?_)
        · skip
          have ic7 := tn_eq rfl kI_m5 c7
          obtain ⟨z8, ez8⟩ : ∃ y : Int32, y = v4 + (1) := ⟨_, rfl⟩
          refine lv_iinc (v := z8) (lv' := [(4, .int z8), (6, .int r6), (5, .ref r4), (0, .ref h0), (1, .ref h1), (2, .int x2), (3, .int x3)]) hx hb dX3_baseOf_113 hl (k := 6) rfl (by rw [ez8]; rfl) (by decide) rfl (fun ls hl => ?_)
          have tz8 := tn_add ez8 rfl kI_1 (by omega) (by omega)
          refine lv_goto (tgt := 61) hx hb dX3_baseOf_116 (by decide) ?_
          exact ih61 H locs ls z8 hG (lv_sub hl [3, 4, 5, 6, 0] rfl) (by omega) (by omega) (by omega) (by omega)
        · skip
          have ic7 := tn_ne rfl kI_m5 c7
          refine lv_aload hx hb dX3_baseOf_101 (lv_at hl 1 rfl) ?_
          refine tc_getr E hG pr4 fr_X3_57 dX3_baseOf_103 (fun oa9 hoa9 => ?_)
          refine tc_geti E hG hoa9 fi_X3_267 dX3_baseOf_106 (fun z10 _ _ => ?_)
          refine lv_iload hx hb dX3_baseOf_109 (lv_at hl 0 rfl) ?_
          refine lv_iadd hx hb dX3_baseOf_111 ?_
          refine lv_topi (fun z11 ez11 => ?_)
          exact tc_iret E hr hlk hG trivial dX3_baseOf_112
  have J22 : ∀ (H : Heap) (locs : List Loc) (ls : Array Slot), tGH G τ s H locs → lv_has ls 7 [(0, .ref h0), (1, .ref h1), (2, .int x2), (3, .int x3)] → W p l e (tRm (1 * (d + 1) + 4) (26 * (d + 1) + 90)) s m ([.ref h0, .ref h1, .int x2, .int x3] : List Value).toArray below meth c H locs 0 0 (MQ below (tQi G τ (fun r => True)) ([.ref h0, .ref h1, .int x2, .int x3] : List Value).toArray s 0 0 (tA τ)) (F0 m 22 ls []) := by
    intro H locs ls hG hl
    refine lv_aload_n hx hb dX3_baseOf_22 rfl (lv_at hl 1 rfl) ?_
    refine tc_getr E hG t1 fr_X3_57 dX3_baseOf_23 (fun oa12 hoa12 => ?_)
    refine tc_geti E hG hoa12 fi_X3_264 dX3_baseOf_26 (fun z13 lz13 uz13 => ?_)
    refine lv_if_eq (tgt := 50) hx hb dX3_baseOf_29 (by decide) (fun c14 => ?_) (fun c14 => ?_)
    · skip
      have ic14 := tn_eq rfl kI_0 c14
      refine lv_aload_n hx hb dX3_baseOf_50 rfl (lv_at hl 1 rfl) ?_
      refine tc_getr E hG t1 fr_X3_57 dX3_baseOf_51 (fun oa15 hoa15 => ?_)
      refine tc_geti E hG hoa15 fi_X3_160 dX3_baseOf_54 (fun z16 _ _ => ?_)
      exact tc_iret E hr hlk hG trivial dX3_baseOf_57
    · skip
      have ic14 := tn_ne rfl kI_0 c14
      refine lv_aload_n hx hb dX3_baseOf_32 rfl (lv_at hl 1 rfl) ?_
      refine tc_getr E hG t1 fr_X3_57 dX3_baseOf_33 (fun oa17 hoa17 => ?_)
      refine tc_geti E hG hoa17 fi_X3_160 dX3_baseOf_36 (fun z18 _ _ => ?_)
      refine lv_bipush (v := -5) hx hb dX3_baseOf_39 (by decide) ?_
      refine lv_icmp_ne (tgt := 50) hx hb dX3_baseOf_41 (by decide) (fun c19 => ?_) (fun c19 => ?_)
      · skip
        have ic19 := tn_ne rfl kI_m5 c19
        refine lv_aload_n hx hb dX3_baseOf_50 rfl (lv_at hl 1 rfl) ?_
        refine tc_getr E hG t1 fr_X3_57 dX3_baseOf_51 (fun oa20 hoa20 => ?_)
        refine tc_geti E hG hoa20 fi_X3_160 dX3_baseOf_54 (fun z21 _ _ => ?_)
        exact tc_iret E hr hlk hG trivial dX3_baseOf_57
      · skip
        have ic19 := tn_eq rfl kI_m5 c19
        refine lv_iload_n hx hb dX3_baseOf_44 rfl (lv_at hl 3 rfl) ?_
        refine lv_bipush (v := 24) hx hb dX3_baseOf_45 (by decide) ?_
        refine lv_icmp_lt (tgt := 58) hx hb dX3_baseOf_47 (by decide) (fun c22 => ?_) (fun c22 => ?_)
        · skip
          have ic22 := tn_lt rfl kI_24 c22
          refine lv_iconst (v := 0) hx hb dX3_baseOf_58 (by decide) ?_
          refine lv_istore (lv' := [(4, .int 0), (0, .ref h0), (1, .ref h1), (2, .int x2), (3, .int x3)]) hx hb dX3_baseOf_59 hl (by decide) rfl (fun ls hl => ?_)
          exact J61 ((8 - (0 : Int32).toInt).toNat + 1) H locs ls (0 : Int32) hG (lv_sub hl [1, 2, 3, 4, 0] rfl) (by omega) (by decide) (by decide) (Nat.lt_succ_self _)
        · skip
          have ic22 := tn_nlt rfl kI_24 c22
          refine lv_aload_n hx hb dX3_baseOf_50 rfl (lv_at hl 1 rfl) ?_
          refine tc_getr E hG t1 fr_X3_57 dX3_baseOf_51 (fun oa23 hoa23 => ?_)
          refine tc_geti E hG hoa23 fi_X3_160 dX3_baseOf_54 (fun z24 _ _ => ?_)
          exact tc_iret E hr hlk hG trivial dX3_baseOf_57
  refine lv_iload_n hx hb dX3_baseOf_0 rfl (lv_at hl 2 rfl) ?_
  refine lv_if_eq (tgt := 22) hx hb dX3_baseOf_1 (by decide) (fun c25 => ?_) (fun c25 => ?_)
  · skip
    have ic25 := tn_eq rfl kI_0 c25
    exact J22 H locs ls hG (lv_sub hl [0, 1, 2, 3] rfl)
  · skip
    have ic25 := tn_ne rfl kI_0 c25
    refine lv_aload_n hx hb dX3_baseOf_4 rfl (lv_at hl 0 rfl) ?_
    refine tc_getr E hG t0 fr_X3_9 dX3_baseOf_5 (fun oa26 hoa26 => ?_)
    refine lv_dup hx hb dX3_baseOf_8 rfl ?_
    refine tc_geti E hG hoa26 fi_X3_105 dX3_baseOf_9 (fun z27 _ _ => ?_)
    refine lv_iconst (v := 1) hx hb dX3_baseOf_12 (by decide) ?_
    refine lv_aload_n hx hb dX3_baseOf_13 rfl (lv_at hl 1 rfl) ?_
    refine tc_geti E hG t1 fi_X3_87 dX3_baseOf_14 (fun z28 lz28 uz28 => ?_)
    refine lv_ishl hx hb dX3_baseOf_17 ?_
    refine lv_topi (fun z29 ez29 => ?_)
    refine lv_ior hx hb dX3_baseOf_18 ?_
    refine lv_topi (fun z30 ez30 => ?_)
    refine tc_puti E hG hoa26 fp_X3_105 (t_any1 _) (t_any2 _) dX3_baseOf_19 (fun H locs hG => ?_)
    exact J22 H locs ls hG (lv_sub hl [0, 1, 2, 3] rfl)

set_option maxHeartbeats 4000000 in
set_option maxRecDepth 100000 in
theorem c_X3_baseAsLaid (l : Launch) (G : tG) (τ : Nat → Nat) (h0 : Nat) (h1 : Nat) (t0 : τ h0 = 5) (t1 : τ h1 = 3) : Met l yX3_baseAsLaid (.code yX3_baseAsLaid cX3_baseAsLaid 2 (some .int) :: tWS) (tRm 30 766) (va_Pc [.ref h0, .ref h1] (tPre G τ)) (tQi G τ (fun r => True)) 0 0 (tA τ) := by
  refine tc_met (by decide) (Nat.le_of_ble_eq_true rfl) ?_
  intro p e s m below meth c E hSt hr hlk hG ls hl
  have hl : lv_has ls 2 [(0, .ref h0), (1, .ref h1)] := hl
  have hx := E.1
  have hb := E.2.1
  obtain ⟨H, eH⟩ : ∃ H, H = s.heap := ⟨_, rfl⟩
  obtain ⟨locs, eL⟩ : ∃ x : List Loc, x = [] := ⟨_, rfl⟩
  have hG : tGH G τ s H locs := by rw [eH, eL]; exact hG
  suffices hW : W p l e (tRm 30 766) s m ([.ref h0, .ref h1] : List Value).toArray below meth c H locs 0 0 (MQ below (tQi G τ (fun r => True)) ([.ref h0, .ref h1] : List Value).toArray s 0 0 (tA τ)) (F0 m 0 ls []) by subst eH; subst eL; exact hW
  clear eH eL
  refine lv_aload_n hx hb dX3_baseAsLaid_0 rfl (lv_at hl 0 rfl) ?_
  refine lv_aload_n hx hb dX3_baseAsLaid_1 rfl (lv_at hl 1 rfl) ?_
  refine lv_iconst (v := 0) hx hb dX3_baseAsLaid_2 (by decide) ?_
  refine lv_iconst (v := 0) hx hb dX3_baseAsLaid_3 (by decide) ?_
  refine tc_calli hG (tc_runV (As := [.ref h1, .int 0, .int 0]) (rest := []) E hSt hG (c_X3_baseOf l G τ 25 h0 h1 (0 : Int32) (0 : Int32) t0 t1 (by decide) (by decide) (by decide) (by first | decide | omega)) t0 rv_5 kv_X3_baseOf ml_X3_261 ⟨rfl, rfl, Nat.le_of_ble_eq_true rfl, Nat.le_of_ble_eq_true rfl⟩ rfl hl.1 rfl (Nat.le_of_ble_eq_true rfl) ⟨Nat.zero_le _, Nat.zero_le _⟩ dX3_baseAsLaid_4) (fun r1 H locs pr1 hG => ?_)
  exact tc_iret E hr hlk hG trivial dX3_baseAsLaid_7

set_option maxHeartbeats 4000000 in
set_option maxRecDepth 100000 in
theorem c_X3_standOnBase (l : Launch) (G : tG) (τ : Nat → Nat) (h0 : Nat) (h1 : Nat) (x2 : Int32) (x3 : Int32) (t0 : τ h0 = 5) (t1 : τ h1 = 3) (l3 : 0 ≤ x3.toInt) (u3 : x3.toInt ≤ 23) : Met l yX3_standOnBase (.code yX3_standOnBase cX3_standOnBase 9 none :: tWS) (tRm 30 766) (va_Pc [.ref h0, .ref h1, .int x2, .int x3] (tPre G τ)) (tQv G τ) 0 0 (tA τ) := by
  refine tc_met (by decide) (Nat.le_of_ble_eq_true rfl) ?_
  intro p e s m below meth c E hSt hr hlk hG ls hl
  have hl : lv_has ls 9 [(0, .ref h0), (1, .ref h1), (2, .int x2), (3, .int x3)] := hl
  have hx := E.1
  have hb := E.2.1
  obtain ⟨H, eH⟩ : ∃ H, H = s.heap := ⟨_, rfl⟩
  obtain ⟨locs, eL⟩ : ∃ x : List Loc, x = [] := ⟨_, rfl⟩
  have hG : tGH G τ s H locs := by rw [eH, eL]; exact hG
  suffices hW : W p l e (tRm 30 766) s m ([.ref h0, .ref h1, .int x2, .int x3] : List Value).toArray below meth c H locs 0 0 (MQ below (tQv G τ) ([.ref h0, .ref h1, .int x2, .int x3] : List Value).toArray s 0 0 (tA τ)) (F0 m 0 ls []) by subst eH; subst eL; exact hW
  clear eH eL
  have J125 : ∀ (n125 : Nat) (H : Heap) (locs : List Loc) (ls : Array Slot) (v4 : Int32) (v6 : Int32) (v7 : Int32), tGH G τ s H locs → lv_has ls 9 [(0, .ref h0), (1, .ref h1), (4, .int v4), (6, .int v6), (7, .int v7)] → 0 ≤ v4.toInt → 0 ≤ v7.toInt → v7.toInt ≤ 8 → (8 - v7.toInt).toNat < n125 → W p l e (tRm 30 766) s m ([.ref h0, .ref h1, .int x2, .int x3] : List Value).toArray below meth c H locs 0 0 (MQ below (tQv G τ) ([.ref h0, .ref h1, .int x2, .int x3] : List Value).toArray s 0 0 (tA τ)) (F0 m 125 ls []) := by
    intro n125
    induction n125 with
    | zero => intro H locs ls v4 v6 v7 hG hl b4 b7 c7 hn125; exact absurd hn125 (Nat.not_lt_zero _)
    | succ n125 ih125 =>
      intro H locs ls v4 v6 v7 hG hl b4 b7 c7 hn125
      refine lv_iload hx hb dX3_standOnBase_125 (lv_at hl 4 rfl) ?_
      refine lv_aload_n hx hb dX3_standOnBase_127 rfl (lv_at hl 1 rfl) ?_
      refine tc_geti E hG t1 fi_X3_144 dX3_standOnBase_128 (fun z1 lz1 uz1 => ?_)
      refine lv_icmp_ge (tgt := 190) hx hb dX3_standOnBase_131 (by decide) (fun c2 => ?_) (fun c2 => ?_)
      · skip
        have ic2 := tn_le rfl rfl c2
        refine lv_aload_n hx hb dX3_standOnBase_190 rfl (lv_at hl 1 rfl) ?_
        refine tc_geti E hG t1 fi_X3_144 dX3_standOnBase_191 (fun z3 lz3 uz3 => ?_)
        refine lv_if_le (tgt := 206) hx hb dX3_standOnBase_194 (by decide) (fun c4 => ?_) (fun c4 => ?_)
        · skip
          have ic4 := tn_le rfl kI_0 c4
          exact tc_vret E hr hlk hG dX3_standOnBase_206
        · skip
          have ic4 := tn_nle rfl kI_0 c4
          refine lv_aload_n hx hb dX3_standOnBase_197 rfl (lv_at hl 1 rfl) ?_
          refine tc_getr E hG t1 fr_X3_57 dX3_standOnBase_198 (fun oa5 hoa5 => ?_)
          refine lv_iload hx hb dX3_standOnBase_201 (lv_at hl 2 rfl) ?_
          refine tc_puti E hG hoa5 fp_X3_160 (t_any1 _) (t_any2 _) dX3_standOnBase_203 (fun H locs hG => ?_)
          exact tc_vret E hr hlk hG dX3_standOnBase_206
      · skip
        have ic2 := tn_nle rfl rfl c2
        refine lv_aload_n hx hb dX3_standOnBase_134 rfl (lv_at hl 0 rfl) ?_
        refine tc_getr E hG t0 fr_X3_9 dX3_standOnBase_135 (fun oa6 hoa6 => ?_)
        refine lv_aload_n hx hb dX3_standOnBase_138 rfl (lv_at hl 1 rfl) ?_
        refine lv_iload hx hb dX3_standOnBase_139 (lv_at hl 4 rfl) ?_
        refine tc_callpr (tc_runV (As := [.ref h1, .int v7]) (rest := []) E hSt hG (c_X8_kidOf l G τ oa6 h1 v7 hoa6 t1 (by omega) (by omega)) hoa6 rv_2 kv_X8_kidOf ml_X3_147 ⟨rfl, rfl, Nat.le_of_ble_eq_true rfl, Nat.le_of_ble_eq_true rfl⟩ rfl hl.1 rfl (Nat.le_of_ble_eq_true rfl) ⟨Nat.zero_le _, Nat.zero_le _⟩ dX3_standOnBase_141) (fun r7 pr7 => ?_)
        refine lv_astore (lv' := [(8, .ref r7), (0, .ref h0), (1, .ref h1), (4, .int v4), (6, .int v6), (7, .int v7)]) hx hb dX3_standOnBase_144 hl (by decide) rfl (fun ls hl => ?_)
        refine lv_aload hx hb dX3_standOnBase_146 (lv_at hl 0 rfl) ?_
        refine tc_getr E hG pr7 fr_X3_57 dX3_standOnBase_148 (fun oa8 hoa8 => ?_)
        refine lv_iload hx hb dX3_standOnBase_151 (lv_at hl 4 rfl) ?_
        refine lv_iload hx hb dX3_standOnBase_153 (lv_at hl 3 rfl) ?_
        refine lv_aload hx hb dX3_standOnBase_155 (lv_at hl 0 rfl) ?_
        refine tc_geti E hG pr7 fi_X3_247 dX3_standOnBase_157 (fun z9 _ _ => ?_)
        refine lv_isub hx hb dX3_standOnBase_160 ?_
        refine lv_topi (fun z10 ez10 => ?_)
        refine tc_callv hG (tc_runV (As := [.int v6, .int z10]) (rest := []) E hSt hG (c_X2_placeAt l G τ oa8 v6 z10 hoa8) hoa8 rv_4 kv_X2_placeAt ml_X3_170 ⟨rfl, rfl, Nat.le_of_ble_eq_true rfl, Nat.le_of_ble_eq_true rfl⟩ rfl hl.1 rfl (Nat.le_of_ble_eq_true rfl) ⟨Nat.zero_le _, Nat.zero_le _⟩ dX3_standOnBase_161) (fun H locs hG => ?_)
        refine lv_iload hx hb dX3_standOnBase_164 (lv_at hl 4 rfl) ?_
        refine lv_aload hx hb dX3_standOnBase_166 (lv_at hl 0 rfl) ?_
        refine tc_getr E hG pr7 fr_X3_57 dX3_standOnBase_168 (fun oa12 hoa12 => ?_)
        refine tc_geti E hG hoa12 fi_X3_173 dX3_standOnBase_171 (fun z13 _ _ => ?_)
        refine lv_aload_n hx hb dX3_standOnBase_174 rfl (lv_at hl 2 rfl) ?_
        refine tc_getr E hG t1 fr_X3_111 dX3_standOnBase_175 (fun oa14 hoa14 => ?_)
        refine lv_iconst (v := 1) hx hb dX3_standOnBase_178 (by decide) ?_
        refine tc_iald E hG hoa14 ta_11 (t_in (by decide) (by decide)) dX3_standOnBase_179 (fun z15 _ _ => ?_)
        refine lv_iadd hx hb dX3_standOnBase_180 ?_
        refine lv_topi (fun z16 ez16 => ?_)
        refine lv_iadd hx hb dX3_standOnBase_181 ?_
        refine lv_topi (fun z17 ez17 => ?_)
        refine lv_istore (lv' := [(6, .int z17), (8, .ref r7), (0, .ref h0), (1, .ref h1), (4, .int v4), (7, .int v7)]) hx hb dX3_standOnBase_182 hl (by decide) rfl (fun ls hl => ?_)
        obtain ⟨z18, ez18⟩ : ∃ y : Int32, y = v7 + (1) := ⟨_, rfl⟩
        refine lv_iinc (v := z18) (lv' := [(7, .int z18), (6, .int z17), (8, .ref r7), (0, .ref h0), (1, .ref h1), (4, .int v4)]) hx hb dX3_standOnBase_184 hl (k := 5) rfl (by rw [ez18]; rfl) (by decide) rfl (fun ls hl => ?_)
        have tz18 := tn_add ez18 rfl kI_1 (by omega) (by omega)
        refine lv_goto (tgt := 125) hx hb dX3_standOnBase_187 (by decide) ?_
        exact ih125 H locs ls v4 z17 z18 hG (lv_sub hl [3, 4, 5, 1, 0] rfl) (by omega) (by omega) (by omega) (by omega)
  have J9 : ∀ (n9 : Nat) (H : Heap) (locs : List Loc) (ls : Array Slot) (v4 : Int32) (v5 : Int32) (v6 : Int32), tGH G τ s H locs → lv_has ls 9 [(0, .ref h0), (1, .ref h1), (2, .int x2), (3, .int x3), (4, .int v4), (5, .int v5), (6, .int v6)] → 0 ≤ v4.toInt → 0 ≤ v5.toInt → 0 ≤ v6.toInt → v6.toInt ≤ 8 → (8 - v6.toInt).toNat < n9 → W p l e (tRm 30 766) s m ([.ref h0, .ref h1, .int x2, .int x3] : List Value).toArray below meth c H locs 0 0 (MQ below (tQv G τ) ([.ref h0, .ref h1, .int x2, .int x3] : List Value).toArray s 0 0 (tA τ)) (F0 m 9 ls []) := by
    intro n9
    induction n9 with
    | zero => intro H locs ls v4 v5 v6 hG hl b4 b5 b6 c6 hn9; exact absurd hn9 (Nat.not_lt_zero _)
    | succ n9 ih9 =>
      intro H locs ls v4 v5 v6 hG hl b4 b5 b6 c6 hn9
      have J64 : ∀ (H : Heap) (locs : List Loc) (ls : Array Slot) (v4 : Int32) (v5 : Int32) (v6 : Int32) (a7 : Nat) (as0 : Nat) (vs1 : Int32), tGH G τ s H locs → lv_has ls 9 [(0, .ref h0), (1, .ref h1), (2, .int x2), (3, .int x3), (4, .int v4), (5, .int v5), (6, .int v6), (7, .ref a7)] → 0 ≤ v4.toInt → 0 ≤ v5.toInt → 0 ≤ v6.toInt → v6.toInt ≤ 7 → τ a7 = 3 → τ as0 = 3 → (8 - v6.toInt).toNat < n9 + 1 → W p l e (tRm 30 766) s m ([.ref h0, .ref h1, .int x2, .int x3] : List Value).toArray below meth c H locs 0 0 (MQ below (tQv G τ) ([.ref h0, .ref h1, .int x2, .int x3] : List Value).toArray s 0 0 (tA τ)) (F0 m 64 ls [.int vs1, .ref as0]) := by
        intro H locs ls v4 v5 v6 a7 as0 vs1 hG hl b4 b5 b6 c6 e7 es0 hm9
        refine tc_puti E hG es0 fp_X3_247 (t_any1 _) (t_any2 _) dX3_standOnBase_64 (fun H locs hG => ?_)
        refine lv_iload hx hb dX3_standOnBase_67 (lv_at hl 4 rfl) ?_
        refine lv_aload hx hb dX3_standOnBase_69 (lv_at hl 7 rfl) ?_
        refine tc_geti E hG e7 fi_X3_247 dX3_standOnBase_71 (fun z19 _ _ => ?_)
        refine tc_max (rest := []) E hl.1 ml_X3_155 kn_max1 kn_math kn_max2 ⟨Nat.le_of_ble_eq_true rfl, Nat.le_of_ble_eq_true rfl⟩ ⟨Nat.zero_le _, Nat.zero_le _⟩ dX3_standOnBase_74 (fun z20 ez20 => ?_)
        have tz20 := tn_max ez20
        refine lv_istore (lv' := [(4, .int z20), (0, .ref h0), (1, .ref h1), (2, .int x2), (3, .int x3), (5, .int v5), (6, .int v6), (7, .ref a7)]) hx hb dX3_standOnBase_77 hl (by decide) rfl (fun ls hl => ?_)
        refine lv_iload hx hb dX3_standOnBase_79 (lv_at hl 5 rfl) ?_
        refine lv_aload hx hb dX3_standOnBase_81 (lv_at hl 7 rfl) ?_
        refine tc_getr E hG e7 fr_X3_57 dX3_standOnBase_83 (fun oa21 hoa21 => ?_)
        refine tc_geti E hG hoa21 fi_X3_176 dX3_standOnBase_86 (fun z22 _ _ => ?_)
        refine lv_aload hx hb dX3_standOnBase_89 (lv_at hl 7 rfl) ?_
        refine tc_geti E hG e7 fi_X3_247 dX3_standOnBase_91 (fun z23 _ _ => ?_)
        refine lv_isub hx hb dX3_standOnBase_94 ?_
        refine lv_topi (fun z24 ez24 => ?_)
        refine tc_max (rest := []) E hl.1 ml_X3_155 kn_max1 kn_math kn_max2 ⟨Nat.le_of_ble_eq_true rfl, Nat.le_of_ble_eq_true rfl⟩ ⟨Nat.zero_le _, Nat.zero_le _⟩ dX3_standOnBase_95 (fun z25 ez25 => ?_)
        have tz25 := tn_max ez25
        refine lv_istore (lv' := [(5, .int z25), (4, .int z20), (0, .ref h0), (1, .ref h1), (2, .int x2), (3, .int x3), (6, .int v6), (7, .ref a7)]) hx hb dX3_standOnBase_98 hl (by decide) rfl (fun ls hl => ?_)
        obtain ⟨z26, ez26⟩ : ∃ y : Int32, y = v6 + (1) := ⟨_, rfl⟩
        refine lv_iinc (v := z26) (lv' := [(6, .int z26), (5, .int z25), (4, .int z20), (0, .ref h0), (1, .ref h1), (2, .int x2), (3, .int x3), (7, .ref a7)]) hx hb dX3_standOnBase_100 hl (k := 6) rfl (by rw [ez26]; rfl) (by decide) rfl (fun ls hl => ?_)
        have tz26 := tn_add ez26 rfl kI_1 (by omega) (by omega)
        refine lv_goto (tgt := 9) hx hb dX3_standOnBase_103 (by decide) ?_
        exact ih9 H locs ls z20 z25 z26 hG (lv_sub hl [3, 4, 5, 6, 2, 1, 0] rfl) (by omega) (by omega) (by omega) (by omega) (by omega)
      refine lv_iload hx hb dX3_standOnBase_9 (lv_at hl 6 rfl) ?_
      refine lv_aload_n hx hb dX3_standOnBase_11 rfl (lv_at hl 1 rfl) ?_
      refine tc_geti E hG t1 fi_X3_144 dX3_standOnBase_12 (fun z27 lz27 uz27 => ?_)
      refine lv_icmp_ge (tgt := 106) hx hb dX3_standOnBase_15 (by decide) (fun c28 => ?_) (fun c28 => ?_)
      · skip
        have ic28 := tn_le rfl rfl c28
        refine lv_aload_n hx hb dX3_standOnBase_106 rfl (lv_at hl 1 rfl) ?_
        refine tc_getr E hG t1 fr_X3_57 dX3_standOnBase_107 (fun oa29 hoa29 => ?_)
        refine lv_iload_n hx hb dX3_standOnBase_110 rfl (lv_at hl 2 rfl) ?_
        refine lv_iload hx hb dX3_standOnBase_111 (lv_at hl 4 rfl) ?_
        refine lv_iload hx hb dX3_standOnBase_113 (lv_at hl 5 rfl) ?_
        refine lv_iadd hx hb dX3_standOnBase_115 ?_
        refine lv_topi (fun z30 ez30 => ?_)
        refine tc_callv hG (tc_runV (As := [.int x2, .int z30]) (rest := []) E hSt hG (c_X2_sizeTo l G τ oa29 x2 z30 hoa29) hoa29 rv_4 kv_X2_sizeTo ml_X3_115 ⟨rfl, rfl, Nat.le_of_ble_eq_true rfl, Nat.le_of_ble_eq_true rfl⟩ rfl hl.1 rfl (Nat.le_of_ble_eq_true rfl) ⟨Nat.zero_le _, Nat.zero_le _⟩ dX3_standOnBase_116) (fun H locs hG => ?_)
        refine lv_iconst (v := 0) hx hb dX3_standOnBase_119 (by decide) ?_
        refine lv_istore (lv' := [(6, .int 0), (0, .ref h0), (1, .ref h1), (2, .int x2), (3, .int x3), (4, .int v4), (5, .int v5)]) hx hb dX3_standOnBase_120 hl (by decide) rfl (fun ls hl => ?_)
        refine lv_iconst (v := 0) hx hb dX3_standOnBase_122 (by decide) ?_
        refine lv_istore (lv' := [(7, .int 0), (6, .int 0), (0, .ref h0), (1, .ref h1), (2, .int x2), (3, .int x3), (4, .int v4), (5, .int v5)]) hx hb dX3_standOnBase_123 hl (by decide) rfl (fun ls hl => ?_)
        exact J125 ((8 - (0 : Int32).toInt).toNat + 1) H locs ls v4 (0 : Int32) (0 : Int32) hG (lv_sub hl [2, 3, 6, 1, 0] rfl) (by omega) (by decide) (by decide) (Nat.lt_succ_self _)
      · skip
        have ic28 := tn_nle rfl rfl c28
        refine lv_aload_n hx hb dX3_standOnBase_18 rfl (lv_at hl 0 rfl) ?_
        refine tc_getr E hG t0 fr_X3_9 dX3_standOnBase_19 (fun oa32 hoa32 => ?_)
        refine lv_aload_n hx hb dX3_standOnBase_22 rfl (lv_at hl 1 rfl) ?_
        refine lv_iload hx hb dX3_standOnBase_23 (lv_at hl 6 rfl) ?_
        refine tc_callpr (tc_runV (As := [.ref h1, .int v6]) (rest := []) E hSt hG (c_X8_kidOf l G τ oa32 h1 v6 hoa32 t1 (by omega) (by omega)) hoa32 rv_2 kv_X8_kidOf ml_X3_147 ⟨rfl, rfl, Nat.le_of_ble_eq_true rfl, Nat.le_of_ble_eq_true rfl⟩ rfl hl.1 rfl (Nat.le_of_ble_eq_true rfl) ⟨Nat.zero_le _, Nat.zero_le _⟩ dX3_standOnBase_25) (fun r33 pr33 => ?_)
        refine lv_astore (lv' := [(7, .ref r33), (0, .ref h0), (1, .ref h1), (2, .int x2), (3, .int x3), (4, .int v4), (5, .int v5), (6, .int v6)]) hx hb dX3_standOnBase_28 hl (by decide) rfl (fun ls hl => ?_)
        refine lv_aload_n hx hb dX3_standOnBase_30 rfl (lv_at hl 1 rfl) ?_
        refine lv_aload hx hb dX3_standOnBase_31 (lv_at hl 0 rfl) ?_
        refine lv_iconst (v := 1) hx hb dX3_standOnBase_33 (by decide) ?_
        refine lv_iload_n hx hb dX3_standOnBase_34 rfl (lv_at hl 4 rfl) ?_
        refine lv_iconst (v := 1) hx hb dX3_standOnBase_35 (by decide) ?_
        refine lv_iadd hx hb dX3_standOnBase_36 ?_
        refine lv_topi (fun z34 ez34 => ?_)
        have tz34 := tn_add ez34 rfl kI_1 (by omega) (by omega)
        refine tc_calli hG (tc_runV (As := [.ref r33, .int 1, .int z34]) (rest := []) E hSt hG (c_X3_baseOf l G τ 25 h0 r33 (1 : Int32) z34 t0 pr33 (by decide) (by decide) (by omega) (by first | decide | omega)) t0 rv_5 kv_X3_baseOf ml_X3_261 ⟨rfl, rfl, Nat.le_of_ble_eq_true rfl, Nat.le_of_ble_eq_true rfl⟩ rfl hl.1 rfl (Nat.le_of_ble_eq_true rfl) ⟨Nat.zero_le _, Nat.zero_le _⟩ dX3_standOnBase_37) (fun r35 H locs pr35 hG => ?_)
        refine lv_istore (lv' := [(8, .int r35), (7, .ref r33), (0, .ref h0), (1, .ref h1), (2, .int x2), (3, .int x3), (4, .int v4), (5, .int v5), (6, .int v6)]) hx hb dX3_standOnBase_40 hl (by decide) rfl (fun ls hl => ?_)
        refine lv_aload hx hb dX3_standOnBase_42 (lv_at hl 1 rfl) ?_
        refine lv_iload hx hb dX3_standOnBase_44 (lv_at hl 0 rfl) ?_
        refine lv_bipush (v := -5) hx hb dX3_standOnBase_46 (by decide) ?_
        refine lv_icmp_ne (tgt := 62) hx hb dX3_standOnBase_48 (by decide) (fun c36 => ?_) (fun c36 => ?_)
        · skip
          have ic36 := tn_ne rfl kI_m5 c36
          refine lv_iload hx hb dX3_standOnBase_62 (lv_at hl 0 rfl) ?_
          exact J64 H locs ls v4 v5 v6 (r33) (r33) r35 hG (lv_sub hl [2, 3, 4, 5, 6, 7, 8, 1] rfl) (by omega) (by omega) (by omega) (by omega) pr33 pr33 (by omega)
        · skip
          have ic36 := tn_eq rfl kI_m5 c36
          refine lv_aload hx hb dX3_standOnBase_51 (lv_at hl 1 rfl) ?_
          refine tc_getr E hG pr33 fr_X3_57 dX3_standOnBase_53 (fun oa37 hoa37 => ?_)
          refine tc_geti E hG hoa37 fi_X3_176 dX3_standOnBase_56 (fun z38 _ _ => ?_)
          refine lv_goto (tgt := 64) hx hb dX3_standOnBase_59 (by decide) ?_
          exact J64 H locs ls v4 v5 v6 (r33) (r33) z38 hG (lv_sub hl [2, 3, 4, 5, 6, 7, 8, 1] rfl) (by omega) (by omega) (by omega) (by omega) pr33 pr33 (by omega)
  refine lv_iconst (v := 0) hx hb dX3_standOnBase_0 (by decide) ?_
  refine lv_istore (lv' := [(4, .int 0), (0, .ref h0), (1, .ref h1), (2, .int x2), (3, .int x3)]) hx hb dX3_standOnBase_1 hl (by decide) rfl (fun ls hl => ?_)
  refine lv_iconst (v := 0) hx hb dX3_standOnBase_3 (by decide) ?_
  refine lv_istore (lv' := [(5, .int 0), (4, .int 0), (0, .ref h0), (1, .ref h1), (2, .int x2), (3, .int x3)]) hx hb dX3_standOnBase_4 hl (by decide) rfl (fun ls hl => ?_)
  refine lv_iconst (v := 0) hx hb dX3_standOnBase_6 (by decide) ?_
  refine lv_istore (lv' := [(6, .int 0), (5, .int 0), (4, .int 0), (0, .ref h0), (1, .ref h1), (2, .int x2), (3, .int x3)]) hx hb dX3_standOnBase_7 hl (by decide) rfl (fun ls hl => ?_)
  exact J9 ((8 - (0 : Int32).toInt).toNat + 1) H locs ls (0 : Int32) (0 : Int32) (0 : Int32) hG (lv_sub hl [3, 4, 5, 6, 2, 1, 0] rfl) (by decide) (by decide) (by decide) (by decide) (Nat.lt_succ_self _)

def P_X3_askedOf (l : Launch) (G : tG) (τ : Nat → Nat) (d : Nat) : Prop := ∀ (h0 : Nat) (h1 : Nat) (x2 : Int32) (x3 : Int32), τ h0 = 5 → τ h1 = 3 → 0 ≤ x3.toInt → (24 - x3.toInt).toNat < d → Met l yX3_askedOf (.code yX3_askedOf cX3_askedOf 5 (some .int) :: tWS) (tRm (3 * d + 4) (74 * d + 120)) (va_Pc [.ref h0, .ref h1, .int x2, .int x3] (tPre G τ)) (tQi G τ (fun r => True)) 0 0 (tA τ)
