set_option maxHeartbeats 4000000 in
set_option maxRecDepth 100000 in
theorem c_X9_commonDivisor (l : Launch) (G : tG) (τ : Nat → Nat) (x0 : Int64) (x2 : Int64)  : Met l yX9_commonDivisor (.code yX9_commonDivisor cX9_commonDivisor 11 (some .long) :: tWS) (tRm 0 0) (va_Pc [.long x0, .long x2] (tPre G τ)) (tQpl (fun r => True)) 0 0 tNo := by
  refine tc_met (by decide) (Nat.le_of_ble_eq_true rfl) ?_
  intro p e s m below meth c E hSt hr hlk hG ls hl
  have hl : lv_has ls 11 [(0, .long x0), (2, .long x2)] := hl
  have hx := E.1
  have hb := E.2.1
  obtain ⟨H, eH⟩ : ∃ H, H = s.heap := ⟨_, rfl⟩
  obtain ⟨locs, eL⟩ : ∃ x : List Loc, x = [] := ⟨_, rfl⟩
  have hG : tGH G τ s H locs := by rw [eH, eL]; exact hG
  suffices hW : W p l e (tRm 0 0) s m ([.long x0, .long x2] : List Value).toArray below meth c H locs 0 0 (MQ below (tQpl (fun r => True)) ([.long x0, .long x2] : List Value).toArray s 0 0 tNo) (F0 m 0 ls []) by subst eH; subst eL; exact hW
  have J9 : ∀ (n9 : Nat) (ls : Array Slot) (w4 : Int64) (w6 : Int64) (v8 : Int32), lv_has ls 11 [(4, .long w4), (6, .long w6), (8, .int v8)] → 0 ≤ v8.toInt → v8.toInt ≤ 100 → (100 - v8.toInt).toNat < n9 → W p l e (tRm 0 0) s m ([.long x0, .long x2] : List Value).toArray below meth c H locs 0 0 (MQ below (tQpl (fun r => True)) ([.long x0, .long x2] : List Value).toArray s 0 0 tNo) (F0 m 9 ls []) := by
    intro n9
    induction n9 with
    | zero => intro ls w4 w6 v8 hl b8 c8 hn9; exact absurd hn9 (Nat.not_lt_zero _)
    | succ n9 ih9 =>
      intro ls w4 w6 v8 hl b8 c8 hn9
      refine lv_iload hx hb dX9_commonDivisor_9 (lv_at hl 2 rfl) ?_
      refine lv_bipush (v := 100) hx hb dX9_commonDivisor_11 (by decide) ?_
      refine lv_icmp_ge (tgt := 44) hx hb dX9_commonDivisor_13 (by decide) (fun c1 => ?_) (fun c1 => ?_)
      · skip
        have ic1 := tn_le kI_100 rfl c1
        refine lv_lload hx hb dX9_commonDivisor_44 (lv_at hl 0 rfl) ?_
        exact tc_plret E hr hlk eH eL trivial dX9_commonDivisor_46
      · skip
        have ic1 := tn_nle kI_100 rfl c1
        refine lv_lload hx hb dX9_commonDivisor_16 (lv_at hl 1 rfl) ?_
        refine lv_lconst (v := 0) hx hb dX9_commonDivisor_18 (by decide) ?_
        refine W.lcmp hx hb dX9_commonDivisor_19 ?_
        refine lv_topi (fun z2 ez2 => ?_)
        refine lv_if_eq (tgt := 44) hx hb dX9_commonDivisor_20 (by decide) (fun c3 => ?_) (fun c3 => ?_)
        · skip
          have ic3 := tn_eq rfl kI_0 c3
          refine lv_lload hx hb dX9_commonDivisor_44 (lv_at hl 0 rfl) ?_
          exact tc_plret E hr hlk eH eL trivial dX9_commonDivisor_46
        · skip
          have ic3 := tn_ne rfl kI_0 c3
          have nc3 := tl_ne ez2 ic3
          refine lv_lload hx hb dX9_commonDivisor_23 (lv_at hl 0 rfl) ?_
          refine lv_lload hx hb dX9_commonDivisor_25 (lv_at hl 1 rfl) ?_
          refine lv_lrem hx hb dX9_commonDivisor_27 (by assumption) ?_
          refine lv_topl (fun z4 ez4 => ?_)
          refine lv_lstore (lv' := [(9, .long z4), (4, .long w4), (6, .long w6), (8, .int v8)]) hx hb dX9_commonDivisor_28 hl (by decide) rfl (fun ls hl => ?_)
          refine lv_lload hx hb dX9_commonDivisor_30 (lv_at hl 2 rfl) ?_
          refine lv_lstore (lv' := [(4, .long w6), (9, .long z4), (6, .long w6), (8, .int v8)]) hx hb dX9_commonDivisor_32 hl (by decide) rfl (fun ls hl => ?_)
          refine lv_lload hx hb dX9_commonDivisor_34 (lv_at hl 1 rfl) ?_
          refine lv_lstore (lv' := [(6, .long z4), (4, .long w6), (9, .long z4), (8, .int v8)]) hx hb dX9_commonDivisor_36 hl (by decide) rfl (fun ls hl => ?_)
          obtain ⟨z5, ez5⟩ : ∃ y : Int32, y = v8 + (1) := ⟨_, rfl⟩
          refine lv_iinc (v := z5) (lv' := [(8, .int z5), (6, .long z4), (4, .long w6), (9, .long z4)]) hx hb dX9_commonDivisor_38 hl (k := 3) rfl (by rw [ez5]; rfl) (by decide) rfl (fun ls hl => ?_)
          have tz5 := tn_add ez5 rfl kI_1 (by omega) (by omega)
          refine lv_goto (tgt := 9) hx hb dX9_commonDivisor_41 (by decide) ?_
          exact ih9 ls (w6) (z4) z5 (lv_sub hl [2, 1, 0] rfl) (by omega) (by omega) (by omega)
  refine lv_lload_n hx hb dX9_commonDivisor_0 rfl (lv_at hl 0 rfl) ?_
  refine lv_lstore (lv' := [(4, .long x0), (0, .long x0), (2, .long x2)]) hx hb dX9_commonDivisor_1 hl (by decide) rfl (fun ls hl => ?_)
  refine lv_lload_n hx hb dX9_commonDivisor_3 rfl (lv_at hl 2 rfl) ?_
  refine lv_lstore (lv' := [(6, .long x2), (4, .long x0), (0, .long x0), (2, .long x2)]) hx hb dX9_commonDivisor_4 hl (by decide) rfl (fun ls hl => ?_)
  refine lv_iconst (v := 0) hx hb dX9_commonDivisor_6 (by decide) ?_
  refine lv_istore (lv' := [(8, .int 0), (6, .long x2), (4, .long x0), (0, .long x0), (2, .long x2)]) hx hb dX9_commonDivisor_7 hl (by decide) rfl (fun ls hl => ?_)
  exact J9 ((100 - (0 : Int32).toInt).toNat + 1) ls (x0) (x2) (0 : Int32) (lv_sub hl [2, 1, 0] rfl) (by decide) (by decide) (Nat.lt_succ_self _)

set_option maxHeartbeats 4000000 in
set_option maxRecDepth 100000 in
theorem c_X9_partOfFraction (l : Launch) (G : tG) (τ : Nat → Nat) (x0 : Int64) (x2 : Int64) (x4 : Int32)  : Met l yX9_partOfFraction (.code yX9_partOfFraction cX9_partOfFraction 7 (some .long) :: tWS) (tRm 1 30) (va_Pc [.long x0, .long x2, .int x4] (tPre G τ)) (tQpl (fun r => True)) 0 0 tNo := by
  refine tc_met (by decide) (Nat.le_of_ble_eq_true rfl) ?_
  intro p e s m below meth c E hSt hr hlk hG ls hl
  have hl : lv_has ls 7 [(0, .long x0), (2, .long x2), (4, .int x4)] := hl
  have hx := E.1
  have hb := E.2.1
  obtain ⟨H, eH⟩ : ∃ H, H = s.heap := ⟨_, rfl⟩
  obtain ⟨locs, eL⟩ : ∃ x : List Loc, x = [] := ⟨_, rfl⟩
  have hG : tGH G τ s H locs := by rw [eH, eL]; exact hG
  suffices hW : W p l e (tRm 1 30) s m ([.long x0, .long x2, .int x4] : List Value).toArray below meth c H locs 0 0 (MQ below (tQpl (fun r => True)) ([.long x0, .long x2, .int x4] : List Value).toArray s 0 0 tNo) (F0 m 0 ls []) by subst eH; subst eL; exact hW
  refine lv_lload_n hx hb dX9_partOfFraction_0 rfl (lv_at hl 0 rfl) ?_
  refine lv_lload_n hx hb dX9_partOfFraction_1 rfl (lv_at hl 1 rfl) ?_
  refine tc_callpl (tc_runS (As := [.long x0, .long x2]) (rest := []) E hSt hG (c_X9_commonDivisor l G τ x0 x2) ks_X9_commonDivisor ml_X9_387 ⟨rfl, rfl, Nat.le_of_ble_eq_true rfl, Nat.le_of_ble_eq_true rfl⟩ rfl hl.1 rfl (Nat.le_of_ble_eq_true rfl) ⟨Nat.zero_le _, Nat.zero_le _⟩ dX9_partOfFraction_2) (fun r1 pr1 => ?_)
  refine lv_lstore (lv' := [(5, .long r1), (0, .long x0), (2, .long x2), (4, .int x4)]) hx hb dX9_partOfFraction_5 hl (by decide) rfl (fun ls hl => ?_)
  refine lv_lload hx hb dX9_partOfFraction_7 (lv_at hl 0 rfl) ?_
  refine lv_lconst (v := 0) hx hb dX9_partOfFraction_9 (by decide) ?_
  refine W.lcmp hx hb dX9_partOfFraction_10 ?_
  refine lv_topi (fun z2 ez2 => ?_)
  refine lv_if_ne (tgt := 18) hx hb dX9_partOfFraction_11 (by decide) (fun c3 => ?_) (fun c3 => ?_)
  · skip
    have ic3 := tn_ne rfl kI_0 c3
    have nc3 := tl_ne ez2 ic3
    refine lv_iload hx hb dX9_partOfFraction_18 (lv_at hl 3 rfl) ?_
    refine lv_if_ne (tgt := 27) hx hb dX9_partOfFraction_20 (by decide) (fun c4 => ?_) (fun c4 => ?_)
    · skip
      have ic4 := tn_ne rfl kI_0 c4
      refine lv_lload_n hx hb dX9_partOfFraction_27 rfl (lv_at hl 2 rfl) ?_
      refine lv_lload hx hb dX9_partOfFraction_28 (lv_at hl 0 rfl) ?_
      refine lv_ldiv hx hb dX9_partOfFraction_30 (by assumption) ?_
      refine lv_topl (fun z5 ez5 => ?_)
      exact tc_plret E hr hlk eH eL trivial dX9_partOfFraction_31
    · skip
      have ic4 := tn_eq rfl kI_0 c4
      refine lv_lload_n hx hb dX9_partOfFraction_23 rfl (lv_at hl 1 rfl) ?_
      refine lv_goto (tgt := 28) hx hb dX9_partOfFraction_24 (by decide) ?_
      refine lv_lload hx hb dX9_partOfFraction_28 (lv_at hl 0 rfl) ?_
      refine lv_ldiv hx hb dX9_partOfFraction_30 (by assumption) ?_
      refine lv_topl (fun z6 ez6 => ?_)
      exact tc_plret E hr hlk eH eL trivial dX9_partOfFraction_31
  · skip
    have ic3 := tn_eq rfl kI_0 c3
    refine lv_ldc2 (v := -9223372036854775808) hx hb E.2.2.2.1 (E.2.2.2.2.1 _ (t_w5 161 rfl rfl)) dX9_partOfFraction_14 ?_
    exact tc_plret E hr hlk eH eL trivial dX9_partOfFraction_17

set_option maxHeartbeats 4000000 in
set_option maxRecDepth 100000 in
theorem c_X9_mean (l : Launch) (G : tG) (τ : Nat → Nat) (h0 : Nat) (x1 : Int32) (t0 : τ h0 = 1) : Met l yX9_mean (.code yX9_mean cX9_mean 5 (some .long) :: tWS) (tRm 2 56) (va_Pc [.ref h0, .int x1] (tPre G τ)) (tQl G τ (fun r => True)) 0 0 (tA τ) := by
  refine tc_met (by decide) (Nat.le_of_ble_eq_true rfl) ?_
  intro p e s m below meth c E hSt hr hlk hG ls hl
  have hl : lv_has ls 5 [(0, .ref h0), (1, .int x1)] := hl
  have hx := E.1
  have hb := E.2.1
  obtain ⟨H, eH⟩ : ∃ H, H = s.heap := ⟨_, rfl⟩
  obtain ⟨locs, eL⟩ : ∃ x : List Loc, x = [] := ⟨_, rfl⟩
  have hG : tGH G τ s H locs := by rw [eH, eL]; exact hG
  suffices hW : W p l e (tRm 2 56) s m ([.ref h0, .int x1] : List Value).toArray below meth c H locs 0 0 (MQ below (tQl G τ (fun r => True)) ([.ref h0, .int x1] : List Value).toArray s 0 0 (tA τ)) (F0 m 0 ls []) by subst eH; subst eL; exact hW
  clear eH eL
  have J28 : ∀ (n28 : Nat) (H : Heap) (locs : List Loc) (ls : Array Slot) (w2 : Int64) (v4 : Int32), tGH G τ s H locs → lv_has ls 5 [(0, .ref h0), (1, .int x1), (2, .long w2), (4, .int v4)] → 0 ≤ x1.toInt → x1.toInt ≤ 1 → 0 ≤ v4.toInt → v4.toInt ≤ 24 → (24 - v4.toInt).toNat < n28 → W p l e (tRm 2 56) s m ([.ref h0, .int x1] : List Value).toArray below meth c H locs 0 0 (MQ below (tQl G τ (fun r => True)) ([.ref h0, .int x1] : List Value).toArray s 0 0 (tA τ)) (F0 m 28 ls []) := by
    intro n28
    induction n28 with
    | zero => intro H locs ls w2 v4 hG hl bp1 cp1 b4 c4 hn28; exact absurd hn28 (Nat.not_lt_zero _)
    | succ n28 ih28 =>
      intro H locs ls w2 v4 hG hl bp1 cp1 b4 c4 hn28
      have J72 : ∀ (H : Heap) (locs : List Loc) (ls : Array Slot) (w2 : Int64) (v4 : Int32), tGH G τ s H locs → lv_has ls 5 [(0, .ref h0), (1, .int x1), (2, .long w2), (4, .int v4)] → 0 ≤ x1.toInt → x1.toInt ≤ 1 → 0 ≤ v4.toInt → v4.toInt ≤ 23 → (24 - v4.toInt).toNat < n28 + 1 → W p l e (tRm 2 56) s m ([.ref h0, .int x1] : List Value).toArray below meth c H locs 0 0 (MQ below (tQl G τ (fun r => True)) ([.ref h0, .int x1] : List Value).toArray s 0 0 (tA τ)) (F0 m 72 ls []) := by
        intro H locs ls w2 v4 hG hl bp1 cp1 b4 c4 hm28
        obtain ⟨z1, ez1⟩ : ∃ y : Int32, y = v4 + (1) := ⟨_, rfl⟩
        refine lv_iinc (v := z1) (lv' := [(4, .int z1), (0, .ref h0), (1, .int x1), (2, .long w2)]) hx hb dX9_mean_72 hl (k := 3) rfl (by rw [ez1]; rfl) (by decide) rfl (fun ls hl => ?_)
        have tz1 := tn_add ez1 rfl kI_1 (by omega) (by omega)
        refine lv_goto (tgt := 28) hx hb dX9_mean_75 (by decide) ?_
        exact ih28 H locs ls (w2) z1 hG (lv_sub hl [1, 2, 3, 0] rfl) (by omega) (by omega) (by omega) (by omega) (by omega)
      refine lv_iload hx hb dX9_mean_28 (lv_at hl 3 rfl) ?_
      refine lv_aload_n hx hb dX9_mean_30 rfl (lv_at hl 0 rfl) ?_
      refine tc_getr E hG t0 fr_X9_12 dX9_mean_31 (fun oa2 hoa2 => ?_)
      refine tc_geti E hG hoa2 fi_X9_75 dX9_mean_34 (fun z3 lz3 uz3 => ?_)
      refine lv_icmp_ge (tgt := 78) hx hb dX9_mean_37 (by decide) (fun c4 => ?_) (fun c4 => ?_)
      · skip
        have ic4 := tn_le rfl rfl c4
        refine lv_lload_n hx hb dX9_mean_78 rfl (lv_at hl 2 rfl) ?_
        refine lv_aload_n hx hb dX9_mean_79 rfl (lv_at hl 0 rfl) ?_
        refine tc_getr E hG t0 fr_X9_12 dX9_mean_80 (fun oa5 hoa5 => ?_)
        refine tc_callp (tc_runV (As := []) (rest := [.long w2]) E hSt hG (c_X8_countBoxes l G τ oa5 hoa5) hoa5 rv_2 kv_X8_countBoxes ml_X9_338 ⟨rfl, rfl, Nat.le_of_ble_eq_true rfl, Nat.le_of_ble_eq_true rfl⟩ rfl hl.1 rfl (Nat.le_of_ble_eq_true rfl) ⟨Nat.zero_le _, Nat.zero_le _⟩ dX9_mean_83) (fun r6 pr6 => ?_)
        refine lv_i2l hx hb dX9_mean_86 rfl ?_
        refine lv_topl (fun z7 ez7 => ?_)
        refine lv_iload_n hx hb dX9_mean_87 rfl (lv_at hl 1 rfl) ?_
        refine tc_callpl (tc_runS (As := [.long w2, .long z7, .int x1]) (rest := []) E hSt hG (c_X9_partOfFraction l G τ w2 z7 x1) ks_X9_partOfFraction ml_X9_328 ⟨rfl, rfl, Nat.le_of_ble_eq_true rfl, Nat.le_of_ble_eq_true rfl⟩ rfl hl.1 rfl (Nat.le_of_ble_eq_true rfl) ⟨Nat.zero_le _, Nat.zero_le _⟩ dX9_mean_88) (fun r8 pr8 => ?_)
        exact tc_lret E hr hlk hG trivial dX9_mean_91
      · skip
        have ic4 := tn_nle rfl rfl c4
        refine lv_aload_n hx hb dX9_mean_40 rfl (lv_at hl 0 rfl) ?_
        refine tc_getr E hG t0 fr_X9_12 dX9_mean_41 (fun oa9 hoa9 => ?_)
        refine lv_iload hx hb dX9_mean_44 (lv_at hl 3 rfl) ?_
        refine tc_callp (tc_runV (As := [.int v4]) (rest := []) E hSt hG (c_X8_has l G τ oa9 v4 hoa9) hoa9 rv_2 kv_X8_has ml_X9_83 ⟨rfl, rfl, Nat.le_of_ble_eq_true rfl, Nat.le_of_ble_eq_true rfl⟩ rfl hl.1 rfl (Nat.le_of_ble_eq_true rfl) ⟨Nat.zero_le _, Nat.zero_le _⟩ dX9_mean_46) (fun r10 pr10 => ?_)
        have pr10 : (0 ≤ r10.toInt ∧ r10.toInt ≤ 1) ∧ (r10.toInt = 0 ∨ (0 ≤ v4.toInt ∧ v4.toInt ≤ 23)) := pr10
        refine lv_if_eq (tgt := 72) hx hb dX9_mean_49 (by decide) (fun c11 => ?_) (fun c11 => ?_)
        · skip
          have ic11 := tn_eq rfl kI_0 c11
          exact J72 H locs ls (w2) v4 hG (lv_sub hl [0, 1, 2, 3] rfl) (by omega) (by omega) (by omega) (by omega) (by omega)
        · skip
          have ic11 := tn_ne rfl kI_0 c11
          refine lv_lload_n hx hb dX9_mean_52 rfl (lv_at hl 2 rfl) ?_
          refine lv_aload_n hx hb dX9_mean_53 rfl (lv_at hl 0 rfl) ?_
          refine tc_getr E hG t0 fr_X9_12 dX9_mean_54 (fun oa12 hoa12 => ?_)
          refine tc_getr E hG hoa12 fr_X9_86 dX9_mean_57 (fun oa13 hoa13 => ?_)
          refine lv_iload hx hb dX9_mean_60 (lv_at hl 3 rfl) ?_
          refine tc_aald3 E hG hoa13 ta_10 (t_in (by omega) (by omega)) dX9_mean_62 (fun oa14 hoa14 => ?_)
          refine tc_getr E hG hoa14 fr_X9_211 dX9_mean_63 (fun oa15 hoa15 => ?_)
          refine tc_geti E hG hoa15 fi_X9_233 dX9_mean_66 (fun z16 _ _ => ?_)
          refine lv_i2l hx hb dX9_mean_69 rfl ?_
          refine lv_topl (fun z17 ez17 => ?_)
          refine lv_ladd hx hb dX9_mean_70 ?_
          refine lv_topl (fun z18 ez18 => ?_)
          refine lv_lstore_n (lv' := [(2, .long z18), (0, .ref h0), (1, .int x1), (4, .int v4)]) hx hb dX9_mean_71 rfl hl (by decide) rfl (fun ls hl => ?_)
          exact J72 H locs ls (z18) v4 hG (lv_sub hl [1, 2, 0, 3] rfl) (by omega) (by omega) (by omega) (by omega) (by omega)
  have J9 : ∀ (H : Heap) (locs : List Loc) (ls : Array Slot), tGH G τ s H locs → lv_has ls 5 [(0, .ref h0), (1, .int x1)] → 0 ≤ x1.toInt → x1.toInt ≤ 1 → W p l e (tRm 2 56) s m ([.ref h0, .int x1] : List Value).toArray below meth c H locs 0 0 (MQ below (tQl G τ (fun r => True)) ([.ref h0, .int x1] : List Value).toArray s 0 0 (tA τ)) (F0 m 9 ls []) := by
    intro H locs ls hG hl bp1 cp1
    refine lv_aload_n hx hb dX9_mean_9 rfl (lv_at hl 0 rfl) ?_
    refine tc_getr E hG t0 fr_X9_12 dX9_mean_10 (fun oa19 hoa19 => ?_)
    refine tc_geti E hG hoa19 fi_X9_271 dX9_mean_13 (fun z20 _ _ => ?_)
    refine lv_if_ne (tgt := 23) hx hb dX9_mean_16 (by decide) (fun c21 => ?_) (fun c21 => ?_)
    · skip
      have ic21 := tn_ne rfl kI_0 c21
      refine lv_lconst (v := 0) hx hb dX9_mean_23 (by decide) ?_
      refine lv_lstore_n (lv' := [(2, .long 0), (0, .ref h0), (1, .int x1)]) hx hb dX9_mean_24 rfl hl (by decide) rfl (fun ls hl => ?_)
      refine lv_iconst (v := 0) hx hb dX9_mean_25 (by decide) ?_
      refine lv_istore (lv' := [(4, .int 0), (2, .long 0), (0, .ref h0), (1, .int x1)]) hx hb dX9_mean_26 hl (by decide) rfl (fun ls hl => ?_)
      exact J28 ((24 - (0 : Int32).toInt).toNat + 1) H locs ls (0) (0 : Int32) hG (lv_sub hl [2, 3, 1, 0] rfl) (by omega) (by omega) (by decide) (by decide) (Nat.lt_succ_self _)
    · skip
      have ic21 := tn_eq rfl kI_0 c21
      refine lv_ldc2 (v := -9223372036854775808) hx hb E.2.2.2.1 (E.2.2.2.2.1 _ (t_w5 161 rfl rfl)) dX9_mean_19 ?_
      exact tc_lret E hr hlk hG trivial dX9_mean_22
  refine lv_iload_n hx hb dX9_mean_0 rfl (lv_at hl 1 rfl) ?_
  refine lv_if_eq (tgt := 9) hx hb dX9_mean_1 (by decide) (fun c22 => ?_) (fun c22 => ?_)
  · skip
    have ic22 := tn_eq rfl kI_0 c22
    exact J9 H locs ls hG (lv_sub hl [0, 1] rfl) (by omega) (by omega)
  · skip
    have ic22 := tn_ne rfl kI_0 c22
    refine lv_iload_n hx hb dX9_mean_4 rfl (lv_at hl 1 rfl) ?_
    refine lv_iconst (v := 1) hx hb dX9_mean_5 (by decide) ?_
    refine lv_icmp_ne (tgt := 19) hx hb dX9_mean_6 (by decide) (fun c23 => ?_) (fun c23 => ?_)
    · skip
      have ic23 := tn_ne rfl kI_1 c23
      refine lv_ldc2 (v := -9223372036854775808) hx hb E.2.2.2.1 (E.2.2.2.2.1 _ (t_w5 161 rfl rfl)) dX9_mean_19 ?_
      exact tc_lret E hr hlk hG trivial dX9_mean_22
    · skip
      have ic23 := tn_eq rfl kI_1 c23
      exact J9 H locs ls hG (lv_sub hl [0, 1] rfl) (by omega) (by omega)

set_option maxHeartbeats 4000000 in
set_option maxRecDepth 100000 in
theorem c_X9_likely (l : Launch) (G : tG) (τ : Nat → Nat) (h0 : Nat) (x1 : Int32) (x2 : Int32) (t0 : τ h0 = 1) : Met l yX9_likely (.code yX9_likely cX9_likely 4 (some .long) :: tWS) (tRm 1093 15102) (va_Pc [.ref h0, .int x1, .int x2] (tPre G τ)) (tQl G τ (fun r => True)) 0 0 (tA τ) := by
  refine tc_met (by decide) (Nat.le_of_ble_eq_true rfl) ?_
  intro p e s m below meth c E hSt hr hlk hG ls hl
  have hl : lv_has ls 4 [(0, .ref h0), (1, .int x1), (2, .int x2)] := hl
  have hx := E.1
  have hb := E.2.1
  obtain ⟨H, eH⟩ : ∃ H, H = s.heap := ⟨_, rfl⟩
  obtain ⟨locs, eL⟩ : ∃ x : List Loc, x = [] := ⟨_, rfl⟩
  have hG : tGH G τ s H locs := by rw [eH, eL]; exact hG
  suffices hW : W p l e (tRm 1093 15102) s m ([.ref h0, .int x1, .int x2] : List Value).toArray below meth c H locs 0 0 (MQ below (tQl G τ (fun r => True)) ([.ref h0, .int x1, .int x2] : List Value).toArray s 0 0 (tA τ)) (F0 m 0 ls []) by subst eH; subst eL; exact hW
  clear eH eL
  have J20 : ∀ (H : Heap) (locs : List Loc) (ls : Array Slot), tGH G τ s H locs → lv_has ls 4 [(0, .ref h0), (1, .int x1), (2, .int x2)] → 2 ≤ x1.toInt → x1.toInt ≤ 20 → 0 ≤ x2.toInt → x2.toInt ≤ 1 → W p l e (tRm 1093 15102) s m ([.ref h0, .int x1, .int x2] : List Value).toArray below meth c H locs 0 0 (MQ below (tQl G τ (fun r => True)) ([.ref h0, .int x1, .int x2] : List Value).toArray s 0 0 (tA τ)) (F0 m 20 ls []) := by
    intro H locs ls hG hl bp1 cp1 bp2 cp2
    refine lv_aload_n hx hb dX9_likely_20 rfl (lv_at hl 0 rfl) ?_
    refine tc_getr E hG t0 fr_X9_33 dX9_likely_21 (fun oa1 hoa1 => ?_)
    refine tc_callp (tc_runV (As := []) (rest := []) E hSt hG (c_X7_isTired l G τ oa1 hoa1) hoa1 rv_6 kv_X7_isTired ml_X9_287 ⟨rfl, rfl, Nat.le_of_ble_eq_true rfl, Nat.le_of_ble_eq_true rfl⟩ rfl hl.1 rfl (Nat.le_of_ble_eq_true rfl) ⟨Nat.zero_le _, Nat.zero_le _⟩ dX9_likely_24) (fun r2 pr2 => ?_)
    have pr2 : 0 ≤ r2.toInt ∧ r2.toInt ≤ 1 := pr2
    refine lv_if_eq (tgt := 34) hx hb dX9_likely_27 (by decide) (fun c3 => ?_) (fun c3 => ?_)
    · skip
      have ic3 := tn_eq rfl kI_0 c3
      refine lv_aload_n hx hb dX9_likely_34 rfl (lv_at hl 0 rfl) ?_
      refine tc_getr E hG t0 fr_X9_33 dX9_likely_35 (fun oa4 hoa4 => ?_)
      refine tc_calli hG (tc_runV (As := []) (rest := []) E hSt hG (c_X7_gatherBlocks l G τ oa4 hoa4) hoa4 rv_6 kv_X7_gatherBlocks ml_X9_317 ⟨rfl, rfl, Nat.le_of_ble_eq_true rfl, Nat.le_of_ble_eq_true rfl⟩ rfl hl.1 rfl (Nat.le_of_ble_eq_true rfl) ⟨Nat.zero_le _, Nat.zero_le _⟩ dX9_likely_38) (fun r5 H locs pr5 hG => ?_)
      have pr5 : 0 ≤ r5.toInt ∧ r5.toInt ≤ 6 := pr5
      refine lv_istore_n (lv' := [(3, .int r5), (0, .ref h0), (1, .int x1), (2, .int x2)]) hx hb dX9_likely_41 rfl hl (by decide) rfl (fun ls hl => ?_)
      refine lv_aload_n hx hb dX9_likely_42 rfl (lv_at hl 1 rfl) ?_
      refine tc_getr E hG t0 fr_X9_33 dX9_likely_43 (fun oa6 hoa6 => ?_)
      refine lv_iload_n hx hb dX9_likely_46 rfl (lv_at hl 0 rfl) ?_
      refine lv_iload_n hx hb dX9_likely_47 rfl (lv_at hl 2 rfl) ?_
      refine tc_calll hG (tc_runV (As := [.int r5, .int x1]) (rest := []) E hSt hG (c_X7_waysWithoutOver l G τ oa6 r5 x1 hoa6 (by omega) (by omega)) hoa6 rv_6 kv_X7_waysWithoutOver ml_X9_320 ⟨rfl, rfl, Nat.le_of_ble_eq_true rfl, Nat.le_of_ble_eq_true rfl⟩ rfl hl.1 rfl (Nat.le_of_ble_eq_true rfl) ⟨Nat.zero_le _, Nat.zero_le _⟩ dX9_likely_48) (fun r7 H locs pr7 hG => ?_)
      refine lv_iload_n hx hb dX9_likely_51 rfl (lv_at hl 2 rfl) ?_
      refine lv_i2l hx hb dX9_likely_52 rfl ?_
      refine lv_topl (fun z8 ez8 => ?_)
      refine lv_iload_n hx hb dX9_likely_53 rfl (lv_at hl 0 rfl) ?_
      refine tc_callpl (tc_runS (As := [.long z8, .int r5]) (rest := [.long r7]) E hSt hG (c_X9_power l G τ z8 r5) ks_X9_power ml_X9_324 ⟨rfl, rfl, Nat.le_of_ble_eq_true rfl, Nat.le_of_ble_eq_true rfl⟩ rfl hl.1 rfl (Nat.le_of_ble_eq_true rfl) ⟨Nat.zero_le _, Nat.zero_le _⟩ dX9_likely_54) (fun r9 pr9 => ?_)
      refine lv_iload_n hx hb dX9_likely_57 rfl (lv_at hl 3 rfl) ?_
      refine tc_callpl (tc_runS (As := [.long r7, .long r9, .int x2]) (rest := []) E hSt hG (c_X9_partOfFraction l G τ r7 r9 x2) ks_X9_partOfFraction ml_X9_328 ⟨rfl, rfl, Nat.le_of_ble_eq_true rfl, Nat.le_of_ble_eq_true rfl⟩ rfl hl.1 rfl (Nat.le_of_ble_eq_true rfl) ⟨Nat.zero_le _, Nat.zero_le _⟩ dX9_likely_58) (fun r10 pr10 => ?_)
      exact tc_lret E hr hlk hG trivial dX9_likely_61
    · skip
      have ic3 := tn_ne rfl kI_0 c3
      refine lv_ldc2 (v := -9223372036854775808) hx hb E.2.2.2.1 (E.2.2.2.2.1 _ (t_w5 161 rfl rfl)) dX9_likely_30 ?_
      exact tc_lret E hr hlk hG trivial dX9_likely_33
  refine lv_iload_n hx hb dX9_likely_0 rfl (lv_at hl 1 rfl) ?_
  refine lv_iconst (v := 2) hx hb dX9_likely_1 (by decide) ?_
  refine lv_icmp_lt (tgt := 30) hx hb dX9_likely_2 (by decide) (fun c11 => ?_) (fun c11 => ?_)
  · skip
    have ic11 := tn_lt rfl kI_2 c11
    refine lv_ldc2 (v := -9223372036854775808) hx hb E.2.2.2.1 (E.2.2.2.2.1 _ (t_w5 161 rfl rfl)) dX9_likely_30 ?_
    exact tc_lret E hr hlk hG trivial dX9_likely_33
  · skip
    have ic11 := tn_nlt rfl kI_2 c11
    refine lv_iload_n hx hb dX9_likely_5 rfl (lv_at hl 1 rfl) ?_
    refine lv_bipush (v := 20) hx hb dX9_likely_6 (by decide) ?_
    refine lv_icmp_gt (tgt := 30) hx hb dX9_likely_8 (by decide) (fun c12 => ?_) (fun c12 => ?_)
    · skip
      have ic12 := tn_lt kI_20 rfl c12
      refine lv_ldc2 (v := -9223372036854775808) hx hb E.2.2.2.1 (E.2.2.2.2.1 _ (t_w5 161 rfl rfl)) dX9_likely_30 ?_
      exact tc_lret E hr hlk hG trivial dX9_likely_33
    · skip
      have ic12 := tn_nlt kI_20 rfl c12
      refine lv_iload_n hx hb dX9_likely_11 rfl (lv_at hl 2 rfl) ?_
      refine lv_if_eq (tgt := 20) hx hb dX9_likely_12 (by decide) (fun c13 => ?_) (fun c13 => ?_)
      · skip
        have ic13 := tn_eq rfl kI_0 c13
        exact J20 H locs ls hG (lv_sub hl [0, 1, 2] rfl) (by omega) (by omega) (by omega) (by omega)
      · skip
        have ic13 := tn_ne rfl kI_0 c13
        refine lv_iload_n hx hb dX9_likely_15 rfl (lv_at hl 2 rfl) ?_
        refine lv_iconst (v := 1) hx hb dX9_likely_16 (by decide) ?_
        refine lv_icmp_ne (tgt := 30) hx hb dX9_likely_17 (by decide) (fun c14 => ?_) (fun c14 => ?_)
        · skip
          have ic14 := tn_ne rfl kI_1 c14
          refine lv_ldc2 (v := -9223372036854775808) hx hb E.2.2.2.1 (E.2.2.2.2.1 _ (t_w5 161 rfl rfl)) dX9_likely_30 ?_
          exact tc_lret E hr hlk hG trivial dX9_likely_33
        · skip
          have ic14 := tn_eq rfl kI_1 c14
          exact J20 H locs ls hG (lv_sub hl [0, 1, 2] rfl) (by omega) (by omega) (by omega) (by omega)
