section WYV
variable {p : Program} {l : Launch} {e : Env} {R : Room} {s : State} {m : MethodId} {args : Array Value} {below : List Frame} {meth : Method} {c : Code} {H : Heap} {locs : List Loc} {Q : State → Prop} {pc : Nat} {ls : Array Slot} {rest st0 : List Value} {G : tG} {cells slots : Nat}
theorem wc_callv {post : wT → Prop} {av : Array Value} (hS : va_S (wA G) s.heap H locs) (hr : va_Run p l e R s m args below meth c H locs cells slots 0 0 (F0 m pc ls st0) rest (wQv G post av) (wA G))
    (kk : ∀ (Z : wT) (H1 : Heap) (locs1 : List Loc), post Z → wTH G Z H1 → va_S (wA G) s.heap H1 locs1 → W p l e R s m args below meth c H1 locs1 cells slots Q (F0 m (pc + 3) ls rest)) : W p l e R s m args below meth c H locs cells slots Q (F0 m pc ls st0) :=
  va_callv hr hS (fun _ _ h => h) (fun _ h => h) (fun Z t H1 locs1 ht _ hp hB _ _ hS => kk Z H1 locs1 hp (ht ▸ hB) hS)
end WYV
/-! ===== the face's methods on tapes ===== -/
set_option maxHeartbeats 4000000 in
set_option maxRecDepth 100000 in
theorem w_X6_hasPlace (l : Launch) (G : tG) (τ : Nat → Nat) (T : wT) (n : Nat) (x1 : Int32) (hn : n < 4) (hI : wIn T) : Met l yX6_hasPlace (.code yX6_hasPlace cX6_hasPlace 2 (some .boolean) :: tWS) (tRm 0 0) (va_Pc [.ref (G.2.2.1 (6 + n)), .int x1] (wPre G τ T)) (tQp (fun r => (r.toInt = 1 ∧ 0 ≤ x1.toInt ∧ x1.toInt < (T.2 n).toInt) ∨ (r.toInt = 0 ∧ (x1.toInt < 0 ∨ (T.2 n).toInt ≤ x1.toInt)))) 0 0 tNo := by
  refine wc_met (by decide) (Nat.le_of_ble_eq_true rfl) ?_
  intro p e s m below meth c E hSw hr hlk hG hWd ls hl
  have hl : lv_has ls 2 [(0, .ref (G.2.2.1 (6 + n))), (1, .int x1)] := hl
  have hx := E.1
  have hb := E.2.1
  have hSt : tSt G (tA τ) s := hSw.narrow (fun q h => Or.inl h)
  obtain ⟨H, eH⟩ : ∃ H, H = s.heap := ⟨_, rfl⟩
  obtain ⟨locs, eL⟩ : ∃ x : List Loc, x = [] := ⟨_, rfl⟩
  have hG : tGH G τ s H locs := by rw [eH, eL]; exact hG
  have hWd : wTH G T H := by rw [eH]; exact hWd
  have hS : va_S (wA G) s.heap H locs := by rw [eH, eL]; exact va_S.rf
  suffices hW : W p l e (tRm 0 0) s m ([.ref (G.2.2.1 (6 + n)), .int x1] : List Value).toArray below meth c H locs 0 0 (MQ below (tQp (fun r => (r.toInt = 1 ∧ 0 ≤ x1.toInt ∧ x1.toInt < (T.2 n).toInt) ∨ (r.toInt = 0 ∧ (x1.toInt < 0 ∨ (T.2 n).toInt ≤ x1.toInt)))) ([.ref (G.2.2.1 (6 + n)), .int x1] : List Value).toArray s 0 0 tNo) (F0 m 0 ls []) by subst eH; subst eL; exact hW
  have hI9 := hI n hn
  refine lv_iload_n hx hb dX6_hasPlace_0 rfl (lv_at hl 1 rfl) ?_
  refine lv_if_lt (tgt := 16) hx hb dX6_hasPlace_1 (by decide) (fun c1 => ?_) (fun c1 => ?_)
  · skip
    have ic1 := tn_lt rfl kI_0 c1
    refine lv_iconst (v := 0) hx hb dX6_hasPlace_16 (by decide) ?_
    exact tc_pret E hr hlk eH eL (t_nz (by decide) (by decide)).1 (show ((0 : Int32).toInt = 1 ∧ 0 ≤ x1.toInt ∧ x1.toInt < (T.2 n).toInt) ∨ ((0 : Int32).toInt = 0 ∧ (x1.toInt < 0 ∨ (T.2 n).toInt ≤ x1.toInt)) by have kk := kI_0; omega) dX6_hasPlace_17
  · skip
    have ic1 := tn_nlt rfl kI_0 c1
    refine lv_iload_n hx hb dX6_hasPlace_4 rfl (lv_at hl 1 rfl) ?_
    refine lv_aload_n hx hb dX6_hasPlace_5 rfl (lv_at hl 0 rfl) ?_
    refine wc_len E hWd hn (wFi fi_X6_19) dX6_hasPlace_6 ?_
    refine lv_icmp_ge (tgt := 16) hx hb dX6_hasPlace_9 (by decide) (fun c3 => ?_) (fun c3 => ?_)
    · skip
      have ic3 := tn_le rfl rfl c3
      refine lv_iconst (v := 0) hx hb dX6_hasPlace_16 (by decide) ?_
      exact tc_pret E hr hlk eH eL (t_nz (by decide) (by decide)).1 (show ((0 : Int32).toInt = 1 ∧ 0 ≤ x1.toInt ∧ x1.toInt < (T.2 n).toInt) ∨ ((0 : Int32).toInt = 0 ∧ (x1.toInt < 0 ∨ (T.2 n).toInt ≤ x1.toInt)) by have kk := kI_0; omega) dX6_hasPlace_17
    · skip
      have ic3 := tn_nle rfl rfl c3
      refine lv_iconst (v := 1) hx hb dX6_hasPlace_12 (by decide) ?_
      refine lv_goto (tgt := 17) hx hb dX6_hasPlace_13 (by decide) ?_
      exact tc_pret E hr hlk eH eL (t_nz (by decide) (by decide)).1 (show ((1 : Int32).toInt = 1 ∧ 0 ≤ x1.toInt ∧ x1.toInt < (T.2 n).toInt) ∨ ((1 : Int32).toInt = 0 ∧ (x1.toInt < 0 ∨ (T.2 n).toInt ≤ x1.toInt)) by have kk := kI_1; omega) dX6_hasPlace_17

set_option maxHeartbeats 4000000 in
set_option maxRecDepth 100000 in
theorem w_X6_hasRun (l : Launch) (G : tG) (τ : Nat → Nat) (T : wT) (n : Nat) (x1 : Int32) (x2 : Int32) (hn : n < 4) (hI : wIn T) : Met l yX6_hasRun (.code yX6_hasRun cX6_hasRun 3 (some .boolean) :: tWS) (tRm 0 0) (va_Pc [.ref (G.2.2.1 (6 + n)), .int x1, .int x2] (wPre G τ T)) (tQp (fun r => (r.toInt = 1 ∧ 0 ≤ x1.toInt ∧ 0 ≤ x2.toInt ∧ x1.toInt + x2.toInt ≤ (T.2 n).toInt) ∨ (r.toInt = 0 ∧ (x1.toInt < 0 ∨ x2.toInt < 0 ∨ (T.2 n).toInt < x1.toInt + x2.toInt)))) 0 0 tNo := by
  refine wc_met (by decide) (Nat.le_of_ble_eq_true rfl) ?_
  intro p e s m below meth c E hSw hr hlk hG hWd ls hl
  have hl : lv_has ls 3 [(0, .ref (G.2.2.1 (6 + n))), (1, .int x1), (2, .int x2)] := hl
  have hx := E.1
  have hb := E.2.1
  have hSt : tSt G (tA τ) s := hSw.narrow (fun q h => Or.inl h)
  obtain ⟨H, eH⟩ : ∃ H, H = s.heap := ⟨_, rfl⟩
  obtain ⟨locs, eL⟩ : ∃ x : List Loc, x = [] := ⟨_, rfl⟩
  have hG : tGH G τ s H locs := by rw [eH, eL]; exact hG
  have hWd : wTH G T H := by rw [eH]; exact hWd
  have hS : va_S (wA G) s.heap H locs := by rw [eH, eL]; exact va_S.rf
  suffices hW : W p l e (tRm 0 0) s m ([.ref (G.2.2.1 (6 + n)), .int x1, .int x2] : List Value).toArray below meth c H locs 0 0 (MQ below (tQp (fun r => (r.toInt = 1 ∧ 0 ≤ x1.toInt ∧ 0 ≤ x2.toInt ∧ x1.toInt + x2.toInt ≤ (T.2 n).toInt) ∨ (r.toInt = 0 ∧ (x1.toInt < 0 ∨ x2.toInt < 0 ∨ (T.2 n).toInt < x1.toInt + x2.toInt)))) ([.ref (G.2.2.1 (6 + n)), .int x1, .int x2] : List Value).toArray s 0 0 tNo) (F0 m 0 ls []) by subst eH; subst eL; exact hW
  have hI9 := hI n hn
  refine lv_iload_n hx hb dX6_hasRun_0 rfl (lv_at hl 2 rfl) ?_
  refine lv_if_lt (tgt := 30) hx hb dX6_hasRun_1 (by decide) (fun c1 => ?_) (fun c1 => ?_)
  · skip
    have ic1 := tn_lt rfl kI_0 c1
    refine lv_iconst (v := 0) hx hb dX6_hasRun_30 (by decide) ?_
    exact tc_pret E hr hlk eH eL (t_nz (by decide) (by decide)).1 (show ((0 : Int32).toInt = 1 ∧ 0 ≤ x1.toInt ∧ 0 ≤ x2.toInt ∧ x1.toInt + x2.toInt ≤ (T.2 n).toInt) ∨ ((0 : Int32).toInt = 0 ∧ (x1.toInt < 0 ∨ x2.toInt < 0 ∨ (T.2 n).toInt < x1.toInt + x2.toInt)) by have kk := kI_0; omega) dX6_hasRun_31
  · skip
    have ic1 := tn_nlt rfl kI_0 c1
    refine lv_iload_n hx hb dX6_hasRun_4 rfl (lv_at hl 1 rfl) ?_
    refine lv_if_lt (tgt := 30) hx hb dX6_hasRun_5 (by decide) (fun c2 => ?_) (fun c2 => ?_)
    · skip
      have ic2 := tn_lt rfl kI_0 c2
      refine lv_iconst (v := 0) hx hb dX6_hasRun_30 (by decide) ?_
      exact tc_pret E hr hlk eH eL (t_nz (by decide) (by decide)).1 (show ((0 : Int32).toInt = 1 ∧ 0 ≤ x1.toInt ∧ 0 ≤ x2.toInt ∧ x1.toInt + x2.toInt ≤ (T.2 n).toInt) ∨ ((0 : Int32).toInt = 0 ∧ (x1.toInt < 0 ∨ x2.toInt < 0 ∨ (T.2 n).toInt < x1.toInt + x2.toInt)) by have kk := kI_0; omega) dX6_hasRun_31
    · skip
      have ic2 := tn_nlt rfl kI_0 c2
      refine lv_iload_n hx hb dX6_hasRun_8 rfl (lv_at hl 2 rfl) ?_
      refine lv_aload_n hx hb dX6_hasRun_9 rfl (lv_at hl 0 rfl) ?_
      refine wc_len E hWd hn (wFi fi_X6_19) dX6_hasRun_10 ?_
      refine lv_icmp_gt (tgt := 30) hx hb dX6_hasRun_13 (by decide) (fun c5 => ?_) (fun c5 => ?_)
      · skip
        have ic5 := tn_lt rfl rfl c5
        refine lv_iconst (v := 0) hx hb dX6_hasRun_30 (by decide) ?_
        exact tc_pret E hr hlk eH eL (t_nz (by decide) (by decide)).1 (show ((0 : Int32).toInt = 1 ∧ 0 ≤ x1.toInt ∧ 0 ≤ x2.toInt ∧ x1.toInt + x2.toInt ≤ (T.2 n).toInt) ∨ ((0 : Int32).toInt = 0 ∧ (x1.toInt < 0 ∨ x2.toInt < 0 ∨ (T.2 n).toInt < x1.toInt + x2.toInt)) by have kk := kI_0; omega) dX6_hasRun_31
      · skip
        have ic5 := tn_nlt rfl rfl c5
        refine lv_iload_n hx hb dX6_hasRun_16 rfl (lv_at hl 1 rfl) ?_
        refine lv_aload_n hx hb dX6_hasRun_17 rfl (lv_at hl 0 rfl) ?_
        refine wc_len E hWd hn (wFi fi_X6_19) dX6_hasRun_18 ?_
        refine lv_iload_n hx hb dX6_hasRun_21 rfl (lv_at hl 2 rfl) ?_
        refine lv_isub hx hb dX6_hasRun_22 ?_
        refine lv_topi (fun z6 ez6 => ?_)
        have tz6 := tn_sub ez6 rfl rfl (by omega) (by omega)
        refine lv_icmp_gt (tgt := 30) hx hb dX6_hasRun_23 (by decide) (fun c7 => ?_) (fun c7 => ?_)
        · skip
          have ic7 := tn_lt rfl rfl c7
          refine lv_iconst (v := 0) hx hb dX6_hasRun_30 (by decide) ?_
          exact tc_pret E hr hlk eH eL (t_nz (by decide) (by decide)).1 (show ((0 : Int32).toInt = 1 ∧ 0 ≤ x1.toInt ∧ 0 ≤ x2.toInt ∧ x1.toInt + x2.toInt ≤ (T.2 n).toInt) ∨ ((0 : Int32).toInt = 0 ∧ (x1.toInt < 0 ∨ x2.toInt < 0 ∨ (T.2 n).toInt < x1.toInt + x2.toInt)) by have kk := kI_0; omega) dX6_hasRun_31
        · skip
          have ic7 := tn_nlt rfl rfl c7
          refine lv_iconst (v := 1) hx hb dX6_hasRun_26 (by decide) ?_
          refine lv_goto (tgt := 31) hx hb dX6_hasRun_27 (by decide) ?_
          exact tc_pret E hr hlk eH eL (t_nz (by decide) (by decide)).1 (show ((1 : Int32).toInt = 1 ∧ 0 ≤ x1.toInt ∧ 0 ≤ x2.toInt ∧ x1.toInt + x2.toInt ≤ (T.2 n).toInt) ∨ ((1 : Int32).toInt = 0 ∧ (x1.toInt < 0 ∨ x2.toInt < 0 ∨ (T.2 n).toInt < x1.toInt + x2.toInt)) by have kk := kI_1; omega) dX6_hasRun_31

set_option maxHeartbeats 4000000 in
set_option maxRecDepth 100000 in
theorem w_X6_cutToSort (l : Launch) (G : tG) (τ : Nat → Nat) (T : wT) (n : Nat) (x1 : Int64) (hn : n < 4) (hI : wIn T) : Met l yX6_cutToSort (.code yX6_cutToSort cX6_cutToSort 3 (some .long) :: tWS) (tRm 0 0) (va_Pc [.ref (G.2.2.1 (6 + n)), .long x1] (wPre G τ T)) (tQpl (fun r => True)) 0 0 tNo := by
  refine wc_met (by decide) (Nat.le_of_ble_eq_true rfl) ?_
  intro p e s m below meth c E hSw hr hlk hG hWd ls hl
  have hl : lv_has ls 3 [(0, .ref (G.2.2.1 (6 + n))), (1, .long x1)] := hl
  have hx := E.1
  have hb := E.2.1
  have hSt : tSt G (tA τ) s := hSw.narrow (fun q h => Or.inl h)
  obtain ⟨H, eH⟩ : ∃ H, H = s.heap := ⟨_, rfl⟩
  obtain ⟨locs, eL⟩ : ∃ x : List Loc, x = [] := ⟨_, rfl⟩
  have hG : tGH G τ s H locs := by rw [eH, eL]; exact hG
  have hWd : wTH G T H := by rw [eH]; exact hWd
  have hS : va_S (wA G) s.heap H locs := by rw [eH, eL]; exact va_S.rf
  suffices hW : W p l e (tRm 0 0) s m ([.ref (G.2.2.1 (6 + n)), .long x1] : List Value).toArray below meth c H locs 0 0 (MQ below (tQpl (fun r => True)) ([.ref (G.2.2.1 (6 + n)), .long x1] : List Value).toArray s 0 0 tNo) (F0 m 0 ls []) by subst eH; subst eL; exact hW
  have hI9 := hI n hn
  refine lv_aload_n hx hb dX6_cutToSort_0 rfl (lv_at hl 0 rfl) ?_
  refine wc_sort E hWd hn (wFi fi_X6_15) dX6_cutToSort_1 ?_
  generalize T.1 n = z1
  rcases (show (z1.toInt < 0 ∨ 2 < z1.toInt) ∨ z1.toInt = 0 ∨ z1.toInt = 1 ∨ z1.toInt = 2 by omega) with k2 | k2 | k2 | k2
  · refine lv_tableOut (tgt := 46) hx hb dX6_cutToSort_4 k2 (by decide) ?_
    refine lv_lload_n hx hb dX6_cutToSort_46 rfl (lv_at hl 1 rfl) ?_
    exact tc_plret E hr hlk eH eL trivial dX6_cutToSort_47
  · refine lv_tableIn (off := 28) (tgt := 32) hx hb dX6_cutToSort_4 (by rw [k2]; decide) (by rw [k2]; decide) (by rw [k2]; rfl) (by decide) ?_
    refine lv_lload_n hx hb dX6_cutToSort_32 rfl (lv_at hl 1 rfl) ?_
    refine lv_l2i hx hb dX6_cutToSort_33 rfl ?_
    refine lv_topi (fun z3 ez3 => ?_)
    refine lv_i2b hx hb dX6_cutToSort_34 rfl ?_
    refine lv_topi (fun z4 ez4 => ?_)
    refine lv_i2l hx hb dX6_cutToSort_35 rfl ?_
    refine lv_topl (fun z5 ez5 => ?_)
    exact tc_plret E hr hlk eH eL trivial dX6_cutToSort_36
  · refine lv_tableIn (off := 33) (tgt := 37) hx hb dX6_cutToSort_4 (by rw [k2]; decide) (by rw [k2]; decide) (by rw [k2]; rfl) (by decide) ?_
    refine lv_lload_n hx hb dX6_cutToSort_37 rfl (lv_at hl 1 rfl) ?_
    refine lv_l2i hx hb dX6_cutToSort_38 rfl ?_
    refine lv_topi (fun z6 ez6 => ?_)
    refine lv_i2s hx hb dX6_cutToSort_39 rfl ?_
    refine lv_topi (fun z7 ez7 => ?_)
    refine lv_i2l hx hb dX6_cutToSort_40 rfl ?_
    refine lv_topl (fun z8 ez8 => ?_)
    exact tc_plret E hr hlk eH eL trivial dX6_cutToSort_41
  · refine lv_tableIn (off := 38) (tgt := 42) hx hb dX6_cutToSort_4 (by rw [k2]; decide) (by rw [k2]; decide) (by rw [k2]; rfl) (by decide) ?_
    refine lv_lload_n hx hb dX6_cutToSort_42 rfl (lv_at hl 1 rfl) ?_
    refine lv_l2i hx hb dX6_cutToSort_43 rfl ?_
    refine lv_topi (fun z9 ez9 => ?_)
    refine lv_i2l hx hb dX6_cutToSort_44 rfl ?_
    refine lv_topl (fun z10 ez10 => ?_)
    exact tc_plret E hr hlk eH eL trivial dX6_cutToSort_45

set_option maxHeartbeats 4000000 in
set_option maxRecDepth 100000 in
theorem w_X6_clearTo (l : Launch) (G : tG) (τ : Nat → Nat) (T : wT) (n : Nat) (x1 : Int32) (x2 : Int32) (hn : n < 4) (hD : wDn G 18) : Met l yX6_clearTo (.code yX6_clearTo cX6_clearTo 3 none :: tWS) (tRm 1 24) (va_Pc [.ref (G.2.2.1 (6 + n)), .int x1, .int x2] (wPre G τ T)) (wQv G (fun Z => Z = (up1 T.1 n x1, up1 T.2 n x2))) 0 0 (wA G) := by
  refine wc_met (by decide) (Nat.le_of_ble_eq_true rfl) ?_
  intro p e s m below meth c E hSw hr hlk hG hWd ls hl
  have hl : lv_has ls 3 [(0, .ref (G.2.2.1 (6 + n))), (1, .int x1), (2, .int x2)] := hl
  have hx := E.1
  have hb := E.2.1
  have hSt : tSt G (tA τ) s := hSw.narrow (fun q h => Or.inl h)
  obtain ⟨H, eH⟩ : ∃ H, H = s.heap := ⟨_, rfl⟩
  obtain ⟨locs, eL⟩ : ∃ x : List Loc, x = [] := ⟨_, rfl⟩
  have hG : tGH G τ s H locs := by rw [eH, eL]; exact hG
  have hWd : wTH G T H := by rw [eH]; exact hWd
  have hS : va_S (wA G) s.heap H locs := by rw [eH, eL]; exact va_S.rf
  suffices hW : W p l e (tRm 1 24) s m ([.ref (G.2.2.1 (6 + n)), .int x1, .int x2] : List Value).toArray below meth c H locs 0 0 (MQ below (wQv G (fun Z => Z = (up1 T.1 n x1, up1 T.2 n x2))) ([.ref (G.2.2.1 (6 + n)), .int x1, .int x2] : List Value).toArray s 0 0 (wA G)) (F0 m 0 ls []) by subst eH; subst eL; exact hW
  refine lv_aload_n hx hb dX6_clearTo_0 rfl (lv_at hl 0 rfl) ?_
  refine lv_iload_n hx hb dX6_clearTo_1 rfl (lv_at hl 1 rfl) ?_
  refine wc_put1 E hD hWd hS hn (wFp fp_X6_15) dX6_clearTo_2 (fun H locs hWd hS => ?_)
  refine lv_aload_n hx hb dX6_clearTo_5 rfl (lv_at hl 0 rfl) ?_
  refine lv_iload_n hx hb dX6_clearTo_6 rfl (lv_at hl 2 rfl) ?_
  refine wc_put2 E hD hWd hS hn (wFp fp_X6_19) dX6_clearTo_7 (fun H locs hWd hS => ?_)
  refine lv_aload_n hx hb dX6_clearTo_10 rfl (lv_at hl 0 rfl) ?_
  refine wc_its E hWd hn (wFr fr_X6_9) dX6_clearTo_11 ?_
  refine lv_lconst (v := 0) hx hb dX6_clearTo_14 (by decide) ?_
  refine wc_fill (rest := []) E hSw hD hWd hS hn ml_X6_22 ⟨Nat.le_of_ble_eq_true rfl, Nat.le_of_ble_eq_true rfl⟩ hl.1 (Nat.le_of_ble_eq_true rfl) ⟨Nat.zero_le _, Nat.zero_le _⟩ dX6_clearTo_15 (fun H locs hWd hS => ?_)
  exact wc_vret E hr hlk hWd hS rfl dX6_clearTo_18

set_option maxHeartbeats 4000000 in
set_option maxRecDepth 100000 in
theorem w_X9_item (l : Launch) (G : tG) (τ : Nat → Nat) (T : wT) (h0 : Nat) (x1 : Int32) (x2 : Int32) (x3 : Int64) (t0 : τ h0 = 1) (hI : wIn T) (hD : wDn G 18) : Met l yX9_item (.code yX9_item cX9_item 6 (some .int) :: tWS) (tRm 1 22) (va_Pc [.ref h0, .int x1, .int x2, .long x3] (wPre G τ T)) (wQi G (fun r Z => r.toInt = wItem T x1.toInt x2.toInt ∧ Z = T)) 0 0 (wA G) := by
  refine wc_met (by decide) (Nat.le_of_ble_eq_true rfl) ?_
  intro p e s m below meth c E hSw hr hlk hG hWd ls hl
  have hl : lv_has ls 6 [(0, .ref h0), (1, .int x1), (2, .int x2), (3, .long x3)] := hl
  have hx := E.1
  have hb := E.2.1
  have hSt : tSt G (tA τ) s := hSw.narrow (fun q h => Or.inl h)
  obtain ⟨H, eH⟩ : ∃ H, H = s.heap := ⟨_, rfl⟩
  obtain ⟨locs, eL⟩ : ∃ x : List Loc, x = [] := ⟨_, rfl⟩
  have hG : tGH G τ s H locs := by rw [eH, eL]; exact hG
  have hWd : wTH G T H := by rw [eH]; exact hWd
  have hS : va_S (wA G) s.heap H locs := by rw [eH, eL]; exact va_S.rf
  suffices hW : W p l e (tRm 1 22) s m ([.ref h0, .int x1, .int x2, .long x3] : List Value).toArray below meth c H locs 0 0 (MQ below (wQi G (fun r Z => r.toInt = wItem T x1.toInt x2.toInt ∧ Z = T)) ([.ref h0, .int x1, .int x2, .long x3] : List Value).toArray s 0 0 (wA G)) (F0 m 0 ls []) by subst eH; subst eL; exact hW
  refine lv_iload_n hx hb dX9_item_0 rfl (lv_at hl 1 rfl) ?_
  refine tc_callp (tc_runS (As := [.int x1]) (rest := []) E hSt hG (c_X9_isTape l G τ x1) ks_X9_isTape ml_X9_347 ⟨rfl, rfl, Nat.le_of_ble_eq_true rfl, Nat.le_of_ble_eq_true rfl⟩ rfl hl.1 rfl (Nat.le_of_ble_eq_true rfl) ⟨Nat.zero_le _, Nat.zero_le _⟩ dX9_item_1) (fun r1 pr1 => ?_)
  have pr1 : (0 ≤ r1.toInt ∧ r1.toInt ≤ 1) ∧ (r1.toInt = 0 ∨ (0 ≤ x1.toInt ∧ x1.toInt ≤ 3)) ∧ (r1.toInt = 1 ∨ x1.toInt < 0 ∨ 3 < x1.toInt) := pr1
  refine lv_if_ne (tgt := 9) hx hb dX9_item_4 (by decide) (fun c2 => ?_) (fun c2 => ?_)
  · skip
    have ic2 := tn_ne rfl kI_0 c2
    refine lv_aload_n hx hb dX9_item_9 rfl (lv_at hl 0 rfl) ?_
    refine wc_tps E hG t0 ff_X9_57 dX9_item_10 ?_
    refine lv_iload_n hx hb dX9_item_13 rfl (lv_at hl 1 rfl) ?_
    refine wc_tap E hWd (t_in (by omega) (by omega)) dX9_item_14 (fun n4 en4 hn4 => ?_)
    refine lv_astore (lv' := [(5, .ref (G.2.2.1 (6 + n4))), (0, .ref h0), (1, .int x1), (2, .int x2), (3, .long x3)]) hx hb dX9_item_15 hl (by decide) rfl (fun ls hl => ?_)
    refine lv_aload hx hb dX9_item_17 (lv_at hl 0 rfl) ?_
    refine wc_sort E hWd hn4 (wFi fi_X9_350) dX9_item_19 ?_
    refine lv_iconst (v := -1) hx hb dX9_item_22 (by decide) ?_
    refine lv_icmp_ne (tgt := 29) hx hb dX9_item_23 (by decide) (fun c6 => ?_) (fun c6 => ?_)
    · skip
      have ic6 := tn_ne rfl kI_m1 c6
      refine lv_aload hx hb dX9_item_29 (lv_at hl 0 rfl) ?_
      refine lv_iload_n hx hb dX9_item_31 rfl (lv_at hl 3 rfl) ?_
      refine tc_callp (wc_runV (As := [.int x2]) (rest := []) E hSw hG eH hWd hn4 (w_X6_hasPlace l G τ T n4 x2 hn4 hI) rfl kv_X6_hasPlace ml_X9_360 ⟨rfl, rfl, Nat.le_of_ble_eq_true rfl, Nat.le_of_ble_eq_true rfl⟩ rfl hl.1 rfl (Nat.le_of_ble_eq_true rfl) ⟨Nat.zero_le _, Nat.zero_le _⟩ dX9_item_32) (fun r7 pr7 => ?_)
      have pr7 : (r7.toInt = 1 ∧ 0 ≤ x2.toInt ∧ x2.toInt < (T.2 n4).toInt) ∨ (r7.toInt = 0 ∧ (x2.toInt < 0 ∨ (T.2 n4).toInt ≤ x2.toInt)) := pr7
      have hI9 := hI n4 hn4
      refine lv_if_ne (tgt := 41) hx hb dX9_item_35 (by decide) (fun c8 => ?_) (fun c8 => ?_)
      · skip
        have ic8 := tn_ne rfl kI_0 c8
        refine lv_aload hx hb dX9_item_41 (lv_at hl 0 rfl) ?_
        refine wc_its E hWd hn4 (wFr fr_X9_363) dX9_item_43 ?_
        refine lv_iload_n hx hb dX9_item_46 rfl (lv_at hl 3 rfl) ?_
        refine lv_aload hx hb dX9_item_47 (lv_at hl 0 rfl) ?_
        refine lv_lload_n hx hb dX9_item_49 rfl (lv_at hl 4 rfl) ?_
        refine tc_callpl (wc_runV (As := [.long x3]) (rest := [.int x2, .ref (G.2.2.1 (10 + n4))]) E hSw hG eH hWd hn4 (w_X6_cutToSort l G τ T n4 x3 hn4 hI) rfl kv_X6_cutToSort ml_X9_367 ⟨rfl, rfl, Nat.le_of_ble_eq_true rfl, Nat.le_of_ble_eq_true rfl⟩ rfl hl.1 rfl (Nat.le_of_ble_eq_true rfl) ⟨Nat.zero_le _, Nat.zero_le _⟩ dX9_item_50) (fun r10 pr10 => ?_)
        refine wc_last E hD hWd hS hn4 (t_in (by omega) (by omega)) dX9_item_53 (fun H locs hWd hS => ?_)
        refine lv_iconst (v := 1) hx hb dX9_item_54 (by decide) ?_
        exact wc_iret E hr hlk hWd hS (show (1 : Int32).toInt = wItem T x1.toInt x2.toInt ∧ T = T by (refine ⟨?_, rfl⟩; have kk := kI_1; unfold wItem; rw [show x1.toInt.toNat = n4 by omega]; (repeat first | rw [if_pos (by omega)] | rw [if_neg (by omega)]); first | done | omega)) dX9_item_55
      · skip
        have ic8 := tn_eq rfl kI_0 c8
        refine lv_bipush (v := -13) hx hb dX9_item_38 (by decide) ?_
        exact wc_iret E hr hlk hWd hS (show (-13 : Int32).toInt = wItem T x1.toInt x2.toInt ∧ T = T by (refine ⟨?_, rfl⟩; have kk := kI_m13; unfold wItem; rw [show x1.toInt.toNat = n4 by omega]; (repeat first | rw [if_pos (by omega)] | rw [if_neg (by omega)]); first | done | omega)) dX9_item_40
    · skip
      have ic6 := tn_eq rfl kI_m1 c6
      refine lv_bipush (v := -11) hx hb dX9_item_26 (by decide) ?_
      exact wc_iret E hr hlk hWd hS (show (-11 : Int32).toInt = wItem T x1.toInt x2.toInt ∧ T = T by (refine ⟨?_, rfl⟩; have kk := kI_m11; unfold wItem; rw [show x1.toInt.toNat = n4 by omega]; (repeat first | rw [if_pos (by omega)] | rw [if_neg (by omega)]); first | done | omega)) dX9_item_28
  · skip
    have ic2 := tn_eq rfl kI_0 c2
    refine lv_iconst (v := -1) hx hb dX9_item_7 (by decide) ?_
    exact wc_iret E hr hlk hWd hS (show (-1 : Int32).toInt = wItem T x1.toInt x2.toInt ∧ T = T by (refine ⟨?_, rfl⟩; have kk := kI_m1; unfold wItem; rw [if_pos (by omega)]; exact kk)) dX9_item_8

set_option maxHeartbeats 4000000 in
set_option maxRecDepth 100000 in
theorem w_X9_shift (l : Launch) (G : tG) (τ : Nat → Nat) (T : wT) (h0 : Nat) (x1 : Int32) (x2 : Int32) (x3 : Int32) (x4 : Int32) (x5 : Int32) (t0 : τ h0 = 1) (hI : wIn T) (hD : wDn G 18) : Met l yX9_shift (.code yX9_shift cX9_shift 8 (some .int) :: tWS) (tRm 1 40) (va_Pc [.ref h0, .int x1, .int x2, .int x3, .int x4, .int x5] (wPre G τ T)) (wQi G (fun r Z => r.toInt = wShift T x1.toInt x2.toInt x3.toInt x4.toInt x5.toInt ∧ Z = T)) 0 0 (wA G) := by
  refine wc_met (by decide) (Nat.le_of_ble_eq_true rfl) ?_
  intro p e s m below meth c E hSw hr hlk hG hWd ls hl
  have hl : lv_has ls 8 [(0, .ref h0), (1, .int x1), (2, .int x2), (3, .int x3), (4, .int x4), (5, .int x5)] := hl
  have hx := E.1
  have hb := E.2.1
  have hSt : tSt G (tA τ) s := hSw.narrow (fun q h => Or.inl h)
  obtain ⟨H, eH⟩ : ∃ H, H = s.heap := ⟨_, rfl⟩
  obtain ⟨locs, eL⟩ : ∃ x : List Loc, x = [] := ⟨_, rfl⟩
  have hG : tGH G τ s H locs := by rw [eH, eL]; exact hG
  have hWd : wTH G T H := by rw [eH]; exact hWd
  have hS : va_S (wA G) s.heap H locs := by rw [eH, eL]; exact va_S.rf
  suffices hW : W p l e (tRm 1 40) s m ([.ref h0, .int x1, .int x2, .int x3, .int x4, .int x5] : List Value).toArray below meth c H locs 0 0 (MQ below (wQi G (fun r Z => r.toInt = wShift T x1.toInt x2.toInt x3.toInt x4.toInt x5.toInt ∧ Z = T)) ([.ref h0, .int x1, .int x2, .int x3, .int x4, .int x5] : List Value).toArray s 0 0 (wA G)) (F0 m 0 ls []) by subst eH; subst eL; exact hW
  refine lv_iload_n hx hb dX9_shift_0 rfl (lv_at hl 1 rfl) ?_
  refine tc_callp (tc_runS (As := [.int x1]) (rest := []) E hSt hG (c_X9_isTape l G τ x1) ks_X9_isTape ml_X9_347 ⟨rfl, rfl, Nat.le_of_ble_eq_true rfl, Nat.le_of_ble_eq_true rfl⟩ rfl hl.1 rfl (Nat.le_of_ble_eq_true rfl) ⟨Nat.zero_le _, Nat.zero_le _⟩ dX9_shift_1) (fun r1 pr1 => ?_)
  have pr1 : (0 ≤ r1.toInt ∧ r1.toInt ≤ 1) ∧ (r1.toInt = 0 ∨ (0 ≤ x1.toInt ∧ x1.toInt ≤ 3)) ∧ (r1.toInt = 1 ∨ x1.toInt < 0 ∨ 3 < x1.toInt) := pr1
  refine lv_if_eq (tgt := 14) hx hb dX9_shift_4 (by decide) (fun c2 => ?_) (fun c2 => ?_)
  · skip
    have ic2 := tn_eq rfl kI_0 c2
    refine lv_iconst (v := -1) hx hb dX9_shift_14 (by decide) ?_
    exact wc_iret E hr hlk hWd hS (show (-1 : Int32).toInt = wShift T x1.toInt x2.toInt x3.toInt x4.toInt x5.toInt ∧ T = T by (refine ⟨?_, rfl⟩; have kk := kI_m1; unfold wShift; rw [if_pos (by omega)]; exact kk)) dX9_shift_15
  · skip
    have ic2 := tn_ne rfl kI_0 c2
    refine lv_iload_n hx hb dX9_shift_7 rfl (lv_at hl 3 rfl) ?_
    refine tc_callp (tc_runS (As := [.int x3]) (rest := []) E hSt hG (c_X9_isTape l G τ x3) ks_X9_isTape ml_X9_347 ⟨rfl, rfl, Nat.le_of_ble_eq_true rfl, Nat.le_of_ble_eq_true rfl⟩ rfl hl.1 rfl (Nat.le_of_ble_eq_true rfl) ⟨Nat.zero_le _, Nat.zero_le _⟩ dX9_shift_8) (fun r3 pr3 => ?_)
    have pr3 : (0 ≤ r3.toInt ∧ r3.toInt ≤ 1) ∧ (r3.toInt = 0 ∨ (0 ≤ x3.toInt ∧ x3.toInt ≤ 3)) ∧ (r3.toInt = 1 ∨ x3.toInt < 0 ∨ 3 < x3.toInt) := pr3
    refine lv_if_ne (tgt := 16) hx hb dX9_shift_11 (by decide) (fun c4 => ?_) (fun c4 => ?_)
    · skip
      have ic4 := tn_ne rfl kI_0 c4
      refine lv_aload_n hx hb dX9_shift_16 rfl (lv_at hl 0 rfl) ?_
      refine wc_tps E hG t0 ff_X9_57 dX9_shift_17 ?_
      refine lv_iload_n hx hb dX9_shift_20 rfl (lv_at hl 1 rfl) ?_
      refine wc_tap E hWd (t_in (by omega) (by omega)) dX9_shift_21 (fun n6 en6 hn6 => ?_)
      refine lv_astore (lv' := [(6, .ref (G.2.2.1 (6 + n6))), (0, .ref h0), (1, .int x1), (2, .int x2), (3, .int x3), (4, .int x4), (5, .int x5)]) hx hb dX9_shift_22 hl (by decide) rfl (fun ls hl => ?_)
      refine lv_aload_n hx hb dX9_shift_24 rfl (lv_at hl 1 rfl) ?_
      refine wc_tps E hG t0 ff_X9_57 dX9_shift_25 ?_
      refine lv_iload_n hx hb dX9_shift_28 rfl (lv_at hl 4 rfl) ?_
      refine wc_tap E hWd (t_in (by omega) (by omega)) dX9_shift_29 (fun n8 en8 hn8 => ?_)
      refine lv_astore (lv' := [(7, .ref (G.2.2.1 (6 + n8))), (6, .ref (G.2.2.1 (6 + n6))), (0, .ref h0), (1, .int x1), (2, .int x2), (3, .int x3), (4, .int x4), (5, .int x5)]) hx hb dX9_shift_30 hl (by decide) rfl (fun ls hl => ?_)
      refine lv_aload hx hb dX9_shift_32 (lv_at hl 1 rfl) ?_
      refine wc_sort E hWd hn6 (wFi fi_X9_350) dX9_shift_34 ?_
      refine lv_iconst (v := -1) hx hb dX9_shift_37 (by decide) ?_
      refine lv_icmp_eq (tgt := 50) hx hb dX9_shift_38 (by decide) (fun c10 => ?_) (fun c10 => ?_)
      · skip
        have ic10 := tn_eq rfl kI_m1 c10
        refine lv_bipush (v := -11) hx hb dX9_shift_50 (by decide) ?_
        exact wc_iret E hr hlk hWd hS (show (-11 : Int32).toInt = wShift T x1.toInt x2.toInt x3.toInt x4.toInt x5.toInt ∧ T = T by (refine ⟨?_, rfl⟩; have kk := kI_m11; unfold wShift; rw [show x1.toInt.toNat = n6 by omega, show x3.toInt.toNat = n8 by omega]; (repeat first | rw [if_pos (by omega)] | rw [if_neg (by omega)]); first | done | omega)) dX9_shift_52
      · skip
        have ic10 := tn_ne rfl kI_m1 c10
        refine lv_aload hx hb dX9_shift_41 (lv_at hl 0 rfl) ?_
        refine wc_sort E hWd hn8 (wFi fi_X9_350) dX9_shift_43 ?_
        refine lv_iconst (v := -1) hx hb dX9_shift_46 (by decide) ?_
        refine lv_icmp_ne (tgt := 53) hx hb dX9_shift_47 (by decide) (fun c12 => ?_) (fun c12 => ?_)
        · skip
          have ic12 := tn_ne rfl kI_m1 c12
          refine lv_aload hx hb dX9_shift_53 (lv_at hl 1 rfl) ?_
          refine wc_sort E hWd hn6 (wFi fi_X9_350) dX9_shift_55 ?_
          refine lv_aload hx hb dX9_shift_58 (lv_at hl 0 rfl) ?_
          refine wc_sort E hWd hn8 (wFi fi_X9_350) dX9_shift_60 ?_
          refine lv_icmp_eq (tgt := 69) hx hb dX9_shift_63 (by decide) (fun c15 => ?_) (fun c15 => ?_)
          · skip
            have ic15 := tn_eq rfl rfl c15
            refine lv_aload hx hb dX9_shift_69 (lv_at hl 1 rfl) ?_
            refine lv_iload_n hx hb dX9_shift_71 rfl (lv_at hl 4 rfl) ?_
            refine lv_iload hx hb dX9_shift_72 (lv_at hl 7 rfl) ?_
            refine tc_callp (wc_runV (As := [.int x2, .int x5]) (rest := []) E hSw hG eH hWd hn6 (w_X6_hasRun l G τ T n6 x2 x5 hn6 hI) rfl kv_X6_hasRun ml_X9_371 ⟨rfl, rfl, Nat.le_of_ble_eq_true rfl, Nat.le_of_ble_eq_true rfl⟩ rfl hl.1 rfl (Nat.le_of_ble_eq_true rfl) ⟨Nat.zero_le _, Nat.zero_le _⟩ dX9_shift_74) (fun r16 pr16 => ?_)
            have pr16 : (r16.toInt = 1 ∧ 0 ≤ x2.toInt ∧ 0 ≤ x5.toInt ∧ x2.toInt + x5.toInt ≤ (T.2 n6).toInt) ∨ (r16.toInt = 0 ∧ (x2.toInt < 0 ∨ x5.toInt < 0 ∨ (T.2 n6).toInt < x2.toInt + x5.toInt)) := pr16
            refine lv_if_eq (tgt := 92) hx hb dX9_shift_77 (by decide) (fun c17 => ?_) (fun c17 => ?_)
            · skip
              have ic17 := tn_eq rfl kI_0 c17
              refine lv_bipush (v := -13) hx hb dX9_shift_92 (by decide) ?_
              exact wc_iret E hr hlk hWd hS (show (-13 : Int32).toInt = wShift T x1.toInt x2.toInt x3.toInt x4.toInt x5.toInt ∧ T = T by (refine ⟨?_, rfl⟩; have kk := kI_m13; unfold wShift; rw [show x1.toInt.toNat = n6 by omega, show x3.toInt.toNat = n8 by omega]; (repeat first | rw [if_pos (by omega)] | rw [if_neg (by omega)]); first | done | omega)) dX9_shift_94
            · skip
              have ic17 := tn_ne rfl kI_0 c17
              refine lv_aload hx hb dX9_shift_80 (lv_at hl 0 rfl) ?_
              refine lv_iload hx hb dX9_shift_82 (lv_at hl 6 rfl) ?_
              refine lv_iload hx hb dX9_shift_84 (lv_at hl 7 rfl) ?_
              refine tc_callp (wc_runV (As := [.int x4, .int x5]) (rest := []) E hSw hG eH hWd hn8 (w_X6_hasRun l G τ T n8 x4 x5 hn8 hI) rfl kv_X6_hasRun ml_X9_371 ⟨rfl, rfl, Nat.le_of_ble_eq_true rfl, Nat.le_of_ble_eq_true rfl⟩ rfl hl.1 rfl (Nat.le_of_ble_eq_true rfl) ⟨Nat.zero_le _, Nat.zero_le _⟩ dX9_shift_86) (fun r18 pr18 => ?_)
              have pr18 : (r18.toInt = 1 ∧ 0 ≤ x4.toInt ∧ 0 ≤ x5.toInt ∧ x4.toInt + x5.toInt ≤ (T.2 n8).toInt) ∨ (r18.toInt = 0 ∧ (x4.toInt < 0 ∨ x5.toInt < 0 ∨ (T.2 n8).toInt < x4.toInt + x5.toInt)) := pr18
              refine lv_if_ne (tgt := 95) hx hb dX9_shift_89 (by decide) (fun c19 => ?_) (fun c19 => ?_)
              · skip
                have ic19 := tn_ne rfl kI_0 c19
                refine lv_aload hx hb dX9_shift_95 (lv_at hl 1 rfl) ?_
                refine wc_its E hWd hn6 (wFr fr_X9_363) dX9_shift_97 ?_
                refine lv_iload_n hx hb dX9_shift_100 rfl (lv_at hl 4 rfl) ?_
                refine lv_aload hx hb dX9_shift_101 (lv_at hl 0 rfl) ?_
                refine wc_its E hWd hn8 (wFr fr_X9_363) dX9_shift_103 ?_
                refine lv_iload hx hb dX9_shift_106 (lv_at hl 6 rfl) ?_
                refine lv_iload hx hb dX9_shift_108 (lv_at hl 7 rfl) ?_
                have hI8 := hI n6 hn6
                have hI9 := hI n8 hn8
                refine wc_copy (rest := []) E hl.1 hD hWd eH eL hn6 hn8 ml_X9_374 kn_copy1 kn_copy2 kn_copy3 (by omega) (by omega) (by omega) (by omega) (by omega) ⟨Nat.le_of_ble_eq_true rfl, by decide +kernel⟩ dX9_shift_110 (fun H locs hWd hS => ?_)
                refine lv_iload hx hb dX9_shift_113 (lv_at hl 7 rfl) ?_
                exact wc_iret E hr hlk hWd hS (show x5.toInt = wShift T x1.toInt x2.toInt x3.toInt x4.toInt x5.toInt ∧ T = T by (refine ⟨?_, rfl⟩; unfold wShift; rw [show x1.toInt.toNat = n6 by omega, show x3.toInt.toNat = n8 by omega]; (repeat first | rw [if_pos (by omega)] | rw [if_neg (by omega)]); first | done | omega)) dX9_shift_115
              · skip
                have ic19 := tn_eq rfl kI_0 c19
                refine lv_bipush (v := -13) hx hb dX9_shift_92 (by decide) ?_
                exact wc_iret E hr hlk hWd hS (show (-13 : Int32).toInt = wShift T x1.toInt x2.toInt x3.toInt x4.toInt x5.toInt ∧ T = T by (refine ⟨?_, rfl⟩; have kk := kI_m13; unfold wShift; rw [show x1.toInt.toNat = n6 by omega, show x3.toInt.toNat = n8 by omega]; (repeat first | rw [if_pos (by omega)] | rw [if_neg (by omega)]); first | done | omega)) dX9_shift_94
          · skip
            have ic15 := tn_ne rfl rfl c15
            refine lv_bipush (v := -12) hx hb dX9_shift_66 (by decide) ?_
            exact wc_iret E hr hlk hWd hS (show (-12 : Int32).toInt = wShift T x1.toInt x2.toInt x3.toInt x4.toInt x5.toInt ∧ T = T by (refine ⟨?_, rfl⟩; have kk := kI_m12; unfold wShift; rw [show x1.toInt.toNat = n6 by omega, show x3.toInt.toNat = n8 by omega]; (repeat first | rw [if_pos (by omega)] | rw [if_neg (by omega)]); first | done | omega)) dX9_shift_68
        · skip
          have ic12 := tn_eq rfl kI_m1 c12
          refine lv_bipush (v := -11) hx hb dX9_shift_50 (by decide) ?_
          exact wc_iret E hr hlk hWd hS (show (-11 : Int32).toInt = wShift T x1.toInt x2.toInt x3.toInt x4.toInt x5.toInt ∧ T = T by (refine ⟨?_, rfl⟩; have kk := kI_m11; unfold wShift; rw [show x1.toInt.toNat = n6 by omega, show x3.toInt.toNat = n8 by omega]; (repeat first | rw [if_pos (by omega)] | rw [if_neg (by omega)]); first | done | omega)) dX9_shift_52
    · skip
      have ic4 := tn_eq rfl kI_0 c4
      refine lv_iconst (v := -1) hx hb dX9_shift_14 (by decide) ?_
      exact wc_iret E hr hlk hWd hS (show (-1 : Int32).toInt = wShift T x1.toInt x2.toInt x3.toInt x4.toInt x5.toInt ∧ T = T by (refine ⟨?_, rfl⟩; have kk := kI_m1; unfold wShift; rw [if_pos (by omega)]; exact kk)) dX9_shift_15

set_option maxHeartbeats 4000000 in
set_option maxRecDepth 100000 in
theorem w_X9_tape (l : Launch) (G : tG) (τ : Nat → Nat) (T : wT) (h0 : Nat) (x1 : Int32) (x2 : Int32) (x3 : Int32) (t0 : τ h0 = 1) (hI : wIn T) (hD : wDn G 18) : Met l yX9_tape (.code yX9_tape cX9_tape 4 (some .int) :: tWS) (tRm 2 46) (va_Pc [.ref h0, .int x1, .int x2, .int x3] (wPre G τ T)) (wQi G (fun r Z => r.toInt = tTape x1.toInt x2.toInt x3.toInt ∧ Z = wTape T x1 x2 x3)) 0 0 (wA G) := by
  refine wc_met (by decide) (Nat.le_of_ble_eq_true rfl) ?_
  intro p e s m below meth c E hSw hr hlk hG hWd ls hl
  have hl : lv_has ls 4 [(0, .ref h0), (1, .int x1), (2, .int x2), (3, .int x3)] := hl
  have hx := E.1
  have hb := E.2.1
  have hSt : tSt G (tA τ) s := hSw.narrow (fun q h => Or.inl h)
  obtain ⟨H, eH⟩ : ∃ H, H = s.heap := ⟨_, rfl⟩
  obtain ⟨locs, eL⟩ : ∃ x : List Loc, x = [] := ⟨_, rfl⟩
  have hG : tGH G τ s H locs := by rw [eH, eL]; exact hG
  have hWd : wTH G T H := by rw [eH]; exact hWd
  have hS : va_S (wA G) s.heap H locs := by rw [eH, eL]; exact va_S.rf
  suffices hW : W p l e (tRm 2 46) s m ([.ref h0, .int x1, .int x2, .int x3] : List Value).toArray below meth c H locs 0 0 (MQ below (wQi G (fun r Z => r.toInt = tTape x1.toInt x2.toInt x3.toInt ∧ Z = wTape T x1 x2 x3)) ([.ref h0, .int x1, .int x2, .int x3] : List Value).toArray s 0 0 (wA G)) (F0 m 0 ls []) by subst eH; subst eL; exact hW
  refine lv_iload_n hx hb dX9_tape_0 rfl (lv_at hl 1 rfl) ?_
  refine tc_callp (tc_runS (As := [.int x1]) (rest := []) E hSt hG (c_X9_isTape l G τ x1) ks_X9_isTape ml_X9_347 ⟨rfl, rfl, Nat.le_of_ble_eq_true rfl, Nat.le_of_ble_eq_true rfl⟩ rfl hl.1 rfl (Nat.le_of_ble_eq_true rfl) ⟨Nat.zero_le _, Nat.zero_le _⟩ dX9_tape_1) (fun r1 pr1 => ?_)
  have pr1 : (0 ≤ r1.toInt ∧ r1.toInt ≤ 1) ∧ (r1.toInt = 0 ∨ (0 ≤ x1.toInt ∧ x1.toInt ≤ 3)) ∧ (r1.toInt = 1 ∨ x1.toInt < 0 ∨ 3 < x1.toInt) := pr1
  refine lv_if_ne (tgt := 9) hx hb dX9_tape_4 (by decide) (fun c2 => ?_) (fun c2 => ?_)
  · skip
    have ic2 := tn_ne rfl kI_0 c2
    refine lv_iload_n hx hb dX9_tape_9 rfl (lv_at hl 2 rfl) ?_
    refine lv_iconst (v := -1) hx hb dX9_tape_10 (by decide) ?_
    refine lv_icmp_ne (tgt := 27) hx hb dX9_tape_11 (by decide) (fun c3 => ?_) (fun c3 => ?_)
    · skip
      have ic3 := tn_ne rfl kI_m1 c3
      refine lv_iload_n hx hb dX9_tape_27 rfl (lv_at hl 2 rfl) ?_
      refine lv_if_lt (tgt := 42) hx hb dX9_tape_28 (by decide) (fun c4 => ?_) (fun c4 => ?_)
      · skip
        have ic4 := tn_lt rfl kI_0 c4
        refine lv_bipush (v := -2) hx hb dX9_tape_42 (by decide) ?_
        have et : tTape x1.toInt x2.toInt x3.toInt = -2 := by (unfold tTape; (repeat first | rw [if_pos (by omega)] | rw [if_neg (by omega)]); first | done | omega)
        exact wc_iret E hr hlk hWd hS (show (-2 : Int32).toInt = tTape x1.toInt x2.toInt x3.toInt ∧ T = wTape T x1 x2 x3 from ⟨by rw [et]; exact kI_m2, by unfold wTape; rw [if_neg (by rw [et]; decide)]⟩) dX9_tape_44
      · skip
        have ic4 := tn_nlt rfl kI_0 c4
        refine lv_iload_n hx hb dX9_tape_31 rfl (lv_at hl 2 rfl) ?_
        refine lv_iconst (v := 3) hx hb dX9_tape_32 (by decide) ?_
        refine lv_icmp_gt (tgt := 42) hx hb dX9_tape_33 (by decide) (fun c5 => ?_) (fun c5 => ?_)
        · skip
          have ic5 := tn_lt kI_3 rfl c5
          refine lv_bipush (v := -2) hx hb dX9_tape_42 (by decide) ?_
          have et : tTape x1.toInt x2.toInt x3.toInt = -2 := by (unfold tTape; (repeat first | rw [if_pos (by omega)] | rw [if_neg (by omega)]); first | done | omega)
          exact wc_iret E hr hlk hWd hS (show (-2 : Int32).toInt = tTape x1.toInt x2.toInt x3.toInt ∧ T = wTape T x1 x2 x3 from ⟨by rw [et]; exact kI_m2, by unfold wTape; rw [if_neg (by rw [et]; decide)]⟩) dX9_tape_44
        · skip
          have ic5 := tn_nlt kI_3 rfl c5
          refine lv_iload_n hx hb dX9_tape_36 rfl (lv_at hl 3 rfl) ?_
          refine lv_bipush (v := 60) hx hb dX9_tape_37 (by decide) ?_
          refine lv_icmp_le (tgt := 45) hx hb dX9_tape_39 (by decide) (fun c6 => ?_) (fun c6 => ?_)
          · skip
            have ic6 := tn_le rfl kI_60 c6
            refine lv_iload_n hx hb dX9_tape_45 rfl (lv_at hl 3 rfl) ?_
            refine lv_if_ge (tgt := 52) hx hb dX9_tape_46 (by decide) (fun c7 => ?_) (fun c7 => ?_)
            · skip
              have ic7 := tn_le kI_0 rfl c7
              refine lv_aload_n hx hb dX9_tape_52 rfl (lv_at hl 0 rfl) ?_
              refine wc_tps E hG t0 ff_X9_57 dX9_tape_53 ?_
              refine lv_iload_n hx hb dX9_tape_56 rfl (lv_at hl 1 rfl) ?_
              refine wc_tap E hWd (t_in (by omega) (by omega)) dX9_tape_57 (fun n9 en9 hn9 => ?_)
              refine lv_iload_n hx hb dX9_tape_58 rfl (lv_at hl 2 rfl) ?_
              refine lv_iload_n hx hb dX9_tape_59 rfl (lv_at hl 3 rfl) ?_
              refine wc_callv hS (wc_runV (As := [.int x2, .int x3]) (rest := []) E hSw hG eH hWd hn9 (w_X6_clearTo l G τ T n9 x2 x3 hn9 hD) rfl kv_X6_clearTo ml_X9_357 ⟨rfl, rfl, Nat.le_of_ble_eq_true rfl, Nat.le_of_ble_eq_true rfl⟩ rfl hl.1 rfl (Nat.le_of_ble_eq_true rfl) ⟨Nat.zero_le _, Nat.zero_le _⟩ dX9_tape_60) (fun Z H locs eZ hWd hS => ?_)
              subst eZ
              refine lv_iconst (v := 1) hx hb dX9_tape_63 (by decide) ?_
              have et : tTape x1.toInt x2.toInt x3.toInt = 1 := by (unfold tTape; (repeat first | rw [if_pos (by omega)] | rw [if_neg (by omega)]); first | done | omega)
              exact wc_iret E hr hlk hWd hS (show (1 : Int32).toInt = tTape x1.toInt x2.toInt x3.toInt ∧ (up1 T.1 n9 x2, up1 T.2 n9 x3) = wTape T x1 x2 x3 from ⟨by rw [et]; exact kI_1, by unfold wTape; rw [if_pos et, show x1.toInt.toNat = n9 by omega, if_neg (by omega)]⟩) dX9_tape_64
            · skip
              have ic7 := tn_nle kI_0 rfl c7
              refine lv_bipush (v := -14) hx hb dX9_tape_49 (by decide) ?_
              have et : tTape x1.toInt x2.toInt x3.toInt = -14 := by (unfold tTape; (repeat first | rw [if_pos (by omega)] | rw [if_neg (by omega)]); first | done | omega)
              exact wc_iret E hr hlk hWd hS (show (-14 : Int32).toInt = tTape x1.toInt x2.toInt x3.toInt ∧ T = wTape T x1 x2 x3 from ⟨by rw [et]; exact kI_m14, by unfold wTape; rw [if_neg (by rw [et]; decide)]⟩) dX9_tape_51
          · skip
            have ic6 := tn_nle rfl kI_60 c6
            refine lv_bipush (v := -2) hx hb dX9_tape_42 (by decide) ?_
            have et : tTape x1.toInt x2.toInt x3.toInt = -2 := by (unfold tTape; (repeat first | rw [if_pos (by omega)] | rw [if_neg (by omega)]); first | done | omega)
            exact wc_iret E hr hlk hWd hS (show (-2 : Int32).toInt = tTape x1.toInt x2.toInt x3.toInt ∧ T = wTape T x1 x2 x3 from ⟨by rw [et]; exact kI_m2, by unfold wTape; rw [if_neg (by rw [et]; decide)]⟩) dX9_tape_44
    · skip
      have ic3 := tn_eq rfl kI_m1 c3
      refine lv_aload_n hx hb dX9_tape_14 rfl (lv_at hl 0 rfl) ?_
      refine wc_tps E hG t0 ff_X9_57 dX9_tape_15 ?_
      refine lv_iload_n hx hb dX9_tape_18 rfl (lv_at hl 1 rfl) ?_
      refine wc_tap E hWd (t_in (by omega) (by omega)) dX9_tape_19 (fun n12 en12 hn12 => ?_)
      refine lv_iload_n hx hb dX9_tape_20 rfl (lv_at hl 2 rfl) ?_
      refine lv_iconst (v := 0) hx hb dX9_tape_21 (by decide) ?_
      refine wc_callv hS (wc_runV (As := [.int x2, .int 0]) (rest := []) E hSw hG eH hWd hn12 (w_X6_clearTo l G τ T n12 x2 (0 : Int32) hn12 hD) rfl kv_X6_clearTo ml_X9_357 ⟨rfl, rfl, Nat.le_of_ble_eq_true rfl, Nat.le_of_ble_eq_true rfl⟩ rfl hl.1 rfl (Nat.le_of_ble_eq_true rfl) ⟨Nat.zero_le _, Nat.zero_le _⟩ dX9_tape_22) (fun Z H locs eZ hWd hS => ?_)
      subst eZ
      refine lv_iconst (v := 1) hx hb dX9_tape_25 (by decide) ?_
      have et : tTape x1.toInt x2.toInt x3.toInt = 1 := by (unfold tTape; (repeat first | rw [if_pos (by omega)] | rw [if_neg (by omega)]); first | done | omega)
      exact wc_iret E hr hlk hWd hS (show (1 : Int32).toInt = tTape x1.toInt x2.toInt x3.toInt ∧ (up1 T.1 n12 x2, up1 T.2 n12 (0 : Int32)) = wTape T x1 x2 x3 from ⟨by rw [et]; exact kI_1, by unfold wTape; rw [if_pos et, show x1.toInt.toNat = n12 by omega, if_pos (by omega)]⟩) dX9_tape_26
  · skip
    have ic2 := tn_eq rfl kI_0 c2
    refine lv_iconst (v := -1) hx hb dX9_tape_7 (by decide) ?_
    have et : tTape x1.toInt x2.toInt x3.toInt = -1 := by (unfold tTape; (repeat first | rw [if_pos (by omega)] | rw [if_neg (by omega)]); first | done | omega)
    exact wc_iret E hr hlk hWd hS (show (-1 : Int32).toInt = tTape x1.toInt x2.toInt x3.toInt ∧ T = wTape T x1 x2 x3 from ⟨by rw [et]; exact kI_m1, by unfold wTape; rw [if_neg (by rw [et]; decide)]⟩) dX9_tape_8

set_option maxHeartbeats 4000000 in
set_option maxRecDepth 100000 in
theorem c_X9_firstOtherwise (l : Launch) (G : tG) (τ : Nat → Nat) (h0 : Nat) (h1 : Nat) (x2 : Int32) (t0 : τ h0 = 1) (t1 : τ h1 = 9) (l2 : 0 ≤ x2.toInt) : Met l yX9_firstOtherwise (.code yX9_firstOtherwise cX9_firstOtherwise 5 (some .int) :: tWS) (tRm 1 21) (va_Pc [.ref h0, .ref h1, .int x2] (tPre G τ)) (tQp (fun r => True)) 0 0 tNo := by
  refine tc_met (by decide) (Nat.le_of_ble_eq_true rfl) ?_
  intro p e s m below meth c E hSt hr hlk hG ls hl
  have hl : lv_has ls 5 [(0, .ref h0), (1, .ref h1), (2, .int x2)] := hl
  have hx := E.1
  have hb := E.2.1
  obtain ⟨H, eH⟩ : ∃ H, H = s.heap := ⟨_, rfl⟩
  obtain ⟨locs, eL⟩ : ∃ x : List Loc, x = [] := ⟨_, rfl⟩
  have hG : tGH G τ s H locs := by rw [eH, eL]; exact hG
  suffices hW : W p l e (tRm 1 21) s m ([.ref h0, .ref h1, .int x2] : List Value).toArray below meth c H locs 0 0 (MQ below (tQp (fun r => True)) ([.ref h0, .ref h1, .int x2] : List Value).toArray s 0 0 tNo) (F0 m 0 ls []) by subst eH; subst eL; exact hW
  have J5 : ∀ (n5 : Nat) (ls : Array Slot) (v3 : Int32) (v4 : Int32), lv_has ls 5 [(0, .ref h0), (1, .ref h1), (2, .int x2), (3, .int v3), (4, .int v4)] → 0 ≤ v3.toInt → v3.toInt ≤ 24 → 0 ≤ v4.toInt → v4.toInt ≤ 24 → v3.toInt ≤ v4.toInt → (24 - v4.toInt).toNat < n5 → W p l e (tRm 1 21) s m ([.ref h0, .ref h1, .int x2] : List Value).toArray below meth c H locs 0 0 (MQ below (tQp (fun r => True)) ([.ref h0, .ref h1, .int x2] : List Value).toArray s 0 0 tNo) (F0 m 5 ls []) := by
    intro n5
    induction n5 with
    | zero => intro ls v3 v4 hl b3 c3 b4 c4 hex5 hn5; exact absurd hn5 (Nat.not_lt_zero _)
    | succ n5 ih5 =>
      intro ls v3 v4 hl b3 c3 b4 c4 hex5 hn5
      refine lv_iload hx hb dX9_firstOtherwise_5 (lv_at hl 4 rfl) ?_
      refine lv_aload_n hx hb dX9_firstOtherwise_7 rfl (lv_at hl 0 rfl) ?_
      refine tc_getr E hG t0 fr_X9_12 dX9_firstOtherwise_8 (fun oa1 hoa1 => ?_)
      refine tc_geti E hG hoa1 fi_X9_75 dX9_firstOtherwise_11 (fun z2 lz2 uz2 => ?_)
      refine lv_icmp_ge (tgt := 88) hx hb dX9_firstOtherwise_14 (by decide) (fun c3 => ?_) (fun c3 => ?_)
      · skip
        have ic3 := tn_le rfl rfl c3
        refine lv_bipush (v := -5) hx hb dX9_firstOtherwise_88 (by decide) ?_
        exact tc_pret E hr hlk eH eL rfl trivial dX9_firstOtherwise_90
      · skip
        have ic3 := tn_nle rfl rfl c3
        refine lv_aload_n hx hb dX9_firstOtherwise_17 rfl (lv_at hl 0 rfl) ?_
        refine tc_getr E hG t0 fr_X9_12 dX9_firstOtherwise_18 (fun oa4 hoa4 => ?_)
        refine lv_iload hx hb dX9_firstOtherwise_21 (lv_at hl 4 rfl) ?_
        refine tc_callp (tc_runV (As := [.int v4]) (rest := []) E hSt hG (c_X8_has l G τ oa4 v4 hoa4) hoa4 rv_2 kv_X8_has ml_X9_83 ⟨rfl, rfl, Nat.le_of_ble_eq_true rfl, Nat.le_of_ble_eq_true rfl⟩ rfl hl.1 rfl (Nat.le_of_ble_eq_true rfl) ⟨Nat.zero_le _, Nat.zero_le _⟩ dX9_firstOtherwise_23) (fun r5 pr5 => ?_)
        have pr5 : (0 ≤ r5.toInt ∧ r5.toInt ≤ 1) ∧ (r5.toInt = 0 ∨ (0 ≤ v4.toInt ∧ v4.toInt ≤ 23)) := pr5
        refine lv_if_ne (tgt := 32) hx hb dX9_firstOtherwise_26 (by decide) (fun c6 => ?_) (fun c6 => ?_)
        · skip
          have ic6 := tn_ne rfl kI_0 c6
          refine lv_iload_n hx hb dX9_firstOtherwise_32 rfl (lv_at hl 2 rfl) ?_
          refine lv_aload_n hx hb dX9_firstOtherwise_33 rfl (lv_at hl 1 rfl) ?_
          refine tc_geti E hG t1 fi_X9_386 dX9_firstOtherwise_34 (fun z7 lz7 uz7 => ?_)
          refine lv_iload_n hx hb dX9_firstOtherwise_37 rfl (lv_at hl 3 rfl) ?_
          refine lv_isub hx hb dX9_firstOtherwise_38 ?_
          refine lv_topi (fun z8 ez8 => ?_)
          have tz8 := tn_sub ez8 rfl rfl (by omega) (by omega)
          refine lv_icmp_lt (tgt := 47) hx hb dX9_firstOtherwise_39 (by decide) (fun c9 => ?_) (fun c9 => ?_)
          · skip
            have ic9 := tn_lt rfl rfl c9
            refine lv_aload_n hx hb dX9_firstOtherwise_47 rfl (lv_at hl 1 rfl) ?_
            refine tc_getr E hG t1 fr_X9_363 dX9_firstOtherwise_48 (fun oa10 hoa10 => ?_)
            refine lv_iload_n hx hb dX9_firstOtherwise_51 rfl (lv_at hl 2 rfl) ?_
            refine lv_iload_n hx hb dX9_firstOtherwise_52 rfl (lv_at hl 3 rfl) ?_
            refine lv_iadd hx hb dX9_firstOtherwise_53 ?_
            refine lv_topi (fun z11 ez11 => ?_)
            have tz11 := tn_add ez11 rfl rfl (by omega) (by omega)
            refine tc_lald E hG hoa10 ta_21 (t_in (by omega) (by omega)) dX9_firstOtherwise_54 (fun z12 => ?_)
            refine lv_aload_n hx hb dX9_firstOtherwise_55 rfl (lv_at hl 0 rfl) ?_
            refine tc_getr E hG t0 fr_X9_12 dX9_firstOtherwise_56 (fun oa13 hoa13 => ?_)
            refine tc_getr E hG hoa13 fr_X9_86 dX9_firstOtherwise_59 (fun oa14 hoa14 => ?_)
            refine lv_iload hx hb dX9_firstOtherwise_62 (lv_at hl 4 rfl) ?_
            refine tc_aald3 E hG hoa14 ta_10 (t_in (by omega) (by omega)) dX9_firstOtherwise_64 (fun oa15 hoa15 => ?_)
            refine tc_getr E hG hoa15 fr_X9_211 dX9_firstOtherwise_65 (fun oa16 hoa16 => ?_)
            refine tc_geti E hG hoa16 fi_X9_233 dX9_firstOtherwise_68 (fun z17 _ _ => ?_)
            refine lv_i2l hx hb dX9_firstOtherwise_71 rfl ?_
            refine lv_topl (fun z18 ez18 => ?_)
            refine W.lcmp hx hb dX9_firstOtherwise_72 ?_
            refine lv_topi (fun z19 ez19 => ?_)
            refine lv_if_eq (tgt := 79) hx hb dX9_firstOtherwise_73 (by decide) (fun c20 => ?_) (fun c20 => ?_)
            · skip
              have ic20 := tn_eq rfl kI_0 c20
              obtain ⟨z21, ez21⟩ : ∃ y : Int32, y = v3 + (1) := ⟨_, rfl⟩
              refine lv_iinc (v := z21) (lv' := [(3, .int z21), (0, .ref h0), (1, .ref h1), (2, .int x2), (4, .int v4)]) hx hb dX9_firstOtherwise_79 hl (k := 3) rfl (by rw [ez21]; rfl) (by decide) rfl (fun ls hl => ?_)
              have tz21 := tn_add ez21 rfl kI_1 (by omega) (by omega)
              obtain ⟨z22, ez22⟩ : ∃ y : Int32, y = v4 + (1) := ⟨_, rfl⟩
              refine lv_iinc (v := z22) (lv' := [(4, .int z22), (3, .int z21), (0, .ref h0), (1, .ref h1), (2, .int x2)]) hx hb dX9_firstOtherwise_82 hl (k := 4) rfl (by rw [ez22]; rfl) (by decide) rfl (fun ls hl => ?_)
              have tz22 := tn_add ez22 rfl kI_1 (by omega) (by omega)
              refine lv_goto (tgt := 5) hx hb dX9_firstOtherwise_85 (by decide) ?_
              exact ih5 ls z21 z22 (lv_sub hl [2, 3, 4, 1, 0] rfl) (by omega) (by omega) (by omega) (by omega) (by omega) (by omega)
            · skip
              have ic20 := tn_ne rfl kI_0 c20
              have nc20 := tl_ne ez19 ic20
              refine lv_iload hx hb dX9_firstOtherwise_76 (lv_at hl 4 rfl) ?_
              exact tc_pret E hr hlk eH eL rfl trivial dX9_firstOtherwise_78
          · skip
            have ic9 := tn_nlt rfl rfl c9
            refine lv_bipush (v := 100) hx hb dX9_firstOtherwise_42 (by decide) ?_
            refine lv_iload_n hx hb dX9_firstOtherwise_44 rfl (lv_at hl 3 rfl) ?_
            refine lv_iadd hx hb dX9_firstOtherwise_45 ?_
            refine lv_topi (fun z23 ez23 => ?_)
            have tz23 := tn_add ez23 kI_100 rfl (by omega) (by omega)
            exact tc_pret E hr hlk eH eL rfl trivial dX9_firstOtherwise_46
        · skip
          have ic6 := tn_eq rfl kI_0 c6
          refine lv_goto (tgt := 82) hx hb dX9_firstOtherwise_29 (by decide) ?_
          obtain ⟨z24, ez24⟩ : ∃ y : Int32, y = v4 + (1) := ⟨_, rfl⟩
          refine lv_iinc (v := z24) (lv' := [(4, .int z24), (0, .ref h0), (1, .ref h1), (2, .int x2), (3, .int v3)]) hx hb dX9_firstOtherwise_82 hl (k := 4) rfl (by rw [ez24]; rfl) (by decide) rfl (fun ls hl => ?_)
          have tz24 := tn_add ez24 rfl kI_1 (by omega) (by omega)
          refine lv_goto (tgt := 5) hx hb dX9_firstOtherwise_85 (by decide) ?_
          exact ih5 ls v3 z24 (lv_sub hl [1, 2, 3, 4, 0] rfl) (by omega) (by omega) (by omega) (by omega) (by omega) (by omega)
  refine lv_iconst (v := 0) hx hb dX9_firstOtherwise_0 (by decide) ?_
  refine lv_istore_n (lv' := [(3, .int 0), (0, .ref h0), (1, .ref h1), (2, .int x2)]) hx hb dX9_firstOtherwise_1 rfl hl (by decide) rfl (fun ls hl => ?_)
  refine lv_iconst (v := 0) hx hb dX9_firstOtherwise_2 (by decide) ?_
  refine lv_istore (lv' := [(4, .int 0), (3, .int 0), (0, .ref h0), (1, .ref h1), (2, .int x2)]) hx hb dX9_firstOtherwise_3 hl (by decide) rfl (fun ls hl => ?_)
  exact J5 ((24 - (0 : Int32).toInt).toNat + 1) ls (0 : Int32) (0 : Int32) (lv_sub hl [2, 3, 4, 1, 0] rfl) (by decide) (by decide) (by decide) (by decide) (by omega) (Nat.lt_succ_self _)

set_option maxHeartbeats 4000000 in
set_option maxRecDepth 100000 in
theorem c_X9_judge (l : Launch) (G : tG) (τ : Nat → Nat) (h0 : Nat) (x1 : Int32) (x2 : Int32) (t0 : τ h0 = 1) (tb : τ (G.2.2.1 5) = 20) : Met l yX9_judge (.code yX9_judge cX9_judge 4 (some .int) :: tWS) (tRm 2 45) (va_Pc [.ref h0, .int x1, .int x2] (tPre G τ)) (tQp (fun r => True)) 0 0 tNo := by
  refine tc_met (by decide) (Nat.le_of_ble_eq_true rfl) ?_
  intro p e s m below meth c E hSt hr hlk hG ls hl
  have hl : lv_has ls 4 [(0, .ref h0), (1, .int x1), (2, .int x2)] := hl
  have hx := E.1
  have hb := E.2.1
  obtain ⟨H, eH⟩ : ∃ H, H = s.heap := ⟨_, rfl⟩
  obtain ⟨locs, eL⟩ : ∃ x : List Loc, x = [] := ⟨_, rfl⟩
  have hG : tGH G τ s H locs := by rw [eH, eL]; exact hG
  suffices hW : W p l e (tRm 2 45) s m ([.ref h0, .int x1, .int x2] : List Value).toArray below meth c H locs 0 0 (MQ below (tQp (fun r => True)) ([.ref h0, .int x1, .int x2] : List Value).toArray s 0 0 tNo) (F0 m 0 ls []) by subst eH; subst eL; exact hW
  refine lv_iload_n hx hb dX9_judge_0 rfl (lv_at hl 1 rfl) ?_
  refine tc_callp (tc_runS (As := [.int x1]) (rest := []) E hSt hG (c_X9_isTape l G τ x1) ks_X9_isTape ml_X9_347 ⟨rfl, rfl, Nat.le_of_ble_eq_true rfl, Nat.le_of_ble_eq_true rfl⟩ rfl hl.1 rfl (Nat.le_of_ble_eq_true rfl) ⟨Nat.zero_le _, Nat.zero_le _⟩ dX9_judge_1) (fun r1 pr1 => ?_)
  have pr1 : (0 ≤ r1.toInt ∧ r1.toInt ≤ 1) ∧ (r1.toInt = 0 ∨ (0 ≤ x1.toInt ∧ x1.toInt ≤ 3)) ∧ (r1.toInt = 1 ∨ x1.toInt < 0 ∨ 3 < x1.toInt) := pr1
  refine lv_if_ne (tgt := 9) hx hb dX9_judge_4 (by decide) (fun c2 => ?_) (fun c2 => ?_)
  · skip
    have ic2 := tn_ne rfl kI_0 c2
    refine lv_aload_n hx hb dX9_judge_9 rfl (lv_at hl 0 rfl) ?_
    refine tc_getT E hG t0 tb ff_X9_57 dX9_judge_10 (fun oa3 hoa3 => ?_)
    refine lv_iload_n hx hb dX9_judge_13 rfl (lv_at hl 1 rfl) ?_
    refine tc_aald4 E hG hoa3 ta_20 (t_in (by omega) (by omega)) dX9_judge_14 (fun oa4 hoa4 => ?_)
    refine lv_astore_n (lv' := [(3, .ref oa4), (0, .ref h0), (1, .int x1), (2, .int x2)]) hx hb dX9_judge_15 rfl hl (by decide) rfl (fun ls hl => ?_)
    refine lv_aload_n hx hb dX9_judge_16 rfl (lv_at hl 0 rfl) ?_
    refine tc_geti E hG hoa4 fi_X9_350 dX9_judge_17 (fun z5 _ _ => ?_)
    refine lv_iconst (v := -1) hx hb dX9_judge_20 (by decide) ?_
    refine lv_icmp_ne (tgt := 27) hx hb dX9_judge_21 (by decide) (fun c6 => ?_) (fun c6 => ?_)
    · skip
      have ic6 := tn_ne rfl kI_m1 c6
      refine lv_aload_n hx hb dX9_judge_27 rfl (lv_at hl 0 rfl) ?_
      refine tc_geti E hG hoa4 fi_X9_350 dX9_judge_28 (fun z7 _ _ => ?_)
      refine lv_iconst (v := 2) hx hb dX9_judge_31 (by decide) ?_
      refine lv_icmp_eq (tgt := 38) hx hb dX9_judge_32 (by decide) (fun c8 => ?_) (fun c8 => ?_)
      · skip
        have ic8 := tn_eq rfl kI_2 c8
        refine lv_iload_n hx hb dX9_judge_38 rfl (lv_at hl 3 rfl) ?_
        refine lv_if_ge (tgt := 47) hx hb dX9_judge_39 (by decide) (fun c9 => ?_) (fun c9 => ?_)
        · skip
          have ic9 := tn_le kI_0 rfl c9
          refine lv_aload_n hx hb dX9_judge_47 rfl (lv_at hl 1 rfl) ?_
          refine lv_aload_n hx hb dX9_judge_48 rfl (lv_at hl 0 rfl) ?_
          refine lv_iload_n hx hb dX9_judge_49 rfl (lv_at hl 3 rfl) ?_
          refine tc_callp (tc_runV (As := [.ref oa4, .int x2]) (rest := []) E hSt hG (c_X9_firstOtherwise l G τ h0 oa4 x2 t0 hoa4 (by omega)) t0 rv_1 kv_X9_firstOtherwise ml_X9_353 ⟨rfl, rfl, Nat.le_of_ble_eq_true rfl, Nat.le_of_ble_eq_true rfl⟩ rfl hl.1 rfl (Nat.le_of_ble_eq_true rfl) ⟨Nat.zero_le _, Nat.zero_le _⟩ dX9_judge_50) (fun r10 pr10 => ?_)
          exact tc_pret E hr hlk eH eL rfl trivial dX9_judge_53
        · skip
          have ic9 := tn_nle kI_0 rfl c9
          refine lv_bipush (v := 100) hx hb dX9_judge_42 (by decide) ?_
          refine lv_goto (tgt := 53) hx hb dX9_judge_44 (by decide) ?_
          exact tc_pret E hr hlk eH eL rfl trivial dX9_judge_53
      · skip
        have ic8 := tn_ne rfl kI_2 c8
        refine lv_bipush (v := -12) hx hb dX9_judge_35 (by decide) ?_
        exact tc_pret E hr hlk eH eL rfl trivial dX9_judge_37
    · skip
      have ic6 := tn_eq rfl kI_m1 c6
      refine lv_bipush (v := 100) hx hb dX9_judge_24 (by decide) ?_
      exact tc_pret E hr hlk eH eL rfl trivial dX9_judge_26
  · skip
    have ic2 := tn_eq rfl kI_0 c2
    refine lv_iconst (v := -1) hx hb dX9_judge_7 (by decide) ?_
    exact tc_pret E hr hlk eH eL rfl trivial dX9_judge_8

set_option maxHeartbeats 4000000 in
set_option maxRecDepth 100000 in
theorem c_X9_peek (l : Launch) (G : tG) (τ : Nat → Nat) (h0 : Nat) (x1 : Int32) (x2 : Int32) (t0 : τ h0 = 1) (tb : τ (G.2.2.1 5) = 20) : Met l yX9_peek (.code yX9_peek cX9_peek 3 (some .long) :: tWS) (tRm 1 21) (va_Pc [.ref h0, .int x1, .int x2] (tPre G τ)) (tQpl (fun r => True)) 0 0 tNo := by
  refine tc_met (by decide) (Nat.le_of_ble_eq_true rfl) ?_
  intro p e s m below meth c E hSt hr hlk hG ls hl
  have hl : lv_has ls 3 [(0, .ref h0), (1, .int x1), (2, .int x2)] := hl
  have hx := E.1
  have hb := E.2.1
  obtain ⟨H, eH⟩ : ∃ H, H = s.heap := ⟨_, rfl⟩
  obtain ⟨locs, eL⟩ : ∃ x : List Loc, x = [] := ⟨_, rfl⟩
  have hG : tGH G τ s H locs := by rw [eH, eL]; exact hG
  suffices hW : W p l e (tRm 1 21) s m ([.ref h0, .int x1, .int x2] : List Value).toArray below meth c H locs 0 0 (MQ below (tQpl (fun r => True)) ([.ref h0, .int x1, .int x2] : List Value).toArray s 0 0 tNo) (F0 m 0 ls []) by subst eH; subst eL; exact hW
  refine lv_iload_n hx hb dX9_peek_0 rfl (lv_at hl 1 rfl) ?_
  refine tc_callp (tc_runS (As := [.int x1]) (rest := []) E hSt hG (c_X9_isTape l G τ x1) ks_X9_isTape ml_X9_347 ⟨rfl, rfl, Nat.le_of_ble_eq_true rfl, Nat.le_of_ble_eq_true rfl⟩ rfl hl.1 rfl (Nat.le_of_ble_eq_true rfl) ⟨Nat.zero_le _, Nat.zero_le _⟩ dX9_peek_1) (fun r1 pr1 => ?_)
  have pr1 : (0 ≤ r1.toInt ∧ r1.toInt ≤ 1) ∧ (r1.toInt = 0 ∨ (0 ≤ x1.toInt ∧ x1.toInt ≤ 3)) ∧ (r1.toInt = 1 ∨ x1.toInt < 0 ∨ 3 < x1.toInt) := pr1
  refine lv_if_eq (tgt := 34) hx hb dX9_peek_4 (by decide) (fun c2 => ?_) (fun c2 => ?_)
  · skip
    have ic2 := tn_eq rfl kI_0 c2
    refine lv_ldc2 (v := -9223372036854775808) hx hb E.2.2.2.1 (E.2.2.2.2.1 _ (t_w5 161 rfl rfl)) dX9_peek_34 ?_
    exact tc_plret E hr hlk eH eL trivial dX9_peek_37
  · skip
    have ic2 := tn_ne rfl kI_0 c2
    refine lv_aload_n hx hb dX9_peek_7 rfl (lv_at hl 0 rfl) ?_
    refine tc_getT E hG t0 tb ff_X9_57 dX9_peek_8 (fun oa3 hoa3 => ?_)
    refine lv_iload_n hx hb dX9_peek_11 rfl (lv_at hl 1 rfl) ?_
    refine tc_aald4 E hG hoa3 ta_20 (t_in (by omega) (by omega)) dX9_peek_12 (fun oa4 hoa4 => ?_)
    refine lv_iload_n hx hb dX9_peek_13 rfl (lv_at hl 2 rfl) ?_
    refine tc_callp (tc_runV (As := [.int x2]) (rest := []) E hSt hG (c_X6_hasPlace l G τ oa4 x2 hoa4) hoa4 rv_9 kv_X6_hasPlace ml_X9_360 ⟨rfl, rfl, Nat.le_of_ble_eq_true rfl, Nat.le_of_ble_eq_true rfl⟩ rfl hl.1 rfl (Nat.le_of_ble_eq_true rfl) ⟨Nat.zero_le _, Nat.zero_le _⟩ dX9_peek_14) (fun r5 pr5 => ?_)
    have pr5 : (0 ≤ r5.toInt ∧ r5.toInt ≤ 1) ∧ (r5.toInt = 0 ∨ (0 ≤ x2.toInt ∧ x2.toInt ≤ 59)) := pr5
    refine lv_if_eq (tgt := 34) hx hb dX9_peek_17 (by decide) (fun c6 => ?_) (fun c6 => ?_)
    · skip
      have ic6 := tn_eq rfl kI_0 c6
      refine lv_ldc2 (v := -9223372036854775808) hx hb E.2.2.2.1 (E.2.2.2.2.1 _ (t_w5 161 rfl rfl)) dX9_peek_34 ?_
      exact tc_plret E hr hlk eH eL trivial dX9_peek_37
    · skip
      have ic6 := tn_ne rfl kI_0 c6
      refine lv_aload_n hx hb dX9_peek_20 rfl (lv_at hl 0 rfl) ?_
      refine tc_getT E hG t0 tb ff_X9_57 dX9_peek_21 (fun oa7 hoa7 => ?_)
      refine lv_iload_n hx hb dX9_peek_24 rfl (lv_at hl 1 rfl) ?_
      refine tc_aald4 E hG hoa7 ta_20 (t_in (by omega) (by omega)) dX9_peek_25 (fun oa8 hoa8 => ?_)
      refine tc_getr E hG hoa8 fr_X9_363 dX9_peek_26 (fun oa9 hoa9 => ?_)
      refine lv_iload_n hx hb dX9_peek_29 rfl (lv_at hl 2 rfl) ?_
      refine tc_lald E hG hoa9 ta_21 (t_in (by omega) (by omega)) dX9_peek_30 (fun z10 => ?_)
      refine lv_goto (tgt := 37) hx hb dX9_peek_31 (by decide) ?_
      exact tc_plret E hr hlk eH eL trivial dX9_peek_37

