set_option maxHeartbeats 4000000 in
set_option maxRecDepth 100000 in
theorem c_X7_beginAgain_t (l : Launch) (G : tG) (τ : Nat → Nat) (h0 : Nat) (h1 : Nat) (t0 : τ h0 = 29) (t1 : τ h1 = 26) : Met l yX7_beginAgain (.code yX7_beginAgain cX7_beginAgain 2 none :: tWS) (tRm 3 83) (va_Pc [.ref h0, .ref h1] (tPre G τ)) (tQv G τ) 0 0 (tA τ) := by
  refine tc_met (by decide) (Nat.le_of_ble_eq_true rfl) ?_
  intro p e s m below meth c E hSt hr hlk hG ls hl
  have hl : lv_has ls 2 [(0, .ref h0), (1, .ref h1)] := hl
  have hx := E.1
  have hb := E.2.1
  obtain ⟨H, eH⟩ : ∃ H, H = s.heap := ⟨_, rfl⟩
  obtain ⟨locs, eL⟩ : ∃ x : List Loc, x = [] := ⟨_, rfl⟩
  have hG : tGH G τ s H locs := by rw [eH, eL]; exact hG
  suffices hW : W p l e (tRm 3 83) s m ([.ref h0, .ref h1] : List Value).toArray below meth c H locs 0 0 (MQ below (tQv G τ) ([.ref h0, .ref h1] : List Value).toArray s 0 0 (tA τ)) (F0 m 0 ls []) by subst eH; subst eL; exact hW
  clear eH eL
  refine lv_aload_n hx hb dX7_beginAgain_0 rfl (lv_at hl 1 rfl) ?_
  refine lv_aload_n hx hb dX7_beginAgain_1 rfl (lv_at hl 0 rfl) ?_
  refine tc_getr E hG t0 frt_X7_37 dX7_beginAgain_2 (fun oa1 hoa1 => ?_)
  refine tc_callv hG (tc_runV (As := [.ref oa1]) (rest := []) E hSt hG (c_X8_copyFrom_t l G τ h1 oa1 t1 hoa1) t1 rv_26 kv_X8_copyFrom ml_X7_52 ⟨rfl, rfl, Nat.le_of_ble_eq_true rfl, Nat.le_of_ble_eq_true rfl⟩ rfl hl.1 rfl (Nat.le_of_ble_eq_true rfl) ⟨Nat.zero_le _, Nat.zero_le _⟩ dX7_beginAgain_5) (fun H locs hG => ?_)
  refine lv_aload_n hx hb dX7_beginAgain_8 rfl (lv_at hl 0 rfl) ?_
  refine lv_dup hx hb dX7_beginAgain_9 rfl ?_
  refine tc_geti E hG t0 fit_X7_40 dX7_beginAgain_10 (fun z3 _ _ => ?_)
  refine lv_aload_n hx hb dX7_beginAgain_13 rfl (lv_at hl 0 rfl) ?_
  refine tc_getr E hG t0 frt_X7_37 dX7_beginAgain_14 (fun oa4 hoa4 => ?_)
  refine tc_callp (tc_runV (As := []) (rest := [.int z3, .ref h0]) E hSt hG (c_X8_countBoxes_t l G τ oa4 hoa4) hoa4 rv_28 kv_X8_countBoxes ml_X7_55 ⟨rfl, rfl, Nat.le_of_ble_eq_true rfl, Nat.le_of_ble_eq_true rfl⟩ rfl hl.1 rfl (Nat.le_of_ble_eq_true rfl) ⟨Nat.zero_le _, Nat.zero_le _⟩ dX7_beginAgain_17) (fun r5 pr5 => ?_)
  refine lv_iadd hx hb dX7_beginAgain_20 ?_
  refine lv_topi (fun z6 ez6 => ?_)
  refine tc_puti E hG t0 fpt_X7_40 (t_any1 _) (t_any2 _) dX7_beginAgain_21 (fun H locs hG => ?_)
  exact tc_vret E hr hlk hG dX7_beginAgain_24

set_option maxHeartbeats 4000000 in
set_option maxRecDepth 100000 in
theorem c_X7_tryScreen_t (l : Launch) (G : tG) (τ : Nat → Nat) (h0 : Nat) (x1 : Int32) (x2 : Int32) (t0 : τ h0 = 29) : Met l yX7_tryScreen (.code yX7_tryScreen cX7_tryScreen 3 none :: tWS) (tRm 1092 15076) (va_Pc [.ref h0, .int x1, .int x2] (tPre G τ)) (tQv G τ) 0 0 (tA τ) := by
  refine tc_met (by decide) (Nat.le_of_ble_eq_true rfl) ?_
  intro p e s m below meth c E hSt hr hlk hG ls hl
  have hl : lv_has ls 3 [(0, .ref h0), (1, .int x1), (2, .int x2)] := hl
  have hx := E.1
  have hb := E.2.1
  obtain ⟨H, eH⟩ : ∃ H, H = s.heap := ⟨_, rfl⟩
  obtain ⟨locs, eL⟩ : ∃ x : List Loc, x = [] := ⟨_, rfl⟩
  have hG : tGH G τ s H locs := by rw [eH, eL]; exact hG
  suffices hW : W p l e (tRm 1092 15076) s m ([.ref h0, .int x1, .int x2] : List Value).toArray below meth c H locs 0 0 (MQ below (tQv G τ) ([.ref h0, .int x1, .int x2] : List Value).toArray s 0 0 (tA τ)) (F0 m 0 ls []) by subst eH; subst eL; exact hW
  clear eH eL
  refine lv_aload_n hx hb dX7_tryScreen_0 rfl (lv_at hl 0 rfl) ?_
  refine lv_aload_n hx hb dX7_tryScreen_1 rfl (lv_at hl 0 rfl) ?_
  refine tc_getr E hG t0 frt_X7_12 dX7_tryScreen_2 (fun oa1 hoa1 => ?_)
  refine tc_callv hG (tc_runV (As := [.ref oa1]) (rest := []) E hSt hG (c_X7_beginAgain_t l G τ h0 oa1 t0 hoa1) t0 rv_29 kv_X7_beginAgain ml_X7_58 ⟨rfl, rfl, Nat.le_of_ble_eq_true rfl, Nat.le_of_ble_eq_true rfl⟩ rfl hl.1 rfl (Nat.le_of_ble_eq_true rfl) ⟨Nat.zero_le _, Nat.zero_le _⟩ dX7_tryScreen_5) (fun H locs hG => ?_)
  refine lv_aload_n hx hb dX7_tryScreen_8 rfl (lv_at hl 0 rfl) ?_
  refine tc_getr E hG t0 frt_X7_12 dX7_tryScreen_9 (fun oa3 hoa3 => ?_)
  refine lv_iload_n hx hb dX7_tryScreen_12 rfl (lv_at hl 1 rfl) ?_
  refine lv_iload_n hx hb dX7_tryScreen_13 rfl (lv_at hl 2 rfl) ?_
  refine tc_callv hG (tc_runV (As := [.int x1, .int x2]) (rest := []) E hSt hG (c_X8_tellScreen_c l G τ oa3 x1 x2 hoa3) hoa3 rv_26 kv_X8_tellScreen ml_X7_71 ⟨rfl, rfl, Nat.le_of_ble_eq_true rfl, Nat.le_of_ble_eq_true rfl⟩ rfl hl.1 rfl (Nat.le_of_ble_eq_true rfl) ⟨Nat.zero_le _, Nat.zero_le _⟩ dX7_tryScreen_14) (fun H locs hG => ?_)
  refine lv_aload_n hx hb dX7_tryScreen_17 rfl (lv_at hl 0 rfl) ?_
  refine tc_getr E hG t0 frt_X7_26 dX7_tryScreen_18 (fun oa5 hoa5 => ?_)
  refine tc_callv hG (tc_runV (As := []) (rest := []) E hSt hG (c_X3_layOut_c l G τ oa5 hoa5) hoa5 rv_27 kv_X3_layOut ml_X7_61 ⟨rfl, rfl, Nat.le_of_ble_eq_true rfl, Nat.le_of_ble_eq_true rfl⟩ rfl hl.1 rfl (Nat.le_of_ble_eq_true rfl) ⟨Nat.zero_le _, Nat.zero_le _⟩ dX7_tryScreen_21) (fun H locs hG => ?_)
  exact tc_vret E hr hlk hG dX7_tryScreen_24

set_option maxHeartbeats 4000000 in
set_option maxRecDepth 100000 in
theorem f_X7_highOfTop {p : Program} {l : Launch} {e : Env} {s : State} {m : MethodId} {args : Array Value} {below : List Frame} {meth : Method} {c : Code} {Q : State → Prop} {G : tG} {τ : Nat → Nat} (h0 : Nat) (x1 : Int32) (E : tE G p s m c args RX7 cX7_highOfTop 2) (hSt : tSt G (tA τ) s) (t0 : τ h0 = 29) (hret : ∀ (pc : Nat) (ls : Array Slot) (v : Int32) (H : Heap) (locs : List Loc), decode cX7_highOfTop pc = .ok (.ireturn, 1) → tGH G τ s H locs → W p l e (tRm 1093 15098) s m args below meth c H locs 0 0 Q (F0 m pc ls [.int v])) (H : Heap) (locs : List Loc) (ls : Array Slot) (hG : tGH G τ s H locs) (hl : lv_has ls 2 [(0, .ref h0), (1, .int x1)]) : W p l e (tRm 1093 15098) s m args below meth c H locs 0 0 (Q) (F0 m 20 ls []) := by
  have hx := E.1
  have hb := E.2.1
  refine lv_aload_n hx hb dX7_highOfTop_20 rfl (lv_at hl 0 rfl) ?_
  refine lv_iload_n hx hb dX7_highOfTop_21 rfl (lv_at hl 1 rfl) ?_
  refine lv_sipush (v := 1000) hx hb dX7_highOfTop_22 (by decide) ?_
  refine tc_callv hG (tc_runV (As := [.int x1, .int 1000]) (rest := []) E hSt hG (c_X7_tryScreen_t l G τ h0 x1 (1000 : Int32) t0) t0 rv_29 kv_X7_tryScreen ml_X7_85 ⟨rfl, rfl, Nat.le_of_ble_eq_true rfl, Nat.le_of_ble_eq_true rfl⟩ rfl hl.1 rfl (Nat.le_of_ble_eq_true rfl) ⟨Nat.zero_le _, Nat.zero_le _⟩ dX7_highOfTop_25) (fun H locs hG => ?_)
  refine lv_aload_n hx hb dX7_highOfTop_28 rfl (lv_at hl 0 rfl) ?_
  refine tc_getr E hG t0 frt_X7_12 dX7_highOfTop_29 (fun oa2 hoa2 => ?_)
  refine tc_getr E hG hoa2 frc_X7_91 dX7_highOfTop_32 (fun oa3 hoa3 => ?_)
  refine lv_aload_n hx hb dX7_highOfTop_35 rfl (lv_at hl 0 rfl) ?_
  refine tc_getr E hG t0 frt_X7_37 dX7_highOfTop_36 (fun oa4 hoa4 => ?_)
  refine tc_geti E hG hoa4 fit_X7_75 dX7_highOfTop_39 (fun z5 lz5 uz5 => ?_)
  refine tc_aald3 E hG hoa3 ta_34 (t_in (by omega) (by omega)) dX7_highOfTop_42 (fun oa6 hoa6 => ?_)
  refine tc_getr E hG hoa6 frk_X7_95 dX7_highOfTop_43 (fun oa7 hoa7 => ?_)
  refine tc_geti E hG hoa7 fi_X7_101 dX7_highOfTop_46 (fun z8 _ _ => ?_)
  exact hret _ _ _ _ _ dX7_highOfTop_49 hG

/-- the World at r has a TOP; the Thought at h looks at it -/
def tTal (τ : Nat → Nat) (r h : Nat) : Nat → Nat := fun q => if q = r then 28 else if q = h then 29 else if τ q = 1 ∨ τ q = 5 ∨ τ q = 6 ∨ τ q = 8 then 0 else τ q
theorem tTal_r : ∀ t, ¬ (t = 1 ∨ t = 5 ∨ t = 6 ∨ t = 8) → t ≠ 29 → ∀ c ∈ tRefs t, c ≠ 1 ∧ c ≠ 2 ∧ c ≠ 5 ∧ c ≠ 6 ∧ c ≠ 8 ∧ c ≠ 28 ∧ c ≠ 29 ∧ c ≠ 0 := by
  intro t ht h29 c hc
  unfold tRefs at hc
  split at hc <;> first | exact absurd (by decide) ht | exact absurd rfl h29 | (revert c; decide)
theorem tKn_28 {G : tG} {a k : Nat} {v : Value} (h : tKn G 2 a k v) : tKn G 28 a k v := ⟨h.1, h.2.1, fun z => by simp [tMf] at z⟩
theorem tKn_2 {G : tG} {a k : Nat} {v : Value} (h : tKn G 28 a k v) : tKn G 2 a k v := ⟨h.1, h.2.1, fun z => by simp [tMf] at z⟩
section TTL
variable {s : State} {H : Heap} {locs : List Loc} {r h : Nat} {G : tG} {τ : Nat → Nat}
theorem tTal_c {b c : Nat} (hr : τ r = 2) (hh : τ h = 6) (h2 : c ≠ 2) (h6 : c ≠ 6) (hc : ¬ (c = 1 ∨ c = 5 ∨ c = 6 ∨ c = 8)) (hb : τ b = c) : tTal τ r h b = c := by
  unfold tTal
  by_cases e1 : b = r
  · subst e1; exact absurd (hb.symm.trans hr) h2
  · by_cases e2 : b = h
    · subst e2; exact absurd (hb.symm.trans hh) h6
    · rw [if_neg e1, if_neg e2, if_neg (by rw [hb]; exact hc)]
      exact hb
theorem tTal_b {b c : Nat} (h1 : c ≠ 28) (h2 : c ≠ 29) (h0 : c ≠ 0) (hb : tTal τ r h b = c) : τ b = c := by
  unfold tTal at hb
  by_cases e1 : b = r
  · rw [if_pos e1] at hb; exact absurd hb.symm h1
  · by_cases e2 : b = h
    · rw [if_neg e1, if_pos e2] at hb; exact absurd hb.symm h2
    · rw [if_neg e1, if_neg e2] at hb
      by_cases e3 : τ b = 1 ∨ τ b = 5 ∨ τ b = 6 ∨ τ b = 8
      · rw [if_pos e3] at hb; exact absurd hb.symm h0
      · rw [if_neg e3] at hb; exact hb
theorem tTal_sub {q : Nat} (hr : τ r = 2) (hh : τ h = 6) (hq : tA (tTal τ r h) q) : tA τ q := by
  show τ q ≠ 0
  by_cases e1 : q = r
  · rw [e1, hr]; decide
  · by_cases e2 : q = h
    · rw [e2, hh]; decide
    · intro z
      apply hq
      show tTal τ r h q = 0
      unfold tTal
      rw [if_neg e1, if_neg e2, z]
      rfl
theorem t_29 : ∀ j, j ≠ 0 → tFD 29 j = tFD 6 j
  | 0, hj => absurd rfl hj
  | 1, _ => rfl
  | 2, _ => rfl
  | 3, _ => rfl
  | 4, _ => rfl
  | 5, _ => rfl
  | 6, _ => rfl
  | _ + 7, _ => rfl
theorem t_28 : ∀ j, j ≠ 9 → tFD 28 j = tFD 2 j
  | 0, _ => rfl
  | 1, _ => rfl
  | 2, _ => rfl
  | 3, _ => rfl
  | 4, _ => rfl
  | 5, _ => rfl
  | 6, _ => rfl
  | 7, _ => rfl
  | 8, _ => rfl
  | 9, hj => absurd rfl hj
  | 10, _ => rfl
  | 11, _ => rfl
  | 12, _ => rfl
  | _ + 13, _ => rfl
theorem t_slot {a ci k : Nat} {V : Nat → Value} {q : vw_C} {v : Value} (hc : vwCl[ci]? = some q) (hk : k < q.2.2) (ho : t_OB a (G.1.1 ci) q.2.2 (G.1.2 ci) H V) (hs : tSl G H a ci k v) : V k = v := by
  obtain ⟨cell, h1, h2, h3, h4⟩ := ho
  obtain ⟨cell2, g1, g2, g3⟩ := hs
  cases h1.symm.trans g1
  exact Option.some.inj ((h4 k hk).symm.trans g3)
theorem tTal_to {z : Int32} (hG : tGH G τ s H locs) (hr : τ r = 2) (hh : τ h = 6) (h29 : ∀ q, τ q ≠ 29) (fr : tSl G H h 6 0 (.ref r)) (ft : tSl G H r 7 9 (.int z)) (z0 : 0 ≤ z.toInt) (z1 : z.toInt ≤ 23) (hS : ∀ q : Nat, H[q]? = s.heap[q]?) (hz : H.size = s.heap.size) (hloc : locs = []) : tGH G (tTal τ r h) s H locs := by
  have hne : h ≠ r := fun e => by rw [e, hr] at hh; cases hh
  refine ⟨TH.mk (fun q hq => ?_), by rw [hz]; exact Nat.le_refl _, fun q _ _ => hS q, by rw [hloc]; intro q hq; cases hq⟩
  by_cases e1 : q = r
  · subst e1
    have e28 : tTal τ q h q = 28 := if_pos rfl
    have h0 := hG.1.at (q := q) (by rw [hr]; decide)
    rw [hr] at h0
    rw [e28]
    obtain ⟨rr, V, g1, g2, g3⟩ := h0
    refine ⟨rr, V, g1, g2, fun k hk => ?_⟩
    by_cases ek : k = 9
    · subst ek
      have e9 := t_slot g1 hk g2 ft
      have h9 := (g3 9 hk).2
      rw [e9] at h9 ⊢
      exact ⟨⟨z, rfl, z0, z1⟩, tKn_28 h9⟩
    · have h1 := tsv_to (τ' := tTal τ q h) (g3 k hk) (fun c hc x hx => by
        have hq9 := tTal_r 2 (by decide) (by decide) c hc
        exact tTal_c hr hh hq9.2.1 hq9.2.2.2.1 (fun z => by omega) hx)
      refine ⟨?_, tKn_28 h1.2⟩
      rw [t_28 k ek]
      exact h1.1
  · by_cases e2 : q = h
    · subst e2
      have e29 : tTal τ r q q = 29 := by unfold tTal; rw [if_neg e1, if_pos rfl]
      have h0 := hG.1.at (q := q) (by rw [hh]; decide)
      rw [hh] at h0
      rw [e29]
      obtain ⟨rr, V, g1, g2, g3⟩ := h0
      refine ⟨rr, V, g1, g2, fun k hk => ?_⟩
      by_cases ek : k = 0
      · subst ek
        have e9 := t_slot g1 hk g2 fr
        rw [e9]
        exact ⟨⟨r, rfl, if_pos rfl⟩, tKn_q rfl rfl⟩
      · refine ⟨?_, tKn_q rfl rfl⟩
        have h3 := (g3 k hk).1
        rw [← t_29 k ek] at h3
        refine tsv_to1 h3 (fun c hc x hx => ?_)
        rcases (show c = 28 ∨ c = 26 ∨ c = 27 ∨ c = 14 by simpa [tRefs] using hc) with e | e | e | e <;> subst e <;> exact tTal_c hr hh (by decide) (by decide) (by decide) hx
    · have ht : ¬ (τ q = 1 ∨ τ q = 5 ∨ τ q = 6 ∨ τ q = 8) := fun z => hq (by unfold tTal; rw [if_neg e1, if_neg e2, if_pos z])
      have e3 : tTal τ r h q = τ q := by unfold tTal; rw [if_neg e1, if_neg e2, if_neg ht]
      rw [e3]
      exact (hG.1.at (fun z => hq (by rw [e3]; exact z))).to (fun j v hv => tsv_to hv (fun c hc x hx => by
        have hq9 := tTal_r _ ht (h29 q) c hc
        exact tTal_c hr hh hq9.2.1 hq9.2.2.2.1 (fun z => by omega) hx))
theorem tTal_back (hr : τ r = 2) (hh : τ h = 6) (h28 : ∀ q, τ q ≠ 28) (h29 : ∀ q, τ q ≠ 29) (hT0 : TH G (tΓ G τ) s.heap) (hG : tGH G (tTal τ r h) s H locs) : tGH G τ s H locs := by
  have hne : h ≠ r := fun e => by rw [e, hr] at hh; cases hh
  refine ⟨TH.mk (fun q hq => ?_), hG.2.1, fun q h1 h2 => hG.2.2.1 q h1 (fun z => h2 (tTal_sub hr hh z)), fun q hq => tTal_sub hr hh (hG.2.2.2 q hq)⟩
  by_cases e1 : q = r
  · subst e1
    have e28 : tTal τ q h q = 28 := if_pos rfl
    have h0 := hG.1.at (q := q) (by rw [e28]; decide)
    rw [e28] at h0
    rw [hr]
    refine tAt.to (k := .inl 7) h0 (fun j v hv => ?_)
    have h1 := tsv_to (τ' := τ) hv (fun c hc x hx => by
      have hq9 := tTal_r 28 (by decide) (by decide) c hc
      exact tTal_b hq9.2.2.2.2.2.1 hq9.2.2.2.2.2.2.1 hq9.2.2.2.2.2.2.2 hx)
    by_cases ej : j = 9
    · subst ej
      obtain ⟨⟨x, ex, -, -⟩, h9⟩ := h1
      exact ⟨⟨x, ex, t_any1 x, t_any2 x⟩, tKn_2 h9⟩
    · have h2 := h1.1
      rw [t_28 j ej] at h2
      exact ⟨h2, tKn_2 h1.2⟩
  · by_cases e2 : q = h
    · subst e2
      have e29 : tTal τ r q q = 29 := by unfold tTal; rw [if_neg e1, if_pos rfl]
      have h0 := hG.1.at (q := q) (by rw [e29]; decide)
      rw [e29] at h0
      rw [hh]
      refine tAt.to (k := .inl 6) h0 (fun j v hv => ?_)
      by_cases ej : j = 0
      · subst ej
        obtain ⟨⟨b, eb, hb⟩, -⟩ := hv
        refine ⟨⟨b, eb, ?_⟩, tKn_q rfl rfl⟩
        have hb : tTal τ r q b = 28 := hb
        unfold tTal at hb
        by_cases f1 : b = r
        · rw [f1]; exact hr
        · rw [if_neg f1] at hb
          by_cases f2 : b = q
          · rw [if_pos f2] at hb; cases hb
          · rw [if_neg f2] at hb
            by_cases f3 : τ b = 1 ∨ τ b = 5 ∨ τ b = 6 ∨ τ b = 8
            · rw [if_pos f3] at hb; cases hb
            · rw [if_neg f3] at hb; exact absurd hb (h28 b)
      · have hv2 : tsv (tTal τ r q) (tFD 6 j) v := by rw [← t_29 j ej]; exact hv.1
        refine ⟨tsv_to1 hv2 (fun c hc x hx => ?_), tKn_q rfl rfl⟩
        rcases (show c = 2 ∨ c = 26 ∨ c = 27 ∨ c = 14 by simpa [tRefs] using hc) with e | e | e | e <;> subst e <;> exact tTal_b (by decide) (by decide) (by decide) hx
    · by_cases ht : τ q = 1 ∨ τ q = 5 ∨ τ q = 6 ∨ τ q = 8
      · have h1 := hT0.at hq
        exact h1.kept (hG.2.2.1 q h1.lt (fun z => z (by show tTal τ r h q = 0; unfold tTal; rw [if_neg e1, if_neg e2, if_pos ht])))
      · have e3 : tTal τ r h q = τ q := by unfold tTal; rw [if_neg e1, if_neg e2, if_neg ht]
        have h := hG.1.at (q := q) (by rw [e3]; exact hq)
        rw [e3] at h
        exact h.to (fun j v hv => tsv_to hv (fun c hc x hx => by
          have hq9 := tTal_r _ ht (h29 q) c hc
          exact tTal_b hq9.2.2.2.2.2.1 hq9.2.2.2.2.2.2.1 hq9.2.2.2.2.2.2.2 hx))
end TTL
set_option maxHeartbeats 4000000 in
theorem c_X7_highOfTop (l : Launch) (G : tG) (τ : Nat → Nat) (h0 : Nat) (x1 : Int32) (t0 : τ h0 = 6) (h28 : ∀ q, τ q ≠ 28) (h29 : ∀ q, τ q ≠ 29) : Met l yX7_highOfTop (.code yX7_highOfTop cX7_highOfTop 2 (some .int) :: tWS) (tRm 1093 15098) (va_Pc [.ref h0, .int x1] (tPre G τ)) (tQi G τ (fun r => True)) 0 0 (tA τ) := by
  refine tc_met (by decide) (Nat.le_of_ble_eq_true rfl) ?_
  intro p e s m below meth c E hSt hr hlk hG ls hl
  have hl : lv_has ls 2 [(0, .ref h0), (1, .int x1)] := hl
  have hx := E.1
  have hb := E.2.1
  refine lv_aload_n hx hb dX7_highOfTop_0 rfl (lv_at hl 0 rfl) ?_
  refine tc_getrS E hG t0 fr_X7_37 dX7_highOfTop_1 (fun r hr2 fr => ?_)
  have fr := fr _ rfl
  refine lv_aload_n hx hb dX7_highOfTop_4 rfl (lv_at hl 0 rfl) ?_
  refine tc_seen E ff_X7_37 fr dX7_highOfTop_5 ?_
  refine tc_getiS E hG hr2 fi_X7_75 dX7_highOfTop_8 (fun z lz uz ft => ?_)
  have ft := ft _ rfl
  refine tc_callp (tc_runV (As := [.int z]) (rest := []) E hSt hG (c_X8_has l G τ r z hr2) hr2 rv_2 kv_X8_has ml_X7_78 ⟨rfl, rfl, Nat.le_of_ble_eq_true rfl, Nat.le_of_ble_eq_true rfl⟩ rfl hl.1 rfl (Nat.le_of_ble_eq_true rfl) ⟨Nat.zero_le _, Nat.zero_le _⟩ dX7_highOfTop_11) (fun r1 p1 => ?_)
  have p1 : (0 ≤ r1.toInt ∧ r1.toInt ≤ 1) ∧ (r1.toInt = 0 ∨ (0 ≤ z.toInt ∧ z.toInt ≤ 23)) := p1
  refine lv_if_ne (tgt := 20) hx hb dX7_highOfTop_14 (by decide) (fun c1 => ?_) (fun c1 => ?_)
  · have ic1 := tn_ne rfl kI_0 c1
    have hG1 := tTal_to hG hr2 t0 h29 fr ft (by omega) (by omega) (fun q => rfl) rfl rfl
    have hne : h0 ≠ r := fun e => by rw [e, hr2] at t0; cases t0
    exact f_X7_highOfTop h0 x1 E (hSt.narrow (fun q h => tTal_sub hr2 t0 h)) (by unfold tTal; rw [if_neg hne, if_pos rfl]) (fun pc ls v H locs hd hg => tc_iret E hr hlk (tTal_back hr2 t0 h28 h29 hG.1 hg) trivial hd) s.heap [] ls hG1 hl
  · refine lv_bipush (v := -5) hx hb dX7_highOfTop_17 (by decide) ?_
    exact tc_iret E hr hlk hG trivial dX7_highOfTop_19

set_option maxHeartbeats 4000000 in
set_option maxRecDepth 100000 in
theorem c_X9_tall (l : Launch) (G : tG) (τ : Nat → Nat) (h0 : Nat) (x1 : Int32) (t0 : τ h0 = 1) (h28 : ∀ q, τ q ≠ 28) (h29 : ∀ q, τ q ≠ 29) : Met l yX9_tall (.code yX9_tall cX9_tall 2 (some .int) :: tWS) (tRm 1094 15119) (va_Pc [.ref h0, .int x1] (tPre G τ)) (tQi G τ (fun r => True)) 0 0 (tA τ) := by
  refine tc_met (by decide) (Nat.le_of_ble_eq_true rfl) ?_
  intro p e s m below meth c E hSt hr hlk hG ls hl
  have hl : lv_has ls 2 [(0, .ref h0), (1, .int x1)] := hl
  have hx := E.1
  have hb := E.2.1
  obtain ⟨H, eH⟩ : ∃ H, H = s.heap := ⟨_, rfl⟩
  obtain ⟨locs, eL⟩ : ∃ x : List Loc, x = [] := ⟨_, rfl⟩
  have hG : tGH G τ s H locs := by rw [eH, eL]; exact hG
  suffices hW : W p l e (tRm 1094 15119) s m ([.ref h0, .int x1] : List Value).toArray below meth c H locs 0 0 (MQ below (tQi G τ (fun r => True)) ([.ref h0, .int x1] : List Value).toArray s 0 0 (tA τ)) (F0 m 0 ls []) by subst eH; subst eL; exact hW
  clear eH eL
  refine lv_iload_n hx hb dX9_tall_0 rfl (lv_at hl 1 rfl) ?_
  refine lv_if_lt (tgt := 11) hx hb dX9_tall_1 (by decide) (fun c1 => ?_) (fun c1 => ?_)
  · skip
    have ic1 := tn_lt rfl kI_0 c1
    refine lv_bipush (v := -2) hx hb dX9_tall_11 (by decide) ?_
    exact tc_iret E hr hlk hG trivial dX9_tall_13
  · skip
    have ic1 := tn_nlt rfl kI_0 c1
    refine lv_iload_n hx hb dX9_tall_4 rfl (lv_at hl 1 rfl) ?_
    refine lv_sipush (v := 200) hx hb dX9_tall_5 (by decide) ?_
    refine lv_icmp_le (tgt := 14) hx hb dX9_tall_8 (by decide) (fun c2 => ?_) (fun c2 => ?_)
    · skip
      have ic2 := tn_le rfl kI_200 c2
      refine lv_aload_n hx hb dX9_tall_14 rfl (lv_at hl 0 rfl) ?_
      refine tc_getr E hG t0 fr_X9_33 dX9_tall_15 (fun oa3 hoa3 => ?_)
      refine tc_callp (tc_runV (As := []) (rest := []) E hSt hG (c_X7_isTired l G τ oa3 hoa3) hoa3 rv_6 kv_X7_isTired ml_X9_287 ⟨rfl, rfl, Nat.le_of_ble_eq_true rfl, Nat.le_of_ble_eq_true rfl⟩ rfl hl.1 rfl (Nat.le_of_ble_eq_true rfl) ⟨Nat.zero_le _, Nat.zero_le _⟩ dX9_tall_18) (fun r4 pr4 => ?_)
      have pr4 : 0 ≤ r4.toInt ∧ r4.toInt ≤ 1 := pr4
      refine lv_if_eq (tgt := 29) hx hb dX9_tall_21 (by decide) (fun c5 => ?_) (fun c5 => ?_)
      · skip
        have ic5 := tn_eq rfl kI_0 c5
        refine lv_aload_n hx hb dX9_tall_29 rfl (lv_at hl 0 rfl) ?_
        refine tc_getr E hG t0 fr_X9_33 dX9_tall_30 (fun oa6 hoa6 => ?_)
        refine lv_iload_n hx hb dX9_tall_33 rfl (lv_at hl 1 rfl) ?_
        refine tc_calli hG (tc_runV (As := [.int x1]) (rest := []) E hSt hG (c_X7_highOfTop l G τ oa6 x1 hoa6 h28 h29) hoa6 rv_6 kv_X7_highOfTop ml_X9_297 ⟨rfl, rfl, Nat.le_of_ble_eq_true rfl, Nat.le_of_ble_eq_true rfl⟩ rfl hl.1 rfl (Nat.le_of_ble_eq_true rfl) ⟨Nat.zero_le _, Nat.zero_le _⟩ dX9_tall_34) (fun r7 H locs pr7 hG => ?_)
        exact tc_iret E hr hlk hG trivial dX9_tall_37
      · skip
        have ic5 := tn_ne rfl kI_0 c5
        refine lv_bipush (v := -4) hx hb dX9_tall_24 (by decide) ?_
        refine lv_goto (tgt := 37) hx hb dX9_tall_26 (by decide) ?_
        exact tc_iret E hr hlk hG trivial dX9_tall_37
    · skip
      have ic2 := tn_nle rfl kI_200 c2
      refine lv_bipush (v := -2) hx hb dX9_tall_11 (by decide) ?_
      exact tc_iret E hr hlk hG trivial dX9_tall_13
