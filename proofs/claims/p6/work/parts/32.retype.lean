/-! ===== cells that get another type for a while ===== -/
/-- the types that a type's slots name -/
def tRefs (t : Nat) : List Nat := match t with
  | 1 => [2, 30, 5, 6, 7, 8, 18, 20]
  | 2 => [10, 12, 13]
  | 26 => [10, 12, 13]
  | 28 => [10, 12, 13]
  | 30 => [10, 12, 13]
  | 27 => [26]
  | 29 => [28, 26, 27, 14]
  | 3 => [11, 12, 4]
  | 4 => []
  | 5 => [2]
  | 6 => [2, 26, 27, 14]
  | 7 => [15, 16, 17, 18]
  | 8 => [19, 2]
  | 9 => [21]
  | 10 => [3]
  | 11 => []
  | 12 => []
  | 13 => []
  | 14 => []
  | 15 => []
  | 16 => []
  | 17 => [11]
  | 18 => []
  | 19 => []
  | 20 => [9]
  | 21 => []
  | _ => [15, 16, 17, 18]
def tRok (l : List Nat) (d : tSD) : Bool := !(d.1 == 1 || d.1 == 2) || l.contains d.2.1.toNat
theorem tRok_getD {l : List Nat} {ds : List tSD} (h : ds.all (tRok l) = true) (k : Nat) : tRok l (ds.getD k tAny) = true := by
  rw [List.getD_eq_getElem?_getD]
  cases e : ds[k]? with
  | none => rfl
  | some d => exact List.all_eq_true.mp h d (List.mem_of_getElem? e)
theorem tRefs_ok : ∀ t k : Nat, tRok (tRefs t) (tFD t k) = true
  | 0, k => tRok_getD (by decide) k
  | 1, k => tRok_getD (by decide) k
  | 2, k => tRok_getD (by decide) k
  | 3, k => tRok_getD (by decide) k
  | 4, k => tRok_getD (by decide) k
  | 5, k => tRok_getD (by decide) k
  | 6, k => tRok_getD (by decide) k
  | 7, k => tRok_getD (by decide) k
  | 8, k => tRok_getD (by decide) k
  | 9, k => tRok_getD (by decide) k
  | 10, _ => rfl
  | 11, _ => rfl
  | 12, _ => rfl
  | 13, _ => rfl
  | 14, _ => rfl
  | 15, _ => rfl
  | 16, _ => rfl
  | 17, _ => rfl
  | 18, _ => rfl
  | 19, _ => rfl
  | 20, _ => rfl
  | 21, _ => rfl
  | 22, k => tRok_getD (by decide) k
  | 23, k => tRok_getD (by decide) k
  | 24, k => tRok_getD (by decide) k
  | 25, k => tRok_getD (by decide) k
  | 26, k => tRok_getD (by decide) k
  | 27, k => tRok_getD (by decide) k
  | 28, k => tRok_getD (by decide) k
  | 29, k => tRok_getD (by decide) k
  | 30, k => tRok_getD (by decide) k
  | _ + 31, k => tRok_getD (l := [15, 16, 17, 18]) (by decide) k
theorem tsv_to1 {τ τ' : Nat → Nat} {t k : Nat} {v : Value} (h : tsv τ (tFD t k) v) (hc : ∀ c ∈ tRefs t, ∀ b, τ b = c → τ' b = c) : tsv τ' (tFD t k) v := by
  have hr := tRefs_ok t k
  generalize tFD t k = d at h hr ⊢
  obtain ⟨n, a, z⟩ := d
  match n, h, hr with
  | 0, h, _ => exact h
  | 1, ⟨b, e, hb⟩, hr =>
    refine ⟨b, e, hc _ ?_ b hb⟩
    simpa [tRok] using hr
  | 2, h, hr =>
    rcases h with h | ⟨b, e, hb⟩
    · exact Or.inl h
    · refine Or.inr ⟨b, e, hc _ ?_ b hb⟩
      simpa [tRok] using hr
  | n + 3, h, _ => exact h
theorem tsv_to {G : tG} {a : Nat} {τ τ' : Nat → Nat} {t k : Nat} {v : Value} (h : tsv τ (tFD t k) v ∧ tKn G t a k v) (hc : ∀ c ∈ tRefs t, ∀ b, τ b = c → τ' b = c) : tsv τ' (tFD t k) v ∧ tKn G t a k v := ⟨tsv_to1 h.1 hc, h.2⟩
def tG0 (G : tG) : tG := (G.1, G.2.1, fun i => if i < 5 then G.2.2.1 i else 0, G.2.2.2.1, G.2.2.2.2)
theorem kn_0 {G : tG} {a k : Nat} : kW (tG0 G) a k = none := by
  show (match (if 100 + 64 * a + k < 5 then G.2.2.1 (100 + 64 * a + k) else 0) with | 0 => none | n + 1 => some (Int32.ofNat n)) = none
  rw [if_neg (by omega)]
theorem tKn_0 {G : tG} {t a k : Nat} {v : Value} : tKn (tG0 G) t a k v := fun _ => ⟨fun y h => (by rw [kn_0] at h; cases h), fun _ hk _ h => absurd (show (if 6 + k < 5 then G.2.2.1 (6 + k) else 0) = 0 from if_neg (by omega)) h⟩
theorem tAt.to {G : tG} {k : Nat ⊕ (Nat × Nat)} {P P' : Nat → Value → Prop} {a : Nat} {H : Heap} (h : tAt G (k, P) a H) (hp : ∀ j v, P j v → P' j v) : tAt G (k, P') a H := by
  cases k with
  | inl ci =>
    obtain ⟨r, V, h1, h2, h3⟩ := h
    exact ⟨r, V, h1, h2, fun j hj => hp _ _ (h3 j hj)⟩
  | inr q =>
    obtain ⟨V, h1, h2⟩ := h
    exact ⟨V, h1, fun j hj => hp _ _ (h2 j hj)⟩
theorem tAt.lt {G : tG} {sh : tSH} {a : Nat} {H : Heap} (h : tAt G sh a H) : a < H.size := by
  obtain ⟨k, P⟩ := sh
  cases k with
  | inl ci =>
    obtain ⟨r, V, h1, ⟨cell, h2, -⟩, h3⟩ := h
    exact (Array.getElem?_eq_some_iff.mp h2).1
  | inr q =>
    obtain ⟨V, h1, h2⟩ := h
    exact (Array.getElem?_eq_some_iff.mp h1).1
theorem TH.at {G G' : tG} {τ : Nat → Nat} {H : Heap} (h : TH G (tΓ G' τ) H) {q : Nat} (hq : τ q ≠ 0) : tAt G (tShp (τ q), fun k v => tsv τ (tFD (τ q) k) v ∧ tKn G' (τ q) q k v) q H := h q _ (tΓ_at rfl hq)
theorem TH.mk {G G' : tG} {τ : Nat → Nat} {H : Heap} (h : ∀ q, τ q ≠ 0 → tAt G (tShp (τ q), fun k v => tsv τ (tFD (τ q) k) v ∧ tKn G' (τ q) q k v) q H) : TH G (tΓ G' τ) H := fun q sh hs => by
  have hq : τ q ≠ 0 := tΓ_no (by rw [hs]; exact fun z => by cases z)
  rw [tΓ_at rfl hq] at hs
  cases hs
  exact h q hq
/-- the Reader at h has its letters; who holds it looks away -/
def tLet (τ : Nat → Nat) (h : Nat) : Nat → Nat := fun q => if q = h then 22 else if τ q = 1 then 0 else τ q
theorem tLet_sub {τ : Nat → Nat} {h q : Nat} (h0 : τ h = 7) (hq : tA (tLet τ h) q) : tA τ q := by
  show τ q ≠ 0
  by_cases e : q = h
  · rw [e, h0]; decide
  · intro z
    apply hq
    show tLet τ h q = 0
    unfold tLet
    rw [if_neg e, z]
    rfl
theorem tLet_c {τ : Nat → Nat} {h b c : Nat} (h0 : τ h = 7) (h7 : c ≠ 7) (h1 : c ≠ 1) (hb : τ b = c) : tLet τ h b = c := by
  unfold tLet
  by_cases e : b = h
  · subst e; exact absurd (hb.symm.trans h0) h7
  · rw [if_neg e, if_neg (by rw [hb]; exact h1)]
    exact hb
theorem tLet_b {τ : Nat → Nat} {h b c : Nat} (h22 : c ≠ 22) (h0 : c ≠ 0) (hb : tLet τ h b = c) : τ b = c := by
  unfold tLet at hb
  by_cases e : b = h
  · rw [if_pos e] at hb; exact absurd hb.symm h22
  · rw [if_neg e] at hb
    by_cases e1 : τ b = 1
    · rw [if_pos e1] at hb; exact absurd hb.symm h0
    · rw [if_neg e1] at hb; exact hb
theorem tLet_r1 : ∀ t, t ≠ 1 → ∀ c ∈ tRefs t, c ≠ 7 ∧ c ≠ 1 ∧ c ≠ 22 ∧ c ≠ 0 := by
  intro t ht c hc
  unfold tRefs at hc
  split at hc <;> first | exact absurd rfl ht | (revert c; decide)
section TLT
variable {p : Program} {l : Launch} {e : Env} {R : Room} {s : State} {m : MethodId} {args : Array Value} {below : List Frame} {meth : Method} {c : Code} {H : Heap} {locs : List Loc} {Q : State → Prop}
variable {cc : ByteArray} {pc : Nat} {ls : Array Slot} {rest : List Value} {a b : Nat} {G : tG} {nL : Nat} {τ : Nat → Nat} {cells slots : Nat}
theorem tc_letters (E : tE G p s m c args RX5 cc nL) (hG : tGH G τ s H locs) (ha : τ a = 7) (hb : τ b = 18) (hdg : decode cc pc = .ok (.putfield 29, 3))
    (kk : ∀ (H1 : Heap) (locs1 : List Loc), tGH G (tLet τ a) s H1 locs1 → W p l e R s m args below meth c H1 locs1 cells slots Q (F0 m (pc + 3) ls rest)) (hloc : ∀ q ∈ locs, tA (tLet τ a) q.base) (hS0 : ∀ q : Nat, q < s.heap.size → H[q]? = s.heap[q]?) : W p l e R s m args below meth c H locs cells slots Q (F0 m pc ls (.ref b :: .ref a :: rest)) := by
  have hΓ := tΓ_at (G := G) ha (by decide : (7 : Nat) ≠ 0)
  refine tg_put (ci := 4) (k := 6) E hG.1 hΓ fq_X5_29 rfl rfl hdg (fun H1 i z oq hat => kk H1 _ ⟨TH.mk (fun q hq => ?_), ?_⟩)
  · by_cases eq : q = a
    · subst eq
      have e22 : tLet τ q q = 22 := if_pos rfl
      rw [e22]
      refine hat _ ⟨⟨b, rfl, tLet_c ha (by decide) (by decide) hb⟩, tKn_no rfl⟩ (fun j w hj hw => ?_)
      have h1 := tsv_to (τ' := tLet τ q) hw (fun c hc x hx => tLet_c ha (tLet_r1 7 (by decide) c hc).1 (tLet_r1 7 (by decide) c hc).2.1 hx)
      have e7 : tFD 22 j = tFD 7 j := by
        show List.getD _ j tAny = List.getD _ j tAny
        match j, hj with
        | 0, _ => rfl
        | 1, _ => rfl
        | 2, _ => rfl
        | 3, _ => rfl
        | 4, _ => rfl
        | 5, _ => rfl
        | 6, hj => exact absurd rfl hj
        | 7, _ => rfl
        | 8, _ => rfl
        | 9, _ => rfl
        | 10, _ => rfl
        | n + 11, _ => rfl
      exact ⟨by rw [e7]; exact h1.1, tKn_no (tMk_t rfl)⟩
    · have ht : τ q ≠ 1 := fun z => hq (by unfold tLet; rw [if_neg eq, if_pos z])
      have e1 : tLet τ a q = τ q := by unfold tLet; rw [if_neg eq, if_neg ht]
      have hq0 : τ q ≠ 0 := fun z => hq (by rw [e1]; exact z)
      rw [e1]
      exact ((hG.1.at hq0).kept (oq q eq)).to (fun j v hv => tsv_to hv (fun c hc x hx => tLet_c ha (tLet_r1 _ ht c hc).1 (tLet_r1 _ ht c hc).2.1 hx))
  · have haa : tA (tLet τ a) a := show tLet τ a a ≠ 0 by unfold tLet; rw [if_pos rfl]; decide
    refine ⟨by rw [z]; exact hG.2.1, fun q h1 h2 => ?_, fun q hq => ?_⟩
    · rw [oq q (fun e => h2 (by rw [e]; exact haa))]
      exact hS0 q h1
    · rcases List.mem_append.mp hq with h | h
      · exact hloc q h
      · rw [List.mem_singleton.mp h]
        exact haa
/-- back again: the Reader is one that may have letters -/
theorem tLet_back (h0 : τ a = 7) (hT0 : TH G (tΓ G τ) s.heap) (hG : tGH G (tLet τ a) s H locs) : tGH G τ s H locs := by
  refine ⟨TH.mk (fun q hq => ?_), hG.2.1, fun q h1 h2 => hG.2.2.1 q h1 (fun z => h2 (tLet_sub h0 z)), fun q hq => tLet_sub h0 (hG.2.2.2 q hq)⟩
  by_cases eq : q = a
  · subst eq
    have e22 : tLet τ q q = 22 := if_pos rfl
    have h := hG.1.at (q := q) (by rw [e22]; decide)
    rw [e22] at h
    rw [h0]
    refine tAt.to (k := .inl 4) h (fun j v hv => ?_)
    have h1 := tsv_to (τ' := τ) hv (fun c hc x hx => tLet_b (tLet_r1 22 (by decide) c hc).2.2.1 (tLet_r1 22 (by decide) c hc).2.2.2 hx)
    by_cases ej : j = 6
    · subst ej
      exact ⟨Or.inr h1.1, tKn_no rfl⟩
    · have e7 : tFD 7 j = tFD 22 j := by
        show List.getD _ j tAny = List.getD _ j tAny
        match j, ej with
        | 0, _ => rfl
        | 1, _ => rfl
        | 2, _ => rfl
        | 3, _ => rfl
        | 4, _ => rfl
        | 5, _ => rfl
        | 6, hj => exact absurd rfl hj
        | 7, _ => rfl
        | 8, _ => rfl
        | 9, _ => rfl
        | 10, _ => rfl
        | n + 11, _ => rfl
      exact ⟨by rw [e7]; exact h1.1, tKn_no (tMk_t rfl)⟩
  · by_cases ht : τ q = 1
    · have h1 := hT0.at hq
      exact h1.kept (hG.2.2.1 q h1.lt (fun z => z (by show tLet τ a q = 0; unfold tLet; rw [if_neg eq, if_pos ht])))
    · have e1 : tLet τ a q = τ q := by unfold tLet; rw [if_neg eq, if_neg ht]
      have h := hG.1.at (q := q) (by rw [e1]; exact hq)
      rw [e1] at h
      exact h.to (fun j v hv => tsv_to hv (fun c hc x hx => tLet_b (tLet_r1 _ ht c hc).2.2.1 (tLet_r1 _ ht c hc).2.2.2 hx))
end TLT
