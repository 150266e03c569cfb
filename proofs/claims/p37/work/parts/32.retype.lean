/-! ===== cells that get another type for a while ===== -/
/-- the types that a type's slots name -/
def tRefs (t : Nat) : List Nat := match t with
  | 1 => [2, 30, 5, 6, 7, 8, 18, 20]
  | 2 => [10, 36, 13]
  | 26 => [34, 36, 13]
  | 28 => [10, 36, 13]
  | 30 => [40, 36, 13]
  | 31 => [32, 33, 4]
  | 37 => [38, 39, 4]
  | 32 => []
  | 33 => []
  | 34 => [31]
  | 36 => []
  | 38 => []
  | 39 => []
  | 40 => [37]
  | 27 => [26]
  | 29 => [28, 26, 27, 14]
  | 3 => [11, 12, 4]
  | 4 => []
  | 5 => [2]
  | 6 => [2, 26, 27, 14]
  | 7 => [15, 16, 17, 18]
  | 8 => [19, 2]
  | 9 => [21]
  | 10 => [3]
  | 11 => []
  | 12 => []
  | 13 => []
  | 14 => []
  | 15 => []
  | 16 => []
  | 17 => [11]
  | 18 => []
  | 19 => []
  | 20 => [9]
  | 21 => []
  | _ => [15, 16, 17, 18]
def tRok (l : List Nat) (d : tSD) : Bool := !(d.1 == 1 || d.1 == 2) || l.contains d.2.1.toNat
theorem tRok_getD {l : List Nat} {ds : List tSD} (h : ds.all (tRok l) = true) (k : Nat) : tRok l (ds.getD k tAny) = true := by
  rw [List.getD_eq_getElem?_getD]
  cases e : ds[k]? with
  | none => rfl
  | some d => exact List.all_eq_true.mp h d (List.mem_of_getElem? e)
theorem tRefs_ok : ∀ t k : Nat, tRok (tRefs t) (tFD t k) = true
  | 0, k => tRok_getD (by decide) k
  | 1, k => tRok_getD (by decide) k
  | 2, k => tRok_getD (by decide) k
  | 3, k => tRok_getD (by decide) k
  | 4, k => tRok_getD (by decide) k
  | 5, k => tRok_getD (by decide) k
  | 6, k => tRok_getD (by decide) k
  | 7, k => tRok_getD (by decide) k
  | 8, k => tRok_getD (by decide) k
  | 9, k => tRok_getD (by decide) k
  | 10, _ => rfl
  | 11, _ => rfl
  | 12, _ => rfl
  | 13, _ => rfl
  | 14, _ => rfl
  | 15, _ => rfl
  | 16, _ => rfl
  | 17, _ => rfl
  | 18, _ => rfl
  | 19, _ => rfl
  | 20, _ => rfl
  | 21, _ => rfl
  | 22, k => tRok_getD (by decide) k
  | 23, k => tRok_getD (by decide) k
  | 24, k => tRok_getD (by decide) k
  | 25, k => tRok_getD (by decide) k
  | 26, k => tRok_getD (by decide) k
  | 27, k => tRok_getD (by decide) k
  | 28, k => tRok_getD (by decide) k
  | 29, k => tRok_getD (by decide) k
  | 30, k => tRok_getD (by decide) k
  | 31, k => tRok_getD (by decide) k
  | 32, _ => rfl
  | 33, _ => rfl
  | 34, _ => rfl
  | 35, k => tRok_getD (by decide) k
  | 36, _ => rfl
  | 37, k => tRok_getD (by decide) k
  | 38, _ => rfl
  | 39, _ => rfl
  | 40, _ => rfl
  | _ + 41, k => tRok_getD (l := [15, 16, 17, 18]) (by decide) k
theorem tsv_to1 {τ τ' : Nat → Nat} {t k : Nat} {v : Value} (h : tsv τ (tFD t k) v) (hc : ∀ c ∈ tRefs t, ∀ b, τ b = c → τ' b = c) : tsv τ' (tFD t k) v := by
  have hr := tRefs_ok t k
  generalize tFD t k = d at h hr ⊢
  obtain ⟨n, a, z⟩ := d
  match n, h, hr with
  | 0, h, _ => exact h
  | 1, ⟨b, e, hb⟩, hr =>
    refine ⟨b, e, hc _ ?_ b hb⟩
    simpa [tRok] using hr
  | 2, h, hr =>
    rcases h with h | ⟨b, e, hb⟩
    · exact Or.inl h
    · refine Or.inr ⟨b, e, hc _ ?_ b hb⟩
      simpa [tRok] using hr
  | n + 3, h, _ => exact h
theorem tsv_to {G : tG} {a : Nat} {τ τ' : Nat → Nat} {t k : Nat} {v : Value} (h : tsv τ (tFD t k) v ∧ tKn G t a k v) (hc : ∀ c ∈ tRefs t, ∀ b, τ b = c → τ' b = c) : tsv τ' (tFD t k) v ∧ tKn G t a k v := ⟨tsv_to1 h.1 hc, h.2⟩
theorem tAt.to {G : tG} {k : Nat ⊕ (Nat × Nat)} {P P' : Nat → Value → Prop} {a : Nat} {H : Heap} (h : tAt G (k, P) a H) (hp : ∀ j v, P j v → P' j v) : tAt G (k, P') a H := by
  cases k with
  | inl ci =>
    obtain ⟨r, V, h1, h2, h3⟩ := h
    exact ⟨r, V, h1, h2, fun j hj => hp _ _ (h3 j hj)⟩
  | inr q =>
    obtain ⟨V, h1, h2⟩ := h
    exact ⟨V, h1, fun j hj => hp _ _ (h2 j hj)⟩
theorem tAt.lt {G : tG} {sh : tSH} {a : Nat} {H : Heap} (h : tAt G sh a H) : a < H.size := by
  obtain ⟨k, P⟩ := sh
  cases k with
  | inl ci =>
    obtain ⟨r, V, h1, ⟨cell, h2, -⟩, h3⟩ := h
    exact (Array.getElem?_eq_some_iff.mp h2).1
  | inr q =>
    obtain ⟨V, h1, h2⟩ := h
    exact (Array.getElem?_eq_some_iff.mp h1).1
theorem TH.at {G G' : tG} {τ : Nat → Nat} {H : Heap} (h : TH G (tΓ G' τ) H) {q : Nat} (hq : τ q ≠ 0) : tAt G (tShp (τ q), fun k v => tsv τ (tFD (τ q) k) v ∧ tKn G' (τ q) q k v) q H := h q _ (tΓ_at rfl hq)
theorem TH.mk {G G' : tG} {τ : Nat → Nat} {H : Heap} (h : ∀ q, τ q ≠ 0 → tAt G (tShp (τ q), fun k v => tsv τ (tFD (τ q) k) v ∧ tKn G' (τ q) q k v) q H) : TH G (tΓ G' τ) H := fun q sh hs => by
  have hq : τ q ≠ 0 := tΓ_no (by rw [hs]; exact fun z => by cases z)
  rw [tΓ_at rfl hq] at hs
  cases hs
  exact h q hq
