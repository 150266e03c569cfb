/-! ===== the tapes, typed for a while ===== -/
def wτ (G : tG) (τ : Nat → Nat) : Nat → Nat := fun q => if q = G.2.2.1 5 then 20 else if q = G.2.2.1 6 ∨ q = G.2.2.1 7 ∨ q = G.2.2.1 8 ∨ q = G.2.2.1 9 then 9 else if q = G.2.2.1 10 ∨ q = G.2.2.1 11 ∨ q = G.2.2.1 12 ∨ q = G.2.2.1 13 then 21 else τ q
theorem wτ_5 {G : tG} {τ : Nat → Nat} : wτ G τ (G.2.2.1 5) = 20 := if_pos rfl
theorem wτ_6 {G : tG} {τ : Nat → Nat} {i : Nat} (hD : wDn G 18) (hi : i < 4) : wτ G τ (G.2.2.1 (6 + i)) = 9 := by
  unfold wτ
  rw [if_neg (fun e => by have := hD (6 + i) 5 (by omega) (by omega) (by omega) (by omega) e; omega), if_pos]
  match i, hi with
  | 0, _ => exact Or.inl rfl
  | 1, _ => exact Or.inr (Or.inl rfl)
  | 2, _ => exact Or.inr (Or.inr (Or.inl rfl))
  | 3, _ => exact Or.inr (Or.inr (Or.inr rfl))
  | i + 4, h => omega
theorem wτ_10 {G : tG} {τ : Nat → Nat} {i : Nat} (hD : wDn G 18) (hi : i < 4) : wτ G τ (G.2.2.1 (10 + i)) = 21 := by
  unfold wτ
  have h9 : ∀ j, 5 ≤ j → j < 10 → G.2.2.1 (10 + i) ≠ G.2.2.1 j := fun j h1 h2 e => by have := hD (10 + i) j (by omega) (by omega) (by omega) (by omega) e; omega
  rw [if_neg (h9 5 (by omega) (by omega)), if_neg (fun z => by rcases z with z | z | z | z; exact h9 6 (by omega) (by omega) z; exact h9 7 (by omega) (by omega) z; exact h9 8 (by omega) (by omega) z; exact h9 9 (by omega) (by omega) z), if_pos]
  match i, hi with
  | 0, _ => exact Or.inl rfl
  | 1, _ => exact Or.inr (Or.inl rfl)
  | 2, _ => exact Or.inr (Or.inr (Or.inl rfl))
  | 3, _ => exact Or.inr (Or.inr (Or.inr rfl))
  | i + 4, h => omega
theorem wτ_of {G : tG} {τ : Nat → Nat} {q : Nat} : (∃ i, 5 ≤ i ∧ i < 14 ∧ q = G.2.2.1 i) ∨ wτ G τ q = τ q := by
  by_cases e1 : q = G.2.2.1 5
  · exact Or.inl ⟨5, by omega, by omega, e1⟩
  by_cases e2 : q = G.2.2.1 6 ∨ q = G.2.2.1 7 ∨ q = G.2.2.1 8 ∨ q = G.2.2.1 9
  · rcases e2 with e | e | e | e
    · exact Or.inl ⟨6, by omega, by omega, e⟩
    · exact Or.inl ⟨7, by omega, by omega, e⟩
    · exact Or.inl ⟨8, by omega, by omega, e⟩
    · exact Or.inl ⟨9, by omega, by omega, e⟩
  by_cases e3 : q = G.2.2.1 10 ∨ q = G.2.2.1 11 ∨ q = G.2.2.1 12 ∨ q = G.2.2.1 13
  · rcases e3 with e | e | e | e
    · exact Or.inl ⟨10, by omega, by omega, e⟩
    · exact Or.inl ⟨11, by omega, by omega, e⟩
    · exact Or.inl ⟨12, by omega, by omega, e⟩
    · exact Or.inl ⟨13, by omega, by omega, e⟩
  right
  unfold wτ
  rw [if_neg e1, if_neg e2, if_neg e3]
theorem wMerge {G : tG} {τ : Nat → Nat} {T : wT} {H : Heap} (hT : TH G (tΓ G τ) H) (hW : wTH G T H) (hI : wIn T) (hD : wDn G 18) (hz : ∀ i, 5 ≤ i → i < 14 → τ (G.2.2.1 i) = 0) : TH G (tΓ G (wτ G τ)) H := by
  refine TH.mk (fun q hq => ?_)
  have hold : ∀ b, τ b ≠ 0 → wτ G τ b = τ b := fun b hb => by
    rcases wτ_of (G := G) (τ := τ) (q := b) with ⟨i, h1, h2, e⟩ | e
    · exact absurd (by rw [e]; exact hz i h1 h2) hb
    · exact e
  rcases wτ_of (G := G) (τ := τ) (q := q) with ⟨i, h1, h2, e⟩ | e
  · subst e
    by_cases e5 : i = 5
    · subst e5
      rw [wτ_5]
      obtain ⟨V, g1, g2⟩ := hW.1
      exact ⟨V, g1, fun j hj => ⟨_, g2 j hj, wτ_6 hD hj⟩⟩
    · by_cases e9 : i < 10
      · obtain ⟨j, ej⟩ : ∃ j, i = 6 + j := ⟨i - 6, by omega⟩
        subst ej
        have hj : j < 4 := by omega
        rw [wτ_6 hD hj]
        have hIj := hI j hj
        obtain ⟨r, V, g1, g2, g3⟩ := (hW.2 j hj).1
        refine ⟨r, V, g1, g2, fun k hk => ?_⟩
        have hr : r = (RX6, TX6, 3) := Option.some.inj (g1.symm.trans fc_X6.1)
        rw [hr] at hk
        obtain ⟨p0, p1, p2⟩ := g3 k (by rw [hr]; exact hk)
        match k, hk with
        | 0, _ => exact ⟨_, p0 rfl, wτ_10 hD hj⟩
        | 1, _ => exact ⟨_, p1 rfl, t_any1 _, t_any2 _⟩
        | 2, _ => exact ⟨_, p2 rfl, hIj.2.1, hIj.2.2⟩
        | k + 3, hk => exact absurd hk (by show ¬ k + 3 < 3; omega)
      · obtain ⟨j, ej⟩ : ∃ j, i = 10 + j := ⟨i - 10, by omega⟩
        subst ej
        have hj : j < 4 := by omega
        rw [wτ_10 hD hj]
        exact (hW.2 j hj).2
  · rw [e] at hq ⊢
    exact (hT.at hq).to (fun j v hv => tsv_to hv (fun c hc b hb => by rw [hold b (by rw [hb]; exact tRefs_nz _ c hc)]; exact hb))
def vσ (G : tG) (σ : Nat → Nat) : Nat → Nat := fun q => if q = G.2.2.1 14 then 21 else if q = G.2.2.1 15 then 22 else if q = G.2.2.1 16 then 23 else if q = G.2.2.1 17 then 24 else σ q
theorem vσ_at {G : tG} {σ : Nat → Nat} {i : Nat} (hD : wDn G 18) (hi : i < 4) : vσ G σ (G.2.2.1 (14 + i)) = 21 + i := by
  have h9 : ∀ j, j < i → G.2.2.1 (14 + i) ≠ G.2.2.1 (14 + j) := fun j h2 e => by have := hD (14 + i) (14 + j) (by omega) (by omega) (by omega) (by omega) e; omega
  unfold vσ
  match i, hi with
  | 0, _ => rw [if_pos rfl]
  | 1, _ => rw [if_neg (h9 0 (by omega)), if_pos rfl]
  | 2, _ => rw [if_neg (h9 0 (by omega)), if_neg (h9 1 (by omega)), if_pos rfl]
  | 3, _ => rw [if_neg (h9 0 (by omega)), if_neg (h9 1 (by omega)), if_neg (h9 2 (by omega)), if_pos rfl]
  | i + 4, h => omega
theorem vσ_of {G : tG} {σ : Nat → Nat} {q : Nat} : (∃ i, i < 4 ∧ q = G.2.2.1 (14 + i)) ∨ vσ G σ q = σ q := by
  by_cases e1 : q = G.2.2.1 14
  · exact Or.inl ⟨0, by omega, e1⟩
  by_cases e2 : q = G.2.2.1 15
  · exact Or.inl ⟨1, by omega, e2⟩
  by_cases e3 : q = G.2.2.1 16
  · exact Or.inl ⟨2, by omega, e3⟩
  by_cases e4 : q = G.2.2.1 17
  · exact Or.inl ⟨3, by omega, e4⟩
  right
  unfold vσ
  rw [if_neg e1, if_neg e2, if_neg e3, if_neg e4]
def vTH (G : tG) (T : wT) (H : Heap) : Prop := ∀ i, i < 4 → tAt G (mShp (21 + i), fun k v => msv G (fun _ => 0, 2, vX (fun _ _ => none) T) (21 + i) k v) (G.2.2.1 (14 + i)) H
theorem vX_hi {X X' : mX} {T : wT} {i k : Nat} (hi : i < 4) : vX X T (21 + i) k = vX X' T (21 + i) k := by
  unfold vX
  match i, hi with
  | 0, _ => rfl
  | 1, _ => rfl
  | 2, _ => rfl
  | 3, _ => rfl
  | i + 4, h => omega
def mK1 (d : tSD) : Bool := !(d.1 == 1) || (Nat.ble 2 d.2.1.toNat && Nat.ble d.2.1.toNat 20)
theorem mK1_getD {ds : List tSD} (h : ds.all mK1 = true) (k : Nat) : mK1 (ds.getD k tAny) = true := by
  rw [List.getD_eq_getElem?_getD]
  cases e : ds[k]? with
  | none => rfl
  | some d => exact List.all_eq_true.mp h d (List.mem_of_getElem? e)
theorem mFD_k1 {t k : Nat} {u z : Int} (h : mFD t k = (1, u, z)) : 2 ≤ u.toNat ∧ u.toNat ≤ 20 := by
  have h1 : mK1 (mFD t k) = true := by
    unfold mFD
    split
    · exact mK1_getD (by decide) k
    all_goals rfl
  rw [h] at h1
  have h2 : (Nat.ble 2 u.toNat && Nat.ble u.toNat 20) = true := h1
  rw [Bool.and_eq_true] at h2
  exact ⟨Nat.le_of_ble_eq_true h2.1, Nat.le_of_ble_eq_true h2.2⟩
theorem msv_up {G : tG} {σ σ' : Nat → Nat} {X X' : mX} {t k : Nat} {v : Value} (hs : ∀ b c, 2 ≤ c → c ≤ 20 → σ b = c → σ' b = c) (hX : ∀ y, X' t k = some y → X t k = some y) (h : msv G (σ, 2, X) t k v) : msv G (σ', 2, X') t k v := by
  unfold msv at h ⊢
  split at h
  · obtain ⟨x, e, g1, g2, g3⟩ := h
    exact ⟨x, e, g1, g2, fun y hy => g3 y (hX y hy)⟩
  · rename_i hd
    obtain ⟨b, e, hb⟩ := h
    have := mFD_k1 hd
    exact ⟨b, e, hs b _ this.1 this.2 hb⟩
  · obtain ⟨b, e, hb⟩ := h
    exact ⟨b, e, hs b 2 (by decide) (by decide) hb⟩
  · exact h
  · exact h
section VM
variable {G : tG} {σ : Nat → Nat} {a : Nat → Option (Nat → Int32)} {U : wT} {H : Heap}
theorem vMerge (h3 : TH G (mΓ G (σ, 2, qX a)) H) (hv : vTH G U H) (hz : ∀ i, i < 4 → σ (G.2.2.1 (14 + i)) = 0) (h20 : ∀ q, σ q ≤ 20) (hD : wDn G 18) : TH G (mΓ G (vσ G σ, 2, vX (qX a) U)) H := by
  refine mTH.mk (fun q hq => ?_)
  show tAt G (mShp (vσ G σ q), fun k v => msv G (vσ G σ, 2, vX (qX a) U) (vσ G σ q) k v) q H
  have hq : vσ G σ q ≠ 0 := hq
  rcases vσ_of (G := G) (σ := σ) (q := q) with ⟨i, hi, e⟩ | e
  · subst e
    rw [vσ_at hD hi]
    exact (hv i hi).to (fun k v h => msv_arr (by omega) (fun y hy => (vX_hi (X := fun _ _ => none) (X' := qX a) hi).trans hy) h)
  · rw [e] at hq ⊢
    exact (mTH.at h3 hq).to (fun k v h => msv_up (fun b c c1 c2 hb => by
      rcases vσ_of (G := G) (σ := σ) (q := b) with ⟨i, hi, e⟩ | e
      · rw [e, hz i hi] at hb; omega
      · rw [e]; exact hb) (fun y hy => by rw [vX_lo (by have := h20 q; omega)] at hy; exact hy) h)
theorem vSplit (h : TH G (mΓ G (vσ G σ, 2, vX (qX a) U)) H) (hz : ∀ i, i < 4 → σ (G.2.2.1 (14 + i)) = 0) (h20 : ∀ q, σ q ≤ 20) (hD : wDn G 18) : TH G (mΓ G (σ, 2, qX a)) H ∧ vTH G U H := by
  refine ⟨mTH.mk (fun q hq => ?_), fun i hi => ?_⟩
  · have hq : σ q ≠ 0 := hq
    show tAt G (mShp (σ q), fun k v => msv G (σ, 2, qX a) (σ q) k v) q H
    have e : vσ G σ q = σ q := by
      rcases vσ_of (G := G) (σ := σ) (q := q) with ⟨i, hi, e⟩ | e
      · exact absurd (by rw [e]; exact hz i hi) hq
      · exact e
    have h9 := mTH.at h (a := q) (show vσ G σ q ≠ 0 by rw [e]; exact hq)
    have h9 : tAt G (mShp (vσ G σ q), fun k v => msv G (vσ G σ, 2, vX (qX a) U) (vσ G σ q) k v) q H := h9
    rw [e] at h9
    exact h9.to (fun k v h => msv_up (fun b c c1 c2 hb => by
      rcases vσ_of (G := G) (σ := σ) (q := b) with ⟨i, hi, e⟩ | e
      · rw [e, vσ_at hD hi] at hb; omega
      · rw [← e]; exact hb) (fun y hy => by rw [vX_lo (by have := h20 q; omega)]; exact hy) h)
  · have h9 := mTH.at h (a := G.2.2.1 (14 + i)) (show vσ G σ _ ≠ 0 by rw [vσ_at hD hi]; omega)
    have h9 : tAt G (mShp (vσ G σ (G.2.2.1 (14 + i))), fun k v => msv G (vσ G σ, 2, vX (qX a) U) (vσ G σ (G.2.2.1 (14 + i))) k v) (G.2.2.1 (14 + i)) H := h9
    rw [vσ_at hD hi] at h9
    exact h9.to (fun k v h => msv_arr (by omega) (fun y hy => (vX_hi (X := qX a) (X' := fun _ _ => none) hi).trans hy) h)
theorem vσ_un (hu : ∀ x y, σ x = σ y → σ x ≠ 0 → x = y) (h20 : ∀ q, σ q ≤ 20) (hD : wDn G 18) : ∀ x y, vσ G σ x = vσ G σ y → vσ G σ x ≠ 0 → x = y := by
  intro x y e h0
  rcases vσ_of (G := G) (σ := σ) (q := x) with ⟨i, hi, e1⟩ | e1 <;> rcases vσ_of (G := G) (σ := σ) (q := y) with ⟨j, hj, e2⟩ | e2
  · subst e1; subst e2
    rw [vσ_at hD hi, vσ_at hD hj] at e
    have : i = j := by omega
    rw [this]
  · subst e1
    rw [vσ_at hD hi, e2] at e
    have := h20 y; omega
  · subst e2
    rw [vσ_at hD hj, e1] at e
    have := h20 x; omega
  · rw [e1, e2] at e
    rw [e1] at h0
    exact hu x y e h0
theorem vTH.kept {H1 : Heap} (h : vTH G U H) (oq : ∀ i, i < 4 → H1[G.2.2.1 (14 + i)]? = H[G.2.2.1 (14 + i)]?) : vTH G U H1 := fun i hi => (h i hi).kept (oq i hi)
end VM
/-! ===== the law's world: both sides on one heap ===== -/
def lT (G : tG) (τ σ : Nat → Nat) (T U : wT × wFF) (s : State) (H : Heap) : Prop := (wTH G T.1 H ∧ cF G T.2 H) ∧ (vTH G U.1 H ∧ rF G U.2 H) ∧ wIn T.1 ∧ wIn U.1 ∧ wDn G 18 ∧ (∀ i, 5 ≤ i → i < 18 → τ (G.2.2.1 i) = 0 ∧ σ (G.2.2.1 i) = 0 ∧ s.heap.size ≤ G.2.2.1 i ∧ G.2.2.1 i < H.size) ∧ ∀ q, σ q ≤ 20
theorem lT.kept {G : tG} {τ σ : Nat → Nat} {T U : wT × wFF} {s : State} {H H1 : Heap} (h : lT G τ σ T U s H) (hz : H.size ≤ H1.size) (oq : ∀ i, 5 ≤ i → i < 18 → H1[G.2.2.1 i]? = H[G.2.2.1 i]?) : lT G τ σ T U s H1 := by
  obtain ⟨h1, h2, h3, h4, h5, h6, h7⟩ := h
  exact ⟨⟨h1.1.kept (fun q _ ⟨i, a1, a2, e⟩ => by rw [e]; exact oq i a1 (by omega)), h1.2.kept (fun q _ ⟨i, a1, a2, e⟩ => by rw [e]; exact oq i a1 (by omega))⟩, ⟨h2.1.kept (fun i hi => oq _ (by omega) (by omega)), tAt.kept h2.2 (oq 16 (by omega) (by omega))⟩, h3, h4, h5, fun i a1 a2 => ⟨(h6 i a1 a2).1, (h6 i a1 a2).2.1, (h6 i a1 a2).2.2.1, Nat.lt_of_lt_of_le (h6 i a1 a2).2.2.2 hz⟩, h7⟩
def lS (G : tG) (τ σ : Nat → Nat) (a : Nat → Option (Nat → Int32)) (T U : wT × wFF) (s : State) (H : Heap) : Prop :=
  TH G (tΓ G τ) H ∧ (∀ q, τ q ≠ 0 → s.heap.size ≤ q ∧ q < H.size) ∧ TH G (mΓ G (σ, 2, qX a)) H ∧ (∀ q, σ q ≠ 0 → s.heap.size ≤ q ∧ q < H.size) ∧ (∀ x y, σ x = σ y → σ x ≠ 0 → x = y) ∧ PI2 a ∧ ((∀ q, τ q ≠ 0 → σ q = 0) ∧ lT G τ σ T U s H) ∧ va_S (fun q => s.heap.size ≤ q) s.heap H []
section LG
variable {G : tG} {τ σ : Nat → Nat} {a : Nat → Option (Nat → Int32)} {T U : wT × wFF} {s : State} {H : Heap}
theorem lS.sub {A : Nat → Prop} (h : lS G τ σ a T U s H) : va_S A s.heap H [] := ⟨h.2.2.2.2.2.2.2.1, fun q h1 _ => h.2.2.2.2.2.2.2.2.1 q h1 (by show ¬ s.heap.size ≤ q; omega), fun _ h => by cases h⟩
theorem lS.tp (h : lS G τ σ a T U s H) : lT G τ σ T U s H := h.2.2.2.2.2.2.1.2
/-- with the tapes typed -/
theorem lS.GT (h : lS G τ σ a T U s H) : tGH G (wτ G τ) s H [] := ⟨wMerge h.1 h.tp.1.1 h.tp.2.2.1 h.tp.2.2.2.2.1 (fun i h1 h2 => (h.tp.2.2.2.2.2.1 i h1 (by omega)).1), h.sub⟩
theorem lS.MV (h : lS G τ σ a T U s H) : mGH G (vσ G σ, 2, vX (qX a) U.1) s H [] := ⟨vMerge h.2.2.1 h.tp.2.1.1 (fun i hi => (h.tp.2.2.2.2.2.1 (14 + i) (by omega) (by omega)).2.1) h.tp.2.2.2.2.2.2 h.tp.2.2.2.2.1, h.sub, mu_2, vσ_un h.2.2.2.2.1 h.tp.2.2.2.2.2.2 h.tp.2.2.2.2.1⟩
theorem lS.x1 (h : lS G τ σ a T U s H) {x : Nat} (hx : τ x = 1) : wτ G τ x = 1 := by
  rcases wτ_of (G := G) (τ := τ) (q := x) with ⟨i, h1, h2, e⟩ | e
  · rw [e, (h.tp.2.2.2.2.2.1 i h1 (by omega)).1] at hx; cases hx
  · rw [e]; exact hx
theorem lS.x2 (h : lS G τ σ a T U s H) {x : Nat} (hx : σ x = 1) : vσ G σ x = 1 := by
  rcases vσ_of (G := G) (σ := σ) (q := x) with ⟨i, h1, e⟩ | e
  · rw [e, (h.tp.2.2.2.2.2.1 (14 + i) (by omega) (by omega)).2.1] at hx; cases hx
  · rw [e]; exact hx
theorem lS.st (h : lS G τ σ a T U s H) (hSw : tSt G (fun q => s.heap.size ≤ q) s) : tSt G (tA (wτ G τ)) s := hSw.narrow (fun q hq => by
  have hq : wτ G τ q ≠ 0 := hq
  rcases wτ_of (G := G) (τ := τ) (q := q) with ⟨i, h1, h2, e⟩ | e
  · show s.heap.size ≤ q; rw [e]; exact (h.tp.2.2.2.2.2.1 i h1 (by omega)).2.2.1
  · rw [e] at hq; exact (h.2.1 q hq).1)
theorem lS.tb (h : lS G τ σ a T U s H) {i : Nat} (hi : i < 4) : vσ G σ (G.2.2.1 (14 + i)) = 21 + i := vσ_at h.tp.2.2.2.2.1 hi
end LG
theorem lS.G {G : tG} {τ σ : Nat → Nat} {a : Nat → Option (Nat → Int32)} {T U : wT × wFF} {s : State} {H : Heap} (h : lS G τ σ a T U s H) : tGH G τ s H [] := ⟨h.1, h.sub⟩
theorem lS.M {G : tG} {τ σ : Nat → Nat} {a : Nat → Option (Nat → Int32)} {T U : wT × wFF} {s : State} {H : Heap} (h : lS G τ σ a T U s H) : mGH G (σ, 2, qX a) s H [] := ⟨h.2.2.1, h.sub, mu_2, h.2.2.2.2.1⟩
theorem wIn_tape {T : wT} {x1 x2 x3 : Int32} (hI : wIn T) : wIn (wTape T x1 x2 x3) := by
  unfold wTape
  split
  · rename_i e
    intro i hi
    have hI9 := hI i hi
    have ht : -1 ≤ x2.toInt ∧ x2.toInt ≤ 3 ∧ (x2.toInt = -1 ∨ (0 ≤ x3.toInt ∧ x3.toInt ≤ 60)) := by
      unfold tTape at e
      split at e <;> (try split at e) <;> (try split at e) <;> (try split at e) <;> omega
    have k0 : (0 : Int32).toInt = 0 := rfl
    show (-1 ≤ (up1 T.1 x1.toInt.toNat x2 i).toInt ∧ (up1 T.1 x1.toInt.toNat x2 i).toInt ≤ 3) ∧ 0 ≤ (up1 T.2 x1.toInt.toNat (if x2.toInt = -1 then 0 else x3) i).toInt ∧ (up1 T.2 x1.toInt.toNat (if x2.toInt = -1 then 0 else x3) i).toInt ≤ 60
    by_cases ei : i = x1.toInt.toNat
    · rw [ei, up1_at, up1_at]
      by_cases em : x2.toInt = -1
      · rw [if_pos em]; omega
      · rw [if_neg em]; omega
    · rw [up1_ne ei, up1_ne ei]; exact hI9
  · exact hI
section LW
variable {p : Program} {l : Launch} {e : Env} {R : Room} {s : State} {m : MethodId} {args : Array Value} {below : List Frame} {meth : Method} {c : Code} {H : Heap} {Q : State → Prop}
variable {cc : ByteArray} {own : String} {nL : Nat} {pc index nA maxL : Nat} {ls : Array Slot} {rest st0 As : List Value} {G : tG} {τ σ : Nat → Nat} {a : Nat → Option (Nat → Int32)} {T U : wT × wFF} {cells slots : Nat} {av : Array Value} {y : MethodName} {bytes : ByteArray} {ret : Option FieldType} {rm : Room} {Qc : Array Value → State → Outcome → State → Prop} {fr : Addr → Prop}
theorem lS.ow {H1 : Heap} (hL : lS G τ σ a T U s H) (hT : TH G (tΓ G τ) H1) (hz : H.size ≤ H1.size) (ho : ∀ q : Nat, q < H.size → ¬ tA τ q → H1[q]? = H[q]?) {locs : List Loc} (hS : va_S (fun q => s.heap.size ≤ q) s.heap H1 locs) : lS G τ σ a T U s H1 := by
  obtain ⟨h1, h2, h3, h4, h5, h6, ⟨h7, h9⟩, h8⟩ := hL
  refine ⟨hT, fun q hq => ⟨(h2 q hq).1, Nat.lt_of_lt_of_le (h2 q hq).2 hz⟩, mTH.mk (fun q hq => (mTH.at h3 hq).kept (ho q (h4 q hq).2 (fun z => hq (h7 q z)))), fun q hq => ⟨(h4 q hq).1, Nat.lt_of_lt_of_le (h4 q hq).2 hz⟩, h5, h6, ⟨h7, h9.kept hz (fun i a1 a2 => ho _ (h9.2.2.2.2.2.1 i a1 a2).2.2.2 (fun z => z (h9.2.2.2.2.2.1 i a1 a2).1))⟩, hS.1, hS.2.1, fun _ h => by cases h⟩
theorem lS.model {H1 : Heap} {Z : mY} {a' : Nat → Option (Nat → Int32)} (hL : lS G τ σ a T U s H) (hT : TH G (mΓ G Z) H1) (hP : PI2 a') (hZ : mLe Z (σ, 2, qX a')) (hz : H.size ≤ H1.size) (ho : ∀ q : Nat, q < H.size → ¬ mA (σ, 2, qX a) q → H1[q]? = H[q]?) {locs : List Loc} (hS : va_S (fun q => s.heap.size ≤ q) s.heap H1 locs) : lS G τ σ a' T U s H1 := by
  obtain ⟨h1, h2, h3, h4, h5, h6, ⟨h7, h9⟩, h8⟩ := hL
  refine ⟨h1.kept (fun q hq => ?_), fun q hq => ⟨(h2 q hq).1, Nat.lt_of_lt_of_le (h2 q hq).2 hz⟩, mTH.le hZ hT, fun q hq => ⟨(h4 q hq).1, Nat.lt_of_lt_of_le (h4 q hq).2 hz⟩, h5, hP, ⟨h7, h9.kept hz (fun i a1 a2 => ho _ (h9.2.2.2.2.2.1 i a1 a2).2.2.2 (fun z => z (h9.2.2.2.2.2.1 i a1 a2).2.1))⟩, hS.1, hS.2.1, fun _ h => by cases h⟩
  have hq0 := tΓ_no hq
  exact ho q (h2 q hq0).2 (fun z => z (h7 q hq0))
/-- the face's tapes have changed -/
theorem lS.tapes {H1 : Heap} {T1 : wT × wFF} (hL : lS G τ σ a T U s H) (hW : wTH G T1.1 H1 ∧ cF G T1.2 H1) (hI : wIn T1.1) (hz : H.size ≤ H1.size) (ho : ∀ q : Nat, q < H.size → ¬ wA G q → H1[q]? = H[q]?) {locs : List Loc} (hS : va_S (fun q => s.heap.size ≤ q) s.heap H1 locs) : lS G τ σ a T1 U s H1 := by
  obtain ⟨h1, h2, h3, h4, h5, h6, ⟨h7, h9⟩, h8⟩ := hL
  refine ⟨h1.kept (fun q hq => ho q (h2 q (tΓ_no hq)).2 (fun ⟨i, a1, a2, e⟩ => tΓ_no hq (by rw [e]; exact (h9.2.2.2.2.2.1 i a1 (by omega)).1))), fun q hq => ⟨(h2 q hq).1, Nat.lt_of_lt_of_le (h2 q hq).2 hz⟩, mTH.mk (fun q hq => (mTH.at h3 hq).kept (ho q (h4 q hq).2 (fun ⟨i, a1, a2, e⟩ => hq (by rw [e]; exact (h9.2.2.2.2.2.1 i a1 (by omega)).2.1)))), fun q hq => ⟨(h4 q hq).1, Nat.lt_of_lt_of_le (h4 q hq).2 hz⟩, h5, h6, ⟨h7, hW, ⟨h9.2.1.1.kept (fun i hi => ho _ (h9.2.2.2.2.2.1 (14 + i) (by omega) (by omega)).2.2.2 (fun ⟨j, a1, a2, e⟩ => by have := h9.2.2.2.2.1 (14 + i) j (by omega) (by omega) a1 (by omega) e; omega)), tAt.kept h9.2.1.2 (ho _ (h9.2.2.2.2.2.1 16 (by omega) (by omega)).2.2.2 (fun ⟨j, a1, a2, e⟩ => by have := h9.2.2.2.2.1 16 j (by omega) (by omega) a1 (by omega) e; omega))⟩, hI, h9.2.2.2.1, h9.2.2.2.2.1, fun i a1 a2 => ⟨(h9.2.2.2.2.2.1 i a1 a2).1, (h9.2.2.2.2.2.1 i a1 a2).2.1, (h9.2.2.2.2.2.1 i a1 a2).2.2.1, Nat.lt_of_lt_of_le (h9.2.2.2.2.2.1 i a1 a2).2.2.2 hz⟩, h9.2.2.2.2.2.2⟩, hS.1, hS.2.1, fun _ h => by cases h⟩
/-- the reference's tapes have changed -/
theorem lS.rows {H1 : Heap} {U1 : wT × wFF} (hL : lS G τ σ a T U s H) (hT : TH G (mΓ G (vσ G σ, 2, vX (qX a) U1.1)) H1 ∧ rF G U1.2 H1) (hI : wIn U1.1) (hz : H.size ≤ H1.size) (ho : ∀ q : Nat, q < H.size → ¬ mA (vσ G σ, 2, vX (qX a) U.1) q → H1[q]? = H[q]?) {locs : List Loc} (hS : va_S (fun q => s.heap.size ≤ q) s.heap H1 locs) : lS G τ σ a T U1 s H1 := by
  obtain ⟨h1, h2, h3, h4, h5, h6, ⟨h7, h9⟩, h8⟩ := hL
  obtain ⟨g1, g2⟩ := vSplit hT.1 (fun i hi => (h9.2.2.2.2.2.1 (14 + i) (by omega) (by omega)).2.1) h9.2.2.2.2.2.2 h9.2.2.2.2.1
  have hnz : ∀ q, wA G q → ¬ mA (vσ G σ, 2, vX (qX a) U.1) q := fun q ⟨i, a1, a2, e⟩ z => by
    have z : vσ G σ q ≠ 0 := z
    rcases vσ_of (G := G) (σ := σ) (q := q) with ⟨j, hj, e2⟩ | e2
    · have := h9.2.2.2.2.1 i (14 + j) a1 (by omega) (by omega) (by omega) (e.symm.trans e2); omega
    · rw [e2, e] at z; exact z (h9.2.2.2.2.2.1 i a1 (by omega)).2.1
  refine ⟨h1.kept (fun q hq => ho q (h2 q (tΓ_no hq)).2 (fun z => ?_)), fun q hq => ⟨(h2 q hq).1, Nat.lt_of_lt_of_le (h2 q hq).2 hz⟩, g1, fun q hq => ⟨(h4 q hq).1, Nat.lt_of_lt_of_le (h4 q hq).2 hz⟩, h5, h6, ⟨h7, ⟨h9.1.1.kept (fun q hq hA => ho q hq (hnz q hA)), h9.1.2.kept (fun q hq hA => ho q hq (hnz q hA))⟩, ⟨g2, hT.2⟩, h9.2.2.1, hI, h9.2.2.2.2.1, fun i a1 a2 => ⟨(h9.2.2.2.2.2.1 i a1 a2).1, (h9.2.2.2.2.2.1 i a1 a2).2.1, (h9.2.2.2.2.2.1 i a1 a2).2.2.1, Nat.lt_of_lt_of_le (h9.2.2.2.2.2.1 i a1 a2).2.2.2 hz⟩, h9.2.2.2.2.2.2⟩, hS.1, hS.2.1, fun _ h => by cases h⟩
  · have z : vσ G σ q ≠ 0 := z
    have hq0 := tΓ_no hq
    rcases vσ_of (G := G) (σ := σ) (q := q) with ⟨i, hi, e⟩ | e
    · exact hq0 (by rw [e]; exact (h9.2.2.2.2.2.1 (14 + i) (by omega) (by omega)).1)
    · rw [e] at z; exact z (h7 q hq0)
theorem lc_i {post : Int32 → Prop} (hL : lS G τ σ a T U s H) (hr : va_Run p l e R s m args below meth c H [] cells slots 0 0 (F0 m pc ls st0) rest (tQi G τ post av) (tA τ))
    (kk : ∀ (r : Int32) (H1 : Heap), lS G τ σ a T U s H1 → post r → W p l e R s m args below meth c H1 [] cells slots Q (F0 m (pc + 3) ls (.int r :: rest))) : W p l e R s m args below meth c H [] cells slots Q (F0 m pc ls st0) :=
  va_calli hr hL.2.2.2.2.2.2.2 (fun q _ h2 => (hL.2.1 q h2).1) (fun q h2 => (hL.2.1 q h2).1) (fun r _ t H1 locs1 ht _ hp hB hz ho hS => va_forget (fun q hq => hS.2.2 q hq) (kk r H1 (hL.ow (ht ▸ hB) hz ho hS) hp))
theorem lc_l {post : Int64 → Prop} (hL : lS G τ σ a T U s H) (hr : va_Run p l e R s m args below meth c H [] cells slots 0 0 (F0 m pc ls st0) rest (tQl G τ post av) (tA τ))
    (kk : ∀ (r : Int64) (H1 : Heap), lS G τ σ a T U s H1 → W p l e R s m args below meth c H1 [] cells slots Q (F0 m (pc + 3) ls (.long r :: rest))) : W p l e R s m args below meth c H [] cells slots Q (F0 m pc ls st0) :=
  va_calll hr hL.2.2.2.2.2.2.2 (fun q _ h2 => (hL.2.1 q h2).1) (fun q h2 => (hL.2.1 q h2).1) (fun r _ t H1 locs1 ht _ hp hB hz ho hS => va_forget (fun q hq => hS.2.2 q hq) (kk r H1 (hL.ow (ht ▸ hB) hz ho hS)))
theorem lm_i {post : Int32 → mY → Prop} (hL : lS G τ σ a T U s H) (hr : va_Run p l e R s m args below meth c H [] cells slots 0 0 (F0 m pc ls st0) rest (mQiX G (σ, 2, qX a) post av) (mA (σ, 2, qX a)))
    (hq : ∀ r Z, Z.1 = σ → post r Z → ∃ a', PI2 a' ∧ mLe Z (σ, 2, qX a'))
    (kk : ∀ (r : Int32) (a' : Nat → Option (Nat → Int32)) (H1 : Heap), lS G τ σ a' T U s H1 → (∃ Z, post r Z) → W p l e R s m args below meth c H1 [] cells slots Q (F0 m (pc + 3) ls (.int r :: rest))) : W p l e R s m args below meth c H [] cells slots Q (F0 m pc ls st0) :=
  va_calli hr hL.2.2.2.2.2.2.2 (fun q _ h2 => (hL.2.2.2.1 q h2).1) (fun q h2 => (hL.2.2.2.1 q h2).1) (fun r Z t H1 locs1 ht _ hp hB hz ho hS => by
    obtain ⟨a', g1, g2⟩ := hq r Z hp.1 hp.2.2
    exact va_forget (fun q hq => hS.2.2 q hq) (kk r a' H1 (hL.model (ht ▸ hB) g1 g2 hz ho hS) ⟨Z, hp.2.2⟩))
theorem lm_l {post : Int64 → mY → Prop} (hL : lS G τ σ a T U s H) (hr : va_Run p l e R s m args below meth c H [] cells slots 0 0 (F0 m pc ls st0) rest (mQlX G (σ, 2, qX a) post av) (mA (σ, 2, qX a)))
    (hq : ∀ r Z, Z.1 = σ → post r Z → ∃ a', PI2 a' ∧ mLe Z (σ, 2, qX a'))
    (kk : ∀ (r : Int64) (a' : Nat → Option (Nat → Int32)) (H1 : Heap), lS G τ σ a' T U s H1 → W p l e R s m args below meth c H1 [] cells slots Q (F0 m (pc + 3) ls (.long r :: rest))) : W p l e R s m args below meth c H [] cells slots Q (F0 m pc ls st0) :=
  va_calll hr hL.2.2.2.2.2.2.2 (fun q _ h2 => (hL.2.2.2.1 q h2).1) (fun q h2 => (hL.2.2.2.1 q h2).1) (fun r Z t H1 locs1 ht _ hp hB hz ho hS => by
    obtain ⟨a', g1, g2⟩ := hq r Z hp.1 hp.2.2
    exact va_forget (fun q hq => hS.2.2 q hq) (kk r a' H1 (hL.model (ht ▸ hB) g1 g2 hz ho hS)))
/-- a call of the face on tapes -/
theorem lk_runV {x1 : Nat} (E : tE G p s m c args own cc nL) (hSw : tSt G (fun q => s.heap.size ≤ q) s) (hL : lS G τ σ a T U s H) (hM : Met l y (.code y bytes maxL ret :: tWS) rm (va_Pc (.ref x1 :: As) (wfPre G τ T.1 T.2)) Qc 0 0 fr) (hb : τ x1 = 1) (hv : tRv 1 y.cls) (hc : tCv y bytes maxL ret nA) (hl : Cond.methodLink own index y ∈ tWS) (hR : rm.cells = 0 ∧ rm.slots = 0 ∧ rm.frames + 1 ≤ R.frames ∧ 8 + (maxL + 11) + rm.locals ≤ R.locals) (hn : As.length = nA) (hsz : ls.size = nL) (hst : st0 = As.reverse ++ .ref x1 :: rest) (hW : (rest.map fun v => v.category).sum ≤ 8) (hcs : cells ≤ R.cells ∧ slots ≤ R.slots) (hdg : decode cc pc = .ok (.invokevirtual index, 3)) :
    va_Run p l e R s m args below meth c H [] cells slots 0 0 (F0 m pc ls st0) rest (Qc (Value.ref x1 :: As).toArray) fr := by
  obtain ⟨hx, hbb, hml, hown, hts, hK⟩ := id E
  exact va_runV (C := y.cls) ⟨hx, hbb, hml, hown, hts⟩ hM ⟨tc_callB E hc.1 hl hR, hts _ hc.2.1, hts _ hc.2.2⟩ ⟨wfPre.blind, tc_recv hK hL.G hb hv, fun V hU hWm => ⟨rfl, ⟨by rw [hU]; exact hL.1, va_K.moved hWm.alike hK, (hSw.move hWm (fun a h1 h2 => by rw [hU]; exact hL.2.2.2.2.2.2.2.2.1 a h1 h2)).narrow (fun q h => h.elim (fun h => (hL.2.1 q h).1) (fun ⟨i, a1, a2, e⟩ => by rw [e]; exact (hL.tp.2.2.2.2.2.1 i a1 (by omega)).2.2.1)), by rw [hU]; exact hL.tp.1.1⟩, by rw [hU]; exact hL.tp.1.2⟩⟩ rfl hn hsz hst (lv_room hW) hdg hcs
theorem lk_i {post : Int32 → wT × wFF → Prop} (hL : lS G τ σ a T U s H) (hr : va_Run p l e R s m args below meth c H [] cells slots 0 0 (F0 m pc ls st0) rest (wfQi G post av) (wA G)) (hI : ∀ r Z, post r Z → wIn Z.1)
    (kk : ∀ (r : Int32) (T1 : wT × wFF) (H1 : Heap), lS G τ σ a T1 U s H1 → post r T1 → W p l e R s m args below meth c H1 [] cells slots Q (F0 m (pc + 3) ls (.int r :: rest))) : W p l e R s m args below meth c H [] cells slots Q (F0 m pc ls st0) :=
  va_calli hr hL.2.2.2.2.2.2.2 (fun q _ ⟨i, a1, a2, e⟩ => by rw [e]; exact (hL.tp.2.2.2.2.2.1 i a1 (by omega)).2.2.1) (fun q ⟨i, a1, a2, e⟩ => by rw [e]; exact (hL.tp.2.2.2.2.2.1 i a1 (by omega)).2.2.1) (fun r Z t H1 locs1 ht _ hp hB hz ho hS => va_forget (fun q hq => hS.2.2 q hq) (kk r Z H1 (hL.tapes (ht ▸ hB) (hI r Z hp) hz ho hS) hp))
theorem lk_runM {x2 : Nat} (E : tE G p s m c args own cc nL) (hL : lS G τ σ a T U s H) (hM : Met l y (.code y bytes maxL ret :: tWS) rm (va_Pc (.ref x2 :: As) (mfPre G (vσ G σ, 2, vX (qX a) U.1) U.2)) Qc 0 0 fr) (hb : σ x2 = 1) (hyc : y.cls = RX10) (hc : tCv y bytes maxL ret nA) (hl : Cond.methodLink own index y ∈ tWS) (hR : rm.cells = 0 ∧ rm.slots = 0 ∧ rm.frames + 1 ≤ R.frames ∧ 8 + (maxL + 11) + rm.locals ≤ R.locals) (hn : As.length = nA) (hsz : ls.size = nL) (hst : st0 = As.reverse ++ .ref x2 :: rest) (hW : (rest.map fun v => v.category).sum ≤ 8) (hcs : cells ≤ R.cells ∧ slots ≤ R.slots) (hdg : decode cc pc = .ok (.invokevirtual index, 3)) :
    va_Run p l e R s m args below meth c H [] cells slots 0 0 (F0 m pc ls st0) rest (Qc (Value.ref x2 :: As).toArray) fr := by
  obtain ⟨hx, hbb, hml, hown, hts, hK⟩ := id E
  exact va_runV (C := y.cls) ⟨hx, hbb, hml, hown, hts⟩ hM ⟨tc_callB E hc.1 hl hR, hts _ hc.2.1, hts _ hc.2.2⟩ ⟨mfPre.blind, by rw [hyc]; exact mc_recv hK hL.MV (hL.x2 hb), fun V hU hWm => ⟨rfl, mPre.of hL.MV hK hU hWm, by rw [hU]; exact hL.tp.2.1.2⟩⟩ rfl hn hsz hst (lv_room hW) hdg hcs
theorem lk_m {post : Int32 → wT × wFF → Prop} (hL : lS G τ σ a T U s H) (hr : va_Run p l e R s m args below meth c H [] cells slots 0 0 (F0 m pc ls st0) rest (mfQi G (vσ G σ) 2 (qX a) U.1 post av) (mA (vσ G σ, 2, vX (qX a) U.1)))
    (hI : ∀ r Z, post r Z → wIn Z.1)
    (kk : ∀ (r : Int32) (U1 : wT × wFF) (H1 : Heap), lS G τ σ a T U1 s H1 → post r U1 → W p l e R s m args below meth c H1 [] cells slots Q (F0 m (pc + 3) ls (.int r :: rest))) : W p l e R s m args below meth c H [] cells slots Q (F0 m pc ls st0) := by
  have hA : ∀ q, mA (vσ G σ, 2, vX (qX a) U.1) q → s.heap.size ≤ q := fun q h2 => by
    have h2 : vσ G σ q ≠ 0 := h2
    rcases vσ_of (G := G) (σ := σ) (q := q) with ⟨i, hi, e⟩ | e
    · rw [e]; exact (hL.tp.2.2.2.2.2.1 (14 + i) (by omega) (by omega)).2.2.1
    · rw [e] at h2; exact (hL.2.2.2.1 q h2).1
  exact va_calli hr hL.2.2.2.2.2.2.2 (fun q _ h2 => hA q h2) hA (fun r Z t H1 locs1 ht _ hp hB hz ho hS => va_forget (fun q hq => hS.2.2 q hq) (kk r Z H1 (hL.rows (ht ▸ hB) (hI r Z hp) hz ho hS) hp))
end LW
/-! how the knowledge goes on -/
theorem PI2.up {a : Nat → Option (Nat → Int32)} {t : Nat → Int32} (h : PI2 a) (ht : TInv t) : PI2 (upA a 2 t) :=
  ⟨(upA_ne (by decide)).trans h.1, (upA_ne (by decide)).trans h.2.1, ⟨t, upA_at, ht⟩, by obtain ⟨u, h1, h2⟩ := h.2.2.2; exact ⟨u, (upA_ne (by decide)).trans h1, h2⟩⟩
theorem PI2.im {a : Nat → Option (Nat → Int32)} {t : Nat → Int32} (h : PI2 a) (ht : TInv t) : PI2 (upA a 3 t) :=
  ⟨(upA_ne (by decide)).trans h.1, (upA_ne (by decide)).trans h.2.1, by obtain ⟨u, h1, h2⟩ := h.2.2.1; exact ⟨u, (upA_ne (by decide)).trans h1, h2⟩, ⟨t, upA_at, ht⟩⟩
def pb (A : Nat → Option (Nat → Int32)) : Nat → Option (Nat → Int32) := fun c => if c = 2 ∨ c = 3 then A c else none
theorem pb_le {σ : Nat → Nat} {A : Nat → Option (Nat → Int32)} : mLe (σ, 2, qX A) (σ, 2, qX (pb A)) := ⟨rfl, rfl, fun c k y e => by
  have e : qX (pb A) c k = some y := e
  show qX A c k = some y
  unfold qX at e ⊢
  by_cases z : c = 2 ∨ c = 3
  · rw [show pb A c = A c from if_pos z] at e; exact e
  · rw [show pb A c = none from if_neg z] at e
    split at e <;> cases e⟩
theorem pb_PI {a A : Nat → Option (Nat → Int32)} {ta : Nat → Int32} (h : PI2 a) (hI : TInv ta) (h2 : A 2 = some ta) (h3 : A 3 = a 3) : PI2 (pb A) :=
  ⟨rfl, rfl, ⟨ta, (show pb A 2 = A 2 from rfl).trans h2, hI⟩, by obtain ⟨u, g1, g2⟩ := h.2.2.2; exact ⟨u, (show pb A 3 = A 3 from rfl).trans (h3.trans g1), g2⟩⟩
