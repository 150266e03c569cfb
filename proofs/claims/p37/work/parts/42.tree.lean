/-! ===== the reference's tree ===== -/
abbrev K (t : Nat → Int32) (b k : Int) : Int := (t (ix b k)).toInt
/-- the told part of the row 'now' is known: it is t -/
def TI (Y : mY) (t : Nat → Int32) : Prop := Y.2.2 Y.2.1 0 = some (t 0) ∧ Y.2.2 Y.2.1 3 = some (t 3) ∧ ∀ b k : Int, 0 ≤ b → b ≤ 23 → 0 ≤ k → (k ≤ 18 ∨ k = 20) → Y.2.2 Y.2.1 (ix b k) = some (t (ix b k))
def TInv (t : Nat → Int32) : Prop := (0 ≤ (t 3).toInt ∧ (t 3).toInt ≤ 24 ∧ -1 ≤ (t 0).toInt ∧ (t 0).toInt ≤ 23)
  ∧ (∀ b : Int, 0 ≤ b → b ≤ 23 → K t b 0 = 1 → b < (t 3).toInt)
  ∧ (∀ b : Int, 0 ≤ b → b < (t 3).toInt → -1 ≤ K t b 9 ∧ K t b 9 < b)
  ∧ (∀ b i : Int, 0 ≤ b → b ≤ 23 → 0 ≤ i → i < K t b 10 → b < K t b (11 + i) ∧ K t b (11 + i) < (t 3).toInt ∧ K t (K t b (11 + i)) 9 = b)
  ∧ (∀ b i j : Int, 0 ≤ b → b ≤ 23 → 0 ≤ i → i < j → j < K t b 10 → ¬ K t b (11 + i) = K t b (11 + j))
  ∧ (∀ b : Int, 0 ≤ b → b ≤ 23 → K t b 0 = 1 → 0 ≤ K t b 9 → ∃ i : Int, 0 ≤ i ∧ i < K t (K t b 9) 10 ∧ K t (K t b 9) (11 + i) = b)
  ∧ (∀ b : Int, 0 ≤ b → b ≤ 23 → K t b 0 = 1 → K t b 9 < 0 → b = (t 0).toInt)
  ∧ (∀ b : Int, 0 ≤ b → b ≤ 23 → K t b 1 = 6 → 1 ≤ K t b 2 ∧ 1 ≤ K t b 3)
  ∧ (∀ b : Int, 0 ≤ b → b ≤ 23 → 0 ≤ K t b 10 ∧ K t b 10 ≤ 8)
theorem mT {Y : mY} {t : Nat → Int32} {b k : Int} {r : Int32} (h : mV Y (ix b k) r) (hT : TI Y t) (h1 : 0 ≤ b) (h2 : b ≤ 23) (h3 : 0 ≤ k) (h4 : k ≤ 18 ∨ k = 20) : r.toInt = K t b k := by
  rw [h.2.2 _ (hT.2.2 b k h1 h2 h3 h4)]
theorem mP9 {t : Nat → Int32} {b : Int} {r : Int32} (h : r.toInt = K t b 9) (hI : TInv t) (h1 : 0 ≤ b) : ¬ b < (t 3).toInt ∨ r.toInt < b := by
  by_cases z : b < (t 3).toInt
  · have := hI.2.2.1 b h1 z
    exact Or.inr (by omega)
  · exact Or.inl z
theorem mP11 {t : Nat → Int32} {b i : Int} {r : Int32} (h : r.toInt = K t b (11 + i)) (hI : TInv t) (h1 : 0 ≤ b) (h2 : b ≤ 23) (h3 : 0 ≤ i) : ¬ i < K t b 10 ∨ (b < r.toInt ∧ r.toInt < (t 3).toInt) := by
  by_cases z : i < K t b 10
  · have := hI.2.2.2.1 b i h1 h2 h3 z
    exact Or.inr (by omega)
  · exact Or.inl z
theorem mB {Y : mY} {t : Nat → Int32} {b : Int} {r : Int32} (h : (r.toInt = 1 ∧ 0 ≤ b ∧ b ≤ 23 ∧ mV Y (ix b 0) 1) ∨ (r.toInt = 0 ∧ (b < 0 ∨ 23 < b ∨ ∃ v : Int32, ¬ v.toInt = 1 ∧ mV Y (ix b 0) v))) (hT : TI Y t) (hI : TInv t) : (r.toInt = 1 ∧ 0 ≤ b ∧ b ≤ 23 ∧ K t b 0 = 1 ∧ b < (t 3).toInt) ∨ (r.toInt = 0 ∧ (b < 0 ∨ 23 < b ∨ ¬ K t b 0 = 1)) := by
  rcases h with ⟨e, h1, h2, h3⟩ | ⟨e, h⟩
  · have h4 := mT h3 hT h1 h2 (by decide) (by decide)
    have h5 : K t b 0 = 1 := by rw [← h4]; decide
    exact Or.inl ⟨e, h1, h2, h5, hI.2.1 b h1 h2 h5⟩
  · by_cases z : b < 0 ∨ 23 < b
    · exact Or.inr ⟨e, by omega⟩
    · rcases h with h | h | ⟨v, h4, h5⟩
      · omega
      · omega
      · have h6 := mT h5 hT (by omega) (by omega) (by decide) (by decide)
        exact Or.inr ⟨e, Or.inr (Or.inr (by omega))⟩
