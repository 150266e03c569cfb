/-! ===== the tree when it is changed ===== -/
/-- alike but for told numbers and who is listed -/
def A2 (ta t : Nat → Int32) : Prop := t 0 = ta 0 ∧ t 3 = ta 3 ∧ ∀ b k : Int, 0 ≤ b → 0 ≤ k → k ≤ 18 → (k ≤ 1 ∨ 9 ≤ k) → t (ix b k) = ta (ix b k)
theorem A2.refl {t : Nat → Int32} : A2 t t := ⟨rfl, rfl, fun _ _ _ _ _ _ => rfl⟩
theorem A2.trans {t t' t'' : Nat → Int32} (h : A2 t t') (h' : A2 t' t'') : A2 t t'' := ⟨h'.1.trans h.1, h'.2.1.trans h.2.1, fun b k h1 h2 h3 h4 => (h'.2.2 b k h1 h2 h3 h4).trans (h.2.2 b k h1 h2 h3 h4)⟩
theorem AG.A2 {ta t : Nat → Int32} (h : AG ta t) : A2 ta t := ⟨h.1, h.2.1, fun b k h1 h2 h3 _ => h.2.2 b k h1 h2 h3⟩
theorem A2.put {t : Nat → Int32} {b k : Int} {v : Int32} (hb : 0 ≤ b) (hk : 2 ≤ k) (hk2 : k ≤ 8) : A2 t (upN t (ix b k) v) := by
  have e := ix_mod hb (by omega : 0 ≤ k) (by omega : k ≤ 37)
  refine ⟨upN_ne (by omega), upN_ne (by omega), fun b' k' h1 h2 h3 h4 => upN_ne (fun z => ?_)⟩
  have := (ix_inj h1 h2 (by omega) hb (by omega) (by omega) z).2
  omega
theorem A2.K {ta t : Nat → Int32} (h : A2 ta t) {b k : Int} (h1 : 0 ≤ b) (h2 : 0 ≤ k) (h3 : k ≤ 18) (h4 : k ≤ 1 ∨ 9 ≤ k) : K t b k = K ta b k := by
  show (t (ix b k)).toInt = (ta (ix b k)).toInt
  rw [h.2.2 b k h1 h2 h3 h4]
theorem TInv_A2 {ta t : Nat → Int32} (h : A2 ta t) (h6 : ∀ b : Int, 0 ≤ b → b ≤ 23 → K ta b 1 = 6 → 1 ≤ K t b 2 ∧ 1 ≤ K t b 3) (hI : TInv ta) : TInv t := by
  obtain ⟨i1, i2, i3, i4, i5, i6, i7, i8, i9⟩ := hI
  have hk : ∀ b k : Int, 0 ≤ b → 0 ≤ k → k ≤ 18 → (k ≤ 1 ∨ 9 ≤ k) → K t b k = K ta b k := fun b k h1 h2 h3 h4 => h.K h1 h2 h3 h4
  unfold TInv
  rw [h.1, h.2.1]
  refine ⟨i1, fun b h1 h2 h3 => ?_, fun b h1 h2 => ?_, fun b i h1 h2 h3 h4 => ?_, fun b i j h1 h2 h3 h4 h5 => ?_, fun b h1 h2 h3 h4 => ?_, fun b h1 h2 h3 h4 => ?_, fun b h1 h2 h3 => ?_, fun b h1 h2 => ?_⟩
  · rw [hk b 0 h1 (by decide) (by decide) (by decide)] at h3; exact i2 b h1 h2 h3
  · rw [hk b 9 h1 (by decide) (by decide) (by decide)]; exact i3 b h1 h2
  · rw [hk b 10 h1 (by decide) (by decide) (by decide)] at h4
    have h8 := i9 b h1 h2
    have h9 := i4 b i h1 h2 h3 h4
    rw [hk b (11 + i) h1 (by omega) (by omega) (by omega), hk _ 9 (by omega) (by decide) (by decide) (by decide)]
    exact h9
  · rw [hk b 10 h1 (by decide) (by decide) (by decide)] at h5
    have h8 := i9 b h1 h2
    rw [hk b (11 + i) h1 (by omega) (by omega) (by omega), hk b (11 + j) h1 (by omega) (by omega) (by omega)]
    exact i5 b i j h1 h2 h3 h4 h5
  · rw [hk b 0 h1 (by decide) (by decide) (by decide)] at h3
    rw [hk b 9 h1 (by decide) (by decide) (by decide)] at h4
    obtain ⟨i, g1, g2, g3⟩ := i6 b h1 h2 h3 h4
    have h7 := i3 b h1 (i2 b h1 h2 h3)
    have h8 := i9 (K ta b 9) h4 (by omega)
    refine ⟨i, g1, ?_, ?_⟩
    · rw [hk b 9 h1 (by decide) (by decide) (by decide), hk _ 10 h4 (by decide) (by decide) (by decide)]; exact g2
    · rw [hk b 9 h1 (by decide) (by decide) (by decide), hk _ (11 + i) h4 (by omega) (by omega) (by omega)]; exact g3
  · rw [hk b 0 h1 (by decide) (by decide) (by decide)] at h3
    rw [hk b 9 h1 (by decide) (by decide) (by decide)] at h4
    exact i7 b h1 h2 h3 h4
  · rw [hk b 1 h1 (by decide) (by decide) (by decide)] at h3
    exact h6 b h1 h2 h3
  · rw [hk b 10 h1 (by decide) (by decide) (by decide)]; exact i9 b h1 h2
theorem TInv_tell {t t' : Nat → Int32} {b k : Int} {v : Int32} (hI : TInv t) (hb : 0 ≤ b) (hk : 2 ≤ k) (hk2 : k ≤ 8) (e : t' = upN t (ix b k) v) (hv : 4 ≤ k ∨ ¬ K t b 1 = 6 ∨ 1 ≤ v.toInt) : TInv t' := by
  refine TInv_A2 (by rw [e]; exact A2.put hb hk hk2) (fun b' h1 h2 h3 => ?_) hI
  have h8 := hI.2.2.2.2.2.2.2.1 b' h1 h2 h3
  have key : ∀ j : Int, 2 ≤ j → j ≤ 3 → 1 ≤ K t b' j → 1 ≤ K t' b' j := fun j g1 g2 g3 => by
    show 1 ≤ (t' (ix b' j)).toInt
    by_cases z : ix b' j = ix b k
    · have q := ix_inj h1 (by omega) (by omega) hb (by omega) (by omega) z
      rw [e, z, upN_at]
      rw [q.1] at h3
      omega
    · rw [e, upN_ne z]; exact g3
  exact ⟨key 2 (by decide) (by decide) h8.1, key 3 (by decide) (by decide) h8.2⟩
theorem TInv_put {ta t : Nat → Int32} {n p m : Int} (hI : TInv ta) (hn : n = (ta 3).toInt) (hn23 : n ≤ 23) (e3 : (t 3).toInt = n + 1)
    (o : ∀ b k : Int, 0 ≤ b → b ≤ 23 → b ≠ n → 0 ≤ k → k ≤ 18 → ¬ (b = p ∧ (k = 10 ∨ k = 11 + m)) → K t b k = K ta b k)
    (n0 : K t n 0 = 1) (n9 : K t n 9 = p) (n10 : K t n 10 = 0) (n6 : K t n 1 = 6 → 1 ≤ K t n 2 ∧ 1 ≤ K t n 3)
    (hp : (p = -1 ∧ (ta 0).toInt < 0 ∧ (t 0).toInt = n) ∨ (0 ≤ p ∧ p < n ∧ K ta p 10 = m ∧ m < 8 ∧ 0 ≤ m ∧ K t p 10 = m + 1 ∧ K t p (11 + m) = n ∧ (t 0).toInt = (ta 0).toInt)) : TInv t := by
  obtain ⟨i1, i2, i3, i4, i5, i6, i7, i8, i9⟩ := hI
  have i10 : ∀ b : Int, 0 ≤ b → b ≤ 23 → b ≠ n → (b = p ∧ K t b 10 = m + 1 ∧ K ta b 10 = m ∧ m < 8 ∧ 0 ≤ m) ∨ (K t b 10 = K ta b 10 ∧ ¬ (b = p ∧ 0 ≤ p)) := fun b h1 h2 h3 => by
    by_cases z : b = p
    · subst z
      rcases hp with h | h
      · omega
      · exact Or.inl ⟨rfl, h.2.2.2.2.2.1, h.2.2.1, h.2.2.2.1, h.2.2.2.2.1⟩
    · exact Or.inr ⟨o b 10 h1 h2 h3 (by decide) (by decide) (fun y => z y.1), fun y => z y.1⟩
  refine ⟨by omega, fun b h1 h2 h3 => ?_, fun b h1 h2 => ?_, fun b i h1 h2 h3 h4 => ?_, fun b i j h1 h2 h3 h4 h5 => ?_, fun b h1 h2 h3 h4 => ?_, fun b h1 h2 h3 h4 => ?_, fun b h1 h2 h3 => ?_, fun b h1 h2 => ?_⟩
  · by_cases z : b = n
    · omega
    · rw [o b 0 h1 h2 z (by decide) (by decide) (by omega)] at h3
      have := i2 b h1 h2 h3; omega
  · by_cases z : b = n
    · rw [z, n9]; omega
    · rw [o b 9 h1 (by omega) z (by decide) (by decide) (by omega)]
      exact i3 b h1 (by omega)
  · by_cases z : b = n
    · rw [z, n10] at h4; omega
    · have h8 := i9 b h1 h2
      rcases i10 b h1 h2 z with ⟨w1, w2, w3, w4, w5⟩ | ⟨w1, w2⟩
      · by_cases y : i = m
        · rcases hp with h | h
          · omega
          · rw [w1, y, h.2.2.2.2.2.2.1, n9]; omega
        · have h9 := i4 b i h1 h2 h3 (by omega)
          rw [o b (11 + i) h1 h2 z (by omega) (by omega) (by omega), o _ 9 (by omega) (by omega) (by omega) (by decide) (by decide) (by omega)]
          omega
      · have h9 := i4 b i h1 h2 h3 (by omega)
        rw [o b (11 + i) h1 h2 z (by omega) (by omega) (by omega), o _ 9 (by omega) (by omega) (by omega) (by decide) (by decide) (by omega)]
        omega
  · by_cases z : b = n
    · rw [z, n10] at h5; omega
    · have h8 := i9 b h1 h2
      rcases i10 b h1 h2 z with ⟨w1, w2, w3, w4, w5⟩ | ⟨w1, w2⟩
      · by_cases y : j = m
        · rcases hp with h | h
          · omega
          · have h9 := i4 b i h1 h2 h3 (by omega)
            rw [o b (11 + i) h1 h2 z (by omega) (by omega) (by omega), y, w1, h.2.2.2.2.2.2.1, ← w1]
            omega
        · rw [o b (11 + i) h1 h2 z (by omega) (by omega) (by omega), o b (11 + j) h1 h2 z (by omega) (by omega) (by omega)]
          exact i5 b i j h1 h2 h3 h4 (by omega)
      · rw [o b (11 + i) h1 h2 z (by omega) (by omega) (by omega), o b (11 + j) h1 h2 z (by omega) (by omega) (by omega)]
        exact i5 b i j h1 h2 h3 h4 (by omega)
  · by_cases z : b = n
    · rcases hp with h | h
      · rw [z, n9] at h4; omega
      · refine ⟨m, h.2.2.2.2.1, ?_, ?_⟩
        · rw [z, n9, h.2.2.2.2.2.1]; omega
        · rw [z, n9, h.2.2.2.2.2.2.1]
    · rw [o b 0 h1 h2 z (by decide) (by decide) (by omega)] at h3
      rw [o b 9 h1 h2 z (by decide) (by decide) (by omega)] at h4
      obtain ⟨i, g1, g2, g3⟩ := i6 b h1 h2 h3 h4
      have h6 := i2 b h1 h2 h3
      have h7 := i3 b h1 h6
      have h8 := i9 (K ta b 9) h4 (by omega)
      have h5 := i10 (K ta b 9) h4 (by omega) (by omega)
      refine ⟨i, g1, ?_, ?_⟩
      · rw [o b 9 h1 h2 z (by decide) (by decide) (by omega)]; omega
      · rw [o b 9 h1 h2 z (by decide) (by decide) (by omega), o _ (11 + i) h4 (by omega) (by omega) (by omega) (by omega) (by omega)]; exact g3
  · by_cases z : b = n
    · rw [z, n9] at h4; omega
    · rw [o b 0 h1 h2 z (by decide) (by decide) (by omega)] at h3
      rw [o b 9 h1 h2 z (by decide) (by decide) (by omega)] at h4
      have := i7 b h1 h2 h3 h4
      omega
  · by_cases z : b = n
    · subst z; exact n6 h3
    · rw [o b 1 h1 h2 z (by decide) (by decide) (by omega)] at h3
      rw [o b 2 h1 h2 z (by decide) (by decide) (by omega), o b 3 h1 h2 z (by decide) (by decide) (by omega)]
      exact i8 b h1 h2 h3
  · by_cases z : b = n
    · rw [z, n10]; decide
    · have h8 := i9 b h1 h2
      have := i10 b h1 h2 z
      omega
theorem TInv_cut {ta t : Nat → Int32} {p m m' r : Int} {f : Int → Int} (hI : TInv ta) (e3 : t 3 = ta 3) (e0 : t 0 = ta 0) (hp0 : 0 ≤ p) (hp23 : p ≤ 23) (hm : K ta p 10 = m) (hm' : K t p 10 = m') (h0m : 0 ≤ m') (h8m : m' ≤ m)
    (th : ∀ b : Int, 0 ≤ b → b ≤ 23 → K t b 0 = 1 → K ta b 0 = 1)
    (o : ∀ b k : Int, 0 ≤ b → b ≤ 23 → 1 ≤ k → k ≤ 18 → ¬ (b = p ∧ 10 ≤ k) → K t b k = K ta b k)
    (l : ∀ j : Int, 0 ≤ j → j < m' → 0 ≤ f j ∧ f j < m ∧ K t p (11 + j) = K ta p (11 + f j))
    (inj : ∀ i j : Int, 0 ≤ i → i < j → j < m' → f i ≠ f j)
    (sj : ∀ i : Int, 0 ≤ i → i < m → i = r ∨ ∃ j : Int, 0 ≤ j ∧ j < m' ∧ f j = i)
    (gone : 0 ≤ r → r < m → ¬ K t (K ta p (11 + r)) 0 = 1) : TInv t := by
  obtain ⟨i1, i2, i3, i4, i5, i6, i7, i8, i9⟩ := hI
  have hm8 := i9 p hp0 hp23
  unfold TInv
  rw [e0, e3]
  refine ⟨i1, fun b h1 h2 h3 => i2 b h1 h2 (th b h1 h2 h3), fun b h1 h2 => ?_, fun b i h1 h2 h3 h4 => ?_, fun b i j h1 h2 h3 h4 h5 => ?_, fun b h1 h2 h3 h4 => ?_, fun b h1 h2 h3 h4 => ?_, fun b h1 h2 h3 => ?_, fun b h1 h2 => ?_⟩
  · rw [o b 9 h1 (by omega) (by decide) (by decide) (by omega)]; exact i3 b h1 h2
  · have h8 := i9 b h1 h2
    by_cases z : b = p
    · rw [z, hm'] at h4
      have hl := l i h3 h4
      have h9 := i4 p (f i) hp0 hp23 hl.1 (by omega)
      rw [z, hl.2.2, o _ 9 (by omega) (by omega) (by decide) (by decide) (by omega)]
      exact h9
    · rw [o b 10 h1 h2 (by decide) (by decide) (fun y => z y.1)] at h4
      have h9 := i4 b i h1 h2 h3 h4
      rw [o b (11 + i) h1 h2 (by omega) (by omega) (fun y => z y.1), o _ 9 (by omega) (by omega) (by decide) (by decide) (by omega)]
      exact h9
  · have h8 := i9 b h1 h2
    by_cases z : b = p
    · rw [z, hm'] at h5
      have hl := l i h3 (by omega)
      have hl2 := l j (by omega) h5
      rw [z, hl.2.2, hl2.2.2]
      have hne := inj i j h3 h4 h5
      by_cases w : f i < f j
      · exact i5 p (f i) (f j) hp0 hp23 hl.1 w (by omega)
      · exact fun q => i5 p (f j) (f i) hp0 hp23 hl2.1 (by omega) (by omega) q.symm
    · rw [o b 10 h1 h2 (by decide) (by decide) (fun y => z y.1)] at h5
      rw [o b (11 + i) h1 h2 (by omega) (by omega) (fun y => z y.1), o b (11 + j) h1 h2 (by omega) (by omega) (fun y => z y.1)]
      exact i5 b i j h1 h2 h3 h4 h5
  · have h3' := th b h1 h2 h3
    rw [o b 9 h1 h2 (by decide) (by decide) (by omega)] at h4 ⊢
    obtain ⟨i, g1, g2, g3⟩ := i6 b h1 h2 h3' h4
    have h7 := i3 b h1 (i2 b h1 h2 h3')
    by_cases z : K ta b 9 = p
    · rw [z] at g2 g3 ⊢
      rcases sj i g1 (by omega) with w | ⟨j, w1, w2, w3⟩
      · rw [w] at g3
        refine absurd h3 ?_
        have := gone (by omega) (by omega)
        rw [g3] at this
        exact this
      · refine ⟨j, w1, by omega, ?_⟩
        rw [(l j w1 w2).2.2, w3, g3]
    · have h8 := i9 (K ta b 9) h4 (by omega)
      refine ⟨i, g1, ?_, ?_⟩
      · rw [o _ 10 h4 (by omega) (by decide) (by decide) (fun y => z y.1)]; exact g2
      · rw [o _ (11 + i) h4 (by omega) (by omega) (by omega) (fun y => z y.1)]; exact g3
  · have h3' := th b h1 h2 h3
    rw [o b 9 h1 h2 (by decide) (by decide) (by omega)] at h4
    exact i7 b h1 h2 h3' h4
  · rw [o b 1 h1 h2 (by decide) (by decide) (by omega)] at h3
    rw [o b 2 h1 h2 (by decide) (by decide) (by omega), o b 3 h1 h2 (by decide) (by decide) (by omega)]
    exact i8 b h1 h2 h3
  · have h8 := i9 b h1 h2
    by_cases z : b = p
    · rw [z, hm']; omega
    · rw [o b 10 h1 h2 (by decide) (by decide) (fun y => z y.1)]; exact h8
theorem TInv_top {ta t : Nat → Int32} (hI : TInv ta) (e3 : t 3 = ta 3) (e0 : (t 0).toInt = -1)
    (th : ∀ b : Int, 0 ≤ b → b ≤ 23 → K t b 0 = 1 → K ta b 0 = 1)
    (o : ∀ b k : Int, 0 ≤ b → b ≤ 23 → 1 ≤ k → k ≤ 18 → K t b k = K ta b k)
    (gone : ∀ b : Int, 0 ≤ b → b ≤ 23 → b = (ta 0).toInt → ¬ K t b 0 = 1) : TInv t := by
  obtain ⟨i1, i2, i3, i4, i5, i6, i7, i8, i9⟩ := hI
  unfold TInv
  rw [e3]
  refine ⟨by omega, fun b h1 h2 h3 => i2 b h1 h2 (th b h1 h2 h3), fun b h1 h2 => ?_, fun b i h1 h2 h3 h4 => ?_, fun b i j h1 h2 h3 h4 h5 => ?_, fun b h1 h2 h3 h4 => ?_, fun b h1 h2 h3 h4 => ?_, fun b h1 h2 h3 => ?_, fun b h1 h2 => ?_⟩
  · rw [o b 9 h1 (by omega) (by decide) (by decide)]; exact i3 b h1 h2
  · have h8 := i9 b h1 h2
    rw [o b 10 h1 h2 (by decide) (by decide)] at h4
    have h9 := i4 b i h1 h2 h3 h4
    rw [o b (11 + i) h1 h2 (by omega) (by omega), o _ 9 (by omega) (by omega) (by decide) (by decide)]
    exact h9
  · have h8 := i9 b h1 h2
    rw [o b 10 h1 h2 (by decide) (by decide)] at h5
    rw [o b (11 + i) h1 h2 (by omega) (by omega), o b (11 + j) h1 h2 (by omega) (by omega)]
    exact i5 b i j h1 h2 h3 h4 h5
  · have h3' := th b h1 h2 h3
    rw [o b 9 h1 h2 (by decide) (by decide)] at h4 ⊢
    obtain ⟨i, g1, g2, g3⟩ := i6 b h1 h2 h3' h4
    have h7 := i3 b h1 (i2 b h1 h2 h3')
    have h8 := i9 (K ta b 9) h4 (by omega)
    refine ⟨i, g1, ?_, ?_⟩
    · rw [o _ 10 h4 (by omega) (by decide) (by decide)]; exact g2
    · rw [o _ (11 + i) h4 (by omega) (by omega) (by omega)]; exact g3
  · have h3' := th b h1 h2 h3
    rw [o b 9 h1 h2 (by decide) (by decide)] at h4
    exact absurd h3 (gone b h1 h2 (i7 b h1 h2 h3' h4))
  · rw [o b 1 h1 h2 (by decide) (by decide)] at h3
    rw [o b 2 h1 h2 (by decide) (by decide), o b 3 h1 h2 (by decide) (by decide)]
    exact i8 b h1 h2 h3
  · rw [o b 10 h1 h2 (by decide) (by decide)]; exact i9 b h1 h2
/-- what holds while a box is on its way out -/
def TW (t : Nat → Int32) : Prop := (∀ b : Int, 0 ≤ b → b ≤ 23 → K t b 0 = 1 → b < (t 3).toInt) ∧ ∀ b : Int, 0 ≤ b → b < (t 3).toInt → -1 ≤ K t b 9 ∧ K t b 9 < b
theorem TInv.W {t : Nat → Int32} (h : TInv t) : TW t := ⟨h.2.1, h.2.2.1⟩
theorem mP9w {t : Nat → Int32} {b : Int} {r : Int32} (h : r.toInt = K t b 9) (hI : TW t) (h1 : 0 ≤ b) : ¬ b < (t 3).toInt ∨ r.toInt < b := by
  by_cases z : b < (t 3).toInt
  · have := hI.2 b h1 z
    exact Or.inr (by omega)
  · exact Or.inl z
theorem mBw {Y : mY} {t : Nat → Int32} {b : Int} {r : Int32} (h : (r.toInt = 1 ∧ 0 ≤ b ∧ b ≤ 23 ∧ mV Y (ix b 0) 1) ∨ (r.toInt = 0 ∧ (b < 0 ∨ 23 < b ∨ ∃ v : Int32, ¬ v.toInt = 1 ∧ mV Y (ix b 0) v))) (hT : TI Y t) (hI : TW t) : (r.toInt = 1 ∧ 0 ≤ b ∧ b ≤ 23 ∧ K t b 0 = 1 ∧ b < (t 3).toInt) ∨ (r.toInt = 0 ∧ (b < 0 ∨ 23 < b ∨ ¬ K t b 0 = 1)) := by
  rcases h with ⟨e, h1, h2, h3⟩ | ⟨e, h⟩
  · have h4 := mT h3 hT h1 h2 (by decide) (by decide)
    have h5 : K t b 0 = 1 := by rw [← h4]; decide
    exact Or.inl ⟨e, h1, h2, h5, hI.1 b h1 h2 h5⟩
  · by_cases z : b < 0 ∨ 23 < b
    · exact Or.inr ⟨e, by omega⟩
    · rcases h with h | h | ⟨v, h4, h5⟩
      · omega
      · omega
      · have h6 := mT h5 hT (by omega) (by omega) (by decide) (by decide)
        exact Or.inr ⟨e, Or.inr (Or.inr (by omega))⟩
theorem b24_k (o : Int32) (k : Nat) (hk : k < 24) : bS o (Int32.ofNat k) ↔ o.toBitVec.getLsbD k = true := by
  have e : ((o >>> (Int32.ofNat k &&& 31)) &&& 1).toBitVec = if o.toBitVec.getLsbD k = true then 1#32 else 0#32 := by
    rw [Int32.toBitVec_and]
    have e1 : (o >>> (Int32.ofNat k &&& 31)).toBitVec = o.toBitVec.sshiftRight k := by
      have hs : ∀ k, k < 24 → ((Int32.ofNat k &&& 31).toBitVec.smod 32#32).toNat = k := by decide
      show o.toBitVec.sshiftRight ((Int32.ofNat k &&& 31).toBitVec.smod 32#32).toNat = _
      rw [hs k hk]
    rw [e1]
    have e2 : ((1 : Int32).toBitVec) = 1#32 := rfl
    rw [e2, BitVec.and_one_eq_setWidth_ofBool_getLsbD]
    have e3 : (o.toBitVec.sshiftRight k).getLsbD 0 = o.toBitVec.getLsbD k := by
      rw [BitVec.getLsbD_sshiftRight]
      simp
      omega
    rw [e3]
    cases o.toBitVec.getLsbD k <;> rfl
  constructor
  · intro h
    cases hb : o.toBitVec.getLsbD k with
    | true => rfl
    | false =>
      rw [hb] at e
      have : (((o >>> (Int32.ofNat k &&& 31)) &&& 1)) = 0 := Int32.toBitVec_inj.mp (by rw [e]; rfl)
      rw [bS, this] at h
      exact absurd h (by decide)
  · intro h
    rw [h] at e
    have : (((o >>> (Int32.ofNat k &&& 31)) &&& 1)) = 1 := Int32.toBitVec_inj.mp (by rw [e]; rfl)
    rw [bS, this]; decide
theorem i24 {j : Int32} (h0 : 0 ≤ j.toInt) (h7 : j.toInt ≤ 23) : j = Int32.ofNat j.toInt.toNat ∧ j.toInt.toNat < 24 := by
  have h : ∀ k, k < 24 → (Int32.ofNat k).toInt = (k : Int) := by decide
  refine ⟨Int32.toInt_inj.mp ?_, by omega⟩
  rw [h _ (by omega)]; omega
theorem b24 {o j : Int32} (h0 : 0 ≤ j.toInt) (h7 : j.toInt ≤ 23) : bS o j ↔ o.toBitVec.getLsbD j.toInt.toNat = true := by
  obtain ⟨e, h⟩ := i24 h0 h7
  have := b24_k o j.toInt.toNat h
  rw [← e] at this
  exact this
theorem b24_or {r y j : Int32} (h0 : 0 ≤ j.toInt) (h7 : j.toInt ≤ 23) (h : bS r j) : bS (r ||| y) j := by
  rw [b24 h0 h7] at h ⊢
  rw [Int32.toBitVec_or, BitVec.getLsbD_or, h, Bool.true_or]
theorem b24_or1 {r i : Int32} (g0 : 0 ≤ i.toInt) (g7 : i.toInt ≤ 23) : bS (r ||| (1 <<< (i &&& 31))) i := by
  have aux : ∀ a : Nat, a < 24 → bS (1 <<< (Int32.ofNat a &&& 31)) (Int32.ofNat a) := by decide
  obtain ⟨e, h2⟩ := i24 g0 g7
  have h := aux i.toInt.toNat h2
  rw [← e] at h
  rw [b24 g0 g7] at h ⊢
  rw [Int32.toBitVec_or, BitVec.getLsbD_or, h, Bool.or_true]
