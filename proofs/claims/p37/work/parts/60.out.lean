/-! ===== laying it all: who is listed ===== -/
theorem PC_qn {a : Nat → Option (Nat → Int32)} (c k : Nat) (h : PC c k = true) : qX a c k = none := by
  unfold PC at h
  simp at h
  exact qX_nc (by unfold mCu; omega) (by omega)
theorem qk_set {G : tG} {σ : Nat → Nat} {cu : Nat} {a : Nat → Option (Nat → Int32)} {t : Nat → Int32} {F : mF} {P : Nat → Nat → Bool} {s : State} {H : Heap} {locs : List Loc} {k : Nat} {v : Int32} (hc : mCu cu) (hP : P cu k = false) (hk : tr k = true) (hG : mGH G (mSet (σ, cu, kO P (qX (upA a cu t)) F) cu k (some v)) s H locs) : mGH G (σ, cu, kO P (qX (upA a cu (upN t k v))) F) s H locs := by
  have e : mSet (σ, cu, kO P (qX (upA a cu t)) F) cu k (some v) = (σ, cu, kO P (qX (upA a cu (upN t k v))) F) := by
    unfold mSet
    refine Prod.ext rfl (Prod.ext rfl (funext fun c' => funext fun k' => ?_))
    show (if c' = cu ∧ k' = k then some v else kO P (qX (upA a cu t)) F c' k') = kO P (qX (upA a cu (upN t k v))) F c' k'
    by_cases z : c' = cu ∧ k' = k
    · obtain ⟨rfl, rfl⟩ := z
      rw [if_pos ⟨rfl, rfl⟩, kO_out hP, qX_at hc upA_at hk, upN_at]
    · rw [if_neg z]
      cases hp : P c' k' with
      | true => rw [kO_in hp, kO_in hp]
      | false =>
        rw [kO_out hp, kO_out hp]
        unfold qX
        by_cases y : ((c' = 2 ∨ c' = 3 ∨ c' = 4 ∨ c' = 5) ∧ tr k' = true) ∨ (c' = 20 ∨ c' = 17 ∨ (c' = 1 ∧ k' = 30))
        · rw [if_pos y, if_pos y]
          by_cases e : c' = cu
          · subst e
            rw [upA_at, upA_at]
            show some (t k') = some (upN t k v k')
            rw [upN_ne (fun w => z ⟨rfl, w⟩)]
          · rw [upA_ne e, upA_ne e]
        · rw [if_neg y, if_neg y]
  rw [← e]
  exact hG
/-- alike but for who is listed -/
def AG (ta t : Nat → Int32) : Prop := t 0 = ta 0 ∧ t 3 = ta 3 ∧ ∀ b k : Int, 0 ≤ b → 0 ≤ k → k ≤ 18 → t (ix b k) = ta (ix b k)
theorem AG.refl {t : Nat → Int32} : AG t t := ⟨rfl, rfl, fun _ _ _ _ _ => rfl⟩
theorem AG.trans {t t' t'' : Nat → Int32} (h : AG t t') (h' : AG t' t'') : AG t t'' := ⟨h'.1.trans h.1, h'.2.1.trans h.2.1, fun b k h1 h2 h3 => (h'.2.2 b k h1 h2 h3).trans (h.2.2 b k h1 h2 h3)⟩
theorem AG.put {t : Nat → Int32} {b k : Int} {v : Int32} (hb : 0 ≤ b) (hk : 18 < k) (hk2 : k ≤ 37) : AG t (upN t (ix b k) v) := by
  have e := ix_mod hb (by omega : 0 ≤ k) hk2
  refine ⟨upN_ne (by omega), upN_ne (by omega), fun b' k' h1 h2 h3 => upN_ne (fun z => ?_)⟩
  have := (ix_inj h1 h2 (by omega) hb (by omega) (by omega) z).2
  omega
theorem AG.K {ta t : Nat → Int32} (h : AG ta t) {b k : Int} (h1 : 0 ≤ b) (h2 : 0 ≤ k) (h3 : k ≤ 18) : K t b k = K ta b k := by
  show (t (ix b k)).toInt = (ta (ix b k)).toInt
  rw [h.2.2 b k h1 h2 h3]
theorem TInv_AG {ta t : Nat → Int32} (h : AG ta t) (hI : TInv ta) : TInv t := by
  obtain ⟨i1, i2, i3, i4, i5, i6, i7, i8, i9⟩ := hI
  have hk : ∀ b k : Int, 0 ≤ b → 0 ≤ k → k ≤ 18 → K t b k = K ta b k := fun b k h1 h2 h3 => h.K h1 h2 h3
  unfold TInv
  rw [h.1, h.2.1]
  refine ⟨i1, fun b h1 h2 h3 => ?_, fun b h1 h2 => ?_, fun b i h1 h2 h3 h4 => ?_, fun b i j h1 h2 h3 h4 h5 => ?_, fun b h1 h2 h3 h4 => ?_, fun b h1 h2 h3 h4 => ?_, fun b h1 h2 h3 => ?_, fun b h1 h2 => ?_⟩
  · rw [hk b 0 h1 (by decide) (by decide)] at h3; exact i2 b h1 h2 h3
  · rw [hk b 9 h1 (by decide) (by decide)]; exact i3 b h1 h2
  · rw [hk b 10 h1 (by decide) (by decide)] at h4
    have h8 := i9 b h1 h2
    have h9 := i4 b i h1 h2 h3 h4
    rw [hk b (11 + i) h1 (by omega) (by omega), hk _ 9 (by omega) (by decide) (by decide)]
    exact h9
  · rw [hk b 10 h1 (by decide) (by decide)] at h5
    have h8 := i9 b h1 h2
    rw [hk b (11 + i) h1 (by omega) (by omega), hk b (11 + j) h1 (by omega) (by omega)]
    exact i5 b i j h1 h2 h3 h4 h5
  · rw [hk b 0 h1 (by decide) (by decide)] at h3
    rw [hk b 9 h1 (by decide) (by decide)] at h4
    obtain ⟨i, g1, g2, g3⟩ := i6 b h1 h2 h3 h4
    have h7 := i3 b h1 (i2 b h1 h2 h3)
    have h8 := i9 (K ta b 9) h4 (by omega)
    refine ⟨i, g1, ?_, ?_⟩
    · rw [hk b 9 h1 (by decide) (by decide), hk _ 10 h4 (by decide) (by decide)]; exact g2
    · rw [hk b 9 h1 (by decide) (by decide), hk _ (11 + i) h4 (by omega) (by omega)]; exact g3
  · rw [hk b 0 h1 (by decide) (by decide)] at h3
    rw [hk b 9 h1 (by decide) (by decide)] at h4
    exact i7 b h1 h2 h3 h4
  · rw [hk b 1 h1 (by decide) (by decide)] at h3
    rw [hk b 2 h1 (by decide) (by decide), hk b 3 h1 (by decide) (by decide)]
    exact i8 b h1 h2 h3
  · rw [hk b 10 h1 (by decide) (by decide)]; exact i9 b h1 h2
/-- how many are listed -/
def nL (t : Nat → Int32) : Nat := ms (fun b => (K t (b : Int) 20).toNat) 24
theorem nL_lt {t t' : Nat → Int32} {b : Int} {v : Int32} (h0 : 0 ≤ b) (h1 : b ≤ 23) (h : K t b 20 = 1) (e : t' = upN t (ix b 20) v) (hv : v.toInt = 0) : nL t' < nL t := by
  refine ms_lt (b := b.toNat) (fun i hi => ?_) (by omega) ?_
  · show (t' (ix (i : Int) 20)).toInt.toNat ≤ (t (ix (i : Int) 20)).toInt.toNat
    by_cases z : (i : Int) = b
    · rw [e, z, upN_at]; omega
    · rw [e, upN_ne (fun y => z (ix_inj (by omega) (by decide) (by decide) h0 (by decide) (by decide) y).1)]
      exact Nat.le_refl _
  · show (t' (ix ((b.toNat : Nat) : Int) 20)).toInt.toNat < (t (ix ((b.toNat : Nat) : Int) 20)).toInt.toNat
    have h' : (t (ix b 20)).toInt = 1 := h
    rw [show ((b.toNat : Nat) : Int) = b by omega, e, upN_at]; omega
