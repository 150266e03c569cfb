/-! ===== who is alike; RINV ===== -/
/-- alike but for who is listed -/
def AG (ta t : Nat → Int32) : Prop := t 0 = ta 0 ∧ t 3 = ta 3 ∧ ∀ b k : Int, 0 ≤ b → 0 ≤ k → k ≤ 18 → t (ix b k) = ta (ix b k)
theorem AG.refl {t : Nat → Int32} : AG t t := ⟨rfl, rfl, fun _ _ _ _ _ => rfl⟩
theorem AG.trans {t t' t'' : Nat → Int32} (h : AG t t') (h' : AG t' t'') : AG t t'' := ⟨h'.1.trans h.1, h'.2.1.trans h.2.1, fun b k h1 h2 h3 => (h'.2.2 b k h1 h2 h3).trans (h.2.2 b k h1 h2 h3)⟩
theorem AG.put {t : Nat → Int32} {b k : Int} {v : Int32} (hb : 0 ≤ b) (hk : 18 < k) (hk2 : k ≤ 37) : AG t (upN t (ix b k) v) := by
  have e := ix_mod hb (by omega : 0 ≤ k) hk2
  refine ⟨upN_ne (by omega), upN_ne (by omega), fun b' k' h1 h2 h3 => upN_ne (fun z => ?_)⟩
  have := (ix_inj h1 h2 (by omega) hb (by omega) (by omega) z).2
  omega
theorem AG.K {ta t : Nat → Int32} (h : AG ta t) {b k : Int} (h1 : 0 ≤ b) (h2 : 0 ≤ k) (h3 : k ≤ 18) : K t b k = K ta b k := by
  show (t (ix b k)).toInt = (ta (ix b k)).toInt
  rw [h.2.2 b k h1 h2 h3]
theorem TInv0_AG {ta t : Nat → Int32} (h : AG ta t) (hI : TInv0 ta) : TInv0 t := by
  obtain ⟨i1, i2, i3, i4, i5, i6, i7, i8, i9⟩ := hI
  have hk : ∀ b k : Int, 0 ≤ b → 0 ≤ k → k ≤ 18 → K t b k = K ta b k := fun b k h1 h2 h3 => h.K h1 h2 h3
  unfold TInv0
  rw [h.1, h.2.1]
  refine ⟨i1, fun b h1 h2 h3 => ?_, fun b h1 h2 => ?_, fun b i h1 h2 h3 h4 => ?_, fun b i j h1 h2 h3 h4 h5 => ?_, fun b h1 h2 h3 h4 => ?_, fun b h1 h2 h3 h4 => ?_, fun b h1 h2 h3 => ?_, fun b h1 h2 => ?_⟩
  · rw [hk b 0 h1 (by decide) (by decide)] at h3; exact i2 b h1 h2 h3
  · rw [hk b 9 h1 (by decide) (by decide)]; exact i3 b h1 h2
  · rw [hk b 10 h1 (by decide) (by decide)] at h4
    have h8 := i9 b h1 h2
    have h9 := i4 b i h1 h2 h3 h4
    rw [hk b (11 + i) h1 (by omega) (by omega), hk _ 9 (by omega) (by decide) (by decide)]
    exact h9
  · rw [hk b 10 h1 (by decide) (by decide)] at h5
    have h8 := i9 b h1 h2
    rw [hk b (11 + i) h1 (by omega) (by omega), hk b (11 + j) h1 (by omega) (by omega)]
    exact i5 b i j h1 h2 h3 h4 h5
  · rw [hk b 0 h1 (by decide) (by decide)] at h3
    rw [hk b 9 h1 (by decide) (by decide)] at h4
    obtain ⟨i, g1, g2, g3⟩ := i6 b h1 h2 h3 h4
    have h7 := i3 b h1 (i2 b h1 h2 h3)
    have h8 := i9 (K ta b 9) h4 (by omega)
    refine ⟨i, g1, ?_, ?_⟩
    · rw [hk b 9 h1 (by decide) (by decide), hk _ 10 h4 (by decide) (by decide)]; exact g2
    · rw [hk b 9 h1 (by decide) (by decide), hk _ (11 + i) h4 (by omega) (by omega)]; exact g3
  · rw [hk b 0 h1 (by decide) (by decide)] at h3
    rw [hk b 9 h1 (by decide) (by decide)] at h4
    exact i7 b h1 h2 h3 h4
  · rw [hk b 1 h1 (by decide) (by decide)] at h3
    rw [hk b 2 h1 (by decide) (by decide), hk b 3 h1 (by decide) (by decide)]
    exact i8 b h1 h2 h3
  · rw [hk b 10 h1 (by decide) (by decide)]; exact i9 b h1 h2
/-- who is told alike -/
theorem K_LOC {t t' : Nat → Int32} (hI : TInv0 t) (h : ∀ b k : Int, 0 ≤ b → 0 ≤ k → k ≤ 18 → t' (ix b k) = t (ix b k)) : TKA (rCm t) (K t) ∧ ∀ b, rCm t b → LOC (K t) (K t') b := by
  have hk : TKA (rCm t) (K t) := fun b hb => ⟨⟨hb.1, hb.2.1⟩, fun i h0 hi => by
    have := hb.1
    have := hI.2.2.2.1 b i hb.1 hb.2.1 h0 hi
    have := hI.1
    exact ⟨by omega, by omega, by omega, by omega, by omega⟩⟩
  have hK : ∀ b k : Int, 0 ≤ b → 0 ≤ k → k ≤ 18 → K t' b k = K t b k := fun b k h1 h2 h4 => by
    show (t' (ix b k)).toInt = (t (ix b k)).toInt
    rw [h b k h1 h2 h4]
  refine ⟨hk, fun b hb => ?_⟩
  have h8 := hI.2.2.2.2.2.2.2.2 b hb.1 hb.2.1
  refine ⟨hK b 1 hb.1 (by decide) (by decide), hK b 2 hb.1 (by decide) (by decide), hK b 3 hb.1 (by decide) (by decide), hK b 10 hb.1 (by decide) (by decide), fun i h0 hi => ?_⟩
  have hc := (hk b hb).2 i h0 hi
  have hb0 := hb.1
  exact ⟨hK b _ hb.1 (by omega) (by omega), hK _ 7 (by omega) (by decide) (by decide), hK _ 8 (by omega) (by decide) (by decide)⟩
theorem rCm_eq {t t' : Nat → Int32} (h3 : t' 3 = t 3) : rCm t' = rCm t := funext fun b => by unfold rCm; rw [h3]
/-- RINV hangs on what is told and on MEMOS alone -/
theorem TPI_eq {t t' : Nat → Int32} (h0 : t' 0 = t 0) (h3 : t' 3 = t 3) (h9 : ∀ b : Int, 0 ≤ b → b < (t 3).toInt → K t' b 9 = K t b 9) (h : TPI t) : TPI t' := by
  rcases h with h | h
  · exact Or.inl (by rw [h3]; exact h)
  · exact Or.inr (fun b q1 q2 => by have g := h b (by rw [← h0]; exact q1) q2; rw [h3, h9 b q2 g.1]; exact g)
theorem RINV_eq {t t' : Nat → Int32} (h0 : t' 0 = t 0) (h3 : t' 3 = t 3) (h : ∀ b k : Int, 0 ≤ b → 0 ≤ k → (k ≤ 18 ∨ (21 ≤ k ∧ k ≤ 23)) → t' (ix b k) = t (ix b k)) (hI : TInv0 t) (hR : RINV t) : RINV t' := by
  obtain ⟨hk, hL⟩ := K_LOC (t' := t') hI (fun b k h1 h2 h4 => h b k h1 h2 (Or.inl h4))
  refine ⟨?_, TPI_eq h0 h3 (fun b q _ => by show (t' (ix b 9)).toInt = (t (ix b 9)).toInt; rw [h b 9 q (by decide) (Or.inl (by decide))]) hR.2⟩
  rw [rCm_eq h3]
  refine MINV_cg hk hL hR.1 (fun b w hb hw => by unfold rmb; rw [h b 21 hb.1 (by decide) (Or.inr (by decide))]) (fun b w hb hw => ?_)
  show (t' (ix b (22 + w))).toInt = (t (ix b (22 + w))).toInt
  rw [h b (22 + w) hb.1 (by omega) (Or.inr (by omega))]
/-- who is listed has changed -/
theorem TInv_20 {t t' : Nat → Int32} {b : Int} {v : Int32} (hI : TInv t) (hb : 0 ≤ b) (e : t' = upN t (ix b 20) v) : TInv t' := by
  have hA : AG t t' := by rw [e]; exact AG.put hb (by decide) (by decide)
  refine (TInv0_AG hA hI.z).mk (RINV_eq hA.1 hA.2.1 (fun b' k h1 h2 h3 => ?_) hI.z ⟨hI.r, hI.p⟩)
  rw [e]
  exact upN_ne (fun z => by have := (ix_inj h1 h2 (by omega) hb (by decide) (by decide) z).2; omega)
