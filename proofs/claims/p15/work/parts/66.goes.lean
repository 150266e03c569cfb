/-! ===== the reference: boxes go, move ===== -/
def DR (ta t : Nat → Int32) (x p i l : Int) : Prop := ∃ r : Int, 0 ≤ r ∧ r ≤ i ∧ r ≤ l ∧ K ta p (11 + r) = x ∧ MS ta t p r i 1
theorem gone2 {t t1 t2 : Nat → Int32} {k x : Int} {v w : Int32} (hk : 0 ≤ k) (hx : 0 ≤ x) (e1 : t1 = upN t (ix k 0) v) (hv : v.toInt = 0) (e2 : t2 = upN t1 (ix k 20) w) : (k = x → ¬ K t2 x 0 = 1) ∧ (¬ K t x 0 = 1 → ¬ K t2 x 0 = 1) ∧ t2 3 = t 3 ∧ K t2 x 9 = K t x 9 := by
  have m1 := (ix_mod hk (by decide : (0 : Int) ≤ 0) (by decide)).2
  have m2 := (ix_mod hk (by decide : (0 : Int) ≤ 20) (by decide)).2
  have e0 : t2 (ix x 0) = t1 (ix x 0) := by rw [e2, upN_ne (fun q => by have := (ix_inj hx (by decide) (by decide) hk (by decide) (by decide) q).2; omega)]
  refine ⟨fun z h => ?_, fun z h => ?_, by rw [e2, upN_ne (by omega), e1, upN_ne (by omega)], ?_⟩
  · have h : (t2 (ix x 0)).toInt = 1 := h
    rw [e0, e1, z, upN_at] at h; omega
  · have h : (t2 (ix x 0)).toInt = 1 := h
    rw [e0, e1] at h
    by_cases q : ix x 0 = ix k 0
    · rw [q, upN_at] at h; omega
    · rw [upN_ne q] at h; exact z h
  · show (t2 (ix x 9)).toInt = (t (ix x 9)).toInt
    rw [e2, upN_ne (fun q => by have := (ix_inj hx (by decide) (by decide) hk (by decide) (by decide) q).2; omega), e1, upN_ne (fun q => by have := (ix_inj hx (by decide) (by decide) hk (by decide) (by decide) q).2; omega)]
