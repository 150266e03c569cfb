/-! ===== the reference: letters; all that is read ===== -/
def P25 (c k : Nat) : Bool := c == 1 && k == 25
theorem P25_25 : P25 1 25 = true := rfl
theorem P25_15 {k : Nat} : P25 15 k = false := rfl
theorem P25_qn {a : Nat → Option (Nat → Int32)} (c k : Nat) (h : P25 c k = true) : qX a c k = none := by
  unfold P25 at h
  simp at h
  exact qX_nc (by unfold mCu; omega) (by omega)
def AX (a A : Nat → Option (Nat → Int32)) : Prop := ∀ c : Nat, ¬ c = 1 → ¬ c = 17 → A c = a c
theorem AX_go {a : Nat → Option (Nat → Int32)} {f g : Nat → Int32} : AX a (upA (upA a 17 f) 1 g) := fun c h1 h2 => by rw [upA_ne h1, upA_ne h2]
theorem AX_end {G : tG} {σ : Nat → Nat} {cu : Nat} {a A : Nat → Option (Nat → Int32)} {t : Nat → Int32} {s : State} {H : Heap} {locs : List Loc} (hcu : mCu cu) (h17 : a 17 = none) (h1 : a 1 = none) (hX : AX a A) (hG : mGH G (σ, cu, qX (upA A cu t)) s H locs) : mGH G (σ, cu, qX (upA a cu t)) s H locs :=
  mGH.le (Y := (σ, cu, qX (upA A cu t))) (Y' := (σ, cu, qX (upA a cu t))) ⟨rfl, rfl, fun c k y e => by
    have e : qX (upA a cu t) c k = some y := e
    show qX (upA A cu t) c k = some y
    have hc1 : ¬ 1 = cu ∧ ¬ 17 = cu := by rcases hcu with e | e | e | e <;> subst e <;> decide
    unfold qX at e ⊢
    by_cases z : c = cu
    · subst z
      rw [upA_at] at e ⊢; exact e
    · rw [upA_ne z] at e ⊢
      by_cases w : c = 1
      · rw [w, h1] at e; split at e <;> cases e
      · by_cases v : c = 17
        · rw [v, h17] at e; split at e <;> cases e
        · rw [hX c w v]; exact e⟩ hG
