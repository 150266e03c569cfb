/-! ===== laying it all: who is listed ===== -/
theorem PC_qn {a : Nat → Option (Nat → Int32)} (c k : Nat) (h : PC c k = true) : qX a c k = none := by
  unfold PC at h
  simp at h
  exact qX_nc (by unfold mCu; omega) (by omega)
theorem qk_set {G : tG} {σ : Nat → Nat} {cu : Nat} {a : Nat → Option (Nat → Int32)} {t : Nat → Int32} {F : mF} {P : Nat → Nat → Bool} {s : State} {H : Heap} {locs : List Loc} {k : Nat} {v : Int32} (hc : mCu cu) (hP : P cu k = false) (hk : tr k = true) (hG : mGH G (mSet (σ, cu, kO P (qX (upA a cu t)) F) cu k (some v)) s H locs) : mGH G (σ, cu, kO P (qX (upA a cu (upN t k v))) F) s H locs := by
  have e : mSet (σ, cu, kO P (qX (upA a cu t)) F) cu k (some v) = (σ, cu, kO P (qX (upA a cu (upN t k v))) F) := by
    unfold mSet
    refine Prod.ext rfl (Prod.ext rfl (funext fun c' => funext fun k' => ?_))
    show (if c' = cu ∧ k' = k then some v else kO P (qX (upA a cu t)) F c' k') = kO P (qX (upA a cu (upN t k v))) F c' k'
    by_cases z : c' = cu ∧ k' = k
    · obtain ⟨rfl, rfl⟩ := z
      rw [if_pos ⟨rfl, rfl⟩, kO_out hP, qX_at hc upA_at hk, upN_at]
    · rw [if_neg z]
      cases hp : P c' k' with
      | true => rw [kO_in hp, kO_in hp]
      | false =>
        rw [kO_out hp, kO_out hp]
        unfold qX
        by_cases y : ((c' = 2 ∨ c' = 3 ∨ c' = 4 ∨ c' = 5) ∧ tr k' = true) ∨ (c' = 20 ∨ c' = 17 ∨ (c' = 1 ∧ k' = 30))
        · rw [if_pos y, if_pos y]
          by_cases e : c' = cu
          · subst e
            rw [upA_at, upA_at]
            show some (t k') = some (upN t k v k')
            rw [upN_ne (fun w => z ⟨rfl, w⟩)]
          · rw [upA_ne e, upA_ne e]
        · rw [if_neg y, if_neg y]
  rw [← e]
  exact hG
/-- how many are listed -/
def nL (t : Nat → Int32) : Nat := ms (fun b => (K t (b : Int) 20).toNat) 24
theorem nL_lt {t t' : Nat → Int32} {b : Int} {v : Int32} (h0 : 0 ≤ b) (h1 : b ≤ 23) (h : K t b 20 = 1) (e : t' = upN t (ix b 20) v) (hv : v.toInt = 0) : nL t' < nL t := by
  refine ms_lt (b := b.toNat) (fun i hi => ?_) (by omega) ?_
  · show (t' (ix (i : Int) 20)).toInt.toNat ≤ (t (ix (i : Int) 20)).toInt.toNat
    by_cases z : (i : Int) = b
    · rw [e, z, upN_at]; omega
    · rw [e, upN_ne (fun y => z (ix_inj (by omega) (by decide) (by decide) h0 (by decide) (by decide) y).1)]
      exact Nat.le_refl _
  · show (t' (ix ((b.toNat : Nat) : Int) 20)).toInt.toNat < (t (ix ((b.toNat : Nat) : Int) 20)).toInt.toNat
    have h' : (t (ix b 20)).toInt = 1 := h
    rw [show ((b.toNat : Nat) : Int) = b by omega, e, upN_at]; omega
