/-! ===== copies of rows ===== -/
def PD (c2 c k : Nat) : Bool := c == c2
theorem PD_c {c k : Nat} : PD c c k = true := by unfold PD; simp
theorem PD_n {c2 c k : Nat} (h : ¬ c = c2) : PD c2 c k = false := by unfold PD; simp [h]
theorem tr_lt {k : Nat} (h : tr k = true) : k < 934 := by
  unfold tr at h
  simp at h
  omega
theorem cp_end {G : tG} {σ : Nat → Nat} {cu c2 : Nat} {a : Nat → Option (Nat → Int32)} {ta : Nat → Int32} {F : mF} {s : State} {H : Heap} {locs : List Loc} (hc2 : mCu c2) (h : ∀ k : Nat, k < 934 → tr k = true → F c2 k = ta k) (hG : mGH G (σ, cu, kO (PD c2) (qX a) F) s H locs) : mGH G (σ, cu, qX (upA a c2 ta)) s H locs :=
  mGH.le (Y := (σ, cu, kO (PD c2) (qX a) F)) (Y' := (σ, cu, qX (upA a c2 ta))) ⟨rfl, rfl, fun c k y e => by
    have e : qX (upA a c2 ta) c k = some y := e
    show kO (PD c2) (qX a) F c k = some y
    unfold qX at e
    by_cases z : c = c2
    · subst z
      by_cases w : ((c = 2 ∨ c = 3 ∨ c = 4 ∨ c = 5) ∧ tr k = true) ∨ (c = 20 ∨ c = 17 ∨ (c = 1 ∧ k = 30))
      · rw [if_pos w, upA_at] at e
        have e : some (ta k) = some y := e
        rcases w with w | w
        · rw [kO_in PD_c, h k (tr_lt w.2) w.2]; exact e
        · exact absurd w (mCu_20 hc2)
      · rw [if_neg w] at e; cases e
    · rw [kO_out (PD_n z)]
      rw [upA_ne z] at e
      exact e⟩ hG
theorem ush16 {x z : Int32} (e : z = (x.toUInt32 >>> ((16 : Int32).toUInt32 &&& Int32.toUInt32 31)).toInt32) : 0 ≤ z.toInt ∧ z.toInt ≤ 65535 := by
  have e1 : ((16 : Int32).toUInt32 &&& Int32.toUInt32 31) = 16 := by decide
  rw [e1] at e
  have h : (x.toUInt32 >>> 16).toNat < 65536 := by
    rw [UInt32.toNat_shiftRight]
    have := x.toUInt32.toNat_lt
    show x.toUInt32.toNat >>> 16 < 65536
    rw [Nat.shiftRight_eq_div_pow]
    omega
  have h2 : z.toInt = ((x.toUInt32 >>> 16).toNat : Int) := by
    rw [e]
    show ((x.toUInt32 >>> 16).toBitVec).toInt = _
    rw [BitVec.toInt_eq_toNat_of_lt]
    · rfl
    · show 2 * (x.toUInt32 >>> 16).toNat < 2 ^ 32
      omega
  omega
theorem tl_mul20 {x y z : Int64} (e : z = x * y) (h1 : 1 ≤ x.toInt) (h2 : x.toInt ≤ 3200000) (h3 : 1 ≤ y.toInt) (h4 : y.toInt ≤ 20) : 1 ≤ z.toInt ∧ z.toInt ≤ 20 * x.toInt := by
  have hb : 0 ≤ x.toInt * y.toInt := Int.mul_nonneg (by omega) (by omega)
  have hl : 1 * 1 ≤ x.toInt * y.toInt := Int.mul_le_mul h1 h3 (by decide) (by omega)
  have hu : x.toInt * y.toInt ≤ x.toInt * 20 := Int.mul_le_mul_of_nonneg_left h4 (by omega)
  have ez : z.toInt = x.toInt * y.toInt := by
    rw [e, Int64.toInt_mul]
    apply Int.bmod_eq_of_le <;> omega
  omega
theorem qn {σ : Nat → Nat} {cu c k : Nat} {a : Nat → Option (Nat → Int32)} (hc : ¬ mCu c) (h : ¬ (c = 20 ∨ c = 17 ∨ (c = 1 ∧ k = 30))) : ((σ, cu, qX a) : mY).2.2 c k = none := qX_nc hc h
