/-! ===== bits ===== -/
abbrev bS (o j : Int32) : Prop := ((o >>> (j &&& 31)) &&& 1).toInt = 1
theorem bS_k (o : Int32) (k : Nat) (hk : k < 8) : bS o (Int32.ofNat k) ↔ o.toBitVec.getLsbD k = true := by
  unfold bS
  have e : ((o >>> (Int32.ofNat k &&& 31)) &&& 1).toBitVec = if o.toBitVec.getLsbD k = true then 1#32 else 0#32 := by
    rw [Int32.toBitVec_and]
    have e1 : (o >>> (Int32.ofNat k &&& 31)).toBitVec = o.toBitVec.sshiftRight k := by
      rcases (show k = 0 ∨ k = 1 ∨ k = 2 ∨ k = 3 ∨ k = 4 ∨ k = 5 ∨ k = 6 ∨ k = 7 by omega) with e | e | e | e | e | e | e | e <;> subst e <;> rfl
    rw [e1]
    have e2 : ((1 : Int32).toBitVec) = 1#32 := rfl
    rw [e2, BitVec.and_one_eq_setWidth_ofBool_getLsbD]
    have e3 : (o.toBitVec.sshiftRight k).getLsbD 0 = o.toBitVec.getLsbD k := by
      rw [BitVec.getLsbD_sshiftRight]
      simp
      omega
    rw [e3]
    cases o.toBitVec.getLsbD k <;> rfl
  constructor
  · intro h
    cases hb : o.toBitVec.getLsbD k with
    | true => rfl
    | false =>
      rw [hb] at e
      have : (((o >>> (Int32.ofNat k &&& 31)) &&& 1)) = 0 := Int32.toBitVec_inj.mp (by rw [e]; rfl)
      rw [this] at h
      exact absurd h (by decide)
  · intro h
    rw [h] at e
    have : (((o >>> (Int32.ofNat k &&& 31)) &&& 1)) = 1 := Int32.toBitVec_inj.mp (by rw [e]; rfl)
    rw [this]; decide
theorem i8 {j : Int32} (h0 : 0 ≤ j.toInt) (h7 : j.toInt ≤ 7) : j = Int32.ofNat j.toInt.toNat ∧ j.toInt.toNat < 8 := by
  refine ⟨Int32.toInt_inj.mp ?_, by omega⟩
  rcases (show j.toInt = 0 ∨ j.toInt = 1 ∨ j.toInt = 2 ∨ j.toInt = 3 ∨ j.toInt = 4 ∨ j.toInt = 5 ∨ j.toInt = 6 ∨ j.toInt = 7 by omega) with e | e | e | e | e | e | e | e <;> rw [e] <;> decide
theorem bS_iff {o j : Int32} (h0 : 0 ≤ j.toInt) (h7 : j.toInt ≤ 7) : bS o j ↔ o.toBitVec.getLsbD j.toInt.toNat = true := by
  obtain ⟨e, h⟩ := i8 h0 h7
  have := bS_k o j.toInt.toNat h
  rw [← e] at this
  exact this
theorem b_and {o y j : Int32} (h0 : 0 ≤ j.toInt) (h7 : j.toInt ≤ 7) (h : bS (o &&& y) j) : bS o j := by
  rw [bS_iff h0 h7, Int32.toBitVec_and, BitVec.getLsbD_and, Bool.and_eq_true] at h
  exact (bS_iff h0 h7).mpr h.1
theorem b_not {o r j : Int32} (h0 : 0 ≤ j.toInt) (h7 : j.toInt ≤ 7) (hr : bS r j) : ¬ bS (o &&& (r ^^^ (-1))) j := fun h => by
  rw [bS_iff h0 h7, Int32.toBitVec_and, BitVec.getLsbD_and, Bool.and_eq_true, Int32.toBitVec_xor, BitVec.getLsbD_xor] at h
  rw [bS_iff h0 h7] at hr
  rw [hr] at h
  have e : (-1 : Int32).toBitVec.getLsbD j.toInt.toNat = true := by
    rcases (show j.toInt = 0 ∨ j.toInt = 1 ∨ j.toInt = 2 ∨ j.toInt = 3 ∨ j.toInt = 4 ∨ j.toInt = 5 ∨ j.toInt = 6 ∨ j.toInt = 7 by omega) with e | e | e | e | e | e | e | e <;> rw [e] <;> decide
  rw [e] at h
  exact absurd h.2 (by decide)
theorem b_or {r y j : Int32} (h0 : 0 ≤ j.toInt) (h7 : j.toInt ≤ 7) (h : bS r j) : bS (r ||| y) j := by
  rw [bS_iff h0 h7] at h ⊢
  rw [Int32.toBitVec_or, BitVec.getLsbD_or, h, Bool.true_or]
theorem b_sh {i j : Int32} (h0 : 0 ≤ j.toInt) (h7 : j.toInt ≤ 7) (g0 : 0 ≤ i.toInt) (g7 : i.toInt ≤ 7) : bS (1 <<< (i &&& 31)) j ↔ j = i := by
  have aux : ∀ a : Nat, a < 8 → ∀ b : Nat, b < 8 → (bS (1 <<< (Int32.ofNat a &&& 31)) (Int32.ofNat b) ↔ Int32.ofNat b = Int32.ofNat a) := by
    decide
  obtain ⟨e, h⟩ := i8 h0 h7
  obtain ⟨e2, h2⟩ := i8 g0 g7
  have := aux i.toInt.toNat h2 j.toInt.toNat h
  rw [← e, ← e2] at this
  exact this
theorem b_or1 {r i : Int32} (g0 : 0 ≤ i.toInt) (g7 : i.toInt ≤ 7) : bS (r ||| (1 <<< (i &&& 31))) i := by
  have h := (b_sh g0 g7 g0 g7).mpr rfl
  rw [bS_iff g0 g7] at h ⊢
  rw [Int32.toBitVec_or, BitVec.getLsbD_or, h, Bool.or_true]
theorem b_or2 {r i j : Int32} (h0 : 0 ≤ j.toInt) (h7 : j.toInt ≤ 7) (g0 : 0 ≤ i.toInt) (g7 : i.toInt ≤ 7) (h : bS (r ||| (1 <<< (i &&& 31))) j) : bS r j ∨ j = i := by
  by_cases hr : bS r j
  · exact Or.inl hr
  · refine Or.inr ((b_sh h0 h7 g0 g7).mp ?_)
    rw [bS_iff h0 h7] at h hr ⊢
    rw [Int32.toBitVec_or, BitVec.getLsbD_or, Bool.or_eq_true] at h
    rcases h with h | h
    · exact absurd h hr
    · exact h
theorem b_0 {j : Int32} (h0 : 0 ≤ j.toInt) (h7 : j.toInt ≤ 7) : ¬ bS 0 j := fun h => by
  rw [bS_iff h0 h7] at h
  rw [show (0 : Int32).toBitVec = 0#32 from rfl, BitVec.getLsbD_zero] at h
  exact absurd h (by decide)
/-- how many bits stand -/
def cO (o : Int32) : Nat := ms (fun j => if bS o (Int32.ofNat j) then 1 else 0) 8
def mO (o : Int32) : Nat := cO o + if o = 0 then 0 else 1
theorem ofN8 {k : Nat} (h : k < 8) : (Int32.ofNat k).toInt = k := by
  rcases (show k = 0 ∨ k = 1 ∨ k = 2 ∨ k = 3 ∨ k = 4 ∨ k = 5 ∨ k = 6 ∨ k = 7 by omega) with e | e | e | e | e | e | e | e <;> subst e <;> decide
theorem mO_lt {o r : Int32} (ho : ¬ o = 0) (h : r = o ∨ ∃ j : Int32, 0 ≤ j.toInt ∧ j.toInt ≤ 7 ∧ bS o j ∧ bS r j) : mO (o &&& (r ^^^ (-1))) < mO o := by
  unfold mO
  rw [if_neg ho]
  have hle : ∀ k, k < 8 → (if bS (o &&& (r ^^^ (-1))) (Int32.ofNat k) then 1 else 0 : Nat) ≤ if bS o (Int32.ofNat k) then 1 else 0 := fun k hk => by
    have e := ofN8 hk
    by_cases z : bS (o &&& (r ^^^ (-1))) (Int32.ofNat k)
    · rw [if_pos z, if_pos (b_and (by omega) (by omega) z)]; exact Nat.le_refl _
    · rw [if_neg z]; exact Nat.zero_le _
  rcases h with h | ⟨j, h0, h7, h1, h2⟩
  · have e : o &&& (r ^^^ (-1)) = 0 := by
      rw [h]
      apply Int32.toBitVec_inj.mp
      rw [Int32.toBitVec_and, Int32.toBitVec_xor]
      apply BitVec.eq_of_getLsbD_eq
      intro i hi
      rw [BitVec.getLsbD_and, BitVec.getLsbD_xor, show (-1 : Int32).toBitVec = BitVec.allOnes 32 from rfl, BitVec.getLsbD_allOnes, show (0 : Int32).toBitVec = 0#32 from rfl, BitVec.getLsbD_zero]
      simp [hi]
    rw [e, if_pos rfl]
    have : cO 0 ≤ cO o := by
      have h3 := ms_le hle
      rw [e] at h3
      exact h3
    omega
  · have hl : cO (o &&& (r ^^^ (-1))) < cO o := by
      obtain ⟨e, hk⟩ := i8 h0 h7
      refine ms_lt (b := j.toInt.toNat) hle hk ?_
      rw [← e, if_neg (b_not h0 h7 h2), if_pos h1]; decide
    split <;> omega
theorem b_ex {o : Int32} (h : o.toBitVec.toNat < 256) (h0 : ¬ o = 0) : ∃ j : Int32, 0 ≤ j.toInt ∧ j.toInt ≤ 7 ∧ bS o j := by
  by_cases z : ∃ k, k < 8 ∧ o.toBitVec.getLsbD k = true
  · obtain ⟨k, hk, hb⟩ := z
    have e := ofN8 hk
    exact ⟨Int32.ofNat k, by omega, by omega, (bS_k o k hk).mpr hb⟩
  · refine absurd (Int32.toBitVec_inj.mp ?_) h0
    apply BitVec.eq_of_getLsbD_eq
    intro i hi
    rw [show (0 : Int32).toBitVec = 0#32 from rfl, BitVec.getLsbD_zero]
    by_cases hk : i < 8
    · cases hb : o.toBitVec.getLsbD i with
      | false => rfl
      | true => exact absurd ⟨i, hk, hb⟩ z
    · show o.toBitVec.toNat.testBit i = false
      exact Nat.testBit_lt_two_pow (Nat.lt_of_lt_of_le h (Nat.pow_le_pow_right (n := 2) (by decide) (by omega : 8 ≤ i)))
theorem b_land {o y : Int32} (h : o.toBitVec.toNat < 256) : (o &&& y).toBitVec.toNat < 256 := by
  rw [Int32.toBitVec_and, BitVec.toNat_and]
  exact Nat.lt_of_le_of_lt Nat.and_le_left h
theorem b_lor {o i : Int32} (h : o.toBitVec.toNat < 256) (g0 : 0 ≤ i.toInt) (g7 : i.toInt ≤ 7) : (o ||| (1 <<< (i &&& 31))).toBitVec.toNat < 256 := by
  rw [Int32.toBitVec_or, BitVec.toNat_or]
  refine Nat.or_lt_two_pow (n := 8) h ?_
  obtain ⟨e, h2⟩ := i8 g0 g7
  have aux : ∀ a : Nat, a < 8 → (1 <<< (Int32.ofNat a &&& 31) : Int32).toBitVec.toNat < 2 ^ 8 := by decide
  have := aux i.toInt.toNat h2
  rw [← e] at this
  exact this
