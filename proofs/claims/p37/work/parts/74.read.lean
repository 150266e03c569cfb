/-! ===== reading: what is known on the way ===== -/
def PRd (c k : Nat) : Bool := (c == 1 && (k == 25 || k == 26 || k == 27 || k == 30 || k == 32)) || c == 15 || c == 17 || c == 18
theorem PRd_cu {cu : Nat} (h : mCu cu) (k : Nat) : PRd cu k = false := by
  rcases h with e | e | e | e <;> subst e <;> rfl
theorem PRd_tr {cu : Nat} (h : mCu cu) : ∀ k, tr k = true → PRd cu k = false := fun k _ => PRd_cu h k
theorem PRd_25 : PRd 1 25 = true := rfl
theorem PRd_26 : PRd 1 26 = true := rfl
theorem PRd_27 : PRd 1 27 = true := rfl
theorem PRd_30 : PRd 1 30 = true := rfl
theorem PRd_32 : PRd 1 32 = true := rfl
theorem PRd_15 {k : Nat} : PRd 15 k = true := rfl
theorem PRd_17 {k : Nat} : PRd 17 k = true := rfl
theorem PRd_18 {k : Nat} : PRd 18 k = true := rfl
theorem PRd_qn {a : Nat → Option (Nat → Int32)} (h17 : a 17 = none) (h1 : a 1 = none) (c k : Nat) (h : PRd c k = true) : qX a c k = none := by
  unfold PRd at h
  simp at h
  unfold qX
  by_cases z : ((c = 2 ∨ c = 3 ∨ c = 4 ∨ c = 5) ∧ tr k = true) ∨ (c = 20 ∨ c = 17 ∨ (c = 1 ∧ k = 30))
  · rw [if_pos z]
    have hc : c = 17 ∨ c = 1 := by omega
    rcases hc with e | e
    · rw [e, h17]; rfl
    · rw [e, h1]; rfl
  · rw [if_neg z]
/-- place and badness alone may have changed -/
def mRN (F F' : mF) : Prop := ∀ c k : Nat, ¬ (c = 1 ∧ (k = 26 ∨ k = 27)) → F' c k = F c k
theorem mRN.refl {F : mF} : mRN F F := fun _ _ _ => rfl
theorem mRN.trans {F F' F'' : mF} (h : mRN F F') (h' : mRN F' F'') : mRN F F'' := fun c k q => (h' c k q).trans (h c k q)
theorem mRN.put {F F' F'' : mF} {k : Nat} {v : Int32} (h : mRN F F') (hk : k = 26 ∨ k = 27) (e : F'' = up2 F' 1 k v) : mRN F F'' := fun c j q => by
  rw [e, up2_ne (fun z => q ⟨z.1, by omega⟩)]; exact h c j q
def cn (F : mF) (j : Int) : Nat → Int
  | 0 => 0
  | n + 1 => cn F j n + if (F 17 (8 * n + 6)).toInt = j then 1 else 0
theorem cn_eq {F F' : mF} {j : Int} {n : Nat} (h : ∀ i, i < n → F' 17 (8 * i + 6) = F 17 (8 * i + 6)) : cn F' j n = cn F j n := by
  induction n with
  | zero => rfl
  | succ n ih =>
    show cn F' j n + _ = cn F j n + _
    rw [ih (fun i hi => h i (by omega)), h n (by omega)]
theorem cn_0 {F : mF} {j : Int} {n : Nat} (h : ∀ i, i < n → ¬ (F 17 (8 * i + 6)).toInt = j) : cn F j n = 0 := by
  induction n with
  | zero => rfl
  | succ n ih =>
    show cn F j n + _ = 0
    rw [ih (fun i hi => h i (by omega)), if_neg (h n (by omega))]; rfl
theorem cn_nn {F : mF} {j : Int} {n : Nat} : 0 ≤ cn F j n := by
  induction n with
  | zero => exact Int.le_refl _
  | succ n ih => show 0 ≤ cn F j n + _; split <;> omega
theorem cn_le {F : mF} {j : Int} {n m : Nat} (h : n ≤ m) : cn F j n ≤ cn F j m := by
  induction m with
  | zero => have : n = 0 := by omega
            subst this; exact Int.le_refl _
  | succ m ih =>
    by_cases e : n = m + 1
    · subst e; exact Int.le_refl _
    · have := ih (by omega)
      show cn F j n ≤ cn F j m + _
      split <;> omega
/-- the boxes that are read: who holds whom, how many each holds -/
def RD (F : mF) (n : Int) : Prop := ∀ i : Nat, (i : Int) < n → ((i = 0 ∧ (F 17 (8 * i + 6)).toInt = -1) ∨ (1 ≤ i ∧ 0 ≤ (F 17 (8 * i + 6)).toInt ∧ (F 17 (8 * i + 6)).toInt < (i : Int))) ∧ ((F 17 (8 * i)).toInt = 6 → 1 ≤ (F 17 (8 * i + 1)).toInt ∧ 1 ≤ (F 17 (8 * i + 2)).toInt) ∧ (F 17 (8 * i + 7)).toInt = cn F (i : Int) n.toNat ∧ (F 17 (8 * i + 7)).toInt ≤ 8
def RW (F : mF) (w n : Int) : Prop := ∀ i : Nat, (i : Int) < w → 0 ≤ (F 18 i).toInt ∧ (F 18 i).toInt < n
/-- before a box -/
def RV (cm : Int) (F : mF) : Prop := 0 ≤ (F 1 30).toInt ∧ cm + (F 1 30).toInt ≤ 24 ∧ 0 ≤ (F 1 32).toInt ∧ (F 1 32).toInt ≤ (F 1 30).toInt ∧ ((F 1 30).toInt = 0 ∨ 1 ≤ (F 1 32).toInt) ∧ RW F (F 1 32).toInt (F 1 30).toInt ∧ RD F (F 1 30).toInt
/-- behind a box -/
def RA (cm : Int) (F : mF) : Prop := 1 ≤ (F 1 30).toInt ∧ cm + (F 1 30).toInt ≤ 24 ∧ 0 ≤ (F 1 32).toInt ∧ (F 1 32).toInt < (F 1 30).toInt ∧ RW F (F 1 32).toInt (F 1 30).toInt ∧ RD F (F 1 30).toInt
theorem RD_0 {F : mF} {n : Int} (h : n ≤ 0) : RD F n := fun i hi => by omega
theorem RV_RN {cm : Int} {F F' : mF} (h : RV cm F) (hn : mRN F F') : RV cm F' := by
  have e30 : F' 1 30 = F 1 30 := hn 1 30 (by omega)
  have e32 : F' 1 32 = F 1 32 := hn 1 32 (by omega)
  have e17 : F' 17 = F 17 := funext fun k => hn 17 k (by omega)
  have e18 : F' 18 = F 18 := funext fun k => hn 18 k (by omega)
  unfold RV RW RD at *
  have ec : ∀ j n, cn F' j n = cn F j n := fun j n => cn_eq (fun i _ => by rw [e17])
  rw [e30, e32, e17, e18]
  simp only [ec]
  exact h
theorem RA_RN {cm : Int} {F F' : mF} (h : RA cm F) (hn : mRN F F') : RA cm F' := by
  have e30 : F' 1 30 = F 1 30 := hn 1 30 (by omega)
  have e32 : F' 1 32 = F 1 32 := hn 1 32 (by omega)
  have e17 : F' 17 = F 17 := funext fun k => hn 17 k (by omega)
  have e18 : F' 18 = F 18 := funext fun k => hn 18 k (by omega)
  unfold RA RW RD at *
  have ec : ∀ j n, cn F' j n = cn F j n := fun j n => cn_eq (fun i _ => by rw [e17])
  rw [e30, e32, e17, e18]
  simp only [ec]
  exact h
/-- in the midst of box n: its own row alone has changed -/
def RB (F F' : mF) (n : Nat) : Prop := ∀ c k : Nat, ¬ (c = 1 ∧ (k = 26 ∨ k = 27)) → ¬ (c = 17 ∧ 8 * n ≤ k ∧ k < 8 * n + 8) → F' c k = F c k
theorem RB.rn {F F' F'' : mF} {n : Nat} (h : RB F F' n) (h' : mRN F' F'') : RB F F'' n := fun c k q1 q2 => (h' c k q1).trans (h c k q1 q2)
theorem RB.put {F F' F'' : mF} {n j : Nat} {v : Int32} (h : RB F F' n) (h1 : 8 * n ≤ j) (h2 : j < 8 * n + 8) (e : F'' = up2 F' 17 j v) : RB F F'' n := fun c k q1 q2 => by
  rw [e, up2_ne (fun z => q2 ⟨z.1, by omega, by omega⟩)]; exact h c k q1 q2
theorem RB.bad {F F' F'' : mF} {n k : Nat} {v : Int32} (h : RB F F' n) (hk : k = 26 ∨ k = 27) (e : F'' = up2 F' 1 k v) : RB F F'' n := fun c j q1 q2 => by
  rw [e, up2_ne (fun z => q1 ⟨z.1, by omega⟩)]; exact h c j q1 q2
theorem RB.refl {F : mF} {n : Nat} : RB F F n := fun _ _ _ _ => rfl
/-- a box is read, and stands -/
theorem RA_box {cm : Int} {F F6 F7 F8 F9 : mF} {n : Nat} {o c v : Int32} (h : RV cm F) (hn : (n : Int) = (F 1 30).toInt) (hc : cm + (n : Int) < 24) (hb : RB F F6 n) (h7 : (F6 17 (8 * n + 7)).toInt = 0) (h6 : (F6 17 (8 * n)).toInt = 6 → 1 ≤ (F6 17 (8 * n + 1)).toInt ∧ 1 ≤ (F6 17 (8 * n + 2)).toInt)
    (ho : (o.toInt = -1 ∧ (F 1 32).toInt ≤ 0 ∧ F7 = F6) ∨ (0 ≤ o.toInt ∧ 1 ≤ (F 1 32).toInt ∧ o = F 18 ((F 1 32).toInt - 1).toNat ∧ F7 = up2 F6 17 (8 * o.toInt.toNat + 7) c ∧ c.toInt = (F6 17 (8 * o.toInt.toNat + 7)).toInt + 1 ∧ c.toInt ≤ 8))
    (e8 : F8 = up2 F7 17 (8 * n + 6) o) (e9 : F9 = up2 F8 1 30 v) (hv : v.toInt = (n : Int) + 1) : RA cm F9 := by
  obtain ⟨r1, r2, r3, r4, r5, r6, r7⟩ := h
  have g30 : (F9 1 30).toInt = (n : Int) + 1 := by rw [e9, up2_at]; exact hv
  have k32 : F9 1 32 = F 1 32 := by
    rw [e9, up2_ne (by decide), e8, up2_ne (by omega)]
    have h67 : F7 1 32 = F6 1 32 := by
      rcases ho with ⟨-, -, e⟩ | ⟨-, -, -, e, -⟩
      · rw [e]
      · rw [e, up2_ne (by omega)]
    rw [h67, hb 1 32 (by omega) (by omega)]
  have k18 : F9 18 = F 18 := funext fun k => by
    rw [e9, up2_ne (by omega), e8, up2_ne (by omega)]
    have h67 : F7 18 k = F6 18 k := by
      rcases ho with ⟨-, -, e⟩ | ⟨-, -, -, e, -⟩
      · rw [e]
      · rw [e, up2_ne (by omega)]
    rw [h67, hb 18 k (by omega) (by omega)]
  have hon : o.toInt < (n : Int) ∧ -1 ≤ o.toInt ∧ ((o.toInt = -1 ∧ n = 0) ∨ (0 ≤ o.toInt ∧ 1 ≤ n)) := by
    rcases ho with ⟨q1, q2, -⟩ | ⟨q1, q2, q3, -⟩
    · omega
    · have := r6 ((F 1 32).toInt - 1).toNat (by omega)
      rw [← q3] at this
      omega
  have k17 : ∀ k : Nat, k < 8 * n → ¬ k = 8 * o.toInt.toNat + 7 ∨ o.toInt < 0 → F9 17 k = F 17 k := fun k q1 q2 => by
    rw [e9, up2_ne (by omega), e8, up2_ne (by omega)]
    have h67 : F7 17 k = F6 17 k := by
      rcases ho with ⟨-, -, e⟩ | ⟨q, -, -, e, -⟩
      · rw [e]
      · rw [e, up2_ne (by omega)]
    rw [h67, hb 17 k (by omega) (by omega)]
  have n6 : F9 17 (8 * n + 6) = o := by rw [e9, up2_ne (by omega), e8, up2_at]
  have kn : ∀ j : Nat, j < 8 → ¬ j = 6 → F9 17 (8 * n + j) = F6 17 (8 * n + j) := fun j q1 q2 => by
    rw [e9, up2_ne (by omega), e8, up2_ne (by omega)]
    rcases ho with ⟨-, -, e⟩ | ⟨q, -, -, e, -⟩
    · rw [e]
    · rw [e, up2_ne (by omega)]
  have o6 : ∀ i : Nat, i < n → F9 17 (8 * i + 6) = F 17 (8 * i + 6) := fun i hi => k17 _ (by omega) (Or.inl (by omega))
  have ecn : ∀ j : Int, cn F9 j n = cn F j n := fun j => cn_eq (fun i hi => o6 i hi)
  have ecs : ∀ j : Int, cn F9 j (n + 1) = cn F j n + if o.toInt = j then 1 else 0 := fun j => by
    show cn F9 j n + (if (F9 17 (8 * n + 6)).toInt = j then 1 else 0) = _
    rw [ecn j, n6]
  refine ⟨by omega, by omega, by rw [k32]; exact r3, by rw [k32]; omega, fun i hi => ?_, fun i hi => ?_⟩
  · rw [k32] at hi
    rw [k18, g30]
    have := r6 i hi
    omega
  · rw [g30] at hi ⊢
    rw [show ((n : Int) + 1).toNat = n + 1 by omega, ecs]
    by_cases z : i = n
    · subst z
      have k0 := kn 0 (by decide) (by decide)
      have k1 := kn 1 (by decide) (by decide)
      have k2 := kn 2 (by decide) (by decide)
      have k7 := kn 7 (by decide) (by decide)
      rw [Nat.add_zero] at k0
      refine ⟨?_, ?_, ?_, ?_⟩
      · rw [n6]; omega
      · rw [k0, k1, k2]; exact h6
      · rw [k7, h7, cn_0 (fun j hj => by have := (r7 j (by omega)).1; omega), if_neg (by omega)]; rfl
      · rw [k7, h7]; decide
    · have hr := r7 i (by omega)
      have k0 := k17 (8 * i) (by omega) (Or.inl (by omega))
      have k1 := k17 (8 * i + 1) (by omega) (Or.inl (by omega))
      have k2 := k17 (8 * i + 2) (by omega) (Or.inl (by omega))
      rw [o6 i (by omega), k0, k1, k2]
      refine ⟨hr.1, hr.2.1, ?_⟩
      have hr7 := hr.2.2
      rw [show (F 1 30).toInt.toNat = n by omega] at hr7
      by_cases y : o.toInt = (i : Int)
      · rw [if_pos y]
        rcases ho with ⟨q1, -, -⟩ | ⟨q1, q2, q3, q4, q5, q6⟩
        · omega
        · have ei : 8 * o.toInt.toNat + 7 = 8 * i + 7 := by omega
          have e9i : F9 17 (8 * i + 7) = c := by
            rw [e9, up2_ne (by omega), e8, up2_ne (by omega), q4, ei, up2_at]
          have e6i : F6 17 (8 * i + 7) = F 17 (8 * i + 7) := hb 17 _ (by omega) (by omega)
          rw [ei, e6i] at q5
          rw [e9i]
          omega
      · rw [if_neg y, k17 (8 * i + 7) (by omega) (Or.inl (by omega))]
        omega
theorem rR_at {i : Int32} {q r : Int} (h : i.toInt = 8 * q + r) (h0 : 0 ≤ q) (h1 : 0 ≤ r) (h2 : r < 8) : rR i.toNatClampNeg = rR r.toNat := by
  have e : i.toNatClampNeg = 8 * q.toNat + r.toNat := by show i.toInt.toNat = _; omega
  unfold rR
  rw [e, Nat.mul_add_mod, Nat.mod_eq_of_lt (by omega : r.toNat < 8)]
theorem rR_0 {i : Nat} : (rR i).1 ≤ 0 ∧ 0 ≤ (rR i).2 := by
  have aux : ∀ k, k < 8 → (rR k).1 ≤ 0 ∧ 0 ≤ (rR k).2 := by decide
  have e : rR i = rR (i % 8) := by unfold rR; rw [Nat.mod_mod]
  rw [e]; exact aux _ (Nat.mod_lt _ (by decide))
def RSh (F F' : mF) (n : Nat) : Prop := ∀ c k : Nat, ¬ (c = 1 ∧ (k = 26 ∨ k = 27)) → ¬ (c = 17 ∧ k = 8 * n + 5) → F' c k = F c k
theorem mRN.sh {F F' : mF} {n : Nat} (h : mRN F F') : RSh F F' n := fun c k q _ => h c k q
