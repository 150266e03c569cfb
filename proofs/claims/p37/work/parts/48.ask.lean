/-! ===== asking: the stack of who is asked ===== -/
def mem (k : Nat) : Bool := Nat.ble 22 k && Nat.blt k 934 && ((k - 22) % 38 == 21)
theorem mem_y {b : Int} (h1 : 0 ≤ b) (h2 : b ≤ 23) : mem (ix b 21) = true := by
  obtain ⟨e1, e2⟩ := ix_mod h1 (by decide : (0 : Int) ≤ 21) (by decide)
  have e3 : ix b 21 < 934 := by unfold ix; omega
  unfold mem
  rw [e1, Nat.ble_eq_true_of_le e2, show Nat.blt (ix b 21) 934 = true from Nat.ble_eq_true_of_le e3]; rfl
theorem mem_e {k : Nat} (h : mem k = true) : ∃ b : Int, 0 ≤ b ∧ b ≤ 23 ∧ k = ix b 21 := by
  unfold mem at h
  simp at h
  have h3 := h.2
  refine ⟨(((k - 22) / 38 : Nat) : Int), by omega, by omega, ?_⟩
  unfold ix
  omega
theorem mem_n {b k : Int} (h1 : 0 ≤ b) (h2 : 0 ≤ k) (h3 : k ≤ 37) (h4 : ¬ k = 21) : mem (ix b k) = false := by
  obtain ⟨e1, e2⟩ := ix_mod h1 h2 h3
  unfold mem
  rw [e1, show (k.toNat == 21) = false from beq_false_of_ne (by omega)]; simp
theorem mem_tr {k : Nat} (h : tr k = true) : mem k = false := by
  cases hm : mem k with
  | false => rfl
  | true =>
    unfold mem at hm
    simp at hm
    unfold tr at h
    rw [hm.2] at h
    have h2 := hm.1.1
    simp at h
    omega
def PA (cu c k : Nat) : Bool := c == 6 || c == 7 || (c == cu && mem k)
theorem PA_tr {cu : Nat} (h : mCu cu) : ∀ k, tr k = true → PA cu cu k = false := fun k hk => by
  unfold PA
  rw [mem_tr hk]
  rcases h with e | e | e | e <;> subst e <;> rfl
theorem PA_6 {cu k : Nat} : PA cu 6 k = true := rfl
theorem PA_7 {cu k : Nat} : PA cu 7 k = true := by unfold PA; simp
theorem PA_m {cu : Nat} {b : Int} (h1 : 0 ≤ b) (h2 : b ≤ 23) : PA cu cu (ix b 21) = true := by unfold PA; rw [mem_y h1 h2]; simp
theorem PA_k {cu : Nat} {b k : Int} (hc : mCu cu) (h1 : 0 ≤ b) (h2 : 0 ≤ k) (h3 : k ≤ 37) (h4 : ¬ k = 21) : PA cu cu (ix b k) = false := by
  unfold PA
  rw [mem_n h1 h2 h3 h4]
  rcases hc with e | e | e | e <;> subst e <;> rfl
theorem PA_1 {cu k : Nat} (hc : mCu cu) : PA cu 1 k = false := by
  unfold PA
  rcases hc with e | e | e | e <;> subst e <;> rfl
theorem PA_none {σ : Nat → Nat} {cu : Nat} {X : mX} (hA : mAV (σ, cu, X)) (c k : Nat) (h : PA cu c k = true) : X c k = none := by
  unfold PA at h
  simp at h
  rcases h with (h | h) | h
  · exact hA.1 c k (by omega)
  · exact hA.1 c k (by omega)
  · obtain ⟨b, h1, h2, e⟩ := mem_e h.2
    rw [h.1, e]; exact hA.2.2 b 21 h1 h2 (by decide) (by decide)
def bU (m w : Int32) : Prop := ((m >>> (w &&& 31)) &&& 1).toInt = 0
def uM (m : Int32) : Nat := if m.toInt = 0 then 2 else if m.toInt = 3 then 0 else 1
theorem i4 {m : Int32} (h1 : 0 ≤ m.toInt) (h2 : m.toInt ≤ 3) : m = 0 ∨ m = 1 ∨ m = 2 ∨ m = 3 := by
  rcases (show m.toInt = 0 ∨ m.toInt = 1 ∨ m.toInt = 2 ∨ m.toInt = 3 by omega) with h | h | h | h
  · exact Or.inl (Int32.toInt_inj.mp (by rw [h]; decide))
  · exact Or.inr (Or.inl (Int32.toInt_inj.mp (by rw [h]; decide)))
  · exact Or.inr (Or.inr (Or.inl (Int32.toInt_inj.mp (by rw [h]; decide))))
  · exact Or.inr (Or.inr (Or.inr (Int32.toInt_inj.mp (by rw [h]; decide))))
theorem i2 {m : Int32} (h1 : 0 ≤ m.toInt) (h2 : m.toInt ≤ 1) : m = 0 ∨ m = 1 := by
  rcases (show m.toInt = 0 ∨ m.toInt = 1 by omega) with h | h
  · exact Or.inl (Int32.toInt_inj.mp (by rw [h]; decide))
  · exact Or.inr (Int32.toInt_inj.mp (by rw [h]; decide))
theorem bU_or {m w : Int32} (h1 : 0 ≤ m.toInt) (h2 : m.toInt ≤ 3) (h3 : 0 ≤ w.toInt) (h4 : w.toInt ≤ 1) : 0 ≤ (m ||| (1 <<< (w &&& 31))).toInt ∧ (m ||| (1 <<< (w &&& 31))).toInt ≤ 3 ∧ (bU m w → uM (m ||| (1 <<< (w &&& 31))) < uM m) := by
  rcases i4 h1 h2 with e | e | e | e <;> rcases i2 h3 h4 with e2 | e2 <;> subst e <;> subst e2 <;> (unfold bU uM; decide)
/-- each on the stack came, and hasn't told what it is asked -/
def AI (cu : Nat) (t3 : Int) (F : mF) (d : Int) : Prop := Stk (F 6) d ∧ ∀ i : Nat, (i : Int) < d → (F 6 i).toInt < t3 ∧ bU (F cu (ix (F 6 i).toInt 21)) (F 7 i)
def AM (cu : Nat) (F : mF) (d : Int) : Nat := 31 * ms (fun b => uM (F cu (ix (b : Int) 21))) 24 + (30 - d).toNat
theorem AI_one {cu : Nat} {t3 : Int} {F F1 F2 : mF} {c w : Int32} (hcu : mCu cu) (e1 : F1 = up2 F 6 0 c) (e2 : F2 = up2 F1 7 0 w) (h0 : 0 ≤ c.toInt) (h23 : c.toInt ≤ 23) (ht : c.toInt < t3) (hb : bU (F cu (ix c.toInt 21)) w) : AI cu t3 F2 1 := by
  have hc6 : ¬ cu = 6 ∧ ¬ cu = 7 := by rcases hcu with e | e | e | e <;> subst e <;> decide
  have g6 : F2 6 0 = c := by rw [e2, up2_ne (by decide), e1, up2_at]
  have g7 : F2 7 0 = w := by rw [e2, up2_at]
  have gc : F2 cu = F cu := by rw [e2, up2_nc hc6.2, e1, up2_nc hc6.1]
  refine ⟨Stk.one (by rw [g6]; exact h0) (by rw [g6]; exact h23), fun i hi => ?_⟩
  have e : i = 0 := by omega
  subst e
  rw [g6, g7, gc]
  exact ⟨ht, hb⟩
theorem AI_push {cu : Nat} {t3 d : Int} {F F1 F2 : mF} {n : Nat} {c w : Int32} (h : AI cu t3 F d) (hd : 1 ≤ d) (hcu : mCu cu) (hn : (n : Int) = d) (e1 : F1 = up2 F 6 n c) (e2 : F2 = up2 F1 7 n w) (hc : (F 6 (d - 1).toNat).toInt < c.toInt) (h23 : c.toInt ≤ 23) (ht : c.toInt < t3) (hb : bU (F cu (ix c.toInt 21)) w) : AI cu t3 F2 (d + 1) ∧ AM cu F2 (d + 1) < AM cu F d := by
  have hc6 : ¬ cu = 6 ∧ ¬ cu = 7 := by rcases hcu with e | e | e | e <;> subst e <;> decide
  have hle := h.1.le
  have g6 : F2 6 n = c := by rw [e2, up2_ne (by omega), e1, up2_at]
  have g7 : F2 7 n = w := by rw [e2, up2_at]
  have gc : F2 cu = F cu := by rw [e2, up2_nc hc6.2, e1, up2_nc hc6.1]
  have o6 : ∀ i : Nat, (i : Int) < d → F2 6 i = F 6 i := fun i hi => by rw [e2, up2_ne (by omega), e1, up2_ne (by omega)]
  have o7 : ∀ i : Nat, (i : Int) < d → F2 7 i = F 7 i := fun i hi => by rw [e2, up2_ne (by omega), e1, up2_ne (by omega)]
  have en : (d - 1).toNat + 1 = n := by omega
  refine ⟨⟨Stk.push (L' := F2 6) (n := (d - 1).toNat) h.1 (by omega) o6 (by rw [en, g6]; exact hc) (by rw [en, g6]; exact h23), fun i hi => ?_⟩, ?_⟩
  · by_cases e : i = n
    · subst e
      rw [g6, g7, gc]; exact ⟨ht, hb⟩
    · rw [o6 i (by omega), o7 i (by omega), gc]; exact h.2 i (by omega)
  · unfold AM
    rw [gc]
    omega
theorem AI_pop {cu : Nat} {t3 d : Int} {F F1 : mF} {n : Nat} {a m w : Int32} (h : AI cu t3 F d) (hd : 1 ≤ d) (hcu : mCu cu) (hn : (n : Int) = d - 1) (ea : a = F 6 n) (em : m = F cu (ix a.toInt 21)) (ew : w = F 7 n) (h1 : 0 ≤ m.toInt) (h2 : m.toInt ≤ 3) (h3 : 0 ≤ w.toInt) (h4 : w.toInt ≤ 1) (e1 : F1 = up2 F cu (ix a.toInt 21) (m ||| (1 <<< (w &&& 31)))) : AI cu t3 F1 (d - 1) ∧ AM cu F1 (d - 1) < AM cu F d := by
  have hc6 : ¬ 6 = cu ∧ ¬ 7 = cu := by rcases hcu with e | e | e | e <;> subst e <;> decide
  have g6 : F1 6 = F 6 := by rw [e1, up2_nc hc6.1]
  have g7 : F1 7 = F 7 := by rw [e1, up2_nc hc6.2]
  have hle := h.1.le
  have ha := h.1 n (by omega)
  rw [← ea] at ha
  have hb := (h.2 n (by omega)).2
  rw [← ea, ← em, ← ew] at hb
  have hu := (bU_or h1 h2 h3 h4).2.2 hb
  refine ⟨⟨by rw [g6]; exact h.1.pop (by omega), fun i hi => ?_⟩, ?_⟩
  · rw [g6, g7, e1, up2_ne (fun z => ?_)]
    · exact h.2 i (by omega)
    · have hlt := ha.2.2 i (by omega)
      have hi0 := h.1 i (by omega)
      have := (ix_inj (by omega) (by decide) (by decide) (by omega) (by decide) (by decide) z.2).1
      omega
  · unfold AM
    have hl : ms (fun b => uM (F1 cu (ix (b : Int) 21))) 24 < ms (fun b => uM (F cu (ix (b : Int) 21))) 24 := by
      refine ms_lt (b := a.toInt.toNat) (fun i hi => ?_) (by omega) ?_
      · show uM (F1 cu (ix (i : Int) 21)) ≤ uM (F cu (ix (i : Int) 21))
        by_cases z : (i : Int) = a.toInt
        · rw [e1, z, up2_at, ← em]; omega
        · rw [e1, up2_ne (fun y => z (ix_inj (by omega) (by decide) (by decide) (by omega) (by decide) (by decide) y.2).1)]
          exact Nat.le_refl _
      · show uM (F1 cu (ix ((a.toInt.toNat : Nat) : Int) 21)) < uM (F cu (ix ((a.toInt.toNat : Nat) : Int) 21))
        rw [show ((a.toInt.toNat : Nat) : Int) = a.toInt by omega, e1, up2_at, ← em]
        exact hu
    omega
theorem AI_0 {cu : Nat} {t3 : Int} {F : mF} : AI cu t3 F (0 : Int32).toInt := ⟨fun i hi => by have k0 := kI_0; omega, fun i hi => by have k0 := kI_0; omega⟩
