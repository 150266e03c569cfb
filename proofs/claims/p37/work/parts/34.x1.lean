/-! ===== bits and kinds, exactly ===== -/
def tB (x : Int32) (n : Nat) : Prop := x.toBitVec.getLsbD n = true
theorem i32k {j : Int32} (h0 : 0 ≤ j.toInt) (h7 : j.toInt ≤ 23) : j = Int32.ofNat j.toInt.toNat ∧ j.toInt.toNat < 24 := by
  have h : ∀ k, k < 24 → (Int32.ofNat k).toInt = (k : Int) := by decide
  refine ⟨Int32.toInt_inj.mp ?_, by omega⟩
  rw [h _ (by omega)]; omega
theorem tB_sh (x : Int32) (k : Nat) (hk : k < 24) : (((x.toUInt32 >>> ((Int32.ofNat k).toUInt32 &&& Int32.toUInt32 31)).toInt32) &&& 1).toBitVec = if x.toBitVec.getLsbD k = true then 1#32 else 0#32 := by
  rw [Int32.toBitVec_and]
  have e1 : ((x.toUInt32 >>> ((Int32.ofNat k).toUInt32 &&& Int32.toUInt32 31)).toInt32).toBitVec = x.toBitVec >>> k := by
    rcases (show k = 0 ∨ k = 1 ∨ k = 2 ∨ k = 3 ∨ k = 4 ∨ k = 5 ∨ k = 6 ∨ k = 7 ∨ k = 8 ∨ k = 9 ∨ k = 10 ∨ k = 11 ∨ k = 12 ∨ k = 13 ∨ k = 14 ∨ k = 15 ∨ k = 16 ∨ k = 17 ∨ k = 18 ∨ k = 19 ∨ k = 20 ∨ k = 21 ∨ k = 22 ∨ k = 23 by omega) with e | e | e | e | e | e | e | e | e | e | e | e | e | e | e | e | e | e | e | e | e | e | e | e <;> subst e <;> rfl
  rw [e1]
  have e2 : ((1 : Int32).toBitVec) = 1#32 := rfl
  rw [e2, BitVec.and_one_eq_setWidth_ofBool_getLsbD]
  have e3 : (x.toBitVec >>> k).getLsbD 0 = x.toBitVec.getLsbD k := by
    rw [BitVec.getLsbD_ushiftRight]
    simp
  rw [e3]
  cases x.toBitVec.getLsbD k <;> rfl
theorem tB_get {x y z w : Int32} (h0 : 0 ≤ y.toInt) (h1 : y.toInt ≤ 23) (ez : z = (x.toUInt32 >>> (y.toUInt32 &&& Int32.toUInt32 31)).toInt32) (ew : w = z &&& 1) : (w.toInt = 1 ∧ tB x y.toInt.toNat) ∨ (w.toInt = 0 ∧ ¬ tB x y.toInt.toNat) := by
  obtain ⟨e, hk⟩ := i32k h0 h1
  have h := tB_sh x y.toInt.toNat hk
  rw [← e, ← ez, ← ew] at h
  unfold tB
  by_cases hb : x.toBitVec.getLsbD y.toInt.toNat = true
  · rw [if_pos hb] at h
    have : w = 1 := Int32.toBitVec_inj.mp (by rw [h]; rfl)
    exact Or.inl ⟨by rw [this]; decide, hb⟩
  · rw [if_neg hb] at h
    have : w = 0 := Int32.toBitVec_inj.mp (by rw [h]; rfl)
    exact Or.inr ⟨by rw [this]; decide, hb⟩
theorem tB_one {k n : Nat} (hk : k < 24) : (1 <<< (Int32.ofNat k &&& 31) : Int32).toBitVec.getLsbD n = decide (n = k) := by
  have e1 : (1 <<< (Int32.ofNat k &&& 31) : Int32).toBitVec = BitVec.twoPow 32 k := by
    rcases (show k = 0 ∨ k = 1 ∨ k = 2 ∨ k = 3 ∨ k = 4 ∨ k = 5 ∨ k = 6 ∨ k = 7 ∨ k = 8 ∨ k = 9 ∨ k = 10 ∨ k = 11 ∨ k = 12 ∨ k = 13 ∨ k = 14 ∨ k = 15 ∨ k = 16 ∨ k = 17 ∨ k = 18 ∨ k = 19 ∨ k = 20 ∨ k = 21 ∨ k = 22 ∨ k = 23 by omega) with e | e | e | e | e | e | e | e | e | e | e | e | e | e | e | e | e | e | e | e | e | e | e | e <;> subst e <;> rfl
  rw [e1, BitVec.getLsbD_twoPow]
  by_cases h : n = k
  · subst h; simp; omega
  · simp [h, Ne.symm h]
theorem tB_or {x y : Int32} {n : Nat} (h0 : 0 ≤ y.toInt) (h1 : y.toInt ≤ 23) : tB (x ||| (1 <<< (y &&& 31))) n ↔ tB x n ∨ n = y.toInt.toNat := by
  obtain ⟨e, hk⟩ := i32k h0 h1
  have h := tB_one (n := n) hk
  rw [← e] at h
  unfold tB
  rw [Int32.toBitVec_or, BitVec.getLsbD_or, h]
  simp
theorem tB_and {x y : Int32} {n : Nat} (h0 : 0 ≤ y.toInt) (h1 : y.toInt ≤ 23) : tB (x &&& ((1 <<< (y &&& 31)) ^^^ -1)) n ↔ tB x n ∧ n ≠ y.toInt.toNat := by
  obtain ⟨e, hk⟩ := i32k h0 h1
  have h := tB_one (n := n) hk
  rw [← e] at h
  unfold tB
  rw [Int32.toBitVec_and, BitVec.getLsbD_and, Int32.toBitVec_xor, BitVec.getLsbD_xor, h]
  have e2 : ((-1 : Int32).toBitVec) = BitVec.allOnes 32 := rfl
  rw [e2, BitVec.getLsbD_allOnes]
  by_cases hn : n < 32
  · by_cases hk2 : n = y.toInt.toNat
    · rw [show decide (n = y.toInt.toNat) = true from decide_eq_true hk2, show decide (n < 32) = true from decide_eq_true hn]
      constructor
      · intro z; simp at z
      · intro z; exact absurd hk2 z.2
    · rw [show decide (n = y.toInt.toNat) = false from decide_eq_false hk2, show decide (n < 32) = true from decide_eq_true hn]
      constructor
      · intro z; exact ⟨by simpa using z, hk2⟩
      · intro z; simpa using z.1
  · have : x.toBitVec.getLsbD n = false := BitVec.getLsbD_of_ge _ _ (by omega)
    rw [this]; simp
def nNum (k : Int) : Int := if k = 3 then 4 else if k = 4 ∨ k = 5 then 0 else if k = 7 then 1 else if 0 ≤ k ∧ k ≤ 9 then 2 else 0
def nKid (k : Int) : Int := if 2 ≤ k ∧ k ≤ 6 then 1 else if 7 ≤ k ∧ k ≤ 9 then 8 else 0
def nLow (k : Int) : Int := if k = 6 then 1 else 0
def nHA (k : Int) : Int := if k = 0 ∨ k = 3 then 99 else if k = 1 then 12 else if k = 2 then 20 else if k = 6 then 9 else if k = 7 then 2 else if k = 8 ∨ k = 9 then 4 else 0
def nHB (k : Int) : Int := if k = 0 ∨ k = 3 then 99 else if k = 1 then 31 else if k = 2 then 20 else if k = 6 then 9 else if k = 8 ∨ k = 9 then 20 else 0
/-- v may be number w of a BOX of kind k -/
def okN (k w v : Int) : Prop := 0 ≤ w ∧ w < nNum k ∧ nLow k ≤ v ∧ ((w % 2 = 0 ∧ v ≤ nHA k) ∨ (w % 2 = 1 ∧ v ≤ nHB k))
def okA (k a b c d : Int) : Prop := 0 ≤ k ∧ k ≤ 9 ∧ (0 < nNum k → okN k 0 a) ∧ (1 < nNum k → okN k 1 b) ∧ (2 < nNum k → okN k 2 c) ∧ (3 < nNum k → okN k 3 d) ∧ (k = 3 → a ≤ b ∧ c ≤ d)
/-- a BOX of kind k passes for one of kind j -/
def okP (k j : Int) : Prop := k = j ∨ (k = 9 ∧ j = 8) ∨ (k = 5 ∧ j = 4) ∨ (k = 3 ∧ j = 2)

theorem tS_0 {z x : Int32} (e : z = tSw 0 x.toNatClampNeg) (h0 : 0 ≤ x.toInt) (h9 : x.toInt ≤ 9) : z.toInt = nNum x.toInt := by
  rcases (show x.toInt = 0 ∨ x.toInt = 1 ∨ x.toInt = 2 ∨ x.toInt = 3 ∨ x.toInt = 4 ∨ x.toInt = 5 ∨ x.toInt = 6 ∨ x.toInt = 7 ∨ x.toInt = 8 ∨ x.toInt = 9 by omega) with h | h | h | h | h | h | h | h | h | h <;> (have q : x.toNatClampNeg = x.toInt.toNat := rfl) <;> rw [e, q, h] <;> decide

theorem tS_1 {z x : Int32} (e : z = tSw 1 x.toNatClampNeg) (h0 : 0 ≤ x.toInt) (h9 : x.toInt ≤ 9) : z.toInt = nKid x.toInt := by
  rcases (show x.toInt = 0 ∨ x.toInt = 1 ∨ x.toInt = 2 ∨ x.toInt = 3 ∨ x.toInt = 4 ∨ x.toInt = 5 ∨ x.toInt = 6 ∨ x.toInt = 7 ∨ x.toInt = 8 ∨ x.toInt = 9 by omega) with h | h | h | h | h | h | h | h | h | h <;> (have q : x.toNatClampNeg = x.toInt.toNat := rfl) <;> rw [e, q, h] <;> decide

theorem tS_2 {z x : Int32} (e : z = tSw 2 x.toNatClampNeg) (h0 : 0 ≤ x.toInt) (h9 : x.toInt ≤ 9) : z.toInt = nLow x.toInt := by
  rcases (show x.toInt = 0 ∨ x.toInt = 1 ∨ x.toInt = 2 ∨ x.toInt = 3 ∨ x.toInt = 4 ∨ x.toInt = 5 ∨ x.toInt = 6 ∨ x.toInt = 7 ∨ x.toInt = 8 ∨ x.toInt = 9 by omega) with h | h | h | h | h | h | h | h | h | h <;> (have q : x.toNatClampNeg = x.toInt.toNat := rfl) <;> rw [e, q, h] <;> decide

theorem tS_3 {z x : Int32} (e : z = tSw 3 x.toNatClampNeg) (h0 : 0 ≤ x.toInt) (h9 : x.toInt ≤ 9) : z.toInt = nHA x.toInt := by
  rcases (show x.toInt = 0 ∨ x.toInt = 1 ∨ x.toInt = 2 ∨ x.toInt = 3 ∨ x.toInt = 4 ∨ x.toInt = 5 ∨ x.toInt = 6 ∨ x.toInt = 7 ∨ x.toInt = 8 ∨ x.toInt = 9 by omega) with h | h | h | h | h | h | h | h | h | h <;> (have q : x.toNatClampNeg = x.toInt.toNat := rfl) <;> rw [e, q, h] <;> decide

theorem tS_4 {z x : Int32} (e : z = tSw 4 x.toNatClampNeg) (h0 : 0 ≤ x.toInt) (h9 : x.toInt ≤ 9) : z.toInt = nHB x.toInt := by
  rcases (show x.toInt = 0 ∨ x.toInt = 1 ∨ x.toInt = 2 ∨ x.toInt = 3 ∨ x.toInt = 4 ∨ x.toInt = 5 ∨ x.toInt = 6 ∨ x.toInt = 7 ∨ x.toInt = 8 ∨ x.toInt = 9 by omega) with h | h | h | h | h | h | h | h | h | h <;> (have q : x.toNatClampNeg = x.toInt.toNat := rfl) <;> rw [e, q, h] <;> decide

theorem nNum_out {k : Int} (h : k < 0 ∨ 9 < k) : nNum k = 0 := by
  unfold nNum
  rw [if_neg (by omega), if_neg (by omega), if_neg (by omega), if_neg (by omega)]
theorem nKid_out {k : Int} (h : k < 0 ∨ 9 < k) : nKid k = 0 := by
  unfold nKid
  rw [if_neg (by omega), if_neg (by omega)]
theorem nNum_r (k : Int) : 0 ≤ nNum k ∧ nNum k ≤ 4 := by
  unfold nNum
  split
  · decide
  · split
    · decide
    · split
      · decide
      · split <;> decide
theorem nKid_r (k : Int) : 0 ≤ nKid k ∧ nKid k ≤ 8 := by
  unfold nKid
  split
  · decide
  · split <;> decide

set_option maxHeartbeats 4000000 in
set_option maxRecDepth 100000 in
theorem x_X1_isKind (l : Launch) (G : tG) (τ : Nat → Nat) (x0 : Int32)  : Met l yX1_isKind (.code yX1_isKind cX1_isKind 1 (some .boolean) :: tWS) (tRm 0 0) (va_Pc [.int x0] (tPre G τ)) (tQp (fun r => (r.toInt = 1 ∧ (0 ≤ x0.toInt ∧ x0.toInt ≤ 9)) ∨ (r.toInt = 0 ∧ ¬ (0 ≤ x0.toInt ∧ x0.toInt ≤ 9)))) 0 0 tNo := by
  refine tc_met (by decide) (Nat.le_of_ble_eq_true rfl) ?_
  intro p e s m below meth c E hSt hr hlk hG ls hl
  have hl : lv_has ls 1 [(0, .int x0)] := hl
  have hx := E.1
  have hb := E.2.1
  obtain ⟨H, eH⟩ : ∃ H, H = s.heap := ⟨_, rfl⟩
  obtain ⟨locs, eL⟩ : ∃ x : List Loc, x = [] := ⟨_, rfl⟩
  have hG : tGH G τ s H locs := by rw [eH, eL]; exact hG
  suffices hW : W p l e (tRm 0 0) s m ([.int x0] : List Value).toArray below meth c H locs 0 0 (MQ below (tQp (fun r => (r.toInt = 1 ∧ (0 ≤ x0.toInt ∧ x0.toInt ≤ 9)) ∨ (r.toInt = 0 ∧ ¬ (0 ≤ x0.toInt ∧ x0.toInt ≤ 9)))) ([.int x0] : List Value).toArray s 0 0 tNo) (F0 m 0 ls []) by subst eH; subst eL; exact hW
  refine lv_iload_n hx hb dX1_isKind_0 rfl (lv_at hl 0 rfl) ?_
  refine lv_if_lt (tgt := 14) hx hb dX1_isKind_1 (by decide) (fun c1 => ?_) (fun c1 => ?_)
  · skip
    have ic1 := tn_lt rfl kI_0 c1
    refine lv_iconst (v := 0) hx hb dX1_isKind_14 (by decide) ?_
    exact tc_pret E hr hlk eH eL (t_nz (by decide) (by decide)).1 (show ((0 : Int32).toInt = 1 ∧ (0 ≤ x0.toInt ∧ x0.toInt ≤ 9)) ∨ ((0 : Int32).toInt = 0 ∧ ¬ (0 ≤ x0.toInt ∧ x0.toInt ≤ 9)) by have kk := kI_0; omega) dX1_isKind_15
  · skip
    have ic1 := tn_nlt rfl kI_0 c1
    refine lv_iload_n hx hb dX1_isKind_4 rfl (lv_at hl 0 rfl) ?_
    refine lv_bipush (v := 10) hx hb dX1_isKind_5 (by decide) ?_
    refine lv_icmp_ge (tgt := 14) hx hb dX1_isKind_7 (by decide) (fun c2 => ?_) (fun c2 => ?_)
    · skip
      have ic2 := tn_le kI_10 rfl c2
      refine lv_iconst (v := 0) hx hb dX1_isKind_14 (by decide) ?_
      exact tc_pret E hr hlk eH eL (t_nz (by decide) (by decide)).1 (show ((0 : Int32).toInt = 1 ∧ (0 ≤ x0.toInt ∧ x0.toInt ≤ 9)) ∨ ((0 : Int32).toInt = 0 ∧ ¬ (0 ≤ x0.toInt ∧ x0.toInt ≤ 9)) by have kk := kI_0; omega) dX1_isKind_15
    · skip
      have ic2 := tn_nle kI_10 rfl c2
      refine lv_iconst (v := 1) hx hb dX1_isKind_10 (by decide) ?_
      refine lv_goto (tgt := 15) hx hb dX1_isKind_11 (by decide) ?_
      exact tc_pret E hr hlk eH eL (t_nz (by decide) (by decide)).1 (show ((1 : Int32).toInt = 1 ∧ (0 ≤ x0.toInt ∧ x0.toInt ≤ 9)) ∨ ((1 : Int32).toInt = 0 ∧ ¬ (0 ≤ x0.toInt ∧ x0.toInt ≤ 9)) by have kk := kI_1; omega) dX1_isKind_15

set_option maxHeartbeats 4000000 in
set_option maxRecDepth 100000 in
theorem x_X1_numbersOf (l : Launch) (G : tG) (τ : Nat → Nat) (x0 : Int32)  : Met l yX1_numbersOf (.code yX1_numbersOf cX1_numbersOf 1 (some .int) :: tWS) (tRm 1 20) (va_Pc [.int x0] (tPre G τ)) (tQp (fun r => r.toInt = nNum x0.toInt ∧ (0 ≤ r.toInt ∧ r.toInt ≤ 4) ∧ (r.toInt = 0 ∨ (0 ≤ x0.toInt ∧ x0.toInt ≤ 9)))) 0 0 tNo := by
  refine tc_met (by decide) (Nat.le_of_ble_eq_true rfl) ?_
  intro p e s m below meth c E hSt hr hlk hG ls hl
  have hl : lv_has ls 1 [(0, .int x0)] := hl
  have hx := E.1
  have hb := E.2.1
  obtain ⟨H, eH⟩ : ∃ H, H = s.heap := ⟨_, rfl⟩
  obtain ⟨locs, eL⟩ : ∃ x : List Loc, x = [] := ⟨_, rfl⟩
  have hG : tGH G τ s H locs := by rw [eH, eL]; exact hG
  suffices hW : W p l e (tRm 1 20) s m ([.int x0] : List Value).toArray below meth c H locs 0 0 (MQ below (tQp (fun r => r.toInt = nNum x0.toInt ∧ (0 ≤ r.toInt ∧ r.toInt ≤ 4) ∧ (r.toInt = 0 ∨ (0 ≤ x0.toInt ∧ x0.toInt ≤ 9)))) ([.int x0] : List Value).toArray s 0 0 tNo) (F0 m 0 ls []) by subst eH; subst eL; exact hW
  refine lv_iload_n hx hb dX1_numbersOf_0 rfl (lv_at hl 0 rfl) ?_
  refine tc_callp (tc_runS (As := [.int x0]) (rest := []) E hSt hG (x_X1_isKind l G τ x0) ks_X1_isKind ml_X1_9 ⟨rfl, rfl, Nat.le_of_ble_eq_true rfl, Nat.le_of_ble_eq_true rfl⟩ rfl hl.1 rfl (Nat.le_of_ble_eq_true rfl) ⟨Nat.zero_le _, Nat.zero_le _⟩ dX1_numbersOf_1) (fun r1 pr1 => ?_)
  have pr1 : (r1.toInt = 1 ∧ (0 ≤ x0.toInt ∧ x0.toInt ≤ 9)) ∨ (r1.toInt = 0 ∧ ¬ (0 ≤ x0.toInt ∧ x0.toInt ≤ 9)) := pr1
  refine lv_if_eq (tgt := 15) hx hb dX1_numbersOf_4 (by decide) (fun c2 => ?_) (fun c2 => ?_)
  · skip
    have ic2 := tn_eq rfl kI_0 c2
    refine lv_iconst (v := 0) hx hb dX1_numbersOf_15 (by decide) ?_
    exact tc_pret E hr hlk eH eL rfl (show (0 : Int32).toInt = nNum x0.toInt ∧ (0 ≤ (0 : Int32).toInt ∧ (0 : Int32).toInt ≤ 4) ∧ ((0 : Int32).toInt = 0 ∨ (0 ≤ x0.toInt ∧ x0.toInt ≤ 9)) by have kk := kI_0; (first | omega | (have q9 := nNum_out (k := x0.toInt) (by omega); omega))) dX1_numbersOf_16
  · skip
    have ic2 := tn_ne rfl kI_0 c2
    refine tc_gets E hSt hG 0 (by decide) fs_X1_15 dX1_numbersOf_7 ?_
    refine lv_iload_n hx hb dX1_numbersOf_10 rfl (lv_at hl 0 rfl) ?_
    refine tc_tald E hSt hG 0 (by decide) (t_in (by omega) (by omega)) dX1_numbersOf_11 ?_
    refine lv_topi (fun z3 ez3 => ?_)
    have tz3 := tn_tab0 ez3
    have xz3 := tS_0 ez3 (by omega) (by omega)
    refine lv_goto (tgt := 16) hx hb dX1_numbersOf_12 (by decide) ?_
    exact tc_pret E hr hlk eH eL rfl (show z3.toInt = nNum x0.toInt ∧ (0 ≤ z3.toInt ∧ z3.toInt ≤ 4) ∧ (z3.toInt = 0 ∨ (0 ≤ x0.toInt ∧ x0.toInt ≤ 9)) by (first | omega | (have q9 := nNum_out (k := x0.toInt) (by omega); omega))) dX1_numbersOf_16

set_option maxHeartbeats 4000000 in
set_option maxRecDepth 100000 in
theorem x_X1_childrenOf (l : Launch) (G : tG) (τ : Nat → Nat) (x0 : Int32)  : Met l yX1_childrenOf (.code yX1_childrenOf cX1_childrenOf 1 (some .int) :: tWS) (tRm 1 20) (va_Pc [.int x0] (tPre G τ)) (tQp (fun r => r.toInt = nKid x0.toInt ∧ (0 ≤ r.toInt ∧ r.toInt ≤ 8))) 0 0 tNo := by
  refine tc_met (by decide) (Nat.le_of_ble_eq_true rfl) ?_
  intro p e s m below meth c E hSt hr hlk hG ls hl
  have hl : lv_has ls 1 [(0, .int x0)] := hl
  have hx := E.1
  have hb := E.2.1
  obtain ⟨H, eH⟩ : ∃ H, H = s.heap := ⟨_, rfl⟩
  obtain ⟨locs, eL⟩ : ∃ x : List Loc, x = [] := ⟨_, rfl⟩
  have hG : tGH G τ s H locs := by rw [eH, eL]; exact hG
  suffices hW : W p l e (tRm 1 20) s m ([.int x0] : List Value).toArray below meth c H locs 0 0 (MQ below (tQp (fun r => r.toInt = nKid x0.toInt ∧ (0 ≤ r.toInt ∧ r.toInt ≤ 8))) ([.int x0] : List Value).toArray s 0 0 tNo) (F0 m 0 ls []) by subst eH; subst eL; exact hW
  refine lv_iload_n hx hb dX1_childrenOf_0 rfl (lv_at hl 0 rfl) ?_
  refine tc_callp (tc_runS (As := [.int x0]) (rest := []) E hSt hG (x_X1_isKind l G τ x0) ks_X1_isKind ml_X1_9 ⟨rfl, rfl, Nat.le_of_ble_eq_true rfl, Nat.le_of_ble_eq_true rfl⟩ rfl hl.1 rfl (Nat.le_of_ble_eq_true rfl) ⟨Nat.zero_le _, Nat.zero_le _⟩ dX1_childrenOf_1) (fun r1 pr1 => ?_)
  have pr1 : (r1.toInt = 1 ∧ (0 ≤ x0.toInt ∧ x0.toInt ≤ 9)) ∨ (r1.toInt = 0 ∧ ¬ (0 ≤ x0.toInt ∧ x0.toInt ≤ 9)) := pr1
  refine lv_if_eq (tgt := 15) hx hb dX1_childrenOf_4 (by decide) (fun c2 => ?_) (fun c2 => ?_)
  · skip
    have ic2 := tn_eq rfl kI_0 c2
    refine lv_iconst (v := 0) hx hb dX1_childrenOf_15 (by decide) ?_
    exact tc_pret E hr hlk eH eL rfl (show (0 : Int32).toInt = nKid x0.toInt ∧ (0 ≤ (0 : Int32).toInt ∧ (0 : Int32).toInt ≤ 8) by have kk := kI_0; (first | omega | (have q9 := nKid_out (k := x0.toInt) (by omega); omega))) dX1_childrenOf_16
  · skip
    have ic2 := tn_ne rfl kI_0 c2
    refine tc_gets E hSt hG 1 (by decide) fs_X1_19 dX1_childrenOf_7 ?_
    refine lv_iload_n hx hb dX1_childrenOf_10 rfl (lv_at hl 0 rfl) ?_
    refine tc_tald E hSt hG 1 (by decide) (t_in (by omega) (by omega)) dX1_childrenOf_11 ?_
    refine lv_topi (fun z3 ez3 => ?_)
    have tz3 := tn_tab1 ez3
    have xz3 := tS_1 ez3 (by omega) (by omega)
    refine lv_goto (tgt := 16) hx hb dX1_childrenOf_12 (by decide) ?_
    exact tc_pret E hr hlk eH eL rfl (show z3.toInt = nKid x0.toInt ∧ (0 ≤ z3.toInt ∧ z3.toInt ≤ 8) by (first | omega | (have q9 := nKid_out (k := x0.toInt) (by omega); omega))) dX1_childrenOf_16

set_option maxHeartbeats 4000000 in
set_option maxRecDepth 100000 in
theorem x_X1_isInRange (l : Launch) (G : tG) (τ : Nat → Nat) (x0 : Int32) (x1 : Int32) (x2 : Int32)  : Met l yX1_isInRange (.code yX1_isInRange cX1_isInRange 4 (some .boolean) :: tWS) (tRm 2 40) (va_Pc [.int x0, .int x1, .int x2] (tPre G τ)) (tQp (fun r => ((r.toInt = 1 ∧ ((0 ≤ x1.toInt ∧ x1.toInt < nNum x0.toInt ∧ nLow x0.toInt ≤ x2.toInt ∧ ((x1.toInt % 2 = 0 ∧ x2.toInt ≤ nHA x0.toInt) ∨ (x1.toInt % 2 = 1 ∧ x2.toInt ≤ nHB x0.toInt))))) ∨ (r.toInt = 0 ∧ ¬ ((0 ≤ x1.toInt ∧ x1.toInt < nNum x0.toInt ∧ nLow x0.toInt ≤ x2.toInt ∧ ((x1.toInt % 2 = 0 ∧ x2.toInt ≤ nHA x0.toInt) ∨ (x1.toInt % 2 = 1 ∧ x2.toInt ≤ nHB x0.toInt)))))) ∧ (r.toInt = 0 ∨ (0 ≤ x1.toInt ∧ x1.toInt ≤ 3)))) 0 0 tNo := by
  refine tc_met (by decide) (Nat.le_of_ble_eq_true rfl) ?_
  intro p e s m below meth c E hSt hr hlk hG ls hl
  have hl : lv_has ls 4 [(0, .int x0), (1, .int x1), (2, .int x2)] := hl
  have hx := E.1
  have hb := E.2.1
  obtain ⟨H, eH⟩ : ∃ H, H = s.heap := ⟨_, rfl⟩
  obtain ⟨locs, eL⟩ : ∃ x : List Loc, x = [] := ⟨_, rfl⟩
  have hG : tGH G τ s H locs := by rw [eH, eL]; exact hG
  suffices hW : W p l e (tRm 2 40) s m ([.int x0, .int x1, .int x2] : List Value).toArray below meth c H locs 0 0 (MQ below (tQp (fun r => ((r.toInt = 1 ∧ ((0 ≤ x1.toInt ∧ x1.toInt < nNum x0.toInt ∧ nLow x0.toInt ≤ x2.toInt ∧ ((x1.toInt % 2 = 0 ∧ x2.toInt ≤ nHA x0.toInt) ∨ (x1.toInt % 2 = 1 ∧ x2.toInt ≤ nHB x0.toInt))))) ∨ (r.toInt = 0 ∧ ¬ ((0 ≤ x1.toInt ∧ x1.toInt < nNum x0.toInt ∧ nLow x0.toInt ≤ x2.toInt ∧ ((x1.toInt % 2 = 0 ∧ x2.toInt ≤ nHA x0.toInt) ∨ (x1.toInt % 2 = 1 ∧ x2.toInt ≤ nHB x0.toInt)))))) ∧ (r.toInt = 0 ∨ (0 ≤ x1.toInt ∧ x1.toInt ≤ 3)))) ([.int x0, .int x1, .int x2] : List Value).toArray s 0 0 tNo) (F0 m 0 ls []) by subst eH; subst eL; exact hW
  refine lv_iload_n hx hb dX1_isInRange_0 rfl (lv_at hl 1 rfl) ?_
  refine lv_if_lt (tgt := 12) hx hb dX1_isInRange_1 (by decide) (fun c1 => ?_) (fun c1 => ?_)
  · skip
    have ic1 := tn_lt rfl kI_0 c1
    refine lv_iconst (v := 0) hx hb dX1_isInRange_12 (by decide) ?_
    exact tc_pret E hr hlk eH eL (t_nz (by decide) (by decide)).1 (show (((0 : Int32).toInt = 1 ∧ ((0 ≤ x1.toInt ∧ x1.toInt < nNum x0.toInt ∧ nLow x0.toInt ≤ x2.toInt ∧ ((x1.toInt % 2 = 0 ∧ x2.toInt ≤ nHA x0.toInt) ∨ (x1.toInt % 2 = 1 ∧ x2.toInt ≤ nHB x0.toInt))))) ∨ ((0 : Int32).toInt = 0 ∧ ¬ ((0 ≤ x1.toInt ∧ x1.toInt < nNum x0.toInt ∧ nLow x0.toInt ≤ x2.toInt ∧ ((x1.toInt % 2 = 0 ∧ x2.toInt ≤ nHA x0.toInt) ∨ (x1.toInt % 2 = 1 ∧ x2.toInt ≤ nHB x0.toInt)))))) ∧ ((0 : Int32).toInt = 0 ∨ (0 ≤ x1.toInt ∧ x1.toInt ≤ 3)) by have kk := kI_0; omega) dX1_isInRange_13
  · skip
    have ic1 := tn_nlt rfl kI_0 c1
    refine lv_iload_n hx hb dX1_isInRange_4 rfl (lv_at hl 1 rfl) ?_
    refine lv_iload_n hx hb dX1_isInRange_5 rfl (lv_at hl 0 rfl) ?_
    refine tc_callp (tc_runS (As := [.int x0]) (rest := [.int x1]) E hSt hG (x_X1_numbersOf l G τ x0) ks_X1_numbersOf ml_X1_22 ⟨rfl, rfl, Nat.le_of_ble_eq_true rfl, Nat.le_of_ble_eq_true rfl⟩ rfl hl.1 rfl (Nat.le_of_ble_eq_true rfl) ⟨Nat.zero_le _, Nat.zero_le _⟩ dX1_isInRange_6) (fun r2 pr2 => ?_)
    have pr2 : r2.toInt = nNum x0.toInt ∧ (0 ≤ r2.toInt ∧ r2.toInt ≤ 4) ∧ (r2.toInt = 0 ∨ (0 ≤ x0.toInt ∧ x0.toInt ≤ 9)) := pr2
    refine lv_icmp_lt (tgt := 14) hx hb dX1_isInRange_9 (by decide) (fun c3 => ?_) (fun c3 => ?_)
    · skip
      have ic3 := tn_lt rfl rfl c3
      refine lv_iload_n hx hb dX1_isInRange_14 rfl (lv_at hl 1 rfl) ?_
      refine lv_iconst (v := 2) hx hb dX1_isInRange_15 (by decide) ?_
      refine lv_irem hx hb dX1_isInRange_16 (by decide) ?_
      refine lv_topi (fun z4 ez4 => ?_)
      have tz4 := tn_rem ez4 kI_2 (by omega) (by decide)
      refine lv_if_ne (tgt := 28) hx hb dX1_isInRange_17 (by decide) (fun c5 => ?_) (fun c5 => ?_)
      · skip
        have ic5 := tn_ne rfl kI_0 c5
        refine tc_gets E hSt hG 4 (by decide) fs_X1_29 dX1_isInRange_28 ?_
        refine lv_iload_n hx hb dX1_isInRange_31 rfl (lv_at hl 0 rfl) ?_
        refine tc_tald E hSt hG 4 (by decide) (t_in (by omega) (by omega)) dX1_isInRange_32 ?_
        refine lv_topi (fun z6 ez6 => ?_)
        have tz6 := tn_tab4 ez6
        have xz6 := tS_4 ez6 (by omega) (by omega)
        refine lv_istore_n (lv' := [(3, .int z6), (0, .int x0), (1, .int x1), (2, .int x2)]) hx hb dX1_isInRange_33 rfl hl (by decide) rfl (fun ls hl => ?_)
        refine lv_iload_n hx hb dX1_isInRange_34 rfl (lv_at hl 3 rfl) ?_
        refine tc_gets E hSt hG 2 (by decide) fs_X1_32 dX1_isInRange_35 ?_
        refine lv_iload_n hx hb dX1_isInRange_38 rfl (lv_at hl 1 rfl) ?_
        refine tc_tald E hSt hG 2 (by decide) (t_in (by omega) (by omega)) dX1_isInRange_39 ?_
        refine lv_topi (fun z7 ez7 => ?_)
        have tz7 := tn_tab2 ez7
        have xz7 := tS_2 ez7 (by omega) (by omega)
        refine lv_icmp_lt (tgt := 52) hx hb dX1_isInRange_40 (by decide) (fun c8 => ?_) (fun c8 => ?_)
        · skip
          have ic8 := tn_lt rfl rfl c8
          refine lv_iconst (v := 0) hx hb dX1_isInRange_52 (by decide) ?_
          exact tc_pret E hr hlk eH eL (t_nz (by decide) (by decide)).1 (show (((0 : Int32).toInt = 1 ∧ ((0 ≤ x1.toInt ∧ x1.toInt < nNum x0.toInt ∧ nLow x0.toInt ≤ x2.toInt ∧ ((x1.toInt % 2 = 0 ∧ x2.toInt ≤ nHA x0.toInt) ∨ (x1.toInt % 2 = 1 ∧ x2.toInt ≤ nHB x0.toInt))))) ∨ ((0 : Int32).toInt = 0 ∧ ¬ ((0 ≤ x1.toInt ∧ x1.toInt < nNum x0.toInt ∧ nLow x0.toInt ≤ x2.toInt ∧ ((x1.toInt % 2 = 0 ∧ x2.toInt ≤ nHA x0.toInt) ∨ (x1.toInt % 2 = 1 ∧ x2.toInt ≤ nHB x0.toInt)))))) ∧ ((0 : Int32).toInt = 0 ∨ (0 ≤ x1.toInt ∧ x1.toInt ≤ 3)) by have kk := kI_0; omega) dX1_isInRange_53
        · skip
          have ic8 := tn_nlt rfl rfl c8
          refine lv_iload_n hx hb dX1_isInRange_43 rfl (lv_at hl 3 rfl) ?_
          refine lv_iload_n hx hb dX1_isInRange_44 rfl (lv_at hl 0 rfl) ?_
          refine lv_icmp_gt (tgt := 52) hx hb dX1_isInRange_45 (by decide) (fun c9 => ?_) (fun c9 => ?_)
          · skip
            have ic9 := tn_lt rfl rfl c9
            refine lv_iconst (v := 0) hx hb dX1_isInRange_52 (by decide) ?_
            exact tc_pret E hr hlk eH eL (t_nz (by decide) (by decide)).1 (show (((0 : Int32).toInt = 1 ∧ ((0 ≤ x1.toInt ∧ x1.toInt < nNum x0.toInt ∧ nLow x0.toInt ≤ x2.toInt ∧ ((x1.toInt % 2 = 0 ∧ x2.toInt ≤ nHA x0.toInt) ∨ (x1.toInt % 2 = 1 ∧ x2.toInt ≤ nHB x0.toInt))))) ∨ ((0 : Int32).toInt = 0 ∧ ¬ ((0 ≤ x1.toInt ∧ x1.toInt < nNum x0.toInt ∧ nLow x0.toInt ≤ x2.toInt ∧ ((x1.toInt % 2 = 0 ∧ x2.toInt ≤ nHA x0.toInt) ∨ (x1.toInt % 2 = 1 ∧ x2.toInt ≤ nHB x0.toInt)))))) ∧ ((0 : Int32).toInt = 0 ∨ (0 ≤ x1.toInt ∧ x1.toInt ≤ 3)) by have kk := kI_0; omega) dX1_isInRange_53
          · skip
            have ic9 := tn_nlt rfl rfl c9
            refine lv_iconst (v := 1) hx hb dX1_isInRange_48 (by decide) ?_
            refine lv_goto (tgt := 53) hx hb dX1_isInRange_49 (by decide) ?_
            exact tc_pret E hr hlk eH eL (t_nz (by decide) (by decide)).1 (show (((1 : Int32).toInt = 1 ∧ ((0 ≤ x1.toInt ∧ x1.toInt < nNum x0.toInt ∧ nLow x0.toInt ≤ x2.toInt ∧ ((x1.toInt % 2 = 0 ∧ x2.toInt ≤ nHA x0.toInt) ∨ (x1.toInt % 2 = 1 ∧ x2.toInt ≤ nHB x0.toInt))))) ∨ ((1 : Int32).toInt = 0 ∧ ¬ ((0 ≤ x1.toInt ∧ x1.toInt < nNum x0.toInt ∧ nLow x0.toInt ≤ x2.toInt ∧ ((x1.toInt % 2 = 0 ∧ x2.toInt ≤ nHA x0.toInt) ∨ (x1.toInt % 2 = 1 ∧ x2.toInt ≤ nHB x0.toInt)))))) ∧ ((1 : Int32).toInt = 0 ∨ (0 ≤ x1.toInt ∧ x1.toInt ≤ 3)) by have kk := kI_1; omega) dX1_isInRange_53
      · skip
        have ic5 := tn_eq rfl kI_0 c5
        refine tc_gets E hSt hG 3 (by decide) fs_X1_26 dX1_isInRange_20 ?_
        refine lv_iload_n hx hb dX1_isInRange_23 rfl (lv_at hl 0 rfl) ?_
        refine tc_tald E hSt hG 3 (by decide) (t_in (by omega) (by omega)) dX1_isInRange_24 ?_
        refine lv_topi (fun z10 ez10 => ?_)
        have tz10 := tn_tab3 ez10
        have xz10 := tS_3 ez10 (by omega) (by omega)
        refine lv_goto (tgt := 33) hx hb dX1_isInRange_25 (by decide) ?_
        refine lv_istore_n (lv' := [(3, .int z10), (0, .int x0), (1, .int x1), (2, .int x2)]) hx hb dX1_isInRange_33 rfl hl (by decide) rfl (fun ls hl => ?_)
        refine lv_iload_n hx hb dX1_isInRange_34 rfl (lv_at hl 3 rfl) ?_
        refine tc_gets E hSt hG 2 (by decide) fs_X1_32 dX1_isInRange_35 ?_
        refine lv_iload_n hx hb dX1_isInRange_38 rfl (lv_at hl 1 rfl) ?_
        refine tc_tald E hSt hG 2 (by decide) (t_in (by omega) (by omega)) dX1_isInRange_39 ?_
        refine lv_topi (fun z11 ez11 => ?_)
        have tz11 := tn_tab2 ez11
        have xz11 := tS_2 ez11 (by omega) (by omega)
        refine lv_icmp_lt (tgt := 52) hx hb dX1_isInRange_40 (by decide) (fun c12 => ?_) (fun c12 => ?_)
        · skip
          have ic12 := tn_lt rfl rfl c12
          refine lv_iconst (v := 0) hx hb dX1_isInRange_52 (by decide) ?_
          exact tc_pret E hr hlk eH eL (t_nz (by decide) (by decide)).1 (show (((0 : Int32).toInt = 1 ∧ ((0 ≤ x1.toInt ∧ x1.toInt < nNum x0.toInt ∧ nLow x0.toInt ≤ x2.toInt ∧ ((x1.toInt % 2 = 0 ∧ x2.toInt ≤ nHA x0.toInt) ∨ (x1.toInt % 2 = 1 ∧ x2.toInt ≤ nHB x0.toInt))))) ∨ ((0 : Int32).toInt = 0 ∧ ¬ ((0 ≤ x1.toInt ∧ x1.toInt < nNum x0.toInt ∧ nLow x0.toInt ≤ x2.toInt ∧ ((x1.toInt % 2 = 0 ∧ x2.toInt ≤ nHA x0.toInt) ∨ (x1.toInt % 2 = 1 ∧ x2.toInt ≤ nHB x0.toInt)))))) ∧ ((0 : Int32).toInt = 0 ∨ (0 ≤ x1.toInt ∧ x1.toInt ≤ 3)) by have kk := kI_0; omega) dX1_isInRange_53
        · skip
          have ic12 := tn_nlt rfl rfl c12
          refine lv_iload_n hx hb dX1_isInRange_43 rfl (lv_at hl 3 rfl) ?_
          refine lv_iload_n hx hb dX1_isInRange_44 rfl (lv_at hl 0 rfl) ?_
          refine lv_icmp_gt (tgt := 52) hx hb dX1_isInRange_45 (by decide) (fun c13 => ?_) (fun c13 => ?_)
          · skip
            have ic13 := tn_lt rfl rfl c13
            refine lv_iconst (v := 0) hx hb dX1_isInRange_52 (by decide) ?_
            exact tc_pret E hr hlk eH eL (t_nz (by decide) (by decide)).1 (show (((0 : Int32).toInt = 1 ∧ ((0 ≤ x1.toInt ∧ x1.toInt < nNum x0.toInt ∧ nLow x0.toInt ≤ x2.toInt ∧ ((x1.toInt % 2 = 0 ∧ x2.toInt ≤ nHA x0.toInt) ∨ (x1.toInt % 2 = 1 ∧ x2.toInt ≤ nHB x0.toInt))))) ∨ ((0 : Int32).toInt = 0 ∧ ¬ ((0 ≤ x1.toInt ∧ x1.toInt < nNum x0.toInt ∧ nLow x0.toInt ≤ x2.toInt ∧ ((x1.toInt % 2 = 0 ∧ x2.toInt ≤ nHA x0.toInt) ∨ (x1.toInt % 2 = 1 ∧ x2.toInt ≤ nHB x0.toInt)))))) ∧ ((0 : Int32).toInt = 0 ∨ (0 ≤ x1.toInt ∧ x1.toInt ≤ 3)) by have kk := kI_0; omega) dX1_isInRange_53
          · skip
            have ic13 := tn_nlt rfl rfl c13
            refine lv_iconst (v := 1) hx hb dX1_isInRange_48 (by decide) ?_
            refine lv_goto (tgt := 53) hx hb dX1_isInRange_49 (by decide) ?_
            exact tc_pret E hr hlk eH eL (t_nz (by decide) (by decide)).1 (show (((1 : Int32).toInt = 1 ∧ ((0 ≤ x1.toInt ∧ x1.toInt < nNum x0.toInt ∧ nLow x0.toInt ≤ x2.toInt ∧ ((x1.toInt % 2 = 0 ∧ x2.toInt ≤ nHA x0.toInt) ∨ (x1.toInt % 2 = 1 ∧ x2.toInt ≤ nHB x0.toInt))))) ∨ ((1 : Int32).toInt = 0 ∧ ¬ ((0 ≤ x1.toInt ∧ x1.toInt < nNum x0.toInt ∧ nLow x0.toInt ≤ x2.toInt ∧ ((x1.toInt % 2 = 0 ∧ x2.toInt ≤ nHA x0.toInt) ∨ (x1.toInt % 2 = 1 ∧ x2.toInt ≤ nHB x0.toInt)))))) ∧ ((1 : Int32).toInt = 0 ∨ (0 ≤ x1.toInt ∧ x1.toInt ≤ 3)) by have kk := kI_1; omega) dX1_isInRange_53
    · skip
      have ic3 := tn_nlt rfl rfl c3
      refine lv_iconst (v := 0) hx hb dX1_isInRange_12 (by decide) ?_
      exact tc_pret E hr hlk eH eL (t_nz (by decide) (by decide)).1 (show (((0 : Int32).toInt = 1 ∧ ((0 ≤ x1.toInt ∧ x1.toInt < nNum x0.toInt ∧ nLow x0.toInt ≤ x2.toInt ∧ ((x1.toInt % 2 = 0 ∧ x2.toInt ≤ nHA x0.toInt) ∨ (x1.toInt % 2 = 1 ∧ x2.toInt ≤ nHB x0.toInt))))) ∨ ((0 : Int32).toInt = 0 ∧ ¬ ((0 ≤ x1.toInt ∧ x1.toInt < nNum x0.toInt ∧ nLow x0.toInt ≤ x2.toInt ∧ ((x1.toInt % 2 = 0 ∧ x2.toInt ≤ nHA x0.toInt) ∨ (x1.toInt % 2 = 1 ∧ x2.toInt ≤ nHB x0.toInt)))))) ∧ ((0 : Int32).toInt = 0 ∨ (0 ≤ x1.toInt ∧ x1.toInt ≤ 3)) by have kk := kI_0; omega) dX1_isInRange_13

/-! ===== who looks at the tree ===== -/
set_option maxHeartbeats 4000000 in
set_option maxRecDepth 100000 in
theorem x_X8_has (l : Launch) (G : tG) (τ : Nat → Nat) (h0 : Nat) (x1 : Int32) (t0 : τ h0 = 2) : Met l yX8_has (.code yX8_has cX8_has 2 (some .boolean) :: tWS) (tRm 0 0) (va_Pc [.ref h0, .int x1] (tPre G τ)) (tQp (fun r => (r.toInt = 1 ∧ (0 ≤ x1.toInt ∧ x1.toInt ≤ 23 ∧ tB ((FF G) h0 4) x1.toInt.toNat)) ∨ (r.toInt = 0 ∧ ¬ (0 ≤ x1.toInt ∧ x1.toInt ≤ 23 ∧ tB ((FF G) h0 4) x1.toInt.toNat)))) 0 0 tNo := by
  refine tc_met (by decide) (Nat.le_of_ble_eq_true rfl) ?_
  intro p e s m below meth c E hSt hr hlk hG ls hl
  have hl : lv_has ls 2 [(0, .ref h0), (1, .int x1)] := hl
  have hx := E.1
  have hb := E.2.1
  obtain ⟨H, eH⟩ : ∃ H, H = s.heap := ⟨_, rfl⟩
  obtain ⟨locs, eL⟩ : ∃ x : List Loc, x = [] := ⟨_, rfl⟩
  have hG : tGH G τ s H locs := by rw [eH, eL]; exact hG
  suffices hW : W p l e (tRm 0 0) s m ([.ref h0, .int x1] : List Value).toArray below meth c H locs 0 0 (MQ below (tQp (fun r => (r.toInt = 1 ∧ (0 ≤ x1.toInt ∧ x1.toInt ≤ 23 ∧ tB ((FF G) h0 4) x1.toInt.toNat)) ∨ (r.toInt = 0 ∧ ¬ (0 ≤ x1.toInt ∧ x1.toInt ≤ 23 ∧ tB ((FF G) h0 4) x1.toInt.toNat)))) ([.ref h0, .int x1] : List Value).toArray s 0 0 tNo) (F0 m 0 ls []) by subst eH; subst eL; exact hW
  refine lv_iload_n hx hb dX8_has_0 rfl (lv_at hl 1 rfl) ?_
  refine lv_if_lt (tgt := 26) hx hb dX8_has_1 (by decide) (fun c1 => ?_) (fun c1 => ?_)
  · skip
    have ic1 := tn_lt rfl kI_0 c1
    refine lv_iconst (v := 0) hx hb dX8_has_26 (by decide) ?_
    exact tc_pret E hr hlk eH eL (t_nz (by decide) (by decide)).1 (show ((0 : Int32).toInt = 1 ∧ (0 ≤ x1.toInt ∧ x1.toInt ≤ 23 ∧ tB ((FF G) h0 4) x1.toInt.toNat)) ∨ ((0 : Int32).toInt = 0 ∧ ¬ (0 ≤ x1.toInt ∧ x1.toInt ≤ 23 ∧ tB ((FF G) h0 4) x1.toInt.toNat)) by have kk := kI_0; exact Or.inr ⟨by decide, fun q9 => (by omega)⟩) dX8_has_27
  · skip
    have ic1 := tn_nlt rfl kI_0 c1
    refine lv_iload_n hx hb dX8_has_4 rfl (lv_at hl 1 rfl) ?_
    refine lv_bipush (v := 24) hx hb dX8_has_5 (by decide) ?_
    refine lv_icmp_ge (tgt := 26) hx hb dX8_has_7 (by decide) (fun c2 => ?_) (fun c2 => ?_)
    · skip
      have ic2 := tn_le kI_24 rfl c2
      refine lv_iconst (v := 0) hx hb dX8_has_26 (by decide) ?_
      exact tc_pret E hr hlk eH eL (t_nz (by decide) (by decide)).1 (show ((0 : Int32).toInt = 1 ∧ (0 ≤ x1.toInt ∧ x1.toInt ≤ 23 ∧ tB ((FF G) h0 4) x1.toInt.toNat)) ∨ ((0 : Int32).toInt = 0 ∧ ¬ (0 ≤ x1.toInt ∧ x1.toInt ≤ 23 ∧ tB ((FF G) h0 4) x1.toInt.toNat)) by have kk := kI_0; exact Or.inr ⟨by decide, fun q9 => (by omega)⟩) dX8_has_27
    · skip
      have ic2 := tn_nle kI_24 rfl c2
      refine lv_aload_n hx hb dX8_has_10 rfl (lv_at hl 0 rfl) ?_
      refine tc_getF E hG t0 fi_X8_40 rfl dX8_has_11 (fun z3 lz3 uz3 wz3 => ?_)
      replace wz3 : z3 = (FF G) h0 4 := wz3
      have cz3 : z3.toInt = ((FF G) h0 4).toInt := by rw [wz3]
      refine lv_iload_n hx hb dX8_has_14 rfl (lv_at hl 1 rfl) ?_
      refine lv_iushr hx hb dX8_has_15 rfl ?_
      refine lv_topi (fun z4 ez4 => ?_)
      refine lv_iconst (v := 1) hx hb dX8_has_16 (by decide) ?_
      refine lv_iand hx hb dX8_has_17 ?_
      refine lv_topi (fun z5 ez5 => ?_)
      have bz5 := tB_get (y := x1) (by omega) (by omega) ez4 ez5
      rw [wz3] at bz5
      refine lv_iconst (v := 1) hx hb dX8_has_18 (by decide) ?_
      refine lv_icmp_ne (tgt := 26) hx hb dX8_has_19 (by decide) (fun c6 => ?_) (fun c6 => ?_)
      · skip
        have ic6 := tn_ne rfl kI_1 c6
        refine lv_iconst (v := 0) hx hb dX8_has_26 (by decide) ?_
        exact tc_pret E hr hlk eH eL (t_nz (by decide) (by decide)).1 (show ((0 : Int32).toInt = 1 ∧ (0 ≤ x1.toInt ∧ x1.toInt ≤ 23 ∧ tB ((FF G) h0 4) x1.toInt.toNat)) ∨ ((0 : Int32).toInt = 0 ∧ ¬ (0 ≤ x1.toInt ∧ x1.toInt ≤ 23 ∧ tB ((FF G) h0 4) x1.toInt.toNat)) by have kk := kI_0; exact Or.inr ⟨by decide, fun q9 => (by rcases bz5 with ⟨_, b9⟩ | ⟨_, b9⟩; (exfalso; omega); exact absurd q9.2.2 b9)⟩) dX8_has_27
      · skip
        have ic6 := tn_eq rfl kI_1 c6
        refine lv_iconst (v := 1) hx hb dX8_has_22 (by decide) ?_
        refine lv_goto (tgt := 27) hx hb dX8_has_23 (by decide) ?_
        exact tc_pret E hr hlk eH eL (t_nz (by decide) (by decide)).1 (show ((1 : Int32).toInt = 1 ∧ (0 ≤ x1.toInt ∧ x1.toInt ≤ 23 ∧ tB ((FF G) h0 4) x1.toInt.toNat)) ∨ ((1 : Int32).toInt = 0 ∧ ¬ (0 ≤ x1.toInt ∧ x1.toInt ≤ 23 ∧ tB ((FF G) h0 4) x1.toInt.toNat)) by have kk := kI_1; exact Or.inl ⟨by decide, by omega, by omega, (by rcases bz5 with ⟨_, b9⟩ | ⟨_, b9⟩; exact b9; exfalso; omega)⟩) dX8_has_27

set_option maxHeartbeats 4000000 in
set_option maxRecDepth 100000 in
theorem x_X1_mayHave (l : Launch) (G : tG) (τ : Nat → Nat) (x0 : Int32) (x1 : Int32) (x2 : Int32) (x3 : Int32) (x4 : Int32)  : Met l yX1_mayHave (.code yX1_mayHave cX1_mayHave 6 (some .boolean) :: tWS) (tRm 3 63) (va_Pc [.int x0, .int x1, .int x2, .int x3, .int x4] (tPre G τ)) (tQp (fun r => (r.toInt = 1 ∧ ((0 ≤ x0.toInt ∧ x0.toInt ≤ 9 ∧ (0 < nNum x0.toInt → (0 ≤ 0 ∧ 0 < nNum x0.toInt ∧ nLow x0.toInt ≤ x1.toInt ∧ ((0 % 2 = 0 ∧ x1.toInt ≤ nHA x0.toInt) ∨ (0 % 2 = 1 ∧ x1.toInt ≤ nHB x0.toInt)))) ∧ (1 < nNum x0.toInt → (0 ≤ 1 ∧ 1 < nNum x0.toInt ∧ nLow x0.toInt ≤ x2.toInt ∧ ((1 % 2 = 0 ∧ x2.toInt ≤ nHA x0.toInt) ∨ (1 % 2 = 1 ∧ x2.toInt ≤ nHB x0.toInt)))) ∧ (2 < nNum x0.toInt → (0 ≤ 2 ∧ 2 < nNum x0.toInt ∧ nLow x0.toInt ≤ x3.toInt ∧ ((2 % 2 = 0 ∧ x3.toInt ≤ nHA x0.toInt) ∨ (2 % 2 = 1 ∧ x3.toInt ≤ nHB x0.toInt)))) ∧ (3 < nNum x0.toInt → (0 ≤ 3 ∧ 3 < nNum x0.toInt ∧ nLow x0.toInt ≤ x4.toInt ∧ ((3 % 2 = 0 ∧ x4.toInt ≤ nHA x0.toInt) ∨ (3 % 2 = 1 ∧ x4.toInt ≤ nHB x0.toInt)))) ∧ (x0.toInt = 3 → x1.toInt ≤ x2.toInt ∧ x3.toInt ≤ x4.toInt)))) ∨ (r.toInt = 0 ∧ ¬ ((0 ≤ x0.toInt ∧ x0.toInt ≤ 9 ∧ (0 < nNum x0.toInt → (0 ≤ 0 ∧ 0 < nNum x0.toInt ∧ nLow x0.toInt ≤ x1.toInt ∧ ((0 % 2 = 0 ∧ x1.toInt ≤ nHA x0.toInt) ∨ (0 % 2 = 1 ∧ x1.toInt ≤ nHB x0.toInt)))) ∧ (1 < nNum x0.toInt → (0 ≤ 1 ∧ 1 < nNum x0.toInt ∧ nLow x0.toInt ≤ x2.toInt ∧ ((1 % 2 = 0 ∧ x2.toInt ≤ nHA x0.toInt) ∨ (1 % 2 = 1 ∧ x2.toInt ≤ nHB x0.toInt)))) ∧ (2 < nNum x0.toInt → (0 ≤ 2 ∧ 2 < nNum x0.toInt ∧ nLow x0.toInt ≤ x3.toInt ∧ ((2 % 2 = 0 ∧ x3.toInt ≤ nHA x0.toInt) ∨ (2 % 2 = 1 ∧ x3.toInt ≤ nHB x0.toInt)))) ∧ (3 < nNum x0.toInt → (0 ≤ 3 ∧ 3 < nNum x0.toInt ∧ nLow x0.toInt ≤ x4.toInt ∧ ((3 % 2 = 0 ∧ x4.toInt ≤ nHA x0.toInt) ∨ (3 % 2 = 1 ∧ x4.toInt ≤ nHB x0.toInt)))) ∧ (x0.toInt = 3 → x1.toInt ≤ x2.toInt ∧ x3.toInt ≤ x4.toInt)))))) 0 0 tNo := by
  refine tc_met (by decide) (Nat.le_of_ble_eq_true rfl) ?_
  intro p e s m below meth c E hSt hr hlk hG ls hl
  have hl : lv_has ls 6 [(0, .int x0), (1, .int x1), (2, .int x2), (3, .int x3), (4, .int x4)] := hl
  have hx := E.1
  have hb := E.2.1
  obtain ⟨H, eH⟩ : ∃ H, H = s.heap := ⟨_, rfl⟩
  obtain ⟨locs, eL⟩ : ∃ x : List Loc, x = [] := ⟨_, rfl⟩
  have hG : tGH G τ s H locs := by rw [eH, eL]; exact hG
  suffices hW : W p l e (tRm 3 63) s m ([.int x0, .int x1, .int x2, .int x3, .int x4] : List Value).toArray below meth c H locs 0 0 (MQ below (tQp (fun r => (r.toInt = 1 ∧ ((0 ≤ x0.toInt ∧ x0.toInt ≤ 9 ∧ (0 < nNum x0.toInt → (0 ≤ 0 ∧ 0 < nNum x0.toInt ∧ nLow x0.toInt ≤ x1.toInt ∧ ((0 % 2 = 0 ∧ x1.toInt ≤ nHA x0.toInt) ∨ (0 % 2 = 1 ∧ x1.toInt ≤ nHB x0.toInt)))) ∧ (1 < nNum x0.toInt → (0 ≤ 1 ∧ 1 < nNum x0.toInt ∧ nLow x0.toInt ≤ x2.toInt ∧ ((1 % 2 = 0 ∧ x2.toInt ≤ nHA x0.toInt) ∨ (1 % 2 = 1 ∧ x2.toInt ≤ nHB x0.toInt)))) ∧ (2 < nNum x0.toInt → (0 ≤ 2 ∧ 2 < nNum x0.toInt ∧ nLow x0.toInt ≤ x3.toInt ∧ ((2 % 2 = 0 ∧ x3.toInt ≤ nHA x0.toInt) ∨ (2 % 2 = 1 ∧ x3.toInt ≤ nHB x0.toInt)))) ∧ (3 < nNum x0.toInt → (0 ≤ 3 ∧ 3 < nNum x0.toInt ∧ nLow x0.toInt ≤ x4.toInt ∧ ((3 % 2 = 0 ∧ x4.toInt ≤ nHA x0.toInt) ∨ (3 % 2 = 1 ∧ x4.toInt ≤ nHB x0.toInt)))) ∧ (x0.toInt = 3 → x1.toInt ≤ x2.toInt ∧ x3.toInt ≤ x4.toInt)))) ∨ (r.toInt = 0 ∧ ¬ ((0 ≤ x0.toInt ∧ x0.toInt ≤ 9 ∧ (0 < nNum x0.toInt → (0 ≤ 0 ∧ 0 < nNum x0.toInt ∧ nLow x0.toInt ≤ x1.toInt ∧ ((0 % 2 = 0 ∧ x1.toInt ≤ nHA x0.toInt) ∨ (0 % 2 = 1 ∧ x1.toInt ≤ nHB x0.toInt)))) ∧ (1 < nNum x0.toInt → (0 ≤ 1 ∧ 1 < nNum x0.toInt ∧ nLow x0.toInt ≤ x2.toInt ∧ ((1 % 2 = 0 ∧ x2.toInt ≤ nHA x0.toInt) ∨ (1 % 2 = 1 ∧ x2.toInt ≤ nHB x0.toInt)))) ∧ (2 < nNum x0.toInt → (0 ≤ 2 ∧ 2 < nNum x0.toInt ∧ nLow x0.toInt ≤ x3.toInt ∧ ((2 % 2 = 0 ∧ x3.toInt ≤ nHA x0.toInt) ∨ (2 % 2 = 1 ∧ x3.toInt ≤ nHB x0.toInt)))) ∧ (3 < nNum x0.toInt → (0 ≤ 3 ∧ 3 < nNum x0.toInt ∧ nLow x0.toInt ≤ x4.toInt ∧ ((3 % 2 = 0 ∧ x4.toInt ≤ nHA x0.toInt) ∨ (3 % 2 = 1 ∧ x4.toInt ≤ nHB x0.toInt)))) ∧ (x0.toInt = 3 → x1.toInt ≤ x2.toInt ∧ x3.toInt ≤ x4.toInt)))))) ([.int x0, .int x1, .int x2, .int x3, .int x4] : List Value).toArray s 0 0 tNo) (F0 m 0 ls []) by subst eH; subst eL; exact hW
  refine lv_iload_n hx hb dX1_mayHave_0 rfl (lv_at hl 0 rfl) ?_
  refine tc_callp (tc_runS (As := [.int x0]) (rest := []) E hSt hG (x_X1_isKind l G τ x0) ks_X1_isKind ml_X1_9 ⟨rfl, rfl, Nat.le_of_ble_eq_true rfl, Nat.le_of_ble_eq_true rfl⟩ rfl hl.1 rfl (Nat.le_of_ble_eq_true rfl) ⟨Nat.zero_le _, Nat.zero_le _⟩ dX1_mayHave_1) (fun r1 pr1 => ?_)
  have pr1 : (r1.toInt = 1 ∧ (0 ≤ x0.toInt ∧ x0.toInt ≤ 9)) ∨ (r1.toInt = 0 ∧ ¬ (0 ≤ x0.toInt ∧ x0.toInt ≤ 9)) := pr1
  refine lv_if_ne (tgt := 9) hx hb dX1_mayHave_4 (by decide) (fun c2 => ?_) (fun c2 => ?_)
  · skip
    have ic2 := tn_ne rfl kI_0 c2
    refine tc_gets E hSt hG 0 (by decide) fs_X1_15 dX1_mayHave_9 ?_
    refine lv_iload_n hx hb dX1_mayHave_12 rfl (lv_at hl 0 rfl) ?_
    refine tc_tald E hSt hG 0 (by decide) (t_in (by omega) (by omega)) dX1_mayHave_13 ?_
    refine lv_topi (fun z3 ez3 => ?_)
    have tz3 := tn_tab0 ez3
    have xz3 := tS_0 ez3 (by omega) (by omega)
    refine lv_istore (lv' := [(5, .int z3), (0, .int x0), (1, .int x1), (2, .int x2), (3, .int x3), (4, .int x4)]) hx hb dX1_mayHave_14 hl (by decide) rfl (fun ls hl => ?_)
    refine lv_iload hx hb dX1_mayHave_16 (lv_at hl 0 rfl) ?_
    refine lv_if_le (tgt := 30) hx hb dX1_mayHave_18 (by decide) (fun c4 => ?_) (fun c4 => ?_)
    · skip
      have ic4 := tn_le rfl kI_0 c4
      refine lv_iload hx hb dX1_mayHave_30 (lv_at hl 0 rfl) ?_
      refine lv_iconst (v := 1) hx hb dX1_mayHave_32 (by decide) ?_
      refine lv_icmp_le (tgt := 45) hx hb dX1_mayHave_33 (by decide) (fun c5 => ?_) (fun c5 => ?_)
      · skip
        have ic5 := tn_le rfl kI_1 c5
        refine lv_iload hx hb dX1_mayHave_45 (lv_at hl 0 rfl) ?_
        refine lv_iconst (v := 2) hx hb dX1_mayHave_47 (by decide) ?_
        refine lv_icmp_le (tgt := 60) hx hb dX1_mayHave_48 (by decide) (fun c6 => ?_) (fun c6 => ?_)
        · skip
          have ic6 := tn_le rfl kI_2 c6
          refine lv_iload hx hb dX1_mayHave_60 (lv_at hl 0 rfl) ?_
          refine lv_iconst (v := 3) hx hb dX1_mayHave_62 (by decide) ?_
          refine lv_icmp_le (tgt := 78) hx hb dX1_mayHave_63 (by decide) (fun c7 => ?_) (fun c7 => ?_)
          · skip
            have ic7 := tn_le rfl kI_3 c7
            refine lv_iload_n hx hb dX1_mayHave_78 rfl (lv_at hl 1 rfl) ?_
            refine lv_iconst (v := 3) hx hb dX1_mayHave_79 (by decide) ?_
            refine lv_icmp_ne (tgt := 94) hx hb dX1_mayHave_80 (by decide) (fun c8 => ?_) (fun c8 => ?_)
            · skip
              have ic8 := tn_ne rfl kI_3 c8
              refine lv_iconst (v := 1) hx hb dX1_mayHave_94 (by decide) ?_
              refine lv_goto (tgt := 99) hx hb dX1_mayHave_95 (by decide) ?_
              exact tc_pret E hr hlk eH eL (t_nz (by decide) (by decide)).1 (show ((1 : Int32).toInt = 1 ∧ ((0 ≤ x0.toInt ∧ x0.toInt ≤ 9 ∧ (0 < nNum x0.toInt → (0 ≤ 0 ∧ 0 < nNum x0.toInt ∧ nLow x0.toInt ≤ x1.toInt ∧ ((0 % 2 = 0 ∧ x1.toInt ≤ nHA x0.toInt) ∨ (0 % 2 = 1 ∧ x1.toInt ≤ nHB x0.toInt)))) ∧ (1 < nNum x0.toInt → (0 ≤ 1 ∧ 1 < nNum x0.toInt ∧ nLow x0.toInt ≤ x2.toInt ∧ ((1 % 2 = 0 ∧ x2.toInt ≤ nHA x0.toInt) ∨ (1 % 2 = 1 ∧ x2.toInt ≤ nHB x0.toInt)))) ∧ (2 < nNum x0.toInt → (0 ≤ 2 ∧ 2 < nNum x0.toInt ∧ nLow x0.toInt ≤ x3.toInt ∧ ((2 % 2 = 0 ∧ x3.toInt ≤ nHA x0.toInt) ∨ (2 % 2 = 1 ∧ x3.toInt ≤ nHB x0.toInt)))) ∧ (3 < nNum x0.toInt → (0 ≤ 3 ∧ 3 < nNum x0.toInt ∧ nLow x0.toInt ≤ x4.toInt ∧ ((3 % 2 = 0 ∧ x4.toInt ≤ nHA x0.toInt) ∨ (3 % 2 = 1 ∧ x4.toInt ≤ nHB x0.toInt)))) ∧ (x0.toInt = 3 → x1.toInt ≤ x2.toInt ∧ x3.toInt ≤ x4.toInt)))) ∨ ((1 : Int32).toInt = 0 ∧ ¬ ((0 ≤ x0.toInt ∧ x0.toInt ≤ 9 ∧ (0 < nNum x0.toInt → (0 ≤ 0 ∧ 0 < nNum x0.toInt ∧ nLow x0.toInt ≤ x1.toInt ∧ ((0 % 2 = 0 ∧ x1.toInt ≤ nHA x0.toInt) ∨ (0 % 2 = 1 ∧ x1.toInt ≤ nHB x0.toInt)))) ∧ (1 < nNum x0.toInt → (0 ≤ 1 ∧ 1 < nNum x0.toInt ∧ nLow x0.toInt ≤ x2.toInt ∧ ((1 % 2 = 0 ∧ x2.toInt ≤ nHA x0.toInt) ∨ (1 % 2 = 1 ∧ x2.toInt ≤ nHB x0.toInt)))) ∧ (2 < nNum x0.toInt → (0 ≤ 2 ∧ 2 < nNum x0.toInt ∧ nLow x0.toInt ≤ x3.toInt ∧ ((2 % 2 = 0 ∧ x3.toInt ≤ nHA x0.toInt) ∨ (2 % 2 = 1 ∧ x3.toInt ≤ nHB x0.toInt)))) ∧ (3 < nNum x0.toInt → (0 ≤ 3 ∧ 3 < nNum x0.toInt ∧ nLow x0.toInt ≤ x4.toInt ∧ ((3 % 2 = 0 ∧ x4.toInt ≤ nHA x0.toInt) ∨ (3 % 2 = 1 ∧ x4.toInt ≤ nHB x0.toInt)))) ∧ (x0.toInt = 3 → x1.toInt ≤ x2.toInt ∧ x3.toInt ≤ x4.toInt)))) by have kk := kI_1; omega) dX1_mayHave_99
            · skip
              have ic8 := tn_eq rfl kI_3 c8
              refine lv_iload_n hx hb dX1_mayHave_83 rfl (lv_at hl 2 rfl) ?_
              refine lv_iload_n hx hb dX1_mayHave_84 rfl (lv_at hl 3 rfl) ?_
              refine lv_icmp_gt (tgt := 98) hx hb dX1_mayHave_85 (by decide) (fun c9 => ?_) (fun c9 => ?_)
              · skip
                have ic9 := tn_lt rfl rfl c9
                refine lv_iconst (v := 0) hx hb dX1_mayHave_98 (by decide) ?_
                exact tc_pret E hr hlk eH eL (t_nz (by decide) (by decide)).1 (show ((0 : Int32).toInt = 1 ∧ ((0 ≤ x0.toInt ∧ x0.toInt ≤ 9 ∧ (0 < nNum x0.toInt → (0 ≤ 0 ∧ 0 < nNum x0.toInt ∧ nLow x0.toInt ≤ x1.toInt ∧ ((0 % 2 = 0 ∧ x1.toInt ≤ nHA x0.toInt) ∨ (0 % 2 = 1 ∧ x1.toInt ≤ nHB x0.toInt)))) ∧ (1 < nNum x0.toInt → (0 ≤ 1 ∧ 1 < nNum x0.toInt ∧ nLow x0.toInt ≤ x2.toInt ∧ ((1 % 2 = 0 ∧ x2.toInt ≤ nHA x0.toInt) ∨ (1 % 2 = 1 ∧ x2.toInt ≤ nHB x0.toInt)))) ∧ (2 < nNum x0.toInt → (0 ≤ 2 ∧ 2 < nNum x0.toInt ∧ nLow x0.toInt ≤ x3.toInt ∧ ((2 % 2 = 0 ∧ x3.toInt ≤ nHA x0.toInt) ∨ (2 % 2 = 1 ∧ x3.toInt ≤ nHB x0.toInt)))) ∧ (3 < nNum x0.toInt → (0 ≤ 3 ∧ 3 < nNum x0.toInt ∧ nLow x0.toInt ≤ x4.toInt ∧ ((3 % 2 = 0 ∧ x4.toInt ≤ nHA x0.toInt) ∨ (3 % 2 = 1 ∧ x4.toInt ≤ nHB x0.toInt)))) ∧ (x0.toInt = 3 → x1.toInt ≤ x2.toInt ∧ x3.toInt ≤ x4.toInt)))) ∨ ((0 : Int32).toInt = 0 ∧ ¬ ((0 ≤ x0.toInt ∧ x0.toInt ≤ 9 ∧ (0 < nNum x0.toInt → (0 ≤ 0 ∧ 0 < nNum x0.toInt ∧ nLow x0.toInt ≤ x1.toInt ∧ ((0 % 2 = 0 ∧ x1.toInt ≤ nHA x0.toInt) ∨ (0 % 2 = 1 ∧ x1.toInt ≤ nHB x0.toInt)))) ∧ (1 < nNum x0.toInt → (0 ≤ 1 ∧ 1 < nNum x0.toInt ∧ nLow x0.toInt ≤ x2.toInt ∧ ((1 % 2 = 0 ∧ x2.toInt ≤ nHA x0.toInt) ∨ (1 % 2 = 1 ∧ x2.toInt ≤ nHB x0.toInt)))) ∧ (2 < nNum x0.toInt → (0 ≤ 2 ∧ 2 < nNum x0.toInt ∧ nLow x0.toInt ≤ x3.toInt ∧ ((2 % 2 = 0 ∧ x3.toInt ≤ nHA x0.toInt) ∨ (2 % 2 = 1 ∧ x3.toInt ≤ nHB x0.toInt)))) ∧ (3 < nNum x0.toInt → (0 ≤ 3 ∧ 3 < nNum x0.toInt ∧ nLow x0.toInt ≤ x4.toInt ∧ ((3 % 2 = 0 ∧ x4.toInt ≤ nHA x0.toInt) ∨ (3 % 2 = 1 ∧ x4.toInt ≤ nHB x0.toInt)))) ∧ (x0.toInt = 3 → x1.toInt ≤ x2.toInt ∧ x3.toInt ≤ x4.toInt)))) by have kk := kI_0; omega) dX1_mayHave_99
              · skip
                have ic9 := tn_nlt rfl rfl c9
                refine lv_iload_n hx hb dX1_mayHave_88 rfl (lv_at hl 4 rfl) ?_
                refine lv_iload hx hb dX1_mayHave_89 (lv_at hl 5 rfl) ?_
                refine lv_icmp_gt (tgt := 98) hx hb dX1_mayHave_91 (by decide) (fun c10 => ?_) (fun c10 => ?_)
                · skip
                  have ic10 := tn_lt rfl rfl c10
                  refine lv_iconst (v := 0) hx hb dX1_mayHave_98 (by decide) ?_
                  exact tc_pret E hr hlk eH eL (t_nz (by decide) (by decide)).1 (show ((0 : Int32).toInt = 1 ∧ ((0 ≤ x0.toInt ∧ x0.toInt ≤ 9 ∧ (0 < nNum x0.toInt → (0 ≤ 0 ∧ 0 < nNum x0.toInt ∧ nLow x0.toInt ≤ x1.toInt ∧ ((0 % 2 = 0 ∧ x1.toInt ≤ nHA x0.toInt) ∨ (0 % 2 = 1 ∧ x1.toInt ≤ nHB x0.toInt)))) ∧ (1 < nNum x0.toInt → (0 ≤ 1 ∧ 1 < nNum x0.toInt ∧ nLow x0.toInt ≤ x2.toInt ∧ ((1 % 2 = 0 ∧ x2.toInt ≤ nHA x0.toInt) ∨ (1 % 2 = 1 ∧ x2.toInt ≤ nHB x0.toInt)))) ∧ (2 < nNum x0.toInt → (0 ≤ 2 ∧ 2 < nNum x0.toInt ∧ nLow x0.toInt ≤ x3.toInt ∧ ((2 % 2 = 0 ∧ x3.toInt ≤ nHA x0.toInt) ∨ (2 % 2 = 1 ∧ x3.toInt ≤ nHB x0.toInt)))) ∧ (3 < nNum x0.toInt → (0 ≤ 3 ∧ 3 < nNum x0.toInt ∧ nLow x0.toInt ≤ x4.toInt ∧ ((3 % 2 = 0 ∧ x4.toInt ≤ nHA x0.toInt) ∨ (3 % 2 = 1 ∧ x4.toInt ≤ nHB x0.toInt)))) ∧ (x0.toInt = 3 → x1.toInt ≤ x2.toInt ∧ x3.toInt ≤ x4.toInt)))) ∨ ((0 : Int32).toInt = 0 ∧ ¬ ((0 ≤ x0.toInt ∧ x0.toInt ≤ 9 ∧ (0 < nNum x0.toInt → (0 ≤ 0 ∧ 0 < nNum x0.toInt ∧ nLow x0.toInt ≤ x1.toInt ∧ ((0 % 2 = 0 ∧ x1.toInt ≤ nHA x0.toInt) ∨ (0 % 2 = 1 ∧ x1.toInt ≤ nHB x0.toInt)))) ∧ (1 < nNum x0.toInt → (0 ≤ 1 ∧ 1 < nNum x0.toInt ∧ nLow x0.toInt ≤ x2.toInt ∧ ((1 % 2 = 0 ∧ x2.toInt ≤ nHA x0.toInt) ∨ (1 % 2 = 1 ∧ x2.toInt ≤ nHB x0.toInt)))) ∧ (2 < nNum x0.toInt → (0 ≤ 2 ∧ 2 < nNum x0.toInt ∧ nLow x0.toInt ≤ x3.toInt ∧ ((2 % 2 = 0 ∧ x3.toInt ≤ nHA x0.toInt) ∨ (2 % 2 = 1 ∧ x3.toInt ≤ nHB x0.toInt)))) ∧ (3 < nNum x0.toInt → (0 ≤ 3 ∧ 3 < nNum x0.toInt ∧ nLow x0.toInt ≤ x4.toInt ∧ ((3 % 2 = 0 ∧ x4.toInt ≤ nHA x0.toInt) ∨ (3 % 2 = 1 ∧ x4.toInt ≤ nHB x0.toInt)))) ∧ (x0.toInt = 3 → x1.toInt ≤ x2.toInt ∧ x3.toInt ≤ x4.toInt)))) by have kk := kI_0; omega) dX1_mayHave_99
                · skip
                  have ic10 := tn_nlt rfl rfl c10
                  refine lv_iconst (v := 1) hx hb dX1_mayHave_94 (by decide) ?_
                  refine lv_goto (tgt := 99) hx hb dX1_mayHave_95 (by decide) ?_
                  exact tc_pret E hr hlk eH eL (t_nz (by decide) (by decide)).1 (show ((1 : Int32).toInt = 1 ∧ ((0 ≤ x0.toInt ∧ x0.toInt ≤ 9 ∧ (0 < nNum x0.toInt → (0 ≤ 0 ∧ 0 < nNum x0.toInt ∧ nLow x0.toInt ≤ x1.toInt ∧ ((0 % 2 = 0 ∧ x1.toInt ≤ nHA x0.toInt) ∨ (0 % 2 = 1 ∧ x1.toInt ≤ nHB x0.toInt)))) ∧ (1 < nNum x0.toInt → (0 ≤ 1 ∧ 1 < nNum x0.toInt ∧ nLow x0.toInt ≤ x2.toInt ∧ ((1 % 2 = 0 ∧ x2.toInt ≤ nHA x0.toInt) ∨ (1 % 2 = 1 ∧ x2.toInt ≤ nHB x0.toInt)))) ∧ (2 < nNum x0.toInt → (0 ≤ 2 ∧ 2 < nNum x0.toInt ∧ nLow x0.toInt ≤ x3.toInt ∧ ((2 % 2 = 0 ∧ x3.toInt ≤ nHA x0.toInt) ∨ (2 % 2 = 1 ∧ x3.toInt ≤ nHB x0.toInt)))) ∧ (3 < nNum x0.toInt → (0 ≤ 3 ∧ 3 < nNum x0.toInt ∧ nLow x0.toInt ≤ x4.toInt ∧ ((3 % 2 = 0 ∧ x4.toInt ≤ nHA x0.toInt) ∨ (3 % 2 = 1 ∧ x4.toInt ≤ nHB x0.toInt)))) ∧ (x0.toInt = 3 → x1.toInt ≤ x2.toInt ∧ x3.toInt ≤ x4.toInt)))) ∨ ((1 : Int32).toInt = 0 ∧ ¬ ((0 ≤ x0.toInt ∧ x0.toInt ≤ 9 ∧ (0 < nNum x0.toInt → (0 ≤ 0 ∧ 0 < nNum x0.toInt ∧ nLow x0.toInt ≤ x1.toInt ∧ ((0 % 2 = 0 ∧ x1.toInt ≤ nHA x0.toInt) ∨ (0 % 2 = 1 ∧ x1.toInt ≤ nHB x0.toInt)))) ∧ (1 < nNum x0.toInt → (0 ≤ 1 ∧ 1 < nNum x0.toInt ∧ nLow x0.toInt ≤ x2.toInt ∧ ((1 % 2 = 0 ∧ x2.toInt ≤ nHA x0.toInt) ∨ (1 % 2 = 1 ∧ x2.toInt ≤ nHB x0.toInt)))) ∧ (2 < nNum x0.toInt → (0 ≤ 2 ∧ 2 < nNum x0.toInt ∧ nLow x0.toInt ≤ x3.toInt ∧ ((2 % 2 = 0 ∧ x3.toInt ≤ nHA x0.toInt) ∨ (2 % 2 = 1 ∧ x3.toInt ≤ nHB x0.toInt)))) ∧ (3 < nNum x0.toInt → (0 ≤ 3 ∧ 3 < nNum x0.toInt ∧ nLow x0.toInt ≤ x4.toInt ∧ ((3 % 2 = 0 ∧ x4.toInt ≤ nHA x0.toInt) ∨ (3 % 2 = 1 ∧ x4.toInt ≤ nHB x0.toInt)))) ∧ (x0.toInt = 3 → x1.toInt ≤ x2.toInt ∧ x3.toInt ≤ x4.toInt)))) by have kk := kI_1; omega) dX1_mayHave_99
          · exfalso
            have ic7 := tn_nle rfl kI_3 c7
            omega
        · exfalso
          have ic6 := tn_nle rfl kI_2 c6
          omega
      · exfalso
        have ic5 := tn_nle rfl kI_1 c5
        omega
    · skip
      have ic4 := tn_nle rfl kI_0 c4
      refine lv_iload_n hx hb dX1_mayHave_21 rfl (lv_at hl 1 rfl) ?_
      refine lv_iconst (v := 0) hx hb dX1_mayHave_22 (by decide) ?_
      refine lv_iload_n hx hb dX1_mayHave_23 rfl (lv_at hl 2 rfl) ?_
      refine tc_callp (tc_runS (As := [.int x0, .int 0, .int x1]) (rest := []) E hSt hG (x_X1_isInRange l G τ x0 (0 : Int32) x1) ks_X1_isInRange ml_X1_35 ⟨rfl, rfl, Nat.le_of_ble_eq_true rfl, Nat.le_of_ble_eq_true rfl⟩ rfl hl.1 rfl (Nat.le_of_ble_eq_true rfl) ⟨Nat.zero_le _, Nat.zero_le _⟩ dX1_mayHave_24) (fun r11 pr11 => ?_)
      have pr11 : ((r11.toInt = 1 ∧ ((0 ≤ (0 : Int32).toInt ∧ (0 : Int32).toInt < nNum x0.toInt ∧ nLow x0.toInt ≤ x1.toInt ∧ (((0 : Int32).toInt % 2 = 0 ∧ x1.toInt ≤ nHA x0.toInt) ∨ ((0 : Int32).toInt % 2 = 1 ∧ x1.toInt ≤ nHB x0.toInt))))) ∨ (r11.toInt = 0 ∧ ¬ ((0 ≤ (0 : Int32).toInt ∧ (0 : Int32).toInt < nNum x0.toInt ∧ nLow x0.toInt ≤ x1.toInt ∧ (((0 : Int32).toInt % 2 = 0 ∧ x1.toInt ≤ nHA x0.toInt) ∨ ((0 : Int32).toInt % 2 = 1 ∧ x1.toInt ≤ nHB x0.toInt)))))) ∧ (r11.toInt = 0 ∨ (0 ≤ (0 : Int32).toInt ∧ (0 : Int32).toInt ≤ 3)) := pr11
      have k12 := kI_0
      refine lv_if_eq (tgt := 76) hx hb dX1_mayHave_27 (by decide) (fun c13 => ?_) (fun c13 => ?_)
      · skip
        have ic13 := tn_eq rfl kI_0 c13
        refine lv_iconst (v := 0) hx hb dX1_mayHave_76 (by decide) ?_
        exact tc_pret E hr hlk eH eL (t_nz (by decide) (by decide)).1 (show ((0 : Int32).toInt = 1 ∧ ((0 ≤ x0.toInt ∧ x0.toInt ≤ 9 ∧ (0 < nNum x0.toInt → (0 ≤ 0 ∧ 0 < nNum x0.toInt ∧ nLow x0.toInt ≤ x1.toInt ∧ ((0 % 2 = 0 ∧ x1.toInt ≤ nHA x0.toInt) ∨ (0 % 2 = 1 ∧ x1.toInt ≤ nHB x0.toInt)))) ∧ (1 < nNum x0.toInt → (0 ≤ 1 ∧ 1 < nNum x0.toInt ∧ nLow x0.toInt ≤ x2.toInt ∧ ((1 % 2 = 0 ∧ x2.toInt ≤ nHA x0.toInt) ∨ (1 % 2 = 1 ∧ x2.toInt ≤ nHB x0.toInt)))) ∧ (2 < nNum x0.toInt → (0 ≤ 2 ∧ 2 < nNum x0.toInt ∧ nLow x0.toInt ≤ x3.toInt ∧ ((2 % 2 = 0 ∧ x3.toInt ≤ nHA x0.toInt) ∨ (2 % 2 = 1 ∧ x3.toInt ≤ nHB x0.toInt)))) ∧ (3 < nNum x0.toInt → (0 ≤ 3 ∧ 3 < nNum x0.toInt ∧ nLow x0.toInt ≤ x4.toInt ∧ ((3 % 2 = 0 ∧ x4.toInt ≤ nHA x0.toInt) ∨ (3 % 2 = 1 ∧ x4.toInt ≤ nHB x0.toInt)))) ∧ (x0.toInt = 3 → x1.toInt ≤ x2.toInt ∧ x3.toInt ≤ x4.toInt)))) ∨ ((0 : Int32).toInt = 0 ∧ ¬ ((0 ≤ x0.toInt ∧ x0.toInt ≤ 9 ∧ (0 < nNum x0.toInt → (0 ≤ 0 ∧ 0 < nNum x0.toInt ∧ nLow x0.toInt ≤ x1.toInt ∧ ((0 % 2 = 0 ∧ x1.toInt ≤ nHA x0.toInt) ∨ (0 % 2 = 1 ∧ x1.toInt ≤ nHB x0.toInt)))) ∧ (1 < nNum x0.toInt → (0 ≤ 1 ∧ 1 < nNum x0.toInt ∧ nLow x0.toInt ≤ x2.toInt ∧ ((1 % 2 = 0 ∧ x2.toInt ≤ nHA x0.toInt) ∨ (1 % 2 = 1 ∧ x2.toInt ≤ nHB x0.toInt)))) ∧ (2 < nNum x0.toInt → (0 ≤ 2 ∧ 2 < nNum x0.toInt ∧ nLow x0.toInt ≤ x3.toInt ∧ ((2 % 2 = 0 ∧ x3.toInt ≤ nHA x0.toInt) ∨ (2 % 2 = 1 ∧ x3.toInt ≤ nHB x0.toInt)))) ∧ (3 < nNum x0.toInt → (0 ≤ 3 ∧ 3 < nNum x0.toInt ∧ nLow x0.toInt ≤ x4.toInt ∧ ((3 % 2 = 0 ∧ x4.toInt ≤ nHA x0.toInt) ∨ (3 % 2 = 1 ∧ x4.toInt ≤ nHB x0.toInt)))) ∧ (x0.toInt = 3 → x1.toInt ≤ x2.toInt ∧ x3.toInt ≤ x4.toInt)))) by have kk := kI_0; omega) dX1_mayHave_77
      · skip
        have ic13 := tn_ne rfl kI_0 c13
        refine lv_iload hx hb dX1_mayHave_30 (lv_at hl 0 rfl) ?_
        refine lv_iconst (v := 1) hx hb dX1_mayHave_32 (by decide) ?_
        refine lv_icmp_le (tgt := 45) hx hb dX1_mayHave_33 (by decide) (fun c14 => ?_) (fun c14 => ?_)
        · skip
          have ic14 := tn_le rfl kI_1 c14
          refine lv_iload hx hb dX1_mayHave_45 (lv_at hl 0 rfl) ?_
          refine lv_iconst (v := 2) hx hb dX1_mayHave_47 (by decide) ?_
          refine lv_icmp_le (tgt := 60) hx hb dX1_mayHave_48 (by decide) (fun c15 => ?_) (fun c15 => ?_)
          · skip
            have ic15 := tn_le rfl kI_2 c15
            refine lv_iload hx hb dX1_mayHave_60 (lv_at hl 0 rfl) ?_
            refine lv_iconst (v := 3) hx hb dX1_mayHave_62 (by decide) ?_
            refine lv_icmp_le (tgt := 78) hx hb dX1_mayHave_63 (by decide) (fun c16 => ?_) (fun c16 => ?_)
            · skip
              have ic16 := tn_le rfl kI_3 c16
              refine lv_iload_n hx hb dX1_mayHave_78 rfl (lv_at hl 1 rfl) ?_
              refine lv_iconst (v := 3) hx hb dX1_mayHave_79 (by decide) ?_
              refine lv_icmp_ne (tgt := 94) hx hb dX1_mayHave_80 (by decide) (fun c17 => ?_) (fun c17 => ?_)
              · skip
                have ic17 := tn_ne rfl kI_3 c17
                refine lv_iconst (v := 1) hx hb dX1_mayHave_94 (by decide) ?_
                refine lv_goto (tgt := 99) hx hb dX1_mayHave_95 (by decide) ?_
                exact tc_pret E hr hlk eH eL (t_nz (by decide) (by decide)).1 (show ((1 : Int32).toInt = 1 ∧ ((0 ≤ x0.toInt ∧ x0.toInt ≤ 9 ∧ (0 < nNum x0.toInt → (0 ≤ 0 ∧ 0 < nNum x0.toInt ∧ nLow x0.toInt ≤ x1.toInt ∧ ((0 % 2 = 0 ∧ x1.toInt ≤ nHA x0.toInt) ∨ (0 % 2 = 1 ∧ x1.toInt ≤ nHB x0.toInt)))) ∧ (1 < nNum x0.toInt → (0 ≤ 1 ∧ 1 < nNum x0.toInt ∧ nLow x0.toInt ≤ x2.toInt ∧ ((1 % 2 = 0 ∧ x2.toInt ≤ nHA x0.toInt) ∨ (1 % 2 = 1 ∧ x2.toInt ≤ nHB x0.toInt)))) ∧ (2 < nNum x0.toInt → (0 ≤ 2 ∧ 2 < nNum x0.toInt ∧ nLow x0.toInt ≤ x3.toInt ∧ ((2 % 2 = 0 ∧ x3.toInt ≤ nHA x0.toInt) ∨ (2 % 2 = 1 ∧ x3.toInt ≤ nHB x0.toInt)))) ∧ (3 < nNum x0.toInt → (0 ≤ 3 ∧ 3 < nNum x0.toInt ∧ nLow x0.toInt ≤ x4.toInt ∧ ((3 % 2 = 0 ∧ x4.toInt ≤ nHA x0.toInt) ∨ (3 % 2 = 1 ∧ x4.toInt ≤ nHB x0.toInt)))) ∧ (x0.toInt = 3 → x1.toInt ≤ x2.toInt ∧ x3.toInt ≤ x4.toInt)))) ∨ ((1 : Int32).toInt = 0 ∧ ¬ ((0 ≤ x0.toInt ∧ x0.toInt ≤ 9 ∧ (0 < nNum x0.toInt → (0 ≤ 0 ∧ 0 < nNum x0.toInt ∧ nLow x0.toInt ≤ x1.toInt ∧ ((0 % 2 = 0 ∧ x1.toInt ≤ nHA x0.toInt) ∨ (0 % 2 = 1 ∧ x1.toInt ≤ nHB x0.toInt)))) ∧ (1 < nNum x0.toInt → (0 ≤ 1 ∧ 1 < nNum x0.toInt ∧ nLow x0.toInt ≤ x2.toInt ∧ ((1 % 2 = 0 ∧ x2.toInt ≤ nHA x0.toInt) ∨ (1 % 2 = 1 ∧ x2.toInt ≤ nHB x0.toInt)))) ∧ (2 < nNum x0.toInt → (0 ≤ 2 ∧ 2 < nNum x0.toInt ∧ nLow x0.toInt ≤ x3.toInt ∧ ((2 % 2 = 0 ∧ x3.toInt ≤ nHA x0.toInt) ∨ (2 % 2 = 1 ∧ x3.toInt ≤ nHB x0.toInt)))) ∧ (3 < nNum x0.toInt → (0 ≤ 3 ∧ 3 < nNum x0.toInt ∧ nLow x0.toInt ≤ x4.toInt ∧ ((3 % 2 = 0 ∧ x4.toInt ≤ nHA x0.toInt) ∨ (3 % 2 = 1 ∧ x4.toInt ≤ nHB x0.toInt)))) ∧ (x0.toInt = 3 → x1.toInt ≤ x2.toInt ∧ x3.toInt ≤ x4.toInt)))) by have kk := kI_1; omega) dX1_mayHave_99
              · skip
                have ic17 := tn_eq rfl kI_3 c17
                refine lv_iload_n hx hb dX1_mayHave_83 rfl (lv_at hl 2 rfl) ?_
                refine lv_iload_n hx hb dX1_mayHave_84 rfl (lv_at hl 3 rfl) ?_
                refine lv_icmp_gt (tgt := 98) hx hb dX1_mayHave_85 (by decide) (fun c18 => ?_) (fun c18 => ?_)
                · skip
                  have ic18 := tn_lt rfl rfl c18
                  refine lv_iconst (v := 0) hx hb dX1_mayHave_98 (by decide) ?_
                  exact tc_pret E hr hlk eH eL (t_nz (by decide) (by decide)).1 (show ((0 : Int32).toInt = 1 ∧ ((0 ≤ x0.toInt ∧ x0.toInt ≤ 9 ∧ (0 < nNum x0.toInt → (0 ≤ 0 ∧ 0 < nNum x0.toInt ∧ nLow x0.toInt ≤ x1.toInt ∧ ((0 % 2 = 0 ∧ x1.toInt ≤ nHA x0.toInt) ∨ (0 % 2 = 1 ∧ x1.toInt ≤ nHB x0.toInt)))) ∧ (1 < nNum x0.toInt → (0 ≤ 1 ∧ 1 < nNum x0.toInt ∧ nLow x0.toInt ≤ x2.toInt ∧ ((1 % 2 = 0 ∧ x2.toInt ≤ nHA x0.toInt) ∨ (1 % 2 = 1 ∧ x2.toInt ≤ nHB x0.toInt)))) ∧ (2 < nNum x0.toInt → (0 ≤ 2 ∧ 2 < nNum x0.toInt ∧ nLow x0.toInt ≤ x3.toInt ∧ ((2 % 2 = 0 ∧ x3.toInt ≤ nHA x0.toInt) ∨ (2 % 2 = 1 ∧ x3.toInt ≤ nHB x0.toInt)))) ∧ (3 < nNum x0.toInt → (0 ≤ 3 ∧ 3 < nNum x0.toInt ∧ nLow x0.toInt ≤ x4.toInt ∧ ((3 % 2 = 0 ∧ x4.toInt ≤ nHA x0.toInt) ∨ (3 % 2 = 1 ∧ x4.toInt ≤ nHB x0.toInt)))) ∧ (x0.toInt = 3 → x1.toInt ≤ x2.toInt ∧ x3.toInt ≤ x4.toInt)))) ∨ ((0 : Int32).toInt = 0 ∧ ¬ ((0 ≤ x0.toInt ∧ x0.toInt ≤ 9 ∧ (0 < nNum x0.toInt → (0 ≤ 0 ∧ 0 < nNum x0.toInt ∧ nLow x0.toInt ≤ x1.toInt ∧ ((0 % 2 = 0 ∧ x1.toInt ≤ nHA x0.toInt) ∨ (0 % 2 = 1 ∧ x1.toInt ≤ nHB x0.toInt)))) ∧ (1 < nNum x0.toInt → (0 ≤ 1 ∧ 1 < nNum x0.toInt ∧ nLow x0.toInt ≤ x2.toInt ∧ ((1 % 2 = 0 ∧ x2.toInt ≤ nHA x0.toInt) ∨ (1 % 2 = 1 ∧ x2.toInt ≤ nHB x0.toInt)))) ∧ (2 < nNum x0.toInt → (0 ≤ 2 ∧ 2 < nNum x0.toInt ∧ nLow x0.toInt ≤ x3.toInt ∧ ((2 % 2 = 0 ∧ x3.toInt ≤ nHA x0.toInt) ∨ (2 % 2 = 1 ∧ x3.toInt ≤ nHB x0.toInt)))) ∧ (3 < nNum x0.toInt → (0 ≤ 3 ∧ 3 < nNum x0.toInt ∧ nLow x0.toInt ≤ x4.toInt ∧ ((3 % 2 = 0 ∧ x4.toInt ≤ nHA x0.toInt) ∨ (3 % 2 = 1 ∧ x4.toInt ≤ nHB x0.toInt)))) ∧ (x0.toInt = 3 → x1.toInt ≤ x2.toInt ∧ x3.toInt ≤ x4.toInt)))) by have kk := kI_0; omega) dX1_mayHave_99
                · skip
                  have ic18 := tn_nlt rfl rfl c18
                  refine lv_iload_n hx hb dX1_mayHave_88 rfl (lv_at hl 4 rfl) ?_
                  refine lv_iload hx hb dX1_mayHave_89 (lv_at hl 5 rfl) ?_
                  refine lv_icmp_gt (tgt := 98) hx hb dX1_mayHave_91 (by decide) (fun c19 => ?_) (fun c19 => ?_)
                  · skip
                    have ic19 := tn_lt rfl rfl c19
                    refine lv_iconst (v := 0) hx hb dX1_mayHave_98 (by decide) ?_
                    exact tc_pret E hr hlk eH eL (t_nz (by decide) (by decide)).1 (show ((0 : Int32).toInt = 1 ∧ ((0 ≤ x0.toInt ∧ x0.toInt ≤ 9 ∧ (0 < nNum x0.toInt → (0 ≤ 0 ∧ 0 < nNum x0.toInt ∧ nLow x0.toInt ≤ x1.toInt ∧ ((0 % 2 = 0 ∧ x1.toInt ≤ nHA x0.toInt) ∨ (0 % 2 = 1 ∧ x1.toInt ≤ nHB x0.toInt)))) ∧ (1 < nNum x0.toInt → (0 ≤ 1 ∧ 1 < nNum x0.toInt ∧ nLow x0.toInt ≤ x2.toInt ∧ ((1 % 2 = 0 ∧ x2.toInt ≤ nHA x0.toInt) ∨ (1 % 2 = 1 ∧ x2.toInt ≤ nHB x0.toInt)))) ∧ (2 < nNum x0.toInt → (0 ≤ 2 ∧ 2 < nNum x0.toInt ∧ nLow x0.toInt ≤ x3.toInt ∧ ((2 % 2 = 0 ∧ x3.toInt ≤ nHA x0.toInt) ∨ (2 % 2 = 1 ∧ x3.toInt ≤ nHB x0.toInt)))) ∧ (3 < nNum x0.toInt → (0 ≤ 3 ∧ 3 < nNum x0.toInt ∧ nLow x0.toInt ≤ x4.toInt ∧ ((3 % 2 = 0 ∧ x4.toInt ≤ nHA x0.toInt) ∨ (3 % 2 = 1 ∧ x4.toInt ≤ nHB x0.toInt)))) ∧ (x0.toInt = 3 → x1.toInt ≤ x2.toInt ∧ x3.toInt ≤ x4.toInt)))) ∨ ((0 : Int32).toInt = 0 ∧ ¬ ((0 ≤ x0.toInt ∧ x0.toInt ≤ 9 ∧ (0 < nNum x0.toInt → (0 ≤ 0 ∧ 0 < nNum x0.toInt ∧ nLow x0.toInt ≤ x1.toInt ∧ ((0 % 2 = 0 ∧ x1.toInt ≤ nHA x0.toInt) ∨ (0 % 2 = 1 ∧ x1.toInt ≤ nHB x0.toInt)))) ∧ (1 < nNum x0.toInt → (0 ≤ 1 ∧ 1 < nNum x0.toInt ∧ nLow x0.toInt ≤ x2.toInt ∧ ((1 % 2 = 0 ∧ x2.toInt ≤ nHA x0.toInt) ∨ (1 % 2 = 1 ∧ x2.toInt ≤ nHB x0.toInt)))) ∧ (2 < nNum x0.toInt → (0 ≤ 2 ∧ 2 < nNum x0.toInt ∧ nLow x0.toInt ≤ x3.toInt ∧ ((2 % 2 = 0 ∧ x3.toInt ≤ nHA x0.toInt) ∨ (2 % 2 = 1 ∧ x3.toInt ≤ nHB x0.toInt)))) ∧ (3 < nNum x0.toInt → (0 ≤ 3 ∧ 3 < nNum x0.toInt ∧ nLow x0.toInt ≤ x4.toInt ∧ ((3 % 2 = 0 ∧ x4.toInt ≤ nHA x0.toInt) ∨ (3 % 2 = 1 ∧ x4.toInt ≤ nHB x0.toInt)))) ∧ (x0.toInt = 3 → x1.toInt ≤ x2.toInt ∧ x3.toInt ≤ x4.toInt)))) by have kk := kI_0; omega) dX1_mayHave_99
                  · skip
                    have ic19 := tn_nlt rfl rfl c19
                    refine lv_iconst (v := 1) hx hb dX1_mayHave_94 (by decide) ?_
                    refine lv_goto (tgt := 99) hx hb dX1_mayHave_95 (by decide) ?_
                    exact tc_pret E hr hlk eH eL (t_nz (by decide) (by decide)).1 (show ((1 : Int32).toInt = 1 ∧ ((0 ≤ x0.toInt ∧ x0.toInt ≤ 9 ∧ (0 < nNum x0.toInt → (0 ≤ 0 ∧ 0 < nNum x0.toInt ∧ nLow x0.toInt ≤ x1.toInt ∧ ((0 % 2 = 0 ∧ x1.toInt ≤ nHA x0.toInt) ∨ (0 % 2 = 1 ∧ x1.toInt ≤ nHB x0.toInt)))) ∧ (1 < nNum x0.toInt → (0 ≤ 1 ∧ 1 < nNum x0.toInt ∧ nLow x0.toInt ≤ x2.toInt ∧ ((1 % 2 = 0 ∧ x2.toInt ≤ nHA x0.toInt) ∨ (1 % 2 = 1 ∧ x2.toInt ≤ nHB x0.toInt)))) ∧ (2 < nNum x0.toInt → (0 ≤ 2 ∧ 2 < nNum x0.toInt ∧ nLow x0.toInt ≤ x3.toInt ∧ ((2 % 2 = 0 ∧ x3.toInt ≤ nHA x0.toInt) ∨ (2 % 2 = 1 ∧ x3.toInt ≤ nHB x0.toInt)))) ∧ (3 < nNum x0.toInt → (0 ≤ 3 ∧ 3 < nNum x0.toInt ∧ nLow x0.toInt ≤ x4.toInt ∧ ((3 % 2 = 0 ∧ x4.toInt ≤ nHA x0.toInt) ∨ (3 % 2 = 1 ∧ x4.toInt ≤ nHB x0.toInt)))) ∧ (x0.toInt = 3 → x1.toInt ≤ x2.toInt ∧ x3.toInt ≤ x4.toInt)))) ∨ ((1 : Int32).toInt = 0 ∧ ¬ ((0 ≤ x0.toInt ∧ x0.toInt ≤ 9 ∧ (0 < nNum x0.toInt → (0 ≤ 0 ∧ 0 < nNum x0.toInt ∧ nLow x0.toInt ≤ x1.toInt ∧ ((0 % 2 = 0 ∧ x1.toInt ≤ nHA x0.toInt) ∨ (0 % 2 = 1 ∧ x1.toInt ≤ nHB x0.toInt)))) ∧ (1 < nNum x0.toInt → (0 ≤ 1 ∧ 1 < nNum x0.toInt ∧ nLow x0.toInt ≤ x2.toInt ∧ ((1 % 2 = 0 ∧ x2.toInt ≤ nHA x0.toInt) ∨ (1 % 2 = 1 ∧ x2.toInt ≤ nHB x0.toInt)))) ∧ (2 < nNum x0.toInt → (0 ≤ 2 ∧ 2 < nNum x0.toInt ∧ nLow x0.toInt ≤ x3.toInt ∧ ((2 % 2 = 0 ∧ x3.toInt ≤ nHA x0.toInt) ∨ (2 % 2 = 1 ∧ x3.toInt ≤ nHB x0.toInt)))) ∧ (3 < nNum x0.toInt → (0 ≤ 3 ∧ 3 < nNum x0.toInt ∧ nLow x0.toInt ≤ x4.toInt ∧ ((3 % 2 = 0 ∧ x4.toInt ≤ nHA x0.toInt) ∨ (3 % 2 = 1 ∧ x4.toInt ≤ nHB x0.toInt)))) ∧ (x0.toInt = 3 → x1.toInt ≤ x2.toInt ∧ x3.toInt ≤ x4.toInt)))) by have kk := kI_1; omega) dX1_mayHave_99
            · exfalso
              have ic16 := tn_nle rfl kI_3 c16
              omega
          · exfalso
            have ic15 := tn_nle rfl kI_2 c15
            omega
        · skip
          have ic14 := tn_nle rfl kI_1 c14
          refine lv_iload_n hx hb dX1_mayHave_36 rfl (lv_at hl 1 rfl) ?_
          refine lv_iconst (v := 1) hx hb dX1_mayHave_37 (by decide) ?_
          refine lv_iload_n hx hb dX1_mayHave_38 rfl (lv_at hl 3 rfl) ?_
          refine tc_callp (tc_runS (As := [.int x0, .int 1, .int x2]) (rest := []) E hSt hG (x_X1_isInRange l G τ x0 (1 : Int32) x2) ks_X1_isInRange ml_X1_35 ⟨rfl, rfl, Nat.le_of_ble_eq_true rfl, Nat.le_of_ble_eq_true rfl⟩ rfl hl.1 rfl (Nat.le_of_ble_eq_true rfl) ⟨Nat.zero_le _, Nat.zero_le _⟩ dX1_mayHave_39) (fun r20 pr20 => ?_)
          have pr20 : ((r20.toInt = 1 ∧ ((0 ≤ (1 : Int32).toInt ∧ (1 : Int32).toInt < nNum x0.toInt ∧ nLow x0.toInt ≤ x2.toInt ∧ (((1 : Int32).toInt % 2 = 0 ∧ x2.toInt ≤ nHA x0.toInt) ∨ ((1 : Int32).toInt % 2 = 1 ∧ x2.toInt ≤ nHB x0.toInt))))) ∨ (r20.toInt = 0 ∧ ¬ ((0 ≤ (1 : Int32).toInt ∧ (1 : Int32).toInt < nNum x0.toInt ∧ nLow x0.toInt ≤ x2.toInt ∧ (((1 : Int32).toInt % 2 = 0 ∧ x2.toInt ≤ nHA x0.toInt) ∨ ((1 : Int32).toInt % 2 = 1 ∧ x2.toInt ≤ nHB x0.toInt)))))) ∧ (r20.toInt = 0 ∨ (0 ≤ (1 : Int32).toInt ∧ (1 : Int32).toInt ≤ 3)) := pr20
          have k21 := kI_1
          refine lv_if_eq (tgt := 76) hx hb dX1_mayHave_42 (by decide) (fun c22 => ?_) (fun c22 => ?_)
          · skip
            have ic22 := tn_eq rfl kI_0 c22
            refine lv_iconst (v := 0) hx hb dX1_mayHave_76 (by decide) ?_
            exact tc_pret E hr hlk eH eL (t_nz (by decide) (by decide)).1 (show ((0 : Int32).toInt = 1 ∧ ((0 ≤ x0.toInt ∧ x0.toInt ≤ 9 ∧ (0 < nNum x0.toInt → (0 ≤ 0 ∧ 0 < nNum x0.toInt ∧ nLow x0.toInt ≤ x1.toInt ∧ ((0 % 2 = 0 ∧ x1.toInt ≤ nHA x0.toInt) ∨ (0 % 2 = 1 ∧ x1.toInt ≤ nHB x0.toInt)))) ∧ (1 < nNum x0.toInt → (0 ≤ 1 ∧ 1 < nNum x0.toInt ∧ nLow x0.toInt ≤ x2.toInt ∧ ((1 % 2 = 0 ∧ x2.toInt ≤ nHA x0.toInt) ∨ (1 % 2 = 1 ∧ x2.toInt ≤ nHB x0.toInt)))) ∧ (2 < nNum x0.toInt → (0 ≤ 2 ∧ 2 < nNum x0.toInt ∧ nLow x0.toInt ≤ x3.toInt ∧ ((2 % 2 = 0 ∧ x3.toInt ≤ nHA x0.toInt) ∨ (2 % 2 = 1 ∧ x3.toInt ≤ nHB x0.toInt)))) ∧ (3 < nNum x0.toInt → (0 ≤ 3 ∧ 3 < nNum x0.toInt ∧ nLow x0.toInt ≤ x4.toInt ∧ ((3 % 2 = 0 ∧ x4.toInt ≤ nHA x0.toInt) ∨ (3 % 2 = 1 ∧ x4.toInt ≤ nHB x0.toInt)))) ∧ (x0.toInt = 3 → x1.toInt ≤ x2.toInt ∧ x3.toInt ≤ x4.toInt)))) ∨ ((0 : Int32).toInt = 0 ∧ ¬ ((0 ≤ x0.toInt ∧ x0.toInt ≤ 9 ∧ (0 < nNum x0.toInt → (0 ≤ 0 ∧ 0 < nNum x0.toInt ∧ nLow x0.toInt ≤ x1.toInt ∧ ((0 % 2 = 0 ∧ x1.toInt ≤ nHA x0.toInt) ∨ (0 % 2 = 1 ∧ x1.toInt ≤ nHB x0.toInt)))) ∧ (1 < nNum x0.toInt → (0 ≤ 1 ∧ 1 < nNum x0.toInt ∧ nLow x0.toInt ≤ x2.toInt ∧ ((1 % 2 = 0 ∧ x2.toInt ≤ nHA x0.toInt) ∨ (1 % 2 = 1 ∧ x2.toInt ≤ nHB x0.toInt)))) ∧ (2 < nNum x0.toInt → (0 ≤ 2 ∧ 2 < nNum x0.toInt ∧ nLow x0.toInt ≤ x3.toInt ∧ ((2 % 2 = 0 ∧ x3.toInt ≤ nHA x0.toInt) ∨ (2 % 2 = 1 ∧ x3.toInt ≤ nHB x0.toInt)))) ∧ (3 < nNum x0.toInt → (0 ≤ 3 ∧ 3 < nNum x0.toInt ∧ nLow x0.toInt ≤ x4.toInt ∧ ((3 % 2 = 0 ∧ x4.toInt ≤ nHA x0.toInt) ∨ (3 % 2 = 1 ∧ x4.toInt ≤ nHB x0.toInt)))) ∧ (x0.toInt = 3 → x1.toInt ≤ x2.toInt ∧ x3.toInt ≤ x4.toInt)))) by have kk := kI_0; omega) dX1_mayHave_77
          · skip
            have ic22 := tn_ne rfl kI_0 c22
            refine lv_iload hx hb dX1_mayHave_45 (lv_at hl 0 rfl) ?_
            refine lv_iconst (v := 2) hx hb dX1_mayHave_47 (by decide) ?_
            refine lv_icmp_le (tgt := 60) hx hb dX1_mayHave_48 (by decide) (fun c23 => ?_) (fun c23 => ?_)
            · skip
              have ic23 := tn_le rfl kI_2 c23
              refine lv_iload hx hb dX1_mayHave_60 (lv_at hl 0 rfl) ?_
              refine lv_iconst (v := 3) hx hb dX1_mayHave_62 (by decide) ?_
              refine lv_icmp_le (tgt := 78) hx hb dX1_mayHave_63 (by decide) (fun c24 => ?_) (fun c24 => ?_)
              · skip
                have ic24 := tn_le rfl kI_3 c24
                refine lv_iload_n hx hb dX1_mayHave_78 rfl (lv_at hl 1 rfl) ?_
                refine lv_iconst (v := 3) hx hb dX1_mayHave_79 (by decide) ?_
                refine lv_icmp_ne (tgt := 94) hx hb dX1_mayHave_80 (by decide) (fun c25 => ?_) (fun c25 => ?_)
                · skip
                  have ic25 := tn_ne rfl kI_3 c25
                  refine lv_iconst (v := 1) hx hb dX1_mayHave_94 (by decide) ?_
                  refine lv_goto (tgt := 99) hx hb dX1_mayHave_95 (by decide) ?_
                  exact tc_pret E hr hlk eH eL (t_nz (by decide) (by decide)).1 (show ((1 : Int32).toInt = 1 ∧ ((0 ≤ x0.toInt ∧ x0.toInt ≤ 9 ∧ (0 < nNum x0.toInt → (0 ≤ 0 ∧ 0 < nNum x0.toInt ∧ nLow x0.toInt ≤ x1.toInt ∧ ((0 % 2 = 0 ∧ x1.toInt ≤ nHA x0.toInt) ∨ (0 % 2 = 1 ∧ x1.toInt ≤ nHB x0.toInt)))) ∧ (1 < nNum x0.toInt → (0 ≤ 1 ∧ 1 < nNum x0.toInt ∧ nLow x0.toInt ≤ x2.toInt ∧ ((1 % 2 = 0 ∧ x2.toInt ≤ nHA x0.toInt) ∨ (1 % 2 = 1 ∧ x2.toInt ≤ nHB x0.toInt)))) ∧ (2 < nNum x0.toInt → (0 ≤ 2 ∧ 2 < nNum x0.toInt ∧ nLow x0.toInt ≤ x3.toInt ∧ ((2 % 2 = 0 ∧ x3.toInt ≤ nHA x0.toInt) ∨ (2 % 2 = 1 ∧ x3.toInt ≤ nHB x0.toInt)))) ∧ (3 < nNum x0.toInt → (0 ≤ 3 ∧ 3 < nNum x0.toInt ∧ nLow x0.toInt ≤ x4.toInt ∧ ((3 % 2 = 0 ∧ x4.toInt ≤ nHA x0.toInt) ∨ (3 % 2 = 1 ∧ x4.toInt ≤ nHB x0.toInt)))) ∧ (x0.toInt = 3 → x1.toInt ≤ x2.toInt ∧ x3.toInt ≤ x4.toInt)))) ∨ ((1 : Int32).toInt = 0 ∧ ¬ ((0 ≤ x0.toInt ∧ x0.toInt ≤ 9 ∧ (0 < nNum x0.toInt → (0 ≤ 0 ∧ 0 < nNum x0.toInt ∧ nLow x0.toInt ≤ x1.toInt ∧ ((0 % 2 = 0 ∧ x1.toInt ≤ nHA x0.toInt) ∨ (0 % 2 = 1 ∧ x1.toInt ≤ nHB x0.toInt)))) ∧ (1 < nNum x0.toInt → (0 ≤ 1 ∧ 1 < nNum x0.toInt ∧ nLow x0.toInt ≤ x2.toInt ∧ ((1 % 2 = 0 ∧ x2.toInt ≤ nHA x0.toInt) ∨ (1 % 2 = 1 ∧ x2.toInt ≤ nHB x0.toInt)))) ∧ (2 < nNum x0.toInt → (0 ≤ 2 ∧ 2 < nNum x0.toInt ∧ nLow x0.toInt ≤ x3.toInt ∧ ((2 % 2 = 0 ∧ x3.toInt ≤ nHA x0.toInt) ∨ (2 % 2 = 1 ∧ x3.toInt ≤ nHB x0.toInt)))) ∧ (3 < nNum x0.toInt → (0 ≤ 3 ∧ 3 < nNum x0.toInt ∧ nLow x0.toInt ≤ x4.toInt ∧ ((3 % 2 = 0 ∧ x4.toInt ≤ nHA x0.toInt) ∨ (3 % 2 = 1 ∧ x4.toInt ≤ nHB x0.toInt)))) ∧ (x0.toInt = 3 → x1.toInt ≤ x2.toInt ∧ x3.toInt ≤ x4.toInt)))) by have kk := kI_1; omega) dX1_mayHave_99
                · skip
                  have ic25 := tn_eq rfl kI_3 c25
                  refine lv_iload_n hx hb dX1_mayHave_83 rfl (lv_at hl 2 rfl) ?_
                  refine lv_iload_n hx hb dX1_mayHave_84 rfl (lv_at hl 3 rfl) ?_
                  refine lv_icmp_gt (tgt := 98) hx hb dX1_mayHave_85 (by decide) (fun c26 => ?_) (fun c26 => ?_)
                  · skip
                    have ic26 := tn_lt rfl rfl c26
                    refine lv_iconst (v := 0) hx hb dX1_mayHave_98 (by decide) ?_
                    exact tc_pret E hr hlk eH eL (t_nz (by decide) (by decide)).1 (show ((0 : Int32).toInt = 1 ∧ ((0 ≤ x0.toInt ∧ x0.toInt ≤ 9 ∧ (0 < nNum x0.toInt → (0 ≤ 0 ∧ 0 < nNum x0.toInt ∧ nLow x0.toInt ≤ x1.toInt ∧ ((0 % 2 = 0 ∧ x1.toInt ≤ nHA x0.toInt) ∨ (0 % 2 = 1 ∧ x1.toInt ≤ nHB x0.toInt)))) ∧ (1 < nNum x0.toInt → (0 ≤ 1 ∧ 1 < nNum x0.toInt ∧ nLow x0.toInt ≤ x2.toInt ∧ ((1 % 2 = 0 ∧ x2.toInt ≤ nHA x0.toInt) ∨ (1 % 2 = 1 ∧ x2.toInt ≤ nHB x0.toInt)))) ∧ (2 < nNum x0.toInt → (0 ≤ 2 ∧ 2 < nNum x0.toInt ∧ nLow x0.toInt ≤ x3.toInt ∧ ((2 % 2 = 0 ∧ x3.toInt ≤ nHA x0.toInt) ∨ (2 % 2 = 1 ∧ x3.toInt ≤ nHB x0.toInt)))) ∧ (3 < nNum x0.toInt → (0 ≤ 3 ∧ 3 < nNum x0.toInt ∧ nLow x0.toInt ≤ x4.toInt ∧ ((3 % 2 = 0 ∧ x4.toInt ≤ nHA x0.toInt) ∨ (3 % 2 = 1 ∧ x4.toInt ≤ nHB x0.toInt)))) ∧ (x0.toInt = 3 → x1.toInt ≤ x2.toInt ∧ x3.toInt ≤ x4.toInt)))) ∨ ((0 : Int32).toInt = 0 ∧ ¬ ((0 ≤ x0.toInt ∧ x0.toInt ≤ 9 ∧ (0 < nNum x0.toInt → (0 ≤ 0 ∧ 0 < nNum x0.toInt ∧ nLow x0.toInt ≤ x1.toInt ∧ ((0 % 2 = 0 ∧ x1.toInt ≤ nHA x0.toInt) ∨ (0 % 2 = 1 ∧ x1.toInt ≤ nHB x0.toInt)))) ∧ (1 < nNum x0.toInt → (0 ≤ 1 ∧ 1 < nNum x0.toInt ∧ nLow x0.toInt ≤ x2.toInt ∧ ((1 % 2 = 0 ∧ x2.toInt ≤ nHA x0.toInt) ∨ (1 % 2 = 1 ∧ x2.toInt ≤ nHB x0.toInt)))) ∧ (2 < nNum x0.toInt → (0 ≤ 2 ∧ 2 < nNum x0.toInt ∧ nLow x0.toInt ≤ x3.toInt ∧ ((2 % 2 = 0 ∧ x3.toInt ≤ nHA x0.toInt) ∨ (2 % 2 = 1 ∧ x3.toInt ≤ nHB x0.toInt)))) ∧ (3 < nNum x0.toInt → (0 ≤ 3 ∧ 3 < nNum x0.toInt ∧ nLow x0.toInt ≤ x4.toInt ∧ ((3 % 2 = 0 ∧ x4.toInt ≤ nHA x0.toInt) ∨ (3 % 2 = 1 ∧ x4.toInt ≤ nHB x0.toInt)))) ∧ (x0.toInt = 3 → x1.toInt ≤ x2.toInt ∧ x3.toInt ≤ x4.toInt)))) by have kk := kI_0; omega) dX1_mayHave_99
                  · skip
                    have ic26 := tn_nlt rfl rfl c26
                    refine lv_iload_n hx hb dX1_mayHave_88 rfl (lv_at hl 4 rfl) ?_
                    refine lv_iload hx hb dX1_mayHave_89 (lv_at hl 5 rfl) ?_
                    refine lv_icmp_gt (tgt := 98) hx hb dX1_mayHave_91 (by decide) (fun c27 => ?_) (fun c27 => ?_)
                    · skip
                      have ic27 := tn_lt rfl rfl c27
                      refine lv_iconst (v := 0) hx hb dX1_mayHave_98 (by decide) ?_
                      exact tc_pret E hr hlk eH eL (t_nz (by decide) (by decide)).1 (show ((0 : Int32).toInt = 1 ∧ ((0 ≤ x0.toInt ∧ x0.toInt ≤ 9 ∧ (0 < nNum x0.toInt → (0 ≤ 0 ∧ 0 < nNum x0.toInt ∧ nLow x0.toInt ≤ x1.toInt ∧ ((0 % 2 = 0 ∧ x1.toInt ≤ nHA x0.toInt) ∨ (0 % 2 = 1 ∧ x1.toInt ≤ nHB x0.toInt)))) ∧ (1 < nNum x0.toInt → (0 ≤ 1 ∧ 1 < nNum x0.toInt ∧ nLow x0.toInt ≤ x2.toInt ∧ ((1 % 2 = 0 ∧ x2.toInt ≤ nHA x0.toInt) ∨ (1 % 2 = 1 ∧ x2.toInt ≤ nHB x0.toInt)))) ∧ (2 < nNum x0.toInt → (0 ≤ 2 ∧ 2 < nNum x0.toInt ∧ nLow x0.toInt ≤ x3.toInt ∧ ((2 % 2 = 0 ∧ x3.toInt ≤ nHA x0.toInt) ∨ (2 % 2 = 1 ∧ x3.toInt ≤ nHB x0.toInt)))) ∧ (3 < nNum x0.toInt → (0 ≤ 3 ∧ 3 < nNum x0.toInt ∧ nLow x0.toInt ≤ x4.toInt ∧ ((3 % 2 = 0 ∧ x4.toInt ≤ nHA x0.toInt) ∨ (3 % 2 = 1 ∧ x4.toInt ≤ nHB x0.toInt)))) ∧ (x0.toInt = 3 → x1.toInt ≤ x2.toInt ∧ x3.toInt ≤ x4.toInt)))) ∨ ((0 : Int32).toInt = 0 ∧ ¬ ((0 ≤ x0.toInt ∧ x0.toInt ≤ 9 ∧ (0 < nNum x0.toInt → (0 ≤ 0 ∧ 0 < nNum x0.toInt ∧ nLow x0.toInt ≤ x1.toInt ∧ ((0 % 2 = 0 ∧ x1.toInt ≤ nHA x0.toInt) ∨ (0 % 2 = 1 ∧ x1.toInt ≤ nHB x0.toInt)))) ∧ (1 < nNum x0.toInt → (0 ≤ 1 ∧ 1 < nNum x0.toInt ∧ nLow x0.toInt ≤ x2.toInt ∧ ((1 % 2 = 0 ∧ x2.toInt ≤ nHA x0.toInt) ∨ (1 % 2 = 1 ∧ x2.toInt ≤ nHB x0.toInt)))) ∧ (2 < nNum x0.toInt → (0 ≤ 2 ∧ 2 < nNum x0.toInt ∧ nLow x0.toInt ≤ x3.toInt ∧ ((2 % 2 = 0 ∧ x3.toInt ≤ nHA x0.toInt) ∨ (2 % 2 = 1 ∧ x3.toInt ≤ nHB x0.toInt)))) ∧ (3 < nNum x0.toInt → (0 ≤ 3 ∧ 3 < nNum x0.toInt ∧ nLow x0.toInt ≤ x4.toInt ∧ ((3 % 2 = 0 ∧ x4.toInt ≤ nHA x0.toInt) ∨ (3 % 2 = 1 ∧ x4.toInt ≤ nHB x0.toInt)))) ∧ (x0.toInt = 3 → x1.toInt ≤ x2.toInt ∧ x3.toInt ≤ x4.toInt)))) by have kk := kI_0; omega) dX1_mayHave_99
                    · skip
                      have ic27 := tn_nlt rfl rfl c27
                      refine lv_iconst (v := 1) hx hb dX1_mayHave_94 (by decide) ?_
                      refine lv_goto (tgt := 99) hx hb dX1_mayHave_95 (by decide) ?_
                      exact tc_pret E hr hlk eH eL (t_nz (by decide) (by decide)).1 (show ((1 : Int32).toInt = 1 ∧ ((0 ≤ x0.toInt ∧ x0.toInt ≤ 9 ∧ (0 < nNum x0.toInt → (0 ≤ 0 ∧ 0 < nNum x0.toInt ∧ nLow x0.toInt ≤ x1.toInt ∧ ((0 % 2 = 0 ∧ x1.toInt ≤ nHA x0.toInt) ∨ (0 % 2 = 1 ∧ x1.toInt ≤ nHB x0.toInt)))) ∧ (1 < nNum x0.toInt → (0 ≤ 1 ∧ 1 < nNum x0.toInt ∧ nLow x0.toInt ≤ x2.toInt ∧ ((1 % 2 = 0 ∧ x2.toInt ≤ nHA x0.toInt) ∨ (1 % 2 = 1 ∧ x2.toInt ≤ nHB x0.toInt)))) ∧ (2 < nNum x0.toInt → (0 ≤ 2 ∧ 2 < nNum x0.toInt ∧ nLow x0.toInt ≤ x3.toInt ∧ ((2 % 2 = 0 ∧ x3.toInt ≤ nHA x0.toInt) ∨ (2 % 2 = 1 ∧ x3.toInt ≤ nHB x0.toInt)))) ∧ (3 < nNum x0.toInt → (0 ≤ 3 ∧ 3 < nNum x0.toInt ∧ nLow x0.toInt ≤ x4.toInt ∧ ((3 % 2 = 0 ∧ x4.toInt ≤ nHA x0.toInt) ∨ (3 % 2 = 1 ∧ x4.toInt ≤ nHB x0.toInt)))) ∧ (x0.toInt = 3 → x1.toInt ≤ x2.toInt ∧ x3.toInt ≤ x4.toInt)))) ∨ ((1 : Int32).toInt = 0 ∧ ¬ ((0 ≤ x0.toInt ∧ x0.toInt ≤ 9 ∧ (0 < nNum x0.toInt → (0 ≤ 0 ∧ 0 < nNum x0.toInt ∧ nLow x0.toInt ≤ x1.toInt ∧ ((0 % 2 = 0 ∧ x1.toInt ≤ nHA x0.toInt) ∨ (0 % 2 = 1 ∧ x1.toInt ≤ nHB x0.toInt)))) ∧ (1 < nNum x0.toInt → (0 ≤ 1 ∧ 1 < nNum x0.toInt ∧ nLow x0.toInt ≤ x2.toInt ∧ ((1 % 2 = 0 ∧ x2.toInt ≤ nHA x0.toInt) ∨ (1 % 2 = 1 ∧ x2.toInt ≤ nHB x0.toInt)))) ∧ (2 < nNum x0.toInt → (0 ≤ 2 ∧ 2 < nNum x0.toInt ∧ nLow x0.toInt ≤ x3.toInt ∧ ((2 % 2 = 0 ∧ x3.toInt ≤ nHA x0.toInt) ∨ (2 % 2 = 1 ∧ x3.toInt ≤ nHB x0.toInt)))) ∧ (3 < nNum x0.toInt → (0 ≤ 3 ∧ 3 < nNum x0.toInt ∧ nLow x0.toInt ≤ x4.toInt ∧ ((3 % 2 = 0 ∧ x4.toInt ≤ nHA x0.toInt) ∨ (3 % 2 = 1 ∧ x4.toInt ≤ nHB x0.toInt)))) ∧ (x0.toInt = 3 → x1.toInt ≤ x2.toInt ∧ x3.toInt ≤ x4.toInt)))) by have kk := kI_1; omega) dX1_mayHave_99
              · exfalso
                have ic24 := tn_nle rfl kI_3 c24
                omega
            · skip
              have ic23 := tn_nle rfl kI_2 c23
              refine lv_iload_n hx hb dX1_mayHave_51 rfl (lv_at hl 1 rfl) ?_
              refine lv_iconst (v := 2) hx hb dX1_mayHave_52 (by decide) ?_
              refine lv_iload_n hx hb dX1_mayHave_53 rfl (lv_at hl 4 rfl) ?_
              refine tc_callp (tc_runS (As := [.int x0, .int 2, .int x3]) (rest := []) E hSt hG (x_X1_isInRange l G τ x0 (2 : Int32) x3) ks_X1_isInRange ml_X1_35 ⟨rfl, rfl, Nat.le_of_ble_eq_true rfl, Nat.le_of_ble_eq_true rfl⟩ rfl hl.1 rfl (Nat.le_of_ble_eq_true rfl) ⟨Nat.zero_le _, Nat.zero_le _⟩ dX1_mayHave_54) (fun r28 pr28 => ?_)
              have pr28 : ((r28.toInt = 1 ∧ ((0 ≤ (2 : Int32).toInt ∧ (2 : Int32).toInt < nNum x0.toInt ∧ nLow x0.toInt ≤ x3.toInt ∧ (((2 : Int32).toInt % 2 = 0 ∧ x3.toInt ≤ nHA x0.toInt) ∨ ((2 : Int32).toInt % 2 = 1 ∧ x3.toInt ≤ nHB x0.toInt))))) ∨ (r28.toInt = 0 ∧ ¬ ((0 ≤ (2 : Int32).toInt ∧ (2 : Int32).toInt < nNum x0.toInt ∧ nLow x0.toInt ≤ x3.toInt ∧ (((2 : Int32).toInt % 2 = 0 ∧ x3.toInt ≤ nHA x0.toInt) ∨ ((2 : Int32).toInt % 2 = 1 ∧ x3.toInt ≤ nHB x0.toInt)))))) ∧ (r28.toInt = 0 ∨ (0 ≤ (2 : Int32).toInt ∧ (2 : Int32).toInt ≤ 3)) := pr28
              have k29 := kI_2
              refine lv_if_eq (tgt := 76) hx hb dX1_mayHave_57 (by decide) (fun c30 => ?_) (fun c30 => ?_)
              · skip
                have ic30 := tn_eq rfl kI_0 c30
                refine lv_iconst (v := 0) hx hb dX1_mayHave_76 (by decide) ?_
                exact tc_pret E hr hlk eH eL (t_nz (by decide) (by decide)).1 (show ((0 : Int32).toInt = 1 ∧ ((0 ≤ x0.toInt ∧ x0.toInt ≤ 9 ∧ (0 < nNum x0.toInt → (0 ≤ 0 ∧ 0 < nNum x0.toInt ∧ nLow x0.toInt ≤ x1.toInt ∧ ((0 % 2 = 0 ∧ x1.toInt ≤ nHA x0.toInt) ∨ (0 % 2 = 1 ∧ x1.toInt ≤ nHB x0.toInt)))) ∧ (1 < nNum x0.toInt → (0 ≤ 1 ∧ 1 < nNum x0.toInt ∧ nLow x0.toInt ≤ x2.toInt ∧ ((1 % 2 = 0 ∧ x2.toInt ≤ nHA x0.toInt) ∨ (1 % 2 = 1 ∧ x2.toInt ≤ nHB x0.toInt)))) ∧ (2 < nNum x0.toInt → (0 ≤ 2 ∧ 2 < nNum x0.toInt ∧ nLow x0.toInt ≤ x3.toInt ∧ ((2 % 2 = 0 ∧ x3.toInt ≤ nHA x0.toInt) ∨ (2 % 2 = 1 ∧ x3.toInt ≤ nHB x0.toInt)))) ∧ (3 < nNum x0.toInt → (0 ≤ 3 ∧ 3 < nNum x0.toInt ∧ nLow x0.toInt ≤ x4.toInt ∧ ((3 % 2 = 0 ∧ x4.toInt ≤ nHA x0.toInt) ∨ (3 % 2 = 1 ∧ x4.toInt ≤ nHB x0.toInt)))) ∧ (x0.toInt = 3 → x1.toInt ≤ x2.toInt ∧ x3.toInt ≤ x4.toInt)))) ∨ ((0 : Int32).toInt = 0 ∧ ¬ ((0 ≤ x0.toInt ∧ x0.toInt ≤ 9 ∧ (0 < nNum x0.toInt → (0 ≤ 0 ∧ 0 < nNum x0.toInt ∧ nLow x0.toInt ≤ x1.toInt ∧ ((0 % 2 = 0 ∧ x1.toInt ≤ nHA x0.toInt) ∨ (0 % 2 = 1 ∧ x1.toInt ≤ nHB x0.toInt)))) ∧ (1 < nNum x0.toInt → (0 ≤ 1 ∧ 1 < nNum x0.toInt ∧ nLow x0.toInt ≤ x2.toInt ∧ ((1 % 2 = 0 ∧ x2.toInt ≤ nHA x0.toInt) ∨ (1 % 2 = 1 ∧ x2.toInt ≤ nHB x0.toInt)))) ∧ (2 < nNum x0.toInt → (0 ≤ 2 ∧ 2 < nNum x0.toInt ∧ nLow x0.toInt ≤ x3.toInt ∧ ((2 % 2 = 0 ∧ x3.toInt ≤ nHA x0.toInt) ∨ (2 % 2 = 1 ∧ x3.toInt ≤ nHB x0.toInt)))) ∧ (3 < nNum x0.toInt → (0 ≤ 3 ∧ 3 < nNum x0.toInt ∧ nLow x0.toInt ≤ x4.toInt ∧ ((3 % 2 = 0 ∧ x4.toInt ≤ nHA x0.toInt) ∨ (3 % 2 = 1 ∧ x4.toInt ≤ nHB x0.toInt)))) ∧ (x0.toInt = 3 → x1.toInt ≤ x2.toInt ∧ x3.toInt ≤ x4.toInt)))) by have kk := kI_0; omega) dX1_mayHave_77
              · skip
                have ic30 := tn_ne rfl kI_0 c30
                refine lv_iload hx hb dX1_mayHave_60 (lv_at hl 0 rfl) ?_
                refine lv_iconst (v := 3) hx hb dX1_mayHave_62 (by decide) ?_
                refine lv_icmp_le (tgt := 78) hx hb dX1_mayHave_63 (by decide) (fun c31 => ?_) (fun c31 => ?_)
                · skip
                  have ic31 := tn_le rfl kI_3 c31
                  refine lv_iload_n hx hb dX1_mayHave_78 rfl (lv_at hl 1 rfl) ?_
                  refine lv_iconst (v := 3) hx hb dX1_mayHave_79 (by decide) ?_
                  refine lv_icmp_ne (tgt := 94) hx hb dX1_mayHave_80 (by decide) (fun c32 => ?_) (fun c32 => ?_)
                  · skip
                    have ic32 := tn_ne rfl kI_3 c32
                    refine lv_iconst (v := 1) hx hb dX1_mayHave_94 (by decide) ?_
                    refine lv_goto (tgt := 99) hx hb dX1_mayHave_95 (by decide) ?_
                    exact tc_pret E hr hlk eH eL (t_nz (by decide) (by decide)).1 (show ((1 : Int32).toInt = 1 ∧ ((0 ≤ x0.toInt ∧ x0.toInt ≤ 9 ∧ (0 < nNum x0.toInt → (0 ≤ 0 ∧ 0 < nNum x0.toInt ∧ nLow x0.toInt ≤ x1.toInt ∧ ((0 % 2 = 0 ∧ x1.toInt ≤ nHA x0.toInt) ∨ (0 % 2 = 1 ∧ x1.toInt ≤ nHB x0.toInt)))) ∧ (1 < nNum x0.toInt → (0 ≤ 1 ∧ 1 < nNum x0.toInt ∧ nLow x0.toInt ≤ x2.toInt ∧ ((1 % 2 = 0 ∧ x2.toInt ≤ nHA x0.toInt) ∨ (1 % 2 = 1 ∧ x2.toInt ≤ nHB x0.toInt)))) ∧ (2 < nNum x0.toInt → (0 ≤ 2 ∧ 2 < nNum x0.toInt ∧ nLow x0.toInt ≤ x3.toInt ∧ ((2 % 2 = 0 ∧ x3.toInt ≤ nHA x0.toInt) ∨ (2 % 2 = 1 ∧ x3.toInt ≤ nHB x0.toInt)))) ∧ (3 < nNum x0.toInt → (0 ≤ 3 ∧ 3 < nNum x0.toInt ∧ nLow x0.toInt ≤ x4.toInt ∧ ((3 % 2 = 0 ∧ x4.toInt ≤ nHA x0.toInt) ∨ (3 % 2 = 1 ∧ x4.toInt ≤ nHB x0.toInt)))) ∧ (x0.toInt = 3 → x1.toInt ≤ x2.toInt ∧ x3.toInt ≤ x4.toInt)))) ∨ ((1 : Int32).toInt = 0 ∧ ¬ ((0 ≤ x0.toInt ∧ x0.toInt ≤ 9 ∧ (0 < nNum x0.toInt → (0 ≤ 0 ∧ 0 < nNum x0.toInt ∧ nLow x0.toInt ≤ x1.toInt ∧ ((0 % 2 = 0 ∧ x1.toInt ≤ nHA x0.toInt) ∨ (0 % 2 = 1 ∧ x1.toInt ≤ nHB x0.toInt)))) ∧ (1 < nNum x0.toInt → (0 ≤ 1 ∧ 1 < nNum x0.toInt ∧ nLow x0.toInt ≤ x2.toInt ∧ ((1 % 2 = 0 ∧ x2.toInt ≤ nHA x0.toInt) ∨ (1 % 2 = 1 ∧ x2.toInt ≤ nHB x0.toInt)))) ∧ (2 < nNum x0.toInt → (0 ≤ 2 ∧ 2 < nNum x0.toInt ∧ nLow x0.toInt ≤ x3.toInt ∧ ((2 % 2 = 0 ∧ x3.toInt ≤ nHA x0.toInt) ∨ (2 % 2 = 1 ∧ x3.toInt ≤ nHB x0.toInt)))) ∧ (3 < nNum x0.toInt → (0 ≤ 3 ∧ 3 < nNum x0.toInt ∧ nLow x0.toInt ≤ x4.toInt ∧ ((3 % 2 = 0 ∧ x4.toInt ≤ nHA x0.toInt) ∨ (3 % 2 = 1 ∧ x4.toInt ≤ nHB x0.toInt)))) ∧ (x0.toInt = 3 → x1.toInt ≤ x2.toInt ∧ x3.toInt ≤ x4.toInt)))) by have kk := kI_1; omega) dX1_mayHave_99
                  · skip
                    have ic32 := tn_eq rfl kI_3 c32
                    refine lv_iload_n hx hb dX1_mayHave_83 rfl (lv_at hl 2 rfl) ?_
                    refine lv_iload_n hx hb dX1_mayHave_84 rfl (lv_at hl 3 rfl) ?_
                    refine lv_icmp_gt (tgt := 98) hx hb dX1_mayHave_85 (by decide) (fun c33 => ?_) (fun c33 => ?_)
                    · skip
                      have ic33 := tn_lt rfl rfl c33
                      refine lv_iconst (v := 0) hx hb dX1_mayHave_98 (by decide) ?_
                      exact tc_pret E hr hlk eH eL (t_nz (by decide) (by decide)).1 (show ((0 : Int32).toInt = 1 ∧ ((0 ≤ x0.toInt ∧ x0.toInt ≤ 9 ∧ (0 < nNum x0.toInt → (0 ≤ 0 ∧ 0 < nNum x0.toInt ∧ nLow x0.toInt ≤ x1.toInt ∧ ((0 % 2 = 0 ∧ x1.toInt ≤ nHA x0.toInt) ∨ (0 % 2 = 1 ∧ x1.toInt ≤ nHB x0.toInt)))) ∧ (1 < nNum x0.toInt → (0 ≤ 1 ∧ 1 < nNum x0.toInt ∧ nLow x0.toInt ≤ x2.toInt ∧ ((1 % 2 = 0 ∧ x2.toInt ≤ nHA x0.toInt) ∨ (1 % 2 = 1 ∧ x2.toInt ≤ nHB x0.toInt)))) ∧ (2 < nNum x0.toInt → (0 ≤ 2 ∧ 2 < nNum x0.toInt ∧ nLow x0.toInt ≤ x3.toInt ∧ ((2 % 2 = 0 ∧ x3.toInt ≤ nHA x0.toInt) ∨ (2 % 2 = 1 ∧ x3.toInt ≤ nHB x0.toInt)))) ∧ (3 < nNum x0.toInt → (0 ≤ 3 ∧ 3 < nNum x0.toInt ∧ nLow x0.toInt ≤ x4.toInt ∧ ((3 % 2 = 0 ∧ x4.toInt ≤ nHA x0.toInt) ∨ (3 % 2 = 1 ∧ x4.toInt ≤ nHB x0.toInt)))) ∧ (x0.toInt = 3 → x1.toInt ≤ x2.toInt ∧ x3.toInt ≤ x4.toInt)))) ∨ ((0 : Int32).toInt = 0 ∧ ¬ ((0 ≤ x0.toInt ∧ x0.toInt ≤ 9 ∧ (0 < nNum x0.toInt → (0 ≤ 0 ∧ 0 < nNum x0.toInt ∧ nLow x0.toInt ≤ x1.toInt ∧ ((0 % 2 = 0 ∧ x1.toInt ≤ nHA x0.toInt) ∨ (0 % 2 = 1 ∧ x1.toInt ≤ nHB x0.toInt)))) ∧ (1 < nNum x0.toInt → (0 ≤ 1 ∧ 1 < nNum x0.toInt ∧ nLow x0.toInt ≤ x2.toInt ∧ ((1 % 2 = 0 ∧ x2.toInt ≤ nHA x0.toInt) ∨ (1 % 2 = 1 ∧ x2.toInt ≤ nHB x0.toInt)))) ∧ (2 < nNum x0.toInt → (0 ≤ 2 ∧ 2 < nNum x0.toInt ∧ nLow x0.toInt ≤ x3.toInt ∧ ((2 % 2 = 0 ∧ x3.toInt ≤ nHA x0.toInt) ∨ (2 % 2 = 1 ∧ x3.toInt ≤ nHB x0.toInt)))) ∧ (3 < nNum x0.toInt → (0 ≤ 3 ∧ 3 < nNum x0.toInt ∧ nLow x0.toInt ≤ x4.toInt ∧ ((3 % 2 = 0 ∧ x4.toInt ≤ nHA x0.toInt) ∨ (3 % 2 = 1 ∧ x4.toInt ≤ nHB x0.toInt)))) ∧ (x0.toInt = 3 → x1.toInt ≤ x2.toInt ∧ x3.toInt ≤ x4.toInt)))) by have kk := kI_0; omega) dX1_mayHave_99
                    · skip
                      have ic33 := tn_nlt rfl rfl c33
                      refine lv_iload_n hx hb dX1_mayHave_88 rfl (lv_at hl 4 rfl) ?_
                      refine lv_iload hx hb dX1_mayHave_89 (lv_at hl 5 rfl) ?_
                      refine lv_icmp_gt (tgt := 98) hx hb dX1_mayHave_91 (by decide) (fun c34 => ?_) (fun c34 => ?_)
                      · skip
                        have ic34 := tn_lt rfl rfl c34
                        refine lv_iconst (v := 0) hx hb dX1_mayHave_98 (by decide) ?_
                        exact tc_pret E hr hlk eH eL (t_nz (by decide) (by decide)).1 (show ((0 : Int32).toInt = 1 ∧ ((0 ≤ x0.toInt ∧ x0.toInt ≤ 9 ∧ (0 < nNum x0.toInt → (0 ≤ 0 ∧ 0 < nNum x0.toInt ∧ nLow x0.toInt ≤ x1.toInt ∧ ((0 % 2 = 0 ∧ x1.toInt ≤ nHA x0.toInt) ∨ (0 % 2 = 1 ∧ x1.toInt ≤ nHB x0.toInt)))) ∧ (1 < nNum x0.toInt → (0 ≤ 1 ∧ 1 < nNum x0.toInt ∧ nLow x0.toInt ≤ x2.toInt ∧ ((1 % 2 = 0 ∧ x2.toInt ≤ nHA x0.toInt) ∨ (1 % 2 = 1 ∧ x2.toInt ≤ nHB x0.toInt)))) ∧ (2 < nNum x0.toInt → (0 ≤ 2 ∧ 2 < nNum x0.toInt ∧ nLow x0.toInt ≤ x3.toInt ∧ ((2 % 2 = 0 ∧ x3.toInt ≤ nHA x0.toInt) ∨ (2 % 2 = 1 ∧ x3.toInt ≤ nHB x0.toInt)))) ∧ (3 < nNum x0.toInt → (0 ≤ 3 ∧ 3 < nNum x0.toInt ∧ nLow x0.toInt ≤ x4.toInt ∧ ((3 % 2 = 0 ∧ x4.toInt ≤ nHA x0.toInt) ∨ (3 % 2 = 1 ∧ x4.toInt ≤ nHB x0.toInt)))) ∧ (x0.toInt = 3 → x1.toInt ≤ x2.toInt ∧ x3.toInt ≤ x4.toInt)))) ∨ ((0 : Int32).toInt = 0 ∧ ¬ ((0 ≤ x0.toInt ∧ x0.toInt ≤ 9 ∧ (0 < nNum x0.toInt → (0 ≤ 0 ∧ 0 < nNum x0.toInt ∧ nLow x0.toInt ≤ x1.toInt ∧ ((0 % 2 = 0 ∧ x1.toInt ≤ nHA x0.toInt) ∨ (0 % 2 = 1 ∧ x1.toInt ≤ nHB x0.toInt)))) ∧ (1 < nNum x0.toInt → (0 ≤ 1 ∧ 1 < nNum x0.toInt ∧ nLow x0.toInt ≤ x2.toInt ∧ ((1 % 2 = 0 ∧ x2.toInt ≤ nHA x0.toInt) ∨ (1 % 2 = 1 ∧ x2.toInt ≤ nHB x0.toInt)))) ∧ (2 < nNum x0.toInt → (0 ≤ 2 ∧ 2 < nNum x0.toInt ∧ nLow x0.toInt ≤ x3.toInt ∧ ((2 % 2 = 0 ∧ x3.toInt ≤ nHA x0.toInt) ∨ (2 % 2 = 1 ∧ x3.toInt ≤ nHB x0.toInt)))) ∧ (3 < nNum x0.toInt → (0 ≤ 3 ∧ 3 < nNum x0.toInt ∧ nLow x0.toInt ≤ x4.toInt ∧ ((3 % 2 = 0 ∧ x4.toInt ≤ nHA x0.toInt) ∨ (3 % 2 = 1 ∧ x4.toInt ≤ nHB x0.toInt)))) ∧ (x0.toInt = 3 → x1.toInt ≤ x2.toInt ∧ x3.toInt ≤ x4.toInt)))) by have kk := kI_0; omega) dX1_mayHave_99
                      · skip
                        have ic34 := tn_nlt rfl rfl c34
                        refine lv_iconst (v := 1) hx hb dX1_mayHave_94 (by decide) ?_
                        refine lv_goto (tgt := 99) hx hb dX1_mayHave_95 (by decide) ?_
                        exact tc_pret E hr hlk eH eL (t_nz (by decide) (by decide)).1 (show ((1 : Int32).toInt = 1 ∧ ((0 ≤ x0.toInt ∧ x0.toInt ≤ 9 ∧ (0 < nNum x0.toInt → (0 ≤ 0 ∧ 0 < nNum x0.toInt ∧ nLow x0.toInt ≤ x1.toInt ∧ ((0 % 2 = 0 ∧ x1.toInt ≤ nHA x0.toInt) ∨ (0 % 2 = 1 ∧ x1.toInt ≤ nHB x0.toInt)))) ∧ (1 < nNum x0.toInt → (0 ≤ 1 ∧ 1 < nNum x0.toInt ∧ nLow x0.toInt ≤ x2.toInt ∧ ((1 % 2 = 0 ∧ x2.toInt ≤ nHA x0.toInt) ∨ (1 % 2 = 1 ∧ x2.toInt ≤ nHB x0.toInt)))) ∧ (2 < nNum x0.toInt → (0 ≤ 2 ∧ 2 < nNum x0.toInt ∧ nLow x0.toInt ≤ x3.toInt ∧ ((2 % 2 = 0 ∧ x3.toInt ≤ nHA x0.toInt) ∨ (2 % 2 = 1 ∧ x3.toInt ≤ nHB x0.toInt)))) ∧ (3 < nNum x0.toInt → (0 ≤ 3 ∧ 3 < nNum x0.toInt ∧ nLow x0.toInt ≤ x4.toInt ∧ ((3 % 2 = 0 ∧ x4.toInt ≤ nHA x0.toInt) ∨ (3 % 2 = 1 ∧ x4.toInt ≤ nHB x0.toInt)))) ∧ (x0.toInt = 3 → x1.toInt ≤ x2.toInt ∧ x3.toInt ≤ x4.toInt)))) ∨ ((1 : Int32).toInt = 0 ∧ ¬ ((0 ≤ x0.toInt ∧ x0.toInt ≤ 9 ∧ (0 < nNum x0.toInt → (0 ≤ 0 ∧ 0 < nNum x0.toInt ∧ nLow x0.toInt ≤ x1.toInt ∧ ((0 % 2 = 0 ∧ x1.toInt ≤ nHA x0.toInt) ∨ (0 % 2 = 1 ∧ x1.toInt ≤ nHB x0.toInt)))) ∧ (1 < nNum x0.toInt → (0 ≤ 1 ∧ 1 < nNum x0.toInt ∧ nLow x0.toInt ≤ x2.toInt ∧ ((1 % 2 = 0 ∧ x2.toInt ≤ nHA x0.toInt) ∨ (1 % 2 = 1 ∧ x2.toInt ≤ nHB x0.toInt)))) ∧ (2 < nNum x0.toInt → (0 ≤ 2 ∧ 2 < nNum x0.toInt ∧ nLow x0.toInt ≤ x3.toInt ∧ ((2 % 2 = 0 ∧ x3.toInt ≤ nHA x0.toInt) ∨ (2 % 2 = 1 ∧ x3.toInt ≤ nHB x0.toInt)))) ∧ (3 < nNum x0.toInt → (0 ≤ 3 ∧ 3 < nNum x0.toInt ∧ nLow x0.toInt ≤ x4.toInt ∧ ((3 % 2 = 0 ∧ x4.toInt ≤ nHA x0.toInt) ∨ (3 % 2 = 1 ∧ x4.toInt ≤ nHB x0.toInt)))) ∧ (x0.toInt = 3 → x1.toInt ≤ x2.toInt ∧ x3.toInt ≤ x4.toInt)))) by have kk := kI_1; omega) dX1_mayHave_99
                · skip
                  have ic31 := tn_nle rfl kI_3 c31
                  refine lv_iload_n hx hb dX1_mayHave_66 rfl (lv_at hl 1 rfl) ?_
                  refine lv_iconst (v := 3) hx hb dX1_mayHave_67 (by decide) ?_
                  refine lv_iload hx hb dX1_mayHave_68 (lv_at hl 5 rfl) ?_
                  refine tc_callp (tc_runS (As := [.int x0, .int 3, .int x4]) (rest := []) E hSt hG (x_X1_isInRange l G τ x0 (3 : Int32) x4) ks_X1_isInRange ml_X1_35 ⟨rfl, rfl, Nat.le_of_ble_eq_true rfl, Nat.le_of_ble_eq_true rfl⟩ rfl hl.1 rfl (Nat.le_of_ble_eq_true rfl) ⟨Nat.zero_le _, Nat.zero_le _⟩ dX1_mayHave_70) (fun r35 pr35 => ?_)
                  have pr35 : ((r35.toInt = 1 ∧ ((0 ≤ (3 : Int32).toInt ∧ (3 : Int32).toInt < nNum x0.toInt ∧ nLow x0.toInt ≤ x4.toInt ∧ (((3 : Int32).toInt % 2 = 0 ∧ x4.toInt ≤ nHA x0.toInt) ∨ ((3 : Int32).toInt % 2 = 1 ∧ x4.toInt ≤ nHB x0.toInt))))) ∨ (r35.toInt = 0 ∧ ¬ ((0 ≤ (3 : Int32).toInt ∧ (3 : Int32).toInt < nNum x0.toInt ∧ nLow x0.toInt ≤ x4.toInt ∧ (((3 : Int32).toInt % 2 = 0 ∧ x4.toInt ≤ nHA x0.toInt) ∨ ((3 : Int32).toInt % 2 = 1 ∧ x4.toInt ≤ nHB x0.toInt)))))) ∧ (r35.toInt = 0 ∨ (0 ≤ (3 : Int32).toInt ∧ (3 : Int32).toInt ≤ 3)) := pr35
                  have k36 := kI_3
                  refine lv_if_ne (tgt := 78) hx hb dX1_mayHave_73 (by decide) (fun c37 => ?_) (fun c37 => ?_)
                  · skip
                    have ic37 := tn_ne rfl kI_0 c37
                    refine lv_iload_n hx hb dX1_mayHave_78 rfl (lv_at hl 1 rfl) ?_
                    refine lv_iconst (v := 3) hx hb dX1_mayHave_79 (by decide) ?_
                    refine lv_icmp_ne (tgt := 94) hx hb dX1_mayHave_80 (by decide) (fun c38 => ?_) (fun c38 => ?_)
                    · skip
                      have ic38 := tn_ne rfl kI_3 c38
                      refine lv_iconst (v := 1) hx hb dX1_mayHave_94 (by decide) ?_
                      refine lv_goto (tgt := 99) hx hb dX1_mayHave_95 (by decide) ?_
                      exact tc_pret E hr hlk eH eL (t_nz (by decide) (by decide)).1 (show ((1 : Int32).toInt = 1 ∧ ((0 ≤ x0.toInt ∧ x0.toInt ≤ 9 ∧ (0 < nNum x0.toInt → (0 ≤ 0 ∧ 0 < nNum x0.toInt ∧ nLow x0.toInt ≤ x1.toInt ∧ ((0 % 2 = 0 ∧ x1.toInt ≤ nHA x0.toInt) ∨ (0 % 2 = 1 ∧ x1.toInt ≤ nHB x0.toInt)))) ∧ (1 < nNum x0.toInt → (0 ≤ 1 ∧ 1 < nNum x0.toInt ∧ nLow x0.toInt ≤ x2.toInt ∧ ((1 % 2 = 0 ∧ x2.toInt ≤ nHA x0.toInt) ∨ (1 % 2 = 1 ∧ x2.toInt ≤ nHB x0.toInt)))) ∧ (2 < nNum x0.toInt → (0 ≤ 2 ∧ 2 < nNum x0.toInt ∧ nLow x0.toInt ≤ x3.toInt ∧ ((2 % 2 = 0 ∧ x3.toInt ≤ nHA x0.toInt) ∨ (2 % 2 = 1 ∧ x3.toInt ≤ nHB x0.toInt)))) ∧ (3 < nNum x0.toInt → (0 ≤ 3 ∧ 3 < nNum x0.toInt ∧ nLow x0.toInt ≤ x4.toInt ∧ ((3 % 2 = 0 ∧ x4.toInt ≤ nHA x0.toInt) ∨ (3 % 2 = 1 ∧ x4.toInt ≤ nHB x0.toInt)))) ∧ (x0.toInt = 3 → x1.toInt ≤ x2.toInt ∧ x3.toInt ≤ x4.toInt)))) ∨ ((1 : Int32).toInt = 0 ∧ ¬ ((0 ≤ x0.toInt ∧ x0.toInt ≤ 9 ∧ (0 < nNum x0.toInt → (0 ≤ 0 ∧ 0 < nNum x0.toInt ∧ nLow x0.toInt ≤ x1.toInt ∧ ((0 % 2 = 0 ∧ x1.toInt ≤ nHA x0.toInt) ∨ (0 % 2 = 1 ∧ x1.toInt ≤ nHB x0.toInt)))) ∧ (1 < nNum x0.toInt → (0 ≤ 1 ∧ 1 < nNum x0.toInt ∧ nLow x0.toInt ≤ x2.toInt ∧ ((1 % 2 = 0 ∧ x2.toInt ≤ nHA x0.toInt) ∨ (1 % 2 = 1 ∧ x2.toInt ≤ nHB x0.toInt)))) ∧ (2 < nNum x0.toInt → (0 ≤ 2 ∧ 2 < nNum x0.toInt ∧ nLow x0.toInt ≤ x3.toInt ∧ ((2 % 2 = 0 ∧ x3.toInt ≤ nHA x0.toInt) ∨ (2 % 2 = 1 ∧ x3.toInt ≤ nHB x0.toInt)))) ∧ (3 < nNum x0.toInt → (0 ≤ 3 ∧ 3 < nNum x0.toInt ∧ nLow x0.toInt ≤ x4.toInt ∧ ((3 % 2 = 0 ∧ x4.toInt ≤ nHA x0.toInt) ∨ (3 % 2 = 1 ∧ x4.toInt ≤ nHB x0.toInt)))) ∧ (x0.toInt = 3 → x1.toInt ≤ x2.toInt ∧ x3.toInt ≤ x4.toInt)))) by have kk := kI_1; omega) dX1_mayHave_99
                    · skip
                      have ic38 := tn_eq rfl kI_3 c38
                      refine lv_iload_n hx hb dX1_mayHave_83 rfl (lv_at hl 2 rfl) ?_
                      refine lv_iload_n hx hb dX1_mayHave_84 rfl (lv_at hl 3 rfl) ?_
                      refine lv_icmp_gt (tgt := 98) hx hb dX1_mayHave_85 (by decide) (fun c39 => ?_) (fun c39 => ?_)
                      · skip
                        have ic39 := tn_lt rfl rfl c39
                        refine lv_iconst (v := 0) hx hb dX1_mayHave_98 (by decide) ?_
                        exact tc_pret E hr hlk eH eL (t_nz (by decide) (by decide)).1 (show ((0 : Int32).toInt = 1 ∧ ((0 ≤ x0.toInt ∧ x0.toInt ≤ 9 ∧ (0 < nNum x0.toInt → (0 ≤ 0 ∧ 0 < nNum x0.toInt ∧ nLow x0.toInt ≤ x1.toInt ∧ ((0 % 2 = 0 ∧ x1.toInt ≤ nHA x0.toInt) ∨ (0 % 2 = 1 ∧ x1.toInt ≤ nHB x0.toInt)))) ∧ (1 < nNum x0.toInt → (0 ≤ 1 ∧ 1 < nNum x0.toInt ∧ nLow x0.toInt ≤ x2.toInt ∧ ((1 % 2 = 0 ∧ x2.toInt ≤ nHA x0.toInt) ∨ (1 % 2 = 1 ∧ x2.toInt ≤ nHB x0.toInt)))) ∧ (2 < nNum x0.toInt → (0 ≤ 2 ∧ 2 < nNum x0.toInt ∧ nLow x0.toInt ≤ x3.toInt ∧ ((2 % 2 = 0 ∧ x3.toInt ≤ nHA x0.toInt) ∨ (2 % 2 = 1 ∧ x3.toInt ≤ nHB x0.toInt)))) ∧ (3 < nNum x0.toInt → (0 ≤ 3 ∧ 3 < nNum x0.toInt ∧ nLow x0.toInt ≤ x4.toInt ∧ ((3 % 2 = 0 ∧ x4.toInt ≤ nHA x0.toInt) ∨ (3 % 2 = 1 ∧ x4.toInt ≤ nHB x0.toInt)))) ∧ (x0.toInt = 3 → x1.toInt ≤ x2.toInt ∧ x3.toInt ≤ x4.toInt)))) ∨ ((0 : Int32).toInt = 0 ∧ ¬ ((0 ≤ x0.toInt ∧ x0.toInt ≤ 9 ∧ (0 < nNum x0.toInt → (0 ≤ 0 ∧ 0 < nNum x0.toInt ∧ nLow x0.toInt ≤ x1.toInt ∧ ((0 % 2 = 0 ∧ x1.toInt ≤ nHA x0.toInt) ∨ (0 % 2 = 1 ∧ x1.toInt ≤ nHB x0.toInt)))) ∧ (1 < nNum x0.toInt → (0 ≤ 1 ∧ 1 < nNum x0.toInt ∧ nLow x0.toInt ≤ x2.toInt ∧ ((1 % 2 = 0 ∧ x2.toInt ≤ nHA x0.toInt) ∨ (1 % 2 = 1 ∧ x2.toInt ≤ nHB x0.toInt)))) ∧ (2 < nNum x0.toInt → (0 ≤ 2 ∧ 2 < nNum x0.toInt ∧ nLow x0.toInt ≤ x3.toInt ∧ ((2 % 2 = 0 ∧ x3.toInt ≤ nHA x0.toInt) ∨ (2 % 2 = 1 ∧ x3.toInt ≤ nHB x0.toInt)))) ∧ (3 < nNum x0.toInt → (0 ≤ 3 ∧ 3 < nNum x0.toInt ∧ nLow x0.toInt ≤ x4.toInt ∧ ((3 % 2 = 0 ∧ x4.toInt ≤ nHA x0.toInt) ∨ (3 % 2 = 1 ∧ x4.toInt ≤ nHB x0.toInt)))) ∧ (x0.toInt = 3 → x1.toInt ≤ x2.toInt ∧ x3.toInt ≤ x4.toInt)))) by have kk := kI_0; omega) dX1_mayHave_99
                      · skip
                        have ic39 := tn_nlt rfl rfl c39
                        refine lv_iload_n hx hb dX1_mayHave_88 rfl (lv_at hl 4 rfl) ?_
                        refine lv_iload hx hb dX1_mayHave_89 (lv_at hl 5 rfl) ?_
                        refine lv_icmp_gt (tgt := 98) hx hb dX1_mayHave_91 (by decide) (fun c40 => ?_) (fun c40 => ?_)
                        · skip
                          have ic40 := tn_lt rfl rfl c40
                          refine lv_iconst (v := 0) hx hb dX1_mayHave_98 (by decide) ?_
                          exact tc_pret E hr hlk eH eL (t_nz (by decide) (by decide)).1 (show ((0 : Int32).toInt = 1 ∧ ((0 ≤ x0.toInt ∧ x0.toInt ≤ 9 ∧ (0 < nNum x0.toInt → (0 ≤ 0 ∧ 0 < nNum x0.toInt ∧ nLow x0.toInt ≤ x1.toInt ∧ ((0 % 2 = 0 ∧ x1.toInt ≤ nHA x0.toInt) ∨ (0 % 2 = 1 ∧ x1.toInt ≤ nHB x0.toInt)))) ∧ (1 < nNum x0.toInt → (0 ≤ 1 ∧ 1 < nNum x0.toInt ∧ nLow x0.toInt ≤ x2.toInt ∧ ((1 % 2 = 0 ∧ x2.toInt ≤ nHA x0.toInt) ∨ (1 % 2 = 1 ∧ x2.toInt ≤ nHB x0.toInt)))) ∧ (2 < nNum x0.toInt → (0 ≤ 2 ∧ 2 < nNum x0.toInt ∧ nLow x0.toInt ≤ x3.toInt ∧ ((2 % 2 = 0 ∧ x3.toInt ≤ nHA x0.toInt) ∨ (2 % 2 = 1 ∧ x3.toInt ≤ nHB x0.toInt)))) ∧ (3 < nNum x0.toInt → (0 ≤ 3 ∧ 3 < nNum x0.toInt ∧ nLow x0.toInt ≤ x4.toInt ∧ ((3 % 2 = 0 ∧ x4.toInt ≤ nHA x0.toInt) ∨ (3 % 2 = 1 ∧ x4.toInt ≤ nHB x0.toInt)))) ∧ (x0.toInt = 3 → x1.toInt ≤ x2.toInt ∧ x3.toInt ≤ x4.toInt)))) ∨ ((0 : Int32).toInt = 0 ∧ ¬ ((0 ≤ x0.toInt ∧ x0.toInt ≤ 9 ∧ (0 < nNum x0.toInt → (0 ≤ 0 ∧ 0 < nNum x0.toInt ∧ nLow x0.toInt ≤ x1.toInt ∧ ((0 % 2 = 0 ∧ x1.toInt ≤ nHA x0.toInt) ∨ (0 % 2 = 1 ∧ x1.toInt ≤ nHB x0.toInt)))) ∧ (1 < nNum x0.toInt → (0 ≤ 1 ∧ 1 < nNum x0.toInt ∧ nLow x0.toInt ≤ x2.toInt ∧ ((1 % 2 = 0 ∧ x2.toInt ≤ nHA x0.toInt) ∨ (1 % 2 = 1 ∧ x2.toInt ≤ nHB x0.toInt)))) ∧ (2 < nNum x0.toInt → (0 ≤ 2 ∧ 2 < nNum x0.toInt ∧ nLow x0.toInt ≤ x3.toInt ∧ ((2 % 2 = 0 ∧ x3.toInt ≤ nHA x0.toInt) ∨ (2 % 2 = 1 ∧ x3.toInt ≤ nHB x0.toInt)))) ∧ (3 < nNum x0.toInt → (0 ≤ 3 ∧ 3 < nNum x0.toInt ∧ nLow x0.toInt ≤ x4.toInt ∧ ((3 % 2 = 0 ∧ x4.toInt ≤ nHA x0.toInt) ∨ (3 % 2 = 1 ∧ x4.toInt ≤ nHB x0.toInt)))) ∧ (x0.toInt = 3 → x1.toInt ≤ x2.toInt ∧ x3.toInt ≤ x4.toInt)))) by have kk := kI_0; omega) dX1_mayHave_99
                        · skip
                          have ic40 := tn_nlt rfl rfl c40
                          refine lv_iconst (v := 1) hx hb dX1_mayHave_94 (by decide) ?_
                          refine lv_goto (tgt := 99) hx hb dX1_mayHave_95 (by decide) ?_
                          exact tc_pret E hr hlk eH eL (t_nz (by decide) (by decide)).1 (show ((1 : Int32).toInt = 1 ∧ ((0 ≤ x0.toInt ∧ x0.toInt ≤ 9 ∧ (0 < nNum x0.toInt → (0 ≤ 0 ∧ 0 < nNum x0.toInt ∧ nLow x0.toInt ≤ x1.toInt ∧ ((0 % 2 = 0 ∧ x1.toInt ≤ nHA x0.toInt) ∨ (0 % 2 = 1 ∧ x1.toInt ≤ nHB x0.toInt)))) ∧ (1 < nNum x0.toInt → (0 ≤ 1 ∧ 1 < nNum x0.toInt ∧ nLow x0.toInt ≤ x2.toInt ∧ ((1 % 2 = 0 ∧ x2.toInt ≤ nHA x0.toInt) ∨ (1 % 2 = 1 ∧ x2.toInt ≤ nHB x0.toInt)))) ∧ (2 < nNum x0.toInt → (0 ≤ 2 ∧ 2 < nNum x0.toInt ∧ nLow x0.toInt ≤ x3.toInt ∧ ((2 % 2 = 0 ∧ x3.toInt ≤ nHA x0.toInt) ∨ (2 % 2 = 1 ∧ x3.toInt ≤ nHB x0.toInt)))) ∧ (3 < nNum x0.toInt → (0 ≤ 3 ∧ 3 < nNum x0.toInt ∧ nLow x0.toInt ≤ x4.toInt ∧ ((3 % 2 = 0 ∧ x4.toInt ≤ nHA x0.toInt) ∨ (3 % 2 = 1 ∧ x4.toInt ≤ nHB x0.toInt)))) ∧ (x0.toInt = 3 → x1.toInt ≤ x2.toInt ∧ x3.toInt ≤ x4.toInt)))) ∨ ((1 : Int32).toInt = 0 ∧ ¬ ((0 ≤ x0.toInt ∧ x0.toInt ≤ 9 ∧ (0 < nNum x0.toInt → (0 ≤ 0 ∧ 0 < nNum x0.toInt ∧ nLow x0.toInt ≤ x1.toInt ∧ ((0 % 2 = 0 ∧ x1.toInt ≤ nHA x0.toInt) ∨ (0 % 2 = 1 ∧ x1.toInt ≤ nHB x0.toInt)))) ∧ (1 < nNum x0.toInt → (0 ≤ 1 ∧ 1 < nNum x0.toInt ∧ nLow x0.toInt ≤ x2.toInt ∧ ((1 % 2 = 0 ∧ x2.toInt ≤ nHA x0.toInt) ∨ (1 % 2 = 1 ∧ x2.toInt ≤ nHB x0.toInt)))) ∧ (2 < nNum x0.toInt → (0 ≤ 2 ∧ 2 < nNum x0.toInt ∧ nLow x0.toInt ≤ x3.toInt ∧ ((2 % 2 = 0 ∧ x3.toInt ≤ nHA x0.toInt) ∨ (2 % 2 = 1 ∧ x3.toInt ≤ nHB x0.toInt)))) ∧ (3 < nNum x0.toInt → (0 ≤ 3 ∧ 3 < nNum x0.toInt ∧ nLow x0.toInt ≤ x4.toInt ∧ ((3 % 2 = 0 ∧ x4.toInt ≤ nHA x0.toInt) ∨ (3 % 2 = 1 ∧ x4.toInt ≤ nHB x0.toInt)))) ∧ (x0.toInt = 3 → x1.toInt ≤ x2.toInt ∧ x3.toInt ≤ x4.toInt)))) by have kk := kI_1; omega) dX1_mayHave_99
                  · skip
                    have ic37 := tn_eq rfl kI_0 c37
                    refine lv_iconst (v := 0) hx hb dX1_mayHave_76 (by decide) ?_
                    exact tc_pret E hr hlk eH eL (t_nz (by decide) (by decide)).1 (show ((0 : Int32).toInt = 1 ∧ ((0 ≤ x0.toInt ∧ x0.toInt ≤ 9 ∧ (0 < nNum x0.toInt → (0 ≤ 0 ∧ 0 < nNum x0.toInt ∧ nLow x0.toInt ≤ x1.toInt ∧ ((0 % 2 = 0 ∧ x1.toInt ≤ nHA x0.toInt) ∨ (0 % 2 = 1 ∧ x1.toInt ≤ nHB x0.toInt)))) ∧ (1 < nNum x0.toInt → (0 ≤ 1 ∧ 1 < nNum x0.toInt ∧ nLow x0.toInt ≤ x2.toInt ∧ ((1 % 2 = 0 ∧ x2.toInt ≤ nHA x0.toInt) ∨ (1 % 2 = 1 ∧ x2.toInt ≤ nHB x0.toInt)))) ∧ (2 < nNum x0.toInt → (0 ≤ 2 ∧ 2 < nNum x0.toInt ∧ nLow x0.toInt ≤ x3.toInt ∧ ((2 % 2 = 0 ∧ x3.toInt ≤ nHA x0.toInt) ∨ (2 % 2 = 1 ∧ x3.toInt ≤ nHB x0.toInt)))) ∧ (3 < nNum x0.toInt → (0 ≤ 3 ∧ 3 < nNum x0.toInt ∧ nLow x0.toInt ≤ x4.toInt ∧ ((3 % 2 = 0 ∧ x4.toInt ≤ nHA x0.toInt) ∨ (3 % 2 = 1 ∧ x4.toInt ≤ nHB x0.toInt)))) ∧ (x0.toInt = 3 → x1.toInt ≤ x2.toInt ∧ x3.toInt ≤ x4.toInt)))) ∨ ((0 : Int32).toInt = 0 ∧ ¬ ((0 ≤ x0.toInt ∧ x0.toInt ≤ 9 ∧ (0 < nNum x0.toInt → (0 ≤ 0 ∧ 0 < nNum x0.toInt ∧ nLow x0.toInt ≤ x1.toInt ∧ ((0 % 2 = 0 ∧ x1.toInt ≤ nHA x0.toInt) ∨ (0 % 2 = 1 ∧ x1.toInt ≤ nHB x0.toInt)))) ∧ (1 < nNum x0.toInt → (0 ≤ 1 ∧ 1 < nNum x0.toInt ∧ nLow x0.toInt ≤ x2.toInt ∧ ((1 % 2 = 0 ∧ x2.toInt ≤ nHA x0.toInt) ∨ (1 % 2 = 1 ∧ x2.toInt ≤ nHB x0.toInt)))) ∧ (2 < nNum x0.toInt → (0 ≤ 2 ∧ 2 < nNum x0.toInt ∧ nLow x0.toInt ≤ x3.toInt ∧ ((2 % 2 = 0 ∧ x3.toInt ≤ nHA x0.toInt) ∨ (2 % 2 = 1 ∧ x3.toInt ≤ nHB x0.toInt)))) ∧ (3 < nNum x0.toInt → (0 ≤ 3 ∧ 3 < nNum x0.toInt ∧ nLow x0.toInt ≤ x4.toInt ∧ ((3 % 2 = 0 ∧ x4.toInt ≤ nHA x0.toInt) ∨ (3 % 2 = 1 ∧ x4.toInt ≤ nHB x0.toInt)))) ∧ (x0.toInt = 3 → x1.toInt ≤ x2.toInt ∧ x3.toInt ≤ x4.toInt)))) by have kk := kI_0; omega) dX1_mayHave_77
  · skip
    have ic2 := tn_eq rfl kI_0 c2
    refine lv_iconst (v := 0) hx hb dX1_mayHave_7 (by decide) ?_
    exact tc_pret E hr hlk eH eL (t_nz (by decide) (by decide)).1 (show ((0 : Int32).toInt = 1 ∧ ((0 ≤ x0.toInt ∧ x0.toInt ≤ 9 ∧ (0 < nNum x0.toInt → (0 ≤ 0 ∧ 0 < nNum x0.toInt ∧ nLow x0.toInt ≤ x1.toInt ∧ ((0 % 2 = 0 ∧ x1.toInt ≤ nHA x0.toInt) ∨ (0 % 2 = 1 ∧ x1.toInt ≤ nHB x0.toInt)))) ∧ (1 < nNum x0.toInt → (0 ≤ 1 ∧ 1 < nNum x0.toInt ∧ nLow x0.toInt ≤ x2.toInt ∧ ((1 % 2 = 0 ∧ x2.toInt ≤ nHA x0.toInt) ∨ (1 % 2 = 1 ∧ x2.toInt ≤ nHB x0.toInt)))) ∧ (2 < nNum x0.toInt → (0 ≤ 2 ∧ 2 < nNum x0.toInt ∧ nLow x0.toInt ≤ x3.toInt ∧ ((2 % 2 = 0 ∧ x3.toInt ≤ nHA x0.toInt) ∨ (2 % 2 = 1 ∧ x3.toInt ≤ nHB x0.toInt)))) ∧ (3 < nNum x0.toInt → (0 ≤ 3 ∧ 3 < nNum x0.toInt ∧ nLow x0.toInt ≤ x4.toInt ∧ ((3 % 2 = 0 ∧ x4.toInt ≤ nHA x0.toInt) ∨ (3 % 2 = 1 ∧ x4.toInt ≤ nHB x0.toInt)))) ∧ (x0.toInt = 3 → x1.toInt ≤ x2.toInt ∧ x3.toInt ≤ x4.toInt)))) ∨ ((0 : Int32).toInt = 0 ∧ ¬ ((0 ≤ x0.toInt ∧ x0.toInt ≤ 9 ∧ (0 < nNum x0.toInt → (0 ≤ 0 ∧ 0 < nNum x0.toInt ∧ nLow x0.toInt ≤ x1.toInt ∧ ((0 % 2 = 0 ∧ x1.toInt ≤ nHA x0.toInt) ∨ (0 % 2 = 1 ∧ x1.toInt ≤ nHB x0.toInt)))) ∧ (1 < nNum x0.toInt → (0 ≤ 1 ∧ 1 < nNum x0.toInt ∧ nLow x0.toInt ≤ x2.toInt ∧ ((1 % 2 = 0 ∧ x2.toInt ≤ nHA x0.toInt) ∨ (1 % 2 = 1 ∧ x2.toInt ≤ nHB x0.toInt)))) ∧ (2 < nNum x0.toInt → (0 ≤ 2 ∧ 2 < nNum x0.toInt ∧ nLow x0.toInt ≤ x3.toInt ∧ ((2 % 2 = 0 ∧ x3.toInt ≤ nHA x0.toInt) ∨ (2 % 2 = 1 ∧ x3.toInt ≤ nHB x0.toInt)))) ∧ (3 < nNum x0.toInt → (0 ≤ 3 ∧ 3 < nNum x0.toInt ∧ nLow x0.toInt ≤ x4.toInt ∧ ((3 % 2 = 0 ∧ x4.toInt ≤ nHA x0.toInt) ∨ (3 % 2 = 1 ∧ x4.toInt ≤ nHB x0.toInt)))) ∧ (x0.toInt = 3 → x1.toInt ≤ x2.toInt ∧ x3.toInt ≤ x4.toInt)))) by have kk := kI_0; omega) dX1_mayHave_8

set_option maxHeartbeats 4000000 in
set_option maxRecDepth 100000 in
theorem x_X1_passesFor (l : Launch) (G : tG) (τ : Nat → Nat) (x0 : Int32) (x1 : Int32)  : Met l yX1_passesFor (.code yX1_passesFor cX1_passesFor 2 (some .boolean) :: tWS) (tRm 0 0) (va_Pc [.int x0, .int x1] (tPre G τ)) (tQp (fun r => (r.toInt = 1 ∧ (x0.toInt = x1.toInt ∨ (x0.toInt = 9 ∧ x1.toInt = 8) ∨ (x0.toInt = 5 ∧ x1.toInt = 4) ∨ (x0.toInt = 3 ∧ x1.toInt = 2))) ∨ (r.toInt = 0 ∧ ¬ (x0.toInt = x1.toInt ∨ (x0.toInt = 9 ∧ x1.toInt = 8) ∨ (x0.toInt = 5 ∧ x1.toInt = 4) ∨ (x0.toInt = 3 ∧ x1.toInt = 2))))) 0 0 tNo := by
  refine tc_met (by decide) (Nat.le_of_ble_eq_true rfl) ?_
  intro p e s m below meth c E hSt hr hlk hG ls hl
  have hl : lv_has ls 2 [(0, .int x0), (1, .int x1)] := hl
  have hx := E.1
  have hb := E.2.1
  obtain ⟨H, eH⟩ : ∃ H, H = s.heap := ⟨_, rfl⟩
  obtain ⟨locs, eL⟩ : ∃ x : List Loc, x = [] := ⟨_, rfl⟩
  have hG : tGH G τ s H locs := by rw [eH, eL]; exact hG
  suffices hW : W p l e (tRm 0 0) s m ([.int x0, .int x1] : List Value).toArray below meth c H locs 0 0 (MQ below (tQp (fun r => (r.toInt = 1 ∧ (x0.toInt = x1.toInt ∨ (x0.toInt = 9 ∧ x1.toInt = 8) ∨ (x0.toInt = 5 ∧ x1.toInt = 4) ∨ (x0.toInt = 3 ∧ x1.toInt = 2))) ∨ (r.toInt = 0 ∧ ¬ (x0.toInt = x1.toInt ∨ (x0.toInt = 9 ∧ x1.toInt = 8) ∨ (x0.toInt = 5 ∧ x1.toInt = 4) ∨ (x0.toInt = 3 ∧ x1.toInt = 2))))) ([.int x0, .int x1] : List Value).toArray s 0 0 tNo) (F0 m 0 ls []) by subst eH; subst eL; exact hW
  refine lv_iload_n hx hb dX1_passesFor_0 rfl (lv_at hl 0 rfl) ?_
  refine lv_iload_n hx hb dX1_passesFor_1 rfl (lv_at hl 1 rfl) ?_
  refine lv_icmp_eq (tgt := 37) hx hb dX1_passesFor_2 (by decide) (fun c1 => ?_) (fun c1 => ?_)
  · skip
    have ic1 := tn_eq rfl rfl c1
    refine lv_iconst (v := 1) hx hb dX1_passesFor_37 (by decide) ?_
    refine lv_goto (tgt := 42) hx hb dX1_passesFor_38 (by decide) ?_
    exact tc_pret E hr hlk eH eL (t_nz (by decide) (by decide)).1 (show ((1 : Int32).toInt = 1 ∧ (x0.toInt = x1.toInt ∨ (x0.toInt = 9 ∧ x1.toInt = 8) ∨ (x0.toInt = 5 ∧ x1.toInt = 4) ∨ (x0.toInt = 3 ∧ x1.toInt = 2))) ∨ ((1 : Int32).toInt = 0 ∧ ¬ (x0.toInt = x1.toInt ∨ (x0.toInt = 9 ∧ x1.toInt = 8) ∨ (x0.toInt = 5 ∧ x1.toInt = 4) ∨ (x0.toInt = 3 ∧ x1.toInt = 2))) by have kk := kI_1; omega) dX1_passesFor_42
  · skip
    have ic1 := tn_ne rfl rfl c1
    refine lv_iload_n hx hb dX1_passesFor_5 rfl (lv_at hl 0 rfl) ?_
    refine lv_bipush (v := 9) hx hb dX1_passesFor_6 (by decide) ?_
    refine lv_icmp_ne (tgt := 17) hx hb dX1_passesFor_8 (by decide) (fun c2 => ?_) (fun c2 => ?_)
    · skip
      have ic2 := tn_ne rfl kI_9 c2
      refine lv_iload_n hx hb dX1_passesFor_17 rfl (lv_at hl 0 rfl) ?_
      refine lv_iconst (v := 5) hx hb dX1_passesFor_18 (by decide) ?_
      refine lv_icmp_ne (tgt := 27) hx hb dX1_passesFor_19 (by decide) (fun c3 => ?_) (fun c3 => ?_)
      · skip
        have ic3 := tn_ne rfl kI_5 c3
        refine lv_iload_n hx hb dX1_passesFor_27 rfl (lv_at hl 0 rfl) ?_
        refine lv_iconst (v := 3) hx hb dX1_passesFor_28 (by decide) ?_
        refine lv_icmp_ne (tgt := 41) hx hb dX1_passesFor_29 (by decide) (fun c4 => ?_) (fun c4 => ?_)
        · skip
          have ic4 := tn_ne rfl kI_3 c4
          refine lv_iconst (v := 0) hx hb dX1_passesFor_41 (by decide) ?_
          exact tc_pret E hr hlk eH eL (t_nz (by decide) (by decide)).1 (show ((0 : Int32).toInt = 1 ∧ (x0.toInt = x1.toInt ∨ (x0.toInt = 9 ∧ x1.toInt = 8) ∨ (x0.toInt = 5 ∧ x1.toInt = 4) ∨ (x0.toInt = 3 ∧ x1.toInt = 2))) ∨ ((0 : Int32).toInt = 0 ∧ ¬ (x0.toInt = x1.toInt ∨ (x0.toInt = 9 ∧ x1.toInt = 8) ∨ (x0.toInt = 5 ∧ x1.toInt = 4) ∨ (x0.toInt = 3 ∧ x1.toInt = 2))) by have kk := kI_0; omega) dX1_passesFor_42
        · skip
          have ic4 := tn_eq rfl kI_3 c4
          refine lv_iload_n hx hb dX1_passesFor_32 rfl (lv_at hl 1 rfl) ?_
          refine lv_iconst (v := 2) hx hb dX1_passesFor_33 (by decide) ?_
          refine lv_icmp_ne (tgt := 41) hx hb dX1_passesFor_34 (by decide) (fun c5 => ?_) (fun c5 => ?_)
          · skip
            have ic5 := tn_ne rfl kI_2 c5
            refine lv_iconst (v := 0) hx hb dX1_passesFor_41 (by decide) ?_
            exact tc_pret E hr hlk eH eL (t_nz (by decide) (by decide)).1 (show ((0 : Int32).toInt = 1 ∧ (x0.toInt = x1.toInt ∨ (x0.toInt = 9 ∧ x1.toInt = 8) ∨ (x0.toInt = 5 ∧ x1.toInt = 4) ∨ (x0.toInt = 3 ∧ x1.toInt = 2))) ∨ ((0 : Int32).toInt = 0 ∧ ¬ (x0.toInt = x1.toInt ∨ (x0.toInt = 9 ∧ x1.toInt = 8) ∨ (x0.toInt = 5 ∧ x1.toInt = 4) ∨ (x0.toInt = 3 ∧ x1.toInt = 2))) by have kk := kI_0; omega) dX1_passesFor_42
          · skip
            have ic5 := tn_eq rfl kI_2 c5
            refine lv_iconst (v := 1) hx hb dX1_passesFor_37 (by decide) ?_
            refine lv_goto (tgt := 42) hx hb dX1_passesFor_38 (by decide) ?_
            exact tc_pret E hr hlk eH eL (t_nz (by decide) (by decide)).1 (show ((1 : Int32).toInt = 1 ∧ (x0.toInt = x1.toInt ∨ (x0.toInt = 9 ∧ x1.toInt = 8) ∨ (x0.toInt = 5 ∧ x1.toInt = 4) ∨ (x0.toInt = 3 ∧ x1.toInt = 2))) ∨ ((1 : Int32).toInt = 0 ∧ ¬ (x0.toInt = x1.toInt ∨ (x0.toInt = 9 ∧ x1.toInt = 8) ∨ (x0.toInt = 5 ∧ x1.toInt = 4) ∨ (x0.toInt = 3 ∧ x1.toInt = 2))) by have kk := kI_1; omega) dX1_passesFor_42
      · skip
        have ic3 := tn_eq rfl kI_5 c3
        refine lv_iload_n hx hb dX1_passesFor_22 rfl (lv_at hl 1 rfl) ?_
        refine lv_iconst (v := 4) hx hb dX1_passesFor_23 (by decide) ?_
        refine lv_icmp_eq (tgt := 37) hx hb dX1_passesFor_24 (by decide) (fun c6 => ?_) (fun c6 => ?_)
        · skip
          have ic6 := tn_eq rfl kI_4 c6
          refine lv_iconst (v := 1) hx hb dX1_passesFor_37 (by decide) ?_
          refine lv_goto (tgt := 42) hx hb dX1_passesFor_38 (by decide) ?_
          exact tc_pret E hr hlk eH eL (t_nz (by decide) (by decide)).1 (show ((1 : Int32).toInt = 1 ∧ (x0.toInt = x1.toInt ∨ (x0.toInt = 9 ∧ x1.toInt = 8) ∨ (x0.toInt = 5 ∧ x1.toInt = 4) ∨ (x0.toInt = 3 ∧ x1.toInt = 2))) ∨ ((1 : Int32).toInt = 0 ∧ ¬ (x0.toInt = x1.toInt ∨ (x0.toInt = 9 ∧ x1.toInt = 8) ∨ (x0.toInt = 5 ∧ x1.toInt = 4) ∨ (x0.toInt = 3 ∧ x1.toInt = 2))) by have kk := kI_1; omega) dX1_passesFor_42
        · skip
          have ic6 := tn_ne rfl kI_4 c6
          refine lv_iload_n hx hb dX1_passesFor_27 rfl (lv_at hl 0 rfl) ?_
          refine lv_iconst (v := 3) hx hb dX1_passesFor_28 (by decide) ?_
          refine lv_icmp_ne (tgt := 41) hx hb dX1_passesFor_29 (by decide) (fun c7 => ?_) (fun c7 => ?_)
          · skip
            have ic7 := tn_ne rfl kI_3 c7
            refine lv_iconst (v := 0) hx hb dX1_passesFor_41 (by decide) ?_
            exact tc_pret E hr hlk eH eL (t_nz (by decide) (by decide)).1 (show ((0 : Int32).toInt = 1 ∧ (x0.toInt = x1.toInt ∨ (x0.toInt = 9 ∧ x1.toInt = 8) ∨ (x0.toInt = 5 ∧ x1.toInt = 4) ∨ (x0.toInt = 3 ∧ x1.toInt = 2))) ∨ ((0 : Int32).toInt = 0 ∧ ¬ (x0.toInt = x1.toInt ∨ (x0.toInt = 9 ∧ x1.toInt = 8) ∨ (x0.toInt = 5 ∧ x1.toInt = 4) ∨ (x0.toInt = 3 ∧ x1.toInt = 2))) by have kk := kI_0; omega) dX1_passesFor_42
          · exfalso
            have ic7 := tn_eq rfl kI_3 c7
            omega
    · skip
      have ic2 := tn_eq rfl kI_9 c2
      refine lv_iload_n hx hb dX1_passesFor_11 rfl (lv_at hl 1 rfl) ?_
      refine lv_bipush (v := 8) hx hb dX1_passesFor_12 (by decide) ?_
      refine lv_icmp_eq (tgt := 37) hx hb dX1_passesFor_14 (by decide) (fun c8 => ?_) (fun c8 => ?_)
      · skip
        have ic8 := tn_eq rfl kI_8 c8
        refine lv_iconst (v := 1) hx hb dX1_passesFor_37 (by decide) ?_
        refine lv_goto (tgt := 42) hx hb dX1_passesFor_38 (by decide) ?_
        exact tc_pret E hr hlk eH eL (t_nz (by decide) (by decide)).1 (show ((1 : Int32).toInt = 1 ∧ (x0.toInt = x1.toInt ∨ (x0.toInt = 9 ∧ x1.toInt = 8) ∨ (x0.toInt = 5 ∧ x1.toInt = 4) ∨ (x0.toInt = 3 ∧ x1.toInt = 2))) ∨ ((1 : Int32).toInt = 0 ∧ ¬ (x0.toInt = x1.toInt ∨ (x0.toInt = 9 ∧ x1.toInt = 8) ∨ (x0.toInt = 5 ∧ x1.toInt = 4) ∨ (x0.toInt = 3 ∧ x1.toInt = 2))) by have kk := kI_1; omega) dX1_passesFor_42
      · skip
        have ic8 := tn_ne rfl kI_8 c8
        refine lv_iload_n hx hb dX1_passesFor_17 rfl (lv_at hl 0 rfl) ?_
        refine lv_iconst (v := 5) hx hb dX1_passesFor_18 (by decide) ?_
        refine lv_icmp_ne (tgt := 27) hx hb dX1_passesFor_19 (by decide) (fun c9 => ?_) (fun c9 => ?_)
        · skip
          have ic9 := tn_ne rfl kI_5 c9
          refine lv_iload_n hx hb dX1_passesFor_27 rfl (lv_at hl 0 rfl) ?_
          refine lv_iconst (v := 3) hx hb dX1_passesFor_28 (by decide) ?_
          refine lv_icmp_ne (tgt := 41) hx hb dX1_passesFor_29 (by decide) (fun c10 => ?_) (fun c10 => ?_)
          · skip
            have ic10 := tn_ne rfl kI_3 c10
            refine lv_iconst (v := 0) hx hb dX1_passesFor_41 (by decide) ?_
            exact tc_pret E hr hlk eH eL (t_nz (by decide) (by decide)).1 (show ((0 : Int32).toInt = 1 ∧ (x0.toInt = x1.toInt ∨ (x0.toInt = 9 ∧ x1.toInt = 8) ∨ (x0.toInt = 5 ∧ x1.toInt = 4) ∨ (x0.toInt = 3 ∧ x1.toInt = 2))) ∨ ((0 : Int32).toInt = 0 ∧ ¬ (x0.toInt = x1.toInt ∨ (x0.toInt = 9 ∧ x1.toInt = 8) ∨ (x0.toInt = 5 ∧ x1.toInt = 4) ∨ (x0.toInt = 3 ∧ x1.toInt = 2))) by have kk := kI_0; omega) dX1_passesFor_42
          · exfalso
            have ic10 := tn_eq rfl kI_3 c10
            omega
        · exfalso
          have ic9 := tn_eq rfl kI_5 c9
          omega
