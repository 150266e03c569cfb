/-! ===== asking: the stack of who is asked ===== -/
/-- MEMO and ASKED -/
def mem (k : Nat) : Bool := Nat.ble 22 k && Nat.blt k 934 && (Nat.ble 21 ((k - 22) % 38) && Nat.ble ((k - 22) % 38) 23)
theorem mem_y {b k : Int} (h1 : 0 ≤ b) (h2 : b ≤ 23) (h3 : 21 ≤ k) (h4 : k ≤ 23) : mem (ix b k) = true := by
  obtain ⟨e1, e2⟩ := ix_mod h1 (by omega : 0 ≤ k) (by omega)
  have e3 : ix b k < 934 := by unfold ix; omega
  unfold mem
  rw [e1, Nat.ble_eq_true_of_le e2, show Nat.blt (ix b k) 934 = true from Nat.ble_eq_true_of_le e3, Nat.ble_eq_true_of_le (by omega : 21 ≤ k.toNat), Nat.ble_eq_true_of_le (by omega : k.toNat ≤ 23)]; rfl
theorem mem_e {k : Nat} (h : mem k = true) : ∃ b j : Int, 0 ≤ b ∧ b ≤ 23 ∧ 21 ≤ j ∧ j ≤ 23 ∧ k = ix b j := by
  unfold mem at h
  simp only [Bool.and_eq_true] at h
  obtain ⟨⟨h1, h2⟩, h3, h4⟩ := h
  have h1 := Nat.le_of_ble_eq_true h1
  have h2 : k < 934 := Nat.le_of_ble_eq_true h2
  have h3 := Nat.le_of_ble_eq_true h3
  have h4 := Nat.le_of_ble_eq_true h4
  refine ⟨(((k - 22) / 38 : Nat) : Int), (((k - 22) % 38 : Nat) : Int), by omega, by omega, by omega, by omega, ?_⟩
  unfold ix
  omega
theorem mem_n {b k : Int} (h1 : 0 ≤ b) (h2 : 0 ≤ k) (h3 : k ≤ 37) (h4 : ¬ (21 ≤ k ∧ k ≤ 23)) : mem (ix b k) = false := by
  cases h : mem (ix b k) with
  | false => rfl
  | true =>
    exfalso
    obtain ⟨b', j, q1, q2, q3, q4, e⟩ := mem_e h
    have := ix_inj h1 h2 (by omega) q1 (by omega) (by omega) e
    omega
theorem mem_0 {k : Nat} (h : k < 22) : mem k = false := by
  unfold mem
  cases e : Nat.ble 22 k with
  | false => rfl
  | true => have := Nat.le_of_ble_eq_true e; omega
/-- MEMOS as t has them -/
def upM (X : mX) (cu : Nat) (t : Nat → Int32) : mX := fun c k => if c = cu ∧ mem k = true then some (t k) else X c k
def tM (t f : Nat → Int32) : Nat → Int32 := fun k => if mem k = true then f k else t k
theorem tM_y {t f : Nat → Int32} {k : Nat} (h : mem k = true) : tM t f k = f k := if_pos h
theorem tM_n {t f : Nat → Int32} {k : Nat} (h : mem k = false) : tM t f k = t k := if_neg (by rw [h]; decide)
/-- but for MEMO and ASKED the same -/
def OFM (t t' : Nat → Int32) : Prop := ∀ k, mem k = false → t' k = t k
theorem OFM.refl {t : Nat → Int32} : OFM t t := fun _ _ => rfl
theorem OFM.trans {t t' t'' : Nat → Int32} (h : OFM t t') (h' : OFM t' t'') : OFM t t'' := fun k q => (h' k q).trans (h k q)
theorem OFM_tM {t f : Nat → Int32} : OFM t (tM t f) := fun _ q => tM_n q
theorem OFM.K {t t' : Nat → Int32} (h : OFM t t') {b k : Int} (h1 : 0 ≤ b) (h2 : 0 ≤ k) (h3 : k ≤ 37) (h4 : ¬ (21 ≤ k ∧ k ≤ 23)) : t' (ix b k) = t (ix b k) := h _ (mem_n h1 h2 h3 h4)
theorem upM_TI {σ : Nat → Nat} {cu : Nat} {X : mX} {t t' : Nat → Int32} (hT : TI (σ, cu, X) t) (h : OFM t t') : TI (σ, cu, upM X cu t') t' := by
  have g : ∀ k, X cu k = some (t k) → upM X cu t' cu k = some (t' k) := fun k e => by
    unfold upM
    cases hm : mem k with
    | true => rw [if_pos ⟨rfl, rfl⟩]
    | false => rw [if_neg (fun z => by cases z.2), e, h k hm]
  exact ⟨g _ hT.1, g _ hT.2.1, fun b k h1 h2 h3 h4 => g _ (hT.2.2 b k h1 h2 h3 h4)⟩
theorem upM_self {σ : Nat → Nat} {cu : Nat} {X : mX} {t : Nat → Int32} (hT : TI (σ, cu, X) t) : upM X cu t = X := funext fun c => funext fun k => by
  unfold upM
  by_cases z : c = cu ∧ mem k = true
  · rw [if_pos z]
    obtain ⟨b, j, q1, q2, q3, q4, e⟩ := mem_e z.2
    rw [z.1, e]
    exact (hT.2.2 b j q1 q2 (by omega) (by omega)).symm
  · rw [if_neg z]
theorem upM_up {X : mX} {cu : Nat} {t t' : Nat → Int32} : upM (upM X cu t) cu t' = upM X cu t' := funext fun c => funext fun k => by
  unfold upM
  by_cases z : c = cu ∧ mem k = true
  · rw [if_pos z, if_pos z]
  · rw [if_neg z, if_neg z, if_neg z]
theorem upM_AV {σ : Nat → Nat} {cu : Nat} {X : mX} {t : Nat → Int32} (hcu : mCu cu) (hA : mAV (σ, cu, X)) : mAV (σ, cu, upM X cu t) := by
  refine ⟨fun c k h => ?_, fun k h => ?_, fun b k h1 h2 h3 h4 => ?_⟩
  · show upM X cu t c k = none
    unfold upM
    rw [if_neg (fun z => by rcases hcu with e | e | e | e <;> omega)]
    exact hA.1 c k h
  · show upM X cu t 1 k = none
    unfold upM
    rw [if_neg (fun z => by rcases hcu with e | e | e | e <;> omega)]
    exact hA.2.1 k h
  · show upM X cu t cu (ix b k) = none
    unfold upM
    rw [if_neg (fun z => by have := mem_n h1 (by omega : 0 ≤ k) h4 (by omega); rw [this] at z; cases z.2)]
    exact hA.2.2 b k h1 h2 h3 h4
theorem upM_qX {cu : Nat} {a : Nat → Option (Nat → Int32)} {t t' : Nat → Int32} (hcu : mCu cu) (h : OFM t t') : upM (qX (upA a cu t)) cu t' = qX (upA a cu t') := funext fun c => funext fun k => by
  unfold upM
  by_cases z : c = cu ∧ mem k = true
  · rw [if_pos z, z.1]
    obtain ⟨b, j, q1, q2, q3, q4, e⟩ := mem_e z.2
    rw [e]
    exact (qX_at hcu upA_at (tr_y q1 q2 (by omega) (by omega))).symm
  · rw [if_neg z]
    unfold qX
    by_cases y : ((c = 2 ∨ c = 3 ∨ c = 4 ∨ c = 5) ∧ tr k = true) ∨ (c = 20 ∨ c = 17 ∨ (c = 1 ∧ k = 30))
    · rw [if_pos y, if_pos y]
      by_cases e : c = cu
      · subst e
        rw [upA_at, upA_at]
        show some (t k) = some (t' k)
        cases hm : mem k with
        | true => exact absurd ⟨rfl, hm⟩ z
        | false => rw [h k hm]
      · rw [upA_ne e, upA_ne e]
    · rw [if_neg y, if_neg y]
/-- masks that leave the row 'now' alone -/
theorem upM_kO {P : Nat → Nat → Bool} {cu : Nat} {X : mX} {F : mF} {t : Nat → Int32} (hP : ∀ k, P cu k = false) : upM (kO P X F) cu t = kO P (upM X cu t) F := funext fun c => funext fun k => by
  by_cases e : c = cu
  · subst e
    rw [kO_out (hP k)]
    unfold upM
    rw [kO_out (hP k)]
  · cases hp : P c k with
    | true =>
      rw [kO_in hp]
      unfold upM
      rw [if_neg (fun z => e z.1), kO_in hp]
    | false =>
      rw [kO_out hp]
      unfold upM
      rw [if_neg (fun z => e z.1), if_neg (fun z => e z.1), kO_out hp]
def PA (cu c k : Nat) : Bool := c == 6 || c == 7 || (c == cu && mem k)
theorem PA_6 {cu k : Nat} : PA cu 6 k = true := rfl
theorem PA_7 {cu k : Nat} : PA cu 7 k = true := by unfold PA; simp
theorem PA_m {cu : Nat} {b k : Int} (h1 : 0 ≤ b) (h2 : b ≤ 23) (h3 : 21 ≤ k) (h4 : k ≤ 23) : PA cu cu (ix b k) = true := by unfold PA; rw [mem_y h1 h2 h3 h4]; simp
theorem PA_f {cu k : Nat} (hc : mCu cu) (h : mem k = false) : PA cu cu k = false := by
  unfold PA
  rw [h]
  rcases hc with e | e | e | e <;> subst e <;> rfl
theorem PA_k {cu : Nat} {b k : Int} (hc : mCu cu) (h1 : 0 ≤ b) (h2 : 0 ≤ k) (h3 : k ≤ 37) (h4 : ¬ (21 ≤ k ∧ k ≤ 23)) : PA cu cu (ix b k) = false := PA_f hc (mem_n h1 h2 h3 h4)
theorem PA_1 {cu k : Nat} (hc : mCu cu) : PA cu 1 k = false := by
  unfold PA
  rcases hc with e | e | e | e <;> subst e <;> rfl
theorem PA_TI {σ : Nat → Nat} {cu : Nat} {X : mX} {F : mF} {t : Nat → Int32} (hcu : mCu cu) (hT : TI (σ, cu, X) t) : TI (σ, cu, kO (PA cu) X F) (tM t (F cu)) := by
  have g : ∀ k, X cu k = some (t k) → kO (PA cu) X F cu k = some (tM t (F cu) k) := fun k e => by
    cases hm : mem k with
    | true => rw [kO_in (by unfold PA; rw [hm]; simp), tM_y hm]
    | false => rw [kO_out (PA_f hcu hm), e, tM_n hm]
  exact ⟨g _ hT.1, g _ hT.2.1, fun b k h1 h2 h3 h4 => g _ (hT.2.2 b k h1 h2 h3 h4)⟩
theorem PA_end {G : tG} {σ : Nat → Nat} {cu : Nat} {X : mX} {F : mF} {t : Nat → Int32} {s : State} {H : Heap} {locs : List Loc} (hcu : mCu cu) (hA : mAV (σ, cu, X)) (hG : mGH G (σ, cu, kO (PA cu) X F) s H locs) : mGH G (σ, cu, upM X cu (tM t (F cu))) s H locs :=
  mGH.le (Y := (σ, cu, kO (PA cu) X F)) (Y' := (σ, cu, upM X cu (tM t (F cu)))) ⟨rfl, rfl, fun c k y e => by
    have e : upM X cu (tM t (F cu)) c k = some y := e
    show kO (PA cu) X F c k = some y
    unfold upM at e
    by_cases z : c = cu ∧ mem k = true
    · rw [if_pos z, tM_y z.2] at e
      rw [z.1, kO_in (by unfold PA; rw [z.2]; simp)]; exact e
    · rw [if_neg z] at e
      cases hp : PA cu c k with
      | false => rw [kO_out hp]; exact e
      | true =>
        exfalso
        unfold PA at hp
        simp only [Bool.or_eq_true, Bool.and_eq_true, beq_iff_eq] at hp
        rcases hp with (h | h) | h
        · have := hA.1 c k (by omega); rw [show X c k = none from this] at e; cases e
        · have := hA.1 c k (by omega); rw [show X c k = none from this] at e; cases e
        · exact z h⟩ hG
def uM (m : Int32) : Nat := if m.toInt = 0 then 2 else if m.toInt = 3 then 0 else 1
theorem i4 {m : Int32} (h1 : 0 ≤ m.toInt) (h2 : m.toInt ≤ 3) : m = 0 ∨ m = 1 ∨ m = 2 ∨ m = 3 := by
  rcases (show m.toInt = 0 ∨ m.toInt = 1 ∨ m.toInt = 2 ∨ m.toInt = 3 by omega) with h | h | h | h
  · exact Or.inl (Int32.toInt_inj.mp (by rw [h]; decide))
  · exact Or.inr (Or.inl (Int32.toInt_inj.mp (by rw [h]; decide)))
  · exact Or.inr (Or.inr (Or.inl (Int32.toInt_inj.mp (by rw [h]; decide))))
  · exact Or.inr (Or.inr (Or.inr (Int32.toInt_inj.mp (by rw [h]; decide))))
theorem i2 {m : Int32} (h1 : 0 ≤ m.toInt) (h2 : m.toInt ≤ 1) : m = 0 ∨ m = 1 := by
  rcases (show m.toInt = 0 ∨ m.toInt = 1 by omega) with h | h
  · exact Or.inl (Int32.toInt_inj.mp (by rw [h]; decide))
  · exact Or.inr (Int32.toInt_inj.mp (by rw [h]; decide))
theorem bU_or {m w : Int32} (h1 : 0 ≤ m.toInt) (h2 : m.toInt ≤ 3) (h3 : 0 ≤ w.toInt) (h4 : w.toInt ≤ 1) : 0 ≤ (m ||| (1 <<< (w &&& 31))).toInt ∧ (m ||| (1 <<< (w &&& 31))).toInt ≤ 3 ∧ (bU m w → uM (m ||| (1 <<< (w &&& 31))) < uM m) := by
  rcases i4 h1 h2 with e | e | e | e <;> rcases i2 h3 h4 with e2 | e2 <;> subst e <;> subst e2 <;> (unfold bU uM; decide)
/-- each on the stack came, and hasn't told what it is asked -/
def AI (cu : Nat) (t3 : Int) (F : mF) (d : Int) : Prop := Stk (F 6) d ∧ ∀ i : Nat, (i : Int) < d → (F 6 i).toInt < t3 ∧ bU (F cu (ix (F 6 i).toInt 21)) (F 7 i)
def AM (cu : Nat) (F : mF) (d : Int) : Nat := 31 * ms (fun b => uM (F cu (ix (b : Int) 21))) 24 + (30 - d).toNat
theorem AI_one {cu : Nat} {t3 : Int} {F F1 F2 : mF} {c w : Int32} (hcu : mCu cu) (e1 : F1 = up2 F 6 0 c) (e2 : F2 = up2 F1 7 0 w) (h0 : 0 ≤ c.toInt) (h23 : c.toInt ≤ 23) (ht : c.toInt < t3) (hb : bU (F cu (ix c.toInt 21)) w) : AI cu t3 F2 1 := by
  have hc6 : ¬ cu = 6 ∧ ¬ cu = 7 := by rcases hcu with e | e | e | e <;> subst e <;> decide
  have g6 : F2 6 0 = c := by rw [e2, up2_ne (by decide), e1, up2_at]
  have g7 : F2 7 0 = w := by rw [e2, up2_at]
  have gc : F2 cu = F cu := by rw [e2, up2_nc hc6.2, e1, up2_nc hc6.1]
  refine ⟨Stk.one (by rw [g6]; exact h0) (by rw [g6]; exact h23), fun i hi => ?_⟩
  have e : i = 0 := by omega
  subst e
  rw [g6, g7, gc]
  exact ⟨ht, hb⟩
theorem AI_push {cu : Nat} {t3 d : Int} {F F1 F2 : mF} {n : Nat} {c w : Int32} (h : AI cu t3 F d) (hd : 1 ≤ d) (hcu : mCu cu) (hn : (n : Int) = d) (e1 : F1 = up2 F 6 n c) (e2 : F2 = up2 F1 7 n w) (hc : (F 6 (d - 1).toNat).toInt < c.toInt) (h23 : c.toInt ≤ 23) (ht : c.toInt < t3) (hb : bU (F cu (ix c.toInt 21)) w) : AI cu t3 F2 (d + 1) ∧ AM cu F2 (d + 1) < AM cu F d := by
  have hc6 : ¬ cu = 6 ∧ ¬ cu = 7 := by rcases hcu with e | e | e | e <;> subst e <;> decide
  have hle := h.1.le
  have g6 : F2 6 n = c := by rw [e2, up2_ne (by omega), e1, up2_at]
  have g7 : F2 7 n = w := by rw [e2, up2_at]
  have gc : F2 cu = F cu := by rw [e2, up2_nc hc6.2, e1, up2_nc hc6.1]
  have o6 : ∀ i : Nat, (i : Int) < d → F2 6 i = F 6 i := fun i hi => by rw [e2, up2_ne (by omega), e1, up2_ne (by omega)]
  have o7 : ∀ i : Nat, (i : Int) < d → F2 7 i = F 7 i := fun i hi => by rw [e2, up2_ne (by omega), e1, up2_ne (by omega)]
  have en : (d - 1).toNat + 1 = n := by omega
  refine ⟨⟨Stk.push (L' := F2 6) (n := (d - 1).toNat) h.1 (by omega) o6 (by rw [en, g6]; exact hc) (by rw [en, g6]; exact h23), fun i hi => ?_⟩, ?_⟩
  · by_cases e : i = n
    · subst e
      rw [g6, g7, gc]; exact ⟨ht, hb⟩
    · rw [o6 i (by omega), o7 i (by omega), gc]; exact h.2 i (by omega)
  · unfold AM
    rw [gc]
    omega
theorem AI_pop {cu : Nat} {t3 d : Int} {F F1 : mF} {n : Nat} {a m w : Int32} (h : AI cu t3 F d) (hd : 1 ≤ d) (hcu : mCu cu) (hn : (n : Int) = d - 1) (ea : a = F 6 n) (em : m = F cu (ix a.toInt 21)) (ew : w = F 7 n) (h1 : 0 ≤ m.toInt) (h2 : m.toInt ≤ 3) (h3 : 0 ≤ w.toInt) (h4 : w.toInt ≤ 1) (e1 : F1 = up2 F cu (ix a.toInt 21) (m ||| (1 <<< (w &&& 31)))) : AI cu t3 F1 (d - 1) ∧ AM cu F1 (d - 1) < AM cu F d := by
  have hc6 : ¬ 6 = cu ∧ ¬ 7 = cu := by rcases hcu with e | e | e | e <;> subst e <;> decide
  have g6 : F1 6 = F 6 := by rw [e1, up2_nc hc6.1]
  have g7 : F1 7 = F 7 := by rw [e1, up2_nc hc6.2]
  have hle := h.1.le
  have ha := h.1 n (by omega)
  rw [← ea] at ha
  have hb := (h.2 n (by omega)).2
  rw [← ea, ← em, ← ew] at hb
  have hu := (bU_or h1 h2 h3 h4).2.2 hb
  refine ⟨⟨by rw [g6]; exact h.1.pop (by omega), fun i hi => ?_⟩, ?_⟩
  · rw [g6, g7, e1, up2_ne (fun z => ?_)]
    · exact h.2 i (by omega)
    · have hlt := ha.2.2 i (by omega)
      have hi0 := h.1 i (by omega)
      have := (ix_inj (by omega) (by decide) (by decide) (by omega) (by decide) (by decide) z.2).1
      omega
  · unfold AM
    have hl : ms (fun b => uM (F1 cu (ix (b : Int) 21))) 24 < ms (fun b => uM (F cu (ix (b : Int) 21))) 24 := by
      refine ms_lt (b := a.toInt.toNat) (fun i hi => ?_) (by omega) ?_
      · show uM (F1 cu (ix (i : Int) 21)) ≤ uM (F cu (ix (i : Int) 21))
        by_cases z : (i : Int) = a.toInt
        · rw [e1, z, up2_at, ← em]; omega
        · rw [e1, up2_ne (fun y => z (ix_inj (by omega) (by decide) (by decide) (by omega) (by decide) (by decide) y.2).1)]
          exact Nat.le_refl _
      · show uM (F1 cu (ix ((a.toInt.toNat : Nat) : Int) 21)) < uM (F cu (ix ((a.toInt.toNat : Nat) : Int) 21))
        rw [show ((a.toInt.toNat : Nat) : Int) = a.toInt by omega, e1, up2_at, ← em]
        exact hu
    omega
theorem AI_0 {cu : Nat} {t3 : Int} {F : mF} : AI cu t3 F (0 : Int32).toInt := ⟨fun i hi => by have k0 := kI_0; omega, fun i hi => by have k0 := kI_0; omega⟩
theorem TI_mem {σ : Nat → Nat} {cu : Nat} {X : mX} {t : Nat → Int32} (hT : TI (σ, cu, X) t) {k : Nat} (h : mem k = true) : X cu k = some (t k) := by
  obtain ⟨b, j, q1, q2, q3, q4, e⟩ := mem_e h
  rw [e]
  exact hT.2.2 b j q1 q2 (by omega) (by omega)
theorem tM_self {t f : Nat → Int32} (h : ∀ k, mem k = true → f k = t k) : tM t f = t := funext fun k => by
  cases hm : mem k with
  | true => rw [tM_y hm, h k hm]
  | false => rw [tM_n hm]
theorem OFM.ag {t t' : Nat → Int32} (h : OFM t t') : AG t t' := ⟨h 0 (mem_0 (by decide)), h 3 (mem_0 (by decide)), fun b k h1 h2 h3 => h.K h1 h2 (by omega) (by omega)⟩
theorem bU_or2 {m w v : Int32} (h1 : 0 ≤ m.toInt) (h2 : m.toInt ≤ 3) (h3 : 0 ≤ w.toInt) (h4 : w.toInt ≤ 1) (h5 : v = 0 ∨ v = 1) : ¬ bU (m ||| (1 <<< (w &&& 31))) v ↔ ¬ bU m v ∨ v = w := by
  rcases i4 h1 h2 with e | e | e | e <;> rcases i2 h3 h4 with e2 | e2 <;> rcases h5 with e3 | e3 <;> subst e <;> subst e2 <;> subst e3 <;> (unfold bU; decide)
/-- the MEMO of what was figured is kept -/
theorem RKEEP {t f f' : Nat → Int32} {b : Int} {m w v : Int32} (hI : TInv (tM t f)) (hb : rCm (tM t f) b) (h3 : 0 ≤ w.toInt) (h4 : w.toInt ≤ 1) (em : m = f (ix b 21)) (h1 : 0 ≤ m.toInt) (h2 : m.toInt ≤ 3) (e : f' = upN (upN f (ix b (22 + w.toInt)) v) (ix b 21) (m ||| (1 <<< (w &&& 31))))
    (hv : v.toInt = anI (K (tM t f)) b w.toInt (fun i : Nat => K (tM t f) (K (tM t f) b (11 + (i : Int))) (22 + whI (K (tM t f) b 1) w.toInt))) (hk9 : KN (K (tM t f) b 1) → ∀ i : Int, 0 ≤ i → i < K (tM t f) b 10 → rmb (tM t f) (K (tM t f) b (11 + i)) (whI (K (tM t f) b 1) w.toInt)) : TInv (tM t f') ∧ rmb (tM t f') b w.toInt := by
  obtain ⟨T, eT⟩ : ∃ T, T = tM t f := ⟨_, rfl⟩
  obtain ⟨T', eT'⟩ : ∃ T, T = tM t f' := ⟨_, rfl⟩
  rw [← eT] at hI hb hv hk9
  rw [← eT']
  have hb0 := hb.1
  have hb23 := hb.2.1
  have hO : OFM T T' := fun k q => by rw [eT, eT', tM_n q, tM_n q]
  have fne : ∀ b' k : Int, 0 ≤ b' → b' ≤ 23 → 21 ≤ k → k ≤ 23 → ¬ (b' = b ∧ (k = 21 ∨ k = 22 + w.toInt)) → T' (ix b' k) = T (ix b' k) := fun b' k q0 q1 q2 q3 q4 => by
    rw [eT, eT', tM_y (mem_y q0 q1 q2 q3), tM_y (mem_y q0 q1 q2 q3), e, upN_ne (fun z => ?_), upN_ne (fun z => ?_)]
    · have := ix_inj q0 (by omega) (by omega) hb0 (by omega) (by omega) z; omega
    · have := ix_inj q0 (by omega) (by omega) hb0 (by omega) (by omega) z; omega
  have f21 : T' (ix b 21) = m ||| (1 <<< (w &&& 31)) := by rw [eT', tM_y (mem_y hb0 hb23 (by decide) (by decide)), e, upN_at]
  have g21 : T (ix b 21) = m := by rw [eT, tM_y (mem_y hb0 hb23 (by decide) (by decide)), em]
  have f22 : T' (ix b (22 + w.toInt)) = v := by
    rw [eT', tM_y (mem_y hb0 hb23 (by omega) (by omega)), e, upN_ne (fun z => ?_), upN_at]
    have := ix_inj hb0 (by omega) (by omega) hb0 (by omega) (by omega) z; omega
  have hI0 := TInv0_AG hO.ag hI.z
  obtain ⟨hk, hL⟩ := K_LOC (t' := T') hI.z (fun b' k q1 q2 q3 => hO.K q1 q2 (by omega) (by omega))
  have hor : ∀ y : Int, (y = 0 ∨ y = 1) → (rmb T' b y ↔ rmb T b y ∨ y = w.toInt) := fun y hy => by
    unfold rmb
    rw [f21, g21]
    have a0 := bU_or2 (v := 0) h1 h2 h3 h4 (Or.inl rfl)
    have a1 := bU_or2 (v := 1) h1 h2 h3 h4 (Or.inr rfl)
    rw [a0, a1]
    have k0 : (0 : Int32).toInt = 0 := rfl
    have k1 : (1 : Int32).toInt = 1 := rfl
    have w0 : (0 : Int32) = w ↔ w.toInt = 0 := ⟨fun z => by rw [← z]; rfl, fun z => (Int32.toInt_inj.mp (by rw [z]; rfl))⟩
    have w1 : (1 : Int32) = w ↔ w.toInt = 1 := ⟨fun z => by rw [← z]; rfl, fun z => (Int32.toInt_inj.mp (by rw [z]; rfl))⟩
    rw [w0, w1]
    rcases hy with e | e <;> subst e <;> constructor
    · rintro (⟨_, z | z⟩ | ⟨z, _⟩)
      · exact Or.inl (Or.inl ⟨rfl, z⟩)
      · exact Or.inr z.symm
      · exact absurd z (by decide)
    · rintro ((⟨_, z⟩ | ⟨z, _⟩) | z)
      · exact Or.inl ⟨rfl, Or.inl z⟩
      · exact absurd z (by decide)
      · exact Or.inl ⟨rfl, Or.inr z.symm⟩
    · rintro (⟨z, _⟩ | ⟨_, z | z⟩)
      · exact absurd z (by decide)
      · exact Or.inl (Or.inr ⟨rfl, z⟩)
      · exact Or.inr z.symm
    · rintro ((⟨z, _⟩ | ⟨_, z⟩) | z)
      · exact absurd z (by decide)
      · exact Or.inr ⟨rfl, Or.inl z⟩
      · exact Or.inr ⟨rfl, Or.inr z.symm⟩
  have hne : ∀ b' y : Int, rCm T b' → ¬ b' = b → (rmb T' b' y ↔ rmb T b' y) := fun b' y q1 q2 => by
    unfold rmb
    rw [fne b' 21 q1.1 q1.2.1 (by decide) (by decide) (fun z => q2 z.1)]
  have hw01 : w.toInt = 0 ∨ w.toInt = 1 := by omega
  have hasT : v.toInt = asT (K T) 24 b w.toInt := by
    rw [hv, asT_24 hk hb]
    refine (anI_eq LOC.refl (fun h6 i hi => ?_)).symm
    have hc := (hk b hb).2 (i : Int) (by omega) (by omega)
    exact (hI.r _ _ hc.2.2 (whI_01 hw01) (hk9 h6 (i : Int) (by omega) (by omega))).1
  have hR : MINV (rCm T) (K T) (rmb T') (rmv T') := by
    refine MINV_keep (n := b) (w0 := w.toInt) hk hb hI.r (fun b' y q1 q2 q3 => ?_) (fun b' y q1 q => ?_) ?_ hk9
    · by_cases z : b' = b
      · subst z
        rcases (hor y q2).mp q3 with q4 | q4
        · by_cases z2 : y = w.toInt
          · exact Or.inl ⟨rfl, z2⟩
          · refine Or.inr ⟨q4, ?_⟩
            show (T' (ix b' (22 + y))).toInt = (T (ix b' (22 + y))).toInt
            rw [fne b' (22 + y) hb0 hb23 (by omega) (by omega) (by omega)]
        · exact Or.inl ⟨rfl, q4⟩
      · refine Or.inr ⟨(hne b' y q1 z).mp q3, ?_⟩
        show (T' (ix b' (22 + y))).toInt = (T (ix b' (22 + y))).toInt
        rw [fne b' (22 + y) q1.1 q1.2.1 (by omega) (by omega) (fun z2 => z z2.1)]
    · have hy : y = 0 ∨ y = 1 := by rcases q with q | q; exact Or.inl q.1; exact Or.inr q.1
      by_cases z : b' = b
      · rw [z] at q ⊢; exact (hor y hy).mpr (Or.inl q)
      · exact (hne b' y q1 z).mpr q
    · show (T' (ix b (22 + w.toInt))).toInt = _
      rw [f22]; exact hasT
  refine ⟨hI0.mk ⟨?_, TPI_eq hO.ag.1 hO.ag.2.1 (fun b' q _ => by show (T' (ix b' 9)).toInt = (T (ix b' 9)).toInt; rw [hO.K q (by decide) (by decide) (by decide)]) hI.p⟩, (hor _ hw01).mpr (Or.inr rfl)⟩
  rw [rCm_eq hO.ag.2.1]
  exact MINV_cg hk hL hR (fun _ _ _ _ => Iff.rfl) (fun _ _ _ _ => rfl)
