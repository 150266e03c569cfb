/-! ===== laying: the stack of who is laid ===== -/
def PC (c k : Nat) : Bool := (c == 1 && k == 18) || c == 10 || c == 11
theorem PC_cu {cu : Nat} (h : mCu cu) (k : Nat) : PC cu k = false := by
  rcases h with e | e | e | e <;> subst e <;> rfl
theorem PC_tr {cu : Nat} (h : mCu cu) : ∀ k, tr k = true → PC cu k = false := fun k _ => PC_cu h k
theorem PC_d : PC 1 18 = true := rfl
theorem PC_10 {k : Nat} : PC 10 k = true := rfl
theorem PC_11 {k : Nat} : PC 11 k = true := rfl
theorem PC_AV {σ : Nat → Nat} {cu : Nat} {X : mX} {F : mF} (hA : mAV (σ, cu, X)) (hcu : mCu cu) : mAV (σ, cu, kO PC X F) := by
  refine ⟨fun c k h => ?_, fun k h => ?_, fun b k h1 h2 h3 h4 => ?_⟩
  · exact (kO_out (by unfold PC; rcases h with e | e | e | e | e | e | e <;> subst e <;> rfl)).trans (hA.1 c k h)
  · exact (kO_out (by unfold PC; rcases h with e | e | e | e | e <;> subst e <;> rfl)).trans (hA.2.1 k h)
  · exact (kO_out (PC_cu hcu _)).trans (hA.2.2 b k h1 h2 h3 h4)
def SPo (F F' : mF) : Prop := (F' 1 18).toInt = (F 1 18).toInt - 1 ∧ F' 10 = F 10 ∧ F' 11 = F 11
def LyP (F F' : mF) (c : Int32) : Prop := F' = F ∨ ((F' 1 18).toInt = (F 1 18).toInt + 1 ∧ F' 10 = upN (F 10) (F 1 18).toNatClampNeg c ∧ F' 11 = upN (F 11) c.toNatClampNeg 0)
def SPs (t3 : Int) (b : Int32) (F F' : mF) : Prop := ∃ (F1 : mF) (s' c : Int32), F1 = up2 F 11 b.toNatClampNeg s' ∧ (F 11 b.toNatClampNeg).toInt < s'.toInt ∧ s'.toInt ≤ 18 ∧ LyP F1 F' c ∧ b.toInt < c.toInt ∧ c.toInt ≤ 23 ∧ c.toInt < t3
def SP (t3 : Int) (b : Int32) (F F' : mF) : Prop := SPo F F' ∨ SPs t3 b F F'
theorem SPo_of {F F' : mF} {v : Int32} (e : F' = up2 F 1 18 v) (h : v.toInt = (F 1 18).toInt - 1) : SPo F F' := by
  subst e
  exact ⟨by rw [up2_at]; exact h, up2_nc (by decide), up2_nc (by decide)⟩
theorem LyP_of {F F1 F2 F3 : mF} {d c v : Int32} (hd : d = F 1 18) (e1 : F1 = up2 F 10 d.toNatClampNeg c) (e2 : F2 = up2 F1 11 c.toNatClampNeg 0) (e3 : F3 = up2 F2 1 18 v) (h : v.toInt = (F2 1 18).toInt + 1) : LyP F F3 c := by
  have q : F2 1 18 = F 1 18 := by rw [e2, up2_ne (by omega), e1, up2_ne (by omega)]
  refine Or.inr ⟨by rw [e3, up2_at, h, q], ?_, ?_⟩
  · rw [e3, up2_nc (by decide), e2, up2_nc (by decide), e1, up2_c, hd]
  · rw [e3, up2_nc (by decide), e2, up2_c, e1, up2_nc (by decide)]
/-- the stack in order, each step in its range -/
def LI (F : mF) : Prop := 0 ≤ (F 1 18).toInt ∧ Stk (F 10) (F 1 18).toInt ∧ ∀ i : Nat, (i : Int) < (F 1 18).toInt → 0 ≤ (F 11 (F 10 i).toNatClampNeg).toInt ∧ (F 11 (F 10 i).toNatClampNeg).toInt ≤ 18
def LG (F : mF) : Nat → Int := fun i => 19 - (F 11 (F 10 i).toNatClampNeg).toInt
def LM (F : mF) : Nat := mw (F 10) (LG F) (F 1 18).toInt.toNat
theorem LI_0 {F : mF} (h : (F 1 18).toInt = 0) : LI F := ⟨by omega, fun i hi => by omega, fun i hi => by omega⟩
theorem LI_ly {F F' : mF} {c : Int32} (h : (F 1 18).toInt = 0) (hp : LyP F F' c) (h0 : 0 ≤ c.toInt) (h23 : c.toInt ≤ 23) : LI F' := by
  rcases hp with e | ⟨h1, h2, h3⟩
  · rw [e]; exact LI_0 h
  · have e0 : (F 1 18).toNatClampNeg = 0 := by show (F 1 18).toInt.toNat = 0; omega
    have e1 : F' 10 0 = c := by rw [h2, e0, upN_at]
    refine ⟨by omega, ?_, fun i hi => ?_⟩
    · rw [h1, h]; exact Stk.one (by rw [e1]; exact h0) (by rw [e1]; exact h23)
    · have e : i = 0 := by omega
      subst e
      rw [e1, h3, upN_at]; exact ⟨by decide, by decide⟩
theorem LI_step {t3 : Int} {F F' : mF} {b : Int32} {n : Nat} (h : LI F) (hd : 1 ≤ (F 1 18).toInt) (hn : (n : Int) = (F 1 18).toInt - 1) (hb : b = F 10 n) (hp : SP t3 b F F') : LI F' ∧ LM F' < LM F := by
  obtain ⟨h0, hS, hR⟩ := h
  have hb0 := hS n (by omega)
  rw [← hb] at hb0
  have hne : ∀ i : Nat, i < n → (F 10 i).toNatClampNeg ≠ b.toNatClampNeg := fun i hi => by
    have h1 := hb0.2.2 i hi
    have h2 := hS i (by omega)
    show (F 10 i).toInt.toNat ≠ b.toInt.toNat
    omega
  have eM : LM F = mw (F 10) (LG F) (n + 1) := by unfold LM; rw [show (F 1 18).toInt.toNat = n + 1 by omega]
  have hRb := hR n (by omega)
  rw [← hb] at hRb
  rcases hp with ⟨h1, h2, h3⟩ | ⟨F1, s', c, e1, h1, h2, hl, h3, h4, h5⟩
  · refine ⟨⟨by omega, by rw [h1, h2]; exact hS.pop (by omega), fun i hi => by rw [h2, h3]; exact hR i (by omega)⟩, ?_⟩
    rw [eM]
    unfold LM
    rw [show (F' 1 18).toInt.toNat = n by omega]
    refine mw_pop (fun i hi => by rw [h2]) (fun i hi => by unfold LG; rw [h2, h3]) ?_
    unfold LG
    rw [← hb]; omega
  · have q10 : F1 10 = F 10 := by rw [e1, up2_nc (by decide)]
    have q18 : F1 1 18 = F 1 18 := by rw [e1, up2_ne (by omega)]
    have q11 : F1 11 = upN (F 11) b.toNatClampNeg s' := by rw [e1, up2_c]
    rcases hl with e | ⟨g1, g2, g3⟩
    · subst e
      have hg : ∀ i, i < n → LG F' i = LG F i := fun i hi => by unfold LG; rw [q10, q11, upN_ne (hne i hi)]
      have hgn : LG F' n = 19 - s'.toInt := by unfold LG; rw [q10, q11, ← hb, upN_at]
      refine ⟨⟨by rw [q18]; exact h0, by rw [q10, q18]; exact hS, fun i hi => ?_⟩, ?_⟩
      · rw [q18] at hi
        rw [q10, q11]
        by_cases z : i = n
        · rw [z, ← hb, upN_at]; omega
        · rw [upN_ne (hne i (by omega))]; exact hR i hi
      · rw [eM]
        unfold LM
        rw [q18, show (F 1 18).toInt.toNat = n + 1 by omega]
        refine mw_step (fun i _ => by rw [q10]) hg (by rw [hgn]; omega) ?_
        rw [hgn]
        unfold LG
        rw [← hb]; omega
    · rw [q18] at g1 g2
      rw [q10] at g2
      rw [q11] at g3
      have ed : (F 1 18).toNatClampNeg = n + 1 := by show (F 1 18).toInt.toNat = n + 1; omega
      rw [ed] at g2
      have hle := hS.le
      have hcb : c.toNatClampNeg ≠ b.toNatClampNeg := by show c.toInt.toNat ≠ b.toInt.toNat; omega
      have hnc : ∀ i : Nat, i < n + 1 → (F 10 i).toNatClampNeg ≠ c.toNatClampNeg := fun i hi => by
        show (F 10 i).toInt.toNat ≠ c.toInt.toNat
        have h7 := hS i (by omega)
        by_cases z : i = n
        · rw [z, ← hb]; omega
        · have := hb0.2.2 i (by omega); omega
      have oL : ∀ i : Nat, i < n + 1 → F' 10 i = F 10 i := fun i hi => by rw [g2, upN_ne (by omega)]
      have nL : F' 10 (n + 1) = c := by rw [g2, upN_at]
      have hg : ∀ i, i < n → LG F' i = LG F i := fun i hi => by
        unfold LG
        rw [oL i (by omega), g3, upN_ne (hnc i (by omega)), upN_ne (hne i hi)]
      have hgn : LG F' n = 19 - s'.toInt := by
        unfold LG
        rw [oL n (by omega), g3, ← hb, upN_ne (fun z => hcb z.symm), upN_at]
      have hgc : LG F' (n + 1) = 19 := by
        unfold LG
        rw [nL, g3, upN_at]; decide
      have ep : (F 10 n).toInt < (F' 10 (n + 1)).toInt := by rw [← hb, nL]; exact h3
      have ec : (F' 10 (n + 1)).toInt ≤ 23 := by rw [nL]; exact h4
      refine ⟨⟨by omega, ?_, fun i hi => ?_⟩, ?_⟩
      · rw [g1]
        exact Stk.push hS hn (fun i hi => oL i (by omega)) ep ec
      · by_cases z : i = n + 1
        · rw [z, nL, g3, upN_at]; decide
        · rw [oL i (by omega), g3, upN_ne (hnc i (by omega))]
          by_cases y : i = n
          · rw [y, ← hb, upN_at]; omega
          · rw [upN_ne (hne i (by omega))]; exact hR i (by omega)
      · rw [eM]
        unfold LM
        rw [show (F' 1 18).toInt.toNat = n + 2 by omega]
        refine mw_push (fun i hi => oL i hi) hg (by rw [hgn]; omega) ?_ (by rw [hgc]; decide) (by rw [← hb]; omega) ep ec
        rw [hgn]
        unfold LG
        rw [← hb]; omega
/-! the stack of who is asked for a base -/
def mPB (c k : Nat) : Bool := c == 8 || c == 9
theorem PB_cu {cu : Nat} (h : mCu cu) (k : Nat) : mPB cu k = false := by
  rcases h with e | e | e | e <;> subst e <;> rfl
theorem PB_tr {cu : Nat} (h : mCu cu) : ∀ k, tr k = true → mPB cu k = false := fun k _ => PB_cu h k
theorem PB_8 {k : Nat} : mPB 8 k = true := rfl
theorem PB_9 {k : Nat} : mPB 9 k = true := rfl
theorem PB_none {σ : Nat → Nat} {cu : Nat} {X : mX} (hA : mAV (σ, cu, X)) (c k : Nat) (h : mPB c k = true) : X c k = none := by
  unfold mPB at h
  simp at h
  exact hA.1 c k (by omega)
def BI (F : mF) (d : Int) : Prop := Stk (F 8) d ∧ ∀ i : Nat, (i : Int) < d → 0 ≤ (F 9 i).toInt ∧ (F 9 i).toInt ≤ 8
def BM (F : mF) (d : Int) : Nat := mw (F 8) (fun i => 19 - (F 9 i).toInt) d.toNat
theorem BI_one {F F1 F2 : mF} {c : Int32} (e1 : F1 = up2 F 8 0 c) (e2 : F2 = up2 F1 9 0 0) (h0 : 0 ≤ c.toInt) (h23 : c.toInt ≤ 23) : BI F2 1 := by
  have g6 : F2 8 0 = c := by rw [e2, up2_ne (by decide), e1, up2_at]
  have g7 : F2 9 0 = 0 := by rw [e2, up2_at]
  refine ⟨Stk.one (by rw [g6]; exact h0) (by rw [g6]; exact h23), fun i hi => ?_⟩
  have e : i = 0 := by omega
  subst e
  rw [g7]; decide
theorem BI_pop {F : mF} {d : Int} (h : BI F d) (hd : 1 ≤ d) : BI F (d - 1) ∧ BM F (d - 1) < BM F d := by
  refine ⟨⟨h.1.pop (by omega), fun i hi => h.2 i (by omega)⟩, ?_⟩
  unfold BM
  have h2 := h.2 (d - 1).toNat (by omega)
  have := mw_pop (L := F 8) (L' := F 8) (g := fun i => 19 - (F 9 i).toInt) (g' := fun i => 19 - (F 9 i).toInt) (n := (d - 1).toNat) (fun _ _ => rfl) (fun _ _ => rfl) (by show 1 ≤ 19 - (F 9 (d - 1).toNat).toInt; omega)
  rw [show (d - 1).toNat + 1 = d.toNat by omega] at this
  exact this
theorem BI_push {F F1 F2 F3 : mF} {d : Int} {n : Nat} {c z : Int32} (h : BI F d) (hd : 1 ≤ d) (hn : (n : Int) = d) (e1 : F1 = up2 F 8 n c) (e2 : F2 = up2 F1 9 n 0) (e3 : F3 = up2 F2 9 (d - 1).toNat z) (hz : z.toInt = (F 9 (d - 1).toNat).toInt + 1) (hz8 : z.toInt ≤ 8) (hc : (F 8 (d - 1).toNat).toInt < c.toInt) (h23 : c.toInt ≤ 23) : BI F3 (d + 1) ∧ BM F3 (d + 1) < BM F d := by
  obtain ⟨hS, hR⟩ := h
  have hle := hS.le
  have en : n = (d - 1).toNat + 1 := by omega
  have o8 : ∀ i, i < n → F3 8 i = F 8 i := fun i hi => by rw [e3, up2_ne (by omega), e2, up2_ne (by omega), e1, up2_ne (by omega)]
  have n8 : F3 8 n = c := by rw [e3, up2_ne (by omega), e2, up2_ne (by omega), e1, up2_at]
  have o9 : ∀ i, i < (d - 1).toNat → F3 9 i = F 9 i := fun i hi => by rw [e3, up2_ne (by omega), e2, up2_ne (by omega), e1, up2_ne (by omega)]
  have t9 : F3 9 (d - 1).toNat = z := by rw [e3, up2_at]
  have n9 : F3 9 n = 0 := by rw [e3, up2_ne (by omega), e2, up2_at]
  have h9 := hR (d - 1).toNat (by omega)
  have hb := hS (d - 1).toNat (by omega)
  refine ⟨⟨Stk.push hS (n := (d - 1).toNat) (by omega) (fun i hi => o8 i (by omega)) (by rw [← en, n8]; exact hc) (by rw [← en, n8]; exact h23), fun i hi => ?_⟩, ?_⟩
  · by_cases y : i = n
    · rw [y, n9]; decide
    · by_cases w : i = (d - 1).toNat
      · rw [w, t9]; omega
      · rw [o9 i (by omega)]; exact hR i (by omega)
  · unfold BM
    rw [show (d + 1).toNat = (d - 1).toNat + 2 by omega, show d.toNat = (d - 1).toNat + 1 by omega]
    refine mw_push (fun i hi => o8 i (by omega)) (fun i hi => by show 19 - (F3 9 i).toInt = 19 - (F 9 i).toInt; rw [o9 i hi]) (by show 0 ≤ 19 - (F3 9 (d - 1).toNat).toInt; rw [t9]; omega) (by show 19 - (F3 9 (d - 1).toNat).toInt < 19 - (F 9 (d - 1).toNat).toInt; rw [t9]; omega) (by show 19 - (F3 9 ((d - 1).toNat + 1)).toInt ≤ 19; rw [← en, n9]; decide) (by omega) (by rw [← en, n8]; exact hc) (by rw [← en, n8]; exact h23)
