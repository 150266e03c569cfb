/-! ===== the reference reads: a box, who holds the next ===== -/
/-- the row of what is read: kinds, parents, shares, how many each holds, numbers -/
def qK (F : mF) : Nat → Int := fun j => (F 17 (8 * j)).toInt
def qP (F : mF) : Nat → Int := fun j => (F 17 (8 * j + 6)).toInt
def qS (F : mF) : Nat → Int := fun j => (F 17 (8 * j + 5)).toInt
def qC (F : mF) : Nat → Int := fun j => (F 17 (8 * j + 7)).toInt
def qN (F : mF) (n : Nat) : Nat → Int := fun j => (F 17 (8 * n + 1 + j)).toInt
/-- who holds the next one -/
def wT (F : mF) : Int := if (F 1 32).toInt ≤ 0 then -1 else (F 18 ((F 1 32).toInt - 1).toNat).toInt
theorem wT_no {F : mF} (h : (F 1 32).toInt ≤ 0) : wT F = -1 := if_pos h
theorem wT_yes {F : mF} (h : 1 ≤ (F 1 32).toInt) : wT F = (F 18 ((F 1 32).toInt - 1).toNat).toInt := if_neg (by omega)
def FRx (Fa F : mF) (n : Nat) : Prop := F 18 = Fa 18 ∧ F 1 32 = Fa 1 32 ∧ (LF F 15 = LF Fa 15 ∧ F 1 25 = Fa 1 25) ∧ ∀ j i : Nat, j < n → i < 7 → F 17 (8 * j + i) = Fa 17 (8 * j + i)
theorem RB.frx {Fa F : mF} {n : Nat} (h : RB Fa F n) : FRx Fa F n :=
  ⟨funext fun k => h 18 k (by omega) (by omega), h 1 32 (by omega) (by omega), ⟨funext fun j => by unfold LF; rw [h 15 j (by omega) (by omega)], h 1 25 (by omega) (by omega)⟩, fun j i hj hi => h 17 _ (by omega) (by omega)⟩
abbrev BXm (cm : Int) (Fa F : mF) : Prop := ((F 1 27).toInt = 0 ∧ BXok (LF Fa 15) (Fa 1 25).toInt (24 - cm) (Fa 1 30).toInt (Fa 1 26).toInt (wT Fa) (qK Fa) (qC Fa) (qK F (Fa 1 30).toInt.toNat) (qN F (Fa 1 30).toInt.toNat) (qS F (Fa 1 30).toInt.toNat) (F 1 26).toInt) ∨ ((F 1 27).toInt = 1 ∧ BXbad (LF Fa 15) (Fa 1 25).toInt (24 - cm) (Fa 1 30).toInt (Fa 1 26).toInt (wT Fa) (qK Fa) (qC Fa) (F 1 26).toInt)
/-- what readBox does -/
def BXx (cm : Int) (Fa F : mF) : Prop := FRx Fa F (Fa 1 30).toInt.toNat ∧ ((F 1 27).toInt = 0 → qP F (Fa 1 30).toInt.toNat = wT Fa) ∧ BXm cm Fa F
theorem nKid_t {k r : Int} (h : (k < 2 ∧ r = 0) ∨ (2 ≤ k ∧ k < 7 ∧ r = 1) ∨ (7 ≤ k ∧ r = 8)) (h9 : k ≤ 9) : r = nKid k := by
  unfold nKid
  split
  · omega
  · split <;> omega
/-- the name is read, or at fault -/
def NMr (L : Nat → Int) (len p kd q b : Int) : Prop := (b = 0 ∧ RM L len p kd q) ∨ (b = 1 ∧ RM L len p (-1) q)
/-- k numbers are read, or something is at fault -/
def NUr (L : Nat → Int) (len p : Int) (row : Nat → Int) (kd k q b : Int) : Prop := (b = 0 ∧ k ≤ nNum kd ∧ ∃ q1, RM L len p kd q1 ∧ RO L len kd q1 k.toNat q row) ∨ (b = 1 ∧ (RM L len p (-1) q ∨ ∃ q1, 0 ≤ kd ∧ RM L len p kd q1 ∧ RF L len kd q1 q))
theorem NUr_0 {L : Nat → Int} {len p kd q b : Int} {row : Nat → Int} {k : Int} (h : NMr L len p kd q b) (hk : k = 0) : NUr L len p row kd k q b := by
  rcases h with ⟨h1, h2⟩ | ⟨h1, h2⟩
  · refine Or.inl ⟨h1, by have := (nNum_r kd).1; omega, q, h2, ?_⟩
    rw [hk]; rfl
  · exact Or.inr ⟨h1, Or.inl h2⟩
theorem NUr_s {L : Nat → Int} {len p kd q b k q' b' k' r ah : Int} {row row' : Nat → Int} (h : NUr L len p row kd k q b) (hb : b = 0) (hk : k < nNum kd) (h0 : 0 ≤ k) (hkd : 0 ≤ kd ∧ kd ≤ 9) (hx : NRx L len kd k ah q r q' b') (hah : k = 0 ∨ ah = row (k - 1).toNat) (hrow : ∀ j : Nat, (j : Int) < k → row' j = row j) (hr : row' k.toNat = r) (ek : k' = k + 1) : NUr L len p row' kd k' q' b' := by
  rcases h with ⟨-, -, q1, h2, h3⟩ | ⟨h1, -⟩
  · have hok : MBe kd k r ↔ okN kd (k.toNat : Int) r := by rw [show ((k.toNat : Nat) : Int) = k by omega]; exact MBe_ok hkd ⟨h0, hk⟩
    have hord : (kd = 3 ∧ k % 2 = 1 ∧ r < ah) ↔ (kd = 3 ∧ (k.toNat : Int) % 2 = 1 ∧ r < row (k.toNat - 1)) := by
      rw [show ((k.toNat : Nat) : Int) = k by omega]
      constructor
      · rintro ⟨a1, a2, a3⟩
        rcases hah with w | w
        · omega
        · exact ⟨a1, a2, by rw [show k.toNat - 1 = (k - 1).toNat by omega, ← w]; exact a3⟩
      · rintro ⟨a1, a2, a3⟩
        rcases hah with w | w
        · omega
        · exact ⟨a1, a2, by rw [w, show (k - 1).toNat = k.toNat - 1 by omega]; exact a3⟩
    rcases hx with ⟨x1, x2, x3, x4, x5, x6⟩ | ⟨x1, x2⟩
    · refine Or.inl ⟨x1, by omega, q1, h2, ?_⟩
      rw [show k'.toNat = k.toNat + 1 by omega]
      have e0 : ∀ j, j < k.toNat → row' j = row j := fun j hj => hrow j (by omega)
      refine ⟨q, RO_row _ _ e0 h3, x2, x3, by rw [hr]; exact x4, by rw [hr]; exact hok.mp x5, fun y => x6 (hord.mpr ⟨y.1, y.2.1, ?_⟩)⟩
      have y3 := y.2.2
      rw [hr] at y3
      by_cases z : k = 0
      · rw [show ((k.toNat : Nat) : Int) = k by omega] at y; omega
      · rw [e0 (k.toNat - 1) (by omega)] at y3; exact y3
    · refine Or.inr ⟨x1, Or.inr ⟨q1, hkd.1, h2, k.toNat, q, row, by omega, h3, ?_⟩⟩
      rcases x2 with ⟨y1, y2⟩ | ⟨y1, y2, y3⟩ | ⟨y1, y2, y3, e, y4, y5⟩
      · exact Or.inl ⟨y1, y2⟩
      · exact Or.inr (Or.inl ⟨y1, y2, y3⟩)
      · exact Or.inr (Or.inr ⟨y1, y2, y3, r, e, y4, fun z => y5 ⟨hok.mpr z.1, fun w => z.2 (hord.mp w)⟩⟩)
  · omega
theorem BXm_bad {cm : Int} {Fa F : mF} {kd k : Int} {row : Nat → Int} (hr : BXr (24 - cm) (Fa 1 30).toInt (wT Fa) (qK Fa) (qC Fa)) (h : NUr (LF Fa 15) (Fa 1 25).toInt (Fa 1 26).toInt row kd k (F 1 26).toInt (F 1 27).toInt) (hb : ¬ (F 1 27).toInt = 0) : BXm cm Fa F := by
  rcases h with ⟨h1, -⟩ | ⟨h1, h2⟩
  · exact absurd h1 hb
  · refine Or.inr ⟨h1, Or.inr ⟨hr, ?_⟩⟩
    rcases h2 with h2 | ⟨q1, g1, g2, g3⟩
    · exact Or.inl h2
    · exact Or.inr ⟨kd, q1, g1, g2, Or.inl g3⟩
theorem BXm_good {cm : Int} {Fa F F6 : mF} {kd k : Int} (hr : BXr (24 - cm) (Fa 1 30).toInt (wT Fa) (qK Fa) (qC Fa)) (h : NUr (LF Fa 15) (Fa 1 25).toInt (Fa 1 26).toInt (qN F (Fa 1 30).toInt.toNat) kd k (F 1 26).toInt (F 1 27).toInt) (hb : (F 1 27).toInt = 0) (hk : nNum kd ≤ k) (hkd : 0 ≤ kd) (hs0 : (F 17 (8 * (Fa 1 30).toInt.toNat + 5)).toInt = 0)
    (hx : SHx (LF Fa 15) (Fa 1 25).toInt (F 1 26).toInt (F 1 27).toInt (F 17 (8 * (Fa 1 30).toInt.toNat + 5)) (F6 1 26).toInt (F6 1 27).toInt (F6 17 (8 * (Fa 1 30).toInt.toNat + 5))) (hkk : qK F6 (Fa 1 30).toInt.toNat = kd) (hrow : ∀ j, j < 4 → qN F6 (Fa 1 30).toInt.toNat j = qN F (Fa 1 30).toInt.toNat j) : BXm cm Fa F6 := by
  rcases h with ⟨-, h1, q1, h2, h3⟩ | ⟨h1, -⟩
  · have hn := nNum_r kd
    rw [show k.toNat = (nNum kd).toNat by omega] at h3
    have h4 : RO (LF Fa 15) (Fa 1 25).toInt kd q1 (nNum kd).toNat (F 1 26).toInt (qN F6 (Fa 1 30).toInt.toNat) := RO_row _ _ (fun j hj => hrow j (by omega)) h3
    have hS : qS F6 (Fa 1 30).toInt.toNat = (F6 17 (8 * (Fa 1 30).toInt.toNat + 5)).toInt := rfl
    rcases hx with ⟨x1, x2, x3, x4⟩ | ⟨x1, x2, x3, x4, x5⟩ | ⟨x1, x2, x3, x4, x5⟩
    · refine Or.inl ⟨by omega, hr, by rw [hkk]; exact hkd, q1, (F 1 26).toInt, by rw [hkk]; exact h2, by rw [hkk]; exact h4, ?_⟩
      rw [hS, x4]
      exact Or.inl ⟨x1, hs0, x2, trivial⟩
    · refine Or.inr ⟨x4, Or.inr ⟨hr, Or.inr ⟨kd, q1, hkd, h2, Or.inr ⟨(F 1 26).toInt, _, 0, h4, ?_⟩⟩⟩⟩
      exact Or.inr (Or.inl ⟨x1, x2, rfl, x3, fun z => z⟩)
    · refine Or.inl ⟨by omega, hr, by rw [hkk]; exact hkd, q1, (F 1 26).toInt, by rw [hkk]; exact h2, by rw [hkk]; exact h4, ?_⟩
      rw [hS]
      exact Or.inr (Or.inr ⟨x1, x2, x5, x3, trivial⟩)
  · omega
theorem BXx_end {cm : Int} {Fa F6 F7 F8 F9 : mF} {v1 v : Int32} (hfr : FRx Fa F6 (Fa 1 30).toInt.toNat) (ho : F7 = F6 ∨ ∃ (o : Nat) (c : Int32), o < (Fa 1 30).toInt.toNat ∧ F7 = up2 F6 17 (8 * o + 7) c) (e8 : F8 = up2 F7 17 (8 * (Fa 1 30).toInt.toNat + 6) v1) (e9 : F9 = up2 F8 1 30 v) (hv : v1.toInt = wT Fa) (hw : -1 ≤ wT Fa) (hm : BXm cm Fa F6) : BXx cm Fa F9 := by
  obtain ⟨n, en⟩ : ∃ n, n = (Fa 1 30).toInt.toNat := ⟨_, rfl⟩
  have hm9 := hm
  unfold BXx
  unfold BXm at hm9 ⊢
  rw [← en] at hfr ho e8 hm9 ⊢
  have c1 : ∀ k, ¬ k = 30 → F9 1 k = F6 1 k := fun k hk => by
    rw [e9, up2_ne (by omega), e8, up2_ne (by omega)]
    rcases ho with e | ⟨o, c, -, e⟩
    · rw [e]
    · rw [e, up2_ne (by omega)]
  have c17 : ∀ j i : Nat, j ≤ n → i < 7 → ¬ (j = n ∧ i = 6) → F9 17 (8 * j + i) = F6 17 (8 * j + i) := fun j i hj hi hne => by
    rw [e9, up2_ne (by omega), e8, up2_ne (by omega)]
    rcases ho with e | ⟨o, c, -, e⟩
    · rw [e]
    · rw [e, up2_ne (by omega)]
  have cc : ∀ c k : Nat, ¬ c = 1 → ¬ c = 17 → F9 c k = F6 c k := fun c k h1 h2 => by
    rw [e9, up2_ne (by omega), e8, up2_ne (by omega)]
    rcases ho with e | ⟨o, c, -, e⟩
    · rw [e]
    · rw [e, up2_ne (by omega)]
  refine ⟨⟨?_, ?_, ⟨?_, ?_⟩, fun j i hj hi => ?_⟩, fun _ => ?_, ?_⟩
  · rw [← hfr.1]; exact funext fun k => cc 18 k (by decide) (by decide)
  · rw [c1 32 (by decide)]; exact hfr.2.1
  · rw [← hfr.2.2.1.1]; exact funext fun j => by unfold LF; rw [cc 15 j (by decide) (by decide)]
  · rw [c1 25 (by decide)]; exact hfr.2.2.1.2
  · rw [c17 j i (by omega) hi (by omega)]; exact hfr.2.2.2 j i hj hi
  · unfold qP
    rw [e9, up2_ne (by omega), e8, up2_at]; exact hv
  · rw [c1 26 (by decide), c1 27 (by decide)]
    have k0 : qK F9 n = qK F6 n := by
      have := c17 n 0 (Nat.le_refl _) (by decide) (by omega)
      unfold qK
      rw [Nat.add_zero] at this
      rw [this]
    have k5 : qS F9 n = qS F6 n := by unfold qS; rw [c17 n 5 (Nat.le_refl _) (by decide) (by omega)]
    rcases hm9 with ⟨h1, h2⟩ | h
    · refine Or.inl ⟨h1, ?_⟩
      rw [k0, k5]
      exact BXok_eq (fun _ => rfl) (fun _ => rfl) hw (fun j hj => by unfold qN; rw [Nat.add_assoc, c17 n (1 + j) (Nat.le_refl _) (by omega) (by omega)]) h2
    · exact Or.inr h
theorem BXx_no {cm : Int} {Fa F : mF} {v : Int32} (e : F = up2 Fa 1 27 v) (hv : v.toInt = 1) (hr : ¬ BXr (24 - cm) (Fa 1 30).toInt (wT Fa) (qK Fa) (qC Fa)) : BXx cm Fa F := by
  have h27 : (F 1 27).toInt = 1 := by rw [e, up2_at]; exact hv
  refine ⟨⟨by rw [e, up2_nc (by decide)], by rw [e, up2_ne (by decide)], ⟨by rw [e, LF_up (by decide)], by rw [e, up2_ne (by decide)]⟩, fun j i _ _ => by rw [e, up2_ne (by omega)]⟩, fun q => by omega, Or.inr ⟨h27, Or.inl ⟨hr, by rw [e, up2_ne (by decide)]⟩⟩⟩
theorem nx_lt {L : Nat → Int} {len p : Int} (h : ¬ nx L len p = 0) : p < len := by
  unfold nx at h
  by_cases e : p < len
  · exact e
  · rw [if_neg e] at h; exact absurd rfl h
theorem RN_le {L : Nat → Int} {len p v q : Int} (h : RN L len p v q) (hf : fg L len p) : q ≤ len := by
  have h1 := fg_lt hf
  rcases h with ⟨w, -⟩ | ⟨-, -, -, w⟩ | ⟨-, w1, -, w⟩
  · exact absurd hf w
  · omega
  · have := fg_lt w1; omega
theorem RM_le {L : Nat → Int} {len p kd q : Int} (h : RM L len p kd q) (h0 : 0 ≤ kd) : q ≤ len := by
  rcases h with ⟨k, hk, -, ⟨-, -, h3, -⟩, hq⟩ | ⟨hk, -⟩
  · have h6 := nm_len k hk
    have h7 := h3 (tXl.getD k 0 - 1) (by omega)
    have h8 := nm_pos k hk (tXl.getD k 0 - 1) (by omega)
    have h9 := nx_lt (L := L) (len := len) (p := p + ((tXl.getD k 0 - 1 : Nat) : Int)) (by omega)
    omega
  · omega
theorem RO_le {L : Nat → Int} {len kd p0 : Int} : ∀ (i : Nat) (p : Int) (row : Nat → Int), p0 ≤ len → RO L len kd p0 i p row → p ≤ len
  | 0, _, _, h0, h => by rw [h]; exact h0
  | _ + 1, _, _, _, ⟨_, _, _, hf, hn, _⟩ => RN_le hn hf
theorem BXok_le {L : Nat → Int} {len left n p par kd sh q : Int} {K C row : Nat → Int} (h : BXok L len left n p par K C kd row sh q) : q ≤ len := by
  obtain ⟨-, h0, q1, q2, h1, h2, h3⟩ := h
  have h4 := RO_le _ _ _ (RM_le h1 h0) h2
  rcases h3 with ⟨-, -, w, -⟩ | ⟨-, -, -, -, w⟩ | ⟨-, w, -, w2, -⟩
  · omega
  · exact absurd trivial w
  · have := fg_lt w; omega
theorem UPk_le {L : Nat → Int} {len : Int} {P : Nat → Int} {p h x : Int} {k : Nat} (h0 : p ≤ len) (hu : UPk L len P p h k x) : p + (k : Int) ≤ len := by
  cases k with
  | zero => omega
  | succ j =>
    obtain ⟨y, -, -, h1, -⟩ := hu
    have := nx_lt (L := L) (len := len) (p := p + (j : Int)) (by omega)
    omega
/-- the boxes around: each one's parent is the one before -/
def STK (F : mF) : Prop := ∀ i : Nat, (i : Int) < (F 1 32).toInt → qP F (F 18 i).toInt.toNat = (if i = 0 then -1 else (F 18 (i - 1)).toInt)
/-- what goesOn does -/
def GOx (Fa F : mF) (r : Int) : Prop := (F 1 30 = Fa 1 30 ∧ F 17 = Fa 17 ∧ (LF F 15 = LF Fa 15 ∧ F 1 25 = Fa 1 25)) ∧ ((r = 1 ∧ F 1 27 = Fa 1 27 ∧ STK F ∧ PNgo (LF Fa 15) (Fa 1 25).toInt (qP Fa) (Fa 1 30).toInt (Fa 1 26).toInt (wT F) (F 1 26).toInt) ∨ (r = 0 ∧ ((((F 1 27).toInt = 0 ∧ (F 1 26).toInt = (Fa 1 25).toInt) ∨ ((F 1 27).toInt = 1 ∧ ¬ (F 1 26).toInt = (Fa 1 25).toInt)) ∧ PNend (LF Fa 15) (Fa 1 25).toInt (qP Fa) (Fa 1 30).toInt (Fa 1 26).toInt (F 1 26).toInt)) ∨ (r = 0 ∧ (F 1 27).toInt = 1 ∧ PNbad (LF Fa 15) (Fa 1 25).toInt (qP Fa) (Fa 1 30).toInt (Fa 1 26).toInt (F 1 26).toInt))
/-- k ')' are passed -/
def UPx (Fa F : mF) : Prop := (F 1 30 = Fa 1 30 ∧ F 17 = Fa 17 ∧ F 18 = Fa 18 ∧ F 1 27 = Fa 1 27 ∧ (LF F 15 = LF Fa 15 ∧ F 1 25 = Fa 1 25)) ∧ 0 ≤ (F 1 32).toInt ∧ (F 1 32).toInt ≤ (Fa 1 32).toInt ∧ ∃ k : Nat, (F 1 26).toInt = (Fa 1 26).toInt + (k : Int) ∧ UPk (LF Fa 15) (Fa 1 25).toInt (qP Fa) (Fa 1 26).toInt (wT Fa) k (wT F)
theorem UPx_0 {F : mF} (h : 0 ≤ (F 1 32).toInt) : UPx F F := ⟨⟨rfl, rfl, rfl, rfl, rfl, rfl⟩, h, Int.le_refl _, 0, by omega, rfl⟩
theorem UPx_s {Fa F F1 F2 : mF} {p w : Int32} (h : UPx Fa F) (hS : STK Fa) (hB : ∀ i : Nat, (i : Int) < (Fa 1 32).toInt → 0 ≤ (Fa 18 i).toInt) (h1 : 1 ≤ (F 1 32).toInt) (hx : nx (LF Fa 15) (Fa 1 25).toInt (F 1 26).toInt = 41) (e1 : F1 = up2 F 1 26 p) (hp : p.toInt = (F 1 26).toInt + 1) (e2 : F2 = up2 F1 1 32 w) (hw : w.toInt = (F 1 32).toInt - 1) : UPx Fa F2 := by
  obtain ⟨⟨g1, g2, g3, g4, g5, g6⟩, h2, h3, k, h4, h5⟩ := h
  have w2 : (F2 1 32).toInt = (F 1 32).toInt - 1 := by rw [e2, up2_at]; exact hw
  have p2 : (F2 1 26).toInt = (F 1 26).toInt + 1 := by rw [e2, up2_ne (by decide), e1, up2_at]; exact hp
  have o : ∀ c k : Nat, ¬ (c = 1 ∧ (k = 26 ∨ k = 32)) → F2 c k = F c k := fun c k q => by rw [e2, up2_ne (by omega), e1, up2_ne (by omega)]
  have s18 : F2 18 = Fa 18 := by rw [← g3]; exact funext fun k => o 18 k (by omega)
  have ht : wT F = (Fa 18 ((F 1 32).toInt - 1).toNat).toInt := by rw [wT_yes h1, g3]
  refine ⟨⟨by rw [o 1 30 (by omega)]; exact g1, by rw [← g2]; exact funext fun k => o 17 k (by omega), s18, by rw [o 1 27 (by omega)]; exact g4, by rw [← g5]; exact funext fun j => by unfold LF; rw [o 15 j (by omega)], by rw [o 1 25 (by omega)]; exact g6⟩, by omega, by omega, k + 1, by omega, wT F, h5, ?_, by rw [← h4]; exact hx, ?_⟩
  · rw [ht]; exact hB _ (by omega)
  · have hs := hS ((F 1 32).toInt - 1).toNat (by omega)
    rw [ht, hs]
    by_cases z : (F 1 32).toInt = 1
    · rw [if_pos (by omega), wT_no (by omega)]
    · rw [if_neg (by omega), wT_yes (by omega), s18, w2]
      rw [show ((F 1 32).toInt - 1 - 1).toNat = ((F 1 32).toInt - 1).toNat - 1 by omega]
theorem UPx_stk {Fa F : mF} (h : UPx Fa F) (hS : STK Fa) : STK F := by
  obtain ⟨⟨g1, g2, g3, -⟩, h2, h3, -⟩ := h
  intro i hi
  have := hS i (by omega)
  unfold qP at this ⊢
  rw [g2, g3]; exact this
theorem wT_of {F F' : mF} (h1 : F' 18 = F 18) (h2 : F' 1 32 = F 1 32) : wT F' = wT F := by unfold wT; rw [h1, h2]
theorem STK_of {F F' : mF} (h : STK F) (h1 : F' 18 = F 18) (h2 : F' 1 32 = F 1 32) (h3 : F' 17 = F 17) : STK F' := fun i hi => by
  rw [h2] at hi
  have := h i hi
  unfold qP at this ⊢
  rw [h1, h3]; exact this
theorem GO_push {Fa F1 F2 F3 : mF} {p w n v : Int32} {i : Nat} (hS : STK Fa) (hw0 : 0 ≤ (Fa 1 32).toInt) (hn1 : 1 ≤ (Fa 1 30).toInt) (hP : qP Fa ((Fa 1 30).toInt - 1).toNat = wT Fa) (h40 : nx (LF Fa 15) (Fa 1 25).toInt (Fa 1 26).toInt = 40) (e1 : F1 = up2 Fa 1 26 p) (hp : p.toInt = (Fa 1 26).toInt + 1) (e2 : F2 = up2 F1 18 i n) (hi : (i : Int) = (Fa 1 32).toInt) (hn : n.toInt = (Fa 1 30).toInt - 1) (e3 : F3 = up2 F2 1 32 v) (hv : v.toInt = (Fa 1 32).toInt + 1) : GOx Fa F3 1 := by
  have w3 : (F3 1 32).toInt = (Fa 1 32).toInt + 1 := by rw [e3, up2_at]; exact hv
  have o : ∀ c k : Nat, ¬ (c = 1 ∧ (k = 26 ∨ k = 32)) → ¬ (c = 18 ∧ k = i) → F3 c k = Fa c k := fun c k q q2 => by rw [e3, up2_ne (by omega), e2, up2_ne (by omega), e1, up2_ne (by omega)]
  have s18 : F3 18 i = n := by rw [e3, up2_ne (by omega), e2, up2_at]
  have e17 : F3 17 = Fa 17 := funext fun k => o 17 k (by omega) (by omega)
  have ht : wT F3 = (Fa 1 30).toInt - 1 := by
    rw [wT_yes (by omega), w3, show ((Fa 1 32).toInt + 1 - 1).toNat = i by omega, s18, hn]
  refine ⟨⟨o 1 30 (by omega) (by omega), e17, funext fun j => by unfold LF; rw [o 15 j (by omega) (by omega)], o 1 25 (by omega) (by omega)⟩, Or.inl ⟨rfl, o 1 27 (by omega) (by omega), fun j hj => ?_, Or.inl ⟨h40, by rw [ht], by rw [e3, up2_ne (by omega), e2, up2_ne (by omega), e1, up2_at]; exact hp⟩⟩⟩
  unfold qP
  rw [e17]
  by_cases z : j = i
  · rw [z, s18, hn]
    show qP Fa ((Fa 1 30).toInt - 1).toNat = _
    rw [hP]
    by_cases y : i = 0
    · rw [if_pos y, wT_no (by omega)]
    · rw [if_neg y, o 18 (i - 1) (by omega) (by omega), wT_yes (by omega), show ((Fa 1 32).toInt - 1).toNat = i - 1 by omega]
  · rw [o 18 j (by omega) (fun y => z y.2)]
    have := hS j (by omega)
    unfold qP at this
    rw [this]
    by_cases y : j = 0
    · rw [if_pos y, if_pos y]
    · rw [if_neg y, if_neg y, o 18 (j - 1) (by omega) (by omega)]
theorem GO_comma {Fa F F1 : mF} {p : Int32} (h : UPx Fa F) (hS : STK Fa) (hB : ∀ i : Nat, (i : Int) < (Fa 1 32).toInt → 0 ≤ (Fa 18 i).toInt) (hP : qP Fa ((Fa 1 30).toInt - 1).toNat = wT Fa) (h40 : ¬ nx (LF Fa 15) (Fa 1 25).toInt (Fa 1 26).toInt = 40) (h1 : 1 ≤ (F 1 32).toInt) (h44 : nx (LF Fa 15) (Fa 1 25).toInt (F 1 26).toInt = 44) (e1 : F1 = up2 F 1 26 p) (hp : p.toInt = (F 1 26).toInt + 1) : GOx Fa F1 1 := by
  have hst := UPx_stk h hS
  obtain ⟨⟨g1, g2, g3, g4, g5, g6⟩, h2, h3, k, h4, h5⟩ := h
  have o : ∀ c k : Nat, ¬ (c = 1 ∧ k = 26) → F1 c k = F c k := fun c k q => by rw [e1, up2_ne q]
  have e18 : F1 18 = F 18 := funext fun k => o 18 k (by omega)
  have e17 : F1 17 = F 17 := funext fun k => o 17 k (by omega)
  have hw : wT F1 = wT F := wT_of e18 (o 1 32 (by omega))
  refine ⟨⟨by rw [o 1 30 (by omega)]; exact g1, e17.trans g2, by rw [← g5]; exact funext fun j => by unfold LF; rw [o 15 j (by omega)], by rw [o 1 25 (by omega)]; exact g6⟩, Or.inl ⟨rfl, by rw [o 1 27 (by omega)]; exact g4, STK_of hst e18 (o 1 32 (by omega)) e17, Or.inr ⟨h40, k, by rw [hP, hw]; exact h5, ?_, by rw [← h4]; exact h44, by rw [e1, up2_at]; omega⟩⟩⟩
  rw [hw, wT_yes h1, g3]; exact hB _ (by omega)
theorem GO_end {Fa F F1 : mF} {v : Int32} (h : UPx Fa F) (hP : qP Fa ((Fa 1 30).toInt - 1).toNat = wT Fa) (h40 : ¬ nx (LF Fa 15) (Fa 1 25).toInt (Fa 1 26).toInt = 40) (hB : ∀ i : Nat, (i : Int) < (Fa 1 32).toInt → 0 ≤ (Fa 18 i).toInt) (e1 : F1 = up2 F 1 27 v) (hle : (Fa 1 26).toInt ≤ (Fa 1 25).toInt) (hc : ((F 1 32).toInt ≤ 0 ∧ (F 1 25).toInt ≤ (F 1 26).toInt ∧ v.toInt = 0) ∨ ((F 1 32).toInt ≤ 0 ∧ (F 1 26).toInt < (F 1 25).toInt ∧ v.toInt = 1) ∨ (1 ≤ (F 1 32).toInt ∧ v.toInt = 1 ∧ ¬ nx (LF Fa 15) (Fa 1 25).toInt (F 1 26).toInt = 44 ∧ ¬ nx (LF Fa 15) (Fa 1 25).toInt (F 1 26).toInt = 41)) : GOx Fa F1 0 := by
  obtain ⟨⟨g1, g2, g3, g4, g5, g6⟩, h2, h3, k, h4, h5⟩ := h
  have o : ∀ c k : Nat, ¬ (c = 1 ∧ k = 27) → F1 c k = F c k := fun c k q => by rw [e1, up2_ne q]
  have e27 : (F1 1 27).toInt = v.toInt := by rw [e1, up2_at]
  have e26 : (F1 1 26).toInt = (F 1 26).toInt := by rw [o 1 26 (by omega)]
  refine ⟨⟨by rw [o 1 30 (by omega)]; exact g1, by rw [← g2]; exact funext fun k => o 17 k (by omega), by rw [← g5]; exact funext fun j => by unfold LF; rw [o 15 j (by omega)], by rw [o 1 25 (by omega)]; exact g6⟩, Or.inr ?_⟩
  have h9 := UPk_le hle h5
  rw [g6] at hc
  rw [← hP] at h5
  rcases hc with ⟨c1, c2, c3⟩ | ⟨c1, c2, c3⟩ | ⟨c1, c2, c3, c4⟩
  · rw [wT_no c1] at h5
    exact Or.inl ⟨rfl, Or.inl ⟨by omega, by omega⟩, h40, k, h5, by omega⟩
  · rw [wT_no c1] at h5
    exact Or.inl ⟨rfl, Or.inr ⟨by omega, by omega⟩, h40, k, h5, by omega⟩
  · refine Or.inr ⟨rfl, by omega, h40, k, wT F, h5, ?_, by rw [← h4]; exact c3, by rw [← h4]; exact c4, by omega⟩
    rw [wT_yes c1, g3]; exact hB _ (by omega)
