/-! ===== a whole TREE in words ===== -/
def cnt (P : Nat → Int) : Nat → Int → Int
  | 0, _ => 0
  | n + 1, h => cnt P n h + (if P n = h then 1 else 0)
theorem cnt_le {P : Nat → Int} {h : Int} : ∀ n, 0 ≤ cnt P n h ∧ cnt P n h ≤ n
  | 0 => ⟨Int.le_refl _, Int.le_refl _⟩
  | n + 1 => by
    have := cnt_le (P := P) (h := h) n
    show 0 ≤ cnt P n h + (if P n = h then 1 else 0) ∧ cnt P n h + (if P n = h then 1 else 0) ≤ ((n + 1 : Nat) : Int)
    split <;> omega
theorem cnt_eq {P P' : Nat → Int} {h : Int} : ∀ n, (∀ j, j < n → P' j = P j) → cnt P' n h = cnt P n h
  | 0, _ => rfl
  | n + 1, e => by
    show cnt P' n h + (if P' n = h then 1 else 0) = cnt P n h + (if P n = h then 1 else 0)
    rw [cnt_eq n (fun j hj => e j (by omega)), e n (by omega)]
theorem cnt_no {P : Nat → Int} {h : Int} : ∀ n, (∀ j, j < n → ¬ P j = h) → cnt P n h = 0
  | 0, _ => rfl
  | n + 1, e => by
    show cnt P n h + (if P n = h then 1 else 0) = 0
    rw [cnt_no n (fun j hj => e j (by omega)), if_neg (e n (by omega))]; rfl
/-- n BOXES are read, at p; the next one is held by par -/
def RDn (L : Nat → Int) (len left : Int) (K P S : Nat → Int) (N : Nat → Nat → Int) : Nat → Int → Int → Prop
  | 0, p, par => p = 0 ∧ par = -1
  | n + 1, p, par => ∃ p0 q, RDn L len left K P S N n p0 (P n) ∧ BXok L len left n p0 (P n) K (fun j => cnt P n j) (K n) (N n) (S n) q ∧ PNgo L len P ((n + 1 : Nat) : Int) q par p
/-- the parents come before -/
def PB (P : Nat → Int) (n : Nat) : Prop := ∀ j : Nat, j < n → -1 ≤ P j ∧ P j < j
theorem UPk_lt {L : Nat → Int} {len : Int} {P : Nat → Int} {p h : Int} {n : Nat} (hB : PB P n) (hh : -1 ≤ h ∧ h < n) : ∀ (k : Nat) (y : Int), UPk L len P p h k y → -1 ≤ y ∧ y < n
  | 0, y, e => by
    have e : y = h := e
    omega
  | k + 1, y, ⟨x, h1, h2, h3, h4⟩ => by
    have := UPk_lt hB hh k x h1
    have h5 := hB x.toNat (by omega)
    omega
theorem UPk_eq {L : Nat → Int} {len : Int} {P P' : Nat → Int} {p h : Int} {n : Nat} (hB : PB P n) (hh : -1 ≤ h ∧ h < n) (e : ∀ j, j < n → P' j = P j) : ∀ (k : Nat) (y : Int), UPk L len P p h k y → UPk L len P' p h k y
  | 0, _, h => h
  | k + 1, y, ⟨x, h1, h2, h3, h4⟩ => by
    have := UPk_lt hB hh k x h1
    exact ⟨x, UPk_eq hB hh e k x h1, h2, h3, by rw [e x.toNat (by omega)]; exact h4⟩
theorem PNgo_eq {L : Nat → Int} {len : Int} {P P' : Nat → Int} {n : Nat} {p par q : Int} (h1 : 1 ≤ n) (hB : PB P n) (e : ∀ j, j < n → P' j = P j) (h : PNgo L len P n p par q) : PNgo L len P' n p par q := by
  rcases h with h | ⟨h, k, h2, h3⟩
  · exact Or.inl h
  · have hb := hB ((n : Int) - 1).toNat (by omega)
    refine Or.inr ⟨h, k, ?_, h3⟩
    rw [e _ (by omega)]
    exact UPk_eq hB (by omega) e k _ h2
theorem BXr_eq {left n par : Int} {K K' C C' : Nat → Int} (eK : 0 ≤ par → K' par.toNat = K par.toNat) (eC : 0 ≤ par → C' par.toNat = C par.toNat) (hp : -1 ≤ par) (h : BXr left n par K C) : BXr left n par K' C' := by
  refine ⟨?_, h.2⟩
  by_cases e : par = -1
  · exact Or.inl e
  · rw [eK (by omega), eC (by omega)]; exact h.1
theorem nNum_4 (k : Int) : 0 ≤ nNum k ∧ nNum k ≤ 4 := by
  unfold nNum
  split
  · omega
  · split
    · omega
    · split
      · omega
      · split <;> omega
theorem BXok_eq {L : Nat → Int} {len left n p par : Int} {K K' C C' : Nat → Int} {kd : Int} {row row' : Nat → Int} {sh q : Int} (eK : 0 ≤ par → K' par.toNat = K par.toNat) (eC : 0 ≤ par → C' par.toNat = C par.toNat) (hp : -1 ≤ par) (er : ∀ j, j < 4 → row' j = row j) (h : BXok L len left n p par K C kd row sh q) : BXok L len left n p par K' C' kd row' sh q := by
  obtain ⟨h1, h2, q1, q2, h3, h4, h5⟩ := h
  have := nNum_4 kd
  exact ⟨BXr_eq eK eC hp h1, h2, q1, q2, h3, RO_row _ _ (fun j hj => er j (by omega)) h4, h5⟩
theorem RDn_eq {L : Nat → Int} {len left : Int} {K P S K' P' S' : Nat → Int} {N N' : Nat → Nat → Int} : ∀ (n : Nat) (p par : Int), PB P n → (∀ j, j < n → K' j = K j ∧ P' j = P j ∧ S' j = S j ∧ ∀ i, i < 4 → N' j i = N j i) → RDn L len left K P S N n p par → RDn L len left K' P' S' N' n p par
  | 0, _, _, _, _, h => h
  | n + 1, p, par, hB, e, ⟨p0, q, h1, h2, h3⟩ => by
    have hb := hB n (by omega)
    have e0 := e n (by omega)
    refine ⟨p0, q, ?_, ?_, PNgo_eq (by omega) hB (fun j hj => (e j hj).2.1) h3⟩
    · rw [e0.2.1]
      exact RDn_eq n p0 _ (fun j hj => hB j (by omega)) (fun j hj => e j (by omega)) h1
    · rw [e0.1, e0.2.1, e0.2.2.1]
      refine BXok_eq (fun z => (e _ (by omega)).1) (fun z => cnt_eq n (fun j hj => (e j (by omega)).2.1)) hb.1 e0.2.2.2 h2
def RDok (L : Nat → Int) (len left : Int) (K P S : Nat → Int) (N : Nat → Nat → Int) (n : Nat) : Prop := ∃ m p0 q, n = m + 1 ∧ RDn L len left K P S N m p0 (P m) ∧ BXok L len left m p0 (P m) K (fun j => cnt P m j) (K m) (N m) (S m) q ∧ PNend L len P ((m + 1 : Nat) : Int) q len
def RDbd (L : Nat → Int) (len left r : Int) : Prop := ∃ (K P S : Nat → Int) (N : Nat → Nat → Int) (n : Nat) (p par : Int), PB P n ∧ -1 ≤ par ∧ par < n ∧ RDn L len left K P S N n p par ∧ (BXbad L len left n p par K (fun j => cnt P n j) r ∨ ∃ q, P n = par ∧ BXok L len left n p par K (fun j => cnt P n j) (K n) (N n) (S n) q ∧ (PNbad L len P ((n + 1 : Nat) : Int) q r ∨ (PNend L len P ((n + 1 : Nat) : Int) q r ∧ ¬ r = len)))
/-- the Reader's rows: n BOXES -/
def FIv (L : Nat → Int) (F Fc : mF) (h : Nat) (len left : Int32) (n : Nat) (par : Int) : Prop := FRM F Fc h ∧ Fc h 7 = len ∧ Fc h 8 = left ∧ Fc h 10 = 0 ∧ (Fc h 5).toInt = n ∧ RDn L len.toInt left.toInt (LF Fc (h + 1)) (LF Fc (h + 2)) (LF Fc (h + 3)) (fun i => LF Fc (h + 5 + (1 + i))) n (Fc h 9).toInt par ∧ PB (LF Fc (h + 2)) n ∧ (∀ j : Nat, j < n → LF Fc (h + 4) j = cnt (LF Fc (h + 2)) n j) ∧ -1 ≤ par ∧ par < n
/-- n BOXES and one more, before who holds the next is known -/
def FBx (L : Nat → Int) (F Fc : mF) (h : Nat) (len left : Int32) (n : Nat) (par : Int) : Prop := FRM F Fc h ∧ Fc h 7 = len ∧ Fc h 8 = left ∧ Fc h 10 = 0 ∧ (Fc h 5).toInt = ((n + 1 : Nat) : Int) ∧ (∃ p, RDn L len.toInt left.toInt (LF Fc (h + 1)) (LF Fc (h + 2)) (LF Fc (h + 3)) (fun i => LF Fc (h + 5 + (1 + i))) n p par ∧ BXok L len.toInt left.toInt n p par (LF Fc (h + 1)) (fun j => cnt (LF Fc (h + 2)) n j) (LF Fc (h + 1) n) (LF Fc (h + 5 + (1 + n))) (LF Fc (h + 3) n) (Fc h 9).toInt) ∧ LF Fc (h + 2) n = par ∧ PB (LF Fc (h + 2)) (n + 1) ∧ (∀ j : Nat, j < n + 1 → LF Fc (h + 4) j = cnt (LF Fc (h + 2)) (n + 1) j)
theorem i32_add1 {x : Int32} (h : x.toInt < 1000) : (x + 1).toInt = x.toInt + 1 := tn_add rfl rfl kI_1 (by have := t_any1 x; omega) (by omega)
theorem FIv_box {L : Nat → Int} {F Fc F1 : mF} {h n : Nat} {len left kd pr sv q : Int32} {f : Nat → Int32} {par : Int} (hI : FIv L F Fc h len left n par) (hn : n < 24) (hp : pr.toInt = par) (e1 : F1 = bxF Fc h n kd pr f sv q)
    (hB : BXok L len.toInt left.toInt n (Fc h 9).toInt par (LF Fc (h + 1)) (LF Fc (h + 4)) kd.toInt (fun j => (f j).toInt) sv.toInt q.toInt) : FBx L F F1 h len left n par := by
  obtain ⟨a1, a2, a3, a4, a5, a6, a7, a8, a9, a10⟩ := hI
  have s7 : F1 h 7 = Fc h 7 := by rw [e1]; unfold bxF; simp
  have s8 : F1 h 8 = Fc h 8 := by rw [e1]; unfold bxF; simp
  have s10 : F1 h 10 = Fc h 10 := by rw [e1]; unfold bxF; simp
  have s5 : F1 h 5 = Fc h 5 + 1 := by rw [e1]; unfold bxF; simp
  have s9 : F1 h 9 = q := by rw [e1]; unfold bxF; simp
  have k1 : ∀ j, LF F1 (h + 1) j = if j = n then kd.toInt else LF Fc (h + 1) j := fun j => by
    rw [e1]; unfold LF bxF
    by_cases e : j = n <;> simp [e]
  have k2 : ∀ j, LF F1 (h + 2) j = if j = n then par else LF Fc (h + 2) j := fun j => by
    rw [e1, ← hp]; unfold LF bxF
    by_cases e : j = n <;> simp [e]
  have k3 : ∀ j, LF F1 (h + 3) j = if j = n then sv.toInt else LF Fc (h + 3) j := fun j => by
    rw [e1]; unfold LF bxF
    by_cases e : j = n <;> simp [e]
  have k5 : ∀ i, ¬ i = n → LF F1 (h + 5 + (1 + i)) = LF Fc (h + 5 + (1 + i)) := fun i hi => funext fun j => by
    rw [e1]; unfold LF bxF
    rw [if_neg (by omega), if_neg (by omega), if_neg (by omega), if_neg (by omega), if_neg (by omega), if_neg (by omega)]
  have k6 : ∀ j, j < 4 → LF F1 (h + 5 + (1 + n)) j = (f j).toInt := fun j hj => by
    rw [e1]; unfold LF bxF
    rw [if_neg (by omega), if_neg (by omega), if_neg (by omega), if_neg (by omega), if_neg (by omega), if_pos rfl, if_pos hj]
  have k4 : ∀ j : Nat, j < n + 1 → LF F1 (h + 4) j = (if j = n then 0 else LF Fc (h + 4) j) + (if (j : Int) = par then 1 else 0) := fun j hj => by
    rw [e1]; unfold LF bxF
    rw [if_neg (by omega), if_neg (by omega), if_neg (by omega), if_neg (by omega), if_pos rfl]
    by_cases e : 0 ≤ pr.toInt ∧ j = pr.toInt.toNat
    · have e2 : (j : Int) = par := by omega
      have e3 : ¬ j = n := by omega
      rw [if_pos e, if_neg e3, if_pos e2]
      have h8 := a8 j (by omega)
      have h9 := cnt_le (P := LF Fc (h + 2)) (h := j) n
      unfold LF at h8
      exact i32_add1 (by rw [h8]; unfold LF at h9; omega)
    · have e2 : ¬ (j : Int) = par := by omega
      rw [if_neg e, if_neg e2]
      by_cases e3 : j = n
      · rw [if_pos e3, if_pos e3]; rfl
      · rw [if_neg e3, if_neg e3]; omega
  have hPB : PB (LF F1 (h + 2)) (n + 1) := fun j hj => by
    rw [k2 j]
    by_cases e : j = n
    · rw [if_pos e]; omega
    · rw [if_neg e]; exact a7 j (by omega)
  have kP : ∀ j, j < n → LF F1 (h + 2) j = LF Fc (h + 2) j := fun j hj => by rw [k2, if_neg (by omega)]
  refine ⟨fun c k hc => ?_, by rw [s7, a2], by rw [s8, a3], by rw [s10, a4], ?_, ⟨(Fc h 9).toInt, ?_, ?_⟩, by rw [k2, if_pos rfl], hPB, ?_⟩
  · rw [← a1 c k hc, e1]
    unfold bxF
    rw [if_neg (by omega), if_neg (by omega), if_neg (by omega), if_neg (by omega), if_neg (by omega), if_neg (by omega)]
  · rw [s5, i32_add1 (by omega)]; omega
  · refine RDn_eq n _ _ a7 (fun j hj => ⟨by rw [k1, if_neg (by omega)], kP j hj, by rw [k3, if_neg (by omega)], fun i hi => ?_⟩) a6
    show LF F1 (h + 5 + (1 + j)) i = _
    rw [k5 j (by omega)]
  · rw [s9, show LF F1 (h + 1) n = kd.toInt by rw [k1, if_pos rfl], show LF F1 (h + 3) n = sv.toInt by rw [k3, if_pos rfl]]
    refine BXok_eq (fun z => by rw [k1, if_neg (by omega)]) (fun z => ?_) a9 k6 hB
    rw [a8 par.toNat (by omega)]
    exact (cnt_eq n kP).trans (by rw [Int.toNat_of_nonneg z])
  · intro j hj
    rw [k4 j hj]
    show _ = cnt (LF F1 (h + 2)) n j + (if LF F1 (h + 2) n = j then 1 else 0)
    rw [show LF F1 (h + 2) n = par by rw [k2, if_pos rfl], cnt_eq n kP]
    by_cases e : j = n
    · rw [if_pos e, cnt_no n (fun i hi => by have := a7 i hi; omega)]
      rw [if_neg (by omega), if_neg (by omega)]
    · rw [if_neg e, a8 j (by omega)]
      by_cases e2 : (j : Int) = par
      · rw [if_pos e2, if_pos e2.symm]
      · rw [if_neg e2, if_neg (fun z => e2 z.symm)]
theorem FBx_go {L : Nat → Int} {F F1 F2 : mF} {h n : Nat} {len left q w : Int32} {par r : Int} (hI : FBx L F F1 h len left n par) (e2 : F2 = up2 (up2 F1 h 9 q) h 10 w) (hw : w = F1 h 10) (h0 : 0 ≤ r) (hg : PNgo L len.toInt (LF F1 (h + 2)) ((n + 1 : Nat) : Int) (F1 h 9).toInt r q.toInt) : FIv L F F2 h len left (n + 1) r := by
  obtain ⟨a1, a2, a3, a4, a5, ⟨p, a6, a7⟩, a8, a9, a10⟩ := hI
  have e3 : F2 = up2 F1 h 9 q := by rw [e2, hw, up2_3 (by decide)]
  have kk : ∀ i, LF F2 (h + (i + 1)) = LF F1 (h + (i + 1)) := fun i => by rw [e3, LF_up (by omega)]
  have kk5 : ∀ i, LF F2 (h + 5 + (1 + i)) = LF F1 (h + 5 + (1 + i)) := fun i => by rw [e3, LF_up (by omega)]
  have s9 : F2 h 9 = q := by rw [e3, up2_at]
  have ss : ∀ k, ¬ k = 9 → F2 h k = F1 h k := fun k hk => by rw [e3, up2_ne (fun z => hk z.2)]
  refine ⟨fun c k hc => ?_, by rw [ss 7 (by decide), a2], by rw [ss 8 (by decide), a3], by rw [ss 10 (by decide), a4], by rw [ss 5 (by decide), a5], ?_, ?_, ?_, by omega, ?_⟩
  · rw [← a1 c k hc, e3, up2_ne (by omega)]
  · rw [kk 0, kk 1, kk 2, show (fun i => LF F2 (h + 5 + (1 + i))) = (fun i => LF F1 (h + 5 + (1 + i))) from funext kk5, s9]
    refine ⟨p, (F1 h 9).toInt, ?_, ?_, hg⟩
    · rw [a8]; exact a6
    · rw [a8]; exact a7
  · rw [kk 1]; exact a9
  · rw [kk 3, kk 1]; exact a10
  · rcases hg with ⟨_, g1, _⟩ | ⟨_, k, g1, _⟩
    · omega
    · have hb := a9 n (by omega)
      rw [show (((n + 1 : Nat) : Int) - 1).toNat = n by omega] at g1
      have := UPk_lt (n := n + 1) a9 ⟨hb.1, by omega⟩ k r g1
      omega
theorem FBx_bad {L : Nat → Int} {F F1 : mF} {h n : Nat} {len left : Int32} {par r : Int} (hI : FBx L F F1 h len left n par) (hg : PNbad L len.toInt (LF F1 (h + 2)) ((n + 1 : Nat) : Int) (F1 h 9).toInt r ∨ (PNend L len.toInt (LF F1 (h + 2)) ((n + 1 : Nat) : Int) (F1 h 9).toInt r ∧ ¬ r = len.toInt)) : RDbd L len.toInt left.toInt r := by
  obtain ⟨a1, a2, a3, a4, a5, ⟨p, a6, a7⟩, a8, a9, a10⟩ := hI
  have hb := a9 n (by omega)
  exact ⟨_, LF F1 (h + 2), _, fun i => LF F1 (h + 5 + (1 + i)), n, p, par, fun j hj => a9 j (by omega), by omega, by omega, a6, Or.inr ⟨_, a8, a7, hg⟩⟩
theorem FIv_bad {L : Nat → Int} {F F1 : mF} {h n : Nat} {len left : Int32} {par r : Int} (hI : FIv L F F1 h len left n par) (hg : BXbad L len.toInt left.toInt n (F1 h 9).toInt par (LF F1 (h + 1)) (LF F1 (h + 4)) r) : RDbd L len.toInt left.toInt r := by
  obtain ⟨a1, a2, a3, a4, a5, a6, a7, a8, a9, a10⟩ := hI
  have e : BXr left.toInt n par (LF F1 (h + 1)) (LF F1 (h + 4)) ↔ BXr left.toInt n par (LF F1 (h + 1)) (fun j => cnt (LF F1 (h + 2)) n j) := by
    have e2 : 0 ≤ par → LF F1 (h + 4) par.toNat = cnt (LF F1 (h + 2)) n (par.toNat : Nat) := fun z => a8 _ (by omega)
    exact ⟨BXr_eq (fun _ => rfl) (fun z => (e2 z).symm) a9, BXr_eq (fun _ => rfl) e2 a9⟩
  refine ⟨_, _, _, _, n, _, par, a7, a9, a10, a6, Or.inl ?_⟩
  unfold BXbad at hg ⊢
  rw [← propext e]
  exact hg
/-- the rows of a TREE that is read whole -/
def FOk (L : Nat → Int) (F1 : mF) (h : Nat) (len left : Int) (n : Nat) : Prop := 1 ≤ n ∧ n ≤ 24 ∧ (n : Int) ≤ left ∧ (F1 h 5).toInt = n ∧ RDok L len left (LF F1 (h + 1)) (LF F1 (h + 2)) (LF F1 (h + 3)) (fun i => LF F1 (h + 5 + (1 + i))) n ∧ PB (LF F1 (h + 2)) n
theorem FBx_ok {L : Nat → Int} {F F1 F2 : mF} {h n : Nat} {len left q w : Int32} {par : Int} (hI : FBx L F F1 h len left n par) (e2 : F2 = up2 (up2 F1 h 9 q) h 10 w) (hg : PNend L len.toInt (LF F1 (h + 2)) ((n + 1 : Nat) : Int) (F1 h 9).toInt len.toInt) : FRM F F2 h ∧ FOk L F2 h len.toInt left.toInt (n + 1) := by
  obtain ⟨a1, a2, a3, a4, a5, ⟨p, a6, a7⟩, a8, a9, a10⟩ := hI
  have kk : ∀ i, LF F2 (h + (i + 1)) = LF F1 (h + (i + 1)) := fun i => by rw [e2, LF_up (by omega), LF_up (by omega)]
  have kk5 : ∀ i, LF F2 (h + 5 + (1 + i)) = LF F1 (h + 5 + (1 + i)) := fun i => by rw [e2, LF_up (by omega), LF_up (by omega)]
  have h1 := a7.1.2
  refine ⟨fun c k hc => ?_, by omega, by omega, by omega, ?_, ?_, ?_⟩
  · rw [← a1 c k hc, e2, up2_ne (by omega), up2_ne (by omega)]
  · rw [e2, up2_ne (by omega), up2_ne (by omega), a5]
  · rw [kk 0, kk 1, kk 2, show (fun i => LF F2 (h + 5 + (1 + i))) = (fun i => LF F1 (h + 5 + (1 + i))) from funext kk5]
    refine ⟨n, p, (F1 h 9).toInt, rfl, ?_, ?_, hg⟩
    · rw [a8]; exact a6
    · rw [a8]; exact a7
  · rw [kk 1]; exact a9
