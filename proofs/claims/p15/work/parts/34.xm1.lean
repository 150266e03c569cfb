/-! ===== MEMOS in the class ===== -/
abbrev bM (w : Nat) (b : Int) : Nat := w + 1 + (3 + 4 * min b.toNat 23)
theorem bM_at {w n a : Nat} (hn : n ≤ 23) (e : a = w + 1 + (3 + 4 * n)) : bM w (n : Int) = a := by
  unfold bM
  rw [Int.toNat_natCast, Nat.min_eq_left hn, e]
theorem bM_i {w : Nat} {b : Int} (h0 : 0 ≤ b) (h : b ≤ 23) : bM w b = w + 1 + (3 + 4 * b.toNat) := by
  unfold bM
  rw [Nat.min_eq_left (by omega)]
/-- the tree in the class's words -/
def kT (F : mF) (w : Nat) (b f : Int) : Int := if f = 1 then (F (bM w b) 4).toInt else if f = 6 then (F (bM w b) 7).toInt else if f = 7 then (F (bM w b) 8).toInt else if f = 8 then (F (bM w b) 9).toInt else if f = 9 then (F (bM w b) 5).toInt else if f = 10 then (F (bM w b) 10).toInt else if f < 6 then (F (bM w b + 1) (f - 2).toNat).toInt else (F (bM w b + 2) (f - 11).toNat).toInt
theorem kT_at {F : mF} {w n a : Nat} (hn : n ≤ 23) (e : a = w + 1 + (3 + 4 * n)) : kT F w (n : Int) 1 = (F a 4).toInt ∧ kT F w (n : Int) 7 = (F a 8).toInt ∧ kT F w (n : Int) 8 = (F a 9).toInt ∧ kT F w (n : Int) 9 = (F a 5).toInt ∧ kT F w (n : Int) 10 = (F a 10).toInt ∧ (∀ j : Nat, j < 4 → kT F w (n : Int) (2 + (j : Int)) = (F (a + 1) j).toInt) ∧ ∀ j : Nat, kT F w (n : Int) (11 + (j : Int)) = (F (a + 2) j).toInt := by
  have hb := bM_at hn e
  refine ⟨?_, ?_, ?_, ?_, ?_, fun j hj => ?_, fun j => ?_⟩
  · unfold kT; rw [if_pos rfl, hb]
  · unfold kT; rw [if_neg (by decide), if_neg (by decide), if_pos rfl, hb]
  · unfold kT; rw [if_neg (by decide), if_neg (by decide), if_neg (by decide), if_pos rfl, hb]
  · unfold kT; rw [if_neg (by decide), if_neg (by decide), if_neg (by decide), if_neg (by decide), if_pos rfl, hb]
  · unfold kT; rw [if_neg (by decide), if_neg (by decide), if_neg (by decide), if_neg (by decide), if_neg (by decide), if_pos rfl, hb]
  · unfold kT; rw [if_neg (by omega), if_neg (by omega), if_neg (by omega), if_neg (by omega), if_neg (by omega), if_neg (by omega), if_pos (by omega), hb, show (2 + (j : Int) - 2).toNat = j by omega]
  · unfold kT; rw [if_neg (by omega), if_neg (by omega), if_neg (by omega), if_neg (by omega), if_neg (by omega), if_neg (by omega), if_neg (by omega), hb, show (11 + (j : Int) - 11).toNat = j by omega]
/-- BOX b is there -/
def ALF (F : mF) (w : Nat) (b : Int) : Prop := (0 ≤ b ∧ b ≤ 23) ∧ tB (F w 4) b.toNat
theorem AL_n {F : mF} {w n : Nat} (hn : n ≤ 23) (h : tB (F w 4) n) : ALF F w (n : Int) := ⟨by omega, by rw [Int.toNat_natCast]; exact h⟩
/-- it has a MEMO of wh; what it says -/
def cmb (F : mF) (w : Nat) (b wh : Int) : Prop := tB (F (bM w b) 11) wh.toNat
def cmv (F : mF) (w : Nat) (b wh : Int) : Int := if wh = 0 then (F (bM w b) 12).toInt else (F (bM w b) 13).toInt
def CINV (F : mF) (w : Nat) : Prop := MINV (ALF F w) (kT F w) (cmb F w) (cmv F w)
/-- slots of MEMOS -/
def MS3 (w a k : Nat) : Prop := (k = 11 ∨ k = 12 ∨ k = 13) ∧ w + 4 ≤ a ∧ a < w + 100 ∧ (a - w) % 4 = 0
/-- MEMOS alone have changed, and none is gone -/
def MMx (F F' : mF) (w : Nat) : Prop := (∀ a k, ¬ ((k = 11 ∨ k = 12 ∨ k = 13) ∧ w + 4 ≤ a ∧ a < w + 100 ∧ (a - w) % 4 = 0) → F' a k = F a k) ∧ ∀ b wh, cmb F w b wh → cmb F' w b wh
theorem MMx.refl {F : mF} {w : Nat} : MMx F F w := ⟨fun _ _ _ => rfl, fun _ _ h => h⟩
theorem MMx.trans {F F' F'' : mF} {w : Nat} (h : MMx F F' w) (h' : MMx F' F'' w) : MMx F F'' w := ⟨fun a k q => (h'.1 a k q).trans (h.1 a k q), fun b wh q => h'.2 b wh (h.2 b wh q)⟩
/-- but for MEMOS the same -/
def FRX (F F' : mF) (w : Nat) : Prop := ∀ a k, ¬ ((k = 11 ∨ k = 12 ∨ k = 13) ∧ w + 4 ≤ a ∧ a < w + 100 ∧ (a - w) % 4 = 0) → F' a k = F a k
theorem kT_fr {F F' : mF} {w : Nat} (h : FRX F F' w) : kT F' w = kT F w := funext fun b => funext fun f => by
  have hm : min b.toNat 23 ≤ 23 := Nat.min_le_right _ _
  have g0 : ∀ k, k < 11 → F' (bM w b) k = F (bM w b) k := fun k hk => h _ k (by omega)
  have g1 : ∀ k, F' (bM w b + 1) k = F (bM w b + 1) k := fun k => h _ k (by unfold bM; omega)
  have g2 : ∀ k, F' (bM w b + 2) k = F (bM w b + 2) k := fun k => h _ k (by unfold bM; omega)
  unfold kT
  rw [g0 4 (by decide), g0 7 (by decide), g0 8 (by decide), g0 9 (by decide), g0 5 (by decide), g0 10 (by decide), g1, g2]
theorem AL_fr {F F' : mF} {w : Nat} (h : FRX F F' w) : ALF F' w = ALF F w := funext fun b => by
  unfold ALF
  rw [h w 4 (by omega)]
/-- kinds, numbers, CHILDREN of who is there -/
def AKF (F : mF) (w : Nat) : Prop := ∀ n : Nat, n ≤ 23 → tB (F w 4) n → (0 ≤ (F (w + 1 + (3 + 4 * n)) 4).toInt ∧ (F (w + 1 + (3 + 4 * n)) 4).toInt ≤ 9) ∧ (0 ≤ (F (w + 1 + (3 + 4 * n)) 8).toInt ∧ (F (w + 1 + (3 + 4 * n)) 8).toInt ≤ 99) ∧ (0 ≤ (F (w + 1 + (3 + 4 * n)) 9).toInt ∧ (F (w + 1 + (3 + 4 * n)) 9).toInt ≤ 99) ∧ (0 ≤ (F (w + 1 + (3 + 4 * n)) 10).toInt ∧ (F (w + 1 + (3 + 4 * n)) 10).toInt ≤ 8) ∧ (∀ j : Nat, j < 4 → 0 ≤ (F (w + 1 + (3 + 4 * n) + 1) j).toInt ∧ (F (w + 1 + (3 + 4 * n) + 1) j).toInt ≤ 99) ∧ ∀ j : Nat, (j : Int) < (F (w + 1 + (3 + 4 * n)) 10).toInt → (n : Int) < (F (w + 1 + (3 + 4 * n) + 2) j).toInt ∧ (F (w + 1 + (3 + 4 * n) + 2) j).toInt ≤ 23 ∧ tB (F w 4) (F (w + 1 + (3 + 4 * n) + 2) j).toNatClampNeg
theorem AKF_fr {F F' : mF} {w : Nat} (h : FRX F F' w) (hK : AKF F w) : AKF F' w := by
  intro n hn hA
  have g0 : ∀ k, k < 11 → F' (w + 1 + (3 + 4 * n)) k = F (w + 1 + (3 + 4 * n)) k := fun k hk => h _ k (by omega)
  have g1 : ∀ k, F' (w + 1 + (3 + 4 * n) + 1) k = F (w + 1 + (3 + 4 * n) + 1) k := fun k => h _ k (by omega)
  have g2 : ∀ k, F' (w + 1 + (3 + 4 * n) + 2) k = F (w + 1 + (3 + 4 * n) + 2) k := fun k => h _ k (by omega)
  have g4 : F' w 4 = F w 4 := h w 4 (by omega)
  rw [g4] at hA
  obtain ⟨r1, r2, r3, r4, r5, r6⟩ := hK n hn hA
  rw [g4, g0 4 (by decide), g0 8 (by decide), g0 9 (by decide), g0 10 (by decide)]
  exact ⟨r1, r2, r3, r4, fun j hj => by rw [g1]; exact r5 j hj, fun j hj => by rw [g2]; exact r6 j hj⟩
theorem AKF.tka {F : mF} {w : Nat} (h : AKF F w) : TKA (ALF F w) (kT F w) := by
  intro b hb
  obtain ⟨⟨h0, h1⟩, hA⟩ := hb
  obtain ⟨n, en⟩ : ∃ n : Nat, n = b.toNat := ⟨_, rfl⟩
  have eb : b = (n : Int) := by omega
  rw [← en] at hA
  subst eb
  obtain ⟨r1, r2, r3, r4, r5, r6⟩ := h n (by omega) hA
  obtain ⟨q1, q7, q8, q9, q10, qn, qk⟩ := kT_at (F := F) (w := w) (n := n) (by omega) rfl
  refine ⟨⟨h0, h1⟩, fun i hi0 hi => ?_⟩
  obtain ⟨j, ej⟩ : ∃ j : Nat, i = (j : Int) := ⟨i.toNat, by omega⟩
  subst ej
  rw [q10] at hi
  obtain ⟨c1, c2, c3⟩ := r6 j hi
  rw [qk]
  exact ⟨c1, c2, ⟨by omega, c2⟩, c3⟩
theorem AKF.kra {F : mF} {w : Nat} (h : AKF F w) : KRA (ALF F w) (kT F w) := by
  intro b hb
  obtain ⟨⟨h0, h1⟩, hA⟩ := hb
  obtain ⟨n, en⟩ : ∃ n : Nat, n = b.toNat := ⟨_, rfl⟩
  have eb : b = (n : Int) := by omega
  rw [← en] at hA
  subst eb
  obtain ⟨r1, r2, r3, r4, r5, r6⟩ := h n (by omega) hA
  obtain ⟨q1, q7, q8, q9, q10, qn, qk⟩ := kT_at (F := F) (w := w) (n := n) (by omega) rfl
  have n0 := qn 0 (by decide)
  have n1 := qn 1 (by decide)
  have s0 := r5 0 (by decide)
  have s1 := r5 1 (by decide)
  rw [show (2 : Int) = 2 + ((0 : Nat) : Int) from rfl, show (3 : Int) = 2 + ((1 : Nat) : Int) from rfl, n0, n1, q7, q8, q10]
  exact ⟨s0, s1, r2, r3, r4⟩
def bn (w b : Nat) : Int := (((b - (w + 4)) / 4 : Nat) : Int)
theorem bn_eq {w n b : Nat} (e : b = w + 1 + (3 + 4 * n)) : bn w b = (n : Int) := by
  unfold bn
  rw [e, show w + 1 + (3 + 4 * n) - (w + 4) = 4 * n by omega, Nat.mul_div_cancel_left _ (by decide)]
/-- the BOX at b was asked, and answered r -/
def ASK (F F' : mF) (w b : Nat) (wh r : Int) : Prop := MMx F F' w ∧ CINV F' w ∧ cmb F' w (bn w b) wh ∧ r = asT (kT F w) 24 (bn w b) wh
/-- the first i CHILDREN were asked -/
def GKL (F F' : mF) (w n : Nat) (wh : Int) (i : Nat) : Prop := MMx F F' w ∧ CINV F' w ∧ ∀ j : Nat, j < i → cmb F' w (kT F w (n : Int) (11 + (j : Int))) wh
/-- what child i tells -/
abbrev kdA (F : mF) (w n : Nat) (wh : Int) (i : Nat) : Int := asT (kT F w) 24 (kT F w (n : Int) (11 + (i : Int))) wh
theorem GKL_0 {F : mF} {w n : Nat} {wh : Int} (h : CINV F w) : GKL F F w n wh 0 := ⟨MMx.refl, h, fun j hj => absurd hj (Nat.not_lt_zero _)⟩
theorem GKL_s {F Fc F1 : mF} {w n a i i' c : Nat} {wh r : Int} {k : Int32} (h : GKL F Fc w n wh i) (hn : n ≤ 23) (ea : a = w + 1 + (3 + 4 * n)) (hk : k = F (a + 2) i) (hk0 : 0 ≤ k.toInt) (ec : c = w + 1 + (3 + 4 * k.toNatClampNeg)) (hi : i' = i + 1) (hA : ASK Fc F1 w c wh r) : GKL F F1 w n wh i' ∧ r = kdA F w n wh i := by
  subst hi
  obtain ⟨m1, m2, m3⟩ := h
  obtain ⟨a1, a2, a3, a4⟩ := hA
  have e1 : bn w c = kT F w (n : Int) (11 + (i : Int)) := by
    rw [bn_eq ec, (kT_at hn ea).2.2.2.2.2.2 i, ← hk]
    show ((k.toInt.toNat : Nat) : Int) = _
    omega
  rw [e1] at a3 a4
  rw [kT_fr m1.1] at a4
  refine ⟨⟨m1.trans a1, a2, fun j hj => ?_⟩, a4⟩
  by_cases z : j = i
  · rw [z]; exact a3
  · exact a1.2 _ _ (m3 j (by omega))
theorem ASK_bd {F F' : mF} {w b n : Nat} {wh r : Int} (hK : AKF F w) (hn : n ≤ 23) (hA : tB (F w 4) n) (e : b = w + 1 + (3 + 4 * n)) (h : ASK F F' w b wh r) : 0 ≤ r ∧ r ≤ 13600 := by
  have := asT_bd hK.tka hK.kra 24 (n : Int) wh (AL_n hn hA)
  have h4 := h.2.2.2
  rw [bn_eq e] at h4
  omega
/-- CHILDREN asked for the greatest; for all together -/
def GKq (F F' : mF) (w b : Nat) (wh r : Int) : Prop := MMx F F' w ∧ CINV F' w ∧ (∀ i : Int, 0 ≤ i → i < kT F w (bn w b) 10 → cmb F' w (kT F w (bn w b) (11 + i)) wh) ∧ r = mxI (fun i => asT (kT F w) 24 (kT F w (bn w b) (11 + (i : Int))) wh) (kT F w (bn w b) 10).toNat
def KTq (F F' : mF) (w b : Nat) (wh r : Int) : Prop := MMx F F' w ∧ CINV F' w ∧ (∀ i : Int, 0 ≤ i → i < kT F w (bn w b) 10 → cmb F' w (kT F w (bn w b) (11 + i)) wh) ∧ r = gpI (kT F w (bn w b) 10) (kT F w (bn w b) 3) + sumI (fun i => hdI (asT (kT F w) 24 (kT F w (bn w b) (11 + (i : Int))) wh) (kT F w (kT F w (bn w b) (11 + (i : Int))) 7) (enI (kT F w (kT F w (bn w b) (11 + (i : Int))) 8))) (kT F w (bn w b) 10).toNat
theorem GKL_all {F F' : mF} {w n i : Nat} {wh : Int} (h : GKL F F' w n wh i) (hi : (i : Int) = kT F w (n : Int) 10) : ∀ j : Int, 0 ≤ j → j < kT F w (n : Int) 10 → cmb F' w (kT F w (n : Int) (11 + j)) wh := fun j h0 hj => by
  have := h.2.2 j.toNat (by omega)
  rw [Int.toNat_of_nonneg h0] at this
  exact this
theorem GKq_of {F F' : mF} {w n b i : Nat} {wh r : Int} (e : b = w + 1 + (3 + 4 * n)) (h : GKL F F' w n wh i) (hi : (i : Int) = kT F w (n : Int) 10) (hr : r = mxI (kdA F w n wh) i) : GKq F F' w b wh r := by
  unfold GKq
  rw [bn_eq e]
  refine ⟨h.1, h.2.1, GKL_all h hi, ?_⟩
  rw [hr, ← hi, Int.toNat_natCast]
abbrev kdH (F : mF) (w n : Nat) (wh : Int) (i : Nat) : Int := hdI (kdA F w n wh i) (kT F w (kT F w (n : Int) (11 + (i : Int))) 7) (enI (kT F w (kT F w (n : Int) (11 + (i : Int))) 8))
theorem KTq_of {F F' : mF} {w n b i : Nat} {wh r : Int} (e : b = w + 1 + (3 + 4 * n)) (h : GKL F F' w n wh i) (hi : (i : Int) = kT F w (n : Int) 10) (hr : r = gpI (kT F w (n : Int) 10) (kT F w (n : Int) 3) + sumI (kdH F w n wh) i) : KTq F F' w b wh r := by
  unfold KTq
  rw [bn_eq e]
  refine ⟨h.1, h.2.1, GKL_all h hi, ?_⟩
  rw [hr, ← hi, Int.toNat_natCast]
/-- what a BOX figures, its CHILDREN asked -/
def FGq (F F' : mF) (w b : Nat) (wh r : Int) : Prop := MMx F F' w ∧ CINV F' w ∧ (KN (kT F w (bn w b) 1) → ∀ i : Int, 0 ≤ i → i < kT F w (bn w b) 10 → cmb F' w (kT F w (bn w b) (11 + i)) (whI (kT F w (bn w b) 1) wh)) ∧ r = anI (kT F w) (bn w b) wh (fun i => asT (kT F w) 24 (kT F w (bn w b) (11 + (i : Int))) (whI (kT F w (bn w b) 1) wh))
theorem FGq_no {F : mF} {w b : Nat} {wh r : Int} (h : CINV F w) (hk : kT F w (bn w b) 1 = 0 ∨ kT F w (bn w b) 1 = 1 ∨ kT F w (bn w b) 1 = 6) (hr : r = (if kT F w (bn w b) 1 = 0 then kT F w (bn w b) 2 else if kT F w (bn w b) 1 = 1 then txI (kT F w (bn w b) 2) (kT F w (bn w b) 3) wh else if wh = 0 then 10 * kT F w (bn w b) 2 else kT F w (bn w b) 2)) : FGq F F w b wh r := by
  refine ⟨MMx.refl, h, fun z => absurd hk z, ?_⟩
  rw [hr]
  unfold anI
  rcases hk with e | e | e <;> rw [e] <;> simp
theorem FGq_gk {F F' : mF} {w b : Nat} {wh wh' r r' : Int} (h : GKq F F' w b wh' r') (hw : wh' = whI (kT F w (bn w b) 1) wh) (hk : ¬ (kT F w (bn w b) 1 = 0 ∨ kT F w (bn w b) 1 = 1 ∨ kT F w (bn w b) 1 = 6 ∨ kT F w (bn w b) 1 = 8)) (hr : r = (if kT F w (bn w b) 1 = 2 then r' + 2 * kT F w (bn w b) 2 else if kT F w (bn w b) 1 = 3 then hdI r' (kT F w (bn w b) 2) (enI (kT F w (bn w b) 3)) else r')) : FGq F F' w b wh r := by
  obtain ⟨h1, h2, h3, h4⟩ := h
  subst hw
  refine ⟨h1, h2, fun _ => h3, ?_⟩
  rw [hr, h4]
  unfold anI
  rw [if_neg (fun z => hk (Or.inl z)), if_neg (fun z => hk (Or.inr (Or.inl z)))]
  by_cases e2 : kT F w (bn w b) 1 = 2
  · rw [if_pos e2, if_pos e2]
  rw [if_neg e2, if_neg e2]
  by_cases e3 : kT F w (bn w b) 1 = 3
  · rw [if_pos e3, if_pos e3]
  rw [if_neg e3, if_neg e3, if_neg (fun z => hk (Or.inr (Or.inr (Or.inl z)))), if_neg (fun z => hk (Or.inr (Or.inr (Or.inr z))))]
theorem FGq_kt {F F' : mF} {w b : Nat} {wh r : Int} (h : KTq F F' w b wh r) (hk : kT F w (bn w b) 1 = 8) : FGq F F' w b wh r := by
  obtain ⟨h1, h2, h3, h4⟩ := h
  have hw : whI (kT F w (bn w b) 1) wh = wh := whI_ne (by omega)
  refine ⟨h1, h2, fun _ => by rw [hw]; exact h3, ?_⟩
  rw [h4, hw]
  unfold anI
  rw [if_neg (by omega), if_neg (by omega), if_neg (by omega), if_neg (by omega), if_neg (by omega), if_pos hk]
/-- the MEMO is kept -/
def KPM (F F' : mF) (b : Nat) (wh v : Int32) : Prop := F' = up2 (up2 F b 11 (F b 11 ||| (1 <<< (wh &&& 31)))) b (if wh.toInt = 0 then 12 else 13) v
theorem ASK_keep {F F1 F2 : mF} {w b n : Nat} {wh v : Int32} (hK : AKF F w) (hn : n ≤ 23) (hA : tB (F w 4) n) (e : b = w + 1 + (3 + 4 * n)) (hw0 : 0 ≤ wh.toInt) (hw1 : wh.toInt ≤ 1) (h : FGq F F1 w b wh.toInt v.toInt) (hk : KPM F1 F2 b wh v) : ASK F F2 w b wh.toInt v.toInt := by
  obtain ⟨h1, h2, h3, h4⟩ := h
  have eb := bn_eq e
  rw [eb] at h3 h4
  have hM : bM w (n : Int) = b := bM_at hn e
  have hv : v.toInt = asT (kT F w) 24 (n : Int) wh.toInt := by rw [asT_24 hK.tka (AL_n hn hA)]; exact h4
  have hfr : FRX F1 F2 w := fun a k q => by
    rw [hk, up2_ne (fun z => q ⟨?_, by omega, by omega, by omega⟩), up2_ne (fun z => q ⟨Or.inl z.2, by omega, by omega, by omega⟩)]
    rw [z.2]
    split
    · exact Or.inr (Or.inl rfl)
    · exact Or.inr (Or.inr rfl)
  have g11 : F2 b 11 = F1 b 11 ||| (1 <<< (wh &&& 31)) := by
    rw [hk, up2_ne (fun z => by have := z.2; split at this <;> omega), up2_at]
  have gno : ∀ x k, ¬ bM w x = b → F2 (bM w x) k = F1 (bM w x) k := fun x k z => by
    rw [hk, up2_ne (fun y => z y.1), up2_ne (fun y => z y.1)]
  have hor : ∀ k, tB (F2 b 11) k ↔ tB (F1 b 11) k ∨ k = wh.toInt.toNat := fun k => by rw [g11]; exact tB_or hw0 (by omega)
  have grow : ∀ x y, cmb F1 w x y → cmb F2 w x y := fun x y q => by
    unfold cmb at q ⊢
    by_cases z : bM w x = b
    · rw [z] at q ⊢
      exact (hor _).mpr (Or.inl q)
    · rw [gno x 11 z]; exact q
  have hm : MMx F1 F2 w := ⟨hfr, grow⟩
  have hb2 : cmb F2 w (n : Int) wh.toInt := by
    unfold cmb
    rw [hM]
    exact (hor _).mpr (Or.inr rfl)
  have eT : kT F2 w = kT F1 w := kT_fr hfr
  have eT1 : kT F1 w = kT F w := kT_fr h1.1
  have eA : ALF F2 w = ALF F1 w := AL_fr hfr
  refine ⟨h1.trans hm, ?_, by rw [eb]; exact hb2, by rw [eb]; exact hv⟩
  unfold CINV
  rw [eT, eA]
  refine MINV_keep (n := (n : Int)) (w0 := wh.toInt) (AKF_fr h1.1 hK).tka (AL_n hn (by rw [h1.1 w 4 (by omega)]; exact hA)) h2 (fun x y hx hy q => ?_) (fun x y _ q => grow x y q) ?_ (fun h6 i q0 q1 => ?_)
  · by_cases z : bM w x = b
    · have ex : x = (n : Int) := by
        have := bM_i (w := w) hx.1.1 hx.1.2
        have h00 := hx.1.1
        have h01 := hx.1.2
        omega
      by_cases z2 : y = wh.toInt
      · exact Or.inl ⟨ex, z2⟩
      · refine Or.inr ⟨?_, ?_⟩
        · unfold cmb at q ⊢
          rw [z] at q ⊢
          exact ((hor _).mp q).elim id (fun q9 => absurd q9 (by omega))
        · unfold cmv
          rw [z, hk]
          by_cases y0 : y = 0
          · rw [if_pos y0, if_pos y0, if_neg (by omega), up2_ne (by omega), up2_ne (by omega)]
          · rw [if_neg y0, if_neg y0, if_pos (by omega), up2_ne (by omega), up2_ne (by omega)]
    · refine Or.inr ⟨?_, ?_⟩
      · unfold cmb at q ⊢
        rw [gno x 11 z] at q; exact q
      · unfold cmv
        rw [gno x 12 z, gno x 13 z]
  · rw [eT1, ← hv]
    unfold cmv
    rw [hM, hk]
    by_cases y0 : wh.toInt = 0
    · rw [if_pos y0, if_pos y0, up2_at]
    · rw [if_neg y0, if_neg y0, up2_at]
  · rw [eT1] at h6 q1 ⊢
    exact h3 h6 i q0 q1
theorem ASK_has {F : mF} {w b n : Nat} {wh r : Int32} (hn : n ≤ 23) (hA : tB (F w 4) n) (e : b = w + 1 + (3 + 4 * n)) (hw0 : 0 ≤ wh.toInt) (hw1 : wh.toInt ≤ 1) (hC : CINV F w) (hm : tB (F b 11) wh.toInt.toNat) (hr : r.toInt = if wh.toInt = 0 then (F b 12).toInt else (F b 13).toInt) : ASK F F w b wh.toInt r.toInt := by
  have hM : bM w (n : Int) = b := bM_at hn e
  have hm2 : cmb F w (n : Int) wh.toInt := by unfold cmb; rw [hM]; exact hm
  unfold ASK
  rw [bn_eq e]
  refine ⟨MMx.refl, hC, hm2, ?_⟩
  have := (hC (n : Int) wh.toInt (AL_n hn hA) (by omega) hm2).1
  rw [← this, hr]
  unfold cmv
  rw [hM]
theorem tn_mulc {x y z : Int32} {a b : Nat} (ez : z = x * y) (h1 : 0 ≤ x.toInt) (h2 : x.toInt ≤ a) (h3 : 0 ≤ y.toInt) (h4 : y.toInt ≤ b) (h5 : a * b ≤ 2147483647) : z.toInt = x.toInt * y.toInt ∧ 0 ≤ z.toInt ∧ z.toInt ≤ ((a * b : Nat) : Int) := by
  have e1 : 0 ≤ x.toInt * y.toInt := Int.mul_nonneg h1 h3
  have e2 : x.toInt * y.toInt ≤ (a : Int) * (b : Int) := Int.mul_le_mul h2 h4 h3 (by omega)
  have e3 : ((a * b : Nat) : Int) = (a : Int) * (b : Int) := by push_cast; rfl
  have e4 : z.toInt = x.toInt * y.toInt := tn_mul ez rfl rfl (by omega) (by omega)
  exact ⟨e4, by omega, by omega⟩
theorem kdA_bd {F : mF} {w n i : Nat} {wh : Int} (hK : AKF F w) (hn : n ≤ 23) (hA : tB (F w 4) n) (hi : (i : Int) < kT F w (n : Int) 10) : 0 ≤ kdA F w n wh i ∧ kdA F w n wh i ≤ 13600 := by
  have := asT_bd hK.tka hK.kra 24 _ wh ((hK.tka (n : Int) (AL_n hn hA)).2 (i : Int) (by omega) hi).2.2
  have e : kdA F w n wh i = asT (kT F w) 24 (kT F w (n : Int) (11 + (i : Int))) wh := rfl
  omega
theorem GKq_bd {F F' : mF} {w b n : Nat} {wh r : Int} (hK : AKF F w) (hn : n ≤ 23) (hA : tB (F w 4) n) (e : b = w + 1 + (3 + 4 * n)) (h : GKq F F' w b wh r) : 0 ≤ r ∧ r ≤ 13600 := by
  obtain ⟨-, -, -, h4⟩ := h
  rw [bn_eq e] at h4
  have := mxI_bd (g := fun i => asT (kT F w) 24 (kT F w (n : Int) (11 + (i : Int))) wh) (B := 13600) (by decide) (kT F w (n : Int) 10).toNat (fun i hi => kdA_bd (wh := wh) hK hn hA (by omega))
  omega
theorem kdH_eq {F : mF} {w n a i c : Nat} {wh : Int} {k : Int32} (hn : n ≤ 23) (ea : a = w + 1 + (3 + 4 * n)) (hk : k = F (a + 2) i) (hk0 : 0 ≤ k.toInt) (hk1 : k.toInt ≤ 23) (ec : c = w + 1 + (3 + 4 * k.toNatClampNeg)) : kdH F w n wh i = hdI (kdA F w n wh i) (F c 8).toInt (enI (F c 9).toInt) := by
  have e1 : kT F w (n : Int) (11 + (i : Int)) = ((k.toNatClampNeg : Nat) : Int) := by
    rw [(kT_at hn ea).2.2.2.2.2.2 i, ← hk]
    show _ = ((k.toInt.toNat : Nat) : Int)
    omega
  have e2 := kT_at (F := F) (w := w) (n := k.toNatClampNeg) (by show k.toInt.toNat ≤ 23; omega) ec
  show hdI _ (kT F w (kT F w (n : Int) (11 + (i : Int))) 7) (enI (kT F w (kT F w (n : Int) (11 + (i : Int))) 8)) = _
  rw [e1, e2.2.1, e2.2.2.1]
theorem gp_of {m b x z : Int} (hz : z = x * b) (h0 : 0 ≤ x) (h1 : m - 1 ≤ x) (h2 : x = 0 ∨ x = m - 1) : z = gpI m b := by
  unfold gpI
  split
  · rw [hz, show x = m - 1 by omega]
  · rw [hz, show x = 0 by omega, Int.zero_mul]
