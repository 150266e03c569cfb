/-! ===== both sides hold the same tree ===== -/
abbrev bA (w n : Nat) : Nat := w + 1 + (3 + 4 * n)
/-- the BOX is there -/
def AL (t : Nat → Int32) (x : Int) : Prop := 0 ≤ x ∧ x ≤ 23 ∧ K t x 0 = 1
/-- the class's BOX at c holds what the reference's BOX b holds -/
def BXR (F : mF) (c : Nat) (t : Nat → Int32) (b : Int) : Prop := (F c 4).toInt = K t b 1 ∧ (F c 5).toInt = K t b 9 ∧ (F c 7).toInt = K t b 6 ∧ (F c 8).toInt = K t b 7 ∧ (F c 9).toInt = K t b 8 ∧ (F c 10).toInt = K t b 10 ∧ (∀ j : Nat, j < 4 → (F (c + 1) j).toInt = K t b (2 + (j : Int))) ∧ ∀ j : Nat, (j : Int) < K t b 10 → (F (c + 2) j).toInt = K t b (11 + (j : Int))
/-- the class's World at w holds the reference's tree t -/
def RT (F : mF) (w : Nat) (t : Nat → Int32) : Prop := (F w 8).toInt = (t 3).toInt ∧ (F w 9).toInt = (t 0).toInt ∧ (∀ n : Nat, tB (F w 4) n ↔ n ≤ 23 ∧ K t (n : Int) 0 = 1) ∧ (∀ n : Nat, n ≤ 23 → (F (bA w n) 0).toInt = (n : Int)) ∧ ∀ n : Nat, n ≤ 23 → K t (n : Int) 0 = 1 → BXR F (bA w n) t (n : Int)
/-- who is there: his parent, his kids; the top -/
def TJ (t : Nat → Int32) : Prop := (∀ b : Int, AL t b → 0 ≤ K t b 9 → AL t (K t b 9)) ∧ (∀ b i : Int, AL t b → 0 ≤ i → i < K t b 10 → AL t (K t b (11 + i))) ∧ (0 ≤ (t 0).toInt → AL t (t 0).toInt ∧ K t (t 0).toInt 9 = -1) ∧ ∀ b : Int, AL t b → 0 ≤ K t b 1 ∧ K t b 1 ≤ 9
theorem RT.al {F : mF} {w : Nat} {t : Nat → Int32} (h : RT F w t) (x : Int32) : (0 ≤ x.toInt ∧ x.toInt ≤ 23 ∧ tB (F w 4) x.toInt.toNat) ↔ AL t x.toInt := by
  constructor
  · rintro ⟨h1, h2, h3⟩
    have := ((h.2.2.1 _).mp h3).2
    rw [show ((x.toInt.toNat : Nat) : Int) = x.toInt by omega] at this
    exact ⟨h1, h2, this⟩
  · rintro ⟨h1, h2, h3⟩
    refine ⟨h1, h2, (h.2.2.1 _).mpr ⟨by omega, ?_⟩⟩
    rw [show ((x.toInt.toNat : Nat) : Int) = x.toInt by omega]
    exact h3
theorem RT.bit {F : mF} {w : Nat} {t : Nat → Int32} (h : RT F w t) (n : Nat) : tB (F w 4) n ↔ AL t (n : Int) := by
  constructor
  · intro h1
    have := (h.2.2.1 _).mp h1
    exact ⟨by omega, by omega, this.2⟩
  · rintro ⟨h1, h2, h3⟩
    exact (h.2.2.1 _).mpr ⟨by omega, h3⟩
theorem RT.box {F : mF} {w : Nat} {t : Nat → Int32} (h : RT F w t) {x : Int} (hx : AL t x) : BXR F (bA w x.toNat) t x := by
  obtain ⟨h1, h2, h3⟩ := hx
  have e : ((x.toNat : Nat) : Int) = x := by omega
  have := h.2.2.2.2 x.toNat (by omega) (by rw [e]; exact h3)
  rw [e] at this
  exact this
theorem RT.bx {F : mF} {w : Nat} {t : Nat → Int32} (h : RT F w t) {x : Int32} (hx : AL t x.toInt) : BXR F (w + 1 + (3 + 4 * x.toNatClampNeg)) t x.toInt := h.box hx
theorem RT.lt {F : mF} {w : Nat} {t : Nat → Int32} (h : RT F w t) (hI : TInv t) : ∀ n : Nat, tB (F w 4) n → (n : Int) < (F w 8).toInt := fun n hn => by
  have h1 := (h.bit n).mp hn
  have := hI.2.1 n h1.1 h1.2.1 h1.2.2
  rw [h.1]; exact this
theorem RT.k0 {F : mF} {w : Nat} {t : Nat → Int32} (h : RT F w t) (hI : TInv t) : ∀ n : Nat, tB (F w 4) n → 0 ≤ (F (w + 1 + (3 + 4 * n)) 10).toInt := fun n hn => by
  have h1 := (h.bit n).mp hn
  have h2 := (h.box h1).2.2.2.2.2.1
  have h3 := (hI.2.2.2.2.2.2.2.2 n h1.1 h1.2.1).1
  have h2 : (F (w + 1 + (3 + 4 * n)) 10).toInt = K t (n : Int) 10 := h2
  omega
theorem TI10 {t : Nat → Int32} (hI : TInv t) {b : Int} (h1 : 0 ≤ b) (h2 : b ≤ 23) : 0 ≤ K t b 10 ∧ K t b 10 ≤ 8 := hI.2.2.2.2.2.2.2.2 b h1 h2
/-- only what may be there counts -/
theorem BXR.K {F : mF} {c : Nat} {t t' : Nat → Int32} {b : Int} (h : BXR F c t b) (h8 : K t b 10 ≤ 8) (hk : ∀ j : Int, 0 ≤ j → j ≤ 18 → K t' b j = K t b j) : BXR F c t' b := by
  obtain ⟨h1, h2, h3, h4, h5, h6, h7, h9⟩ := h
  refine ⟨by rw [hk 1 (by decide) (by decide)]; exact h1, by rw [hk 9 (by decide) (by decide)]; exact h2, by rw [hk 6 (by decide) (by decide)]; exact h3, by rw [hk 7 (by decide) (by decide)]; exact h4, by rw [hk 8 (by decide) (by decide)]; exact h5, by rw [hk 10 (by decide) (by decide)]; exact h6, fun j hj => by rw [hk _ (by omega) (by omega)]; exact h7 j hj, fun j hj => ?_⟩
  rw [hk 10 (by decide) (by decide)] at hj
  rw [hk _ (by omega) (by omega)]; exact h9 j hj
theorem RT_AG {F : mF} {w : Nat} {t t' : Nat → Int32} (h : RT F w t) (h8 : ∀ b : Int, 0 ≤ b → b ≤ 23 → K t b 10 ≤ 8) (hg : AG t t') : RT F w t' := by
  obtain ⟨h1, h2, h3, h4, h5⟩ := h
  obtain ⟨g0, g3, gk⟩ := hg
  have gK : ∀ b j : Int, 0 ≤ b → 0 ≤ j → j ≤ 18 → K t' b j = K t b j := fun b j hb hj hj2 => congrArg Int32.toInt (gk b j hb hj hj2)
  refine ⟨by rw [g3]; exact h1, by rw [g0]; exact h2, fun n => by rw [gK n 0 (by omega) (by decide) (by decide)]; exact h3 n, h4, fun n hn ha => ?_⟩
  rw [gK n 0 (by omega) (by decide) (by decide)] at ha
  exact (h5 n hn ha).K (h8 n (by omega) (by omega)) (fun j hj hj2 => gK n j (by omega) hj hj2)
theorem TJ_AG {t t' : Nat → Int32} (hJ : TJ t) (h8 : ∀ b : Int, 0 ≤ b → b ≤ 23 → K t b 10 ≤ 8) (hg : AG t t') : TJ t' := by
  obtain ⟨j1, j2, j3, j4⟩ := hJ
  obtain ⟨g0, g3, gk⟩ := hg
  have gK : ∀ b j : Int, 0 ≤ b → 0 ≤ j → j ≤ 18 → K t' b j = K t b j := fun b j hb hj hj2 => congrArg Int32.toInt (gk b j hb hj hj2)
  have gA : ∀ b : Int, AL t' b ↔ AL t b := fun b => by
    constructor
    · rintro ⟨a1, a2, a3⟩; rw [gK b 0 a1 (by decide) (by decide)] at a3; exact ⟨a1, a2, a3⟩
    · rintro ⟨a1, a2, a3⟩; exact ⟨a1, a2, by rw [gK b 0 a1 (by decide) (by decide)]; exact a3⟩
  refine ⟨fun b hb h0 => ?_, fun b i hb h0 h1 => ?_, fun h0 => ?_, fun b hb => ?_⟩
  · have hb := (gA b).mp hb
    rw [gK b 9 hb.1 (by decide) (by decide)] at h0 ⊢
    exact (gA _).mpr (j1 b hb h0)
  · have hb := (gA b).mp hb
    have := h8 b hb.1 hb.2.1
    rw [gK b 10 hb.1 (by decide) (by decide)] at h1
    rw [gK b (11 + i) hb.1 (by omega) (by omega)]
    exact (gA _).mpr (j2 b i hb h0 h1)
  · rw [g0] at h0 ⊢
    have := j3 h0
    exact ⟨(gA _).mpr this.1, by rw [gK _ 9 this.1.1 (by decide) (by decide)]; exact this.2⟩
  · have hb := (gA b).mp hb
    rw [gK b 1 hb.1 (by decide) (by decide)]
    exact j4 b hb
/-- a BOX comes: the class's way and the reference's -/
theorem RT_PX {F F' : mF} {w n : Nat} {t t' : Nat → Int32} {kd pa v0 v1 v2 v3 sh : Int32} (h : RT F w t) (hI : TInv t) (hn : (t 3).toInt = (n : Int)) (hn23 : n ≤ 23) (hb : BRs F F' w n kd pa v0 v1 v2 v3 sh) (hx : PX t t' kd.toInt pa.toInt v0.toInt v1.toInt v2.toInt v3.toInt sh.toInt) (hpa : pa.toInt = -1 ∨ (AL t pa.toInt ∧ K t pa.toInt 10 ≤ 7)) : RT F' w t' := by
  obtain ⟨h1, h2, h3, h4, h5⟩ := h
  obtain ⟨⟨a1, a2, a3, a4⟩, -, ⟨b1, b2, b3, b4, b5, b6, b7⟩, ⟨c1, c2, c3, c4⟩, d⟩ := hb
  obtain ⟨x1, x2, x3, ⟨y0, y1, y2, y3, y4, y5, y6, y7, y8, y9, y10⟩, z, u⟩ := hx
  rw [hn] at x1 x2 y0 y1 y2 y3 y4 y5 y6 y7 y8 y9 y10 z u
  have hp10 : 0 ≤ pa.toInt → 0 ≤ K t pa.toInt 10 := fun q => (TI10 hI q (by rcases hpa with e | e; omega; exact e.1.2.1)).1
  have hz0 : ∀ b j : Int, 0 ≤ b → ¬ b = (n : Int) → 0 ≤ j → j ≤ 9 → K t' b j = K t b j := fun b j q1 q2 q3 q4 => z b j q1 q2 q3 (by omega) (fun q => by
    have := hp10 (by omega)
    omega)
  refine ⟨by rw [x1]; exact a1, ?_, fun m => ?_, fun m hm => ?_, fun m hm ha => ?_⟩
  · rw [a3]
    by_cases e : pa.toInt = -1
    · rw [if_pos e, x2 (by omega), h1]; exact hn
    · rw [if_neg e, x3 (by rcases hpa with q | q; omega; exact q.1.1)]; exact h2
  · rw [a2, h3]
    by_cases e : m = n
    · subst e
      exact ⟨fun _ => ⟨hn23, y0⟩, fun _ => Or.inr rfl⟩
    · rw [hz0 m 0 (by omega) (by omega) (by decide) (by decide)]
      exact ⟨fun q => q.resolve_right e, Or.inl⟩
  · by_cases e : m = n
    · subst e; rw [b7]; exact h4 m hm
    · rw [(d m (by omega) e).1 0 (by decide)]; exact h4 m hm
  · by_cases e : m = n
    · subst e
      refine ⟨by rw [b1]; exact y1.symm, by rw [b2]; exact y9.symm, by rw [b3]; exact y6.symm, by rw [b4, y7]; decide, by rw [b5, y8]; decide, by rw [b6, y10]; decide, fun j hj => ?_, fun j hj => by rw [y10] at hj; omega⟩
      rcases (by omega : j = 0 ∨ j = 1 ∨ j = 2 ∨ j = 3) with e | e | e | e
      · subst e; rw [c1]; exact y2.symm
      · subst e; rw [c2]; exact y3.symm
      · subst e; rw [c3]; exact y4.symm
      · subst e; rw [c4]; exact y5.symm
    · have hk := fun j q1 q2 => hz0 m j (by omega) (by omega) q1 q2
      rw [hk 0 (by decide) (by decide)] at ha
      obtain ⟨g1, g2, g3, g4, g5, g6, g7, g8⟩ := h5 m hm ha
      obtain ⟨d1, d2, d3, d4⟩ := d m (by omega) e
      refine ⟨by rw [d1 4 (by decide), hk 1 (by decide) (by decide)]; exact g1, by rw [d1 5 (by decide), hk 9 (by decide) (by decide)]; exact g2, by rw [d1 7 (by decide), hk 6 (by decide) (by decide)]; exact g3, by rw [d1 8 (by decide), hk 7 (by decide) (by decide)]; exact g4, by rw [d1 9 (by decide), hk 8 (by decide) (by decide)]; exact g5, ?_, fun j hj => by rw [d2 j, hk _ (by omega) (by omega)]; exact g7 j hj, fun j hj => ?_⟩
      · by_cases f : (m : Int) = pa.toInt
        · have u1 := (u (by omega)).1
          rw [(d4 f).1, f, u1, ← f, g6]
        · rw [(d3 f).1, z m 10 (by omega) (by omega) (by decide) (by decide) (fun q => f q.1)]; exact g6
      · by_cases f : (m : Int) = pa.toInt
        · have u1 := (u (by omega)).1
          have u2 := (u (by omega)).2
          have h7 : K t pa.toInt 10 ≤ 7 := by
            rcases hpa with q | q
            · omega
            · exact q.2
          have h70 := hp10 (by omega)
          rw [← f] at u1 u2 h7 h70
          rw [u1] at hj
          by_cases q : (j : Int) = K t m 10
          · have e2 := (d4 f).2.2
            have g6 : (F (w + 1 + (3 + 4 * m)) 10).toInt = K t (m : Int) 10 := g6
            rw [g6, show (K t (m : Int) 10).toNat = j by omega] at e2
            rw [e2, q, u2]
          · have e2 := (d4 f).2.1 j (by have g6 : (F (w + 1 + (3 + 4 * m)) 10).toInt = K t (m : Int) 10 := g6; omega)
            rw [e2, z m (11 + (j : Int)) (by omega) (by omega) (by omega) (by omega) (fun y => by rw [← f] at y; omega)]
            exact g8 j (by omega)
        · have e10 := z m 10 (by omega) (by omega) (by decide) (by decide) (fun q => f q.1)
          have h8 := (TI10 hI (b := (m : Int)) (by omega) (by omega)).2
          rw [e10] at hj
          rw [(d3 f).2 j, z m (11 + (j : Int)) (by omega) (by omega) (by omega) (by omega) (fun q => f q.1)]
          exact g8 j hj
theorem TJ_PX {t t' : Nat → Int32} {kd p v0 v1 v2 v3 sh : Int} (hJ : TJ t) (hI : TInv t) (hn23 : (t 3).toInt ≤ 23) (hx : PX t t' kd p v0 v1 v2 v3 sh) (hpa : p = -1 ∨ (AL t p ∧ K t p 10 ≤ 7)) (hkd : 0 ≤ kd ∧ kd ≤ 9) : TJ t' := by
  obtain ⟨j1, j2, j3, j4⟩ := hJ
  obtain ⟨x1, x2, x3, ⟨y0, y1, y2, y3, y4, y5, y6, y7, y8, y9, y10⟩, z, u⟩ := hx
  have hn0 := hI.1.1
  obtain ⟨n, hn⟩ : ∃ n, n = (t 3).toInt := ⟨_, rfl⟩
  rw [← hn] at x1 x2 y0 y1 y2 y3 y4 y5 y6 y7 y8 y9 y10 z u hn23 hn0
  have hp10 : 0 ≤ p → 0 ≤ K t p 10 := fun q => (TI10 hI q (by rcases hpa with e | e; omega; exact e.1.2.1)).1
  have hz0 : ∀ b j : Int, 0 ≤ b → ¬ b = n → 0 ≤ j → j ≤ 9 → K t' b j = K t b j := fun b j q1 q2 q3 q4 => z b j q1 q2 q3 (by omega) (fun q => by
    have := hp10 (by omega)
    omega)
  have hA : ∀ b : Int, AL t b → AL t' b ∧ ¬ b = n := fun b hb => by
    have h1 := hI.2.1 b hb.1 hb.2.1 hb.2.2
    have h2 : ¬ b = n := by omega
    exact ⟨⟨hb.1, hb.2.1, by rw [hz0 b 0 hb.1 h2 (by decide) (by decide)]; exact hb.2.2⟩, h2⟩
  have hA2 : ∀ b : Int, AL t' b → ¬ b = n → AL t b := fun b hb h2 => ⟨hb.1, hb.2.1, by rw [← hz0 b 0 hb.1 h2 (by decide) (by decide)]; exact hb.2.2⟩
  have hAn : AL t' n := ⟨hn0, hn23, y0⟩
  refine ⟨fun b hb h0 => ?_, fun b i hb h0 h1 => ?_, fun h0 => ?_, fun b hb => ?_⟩
  · by_cases e : b = n
    · rw [e, y9] at h0 ⊢
      rcases hpa with q | q
      · omega
      · exact (hA p q.1).1
    · rw [hz0 b 9 hb.1 e (by decide) (by decide)] at h0 ⊢
      exact (hA _ (j1 b (hA2 b hb e) h0)).1
  · by_cases e : b = n
    · rw [e, y10] at h1; omega
    · have hb2 := hA2 b hb e
      have h8 := (TI10 hI hb.1 hb.2.1).2
      by_cases f : b = p
      · have u1 := u (by have := hb.1; omega)
        have h7 : K t p 10 ≤ 7 := by
          rcases hpa with q | q
          · have := hb.1; omega
          · exact q.2
        rw [f] at h1 ⊢
        rw [u1.1] at h1
        by_cases g : i = K t p 10
        · rw [g, u1.2]; exact hAn
        · rw [z p (11 + i) (by have := hb.1; omega) (by omega) (by omega) (by omega) (by omega)]
          exact (hA _ (j2 p i (f ▸ hb2) h0 (by omega))).1
      · rw [z b 10 hb.1 e (by decide) (by decide) (fun q => f q.1)] at h1
        rw [z b (11 + i) hb.1 e (by omega) (by omega) (fun q => f q.1)]
        exact (hA _ (j2 b i hb2 h0 h1)).1
  · by_cases e : p < 0
    · rw [x2 e]
      refine ⟨hAn, ?_⟩
      rw [y9]
      rcases hpa with q | q
      · exact q
      · have := q.1.1; omega
    · rw [x3 (by omega)] at h0 ⊢
      have := j3 h0
      have h3 := hA _ this.1
      exact ⟨h3.1, by rw [hz0 _ 9 h0 h3.2 (by decide) (by decide)]; exact this.2⟩
  · by_cases e : b = n
    · rw [e, y1]; exact hkd
    · rw [hz0 b 1 hb.1 e (by decide) (by decide)]; exact j4 b (hA2 b hb e)
