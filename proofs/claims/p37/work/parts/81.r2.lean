/-! ===== comes ===== -/
def PAc (F : mF) (w : Nat) (x : Int32) : Prop := x.toInt = -1 ∨ (0 ≤ x.toInt ∧ x.toInt ≤ 23 ∧ tB (F w 4) x.toInt.toNat)
def RMc (F : mF) (w : Nat) (x : Int32) : Prop := (¬ (0 ≤ x.toInt ∧ x.toInt ≤ 23 ∧ tB (F w 4) x.toInt.toNat) ∧ ¬ (0 ≤ (F w 9).toInt ∧ (F w 9).toInt ≤ 23 ∧ tB (F w 4) (F w 9).toInt.toNat)) ∨ ((0 ≤ x.toInt ∧ x.toInt ≤ 23 ∧ tB (F w 4) x.toInt.toNat) ∧ (F (w + 1 + (3 + 4 * x.toNatClampNeg)) 10).toInt < nKid (F (w + 1 + (3 + 4 * x.toNatClampNeg)) 4).toInt)
def okAl (k a b c d : Int) : Prop := (0 ≤ k ∧ k ≤ 9 ∧ (0 < nNum k → (0 ≤ 0 ∧ 0 < nNum k ∧ nLow k ≤ a ∧ ((0 % 2 = 0 ∧ a ≤ nHA k) ∨ (0 % 2 = 1 ∧ a ≤ nHB k)))) ∧ (1 < nNum k → (0 ≤ 1 ∧ 1 < nNum k ∧ nLow k ≤ b ∧ ((1 % 2 = 0 ∧ b ≤ nHA k) ∨ (1 % 2 = 1 ∧ b ≤ nHB k)))) ∧ (2 < nNum k → (0 ≤ 2 ∧ 2 < nNum k ∧ nLow k ≤ c ∧ ((2 % 2 = 0 ∧ c ≤ nHA k) ∨ (2 % 2 = 1 ∧ c ≤ nHB k)))) ∧ (3 < nNum k → (0 ≤ 3 ∧ 3 < nNum k ∧ nLow k ≤ d ∧ ((3 % 2 = 0 ∧ d ≤ nHA k) ∨ (3 % 2 = 1 ∧ d ≤ nHB k)))) ∧ (k = 3 → a ≤ b ∧ c ≤ d))
theorem okAl_ok {k a b c d : Int} : okAl k a b c d ↔ okA k a b c d := by
  unfold okAl okA okN
  simp
/-- what the class's comes() does -/
def CMc (F F9 : mF) (w : Nat) (x1 x2 x3 x4 x5 x6 r : Int32) : Prop := (r = -1 ∧ F9 = F ∧ ¬ PAc F w x2) ∨ (r = -2 ∧ F9 = F ∧ PAc F w x2 ∧ ¬ okAl x1.toInt x3.toInt x4.toInt x5.toInt x6.toInt) ∨ (r = -3 ∧ F9 = F ∧ PAc F w x2 ∧ okAl x1.toInt x3.toInt x4.toInt x5.toInt x6.toInt ∧ ¬ RMc F w x2) ∨ (r = -4 ∧ F9 = F ∧ PAc F w x2 ∧ okAl x1.toInt x3.toInt x4.toInt x5.toInt x6.toInt ∧ RMc F w x2 ∧ 24 ≤ (F w 8).toInt) ∨ (PAc F w x2 ∧ okAl x1.toInt x3.toInt x4.toInt x5.toInt x6.toInt ∧ RMc F w x2 ∧ (F w 8).toInt ≤ 23 ∧ r = F w 8 ∧ ∃ v0 v1 v2 v3 : Int32, F9 = brF F w x1 x2 v0 v1 v2 v3 0 ∧ (v0 = if 0 < nNum x1.toInt then x3 else 0) ∧ (v1 = if 1 < nNum x1.toInt then x4 else 0) ∧ (v2 = if 2 < nNum x1.toInt then x5 else 0) ∧ (v3 = if 3 < nNum x1.toInt then x6 else 0))
theorem RT.pa {F : mF} {w : Nat} {t : Nat → Int32} (h : RT F w t) (x : Int32) : PAc F w x ↔ PAl t x.toInt := by
  unfold PAc PAl
  rw [h.al x]
  rfl
theorem RT.rm {F : mF} {w : Nat} {t : Nat → Int32} (h : RT F w t) (hI : TInv t) (hJ : TJ t) {x : Int32} (hp : PAl t x.toInt) : RMc F w x ↔ RMe t x.toInt := by
  unfold RMc
  rw [h.al x, h.al (F w 9), h.2.1]
  have htop : ¬ AL t (t 0).toInt ↔ (t 0).toInt < 0 := by
    constructor
    · intro q
      apply Classical.byContradiction
      intro q2
      exact q (hJ.2.2.1 (by omega)).1
    · intro q q2
      have := q2.1; omega
  rw [htop]
  unfold RMe
  rcases hp with e | e
  · have hn : ¬ AL t x.toInt := fun q => by have := q.1; omega
    constructor
    · rintro (q | q)
      · exact Or.inl ⟨by omega, q.2⟩
      · exact absurd q.1 hn
    · rintro (q | q)
      · exact Or.inl ⟨hn, q.2⟩
      · omega
  · have ha : AL t x.toInt := e
    have hb := h.bx ha
    have h4 := hJ.2.2.2 _ ha
    have h10 := TI10 hI ha.1 ha.2.1
    rw [hb.1, hb.2.2.2.2.2.1]
    have hk : K t x.toInt 10 < nKid (K t x.toInt 1) ↔ (2 ≤ K t x.toInt 1 ∧ K t x.toInt 1 < 7 ∧ K t x.toInt 10 < 1) ∨ (7 ≤ K t x.toInt 1 ∧ K t x.toInt 10 < 8) := by
      unfold nKid
      split
      · omega
      · split <;> omega
    rw [hk]
    constructor
    · rintro (q | q)
      · exact absurd ha q.1
      · exact Or.inr ⟨ha.1, q.2⟩
    · rintro (q | q)
      · have := ha.1; omega
      · exact Or.inr ⟨ha, q.2⟩
theorem RM_7 {t : Nat → Int32} {b : Int} (h : RMe t b) (h0 : 0 ≤ b) : K t b 10 ≤ 7 := by
  unfold RMe at h
  rcases h with q | q
  · omega
  · rcases q.2 with p | p <;> omega
/-- the class's way to bring a BOX, held against the reference's -/
theorem RT_br {F F9 : mF} {w : Nat} {t t' : Nat → Int32} {kd pa v0 v1 v2 v3 sh : Int32} {u0 u1 u2 u3 : Int} (h : RT F w t) (hI : TInv t) (hJ : TJ t) (h23 : (t 3).toInt ≤ 23) (hp : PAl t pa.toInt) (hr : RMe t pa.toInt) (hkd : 0 ≤ kd.toInt ∧ kd.toInt ≤ 9) (e : F9 = brF F w kd pa v0 v1 v2 v3 sh) (hx : PX t t' kd.toInt pa.toInt u0 u1 u2 u3 sh.toInt) (e0 : u0 = v0.toInt) (e1 : u1 = v1.toInt) (e2 : u2 = v2.toInt) (e3 : u3 = v3.toInt) : RT F9 w t' ∧ TJ t' := by
  subst e0; subst e1; subst e2; subst e3
  have hn0 := hI.1.1
  have h8 := h.1
  have hpa : pa.toInt = -1 ∨ (AL t pa.toInt ∧ K t pa.toInt 10 ≤ 7) := by
    rcases hp with q | q
    · exact Or.inl q
    · exact Or.inr ⟨q, RM_7 hr q.1⟩
  have hb := brF_spec e (by omega) (by omega) (by
    rcases hpa with q | ⟨q, q7⟩
    · exact Or.inl q
    · have hlt := hI.2.1 _ q.1 q.2.1 q.2.2
      have h10 : (F (w + 1 + (3 + 4 * pa.toInt.toNat)) 10).toInt = K t pa.toInt 10 := (h.box q).2.2.2.2.2.1
      have := TI10 hI q.1 q.2.1
      exact Or.inr ⟨q.1, by omega, by omega, by omega⟩)
  exact ⟨RT_PX h hI (n := (F w 8).toInt.toNat) (by omega) (by omega) hb hx hpa, TJ_PX hJ hI h23 hx hpa hkd⟩
theorem RL_comes {F F9 : mF} {w : Nat} {t t' : Nat → Int32} {x1 x2 x3 x4 x5 x6 r r' : Int32} (h : RT F w t) (hI : TInv t) (hJ : TJ t) (hc : CMc F F9 w x1 x2 x3 x4 x5 x6 r) (hr : CMp t t' x1.toInt x2.toInt x3.toInt x4.toInt x5.toInt x6.toInt r') : r = r' ∧ RT F9 w t' ∧ TJ t' := by
  unfold CMc at hc
  unfold CMp at hr
  have eO : okA x1.toInt x3.toInt x4.toInt x5.toInt x6.toInt ↔ (0 ≤ x1.toInt ∧ x1.toInt ≤ 9 ∧ okG x1.toInt x3.toInt x4.toInt x5.toInt x6.toInt) := by
    constructor
    · intro q
      exact ⟨q.1, q.2.1, (okG_ok ⟨q.1, q.2.1⟩).mpr q⟩
    · rintro ⟨q1, q2, q3⟩
      exact (okG_ok ⟨q1, q2⟩).mp q3
  rw [h.pa x2, okAl_ok, eO] at hc
  have h1 := h.1
  by_cases p : PAl t x2.toInt
  · rw [h.rm hI hJ p] at hc
    by_cases o : 0 ≤ x1.toInt ∧ x1.toInt ≤ 9 ∧ okG x1.toInt x3.toInt x4.toInt x5.toInt x6.toInt
    · by_cases q : RMe t x2.toInt
      · have hc := (hc.resolve_left (fun z => z.2.2 p)).resolve_left (fun z => z.2.2.2 o)
        have hc := hc.resolve_left (fun z => z.2.2.2.2 q)
        have hr := (hr.resolve_left (fun z => z.2.2 p)).resolve_left (fun z => z.2.2.2 o)
        have hr := hr.resolve_left (fun z => z.2.2.2.2 q)
        rcases hc with c | c
        · rcases hr with d | d
          · rw [c.2.1, d.2.1]
            exact ⟨c.1.trans d.1.symm, h, hJ⟩
          · exfalso
            have := c.2.2.2.2.2
            have := d.2.2.2.1
            omega
        · rcases hr with d | d
          · exfalso
            have := c.2.2.2.1
            have := d.2.2.2.2.2
            omega
          · obtain ⟨-, -, -, c4, c5, v0, v1, v2, v3, c6, g0, g1, g2, g3⟩ := c
            obtain ⟨-, -, -, d4, d5, u0, u1, u2, u3, hm, hx⟩ := d
            obtain ⟨m0, m1, m2, m3, m4, m5, m6, m7⟩ := hm
            refine ⟨Int32.toInt_inj.mp (by rw [c5, d5]; exact h1), RT_br (sh := 0) h hI hJ (by omega) p q ⟨o.1, o.2.1⟩ c6 hx ?_ ?_ ?_ ?_⟩
            · rw [g0]; by_cases z : 0 < nNum x1.toInt
              · rw [if_pos z]; exact m0 z
              · rw [if_neg z]; exact (m1 z).trans kI_0.symm
            · rw [g1]; by_cases z : 1 < nNum x1.toInt
              · rw [if_pos z]; exact m2 z
              · rw [if_neg z]; exact (m3 z).trans kI_0.symm
            · rw [g2]; by_cases z : 2 < nNum x1.toInt
              · rw [if_pos z]; exact m4 z
              · rw [if_neg z]; exact (m5 z).trans kI_0.symm
            · rw [g3]; by_cases z : 3 < nNum x1.toInt
              · rw [if_pos z]; exact m6 z
              · rw [if_neg z]; exact (m7 z).trans kI_0.symm
      · have hc := (hc.resolve_left (fun z => z.2.2 p)).resolve_left (fun z => z.2.2.2 o)
        have hr := (hr.resolve_left (fun z => z.2.2 p)).resolve_left (fun z => z.2.2.2 o)
        have c := hc.resolve_right (fun z => by rcases z with z | z; exact q z.2.2.2.2.1; exact q z.2.2.1)
        have d := hr.resolve_right (fun z => by rcases z with z | z; exact q z.2.2.2.2.1; exact q z.2.2.1)
        rw [c.2.1, d.2.1]
        exact ⟨c.1.trans d.1.symm, h, hJ⟩
    · have hc := hc.resolve_left (fun z => z.2.2 p)
      have hr := hr.resolve_left (fun z => z.2.2 p)
      have c := hc.resolve_right (fun z => by rcases z with z | z | z; exact o z.2.2.2.1; exact o z.2.2.2.1; exact o z.2.1)
      have d := hr.resolve_right (fun z => by rcases z with z | z | z; exact o z.2.2.2.1; exact o z.2.2.2.1; exact o z.2.1)
      rw [c.2.1, d.2.1]
      exact ⟨c.1.trans d.1.symm, h, hJ⟩
  · have c := hc.resolve_right (fun z => by rcases z with z | z | z | z; exact p z.2.2.1; exact p z.2.2.1; exact p z.2.2.1; exact p z.1)
    have d := hr.resolve_right (fun z => by rcases z with z | z | z | z; exact p z.2.2.1; exact p z.2.2.1; exact p z.2.2.1; exact p z.1)
    rw [c.2.1, d.2.1]
    exact ⟨c.1.trans d.1.symm, h, hJ⟩
/-! ===== tells ===== -/
/-- a cell of one BOX changes -/
theorem RT_cell {F F' : mF} {w : Nat} {t t' : Nat → Int32} {x : Int} (h : RT F w t) (hI : TInv t) (hx : 0 ≤ x ∧ x ≤ 23) (hF : ∀ c k : Nat, ¬ (c = bA w x.toNat ∨ c = bA w x.toNat + 1) → F' c k = F c k) (hF0 : F' (bA w x.toNat) 0 = F (bA w x.toNat) 0) (e0 : t' 0 = t 0) (e3 : t' 3 = t 3) (hK : ∀ b j : Int, 0 ≤ b → 0 ≤ j → j ≤ 18 → ¬ (b = x ∧ 2 ≤ j ∧ j ≤ 8) → K t' b j = K t b j) (hb : AL t x → BXR F' (bA w x.toNat) t' x) : RT F' w t' := by
  obtain ⟨h1, h2, h3, h4, h5⟩ := h
  refine ⟨by rw [hF w 8 (by unfold bA; omega), e3]; exact h1, by rw [hF w 9 (by unfold bA; omega), e0]; exact h2, fun n => by rw [hF w 4 (by unfold bA; omega), hK n 0 (by omega) (by decide) (by decide) (by omega)]; exact h3 n, fun n hn => ?_, fun n hn ha => ?_⟩
  · by_cases e : n = x.toNat
    · rw [e, hF0]; rw [← e]; exact h4 n hn
    · rw [hF _ 0 (by unfold bA; omega)]; exact h4 n hn
  · rw [hK n 0 (by omega) (by decide) (by decide) (by omega)] at ha
    by_cases e : n = x.toNat
    · have hn2 : (n : Int) = x := by omega
      rw [hn2] at ha ⊢
      rw [e]
      exact hb ⟨hx.1, hx.2, ha⟩
    · obtain ⟨g1, g2, g3, g4, g5, g6, g7, g8⟩ := (h5 n hn ha).K (t' := t') (TI10 hI (by omega) (by omega)).2 (fun j q1 q2 => hK n j (by omega) q1 q2 (by omega))
      refine ⟨by rw [hF _ 4 (by unfold bA; omega)]; exact g1, by rw [hF _ 5 (by unfold bA; omega)]; exact g2, by rw [hF _ 7 (by unfold bA; omega)]; exact g3, by rw [hF _ 8 (by unfold bA; omega)]; exact g4, by rw [hF _ 9 (by unfold bA; omega)]; exact g5, by rw [hF _ 10 (by unfold bA; omega)]; exact g6, fun j hj => by rw [hF _ j (by unfold bA; omega)]; exact g7 j hj, fun j hj => by rw [hF _ j (by unfold bA; omega)]; exact g8 j hj⟩
theorem TJ_cell {t t' : Nat → Int32} {x : Int} (hJ : TJ t) (hI : TInv t) (e0 : t' 0 = t 0) (hK : ∀ b j : Int, 0 ≤ b → 0 ≤ j → j ≤ 18 → ¬ (b = x ∧ 2 ≤ j ∧ j ≤ 8) → K t' b j = K t b j) : TJ t' := by
  obtain ⟨j1, j2, j3, j4⟩ := hJ
  have gA : ∀ b : Int, AL t' b ↔ AL t b := fun b => by
    constructor
    · rintro ⟨a1, a2, a3⟩; rw [hK b 0 a1 (by decide) (by decide) (by omega)] at a3; exact ⟨a1, a2, a3⟩
    · rintro ⟨a1, a2, a3⟩; exact ⟨a1, a2, by rw [hK b 0 a1 (by decide) (by decide) (by omega)]; exact a3⟩
  refine ⟨fun b hb h0 => ?_, fun b i hb h0 h1 => ?_, fun h0 => ?_, fun b hb => ?_⟩
  · have hb := (gA b).mp hb
    rw [hK b 9 hb.1 (by decide) (by decide) (by omega)] at h0 ⊢
    exact (gA _).mpr (j1 b hb h0)
  · have hb := (gA b).mp hb
    have := (TI10 hI hb.1 hb.2.1).2
    rw [hK b 10 hb.1 (by decide) (by decide) (by omega)] at h1
    rw [hK b (11 + i) hb.1 (by omega) (by omega) (by omega)]
    exact (gA _).mpr (j2 b i hb h0 h1)
  · rw [e0] at h0 ⊢
    have := j3 h0
    exact ⟨(gA _).mpr this.1, by rw [hK _ 9 this.1.1 (by decide) (by decide) (by omega)]; exact this.2⟩
  · have hb := (gA b).mp hb
    rw [hK b 1 hb.1 (by decide) (by decide) (by omega)]
    exact j4 b hb
def HTc (F : mF) (w : Nat) (x1 x2 : Int32) : Prop := (0 ≤ x1.toInt ∧ x1.toInt ≤ 23 ∧ tB (F w 4) x1.toInt.toNat) ∧ (0 ≤ x2.toInt ∧ (x2.toInt < nNum (F (w + 1 + (3 + 4 * x1.toNatClampNeg)) 4).toInt ∨ (4 ≤ x2.toInt ∧ x2.toInt ≤ 6)))
def TLc (F F9 : mF) (w : Nat) (x1 x2 x3 r : Int32) : Prop := (r = -1 ∧ F9 = F ∧ ¬ HTc F w x1 x2) ∨ (r = -2 ∧ F9 = F ∧ HTc F w x1 x2 ∧ ¬ mbT F (w + 1 + (3 + 4 * x1.toNatClampNeg)) x2.toInt x3.toInt) ∨ (HTc F w x1 x2 ∧ mbT F (w + 1 + (3 + 4 * x1.toNatClampNeg)) x2.toInt x3.toInt ∧ (x2.toInt = 4 → r = F (w + 1 + (3 + 4 * x1.toNatClampNeg)) 7 ∧ F9 = up2 F (w + 1 + (3 + 4 * x1.toNatClampNeg)) 7 x3) ∧ (x2.toInt = 5 → r = F (w + 1 + (3 + 4 * x1.toNatClampNeg)) 8 ∧ F9 = up2 F (w + 1 + (3 + 4 * x1.toNatClampNeg)) 8 x3) ∧ (x2.toInt = 6 → r = F (w + 1 + (3 + 4 * x1.toNatClampNeg)) 9 ∧ F9 = up2 F (w + 1 + (3 + 4 * x1.toNatClampNeg)) 9 x3) ∧ (x2.toInt < 4 → r = F (w + 1 + (3 + 4 * x1.toNatClampNeg) + 1) x2.toNatClampNeg ∧ F9 = up2 F (w + 1 + (3 + 4 * x1.toNatClampNeg) + 1) x2.toNatClampNeg x3))
theorem RT.ht {F : mF} {w : Nat} {t : Nat → Int32} (h : RT F w t) {x1 x2 : Int32} : HTc F w x1 x2 ↔ HTd t x1.toInt x2.toInt := by
  unfold HTc HTd
  rw [h.al x1]
  constructor
  · rintro ⟨q1, q2, q3⟩
    rw [(h.bx q1).1] at q3
    have := nNum_4 (K t x1.toInt 1)
    exact ⟨q1.1, q1.2.1, q1.2.2, q2, by omega, by omega⟩
  · rintro ⟨q1, q2, q3, q4, q5, q6⟩
    have ha : AL t x1.toInt := ⟨q1, q2, q3⟩
    refine ⟨ha, q4, ?_⟩
    rw [(h.bx ha).1]
    omega
theorem RT.mt {F : mF} {w : Nat} {t : Nat → Int32} (h : RT F w t) (hJ : TJ t) {x1 x2 x3 : Int32} (ht : HTd t x1.toInt x2.toInt) : mbT F (w + 1 + (3 + 4 * x1.toNatClampNeg)) x2.toInt x3.toInt ↔ MTd t x1.toInt x2.toInt x3.toInt := by
  obtain ⟨a1, a2, a3, q4, q5, q6⟩ := ht
  have ha : AL t x1.toInt := ⟨a1, a2, a3⟩
  have h4 := hJ.2.2.2 _ ha
  obtain ⟨b1, b2, b3, b4, b5, b6, b7, b8⟩ := h.bx ha
  unfold mbT MTd
  rw [b1, b4, b5]
  have hlast : (¬ (x2.toInt = 4 ∨ x2.toInt = 5 ∨ x2.toInt = 6) → (0 ≤ x2.toInt ∧ x2.toInt < nNum (K t x1.toInt 1) ∧ nLow (K t x1.toInt 1) ≤ x3.toInt ∧ ((x2.toInt % 2 = 0 ∧ x3.toInt ≤ nHA (K t x1.toInt 1)) ∨ (x2.toInt % 2 = 1 ∧ x3.toInt ≤ nHB (K t x1.toInt 1)))) ∧ (K t x1.toInt 1 = 3 → (x2.toInt % 2 = 0 → x3.toInt ≤ (F (w + 1 + (3 + 4 * x1.toNatClampNeg) + 1) (x2.toInt.toNat + 1)).toInt) ∧ (x2.toInt % 2 = 1 → (F (w + 1 + (3 + 4 * x1.toNatClampNeg) + 1) (x2.toInt.toNat - 1)).toInt ≤ x3.toInt))) ↔ (x2.toInt < 4 → MBe (K t x1.toInt 1) x2.toInt x3.toInt ∧ (K t x1.toInt 1 = 3 → (x2.toInt % 2 = 0 → x3.toInt ≤ K t x1.toInt (2 + x2.toInt + 1)) ∧ (x2.toInt % 2 = 1 → K t x1.toInt (2 + x2.toInt - 1) ≤ x3.toInt))) := by
    by_cases z : x2.toInt < 4
    · have hok := MBe_ok (k := K t x1.toInt 1) (w := x2.toInt) (v := x3.toInt) h4 ⟨q4, q6 z⟩
      unfold okN at hok
      have hn : ¬ (x2.toInt = 4 ∨ x2.toInt = 5 ∨ x2.toInt = 6) := by omega
      have e1 : x2.toInt % 2 = 0 → (F (w + 1 + (3 + 4 * x1.toNatClampNeg) + 1) (x2.toInt.toNat + 1)).toInt = K t x1.toInt (2 + x2.toInt + 1) := fun y => by
        rw [b7 (x2.toInt.toNat + 1) (by omega), show (2 : Int) + ((x2.toInt.toNat + 1 : Nat) : Int) = 2 + x2.toInt + 1 by omega]
      have e2 : x2.toInt % 2 = 1 → (F (w + 1 + (3 + 4 * x1.toNatClampNeg) + 1) (x2.toInt.toNat - 1)).toInt = K t x1.toInt (2 + x2.toInt - 1) := fun y => by
        rw [b7 (x2.toInt.toNat - 1) (by omega), show (2 : Int) + ((x2.toInt.toNat - 1 : Nat) : Int) = 2 + x2.toInt - 1 by omega]
      constructor
      · intro q _
        obtain ⟨p1, p2⟩ := q hn
        exact ⟨hok.mpr p1, fun y => ⟨fun y2 => by rw [← e1 y2]; exact (p2 y).1 y2, fun y2 => by rw [← e2 y2]; exact (p2 y).2 y2⟩⟩
      · intro q _
        obtain ⟨p1, p2⟩ := q z
        exact ⟨hok.mp p1, fun y => ⟨fun y2 => by rw [e1 y2]; exact (p2 y).1 y2, fun y2 => by rw [e2 y2]; exact (p2 y).2 y2⟩⟩
    · constructor
      · intro _ y; exact absurd y z
      · intro _ y; exact absurd (by omega) y
  rw [hlast]
theorem up_K {t : Nat → Int32} {x k b j : Int} {v : Int32} (hx : 0 ≤ x) (hk : 0 ≤ k ∧ k ≤ 18) (hb : 0 ≤ b) (hj : 0 ≤ j ∧ j ≤ 18) (h : ¬ (b = x ∧ j = k)) : K (upN t (ix x k) v) b j = K t b j := by
  show (upN t (ix x k) v (ix b j)).toInt = _
  rw [upN_ne (fun e => h (ix_inj hb hj.1 (by omega) hx hk.1 (by omega) e))]
theorem up_Ks {t : Nat → Int32} {x k : Int} {v : Int32} : K (upN t (ix x k) v) x k = v.toInt := by
  show (upN t (ix x k) v (ix x k)).toInt = _
  rw [upN_at]
theorem RL_tells {F F9 : mF} {w : Nat} {t t' : Nat → Int32} {x1 x2 x3 r r' : Int32} (h : RT F w t) (hI : TInv t) (hJ : TJ t) (hc : TLc F F9 w x1 x2 x3 r) (hr : TLp t t' x1.toInt x2.toInt x3 r') : r = r' ∧ RT F9 w t' ∧ TJ t' := by
  unfold TLc at hc
  unfold TLp at hr
  rw [h.ht] at hc
  by_cases p : HTd t x1.toInt x2.toInt
  · rw [h.mt hJ p] at hc
    by_cases q : MTd t x1.toInt x2.toInt x3.toInt
    · have hc := (hc.resolve_left (fun z => z.2.2 p)).resolve_left (fun z => z.2.2.2 q)
      have hr := (hr.resolve_left (fun z => z.2.2 p)).resolve_left (fun z => z.2.2.2 q)
      obtain ⟨-, -, c4, c5, c6, c0⟩ := hc
      obtain ⟨-, -, d1, d2⟩ := hr
      obtain ⟨a1, a2, a3, q4, q5, q6⟩ := p
      have ha : AL t x1.toInt := ⟨a1, a2, a3⟩
      obtain ⟨b1, b2, b3, b4, b5, b6, b7, b8⟩ := h.bx ha
      obtain ⟨tu, etu⟩ : ∃ tu, tu = upN t (ix x1.toInt (2 + x2.toInt)) x3 := ⟨_, rfl⟩
      rw [← etu] at d2
      have hix := ix_mod (b := x1.toInt) (k := 2 + x2.toInt) a1 (by omega) (by omega)
      have e0 : tu 0 = t 0 := by rw [etu]; exact upN_ne (by omega)
      have e3 : tu 3 = t 3 := by rw [etu]; exact upN_ne (by omega)
      have hK : ∀ b j : Int, 0 ≤ b → 0 ≤ j → j ≤ 18 → ¬ (b = x1.toInt ∧ j = 2 + x2.toInt) → K tu b j = K t b j := fun b j y1 y2 y3 y4 => by rw [etu]; exact up_K a1 (by omega) y1 ⟨y2, y3⟩ y4
      have hKs : K tu x1.toInt (2 + x2.toInt) = x3.toInt := by rw [etu]; exact up_Ks
      have h8 : ∀ b : Int, 0 ≤ b → b ≤ 23 → K tu b 10 ≤ 8 := fun b y1 y2 => by rw [hK b 10 y1 (by decide) (by decide) (by omega)]; exact (TI10 hI y1 y2).2
      have hK' : ∀ b j : Int, 0 ≤ b → 0 ≤ j → j ≤ 18 → ¬ (b = x1.toInt ∧ 2 ≤ j ∧ j ≤ 8) → K tu b j = K t b j := fun b j y1 y2 y3 y4 => hK b j y1 y2 y3 (by omega)
      have hx := x1.toNatClampNeg
      have hJ2 := TJ_AG (TJ_cell hJ hI e0 hK') h8 d2
      have hk := fun j y1 y2 y3 => hK x1.toInt j a1 y1 y2 y3
      suffices hs : r.toInt = K t x1.toInt (2 + x2.toInt) ∧ RT F9 w tu from ⟨Int32.toInt_inj.mp (hs.1.trans d1.symm), RT_AG hs.2 h8 d2, hJ2⟩
      by_cases z4 : x2.toInt = 4
      · obtain ⟨f1, f2⟩ := c4 z4
        rw [z4] at hk hKs ⊢
        have f2 : F9 = up2 F (bA w x1.toInt.toNat) 7 x3 := f2
        refine ⟨by rw [f1]; exact b3, RT_cell h hI ⟨a1, a2⟩ (fun c k y => by rw [f2]; exact up2_ne (by omega)) (by rw [f2]; exact up2_ne (by omega)) e0 e3 hK' (fun _ => ⟨?_, ?_, ?_, ?_, ?_, ?_, fun j hj => ?_, fun j hj => ?_⟩)⟩
        · rw [f2, up2_ne (by omega), hk 1 (by decide) (by decide) (by omega)]; exact b1
        · rw [f2, up2_ne (by omega), hk 9 (by decide) (by decide) (by omega)]; exact b2
        · rw [f2, up2_at]; exact hKs.symm
        · rw [f2, up2_ne (by omega), hk 7 (by decide) (by decide) (by omega)]; exact b4
        · rw [f2, up2_ne (by omega), hk 8 (by decide) (by decide) (by omega)]; exact b5
        · rw [f2, up2_ne (by omega), hk 10 (by decide) (by decide) (by omega)]; exact b6
        · rw [f2, up2_ne (by omega), hk _ (by omega) (by omega) (by omega)]; exact b7 j hj
        · have := h8 x1.toInt a1 a2
          rw [f2, up2_ne (by omega), hk _ (by omega) (by omega) (by omega)]
          rw [hk 10 (by decide) (by decide) (by omega)] at hj
          exact b8 j hj
      · by_cases z5 : x2.toInt = 5
        · obtain ⟨f1, f2⟩ := c5 z5
          rw [z5] at hk hKs ⊢
          have f2 : F9 = up2 F (bA w x1.toInt.toNat) 8 x3 := f2
          refine ⟨by rw [f1]; exact b4, RT_cell h hI ⟨a1, a2⟩ (fun c k y => by rw [f2]; exact up2_ne (by omega)) (by rw [f2]; exact up2_ne (by omega)) e0 e3 hK' (fun _ => ⟨?_, ?_, ?_, ?_, ?_, ?_, fun j hj => ?_, fun j hj => ?_⟩)⟩
          · rw [f2, up2_ne (by omega), hk 1 (by decide) (by decide) (by omega)]; exact b1
          · rw [f2, up2_ne (by omega), hk 9 (by decide) (by decide) (by omega)]; exact b2
          · rw [f2, up2_ne (by omega), hk 6 (by decide) (by decide) (by omega)]; exact b3
          · rw [f2, up2_at]; exact hKs.symm
          · rw [f2, up2_ne (by omega), hk 8 (by decide) (by decide) (by omega)]; exact b5
          · rw [f2, up2_ne (by omega), hk 10 (by decide) (by decide) (by omega)]; exact b6
          · rw [f2, up2_ne (by omega), hk _ (by omega) (by omega) (by omega)]; exact b7 j hj
          · have := h8 x1.toInt a1 a2
            rw [f2, up2_ne (by omega), hk _ (by omega) (by omega) (by omega)]
            rw [hk 10 (by decide) (by decide) (by omega)] at hj
            exact b8 j hj
        · by_cases z6 : x2.toInt = 6
          · obtain ⟨f1, f2⟩ := c6 z6
            rw [z6] at hk hKs ⊢
            have f2 : F9 = up2 F (bA w x1.toInt.toNat) 9 x3 := f2
            refine ⟨by rw [f1]; exact b5, RT_cell h hI ⟨a1, a2⟩ (fun c k y => by rw [f2]; exact up2_ne (by omega)) (by rw [f2]; exact up2_ne (by omega)) e0 e3 hK' (fun _ => ⟨?_, ?_, ?_, ?_, ?_, ?_, fun j hj => ?_, fun j hj => ?_⟩)⟩
            · rw [f2, up2_ne (by omega), hk 1 (by decide) (by decide) (by omega)]; exact b1
            · rw [f2, up2_ne (by omega), hk 9 (by decide) (by decide) (by omega)]; exact b2
            · rw [f2, up2_ne (by omega), hk 6 (by decide) (by decide) (by omega)]; exact b3
            · rw [f2, up2_ne (by omega), hk 7 (by decide) (by decide) (by omega)]; exact b4
            · rw [f2, up2_at]; exact hKs.symm
            · rw [f2, up2_ne (by omega), hk 10 (by decide) (by decide) (by omega)]; exact b6
            · rw [f2, up2_ne (by omega), hk _ (by omega) (by omega) (by omega)]; exact b7 j hj
            · have := h8 x1.toInt a1 a2
              rw [f2, up2_ne (by omega), hk _ (by omega) (by omega) (by omega)]
              rw [hk 10 (by decide) (by decide) (by omega)] at hj
              exact b8 j hj
          · obtain ⟨f1, f2⟩ := c0 (by omega)
            have f2 : F9 = up2 F (bA w x1.toInt.toNat + 1) x2.toInt.toNat x3 := f2
            have ex : ((x2.toInt.toNat : Nat) : Int) = x2.toInt := by omega
            have b72 := b7 x2.toInt.toNat (by omega)
            rw [ex] at b72
            refine ⟨by rw [f1]; exact b72, RT_cell h hI ⟨a1, a2⟩ (fun c k y => by rw [f2]; exact up2_ne (by omega)) (by rw [f2]; exact up2_ne (by omega)) e0 e3 hK' (fun _ => ⟨?_, ?_, ?_, ?_, ?_, ?_, fun j hj => ?_, fun j hj => ?_⟩)⟩
            · rw [f2, up2_ne (by omega), hk 1 (by decide) (by decide) (by omega)]; exact b1
            · rw [f2, up2_ne (by omega), hk 9 (by decide) (by decide) (by omega)]; exact b2
            · rw [f2, up2_ne (by omega), hk 6 (by decide) (by decide) (by omega)]; exact b3
            · rw [f2, up2_ne (by omega), hk 7 (by decide) (by decide) (by omega)]; exact b4
            · rw [f2, up2_ne (by omega), hk 8 (by decide) (by decide) (by omega)]; exact b5
            · rw [f2, up2_ne (by omega), hk 10 (by decide) (by decide) (by omega)]; exact b6
            · by_cases y : j = x2.toInt.toNat
              · rw [y, ex, f2, up2_at]; exact hKs.symm
              · rw [f2, up2_ne (by omega), hk _ (by omega) (by omega) (by omega)]; exact b7 j hj
            · have := h8 x1.toInt a1 a2
              rw [f2, up2_ne (by omega), hk _ (by omega) (by omega) (by omega)]
              rw [hk 10 (by decide) (by decide) (by omega)] at hj
              exact b8 j hj
    · have hc := hc.resolve_left (fun z => z.2.2 p)
      have hr := hr.resolve_left (fun z => z.2.2 p)
      have c := hc.resolve_right (fun z => q z.2.1)
      have d := hr.resolve_right (fun z => q z.2.1)
      rw [c.2.1, d.2.1]
      exact ⟨c.1.trans d.1.symm, h, hJ⟩
  · have c := hc.resolve_right (fun z => by rcases z with z | z; exact p z.2.2.1; exact p z.1)
    have d := hr.resolve_right (fun z => by rcases z with z | z; exact p z.2.2.1; exact p z.1)
    rw [c.2.1, d.2.1]
    exact ⟨c.1.trans d.1.symm, h, hJ⟩
