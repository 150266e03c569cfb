/-! ===== moves ===== -/
theorem adF_o {F : mF} {b c k : Nat} {kid pl : Int32} (h : ¬ (c = b ∧ k = 10)) (h2 : ¬ c = b + 2) : adF F b kid pl c k = F c k := by
  unfold adF
  rw [up2_ne h, up2_ne (by omega), upR_ne (by omega)]
theorem adF_10 {F : mF} {b : Nat} {kid pl : Int32} : adF F b kid pl b 10 = F b 10 + 1 := by
  unfold adF
  rw [up2_at]
theorem adF_k {F : mF} {b k : Nat} {kid pl : Int32} (h0 : 0 ≤ pl.toInt) (h1 : pl.toInt ≤ (F b 10).toInt) (h8 : (F b 10).toInt ≤ 8) (hk : (k : Int) ≤ (F b 10).toInt) : adF F b kid pl (b + 2) k = if (k : Int) < pl.toInt then F (b + 2) k else if (k : Int) = pl.toInt then kid else F (b + 2) (k - 1) := by
  have t1 := tn_sub (z := F b 10 - pl) rfl rfl rfl (by omega) (by omega)
  have t3 := tn_add (z := pl + 1) rfl rfl kI_1 (by omega) (by omega)
  have e1 : pl.toNatClampNeg = pl.toInt.toNat := rfl
  have e2 : (F b 10 - pl).toNatClampNeg = (F b 10 - pl).toInt.toNat := rfl
  have e3 : (pl + 1).toNatClampNeg = (pl + 1).toInt.toNat := rfl
  unfold adF
  rw [up2_ne (by omega)]
  by_cases z : (k : Int) < pl.toInt
  · rw [if_pos z, up2_ne (by rw [e1]; omega), upR_ne (by rw [e3]; omega)]
  · rw [if_neg z]
    by_cases y : (k : Int) = pl.toInt
    · rw [if_pos y, show k = pl.toNatClampNeg by rw [e1]; omega, up2_at]
    · rw [if_neg y, up2_ne (by rw [e1]; omega), upR_in ⟨rfl, by rw [e3]; omega, by rw [e3, e2]; omega⟩]
      congr 1
      rw [e1, e3]; omega
def MVc (F F9 : mF) (w : Nat) (x1 x2 r : Int32) : Prop := (r = -1 ∧ F9 = F ∧ ¬ mvH F w x1) ∨ (r = -2 ∧ F9 = F ∧ mvH F w x1 ∧ ¬ (0 ≤ x2.toInt ∧ x2.toInt < (F (w + 1 + (3 + 4 * (F (w + 1 + (3 + 4 * x1.toNatClampNeg)) 5).toNatClampNeg)) 10).toInt)) ∨ (mvH F w x1 ∧ (0 ≤ x2.toInt ∧ x2.toInt < (F (w + 1 + (3 + 4 * (F (w + 1 + (3 + 4 * x1.toNatClampNeg)) 5).toNatClampNeg)) 10).toInt) ∧ (0 ≤ r.toInt ∧ r.toInt < (F (w + 1 + (3 + 4 * (F (w + 1 + (3 + 4 * x1.toNatClampNeg)) 5).toNatClampNeg)) 10).toInt ∧ (F ((w + 1 + (3 + 4 * (F (w + 1 + (3 + 4 * x1.toNatClampNeg)) 5).toNatClampNeg)) + 2) r.toInt.toNat).toInt = x1.toInt ∧ ∀ j : Nat, (j : Int) < r.toInt → ¬ (F ((w + 1 + (3 + 4 * (F (w + 1 + (3 + 4 * x1.toNatClampNeg)) 5).toNatClampNeg)) + 2) j).toInt = x1.toInt) ∧ ((r.toInt = x2.toInt ∧ F9 = F) ∨ (¬ r.toInt = x2.toInt ∧ F9 = adF (rmF F (w + 1 + (3 + 4 * (F (w + 1 + (3 + 4 * x1.toNatClampNeg)) 5).toNatClampNeg)) r) (w + 1 + (3 + 4 * (F (w + 1 + (3 + 4 * x1.toNatClampNeg)) 5).toNatClampNeg)) x1 x2)))
theorem RT.mv {F : mF} {w : Nat} {t : Nat → Int32} (h : RT F w t) (hJ : TJ t) {x : Int32} : mvH F w x ↔ ((0 ≤ x.toInt ∧ x.toInt ≤ 23 ∧ K t x.toInt 0 = 1) ∧ 0 ≤ K t x.toInt 9) := by
  unfold mvH
  rw [h.al x, h.al (F (w + 1 + (3 + 4 * x.toNatClampNeg)) 5)]
  constructor
  · rintro ⟨q1, q2⟩
    rw [(h.bx q1).2.1] at q2
    exact ⟨q1, q2.1⟩
  · rintro ⟨q1, q2⟩
    have q1 : AL t x.toInt := q1
    refine ⟨q1, ?_⟩
    rw [(h.bx q1).2.1]
    exact hJ.1 _ q1 q2
/-- the kids of one BOX stand in another order -/
theorem TJ_move {t t' : Nat → Int32} {p : Int} (hJ : TJ t) (hI : TInv t) (hp : AL t p) (e0 : t' 0 = t 0) (hK : ∀ b j : Int, 0 ≤ b → 0 ≤ j → j ≤ 18 → ¬ (b = p ∧ 11 ≤ j) → K t' b j = K t b j) (hk : ∀ j : Int, 0 ≤ j → j < K t p 10 → ∃ i, 0 ≤ i ∧ i < K t p 10 ∧ K t' p (11 + j) = K t p (11 + i)) : TJ t' := by
  obtain ⟨j1, j2, j3, j4⟩ := hJ
  have gA : ∀ b : Int, AL t' b ↔ AL t b := fun b => by
    constructor
    · rintro ⟨a1, a2, a3⟩; rw [hK b 0 a1 (by decide) (by decide) (by omega)] at a3; exact ⟨a1, a2, a3⟩
    · rintro ⟨a1, a2, a3⟩; exact ⟨a1, a2, by rw [hK b 0 a1 (by decide) (by decide) (by omega)]; exact a3⟩
  refine ⟨fun b hb h0 => ?_, fun b i hb h0 h1 => ?_, fun h0 => ?_, fun b hb => ?_⟩
  · have hb := (gA b).mp hb
    rw [hK b 9 hb.1 (by decide) (by decide) (by omega)] at h0 ⊢
    exact (gA _).mpr (j1 b hb h0)
  · have hb := (gA b).mp hb
    have := (TI10 hI hb.1 hb.2.1).2
    rw [hK b 10 hb.1 (by decide) (by decide) (by omega)] at h1
    by_cases z : b = p
    · subst z
      obtain ⟨i', y1, y2, y3⟩ := hk i h0 h1
      rw [y3]
      exact (gA _).mpr (j2 b i' hb y1 y2)
    · rw [hK b (11 + i) hb.1 (by omega) (by omega) (by omega)]
      exact (gA _).mpr (j2 b i hb h0 h1)
  · rw [e0] at h0 ⊢
    have := j3 h0
    exact ⟨(gA _).mpr this.1, by rw [hK _ 9 this.1.1 (by decide) (by decide) (by omega)]; exact this.2⟩
  · have hb := (gA b).mp hb
    rw [hK b 1 hb.1 (by decide) (by decide) (by omega)]
    exact j4 b hb
theorem RL_moves {F F9 : mF} {w : Nat} {t t' : Nat → Int32} {x1 x2 r r' : Int32} (h : RT F w t) (hI : TInv t) (hJ : TJ t) (hc : MVc F F9 w x1 x2 r) (hr : MVp t t' x1.toInt x2.toInt r') : r = r' ∧ RT F9 w t' ∧ TJ t' := by
  unfold MVc at hc
  unfold MVp at hr
  rw [h.mv hJ] at hc
  by_cases p : (0 ≤ x1.toInt ∧ x1.toInt ≤ 23 ∧ K t x1.toInt 0 = 1) ∧ 0 ≤ K t x1.toInt 9
  · have ha : AL t x1.toInt := p.1
    obtain ⟨q, eq⟩ : ∃ q, q = K t x1.toInt 9 := ⟨_, rfl⟩
    have hp0 := p.2
    rw [← eq] at hp0 hr
    have hpa : AL t q := by rw [eq]; exact hJ.1 _ ha p.2
    have e5 := (h.bx ha).2.1
    rw [← eq] at e5
    have ec5 : (F (w + 1 + (3 + 4 * x1.toNatClampNeg)) 5).toNatClampNeg = q.toNat := by
      show (F (w + 1 + (3 + 4 * x1.toNatClampNeg)) 5).toInt.toNat = _
      rw [e5]
    rw [ec5] at hc
    have hb := h.box hpa
    have hb10 : (F (w + 1 + (3 + 4 * q.toNat)) 10).toInt = K t q 10 := hb.2.2.2.2.2.1
    have h8 := TI10 hI hpa.1 hpa.2.1
    rw [hb10] at hc
    by_cases o : 0 ≤ x2.toInt ∧ x2.toInt < K t q 10
    · have hc := (hc.resolve_left (fun z => z.2.2 p)).resolve_left (fun z => z.2.2.2 o)
      have hr := (hr.resolve_left (fun z => by rw [eq] at z; exact z.2.2 p)).resolve_left (fun z => z.2.2.2 o)
      obtain ⟨-, -, ⟨c1, c2, c3, -⟩, c4⟩ := hc
      obtain ⟨-, -, ⟨d1, d2, d3⟩, m0, m3, mK, mi, mj⟩ := hr
      have c3 : (F (bA w q.toNat + 2) r.toInt.toNat).toInt = x1.toInt := c3
      rw [hb.2.2.2.2.2.2.2 r.toInt.toNat (by omega), show ((r.toInt.toNat : Nat) : Int) = r.toInt by omega] at c3
      have err : r.toInt = r'.toInt := by
        apply Classical.byContradiction
        intro z
        by_cases y : r.toInt < r'.toInt
        · exact hI.2.2.2.2.1 q r.toInt r'.toInt hpa.1 hpa.2.1 c1 y d2 (by rw [c3, d3])
        · exact hI.2.2.2.2.1 q r'.toInt r.toInt hpa.1 hpa.2.1 d1 (by omega) c2 (by rw [c3, d3])
      rw [← err] at mj
      have mk10 : K t' q 10 = K t q 10 := mK q 10 hpa.1 (by decide) (by decide) (by omega)
      have hJ' : TJ t' := TJ_move hJ hI hpa m0 mK (fun j j0 j1 => by
        by_cases z : j = x2.toInt
        · exact ⟨r.toInt, c1, c2, by rw [z, mi, c3]⟩
        · obtain ⟨y1, y2, y3⟩ := mj j j0 j1 z
          by_cases w1 : r.toInt ≤ j ∧ j < x2.toInt
          · exact ⟨j + 1, by omega, by omega, by rw [y1 w1, Int.add_assoc]⟩
          · by_cases w2 : x2.toInt < j ∧ j ≤ r.toInt
            · exact ⟨j - 1, by omega, by omega, by rw [y2 w2, show (11 : Int) + j - 1 = 11 + (j - 1) by omega]⟩
            · exact ⟨j, j0, j1, y3 ⟨w1, w2⟩⟩)
      refine ⟨Int32.toInt_inj.mp err, ?_, hJ'⟩
      obtain ⟨h1, h2, h3, h4, h5⟩ := h
      -- what the class's cells are
      have hF : (∀ c k : Nat, ¬ (c = bA w q.toNat ∧ k = 10) → ¬ c = bA w q.toNat + 2 → F9 c k = F c k) ∧ (F9 (bA w q.toNat) 10).toInt = K t q 10 ∧ ∀ j : Nat, (j : Int) < K t q 10 → (F9 (bA w q.toNat + 2) j).toInt = K t' q (11 + (j : Int)) := by
        rcases c4 with ⟨c4, c5⟩ | ⟨c4, c5⟩
        · refine ⟨fun c k _ _ => by rw [c5], by rw [c5]; exact hb10, fun j hj => ?_⟩
          rw [c5, hb.2.2.2.2.2.2.2 j hj]
          by_cases z : (j : Int) = x2.toInt
          · rw [z, mi, ← c4]; exact c3
          · obtain ⟨y1, y2, y3⟩ := mj j (by omega) hj z
            rw [y3 (by omega)]
        · have c5 : F9 = adF (rmF F (bA w q.toNat) r) (bA w q.toNat) x1 x2 := c5
          have hb10 : (F (bA w q.toNat) 10).toInt = K t q 10 := hb10
          have r10 : (rmF F (bA w q.toNat) r (bA w q.toNat) 10).toInt = K t q 10 - 1 := by
            rw [rmF_10]
            exact tn_sub rfl hb10 kI_1 (by omega) (by omega)
          refine ⟨fun c k q1 q2 => by rw [c5, adF_o q1 q2, rmF_o q1 q2], ?_, fun j hj => ?_⟩
          · rw [c5, adF_10]
            have := tn_add (z := rmF F (bA w q.toNat) r (bA w q.toNat) 10 + 1) rfl r10 kI_1 (by omega) (by omega)
            omega
          · rw [c5, adF_k o.1 (by rw [r10]; omega) (by rw [r10]; omega) (by rw [r10]; omega)]
            have kk := hb.2.2.2.2.2.2.2
            by_cases z : (j : Int) = x2.toInt
            · rw [if_neg (by omega), if_pos z, z, mi]
            · obtain ⟨y1, y2, y3⟩ := mj j (by omega) hj z
              by_cases w1 : (j : Int) < x2.toInt
              · rw [if_pos w1, rmF_k c1 (by omega) (by omega) (by omega)]
                by_cases w2 : (j : Int) < r.toInt
                · rw [if_pos w2, kk j hj, y3 (by omega)]
                · rw [if_neg w2, kk (j + 1) (by omega), y1 (by omega), show (11 : Int) + ((j + 1 : Nat) : Int) = 11 + (j : Int) + 1 by omega]
              · rw [if_neg w1, if_neg z, rmF_k c1 (by omega) (by omega) (by omega)]
                by_cases w2 : ((j - 1 : Nat) : Int) < r.toInt
                · rw [if_pos w2, kk (j - 1) (by omega), y2 (by omega), show (11 : Int) + ((j - 1 : Nat) : Int) = 11 + (j : Int) - 1 by omega]
                · rw [if_neg w2, show j - 1 + 1 = j by omega, kk j hj, y3 (by omega)]
      obtain ⟨o1, o2, o3⟩ := hF
      refine ⟨by rw [o1 w 8 (by unfold bA; omega) (by unfold bA; omega), m3]; exact h1, by rw [o1 w 9 (by unfold bA; omega) (by unfold bA; omega), m0]; exact h2, fun n => by rw [o1 w 4 (by unfold bA; omega) (by unfold bA; omega), mK n 0 (by omega) (by decide) (by decide) (by omega)]; exact h3 n, fun n hn => by rw [o1 _ 0 (by omega) (by unfold bA; omega)]; exact h4 n hn, fun n hn hna => ?_⟩
      rw [mK n 0 (by omega) (by decide) (by decide) (by omega)] at hna
      obtain ⟨b1, b2, b3, b4, b5, b6, b7, b8⟩ := h5 n hn hna
      have kk := fun j q1 q2 q3 => mK n j (by omega) q1 q2 q3
      refine ⟨by rw [o1 _ 4 (by omega) (by unfold bA; omega), kk 1 (by decide) (by decide) (by omega)]; exact b1, by rw [o1 _ 5 (by omega) (by unfold bA; omega), kk 9 (by decide) (by decide) (by omega)]; exact b2, by rw [o1 _ 7 (by omega) (by unfold bA; omega), kk 6 (by decide) (by decide) (by omega)]; exact b3, by rw [o1 _ 8 (by omega) (by unfold bA; omega), kk 7 (by decide) (by decide) (by omega)]; exact b4, by rw [o1 _ 9 (by omega) (by unfold bA; omega), kk 8 (by decide) (by decide) (by omega)]; exact b5, ?_, fun j hj => by rw [o1 _ j (by unfold bA; omega) (by unfold bA; omega), kk _ (by omega) (by omega) (by omega)]; exact b7 j hj, fun j hj => ?_⟩
      · rw [kk 10 (by decide) (by decide) (by omega)]
        by_cases z : (n : Int) = q
        · have zn : n = q.toNat := by omega
          rw [z, zn]; exact o2
        · rw [o1 _ 10 (by unfold bA; omega) (by unfold bA; omega)]; exact b6
      · rw [kk 10 (by decide) (by decide) (by omega)] at hj
        by_cases z : (n : Int) = q
        · have zn : n = q.toNat := by omega
          rw [z] at hj ⊢
          rw [zn]; exact o3 j hj
        · have := (TI10 hI (b := (n : Int)) (by omega) (by omega)).2
          rw [o1 _ j (by unfold bA; omega) (by unfold bA; omega), kk _ (by omega) (by omega) (by omega)]
          exact b8 j hj
    · have hc := hc.resolve_left (fun z => z.2.2 p)
      have hr := hr.resolve_left (fun z => by rw [eq] at z; exact z.2.2 p)
      have c := hc.resolve_right (fun z => o z.2.1)
      have d := hr.resolve_right (fun z => o z.2.1)
      rw [c.2.1, d.2.1]
      exact ⟨c.1.trans d.1.symm, h, hJ⟩
  · have c := hc.resolve_right (fun z => by rcases z with z | z; exact p z.2.2.1; exact p z.1)
    have d := hr.resolve_right (fun z => by rcases z with z | z; exact p z.2.2.1; exact p z.1)
    rw [c.2.1, d.2.1]
    exact ⟨c.1.trans d.1.symm, h, hJ⟩
/-! ===== child, taken ===== -/
theorem RL_child {F : mF} {w : Nat} {t : Nat → Int32} {x1 x2 r r' : Int32} (h : RT F w t) (hc : (((0 ≤ x1.toInt ∧ x1.toInt ≤ 23 ∧ tB (F w 4) x1.toInt.toNat) ∧ 0 ≤ x2.toInt ∧ x2.toInt < (F (w + 1 + (3 + 4 * x1.toNatClampNeg)) 10).toInt) ∧ r = F ((w + 1 + (3 + 4 * x1.toNatClampNeg)) + 2) x2.toNatClampNeg) ∨ (¬ ((0 ≤ x1.toInt ∧ x1.toInt ≤ 23 ∧ tB (F w 4) x1.toInt.toNat) ∧ 0 ≤ x2.toInt ∧ x2.toInt < (F (w + 1 + (3 + 4 * x1.toNatClampNeg)) 10).toInt) ∧ r = -1))
    (hr : (((0 ≤ x1.toInt ∧ x1.toInt ≤ 23 ∧ K t x1.toInt 0 = 1) ∧ 0 ≤ x2.toInt ∧ x2.toInt < K t x1.toInt 10) ∧ r'.toInt = K t x1.toInt (11 + x2.toInt)) ∨ (¬ ((0 ≤ x1.toInt ∧ x1.toInt ≤ 23 ∧ K t x1.toInt 0 = 1) ∧ 0 ≤ x2.toInt ∧ x2.toInt < K t x1.toInt 10) ∧ r' = -1)) : r = r' := by
  rw [h.al x1] at hc
  by_cases ha : AL t x1.toInt
  · have hb := h.bx ha
    rw [hb.2.2.2.2.2.1] at hc
    by_cases z : 0 ≤ x2.toInt ∧ x2.toInt < K t x1.toInt 10
    · have c := (hc.resolve_right (fun q => q.1 ⟨ha, z⟩)).2
      have d := (hr.resolve_right (fun q => q.1 ⟨ha, z⟩)).2
      refine Int32.toInt_inj.mp ?_
      rw [c, d]
      have := hb.2.2.2.2.2.2.2 x2.toInt.toNat (by omega)
      rw [show ((x2.toInt.toNat : Nat) : Int) = x2.toInt by omega] at this
      exact this
    · have c := (hc.resolve_left (fun q => z q.1.2)).2
      have d := (hr.resolve_left (fun q => z q.1.2)).2
      rw [c, d]
  · have c := (hc.resolve_left (fun q => ha q.1.1)).2
    have d := (hr.resolve_left (fun q => ha q.1.1)).2
    rw [c, d]
theorem RL_taken {F : mF} {w : Nat} {t : Nat → Int32} {x1 x2 r r' : Int32} (h : RT F w t) (hc : (¬ (0 ≤ x2.toInt ∧ x2.toInt ≤ 9) ∧ r = -2) ∨ ((0 ≤ x2.toInt ∧ x2.toInt ≤ 9) ∧ ¬ (0 ≤ x1.toInt ∧ x1.toInt ≤ 23 ∧ tB (F w 4) x1.toInt.toNat) ∧ r = -11) ∨ ((0 ≤ x2.toInt ∧ x2.toInt ≤ 9) ∧ (0 ≤ x1.toInt ∧ x1.toInt ≤ 23 ∧ tB (F w 4) x1.toInt.toNat) ∧ ((F (w + 1 + (3 + 4 * x1.toNatClampNeg)) 4).toInt = x2.toInt ∨ ((F (w + 1 + (3 + 4 * x1.toNatClampNeg)) 4).toInt = 9 ∧ x2.toInt = 8) ∨ ((F (w + 1 + (3 + 4 * x1.toNatClampNeg)) 4).toInt = 5 ∧ x2.toInt = 4) ∨ ((F (w + 1 + (3 + 4 * x1.toNatClampNeg)) 4).toInt = 3 ∧ x2.toInt = 2)) ∧ r = F (w + 1 + (3 + 4 * x1.toNatClampNeg)) 4) ∨ ((0 ≤ x2.toInt ∧ x2.toInt ≤ 9) ∧ (0 ≤ x1.toInt ∧ x1.toInt ≤ 23 ∧ tB (F w 4) x1.toInt.toNat) ∧ ¬ ((F (w + 1 + (3 + 4 * x1.toNatClampNeg)) 4).toInt = x2.toInt ∨ ((F (w + 1 + (3 + 4 * x1.toNatClampNeg)) 4).toInt = 9 ∧ x2.toInt = 8) ∨ ((F (w + 1 + (3 + 4 * x1.toNatClampNeg)) 4).toInt = 5 ∧ x2.toInt = 4) ∨ ((F (w + 1 + (3 + 4 * x1.toNatClampNeg)) 4).toInt = 3 ∧ x2.toInt = 2)) ∧ r = -12))
    (hr : (¬ (0 ≤ x2.toInt ∧ x2.toInt ≤ 9) ∧ r'.toInt = -2) ∨ ((0 ≤ x2.toInt ∧ x2.toInt ≤ 9) ∧ ¬ (0 ≤ x1.toInt ∧ x1.toInt ≤ 23 ∧ K t x1.toInt 0 = 1) ∧ r'.toInt = -11) ∨ ((0 ≤ x2.toInt ∧ x2.toInt ≤ 9) ∧ (0 ≤ x1.toInt ∧ x1.toInt ≤ 23 ∧ K t x1.toInt 0 = 1) ∧ (K t x1.toInt 1 = x2.toInt ∨ (K t x1.toInt 1 = 9 ∧ x2.toInt = 8) ∨ (K t x1.toInt 1 = 5 ∧ x2.toInt = 4) ∨ (K t x1.toInt 1 = 3 ∧ x2.toInt = 2)) ∧ r'.toInt = K t x1.toInt 1) ∨ ((0 ≤ x2.toInt ∧ x2.toInt ≤ 9) ∧ (0 ≤ x1.toInt ∧ x1.toInt ≤ 23 ∧ K t x1.toInt 0 = 1) ∧ ¬ (K t x1.toInt 1 = x2.toInt ∨ (K t x1.toInt 1 = 9 ∧ x2.toInt = 8) ∨ (K t x1.toInt 1 = 5 ∧ x2.toInt = 4) ∨ (K t x1.toInt 1 = 3 ∧ x2.toInt = 2)) ∧ r'.toInt = -12)) : r = r' := by
  rw [h.al x1] at hc
  have k2 : (-2 : Int32).toInt = -2 := by decide
  have k11 : (-11 : Int32).toInt = -11 := by decide
  have k12 : (-12 : Int32).toInt = -12 := by decide
  refine Int32.toInt_inj.mp ?_
  by_cases z : 0 ≤ x2.toInt ∧ x2.toInt ≤ 9
  · have hc := hc.resolve_left (fun q => q.1 z)
    have hr := hr.resolve_left (fun q => q.1 z)
    by_cases ha : AL t x1.toInt
    · have hb := h.bx ha
      have hc := hc.resolve_left (fun q => q.2.1 ha)
      have hr := hr.resolve_left (fun q => q.2.1 ha)
      have e1 := hb.1
      rw [e1] at hc
      rcases hc with ⟨-, -, c1, c2⟩ | ⟨-, -, c1, c2⟩
      · rcases hr with ⟨-, -, d1, d2⟩ | ⟨-, -, d1, d2⟩
        · rw [c2, d2, e1]
        · exact absurd c1 d1
      · rcases hr with ⟨-, -, d1, d2⟩ | ⟨-, -, d1, d2⟩
        · exact absurd d1 c1
        · rw [c2, d2, k12]
    · have c := (hc.resolve_right (fun q => by rcases q with q | q; exact ha q.2.1; exact ha q.2.1)).2.2
      have d := (hr.resolve_right (fun q => by rcases q with q | q; exact ha q.2.1; exact ha q.2.1)).2.2
      rw [c, d, k11]
  · have c := (hc.resolve_right (fun q => by rcases q with q | q | q; exact z q.1; exact z q.1; exact z q.1)).2
    have d := (hr.resolve_right (fun q => by rcases q with q | q | q; exact z q.1; exact z q.1; exact z q.1)).2
    rw [c, d, k2]
/-! ===== what stays ===== -/
/-- only the tree of w changes -/
def FRW (F F9 : mF) (w : Nat) : Prop := (∀ c k : Nat, ¬ (w ≤ c ∧ c < w + 100) → F9 c k = F c k) ∧ F9 w 3 = F w 3
theorem FRW.refl {F : mF} {w : Nat} : FRW F F w := ⟨fun _ _ _ => rfl, rfl⟩
theorem FR_br {F F9 : mF} {w : Nat} {t : Nat → Int32} {kd pa v0 v1 v2 v3 sh : Int32} (h : RT F w t) (hI : TInv t) (h23 : (t 3).toInt ≤ 23) (hp : PAl t pa.toInt) (hr : RMe t pa.toInt) (e : F9 = brF F w kd pa v0 v1 v2 v3 sh) : FRW F F9 w := by
  have hn0 := hI.1.1
  have h8 := h.1
  have hb := brF_spec e (by omega) (by omega) (by
    rcases hp with q | q
    · exact Or.inl q
    · have q : AL t pa.toInt := q
      have hlt := hI.2.1 _ q.1 q.2.1 q.2.2
      have h10 : (F (w + 1 + (3 + 4 * pa.toInt.toNat)) 10).toInt = K t pa.toInt 10 := (h.box q).2.2.2.2.2.1
      have := TI10 hI q.1 q.2.1
      have := RM_7 hr q.1
      exact Or.inr ⟨q.1, by omega, by omega, by omega⟩)
  exact ⟨hb.2.1, hb.1.2.2.2⟩
theorem FR_comes {F F9 : mF} {w : Nat} {t : Nat → Int32} {x1 x2 x3 x4 x5 x6 r : Int32} (h : RT F w t) (hI : TInv t) (hJ : TJ t) (hc : CMc F F9 w x1 x2 x3 x4 x5 x6 r) : FRW F F9 w := by
  unfold CMc at hc
  rcases hc with c | c | c | c | c
  · rw [c.2.1]; exact FRW.refl
  · rw [c.2.1]; exact FRW.refl
  · rw [c.2.1]; exact FRW.refl
  · rw [c.2.1]; exact FRW.refl
  · obtain ⟨c1, -, c3, c4, -, v0, v1, v2, v3, c6, -⟩ := c
    have p := (h.pa x2).mp c1
    have h1 := h.1
    exact FR_br h hI (by omega) p ((h.rm hI hJ p).mp c3) c6
theorem FR_tells {F F9 : mF} {w : Nat} {x1 x2 x3 r : Int32} (hc : TLc F F9 w x1 x2 x3 r) : FRW F F9 w := by
  unfold TLc at hc
  rcases hc with c | c | c
  · rw [c.2.1]; exact FRW.refl
  · rw [c.2.1]; exact FRW.refl
  · obtain ⟨⟨⟨h1, h2, -⟩, h3⟩, -, c4, c5, c6, c0⟩ := c
    have hx : x1.toNatClampNeg ≤ 23 := by show x1.toInt.toNat ≤ 23; omega
    have hk : ∃ c k : Nat, (c = w + 1 + (3 + 4 * x1.toNatClampNeg) ∨ c = w + 1 + (3 + 4 * x1.toNatClampNeg) + 1) ∧ F9 = up2 F c k x3 := by
      by_cases z4 : x2.toInt = 4
      · exact ⟨_, _, Or.inl rfl, (c4 z4).2⟩
      · by_cases z5 : x2.toInt = 5
        · exact ⟨_, _, Or.inl rfl, (c5 z5).2⟩
        · by_cases z6 : x2.toInt = 6
          · exact ⟨_, _, Or.inl rfl, (c6 z6).2⟩
          · have := nNum_4 (F (w + 1 + (3 + 4 * x1.toNatClampNeg)) 4).toInt
            exact ⟨_, _, Or.inr rfl, (c0 (by omega)).2⟩
    obtain ⟨c, k, q1, q2⟩ := hk
    exact ⟨fun c' k' q => by rw [q2]; exact up2_ne (by omega), by rw [q2]; exact up2_ne (by omega)⟩
theorem FR_drops {F F9 : mF} {w : Nat} {x1 r : Int32} (hc : DPc F F9 w x1 r) : FRW F F9 w := by
  unfold DPc at hc
  rcases hc with c | ⟨-, th, -, -, c | c⟩
  · rw [c.2.1]; exact FRW.refl
  · obtain ⟨⟨q1, q2, -⟩, pl, -, e⟩ := c
    obtain ⟨p, ep⟩ : ∃ p, p = (F (w + 1 + (3 + 4 * x1.toNatClampNeg)) 5).toNatClampNeg := ⟨_, rfl⟩
    have hp : p ≤ 23 := by
      rw [ep]
      show (F (w + 1 + (3 + 4 * x1.toNatClampNeg)) 5).toInt.toNat ≤ 23
      omega
    rw [← ep] at e
    exact ⟨fun c k q => by rw [e, rmF_o (by omega) (by omega)]; exact up2_ne (by omega), by rw [e, rmF_o (by omega) (by omega)]; exact up2_ne (by omega)⟩
  · rw [c.2]
    exact ⟨fun c k q => by rw [up2_ne (by omega)]; exact up2_ne (by omega), by rw [up2_ne (by omega)]; exact up2_ne (by omega)⟩
theorem FR_moves {F F9 : mF} {w : Nat} {x1 x2 r : Int32} (hc : MVc F F9 w x1 x2 r) : FRW F F9 w := by
  unfold MVc at hc
  rcases hc with c | c | ⟨⟨-, q1, q2, -⟩, -, -, c | ⟨-, e⟩⟩
  · rw [c.2.1]; exact FRW.refl
  · rw [c.2.1]; exact FRW.refl
  · rw [c.2]; exact FRW.refl
  · obtain ⟨p, ep⟩ : ∃ p, p = (F (w + 1 + (3 + 4 * x1.toNatClampNeg)) 5).toNatClampNeg := ⟨_, rfl⟩
    have hp : p ≤ 23 := by
      rw [ep]
      show (F (w + 1 + (3 + 4 * x1.toNatClampNeg)) 5).toInt.toNat ≤ 23
      omega
    rw [← ep] at e
    exact ⟨fun c k q => by rw [e, adF_o (by omega) (by omega)]; exact rmF_o (by omega) (by omega), by rw [e, adF_o (by omega) (by omega)]; exact rmF_o (by omega) (by omega)⟩
/-- a change elsewhere -/
theorem RT_fr {F F9 : mF} {w : Nat} {t : Nat → Int32} (h : RT F w t) (hf : ∀ c k : Nat, w ≤ c → c < w + 100 → ¬ (c = w ∧ k = 3) → F9 c k = F c k) : RT F9 w t := by
  obtain ⟨h1, h2, h3, h4, h5⟩ := h
  refine ⟨by rw [hf w 8 (by omega) (by omega) (by omega)]; exact h1, by rw [hf w 9 (by omega) (by omega) (by omega)]; exact h2, fun n => by rw [hf w 4 (by omega) (by omega) (by omega)]; exact h3 n, fun n hn => by rw [hf _ 0 (by unfold bA; omega) (by unfold bA; omega) (by unfold bA; omega)]; exact h4 n hn, fun n hn hna => ?_⟩
  obtain ⟨b1, b2, b3, b4, b5, b6, b7, b8⟩ := h5 n hn hna
  have o : ∀ c k : Nat, bA w n ≤ c → c ≤ bA w n + 2 → F9 c k = F c k := fun c k q1 q2 => hf c k (by unfold bA at q1; omega) (by unfold bA at q2; omega) (by unfold bA at q1; omega)
  exact ⟨by rw [o _ 4 (by omega) (by omega)]; exact b1, by rw [o _ 5 (by omega) (by omega)]; exact b2, by rw [o _ 7 (by omega) (by omega)]; exact b3, by rw [o _ 8 (by omega) (by omega)]; exact b4, by rw [o _ 9 (by omega) (by omega)]; exact b5, by rw [o _ 10 (by omega) (by omega)]; exact b6, fun j hj => by rw [o _ j (by omega) (by omega)]; exact b7 j hj, fun j hj => by rw [o _ j (by omega) (by omega)]; exact b8 j hj⟩
/-- a copy -/
theorem RT_cp {F F' : mF} {w o : Nat} {t : Nat → Int32} (h : RT F o t) (hI : TInv t) (hn : ∀ n : Nat, n ≤ 23 → (F (bA w n) 0).toInt = (n : Int)) (hc : cpW F F' w o) : RT F' w t := by
  obtain ⟨⟨c1, c2, c3, c4⟩, -, c6, c7⟩ := hc
  refine ⟨by rw [c3]; exact h.1, by rw [c4]; exact h.2.1, fun n => by rw [c2]; exact h.2.2.1 n, fun n hn2 => ?_, fun n hn2 hna => ?_⟩
  · have := c6 n (by omega)
    show (F' (w + 1 + (3 + 4 * n)) 0).toInt = _
    rw [this]; exact hn n hn2
  · have hal : AL t (n : Int) := ⟨by omega, by omega, hna⟩
    have hlt := hI.2.1 (n : Int) hal.1 hal.2.1 hal.2.2
    obtain ⟨b1, b2, b3, b4, b5, b6, b7, b8⟩ := h.2.2.2.2 n hn2 hna
    obtain ⟨d1, d2, d3, d4, d5, d6, d7, d8⟩ := c7 n (by rw [h.1]; exact hlt) ((h.bit n).mpr hal)
    refine ⟨by show (F' (w + 1 + (3 + 4 * n)) 4).toInt = _; rw [d1]; exact b1, by show (F' (w + 1 + (3 + 4 * n)) 5).toInt = _; rw [d2]; exact b2, by show (F' (w + 1 + (3 + 4 * n)) 7).toInt = _; rw [d3]; exact b3, by show (F' (w + 1 + (3 + 4 * n)) 8).toInt = _; rw [d4]; exact b4, by show (F' (w + 1 + (3 + 4 * n)) 9).toInt = _; rw [d5]; exact b5, by show (F' (w + 1 + (3 + 4 * n)) 10).toInt = _; rw [d6]; exact b6, fun j hj => by show (F' (w + 1 + (3 + 4 * n) + 1) j).toInt = _; rw [d7 j hj]; exact b7 j hj, fun j hj => ?_⟩
    show (F' (w + 1 + (3 + 4 * n) + 2) j).toInt = _
    rw [d8 j (by have b6 : (F (o + 1 + (3 + 4 * n)) 10).toInt = K t (n : Int) 10 := b6; omega)]
    exact b8 j hj
