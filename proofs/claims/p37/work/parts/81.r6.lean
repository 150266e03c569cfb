/-! ===== reads ===== -/
section LET
variable {L L' : Nat → Int} {len : Int}
theorem fg_L (h : ∀ p, nx L' len p = nx L len p) (p : Int) : fg L' len p = fg L len p := by unfold fg; rw [h]
theorem RN_L (h : ∀ p, nx L' len p = nx L len p) (p v q : Int) : RN L' len p v q = RN L len p v q := by unfold RN; simp only [h, fg_L h]
theorem LK_L (h : ∀ p, nx L' len p = nx L len p) (p : Int) (k : Nat) (r : Int) : LK L' len p k r = LK L len p k r := by unfold LK; simp only [h]
theorem NMi_L (h : ∀ p, nx L' len p = nx L len p) (p : Int) (n : Nat) (m : Int) : NMi L' len p n m = NMi L len p n m := by unfold NMi; simp only [LK_L h]
theorem RM_L (h : ∀ p, nx L' len p = nx L len p) (p kd q : Int) : RM L' len p kd q = RM L len p kd q := by unfold RM; simp only [LK_L h, NMi_L h]
theorem RO_L (h : ∀ p, nx L' len p = nx L len p) (kd p0 : Int) (row : Nat → Int) : ∀ (i : Nat) (p : Int), RO L' len kd p0 i p row = RO L len kd p0 i p row
  | 0, _ => rfl
  | i + 1, p => by
    show (∃ p1, RO L' len kd p0 i p1 row ∧ _) = (∃ p1, RO L len kd p0 i p1 row ∧ _)
    simp only [RO_L h kd p0 row i, h, fg_L h, RN_L h]
theorem RS_L (h : ∀ p, nx L' len p = nx L len p) (p s q : Int) (ok : Prop) : RS L' len p s q ok = RS L len p s q ok := by unfold RS; simp only [h, fg_L h]
theorem RF_L (h : ∀ p, nx L' len p = nx L len p) (kd p0 q : Int) : RF L' len kd p0 q = RF L len kd p0 q := by unfold RF; simp only [h, fg_L h, RN_L h, RO_L h]
theorem BXok_L (h : ∀ p, nx L' len p = nx L len p) (left n p par : Int) (K C : Nat → Int) (kd : Int) (row : Nat → Int) (sh q : Int) : BXok L' len left n p par K C kd row sh q = BXok L len left n p par K C kd row sh q := by unfold BXok; simp only [RM_L h, RO_L h, RS_L h]
theorem BXbad_L (h : ∀ p, nx L' len p = nx L len p) (left n p par : Int) (K C : Nat → Int) (q : Int) : BXbad L' len left n p par K C q = BXbad L len left n p par K C q := by unfold BXbad; simp only [RM_L h, RO_L h, RS_L h, RF_L h]
theorem UPk_L (h : ∀ p, nx L' len p = nx L len p) (P : Nat → Int) (p h0 : Int) : ∀ (k : Nat) (x : Int), UPk L' len P p h0 k x = UPk L len P p h0 k x
  | 0, _ => rfl
  | k + 1, x => by
    show (∃ y, UPk L' len P p h0 k y ∧ _) = (∃ y, UPk L len P p h0 k y ∧ _)
    simp only [UPk_L h P p h0 k, h]
theorem PNgo_L (h : ∀ p, nx L' len p = nx L len p) (P : Nat → Int) (n p par q : Int) : PNgo L' len P n p par q = PNgo L len P n p par q := by unfold PNgo; simp only [h, UPk_L h]
theorem PNend_L (h : ∀ p, nx L' len p = nx L len p) (P : Nat → Int) (n p q : Int) : PNend L' len P n p q = PNend L len P n p q := by unfold PNend; simp only [h, UPk_L h]
theorem PNbad_L (h : ∀ p, nx L' len p = nx L len p) (P : Nat → Int) (n p q : Int) : PNbad L' len P n p q = PNbad L len P n p q := by unfold PNbad; simp only [h, UPk_L h]
theorem RDn_L (h : ∀ p, nx L' len p = nx L len p) (left : Int) (K P S : Nat → Int) (N : Nat → Nat → Int) : ∀ (n : Nat) (p par : Int), RDn L' len left K P S N n p par = RDn L len left K P S N n p par
  | 0, _, _ => rfl
  | n + 1, p, par => by
    show (∃ p0 q, RDn L' len left K P S N n p0 (P n) ∧ _) = (∃ p0 q, RDn L len left K P S N n p0 (P n) ∧ _)
    simp only [RDn_L h left K P S N n, BXok_L h, PNgo_L h]
theorem RDok_L (h : ∀ p, nx L' len p = nx L len p) (left : Int) (K P S : Nat → Int) (N : Nat → Nat → Int) (n : Nat) : RDok L' len left K P S N n = RDok L len left K P S N n := by unfold RDok; simp only [RDn_L h, BXok_L h, PNend_L h]
theorem RDbd_L (h : ∀ p, nx L' len p = nx L len p) (left r : Int) : RDbd L' len left r = RDbd L len left r := by unfold RDbd; simp only [RDn_L h, BXok_L h, BXbad_L h, PNend_L h, PNbad_L h]
end LET
theorem nx_LF {F M : mF} {lt : Nat} {len : Int} (hl : len ≤ 120) (h : ∀ j : Nat, j < 120 → F lt j = M 15 j) (p : Int) : nx (LF M 15) len p = nx (LF F lt) len p := by
  unfold nx
  by_cases z : p < len
  · rw [if_pos z, if_pos z]
    unfold LF
    rw [h p.toNat (by omega)]
  · rw [if_neg z, if_neg z]
/-- each BOX that is read is good -/
theorem RDok_box {L : Nat → Int} {len left : Int} {K P S : Nat → Int} {N : Nat → Nat → Int} {n i : Nat} (h : RDok L len left K P S N n) (hi : i < n) : (0 ≤ K i ∧ K i ≤ 9) ∧ ∀ j : Nat, (j : Int) < nNum (K i) → okN (K i) j (N i j) := by
  obtain ⟨m, p0, q, e, h1, h2, -⟩ := h
  have hb : ∃ p q, BXok L len left i p (P i) K (fun j => cnt P i j) (K i) (N i) (S i) q := by
    by_cases z : i = m
    · subst z; exact ⟨_, _, h2⟩
    · obtain ⟨y0, y1, -, -, -, y2, -⟩ := RDn_at m _ _ (by omega : i < m) h1
      exact ⟨_, _, y2⟩
  obtain ⟨p, q, -, g0, q1, q2, g1, g2, -⟩ := hb
  refine ⟨⟨g0, (RM_r g1).2⟩, fun j hj => ?_⟩
  obtain ⟨-, -, -, -, -, -, w, -⟩ := RO_at (i := j) _ _ (by omega) g2
  exact w
theorem TInv_PX {t t' : Nat → Int32} {kd p v0 v1 v2 v3 sh : Int} (hI : TInv t) (h23 : (t 3).toInt ≤ 23) (hx : PX t t' kd p v0 v1 v2 v3 sh) (hp : (p = -1 ∧ (t 0).toInt < 0) ∨ (AL t p ∧ K t p 10 ≤ 7)) (h6 : kd = 6 → 1 ≤ v0 ∧ 1 ≤ v1) : TInv t' := by
  obtain ⟨x1, x2, x3, ⟨y0, y1, y2, y3, y4, y5, y6, y7, y8, y9, y10⟩, z, u⟩ := hx
  refine TInv_put (n := (t 3).toInt) (p := p) (m := K t p 10) hI rfl h23 x1 (fun b k q1 q2 q3 q4 q5 q6 => z b k q1 q3 q4 q5 q6) y0 y9 y10 (fun q => by rw [y2, y3]; exact h6 (by rw [← y1]; exact q)) ?_
  rcases hp with ⟨q1, q2⟩ | ⟨q1, q2⟩
  · exact Or.inl ⟨q1, q2, x2 (by omega)⟩
  · have h10 := TI10 hI q1.1 q1.2.1
    have hl := hI.2.1 p q1.1 q1.2.1 q1.2.2
    exact Or.inr ⟨q1.1, hl, rfl, by omega, h10.1, (u q1.1).1, (u q1.1).2, by rw [x3 q1.1]⟩
theorem RL_RQ {F1 Fz : mF} {w rd n : Nat} {par : Int32} {ta : Nat → Int32} {L : Nat → Int} {len left : Int} (hO : FOk L F1 rd len left n) (hle : left = 24 - (ta 3).toInt) (h0 : RT F1 w ta) (hI0 : TInv ta) (hJ0 : TJ ta) (hp : PAl ta par.toInt) (hr : RMe ta par.toInt)
    (hA : AGR (LF F1 (rd + 1)) (LF F1 (rd + 2)) (LF F1 (rd + 3)) (qK Fz) (qP Fz) (qS Fz) (fun i => LF F1 (rd + 5 + (1 + i))) (qN Fz) n) : ∀ (i : Nat) (Fc : mF) (t : Nat → Int32), i ≤ n → BRq w rd par (ta 3).toInt F1 i Fc → RQ ta Fz par.toInt (ta 3).toInt i t → RIv F1 Fc w rd par (ta 3).toInt i ∧ RT Fc w t ∧ TInv t ∧ TJ t ∧ (t 3).toInt = (ta 3).toInt + i ∧ Fc w 3 = F1 w 3
  | 0, Fc, t, _, hb, hq => by
    have hb : Fc = F1 := hb
    have hq : t = ta := hq
    subst hb; subst hq
    exact ⟨RIv_0 h0.1, h0, hI0, hJ0, by omega, rfl⟩
  | i + 1, Fc, t, hi, ⟨F2, pa, v0, v1, v2, v3, hB2, hpa, e, e0, e1, e2, e3⟩, ⟨t0, u0, u1, u2, u3, hq2, hm, hx⟩ => by
    obtain ⟨hR, h, hI, hJ, ht3, hw3⟩ := RL_RQ hO hle h0 hI0 hJ0 hp hr hA i F2 t0 (by omega) hB2 hq2
    have hO2 := hO
    obtain ⟨o1, o2, o3, o4, o5, o6⟩ := hO2
    have hf0 := hI0.1.1
    obtain ⟨a1, a2, a3, a4⟩ := hA i (by omega)
    obtain ⟨k1, k2⟩ := RDok_box o5 (by omega : i < n)
    have hpar : par.toInt = -1 ∨ (0 ≤ par.toInt ∧ par.toInt < (ta 3).toInt ∧ tB (F1 w 4) par.toInt.toNat ∧ 0 ≤ (F1 (w + 1 + (3 + 4 * par.toInt.toNat)) 10).toInt ∧ (F1 (w + 1 + (3 + 4 * par.toInt.toNat)) 10).toInt ≤ 7) := by
      rcases hp with q | q
      · exact Or.inl q
      · have q : AL ta par.toInt := q
        have h10 : (F1 (w + 1 + (3 + 4 * par.toInt.toNat)) 10).toInt = K ta par.toInt 10 := (h0.box q).2.2.2.2.2.1
        have := TI10 hI0 q.1 q.2.1
        have := RM_7 hr q.1
        exact Or.inr ⟨q.1, hI0.2.1 _ q.1 q.2.1 q.2.2, ((h0.al par).mpr q).2.2, by omega, by omega⟩
    have hPo := RIv_par hR hO (by omega) hf0 hpa hpar
    have hRs := RIv_s hR hf0 (by omega) hPo (fun j hj => o6 j (by omega)) (by rcases RDok_P o5 (by omega : 0 < n) with q | q; exact q.2; omega) (by rcases hpar with q | q <;> omega) e e0 e1 e2 e3
    have hpa2 : pa.toInt = -1 ∨ (AL t0 pa.toInt ∧ K t0 pa.toInt 10 ≤ 7) := by
      rcases hPo.2 with q | ⟨q1, q2, q3, q4, q5⟩
      · exact Or.inl q
      · have hal := (h.bit _).mp q3
        rw [show ((pa.toInt.toNat : Nat) : Int) = pa.toInt by omega] at hal
        have h10 : (F2 (w + 1 + (3 + 4 * pa.toInt.toNat)) 10).toInt = K t0 pa.toInt 10 := (h.box hal).2.2.2.2.2.1
        exact Or.inr ⟨hal, by omega⟩
    have hpI : (pa.toInt = -1 ∧ (t0 0).toInt < 0) ∨ (AL t0 pa.toInt ∧ K t0 pa.toInt 10 ≤ 7) := by
      rcases hpa2 with q | q
      · refine Or.inl ⟨q, ?_⟩
        rcases RDok_P o5 (by omega : i < n) with ⟨z, -⟩ | ⟨z, z1, -⟩
        · subst z
          rw [if_pos rfl] at hpa
          have hq2 : t0 = ta := hq2
          rw [hq2]
          unfold RMe at hr
          omega
        · rw [if_neg (by omega)] at hpa
          omega
      · exact Or.inr q
    have ek : (F1 (rd + 1) i).toInt = qK Fz i := a1
    have ep : (if i = 0 then par.toInt else (ta 3).toInt + qP Fz i) = pa.toInt := by rw [hpa, ← a2]
    have es : (F1 (rd + 3) i).toInt = qS Fz i := a3
    have a1 : LF F1 (rd + 1) i = qK Fz i := a1
    rw [ep, ← ek, ← es] at hx
    rw [← ek] at hm
    have a4 : ∀ j : Nat, (j : Int) < nNum (F1 (rd + 1) i).toInt → (F1 (rd + 5 + (1 + i)) j).toInt = qN Fz i j := a4
    obtain ⟨m0, m1, m2, m3, m4, m5, m6, m7⟩ := hm
    have hu0 : u0 = v0.toInt := by
      rw [e0]
      by_cases y : 0 < nNum (F1 (rd + 1) i).toInt
      · rw [if_pos y, m0 y]; exact (a4 0 y).symm
      · rw [if_neg y, m1 y]; exact kI_0.symm
    have hu1 : u1 = v1.toInt := by
      rw [e1]
      by_cases y : 1 < nNum (F1 (rd + 1) i).toInt
      · rw [if_pos y, m2 y]; exact (a4 1 y).symm
      · rw [if_neg y, m3 y]; exact kI_0.symm
    have hu2 : u2 = v2.toInt := by
      rw [e2]
      by_cases y : 2 < nNum (F1 (rd + 1) i).toInt
      · rw [if_pos y, m4 y]; exact (a4 2 y).symm
      · rw [if_neg y, m5 y]; exact kI_0.symm
    have hu3 : u3 = v3.toInt := by
      rw [e3]
      by_cases y : 3 < nNum (F1 (rd + 1) i).toInt
      · rw [if_pos y, m6 y]; exact (a4 3 y).symm
      · rw [if_neg y, m7 y]; exact kI_0.symm
    subst hu0; subst hu1; subst hu2; subst hu3
    have hn0 := hI.1.1
    have h8 := h.1
    have hb := brF_spec e (by omega) (by omega) (by
      rcases hpa2 with q | ⟨q, q7⟩
      · exact Or.inl q
      · have hlt := hI.2.1 _ q.1 q.2.1 q.2.2
        have h10 : (F2 (w + 1 + (3 + 4 * pa.toInt.toNat)) 10).toInt = K t0 pa.toInt 10 := (h.box q).2.2.2.2.2.1
        have := TI10 hI q.1 q.2.1
        exact Or.inr ⟨q.1, by omega, by omega, by omega⟩)
    have k1 : 0 ≤ (F1 (rd + 1) i).toInt ∧ (F1 (rd + 1) i).toInt ≤ 9 := k1
    refine ⟨hRs, RT_PX h hI (n := (F2 w 8).toInt.toNat) (by omega) (by omega) hb hx hpa2, TInv_PX hI (by omega) hx hpI (fun q => ?_), TJ_PX hJ hI (by omega) hx hpa2 k1, by rw [hx.1]; omega, by rw [hb.1.2.2.2]; exact hw3⟩
    have hn6 : nNum (F1 (rd + 1) i).toInt = 2 := by rw [q]; decide
    have w0 := k2 0 (by show (0 : Int) < nNum (F1 (rd + 1) i).toInt; omega)
    have w1 := k2 1 (by show (1 : Int) < nNum (F1 (rd + 1) i).toInt; omega)
    have w0 : okN (F1 (rd + 1) i).toInt 0 (F1 (rd + 5 + (1 + i)) 0).toInt := w0
    have w1 : okN (F1 (rd + 1) i).toInt 1 (F1 (rd + 5 + (1 + i)) 1).toInt := w1
    rw [q] at w0 w1
    have l6 : nLow 6 = 1 := by decide
    refine ⟨?_, ?_⟩
    · rw [e0, if_pos (by omega)]
      have := w0.2.2.1; omega
    · rw [e1, if_pos (by omega)]
      have := w1.2.2.1; omega
/-- what the class's reads() does -/
def RDc (F F9 : mF) (w rd lt h : Nat) (x1 r : Int32) : Prop := (r = -1 ∧ F9 = F ∧ ¬ PAc F w x1) ∨ (r = -3 ∧ F9 = F ∧ PAc F w x1 ∧ ¬ RMc F w x1) ∨ (PAc F w x1 ∧ RMc F w x1 ∧ RDS F F9 w rd lt h x1 r)
theorem RL_reads {F F9 : mF} {w rd lt hh : Nat} {G : tG} {t t' : Nat → Int32} {W : mF} {x1 r r' : Int32} (h : RT F w t) (hI : TInv t) (hJ : TJ t) (h25 : F hh 8 = FM G 1 25) (h120 : (FM G 1 25).toInt ≤ 120) (hL : ∀ j : Nat, j < 120 → F lt j = FM G 15 j)
    (hwr : w + 100 ≤ rd ∨ rd + 30 ≤ w) (hhr : hh < rd ∨ rd + 30 ≤ hh) (hhw : ¬ (w ≤ hh ∧ hh < w + 100)) (hc : RDc F F9 w rd lt hh x1 r) (hr : RDx G t x1.toInt r' t' W) (hI' : TInv t') :
    r = r' ∧ RT F9 w t' ∧ TJ t' ∧ F9 w 3 = F w 3 ∧ (∀ c k : Nat, ¬ (w ≤ c ∧ c < w + 100) → ¬ (rd ≤ c ∧ c < rd + 30) → ¬ (c = hh ∧ k = 8) → F9 c k = F c k) ∧ ((F9 hh 8 = F hh 8 ∧ W = FM G) ∨ (F9 hh 8 = 0 ∧ W = up2 (FM G) 1 25 0)) := by
  have hsep : ∀ c k : Nat, w ≤ c → c < w + 100 → ¬ (rd ≤ c ∧ c < rd + 30) ∧ ¬ (c = hh ∧ k = 8) := fun c k y1 y2 => ⟨by omega, by omega⟩
  unfold RDc at hc
  unfold RDx at hr
  rw [h.pa x1] at hc
  by_cases p : PAl t x1.toInt
  · rw [h.rm hI hJ p] at hc
    by_cases q : RMe t x1.toInt
    · have hc := ((hc.resolve_left (fun z => z.2.2 p)).resolve_left (fun z => z.2.2.2 q)).2.2
      have hr := ((hr.resolve_left (fun z => z.2.2.2 p)).resolve_left (fun z => z.2.2.2.2 q)).2.2
      obtain ⟨eW, hr⟩ := hr
      obtain ⟨F1, hF1, hc⟩ := hc
      have hnx := nx_LF (len := (FM G 1 25).toInt) h120 hL
      rw [h25, h.1] at hc
      have o1 : ∀ c k : Nat, ¬ (rd ≤ c ∧ c < rd + 30) → ¬ (c = hh ∧ k = 8) → F1 c k = F c k := fun c k y1 y2 => by rw [hF1 c k (by omega), up2_ne y2]
      have e8 : F1 hh 8 = 0 := by rw [hF1 hh 8 hhr, up2_at]
      have h1 : RT F1 w t := RT_fr h (fun c k y1 y2 _ => o1 c k (hsep c k y1 y2).1 (hsep c k y1 y2).2)
      rcases hc with ⟨z, z1, z2, z3, z4, z5⟩ | ⟨n, z1, z2, z3⟩
      · rw [← RDbd_L hnx] at z3
        rcases hr with ⟨y, y1, y2, y3, y4, y5⟩ | ⟨Fz, n, y1, y2, y3, y4⟩
        · have := RDbd_det z3 y3
          subst this
          subst y5; subst z5
          exact ⟨Int32.toInt_inj.mp (by rw [z4, y4]), h1, hJ, o1 w 3 (hsep w 3 (Nat.le_refl _) (Nat.lt_add_of_pos_right (by decide))).1 (hsep w 3 (Nat.le_refl _) (Nat.lt_add_of_pos_right (by decide))).2, fun c k q1 q2 q3 => o1 c k q2 q3, Or.inr ⟨e8, eW⟩⟩
        · exact (RD_no y1 y2 z3).elim
      · have z1L := z1
        obtain ⟨w1, w2, w3, w4, w5, w6⟩ := z1
        have w5' := w5
        rw [← RDok_L hnx] at w5'
        rcases hr with ⟨y, y1, y2, y3, y4, y5⟩ | ⟨Fz, n', y1, y2, y3, y4⟩
        · exact (RD_no w5' w6 y3).elim
        · obtain ⟨en, hA⟩ := RDok_det w5' w6 y1 y2
          subst en
          obtain ⟨g1, g2, g3, g4, g5, g6⟩ := RL_RQ z1L rfl h1 hI hJ p q hA n F9 t' (Nat.le_refl _) z3 y4
          have o9 : ∀ c k : Nat, ¬ (w ≤ c ∧ c < w + 100) → F9 c k = F1 c k := g1.2.1
          exact ⟨Int32.toInt_inj.mp (by rw [z2, y3]), g2, g4, by rw [g6]; exact o1 w 3 (hsep w 3 (Nat.le_refl _) (Nat.lt_add_of_pos_right (by decide))).1 (hsep w 3 (Nat.le_refl _) (Nat.lt_add_of_pos_right (by decide))).2, fun c k q1 q2 q3 => by rw [o9 c k q1]; exact o1 c k q2 q3, Or.inr ⟨by rw [o9 hh 8 hhw]; exact e8, eW⟩⟩
    · have c := (hc.resolve_left (fun z => z.2.2 p)).resolve_right (fun z => q z.2.1)
      have d := (hr.resolve_left (fun z => z.2.2.2 p)).resolve_right (fun z => q z.2.1)
      obtain ⟨c1, c2, -⟩ := c
      obtain ⟨d1, d2, d3, -⟩ := d
      subst c2; subst d2
      exact ⟨c1.trans d1.symm, h, hJ, rfl, fun _ _ _ _ _ => rfl, Or.inl ⟨rfl, d3⟩⟩
  · have c := hc.resolve_right (fun z => by rcases z with z | z; exact p z.2.2.1; exact p z.1)
    have d := hr.resolve_right (fun z => by rcases z with z | z; exact p z.2.2.2.1; exact p z.1)
    obtain ⟨c1, c2, -⟩ := c
    obtain ⟨d1, d2, d3, -⟩ := d
    subst c2; subst d2
    exact ⟨c1.trans d1.symm, h, hJ, rfl, fun _ _ _ _ _ => rfl, Or.inl ⟨rfl, d3⟩⟩
