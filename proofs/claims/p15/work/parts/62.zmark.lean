/-! ===== MEMOS under marks ===== -/
theorem rmb_0 {t : Nat → Int32} {b w : Int} (h : K t b 21 = 0) : ¬ rmb t b w := by
  have e : t (ix b 21) = 0 := Int32.toInt_inj.mp (show (t (ix b 21)).toInt = (0 : Int32).toInt from h.trans kI_0.symm)
  unfold rmb
  rw [e]
  rintro (⟨-, h⟩ | ⟨-, h⟩)
  · exact h (by unfold bU; decide)
  · exact h (by unfold bU; decide)
/-- a tree put ahead of marks: there was one with right MEMOS, and x alone is told otherwise -/
def RP (t : Nat → Int32) (x : Int) : Prop := ∃ t0 : Nat → Int32, TInv t0 ∧ (∀ b : Int, rCm t b → (rCm t0 b ∧ t (ix b 21) = t0 (ix b 21) ∧ t (ix b 22) = t0 (ix b 22) ∧ t (ix b 23) = t0 (ix b 23)) ∨ (¬ rCm t0 b ∧ K t b 21 = 0)) ∧ (∀ b : Int, rCm t0 b → ¬ b = x → LOC (K t0) (K t) b) ∧ TPI t
theorem RP.p {t : Nat → Int32} {x : Int} (h : RP t x) : TPI t := by
  obtain ⟨t0, -, -, -, h⟩ := h
  exact h
theorem RP_refl {t : Nat → Int32} {x : Int} (hI : TInv t) : RP t x := ⟨t, hI, fun _ hb => Or.inl ⟨hb, rfl, rfl, rfl⟩, fun _ _ _ => LOC.refl, hI.p⟩
theorem RP_gen {ta t : Nat → Int32} {x : Int} (hI : TInv ta) (o : ∀ b j : Int, rCm ta b → ((1 ≤ j ∧ j ≤ 18) ∨ (21 ≤ j ∧ j ≤ 23)) → ¬ (b = x ∧ 10 ≤ j ∧ j ≤ 18) → t (ix b j) = ta (ix b j)) (hn : ∀ b : Int, rCm t b → ¬ rCm ta b → K t b 21 = 0) (hP : TPI t) : RP t x := by
  refine ⟨ta, hI, fun b hb => ?_, fun b hb hx => ?_, hP⟩
  · by_cases q : rCm ta b
    · exact Or.inl ⟨q, o b 21 q (by omega) (by omega), o b 22 q (by omega) (by omega), o b 23 q (by omega) (by omega)⟩
    · exact Or.inr ⟨q, hn b hb q⟩
  · have hk := (K_LOC (t' := ta) hI.z (fun _ _ _ _ _ => rfl)).1
    have kk : ∀ b' j : Int, rCm ta b' → 1 ≤ j → j ≤ 18 → ¬ (b' = x ∧ 10 ≤ j ∧ j ≤ 18) → K t b' j = K ta b' j := fun b' j q1 q2 q3 q4 => by
      show (t (ix b' j)).toInt = (ta (ix b' j)).toInt
      rw [o b' j q1 (by omega) q4]
    have h8 := hI.z.2.2.2.2.2.2.2.2 b hb.1 hb.2.1
    refine ⟨kk b 1 hb (by decide) (by decide) (by omega), kk b 2 hb (by decide) (by decide) (by omega), kk b 3 hb (by decide) (by decide) (by omega), kk b 10 hb (by decide) (by decide) (fun z => hx z.1), fun i i0 i1 => ?_⟩
    have hc := (hk b hb).2 i i0 i1
    exact ⟨kk b (11 + i) hb (by omega) (by omega) (fun z => hx z.1), kk _ 7 hc.2.2 (by decide) (by decide) (by omega), kk _ 8 hc.2.2 (by decide) (by decide) (by omega)⟩
theorem RP_tell {t t' : Nat → Int32} {b k x : Int} {v : Int32} (hI : TInv t) (hb : 0 ≤ b) (h2 : 2 ≤ k) (h8 : k ≤ 8) (e : t' = upN t (ix b k) v) (hx : (k ≤ 5 ∧ x = b) ∨ (6 ≤ k ∧ x = K t b 9)) : RP t' x := by
  have m := (ix_mod hb (by omega : 0 ≤ k) (by omega : k ≤ 37)).2
  have o : ∀ b' j : Int, 0 ≤ b' → 0 ≤ j → j ≤ 37 → ¬ (b' = b ∧ j = k) → t' (ix b' j) = t (ix b' j) := fun b' j q1 q2 q3 q4 => by
    rw [e, upN_ne (fun q => q4 (ix_inj q1 q2 (by omega) hb (by omega) (by omega) q))]
  have kk : ∀ b' j : Int, 0 ≤ b' → 0 ≤ j → j ≤ 37 → ¬ (b' = b ∧ j = k) → K t' b' j = K t b' j := fun b' j q1 q2 q3 q4 => by
    show (t' (ix b' j)).toInt = (t (ix b' j)).toInt
    rw [o b' j q1 q2 q3 q4]
  have e0 : t' 0 = t 0 := by rw [e, upN_ne (by omega)]
  have e3 : t' 3 = t 3 := by rw [e, upN_ne (by omega)]
  have eC : rCm t' = rCm t := rCm_eq e3
  refine ⟨t, hI, fun b' hb' => Or.inl ⟨by rw [← eC]; exact hb', o b' 21 hb'.1 (by decide) (by decide) (by omega), o b' 22 hb'.1 (by decide) (by decide) (by omega), o b' 23 hb'.1 (by decide) (by decide) (by omega)⟩, fun b' hb' hn => ?_, TPI_eq e0 e3 (fun b' q _ => kk b' 9 q (by decide) (by decide) (by omega)) hI.p⟩
  have h10 := hI.z.2.2.2.2.2.2.2.2 b' hb'.1 hb'.2.1
  refine ⟨kk b' 1 hb'.1 (by decide) (by decide) (by omega), kk b' 2 hb'.1 (by decide) (by decide) (by omega), kk b' 3 hb'.1 (by decide) (by decide) (by omega), kk b' 10 hb'.1 (by decide) (by decide) (by omega), fun i i0 i1 => ?_⟩
  have hc := hI.2.2.2.1 b' i hb'.1 hb'.2.1 i0 i1
  have hb0 := hb'.1
  have h9 := hc.2.2
  have h7 : ¬ (K t b' (11 + i) = b ∧ 6 ≤ k) := fun z => by
    rw [z.1] at h9; omega
  exact ⟨kk b' (11 + i) hb'.1 (by omega) (by omega) (by omega), kk _ 7 (by omega) (by decide) (by decide) (by omega), kk _ 8 (by omega) (by decide) (by decide) (by omega)⟩
/-- a way upward that stops: whose MEMO has gone, there its PARENT's has gone too, or is next -/
def MKI (ta t : Nat → Int32) (x v : Int) : Prop := (∀ b : Int, 0 ≤ b → t (ix b 21) = ta (ix b 21) ∨ K t b 21 = 0) ∧ (∀ b : Int, 0 ≤ b → t (ix b 22) = ta (ix b 22) ∧ t (ix b 23) = ta (ix b 23)) ∧ (0 ≤ x → K t x 21 = 0 ∨ v = x) ∧ ∀ b : Int, rCm ta b → ¬ t (ix b 21) = ta (ix b 21) → 0 ≤ K ta b 9 → K t (K ta b 9) 21 = 0 ∨ v = K ta b 9
theorem MKI_0 {t : Nat → Int32} {x : Int} : MKI t t x x := ⟨fun _ _ => Or.inl rfl, fun _ _ => ⟨rfl, rfl⟩, fun _ => Or.inr rfl, fun _ _ h => absurd rfl h⟩
theorem MKI_p {t t' : Nat → Int32} {v : Int} {w : Int32} (hv : 0 ≤ v) (e : t' = upN t (ix v 21) w) (hw : w.toInt = 0) : K t' v 21 = 0 ∧ (∀ b : Int, 0 ≤ b → ¬ b = v → t' (ix b 21) = t (ix b 21)) ∧ (∀ b : Int, 0 ≤ b → K t b 21 = 0 → K t' b 21 = 0) ∧ ∀ b : Int, 0 ≤ b → t' (ix b 22) = t (ix b 22) ∧ t' (ix b 23) = t (ix b 23) := by
  have z : K t' v 21 = 0 := by
    show (t' (ix v 21)).toInt = 0
    rw [e, upN_at]; exact hw
  have o : ∀ b : Int, 0 ≤ b → ¬ b = v → t' (ix b 21) = t (ix b 21) := fun b q1 q2 => by
    rw [e, upN_ne (fun q => q2 (ix_inj q1 (by decide) (by decide) hv (by decide) (by decide) q).1)]
  refine ⟨z, o, fun b q1 q2 => ?_, fun b q1 => ⟨?_, ?_⟩⟩
  · by_cases q : b = v
    · rw [q]; exact z
    · show (t' (ix b 21)).toInt = 0
      rw [o b q1 q]; exact q2
  · rw [e, upN_ne (fun q => by have := (ix_inj q1 (by decide) (by decide) hv (by decide) (by decide) q).2; omega)]
  · rw [e, upN_ne (fun q => by have := (ix_inj q1 (by decide) (by decide) hv (by decide) (by decide) q).2; omega)]
theorem MKI_step {ta t t' : Nat → Int32} {x v : Int} {w : Int32} (h : MKI ta t x v) (hv : 0 ≤ v) (e : t' = upN t (ix v 21) w) (hw : w.toInt = 0) : MKI ta t' x (K ta v 9) := by
  obtain ⟨m1, m2, m3, m4⟩ := h
  obtain ⟨z, o, k, p⟩ := MKI_p hv e hw
  refine ⟨fun b q => ?_, fun b q => ⟨(p b q).1.trans (m2 b q).1, (p b q).2.trans (m2 b q).2⟩, fun q => ?_, fun b q1 q2 q3 => ?_⟩
  · by_cases y : b = v
    · exact Or.inr (by rw [y]; exact z)
    · rcases m1 b q with g | g
      · exact Or.inl ((o b q y).trans g)
      · exact Or.inr (k b q g)
  · rcases m3 q with g | g
    · exact Or.inl (k x q g)
    · exact Or.inl (by rw [← g]; exact z)
  · by_cases y : b = v
    · exact Or.inr (by rw [y])
    · rw [o b q1.1 y] at q2
      rcases m4 b q1 q2 q3 with g | g
      · exact Or.inl (k _ q3 g)
      · exact Or.inl (by rw [← g]; exact z)
theorem MKI_stop {ta t t' : Nat → Int32} {x v : Int} {w : Int32} (h0 : TInv0 ta) (h : MKI ta t x v) (hv : 0 ≤ v) (e : t' = upN t (ix v 21) w) (hw : w.toInt = 0) (hs : K t v 21 = 0 ∨ K ta v 9 < 0) : MKI ta t' x (-1) := by
  obtain ⟨m1, m2, m3, m4⟩ := h
  obtain ⟨z, o, k, p⟩ := MKI_p hv e hw
  refine ⟨fun b q => ?_, fun b q => ⟨(p b q).1.trans (m2 b q).1, (p b q).2.trans (m2 b q).2⟩, fun q => ?_, fun b q1 q2 q3 => ?_⟩
  · by_cases y : b = v
    · exact Or.inr (by rw [y]; exact z)
    · rcases m1 b q with g | g
      · exact Or.inl ((o b q y).trans g)
      · exact Or.inr (k b q g)
  · rcases m3 q with g | g
    · exact Or.inl (k x q g)
    · exact Or.inl (by rw [← g]; exact z)
  · by_cases y : b = v
    · rw [y] at q1 q2 q3 ⊢
      rcases hs with g | g
      · have e1 : t' (ix v 21) = t (ix v 21) := Int32.toInt_inj.mp (show (t' (ix v 21)).toInt = (t (ix v 21)).toInt from z.trans g.symm)
        rw [e1] at q2
        rcases m4 v q1 q2 q3 with y | y
        · exact Or.inl (k _ q3 y)
        · exfalso
          have := (h0.2.2.1 v q1.1 q1.2.2).2
          omega
      · exfalso; omega
    · rw [o b q1.1 y] at q2
      rcases m4 b q1 q2 q3 with g | g
      · exact Or.inl (k _ q3 g)
      · exact Or.inl (by rw [← g]; exact z)
theorem MKI_20 {ta t t' : Nat → Int32} {x v b : Int} {w : Int32} (h : MKI ta t x v) (hb : 0 ≤ b) (e : t' = upN t (ix b 20) w) : MKI ta t' x v := by
  obtain ⟨m1, m2, m3, m4⟩ := h
  have o : ∀ b' k : Int, 0 ≤ b' → 21 ≤ k → k ≤ 23 → t' (ix b' k) = t (ix b' k) := fun b' k q1 q2 q3 => by
    rw [e, upN_ne (fun q => by have := (ix_inj q1 (by omega) (by omega) hb (by decide) (by decide) q).2; omega)]
  have ok : ∀ b' : Int, 0 ≤ b' → K t' b' 21 = K t b' 21 := fun b' q => by
    show (t' (ix b' 21)).toInt = (t (ix b' 21)).toInt
    rw [o b' 21 q (by decide) (by decide)]
  refine ⟨fun b' q => ?_, fun b' q => ?_, fun q => ?_, fun b' q1 q2 q3 => ?_⟩
  · rw [o b' 21 q (by decide) (by decide), ok b' q]; exact m1 b' q
  · rw [o b' 22 q (by decide) (by decide), o b' 23 q (by decide) (by decide)]; exact m2 b' q
  · rw [ok x q]; exact m3 q
  · rw [o b' 21 q1.1 (by decide) (by decide)] at q2
    rw [ok _ q3]; exact m4 b' q1 q2 q3
theorem TPI_top {t : Nat → Int32} {v : Int} (h : TPI t) (e : v = (t 0).toInt) (h0 : 0 ≤ v) (h3 : v < (t 3).toInt) : K t v 9 < 0 := by
  rcases h with h | h
  · omega
  · have := (h v e h0).2; omega
/-- behind the marks the MEMOS are right -/
theorem RINV_mark {ta t : Nat → Int32} {x v : Int} (hI : TInv0 t) (hR : RP ta x) (hA : AG ta t) (hM : MKI ta t x v) (hv : v < 0) : TInv t := by
  obtain ⟨t0, i0, r1, r2, r3⟩ := hR
  obtain ⟨m1, m2, m3, m4⟩ := hM
  have eC : rCm t = rCm ta := rCm_eq hA.2.1
  have hk := (K_LOC (t' := t0) i0.z (fun _ _ _ _ _ => rfl)).1
  have hk' := (K_LOC (t' := t) hI (fun _ _ _ _ _ => rfl)).1
  have hK : ∀ b k : Int, 0 ≤ b → 0 ≤ k → k ≤ 18 → K t b k = K ta b k := fun b k q1 q2 q3 => hA.K q1 q2 q3
  have hz : 0 ≤ x → K t x 21 = 0 := fun q => (m3 q).resolve_right (by omega)
  have hin : ∀ b w : Int, rCm t b → (w = 0 ∨ w = 1) → rmb t b w → rCm t0 b ∧ rmb t0 b w ∧ rmv t b w = rmv t0 b w := fun b w hb hw hm => by
    have e := (m1 b hb.1).resolve_right (fun q => rmb_0 q hm)
    have hb2 : rCm ta b := by rw [← eC]; exact hb
    rcases r1 b hb2 with ⟨g1, g2, g3, g4⟩ | ⟨g1, g2⟩
    · have e1 : t (ix b 21) = t0 (ix b 21) := e.trans g2
      refine ⟨g1, by unfold rmb at hm ⊢; rw [← e1]; exact hm, ?_⟩
      obtain ⟨s1, s2⟩ := m2 b hb.1
      show (t (ix b (22 + w))).toInt = (t0 (ix b (22 + w))).toInt
      rcases hw with q | q
      · subst q; rw [show (22 : Int) + 0 = 22 from rfl, s1, g3]
      · subst q; rw [show (22 : Int) + 1 = 23 from rfl, s2, g4]
    · exact absurd hm (rmb_0 (by show (t (ix b 21)).toInt = 0; rw [e]; exact g2))
  have hL : ∀ b : Int, rCm t0 b → ¬ b = x → LOC (K t0) (K t) b := fun b hb hn => by
    obtain ⟨q1, q2, q3, q10, qk⟩ := r2 b hb hn
    have h8 := i0.z.2.2.2.2.2.2.2.2 b hb.1 hb.2.1
    refine ⟨(hK b 1 hb.1 (by decide) (by decide)).trans q1, (hK b 2 hb.1 (by decide) (by decide)).trans q2, (hK b 3 hb.1 (by decide) (by decide)).trans q3, (hK b 10 hb.1 (by decide) (by decide)).trans q10, fun i j0 j1 => ?_⟩
    obtain ⟨z1, z2, z3⟩ := qk i j0 j1
    have hc := (hk b hb).2 i j0 j1
    have hb0 := hb.1
    exact ⟨(hK b (11 + i) hb.1 (by omega) (by omega)).trans z1, (hK _ 7 (by omega) (by decide) (by decide)).trans z2, (hK _ 8 (by omega) (by decide) (by decide)).trans z3⟩
  refine hI.mk ⟨?_, TPI_eq hA.1 hA.2.1 (fun b q _ => hK b 9 q (by decide) (by decide)) r3⟩
  refine MINV_mark (n0 := x) hk hk' i0.r hin (fun w _ hb hm => rmb_0 (hz hb.1) hm) (fun b w i w' hb hw hm q0 q1 _ hc => ?_) (fun b _ hb hn => hL b hb hn)
  have hbx : ¬ b = x := fun e => rmb_0 (hz (by rw [← e]; exact hb.1)) (by rw [← e]; exact hm)
  obtain ⟨g1, -, -⟩ := hin b w hb hw hm
  have hLb := hL b g1 hbx
  have e10 : K t b 10 = K t0 b 10 := hLb.2.2.2.1
  have q1' : i < K t0 b 10 := by rw [← e10]; exact q1
  have ech : K t b (11 + i) = K t0 b (11 + i) := (hLb.2.2.2.2 i q0 q1').1
  have hcc := ((hk b g1).2 i q0 q1').2.2
  rw [← ech] at hcc
  have hc' := (hk' b hb).2 i q0 q1
  have p9 := (hI.2.2.2.1 b i hb.1 hb.2.1 q0 q1).2.2
  obtain ⟨c, ec⟩ : ∃ c : Int, c = K t b (11 + i) := ⟨_, rfl⟩
  rw [← ec] at hc hcc hc' p9 ⊢
  have hca : rCm ta c := by rw [← eC]; exact hc'.2.2
  have e21 : t (ix c 21) = ta (ix c 21) := by
    by_cases z : t (ix c 21) = ta (ix c 21)
    · exact z
    · exfalso
      have e9 : K ta c 9 = b := by rw [← hK c 9 hca.1 (by decide) (by decide)]; exact p9
      have h0 := hb.1
      rcases m4 c hca z (by rw [e9]; exact h0) with q | q
      · rw [e9] at q; exact rmb_0 q hm
      · rw [e9] at q; omega
  rcases r1 c hca with ⟨y1, y2, -, -⟩ | ⟨y1, -⟩
  · unfold rmb at hc ⊢
    rw [e21, y2]; exact hc
  · exact absurd hcc y1
/-- whose MEMO is 0 from 0 on, below k -/
def CLR (t : Nat → Int32) (k : Int) : Prop := ∀ j : Int, 0 ≤ j → j < k → K t j 21 = 0
theorem CLR_0 {t : Nat → Int32} : CLR t (0 : Int32).toInt := fun j q1 q2 => by rw [kI_0] at q2; omega
theorem CLR_s {t t1 t2 : Nat → Int32} {i z : Int} {v w : Int32} (h : CLR t i) (hi : 0 ≤ i) (e1 : t1 = upN t (ix i 21) v) (hv : v.toInt = 0) (e2 : t2 = upN t1 (ix i 20) w) (ez : z = i + 1) : CLR t2 z := fun j q1 q2 => by
  show (t2 (ix j 21)).toInt = 0
  rw [e2, upN_ne (fun q => by have := (ix_inj q1 (by decide) (by decide) hi (by decide) (by decide) q).2; omega), e1]
  by_cases y : j = i
  · rw [y, upN_at]; exact hv
  · rw [upN_ne (fun q => y (ix_inj q1 (by decide) (by decide) hi (by decide) (by decide) q).1)]
    exact h j q1 (by omega)
/-- one MEMO more has gone, and none of a smaller number is there -/
theorem TInv_clr {t t' : Nat → Int32} {i : Int} {v : Int32} (hI : TInv t) (hi : 0 ≤ i) (hC : CLR t i) (e : t' = upN t (ix i 21) v) (hv : v.toInt = 0) : TInv t' := by
  have hA : AG t t' := by rw [e]; exact AG.put hi (by decide) (by decide)
  have hI' := TInv0_AG hA hI.z
  have z : K t' i 21 = 0 := by
    show (t' (ix i 21)).toInt = 0
    rw [e, upN_at]; exact hv
  have o : ∀ b k : Int, 0 ≤ b → 21 ≤ k → k ≤ 23 → ¬ (b = i ∧ k = 21) → t' (ix b k) = t (ix b k) := fun b k q1 q2 q3 q4 => by
    rw [e, upN_ne (fun q => q4 (ix_inj q1 (by omega) (by omega) hi (by decide) (by decide) q))]
  obtain ⟨hk, hL⟩ := K_LOC (t' := t') hI.z (fun b k h1 h2 h3 => hA.2.2 b k h1 h2 h3)
  refine hI'.mk ⟨?_, TPI_eq hA.1 hA.2.1 (fun b q _ => hA.K q (by decide) (by decide)) hI.p⟩
  rw [rCm_eq hA.2.1]
  intro b w hb hw hm
  have hbi : ¬ b = i := fun q => rmb_0 z (by rw [← q]; exact hm)
  have e21 := o b 21 hb.1 (by decide) (by decide) (fun q => hbi q.1)
  have hm0 : rmb t b w := by unfold rmb at hm ⊢; rw [← e21]; exact hm
  have hgt : i < b := by
    by_cases q : b < i
    · exact absurd hm0 (rmb_0 (hC b hb.1 q))
    · omega
  obtain ⟨g1, g2⟩ := hI.r b w hb hw hm0
  refine ⟨?_, fun h6 j q0 q1 => ?_⟩
  · rw [asT_cg hk hL _ b w (Nat.le_refl _) hb, ← g1]
    show (t' (ix b (22 + w))).toInt = (t (ix b (22 + w))).toInt
    rw [o b (22 + w) hb.1 (by omega) (by omega) (by omega)]
  · rw [(hL b hb).1] at h6 ⊢
    rw [(hL b hb).2.2.2.1] at q1
    rw [((hL b hb).2.2.2.2 j q0 q1).1]
    have hc := (hk b hb).2 j q0 q1
    have hb0 := hb.1
    have h7 := g2 h6 j q0 q1
    unfold rmb at h7 ⊢
    rw [o _ 21 (by omega) (by decide) (by decide) (by omega)]
    exact h7
