/-! ===== printing: each box once ===== -/
def PP (c k : Nat) : Bool := PC c k || (c == 1 && k == 34)
theorem PP_cu {cu : Nat} (h : mCu cu) (k : Nat) : PP cu k = false := by
  rcases h with e | e | e | e <;> subst e <;> rfl
theorem PP_tr {cu : Nat} (h : mCu cu) : ∀ k, tr k = true → PP cu k = false := fun k _ => PP_cu h k
theorem PP_d : PP 1 18 = true := rfl
theorem PP_p : PP 1 34 = true := rfl
theorem PP_10 {k : Nat} : PP 10 k = true := rfl
theorem PP_11 {k : Nat} : PP 11 k = true := rfl
theorem PP_19 {k : Nat} : PP 19 k = false := rfl
theorem PP_qn {a : Nat → Option (Nat → Int32)} (c k : Nat) (h : PP c k = true) : qX a c k = none := by
  unfold PP PC at h
  simp at h
  exact qX_nc (by unfold mCu; omega) (by omega)
def PQ (F F' : mF) (n : Int) : Prop := (F' 1 34).toInt ≤ (F 1 34).toInt + n ∧ 0 ≤ (F' 1 34).toInt ∧ F' 1 18 = F 1 18 ∧ F' 10 = F 10 ∧ F' 11 = F 11
theorem PQ_1 {F F' : mF} {v : Int32} (e : F' = up2 F 1 34 v) (h : v.toInt = (F 1 34).toInt + 1) (h0 : 0 ≤ v.toInt) : PQ F F' 1 := by
  subst e
  exact ⟨by rw [up2_at]; omega, by rw [up2_at]; exact h0, up2_ne (by decide), up2_nc (by decide), up2_nc (by decide)⟩
theorem PQ.trans {F F' F'' : mF} {n m k : Int} (h : PQ F F' n) (h' : PQ F' F'' m) (hk : n + m ≤ k) : PQ F F'' k :=
  ⟨by have := h.1; have := h'.1; omega, h'.2.1, h'.2.2.1.trans h.2.2.1, h'.2.2.2.1.trans h.2.2.2.1, h'.2.2.2.2.trans h.2.2.2.2⟩
theorem PQ.refl {F : mF} {n : Int} (h : 0 ≤ n) (h0 : 0 ≤ (F 1 34).toInt) : PQ F F n := ⟨by omega, h0, rfl, rfl, rfl⟩
theorem PQ.le {F F' : mF} {n m : Int} (h : PQ F F' n) (hk : n ≤ m) : PQ F F' m := ⟨by have := h.1; omega, h.2⟩
def du (F : mF) (i : Nat) : Nat := if (F 11 (F 10 i).toNatClampNeg).toInt = 0 then 21 else 1
def PI (t : Nat → Int32) (x : Int) (F : mF) (V : Nat → Nat) : Prop := LI F ∧ (∀ b, V b ≤ 1) ∧ (1 ≤ (F 1 18).toInt → (F 10 0).toInt = x) ∧ (∀ i : Nat, (i : Int) < (F 1 18).toInt → V (F 10 i).toInt.toNat = 1)
  ∧ (∀ b : Int, 0 ≤ b → b ≤ 23 → V b.toNat = 1 → b = x ∨ (0 ≤ K t b 9 ∧ V (K t b 9).toNat = 1 ∧ ∃ i : Int, 0 ≤ i ∧ i < (F 11 (K t b 9).toNat).toInt ∧ K t (K t b 9) (11 + i) = b))
  ∧ 0 ≤ (F 1 34).toInt ∧ (F 1 34).toInt + ((ms (du F) (F 1 18).toInt.toNat : Nat) : Int) ≤ 22 * ((ms V 24 : Nat) : Int)
def PJ (t : Nat → Int32) (x : Int) (F : mF) : Prop := ∃ V, PI t x F V
theorem ms_one {V V' : Nat → Nat} {n c : Nat} (hc : c < n) (h0 : V c = 0) (e : V' = fun b => if b = c then 1 else V b) : ms V' n = ms V n + 1 := by
  induction n with
  | zero => omega
  | succ n ih =>
    show ms V' n + V' n = ms V n + V n + 1
    by_cases z : c = n
    · have h1 : ms V' n = ms V n := ms_eq (fun i hi => by rw [e]; exact if_neg (by omega))
      have h2 : V' n = 1 := by rw [e]; exact if_pos z.symm
      rw [h1, h2, ← z, h0]
    · have h1 := ih (by omega)
      have h2 : V' n = V n := by rw [e]; exact if_neg (fun y => z y.symm)
      rw [h1, h2]; omega
theorem PI.le {t : Nat → Int32} {x : Int} {F : mF} (h : PJ t x F) : (F 1 34).toInt ≤ 528 ∧ 0 ≤ (F 1 34).toInt := by
  obtain ⟨V, h1, h2, -, -, -, h6, h7⟩ := h
  have := ms_bd (f := V) (n := 24) (k := 1) (fun i _ => h2 i)
  omega
/-- room for one more step: one box may be printed, and two signs -/
theorem PJ_room {t : Nat → Int32} {x : Int} {F : mF} (h : PJ t x F) : (F 1 34).toInt ≤ 600 ∧ 0 ≤ (F 1 34).toInt ∧ LI F := by
  have h2 := PI.le h
  obtain ⟨V, h1, -⟩ := h
  exact ⟨by omega, h2.2, h1⟩
theorem PJ_0 {t : Nat → Int32} {x F F1 F2 F3 F4} {c v w u : Int32} (e1 : F1 = up2 F 1 34 v) (hv : v.toInt = 0) (e2 : F2 = up2 F1 1 18 w) (hw : w.toInt = 1) (e3 : F3 = up2 F2 10 0 c) (e4 : F4 = up2 F3 11 c.toNatClampNeg u) (hu : u.toInt = 0) (hx : c.toInt = x) (h0 : 0 ≤ x) (h23 : x ≤ 23) : PJ t x F4 := by
  have g18 : F4 1 18 = w := by rw [e4, up2_ne (by omega), e3, up2_ne (by omega), e2, up2_at]
  have g34 : F4 1 34 = v := by rw [e4, up2_ne (by omega), e3, up2_ne (by omega), e2, up2_ne (by decide), e1, up2_at]
  have g10 : F4 10 0 = c := by rw [e4, up2_ne (by omega), e3, up2_at]
  have g11 : F4 11 c.toNatClampNeg = u := by rw [e4, up2_at]
  refine ⟨fun b => if b = x.toNat then 1 else 0, ⟨by rw [g18]; omega, by rw [g18, hw]; exact Stk.one (by rw [g10]; omega) (by rw [g10]; omega), fun i hi => ?_⟩, fun b => by show (if b = x.toNat then 1 else 0) ≤ 1; split <;> decide, fun _ => by rw [g10]; exact hx, fun i hi => ?_, fun b h1 h2 h3 => ?_, by rw [g34]; omega, ?_⟩
  · have e : i = 0 := by rw [g18, hw] at hi; omega
    subst e
    rw [g10, g11]; omega
  · have e : i = 0 := by rw [g18, hw] at hi; omega
    subst e
    rw [g10, hx]; exact if_pos rfl
  · by_cases z : b.toNat = x.toNat
    · exact Or.inl (by omega)
    · have h3 : (if b.toNat = x.toNat then 1 else 0) = 1 := h3
      rw [if_neg z] at h3; omega
  · rw [g18, g34, hw, hv]
    have hm : ms (fun b => if b = x.toNat then 1 else 0) 24 = 1 := by
      have := ms_one (V := fun _ => 0) (n := 24) (c := x.toNat) (by omega) rfl rfl
      rw [this]; rfl
    rw [hm]
    have hd : ms (du F4) (1 : Int).toNat = du F4 0 := by show 0 + du F4 0 = du F4 0; omega
    rw [hd]
    unfold du
    rw [g10, g11, hu]; decide
theorem PJ_pop {t : Nat → Int32} {x : Int} {F F2 F3 : mF} {n : Nat} {b i v : Int32} {p : Int} (h : PJ t x F) (hd : 1 ≤ (F 1 18).toInt) (hn : (n : Int) = (F 1 18).toInt - 1) (hb : b = F 10 n) (hi : i = F 11 b.toNatClampNeg) (hq : PQ F F2 p) (hp : (i.toInt = 0 ∧ p ≤ 21) ∨ (¬ i.toInt = 0 ∧ p ≤ 1)) (e3 : F3 = up2 F2 1 18 v) (hv : v.toInt = (F2 1 18).toInt - 1) : PJ t x F3 ∧ LM F3 < LM F := by
  obtain ⟨V, h1, h2, h3, h4, h5, h6, h7⟩ := h
  obtain ⟨q1, q2, q3, q4, q5⟩ := hq
  have g18 : (F3 1 18).toInt = (F 1 18).toInt - 1 := by rw [e3, up2_at, hv, q3]
  have g10 : F3 10 = F 10 := by rw [e3, up2_nc (by decide), q4]
  have g11 : F3 11 = F 11 := by rw [e3, up2_nc (by decide), q5]
  have g34 : F3 1 34 = F2 1 34 := by rw [e3, up2_ne (by decide)]
  have hs := LI_step (t3 := 0) (F' := F3) h1 hd hn hb (Or.inl ⟨g18, g10, g11⟩)
  refine ⟨⟨V, hs.1, h2, fun q => by rw [g10]; exact h3 (by omega), fun j hj => by rw [g10]; exact h4 j (by omega), fun c w1 w2 w3 => by rw [g11]; exact h5 c w1 w2 w3, by rw [g34]; exact q2, ?_⟩, hs.2⟩
  rw [g18, g34]
  have ed : ms (du F3) ((F 1 18).toInt - 1).toNat = ms (du F) n := by
    rw [show ((F 1 18).toInt - 1).toNat = n by omega]
    exact ms_eq (fun j _ => by unfold du; rw [g10, g11])
  rw [ed]
  rw [show (F 1 18).toInt.toNat = n + 1 by omega] at h7
  have hdu : du F n = if i.toInt = 0 then 21 else 1 := by unfold du; rw [← hb, ← hi]
  have h8 : (F 1 34).toInt + ((ms (du F) n + du F n : Nat) : Int) ≤ 22 * ((ms V 24 : Nat) : Int) := h7
  rw [hdu] at h8
  rcases hp with ⟨w1, w2⟩ | ⟨w1, w2⟩
  · rw [if_pos w1] at h8; omega
  · rw [if_neg w1] at h8; omega
theorem PJ_push {t : Nat → Int32} {x : Int} {F F2 F3 F4 F5 F6 : mF} {n : Nat} {b i c s' d u v : Int32} {p : Int} (hI : TInv t) (h : PJ t x F) (hd : 1 ≤ (F 1 18).toInt) (hn : (n : Int) = (F 1 18).toInt - 1) (hb : b = F 10 n) (hi : i = F 11 b.toNatClampNeg) (hq : PQ F F2 p) (hp : (i.toInt = 0 ∧ p ≤ 21) ∨ (¬ i.toInt = 0 ∧ p ≤ 1)) (him : i.toInt < K t b.toInt 10) (hc : c.toInt = K t b.toInt (11 + i.toInt))
    (e3 : F3 = up2 F2 11 b.toNatClampNeg s') (hs' : s'.toInt = i.toInt + 1) (e4 : F4 = up2 F3 10 d.toNatClampNeg c) (ed : d = F 1 18) (e5 : F5 = up2 F4 11 c.toNatClampNeg u) (hu : u = 0) (e6 : F6 = up2 F5 1 18 v) (hv : v.toInt = (F 1 18).toInt + 1) : PJ t x F6 ∧ LM F6 < LM F := by
  obtain ⟨V, h1, h2, h3, h4, h5, h6, h7⟩ := h
  obtain ⟨q1, q2, q3, q4, q5⟩ := hq
  have hS := h1.2.1
  have hle := hS.le
  have hbn := hS n (by omega)
  rw [← hb] at hbn
  have hR := h1.2.2 n (by omega)
  rw [← hb, ← hi] at hR
  have h8b := hI.2.2.2.2.2.2.2.2 b.toInt (by omega) (by omega)
  have hch := hI.2.2.2.1 b.toInt i.toInt (by omega) (by omega) hR.1 him
  rw [← hc] at hch
  have ht3 := hI.1
  have n18 : d.toNatClampNeg = n + 1 := by rw [ed]; show (F 1 18).toInt.toNat = n + 1; omega
  have hcb : ¬ c.toNatClampNeg = b.toNatClampNeg := by show ¬ c.toInt.toNat = b.toInt.toNat; omega
  -- the stack as in laying
  let Fm : mF := fun c' k' => if c' = 1 ∧ k' = 18 then F6 1 18 else if c' = 10 then F6 10 k' else if c' = 11 then F6 11 k' else F c' k'
  have g18 : (F6 1 18).toInt = (F 1 18).toInt + 1 := by rw [e6, up2_at]; exact hv
  have g10 : F6 10 = upN (F 10) (n + 1) c := by rw [e6, up2_nc (by decide), e5, up2_nc (by decide), e4, up2_c, e3, up2_nc (by decide), q4, n18]
  have g11 : F6 11 = upN (upN (F 11) b.toNatClampNeg s') c.toNatClampNeg u := by rw [e6, up2_nc (by decide), e5, up2_c, e4, up2_nc (by decide), e3, up2_c, q5]
  have g34 : F6 1 34 = F2 1 34 := by rw [e6, up2_ne (by decide), e5, up2_ne (by omega), e4, up2_ne (by omega), e3, up2_ne (by omega)]
  have hsp : SP (t 3).toInt b F F6 := by
    refine Or.inr ⟨up2 F 11 b.toNatClampNeg s', s', c, rfl, by rw [← hi]; omega, by omega, Or.inr ⟨by rw [up2_ne (by omega)]; exact g18, ?_, ?_⟩, by omega, by omega, by omega⟩
    · rw [g10, up2_nc (by decide), up2_ne (by omega), ← ed, n18]
    · rw [g11, up2_c, hu]
  have hst := LI_step h1 hd hn hb hsp
  have hVc : V c.toInt.toNat = 0 := by
    have h2c := h2 c.toInt.toNat
    by_cases z : V c.toInt.toNat = 1
    · exfalso
      have hx : (F 10 0).toInt = x := h3 hd
      have hx2 : x ≤ b.toInt := by
        by_cases y : n = 0
        · rw [y] at hb; rw [hb, hx]; exact Int.le_refl _
        · have := hbn.2.2 0 (by omega); omega
      rcases h5 c.toInt (by omega) (by omega) z with w | ⟨w0, w1, j, w2, w3, w4⟩
      · omega
      · rw [hch.2.2] at w3 w4
        have hbi : (F 11 b.toInt.toNat).toInt = i.toInt := by rw [hi]; rfl
        rw [hbi] at w3
        exact hI.2.2.2.2.1 b.toInt j i.toInt (by omega) (by omega) w2 w3 him (by rw [w4, hc])
    · omega
  have hVb : V b.toInt.toNat = 1 := by have := h4 n (by omega); rw [← hb] at this; exact this
  refine ⟨⟨fun k => if k = c.toInt.toNat then 1 else V k, hst.1, fun k => ?_, fun _ => ?_, fun j hj => ?_, fun k w1 w2 w3 => ?_, by rw [g34]; exact q2, ?_⟩, hst.2⟩
  · show (if k = c.toInt.toNat then 1 else V k) ≤ 1
    split
    · decide
    · exact h2 k
  · rw [g10, upN_ne (by omega)]; exact h3 hd
  · show (if (F6 10 j).toInt.toNat = c.toInt.toNat then 1 else V (F6 10 j).toInt.toNat) = 1
    by_cases z : j = n + 1
    · rw [z, g10, upN_at, if_pos rfl]
    · rw [g10, upN_ne z]
      split
      · rfl
      · exact h4 j (by omega)
  · have w3 : (if k.toNat = c.toInt.toNat then 1 else V k.toNat) = 1 := w3
    by_cases z : k = c.toInt
    · refine Or.inr ⟨?_, ?_, i.toInt, hR.1, ?_, ?_⟩
      · rw [z, hch.2.2]; omega
      · show (if (K t k 9).toNat = c.toInt.toNat then 1 else V (K t k 9).toNat) = 1
        rw [z, hch.2.2, if_neg (by omega)]; exact hVb
      · rw [z, hch.2.2, g11]
        have e9 : b.toInt.toNat = b.toNatClampNeg := rfl
        rw [e9, upN_ne (fun y => hcb y.symm), upN_at]; omega
      · rw [z, hch.2.2, ← hc]
    · rw [if_neg (by omega)] at w3
      rcases h5 k w1 w2 w3 with y | ⟨y0, y1, j, y2, y3, y4⟩
      · exact Or.inl y
      · refine Or.inr ⟨y0, ?_, j, y2, ?_, y4⟩
        · show (if (K t k 9).toNat = c.toInt.toNat then 1 else V (K t k 9).toNat) = 1
          split
          · rfl
          · exact y1
        · have hpc : ¬ (K t k 9).toNat = c.toNatClampNeg := fun y => by
            have : (K t k 9).toNat = c.toInt.toNat := y
            rw [this, hVc] at y1; omega
          rw [g11, upN_ne hpc]
          by_cases y : (K t k 9).toNat = b.toNatClampNeg
          · rw [y, upN_at]
            rw [y, ← hi] at y3
            omega
          · rw [upN_ne y]; exact y3
  · have hms := ms_one (V := V) (n := 24) (c := c.toInt.toNat) (by omega) hVc rfl
    rw [hms, g18, g34]
    rw [show ((F 1 18).toInt + 1).toNat = n + 2 by omega]
    have ed0 : ms (du F6) n = ms (du F) n := ms_eq (fun j hj => by
      unfold du
      have hjn := hbn.2.2 j hj
      have hj0 := hS j (by omega)
      have a1 : ¬ (F 10 j).toNatClampNeg = c.toNatClampNeg := by show ¬ (F 10 j).toInt.toNat = c.toInt.toNat; omega
      have a2 : ¬ (F 10 j).toNatClampNeg = b.toNatClampNeg := by show ¬ (F 10 j).toInt.toNat = b.toInt.toNat; omega
      rw [g10, upN_ne (by omega), g11, upN_ne a1, upN_ne a2])
    have ed1 : du F6 n = 1 := by
      unfold du
      rw [g10, upN_ne (by omega), ← hb, g11, upN_ne (fun y => hcb y.symm), upN_at, if_neg (by omega)]
    have ed2 : du F6 (n + 1) = 21 := by
      unfold du
      rw [g10, upN_at, g11, upN_at, hu]; rfl
    rw [show (F 1 18).toInt.toNat = n + 1 by omega] at h7
    have hdu : du F n = if i.toInt = 0 then 21 else 1 := by unfold du; rw [← hb, ← hi]
    have h8 : (F 1 34).toInt + ((ms (du F) n + du F n : Nat) : Int) ≤ 22 * ((ms V 24 : Nat) : Int) := h7
    show (F2 1 34).toInt + ((ms (du F6) n + du F6 n + du F6 (n + 1) : Nat) : Int) ≤ _
    rw [ed0, ed1, ed2]
    rw [hdu] at h8
    rcases hp with ⟨w1, w2⟩ | ⟨w1, w2⟩
    · rw [if_pos w1] at h8; omega
    · rw [if_neg w1] at h8; omega
