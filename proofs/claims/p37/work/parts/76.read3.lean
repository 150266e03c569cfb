/-! ===== reading a box: its row ===== -/
def RX (cm : Int) (F : mF) (o : Int32) : Prop := cm + (F 1 30).toInt < 24 ∧ ((o.toInt = -1 ∧ (F 1 32).toInt ≤ 0) ∨ (0 ≤ o.toInt ∧ 1 ≤ (F 1 32).toInt ∧ o = F 18 ((F 1 32).toInt - 1).toNat ∧ (F 17 (8 * o.toInt.toNat + 7)).toInt ≤ 7))
def ZB (Fa F : mF) (n : Nat) (k : Int) : Prop := RB Fa F n ∧ ∀ j : Nat, 1 ≤ j → (j : Int) < k → (F 17 (8 * n + j)).toInt = 0
def NB (Fa F : mF) (n : Nat) (kd k : Int) : Prop := RB Fa F n ∧ (F 17 (8 * n)).toInt = kd ∧ (F 17 (8 * n + 7)).toInt = 0 ∧ ((F 1 27).toInt = 1 ∨ (kd = 6 → (1 ≤ k → 1 ≤ (F 17 (8 * n + 1)).toInt) ∧ (2 ≤ k → 1 ≤ (F 17 (8 * n + 2)).toInt)))
theorem ZB_0 {Fa F : mF} {n : Nat} {k : Int} (h : RB Fa F n) (hk : k ≤ 1) : ZB Fa F n k := ⟨h, fun j h1 h2 => by omega⟩
theorem ZB_s {Fa F F' : mF} {n idx : Nat} {k k' : Int} {v : Int32} (h : ZB Fa F n k) (h1 : 1 ≤ k) (h7 : k ≤ 7) (hi : (idx : Int) = 8 * (n : Int) + k) (e : F' = up2 F 17 idx v) (hv : v.toInt = 0) (ek : k' = k + 1) : ZB Fa F' n k' := by
  refine ⟨h.1.put (by omega) (by omega) e, fun j q1 q2 => ?_⟩
  by_cases z : 8 * n + j = idx
  · rw [z, e, up2_at]; exact hv
  · rw [e, up2_ne (fun y => z y.2)]; exact h.2 j q1 (by omega)
theorem NB_0 {Fa F F' : mF} {n idx : Nat} {k : Int} {v : Int32} {z : Int} (h : ZB Fa F n k) (h8 : 8 ≤ k) (hi : (idx : Int) = 8 * (n : Int)) (e : F' = up2 F 17 idx v) (hz : z ≤ 0) : NB Fa F' n v.toInt z := by
  have ei : idx = 8 * n := by omega
  refine ⟨h.1.put (by omega) (by omega) e, by rw [e, ei, up2_at], by rw [e, up2_ne (by omega)]; exact h.2 7 (by decide) (by omega), Or.inr (fun _ => ⟨fun q => by omega, fun q => by omega⟩)⟩
theorem NB_s {Fa F F' F'' : mF} {n idx : Nat} {kd k k' : Int} {r : Int32} (h : NB Fa F n kd k) (hb : (F 1 27).toInt = 0) (hr : mRN F F') (hc : (F' 1 27).toInt = 1 ∨ (kd = 6 → 1 ≤ r.toInt)) (h0 : 0 ≤ k) (h3 : k ≤ 3) (hi : (idx : Int) = 8 * (n : Int) + 1 + k) (e : F'' = up2 F' 17 idx r) (ek : k' = k + 1) : NB Fa F'' n kd k' := by
  obtain ⟨h1, h2, h7, h4⟩ := h
  have o : ∀ j : Nat, ¬ 8 * n + j = idx → F'' 17 (8 * n + j) = F 17 (8 * n + j) := fun j q => by rw [e, up2_ne (fun y => q y.2), hr 17 _ (by omega)]
  have o0 := o 0 (by omega)
  rw [Nat.add_zero] at o0
  refine ⟨(h1.rn hr).put (by omega) (by omega) e, by rw [o0]; exact h2, by rw [o 7 (by omega)]; exact h7, ?_⟩
  have e27 : F'' 1 27 = F' 1 27 := by rw [e, up2_ne (by omega)]
  rw [e27]
  rcases hc with hc | hc
  · exact Or.inl hc
  · refine Or.inr (fun q6 => ?_)
    have h4 : (1 ≤ k → 1 ≤ (F 17 (8 * n + 1)).toInt) ∧ (2 ≤ k → 1 ≤ (F 17 (8 * n + 2)).toInt) := by
      rcases h4 with h4 | h4
      · omega
      · exact h4 q6
    have hr6 := hc q6
    constructor
    · intro _
      by_cases z : k = 0
      · rw [show 8 * n + 1 = idx by omega, e, up2_at]; exact hr6
      · rw [o 1 (by omega)]; exact h4.1 (by omega)
    · intro _
      by_cases z : k = 1
      · rw [show 8 * n + 2 = idx by omega, e, up2_at]; exact hr6
      · rw [o 2 (by omega)]; exact h4.2 (by omega)
/-- what is behind a box, whether or not another one comes -/
def RK (Fa F : mF) : Prop := F 1 30 = Fa 1 30 ∧ F 17 = Fa 17
theorem RK_RD {cm : Int} {Fa F : mF} (h : RA cm Fa) (hk : RK Fa F) : RD F (F 1 30).toInt ∧ 1 ≤ (F 1 30).toInt ∧ cm + (F 1 30).toInt ≤ 24 := by
  obtain ⟨h1, h2, h3, h4, h5, h6⟩ := h
  rw [hk.1]
  refine ⟨?_, h1, h2⟩
  unfold RD at *
  have ec : ∀ j n, cn F j n = cn Fa j n := fun j n => cn_eq (fun i _ => by rw [hk.2])
  rw [hk.2]
  simp only [ec]
  exact h6
def RG (Fa F : mF) : Prop := RK Fa F ∧ F 18 = Fa 18 ∧ 0 ≤ (F 1 32).toInt ∧ (F 1 32).toInt ≤ (Fa 1 32).toInt
theorem RG_RV {cm : Int} {Fa F : mF} (h : RA cm Fa) (hg : RG Fa F) (hw : 1 ≤ (F 1 32).toInt) : RV cm F := by
  have hd := RK_RD h hg.1
  obtain ⟨h1, h2, h3, h4, h5, h6⟩ := h
  obtain ⟨⟨g1, g2⟩, g3, g4, g5⟩ := hg
  refine ⟨by omega, hd.2.2, g4, by rw [g1]; omega, Or.inr hw, fun i hi => ?_, hd.1⟩
  rw [g3, g1]; exact h5 i (by omega)
theorem RG_push {cm : Int} {Fa F1 F2 F3 : mF} {p w v n : Int32} {k : Nat} (h : RA cm Fa) (e1 : F1 = up2 Fa 1 26 p) (e2 : F2 = up2 F1 18 k n) (hk : (k : Int) = (Fa 1 32).toInt) (hn : n.toInt = (Fa 1 30).toInt - 1) (e3 : F3 = up2 F2 1 32 v) (hv : v.toInt = (Fa 1 32).toInt + 1) : RV cm F3 ∧ RK Fa F3 := by
  have hk2 : RK Fa F3 := ⟨by rw [e3, up2_ne (by decide), e2, up2_ne (by omega), e1, up2_ne (by decide)], by rw [e3, up2_nc (by decide), e2, up2_nc (by decide), e1, up2_nc (by decide)]⟩
  have hd := RK_RD h hk2
  obtain ⟨h1, h2, h3, h4, h5, h6⟩ := h
  have g32 : (F3 1 32).toInt = (Fa 1 32).toInt + 1 := by rw [e3, up2_at]; exact hv
  refine ⟨⟨by omega, hd.2.2, by omega, by rw [g32, hk2.1]; omega, Or.inr (by omega), fun i hi => ?_, hd.1⟩, hk2⟩
  rw [hk2.1]
  by_cases z : i = k
  · rw [z, e3, up2_ne (by omega), e2, up2_at]; omega
  · rw [e3, up2_ne (by omega), e2, up2_ne (fun y => z y.2), e1, up2_ne (by omega)]
    exact h5 i (by omega)
/-- the boxes that are read are put, one by one -/
def RE (A : Nat → Option (Nat → Int32)) (t : Nat → Int32) (fr k : Int) : Prop := ∃ F : mF, A 17 = some (F 17) ∧ A 1 = some (F 1) ∧ RD F (F 1 30).toInt ∧ fr + (F 1 30).toInt ≤ 24 ∧ k ≤ (F 1 30).toInt ∧ (t 3).toInt = fr + k ∧ ∀ j : Int, 0 ≤ j → j < k → K t (fr + j) 10 = cn F j k.toNat
theorem rd_go {G : tG} {σ : Nat → Nat} {cu : Nat} {a : Nat → Option (Nat → Int32)} {t : Nat → Int32} {F : mF} {s : State} {H : Heap} {locs : List Loc} (hcu : mCu cu) (hG : mGH G (σ, cu, kO PRd (qX (upA a cu t)) F) s H locs) : mGH G (σ, cu, qX (upA (upA (upA a 17 (F 17)) 1 (F 1)) cu t)) s H locs :=
  mGH.le (Y := (σ, cu, kO PRd (qX (upA a cu t)) F)) (Y' := (σ, cu, qX (upA (upA (upA a 17 (F 17)) 1 (F 1)) cu t))) ⟨rfl, rfl, fun c k y e => by
    have e : qX (upA (upA (upA a 17 (F 17)) 1 (F 1)) cu t) c k = some y := e
    show kO PRd (qX (upA a cu t)) F c k = some y
    have hc1 : ¬ cu = 1 ∧ ¬ cu = 17 := by rcases hcu with e | e | e | e <;> subst e <;> decide
    by_cases z : c = 17
    · subst z
      rw [qX_17 (by rw [upA_ne (fun y => hc1.2 y.symm), upA_ne (by decide)]; exact upA_at)] at e
      rw [kO_in PRd_17]; exact e
    · by_cases w : c = 1 ∧ k = 30
      · obtain ⟨rfl, rfl⟩ := w
        rw [qX_30 (by rw [upA_ne (fun y => hc1.1 y.symm)]; exact upA_at)] at e
        rw [kO_in PRd_30]; exact e
      · by_cases v : c = 1
        · rw [v] at e w
          rw [qX_nc (by unfold mCu; decide) (by omega)] at e
          cases e
        · have hu : upA (upA (upA a 17 (F 17)) 1 (F 1)) cu t c = upA a cu t c := by
            by_cases q : c = cu
            · rw [q, upA_at, upA_at]
            · rw [upA_ne q, upA_ne q, upA_ne v, upA_ne z]
          have e2 : qX (upA a cu t) c k = some y := by
            unfold qX at e ⊢
            rw [hu] at e; exact e
          cases hp : PRd c k with
          | false => rw [kO_out hp]; exact e2
          | true =>
            unfold PRd at hp
            simp at hp
            rw [qX_nc (by unfold mCu; omega) (by omega)] at e2
            cases e2⟩ hG
theorem RE_0 {a : Nat → Option (Nat → Int32)} {t : Nat → Int32} {F : mF} {fr k : Int} (h : RD F (F 1 30).toInt) (h2 : fr + (F 1 30).toInt ≤ 24) (h3 : 0 ≤ (F 1 30).toInt) (hf : (t 3).toInt = fr) (hk : k = 0) : RE (upA (upA a 17 (F 17)) 1 (F 1)) t fr k :=
  ⟨F, (upA_ne (by decide)).trans upA_at, upA_at, h, h2, by omega, by omega, fun j h1 h2 => by omega⟩
theorem RE_s {A : Nat → Option (Nat → Int32)} {t t' : Nat → Int32} {fr k k' : Int} {F : mF} {kd p : Int} (hA : A 17 = some (F 17)) (hA1 : A 1 = some (F 1)) (hD : RD F (F 1 30).toInt) (h24 : fr + (F 1 30).toInt ≤ 24) (hk : k < (F 1 30).toInt) (h3 : (t 3).toInt = fr + k) (hc : ∀ j : Int, 0 ≤ j → j < k → K t (fr + j) 10 = cn F j k.toNat) (hf : 0 ≤ fr) (h0 : 0 ≤ k) (hP : PBr t t' kd p) (ek : k' = k + 1) (hp : ((F 17 (8 * k.toNat + 6)).toInt < 0 ∧ p < fr) ∨ (0 ≤ (F 17 (8 * k.toNat + 6)).toInt ∧ p = fr + (F 17 (8 * k.toNat + 6)).toInt)) : RE A t' fr k' := by
  obtain ⟨p1, p2, p3, p4, p5⟩ := hP
  rw [h3] at p1 p2 p3 p4 p5
  refine ⟨F, hA, hA1, hD, h24, by omega, by omega, fun j q1 q2 => ?_⟩
  have hdk := (hD k.toNat (by omega)).1
  have es : cn F j k'.toNat = cn F j k.toNat + if (F 17 (8 * k.toNat + 6)).toInt = j then 1 else 0 := by
    rw [show k'.toNat = k.toNat + 1 by omega]; rfl
  rw [es]
  by_cases z : j = k
  · rw [z, p3, cn_0 (fun i hi => by have := (hD i (by omega)).1; omega), if_neg (by omega)]; rfl
  · have h5 := (p5 (fr + j) (by omega) (by omega) (by omega)).2.2
    have hcj := hc j q1 (by omega)
    by_cases y : (F 17 (8 * k.toNat + 6)).toInt = j
    · rw [if_pos y]; omega
    · rw [if_neg y]; omega
theorem RE_r {F : mF} {k : Int} {fr : Int} {t : Nat → Int32} (hD : RD F (F 1 30).toInt) (hk : k < (F 1 30).toInt) (h0 : 0 ≤ k) (hc : ∀ j : Int, 0 ≤ j → j < k → K t (fr + j) 10 = cn F j k.toNat) (ho : 0 ≤ (F 17 (8 * k.toNat + 6)).toInt) : (F 17 (8 * k.toNat + 6)).toInt < k ∧ K t (fr + (F 17 (8 * k.toNat + 6)).toInt) 10 < 8 := by
  have h1 := (hD k.toNat (by omega)).1
  have h2 : (F 17 (8 * k.toNat + 6)).toInt < k := by omega
  refine ⟨h2, ?_⟩
  have h3 := (hD (F 17 (8 * k.toNat + 6)).toInt.toNat (by omega)).2.2
  have e : (((F 17 (8 * k.toNat + 6)).toInt.toNat : Nat) : Int) = (F 17 (8 * k.toNat + 6)).toInt := by omega
  rw [e] at h3
  have h4 := cn_le (F := F) (j := (F 17 (8 * k.toNat + 6)).toInt) (n := k.toNat + 1) (m := (F 1 30).toInt.toNat) (by omega)
  have h5 : cn F (F 17 (8 * k.toNat + 6)).toInt (k.toNat + 1) = cn F (F 17 (8 * k.toNat + 6)).toInt k.toNat + 1 := by
    show cn F _ k.toNat + (if (F 17 (8 * k.toNat + 6)).toInt = (F 17 (8 * k.toNat + 6)).toInt then 1 else 0) = _
    rw [if_pos rfl]
  rw [hc _ ho h2]
  omega
