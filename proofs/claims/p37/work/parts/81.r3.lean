/-! ===== drops ===== -/
theorem In_0 {t : Nat → Int32} {n : Int} : In t n n := ⟨0, rfl, fun m hm => by omega⟩
/-- one up -/
theorem In_up {t : Nat → Int32} {n y x : Int} (h : In t n y) (h0 : 0 ≤ y) (e : K t y 9 = x) : In t n x := by
  obtain ⟨m, h1, h2⟩ := h
  refine ⟨m + 1, by show K t (ip t m n) 9 = x; rw [h1, e], fun m' hm => ?_⟩
  by_cases z : m' = m
  · rw [z, h1]; exact h0
  · exact h2 m' (by omega)
theorem ip_s {t : Nat → Int32} {n : Int} : ∀ m : Nat, ip t m (K t n 9) = ip t (m + 1) n
  | 0 => rfl
  | m + 1 => by
    show K t (ip t m (K t n 9)) 9 = K t (ip t (m + 1) n) 9
    rw [ip_s m]
/-- one down -/
theorem In_dn {t : Nat → Int32} {n x : Int} (h : In t (K t n 9) x) (h0 : 0 ≤ n) : In t n x := by
  obtain ⟨m, h1, h2⟩ := h
  refine ⟨m + 1, by rw [← ip_s]; exact h1, fun m' hm => ?_⟩
  cases m' with
  | zero => exact h0
  | succ k => rw [← ip_s]; exact h2 k (by omega)
theorem In_st {t : Nat → Int32} {n x : Int} (h : In t n x) (hne : ¬ n = x) : In t (K t n 9) x := by
  obtain ⟨m, h1, h2⟩ := h
  cases m with
  | zero => exact absurd h1 hne
  | succ k => exact ⟨k, by rw [ip_s]; exact h1, fun m' hm => by rw [ip_s]; exact h2 (m' + 1) (by omega)⟩
theorem ip_eq {t t' : Nat → Int32} {n : Int} (h : ∀ b : Int, 0 ≤ b → K t' b 9 = K t b 9) : ∀ m : Nat, (∀ m', m' < m → 0 ≤ ip t m' n) → ip t' m n = ip t m n
  | 0, _ => rfl
  | m + 1, hm => by
    show K t' (ip t' m n) 9 = K t (ip t m n) 9
    rw [ip_eq h m (fun m' q => hm m' (by omega))]
    exact h _ (hm m (by omega))
theorem In_K {t t' : Nat → Int32} {n x : Int} (h : ∀ b : Int, 0 ≤ b → K t' b 9 = K t b 9) (hi : In t n x) : In t' n x := by
  obtain ⟨m, h1, h2⟩ := hi
  exact ⟨m, by rw [ip_eq h m h2]; exact h1, fun m' hm => by rw [ip_eq h m' (fun k q => h2 k (by omega))]; exact h2 m' hm⟩
/-- a BOX that is there: so are all around it -/
theorem ip_al {t : Nat → Int32} {n : Int} (hI : TInv t) (hJ : TJ t) (hn : AL t n) : ∀ m : Nat, (∀ m', m' < m → 0 ≤ ip t m' n) → 0 ≤ ip t m n → AL t (ip t m n) ∧ ip t m n + (m : Int) ≤ n
  | 0, _, _ => ⟨hn, by show n + ((0 : Nat) : Int) ≤ n; omega⟩
  | m + 1, h, h0 => by
    have h1 := ip_al hI hJ hn m (fun m' q => h m' (by omega)) (h m (by omega))
    have h2 := hJ.1 _ h1.1 h0
    have h3 := (hI.2.2.1 (ip t m n) h1.1.1 (hI.2.1 _ h1.1.1 h1.1.2.1 h1.1.2.2)).2
    refine ⟨h2, ?_⟩
    show K t (ip t m n) 9 + _ ≤ _
    omega
theorem In_al {t : Nat → Int32} {n x : Int} (hI : TInv t) (hJ : TJ t) (hn : AL t n) (h : In t n x) (h0 : 0 ≤ x) : AL t x ∧ x ≤ n := by
  obtain ⟨m, h1, h2⟩ := h
  have := ip_al hI hJ hn m h2 (by rw [h1]; exact h0)
  rw [h1] at this
  exact ⟨this.1, by omega⟩
/-- the class's way down, the reference's way up -/
theorem sb_In {F : mF} {w : Nat} {t : Nat → Int32} {n : Nat} (h : RT F w t) (hI : TInv t) (hJ : TJ t) : ∀ (d : Nat) (x : Int), AL t x → sbF F w d (bA w x.toNat) n → In t (n : Int) x
  | 0, _, _, hs => hs.elim
  | d + 1, x, hx, hs => by
    have hb := h.box hx
    rcases hs with q | ⟨j, q1, q2⟩
    · rw [h.2.2.2.1 x.toNat (by have := hx.2.1; omega)] at q
      have : (n : Int) = x := by have := hx.1; omega
      rw [this]; exact In_0
    · rw [hb.2.2.2.2.2.1] at q1
      have e := hb.2.2.2.2.2.2.2 j q1
      have hk := hJ.2.1 x j hx (by omega) q1
      have h4 := (hI.2.2.2.1 x j hx.1 hx.2.1 (by omega) q1).2.2
      have q2 : sbF F w d (w + 1 + (3 + 4 * (F (bA w x.toNat + 2) j).toInt.toNat)) n := q2
      rw [e] at q2
      exact In_up (sb_In h hI hJ d _ hk q2) hk.1 h4
theorem In_sb {F : mF} {w : Nat} {t : Nat → Int32} {n : Nat} (h : RT F w t) (hI : TInv t) (hJ : TJ t) (hn : AL t (n : Int)) : ∀ (m d : Nat), m < d → (∀ m', m' < m → 0 ≤ ip t m' n) → 0 ≤ ip t m n → sbF F w d (bA w (ip t m n).toNat) n
  | 0, d, hd, _, _ => by
    cases d with
    | zero => omega
    | succ d =>
      refine Or.inl ?_
      show n = (F (bA w ((n : Int)).toNat) 0).toInt.toNat
      rw [h.2.2.2.1 ((n : Int)).toNat (by have := hn.2.1; omega)]
      omega
  | m + 1, d, hd, h2, h0 => by
    cases d with
    | zero => omega
    | succ d =>
      have hm := ip_al hI hJ hn m (fun m' q => h2 m' (by omega)) (h2 m (by omega))
      have hx : AL t (ip t (m + 1) n) := (ip_al hI hJ hn (m + 1) h2 h0).1
      have hb := h.box hx
      obtain ⟨i, i1, i2, i3⟩ := hI.2.2.2.2.2.1 (ip t m n) hm.1.1 hm.1.2.1 hm.1.2.2 h0
      have i2 : i < K t (ip t (m + 1) n) 10 := i2
      have i3 : K t (ip t (m + 1) n) (11 + i) = ip t m n := i3
      refine Or.inr ⟨i.toNat, by rw [hb.2.2.2.2.2.1]; omega, ?_⟩
      have e := hb.2.2.2.2.2.2.2 i.toNat (by omega)
      rw [show ((i.toNat : Nat) : Int) = i by omega, i3] at e
      have e2 : (F (bA w (ip t (m + 1) n).toNat + 2) i.toNat).toNatClampNeg = (ip t m n).toNat := by
        show (F (bA w (ip t (m + 1) n).toNat + 2) i.toNat).toInt.toNat = _
        rw [e]
      rw [e2]
      exact In_sb h hI hJ hn m d (by omega) (fun m' q => h2 m' (by omega)) (h2 m (by omega))
theorem sb_iff {F : mF} {w n : Nat} {t : Nat → Int32} {x : Int} (h : RT F w t) (hI : TInv t) (hJ : TJ t) (hx : AL t x) (hn : AL t (n : Int)) : sbF F w 24 (bA w x.toNat) n ↔ In t (n : Int) x := by
  constructor
  · exact sb_In h hI hJ 24 x hx
  · rintro ⟨m, h1, h2⟩
    have h0 : 0 ≤ ip t m n := by rw [h1]; exact hx.1
    have := (ip_al hI hJ hn m h2 h0).2
    have := hn.2.1
    have hs := In_sb h hI hJ hn m 24 (by omega) h2 h0
    rw [h1] at hs
    exact hs
theorem rmF_o {F : mF} {b c k : Nat} {pl : Int32} (h : ¬ (c = b ∧ k = 10)) (h2 : ¬ c = b + 2) : rmF F b pl c k = F c k := by
  unfold rmF
  rw [up2_ne h, upR_ne (by omega)]
theorem rmF_k {F : mF} {b k : Nat} {pl : Int32} (h0 : 0 ≤ pl.toInt) (h1 : pl.toInt < (F b 10).toInt) (h8 : (F b 10).toInt ≤ 8) (hk : (k : Int) < (F b 10).toInt - 1) : rmF F b pl (b + 2) k = if (k : Int) < pl.toInt then F (b + 2) k else F (b + 2) (k + 1) := by
  have t1 := tn_sub (z := F b 10 - pl) rfl rfl rfl (by omega) (by omega)
  have t2 := tn_sub (z := F b 10 - pl - 1) rfl t1 kI_1 (by omega) (by omega)
  have t3 := tn_add (z := pl + 1) rfl rfl kI_1 (by omega) (by omega)
  have e1 : pl.toNatClampNeg = pl.toInt.toNat := rfl
  have e2 : (F b 10 - pl - 1).toNatClampNeg = (F b 10 - pl - 1).toInt.toNat := rfl
  have e3 : (pl + 1).toNatClampNeg = (pl + 1).toInt.toNat := rfl
  unfold rmF
  rw [up2_ne (by omega)]
  by_cases z : (k : Int) < pl.toInt
  · rw [if_pos z, upR_ne (by rw [e1]; omega)]
  · rw [if_neg z, upR_in ⟨rfl, by rw [e1]; omega, by rw [e1, e2]; omega⟩]
    congr 1
    rw [e1, e3]; omega
def DPc (F F9 : mF) (w : Nat) (x1 r : Int32) : Prop := (r = -1 ∧ F9 = F ∧ ¬ (0 ≤ x1.toInt ∧ x1.toInt ≤ 23 ∧ tB (F w 4) x1.toInt.toNat)) ∨ ((0 ≤ x1.toInt ∧ x1.toInt ≤ 23 ∧ tB (F w 4) x1.toInt.toNat) ∧ ∃ th : Int32, (∀ n : Nat, tB th n ↔ tB (F w 4) n ∧ ¬ sbF F w 24 (w + 1 + (3 + 4 * x1.toNatClampNeg)) n) ∧ r = bcE (F w 4) - bcE th ∧ (((0 ≤ (F (w + 1 + (3 + 4 * x1.toNatClampNeg)) 5).toInt ∧ (F (w + 1 + (3 + 4 * x1.toNatClampNeg)) 5).toInt ≤ 23 ∧ tB th (F (w + 1 + (3 + 4 * x1.toNatClampNeg)) 5).toInt.toNat) ∧ ∃ pl : Int32, (0 ≤ pl.toInt ∧ pl.toInt < (F (w + 1 + (3 + 4 * (F (w + 1 + (3 + 4 * x1.toNatClampNeg)) 5).toNatClampNeg)) 10).toInt ∧ (F ((w + 1 + (3 + 4 * (F (w + 1 + (3 + 4 * x1.toNatClampNeg)) 5).toNatClampNeg)) + 2) pl.toInt.toNat).toInt = x1.toInt ∧ ∀ j : Nat, (j : Int) < pl.toInt → ¬ (F ((w + 1 + (3 + 4 * (F (w + 1 + (3 + 4 * x1.toNatClampNeg)) 5).toNatClampNeg)) + 2) j).toInt = x1.toInt) ∧ F9 = rmF (up2 F w 4 th) (w + 1 + (3 + 4 * (F (w + 1 + (3 + 4 * x1.toNatClampNeg)) 5).toNatClampNeg)) pl) ∨ (¬ (0 ≤ (F (w + 1 + (3 + 4 * x1.toNatClampNeg)) 5).toInt ∧ (F (w + 1 + (3 + 4 * x1.toNatClampNeg)) 5).toInt ≤ 23 ∧ tB th (F (w + 1 + (3 + 4 * x1.toNatClampNeg)) 5).toInt.toNat) ∧ F9 = up2 (up2 F w 4 th) w 9 (-1))))
/-- the pre of the class's drops -/
theorem RT.in {F : mF} {w : Nat} {t : Nat → Int32} (h : RT F w t) (hI : TInv t) (hJ : TJ t) {x : Int32} (hx : AL t x.toInt) (h0 : 0 ≤ (F (w + 1 + (3 + 4 * x.toNatClampNeg)) 5).toInt) : ∃ j : Nat, (j : Int) < (F (w + 1 + (3 + 4 * (F (w + 1 + (3 + 4 * x.toNatClampNeg)) 5).toNatClampNeg)) 10).toInt ∧ (F ((w + 1 + (3 + 4 * (F (w + 1 + (3 + 4 * x.toNatClampNeg)) 5).toNatClampNeg)) + 2) j).toInt = x.toInt := by
  have e5 := (h.bx hx).2.1
  have hp := hJ.1 _ hx (by rw [← e5]; exact h0)
  obtain ⟨i, i1, i2, i3⟩ := hI.2.2.2.2.2.1 _ hx.1 hx.2.1 hx.2.2 (by rw [← e5]; exact h0)
  have hp2 := hp
  rw [← e5] at hp2
  have hb := h.bx hp2
  rw [e5] at hb
  refine ⟨i.toNat, by rw [hb.2.2.2.2.2.1]; omega, ?_⟩
  have e := hb.2.2.2.2.2.2.2 i.toNat (by omega)
  rw [show ((i.toNat : Nat) : Int) = i by omega, i3] at e
  exact e
theorem RT.ne5 {F : mF} {w : Nat} {t : Nat → Int32} (h : RT F w t) (hI : TInv t) {x : Int32} (hx : AL t x.toInt) : ¬ (F (w + 1 + (3 + 4 * x.toNatClampNeg)) 5).toInt = x.toInt := by
  have e5 := (h.bx hx).2.1
  have := (hI.2.2.1 _ hx.1 (hI.2.1 _ hx.1 hx.2.1 hx.2.2)).2
  rw [e5]; omega
/-- what remains behind drops() -/
theorem TJ_drop {t t1 : Nat → Int32} {x : Int} (hI : TInv t) (hJ : TJ t) (hx : AL t x) (e0 : 0 ≤ K t x 9 → t1 0 = t 0) (e0' : K t x 9 < 0 → (t1 0).toInt = -1) (hA : ∀ b : Int, AL t1 b ↔ AL t b ∧ ¬ In t b x) (hK : ∀ b j : Int, 0 ≤ b → b ≤ 23 → 1 ≤ j → j ≤ 18 → ¬ (b = K t x 9 ∧ 10 ≤ j) → K t1 b j = K t b j) (hp : 0 ≤ K t x 9 → ∀ i : Int, 0 ≤ i → i < K t1 (K t x 9) 10 → ∃ i', 0 ≤ i' ∧ i' < K t (K t x 9) 10 ∧ K t1 (K t x 9) (11 + i) = K t (K t x 9) (11 + i') ∧ ¬ K t (K t x 9) (11 + i') = x) : TJ t1 := by
  have hkid : ∀ b i : Int, AL t b → ¬ In t b x → 0 ≤ i → i < K t b 10 → ¬ K t b (11 + i) = x → AL t1 (K t b (11 + i)) := fun b i hb hb2 h0 h1 h2 => by
    have h4 := (hI.2.2.2.1 b i hb.1 hb.2.1 h0 h1).2.2
    refine (hA _).mpr ⟨hJ.2.1 b i hb h0 h1, fun q => hb2 ?_⟩
    have := In_st q h2
    rw [h4] at this
    exact this
  refine ⟨fun b hb h0 => ?_, fun b i hb h0 h1 => ?_, fun h0 => ?_, fun b hb => ?_⟩
  · obtain ⟨hb1, hb2⟩ := (hA b).mp hb
    rw [hK b 9 hb.1 hb.2.1 (by decide) (by decide) (by omega)] at h0 ⊢
    exact (hA _).mpr ⟨hJ.1 b hb1 h0, fun q => hb2 (In_dn q hb.1)⟩
  · obtain ⟨hb1, hb2⟩ := (hA b).mp hb
    by_cases z : b = K t x 9
    · subst z
      obtain ⟨i', y1, y2, y3, y4⟩ := hp hb.1 i h0 h1
      rw [y3]
      exact hkid _ i' hb1 hb2 y1 y2 y4
    · have h8 := (TI10 hI hb.1 hb.2.1).2
      rw [hK b 10 hb.1 hb.2.1 (by decide) (by decide) (by omega)] at h1
      rw [hK b (11 + i) hb.1 hb.2.1 (by omega) (by omega) (by omega)]
      refine hkid b i hb1 hb2 h0 h1 (fun q => z ?_)
      have h4 := (hI.2.2.2.1 b i hb.1 hb.2.1 h0 h1).2.2
      rw [q] at h4
      exact h4.symm
  · by_cases z : 0 ≤ K t x 9
    · rw [e0 z] at h0 ⊢
      obtain ⟨g1, g2⟩ := hJ.2.2.1 h0
      have hn : ¬ In t (t 0).toInt x := fun q => by
        by_cases y : (t 0).toInt = x
        · rw [y] at g2; omega
        · have q := In_st q y
          rw [g2] at q
          obtain ⟨m, m1, m2⟩ := q
          cases m with
          | zero => have m1 : (-1 : Int) = x := m1; have := hx.1; omega
          | succ m => have := m2 0 (by omega); have this : (0 : Int) ≤ -1 := this; omega
      have ha := (hA _).mpr ⟨g1, hn⟩
      exact ⟨ha, by rw [hK _ 9 ha.1 ha.2.1 (by decide) (by decide) (by omega)]; exact g2⟩
    · rw [e0' (by omega)] at h0; omega
  · obtain ⟨hb1, hb2⟩ := (hA b).mp hb
    rw [hK b 1 hb.1 hb.2.1 (by decide) (by decide) (by omega)]
    exact hJ.2.2.2 b hb1
theorem RL_drops {F F9 : mF} {w : Nat} {t t' : Nat → Int32} {x1 r r' : Int32} (h : RT F w t) (hI : TInv t) (hJ : TJ t) (hc : DPc F F9 w x1 r) (hr : DPx t t' x1.toInt r') : (AL t x1.toInt ∨ r = r') ∧ RT F9 w t' ∧ TJ t' := by
  unfold DPc at hc
  unfold DPx at hr
  rw [h.al x1] at hc
  by_cases ha : AL t x1.toInt
  · have hc := (hc.resolve_left (fun z => z.2.2 ha)).2
    have hr := (hr.resolve_left (fun z => z.2.2 ha)).2
    obtain ⟨thc, c1, -, c2⟩ := hc
    obtain ⟨th, t1, o, hcu, hbt, hgn, hag⟩ := hr
    obtain ⟨u1, u2, u3, u4, u5⟩ := hcu
    obtain ⟨g1, g2, g3, g4, -⟩ := hgn
    obtain ⟨p, ep⟩ : ∃ p, p = K t x1.toInt 9 := ⟨_, rfl⟩
    rw [← ep] at u1 u2 u4 u5
    have hb := h.bx ha
    have hx3 := hI.2.2.1 _ ha.1 (hI.2.1 _ ha.1 ha.2.1 ha.2.2)
    rw [← ep] at hx3
    have uK : ∀ b j : Int, 0 ≤ b → 0 ≤ j → j ≤ 18 → ¬ (b = p ∧ 10 ≤ j) → K th b j = K t b j := fun b j q1 q2 q3 q4 => congrArg Int32.toInt (u4 b j q1 q2 (by omega) (by omega))
    have gK : ∀ b j : Int, 0 ≤ b → b ≤ 23 → 1 ≤ j → j ≤ 18 → K t1 b j = K th b j := fun b j q1 q2 q3 q4 => congrArg Int32.toInt (g3 b j q1 q2 q3 q4)
    have i9 : ∀ b : Int, 0 ≤ b → K th b 9 = K t b 9 := fun b q => uK b 9 q (by decide) (by decide) (by omega)
    have hIn : ∀ n : Int, In th n x1.toInt ↔ In t n x1.toInt := fun n => ⟨In_K (fun b q => (i9 b q).symm), In_K i9⟩
    have hA : ∀ b : Int, AL t1 b ↔ AL t b ∧ ¬ In t b x1.toInt := fun b => by
      constructor
      · rintro ⟨a1, a2, a3⟩
        have eb : ((b.toNat : Nat) : Int) = b := by omega
        obtain ⟨k1, k2⟩ := g4 b.toNat (by omega)
        have ho := hbt b.toNat (by omega)
        rw [eb] at k1 k2 ho
        by_cases z : b < 24 ∧ tB o b.toNat
        · rw [k1 z] at a3; omega
        · rw [k2 z] at a3
          refine ⟨⟨a1, a2, by rw [← uK b 0 a1 (by decide) (by decide) (by omega)]; exact a3⟩, fun q => z ⟨by omega, ho.mpr ⟨by omega, a3, (hIn b).mpr q⟩⟩⟩
      · rintro ⟨⟨a1, a2, a3⟩, a4⟩
        have eb : ((b.toNat : Nat) : Int) = b := by omega
        obtain ⟨k1, k2⟩ := g4 b.toNat (by omega)
        have ho := hbt b.toNat (by omega)
        rw [eb] at k1 k2 ho
        have hz : ¬ (b < 24 ∧ tB o b.toNat) := fun z => a4 ((hIn b).mp (ho.mp z.2).2.2)
        exact ⟨a1, a2, by rw [k2 hz, uK b 0 a1 (by decide) (by decide) (by omega)]; exact a3⟩
    have hK1 : ∀ b j : Int, 0 ≤ b → b ≤ 23 → 1 ≤ j → j ≤ 18 → ¬ (b = p ∧ 10 ≤ j) → K t1 b j = K t b j := fun b j q1 q2 q3 q4 q5 => (gK b j q1 q2 q3 q4).trans (uK b j q1 (by omega) q4 q5)
    have hp23 : p ≤ 23 := by have := ha.2.1; omega
    have hp : 0 ≤ p → ∀ i : Int, 0 ≤ i → i < K t1 p 10 → ∃ i', 0 ≤ i' ∧ i' < K t p 10 ∧ K t1 p (11 + i) = K t p (11 + i') ∧ ¬ K t p (11 + i') = x1.toInt := fun q i i0 i1 => by
      obtain ⟨y1, w1, w2, w3, w4, y2⟩ := u5 q
      have h8 := (TI10 hI q hp23).2
      rw [gK p 10 q hp23 (by decide) (by decide), y1] at i1
      obtain ⟨y3, y4⟩ := y2 i i0 i1
      have e := gK p (11 + i) q hp23 (by omega) (by omega)
      by_cases z : i < w1
      · exact ⟨i, i0, by omega, by rw [e]; exact y3 z, by rw [← w4]; exact hI.2.2.2.2.1 p i w1 q hp23 i0 z w3⟩
      · refine ⟨i + 1, by omega, by omega, by rw [e, y4 (by omega), Int.add_assoc], ?_⟩
        rw [← w4]
        exact fun y => hI.2.2.2.2.1 p w1 (i + 1) q hp23 w2 (by omega) (by omega) y.symm
    have hJ1 : TJ t1 := TJ_drop hI hJ ha (by rw [← ep]; exact fun q => g1.trans (u1 q)) (by rw [← ep]; exact fun q => by rw [g1]; exact u2 q) hA (by rw [← ep]; exact hK1) (by rw [← ep]; exact hp)
    have h8 : ∀ b : Int, 0 ≤ b → b ≤ 23 → K t1 b 10 ≤ 8 := fun b q1 q2 => by
      by_cases z : b = p
      · rw [z]
        rw [z] at q1 q2
        have := (u5 q1).1
        rw [gK p 10 q1 q2 (by decide) (by decide), this]
        have := (TI10 hI q1 q2).2
        omega
      · rw [hK1 b 10 q1 q2 (by decide) (by decide) (by omega)]; exact (TI10 hI q1 q2).2
    have hth : ∀ n : Nat, tB thc n ↔ n ≤ 23 ∧ K t1 (n : Int) 0 = 1 := fun n => by
      rw [c1 n, h.bit n]
      constructor
      · rintro ⟨q1, q2⟩
        have := (hA (n : Int)).mpr ⟨q1, fun q => q2 ((sb_iff h hI hJ ha q1).mpr q)⟩
        have := this.2.1
        exact ⟨by omega, ‹AL t1 (n : Int)›.2.2⟩
      · rintro ⟨q1, q2⟩
        have := (hA (n : Int)).mp ⟨by omega, by omega, q2⟩
        exact ⟨this.1, fun q => this.2 ((sb_iff h hI hJ ha this.1).mp q)⟩
    refine ⟨Or.inl ha, ?_⟩
    suffices hs : RT F9 w t1 from ⟨RT_AG hs h8 hag, TJ_AG hJ1 h8 hag⟩
    obtain ⟨h1, h2, h3, h4, h5⟩ := h
    have e5 := hb.2.1
    rw [← ep] at e5
    have ec5 : (F (w + 1 + (3 + 4 * x1.toNatClampNeg)) 5).toNatClampNeg = p.toNat := by
      show (F (w + 1 + (3 + 4 * x1.toNatClampNeg)) 5).toInt.toNat = _
      rw [e5]
    rw [e5, ec5] at c2
    by_cases hp0 : 0 ≤ p
    · have hpa : AL t p := by rw [ep]; exact hJ.1 _ ha (by rw [← ep]; exact hp0)
      have hpn : ¬ In t p x1.toInt := fun q => by
        have := (In_al hI hJ hpa q ha.1).2
        omega
      have hpb : tB thc p.toNat := (hth _).mpr ⟨by omega, by rw [show ((p.toNat : Nat) : Int) = p by omega]; exact ((hA p).mpr ⟨hpa, hpn⟩).2.2⟩
      obtain ⟨-, pl, ⟨l1, l2, l3, -⟩, c9⟩ := c2.resolve_right (fun z => z.1 ⟨hp0, hp23, hpb⟩)
      obtain ⟨y1, w1, w2, w3, w4, y2⟩ := u5 hp0
      have hbp : BXR F (bA w p.toNat) t p := RT.box ⟨h1, h2, h3, h4, h5⟩ hpa
      have l2 : pl.toInt < (F (bA w p.toNat) 10).toInt := l2
      have hbp10 := hbp.2.2.2.2.2.1
      have l3 : (F (bA w p.toNat + 2) pl.toInt.toNat).toInt = x1.toInt := l3
      rw [hbp.2.2.2.2.2.2.2 pl.toInt.toNat (by omega), show ((pl.toInt.toNat : Nat) : Int) = pl.toInt by omega] at l3
      have elw : pl.toInt = w1 := by
        apply Classical.byContradiction
        intro z
        by_cases y : pl.toInt < w1
        · exact hI.2.2.2.2.1 p pl.toInt w1 hp0 hp23 l1 y w3 (by rw [l3, w4])
        · exact hI.2.2.2.2.1 p w1 pl.toInt hp0 hp23 w2 (by omega) (by omega) (by rw [l3, w4])
      have c9 : F9 = rmF (up2 F w 4 thc) (bA w p.toNat) pl := c9
      have o : ∀ c k : Nat, ¬ (c = bA w p.toNat ∧ k = 10) → ¬ c = bA w p.toNat + 2 → ¬ (c = w ∧ k = 4) → F9 c k = F c k := fun c k q1 q2 q3 => by rw [c9, rmF_o q1 q2, up2_ne q3]
      have hbp8 := (TI10 hI hp0 hp23).2
      have e10 : up2 F w 4 thc (bA w p.toNat) 10 = F (bA w p.toNat) 10 := up2_ne (by unfold bA; omega)
      have e2 : ∀ k, up2 F w 4 thc (bA w p.toNat + 2) k = F (bA w p.toNat + 2) k := fun k => up2_ne (by unfold bA; omega)
      have ok : ∀ k : Nat, (k : Int) < K t p 10 - 1 → F9 (bA w p.toNat + 2) k = if (k : Int) < pl.toInt then F (bA w p.toNat + 2) k else F (bA w p.toNat + 2) (k + 1) := fun k hk => by
        rw [c9, rmF_k l1 (by rw [e10]; exact l2) (by rw [e10]; omega) (by rw [e10]; omega), e2, e2]
      have o10 : (F9 (bA w p.toNat) 10).toInt = K t p 10 - 1 := by
        rw [c9, rmF_10, e10]
        exact tn_sub rfl hbp10 kI_1 (by omega) (by omega)
      refine ⟨by rw [o w 8 (by unfold bA; omega) (by unfold bA; omega) (by omega), g2, u3]; exact h1, by rw [o w 9 (by unfold bA; omega) (by unfold bA; omega) (by omega), g1, u1 hp0]; exact h2, fun n => ?_, fun n hn => ?_, fun n hn hna => ?_⟩
      · rw [show F9 w 4 = thc by rw [c9, rmF_o (by unfold bA; omega) (by unfold bA; omega), up2_at]]
        exact hth n
      · rw [o _ 0 (by omega) (by unfold bA; omega) (by unfold bA; omega)]; exact h4 n hn
      · have hna2 := ((hA (n : Int)).mp ⟨by omega, by omega, hna⟩).1
        obtain ⟨b1, b2, b3, b4, b5, b6, b7, b8⟩ := h5 n hn hna2.2.2
        have kk := fun j q1 q2 q3 => hK1 n j (by omega) (by omega) q1 q2 q3
        refine ⟨by rw [o _ 4 (by omega) (by unfold bA; omega) (by unfold bA; omega), kk 1 (by decide) (by decide) (by omega)]; exact b1, by rw [o _ 5 (by omega) (by unfold bA; omega) (by unfold bA; omega), kk 9 (by decide) (by decide) (by omega)]; exact b2, by rw [o _ 7 (by omega) (by unfold bA; omega) (by unfold bA; omega), kk 6 (by decide) (by decide) (by omega)]; exact b3, by rw [o _ 8 (by omega) (by unfold bA; omega) (by unfold bA; omega), kk 7 (by decide) (by decide) (by omega)]; exact b4, by rw [o _ 9 (by omega) (by unfold bA; omega) (by unfold bA; omega), kk 8 (by decide) (by decide) (by omega)]; exact b5, ?_, fun j hj => by rw [o _ j (by unfold bA; omega) (by unfold bA; omega) (by unfold bA; omega), kk _ (by omega) (by omega) (by omega)]; exact b7 j hj, fun j hj => ?_⟩
        · by_cases z : (n : Int) = p
          · have zn : n = p.toNat := by omega
            rw [z, zn, o10, gK p 10 hp0 hp23 (by decide) (by decide), y1]
          · rw [o _ 10 (by unfold bA; omega) (by unfold bA; omega) (by unfold bA; omega), kk 10 (by decide) (by decide) (by omega)]; exact b6
        · by_cases z : (n : Int) = p
          · have zn : n = p.toNat := by omega
            rw [z] at hj b8 ⊢
            rw [zn] at b8 ⊢
            rw [gK p 10 hp0 hp23 (by decide) (by decide), y1] at hj
            rw [ok j hj, gK p (11 + (j : Int)) hp0 hp23 (by omega) (by omega)]
            obtain ⟨y3, y4⟩ := y2 j (by omega) hj
            by_cases y : (j : Int) < pl.toInt
            · rw [if_pos y, y3 (by omega)]
              exact b8 j (by omega)
            · rw [if_neg y, y4 (by omega)]
              have := b8 (j + 1) (by omega)
              rw [this, show (11 : Int) + ((j + 1 : Nat) : Int) = 11 + (j : Int) + 1 by omega]
          · rw [kk 10 (by decide) (by decide) (by omega)] at hj
            have := (TI10 hI (b := (n : Int)) (by omega) (by omega)).2
            rw [o _ j (by unfold bA; omega) (by unfold bA; omega) (by unfold bA; omega), kk _ (by omega) (by omega) (by omega)]
            exact b8 j hj
    · have c9 := (c2.resolve_left (fun z => hp0 z.1.1)).2
      have o : ∀ c k : Nat, ¬ (c = w ∧ (k = 4 ∨ k = 9)) → F9 c k = F c k := fun c k q => by rw [c9, up2_ne (by omega), up2_ne (by omega)]
      refine ⟨by rw [o w 8 (by omega), g2, u3]; exact h1, ?_, fun n => ?_, fun n hn => ?_, fun n hn hna => ?_⟩
      · rw [c9, up2_at, g1, u2 (by omega)]; decide
      · rw [show F9 w 4 = thc by rw [c9, up2_ne (by omega), up2_at]]
        exact hth n
      · rw [o _ 0 (by unfold bA; omega)]; exact h4 n hn
      · have hna2 := ((hA (n : Int)).mp ⟨by omega, by omega, hna⟩).1
        have e : BXR F9 (bA w n) t (n : Int) := by
          obtain ⟨b1, b2, b3, b4, b5, b6, b7, b8⟩ := h5 n hn hna2.2.2
          refine ⟨by rw [o _ 4 (by unfold bA; omega)]; exact b1, by rw [o _ 5 (by unfold bA; omega)]; exact b2, by rw [o _ 7 (by unfold bA; omega)]; exact b3, by rw [o _ 8 (by unfold bA; omega)]; exact b4, by rw [o _ 9 (by unfold bA; omega)]; exact b5, by rw [o _ 10 (by unfold bA; omega)]; exact b6, fun j hj => by rw [o _ j (by unfold bA; omega)]; exact b7 j hj, fun j hj => by rw [o _ j (by unfold bA; omega)]; exact b8 j hj⟩
        obtain ⟨b1, b2, b3, b4, b5, b6, b7, b8⟩ := e
        have kk := fun j q1 q2 => hK1 n j (by omega) (by omega) q1 q2 (by omega)
        have := (TI10 hI (b := (n : Int)) (by omega) (by omega)).2
        exact ⟨by rw [kk 1 (by decide) (by decide)]; exact b1, by rw [kk 9 (by decide) (by decide)]; exact b2, by rw [kk 6 (by decide) (by decide)]; exact b3, by rw [kk 7 (by decide) (by decide)]; exact b4, by rw [kk 8 (by decide) (by decide)]; exact b5, by rw [kk 10 (by decide) (by decide)]; exact b6, fun j hj => by rw [kk _ (by omega) (by omega)]; exact b7 j hj, fun j hj => by rw [kk 10 (by decide) (by decide)] at hj; rw [kk _ (by omega) (by omega)]; exact b8 j hj⟩
  · have c := hc.resolve_right (fun z => ha z.1)
    have d := hr.resolve_right (fun z => ha z.1)
    rw [c.2.1, d.2.1]
    exact ⟨Or.inr (c.1.trans d.1.symm), h, hJ⟩
