/-! ===== lists of children while they are changed; a new box ===== -/
theorem qX_put {G : tG} {σ : Nat → Nat} {cu : Nat} {a : Nat → Option (Nat → Int32)} {t : Nat → Int32} {s : State} {H : Heap} {locs : List Loc} {k : Nat} {v : Int32} (hc : mCu cu) (hG : mGH G (mSet (σ, cu, qX (upA a cu t)) cu k (some v)) s H locs) : mGH G (σ, cu, qX (upA a cu (upN t k v))) s H locs := by
  cases hk : tr k with
  | true => exact qX_set hc hk hG
  | false =>
    have h1 : mGH G (σ, cu, qX (upA a cu t)) s H locs := hG.le (mSet_none (Y := (σ, cu, qX (upA a cu t))) (qX_nk (mCu_20 hc) hk))
    have e : qX (upA a cu (upN t k v)) = qX (upA a cu t) := by
      funext c' k'
      unfold qX
      by_cases y : ((c' = 2 ∨ c' = 3 ∨ c' = 4 ∨ c' = 5) ∧ tr k' = true) ∨ (c' = 20 ∨ c' = 17 ∨ (c' = 1 ∧ k' = 30))
      · rw [if_pos y, if_pos y]
        by_cases e : c' = cu
        · subst e
          rw [upA_at, upA_at]
          show some (upN t k v k') = some (t k')
          have hne : ¬ k' = k := fun w => by
            rcases y with y | y
            · rw [w, hk] at y; exact absurd y.2 (by decide)
            · exact mCu_20 hc y
          rw [upN_ne hne]
        · rw [upA_ne e, upA_ne e]
      · rw [if_neg y, if_neg y]
    rw [e]; exact h1
theorem fR_0 {k : Nat} (h : k < 38) : (fR k).1 ≤ 0 ∧ 0 ≤ (fR k).2 := by
  have aux : ∀ k, k < 38 → (fR k).1 ≤ 0 ∧ 0 ≤ (fR k).2 := by decide
  exact aux k h
/-- the new box n: its fields so far; all else as it was -/
def ZI (ta t : Nat → Int32) (n k : Int) : Prop := (t 3).toInt = n + 1 ∧ t 0 = ta 0 ∧ (∀ j : Int, 0 ≤ j → j < k → (t (ix n j)).toInt = 0) ∧ ∀ b j : Int, 0 ≤ b → ¬ b = n → 0 ≤ j → j ≤ 37 → t (ix b j) = ta (ix b j)
theorem ZI_0 {ta t : Nat → Int32} {n : Int} {v : Int32} (e : t = upN ta 3 v) (hv : v.toInt = n + 1) : ZI ta t n (0 : Int32).toInt := by
  refine ⟨by rw [e, upN_at]; exact hv, by rw [e, upN_ne (by decide)], fun j h1 h2 => by rw [kI_0] at h2; omega, fun b j h1 _ h3 h4 => ?_⟩
  have := (ix_mod h1 h3 h4).2
  rw [e, upN_ne (by omega)]
theorem ZI_s {ta t t' : Nat → Int32} {n : Int} {k z : Int32} {v : Int32} (h : ZI ta t n k.toInt) (hn : 0 ≤ n) (h0 : 0 ≤ k.toInt) (h37 : k.toInt ≤ 37) (ez : z.toInt = k.toInt + 1) (e : t' = upN t (ix n k.toInt) v) (hv : v.toInt = 0) : ZI ta t' n z.toInt := by
  obtain ⟨h1, h2, h3, h4⟩ := h
  have hm := (ix_mod hn h0 h37).2
  refine ⟨by rw [e, upN_ne (by omega)]; exact h1, by rw [e, upN_ne (by omega)]; exact h2, fun j g1 g2 => ?_, fun b j g1 g2 g3 g4 => ?_⟩
  · by_cases w : j = k.toInt
    · rw [w, e, upN_at]; exact hv
    · rw [e, upN_ne (fun q => w (ix_inj hn g1 (by omega) hn h0 (by omega) q).2)]
      exact h3 j g1 (by omega)
  · rw [e, upN_ne (fun q => g2 (ix_inj g1 g3 (by omega) hn h0 (by omega) q).1)]
    exact h4 b j g1 g2 g3 g4
def BX (ta t : Nat → Int32) (n v0 v1 v2 v3 v9 v10 : Int) : Prop := (t 3).toInt = n + 1 ∧ t 0 = ta 0 ∧ (∀ b j : Int, 0 ≤ b → ¬ b = n → 0 ≤ j → j ≤ 37 → t (ix b j) = ta (ix b j)) ∧ K t n 0 = v0 ∧ K t n 1 = v1 ∧ K t n 2 = v2 ∧ K t n 3 = v3 ∧ K t n 9 = v9 ∧ K t n 10 = v10
theorem BX_z {ta t : Nat → Int32} {n k : Int} (h : ZI ta t n k) (hk : 38 ≤ k) : BX ta t n 0 0 0 0 0 0 :=
  ⟨h.1, h.2.1, h.2.2.2, h.2.2.1 0 (by decide) (by omega), h.2.2.1 1 (by decide) (by omega), h.2.2.1 2 (by decide) (by omega), h.2.2.1 3 (by decide) (by omega), h.2.2.1 9 (by decide) (by omega), h.2.2.1 10 (by decide) (by omega)⟩
theorem BX_p {ta t t' : Nat → Int32} {n v0 v1 v2 v3 v9 v10 k : Int} {v : Int32} (h : BX ta t n v0 v1 v2 v3 v9 v10) (hn : 0 ≤ n) (h0 : 0 ≤ k) (h37 : k ≤ 37) (e : t' = upN t (ix n k) v) : BX ta t' n (if k = 0 then v.toInt else v0) (if k = 1 then v.toInt else v1) (if k = 2 then v.toInt else v2) (if k = 3 then v.toInt else v3) (if k = 9 then v.toInt else v9) (if k = 10 then v.toInt else v10) := by
  obtain ⟨h1, h2, h3, g0, g1, g2, g3, g9, g10⟩ := h
  have hm := (ix_mod hn h0 h37).2
  have key : ∀ j x : Int, 0 ≤ j → j ≤ 37 → K t n j = x → K t' n j = if k = j then v.toInt else x := fun j x q1 q2 q3 => by
    show (t' (ix n j)).toInt = _
    by_cases w : k = j
    · rw [if_pos w, e, w, upN_at]
    · rw [if_neg w, e, upN_ne (fun q => w (ix_inj hn q1 (by omega) hn h0 (by omega) q).2.symm)]
      exact q3
  refine ⟨by rw [e, upN_ne (by omega)]; exact h1, by rw [e, upN_ne (by omega)]; exact h2, fun b j q1 q2 q3 q4 => ?_, key 0 v0 (by decide) (by decide) g0, key 1 v1 (by decide) (by decide) g1, key 2 v2 (by decide) (by decide) g2, key 3 v3 (by decide) (by decide) g3, key 9 v9 (by decide) (by decide) g9, key 10 v10 (by decide) (by decide) g10⟩
  rw [e, upN_ne (fun q => q2 (ix_inj q1 q3 (by omega) hn h0 (by omega) q).1)]
  exact h3 b j q1 q2 q3 q4
/-- what a new box of a kind under p brings -/
def PBr (ta t : Nat → Int32) (kd p : Int) : Prop := (t 3).toInt = (ta 3).toInt + 1 ∧ K t (ta 3).toInt 0 = 1 ∧ K t (ta 3).toInt 10 = 0 ∧ K t (ta 3).toInt 1 = kd ∧ ∀ b : Int, 0 ≤ b → b ≤ 23 → ¬ b = (ta 3).toInt → K t b 0 = K ta b 0 ∧ K t b 1 = K ta b 1 ∧ ((b = p ∧ K t b 10 = K ta b 10 + 1) ∨ (¬ b = p ∧ K t b 10 = K ta b 10))
theorem PBr_AG {ta t t' : Nat → Int32} {kd p : Int} (h : PBr ta t kd p) (hg : AG t t') (hn : 0 ≤ (ta 3).toInt) : PBr ta t' kd p := by
  obtain ⟨h1, h2, h3, h4, h5⟩ := h
  refine ⟨by rw [hg.2.1]; exact h1, by rw [hg.K hn (by decide) (by decide)]; exact h2, by rw [hg.K hn (by decide) (by decide)]; exact h3, by rw [hg.K hn (by decide) (by decide)]; exact h4, fun b g1 g2 g3 => ?_⟩
  rw [hg.K g1 (by decide) (by decide), hg.K g1 (by decide) (by decide), hg.K g1 (by decide) (by decide)]
  exact h5 b g1 g2 g3
theorem PB_top {ta t t' : Nat → Int32} {n kd va vb p : Int} {v : Int32} (hI : TInv ta) (hn : n = (ta 3).toInt) (h23 : n ≤ 23) (h : BX ta t n 1 kd va vb p 0) (h6 : kd = 6 → 1 ≤ va ∧ 1 ≤ vb) (hp : p = -1) (h0 : (ta 0).toInt < 0) (e : t' = upN t 0 v) (hv : v.toInt = n) : TInv t' ∧ PBr ta t' kd p := by
  obtain ⟨h1, h2, h3, g0, g1, g2, g3, g9, g10⟩ := h
  have hn0 : 0 ≤ n := by have := hI.1; omega
  have kk : ∀ b j : Int, 0 ≤ b → 0 ≤ j → j ≤ 37 → K t' b j = K t b j := fun b j q1 q2 q3 => by
    have := (ix_mod q1 q2 q3).2
    show (t' (ix b j)).toInt = (t (ix b j)).toInt
    rw [e, upN_ne (by omega)]
  have ko : ∀ b j : Int, 0 ≤ b → ¬ b = n → 0 ≤ j → j ≤ 37 → K t' b j = K ta b j := fun b j q1 q2 q3 q4 => by
    rw [kk b j q1 q3 q4]
    show (t (ix b j)).toInt = (ta (ix b j)).toInt
    rw [h3 b j q1 q2 q3 q4]
  have e3 : (t' 3).toInt = n + 1 := by rw [e, upN_ne (by decide)]; exact h1
  refine ⟨TInv_put (m := 0) hI hn h23 e3 (fun b k q1 q2 q3 q4 q5 _ => ko b k q1 q3 q4 (by omega)) (by rw [kk n 0 hn0 (by decide) (by decide)]; exact g0) (by rw [kk n 9 hn0 (by decide) (by decide)]; exact g9) (by rw [kk n 10 hn0 (by decide) (by decide)]; exact g10) (fun q => ?_) (Or.inl ⟨hp, h0, by rw [e, upN_at]; exact hv⟩), ?_⟩
  · rw [kk n 1 hn0 (by decide) (by decide), g1] at q
    rw [kk n 2 hn0 (by decide) (by decide), kk n 3 hn0 (by decide) (by decide), g2, g3]
    exact h6 q
  · unfold PBr
    rw [← hn]
    refine ⟨e3, by rw [kk n 0 hn0 (by decide) (by decide)]; exact g0, by rw [kk n 10 hn0 (by decide) (by decide)]; exact g10, by rw [kk n 1 hn0 (by decide) (by decide)]; exact g1, fun b q1 q2 q3 => ⟨ko b 0 q1 q3 (by decide) (by decide), ko b 1 q1 q3 (by decide) (by decide), Or.inr ⟨by omega, ko b 10 q1 q3 (by decide) (by decide)⟩⟩⟩
theorem PB_par {ta t t' t'' : Nat → Int32} {n kd va vb p k : Int} {v w : Int32} (hI : TInv ta) (hn : n = (ta 3).toInt) (h23 : n ≤ 23) (h : BX ta t n 1 kd va vb p 0) (h6 : kd = 6 → 1 ≤ va ∧ 1 ≤ vb) (hp : 0 ≤ p) (hpn : p < n) (hm : K ta p 10 < 8) (e : t' = upN t (ix p k) v) (hk : k = 11 + K ta p 10) (hv : v.toInt = n) (e2 : t'' = upN t' (ix p 10) w) (hw : w.toInt = K ta p 10 + 1) : TInv t'' ∧ PBr ta t'' kd p := by
  obtain ⟨h1, h2, h3, g0, g1, g2, g3, g9, g10⟩ := h
  have hn0 : 0 ≤ n := by omega
  have hm0 := hI.2.2.2.2.2.2.2.2 p hp (by omega)
  have mk := (ix_mod hp (by omega : 0 ≤ k) (by omega : k ≤ 37)).2
  have m10 := (ix_mod hp (by decide : (0 : Int) ≤ 10) (by decide)).2
  have kn : ∀ j : Int, 0 ≤ j → j ≤ 37 → K t'' n j = K t n j := fun j q2 q3 => by
    show (t'' (ix n j)).toInt = (t (ix n j)).toInt
    rw [e2, upN_ne (fun q => by have := (ix_inj hn0 q2 (by omega) hp (by decide) (by decide) q).1; omega), e, upN_ne (fun q => by have := (ix_inj hn0 q2 (by omega) hp (by omega) (by omega) q).1; omega)]
  have ko : ∀ b j : Int, 0 ≤ b → ¬ b = n → 0 ≤ j → j ≤ 37 → ¬ (b = p ∧ (j = 10 ∨ j = 11 + K ta p 10)) → K t'' b j = K ta b j := fun b j q1 q2 q3 q4 q5 => by
    show (t'' (ix b j)).toInt = (ta (ix b j)).toInt
    rw [e2, upN_ne (fun q => q5 (by have := ix_inj q1 q3 (by omega) hp (by decide) (by decide) q; exact ⟨this.1, Or.inl this.2⟩)), e, upN_ne (fun q => q5 (by have := ix_inj q1 q3 (by omega) hp (by omega) (by omega) q; exact ⟨this.1, Or.inr (by omega)⟩)), h3 b j q1 q2 q3 q4]
  have p10 : K t'' p 10 = K ta p 10 + 1 := by
    show (t'' (ix p 10)).toInt = _
    rw [e2, upN_at]; exact hw
  have pk : K t'' p (11 + K ta p 10) = n := by
    show (t'' (ix p (11 + K ta p 10))).toInt = n
    rw [e2, upN_ne (fun q => by have := (ix_inj hp (by omega) (by omega) hp (by decide) (by decide) q).2; omega), e, hk, upN_at]; exact hv
  have e3 : (t'' 3).toInt = n + 1 := by rw [e2, upN_ne (by omega), e, upN_ne (by omega)]; exact h1
  have e0 : (t'' 0).toInt = (ta 0).toInt := by rw [e2, upN_ne (by omega), e, upN_ne (by omega), h2]
  refine ⟨TInv_put (m := K ta p 10) hI hn h23 e3 (fun b k q1 q2 q3 q4 q5 q6 => ko b k q1 q3 q4 (by omega) q6) (by rw [kn 0 (by decide) (by decide)]; exact g0) (by rw [kn 9 (by decide) (by decide)]; exact g9) (by rw [kn 10 (by decide) (by decide)]; exact g10) (fun q => ?_) (Or.inr ⟨hp, hpn, rfl, hm, hm0.1, p10, pk, e0⟩), ?_⟩
  · rw [kn 1 (by decide) (by decide), g1] at q
    rw [kn 2 (by decide) (by decide), kn 3 (by decide) (by decide), g2, g3]
    exact h6 q
  · unfold PBr
    rw [← hn]
    refine ⟨e3, by rw [kn 0 (by decide) (by decide)]; exact g0, by rw [kn 10 (by decide) (by decide)]; exact g10, by rw [kn 1 (by decide) (by decide)]; exact g1, fun b q1 q2 q3 => ⟨ko b 0 q1 q3 (by decide) (by decide) (by omega), ko b 1 q1 q3 (by decide) (by decide) (by omega), ?_⟩⟩
    by_cases w2 : b = p
    · rw [w2]; exact Or.inl ⟨rfl, p10⟩
    · exact Or.inr ⟨w2, ko b 10 q1 q3 (by decide) (by decide) (fun y => w2 y.1)⟩
/-- a list that is being shifted between w and k -/
def gM (w k st j : Int) : Int := if st = 1 ∧ w ≤ j ∧ j < k then j + 1 else if st = -1 ∧ k < j ∧ j ≤ w then j - 1 else j
def MS (ta t : Nat → Int32) (p w k st : Int) : Prop := t 0 = ta 0 ∧ t 3 = ta 3 ∧ (∀ b j : Int, 0 ≤ b → 0 ≤ j → j ≤ 37 → ¬ (b = p ∧ 11 ≤ j ∧ j ≤ 18) → t (ix b j) = ta (ix b j)) ∧ ∀ j : Int, 0 ≤ j → j ≤ 7 → t (ix p (11 + j)) = ta (ix p (11 + gM w k st j))
theorem MS_0 {t : Nat → Int32} {p w st : Int} : MS t t p w w st := by
  refine ⟨rfl, rfl, fun _ _ _ _ _ _ => rfl, fun j h1 h2 => ?_⟩
  have : gM w w st j = j := by unfold gM; split <;> omega
  rw [this]
theorem MS_s {ta t t' : Nat → Int32} {p w k st k' kk : Int} {v : Int32} (h : MS ta t p w k st) (hp : 0 ≤ p) (hst : (st = 1 ∧ w ≤ k) ∨ (st = -1 ∧ k ≤ w)) (h0 : 0 ≤ k) (h7 : k ≤ 7) (hn0 : 0 ≤ k + st) (hn7 : k + st ≤ 7) (ek : k' = k + st) (ekk : kk = 11 + k) (hv : v = t (ix p (11 + (k + st)))) (e : t' = upN t (ix p kk) v) : MS ta t' p w k' st := by
  obtain ⟨h1, h2, h3, h4⟩ := h
  have m := (ix_mod hp (by omega : 0 ≤ kk) (by omega : kk ≤ 37)).2
  refine ⟨by rw [e, upN_ne (by omega)]; exact h1, by rw [e, upN_ne (by omega)]; exact h2, fun b j q1 q2 q3 q4 => ?_, fun j q1 q2 => ?_⟩
  · rw [e, upN_ne (fun q => q4 (by have := ix_inj q1 q2 (by omega) hp (by omega) (by omega) q; omega))]
    exact h3 b j q1 q2 q3 q4
  · by_cases z : j = k
    · rw [z, e, ekk, upN_at, hv, h4 (k + st) hn0 hn7]
      have g1 : gM w k st (k + st) = k + st := by unfold gM; split <;> omega
      have g2 : gM w k' st k = k + st := by unfold gM; split <;> omega
      rw [g1, g2]
    · rw [e, upN_ne (fun q => z (by have := (ix_inj hp (by omega) (by omega) hp (by omega) (by omega) q).2; omega)), h4 j q1 q2]
      have g : gM w k' st j = gM w k st j := by unfold gM; split <;> split <;> (try omega) <;> split <;> (try omega) <;> split <;> omega
      rw [g]
/-- a box moved among its likes -/
theorem MS_move {ta t t' : Nat → Int32} {p w i st kk m : Int} {v : Int32} (hI : TInv ta) (h : MS ta t p w i st) (hp : 0 ≤ p) (hp23 : p ≤ 23) (hm : K ta p 10 = m) (hst : (st = 1 ∧ w ≤ i) ∨ (st = -1 ∧ i ≤ w)) (h0 : 0 ≤ i) (h7 : i < m) (w0 : 0 ≤ w) (w7 : w < m) (ekk : kk = 11 + i) (hv : v.toInt = K ta p (11 + w)) (e : t' = upN t (ix p kk) v) : TInv t' ∧ t' 3 = ta 3 := by
  obtain ⟨h1, h2, h3, h4⟩ := h
  have hm8 := hI.2.2.2.2.2.2.2.2 p hp hp23
  have mm := (ix_mod hp (by omega : 0 ≤ kk) (by omega : kk ≤ 37)).2
  have e3 : t' 3 = ta 3 := by rw [e, upN_ne (by omega)]; exact h2
  have oo : ∀ b j : Int, 0 ≤ b → 0 ≤ j → j ≤ 37 → ¬ (b = p ∧ 11 ≤ j ∧ j ≤ 18) → K t' b j = K ta b j := fun b j q1 q2 q3 q4 => by
    show (t' (ix b j)).toInt = (ta (ix b j)).toInt
    rw [e, upN_ne (fun q => q4 (by have := ix_inj q1 q2 (by omega) hp (by omega) (by omega) q; omega)), h3 b j q1 q2 q3 q4]
  have p10 : K t' p 10 = m := by rw [oo p 10 hp (by decide) (by decide) (by omega)]; exact hm
  refine ⟨TInv_cut (p := p) (m := m) (m' := m) (r := -1) (f := fun j => if j = i then w else gM w i st j) hI e3 (by rw [e, upN_ne (by omega)]; exact h1) hp hp23 hm p10 (by omega) (Int.le_refl _) (fun b q1 q2 q3 => by rw [oo b 0 q1 (by decide) (by decide) (by omega)] at q3; exact q3) (fun b k q1 q2 q3 q4 q5 => ?_) (fun j q1 q2 => ?_) (fun a b q1 q2 q3 => ?_) (fun a q1 q2 => ?_) (fun q => by omega), e3⟩
  · exact oo b k q1 (by omega) (by omega) (by omega)
  · show 0 ≤ (if j = i then w else gM w i st j) ∧ (if j = i then w else gM w i st j) < m ∧ K t' p (11 + j) = K ta p (11 + (if j = i then w else gM w i st j))
    by_cases z : j = i
    · rw [if_pos z]
      refine ⟨w0, w7, ?_⟩
      show (t' (ix p (11 + j))).toInt = _
      rw [z, e, ekk, upN_at]; exact hv
    · rw [if_neg z]
      refine ⟨?_, ?_, ?_⟩
      · unfold gM; split <;> omega
      · unfold gM; split <;> omega
      · show (t' (ix p (11 + j))).toInt = (ta (ix p (11 + gM w i st j))).toInt
        rw [e, upN_ne (fun q => z (by have := (ix_inj hp (by omega) (by omega) hp (by omega) (by omega) q).2; omega)), h4 j q1 (by omega)]
  · show (if a = i then w else gM w i st a) ≠ (if b = i then w else gM w i st b)
    unfold gM
    split <;> split <;> (try omega) <;> split <;> (try omega) <;> split <;> (try omega) <;> split <;> (try omega) <;> split <;> omega
  · refine Or.inr ?_
    show ∃ j : Int, 0 ≤ j ∧ j < m ∧ (if j = i then w else gM w i st j) = a
    by_cases z : a = w
    · exact ⟨i, h0, h7, by rw [if_pos rfl]; exact z.symm⟩
    · rcases hst with ⟨s1, s2⟩ | ⟨s1, s2⟩
      · by_cases y : w < a ∧ a ≤ i
        · exact ⟨a - 1, by omega, by omega, by rw [if_neg (by omega)]; unfold gM; rw [if_pos ⟨s1, by omega, by omega⟩]; omega⟩
        · exact ⟨a, q1, q2, by rw [if_neg (by omega)]; unfold gM; rw [if_neg (by omega), if_neg (by omega)]⟩
      · by_cases y : i ≤ a ∧ a < w
        · exact ⟨a + 1, by omega, by omega, by rw [if_neg (by omega)]; unfold gM; rw [if_neg (by omega), if_pos ⟨s1, by omega, by omega⟩]; omega⟩
        · exact ⟨a, q1, q2, by rw [if_neg (by omega)]; unfold gM; rw [if_neg (by omega), if_neg (by omega)]⟩
/-- boxes go: nothing else changes -/
def dRM (t t2 : Nat → Int32) : Prop := t2 0 = t 0 ∧ t2 3 = t 3 ∧ (∀ b k : Int, 0 ≤ b → b ≤ 23 → 1 ≤ k → k ≤ 18 → t2 (ix b k) = t (ix b k)) ∧ ∀ b : Int, 0 ≤ b → b ≤ 23 → K t2 b 0 = 1 → K t b 0 = 1
theorem dRM.refl {t : Nat → Int32} : dRM t t := ⟨rfl, rfl, fun _ _ _ _ _ _ => rfl, fun _ _ _ h => h⟩
theorem dRM.put {t t2 t3 : Nat → Int32} {b k : Int} {v : Int32} (h : dRM t t2) (hb : 0 ≤ b) (hk : k = 0 ∨ k = 20) (hv : v.toInt = 0) (e : t3 = upN t2 (ix b k) v) : dRM t t3 := by
  obtain ⟨h1, h2, h3, h4⟩ := h
  have m := (ix_mod hb (by omega : 0 ≤ k) (by omega : k ≤ 37)).2
  refine ⟨by rw [e, upN_ne (by omega)]; exact h1, by rw [e, upN_ne (by omega)]; exact h2, fun b' k' q1 q2 q3 q4 => ?_, fun b' q1 q2 q3 => ?_⟩
  · rw [e, upN_ne (fun q => by have := (ix_inj q1 (by omega) (by omega) hb (by omega) (by omega) q).2; omega)]
    exact h3 b' k' q1 q2 q3 q4
  · refine h4 b' q1 q2 ?_
    have q3' : (t3 (ix b' 0)).toInt = 1 := q3
    show (t2 (ix b' 0)).toInt = 1
    by_cases z : ix b' 0 = ix b k
    · rw [e, z, upN_at] at q3'; omega
    · rw [e, upN_ne z] at q3'; exact q3'
/-- without x it is a tree -/
def HS (t : Nat → Int32) (x : Int) : Prop := TW t ∧ ∀ t2, dRM t t2 → ¬ K t2 x 0 = 1 → TInv t2
def DQ (t : Nat → Int32) (x : Int) : Prop := ∃ th : Nat → Int32, HS th x ∧ dRM th t
theorem HS_cut {ta t t' : Nat → Int32} {p r m x : Int} {v : Int32} (hI : TInv ta) (h : MS ta t p r (m - 1) 1) (hp : 0 ≤ p) (hp23 : p ≤ 23) (hm : K ta p 10 = m) (r0 : 0 ≤ r) (rm : r < m) (hx : K ta p (11 + r) = x) (e : t' = upN t (ix p 10) v) (hv : v.toInt = m - 1) : HS t' x ∧ t' 3 = ta 3 ∧ (∀ b : Int, 0 ≤ b → b ≤ 23 → K t' b 0 = K ta b 0) := by
  obtain ⟨h1, h2, h3, h4⟩ := h
  have hm8 := hI.2.2.2.2.2.2.2.2 p hp hp23
  have mm := (ix_mod hp (by decide : (0 : Int) ≤ 10) (by decide)).2
  have e3 : t' 3 = ta 3 := by rw [e, upN_ne (by omega)]; exact h2
  have e0 : t' 0 = ta 0 := by rw [e, upN_ne (by omega)]; exact h1
  have oo : ∀ b j : Int, 0 ≤ b → 0 ≤ j → j ≤ 37 → ¬ (b = p ∧ 10 ≤ j ∧ j ≤ 18) → K t' b j = K ta b j := fun b j q1 q2 q3 q4 => by
    show (t' (ix b j)).toInt = (ta (ix b j)).toInt
    rw [e, upN_ne (fun q => q4 (by have := ix_inj q1 q2 (by omega) hp (by decide) (by decide) q; omega)), h3 b j q1 q2 q3 (by omega)]
  have ll : ∀ j : Int, 0 ≤ j → j ≤ 7 → K t' p (11 + j) = K ta p (11 + gM r (m - 1) 1 j) := fun j q1 q2 => by
    show (t' (ix p (11 + j))).toInt = (ta (ix p (11 + gM r (m - 1) 1 j))).toInt
    rw [e, upN_ne (fun q => by have := (ix_inj hp (by omega) (by omega) hp (by decide) (by decide) q).2; omega), h4 j q1 q2]
  refine ⟨⟨⟨fun b q1 q2 q3 => ?_, fun b q1 q2 => ?_⟩, fun t2 hr hg => ?_⟩, e3, fun b q1 q2 => oo b 0 q1 (by decide) (by decide) (by omega)⟩
  · rw [oo b 0 q1 (by decide) (by decide) (by omega)] at q3
    rw [e3]; exact hI.2.1 b q1 q2 q3
  · rw [e3] at q2
    rw [oo b 9 q1 (by decide) (by decide) (by omega)]; exact hI.2.2.1 b q1 q2
  · obtain ⟨r1, r2, r3, r4⟩ := hr
    have k2 : ∀ b k : Int, 0 ≤ b → b ≤ 23 → 1 ≤ k → k ≤ 18 → K t2 b k = K t' b k := fun b k q1 q2 q3 q4 => by
      show (t2 (ix b k)).toInt = (t' (ix b k)).toInt
      rw [r3 b k q1 q2 q3 q4]
    refine TInv_cut (p := p) (m := m) (m' := m - 1) (r := r) (f := fun j => gM r (m - 1) 1 j) hI (by rw [r2]; exact e3) (by rw [r1]; exact e0) hp hp23 hm (by rw [k2 p 10 hp hp23 (by decide) (by decide)]; show (t' (ix p 10)).toInt = _; rw [e, upN_at]; exact hv) (by omega) (by omega) (fun b q1 q2 q3 => by have := r4 b q1 q2 q3; rw [oo b 0 q1 (by decide) (by decide) (by omega)] at this; exact this) (fun b k q1 q2 q3 q4 q5 => by rw [k2 b k q1 q2 q3 q4]; exact oo b k q1 (by omega) (by omega) (by omega)) (fun j q1 q2 => ?_) (fun a b q1 q2 q3 => ?_) (fun a q1 q2 => ?_) (fun _ _ => by rw [hx]; exact hg)
    · show 0 ≤ gM r (m - 1) 1 j ∧ gM r (m - 1) 1 j < m ∧ K t2 p (11 + j) = K ta p (11 + gM r (m - 1) 1 j)
      refine ⟨?_, ?_, ?_⟩
      · unfold gM; split <;> omega
      · unfold gM; split <;> omega
      · rw [k2 p (11 + j) hp hp23 (by omega) (by omega)]; exact ll j q1 (by omega)
    · show gM r (m - 1) 1 a ≠ gM r (m - 1) 1 b
      unfold gM
      split <;> split <;> (try omega) <;> split <;> (try omega) <;> split <;> omega
    · by_cases z : a = r
      · exact Or.inl z
      · refine Or.inr ?_
        show ∃ j : Int, 0 ≤ j ∧ j < m - 1 ∧ gM r (m - 1) 1 j = a
        by_cases y : a < r
        · exact ⟨a, q1, by omega, by unfold gM; rw [if_neg (by omega), if_neg (by omega)]⟩
        · exact ⟨a - 1, by omega, by omega, by unfold gM; rw [if_pos ⟨rfl, by omega, by omega⟩]; omega⟩
theorem HS_top {ta t : Nat → Int32} {x : Int} {v : Int32} (hI : TInv ta) (hx0 : 0 ≤ x) (hx : x ≤ 23) (hx1 : K ta x 0 = 1) (hx9 : K ta x 9 < 0) (e : t = upN ta 0 v) (hv : v.toInt = -1) : HS t x ∧ t 3 = ta 3 ∧ (∀ b : Int, 0 ≤ b → b ≤ 23 → K t b 0 = K ta b 0) := by
  have e3 : t 3 = ta 3 := by rw [e, upN_ne (by decide)]
  have oo : ∀ b j : Int, 0 ≤ b → 0 ≤ j → j ≤ 37 → K t b j = K ta b j := fun b j q1 q2 q3 => by
    have := (ix_mod q1 q2 q3).2
    show (t (ix b j)).toInt = (ta (ix b j)).toInt
    rw [e, upN_ne (by omega)]
  have ht := hI.2.2.2.2.2.2.1 x hx0 hx hx1 hx9
  refine ⟨⟨⟨fun b q1 q2 q3 => ?_, fun b q1 q2 => ?_⟩, fun t2 hr hg => ?_⟩, e3, fun b q1 q2 => oo b 0 q1 (by decide) (by decide)⟩
  · rw [oo b 0 q1 (by decide) (by decide)] at q3
    rw [e3]; exact hI.2.1 b q1 q2 q3
  · rw [e3] at q2
    rw [oo b 9 q1 (by decide) (by decide)]; exact hI.2.2.1 b q1 q2
  · obtain ⟨r1, r2, r3, r4⟩ := hr
    refine TInv_top hI (by rw [r2]; exact e3) (by rw [r1, e, upN_at]; exact hv) (fun b q1 q2 q3 => by have := r4 b q1 q2 q3; rw [oo b 0 q1 (by decide) (by decide)] at this; exact this) (fun b k q1 q2 q3 q4 => ?_) (fun b _ _ q => by rw [q, ← ht]; exact hg)
    show (t2 (ix b k)).toInt = (ta (ix b k)).toInt
    rw [r3 b k q1 q2 q3 q4]; exact oo b k q1 (by omega) (by omega)
