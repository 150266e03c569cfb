/-! ===== knowledge under a mask; knowledge of trees; stacks ===== -/
def kO (P : Nat → Nat → Bool) (X : mX) (F : mF) : mX := fun c k => if P c k = true then some (F c k) else X c k
def upN (f : Nat → Int32) (k : Nat) (v : Int32) : Nat → Int32 := fun k' => if k' = k then v else f k'
theorem up2_nc {F : mF} {c k c' : Nat} {v : Int32} (h : ¬ c' = c) : up2 F c k v c' = F c' := funext fun _ => if_neg fun z => h z.1
theorem up2_c {F : mF} {c k : Nat} {v : Int32} : up2 F c k v c = upN (F c) k v := funext fun k' => by
  unfold up2 upN
  by_cases e : k' = k
  · rw [if_pos ⟨rfl, e⟩, if_pos e]
  · rw [if_neg (fun z => e z.2), if_neg e]
theorem upN_at {f : Nat → Int32} {k : Nat} {v : Int32} : upN f k v k = v := if_pos rfl
theorem upN_ne {f : Nat → Int32} {k k' : Nat} {v : Int32} (h : ¬ k' = k) : upN f k v k' = f k' := if_neg h
theorem kO_in {P : Nat → Nat → Bool} {X : mX} {F : mF} {c k : Nat} (h : P c k = true) : kO P X F c k = some (F c k) := if_pos h
theorem kO_out {P : Nat → Nat → Bool} {X : mX} {F : mF} {c k : Nat} (h : P c k = false) : kO P X F c k = X c k := if_neg (by rw [h]; decide)
theorem kO_set {G : tG} {σ : Nat → Nat} {cu : Nat} {P : Nat → Nat → Bool} {X : mX} {F : mF} {s : State} {H : Heap} {locs : List Loc} {c k : Nat} {v : Int32} (h : P c k = true) (hG : mGH G (mSet (σ, cu, kO P X F) c k (some v)) s H locs) : mGH G (σ, cu, kO P X (up2 F c k v)) s H locs := by
  have e : mSet (σ, cu, kO P X F) c k (some v) = (σ, cu, kO P X (up2 F c k v)) := by
    unfold mSet
    refine Prod.ext rfl (Prod.ext rfl (funext fun c' => funext fun k' => ?_))
    show (if c' = c ∧ k' = k then some v else kO P X F c' k') = kO P X (up2 F c k v) c' k'
    by_cases z : c' = c ∧ k' = k
    · obtain ⟨rfl, rfl⟩ := z
      rw [if_pos ⟨rfl, rfl⟩, kO_in h, up2_at]
    · rw [if_neg z]
      unfold kO
      rw [up2_ne z]
  rw [← e]
  exact hG
theorem kO_drop {G : tG} {σ : Nat → Nat} {cu : Nat} {P : Nat → Nat → Bool} {X : mX} {F : mF} {s : State} {H : Heap} {locs : List Loc} (hN : ∀ c k, P c k = true → X c k = none) (hG : mGH G (σ, cu, kO P X F) s H locs) : mGH G (σ, cu, X) s H locs :=
  mGH.le (Y := (σ, cu, kO P X F)) (Y' := (σ, cu, X)) ⟨rfl, rfl, fun c k y e => by
    have e : X c k = some y := e
    show kO P X F c k = some y
    cases hp : P c k with
    | true => rw [hN c k hp] at e; cases e
    | false => rw [kO_out hp]; exact e⟩ hG
theorem kq {σ : Nat → Nat} {cu : Nat} {P : Nat → Nat → Bool} {X : mX} {F : mF} {c k : Nat} {z : Int32} (q : ∀ y, ((σ, cu, kO P X F) : mY).2.2 c k = some y → z = y) (h : P c k = true) : z = F c k := q _ (kO_in h)
theorem kv {σ : Nat → Nat} {cu : Nat} {P : Nat → Nat → Bool} {X : mX} {F : mF} {i : Nat} {z : Int32} (q : mV (σ, cu, kO P X F) i z) (h : P cu i = true) : z = F cu i := q.2.2 _ (kO_in h)
theorem kn {σ : Nat → Nat} {cu : Nat} {P : Nat → Nat → Bool} {X : mX} {F : mF} {c k : Nat} (h : P c k = false) (e : X c k = none) : ((σ, cu, kO P X F) : mY).2.2 c k = none := (kO_out h).trans e
/-- whatever a heap's ints are, they may be known -/
theorem mGain {G : tG} {Y : mY} {s : State} {H : Heap} {locs : List Loc} (hG : mGH G Y s H locs) : ∃ F : mF, ∀ P : Nat → Nat → Bool, mGH G (Y.1, Y.2.1, kO P Y.2.2 F) s H locs := by
  obtain ⟨h1, h2, h3⟩ := hG
  refine ⟨mFl G Y H, fun P => ⟨mTH.mk (fun a ha => ?_), h2, h3⟩⟩
  have ha : Y.1 a ≠ 0 := ha
  have key : ∀ v : Value, ∀ k, mCn G H a (Y.1 a) k = some v → msv Y (Y.1 a) k v → msv (Y.1, Y.2.1, kO P Y.2.2 (mFl G Y H)) (Y.1 a) k v := by
    intro v k hc hv
    unfold msv at hv ⊢
    split at hv
    · obtain ⟨x, e, g1, g2, g3⟩ := hv
      refine ⟨x, e, g1, g2, fun y hy => ?_⟩
      have hy2 : kO P Y.2.2 (mFl G Y H) (Y.1 a) k = some y := hy
      cases hp : P (Y.1 a) k with
      | true =>
        rw [kO_in hp] at hy2
        cases hy2
        exact (mFl_is h3 rfl ha (by rw [hc, e])).symm
      | false => rw [kO_out hp] at hy2; exact g3 y hy2
    · exact hv
    · exact hv
    · exact hv
  have hat := mTH.at h1 ha
  have hci : ∀ ci, mShp (Y.1 a) = .inl ci → ci = 9 := fun ci hs => by
    unfold mShp at hs
    split at hs <;> first | (cases hs; rfl) | (exact absurd hs (by simp))
  show tAt G (mShp (Y.1 a), fun k v => msv (Y.1, Y.2.1, kO P Y.2.2 (mFl G Y H)) (Y.1 a) k v ∧ mKn G (Y.1 a) k v) a H
  cases hs : mShp (Y.1 a) with
  | inl ci =>
    rw [hs] at hat
    have e9 := hci ci hs
    subst e9
    obtain ⟨r, V, g1, ⟨cell, q1, q2, q3, q4⟩, g3⟩ := hat
    have hr : r = (RX10, TX10, 40) := Option.some.inj (g1.symm.trans fc_X10.1)
    subst hr
    refine ⟨_, V, g1, ⟨cell, q1, q2, q3, q4⟩, fun k hk => ⟨key _ k ?_ (g3 k hk).1, (g3 k hk).2⟩⟩
    unfold mCn
    rw [hs]
    show (H[a]?.bind fun cell => cell.slots[G.1.2 9 k]?) = _
    rw [q1, Option.bind_some, q4 k hk]
  | inr q =>
    rw [hs] at hat
    obtain ⟨ak, n⟩ := q
    obtain ⟨V, g1, g2⟩ := hat
    refine ⟨V, g1, fun k hk => ⟨key _ k ?_ (g2 k hk).1, (g2 k hk).2⟩⟩
    unfold mCn
    rw [hs]
    show (H[a]?.bind fun cell => cell.slots[k]?) = _
    rw [g1, Option.bind_some, arrV_read _ _ hk]
/-- the told part of a row -/
def tr (i : Nat) : Bool := i == 0 || i == 3 || (Nat.ble 22 i && Nat.blt i 934 && (Nat.ble ((i - 22) % 38) 18 || (i - 22) % 38 == 20))
theorem ix_mod {b k : Int} (h1 : 0 ≤ b) (h2 : 0 ≤ k) (h3 : k ≤ 37) : (ix b k - 22) % 38 = k.toNat ∧ 22 ≤ ix b k := by
  have e : ix b k = 22 + (38 * b.toNat + k.toNat) := by unfold ix; omega
  rw [e]
  constructor
  · rw [show 22 + (38 * b.toNat + k.toNat) - 22 = 38 * b.toNat + k.toNat by omega, Nat.mul_add_mod, Nat.mod_eq_of_lt (by omega)]
  · omega
theorem tr_y {b k : Int} (h1 : 0 ≤ b) (h2 : b ≤ 23) (h3 : 0 ≤ k) (h4 : k ≤ 18 ∨ k = 20) : tr (ix b k) = true := by
  obtain ⟨e1, e2⟩ := ix_mod h1 h3 (by omega : k ≤ 37)
  have e3 : ix b k < 934 := by unfold ix; omega
  unfold tr
  rw [e1, Nat.ble_eq_true_of_le e2, show Nat.blt (ix b k) 934 = true from Nat.ble_eq_true_of_le e3]
  rcases h4 with h | h
  · rw [Nat.ble_eq_true_of_le (by omega : k.toNat ≤ 18)]; simp
  · rw [h]; simp
theorem tr_n {b k : Int} (h1 : 0 ≤ b) (h3 : k = 19 ∨ 21 ≤ k) (h4 : k ≤ 37) : tr (ix b k) = false := by
  obtain ⟨e1, e2⟩ := ix_mod h1 (by omega : 0 ≤ k) h4
  unfold tr
  rw [e1]
  have a1 : (ix b k == 0) = false := beq_false_of_ne (by omega)
  have a2 : (ix b k == 3) = false := beq_false_of_ne (by omega)
  have a3 : Nat.ble k.toNat 18 = false := by
    cases h : Nat.ble k.toNat 18 with
    | false => rfl
    | true => have := Nat.le_of_ble_eq_true h; omega
  have a4 : (k.toNat == 20) = false := beq_false_of_ne (by omega)
  rw [a1, a2, a3, a4]; simp
def qX (a : Nat → Option (Nat → Int32)) : mX := fun c k => if ((c = 2 ∨ c = 3 ∨ c = 4 ∨ c = 5) ∧ tr k = true) ∨ (c = 20 ∨ c = 17 ∨ (c = 1 ∧ k = 30)) then (a c).map (fun t => t k) else none
def upA (a : Nat → Option (Nat → Int32)) (c : Nat) (t : Nat → Int32) : Nat → Option (Nat → Int32) := fun c' => if c' = c then some t else a c'
theorem upA_at {a : Nat → Option (Nat → Int32)} {c : Nat} {t : Nat → Int32} : upA a c t c = some t := if_pos rfl
theorem upA_ne {a : Nat → Option (Nat → Int32)} {c c' : Nat} {t : Nat → Int32} (h : ¬ c' = c) : upA a c t c' = a c' := if_neg h
theorem upA_up {a : Nat → Option (Nat → Int32)} {c : Nat} {t t' : Nat → Int32} : upA (upA a c t) c t' = upA a c t' := funext fun c' => by
  unfold upA
  by_cases e : c' = c
  · rw [if_pos e, if_pos e]
  · rw [if_neg e, if_neg e, if_neg e]
theorem upA_self {a : Nat → Option (Nat → Int32)} {c : Nat} {t : Nat → Int32} (h : a c = some t) : upA a c t = a := funext fun c' => by
  unfold upA
  by_cases e : c' = c
  · rw [if_pos e, e, h]
  · rw [if_neg e]
theorem qX_at {a : Nat → Option (Nat → Int32)} {c k : Nat} {t : Nat → Int32} (hc : mCu c) (ha : a c = some t) (hk : tr k = true) : qX a c k = some (t k) := by
  unfold qX
  rw [if_pos (Or.inl ⟨hc, hk⟩), ha]; rfl
theorem mCu_20 {c k : Nat} (h : mCu c) : ¬ (c = 20 ∨ c = 17 ∨ (c = 1 ∧ k = 30)) := by rcases h with e | e | e | e <;> subst e <;> omega
theorem qX_20 {a : Nat → Option (Nat → Int32)} {k : Nat} {t : Nat → Int32} (ha : a 20 = some t) : qX a 20 k = some (t k) := by
  unfold qX
  rw [if_pos (Or.inr (Or.inl rfl)), ha]; rfl
theorem qX_17 {a : Nat → Option (Nat → Int32)} {k : Nat} {t : Nat → Int32} (ha : a 17 = some t) : qX a 17 k = some (t k) := by
  unfold qX
  rw [if_pos (Or.inr (Or.inr (Or.inl rfl))), ha]; rfl
theorem qX_30 {a : Nat → Option (Nat → Int32)} {t : Nat → Int32} (ha : a 1 = some t) : qX a 1 30 = some (t 30) := by
  unfold qX
  rw [if_pos (Or.inr (Or.inr (Or.inr ⟨rfl, rfl⟩))), ha]; rfl
theorem qX_nc {a : Nat → Option (Nat → Int32)} {c k : Nat} (hc : ¬ mCu c) (h20 : ¬ (c = 20 ∨ c = 17 ∨ (c = 1 ∧ k = 30))) : qX a c k = none := if_neg fun z => by
  rcases z with z | z
  · exact hc z.1
  · exact h20 z
theorem qX_nk {a : Nat → Option (Nat → Int32)} {c k : Nat} (h20 : ¬ (c = 20 ∨ c = 17 ∨ (c = 1 ∧ k = 30))) (hk : tr k = false) : qX a c k = none := if_neg fun z => by
  rcases z with z | z
  · rw [hk] at z; exact absurd z.2 (by decide)
  · exact h20 z
theorem qX_TI {σ : Nat → Nat} {cu : Nat} {a : Nat → Option (Nat → Int32)} {t : Nat → Int32} (hc : mCu cu) (ha : a cu = some t) : TI (σ, cu, qX a) t :=
  ⟨qX_at hc ha rfl, qX_at hc ha rfl, fun b k h1 h2 h3 h4 => qX_at hc ha (tr_y h1 h2 h3 h4)⟩
theorem qX_AV {σ : Nat → Nat} {cu : Nat} {a : Nat → Option (Nat → Int32)} (hcu : mCu cu) : mAV (σ, cu, qX a) :=
  ⟨fun c k h => qX_nc (by unfold mCu; omega) (by omega), fun k h => qX_nc (a := a) (c := 1) (k := k) (by unfold mCu; decide) (by omega), fun b k h1 h2 h3 h4 => qX_nk (mCu_20 hcu) (tr_n h1 h3 h4)⟩
theorem qX_set {G : tG} {σ : Nat → Nat} {cu : Nat} {a : Nat → Option (Nat → Int32)} {t : Nat → Int32} {s : State} {H : Heap} {locs : List Loc} {k : Nat} {v : Int32} (hc : mCu cu) (hk : tr k = true) (hG : mGH G (mSet (σ, cu, qX (upA a cu t)) cu k (some v)) s H locs) : mGH G (σ, cu, qX (upA a cu (upN t k v))) s H locs := by
  have e : mSet (σ, cu, qX (upA a cu t)) cu k (some v) = (σ, cu, qX (upA a cu (upN t k v))) := by
    unfold mSet
    refine Prod.ext rfl (Prod.ext rfl (funext fun c' => funext fun k' => ?_))
    show (if c' = cu ∧ k' = k then some v else qX (upA a cu t) c' k') = qX (upA a cu (upN t k v)) c' k'
    by_cases z : c' = cu ∧ k' = k
    · obtain ⟨rfl, rfl⟩ := z
      rw [if_pos ⟨rfl, rfl⟩, qX_at hc upA_at hk, upN_at]
    · rw [if_neg z]
      unfold qX
      by_cases y : ((c' = 2 ∨ c' = 3 ∨ c' = 4 ∨ c' = 5) ∧ tr k' = true) ∨ (c' = 20 ∨ c' = 17 ∨ (c' = 1 ∧ k' = 30))
      · rw [if_pos y, if_pos y]
        by_cases e : c' = cu
        · subst e
          rw [upA_at, upA_at]
          show some (t k') = some (upN t k v k')
          rw [upN_ne (fun w => z ⟨rfl, w⟩)]
        · rw [upA_ne e, upA_ne e]
      · rw [if_neg y, if_neg y]
  rw [← e]
  exact hG
theorem kO_TI {σ : Nat → Nat} {cu : Nat} {P : Nat → Nat → Bool} {X : mX} {F : mF} {t : Nat → Int32} (hP : ∀ k, tr k = true → P cu k = false) (hT : TI (σ, cu, X) t) : TI (σ, cu, kO P X F) t := by
  refine ⟨?_, ?_, fun b k h1 h2 h3 h4 => ?_⟩
  · exact (kO_out (hP 0 rfl)).trans hT.1
  · exact (kO_out (hP 3 rfl)).trans hT.2.1
  · exact (kO_out (hP _ (tr_y h1 h2 h3 h4))).trans (hT.2.2 b k h1 h2 h3 h4)
/-! sums and stacks -/
def ms (f : Nat → Nat) : Nat → Nat
  | 0 => 0
  | n + 1 => ms f n + f n
theorem ms_eq {f g : Nat → Nat} {n : Nat} (h : ∀ i, i < n → g i = f i) : ms g n = ms f n := by
  induction n with
  | zero => rfl
  | succ n ih => show ms g n + g n = ms f n + f n; rw [ih (fun i hi => h i (by omega)), h n (by omega)]
theorem ms_le {f g : Nat → Nat} {n : Nat} (h : ∀ i, i < n → g i ≤ f i) : ms g n ≤ ms f n := by
  induction n with
  | zero => exact Nat.le_refl _
  | succ n ih => show ms g n + g n ≤ ms f n + f n; exact Nat.add_le_add (ih (fun i hi => h i (by omega))) (h n (by omega))
theorem ms_lt {f g : Nat → Nat} {n b : Nat} (h : ∀ i, i < n → g i ≤ f i) (hb : b < n) (hl : g b < f b) : ms g n < ms f n := by
  induction n with
  | zero => omega
  | succ n ih =>
    show ms g n + g n < ms f n + f n
    by_cases e : b = n
    · subst e
      have := ms_le (f := f) (g := g) (n := b) (fun i hi => h i (by omega))
      omega
    · have := ih (fun i hi => h i (by omega)) (by omega)
      have := h n (by omega)
      omega
theorem ms_bd {f : Nat → Nat} {n k : Nat} (h : ∀ i, i < n → f i ≤ k) : ms f n ≤ k * n := by
  induction n with
  | zero => exact Nat.zero_le _
  | succ n ih => show ms f n + f n ≤ _; have := ih (fun i hi => h i (by omega)); have := h n (by omega); rw [Nat.mul_succ]; omega
/-- a stack of ever greater boxes -/
def Stk (L : Nat → Int32) (d : Int) : Prop := ∀ i : Nat, (i : Int) < d → (i : Int) ≤ (L i).toInt ∧ (L i).toInt ≤ 23 ∧ ∀ j : Nat, j < i → (L j).toInt < (L i).toInt
theorem Stk.le {L : Nat → Int32} {d : Int} (h : Stk L d) : d ≤ 24 := by
  by_cases z : d ≤ 24
  · exact z
  · have := h 24 (by omega)
    omega
theorem Stk.pop {L : Nat → Int32} {d d' : Int} (h : Stk L d) (hd : d' ≤ d) : Stk L d' := fun i hi => h i (by omega)
theorem Stk.push {L L' : Nat → Int32} {d : Int} (h : Stk L d) {n : Nat} (hn : (n : Int) = d - 1) (hL : ∀ i : Nat, (i : Int) < d → L' i = L i) (h1 : (L n).toInt < (L' (n + 1)).toInt) (h2 : (L' (n + 1)).toInt ≤ 23) : Stk L' (d + 1) := by
  have hn1 := h n (by omega)
  have hj : ∀ j : Nat, j < n + 1 → (L' j).toInt ≤ (L n).toInt := fun j hj => by
    rw [hL j (by omega)]
    by_cases e : j = n
    · rw [e]; exact Int.le_refl _
    · have := hn1.2.2 j (by omega); omega
  intro i hi
  by_cases e : i = n + 1
  · subst e
    exact ⟨by omega, h2, fun j hj2 => by have := hj j hj2; omega⟩
  · have h3 := h i (by omega)
    rw [hL i (by omega)]
    exact ⟨h3.1, h3.2.1, fun j hj3 => by rw [hL j (by omega)]; exact h3.2.2 j hj3⟩
theorem Stk.one {L : Nat → Int32} (h0 : 0 ≤ (L 0).toInt) (h1 : (L 0).toInt ≤ 23) : Stk L 1 := fun i hi => by
  have e : i = 0 := by omega
  subst e
  exact ⟨by omega, h1, fun j hj => by omega⟩
theorem Stk.ne {L : Nat → Int32} {d : Int} (h : Stk L d) {i j : Nat} (hi : (i : Int) < d) (hj : j < i) : (L j).toInt < (L i).toInt := (h i hi).2.2 j hj
def pw (b : Int) : Nat := 20 ^ (24 - b.toNat)
theorem pw_pos {b : Int} : 1 ≤ pw b := Nat.one_le_pow _ _ (by decide)
theorem pw_lt {b c : Int} (h0 : 0 ≤ b) (h : b < c) (h2 : c ≤ 23) : 20 * pw c ≤ pw b := by
  unfold pw
  have e : 20 * 20 ^ (24 - c.toNat) = 20 ^ ((24 - c.toNat) + 1) := by rw [Nat.pow_succ]; omega
  rw [e]
  exact Nat.pow_le_pow_right (by decide) (by omega)
/-- what is left to be done by a stack: of each box on it the digit g, at its place -/
def mw (L : Nat → Int32) (g : Nat → Int) : Nat → Nat := ms fun i => (g i).toNat * pw (L i).toInt
theorem mw_pop {L L' : Nat → Int32} {g g' : Nat → Int} {n : Nat} (hL : ∀ i, i < n → L' i = L i) (hg : ∀ i, i < n → g' i = g i) (h : 1 ≤ g n) : mw L' g' n < mw L g (n + 1) := by
  have e : mw L' g' n = mw L g n := ms_eq (fun i hi => by rw [hL i hi, hg i hi])
  rw [e]
  show ms _ n < ms _ n + (g n).toNat * pw (L n).toInt
  have h1 : 1 * 1 ≤ (g n).toNat * pw (L n).toInt := Nat.mul_le_mul (by omega) pw_pos
  omega
theorem mw_step {L L' : Nat → Int32} {g g' : Nat → Int} {n : Nat} (hL : ∀ i, i < n + 1 → L' i = L i) (hg : ∀ i, i < n → g' i = g i) (h0 : 0 ≤ g' n) (h : g' n < g n) : mw L' g' (n + 1) < mw L g (n + 1) := by
  have e : mw L' g' n = mw L g n := ms_eq (fun i hi => by rw [hL i (by omega), hg i hi])
  show mw L' g' n + (g' n).toNat * pw (L' n).toInt < mw L g n + (g n).toNat * pw (L n).toInt
  rw [e, hL n (by omega)]
  have h1 : ((g' n).toNat + 1) * pw (L n).toInt ≤ (g n).toNat * pw (L n).toInt := Nat.mul_le_mul (by omega) (Nat.le_refl _)
  rw [Nat.succ_mul] at h1
  have := @pw_pos (L n).toInt
  omega
theorem mw_push {L L' : Nat → Int32} {g g' : Nat → Int} {n : Nat} (hL : ∀ i, i < n + 1 → L' i = L i) (hg : ∀ i, i < n → g' i = g i) (h0 : 0 ≤ g' n) (h : g' n < g n) (h9 : g' (n + 1) ≤ 19) (hb : 0 ≤ (L n).toInt) (hc : (L n).toInt < (L' (n + 1)).toInt) (hc2 : (L' (n + 1)).toInt ≤ 23) : mw L' g' (n + 2) < mw L g (n + 1) := by
  have e : mw L' g' n = mw L g n := ms_eq (fun i hi => by rw [hL i (by omega), hg i hi])
  show mw L' g' n + (g' n).toNat * pw (L' n).toInt + (g' (n + 1)).toNat * pw (L' (n + 1)).toInt < mw L g n + (g n).toNat * pw (L n).toInt
  rw [e, hL n (by omega)]
  have h1 : ((g' n).toNat + 1) * pw (L n).toInt ≤ (g n).toNat * pw (L n).toInt := Nat.mul_le_mul (by omega) (Nat.le_refl _)
  rw [Nat.succ_mul] at h1
  have h2 := pw_lt hb hc hc2
  have h3 : (g' (n + 1)).toNat * pw (L' (n + 1)).toInt ≤ 19 * pw (L' (n + 1)).toInt := Nat.mul_le_mul (by omega) (Nat.le_refl _)
  have := @pw_pos (L' (n + 1)).toInt
  omega
