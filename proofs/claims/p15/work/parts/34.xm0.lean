/-! ===== what is asked, in plain numbers ===== -/
/-- what it tells hangs on its CHILDREN -/
def KN (k : Int) : Prop := ¬ (k = 0 ∨ k = 1 ∨ k = 6)
def hdI (v lo hi : Int) : Int := if v < lo then lo else if hi < v then hi else v
def enI (m : Int) : Int := if m = 99 then 1000 else m
def wdI (b k : Int) : Int := 1 + (7 * ((b + k) % 32) * ((b + k) % 32) + 3 * ((b + k) % 32)) % 9
def sumI (g : Nat → Int) : Nat → Int
  | 0 => 0
  | n + 1 => sumI g n + g n
def mxI (g : Nat → Int) : Nat → Int
  | 0 => 0
  | n + 1 => if mxI g n < g n then g n else mxI g n
def whI (k w : Int) : Int := if k = 5 then 0 else w
/-- what a TEXT of a words from b on tells -/
def txI (a b w : Int) : Int := if w = 0 then (if 0 < a then a - 1 else 0) + sumI (fun k => wdI b (k : Int)) a.toNat else mxI (fun k => wdI b (k : Int)) a.toNat
def gpI (m b : Int) : Int := if 1 < m then (m - 1) * b else 0
/-- what BOX b tells, GREATEST (w 0) or NARROW (w 1), d deep -/
def asT (T : Int → Int → Int) : Nat → Int → Int → Int
  | 0, _, _ => 0
  | d + 1, b, w =>
    if T b 1 = 0 then T b 2
    else if T b 1 = 1 then txI (T b 2) (T b 3) w
    else if T b 1 = 2 then mxI (fun i => asT T d (T b (11 + (i : Int))) w) (T b 10).toNat + 2 * T b 2
    else if T b 1 = 3 then hdI (mxI (fun i => asT T d (T b (11 + (i : Int))) w) (T b 10).toNat) (T b 2) (enI (T b 3))
    else if T b 1 = 6 then (if w = 0 then 10 * T b 2 else T b 2)
    else if T b 1 = 8 then gpI (T b 10) (T b 3) + sumI (fun i => hdI (asT T d (T b (11 + (i : Int))) w) (T (T b (11 + (i : Int))) 7) (enI (T (T b (11 + (i : Int))) 8))) (T b 10).toNat
    else mxI (fun i => asT T d (T b (11 + (i : Int))) (whI (T b 1) w)) (T b 10).toNat
/-- by what its CHILDREN tell -/
def anI (T : Int → Int → Int) (b w : Int) (g : Nat → Int) : Int :=
    if T b 1 = 0 then T b 2
    else if T b 1 = 1 then txI (T b 2) (T b 3) w
    else if T b 1 = 2 then mxI g (T b 10).toNat + 2 * T b 2
    else if T b 1 = 3 then hdI (mxI g (T b 10).toNat) (T b 2) (enI (T b 3))
    else if T b 1 = 6 then (if w = 0 then 10 * T b 2 else T b 2)
    else if T b 1 = 8 then gpI (T b 10) (T b 3) + sumI (fun i => hdI (g i) (T (T b (11 + (i : Int))) 7) (enI (T (T b (11 + (i : Int))) 8))) (T b 10).toNat
    else mxI g (T b 10).toNat
theorem whI_ne {k w : Int} (h : ¬ k = 5) : whI k w = w := if_neg h
theorem asT_an {T : Int → Int → Int} {d : Nat} {b w : Int} : asT T (d + 1) b w = anI T b w (fun i => asT T d (T b (11 + (i : Int))) (whI (T b 1) w)) := by
  show (if T b 1 = 0 then _ else _) = _
  unfold anI
  by_cases h0 : T b 1 = 0
  · rw [if_pos h0, if_pos h0]
  rw [if_neg h0, if_neg h0]
  by_cases h1 : T b 1 = 1
  · rw [if_pos h1, if_pos h1]
  rw [if_neg h1, if_neg h1]
  by_cases h2 : T b 1 = 2
  · rw [if_pos h2, if_pos h2, whI_ne (k := T b 1) (by omega)]
  rw [if_neg h2, if_neg h2]
  by_cases h3 : T b 1 = 3
  · rw [if_pos h3, if_pos h3, whI_ne (k := T b 1) (by omega)]
  rw [if_neg h3, if_neg h3]
  by_cases h6 : T b 1 = 6
  · rw [if_pos h6, if_pos h6]
  rw [if_neg h6, if_neg h6]
  by_cases h8 : T b 1 = 8
  · rw [if_pos h8, if_pos h8, whI_ne (k := T b 1) (by omega)]
  rw [if_neg h8, if_neg h8]
theorem mxI_eq {g g' : Nat → Int} : ∀ n : Nat, (∀ i, i < n → g i = g' i) → mxI g n = mxI g' n
  | 0, _ => rfl
  | n + 1, h => by
    show (if mxI g n < g n then g n else mxI g n) = (if mxI g' n < g' n then g' n else mxI g' n)
    rw [mxI_eq n (fun i hi => h i (by omega)), h n (by omega)]
theorem sumI_eq {g g' : Nat → Int} : ∀ n : Nat, (∀ i, i < n → g i = g' i) → sumI g n = sumI g' n
  | 0, _ => rfl
  | n + 1, h => by
    show sumI g n + g n = sumI g' n + g' n
    rw [sumI_eq n (fun i hi => h i (by omega)), h n (by omega)]
/-- what a BOX tells by itself is the same -/
def LOC (T T' : Int → Int → Int) (b : Int) : Prop := T' b 1 = T b 1 ∧ T' b 2 = T b 2 ∧ T' b 3 = T b 3 ∧ T' b 10 = T b 10 ∧ ∀ i : Int, 0 ≤ i → i < T b 10 → T' b (11 + i) = T b (11 + i) ∧ T' (T b (11 + i)) 7 = T (T b (11 + i)) 7 ∧ T' (T b (11 + i)) 8 = T (T b (11 + i)) 8
theorem LOC.refl {T : Int → Int → Int} {b : Int} : LOC T T b := ⟨rfl, rfl, rfl, rfl, fun _ _ _ => ⟨rfl, rfl, rfl⟩⟩
theorem anI_eq {T T' : Int → Int → Int} {b w : Int} {g g' : Nat → Int} (h : LOC T T' b) (hg : KN (T b 1) → ∀ i : Nat, i < (T b 10).toNat → g i = g' i) : anI T' b w g' = anI T b w g := by
  obtain ⟨h1, h2, h3, h10, hk⟩ := h
  unfold anI
  rw [h1, h2, h3, h10]
  by_cases e0 : T b 1 = 0
  · rw [if_pos e0, if_pos e0]
  by_cases e1 : T b 1 = 1
  · rw [if_neg e0, if_pos e1, if_neg e0, if_pos e1]
  by_cases e6 : T b 1 = 6
  · simp [e6]
  · have hK : KN (T b 1) := fun z => by omega
    have hm := mxI_eq (g := g) (g' := g') _ (hg hK)
    have hs : sumI (fun i => hdI (g' i) (T' (T' b (11 + (i : Int))) 7) (enI (T' (T' b (11 + (i : Int))) 8))) (T b 10).toNat = sumI (fun i => hdI (g i) (T (T b (11 + (i : Int))) 7) (enI (T (T b (11 + (i : Int))) 8))) (T b 10).toNat := sumI_eq _ (fun i hi => by
      obtain ⟨k1, k2, k3⟩ := hk (i : Int) (by omega) (by omega)
      rw [k1, k2, k3, hg hK i hi])
    rw [hm, hs]
/-- CHILDREN have greater numbers, and are there -/
def TKA (A : Int → Prop) (T : Int → Int → Int) : Prop := ∀ b : Int, A b → (0 ≤ b ∧ b ≤ 23) ∧ ∀ i : Int, 0 ≤ i → i < T b 10 → b < T b (11 + i) ∧ T b (11 + i) ≤ 23 ∧ A (T b (11 + i))
theorem asT_fuel {A : Int → Prop} {T : Int → Int → Int} (hk : TKA A T) : ∀ (n d d' : Nat) (b w : Int), A b → (24 - b).toNat ≤ n → (24 - b).toNat ≤ d → (24 - b).toNat ≤ d' → asT T d b w = asT T d' b w
  | 0, _, _, b, _, hA, h3, _, _ => by have := (hk b hA).1; omega
  | n + 1, d, d', b, w, hA, h3, h4, h5 => by
    have hbd := (hk b hA).1
    obtain ⟨e, he⟩ : ∃ e, d = e + 1 := ⟨d - 1, by omega⟩
    obtain ⟨e', he'⟩ : ∃ e, d' = e + 1 := ⟨d' - 1, by omega⟩
    subst he; subst he'
    rw [asT_an, asT_an]
    exact anI_eq LOC.refl (fun _ i hi => by
      have h6 := (hk b hA).2 (i : Int) (by omega) (by omega)
      exact asT_fuel hk n e' e _ _ h6.2.2 (by omega) (by omega) (by omega))
/-- what b tells, by what its CHILDREN tell -/
theorem asT_24 {A : Int → Prop} {T : Int → Int → Int} (hk : TKA A T) {b w : Int} (hA : A b) : asT T 24 b w = anI T b w (fun i => asT T 24 (T b (11 + (i : Int))) (whI (T b 1) w)) := by
  have hbd := (hk b hA).1
  rw [asT_an]
  exact anI_eq LOC.refl (fun _ i hi => by
    have h6 := (hk b hA).2 (i : Int) (by omega) (by omega)
    exact asT_fuel hk 24 24 23 _ _ h6.2.2 (by omega) (by omega) (by omega))
/-- the MEMOS that are there are right, and who has one has asked all its CHILDREN -/
def MINV (A : Int → Prop) (T : Int → Int → Int) (mb : Int → Int → Prop) (mv : Int → Int → Int) : Prop := ∀ b w : Int, A b → (w = 0 ∨ w = 1) → mb b w → mv b w = asT T 24 b w ∧ (KN (T b 1) → ∀ i : Int, 0 ≤ i → i < T b 10 → mb (T b (11 + i)) (whI (T b 1) w))
theorem whI_01 {k w : Int} (h : w = 0 ∨ w = 1) : whI k w = 0 ∨ whI k w = 1 := by
  unfold whI; split
  · exact Or.inl rfl
  · exact h
/-- the tree has changed at n0 alone, and n0 is MARKED -/
theorem MINV_mark {A A' : Int → Prop} {T T' : Int → Int → Int} {mb mb' : Int → Int → Prop} {mv mv' : Int → Int → Int} {n0 : Int} (hk : TKA A T) (hk' : TKA A' T') (h : MINV A T mb mv)
    (h1 : ∀ b w : Int, A' b → (w = 0 ∨ w = 1) → mb' b w → A b ∧ mb b w ∧ mv' b w = mv b w) (h2 : ∀ w : Int, (w = 0 ∨ w = 1) → A' n0 → ¬ mb' n0 w)
    (h3 : ∀ b w i w' : Int, A' b → (w = 0 ∨ w = 1) → mb' b w → 0 ≤ i → i < T' b 10 → (w' = 0 ∨ w' = 1) → mb (T' b (11 + i)) w' → mb' (T' b (11 + i)) w')
    (h4 : ∀ b : Int, A' b → A b → ¬ b = n0 → LOC T T' b) : MINV A' T' mb' mv' := by
  have key : ∀ b w : Int, A' b → (w = 0 ∨ w = 1) → mb' b w → LOC T T' b ∧ (KN (T b 1) → ∀ i : Int, 0 ≤ i → i < T b 10 → mb' (T b (11 + i)) (whI (T b 1) w)) := fun b w hb hw hm => by
    obtain ⟨g1, g2, g3⟩ := h1 b w hb hw hm
    have hL := h4 b hb g1 (fun e => h2 w hw (e ▸ hb) (by rw [← e]; exact hm))
    refine ⟨hL, fun h6 i q0 q1 => ?_⟩
    have hc := (h b w g1 hw g2).2 h6 i q0 q1
    have he := (hL.2.2.2.2 i q0 q1).1
    have := h3 b w i (whI (T b 1) w) hb hw hm q0 (by rw [hL.2.2.2.1]; exact q1) (whI_01 hw) (by rw [he]; exact hc)
    rw [he] at this
    exact this
  have val : ∀ (n : Nat) (b w : Int), (24 - b).toNat ≤ n → A' b → (w = 0 ∨ w = 1) → mb' b w → asT T' 24 b w = asT T 24 b w := by
    intro n
    induction n with
    | zero => intro b w hn hb; have := (hk' b hb).1; omega
    | succ n ih =>
      intro b w hn hb hw hm
      obtain ⟨g1, -, -⟩ := h1 b w hb hw hm
      obtain ⟨hL, hcl⟩ := key b w hb hw hm
      rw [asT_24 hk g1, asT_24 hk' hb]
      refine anI_eq hL (fun h6 i hi => ?_)
      have he := (hL.2.2.2.2 (i : Int) (by omega) (by omega)).1
      rw [hL.1, he]
      have hA2 := (hk' b hb).2 (i : Int) (by omega) (by rw [hL.2.2.2.1]; omega)
      rw [he] at hA2
      exact (ih _ _ (by omega) hA2.2.2 (whI_01 hw) (hcl h6 (i : Int) (by omega) (by omega))).symm
  intro b w hb hw hm
  obtain ⟨g1, g2, g3⟩ := h1 b w hb hw hm
  obtain ⟨hL, hcl⟩ := key b w hb hw hm
  refine ⟨?_, fun h6 i q0 q1 => ?_⟩
  · rw [g3, (h b w g1 hw g2).1, val _ b w (Nat.le_refl _) hb hw hm]
  · rw [hL.1] at h6 ⊢
    rw [hL.2.2.2.1] at q1
    rw [(hL.2.2.2.2 i q0 q1).1]
    exact hcl h6 i q0 q1
/-- one MEMO more -/
theorem MINV_keep {A : Int → Prop} {T : Int → Int → Int} {mb mb' : Int → Int → Prop} {mv mv' : Int → Int → Int} {n w0 : Int} (hk : TKA A T) (hn : A n) (h : MINV A T mb mv)
    (h1 : ∀ b w : Int, A b → (w = 0 ∨ w = 1) → mb' b w → (b = n ∧ w = w0) ∨ (mb b w ∧ mv' b w = mv b w)) (h2 : ∀ b w : Int, A b → mb b w → mb' b w)
    (hv : mv' n w0 = asT T 24 n w0) (hc : KN (T n 1) → ∀ i : Int, 0 ≤ i → i < T n 10 → mb (T n (11 + i)) (whI (T n 1) w0)) : MINV A T mb' mv' := by
  intro b w hb hw hm
  rcases h1 b w hb hw hm with ⟨e1, e2⟩ | ⟨g1, g2⟩
  · subst e1; subst e2
    exact ⟨hv, fun h6 i q0 q1 => h2 _ _ ((hk _ hn).2 i q0 q1).2.2 (hc h6 i q0 q1)⟩
  · obtain ⟨k1, k2⟩ := h b w hb hw g1
    exact ⟨g2.trans k1, fun h6 i q0 q1 => h2 _ _ ((hk _ hb).2 i q0 q1).2.2 (k2 h6 i q0 q1)⟩
/-- what is told lies in these -/
def KRA (A : Int → Prop) (T : Int → Int → Int) : Prop := ∀ b : Int, A b → (0 ≤ T b 2 ∧ T b 2 ≤ 99) ∧ (0 ≤ T b 3 ∧ T b 3 ≤ 99) ∧ (0 ≤ T b 7 ∧ T b 7 ≤ 99) ∧ (0 ≤ T b 8 ∧ T b 8 ≤ 99) ∧ 0 ≤ T b 10 ∧ T b 10 ≤ 8
theorem mxI_bd {g : Nat → Int} {B : Int} (hB : 0 ≤ B) : ∀ n : Nat, (∀ i, i < n → 0 ≤ g i ∧ g i ≤ B) → 0 ≤ mxI g n ∧ mxI g n ≤ B
  | 0, _ => ⟨Int.le_refl _, hB⟩
  | n + 1, h => by
    have h1 := mxI_bd hB n (fun i hi => h i (by omega))
    have h2 := h n (by omega)
    show 0 ≤ (if mxI g n < g n then g n else mxI g n) ∧ (if mxI g n < g n then g n else mxI g n) ≤ B
    split
    · exact h2
    · exact h1
theorem sumI_bd {g : Nat → Int} {B : Int} : ∀ n : Nat, (∀ i, i < n → 0 ≤ g i ∧ g i ≤ B) → 0 ≤ sumI g n ∧ sumI g n ≤ B * (n : Int)
  | 0, _ => by simp [sumI]
  | n + 1, h => by
    have h1 := sumI_bd n (fun i hi => h i (by omega))
    have h2 := h n (by omega)
    have e : B * ((n + 1 : Nat) : Int) = B * (n : Int) + B := by push_cast; rw [Int.mul_add, Int.mul_one]
    show 0 ≤ sumI g n + g n ∧ sumI g n + g n ≤ B * ((n + 1 : Nat) : Int)
    omega
theorem wdI_bd (b k : Int) : 1 ≤ wdI b k ∧ wdI b k ≤ 9 := by
  unfold wdI
  have := Int.emod_nonneg (7 * ((b + k) % 32) * ((b + k) % 32) + 3 * ((b + k) % 32)) (by decide : (9 : Int) ≠ 0)
  have := Int.emod_lt_of_pos (7 * ((b + k) % 32) * ((b + k) % 32) + 3 * ((b + k) % 32)) (by decide : (0 : Int) < 9)
  omega
theorem hdI_bd {v lo hi : Int} (h1 : 0 ≤ v) (h2 : 0 ≤ lo) (h3 : lo ≤ 99) (h4 : 0 ≤ hi) (h5 : hi ≤ 1000) : 0 ≤ hdI v lo hi ∧ hdI v lo hi ≤ 1000 := by
  unfold hdI
  split
  · omega
  · split <;> omega
theorem enI_bd {m : Int} (h1 : 0 ≤ m) (h2 : m ≤ 99) : 0 ≤ enI m ∧ enI m ≤ 1000 := by
  unfold enI
  split <;> omega
theorem txI_bd {a b w : Int} (h1 : 0 ≤ a) (h2 : a ≤ 99) : 0 ≤ txI a b w ∧ txI a b w ≤ 999 := by
  unfold txI
  split
  · have := sumI_bd (g := fun k => wdI b (k : Int)) (B := 9) a.toNat (fun k _ => by have := wdI_bd b (k : Int); omega)
    split <;> omega
  · have := mxI_bd (g := fun k => wdI b (k : Int)) (B := 9) (by decide) a.toNat (fun k _ => by have := wdI_bd b (k : Int); omega)
    omega
theorem gpI_bd {m b : Int} (h1 : m ≤ 8) (h2 : 0 ≤ b) (h3 : b ≤ 99) : 0 ≤ gpI m b ∧ gpI m b ≤ 693 := by
  unfold gpI
  split
  · have e1 : 0 ≤ (m - 1) * b := Int.mul_nonneg (by omega) h2
    have e2 : (m - 1) * b ≤ 7 * 99 := Int.mul_le_mul (by omega) h3 h2 (by decide)
    omega
  · omega
theorem asT_bd {A : Int → Prop} {T : Int → Int → Int} (hk : TKA A T) (hr : KRA A T) : ∀ (d : Nat) (b w : Int), A b → 0 ≤ asT T d b w ∧ asT T d b w ≤ 8800 + 200 * (d : Int)
  | 0, _, _, _ => by show 0 ≤ (0 : Int) ∧ (0 : Int) ≤ _; omega
  | d + 1, b, w, hA => by
    obtain ⟨r2, r3, r7, r8, r10⟩ := hr b hA
    have hg : ∀ i : Nat, i < (T b 10).toNat → 0 ≤ asT T d (T b (11 + (i : Int))) (whI (T b 1) w) ∧ asT T d (T b (11 + (i : Int))) (whI (T b 1) w) ≤ 8800 + 200 * (d : Int) := fun i hi =>
      asT_bd hk hr d _ _ ((hk b hA).2 (i : Int) (by omega) (by omega)).2.2
    have hm := mxI_bd (g := fun i => asT T d (T b (11 + (i : Int))) (whI (T b 1) w)) (B := 8800 + 200 * (d : Int)) (by omega) (T b 10).toNat hg
    have hs := sumI_bd (g := fun i => hdI (asT T d (T b (11 + (i : Int))) (whI (T b 1) w)) (T (T b (11 + (i : Int))) 7) (enI (T (T b (11 + (i : Int))) 8))) (B := 1000) (T b 10).toNat (fun i hi => by
      obtain ⟨-, -, k7, k8, -⟩ := hr _ ((hk b hA).2 (i : Int) (by omega) (by omega)).2.2
      have := enI_bd k8.1 k8.2
      exact hdI_bd (hg i hi).1 k7.1 k7.2 this.1 this.2)
    rw [asT_an]
    unfold anI
    dsimp only
    split
    · omega
    · split
      · have := txI_bd (b := T b 3) (w := w) r2.1 r2.2; omega
      · split
        · omega
        · split
          · have := enI_bd r3.1 r3.2
            have := hdI_bd hm.1 r2.1 r2.2 this.1 this.2
            omega
          · split
            · split <;> omega
            · split
              · have := gpI_bd (m := T b 10) r10.2 r3.1 r3.2
                omega
              · omega
theorem TKA_cg {A : Int → Prop} {T T' : Int → Int → Int} (hk : TKA A T) (hL : ∀ b, A b → LOC T T' b) : TKA A T' := fun b hb => ⟨(hk b hb).1, fun i h0 hi => by
  rw [(hL b hb).2.2.2.1] at hi
  rw [((hL b hb).2.2.2.2 i h0 hi).1]
  exact (hk b hb).2 i h0 hi⟩
theorem asT_cg {A : Int → Prop} {T T' : Int → Int → Int} (hk : TKA A T) (hL : ∀ b, A b → LOC T T' b) : ∀ (n : Nat) (b w : Int), (24 - b).toNat ≤ n → A b → asT T' 24 b w = asT T 24 b w
  | 0, b, _, hn, hb => by have := (hk b hb).1; omega
  | n + 1, b, w, hn, hb => by
    rw [asT_24 hk hb, asT_24 (TKA_cg hk hL) hb]
    refine anI_eq (hL b hb) (fun _ i hi => ?_)
    have hc := (hk b hb).2 (i : Int) (by omega) (by omega)
    rw [(hL b hb).1, ((hL b hb).2.2.2.2 (i : Int) (by omega) (by omega)).1]
    exact (asT_cg hk hL n _ _ (by omega) hc.2.2).symm
/-- the same tree, said otherwise -/
theorem MINV_cg {A : Int → Prop} {T T' : Int → Int → Int} {mb mb' : Int → Int → Prop} {mv mv' : Int → Int → Int} (hk : TKA A T) (hL : ∀ b, A b → LOC T T' b) (h : MINV A T mb mv) (hm : ∀ b w, A b → (w = 0 ∨ w = 1) → (mb' b w ↔ mb b w)) (hv : ∀ b w, A b → (w = 0 ∨ w = 1) → mv' b w = mv b w) : MINV A T' mb' mv' := fun b w hb hw hmb => by
  obtain ⟨g1, g2⟩ := h b w hb hw ((hm b w hb hw).mp hmb)
  refine ⟨by rw [hv b w hb hw, g1, asT_cg hk hL _ b w (Nat.le_refl _) hb], fun h6 i q0 q1 => ?_⟩
  rw [(hL b hb).1] at h6 ⊢
  rw [(hL b hb).2.2.2.1] at q1
  rw [((hL b hb).2.2.2.2 i q0 q1).1]
  exact (hm _ _ ((hk b hb).2 i q0 q1).2.2 (whI_01 hw)).mpr (g2 h6 i q0 q1)
