/-! ===== a round of parting: what the sums say ===== -/
def ps (h : Nat → Int) : Nat → Int
  | 0 => 0
  | n + 1 => ps h n + h n
theorem ps_1 {h : Nat → Int} {v z : Int32} (h0 : 0 ≤ v.toInt) (e : z.toInt = v.toInt + 1) : ps h z.toInt.toNat = ps h v.toInt.toNat + h v.toInt.toNat := by
  rw [show z.toInt.toNat = v.toInt.toNat + 1 by omega]; rfl
theorem ps_eq {f g : Nat → Int} {n : Nat} (h : ∀ i, i < n → g i = f i) : ps g n = ps f n := by
  induction n with
  | zero => rfl
  | succ n ih => show ps g n + g n = ps f n + f n; rw [ih (fun i hi => h i (by omega)), h n (by omega)]
theorem ps_diff {f g : Nat → Int} {i n : Nat} (hi : i ≤ n) (h : ∀ j, i ≤ j → j < n → g j = f j) : ps g n - ps g i = ps f n - ps f i := by
  induction n with
  | zero => have : i = 0 := by omega
            subst this; show (0 : Int) - 0 = 0 - 0; rfl
  | succ n ih =>
    by_cases e : i = n + 1
    · subst e; omega
    · have := ih (by omega) (fun j h1 h2 => h j h1 (by omega))
      have := h n (by omega) (by omega)
      show ps g n + g n - ps g i = ps f n + f n - ps f i
      omega
theorem ps_nn {f : Nat → Int} {n : Nat} (h : ∀ i, i < n → 0 ≤ f i) : 0 ≤ ps f n := by
  induction n with
  | zero => exact Int.le_refl _
  | succ n ih => show 0 ≤ ps f n + f n; have := ih (fun i hi => h i (by omega)); have := h n (by omega); omega
theorem ps_ge {f : Nat → Int} {n i : Nat} (h : ∀ i, i < n → 0 ≤ f i) (hi : i < n) : f i ≤ ps f n - ps f i := by
  induction n with
  | zero => omega
  | succ n ih =>
    show f i ≤ ps f n + f n - ps f i
    have hn := h n (by omega)
    by_cases e : i = n
    · subst e; omega
    · have := ih (fun j hj => h j (by omega)) (by omega); omega
def gS (t : Nat → Int32) (b : Int) (o : Int32) (j : Nat) : Int := if bS o (Int32.ofNat j) then K t (K t b (11 + (j : Int))) 6 else 0
def gN (o : Int32) (j : Nat) : Int := if bS o (Int32.ofNat j) then 1 else 0
def rgF (F : mF) (b : Int) (o : Int32) (j : Nat) : Int := if bS o (Int32.ofNat j) then (F 12 (8 * b.toNat + j)).toInt else 0
theorem gS_1 {t : Nat → Int32} {b : Int} {o v : Int32} (h0 : 0 ≤ v.toInt) (h7 : v.toInt ≤ 7) (h : bS o v) : gS t b o v.toInt.toNat = K t (K t b (11 + v.toInt)) 6 := by
  unfold gS
  rw [← (i8 h0 h7).1, if_pos h, show ((v.toInt.toNat : Nat) : Int) = v.toInt by omega]
theorem gS_0 {t : Nat → Int32} {b : Int} {o v : Int32} (h0 : 0 ≤ v.toInt) (h7 : v.toInt ≤ 7) (h : ¬ bS o v) : gS t b o v.toInt.toNat = 0 := by
  unfold gS
  rw [← (i8 h0 h7).1, if_neg h]
theorem gN_1 {o v : Int32} (h0 : 0 ≤ v.toInt) (h7 : v.toInt ≤ 7) (h : bS o v) : gN o v.toInt.toNat = 1 := by
  unfold gN
  rw [← (i8 h0 h7).1, if_pos h]
theorem gN_0 {o v : Int32} (h0 : 0 ≤ v.toInt) (h7 : v.toInt ≤ 7) (h : ¬ bS o v) : gN o v.toInt.toNat = 0 := by
  unfold gN
  rw [← (i8 h0 h7).1, if_neg h]
theorem gN_nn {o : Int32} (j : Nat) : 0 ≤ gN o j := by unfold gN; split <;> decide
theorem gF_1 {F : mF} {b : Int} {o v : Int32} (h0 : 0 ≤ v.toInt) (h7 : v.toInt ≤ 7) (h : bS o v) : rgF F b o v.toInt.toNat = (F 12 (8 * b.toNat + v.toInt.toNat)).toInt := by
  unfold rgF
  rw [← (i8 h0 h7).1, if_pos h]
theorem gF_0 {F : mF} {b : Int} {o v : Int32} (h0 : 0 ≤ v.toInt) (h7 : v.toInt ≤ 7) (h : ¬ bS o v) : rgF F b o v.toInt.toNat = 0 := by
  unfold rgF
  rw [← (i8 h0 h7).1, if_neg h]
def OK8 (t : Nat → Int32) (b : Int) (o : Int32) : Prop := ∀ j : Int32, 0 ≤ j.toInt → j.toInt ≤ 7 → bS o j → j.toInt < K t b 10 ∧ 1 ≤ K t (K t b (11 + j.toInt)) 6
theorem gS_nn {t : Nat → Int32} {b : Int} {o : Int32} (hO : OK8 t b o) {j : Nat} (hj : j < 8) : 0 ≤ gS t b o j := by
  unfold gS
  split
  · rename_i h
    have e := ofN8 hj
    have := hO (Int32.ofNat j) (by omega) (by omega) h
    rw [e] at this
    omega
  · decide
/-- after i of them: what is given, against the exact parts -/
def R2 (S x A B n : Int) : Prop := S * B ≤ x * A ∧ x * A ≤ S * B + S * n
theorem R2_0 {S x : Int} : R2 S x 0 0 0 := by unfold R2; simp
theorem R2_s {S x A B n s f : Int} (h : R2 S x A B n) (h1 : S * f ≤ x * s) (h2 : x * s ≤ S * f + S) : R2 S x (A + s) (B + f) (n + 1) := by
  unfold R2 at *
  rw [Int.mul_add, Int.mul_add, Int.mul_add, Int.mul_one]
  omega
theorem R2_e {S x B n : Int} (hS : 1 ≤ S) (h : R2 S x S B n) : B ≤ x ∧ x ≤ B + n := by
  unfold R2 at h
  constructor
  · refine Int.le_of_mul_le_mul_left (a := S) ?_ (by omega)
    rw [Int.mul_comm S x]; exact h.1
  · refine Int.le_of_mul_le_mul_left (a := S) ?_ (by omega)
    rw [Int.mul_comm S x, Int.mul_add]; exact h.2
theorem dv_b {x s S : Int} {p q z : Int32} (hx : 0 ≤ x) (hs : 0 ≤ s) (hS : 1 ≤ S) (hp : p.toInt = x * s) (hq : q.toInt = S) (e : z = p / q) (hsS : s ≤ S) : S * z.toInt ≤ x * s ∧ x * s ≤ S * z.toInt + S ∧ 0 ≤ z.toInt ∧ z.toInt ≤ x := by
  have hp0 : 0 ≤ p.toInt := by rw [hp]; exact Int.mul_nonneg hx hs
  have ez := tn_div (k := S) e hq hp0 (by omega)
  rw [hp] at ez
  have h1 := Int.ediv_mul_le (x * s) (show S ≠ 0 by omega)
  have h2 := Int.lt_ediv_add_one_mul_self (x * s) (show 0 < S by omega)
  have h3 : 0 ≤ x * s / S := Int.ediv_nonneg (Int.mul_nonneg hx hs) (by omega)
  have h4 : x * s / S ≤ x := by
    refine Int.le_of_mul_le_mul_right (a := S) ?_ (by omega)
    exact Int.le_trans h1 (Int.mul_le_mul_of_nonneg_left hsS hx)
  rw [Int.add_mul, Int.one_mul] at h2
  rw [ez, Int.mul_comm S]
  exact ⟨h1, by omega, h3, h4⟩
def hasB (o r : Int32) : Prop := ∃ j : Int32, 0 ≤ j.toInt ∧ j.toInt ≤ 7 ∧ bS o j ∧ bS r j
theorem hasB.or {o r y : Int32} (h : hasB o r) : hasB o (r ||| y) := by
  obtain ⟨j, h0, h7, h1, h2⟩ := h
  exact ⟨j, h0, h7, h1, b_or h0 h7 h2⟩
def R3 (o : Int32) (x T left all nr : Int) (ra lo : Int32) : Prop := 0 ≤ left ∧ left ≤ nr ∧ (all ≤ x - T - left ∨ hasB o ra) ∧ (x - T - left ≤ all ∨ hasB o lo)
theorem R3_s {o : Int32} {x T left all nr f v is left' T' all' nr' : Int} {ra lo ra' lo' i y1 y2 : Int32} (h : R3 o x T left all nr ra lo) (g0 : 0 ≤ i.toInt) (g7 : i.toInt ≤ 7) (hb : bS o i) (hn : 1 ≤ nr) (hl : (0 < left ∧ v = f + 1 ∧ left' = left - 1) ∨ (left ≤ 0 ∧ v = f ∧ left' = left)) (eT : T' = T - f) (ea : all' = all + is) (en : nr' = nr - 1)
    (hr : (v < is ∧ ra' = ra ||| y1 ∧ y1 = 1 <<< (i &&& 31)) ∨ (is ≤ v ∧ ra' = ra ||| y1)) (hw : (is < v ∧ lo' = lo ||| y2 ∧ y2 = 1 <<< (i &&& 31)) ∨ (v ≤ is ∧ lo' = lo ||| y2)) : R3 o x T' left' all' nr' ra' lo' := by
  obtain ⟨h1, h2, h3, h4⟩ := h
  refine ⟨by omega, by omega, ?_, ?_⟩
  · rcases hr with ⟨q1, q2, q3⟩ | ⟨q1, q2⟩
    · right; rw [q2, q3]; exact ⟨i, g0, g7, hb, b_or1 g0 g7⟩
    · rcases h3 with h3 | h3
      · left; omega
      · right; rw [q2]; exact h3.or
  · rcases hw with ⟨q1, q2, q3⟩ | ⟨q1, q2⟩
    · right; rw [q2, q3]; exact ⟨i, g0, g7, hb, b_or1 g0 g7⟩
    · rcases h4 with h4 | h4
      · left; omega
      · right; rw [q2]; exact h4.or
theorem R3_e {o r : Int32} {x left all : Int} {ra lo : Int32} (h : R3 o x 0 left all 0 ra lo) (hr : (all = x ∧ r = o) ∨ (x < all ∧ r = ra) ∨ (all < x ∧ r = lo)) : r = o ∨ hasB o r := by
  obtain ⟨h1, h2, h3, h4⟩ := h
  rcases hr with ⟨q1, q2⟩ | ⟨q1, q2⟩ | ⟨q1, q2⟩
  · exact Or.inl q2
  · rcases h3 with h3 | h3
    · omega
    · rw [q2]; exact Or.inr h3
  · rcases h4 with h4 | h4
    · omega
    · rw [q2]; exact Or.inr h4
def PG (c k : Nat) : Bool := c == 12
theorem PG_12 {k : Nat} : PG 12 k = true := rfl
theorem PG_cu {cu : Nat} (h : mCu cu) (k : Nat) : PG cu k = false := by
  rcases h with e | e | e | e <;> subst e <;> rfl
theorem PG_tr {cu : Nat} (h : mCu cu) : ∀ k, tr k = true → PG cu k = false := fun k _ => PG_cu h k
theorem PG_none {σ : Nat → Nat} {cu : Nat} {X : mX} (hA : mAV (σ, cu, X)) (c k : Nat) (h : PG c k = true) : X c k = none := by
  unfold PG at h
  simp at h
  exact hA.1 c k (by omega)
/-- what the loops of a round know -/
def L2 (t : Nat → Int32) (b : Int) (o : Int32) (F : mF) (x S left : Int) (many i : Int) : Prop := S = ps (gS t b o) many.toNat ∧ left = x - ps (rgF F b o) i.toNat ∧ R2 S x (ps (gS t b o) i.toNat) (ps (rgF F b o) i.toNat) (ps (gN o) i.toNat)
def L3 (o : Int32) (b : Int) (F : mF) (x left all : Int) (many i : Int) (ra lo : Int32) : Prop := R3 o x (ps (rgF F b o) many.toNat - ps (rgF F b o) i.toNat) left all (ps (gN o) many.toNat - ps (gN o) i.toNat) ra lo
theorem L2_0 {t : Nat → Int32} {b : Int} {o : Int32} {F : mF} {x S left many : Int} (hS : S = ps (gS t b o) many.toNat) (hl : left = x) : L2 t b o F x S left many (0 : Int32).toInt := by
  refine ⟨hS, ?_, ?_⟩
  · rw [kI_0]; show left = x - 0; omega
  · rw [kI_0]; exact R2_0
theorem L2_n {t : Nat → Int32} {b : Int} {o v z : Int32} {F : mF} {x S left many : Int} (h : L2 t b o F x S left many v.toInt) (h0 : 0 ≤ v.toInt) (h7 : v.toInt ≤ 7) (e : z.toInt = v.toInt + 1) (hb : ¬ bS o v) : L2 t b o F x S left many z.toInt := by
  obtain ⟨h1, h2, h3⟩ := h
  unfold L2
  rw [ps_1 (h := gS t b o) h0 e, ps_1 (h := rgF F b o) h0 e, ps_1 (h := gN o) h0 e, gS_0 h0 h7 hb, gF_0 h0 h7 hb, gN_0 h0 h7 hb, Int.add_zero, Int.add_zero, Int.add_zero]
  exact ⟨h1, h2, h3⟩
theorem L2_s {t : Nat → Int32} {b : Int} {o v z f : Int32} {F F' : mF} {x S left left' many : Int} {k : Nat} (h : L2 t b o F x S left many v.toInt) (h0 : 0 ≤ v.toInt) (h7 : v.toInt ≤ 7) (e : z.toInt = v.toInt + 1) (hb : bS o v) (hk : k = 8 * b.toNat + v.toInt.toNat) (eF : F' = up2 F 12 k f) (g1 : S * f.toInt ≤ x * K t (K t b (11 + v.toInt)) 6) (g2 : x * K t (K t b (11 + v.toInt)) 6 ≤ S * f.toInt + S) (el : left' = left - f.toInt) : L2 t b o F' x S left' many z.toInt := by
  obtain ⟨h1, h2, h3⟩ := h
  have e1 : ps (rgF F' b o) v.toInt.toNat = ps (rgF F b o) v.toInt.toNat := ps_eq (fun i hi => by
    unfold rgF
    rw [eF, up2_ne (by omega)])
  have e2 : rgF F' b o v.toInt.toNat = f.toInt := by rw [gF_1 h0 h7 hb, eF, hk, up2_at]
  unfold L2
  rw [ps_1 (h := gS t b o) h0 e, ps_1 (h := rgF F' b o) h0 e, ps_1 (h := gN o) h0 e, gS_1 h0 h7 hb, gN_1 h0 h7 hb, e1, e2]
  exact ⟨h1, by omega, R2_s h3 g1 g2⟩
theorem L3_0 {t : Nat → Int32} {b : Int} {o : Int32} {F : mF} {x S left many : Int} {i : Int} (h : L2 t b o F x S left many i) (hS : 1 ≤ S) (hm : 0 ≤ many) (hi : i.toNat = many.toNat) : L3 o b F x left (0 : Int32).toInt many (0 : Int32).toInt 0 0 := by
  obtain ⟨h1, h2, h3⟩ := h
  rw [hi] at h2 h3
  rw [← h1] at h3
  have h4 := R2_e hS h3
  unfold L3
  rw [kI_0, show ps (rgF F b o) (0 : Int).toNat = 0 from rfl, show ps (gN o) (0 : Int).toNat = 0 from rfl]
  exact ⟨by omega, by omega, Or.inl (by omega), Or.inl (by omega)⟩
theorem L3_n {o v z : Int32} {b : Int} {F : mF} {x left all many : Int} {ra lo : Int32} (h : L3 o b F x left all many v.toInt ra lo) (h0 : 0 ≤ v.toInt) (h7 : v.toInt ≤ 7) (e : z.toInt = v.toInt + 1) (hb : ¬ bS o v) : L3 o b F x left all many z.toInt ra lo := by
  unfold L3 at *
  rw [ps_1 (h := rgF F b o) h0 e, ps_1 (h := gN o) h0 e, gF_0 h0 h7 hb, gN_0 h0 h7 hb, Int.add_zero, Int.add_zero]
  exact h
theorem L3_s {o i z : Int32} {b : Int} {F F' : mF} {x left all many v left' all' : Int} {ra lo ra' lo' y1 y2 f is : Int32} {k : Nat} (h : L3 o b F x left all many i.toInt ra lo) (h0 : 0 ≤ i.toInt) (h7 : i.toInt ≤ 7) (hm : i.toInt < many) (e : z.toInt = i.toInt + 1) (hb : bS o i) (hk : k = 8 * b.toNat + i.toInt.toNat) (ef : f = F 12 k) (eF : F' = up2 F 12 k is) (hl : (0 < left ∧ v = f.toInt + 1 ∧ left' = left - 1) ∨ (left ≤ 0 ∧ v = f.toInt ∧ left' = left)) (ea : all' = all + is.toInt)
    (hr : (v < is.toInt ∧ ra' = ra ||| y1 ∧ y1 = 1 <<< (i &&& 31)) ∨ (is.toInt ≤ v ∧ ra' = ra ||| y1)) (hw : (is.toInt < v ∧ lo' = lo ||| y2 ∧ y2 = 1 <<< (i &&& 31)) ∨ (v ≤ is.toInt ∧ lo' = lo ||| y2)) : L3 o b F' x left' all' many z.toInt ra' lo' := by
  unfold L3 at *
  have hd : ps (rgF F' b o) many.toNat - ps (rgF F' b o) z.toInt.toNat = ps (rgF F b o) many.toNat - ps (rgF F b o) z.toInt.toNat := ps_diff (by omega) (fun j h1 h2 => by
    unfold rgF
    rw [eF, up2_ne (by omega)])
  have hn := ps_ge (f := gN o) (n := many.toNat) (i := i.toInt.toNat) (fun j _ => gN_nn j) (by omega)
  rw [gN_1 h0 h7 hb] at hn
  rw [hd]
  refine R3_s h h0 h7 hb (by omega) hl ?_ ea ?_ hr hw
  · rw [ps_1 (h := rgF F b o) h0 e, gF_1 h0 h7 hb, ← hk, ← ef]; omega
  · rw [ps_1 (h := gN o) h0 e, gN_1 h0 h7 hb]; omega
theorem L3_e {o r : Int32} {b : Int} {F : mF} {x left all many i : Int} {ra lo : Int32} (h : L3 o b F x left all many i ra lo) (hi : i.toNat = many.toNat) (hr : (all = x ∧ r = o) ∨ (x < all ∧ r = ra) ∨ (all < x ∧ r = lo)) : r = o ∨ hasB o r := by
  unfold L3 at h
  rw [hi, Int.sub_self, Int.sub_self] at h
  exact R3_e h hr
