/-! ===== the reference: its cells, what each slot may hold, and what is known of some exactly ===== -/
abbrev mX : Type := Nat → Nat → Option Int32
/-- types of addresses, the type of the row 'now', exact knowledge -/
abbrev mY : Type := (Nat → Nat) × Nat × mX
/-- a box's fields -/
def fR (k : Nat) : Int × Int := [(0, 1), (0, 9), (0, 99), (0, 99), (0, 99), (0, 99), (0, 9), (0, 99), (0, 99), (-1, 23), (0, 8), (0, 23), (0, 23), (0, 23), (0, 23), (0, 23), (0, 23), (0, 23), (0, 23), (0, 1), (0, 1), (0, 3), (-2147483648, 2147483647), (-2147483648, 2147483647), (0, 1), (0, 1), (0, 1000), (0, 1000), (0, 1000), (0, 1000), (-2147483648, 2147483647), (-2147483648, 2147483647), (0, 1000), (0, 1000), (-2147483648, 2147483647), (-2147483648, 2147483647), (0, 2), (-2147483648, 2147483647)].getD k (-2147483648, 2147483647)
def nR (i : Nat) : Int × Int := if i < 22 then [(-1, 23), (0, 200), (0, 1000), (0, 24), (-2147483648, 2147483647), (0, 8), (-2147483648, 2147483647), (0, 9), (-2147483648, 2147483647), (0, 9), (-2147483648, 2147483647), (0, 9), (-2147483648, 2147483647), (0, 9), (-2147483648, 2147483647), (0, 9), (-2147483648, 2147483647), (0, 9), (-2147483648, 2147483647), (0, 9), (-2147483648, 2147483647), (0, 9)].getD i (-2147483648, 2147483647) else fR ((i - 22) % 38)
def rR (k : Nat) : Int × Int := [(0, 9), (0, 99), (0, 99), (0, 99), (0, 99), (0, 9), (-1, 23), (0, 8)].getD (k % 8) (-2147483648, 2147483647)
def mShp (t : Nat) : Nat ⊕ (Nat × Nat) := match t with
  | 1 => .inl 9
  | 2 => .inr (0, 934)
  | 3 => .inr (0, 934)
  | 4 => .inr (0, 934)
  | 5 => .inr (0, 934)
  | 6 => .inr (0, 30)
  | 7 => .inr (0, 30)
  | 8 => .inr (0, 30)
  | 9 => .inr (0, 30)
  | 10 => .inr (0, 30)
  | 11 => .inr (0, 24)
  | 12 => .inr (0, 192)
  | 13 => .inr (0, 24)
  | 14 => .inr (0, 192)
  | 15 => .inr (0, 120)
  | 16 => .inr (0, 60)
  | 17 => .inr (0, 192)
  | 18 => .inr (0, 26)
  | 19 => .inr (0, 700)
  | 20 => .inr (0, 6)
  | 21 => .inr (0, 4)
  | 22 => .inr (0, 4)
  | 23 => .inr (2, 240)
  | _ => .inr (2, 60)
def mFD (t k : Nat) : tSD := match t with
  | 1 => [(2, 0, 0), (1, 2, 0), (1, 3, 0), (1, 4, 0), (1, 5, 0), tBool, tAny, tAny, tAny, tAny, tAny, tAny, (1, 6, 0), (1, 7, 0), (1, 8, 0), (1, 9, 0), (1, 10, 0), (1, 11, 0), (0, 0, 29), (1, 12, 0), tAny, tAny, (1, 13, 0), (1, 14, 0), (1, 15, 0), (0, 0, 120), (0, 0, 120), tBool, (1, 16, 0), (1, 17, 0), (0, 0, 24), (1, 18, 0), (0, 0, 25), (1, 19, 0), (0, 0, 700), (1, 20, 0), (1, 21, 0), (1, 22, 0), (1, 23, 0), (1, 24, 0)].getD k tAny
  | 2 => (0, (nR k).1, (nR k).2)
  | 3 => (0, (nR k).1, (nR k).2)
  | 4 => (0, (nR k).1, (nR k).2)
  | 5 => (0, (nR k).1, (nR k).2)
  | 6 => (0, 0, 23)
  | 7 => (0, 0, 1)
  | 8 => (0, 0, 23)
  | 9 => (0, 0, 8)
  | 10 => (0, 0, 23)
  | 11 => (0, 0, 18)
  | 12 => (0, 0, 1000)
  | 13 => tAny
  | 14 => tAny
  | 15 => (0, 0, 126)
  | 16 => (0, 0, 127)
  | 17 => (0, (rR k).1, (rR k).2)
  | 18 => (0, 0, 23)
  | 19 => tAny
  | 20 => (0, 0, 23)
  | 21 => (0, 0, 4)
  | 22 => (0, 0, 60)
  | _ => (3, 0, 0)
def msv (Y : mY) (t k : Nat) (v : Value) : Prop := match mFD t k with
  | (0, lo, hi) => ∃ x : Int32, v = .int x ∧ lo ≤ x.toInt ∧ x.toInt ≤ hi ∧ ∀ y, Y.2.2 t k = some y → x = y
  | (1, u, _) => ∃ b : Nat, v = .ref b ∧ Y.1 b = u.toNat
  | (2, _, _) => ∃ b : Nat, v = .ref b ∧ Y.1 b = Y.2.1
  | (_, _, _) => ∃ x : Int64, v = .long x
/-- known by code: rows of the PLAN of now and imaged, hasImage, the letters and how many there are, the names -/
def mMk (t k : Nat) : Bool := ((t == 2 || t == 3) && k == 5) || (t == 1 && (k == 5 || k == 25)) || t == 15 || t == 16
def mMt (t : Nat) : Bool := t == 1 || t == 2 || t == 3 || t == 15 || t == 16
theorem mMk_t {t k : Nat} (h : mMt t = false) : mMk t k = false := by
  unfold mMt at h
  simp only [Bool.or_eq_false_iff] at h
  unfold mMk
  simp [h.1.1.1.1, h.1.1.1.2, h.1.1.2, h.1.2, h.2]
def mKn (G : tG) (t k : Nat) (v : Value) : Prop := mMk t k = true → v = .int (FM G t k)
theorem mKn_no {G : tG} {t k : Nat} {v : Value} (h : mMk t k = false) : mKn G t k v := fun h2 => by rw [h] at h2; cases h2
def mΓ (G : tG) (Y : mY) : Nat → Option tSH := fun a => if Y.1 a = 0 then none else some (mShp (Y.1 a), fun k v => msv Y (Y.1 a) k v ∧ mKn G (Y.1 a) k v)
def mA (Y : mY) : Nat → Prop := fun q => Y.1 q ≠ 0
def mCu (c : Nat) : Prop := c = 2 ∨ c = 3 ∨ c = 4 ∨ c = 5
def mOK (Y : mY) : Prop := mCu Y.2.1 ∧ ∀ a b, Y.1 a = Y.1 b → Y.1 a ≠ 0 → a = b
def mPre (G : tG) (Y : mY) (U : State) : Prop := TH G (mΓ G Y) U.heap ∧ va_K G.1 vwCl (tTy G) U ∧ mOK Y
def mGH (G : tG) (Y : mY) (s : State) (H : Heap) (locs : List Loc) : Prop := TH G (mΓ G Y) H ∧ va_S (mA Y) s.heap H locs ∧ mOK Y
theorem mΓ_at {G : tG} {Y : mY} {a t : Nat} (h : Y.1 a = t) (ht : t ≠ 0) : mΓ G Y a = some (mShp t, fun k v => msv Y t k v ∧ mKn G t k v) := by
  subst h
  simp [mΓ, ht]
theorem mΓ_no {G : tG} {Y : mY} {a : Nat} (h : mΓ G Y a ≠ none) : Y.1 a ≠ 0 := fun z => h (by simp [mΓ, z])
theorem mTH.mk {G G' : tG} {Y : mY} {H : Heap} (h : ∀ a, Y.1 a ≠ 0 → tAt G (mShp (Y.1 a), fun k v => msv Y (Y.1 a) k v ∧ mKn G' (Y.1 a) k v) a H) : TH G (mΓ G' Y) H := by
  intro a sh ha
  have h0 : Y.1 a ≠ 0 := mΓ_no (by rw [ha]; exact fun z => by cases z)
  rw [mΓ_at rfl h0] at ha
  cases ha
  exact h a h0
theorem mTH.at {G G' : tG} {Y : mY} {H : Heap} (h : TH G (mΓ G' Y) H) {a : Nat} (h0 : Y.1 a ≠ 0) : tAt G (mShp (Y.1 a), fun k v => msv Y (Y.1 a) k v ∧ mKn G' (Y.1 a) k v) a H := h a _ (mΓ_at rfl h0)
/-- the same cells, less is known -/
def mLe (Y Y' : mY) : Prop := Y'.1 = Y.1 ∧ Y'.2.1 = Y.2.1 ∧ ∀ c k y, Y'.2.2 c k = some y → Y.2.2 c k = some y
theorem msv.le {Y Y' : mY} (h : mLe Y Y') {t k : Nat} {v : Value} (hv : msv Y t k v) : msv Y' t k v := by
  obtain ⟨h1, h2, h3⟩ := h
  unfold msv at hv ⊢
  split at hv
  · obtain ⟨x, e, a, b, c⟩ := hv
    exact ⟨x, e, a, b, fun y hy => c y (h3 _ _ _ hy)⟩
  · rw [h1]; exact hv
  · rw [h1, h2]; exact hv
  · exact hv
theorem mTH.le {G G' : tG} {Y Y' : mY} {H : Heap} (hL : mLe Y Y') (h : TH G (mΓ G' Y) H) : TH G (mΓ G' Y') H := by
  refine mTH.mk (fun a ha => ?_)
  rw [hL.1] at ha ⊢
  exact (mTH.at h ha).to (fun j v hv => ⟨msv.le hL hv.1, hv.2⟩)
theorem mLe.refl {Y : mY} : mLe Y Y := ⟨rfl, rfl, fun _ _ _ h => h⟩
theorem mLe.trans {Y Y' Y'' : mY} (h : mLe Y Y') (h' : mLe Y' Y'') : mLe Y Y'' := ⟨h'.1.trans h.1, h'.2.1.trans h.2.1, fun c k y e => h.2.2 c k y (h'.2.2 c k y e)⟩
theorem mGH.le {G : tG} {Y Y' : mY} {s : State} {H : Heap} {locs : List Loc} (hL : mLe Y Y') (h : mGH G Y s H locs) : mGH G Y' s H locs := by
  obtain ⟨h1, h2, h3⟩ := h
  have hA : mA Y' = mA Y := by unfold mA; rw [hL.1]
  exact ⟨mTH.le hL h1, by rw [hA]; exact h2, by unfold mOK; rw [hL.2.1, hL.1]; exact h3⟩
def mSet (Y : mY) (c k : Nat) (o : Option Int32) : mY := (Y.1, Y.2.1, fun c' k' => if c' = c ∧ k' = k then o else Y.2.2 c' k')
theorem mSet_1 {Y : mY} {c k : Nat} {o : Option Int32} : (mSet Y c k o).1 = Y.1 := rfl
theorem mSet_2 {Y : mY} {c k : Nat} {o : Option Int32} : (mSet Y c k o).2.1 = Y.2.1 := rfl
theorem mSet_at {Y : mY} {c k : Nat} {o : Option Int32} : (mSet Y c k o).2.2 c k = o := if_pos ⟨rfl, rfl⟩
theorem mSet_ne {Y : mY} {c k c' k' : Nat} {o : Option Int32} (h : ¬ (c' = c ∧ k' = k)) : (mSet Y c k o).2.2 c' k' = Y.2.2 c' k' := if_neg h
theorem mSet_none {Y : mY} {c k : Nat} {o : Option Int32} (h : Y.2.2 c k = none) : mLe (mSet Y c k o) Y := ⟨rfl, rfl, fun c' k' y e => by
  by_cases z : c' = c ∧ k' = k
  · rw [z.1, z.2, h] at e; cases e
  · rw [mSet_ne z]; exact e⟩
theorem msv.set {Y : mY} {c k : Nat} {o : Option Int32} {t j : Nat} {v : Value} (h : ¬ (t = c ∧ j = k)) (hv : msv Y t j v) : msv (mSet Y c k o) t j v := by
  unfold msv at hv ⊢
  split at hv
  · obtain ⟨x, e, a, b, d⟩ := hv
    exact ⟨x, e, a, b, fun y hy => d y (by rw [mSet_ne h] at hy; exact hy)⟩
  · exact hv
  · exact hv
  · exact hv
/-- one slot has got a value -/
theorem mGH.put {G : tG} {Y : mY} {s : State} {H H1 : Heap} {locs : List Loc} {a i c k : Nat} {o : Option Int32} (hG : mGH G Y s H locs) (ha : Y.1 a = c) (hc : c ≠ 0) (z : H1.size = H.size) (oq : ∀ q : Nat, q ≠ a → H1[q]? = H[q]?) (hat : tAt G (mShp c, fun j v => msv (mSet Y c k o) c j v ∧ mKn G c j v) a H1) : mGH G (mSet Y c k o) s H1 (locs ++ [⟨a, i⟩]) := by
  obtain ⟨h1, h2, h3⟩ := hG
  refine ⟨mTH.mk (fun b hb => ?_), ?_, h3⟩
  · show tAt G (mShp (Y.1 b), fun j v => msv (mSet Y c k o) (Y.1 b) j v ∧ mKn G (Y.1 b) j v) b H1
    by_cases e : b = a
    · subst e; rw [ha]; exact hat
    · have hb2 : Y.1 b ≠ 0 := hb
      have hne : Y.1 b ≠ c := fun z => e (h3.2 b a (by rw [z, ha]) hb2)
      exact ((mTH.at h1 hb2).kept (oq b e)).to (fun j v hv => ⟨msv.set (fun z => hne z.1) hv.1, hv.2⟩)
  · exact h2.put z oq (show Y.1 a ≠ 0 by rw [ha]; exact hc)
theorem mMt_l {t n : Nat} (h : mShp t = .inr (2, n)) : mMt t = false := by
  by_cases e1 : t = 1
  · subst e1; exact absurd h (by intro z; cases z)
  · by_cases e2 : t = 2
    · subst e2; exact absurd h (by intro z; cases z)
    · by_cases e3 : t = 3
      · subst e3; exact absurd h (by intro z; cases z)
      · by_cases e4 : t = 15
        · subst e4; exact absurd h (by intro z; cases z)
        · by_cases e5 : t = 16
          · subst e5; exact absurd h (by intro z; cases z)
          · unfold mMt; simp [e1, e2, e3, e4, e5]
def ix (b k : Int) : Nat := (22 + 38 * b + k).toNat
theorem ix_div {b k : Int} (h1 : 0 ≤ b) (h2 : 0 ≤ k) (h3 : k < 38) : nR (ix b k) = fR k.toNat := by
  unfold nR
  have e : ix b k = 22 + (38 * b.toNat + k.toNat) := by unfold ix; omega
  rw [e, if_neg (by omega), show 22 + (38 * b.toNat + k.toNat) - 22 = 38 * b.toNat + k.toNat by omega, Nat.mul_add_mod, Nat.mod_eq_of_lt (by omega)]
theorem ix_inj {b k b' k' : Int} (h1 : 0 ≤ b) (h2 : 0 ≤ k) (h3 : k < 38) (h1' : 0 ≤ b') (h2' : 0 ≤ k') (h3' : k' < 38) (h : ix b k = ix b' k') : b = b' ∧ k = k' := by
  unfold ix at h
  have h9 : 22 + 38 * b + k = 22 + 38 * b' + k' := by omega
  omega
/-- a slot of the row 'now' holds r -/
def mV (Y : mY) (i : Nat) (r : Int32) : Prop := (nR i).1 ≤ r.toInt ∧ r.toInt ≤ (nR i).2 ∧ ∀ y, Y.2.2 Y.2.1 i = some y → r = y
theorem mFD_cu {c k : Nat} (h : mCu c) : mFD c k = (0, (nR k).1, (nR k).2) := by
  rcases h with e | e | e | e <;> subst e <;> rfl
theorem mShp_cu {c : Nat} (h : mCu c) : mShp c = .inr (0, 934) := by
  rcases h with e | e | e | e <;> subst e <;> rfl
theorem mCu_nz {c : Nat} (h : mCu c) : c ≠ 0 := by
  rcases h with e | e | e | e <;> subst e <;> decide
def mFi (index k : Nat) (lo hi : Int) : Prop := tFf RX10 index 9 k ∧ mFD 1 k = (0, lo, hi)
def mFr (index k t : Nat) : Prop := tFf RX10 index 9 k ∧ mFD 1 k = (1, (t : Int), 0)
def mPi (index k : Nat) (lo hi : Int) (ty : FieldType) : Prop := tFp RX10 index 9 k ty ∧ mFD 1 k = (0, lo, hi) ∧ mMk 1 k = false
def mAr (t n : Nat) (lo hi : Int) : Prop := (t ≠ 0 ∧ mMt t = false) ∧ mShp t = .inr (0, n) ∧ ∀ k, mFD t k = (0, lo, hi)
abbrev mQi (G : tG) (Y : mY) (post : Int32 → Prop) : Array Value → State → Outcome → State → Prop := va_Qi (S := Unit) (fun r _ => post r) (fun _ t => TH G (mΓ G Y) t.heap) (mA Y)
abbrev mQl (G : tG) (Y : mY) (post : Int64 → Prop) : Array Value → State → Outcome → State → Prop := va_Ql (S := Unit) (fun r _ => post r) (fun _ t => TH G (mΓ G Y) t.heap) (mA Y)
abbrev mQv (G : tG) (Y : mY) : Array Value → State → Outcome → State → Prop := va_Qv (S := Unit) (fun _ => True) (fun _ t => TH G (mΓ G Y) t.heap) (mA Y)
/-- the knowledge changes -/
abbrev mQiX (G : tG) (Y : mY) (post : Int32 → mY → Prop) : Array Value → State → Outcome → State → Prop := va_Qi (S := mY) (fun r Y' => Y'.1 = Y.1 ∧ mCu Y'.2.1 ∧ post r Y') (fun Y' t => TH G (mΓ G Y') t.heap) (mA Y)
abbrev mQlX (G : tG) (Y : mY) (post : Int64 → mY → Prop) : Array Value → State → Outcome → State → Prop := va_Ql (S := mY) (fun r Y' => Y'.1 = Y.1 ∧ mCu Y'.2.1 ∧ post r Y') (fun Y' t => TH G (mΓ G Y') t.heap) (mA Y)
abbrev mQvX (G : tG) (Y : mY) (post : mY → Prop) : Array Value → State → Outcome → State → Prop := va_Qv (S := mY) (fun Y' => Y'.1 = Y.1 ∧ mCu Y'.2.1 ∧ post Y') (fun Y' t => TH G (mΓ G Y') t.heap) (mA Y)
theorem mPre.blind {G : tG} {Y : mY} {av : List Value} : FrameBlind (va_Pc av (mPre G Y)) := fun a U g mk q => by
  obtain ⟨q0, q1, q2, q3⟩ := q
  exact ⟨q0, q1, va_K.moved (u := U) (U := U.calling g mk a) (Vm.Alike.refl U.vm) q2, q3⟩
theorem mPre.of {G : tG} {Y : mY} {s U : State} {H : Heap} {locs : List Loc} (hG : mGH G Y s H locs) (hK : va_K G.1 vwCl (tTy G) s) (hU : U.heap = H) (hW : s.WarmedH U.vm) : mPre G Y U :=
  ⟨by rw [hU]; exact hG.1, va_K.moved hW.alike hK, hG.2.2⟩
