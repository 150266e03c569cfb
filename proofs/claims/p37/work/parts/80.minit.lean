/-! ===== the reference comes to be ===== -/
def PI2 (a : Nat → Option (Nat → Int32)) : Prop := a 17 = none ∧ a 1 = none ∧ (∃ t, a 2 = some t ∧ TInv t) ∧ ∃ u, a 3 = some u ∧ TInv u
def mC (G κ : tG) (σ : Nat → Nat) (a : Nat → Option (Nat → Int32)) (sz n : Nat) (H : Heap) : Prop := TH G (mΓ κ (σ, 2, qX a)) H ∧ (∀ q, σ q ≠ 0 → sz ≤ q ∧ q < H.size) ∧ (∀ x y, σ x = σ y → σ x ≠ 0 → x = y) ∧ ∀ q, σ q ≤ n ∧ σ q ≠ 1
theorem mC_0 {G κ : tG} {sz : Nat} {H : Heap} : mC G κ (fun _ => 0) (fun _ => none) sz 1 H :=
  ⟨mTH.mk (fun a ha => absurd rfl ha), fun _ h => absurd rfl h, fun _ _ _ h => absurd rfl h, fun _ => ⟨Nat.zero_le _, by show (0 : Nat) ≠ 1; decide⟩⟩
theorem mC.kept {G κ : tG} {σ : Nat → Nat} {a : Nat → Option (Nat → Int32)} {sz n : Nat} {H H1 : Heap} (hM : mC G κ σ a sz n H) (z : H.size ≤ H1.size) (oq : ∀ q, σ q ≠ 0 → H1[q]? = H[q]?) : mC G κ σ a sz n H1 := by
  obtain ⟨h1, h2, h3, h4⟩ := hM
  refine ⟨mTH.mk (fun q hq => (mTH.at h1 hq).kept (oq q hq)), fun q hq => ⟨(h2 q hq).1, Nat.lt_of_lt_of_le (h2 q hq).2 z⟩, h3, h4⟩
/-- the codes of arrays: their slots are ints in a range that holds 0, or longs -/
theorem msv_arr {Y Y' : mY} {t k : Nat} {v : Value} (ht : t ≠ 1) (hX : ∀ y, Y'.2.2 t k = some y → Y.2.2 t k = some y) (h : msv Y t k v) : msv Y' t k v := by
  have hd : (∃ lo hi, mFD t k = (0, lo, hi)) ∨ mFD t k = (3, 0, 0) := by
    unfold mFD
    split
    · exact absurd rfl ht
    all_goals first | exact Or.inl ⟨_, _, rfl⟩ | exact Or.inr rfl
  unfold msv at h ⊢
  rcases hd with ⟨lo, hi, e⟩ | e
  · rw [e] at h ⊢
    obtain ⟨x, e1, e2, e3, e4⟩ := h
    exact ⟨x, e1, e2, e3, fun y hy => e4 y (hX y hy)⟩
  · rw [e] at h ⊢; exact h
theorem fR_z (k : Nat) : (fR k).1 ≤ 0 ∧ 0 ≤ (fR k).2 := by
  by_cases h : k < 38
  · exact fR_0 h
  · have e : fR k = (-2147483648, 2147483647) := by
      unfold fR
      rw [List.getD_eq_getElem?_getD, List.getElem?_eq_none (by show 38 ≤ k; omega)]
      rfl
    rw [e]; decide
theorem nR_z (k : Nat) : (nR k).1 ≤ 0 ∧ 0 ≤ (nR k).2 := by
  unfold nR
  split
  · rename_i h
    have aux : ∀ k, k < 22 → ([(-1, 23), (0, 200), (0, 1000), (0, 24), (-2147483648, 2147483647), (0, 8), (-2147483648, 2147483647), (0, 9), (-2147483648, 2147483647), (0, 9), (-2147483648, 2147483647), (0, 9), (-2147483648, 2147483647), (0, 9), (-2147483648, 2147483647), (0, 9), (-2147483648, 2147483647), (0, 9), (-2147483648, 2147483647), (0, 9), (-2147483648, 2147483647), (0, 9)].getD k ((-2147483648 : Int), (2147483647 : Int))).1 ≤ 0 ∧ 0 ≤ ([(-1, 23), (0, 200), (0, 1000), (0, 24), (-2147483648, 2147483647), (0, 8), (-2147483648, 2147483647), (0, 9), (-2147483648, 2147483647), (0, 9), (-2147483648, 2147483647), (0, 9), (-2147483648, 2147483647), (0, 9), (-2147483648, 2147483647), (0, 9), (-2147483648, 2147483647), (0, 9), (-2147483648, 2147483647), (0, 9), (-2147483648, 2147483647), (0, 9)].getD k ((-2147483648 : Int), (2147483647 : Int))).2 := by decide
    exact aux k h
  · exact fR_z _
/-- a new row of zeros -/
theorem mC.grow {G κ : tG} {σ : Nat → Nat} {a a' : Nat → Option (Nat → Int32)} {sz n c9 ak N q : Nat} {H H1 : Heap} {d : Value} (hM : mC G κ σ a sz n H) (hn : n < c9) (h2 : 2 ≤ c9) (z : H1.size = H.size + 1) (oq : ∀ x, x < H.size → H1[x]? = H[x]?) (eq : q = H.size) (hsz : sz ≤ H.size) (hs : mShp c9 = .inr (ak, N)) (hA : H1[q]? = some (arrV (G.2.1 ak) N (fun _ => d)))
    (ha : ∀ c k y, c ≠ c9 → qX a' c k = some y → qX a c k = some y) (hv : ∀ k, msv (tUp σ q c9, 2, qX a') c9 k d) (hk : ∀ k, mKn κ c9 k d) : mC G κ (tUp σ q c9) a' sz c9 H1 ∧ ∀ x, σ x ≠ 0 → tUp σ q c9 x = σ x := by
  obtain ⟨h1, h3, h4, h5⟩ := hM
  have hq0 : σ q = 0 := Classical.byContradiction fun y => by have := h3 q y; omega
  have hold : ∀ x, σ x ≠ 0 → tUp σ q c9 x = σ x := fun x hx => tUp_ne (fun e => hx (by rw [e]; exact hq0))
  refine ⟨⟨mTH.mk (fun x hx => ?_), fun x hx => ?_, fun x y e hx => ?_, fun x => ?_⟩, hold⟩
  · show tAt G (mShp (tUp σ q c9 x), fun k v => msv (tUp σ q c9, 2, qX a') (tUp σ q c9 x) k v ∧ mKn κ (tUp σ q c9 x) k v) x H1
    by_cases e : x = q
    · rw [e, tUp_at, hs]
      exact ⟨_, hA, fun k _ => ⟨hv k, hk k⟩⟩
    · have hx : tUp σ q c9 x ≠ 0 := hx
      rw [tUp_ne e] at hx ⊢
      refine ((mTH.at h1 hx).kept (oq x (h3 x hx).2)).to (fun k v hv2 => ⟨msv_arr (h5 x).2 (fun y hy => ha _ _ _ (fun w => by have w9 : σ x = c9 := w; have := (h5 x).1; omega) hy) hv2.1, hv2.2⟩)
  · by_cases e : x = q
    · rw [e]; omega
    · rw [tUp_ne e] at hx
      have := h3 x hx; omega
  · by_cases e1 : x = q
    · by_cases e2 : y = q
      · rw [e1, e2]
      · rw [e1, tUp_at, tUp_ne e2] at e
        have := (h5 y).1; omega
    · by_cases e2 : y = q
      · rw [e2, tUp_at, tUp_ne e1] at e
        have := (h5 x).1; omega
      · rw [tUp_ne e1] at e hx
        rw [tUp_ne e2] at e
        exact h4 x y e hx
  · by_cases e : x = q
    · rw [e, tUp_at]; exact ⟨Nat.le_refl _, by omega⟩
    · rw [tUp_ne e]; exact ⟨by have := (h5 x).1; omega, (h5 x).2⟩
section MI
variable {p : Program} {l : Launch} {e : Env} {R : Room} {s : State} {m : MethodId} {args : Array Value} {below : List Frame} {meth : Method} {c : Code} {H : Heap} {locs : List Loc} {Q : State → Prop}
variable {cc : ByteArray} {pc : Nat} {ls : Array Slot} {rest : List Value} {h ci index n N q : Nat} {G κ : tG} {M : mF} {own : String} {nL : Nat} {τ τ0 σ : Nat → Nat} {a a' : Nat → Option (Nat → Int32)} {fs : List Value} {cells slots : Nat}
theorem mi_newa (E : tE G p s m c args own cc nL) (hC : tCG G τ0 τ s h ci fs H locs) (hM : mC G κ σ a s.heap.size n H) {atype : ArrayType} {ak c9 : Nat} {nn : Int32} (har : Cond.arrayClass (newarray.typeOf atype) ∈ tWS) (hs : mShp c9 = .inr (ak, N)) (hn : n < c9) (h2 : 2 ≤ c9) (ha : ∀ c k y, c ≠ c9 → qX a' c k = some y → qX a c k = some y) (hv : ∀ σ' k, msv (σ', 2, qX a') c9 k (defaultValue (newarray.typeOf atype))) (hkn : ∀ k, mKn κ c9 k (defaultValue (newarray.typeOf atype))) (hnn : ¬ nn < 0) (hN : nn.toNatClampNeg = N) (hby : N * componentBytes (newarray.typeOf atype) ≤ 536870912) (hcl : cells + 1 ≤ R.cells) (hsl : slots + N ≤ R.slots) (hname : ∀ cA, s.vm.findClass ("[" ++ (newarray.typeOf atype).toString) = some cA → cA = G.2.1 ak) (hdg : decode cc pc = .ok (.newarray atype, 2))
    (kk : ∀ (q : Nat) (σ' : Nat → Nat) (H1 : Heap), tCG G τ0 τ s h ci fs H1 locs → mC G κ σ' a' s.heap.size c9 H1 → σ' q = c9 → (∀ x, σ x ≠ 0 → σ' x = σ x) → W p l e R s m args below meth c H1 locs (cells + 1) (slots + N) Q (F0 m (pc + 2) ls (.ref q :: rest))) : W p l e R s m args below meth c H locs cells slots Q (F0 m pc ls (.int nn :: rest)) := by
  obtain ⟨hx, hb, hml, hown, hts, hK⟩ := E
  refine va_newaK hx hb (hts _ har) rfl hdg rfl hnn hN hby hcl hsl rfl fun H1 cA e1 z1 o1 hAr hNm => ?_
  have ec := hname cA hNm
  subst ec
  have hg := hM.grow (q := H.size) hn h2 z1 o1 rfl hC.2.2.2.2.1.1 hs e1 ha (hv _) hkn
  exact kk H.size _ H1 (hC.push (by omega) o1) hg.1 tUp_at hg.2
theorem mi_set {H1 : Heap} (hM : mC G κ σ a s.heap.size n H) (hh : h < s.heap.size) (z : H1.size = H.size) (oq : ∀ x : Nat, x ≠ h → H1[x]? = H[x]?) : mC G κ σ a s.heap.size n H1 :=
  hM.kept (by omega) (fun x hx => oq x (fun e => by have := (hM.2.1 x hx).1; omega))
theorem mi_ast (E : tE G p s m c args own cc nL) (hC : tCG G τ0 τ s h ci fs H locs) (hM : mC G κ σ a s.heap.size n H) (hτ : ∀ x, τ x ≠ 0 → x < s.heap.size) {c9 : Nat} {i x : Int32} {lo hi : Int} (hq : σ q = c9) (h0 : c9 ≠ 0) (hs : mShp c9 = .inr (0, N)) (hin : vp_in i N) (hd : mFD c9 i.toNatClampNeg = (0, lo, hi)) (h1 : lo ≤ x.toInt) (h2 : x.toInt ≤ hi) (hx : ∀ y, qX a' c9 i.toNatClampNeg = some y → x = y) (ha : ∀ c k y, ¬ (c = c9 ∧ k = i.toNatClampNeg) → qX a' c k = some y → qX a c k = some y) (hdg : decode cc pc = .ok (.iastore, 1))
    (kk : ∀ (H1 : Heap) (locs1 : List Loc), tCG G τ0 τ s h ci fs H1 locs1 → mC G κ σ a' s.heap.size n H1 → W p l e R s m args below meth c H1 locs1 cells slots Q (F0 m (pc + 1) ls rest)) (hm : mMk c9 i.toNatClampNeg = false := by rfl) : W p l e R s m args below meth c H locs cells slots Q (F0 m pc ls (.int x :: .int i :: .ref q :: rest)) := by
  have hq0 : σ q ≠ 0 := by rw [hq]; exact h0
  have hΓ := mΓ_at (G := κ) (Y := (σ, 2, qX a)) (a := q) hq h0
  rw [hs] at hΓ
  refine tg_iast E hM.1 hΓ hin hdg (fun H1 z oq hat => ?_)
  have hqs := hM.2.1 q hq0
  have hlt := hC.2.2.2.2.2.1
  refine kk H1 _ (hC.alt (q := q) (i := i.toNatClampNeg) (Classical.byContradiction fun y => by have := hτ q y; omega) (by omega) hqs.1 z oq) ⟨mTH.mk (fun y hy => ?_), fun y hy => by rw [z]; exact hM.2.1 y hy, hM.2.2⟩
  show tAt G (mShp (σ y), fun k v => msv (σ, 2, qX a') (σ y) k v ∧ mKn κ (σ y) k v) y H1
  have hy : σ y ≠ 0 := hy
  by_cases e : y = q
  · rw [e, hq, hs]
    refine hat _ ⟨?_, mKn_no hm⟩ (fun j w hj hw => ⟨msv_arr (by have := (hM.2.2.2 q).2; rw [hq] at this; exact this) (fun y hy => ha _ _ _ (fun w9 => hj w9.2) hy) hw.1, hw.2⟩)
    show msv _ c9 _ _
    unfold msv
    rw [hd]
    exact ⟨x, rfl, h1, h2, hx⟩
  · have hne : σ y ≠ c9 := fun w => e (hM.2.2.1 y q (by rw [w, hq]) hy)
    exact ((mTH.at hM.1 hy).kept (oq y e)).to (fun k v hv => ⟨msv_arr (hM.2.2.2 y).2 (fun z hz => ha _ _ _ (fun w => hne w.1) hz) hv.1, hv.2⟩)
theorem mi_astK (E : tE G p s m c args own cc nL) (hC : tCG G τ0 τ s h ci fs H locs) (hM : mC G (kM G M) σ a s.heap.size n H) (hτ : ∀ x, τ x ≠ 0 → x < s.heap.size) {c9 : Nat} {i x : Int32} {lo hi : Int} (hq : σ q = c9) (h0 : c9 ≠ 0) (hs : mShp c9 = .inr (0, N)) (hin : vp_in i N) (hd : mFD c9 i.toNatClampNeg = (0, lo, hi)) (h1 : lo ≤ x.toInt) (h2 : x.toInt ≤ hi) (hx : ∀ y, qX a' c9 i.toNatClampNeg = some y → x = y) (ha : ∀ c k y, ¬ (c = c9 ∧ k = i.toNatClampNeg) → qX a' c k = some y → qX a c k = some y) (hdg : decode cc pc = .ok (.iastore, 1))
    (kk : ∀ (H1 : Heap) (locs1 : List Loc), tCG G τ0 τ s h ci fs H1 locs1 → mC G (kM G (up2 M c9 i.toNatClampNeg x)) σ a' s.heap.size n H1 → W p l e R s m args below meth c H1 locs1 cells slots Q (F0 m (pc + 1) ls rest)) : W p l e R s m args below meth c H locs cells slots Q (F0 m pc ls (.int x :: .int i :: .ref q :: rest)) := by
  have hq0 : σ q ≠ 0 := by rw [hq]; exact h0
  have hΓ := mΓ_at (G := kM G M) (Y := (σ, 2, qX a)) (a := q) hq h0
  rw [hs] at hΓ
  refine tg_iast E hM.1 hΓ hin hdg (fun H1 z oq hat => ?_)
  have hqs := hM.2.1 q hq0
  have hlt := hC.2.2.2.2.2.1
  refine kk H1 _ (hC.alt (q := q) (i := i.toNatClampNeg) (Classical.byContradiction fun y => by have := hτ q y; omega) (by omega) hqs.1 z oq) ⟨mTH.mk (fun y hy => ?_), fun y hy => by rw [z]; exact hM.2.1 y hy, hM.2.2⟩
  show tAt G (mShp (σ y), fun k v => msv (σ, 2, qX a') (σ y) k v ∧ mKn (kM G (up2 M c9 i.toNatClampNeg x)) (σ y) k v) y H1
  have hy : σ y ≠ 0 := hy
  by_cases e : y = q
  · rw [e, hq, hs]
    refine hat _ ⟨?_, mKn_a (G := kM G M)⟩ (fun j w hj hw => ⟨msv_arr (by have := (hM.2.2.2 q).2; rw [hq] at this; exact this) (fun y hy => ha _ _ _ (fun w9 => hj w9.2) hy) hw.1, mKn_u (G := kM G M) (fun z => hj z.2) hw.2⟩)
    show msv _ c9 _ _
    unfold msv
    rw [hd]
    exact ⟨x, rfl, h1, h2, hx⟩
  · have hne : σ y ≠ c9 := fun w => e (hM.2.2.1 y q (by rw [w, hq]) hy)
    exact ((mTH.at hM.1 hy).kept (oq y e)).to (fun k v hv => ⟨msv_arr (hM.2.2.2 y).2 (fun z hz => ha _ _ _ (fun w => hne w.1) hz) hv.1, mKn_u (G := kM G M) (fun z => hne z.1) hv.2⟩)
def mFo (P : Nat → Value → Prop) : Nat → List Value → Prop
  | _, [] => True
  | k, v :: l => P k v ∧ mFo P (k + 1) l
theorem mFo.all {P : Nat → Value → Prop} {j : Nat} {fs : List Value} (h : mFo P j fs) : ∀ k v, fs[k]? = some v → P (j + k) v := by
  induction fs generalizing j with
  | nil => intro k v hv; simp at hv
  | cons w l ih =>
    intro k v hv
    cases k with
    | zero => simp at hv; rw [← hv]; exact h.1
    | succ k => have := ih h.2 k v (by simpa using hv); rw [show j + (k + 1) = j + 1 + k by omega]; exact this
/-- what is known at first -/
def KI (M : mF) : Prop := M 2 5 = 0 ∧ M 3 5 = 0 ∧ M 1 5 = 0 ∧ M 1 25 = 0 ∧ NMS M ∧ ∀ j : Nat, M 15 j = 0
/-- the reference's trees at first -/
def aI0 (a : Nat → Option (Nat → Int32)) : Prop := a 17 = none ∧ a 1 = none ∧ ∃ t u, a 2 = some t ∧ a 3 = some u ∧ TInv t ∧ TInv u ∧ (t 0).toInt = -1 ∧ (t 3).toInt = 0 ∧ ∀ b k : Int, 0 ≤ b → 0 ≤ k → K t b k = 0
theorem aI0.pi {a : Nat → Option (Nat → Int32)} (h : aI0 a) : PI2 a := by
  obtain ⟨h1, h2, t, u, h3, h4, h5, h6, -⟩ := h
  exact ⟨h1, h2, ⟨t, h3, h5⟩, ⟨u, h4, h6⟩⟩
abbrev mIQ (G : tG) (h sz : Nat) : Array Value → State → Outcome → State → Prop := va_Qv (S := (Nat → Nat) × (Nat → Option (Nat → Int32)) × mF) (fun w => w.1 h = 1 ∧ aI0 w.2.1 ∧ KI w.2.2 ∧ (∀ x y, w.1 x = w.1 y → w.1 x ≠ 0 → x = y) ∧ ∀ q, w.1 q ≠ 0 → q = h ∨ sz ≤ q) (fun w u => TH G (mΓ (kM G w.2.2) (w.1, 2, qX w.2.1)) u.heap ∧ ∀ q, w.1 q ≠ 0 → q < u.heap.size) (tCA h sz)
theorem mi_ret {sz : Nat} (hr : meth.sig.returnType = none) (hlk : meth.locks = false) (E : tE G p s m c args own cc nL) (hC : tCG G τ0 τ s h 9 fs H locs) (hM : mC G (kM G M) σ a s.heap.size n H) (hsz : s.heap.size = sz) (hP : aI0 a) (hKI : KI M) (hfs : mFo (fun k v => ∀ σ' : Nat → Nat, (∀ x, σ x ≠ 0 → σ' x = σ x) → msv (σ', 2, qX a) 1 k v) 0 fs) (hf5 : ∀ v, fs[5]? = some v → v = .int 0) (hf25 : ∀ v, fs[25]? = some v → v = .int 0) (hdg : decode cc pc = .ok (.return_, 1)) : W p l e R s m args below meth c H locs cells slots (MQ below (mIQ G h sz) args s cells slots (tCA h sz)) (F0 m pc ls []) := by
  obtain ⟨g1, g2, g3, g4, g5, g6, g7⟩ := hC
  obtain ⟨h1, h2, h3, h4⟩ := hM
  subst hsz
  have hlt := g4.lt
  have h0 : σ h = 0 := Classical.byContradiction fun y => by have := h2 h y; omega
  have hold : ∀ x, σ x ≠ 0 → tUp σ h 1 x = σ x := fun x hx => tUp_ne (fun e => hx (by rw [e]; exact h0))
  have hT : TH G (mΓ (kM G M) (tUp σ h 1, 2, qX a)) H := mTH.mk (fun x hx => by
    show tAt G (mShp (tUp σ h 1 x), fun k v => msv (tUp σ h 1, 2, qX a) (tUp σ h 1 x) k v ∧ mKn (kM G M) (tUp σ h 1 x) k v) x H
    by_cases e : x = h
    · rw [e, tUp_at]
      obtain ⟨r, q1, q2, q3⟩ := g4
      refine ⟨r, _, q1, q2, fun k hk => ?_⟩
      have hk2 : k < fs.length := by rw [q3]; exact hk
      have hv := hfs.all k _ (List.getElem?_eq_getElem hk2) _ hold
      have e2 : vp_V fs k = fs[k] := by simp [vp_V, hk2]
      rw [Nat.zero_add] at hv
      rw [e2]
      refine ⟨hv, fun hM => ?_⟩
      have ek : k = 5 ∨ k = 25 := by
        unfold mMk at hM
        simp only [Bool.or_eq_true, Bool.and_eq_true, beq_iff_eq] at hM
        omega
      rcases ek with ek | ek
      · subst ek
        have e0 : FM (kM G M) 1 5 = 0 := hKI.2.2.1
        rw [e0]
        exact hf5 _ (List.getElem?_eq_getElem hk2)
      · subst ek
        have e0 : FM (kM G M) 1 25 = 0 := hKI.2.2.2.1
        rw [e0]
        exact hf25 _ (List.getElem?_eq_getElem hk2)
    · have hx : tUp σ h 1 x ≠ 0 := hx
      rw [tUp_ne e] at hx ⊢
      exact (mTH.at h1 hx).to (fun k v hv => ⟨msv_arr (Y := (σ, 2, qX a)) (Y' := (tUp σ h 1, 2, qX a)) (h4 x).2 (fun y hy => hy) hv.1, hv.2⟩))
  refine W.vret E.1 E.2.1 hr (fun t ht _ => ⟨⟨(tUp σ h 1, a, M), rfl, ⟨tUp_at, hP, hKI, fun x y e hx => ?_, fun x hx => ?_⟩, by rw [ht]; exact hT, fun x hx => ?_⟩, g5.F ht⟩) g5.2.2 hdg hlk
  · have e : tUp σ h 1 x = tUp σ h 1 y := e
    have hx : tUp σ h 1 x ≠ 0 := hx
    by_cases e1 : x = h
    · by_cases e2 : y = h
      · rw [e1, e2]
      · rw [e1, tUp_at, tUp_ne e2] at e; exact absurd e.symm (h4 y).2
    · by_cases e2 : y = h
      · rw [e2, tUp_at, tUp_ne e1] at e; exact absurd e (h4 x).2
      · rw [tUp_ne e1] at e hx
        rw [tUp_ne e2] at e
        exact h3 x y e hx
  · by_cases e1 : x = h
    · exact Or.inl e1
    · have hx : tUp σ h 1 x ≠ 0 := hx
      rw [tUp_ne e1] at hx; exact Or.inr (h2 x hx).1
  · rw [ht]
    by_cases e1 : x = h
    · rw [e1]; exact hlt
    · have hx : tUp σ h 1 x ≠ 0 := hx
      rw [tUp_ne e1] at hx; exact (h2 x hx).2
end MI
def tZ : Nat → Int32 := fun _ => 0
theorem TInv_z {t : Nat → Int32} (h3 : (t 3).toInt = 0) (h0 : -1 ≤ (t 0).toInt ∧ (t 0).toInt ≤ 23) (hz : ∀ b k : Int, K t b k = 0 ∨ ix b k < 22) : TInv t := by
  have hk : ∀ b k : Int, 0 ≤ b → 0 ≤ k → k ≤ 37 → K t b k = 0 := fun b k h1 h2 h4 => by
    have := (ix_mod h1 h2 h4).2
    rcases hz b k with q | q
    · exact q
    · omega
  refine ⟨by omega, fun b h1 h2 h4 => ?_, fun b h1 h2 => by omega, fun b i h1 h2 h4 h5 => ?_, fun b i j h1 h2 h4 h5 h6 => ?_, fun b h1 h2 h4 h5 => ?_, fun b h1 h2 h4 h5 => ?_, fun b h1 h2 h4 => ?_, fun b h1 h2 => ?_⟩
  · rw [hk b 0 h1 (by decide) (by decide)] at h4; omega
  · rw [hk b 10 h1 (by decide) (by decide)] at h5; omega
  · rw [hk b 10 h1 (by decide) (by decide)] at h6; omega
  · rw [hk b 0 h1 (by decide) (by decide)] at h4; omega
  · rw [hk b 0 h1 (by decide) (by decide)] at h4; omega
  · rw [hk b 1 h1 (by decide) (by decide)] at h4; omega
  · rw [hk b 10 h1 (by decide) (by decide)]; decide
