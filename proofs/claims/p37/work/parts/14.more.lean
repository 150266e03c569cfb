/-! ===== numbers, and what a slot was seen to hold ===== -/
theorem tn_add {x y z : Int32} {a b : Int} (ez : z = x + y) (hx : x.toInt = a) (hy : y.toInt = b) (h1 : -2147483648 ≤ a + b) (h2 : a + b ≤ 2147483647) : z.toInt = a + b := by
  subst ez; subst hx; subst hy
  rw [Int32.toInt_add]
  exact Int.bmod_eq_of_le (by omega) (by omega)
theorem tn_sub {x y z : Int32} {a b : Int} (ez : z = x - y) (hx : x.toInt = a) (hy : y.toInt = b) (h1 : -2147483648 ≤ a - b) (h2 : a - b ≤ 2147483647) : z.toInt = a - b := by
  subst ez; subst hx; subst hy
  rw [Int32.toInt_sub]
  exact Int.bmod_eq_of_le (by omega) (by omega)
theorem tn_mul {x y z : Int32} {a b : Int} (ez : z = x * y) (hx : x.toInt = a) (hy : y.toInt = b) (h1 : -2147483648 ≤ a * b) (h2 : a * b ≤ 2147483647) : z.toInt = a * b := by
  subst ez; subst hx; subst hy
  rw [Int32.toInt_mul]
  exact Int.bmod_eq_of_le (by omega) (by omega)
theorem tn_rem {x y z : Int32} {k : Int} (ez : z = x - x / y * y) (hy : y.toInt = k) (hx : 0 ≤ x.toInt) (hk : 0 < k) : z.toInt = x.toInt % k := by
  obtain ⟨a, ha, rfl⟩ := nI_of (x := x) (fun q => by have := Int32.lt_iff_toInt_lt.mp q; have e0 : (0 : Int32).toInt = 0 := rfl; omega)
  obtain ⟨b, hb, rfl⟩ := nI_of (x := y) (fun q => by have := Int32.lt_iff_toInt_lt.mp q; have e0 : (0 : Int32).toInt = 0 := rfl; omega)
  rw [nI_toInt hb] at hy
  have hb0 : 0 < b := by omega
  rw [ez, pk_rem ha hb0 hb, nI_toInt (Nat.lt_of_le_of_lt (Nat.mod_le _ _) ha), nI_toInt ha, ← hy]
  exact Int.natCast_emod a b
theorem tn_lt {x y : Int32} {a b : Int} (hx : x.toInt = a) (hy : y.toInt = b) (h : x < y) : a < b := by subst hx; subst hy; exact Int32.lt_iff_toInt_lt.mp h
theorem tn_nlt {x y : Int32} {a b : Int} (hx : x.toInt = a) (hy : y.toInt = b) (h : ¬ x < y) : b ≤ a := by subst hx; subst hy; exact Int.not_lt.mp (fun q => h (Int32.lt_iff_toInt_lt.mpr q))
theorem tn_le {x y : Int32} {a b : Int} (hx : x.toInt = a) (hy : y.toInt = b) (h : x ≤ y) : a ≤ b := by subst hx; subst hy; exact Int32.le_iff_toInt_le.mp h
theorem tn_nle {x y : Int32} {a b : Int} (hx : x.toInt = a) (hy : y.toInt = b) (h : ¬ x ≤ y) : b < a := by subst hx; subst hy; exact Int.not_le.mp (fun q => h (Int32.le_iff_toInt_le.mpr q))
theorem tn_eq {x y : Int32} {a b : Int} (hx : x.toInt = a) (hy : y.toInt = b) (h : x = y) : a = b := by subst hx; subst hy; rw [h]
theorem tn_ne {x y : Int32} {a b : Int} (hx : x.toInt = a) (hy : y.toInt = b) (h : ¬ x = y) : ¬ a = b := by subst hx; subst hy; exact fun q => h (Int32.toInt_inj.mp q)
theorem tn_i2c {x z : Int32} (ez : z = (x.toUInt32 % 65536).toInt32) : 0 ≤ z.toInt ∧ z.toInt ≤ 65535 := by
  rw [ez, pk_char, nI_toInt (by omega)]
  omega
theorem tn_max {x y z : Int32} (ez : z = if x < y then y else x) : x.toInt ≤ z.toInt ∧ y.toInt ≤ z.toInt ∧ (z.toInt = x.toInt ∨ z.toInt = y.toInt) := by
  subst ez
  by_cases h : x < y
  · rw [if_pos h]; have := Int32.lt_iff_toInt_lt.mp h; omega
  · rw [if_neg h]; have := tn_nlt rfl rfl h; omega
theorem tn_min {x y z : Int32} (ez : z = if y < x then y else x) : z.toInt ≤ x.toInt ∧ z.toInt ≤ y.toInt ∧ (z.toInt = x.toInt ∨ z.toInt = y.toInt) := by
  subst ez
  by_cases h : y < x
  · rw [if_pos h]; have := Int32.lt_iff_toInt_lt.mp h; omega
  · rw [if_neg h]; have := tn_nlt rfl rfl h; omega
/-- slot k of the object at a (of class ci) holds v -/
def tSl (G : tG) (H : Heap) (a ci k : Nat) (v : Value) : Prop := ∃ cell : Cell, H[a]? = some cell ∧ cell.vm = .none ∧ cell.slots[G.1.2 ci k]? = some v
theorem tSl.kept {G : tG} {H H1 : Heap} {a ci k : Nat} {v : Value} (h : tSl G H a ci k v) (hq : H1[a]? = H[a]?) : tSl G H1 a ci k v := by
  obtain ⟨cell, h1, h2⟩ := h
  exact ⟨cell, hq.trans h1, h2⟩
theorem t_apart {τ : Nat → Nat} {a b t u : Nat} (ha : τ a = t) (hb : τ b = u) (h : t ≠ u) : a ≠ b := fun e => h (by rw [← ha, ← hb, e])
section TS
variable {p : Program} {l : Launch} {e : Env} {R : Room} {s : State} {m : MethodId} {args : Array Value} {below : List Frame} {meth : Method} {c : Code} {H : Heap} {locs : List Loc} {Q : State → Prop}
variable {cc : ByteArray} {pc : Nat} {ls : Array Slot} {rest : List Value} {a t k index : Nat} {G : tG} {own : String} {nL : Nat} {τ : Nat → Nat} {lo hi : Int} {i : Int32} {cells slots : Nat}
theorem tg_seen (E : tE G p s m c args own cc nL) {ci : Nat} {v : Value} (hv : tSl G H a ci k v) (hF : tFf own index ci k) (hdg : decode cc pc = .ok (.getfield index, 3))
    (kk : W p l e R s m args below meth c H locs cells slots Q (F0 m (pc + 3) ls (v :: rest))) : W p l e R s m args below meth c H locs cells slots Q (F0 m pc ls (.ref a :: rest)) := by
  obtain ⟨hx, hb, hml, hown, hts, hK⟩ := E
  obtain ⟨C, T, N, ty, ⟨hc, hin, hty, hnm⟩, hk, hl⟩ := hF
  obtain ⟨cell, q1, q3, q4⟩ := hv
  obtain ⟨hS, hfc, kC, hkC, hkind⟩ := hK.1 ci _ hc
  obtain ⟨cf, kf, fi, f, hi, hsl⟩ := hS k hk
  refine W.getf hx hb hown (hts _ hl) hi (u_facts hfc hkC (u_lays hts hin hk) hi).1 q1 (by rw [q3]; exact fun h => by cases h) (v := v) ?_ rfl rfl hdg kk
  rw [hsl, q4]
theorem tg_look {ci : Nat} {Γ : Nat → Option tSH} {P : Nat → Value → Prop} (hT : TH G Γ H) (ha : Γ a = some (.inl ci, P)) (hF : tFf own index ci k) : ∃ v, P k v ∧ tSl G H a ci k v := by
  obtain ⟨C, T, N, ty, ⟨hc, hin, hty, hnm⟩, hk, hl⟩ := hF
  obtain ⟨r, V, h1, ⟨cell, q1, q2, q3, q4⟩, h3⟩ := hT a _ ha
  have hr : r = (C, T, N) := Option.some.inj (h1.symm.trans hc)
  subst hr
  exact ⟨V k, h3 k hk, cell, q1, q3, q4 k hk⟩
theorem tg_putS {Γ : Nat → Option tSH} {P : Nat → Value → Prop} (E : tE G p s m c args own cc nL) (hT : TH G Γ H) {ci : Nat} {t : FieldType} (ha : Γ a = some (.inl ci, P)) (hF : tFp own index ci k t) {v : Value} (hn : narrow t v = v) (hfit : fits t v = true) (hdg : decode cc pc = .ok (.putfield index, 3))
    (kk : ∀ (H1 : Heap) (i : Nat), H1.size = H.size → (∀ q : Nat, q ≠ a → H1[q]? = H[q]?) → (∀ P1 : Nat → Value → Prop, P1 k v → (∀ j w, j ≠ k → P j w → P1 j w) → tAt G (.inl ci, P1) a H1) → tSl G H1 a ci k v → (∀ (o2 : String) (i2 j : Nat) (w : Value), tFf o2 i2 ci j → j ≠ k → tSl G H a ci j w → tSl G H1 a ci j w) → W p l e R s m args below meth c H1 (locs ++ [⟨a, i⟩]) cells slots Q (F0 m (pc + 3) ls rest)) : W p l e R s m args below meth c H locs cells slots Q (F0 m pc ls (v :: .ref a :: rest)) := by
  obtain ⟨hx, hb, hml, hown, hts, hK⟩ := E
  obtain ⟨C, T, N, ty, ⟨hc, hin, hty, hnm⟩, hk, hl, hfin, htk⟩ := hF
  subst htk
  have hap := va_apart (own := own) hts hin ty hty hnm hK hc
  obtain ⟨r, V, h1, ⟨cell, q1, q2, q3, q4⟩, h3⟩ := hT a _ ha
  have hr : r = (C, T, N) := Option.some.inj (h1.symm.trans hc)
  subst hr
  obtain ⟨hS, hfc, kC, hkC, hkind⟩ := hK.1 ci _ hc
  obtain ⟨cf, kf, fi, f, hi, hsl⟩ := hS k hk
  have hlay := hts _ (hin _ (u_in_lay hk))
  unfold u_lay at hlay
  rw [if_neg (by rw [hfin]; decide)] at hlay
  have hst := (u_facts hfc hkC (u_lays hts hin hk) hi).1
  have h6 := u_store hfc hkC hkind hlay hi (hty k hk) hn hfit
  refine W.putK hx hb (f := f) ⟨hown, hts _ hl, ⟨_, _, _, hi⟩, hst⟩ (by rw [q2]; exact h6) q1 q3 (by rw [hsl]; exact k2_hasslot (q4 k hk)) rfl rfl hdg fun H' e1 e2 e3 => ?_
  rw [hsl] at e1 ⊢
  have hset := t_set q4 hap hk v
  refine kk H' _ e2 e3 (fun P1 g1 g2 => ⟨_, updV V k v, hc, ⟨_, e1, q2, q3, hset⟩, fun j hj => ?_⟩) ⟨_, e1, q3, by have := hset k hk; simpa [updV] using this⟩ ?_
  · by_cases ej : j = k
    · subst ej
      simpa [updV] using g1
    · have := g2 j (V j) ej (h3 j hj)
      simpa [updV, ej] using this
  · intro o2 i2 j w hj hne hw
    obtain ⟨C2, T2, N2, ty2, ⟨hc2, -⟩, hk2, -⟩ := hj
    cases hc.symm.trans hc2
    obtain ⟨cell2, w1, w2, w3⟩ := hw
    cases q1.symm.trans w1
    refine ⟨_, e1, q3, ?_⟩
    rw [hset j hk2]
    rw [q4 j hk2] at w3
    simpa [updV, hne] using w3
theorem tc_getiS (E : tE G p s m c args own cc nL) (hG : tGH G τ s H locs) (ha : τ a = t) (hF : tFi own index t k lo hi) (hdg : decode cc pc = .ok (.getfield index, 3))
    (kk : ∀ x : Int32, lo ≤ x.toInt → x.toInt ≤ hi → (∀ ci, tShp t = .inl ci → tSl G H a ci k (.int x)) → W p l e R s m args below meth c H locs cells slots Q (F0 m (pc + 3) ls (.int x :: rest))) : W p l e R s m args below meth c H locs cells slots Q (F0 m pc ls (.ref a :: rest)) := by
  obtain ⟨ht, ⟨ci, hs, hf⟩, hd⟩ := hF
  have hΓ := tΓ_at (G := G) ha ht
  rw [hs] at hΓ
  obtain ⟨v, hv, hsl⟩ := tg_look hG.1 hΓ hf
  replace hv := hv.1
  rw [hd] at hv
  obtain ⟨x, rfl, h1, h2⟩ := hv
  exact tg_seen E hsl hf hdg (kk x h1 h2 (fun cj hcj => by cases hs.symm.trans hcj; exact hsl))
theorem tc_seen (E : tE G p s m c args own cc nL) {v : Value} {ci : Nat} (hF : tFf own index ci k) (hv : tSl G H a ci k v) (hdg : decode cc pc = .ok (.getfield index, 3))
    (kk : W p l e R s m args below meth c H locs cells slots Q (F0 m (pc + 3) ls (v :: rest))) : W p l e R s m args below meth c H locs cells slots Q (F0 m pc ls (.ref a :: rest)) := tg_seen E hv hF hdg kk
theorem tc_putS (E : tE G p s m c args own cc nL) (hG : tGH G τ s H locs) (ha : τ a = t) {ty : FieldType} (hF : tPi own index t k lo hi ty) {x : Int32} (h1 : lo ≤ x.toInt) (h2 : x.toInt ≤ hi) (hn : narrow ty (.int x) = .int x) (hfit : fits ty (.int x) = true) (hdg : decode cc pc = .ok (.putfield index, 3))
    (kk : ∀ (H1 : Heap) (locs1 : List Loc), tGH G τ s H1 locs1 → (∀ q : Nat, q ≠ a → H1[q]? = H[q]?) → (∀ ci, tShp t = .inl ci → tSl G H1 a ci k (.int x) ∧ ∀ (o2 : String) (i2 j : Nat) (w : Value), tFf o2 i2 ci j → j ≠ k → tSl G H a ci j w → tSl G H1 a ci j w) → W p l e R s m args below meth c H1 locs1 cells slots Q (F0 m (pc + 3) ls rest)) : W p l e R s m args below meth c H locs cells slots Q (F0 m pc ls (.int x :: .ref a :: rest)) := by
  obtain ⟨ht, ⟨ci, hs, hf⟩, hd⟩ := hF
  have hΓ := tΓ_at (G := G) ha ht.1
  rw [hs] at hΓ
  refine tg_putS E hG.1 hΓ hf hn hfit hdg (fun H1 i z oq hat hsl hkp => kk H1 _ (hG.put ha ht.1 z oq ?_) oq (fun cj hcj => by cases hs.symm.trans hcj; exact ⟨hsl, hkp⟩))
  rw [hs]
  exact hat _ ⟨by rw [hd]; exact ⟨x, rfl, h1, h2⟩, (tKn_no ht.2 (tMr_i hd).1 (tMr_i hd).2)⟩ (fun _ _ _ h => h)
theorem tc_iastS {n : Nat} (E : tE G p s m c args own cc nL) (hG : tGH G τ s H locs) (ha : τ a = t) (hF : tArr t 0 n (0, lo, hi)) (hin : vp_in i n) {x : Int32} (h1 : lo ≤ x.toInt) (h2 : x.toInt ≤ hi) (hdg : decode cc pc = .ok (.iastore, 1))
    (kk : ∀ (H1 : Heap) (locs1 : List Loc), tGH G τ s H1 locs1 → (∀ q : Nat, q ≠ a → H1[q]? = H[q]?) → W p l e R s m args below meth c H1 locs1 cells slots Q (F0 m (pc + 1) ls rest)) (hM : tMt t = false := by rfl) (hQ : tMq t = false := by rfl) : W p l e R s m args below meth c H locs cells slots Q (F0 m pc ls (.int x :: .int i :: .ref a :: rest)) := by
  obtain ⟨ht, hs, hd⟩ := hF
  have hΓ := tΓ_at (G := G) ha ht
  rw [hs] at hΓ
  refine tg_iast E hG.1 hΓ hin hdg (fun H1 z oq hat => kk H1 _ (hG.put ha ht z oq ?_) oq)
  rw [hs]
  exact hat _ ⟨by rw [hd]; exact ⟨x, rfl, h1, h2⟩, (tKn_q hM hQ)⟩ (fun _ _ _ h => h)
theorem tc_castS {n : Nat} (E : tE G p s m c args own cc nL) (hG : tGH G τ s H locs) (ha : τ a = t) (hF : tArr t 1 n (0, lo, hi)) (hin : vp_in i n) {x : Int32} (h1 : lo ≤ x.toInt) (h2 : x.toInt ≤ hi) (h3 : 0 ≤ x.toInt) (h4 : x.toInt ≤ 65535) (hdg : decode cc pc = .ok (.castore, 1))
    (kk : ∀ (H1 : Heap) (locs1 : List Loc), tGH G τ s H1 locs1 → (∀ q : Nat, q ≠ a → H1[q]? = H[q]?) → W p l e R s m args below meth c H1 locs1 cells slots Q (F0 m (pc + 1) ls rest)) (hM : tMt t = false := by rfl) (hQ : tMq t = false := by rfl) : W p l e R s m args below meth c H locs cells slots Q (F0 m pc ls (.int x :: .int i :: .ref a :: rest)) := by
  obtain ⟨ht, hs, hd⟩ := hF
  have hΓ := tΓ_at (G := G) ha ht
  rw [hs] at hΓ
  refine tg_cast E hG.1 hΓ hin hdg (fun H1 z oq hat => kk H1 _ (hG.put ha ht z oq ?_) oq)
  rw [hs]
  exact hat _ ⟨by rw [hd, (t_nc h3 h4).1]; exact ⟨x, rfl, h1, h2⟩, (tKn_q hM hQ)⟩ (fun _ _ _ h => h)
theorem tc_max (E : tE G p s m c args own cc nL) (hsz : ls.size = nL) (hl : Cond.methodLink own index Lib.Math.max.name ∈ tWS) (h1 : Cond.static Lib.Math.max.name ∈ tWS) (h2 : Cond.initialized "java/lang/Math" ∈ tWS) (h3 : Cond.code Lib.Math.max.name Lib.Math.max.code 2 (some .int) ∈ tWS) (hR : 1 ≤ R.frames ∧ (rest.map fun v => v.category).sum + 13 ≤ R.locals) (hcs : cells ≤ R.cells ∧ slots ≤ R.slots) {x y : Int32} (hdg : decode cc pc = .ok (.invokestatic index, 3))
    (kk : ∀ z : Int32, z = (if x < y then y else x) → W p l e R s m args below meth c H locs cells slots Q (F0 m (pc + 3) ls (.int z :: rest))) : W p l e R s m args below meth c H locs cells slots Q (F0 m pc ls (.int y :: .int x :: rest)) :=
  va_mmax E.1 E.2.1 (E.2.2.1.trans hsz.symm) E.2.2.2.1 (E.2.2.2.2.1 _ hl) (E.2.2.2.2.1 _ h1) (E.2.2.2.2.1 _ h2) (E.2.2.2.2.1 _ h3) hR.1 hR.2 hcs.1 hcs.2 hdg (kk _ rfl)
theorem tc_min (E : tE G p s m c args own cc nL) (hsz : ls.size = nL) (hl : Cond.methodLink own index Lib.Math.min.name ∈ tWS) (h1 : Cond.static Lib.Math.min.name ∈ tWS) (h2 : Cond.initialized "java/lang/Math" ∈ tWS) (h3 : Cond.code Lib.Math.min.name Lib.Math.min.code 2 (some .int) ∈ tWS) (hR : 1 ≤ R.frames ∧ (rest.map fun v => v.category).sum + 13 ≤ R.locals) (hcs : cells ≤ R.cells ∧ slots ≤ R.slots) {x y : Int32} (hdg : decode cc pc = .ok (.invokestatic index, 3))
    (kk : ∀ z : Int32, z = (if y < x then y else x) → W p l e R s m args below meth c H locs cells slots Q (F0 m (pc + 3) ls (.int z :: rest))) : W p l e R s m args below meth c H locs cells slots Q (F0 m pc ls (.int y :: .int x :: rest)) :=
  va_mmin E.1 E.2.1 (E.2.2.1.trans hsz.symm) E.2.2.2.1 (E.2.2.2.2.1 _ hl) (E.2.2.2.2.1 _ h1) (E.2.2.2.2.1 _ h2) (E.2.2.2.2.1 _ h3) hR.1 hR.2 hcs.1 hcs.2 hdg (kk _ rfl)
theorem tc_getrS (E : tE G p s m c args own cc nL) (hG : tGH G τ s H locs) (ha : τ a = t) {t' : Nat} (hF : tFr own index t k t') (hdg : decode cc pc = .ok (.getfield index, 3))
    (kk : ∀ b : Nat, τ b = t' → (∀ ci, tShp t = .inl ci → tSl G H a ci k (.ref b)) → W p l e R s m args below meth c H locs cells slots Q (F0 m (pc + 3) ls (.ref b :: rest))) : W p l e R s m args below meth c H locs cells slots Q (F0 m pc ls (.ref a :: rest)) := by
  obtain ⟨ht, ⟨ci, hs, hf⟩, hd⟩ := hF
  have hΓ := tΓ_at (G := G) ha ht
  rw [hs] at hΓ
  obtain ⟨v, hv, hsl⟩ := tg_look hG.1 hΓ hf
  replace hv := hv.1
  rw [hd] at hv
  obtain ⟨x, rfl, h1⟩ := hv
  exact tg_seen E hsl hf hdg (kk x h1 (fun cj hcj => by cases hs.symm.trans hcj; exact hsl))
/-- place i of the array at a holds v -/
def tEl (G : tG) (H : Heap) (a i : Nat) (v : Value) : Prop := ∃ (ak n : Nat) (V : Nat → Value), H[a]? = some (arrV (G.2.1 ak) n V) ∧ i < n ∧ V i = v
theorem tEl.kept {G : tG} {H H1 : Heap} {a i : Nat} {v : Value} (h : tEl G H a i v) (hq : H1[a]? = H[a]?) : tEl G H1 a i v := by
  obtain ⟨ak, n, V, h1, h2⟩ := h
  exact ⟨ak, n, V, hq.trans h1, h2⟩
theorem tc_aald3S {n t' : Nat} (E : tE G p s m c args own cc nL) (hG : tGH G τ s H locs) (ha : τ a = t) (hF : tArr t 3 n (1, (t' : Int), 0)) (hin : vp_in i n) (hdg : decode cc pc = .ok (.aaload, 1))
    (kk : ∀ b : Nat, τ b = t' → tEl G H a i.toNatClampNeg (.ref b) → W p l e R s m args below meth c H locs cells slots Q (F0 m (pc + 1) ls (.ref b :: rest))) : W p l e R s m args below meth c H locs cells slots Q (F0 m pc ls (.int i :: .ref a :: rest)) := by
  obtain ⟨hx, hb, hml, hown, hts, hK⟩ := E
  obtain ⟨ht, hs, hd⟩ := hF
  have hΓ := tΓ_at (G := G) ha ht
  rw [hs] at hΓ
  obtain ⟨V, h1, h2⟩ := hG.1 a _ hΓ
  have hv := h2 _ (t_inL hin)
  dsimp only at hv
  replace hv := hv.1
  rw [hd] at hv
  obtain ⟨x, hx9, h3⟩ := hv
  refine W.aald (v := V i.toNatClampNeg) (ty := .object "LaidOutBoxes$Box") hx hb h1 ((hK.2 3 (G.2.1 3, .object "LaidOutBoxes$Box") rfl).1 n V) rfl (fun q => by cases q) (t_inA hin) (arrV_read _ _ (t_inL hin)) rfl rfl hdg ?_
  rw [hx9]
  exact kk x h3 ⟨3, n, V, h1, t_inL hin, hx9⟩
theorem tc_aald3C (E : tE G p s m c args own cc nL) (hG : tGH G τ s H locs) (ha : τ a = t) {n t' : Nat} (hF : tArr t 3 n (1, (t' : Int), 0)) (hin : vp_in i n) {b : Nat} (hel : tEl G H a i.toNatClampNeg (.ref b)) (hdg : decode cc pc = .ok (.aaload, 1))
    (kk : W p l e R s m args below meth c H locs cells slots Q (F0 m (pc + 1) ls (.ref b :: rest))) : W p l e R s m args below meth c H locs cells slots Q (F0 m pc ls (.int i :: .ref a :: rest)) := by
  refine tc_aald3S E hG ha hF hin hdg (fun b2 h2 hel2 => ?_)
  obtain ⟨ak, n1, V, g1, g2, g3⟩ := hel
  obtain ⟨ak2, n2, V2, q1, q2, q3⟩ := hel2
  have e9 := congrArg (fun c : Cell => c.slots[i.toNatClampNeg]?) (Option.some.inj (g1.symm.trans q1))
  rw [arrV_read _ _ g2, arrV_read _ _ q2, g3, q3] at e9
  cases e9
  exact kk
end TS
