/-! ===== the class's instructions over typed cells ===== -/
def tFi (own : String) (index t k : Nat) (lo hi : Int) : Prop := t ≠ 0 ∧ (∃ ci, tShp t = .inl ci ∧ tFf own index ci k) ∧ tFD t k = (0, lo, hi)
def tFr (own : String) (index t k t' : Nat) : Prop := t ≠ 0 ∧ (∃ ci, tShp t = .inl ci ∧ tFf own index ci k) ∧ tFD t k = (1, (t' : Int), 0)
def tPi (own : String) (index t k : Nat) (lo hi : Int) (ty : FieldType) : Prop := (t ≠ 0 ∧ tMk t k = false) ∧ (∃ ci, tShp t = .inl ci ∧ tFp own index ci k ty) ∧ tFD t k = (0, lo, hi)
def tArr (t ak n : Nat) (d : tSD) : Prop := t ≠ 0 ∧ tShp t = .inr (ak, n) ∧ ∀ k, tFD t k = d
def tRv (t : Nat) (C : String) : Prop := t ≠ 0 ∧ ∃ (ci : Nat) (T : u_T) (N : Nat), tShp t = .inl ci ∧ vwCl[ci]? = some (C, T, N)
theorem t_in {x : Int32} {n : Nat} (h1 : 0 ≤ x.toInt) (h2 : x.toInt < n) : vp_in x n := vp_in_iff.mpr ⟨h1, h2⟩
theorem t_any1 (x : Int32) : -2147483648 ≤ x.toInt := Int32.le_toInt x
theorem t_any2 (x : Int32) : x.toInt ≤ 2147483647 := by have := Int32.toInt_lt x; omega
theorem t_01 {x : Int32} (h1 : 0 ≤ x.toInt) (h2 : x.toInt ≤ 1) : x = 0 ∨ x = 1 := by
  rcases (show x.toInt = 0 ∨ x.toInt = 1 by omega) with h | h
  · exact Or.inl (Int32.toInt_inj.mp (by rw [h]; rfl))
  · exact Or.inr (Int32.toInt_inj.mp (by rw [h]; rfl))
theorem t_nz {x : Int32} (h1 : 0 ≤ x.toInt) (h2 : x.toInt ≤ 1) : narrow .boolean (.int x) = .int x ∧ fits .boolean (.int x) = true := by
  rcases t_01 h1 h2 with rfl | rfl <;> exact ⟨by decide, by decide⟩
theorem t_nc {x : Int32} (h1 : 0 ≤ x.toInt) (h2 : x.toInt ≤ 65535) : narrow .char (.int x) = .int x ∧ fits .char (.int x) = true := by
  obtain ⟨j, hj31, e⟩ := nI_of (x := x) (fun z => by have := Int32.lt_iff_toInt_lt.mp z; have e0 : (0 : Int32).toInt = 0 := rfl; omega)
  have hj : j < 65536 := by
    rw [e, nI_toInt hj31] at h2
    omega
  rw [e]
  exact pk_charN hj
theorem tGH.put {G : tG} {τ : Nat → Nat} {s : State} {H H1 : Heap} {locs : List Loc} {a i t : Nat} (hG : tGH G τ s H locs) (ha : τ a = t) (ht : t ≠ 0) (z : H1.size = H.size) (oq : ∀ q : Nat, q ≠ a → H1[q]? = H[q]?) (hat : tAt G (tShp t, fun k v => tsv τ (tFD t k) v ∧ tKn G t a k v) a H1) : tGH G τ s H1 (locs ++ [⟨a, i⟩]) := by
  refine ⟨hG.1.set oq (fun _ _ => rfl) (fun sh hs => ?_), hG.2.put z oq (show τ a ≠ 0 by rw [ha]; exact ht)⟩
  rw [tΓ_at ha ht] at hs
  cases hs
  exact hat
section TD
variable {p : Program} {l : Launch} {e : Env} {R : Room} {s : State} {m : MethodId} {args : Array Value} {below : List Frame} {meth : Method} {c : Code} {H : Heap} {locs : List Loc} {Q : State → Prop}
variable {cc : ByteArray} {pc : Nat} {ls : Array Slot} {rest : List Value} {a t k index : Nat} {G : tG} {own : String} {nL : Nat} {τ : Nat → Nat} {lo hi : Int} {i : Int32} {cells slots : Nat}
theorem tc_geti (E : tE G p s m c args own cc nL) (hG : tGH G τ s H locs) (ha : τ a = t) (hF : tFi own index t k lo hi) (hdg : decode cc pc = .ok (.getfield index, 3))
    (kk : ∀ x : Int32, lo ≤ x.toInt → x.toInt ≤ hi → W p l e R s m args below meth c H locs cells slots Q (F0 m (pc + 3) ls (.int x :: rest))) : W p l e R s m args below meth c H locs cells slots Q (F0 m pc ls (.ref a :: rest)) := by
  obtain ⟨ht, ⟨ci, hs, hf⟩, hd⟩ := hF
  have hΓ := tΓ_at (G := G) ha ht
  rw [hs] at hΓ
  refine tg_get E hG.1 hΓ hf hdg (fun v hv => ?_)
  replace hv := hv.1
  rw [hd] at hv
  obtain ⟨x, rfl, h1, h2⟩ := hv
  exact kk x h1 h2
theorem tc_getr (E : tE G p s m c args own cc nL) (hG : tGH G τ s H locs) (ha : τ a = t) {t' : Nat} (hF : tFr own index t k t') (hdg : decode cc pc = .ok (.getfield index, 3))
    (kk : ∀ b : Nat, τ b = t' → W p l e R s m args below meth c H locs cells slots Q (F0 m (pc + 3) ls (.ref b :: rest))) : W p l e R s m args below meth c H locs cells slots Q (F0 m pc ls (.ref a :: rest)) := by
  obtain ⟨ht, ⟨ci, hs, hf⟩, hd⟩ := hF
  have hΓ := tΓ_at (G := G) ha ht
  rw [hs] at hΓ
  refine tg_get E hG.1 hΓ hf hdg (fun v hv => ?_)
  replace hv := hv.1
  rw [hd] at hv
  obtain ⟨b, rfl, h1⟩ := hv
  exact kk b h1
theorem tc_put (E : tE G p s m c args own cc nL) (hG : tGH G τ s H locs) (ha : τ a = t) {ty : FieldType} (hF : tPi own index t k lo hi ty) {x : Int32} (h1 : lo ≤ x.toInt) (h2 : x.toInt ≤ hi) (hn : narrow ty (.int x) = .int x) (hfit : fits ty (.int x) = true) (hdg : decode cc pc = .ok (.putfield index, 3))
    (kk : ∀ (H1 : Heap) (locs1 : List Loc), tGH G τ s H1 locs1 → W p l e R s m args below meth c H1 locs1 cells slots Q (F0 m (pc + 3) ls rest)) : W p l e R s m args below meth c H locs cells slots Q (F0 m pc ls (.int x :: .ref a :: rest)) := by
  obtain ⟨ht, ⟨ci, hs, hf⟩, hd⟩ := hF
  have hΓ := tΓ_at (G := G) ha ht.1
  rw [hs] at hΓ
  refine tg_put E hG.1 hΓ hf hn hfit hdg (fun H1 i z oq hat => kk H1 _ (hG.put ha ht.1 z oq ?_))
  rw [hs]
  exact hat _ ⟨by rw [hd]; exact ⟨x, rfl, h1, h2⟩, (tKn_no ht.2 (tMr_i hd).1 (tMr_i hd).2)⟩ (fun _ _ _ h => h)
theorem tc_puti (E : tE G p s m c args own cc nL) (hG : tGH G τ s H locs) (ha : τ a = t) (hF : tPi own index t k lo hi .int) {x : Int32} (h1 : lo ≤ x.toInt) (h2 : x.toInt ≤ hi) (hdg : decode cc pc = .ok (.putfield index, 3))
    (kk : ∀ (H1 : Heap) (locs1 : List Loc), tGH G τ s H1 locs1 → W p l e R s m args below meth c H1 locs1 cells slots Q (F0 m (pc + 3) ls rest)) : W p l e R s m args below meth c H locs cells slots Q (F0 m pc ls (.int x :: .ref a :: rest)) := tc_put E hG ha hF h1 h2 rfl rfl hdg kk
theorem tc_putz (E : tE G p s m c args own cc nL) (hG : tGH G τ s H locs) (ha : τ a = t) (hF : tPi own index t k 0 1 .boolean) {x : Int32} (h1 : 0 ≤ x.toInt) (h2 : x.toInt ≤ 1) (hdg : decode cc pc = .ok (.putfield index, 3))
    (kk : ∀ (H1 : Heap) (locs1 : List Loc), tGH G τ s H1 locs1 → W p l e R s m args below meth c H1 locs1 cells slots Q (F0 m (pc + 3) ls rest)) : W p l e R s m args below meth c H locs cells slots Q (F0 m pc ls (.int x :: .ref a :: rest)) := tc_put E hG ha hF h1 h2 (t_nz h1 h2).1 (t_nz h1 h2).2 hdg kk
theorem tc_iald {n : Nat} (E : tE G p s m c args own cc nL) (hG : tGH G τ s H locs) (ha : τ a = t) (hF : tArr t 0 n (0, lo, hi)) (hin : vp_in i n) (hdg : decode cc pc = .ok (.iaload, 1))
    (kk : ∀ x : Int32, lo ≤ x.toInt → x.toInt ≤ hi → W p l e R s m args below meth c H locs cells slots Q (F0 m (pc + 1) ls (.int x :: rest))) : W p l e R s m args below meth c H locs cells slots Q (F0 m pc ls (.int i :: .ref a :: rest)) := by
  obtain ⟨ht, hs, hd⟩ := hF
  have hΓ := tΓ_at (G := G) ha ht
  rw [hs] at hΓ
  refine tg_iald E hG.1 hΓ hin hdg (fun v hv => ?_)
  replace hv := hv.1
  rw [hd] at hv
  obtain ⟨x, rfl, h1, h2⟩ := hv
  exact kk x h1 h2
theorem tc_cald {n : Nat} (E : tE G p s m c args own cc nL) (hG : tGH G τ s H locs) (ha : τ a = t) (hF : tArr t 1 n (0, lo, hi)) (hin : vp_in i n) (hdg : decode cc pc = .ok (.caload, 1))
    (kk : ∀ x : Int32, lo ≤ x.toInt → x.toInt ≤ hi → W p l e R s m args below meth c H locs cells slots Q (F0 m (pc + 1) ls (.int x :: rest))) : W p l e R s m args below meth c H locs cells slots Q (F0 m pc ls (.int i :: .ref a :: rest)) := by
  obtain ⟨ht, hs, hd⟩ := hF
  have hΓ := tΓ_at (G := G) ha ht
  rw [hs] at hΓ
  refine tg_cald E hG.1 hΓ hin hdg (fun v hv => ?_)
  replace hv := hv.1
  rw [hd] at hv
  obtain ⟨x, rfl, h1, h2⟩ := hv
  exact kk x h1 h2
theorem tc_lald {n : Nat} (E : tE G p s m c args own cc nL) (hG : tGH G τ s H locs) (ha : τ a = t) (hF : tArr t 2 n (3, 0, 0)) (hin : vp_in i n) (hdg : decode cc pc = .ok (.laload, 1))
    (kk : ∀ x : Int64, W p l e R s m args below meth c H locs cells slots Q (F0 m (pc + 1) ls (.long x :: rest))) : W p l e R s m args below meth c H locs cells slots Q (F0 m pc ls (.int i :: .ref a :: rest)) := by
  obtain ⟨ht, hs, hd⟩ := hF
  have hΓ := tΓ_at (G := G) ha ht
  rw [hs] at hΓ
  refine tg_lald E hG.1 hΓ hin hdg (fun v hv => ?_)
  replace hv := hv.1
  rw [hd] at hv
  obtain ⟨x, rfl⟩ := hv
  exact kk x
theorem tc_aald3 {n t' : Nat} (E : tE G p s m c args own cc nL) (hG : tGH G τ s H locs) (ha : τ a = t) (hF : tArr t 3 n (1, (t' : Int), 0)) (hin : vp_in i n) (hdg : decode cc pc = .ok (.aaload, 1))
    (kk : ∀ b : Nat, τ b = t' → W p l e R s m args below meth c H locs cells slots Q (F0 m (pc + 1) ls (.ref b :: rest))) : W p l e R s m args below meth c H locs cells slots Q (F0 m pc ls (.int i :: .ref a :: rest)) := by
  obtain ⟨ht, hs, hd⟩ := hF
  have hΓ := tΓ_at (G := G) ha ht
  rw [hs] at hΓ
  refine tg_aald3 E hG.1 hΓ hin hdg (fun v hv => ?_)
  replace hv := hv.1
  rw [hd] at hv
  obtain ⟨x, rfl, h1⟩ := hv
  exact kk x h1
theorem tc_aald4 {n t' : Nat} (E : tE G p s m c args own cc nL) (hG : tGH G τ s H locs) (ha : τ a = t) (hF : tArr t 4 n (1, (t' : Int), 0)) (hin : vp_in i n) (hdg : decode cc pc = .ok (.aaload, 1))
    (kk : ∀ b : Nat, τ b = t' → W p l e R s m args below meth c H locs cells slots Q (F0 m (pc + 1) ls (.ref b :: rest))) : W p l e R s m args below meth c H locs cells slots Q (F0 m pc ls (.int i :: .ref a :: rest)) := by
  obtain ⟨ht, hs, hd⟩ := hF
  have hΓ := tΓ_at (G := G) ha ht
  rw [hs] at hΓ
  refine tg_aald4 E hG.1 hΓ hin hdg (fun v hv => ?_)
  replace hv := hv.1
  rw [hd] at hv
  obtain ⟨x, rfl, h1⟩ := hv
  exact kk x h1
theorem tc_aald5 {n t' : Nat} (E : tE G p s m c args own cc nL) (hG : tGH G τ s H locs) (ha : τ a = t) (hF : tArr t 5 n (1, (t' : Int), 0)) (hin : vp_in i n) (hdg : decode cc pc = .ok (.aaload, 1))
    (kk : ∀ b : Nat, τ b = t' → W p l e R s m args below meth c H locs cells slots Q (F0 m (pc + 1) ls (.ref b :: rest))) : W p l e R s m args below meth c H locs cells slots Q (F0 m pc ls (.int i :: .ref a :: rest)) := by
  obtain ⟨ht, hs, hd⟩ := hF
  have hΓ := tΓ_at (G := G) ha ht
  rw [hs] at hΓ
  refine tg_aald5 E hG.1 hΓ hin hdg (fun v hv => ?_)
  replace hv := hv.1
  rw [hd] at hv
  obtain ⟨x, rfl, h1⟩ := hv
  exact kk x h1
theorem tc_iast {n : Nat} (E : tE G p s m c args own cc nL) (hG : tGH G τ s H locs) (ha : τ a = t) (hF : tArr t 0 n (0, lo, hi)) (hin : vp_in i n) {x : Int32} (h1 : lo ≤ x.toInt) (h2 : x.toInt ≤ hi) (hdg : decode cc pc = .ok (.iastore, 1))
    (kk : ∀ (H1 : Heap) (locs1 : List Loc), tGH G τ s H1 locs1 → W p l e R s m args below meth c H1 locs1 cells slots Q (F0 m (pc + 1) ls rest)) (hM : tMt t = false := by rfl) (hQ : tMq t = false := by rfl) : W p l e R s m args below meth c H locs cells slots Q (F0 m pc ls (.int x :: .int i :: .ref a :: rest)) := by
  obtain ⟨ht, hs, hd⟩ := hF
  have hΓ := tΓ_at (G := G) ha ht
  rw [hs] at hΓ
  refine tg_iast E hG.1 hΓ hin hdg (fun H1 z oq hat => kk H1 _ (hG.put ha ht z oq ?_))
  rw [hs]
  exact hat _ ⟨by rw [hd]; exact ⟨x, rfl, h1, h2⟩, (tKn_q hM hQ)⟩ (fun _ _ _ h => h)
theorem tc_cast {n : Nat} (E : tE G p s m c args own cc nL) (hG : tGH G τ s H locs) (ha : τ a = t) (hF : tArr t 1 n (0, lo, hi)) (hin : vp_in i n) {x : Int32} (h1 : lo ≤ x.toInt) (h2 : x.toInt ≤ hi) (h3 : 0 ≤ x.toInt) (h4 : x.toInt ≤ 65535) (hdg : decode cc pc = .ok (.castore, 1))
    (kk : ∀ (H1 : Heap) (locs1 : List Loc), tGH G τ s H1 locs1 → W p l e R s m args below meth c H1 locs1 cells slots Q (F0 m (pc + 1) ls rest)) (hM : tMt t = false := by rfl) (hQ : tMq t = false := by rfl) : W p l e R s m args below meth c H locs cells slots Q (F0 m pc ls (.int x :: .int i :: .ref a :: rest)) := by
  obtain ⟨ht, hs, hd⟩ := hF
  have hΓ := tΓ_at (G := G) ha ht
  rw [hs] at hΓ
  refine tg_cast E hG.1 hΓ hin hdg (fun H1 z oq hat => kk H1 _ (hG.put ha ht z oq ?_))
  rw [hs]
  exact hat _ ⟨by rw [hd]; rw [(t_nc h3 h4).1]; exact ⟨x, rfl, h1, h2⟩, (tKn_q hM hQ)⟩ (fun _ _ _ h => h)
theorem tc_last {n : Nat} (E : tE G p s m c args own cc nL) (hG : tGH G τ s H locs) (ha : τ a = t) (hF : tArr t 2 n (3, 0, 0)) (hin : vp_in i n) {x : Int64} (hdg : decode cc pc = .ok (.lastore, 1))
    (kk : ∀ (H1 : Heap) (locs1 : List Loc), tGH G τ s H1 locs1 → W p l e R s m args below meth c H1 locs1 cells slots Q (F0 m (pc + 1) ls rest)) (hM : tMt t = false := by rfl) (hQ : tMq t = false := by rfl) : W p l e R s m args below meth c H locs cells slots Q (F0 m pc ls (.long x :: .int i :: .ref a :: rest)) := by
  obtain ⟨ht, hs, hd⟩ := hF
  have hΓ := tΓ_at (G := G) ha ht
  rw [hs] at hΓ
  refine tg_last E hG.1 hΓ hin hdg (fun H1 z oq hat => kk H1 _ (hG.put ha ht z oq ?_))
  rw [hs]
  exact hat _ ⟨by rw [hd]; exact ⟨x, rfl⟩, (tKn_q hM hQ)⟩ (fun _ _ _ h => h)
theorem tc_alen {n ak : Nat} {d : tSD} {ty : FieldType} (E : tE G p s m c args own cc nL) (hG : tGH G τ s H locs) (ha : τ a = t) (hF : tArr t ak n d) (hty : (tTy G)[ak]? = some (G.2.1 ak, ty)) {v : Int32} (hv : Int32.ofNat n = v) (hdg : decode cc pc = .ok (.arraylength, 1))
    (kk : W p l e R s m args below meth c H locs cells slots Q (F0 m (pc + 1) ls (.int v :: rest))) : W p l e R s m args below meth c H locs cells slots Q (F0 m pc ls (.ref a :: rest)) := by
  obtain ⟨ht, hs, hd⟩ := hF
  have hΓ := tΓ_at (G := G) ha ht
  rw [hs] at hΓ
  exact tg_alen E hG.1 hΓ hty hv hdg kk
/-- a static table of Kinds -/
theorem tc_gets (E : tE G p s m c args own cc nL) (hSt : tSt G (tA τ) s) (hG : tGH G τ s H locs) (j : Nat) (hj : j < 5) (hl : Cond.fieldLink own index "LaidOutBoxes$Kinds" (tSn j) "[I" ∈ tWS) (hdg : decode cc pc = .ok (.getstatic index, 3))
    (kk : W p l e R s m args below meth c H locs cells slots Q (F0 m (pc + 3) ls (.ref (G.2.2.1 j) :: rest))) : W p l e R s m args below meth c H locs cells slots Q (F0 m pc ls rest) :=
  va_gets E.1 E.2.1 (hSt.1 j hj).1 hG.2 E.2.2.2.1 (E.2.2.2.2.1 _ hl) (fun _ h => h) hdg kk
theorem tc_tald (E : tE G p s m c args own cc nL) (hSt : tSt G (tA τ) s) (hG : tGH G τ s H locs) (j : Nat) (hj : j < 5) (hin : vp_in i 10) (hdg : decode cc pc = .ok (.iaload, 1))
    (kk : W p l e R s m args below meth c H locs cells slots Q (F0 m (pc + 1) ls (.int (tSw j i.toNatClampNeg) :: rest))) : W p l e R s m args below meth c H locs cells slots Q (F0 m pc ls (.int i :: .ref (G.2.2.1 j) :: rest)) := by
  obtain ⟨cell, h1, h2, h3, h4, h5, h6, h7⟩ := ((hSt.1 j hj).2).kept hG.2.2.1
  exact W.iald (v := .int (tSw j i.toNatClampNeg)) E.1 E.2.1 h1 h2 h3 (fun q => q.elim (fun z => hin (Or.inl z)) (fun z => hin (Or.inr (Nat.le_trans h4 z)))) (h6 _ (t_inL hin)) rfl rfl hdg kk
end TD
section TDC
variable {p : Program} {l : Launch} {e : Env} {R : Room} {s : State} {m : MethodId} {args : Array Value} {below : List Frame} {meth : Method} {c : Code} {H : Heap} {locs : List Loc} {Q : State → Prop}
variable {cc : ByteArray} {pc : Nat} {ls : Array Slot} {rest st0 As : List Value} {b t index n : Nat} {G : tG} {own : String} {nL : Nat} {τ : Nat → Nat} {y : MethodName} {bytes : ByteArray} {maxL : Nat} {ret : Option FieldType} {rm : Room} {Qc : Array Value → State → Outcome → State → Prop} {cells slots : Nat} {fr : Addr → Prop}
theorem tc_recv (hK : va_K G.1 vwCl (tTy G) s) (hG : tGH G τ s H locs) (hb : τ b = t) {C : String} (hR : tRv t C) : ∃ cell : Cell, H[b]? = some cell ∧ cell.vm.isStatics = false ∧ s.vm.findClass C = some cell.cls := by
  obtain ⟨ht, ci, T, N, hs, hc⟩ := hR
  have hΓ := tΓ_at (G := G) hb ht
  rw [hs] at hΓ
  obtain ⟨r, V, h1, ⟨cell, q1, q2, q3, q4⟩, h3⟩ := hG.1 b _ hΓ
  exact ⟨cell, q1, by rw [q3]; rfl, by rw [q2]; exact (hK.1 ci _ hc).2.1⟩
theorem tc_callB (E : tE G p s m c args own cc nL) (hc : tCm y bytes maxL ret n) (hl : Cond.methodLink own index y ∈ tWS) (hR : rm.cells = 0 ∧ rm.slots = 0 ∧ rm.frames + 1 ≤ R.frames ∧ 8 + (maxL + 11) + rm.locals ≤ R.locals) : CallB R s args own index y bytes maxL ret (.code y bytes maxL ret :: tWS) rm 0 0 n :=
  callB_of n E.2.2.2.2.1 (t_good hc.1) rfl hR.1 hR.2.1 (E.2.2.2.2.1 _ hc.2.1) (E.2.2.2.2.1 _ hl) hc.2.2 hR.2.2
theorem tc_runV (E : tE G p s m c args own cc nL) (hSt : tSt G (tA τ) s) (hG : tGH G τ s H locs) (hM : Met l y (.code y bytes maxL ret :: tWS) rm (va_Pc (.ref b :: As) (tPre G τ)) Qc 0 0 fr) (hb : τ b = t) (hv : tRv t y.cls) (hc : tCv y bytes maxL ret n) (hl : Cond.methodLink own index y ∈ tWS) (hR : rm.cells = 0 ∧ rm.slots = 0 ∧ rm.frames + 1 ≤ R.frames ∧ 8 + (maxL + 11) + rm.locals ≤ R.locals) (hn : As.length = n) (hsz : ls.size = nL) (hst : st0 = As.reverse ++ .ref b :: rest) (hW : (rest.map fun v => v.category).sum ≤ 8) (hcs : cells ≤ R.cells ∧ slots ≤ R.slots) (hdg : decode cc pc = .ok (.invokevirtual index, 3)) :
    va_Run p l e R s m args below meth c H locs cells slots 0 0 (F0 m pc ls st0) rest (Qc (Value.ref b :: As).toArray) fr := by
  obtain ⟨hx, hbb, hml, hown, hts, hK⟩ := id E
  exact va_runV (C := y.cls) ⟨hx, hbb, hml, hown, hts⟩ hM ⟨tc_callB E hc.1 hl hR, hts _ hc.2.1, hts _ hc.2.2⟩ ⟨tPre.blind, tc_recv hK hG hb hv, fun U hU hWm => ⟨rfl, tPre.of hG hK hSt hU hWm⟩⟩ rfl hn hsz hst (lv_room hW) hdg hcs
theorem tc_runS (E : tE G p s m c args own cc nL) (hSt : tSt G (tA τ) s) (hG : tGH G τ s H locs) (hM : Met l y (.code y bytes maxL ret :: tWS) rm (va_Pc As (tPre G τ)) Qc 0 0 fr) (hc : tCs y bytes maxL ret n) (hl : Cond.methodLink own index y ∈ tWS) (hR : rm.cells = 0 ∧ rm.slots = 0 ∧ rm.frames + 1 ≤ R.frames ∧ 8 + (maxL + 11) + rm.locals ≤ R.locals) (hn : As.length = n) (hsz : ls.size = nL) (hst : st0 = As.reverse ++ rest) (hW : (rest.map fun v => v.category).sum ≤ 8) (hcs : cells ≤ R.cells ∧ slots ≤ R.slots) (hdg : decode cc pc = .ok (.invokestatic index, 3)) :
    va_Run p l e R s m args below meth c H locs cells slots 0 0 (F0 m pc ls st0) rest (Qc As.toArray) fr := by
  obtain ⟨hx, hbb, hml, hown, hts, hK⟩ := id E
  exact va_runS ⟨hx, hbb, hml, hown, hts⟩ hM ⟨tc_callB E hc.1 hl hR, hts _ hc.2⟩ ⟨tPre.blind, fun U hU hWm => ⟨rfl, tPre.of hG hK hSt hU hWm⟩⟩ rfl hn hsz hst (lv_room hW) hdg hcs
theorem tc_runN (E : tE G p s m c args own cc nL) (hSt : tSt G (tA τ) s) (hG : tGH G τ s H locs) (hM : Met l y (.code y bytes maxL ret :: tWS) rm (va_Pc As (tPre G τ)) Qc 0 0 fr) (hc : tCs y bytes maxL ret n) (hl : (own, index, y) ∈ tNst) (hR : rm.cells = 0 ∧ rm.slots = 0 ∧ rm.frames + 1 ≤ R.frames ∧ 8 + (maxL + 11) + rm.locals ≤ R.locals) (hn : As.length = n) (hsz : ls.size = nL) (hst : st0 = As.reverse ++ rest) (hW : (rest.map fun v => v.category).sum ≤ 8) (hcs : cells ≤ R.cells ∧ slots ≤ R.slots) (hdg : decode cc pc = .ok (.invokestatic index, 3)) :
    va_Run p l e R s m args below meth c H locs cells slots 0 0 (F0 m pc ls st0) rest (Qc As.toArray) fr := by
  obtain ⟨hx, hbb, hml, hown, hts, hK⟩ := id E
  exact va_runSN ⟨hx, hbb, hml, hown, hts⟩ hM ⟨va_cnB n hts (t_good hc.1.1) rfl hR.1 hR.2.1 (hSt.2.2.2.2.2 _ hl) (hts _ hc.1.2.1) hc.1.2.2 hR.2.2, hts _ hc.2, trivial⟩ ⟨tPre.blind, fun U hU hWm => ⟨rfl, tPre.of hG hK hSt hU hWm⟩⟩ rfl hn hsz hst (lv_room hW) hdg hcs
theorem tc_calli {post : Int32 → Prop} {av : Array Value} (hG : tGH G τ s H locs) (hr : va_Run p l e R s m args below meth c H locs cells slots 0 0 (F0 m pc ls st0) rest (tQi G τ post av) (tA τ))
    (kk : ∀ (r : Int32) (H1 : Heap) (locs1 : List Loc), post r → tGH G τ s H1 locs1 → W p l e R s m args below meth c H1 locs1 cells slots Q (F0 m (pc + 3) ls (.int r :: rest))) : W p l e R s m args below meth c H locs cells slots Q (F0 m pc ls st0) :=
  va_calli hr hG.2 (fun _ _ h => h) (fun _ h => h) (fun r _ t H1 locs1 ht _ hp hB _ _ hS => kk r H1 locs1 hp ⟨ht ▸ hB, hS⟩)
theorem tc_calll {post : Int64 → Prop} {av : Array Value} (hG : tGH G τ s H locs) (hr : va_Run p l e R s m args below meth c H locs cells slots 0 0 (F0 m pc ls st0) rest (tQl G τ post av) (tA τ))
    (kk : ∀ (r : Int64) (H1 : Heap) (locs1 : List Loc), post r → tGH G τ s H1 locs1 → W p l e R s m args below meth c H1 locs1 cells slots Q (F0 m (pc + 3) ls (.long r :: rest))) : W p l e R s m args below meth c H locs cells slots Q (F0 m pc ls st0) :=
  va_calll hr hG.2 (fun _ _ h => h) (fun _ h => h) (fun r _ t H1 locs1 ht _ hp hB _ _ hS => kk r H1 locs1 hp ⟨ht ▸ hB, hS⟩)
theorem tc_callv  {av : Array Value} (hG : tGH G τ s H locs) (hr : va_Run p l e R s m args below meth c H locs cells slots 0 0 (F0 m pc ls st0) rest (tQv G τ av) (tA τ))
    (kk : ∀  (H1 : Heap) (locs1 : List Loc), tGH G τ s H1 locs1 → W p l e R s m args below meth c H1 locs1 cells slots Q (F0 m (pc + 3) ls rest)) : W p l e R s m args below meth c H locs cells slots Q (F0 m pc ls st0) :=
  va_callv hr hG.2 (fun _ _ h => h) (fun _ h => h) (fun _ t H1 locs1 ht _ _ hB _ _ hS => kk H1 locs1 ⟨ht ▸ hB, hS⟩)
theorem tc_callr {post : Nat → Prop} {av : Array Value} (hG : tGH G τ s H locs) (hr : va_Run p l e R s m args below meth c H locs cells slots 0 0 (F0 m pc ls st0) rest (tQr G τ post av) (tA τ))
    (kk : ∀ (r : Nat) (H1 : Heap) (locs1 : List Loc), post r → tGH G τ s H1 locs1 → W p l e R s m args below meth c H1 locs1 cells slots Q (F0 m (pc + 3) ls (.ref r :: rest))) : W p l e R s m args below meth c H locs cells slots Q (F0 m pc ls st0) :=
  va_callr hr hG.2 (fun _ _ h => h) (fun _ h => h) (fun _ r t H1 locs1 ht _ _ hB _ _ hS => kk r H1 locs1 hB.1 ⟨ht ▸ hB.2, hS⟩)
theorem tc_callq {post : Option Nat → Prop} {av : Array Value} (hG : tGH G τ s H locs) (hr : va_Run p l e R s m args below meth c H locs cells slots 0 0 (F0 m pc ls st0) rest (tQq G τ post av) (tA τ))
    (kk : ∀ (r : Option Nat) (H1 : Heap) (locs1 : List Loc), post r → tGH G τ s H1 locs1 → W p l e R s m args below meth c H1 locs1 cells slots Q (F0 m (pc + 3) ls (va_rf r :: rest))) : W p l e R s m args below meth c H locs cells slots Q (F0 m pc ls st0) :=
  va_callq hr hG.2 (fun _ _ h => h) (fun _ h => h) (fun r _ t H1 locs1 ht _ hp hB _ _ hS => kk r H1 locs1 hp ⟨ht ▸ hB, hS⟩)
theorem tc_callp {post : Int32 → Prop} {av : Array Value} (hr : va_Run p l e R s m args below meth c H locs cells slots 0 0 (F0 m pc ls st0) rest (tQp post av) tNo)
    (kk : ∀ r : Int32, post r → W p l e R s m args below meth c H locs cells slots Q (F0 m (pc + 3) ls (.int r :: rest))) : W p l e R s m args below meth c H locs cells slots Q (F0 m pc ls st0) := by
  intro T hT X
  obtain ⟨v, st₀, t, T', L, h0, X', hL, e1, e2, ⟨r, hv, hp, hh⟩, st⟩ := hr T hT X
  cases hv
  have hL0 : L = [] := by
    cases L with
    | nil => rfl
    | cons q L => exact absurd (hL q List.mem_cons_self) id
  subst hL0
  rw [List.append_nil] at X'
  obtain ⟨t2, a1, b1⟩ := kk r hp T' (by rw [e1, hh, h0]) X'
  exact ⟨t2, st t2 a1, b1⟩
theorem tc_callpl {post : Int64 → Prop} {av : Array Value} (hr : va_Run p l e R s m args below meth c H locs cells slots 0 0 (F0 m pc ls st0) rest (tQpl post av) tNo)
    (kk : ∀ r : Int64, post r → W p l e R s m args below meth c H locs cells slots Q (F0 m (pc + 3) ls (.long r :: rest))) : W p l e R s m args below meth c H locs cells slots Q (F0 m pc ls st0) := by
  intro T hT X
  obtain ⟨v, st₀, t, T', L, h0, X', hL, e1, e2, ⟨r, hv, hp, hh⟩, st⟩ := hr T hT X
  cases hv
  have hL0 : L = [] := by
    cases L with
    | nil => rfl
    | cons q L => exact absurd (hL q List.mem_cons_self) id
  subst hL0
  rw [List.append_nil] at X'
  obtain ⟨t2, a1, b1⟩ := kk r hp T' (by rw [e1, hh, h0]) X'
  exact ⟨t2, st t2 a1, b1⟩
theorem tc_callpr {post : Nat → Prop} {av : Array Value} (hr : va_Run p l e R s m args below meth c H locs cells slots 0 0 (F0 m pc ls st0) rest (tQpr post av) tNo)
    (kk : ∀ r : Nat, post r → W p l e R s m args below meth c H locs cells slots Q (F0 m (pc + 3) ls (.ref r :: rest))) : W p l e R s m args below meth c H locs cells slots Q (F0 m pc ls st0) := by
  intro T hT X
  obtain ⟨v, st₀, t, T', L, h0, X', hL, e1, e2, ⟨r, hv, hp, hh⟩, st⟩ := hr T hT X
  cases hv
  have hL0 : L = [] := by
    cases L with
    | nil => rfl
    | cons q L => exact absurd (hL q List.mem_cons_self) id
  subst hL0
  rw [List.append_nil] at X'
  obtain ⟨t2, a1, b1⟩ := kk r hp T' (by rw [e1, hh, h0]) X'
  exact ⟨t2, st t2 a1, b1⟩
theorem tc_callpq {post : Option Nat → Prop} {av : Array Value} (hr : va_Run p l e R s m args below meth c H locs cells slots 0 0 (F0 m pc ls st0) rest (tQpq post av) tNo)
    (kk : ∀ r : Option Nat, post r → W p l e R s m args below meth c H locs cells slots Q (F0 m (pc + 3) ls (va_rf r :: rest))) : W p l e R s m args below meth c H locs cells slots Q (F0 m pc ls st0) := by
  intro T hT X
  obtain ⟨v, st₀, t, T', L, h0, X', hL, e1, e2, ⟨r, hv, hp, hh⟩, st⟩ := hr T hT X
  cases hv
  have hL0 : L = [] := by
    cases L with
    | nil => rfl
    | cons q L => exact absurd (hL q List.mem_cons_self) id
  subst hL0
  rw [List.append_nil] at X'
  obtain ⟨t2, a1, b1⟩ := kk r hp T' (by rw [e1, hh, h0]) X'
  exact ⟨t2, st t2 a1, b1⟩
end TDC
