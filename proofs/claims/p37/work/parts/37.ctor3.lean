/-! ===== constructors: arrays of references in making ===== -/
section CGA
variable {p : Program} {l : Launch} {e : Env} {R : Room} {s : State} {m : MethodId} {args : Array Value} {below : List Frame} {meth : Method} {c : Code} {H : Heap} {locs : List Loc} {Q : State → Prop}
variable {cc : ByteArray} {pc : Nat} {ls : Array Slot} {rest st0 As : List Value} {a b h t k ci cj index n N q : Nat} {G : tG} {own : String} {nL : Nat} {τ τ0 : Nat → Nat} {fs : List Value} {cells slots mc ms : Nat} {y : MethodName} {bytes : ByteArray} {maxL : Nat} {rm : Room}
theorem tCG.push {H1 : Heap} (hC : tCG G τ0 τ s h ci fs H locs) (z : H.size ≤ H1.size) (o1 : ∀ x : Nat, x < H.size → H1[x]? = H[x]?) : tCG G τ0 τ s h ci fs H1 locs := by
  obtain ⟨g1, g2, g3, g4, g5, g6, g7⟩ := hC
  exact ⟨g1.kept (fun q hq => o1 q (g2 q (tΓ_no hq))), fun q hq => by have := g2 q hq; omega, g3, g4.kept (o1 h g4.lt), ⟨Nat.le_trans g5.1 z, fun x e1 e2 => (o1 x (Nat.lt_of_lt_of_le e1 g5.1)).trans (g5.2.1 x e1 e2), g5.2.2⟩, g6, g7⟩
theorem tCG.fresh (hC : tCG G τ0 τ s h ci fs H locs) (hq : H.size ≤ q) : τ q = 0 ∧ q ≠ h ∧ s.heap.size ≤ q := by
  obtain ⟨g1, g2, g3, g4, g5, g6, g7⟩ := hC
  have := g4.lt
  have := g5.1
  exact ⟨Classical.byContradiction fun z9 => by have := g2 _ z9; omega, by omega, by omega⟩
theorem tCG.alt {H1 : Heap} {i : Nat} (hC : tCG G τ0 τ s h ci fs H locs) (h1 : τ q = 0) (h2 : q ≠ h) (h3 : s.heap.size ≤ q) (z : H1.size = H.size) (oq : ∀ x : Nat, x ≠ q → H1[x]? = H[x]?) : tCG G τ0 τ s h ci fs H1 (locs ++ [⟨q, i⟩]) := by
  obtain ⟨g1, g2, g3, g4, g5, g6, g7⟩ := hC
  exact ⟨g1.kept (fun x hx => oq x (fun e => by rw [e] at hx; exact tΓ_no hx h1)), by rw [z]; exact g2, g3, g4.kept (oq h (Ne.symm h2)), g5.put z oq (Or.inr h3), g6, g7⟩
/-- a cell gets its type -/
theorem tCG.type {c9 : Nat} (hC : tCG G τ0 τ s h ci fs H locs) (hτq : τ q = 0) (hhq : q ≠ h) (hq : s.heap.size ≤ q) (hq2 : q < H.size) (h28 : c9 ≠ 28) (h29 : c9 ≠ 29 ∧ (c9 = 7 → q = G.2.2.1 14)) (hnew : tAt G (tShp c9, fun k v => tsv (tUp τ q c9) (tFD c9 k) v ∧ tKn G c9 q k v) q H) : tCG G τ0 (tUp τ q c9) s h ci fs H locs := by
  obtain ⟨h1, h2, h3, h4, h5, h6, h7⟩ := hC
  refine ⟨TH.ext h1 (fun x hx => rfl) (fun x hx => tUp_ne (fun e => hx (by rw [e]; exact hτq))) (fun x hx0 hx1 => ?_), fun x hx => ?_, (tUp_ne (Ne.symm hhq)).trans h3, h4, h5, h6, h7.up hq hτq h28 h29⟩
  · have e : x = q := Classical.byContradiction fun e => hx1 ((tUp_ne e).trans hx0)
    subst e
    rw [tUp_at]
    exact hnew
  · by_cases e : x = q
    · rw [e]; exact hq2
    · rw [tUp_ne e] at hx
      exact h2 x hx
theorem cg_anew (E : tE G p s m c args own cc nL) {C : String} (hAO : va_AO C s) (hC : tCG G τ0 τ s h ci fs H locs) {ak : Nat} {nn : Int32} (hty : (tTy G)[ak]? = some (G.2.1 ak, .object C)) (hl : Cond.classLink own index C ∈ tWS) (hnn : ¬ nn < 0) (hN : nn.toNatClampNeg = N) (hby : N * 4 ≤ 536870912) (hcl : cells + 1 ≤ R.cells) (hsl : slots + N ≤ R.slots) (hdg : decode cc pc = .ok (.anewarray index, 3))
    (kk : ∀ (q : Nat) (H1 : Heap), q = H.size → H1.size = H.size + 1 → tCG G τ0 τ s h ci fs H1 locs → H1[q]? = some (arrV (G.2.1 ak) N (fun _ => .null)) → τ q = 0 → q ≠ h → s.heap.size ≤ q → (∀ x : Nat, x < H.size → H1[x]? = H[x]?) → W p l e R s m args below meth c H1 locs (cells + 1) (slots + N) Q (F0 m (pc + 3) ls (.ref q :: rest))) : W p l e R s m args below meth c H locs cells slots Q (F0 m pc ls (.int nn :: rest)) := by
  subst hN
  refine W.anew E.1 E.2.1 E.2.2.2.1 (E.2.2.2.2.1 _ hl) (va_AO.use hAO) rfl hdg rfl hnn hby hcl hsl fun cA kA comp f1 f2 f3 f4 => ?_
  obtain ⟨kA', comp', -, -, -, r4⟩ := (E.2.2.2.2.2.2 ak _ hty).2
  have ec : cA = G.2.1 ak := Option.some.inj (f1.symm.trans r4)
  subst ec
  generalize hH1 : H.push ({ cls := G.2.1 ak, slots := Array.replicate nn.toNatClampNeg .null, vm := .none } : Cell) = H1
  have z1 : H1.size = H.size + 1 := by rw [← hH1, Array.size_push]
  have e1 : H1[H.size]? = some (arrV (G.2.1 ak) nn.toNatClampNeg (fun _ => .null)) := by rw [← hH1, Array.getElem?_push_size, ← arrV_new]
  have o1 : ∀ q : Nat, q < H.size → H1[q]? = H[q]? := fun q hq => by rw [← hH1, Array.getElem?_push, if_neg (Nat.ne_of_lt hq)]
  obtain ⟨f1, f2, f3⟩ := hC.fresh (Nat.le_refl H.size)
  exact kk H.size H1 rfl z1 (hC.push (by omega) o1) e1 f1 f2 f3 o1
theorem cg_aast (E : tE G p s m c args own cc nL) {C : String} (hC : tCG G τ0 τ s h ci fs H locs) {ak t9 : Nat} {V : Nat → Value} {i : Int32} (hA : H[q]? = some (arrV (G.2.1 ak) N V)) (hq1 : τ q = 0) (hq2 : q ≠ h) (hq3 : s.heap.size ≤ q) (hty : (tTy G)[ak]? = some (G.2.1 ak, .object C)) (hb9 : τ b = t9) (hR : tRv t9 C) (hin : vp_in i N) (hdg : decode cc pc = .ok (.aastore, 1))
    (kk : ∀ (H1 : Heap) (locs1 : List Loc), tCG G τ0 τ s h ci fs H1 locs1 → H1[q]? = some (arrV (G.2.1 ak) N (updV V i.toNatClampNeg (.ref b))) → (∀ x : Nat, x ≠ q → H1[x]? = H[x]?) → H1.size = H.size → W p l e R s m args below meth c H1 locs1 cells slots Q (F0 m (pc + 1) ls rest)) : W p l e R s m args below meth c H locs cells slots Q (F0 m pc ls (.ref b :: .int i :: .ref q :: rest)) := by
  obtain ⟨hx, hb, hml, hown, hts, hK⟩ := E
  obtain ⟨ht, cj, T, NN, hs, hc⟩ := hR
  have hΓ := tΓ_at (G := G) hb9 ht
  rw [hs] at hΓ
  obtain ⟨r, V9, h1, ⟨cellV, g1, g2, g3, g4⟩, h3⟩ := hC.1 b _ hΓ
  have hcls := (hK.1 cj _ hc).2
  obtain ⟨kA, comp, k1, k2, k3, -⟩ := (hK.2 ak _ hty).2
  have hcomp : comp = G.1.1 cj := Option.some.inj (k3.symm.trans hcls.1)
  subst hcomp
  obtain ⟨kC, hkC, -⟩ := hcls.2
  have hlt : i.toNatClampNeg < N := t_inL hin
  refine W.aast hx hb hA (fun q h => by cases h) (fun h => by cases h) k1 k2 rfl hkC ⟨fun z => hin (Or.inl z), by show _ < (arrV _ _ _).slots.size; rw [arrV_size]; exact hlt⟩ g1 (fun q h => by rw [g3] at h; cases h) (by rw [g2]; exact hkC) (by rw [g2]; exact va_assign hcls) rfl rfl hdg fun H1 e1 z oq => ?_
  exact kk H1 _ (hC.alt hq1 hq2 hq3 z oq) (by rw [e1, arrV_store]) oq z
theorem vq_outer (c : ClassId) (N h0 : Nat) : ∀ i, Jvm.Free.Multi.outerC c N h0 i = arrV c N (fun j => if j < i then .ref (h0 + 1 + j) else .null)
  | 0 => by
    have e : (fun j : Nat => if j < 0 then Value.ref (h0 + 1 + j) else .null) = (fun _ => .null) := funext fun j => by simp
    rw [e]
    exact (arrV_new c N .null)
  | i + 1 => by
    show (Jvm.Free.Multi.outerC c N h0 i).setSlot i (.ref (h0 + 1 + i)) = _
    rw [vq_outer c N h0 i, arrV_store]
    refine congrArg (arrV c N) (funext fun j => ?_)
    by_cases e : j = i
    · subst e
      simp [updV]
    · by_cases h : j < i
      · simp [updV, e, h, Nat.lt_succ_of_lt h]
      · simp [updV, e, h, show ¬ j < i + 1 by omega]
end CGA
