/-! ===== the words that travel with every call ===== -/
def tWS : List Cond := lw_tbl.filter goodWord
theorem t_ofT {w : Cond} (h : w ∈ tables_1) (g : goodWord w = true) : w ∈ tWS := List.mem_filter.mpr ⟨List.mem_append_right _ h, g⟩
theorem t_w1 {w : Cond} (i : Nat) (h : tables_1_1[i]? = some w) (g : goodWord w = true) : w ∈ tWS := t_ofT (List.mem_append_left _ (List.mem_of_getElem? h)) g
theorem t_w2 {w : Cond} (i : Nat) (h : tables_1_2[i]? = some w) (g : goodWord w = true) : w ∈ tWS := t_ofT (List.mem_append_right _ (List.mem_append_left _ (List.mem_of_getElem? h))) g
theorem t_w3 {w : Cond} (i : Nat) (h : tables_1_3[i]? = some w) (g : goodWord w = true) : w ∈ tWS := t_ofT (List.mem_append_right _ (List.mem_append_right _ (List.mem_append_left _ (List.mem_of_getElem? h)))) g
theorem t_w4 {w : Cond} (i : Nat) (h : tables_1_4[i]? = some w) (g : goodWord w = true) : w ∈ tWS := t_ofT (List.mem_append_right _ (List.mem_append_right _ (List.mem_append_right _ (List.mem_append_left _ (List.mem_of_getElem? h))))) g
theorem t_w5 {w : Cond} (i : Nat) (h : tables_1_5[i]? = some w) (g : goodWord w = true) : w ∈ tWS := t_ofT (List.mem_append_right _ (List.mem_append_right _ (List.mem_append_right _ (List.mem_append_right _ (List.mem_append_left _ (List.mem_of_getElem? h)))))) g
theorem t_w6 {w : Cond} (i : Nat) (h : tables_1_6[i]? = some w) (g : goodWord w = true) : w ∈ tWS := t_ofT (List.mem_append_right _ (List.mem_append_right _ (List.mem_append_right _ (List.mem_append_right _ (List.mem_append_right _ (List.mem_append_left _ (List.mem_of_getElem? h))))))) g
theorem t_w7 {w : Cond} (i : Nat) (h : tables_1_7[i]? = some w) (g : goodWord w = true) : w ∈ tWS := t_ofT (List.mem_append_right _ (List.mem_append_right _ (List.mem_append_right _ (List.mem_append_right _ (List.mem_append_right _ (List.mem_append_right _ (List.mem_append_left _ (List.mem_of_getElem? h)))))))) g
theorem t_w8 {w : Cond} (i : Nat) (h : tables_1_8[i]? = some w) (g : goodWord w = true) : w ∈ tWS := t_ofT (List.mem_append_right _ (List.mem_append_right _ (List.mem_append_right _ (List.mem_append_right _ (List.mem_append_right _ (List.mem_append_right _ (List.mem_append_right _ (List.mem_of_getElem? h)))))))) g
theorem t_se {q : MethodName × Nat} (h : q ∈ lw_privs) : Cond.selects q.1.cls q.1 q.1 ∈ tWS := List.mem_filter.mpr ⟨List.mem_append_left _ (List.mem_map.mpr ⟨q, h, rfl⟩), rfl⟩
theorem t_s1 {q : MethodName × Nat} (i : Nat) (h : lw_privs_1[i]? = some q) : Cond.selects q.1.cls q.1 q.1 ∈ tWS := t_se (List.mem_append_left _ (List.mem_of_getElem? h))
theorem t_s2 {q : MethodName × Nat} (i : Nat) (h : lw_privs_2[i]? = some q) : Cond.selects q.1.cls q.1 q.1 ∈ tWS := t_se (List.mem_append_right _ (List.mem_append_left _ (List.mem_of_getElem? h)))
theorem t_s3 {q : MethodName × Nat} (i : Nat) (h : lw_privs_3[i]? = some q) : Cond.selects q.1.cls q.1 q.1 ∈ tWS := t_se (List.mem_append_right _ (List.mem_append_right _ (List.mem_append_left _ (List.mem_of_getElem? h))))
theorem t_s4 {q : MethodName × Nat} (i : Nat) (h : lw_privs_4[i]? = some q) : Cond.selects q.1.cls q.1 q.1 ∈ tWS := t_se (List.mem_append_right _ (List.mem_append_right _ (List.mem_append_right _ (List.mem_append_left _ (List.mem_of_getElem? h)))))
theorem t_s5 {q : MethodName × Nat} (i : Nat) (h : lw_privs_5[i]? = some q) : Cond.selects q.1.cls q.1 q.1 ∈ tWS := t_se (List.mem_append_right _ (List.mem_append_right _ (List.mem_append_right _ (List.mem_append_right _ (List.mem_append_left _ (List.mem_of_getElem? h))))))
theorem t_s6 {q : MethodName × Nat} (i : Nat) (h : lw_privs_6[i]? = some q) : Cond.selects q.1.cls q.1 q.1 ∈ tWS := t_se (List.mem_append_right _ (List.mem_append_right _ (List.mem_append_right _ (List.mem_append_right _ (List.mem_append_right _ (List.mem_append_left _ (List.mem_of_getElem? h)))))))
theorem t_s7 {q : MethodName × Nat} (i : Nat) (h : lw_privs_7[i]? = some q) : Cond.selects q.1.cls q.1 q.1 ∈ tWS := t_se (List.mem_append_right _ (List.mem_append_right _ (List.mem_append_right _ (List.mem_append_right _ (List.mem_append_right _ (List.mem_append_right _ (List.mem_append_left _ (List.mem_of_getElem? h))))))))
theorem t_s8 {q : MethodName × Nat} (i : Nat) (h : lw_privs_8[i]? = some q) : Cond.selects q.1.cls q.1 q.1 ∈ tWS := t_se (List.mem_append_right _ (List.mem_append_right _ (List.mem_append_right _ (List.mem_append_right _ (List.mem_append_right _ (List.mem_append_right _ (List.mem_append_right _ (List.mem_of_getElem? h))))))))
theorem t_good {w : Cond} (h : w ∈ tWS) : GoodIn tWS (w :: tWS) := fun v hv =>
  have hm : v ∈ tWS := (List.mem_cons.mp hv).elim (fun q => q ▸ h) id
  ⟨hm, good_of_word (List.mem_filter.mp hm).2⟩
/-! ===== typed heaps ===== -/
/-- what a slot may hold: (0, lo, hi) an int in a range, (1, t, _) a cell of type t, (2, t, _) that or null, else a long -/
abbrev tSD : Type := Nat × Int × Int
def tsv (τ : Nat → Nat) (d : tSD) (v : Value) : Prop := match d with
  | (0, lo, hi) => ∃ x : Int32, v = .int x ∧ lo ≤ x.toInt ∧ x.toInt ≤ hi
  | (1, t, _) => ∃ b : Nat, v = .ref b ∧ τ b = t.toNat
  | (2, t, _) => v = .null ∨ ∃ b : Nat, v = .ref b ∧ τ b = t.toNat
  | (_, _, _) => ∃ x : Int64, v = .long x
/-- a shape: an object of class ci, or an array of kind ak and length n; and what its slots may hold -/
abbrev tSH : Type := (Nat ⊕ (Nat × Nat)) × (Nat → Value → Prop)
abbrev mF : Type := Nat → Nat → Int32
/-- classes, arrays, tables, names, their bytes; what masked slots hold: the class's by address, the reference's by code -/
abbrev tG : Type := va_G × (Nat → ClassId) × (Nat → Nat) × (Nat → Nat) × (Nat → Nat) × mF × mF
abbrev FF (G : tG) : mF := G.2.2.2.2.2.1
abbrev FM (G : tG) : mF := G.2.2.2.2.2.2
def tTy (G : tG) : List (ClassId × FieldType) := [(G.2.1 0, .int), (G.2.1 1, .char), (G.2.1 2, .long), (G.2.1 3, .object "LaidOutBoxes$Box"), (G.2.1 4, .object "LaidOutBoxes$Tape"), (G.2.1 5, .array .int)]
def tAt (G : tG) (sh : tSH) (a : Nat) (H : Heap) : Prop := match sh with
  | (.inl ci, P) => ∃ (r : vw_C) (V : Nat → Value), vwCl[ci]? = some r ∧ t_OB a (G.1.1 ci) r.2.2 (G.1.2 ci) H V ∧ ∀ k, k < r.2.2 → P k (V k)
  | (.inr (ak, n), P) => ∃ V : Nat → Value, H[a]? = some (arrV (G.2.1 ak) n V) ∧ ∀ i, i < n → P i (V i)
def TH (G : tG) (Γ : Nat → Option tSH) (H : Heap) : Prop := ∀ a sh, Γ a = some sh → tAt G sh a H
theorem tAt.kept {G : tG} {sh : tSH} {a : Nat} {H H1 : Heap} (h : tAt G sh a H) (hq : H1[a]? = H[a]?) : tAt G sh a H1 := by
  obtain ⟨k, P⟩ := sh
  cases k with
  | inl ci =>
    obtain ⟨r, V, h1, h2, h3⟩ := h
    exact ⟨r, V, h1, h2.kept hq, h3⟩
  | inr q =>
    obtain ⟨V, h1, h2⟩ := h
    exact ⟨V, hq.trans h1, h2⟩
theorem TH.kept {G : tG} {Γ : Nat → Option tSH} {H H1 : Heap} (h : TH G Γ H) (hq : ∀ a, Γ a ≠ none → H1[a]? = H[a]?) : TH G Γ H1 := fun a sh ha => (h a sh ha).kept (hq a (fun z => by rw [z] at ha; cases ha))
/-- one cell has changed, by its new shape -/
theorem TH.set {G : tG} {Γ Γ1 : Nat → Option tSH} {H H1 : Heap} {a : Nat} (h : TH G Γ H) (oq : ∀ q : Nat, q ≠ a → H1[q]? = H[q]?) (hΓ : ∀ q, q ≠ a → Γ1 q = Γ q) (ha : ∀ sh, Γ1 a = some sh → tAt G sh a H1) : TH G Γ1 H1 := by
  intro b sh hb
  by_cases e : b = a
  · subst e
    exact ha sh hb
  · rw [hΓ b e] at hb
    exact (h b sh hb).kept (oq b e)
def tFc (ci : Nat) (C : String) (T : u_T) (N : Nat) (ty : Nat → FieldType) : Prop := vwCl[ci]? = some (C, T, N) ∧ (∀ w ∈ u_ws C T N, w ∈ tWS) ∧ (∀ k, k < N → parseFieldDescriptor (T k).2.2.1 = some (ty k)) ∧ (∀ a, a < N → ∀ b, b < N → a ≠ b → (T a).2.1 ≠ (T b).2.1)
/-- pool entry index of class own names slot k of class ci -/
def tFf (own : String) (index ci k : Nat) : Prop := ∃ (C : String) (T : u_T) (N : Nat) (ty : Nat → FieldType), tFc ci C T N ty ∧ k < N ∧ Cond.fieldLink own index (T k).1 (T k).2.1 (T k).2.2.1 ∈ tWS
def tFp (own : String) (index ci k : Nat) (t : FieldType) : Prop := ∃ (C : String) (T : u_T) (N : Nat) (ty : Nat → FieldType), tFc ci C T N ty ∧ k < N ∧ Cond.fieldLink own index (T k).1 (T k).2.1 (T k).2.2.1 ∈ tWS ∧ (T k).2.2.2 = false ∧ ty k = t
/-- what holds at a method's entry and all along: machine, code, words, classes -/
def tE (G : tG) (p : Program) (s : State) (m : MethodId) (c : Code) (args : Array Value) (own : String) (cc : ByteArray) (nL : Nat) : Prop :=
  p.tables.exec = Jvm.exec ∧ c.code = cc ∧ c.maxLocals = nL ∧ s.vm.findClass own = some m.cls ∧ (∀ w ∈ tWS, w.before args s = true) ∧ va_K G.1 vwCl (tTy G) s
section TY
variable {p : Program} {l : Launch} {e : Env} {R : Room} {s : State} {m : MethodId} {args : Array Value} {below : List Frame} {meth : Method} {c : Code} {H : Heap} {locs : List Loc} {cells slots : Nat} {Q : State → Prop}
variable {cc : ByteArray} {pc : Nat} {ls : Array Slot} {rest : List Value} {a : Nat} {H0 : Heap} {G : tG} {own : String} {nL : Nat} {Γ : Nat → Option tSH} {P : Nat → Value → Prop}
theorem tg_get (E : tE G p s m c args own cc nL) (hT : TH G Γ H) {ci k index : Nat} (ha : Γ a = some (.inl ci, P)) (hF : tFf own index ci k) (hdg : decode cc pc = .ok (.getfield index, 3))
    (kk : ∀ v, P k v → W p l e R s m args below meth c H locs cells slots Q (F0 m (pc + 3) ls (v :: rest))) : W p l e R s m args below meth c H locs cells slots Q (F0 m pc ls (.ref a :: rest)) := by
  obtain ⟨hx, hb, hml, hown, hts, hK⟩ := E
  obtain ⟨C, T, N, ty, ⟨hc, hin, hty, hnm⟩, hk, hl⟩ := hF
  obtain ⟨r, V, h1, ⟨cell, q1, q2, q3, q4⟩, h3⟩ := hT a _ ha
  have hr : r = (C, T, N) := Option.some.inj (h1.symm.trans hc)
  subst hr
  obtain ⟨hS, hfc, kC, hkC, hkind⟩ := hK.1 ci _ hc
  obtain ⟨cf, kf, fi, f, hi, hsl⟩ := hS k hk
  refine W.getf hx hb hown (hts _ hl) hi (u_facts hfc hkC (u_lays hts hin hk) hi).1 q1 (by rw [q3]; exact fun h => by cases h) (v := V k) ?_ rfl rfl hdg (kk (V k) (h3 k hk))
  rw [hsl, q4 k hk]
theorem tg_put (E : tE G p s m c args own cc nL) (hT : TH G Γ H) {ci k index : Nat} {t : FieldType} (ha : Γ a = some (.inl ci, P)) (hF : tFp own index ci k t) {v : Value} (hn : narrow t v = v) (hfit : fits t v = true) (hdg : decode cc pc = .ok (.putfield index, 3))
    (kk : ∀ (H1 : Heap) (i : Nat), H1.size = H.size → (∀ q : Nat, q ≠ a → H1[q]? = H[q]?) → (∀ P1 : Nat → Value → Prop, P1 k v → (∀ j w, j ≠ k → P j w → P1 j w) → tAt G (.inl ci, P1) a H1) → W p l e R s m args below meth c H1 (locs ++ [⟨a, i⟩]) cells slots Q (F0 m (pc + 3) ls rest)) : W p l e R s m args below meth c H locs cells slots Q (F0 m pc ls (v :: .ref a :: rest)) := by
  obtain ⟨hx, hb, hml, hown, hts, hK⟩ := E
  obtain ⟨C, T, N, ty, ⟨hc, hin, hty, hnm⟩, hk, hl, hfin, htk⟩ := hF
  subst htk
  have hap := va_apart (own := own) hts hin ty hty hnm hK hc
  obtain ⟨r, V, h1, ⟨cell, q1, q2, q3, q4⟩, h3⟩ := hT a _ ha
  have hr : r = (C, T, N) := Option.some.inj (h1.symm.trans hc)
  subst hr
  obtain ⟨hS, hfc, kC, hkC, hkind⟩ := hK.1 ci _ hc
  obtain ⟨cf, kf, fi, f, hi, hsl⟩ := hS k hk
  have hlay := hts _ (hin _ (u_in_lay hk))
  unfold u_lay at hlay
  rw [if_neg (by rw [hfin]; decide)] at hlay
  have hst := (u_facts hfc hkC (u_lays hts hin hk) hi).1
  have h6 := u_store hfc hkC hkind hlay hi (hty k hk) hn hfit
  refine W.putK hx hb (f := f) ⟨hown, hts _ hl, ⟨_, _, _, hi⟩, hst⟩ (by rw [q2]; exact h6) q1 q3 (by rw [hsl]; exact k2_hasslot (q4 k hk)) rfl rfl hdg fun H' e1 e2 e3 => ?_
  rw [hsl] at e1 ⊢
  refine kk H' _ e2 e3 (fun P1 g1 g2 => ⟨_, updV V k v, hc, ⟨_, e1, q2, q3, t_set q4 hap hk v⟩, fun j hj => ?_⟩)
  by_cases ej : j = k
  · subst ej
    simpa [updV] using g1
  · have := g2 j (V j) ej (h3 j hj)
    simpa [updV, ej] using this
end TY
