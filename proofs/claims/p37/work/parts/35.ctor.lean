/-! ===== constructors: an object whose fields are known one by one, among typed cells ===== -/
/-- the tables know the class of int[][] -/
def tAOA (U : State) : Prop := (Cond.arrayOver (.array .int)).before #[] U = true
theorem tAOA.moved {u U : State} (hvm : u.vm.Alike U.vm) (h : tAOA u) : tAOA U := by
  obtain ⟨comp, c, k, h1, h2, h3, h4, h5⟩ := arrayOverA_spec h
  obtain ⟨k', hk', he⟩ := hvm.2.2 _ _ h3
  have hi : (U.vm.classes.findIdx? fun (x : Class) => match x.kind with | .array component _ => component == comp | _ => false) = some c := by
    have e1 := va_idx_bare U.vm comp
    have e2 := va_idx_bare u.vm comp
    have hb : U.vm.bare = u.vm.bare := by first | exact hvm.bare_eq | exact hvm.bare_eq.symm
    rw [hb] at e1
    exact e1.symm.trans (e2.trans h2)
  have hkind : k'.kind = .array comp (.array .int) := by rw [he]; exact h4
  have f1 : U.vm.findClass (FieldType.array .int).toString = some comp := by rw [hvm.findClass]; exact h1
  have f2 : U.vm.findClass ("[" ++ (FieldType.array .int).toString) = some c := by rw [hvm.findClass]; exact h5
  unfold tAOA Cond.before Cond.holds
  simp only [Cond.value]
  rw [f1, Option.bind_some]
  refine (congrArg (fun o : Option Nat => (o.bind (fun c => (U.vm.classes[c]?).map fun (k : Class) => match k.kind with | .array _ ty => decide (ty = FieldType.array .int) && decide (U.vm.findClass ("[" ++ (FieldType.array .int).toString) = some c) | _ => false) == some true)) hi).trans ?_
  simp [hk', hkind, f2]
def tNs (U : State) : Prop := (∀ q ∈ tNst, va_Nw (.methodLinkNest q.1 q.2.1 q.2.2 "LaidOutBoxes") U) ∧ va_AO "LaidOutBoxes$Box" U ∧ va_AO "LaidOutBoxes$Tape" U ∧ tAOA U
def tOb (G : tG) (H : Heap) (a ci : Nat) (fs : List Value) : Prop := ∃ r : vw_C, vwCl[ci]? = some r ∧ t_OB a (G.1.1 ci) r.2.2 (G.1.2 ci) H (vp_V fs) ∧ fs.length = r.2.2
def tCA (h sz : Nat) : Nat → Prop := fun q => q = h ∨ sz ≤ q
def tUp (τ : Nat → Nat) (q t : Nat) : Nat → Nat := fun x => if x = q then t else τ x
def tExt (G : tG) (τ0 τ : Nat → Nat) (h sz : Nat) : Prop := (∀ q, τ0 q ≠ 0 → τ q = τ0 q) ∧ (∀ q, q ≠ h → q < sz → τ0 q = 0 → τ q = 0) ∧ ∀ q, τ0 q = 0 → τ q ≠ 28 ∧ τ q ≠ 29 ∧ (τ q = 7 → q = G.2.2.1 14)
def tCG (G : tG) (τ0 τ : Nat → Nat) (s : State) (h ci : Nat) (fs : List Value) (H : Heap) (locs : List Loc) : Prop :=
  TH G (tΓ G τ) H ∧ (∀ q, τ q ≠ 0 → q < H.size) ∧ τ h = 0 ∧ tOb G H h ci fs ∧ va_S (tCA h s.heap.size) s.heap H locs ∧ h < s.heap.size ∧ tExt G τ0 τ h s.heap.size
theorem tOb.kept {G : tG} {H H1 : Heap} {a ci : Nat} {fs : List Value} (h : tOb G H a ci fs) (hq : H1[a]? = H[a]?) : tOb G H1 a ci fs := by
  obtain ⟨r, h1, h2, h3⟩ := h
  exact ⟨r, h1, h2.kept hq, h3⟩
theorem tOb.lt {G : tG} {H : Heap} {a ci : Nat} {fs : List Value} (h : tOb G H a ci fs) : a < H.size := by
  obtain ⟨r, h1, ⟨cell, h2, -⟩, h3⟩ := h
  exact (Array.getElem?_eq_some_iff.mp h2).1
theorem tRefs_nz : ∀ t, ∀ c ∈ tRefs t, c ≠ 0 := by
  intro t c hc
  unfold tRefs at hc
  split at hc <;> (revert c; decide)
/-- more cells are typed -/
theorem TH.ext {G : tG} {τ τ' : Nat → Nat} {H H1 : Heap} (h : TH G (tΓ G τ) H) (hH : ∀ q, τ q ≠ 0 → H1[q]? = H[q]?) (hτ : ∀ q, τ q ≠ 0 → τ' q = τ q) (hn : ∀ q, τ q = 0 → τ' q ≠ 0 → tAt G (tShp (τ' q), fun k v => tsv τ' (tFD (τ' q) k) v ∧ tKn G (τ' q) q k v) q H1) : TH G (tΓ G τ') H1 := by
  refine TH.mk (fun q hq => ?_)
  by_cases e : τ q = 0
  · exact hn q e hq
  · rw [hτ q e]
    exact ((h.at e).kept (hH q e)).to (fun j v hv => tsv_to hv (fun c hc b hb => by rw [hτ b (by rw [hb]; exact tRefs_nz _ c hc)]; exact hb))
theorem tUp_at {τ : Nat → Nat} {q t : Nat} : tUp τ q t q = t := if_pos rfl
theorem tUp_ne {τ : Nat → Nat} {q t x : Nat} (h : x ≠ q) : tUp τ q t x = τ x := if_neg h
theorem tExt.up {G : tG} {τ0 τ : Nat → Nat} {h sz q t : Nat} (hx : tExt G τ0 τ h sz) (hq : sz ≤ q) (h0 : τ q = 0) (h1 : t ≠ 28) (h2 : t ≠ 29 ∧ (t = 7 → q = G.2.2.1 14)) : tExt G τ0 (tUp τ q t) h sz := by
  refine ⟨fun x hx0 => ?_, fun x e1 e2 e3 => ?_, fun x e3 => ?_⟩
  · have e : x ≠ q := fun z => by have := hx.1 x hx0; rw [z] at this hx0; rw [h0] at this; exact hx0 this.symm
    rw [tUp_ne e]
    exact hx.1 x hx0
  · rw [tUp_ne (by omega)]
    exact hx.2.1 x e1 e2 e3
  · by_cases e : x = q
    · rw [e, tUp_at]; exact ⟨h1, h2.1, h2.2⟩
    · rw [tUp_ne e]; exact hx.2.2 x e3
def tCP (G : tG) (τ : Nat → Nat) (h sz ci : Nat) (fs : List Value) (U : State) : Prop := U.heap.size = sz ∧ h < sz ∧ TH G (tΓ G τ) U.heap ∧ (∀ q, τ q ≠ 0 → q < sz) ∧ τ h = 0 ∧ tOb G U.heap h ci fs ∧ va_K G.1 vwCl (tTy G) U ∧ tNs U
abbrev tCQ (G : tG) (τ : Nat → Nat) (h sz t nn : Nat) : Array Value → State → Outcome → State → Prop := va_Qv (S := Nat → Nat) (fun τ' => τ' h = t ∧ tExt G τ τ' h sz) (fun τ' u => TH G (tΓ G τ') u.heap ∧ (∀ q, τ' q ≠ 0 → q < u.heap.size) ∧ u.heap.size = sz + nn) (tCA h sz)
def tFz (own : String) (index ci k : Nat) (t : FieldType) : Prop := ∃ (C : String) (T : u_T) (N : Nat) (ty : Nat → FieldType), tFc ci C T N ty ∧ k < N ∧ Cond.fieldLink own index (T k).1 (T k).2.1 (T k).2.2.1 ∈ tWS ∧ (T k).2.2.2 = true ∧ ty k = t ∧ (T k).1 = own
theorem tNs.same {u U : State} (h : tNs u) (hv : U.vm = u.vm) : tNs U :=
  have ha : u.vm.Alike U.vm := by rw [hv]; exact Vm.Alike.refl _
  ⟨fun q hq => va_Nw.same rfl hv.symm (h.1 q hq), h.2.1.moved ha, h.2.2.1.moved ha, h.2.2.2.moved ha⟩
theorem tNs.warm {s U : State} (hW : s.WarmedH U.vm) (h : tNs s) : tNs U := ⟨fun q hq => va_Nw.warmM hW (h.1 q hq), h.2.1.moved hW.alike, h.2.2.1.moved hW.alike, h.2.2.2.moved hW.alike⟩
theorem tCP.blind {G : tG} {τ : Nat → Nat} {av : List Value} {h sz ci : Nat} {fs : List Value} : FrameBlind (va_Pc av (tCP G τ h sz ci fs)) := fun a U g mk q => by
  obtain ⟨q0, q1, q2, q3, q4, q5, q6, q7, q8⟩ := q
  exact ⟨q0, q1, q2, q3, q4, q5, q6, va_K.moved (u := U) (U := U.calling g mk a) (Vm.Alike.refl U.vm) q7, q8.same rfl⟩

theorem tKn_z {G : tG} {t a k : Nat} (hq : tMq t = false) (h : FF G a k = 0) : tKn G t a k (.int 0) := ⟨fun _ => by rw [h], fun d z => (by rw [tMr_q hq] at z; cases z), fun z => (by rw [tMf_q hq] at z; cases z)⟩
theorem tKn_i {G : tG} {t a k : Nat} {v : Value} (hr : tMr t k = none) (hf : tMf t k = false) (e : v = .int (FF G a k)) : tKn G t a k v := ⟨fun _ => e, fun d z => (by rw [hr] at z; cases z), fun z => (by rw [hf] at z; cases z)⟩
theorem tKn_r {G : tG} {t a k d : Nat} {v : Value} (hm : tMk t k = false) (hf : tMf t k = false) (hr : tMr t k = some d) (e : v = .ref (a + d)) : tKn G t a k v := ⟨fun z => (by rw [hm] at z; cases z), fun d9 z => (by rw [hr] at z; cases z; exact e), fun z => (by rw [hf] at z; cases z)⟩
theorem tKn_f {G : tG} {t a k : Nat} {v : Value} (hm : tMk t k = false) (hr : tMr t k = none) (e : v = .ref (G.2.2.1 (10 + k))) : tKn G t a k v := ⟨fun z => (by rw [hm] at z; cases z), fun d z => (by rw [hr] at z; cases z), fun _ _ _ => e⟩
theorem tKn_l {G : tG} {a : Nat} {v : Value} (h9 : ¬ G.2.2.1 9 = 1) : tKn G 7 a 6 v := ⟨fun z => absurd z (by decide), fun d z => (by simp [tMr] at z), fun _ _ z => absurd (z rfl) h9⟩
