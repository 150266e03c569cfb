/-! ===== arrays of a typed heap ===== -/
section TYA
variable {p : Program} {l : Launch} {e : Env} {R : Room} {s : State} {m : MethodId} {args : Array Value} {below : List Frame} {meth : Method} {c : Code} {H : Heap} {locs : List Loc} {cells slots : Nat} {Q : State → Prop}
variable {cc : ByteArray} {pc : Nat} {ls : Array Slot} {rest : List Value} {a n : Nat} {i : Int32} {G : tG} {own : String} {nL : Nat} {Γ : Nat → Option tSH} {P : Nat → Value → Prop}
theorem t_inA {cA : ClassId} {V : Nat → Value} (h : vp_in i n) : ¬ (i < 0 ∨ (arrV cA n V).slots.size ≤ i.toNatClampNeg) := by rw [arrV_size]; exact h
theorem t_inL (h : vp_in i n) : i.toNatClampNeg < n := Nat.not_le.mp fun q => h (Or.inr q)
theorem t_arrSet {cA : ClassId} {V : Nat → Value} {H1 : Heap} {k ak : Nat} {v : Value} (hcA : cA = G.2.1 ak) (e : H1[a]? = some ((arrV cA n V).setSlot k v)) (h : ∀ j, j < n → P j (V j)) (P1 : Nat → Value → Prop) (h1 : P1 k v) (h2 : ∀ j w, j ≠ k → P j w → P1 j w) : tAt G (.inr (ak, n), P1) a H1 := by
  subst hcA
  refine ⟨updV V k v, by rw [e, arrV_store], fun j hj => ?_⟩
  by_cases ej : j = k
  · subst ej
    simpa [updV] using h1
  · have := h2 j (V j) ej (h j hj)
    simpa [updV, ej] using this
theorem tg_iald (E : tE G p s m c args own cc nL) (hT : TH G Γ H) (ha : Γ a = some (.inr (0, n), P)) (hin : vp_in i n) (hdg : decode cc pc = .ok (.iaload, 1))
    (kk : ∀ v, P i.toNatClampNeg v → W p l e R s m args below meth c H locs cells slots Q (F0 m (pc + 1) ls (v :: rest))) : W p l e R s m args below meth c H locs cells slots Q (F0 m pc ls (.int i :: .ref a :: rest)) := by
  obtain ⟨hx, hb, hml, hown, hts, hK⟩ := E
  obtain ⟨V, h1, h2⟩ := hT a _ ha
  exact W.iald (v := V i.toNatClampNeg) hx hb h1 ((hK.2 0 (G.2.1 0, .int) rfl).1 n V) (fun q => by cases q) (t_inA hin) (arrV_read _ _ (t_inL hin)) rfl rfl hdg (kk _ (h2 _ (t_inL hin)))
theorem tg_cald (E : tE G p s m c args own cc nL) (hT : TH G Γ H) (ha : Γ a = some (.inr (1, n), P)) (hin : vp_in i n) (hdg : decode cc pc = .ok (.caload, 1))
    (kk : ∀ v, P i.toNatClampNeg v → W p l e R s m args below meth c H locs cells slots Q (F0 m (pc + 1) ls (v :: rest))) : W p l e R s m args below meth c H locs cells slots Q (F0 m pc ls (.int i :: .ref a :: rest)) := by
  obtain ⟨hx, hb, hml, hown, hts, hK⟩ := E
  obtain ⟨V, h1, h2⟩ := hT a _ ha
  exact W.cald (v := V i.toNatClampNeg) hx hb h1 ((hK.2 1 (G.2.1 1, .char) rfl).1 n V) (fun q => by cases q) (t_inA hin) (arrV_read _ _ (t_inL hin)) rfl rfl hdg (kk _ (h2 _ (t_inL hin)))
theorem tg_lald (E : tE G p s m c args own cc nL) (hT : TH G Γ H) (ha : Γ a = some (.inr (2, n), P)) (hin : vp_in i n) (hdg : decode cc pc = .ok (.laload, 1))
    (kk : ∀ v, P i.toNatClampNeg v → W p l e R s m args below meth c H locs cells slots Q (F0 m (pc + 1) ls (v :: rest))) : W p l e R s m args below meth c H locs cells slots Q (F0 m pc ls (.int i :: .ref a :: rest)) := by
  obtain ⟨hx, hb, hml, hown, hts, hK⟩ := E
  obtain ⟨V, h1, h2⟩ := hT a _ ha
  exact W.lald (v := V i.toNatClampNeg) hx hb h1 ((hK.2 2 (G.2.1 2, .long) rfl).1 n V) (fun q => by cases q) (t_inA hin) (arrV_read _ _ (t_inL hin)) rfl rfl hdg (kk _ (h2 _ (t_inL hin)))
theorem tg_aald3 (E : tE G p s m c args own cc nL) (hT : TH G Γ H) (ha : Γ a = some (.inr (3, n), P)) (hin : vp_in i n) (hdg : decode cc pc = .ok (.aaload, 1))
    (kk : ∀ v, P i.toNatClampNeg v → W p l e R s m args below meth c H locs cells slots Q (F0 m (pc + 1) ls (v :: rest))) : W p l e R s m args below meth c H locs cells slots Q (F0 m pc ls (.int i :: .ref a :: rest)) := by
  obtain ⟨hx, hb, hml, hown, hts, hK⟩ := E
  obtain ⟨V, h1, h2⟩ := hT a _ ha
  exact W.aald (v := V i.toNatClampNeg) (ty := .object "LaidOutBoxes$Box") hx hb h1 ((hK.2 3 (G.2.1 3, .object "LaidOutBoxes$Box") rfl).1 n V) rfl (fun q => by cases q) (t_inA hin) (arrV_read _ _ (t_inL hin)) rfl rfl hdg (kk _ (h2 _ (t_inL hin)))
theorem tg_aald4 (E : tE G p s m c args own cc nL) (hT : TH G Γ H) (ha : Γ a = some (.inr (4, n), P)) (hin : vp_in i n) (hdg : decode cc pc = .ok (.aaload, 1))
    (kk : ∀ v, P i.toNatClampNeg v → W p l e R s m args below meth c H locs cells slots Q (F0 m (pc + 1) ls (v :: rest))) : W p l e R s m args below meth c H locs cells slots Q (F0 m pc ls (.int i :: .ref a :: rest)) := by
  obtain ⟨hx, hb, hml, hown, hts, hK⟩ := E
  obtain ⟨V, h1, h2⟩ := hT a _ ha
  exact W.aald (v := V i.toNatClampNeg) (ty := .object "LaidOutBoxes$Tape") hx hb h1 ((hK.2 4 (G.2.1 4, .object "LaidOutBoxes$Tape") rfl).1 n V) rfl (fun q => by cases q) (t_inA hin) (arrV_read _ _ (t_inL hin)) rfl rfl hdg (kk _ (h2 _ (t_inL hin)))
theorem tg_aald5 (E : tE G p s m c args own cc nL) (hT : TH G Γ H) (ha : Γ a = some (.inr (5, n), P)) (hin : vp_in i n) (hdg : decode cc pc = .ok (.aaload, 1))
    (kk : ∀ v, P i.toNatClampNeg v → W p l e R s m args below meth c H locs cells slots Q (F0 m (pc + 1) ls (v :: rest))) : W p l e R s m args below meth c H locs cells slots Q (F0 m pc ls (.int i :: .ref a :: rest)) := by
  obtain ⟨hx, hb, hml, hown, hts, hK⟩ := E
  obtain ⟨V, h1, h2⟩ := hT a _ ha
  exact W.aald (v := V i.toNatClampNeg) (ty := .array .int) hx hb h1 ((hK.2 5 (G.2.1 5, .array .int) rfl).1 n V) rfl (fun q => by cases q) (t_inA hin) (arrV_read _ _ (t_inL hin)) rfl rfl hdg (kk _ (h2 _ (t_inL hin)))
theorem tg_iast (E : tE G p s m c args own cc nL) (hT : TH G Γ H) (ha : Γ a = some (.inr (0, n), P)) {x : Int32} (hin : vp_in i n) (hdg : decode cc pc = .ok (.iastore, 1))
    (kk : ∀ H1 : Heap, H1.size = H.size → (∀ q : Nat, q ≠ a → H1[q]? = H[q]?) → (∀ P1 : Nat → Value → Prop, P1 i.toNatClampNeg (.int x) → (∀ j w, j ≠ i.toNatClampNeg → P j w → P1 j w) → tAt G (.inr (0, n), P1) a H1) → W p l e R s m args below meth c H1 (locs ++ [⟨a, i.toNatClampNeg⟩]) cells slots Q (F0 m (pc + 1) ls rest)) : W p l e R s m args below meth c H locs cells slots Q (F0 m pc ls (.int x :: .int i :: .ref a :: rest)) := by
  obtain ⟨hx, hb, hml, hown, hts, hK⟩ := E
  obtain ⟨V, h1, h2⟩ := hT a _ ha
  exact W.iast hx hb h1 ((hK.2 0 (G.2.1 0, .int) rfl).1 n V) (fun q => by cases q) (t_inA hin) rfl rfl hdg fun H1 e z oq => kk H1 z oq (t_arrSet rfl e h2)
theorem tg_cast (E : tE G p s m c args own cc nL) (hT : TH G Γ H) (ha : Γ a = some (.inr (1, n), P)) {x : Int32} (hin : vp_in i n) (hdg : decode cc pc = .ok (.castore, 1))
    (kk : ∀ H1 : Heap, H1.size = H.size → (∀ q : Nat, q ≠ a → H1[q]? = H[q]?) → (∀ P1 : Nat → Value → Prop, P1 i.toNatClampNeg ((narrow .char (.int x))) → (∀ j w, j ≠ i.toNatClampNeg → P j w → P1 j w) → tAt G (.inr (1, n), P1) a H1) → W p l e R s m args below meth c H1 (locs ++ [⟨a, i.toNatClampNeg⟩]) cells slots Q (F0 m (pc + 1) ls rest)) : W p l e R s m args below meth c H locs cells slots Q (F0 m pc ls (.int x :: .int i :: .ref a :: rest)) := by
  obtain ⟨hx, hb, hml, hown, hts, hK⟩ := E
  obtain ⟨V, h1, h2⟩ := hT a _ ha
  exact W.cast hx hb h1 ((hK.2 1 (G.2.1 1, .char) rfl).1 n V) (fun q => by cases q) (t_inA hin) rfl rfl hdg fun H1 e z oq => kk H1 z oq (t_arrSet rfl e h2)
theorem tg_last (E : tE G p s m c args own cc nL) (hT : TH G Γ H) (ha : Γ a = some (.inr (2, n), P)) {x : Int64} (hin : vp_in i n) (hdg : decode cc pc = .ok (.lastore, 1))
    (kk : ∀ H1 : Heap, H1.size = H.size → (∀ q : Nat, q ≠ a → H1[q]? = H[q]?) → (∀ P1 : Nat → Value → Prop, P1 i.toNatClampNeg (.long x) → (∀ j w, j ≠ i.toNatClampNeg → P j w → P1 j w) → tAt G (.inr (2, n), P1) a H1) → W p l e R s m args below meth c H1 (locs ++ [⟨a, i.toNatClampNeg⟩]) cells slots Q (F0 m (pc + 1) ls rest)) : W p l e R s m args below meth c H locs cells slots Q (F0 m pc ls (.long x :: .int i :: .ref a :: rest)) := by
  obtain ⟨hx, hb, hml, hown, hts, hK⟩ := E
  obtain ⟨V, h1, h2⟩ := hT a _ ha
  exact W.last hx hb h1 ((hK.2 2 (G.2.1 2, .long) rfl).1 n V) (fun q => by cases q) (t_inA hin) rfl rfl hdg fun H1 e z oq => kk H1 z oq (t_arrSet rfl e h2)
theorem tg_alen (E : tE G p s m c args own cc nL) (hT : TH G Γ H) {ak : Nat} {ty : FieldType} (ha : Γ a = some (.inr (ak, n), P)) (ht : (tTy G)[ak]? = some (G.2.1 ak, ty)) {v : Int32} (hv : Int32.ofNat n = v) (hdg : decode cc pc = .ok (.arraylength, 1))
    (kk : W p l e R s m args below meth c H locs cells slots Q (F0 m (pc + 1) ls (.int v :: rest))) : W p l e R s m args below meth c H locs cells slots Q (F0 m pc ls (.ref a :: rest)) := by
  obtain ⟨hx, hb, hml, hown, hts, hK⟩ := E
  obtain ⟨V, h1, h2⟩ := hT a _ ha
  subst hv
  exact W.alen (n := Int32.ofNat n) hx hb h1 ((hK.2 ak _ ht).1 n V) (by rw [arrV_size]) rfl rfl hdg kk
end TYA
