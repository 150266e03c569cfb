def tQpv : Array Value → State → Outcome → State → Prop := fun _ st oc t => oc = .returned none ∧ t.heap = st.heap
theorem tsv_any {G : tG} {a : Nat} {τ τ' : Nat → Nat} {k : Nat} {v : Value} (h : tsv τ (tFD 11 k) v ∧ tKn G 11 a k v) : tsv τ' (tFD 11 k) v ∧ tKn G 11 a k v := by
  obtain ⟨⟨x, h1, h2, h3⟩, h4⟩ := h
  exact ⟨⟨x, h1, h2, h3⟩, h4⟩
section TPV
variable {p : Program} {l : Launch} {e : Env} {R : Room} {s : State} {m : MethodId} {args : Array Value} {below : List Frame} {meth : Method} {c : Code} {H : Heap} {locs : List Loc} {Q : State → Prop}
variable {cc : ByteArray} {pc : Nat} {ls : Array Slot} {rest st0 As : List Value} {a b t k index n : Nat} {G : tG} {own : String} {nL : Nat} {τ : Nat → Nat} {cells slots : Nat}
theorem tc_pvret (E : tE G p s m c args own cc nL) (hr : meth.sig.returnType = none) (hlk : meth.locks = false) (eH : H = s.heap) (eL : locs = []) (hdg : decode cc pc = .ok (.return_, 1)) : W p l e R s m args below meth c H locs 0 0 (MQ below tQpv args s 0 0 tNo) (F0 m pc ls []) :=
  W.vret E.1 E.2.1 hr (fun t ht _ => ⟨rfl, ht.trans eH⟩) (by subst eL; intro q h; cases h) hdg hlk
theorem tc_callpv {av : Array Value} (hr : va_Run p l e R s m args below meth c H locs cells slots 0 0 (F0 m pc ls st0) rest (tQpv av) tNo)
    (kk : W p l e R s m args below meth c H locs cells slots Q (F0 m (pc + 3) ls rest)) : W p l e R s m args below meth c H locs cells slots Q (F0 m pc ls st0) := by
  intro T hT X
  obtain ⟨v, st₀, t, T', L, h0, X', hL, e1, e2, ⟨hv, hh⟩, st⟩ := hr T hT X
  cases hv
  have hL0 : L = [] := by
    cases L with
    | nil => rfl
    | cons q L => exact absurd (hL q List.mem_cons_self) id
  subst hL0
  rw [List.append_nil] at X'
  obtain ⟨t2, a1, b1⟩ := kk T' (by rw [e1, hh, h0]) X'
  exact ⟨t2, st t2 a1, b1⟩
/-- Arrays.fill of a row of numbers: nothing else changes -/
theorem tc_fill {x : Int32} (E : tE G p s m c args own cc nL) (hSt : tSt G (tA τ) s) (hG : tGH G τ s H locs) (ha : τ a = 11) (hl : Cond.methodLink own index yJ7_fill_53178 ∈ tWS) (hR : 2 ≤ R.frames ∧ 60 ≤ R.locals) (hsz : ls.size = nL) (hW : (rest.map fun v => v.category).sum ≤ 8) (hcs : cells ≤ R.cells ∧ slots ≤ R.slots) (hdg : decode cc pc = .ok (.invokestatic index, 3))
    (kk : ∀ (H1 : Heap) (locs1 : List Loc), tGH G τ s H1 locs1 → (∀ (b ci k : Nat) (v : Value), b ≠ a → tSl G H b ci k v → tSl G H1 b ci k v) → W p l e R s m args below meth c H1 locs1 cells slots Q (F0 m (pc + 3) ls rest)) : W p l e R s m args below meth c H locs cells slots Q (F0 m pc ls (.int x :: .ref a :: rest)) := by
  obtain ⟨hx, hbb, hml, hown, hts, hK⟩ := id E
  have hτ : ∀ q, tA (fun q => if q = a then 11 else 0) q → q = a := by
    intro q h
    by_cases e : q = a
    · exact e
    · exact absurd (if_neg e) h
  have hτ2 : ∀ q, tA (fun q => if q = a then 11 else 0) q → tA τ q := fun q h => by
    rw [hτ q h]
    show τ a ≠ 0
    rw [ha]; decide
  have hΓ := tΓ_at (G := G) ha (by decide : (11 : Nat) ≠ 0)
  have hT1 : TH G (tΓ G (fun q => if q = a then 11 else 0)) H := by
    intro q sh hq
    have e : q = a := hτ q (tΓ_no (τ := fun z => if z = a then 11 else 0) (a := q) (by rw [hq]; exact fun z => by cases z))
    subst e
    have e2 := tΓ_at (G := G) (τ := fun z => if z = q then 11 else 0) (a := q) (t := 11) (if_pos rfl) (by decide)
    cases e2.symm.trans hq
    obtain ⟨V, h1, h2⟩ := hG.1 q _ hΓ
    exact ⟨V, h1, fun i hi => tsv_any (h2 i hi)⟩
  have hM := c_J7_fill_53178 l G (fun q => if q = a then 11 else 0) a x (if_pos rfl)
  refine va_callv (va_runS (As := [.ref a, .int x]) (rest := rest) ⟨hx, hbb, hml, hown, hts⟩ hM ⟨tc_callB E ks_J7_fill_53178.1 hl ⟨rfl, rfl, Nat.le_trans (by decide) hR.1, Nat.le_trans (by decide) hR.2⟩, hts _ ks_J7_fill_53178.2⟩ ⟨tPre.blind, fun U hU hWm => ⟨rfl, by rw [hU]; exact hT1, va_K.moved hWm.alike hK, (hSt.move hWm (fun a h1 h2 => by rw [hU]; exact hG.2.2.1 a h1 h2)).narrow hτ2⟩⟩ rfl rfl hsz rfl (lv_room hW) hdg hcs) hG.2 (fun q _ h => hτ2 q h) hτ2 (fun u t H1 locs1 ht _ _ hB hz1 hk1 hS => ?_)
  have hB : TH G (tΓ G (fun q => if q = a then 11 else 0)) H1 := ht ▸ hB
  have oq : ∀ q : Nat, q < H.size → q ≠ a → H1[q]? = H[q]? := fun q h1 h2 => hk1 q h1 (fun z => h2 (hτ q z))
  refine kk H1 locs1 ⟨fun q sh hq => ?_, hS⟩ (fun b ci k v hb hs => ?_)
  · by_cases e : q = a
    · subst e
      rw [hΓ] at hq
      cases hq
      obtain ⟨V, h1, h2⟩ := hB q _ (tΓ_at (τ := fun z => if z = q then 11 else 0) (a := q) (t := 11) (if_pos rfl) (by decide))
      exact ⟨V, h1, fun i hi => tsv_any (h2 i hi)⟩
    · have h0 := hG.1 q sh hq
      have hlt : q < H.size := by
        obtain ⟨kk, P⟩ := sh
        cases kk with
        | inl ci =>
          obtain ⟨r, V, h1, ⟨cell, h2, -⟩, h3⟩ := h0
          exact (Array.getElem?_eq_some_iff.mp h2).1
        | inr z =>
          obtain ⟨V, h1, h2⟩ := h0
          exact (Array.getElem?_eq_some_iff.mp h1).1
      exact h0.kept (oq q hlt e)
  · obtain ⟨cell, h1, h2⟩ := hs
    exact ⟨cell, (oq b (Array.getElem?_eq_some_iff.mp h1).1 hb).trans h1, h2⟩
end TPV
