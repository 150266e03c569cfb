/-! ===== starts and ends that speak of the heap ===== -/
def tPreH (G : tG) (τ : Nat → Nat) (Φ : Heap → Prop) (U : State) : Prop := tPre G τ U ∧ Φ U.heap
abbrev tQiH (G : tG) (τ : Nat → Nat) (post : Int32 → Heap → Prop) : Array Value → State → Outcome → State → Prop := va_Qi (S := Heap) (fun r u => post r u) (fun u t => TH G (tΓ G τ) u ∧ t.heap = u) (tA τ)
abbrev tQvH (G : tG) (τ : Nat → Nat) (post : Heap → Prop) : Array Value → State → Outcome → State → Prop := va_Qv (S := Heap) (fun u => post u) (fun u t => TH G (tΓ G τ) u ∧ t.heap = u) (tA τ)
def tQpH (post : Int32 → Heap → Prop) : Array Value → State → Outcome → State → Prop := fun _ st oc t => ∃ r : Int32, oc = .returned (some (.int r)) ∧ post r st.heap ∧ t.heap = st.heap
theorem tPreH.blind {G : tG} {τ : Nat → Nat} {Φ : Heap → Prop} {av : List Value} : FrameBlind (va_Pc av (tPreH G τ Φ)) := fun a U g mk q => by
  obtain ⟨q0, ⟨q1, q2, q3⟩, q4⟩ := q
  exact ⟨q0, ⟨q1, va_K.moved (u := U) (U := U.calling g mk a) (Vm.Alike.refl U.vm) q2, q3.same rfl rfl⟩, q4⟩
theorem tSl.uniq {G : tG} {H : Heap} {a ci k : Nat} {v w : Value} (h : tSl G H a ci k v) (h2 : tSl G H a ci k w) : v = w := by
  obtain ⟨c1, a1, a2, a3⟩ := h
  obtain ⟨c2, b1, b2, b3⟩ := h2
  cases a1.symm.trans b1
  exact Option.some.inj (a3.symm.trans b3)
theorem tSl.uniqI {G : tG} {H : Heap} {a ci k : Nat} {x y : Int32} (h : tSl G H a ci k (.int x)) (h2 : tSl G H a ci k (.int y)) : x = y := by
  have := h.uniq h2
  cases this
  rfl
section THH
variable {p : Program} {l : Launch} {e : Env} {R : Room} {s : State} {m : MethodId} {args : Array Value} {below : List Frame} {meth : Method} {c : Code} {H : Heap} {locs : List Loc} {Q : State → Prop}
variable {cc : ByteArray} {pc : Nat} {ls : Array Slot} {rest st0 As : List Value} {a b t k index n : Nat} {G : tG} {own : String} {nL : Nat} {τ : Nat → Nat} {lo hi : Int} {y : MethodName} {bytes : ByteArray} {maxL : Nat} {ret : Option FieldType} {rm : Room} {Qc : Array Value → State → Outcome → State → Prop} {cells slots : Nat} {fr : Addr → Prop} {Φ : Heap → Prop}
theorem tc_metH {av : List Value} (hy : plainName y.cls = true) (hsl : (lg_sl av).length ≤ maxL)
    (body : ∀ p e s m below meth c, tE G p s m c av.toArray y.cls bytes maxL → tSt G (tA τ) s → meth.sig.returnType = ret → meth.locks = false → tGH G τ s s.heap [] → Φ s.heap → ∀ ls, lv_has ls maxL (lv_args 0 av) → W p l e rm s m av.toArray below meth c s.heap [] 0 0 (MQ below Qc av.toArray s 0 0 fr) (F0 m 0 ls [])) :
    Met l y (.code y bytes maxL ret :: tWS) rm (va_Pc av (tPreH G τ Φ)) Qc 0 0 fr := by
  refine Met.ofW (cc := bytes) (maxL := maxL) (ret := ret) hy rfl ?_
  intro p e s m args below meth c s₁ B hml hv
  obtain ⟨rfl, ⟨hT, hK, hSt⟩, hΦ⟩ := hv
  have hl := lv_entry av (n := maxL) hsl
  rw [lg_entry_eq]
  exact body p e s m below meth c ⟨B.exec, B.bytes, hml, findClass_of_methodNamed B.named, fun w h => atoms_spec (ws := Cond.code y bytes maxL ret :: tWS) B.pre w (List.mem_cons_of_mem _ h), hK⟩ hSt B.returns B.notSynchronized ⟨hT, va_S.rf⟩ hΦ _ hl
theorem tc_runVH (E : tE G p s m c args own cc nL) (hSt : tSt G (tA τ) s) (hG : tGH G τ s H locs) (hM : Met l y (.code y bytes maxL ret :: tWS) rm (va_Pc (.ref b :: As) (tPreH G τ Φ)) Qc 0 0 fr) (hΦ : Φ H) (hb : τ b = t) (hv : tRv t y.cls) (hc : tCv y bytes maxL ret n) (hl : Cond.methodLink own index y ∈ tWS) (hR : rm.cells = 0 ∧ rm.slots = 0 ∧ rm.frames + 1 ≤ R.frames ∧ 8 + (maxL + 11) + rm.locals ≤ R.locals) (hn : As.length = n) (hsz : ls.size = nL) (hst : st0 = As.reverse ++ .ref b :: rest) (hW : (rest.map fun v => v.category).sum ≤ 8) (hcs : cells ≤ R.cells ∧ slots ≤ R.slots) (hdg : decode cc pc = .ok (.invokevirtual index, 3)) :
    va_Run p l e R s m args below meth c H locs cells slots 0 0 (F0 m pc ls st0) rest (Qc (Value.ref b :: As).toArray) fr := by
  obtain ⟨hx, hbb, hml, hown, hts, hK⟩ := id E
  exact va_runV (C := y.cls) ⟨hx, hbb, hml, hown, hts⟩ hM ⟨tc_callB E hc.1 hl hR, hts _ hc.2.1, hts _ hc.2.2⟩ ⟨tPreH.blind, tc_recv hK hG hb hv, fun U hU hWm => ⟨rfl, tPre.of hG hK hSt hU hWm, by rw [hU]; exact hΦ⟩⟩ rfl hn hsz hst (lv_room hW) hdg hcs
theorem tc_calliH {post : Int32 → Heap → Prop} {av : Array Value} (hG : tGH G τ s H locs) (hr : va_Run p l e R s m args below meth c H locs cells slots 0 0 (F0 m pc ls st0) rest (tQiH G τ post av) (tA τ))
    (kk : ∀ (r : Int32) (H1 : Heap) (locs1 : List Loc), post r H1 → tGH G τ s H1 locs1 → W p l e R s m args below meth c H1 locs1 cells slots Q (F0 m (pc + 3) ls (.int r :: rest))) : W p l e R s m args below meth c H locs cells slots Q (F0 m pc ls st0) :=
  va_calli hr hG.2 (fun _ _ h => h) (fun _ h => h) (fun r u t H1 locs1 ht _ hp hB _ _ hS => by
    have e1 : u = H1 := hB.2.symm.trans ht
    subst e1
    exact kk r u locs1 hp ⟨hB.1, hS⟩)
theorem tc_callvH {post : Heap → Prop} {av : Array Value} (hG : tGH G τ s H locs) (hr : va_Run p l e R s m args below meth c H locs cells slots 0 0 (F0 m pc ls st0) rest (tQvH G τ post av) (tA τ))
    (kk : ∀ (H1 : Heap) (locs1 : List Loc), post H1 → tGH G τ s H1 locs1 → W p l e R s m args below meth c H1 locs1 cells slots Q (F0 m (pc + 3) ls rest)) : W p l e R s m args below meth c H locs cells slots Q (F0 m pc ls st0) :=
  va_callv hr hG.2 (fun _ _ h => h) (fun _ h => h) (fun u t H1 locs1 ht _ hp hB _ _ hS => by
    have e1 : u = H1 := hB.2.symm.trans ht
    subst e1
    exact kk u locs1 hp ⟨hB.1, hS⟩)
theorem tc_callpH {post : Int32 → Heap → Prop} {av : Array Value} (hr : va_Run p l e R s m args below meth c H locs cells slots 0 0 (F0 m pc ls st0) rest (tQpH post av) tNo)
    (kk : ∀ r : Int32, post r H → W p l e R s m args below meth c H locs cells slots Q (F0 m (pc + 3) ls (.int r :: rest))) : W p l e R s m args below meth c H locs cells slots Q (F0 m pc ls st0) := by
  intro T hT X
  obtain ⟨v, st₀, t, T', L, h0, X', hL, e1, e2, ⟨r, hv, hp, hh⟩, st⟩ := hr T hT X
  cases hv
  have hL0 : L = [] := by
    cases L with
    | nil => rfl
    | cons q L => exact absurd (hL q List.mem_cons_self) id
  subst hL0
  rw [List.append_nil] at X'
  rw [h0] at hp
  obtain ⟨t2, a1, b1⟩ := kk r hp T' (by rw [e1, hh, h0]) X'
  exact ⟨t2, st t2 a1, b1⟩
theorem tc_retH {ty : FieldType} (E : tE G p s m c args own cc nL) (hr : meth.sig.returnType = some ty) (hlk : meth.locks = false) (hG : tGH G τ s H locs) {post : Int32 → Heap → Prop} {v : Int32} (hn : narrow ty (.int v) = .int v) (hq : post v H) (hdg : decode cc pc = .ok (.ireturn, 1)) : W p l e R s m args below meth c H locs 0 0 (MQ below (tQiH G τ post) args s 0 0 (tA τ)) (F0 m pc ls [.int v]) :=
  W.zret E.1 E.2.1 hr hn (fun t ht _ => ⟨⟨v, H, rfl, hq, hG.1, ht⟩, hG.2.F ht⟩) hG.2.2.2 hdg hlk
theorem tc_vretH (E : tE G p s m c args own cc nL) (hr : meth.sig.returnType = none) (hlk : meth.locks = false) (hG : tGH G τ s H locs) {post : Heap → Prop} (hq : post H) (hdg : decode cc pc = .ok (.return_, 1)) : W p l e R s m args below meth c H locs 0 0 (MQ below (tQvH G τ post) args s 0 0 (tA τ)) (F0 m pc ls []) :=
  W.vret E.1 E.2.1 hr (fun t ht _ => ⟨⟨H, rfl, hq, hG.1, ht⟩, hG.2.F ht⟩) hG.2.2.2 hdg hlk
theorem tc_pretH {ty : FieldType} (E : tE G p s m c args own cc nL) (hr : meth.sig.returnType = some ty) (hlk : meth.locks = false) (eH : H = s.heap) (eL : locs = []) {post : Int32 → Heap → Prop} {v : Int32} (hn : narrow ty (.int v) = .int v) (hq : post v H) (hdg : decode cc pc = .ok (.ireturn, 1)) : W p l e R s m args below meth c H locs 0 0 (MQ below (tQpH post) args s 0 0 tNo) (F0 m pc ls [.int v]) :=
  W.zret E.1 E.2.1 hr hn (fun t ht _ => ⟨v, rfl, by rw [← eH]; exact hq, ht.trans eH⟩) (by subst eL; intro q h; cases h) hdg hlk
/-- a look at a slot, without a step -/
theorem tc_look (hG : tGH G τ s H locs) (ha : τ a = t) (hF : tFi own index t k lo hi) : ∃ x : Int32, lo ≤ x.toInt ∧ x.toInt ≤ hi ∧ ∀ ci, tShp t = .inl ci → tSl G H a ci k (.int x) := by
  obtain ⟨ht, ⟨ci, hs, hf⟩, hd⟩ := hF
  have hΓ := tΓ_at (G := G) ha ht
  rw [hs] at hΓ
  obtain ⟨v, hv, hsl⟩ := tg_look hG.1 hΓ hf
  replace hv := hv.1
  rw [hd] at hv
  obtain ⟨x, rfl, h1, h2⟩ := hv
  exact ⟨x, h1, h2, fun cj hcj => by cases hs.symm.trans hcj; exact hsl⟩
end THH
