/-! ===== the tapes' instructions ===== -/
def one (a : Nat) (sh : tSH) : Nat → Option tSH := fun x => if x = a then some sh else none
theorem one_at {a : Nat} {sh : tSH} : one a sh a = some sh := if_pos rfl
theorem one_TH {G : tG} {a : Nat} {sh : tSH} {H : Heap} (h : tAt G sh a H) : TH G (one a sh) H := fun x s hx => by
  unfold one at hx
  split at hx
  · rename_i e
    cases hx
    rw [e]; exact h
  · cases hx
def up1 (f : Nat → Int32) (n : Nat) (v : Int32) : Nat → Int32 := fun j => if j = n then v else f j
theorem up1_at {f : Nat → Int32} {n : Nat} {v : Int32} : up1 f n v n = v := if_pos rfl
theorem up1_ne {f : Nat → Int32} {n j : Nat} {v : Int32} (h : j ≠ n) : up1 f n v j = f j := if_neg h
def wB (G : tG) (τ : Nat → Nat) : Nat → Prop := fun q => τ q ≠ 0 ∨ wA G q
def wPre (G : tG) (τ : Nat → Nat) (T : wT) (U : State) : Prop := TH G (tΓ G τ) U.heap ∧ va_K G.1 vwCl (tTy G) U ∧ tSt G (wB G τ) U ∧ wTH G T U.heap
theorem wPre.blind {G : tG} {τ : Nat → Nat} {T : wT} {av : List Value} : FrameBlind (va_Pc av (wPre G τ T)) := fun a U g mk q => by
  obtain ⟨q0, q1, q2, q3, q4⟩ := q
  exact ⟨q0, q1, va_K.moved (u := U) (U := U.calling g mk a) (Vm.Alike.refl U.vm) q2, q3.same rfl rfl, q4⟩
abbrev wQi (G : tG) (post : Int32 → wT → Prop) : Array Value → State → Outcome → State → Prop := va_Qi (S := wT) post (fun T t => wTH G T t.heap) (wA G)
abbrev wQv (G : tG) (post : wT → Prop) : Array Value → State → Outcome → State → Prop := va_Qv (S := wT) post (fun T t => wTH G T t.heap) (wA G)
theorem wTH.kept {G : tG} {T : wT} {H H1 : Heap} (h : wTH G T H) (oq : ∀ q : Nat, q < H.size → wA G q → H1[q]? = H[q]?) : wTH G T H1 :=
  ⟨h.1.kept (oq _ h.1.lt ⟨5, by omega, by omega, rfl⟩), fun i hi => ⟨(h.2 i hi).1.kept (oq _ (h.2 i hi).1.lt ⟨6 + i, by omega, by omega, rfl⟩), (h.2 i hi).2.kept (oq _ (h.2 i hi).2.lt ⟨10 + i, by omega, by omega, rfl⟩)⟩⟩
theorem wTH.obj {G : tG} {T T' : wT} {H H1 : Heap} {n : Nat} (hD : wDn G 18) (hW : wTH G T H) (hn : n < 4) (oq : ∀ q : Nat, q < H.size → q ≠ G.2.2.1 (6 + n) → H1[q]? = H[q]?) (hat : tAt G (.inl 5, wS G T' n) (G.2.2.1 (6 + n)) H1) (hT : ∀ i, i ≠ n → T'.1 i = T.1 i ∧ T'.2 i = T.2 i) : wTH G T' H1 := by
  obtain ⟨h1, h2⟩ := hW
  refine ⟨h1.kept (oq _ h1.lt (fun e => by have := hD 5 (6 + n) (by omega) (by omega) (by omega) (by omega) e; omega)), fun i hi => ⟨?_, (h2 i hi).2.kept (oq _ (h2 i hi).2.lt (fun e => by have := hD (10 + i) (6 + n) (by omega) (by omega) (by omega) (by omega) e; omega))⟩⟩
  by_cases e : i = n
  · subst e; exact hat
  · exact ((h2 i hi).1.kept (oq _ (h2 i hi).1.lt (fun e => by have := hD (6 + i) (6 + n) (by omega) (by omega) (by omega) (by omega) e; omega))).to (fun k v hv => ⟨hv.1, fun ek => by rw [(hT i e).1]; exact hv.2.1 ek, fun ek => by rw [(hT i e).2]; exact hv.2.2 ek⟩)
theorem wTH.its {G : tG} {T : wT} {H H1 : Heap} {n : Nat} (hD : wDn G 18) (hW : wTH G T H) (hn : n < 4) (oq : ∀ q : Nat, q < H.size → q ≠ G.2.2.1 (10 + n) → H1[q]? = H[q]?) (hat : tAt G (.inr (2, 60), fun _ v => wL v) (G.2.2.1 (10 + n)) H1) : wTH G T H1 := by
  obtain ⟨h1, h2⟩ := hW
  refine ⟨h1.kept (oq _ h1.lt (fun e => by have := hD 5 (10 + n) (by omega) (by omega) (by omega) (by omega) e; omega)), fun i hi => ⟨(h2 i hi).1.kept (oq _ (h2 i hi).1.lt (fun e => by have := hD (6 + i) (10 + n) (by omega) (by omega) (by omega) (by omega) e; omega)), ?_⟩⟩
  by_cases e : i = n
  · subst e; exact hat
  · exact (h2 i hi).2.kept (oq _ (h2 i hi).2.lt (fun e => by have := hD (10 + i) (10 + n) (by omega) (by omega) (by omega) (by omega) e; omega))
theorem va_S.mono {A B : Nat → Prop} {H0 H : Heap} {locs : List Loc} (h : va_S A H0 H locs) (hs : ∀ q, A q → B q) : va_S B H0 H locs := ⟨h.1, fun q h1 h2 => h.2.1 q h1 (fun z => h2 (hs q z)), fun l hl => hs _ (h.2.2 l hl)⟩
theorem wFi {own : String} {index k : Nat} {lo hi : Int} (h : tFi own index 9 k lo hi) : tFf own index 5 k := by
  obtain ⟨_, ⟨ci, hs, hf⟩, _⟩ := h
  have hs : Sum.inl 5 = (Sum.inl ci : Nat ⊕ (Nat × Nat)) := hs
  cases hs
  exact hf
theorem wFr {own : String} {index k t' : Nat} (h : tFr own index 9 k t') : tFf own index 5 k := by
  obtain ⟨_, ⟨ci, hs, hf⟩, _⟩ := h
  have hs : Sum.inl 5 = (Sum.inl ci : Nat ⊕ (Nat × Nat)) := hs
  cases hs
  exact hf
theorem wFp {own : String} {index k : Nat} {lo hi : Int} {ty : FieldType} (h : tPi own index 9 k lo hi ty) : tFp own index 5 k ty := by
  obtain ⟨_, ⟨ci, hs, hf⟩, _⟩ := h
  have hs : Sum.inl 5 = (Sum.inl ci : Nat ⊕ (Nat × Nat)) := hs
  cases hs
  exact hf
section WY
variable {p : Program} {l : Launch} {e : Env} {R : Room} {s : State} {m : MethodId} {args : Array Value} {below : List Frame} {meth : Method} {c : Code} {H : Heap} {locs : List Loc} {Q : State → Prop}
variable {cc : ByteArray} {pc : Nat} {ls : Array Slot} {rest st0 As : List Value} {a b n nA k index : Nat} {G : tG} {own : String} {nL : Nat} {τ : Nat → Nat} {T : wT} {i : Int32} {cells slots : Nat} {y : MethodName} {bytes : ByteArray} {maxL : Nat} {ret : Option FieldType} {rm : Room} {Qc : Array Value → State → Outcome → State → Prop} {fr : Addr → Prop}
theorem wc_met {av : List Value} (hy : plainName y.cls = true) (hsl : (lg_sl av).length ≤ maxL)
    (body : ∀ p e s m below meth c, tE G p s m c av.toArray y.cls bytes maxL → tSt G (wB G τ) s → meth.sig.returnType = ret → meth.locks = false → tGH G τ s s.heap [] → wTH G T s.heap → ∀ ls, lv_has ls maxL (lv_args 0 av) → W p l e rm s m av.toArray below meth c s.heap [] 0 0 (MQ below Qc av.toArray s 0 0 fr) (F0 m 0 ls [])) :
    Met l y (.code y bytes maxL ret :: tWS) rm (va_Pc av (wPre G τ T)) Qc 0 0 fr := by
  refine Met.ofW (cc := bytes) (maxL := maxL) (ret := ret) hy rfl ?_
  intro p e s m args below meth c s₁ B hml hv
  obtain ⟨rfl, hT, hK, hSt, hWd⟩ := hv
  have hl := lv_entry av (n := maxL) hsl
  rw [lg_entry_eq]
  exact body p e s m below meth c ⟨B.exec, B.bytes, hml, findClass_of_methodNamed B.named, fun w h => atoms_spec (ws := Cond.code y bytes maxL ret :: tWS) B.pre w (List.mem_cons_of_mem _ h), hK⟩ hSt B.returns B.notSynchronized ⟨hT, va_S.rf⟩ hWd _ hl
theorem wc_tps (E : tE G p s m c args own cc nL) (hG : tGH G τ s H locs) (ha : τ a = 1) (hF : tFf own index 8 7) (hdg : decode cc pc = .ok (.getfield index, 3))
    (kk : W p l e R s m args below meth c H locs cells slots Q (F0 m (pc + 3) ls (.ref (G.2.2.1 5) :: rest))) : W p l e R s m args below meth c H locs cells slots Q (F0 m pc ls (.ref a :: rest)) := by
  refine tg_get E hG.1 (tΓ_at ha (by decide)) hF hdg (fun v hv => ?_)
  have hv : v = .ref (G.2.2.1 5) := hv
  rw [hv]; exact kk
/-- where the tapes are typed -/
theorem tc_getT (E : tE G p s m c args own cc nL) (hG : tGH G τ s H locs) (ha : τ a = 1) (tb : τ (G.2.2.1 5) = 20) (hF : tFf own index 8 7) (hdg : decode cc pc = .ok (.getfield index, 3))
    (kk : ∀ b : Nat, τ b = 20 → W p l e R s m args below meth c H locs cells slots Q (F0 m (pc + 3) ls (.ref b :: rest))) : W p l e R s m args below meth c H locs cells slots Q (F0 m pc ls (.ref a :: rest)) := wc_tps E hG ha hF hdg (kk _ tb)
theorem wc_tap (E : tE G p s m c args own cc nL) (hW : wTH G T H) (hin : vp_in i 4) (hdg : decode cc pc = .ok (.aaload, 1))
    (kk : ∀ n : Nat, (n : Int) = i.toInt → n < 4 → W p l e R s m args below meth c H locs cells slots Q (F0 m (pc + 1) ls (.ref (G.2.2.1 (6 + n)) :: rest))) : W p l e R s m args below meth c H locs cells slots Q (F0 m pc ls (.int i :: .ref (G.2.2.1 5) :: rest)) := by
  refine tg_aald4 E (one_TH hW.1) one_at hin hdg (fun v hv => ?_)
  have hv : v = .ref (G.2.2.1 (6 + i.toNatClampNeg)) := hv
  rw [hv]
  exact kk _ (tn_clamp (fun z => hin (Or.inl z))).symm (t_inL hin)
theorem wc_sort (E : tE G p s m c args own cc nL) (hW : wTH G T H) (hn : n < 4) (hF : tFf own index 5 1) (hdg : decode cc pc = .ok (.getfield index, 3))
    (kk : W p l e R s m args below meth c H locs cells slots Q (F0 m (pc + 3) ls (.int (T.1 n) :: rest))) : W p l e R s m args below meth c H locs cells slots Q (F0 m pc ls (.ref (G.2.2.1 (6 + n)) :: rest)) := by
  refine tg_get E (one_TH (hW.2 n hn).1) one_at hF hdg (fun v hv => ?_)
  rw [hv.2.1 rfl]; exact kk
theorem wc_len (E : tE G p s m c args own cc nL) (hW : wTH G T H) (hn : n < 4) (hF : tFf own index 5 2) (hdg : decode cc pc = .ok (.getfield index, 3))
    (kk : W p l e R s m args below meth c H locs cells slots Q (F0 m (pc + 3) ls (.int (T.2 n) :: rest))) : W p l e R s m args below meth c H locs cells slots Q (F0 m pc ls (.ref (G.2.2.1 (6 + n)) :: rest)) := by
  refine tg_get E (one_TH (hW.2 n hn).1) one_at hF hdg (fun v hv => ?_)
  rw [hv.2.2 rfl]; exact kk
theorem wc_its (E : tE G p s m c args own cc nL) (hW : wTH G T H) (hn : n < 4) (hF : tFf own index 5 0) (hdg : decode cc pc = .ok (.getfield index, 3))
    (kk : W p l e R s m args below meth c H locs cells slots Q (F0 m (pc + 3) ls (.ref (G.2.2.1 (10 + n)) :: rest))) : W p l e R s m args below meth c H locs cells slots Q (F0 m pc ls (.ref (G.2.2.1 (6 + n)) :: rest)) := by
  refine tg_get E (one_TH (hW.2 n hn).1) one_at hF hdg (fun v hv => ?_)
  rw [hv.1 rfl]; exact kk
theorem wc_last (E : tE G p s m c args own cc nL) (hD : wDn G 18) (hW : wTH G T H) (hS : va_S (wA G) s.heap H locs) (hn : n < 4) {x : Int64} (hin : vp_in i 60) (hdg : decode cc pc = .ok (.lastore, 1))
    (kk : ∀ (H1 : Heap) (locs1 : List Loc), wTH G T H1 → va_S (wA G) s.heap H1 locs1 → W p l e R s m args below meth c H1 locs1 cells slots Q (F0 m (pc + 1) ls rest)) : W p l e R s m args below meth c H locs cells slots Q (F0 m pc ls (.long x :: .int i :: .ref (G.2.2.1 (10 + n)) :: rest)) :=
  tg_last E (one_TH (hW.2 n hn).2) one_at hin hdg (fun H1 z oq hat => kk H1 _ (hW.its hD hn (fun q _ h => oq q h) (hat _ ⟨x, rfl⟩ (fun _ _ _ h => h))) (hS.put z oq ⟨10 + n, by omega, by omega, rfl⟩))
theorem wc_put1 (E : tE G p s m c args own cc nL) (hD : wDn G 18) (hW : wTH G T H) (hS : va_S (wA G) s.heap H locs) (hn : n < 4) (hF : tFp own index 5 1 .int) {x : Int32} (hdg : decode cc pc = .ok (.putfield index, 3))
    (kk : ∀ (H1 : Heap) (locs1 : List Loc), wTH G (up1 T.1 n x, T.2) H1 → va_S (wA G) s.heap H1 locs1 → W p l e R s m args below meth c H1 locs1 cells slots Q (F0 m (pc + 3) ls rest)) : W p l e R s m args below meth c H locs cells slots Q (F0 m pc ls (.int x :: .ref (G.2.2.1 (6 + n)) :: rest)) := by
  refine tg_put E (one_TH (hW.2 n hn).1) one_at hF rfl rfl hdg (fun H1 i z oq hat => kk H1 _ (hW.obj hD hn (fun q _ h => oq q h) (hat _ ?_ (fun j w hj h => ?_)) (fun i hi => ⟨up1_ne hi, rfl⟩)) (hS.put z oq ⟨6 + n, by omega, by omega, rfl⟩))
  · exact ⟨fun e => absurd e (by decide), fun _ => congrArg Value.int up1_at.symm, fun e => absurd e (by decide)⟩
  · exact ⟨h.1, fun e => absurd e hj, h.2.2⟩
theorem wc_put2 (E : tE G p s m c args own cc nL) (hD : wDn G 18) (hW : wTH G T H) (hS : va_S (wA G) s.heap H locs) (hn : n < 4) (hF : tFp own index 5 2 .int) {x : Int32} (hdg : decode cc pc = .ok (.putfield index, 3))
    (kk : ∀ (H1 : Heap) (locs1 : List Loc), wTH G (T.1, up1 T.2 n x) H1 → va_S (wA G) s.heap H1 locs1 → W p l e R s m args below meth c H1 locs1 cells slots Q (F0 m (pc + 3) ls rest)) : W p l e R s m args below meth c H locs cells slots Q (F0 m pc ls (.int x :: .ref (G.2.2.1 (6 + n)) :: rest)) := by
  refine tg_put E (one_TH (hW.2 n hn).1) one_at hF rfl rfl hdg (fun H1 i z oq hat => kk H1 _ (hW.obj hD hn (fun q _ h => oq q h) (hat _ ?_ (fun j w hj h => ?_)) (fun i hi => ⟨rfl, up1_ne hi⟩)) (hS.put z oq ⟨6 + n, by omega, by omega, rfl⟩))
  · exact ⟨fun e => absurd e (by decide), fun e => absurd e (by decide), fun _ => congrArg Value.int up1_at.symm⟩
  · exact ⟨h.1, h.2.1, fun e => absurd e hj⟩
theorem wc_iret (E : tE G p s m c args own cc nL) (hr : meth.sig.returnType = some .int) (hlk : meth.locks = false) (hW : wTH G T H) (hS : va_S (wA G) s.heap H locs) {post : Int32 → wT → Prop} {v : Int32} (hq : post v T) (hdg : decode cc pc = .ok (.ireturn, 1)) : W p l e R s m args below meth c H locs 0 0 (MQ below (wQi G post) args s 0 0 (wA G)) (F0 m pc ls [.int v]) :=
  W.iret E.1 E.2.1 hr (fun t ht _ => ⟨⟨v, T, rfl, hq, (show wTH G T t.heap by rw [ht]; exact hW)⟩, hS.F ht⟩) hS.2.2 hdg hlk
theorem wc_vret (E : tE G p s m c args own cc nL) (hr : meth.sig.returnType = none) (hlk : meth.locks = false) (hW : wTH G T H) (hS : va_S (wA G) s.heap H locs) {post : wT → Prop} (hq : post T) (hdg : decode cc pc = .ok (.return_, 1)) : W p l e R s m args below meth c H locs 0 0 (MQ below (wQv G post) args s 0 0 (wA G)) (F0 m pc ls []) :=
  W.vret E.1 E.2.1 hr (fun t ht _ => ⟨⟨T, rfl, hq, (show wTH G T t.heap by rw [ht]; exact hW)⟩, hS.F ht⟩) hS.2.2 hdg hlk
theorem wc_runV (E : tE G p s m c args own cc nL) (hSw : tSt G (wB G τ) s) (hG : tGH G τ s H locs) (eH : H = s.heap) (hW : wTH G T H) (hn : n < 4) (hM : Met l y (.code y bytes maxL ret :: tWS) rm (va_Pc (.ref (G.2.2.1 (6 + n)) :: As) (wPre G τ T)) Qc 0 0 fr) (hcl : y.cls = RX6) (hc : tCv y bytes maxL ret nA) (hl : Cond.methodLink own index y ∈ tWS) (hR : rm.cells = 0 ∧ rm.slots = 0 ∧ rm.frames + 1 ≤ R.frames ∧ 8 + (maxL + 11) + rm.locals ≤ R.locals) (hnA : As.length = nA) (hsz : ls.size = nL) (hst : st0 = As.reverse ++ .ref (G.2.2.1 (6 + n)) :: rest) (hW8 : (rest.map fun v => v.category).sum ≤ 8) (hcs : cells ≤ R.cells ∧ slots ≤ R.slots) (hdg : decode cc pc = .ok (.invokevirtual index, 3)) :
    va_Run p l e R s m args below meth c H locs cells slots 0 0 (F0 m pc ls st0) rest (Qc (Value.ref (G.2.2.1 (6 + n)) :: As).toArray) fr := by
  obtain ⟨hx, hbb, hml, hown, hts, hK⟩ := id E
  have hrc : ∃ cell : Cell, H[G.2.2.1 (6 + n)]? = some cell ∧ cell.vm.isStatics = false ∧ s.vm.findClass y.cls = some cell.cls := by
    obtain ⟨r, V, h1, ⟨cell, q1, q2, q3, q4⟩, h3⟩ := (hW.2 n hn).1
    exact ⟨cell, q1, by rw [q3]; rfl, by rw [q2, hcl]; exact (hK.1 5 _ fc_X6.1).2.1⟩
  exact va_runV (C := y.cls) ⟨hx, hbb, hml, hown, hts⟩ hM ⟨tc_callB E hc.1 hl hR, hts _ hc.2.1, hts _ hc.2.2⟩ ⟨wPre.blind, hrc, fun U hU hWm => ⟨rfl, by rw [hU]; exact hG.1, va_K.moved hWm.alike hK, hSw.move hWm (fun a h1 h2 => by rw [hU, eH]), by rw [hU]; exact hW⟩⟩ rfl hnA hsz hst (lv_room hW8) hdg hcs
theorem wc_two {a b : Nat} (ha : tAt G (.inr (2, 60), fun _ v => wL v) a H) (hb : tAt G (.inr (2, 60), fun _ v => wL v) b H) : TH G (tΓ G (fun q => if q = a ∨ q = b then 21 else 0)) H := by
  refine TH.mk (fun q hq => ?_)
  by_cases e : q = a ∨ q = b
  · rw [if_pos e]
    rcases e with e | e
    · rw [e]; exact ha
    · rw [e]; exact hb
  · exact absurd (if_neg e) hq
/-- Arrays.fill of a tape's row -/
theorem wc_fill {x : Int64} (E : tE G p s m c args own cc nL) (hSw : tSt G (wB G τ) s) (hD : wDn G 18) (hW : wTH G T H) (hS : va_S (wA G) s.heap H locs) (hn : n < 4) (hl : Cond.methodLink own index yJ7_fill_d0a16 ∈ tWS) (hR : 1 ≤ R.frames ∧ 24 ≤ R.locals) (hsz : ls.size = nL) (hW8 : (rest.map fun v => v.category).sum ≤ 8) (hcs : cells ≤ R.cells ∧ slots ≤ R.slots) (hdg : decode cc pc = .ok (.invokestatic index, 3))
    (kk : ∀ (H1 : Heap) (locs1 : List Loc), wTH G T H1 → va_S (wA G) s.heap H1 locs1 → W p l e R s m args below meth c H1 locs1 cells slots Q (F0 m (pc + 3) ls rest)) : W p l e R s m args below meth c H locs cells slots Q (F0 m pc ls (.long x :: .ref (G.2.2.1 (10 + n)) :: rest)) := by
  obtain ⟨hx, hbb, hml, hown, hts, hK⟩ := id E
  have hn2 := (hW.2 n hn).2
  obtain ⟨a, ea⟩ : ∃ a, a = G.2.2.1 (10 + n) := ⟨_, rfl⟩
  rw [← ea] at hn2 ⊢
  have hτ : ∀ q, tA (fun q => if q = a ∨ q = a then 21 else 0) q → q = a := by
    intro q h
    by_cases e : q = a
    · exact e
    · exact absurd (if_neg (fun z => e (z.elim id id))) h
  have hτ2 : ∀ q, tA (fun q => if q = a ∨ q = a then 21 else 0) q → wA G q := fun q h => ⟨10 + n, by omega, by omega, (hτ q h).trans ea⟩
  have hM := c_J7_fill_d0a16 l G (fun q => if q = a ∨ q = a then 21 else 0) a x (if_pos (Or.inl rfl))
  refine va_callv (va_runS (As := [.ref a, .long x]) (rest := rest) ⟨hx, hbb, hml, hown, hts⟩ hM ⟨tc_callB E ks_J7_fill_d0a16.1 hl ⟨rfl, rfl, Nat.le_trans (by decide) hR.1, Nat.le_trans (by decide) hR.2⟩, hts _ ks_J7_fill_d0a16.2⟩ ⟨tPre.blind, fun U hU hWm => ⟨rfl, by rw [hU]; exact wc_two hn2 hn2, va_K.moved hWm.alike hK, (hSw.move hWm (fun a h1 h2 => by rw [hU]; exact hS.2.1 a h1 (fun z => h2 (Or.inr z)))).narrow (fun q h => Or.inr (hτ2 q h))⟩⟩ rfl rfl hsz rfl (lv_room hW8) hdg hcs) hS (fun q _ h => hτ2 q h) hτ2 (fun u t H1 locs1 ht _ _ hB hz1 hk1 hS => ?_)
  have hB : TH G (tΓ G (fun q => if q = a ∨ q = a then 21 else 0)) H1 := ht ▸ hB
  have hat := hB.at (q := a) (by rw [if_pos (Or.inl rfl)]; decide)
  rw [if_pos (Or.inl rfl)] at hat
  refine kk H1 locs1 (hW.its hD hn (fun q h1 h2 => hk1 q h1 (fun z => h2 ((hτ q z).trans ea))) (by rw [← ea]; exact hat)) hS
/-- System.arraycopy from a tape's row to a tape's row -/
theorem wc_copy (E : tE G p s m c args own cc nL) (hsz : ls.size = nL) (hD : wDn G 18) (hW : wTH G T H) (eH : H = s.heap) (eL : locs = []) {n0 n1 : Nat} (hn0 : n0 < 4) (hn1 : n1 < 4) (hlink : Cond.methodLink own index arraycopyName ∈ tWS) (hnat : Cond.native arraycopyName ∈ tWS) (hstat : Cond.static arraycopyName ∈ tWS) (hini : Cond.initialized "java/lang/System" ∈ tWS)
    {sp dp n : Int32} (h1 : 0 ≤ sp.toInt) (h2 : 0 ≤ dp.toInt) (h3 : 0 ≤ n.toInt) (h4 : sp.toInt + n.toInt ≤ 60) (h5 : dp.toInt + n.toInt ≤ 60)
    (hR : 1 ≤ R.frames ∧ (rest.map fun v => v.category).sum + (nativeFrameWords "java/lang/System" "arraycopy" 5 + 11) ≤ R.locals) (hdg : decode cc pc = .ok (.invokestatic index, 3))
    (kk : ∀ (H1 : Heap) (locs1 : List Loc), wTH G T H1 → va_S (wA G) s.heap H1 locs1 → W p l e R s m args below meth c H1 locs1 cells slots Q (F0 m (pc + 3) ls rest)) : W p l e R s m args below meth c H locs cells slots Q (F0 m pc ls (.int n :: .int dp :: .ref (G.2.2.1 (10 + n1)) :: .int sp :: .ref (G.2.2.1 (10 + n0)) :: rest)) := by
  have hT := wc_two (hW.2 n0 hn0).2 (hW.2 n1 hn1).2
  have hsub : ∀ q, tA (fun q => if q = G.2.2.1 (10 + n0) ∨ q = G.2.2.1 (10 + n1) then 21 else 0) q → wA G q := fun q h => by
    by_cases e : q = G.2.2.1 (10 + n0) ∨ q = G.2.2.1 (10 + n1)
    · rcases e with e | e
      · exact ⟨10 + n0, by omega, by omega, e⟩
      · exact ⟨10 + n1, by omega, by omega, e⟩
    · exact absurd (if_neg e) h
  refine tc_copyl (τ := fun q => if q = G.2.2.1 (10 + n0) ∨ q = G.2.2.1 (10 + n1) then 21 else 0) (rest := rest) E hsz ⟨hT, by rw [eH, eL]; exact va_S.rf⟩ hlink hnat hstat hini (if_pos (Or.inl rfl)) (if_pos (Or.inr rfl)) ta_21 ta_21 h1 h2 h3 h4 h5 hR hdg (fun H1 locs1 hG1 oq => ?_)
  have hat := hG1.1.at (q := G.2.2.1 (10 + n1)) (by rw [if_pos (Or.inr rfl)]; decide)
  rw [if_pos (Or.inr rfl)] at hat
  exact kk H1 locs1 (hW.its hD hn1 (fun q _ h => oq q h) hat) (hG1.2.mono hsub)
end WY
/-! ===== what the calls answer ===== -/
def wItem (T : wT) (t i : Int) : Int := if t < 0 ∨ 3 < t then -1 else if (T.1 t.toNat).toInt = -1 then -11 else if i < 0 ∨ (T.2 t.toNat).toInt ≤ i then -13 else 1
def wShift (T : wT) (t i o j n : Int) : Int := if t < 0 ∨ 3 < t ∨ o < 0 ∨ 3 < o then -1 else if (T.1 t.toNat).toInt = -1 ∨ (T.1 o.toNat).toInt = -1 then -11 else if ¬ (T.1 t.toNat).toInt = (T.1 o.toNat).toInt then -12 else if n < 0 ∨ i < 0 ∨ j < 0 ∨ (T.2 t.toNat).toInt < i + n ∨ (T.2 o.toNat).toInt < j + n then -13 else n
def wTape (T : wT) (x1 x2 x3 : Int32) : wT := if tTape x1.toInt x2.toInt x3.toInt = 1 then (up1 T.1 x1.toInt.toNat x2, up1 T.2 x1.toInt.toNat (if x2.toInt = -1 then 0 else x3)) else T
