/-! ===== what stands on the tapes ===== -/
def upL (g : Nat → Int64) (i : Nat) (x : Int64) : Nat → Int64 := fun k => if k = i then x else g k
def upF (F : wFF) (n : Nat) (g : Nat → Int64) : wFF := fun i => if i = n then g else F i
theorem upL_at {g : Nat → Int64} {i : Nat} {x : Int64} : upL g i x i = x := if_pos rfl
theorem upL_ne {g : Nat → Int64} {i k : Nat} {x : Int64} (h : k ≠ i) : upL g i x k = g k := if_neg h
theorem upF_at {F : wFF} {n : Nat} {g : Nat → Int64} : upF F n g n = g := if_pos rfl
theorem upF_ne {F : wFF} {n i : Nat} {g : Nat → Int64} (h : i ≠ n) : upF F n g i = F i := if_neg h
theorem cF.kept {G : tG} {F : wFF} {H H1 : Heap} (h : cF G F H) (oq : ∀ q : Nat, q < H.size → wA G q → H1[q]? = H[q]?) : cF G F H1 := fun i hi => (h i hi).kept (oq _ (h i hi).lt ⟨10 + i, by omega, by omega, rfl⟩)
theorem cF.keep {G : tG} {F : wFF} {H H1 : Heap} {n : Nat} (hD : wDn G 18) (hn : n < 4) (h : cF G F H) (oq : ∀ q : Nat, q ≠ G.2.2.1 (6 + n) → H1[q]? = H[q]?) : cF G F H1 := fun i hi => (h i hi).kept (oq _ (fun e => by have := hD (10 + i) (6 + n) (by omega) (by omega) (by omega) (by omega) e; omega))
theorem cF.row {G : tG} {F : wFF} {H H1 : Heap} {n : Nat} {g : Nat → Int64} (hD : wDn G 18) (hF : cF G F H) (hn : n < 4) (oq : ∀ q : Nat, q < H.size → q ≠ G.2.2.1 (10 + n) → H1[q]? = H[q]?) (hat : tAt G (.inr (2, 60), fun k v => v = .long (g k)) (G.2.2.1 (10 + n)) H1) : cF G (upF F n g) H1 := fun i hi => by
  by_cases e : i = n
  · subst e; rw [upF_at]; exact hat
  · rw [upF_ne e]
    exact (hF i hi).kept (oq _ (hF i hi).lt (fun e => by have := hD (10 + i) (10 + n) (by omega) (by omega) (by omega) (by omega) e; omega))
def wCut (s : Int) (v : Int64) : Int64 := if s = 0 then v.toInt32.toInt8.toInt32.toInt64 else if s = 1 then v.toInt32.toInt16.toInt32.toInt64 else if s = 2 then v.toInt32.toInt64 else v
def wItemF (T : wT) (F : wFF) (x1 x2 : Int32) (x3 : Int64) : wFF := if wItem T x1.toInt x2.toInt = 1 then upF F x1.toInt.toNat (upL (F x1.toInt.toNat) x2.toInt.toNat (wCut (T.1 x1.toInt.toNat).toInt x3)) else F
def wShiftF (T : wT) (F : wFF) (x1 x2 x3 x4 x5 : Int32) : wFF := if 0 ≤ wShift T x1.toInt x2.toInt x3.toInt x4.toInt x5.toInt then upF F x3.toInt.toNat (va_cpy (F x1.toInt.toNat) (F x3.toInt.toNat) x2.toInt.toNat x4.toInt.toNat x5.toInt.toNat) else F
def wTapeF (F : wFF) (x1 x2 x3 : Int32) : wFF := if tTape x1.toInt x2.toInt x3.toInt = 1 then upF F x1.toInt.toNat (fun _ => 0) else F
def wPeek (T : wT) (F : wFF) (t i : Int) : Int64 := if t < 0 ∨ 3 < t then -9223372036854775808 else if i < 0 ∨ (T.2 t.toNat).toInt ≤ i then -9223372036854775808 else F t.toNat i.toNat
def wfPre (G : tG) (τ : Nat → Nat) (T : wT) (F : wFF) (U : State) : Prop := wPre G τ T U ∧ cF G F U.heap
theorem wfPre.blind {G : tG} {τ : Nat → Nat} {T : wT} {F : wFF} {av : List Value} : FrameBlind (va_Pc av (wfPre G τ T F)) := fun a U g mk q => by
  obtain ⟨q0, ⟨q1, q2, q3, q4⟩, q5⟩ := q
  exact ⟨q0, ⟨q1, va_K.moved (u := U) (U := U.calling g mk a) (Vm.Alike.refl U.vm) q2, q3.same rfl rfl, q4⟩, q5⟩
abbrev wfQi (G : tG) (post : Int32 → wT × wFF → Prop) : Array Value → State → Outcome → State → Prop := va_Qi (S := wT × wFF) post (fun w t => wTH G w.1 t.heap ∧ cF G w.2 t.heap) (wA G)
abbrev wfQv (G : tG) (post : wT × wFF → Prop) : Array Value → State → Outcome → State → Prop := va_Qv (S := wT × wFF) post (fun w t => wTH G w.1 t.heap ∧ cF G w.2 t.heap) (wA G)
def fPre (G : tG) (a : Nat) (U : State) : Prop := va_K G.1 vwCl (tTy G) U ∧ tAt G (.inr (2, 60), fun _ v => wL v) a U.heap
theorem fPre.blind {G : tG} {a : Nat} {av : List Value} : FrameBlind (va_Pc av (fPre G a)) := fun x U g mk q => by
  obtain ⟨q0, q1, q2⟩ := q
  exact ⟨q0, va_K.moved (u := U) (U := U.calling g mk x) (Vm.Alike.refl U.vm) q1, q2⟩
abbrev fQ (G : tG) (a : Nat) (x : Int64) : Array Value → State → Outcome → State → Prop := va_Qv (S := Unit) (fun _ => True) (fun _ t => tAt G (.inr (2, 60), fun _ v => v = .long x) a t.heap) (fun q => q = a)
set_option maxHeartbeats 4000000 in
set_option maxRecDepth 100000 in
/-- Arrays.fill of longs, as it fills -/
theorem w_fill (l : Launch) (G : tG) (h0 : Nat) (x1 : Int64) : Met l yJ7_fill_d0a16 (.code yJ7_fill_d0a16 cJ7_fill_d0a16 5 none :: tWS) (tRm 0 0) (va_Pc [.ref h0, .long x1] (fPre G h0)) (fQ G h0 x1) 0 0 (fun q => q = h0) := by
  refine Met.ofW (cc := cJ7_fill_d0a16) (maxL := 5) (ret := none) (by decide) rfl ?_
  intro p e s m args below meth c s₁ B hml hv
  obtain ⟨rfl, hK, hat⟩ := hv
  have hl := lv_entry [Value.ref h0, Value.long x1] (n := 5) (Nat.le_of_ble_eq_true rfl)
  rw [lg_entry_eq]
  have E : tE G p s m c ([.ref h0, .long x1] : List Value).toArray yJ7_fill_d0a16.cls cJ7_fill_d0a16 5 := ⟨B.exec, B.bytes, hml, findClass_of_methodNamed B.named, fun w h => atoms_spec (ws := Cond.code yJ7_fill_d0a16 cJ7_fill_d0a16 5 none :: tWS) B.pre w (List.mem_cons_of_mem _ h), hK⟩
  have hr := B.returns
  have hlk := B.notSynchronized
  generalize ((lg_sl [Value.ref h0, Value.long x1] ++ List.replicate (5 - (lg_sl [Value.ref h0, Value.long x1]).length) Slot.unset).toArray) = ls at hl ⊢
  have hl : lv_has ls 5 [(0, .ref h0), (1, .long x1)] := hl
  have hx := E.1
  have hb := E.2.1
  have J6 : ∀ (n6 : Nat) (H : Heap) (locs : List Loc) (ls : Array Slot) (v3 : Int32) (v4 : Int32), tAt G (.inr (2, 60), fun k v => wL v ∧ ((k : Int) < v3.toInt → v = .long x1)) h0 H → va_S (fun q => q = h0) s.heap H locs → lv_has ls 5 [(0, .ref h0), (1, .long x1), (3, .int v3), (4, .int v4)] → 0 ≤ v3.toInt → v3.toInt ≤ 60 → 60 ≤ v4.toInt → v4.toInt ≤ 60 → (60 - v3.toInt).toNat < n6 → W p l e (tRm 0 0) s m ([.ref h0, .long x1] : List Value).toArray below meth c H locs 0 0 (MQ below (fQ G h0 x1) ([.ref h0, .long x1] : List Value).toArray s 0 0 (fun q => q = h0)) (F0 m 6 ls []) := by
    intro n6
    induction n6 with
    | zero => intro H locs ls v3 v4 hG hS hl b3 c3 b4 c4 hn6; exact absurd hn6 (Nat.not_lt_zero _)
    | succ n6 ih6 =>
      intro H locs ls v3 v4 hG hS hl b3 c3 b4 c4 hn6
      refine lv_iload_n hx hb dJ7_fill_d0a16_6 rfl (lv_at hl 2 rfl) ?_
      refine lv_iload hx hb dJ7_fill_d0a16_7 (lv_at hl 3 rfl) ?_
      refine lv_icmp_ge (tgt := 22) hx hb dJ7_fill_d0a16_9 (by decide) (fun c1 => ?_) (fun c1 => ?_)
      · have ic1 := tn_le rfl rfl c1
        have hA : tAt G (.inr (2, 60), fun _ v => v = .long x1) h0 H := by
          obtain ⟨V, g1, g2⟩ := hG
          exact ⟨V, g1, fun k hk => (g2 k hk).2 (by omega)⟩
        exact W.vret E.1 E.2.1 hr (fun t ht _ => ⟨⟨(), rfl, trivial, (show tAt G (.inr (2, 60), fun _ v => v = .long x1) h0 t.heap by rw [ht]; exact hA)⟩, hS.F ht⟩) hS.2.2 dJ7_fill_d0a16_22 hlk
      · have ic1 := tn_nle rfl rfl c1
        refine lv_aload_n hx hb dJ7_fill_d0a16_12 rfl (lv_at hl 0 rfl) ?_
        refine lv_iload_n hx hb dJ7_fill_d0a16_13 rfl (lv_at hl 2 rfl) ?_
        refine lv_lload_n hx hb dJ7_fill_d0a16_14 rfl (lv_at hl 1 rfl) ?_
        refine tg_last E (one_TH hG) one_at (t_in (by omega) (by omega)) dJ7_fill_d0a16_15 (fun H1 z oq hat1 => ?_)
        obtain ⟨z2, ez2⟩ : ∃ y : Int32, y = v3 + (1) := ⟨_, rfl⟩
        refine lv_iinc (v := z2) (lv' := [(3, .int z2), (0, .ref h0), (1, .long x1), (4, .int v4)]) hx hb dJ7_fill_d0a16_16 hl (k := 2) rfl (by rw [ez2]; rfl) (by decide) rfl (fun ls hl => ?_)
        have tz2 := tn_add ez2 rfl kI_1 (by omega) (by omega)
        refine lv_goto (tgt := 6) hx hb dJ7_fill_d0a16_19 (by decide) ?_
        have kc : ((v3.toNatClampNeg : Nat) : Int) = v3.toInt := by show ((v3.toInt.toNat : Nat) : Int) = v3.toInt; omega
        exact ih6 H1 _ ls z2 v4 (hat1 _ ⟨⟨x1, rfl⟩, fun _ => rfl⟩ (fun j w hj h => ⟨h.1, fun hk => h.2 (by omega)⟩)) (hS.put z oq rfl) (lv_sub hl [1, 2, 0, 3] rfl) (by omega) (by omega) (by omega) (by omega) (by omega)
  refine lv_iconst (v := 0) hx hb dJ7_fill_d0a16_0 (by decide) ?_
  refine lv_istore_n (lv' := [(3, .int 0), (0, .ref h0), (1, .long x1)]) hx hb dJ7_fill_d0a16_1 rfl hl (by decide) rfl (fun ls hl => ?_)
  refine lv_aload_n hx hb dJ7_fill_d0a16_2 rfl (lv_at hl 1 rfl) ?_
  refine tg_alen E (one_TH hat) one_at (ak := 2) (n := 60) rfl (v := 60) (by decide) dJ7_fill_d0a16_3 ?_
  refine lv_istore (lv' := [(4, .int 60), (3, .int 0), (0, .ref h0), (1, .long x1)]) hx hb dJ7_fill_d0a16_4 hl (by decide) rfl (fun ls hl => ?_)
  exact J6 ((60 - (0 : Int32).toInt).toNat + 1) _ _ ls (0 : Int32) (60 : Int32) (hat.to (fun k v h => ⟨h, fun z => absurd z (by have k0 := kI_0; omega)⟩)) va_S.rf (lv_sub hl [2, 3, 1, 0] rfl) (by decide) (by decide) (by decide) (by decide) (Nat.lt_succ_self _)
section WF
variable {p : Program} {l : Launch} {e : Env} {R : Room} {s : State} {m : MethodId} {args : Array Value} {below : List Frame} {meth : Method} {c : Code} {H : Heap} {locs : List Loc} {Q : State → Prop}
variable {cc : ByteArray} {pc : Nat} {ls : Array Slot} {rest st0 As : List Value} {a b n nA k index : Nat} {G : tG} {own : String} {nL : Nat} {τ : Nat → Nat} {T : wT} {F : wFF} {i : Int32} {cells slots : Nat} {y : MethodName} {bytes : ByteArray} {maxL : Nat} {ret : Option FieldType} {rm : Room} {Qc : Array Value → State → Outcome → State → Prop} {fr : Addr → Prop}
theorem wf_met {av : List Value} (hy : plainName y.cls = true) (hsl : (lg_sl av).length ≤ maxL)
    (body : ∀ p e s m below meth c, tE G p s m c av.toArray y.cls bytes maxL → tSt G (wB G τ) s → meth.sig.returnType = ret → meth.locks = false → tGH G τ s s.heap [] → wTH G T s.heap → cF G F s.heap → ∀ ls, lv_has ls maxL (lv_args 0 av) → W p l e rm s m av.toArray below meth c s.heap [] 0 0 (MQ below Qc av.toArray s 0 0 fr) (F0 m 0 ls [])) :
    Met l y (.code y bytes maxL ret :: tWS) rm (va_Pc av (wfPre G τ T F)) Qc 0 0 fr := by
  refine Met.ofW (cc := bytes) (maxL := maxL) (ret := ret) hy rfl ?_
  intro p e s m args below meth c s₁ B hml hv
  obtain ⟨rfl, ⟨hT, hK, hSt, hWd⟩, hF⟩ := hv
  have hl := lv_entry av (n := maxL) hsl
  rw [lg_entry_eq]
  exact body p e s m below meth c ⟨B.exec, B.bytes, hml, findClass_of_methodNamed B.named, fun w h => atoms_spec (ws := Cond.code y bytes maxL ret :: tWS) B.pre w (List.mem_cons_of_mem _ h), hK⟩ hSt B.returns B.notSynchronized ⟨hT, va_S.rf⟩ hWd hF _ hl
theorem wf_lald (E : tE G p s m c args own cc nL) (hF : cF G F H) (hn : n < 4) (hin : vp_in i 60) (hdg : decode cc pc = .ok (.laload, 1))
    (kk : W p l e R s m args below meth c H locs cells slots Q (F0 m (pc + 1) ls (.long (F n i.toInt.toNat) :: rest))) : W p l e R s m args below meth c H locs cells slots Q (F0 m pc ls (.int i :: .ref (G.2.2.1 (10 + n)) :: rest)) := by
  refine tg_lald E (one_TH (hF n hn)) one_at hin hdg (fun v hv => ?_)
  have hv : v = .long (F n i.toInt.toNat) := hv
  rw [hv]; exact kk
theorem wf_last (E : tE G p s m c args own cc nL) (hD : wDn G 18) (hW : wTH G T H) (hF : cF G F H) (hS : va_S (wA G) s.heap H locs) (hn : n < 4) {x : Int64} (hin : vp_in i 60) (hdg : decode cc pc = .ok (.lastore, 1))
    (kk : ∀ (H1 : Heap) (locs1 : List Loc), wTH G T H1 → cF G (upF F n (upL (F n) i.toInt.toNat x)) H1 → va_S (wA G) s.heap H1 locs1 → W p l e R s m args below meth c H1 locs1 cells slots Q (F0 m (pc + 1) ls rest)) : W p l e R s m args below meth c H locs cells slots Q (F0 m pc ls (.long x :: .int i :: .ref (G.2.2.1 (10 + n)) :: rest)) :=
  tg_last E (one_TH (hF n hn)) one_at hin hdg (fun H1 z oq hat => kk H1 _ (hW.its hD hn (fun q _ h => oq q h) (hat _ ⟨x, rfl⟩ (fun j w _ h => ⟨_, h⟩))) (hF.row hD hn (fun q _ h => oq q h) (hat _ (congrArg Value.long upL_at.symm) (fun j w hj h => h.trans (congrArg Value.long (upL_ne hj).symm)))) (hS.put z oq ⟨10 + n, by omega, by omega, rfl⟩))
theorem wf_put1 (E : tE G p s m c args own cc nL) (hD : wDn G 18) (hW : wTH G T H) (hF : cF G F H) (hS : va_S (wA G) s.heap H locs) (hn : n < 4) (hf : tFp own index 5 1 .int) {x : Int32} (hdg : decode cc pc = .ok (.putfield index, 3))
    (kk : ∀ (H1 : Heap) (locs1 : List Loc), wTH G (up1 T.1 n x, T.2) H1 → cF G F H1 → va_S (wA G) s.heap H1 locs1 → W p l e R s m args below meth c H1 locs1 cells slots Q (F0 m (pc + 3) ls rest)) : W p l e R s m args below meth c H locs cells slots Q (F0 m pc ls (.int x :: .ref (G.2.2.1 (6 + n)) :: rest)) := by
  refine tg_put E (one_TH (hW.2 n hn).1) one_at hf rfl rfl hdg (fun H1 i z oq hat => kk H1 _ (hW.obj hD hn (fun q _ h => oq q h) (hat _ ?_ (fun j w hj h => ?_)) (fun i hi => ⟨up1_ne hi, rfl⟩)) (hF.keep hD hn oq) (hS.put z oq ⟨6 + n, by omega, by omega, rfl⟩))
  · exact ⟨fun e => absurd e (by decide), fun _ => congrArg Value.int up1_at.symm, fun e => absurd e (by decide)⟩
  · exact ⟨h.1, fun e => absurd e hj, h.2.2⟩
theorem wf_put2 (E : tE G p s m c args own cc nL) (hD : wDn G 18) (hW : wTH G T H) (hF : cF G F H) (hS : va_S (wA G) s.heap H locs) (hn : n < 4) (hf : tFp own index 5 2 .int) {x : Int32} (hdg : decode cc pc = .ok (.putfield index, 3))
    (kk : ∀ (H1 : Heap) (locs1 : List Loc), wTH G (T.1, up1 T.2 n x) H1 → cF G F H1 → va_S (wA G) s.heap H1 locs1 → W p l e R s m args below meth c H1 locs1 cells slots Q (F0 m (pc + 3) ls rest)) : W p l e R s m args below meth c H locs cells slots Q (F0 m pc ls (.int x :: .ref (G.2.2.1 (6 + n)) :: rest)) := by
  refine tg_put E (one_TH (hW.2 n hn).1) one_at hf rfl rfl hdg (fun H1 i z oq hat => kk H1 _ (hW.obj hD hn (fun q _ h => oq q h) (hat _ ?_ (fun j w hj h => ?_)) (fun i hi => ⟨rfl, up1_ne hi⟩)) (hF.keep hD hn oq) (hS.put z oq ⟨6 + n, by omega, by omega, rfl⟩))
  · exact ⟨fun e => absurd e (by decide), fun e => absurd e (by decide), fun _ => congrArg Value.int up1_at.symm⟩
  · exact ⟨h.1, h.2.1, fun e => absurd e hj⟩
theorem wf_iret (E : tE G p s m c args own cc nL) (hr : meth.sig.returnType = some .int) (hlk : meth.locks = false) (hW : wTH G T H) (hF : cF G F H) (hS : va_S (wA G) s.heap H locs) {post : Int32 → wT × wFF → Prop} {v : Int32} (hq : post v (T, F)) (hdg : decode cc pc = .ok (.ireturn, 1)) : W p l e R s m args below meth c H locs 0 0 (MQ below (wfQi G post) args s 0 0 (wA G)) (F0 m pc ls [.int v]) :=
  W.iret E.1 E.2.1 hr (fun t ht _ => ⟨⟨v, (T, F), rfl, hq, (show wTH G T t.heap ∧ cF G F t.heap by rw [ht]; exact ⟨hW, hF⟩)⟩, hS.F ht⟩) hS.2.2 hdg hlk
theorem wf_vret (E : tE G p s m c args own cc nL) (hr : meth.sig.returnType = none) (hlk : meth.locks = false) (hW : wTH G T H) (hF : cF G F H) (hS : va_S (wA G) s.heap H locs) {post : wT × wFF → Prop} (hq : post (T, F)) (hdg : decode cc pc = .ok (.return_, 1)) : W p l e R s m args below meth c H locs 0 0 (MQ below (wfQv G post) args s 0 0 (wA G)) (F0 m pc ls []) :=
  W.vret E.1 E.2.1 hr (fun t ht _ => ⟨⟨(T, F), rfl, hq, (show wTH G T t.heap ∧ cF G F t.heap by rw [ht]; exact ⟨hW, hF⟩)⟩, hS.F ht⟩) hS.2.2 hdg hlk
theorem wf_runV (E : tE G p s m c args own cc nL) (hSw : tSt G (wB G τ) s) (hG : tGH G τ s H locs) (eH : H = s.heap) (hW : wTH G T H) (hF : cF G F H) (hn : n < 4) (hM : Met l y (.code y bytes maxL ret :: tWS) rm (va_Pc (.ref (G.2.2.1 (6 + n)) :: As) (wfPre G τ T F)) Qc 0 0 fr) (hcl : y.cls = RX6) (hc : tCv y bytes maxL ret nA) (hl : Cond.methodLink own index y ∈ tWS) (hR : rm.cells = 0 ∧ rm.slots = 0 ∧ rm.frames + 1 ≤ R.frames ∧ 8 + (maxL + 11) + rm.locals ≤ R.locals) (hnA : As.length = nA) (hsz : ls.size = nL) (hst : st0 = As.reverse ++ .ref (G.2.2.1 (6 + n)) :: rest) (hW8 : (rest.map fun v => v.category).sum ≤ 8) (hcs : cells ≤ R.cells ∧ slots ≤ R.slots) (hdg : decode cc pc = .ok (.invokevirtual index, 3)) :
    va_Run p l e R s m args below meth c H locs cells slots 0 0 (F0 m pc ls st0) rest (Qc (Value.ref (G.2.2.1 (6 + n)) :: As).toArray) fr := by
  obtain ⟨hx, hbb, hml, hown, hts, hK⟩ := id E
  have hrc : ∃ cell : Cell, H[G.2.2.1 (6 + n)]? = some cell ∧ cell.vm.isStatics = false ∧ s.vm.findClass y.cls = some cell.cls := by
    obtain ⟨r, V, h1, ⟨cell, q1, q2, q3, q4⟩, h3⟩ := (hW.2 n hn).1
    exact ⟨cell, q1, by rw [q3]; rfl, by rw [q2, hcl]; exact (hK.1 5 _ fc_X6.1).2.1⟩
  exact va_runV (C := y.cls) ⟨hx, hbb, hml, hown, hts⟩ hM ⟨tc_callB E hc.1 hl hR, hts _ hc.2.1, hts _ hc.2.2⟩ ⟨wfPre.blind, hrc, fun U hU hWm => ⟨rfl, ⟨by rw [hU]; exact hG.1, va_K.moved hWm.alike hK, hSw.move hWm (fun a h1 h2 => by rw [hU, eH]), by rw [hU]; exact hW⟩, by rw [hU]; exact hF⟩⟩ rfl hnA hsz hst (lv_room hW8) hdg hcs
theorem wf_callv {post : wT × wFF → Prop} {av : Array Value} (hS : va_S (wA G) s.heap H locs) (hr : va_Run p l e R s m args below meth c H locs cells slots 0 0 (F0 m pc ls st0) rest (wfQv G post av) (wA G))
    (kk : ∀ (Z : wT × wFF) (H1 : Heap) (locs1 : List Loc), post Z → wTH G Z.1 H1 → cF G Z.2 H1 → va_S (wA G) s.heap H1 locs1 → W p l e R s m args below meth c H1 locs1 cells slots Q (F0 m (pc + 3) ls rest)) : W p l e R s m args below meth c H locs cells slots Q (F0 m pc ls st0) :=
  va_callv hr hS (fun _ _ h => h) (fun _ h => h) (fun Z t H1 locs1 ht _ hp hB _ _ hS => by rw [ht] at hB; exact kk Z H1 locs1 hp hB.1 hB.2 hS)
theorem wf_fill {x : Int64} (E : tE G p s m c args own cc nL) (hD : wDn G 18) (hW : wTH G T H) (hF : cF G F H) (hS : va_S (wA G) s.heap H locs) (hn : n < 4) (hl : Cond.methodLink own index yJ7_fill_d0a16 ∈ tWS) (hR : 1 ≤ R.frames ∧ 24 ≤ R.locals) (hsz : ls.size = nL) (hW8 : (rest.map fun v => v.category).sum ≤ 8) (hcs : cells ≤ R.cells ∧ slots ≤ R.slots) (hdg : decode cc pc = .ok (.invokestatic index, 3))
    (kk : ∀ (H1 : Heap) (locs1 : List Loc), wTH G T H1 → cF G (upF F n (fun _ => x)) H1 → va_S (wA G) s.heap H1 locs1 → W p l e R s m args below meth c H1 locs1 cells slots Q (F0 m (pc + 3) ls rest)) : W p l e R s m args below meth c H locs cells slots Q (F0 m pc ls (.long x :: .ref (G.2.2.1 (10 + n)) :: rest)) := by
  obtain ⟨hx, hbb, hml, hown, hts, hK⟩ := id E
  refine va_callv (va_runS (As := [.ref (G.2.2.1 (10 + n)), .long x]) (rest := rest) ⟨hx, hbb, hml, hown, hts⟩ (w_fill l G (G.2.2.1 (10 + n)) x) ⟨tc_callB E ks_J7_fill_d0a16.1 hl ⟨rfl, rfl, Nat.le_trans (by decide) hR.1, Nat.le_trans (by decide) hR.2⟩, hts _ ks_J7_fill_d0a16.2⟩ ⟨fPre.blind, fun U hU hWm => ⟨rfl, va_K.moved hWm.alike hK, by rw [hU]; exact (hW.2 n hn).2⟩⟩ rfl rfl hsz rfl (lv_room hW8) hdg hcs) hS (fun q _ h => ⟨10 + n, by omega, by omega, h⟩) (fun q h => ⟨10 + n, by omega, by omega, h⟩) (fun u t H1 locs1 ht _ _ hB hz1 hk1 hS => ?_)
  rw [ht] at hB
  exact kk H1 locs1 (hW.its hD hn (fun q h1 h2 => hk1 q h1 h2) (hB.to (fun k v h => ⟨x, h⟩))) (hF.row hD hn (fun q h1 h2 => hk1 q h1 h2) hB) hS
/-- System.arraycopy from a tape's row to a tape's row -/
theorem wf_copy (E : tE G p s m c args own cc nL) (hsz : ls.size = nL) (hD : wDn G 18) (hW : wTH G T H) (hF : cF G F H) (hS : va_S (wA G) s.heap H locs) {n0 n1 : Nat} (hn0 : n0 < 4) (hn1 : n1 < 4) (hlink : Cond.methodLink own index arraycopyName ∈ tWS) (hnat : Cond.native arraycopyName ∈ tWS) (hstat : Cond.static arraycopyName ∈ tWS) (hini : Cond.initialized "java/lang/System" ∈ tWS)
    {sp dp n : Int32} (h1 : 0 ≤ sp.toInt) (h2 : 0 ≤ dp.toInt) (h3 : 0 ≤ n.toInt) (h4 : sp.toInt + n.toInt ≤ 60) (h5 : dp.toInt + n.toInt ≤ 60)
    (hR : 1 ≤ R.frames ∧ (rest.map fun v => v.category).sum + (nativeFrameWords "java/lang/System" "arraycopy" 5 + 11) ≤ R.locals) (hdg : decode cc pc = .ok (.invokestatic index, 3))
    (kk : ∀ (H1 : Heap) (locs1 : List Loc), wTH G T H1 → cF G (upF F n1 (va_cpy (F n0) (F n1) sp.toInt.toNat dp.toInt.toNat n.toInt.toNat)) H1 → va_S (wA G) s.heap H1 locs1 → W p l e R s m args below meth c H1 locs1 cells slots Q (F0 m (pc + 3) ls rest)) : W p l e R s m args below meth c H locs cells slots Q (F0 m pc ls (.int n :: .int dp :: .ref (G.2.2.1 (10 + n1)) :: .int sp :: .ref (G.2.2.1 (10 + n0)) :: rest)) := by
  obtain ⟨hx, hb, hml, hown, hts, hK⟩ := E
  obtain ⟨a0, ea0⟩ : ∃ a, a = G.2.2.1 (10 + n0) := ⟨_, rfl⟩
  obtain ⟨a, ea⟩ : ∃ a, a = G.2.2.1 (10 + n1) := ⟨_, rfl⟩
  obtain ⟨V0, hc0, hp0⟩ := hF n0 hn0
  obtain ⟨V1, hc1, hp1⟩ := hF n1 hn1
  rw [← ea0] at hc0
  rw [← ea] at hc1
  rw [← ea, ← ea0]
  have e0 : (0 : Int32).toInt = 0 := rfl
  have s1 : ¬ sp < 0 := fun q => by have := Int32.lt_iff_toInt_lt.mp q; omega
  have s2 : ¬ dp < 0 := fun q => by have := Int32.lt_iff_toInt_lt.mp q; omega
  have s3 : ¬ n < 0 := fun q => by have := Int32.lt_iff_toInt_lt.mp q; omega
  have k1 := tn_clamp s1
  have k2 := tn_clamp s2
  have k3 := tn_clamp s3
  intro S9 hT X
  obtain ⟨-, kA, hkA, cmA, hkkA⟩ := (hK.2 2 (G.2.1 2, .long) rfl).1 60 V0
  obtain ⟨-, kB, hkB, cmB, hkkB⟩ := (hK.2 2 (G.2.1 2, .long) rfl).1 60 V1
  obtain ⟨vm', X', step⟩ := X.arraycopy hx hown (hts _ hlink) (hts _ hnat) (hts _ hstat) (hts _ hini) (src := a0) (dst := a) (cs := arrV (G.2.1 2) 60 V0) (cd := arrV (G.2.1 2) 60 V1) (srcPos := sp) (destPos := dp) (n := n) (by rw [hT]; exact hc0) (by rw [hT]; exact hc1)
    (fun _ h => by cases h) (fun _ h => by cases h) (fun h => by cases h) (fun h => by cases h) hkA hkB hkkA hkkB (by simp [refKind]) s1 s2 s3
    (by rw [arrV_size]; omega)
    (by rw [arrV_size]; omega)
    (fun vm₁ _ i hi => by
      have e : (arrV (G.2.1 2) 60 V0).slots.getD (sp.toNatClampNeg + i) .null = V0 (sp.toNatClampNeg + i) := by
        rw [Array.getD_eq_getD_getElem?, arrV_read _ _ (by omega)]
        rfl
      have hv : V0 (sp.toNatClampNeg + i) = .long (F n0 (sp.toNatClampNeg + i)) := hp0 (sp.toNatClampNeg + i) (by omega)
      rw [e, hv]
      exact ⟨rfl, trivial⟩)
    (g := F0 m pc ls (.int n :: .int dp :: .ref a :: .int sp :: .ref a0 :: rest)) rfl (by rw [hml]; exact hsz) (rest := rest) rfl (by rw [hb]; exact hdg) hR.1 (by show 2 * 0 + _ + _ ≤ _; have := hR.2; omega)
  have e1 : copied (arrV (G.2.1 2) 60 V0) (arrV (G.2.1 2) 60 V1) sp dp n = arrV (G.2.1 2) 60 (va_cpy V0 V1 sp.toNatClampNeg dp.toNatClampNeg n.toNatClampNeg) := va_copied (fun z : Value => z) (G.2.1 2) (G.2.1 2) V0 V1 (by omega)
  rw [e1] at X' step
  have hl : a < H.size := (Array.getElem?_eq_some_iff.mp hc1).1
  have hheap : ((S9.setVm vm').setCell a (arrV (G.2.1 2) 60 (va_cpy V0 V1 sp.toNatClampNeg dp.toNatClampNeg n.toNatClampNeg))).heap = H.setIfInBounds a (arrV (G.2.1 2) 60 (va_cpy V0 V1 sp.toNatClampNeg dp.toNatClampNeg n.toNatClampNeg)) := by rw [← hT]; rfl
  have oq : ∀ q : Nat, q ≠ a → (H.setIfInBounds a (arrV (G.2.1 2) 60 (va_cpy V0 V1 sp.toNatClampNeg dp.toNatClampNeg n.toNatClampNeg)))[q]? = H[q]? := fun q hq => by simp [Array.getElem?_setIfInBounds, Ne.symm hq]
  have hat : tAt G (.inr (2, 60), fun k v => v = .long (va_cpy (F n0) (F n1) sp.toInt.toNat dp.toInt.toNat n.toInt.toNat k)) a (H.setIfInBounds a (arrV (G.2.1 2) 60 (va_cpy V0 V1 sp.toNatClampNeg dp.toNatClampNeg n.toNatClampNeg))) := by
    refine ⟨va_cpy V0 V1 sp.toNatClampNeg dp.toNatClampNeg n.toNatClampNeg, by simp [Array.getElem?_setIfInBounds, hl], fun j hj => ?_⟩
    show va_cpy V0 V1 sp.toNatClampNeg dp.toNatClampNeg n.toNatClampNeg j = .long (va_cpy (F n0) (F n1) sp.toNatClampNeg dp.toNatClampNeg n.toNatClampNeg j)
    by_cases hjj : dp.toNatClampNeg ≤ j ∧ j < dp.toNatClampNeg + n.toNatClampNeg
    · rw [pk_cpy_in hjj.1 hjj.2, pk_cpy_in hjj.1 hjj.2]
      exact hp0 (sp.toNatClampNeg + (j - dp.toNatClampNeg)) (by omega)
    · rw [pk_cpy_out (by omega), pk_cpy_out (by omega)]
      exact hp1 j hj
  have hta : wA G a := ⟨10 + n1, by omega, by omega, ea⟩
  obtain ⟨t2, a1, b1⟩ := kk _ _ (hW.its hD hn1 (fun q _ h => oq q (fun e => h (e.trans ea))) (by rw [← ea]; exact hat.to (fun k v h => ⟨_, h⟩))) (hF.row hD hn1 (fun q _ h => oq q (fun e => h (e.trans ea))) (by rw [← ea]; exact hat)) ⟨by simp; exact hS.1, fun q g1 g2 => by
      rw [oq q (fun e => g2 (by rw [e]; exact hta))]
      exact hS.2.1 q g1 g2, fun q hq => by
      rcases List.mem_append.mp hq with h | h
      · exact hS.2.2 q h
      · obtain ⟨z, -, hz⟩ := List.mem_map.mp h
        rw [← hz]
        exact hta⟩ _ hheap X'
  exact ⟨t2, step t2 a1, b1⟩
end WF
set_option maxHeartbeats 4000000 in
set_option maxRecDepth 100000 in
theorem w4_X6_cutToSort (l : Launch) (G : tG) (τ : Nat → Nat) (T : wT) (n : Nat) (x1 : Int64) (hn : n < 4) (hI : wIn T) : Met l yX6_cutToSort (.code yX6_cutToSort cX6_cutToSort 3 (some .long) :: tWS) (tRm 0 0) (va_Pc [.ref (G.2.2.1 (6 + n)), .long x1] (wPre G τ T)) (tQpl (fun r => r = wCut (T.1 n).toInt x1)) 0 0 tNo := by
  refine wc_met (by decide) (Nat.le_of_ble_eq_true rfl) ?_
  intro p e s m below meth c E hSw hr hlk hG hWd ls hl
  have hl : lv_has ls 3 [(0, .ref (G.2.2.1 (6 + n))), (1, .long x1)] := hl
  have hx := E.1
  have hb := E.2.1
  have hSt : tSt G (tA τ) s := hSw.narrow (fun q h => Or.inl h)
  obtain ⟨H, eH⟩ : ∃ H, H = s.heap := ⟨_, rfl⟩
  obtain ⟨locs, eL⟩ : ∃ x : List Loc, x = [] := ⟨_, rfl⟩
  have hG : tGH G τ s H locs := by rw [eH, eL]; exact hG
  have hWd : wTH G T H := by rw [eH]; exact hWd
  have hS : va_S (wA G) s.heap H locs := by rw [eH, eL]; exact va_S.rf
  suffices hW : W p l e (tRm 0 0) s m ([.ref (G.2.2.1 (6 + n)), .long x1] : List Value).toArray below meth c H locs 0 0 (MQ below (tQpl (fun r => r = wCut (T.1 n).toInt x1)) ([.ref (G.2.2.1 (6 + n)), .long x1] : List Value).toArray s 0 0 tNo) (F0 m 0 ls []) by subst eH; subst eL; exact hW
  have hI9 := hI n hn
  refine lv_aload_n hx hb dX6_cutToSort_0 rfl (lv_at hl 0 rfl) ?_
  refine wc_sort E hWd hn (wFi fi_X6_15) dX6_cutToSort_1 ?_
  obtain ⟨z1, ez1⟩ : ∃ z, z = T.1 n := ⟨_, rfl⟩
  rw [← ez1]
  rcases (show (z1.toInt < 0 ∨ 2 < z1.toInt) ∨ z1.toInt = 0 ∨ z1.toInt = 1 ∨ z1.toInt = 2 by omega) with k2 | k2 | k2 | k2
  · refine lv_tableOut (tgt := 46) hx hb dX6_cutToSort_4 k2 (by decide) ?_
    refine lv_lload_n hx hb dX6_cutToSort_46 rfl (lv_at hl 1 rfl) ?_
    exact tc_plret E hr hlk eH eL (show x1 = wCut z1.toInt x1 from (by unfold wCut; rw [if_neg (by omega), if_neg (by omega), if_neg (by omega)])) dX6_cutToSort_47
  · refine lv_tableIn (off := 28) (tgt := 32) hx hb dX6_cutToSort_4 (by rw [k2]; decide) (by rw [k2]; decide) (by rw [k2]; rfl) (by decide) ?_
    refine lv_lload_n hx hb dX6_cutToSort_32 rfl (lv_at hl 1 rfl) ?_
    refine lv_l2i hx hb dX6_cutToSort_33 rfl ?_
    refine lv_topi (fun z3 ez3 => ?_)
    refine lv_i2b hx hb dX6_cutToSort_34 rfl ?_
    refine lv_topi (fun z4 ez4 => ?_)
    refine lv_i2l hx hb dX6_cutToSort_35 rfl ?_
    refine lv_topl (fun z5 ez5 => ?_)
    exact tc_plret E hr hlk eH eL (show z5 = wCut z1.toInt x1 from (by unfold wCut; rw [if_pos (by omega), ez5, ez4, ez3])) dX6_cutToSort_36
  · refine lv_tableIn (off := 33) (tgt := 37) hx hb dX6_cutToSort_4 (by rw [k2]; decide) (by rw [k2]; decide) (by rw [k2]; rfl) (by decide) ?_
    refine lv_lload_n hx hb dX6_cutToSort_37 rfl (lv_at hl 1 rfl) ?_
    refine lv_l2i hx hb dX6_cutToSort_38 rfl ?_
    refine lv_topi (fun z6 ez6 => ?_)
    refine lv_i2s hx hb dX6_cutToSort_39 rfl ?_
    refine lv_topi (fun z7 ez7 => ?_)
    refine lv_i2l hx hb dX6_cutToSort_40 rfl ?_
    refine lv_topl (fun z8 ez8 => ?_)
    exact tc_plret E hr hlk eH eL (show z8 = wCut z1.toInt x1 from (by unfold wCut; rw [if_neg (by omega), if_pos (by omega), ez8, ez7, ez6])) dX6_cutToSort_41
  · refine lv_tableIn (off := 38) (tgt := 42) hx hb dX6_cutToSort_4 (by rw [k2]; decide) (by rw [k2]; decide) (by rw [k2]; rfl) (by decide) ?_
    refine lv_lload_n hx hb dX6_cutToSort_42 rfl (lv_at hl 1 rfl) ?_
    refine lv_l2i hx hb dX6_cutToSort_43 rfl ?_
    refine lv_topi (fun z9 ez9 => ?_)
    refine lv_i2l hx hb dX6_cutToSort_44 rfl ?_
    refine lv_topl (fun z10 ez10 => ?_)
    exact tc_plret E hr hlk eH eL (show z10 = wCut z1.toInt x1 from (by unfold wCut; rw [if_neg (by omega), if_neg (by omega), if_pos (by omega), ez10, ez9])) dX6_cutToSort_45

set_option maxHeartbeats 4000000 in
set_option maxRecDepth 100000 in
theorem w4_X6_clearTo (l : Launch) (G : tG) (τ : Nat → Nat) (T : wT) (F : wFF) (n : Nat) (x1 : Int32) (x2 : Int32) (hn : n < 4) (hD : wDn G 18) : Met l yX6_clearTo (.code yX6_clearTo cX6_clearTo 3 none :: tWS) (tRm 1 24) (va_Pc [.ref (G.2.2.1 (6 + n)), .int x1, .int x2] (wfPre G τ T F)) (wfQv G (fun Z => Z = ((up1 T.1 n x1, up1 T.2 n x2), upF F n (fun _ => 0)))) 0 0 (wA G) := by
  refine wf_met (by decide) (Nat.le_of_ble_eq_true rfl) ?_
  intro p e s m below meth c E hSw hr hlk hG hWd hF ls hl
  have hl : lv_has ls 3 [(0, .ref (G.2.2.1 (6 + n))), (1, .int x1), (2, .int x2)] := hl
  have hx := E.1
  have hb := E.2.1
  have hSt : tSt G (tA τ) s := hSw.narrow (fun q h => Or.inl h)
  obtain ⟨H, eH⟩ : ∃ H, H = s.heap := ⟨_, rfl⟩
  obtain ⟨locs, eL⟩ : ∃ x : List Loc, x = [] := ⟨_, rfl⟩
  have hG : tGH G τ s H locs := by rw [eH, eL]; exact hG
  have hWd : wTH G T H := by rw [eH]; exact hWd
  have hF : cF G F H := by rw [eH]; exact hF
  have hS : va_S (wA G) s.heap H locs := by rw [eH, eL]; exact va_S.rf
  suffices hW : W p l e (tRm 1 24) s m ([.ref (G.2.2.1 (6 + n)), .int x1, .int x2] : List Value).toArray below meth c H locs 0 0 (MQ below (wfQv G (fun Z => Z = ((up1 T.1 n x1, up1 T.2 n x2), upF F n (fun _ => 0)))) ([.ref (G.2.2.1 (6 + n)), .int x1, .int x2] : List Value).toArray s 0 0 (wA G)) (F0 m 0 ls []) by subst eH; subst eL; exact hW
  refine lv_aload_n hx hb dX6_clearTo_0 rfl (lv_at hl 0 rfl) ?_
  refine lv_iload_n hx hb dX6_clearTo_1 rfl (lv_at hl 1 rfl) ?_
  refine wf_put1 E hD hWd hF hS hn (wFp fp_X6_15) dX6_clearTo_2 (fun H locs hWd hF hS => ?_)
  refine lv_aload_n hx hb dX6_clearTo_5 rfl (lv_at hl 0 rfl) ?_
  refine lv_iload_n hx hb dX6_clearTo_6 rfl (lv_at hl 2 rfl) ?_
  refine wf_put2 E hD hWd hF hS hn (wFp fp_X6_19) dX6_clearTo_7 (fun H locs hWd hF hS => ?_)
  refine lv_aload_n hx hb dX6_clearTo_10 rfl (lv_at hl 0 rfl) ?_
  refine wc_its E hWd hn (wFr fr_X6_9) dX6_clearTo_11 ?_
  refine lv_lconst (v := 0) hx hb dX6_clearTo_14 (by decide) ?_
  refine wf_fill (rest := []) E hD hWd hF hS hn ml_X6_22 ⟨Nat.le_of_ble_eq_true rfl, Nat.le_of_ble_eq_true rfl⟩ hl.1 (Nat.le_of_ble_eq_true rfl) ⟨Nat.zero_le _, Nat.zero_le _⟩ dX6_clearTo_15 (fun H locs hWd hF hS => ?_)
  exact wf_vret E hr hlk hWd hF hS rfl dX6_clearTo_18

set_option maxHeartbeats 4000000 in
set_option maxRecDepth 100000 in
theorem w4_X9_item (l : Launch) (G : tG) (τ : Nat → Nat) (T : wT) (F : wFF) (h0 : Nat) (x1 : Int32) (x2 : Int32) (x3 : Int64) (t0 : τ h0 = 1) (hI : wIn T) (hD : wDn G 18) : Met l yX9_item (.code yX9_item cX9_item 6 (some .int) :: tWS) (tRm 1 22) (va_Pc [.ref h0, .int x1, .int x2, .long x3] (wfPre G τ T F)) (wfQi G (fun r Z => r.toInt = wItem T x1.toInt x2.toInt ∧ Z = (T, wItemF T F x1 x2 x3))) 0 0 (wA G) := by
  refine wf_met (by decide) (Nat.le_of_ble_eq_true rfl) ?_
  intro p e s m below meth c E hSw hr hlk hG hWd hF ls hl
  have hl : lv_has ls 6 [(0, .ref h0), (1, .int x1), (2, .int x2), (3, .long x3)] := hl
  have hx := E.1
  have hb := E.2.1
  have hSt : tSt G (tA τ) s := hSw.narrow (fun q h => Or.inl h)
  obtain ⟨H, eH⟩ : ∃ H, H = s.heap := ⟨_, rfl⟩
  obtain ⟨locs, eL⟩ : ∃ x : List Loc, x = [] := ⟨_, rfl⟩
  have hG : tGH G τ s H locs := by rw [eH, eL]; exact hG
  have hWd : wTH G T H := by rw [eH]; exact hWd
  have hF : cF G F H := by rw [eH]; exact hF
  have hS : va_S (wA G) s.heap H locs := by rw [eH, eL]; exact va_S.rf
  suffices hW : W p l e (tRm 1 22) s m ([.ref h0, .int x1, .int x2, .long x3] : List Value).toArray below meth c H locs 0 0 (MQ below (wfQi G (fun r Z => r.toInt = wItem T x1.toInt x2.toInt ∧ Z = (T, wItemF T F x1 x2 x3))) ([.ref h0, .int x1, .int x2, .long x3] : List Value).toArray s 0 0 (wA G)) (F0 m 0 ls []) by subst eH; subst eL; exact hW
  refine lv_iload_n hx hb dX9_item_0 rfl (lv_at hl 1 rfl) ?_
  refine tc_callp (tc_runS (As := [.int x1]) (rest := []) E hSt hG (c_X9_isTape l G τ x1) ks_X9_isTape ml_X9_347 ⟨rfl, rfl, Nat.le_of_ble_eq_true rfl, Nat.le_of_ble_eq_true rfl⟩ rfl hl.1 rfl (Nat.le_of_ble_eq_true rfl) ⟨Nat.zero_le _, Nat.zero_le _⟩ dX9_item_1) (fun r1 pr1 => ?_)
  have pr1 : (0 ≤ r1.toInt ∧ r1.toInt ≤ 1) ∧ (r1.toInt = 0 ∨ (0 ≤ x1.toInt ∧ x1.toInt ≤ 3)) ∧ (r1.toInt = 1 ∨ x1.toInt < 0 ∨ 3 < x1.toInt) := pr1
  refine lv_if_ne (tgt := 9) hx hb dX9_item_4 (by decide) (fun c2 => ?_) (fun c2 => ?_)
  · skip
    have ic2 := tn_ne rfl kI_0 c2
    refine lv_aload_n hx hb dX9_item_9 rfl (lv_at hl 0 rfl) ?_
    refine wc_tps E hG t0 ff_X9_57 dX9_item_10 ?_
    refine lv_iload_n hx hb dX9_item_13 rfl (lv_at hl 1 rfl) ?_
    refine wc_tap E hWd (t_in (by omega) (by omega)) dX9_item_14 (fun n4 en4 hn4 => ?_)
    refine lv_astore (lv' := [(5, .ref (G.2.2.1 (6 + n4))), (0, .ref h0), (1, .int x1), (2, .int x2), (3, .long x3)]) hx hb dX9_item_15 hl (by decide) rfl (fun ls hl => ?_)
    refine lv_aload hx hb dX9_item_17 (lv_at hl 0 rfl) ?_
    refine wc_sort E hWd hn4 (wFi fi_X9_350) dX9_item_19 ?_
    refine lv_iconst (v := -1) hx hb dX9_item_22 (by decide) ?_
    refine lv_icmp_ne (tgt := 29) hx hb dX9_item_23 (by decide) (fun c6 => ?_) (fun c6 => ?_)
    · skip
      have ic6 := tn_ne rfl kI_m1 c6
      refine lv_aload hx hb dX9_item_29 (lv_at hl 0 rfl) ?_
      refine lv_iload_n hx hb dX9_item_31 rfl (lv_at hl 3 rfl) ?_
      refine tc_callp (wc_runV (As := [.int x2]) (rest := []) E hSw hG eH hWd hn4 (w_X6_hasPlace l G τ T n4 x2 hn4 hI) rfl kv_X6_hasPlace ml_X9_360 ⟨rfl, rfl, Nat.le_of_ble_eq_true rfl, Nat.le_of_ble_eq_true rfl⟩ rfl hl.1 rfl (Nat.le_of_ble_eq_true rfl) ⟨Nat.zero_le _, Nat.zero_le _⟩ dX9_item_32) (fun r7 pr7 => ?_)
      have pr7 : (r7.toInt = 1 ∧ 0 ≤ x2.toInt ∧ x2.toInt < (T.2 n4).toInt) ∨ (r7.toInt = 0 ∧ (x2.toInt < 0 ∨ (T.2 n4).toInt ≤ x2.toInt)) := pr7
      have hI9 := hI n4 hn4
      refine lv_if_ne (tgt := 41) hx hb dX9_item_35 (by decide) (fun c8 => ?_) (fun c8 => ?_)
      · skip
        have ic8 := tn_ne rfl kI_0 c8
        refine lv_aload hx hb dX9_item_41 (lv_at hl 0 rfl) ?_
        refine wc_its E hWd hn4 (wFr fr_X9_363) dX9_item_43 ?_
        refine lv_iload_n hx hb dX9_item_46 rfl (lv_at hl 3 rfl) ?_
        refine lv_aload hx hb dX9_item_47 (lv_at hl 0 rfl) ?_
        refine lv_lload_n hx hb dX9_item_49 rfl (lv_at hl 4 rfl) ?_
        refine tc_callpl (wc_runV (As := [.long x3]) (rest := [.int x2, .ref (G.2.2.1 (10 + n4))]) E hSw hG eH hWd hn4 (w4_X6_cutToSort l G τ T n4 x3 hn4 hI) rfl kv_X6_cutToSort ml_X9_367 ⟨rfl, rfl, Nat.le_of_ble_eq_true rfl, Nat.le_of_ble_eq_true rfl⟩ rfl hl.1 rfl (Nat.le_of_ble_eq_true rfl) ⟨Nat.zero_le _, Nat.zero_le _⟩ dX9_item_50) (fun r10 pr10 => ?_)
        refine wf_last E hD hWd hF hS hn4 (t_in (by omega) (by omega)) dX9_item_53 (fun H locs hWd hF hS => ?_)
        refine lv_iconst (v := 1) hx hb dX9_item_54 (by decide) ?_
        have ew : (1 : Int32).toInt = wItem T x1.toInt x2.toInt := by (have kk := kI_1; unfold wItem; rw [show x1.toInt.toNat = n4 by omega]; (repeat first | rw [if_pos (by omega)] | rw [if_neg (by omega)]); first | done | omega)
        have pr10 : r10 = wCut (T.1 n4).toInt x3 := pr10
        exact wf_iret E hr hlk hWd hF hS (show (1 : Int32).toInt = wItem T x1.toInt x2.toInt ∧ (T, upF F n4 (upL (F n4) x2.toInt.toNat r10)) = (T, wItemF T F x1 x2 x3) from ⟨ew, by unfold wItemF; rw [if_pos (by rw [← ew]; decide), show x1.toInt.toNat = n4 by omega, pr10]⟩) dX9_item_55
      · skip
        have ic8 := tn_eq rfl kI_0 c8
        refine lv_bipush (v := -13) hx hb dX9_item_38 (by decide) ?_
        have ew : (-13 : Int32).toInt = wItem T x1.toInt x2.toInt := by (have kk := kI_m13; unfold wItem; rw [show x1.toInt.toNat = n4 by omega]; (repeat first | rw [if_pos (by omega)] | rw [if_neg (by omega)]); first | done | omega)
        exact wf_iret E hr hlk hWd hF hS (show (-13 : Int32).toInt = wItem T x1.toInt x2.toInt ∧ (T, F) = (T, wItemF T F x1 x2 x3) from ⟨ew, by unfold wItemF; rw [if_neg (by rw [← ew]; decide)]⟩) dX9_item_40
    · skip
      have ic6 := tn_eq rfl kI_m1 c6
      refine lv_bipush (v := -11) hx hb dX9_item_26 (by decide) ?_
      have ew : (-11 : Int32).toInt = wItem T x1.toInt x2.toInt := by (have kk := kI_m11; unfold wItem; rw [show x1.toInt.toNat = n4 by omega]; (repeat first | rw [if_pos (by omega)] | rw [if_neg (by omega)]); first | done | omega)
      exact wf_iret E hr hlk hWd hF hS (show (-11 : Int32).toInt = wItem T x1.toInt x2.toInt ∧ (T, F) = (T, wItemF T F x1 x2 x3) from ⟨ew, by unfold wItemF; rw [if_neg (by rw [← ew]; decide)]⟩) dX9_item_28
  · skip
    have ic2 := tn_eq rfl kI_0 c2
    refine lv_iconst (v := -1) hx hb dX9_item_7 (by decide) ?_
    have ew : (-1 : Int32).toInt = wItem T x1.toInt x2.toInt := by (have kk := kI_m1; unfold wItem; rw [if_pos (by omega)]; exact kk)
    exact wf_iret E hr hlk hWd hF hS (show (-1 : Int32).toInt = wItem T x1.toInt x2.toInt ∧ (T, F) = (T, wItemF T F x1 x2 x3) from ⟨ew, by unfold wItemF; rw [if_neg (by rw [← ew]; decide)]⟩) dX9_item_8

set_option maxHeartbeats 4000000 in
set_option maxRecDepth 100000 in
theorem w4_X9_shift (l : Launch) (G : tG) (τ : Nat → Nat) (T : wT) (F : wFF) (h0 : Nat) (x1 : Int32) (x2 : Int32) (x3 : Int32) (x4 : Int32) (x5 : Int32) (t0 : τ h0 = 1) (hI : wIn T) (hD : wDn G 18) : Met l yX9_shift (.code yX9_shift cX9_shift 8 (some .int) :: tWS) (tRm 1 40) (va_Pc [.ref h0, .int x1, .int x2, .int x3, .int x4, .int x5] (wfPre G τ T F)) (wfQi G (fun r Z => r.toInt = wShift T x1.toInt x2.toInt x3.toInt x4.toInt x5.toInt ∧ Z = (T, wShiftF T F x1 x2 x3 x4 x5))) 0 0 (wA G) := by
  refine wf_met (by decide) (Nat.le_of_ble_eq_true rfl) ?_
  intro p e s m below meth c E hSw hr hlk hG hWd hF ls hl
  have hl : lv_has ls 8 [(0, .ref h0), (1, .int x1), (2, .int x2), (3, .int x3), (4, .int x4), (5, .int x5)] := hl
  have hx := E.1
  have hb := E.2.1
  have hSt : tSt G (tA τ) s := hSw.narrow (fun q h => Or.inl h)
  obtain ⟨H, eH⟩ : ∃ H, H = s.heap := ⟨_, rfl⟩
  obtain ⟨locs, eL⟩ : ∃ x : List Loc, x = [] := ⟨_, rfl⟩
  have hG : tGH G τ s H locs := by rw [eH, eL]; exact hG
  have hWd : wTH G T H := by rw [eH]; exact hWd
  have hF : cF G F H := by rw [eH]; exact hF
  have hS : va_S (wA G) s.heap H locs := by rw [eH, eL]; exact va_S.rf
  suffices hW : W p l e (tRm 1 40) s m ([.ref h0, .int x1, .int x2, .int x3, .int x4, .int x5] : List Value).toArray below meth c H locs 0 0 (MQ below (wfQi G (fun r Z => r.toInt = wShift T x1.toInt x2.toInt x3.toInt x4.toInt x5.toInt ∧ Z = (T, wShiftF T F x1 x2 x3 x4 x5))) ([.ref h0, .int x1, .int x2, .int x3, .int x4, .int x5] : List Value).toArray s 0 0 (wA G)) (F0 m 0 ls []) by subst eH; subst eL; exact hW
  refine lv_iload_n hx hb dX9_shift_0 rfl (lv_at hl 1 rfl) ?_
  refine tc_callp (tc_runS (As := [.int x1]) (rest := []) E hSt hG (c_X9_isTape l G τ x1) ks_X9_isTape ml_X9_347 ⟨rfl, rfl, Nat.le_of_ble_eq_true rfl, Nat.le_of_ble_eq_true rfl⟩ rfl hl.1 rfl (Nat.le_of_ble_eq_true rfl) ⟨Nat.zero_le _, Nat.zero_le _⟩ dX9_shift_1) (fun r1 pr1 => ?_)
  have pr1 : (0 ≤ r1.toInt ∧ r1.toInt ≤ 1) ∧ (r1.toInt = 0 ∨ (0 ≤ x1.toInt ∧ x1.toInt ≤ 3)) ∧ (r1.toInt = 1 ∨ x1.toInt < 0 ∨ 3 < x1.toInt) := pr1
  refine lv_if_eq (tgt := 14) hx hb dX9_shift_4 (by decide) (fun c2 => ?_) (fun c2 => ?_)
  · skip
    have ic2 := tn_eq rfl kI_0 c2
    refine lv_iconst (v := -1) hx hb dX9_shift_14 (by decide) ?_
    have ew : (-1 : Int32).toInt = wShift T x1.toInt x2.toInt x3.toInt x4.toInt x5.toInt := by (have kk := kI_m1; unfold wShift; rw [if_pos (by omega)]; exact kk)
    exact wf_iret E hr hlk hWd hF hS (show (-1 : Int32).toInt = wShift T x1.toInt x2.toInt x3.toInt x4.toInt x5.toInt ∧ (T, F) = (T, wShiftF T F x1 x2 x3 x4 x5) from ⟨ew, by unfold wShiftF; rw [if_neg (by rw [← ew]; decide)]⟩) dX9_shift_15
  · skip
    have ic2 := tn_ne rfl kI_0 c2
    refine lv_iload_n hx hb dX9_shift_7 rfl (lv_at hl 3 rfl) ?_
    refine tc_callp (tc_runS (As := [.int x3]) (rest := []) E hSt hG (c_X9_isTape l G τ x3) ks_X9_isTape ml_X9_347 ⟨rfl, rfl, Nat.le_of_ble_eq_true rfl, Nat.le_of_ble_eq_true rfl⟩ rfl hl.1 rfl (Nat.le_of_ble_eq_true rfl) ⟨Nat.zero_le _, Nat.zero_le _⟩ dX9_shift_8) (fun r3 pr3 => ?_)
    have pr3 : (0 ≤ r3.toInt ∧ r3.toInt ≤ 1) ∧ (r3.toInt = 0 ∨ (0 ≤ x3.toInt ∧ x3.toInt ≤ 3)) ∧ (r3.toInt = 1 ∨ x3.toInt < 0 ∨ 3 < x3.toInt) := pr3
    refine lv_if_ne (tgt := 16) hx hb dX9_shift_11 (by decide) (fun c4 => ?_) (fun c4 => ?_)
    · skip
      have ic4 := tn_ne rfl kI_0 c4
      refine lv_aload_n hx hb dX9_shift_16 rfl (lv_at hl 0 rfl) ?_
      refine wc_tps E hG t0 ff_X9_57 dX9_shift_17 ?_
      refine lv_iload_n hx hb dX9_shift_20 rfl (lv_at hl 1 rfl) ?_
      refine wc_tap E hWd (t_in (by omega) (by omega)) dX9_shift_21 (fun n6 en6 hn6 => ?_)
      refine lv_astore (lv' := [(6, .ref (G.2.2.1 (6 + n6))), (0, .ref h0), (1, .int x1), (2, .int x2), (3, .int x3), (4, .int x4), (5, .int x5)]) hx hb dX9_shift_22 hl (by decide) rfl (fun ls hl => ?_)
      refine lv_aload_n hx hb dX9_shift_24 rfl (lv_at hl 1 rfl) ?_
      refine wc_tps E hG t0 ff_X9_57 dX9_shift_25 ?_
      refine lv_iload_n hx hb dX9_shift_28 rfl (lv_at hl 4 rfl) ?_
      refine wc_tap E hWd (t_in (by omega) (by omega)) dX9_shift_29 (fun n8 en8 hn8 => ?_)
      refine lv_astore (lv' := [(7, .ref (G.2.2.1 (6 + n8))), (6, .ref (G.2.2.1 (6 + n6))), (0, .ref h0), (1, .int x1), (2, .int x2), (3, .int x3), (4, .int x4), (5, .int x5)]) hx hb dX9_shift_30 hl (by decide) rfl (fun ls hl => ?_)
      refine lv_aload hx hb dX9_shift_32 (lv_at hl 1 rfl) ?_
      refine wc_sort E hWd hn6 (wFi fi_X9_350) dX9_shift_34 ?_
      refine lv_iconst (v := -1) hx hb dX9_shift_37 (by decide) ?_
      refine lv_icmp_eq (tgt := 50) hx hb dX9_shift_38 (by decide) (fun c10 => ?_) (fun c10 => ?_)
      · skip
        have ic10 := tn_eq rfl kI_m1 c10
        refine lv_bipush (v := -11) hx hb dX9_shift_50 (by decide) ?_
        have ew : (-11 : Int32).toInt = wShift T x1.toInt x2.toInt x3.toInt x4.toInt x5.toInt := by (have kk := kI_m11; unfold wShift; rw [show x1.toInt.toNat = n6 by omega, show x3.toInt.toNat = n8 by omega]; (repeat first | rw [if_pos (by omega)] | rw [if_neg (by omega)]); first | done | omega)
        exact wf_iret E hr hlk hWd hF hS (show (-11 : Int32).toInt = wShift T x1.toInt x2.toInt x3.toInt x4.toInt x5.toInt ∧ (T, F) = (T, wShiftF T F x1 x2 x3 x4 x5) from ⟨ew, by unfold wShiftF; rw [if_neg (by rw [← ew]; decide)]⟩) dX9_shift_52
      · skip
        have ic10 := tn_ne rfl kI_m1 c10
        refine lv_aload hx hb dX9_shift_41 (lv_at hl 0 rfl) ?_
        refine wc_sort E hWd hn8 (wFi fi_X9_350) dX9_shift_43 ?_
        refine lv_iconst (v := -1) hx hb dX9_shift_46 (by decide) ?_
        refine lv_icmp_ne (tgt := 53) hx hb dX9_shift_47 (by decide) (fun c12 => ?_) (fun c12 => ?_)
        · skip
          have ic12 := tn_ne rfl kI_m1 c12
          refine lv_aload hx hb dX9_shift_53 (lv_at hl 1 rfl) ?_
          refine wc_sort E hWd hn6 (wFi fi_X9_350) dX9_shift_55 ?_
          refine lv_aload hx hb dX9_shift_58 (lv_at hl 0 rfl) ?_
          refine wc_sort E hWd hn8 (wFi fi_X9_350) dX9_shift_60 ?_
          refine lv_icmp_eq (tgt := 69) hx hb dX9_shift_63 (by decide) (fun c15 => ?_) (fun c15 => ?_)
          · skip
            have ic15 := tn_eq rfl rfl c15
            refine lv_aload hx hb dX9_shift_69 (lv_at hl 1 rfl) ?_
            refine lv_iload_n hx hb dX9_shift_71 rfl (lv_at hl 4 rfl) ?_
            refine lv_iload hx hb dX9_shift_72 (lv_at hl 7 rfl) ?_
            refine tc_callp (wc_runV (As := [.int x2, .int x5]) (rest := []) E hSw hG eH hWd hn6 (w_X6_hasRun l G τ T n6 x2 x5 hn6 hI) rfl kv_X6_hasRun ml_X9_371 ⟨rfl, rfl, Nat.le_of_ble_eq_true rfl, Nat.le_of_ble_eq_true rfl⟩ rfl hl.1 rfl (Nat.le_of_ble_eq_true rfl) ⟨Nat.zero_le _, Nat.zero_le _⟩ dX9_shift_74) (fun r16 pr16 => ?_)
            have pr16 : (r16.toInt = 1 ∧ 0 ≤ x2.toInt ∧ 0 ≤ x5.toInt ∧ x2.toInt + x5.toInt ≤ (T.2 n6).toInt) ∨ (r16.toInt = 0 ∧ (x2.toInt < 0 ∨ x5.toInt < 0 ∨ (T.2 n6).toInt < x2.toInt + x5.toInt)) := pr16
            refine lv_if_eq (tgt := 92) hx hb dX9_shift_77 (by decide) (fun c17 => ?_) (fun c17 => ?_)
            · skip
              have ic17 := tn_eq rfl kI_0 c17
              refine lv_bipush (v := -13) hx hb dX9_shift_92 (by decide) ?_
              have ew : (-13 : Int32).toInt = wShift T x1.toInt x2.toInt x3.toInt x4.toInt x5.toInt := by (have kk := kI_m13; unfold wShift; rw [show x1.toInt.toNat = n6 by omega, show x3.toInt.toNat = n8 by omega]; (repeat first | rw [if_pos (by omega)] | rw [if_neg (by omega)]); first | done | omega)
              exact wf_iret E hr hlk hWd hF hS (show (-13 : Int32).toInt = wShift T x1.toInt x2.toInt x3.toInt x4.toInt x5.toInt ∧ (T, F) = (T, wShiftF T F x1 x2 x3 x4 x5) from ⟨ew, by unfold wShiftF; rw [if_neg (by rw [← ew]; decide)]⟩) dX9_shift_94
            · skip
              have ic17 := tn_ne rfl kI_0 c17
              refine lv_aload hx hb dX9_shift_80 (lv_at hl 0 rfl) ?_
              refine lv_iload hx hb dX9_shift_82 (lv_at hl 6 rfl) ?_
              refine lv_iload hx hb dX9_shift_84 (lv_at hl 7 rfl) ?_
              refine tc_callp (wc_runV (As := [.int x4, .int x5]) (rest := []) E hSw hG eH hWd hn8 (w_X6_hasRun l G τ T n8 x4 x5 hn8 hI) rfl kv_X6_hasRun ml_X9_371 ⟨rfl, rfl, Nat.le_of_ble_eq_true rfl, Nat.le_of_ble_eq_true rfl⟩ rfl hl.1 rfl (Nat.le_of_ble_eq_true rfl) ⟨Nat.zero_le _, Nat.zero_le _⟩ dX9_shift_86) (fun r18 pr18 => ?_)
              have pr18 : (r18.toInt = 1 ∧ 0 ≤ x4.toInt ∧ 0 ≤ x5.toInt ∧ x4.toInt + x5.toInt ≤ (T.2 n8).toInt) ∨ (r18.toInt = 0 ∧ (x4.toInt < 0 ∨ x5.toInt < 0 ∨ (T.2 n8).toInt < x4.toInt + x5.toInt)) := pr18
              refine lv_if_ne (tgt := 95) hx hb dX9_shift_89 (by decide) (fun c19 => ?_) (fun c19 => ?_)
              · skip
                have ic19 := tn_ne rfl kI_0 c19
                refine lv_aload hx hb dX9_shift_95 (lv_at hl 1 rfl) ?_
                refine wc_its E hWd hn6 (wFr fr_X9_363) dX9_shift_97 ?_
                refine lv_iload_n hx hb dX9_shift_100 rfl (lv_at hl 4 rfl) ?_
                refine lv_aload hx hb dX9_shift_101 (lv_at hl 0 rfl) ?_
                refine wc_its E hWd hn8 (wFr fr_X9_363) dX9_shift_103 ?_
                refine lv_iload hx hb dX9_shift_106 (lv_at hl 6 rfl) ?_
                refine lv_iload hx hb dX9_shift_108 (lv_at hl 7 rfl) ?_
                have hI8 := hI n6 hn6
                have hI9 := hI n8 hn8
                refine wf_copy (rest := []) E hl.1 hD hWd hF hS hn6 hn8 ml_X9_374 kn_copy1 kn_copy2 kn_copy3 (by omega) (by omega) (by omega) (by omega) (by omega) ⟨Nat.le_of_ble_eq_true rfl, by decide +kernel⟩ dX9_shift_110 (fun H locs hWd hF hS => ?_)
                refine lv_iload hx hb dX9_shift_113 (lv_at hl 7 rfl) ?_
                have ew : x5.toInt = wShift T x1.toInt x2.toInt x3.toInt x4.toInt x5.toInt := by (unfold wShift; rw [show x1.toInt.toNat = n6 by omega, show x3.toInt.toNat = n8 by omega]; (repeat first | rw [if_pos (by omega)] | rw [if_neg (by omega)]); first | done | omega)
                exact wf_iret E hr hlk hWd hF hS (show x5.toInt = wShift T x1.toInt x2.toInt x3.toInt x4.toInt x5.toInt ∧ (T, upF F n8 (va_cpy (F n6) (F n8) x2.toInt.toNat x4.toInt.toNat x5.toInt.toNat)) = (T, wShiftF T F x1 x2 x3 x4 x5) from ⟨ew, by unfold wShiftF; rw [if_pos (by rw [← ew]; omega), show x1.toInt.toNat = n6 by omega, show x3.toInt.toNat = n8 by omega]⟩) dX9_shift_115
              · skip
                have ic19 := tn_eq rfl kI_0 c19
                refine lv_bipush (v := -13) hx hb dX9_shift_92 (by decide) ?_
                have ew : (-13 : Int32).toInt = wShift T x1.toInt x2.toInt x3.toInt x4.toInt x5.toInt := by (have kk := kI_m13; unfold wShift; rw [show x1.toInt.toNat = n6 by omega, show x3.toInt.toNat = n8 by omega]; (repeat first | rw [if_pos (by omega)] | rw [if_neg (by omega)]); first | done | omega)
                exact wf_iret E hr hlk hWd hF hS (show (-13 : Int32).toInt = wShift T x1.toInt x2.toInt x3.toInt x4.toInt x5.toInt ∧ (T, F) = (T, wShiftF T F x1 x2 x3 x4 x5) from ⟨ew, by unfold wShiftF; rw [if_neg (by rw [← ew]; decide)]⟩) dX9_shift_94
          · skip
            have ic15 := tn_ne rfl rfl c15
            refine lv_bipush (v := -12) hx hb dX9_shift_66 (by decide) ?_
            have ew : (-12 : Int32).toInt = wShift T x1.toInt x2.toInt x3.toInt x4.toInt x5.toInt := by (have kk := kI_m12; unfold wShift; rw [show x1.toInt.toNat = n6 by omega, show x3.toInt.toNat = n8 by omega]; (repeat first | rw [if_pos (by omega)] | rw [if_neg (by omega)]); first | done | omega)
            exact wf_iret E hr hlk hWd hF hS (show (-12 : Int32).toInt = wShift T x1.toInt x2.toInt x3.toInt x4.toInt x5.toInt ∧ (T, F) = (T, wShiftF T F x1 x2 x3 x4 x5) from ⟨ew, by unfold wShiftF; rw [if_neg (by rw [← ew]; decide)]⟩) dX9_shift_68
        · skip
          have ic12 := tn_eq rfl kI_m1 c12
          refine lv_bipush (v := -11) hx hb dX9_shift_50 (by decide) ?_
          have ew : (-11 : Int32).toInt = wShift T x1.toInt x2.toInt x3.toInt x4.toInt x5.toInt := by (have kk := kI_m11; unfold wShift; rw [show x1.toInt.toNat = n6 by omega, show x3.toInt.toNat = n8 by omega]; (repeat first | rw [if_pos (by omega)] | rw [if_neg (by omega)]); first | done | omega)
          exact wf_iret E hr hlk hWd hF hS (show (-11 : Int32).toInt = wShift T x1.toInt x2.toInt x3.toInt x4.toInt x5.toInt ∧ (T, F) = (T, wShiftF T F x1 x2 x3 x4 x5) from ⟨ew, by unfold wShiftF; rw [if_neg (by rw [← ew]; decide)]⟩) dX9_shift_52
    · skip
      have ic4 := tn_eq rfl kI_0 c4
      refine lv_iconst (v := -1) hx hb dX9_shift_14 (by decide) ?_
      have ew : (-1 : Int32).toInt = wShift T x1.toInt x2.toInt x3.toInt x4.toInt x5.toInt := by (have kk := kI_m1; unfold wShift; rw [if_pos (by omega)]; exact kk)
      exact wf_iret E hr hlk hWd hF hS (show (-1 : Int32).toInt = wShift T x1.toInt x2.toInt x3.toInt x4.toInt x5.toInt ∧ (T, F) = (T, wShiftF T F x1 x2 x3 x4 x5) from ⟨ew, by unfold wShiftF; rw [if_neg (by rw [← ew]; decide)]⟩) dX9_shift_15

set_option maxHeartbeats 4000000 in
set_option maxRecDepth 100000 in
theorem w4_X9_tape (l : Launch) (G : tG) (τ : Nat → Nat) (T : wT) (F : wFF) (h0 : Nat) (x1 : Int32) (x2 : Int32) (x3 : Int32) (t0 : τ h0 = 1) (hI : wIn T) (hD : wDn G 18) : Met l yX9_tape (.code yX9_tape cX9_tape 4 (some .int) :: tWS) (tRm 2 46) (va_Pc [.ref h0, .int x1, .int x2, .int x3] (wfPre G τ T F)) (wfQi G (fun r Z => r.toInt = tTape x1.toInt x2.toInt x3.toInt ∧ Z = (wTape T x1 x2 x3, wTapeF F x1 x2 x3))) 0 0 (wA G) := by
  refine wf_met (by decide) (Nat.le_of_ble_eq_true rfl) ?_
  intro p e s m below meth c E hSw hr hlk hG hWd hF ls hl
  have hl : lv_has ls 4 [(0, .ref h0), (1, .int x1), (2, .int x2), (3, .int x3)] := hl
  have hx := E.1
  have hb := E.2.1
  have hSt : tSt G (tA τ) s := hSw.narrow (fun q h => Or.inl h)
  obtain ⟨H, eH⟩ : ∃ H, H = s.heap := ⟨_, rfl⟩
  obtain ⟨locs, eL⟩ : ∃ x : List Loc, x = [] := ⟨_, rfl⟩
  have hG : tGH G τ s H locs := by rw [eH, eL]; exact hG
  have hWd : wTH G T H := by rw [eH]; exact hWd
  have hF : cF G F H := by rw [eH]; exact hF
  have hS : va_S (wA G) s.heap H locs := by rw [eH, eL]; exact va_S.rf
  suffices hW : W p l e (tRm 2 46) s m ([.ref h0, .int x1, .int x2, .int x3] : List Value).toArray below meth c H locs 0 0 (MQ below (wfQi G (fun r Z => r.toInt = tTape x1.toInt x2.toInt x3.toInt ∧ Z = (wTape T x1 x2 x3, wTapeF F x1 x2 x3))) ([.ref h0, .int x1, .int x2, .int x3] : List Value).toArray s 0 0 (wA G)) (F0 m 0 ls []) by subst eH; subst eL; exact hW
  refine lv_iload_n hx hb dX9_tape_0 rfl (lv_at hl 1 rfl) ?_
  refine tc_callp (tc_runS (As := [.int x1]) (rest := []) E hSt hG (c_X9_isTape l G τ x1) ks_X9_isTape ml_X9_347 ⟨rfl, rfl, Nat.le_of_ble_eq_true rfl, Nat.le_of_ble_eq_true rfl⟩ rfl hl.1 rfl (Nat.le_of_ble_eq_true rfl) ⟨Nat.zero_le _, Nat.zero_le _⟩ dX9_tape_1) (fun r1 pr1 => ?_)
  have pr1 : (0 ≤ r1.toInt ∧ r1.toInt ≤ 1) ∧ (r1.toInt = 0 ∨ (0 ≤ x1.toInt ∧ x1.toInt ≤ 3)) ∧ (r1.toInt = 1 ∨ x1.toInt < 0 ∨ 3 < x1.toInt) := pr1
  refine lv_if_ne (tgt := 9) hx hb dX9_tape_4 (by decide) (fun c2 => ?_) (fun c2 => ?_)
  · skip
    have ic2 := tn_ne rfl kI_0 c2
    refine lv_iload_n hx hb dX9_tape_9 rfl (lv_at hl 2 rfl) ?_
    refine lv_iconst (v := -1) hx hb dX9_tape_10 (by decide) ?_
    refine lv_icmp_ne (tgt := 27) hx hb dX9_tape_11 (by decide) (fun c3 => ?_) (fun c3 => ?_)
    · skip
      have ic3 := tn_ne rfl kI_m1 c3
      refine lv_iload_n hx hb dX9_tape_27 rfl (lv_at hl 2 rfl) ?_
      refine lv_if_lt (tgt := 42) hx hb dX9_tape_28 (by decide) (fun c4 => ?_) (fun c4 => ?_)
      · skip
        have ic4 := tn_lt rfl kI_0 c4
        refine lv_bipush (v := -2) hx hb dX9_tape_42 (by decide) ?_
        have et : tTape x1.toInt x2.toInt x3.toInt = -2 := by (unfold tTape; (repeat first | rw [if_pos (by omega)] | rw [if_neg (by omega)]); first | done | omega)
        exact wf_iret E hr hlk hWd hF hS (show (-2 : Int32).toInt = tTape x1.toInt x2.toInt x3.toInt ∧ (T, F) = (wTape T x1 x2 x3, wTapeF F x1 x2 x3) from ⟨by rw [et]; exact kI_m2, by unfold wTape wTapeF; rw [if_neg (by rw [et]; decide), if_neg (by rw [et]; decide)]⟩) dX9_tape_44
      · skip
        have ic4 := tn_nlt rfl kI_0 c4
        refine lv_iload_n hx hb dX9_tape_31 rfl (lv_at hl 2 rfl) ?_
        refine lv_iconst (v := 3) hx hb dX9_tape_32 (by decide) ?_
        refine lv_icmp_gt (tgt := 42) hx hb dX9_tape_33 (by decide) (fun c5 => ?_) (fun c5 => ?_)
        · skip
          have ic5 := tn_lt kI_3 rfl c5
          refine lv_bipush (v := -2) hx hb dX9_tape_42 (by decide) ?_
          have et : tTape x1.toInt x2.toInt x3.toInt = -2 := by (unfold tTape; (repeat first | rw [if_pos (by omega)] | rw [if_neg (by omega)]); first | done | omega)
          exact wf_iret E hr hlk hWd hF hS (show (-2 : Int32).toInt = tTape x1.toInt x2.toInt x3.toInt ∧ (T, F) = (wTape T x1 x2 x3, wTapeF F x1 x2 x3) from ⟨by rw [et]; exact kI_m2, by unfold wTape wTapeF; rw [if_neg (by rw [et]; decide), if_neg (by rw [et]; decide)]⟩) dX9_tape_44
        · skip
          have ic5 := tn_nlt kI_3 rfl c5
          refine lv_iload_n hx hb dX9_tape_36 rfl (lv_at hl 3 rfl) ?_
          refine lv_bipush (v := 60) hx hb dX9_tape_37 (by decide) ?_
          refine lv_icmp_le (tgt := 45) hx hb dX9_tape_39 (by decide) (fun c6 => ?_) (fun c6 => ?_)
          · skip
            have ic6 := tn_le rfl kI_60 c6
            refine lv_iload_n hx hb dX9_tape_45 rfl (lv_at hl 3 rfl) ?_
            refine lv_if_ge (tgt := 52) hx hb dX9_tape_46 (by decide) (fun c7 => ?_) (fun c7 => ?_)
            · skip
              have ic7 := tn_le kI_0 rfl c7
              refine lv_aload_n hx hb dX9_tape_52 rfl (lv_at hl 0 rfl) ?_
              refine wc_tps E hG t0 ff_X9_57 dX9_tape_53 ?_
              refine lv_iload_n hx hb dX9_tape_56 rfl (lv_at hl 1 rfl) ?_
              refine wc_tap E hWd (t_in (by omega) (by omega)) dX9_tape_57 (fun n9 en9 hn9 => ?_)
              refine lv_iload_n hx hb dX9_tape_58 rfl (lv_at hl 2 rfl) ?_
              refine lv_iload_n hx hb dX9_tape_59 rfl (lv_at hl 3 rfl) ?_
              refine wf_callv hS (wf_runV (As := [.int x2, .int x3]) (rest := []) E hSw hG eH hWd hF hn9 (w4_X6_clearTo l G τ T F n9 x2 x3 hn9 hD) rfl kv_X6_clearTo ml_X9_357 ⟨rfl, rfl, Nat.le_of_ble_eq_true rfl, Nat.le_of_ble_eq_true rfl⟩ rfl hl.1 rfl (Nat.le_of_ble_eq_true rfl) ⟨Nat.zero_le _, Nat.zero_le _⟩ dX9_tape_60) (fun Z H locs eZ hWd hF hS => ?_)
              subst eZ
              refine lv_iconst (v := 1) hx hb dX9_tape_63 (by decide) ?_
              have et : tTape x1.toInt x2.toInt x3.toInt = 1 := by (unfold tTape; (repeat first | rw [if_pos (by omega)] | rw [if_neg (by omega)]); first | done | omega)
              exact wf_iret E hr hlk hWd hF hS (show (1 : Int32).toInt = tTape x1.toInt x2.toInt x3.toInt ∧ ((up1 T.1 n9 x2, up1 T.2 n9 x3), upF F n9 (fun _ => 0)) = (wTape T x1 x2 x3, wTapeF F x1 x2 x3) from ⟨by rw [et]; exact kI_1, by unfold wTape wTapeF; rw [if_pos et, if_pos et, show x1.toInt.toNat = n9 by omega, if_neg (by omega)]⟩) dX9_tape_64
            · skip
              have ic7 := tn_nle kI_0 rfl c7
              refine lv_bipush (v := -14) hx hb dX9_tape_49 (by decide) ?_
              have et : tTape x1.toInt x2.toInt x3.toInt = -14 := by (unfold tTape; (repeat first | rw [if_pos (by omega)] | rw [if_neg (by omega)]); first | done | omega)
              exact wf_iret E hr hlk hWd hF hS (show (-14 : Int32).toInt = tTape x1.toInt x2.toInt x3.toInt ∧ (T, F) = (wTape T x1 x2 x3, wTapeF F x1 x2 x3) from ⟨by rw [et]; exact kI_m14, by unfold wTape wTapeF; rw [if_neg (by rw [et]; decide), if_neg (by rw [et]; decide)]⟩) dX9_tape_51
          · skip
            have ic6 := tn_nle rfl kI_60 c6
            refine lv_bipush (v := -2) hx hb dX9_tape_42 (by decide) ?_
            have et : tTape x1.toInt x2.toInt x3.toInt = -2 := by (unfold tTape; (repeat first | rw [if_pos (by omega)] | rw [if_neg (by omega)]); first | done | omega)
            exact wf_iret E hr hlk hWd hF hS (show (-2 : Int32).toInt = tTape x1.toInt x2.toInt x3.toInt ∧ (T, F) = (wTape T x1 x2 x3, wTapeF F x1 x2 x3) from ⟨by rw [et]; exact kI_m2, by unfold wTape wTapeF; rw [if_neg (by rw [et]; decide), if_neg (by rw [et]; decide)]⟩) dX9_tape_44
    · skip
      have ic3 := tn_eq rfl kI_m1 c3
      refine lv_aload_n hx hb dX9_tape_14 rfl (lv_at hl 0 rfl) ?_
      refine wc_tps E hG t0 ff_X9_57 dX9_tape_15 ?_
      refine lv_iload_n hx hb dX9_tape_18 rfl (lv_at hl 1 rfl) ?_
      refine wc_tap E hWd (t_in (by omega) (by omega)) dX9_tape_19 (fun n12 en12 hn12 => ?_)
      refine lv_iload_n hx hb dX9_tape_20 rfl (lv_at hl 2 rfl) ?_
      refine lv_iconst (v := 0) hx hb dX9_tape_21 (by decide) ?_
      refine wf_callv hS (wf_runV (As := [.int x2, .int 0]) (rest := []) E hSw hG eH hWd hF hn12 (w4_X6_clearTo l G τ T F n12 x2 (0 : Int32) hn12 hD) rfl kv_X6_clearTo ml_X9_357 ⟨rfl, rfl, Nat.le_of_ble_eq_true rfl, Nat.le_of_ble_eq_true rfl⟩ rfl hl.1 rfl (Nat.le_of_ble_eq_true rfl) ⟨Nat.zero_le _, Nat.zero_le _⟩ dX9_tape_22) (fun Z H locs eZ hWd hF hS => ?_)
      subst eZ
      refine lv_iconst (v := 1) hx hb dX9_tape_25 (by decide) ?_
      have et : tTape x1.toInt x2.toInt x3.toInt = 1 := by (unfold tTape; (repeat first | rw [if_pos (by omega)] | rw [if_neg (by omega)]); first | done | omega)
      exact wf_iret E hr hlk hWd hF hS (show (1 : Int32).toInt = tTape x1.toInt x2.toInt x3.toInt ∧ ((up1 T.1 n12 x2, up1 T.2 n12 (0 : Int32)), upF F n12 (fun _ => 0)) = (wTape T x1 x2 x3, wTapeF F x1 x2 x3) from ⟨by rw [et]; exact kI_1, by unfold wTape wTapeF; rw [if_pos et, if_pos et, show x1.toInt.toNat = n12 by omega, if_pos (by omega)]⟩) dX9_tape_26
  · skip
    have ic2 := tn_eq rfl kI_0 c2
    refine lv_iconst (v := -1) hx hb dX9_tape_7 (by decide) ?_
    have et : tTape x1.toInt x2.toInt x3.toInt = -1 := by (unfold tTape; (repeat first | rw [if_pos (by omega)] | rw [if_neg (by omega)]); first | done | omega)
    exact wf_iret E hr hlk hWd hF hS (show (-1 : Int32).toInt = tTape x1.toInt x2.toInt x3.toInt ∧ (T, F) = (wTape T x1 x2 x3, wTapeF F x1 x2 x3) from ⟨by rw [et]; exact kI_m1, by unfold wTape wTapeF; rw [if_neg (by rw [et]; decide), if_neg (by rw [et]; decide)]⟩) dX9_tape_8

set_option maxHeartbeats 4000000 in
set_option maxRecDepth 100000 in
theorem w4_X9_peek (l : Launch) (G : tG) (τ : Nat → Nat) (T : wT) (F : wFF) (h0 : Nat) (x1 : Int32) (x2 : Int32) (t0 : τ h0 = 1) (hI : wIn T) (hD : wDn G 18) : Met l yX9_peek (.code yX9_peek cX9_peek 3 (some .long) :: tWS) (tRm 1 21) (va_Pc [.ref h0, .int x1, .int x2] (wfPre G τ T F)) (tQpl (fun r => r = wPeek T F x1.toInt x2.toInt)) 0 0 tNo := by
  refine wf_met (by decide) (Nat.le_of_ble_eq_true rfl) ?_
  intro p e s m below meth c E hSw hr hlk hG hWd hF ls hl
  have hl : lv_has ls 3 [(0, .ref h0), (1, .int x1), (2, .int x2)] := hl
  have hx := E.1
  have hb := E.2.1
  have hSt : tSt G (tA τ) s := hSw.narrow (fun q h => Or.inl h)
  obtain ⟨H, eH⟩ : ∃ H, H = s.heap := ⟨_, rfl⟩
  obtain ⟨locs, eL⟩ : ∃ x : List Loc, x = [] := ⟨_, rfl⟩
  have hG : tGH G τ s H locs := by rw [eH, eL]; exact hG
  have hWd : wTH G T H := by rw [eH]; exact hWd
  have hF : cF G F H := by rw [eH]; exact hF
  suffices hW : W p l e (tRm 1 21) s m ([.ref h0, .int x1, .int x2] : List Value).toArray below meth c H locs 0 0 (MQ below (tQpl (fun r => r = wPeek T F x1.toInt x2.toInt)) ([.ref h0, .int x1, .int x2] : List Value).toArray s 0 0 tNo) (F0 m 0 ls []) by subst eH; subst eL; exact hW
  refine lv_iload_n hx hb dX9_peek_0 rfl (lv_at hl 1 rfl) ?_
  refine tc_callp (tc_runS (As := [.int x1]) (rest := []) E hSt hG (c_X9_isTape l G τ x1) ks_X9_isTape ml_X9_347 ⟨rfl, rfl, Nat.le_of_ble_eq_true rfl, Nat.le_of_ble_eq_true rfl⟩ rfl hl.1 rfl (Nat.le_of_ble_eq_true rfl) ⟨Nat.zero_le _, Nat.zero_le _⟩ dX9_peek_1) (fun r1 pr1 => ?_)
  have pr1 : (0 ≤ r1.toInt ∧ r1.toInt ≤ 1) ∧ (r1.toInt = 0 ∨ (0 ≤ x1.toInt ∧ x1.toInt ≤ 3)) ∧ (r1.toInt = 1 ∨ x1.toInt < 0 ∨ 3 < x1.toInt) := pr1
  refine lv_if_eq (tgt := 34) hx hb dX9_peek_4 (by decide) (fun c2 => ?_) (fun c2 => ?_)
  · skip
    have ic2 := tn_eq rfl kI_0 c2
    refine lv_ldc2 (v := -9223372036854775808) hx hb E.2.2.2.1 (E.2.2.2.2.1 _ (t_w5 161 rfl rfl)) dX9_peek_34 ?_
    exact tc_plret E hr hlk eH eL (show (-9223372036854775808 : Int64) = wPeek T F x1.toInt x2.toInt by (unfold wPeek; first | rw [if_pos (by omega)] | (rw [show x1.toInt.toNat = n4 by omega]; rw [if_neg (by omega), if_pos (by omega)]))) dX9_peek_37
  · skip
    have ic2 := tn_ne rfl kI_0 c2
    refine lv_aload_n hx hb dX9_peek_7 rfl (lv_at hl 0 rfl) ?_
    refine wc_tps E hG t0 ff_X9_57 dX9_peek_8 ?_
    refine lv_iload_n hx hb dX9_peek_11 rfl (lv_at hl 1 rfl) ?_
    refine wc_tap E hWd (t_in (by omega) (by omega)) dX9_peek_12 (fun n4 en4 hn4 => ?_)
    refine lv_iload_n hx hb dX9_peek_13 rfl (lv_at hl 2 rfl) ?_
    refine tc_callp (wc_runV (As := [.int x2]) (rest := []) E hSw hG eH hWd hn4 (w_X6_hasPlace l G τ T n4 x2 hn4 hI) rfl kv_X6_hasPlace ml_X9_360 ⟨rfl, rfl, Nat.le_of_ble_eq_true rfl, Nat.le_of_ble_eq_true rfl⟩ rfl hl.1 rfl (Nat.le_of_ble_eq_true rfl) ⟨Nat.zero_le _, Nat.zero_le _⟩ dX9_peek_14) (fun r5 pr5 => ?_)
    have pr5 : (r5.toInt = 1 ∧ 0 ≤ x2.toInt ∧ x2.toInt < (T.2 n4).toInt) ∨ (r5.toInt = 0 ∧ (x2.toInt < 0 ∨ (T.2 n4).toInt ≤ x2.toInt)) := pr5
    have hI9 := hI n4 hn4
    refine lv_if_eq (tgt := 34) hx hb dX9_peek_17 (by decide) (fun c6 => ?_) (fun c6 => ?_)
    · skip
      have ic6 := tn_eq rfl kI_0 c6
      refine lv_ldc2 (v := -9223372036854775808) hx hb E.2.2.2.1 (E.2.2.2.2.1 _ (t_w5 161 rfl rfl)) dX9_peek_34 ?_
      exact tc_plret E hr hlk eH eL (show (-9223372036854775808 : Int64) = wPeek T F x1.toInt x2.toInt by (unfold wPeek; first | rw [if_pos (by omega)] | (rw [show x1.toInt.toNat = n4 by omega]; rw [if_neg (by omega), if_pos (by omega)]))) dX9_peek_37
    · skip
      have ic6 := tn_ne rfl kI_0 c6
      refine lv_aload_n hx hb dX9_peek_20 rfl (lv_at hl 0 rfl) ?_
      refine wc_tps E hG t0 ff_X9_57 dX9_peek_21 ?_
      refine lv_iload_n hx hb dX9_peek_24 rfl (lv_at hl 1 rfl) ?_
      refine wc_tap E hWd (t_in (by omega) (by omega)) dX9_peek_25 (fun n8 en8 hn8 => ?_)
      refine wc_its E hWd hn8 (wFr fr_X9_363) dX9_peek_26 ?_
      refine lv_iload_n hx hb dX9_peek_29 rfl (lv_at hl 2 rfl) ?_
      refine wf_lald E hF hn8 (t_in (by omega) (by omega)) dX9_peek_30 ?_
      refine lv_goto (tgt := 37) hx hb dX9_peek_31 (by decide) ?_
      exact tc_plret E hr hlk eH eL (show F n8 x2.toInt.toNat = wPeek T F x1.toInt x2.toInt by (have en9 : n8 = n4 := (by omega); have hI8 := hI n4 hn4; unfold wPeek; rw [show x1.toInt.toNat = n4 by omega]; rw [if_neg (by omega), if_neg (by omega), en9])) dX9_peek_37

