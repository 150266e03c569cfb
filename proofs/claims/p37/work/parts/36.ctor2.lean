section CGR
variable {p : Program} {l : Launch} {e : Env} {R : Room} {s : State} {m : MethodId} {args : Array Value} {below : List Frame} {meth : Method} {c : Code} {H : Heap} {locs : List Loc} {Q : State → Prop}
variable {cc : ByteArray} {pc : Nat} {ls : Array Slot} {rest st0 As : List Value} {a b h t k ci cj index n N : Nat} {G : tG} {own : String} {nL : Nat} {τ τ0 : Nat → Nat} {fs : List Value} {cells slots mc ms : Nat} {y : MethodName} {bytes : ByteArray} {maxL : Nat} {rm : Room}
theorem cg_met {av : List Value} {ret : Option FieldType} {Qc : Array Value → State → Outcome → State → Prop} {sz : Nat} (hy : plainName y.cls = true) (hn : y.name = "<init>") (hsl : (lg_sl (.ref h :: av)).length ≤ maxL)
    (body : ∀ p e s m below meth c, tE G p s m c (Value.ref h :: av).toArray y.cls bytes maxL → tNs s → meth.name = "<init>" → meth.sig.returnType = ret → meth.locks = false → s.heap.size = sz → tCG G τ τ s h ci fs s.heap [] → ∀ ls, lv_has ls maxL (lv_args 0 (.ref h :: av)) → W p l e rm s m (Value.ref h :: av).toArray below meth c s.heap [] 0 0 (MQ below Qc (Value.ref h :: av).toArray s mc ms (tCA h sz)) (F0 m 0 ls [])) :
    Met l y (.code y bytes maxL ret :: tWS) rm (va_Pc (.ref h :: av) (tCP G τ h sz ci fs)) Qc mc ms (tCA h sz) := by
  refine Met.ofW (cc := bytes) (maxL := maxL) (ret := ret) hy rfl ?_
  intro p e s m args below meth c s₁ B hml hv
  obtain ⟨rfl, hsz, hlt, hT, hlt2, h0, hO, hK, hNs⟩ := hv
  have hl := lv_entry (.ref h :: av) (n := maxL) hsl
  rw [lg_entry_eq]
  refine body p e s m below meth c ⟨B.exec, B.bytes, hml, findClass_of_methodNamed B.named, fun w h => atoms_spec (ws := Cond.code y bytes maxL ret :: tWS) B.pre w (List.mem_cons_of_mem _ h), hK⟩ hNs ((name_of_methodNamed B.named B.method).1.trans hn) B.returns B.notSynchronized hsz ⟨hT, by rw [hsz]; exact hlt2, h0, hO, va_S.rf, by rw [hsz]; exact hlt, fun _ _ => rfl, fun _ _ _ e => e, fun q e => by rw [e]; exact ⟨by decide, by decide, fun z => by cases z⟩⟩ _ hl
theorem cg_obj (E : tE G p s m c args own cc nL) (hsz : ls.size = nL) (hl : Cond.methodLink own index objectInit ∈ tWS) (h1 : Cond.instanceMethod objectInit ∈ tWS) (h2 : Cond.code objectInit ⟨#[0xb1]⟩ 1 none ∈ tWS) (hR : 1 ≤ R.frames ∧ 12 ≤ R.locals) (hd : decode cc pc = .ok (.invokespecial index, 3))
    (kk : W p l e R s m args below meth c H locs cells slots Q (F0 m (pc + 3) ls [])) : W p l e R s m args below meth c H locs cells slots Q (F0 m pc ls [.ref a]) := by
  obtain ⟨hx, hb, hml, hown, hts, hK⟩ := E
  exact W.objInit hx hb hown (hts _ hl) (hts _ h1) (hts _ h2) rfl (by rw [hml]; exact hsz) rfl hd hR.1 hR.2 kk
theorem tCG.set {H1 : Heap} {fs1 : List Value} {i : Nat} (hC : tCG G τ0 τ s h ci fs H locs) (z : H1.size = H.size) (oq : ∀ q : Nat, q ≠ h → H1[q]? = H[q]?) (hO : tOb G H1 h ci fs1) : tCG G τ0 τ s h ci fs1 H1 (locs ++ [⟨h, i⟩]) := by
  obtain ⟨h1, h2, h3, h4, h5, h6, h7⟩ := hC
  exact ⟨h1.kept (fun q hq => oq q (fun e => by rw [e] at hq; exact tΓ_no hq h3)), by rw [z]; exact h2, h3, hO, h5.put z oq (Or.inl rfl), h6, h7⟩
theorem cg_put (E : tE G p s m c args own cc nL) (hC : tCG G τ0 τ s h ci fs H locs) {ty : FieldType} {v : Value} (hF : tFp own index ci k ty) (hn : narrow ty v = v) (hfit : fits ty v = true) (hdg : decode cc pc = .ok (.putfield index, 3))
    (kk : ∀ (H1 : Heap) (locs1 : List Loc), tCG G τ0 τ s h ci (fs.set k v) H1 locs1 → (∀ q : Nat, q ≠ h → H1[q]? = H[q]?) → H1.size = H.size → W p l e R s m args below meth c H1 locs1 cells slots Q (F0 m (pc + 3) ls rest)) : W p l e R s m args below meth c H locs cells slots Q (F0 m pc ls (v :: .ref h :: rest)) := by
  obtain ⟨hx, hb, hml, hown, hts, hK⟩ := E
  obtain ⟨C, T, N, tyf, ⟨hc, hin, hty, hnm⟩, hk, hl, hfin, htk⟩ := hF
  subst htk
  have hap := va_apart (own := own) hts hin tyf hty hnm hK hc
  obtain ⟨r, h1, ⟨cell, q1, q2, q3, q4⟩, h3⟩ := hC.2.2.2.1
  have hr : r = (C, T, N) := Option.some.inj (h1.symm.trans hc)
  subst hr
  obtain ⟨hS, hfc, kC, hkC, hkind⟩ := hK.1 ci _ hc
  obtain ⟨cf, kf, fi, f, hi, hsl⟩ := hS k hk
  have hlay := hts _ (hin _ (u_in_lay hk))
  unfold u_lay at hlay
  rw [if_neg (by rw [hfin]; decide)] at hlay
  have hst := (u_facts hfc hkC (u_lays hts hin hk) hi).1
  have h6 := u_store hfc hkC hkind hlay hi (hty k hk) hn hfit
  refine W.putK hx hb (f := f) ⟨hown, hts _ hl, ⟨_, _, _, hi⟩, hst⟩ (by rw [q2]; exact h6) q1 q3 (by rw [hsl]; exact k2_hasslot (q4 k hk)) rfl rfl hdg fun H' e1 e2 e3 => ?_
  rw [hsl] at e1 ⊢
  exact kk H' _ (hC.set e2 e3 ⟨_, hc, t_OB.to (V := updV (vp_V fs) k v) ⟨_, e1, q2, q3, t_set q4 hap hk v⟩ (fun j _ => vp_updV_set (by rw [h3]; exact hk) v j), by rw [List.length_set]; exact h3⟩) e3 e2
theorem cg_putF (E : tE G p s m c args own cc nL) (hin2 : meth.name = "<init>") (hC : tCG G τ0 τ s h ci fs H locs) {ty : FieldType} {v : Value} (hF : tFz own index ci k ty) (hn : narrow ty v = v) (hfit : fits ty v = true) (hdg : decode cc pc = .ok (.putfield index, 3))
    (kk : ∀ (H1 : Heap) (locs1 : List Loc), tCG G τ0 τ s h ci (fs.set k v) H1 locs1 → (∀ q : Nat, q ≠ h → H1[q]? = H[q]?) → H1.size = H.size → W p l e R s m args below meth c H1 locs1 cells slots Q (F0 m (pc + 3) ls rest)) : W p l e R s m args below meth c H locs cells slots Q (F0 m pc ls (v :: .ref h :: rest)) := by
  obtain ⟨hx, hb, hml, hown, hts, hK⟩ := E
  obtain ⟨C, T, N, tyf, ⟨hc, hin, hty, hnm⟩, hk, hl, hfin, htk, hdecl⟩ := hF
  subst htk
  have hap := va_apart (own := own) hts hin tyf hty hnm hK hc
  obtain ⟨r, h1, ⟨cell, q1, q2, q3, q4⟩, h3⟩ := hC.2.2.2.1
  have hr : r = (C, T, N) := Option.some.inj (h1.symm.trans hc)
  subst hr
  obtain ⟨hS, hfc, kC, hkC, hkind⟩ := hK.1 ci _ hc
  obtain ⟨cf, kf, fi, f, hi, hsl⟩ := hS k hk
  have hlay := hts _ (hin _ (u_in_lay hk))
  unfold u_lay at hlay
  rw [if_pos hfin] at hlay
  have hst := (u_facts hfc hkC (u_lays hts hin hk) hi).1
  have hcf : m.cls = cf := by
    obtain ⟨_, _, c', _, _, _, -, -, hf', -, -, -, hown2, -⟩ := Cond.laysFinal_spec hlay
    have e1 : c' = cf := by have := hi.symm.trans hf'; simp at this; exact this.1.symm
    rw [hdecl] at hown2
    rw [← e1]; exact Option.some.inj (hown.symm.trans hown2)
  have h6 := u_fits hfc hkC hkind (Or.inr hlay) hi (hty k hk) hn hfit
  refine W.putFinK hx hb hown (hts _ hl) hi hst hcf hin2 (by rw [q2]; exact h6) q1 q3 (by rw [hsl]; exact k2_hasslot (q4 k hk)) rfl rfl hdg fun H' e1 e2 e3 => ?_
  rw [hsl] at e1 ⊢
  exact kk H' _ (hC.set e2 e3 ⟨_, hc, t_OB.to (V := updV (vp_V fs) k v) ⟨_, e1, q2, q3, t_set q4 hap hk v⟩ (fun j _ => vp_updV_set (by rw [h3]; exact hk) v j), by rw [List.length_set]; exact h3⟩) e3 e2
theorem cg_get (E : tE G p s m c args own cc nL) (hC : tCG G τ0 τ s h ci fs H locs) {v : Value} (hF : tFf own index ci k) (hv : fs[k]? = some v) (hdg : decode cc pc = .ok (.getfield index, 3))
    (kk : W p l e R s m args below meth c H locs cells slots Q (F0 m (pc + 3) ls (v :: rest))) : W p l e R s m args below meth c H locs cells slots Q (F0 m pc ls (.ref h :: rest)) := by
  obtain ⟨r, h1, ⟨cell, q1, q2, q3, q4⟩, h3⟩ := hC.2.2.2.1
  have hlt : k < r.2.2 := by rw [← h3]; exact (List.getElem?_eq_some_iff.mp hv).1
  exact tg_seen E ⟨cell, q1, q3, by rw [q4 k hlt]; simp [vp_V, hv]⟩ hF hdg kk
theorem tCG.grow {H1 : Heap} {q c9 : Nat} (hC : tCG G τ0 τ s h ci fs H locs) (z : H.size ≤ H1.size) (oq : ∀ x : Nat, x < H.size → H1[x]? = H[x]?) (hq : H.size ≤ q) (hq2 : q < H1.size) (h28 : c9 ≠ 28) (h29 : c9 ≠ 29 ∧ (c9 = 7 → q = G.2.2.1 14)) (hnew : tAt G (tShp c9, fun k v => tsv (tUp τ q c9) (tFD c9 k) v ∧ tKn G c9 q k v) q H1) : tCG G τ0 (tUp τ q c9) s h ci fs H1 locs := by
  obtain ⟨h1, h2, h3, h4, h5, h6, h7⟩ := hC
  have hτq : τ q = 0 := Classical.byContradiction fun z9 => by have := h2 q z9; omega
  have hhq : h ≠ q := by have := h4.lt; omega
  refine ⟨TH.ext h1 (fun x hx => oq x (h2 x hx)) (fun x hx => tUp_ne (fun e => hx (by rw [e]; exact hτq))) (fun x hx0 hx1 => ?_), fun x hx => ?_, (tUp_ne hhq).trans h3, h4.kept (oq h h4.lt), ⟨Nat.le_trans h5.1 z, fun x e1 e2 => (oq x (Nat.lt_of_lt_of_le e1 h5.1)).trans (h5.2.1 x e1 e2), h5.2.2⟩, h6, h7.up (Nat.le_trans h5.1 hq) hτq h28 h29⟩
  · have e : x = q := Classical.byContradiction fun e => hx1 ((tUp_ne e).trans hx0)
    subst e
    rw [tUp_at]
    exact hnew
  · by_cases e : x = q
    · rw [e]; exact hq2
    · rw [tUp_ne e] at hx
      exact Nat.lt_of_lt_of_le (h2 x hx) z
theorem cg_newa (E : tE G p s m c args own cc nL) (hC : tCG G τ0 τ s h ci fs H locs) {atype : ArrayType} {ak t9 : Nat} {d : tSD} {nn : Int32} (ha : Cond.arrayClass (newarray.typeOf atype) ∈ tWS) (hty : (tTy G)[ak]? = some (G.2.1 ak, newarray.typeOf atype)) (hF : tArr t9 ak N d) (h28 : t9 ≠ 28) (h29 : t9 ≠ 29 ∧ t9 ≠ 7) (hkn : ∀ i, i < N → tKn G t9 H.size i (defaultValue (newarray.typeOf atype))) (hdv : ∀ τ9, tsv τ9 d (defaultValue (newarray.typeOf atype))) (hnn : ¬ nn < 0) (hN : nn.toNatClampNeg = N) (hby : N * componentBytes (newarray.typeOf atype) ≤ 536870912) (hcl : cells + 1 ≤ R.cells) (hsl : slots + N ≤ R.slots) (hname : ∀ cA, s.vm.findClass ("[" ++ (newarray.typeOf atype).toString) = some cA → cA = G.2.1 ak) (hdg : decode cc pc = .ok (.newarray atype, 2))
    (kk : ∀ (q : Nat) (H1 : Heap), q = H.size → H1.size = H.size + 1 → tCG G τ0 (tUp τ q t9) s h ci fs H1 locs → (∀ x : Nat, x < H.size → H1[x]? = H[x]?) → H.size ≤ q → W p l e R s m args below meth c H1 locs (cells + 1) (slots + N) Q (F0 m (pc + 2) ls (.ref q :: rest))) : W p l e R s m args below meth c H locs cells slots Q (F0 m pc ls (.int nn :: rest)) := by
  obtain ⟨hx, hb, hml, hown, hts, hK⟩ := E
  obtain ⟨h0, hs, hd⟩ := hF
  refine va_newaK hx hb (hts _ ha) rfl hdg rfl hnn hN hby hcl hsl rfl fun H1 cA e1 z1 o1 hAr hNm => ?_
  have ec := hname cA hNm
  subst ec
  refine kk H.size H1 rfl z1 (hC.grow (by omega) o1 (Nat.le_refl _) (by omega) h28 ⟨h29.1, fun z => absurd z h29.2⟩ ?_) o1 (Nat.le_refl _)
  rw [hs]
  exact ⟨_, e1, fun i hi => ⟨by rw [hd]; exact hdv _, hkn i hi⟩⟩
theorem cg_new (E : tE G p s m c args own cc nL) (hC : tCG G τ0 τ s h ci fs H locs) {C : String} {T : u_T} {ty : Nat → FieldType} {fs0 : List Value} (hF : tFc cj C T n ty) (hfs : ∀ j, j < n → defaultValue (ty j) = vp_V fs0 j) (hlen : fs0.length = n) (h1 : Cond.classLink own index C ∈ tWS) (h2 : Cond.instantiable C n ∈ tWS) (h3 : Cond.initialized C ∈ tWS) (hcl : cells + 1 ≤ R.cells) (hsl : slots + n ≤ R.slots) (hdg : decode cc pc = .ok (.new index, 3))
    (kk : ∀ (q : Nat) (H1 : Heap), q = H.size → H1.size = H.size + 1 → tCG G τ0 τ s h ci fs H1 locs → tOb G H1 q cj fs0 → τ q = 0 → q ≠ h → s.heap.size ≤ q → H.size ≤ q → (∀ x : Nat, x < H.size → H1[x]? = H[x]?) → W p l e R s m args below meth c H1 locs (cells + 1) (slots + n) Q (F0 m (pc + 3) ls (.ref q :: rest))) : W p l e R s m args below meth c H locs cells slots Q (F0 m pc ls rest) := by
  obtain ⟨hx, hb, hml, hown, hts, hK⟩ := E
  obtain ⟨hc, hin, hty, hnm⟩ := hF
  have hKn := hK.1 cj _ hc
  obtain ⟨g1, g2, g3, g4, g5, g6, g7⟩ := hC
  refine W.newcK hx hb hown (hts _ h1) (hts _ h2) (hts _ h3) rfl hdg hcl hsl hKn.2.1 rfl fun H1 kC hkC e1 z1 o1 => ?_
  have hlt := g4.lt
  exact kk H.size H1 rfl z1 ⟨g1.kept (fun q hq => o1 q (g2 q (tΓ_no hq))), fun q hq => by have := g2 q hq; omega, g3, g4.kept (o1 h hlt), ⟨by have := g5.1; omega, fun x e1 e2 => (o1 x (Nat.lt_of_lt_of_le e1 g5.1)).trans (g5.2.1 x e1 e2), g5.2.2⟩, g6, g7⟩ ⟨_, hc, (u_born ty hts hin hKn hkC e1 hty).to hfs, hlen⟩ (Classical.byContradiction fun z9 => by have := g2 _ z9; omega) (by omega) g5.1 (Nat.le_refl _) o1
theorem cg_ret {sz t9 nn : Nat} (hr : meth.sig.returnType = none) (hlk : meth.locks = false) (E : tE G p s m c args own cc nL) (hC : tCG G τ0 τ s h ci fs H locs) (hsz : s.heap.size = sz) (h0 : t9 ≠ 0) (h28 : t9 ≠ 28) (h29 : t9 ≠ 29 ∧ (t9 = 7 → h = G.2.2.1 14)) (hs : tShp t9 = .inl ci) (hfs : ∀ k v, fs[k]? = some v → tsv τ (tFD t9 k) v) (hkn : ∀ k v, fs[k]? = some v → tKn G t9 h k v) (hzz : H.size = sz + nn) (hdg : decode cc pc = .ok (.return_, 1)) : W p l e R s m args below meth c H locs cells slots (MQ below (tCQ G τ0 h sz t9 nn) args s cells slots (tCA h sz)) (F0 m pc ls []) := by
  obtain ⟨h1, h2, h3, h4, h5, h6, h7⟩ := hC
  subst hsz
  have hlt := h4.lt
  have hT : TH G (tΓ G (tUp τ h t9)) H := TH.ext h1 (fun _ _ => rfl) (fun x hx => tUp_ne (fun e => hx (by rw [e]; exact h3))) (fun x hx0 hx1 => by
    have e : x = h := Classical.byContradiction fun e => hx1 ((tUp_ne e).trans hx0)
    subst e
    rw [tUp_at, hs]
    obtain ⟨r, g1, g2, g3⟩ := h4
    refine ⟨r, _, g1, g2, fun k hk => ?_⟩
    have hk2 : k < fs.length := by rw [g3]; exact hk
    have hv := hfs k _ (List.getElem?_eq_getElem hk2)
    have e2 : vp_V fs k = fs[k] := by simp [vp_V, hk2]
    rw [e2]
    exact tsv_to (G := G) (a := x) ⟨hv, (by have := hkn k _ (List.getElem?_eq_getElem hk2); exact this)⟩ (fun c hc b hb => by rw [tUp_ne (fun e => tRefs_nz _ c hc (by rw [← hb, e]; exact h3))]; exact hb))
  refine W.vret E.1 E.2.1 hr (fun t ht _ => ⟨⟨tUp τ h t9, rfl, ⟨tUp_at, ?_⟩, by rw [ht]; exact hT, fun q hq => ?_, by rw [ht]; exact hzz⟩, h5.F ht⟩) h5.2.2 hdg hlk
  · refine ⟨fun q hq => ?_, fun q e1 e2 e3 => (tUp_ne e1).trans (h7.2.1 q e1 e2 e3), fun q e3 => ?_⟩
    · have e : q ≠ h := fun e => by have := h7.1 q hq; rw [e, h3] at this; rw [e] at hq; exact hq this.symm
      exact (tUp_ne e).trans (h7.1 q hq)
    · by_cases e : q = h
      · rw [e, tUp_at]; exact ⟨h28, h29.1, h29.2⟩
      · rw [tUp_ne e]; exact h7.2.2 q e3
  · rw [ht]
    by_cases e : q = h
    · rw [e]; exact hlt
    · rw [tUp_ne e] at hq; exact h2 q hq
/-- behind a constructor's call -/
theorem cg_back {A9 : Array Value} {t9 nn : Nat} (hC : tCG G τ0 τ s h ci fs H locs) (hb1 : τ b = 0) (hb2 : b ≠ h) (hb3 : s.heap.size ≤ b) (hr : va_Run p l e R s m args below meth c H locs cells slots mc ms (F0 m pc ls st0) rest (tCQ G τ b H.size t9 nn A9) (tCA b H.size))
    (kk : ∀ (τ' : Nat → Nat) (H1 : Heap) (locs1 : List Loc), H1.size = H.size + nn → τ' b = t9 → (∀ q, τ q ≠ 0 → τ' q = τ q) → (∀ q, q ≠ b → q < H.size → τ q = 0 → τ' q = 0) → tCG G τ0 τ' s h ci fs H1 locs1 → (∀ x : Nat, x < H.size → x ≠ b → H1[x]? = H[x]?) → W p l e R s m args below meth c H1 locs1 (cells + mc) (slots + ms) Q (F0 m (pc + 3) ls rest)) : W p l e R s m args below meth c H locs cells slots Q (F0 m pc ls st0) := by
  obtain ⟨h1, h2, h3, h4, h5, h6, h7⟩ := hC
  have hlt := h4.lt
  refine va_callv hr h5 (fun q _ hq => hq.elim (fun e => by rw [e]; exact Or.inr hb3) (fun e => Or.inr (Nat.le_trans h5.1 e))) (fun q hq => hq.elim (fun e => by rw [e]; exact Or.inr hb3) (fun e => Or.inr (Nat.le_trans h5.1 e))) (fun τ' t H1 locs1 ht _ hp hB hz hk hS => ?_)
  obtain ⟨p1, p2, p3, p4⟩ := hp
  have hold : ∀ x : Nat, x < H.size → x ≠ b → H1[x]? = H[x]? := fun x e1 e2 => hk x e1 (fun z => z.elim e2 (fun z => by omega))
  refine kk τ' H1 locs1 (by rw [← ht]; exact hB.2.2) p1 p2 p3 ⟨ht ▸ hB.1, fun q hq => by rw [← ht]; exact hB.2.1 q hq, p3 h (Ne.symm hb2) hlt h3, h4.kept (hold h hlt (Ne.symm hb2)), hS, h6, ?_⟩ hold
  refine ⟨fun q hq => ?_, fun q e1 e2 e3 => ?_, fun q e3 => ?_⟩
  · rw [p2 q (by rw [h7.1 q hq]; exact hq)]
    exact h7.1 q hq
  · have hlt2 : q < H.size := Nat.lt_of_lt_of_le e2 h5.1
    exact p3 q (by omega) hlt2 (h7.2.1 q e1 e2 e3)
  · by_cases e : τ q = 0
    · exact p4 q e
    · rw [p2 q e]; exact h7.2.2 q e3
theorem cg_pre (hK : va_K G.1 vwCl (tTy G) s) (hNs : tNs s) (hC : tCG G τ0 τ s h ci fs H locs) {fs0 : List Value} (hO : tOb G H b cj fs0) (hb1 : τ b = 0) (U : State) (hU : U.heap = H) (hW : s.WarmedH U.vm) : tCP G τ b H.size cj fs0 U := by
  obtain ⟨h1, h2, h3, h4, h5, h6, h7⟩ := hC
  exact ⟨by rw [hU], hO.lt, by rw [hU]; exact h1, h2, hb1, by rw [hU]; exact hO, va_K.moved hW.alike hK, hNs.warm hW⟩
theorem cg_runI {fs0 : List Value} {t9 nn : Nat} (E : tE G p s m c args own cc nL) (hNs : tNs s) (hC : tCG G τ0 τ s h ci fs H locs) (hO : tOb G H b cj fs0) (hb1 : τ b = 0) (hM : Met l y (.code y bytes maxL none :: tWS) rm (va_Pc (.ref b :: As) (tCP G τ b H.size cj fs0)) (tCQ G τ b H.size t9 nn) mc ms (tCA b H.size)) (hc : tCm y bytes maxL none n ∧ Cond.instanceMethod y ∈ tWS) (hnm : y.name = "<init>") (hl : Cond.methodLink own index y ∈ tWS) (hR : rm.cells = mc ∧ rm.slots = ms ∧ rm.frames + 1 ≤ R.frames ∧ 8 + (maxL + 11) + rm.locals ≤ R.locals) (hn : As.length = n) (hsz : ls.size = nL) (hst : st0 = As.reverse ++ .ref b :: rest) (hW : (rest.map fun v => v.category).sum ≤ 8) (hcs : cells + mc ≤ R.cells ∧ slots + ms ≤ R.slots) (hdg : decode cc pc = .ok (.invokespecial index, 3)) :
    va_Run p l e R s m args below meth c H locs cells slots mc ms (F0 m pc ls st0) rest (tCQ G τ b H.size t9 nn (Value.ref b :: As).toArray) (tCA b H.size) := by
  obtain ⟨hx, hbb, hml, hown, hts, hK⟩ := id E
  exact va_runI ⟨hx, hbb, hml, hown, hts⟩ hM ⟨callB_of n hts (t_good hc.1.1) rfl hR.1 hR.2.1 (hts _ hc.1.2.1) (hts _ hl) hc.1.2.2 hR.2.2, hnm, hts _ hc.2⟩ ⟨tCP.blind, fun U hU hWm => ⟨rfl, cg_pre hK hNs hC hO hb1 U hU hWm⟩⟩ rfl hn hsz hst (lv_room hW) hdg hcs
theorem cg_runN {fs0 : List Value} {t9 nn : Nat} (E : tE G p s m c args own cc nL) (hNs : tNs s) (hC : tCG G τ0 τ s h ci fs H locs) (hO : tOb G H b cj fs0) (hb1 : τ b = 0) (hM : Met l y (.code y bytes maxL none :: tWS) rm (va_Pc (.ref b :: As) (tCP G τ b H.size cj fs0)) (tCQ G τ b H.size t9 nn) mc ms (tCA b H.size)) (hc : tCm y bytes maxL none n ∧ Cond.instanceMethod y ∈ tWS) (hnm : y.name = "<init>") (hl : (own, index, y) ∈ tNst) (hR : rm.cells = mc ∧ rm.slots = ms ∧ rm.frames + 1 ≤ R.frames ∧ 8 + (maxL + 11) + rm.locals ≤ R.locals) (hn : As.length = n) (hsz : ls.size = nL) (hst : st0 = As.reverse ++ .ref b :: rest) (hW : (rest.map fun v => v.category).sum ≤ 8) (hcs : cells + mc ≤ R.cells ∧ slots + ms ≤ R.slots) (hdg : decode cc pc = .ok (.invokespecial index, 3)) :
    va_Run p l e R s m args below meth c H locs cells slots mc ms (F0 m pc ls st0) rest (tCQ G τ b H.size t9 nn (Value.ref b :: As).toArray) (tCA b H.size) := by
  obtain ⟨hx, hbb, hml, hown, hts, hK⟩ := id E
  exact va_runIN ⟨hx, hbb, hml, hown, hts⟩ hM ⟨va_cnB n hts (t_good hc.1.1) rfl hR.1 hR.2.1 (hNs.1 _ hl) (hts _ hc.1.2.1) hc.1.2.2 hR.2.2, hnm, hts _ hc.2⟩ ⟨tCP.blind, fun U hU hWm => ⟨rfl, cg_pre hK hNs hC hO hb1 U hU hWm⟩⟩ rfl hn hsz hst (lv_room hW) hdg hcs
end CGR
