/-! ===== the tapes, apart from the typed heap ===== -/
/-- sorts and lengths -/
abbrev wT : Type := (Nat → Int32) × (Nat → Int32)
def wIn (T : wT) : Prop := ∀ i, i < 4 → (-1 ≤ (T.1 i).toInt ∧ (T.1 i).toInt ≤ 3) ∧ 0 ≤ (T.2 i).toInt ∧ (T.2 i).toInt ≤ 60
def wL (v : Value) : Prop := ∃ x : Int64, v = .long x
def wS (G : tG) (T : wT) (i k : Nat) (v : Value) : Prop := (k = 0 → v = .ref (G.2.2.1 (10 + i))) ∧ (k = 1 → v = .int (T.1 i)) ∧ (k = 2 → v = .int (T.2 i))
def wTH (G : tG) (T : wT) (H : Heap) : Prop := tAt G (.inr (4, 4), fun k v => v = .ref (G.2.2.1 (6 + k))) (G.2.2.1 5) H ∧ ∀ i, i < 4 → tAt G (.inl 5, wS G T i) (G.2.2.1 (6 + i)) H ∧ tAt G (.inr (2, 60), fun _ v => wL v) (G.2.2.1 (10 + i)) H
abbrev wFF : Type := Nat → Nat → Int64
def cF (G : tG) (F : wFF) (H : Heap) : Prop := ∀ i, i < 4 → tAt G (.inr (2, 60), fun k v => v = .long (F i k)) (G.2.2.1 (10 + i)) H
def wA (G : tG) : Nat → Prop := fun q => ∃ i, 5 ≤ i ∧ i < 14 ∧ q = G.2.2.1 i
/-- the addresses are apart -/
def wDn (G : tG) (n : Nat) : Prop := ∀ i j, 5 ≤ i → i < n → 5 ≤ j → j < n → G.2.2.1 i = G.2.2.1 j → i = j
def tGa (G : tG) (n : Nat) (ad : Nat → Nat) : tG := (G.1, G.2.1, fun i => if i < n then G.2.2.1 i else ad i, G.2.2.2.1, G.2.2.2.2)
theorem tGa_lo {G : tG} {n i : Nat} {ad : Nat → Nat} (h : i < n) : (tGa G n ad).2.2.1 i = G.2.2.1 i := if_pos h
theorem tGa_hi {G : tG} {n i : Nat} {ad : Nat → Nat} (h : n ≤ i) : (tGa G n ad).2.2.1 i = ad i := if_neg (by omega)
theorem tAt_G {G : tG} {n : Nat} {ad : Nat → Nat} {sh : tSH} {a : Nat} {H : Heap} : tAt (tGa G n ad) sh a H = tAt G sh a H := by
  obtain ⟨k, P⟩ := sh
  cases k <;> rfl
theorem TH_G {G : tG} {n : Nat} {ad : Nat → Nat} {Γ : Nat → Option tSH} {H : Heap} : TH (tGa G n ad) Γ H = TH G Γ H := by
  unfold TH
  simp only [tAt_G]
theorem tNo4_getD {ds : List tSD} (h : ds.all (fun d => !(d.1 == 4)) = true) (k : Nat) : ((ds.getD k tAny).1 == 4) = false := by
  rw [List.getD_eq_getElem?_getD]
  cases e : ds[k]? with
  | none => rfl
  | some d => have := List.all_eq_true.mp h d (List.mem_of_getElem? e); simpa using this
theorem tFD_n4 : ∀ t k : Nat, t ≠ 1 → ((tFD t k).1 == 4) = false
  | 0, k, _ => tNo4_getD (by decide) k
  | 1, k, h => absurd rfl h
  | 2, k, _ => tNo4_getD (by decide) k
  | 3, k, _ => tNo4_getD (by decide) k
  | 4, k, _ => tNo4_getD (by decide) k
  | 5, k, _ => tNo4_getD (by decide) k
  | 6, k, _ => tNo4_getD (by decide) k
  | 7, k, _ => tNo4_getD (by decide) k
  | 8, k, _ => tNo4_getD (by decide) k
  | 9, k, _ => tNo4_getD (by decide) k
  | 10, _, _ => rfl
  | 11, _, _ => rfl
  | 12, _, _ => rfl
  | 13, _, _ => rfl
  | 14, _, _ => rfl
  | 15, _, _ => rfl
  | 16, _, _ => rfl
  | 17, _, _ => rfl
  | 18, _, _ => rfl
  | 19, _, _ => rfl
  | 20, _, _ => rfl
  | 21, _, _ => rfl
  | 22, k, _ => tNo4_getD (by decide) k
  | 23, k, _ => tNo4_getD (by decide) k
  | 24, k, _ => tNo4_getD (by decide) k
  | 25, k, _ => tNo4_getD (by decide) k
  | 26, k, _ => tNo4_getD (by decide) k
  | 27, k, _ => tNo4_getD (by decide) k
  | 28, k, _ => tNo4_getD (by decide) k
  | 29, k, _ => tNo4_getD (by decide) k
  | t + 30, k, _ => tNo4_getD (ds := [(1, 15, 0), (1, 16, 0), (1, 15, 0), (1, 15, 0), (1, 17, 0), (0, 0, 24), (1, 18, 0), (0, 0, 120), tAny, (0, 0, 120), tBool]) (by decide) k
theorem tsv_G {G G' : tG} {τ : Nat → Nat} {t k : Nat} {v : Value} (ht : t ≠ 1) (h : tsv G τ (tFD t k) v) : tsv G' τ (tFD t k) v := by
  have h4 := tFD_n4 t k ht
  generalize tFD t k = d at h h4 ⊢
  obtain ⟨n, a, z⟩ := d
  match n, h, h4 with
  | 0, h, _ => exact h
  | 1, h, _ => exact h
  | 2, h, _ => exact h
  | 3, h, _ => exact h
  | 4, _, h4 => simp at h4
  | n + 5, h, _ => exact h
theorem tsv_5 {G G' : tG} (e : G'.2.2.1 5 = G.2.2.1 5) {τ : Nat → Nat} {d : tSD} {v : Value} (h : tsv G τ d v) : tsv G' τ d v := by
  obtain ⟨n, a, z⟩ := d
  match n, h with
  | 0, h => exact h
  | 1, h => exact h
  | 2, h => exact h
  | 3, h => exact h
  | 4, h => show v = .ref (G'.2.2.1 5); rw [e]; exact h
  | n + 5, h => exact h
/-- nothing typed is a face: the tapes' addresses don't matter -/
theorem tTH_G {G : tG} {n : Nat} {ad : Nat → Nat} {τ : Nat → Nat} {H : Heap} (h1 : ∀ q, τ q ≠ 1) (h : TH G (tΓ G τ) H) : TH G (tΓ (tGa G n ad) τ) H := by
  rw [← TH_G (n := n) (ad := ad)]
  refine TH.mk (fun q hq => ?_)
  rw [tAt_G]
  exact (h.at hq).to (fun j v hv => tsv_G (h1 q) hv)
/-- the face's own tapes' addresses stay -/
theorem tTH_5 {G : tG} {n : Nat} {ad : Nat → Nat} {τ : Nat → Nat} {H : Heap} (hn : 5 < n) (h : TH G (tΓ G τ) H) : TH G (tΓ (tGa G n ad) τ) H := by
  rw [← TH_G (n := n) (ad := ad)]
  refine TH.mk (fun q hq => ?_)
  rw [tAt_G]
  exact (h.at hq).to (fun j v hv => tsv_5 (tGa_lo hn) hv)
/-! ===== the face's constructor ===== -/
abbrev wIQ (G : tG) (h sz : Nat) : Array Value → State → Outcome → State → Prop := va_Qv (S := Unit) (fun _ => True) (fun _ u => u.heap.size = sz + 1 ∧ tOb G u.heap h 5 [.ref sz, .int (-1), .int 0] ∧ u.heap[sz]? = some (arrV (G.2.1 2) 60 (fun _ => .long 0))) (tCA h sz)
def wad (q S0 : Nat) : Nat → Nat := fun i => if i = 5 then q else if i < 10 then S0 + 2 * (i - 6) else S0 + 2 * (i - 10) + 1
abbrev wXQ (G : tG) (τ : Nat → Nat) (h sz : Nat) : Array Value → State → Outcome → State → Prop := va_Qv (S := (Nat → Nat) × (Nat → Nat)) (fun w => w.1 h = 1 ∧ ((∀ q, τ q ≠ 0 → w.1 q = τ q) ∧ (∀ q, q ≠ h → q < sz → τ q = 0 → w.1 q = 0) ∧ ∀ q, τ q = 0 → w.1 q ≠ 28 ∧ w.1 q ≠ 29) ∧ (∀ i j, 5 ≤ i → i < 14 → 5 ≤ j → j < 14 → w.2 i = w.2 j → i = j) ∧ ∀ i, 5 ≤ i → i < 14 → w.1 (w.2 i) = 0 ∧ sz ≤ w.2 i) (fun w u => TH G (tΓ (tGa G 5 w.2) w.1) u.heap ∧ (∀ q, w.1 q ≠ 0 → q < u.heap.size) ∧ (wTH (tGa G 5 w.2) (fun _ => -1, fun _ => 0) u.heap ∧ cF (tGa G 5 w.2) (fun _ _ => 0) u.heap) ∧ ∀ i, 5 ≤ i → i < 14 → w.2 i < u.heap.size) (tCA h sz)
section WCG
variable {p : Program} {l : Launch} {e : Env} {R : Room} {s : State} {m : MethodId} {args : Array Value} {below : List Frame} {meth : Method} {c : Code} {H : Heap} {locs : List Loc} {Q : State → Prop}
variable {cc : ByteArray} {pc : Nat} {ls : Array Slot} {rest st0 As : List Value} {a b h t k ci cj index n N q : Nat} {G : tG} {own : String} {nL : Nat} {τ τ0 : Nat → Nat} {fs : List Value} {cells slots mc ms : Nat} {y : MethodName} {bytes : ByteArray} {maxL : Nat} {rm : Room}
theorem cg_newx (E : tE G p s m c args own cc nL) (hC : tCG G τ0 τ s h ci fs H locs) {atype : ArrayType} {ak : Nat} {nn : Int32} (ha : Cond.arrayClass (newarray.typeOf atype) ∈ tWS) (hnn : ¬ nn < 0) (hN : nn.toNatClampNeg = N) (hby : N * componentBytes (newarray.typeOf atype) ≤ 536870912) (hcl : cells + 1 ≤ R.cells) (hsl : slots + N ≤ R.slots) (hname : ∀ cA, s.vm.findClass ("[" ++ (newarray.typeOf atype).toString) = some cA → cA = G.2.1 ak) (hdg : decode cc pc = .ok (.newarray atype, 2))
    (kk : ∀ (H1 : Heap), tCG G τ0 τ s h ci fs H1 locs → H1.size = H.size + 1 → H1[H.size]? = some (arrV (G.2.1 ak) N (fun _ => defaultValue (newarray.typeOf atype))) → (∀ x : Nat, x < H.size → H1[x]? = H[x]?) → W p l e R s m args below meth c H1 locs (cells + 1) (slots + N) Q (F0 m (pc + 2) ls (.ref H.size :: rest))) : W p l e R s m args below meth c H locs cells slots Q (F0 m pc ls (.int nn :: rest)) := by
  obtain ⟨hx, hb, hml, hown, hts, hK⟩ := E
  refine va_newaK hx hb (hts _ ha) rfl hdg rfl hnn hN hby hcl hsl rfl fun H1 cA e1 z1 o1 hAr hNm => ?_
  have ec := hname cA hNm
  subst ec
  exact kk H1 (hC.push (by omega) o1) z1 e1 o1
theorem cg_newE (E : tE G p s m c args own cc nL) (hC : tCG G τ0 τ s h ci fs H locs) {C : String} {T : u_T} {ty : Nat → FieldType} {fs0 : List Value} (hF : tFc cj C T n ty) (hfs : ∀ j, j < n → defaultValue (ty j) = vp_V fs0 j) (hlen : fs0.length = n) (h1 : Cond.classLink own index C ∈ tWS) (h2 : Cond.instantiable C n ∈ tWS) (h3 : Cond.initialized C ∈ tWS) (hcl : cells + 1 ≤ R.cells) (hsl : slots + n ≤ R.slots) (hdg : decode cc pc = .ok (.new index, 3))
    (kk : ∀ (H1 : Heap), tCG G τ0 τ s h ci fs H1 locs → tOb G H1 H.size cj fs0 → τ H.size = 0 → H.size ≠ h → s.heap.size ≤ H.size → H1.size = H.size + 1 → (∀ x : Nat, x < H.size → H1[x]? = H[x]?) → W p l e R s m args below meth c H1 locs (cells + 1) (slots + n) Q (F0 m (pc + 3) ls (.ref H.size :: rest))) : W p l e R s m args below meth c H locs cells slots Q (F0 m pc ls rest) := by
  obtain ⟨hx, hb, hml, hown, hts, hK⟩ := E
  obtain ⟨hc, hin, hty, hnm⟩ := hF
  have hKn := hK.1 cj _ hc
  obtain ⟨g1, g2, g3, g4, g5, g6, g7⟩ := hC
  refine W.newcK hx hb hown (hts _ h1) (hts _ h2) (hts _ h3) rfl hdg hcl hsl hKn.2.1 rfl fun H1 kC hkC e1 z1 o1 => ?_
  have hlt := g4.lt
  exact kk H1 ⟨g1.kept (fun q hq => o1 q (g2 q (tΓ_no hq))), fun q hq => by have := g2 q hq; omega, g3, g4.kept (o1 h hlt), ⟨by have := g5.1; omega, fun x e1 e2 => (o1 x (Nat.lt_of_lt_of_le e1 g5.1)).trans (g5.2.1 x e1 e2), g5.2.2⟩, g6, g7⟩ ⟨_, hc, (u_born ty hts hin hKn hkC e1 hty).to hfs, hlen⟩ (Classical.byContradiction fun z9 => by have := g2 _ z9; omega) (by omega) g5.1 z1 o1
theorem cg_runNQ {fs0 : List Value} {Qc : Array Value → State → Outcome → State → Prop} (E : tE G p s m c args own cc nL) (hNs : tNs s) (hC : tCG G τ0 τ s h ci fs H locs) (hO : tOb G H b cj fs0) (hb1 : τ b = 0) (hM : Met l y (.code y bytes maxL none :: tWS) rm (va_Pc (.ref b :: As) (tCP G τ b H.size cj fs0)) Qc mc ms (tCA b H.size)) (hc : tCm y bytes maxL none n ∧ Cond.instanceMethod y ∈ tWS) (hnm : y.name = "<init>") (hl : (own, index, y) ∈ tNst) (hR : rm.cells = mc ∧ rm.slots = ms ∧ rm.frames + 1 ≤ R.frames ∧ 8 + (maxL + 11) + rm.locals ≤ R.locals) (hn : As.length = n) (hsz : ls.size = nL) (hst : st0 = As.reverse ++ .ref b :: rest) (hW : (rest.map fun v => v.category).sum ≤ 8) (hcs : cells + mc ≤ R.cells ∧ slots + ms ≤ R.slots) (hdg : decode cc pc = .ok (.invokespecial index, 3)) :
    va_Run p l e R s m args below meth c H locs cells slots mc ms (F0 m pc ls st0) rest (Qc (Value.ref b :: As).toArray) (tCA b H.size) := by
  obtain ⟨hx, hbb, hml, hown, hts, hK⟩ := id E
  exact va_runIN ⟨hx, hbb, hml, hown, hts⟩ hM ⟨va_cnB n hts (t_good hc.1.1) rfl hR.1 hR.2.1 (hNs.1 _ hl) (hts _ hc.1.2.1) hc.1.2.2 hR.2.2, hnm, hts _ hc.2⟩ ⟨tCP.blind, fun U hU hWm => ⟨rfl, cg_pre hK hNs hC hO hb1 U hU hWm⟩⟩ rfl hn hsz hst (lv_room hW) hdg hcs
/-- behind the making of a tape -/
theorem cg_backW {A9 : Array Value} (hC : tCG G τ0 τ s h ci fs H locs) (hb1 : τ b = 0) (hb2 : b ≠ h) (hb3 : s.heap.size ≤ b) (hr : va_Run p l e R s m args below meth c H locs cells slots mc ms (F0 m pc ls st0) rest (wIQ G b H.size A9) (tCA b H.size))
    (kk : ∀ (H1 : Heap) (locs1 : List Loc), tCG G τ0 τ s h ci fs H1 locs1 → H1.size = H.size + 1 → tOb G H1 b 5 [.ref H.size, .int (-1), .int 0] → H1[H.size]? = some (arrV (G.2.1 2) 60 (fun _ => .long 0)) → (∀ x : Nat, x < H.size → x ≠ b → H1[x]? = H[x]?) → W p l e R s m args below meth c H1 locs1 (cells + mc) (slots + ms) Q (F0 m (pc + 3) ls rest)) : W p l e R s m args below meth c H locs cells slots Q (F0 m pc ls st0) := by
  obtain ⟨h1, h2, h3, h4, h5, h6, h7⟩ := hC
  have hlt := h4.lt
  have hsz := h5.1
  refine va_callv hr h5 (fun q _ h => h.elim (fun e => Or.inr (by omega)) (fun e => Or.inr (by omega))) (fun q h => h.elim (fun e => Or.inr (by omega)) (fun e => Or.inr (by omega))) (fun u t H1 locs1 ht _ _ hB hz hk hS => ?_)
  have oq : ∀ x : Nat, x < H.size → x ≠ b → H1[x]? = H[x]? := fun x e1 e2 => hk x e1 (fun z => z.elim e2 (fun z => by omega))
  rw [ht] at hB
  exact kk H1 locs1 ⟨h1.kept (fun q hq => oq q (h2 q (tΓ_no hq)) (fun e => tΓ_no hq (by rw [e]; exact hb1))), fun q hq => Nat.lt_of_lt_of_le (h2 q hq) hz, h3, h4.kept (oq h hlt (Ne.symm hb2)), hS, h6, h7⟩ hB.1 hB.2.1 hB.2.2 oq
theorem cg_aastE (E : tE G p s m c args own cc nL) {C : String} {T : u_T} {NN : Nat} (hC : tCG G τ0 τ s h ci fs H locs) {ak : Nat} {V : Nat → Value} {i : Int32} {fs9 : List Value} (hA : H[q]? = some (arrV (G.2.1 ak) N V)) (hq1 : τ q = 0) (hq2 : q ≠ h) (hq3 : s.heap.size ≤ q) (hty : (tTy G)[ak]? = some (G.2.1 ak, .object C)) (hO : tOb G H b cj fs9) (hc : vwCl[cj]? = some (C, T, NN)) (hin : vp_in i N) (hdg : decode cc pc = .ok (.aastore, 1))
    (kk : ∀ (H1 : Heap) (locs1 : List Loc), tCG G τ0 τ s h ci fs H1 locs1 → H1[q]? = some (arrV (G.2.1 ak) N (updV V i.toNatClampNeg (.ref b))) → H1.size = H.size → (∀ x : Nat, x ≠ q → H1[x]? = H[x]?) → W p l e R s m args below meth c H1 locs1 cells slots Q (F0 m (pc + 1) ls rest)) : W p l e R s m args below meth c H locs cells slots Q (F0 m pc ls (.ref b :: .int i :: .ref q :: rest)) := by
  obtain ⟨hx, hb, hml, hown, hts, hK⟩ := E
  obtain ⟨r, h1, ⟨cellV, g1, g2, g3, g4⟩, h3⟩ := hO
  have hcls := (hK.1 cj _ hc).2
  obtain ⟨kA, comp, k1, k2, k3, -⟩ := (hK.2 ak _ hty).2
  have hcomp : comp = G.1.1 cj := Option.some.inj (k3.symm.trans hcls.1)
  subst hcomp
  obtain ⟨kC, hkC, -⟩ := hcls.2
  have hlt : i.toNatClampNeg < N := t_inL hin
  refine W.aast hx hb hA (fun q h => by cases h) (fun h => by cases h) k1 k2 rfl hkC ⟨fun z => hin (Or.inl z), by show _ < (arrV _ _ _).slots.size; rw [arrV_size]; exact hlt⟩ g1 (fun q h => by rw [g3] at h; cases h) (by rw [g2]; exact hkC) (by rw [g2]; exact va_assign hcls) rfl rfl hdg fun H1 e1 z oq => ?_
  exact kk H1 _ (hC.alt hq1 hq2 hq3 z oq) (by rw [e1, arrV_store]) z oq
theorem wAt_Ob {fs9 : List Value} {P : Nat → Value → Prop} (hO : tOb G H b cj fs9) (hP : ∀ k v, fs9[k]? = some v → P k v) : tAt G (.inl cj, P) b H := by
  obtain ⟨r, h1, h2, h3⟩ := hO
  refine ⟨r, _, h1, h2, fun k hk => ?_⟩
  have hk2 : k < fs9.length := by rw [h3]; exact hk
  have e2 : vp_V fs9 k = fs9[k] := by simp [vp_V, hk2]
  rw [e2]
  exact hP k _ (List.getElem?_eq_getElem hk2)
theorem wx_ret {sz S0 : Nat} (hr : meth.sig.returnType = none) (hlk : meth.locks = false) (E : tE G p s m c args own cc nL) (hC : tCG G τ0 τ s h 8 fs H locs) (hsz : s.heap.size = sz) (h1τ : ∀ x, τ x ≠ 1) (hfs : ∀ k v, fs[k]? = some v → tsv (tGa G 5 (wad q S0)) τ (tFD 1 k) v) (hq1 : τ q = 0) (hq2 : q ≠ h) (hq3 : s.heap.size ≤ q) (hq4 : q < S0) (hS0 : ∀ x, τ x ≠ 0 → x < S0) (hHs : H.size = S0 + 2 * 4) (hA : H[q]? = some (arrV (G.2.1 4) 4 (fun j => if j < 4 then .ref (S0 + 2 * j) else .null)))
    (hT : ∀ j, j < 4 → tOb G H (S0 + 2 * j) 5 [.ref (S0 + 2 * j + 1), .int (-1), .int 0] ∧ H[S0 + 2 * j + 1]? = some (arrV (G.2.1 2) 60 (fun _ => .long 0))) (hdg : decode cc pc = .ok (.return_, 1)) : W p l e R s m args below meth c H locs cells slots (MQ below (wXQ G τ0 h sz) args s cells slots (tCA h sz)) (F0 m pc ls []) := by
  obtain ⟨h1, h2, h3, h4, h5, h6, h7⟩ := hC
  subst hsz
  have hlt := h4.lt
  have hhS : h < S0 := by omega
  have hT1 : TH G (tΓ (tGa G 5 (wad q S0)) (tUp τ h 1)) H := by
    rw [← TH_G (n := 5) (ad := wad q S0)]
    refine TH.ext (τ := τ) (by rw [TH_G]; exact tTH_G h1τ h1) (fun _ _ => rfl) (fun x hx => tUp_ne (fun e => hx (by rw [e]; exact h3))) (fun x hx0 hx1 => ?_)
    have e : x = h := Classical.byContradiction fun e => hx1 ((tUp_ne e).trans hx0)
    subst e
    rw [tUp_at, tAt_G]
    exact wAt_Ob h4 (fun k v hv => tsv_to (hfs k v hv) (fun c hc b hb => by rw [tUp_ne (fun e => tRefs_nz _ c hc (by rw [← hb, e]; exact h3))]; exact hb))
  have hw0 : ∀ x, S0 ≤ x → τ x = 0 := fun x hx => Classical.byContradiction fun z => by have := hS0 x z; omega
  have had : ∀ i, 5 ≤ i → i < 14 → (wad q S0 i = q ∧ i = 5) ∨ (S0 ≤ wad q S0 i ∧ wad q S0 i < S0 + 8) := fun i e1 e2 => by
    unfold wad
    split
    · rename_i e; exact Or.inl ⟨rfl, e⟩
    · split <;> exact Or.inr ⟨by omega, by omega⟩
  have hinj : ∀ i j, 5 ≤ i → i < 14 → 5 ≤ j → j < 14 → wad q S0 i = wad q S0 j → i = j := fun i j e1 e2 e3 e4 e5 => by
    unfold wad at e5
    split at e5 <;> split at e5 <;> (try split at e5) <;> (try split at e5) <;> omega
  have hz9 : ∀ i, 5 ≤ i → i < 14 → tUp τ h 1 (wad q S0 i) = 0 ∧ s.heap.size ≤ wad q S0 i := fun i e1 e2 => by
    have hsz := h5.1
    rcases had i e1 e2 with ⟨e, -⟩ | e
    · rw [e]; exact ⟨(tUp_ne hq2).trans hq1, hq3⟩
    · refine ⟨(tUp_ne (by omega)).trans (hw0 _ e.1), by omega⟩
  have hWT : wTH (tGa G 5 (wad q S0)) (fun _ => -1, fun _ => 0) H := by
    refine ⟨?_, fun i hi => ⟨?_, ?_⟩⟩
    · rw [tAt_G, show (tGa G 5 (wad q S0)).2.2.1 5 = q from rfl]
      refine ⟨_, hA, fun j hj => ?_⟩
      show (if j < 4 then Value.ref (S0 + 2 * j) else .null) = .ref ((tGa G 5 (wad q S0)).2.2.1 (6 + j))
      rw [if_pos hj, tGa_hi (by omega)]
      unfold wad
      rw [if_neg (by omega), if_pos (by omega), show 6 + j - 6 = j by omega]
    · rw [tAt_G, tGa_hi (by omega)]
      have e : wad q S0 (6 + i) = S0 + 2 * i := by unfold wad; rw [if_neg (by omega), if_pos (by omega), show 6 + i - 6 = i by omega]
      rw [e]
      refine wAt_Ob (hT i hi).1 (fun k v hv => ⟨fun ek => ?_, fun ek => ?_, fun ek => ?_⟩)
      · subst ek
        rw [tGa_hi (by omega)]
        have e : wad q S0 (10 + i) = S0 + 2 * i + 1 := by unfold wad; rw [if_neg (by omega), if_neg (by omega), show 10 + i - 10 = i by omega]
        rw [e]
        simpa using hv.symm
      · subst ek; simpa using hv.symm
      · subst ek; simpa using hv.symm
    · rw [tAt_G, tGa_hi (by omega)]
      have e : wad q S0 (10 + i) = S0 + 2 * i + 1 := by unfold wad; rw [if_neg (by omega), if_neg (by omega), show 10 + i - 10 = i by omega]
      rw [e]
      exact ⟨_, (hT i hi).2, fun _ _ => ⟨0, rfl⟩⟩
  have hCF : cF (tGa G 5 (wad q S0)) (fun _ _ => 0) H := fun i hi => by
    rw [tAt_G, tGa_hi (by omega)]
    have e : wad q S0 (10 + i) = S0 + 2 * i + 1 := by unfold wad; rw [if_neg (by omega), if_neg (by omega), show 10 + i - 10 = i by omega]
    rw [e]
    exact ⟨_, (hT i hi).2, fun _ _ => rfl⟩
  refine W.vret E.1 E.2.1 hr (fun t ht _ => ⟨⟨(tUp τ h 1, wad q S0), rfl, ⟨tUp_at, ⟨fun x hx => ?_, fun x e1 e2 e3 => (tUp_ne e1).trans (h7.2.1 x e1 e2 e3), fun x e3 => ?_⟩, hinj, hz9⟩, by rw [ht]; exact hT1, fun x hx => ?_, (show wTH (tGa G 5 (wad q S0)) (fun _ => -1, fun _ => 0) t.heap ∧ cF (tGa G 5 (wad q S0)) (fun _ _ => 0) t.heap by rw [ht]; exact ⟨hWT, hCF⟩), fun i e1 e2 => ?_⟩, h5.F ht⟩) h5.2.2 hdg hlk
  · have e : x ≠ h := fun e => by have := h7.1 x hx; rw [e, h3] at this; rw [e] at hx; exact hx this.symm
    exact (tUp_ne e).trans (h7.1 x hx)
  · show tUp τ h 1 x ≠ 28 ∧ tUp τ h 1 x ≠ 29
    by_cases e : x = h
    · rw [e, tUp_at]; decide
    · rw [tUp_ne e]; exact ⟨(h7.2.2 x e3).1, (h7.2.2 x e3).2.1⟩
  · rw [ht]
    have hx : tUp τ h 1 x ≠ 0 := hx
    by_cases e : x = h
    · rw [e]; exact hlt
    · rw [tUp_ne e] at hx; exact h2 x hx
  · rw [ht]
    show wad q S0 i < H.size
    rcases had i e1 e2 with ⟨e, -⟩ | e
    · rw [e]; omega
    · omega
end WCG
theorem k_X6_w {l : Launch} {G : tG} {τ : Nat → Nat} {h sz : Nat} : Met l yX6_init (.code yX6_init cX6_init 1 none :: tWS) { frames := 1, cells := 1, slots := 60, locals := 12 } (va_Pc (.ref h :: []) (tCP G τ h sz 5 fsX6)) (wIQ G h sz) 1 60 (tCA h sz) := by
  refine cg_met rfl rfl (Nat.le_of_ble_eq_true rfl) ?_
  intro p e s m below meth c E hNs hin hr hlk hsz hC ls hl
  have hx := E.1
  have hb := E.2.1
  have hh := hC.2.2.2.2.2.1
  generalize hH : s.heap = H at hC ⊢
  generalize hL : ([] : List Loc) = locs at hC ⊢
  refine lv_aload_n hx hb dX6_init_0 rfl (lv_at hl 0 rfl) ?_
  refine cg_obj E hl.1 (t_w2 164 rfl rfl) ko_1 ko_2 ⟨Nat.le_of_ble_eq_true rfl, Nat.le_of_ble_eq_true rfl⟩ dX6_init_1 ?_
  refine lv_aload_n hx hb dX6_init_4 rfl (lv_at hl 0 rfl) ?_
  refine lv_bipush (v := 60) hx hb dX6_init_5 (by decide) ?_
  refine cg_newx (N := 60) (ak := 2) E hC (atype := .long) (t_w2 178 rfl rfl) (by decide) (by decide) (by decide) (Nat.le_of_ble_eq_true rfl) (Nat.le_of_ble_eq_true rfl) (fun cA hc => Option.some.inj (hc.symm.trans (E.2.2.2.2.2.2 2 (G.2.1 2, .long) rfl).2)) dX6_init_7 (fun H1 hC z1 e1 o1 => ?_)
  have eS : H.size = sz := by rw [← hH]; exact hsz
  rw [eS] at z1 e1 ⊢
  refine cg_putF E hin hC fz_X6_9 rfl rfl dX6_init_9 (fun H2 locs hC ho hzs => ?_)
  have e2 := (ho sz (by omega)).trans e1
  refine lv_aload_n hx hb dX6_init_12 rfl (lv_at hl 0 rfl) ?_
  refine lv_iconst (v := -1) hx hb dX6_init_13 (by decide) ?_
  refine cg_put E hC fq_X6_15 rfl rfl dX6_init_14 (fun H3 locs hC ho hzs2 => ?_)
  have e3 := (ho sz (by omega)).trans e2
  obtain ⟨h1, h2, h3, h4, h5, h6, h7⟩ := hC
  subst hsz
  exact W.vret E.1 E.2.1 hr (fun t ht _ => ⟨⟨(), rfl, trivial, (show t.heap.size = s.heap.size + 1 ∧ tOb G t.heap h 5 [.ref s.heap.size, .int (-1), .int 0] ∧ t.heap[s.heap.size]? = some (arrV (G.2.1 2) 60 (fun _ => .long 0)) by rw [ht]; exact ⟨by omega, h4, e3⟩)⟩, h5.F ht⟩) h5.2.2 dX6_init_17 hlk
theorem k_X9_init {l : Launch} {G : tG} {τ : Nat → Nat} {h sz : Nat} (h1τ : ∀ q, τ q ≠ 1) : Met l yX9_init (.code yX9_init cX9_init 2 none :: tWS) { frames := 5, cells := 447, slots := 5649, locals := 130 } (va_Pc (.ref h :: []) (tCP G τ h sz 8 fsX9)) (wXQ G τ h sz) 447 5649 (tCA h sz) := by
  refine cg_met rfl rfl (Nat.le_of_ble_eq_true rfl) ?_
  intro p e s m below meth c E hNs hin hr hlk hsz hC ls hl
  have hx := E.1
  have hb := E.2.1
  generalize hH : s.heap = H at hC ⊢
  generalize hL : ([] : List Loc) = locs at hC ⊢
  refine lv_aload_n hx hb dX9_init_0 rfl (lv_at hl 0 rfl) ?_
  refine cg_obj E hl.1 (t_w1 25 rfl rfl) ko_1 ko_2 ⟨Nat.le_of_ble_eq_true rfl, Nat.le_of_ble_eq_true rfl⟩ dX9_init_1 ?_
  refine lv_aload_n hx hb dX9_init_4 rfl (lv_at hl 0 rfl) ?_
  refine cg_new E hC fc_X8 fv_X8 rfl (t_w1 28 rfl rfl) (t_w1 29 rfl rfl) (t_w1 2 rfl rfl) (Nat.le_of_ble_eq_true rfl) (Nat.le_of_ble_eq_true rfl) dX9_init_5 (fun b1 H1 hC hOb1 hrb1 hnb1 hsb1 hqb1 ho => ?_)
  refine lv_dup hx hb dX9_init_8 rfl ?_
  refine cg_back (b := b1) hC hrb1 hnb1 hsb1 (cg_runI (As := []) (rest := [.ref b1, .ref h]) E hNs hC hOb1 hrb1 (k_X8_init) ck_X8_init rfl (t_w1 30 rfl rfl) ⟨rfl, rfl, Nat.le_of_ble_eq_true rfl, Nat.le_of_ble_eq_true rfl⟩ rfl hl.1 rfl (Nat.le_of_ble_eq_true rfl) ⟨(Nat.le_of_ble_eq_true rfl), (Nat.le_of_ble_eq_true rfl)⟩ dX9_init_9) (fun τ2 H1 locs hb1 hup hzz hC ho => ?_)
  refine cg_putF E hin hC fz_X9_12 rfl rfl dX9_init_12 (fun H1 locs hC ho hzs => ?_)
  refine lv_aload_n hx hb dX9_init_15 rfl (lv_at hl 0 rfl) ?_
  refine cg_new E hC fc_X8 fv_X8 rfl (t_w1 28 rfl rfl) (t_w1 29 rfl rfl) (t_w1 2 rfl rfl) (Nat.le_of_ble_eq_true rfl) (Nat.le_of_ble_eq_true rfl) dX9_init_16 (fun b3 H1 hC hOb3 hrb3 hnb3 hsb3 hqb3 ho => ?_)
  refine lv_dup hx hb dX9_init_19 rfl ?_
  refine cg_back (b := b3) hC hrb3 hnb3 hsb3 (cg_runI (As := []) (rest := [.ref b3, .ref h]) E hNs hC hOb3 hrb3 (k_X8_initc) ck_X8_init rfl (t_w1 30 rfl rfl) ⟨rfl, rfl, Nat.le_of_ble_eq_true rfl, Nat.le_of_ble_eq_true rfl⟩ rfl hl.1 rfl (Nat.le_of_ble_eq_true rfl) ⟨(Nat.le_of_ble_eq_true rfl), (Nat.le_of_ble_eq_true rfl)⟩ dX9_init_20) (fun τ4 H1 locs hb3 hup hzz hC ho => ?_)
  have g5 := (hup _ (by rw [hb1]; decide)).trans hb1
  refine cg_putF E hin hC fz_X9_18 rfl rfl dX9_init_23 (fun H1 locs hC ho hzs => ?_)
  refine lv_aload_n hx hb dX9_init_26 rfl (lv_at hl 0 rfl) ?_
  refine cg_new E hC fc_X3 fv_X3 rfl (t_w2 28 rfl rfl) (t_w2 29 rfl rfl) (t_w1 5 rfl rfl) (Nat.le_of_ble_eq_true rfl) (Nat.le_of_ble_eq_true rfl) dX9_init_27 (fun b6 H1 hC hOb6 hrb6 hnb6 hsb6 hqb6 ho => ?_)
  refine lv_dup hx hb dX9_init_30 rfl ?_
  refine lv_aload_n hx hb dX9_init_31 rfl (lv_at hl 0 rfl) ?_
  refine cg_get E hC ff_X9_12 (v := .ref b1) rfl dX9_init_32 ?_
  refine cg_back (b := b6) hC hrb6 hnb6 hsb6 (cg_runI (As := [.ref b1]) (rest := [.ref b6, .ref h]) E hNs hC hOb6 hrb6 (k_X3_init _ g5) ck_X3_init rfl (t_w2 30 rfl rfl) ⟨rfl, rfl, Nat.le_of_ble_eq_true rfl, Nat.le_of_ble_eq_true rfl⟩ rfl hl.1 rfl (Nat.le_of_ble_eq_true rfl) ⟨(Nat.le_of_ble_eq_true rfl), (Nat.le_of_ble_eq_true rfl)⟩ dX9_init_35) (fun τ7 H1 locs hb6 hup hzz hC ho => ?_)
  have g8 := (hup _ (by rw [g5]; decide)).trans g5
  have g9 := (hup _ (by rw [hb3]; decide)).trans hb3
  refine cg_putF E hin hC fz_X9_26 rfl rfl dX9_init_38 (fun H1 locs hC ho hzs => ?_)
  refine lv_aload_n hx hb dX9_init_41 rfl (lv_at hl 0 rfl) ?_
  refine cg_new E hC fc_X7 fv_X7 rfl (t_w2 60 rfl rfl) (t_w2 61 rfl rfl) (t_w1 6 rfl rfl) (Nat.le_of_ble_eq_true rfl) (Nat.le_of_ble_eq_true rfl) dX9_init_42 (fun b10 H1 hC hOb10 hrb10 hnb10 hsb10 hqb10 ho => ?_)
  refine lv_dup hx hb dX9_init_45 rfl ?_
  refine lv_aload_n hx hb dX9_init_46 rfl (lv_at hl 0 rfl) ?_
  refine cg_get E hC ff_X9_12 (v := .ref b1) rfl dX9_init_47 ?_
  refine cg_back (b := b10) hC hrb10 hnb10 hsb10 (cg_runI (As := [.ref b1]) (rest := [.ref b10, .ref h]) E hNs hC hOb10 hrb10 (k_X7_init _ g8) ck_X7_init rfl (t_w2 62 rfl rfl) ⟨rfl, rfl, Nat.le_of_ble_eq_true rfl, Nat.le_of_ble_eq_true rfl⟩ rfl hl.1 rfl (Nat.le_of_ble_eq_true rfl) ⟨(Nat.le_of_ble_eq_true rfl), (Nat.le_of_ble_eq_true rfl)⟩ dX9_init_50) (fun τ11 H1 locs hb10 hup hzz hC ho => ?_)
  have g12 := (hup _ (by rw [g8]; decide)).trans g8
  have g13 := (hup _ (by rw [g9]; decide)).trans g9
  have g14 := (hup _ (by rw [hb6]; decide)).trans hb6
  refine cg_putF E hin hC fz_X9_33 rfl rfl dX9_init_53 (fun H1 locs hC ho hzs => ?_)
  refine lv_aload_n hx hb dX9_init_56 rfl (lv_at hl 0 rfl) ?_
  refine cg_new E hC fc_X5 fv_X5 rfl (t_w2 92 rfl rfl) (t_w2 93 rfl rfl) (t_w1 7 rfl rfl) (Nat.le_of_ble_eq_true rfl) (Nat.le_of_ble_eq_true rfl) dX9_init_57 (fun b15 H1 hC hOb15 hrb15 hnb15 hsb15 hqb15 ho => ?_)
  refine lv_dup hx hb dX9_init_60 rfl ?_
  refine cg_back (b := b15) hC hrb15 hnb15 hsb15 (cg_runN (As := []) (rest := [.ref b15, .ref h]) E hNs hC hOb15 hrb15 (k_X5_init) ck_X5_init rfl (by decide) ⟨rfl, rfl, Nat.le_of_ble_eq_true rfl, Nat.le_of_ble_eq_true rfl⟩ rfl hl.1 rfl (Nat.le_of_ble_eq_true rfl) ⟨(Nat.le_of_ble_eq_true rfl), (Nat.le_of_ble_eq_true rfl)⟩ dX9_init_61) (fun τ16 H1 locs hb15 hup hzz hC ho => ?_)
  have g17 := (hup _ (by rw [g12]; decide)).trans g12
  have g18 := (hup _ (by rw [g13]; decide)).trans g13
  have g19 := (hup _ (by rw [g14]; decide)).trans g14
  have g20 := (hup _ (by rw [hb10]; decide)).trans hb10
  refine cg_putF E hin hC fz_X9_40 rfl rfl dX9_init_64 (fun H1 locs hC ho hzs => ?_)
  refine lv_aload_n hx hb dX9_init_67 rfl (lv_at hl 0 rfl) ?_
  refine cg_new E hC fc_X4 fv_X4 rfl (t_w2 139 rfl rfl) (t_w2 140 rfl rfl) (t_w1 8 rfl rfl) (Nat.le_of_ble_eq_true rfl) (Nat.le_of_ble_eq_true rfl) dX9_init_68 (fun b21 H1 hC hOb21 hrb21 hnb21 hsb21 hqb21 ho => ?_)
  refine lv_dup hx hb dX9_init_71 rfl ?_
  refine lv_aload_n hx hb dX9_init_72 rfl (lv_at hl 0 rfl) ?_
  refine cg_get E hC ff_X9_12 (v := .ref b1) rfl dX9_init_73 ?_
  refine cg_back (b := b21) hC hrb21 hnb21 hsb21 (cg_runI (As := [.ref b1]) (rest := [.ref b21, .ref h]) E hNs hC hOb21 hrb21 (k_X4_init _ g17) ck_X4_init rfl (t_w2 141 rfl rfl) ⟨rfl, rfl, Nat.le_of_ble_eq_true rfl, Nat.le_of_ble_eq_true rfl⟩ rfl hl.1 rfl (Nat.le_of_ble_eq_true rfl) ⟨(Nat.le_of_ble_eq_true rfl), (Nat.le_of_ble_eq_true rfl)⟩ dX9_init_76) (fun τ22 H1 locs hb21 hup hzz hC ho => ?_)
  have g23 := (hup _ (by rw [g17]; decide)).trans g17
  have g24 := (hup _ (by rw [g18]; decide)).trans g18
  have g25 := (hup _ (by rw [g19]; decide)).trans g19
  have g26 := (hup _ (by rw [g20]; decide)).trans g20
  have g27 := (hup _ (by rw [hb15]; decide)).trans hb15
  refine cg_putF E hin hC fz_X9_47 rfl rfl dX9_init_79 (fun H1 locs hC ho hzs => ?_)
  refine lv_aload_n hx hb dX9_init_82 rfl (lv_at hl 0 rfl) ?_
  refine lv_bipush (v := 120) hx hb dX9_init_83 (by decide) ?_
  refine cg_newc E hC ta_18 (by decide) (by decide) (fun _ => ⟨0, rfl, by decide, by decide⟩) (by decide) (by decide) (by decide) (Nat.le_of_ble_eq_true rfl) (Nat.le_of_ble_eq_true rfl) dX9_init_85 (fun q28 H1 τ29 hC hq28 hup hzz ho => ?_)
  have g30 := (hup _ (by rw [g23]; decide)).trans g23
  have g31 := (hup _ (by rw [g24]; decide)).trans g24
  have g32 := (hup _ (by rw [g25]; decide)).trans g25
  have g33 := (hup _ (by rw [g26]; decide)).trans g26
  have g34 := (hup _ (by rw [g27]; decide)).trans g27
  have g35 := (hup _ (by rw [hb21]; decide)).trans hb21
  clear hup hzz ho
  skip
  refine cg_putF E hin hC fz_X9_51 rfl rfl dX9_init_87 (fun H1 locs hC ho hzs => ?_)
  refine lv_aload_n hx hb dX9_init_90 rfl (lv_at hl 0 rfl) ?_
  refine lv_iconst (v := 4) hx hb dX9_init_91 (by decide) ?_
  refine cg_anew (C := "LaidOutBoxes$Tape") (N := 4) E hNs.2.2.1 hC (ak := 4) rfl (t_w2 158 rfl rfl) (by decide) (by decide) (by decide) (Nat.le_of_ble_eq_true rfl) (Nat.le_of_ble_eq_true rfl) dX9_init_92 (fun q36 H1 hC hAq36 hrq36 hnq36 hsq36 ho => ?_)
  refine cg_putF E hin hC fz_X9_57 rfl rfl dX9_init_95 (fun H1 locs hC ho hzs => ?_)
  have hAq36 := (ho _ hnq36).trans hAq36
  refine lv_iconst (v := 0) hx hb dX9_init_98 (by decide) ?_
  refine lv_istore_n (lv' := [(1, .int 0), (0, .ref h)]) hx hb dX9_init_99 rfl hl (by decide) rfl (fun ls hl => ?_)
  have hS0 := hC.2.1
  have hltq := (Array.getElem?_eq_some_iff.mp hAq36).1
  have h1a : ∀ x, τ29 x ≠ 1 := fun x => by
    by_cases e : τ x = 0
    · exact (hC.2.2.2.2.2.2.2.2 x e).2.2
    · rw [hC.2.2.2.2.2.2.1 x e]; exact h1τ x
  obtain ⟨S0, eS0⟩ : ∃ S0 : Nat, S0 = H1.size := ⟨_, rfl⟩
  rw [← eS0] at hS0 hltq
  have J : ∀ (n i : Nat) (x : Int32) (H : Heap) (locs : List Loc) (ls : Array Slot), n + i = 4 → x.toInt = i → H.size = S0 + 2 * i → tCG G τ τ29 s h 8 [.ref b1, .ref b3, .ref b6, .ref b10, .ref b15, .ref b21, .ref q28, .ref q36, .int 0, .int 0, .int 0, .int 0] H locs → H[q36]? = some (arrV (G.2.1 4) 4 (fun j => if j < i then .ref (S0 + 2 * j) else .null)) → (∀ j, j < i → tOb G H (S0 + 2 * j) 5 [.ref (S0 + 2 * j + 1), .int (-1), .int 0] ∧ H[S0 + 2 * j + 1]? = some (arrV (G.2.1 2) 60 (fun _ => .long 0))) → lv_has ls 2 [(1, .int x), (0, .ref h)] → W p l e { frames := 5, cells := 447, slots := 5649, locals := 130 } s m (Value.ref h :: []).toArray below meth c H locs (439 + 2 * i) (5397 + 63 * i) (MQ below (wXQ G τ h sz) (Value.ref h :: []).toArray s 447 5649 (tCA h sz)) (F0 m 100 ls []) := by
    intro n
    induction n with
    | zero =>
      intro i x H locs ls hni hxi hHs hC hAq hTp hl
      have ei : i = 4 := by omega
      subst ei
      refine lv_iload_n hx hb dX9_init_100 rfl (lv_at hl 0 rfl) ?_
      refine lv_iconst (v := 4) hx hb dX9_init_101 (by decide) ?_
      refine lv_icmp_ge (tgt := 124) hx hb dX9_init_102 (by decide) (fun hc => ?_) (fun hc => ?_)
      · exact wx_ret (q := q36) (S0 := S0) hr hlk E hC hsz h1a (tFo.all (⟨⟨_, rfl, g30⟩, ⟨_, rfl, g31⟩, ⟨_, rfl, g32⟩, ⟨_, rfl, g33⟩, ⟨_, rfl, g34⟩, ⟨_, rfl, g35⟩, ⟨_, rfl, hq28⟩, rfl, ⟨_, rfl, by decide, by decide⟩, ⟨_, rfl, by decide, by decide⟩, ⟨_, rfl, by decide, by decide⟩, ⟨_, rfl, by decide, by decide⟩, trivial⟩ : tFo (tGa G 5 (wad q36 S0)) _ 1 0 [.ref b1, .ref b3, .ref b6, .ref b10, .ref b15, .ref b21, .ref q28, .ref q36, .int 0, .int 0, .int 0, .int 0])) hrq36 hnq36 hsq36 hltq hS0 hHs hAq hTp dX9_init_124
      · have ic := tn_nle kI_4 rfl hc
        exfalso; omega
    | succ n ih =>
      intro i x H locs ls hni hxi hHs hC hAq hTp hl
      refine lv_iload_n hx hb dX9_init_100 rfl (lv_at hl 0 rfl) ?_
      refine lv_iconst (v := 4) hx hb dX9_init_101 (by decide) ?_
      refine lv_icmp_ge (tgt := 124) hx hb dX9_init_102 (by decide) (fun hc => ?_) (fun hc => ?_)
      · have ic := tn_le kI_4 rfl hc
        exfalso; omega
      · have ic := tn_nle kI_4 rfl hc
        refine lv_aload_n hx hb dX9_init_105 rfl (lv_at hl 1 rfl) ?_
        refine cg_get E hC ff_X9_57 (v := .ref q36) rfl dX9_init_106 ?_
        refine lv_iload_n hx hb dX9_init_109 rfl (lv_at hl 0 rfl) ?_
        refine cg_newE E hC fc_X6 fv_X6 rfl (t_w2 158 rfl rfl) (t_w2 160 rfl rfl) (t_w1 9 rfl rfl) (by show 439 + 2 * i + 1 ≤ 447; omega) (by show 5397 + 63 * i + 3 ≤ 5649; omega) dX9_init_110 (fun H1 hC hO hr0 hn0 hs0 z1 ho => ?_)
        rw [hHs] at hO hr0 hn0 hs0 z1 ho ⊢
        have hAq := (ho q36 (by omega)).trans hAq
        refine lv_dup hx hb dX9_init_113 rfl ?_
        refine cg_backW (b := S0 + 2 * i) hC hr0 hn0 hs0 (cg_runNQ (As := []) (rest := [.ref (S0 + 2 * i), .int x, .ref q36]) E hNs hC hO hr0 (k_X6_w) ck_X6_init rfl (by decide) ⟨rfl, rfl, Nat.le_of_ble_eq_true rfl, Nat.le_of_ble_eq_true rfl⟩ rfl hl.1 rfl (Nat.le_of_ble_eq_true rfl) ⟨(by show 439 + 2 * i + 1 + 1 ≤ 447; omega), (by show 5397 + 63 * i + 3 + 60 ≤ 5649; omega)⟩ dX9_init_114) (fun H2 locs2 hC z2 hO2 hI2 ho2 => ?_)
        rw [z1] at z2 hO2 hI2 ho2
        have hAq := (ho2 q36 (by omega) (by omega)).trans hAq
        refine cg_aastE (C := "LaidOutBoxes$Tape") E hC hAq hrq36 hnq36 hsq36 rfl hO2 fc_X6.1 (t_in (by omega) (by omega)) dX9_init_117 (fun H3 locs3 hC hAq z3 ho3 => ?_)
        obtain ⟨y, ey⟩ : ∃ y : Int32, y = x + (1) := ⟨_, rfl⟩
        refine lv_iinc (v := y) (lv' := [(1, .int y), (0, .ref h)]) hx hb dX9_init_118 hl (k := 0) rfl (by rw [ey]; rfl) (by decide) rfl (fun ls hl => ?_)
        have ty := tn_add ey rfl kI_1 (by omega) (by omega)
        refine lv_goto (tgt := 100) hx hb dX9_init_121 (by decide) ?_
        rw [show 439 + 2 * i + 1 + 1 = 439 + 2 * (i + 1) by omega, show 5397 + 63 * i + 3 + 60 = 5397 + 63 * (i + 1) by omega]
        have hxn : x.toNatClampNeg = i := t_nat hxi
        rw [hxn] at hAq
        refine ih (i + 1) y _ _ ls (by omega) (by omega) (by omega) hC ?_ (fun j hj => ?_) hl
        · rw [hAq]
          refine congrArg (fun V => some (arrV (G.2.1 4) 4 V)) (funext fun j => ?_)
          by_cases ej : j = i
          · subst ej; simp [updV]
          · by_cases h9 : j < i
            · simp [updV, ej, h9, Nat.lt_succ_of_lt h9]
            · simp [updV, ej, h9, show ¬ j < i + 1 by omega]
        · by_cases ej : j = i
          · subst ej
            exact ⟨hO2.kept (ho3 _ (by omega)), (ho3 _ (by omega)).trans hI2⟩
          · have hj2 : j < i := by omega
            obtain ⟨g1, g2⟩ := hTp j hj2
            refine ⟨g1.kept ?_, (?_ : _ = _).trans g2⟩
            · exact (ho3 _ (by omega)).trans ((ho2 _ (by omega) (by omega)).trans (ho _ (by omega)))
            · exact (ho3 _ (by omega)).trans ((ho2 _ (by omega) (by omega)).trans (ho _ (by omega)))
  refine J 4 0 0 _ _ ls rfl rfl (by rw [eS0]; rfl) hC ?_ (fun j hj => absurd hj (Nat.not_lt_zero _)) hl
  rw [hAq36]
  exact congrArg (fun V => some (arrV (G.2.1 4) 4 V)) (funext fun j => (if_neg (Nat.not_lt_zero j)).symm)
