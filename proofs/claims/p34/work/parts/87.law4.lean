/-! ===== the law's start: both objects are made ===== -/
theorem lw_cl9 : Cond.classLink RL 7 RX9 ∈ tWS := t_w1 20 rfl rfl
theorem lw_in9 : Cond.instantiable RX9 12 ∈ tWS := t_w1 21 rfl rfl
theorem lw_it9 : Cond.initialized RX9 ∈ tWS := t_w1 1 rfl rfl
theorem lw_cl10 : Cond.classLink RL 10 RX10 ∈ tWS := t_w6 31 rfl rfl
theorem lw_in10 : Cond.instantiable RX10 40 ∈ tWS := t_w6 32 rfl rfl
theorem lw_it10 : Cond.initialized RX10 ∈ tWS := t_w1 10 rfl rfl
section LWS
variable {p : Program} {l : Launch} {e : Env} {R : Room} {s : State} {m : MethodId} {args : Array Value} {below : List Frame} {meth : Method} {c : Code} {H : Heap} {locs : List Loc} {Q : State → Prop}
variable {cc : ByteArray} {pc : Nat} {ls : Array Slot} {rest st0 As : List Value} {a b h t k ci cj index n N : Nat} {G : tG} {own : String} {nL : Nat} {τ τ0 : Nat → Nat} {fs : List Value} {cells slots mc ms : Nat} {y : MethodName} {bytes : ByteArray} {maxL : Nat} {rm : Room}
/-- a new object, where the heap is typed and nothing is under construction -/
theorem ln_new (E : tE G p s m c args own cc nL) (hS : va_S (fun q => s.heap.size ≤ q) s.heap H locs) {C : String} {T : u_T} {ty : Nat → FieldType} {fs0 : List Value} (hF : tFc cj C T n ty) (hfs : ∀ j, j < n → defaultValue (ty j) = vp_V fs0 j) (hlen : fs0.length = n) (h1 : Cond.classLink own index C ∈ tWS) (h2 : Cond.instantiable C n ∈ tWS) (h3 : Cond.initialized C ∈ tWS) (hcl : cells + 1 ≤ R.cells) (hsl : slots + n ≤ R.slots) (hdg : decode cc pc = .ok (.new index, 3))
    (kk : ∀ (H1 : Heap), H1.size = H.size + 1 → tOb G H1 H.size cj fs0 → (∀ x : Nat, x < H.size → H1[x]? = H[x]?) → va_S (fun q => s.heap.size ≤ q) s.heap H1 locs → W p l e R s m args below meth c H1 locs (cells + 1) (slots + n) Q (F0 m (pc + 3) ls (.ref H.size :: rest))) : W p l e R s m args below meth c H locs cells slots Q (F0 m pc ls rest) := by
  obtain ⟨hx, hb, hml, hown, hts, hK⟩ := E
  obtain ⟨hc, hin, hty, hnm⟩ := hF
  have hKn := hK.1 cj _ hc
  refine W.newcK hx hb hown (hts _ h1) (hts _ h2) (hts _ h3) rfl hdg hcl hsl hKn.2.1 rfl fun H1 kC hkC e1 z1 o1 => ?_
  exact kk H1 z1 ⟨_, hc, (u_born ty hts hin hKn hkC e1 hty).to hfs, hlen⟩ o1 ⟨by have := hS.1; omega, fun x e1 e2 => (o1 x (Nat.lt_of_lt_of_le e1 hS.1)).trans (hS.2.1 x e1 e2), hS.2.2⟩
theorem ln_runI {fs0 : List Value} {Qc : Array Value → State → Outcome → State → Prop} (E : tE G p s m c args own cc nL) (hNs : tNs s) (hT : TH G (tΓ G τ) H) (hlt : ∀ q, τ q ≠ 0 → q < H.size) (hO : tOb G H b cj fs0) (hb1 : τ b = 0) (hM : Met l y (.code y bytes maxL none :: tWS) rm (va_Pc (.ref b :: As) (tCP G τ b H.size cj fs0)) Qc mc ms (tCA b H.size)) (hc : tCm y bytes maxL none n ∧ Cond.instanceMethod y ∈ tWS) (hnm : y.name = "<init>") (hl : Cond.methodLink own index y ∈ tWS) (hR : rm.cells = mc ∧ rm.slots = ms ∧ rm.frames + 1 ≤ R.frames ∧ 8 + (maxL + 11) + rm.locals ≤ R.locals) (hn : As.length = n) (hsz : ls.size = nL) (hst : st0 = As.reverse ++ .ref b :: rest) (hW : (rest.map fun v => v.category).sum ≤ 8) (hcs : cells + mc ≤ R.cells ∧ slots + ms ≤ R.slots) (hdg : decode cc pc = .ok (.invokespecial index, 3)) :
    va_Run p l e R s m args below meth c H locs cells slots mc ms (F0 m pc ls st0) rest (Qc (Value.ref b :: As).toArray) (tCA b H.size) := by
  obtain ⟨hx, hbb, hml, hown, hts, hK⟩ := id E
  exact va_runI ⟨hx, hbb, hml, hown, hts⟩ hM ⟨callB_of n hts (t_good hc.1.1) rfl hR.1 hR.2.1 (hts _ hc.1.2.1) (hts _ hl) hc.1.2.2 hR.2.2, hnm, hts _ hc.2⟩ ⟨tCP.blind, fun U hU hWm => ⟨rfl, by rw [hU], hO.lt, by rw [hU]; exact hT, hlt, hb1, by rw [hU]; exact hO, va_K.moved hWm.alike hK, hNs.warm hWm⟩⟩ rfl hn hsz hst (lv_room hW) hdg hcs
end LWS
theorem tSt_G {G : tG} {n : Nat} {ad : Nat → Nat} {A : Nat → Prop} {V : State} (hn : 5 ≤ n) (h : tSt G A V) : tSt (tGa G n ad) A V := by
  obtain ⟨h1, h2⟩ := h
  refine ⟨fun i hi => ?_, h2⟩
  rw [tGa_lo (by omega)]
  exact h1 i hi
theorem wTH_G {G : tG} {n : Nat} {ad : Nat → Nat} {T : wT} {H : Heap} (hn : 14 ≤ n) (h : wTH G T H) : wTH (tGa G n ad) T H := by
  refine ⟨?_, fun i hi => ⟨?_, ?_⟩⟩
  · rw [tAt_G, tGa_lo (by omega)]
    obtain ⟨V, g1, g2⟩ := h.1
    refine ⟨V, g1, fun j hj => ?_⟩
    show V j = .ref ((tGa G n ad).2.2.1 (6 + j))
    rw [tGa_lo (by omega)]
    exact g2 j hj
  · rw [tAt_G, tGa_lo (by omega)]
    exact (h.2 i hi).1.to (fun k v hv => ⟨fun e => by rw [tGa_lo (by omega)]; exact hv.1 e, hv.2.1, hv.2.2⟩)
  · rw [tAt_G, tGa_lo (by omega)]
    exact (h.2 i hi).2
set_option maxHeartbeats 4000000 in
set_option maxRecDepth 100000 in
theorem whole_start {p : Program} {e : Env} {s : State} {m : MethodId} {below : List Frame} {meth : Method} {c : Code} (l : Launch) (hflags : l.flags = flags0) {b L : Nat} {xs : Nat → Int32} (hL : L ≤ 3584) (C0 : lw_At p s m meth c b L xs) : W p l e room_1 s m #[Value.ref b] below meth c s.heap [] 0 0 (lw_Z below #[Value.ref b] s) (entryFrame m ([Value.ref b] : List Value).toArray 4) := by
  obtain ⟨hx, hb, hr, hml, hown, hts, hX, hbl, hlk, hgv⟩ := C0
  obtain ⟨X, Y, hKa⟩ := lw_G hts
  obtain ⟨T, K, V, hSa⟩ := lw_st hgv hts
  obtain ⟨G0, eG⟩ : ∃ G : tG, G = (X, Y, T, K, V) := ⟨_, rfl⟩
  have hK : va_K G0.1 vwCl (tTy G0) s := by rw [eG]; exact hKa T K V
  have hSt0 : tSt G0 (fun q => s.heap.size ≤ q) s := by rw [eG]; exact hSa X Y
  clear hKa hSa eG
  have E : tE G0 p s m c #[Value.ref b] RL cL_law 4 := ⟨hx, hb, hml, hown, lw_ws hts, hK⟩
  have hb : c.code = cL_law := hb
  have hNs := lw_ns hts
  have hl := lv_entry [Value.ref b] (n := 4) (Nat.le_of_ble_eq_true rfl)
  rw [lg_entry_eq]
  generalize ((lg_sl [Value.ref b] ++ List.replicate (4 - (lg_sl [Value.ref b]).length) Slot.unset).toArray) = ls at hl ⊢
  have hl : lv_has ls 4 [(0, .ref b)] := hl
  have hS0 : va_S (fun q => s.heap.size ≤ q) s.heap s.heap [] := ⟨Nat.le_refl _, fun _ _ _ => rfl, fun _ h => by cases h⟩
  refine ln_new E hS0 fc_X9 fv_X9 rfl lw_cl9 lw_in9 lw_it9 (Nat.le_of_ble_eq_true rfl) (Nat.le_of_ble_eq_true rfl) dL_law_0 (fun H z1 hO o1 hS => ?_)
  refine lv_dup hx hb dL_law_3 rfl ?_
  have hT0 : TH G0 (tΓ G0 (fun _ => 0)) H := fun a sh h => by simp [tΓ] at h
  refine va_callv (ln_runI (τ := fun _ => 0) (rest := [.ref s.heap.size]) (As := []) E hNs hT0 (fun q h => absurd rfl h) hO rfl (k_X9_init (fun _ h => by cases h)) ck_X9_init rfl ml_L_9 ⟨rfl, rfl, Nat.le_of_ble_eq_true rfl, Nat.le_of_ble_eq_true rfl⟩ rfl hl.1 rfl (Nat.le_of_ble_eq_true rfl) ⟨Nat.le_of_ble_eq_true rfl, Nat.le_of_ble_eq_true rfl⟩ dL_law_4) hS (fun q _ hq => hq.elim (fun e => by show s.heap.size ≤ q; omega) (fun e => by show s.heap.size ≤ q; omega)) (fun q hq => hq.elim (fun e => by show s.heap.size ≤ q; omega) (fun e => by show s.heap.size ≤ q; omega)) (fun w0 t H1 locs1 ht _ hp hB hz hk hS => ?_)
  obtain ⟨τ, ad⟩ := w0
  obtain ⟨x1, ex1⟩ : ∃ x, x = s.heap.size := ⟨_, rfl⟩
  rw [← ex1] at hp
  rw [← ex1]
  obtain ⟨hx1, ⟨p2, p3, p4⟩, hinj, had⟩ := hp
  have hx1 : τ x1 = 1 := hx1
  rw [ht] at hB
  obtain ⟨hB1, hB2, ⟨hB3, hB5⟩, hB4⟩ := hB
  have hτ : ∀ q, τ q ≠ 0 → s.heap.size ≤ q ∧ q < H1.size := fun q hq => ⟨Classical.byContradiction fun z => hq (p3 q (by omega) (by omega) rfl), hB2 q hq⟩
  have had : ∀ i, 5 ≤ i → i < 14 → τ (ad i) = 0 ∧ H.size ≤ ad i := had
  have hB4 : ∀ i, 5 ≤ i → i < 14 → ad i < H1.size := hB4
  have hinj : ∀ i j, 5 ≤ i → i < 14 → 5 ≤ j → j < 14 → ad i = ad j → i = j := hinj
  obtain ⟨G1, eG1⟩ : ∃ G1 : tG, G1 = tGa G0 5 ad := ⟨_, rfl⟩
  have E : tE G1 p s m c #[Value.ref b] RL cL_law 4 := by rw [eG1]; exact E
  have hSt1 : tSt G1 (fun q => s.heap.size ≤ q) s := by rw [eG1]; exact tSt_G (by decide) hSt0
  have hT1 : TH G1 (tΓ G1 τ) H1 := by rw [eG1, TH_G]; exact hB1
  have hW1 : wTH G1 wT0 H1 := by rw [eG1]; exact hB3
  have hC1 : cF G1 (fun _ _ => 0) H1 := by rw [eG1]; exact hB5
  have hG1 : ∀ i, 5 ≤ i → G1.2.2.1 i = ad i := fun i hi => by rw [eG1]; exact tGa_hi hi
  refine va_forget (fun q hq => hS.2.2 q hq) ?_
  have hS : va_S (fun q => s.heap.size ≤ q) s.heap H1 [] := ⟨hS.1, hS.2.1, fun _ h => by cases h⟩
  refine lv_astore_n (lv' := [(1, .ref x1), (0, .ref b)]) hx hb dL_law_7 rfl hl (by decide) rfl (fun ls hl => ?_)
  refine ln_new E hS fc_X10 fv_X10 rfl lw_cl10 lw_in10 lw_it10 (Nat.le_of_ble_eq_true rfl) (Nat.le_of_ble_eq_true rfl) dL_law_8 (fun H2 z2 hO2 o2 hS2 => ?_)
  refine lv_dup hx hb dL_law_11 rfl ?_
  have hT2 : TH G1 (tΓ G1 τ) H2 := hT1.kept (fun q hq => o2 q (hτ q (tΓ_no hq)).2)
  have hW2 : wTH G1 wT0 H2 := hW1.kept (fun q hq _ => o2 q hq)
  have hC2 : cF G1 (fun _ _ => 0) H2 := hC1.kept (fun q hq _ => o2 q hq)
  have h0 : τ H1.size = 0 := Classical.byContradiction fun z => by have := (hτ _ z).2; omega
  refine va_callv (ln_runI (τ := τ) (rest := [.ref H1.size]) (As := []) E hNs hT2 (fun q h => by have := (hτ q h).2; omega) hO2 h0 k_X10_init ck_X10_init rfl ml_L_12 ⟨rfl, rfl, Nat.le_of_ble_eq_true rfl, Nat.le_of_ble_eq_true rfl⟩ rfl hl.1 rfl (Nat.le_of_ble_eq_true rfl) ⟨Nat.le_of_ble_eq_true rfl, Nat.le_of_ble_eq_true rfl⟩ dL_law_12) hS2 (fun q _ hq => hq.elim (fun e => by have := hS.1; show s.heap.size ≤ q; omega) (fun e => by have := hS.1; show s.heap.size ≤ q; omega)) (fun q hq => hq.elim (fun e => by have := hS.1; show s.heap.size ≤ q; omega) (fun e => by have := hS.1; show s.heap.size ≤ q; omega)) (fun w t3 H3 locs3 ht3 _ hp3 hB3 hz3 hk3 hS3 => ?_)
  obtain ⟨σ9, a, ad2⟩ := w
  obtain ⟨hx2, hPI, hun, hlo, hcd, h24⟩ := hp3
  have hx2 : σ9 H1.size = 1 := hx2
  have hPI : PI2 a := hPI
  have hun : ∀ x y, σ9 x = σ9 y → σ9 x ≠ 0 → x = y := hun
  have hlo : ∀ q, σ9 q ≠ 0 → q = H1.size ∨ H2.size ≤ q := hlo
  have hcd : ∀ i, i < 4 → σ9 (ad2 (14 + i)) = 21 + i := hcd
  have h24 : ∀ q, σ9 q ≤ 24 := h24
  rw [ht3] at hB3
  obtain ⟨⟨hM3, hR3⟩, hσ9⟩ := hB3
  have hσ9 : ∀ q, σ9 q ≠ 0 → q < H3.size := hσ9
  obtain ⟨G, eG⟩ : ∃ G : tG, G = tGa G1 14 ad2 := ⟨_, rfl⟩
  have hR3 : rF G (fun _ _ => 0) H3 := by rw [eG]; exact hR3
  have hM3 : TH G (mΓ G (σ9, 2, vX (qX a) wT0)) H3 := by rw [eG, TH_G]; exact hM3
  have E : tE G p s m c #[Value.ref b] RL cL_law 4 := by rw [eG]; exact E
  have hSw : tSt G (fun q => s.heap.size ≤ q) s := by rw [eG]; exact tSt_G (by decide) hSt1
  have hGlo : ∀ i, 5 ≤ i → i < 14 → G.2.2.1 i = ad i := fun i h5 hi => by rw [eG, tGa_lo hi]; exact hG1 i h5
  have hGhi : ∀ i, i < 4 → G.2.2.1 (14 + i) = ad2 (14 + i) := fun i hi => by rw [eG]; exact tGa_hi (by omega)
  have hT3 : TH G (tΓ G τ) H3 := by
    rw [eG, TH_G]
    refine tTH_5 (by decide) (hT2.kept (fun q hq => ?_))
    have g := (hτ q (tΓ_no hq)).2
    exact hk3 q (by omega) (fun z => z.elim (fun z => by omega) (fun z => by omega))
  have hW3 : wTH G wT0 H3 := by
    rw [eG]
    refine wTH_G (by decide) (hW2.kept (fun q hq ⟨i, a1, a2, e⟩ => ?_))
    have g := hB4 i a1 a2
    rw [hG1 i a1] at e
    exact hk3 q (by omega) (fun z => z.elim (fun z => by omega) (fun z => by omega))
  have hC3 : cF G (fun _ _ => 0) H3 := by
    have h9 : cF G1 (fun _ _ => 0) H3 := hC2.kept (fun q hq ⟨i, a1, a2, e⟩ => by
      have g := hB4 i a1 a2
      rw [hG1 i a1] at e
      exact hk3 q (by omega) (fun z => z.elim (fun z => by omega) (fun z => by omega)))
    rw [eG]
    intro i hi
    rw [tAt_G, tGa_lo (by omega)]
    exact h9 i hi
  have hcg : ∀ i, i < 4 → σ9 (G.2.2.1 (14 + i)) = 21 + i := fun i hi => by rw [hGhi i hi]; exact hcd i hi
  have hhi : ∀ i, i < 4 → H2.size ≤ G.2.2.1 (14 + i) ∧ G.2.2.1 (14 + i) < H3.size := fun i hi => by
    have h1 := hcg i hi
    have hne : σ9 (G.2.2.1 (14 + i)) ≠ 0 := by omega
    refine ⟨?_, hσ9 _ hne⟩
    rcases hlo _ hne with z | z
    · rw [z, hx2] at h1; omega
    · exact z
  have hlo2 : ∀ i, 5 ≤ i → i < 14 → H.size ≤ G.2.2.1 i ∧ G.2.2.1 i < H1.size ∧ τ (G.2.2.1 i) = 0 := fun i h5 hi => by
    rw [hGlo i h5 hi]
    exact ⟨(had i h5 hi).2, hB4 i h5 hi, (had i h5 hi).1⟩
  have hD : wDn G 18 := by
    intro i j i5 i18 j5 j18 eij
    by_cases hi : i < 14
    · by_cases hj : j < 14
      · rw [hGlo i i5 hi, hGlo j j5 hj] at eij
        exact hinj i j i5 hi j5 hj eij
      · obtain ⟨k, ek⟩ : ∃ k, j = 14 + k := ⟨j - 14, by omega⟩
        subst ek
        have g1 := hlo2 i i5 hi
        have g2 := hhi k (by omega)
        omega
    · obtain ⟨k, ek⟩ : ∃ k, i = 14 + k := ⟨i - 14, by omega⟩
      subst ek
      by_cases hj : j < 14
      · have g1 := hlo2 j j5 hj
        have g2 := hhi k (by omega)
        omega
      · obtain ⟨k2, ek2⟩ : ∃ k, j = 14 + k := ⟨j - 14, by omega⟩
        subst ek2
        have g1 := hcg k (by omega)
        have g2 := hcg k2 (by omega)
        rw [eij] at g1
        omega
  obtain ⟨σ, eσ⟩ : ∃ σ : Nat → Nat, σ = fun q => if σ9 q ≤ 20 then σ9 q else 0 := ⟨_, rfl⟩
  have hσ1 : ∀ q, σ9 q ≤ 20 → σ q = σ9 q := fun q h => by rw [eσ]; exact if_pos h
  have hσ0 : ∀ q, ¬ σ9 q ≤ 20 → σ q = 0 := fun q h => by rw [eσ]; exact if_neg h
  have hσn : ∀ q, σ q ≠ 0 → σ q = σ9 q := fun q h => by
    by_cases z : σ9 q ≤ 20
    · exact hσ1 q z
    · exact absurd (hσ0 q z) h
  have h20 : ∀ q, σ q ≤ 20 := fun q => by
    by_cases z : σ9 q ≤ 20
    · rw [hσ1 q z]; exact z
    · rw [hσ0 q z]; omega
  have hz14 : ∀ i, i < 4 → σ (G.2.2.1 (14 + i)) = 0 := fun i hi => hσ0 _ (by rw [hcg i hi]; omega)
  have hvσ : vσ G σ = σ9 := funext fun q => by
    rcases vσ_of (G := G) (σ := σ) (q := q) with ⟨i, hi, e⟩ | e
    · rw [e, vσ_at hD hi]; exact (hcg i hi).symm
    · rw [e]
      by_cases z : σ9 q ≤ 20
      · exact hσ1 q z
      · exfalso
        have g := h24 q
        obtain ⟨k, ek⟩ : ∃ k, σ9 q = 21 + k := ⟨σ9 q - 21, by omega⟩
        have hk4 : k < 4 := by omega
        have eq := hun q (G.2.2.1 (14 + k)) (by rw [ek, hcg k hk4]) (by omega)
        rw [eq, vσ_at hD hk4, hz14 k hk4] at e
        omega
  rw [← hvσ] at hM3
  obtain ⟨hM4, hV4⟩ := vSplit hM3 hz14 h20 hD
  have hx2 : σ H1.size = 1 := by rw [hσ1 _ (by omega)]; exact hx2
  refine va_forget (fun q hq => hS3.2.2 q hq) ?_
  refine lv_astore_n (lv' := [(2, .ref H1.size), (1, .ref x1), (0, .ref b)]) hx hb dL_law_15 rfl hl (by decide) rfl (fun ls hl => ?_)
  refine lv_iconst (v := 0) hx hb dL_law_16 (by decide) ?_
  refine lv_istore_n (lv' := [(3, .int 0), (2, .ref H1.size), (1, .ref x1), (0, .ref b)]) hx hb dL_law_17 rfl hl (by decide) rfl (fun ls hl => ?_)
  have gS := hS.1
  have hlos : ∀ q, σ q ≠ 0 → q = H1.size ∨ H2.size ≤ q := fun q hq => hlo q (by rw [← hσn q hq]; exact hq)
  have hI0 : wIn wT0 := fun i _ => by show (-1 ≤ (-1 : Int32).toInt ∧ (-1 : Int32).toInt ≤ 3) ∧ 0 ≤ (0 : Int32).toInt ∧ (0 : Int32).toInt ≤ 60; decide
  have hLS : lS G τ σ a (wT0, fun _ _ => 0) (wT0, fun _ _ => 0) s H3 := by
    refine ⟨hT3, fun q hq => ⟨(hτ q hq).1, by have := (hτ q hq).2; omega⟩, hM4, fun q hq => ⟨?_, hσ9 q (by rw [← hσn q hq]; exact hq)⟩, fun x y e hx => ?_, hPI, ⟨fun q hq => Classical.byContradiction fun z => ?_, ⟨hW3, hC3⟩, ⟨hV4, hR3⟩, hI0, hI0, hD, fun i i5 i18 => ?_, h20⟩, hS3.1, hS3.2.1, fun _ h => by cases h⟩
    · rcases hlos q hq with z | z <;> omega
    · have hy : σ y ≠ 0 := by rw [← e]; exact hx
      exact hun x y (by rw [← hσn x hx, ← hσn y hy]; exact e) (by rw [← hσn x hx]; exact hx)
    · have g := (hτ q hq).2
      rcases hlos q z with z | z <;> omega
    · by_cases hi : i < 14
      · have g1 := hlo2 i i5 hi
        refine ⟨g1.2.2, Classical.byContradiction fun z => ?_, by omega, by omega⟩
        rcases hlos _ z with z | z <;> omega
      · obtain ⟨k, ek⟩ : ∃ k, i = 14 + k := ⟨i - 14, by omega⟩
        subst ek
        have g2 := hhi k (by omega)
        refine ⟨Classical.byContradiction fun z => ?_, hz14 k (by omega), by omega, g2.2⟩
        have := (hτ _ z).2; omega
  exact lw_loop E (hSw.narrow (fun q hq => (hτ q hq).1)) hSw hX hbl hx1 hx2 (fun q => (p4 q rfl).1) (fun q => (p4 q rfl).2) hL hr hlk 4001 0 a (wT0, fun _ _ => 0) H3 ls (by decide) (by decide) (by decide) (lv_sub hl [3, 2, 1, 0] rfl) hLS
