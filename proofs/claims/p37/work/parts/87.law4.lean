/-! ===== the law's start: both objects are made ===== -/
theorem lw_cl9 : Cond.classLink RL 7 RX9 ∈ tWS := t_w1 20 rfl rfl
theorem lw_in9 : Cond.instantiable RX9 12 ∈ tWS := t_w1 21 rfl rfl
theorem lw_it9 : Cond.initialized RX9 ∈ tWS := t_w1 1 rfl rfl
theorem lw_cl10 : Cond.classLink RL 10 RX10 ∈ tWS := t_w6 31 rfl rfl
theorem lw_in10 : Cond.instantiable RX10 40 ∈ tWS := t_w6 32 rfl rfl
theorem lw_it10 : Cond.initialized RX10 ∈ tWS := t_w1 10 rfl rfl
section LWS
variable {p : Program} {l : Launch} {e : Env} {R : Room} {s : State} {m : MethodId} {args : Array Value} {below : List Frame} {meth : Method} {c : Code} {H : Heap} {locs : List Loc} {Q : State → Prop}
variable {cc : ByteArray} {pc : Nat} {ls : Array Slot} {rest st0 As : List Value} {a b h t k ci cj index n N : Nat} {G : tG} {own : String} {nL : Nat} {τ τ0 : Nat → Nat} {fs : List Value} {cells slots mc ms : Nat} {y : MethodName} {bytes : ByteArray} {maxL : Nat} {rm : Room}
/-- a new object, where the heap is typed and nothing is under construction -/
theorem ln_new (E : tE G p s m c args own cc nL) (hS : va_S (fun q => s.heap.size ≤ q) s.heap H locs) {C : String} {T : u_T} {ty : Nat → FieldType} {fs0 : List Value} (hF : tFc cj C T n ty) (hfs : ∀ j, j < n → defaultValue (ty j) = vp_V fs0 j) (hlen : fs0.length = n) (h1 : Cond.classLink own index C ∈ tWS) (h2 : Cond.instantiable C n ∈ tWS) (h3 : Cond.initialized C ∈ tWS) (hcl : cells + 1 ≤ R.cells) (hsl : slots + n ≤ R.slots) (hdg : decode cc pc = .ok (.new index, 3))
    (kk : ∀ (H1 : Heap), H1.size = H.size + 1 → tOb G H1 H.size cj fs0 → (∀ x : Nat, x < H.size → H1[x]? = H[x]?) → va_S (fun q => s.heap.size ≤ q) s.heap H1 locs → W p l e R s m args below meth c H1 locs (cells + 1) (slots + n) Q (F0 m (pc + 3) ls (.ref H.size :: rest))) : W p l e R s m args below meth c H locs cells slots Q (F0 m pc ls rest) := by
  obtain ⟨hx, hb, hml, hown, hts, hK⟩ := E
  obtain ⟨hc, hin, hty, hnm⟩ := hF
  have hKn := hK.1 cj _ hc
  refine W.newcK hx hb hown (hts _ h1) (hts _ h2) (hts _ h3) rfl hdg hcl hsl hKn.2.1 rfl fun H1 kC hkC e1 z1 o1 => ?_
  exact kk H1 z1 ⟨_, hc, (u_born ty hts hin hKn hkC e1 hty).to hfs, hlen⟩ o1 ⟨by have := hS.1; omega, fun x e1 e2 => (o1 x (Nat.lt_of_lt_of_le e1 hS.1)).trans (hS.2.1 x e1 e2), hS.2.2⟩
theorem ln_runI {fs0 : List Value} {Qc : Array Value → State → Outcome → State → Prop} (E : tE G p s m c args own cc nL) (hNs : tNs s) (hT : TH G (tΓ G τ) H) (hlt : ∀ q, τ q ≠ 0 → q < H.size) (hO : tOb G H b cj fs0) (hb1 : τ b = 0) (hM : Met l y (.code y bytes maxL none :: tWS) rm (va_Pc (.ref b :: As) (tCP G τ b H.size cj fs0)) Qc mc ms (tCA b H.size)) (hc : tCm y bytes maxL none n ∧ Cond.instanceMethod y ∈ tWS) (hnm : y.name = "<init>") (hl : Cond.methodLink own index y ∈ tWS) (hR : rm.cells = mc ∧ rm.slots = ms ∧ rm.frames + 1 ≤ R.frames ∧ 8 + (maxL + 11) + rm.locals ≤ R.locals) (hn : As.length = n) (hsz : ls.size = nL) (hst : st0 = As.reverse ++ .ref b :: rest) (hW : (rest.map fun v => v.category).sum ≤ 8) (hcs : cells + mc ≤ R.cells ∧ slots + ms ≤ R.slots) (hdg : decode cc pc = .ok (.invokespecial index, 3)) :
    va_Run p l e R s m args below meth c H locs cells slots mc ms (F0 m pc ls st0) rest (Qc (Value.ref b :: As).toArray) (tCA b H.size) := by
  obtain ⟨hx, hbb, hml, hown, hts, hK⟩ := id E
  exact va_runI ⟨hx, hbb, hml, hown, hts⟩ hM ⟨callB_of n hts (t_good hc.1.1) rfl hR.1 hR.2.1 (hts _ hc.1.2.1) (hts _ hl) hc.1.2.2 hR.2.2, hnm, hts _ hc.2⟩ ⟨tCP.blind, fun U hU hWm => ⟨rfl, by rw [hU], hO.lt, by rw [hU]; exact hT, hlt, hb1, by rw [hU]; exact hO, va_K.moved hWm.alike hK, hNs.warm hWm⟩⟩ rfl hn hsz hst (lv_room hW) hdg hcs
end LWS
set_option maxHeartbeats 4000000 in
set_option maxRecDepth 100000 in
theorem whole_start {p : Program} {e : Env} {s : State} {m : MethodId} {below : List Frame} {meth : Method} {c : Code} (l : Launch) (hflags : l.flags = flags0) {b L : Nat} {xs : Nat → Int32} (hL : L ≤ 3584) (C0 : lw_At p s m meth c b L xs) : W p l e room_1 s m #[Value.ref b] below meth c s.heap [] 0 0 (lw_Z below #[Value.ref b] s) (entryFrame m ([Value.ref b] : List Value).toArray 4) := by
  obtain ⟨hx, hb, hr, hml, hown, hts, hX, hbl, hlk, hgv⟩ := C0
  obtain ⟨X, Y, hKa⟩ := lw_G hts
  obtain ⟨T, K, V, hSa⟩ := lw_st hgv hts
  obtain ⟨T9, eT9⟩ : ∃ T9 : Nat → Nat, T9 = fun i => if i < 5 then T i else if i = 8 then s.heap.size else if i = 10 then s.heap.size + 1 else if i = 11 then s.heap.size + 101 else if i = 14 then s.heap.size + 406 else if i = 16 then s.heap.size + 438 else 0 := ⟨_, rfl⟩
  obtain ⟨G, eG⟩ : ∃ G : tG, G = (X, Y, T9, K, V, iF s.heap.size, fun _ _ => 0) := ⟨_, rfl⟩
  have hK : va_K G.1 vwCl (tTy G) s := by rw [eG]; exact hKa T9 K V _ _
  have hSt0 : tSt G (fun q => s.heap.size ≤ q) s := by
    obtain ⟨g1, g2⟩ := hSa X Y (iF s.heap.size) (fun _ _ => 0)
    rw [eG]
    refine ⟨fun i hi => ?_, g2⟩
    have e : T9 i = T i := by rw [eT9]; exact if_pos (by omega)
    show _
    rw [show ((X, Y, T9, K, V, iF s.heap.size, fun _ _ => 0) : tG).2.2.1 i = T i from e]
    exact g1 i hi
  have hPr : PRG G s.heap.size := by
    rw [eG, eT9]
    exact ⟨⟨rfl, rfl, rfl, rfl, rfl, rfl⟩, fun a k _ _ => rfl⟩
  clear hKa hSa eG eT9
  have E : tE G p s m c #[Value.ref b] RL cL_law 4 := ⟨hx, hb, hml, hown, lw_ws hts, hK⟩
  have hb : c.code = cL_law := hb
  have hNs := lw_ns hts
  have hl := lv_entry [Value.ref b] (n := 4) (Nat.le_of_ble_eq_true rfl)
  rw [lg_entry_eq]
  generalize ((lg_sl [Value.ref b] ++ List.replicate (4 - (lg_sl [Value.ref b]).length) Slot.unset).toArray) = ls at hl ⊢
  have hl : lv_has ls 4 [(0, .ref b)] := hl
  have hS0 : va_S (fun q => s.heap.size ≤ q) s.heap s.heap [] := ⟨Nat.le_refl _, fun _ _ _ => rfl, fun _ h => by cases h⟩
  refine ln_new E hS0 fc_X9 fv_X9 rfl lw_cl9 lw_in9 lw_it9 (Nat.le_of_ble_eq_true rfl) (Nat.le_of_ble_eq_true rfl) dL_law_0 (fun H z1 hO o1 hS => ?_)
  refine lv_dup hx hb dL_law_3 rfl ?_
  have hT0 : TH G (tΓ G (fun _ => 0)) H := fun a sh h => by simp [tΓ] at h
  refine va_callv (ln_runI (τ := fun _ => 0) (rest := [.ref s.heap.size]) (As := []) E hNs hT0 (fun q h => absurd rfl h) hO rfl (k_X9_init z1 hPr) ck_X9_init rfl ml_L_9 ⟨rfl, rfl, Nat.le_of_ble_eq_true rfl, Nat.le_of_ble_eq_true rfl⟩ rfl hl.1 rfl (Nat.le_of_ble_eq_true rfl) ⟨Nat.le_of_ble_eq_true rfl, Nat.le_of_ble_eq_true rfl⟩ dL_law_4) hS (fun q _ hq => hq.elim (fun e => by show s.heap.size ≤ q; omega) (fun e => by show s.heap.size ≤ q; omega)) (fun q hq => hq.elim (fun e => by show s.heap.size ≤ q; omega) (fun e => by show s.heap.size ≤ q; omega)) (fun τ t H1 locs1 ht _ hp hB hz hk hS => ?_)
  obtain ⟨x1, ex1⟩ : ∃ x, x = s.heap.size := ⟨_, rfl⟩
  rw [← ex1] at hp
  rw [← ex1]
  obtain ⟨hx1, p2, p3, p4⟩ := hp
  have hτ : ∀ q, τ q ≠ 0 → s.heap.size ≤ q ∧ q < H1.size := fun q hq => ⟨Classical.byContradiction fun z => hq (p3 q (by omega) (by omega) rfl), by rw [← ht]; exact hB.2.1 q hq⟩
  have hT1 : TH G (tΓ G τ) H1 := ht ▸ hB.1
  refine va_forget (fun q hq => hS.2.2 q hq) ?_
  have hS : va_S (fun q => s.heap.size ≤ q) s.heap H1 [] := ⟨hS.1, hS.2.1, fun _ h => by cases h⟩
  refine lv_astore_n (lv' := [(1, .ref x1), (0, .ref b)]) hx hb dL_law_7 rfl hl (by decide) rfl (fun ls hl => ?_)
  refine ln_new E hS fc_X10 fv_X10 rfl lw_cl10 lw_in10 lw_it10 (Nat.le_of_ble_eq_true rfl) (Nat.le_of_ble_eq_true rfl) dL_law_8 (fun H2 z2 hO2 o2 hS2 => ?_)
  refine lv_dup hx hb dL_law_11 rfl ?_
  have hT2 : TH G (tΓ G τ) H2 := hT1.kept (fun q hq => o2 q (hτ q (tΓ_no hq)).2)
  have h0 : τ H1.size = 0 := Classical.byContradiction fun z => by have := (hτ _ z).2; omega
  refine va_callv (ln_runI (τ := τ) (rest := [.ref H1.size]) (As := []) E hNs hT2 (fun q h => by have := (hτ q h).2; omega) hO2 h0 k_X10_init ck_X10_init rfl ml_L_12 ⟨rfl, rfl, Nat.le_of_ble_eq_true rfl, Nat.le_of_ble_eq_true rfl⟩ rfl hl.1 rfl (Nat.le_of_ble_eq_true rfl) ⟨Nat.le_of_ble_eq_true rfl, Nat.le_of_ble_eq_true rfl⟩ dL_law_12) hS2 (fun q _ hq => hq.elim (fun e => by have := hS.1; show s.heap.size ≤ q; omega) (fun e => by have := hS.1; show s.heap.size ≤ q; omega)) (fun q hq => hq.elim (fun e => by have := hS.1; show s.heap.size ≤ q; omega) (fun e => by have := hS.1; show s.heap.size ≤ q; omega)) (fun w t3 H3 locs3 ht3 _ hp3 hB3 hz3 hk3 hS3 => ?_)
  obtain ⟨σ, a, M9⟩ := w
  obtain ⟨hx2, haI, hKI, hun, hlo⟩ := hp3
  have hx2 : σ H1.size = 1 := hx2
  have haI : aI0 a := haI
  have hKI : KI M9 := hKI
  have hPI : PI2 a := haI.pi
  have hun : ∀ x y, σ x = σ y → σ x ≠ 0 → x = y := hun
  have hlo : ∀ q, σ q ≠ 0 → q = H1.size ∨ H2.size ≤ q := hlo
  have hM3 : TH G (mΓ (kM G M9) (σ, 2, qX a)) H3 := ht3 ▸ hB3.1
  have hσ : ∀ q, σ q ≠ 0 → q < H3.size := fun q hq => by rw [← ht3]; exact hB3.2 q hq
  refine va_forget (fun q hq => hS3.2.2 q hq) ?_
  refine lv_astore_n (lv' := [(2, .ref H1.size), (1, .ref x1), (0, .ref b)]) hx hb dL_law_15 rfl hl (by decide) rfl (fun ls hl => ?_)
  refine lv_iconst (v := 0) hx hb dL_law_16 (by decide) ?_
  refine lv_istore_n (lv' := [(3, .int 0), (2, .ref H1.size), (1, .ref x1), (0, .ref b)]) hx hb dL_law_17 rfl hl (by decide) rfl (fun ls hl => ?_)
  have hT3 : TH G (tΓ G τ) H3 := hT2.kept (fun q hq => by
    have g := (hτ q (tΓ_no hq)).2
    exact hk3 q (by omega) (fun z => z.elim (fun z => by omega) (fun z => by omega)))
  rw [← ex1] at hPr
  have h18 : τ (x1 + 438) = 18 := by
    have h9 := hT3 x1 _ (tΓ_at hx1 (by decide))
    obtain ⟨r, V9, g1, g2, g3⟩ := h9
    have hr : r = (RX9, TX9, 12) := Option.some.inj (g1.symm.trans fc_X9.1)
    have h6 := g3 6 (by rw [hr]; decide)
    obtain ⟨q, e1, e2⟩ : ∃ q : Nat, V9 6 = .ref q ∧ τ q = 18 := h6.1
    have e3 := h6.2.2.2 rfl (fun _ => hPr.1.1.symm) (fun z => absurd z (by decide))
    rw [e1] at e3
    have e4 : q = G.2.2.1 16 := Value.ref.inj e3
    rw [← hPr.1.2.2.2.2.2, ← e4]; exact e2
  have hLS : lS (kM G M9) τ σ a s H3 := by
    refine ⟨by rw [TH_kM, tΓ_kM]; exact hT3, fun q hq => ⟨(hτ q hq).1, by have := (hτ q hq).2; omega⟩, by rw [TH_kM]; exact hM3, fun q hq => ⟨?_, hσ q hq⟩, hun, hPI, fun q hq => Classical.byContradiction fun z => ?_, hS3.1, hS3.2.1, fun _ h => by cases h⟩
    · have g := hS.1
      rcases hlo q hq with z | z <;> omega
    · have g := (hτ q hq).2
      rcases hlo q z with z | z <;> omega
  have hLK : lK (kM G M9) x1 a := by
    obtain ⟨a1, a2, t, u, a3, a4, a5, a6, a7, a8, a9⟩ := haI
    obtain ⟨k1, k2, k3, k4, k5, k6⟩ := hKI
    refine ⟨⟨hPr.1.1, hPr.1.2.2.1, hPr.1.2.2.2.1, hPr.1.2.2.2.2.1, hPr.1.2.2.2.2.2⟩, t, u, a3, a4, ?_⟩
    show lT (FF G) M9 x1 (G.2.2.1 10) (G.2.2.1 11) (G.2.2.1 16) t u
    have w1 := hPr.w (w := G.2.2.1 10) (Or.inl hPr.1.2.2.1)
    have w2 := hPr.w (w := G.2.2.1 11) (Or.inr hPr.1.2.2.2.1)
    have e0 : (0 : Int32).toInt = 0 := by decide
    have nAL : ∀ b : Int, ¬ AL t b := fun b q => by have := a9 b 0 q.1 (by decide); have := q.2.2; omega
    have nm : ∀ w : Nat, WRG G w → ∀ n : Nat, n ≤ 23 → (FF G (bA w n) 0).toInt = (n : Int) := fun w hw n hn => by
      rw [show FF G (bA w n) 0 = Int32.ofNat n from (hw.2 n (by omega)).1]
      exact nI_toInt (by omega)
    refine ⟨⟨hPr.1.2.2.1, hPr.1.2.2.2.1, hPr.1.2.2.2.2.2⟩, ⟨by rw [w1.1.2.2.1, a8]; exact e0, by rw [w1.1.2.2.2, a7]; decide, fun n => ?_, nm _ w1, fun n hn q => ?_⟩, a5, ⟨fun b hb => absurd hb (nAL b), fun b i hb => absurd hb (nAL b), fun q => by omega, fun b hb => absurd hb (nAL b)⟩, a6, ⟨by rw [w1.1.1, k1], by rw [k1]; decide, by rw [k1]; decide⟩, ⟨by rw [hPr.z (Or.inl rfl), k4], by rw [k4]; decide, by rw [k4]; decide⟩, fun j hj => ?_, by rw [hPr.z (Or.inl rfl), k3], ⟨by rw [w2.1.2.2.1]; decide, nm _ w2⟩, fun q => absurd (by rw [k3]; exact e0) q, k5⟩
    · rw [w1.1.2.1]
      constructor
      · intro q; exact absurd q tB_0
      · rintro ⟨q1, q2⟩
        exact absurd ⟨by omega, by omega, q2⟩ (nAL (n : Int))
    · exact absurd ⟨by omega, by omega, q⟩ (nAL (n : Int))
    · rw [hPr.1.2.2.2.2.2, hPr.z (Or.inr (by omega)), k6]
  exact lw_loop hX hbl hx1 hx2 (fun q => (p4 q rfl).1) (fun q => (p4 q rfl).2.1) (fun q hq => by rw [← hPr.1.2.2.2.2.1]; exact (p4 q rfl).2.2 hq) h18 hL hr hlk 4001 (kM G M9) 0 a H3 ls E (hSt0.narrow (fun q hq => (hτ q hq).1)) hLK (by decide) (by decide) (by decide) (lv_sub hl [3, 2, 1, 0] rfl) hLS
