/-! ===== the law's start: both objects are made ===== -/
theorem lw_cl9 : Cond.classLink RL 7 RX9 ∈ tWS := t_w1 20 rfl rfl
theorem lw_in9 : Cond.instantiable RX9 12 ∈ tWS := t_w1 21 rfl rfl
theorem lw_it9 : Cond.initialized RX9 ∈ tWS := t_w1 1 rfl rfl
theorem lw_cl10 : Cond.classLink RL 10 RX10 ∈ tWS := t_w6 31 rfl rfl
theorem lw_in10 : Cond.instantiable RX10 40 ∈ tWS := t_w6 32 rfl rfl
theorem lw_it10 : Cond.initialized RX10 ∈ tWS := t_w1 10 rfl rfl
section LWS
variable {p : Program} {l : Launch} {e : Env} {R : Room} {s : State} {m : MethodId} {args : Array Value} {below : List Frame} {meth : Method} {c : Code} {H : Heap} {locs : List Loc} {Q : State → Prop}
variable {cc : ByteArray} {pc : Nat} {ls : Array Slot} {rest st0 As : List Value} {a b h t k ci cj index n N : Nat} {G : tG} {own : String} {nL : Nat} {τ τ0 : Nat → Nat} {fs : List Value} {cells slots mc ms : Nat} {y : MethodName} {bytes : ByteArray} {maxL : Nat} {rm : Room}
/-- a new object, where the heap is typed and nothing is under construction -/
theorem ln_new (E : tE G p s m c args own cc nL) (hS : va_S (fun q => s.heap.size ≤ q) s.heap H locs) {C : String} {T : u_T} {ty : Nat → FieldType} {fs0 : List Value} (hF : tFc cj C T n ty) (hfs : ∀ j, j < n → defaultValue (ty j) = vp_V fs0 j) (hlen : fs0.length = n) (h1 : Cond.classLink own index C ∈ tWS) (h2 : Cond.instantiable C n ∈ tWS) (h3 : Cond.initialized C ∈ tWS) (hcl : cells + 1 ≤ R.cells) (hsl : slots + n ≤ R.slots) (hdg : decode cc pc = .ok (.new index, 3))
    (kk : ∀ (H1 : Heap), H1.size = H.size + 1 → tOb G H1 H.size cj fs0 → (∀ x : Nat, x < H.size → H1[x]? = H[x]?) → va_S (fun q => s.heap.size ≤ q) s.heap H1 locs → W p l e R s m args below meth c H1 locs (cells + 1) (slots + n) Q (F0 m (pc + 3) ls (.ref H.size :: rest))) : W p l e R s m args below meth c H locs cells slots Q (F0 m pc ls rest) := by
  obtain ⟨hx, hb, hml, hown, hts, hK⟩ := E
  obtain ⟨hc, hin, hty, hnm⟩ := hF
  have hKn := hK.1 cj _ hc
  refine W.newcK hx hb hown (hts _ h1) (hts _ h2) (hts _ h3) rfl hdg hcl hsl hKn.2.1 rfl fun H1 kC hkC e1 z1 o1 => ?_
  exact kk H1 z1 ⟨_, hc, (u_born ty hts hin hKn hkC e1 hty).to hfs, hlen⟩ o1 ⟨by have := hS.1; omega, fun x e1 e2 => (o1 x (Nat.lt_of_lt_of_le e1 hS.1)).trans (hS.2.1 x e1 e2), hS.2.2⟩
theorem ln_runI {fs0 : List Value} {Qc : Array Value → State → Outcome → State → Prop} (E : tE G p s m c args own cc nL) (hNs : tNs s) (hT : TH G (tΓi τ) H) (hlt : ∀ q, τ q ≠ 0 → q < H.size) (hO : tOb G H b cj fs0) (hb1 : τ b = 0) (hM : Met l y (.code y bytes maxL none :: tWS) rm (va_Pc (.ref b :: As) (tCP G τ b H.size cj fs0)) Qc mc ms (tCA b H.size)) (hc : tCm y bytes maxL none n ∧ Cond.instanceMethod y ∈ tWS) (hnm : y.name = "<init>") (hl : Cond.methodLink own index y ∈ tWS) (hR : rm.cells = mc ∧ rm.slots = ms ∧ rm.frames + 1 ≤ R.frames ∧ 8 + (maxL + 11) + rm.locals ≤ R.locals) (hn : As.length = n) (hsz : ls.size = nL) (hst : st0 = As.reverse ++ .ref b :: rest) (hW : (rest.map fun v => v.category).sum ≤ 8) (hcs : cells + mc ≤ R.cells ∧ slots + ms ≤ R.slots) (hdg : decode cc pc = .ok (.invokespecial index, 3)) :
    va_Run p l e R s m args below meth c H locs cells slots mc ms (F0 m pc ls st0) rest (Qc (Value.ref b :: As).toArray) (tCA b H.size) := by
  obtain ⟨hx, hbb, hml, hown, hts, hK⟩ := id E
  exact va_runI ⟨hx, hbb, hml, hown, hts⟩ hM ⟨callB_of n hts (t_good hc.1.1) rfl hR.1 hR.2.1 (hts _ hc.1.2.1) (hts _ hl) hc.1.2.2 hR.2.2, hnm, hts _ hc.2⟩ ⟨tCP.blind, fun U hU hWm => ⟨rfl, by rw [hU], hO.lt, by rw [hU]; exact hT, hlt, hb1, by rw [hU]; exact hO, va_K.moved hWm.alike hK, hNs.warm hWm⟩⟩ rfl hn hsz hst (lv_room hW) hdg hcs
end LWS
set_option maxHeartbeats 4000000 in
set_option maxRecDepth 100000 in
theorem whole_start {p : Program} {e : Env} {s : State} {m : MethodId} {below : List Frame} {meth : Method} {c : Code} (l : Launch) (hflags : l.flags = flags0) {b L : Nat} {xs : Nat → Int32} (hL : L ≤ 3584) (C0 : lw_At p s m meth c b L xs) : W p l e room_1 s m #[Value.ref b] below meth c s.heap [] 0 0 (lw_Z below #[Value.ref b] s) (entryFrame m ([Value.ref b] : List Value).toArray 4) := by
  obtain ⟨hx, hb, hr, hml, hown, hts, hX, hbl, hlk, hgv⟩ := C0
  obtain ⟨X, Y, hKa⟩ := lw_G hts
  obtain ⟨T, K, V, hSa⟩ := lw_st hgv hts
  obtain ⟨G, eG⟩ : ∃ G : tG, G = (X, Y, T, K, V) := ⟨_, rfl⟩
  have hK : va_K G.1 vwCl (tTy G) s := by rw [eG]; exact hKa T K V
  have hSt0 : tSt G (fun q => s.heap.size ≤ q) s := by rw [eG]; exact hSa X Y
  clear hKa hSa eG
  have E : tE G p s m c #[Value.ref b] RL cL_law 4 := ⟨hx, hb, hml, hown, lw_ws hts, hK⟩
  have hb : c.code = cL_law := hb
  have hNs := lw_ns hts
  have hl := lv_entry [Value.ref b] (n := 4) (Nat.le_of_ble_eq_true rfl)
  rw [lg_entry_eq]
  generalize ((lg_sl [Value.ref b] ++ List.replicate (4 - (lg_sl [Value.ref b]).length) Slot.unset).toArray) = ls at hl ⊢
  have hl : lv_has ls 4 [(0, .ref b)] := hl
  have hS0 : va_S (fun q => s.heap.size ≤ q) s.heap s.heap [] := ⟨Nat.le_refl _, fun _ _ _ => rfl, fun _ h => by cases h⟩
  refine ln_new E hS0 fc_X9 fv_X9 rfl lw_cl9 lw_in9 lw_it9 (Nat.le_of_ble_eq_true rfl) (Nat.le_of_ble_eq_true rfl) dL_law_0 (fun H z1 hO o1 hS => ?_)
  refine lv_dup hx hb dL_law_3 rfl ?_
  have hT0 : TH G (tΓi (fun _ => 0)) H := fun a sh h => by simp [tΓi] at h
  refine va_callv (ln_runI (τ := fun _ => 0) (rest := [.ref s.heap.size]) (As := []) E hNs hT0 (fun q h => absurd rfl h) hO rfl k_X9_init ck_X9_init rfl ml_L_9 ⟨rfl, rfl, Nat.le_of_ble_eq_true rfl, Nat.le_of_ble_eq_true rfl⟩ rfl hl.1 rfl (Nat.le_of_ble_eq_true rfl) ⟨Nat.le_of_ble_eq_true rfl, Nat.le_of_ble_eq_true rfl⟩ dL_law_4) hS (fun q _ hq => hq.elim (fun e => by show s.heap.size ≤ q; omega) (fun e => by show s.heap.size ≤ q; omega)) (fun q hq => hq.elim (fun e => by show s.heap.size ≤ q; omega) (fun e => by show s.heap.size ≤ q; omega)) (fun τ t H1 locs1 ht _ hp hB hz hk hS => ?_)
  obtain ⟨x1, ex1⟩ : ∃ x, x = s.heap.size := ⟨_, rfl⟩
  rw [← ex1] at hp
  rw [← ex1]
  obtain ⟨hx1, p2, p3, p4⟩ := hp
  have hτ : ∀ q, τ q ≠ 0 → s.heap.size ≤ q ∧ q < H1.size := fun q hq => ⟨Classical.byContradiction fun z => hq (p3 q (by omega) (by omega) rfl), by rw [← ht]; exact hB.2 q hq⟩
  have hT1 : TH G (tΓi τ) H1 := ht ▸ hB.1
  refine va_forget (fun q hq => hS.2.2 q hq) ?_
  have hS : va_S (fun q => s.heap.size ≤ q) s.heap H1 [] := ⟨hS.1, hS.2.1, fun _ h => by cases h⟩
  refine lv_astore_n (lv' := [(1, .ref x1), (0, .ref b)]) hx hb dL_law_7 rfl hl (by decide) rfl (fun ls hl => ?_)
  refine ln_new E hS fc_X10 fv_X10 rfl lw_cl10 lw_in10 lw_it10 (Nat.le_of_ble_eq_true rfl) (Nat.le_of_ble_eq_true rfl) dL_law_8 (fun H2 z2 hO2 o2 hS2 => ?_)
  refine lv_dup hx hb dL_law_11 rfl ?_
  have hT2 : TH G (tΓi τ) H2 := hT1.kept (fun q hq => o2 q (hτ q (tΓi_no hq)).2)
  have h0 : τ H1.size = 0 := Classical.byContradiction fun z => by have := (hτ _ z).2; omega
  refine va_callv (ln_runI (τ := τ) (rest := [.ref H1.size]) (As := []) E hNs hT2 (fun q h => by have := (hτ q h).2; omega) hO2 h0 k_X10_init ck_X10_init rfl ml_L_12 ⟨rfl, rfl, Nat.le_of_ble_eq_true rfl, Nat.le_of_ble_eq_true rfl⟩ rfl hl.1 rfl (Nat.le_of_ble_eq_true rfl) ⟨Nat.le_of_ble_eq_true rfl, Nat.le_of_ble_eq_true rfl⟩ dL_law_12) hS2 (fun q _ hq => hq.elim (fun e => by have := hS.1; show s.heap.size ≤ q; omega) (fun e => by have := hS.1; show s.heap.size ≤ q; omega)) (fun q hq => hq.elim (fun e => by have := hS.1; show s.heap.size ≤ q; omega) (fun e => by have := hS.1; show s.heap.size ≤ q; omega)) (fun w t3 H3 locs3 ht3 _ hp3 hB3 hz3 hk3 hS3 => ?_)
  obtain ⟨σ, a⟩ := w
  obtain ⟨hx2, hPI, hun, hlo⟩ := hp3
  have hx2 : σ H1.size = 1 := hx2
  have hPI : PI2 a := hPI
  have hun : ∀ x y, σ x = σ y → σ x ≠ 0 → x = y := hun
  have hlo : ∀ q, σ q ≠ 0 → q = H1.size ∨ H2.size ≤ q := hlo
  have hM3 : TH G (mΓ (gM1 G) (σ, 2, qX a)) H3 := ht3 ▸ hB3.1
  have hσ : ∀ q, σ q ≠ 0 → q < H3.size := fun q hq => by rw [← ht3]; exact hB3.2 q hq
  refine va_forget (fun q hq => hS3.2.2 q hq) ?_
  refine lv_astore_n (lv' := [(2, .ref H1.size), (1, .ref x1), (0, .ref b)]) hx hb dL_law_15 rfl hl (by decide) rfl (fun ls hl => ?_)
  refine lv_iconst (v := 0) hx hb dL_law_16 (by decide) ?_
  refine lv_istore_n (lv' := [(3, .int 0), (2, .ref H1.size), (1, .ref x1), (0, .ref b)]) hx hb dL_law_17 rfl hl (by decide) rfl (fun ls hl => ?_)
  have hT3 : TH G (tΓi τ) H3 := hT2.kept (fun q hq => by
    have g := (hτ q (tΓi_no hq)).2
    exact hk3 q (by omega) (fun z => z.elim (fun z => by omega) (fun z => by omega)))
  obtain ⟨b1, b3, hb1, hb3, hT4⟩ := tΓi_to hT3 hx1
  have n1 := (hτ b1 (by rw [hb1]; decide)).1
  have n3 := (hτ b3 (by rw [hb3]; decide)).1
  have d13 : b1 ≠ b3 := fun z => by rw [z, hb3] at hb1; cases hb1
  have dx1 : x1 ≠ b1 := fun z => by rw [← z, hx1] at hb1; cases hb1
  have dx3 : x1 ≠ b3 := fun z => by rw [← z, hx1] at hb3; cases hb3
  obtain ⟨Gf, eGf⟩ : ∃ Z : tG, Z = gM1 (gI G x1 b1 b3) := ⟨_, rfl⟩
  have hA : gA G Gf := by
    rw [eGf]
    refine gA.gm (gA.gm (gA.gm ⟨rfl, rfl, rfl, fun i hi => ?_⟩))
    show (if 20 ≤ i ∧ i < 100 then 1 else (gI G x1 b1 b3).2.2.1 i) = G.2.2.1 i
    rw [if_neg (by omega)]
    exact if_pos hi
  have hC : tΓ Gf τ = tΓ (gI G x1 b1 b3) τ := by
    rw [eGf]
    unfold gM1
    rw [tΓ_gm (by decide) (by decide), tΓ_gm (by decide) (by decide), tΓ_gm (by decide) (by decide), tΓ_g0]
  have hMm : ∀ Y, mΓ Gf Y = mΓ (gM1 G) Y := fun Y => mΓ_eq (fun t k ht hk => by
    have e : ∀ Z : tG, (gM0 Z).2.2.1 (20 + 8 * t + k) = 1 := fun Z => if_pos (by omega)
    rw [eGf]
    simp only [km, gM1, gSm, e])
  have hLS : lS Gf τ σ a s H3 := by
    refine ⟨by rw [hA.TH, hC]; exact hT4, fun q hq => ⟨(hτ q hq).1, by have := (hτ q hq).2; omega⟩, by rw [hA.TH, hMm]; exact hM3, fun q hq => ⟨?_, hσ q hq⟩, hun, hPI, fun q hq => Classical.byContradiction fun z => ?_, hS3.1, hS3.2.1, fun _ h => by cases h⟩
    · have g := hS.1
      rcases hlo q hq with z | z <;> omega
    · have g := (hτ q hq).2
      rcases hlo q z with z | z <;> omega
  have k0 : ∀ t k, t < 4 → k < 8 → km (gM0 (gI G x1 b1 b3)) t k = some 0 := fun t k ht hk => by
    show (match (if 20 ≤ 20 + 8 * t + k ∧ 20 + 8 * t + k < 100 then 1 else (gI G x1 b1 b3).2.2.1 (20 + 8 * t + k)) with | 0 => none | n + 1 => some (Int32.ofNat n)) = some 0
    rw [if_pos (by omega)]
    rfl
  have w0 : ∀ q k, kW Gf q k = kW (gI G x1 b1 b3) q k := fun q k => by
    rw [eGf]
    unfold gM1
    rw [kW_gm (by decide) (by decide), kW_gm (by decide) (by decide), kW_gm (by decide) (by decide)]
    show (match (if 20 ≤ 100 + 64 * q + k ∧ 100 + 64 * q + k < 100 then 1 else (gI G x1 b1 b3).2.2.1 (100 + 64 * q + k)) with | 0 => none | n + 1 => some (Int32.ofNat n)) = kW (gI G x1 b1 b3) q k
    rw [if_neg (by omega)]
    rfl
  have hT6 : ∀ i, i < 20 → Gf.2.2.1 i = (gI G x1 b1 b3).2.2.1 i := fun i hi => by
    rw [eGf]
    unfold gM1
    rw [gSm_T (by omega), gSm_T (by omega), gSm_T (by omega)]
    exact if_neg (by omega)
  have t6 : Gf.2.2.1 6 = b1 := (hT6 6 (by omega)).trans rfl
  have t7 : Gf.2.2.1 7 = b3 := (hT6 7 (by omega)).trans rfl
  have t8 : Gf.2.2.1 8 = x1 := (hT6 8 (by omega)).trans rfl
  have hLK : lK Gf x1 := by
    unfold lK
    rw [t6, t7, t8]
    refine ⟨⟨rfl, by omega, by omega, d13, dx1, dx3⟩, 100, 100, 0, 100, 100, 0, 0, ⟨?_, ?_, ?_, ?_⟩, ⟨?_, ?_⟩, ⟨?_, ?_, ?_, ?_, fun z => absurd rfl z⟩, by decide, by decide, by decide, by decide, by decide, by decide⟩
    · rw [w0]; exact gI_100 ⟨Or.inl rfl, Or.inl rfl⟩
    · rw [w0]; exact gI_100 ⟨Or.inl rfl, Or.inr rfl⟩
    · rw [eGf]; unfold gM1; rw [gSm_ne (Or.inl (by decide)) (by decide) (by decide), gSm_ne (Or.inr (by decide)) (by decide) (by decide), gSm_at (by decide)]
    · rw [eGf]; unfold gM1; rw [gSm_ne (Or.inl (by decide)) (by decide) (by decide), gSm_at (by decide)]
    · rw [w0]; exact gI_x dx1 dx3
    · rw [eGf]; unfold gM1; rw [gSm_at (by decide)]
    · rw [w0]; exact gI_100 ⟨Or.inr rfl, Or.inl rfl⟩
    · rw [w0]; exact gI_100 ⟨Or.inr rfl, Or.inr rfl⟩
    · rw [eGf]; unfold gM1; rw [gSm_ne (Or.inl (by decide)) (by decide) (by decide), gSm_ne (Or.inl (by decide)) (by decide) (by decide), gSm_ne (Or.inl (by decide)) (by decide) (by decide)]; exact k0 3 1 (by decide) (by decide)
    · rw [eGf]; unfold gM1; rw [gSm_ne (Or.inl (by decide)) (by decide) (by decide), gSm_ne (Or.inl (by decide)) (by decide) (by decide), gSm_ne (Or.inl (by decide)) (by decide) (by decide)]; exact k0 3 2 (by decide) (by decide)
  exact lw_loop hX hbl hx1 hx2 (fun q => (p4 q rfl).1) (fun q => (p4 q rfl).2) hL hr hlk 4001 Gf 0 a H3 ls (hA.E E) (hA.St (hSt0.narrow (fun q hq => (hτ q hq).1))) hLK (by decide) (by decide) (by decide) (lv_sub hl [3, 2, 1, 0] rfl) hLS
