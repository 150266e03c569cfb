/-! ===== knowledge that changes ===== -/
def gSet (G : tG) (a k : Nat) (x : Int32) : tG := (G.1, G.2.1, fun i => if i = 100 + 64 * a + k then x.toInt.toNat + 1 else G.2.2.1 i, G.2.2.2.1, G.2.2.2.2)
theorem tMk_lt {t k : Nat} (h : tMk t k = true) : k < 12 := by
  unfold tMk at h
  simp only [Bool.or_eq_true, Bool.and_eq_true, beq_iff_eq] at h
  omega
theorem gSet_T {G : tG} {a k i : Nat} {x : Int32} (h : i < 100) : (gSet G a k x).2.2.1 i = G.2.2.1 i := if_neg (by omega)
theorem gSet_at {G : tG} {a k : Nat} {x : Int32} (hx : 0 ≤ x.toInt) : kW (gSet G a k x) a k = some x := by
  show (match (if 100 + 64 * a + k = 100 + 64 * a + k then x.toInt.toNat + 1 else G.2.2.1 (100 + 64 * a + k)) with | 0 => none | n + 1 => some (Int32.ofNat n)) = some x
  rw [if_pos rfl]
  show some (Int32.ofNat x.toInt.toNat) = some x
  obtain ⟨j, hj, e⟩ := nI_of (x := x) (fun z => by have := Int32.lt_iff_toInt_lt.mp z; have e0 : (0 : Int32).toInt = 0 := rfl; omega)
  rw [e, nI_toInt hj]
  rfl
theorem gSet_ne {G : tG} {a k b j : Nat} {x : Int32} (h : b ≠ a ∨ j ≠ k) (hk : k < 64) (hj : j < 64) : kW (gSet G a k x) b j = kW G b j := by
  show (match (if 100 + 64 * b + j = 100 + 64 * a + k then x.toInt.toNat + 1 else G.2.2.1 (100 + 64 * b + j)) with | 0 => none | n + 1 => some (Int32.ofNat n)) = kW G b j
  rw [if_neg (by omega)]
  rfl
theorem tAt_gs {G : tG} {a k : Nat} {x : Int32} {sh : tSH} {q : Nat} {H : Heap} : tAt (gSet G a k x) sh q H = tAt G sh q H := by
  obtain ⟨z, P⟩ := sh
  cases z <;> rfl
theorem TH_gs {G : tG} {a k : Nat} {x : Int32} {Γ : Nat → Option tSH} {H : Heap} : TH (gSet G a k x) Γ H = TH G Γ H := by
  unfold TH
  simp only [tAt_gs]
theorem tE.gs {G : tG} {a k : Nat} {x : Int32} {p : Program} {s : State} {m : MethodId} {c : Code} {args : Array Value} {own : String} {cc : ByteArray} {nL : Nat} (E : tE G p s m c args own cc nL) : tE (gSet G a k x) p s m c args own cc nL := E
theorem tSt.gs {G : tG} {a k : Nat} {x : Int32} {A : Nat → Prop} {V : State} (h : tSt G A V) : tSt (gSet G a k x) A V := by
  obtain ⟨h1, h2⟩ := h
  refine ⟨fun i hi => ?_, h2⟩
  rw [gSet_T (by omega)]
  exact h1 i hi
theorem tKn_gs {G : tG} {t a k b j : Nat} {x : Int32} {v : Value} (h : b ≠ a ∨ j ≠ k) (hk : k < 64) (hv : tKn G t b j v) : tKn (gSet G a k x) t b j v := fun hM => by
  have hj := tMk_lt hM
  refine ⟨fun y hy => (hv hM).1 y (by rw [gSet_ne h hk (by omega)] at hy; exact hy), fun h1 h2 h8 h3 => ?_⟩
  rw [gSet_T (by omega)] at h3 h8 ⊢
  exact (hv hM).2 h1 h2 h8 h3
section TK
variable {p : Program} {l : Launch} {e : Env} {R : Room} {s : State} {m : MethodId} {args : Array Value} {below : List Frame} {meth : Method} {c : Code} {H : Heap} {locs : List Loc} {Q : State → Prop}
variable {cc : ByteArray} {pc : Nat} {ls : Array Slot} {rest : List Value} {a t k index : Nat} {G : tG} {own : String} {nL : Nat} {τ : Nat → Nat} {lo hi : Int} {cells slots : Nat}
theorem tc_putKg (E : tE G p s m c args own cc nL) (hG : tGH G τ s H locs) (ha : τ a = t) (h0 : t ≠ 0) {ci : Nat} (hs : tShp t = .inl ci) (hd : tFD t k = (0, lo, hi)) (hk : 2 ≤ k ∧ k < 64) {ty : FieldType} (hf : tFp own index ci k ty) {x : Int32} (hx : 0 ≤ x.toInt) (h1 : lo ≤ x.toInt) (h2 : x.toInt ≤ hi) (hn : narrow ty (.int x) = .int x) (hfit : fits ty (.int x) = true) (hdg : decode cc pc = .ok (.putfield index, 3))
    (kk : ∀ (H1 : Heap) (locs1 : List Loc), tGH (gSet G a k x) τ s H1 locs1 → W p l e R s m args below meth c H1 locs1 cells slots Q (F0 m (pc + 3) ls rest)) : W p l e R s m args below meth c H locs cells slots Q (F0 m pc ls (.int x :: .ref a :: rest)) := by
  have hΓ := tΓ_at (G := G) ha h0
  rw [hs] at hΓ
  refine tg_put E hG.1 hΓ hf hn hfit hdg (fun H1 i z oq hat => kk H1 _ ⟨?_, hG.2.put z oq (show τ a ≠ 0 by rw [ha]; exact h0)⟩)
  rw [TH_gs]
  refine TH.mk (fun q hq => ?_)
  by_cases e : q = a
  · subst e
    rw [ha, hs]
    exact hat _ ⟨by rw [hd]; exact ⟨x, rfl, h1, h2⟩, fun _ => ⟨fun y hy => by rw [gSet_at hx] at hy; cases hy; rfl, fun _ z => absurd z (by omega)⟩⟩ (fun j w hj hw => ⟨hw.1, tKn_gs (Or.inr hj) hk.2 hw.2⟩)
  · exact ((hG.1.at hq).kept (oq q e)).to (fun j v hv => ⟨hv.1, tKn_gs (Or.inl e) hk.2 hv.2⟩)
theorem tc_getK (E : tE G p s m c args own cc nL) (hG : tGH G τ s H locs) (ha : τ a = t) (hF : tFi own index t k lo hi) (hM : tMk t k = true) (hdg : decode cc pc = .ok (.getfield index, 3))
    (kk : ∀ x : Int32, lo ≤ x.toInt → x.toInt ≤ hi → (∀ y, kW G a k = some y → x = y) → W p l e R s m args below meth c H locs cells slots Q (F0 m (pc + 3) ls (.int x :: rest))) : W p l e R s m args below meth c H locs cells slots Q (F0 m pc ls (.ref a :: rest)) := by
  obtain ⟨ht, ⟨ci, hs, hf⟩, hd⟩ := hF
  have hΓ := tΓ_at (G := G) ha ht
  rw [hs] at hΓ
  refine tg_get E hG.1 hΓ hf hdg (fun v hv => ?_)
  obtain ⟨hv, hk⟩ := hv
  rw [hd] at hv
  obtain ⟨x, rfl, h1, h2⟩ := hv
  exact kk x h1 h2 (fun y hy => by have := (hk hM).1 y hy; cases this; rfl)
theorem tc_getrK (E : tE G p s m c args own cc nL) (hG : tGH G τ s H locs) (ha : τ a = 1) {t' : Nat} (hk : k < 2) (hF : tFr own index 1 k t') (hM : tMk 1 k = true) (h8 : G.2.2.1 8 = a) (h6 : G.2.2.1 (6 + k) ≠ 0) (hdg : decode cc pc = .ok (.getfield index, 3))
    (kk : τ (G.2.2.1 (6 + k)) = t' → W p l e R s m args below meth c H locs cells slots Q (F0 m (pc + 3) ls (.ref (G.2.2.1 (6 + k)) :: rest))) : W p l e R s m args below meth c H locs cells slots Q (F0 m pc ls (.ref a :: rest)) := by
  obtain ⟨ht, ⟨ci, hs, hf⟩, hd⟩ := hF
  have hΓ := tΓ_at (G := G) ha ht
  rw [hs] at hΓ
  refine tg_get E hG.1 hΓ hf hdg (fun v hv => ?_)
  obtain ⟨hv, hkn⟩ := hv
  rw [hd] at hv
  obtain ⟨b, rfl, h1⟩ := hv
  have e := (hkn hM).2 rfl hk h8.symm h6
  cases e
  exact kk h1
end TK
theorem rv_30 : tRv 30 RX8 := ⟨by decide, 7, _, _, rfl, rfl⟩
set_option maxHeartbeats 4000000 in
set_option maxRecDepth 100000 in
theorem c_X8_has_m (l : Launch) (G : tG) (τ : Nat → Nat) (h0 : Nat) (x1 : Int32) (t0 : τ h0 = 30) : Met l yX8_has (.code yX8_has cX8_has 2 (some .boolean) :: tWS) (tRm 0 0) (va_Pc [.ref h0, .int x1] (tPre G τ)) (tQp (fun r => (0 ≤ r.toInt ∧ r.toInt ≤ 1) ∧ (r.toInt = 0 ∨ (0 ≤ x1.toInt ∧ x1.toInt ≤ 23)))) 0 0 tNo := by
  refine tc_met (by decide) (Nat.le_of_ble_eq_true rfl) ?_
  intro p e s m below meth c E hSt hr hlk hG ls hl
  have hl : lv_has ls 2 [(0, .ref h0), (1, .int x1)] := hl
  have hx := E.1
  have hb := E.2.1
  obtain ⟨H, eH⟩ : ∃ H, H = s.heap := ⟨_, rfl⟩
  obtain ⟨locs, eL⟩ : ∃ x : List Loc, x = [] := ⟨_, rfl⟩
  have hG : tGH G τ s H locs := by rw [eH, eL]; exact hG
  suffices hW : W p l e (tRm 0 0) s m ([.ref h0, .int x1] : List Value).toArray below meth c H locs 0 0 (MQ below (tQp (fun r => (0 ≤ r.toInt ∧ r.toInt ≤ 1) ∧ (r.toInt = 0 ∨ (0 ≤ x1.toInt ∧ x1.toInt ≤ 23)))) ([.ref h0, .int x1] : List Value).toArray s 0 0 tNo) (F0 m 0 ls []) by subst eH; subst eL; exact hW
  refine lv_iload_n hx hb dX8_has_0 rfl (lv_at hl 1 rfl) ?_
  refine lv_if_lt (tgt := 26) hx hb dX8_has_1 (by decide) (fun c1 => ?_) (fun c1 => ?_)
  · skip
    have ic1 := tn_lt rfl kI_0 c1
    refine lv_iconst (v := 0) hx hb dX8_has_26 (by decide) ?_
    exact tc_pret E hr hlk eH eL (t_nz (by decide) (by decide)).1 (show (0 ≤ (0 : Int32).toInt ∧ (0 : Int32).toInt ≤ 1) ∧ ((0 : Int32).toInt = 0 ∨ (0 ≤ x1.toInt ∧ x1.toInt ≤ 23)) by have kk := kI_0; omega) dX8_has_27
  · skip
    have ic1 := tn_nlt rfl kI_0 c1
    refine lv_iload_n hx hb dX8_has_4 rfl (lv_at hl 1 rfl) ?_
    refine lv_bipush (v := 24) hx hb dX8_has_5 (by decide) ?_
    refine lv_icmp_ge (tgt := 26) hx hb dX8_has_7 (by decide) (fun c2 => ?_) (fun c2 => ?_)
    · skip
      have ic2 := tn_le kI_24 rfl c2
      refine lv_iconst (v := 0) hx hb dX8_has_26 (by decide) ?_
      exact tc_pret E hr hlk eH eL (t_nz (by decide) (by decide)).1 (show (0 ≤ (0 : Int32).toInt ∧ (0 : Int32).toInt ≤ 1) ∧ ((0 : Int32).toInt = 0 ∨ (0 ≤ x1.toInt ∧ x1.toInt ≤ 23)) by have kk := kI_0; omega) dX8_has_27
    · skip
      have ic2 := tn_nle kI_24 rfl c2
      refine lv_aload_n hx hb dX8_has_10 rfl (lv_at hl 0 rfl) ?_
      refine tc_geti E hG t0 fim_X8_40 dX8_has_11 (fun z3 _ _ => ?_)
      refine lv_iload_n hx hb dX8_has_14 rfl (lv_at hl 1 rfl) ?_
      refine lv_iushr hx hb dX8_has_15 rfl ?_
      refine lv_topi (fun z4 ez4 => ?_)
      refine lv_iconst (v := 1) hx hb dX8_has_16 (by decide) ?_
      refine lv_iand hx hb dX8_has_17 ?_
      refine lv_topi (fun z5 ez5 => ?_)
      refine lv_iconst (v := 1) hx hb dX8_has_18 (by decide) ?_
      refine lv_icmp_ne (tgt := 26) hx hb dX8_has_19 (by decide) (fun c6 => ?_) (fun c6 => ?_)
      · skip
        have ic6 := tn_ne rfl kI_1 c6
        refine lv_iconst (v := 0) hx hb dX8_has_26 (by decide) ?_
        exact tc_pret E hr hlk eH eL (t_nz (by decide) (by decide)).1 (show (0 ≤ (0 : Int32).toInt ∧ (0 : Int32).toInt ≤ 1) ∧ ((0 : Int32).toInt = 0 ∨ (0 ≤ x1.toInt ∧ x1.toInt ≤ 23)) by have kk := kI_0; omega) dX8_has_27
      · skip
        have ic6 := tn_eq rfl kI_1 c6
        refine lv_iconst (v := 1) hx hb dX8_has_22 (by decide) ?_
        refine lv_goto (tgt := 27) hx hb dX8_has_23 (by decide) ?_
        exact tc_pret E hr hlk eH eL (t_nz (by decide) (by decide)).1 (show (0 ≤ (1 : Int32).toInt ∧ (1 : Int32).toInt ≤ 1) ∧ ((1 : Int32).toInt = 0 ∨ (0 ≤ x1.toInt ∧ x1.toInt ≤ 23)) by have kk := kI_1; omega) dX8_has_27

set_option maxHeartbeats 4000000 in
set_option maxRecDepth 100000 in
theorem c_X8_tellScreen (l : Launch) (G : tG) (τ : Nat → Nat) (h0 : Nat) (x1 : Int32) (x2 : Int32) (t0 : τ h0 = 2) (hx1 : 0 ≤ x1.toInt) (hx2 : 0 ≤ x2.toInt) : Met l yX8_tellScreen (.code yX8_tellScreen cX8_tellScreen 3 none :: tWS) (tRm 1 21) (va_Pc [.ref h0, .int x1, .int x2] (tPre G τ)) (tQv (gSet (gSet G h0 10 x1) h0 11 x2) τ) 0 0 (tA τ) := by
  refine tc_met (by decide) (Nat.le_of_ble_eq_true rfl) ?_
  intro p e s m below meth c E hSt hr hlk hG ls hl
  have hl : lv_has ls 3 [(0, .ref h0), (1, .int x1), (2, .int x2)] := hl
  have hx := E.1
  have hb := E.2.1
  obtain ⟨H, eH⟩ : ∃ H, H = s.heap := ⟨_, rfl⟩
  obtain ⟨locs, eL⟩ : ∃ x : List Loc, x = [] := ⟨_, rfl⟩
  have hG : tGH G τ s H locs := by rw [eH, eL]; exact hG
  suffices hW : W p l e (tRm 1 21) s m ([.ref h0, .int x1, .int x2] : List Value).toArray below meth c H locs 0 0 (MQ below (tQv (gSet (gSet G h0 10 x1) h0 11 x2) τ) ([.ref h0, .int x1, .int x2] : List Value).toArray s 0 0 (tA τ)) (F0 m 0 ls []) by subst eH; subst eL; exact hW
  clear eH eL
  refine lv_aload_n hx hb dX8_tellScreen_0 rfl (lv_at hl 0 rfl) ?_
  refine lv_iload_n hx hb dX8_tellScreen_1 rfl (lv_at hl 1 rfl) ?_
  refine tc_putKg E hG t0 (by decide) rfl rfl (by decide) fq_X8_28 hx1 (t_any1 _) (t_any2 _) rfl rfl dX8_tellScreen_2 (fun H locs hG => ?_)
  have E := E.gs (a := h0) (k := 10) (x := x1)
  have hSt := hSt.gs (a := h0) (k := 10) (x := x1)
  refine lv_aload_n hx hb dX8_tellScreen_5 rfl (lv_at hl 0 rfl) ?_
  refine lv_iload_n hx hb dX8_tellScreen_6 rfl (lv_at hl 2 rfl) ?_
  refine tc_putKg E hG t0 (by decide) rfl rfl (by decide) fq_X8_31 hx2 (t_any1 _) (t_any2 _) rfl rfl dX8_tellScreen_7 (fun H locs hG => ?_)
  have E := E.gs (a := h0) (k := 11) (x := x2)
  have hSt := hSt.gs (a := h0) (k := 11) (x := x2)
  refine lv_aload_n hx hb dX8_tellScreen_10 rfl (lv_at hl 0 rfl) ?_
  refine lv_aload_n hx hb dX8_tellScreen_11 rfl (lv_at hl 0 rfl) ?_
  refine tc_geti E hG t0 fi_X8_24 dX8_tellScreen_12 (fun z1 _ _ => ?_)
  refine tc_callp (tc_runV (As := [.int z1]) (rest := []) E hSt hG (c_X8_has l _ τ h0 z1 t0) t0 rv_2 kv_X8_has ml_X8_55 ⟨rfl, rfl, Nat.le_of_ble_eq_true rfl, Nat.le_of_ble_eq_true rfl⟩ rfl hl.1 rfl (Nat.le_of_ble_eq_true rfl) ⟨Nat.zero_le _, Nat.zero_le _⟩ dX8_tellScreen_15) (fun r2 pr2 => ?_)
  have pr2 : (0 ≤ r2.toInt ∧ r2.toInt ≤ 1) ∧ (r2.toInt = 0 ∨ (0 ≤ z1.toInt ∧ z1.toInt ≤ 23)) := pr2
  refine lv_if_eq (tgt := 51) hx hb dX8_tellScreen_18 (by decide) (fun c3 => ?_) (fun c3 => ?_)
  · skip
    have ic3 := tn_eq rfl kI_0 c3
    exact tc_vret E hr hlk hG dX8_tellScreen_51
  · skip
    have ic3 := tn_ne rfl kI_0 c3
    refine lv_aload_n hx hb dX8_tellScreen_21 rfl (lv_at hl 0 rfl) ?_
    refine lv_dup hx hb dX8_tellScreen_22 rfl ?_
    refine tc_geti E hG t0 fi_X8_43 dX8_tellScreen_23 (fun z4 _ _ => ?_)
    refine lv_iconst (v := 1) hx hb dX8_tellScreen_26 (by decide) ?_
    refine lv_aload_n hx hb dX8_tellScreen_27 rfl (lv_at hl 0 rfl) ?_
    refine tc_geti E hG t0 fi_X8_24 dX8_tellScreen_28 (fun z5 _ _ => ?_)
    refine lv_ishl hx hb dX8_tellScreen_31 ?_
    refine lv_topi (fun z6 ez6 => ?_)
    refine lv_ior hx hb dX8_tellScreen_32 ?_
    refine lv_topi (fun z7 ez7 => ?_)
    refine tc_puti E hG t0 fp_X8_43 (t_any1 _) (t_any2 _) dX8_tellScreen_33 (fun H locs hG => ?_)
    refine lv_aload_n hx hb dX8_tellScreen_36 rfl (lv_at hl 0 rfl) ?_
    refine lv_dup hx hb dX8_tellScreen_37 rfl ?_
    refine tc_geti E hG t0 fi_X8_122 dX8_tellScreen_38 (fun z8 _ _ => ?_)
    refine lv_iconst (v := 1) hx hb dX8_tellScreen_41 (by decide) ?_
    refine lv_aload_n hx hb dX8_tellScreen_42 rfl (lv_at hl 0 rfl) ?_
    refine tc_geti E hG t0 fi_X8_24 dX8_tellScreen_43 (fun z9 _ _ => ?_)
    refine lv_ishl hx hb dX8_tellScreen_46 ?_
    refine lv_topi (fun z10 ez10 => ?_)
    refine lv_ior hx hb dX8_tellScreen_47 ?_
    refine lv_topi (fun z11 ez11 => ?_)
    refine tc_puti E hG t0 fp_X8_122 (t_any1 _) (t_any2 _) dX8_tellScreen_48 (fun H locs hG => ?_)
    exact tc_vret E hr hlk hG dX8_tellScreen_51

set_option maxHeartbeats 4000000 in
set_option maxRecDepth 100000 in
theorem c_X8_copyFrom_2m (l : Launch) (G : tG) (τ : Nat → Nat) (h0 : Nat) (h1 : Nat) (t0 : τ h0 = 2) (t1 : τ h1 = 30) (y1 y2 : Int32) (k1 : kW G h1 10 = some y1) (k2 : kW G h1 11 = some y2) (hy1 : 0 ≤ y1.toInt) (hy2 : 0 ≤ y2.toInt) (hne : h1 ≠ h0) : Met l yX8_copyFrom (.code yX8_copyFrom cX8_copyFrom 3 none :: tWS) (tRm 2 61) (va_Pc [.ref h0, .ref h1] (tPre G τ)) (tQv (gSet (gSet G h0 10 y1) h0 11 y2) τ) 0 0 (tA τ) := by
  refine tc_met (by decide) (Nat.le_of_ble_eq_true rfl) ?_
  intro p e s m below meth c E hSt hr hlk hG ls hl
  have hl : lv_has ls 3 [(0, .ref h0), (1, .ref h1)] := hl
  have hx := E.1
  have hb := E.2.1
  obtain ⟨H, eH⟩ : ∃ H, H = s.heap := ⟨_, rfl⟩
  obtain ⟨locs, eL⟩ : ∃ x : List Loc, x = [] := ⟨_, rfl⟩
  have hG : tGH G τ s H locs := by rw [eH, eL]; exact hG
  suffices hW : W p l e (tRm 2 61) s m ([.ref h0, .ref h1] : List Value).toArray below meth c H locs 0 0 (MQ below (tQv (gSet (gSet G h0 10 y1) h0 11 y2) τ) ([.ref h0, .ref h1] : List Value).toArray s 0 0 (tA τ)) (F0 m 0 ls []) by subst eH; subst eL; exact hW
  clear eH eL
  have J2 : ∀ (n2 : Nat) (H : Heap) (locs : List Loc) (ls : Array Slot) (v2 : Int32), tGH G τ s H locs → lv_has ls 3 [(0, .ref h0), (1, .ref h1), (2, .int v2)] → 0 ≤ v2.toInt → v2.toInt ≤ 24 → (24 - v2.toInt).toNat < n2 → W p l e (tRm 2 61) s m ([.ref h0, .ref h1] : List Value).toArray below meth c H locs 0 0 (MQ below (tQv (gSet (gSet G h0 10 y1) h0 11 y2) τ) ([.ref h0, .ref h1] : List Value).toArray s 0 0 (tA τ)) (F0 m 2 ls []) := by
    intro n2
    induction n2 with
    | zero => intro H locs ls v2 hG hl b2 c2 hn2; exact absurd hn2 (Nat.not_lt_zero _)
    | succ n2 ih2 =>
      intro H locs ls v2 hG hl b2 c2 hn2
      have J33 : ∀ (H : Heap) (locs : List Loc) (ls : Array Slot) (v2 : Int32), tGH G τ s H locs → lv_has ls 3 [(0, .ref h0), (1, .ref h1), (2, .int v2)] → 0 ≤ v2.toInt → v2.toInt ≤ 23 → (24 - v2.toInt).toNat < n2 + 1 → W p l e (tRm 2 61) s m ([.ref h0, .ref h1] : List Value).toArray below meth c H locs 0 0 (MQ below (tQv (gSet (gSet G h0 10 y1) h0 11 y2) τ) ([.ref h0, .ref h1] : List Value).toArray s 0 0 (tA τ)) (F0 m 33 ls []) := by
        intro H locs ls v2 hG hl b2 c2 hm2
        obtain ⟨z1, ez1⟩ : ∃ y : Int32, y = v2 + (1) := ⟨_, rfl⟩
        refine lv_iinc (v := z1) (lv' := [(2, .int z1), (0, .ref h0), (1, .ref h1)]) hx hb dX8_copyFrom_33 hl (k := 2) rfl (by rw [ez1]; rfl) (by decide) rfl (fun ls hl => ?_)
        have tz1 := tn_add ez1 rfl kI_1 (by omega) (by omega)
        refine lv_goto (tgt := 2) hx hb dX8_copyFrom_36 (by decide) ?_
        exact ih2 H locs ls z1 hG (lv_sub hl [1, 2, 0] rfl) (by omega) (by omega) (by omega)
      refine lv_iload_n hx hb dX8_copyFrom_2 rfl (lv_at hl 2 rfl) ?_
      refine lv_aload_n hx hb dX8_copyFrom_3 rfl (lv_at hl 1 rfl) ?_
      refine tc_geti E hG t1 fim_X8_70 dX8_copyFrom_4 (fun z2 lz2 uz2 => ?_)
      refine lv_icmp_ge (tgt := 39) hx hb dX8_copyFrom_7 (by decide) (fun c3 => ?_) (fun c3 => ?_)
      · skip
        have ic3 := tn_le rfl rfl c3
        refine lv_aload_n hx hb dX8_copyFrom_39 rfl (lv_at hl 1 rfl) ?_
        refine tc_getr E hG t1 frm_X8_17 dX8_copyFrom_40 (fun oa4 hoa4 => ?_)
        refine lv_iconst (v := 0) hx hb dX8_copyFrom_43 (by decide) ?_
        refine lv_aload_n hx hb dX8_copyFrom_44 rfl (lv_at hl 0 rfl) ?_
        refine tc_getr E hG t0 fr_X8_17 dX8_copyFrom_45 (fun oa5 hoa5 => ?_)
        refine lv_iconst (v := 0) hx hb dX8_copyFrom_48 (by decide) ?_
        refine lv_bipush (v := 8) hx hb dX8_copyFrom_49 (by decide) ?_
        have k8 := kI_8
        have k9 := kI_0
        have k10 := kI_0
        refine tc_copyi (rest := []) E hl.1 hG ml_X8_176 kn_copy1 kn_copy2 kn_copy3 hoa4 hoa5 ta_12 ta_12 (by omega) (by omega) (by omega) (by omega) (by omega) ⟨Nat.le_of_ble_eq_true rfl, by decide +kernel⟩ dX8_copyFrom_51 (fun H locs hG oq6 => ?_)
        refine lv_aload_n hx hb dX8_copyFrom_54 rfl (lv_at hl 1 rfl) ?_
        refine tc_getr E hG t1 frm_X8_21 dX8_copyFrom_55 (fun oa11 hoa11 => ?_)
        refine lv_iconst (v := 0) hx hb dX8_copyFrom_58 (by decide) ?_
        refine lv_aload_n hx hb dX8_copyFrom_59 rfl (lv_at hl 0 rfl) ?_
        refine tc_getr E hG t0 fr_X8_21 dX8_copyFrom_60 (fun oa12 hoa12 => ?_)
        refine lv_iconst (v := 0) hx hb dX8_copyFrom_63 (by decide) ?_
        refine lv_bipush (v := 8) hx hb dX8_copyFrom_64 (by decide) ?_
        have k15 := kI_8
        have k16 := kI_0
        have k17 := kI_0
        refine tc_copyi (rest := []) E hl.1 hG ml_X8_176 kn_copy1 kn_copy2 kn_copy3 hoa11 hoa12 ta_13 ta_13 (by omega) (by omega) (by omega) (by omega) (by omega) ⟨Nat.le_of_ble_eq_true rfl, by decide +kernel⟩ dX8_copyFrom_66 (fun H locs hG oq13 => ?_)
        refine lv_aload_n hx hb dX8_copyFrom_69 rfl (lv_at hl 0 rfl) ?_
        refine lv_aload_n hx hb dX8_copyFrom_70 rfl (lv_at hl 1 rfl) ?_
        refine tc_geti E hG t1 fim_X8_145 dX8_copyFrom_71 (fun z18 lz18 uz18 => ?_)
        refine tc_puti E hG t0 fp_X8_145 (by omega) (by omega) dX8_copyFrom_74 (fun H locs hG => ?_)
        refine lv_aload_n hx hb dX8_copyFrom_77 rfl (lv_at hl 0 rfl) ?_
        refine lv_aload_n hx hb dX8_copyFrom_78 rfl (lv_at hl 1 rfl) ?_
        refine tc_geti E hG t1 fim_X8_40 dX8_copyFrom_79 (fun z19 _ _ => ?_)
        refine tc_puti E hG t0 fp_X8_40 (t_any1 _) (t_any2 _) dX8_copyFrom_82 (fun H locs hG => ?_)
        refine lv_aload_n hx hb dX8_copyFrom_85 rfl (lv_at hl 0 rfl) ?_
        refine lv_aload_n hx hb dX8_copyFrom_86 rfl (lv_at hl 1 rfl) ?_
        refine tc_geti E hG t1 fim_X8_43 dX8_copyFrom_87 (fun z20 _ _ => ?_)
        refine tc_puti E hG t0 fp_X8_43 (t_any1 _) (t_any2 _) dX8_copyFrom_90 (fun H locs hG => ?_)
        refine lv_aload_n hx hb dX8_copyFrom_93 rfl (lv_at hl 0 rfl) ?_
        refine lv_aload_n hx hb dX8_copyFrom_94 rfl (lv_at hl 1 rfl) ?_
        refine tc_geti E hG t1 fim_X8_122 dX8_copyFrom_95 (fun z21 _ _ => ?_)
        refine tc_puti E hG t0 fp_X8_122 (t_any1 _) (t_any2 _) dX8_copyFrom_98 (fun H locs hG => ?_)
        refine lv_aload_n hx hb dX8_copyFrom_101 rfl (lv_at hl 0 rfl) ?_
        refine lv_aload_n hx hb dX8_copyFrom_102 rfl (lv_at hl 1 rfl) ?_
        refine tc_geti E hG t1 fim_X8_125 dX8_copyFrom_103 (fun z22 _ _ => ?_)
        refine tc_puti E hG t0 fp_X8_125 (t_any1 _) (t_any2 _) dX8_copyFrom_106 (fun H locs hG => ?_)
        refine lv_aload_n hx hb dX8_copyFrom_109 rfl (lv_at hl 0 rfl) ?_
        refine lv_aload_n hx hb dX8_copyFrom_110 rfl (lv_at hl 1 rfl) ?_
        refine tc_geti E hG t1 fim_X8_70 dX8_copyFrom_111 (fun z23 lz23 uz23 => ?_)
        refine tc_puti E hG t0 fp_X8_70 (by omega) (by omega) dX8_copyFrom_114 (fun H locs hG => ?_)
        refine lv_aload_n hx hb dX8_copyFrom_117 rfl (lv_at hl 0 rfl) ?_
        refine lv_aload_n hx hb dX8_copyFrom_118 rfl (lv_at hl 1 rfl) ?_
        refine tc_geti E hG t1 fim_X8_24 dX8_copyFrom_119 (fun z24 _ _ => ?_)
        refine tc_puti E hG t0 fp_X8_24 (t_any1 _) (t_any2 _) dX8_copyFrom_122 (fun H locs hG => ?_)
        refine lv_aload_n hx hb dX8_copyFrom_125 rfl (lv_at hl 0 rfl) ?_
        refine lv_aload_n hx hb dX8_copyFrom_126 rfl (lv_at hl 1 rfl) ?_
        refine tc_getK E hG t1 fim_X8_28 rfl dX8_copyFrom_127 (fun z25 _ _ qz25 => ?_)
        have ez25 := qz25 _ k1
        rw [ez25]
        refine tc_putKg E hG t0 (by decide) rfl rfl (by decide) fq_X8_28 hy1 (t_any1 _) (t_any2 _) rfl rfl dX8_copyFrom_130 (fun H locs hG => ?_)
        have E := E.gs (a := h0) (k := 10) (x := y1)
        have hSt := hSt.gs (a := h0) (k := 10) (x := y1)
        refine lv_aload_n hx hb dX8_copyFrom_133 rfl (lv_at hl 0 rfl) ?_
        refine lv_aload_n hx hb dX8_copyFrom_134 rfl (lv_at hl 1 rfl) ?_
        refine tc_getK E hG t1 fim_X8_31 rfl dX8_copyFrom_135 (fun z26 _ _ qz26 => ?_)
        have ez26 := qz26 _ (by rw [gSet_ne (Or.inl hne) (by decide) (by decide)]; exact k2)
        rw [ez26]
        refine tc_putKg E hG t0 (by decide) rfl rfl (by decide) fq_X8_31 hy2 (t_any1 _) (t_any2 _) rfl rfl dX8_copyFrom_138 (fun H locs hG => ?_)
        have E := E.gs (a := h0) (k := 11) (x := y2)
        have hSt := hSt.gs (a := h0) (k := 11) (x := y2)
        refine lv_aload_n hx hb dX8_copyFrom_141 rfl (lv_at hl 0 rfl) ?_
        refine lv_aload_n hx hb dX8_copyFrom_142 rfl (lv_at hl 1 rfl) ?_
        refine tc_geti E hG t1 fim_X8_34 dX8_copyFrom_143 (fun z27 _ _ => ?_)
        refine tc_puti E hG t0 fp_X8_34 (t_any1 _) (t_any2 _) dX8_copyFrom_146 (fun H locs hG => ?_)
        exact tc_vret E hr hlk hG dX8_copyFrom_149
      · skip
        have ic3 := tn_nle rfl rfl c3
        refine lv_aload_n hx hb dX8_copyFrom_10 rfl (lv_at hl 1 rfl) ?_
        refine lv_iload_n hx hb dX8_copyFrom_11 rfl (lv_at hl 2 rfl) ?_
        refine tc_callp (tc_runV (As := [.int v2]) (rest := []) E hSt hG (c_X8_has_m l G τ h1 v2 t1) t1 rv_30 kv_X8_has ml_X8_55 ⟨rfl, rfl, Nat.le_of_ble_eq_true rfl, Nat.le_of_ble_eq_true rfl⟩ rfl hl.1 rfl (Nat.le_of_ble_eq_true rfl) ⟨Nat.zero_le _, Nat.zero_le _⟩ dX8_copyFrom_12) (fun r28 pr28 => ?_)
        have pr28 : (0 ≤ r28.toInt ∧ r28.toInt ≤ 1) ∧ (r28.toInt = 0 ∨ (0 ≤ v2.toInt ∧ v2.toInt ≤ 23)) := pr28
        refine lv_if_eq (tgt := 33) hx hb dX8_copyFrom_15 (by decide) (fun c29 => ?_) (fun c29 => ?_)
        · skip
          have ic29 := tn_eq rfl kI_0 c29
          exact J33 H locs ls v2 hG (lv_sub hl [0, 1, 2] rfl) (by omega) (by omega) (by omega)
        · skip
          have ic29 := tn_ne rfl kI_0 c29
          refine lv_aload_n hx hb dX8_copyFrom_18 rfl (lv_at hl 0 rfl) ?_
          refine tc_getr E hG t0 fr_X8_11 dX8_copyFrom_19 (fun oa30 hoa30 => ?_)
          refine lv_iload_n hx hb dX8_copyFrom_22 rfl (lv_at hl 2 rfl) ?_
          refine tc_aald3 E hG hoa30 ta_10 (t_in (by omega) (by omega)) dX8_copyFrom_23 (fun oa31 hoa31 => ?_)
          refine lv_aload_n hx hb dX8_copyFrom_24 rfl (lv_at hl 1 rfl) ?_
          refine tc_getr E hG t1 frm_X8_11 dX8_copyFrom_25 (fun oa32 hoa32 => ?_)
          refine lv_iload_n hx hb dX8_copyFrom_28 rfl (lv_at hl 2 rfl) ?_
          refine tc_aald3 E hG hoa32 ta_10 (t_in (by omega) (by omega)) dX8_copyFrom_29 (fun oa33 hoa33 => ?_)
          refine tc_callv hG (tc_runV (As := [.ref oa33]) (rest := []) E hSt hG (c_X0_copyFrom l G τ oa31 oa33 hoa31 hoa33) hoa31 rv_3 kv_X0_copyFrom ml_X8_172 ⟨rfl, rfl, Nat.le_of_ble_eq_true rfl, Nat.le_of_ble_eq_true rfl⟩ rfl hl.1 rfl (Nat.le_of_ble_eq_true rfl) ⟨Nat.zero_le _, Nat.zero_le _⟩ dX8_copyFrom_30) (fun H locs hG => ?_)
          exact J33 H locs ls v2 hG (lv_sub hl [0, 1, 2] rfl) (by omega) (by omega) (by omega)
  refine lv_iconst (v := 0) hx hb dX8_copyFrom_0 (by decide) ?_
  refine lv_istore_n (lv' := [(2, .int 0), (0, .ref h0), (1, .ref h1)]) hx hb dX8_copyFrom_1 rfl hl (by decide) rfl (fun ls hl => ?_)
  exact J2 ((24 - (0 : Int32).toInt).toNat + 1) H locs ls (0 : Int32) hG (lv_sub hl [1, 2, 0] rfl) (by decide) (by decide) (Nat.lt_succ_self _)

set_option maxHeartbeats 4000000 in
set_option maxRecDepth 100000 in
theorem c_X8_copyFrom_m2 (l : Launch) (G : tG) (τ : Nat → Nat) (h0 : Nat) (h1 : Nat) (t0 : τ h0 = 30) (t1 : τ h1 = 2) (y1 y2 : Int32) (k1 : kW G h1 10 = some y1) (k2 : kW G h1 11 = some y2) (hy1 : 0 ≤ y1.toInt) (hy2 : 0 ≤ y2.toInt) (hne : h1 ≠ h0) : Met l yX8_copyFrom (.code yX8_copyFrom cX8_copyFrom 3 none :: tWS) (tRm 2 61) (va_Pc [.ref h0, .ref h1] (tPre G τ)) (tQv (gSet (gSet G h0 10 y1) h0 11 y2) τ) 0 0 (tA τ) := by
  refine tc_met (by decide) (Nat.le_of_ble_eq_true rfl) ?_
  intro p e s m below meth c E hSt hr hlk hG ls hl
  have hl : lv_has ls 3 [(0, .ref h0), (1, .ref h1)] := hl
  have hx := E.1
  have hb := E.2.1
  obtain ⟨H, eH⟩ : ∃ H, H = s.heap := ⟨_, rfl⟩
  obtain ⟨locs, eL⟩ : ∃ x : List Loc, x = [] := ⟨_, rfl⟩
  have hG : tGH G τ s H locs := by rw [eH, eL]; exact hG
  suffices hW : W p l e (tRm 2 61) s m ([.ref h0, .ref h1] : List Value).toArray below meth c H locs 0 0 (MQ below (tQv (gSet (gSet G h0 10 y1) h0 11 y2) τ) ([.ref h0, .ref h1] : List Value).toArray s 0 0 (tA τ)) (F0 m 0 ls []) by subst eH; subst eL; exact hW
  clear eH eL
  have J2 : ∀ (n2 : Nat) (H : Heap) (locs : List Loc) (ls : Array Slot) (v2 : Int32), tGH G τ s H locs → lv_has ls 3 [(0, .ref h0), (1, .ref h1), (2, .int v2)] → 0 ≤ v2.toInt → v2.toInt ≤ 24 → (24 - v2.toInt).toNat < n2 → W p l e (tRm 2 61) s m ([.ref h0, .ref h1] : List Value).toArray below meth c H locs 0 0 (MQ below (tQv (gSet (gSet G h0 10 y1) h0 11 y2) τ) ([.ref h0, .ref h1] : List Value).toArray s 0 0 (tA τ)) (F0 m 2 ls []) := by
    intro n2
    induction n2 with
    | zero => intro H locs ls v2 hG hl b2 c2 hn2; exact absurd hn2 (Nat.not_lt_zero _)
    | succ n2 ih2 =>
      intro H locs ls v2 hG hl b2 c2 hn2
      have J33 : ∀ (H : Heap) (locs : List Loc) (ls : Array Slot) (v2 : Int32), tGH G τ s H locs → lv_has ls 3 [(0, .ref h0), (1, .ref h1), (2, .int v2)] → 0 ≤ v2.toInt → v2.toInt ≤ 23 → (24 - v2.toInt).toNat < n2 + 1 → W p l e (tRm 2 61) s m ([.ref h0, .ref h1] : List Value).toArray below meth c H locs 0 0 (MQ below (tQv (gSet (gSet G h0 10 y1) h0 11 y2) τ) ([.ref h0, .ref h1] : List Value).toArray s 0 0 (tA τ)) (F0 m 33 ls []) := by
        intro H locs ls v2 hG hl b2 c2 hm2
        obtain ⟨z1, ez1⟩ : ∃ y : Int32, y = v2 + (1) := ⟨_, rfl⟩
        refine lv_iinc (v := z1) (lv' := [(2, .int z1), (0, .ref h0), (1, .ref h1)]) hx hb dX8_copyFrom_33 hl (k := 2) rfl (by rw [ez1]; rfl) (by decide) rfl (fun ls hl => ?_)
        have tz1 := tn_add ez1 rfl kI_1 (by omega) (by omega)
        refine lv_goto (tgt := 2) hx hb dX8_copyFrom_36 (by decide) ?_
        exact ih2 H locs ls z1 hG (lv_sub hl [1, 2, 0] rfl) (by omega) (by omega) (by omega)
      refine lv_iload_n hx hb dX8_copyFrom_2 rfl (lv_at hl 2 rfl) ?_
      refine lv_aload_n hx hb dX8_copyFrom_3 rfl (lv_at hl 1 rfl) ?_
      refine tc_geti E hG t1 fi_X8_70 dX8_copyFrom_4 (fun z2 lz2 uz2 => ?_)
      refine lv_icmp_ge (tgt := 39) hx hb dX8_copyFrom_7 (by decide) (fun c3 => ?_) (fun c3 => ?_)
      · skip
        have ic3 := tn_le rfl rfl c3
        refine lv_aload_n hx hb dX8_copyFrom_39 rfl (lv_at hl 1 rfl) ?_
        refine tc_getr E hG t1 fr_X8_17 dX8_copyFrom_40 (fun oa4 hoa4 => ?_)
        refine lv_iconst (v := 0) hx hb dX8_copyFrom_43 (by decide) ?_
        refine lv_aload_n hx hb dX8_copyFrom_44 rfl (lv_at hl 0 rfl) ?_
        refine tc_getr E hG t0 frm_X8_17 dX8_copyFrom_45 (fun oa5 hoa5 => ?_)
        refine lv_iconst (v := 0) hx hb dX8_copyFrom_48 (by decide) ?_
        refine lv_bipush (v := 8) hx hb dX8_copyFrom_49 (by decide) ?_
        have k8 := kI_8
        have k9 := kI_0
        have k10 := kI_0
        refine tc_copyi (rest := []) E hl.1 hG ml_X8_176 kn_copy1 kn_copy2 kn_copy3 hoa4 hoa5 ta_12 ta_12 (by omega) (by omega) (by omega) (by omega) (by omega) ⟨Nat.le_of_ble_eq_true rfl, by decide +kernel⟩ dX8_copyFrom_51 (fun H locs hG oq6 => ?_)
        refine lv_aload_n hx hb dX8_copyFrom_54 rfl (lv_at hl 1 rfl) ?_
        refine tc_getr E hG t1 fr_X8_21 dX8_copyFrom_55 (fun oa11 hoa11 => ?_)
        refine lv_iconst (v := 0) hx hb dX8_copyFrom_58 (by decide) ?_
        refine lv_aload_n hx hb dX8_copyFrom_59 rfl (lv_at hl 0 rfl) ?_
        refine tc_getr E hG t0 frm_X8_21 dX8_copyFrom_60 (fun oa12 hoa12 => ?_)
        refine lv_iconst (v := 0) hx hb dX8_copyFrom_63 (by decide) ?_
        refine lv_bipush (v := 8) hx hb dX8_copyFrom_64 (by decide) ?_
        have k15 := kI_8
        have k16 := kI_0
        have k17 := kI_0
        refine tc_copyi (rest := []) E hl.1 hG ml_X8_176 kn_copy1 kn_copy2 kn_copy3 hoa11 hoa12 ta_13 ta_13 (by omega) (by omega) (by omega) (by omega) (by omega) ⟨Nat.le_of_ble_eq_true rfl, by decide +kernel⟩ dX8_copyFrom_66 (fun H locs hG oq13 => ?_)
        refine lv_aload_n hx hb dX8_copyFrom_69 rfl (lv_at hl 0 rfl) ?_
        refine lv_aload_n hx hb dX8_copyFrom_70 rfl (lv_at hl 1 rfl) ?_
        refine tc_geti E hG t1 fi_X8_145 dX8_copyFrom_71 (fun z18 lz18 uz18 => ?_)
        refine tc_puti E hG t0 fpm_X8_145 (by omega) (by omega) dX8_copyFrom_74 (fun H locs hG => ?_)
        refine lv_aload_n hx hb dX8_copyFrom_77 rfl (lv_at hl 0 rfl) ?_
        refine lv_aload_n hx hb dX8_copyFrom_78 rfl (lv_at hl 1 rfl) ?_
        refine tc_geti E hG t1 fi_X8_40 dX8_copyFrom_79 (fun z19 _ _ => ?_)
        refine tc_puti E hG t0 fpm_X8_40 (t_any1 _) (t_any2 _) dX8_copyFrom_82 (fun H locs hG => ?_)
        refine lv_aload_n hx hb dX8_copyFrom_85 rfl (lv_at hl 0 rfl) ?_
        refine lv_aload_n hx hb dX8_copyFrom_86 rfl (lv_at hl 1 rfl) ?_
        refine tc_geti E hG t1 fi_X8_43 dX8_copyFrom_87 (fun z20 _ _ => ?_)
        refine tc_puti E hG t0 fpm_X8_43 (t_any1 _) (t_any2 _) dX8_copyFrom_90 (fun H locs hG => ?_)
        refine lv_aload_n hx hb dX8_copyFrom_93 rfl (lv_at hl 0 rfl) ?_
        refine lv_aload_n hx hb dX8_copyFrom_94 rfl (lv_at hl 1 rfl) ?_
        refine tc_geti E hG t1 fi_X8_122 dX8_copyFrom_95 (fun z21 _ _ => ?_)
        refine tc_puti E hG t0 fpm_X8_122 (t_any1 _) (t_any2 _) dX8_copyFrom_98 (fun H locs hG => ?_)
        refine lv_aload_n hx hb dX8_copyFrom_101 rfl (lv_at hl 0 rfl) ?_
        refine lv_aload_n hx hb dX8_copyFrom_102 rfl (lv_at hl 1 rfl) ?_
        refine tc_geti E hG t1 fi_X8_125 dX8_copyFrom_103 (fun z22 _ _ => ?_)
        refine tc_puti E hG t0 fpm_X8_125 (t_any1 _) (t_any2 _) dX8_copyFrom_106 (fun H locs hG => ?_)
        refine lv_aload_n hx hb dX8_copyFrom_109 rfl (lv_at hl 0 rfl) ?_
        refine lv_aload_n hx hb dX8_copyFrom_110 rfl (lv_at hl 1 rfl) ?_
        refine tc_geti E hG t1 fi_X8_70 dX8_copyFrom_111 (fun z23 lz23 uz23 => ?_)
        refine tc_puti E hG t0 fpm_X8_70 (by omega) (by omega) dX8_copyFrom_114 (fun H locs hG => ?_)
        refine lv_aload_n hx hb dX8_copyFrom_117 rfl (lv_at hl 0 rfl) ?_
        refine lv_aload_n hx hb dX8_copyFrom_118 rfl (lv_at hl 1 rfl) ?_
        refine tc_geti E hG t1 fi_X8_24 dX8_copyFrom_119 (fun z24 _ _ => ?_)
        refine tc_puti E hG t0 fpm_X8_24 (t_any1 _) (t_any2 _) dX8_copyFrom_122 (fun H locs hG => ?_)
        refine lv_aload_n hx hb dX8_copyFrom_125 rfl (lv_at hl 0 rfl) ?_
        refine lv_aload_n hx hb dX8_copyFrom_126 rfl (lv_at hl 1 rfl) ?_
        refine tc_getK E hG t1 fi_X8_28 rfl dX8_copyFrom_127 (fun z25 _ _ qz25 => ?_)
        have ez25 := qz25 _ k1
        rw [ez25]
        refine tc_putKg E hG t0 (by decide) rfl rfl (by decide) fq_X8_28 hy1 (t_any1 _) (t_any2 _) rfl rfl dX8_copyFrom_130 (fun H locs hG => ?_)
        have E := E.gs (a := h0) (k := 10) (x := y1)
        have hSt := hSt.gs (a := h0) (k := 10) (x := y1)
        refine lv_aload_n hx hb dX8_copyFrom_133 rfl (lv_at hl 0 rfl) ?_
        refine lv_aload_n hx hb dX8_copyFrom_134 rfl (lv_at hl 1 rfl) ?_
        refine tc_getK E hG t1 fi_X8_31 rfl dX8_copyFrom_135 (fun z26 _ _ qz26 => ?_)
        have ez26 := qz26 _ (by rw [gSet_ne (Or.inl hne) (by decide) (by decide)]; exact k2)
        rw [ez26]
        refine tc_putKg E hG t0 (by decide) rfl rfl (by decide) fq_X8_31 hy2 (t_any1 _) (t_any2 _) rfl rfl dX8_copyFrom_138 (fun H locs hG => ?_)
        have E := E.gs (a := h0) (k := 11) (x := y2)
        have hSt := hSt.gs (a := h0) (k := 11) (x := y2)
        refine lv_aload_n hx hb dX8_copyFrom_141 rfl (lv_at hl 0 rfl) ?_
        refine lv_aload_n hx hb dX8_copyFrom_142 rfl (lv_at hl 1 rfl) ?_
        refine tc_geti E hG t1 fi_X8_34 dX8_copyFrom_143 (fun z27 _ _ => ?_)
        refine tc_puti E hG t0 fpm_X8_34 (t_any1 _) (t_any2 _) dX8_copyFrom_146 (fun H locs hG => ?_)
        exact tc_vret E hr hlk hG dX8_copyFrom_149
      · skip
        have ic3 := tn_nle rfl rfl c3
        refine lv_aload_n hx hb dX8_copyFrom_10 rfl (lv_at hl 1 rfl) ?_
        refine lv_iload_n hx hb dX8_copyFrom_11 rfl (lv_at hl 2 rfl) ?_
        refine tc_callp (tc_runV (As := [.int v2]) (rest := []) E hSt hG (c_X8_has l G τ h1 v2 t1) t1 rv_2 kv_X8_has ml_X8_55 ⟨rfl, rfl, Nat.le_of_ble_eq_true rfl, Nat.le_of_ble_eq_true rfl⟩ rfl hl.1 rfl (Nat.le_of_ble_eq_true rfl) ⟨Nat.zero_le _, Nat.zero_le _⟩ dX8_copyFrom_12) (fun r28 pr28 => ?_)
        have pr28 : (0 ≤ r28.toInt ∧ r28.toInt ≤ 1) ∧ (r28.toInt = 0 ∨ (0 ≤ v2.toInt ∧ v2.toInt ≤ 23)) := pr28
        refine lv_if_eq (tgt := 33) hx hb dX8_copyFrom_15 (by decide) (fun c29 => ?_) (fun c29 => ?_)
        · skip
          have ic29 := tn_eq rfl kI_0 c29
          exact J33 H locs ls v2 hG (lv_sub hl [0, 1, 2] rfl) (by omega) (by omega) (by omega)
        · skip
          have ic29 := tn_ne rfl kI_0 c29
          refine lv_aload_n hx hb dX8_copyFrom_18 rfl (lv_at hl 0 rfl) ?_
          refine tc_getr E hG t0 frm_X8_11 dX8_copyFrom_19 (fun oa30 hoa30 => ?_)
          refine lv_iload_n hx hb dX8_copyFrom_22 rfl (lv_at hl 2 rfl) ?_
          refine tc_aald3 E hG hoa30 ta_10 (t_in (by omega) (by omega)) dX8_copyFrom_23 (fun oa31 hoa31 => ?_)
          refine lv_aload_n hx hb dX8_copyFrom_24 rfl (lv_at hl 1 rfl) ?_
          refine tc_getr E hG t1 fr_X8_11 dX8_copyFrom_25 (fun oa32 hoa32 => ?_)
          refine lv_iload_n hx hb dX8_copyFrom_28 rfl (lv_at hl 2 rfl) ?_
          refine tc_aald3 E hG hoa32 ta_10 (t_in (by omega) (by omega)) dX8_copyFrom_29 (fun oa33 hoa33 => ?_)
          refine tc_callv hG (tc_runV (As := [.ref oa33]) (rest := []) E hSt hG (c_X0_copyFrom l G τ oa31 oa33 hoa31 hoa33) hoa31 rv_3 kv_X0_copyFrom ml_X8_172 ⟨rfl, rfl, Nat.le_of_ble_eq_true rfl, Nat.le_of_ble_eq_true rfl⟩ rfl hl.1 rfl (Nat.le_of_ble_eq_true rfl) ⟨Nat.zero_le _, Nat.zero_le _⟩ dX8_copyFrom_30) (fun H locs hG => ?_)
          exact J33 H locs ls v2 hG (lv_sub hl [0, 1, 2] rfl) (by omega) (by omega) (by omega)
  refine lv_iconst (v := 0) hx hb dX8_copyFrom_0 (by decide) ?_
  refine lv_istore_n (lv' := [(2, .int 0), (0, .ref h0), (1, .ref h1)]) hx hb dX8_copyFrom_1 rfl hl (by decide) rfl (fun ls hl => ?_)
  exact J2 ((24 - (0 : Int32).toInt).toNat + 1) H locs ls (0 : Int32) hG (lv_sub hl [1, 2, 0] rfl) (by decide) (by decide) (Nat.lt_succ_self _)

/-! ===== screen, image, undo: what they answer and what is known then ===== -/
def sOK (x1 x2 : Int32) : Prop := 0 ≤ x1.toInt ∧ x1.toInt ≤ 200 ∧ 0 ≤ x2.toInt ∧ (x2.toInt ≤ 200 ∨ x2.toInt = 1000)
abbrev tQk (τ : Nat → Nat) (post : Int32 → tG → Prop) : Array Value → State → Outcome → State → Prop := va_Qi (S := tG) post (fun G t => TH G (tΓ G τ) t.heap) (tA τ)
section TKR
variable {p : Program} {l : Launch} {e : Env} {R : Room} {s : State} {m : MethodId} {args : Array Value} {below : List Frame} {meth : Method} {c : Code} {H : Heap} {locs : List Loc} {Q : State → Prop} {cc : ByteArray} {pc : Nat} {ls : Array Slot} {G : tG} {own : String} {nL : Nat} {τ : Nat → Nat}
theorem tc_kret (E : tE G p s m c args own cc nL) (hr : meth.sig.returnType = some .int) (hlk : meth.locks = false) (hG : tGH G τ s H locs) {post : Int32 → tG → Prop} {v : Int32} (hq : post v G) (hdg : decode cc pc = .ok (.ireturn, 1)) : W p l e R s m args below meth c H locs 0 0 (MQ below (tQk τ post) args s 0 0 (tA τ)) (F0 m pc ls [.int v]) :=
  W.iret E.1 E.2.1 hr (fun t ht _ => ⟨⟨v, G, rfl, hq, (show TH G (tΓ G τ) t.heap by rw [ht]; exact hG.1)⟩, hG.2.F ht⟩) hG.2.2.2 hdg hlk
end TKR
