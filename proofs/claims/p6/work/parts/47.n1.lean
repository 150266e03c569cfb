/-! ===== the reference: knowledge by code that changes ===== -/
def gSm (G : tG) (t k : Nat) (x : Int32) : tG := (G.1, G.2.1, fun i => if i = 20 + 8 * t + k then x.toInt.toNat + 1 else G.2.2.1 i, G.2.2.2.1, G.2.2.2.2)
/-- not known: WIDE, HIGH of a row -/
def gDm (G : tG) (t : Nat) : tG := (G.1, G.2.1, fun i => if i = 20 + 8 * t + 1 ∨ i = 20 + 8 * t + 2 then 0 else G.2.2.1 i, G.2.2.2.1, G.2.2.2.2)
/-- at first: 0 -/
def gM0 (G : tG) : tG := (G.1, G.2.1, fun i => if 20 ≤ i ∧ i < 100 then 1 else G.2.2.1 i, G.2.2.2.1, G.2.2.2.2)
theorem mMk_lt {t k : Nat} (h : mMk t k = true) : t < 4 ∧ k < 8 := by
  unfold mMk at h
  simp only [Bool.or_eq_true, Bool.and_eq_true, beq_iff_eq] at h
  omega
theorem gSm_T {G : tG} {t k i : Nat} {x : Int32} (h : i ≠ 20 + 8 * t + k) : (gSm G t k x).2.2.1 i = G.2.2.1 i := if_neg h
theorem gSm_at {G : tG} {t k : Nat} {x : Int32} (hx : 0 ≤ x.toInt) : km (gSm G t k x) t k = some x := by
  show (match (if 20 + 8 * t + k = 20 + 8 * t + k then x.toInt.toNat + 1 else G.2.2.1 (20 + 8 * t + k)) with | 0 => none | n + 1 => some (Int32.ofNat n)) = some x
  rw [if_pos rfl]
  show some (Int32.ofNat x.toInt.toNat) = some x
  obtain ⟨j, hj, e⟩ := nI_of (x := x) (fun z => by have := Int32.lt_iff_toInt_lt.mp z; have e0 : (0 : Int32).toInt = 0 := rfl; omega)
  rw [e, nI_toInt hj]
  rfl
theorem gSm_ne {G : tG} {t k t' k' : Nat} {x : Int32} (h : t' ≠ t ∨ k' ≠ k) (hk : k < 8) (hk' : k' < 8) : km (gSm G t k x) t' k' = km G t' k' := by
  show (match (if 20 + 8 * t' + k' = 20 + 8 * t + k then x.toInt.toNat + 1 else G.2.2.1 (20 + 8 * t' + k')) with | 0 => none | n + 1 => some (Int32.ofNat n)) = km G t' k'
  rw [if_neg (by omega)]
  rfl
theorem gDm_ne {G : tG} {t t' k' : Nat} (h : t' ≠ t) (hk' : k' < 8) : km (gDm G t) t' k' = km G t' k' := by
  show (match (if 20 + 8 * t' + k' = 20 + 8 * t + 1 ∨ 20 + 8 * t' + k' = 20 + 8 * t + 2 then 0 else G.2.2.1 (20 + 8 * t' + k')) with | 0 => none | n + 1 => some (Int32.ofNat n)) = km G t' k'
  rw [if_neg (by omega)]
  rfl
theorem gDm_at {G : tG} {t k : Nat} (h : k = 1 ∨ k = 2) : km (gDm G t) t k = none := by
  show (match (if 20 + 8 * t + k = 20 + 8 * t + 1 ∨ 20 + 8 * t + k = 20 + 8 * t + 2 then 0 else G.2.2.1 (20 + 8 * t + k)) with | 0 => none | n + 1 => some (Int32.ofNat n)) = none
  rw [if_pos (by omega)]
theorem gM0_z {G : tG} {t k : Nat} {y : Int32} (ht : t < 4) (hk : k < 8) (h : km (gM0 G) t k = some y) : y = 0 := by
  have e : km (gM0 G) t k = some 0 := by
    show (match (if 20 ≤ 20 + 8 * t + k ∧ 20 + 8 * t + k < 100 then 1 else G.2.2.1 (20 + 8 * t + k)) with | 0 => none | n + 1 => some (Int32.ofNat n)) = some 0
    rw [if_pos (by omega)]
    rfl
  rw [e] at h
  exact (Option.some.inj h).symm
theorem mMk_23 {t k : Nat} (h : mMk t k = true) (ht : t = 2 ∨ t = 3) : k = 1 ∨ k = 2 := by
  unfold mMk at h
  simp only [Bool.or_eq_true, Bool.and_eq_true, beq_iff_eq] at h
  omega
theorem tAt_gm {G : tG} {f : Nat → Nat} {sh : tSH} {q : Nat} {H : Heap} : tAt (G.1, G.2.1, f, G.2.2.2.1, G.2.2.2.2) sh q H = tAt G sh q H := by
  obtain ⟨z, P⟩ := sh
  cases z <;> rfl
theorem TH_gf {G : tG} {f : Nat → Nat} {Γ : Nat → Option tSH} {H : Heap} : TH (G.1, G.2.1, f, G.2.2.2.1, G.2.2.2.2) Γ H = TH G Γ H := by
  unfold TH
  simp only [tAt_gm]
theorem TH_gm {G : tG} {t k : Nat} {x : Int32} {Γ : Nat → Option tSH} {H : Heap} : TH (gSm G t k x) Γ H = TH G Γ H := TH_gf
theorem TH_gd {G : tG} {t : Nat} {Γ : Nat → Option tSH} {H : Heap} : TH (gDm G t) Γ H = TH G Γ H := TH_gf
theorem TH_g0 {G : tG} {Γ : Nat → Option tSH} {H : Heap} : TH (gM0 G) Γ H = TH G Γ H := TH_gf
theorem tE.gm {G : tG} {t k : Nat} {x : Int32} {p : Program} {s : State} {m : MethodId} {c : Code} {args : Array Value} {own : String} {cc : ByteArray} {nL : Nat} (E : tE G p s m c args own cc nL) : tE (gSm G t k x) p s m c args own cc nL := E
theorem tE.gd {G : tG} {t : Nat} {p : Program} {s : State} {m : MethodId} {c : Code} {args : Array Value} {own : String} {cc : ByteArray} {nL : Nat} (E : tE G p s m c args own cc nL) : tE (gDm G t) p s m c args own cc nL := E
theorem tSt.gm {G : tG} {t k : Nat} {x : Int32} {A : Nat → Prop} {V : State} (h : tSt G A V) : tSt (gSm G t k x) A V := by
  obtain ⟨h1, h2⟩ := h
  refine ⟨fun i hi => ?_, h2⟩
  rw [gSm_T (by omega)]
  exact h1 i hi
theorem mKn_gm {G : tG} {t k t' k' : Nat} {x : Int32} {v : Value} (h : t' ≠ t ∨ k' ≠ k) (hk : k < 8) (hv : mKn G t' k' v) : mKn (gSm G t k x) t' k' v := fun hM y hy => hv hM y (by rw [gSm_ne h hk (mMk_lt hM).2] at hy; exact hy)
/-- the two sides' knowledge doesn't mix -/
theorem mKn_gs {G : tG} {a k t' k' : Nat} {x : Int32} {v : Value} : mKn (gSet G a k x) t' k' v = mKn G t' k' v := by
  have e : mMk t' k' = true → km (gSet G a k x) t' k' = km G t' k' := fun hM => by
    have := mMk_lt hM
    show (match (if 20 + 8 * t' + k' = 100 + 64 * a + k then x.toInt.toNat + 1 else G.2.2.1 (20 + 8 * t' + k')) with | 0 => none | n + 1 => some (Int32.ofNat n)) = km G t' k'
    rw [if_neg (by omega)]
    rfl
  exact propext ⟨fun h hM y hy => h hM y (by rw [e hM]; exact hy), fun h hM y hy => h hM y (by rw [← e hM]; exact hy)⟩
theorem mΓ_gs {G : tG} {a k : Nat} {x : Int32} {Y : mY} : mΓ (gSet G a k x) Y = mΓ G Y := by
  unfold mΓ
  simp only [mKn_gs]
theorem tKn_gm {G : tG} {t k t' a' k' : Nat} {x : Int32} {v : Value} (ht : t < 4) (hk : k < 8) : tKn (gSm G t k x) t' a' k' v = tKn G t' a' k' v := by
  have e : kW (gSm G t k x) a' k' = kW G a' k' := by
    show (match (if 100 + 64 * a' + k' = 20 + 8 * t + k then x.toInt.toNat + 1 else G.2.2.1 (100 + 64 * a' + k')) with | 0 => none | n + 1 => some (Int32.ofNat n)) = kW G a' k'
    rw [if_neg (by omega)]
    rfl
  have e8 : (gSm G t k x).2.2.1 8 = G.2.2.1 8 := gSm_T (by omega)
  have e6 : k' < 2 → (gSm G t k x).2.2.1 (6 + k') = G.2.2.1 (6 + k') := fun h => gSm_T (by omega)
  refine propext ⟨fun h hM => ⟨fun y hy => (h hM).1 y (by rw [e]; exact hy), fun h1 h2 h3 h4 => ?_⟩, fun h hM => ⟨fun y hy => (h hM).1 y (by rw [← e]; exact hy), fun h1 h2 h3 h4 => ?_⟩⟩
  · have := (h hM).2 h1 h2 (by rw [e8]; exact h3) (by rw [e6 h2]; exact h4)
    rw [e6 h2] at this
    exact this
  · rw [e6 h2] at h4 ⊢
    exact (h hM).2 h1 h2 (by rw [← e8]; exact h3) h4
theorem tΓ_gm {G : tG} {t k : Nat} {x : Int32} {τ : Nat → Nat} (ht : t < 4) (hk : k < 8) : tΓ (gSm G t k x) τ = tΓ G τ := by
  unfold tΓ
  simp only [tKn_gm ht hk]
abbrev mQk (Y : mY) (post : Int32 → mY → tG → Prop) : Array Value → State → Outcome → State → Prop := va_Qi (S := mY × tG) (fun r w => w.1.1 = Y.1 ∧ mCu w.1.2.1 ∧ post r w.1 w.2) (fun w t => TH w.2 (mΓ w.2 w.1) t.heap) (mA Y)
section MKN
variable {p : Program} {l : Launch} {e : Env} {R : Room} {s : State} {m : MethodId} {args : Array Value} {below : List Frame} {meth : Method} {c : Code} {H : Heap} {locs : List Loc} {Q : State → Prop}
variable {cc : ByteArray} {pc : Nat} {ls : Array Slot} {rest st0 As : List Value} {a b t k index n : Nat} {G G1 : tG} {own : String} {nL : Nat} {Y Y0 : mY} {lo hi : Int} {i : Int32} {cells slots : Nat}
theorem mc_nastK (E : tE G p s m c args own cc nL) (hG : mGH G Y s H locs) (ha : Y.1 a = t) (hc : mCu t) (hN : Y.2.2 t i.toNatClampNeg = none) (hin : vp_in i 934) (hd : nR i.toNatClampNeg = (lo, hi)) {x : Int32} (h1 : lo ≤ x.toInt) (h2 : x.toInt ≤ hi) (hx0 : 0 ≤ x.toInt) (hk : i.toNatClampNeg < 8) (hdg : decode cc pc = .ok (.iastore, 1))
    (kk : ∀ (H1 : Heap) (locs1 : List Loc), mGH (gSm G t i.toNatClampNeg x) Y s H1 locs1 → W p l e R s m args below meth c H1 locs1 cells slots Q (F0 m (pc + 1) ls rest)) : W p l e R s m args below meth c H locs cells slots Q (F0 m pc ls (.int x :: .int i :: .ref a :: rest)) := by
  have hΓ := mΓ_at (G := G) ha (mCu_nz hc)
  rw [mShp_cu hc] at hΓ
  obtain ⟨g1, g2, g3⟩ := hG
  refine tg_iast E g1 hΓ hin hdg (fun H1 z oq hat => kk H1 _ ⟨?_, g2.put z oq (show Y.1 a ≠ 0 by rw [ha]; exact mCu_nz hc), g3⟩)
  rw [TH_gm]
  refine mTH.mk (fun q hq => ?_)
  by_cases e : q = a
  · rw [e, ha, mShp_cu hc]
    refine hat _ ⟨?_, fun _ y hy => ?_⟩ (fun j w hj hw => ⟨hw.1, mKn_gm (Or.inr hj) hk hw.2⟩)
    · show msv _ t _ _
      unfold msv
      rw [mFD_cu hc]
      exact ⟨x, rfl, by rw [hd]; exact h1, by rw [hd]; exact h2, fun y hy => by rw [hN] at hy; cases hy⟩
    · rw [gSm_at hx0] at hy
      cases hy
      rfl
  · have hne : Y.1 q ≠ t := fun z => e (g3.2 q a (by rw [z, ha]) hq)
    exact ((mTH.at g1 hq).kept (oq q e)).to (fun j v hv => ⟨hv.1, mKn_gm (Or.inl hne) hk hv.2⟩)
theorem mc_putK (E : tE G p s m c args RX10 cc nL) (hG : mGH G Y s H locs) (ha : Y.1 a = 1) {ty : FieldType} (hf : tFp RX10 index 9 k ty) (hd : mFD 1 k = (0, lo, hi)) (hN : Y.2.2 1 k = none) {x : Int32} (h1 : lo ≤ x.toInt) (h2 : x.toInt ≤ hi) (hx0 : 0 ≤ x.toInt) (hk : k < 8) (hn : narrow ty (.int x) = .int x) (hfit : fits ty (.int x) = true) (hdg : decode cc pc = .ok (.putfield index, 3))
    (kk : ∀ (H1 : Heap) (locs1 : List Loc), mGH (gSm G 1 k x) Y s H1 locs1 → W p l e R s m args below meth c H1 locs1 cells slots Q (F0 m (pc + 3) ls rest)) : W p l e R s m args below meth c H locs cells slots Q (F0 m pc ls (.int x :: .ref a :: rest)) := by
  obtain ⟨g1, g2, g3⟩ := hG
  refine tg_put E g1 (mΓ_at ha (by decide)) hf hn hfit hdg (fun H1 i z oq hat => kk H1 _ ⟨?_, g2.put z oq (show Y.1 a ≠ 0 by rw [ha]; decide), g3⟩)
  rw [TH_gm]
  refine mTH.mk (fun q hq => ?_)
  by_cases e : q = a
  · rw [e, ha]
    refine hat _ ⟨?_, fun _ y hy => ?_⟩ (fun j w hj hw => ⟨hw.1, mKn_gm (Or.inr hj) hk hw.2⟩)
    · show msv _ 1 k _
      unfold msv
      rw [hd]
      exact ⟨x, rfl, h1, h2, fun y hy => by rw [hN] at hy; cases hy⟩
    · rw [gSm_at hx0] at hy
      cases hy
      rfl
  · have hne : Y.1 q ≠ 1 := fun z => e (g3.2 q a (by rw [z, ha]) hq)
    exact ((mTH.at g1 hq).kept (oq q e)).to (fun j v hv => ⟨hv.1, mKn_gm (Or.inl hne) hk hv.2⟩)
theorem mc_naldK (E : tE G p s m c args own cc nL) (hG : mGH G Y s H locs) (ha : Y.1 a = t) (hc : mCu t) (hin : vp_in i 934) (hdg : decode cc pc = .ok (.iaload, 1))
    (kk : ∀ x : Int32, (nR i.toNatClampNeg).1 ≤ x.toInt → x.toInt ≤ (nR i.toNatClampNeg).2 → (∀ y, Y.2.2 t i.toNatClampNeg = some y → x = y) → (mMk t i.toNatClampNeg = true → ∀ y, km G t i.toNatClampNeg = some y → x = y) → W p l e R s m args below meth c H locs cells slots Q (F0 m (pc + 1) ls (.int x :: rest))) : W p l e R s m args below meth c H locs cells slots Q (F0 m pc ls (.int i :: .ref a :: rest)) := by
  have hΓ := mΓ_at (G := G) ha (mCu_nz hc)
  rw [mShp_cu hc] at hΓ
  refine tg_iald E hG.1 hΓ hin hdg (fun v hv => ?_)
  obtain ⟨hv, hk⟩ := hv
  unfold msv at hv
  rw [mFD_cu hc] at hv
  obtain ⟨x, rfl, h1, h2, h3⟩ := hv
  exact kk x h1 h2 h3 (fun hM y hy => by have := hk hM y hy; cases this; rfl)
theorem mc_getiK (E : tE G p s m c args RX10 cc nL) (hG : mGH G Y s H locs) (ha : Y.1 a = 1) (hF : mFi index k lo hi) (hM : mMk 1 k = true) (hdg : decode cc pc = .ok (.getfield index, 3))
    (kk : ∀ x : Int32, lo ≤ x.toInt → x.toInt ≤ hi → (∀ y, km G 1 k = some y → x = y) → W p l e R s m args below meth c H locs cells slots Q (F0 m (pc + 3) ls (.int x :: rest))) : W p l e R s m args below meth c H locs cells slots Q (F0 m pc ls (.ref a :: rest)) := by
  obtain ⟨hf, hd⟩ := hF
  refine tg_get E hG.1 (mΓ_at ha (by decide)) hf hdg (fun v hv => ?_)
  obtain ⟨hv, hk⟩ := hv
  unfold msv at hv
  rw [hd] at hv
  obtain ⟨x, rfl, h1, h2, -⟩ := hv
  exact kk x h1 h2 (fun y hy => by have := hk hM y hy; cases this; rfl)
theorem mc_kretX {ty : FieldType} (E : tE G p s m c args own cc nL) (hr : meth.sig.returnType = some ty) (hlk : meth.locks = false) (hG : mGH G Y s H locs) (hY : Y.1 = Y0.1) {post : Int32 → mY → tG → Prop} {v : Int32} (hn : narrow ty (.int v) = .int v) (hq : post v Y G) (hdg : decode cc pc = .ok (.ireturn, 1)) : W p l e R s m args below meth c H locs 0 0 (MQ below (mQk Y0 post) args s 0 0 (mA Y0)) (F0 m pc ls [.int v]) := by
  have hS := hG.2.1
  rw [mA_eq hY] at hS
  exact W.zret E.1 E.2.1 hr hn (fun t ht _ => ⟨⟨v, (Y, G), rfl, ⟨hY, hG.2.2.1, hq⟩, (show TH G (mΓ G Y) t.heap by rw [ht]; exact hG.1)⟩, hS.F ht⟩) hS.2.2 hdg hlk
theorem mc_vretXK (E : tE G p s m c args own cc nL) (hr : meth.sig.returnType = none) (hlk : meth.locks = false) (hG : mGH G Y s H locs) (hY : Y.1 = Y0.1) {post : mY → Prop} (hq : post Y) (hdg : decode cc pc = .ok (.return_, 1)) : W p l e R s m args below meth c H locs 0 0 (MQ below (mQvX G Y0 post) args s 0 0 (mA Y0)) (F0 m pc ls []) := mc_vretX E hr hlk hG hY hq hdg
theorem mc_callvXK {post : mY → Prop} {av : Array Value} (hG : mGH G Y s H locs) (hr : va_Run p l e R s m args below meth c H locs cells slots 0 0 (F0 m pc ls st0) rest (mQvX G1 Y post av) (mA Y))
    (kk : ∀ (Y' : mY) (H1 : Heap) (locs1 : List Loc), Y'.1 = Y.1 → post Y' → mGH G1 Y' s H1 locs1 → W p l e R s m args below meth c H1 locs1 cells slots Q (F0 m (pc + 3) ls rest)) : W p l e R s m args below meth c H locs cells slots Q (F0 m pc ls st0) :=
  va_callv hr hG.2.1 (fun _ _ h => h) (fun _ h => h) (fun Y' t H1 locs1 ht _ hp hB _ _ hS => kk Y' H1 locs1 hp.1 hp.2.2 ⟨ht ▸ hB, by rw [mA_eq hp.1]; exact hS, hp.2.1, by rw [hp.1]; exact hG.2.2.2⟩)
theorem mGH.gd (hG : mGH G Y s H locs) : mGH (gDm G t) Y s H locs := by
  obtain ⟨h1, h2, h3⟩ := hG
  refine ⟨?_, h2, h3⟩
  rw [TH_gd]
  refine mTH.mk (fun q hq => (mTH.at h1 hq).to (fun k v hv => ⟨hv.1, fun hM y hy => ?_⟩))
  have hk := mMk_lt hM
  by_cases e : Y.1 q = t
  · by_cases e2 : k = 1 ∨ k = 2
    · rw [e, gDm_at e2] at hy; cases hy
    · refine hv.2 hM y ?_
      have e9 : km (gDm G t) (Y.1 q) k = km G (Y.1 q) k := by
        show (match (if 20 + 8 * Y.1 q + k = 20 + 8 * t + 1 ∨ 20 + 8 * Y.1 q + k = 20 + 8 * t + 2 then 0 else G.2.2.1 (20 + 8 * Y.1 q + k)) with | 0 => none | n + 1 => some (Int32.ofNat n)) = km G (Y.1 q) k
        rw [if_neg (by omega)]
        rfl
      rw [← e9]; exact hy
  · exact hv.2 hM y (by rw [← gDm_ne e hk.2]; exact hy)
end MKN
