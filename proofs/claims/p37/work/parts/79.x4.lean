/-! ===== the reference: knowledge by code that changes ===== -/
def kM (G : tG) (M : mF) : tG := (G.1, G.2.1, G.2.2.1, G.2.2.2.1, G.2.2.2.2.1, G.2.2.2.2.2.1, M)
theorem kM_self {G : tG} : kM G (FM G) = G := rfl
theorem tAt_kM {G : tG} {M : mF} {sh : tSH} {q : Nat} {H : Heap} : tAt (kM G M) sh q H = tAt G sh q H := by
  obtain ⟨z, P⟩ := sh
  cases z <;> rfl
theorem TH_kM {G : tG} {M : mF} {Γ : Nat → Option tSH} {H : Heap} : TH (kM G M) Γ H = TH G Γ H := by
  unfold TH
  simp only [tAt_kM]
theorem mΓ_gF {G : tG} {F : mF} {Y : mY} : mΓ (gF G F) Y = mΓ G Y := rfl
theorem tΓ_kM {G : tG} {M : mF} {τ : Nat → Nat} : tΓ (kM G M) τ = tΓ G τ := rfl
theorem tE.fm {G : tG} {M : mF} {p : Program} {s : State} {m : MethodId} {c : Code} {args : Array Value} {own : String} {cc : ByteArray} {nL : Nat} (E : tE G p s m c args own cc nL) : tE (kM G M) p s m c args own cc nL := E
theorem tE.f2 {G : tG} {M M' : mF} {p : Program} {s : State} {m : MethodId} {c : Code} {args : Array Value} {own : String} {cc : ByteArray} {nL : Nat} (E : tE (kM G M) p s m c args own cc nL) : tE (kM G M') p s m c args own cc nL := E
theorem mKn_u {G : tG} {t k t' k' : Nat} {x : Int32} {v : Value} (h : ¬ (t' = t ∧ k' = k)) (hv : mKn G t' k' v) : mKn (kM G (up2 (FM G) t k x)) t' k' v := fun hM => by
  show v = .int (up2 (FM G) t k x t' k')
  rw [up2_ne h]; exact hv hM
theorem mKn_a {G : tG} {t k : Nat} {x : Int32} : mKn (kM G (up2 (FM G) t k x)) t k (.int x) := fun _ => by
  show Value.int x = .int (up2 (FM G) t k x t k)
  rw [up2_at]
abbrev mQM (G : tG) (Y : mY) (post : Int32 → mY → mF → Prop) : Array Value → State → Outcome → State → Prop := va_Qi (S := mY × mF) (fun r w => w.1.1 = Y.1 ∧ mCu w.1.2.1 ∧ post r w.1 w.2) (fun w t => TH G (mΓ (kM G w.2) w.1) t.heap) (mA Y)
/-- copied up to k -/
def cpM (M : mF) (γ1 γ2 : Nat) (k : Int) : mF := if 5 < k then up2 M γ2 5 (M γ1 5) else M
section MKN
variable {p : Program} {l : Launch} {e : Env} {R : Room} {s : State} {m : MethodId} {args : Array Value} {below : List Frame} {meth : Method} {c : Code} {H : Heap} {locs : List Loc} {Q : State → Prop}
variable {cc : ByteArray} {pc : Nat} {ls : Array Slot} {rest st0 As : List Value} {a b t k index n γ1 γ2 : Nat} {G G1 : tG} {M : mF} {own : String} {nL : Nat} {Y Y0 : mY} {lo hi : Int} {i : Int32} {cells slots : Nat}
theorem mGH.gm (h : TH G (mΓ (kM G M) Y) H) (hS : va_S (mA Y) s.heap H locs) (hO : mOK Y) : mGH (kM G M) Y s H locs := ⟨by rw [TH_kM]; exact h, hS, hO⟩
theorem mc_nastM (E : tE G p s m c args own cc nL) (hG : mGH G Y s H locs) (ha : Y.1 a = t) (hc : mCu t) (hN : Y.2.2 t i.toNatClampNeg = none) (hin : vp_in i 934) (hd : nR i.toNatClampNeg = (lo, hi)) {x : Int32} (h1 : lo ≤ x.toInt) (h2 : x.toInt ≤ hi) (hdg : decode cc pc = .ok (.iastore, 1))
    (kk : ∀ (H1 : Heap) (locs1 : List Loc), mGH (kM G (up2 (FM G) t i.toNatClampNeg x)) Y s H1 locs1 → W p l e R s m args below meth c H1 locs1 cells slots Q (F0 m (pc + 1) ls rest)) : W p l e R s m args below meth c H locs cells slots Q (F0 m pc ls (.int x :: .int i :: .ref a :: rest)) := by
  have hΓ := mΓ_at (G := G) ha (mCu_nz hc)
  rw [mShp_cu hc] at hΓ
  obtain ⟨g1, g2, g3⟩ := hG
  refine tg_iast E g1 hΓ hin hdg (fun H1 z oq hat => kk H1 _ (mGH.gm ?_ (g2.put z oq (show Y.1 a ≠ 0 by rw [ha]; exact mCu_nz hc)) g3))
  refine mTH.mk (fun q hq => ?_)
  by_cases e : q = a
  · rw [e, ha, mShp_cu hc]
    refine hat _ ⟨?_, mKn_a⟩ (fun j w hj hw => ⟨hw.1, mKn_u (fun z => hj z.2) hw.2⟩)
    show msv _ t _ _
    unfold msv
    rw [mFD_cu hc]
    exact ⟨x, rfl, by rw [hd]; exact h1, by rw [hd]; exact h2, fun y hy => by rw [hN] at hy; cases hy⟩
  · have hne : Y.1 q ≠ t := fun z => e (g3.2 q a (by rw [z, ha]) hq)
    exact ((mTH.at g1 hq).kept (oq q e)).to (fun j v hv => ⟨hv.1, mKn_u (fun z => hne z.1) hv.2⟩)
theorem mc_putM (E : tE G p s m c args RX10 cc nL) (hG : mGH G Y s H locs) (ha : Y.1 a = 1) {ty : FieldType} (hf : tFp RX10 index 9 k ty) (hd : mFD 1 k = (0, lo, hi)) (hN : Y.2.2 1 k = none) {x : Int32} (h1 : lo ≤ x.toInt) (h2 : x.toInt ≤ hi) (hn : narrow ty (.int x) = .int x) (hfit : fits ty (.int x) = true) (hdg : decode cc pc = .ok (.putfield index, 3))
    (kk : ∀ (H1 : Heap) (locs1 : List Loc), mGH (kM G (up2 (FM G) 1 k x)) Y s H1 locs1 → W p l e R s m args below meth c H1 locs1 cells slots Q (F0 m (pc + 3) ls rest)) : W p l e R s m args below meth c H locs cells slots Q (F0 m pc ls (.int x :: .ref a :: rest)) := by
  obtain ⟨g1, g2, g3⟩ := hG
  refine tg_put E g1 (mΓ_at ha (by decide)) hf hn hfit hdg (fun H1 i z oq hat => kk H1 _ (mGH.gm ?_ (g2.put z oq (show Y.1 a ≠ 0 by rw [ha]; decide)) g3))
  refine mTH.mk (fun q hq => ?_)
  by_cases e : q = a
  · rw [e, ha]
    refine hat _ ⟨?_, mKn_a⟩ (fun j w hj hw => ⟨hw.1, mKn_u (fun z => hj z.2) hw.2⟩)
    show msv _ 1 k _
    unfold msv
    rw [hd]
    exact ⟨x, rfl, h1, h2, fun y hy => by rw [hN] at hy; cases hy⟩
  · have hne : Y.1 q ≠ 1 := fun z => e (g3.2 q a (by rw [z, ha]) hq)
    exact ((mTH.at g1 hq).kept (oq q e)).to (fun j v hv => ⟨hv.1, mKn_u (fun z => hne z.1) hv.2⟩)
theorem mc_iastM (E : tE G p s m c args own cc nL) (hG : mGH G Y s H locs) (ha : Y.1 a = t) (hF : mAl t n lo hi) (hN : Y.2.2 t i.toNatClampNeg = none) (hin : vp_in i n) {x : Int32} (h1 : lo ≤ x.toInt) (h2 : x.toInt ≤ hi) (hdg : decode cc pc = .ok (.iastore, 1))
    (kk : ∀ (H1 : Heap) (locs1 : List Loc), mGH (kM G (up2 (FM G) t i.toNatClampNeg x)) Y s H1 locs1 → W p l e R s m args below meth c H1 locs1 cells slots Q (F0 m (pc + 1) ls rest)) : W p l e R s m args below meth c H locs cells slots Q (F0 m pc ls (.int x :: .int i :: .ref a :: rest)) := by
  have hΓ := mΓ_at (G := G) ha hF.1
  rw [hF.2.1] at hΓ
  obtain ⟨g1, g2, g3⟩ := hG
  refine tg_iast E g1 hΓ hin hdg (fun H1 z oq hat => kk H1 _ (mGH.gm ?_ (g2.put z oq (show Y.1 a ≠ 0 by rw [ha]; exact hF.1)) g3))
  refine mTH.mk (fun q hq => ?_)
  by_cases e : q = a
  · rw [e, ha, hF.2.1]
    refine hat _ ⟨?_, mKn_a⟩ (fun j w hj hw => ⟨hw.1, mKn_u (fun z => hj z.2) hw.2⟩)
    show msv _ t _ _
    unfold msv
    rw [hF.2.2]
    exact ⟨x, rfl, h1, h2, fun y hy => by rw [hN] at hy; cases hy⟩
  · have hne : Y.1 q ≠ t := fun z => e (g3.2 q a (by rw [z, ha]) hq)
    exact ((mTH.at g1 hq).kept (oq q e)).to (fun j v hv => ⟨hv.1, mKn_u (fun z => hne z.1) hv.2⟩)
/-- a row is copied: slot i -/
theorem mc_nastC (E : tE (kM G (cpM M γ1 γ2 i.toInt)) p s m c args own cc nL) (hG : mGH (kM G (cpM M γ1 γ2 i.toInt)) Y s H locs) (ha : Y.1 a = γ2) (hc : mCu γ2) (hin : vp_in i 934) (hd : nR i.toNatClampNeg = (lo, hi)) {x : Int32} (h1 : lo ≤ x.toInt) (h2 : x.toInt ≤ hi) (hx5 : i.toInt = 5 → x = M γ1 5) (hdg : decode cc pc = .ok (.iastore, 1))
    (kk : ∀ (H1 : Heap) (locs1 : List Loc), mGH (kM G (cpM M γ1 γ2 (i.toInt + 1))) (mSet Y γ2 i.toNatClampNeg (some x)) s H1 locs1 → W p l e R s m args below meth c H1 locs1 cells slots Q (F0 m (pc + 1) ls rest)) : W p l e R s m args below meth c H locs cells slots Q (F0 m pc ls (.int x :: .int i :: .ref a :: rest)) := by
  have i0 : 0 ≤ i.toInt := (vp_in_iff.mp hin).1
  have ei : i.toNatClampNeg = i.toInt.toNat := rfl
  have hk : ∀ (t' k' : Nat) (v : Value), ¬ (t' = γ2 ∧ k' = i.toNatClampNeg) → mKn (kM G (cpM M γ1 γ2 i.toInt)) t' k' v → mKn (kM G (cpM M γ1 γ2 (i.toInt + 1))) t' k' v := fun t' k' v hne hv hM => by
    have hv : v = .int (cpM M γ1 γ2 i.toInt t' k') := hv hM
    show v = .int (cpM M γ1 γ2 (i.toInt + 1) t' k')
    rw [hv]
    unfold cpM
    by_cases q : 5 < i.toInt
    · rw [if_pos q, if_pos (by omega)]
    · rw [if_neg q]
      by_cases q2 : 5 < i.toInt + 1
      · rw [if_pos q2, up2_ne (fun z => hne ⟨z.1, by omega⟩)]
      · rw [if_neg q2]
  have hΓ := mΓ_at (G := kM G (cpM M γ1 γ2 i.toInt)) ha (mCu_nz hc)
  rw [mShp_cu hc] at hΓ
  obtain ⟨g1, g2, g3⟩ := hG
  refine tg_iast E g1 hΓ hin hdg (fun H1 z oq hat => kk H1 _ ⟨?_, g2.put z oq (show Y.1 a ≠ 0 by rw [ha]; exact mCu_nz hc), g3⟩)
  rw [TH_kM]
  rw [TH_kM] at g1
  refine mTH.mk (fun q hq => ?_)
  show tAt G (mShp (Y.1 q), fun k v => msv (mSet Y γ2 i.toNatClampNeg (some x)) (Y.1 q) k v ∧ mKn (kM G (cpM M γ1 γ2 (i.toInt + 1))) (Y.1 q) k v) q H1
  have hq : Y.1 q ≠ 0 := hq
  by_cases e : q = a
  · rw [e, ha, mShp_cu hc, ← tAt_kM (M := cpM M γ1 γ2 i.toInt)]
    refine hat _ ⟨?_, fun hM => ?_⟩ (fun j w hj hw => ⟨msv.set (fun z => hj z.2) hw.1, hk _ _ _ (fun z => hj z.2) hw.2⟩)
    · show msv _ γ2 _ _
      unfold msv
      rw [mFD_cu hc]
      exact ⟨x, rfl, by rw [hd]; exact h1, by rw [hd]; exact h2, fun y hy => by rw [mSet_at] at hy; cases hy; rfl⟩
    · have h5 : i.toNatClampNeg = 5 := by
        unfold mMk at hM
        simp only [Bool.or_eq_true, Bool.and_eq_true, beq_iff_eq] at hM
        rcases hc with z | z | z | z <;> omega
      show Value.int x = .int (cpM M γ1 γ2 (i.toInt + 1) γ2 i.toNatClampNeg)
      unfold cpM
      rw [if_pos (by omega), h5, up2_at, hx5 (by omega)]
  · have hne : Y.1 q ≠ γ2 := fun z => e (g3.2 q a (by rw [z, ha]) hq)
    exact ((mTH.at g1 hq).kept (oq q e)).to (fun j v hv => ⟨msv.set (fun z => hne z.1) hv.1, hk _ _ _ (fun z => hne z.1) hv.2⟩)
theorem mc_naldM (E : tE G p s m c args own cc nL) (hG : mGH G Y s H locs) (ha : Y.1 a = t) (hc : mCu t) (hin : vp_in i 934) (hdg : decode cc pc = .ok (.iaload, 1))
    (kk : ∀ x : Int32, (nR i.toNatClampNeg).1 ≤ x.toInt → x.toInt ≤ (nR i.toNatClampNeg).2 → (∀ y, Y.2.2 t i.toNatClampNeg = some y → x = y) → (mMk t i.toNatClampNeg = true → x = FM G t i.toNatClampNeg) → W p l e R s m args below meth c H locs cells slots Q (F0 m (pc + 1) ls (.int x :: rest))) : W p l e R s m args below meth c H locs cells slots Q (F0 m pc ls (.int i :: .ref a :: rest)) := by
  have hΓ := mΓ_at (G := G) ha (mCu_nz hc)
  rw [mShp_cu hc] at hΓ
  refine tg_iald E hG.1 hΓ hin hdg (fun v hv => ?_)
  obtain ⟨hv, hk⟩ := hv
  unfold msv at hv
  rw [mFD_cu hc] at hv
  obtain ⟨x, rfl, h1, h2, h3⟩ := hv
  exact kk x h1 h2 h3 (fun hM => Value.int.inj (hk hM))
theorem mc_getiM (E : tE G p s m c args RX10 cc nL) (hG : mGH G Y s H locs) (ha : Y.1 a = 1) (hF : mFi index k lo hi) (hM : mMk 1 k = true) (hdg : decode cc pc = .ok (.getfield index, 3))
    (kk : ∀ x : Int32, lo ≤ x.toInt → x.toInt ≤ hi → x = FM G 1 k → W p l e R s m args below meth c H locs cells slots Q (F0 m (pc + 3) ls (.int x :: rest))) : W p l e R s m args below meth c H locs cells slots Q (F0 m pc ls (.ref a :: rest)) := by
  obtain ⟨hf, hd⟩ := hF
  refine tg_get E hG.1 (mΓ_at ha (by decide)) hf hdg (fun v hv => ?_)
  obtain ⟨hv, hk⟩ := hv
  unfold msv at hv
  rw [hd] at hv
  obtain ⟨x, rfl, h1, h2, -⟩ := hv
  exact kk x h1 h2 (Value.int.inj (hk hM))
theorem mc_kretM {ty : FieldType} (E : tE (kM G M) p s m c args own cc nL) (hr : meth.sig.returnType = some ty) (hlk : meth.locks = false) (hG : mGH (kM G M) Y s H locs) (hY : Y.1 = Y0.1) {post : Int32 → mY → mF → Prop} {v : Int32} (hn : narrow ty (.int v) = .int v) (hq : post v Y M) (hdg : decode cc pc = .ok (.ireturn, 1)) : W p l e R s m args below meth c H locs 0 0 (MQ below (mQM G Y0 post) args s 0 0 (mA Y0)) (F0 m pc ls [.int v]) := by
  have hS := hG.2.1
  rw [mA_eq hY] at hS
  have h1 := hG.1
  rw [TH_kM] at h1
  exact W.zret E.1 E.2.1 hr hn (fun t ht _ => ⟨⟨v, (Y, M), rfl, ⟨hY, hG.2.2.1, hq⟩, (show TH G (mΓ (kM G M) Y) t.heap by rw [ht]; exact h1)⟩, hS.F ht⟩) hS.2.2 hdg hlk
theorem mc_vretM (E : tE (kM G M) p s m c args own cc nL) (hr : meth.sig.returnType = none) (hlk : meth.locks = false) (hG : mGH (kM G M) Y s H locs) (hY : Y.1 = Y0.1) {post : mY → Prop} (hq : post Y) (hdg : decode cc pc = .ok (.return_, 1)) : W p l e R s m args below meth c H locs 0 0 (MQ below (mQvX (kM G M) Y0 post) args s 0 0 (mA Y0)) (F0 m pc ls []) := mc_vretX E hr hlk hG hY hq hdg
theorem mc_callvXM {post : mY → Prop} {av : Array Value} (hG : mGH G Y s H locs) (hr : va_Run p l e R s m args below meth c H locs cells slots 0 0 (F0 m pc ls st0) rest (mQvX G1 Y post av) (mA Y))
    (kk : ∀ (Y' : mY) (H1 : Heap) (locs1 : List Loc), Y'.1 = Y.1 → post Y' → mGH G1 Y' s H1 locs1 → W p l e R s m args below meth c H1 locs1 cells slots Q (F0 m (pc + 3) ls rest)) : W p l e R s m args below meth c H locs cells slots Q (F0 m pc ls st0) :=
  va_callv hr hG.2.1 (fun _ _ h => h) (fun _ h => h) (fun Y' t H1 locs1 ht _ hp hB _ _ hS => kk Y' H1 locs1 hp.1 hp.2.2 ⟨ht ▸ hB, by rw [mA_eq hp.1]; exact hS, hp.2.1, by rw [hp.1]; exact hG.2.2.2⟩)
end MKN

def PLx (G : tG) (ta : Nat → Int32) (x1 x2 : Int) (r : Int32) (t : Nat → Int32) (W : mF) : Prop := t = ta ∧ ((x1 = -1 ∧ r = 0 ∧ W = up2 (FM G) 2 5 0) ∨ (¬ x1 = -1 ∧ r = -1 ∧ W = FM G ∧ ¬ (0 ≤ x1 ∧ x1 ≤ 23 ∧ K ta x1 0 = 1)) ∨ (¬ x1 = -1 ∧ r = -2 ∧ W = FM G ∧ (0 ≤ x1 ∧ x1 ≤ 23 ∧ K ta x1 0 = 1) ∧ ¬ (0 ≤ x2 ∧ x2 ≤ 9)) ∨ (¬ x1 = -1 ∧ r = -4 ∧ W = FM G ∧ (0 ≤ x1 ∧ x1 ≤ 23 ∧ K ta x1 0 = 1) ∧ (0 ≤ x2 ∧ x2 ≤ 9) ∧ (FM G 2 5).toInt = 8) ∨ (¬ x1 = -1 ∧ (0 ≤ x1 ∧ x1 ≤ 23 ∧ K ta x1 0 = 1) ∧ (0 ≤ x2 ∧ x2 ≤ 9) ∧ (FM G 2 5).toInt ≤ 7 ∧ r = FM G 2 5 + 1 ∧ W = up2 (FM G) 2 5 (FM G 2 5 + 1)))
set_option maxHeartbeats 4000000 in
set_option maxRecDepth 100000 in
theorem x_X10_plan (l : Launch) (G : tG) (σ : Nat → Nat) (a : Nat → Option (Nat → Int32)) (ta : Nat → Int32) (h0 : Nat) (x1 : Int32) (x2 : Int32) (t0 : σ h0 = 1) (hIa : TInv ta) : Met l yX10_plan (.code yX10_plan cX10_plan 3 (some .int) :: tWS) (tRm 2 46) (va_Pc [.ref h0, .int x1, .int x2] (mPre G (σ, 2, qX (upA a 2 ta)))) (mQM G (σ, 2, qX (upA a 2 ta)) (fun r Z W => ∃ t : Nat → Int32, Z = (σ, 2, qX (upA a 2 t)) ∧ PLx G ta x1.toInt x2.toInt r t W)) 0 0 (mA (σ, 2, qX (upA a 2 ta))) := by
  refine mc_met (by decide) (Nat.le_of_ble_eq_true rfl) ?_
  intro p e s m below meth c E hr hlk hG ls hl
  have hl : lv_has ls 3 [(0, .ref h0), (1, .int x1), (2, .int x2)] := hl
  have hx := E.1
  have hb := E.2.1
  obtain ⟨H, eH⟩ : ∃ H, H = s.heap := ⟨_, rfl⟩
  obtain ⟨locs, eL⟩ : ∃ x : List Loc, x = [] := ⟨_, rfl⟩
  have hG : mGH G (σ, 2, qX (upA a 2 ta)) s H locs := by rw [eH, eL]; exact hG
  suffices hW : W p l e (tRm 2 46) s m ([.ref h0, .int x1, .int x2] : List Value).toArray below meth c H locs 0 0 (MQ below (mQM G (σ, 2, qX (upA a 2 ta)) (fun r Z W => ∃ t : Nat → Int32, Z = (σ, 2, qX (upA a 2 t)) ∧ PLx G ta x1.toInt x2.toInt r t W)) ([.ref h0, .int x1, .int x2] : List Value).toArray s 0 0 (mA (σ, 2, qX (upA a 2 ta)))) (F0 m 0 ls []) by subst eH; subst eL; exact hW
  clear eH eL
  have hcu : mCu 2 := hG.2.2.1
  have hI := hIa
  refine lv_iload_n hx hb dX10_plan_0 rfl (lv_at hl 1 rfl) ?_
  refine lv_iconst (v := -1) hx hb dX10_plan_1 (by decide) ?_
  refine lv_icmp_ne (tgt := 14) hx hb dX10_plan_2 (by decide) (fun c1 => ?_) (fun c1 => ?_)
  · skip
    have ic1 := tn_ne rfl kI_m1 c1
    refine lv_aload_n hx hb dX10_plan_14 rfl (lv_at hl 0 rfl) ?_
    refine lv_iload_n hx hb dX10_plan_15 rfl (lv_at hl 1 rfl) ?_
    refine tc_callp (mc_runV (As := [.int x1]) (rest := []) E hG (c_X10_isBox l G (σ, 2, qX (upA a 2 ta)) h0 x1 t0) t0 rfl kv_X10_isBox ml_X10_127 ⟨rfl, rfl, Nat.le_of_ble_eq_true rfl, Nat.le_of_ble_eq_true rfl⟩ rfl hl.1 rfl (Nat.le_of_ble_eq_true rfl) ⟨Nat.zero_le _, Nat.zero_le _⟩ dX10_plan_16) (fun r2 pr2 => ?_)
    replace pr2 : (r2.toInt = 1 ∧ 0 ≤ x1.toInt ∧ x1.toInt ≤ 23 ∧ mV (σ, 2, qX (upA a 2 ta)) (ix x1.toInt 0) 1) ∨ (r2.toInt = 0 ∧ (x1.toInt < 0 ∨ 23 < x1.toInt ∨ ∃ v : Int32, ¬ v.toInt = 1 ∧ mV (σ, 2, qX (upA a 2 ta)) (ix x1.toInt 0) v)) := pr2
    have cr2 := mB pr2 (qX_TI hcu upA_at) hI
    clear pr2
    refine lv_if_ne (tgt := 24) hx hb dX10_plan_19 (by decide) (fun c3 => ?_) (fun c3 => ?_)
    · skip
      have ic3 := tn_ne rfl kI_0 c3
      refine lv_iload_n hx hb dX10_plan_24 rfl (lv_at hl 2 rfl) ?_
      refine lv_i2l hx hb dX10_plan_25 rfl ?_
      refine lv_topl (fun z4 ez4 => ?_)
      have tz4 := tl_i2l ez4
      refine lv_lconst (v := 0) hx hb dX10_plan_26 (by decide) ?_
      refine lv_topl (fun z5 ez5 => ?_)
      have tz5 : z5.toInt = 0 := by rw [ez5]; decide
      refine lv_ldc2 (v := 9) hx hb E.2.2.2.1 (E.2.2.2.2.1 _ (t_w6 174 rfl rfl)) dX10_plan_27 ?_
      refine lv_topl (fun z6 ez6 => ?_)
      have tz6 : z6.toInt = 9 := by rw [ez6]; decide
      refine tc_callp (mc_runS (As := [.long z4, .long z5, .long z6]) (rest := []) E hG (c_X10_in l G (σ, 2, qX (upA a 2 ta)) z4 z5 z6) ks_X10_in ml_X10_87 ⟨rfl, rfl, Nat.le_of_ble_eq_true rfl, Nat.le_of_ble_eq_true rfl⟩ rfl hl.1 rfl (Nat.le_of_ble_eq_true rfl) ⟨Nat.zero_le _, Nat.zero_le _⟩ dX10_plan_30) (fun r7 pr7 => ?_)
      replace pr7 : ((r7.toInt = 1 ∧ z5.toInt ≤ z4.toInt ∧ z4.toInt ≤ z6.toInt) ∨ (r7.toInt = 0 ∧ (z4.toInt < z5.toInt ∨ z6.toInt < z4.toInt))) := pr7
      refine lv_if_ne (tgt := 39) hx hb dX10_plan_33 (by decide) (fun c8 => ?_) (fun c8 => ?_)
      · skip
        have ic8 := tn_ne rfl kI_0 c8
        refine lv_aload_n hx hb dX10_plan_39 rfl (lv_at hl 0 rfl) ?_
        refine mc_getn E hG t0 ff_X10_9 dX10_plan_40 (fun oa9 hoa9 => ?_)
        refine lv_iconst (v := 5) hx hb dX10_plan_43 (by decide) ?_
        refine mc_naldM E hG hoa9 hG.2.2.1 (t_in (by decide) (by decide)) dX10_plan_44 (fun z10 lz10 uz10 qz10 wz10 => ?_)
        have lz10 : 0 ≤ z10.toInt := lz10
        have uz10 : z10.toInt ≤ 8 := uz10
        have wz10 : z10 = FM G 2 5 := wz10 rfl
        have cz10 : z10.toInt = (FM G 2 5).toInt := by rw [wz10]
        refine lv_bipush (v := 8) hx hb dX10_plan_45 (by decide) ?_
        refine lv_icmp_ne (tgt := 53) hx hb dX10_plan_47 (by decide) (fun c11 => ?_) (fun c11 => ?_)
        · skip
          have ic11 := tn_ne rfl kI_8 c11
          refine lv_aload_n hx hb dX10_plan_53 rfl (lv_at hl 0 rfl) ?_
          refine mc_getn E hG t0 ff_X10_9 dX10_plan_54 (fun oa12 hoa12 => ?_)
          refine lv_bipush (v := 6) hx hb dX10_plan_57 (by decide) ?_
          refine lv_iconst (v := 2) hx hb dX10_plan_59 (by decide) ?_
          refine lv_aload_n hx hb dX10_plan_60 rfl (lv_at hl 0 rfl) ?_
          refine mc_getn E hG t0 ff_X10_9 dX10_plan_61 (fun oa13 hoa13 => ?_)
          refine lv_iconst (v := 5) hx hb dX10_plan_64 (by decide) ?_
          refine mc_naldM E hG hoa13 hG.2.2.1 (t_in (by decide) (by decide)) dX10_plan_65 (fun z14 lz14 uz14 qz14 wz14 => ?_)
          have lz14 : 0 ≤ z14.toInt := lz14
          have uz14 : z14.toInt ≤ 8 := uz14
          have wz14 : z14 = FM G 2 5 := wz14 rfl
          have cz14 : z14.toInt = (FM G 2 5).toInt := by rw [wz14]
          refine lv_imul hx hb dX10_plan_66 ?_
          refine lv_topi (fun z15 ez15 => ?_)
          have tz15 := tn_mul ez15 kI_2 rfl (by omega) (by omega)
          refine lv_iadd hx hb dX10_plan_67 ?_
          refine lv_topi (fun z16 ez16 => ?_)
          have tz16 := tn_add ez16 kI_6 rfl (by omega) (by omega)
          refine lv_iload_n hx hb dX10_plan_68 rfl (lv_at hl 1 rfl) ?_
          refine mc_nast E hG hoa12 hG.2.2.1 (qX_nk (mCu_20 hcu) (tr_pl (by omega) (by omega))) (t_in (by omega) (by omega)) (nR_ev (j := (FM G 2 5).toInt) (by omega) (by omega) (by omega)) (t_any1 _) (t_any2 _) dX10_plan_69 (fun H locs hG => ?_)
          refine lv_aload_n hx hb dX10_plan_70 rfl (lv_at hl 0 rfl) ?_
          refine mc_getn E hG t0 ff_X10_9 dX10_plan_71 (fun oa17 hoa17 => ?_)
          refine lv_bipush (v := 7) hx hb dX10_plan_74 (by decide) ?_
          refine lv_iconst (v := 2) hx hb dX10_plan_76 (by decide) ?_
          refine lv_aload_n hx hb dX10_plan_77 rfl (lv_at hl 0 rfl) ?_
          refine mc_getn E hG t0 ff_X10_9 dX10_plan_78 (fun oa18 hoa18 => ?_)
          refine lv_iconst (v := 5) hx hb dX10_plan_81 (by decide) ?_
          refine mc_naldM E hG hoa18 hG.2.2.1 (t_in (by decide) (by decide)) dX10_plan_82 (fun z19 lz19 uz19 qz19 wz19 => ?_)
          have lz19 : 0 ≤ z19.toInt := lz19
          have uz19 : z19.toInt ≤ 8 := uz19
          have wz19 : z19 = FM G 2 5 := wz19 rfl
          have cz19 : z19.toInt = (FM G 2 5).toInt := by rw [wz19]
          refine lv_imul hx hb dX10_plan_83 ?_
          refine lv_topi (fun z20 ez20 => ?_)
          have tz20 := tn_mul ez20 kI_2 rfl (by omega) (by omega)
          refine lv_iadd hx hb dX10_plan_84 ?_
          refine lv_topi (fun z21 ez21 => ?_)
          have tz21 := tn_add ez21 kI_7 rfl (by omega) (by omega)
          refine lv_iload_n hx hb dX10_plan_85 rfl (lv_at hl 2 rfl) ?_
          refine mc_nast E hG hoa17 hG.2.2.1 (qX_nk (mCu_20 hcu) (tr_pl (by omega) (by omega))) (t_in (by omega) (by omega)) (nR_od (j := (FM G 2 5).toInt) (by omega) (by omega) (by omega)) (by omega) (by omega) dX10_plan_86 (fun H locs hG => ?_)
          refine lv_aload_n hx hb dX10_plan_87 rfl (lv_at hl 0 rfl) ?_
          refine mc_getn E hG t0 ff_X10_9 dX10_plan_88 (fun oa22 hoa22 => ?_)
          refine lv_iconst (v := 5) hx hb dX10_plan_91 (by decide) ?_
          refine lv_dup2_11 hx hb dX10_plan_92 rfl rfl ?_
          refine mc_naldM E hG hoa22 hG.2.2.1 (t_in (by decide) (by decide)) dX10_plan_93 (fun z23 lz23 uz23 qz23 wz23 => ?_)
          have lz23 : 0 ≤ z23.toInt := lz23
          have uz23 : z23.toInt ≤ 8 := uz23
          have wz23 : z23 = FM G 2 5 := wz23 rfl
          have cz23 : z23.toInt = (FM G 2 5).toInt := by rw [wz23]
          refine lv_iconst (v := 1) hx hb dX10_plan_94 (by decide) ?_
          refine lv_iadd hx hb dX10_plan_95 ?_
          refine lv_topi (fun z24 ez24 => ?_)
          have tz24 := tn_add ez24 rfl kI_1 (by omega) (by omega)
          refine mc_nastM E hG hoa22 hG.2.2.1 (qX_nk (mCu_20 hcu) rfl) (t_in (by decide) (by decide)) (lo := 0) (hi := 8) rfl (by omega) (by omega) dX10_plan_96 (fun H locs hG => ?_)
          have E := E.fm (M := up2 (FM G) 2 5 z24)
          replace hG : mGH (kM G (up2 (FM G) 2 5 z24)) (σ, 2, qX (upA a 2 ta)) s H locs := hG
          refine lv_aload_n hx hb dX10_plan_97 rfl (lv_at hl 0 rfl) ?_
          refine mc_getn E hG t0 ff_X10_9 dX10_plan_98 (fun oa26 hoa26 => ?_)
          refine lv_iconst (v := 5) hx hb dX10_plan_101 (by decide) ?_
          refine mc_naldM E hG hoa26 hG.2.2.1 (t_in (by decide) (by decide)) dX10_plan_102 (fun z27 lz27 uz27 qz27 wz27 => ?_)
          have lz27 : 0 ≤ z27.toInt := lz27
          have uz27 : z27.toInt ≤ 8 := uz27
          have wz27 : z27 = FM (kM G (up2 (FM G) 2 5 z24)) 2 5 := wz27 rfl
          have cz27 : z27.toInt = (FM (kM G (up2 (FM G) 2 5 z24)) 2 5).toInt := by rw [wz27]
          exact mc_kretM (G := G) (M := (up2 (FM G) 2 5 z24)) E hr hlk hG rfl rfl ⟨ta, rfl, rfl, Or.inr (Or.inr (Or.inr (Or.inr ⟨by omega, by omega, by omega, by omega, (by rw [wz27]; show up2 (FM G) 2 5 z24 2 5 = _; rw [up2_at, ez24, wz23]), (by rw [ez24, wz23])⟩)))⟩ dX10_plan_103
        · skip
          have ic11 := tn_eq rfl kI_8 c11
          refine lv_bipush (v := -4) hx hb dX10_plan_50 (by decide) ?_
          exact mc_kretM (G := G) (M := (FM G)) E hr hlk hG rfl rfl ⟨ta, rfl, rfl, Or.inr (Or.inr (Or.inr (Or.inl ⟨by omega, rfl, rfl, by omega, by omega, by omega⟩)))⟩ dX10_plan_52
      · skip
        have ic8 := tn_eq rfl kI_0 c8
        refine lv_bipush (v := -2) hx hb dX10_plan_36 (by decide) ?_
        exact mc_kretM (G := G) (M := (FM G)) E hr hlk hG rfl rfl ⟨ta, rfl, rfl, Or.inr (Or.inr (Or.inl ⟨by omega, rfl, rfl, by omega, by omega⟩))⟩ dX10_plan_38
    · skip
      have ic3 := tn_eq rfl kI_0 c3
      refine lv_iconst (v := -1) hx hb dX10_plan_22 (by decide) ?_
      exact mc_kretM (G := G) (M := (FM G)) E hr hlk hG rfl rfl ⟨ta, rfl, rfl, Or.inr (Or.inl ⟨by omega, rfl, rfl, by omega⟩)⟩ dX10_plan_23
  · skip
    have ic1 := tn_eq rfl kI_m1 c1
    refine lv_aload_n hx hb dX10_plan_5 rfl (lv_at hl 0 rfl) ?_
    refine mc_getn E hG t0 ff_X10_9 dX10_plan_6 (fun oa28 hoa28 => ?_)
    refine lv_iconst (v := 5) hx hb dX10_plan_9 (by decide) ?_
    refine lv_iconst (v := 0) hx hb dX10_plan_10 (by decide) ?_
    refine mc_nastM E hG hoa28 hG.2.2.1 (qX_nk (mCu_20 hcu) rfl) (t_in (by decide) (by decide)) (lo := 0) (hi := 8) rfl (by decide) (by decide) dX10_plan_11 (fun H locs hG => ?_)
    have E := E.fm (M := up2 (FM G) 2 5 (0 : Int32))
    replace hG : mGH (kM G (up2 (FM G) 2 5 (0 : Int32))) (σ, 2, qX (upA a 2 ta)) s H locs := hG
    refine lv_iconst (v := 0) hx hb dX10_plan_12 (by decide) ?_
    exact mc_kretM (G := G) (M := (up2 (FM G) 2 5 (0 : Int32))) E hr hlk hG rfl rfl ⟨ta, rfl, rfl, Or.inl ⟨by omega, rfl, rfl⟩⟩ dX10_plan_13


def LTx (G : tG) (ta : Nat → Int32) (x1 r : Int32) (t : Nat → Int32) (W : mF) : Prop := t = ta ∧ ((¬ (32 ≤ x1.toInt ∧ x1.toInt ≤ 126) ∧ r = -2 ∧ W = FM G) ∨ ((32 ≤ x1.toInt ∧ x1.toInt ≤ 126) ∧ (FM G 1 25).toInt = 120 ∧ r = -4 ∧ W = FM G) ∨ ((32 ≤ x1.toInt ∧ x1.toInt ≤ 126) ∧ (FM G 1 25).toInt ≤ 119 ∧ r = FM G 1 25 + 1 ∧ W = up2 (up2 (FM G) 15 (FM G 1 25).toNatClampNeg x1) 1 25 (FM G 1 25 + 1)))
set_option maxHeartbeats 4000000 in
set_option maxRecDepth 100000 in
theorem x_X10_letter (l : Launch) (G : tG) (σ : Nat → Nat) (a : Nat → Option (Nat → Int32)) (ta : Nat → Int32) (h0 : Nat) (x1 : Int32) (t0 : σ h0 = 1) (hIa : TInv ta) : Met l yX10_letter (.code yX10_letter cX10_letter 2 (some .int) :: tWS) (tRm 1 25) (va_Pc [.ref h0, .int x1] (mPre G (σ, 2, qX (upA a 2 ta)))) (mQM G (σ, 2, qX (upA a 2 ta)) (fun r Z W => ∃ t : Nat → Int32, Z = (σ, 2, qX (upA a 2 t)) ∧ LTx G ta x1 r t W)) 0 0 (mA (σ, 2, qX (upA a 2 ta))) := by
  refine mc_met (by decide) (Nat.le_of_ble_eq_true rfl) ?_
  intro p e s m below meth c E hr hlk hG ls hl
  have hl : lv_has ls 2 [(0, .ref h0), (1, .int x1)] := hl
  have hx := E.1
  have hb := E.2.1
  obtain ⟨H, eH⟩ : ∃ H, H = s.heap := ⟨_, rfl⟩
  obtain ⟨locs, eL⟩ : ∃ x : List Loc, x = [] := ⟨_, rfl⟩
  have hG : mGH G (σ, 2, qX (upA a 2 ta)) s H locs := by rw [eH, eL]; exact hG
  suffices hW : W p l e (tRm 1 25) s m ([.ref h0, .int x1] : List Value).toArray below meth c H locs 0 0 (MQ below (mQM G (σ, 2, qX (upA a 2 ta)) (fun r Z W => ∃ t : Nat → Int32, Z = (σ, 2, qX (upA a 2 t)) ∧ LTx G ta x1 r t W)) ([.ref h0, .int x1] : List Value).toArray s 0 0 (mA (σ, 2, qX (upA a 2 ta)))) (F0 m 0 ls []) by subst eH; subst eL; exact hW
  clear eH eL
  have hcu : mCu 2 := hG.2.2.1
  have hI := hIa
  refine lv_iload_n hx hb dX10_letter_0 rfl (lv_at hl 1 rfl) ?_
  refine lv_i2l hx hb dX10_letter_1 rfl ?_
  refine lv_topl (fun z1 ez1 => ?_)
  have tz1 := tl_i2l ez1
  refine lv_ldc2 (v := 32) hx hb E.2.2.2.1 (E.2.2.2.2.1 _ (t_w7 233 rfl rfl)) dX10_letter_2 ?_
  refine lv_topl (fun z2 ez2 => ?_)
  have tz2 : z2.toInt = 32 := by rw [ez2]; decide
  refine lv_ldc2 (v := 126) hx hb E.2.2.2.1 (E.2.2.2.2.1 _ (t_w7 234 rfl rfl)) dX10_letter_5 ?_
  refine lv_topl (fun z3 ez3 => ?_)
  have tz3 : z3.toInt = 126 := by rw [ez3]; decide
  refine tc_callp (mc_runS (As := [.long z1, .long z2, .long z3]) (rest := []) E hG (c_X10_in l G (σ, 2, qX (upA a 2 ta)) z1 z2 z3) ks_X10_in ml_X10_87 ⟨rfl, rfl, Nat.le_of_ble_eq_true rfl, Nat.le_of_ble_eq_true rfl⟩ rfl hl.1 rfl (Nat.le_of_ble_eq_true rfl) ⟨Nat.zero_le _, Nat.zero_le _⟩ dX10_letter_8) (fun r4 pr4 => ?_)
  replace pr4 : ((r4.toInt = 1 ∧ z2.toInt ≤ z1.toInt ∧ z1.toInt ≤ z3.toInt) ∨ (r4.toInt = 0 ∧ (z1.toInt < z2.toInt ∨ z3.toInt < z1.toInt))) := pr4
  refine lv_if_ne (tgt := 17) hx hb dX10_letter_11 (by decide) (fun c5 => ?_) (fun c5 => ?_)
  · skip
    have ic5 := tn_ne rfl kI_0 c5
    refine lv_aload_n hx hb dX10_letter_17 rfl (lv_at hl 0 rfl) ?_
    refine mc_getiM E hG t0 mi_340 rfl dX10_letter_18 (fun z6 lz6 uz6 wz6 => ?_)
    have hlz6 : z6.toInt = (FM G 1 25).toInt := by rw [wz6]
    refine lv_bipush (v := 120) hx hb dX10_letter_21 (by decide) ?_
    refine lv_icmp_ne (tgt := 29) hx hb dX10_letter_23 (by decide) (fun c7 => ?_) (fun c7 => ?_)
    · skip
      have ic7 := tn_ne rfl kI_120 c7
      refine lv_aload_n hx hb dX10_letter_29 rfl (lv_at hl 0 rfl) ?_
      refine mc_getr E hG t0 mr_54 dX10_letter_30 (fun oa8 hoa8 => ?_)
      refine lv_aload_n hx hb dX10_letter_33 rfl (lv_at hl 0 rfl) ?_
      refine mc_getiM E hG t0 mi_340 rfl dX10_letter_34 (fun z9 lz9 uz9 wz9 => ?_)
      have hlz9 : z9.toInt = (FM G 1 25).toInt := by rw [wz9]
      refine lv_iload_n hx hb dX10_letter_37 rfl (lv_at hl 1 rfl) ?_
      refine mc_iastM E hG hoa8 ma_15 (qX_nc (a := upA a 2 ta) (c := 15) (k := z9.toNatClampNeg) (by unfold mCu; decide) (by omega)) (t_in (by omega) (by omega)) (by omega) (by omega) dX10_letter_38 (fun H locs hG => ?_)
      obtain ⟨M1, eM1⟩ : ∃ M : mF, M = up2 (FM G) 15 z9.toNatClampNeg x1 := ⟨_, rfl⟩
      rw [← eM1] at hG
      have E := E.fm (M := M1)
      refine lv_aload_n hx hb dX10_letter_39 rfl (lv_at hl 0 rfl) ?_
      refine lv_dup hx hb dX10_letter_40 rfl ?_
      refine mc_getiM E hG t0 mi_340 rfl dX10_letter_41 (fun z10 lz10 uz10 wz10 => ?_)
      have wz10 : z10 = FM G 1 25 := by rw [wz10]; show M1 1 25 = _; rw [eM1]; exact up2_ne (by omega)
      have hlz10 : z10.toInt = (FM G 1 25).toInt := by rw [wz10]
      refine lv_iconst (v := 1) hx hb dX10_letter_44 (by decide) ?_
      refine lv_iadd hx hb dX10_letter_45 ?_
      refine lv_topi (fun z11 ez11 => ?_)
      have tz11 := tn_add ez11 rfl kI_1 (by omega) (by omega)
      refine mc_putM (k := 25) E hG t0 fq_X10_340 rfl (qX_nc (a := upA a 2 ta) (c := 1) (k := 25) (by unfold mCu; decide) (by omega)) (by omega) (by omega) rfl rfl dX10_letter_46 (fun H locs hG => ?_)
      obtain ⟨M2, eM2⟩ : ∃ M : mF, M = up2 M1 1 25 z11 := ⟨_, rfl⟩
      replace hG : mGH (kM G (up2 M1 1 25 z11)) (σ, 2, qX (upA a 2 ta)) s H locs := hG
      rw [← eM2] at hG
      have E := E.f2 (M' := M2)
      refine lv_aload_n hx hb dX10_letter_49 rfl (lv_at hl 0 rfl) ?_
      refine mc_getiM E hG t0 mi_340 rfl dX10_letter_50 (fun z13 lz13 uz13 wz13 => ?_)
      exact mc_kretM (G := G) (M := M2) E hr hlk hG rfl rfl ⟨ta, rfl, rfl, Or.inr (Or.inr ⟨by omega, by omega, by rw [wz13, eM2]; show up2 M1 1 25 z11 1 25 = _; rw [up2_at, ez11, wz10], by rw [eM2, eM1, ez11, wz10, wz9]⟩)⟩ dX10_letter_53
    · skip
      have ic7 := tn_eq rfl kI_120 c7
      refine lv_bipush (v := -4) hx hb dX10_letter_26 (by decide) ?_
      exact mc_kretM (G := G) (M := FM G) E hr hlk hG rfl rfl ⟨ta, rfl, rfl, Or.inr (Or.inl ⟨by omega, by omega, rfl, rfl⟩)⟩ dX10_letter_28
  · skip
    have ic5 := tn_eq rfl kI_0 c5
    refine lv_bipush (v := -2) hx hb dX10_letter_14 (by decide) ?_
    exact mc_kretM (G := G) (M := FM G) E hr hlk hG rfl rfl ⟨ta, rfl, rfl, Or.inl ⟨by omega, rfl, rfl⟩⟩ dX10_letter_16


set_option maxHeartbeats 4000000 in
set_option maxRecDepth 100000 in
theorem x_X10_copies (l : Launch) (G : tG) (σ : Nat → Nat) (cu : Nat) (a : Nat → Option (Nat → Int32)) (γ1 γ2 : Nat) (ta : Nat → Int32) (h0 : Nat) (h1 : Nat) (t0 : σ h0 = γ1) (t1 : σ h1 = γ2) (hc1 : mCu γ1) (hc2 : mCu γ2) (h12 : ¬ γ1 = γ2) (ha : a γ1 = some ta) (g1 : γ1 = 2 ∨ γ1 = 3) (g2 : γ2 = 2 ∨ γ2 = 3) : Met l yX10_copies (.code yX10_copies cX10_copies 3 none :: tWS) (tRm 0 0) (va_Pc [.ref h0, .ref h1] (mPre G (σ, cu, qX a))) (mQvX (kM G (up2 (FM G) γ2 5 (FM G γ1 5))) (σ, cu, qX a) (fun Z => Z = (σ, cu, qX (upA a γ2 ta)))) 0 0 (mA (σ, cu, qX a)) := by
  refine mc_met (by decide) (Nat.le_of_ble_eq_true rfl) ?_
  intro p e s m below meth c E hr hlk hG ls hl
  have hl : lv_has ls 3 [(0, .ref h0), (1, .ref h1)] := hl
  have hx := E.1
  have hb := E.2.1
  obtain ⟨H, eH⟩ : ∃ H, H = s.heap := ⟨_, rfl⟩
  obtain ⟨locs, eL⟩ : ∃ x : List Loc, x = [] := ⟨_, rfl⟩
  have hG : mGH G (σ, cu, qX a) s H locs := by rw [eH, eL]; exact hG
  suffices hW : W p l e (tRm 0 0) s m ([.ref h0, .ref h1] : List Value).toArray below meth c H locs 0 0 (MQ below (mQvX (kM G (up2 (FM G) γ2 5 (FM G γ1 5))) (σ, cu, qX a) (fun Z => Z = (σ, cu, qX (upA a γ2 ta)))) ([.ref h0, .ref h1] : List Value).toArray s 0 0 (mA (σ, cu, qX a))) (F0 m 0 ls []) by subst eH; subst eL; exact hW
  clear eH eL
  obtain ⟨Fa, hG⟩ := mGain hG
  have hG : mGH (kM G (cpM (FM G) γ1 γ2 (0 : Int32).toInt)) (σ, cu, kO (PD γ2) (qX a) Fa) s H locs := hG (PD γ2)
  have J2 : ∀ (n2 : Nat) (F : mF) (H : Heap) (locs : List Loc) (ls : Array Slot) (v2 : Int32), mGH (kM G (cpM (FM G) γ1 γ2 v2.toInt)) (σ, cu, kO (PD γ2) (qX a) F) s H locs → lv_has ls 3 [(0, .ref h0), (1, .ref h1), (2, .int v2)] → 0 ≤ v2.toInt → v2.toInt ≤ 934 → (∀ k : Nat, (k : Int) < v2.toInt → tr k = true → F γ2 k = ta k) → (934 - v2.toInt).toNat < n2 → W p l e (tRm 0 0) s m ([.ref h0, .ref h1] : List Value).toArray below meth c H locs 0 0 (MQ below (mQvX (kM G (up2 (FM G) γ2 5 (FM G γ1 5))) (σ, cu, qX a) (fun Z => Z = (σ, cu, qX (upA a γ2 ta)))) ([.ref h0, .ref h1] : List Value).toArray s 0 0 (mA (σ, cu, qX a))) (F0 m 2 ls []) := by
    intro n2
    induction n2 with
    | zero => intro F H locs ls v2 hG hl b2 c2 hex2 hn2; exact absurd hn2 (Nat.not_lt_zero _)
    | succ n2 ih2 =>
      intro F H locs ls v2 hG hl b2 c2 hex2 hn2
      have E := E.fm (M := cpM (FM G) γ1 γ2 v2.toInt)
      refine lv_iload_n hx hb dX10_copies_2 rfl (lv_at hl 2 rfl) ?_
      refine lv_sipush (v := 934) hx hb dX10_copies_3 (by decide) ?_
      refine lv_icmp_ge (tgt := 21) hx hb dX10_copies_6 (by decide) (fun c1 => ?_) (fun c1 => ?_)
      · skip
        have ic1 := tn_le kI_934 rfl c1
        have hG := cp_end hc2 (fun k h1 h2 => hex2 k (by omega) h2) hG
        have E : tE (kM G (up2 (FM G) γ2 5 (FM G γ1 5))) p s m c _ _ _ _ := E
        have e9 : cpM (FM G) γ1 γ2 v2.toInt = up2 (FM G) γ2 5 (FM G γ1 5) := by unfold cpM; rw [if_pos (by omega)]
        rw [e9] at hG
        exact mc_vretM E hr hlk hG rfl rfl dX10_copies_21
      · skip
        have ic1 := tn_nle kI_934 rfl c1
        refine lv_aload_n hx hb dX10_copies_9 rfl (lv_at hl 1 rfl) ?_
        refine lv_iload_n hx hb dX10_copies_10 rfl (lv_at hl 2 rfl) ?_
        refine lv_aload_n hx hb dX10_copies_11 rfl (lv_at hl 0 rfl) ?_
        refine lv_iload_n hx hb dX10_copies_12 rfl (lv_at hl 2 rfl) ?_
        refine mc_naldM E hG t0 hc1 (t_in (by omega) (by omega)) dX10_copies_13 (fun z2 lz2 uz2 qz2 kz2 => ?_)
        have h5z : v2.toInt = 5 → z2 = FM G γ1 5 := fun q => by
          have e5 : v2.toNatClampNeg = 5 := by show v2.toInt.toNat = 5; omega
          rw [e5] at kz2
          rw [kz2 (by rcases g1 with w | w <;> rw [w] <;> rfl)]
          show cpM (FM G) γ1 γ2 v2.toInt γ1 5 = FM G γ1 5
          unfold cpM
          rw [if_neg (by omega)]
        have wz2 : tr v2.toNatClampNeg = true → z2 = ta v2.toNatClampNeg := fun h => qz2 _ ((kO_out (PD_n h12)).trans (qX_at hc1 ha h))
        refine mc_nastC E hG t1 hc2 (t_in (by omega) (by omega)) (lo := (nR v2.toNatClampNeg).1) (hi := (nR v2.toNatClampNeg).2) rfl lz2 uz2 h5z dX10_copies_14 (fun H locs hG => ?_)
        have hG := kO_set PD_c hG
        obtain ⟨F3, eF3⟩ : ∃ Z : mF, Z = up2 F γ2 v2.toNatClampNeg z2 := ⟨_, rfl⟩
        rw [← eF3] at hG
        obtain ⟨z4, ez4⟩ : ∃ y : Int32, y = v2 + (1) := ⟨_, rfl⟩
        refine lv_iinc (v := z4) (lv' := [(2, .int z4), (0, .ref h0), (1, .ref h1)]) hx hb dX10_copies_15 hl (k := 2) rfl (by rw [ez4]; rfl) (by decide) rfl (fun ls hl => ?_)
        have tz4 := tn_add ez4 rfl kI_1 (by omega) (by omega)
        rw [show v2.toInt + 1 = z4.toInt by omega] at hG
        refine lv_goto (tgt := 2) hx hb dX10_copies_18 (by decide) ?_
        have hQ : ∀ k : Nat, (k : Int) < z4.toInt → tr k = true → F3 γ2 k = ta k := fun k h1 h2 => by
          have hi : v2.toNatClampNeg = v2.toInt.toNat := rfl
          rw [eF3]
          by_cases q : k = v2.toNatClampNeg
          · subst q; rw [up2_at]; exact wz2 h2
          · rw [up2_ne (fun y => q y.2)]; exact hex2 k (by omega) h2
        exact ih2 F3 H locs ls z4 hG (lv_sub hl [1, 2, 0] rfl) (by omega) (by omega) (by exact hQ) (by omega)
  refine lv_iconst (v := 0) hx hb dX10_copies_0 (by decide) ?_
  refine lv_istore_n (lv' := [(2, .int 0), (0, .ref h0), (1, .ref h1)]) hx hb dX10_copies_1 rfl hl (by decide) rfl (fun ls hl => ?_)
  have hQ : ∀ k : Nat, (k : Int) < (0 : Int32).toInt → tr k = true → Fa γ2 k = ta k := fun k h _ => by have k0 := kI_0; omega
  exact J2 ((934 - (0 : Int32).toInt).toNat + 1) Fa H locs ls (0 : Int32) hG (lv_sub hl [1, 2, 0] rfl) (by decide) (by decide) (by exact hQ) (Nat.lt_succ_self _)


set_option maxHeartbeats 4000000 in
set_option maxRecDepth 100000 in
theorem x_X10_image (l : Launch) (G : tG) (σ : Nat → Nat) (a : Nat → Option (Nat → Int32)) (ta : Nat → Int32) (h0 : Nat) (t0 : σ h0 = 1) (ha : a 2 = some ta) (hIa : TInv ta) : Met l yX10_image (.code yX10_image cX10_image 1 (some .int) :: tWS) (tRm 3 68) (va_Pc [.ref h0] (mPre G (σ, 2, qX a))) (mQM G (σ, 2, qX a) (fun r Z W => Z = (σ, 2, qX (upA a 3 ta)) ∧ W = up2 (up2 (FM G) 1 5 1) 3 5 (FM G 2 5) ∧ r.toInt = cB ta 24)) 0 0 (mA (σ, 2, qX a)) := by
  refine mc_met (by decide) (Nat.le_of_ble_eq_true rfl) ?_
  intro p e s m below meth c E hr hlk hG ls hl
  have hl : lv_has ls 1 [(0, .ref h0)] := hl
  have hx := E.1
  have hb := E.2.1
  obtain ⟨H, eH⟩ : ∃ H, H = s.heap := ⟨_, rfl⟩
  obtain ⟨locs, eL⟩ : ∃ x : List Loc, x = [] := ⟨_, rfl⟩
  have hG : mGH G (σ, 2, qX a) s H locs := by rw [eH, eL]; exact hG
  suffices hW : W p l e (tRm 3 68) s m ([.ref h0] : List Value).toArray below meth c H locs 0 0 (MQ below (mQM G (σ, 2, qX a) (fun r Z W => Z = (σ, 2, qX (upA a 3 ta)) ∧ W = up2 (up2 (FM G) 1 5 1) 3 5 (FM G 2 5) ∧ r.toInt = cB ta 24)) ([.ref h0] : List Value).toArray s 0 0 (mA (σ, 2, qX a))) (F0 m 0 ls []) by subst eH; subst eL; exact hW
  clear eH eL
  have hcu : mCu 2 := mu_2
  refine lv_aload_n hx hb dX10_image_0 rfl (lv_at hl 0 rfl) ?_
  refine lv_iconst (v := 1) hx hb dX10_image_1 (by decide) ?_
  refine mc_putM (k := 5) E hG t0 fq_X10_449 rfl (qn (by unfold mCu; decide) (by decide)) (by decide) (by decide) (t_nz (by decide) (by decide)).1 (t_nz (by decide) (by decide)).2 dX10_image_2 (fun H locs hG => ?_)
  have E := E.fm (M := up2 (FM G) 1 5 1)
  refine lv_aload_n hx hb dX10_image_5 rfl (lv_at hl 0 rfl) ?_
  refine mc_getn E hG t0 ff_X10_9 dX10_image_6 (fun oa1 hoa1 => ?_)
  refine lv_aload_n hx hb dX10_image_9 rfl (lv_at hl 0 rfl) ?_
  refine mc_getr E hG t0 mr_18 dX10_image_10 (fun oa2 hoa2 => ?_)
  refine mc_callvXM hG (mc_runS (As := [.ref oa1, .ref oa2]) (rest := []) E hG (x_X10_copies l _ σ 2 a 2 3 ta oa1 oa2 hoa1 hoa2 mu_2 mu_3 (by decide) ha (Or.inl rfl) (Or.inr rfl)) ks_X10_copies ml_X10_401 ⟨rfl, rfl, Nat.le_of_ble_eq_true rfl, Nat.le_of_ble_eq_true rfl⟩ rfl hl.1 rfl (Nat.le_of_ble_eq_true rfl) ⟨Nat.zero_le _, Nat.zero_le _⟩ dX10_image_13) (fun Z H locs eZ pZ hG => ?_)
  subst pZ
  clear eZ
  have e9 : FM (kM G (up2 (FM G) 1 5 1)) 2 5 = FM G 2 5 := (show up2 (FM G) 1 5 1 2 5 = FM G 2 5 from up2_ne (by decide))
  replace hG : mGH (kM G (up2 (up2 (FM G) 1 5 1) 3 5 (FM (kM G (up2 (FM G) 1 5 1)) 2 5))) (σ, 2, qX (upA a 3 ta)) s H locs := hG
  rw [e9] at hG
  have E := E.f2 (M' := up2 (up2 (FM G) 1 5 1) 3 5 (FM G 2 5))
  refine lv_aload_n hx hb dX10_image_16 rfl (lv_at hl 0 rfl) ?_
  refine tc_callp (mc_runV (As := []) (rest := []) E hG (c_X10_many2 l _ (σ, 2, qX (upA a 3 ta)) h0 t0 ta (qX_TI mu_2 ((upA_ne (by decide)).trans ha)) hIa) t0 rfl kv_X10_many ml_X10_405 ⟨rfl, rfl, Nat.le_of_ble_eq_true rfl, Nat.le_of_ble_eq_true rfl⟩ rfl hl.1 rfl (Nat.le_of_ble_eq_true rfl) ⟨Nat.zero_le _, Nat.zero_le _⟩ dX10_image_17) (fun r3 pr3 => ?_)
  exact mc_kretM (G := G) (M := up2 (up2 (FM G) 1 5 1) 3 5 (FM G 2 5)) (post := fun r Z W => Z = (σ, 2, qX (upA a 3 ta)) ∧ W = up2 (up2 (FM G) 1 5 1) 3 5 (FM G 2 5) ∧ r.toInt = cB ta 24) E hr hlk hG rfl rfl ⟨rfl, rfl, pr3.1⟩ dX10_image_20


set_option maxHeartbeats 4000000 in
set_option maxRecDepth 100000 in
theorem x_X10_undo (l : Launch) (G : tG) (σ : Nat → Nat) (a : Nat → Option (Nat → Int32)) (u : Nat → Int32) (h0 : Nat) (t0 : σ h0 = 1) (h3 : a 3 = some u) (hIu : TInv u) : Met l yX10_undo (.code yX10_undo cX10_undo 1 (some .int) :: tWS) (tRm 3 68) (va_Pc [.ref h0] (mPre G (σ, 2, qX a))) (mQM G (σ, 2, qX a) (fun r Z W => ((FM G 1 5).toInt = 0 ∧ r = -3 ∧ Z = (σ, 2, qX a) ∧ W = FM G) ∨ (¬ (FM G 1 5).toInt = 0 ∧ Z = (σ, 2, qX (upA a 2 u)) ∧ W = up2 (FM G) 2 5 (FM G 3 5) ∧ r.toInt = cB u 24))) 0 0 (mA (σ, 2, qX a)) := by
  refine mc_met (by decide) (Nat.le_of_ble_eq_true rfl) ?_
  intro p e s m below meth c E hr hlk hG ls hl
  have hl : lv_has ls 1 [(0, .ref h0)] := hl
  have hx := E.1
  have hb := E.2.1
  obtain ⟨H, eH⟩ : ∃ H, H = s.heap := ⟨_, rfl⟩
  obtain ⟨locs, eL⟩ : ∃ x : List Loc, x = [] := ⟨_, rfl⟩
  have hG : mGH G (σ, 2, qX a) s H locs := by rw [eH, eL]; exact hG
  suffices hW : W p l e (tRm 3 68) s m ([.ref h0] : List Value).toArray below meth c H locs 0 0 (MQ below (mQM G (σ, 2, qX a) (fun r Z W => ((FM G 1 5).toInt = 0 ∧ r = -3 ∧ Z = (σ, 2, qX a) ∧ W = FM G) ∨ (¬ (FM G 1 5).toInt = 0 ∧ Z = (σ, 2, qX (upA a 2 u)) ∧ W = up2 (FM G) 2 5 (FM G 3 5) ∧ r.toInt = cB u 24))) ([.ref h0] : List Value).toArray s 0 0 (mA (σ, 2, qX a))) (F0 m 0 ls []) by subst eH; subst eL; exact hW
  clear eH eL
  have hcu : mCu 2 := mu_2
  refine lv_aload_n hx hb dX10_undo_0 rfl (lv_at hl 0 rfl) ?_
  refine mc_getiM E hG t0 mi_449 rfl dX10_undo_1 (fun z1 lz1 uz1 qz1 => ?_)
  refine lv_if_ne (tgt := 10) hx hb dX10_undo_4 (by decide) (fun c2 => ?_) (fun c2 => ?_)
  · skip
    have ic2 := tn_ne rfl kI_0 c2
    refine lv_aload_n hx hb dX10_undo_10 rfl (lv_at hl 0 rfl) ?_
    refine mc_getr E hG t0 mr_18 dX10_undo_11 (fun oa3 hoa3 => ?_)
    refine lv_aload_n hx hb dX10_undo_14 rfl (lv_at hl 0 rfl) ?_
    refine mc_getn E hG t0 ff_X10_9 dX10_undo_15 (fun oa4 hoa4 => ?_)
    refine mc_callvXM hG (mc_runS (As := [.ref oa3, .ref oa4]) (rest := []) E hG (x_X10_copies l _ σ 2 a 3 2 u oa3 oa4 hoa3 hoa4 mu_3 mu_2 (by decide) h3 (Or.inr rfl) (Or.inl rfl)) ks_X10_copies ml_X10_401 ⟨rfl, rfl, Nat.le_of_ble_eq_true rfl, Nat.le_of_ble_eq_true rfl⟩ rfl hl.1 rfl (Nat.le_of_ble_eq_true rfl) ⟨Nat.zero_le _, Nat.zero_le _⟩ dX10_undo_18) (fun Z H locs eZ pZ hG => ?_)
    subst pZ
    clear eZ
    have E := E.fm (M := up2 (FM G) 2 5 (FM G 3 5))
    refine lv_aload_n hx hb dX10_undo_21 rfl (lv_at hl 0 rfl) ?_
    refine tc_callp (mc_runV (As := []) (rest := []) E hG (c_X10_many2 l _ (σ, 2, qX (upA a 2 u)) h0 t0 u (qX_TI mu_2 upA_at) hIu) t0 rfl kv_X10_many ml_X10_405 ⟨rfl, rfl, Nat.le_of_ble_eq_true rfl, Nat.le_of_ble_eq_true rfl⟩ rfl hl.1 rfl (Nat.le_of_ble_eq_true rfl) ⟨Nat.zero_le _, Nat.zero_le _⟩ dX10_undo_22) (fun r5 pr5 => ?_)
    exact mc_kretM (G := G) (M := up2 (FM G) 2 5 (FM G 3 5)) (post := fun r Z W => ((FM G 1 5).toInt = 0 ∧ r = -3 ∧ Z = (σ, 2, qX a) ∧ W = FM G) ∨ (¬ (FM G 1 5).toInt = 0 ∧ Z = (σ, 2, qX (upA a 2 u)) ∧ W = up2 (FM G) 2 5 (FM G 3 5) ∧ r.toInt = cB u 24)) E hr hlk hG rfl rfl (Or.inr ⟨fun q => ic2 (by rw [qz1]; exact q), rfl, rfl, pr5.1⟩) dX10_undo_25
  · skip
    have ic2 := tn_eq rfl kI_0 c2
    refine lv_bipush (v := -3) hx hb dX10_undo_7 (by decide) ?_
    exact mc_kretM (G := G) (M := FM G) (post := fun r Z W => ((FM G 1 5).toInt = 0 ∧ r = -3 ∧ Z = (σ, 2, qX a) ∧ W = FM G) ∨ (¬ (FM G 1 5).toInt = 0 ∧ Z = (σ, 2, qX (upA a 2 u)) ∧ W = up2 (FM G) 2 5 (FM G 3 5) ∧ r.toInt = cB u 24)) E hr hlk hG rfl rfl (Or.inl ⟨by rw [← qz1]; exact ic2, rfl, rfl, rfl⟩) dX10_undo_9

