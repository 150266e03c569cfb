/-! ===== the reference's instructions ===== -/
section MC
variable {p : Program} {l : Launch} {e : Env} {R : Room} {s : State} {m : MethodId} {args : Array Value} {below : List Frame} {meth : Method} {c : Code} {H : Heap} {locs : List Loc} {Q : State → Prop}
variable {cc : ByteArray} {pc : Nat} {ls : Array Slot} {rest st0 As : List Value} {a b t k index n : Nat} {G : tG} {own : String} {nL : Nat} {Y Y0 : mY} {lo hi : Int} {i : Int32} {cells slots : Nat} {y : MethodName} {bytes : ByteArray} {maxL : Nat} {ret : Option FieldType} {rm : Room} {Qc : Array Value → State → Outcome → State → Prop} {fr : Addr → Prop}
theorem mc_met {av : List Value} (hy : plainName y.cls = true) (hsl : (lg_sl av).length ≤ maxL)
    (body : ∀ p e s m below meth c, tE G p s m c av.toArray y.cls bytes maxL → meth.sig.returnType = ret → meth.locks = false → mGH G Y s s.heap [] → ∀ ls, lv_has ls maxL (lv_args 0 av) → W p l e rm s m av.toArray below meth c s.heap [] 0 0 (MQ below Qc av.toArray s 0 0 fr) (F0 m 0 ls [])) :
    Met l y (.code y bytes maxL ret :: tWS) rm (va_Pc av (mPre G Y)) Qc 0 0 fr := by
  refine Met.ofW (cc := bytes) (maxL := maxL) (ret := ret) hy rfl ?_
  intro p e s m args below meth c s₁ B hml hv
  obtain ⟨rfl, hT, hK, hO⟩ := hv
  have hl := lv_entry av (n := maxL) hsl
  rw [lg_entry_eq]
  exact body p e s m below meth c ⟨B.exec, B.bytes, hml, findClass_of_methodNamed B.named, fun w h => atoms_spec (ws := Cond.code y bytes maxL ret :: tWS) B.pre w (List.mem_cons_of_mem _ h), hK⟩ B.returns B.notSynchronized ⟨hT, va_S.rf, hO⟩ _ hl
theorem mc_iret (E : tE G p s m c args own cc nL) (hr : meth.sig.returnType = some .int) (hlk : meth.locks = false) (hG : mGH G Y s H locs) {post : Int32 → Prop} {v : Int32} (hq : post v) (hdg : decode cc pc = .ok (.ireturn, 1)) : W p l e R s m args below meth c H locs 0 0 (MQ below (mQi G Y post) args s 0 0 (mA Y)) (F0 m pc ls [.int v]) :=
  W.iret E.1 E.2.1 hr (fun t ht _ => ⟨⟨v, (), rfl, hq, (show TH G (mΓ G Y) t.heap by rw [ht]; exact hG.1)⟩, hG.2.1.F ht⟩) hG.2.1.2.2 hdg hlk
theorem mc_zret {ty : FieldType} (E : tE G p s m c args own cc nL) (hr : meth.sig.returnType = some ty) (hlk : meth.locks = false) (hG : mGH G Y s H locs) {post : Int32 → Prop} {v : Int32} (hn : narrow ty (.int v) = .int v) (hq : post v) (hdg : decode cc pc = .ok (.ireturn, 1)) : W p l e R s m args below meth c H locs 0 0 (MQ below (mQi G Y post) args s 0 0 (mA Y)) (F0 m pc ls [.int v]) :=
  W.zret E.1 E.2.1 hr hn (fun t ht _ => ⟨⟨v, (), rfl, hq, (show TH G (mΓ G Y) t.heap by rw [ht]; exact hG.1)⟩, hG.2.1.F ht⟩) hG.2.1.2.2 hdg hlk
theorem mc_lret (E : tE G p s m c args own cc nL) (hr : meth.sig.returnType = some .long) (hlk : meth.locks = false) (hG : mGH G Y s H locs) {post : Int64 → Prop} {v : Int64} (hq : post v) (hdg : decode cc pc = .ok (.lreturn, 1)) : W p l e R s m args below meth c H locs 0 0 (MQ below (mQl G Y post) args s 0 0 (mA Y)) (F0 m pc ls [.long v]) :=
  W.lret E.1 E.2.1 hr (fun t ht _ => ⟨⟨v, (), rfl, hq, (show TH G (mΓ G Y) t.heap by rw [ht]; exact hG.1)⟩, hG.2.1.F ht⟩) hG.2.1.2.2 hdg hlk
theorem mc_vret (E : tE G p s m c args own cc nL) (hr : meth.sig.returnType = none) (hlk : meth.locks = false) (hG : mGH G Y s H locs) (hdg : decode cc pc = .ok (.return_, 1)) : W p l e R s m args below meth c H locs 0 0 (MQ below (mQv G Y) args s 0 0 (mA Y)) (F0 m pc ls []) :=
  W.vret E.1 E.2.1 hr (fun t ht _ => ⟨⟨(), rfl, trivial, (show TH G (mΓ G Y) t.heap by rw [ht]; exact hG.1)⟩, hG.2.1.F ht⟩) hG.2.1.2.2 hdg hlk
theorem mA_eq (h : Y.1 = Y0.1) : mA Y = mA Y0 := by unfold mA; rw [h]
theorem mc_iretX {ty : FieldType} (E : tE G p s m c args own cc nL) (hr : meth.sig.returnType = some ty) (hlk : meth.locks = false) (hG : mGH G Y s H locs) (hY : Y.1 = Y0.1) {post : Int32 → mY → Prop} {v : Int32} (hn : narrow ty (.int v) = .int v) (hq : post v Y) (hdg : decode cc pc = .ok (.ireturn, 1)) : W p l e R s m args below meth c H locs 0 0 (MQ below (mQiX G Y0 post) args s 0 0 (mA Y0)) (F0 m pc ls [.int v]) := by
  have hS := hG.2.1
  rw [mA_eq hY] at hS
  exact W.zret E.1 E.2.1 hr hn (fun t ht _ => ⟨⟨v, Y, rfl, ⟨hY, hG.2.2.1, hq⟩, (show TH G (mΓ G Y) t.heap by rw [ht]; exact hG.1)⟩, hS.F ht⟩) hS.2.2 hdg hlk
theorem mc_lretX (E : tE G p s m c args own cc nL) (hr : meth.sig.returnType = some .long) (hlk : meth.locks = false) (hG : mGH G Y s H locs) (hY : Y.1 = Y0.1) {post : Int64 → mY → Prop} {v : Int64} (hq : post v Y) (hdg : decode cc pc = .ok (.lreturn, 1)) : W p l e R s m args below meth c H locs 0 0 (MQ below (mQlX G Y0 post) args s 0 0 (mA Y0)) (F0 m pc ls [.long v]) := by
  have hS := hG.2.1
  rw [mA_eq hY] at hS
  exact W.lret E.1 E.2.1 hr (fun t ht _ => ⟨⟨v, Y, rfl, ⟨hY, hG.2.2.1, hq⟩, (show TH G (mΓ G Y) t.heap by rw [ht]; exact hG.1)⟩, hS.F ht⟩) hS.2.2 hdg hlk
theorem mc_vretX (E : tE G p s m c args own cc nL) (hr : meth.sig.returnType = none) (hlk : meth.locks = false) (hG : mGH G Y s H locs) (hY : Y.1 = Y0.1) {post : mY → Prop} (hq : post Y) (hdg : decode cc pc = .ok (.return_, 1)) : W p l e R s m args below meth c H locs 0 0 (MQ below (mQvX G Y0 post) args s 0 0 (mA Y0)) (F0 m pc ls []) := by
  have hS := hG.2.1
  rw [mA_eq hY] at hS
  exact W.vret E.1 E.2.1 hr (fun t ht _ => ⟨⟨Y, rfl, ⟨hY, hG.2.2.1, hq⟩, (show TH G (mΓ G Y) t.heap by rw [ht]; exact hG.1)⟩, hS.F ht⟩) hS.2.2 hdg hlk
theorem mc_geti (E : tE G p s m c args RX10 cc nL) (hG : mGH G Y s H locs) (ha : Y.1 a = 1) (hF : mFi index k lo hi) (hdg : decode cc pc = .ok (.getfield index, 3))
    (kk : ∀ x : Int32, lo ≤ x.toInt → x.toInt ≤ hi → (∀ y, Y.2.2 1 k = some y → x = y) → W p l e R s m args below meth c H locs cells slots Q (F0 m (pc + 3) ls (.int x :: rest))) : W p l e R s m args below meth c H locs cells slots Q (F0 m pc ls (.ref a :: rest)) := by
  obtain ⟨hf, hd⟩ := hF
  refine tg_get E hG.1 (mΓ_at ha (by decide)) hf hdg (fun v hv => ?_)
  replace hv := hv.1
  unfold msv at hv
  rw [hd] at hv
  obtain ⟨x, rfl, h1, h2, h3⟩ := hv
  exact kk x h1 h2 h3
theorem mc_getr (E : tE G p s m c args RX10 cc nL) (hG : mGH G Y s H locs) (ha : Y.1 a = 1) (hF : mFr index k t) (hdg : decode cc pc = .ok (.getfield index, 3))
    (kk : ∀ b : Nat, Y.1 b = t → W p l e R s m args below meth c H locs cells slots Q (F0 m (pc + 3) ls (.ref b :: rest))) : W p l e R s m args below meth c H locs cells slots Q (F0 m pc ls (.ref a :: rest)) := by
  obtain ⟨hf, hd⟩ := hF
  refine tg_get E hG.1 (mΓ_at ha (by decide)) hf hdg (fun v hv => ?_)
  replace hv := hv.1
  unfold msv at hv
  rw [hd] at hv
  obtain ⟨b, rfl, h1⟩ := hv
  exact kk b h1
theorem mc_getn (E : tE G p s m c args RX10 cc nL) (hG : mGH G Y s H locs) (ha : Y.1 a = 1) (hF : tFf RX10 index 9 0) (hdg : decode cc pc = .ok (.getfield index, 3))
    (kk : ∀ b : Nat, Y.1 b = Y.2.1 → W p l e R s m args below meth c H locs cells slots Q (F0 m (pc + 3) ls (.ref b :: rest))) : W p l e R s m args below meth c H locs cells slots Q (F0 m pc ls (.ref a :: rest)) := by
  refine tg_get E hG.1 (mΓ_at ha (by decide)) hF hdg (fun v hv => ?_)
  obtain ⟨⟨b, rfl, h1⟩, -⟩ := hv
  exact kk b h1
theorem mc_putX (E : tE G p s m c args RX10 cc nL) (hG : mGH G Y s H locs) (ha : Y.1 a = 1) {ty : FieldType} (hF : mPi index k lo hi ty) {x : Int32} (h1 : lo ≤ x.toInt) (h2 : x.toInt ≤ hi) (hn : narrow ty (.int x) = .int x) (hfit : fits ty (.int x) = true) (hdg : decode cc pc = .ok (.putfield index, 3))
    (kk : ∀ (H1 : Heap) (locs1 : List Loc), mGH G (mSet Y 1 k (some x)) s H1 locs1 → W p l e R s m args below meth c H1 locs1 cells slots Q (F0 m (pc + 3) ls rest)) : W p l e R s m args below meth c H locs cells slots Q (F0 m pc ls (.int x :: .ref a :: rest)) := by
  obtain ⟨hf, hd, hm⟩ := hF
  refine tg_put E hG.1 (mΓ_at ha (by decide)) hf hn hfit hdg (fun H1 i z oq hat => kk H1 _ (hG.put ha (by decide) z oq (hat _ ⟨?_, mKn_no hm⟩ (fun j w hj h => ⟨msv.set (fun z => hj z.2) h.1, h.2⟩))))
  show msv _ 1 k _
  unfold msv
  rw [hd]
  exact ⟨x, rfl, h1, h2, fun y hy => by rw [mSet_at] at hy; cases hy; rfl⟩
theorem mc_put (E : tE G p s m c args RX10 cc nL) (hG : mGH G Y s H locs) (ha : Y.1 a = 1) {ty : FieldType} (hF : mPi index k lo hi ty) (hN : Y.2.2 1 k = none) {x : Int32} (h1 : lo ≤ x.toInt) (h2 : x.toInt ≤ hi) (hn : narrow ty (.int x) = .int x) (hfit : fits ty (.int x) = true) (hdg : decode cc pc = .ok (.putfield index, 3))
    (kk : ∀ (H1 : Heap) (locs1 : List Loc), mGH G Y s H1 locs1 → W p l e R s m args below meth c H1 locs1 cells slots Q (F0 m (pc + 3) ls rest)) : W p l e R s m args below meth c H locs cells slots Q (F0 m pc ls (.int x :: .ref a :: rest)) :=
  mc_putX E hG ha hF h1 h2 hn hfit hdg (fun H1 locs1 hG1 => kk H1 locs1 (hG1.le (mSet_none hN)))
/-- now = .. -/
theorem mc_putn (E : tE G p s m c args RX10 cc nL) (hG : mGH G Y s H locs) (ha : Y.1 a = 1) (hF : tFp RX10 index 9 0 (.array .int)) (hb : mCu (Y.1 b)) (hdg : decode cc pc = .ok (.putfield index, 3))
    (kk : ∀ (H1 : Heap) (locs1 : List Loc), mGH G (Y.1, Y.1 b, Y.2.2) s H1 locs1 → W p l e R s m args below meth c H1 locs1 cells slots Q (F0 m (pc + 3) ls rest)) : W p l e R s m args below meth c H locs cells slots Q (F0 m pc ls (.ref b :: .ref a :: rest)) := by
  refine tg_put E hG.1 (mΓ_at ha (by decide)) hF rfl rfl hdg (fun H1 i z oq hat => kk H1 _ ?_)
  obtain ⟨g1, g2, g3⟩ := hG
  refine ⟨mTH.mk (fun q hq => ?_), g2.put z oq (show Y.1 a ≠ 0 by rw [ha]; decide), hb, g3.2⟩
  show tAt G (mShp (Y.1 q), fun j v => msv (Y.1, Y.1 b, Y.2.2) (Y.1 q) j v ∧ mKn G (Y.1 q) j v) q H1
  have other : ∀ (t j : Nat) (v : Value), ¬ (t = 1 ∧ j = 0) → msv Y t j v → msv (Y.1, Y.1 b, Y.2.2) t j v := fun t j v hne hv => by
    unfold msv at hv ⊢
    split at hv
    · exact hv
    · exact hv
    · rename_i hd
      exfalso
      apply hne
      unfold mFD at hd
      split at hd
      · by_cases h40 : j < 40
        · refine ⟨rfl, ?_⟩
          revert hd
          match j, h40 with
          | 0, _ => intro _; rfl
          | 1, _ | 2, _ | 3, _ | 4, _ | 5, _ | 6, _ | 7, _ | 8, _ | 9, _ | 10, _ | 11, _ | 12, _ | 13, _ | 14, _ | 15, _ | 16, _ | 17, _ | 18, _ | 19, _ | 20, _ | 21, _ | 22, _ | 23, _ | 24, _ | 25, _ | 26, _ | 27, _ | 28, _ | 29, _ | 30, _ | 31, _ | 32, _ | 33, _ | 34, _ | 35, _ | 36, _ | 37, _ | 38, _ | 39, _ => intro hd; simp at hd
          | j + 40, h => exact absurd h (by omega)
        · rw [List.getD_eq_getElem?_getD, List.getElem?_eq_none (by simp; omega)] at hd
          simp at hd
      all_goals simp at hd
    · exact hv
  by_cases e : q = a
  · subst e
    rw [ha]
    exact hat _ ⟨⟨b, rfl, rfl⟩, mKn_no rfl⟩ (fun j w hj h => ⟨other 1 j w (fun z => hj z.2) h.1, h.2⟩)
  · have hq2 : Y.1 q ≠ 0 := hq
    have hne : Y.1 q ≠ 1 := fun z => e (g3.2 q a (by rw [z, ha]) hq2)
    exact ((mTH.at g1 hq2).kept (oq q e)).to (fun j v hv => ⟨other _ j v (fun z => hne z.1) hv.1, hv.2⟩)
theorem mc_iald (E : tE G p s m c args own cc nL) (hG : mGH G Y s H locs) (ha : Y.1 a = t) (hF : mAr t n lo hi) (hin : vp_in i n) (hdg : decode cc pc = .ok (.iaload, 1))
    (kk : ∀ x : Int32, lo ≤ x.toInt → x.toInt ≤ hi → (∀ y, Y.2.2 t i.toNatClampNeg = some y → x = y) → W p l e R s m args below meth c H locs cells slots Q (F0 m (pc + 1) ls (.int x :: rest))) : W p l e R s m args below meth c H locs cells slots Q (F0 m pc ls (.int i :: .ref a :: rest)) := by
  obtain ⟨h0, hs, hd⟩ := hF
  have hΓ := mΓ_at (G := G) ha h0.1
  rw [hs] at hΓ
  refine tg_iald E hG.1 hΓ hin hdg (fun v hv => ?_)
  replace hv := hv.1
  unfold msv at hv
  rw [hd] at hv
  obtain ⟨x, rfl, h1, h2, h3⟩ := hv
  exact kk x h1 h2 h3
def mAl (t n : Nat) (lo hi : Int) : Prop := t ≠ 0 ∧ mShp t = .inr (0, n) ∧ ∀ k, mFD t k = (0, lo, hi)
theorem mc_iald15 (E : tE G p s m c args own cc nL) (hG : mGH G Y s H locs) (ha : Y.1 a = t) (hF : mAl t n lo hi) (hin : vp_in i n) (hdg : decode cc pc = .ok (.iaload, 1))
    (kk : ∀ x : Int32, lo ≤ x.toInt → x.toInt ≤ hi → (∀ y, Y.2.2 t i.toNatClampNeg = some y → x = y) → W p l e R s m args below meth c H locs cells slots Q (F0 m (pc + 1) ls (.int x :: rest))) : W p l e R s m args below meth c H locs cells slots Q (F0 m pc ls (.int i :: .ref a :: rest)) := by
  obtain ⟨h0, hs, hd⟩ := hF
  have hΓ := mΓ_at (G := G) ha h0
  rw [hs] at hΓ
  refine tg_iald E hG.1 hΓ hin hdg (fun v hv => ?_)
  replace hv := hv.1
  unfold msv at hv
  rw [hd] at hv
  obtain ⟨x, rfl, h1, h2, h3⟩ := hv
  exact kk x h1 h2 h3
/-- the row 'now', or a row like it -/
theorem mc_nald (E : tE G p s m c args own cc nL) (hG : mGH G Y s H locs) (ha : Y.1 a = t) (hc : mCu t) (hin : vp_in i 934) (hdg : decode cc pc = .ok (.iaload, 1))
    (kk : ∀ x : Int32, (nR i.toNatClampNeg).1 ≤ x.toInt → x.toInt ≤ (nR i.toNatClampNeg).2 → (∀ y, Y.2.2 t i.toNatClampNeg = some y → x = y) → W p l e R s m args below meth c H locs cells slots Q (F0 m (pc + 1) ls (.int x :: rest))) : W p l e R s m args below meth c H locs cells slots Q (F0 m pc ls (.int i :: .ref a :: rest)) := by
  have hΓ := mΓ_at (G := G) ha (mCu_nz hc)
  rw [mShp_cu hc] at hΓ
  refine tg_iald E hG.1 hΓ hin hdg (fun v hv => ?_)
  replace hv := hv.1
  unfold msv at hv
  rw [mFD_cu hc] at hv
  obtain ⟨x, rfl, h1, h2, h3⟩ := hv
  exact kk x h1 h2 h3
theorem mc_rald (E : tE G p s m c args own cc nL) (hG : mGH G Y s H locs) (ha : Y.1 a = 17) (hin : vp_in i 192) (hdg : decode cc pc = .ok (.iaload, 1))
    (kk : ∀ x : Int32, (rR i.toNatClampNeg).1 ≤ x.toInt → x.toInt ≤ (rR i.toNatClampNeg).2 → (∀ y, Y.2.2 17 i.toNatClampNeg = some y → x = y) → W p l e R s m args below meth c H locs cells slots Q (F0 m (pc + 1) ls (.int x :: rest))) : W p l e R s m args below meth c H locs cells slots Q (F0 m pc ls (.int i :: .ref a :: rest)) := by
  have hΓ : mΓ G Y a = some (.inr (0, 192), fun k v => msv Y 17 k v ∧ mKn G 17 k v) := mΓ_at ha (by decide)
  refine tg_iald E hG.1 hΓ hin hdg (fun v hv => ?_)
  obtain ⟨⟨x, rfl, h1, h2, h3⟩, -⟩ := hv
  exact kk x h1 h2 h3
theorem mc_iastG (E : tE G p s m c args own cc nL) (hG : mGH G Y s H locs) (ha : Y.1 a = t) (h0 : t ≠ 0) (hm : mMk t i.toNatClampNeg = false) (hs : mShp t = .inr (0, n)) (hd : mFD t i.toNatClampNeg = (0, lo, hi)) (hin : vp_in i n) {x : Int32} (h1 : lo ≤ x.toInt) (h2 : x.toInt ≤ hi) (hdg : decode cc pc = .ok (.iastore, 1))
    (kk : ∀ (H1 : Heap) (locs1 : List Loc), mGH G (mSet Y t i.toNatClampNeg (some x)) s H1 locs1 → W p l e R s m args below meth c H1 locs1 cells slots Q (F0 m (pc + 1) ls rest)) : W p l e R s m args below meth c H locs cells slots Q (F0 m pc ls (.int x :: .int i :: .ref a :: rest)) := by
  have hΓ := mΓ_at (G := G) ha h0
  rw [hs] at hΓ
  refine tg_iast E hG.1 hΓ hin hdg (fun H1 z oq hat => kk H1 _ (hG.put ha h0 z oq ?_))
  rw [hs]
  refine hat _ ⟨?_, mKn_no hm⟩ (fun j w hj h => ⟨msv.set (fun z => hj z.2) h.1, h.2⟩)
  show msv _ t _ _
  unfold msv
  rw [hd]
  exact ⟨x, rfl, h1, h2, fun y hy => by rw [mSet_at] at hy; cases hy; rfl⟩
theorem mc_iastX (E : tE G p s m c args own cc nL) (hG : mGH G Y s H locs) (ha : Y.1 a = t) (h0 : t ≠ 0 ∧ mMt t = false) (hs : mShp t = .inr (0, n)) (hd : mFD t i.toNatClampNeg = (0, lo, hi)) (hin : vp_in i n) {x : Int32} (h1 : lo ≤ x.toInt) (h2 : x.toInt ≤ hi) (hdg : decode cc pc = .ok (.iastore, 1))
    (kk : ∀ (H1 : Heap) (locs1 : List Loc), mGH G (mSet Y t i.toNatClampNeg (some x)) s H1 locs1 → W p l e R s m args below meth c H1 locs1 cells slots Q (F0 m (pc + 1) ls rest)) : W p l e R s m args below meth c H locs cells slots Q (F0 m pc ls (.int x :: .int i :: .ref a :: rest)) :=
  mc_iastG E hG ha h0.1 (mMk_t h0.2) hs hd hin h1 h2 hdg kk
theorem mc_iast (E : tE G p s m c args own cc nL) (hG : mGH G Y s H locs) (ha : Y.1 a = t) (hF : mAr t n lo hi) (hN : Y.2.2 t i.toNatClampNeg = none) (hin : vp_in i n) {x : Int32} (h1 : lo ≤ x.toInt) (h2 : x.toInt ≤ hi) (hdg : decode cc pc = .ok (.iastore, 1))
    (kk : ∀ (H1 : Heap) (locs1 : List Loc), mGH G Y s H1 locs1 → W p l e R s m args below meth c H1 locs1 cells slots Q (F0 m (pc + 1) ls rest)) : W p l e R s m args below meth c H locs cells slots Q (F0 m pc ls (.int x :: .int i :: .ref a :: rest)) :=
  mc_iastX E hG ha hF.1 hF.2.1 (hF.2.2 _) hin h1 h2 hdg (fun H1 locs1 hG1 => kk H1 locs1 (hG1.le (mSet_none hN)))
theorem mc_lald (E : tE G p s m c args own cc nL) (hG : mGH G Y s H locs) (ha : Y.1 a = t) (hF : mShp t = .inr (2, n) ∧ t ≠ 0 ∧ ∀ k, mFD t k = (3, 0, 0)) (hin : vp_in i n) (hdg : decode cc pc = .ok (.laload, 1))
    (kk : ∀ x : Int64, W p l e R s m args below meth c H locs cells slots Q (F0 m (pc + 1) ls (.long x :: rest))) : W p l e R s m args below meth c H locs cells slots Q (F0 m pc ls (.int i :: .ref a :: rest)) := by
  have hΓ := mΓ_at (G := G) ha hF.2.1
  rw [hF.1] at hΓ
  refine tg_lald E hG.1 hΓ hin hdg (fun v hv => ?_)
  replace hv := hv.1
  unfold msv at hv
  rw [hF.2.2] at hv
  obtain ⟨x, rfl⟩ := hv
  exact kk x
theorem mc_last (E : tE G p s m c args own cc nL) (hG : mGH G Y s H locs) (ha : Y.1 a = t) (hF : mShp t = .inr (2, n) ∧ t ≠ 0 ∧ ∀ k, mFD t k = (3, 0, 0)) (hN : ∀ k, Y.2.2 t k = none) (hin : vp_in i n) {x : Int64} (hdg : decode cc pc = .ok (.lastore, 1))
    (kk : ∀ (H1 : Heap) (locs1 : List Loc), mGH G Y s H1 locs1 → W p l e R s m args below meth c H1 locs1 cells slots Q (F0 m (pc + 1) ls rest)) : W p l e R s m args below meth c H locs cells slots Q (F0 m pc ls (.long x :: .int i :: .ref a :: rest)) := by
  have hΓ := mΓ_at (G := G) ha hF.2.1
  rw [hF.1] at hΓ
  refine tg_last E hG.1 hΓ hin hdg (fun H1 z oq hat => kk H1 _ ((hG.put (k := 0) (o := none) ha hF.2.1 z oq ?_).le (mSet_none (hN 0))))
  rw [hF.1]
  refine hat _ ⟨?_, mKn_no (mMk_t (mMt_l hF.1))⟩ (fun j w hj h => ⟨?_, h.2⟩)
  · show msv _ t _ _
    unfold msv
    rw [hF.2.2]
    exact ⟨x, rfl⟩
  · replace h := h.1
    show msv _ t _ _
    unfold msv at h ⊢
    rw [hF.2.2] at h ⊢
    exact h
theorem mc_recv (hK : va_K G.1 vwCl (tTy G) s) (hG : mGH G Y s H locs) (hb : Y.1 b = 1) : ∃ cell : Cell, H[b]? = some cell ∧ cell.vm.isStatics = false ∧ s.vm.findClass RX10 = some cell.cls := by
  obtain ⟨r, V, h1, ⟨cell, q1, q2, q3, q4⟩, h3⟩ := hG.1 b _ (mΓ_at hb (by decide))
  have hr : r = (RX10, TX10, 40) := Option.some.inj (h1.symm.trans fc_X10.1)
  exact ⟨cell, q1, by rw [q3]; rfl, by rw [q2]; exact (hK.1 9 _ fc_X10.1).2.1⟩
theorem mc_runV (E : tE G p s m c args own cc nL) (hG : mGH G Y s H locs) (hM : Met l y (.code y bytes maxL ret :: tWS) rm (va_Pc (.ref b :: As) (mPre G Y)) Qc 0 0 fr) (hb : Y.1 b = 1) (hyc : y.cls = RX10) (hc : tCv y bytes maxL ret n) (hl : Cond.methodLink own index y ∈ tWS) (hR : rm.cells = 0 ∧ rm.slots = 0 ∧ rm.frames + 1 ≤ R.frames ∧ 8 + (maxL + 11) + rm.locals ≤ R.locals) (hn : As.length = n) (hsz : ls.size = nL) (hst : st0 = As.reverse ++ .ref b :: rest) (hW : (rest.map fun v => v.category).sum ≤ 8) (hcs : cells ≤ R.cells ∧ slots ≤ R.slots) (hdg : decode cc pc = .ok (.invokevirtual index, 3)) :
    va_Run p l e R s m args below meth c H locs cells slots 0 0 (F0 m pc ls st0) rest (Qc (Value.ref b :: As).toArray) fr := by
  obtain ⟨hx, hbb, hml, hown, hts, hK⟩ := id E
  exact va_runV (C := y.cls) ⟨hx, hbb, hml, hown, hts⟩ hM ⟨tc_callB E hc.1 hl hR, hts _ hc.2.1, hts _ hc.2.2⟩ ⟨mPre.blind, by rw [hyc]; exact mc_recv hK hG hb, fun U hU hWm => ⟨rfl, mPre.of hG hK hU hWm⟩⟩ rfl hn hsz hst (lv_room hW) hdg hcs
theorem mc_runS (E : tE G p s m c args own cc nL) (hG : mGH G Y s H locs) (hM : Met l y (.code y bytes maxL ret :: tWS) rm (va_Pc As (mPre G Y)) Qc 0 0 fr) (hc : tCs y bytes maxL ret n) (hl : Cond.methodLink own index y ∈ tWS) (hR : rm.cells = 0 ∧ rm.slots = 0 ∧ rm.frames + 1 ≤ R.frames ∧ 8 + (maxL + 11) + rm.locals ≤ R.locals) (hn : As.length = n) (hsz : ls.size = nL) (hst : st0 = As.reverse ++ rest) (hW : (rest.map fun v => v.category).sum ≤ 8) (hcs : cells ≤ R.cells ∧ slots ≤ R.slots) (hdg : decode cc pc = .ok (.invokestatic index, 3)) :
    va_Run p l e R s m args below meth c H locs cells slots 0 0 (F0 m pc ls st0) rest (Qc As.toArray) fr := by
  obtain ⟨hx, hbb, hml, hown, hts, hK⟩ := id E
  exact va_runS ⟨hx, hbb, hml, hown, hts⟩ hM ⟨tc_callB E hc.1 hl hR, hts _ hc.2⟩ ⟨mPre.blind, fun U hU hWm => ⟨rfl, mPre.of hG hK hU hWm⟩⟩ rfl hn hsz hst (lv_room hW) hdg hcs
theorem mc_calli {post : Int32 → Prop} {av : Array Value} (hG : mGH G Y s H locs) (hr : va_Run p l e R s m args below meth c H locs cells slots 0 0 (F0 m pc ls st0) rest (mQi G Y post av) (mA Y))
    (kk : ∀ (r : Int32) (H1 : Heap) (locs1 : List Loc), post r → mGH G Y s H1 locs1 → W p l e R s m args below meth c H1 locs1 cells slots Q (F0 m (pc + 3) ls (.int r :: rest))) : W p l e R s m args below meth c H locs cells slots Q (F0 m pc ls st0) :=
  va_calli hr hG.2.1 (fun _ _ h => h) (fun _ h => h) (fun r _ t H1 locs1 ht _ hp hB _ _ hS => kk r H1 locs1 hp ⟨ht ▸ hB, hS, hG.2.2⟩)
theorem mc_callv {av : Array Value} (hG : mGH G Y s H locs) (hr : va_Run p l e R s m args below meth c H locs cells slots 0 0 (F0 m pc ls st0) rest (mQv G Y av) (mA Y))
    (kk : ∀ (H1 : Heap) (locs1 : List Loc), mGH G Y s H1 locs1 → W p l e R s m args below meth c H1 locs1 cells slots Q (F0 m (pc + 3) ls rest)) : W p l e R s m args below meth c H locs cells slots Q (F0 m pc ls st0) :=
  va_callv hr hG.2.1 (fun _ _ h => h) (fun _ h => h) (fun _ t H1 locs1 ht _ _ hB _ _ hS => kk H1 locs1 ⟨ht ▸ hB, hS, hG.2.2⟩)
theorem mc_calliX {post : Int32 → mY → Prop} {av : Array Value} (hG : mGH G Y s H locs) (hr : va_Run p l e R s m args below meth c H locs cells slots 0 0 (F0 m pc ls st0) rest (mQiX G Y post av) (mA Y))
    (kk : ∀ (r : Int32) (Y' : mY) (H1 : Heap) (locs1 : List Loc), Y'.1 = Y.1 → post r Y' → mGH G Y' s H1 locs1 → W p l e R s m args below meth c H1 locs1 cells slots Q (F0 m (pc + 3) ls (.int r :: rest))) : W p l e R s m args below meth c H locs cells slots Q (F0 m pc ls st0) :=
  va_calli hr hG.2.1 (fun _ _ h => h) (fun _ h => h) (fun r Y' t H1 locs1 ht _ hp hB _ _ hS => kk r Y' H1 locs1 hp.1 hp.2.2 ⟨ht ▸ hB, by rw [mA_eq hp.1]; exact hS, hp.2.1, by rw [hp.1]; exact hG.2.2.2⟩)
theorem mc_callvX {post : mY → Prop} {av : Array Value} (hG : mGH G Y s H locs) (hr : va_Run p l e R s m args below meth c H locs cells slots 0 0 (F0 m pc ls st0) rest (mQvX G Y post av) (mA Y))
    (kk : ∀ (Y' : mY) (H1 : Heap) (locs1 : List Loc), Y'.1 = Y.1 → post Y' → mGH G Y' s H1 locs1 → W p l e R s m args below meth c H1 locs1 cells slots Q (F0 m (pc + 3) ls rest)) : W p l e R s m args below meth c H locs cells slots Q (F0 m pc ls st0) :=
  va_callv hr hG.2.1 (fun _ _ h => h) (fun _ h => h) (fun Y' t H1 locs1 ht _ hp hB _ _ hS => kk Y' H1 locs1 hp.1 hp.2.2 ⟨ht ▸ hB, by rw [mA_eq hp.1]; exact hS, hp.2.1, by rw [hp.1]; exact hG.2.2.2⟩)
end MC
