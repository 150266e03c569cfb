/-! ===== what stands in the reference's rows ===== -/
def rF (G : tG) (F : wFF) (H : Heap) : Prop := tAt G (.inr (2, 240), fun k v => v = .long (F (k / 60) (k % 60))) (G.2.2.1 16) H
def bF (G : tG) (B : Nat → Int64) (H : Heap) : Prop := tAt G (.inr (2, 60), fun k v => v = .long (B k)) (G.2.2.1 17) H
theorem rF.eq {G : tG} {F F' : wFF} {H : Heap} (h : rF G F H) (hq : ∀ i j, i < 4 → j < 60 → F i j = F' i j) : rF G F' H := by
  obtain ⟨V, g1, g2⟩ := h
  refine ⟨V, g1, fun k hk => ?_⟩
  have h9 : V k = .long (F (k / 60) (k % 60)) := g2 k hk
  show V k = .long (F' (k / 60) (k % 60))
  rw [h9, hq _ _ (by omega) (by omega)]
def upR (F : wFF) (k : Nat) (x : Int64) : wFF := fun i j => if i = k / 60 ∧ j = k % 60 then x else F i j
theorem upR_is {F : wFF} {n i : Nat} {x : Int64} (hi : i < 60) : upR F (60 * n + i) x = upF F n (upL (F n) i x) := funext fun a => funext fun b => by
  unfold upR upF upL
  rw [show (60 * n + i) / 60 = n by omega, show (60 * n + i) % 60 = i by omega]
  by_cases e : a = n
  · by_cases e2 : b = i <;> simp [e, e2]
  · simp [e]
def zF (F : wFF) (n : Nat) (v : Int) : wFF := fun i j => if i = n ∧ (j : Int) < v then 0 else F i j
theorem zF_0 {F : wFF} {n : Nat} {v : Int} (h : v = 0) : zF F n v = F := funext fun a => funext fun b => by
  unfold zF
  rw [if_neg (by omega)]
theorem zF_up {F : wFF} {n : Nat} {v : Int} (h0 : 0 ≤ v) (h1 : v < 60) : upR (zF F n v) (60 * n + v.toNat) 0 = zF F n (v + 1) := funext fun a => funext fun b => by
  unfold upR zF
  rw [show (60 * n + v.toNat) / 60 = n by omega, show (60 * n + v.toNat) % 60 = v.toNat by omega]
  by_cases e : a = n
  · by_cases e2 : (b : Int) < v
    · rw [if_neg (by omega), if_pos ⟨e, e2⟩, if_pos ⟨e, by omega⟩]
    · by_cases e3 : b = v.toNat
      · rw [if_pos ⟨e, e3⟩, if_pos ⟨e, by omega⟩]
      · rw [if_neg (fun z => e3 z.2), if_neg (fun z => e2 z.2), if_neg (by omega)]
  · rw [if_neg (fun z => e z.1), if_neg (fun z => e z.1), if_neg (fun z => e z.1)]
/-- v longs have come over -/
def sF (F : wFF) (t i o j : Nat) (v : Int) : wFF := fun a b => if a = o ∧ j ≤ b ∧ (b : Int) < j + v then F t (i + (b - j)) else F a b
theorem sF_0 {F : wFF} {t i o j : Nat} {v : Int} (h : v = 0) (a b : Nat) : F a b = sF F t i o j v a b := by
  unfold sF
  rw [if_neg (by omega)]
theorem sF_up {F F1 : wFF} {t i o j : Nat} {v : Int} {x : Int64} (h0 : 0 ≤ v) (h1 : j + v < 60) (hF : ∀ a b, a < 4 → b < 60 → F1 a b = sF F t i o j v a b) (hx : x = F t (i + v.toNat)) (a b : Nat) (ha : a < 4) (hb : b < 60) : upR F1 (60 * o + (j + v.toNat)) x a b = sF F t i o j (v + 1) a b := by
  unfold upR
  rw [show (60 * o + (j + v.toNat)) / 60 = o by omega, show (60 * o + (j + v.toNat)) % 60 = j + v.toNat by omega, hF a b ha hb]
  unfold sF
  by_cases e : a = o
  · by_cases e3 : b = j + v.toNat
    · rw [if_pos ⟨e, e3⟩, if_pos ⟨e, by omega, by omega⟩, hx, show b - j = v.toNat by omega]
    · rw [if_neg (fun z => e3 z.2)]
      by_cases e4 : j ≤ b ∧ (b : Int) < j + v
      · rw [if_pos ⟨e, e4⟩, if_pos ⟨e, e4.1, by omega⟩]
      · rw [if_neg (fun z => e4 z.2), if_neg (by omega)]
  · rw [if_neg (fun z => e z.1), if_neg (fun z => e z.1), if_neg (fun z => e z.1)]
theorem sF_is {F : wFF} {t i o j n a b : Nat} {v : Int} (h : v = (n : Int)) : sF F t i o j v a b = upF F o (va_cpy (F t) (F o) i j n) a b := by
  unfold sF upF va_cpy
  by_cases e : a = o
  · by_cases e4 : j ≤ b ∧ b < j + n
    · rw [if_pos ⟨e, e4.1, by omega⟩, if_pos e]
      show _ = (if j ≤ b ∧ b < j + n then F t (i + (b - j)) else F o b)
      rw [if_pos e4]
    · rw [if_neg (by omega), if_pos e]
      show _ = (if j ≤ b ∧ b < j + n then F t (i + (b - j)) else F o b)
      rw [if_neg e4, e]
  · rw [if_neg (fun z => e z.1), if_neg e]
def mfPre (G : tG) (Y : mY) (F : wFF) (U : State) : Prop := mPre G Y U ∧ rF G F U.heap
theorem mfPre.blind {G : tG} {Y : mY} {F : wFF} {av : List Value} : FrameBlind (va_Pc av (mfPre G Y F)) := fun a U g mk q => by
  obtain ⟨q0, ⟨q1, q2, q3⟩, q4⟩ := q
  exact ⟨q0, ⟨q1, va_K.moved (u := U) (U := U.calling g mk a) (Vm.Alike.refl U.vm) q2, q3⟩, q4⟩
abbrev mfQi (G : tG) (σ : Nat → Nat) (cu : Nat) (X : mX) (T : wT) (post : Int32 → wT × wFF → Prop) : Array Value → State → Outcome → State → Prop := va_Qi (S := wT × wFF) post (fun w t => TH G (mΓ G (σ, cu, vX X w.1)) t.heap ∧ rF G w.2 t.heap) (mA (σ, cu, vX X T))
section MF
variable {p : Program} {l : Launch} {e : Env} {R : Room} {s : State} {m : MethodId} {args : Array Value} {below : List Frame} {meth : Method} {c : Code} {H : Heap} {locs : List Loc} {Q : State → Prop}
variable {cc : ByteArray} {pc : Nat} {ls : Array Slot} {rest : List Value} {a b t k index n : Nat} {G : tG} {own : String} {nL : Nat} {Y : mY} {i : Int32} {cells slots : Nat} {σ : Nat → Nat} {cu : Nat} {X : mX} {T T1 : wT} {F F1 : wFF} {B : Nat → Int64} {y : MethodName} {bytes : ByteArray} {maxL : Nat} {ret : Option FieldType} {rm : Room} {Qc : Array Value → State → Outcome → State → Prop} {fr : Addr → Prop}
theorem mf_met {av : List Value} (hy : plainName y.cls = true) (hsl : (lg_sl av).length ≤ maxL)
    (body : ∀ p e s m below meth c, tE G p s m c av.toArray y.cls bytes maxL → meth.sig.returnType = ret → meth.locks = false → mGH G Y s s.heap [] → rF G F s.heap → ∀ ls, lv_has ls maxL (lv_args 0 av) → W p l e rm s m av.toArray below meth c s.heap [] 0 0 (MQ below Qc av.toArray s 0 0 fr) (F0 m 0 ls [])) :
    Met l y (.code y bytes maxL ret :: tWS) rm (va_Pc av (mfPre G Y F)) Qc 0 0 fr := by
  refine Met.ofW (cc := bytes) (maxL := maxL) (ret := ret) hy rfl ?_
  intro p e s m args below meth c s₁ B hml hv
  obtain ⟨rfl, ⟨hT, hK, hO⟩, hF⟩ := hv
  have hl := lv_entry av (n := maxL) hsl
  rw [lg_entry_eq]
  exact body p e s m below meth c ⟨B.exec, B.bytes, hml, findClass_of_methodNamed B.named, fun w h => atoms_spec (ws := Cond.code y bytes maxL ret :: tWS) B.pre w (List.mem_cons_of_mem _ h), hK⟩ B.returns B.notSynchronized ⟨hT, va_S.rf, hO⟩ hF _ hl
theorem mf_iret (E : tE G p s m c args own cc nL) (hr : meth.sig.returnType = some .int) (hlk : meth.locks = false) (hG : mGH G (σ, cu, vX X T1) s H locs) (hF : rF G F1 H) {post : Int32 → wT × wFF → Prop} {v : Int32} (hq : post v (T1, F1)) (hdg : decode cc pc = .ok (.ireturn, 1)) : W p l e R s m args below meth c H locs 0 0 (MQ below (mfQi G σ cu X T post) args s 0 0 (mA (σ, cu, vX X T))) (F0 m pc ls [.int v]) :=
  W.iret E.1 E.2.1 hr (fun t ht _ => ⟨⟨v, (T1, F1), rfl, hq, (show TH G (mΓ G (σ, cu, vX X T1)) t.heap ∧ rF G F1 t.heap by rw [ht]; exact ⟨hG.1, hF⟩)⟩, hG.2.1.F ht⟩) hG.2.1.2.2 hdg hlk
theorem mf_get (E : tE G p s m c args RX10 cc nL) (hG : mGH G Y s H locs) (ha : Y.1 a = 1) {u : Nat} (hF : tFf RX10 index 9 k) (hd : mFD 1 k = (4, (u : Int), 0)) (hdg : decode cc pc = .ok (.getfield index, 3))
    (kk : W p l e R s m args below meth c H locs cells slots Q (F0 m (pc + 3) ls (.ref (G.2.2.1 u) :: rest))) : W p l e R s m args below meth c H locs cells slots Q (F0 m pc ls (.ref a :: rest)) := by
  refine tg_get E hG.1 (mΓ_at ha (by decide)) hF hdg (fun v hv => ?_)
  unfold msv at hv
  rw [hd] at hv
  have hv : v = .ref (G.2.2.1 u) := hv
  rw [hv]
  exact kk
theorem mf_lald (E : tE G p s m c args own cc nL) (hF : rF G F H) (hin : vp_in i 240) (hdg : decode cc pc = .ok (.laload, 1))
    (kk : W p l e R s m args below meth c H locs cells slots Q (F0 m (pc + 1) ls (.long (F (i.toInt.toNat / 60) (i.toInt.toNat % 60)) :: rest))) : W p l e R s m args below meth c H locs cells slots Q (F0 m pc ls (.int i :: .ref (G.2.2.1 16) :: rest)) := by
  refine tg_lald E (one_TH hF) one_at hin hdg (fun v hv => ?_)
  have hv : v = .long (F (i.toInt.toNat / 60) (i.toInt.toNat % 60)) := hv
  rw [hv]; exact kk
theorem mf_laldB (E : tE G p s m c args own cc nL) (hB : bF G B H) (hin : vp_in i 60) (hdg : decode cc pc = .ok (.laload, 1))
    (kk : W p l e R s m args below meth c H locs cells slots Q (F0 m (pc + 1) ls (.long (B i.toInt.toNat) :: rest))) : W p l e R s m args below meth c H locs cells slots Q (F0 m pc ls (.int i :: .ref (G.2.2.1 17) :: rest)) := by
  refine tg_lald E (one_TH hB) one_at hin hdg (fun v hv => ?_)
  have hv : v = .long (B i.toInt.toNat) := hv
  rw [hv]; exact kk
theorem mf_last (E : tE G p s m c args own cc nL) (hG : mGH G (σ, cu, vX X T) s H locs) (hF : rF G F H) (tb3 : σ (G.2.2.1 16) = 23) (hin : vp_in i 240) {x : Int64} (hdg : decode cc pc = .ok (.lastore, 1))
    (kk : ∀ (H1 : Heap) (locs1 : List Loc), mGH G (σ, cu, vX X T) s H1 locs1 → rF G (upR F i.toInt.toNat x) H1 → (∀ q : Nat, q ≠ G.2.2.1 16 → H1[q]? = H[q]?) → W p l e R s m args below meth c H1 locs1 cells slots Q (F0 m (pc + 1) ls rest)) : W p l e R s m args below meth c H locs cells slots Q (F0 m pc ls (.long x :: .int i :: .ref (G.2.2.1 16) :: rest)) := by
  refine tg_last E (one_TH hF) one_at hin hdg (fun H1 z oq hat => kk H1 _ ((hG.put (k := 0) (o := none) tb3 (by decide) z oq ?_).le (mSet_none (vX_23 (X := X) (T := T) 0))) ?_ oq)
  · exact hat _ (show msv G _ 23 _ _ from (⟨x, rfl⟩ : ∃ y : Int64, Value.long x = .long y)) (fun j w _ h => (show msv G _ 23 _ _ from (⟨_, h⟩ : ∃ y : Int64, w = .long y)))
  · refine hat _ ?_ (fun j w hj h => ?_)
    · show Value.long x = .long (upR F i.toInt.toNat x (i.toNatClampNeg / 60) (i.toNatClampNeg % 60))
      unfold upR
      rw [if_pos ⟨rfl, rfl⟩]
    · have h : w = .long (F (j / 60) (j % 60)) := h
      show w = .long (upR F i.toInt.toNat x (j / 60) (j % 60))
      unfold upR
      have hj : j ≠ i.toInt.toNat := hj
      rw [if_neg (fun z => hj (by omega)), h]
theorem mf_lastB (E : tE G p s m c args own cc nL) (hD : wDn G 18) (hG : mGH G (σ, cu, vX X T) s H locs) (hF : rF G F H) (hB : bF G B H) (tb4 : σ (G.2.2.1 17) = 24) (hin : vp_in i 60) {x : Int64} (hdg : decode cc pc = .ok (.lastore, 1))
    (kk : ∀ (H1 : Heap) (locs1 : List Loc), mGH G (σ, cu, vX X T) s H1 locs1 → rF G F H1 → bF G (upL B i.toInt.toNat x) H1 → W p l e R s m args below meth c H1 locs1 cells slots Q (F0 m (pc + 1) ls rest)) : W p l e R s m args below meth c H locs cells slots Q (F0 m pc ls (.long x :: .int i :: .ref (G.2.2.1 17) :: rest)) := by
  refine tg_last E (one_TH hB) one_at hin hdg (fun H1 z oq hat => kk H1 _ ((hG.put (k := 0) (o := none) tb4 (by decide) z oq ?_).le (mSet_none (vX_24 (X := X) (T := T) 0))) (hF.kept (oq _ (fun e => by have := hD 16 17 (by omega) (by omega) (by omega) (by omega) e; omega))) ?_)
  · exact hat _ (show msv G _ 24 _ _ from (⟨x, rfl⟩ : ∃ y : Int64, Value.long x = .long y)) (fun j w _ h => (show msv G _ 24 _ _ from (⟨_, h⟩ : ∃ y : Int64, w = .long y)))
  · exact hat _ (congrArg Value.long upL_at.symm) (fun j w hj h => h.trans (congrArg Value.long (upL_ne hj).symm))
theorem bF.keep {H1 : Heap} (hD : wDn G 18) (hB : bF G B H) (oq : ∀ q : Nat, q ≠ G.2.2.1 16 → H1[q]? = H[q]?) : bF G B H1 := tAt.kept hB (oq _ (fun e => by have := hD 17 16 (by omega) (by omega) (by omega) (by omega) e; omega))
theorem mf_gainB (hG : mGH G Y s H locs) (tb4 : Y.1 (G.2.2.1 17) = 24) : ∃ B, bF G B H := by
  have h9 := hG.1 _ _ (mΓ_at (G := G) tb4 (by decide))
  obtain ⟨V, g1, g2⟩ := h9
  refine ⟨fun k => match V k with | .long x => x | _ => 0, V, g1, fun k hk => ?_⟩
  obtain ⟨x, ex⟩ : ∃ x : Int64, V k = .long x := g2 k hk
  show V k = .long (match V k with | .long x => x | _ => 0)
  rw [ex]
theorem mc_iastO (E : tE G p s m c args own cc nL) (hG : mGH G Y s H locs) (ha : Y.1 a = t) (h0 : t ≠ 0) (hs : mShp t = .inr (0, n)) {lo hi : Int} (hd : mFD t i.toNatClampNeg = (0, lo, hi)) (hin : vp_in i n) {x : Int32} (h1 : lo ≤ x.toInt) (h2 : x.toInt ≤ hi) (hdg : decode cc pc = .ok (.iastore, 1))
    (kk : ∀ (H1 : Heap) (locs1 : List Loc), mGH G (mSet Y t i.toNatClampNeg (some x)) s H1 locs1 → (∀ q : Nat, q ≠ a → H1[q]? = H[q]?) → W p l e R s m args below meth c H1 locs1 cells slots Q (F0 m (pc + 1) ls rest)) : W p l e R s m args below meth c H locs cells slots Q (F0 m pc ls (.int x :: .int i :: .ref a :: rest)) := by
  have hΓ := mΓ_at (G := G) ha h0
  rw [hs] at hΓ
  refine tg_iast E hG.1 hΓ hin hdg (fun H1 z oq hat => kk H1 _ (hG.put ha h0 z oq ?_) oq)
  rw [hs]
  refine hat _ ?_ (fun j w hj h => msv.set (fun z => hj z.2) h)
  show msv G _ t _ _
  unfold msv
  rw [hd]
  exact ⟨x, rfl, h1, h2, fun y hy => by rw [mSet_at] at hy; cases hy; rfl⟩
theorem mf_ast1 (E : tE G p s m c args RX10 cc nL) (hG : mGH G (σ, cu, vX X T) s H locs) (hF : rF G F H) (tb3 : σ (G.2.2.1 16) = 23) (ha : σ a = 21) (hin : vp_in i 4) {x sx : Int32} (ex : x = sx + 1) (h1 : 0 ≤ x.toInt) (h2 : x.toInt ≤ 4) (hdg : decode cc pc = .ok (.iastore, 1))
    (kk : ∀ (H1 : Heap) (locs1 : List Loc), mGH G (σ, cu, vX X (up1 T.1 i.toInt.toNat sx, T.2)) s H1 locs1 → rF G F H1 → W p l e R s m args below meth c H1 locs1 cells slots Q (F0 m (pc + 1) ls rest)) : W p l e R s m args below meth c H locs cells slots Q (F0 m pc ls (.int x :: .int i :: .ref a :: rest)) := by
  refine mc_iastO E hG ha (by decide) rfl (lo := 0) (hi := 4) rfl hin h1 h2 hdg (fun H1 locs1 hG1 oq => kk H1 locs1 ?_ (tAt.kept hF (oq _ (fun e => by rw [e, ha] at tb3; cases tb3))))
  have e := vX_up1 (σ := σ) (cu := cu) (X := X) (T := T) (s := sx) (t_inL hin)
  rw [ex] at hG1
  rw [e] at hG1
  exact hG1
theorem mf_ast2 (E : tE G p s m c args RX10 cc nL) (hG : mGH G (σ, cu, vX X T) s H locs) (hF : rF G F H) (tb3 : σ (G.2.2.1 16) = 23) (ha : σ a = 22) (hin : vp_in i 4) {x : Int32} (h1 : 0 ≤ x.toInt) (h2 : x.toInt ≤ 60) (hdg : decode cc pc = .ok (.iastore, 1))
    (kk : ∀ (H1 : Heap) (locs1 : List Loc), mGH G (σ, cu, vX X (T.1, up1 T.2 i.toInt.toNat x)) s H1 locs1 → rF G F H1 → W p l e R s m args below meth c H1 locs1 cells slots Q (F0 m (pc + 1) ls rest)) : W p l e R s m args below meth c H locs cells slots Q (F0 m pc ls (.int x :: .int i :: .ref a :: rest)) := by
  refine mc_iastO E hG ha (by decide) rfl (lo := 0) (hi := 60) rfl hin h1 h2 hdg (fun H1 locs1 hG1 oq => kk H1 locs1 ?_ (tAt.kept hF (oq _ (fun e => by rw [e, ha] at tb3; cases tb3))))
  have e := vX_up2 (σ := σ) (cu := cu) (X := X) (T := T) (s := x) (t_inL hin)
  rw [e] at hG1
  exact hG1
end MF
set_option maxHeartbeats 4000000 in
set_option maxRecDepth 100000 in
theorem c4_X10_narrowed (l : Launch) (G : tG) (Y : mY) (x0 : Int64) (x2 : Int32)  : Met l yX10_narrowed (.code yX10_narrowed cX10_narrowed 3 (some .long) :: tWS) (tRm 0 0) (va_Pc [.long x0, .int x2] (mPre G Y)) (tQpl (fun r => r = wCut x2.toInt x0)) 0 0 tNo := by
  refine mc_met (by decide) (Nat.le_of_ble_eq_true rfl) ?_
  intro p e s m below meth c E hr hlk hG ls hl
  have hl : lv_has ls 3 [(0, .long x0), (2, .int x2)] := hl
  have hx := E.1
  have hb := E.2.1
  obtain ⟨H, eH⟩ : ∃ H, H = s.heap := ⟨_, rfl⟩
  obtain ⟨locs, eL⟩ : ∃ x : List Loc, x = [] := ⟨_, rfl⟩
  have hG : mGH G Y s H locs := by rw [eH, eL]; exact hG
  suffices hW : W p l e (tRm 0 0) s m ([.long x0, .int x2] : List Value).toArray below meth c H locs 0 0 (MQ below (tQpl (fun r => r = wCut x2.toInt x0)) ([.long x0, .int x2] : List Value).toArray s 0 0 tNo) (F0 m 0 ls []) by subst eH; subst eL; exact hW
  refine lv_iload_n hx hb dX10_narrowed_0 rfl (lv_at hl 1 rfl) ?_
  refine lv_if_ne (tgt := 11) hx hb dX10_narrowed_1 (by decide) (fun c1 => ?_) (fun c1 => ?_)
  · skip
    have ic1 := tn_ne rfl kI_0 c1
    refine lv_iload_n hx hb dX10_narrowed_11 rfl (lv_at hl 1 rfl) ?_
    refine lv_iconst (v := 1) hx hb dX10_narrowed_12 (by decide) ?_
    refine lv_icmp_ne (tgt := 23) hx hb dX10_narrowed_13 (by decide) (fun c2 => ?_) (fun c2 => ?_)
    · skip
      have ic2 := tn_ne rfl kI_1 c2
      refine lv_iload_n hx hb dX10_narrowed_23 rfl (lv_at hl 1 rfl) ?_
      refine lv_iconst (v := 2) hx hb dX10_narrowed_24 (by decide) ?_
      refine lv_icmp_ne (tgt := 34) hx hb dX10_narrowed_25 (by decide) (fun c3 => ?_) (fun c3 => ?_)
      · skip
        have ic3 := tn_ne rfl kI_2 c3
        refine lv_lload_n hx hb dX10_narrowed_34 rfl (lv_at hl 0 rfl) ?_
        exact tc_plret E hr hlk eH eL (show x0 = wCut x2.toInt x0 from (by unfold wCut; rw [if_neg (by omega), if_neg (by omega), if_neg (by omega)])) dX10_narrowed_35
      · skip
        have ic3 := tn_eq rfl kI_2 c3
        refine lv_lload_n hx hb dX10_narrowed_28 rfl (lv_at hl 0 rfl) ?_
        refine lv_l2i hx hb dX10_narrowed_29 rfl ?_
        refine lv_topi (fun z4 ez4 => ?_)
        refine lv_i2l hx hb dX10_narrowed_30 rfl ?_
        refine lv_topl (fun z5 ez5 => ?_)
        have tz5 := tl_i2l ez5
        refine lv_goto (tgt := 35) hx hb dX10_narrowed_31 (by decide) ?_
        exact tc_plret E hr hlk eH eL (show z5 = wCut x2.toInt x0 from (by unfold wCut; rw [if_neg (by omega), if_neg (by omega), if_pos (by omega), ez5, ez4])) dX10_narrowed_35
    · skip
      have ic2 := tn_eq rfl kI_1 c2
      refine lv_lload_n hx hb dX10_narrowed_16 rfl (lv_at hl 0 rfl) ?_
      refine lv_l2i hx hb dX10_narrowed_17 rfl ?_
      refine lv_topi (fun z6 ez6 => ?_)
      refine lv_i2s hx hb dX10_narrowed_18 rfl ?_
      refine lv_topi (fun z7 ez7 => ?_)
      refine lv_i2l hx hb dX10_narrowed_19 rfl ?_
      refine lv_topl (fun z8 ez8 => ?_)
      have tz8 := tl_i2l ez8
      refine lv_goto (tgt := 35) hx hb dX10_narrowed_20 (by decide) ?_
      exact tc_plret E hr hlk eH eL (show z8 = wCut x2.toInt x0 from (by unfold wCut; rw [if_neg (by omega), if_pos (by omega), ez8, ez7, ez6])) dX10_narrowed_35
  · skip
    have ic1 := tn_eq rfl kI_0 c1
    refine lv_lload_n hx hb dX10_narrowed_4 rfl (lv_at hl 0 rfl) ?_
    refine lv_l2i hx hb dX10_narrowed_5 rfl ?_
    refine lv_topi (fun z9 ez9 => ?_)
    refine lv_i2b hx hb dX10_narrowed_6 rfl ?_
    refine lv_topi (fun z10 ez10 => ?_)
    refine lv_i2l hx hb dX10_narrowed_7 rfl ?_
    refine lv_topl (fun z11 ez11 => ?_)
    have tz11 := tl_i2l ez11
    refine lv_goto (tgt := 35) hx hb dX10_narrowed_8 (by decide) ?_
    exact tc_plret E hr hlk eH eL (show z11 = wCut x2.toInt x0 from (by unfold wCut; rw [if_pos (by omega), ez11, ez10, ez9])) dX10_narrowed_35

set_option maxHeartbeats 4000000 in
set_option maxRecDepth 100000 in
theorem v4_X10_item (l : Launch) (G : tG) (σ : Nat → Nat) (cu : Nat) (X : mX) (T : wT) (F : wFF) (h0 : Nat) (x1 : Int32) (x2 : Int32) (x3 : Int64) (t0 : σ h0 = 1) (tb1 : σ (G.2.2.1 14) = 21) (tb2 : σ (G.2.2.1 15) = 22) (tb3 : σ (G.2.2.1 16) = 23) (tb4 : σ (G.2.2.1 17) = 24) (hI : wIn T) (hD : wDn G 18) : Met l yX10_item (.code yX10_item cX10_item 5 (some .int) :: tWS) (tRm 2 45) (va_Pc [.ref h0, .int x1, .int x2, .long x3] (mfPre G (σ, cu, vX X T) F)) (mfQi G σ cu X T (fun r w => r.toInt = wItem T x1.toInt x2.toInt ∧ w = (T, wItemF T F x1 x2 x3))) 0 0 (mA (σ, cu, vX X T)) := by
  refine mf_met (by decide) (Nat.le_of_ble_eq_true rfl) ?_
  intro p e s m below meth c E hr hlk hG hF ls hl
  have hl : lv_has ls 5 [(0, .ref h0), (1, .int x1), (2, .int x2), (3, .long x3)] := hl
  have hx := E.1
  have hb := E.2.1
  obtain ⟨H, eH⟩ : ∃ H, H = s.heap := ⟨_, rfl⟩
  obtain ⟨locs, eL⟩ : ∃ x : List Loc, x = [] := ⟨_, rfl⟩
  have hG : mGH G (σ, cu, vX X T) s H locs := by rw [eH, eL]; exact hG
  have hF : rF G F H := by rw [eH]; exact hF
  suffices hW : W p l e (tRm 2 45) s m ([.ref h0, .int x1, .int x2, .long x3] : List Value).toArray below meth c H locs 0 0 (MQ below (mfQi G σ cu X T (fun r w => r.toInt = wItem T x1.toInt x2.toInt ∧ w = (T, wItemF T F x1 x2 x3))) ([.ref h0, .int x1, .int x2, .long x3] : List Value).toArray s 0 0 (mA (σ, cu, vX X T))) (F0 m 0 ls []) by subst eH; subst eL; exact hW
  clear eH eL
  have hcu : mCu cu := hG.2.2.1
  refine lv_iload_n hx hb dX10_item_0 rfl (lv_at hl 1 rfl) ?_
  refine tc_callp (mc_runS (As := [.int x1]) (rest := []) E hG (c_X10_isTape l G (σ, cu, vX X T) x1) ks_X10_isTape ml_X10_440 ⟨rfl, rfl, Nat.le_of_ble_eq_true rfl, Nat.le_of_ble_eq_true rfl⟩ rfl hl.1 rfl (Nat.le_of_ble_eq_true rfl) ⟨Nat.zero_le _, Nat.zero_le _⟩ dX10_item_1) (fun r1 pr1 => ?_)
  replace pr1 : (r1.toInt = 1 ∧ 0 ≤ x1.toInt ∧ x1.toInt ≤ 3) ∨ (r1.toInt = 0 ∧ (x1.toInt < 0 ∨ 3 < x1.toInt)) := pr1
  refine lv_if_ne (tgt := 9) hx hb dX10_item_4 (by decide) (fun c2 => ?_) (fun c2 => ?_)
  · skip
    have ic2 := tn_ne rfl kI_0 c2
    refine lv_aload_n hx hb dX10_item_9 rfl (lv_at hl 0 rfl) ?_
    refine mc_getT E hG t0 tb1 ff_X10_72 rfl dX10_item_10 (fun oa3 hoa3 => ?_)
    refine lv_iload_n hx hb dX10_item_13 rfl (lv_at hl 1 rfl) ?_
    refine mc_iald E hG hoa3 ma_21 (t_in (by omega) (by omega)) dX10_item_14 (fun z4 lz4 uz4 qz4 => ?_)
    have kz4 := mv_21 hI qz4 (by omega) (by omega)
    refine lv_if_ne (tgt := 21) hx hb dX10_item_15 (by decide) (fun c5 => ?_) (fun c5 => ?_)
    · skip
      have ic5 := tn_ne rfl kI_0 c5
      refine lv_iload_n hx hb dX10_item_21 rfl (lv_at hl 2 rfl) ?_
      refine lv_i2l hx hb dX10_item_22 rfl ?_
      refine lv_topl (fun z6 ez6 => ?_)
      have tz6 := tl_i2l ez6
      refine lv_lconst (v := 0) hx hb dX10_item_23 (by decide) ?_
      refine lv_topl (fun z7 ez7 => ?_)
      have tz7 : z7.toInt = 0 := by rw [ez7]; decide
      refine lv_aload_n hx hb dX10_item_24 rfl (lv_at hl 0 rfl) ?_
      refine mc_getT E hG t0 tb2 ff_X10_75 rfl dX10_item_25 (fun oa8 hoa8 => ?_)
      refine lv_iload_n hx hb dX10_item_28 rfl (lv_at hl 1 rfl) ?_
      refine mc_iald E hG hoa8 ma_22 (t_in (by omega) (by omega)) dX10_item_29 (fun z9 lz9 uz9 qz9 => ?_)
      have kz9 := mv_22 qz9 (by omega) (by omega)
      refine lv_iconst (v := 1) hx hb dX10_item_30 (by decide) ?_
      refine lv_isub hx hb dX10_item_31 ?_
      refine lv_topi (fun z10 ez10 => ?_)
      have tz10 := tn_sub ez10 rfl kI_1 (by omega) (by omega)
      refine lv_i2l hx hb dX10_item_32 rfl ?_
      refine lv_topl (fun z11 ez11 => ?_)
      have tz11 := tl_i2l ez11
      refine tc_callp (mc_runS (As := [.long z6, .long z7, .long z11]) (rest := []) E hG (c_X10_in l G (σ, cu, vX X T) z6 z7 z11) ks_X10_in ml_X10_87 ⟨rfl, rfl, Nat.le_of_ble_eq_true rfl, Nat.le_of_ble_eq_true rfl⟩ rfl hl.1 rfl (Nat.le_of_ble_eq_true rfl) ⟨Nat.zero_le _, Nat.zero_le _⟩ dX10_item_33) (fun r12 pr12 => ?_)
      replace pr12 : ((r12.toInt = 1 ∧ z7.toInt ≤ z6.toInt ∧ z6.toInt ≤ z11.toInt) ∨ (r12.toInt = 0 ∧ (z6.toInt < z7.toInt ∨ z11.toInt < z6.toInt))) := pr12
      refine lv_if_ne (tgt := 42) hx hb dX10_item_36 (by decide) (fun c13 => ?_) (fun c13 => ?_)
      · skip
        have ic13 := tn_ne rfl kI_0 c13
        refine lv_aload_n hx hb dX10_item_42 rfl (lv_at hl 0 rfl) ?_
        refine mf_get E hG t0 ff_X10_78 (u := 16) rfl dX10_item_43 ?_
        refine lv_bipush (v := 60) hx hb dX10_item_46 (by decide) ?_
        refine lv_iload_n hx hb dX10_item_48 rfl (lv_at hl 1 rfl) ?_
        refine lv_imul hx hb dX10_item_49 ?_
        refine lv_topi (fun z15 ez15 => ?_)
        have tz15 := tn_mul ez15 kI_60 rfl (by omega) (by omega)
        refine lv_iload_n hx hb dX10_item_50 rfl (lv_at hl 2 rfl) ?_
        refine lv_iadd hx hb dX10_item_51 ?_
        refine lv_topi (fun z16 ez16 => ?_)
        have tz16 := tn_add ez16 rfl rfl (by omega) (by omega)
        refine lv_lload_n hx hb dX10_item_52 rfl (lv_at hl 3 rfl) ?_
        refine lv_aload_n hx hb dX10_item_53 rfl (lv_at hl 0 rfl) ?_
        refine mc_getT E hG t0 tb1 ff_X10_72 rfl dX10_item_54 (fun oa17 hoa17 => ?_)
        refine lv_iload_n hx hb dX10_item_57 rfl (lv_at hl 1 rfl) ?_
        refine mc_iald E hG hoa17 ma_21 (t_in (by omega) (by omega)) dX10_item_58 (fun z18 lz18 uz18 qz18 => ?_)
        have kz18 := mv_21 hI qz18 (by omega) (by omega)
        refine lv_iconst (v := 1) hx hb dX10_item_59 (by decide) ?_
        refine lv_isub hx hb dX10_item_60 ?_
        refine lv_topi (fun z19 ez19 => ?_)
        have tz19 := tn_sub ez19 rfl kI_1 (by omega) (by omega)
        refine tc_callpl (mc_runS (As := [.long x3, .int z19]) (rest := [.int z16, .ref (G.2.2.1 16)]) E hG (c4_X10_narrowed l G (σ, cu, vX X T) x3 z19) ks_X10_narrowed ml_X10_445 ⟨rfl, rfl, Nat.le_of_ble_eq_true rfl, Nat.le_of_ble_eq_true rfl⟩ rfl hl.1 rfl (Nat.le_of_ble_eq_true rfl) ⟨Nat.zero_le _, Nat.zero_le _⟩ dX10_item_61) (fun r20 pr20 => ?_)
        refine mf_last E hG hF tb3 (t_in (by omega) (by omega)) dX10_item_64 (fun H locs hG hF _ => ?_)
        refine lv_iconst (v := 1) hx hb dX10_item_65 (by decide) ?_
        have ew : (1 : Int32).toInt = wItem T x1.toInt x2.toInt := by (have kk := kI_1; unfold wItem; (repeat first | rw [if_pos (by omega)] | rw [if_neg (by omega)]); first | done | omega)
        have pr20 : r20 = wCut z19.toInt x3 := pr20
        have e16 : z16.toInt.toNat = 60 * x1.toInt.toNat + x2.toInt.toNat := by omega
        have eF : upR F z16.toInt.toNat r20 = wItemF T F x1 x2 x3 := by
          unfold wItemF
          rw [if_pos (by rw [← ew]; decide), e16, upR_is (by have hI9 := hI x1.toInt.toNat (by omega); omega), pr20, show z19.toInt = (T.1 x1.toInt.toNat).toInt by omega]
        exact mf_iret E hr hlk hG hF (show (1 : Int32).toInt = wItem T x1.toInt x2.toInt ∧ (T, upR F z16.toInt.toNat r20) = (T, wItemF T F x1 x2 x3) from ⟨ew, by rw [eF]⟩) dX10_item_66
      · skip
        have ic13 := tn_eq rfl kI_0 c13
        refine lv_bipush (v := -13) hx hb dX10_item_39 (by decide) ?_
        have ew : (-13 : Int32).toInt = wItem T x1.toInt x2.toInt := by (have kk := kI_m13; unfold wItem; (repeat first | rw [if_pos (by omega)] | rw [if_neg (by omega)]); first | done | omega)
        exact mf_iret E hr hlk hG hF (show (-13 : Int32).toInt = wItem T x1.toInt x2.toInt ∧ (T, F) = (T, wItemF T F x1 x2 x3) from ⟨ew, by unfold wItemF; rw [if_neg (by rw [← ew]; decide)]⟩) dX10_item_41
    · skip
      have ic5 := tn_eq rfl kI_0 c5
      refine lv_bipush (v := -11) hx hb dX10_item_18 (by decide) ?_
      have ew : (-11 : Int32).toInt = wItem T x1.toInt x2.toInt := by (have kk := kI_m11; unfold wItem; (repeat first | rw [if_pos (by omega)] | rw [if_neg (by omega)]); first | done | omega)
      exact mf_iret E hr hlk hG hF (show (-11 : Int32).toInt = wItem T x1.toInt x2.toInt ∧ (T, F) = (T, wItemF T F x1 x2 x3) from ⟨ew, by unfold wItemF; rw [if_neg (by rw [← ew]; decide)]⟩) dX10_item_20
  · skip
    have ic2 := tn_eq rfl kI_0 c2
    refine lv_iconst (v := -1) hx hb dX10_item_7 (by decide) ?_
    have ew : (-1 : Int32).toInt = wItem T x1.toInt x2.toInt := by (have kk := kI_m1; unfold wItem; (repeat first | rw [if_pos (by omega)] | rw [if_neg (by omega)]); first | done | omega)
    exact mf_iret E hr hlk hG hF (show (-1 : Int32).toInt = wItem T x1.toInt x2.toInt ∧ (T, F) = (T, wItemF T F x1 x2 x3) from ⟨ew, by unfold wItemF; rw [if_neg (by rw [← ew]; decide)]⟩) dX10_item_8

set_option maxHeartbeats 4000000 in
set_option maxRecDepth 100000 in
theorem v4_X10_tape (l : Launch) (G : tG) (σ : Nat → Nat) (cu : Nat) (X : mX) (T : wT) (F : wFF) (h0 : Nat) (x1 : Int32) (x2 : Int32) (x3 : Int32) (t0 : σ h0 = 1) (tb1 : σ (G.2.2.1 14) = 21) (tb2 : σ (G.2.2.1 15) = 22) (tb3 : σ (G.2.2.1 16) = 23) (tb4 : σ (G.2.2.1 17) = 24) (hI : wIn T) (hD : wDn G 18) : Met l yX10_tape (.code yX10_tape cX10_tape 5 (some .int) :: tWS) (tRm 2 45) (va_Pc [.ref h0, .int x1, .int x2, .int x3] (mfPre G (σ, cu, vX X T) F)) (mfQi G σ cu X T (fun r w => r.toInt = tTape x1.toInt x2.toInt x3.toInt ∧ w = (wTape T x1 x2 x3, wTapeF F x1 x2 x3))) 0 0 (mA (σ, cu, vX X T)) := by
  refine mf_met (by decide) (Nat.le_of_ble_eq_true rfl) ?_
  intro p e s m below meth c E hr hlk hG hF ls hl
  have hl : lv_has ls 5 [(0, .ref h0), (1, .int x1), (2, .int x2), (3, .int x3)] := hl
  have hx := E.1
  have hb := E.2.1
  obtain ⟨H, eH⟩ : ∃ H, H = s.heap := ⟨_, rfl⟩
  obtain ⟨locs, eL⟩ : ∃ x : List Loc, x = [] := ⟨_, rfl⟩
  have hG : mGH G (σ, cu, vX X T) s H locs := by rw [eH, eL]; exact hG
  have hF : rF G F H := by rw [eH]; exact hF
  suffices hW : W p l e (tRm 2 45) s m ([.ref h0, .int x1, .int x2, .int x3] : List Value).toArray below meth c H locs 0 0 (MQ below (mfQi G σ cu X T (fun r w => r.toInt = tTape x1.toInt x2.toInt x3.toInt ∧ w = (wTape T x1 x2 x3, wTapeF F x1 x2 x3))) ([.ref h0, .int x1, .int x2, .int x3] : List Value).toArray s 0 0 (mA (σ, cu, vX X T))) (F0 m 0 ls []) by subst eH; subst eL; exact hW
  clear eH eL
  have hcu : mCu cu := hG.2.2.1
  have J74 : ∀ (n74 : Nat) (H : Heap) (locs : List Loc) (ls : Array Slot) (v4 : Int32), mGH G (σ, cu, vX X (wTape T x1 x2 x3)) s H locs → rF G (zF F x1.toInt.toNat v4.toInt) H → lv_has ls 5 [(0, .ref h0), (1, .int x1), (4, .int v4)] → 0 ≤ x1.toInt → x1.toInt ≤ 3 → 0 ≤ v4.toInt → v4.toInt ≤ 60 → (x2.toInt = -1 ∨ (0 ≤ x2.toInt ∧ x2.toInt ≤ 3 ∧ 0 ≤ x3.toInt ∧ x3.toInt ≤ 60)) → (60 - v4.toInt).toNat < n74 → W p l e (tRm 2 45) s m ([.ref h0, .int x1, .int x2, .int x3] : List Value).toArray below meth c H locs 0 0 (MQ below (mfQi G σ cu X T (fun r w => r.toInt = tTape x1.toInt x2.toInt x3.toInt ∧ w = (wTape T x1 x2 x3, wTapeF F x1 x2 x3))) ([.ref h0, .int x1, .int x2, .int x3] : List Value).toArray s 0 0 (mA (σ, cu, vX X T))) (F0 m 74 ls []) := by
    intro n74
    induction n74 with
    | zero => intro H locs ls v4 hG hF hl bp1 cp1 b4 c4 hex74 hn74; exact absurd hn74 (Nat.not_lt_zero _)
    | succ n74 ih74 =>
      intro H locs ls v4 hG hF hl bp1 cp1 b4 c4 hex74 hn74
      refine lv_iload hx hb dX10_tape_74 (lv_at hl 2 rfl) ?_
      refine lv_bipush (v := 60) hx hb dX10_tape_76 (by decide) ?_
      refine lv_icmp_ge (tgt := 100) hx hb dX10_tape_78 (by decide) (fun c1 => ?_) (fun c1 => ?_)
      · skip
        have ic1 := tn_le kI_60 rfl c1
        refine lv_iconst (v := 1) hx hb dX10_tape_100 (by decide) ?_
        have ew : (1 : Int32).toInt = tTape x1.toInt x2.toInt x3.toInt := by (have kk := kI_1; unfold tTape; split <;> (try split) <;> (try split) <;> (try split) <;> omega)
        have hF : rF G (wTapeF F x1 x2 x3) H := by
          unfold wTapeF
          rw [if_pos (by rw [← ew]; decide)]
          refine hF.eq (fun i9 j9 hi9 hj9 => ?_)
          unfold zF upF
          by_cases e9 : i9 = x1.toInt.toNat
          · rw [if_pos ⟨e9, by omega⟩, if_pos e9]
          · rw [if_neg (fun z => e9 z.1), if_neg e9]
        exact mf_iret E hr hlk hG hF (show (1 : Int32).toInt = tTape x1.toInt x2.toInt x3.toInt ∧ (wTape T x1 x2 x3, wTapeF F x1 x2 x3) = (wTape T x1 x2 x3, wTapeF F x1 x2 x3) from ⟨ew, rfl⟩) dX10_tape_101
      · skip
        have ic1 := tn_nle kI_60 rfl c1
        refine lv_aload_n hx hb dX10_tape_81 rfl (lv_at hl 0 rfl) ?_
        refine mf_get E hG t0 ff_X10_78 (u := 16) rfl dX10_tape_82 ?_
        refine lv_bipush (v := 60) hx hb dX10_tape_85 (by decide) ?_
        refine lv_iload_n hx hb dX10_tape_87 rfl (lv_at hl 1 rfl) ?_
        refine lv_imul hx hb dX10_tape_88 ?_
        refine lv_topi (fun z3 ez3 => ?_)
        have tz3 := tn_mul ez3 kI_60 rfl (by omega) (by omega)
        refine lv_iload hx hb dX10_tape_89 (lv_at hl 2 rfl) ?_
        refine lv_iadd hx hb dX10_tape_91 ?_
        refine lv_topi (fun z4 ez4 => ?_)
        have tz4 := tn_add ez4 rfl rfl (by omega) (by omega)
        refine lv_lconst (v := 0) hx hb dX10_tape_92 (by decide) ?_
        refine lv_topl (fun z5 ez5 => ?_)
        have tz5 : z5.toInt = 0 := by rw [ez5]; decide
        refine mf_last E hG hF tb3 (t_in (by omega) (by omega)) dX10_tape_93 (fun H locs hG hF _ => ?_)
        obtain ⟨z6, ez6⟩ : ∃ y : Int32, y = v4 + (1) := ⟨_, rfl⟩
        refine lv_iinc (v := z6) (lv' := [(4, .int z6), (0, .ref h0), (1, .int x1)]) hx hb dX10_tape_94 hl (k := 2) rfl (by rw [ez6]; rfl) (by decide) rfl (fun ls hl => ?_)
        have tz6 := tn_add ez6 rfl kI_1 (by omega) (by omega)
        refine lv_goto (tgt := 74) hx hb dX10_tape_97 (by decide) ?_
        rw [show z4.toInt.toNat = 60 * x1.toInt.toNat + v4.toInt.toNat by omega, show z5 = 0 from ez5, zF_up (by omega) (by omega), show v4.toInt + 1 = z6.toInt by omega] at hF
        exact ih74 H locs ls z6 hG hF (lv_sub hl [1, 2, 0] rfl) (by omega) (by omega) (by omega) (by omega) (by have k0 := kI_0; have k1 := kI_1; omega) (by omega)
  refine lv_iload_n hx hb dX10_tape_0 rfl (lv_at hl 1 rfl) ?_
  refine tc_callp (mc_runS (As := [.int x1]) (rest := []) E hG (c_X10_isTape l G (σ, cu, vX X T) x1) ks_X10_isTape ml_X10_440 ⟨rfl, rfl, Nat.le_of_ble_eq_true rfl, Nat.le_of_ble_eq_true rfl⟩ rfl hl.1 rfl (Nat.le_of_ble_eq_true rfl) ⟨Nat.zero_le _, Nat.zero_le _⟩ dX10_tape_1) (fun r7 pr7 => ?_)
  replace pr7 : (r7.toInt = 1 ∧ 0 ≤ x1.toInt ∧ x1.toInt ≤ 3) ∨ (r7.toInt = 0 ∧ (x1.toInt < 0 ∨ 3 < x1.toInt)) := pr7
  refine lv_if_ne (tgt := 9) hx hb dX10_tape_4 (by decide) (fun c8 => ?_) (fun c8 => ?_)
  · skip
    have ic8 := tn_ne rfl kI_0 c8
    refine lv_iload_n hx hb dX10_tape_9 rfl (lv_at hl 2 rfl) ?_
    refine lv_i2l hx hb dX10_tape_10 rfl ?_
    refine lv_topl (fun z9 ez9 => ?_)
    have tz9 := tl_i2l ez9
    refine lv_ldc2 (v := -1) hx hb E.2.2.2.1 (E.2.2.2.2.1 _ (t_w8 146 rfl rfl)) dX10_tape_11 ?_
    refine lv_topl (fun z10 ez10 => ?_)
    have tz10 : z10.toInt = -1 := by rw [ez10]; decide
    refine lv_ldc2 (v := 3) hx hb E.2.2.2.1 (E.2.2.2.2.1 _ (t_w7 212 rfl rfl)) dX10_tape_14 ?_
    refine lv_topl (fun z11 ez11 => ?_)
    have tz11 : z11.toInt = 3 := by rw [ez11]; decide
    refine tc_callp (mc_runS (As := [.long z9, .long z10, .long z11]) (rest := []) E hG (c_X10_in l G (σ, cu, vX X T) z9 z10 z11) ks_X10_in ml_X10_87 ⟨rfl, rfl, Nat.le_of_ble_eq_true rfl, Nat.le_of_ble_eq_true rfl⟩ rfl hl.1 rfl (Nat.le_of_ble_eq_true rfl) ⟨Nat.zero_le _, Nat.zero_le _⟩ dX10_tape_17) (fun r12 pr12 => ?_)
    replace pr12 : ((r12.toInt = 1 ∧ z10.toInt ≤ z9.toInt ∧ z9.toInt ≤ z11.toInt) ∨ (r12.toInt = 0 ∧ (z9.toInt < z10.toInt ∨ z11.toInt < z9.toInt))) := pr12
    refine lv_if_eq (tgt := 33) hx hb dX10_tape_20 (by decide) (fun c13 => ?_) (fun c13 => ?_)
    · skip
      have ic13 := tn_eq rfl kI_0 c13
      refine lv_bipush (v := -2) hx hb dX10_tape_33 (by decide) ?_
      have et : tTape x1.toInt x2.toInt x3.toInt = -2 := by (unfold tTape; split <;> (try split) <;> (try split) <;> (try split) <;> omega)
      exact mf_iret E hr hlk hG hF (show (-2 : Int32).toInt = tTape x1.toInt x2.toInt x3.toInt ∧ (T, F) = (wTape T x1 x2 x3, wTapeF F x1 x2 x3) from ⟨by rw [et]; exact kI_m2, by unfold wTape wTapeF; rw [if_neg (by rw [et]; decide), if_neg (by rw [et]; decide)]⟩) dX10_tape_35
    · skip
      have ic13 := tn_ne rfl kI_0 c13
      refine lv_iload_n hx hb dX10_tape_23 rfl (lv_at hl 2 rfl) ?_
      refine lv_if_lt (tgt := 36) hx hb dX10_tape_24 (by decide) (fun c14 => ?_) (fun c14 => ?_)
      · skip
        have ic14 := tn_lt rfl kI_0 c14
        refine lv_iload_n hx hb dX10_tape_36 rfl (lv_at hl 2 rfl) ?_
        refine lv_if_lt (tgt := 47) hx hb dX10_tape_37 (by decide) (fun c15 => ?_) (fun c15 => ?_)
        · skip
          have ic15 := tn_lt rfl kI_0 c15
          refine lv_aload_n hx hb dX10_tape_47 rfl (lv_at hl 0 rfl) ?_
          refine mc_getT E hG t0 tb1 ff_X10_72 rfl dX10_tape_48 (fun oa16 hoa16 => ?_)
          refine lv_iload_n hx hb dX10_tape_51 rfl (lv_at hl 1 rfl) ?_
          refine lv_iload_n hx hb dX10_tape_52 rfl (lv_at hl 2 rfl) ?_
          refine lv_iconst (v := 1) hx hb dX10_tape_53 (by decide) ?_
          refine lv_iadd hx hb dX10_tape_54 ?_
          refine lv_topi (fun z17 ez17 => ?_)
          have tz17 := tn_add ez17 rfl kI_1 (by omega) (by omega)
          refine mf_ast1 E hG hF tb3 hoa16 (t_in (by omega) (by omega)) ez17 (by omega) (by omega) dX10_tape_55 (fun H locs hG hF => ?_)
          refine lv_aload_n hx hb dX10_tape_56 rfl (lv_at hl 0 rfl) ?_
          refine mc_getT E hG t0 tb2 ff_X10_75 rfl dX10_tape_57 (fun oa18 hoa18 => ?_)
          refine lv_iload_n hx hb dX10_tape_60 rfl (lv_at hl 1 rfl) ?_
          refine lv_iload_n hx hb dX10_tape_61 rfl (lv_at hl 2 rfl) ?_
          refine lv_if_ge (tgt := 69) hx hb dX10_tape_62 (by decide) (fun c19 => ?_) (fun c19 => ?_)
          · exfalso
            have ic19 := tn_le kI_0 rfl c19
            omega
          · skip
            have ic19 := tn_nle kI_0 rfl c19
            refine lv_iconst (v := 0) hx hb dX10_tape_65 (by decide) ?_
            refine lv_goto (tgt := 70) hx hb dX10_tape_66 (by decide) ?_
            refine mf_ast2 E hG hF tb3 hoa18 (t_in (by omega) (by omega)) (by decide) (by decide) dX10_tape_70 (fun H locs hG hF => ?_)
            refine lv_iconst (v := 0) hx hb dX10_tape_71 (by decide) ?_
            refine lv_istore (lv' := [(4, .int 0), (0, .ref h0), (1, .int x1), (2, .int x2), (3, .int x3)]) hx hb dX10_tape_72 hl (by decide) rfl (fun ls hl => ?_)
            have et : tTape x1.toInt x2.toInt x3.toInt = 1 := by (unfold tTape; split <;> (try split) <;> (try split) <;> (try split) <;> omega)
            have eT : wTape T x1 x2 x3 = (up1 T.1 x1.toInt.toNat x2, up1 T.2 x1.toInt.toNat 0) := by unfold wTape; rw [if_pos et, if_pos (by omega)]
            exact J74 ((60 - (0 : Int32).toInt).toNat + 1) H locs ls (0 : Int32) (by rw [eT]; exact hG) (by rw [zF_0 kI_0]; exact hF) (lv_sub hl [1, 2, 0] rfl) (by omega) (by omega) (by decide) (by decide) (by have k0 := kI_0; have k1 := kI_1; omega) (Nat.lt_succ_self _)
        · exfalso
          have ic15 := tn_nlt rfl kI_0 c15
          omega
      · skip
        have ic14 := tn_nlt rfl kI_0 c14
        refine lv_iload_n hx hb dX10_tape_27 rfl (lv_at hl 3 rfl) ?_
        refine lv_bipush (v := 60) hx hb dX10_tape_28 (by decide) ?_
        refine lv_icmp_le (tgt := 36) hx hb dX10_tape_30 (by decide) (fun c20 => ?_) (fun c20 => ?_)
        · skip
          have ic20 := tn_le rfl kI_60 c20
          refine lv_iload_n hx hb dX10_tape_36 rfl (lv_at hl 2 rfl) ?_
          refine lv_if_lt (tgt := 47) hx hb dX10_tape_37 (by decide) (fun c21 => ?_) (fun c21 => ?_)
          · exfalso
            have ic21 := tn_lt rfl kI_0 c21
            omega
          · skip
            have ic21 := tn_nlt rfl kI_0 c21
            refine lv_iload_n hx hb dX10_tape_40 rfl (lv_at hl 3 rfl) ?_
            refine lv_if_ge (tgt := 47) hx hb dX10_tape_41 (by decide) (fun c22 => ?_) (fun c22 => ?_)
            · skip
              have ic22 := tn_le kI_0 rfl c22
              refine lv_aload_n hx hb dX10_tape_47 rfl (lv_at hl 0 rfl) ?_
              refine mc_getT E hG t0 tb1 ff_X10_72 rfl dX10_tape_48 (fun oa23 hoa23 => ?_)
              refine lv_iload_n hx hb dX10_tape_51 rfl (lv_at hl 1 rfl) ?_
              refine lv_iload_n hx hb dX10_tape_52 rfl (lv_at hl 2 rfl) ?_
              refine lv_iconst (v := 1) hx hb dX10_tape_53 (by decide) ?_
              refine lv_iadd hx hb dX10_tape_54 ?_
              refine lv_topi (fun z24 ez24 => ?_)
              have tz24 := tn_add ez24 rfl kI_1 (by omega) (by omega)
              refine mf_ast1 E hG hF tb3 hoa23 (t_in (by omega) (by omega)) ez24 (by omega) (by omega) dX10_tape_55 (fun H locs hG hF => ?_)
              refine lv_aload_n hx hb dX10_tape_56 rfl (lv_at hl 0 rfl) ?_
              refine mc_getT E hG t0 tb2 ff_X10_75 rfl dX10_tape_57 (fun oa25 hoa25 => ?_)
              refine lv_iload_n hx hb dX10_tape_60 rfl (lv_at hl 1 rfl) ?_
              refine lv_iload_n hx hb dX10_tape_61 rfl (lv_at hl 2 rfl) ?_
              refine lv_if_ge (tgt := 69) hx hb dX10_tape_62 (by decide) (fun c26 => ?_) (fun c26 => ?_)
              · skip
                have ic26 := tn_le kI_0 rfl c26
                refine lv_iload_n hx hb dX10_tape_69 rfl (lv_at hl 3 rfl) ?_
                refine mf_ast2 E hG hF tb3 hoa25 (t_in (by omega) (by omega)) (by omega) (by omega) dX10_tape_70 (fun H locs hG hF => ?_)
                refine lv_iconst (v := 0) hx hb dX10_tape_71 (by decide) ?_
                refine lv_istore (lv' := [(4, .int 0), (0, .ref h0), (1, .int x1), (2, .int x2), (3, .int x3)]) hx hb dX10_tape_72 hl (by decide) rfl (fun ls hl => ?_)
                have et : tTape x1.toInt x2.toInt x3.toInt = 1 := by (unfold tTape; split <;> (try split) <;> (try split) <;> (try split) <;> omega)
                have eT : wTape T x1 x2 x3 = (up1 T.1 x1.toInt.toNat x2, up1 T.2 x1.toInt.toNat x3) := by unfold wTape; rw [if_pos et, if_neg (by omega)]
                exact J74 ((60 - (0 : Int32).toInt).toNat + 1) H locs ls (0 : Int32) (by rw [eT]; exact hG) (by rw [zF_0 kI_0]; exact hF) (lv_sub hl [1, 2, 0] rfl) (by omega) (by omega) (by decide) (by decide) (by have k0 := kI_0; have k1 := kI_1; omega) (Nat.lt_succ_self _)
              · exfalso
                have ic26 := tn_nle kI_0 rfl c26
                omega
            · skip
              have ic22 := tn_nle kI_0 rfl c22
              refine lv_bipush (v := -14) hx hb dX10_tape_44 (by decide) ?_
              have et : tTape x1.toInt x2.toInt x3.toInt = -14 := by (unfold tTape; split <;> (try split) <;> (try split) <;> (try split) <;> omega)
              exact mf_iret E hr hlk hG hF (show (-14 : Int32).toInt = tTape x1.toInt x2.toInt x3.toInt ∧ (T, F) = (wTape T x1 x2 x3, wTapeF F x1 x2 x3) from ⟨by rw [et]; exact kI_m14, by unfold wTape wTapeF; rw [if_neg (by rw [et]; decide), if_neg (by rw [et]; decide)]⟩) dX10_tape_46
        · skip
          have ic20 := tn_nle rfl kI_60 c20
          refine lv_bipush (v := -2) hx hb dX10_tape_33 (by decide) ?_
          have et : tTape x1.toInt x2.toInt x3.toInt = -2 := by (unfold tTape; split <;> (try split) <;> (try split) <;> (try split) <;> omega)
          exact mf_iret E hr hlk hG hF (show (-2 : Int32).toInt = tTape x1.toInt x2.toInt x3.toInt ∧ (T, F) = (wTape T x1 x2 x3, wTapeF F x1 x2 x3) from ⟨by rw [et]; exact kI_m2, by unfold wTape wTapeF; rw [if_neg (by rw [et]; decide), if_neg (by rw [et]; decide)]⟩) dX10_tape_35
  · skip
    have ic8 := tn_eq rfl kI_0 c8
    refine lv_iconst (v := -1) hx hb dX10_tape_7 (by decide) ?_
    have et : tTape x1.toInt x2.toInt x3.toInt = -1 := by (unfold tTape; split <;> (try split) <;> (try split) <;> (try split) <;> omega)
    exact mf_iret E hr hlk hG hF (show (-1 : Int32).toInt = tTape x1.toInt x2.toInt x3.toInt ∧ (T, F) = (wTape T x1 x2 x3, wTapeF F x1 x2 x3) from ⟨by rw [et]; exact kI_m1, by unfold wTape wTapeF; rw [if_neg (by rw [et]; decide), if_neg (by rw [et]; decide)]⟩) dX10_tape_8

set_option maxHeartbeats 4000000 in
set_option maxRecDepth 100000 in
theorem v4_X10_shift (l : Launch) (G : tG) (σ : Nat → Nat) (cu : Nat) (X : mX) (T : wT) (F : wFF) (h0 : Nat) (x1 : Int32) (x2 : Int32) (x3 : Int32) (x4 : Int32) (x5 : Int32) (t0 : σ h0 = 1) (tb1 : σ (G.2.2.1 14) = 21) (tb2 : σ (G.2.2.1 15) = 22) (tb3 : σ (G.2.2.1 16) = 23) (tb4 : σ (G.2.2.1 17) = 24) (hI : wIn T) (hD : wDn G 18) : Met l yX10_shift (.code yX10_shift cX10_shift 7 (some .int) :: tWS) (tRm 2 45) (va_Pc [.ref h0, .int x1, .int x2, .int x3, .int x4, .int x5] (mfPre G (σ, cu, vX X T) F)) (mfQi G σ cu X T (fun r w => r.toInt = wShift T x1.toInt x2.toInt x3.toInt x4.toInt x5.toInt ∧ w = (T, wShiftF T F x1 x2 x3 x4 x5))) 0 0 (mA (σ, cu, vX X T)) := by
  refine mf_met (by decide) (Nat.le_of_ble_eq_true rfl) ?_
  intro p e s m below meth c E hr hlk hG hF ls hl
  have hl : lv_has ls 7 [(0, .ref h0), (1, .int x1), (2, .int x2), (3, .int x3), (4, .int x4), (5, .int x5)] := hl
  have hx := E.1
  have hb := E.2.1
  obtain ⟨H, eH⟩ : ∃ H, H = s.heap := ⟨_, rfl⟩
  obtain ⟨locs, eL⟩ : ∃ x : List Loc, x = [] := ⟨_, rfl⟩
  have hG : mGH G (σ, cu, vX X T) s H locs := by rw [eH, eL]; exact hG
  have hF : rF G F H := by rw [eH]; exact hF
  suffices hW : W p l e (tRm 2 45) s m ([.ref h0, .int x1, .int x2, .int x3, .int x4, .int x5] : List Value).toArray below meth c H locs 0 0 (MQ below (mfQi G σ cu X T (fun r w => r.toInt = wShift T x1.toInt x2.toInt x3.toInt x4.toInt x5.toInt ∧ w = (T, wShiftF T F x1 x2 x3 x4 x5))) ([.ref h0, .int x1, .int x2, .int x3, .int x4, .int x5] : List Value).toArray s 0 0 (mA (σ, cu, vX X T))) (F0 m 0 ls []) by subst eH; subst eL; exact hW
  clear eH eL
  have hcu : mCu cu := hG.2.2.1
  have J147 : ∀ (n147 : Nat) (H : Heap) (locs : List Loc) (ls : Array Slot) (v6 : Int32) (B : Nat → Int64) (F1 : wFF), mGH G (σ, cu, vX X T) s H locs → rF G F1 H → bF G B H → (∀ k : Nat, (k : Int) < x5.toInt → B k = F x1.toInt.toNat (x2.toInt.toNat + k)) → (∀ a b, a < 4 → b < 60 → F1 a b = sF F x1.toInt.toNat x2.toInt.toNat x3.toInt.toNat x4.toInt.toNat v6.toInt a b) → v6.toInt ≤ x5.toInt → lv_has ls 7 [(0, .ref h0), (3, .int x3), (4, .int x4), (5, .int x5), (6, .int v6)] → 0 ≤ x3.toInt → x3.toInt ≤ 3 → 0 ≤ x4.toInt → 0 ≤ x5.toInt → 0 ≤ v6.toInt → v6.toInt ≤ 60 → (0 ≤ x2.toInt ∧ 0 ≤ x4.toInt ∧ 0 ≤ x5.toInt ∧ x2.toInt + x5.toInt ≤ 60 ∧ x4.toInt + x5.toInt ≤ 60 ∧ wShift T x1.toInt x2.toInt x3.toInt x4.toInt x5.toInt = x5.toInt) → (60 - v6.toInt).toNat < n147 → W p l e (tRm 2 45) s m ([.ref h0, .int x1, .int x2, .int x3, .int x4, .int x5] : List Value).toArray below meth c H locs 0 0 (MQ below (mfQi G σ cu X T (fun r w => r.toInt = wShift T x1.toInt x2.toInt x3.toInt x4.toInt x5.toInt ∧ w = (T, wShiftF T F x1 x2 x3 x4 x5))) ([.ref h0, .int x1, .int x2, .int x3, .int x4, .int x5] : List Value).toArray s 0 0 (mA (σ, cu, vX X T))) (F0 m 147 ls []) := by
    intro n147
    induction n147 with
    | zero => intro H locs ls v6 B F1 hG hF1 hB hBk hSk hv6 hl bp3 cp3 bp4 bp5 b6 c6 hex147 hn147; exact absurd hn147 (Nat.not_lt_zero _)
    | succ n147 ih147 =>
      intro H locs ls v6 B F1 hG hF1 hB hBk hSk hv6 hl bp3 cp3 bp4 bp5 b6 c6 hex147 hn147
      refine lv_iload hx hb dX10_shift_147 (lv_at hl 4 rfl) ?_
      refine lv_iload hx hb dX10_shift_149 (lv_at hl 3 rfl) ?_
      refine lv_icmp_ge (tgt := 182) hx hb dX10_shift_151 (by decide) (fun c1 => ?_) (fun c1 => ?_)
      · skip
        have ic1 := tn_le rfl rfl c1
        refine lv_iload hx hb dX10_shift_182 (lv_at hl 3 rfl) ?_
        have ew : x5.toInt = wShift T x1.toInt x2.toInt x3.toInt x4.toInt x5.toInt := by omega
        have hF1 : rF G (wShiftF T F x1 x2 x3 x4 x5) H := by
          unfold wShiftF
          rw [if_pos (by omega)]
          exact hF1.eq (fun a b ha hb => by rw [hSk a b ha hb]; exact sF_is (by omega))
        exact mf_iret E hr hlk hG hF1 (show x5.toInt = wShift T x1.toInt x2.toInt x3.toInt x4.toInt x5.toInt ∧ (T, wShiftF T F x1 x2 x3 x4 x5) = (T, wShiftF T F x1 x2 x3 x4 x5) from ⟨ew, rfl⟩) dX10_shift_184
      · skip
        have ic1 := tn_nle rfl rfl c1
        refine lv_aload_n hx hb dX10_shift_154 rfl (lv_at hl 0 rfl) ?_
        refine mf_get E hG t0 ff_X10_78 (u := 16) rfl dX10_shift_155 ?_
        refine lv_bipush (v := 60) hx hb dX10_shift_158 (by decide) ?_
        refine lv_iload_n hx hb dX10_shift_160 rfl (lv_at hl 1 rfl) ?_
        refine lv_imul hx hb dX10_shift_161 ?_
        refine lv_topi (fun z3 ez3 => ?_)
        have tz3 := tn_mul ez3 kI_60 rfl (by omega) (by omega)
        refine lv_iload hx hb dX10_shift_162 (lv_at hl 2 rfl) ?_
        refine lv_iadd hx hb dX10_shift_164 ?_
        refine lv_topi (fun z4 ez4 => ?_)
        have tz4 := tn_add ez4 rfl rfl (by omega) (by omega)
        refine lv_iload hx hb dX10_shift_165 (lv_at hl 4 rfl) ?_
        refine lv_iadd hx hb dX10_shift_167 ?_
        refine lv_topi (fun z5 ez5 => ?_)
        have tz5 := tn_add ez5 rfl rfl (by omega) (by omega)
        refine lv_aload_n hx hb dX10_shift_168 rfl (lv_at hl 0 rfl) ?_
        refine mf_get E hG t0 ff_X10_82 (u := 17) rfl dX10_shift_169 ?_
        refine lv_iload hx hb dX10_shift_172 (lv_at hl 4 rfl) ?_
        refine mf_laldB E hB (t_in (by omega) (by omega)) dX10_shift_174 ?_
        refine mf_last E hG hF1 tb3 (t_in (by omega) (by omega)) dX10_shift_175 (fun H locs hG hF1 oq => ?_)
        obtain ⟨z8, ez8⟩ : ∃ y : Int32, y = v6 + (1) := ⟨_, rfl⟩
        refine lv_iinc (v := z8) (lv' := [(6, .int z8), (0, .ref h0), (3, .int x3), (4, .int x4), (5, .int x5)]) hx hb dX10_shift_176 hl (k := 4) rfl (by rw [ez8]; rfl) (by decide) rfl (fun ls hl => ?_)
        have tz8 := tn_add ez8 rfl kI_1 (by omega) (by omega)
        refine lv_goto (tgt := 147) hx hb dX10_shift_179 (by decide) ?_
        rw [show z5.toInt.toNat = 60 * x3.toInt.toNat + (x4.toInt.toNat + v6.toInt.toNat) by omega] at hF1
        exact ih147 H locs ls z8 B _ hG hF1 (hB.keep hD oq) hBk (fun a b ha hb => by rw [show z8.toInt = v6.toInt + 1 by omega]; exact sF_up (by omega) (by omega) hSk (hBk _ (by omega)) a b ha hb) (by omega) (lv_sub hl [1, 2, 3, 4, 0] rfl) (by omega) (by omega) (by omega) (by omega) (by omega) (by omega) (by have k0 := kI_0; have k1 := kI_1; omega) (by omega)
  have J110 : ∀ (n110 : Nat) (H : Heap) (locs : List Loc) (ls : Array Slot) (v6 : Int32) (B : Nat → Int64), mGH G (σ, cu, vX X T) s H locs → rF G F H → bF G B H → (∀ k : Nat, (k : Int) < v6.toInt → B k = F x1.toInt.toNat (x2.toInt.toNat + k)) → lv_has ls 7 [(0, .ref h0), (1, .int x1), (2, .int x2), (3, .int x3), (4, .int x4), (5, .int x5), (6, .int v6)] → 0 ≤ x1.toInt → x1.toInt ≤ 3 → 0 ≤ x2.toInt → 0 ≤ x3.toInt → x3.toInt ≤ 3 → 0 ≤ x4.toInt → 0 ≤ x5.toInt → 0 ≤ v6.toInt → v6.toInt ≤ 60 → (0 ≤ x2.toInt ∧ 0 ≤ x4.toInt ∧ 0 ≤ x5.toInt ∧ x2.toInt + x5.toInt ≤ 60 ∧ x4.toInt + x5.toInt ≤ 60 ∧ wShift T x1.toInt x2.toInt x3.toInt x4.toInt x5.toInt = x5.toInt) → (60 - v6.toInt).toNat < n110 → W p l e (tRm 2 45) s m ([.ref h0, .int x1, .int x2, .int x3, .int x4, .int x5] : List Value).toArray below meth c H locs 0 0 (MQ below (mfQi G σ cu X T (fun r w => r.toInt = wShift T x1.toInt x2.toInt x3.toInt x4.toInt x5.toInt ∧ w = (T, wShiftF T F x1 x2 x3 x4 x5))) ([.ref h0, .int x1, .int x2, .int x3, .int x4, .int x5] : List Value).toArray s 0 0 (mA (σ, cu, vX X T))) (F0 m 110 ls []) := by
    intro n110
    induction n110 with
    | zero => intro H locs ls v6 B hG hF hB hBk hl bp1 cp1 bp2 bp3 cp3 bp4 bp5 b6 c6 hex110 hn110; exact absurd hn110 (Nat.not_lt_zero _)
    | succ n110 ih110 =>
      intro H locs ls v6 B hG hF hB hBk hl bp1 cp1 bp2 bp3 cp3 bp4 bp5 b6 c6 hex110 hn110
      refine lv_iload hx hb dX10_shift_110 (lv_at hl 6 rfl) ?_
      refine lv_iload hx hb dX10_shift_112 (lv_at hl 5 rfl) ?_
      refine lv_icmp_ge (tgt := 144) hx hb dX10_shift_114 (by decide) (fun c9 => ?_) (fun c9 => ?_)
      · skip
        have ic9 := tn_le rfl rfl c9
        refine lv_iconst (v := 0) hx hb dX10_shift_144 (by decide) ?_
        refine lv_istore (lv' := [(6, .int 0), (0, .ref h0), (1, .int x1), (2, .int x2), (3, .int x3), (4, .int x4), (5, .int x5)]) hx hb dX10_shift_145 hl (by decide) rfl (fun ls hl => ?_)
        exact J147 ((60 - (0 : Int32).toInt).toNat + 1) H locs ls (0 : Int32) B F hG hF hB (fun k hk => hBk k (by omega)) (fun a b _ _ => sF_0 kI_0 a b) (by have k0 := kI_0; omega) (lv_sub hl [1, 4, 5, 6, 0] rfl) (by omega) (by omega) (by omega) (by omega) (by decide) (by decide) (by have k0 := kI_0; have k1 := kI_1; omega) (Nat.lt_succ_self _)
      · skip
        have ic9 := tn_nle rfl rfl c9
        refine lv_aload_n hx hb dX10_shift_117 rfl (lv_at hl 0 rfl) ?_
        refine mf_get E hG t0 ff_X10_82 (u := 17) rfl dX10_shift_118 ?_
        refine lv_iload hx hb dX10_shift_121 (lv_at hl 6 rfl) ?_
        refine lv_aload_n hx hb dX10_shift_123 rfl (lv_at hl 0 rfl) ?_
        refine mf_get E hG t0 ff_X10_78 (u := 16) rfl dX10_shift_124 ?_
        refine lv_bipush (v := 60) hx hb dX10_shift_127 (by decide) ?_
        refine lv_iload_n hx hb dX10_shift_129 rfl (lv_at hl 1 rfl) ?_
        refine lv_imul hx hb dX10_shift_130 ?_
        refine lv_topi (fun z12 ez12 => ?_)
        have tz12 := tn_mul ez12 kI_60 rfl (by omega) (by omega)
        refine lv_iload_n hx hb dX10_shift_131 rfl (lv_at hl 2 rfl) ?_
        refine lv_iadd hx hb dX10_shift_132 ?_
        refine lv_topi (fun z13 ez13 => ?_)
        have tz13 := tn_add ez13 rfl rfl (by omega) (by omega)
        refine lv_iload hx hb dX10_shift_133 (lv_at hl 6 rfl) ?_
        refine lv_iadd hx hb dX10_shift_135 ?_
        refine lv_topi (fun z14 ez14 => ?_)
        have tz14 := tn_add ez14 rfl rfl (by omega) (by omega)
        refine mf_lald E hF (t_in (by omega) (by omega)) dX10_shift_136 ?_
        refine mf_lastB E hD hG hF hB tb4 (t_in (by omega) (by omega)) dX10_shift_137 (fun H locs hG hF hB => ?_)
        obtain ⟨z16, ez16⟩ : ∃ y : Int32, y = v6 + (1) := ⟨_, rfl⟩
        refine lv_iinc (v := z16) (lv' := [(6, .int z16), (0, .ref h0), (1, .int x1), (2, .int x2), (3, .int x3), (4, .int x4), (5, .int x5)]) hx hb dX10_shift_138 hl (k := 6) rfl (by rw [ez16]; rfl) (by decide) rfl (fun ls hl => ?_)
        have tz16 := tn_add ez16 rfl kI_1 (by omega) (by omega)
        refine lv_goto (tgt := 110) hx hb dX10_shift_141 (by decide) ?_
        have hBn : ∀ k : Nat, (k : Int) < z16.toInt → upL B v6.toInt.toNat (F (z14.toInt.toNat / 60) (z14.toInt.toNat % 60)) k = F x1.toInt.toNat (x2.toInt.toNat + k) := fun k hk => by
          by_cases e9 : k = v6.toInt.toNat
          · rw [e9, upL_at, show z14.toInt.toNat / 60 = x1.toInt.toNat by omega, show z14.toInt.toNat % 60 = x2.toInt.toNat + v6.toInt.toNat by omega]
          · rw [upL_ne e9]; exact hBk k (by omega)
        exact ih110 H locs ls z16 _ hG hF hB hBn (lv_sub hl [1, 2, 3, 4, 5, 6, 0] rfl) (by omega) (by omega) (by omega) (by omega) (by omega) (by omega) (by omega) (by omega) (by omega) (by have k0 := kI_0; have k1 := kI_1; omega) (by omega)
  refine lv_iload_n hx hb dX10_shift_0 rfl (lv_at hl 1 rfl) ?_
  refine tc_callp (mc_runS (As := [.int x1]) (rest := []) E hG (c_X10_isTape l G (σ, cu, vX X T) x1) ks_X10_isTape ml_X10_440 ⟨rfl, rfl, Nat.le_of_ble_eq_true rfl, Nat.le_of_ble_eq_true rfl⟩ rfl hl.1 rfl (Nat.le_of_ble_eq_true rfl) ⟨Nat.zero_le _, Nat.zero_le _⟩ dX10_shift_1) (fun r17 pr17 => ?_)
  replace pr17 : (r17.toInt = 1 ∧ 0 ≤ x1.toInt ∧ x1.toInt ≤ 3) ∨ (r17.toInt = 0 ∧ (x1.toInt < 0 ∨ 3 < x1.toInt)) := pr17
  refine lv_if_eq (tgt := 14) hx hb dX10_shift_4 (by decide) (fun c18 => ?_) (fun c18 => ?_)
  · skip
    have ic18 := tn_eq rfl kI_0 c18
    refine lv_iconst (v := -1) hx hb dX10_shift_14 (by decide) ?_
    have ew : (-1 : Int32).toInt = wShift T x1.toInt x2.toInt x3.toInt x4.toInt x5.toInt := by (have kk := kI_m1; unfold wShift; (repeat first | rw [if_pos (by omega)] | rw [if_neg (by omega)]); first | done | omega)
    exact mf_iret E hr hlk hG hF (show (-1 : Int32).toInt = wShift T x1.toInt x2.toInt x3.toInt x4.toInt x5.toInt ∧ (T, F) = (T, wShiftF T F x1 x2 x3 x4 x5) from ⟨ew, by unfold wShiftF; rw [if_neg (by rw [← ew]; decide)]⟩) dX10_shift_15
  · skip
    have ic18 := tn_ne rfl kI_0 c18
    refine lv_iload_n hx hb dX10_shift_7 rfl (lv_at hl 3 rfl) ?_
    refine tc_callp (mc_runS (As := [.int x3]) (rest := []) E hG (c_X10_isTape l G (σ, cu, vX X T) x3) ks_X10_isTape ml_X10_440 ⟨rfl, rfl, Nat.le_of_ble_eq_true rfl, Nat.le_of_ble_eq_true rfl⟩ rfl hl.1 rfl (Nat.le_of_ble_eq_true rfl) ⟨Nat.zero_le _, Nat.zero_le _⟩ dX10_shift_8) (fun r19 pr19 => ?_)
    replace pr19 : (r19.toInt = 1 ∧ 0 ≤ x3.toInt ∧ x3.toInt ≤ 3) ∨ (r19.toInt = 0 ∧ (x3.toInt < 0 ∨ 3 < x3.toInt)) := pr19
    refine lv_if_ne (tgt := 16) hx hb dX10_shift_11 (by decide) (fun c20 => ?_) (fun c20 => ?_)
    · skip
      have ic20 := tn_ne rfl kI_0 c20
      refine lv_aload_n hx hb dX10_shift_16 rfl (lv_at hl 0 rfl) ?_
      refine mc_getT E hG t0 tb1 ff_X10_72 rfl dX10_shift_17 (fun oa21 hoa21 => ?_)
      refine lv_iload_n hx hb dX10_shift_20 rfl (lv_at hl 1 rfl) ?_
      refine mc_iald E hG hoa21 ma_21 (t_in (by omega) (by omega)) dX10_shift_21 (fun z22 lz22 uz22 qz22 => ?_)
      have kz22 := mv_21 hI qz22 (by omega) (by omega)
      refine lv_if_eq (tgt := 34) hx hb dX10_shift_22 (by decide) (fun c23 => ?_) (fun c23 => ?_)
      · skip
        have ic23 := tn_eq rfl kI_0 c23
        refine lv_bipush (v := -11) hx hb dX10_shift_34 (by decide) ?_
        have ew : (-11 : Int32).toInt = wShift T x1.toInt x2.toInt x3.toInt x4.toInt x5.toInt := by (have kk := kI_m11; unfold wShift; (repeat first | rw [if_pos (by omega)] | rw [if_neg (by omega)]); first | done | omega)
        exact mf_iret E hr hlk hG hF (show (-11 : Int32).toInt = wShift T x1.toInt x2.toInt x3.toInt x4.toInt x5.toInt ∧ (T, F) = (T, wShiftF T F x1 x2 x3 x4 x5) from ⟨ew, by unfold wShiftF; rw [if_neg (by rw [← ew]; decide)]⟩) dX10_shift_36
      · skip
        have ic23 := tn_ne rfl kI_0 c23
        refine lv_aload_n hx hb dX10_shift_25 rfl (lv_at hl 0 rfl) ?_
        refine mc_getT E hG t0 tb1 ff_X10_72 rfl dX10_shift_26 (fun oa24 hoa24 => ?_)
        refine lv_iload_n hx hb dX10_shift_29 rfl (lv_at hl 3 rfl) ?_
        refine mc_iald E hG hoa24 ma_21 (t_in (by omega) (by omega)) dX10_shift_30 (fun z25 lz25 uz25 qz25 => ?_)
        have kz25 := mv_21 hI qz25 (by omega) (by omega)
        refine lv_if_ne (tgt := 37) hx hb dX10_shift_31 (by decide) (fun c26 => ?_) (fun c26 => ?_)
        · skip
          have ic26 := tn_ne rfl kI_0 c26
          refine lv_aload_n hx hb dX10_shift_37 rfl (lv_at hl 0 rfl) ?_
          refine mc_getT E hG t0 tb1 ff_X10_72 rfl dX10_shift_38 (fun oa27 hoa27 => ?_)
          refine lv_iload_n hx hb dX10_shift_41 rfl (lv_at hl 1 rfl) ?_
          refine mc_iald E hG hoa27 ma_21 (t_in (by omega) (by omega)) dX10_shift_42 (fun z28 lz28 uz28 qz28 => ?_)
          have kz28 := mv_21 hI qz28 (by omega) (by omega)
          refine lv_aload_n hx hb dX10_shift_43 rfl (lv_at hl 0 rfl) ?_
          refine mc_getT E hG t0 tb1 ff_X10_72 rfl dX10_shift_44 (fun oa29 hoa29 => ?_)
          refine lv_iload_n hx hb dX10_shift_47 rfl (lv_at hl 3 rfl) ?_
          refine mc_iald E hG hoa29 ma_21 (t_in (by omega) (by omega)) dX10_shift_48 (fun z30 lz30 uz30 qz30 => ?_)
          have kz30 := mv_21 hI qz30 (by omega) (by omega)
          refine lv_icmp_eq (tgt := 55) hx hb dX10_shift_49 (by decide) (fun c31 => ?_) (fun c31 => ?_)
          · skip
            have ic31 := tn_eq rfl rfl c31
            refine lv_iload hx hb dX10_shift_55 (lv_at hl 5 rfl) ?_
            refine lv_if_lt (tgt := 104) hx hb dX10_shift_57 (by decide) (fun c32 => ?_) (fun c32 => ?_)
            · skip
              have ic32 := tn_lt rfl kI_0 c32
              refine lv_bipush (v := -13) hx hb dX10_shift_104 (by decide) ?_
              have ew : (-13 : Int32).toInt = wShift T x1.toInt x2.toInt x3.toInt x4.toInt x5.toInt := by (have kk := kI_m13; unfold wShift; (repeat first | rw [if_pos (by omega)] | rw [if_neg (by omega)]); first | done | omega)
              exact mf_iret E hr hlk hG hF (show (-13 : Int32).toInt = wShift T x1.toInt x2.toInt x3.toInt x4.toInt x5.toInt ∧ (T, F) = (T, wShiftF T F x1 x2 x3 x4 x5) from ⟨ew, by unfold wShiftF; rw [if_neg (by rw [← ew]; decide)]⟩) dX10_shift_106
            · skip
              have ic32 := tn_nlt rfl kI_0 c32
              refine lv_iload_n hx hb dX10_shift_60 rfl (lv_at hl 2 rfl) ?_
              refine lv_if_lt (tgt := 104) hx hb dX10_shift_61 (by decide) (fun c33 => ?_) (fun c33 => ?_)
              · skip
                have ic33 := tn_lt rfl kI_0 c33
                refine lv_bipush (v := -13) hx hb dX10_shift_104 (by decide) ?_
                have ew : (-13 : Int32).toInt = wShift T x1.toInt x2.toInt x3.toInt x4.toInt x5.toInt := by (have kk := kI_m13; unfold wShift; (repeat first | rw [if_pos (by omega)] | rw [if_neg (by omega)]); first | done | omega)
                exact mf_iret E hr hlk hG hF (show (-13 : Int32).toInt = wShift T x1.toInt x2.toInt x3.toInt x4.toInt x5.toInt ∧ (T, F) = (T, wShiftF T F x1 x2 x3 x4 x5) from ⟨ew, by unfold wShiftF; rw [if_neg (by rw [← ew]; decide)]⟩) dX10_shift_106
              · skip
                have ic33 := tn_nlt rfl kI_0 c33
                refine lv_iload hx hb dX10_shift_64 (lv_at hl 4 rfl) ?_
                refine lv_if_lt (tgt := 104) hx hb dX10_shift_66 (by decide) (fun c34 => ?_) (fun c34 => ?_)
                · skip
                  have ic34 := tn_lt rfl kI_0 c34
                  refine lv_bipush (v := -13) hx hb dX10_shift_104 (by decide) ?_
                  have ew : (-13 : Int32).toInt = wShift T x1.toInt x2.toInt x3.toInt x4.toInt x5.toInt := by (have kk := kI_m13; unfold wShift; (repeat first | rw [if_pos (by omega)] | rw [if_neg (by omega)]); first | done | omega)
                  exact mf_iret E hr hlk hG hF (show (-13 : Int32).toInt = wShift T x1.toInt x2.toInt x3.toInt x4.toInt x5.toInt ∧ (T, F) = (T, wShiftF T F x1 x2 x3 x4 x5) from ⟨ew, by unfold wShiftF; rw [if_neg (by rw [← ew]; decide)]⟩) dX10_shift_106
                · skip
                  have ic34 := tn_nlt rfl kI_0 c34
                  refine lv_iload_n hx hb dX10_shift_69 rfl (lv_at hl 2 rfl) ?_
                  refine lv_i2l hx hb dX10_shift_70 rfl ?_
                  refine lv_topl (fun z35 ez35 => ?_)
                  have tz35 := tl_i2l ez35
                  refine lv_iload hx hb dX10_shift_71 (lv_at hl 5 rfl) ?_
                  refine lv_i2l hx hb dX10_shift_73 rfl ?_
                  refine lv_topl (fun z36 ez36 => ?_)
                  have tz36 := tl_i2l ez36
                  refine lv_ladd hx hb dX10_shift_74 ?_
                  refine lv_topl (fun z37 ez37 => ?_)
                  have y38 := t_any2 x2
                  have y39 := t_any2 x5
                  have tz37 := tl_add ez37 tz35 tz36 (by omega) (by omega)
                  refine lv_aload_n hx hb dX10_shift_75 rfl (lv_at hl 0 rfl) ?_
                  refine mc_getT E hG t0 tb2 ff_X10_75 rfl dX10_shift_76 (fun oa40 hoa40 => ?_)
                  refine lv_iload_n hx hb dX10_shift_79 rfl (lv_at hl 1 rfl) ?_
                  refine mc_iald E hG hoa40 ma_22 (t_in (by omega) (by omega)) dX10_shift_80 (fun z41 lz41 uz41 qz41 => ?_)
                  have kz41 := mv_22 qz41 (by omega) (by omega)
                  refine lv_i2l hx hb dX10_shift_81 rfl ?_
                  refine lv_topl (fun z42 ez42 => ?_)
                  have tz42 := tl_i2l ez42
                  refine W.lcmp hx hb dX10_shift_82 ?_
                  refine lv_topi (fun z43 ez43 => ?_)
                  have tz43 := tl_cmp ez43
                  refine lv_if_gt (tgt := 104) hx hb dX10_shift_83 (by decide) (fun c44 => ?_) (fun c44 => ?_)
                  · skip
                    have ic44 := tn_lt kI_0 rfl c44
                    refine lv_bipush (v := -13) hx hb dX10_shift_104 (by decide) ?_
                    have ew : (-13 : Int32).toInt = wShift T x1.toInt x2.toInt x3.toInt x4.toInt x5.toInt := by (have kk := kI_m13; unfold wShift; (repeat first | rw [if_pos (by omega)] | rw [if_neg (by omega)]); first | done | omega)
                    exact mf_iret E hr hlk hG hF (show (-13 : Int32).toInt = wShift T x1.toInt x2.toInt x3.toInt x4.toInt x5.toInt ∧ (T, F) = (T, wShiftF T F x1 x2 x3 x4 x5) from ⟨ew, by unfold wShiftF; rw [if_neg (by rw [← ew]; decide)]⟩) dX10_shift_106
                  · skip
                    have ic44 := tn_nlt kI_0 rfl c44
                    refine lv_iload hx hb dX10_shift_86 (lv_at hl 4 rfl) ?_
                    refine lv_i2l hx hb dX10_shift_88 rfl ?_
                    refine lv_topl (fun z45 ez45 => ?_)
                    have tz45 := tl_i2l ez45
                    refine lv_iload hx hb dX10_shift_89 (lv_at hl 5 rfl) ?_
                    refine lv_i2l hx hb dX10_shift_91 rfl ?_
                    refine lv_topl (fun z46 ez46 => ?_)
                    have tz46 := tl_i2l ez46
                    refine lv_ladd hx hb dX10_shift_92 ?_
                    refine lv_topl (fun z47 ez47 => ?_)
                    have y48 := t_any2 x4
                    have y49 := t_any2 x5
                    have tz47 := tl_add ez47 tz45 tz46 (by omega) (by omega)
                    refine lv_aload_n hx hb dX10_shift_93 rfl (lv_at hl 0 rfl) ?_
                    refine mc_getT E hG t0 tb2 ff_X10_75 rfl dX10_shift_94 (fun oa50 hoa50 => ?_)
                    refine lv_iload_n hx hb dX10_shift_97 rfl (lv_at hl 3 rfl) ?_
                    refine mc_iald E hG hoa50 ma_22 (t_in (by omega) (by omega)) dX10_shift_98 (fun z51 lz51 uz51 qz51 => ?_)
                    have kz51 := mv_22 qz51 (by omega) (by omega)
                    refine lv_i2l hx hb dX10_shift_99 rfl ?_
                    refine lv_topl (fun z52 ez52 => ?_)
                    have tz52 := tl_i2l ez52
                    refine W.lcmp hx hb dX10_shift_100 ?_
                    refine lv_topi (fun z53 ez53 => ?_)
                    have tz53 := tl_cmp ez53
                    refine lv_if_le (tgt := 107) hx hb dX10_shift_101 (by decide) (fun c54 => ?_) (fun c54 => ?_)
                    · skip
                      have ic54 := tn_le rfl kI_0 c54
                      refine lv_iconst (v := 0) hx hb dX10_shift_107 (by decide) ?_
                      refine lv_istore (lv' := [(6, .int 0), (0, .ref h0), (1, .int x1), (2, .int x2), (3, .int x3), (4, .int x4), (5, .int x5)]) hx hb dX10_shift_108 hl (by decide) rfl (fun ls hl => ?_)
                      have hw : wShift T x1.toInt x2.toInt x3.toInt x4.toInt x5.toInt = x5.toInt := by (unfold wShift; (repeat first | rw [if_pos (by omega)] | rw [if_neg (by omega)]); first | done | omega)
                      obtain ⟨B, hB⟩ := mf_gainB hG tb4
                      exact J110 ((60 - (0 : Int32).toInt).toNat + 1) H locs ls (0 : Int32) B hG hF hB (fun k hk => absurd hk (by have k0 := kI_0; omega)) (lv_sub hl [1, 2, 3, 4, 5, 6, 0] rfl) (by omega) (by omega) (by omega) (by omega) (by omega) (by omega) (by omega) (by decide) (by decide) (by have k0 := kI_0; have k1 := kI_1; omega) (Nat.lt_succ_self _)
                    · skip
                      have ic54 := tn_nle rfl kI_0 c54
                      refine lv_bipush (v := -13) hx hb dX10_shift_104 (by decide) ?_
                      have ew : (-13 : Int32).toInt = wShift T x1.toInt x2.toInt x3.toInt x4.toInt x5.toInt := by (have kk := kI_m13; unfold wShift; (repeat first | rw [if_pos (by omega)] | rw [if_neg (by omega)]); first | done | omega)
                      exact mf_iret E hr hlk hG hF (show (-13 : Int32).toInt = wShift T x1.toInt x2.toInt x3.toInt x4.toInt x5.toInt ∧ (T, F) = (T, wShiftF T F x1 x2 x3 x4 x5) from ⟨ew, by unfold wShiftF; rw [if_neg (by rw [← ew]; decide)]⟩) dX10_shift_106
          · skip
            have ic31 := tn_ne rfl rfl c31
            refine lv_bipush (v := -12) hx hb dX10_shift_52 (by decide) ?_
            have ew : (-12 : Int32).toInt = wShift T x1.toInt x2.toInt x3.toInt x4.toInt x5.toInt := by (have kk := kI_m12; unfold wShift; (repeat first | rw [if_pos (by omega)] | rw [if_neg (by omega)]); first | done | omega)
            exact mf_iret E hr hlk hG hF (show (-12 : Int32).toInt = wShift T x1.toInt x2.toInt x3.toInt x4.toInt x5.toInt ∧ (T, F) = (T, wShiftF T F x1 x2 x3 x4 x5) from ⟨ew, by unfold wShiftF; rw [if_neg (by rw [← ew]; decide)]⟩) dX10_shift_54
        · skip
          have ic26 := tn_eq rfl kI_0 c26
          refine lv_bipush (v := -11) hx hb dX10_shift_34 (by decide) ?_
          have ew : (-11 : Int32).toInt = wShift T x1.toInt x2.toInt x3.toInt x4.toInt x5.toInt := by (have kk := kI_m11; unfold wShift; (repeat first | rw [if_pos (by omega)] | rw [if_neg (by omega)]); first | done | omega)
          exact mf_iret E hr hlk hG hF (show (-11 : Int32).toInt = wShift T x1.toInt x2.toInt x3.toInt x4.toInt x5.toInt ∧ (T, F) = (T, wShiftF T F x1 x2 x3 x4 x5) from ⟨ew, by unfold wShiftF; rw [if_neg (by rw [← ew]; decide)]⟩) dX10_shift_36
    · skip
      have ic20 := tn_eq rfl kI_0 c20
      refine lv_iconst (v := -1) hx hb dX10_shift_14 (by decide) ?_
      have ew : (-1 : Int32).toInt = wShift T x1.toInt x2.toInt x3.toInt x4.toInt x5.toInt := by (have kk := kI_m1; unfold wShift; (repeat first | rw [if_pos (by omega)] | rw [if_neg (by omega)]); first | done | omega)
      exact mf_iret E hr hlk hG hF (show (-1 : Int32).toInt = wShift T x1.toInt x2.toInt x3.toInt x4.toInt x5.toInt ∧ (T, F) = (T, wShiftF T F x1 x2 x3 x4 x5) from ⟨ew, by unfold wShiftF; rw [if_neg (by rw [← ew]; decide)]⟩) dX10_shift_15

set_option maxHeartbeats 4000000 in
set_option maxRecDepth 100000 in
theorem v4_X10_peek (l : Launch) (G : tG) (σ : Nat → Nat) (cu : Nat) (X : mX) (T : wT) (F : wFF) (h0 : Nat) (x1 : Int32) (x2 : Int32) (t0 : σ h0 = 1) (tb1 : σ (G.2.2.1 14) = 21) (tb2 : σ (G.2.2.1 15) = 22) (tb3 : σ (G.2.2.1 16) = 23) (tb4 : σ (G.2.2.1 17) = 24) (hI : wIn T) (hD : wDn G 18) : Met l yX10_peek (.code yX10_peek cX10_peek 3 (some .long) :: tWS) (tRm 2 45) (va_Pc [.ref h0, .int x1, .int x2] (mfPre G (σ, cu, vX X T) F)) (tQpl (fun r => r = wPeek T F x1.toInt x2.toInt)) 0 0 tNo := by
  refine mf_met (by decide) (Nat.le_of_ble_eq_true rfl) ?_
  intro p e s m below meth c E hr hlk hG hF ls hl
  have hl : lv_has ls 3 [(0, .ref h0), (1, .int x1), (2, .int x2)] := hl
  have hx := E.1
  have hb := E.2.1
  obtain ⟨H, eH⟩ : ∃ H, H = s.heap := ⟨_, rfl⟩
  obtain ⟨locs, eL⟩ : ∃ x : List Loc, x = [] := ⟨_, rfl⟩
  have hG : mGH G (σ, cu, vX X T) s H locs := by rw [eH, eL]; exact hG
  have hF : rF G F H := by rw [eH]; exact hF
  suffices hW : W p l e (tRm 2 45) s m ([.ref h0, .int x1, .int x2] : List Value).toArray below meth c H locs 0 0 (MQ below (tQpl (fun r => r = wPeek T F x1.toInt x2.toInt)) ([.ref h0, .int x1, .int x2] : List Value).toArray s 0 0 tNo) (F0 m 0 ls []) by subst eH; subst eL; exact hW
  refine lv_iload_n hx hb dX10_peek_0 rfl (lv_at hl 1 rfl) ?_
  refine tc_callp (mc_runS (As := [.int x1]) (rest := []) E hG (c_X10_isTape l G (σ, cu, vX X T) x1) ks_X10_isTape ml_X10_440 ⟨rfl, rfl, Nat.le_of_ble_eq_true rfl, Nat.le_of_ble_eq_true rfl⟩ rfl hl.1 rfl (Nat.le_of_ble_eq_true rfl) ⟨Nat.zero_le _, Nat.zero_le _⟩ dX10_peek_1) (fun r1 pr1 => ?_)
  replace pr1 : (r1.toInt = 1 ∧ 0 ≤ x1.toInt ∧ x1.toInt ≤ 3) ∨ (r1.toInt = 0 ∧ (x1.toInt < 0 ∨ 3 < x1.toInt)) := pr1
  refine lv_if_eq (tgt := 39) hx hb dX10_peek_4 (by decide) (fun c2 => ?_) (fun c2 => ?_)
  · skip
    have ic2 := tn_eq rfl kI_0 c2
    refine lv_ldc2 (v := -9223372036854775808) hx hb E.2.2.2.1 (E.2.2.2.2.1 _ (t_w8 111 rfl rfl)) dX10_peek_39 ?_
    refine lv_topl (fun z3 ez3 => ?_)
    have tz3 : z3.toInt = -9223372036854775808 := by rw [ez3]; decide
    exact tc_plret E hr hlk eH eL (show z3 = wPeek T F x1.toInt x2.toInt by (rw [ez3]; unfold wPeek; first | rw [if_pos (by omega)] | rw [if_neg (by omega), if_pos (by omega)])) dX10_peek_42
  · skip
    have ic2 := tn_ne rfl kI_0 c2
    refine lv_iload_n hx hb dX10_peek_7 rfl (lv_at hl 2 rfl) ?_
    refine lv_i2l hx hb dX10_peek_8 rfl ?_
    refine lv_topl (fun z4 ez4 => ?_)
    have tz4 := tl_i2l ez4
    refine lv_lconst (v := 0) hx hb dX10_peek_9 (by decide) ?_
    refine lv_topl (fun z5 ez5 => ?_)
    have tz5 : z5.toInt = 0 := by rw [ez5]; decide
    refine lv_aload_n hx hb dX10_peek_10 rfl (lv_at hl 0 rfl) ?_
    refine mc_getT E hG t0 tb2 ff_X10_75 rfl dX10_peek_11 (fun oa6 hoa6 => ?_)
    refine lv_iload_n hx hb dX10_peek_14 rfl (lv_at hl 1 rfl) ?_
    refine mc_iald E hG hoa6 ma_22 (t_in (by omega) (by omega)) dX10_peek_15 (fun z7 lz7 uz7 qz7 => ?_)
    have kz7 := mv_22 qz7 (by omega) (by omega)
    refine lv_iconst (v := 1) hx hb dX10_peek_16 (by decide) ?_
    refine lv_isub hx hb dX10_peek_17 ?_
    refine lv_topi (fun z8 ez8 => ?_)
    have tz8 := tn_sub ez8 rfl kI_1 (by omega) (by omega)
    refine lv_i2l hx hb dX10_peek_18 rfl ?_
    refine lv_topl (fun z9 ez9 => ?_)
    have tz9 := tl_i2l ez9
    refine tc_callp (mc_runS (As := [.long z4, .long z5, .long z9]) (rest := []) E hG (c_X10_in l G (σ, cu, vX X T) z4 z5 z9) ks_X10_in ml_X10_87 ⟨rfl, rfl, Nat.le_of_ble_eq_true rfl, Nat.le_of_ble_eq_true rfl⟩ rfl hl.1 rfl (Nat.le_of_ble_eq_true rfl) ⟨Nat.zero_le _, Nat.zero_le _⟩ dX10_peek_19) (fun r10 pr10 => ?_)
    replace pr10 : ((r10.toInt = 1 ∧ z5.toInt ≤ z4.toInt ∧ z4.toInt ≤ z9.toInt) ∨ (r10.toInt = 0 ∧ (z4.toInt < z5.toInt ∨ z9.toInt < z4.toInt))) := pr10
    refine lv_if_eq (tgt := 39) hx hb dX10_peek_22 (by decide) (fun c11 => ?_) (fun c11 => ?_)
    · skip
      have ic11 := tn_eq rfl kI_0 c11
      refine lv_ldc2 (v := -9223372036854775808) hx hb E.2.2.2.1 (E.2.2.2.2.1 _ (t_w8 111 rfl rfl)) dX10_peek_39 ?_
      refine lv_topl (fun z12 ez12 => ?_)
      have tz12 : z12.toInt = -9223372036854775808 := by rw [ez12]; decide
      exact tc_plret E hr hlk eH eL (show z12 = wPeek T F x1.toInt x2.toInt by (rw [ez12]; unfold wPeek; first | rw [if_pos (by omega)] | rw [if_neg (by omega), if_pos (by omega)])) dX10_peek_42
    · skip
      have ic11 := tn_ne rfl kI_0 c11
      refine lv_aload_n hx hb dX10_peek_25 rfl (lv_at hl 0 rfl) ?_
      refine mf_get E hG t0 ff_X10_78 (u := 16) rfl dX10_peek_26 ?_
      refine lv_bipush (v := 60) hx hb dX10_peek_29 (by decide) ?_
      refine lv_iload_n hx hb dX10_peek_31 rfl (lv_at hl 1 rfl) ?_
      refine lv_imul hx hb dX10_peek_32 ?_
      refine lv_topi (fun z14 ez14 => ?_)
      have tz14 := tn_mul ez14 kI_60 rfl (by omega) (by omega)
      refine lv_iload_n hx hb dX10_peek_33 rfl (lv_at hl 2 rfl) ?_
      refine lv_iadd hx hb dX10_peek_34 ?_
      refine lv_topi (fun z15 ez15 => ?_)
      have tz15 := tn_add ez15 rfl rfl (by omega) (by omega)
      refine mf_lald E hF (t_in (by omega) (by omega)) dX10_peek_35 ?_
      refine lv_goto (tgt := 42) hx hb dX10_peek_36 (by decide) ?_
      exact tc_plret E hr hlk eH eL (show F (z15.toInt.toNat / 60) (z15.toInt.toNat % 60) = wPeek T F x1.toInt x2.toInt by (have hI9 := hI x1.toInt.toNat (by omega); unfold wPeek; rw [if_neg (by omega), if_neg (by omega), show z15.toInt.toNat / 60 = x1.toInt.toNat by omega, show z15.toInt.toNat % 60 = x2.toInt.toNat by omega])) dX10_peek_42

