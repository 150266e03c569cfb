/-! ===== who lays: MEMOS may come, all else that is known stays ===== -/
def HRx (F F' : mF) (w : Nat) : Prop := FRX F F' w ∧ CINV F' w
theorem FRX.refl {F : mF} {w : Nat} : FRX F F w := fun _ _ _ => rfl
theorem FRX.trans {F F' F'' : mF} {w : Nat} (h : FRX F F' w) (h' : FRX F' F'' w) : FRX F F'' w := fun a k q => (h' a k q).trans (h a k q)
theorem HRx.refl {F : mF} {w : Nat} (h : CINV F w) : HRx F F w := ⟨FRX.refl, h⟩
theorem HRx.trans {F F' F'' : mF} {w : Nat} (h : HRx F F' w) (h' : HRx F' F'' w) : HRx F F'' w := ⟨h.1.trans h'.1, h'.2⟩
theorem ASK.hr {F F' : mF} {w b : Nat} {wh r : Int} (h : ASK F F' w b wh r) : HRx F F' w := ⟨h.1.1, h.2.1⟩
/-- the BOX at b is there, and not deeper than its number -/
def LOK (F : mF) (w b : Nat) (d : Int) : Prop := ∃ n : Nat, n ≤ 23 ∧ tB (F w 4) n ∧ b = w + 1 + (3 + 4 * n) ∧ d ≤ (n : Int)
theorem LOK_fr {F F' : mF} {w b : Nat} {d : Int} (h : FRX F F' w) (hL : LOK F w b d) : LOK F' w b d := by
  obtain ⟨n, h1, h2, h3, h4⟩ := hL
  exact ⟨n, h1, by rw [h w 4 (by omega)]; exact h2, h3, h4⟩
theorem LOK_kid {F : mF} {w b r : Nat} {d : Int} {i : Int32} (hK : AKF F w) (hL : LOK F w b d) (hi0 : 0 ≤ i.toInt) (hi : i.toInt < (F b 10).toInt) (e : r = w + 1 + (3 + 4 * (F (b + 2) i.toNatClampNeg).toNatClampNeg)) : LOK F w r (d + 1) := by
  obtain ⟨n, h1, h2, h3, h4⟩ := hL
  subst h3
  have ei : i.toNatClampNeg = i.toInt.toNat := rfl
  obtain ⟨c1, c2, c3⟩ := (hK n h1 h2).2.2.2.2.2 i.toNatClampNeg (by omega)
  obtain ⟨k, ek⟩ : ∃ k : Int32, k = F (w + 1 + (3 + 4 * n) + 2) i.toNatClampNeg := ⟨_, rfl⟩
  rw [← ek] at c1 c2 c3 e
  have e9 : k.toNatClampNeg = k.toInt.toNat := rfl
  exact ⟨k.toNatClampNeg, by omega, c3, e, by omega⟩
theorem LOK_d {F : mF} {w b : Nat} {d d' : Int} (h : LOK F w b d) (e : d' ≤ d) : LOK F w b d' := by
  obtain ⟨n, h1, h2, h3, h4⟩ := h
  exact ⟨n, h1, h2, h3, by omega⟩
/-- no BOX is deeper than its number -/
def DEPF (F : mF) (w : Nat) : Prop := ∀ n : Nat, n ≤ 23 → tB (F w 4) n → (F (w + 1 + (3 + 4 * n)) 6).toInt ≤ (n : Int)
def hGH (G : tG) (F : mF) (τ : Nat → Nat) (s : State) (H : Heap) (locs : List Loc) : Prop := ∃ F' : mF, HRx F F' (G.2.2.1 10) ∧ tGH (gF G F') τ s H locs
section TXH
variable {p : Program} {l : Launch} {e : Env} {R : Room} {s : State} {m : MethodId} {args : Array Value} {below : List Frame} {meth : Method} {c : Code} {H : Heap} {locs : List Loc} {Q : State → Prop}
variable {cc : ByteArray} {pc : Nat} {ls : Array Slot} {rest st0 : List Value} {a t k index n : Nat} {G : tG} {F : mF} {own : String} {nL : Nat} {τ : Nat → Nat} {lo hi : Int} {i : Int32} {cells slots : Nat}
theorem hc_geti (E : tE (gF G F) p s m c args own cc nL) (hG : hGH G F τ s H locs) (ha : τ a = t) (hF : tFi own index t k lo hi) (hdg : decode cc pc = .ok (.getfield index, 3))
    (kk : ∀ x : Int32, lo ≤ x.toInt → x.toInt ≤ hi → W p l e R s m args below meth c H locs cells slots Q (F0 m (pc + 3) ls (.int x :: rest))) : W p l e R s m args below meth c H locs cells slots Q (F0 m pc ls (.ref a :: rest)) := by
  obtain ⟨F', hR, h⟩ := hG
  exact tc_geti (E.f1 (F' := F')) h ha hF hdg kk
theorem hc_getF (E : tE (gF G F) p s m c args own cc nL) (hG : hGH G F τ s H locs) (ha : τ a = t) (hF : tFi own index t k lo hi) (hM : tMk t k = true) (hk : k < 11) (hdg : decode cc pc = .ok (.getfield index, 3))
    (kk : ∀ x : Int32, lo ≤ x.toInt → x.toInt ≤ hi → x = F a k → W p l e R s m args below meth c H locs cells slots Q (F0 m (pc + 3) ls (.int x :: rest))) : W p l e R s m args below meth c H locs cells slots Q (F0 m pc ls (.ref a :: rest)) := by
  obtain ⟨F', hR, h⟩ := hG
  exact tc_getF (E.f1 (F' := F')) h ha hF hM hdg (fun x h1 h2 h3 => kk x h1 h2 (h3.trans (hR.1 a k (fun z => by omega))))
theorem hc_getr (E : tE (gF G F) p s m c args own cc nL) (hG : hGH G F τ s H locs) (ha : τ a = t) {t' : Nat} (hF : tFr own index t k t') (hdg : decode cc pc = .ok (.getfield index, 3))
    (kk : ∀ b : Nat, τ b = t' → W p l e R s m args below meth c H locs cells slots Q (F0 m (pc + 3) ls (.ref b :: rest))) : W p l e R s m args below meth c H locs cells slots Q (F0 m pc ls (.ref a :: rest)) := by
  obtain ⟨F', hR, h⟩ := hG
  exact tc_getr (E.f1 (F' := F')) h ha hF hdg kk
theorem hc_puti (E : tE (gF G F) p s m c args own cc nL) (hG : hGH G F τ s H locs) (ha : τ a = t) (hF : tPi own index t k lo hi .int) {x : Int32} (h1 : lo ≤ x.toInt) (h2 : x.toInt ≤ hi) (hdg : decode cc pc = .ok (.putfield index, 3))
    (kk : ∀ (H1 : Heap) (locs1 : List Loc), hGH G F τ s H1 locs1 → W p l e R s m args below meth c H1 locs1 cells slots Q (F0 m (pc + 3) ls rest)) : W p l e R s m args below meth c H locs cells slots Q (F0 m pc ls (.int x :: .ref a :: rest)) := by
  obtain ⟨F', hR, h⟩ := hG
  exact tc_puti (E.f1 (F' := F')) h ha hF h1 h2 hdg (fun H1 locs1 q => kk H1 locs1 ⟨F', hR, q⟩)
theorem hc_iald (E : tE (gF G F) p s m c args own cc nL) (hG : hGH G F τ s H locs) (ha : τ a = t) (hF : tArr t 0 n (0, lo, hi)) (hin : vp_in i n) (hdg : decode cc pc = .ok (.iaload, 1))
    (kk : ∀ x : Int32, lo ≤ x.toInt → x.toInt ≤ hi → W p l e R s m args below meth c H locs cells slots Q (F0 m (pc + 1) ls (.int x :: rest))) : W p l e R s m args below meth c H locs cells slots Q (F0 m pc ls (.int i :: .ref a :: rest)) := by
  obtain ⟨F', hR, h⟩ := hG
  exact tc_iald (E.f1 (F' := F')) h ha hF hin hdg kk
theorem hc_vret (E : tE (gF G F) p s m c args own cc nL) (hr : meth.sig.returnType = none) (hlk : meth.locks = false) (hG : hGH G F τ s H locs) (hdg : decode cc pc = .ok (.return_, 1)) : W p l e R s m args below meth c H locs 0 0 (MQ below (tQG G τ (fun F9 => HRx F F9 (G.2.2.1 10))) args s 0 0 (tA τ)) (F0 m pc ls []) := by
  obtain ⟨F', hR, h⟩ := hG
  exact tc_vretF (E.f1 (F' := F')) hr hlk h hR hdg
theorem hc_iret {v : Int32} (E : tE (gF G F) p s m c args own cc nL) (hr : meth.sig.returnType = some .int) (hlk : meth.locks = false) (hG : hGH G F τ s H locs) (hdg : decode cc pc = .ok (.ireturn, 1)) : W p l e R s m args below meth c H locs 0 0 (MQ below (tQF G τ (fun _ F9 => HRx F F9 (G.2.2.1 10))) args s 0 0 (tA τ)) (F0 m pc ls [.int v]) := by
  obtain ⟨F', hR, h⟩ := hG
  exact tc_iretF (E.f1 (F' := F')) hr hlk h rfl hR hdg
theorem hc_callv {av : Array Value} (hG : hGH G F τ s H locs) (hr : ∀ F', HRx F F' (G.2.2.1 10) → tGH (gF G F') τ s H locs → va_Run p l e R s m args below meth c H locs cells slots 0 0 (F0 m pc ls st0) rest (tQv (gF G F') τ av) (tA τ))
    (kk : ∀ (H1 : Heap) (locs1 : List Loc), hGH G F τ s H1 locs1 → W p l e R s m args below meth c H1 locs1 cells slots Q (F0 m (pc + 3) ls rest)) : W p l e R s m args below meth c H locs cells slots Q (F0 m pc ls st0) := by
  obtain ⟨F', hR, h⟩ := hG
  exact tc_callv h (hr F' hR h) (fun H1 locs1 q => kk H1 locs1 ⟨F', hR, q⟩)
theorem hc_calli {post : Int32 → Prop} {av : Array Value} (hG : hGH G F τ s H locs) (hr : ∀ F', HRx F F' (G.2.2.1 10) → tGH (gF G F') τ s H locs → va_Run p l e R s m args below meth c H locs cells slots 0 0 (F0 m pc ls st0) rest (tQi (gF G F') τ post av) (tA τ))
    (kk : ∀ (r : Int32) (H1 : Heap) (locs1 : List Loc), post r → hGH G F τ s H1 locs1 → W p l e R s m args below meth c H1 locs1 cells slots Q (F0 m (pc + 3) ls (.int r :: rest))) : W p l e R s m args below meth c H locs cells slots Q (F0 m pc ls st0) := by
  obtain ⟨F', hR, h⟩ := hG
  exact tc_calli h (hr F' hR h) (fun r H1 locs1 hp q => kk r H1 locs1 hp ⟨F', hR, q⟩)
theorem hc_callvF {post : mF → mF → Prop} {av : Array Value} (hG : hGH G F τ s H locs) (hr : ∀ F', HRx F F' (G.2.2.1 10) → tGH (gF G F') τ s H locs → va_Run p l e R s m args below meth c H locs cells slots 0 0 (F0 m pc ls st0) rest (tQG G τ (post F') av) (tA τ)) (hp : ∀ F' F9, post F' F9 → HRx F' F9 (G.2.2.1 10))
    (kk : ∀ (H1 : Heap) (locs1 : List Loc), hGH G F τ s H1 locs1 → W p l e R s m args below meth c H1 locs1 cells slots Q (F0 m (pc + 3) ls rest)) : W p l e R s m args below meth c H locs cells slots Q (F0 m pc ls st0) := by
  obtain ⟨F', hR, h⟩ := hG
  exact tc_callvF h (hr F' hR h) (fun F9 H1 locs1 h9 q => kk H1 locs1 ⟨F9, hR.trans (hp _ _ h9), q⟩)
theorem hc_calliF {post : mF → Int32 → mF → Prop} {av : Array Value} (hG : hGH G F τ s H locs) (hr : ∀ F', HRx F F' (G.2.2.1 10) → tGH (gF G F') τ s H locs → va_Run p l e R s m args below meth c H locs cells slots 0 0 (F0 m pc ls st0) rest (tQF G τ (post F') av) (tA τ)) (hp : ∀ F' r F9, post F' r F9 → HRx F' F9 (G.2.2.1 10))
    (kk : ∀ (r : Int32) (H1 : Heap) (locs1 : List Loc), hGH G F τ s H1 locs1 → W p l e R s m args below meth c H1 locs1 cells slots Q (F0 m (pc + 3) ls (.int r :: rest))) : W p l e R s m args below meth c H locs cells slots Q (F0 m pc ls st0) := by
  obtain ⟨F', hR, h⟩ := hG
  exact tc_calliF h (hr F' hR h) (fun r F9 H1 locs1 h9 q => kk r H1 locs1 ⟨F9, hR.trans (hp _ _ _ h9), q⟩)
theorem hc_callp {post : Int32 → Prop} {av : Array Value} (hG : hGH G F τ s H locs) (hr : ∀ F', HRx F F' (G.2.2.1 10) → tGH (gF G F') τ s H locs → va_Run p l e R s m args below meth c H locs cells slots 0 0 (F0 m pc ls st0) rest (tQp post av) tNo)
    (kk : ∀ r : Int32, post r → W p l e R s m args below meth c H locs cells slots Q (F0 m (pc + 3) ls (.int r :: rest))) : W p l e R s m args below meth c H locs cells slots Q (F0 m pc ls st0) := by
  obtain ⟨F', hR, h⟩ := hG
  exact tc_callp (hr F' hR h) kk
theorem hc_callpr {post : mF → Nat → Prop} {post' : Nat → Prop} {av : Array Value} (hG : hGH G F τ s H locs) (hr : ∀ F', HRx F F' (G.2.2.1 10) → tGH (gF G F') τ s H locs → va_Run p l e R s m args below meth c H locs cells slots 0 0 (F0 m pc ls st0) rest (tQpr (post F') av) tNo) (hp : ∀ F' r, FRX F F' (G.2.2.1 10) → post F' r → post' r)
    (kk : ∀ r : Nat, post' r → W p l e R s m args below meth c H locs cells slots Q (F0 m (pc + 3) ls (.ref r :: rest))) : W p l e R s m args below meth c H locs cells slots Q (F0 m pc ls st0) := by
  obtain ⟨F', hR, h⟩ := hG
  exact tc_callpr (hr F' hR h) (fun r q => kk r (hp F' r hR.1 q))
theorem hc_callpq {post : mF → Option Nat → Prop} {post' : Option Nat → Prop} {av : Array Value} (hG : hGH G F τ s H locs) (hr : ∀ F', HRx F F' (G.2.2.1 10) → tGH (gF G F') τ s H locs → va_Run p l e R s m args below meth c H locs cells slots 0 0 (F0 m pc ls st0) rest (tQpq (post F') av) tNo) (hp : ∀ F' r, FRX F F' (G.2.2.1 10) → post F' r → post' r)
    (kk : ∀ r : Option Nat, post' r → W p l e R s m args below meth c H locs cells slots Q (F0 m (pc + 3) ls (va_rf r :: rest))) : W p l e R s m args below meth c H locs cells slots Q (F0 m pc ls st0) := by
  obtain ⟨F', hR, h⟩ := hG
  exact tc_callpq (hr F' hR h) (fun r q => kk r (hp F' r hR.1 q))
end TXH
theorem LOK_le {F : mF} {w b : Nat} {d : Int} (h : LOK F w b d) : d ≤ 23 := by
  obtain ⟨n, h1, h2, h3, h4⟩ := h
  omega
