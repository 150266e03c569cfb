/-! ===== exact knowledge that changes ===== -/
def up2 (F : mF) (c k : Nat) (v : Int32) : mF := fun c' k' => if c' = c ∧ k' = k then v else F c' k'
theorem up2_at {F : mF} {c k : Nat} {v : Int32} : up2 F c k v c k = v := if_pos ⟨rfl, rfl⟩
theorem up2_eq {F : mF} {c k c' k' : Nat} {v : Int32} (h1 : c' = c) (h2 : k' = k) : up2 F c k v c' k' = v := if_pos ⟨h1, h2⟩
theorem up2_ne {F : mF} {c k c' k' : Nat} {v : Int32} (h : ¬ (c' = c ∧ k' = k)) : up2 F c k v c' k' = F c' k' := if_neg h
/-- many slots of one cell -/
def upR (F : mF) (c lo n : Nat) (f : Nat → Int32) : mF := fun c' k' => if c' = c ∧ lo ≤ k' ∧ k' < lo + n then f k' else F c' k'
theorem upR_in {F : mF} {c lo n c' k' : Nat} {f : Nat → Int32} (h : c' = c ∧ lo ≤ k' ∧ k' < lo + n) : upR F c lo n f c' k' = f k' := if_pos h
theorem upR_ne {F : mF} {c lo n c' k' : Nat} {f : Nat → Int32} (h : ¬ (c' = c ∧ lo ≤ k' ∧ k' < lo + n)) : upR F c lo n f c' k' = F c' k' := if_neg h
def gF (G : tG) (F : mF) : tG := (G.1, G.2.1, G.2.2.1, G.2.2.2.1, G.2.2.2.2.1, F, G.2.2.2.2.2.2)
theorem gF_self {G : tG} : gF G (FF G) = G := rfl
theorem gF_gF {G : tG} {F F' : mF} : gF (gF G F) F' = gF G F' := rfl
theorem tAt_gF {G : tG} {F : mF} {sh : tSH} {q : Nat} {H : Heap} : tAt (gF G F) sh q H = tAt G sh q H := by
  obtain ⟨z, P⟩ := sh
  cases z <;> rfl
theorem TH_gF {G : tG} {F : mF} {Γ : Nat → Option tSH} {H : Heap} : TH (gF G F) Γ H = TH G Γ H := by
  unfold TH
  simp only [tAt_gF]
theorem tE.f0 {G : tG} {F : mF} {p : Program} {s : State} {m : MethodId} {c : Code} {args : Array Value} {own : String} {cc : ByteArray} {nL : Nat} (E : tE G p s m c args own cc nL) : tE (gF G F) p s m c args own cc nL := E
theorem tSt.f0 {G : tG} {F : mF} {A : Nat → Prop} {V : State} (h : tSt G A V) : tSt (gF G F) A V := h
theorem tE.f1 {G : tG} {F F' : mF} {p : Program} {s : State} {m : MethodId} {c : Code} {args : Array Value} {own : String} {cc : ByteArray} {nL : Nat} (E : tE (gF G F) p s m c args own cc nL) : tE (gF G F') p s m c args own cc nL := E
theorem tSt.f1 {G : tG} {F F' : mF} {A : Nat → Prop} {V : State} (h : tSt (gF G F) A V) : tSt (gF G F') A V := h
/-- other slots stay known -/
theorem tKn_F {G : tG} {F' : mF} {t b j : Nat} {v : Value} (h : tMk t j = true → F' b j = FF G b j) (hv : tKn G t b j v) : tKn (gF G F') t b j v := ⟨fun hM => (by rw [hv.1 hM]; show Value.int (FF G b j) = .int (F' b j); rw [h hM]), hv.2.1, hv.2.2⟩
theorem tKn_u {G : tG} {t a k b j : Nat} {x : Int32} {v : Value} (h : ¬ (b = a ∧ j = k)) (hv : tKn G t b j v) : tKn (gF G (up2 (FF G) a k x)) t b j v := tKn_F (fun _ => up2_ne h) hv
abbrev tQF (G : tG) (τ : Nat → Nat) (post : Int32 → mF → Prop) : Array Value → State → Outcome → State → Prop := va_Qi (S := mF) (fun r F => post r F) (fun F t => TH G (tΓ (gF G F) τ) t.heap) (tA τ)
abbrev tQG (G : tG) (τ : Nat → Nat) (post : mF → Prop) : Array Value → State → Outcome → State → Prop := va_Qv (S := mF) (fun F => post F) (fun F t => TH G (tΓ (gF G F) τ) t.heap) (tA τ)
section TXF
variable {p : Program} {l : Launch} {e : Env} {R : Room} {s : State} {m : MethodId} {args : Array Value} {below : List Frame} {meth : Method} {c : Code} {H : Heap} {locs : List Loc} {Q : State → Prop}
variable {cc : ByteArray} {pc : Nat} {ls : Array Slot} {rest st0 : List Value} {a t k index n : Nat} {G : tG} {F : mF} {own : String} {nL : Nat} {τ : Nat → Nat} {lo hi : Int} {i : Int32} {cells slots : Nat}
theorem tGH.thF (hG : tGH (gF G F) τ s H locs) : TH G (tΓ (gF G F) τ) H := by have := hG.1; rw [TH_gF] at this; exact this
theorem tGH.ofF (hT : TH G (tΓ (gF G F) τ) H) (hS : va_S (tA τ) s.heap H locs) : tGH (gF G F) τ s H locs := ⟨by rw [TH_gF]; exact hT, hS⟩
theorem tc_iretF {ty : FieldType} (E : tE (gF G F) p s m c args own cc nL) (hr : meth.sig.returnType = some ty) (hlk : meth.locks = false) (hG : tGH (gF G F) τ s H locs) {post : Int32 → mF → Prop} {v : Int32} (hn : narrow ty (.int v) = .int v) (hq : post v F) (hdg : decode cc pc = .ok (.ireturn, 1)) : W p l e R s m args below meth c H locs 0 0 (MQ below (tQF G τ post) args s 0 0 (tA τ)) (F0 m pc ls [.int v]) :=
  W.zret E.1 E.2.1 hr hn (fun t ht _ => ⟨⟨v, F, rfl, hq, (show TH G (tΓ (gF G F) τ) t.heap by rw [ht]; exact hG.thF)⟩, hG.2.F ht⟩) hG.2.2.2 hdg hlk
theorem tc_vretF (E : tE (gF G F) p s m c args own cc nL) (hr : meth.sig.returnType = none) (hlk : meth.locks = false) (hG : tGH (gF G F) τ s H locs) {post : mF → Prop} (hq : post F) (hdg : decode cc pc = .ok (.return_, 1)) : W p l e R s m args below meth c H locs 0 0 (MQ below (tQG G τ post) args s 0 0 (tA τ)) (F0 m pc ls []) :=
  W.vret E.1 E.2.1 hr (fun t ht _ => ⟨⟨F, rfl, hq, (show TH G (tΓ (gF G F) τ) t.heap by rw [ht]; exact hG.thF)⟩, hG.2.F ht⟩) hG.2.2.2 hdg hlk
theorem tc_calliF {post : Int32 → mF → Prop} {av : Array Value} (hG : tGH (gF G F) τ s H locs) (hr : va_Run p l e R s m args below meth c H locs cells slots 0 0 (F0 m pc ls st0) rest (tQF G τ post av) (tA τ))
    (kk : ∀ (r : Int32) (F1 : mF) (H1 : Heap) (locs1 : List Loc), post r F1 → tGH (gF G F1) τ s H1 locs1 → W p l e R s m args below meth c H1 locs1 cells slots Q (F0 m (pc + 3) ls (.int r :: rest))) : W p l e R s m args below meth c H locs cells slots Q (F0 m pc ls st0) :=
  va_calli hr hG.2 (fun _ _ h => h) (fun _ h => h) (fun r F1 t H1 locs1 ht _ hp hB _ _ hS => kk r F1 H1 locs1 hp (tGH.ofF (ht ▸ hB) hS))
theorem tc_callvF {post : mF → Prop} {av : Array Value} (hG : tGH (gF G F) τ s H locs) (hr : va_Run p l e R s m args below meth c H locs cells slots 0 0 (F0 m pc ls st0) rest (tQG G τ post av) (tA τ))
    (kk : ∀ (F1 : mF) (H1 : Heap) (locs1 : List Loc), post F1 → tGH (gF G F1) τ s H1 locs1 → W p l e R s m args below meth c H1 locs1 cells slots Q (F0 m (pc + 3) ls rest)) : W p l e R s m args below meth c H locs cells slots Q (F0 m pc ls st0) :=
  va_callv hr hG.2 (fun _ _ h => h) (fun _ h => h) (fun F1 t H1 locs1 ht _ hp hB _ _ hS => kk F1 H1 locs1 hp (tGH.ofF (ht ▸ hB) hS))
theorem tc_getF (E : tE G p s m c args own cc nL) (hG : tGH G τ s H locs) (ha : τ a = t) (hF : tFi own index t k lo hi) (hM : tMk t k = true) (hdg : decode cc pc = .ok (.getfield index, 3))
    (kk : ∀ x : Int32, lo ≤ x.toInt → x.toInt ≤ hi → x = FF G a k → W p l e R s m args below meth c H locs cells slots Q (F0 m (pc + 3) ls (.int x :: rest))) : W p l e R s m args below meth c H locs cells slots Q (F0 m pc ls (.ref a :: rest)) := by
  obtain ⟨ht, ⟨ci, hs, hf⟩, hd⟩ := hF
  have hΓ := tΓ_at (G := G) ha ht
  rw [hs] at hΓ
  refine tg_get E hG.1 hΓ hf hdg (fun v hv => ?_)
  obtain ⟨hv, hk⟩ := hv
  rw [hd] at hv
  obtain ⟨x, rfl, h1, h2⟩ := hv
  exact kk x h1 h2 (Value.int.inj (hk.1 hM))
theorem tc_getrF (E : tE G p s m c args own cc nL) (hG : tGH G τ s H locs) (ha : τ a = t) {t' d : Nat} (hF : tFr own index t k t') (hM : tMr t k = some d) (hdg : decode cc pc = .ok (.getfield index, 3))
    (kk : τ (a + d) = t' → W p l e R s m args below meth c H locs cells slots Q (F0 m (pc + 3) ls (.ref (a + d) :: rest))) : W p l e R s m args below meth c H locs cells slots Q (F0 m pc ls (.ref a :: rest)) := by
  obtain ⟨ht, ⟨ci, hs, hf⟩, hd⟩ := hF
  have hΓ := tΓ_at (G := G) ha ht
  rw [hs] at hΓ
  refine tg_get E hG.1 hΓ hf hdg (fun v hv => ?_)
  obtain ⟨hv, hk⟩ := hv
  rw [hd] at hv
  obtain ⟨b, rfl, h1⟩ := hv
  have e9 := Value.ref.inj (hk.2.1 d hM)
  rw [e9] at h1 ⊢
  exact kk h1
theorem tc_getrG (E : tE G p s m c args own cc nL) (hG : tGH G τ s H locs) (ha : τ a = t) {t' : Nat} (hF : tFr own index t k t') (hM : tMf t k = true) (h8 : t = 1 → a = G.2.2.1 8) (h9 : t = 7 → G.2.2.1 9 = 1) (hdg : decode cc pc = .ok (.getfield index, 3))
    (kk : τ (G.2.2.1 (10 + k)) = t' → W p l e R s m args below meth c H locs cells slots Q (F0 m (pc + 3) ls (.ref (G.2.2.1 (10 + k)) :: rest))) : W p l e R s m args below meth c H locs cells slots Q (F0 m pc ls (.ref a :: rest)) := by
  obtain ⟨ht, ⟨ci, hs, hf⟩, hd⟩ := hF
  have hΓ := tΓ_at (G := G) ha ht
  rw [hs] at hΓ
  refine tg_get E hG.1 hΓ hf hdg (fun v hv => ?_)
  obtain ⟨hv, hk⟩ := hv
  rw [hd] at hv
  obtain ⟨b, rfl, h1⟩ := hv
  have e9 := Value.ref.inj (hk.2.2 hM h8 h9)
  rw [e9] at h1 ⊢
  exact kk h1
theorem tc_ialdF (E : tE G p s m c args own cc nL) (hG : tGH G τ s H locs) (ha : τ a = t) (hF : tArr t 0 n (0, lo, hi)) (hM : tMk t i.toNatClampNeg = true) (hin : vp_in i n) (hdg : decode cc pc = .ok (.iaload, 1))
    (kk : ∀ x : Int32, lo ≤ x.toInt → x.toInt ≤ hi → x = FF G a i.toNatClampNeg → W p l e R s m args below meth c H locs cells slots Q (F0 m (pc + 1) ls (.int x :: rest))) : W p l e R s m args below meth c H locs cells slots Q (F0 m pc ls (.int i :: .ref a :: rest)) := by
  obtain ⟨ht, hs, hd⟩ := hF
  have hΓ := tΓ_at (G := G) ha ht
  rw [hs] at hΓ
  refine tg_iald E hG.1 hΓ hin hdg (fun v hv => ?_)
  obtain ⟨hv, hk⟩ := hv
  rw [hd] at hv
  obtain ⟨x, rfl, h1, h2⟩ := hv
  exact kk x h1 h2 (Value.int.inj (hk.1 hM))
theorem tc_caldF (E : tE G p s m c args own cc nL) (hG : tGH G τ s H locs) (ha : τ a = t) (hF : tArr t 1 n (0, lo, hi)) (hM : tMk t i.toNatClampNeg = true) (hin : vp_in i n) (hdg : decode cc pc = .ok (.caload, 1))
    (kk : ∀ x : Int32, lo ≤ x.toInt → x.toInt ≤ hi → x = FF G a i.toNatClampNeg → W p l e R s m args below meth c H locs cells slots Q (F0 m (pc + 1) ls (.int x :: rest))) : W p l e R s m args below meth c H locs cells slots Q (F0 m pc ls (.int i :: .ref a :: rest)) := by
  obtain ⟨ht, hs, hd⟩ := hF
  have hΓ := tΓ_at (G := G) ha ht
  rw [hs] at hΓ
  refine tg_cald E hG.1 hΓ hin hdg (fun v hv => ?_)
  obtain ⟨hv, hk⟩ := hv
  rw [hd] at hv
  obtain ⟨x, rfl, h1, h2⟩ := hv
  exact kk x h1 h2 (Value.int.inj (hk.1 hM))
theorem tc_aald3F (E : tE G p s m c args own cc nL) (hG : tGH G τ s H locs) (ha : τ a = t) {t' d : Nat} (hF : tArr t 3 n (1, (t' : Int), 0)) (hM : tMr t i.toNatClampNeg = some d) (hin : vp_in i n) (hdg : decode cc pc = .ok (.aaload, 1))
    (kk : τ (a + d) = t' → W p l e R s m args below meth c H locs cells slots Q (F0 m (pc + 1) ls (.ref (a + d) :: rest))) : W p l e R s m args below meth c H locs cells slots Q (F0 m pc ls (.int i :: .ref a :: rest)) := by
  obtain ⟨ht, hs, hd⟩ := hF
  have hΓ := tΓ_at (G := G) ha ht
  rw [hs] at hΓ
  refine tg_aald3 E hG.1 hΓ hin hdg (fun v hv => ?_)
  obtain ⟨hv, hk⟩ := hv
  rw [hd] at hv
  obtain ⟨b, rfl, h1⟩ := hv
  have e9 := Value.ref.inj (hk.2.1 d hM)
  rw [e9] at h1 ⊢
  exact kk h1
theorem tc_aald5F (E : tE G p s m c args own cc nL) (hG : tGH G τ s H locs) (ha : τ a = t) {t' d : Nat} (hF : tArr t 5 n (1, (t' : Int), 0)) (hM : tMr t i.toNatClampNeg = some d) (hin : vp_in i n) (hdg : decode cc pc = .ok (.aaload, 1))
    (kk : τ (a + d) = t' → W p l e R s m args below meth c H locs cells slots Q (F0 m (pc + 1) ls (.ref (a + d) :: rest))) : W p l e R s m args below meth c H locs cells slots Q (F0 m pc ls (.int i :: .ref a :: rest)) := by
  obtain ⟨ht, hs, hd⟩ := hF
  have hΓ := tΓ_at (G := G) ha ht
  rw [hs] at hΓ
  refine tg_aald5 E hG.1 hΓ hin hdg (fun v hv => ?_)
  obtain ⟨hv, hk⟩ := hv
  rw [hd] at hv
  obtain ⟨b, rfl, h1⟩ := hv
  have e9 := Value.ref.inj (hk.2.1 d hM)
  rw [e9] at h1 ⊢
  exact kk h1
theorem tc_putF (E : tE G p s m c args own cc nL) (hG : tGH G τ s H locs) (ha : τ a = t) (h0 : t ≠ 0) {ci : Nat} (hs : tShp t = .inl ci) (hd : tFD t k = (0, lo, hi)) {ty : FieldType} (hf : tFp own index ci k ty) {x : Int32} (h1 : lo ≤ x.toInt) (h2 : x.toInt ≤ hi) (hn : narrow ty (.int x) = .int x) (hfit : fits ty (.int x) = true) (hdg : decode cc pc = .ok (.putfield index, 3))
    (kk : ∀ (H1 : Heap) (locs1 : List Loc), tGH (gF G (up2 (FF G) a k x)) τ s H1 locs1 → W p l e R s m args below meth c H1 locs1 cells slots Q (F0 m (pc + 3) ls rest)) : W p l e R s m args below meth c H locs cells slots Q (F0 m pc ls (.int x :: .ref a :: rest)) := by
  have hΓ := tΓ_at (G := G) ha h0
  rw [hs] at hΓ
  refine tg_put E hG.1 hΓ hf hn hfit hdg (fun H1 i z oq hat => kk H1 _ ⟨?_, hG.2.put z oq (show τ a ≠ 0 by rw [ha]; exact h0)⟩)
  rw [TH_gF]
  refine TH.mk (fun q hq => ?_)
  by_cases e9 : q = a
  · subst e9
    rw [ha, hs]
    exact hat _ ⟨by rw [hd]; exact ⟨x, rfl, h1, h2⟩, fun _ => (by show Value.int x = .int (up2 (FF G) q k x q k); rw [up2_at]), fun d z => (by rw [(tMr_i hd).1] at z; cases z), fun z => (by rw [(tMr_i hd).2] at z; cases z)⟩ (fun j w hj hw => ⟨hw.1, tKn_u (fun z => hj z.2) hw.2⟩)
  · exact ((hG.1.at hq).kept (oq q e9)).to (fun j v hv => ⟨hv.1, tKn_u (fun z => e9 z.1) hv.2⟩)
theorem tc_iastF (E : tE G p s m c args own cc nL) (hG : tGH G τ s H locs) (ha : τ a = t) (hF : tArr t 0 n (0, lo, hi)) (hin : vp_in i n) {x : Int32} (h1 : lo ≤ x.toInt) (h2 : x.toInt ≤ hi) (hdg : decode cc pc = .ok (.iastore, 1))
    (kk : ∀ (H1 : Heap) (locs1 : List Loc), tGH (gF G (up2 (FF G) a i.toNatClampNeg x)) τ s H1 locs1 → W p l e R s m args below meth c H1 locs1 cells slots Q (F0 m (pc + 1) ls rest)) : W p l e R s m args below meth c H locs cells slots Q (F0 m pc ls (.int x :: .int i :: .ref a :: rest)) := by
  obtain ⟨ht, hs, hd⟩ := hF
  have hΓ := tΓ_at (G := G) ha ht
  rw [hs] at hΓ
  refine tg_iast E hG.1 hΓ hin hdg (fun H1 z oq hat => kk H1 _ ⟨?_, hG.2.put z oq (show τ a ≠ 0 by rw [ha]; exact ht)⟩)
  rw [TH_gF]
  refine TH.mk (fun q hq => ?_)
  by_cases e9 : q = a
  · subst e9
    rw [ha, hs]
    exact hat _ ⟨by rw [hd]; exact ⟨x, rfl, h1, h2⟩, fun _ => (by show Value.int x = .int (up2 (FF G) q i.toNatClampNeg x q i.toNatClampNeg); rw [up2_at]), fun d z => (by rw [(tMr_i (hd i.toNatClampNeg)).1] at z; cases z), fun z => (by rw [(tMr_i (hd i.toNatClampNeg)).2] at z; cases z)⟩ (fun j w hj hw => ⟨hw.1, tKn_u (fun z => hj z.2) hw.2⟩)
  · exact ((hG.1.at hq).kept (oq q e9)).to (fun j v hv => ⟨hv.1, tKn_u (fun z => e9 z.1) hv.2⟩)
theorem tc_castF (E : tE G p s m c args own cc nL) (hG : tGH G τ s H locs) (ha : τ a = t) (hF : tArr t 1 n (0, lo, hi)) (hin : vp_in i n) {x : Int32} (h1 : lo ≤ x.toInt) (h2 : x.toInt ≤ hi) (h3 : 0 ≤ x.toInt) (h4 : x.toInt ≤ 65535) (hdg : decode cc pc = .ok (.castore, 1))
    (kk : ∀ (H1 : Heap) (locs1 : List Loc), tGH (gF G (up2 (FF G) a i.toNatClampNeg x)) τ s H1 locs1 → W p l e R s m args below meth c H1 locs1 cells slots Q (F0 m (pc + 1) ls rest)) : W p l e R s m args below meth c H locs cells slots Q (F0 m pc ls (.int x :: .int i :: .ref a :: rest)) := by
  obtain ⟨ht, hs, hd⟩ := hF
  have hΓ := tΓ_at (G := G) ha ht
  rw [hs] at hΓ
  refine tg_cast E hG.1 hΓ hin hdg (fun H1 z oq hat => kk H1 _ ⟨?_, hG.2.put z oq (show τ a ≠ 0 by rw [ha]; exact ht)⟩)
  rw [TH_gF]
  refine TH.mk (fun q hq => ?_)
  by_cases e9 : q = a
  · subst e9
    rw [ha, hs]
    exact hat _ ⟨by rw [hd]; rw [(t_nc h3 h4).1]; exact ⟨x, rfl, h1, h2⟩, fun _ => (by rw [(t_nc h3 h4).1]; show Value.int x = .int (up2 (FF G) q i.toNatClampNeg x q i.toNatClampNeg); rw [up2_at]), fun d z => (by rw [(tMr_i (hd i.toNatClampNeg)).1] at z; cases z), fun z => (by rw [(tMr_i (hd i.toNatClampNeg)).2] at z; cases z)⟩ (fun j w hj hw => ⟨hw.1, tKn_u (fun z => hj z.2) hw.2⟩)
  · exact ((hG.1.at hq).kept (oq q e9)).to (fun j v hv => ⟨hv.1, tKn_u (fun z => e9 z.1) hv.2⟩)
end TXF
section TXC
variable {p : Program} {l : Launch} {e : Env} {R : Room} {s : State} {m : MethodId} {args : Array Value} {below : List Frame} {meth : Method} {c : Code} {H : Heap} {locs : List Loc} {Q : State → Prop}
variable {cc : ByteArray} {pc : Nat} {ls : Array Slot} {rest : List Value} {a a0 t t0 n0 n1 index : Nat} {G : tG} {own : String} {nL : Nat} {τ : Nat → Nat} {lo hi : Int} {cells slots : Nat}
theorem tc_copyF (E : tE G p s m c args own cc nL) (hsz : ls.size = nL) (hG : tGH G τ s H locs) (hlink : Cond.methodLink own index arraycopyName ∈ tWS) (hnat : Cond.native arraycopyName ∈ tWS) (hstat : Cond.static arraycopyName ∈ tWS) (hini : Cond.initialized "java/lang/System" ∈ tWS)
    (ha0 : τ a0 = t0) (ha : τ a = t) (hF0 : tArr t0 0 n0 (0, lo, hi)) (hF : tArr t 0 n1 (0, lo, hi)) (hM0 : ∀ j, tMk t0 j = true) (hM : ∀ j, tMk t j = true) {sp dp n : Int32} (h1 : 0 ≤ sp.toInt) (h2 : 0 ≤ dp.toInt) (h3 : 0 ≤ n.toInt) (h4 : sp.toInt + n.toInt ≤ n0) (h5 : dp.toInt + n.toInt ≤ n1)
    (hR : 1 ≤ R.frames ∧ (rest.map fun v => v.category).sum + (nativeFrameWords "java/lang/System" "arraycopy" 5 + 11) ≤ R.locals) (hdg : decode cc pc = .ok (.invokestatic index, 3))
    (kk : ∀ (H1 : Heap) (locs1 : List Loc), tGH (gF G (upR (FF G) a dp.toNatClampNeg n.toNatClampNeg (fun j => FF G a0 (sp.toNatClampNeg + (j - dp.toNatClampNeg))))) τ s H1 locs1 → W p l e R s m args below meth c H1 locs1 cells slots Q (F0 m (pc + 3) ls rest)) : W p l e R s m args below meth c H locs cells slots Q (F0 m pc ls (.int n :: .int dp :: .ref a :: .int sp :: .ref a0 :: rest)) := by
  obtain ⟨hx, hb, hml, hown, hts, hK⟩ := E
  obtain ⟨ht0, hs0, hd0⟩ := hF0
  obtain ⟨ht, hs, hd⟩ := hF
  have hΓ0 := tΓ_at (G := G) ha0 ht0
  rw [hs0] at hΓ0
  have hΓ := tΓ_at (G := G) ha ht
  rw [hs] at hΓ
  obtain ⟨V0, hc0, hp0⟩ := hG.1 a0 _ hΓ0
  obtain ⟨V1, hc1, hp1⟩ := hG.1 a _ hΓ
  have e0 : (0 : Int32).toInt = 0 := rfl
  have s1 : ¬ sp < 0 := fun q => by have := Int32.lt_iff_toInt_lt.mp q; omega
  have s2 : ¬ dp < 0 := fun q => by have := Int32.lt_iff_toInt_lt.mp q; omega
  have s3 : ¬ n < 0 := fun q => by have := Int32.lt_iff_toInt_lt.mp q; omega
  have k1 := tn_clamp s1
  have k2 := tn_clamp s2
  have k3 := tn_clamp s3
  intro T hT X
  obtain ⟨-, kA, hkA, cmA, hkkA⟩ := (hK.2 0 (G.2.1 0, .int) rfl).1 n0 V0
  obtain ⟨-, kB, hkB, cmB, hkkB⟩ := (hK.2 0 (G.2.1 0, .int) rfl).1 n1 V1
  obtain ⟨vm', X', step⟩ := X.arraycopy hx hown (hts _ hlink) (hts _ hnat) (hts _ hstat) (hts _ hini) (src := a0) (dst := a) (cs := arrV (G.2.1 0) n0 V0) (cd := arrV (G.2.1 0) n1 V1) (srcPos := sp) (destPos := dp) (n := n) (by rw [hT]; exact hc0) (by rw [hT]; exact hc1)
    (fun _ h => by cases h) (fun _ h => by cases h) (fun h => by cases h) (fun h => by cases h) hkA hkB hkkA hkkB (by simp [refKind]) s1 s2 s3
    (by rw [arrV_size]; omega)
    (by rw [arrV_size]; omega)
    (fun vm₁ _ i hi => by
      have e : (arrV (G.2.1 0) n0 V0).slots.getD (sp.toNatClampNeg + i) .null = V0 (sp.toNatClampNeg + i) := by
        rw [Array.getD_eq_getD_getElem?, arrV_read _ _ (by omega)]
        rfl
      have hv := hp0 (sp.toNatClampNeg + i) (by omega)
      replace hv := hv.1
      rw [hd0] at hv
      obtain ⟨x, hx9, -⟩ := hv
      rw [e, hx9]
      exact ⟨rfl, trivial⟩)
    (g := F0 m pc ls (.int n :: .int dp :: .ref a :: .int sp :: .ref a0 :: rest)) rfl (by rw [hml]; exact hsz) (rest := rest) rfl (by rw [hb]; exact hdg) hR.1 (by show 2 * 0 + _ + _ ≤ _; have := hR.2; omega)
  have e1 : copied (arrV (G.2.1 0) n0 V0) (arrV (G.2.1 0) n1 V1) sp dp n = arrV (G.2.1 0) n1 (va_cpy V0 V1 sp.toNatClampNeg dp.toNatClampNeg n.toNatClampNeg) := va_copied (fun z : Value => z) (G.2.1 0) (G.2.1 0) V0 V1 (by omega)
  rw [e1] at X' step
  have hl : a < H.size := (Array.getElem?_eq_some_iff.mp hc1).1
  have hheap : ((T.setVm vm').setCell a (arrV (G.2.1 0) n1 (va_cpy V0 V1 sp.toNatClampNeg dp.toNatClampNeg n.toNatClampNeg))).heap = H.setIfInBounds a (arrV (G.2.1 0) n1 (va_cpy V0 V1 sp.toNatClampNeg dp.toNatClampNeg n.toNatClampNeg)) := by rw [← hT]; rfl
  have oq : ∀ q : Nat, q ≠ a → (H.setIfInBounds a (arrV (G.2.1 0) n1 (va_cpy V0 V1 sp.toNatClampNeg dp.toNatClampNeg n.toNatClampNeg)))[q]? = H[q]? := fun q hq => by simp [Array.getElem?_setIfInBounds, Ne.symm hq]
  have hta : tA τ a := show τ a ≠ 0 by rw [ha]; exact ht
  have hT9 : TH G (tΓ (gF G (upR (FF G) a dp.toNatClampNeg n.toNatClampNeg (fun j => FF G a0 (sp.toNatClampNeg + (j - dp.toNatClampNeg))))) τ) (H.setIfInBounds a (arrV (G.2.1 0) n1 (va_cpy V0 V1 sp.toNatClampNeg dp.toNatClampNeg n.toNatClampNeg))) := by
    refine TH.mk (fun q hq => ?_)
    by_cases e9 : q = a
    · subst e9
      rw [ha, hs]
      refine ⟨va_cpy V0 V1 sp.toNatClampNeg dp.toNatClampNeg n.toNatClampNeg, by simp [Array.getElem?_setIfInBounds, hl], fun j hj => ?_⟩
      by_cases hjj : dp.toNatClampNeg ≤ j ∧ j < dp.toNatClampNeg + n.toNatClampNeg
      · have g9 := hp0 (sp.toNatClampNeg + (j - dp.toNatClampNeg)) (by omega)
        refine ⟨?_, fun _ => ?_, fun d z => (by rw [(tMr_i (hd j)).1] at z; cases z), fun z => (by rw [(tMr_i (hd j)).2] at z; cases z)⟩
        · rw [pk_cpy_in hjj.1 hjj.2, hd]
          have := g9.1
          rwa [hd0] at this
        · rw [pk_cpy_in hjj.1 hjj.2, g9.2.1 (hM0 _)]
          show Value.int (FF G a0 (sp.toNatClampNeg + (j - dp.toNatClampNeg))) = .int (upR (FF G) q dp.toNatClampNeg n.toNatClampNeg (fun j => FF G a0 (sp.toNatClampNeg + (j - dp.toNatClampNeg))) q j)
          rw [upR_in ⟨rfl, hjj.1, hjj.2⟩]
      · have g9 := hp1 j hj
        show tsv τ (tFD t j) _ ∧ tKn _ t q j _
        rw [pk_cpy_out (by omega)]
        exact ⟨g9.1, tKn_F (fun _ => upR_ne (fun z => hjj z.2)) g9.2⟩
    · exact ((hG.1.at hq).kept (oq q e9)).to (fun j v hv => ⟨hv.1, tKn_F (fun _ => upR_ne (fun z => e9 z.1)) hv.2⟩)
  obtain ⟨t2, a1, b1⟩ := kk _ _ ⟨by rw [TH_gF]; exact hT9, ⟨by simp; exact hG.2.1, fun q g1 g2 => by
      rw [oq q (fun e => g2 (by rw [e]; exact hta))]
      exact hG.2.2.1 q g1 g2, fun q hq => by
      rcases List.mem_append.mp hq with h | h
      · exact hG.2.2.2 q h
      · obtain ⟨z, -, hz⟩ := List.mem_map.mp h
        rw [← hz]
        exact hta⟩⟩ _ hheap X'
  exact ⟨t2, step t2 a1, b1⟩
end TXC
