/-! ===== the law's world: both sides on one heap ===== -/
def lS (G : tG) (τ σ : Nat → Nat) (a : Nat → Option (Nat → Int32)) (s : State) (H : Heap) : Prop :=
  TH G (tΓ G τ) H ∧ (∀ q, τ q ≠ 0 → s.heap.size ≤ q ∧ q < H.size) ∧ TH G (mΓ G (σ, 2, qX a)) H ∧ (∀ q, σ q ≠ 0 → s.heap.size ≤ q ∧ q < H.size) ∧ (∀ x y, σ x = σ y → σ x ≠ 0 → x = y) ∧ PI2 a ∧ (∀ q, τ q ≠ 0 → σ q = 0) ∧ va_S (fun q => s.heap.size ≤ q) s.heap H []
theorem lS.G {G : tG} {τ σ : Nat → Nat} {a : Nat → Option (Nat → Int32)} {s : State} {H : Heap} (h : lS G τ σ a s H) : tGH G τ s H [] :=
  ⟨h.1, h.2.2.2.2.2.2.2.1, fun q h1 _ => h.2.2.2.2.2.2.2.2.1 q h1 (by show ¬ s.heap.size ≤ q; omega), fun _ h => by cases h⟩
theorem lS.M {G : tG} {τ σ : Nat → Nat} {a : Nat → Option (Nat → Int32)} {s : State} {H : Heap} (h : lS G τ σ a s H) : mGH G (σ, 2, qX a) s H [] :=
  ⟨h.2.2.1, ⟨h.2.2.2.2.2.2.2.1, fun q h1 _ => h.2.2.2.2.2.2.2.2.1 q h1 (by show ¬ s.heap.size ≤ q; omega), fun _ h => by cases h⟩, mu_2, h.2.2.2.2.1⟩
section LW
variable {p : Program} {l : Launch} {e : Env} {R : Room} {s : State} {m : MethodId} {args : Array Value} {below : List Frame} {meth : Method} {c : Code} {H : Heap} {Q : State → Prop}
variable {pc : Nat} {ls : Array Slot} {rest st0 : List Value} {G : tG} {τ σ : Nat → Nat} {a : Nat → Option (Nat → Int32)} {cells slots : Nat} {av : Array Value}
theorem lS.own {H1 : Heap} (hL : lS G τ σ a s H) (hT : TH G (tΓ G τ) H1) (hz : H.size ≤ H1.size) (ho : ∀ q : Nat, q < H.size → ¬ tA τ q → H1[q]? = H[q]?) {locs : List Loc} (hS : va_S (fun q => s.heap.size ≤ q) s.heap H1 locs) : lS G τ σ a s H1 := by
  obtain ⟨h1, h2, h3, h4, h5, h6, h7, h8⟩ := hL
  refine ⟨hT, fun q hq => ⟨(h2 q hq).1, Nat.lt_of_lt_of_le (h2 q hq).2 hz⟩, mTH.mk (fun q hq => (mTH.at h3 hq).kept (ho q (h4 q hq).2 (fun z => hq (h7 q z)))), fun q hq => ⟨(h4 q hq).1, Nat.lt_of_lt_of_le (h4 q hq).2 hz⟩, h5, h6, h7, hS.1, hS.2.1, fun _ h => by cases h⟩
theorem lS.model {H1 : Heap} {Z : mY} {a' : Nat → Option (Nat → Int32)} (hL : lS G τ σ a s H) (hT : TH G (mΓ G Z) H1) (hP : PI2 a') (hZ : mLe Z (σ, 2, qX a')) (hz : H.size ≤ H1.size) (ho : ∀ q : Nat, q < H.size → ¬ mA (σ, 2, qX a) q → H1[q]? = H[q]?) {locs : List Loc} (hS : va_S (fun q => s.heap.size ≤ q) s.heap H1 locs) : lS G τ σ a' s H1 := by
  obtain ⟨h1, h2, h3, h4, h5, h6, h7, h8⟩ := hL
  refine ⟨h1.kept (fun q hq => ?_), fun q hq => ⟨(h2 q hq).1, Nat.lt_of_lt_of_le (h2 q hq).2 hz⟩, mTH.le hZ hT, fun q hq => ⟨(h4 q hq).1, Nat.lt_of_lt_of_le (h4 q hq).2 hz⟩, h5, hP, h7, hS.1, hS.2.1, fun _ h => by cases h⟩
  have hq0 := tΓ_no hq
  exact ho q (h2 q hq0).2 (fun z => z (h7 q hq0))
theorem lc_i {post : Int32 → Prop} (hL : lS G τ σ a s H) (hr : va_Run p l e R s m args below meth c H [] cells slots 0 0 (F0 m pc ls st0) rest (tQi G τ post av) (tA τ))
    (kk : ∀ (r : Int32) (H1 : Heap), lS G τ σ a s H1 → post r → W p l e R s m args below meth c H1 [] cells slots Q (F0 m (pc + 3) ls (.int r :: rest))) : W p l e R s m args below meth c H [] cells slots Q (F0 m pc ls st0) :=
  va_calli hr hL.2.2.2.2.2.2.2 (fun q _ h2 => (hL.2.1 q h2).1) (fun q h2 => (hL.2.1 q h2).1) (fun r _ t H1 locs1 ht _ hp hB hz ho hS => va_forget (fun q hq => hS.2.2 q hq) (kk r H1 (hL.own (ht ▸ hB) hz ho hS) hp))
theorem lc_l {post : Int64 → Prop} (hL : lS G τ σ a s H) (hr : va_Run p l e R s m args below meth c H [] cells slots 0 0 (F0 m pc ls st0) rest (tQl G τ post av) (tA τ))
    (kk : ∀ (r : Int64) (H1 : Heap), lS G τ σ a s H1 → W p l e R s m args below meth c H1 [] cells slots Q (F0 m (pc + 3) ls (.long r :: rest))) : W p l e R s m args below meth c H [] cells slots Q (F0 m pc ls st0) :=
  va_calll hr hL.2.2.2.2.2.2.2 (fun q _ h2 => (hL.2.1 q h2).1) (fun q h2 => (hL.2.1 q h2).1) (fun r _ t H1 locs1 ht _ hp hB hz ho hS => va_forget (fun q hq => hS.2.2 q hq) (kk r H1 (hL.own (ht ▸ hB) hz ho hS)))
theorem lm_i {post : Int32 → mY → Prop} (hL : lS G τ σ a s H) (hr : va_Run p l e R s m args below meth c H [] cells slots 0 0 (F0 m pc ls st0) rest (mQiX G (σ, 2, qX a) post av) (mA (σ, 2, qX a)))
    (hq : ∀ r Z, Z.1 = σ → post r Z → ∃ a', PI2 a' ∧ mLe Z (σ, 2, qX a'))
    (kk : ∀ (r : Int32) (a' : Nat → Option (Nat → Int32)) (H1 : Heap), lS G τ σ a' s H1 → (∃ Z, post r Z) → W p l e R s m args below meth c H1 [] cells slots Q (F0 m (pc + 3) ls (.int r :: rest))) : W p l e R s m args below meth c H [] cells slots Q (F0 m pc ls st0) :=
  va_calli hr hL.2.2.2.2.2.2.2 (fun q _ h2 => (hL.2.2.2.1 q h2).1) (fun q h2 => (hL.2.2.2.1 q h2).1) (fun r Z t H1 locs1 ht _ hp hB hz ho hS => by
    obtain ⟨a', g1, g2⟩ := hq r Z hp.1 hp.2.2
    exact va_forget (fun q hq => hS.2.2 q hq) (kk r a' H1 (hL.model (ht ▸ hB) g1 g2 hz ho hS) ⟨Z, hp.2.2⟩))
theorem lm_l {post : Int64 → mY → Prop} (hL : lS G τ σ a s H) (hr : va_Run p l e R s m args below meth c H [] cells slots 0 0 (F0 m pc ls st0) rest (mQlX G (σ, 2, qX a) post av) (mA (σ, 2, qX a)))
    (hq : ∀ r Z, Z.1 = σ → post r Z → ∃ a', PI2 a' ∧ mLe Z (σ, 2, qX a'))
    (kk : ∀ (r : Int64) (a' : Nat → Option (Nat → Int32)) (H1 : Heap), lS G τ σ a' s H1 → W p l e R s m args below meth c H1 [] cells slots Q (F0 m (pc + 3) ls (.long r :: rest))) : W p l e R s m args below meth c H [] cells slots Q (F0 m pc ls st0) :=
  va_calll hr hL.2.2.2.2.2.2.2 (fun q _ h2 => (hL.2.2.2.1 q h2).1) (fun q h2 => (hL.2.2.2.1 q h2).1) (fun r Z t H1 locs1 ht _ hp hB hz ho hS => by
    obtain ⟨a', g1, g2⟩ := hq r Z hp.1 hp.2.2
    exact va_forget (fun q hq => hS.2.2 q hq) (kk r a' H1 (hL.model (ht ▸ hB) g1 g2 hz ho hS)))
end LW
/-! how the knowledge goes on -/
theorem PI2.up {a : Nat → Option (Nat → Int32)} {t : Nat → Int32} (h : PI2 a) (ht : TInv t) : PI2 (upA a 2 t) :=
  ⟨(upA_ne (by decide)).trans h.1, (upA_ne (by decide)).trans h.2.1, ⟨t, upA_at, ht⟩, by obtain ⟨u, h1, h2⟩ := h.2.2.2; exact ⟨u, (upA_ne (by decide)).trans h1, h2⟩⟩
theorem PI2.im {a : Nat → Option (Nat → Int32)} {t : Nat → Int32} (h : PI2 a) (ht : TInv t) : PI2 (upA a 3 t) :=
  ⟨(upA_ne (by decide)).trans h.1, (upA_ne (by decide)).trans h.2.1, by obtain ⟨u, h1, h2⟩ := h.2.2.1; exact ⟨u, (upA_ne (by decide)).trans h1, h2⟩, ⟨t, upA_at, ht⟩⟩
def pb (A : Nat → Option (Nat → Int32)) : Nat → Option (Nat → Int32) := fun c => if c = 2 ∨ c = 3 then A c else none
theorem pb_le {σ : Nat → Nat} {A : Nat → Option (Nat → Int32)} : mLe (σ, 2, qX A) (σ, 2, qX (pb A)) := ⟨rfl, rfl, fun c k y e => by
  have e : qX (pb A) c k = some y := e
  show qX A c k = some y
  unfold qX at e ⊢
  by_cases z : c = 2 ∨ c = 3
  · rw [show pb A c = A c from if_pos z] at e; exact e
  · rw [show pb A c = none from if_neg z] at e
    split at e <;> cases e⟩
theorem pb_PI {a A : Nat → Option (Nat → Int32)} {ta : Nat → Int32} (h : PI2 a) (hI : TInv ta) (h2 : A 2 = some ta) (h3 : A 3 = a 3) : PI2 (pb A) :=
  ⟨rfl, rfl, ⟨ta, (show pb A 2 = A 2 from rfl).trans h2, hI⟩, by obtain ⟨u, g1, g2⟩ := h.2.2.2; exact ⟨u, (show pb A 3 = A 3 from rfl).trans (h3.trans g1), g2⟩⟩
section LWT
variable {p : Program} {l : Launch} {e : Env} {R : Room} {s : State} {m : MethodId} {args : Array Value} {below : List Frame} {meth : Method} {c : Code} {H : Heap} {Q : State → Prop}
variable {pc : Nat} {ls : Array Slot} {rest st0 : List Value} {G : tG} {τ σ : Nat → Nat} {a : Nat → Option (Nat → Int32)} {cells slots : Nat} {av : Array Value}
/-- a call of the class that changes what is known -/
theorem lf_c {post : Int32 → mF → Prop} (hL : lS G τ σ a s H) (hr : va_Run p l e R s m args below meth c H [] cells slots 0 0 (F0 m pc ls st0) rest (tQF G τ post av) (tA τ))
    (kk : ∀ (r : Int32) (F9 : mF) (H1 : Heap), post r F9 → lS (gF G F9) τ σ a s H1 → W p l e R s m args below meth c H1 [] cells slots Q (F0 m (pc + 3) ls (.int r :: rest))) : W p l e R s m args below meth c H [] cells slots Q (F0 m pc ls st0) :=
  va_calli hr hL.2.2.2.2.2.2.2 (fun q _ h2 => (hL.2.1 q h2).1) (fun q h2 => (hL.2.1 q h2).1) (fun r F9 t H1 locs1 ht _ hp hB hz ho hS => by
    obtain ⟨h1, h2, h3, h4, h5, h6, h7, h8⟩ := hL
    have hT : TH G (tΓ (gF G F9) τ) H1 := ht ▸ hB
    refine va_forget (fun q hq => hS.2.2 q hq) (kk r F9 H1 hp ⟨by rw [TH_gF]; exact hT, fun q hq => ⟨(h2 q hq).1, Nat.lt_of_lt_of_le (h2 q hq).2 hz⟩, ?_, fun q hq => ⟨(h4 q hq).1, Nat.lt_of_lt_of_le (h4 q hq).2 hz⟩, h5, h6, h7, hS.1, hS.2.1, fun _ h => by cases h⟩)
    rw [TH_gF, mΓ_gF]
    exact mTH.mk (fun q hq => (mTH.at h3 hq).kept (ho q (h4 q hq).2 (fun z => hq (h7 q z)))))
/-- a call of the reference that changes what is known -/
theorem lf_m {post : Int32 → mY → mF → Prop} {P : Int32 → (Nat → Option (Nat → Int32)) → mF → Prop} (hL : lS G τ σ a s H) (hr : va_Run p l e R s m args below meth c H [] cells slots 0 0 (F0 m pc ls st0) rest (mQM G (σ, 2, qX a) post av) (mA (σ, 2, qX a)))
    (hq : ∀ r Y M, Y.1 = σ → post r Y M → ∃ a', PI2 a' ∧ mLe Y (σ, 2, qX a') ∧ P r a' M)
    (kk : ∀ (r : Int32) (M : mF) (a' : Nat → Option (Nat → Int32)) (H1 : Heap), P r a' M → lS (kM G M) τ σ a' s H1 → W p l e R s m args below meth c H1 [] cells slots Q (F0 m (pc + 3) ls (.int r :: rest))) : W p l e R s m args below meth c H [] cells slots Q (F0 m pc ls st0) :=
  va_calli hr hL.2.2.2.2.2.2.2 (fun q _ h2 => (hL.2.2.2.1 q h2).1) (fun q h2 => (hL.2.2.2.1 q h2).1) (fun r w t H1 locs1 ht _ hp hB hz ho hS => by
    obtain ⟨Y, M⟩ := w
    obtain ⟨a', g3, g4, g5⟩ := hq r Y M hp.1 hp.2.2
    obtain ⟨h1, h2, h3, h4, h5, h6, h7, h8⟩ := hL
    have hT : TH G (mΓ (kM G M) Y) H1 := ht ▸ hB
    refine va_forget (fun q hq => hS.2.2 q hq) (kk r M a' H1 g5 ⟨?_, fun q hq => ⟨(h2 q hq).1, Nat.lt_of_lt_of_le (h2 q hq).2 hz⟩, by rw [TH_kM]; exact mTH.le g4 hT, fun q hq => ⟨(h4 q hq).1, Nat.lt_of_lt_of_le (h4 q hq).2 hz⟩, h5, g3, h7, hS.1, hS.2.1, fun _ h => by cases h⟩)
    rw [TH_kM, tΓ_kM]
    exact h1.kept (fun q hq => ho q (h2 q (tΓ_no hq)).2 (fun z => z (h7 q (tΓ_no hq)))))
theorem lx_i {post : Int32 → mY → Prop} {P : Int32 → (Nat → Option (Nat → Int32)) → Prop} (hL : lS G τ σ a s H) (hr : va_Run p l e R s m args below meth c H [] cells slots 0 0 (F0 m pc ls st0) rest (mQiX G (σ, 2, qX a) post av) (mA (σ, 2, qX a)))
    (hq : ∀ r Z, Z.1 = σ → post r Z → ∃ a', PI2 a' ∧ mLe Z (σ, 2, qX a') ∧ P r a')
    (kk : ∀ (r : Int32) (a' : Nat → Option (Nat → Int32)) (H1 : Heap), P r a' → lS G τ σ a' s H1 → W p l e R s m args below meth c H1 [] cells slots Q (F0 m (pc + 3) ls (.int r :: rest))) : W p l e R s m args below meth c H [] cells slots Q (F0 m pc ls st0) :=
  va_calli hr hL.2.2.2.2.2.2.2 (fun q _ h2 => (hL.2.2.2.1 q h2).1) (fun q h2 => (hL.2.2.2.1 q h2).1) (fun r Z t H1 locs1 ht _ hp hB hz ho hS => by
    obtain ⟨a', g1, g2, g3⟩ := hq r Z hp.1 hp.2.2
    exact va_forget (fun q hq => hS.2.2 q hq) (kk r a' H1 g3 (hL.model (ht ▸ hB) g1 g2 hz ho hS)))
theorem lx_l {post : Int64 → mY → Prop} {P : (Nat → Option (Nat → Int32)) → Prop} (hL : lS G τ σ a s H) (hr : va_Run p l e R s m args below meth c H [] cells slots 0 0 (F0 m pc ls st0) rest (mQlX G (σ, 2, qX a) post av) (mA (σ, 2, qX a)))
    (hq : ∀ r Z, Z.1 = σ → post r Z → ∃ a', PI2 a' ∧ mLe Z (σ, 2, qX a') ∧ P a')
    (kk : ∀ (r : Int64) (a' : Nat → Option (Nat → Int32)) (H1 : Heap), P a' → lS G τ σ a' s H1 → W p l e R s m args below meth c H1 [] cells slots Q (F0 m (pc + 3) ls (.long r :: rest))) : W p l e R s m args below meth c H [] cells slots Q (F0 m pc ls st0) :=
  va_calll hr hL.2.2.2.2.2.2.2 (fun q _ h2 => (hL.2.2.2.1 q h2).1) (fun q h2 => (hL.2.2.2.1 q h2).1) (fun r Z t H1 locs1 ht _ hp hB hz ho hS => by
    obtain ⟨a', g1, g2, g3⟩ := hq r Z hp.1 hp.2.2
    exact va_forget (fun q hq => hS.2.2 q hq) (kk r a' H1 g3 (hL.model (ht ▸ hB) g1 g2 hz ho hS)))
end LWT
/-- where the class's cells lie -/
def lA (G : tG) (x : Nat) : Prop := G.2.2.1 8 = x ∧ G.2.2.1 10 = x + 1 ∧ G.2.2.1 11 = x + 101 ∧ G.2.2.1 14 = x + 406 ∧ G.2.2.1 16 = x + 438
/-- both sides hold the same: tree, rows of the PLAN, letters, image -/
def lT (F M : mF) (x w im lt : Nat) (t u : Nat → Int32) : Prop := (w = x + 1 ∧ im = x + 101 ∧ lt = x + 438) ∧ RT F w t ∧ TInv t ∧ TJ t ∧ TInv u ∧ (F w 3 = M 2 5 ∧ 0 ≤ (M 2 5).toInt ∧ (M 2 5).toInt ≤ 8) ∧ (F x 8 = M 1 25 ∧ 0 ≤ (M 1 25).toInt ∧ (M 1 25).toInt ≤ 120) ∧ (∀ j : Nat, j < 120 → F lt j = M 15 j) ∧ F x 11 = M 1 5 ∧ ((F im 8).toInt ≤ 24 ∧ ∀ n : Nat, n ≤ 23 → (F (bA im n) 0).toInt = (n : Int)) ∧ (¬ (M 1 5).toInt = 0 → RT F im u ∧ TJ u ∧ F im 3 = M 3 5 ∧ 0 ≤ (M 3 5).toInt ∧ (M 3 5).toInt ≤ 8) ∧ NMS M
def lK (G : tG) (x : Nat) (a : Nat → Option (Nat → Int32)) : Prop := lA G x ∧ ∃ t u, a 2 = some t ∧ a 3 = some u ∧ lT (FF G) (FM G) x (G.2.2.1 10) (G.2.2.1 11) (G.2.2.1 16) t u
/-- what the class's plan(), letter(), image(), undo() do -/
def PLc (F F9 : mF) (w : Nat) (x1 x2 r : Int32) : Prop := (x1.toInt = -1 ∧ r = 0 ∧ F9 = up2 F w 3 0) ∨ (¬ x1.toInt = -1 ∧ r = -1 ∧ F9 = F ∧ ¬ (0 ≤ x1.toInt ∧ x1.toInt ≤ 23 ∧ tB (F w 4) x1.toInt.toNat)) ∨ (¬ x1.toInt = -1 ∧ r = -2 ∧ F9 = F ∧ (0 ≤ x1.toInt ∧ x1.toInt ≤ 23 ∧ tB (F w 4) x1.toInt.toNat) ∧ ¬ (0 ≤ x2.toInt ∧ x2.toInt ≤ 9)) ∨ (¬ x1.toInt = -1 ∧ r = -4 ∧ F9 = F ∧ (0 ≤ x1.toInt ∧ x1.toInt ≤ 23 ∧ tB (F w 4) x1.toInt.toNat) ∧ (0 ≤ x2.toInt ∧ x2.toInt ≤ 9) ∧ 8 ≤ (F w 3).toInt) ∨ (¬ x1.toInt = -1 ∧ (0 ≤ x1.toInt ∧ x1.toInt ≤ 23 ∧ tB (F w 4) x1.toInt.toNat) ∧ (0 ≤ x2.toInt ∧ x2.toInt ≤ 9) ∧ (F w 3).toInt ≤ 7 ∧ r = F w 3 + 1 ∧ F9 = up2 F w 3 (F w 3 + 1))
def LEc (F F9 : mF) (x lt : Nat) (x1 r : Int32) : Prop := (¬ (32 ≤ x1.toInt ∧ x1.toInt ≤ 126) ∧ r = -2 ∧ F9 = F) ∨ ((32 ≤ x1.toInt ∧ x1.toInt ≤ 126) ∧ 120 ≤ (F x 8).toInt ∧ r = -4 ∧ F9 = F) ∨ ((32 ≤ x1.toInt ∧ x1.toInt ≤ 126) ∧ (F x 8).toInt ≤ 119 ∧ r = F x 8 + 1 ∧ F9 = up2 (up2 F lt (F x 8).toNatClampNeg x1) x 8 (F x 8 + 1))
def IMc (F F9 : mF) (x w im : Nat) (r : Int32) : Prop := ∃ F1 : mF, cpW F F1 im w ∧ F9 = up2 F1 x 11 1 ∧ r = bcE (F w 4)
def UNc (F F9 : mF) (x w im : Nat) (r : Int32) : Prop := ((F x 11).toInt = 0 ∧ r = -3 ∧ F9 = F) ∨ (¬ (F x 11).toInt = 0 ∧ cpW F F9 w im ∧ r = bcE (F im 4))
section LT
variable {F F9 M : mF} {x w im lt : Nat} {t t' u : Nat → Int32}
/-- the tree of now changes -/
theorem lT.fr (h : lT F M x w im lt t u) (hf : FRW F F9 w) (hR : RT F9 w t') (hI : TInv t') (hJ : TJ t') : lT F9 M x w im lt t' u := by
  obtain ⟨⟨e1, e2, e3⟩, h1, h2, h3, h4, ⟨h5, h5'⟩, ⟨h6, h6'⟩, h7, h8, h9, h10, h11⟩ := h
  have o : ∀ c k : Nat, ¬ (w ≤ c ∧ c < w + 100) → F9 c k = F c k := hf.1
  refine ⟨⟨e1, e2, e3⟩, hR, hI, hJ, h4, ⟨by rw [hf.2]; exact h5, h5'⟩, ⟨by rw [o x 8 (by omega)]; exact h6, h6'⟩, fun j hj => by rw [o lt j (by omega)]; exact h7 j hj, by rw [o x 11 (by omega)]; exact h8, ⟨by rw [o im 8 (by omega)]; exact h9.1, fun n hn => by rw [o _ 0 (by unfold bA; omega)]; exact h9.2 n hn⟩, fun q => ?_, h11⟩
  obtain ⟨g1, g2, g3, g4⟩ := h10 q
  exact ⟨RT_fr g1 (fun c k q1 q2 _ => o c k (by omega)), g2, by rw [o im 3 (by omega)]; exact g3, g4⟩
/-- nothing that counts changes -/
theorem lT.ag (h : lT F M x w im lt t u) (hg : AG t t') (hI : TInv t') : lT F M x w im lt t' u :=
  h.fr FRW.refl (RT_AG h.2.1 (fun _ q1 q2 => (TI10 h.2.2.1 q1 q2).2) hg) hI (TJ_AG h.2.2.2.1 (fun _ q1 q2 => (TI10 h.2.2.1 q1 q2).2) hg)
theorem lT.rd {W : mF} {rd : Nat} (h : lT F M x w im lt t u) (hrd : rd = x + 406) (hR : RT F9 w t') (hI : TInv t') (hJ : TJ t') (h3w : F9 w 3 = F w 3) (o : ∀ c k : Nat, ¬ (w ≤ c ∧ c < w + 100) → ¬ (rd ≤ c ∧ c < rd + 30) → ¬ (c = x ∧ k = 8) → F9 c k = F c k) (hW : (F9 x 8 = F x 8 ∧ W = M) ∨ (F9 x 8 = 0 ∧ W = up2 M 1 25 0)) : lT F9 W x w im lt t' u := by
  obtain ⟨⟨e1, e2, e3⟩, h1, h2, h3, h4, ⟨h5, h5'⟩, ⟨h6, h6'⟩, h7, h8, h9, h10, h11⟩ := h
  have oW : ∀ c k : Nat, ¬ (c = 1 ∧ k = 25) → W c k = M c k := fun c k q => by
    rcases hW with ⟨-, e⟩ | ⟨-, e⟩
    · rw [e]
    · rw [e, up2_ne q]
  have o' : ∀ c k : Nat, ¬ (w ≤ c ∧ c < w + 100) → ¬ (rd ≤ c ∧ c < rd + 30) → ¬ (c = x ∧ k = 8) → F9 c k = F c k := o
  refine ⟨⟨e1, e2, e3⟩, hR, hI, hJ, h4, ?_, ?_, fun j hj => ?_, ?_, ⟨?_, fun n hn => ?_⟩, fun q => ?_, fun k j hk hj => ?_⟩
  · rw [oW 2 5 (by decide), h3w]; exact ⟨h5, h5'⟩
  · rcases hW with ⟨e, e'⟩ | ⟨e, e'⟩
    · rw [e, e']; exact ⟨h6, h6'⟩
    · rw [e, e', up2_at]; exact ⟨rfl, by decide, by decide⟩
  · rw [o lt j (by omega) (by omega) (by omega), oW 15 j (by omega)]; exact h7 j hj
  · rw [o x 11 (by omega) (by omega) (by omega), oW 1 5 (by decide)]; exact h8
  · rw [o im 8 (by omega) (by omega) (by omega)]; exact h9.1
  · rw [o _ 0 (by unfold bA; omega) (by unfold bA; omega) (by unfold bA; omega)]; exact h9.2 n hn
  · rw [oW 1 5 (by decide)] at q
    obtain ⟨g1, g2, g3, g4⟩ := h10 q
    rw [oW 3 5 (by decide)]
    exact ⟨RT_fr g1 (fun c k q1 q2 _ => o c k (by omega) (by omega) (by omega)), g2, by rw [o im 3 (by omega) (by omega) (by omega)]; exact g3, g4⟩
  · rw [oW 16 _ (by omega)]; exact h11 k j hk hj
theorem lT.pl {W : mF} {v : Int32} (h : lT F M x w im lt t u) (e : F9 = up2 F w 3 v) (eW : W = up2 M 2 5 v) (hv : 0 ≤ v.toInt ∧ v.toInt ≤ 8) : lT F9 W x w im lt t u := by
  obtain ⟨⟨e1, e2, e3⟩, h1, h2, h3, h4, ⟨h5, h5'⟩, ⟨h6, h6'⟩, h7, h8, h9, h10, h11⟩ := h
  have o : ∀ c k : Nat, ¬ (c = w ∧ k = 3) → F9 c k = F c k := fun c k q => by rw [e, up2_ne q]
  have oW : ∀ c k : Nat, ¬ (c = 2 ∧ k = 5) → W c k = M c k := fun c k q => by rw [eW, up2_ne q]
  refine ⟨⟨e1, e2, e3⟩, RT_fr h1 (fun c k _ _ q => o c k q), h2, h3, h4, ⟨by rw [e, eW, up2_at, up2_at], by rw [eW, up2_at]; exact hv⟩, ?_, fun j hj => ?_, ?_, ⟨?_, fun n hn => ?_⟩, fun q => ?_, fun k j hk hj => ?_⟩
  · rw [o x 8 (by omega), oW 1 25 (by decide)]; exact ⟨h6, h6'⟩
  · rw [o lt j (by omega), oW 15 j (by omega)]; exact h7 j hj
  · rw [o x 11 (by omega), oW 1 5 (by decide)]; exact h8
  · rw [o im 8 (by omega)]; exact h9.1
  · rw [o _ 0 (by omega)]; exact h9.2 n hn
  · rw [oW 1 5 (by decide)] at q
    obtain ⟨g1, g2, g3, g4⟩ := h10 q
    rw [oW 3 5 (by decide)]
    exact ⟨RT_fr g1 (fun c k q1 q2 _ => o c k (by omega)), g2, by rw [o im 3 (by omega)]; exact g3, g4⟩
  · rw [oW 16 _ (by omega)]; exact h11 k j hk hj
theorem lT.le {W : mF} {v n9 : Int32} {i : Nat} (h : lT F M x w im lt t u) (e : F9 = up2 (up2 F lt i v) x 8 n9) (eW : W = up2 (up2 M 15 i v) 1 25 n9) (hv : 0 ≤ n9.toInt ∧ n9.toInt ≤ 120) : lT F9 W x w im lt t u := by
  obtain ⟨⟨e1, e2, e3⟩, h1, h2, h3, h4, ⟨h5, h5'⟩, ⟨h6, h6'⟩, h7, h8, h9, h10, h11⟩ := h
  have o : ∀ c k : Nat, ¬ (c = x ∧ k = 8) → ¬ c = lt → F9 c k = F c k := fun c k q1 q2 => by rw [e, up2_ne q1, up2_ne (by omega)]
  have oW : ∀ c k : Nat, ¬ (c = 1 ∧ k = 25) → ¬ c = 15 → W c k = M c k := fun c k q1 q2 => by rw [eW, up2_ne q1, up2_ne (by omega)]
  refine ⟨⟨e1, e2, e3⟩, RT_fr h1 (fun c k q1 q2 _ => o c k (by omega) (by omega)), h2, h3, h4, ?_, ⟨by rw [e, eW, up2_at, up2_at], by rw [eW, up2_at]; exact hv⟩, fun j hj => ?_, ?_, ⟨?_, fun n hn => ?_⟩, fun q => ?_, fun k j hk hj => ?_⟩
  · rw [o w 3 (by omega) (by omega), oW 2 5 (by decide) (by decide)]; exact ⟨h5, h5'⟩
  · rw [e, eW, up2_ne (F := up2 F lt i v) (by omega), up2_ne (F := up2 M 15 i v) (by omega)]
    by_cases z : j = i
    · rw [z, up2_at, up2_at]
    · rw [up2_ne (fun y => z y.2), up2_ne (fun y => z y.2)]; exact h7 j hj
  · rw [o x 11 (by omega) (by omega), oW 1 5 (by decide) (by decide)]; exact h8
  · rw [o im 8 (by omega) (by omega)]; exact h9.1
  · rw [o _ 0 (by unfold bA; omega) (by unfold bA; omega)]; exact h9.2 n hn
  · rw [oW 1 5 (by decide) (by decide)] at q
    obtain ⟨g1, g2, g3, g4⟩ := h10 q
    rw [oW 3 5 (by decide) (by decide)]
    exact ⟨RT_fr g1 (fun c k q1 q2 _ => o c k (by omega) (by omega)), g2, by rw [o im 3 (by omega) (by omega)]; exact g3, g4⟩
  · rw [oW 16 _ (by omega) (by omega)]; exact h11 k j hk hj
theorem lT.ig {W F1 : mF} (h : lT F M x w im lt t u) (hc : cpW F F1 im w) (e : F9 = up2 F1 x 11 1) (eW : W = up2 (up2 M 1 5 1) 3 5 (M 2 5)) : lT F9 W x w im lt t t := by
  obtain ⟨⟨e1, e2, e3⟩, h1, h2, h3, h4, ⟨h5, h5'⟩, ⟨h6, h6'⟩, h7, h8, h9, h10, h11⟩ := h
  have o : ∀ c k : Nat, ¬ (c = x ∧ k = 11) → ¬ (im ≤ c ∧ c < im + 100) → F9 c k = F c k := fun c k q1 q2 => by rw [e, up2_ne q1]; exact hc.2.1 c k q2
  have oW : ∀ c k : Nat, ¬ (c = 1 ∧ k = 5) → ¬ (c = 3 ∧ k = 5) → W c k = M c k := fun c k q1 q2 => by rw [eW, up2_ne q2, up2_ne q1]
  have e15 : W 1 5 = 1 := by rw [eW, up2_ne (by decide), up2_at]
  have hR : RT F9 im t := RT_fr (RT_cp h1 h2 h9.2 hc) (fun c k q1 q2 _ => by rw [e]; exact up2_ne (by omega))
  refine ⟨⟨e1, e2, e3⟩, RT_fr h1 (fun c k q1 q2 _ => o c k (by omega) (by omega)), h2, h3, h2, ?_, ?_, fun j hj => ?_, ?_, ⟨by rw [hR.1]; exact h2.1.2.1, hR.2.2.2.1⟩, fun _ => ⟨hR, h3, ?_, ?_⟩, fun k j hk hj => ?_⟩
  · rw [o w 3 (by omega) (by omega), oW 2 5 (by decide) (by decide)]; exact ⟨h5, h5'⟩
  · rw [o x 8 (by omega) (by omega), oW 1 25 (by decide) (by decide)]; exact ⟨h6, h6'⟩
  · rw [o lt j (by omega) (by omega), oW 15 j (by omega) (by omega)]; exact h7 j hj
  · rw [e15, e, up2_at]
  · rw [e, up2_ne (by omega), eW, up2_at, hc.1.1]; exact h5
  · rw [eW, up2_at]; exact h5'
  · rw [oW 16 _ (by omega) (by omega)]; exact h11 k j hk hj
theorem lT.un {W : mF} (h : lT F M x w im lt t u) (hz : ¬ (M 1 5).toInt = 0) (hc : cpW F F9 w im) (eW : W = up2 M 2 5 (M 3 5)) : lT F9 W x w im lt u u := by
  obtain ⟨⟨e1, e2, e3⟩, h1, h2, h3, h4, ⟨h5, h5'⟩, ⟨h6, h6'⟩, h7, h8, h9, h10, h11⟩ := h
  obtain ⟨g1, g2, g3, g4⟩ := h10 hz
  have o : ∀ c k : Nat, ¬ (w ≤ c ∧ c < w + 100) → F9 c k = F c k := hc.2.1
  have oW : ∀ c k : Nat, ¬ (c = 2 ∧ k = 5) → W c k = M c k := fun c k q1 => by rw [eW, up2_ne q1]
  refine ⟨⟨e1, e2, e3⟩, RT_cp g1 h4 h1.2.2.2.1 hc, h4, g2, h4, ⟨?_, ?_⟩, ?_, fun j hj => ?_, ?_, ⟨?_, fun n hn => ?_⟩, fun _ => ⟨RT_fr g1 (fun c k q1 q2 _ => o c k (by omega)), g2, ?_, ?_⟩, fun k j hk hj => ?_⟩
  · rw [hc.1.1, eW, up2_at]; exact g3
  · rw [eW, up2_at]; exact g4
  · rw [o x 8 (by omega), oW 1 25 (by decide)]; exact ⟨h6, h6'⟩
  · rw [o lt j (by omega), oW 15 j (by omega)]; exact h7 j hj
  · rw [o x 11 (by omega), oW 1 5 (by decide)]; exact h8
  · rw [o im 8 (by omega)]; exact h9.1
  · rw [o _ 0 (by unfold bA; omega)]; exact h9.2 n hn
  · rw [o im 3 (by omega), oW 3 5 (by decide)]; exact g3
  · rw [oW 3 5 (by decide)]; exact g4
  · rw [oW 16 _ (by omega)]; exact h11 k j hk hj
theorem lT.im24 (h : lT F M x w im lt t u) : (F im 8).toInt ≤ 24 := h.2.2.2.2.2.2.2.2.2.1.1
theorem RL_plan {W : mF} {x1 x2 r r' : Int32} (h : lT F M x w im lt t u) (hc : (x1.toInt = -1 ∧ r = 0 ∧ F9 = up2 F w 3 0) ∨ (¬ x1.toInt = -1 ∧ r = -1 ∧ F9 = F ∧ ¬ (0 ≤ x1.toInt ∧ x1.toInt ≤ 23 ∧ tB (F w 4) x1.toInt.toNat)) ∨ (¬ x1.toInt = -1 ∧ r = -2 ∧ F9 = F ∧ (0 ≤ x1.toInt ∧ x1.toInt ≤ 23 ∧ tB (F w 4) x1.toInt.toNat) ∧ ¬ (0 ≤ x2.toInt ∧ x2.toInt ≤ 9)) ∨ (¬ x1.toInt = -1 ∧ r = -4 ∧ F9 = F ∧ (0 ≤ x1.toInt ∧ x1.toInt ≤ 23 ∧ tB (F w 4) x1.toInt.toNat) ∧ (0 ≤ x2.toInt ∧ x2.toInt ≤ 9) ∧ 8 ≤ (F w 3).toInt) ∨ (¬ x1.toInt = -1 ∧ (0 ≤ x1.toInt ∧ x1.toInt ≤ 23 ∧ tB (F w 4) x1.toInt.toNat) ∧ (0 ≤ x2.toInt ∧ x2.toInt ≤ 9) ∧ (F w 3).toInt ≤ 7 ∧ r = F w 3 + 1 ∧ F9 = up2 F w 3 (F w 3 + 1)))
    (hr : (x1.toInt = -1 ∧ r' = 0 ∧ W = up2 M 2 5 0) ∨ (¬ x1.toInt = -1 ∧ r' = -1 ∧ W = M ∧ ¬ (0 ≤ x1.toInt ∧ x1.toInt ≤ 23 ∧ K t x1.toInt 0 = 1)) ∨ (¬ x1.toInt = -1 ∧ r' = -2 ∧ W = M ∧ (0 ≤ x1.toInt ∧ x1.toInt ≤ 23 ∧ K t x1.toInt 0 = 1) ∧ ¬ (0 ≤ x2.toInt ∧ x2.toInt ≤ 9)) ∨ (¬ x1.toInt = -1 ∧ r' = -4 ∧ W = M ∧ (0 ≤ x1.toInt ∧ x1.toInt ≤ 23 ∧ K t x1.toInt 0 = 1) ∧ (0 ≤ x2.toInt ∧ x2.toInt ≤ 9) ∧ (M 2 5).toInt = 8) ∨ (¬ x1.toInt = -1 ∧ (0 ≤ x1.toInt ∧ x1.toInt ≤ 23 ∧ K t x1.toInt 0 = 1) ∧ (0 ≤ x2.toInt ∧ x2.toInt ≤ 9) ∧ (M 2 5).toInt ≤ 7 ∧ r' = M 2 5 + 1 ∧ W = up2 M 2 5 (M 2 5 + 1))) : r = r' ∧ lT F9 W x w im lt t u := by
  have h5 := h.2.2.2.2.2.1
  rw [h.2.1.al x1, h5.1] at hc
  by_cases z1 : x1.toInt = -1
  · have c := hc.resolve_right (fun q => by rcases q with q | q | q | q <;> exact q.1 z1)
    have d := hr.resolve_right (fun q => by rcases q with q | q | q | q <;> exact q.1 z1)
    exact ⟨c.2.1.trans d.2.1.symm, h.pl c.2.2 d.2.2 (by decide)⟩
  · have hc := hc.resolve_left (fun q => z1 q.1)
    have hr := hr.resolve_left (fun q => z1 q.1)
    by_cases z2 : AL t x1.toInt
    · have hc := hc.resolve_left (fun q => q.2.2.2 z2)
      have hr := hr.resolve_left (fun q => q.2.2.2 z2)
      by_cases z3 : 0 ≤ x2.toInt ∧ x2.toInt ≤ 9
      · have hc := hc.resolve_left (fun q => q.2.2.2.2 z3)
        have hr := hr.resolve_left (fun q => q.2.2.2.2 z3)
        rcases hc with ⟨-, c1, c2, -, -, c3⟩ | ⟨-, -, -, c3, c1, c2⟩ <;> rcases hr with ⟨-, d1, d2, -, -, d3⟩ | ⟨-, -, -, d3, d1, d2⟩
        · rw [c2, d2]; exact ⟨c1.trans d1.symm, h⟩
        · omega
        · omega
        · have := tn_add (z := M 2 5 + 1) rfl rfl kI_1 (by omega) (by omega)
          exact ⟨c1.trans d1.symm, h.pl c2 d2 (by omega)⟩
      · have c := hc.resolve_right (fun q => by rcases q with q | q; exact z3 q.2.2.2.2.1; exact z3 q.2.2.1)
        have d := hr.resolve_right (fun q => by rcases q with q | q; exact z3 q.2.2.2.2.1; exact z3 q.2.2.1)
        rw [c.2.2.1, d.2.2.1]; exact ⟨c.2.1.trans d.2.1.symm, h⟩
    · have c := hc.resolve_right (fun q => by rcases q with q | q | q; exact z2 q.2.2.2.1; exact z2 q.2.2.2.1; exact z2 q.2.1)
      have d := hr.resolve_right (fun q => by rcases q with q | q | q; exact z2 q.2.2.2.1; exact z2 q.2.2.2.1; exact z2 q.2.1)
      rw [c.2.2.1, d.2.2.1]; exact ⟨c.2.1.trans d.2.1.symm, h⟩
theorem RL_letter {W : mF} {x1 r r' : Int32} (h : lT F M x w im lt t u) (hc : (¬ (32 ≤ x1.toInt ∧ x1.toInt ≤ 126) ∧ r = -2 ∧ F9 = F) ∨ ((32 ≤ x1.toInt ∧ x1.toInt ≤ 126) ∧ 120 ≤ (F x 8).toInt ∧ r = -4 ∧ F9 = F) ∨ ((32 ≤ x1.toInt ∧ x1.toInt ≤ 126) ∧ (F x 8).toInt ≤ 119 ∧ r = F x 8 + 1 ∧ F9 = up2 (up2 F lt (F x 8).toNatClampNeg x1) x 8 (F x 8 + 1)))
    (hr : (¬ (32 ≤ x1.toInt ∧ x1.toInt ≤ 126) ∧ r' = -2 ∧ W = M) ∨ ((32 ≤ x1.toInt ∧ x1.toInt ≤ 126) ∧ (M 1 25).toInt = 120 ∧ r' = -4 ∧ W = M) ∨ ((32 ≤ x1.toInt ∧ x1.toInt ≤ 126) ∧ (M 1 25).toInt ≤ 119 ∧ r' = M 1 25 + 1 ∧ W = up2 (up2 M 15 (M 1 25).toNatClampNeg x1) 1 25 (M 1 25 + 1))) : r = r' ∧ lT F9 W x w im lt t u := by
  have h6 := h.2.2.2.2.2.2.1
  rw [h6.1] at hc
  rcases hc with ⟨c0, c1, c2⟩ | ⟨c0, c3, c1, c2⟩ | ⟨c0, c3, c1, c2⟩ <;> rcases hr with ⟨d0, d1, d2⟩ | ⟨d0, d3, d1, d2⟩ | ⟨d0, d3, d1, d2⟩
  · rw [c2, d2]; exact ⟨c1.trans d1.symm, h⟩
  · exact absurd d0 c0
  · exact absurd d0 c0
  · exact absurd c0 d0
  · rw [c2, d2]; exact ⟨c1.trans d1.symm, h⟩
  · omega
  · exact absurd c0 d0
  · omega
  · have := tn_add (z := M 1 25 + 1) rfl rfl kI_1 (by omega) (by omega)
    exact ⟨c1.trans d1.symm, h.le c2 d2 (by omega)⟩
theorem RL_undo {W : mF} {r r' : Int32} {k1 : Int32} {a a9 : Nat → Option (Nat → Int32)} {k3 : Int} (h : lT F M x w im lt t u) (hc : ((F x 11).toInt = 0 ∧ r = -3 ∧ F9 = F) ∨ (¬ (F x 11).toInt = 0 ∧ cpW F F9 w im ∧ r = k1)) (hr : ((M 1 5).toInt = 0 ∧ r' = -3 ∧ a9 = a ∧ W = M) ∨ (¬ (M 1 5).toInt = 0 ∧ a9 = upA a 2 u ∧ W = up2 M 2 5 (M 3 5) ∧ r'.toInt = k3)) (ha : a 2 = some t) (hu : a 3 = some u) : ∃ t9, a9 2 = some t9 ∧ a9 3 = some u ∧ lT F9 W x w im lt t9 u := by
  rw [h.2.2.2.2.2.2.2.2.1] at hc
  by_cases z : (M 1 5).toInt = 0
  · have c := hc.resolve_right (fun q => q.1 z)
    have d := hr.resolve_right (fun q => q.1 z)
    rw [c.2.2, d.2.2.1, d.2.2.2]
    exact ⟨t, ha, hu, h⟩
  · have c := hc.resolve_left (fun q => z q.1)
    have d := hr.resolve_left (fun q => z q.1)
    rw [d.2.1]
    exact ⟨u, upA_at, (upA_ne (by decide)).trans hu, h.un z c.2.1 d.2.2.1⟩
theorem RL_undoR {W : mF} {r r' : Int32} {a a9 : Nat → Option (Nat → Int32)} (h : lT F M x w im lt t u) (hc : UNc F F9 x w im r) (hr : ((M 1 5).toInt = 0 ∧ r' = -3 ∧ a9 = a ∧ W = M) ∨ (¬ (M 1 5).toInt = 0 ∧ a9 = upA a 2 u ∧ W = up2 M 2 5 (M 3 5) ∧ r'.toInt = cB u 24)) : r = r' := by
  unfold UNc at hc
  rw [h.2.2.2.2.2.2.2.2.1] at hc
  by_cases z : (M 1 5).toInt = 0
  · exact (hc.resolve_right (fun q => q.1 z)).2.1.trans (hr.resolve_right (fun q => q.1 z)).2.1.symm
  · have c := (hc.resolve_left (fun q => z q.1)).2.2
    have d := (hr.resolve_left (fun q => z q.1)).2.2.2
    have hR := (h.2.2.2.2.2.2.2.2.2.2.1 z).1
    exact Int32.toInt_inj.mp (by rw [c, d]; exact bcE_cB hR.2.2.1)
end LT
