/-! ===== the law's world: both sides on one heap ===== -/
def lS (G : tG) (τ σ : Nat → Nat) (a : Nat → Option (Nat → Int32)) (s : State) (H : Heap) : Prop :=
  TH G (tΓ τ) H ∧ (∀ q, τ q ≠ 0 → s.heap.size ≤ q ∧ q < H.size) ∧ TH G (mΓ (σ, 2, qX a)) H ∧ (∀ q, σ q ≠ 0 → s.heap.size ≤ q ∧ q < H.size) ∧ (∀ x y, σ x = σ y → σ x ≠ 0 → x = y) ∧ PI2 a ∧ (∀ q, τ q ≠ 0 → σ q = 0) ∧ va_S (fun q => s.heap.size ≤ q) s.heap H []
theorem lS.G {G : tG} {τ σ : Nat → Nat} {a : Nat → Option (Nat → Int32)} {s : State} {H : Heap} (h : lS G τ σ a s H) : tGH G τ s H [] :=
  ⟨h.1, h.2.2.2.2.2.2.2.1, fun q h1 _ => h.2.2.2.2.2.2.2.2.1 q h1 (by show ¬ s.heap.size ≤ q; omega), fun _ h => by cases h⟩
theorem lS.M {G : tG} {τ σ : Nat → Nat} {a : Nat → Option (Nat → Int32)} {s : State} {H : Heap} (h : lS G τ σ a s H) : mGH G (σ, 2, qX a) s H [] :=
  ⟨h.2.2.1, ⟨h.2.2.2.2.2.2.2.1, fun q h1 _ => h.2.2.2.2.2.2.2.2.1 q h1 (by show ¬ s.heap.size ≤ q; omega), fun _ h => by cases h⟩, mu_2, h.2.2.2.2.1⟩
section LW
variable {p : Program} {l : Launch} {e : Env} {R : Room} {s : State} {m : MethodId} {args : Array Value} {below : List Frame} {meth : Method} {c : Code} {H : Heap} {Q : State → Prop}
variable {pc : Nat} {ls : Array Slot} {rest st0 : List Value} {G : tG} {τ σ : Nat → Nat} {a : Nat → Option (Nat → Int32)} {cells slots : Nat} {av : Array Value}
theorem lS.own {H1 : Heap} (hL : lS G τ σ a s H) (hT : TH G (tΓ τ) H1) (hz : H.size ≤ H1.size) (ho : ∀ q : Nat, q < H.size → ¬ tA τ q → H1[q]? = H[q]?) {locs : List Loc} (hS : va_S (fun q => s.heap.size ≤ q) s.heap H1 locs) : lS G τ σ a s H1 := by
  obtain ⟨h1, h2, h3, h4, h5, h6, h7, h8⟩ := hL
  refine ⟨hT, fun q hq => ⟨(h2 q hq).1, Nat.lt_of_lt_of_le (h2 q hq).2 hz⟩, mTH.mk (fun q hq => (mTH.at h3 hq).kept (ho q (h4 q hq).2 (fun z => hq (h7 q z)))), fun q hq => ⟨(h4 q hq).1, Nat.lt_of_lt_of_le (h4 q hq).2 hz⟩, h5, h6, h7, hS.1, hS.2.1, fun _ h => by cases h⟩
theorem lS.model {H1 : Heap} {Z : mY} {a' : Nat → Option (Nat → Int32)} (hL : lS G τ σ a s H) (hT : TH G (mΓ Z) H1) (hP : PI2 a') (hZ : mLe Z (σ, 2, qX a')) (hz : H.size ≤ H1.size) (ho : ∀ q : Nat, q < H.size → ¬ mA (σ, 2, qX a) q → H1[q]? = H[q]?) {locs : List Loc} (hS : va_S (fun q => s.heap.size ≤ q) s.heap H1 locs) : lS G τ σ a' s H1 := by
  obtain ⟨h1, h2, h3, h4, h5, h6, h7, h8⟩ := hL
  refine ⟨h1.kept (fun q hq => ?_), fun q hq => ⟨(h2 q hq).1, Nat.lt_of_lt_of_le (h2 q hq).2 hz⟩, mTH.le hZ hT, fun q hq => ⟨(h4 q hq).1, Nat.lt_of_lt_of_le (h4 q hq).2 hz⟩, h5, hP, h7, hS.1, hS.2.1, fun _ h => by cases h⟩
  have hq0 := tΓ_no hq
  exact ho q (h2 q hq0).2 (fun z => z (h7 q hq0))
theorem lc_i {post : Int32 → Prop} (hL : lS G τ σ a s H) (hr : va_Run p l e R s m args below meth c H [] cells slots 0 0 (F0 m pc ls st0) rest (tQi G τ post av) (tA τ))
    (kk : ∀ (r : Int32) (H1 : Heap), lS G τ σ a s H1 → post r → W p l e R s m args below meth c H1 [] cells slots Q (F0 m (pc + 3) ls (.int r :: rest))) : W p l e R s m args below meth c H [] cells slots Q (F0 m pc ls st0) :=
  va_calli hr hL.2.2.2.2.2.2.2 (fun q _ h2 => (hL.2.1 q h2).1) (fun q h2 => (hL.2.1 q h2).1) (fun r _ t H1 locs1 ht _ hp hB hz ho hS => va_forget (fun q hq => hS.2.2 q hq) (kk r H1 (hL.own (ht ▸ hB) hz ho hS) hp))
theorem lc_l {post : Int64 → Prop} (hL : lS G τ σ a s H) (hr : va_Run p l e R s m args below meth c H [] cells slots 0 0 (F0 m pc ls st0) rest (tQl G τ post av) (tA τ))
    (kk : ∀ (r : Int64) (H1 : Heap), lS G τ σ a s H1 → W p l e R s m args below meth c H1 [] cells slots Q (F0 m (pc + 3) ls (.long r :: rest))) : W p l e R s m args below meth c H [] cells slots Q (F0 m pc ls st0) :=
  va_calll hr hL.2.2.2.2.2.2.2 (fun q _ h2 => (hL.2.1 q h2).1) (fun q h2 => (hL.2.1 q h2).1) (fun r _ t H1 locs1 ht _ hp hB hz ho hS => va_forget (fun q hq => hS.2.2 q hq) (kk r H1 (hL.own (ht ▸ hB) hz ho hS)))
theorem lm_i {post : Int32 → mY → Prop} (hL : lS G τ σ a s H) (hr : va_Run p l e R s m args below meth c H [] cells slots 0 0 (F0 m pc ls st0) rest (mQiX G (σ, 2, qX a) post av) (mA (σ, 2, qX a)))
    (hq : ∀ r Z, Z.1 = σ → post r Z → ∃ a', PI2 a' ∧ mLe Z (σ, 2, qX a'))
    (kk : ∀ (r : Int32) (a' : Nat → Option (Nat → Int32)) (H1 : Heap), lS G τ σ a' s H1 → (∃ Z, post r Z) → W p l e R s m args below meth c H1 [] cells slots Q (F0 m (pc + 3) ls (.int r :: rest))) : W p l e R s m args below meth c H [] cells slots Q (F0 m pc ls st0) :=
  va_calli hr hL.2.2.2.2.2.2.2 (fun q _ h2 => (hL.2.2.2.1 q h2).1) (fun q h2 => (hL.2.2.2.1 q h2).1) (fun r Z t H1 locs1 ht _ hp hB hz ho hS => by
    obtain ⟨a', g1, g2⟩ := hq r Z hp.1 hp.2.2
    exact va_forget (fun q hq => hS.2.2 q hq) (kk r a' H1 (hL.model (ht ▸ hB) g1 g2 hz ho hS) ⟨Z, hp.2.2⟩))
theorem lm_l {post : Int64 → mY → Prop} (hL : lS G τ σ a s H) (hr : va_Run p l e R s m args below meth c H [] cells slots 0 0 (F0 m pc ls st0) rest (mQlX G (σ, 2, qX a) post av) (mA (σ, 2, qX a)))
    (hq : ∀ r Z, Z.1 = σ → post r Z → ∃ a', PI2 a' ∧ mLe Z (σ, 2, qX a'))
    (kk : ∀ (r : Int64) (a' : Nat → Option (Nat → Int32)) (H1 : Heap), lS G τ σ a' s H1 → W p l e R s m args below meth c H1 [] cells slots Q (F0 m (pc + 3) ls (.long r :: rest))) : W p l e R s m args below meth c H [] cells slots Q (F0 m pc ls st0) :=
  va_calll hr hL.2.2.2.2.2.2.2 (fun q _ h2 => (hL.2.2.2.1 q h2).1) (fun q h2 => (hL.2.2.2.1 q h2).1) (fun r Z t H1 locs1 ht _ hp hB hz ho hS => by
    obtain ⟨a', g1, g2⟩ := hq r Z hp.1 hp.2.2
    exact va_forget (fun q hq => hS.2.2 q hq) (kk r a' H1 (hL.model (ht ▸ hB) g1 g2 hz ho hS)))
end LW
/-! how the knowledge goes on -/
theorem PI2.up {a : Nat → Option (Nat → Int32)} {t : Nat → Int32} (h : PI2 a) (ht : TInv t) : PI2 (upA a 2 t) :=
  ⟨(upA_ne (by decide)).trans h.1, (upA_ne (by decide)).trans h.2.1, ⟨t, upA_at, ht⟩, by obtain ⟨u, h1, h2⟩ := h.2.2.2; exact ⟨u, (upA_ne (by decide)).trans h1, h2⟩⟩
theorem PI2.im {a : Nat → Option (Nat → Int32)} {t : Nat → Int32} (h : PI2 a) (ht : TInv t) : PI2 (upA a 3 t) :=
  ⟨(upA_ne (by decide)).trans h.1, (upA_ne (by decide)).trans h.2.1, by obtain ⟨u, h1, h2⟩ := h.2.2.1; exact ⟨u, (upA_ne (by decide)).trans h1, h2⟩, ⟨t, upA_at, ht⟩⟩
def pb (A : Nat → Option (Nat → Int32)) : Nat → Option (Nat → Int32) := fun c => if c = 2 ∨ c = 3 then A c else none
theorem pb_le {σ : Nat → Nat} {A : Nat → Option (Nat → Int32)} : mLe (σ, 2, qX A) (σ, 2, qX (pb A)) := ⟨rfl, rfl, fun c k y e => by
  have e : qX (pb A) c k = some y := e
  show qX A c k = some y
  unfold qX at e ⊢
  by_cases z : c = 2 ∨ c = 3
  · rw [show pb A c = A c from if_pos z] at e; exact e
  · rw [show pb A c = none from if_neg z] at e
    split at e <;> cases e⟩
theorem pb_PI {a A : Nat → Option (Nat → Int32)} {ta : Nat → Int32} (h : PI2 a) (hI : TInv ta) (h2 : A 2 = some ta) (h3 : A 3 = a 3) : PI2 (pb A) :=
  ⟨rfl, rfl, ⟨ta, (show pb A 2 = A 2 from rfl).trans h2, hI⟩, by obtain ⟨u, g1, g2⟩ := h.2.2.2; exact ⟨u, (show pb A 3 = A 3 from rfl).trans (h3.trans g1), g2⟩⟩
