/-- the same world, other knowledge -/
def gA (G Z : tG) : Prop := Z.1 = G.1 ∧ Z.2.1 = G.2.1 ∧ Z.2.2.2 = G.2.2.2 ∧ ∀ i, i < 5 → Z.2.2.1 i = G.2.2.1 i
theorem gA.refl {G : tG} : gA G G := ⟨rfl, rfl, rfl, fun _ _ => rfl⟩
theorem gA.gs {G Z : tG} {a k : Nat} {x : Int32} (h : gA G Z) : gA G (gSet Z a k x) := ⟨h.1, h.2.1, h.2.2.1, fun i hi => (gSet_T (by omega)).trans (h.2.2.2 i hi)⟩
theorem gA.gm {G Z : tG} {t k : Nat} {x : Int32} (h : gA G Z) : gA G (gSm Z t k x) := ⟨h.1, h.2.1, h.2.2.1, fun i hi => (gSm_T (by omega)).trans (h.2.2.2 i hi)⟩
theorem gA.TH {G Z : tG} (h : gA G Z) {Γ : Nat → Option tSH} {H : Heap} : TH Z Γ H = TH G Γ H := by
  obtain ⟨Z1, Z2, Z3, Z4, Z5⟩ := Z
  obtain ⟨h1, h2, h3, -⟩ := h
  have h1 : Z1 = G.1 := h1
  have h2 : Z2 = G.2.1 := h2
  have h3 : (Z4, Z5) = G.2.2.2 := h3
  have h4 : Z4 = G.2.2.2.1 := congrArg Prod.fst h3
  have h5 : Z5 = G.2.2.2.2 := congrArg Prod.snd h3
  subst h1; subst h2; subst h4; subst h5
  exact TH_gf
theorem gA.E {G Z : tG} (h : gA G Z) {p : Program} {s : State} {m : MethodId} {c : Code} {args : Array Value} {own : String} {cc : ByteArray} {nL : Nat} (E : tE G p s m c args own cc nL) : tE Z p s m c args own cc nL := by
  obtain ⟨Z1, Z2, Z3, Z4, Z5⟩ := Z
  obtain ⟨h1, h2, h3, -⟩ := h
  have h1 : Z1 = G.1 := h1
  have h2 : Z2 = G.2.1 := h2
  have h3 : (Z4, Z5) = G.2.2.2 := h3
  have h4 : Z4 = G.2.2.2.1 := congrArg Prod.fst h3
  have h5 : Z5 = G.2.2.2.2 := congrArg Prod.snd h3
  subst h1; subst h2; subst h4; subst h5
  exact E
theorem gA.St {G Z : tG} (h : gA G Z) {A : Nat → Prop} {V : State} (hs : tSt G A V) : tSt Z A V := by
  obtain ⟨Z1, Z2, Z3, Z4, Z5⟩ := Z
  obtain ⟨h1, h2, h3, h9⟩ := h
  have h1 : Z1 = G.1 := h1
  have h2 : Z2 = G.2.1 := h2
  have h3 : (Z4, Z5) = G.2.2.2 := h3
  have h4 : Z4 = G.2.2.2.1 := congrArg Prod.fst h3
  have h5 : Z5 = G.2.2.2.2 := congrArg Prod.snd h3
  subst h1; subst h2; subst h4; subst h5
  obtain ⟨g1, g2⟩ := hs
  refine ⟨fun i hi => ?_, g2⟩
  have e : Z3 i = G.2.2.1 i := h9 i (by omega)
  show _
  rw [show (G.1, G.2.1, Z3, G.2.2.2.1, G.2.2.2.2).2.2.1 i = G.2.2.1 i from e]
  exact g1 i hi
theorem mΓ_eq {G Z : tG} {Y : mY} (h : ∀ t k, t < 4 → k < 8 → km Z t k = km G t k) : mΓ Z Y = mΓ G Y := by
  have e : ∀ t k v, mKn Z t k v = mKn G t k v := fun t k v => propext ⟨fun g hM y hy => g hM y (by rw [h t k (mMk_lt hM).1 (mMk_lt hM).2]; exact hy), fun g hM y hy => g hM y (by rw [← h t k (mMk_lt hM).1 (mMk_lt hM).2]; exact hy)⟩
  unfold mΓ
  simp only [e]
theorem km_gs {G : tG} {a j t k : Nat} {x : Int32} (ht : t < 4) (hk : k < 8) : km (gSet G a j x) t k = km G t k := by
  show (match (if 20 + 8 * t + k = 100 + 64 * a + j then x.toInt.toNat + 1 else G.2.2.1 (20 + 8 * t + k)) with | 0 => none | n + 1 => some (Int32.ofNat n)) = km G t k
  rw [if_neg (by omega)]
  rfl
theorem kW_gm {G : tG} {a j t k : Nat} {x : Int32} (ht : t < 4) (hk : k < 8) : kW (gSm G t k x) a j = kW G a j := by
  show (match (if 100 + 64 * a + j = 20 + 8 * t + k then x.toInt.toNat + 1 else G.2.2.1 (100 + 64 * a + j)) with | 0 => none | n + 1 => some (Int32.ofNat n)) = kW G a j
  rw [if_neg (by omega)]
  rfl
theorem tΓ_g0 {G : tG} {τ : Nat → Nat} : tΓ (gM0 G) τ = tΓ G τ := by
  have e : ∀ a k, kW (gM0 G) a k = kW G a k := fun a k => by
    show (match (if 20 ≤ 100 + 64 * a + k ∧ 100 + 64 * a + k < 100 then 1 else G.2.2.1 (100 + 64 * a + k)) with | 0 => none | n + 1 => some (Int32.ofNat n)) = kW G a k
    rw [if_neg (by omega)]
    rfl
  have e8 : ∀ i, i < 20 → (gM0 G).2.2.1 i = G.2.2.1 i := fun i hi => if_neg (by omega)
  have e9 : ∀ t a k v, tKn (gM0 G) t a k v = tKn G t a k v := fun t a k v => propext ⟨fun h hM => ⟨fun y hy => (h hM).1 y (by rw [e]; exact hy), fun h1 h2 h3 h4 => by
      have := (h hM).2 h1 h2 (by rw [e8 8 (by omega)]; exact h3) (by rw [e8 _ (by omega)]; exact h4)
      rw [e8 _ (by omega)] at this
      exact this⟩, fun h hM => ⟨fun y hy => (h hM).1 y (by rw [← e]; exact hy), fun h1 h2 h3 h4 => by
      rw [e8 _ (by omega)] at h4 ⊢
      exact (h hM).2 h1 h2 (by rw [← e8 8 (by omega)]; exact h3) h4⟩⟩
  unfold tΓ
  simp only [e9]
/-- both know the same screen, the same image's screen if there is one -/
def lK (G : tG) (x : Nat) : Prop := (G.2.2.1 8 = x ∧ G.2.2.1 6 ≠ 0 ∧ G.2.2.1 7 ≠ 0 ∧ G.2.2.1 6 ≠ G.2.2.1 7 ∧ x ≠ G.2.2.1 6 ∧ x ≠ G.2.2.1 7) ∧ ∃ y1 y2 f i1 i2 j1 j2 : Int32, (kW G (G.2.2.1 6) 10 = some y1 ∧ kW G (G.2.2.1 6) 11 = some y2 ∧ km G 2 1 = some y1 ∧ km G 2 2 = some y2) ∧ (kW G x 11 = some f ∧ km G 1 5 = some f) ∧ (kW G (G.2.2.1 7) 10 = some i1 ∧ kW G (G.2.2.1 7) 11 = some i2 ∧ km G 3 1 = some j1 ∧ km G 3 2 = some j2 ∧ (¬ f.toInt = 0 → i1 = j1 ∧ i2 = j2)) ∧ (0 ≤ y1.toInt ∧ 0 ≤ y2.toInt ∧ 0 ≤ i1.toInt ∧ 0 ≤ i2.toInt ∧ 0 ≤ j1.toInt ∧ 0 ≤ j2.toInt)
theorem gT6 {G : tG} {a k a' k' t j t' j' : Nat} {x y z w : Int32} {i : Nat} (hi : i < 20) : (gSm (gSm (gSet (gSet G a k x) a' k' y) t j z) t' j' w).2.2.1 i = G.2.2.1 i := by
  rw [gSm_T (by omega), gSm_T (by omega), gSet_T (by omega), gSet_T (by omega)]
/-- another screen -/
theorem lK.screen {G : tG} {x : Nat} {v w : Int32} (h : lK G x) (hv : 0 ≤ v.toInt) (hw : 0 ≤ w.toInt) : lK (gSm (gSm (gSet (gSet G (G.2.2.1 6) 10 v) (G.2.2.1 6) 11 w) 2 1 v) 2 2 w) x := by
  obtain ⟨⟨h8, h6, h7, h67, hx6, hx7⟩, y1, y2, f, i1, i2, j1, j2, ⟨a1, a2, a3, a4⟩, ⟨b1, b2⟩, ⟨c1, c2, c3, c4, c5⟩, d1, d2, d3, d4, d5, d6⟩ := h
  unfold lK
  rw [gT6 (by omega), gT6 (by omega), gT6 (by omega)]
  refine ⟨⟨h8, h6, h7, h67, hx6, hx7⟩, v, w, f, i1, i2, j1, j2, ⟨?_, ?_, ?_, ?_⟩, ⟨?_, ?_⟩, ⟨?_, ?_, ?_, ?_, c5⟩, hv, hw, d3, d4, d5, d6⟩
  · rw [kW_gm (by decide) (by decide), kW_gm (by decide) (by decide), gSet_ne (Or.inr (by decide)) (by decide) (by decide), gSet_at hv]
  · rw [kW_gm (by decide) (by decide), kW_gm (by decide) (by decide), gSet_at hw]
  · rw [gSm_ne (Or.inr (by decide)) (by decide) (by decide), gSm_at hv]
  · rw [gSm_at hw]
  · rw [kW_gm (by decide) (by decide), kW_gm (by decide) (by decide), gSet_ne (Or.inl hx6) (by decide) (by decide), gSet_ne (Or.inl hx6) (by decide) (by decide)]; exact b1
  · rw [gSm_ne (Or.inl (by decide)) (by decide) (by decide), gSm_ne (Or.inl (by decide)) (by decide) (by decide), km_gs (by decide) (by decide), km_gs (by decide) (by decide)]; exact b2
  · rw [kW_gm (by decide) (by decide), kW_gm (by decide) (by decide), gSet_ne (Or.inl (Ne.symm h67)) (by decide) (by decide), gSet_ne (Or.inl (Ne.symm h67)) (by decide) (by decide)]; exact c1
  · rw [kW_gm (by decide) (by decide), kW_gm (by decide) (by decide), gSet_ne (Or.inl (Ne.symm h67)) (by decide) (by decide), gSet_ne (Or.inl (Ne.symm h67)) (by decide) (by decide)]; exact c2
  · rw [gSm_ne (Or.inl (by decide)) (by decide) (by decide), gSm_ne (Or.inl (by decide)) (by decide) (by decide), km_gs (by decide) (by decide), km_gs (by decide) (by decide)]; exact c3
  · rw [gSm_ne (Or.inl (by decide)) (by decide) (by decide), gSm_ne (Or.inl (by decide)) (by decide) (by decide), km_gs (by decide) (by decide), km_gs (by decide) (by decide)]; exact c4
/-- an image -/
theorem lK.image {G : tG} {x : Nat} {y1 y2 : Int32} (h : lK G x) (k1 : kW G (G.2.2.1 6) 10 = some y1) (k2 : kW G (G.2.2.1 6) 11 = some y2) : lK (gSm (gSm (gSm (gSet (gSet (gSet G (G.2.2.1 7) 10 y1) (G.2.2.1 7) 11 y2) x 11 1) 1 5 1) 3 1 y1) 3 2 y2) x := by
  obtain ⟨⟨h8, h6, h7, h67, hx6, hx7⟩, z1, z2, f, i1, i2, j1, j2, ⟨a1, a2, a3, a4⟩, ⟨b1, b2⟩, ⟨c1, c2, c3, c4, c5⟩, d1, d2, d3, d4, d5, d6⟩ := h
  have e1 : z1 = y1 := Option.some.inj (a1.symm.trans k1)
  have e2 : z2 = y2 := Option.some.inj (a2.symm.trans k2)
  subst e1; subst e2
  have gT : ∀ i, i < 20 → (gSm (gSm (gSm (gSet (gSet (gSet G (G.2.2.1 7) 10 z1) (G.2.2.1 7) 11 z2) x 11 1) 1 5 1) 3 1 z1) 3 2 z2).2.2.1 i = G.2.2.1 i := fun i hi => by
    rw [gSm_T (by omega), gSm_T (by omega), gSm_T (by omega), gSet_T (by omega), gSet_T (by omega), gSet_T (by omega)]
  unfold lK
  rw [gT 8 (by omega), gT 6 (by omega), gT 7 (by omega)]
  refine ⟨⟨h8, h6, h7, h67, hx6, hx7⟩, z1, z2, 1, z1, z2, z1, z2, ⟨?_, ?_, ?_, ?_⟩, ⟨?_, ?_⟩, ⟨?_, ?_, ?_, ?_, fun _ => ⟨rfl, rfl⟩⟩, d1, d2, d1, d2, d1, d2⟩
  · rw [kW_gm (by decide) (by decide), kW_gm (by decide) (by decide), kW_gm (by decide) (by decide), gSet_ne (Or.inl (Ne.symm hx6)) (by decide) (by decide), gSet_ne (Or.inl h67) (by decide) (by decide), gSet_ne (Or.inl h67) (by decide) (by decide)]; exact a1
  · rw [kW_gm (by decide) (by decide), kW_gm (by decide) (by decide), kW_gm (by decide) (by decide), gSet_ne (Or.inl (Ne.symm hx6)) (by decide) (by decide), gSet_ne (Or.inl h67) (by decide) (by decide), gSet_ne (Or.inl h67) (by decide) (by decide)]; exact a2
  · rw [gSm_ne (Or.inl (by decide)) (by decide) (by decide), gSm_ne (Or.inl (by decide)) (by decide) (by decide), gSm_ne (Or.inl (by decide)) (by decide) (by decide), km_gs (by decide) (by decide), km_gs (by decide) (by decide), km_gs (by decide) (by decide)]; exact a3
  · rw [gSm_ne (Or.inl (by decide)) (by decide) (by decide), gSm_ne (Or.inl (by decide)) (by decide) (by decide), gSm_ne (Or.inl (by decide)) (by decide) (by decide), km_gs (by decide) (by decide), km_gs (by decide) (by decide), km_gs (by decide) (by decide)]; exact a4
  · rw [kW_gm (by decide) (by decide), kW_gm (by decide) (by decide), kW_gm (by decide) (by decide), gSet_at (by decide)]
  · rw [gSm_ne (Or.inl (by decide)) (by decide) (by decide), gSm_ne (Or.inl (by decide)) (by decide) (by decide), gSm_at (by decide)]
  · rw [kW_gm (by decide) (by decide), kW_gm (by decide) (by decide), kW_gm (by decide) (by decide), gSet_ne (Or.inl (Ne.symm hx7)) (by decide) (by decide), gSet_ne (Or.inr (by decide)) (by decide) (by decide), gSet_at d1]
  · rw [kW_gm (by decide) (by decide), kW_gm (by decide) (by decide), kW_gm (by decide) (by decide), gSet_ne (Or.inl (Ne.symm hx7)) (by decide) (by decide), gSet_at d2]
  · rw [gSm_ne (Or.inr (by decide)) (by decide) (by decide), gSm_at d1]
  · rw [gSm_at d2]
/-- at first -/
def gI (G : tG) (x b1 b3 : Nat) : tG := (G.1, G.2.1, fun i => if i < 5 then G.2.2.1 i else if i = 6 then b1 else if i = 7 then b3 else if i = 8 then x else if i = 100 + 64 * b1 + 10 ∨ i = 100 + 64 * b1 + 11 ∨ i = 100 + 64 * b3 + 10 ∨ i = 100 + 64 * b3 + 11 then 101 else if i = 100 + 64 * x + 11 then 1 else 0, G.2.2.2.1, G.2.2.2.2)
theorem gI_A {G : tG} {x b1 b3 : Nat} : gA G (gI G x b1 b3) := ⟨rfl, rfl, rfl, fun i hi => if_pos hi⟩
theorem gI_100 {G : tG} {x b1 b3 q k : Nat} (h : (q = b1 ∨ q = b3) ∧ (k = 10 ∨ k = 11)) : kW (gI G x b1 b3) q k = some 100 := by
  show (match (if 100 + 64 * q + k < 5 then G.2.2.1 (100 + 64 * q + k) else if 100 + 64 * q + k = 6 then b1 else if 100 + 64 * q + k = 7 then b3 else if 100 + 64 * q + k = 8 then x else if 100 + 64 * q + k = 100 + 64 * b1 + 10 ∨ 100 + 64 * q + k = 100 + 64 * b1 + 11 ∨ 100 + 64 * q + k = 100 + 64 * b3 + 10 ∨ 100 + 64 * q + k = 100 + 64 * b3 + 11 then 101 else if 100 + 64 * q + k = 100 + 64 * x + 11 then 1 else 0) with | 0 => none | n + 1 => some (Int32.ofNat n)) = some 100
  rw [if_neg (by omega), if_neg (by omega), if_neg (by omega), if_neg (by omega), if_pos (by omega)]
  rfl
theorem gI_x {G : tG} {x b1 b3 : Nat} (h1 : x ≠ b1) (h3 : x ≠ b3) : kW (gI G x b1 b3) x 11 = some 0 := by
  show (match (if 100 + 64 * x + 11 < 5 then G.2.2.1 (100 + 64 * x + 11) else if 100 + 64 * x + 11 = 6 then b1 else if 100 + 64 * x + 11 = 7 then b3 else if 100 + 64 * x + 11 = 8 then x else if 100 + 64 * x + 11 = 100 + 64 * b1 + 10 ∨ 100 + 64 * x + 11 = 100 + 64 * b1 + 11 ∨ 100 + 64 * x + 11 = 100 + 64 * b3 + 10 ∨ 100 + 64 * x + 11 = 100 + 64 * b3 + 11 then 101 else if 100 + 64 * x + 11 = 100 + 64 * x + 11 then 1 else 0) with | 0 => none | n + 1 => some (Int32.ofNat n)) = some 0
  rw [if_neg (by omega), if_neg (by omega), if_neg (by omega), if_neg (by omega), if_neg (by omega), if_pos rfl]
  rfl
theorem gI_of {G : tG} {x b1 b3 q k : Nat} {y : Int32} (hk : k < 64) (h : kW (gI G x b1 b3) q k = some y) : ((q = b1 ∨ q = b3) ∧ (k = 10 ∨ k = 11) ∧ y = 100) ∨ (q = x ∧ k = 11 ∧ y = 0) := by
  by_cases e1 : (q = b1 ∨ q = b3) ∧ (k = 10 ∨ k = 11)
  · rw [gI_100 e1] at h
    exact Or.inl ⟨e1.1, e1.2, (Option.some.inj h).symm⟩
  · by_cases e2 : q = x ∧ k = 11
    · obtain ⟨rfl, rfl⟩ := e2
      rw [gI_x (fun z => e1 ⟨Or.inl z, Or.inr rfl⟩) (fun z => e1 ⟨Or.inr z, Or.inr rfl⟩)] at h
      exact Or.inr ⟨rfl, rfl, (Option.some.inj h).symm⟩
    · exfalso
      have h : (match (if 100 + 64 * q + k < 5 then G.2.2.1 (100 + 64 * q + k) else if 100 + 64 * q + k = 6 then b1 else if 100 + 64 * q + k = 7 then b3 else if 100 + 64 * q + k = 8 then x else if 100 + 64 * q + k = 100 + 64 * b1 + 10 ∨ 100 + 64 * q + k = 100 + 64 * b1 + 11 ∨ 100 + 64 * q + k = 100 + 64 * b3 + 10 ∨ 100 + 64 * q + k = 100 + 64 * b3 + 11 then 101 else if 100 + 64 * q + k = 100 + 64 * x + 11 then 1 else 0) with | 0 => none | n + 1 => some (Int32.ofNat n)) = some y := h
      rw [if_neg (by omega), if_neg (by omega), if_neg (by omega), if_neg (by omega), if_neg (by omega), if_neg (by omega)] at h
      cases h
theorem tMk_c {t k : Nat} (h : tMk t k = true) : ((t = 2 ∨ t = 28 ∨ t = 30) ∧ (k = 10 ∨ k = 11)) ∨ (t = 1 ∧ (k = 11 ∨ k = 0 ∨ k = 1)) := by
  unfold tMk at h
  simp only [Bool.or_eq_true, Bool.and_eq_true, beq_iff_eq] at h
  omega
theorem tΓi_to {G : tG} {τ : Nat → Nat} {H : Heap} {x : Nat} (h : TH G (tΓi τ) H) (hx : τ x = 1) : ∃ b1 b3, τ b1 = 2 ∧ τ b3 = 30 ∧ TH G (tΓ (gI G x b1 b3) τ) H := by
  have h9 := h.iat (q := x) (by rw [hx]; decide)
  rw [hx] at h9
  obtain ⟨r, V, g1, g2, g3⟩ := h9
  have hr : r = (RX9, TX9, 12) := Option.some.inj (g1.symm.trans fc_X9.1)
  obtain ⟨b1, e1, hb1⟩ : ∃ b : Nat, V 0 = .ref b ∧ τ b = 2 := (g3 0 (by rw [hr]; decide)).1
  obtain ⟨b3, e3, hb3⟩ : ∃ b : Nat, V 1 = .ref b ∧ τ b = 30 := (g3 1 (by rw [hr]; decide)).1
  refine ⟨b1, b3, hb1, hb3, TH.mk (fun q hq => ?_)⟩
  have key : ∀ k v, tMk (τ q) k = true → tKi (τ q) k v → ∀ y, kW (gI G x b1 b3) q k = some y → v = .int y := fun k v hM hi y hy => by
    rcases gI_of (by have := tMk_lt hM; omega) hy with ⟨a1, a2, a3⟩ | ⟨a1, a2, a3⟩
    · rw [a3]
      refine hi 100 ?_
      unfold iv
      rw [if_pos ⟨by rcases a1 with e | e <;> rw [e]; exact Or.inl hb1; exact Or.inr hb3, a2⟩]
    · rw [a3]
      refine hi 0 ?_
      rw [a1, hx, a2]
      rfl
  by_cases e : q = x
  · subst e
    rw [hx] at key ⊢
    refine ⟨r, V, g1, g2, fun k hk => ⟨(g3 k hk).1, fun hM => ⟨key k _ hM (g3 k hk).2, fun _ h2 _ _ => ?_⟩⟩⟩
    match k, h2 with
    | 0, _ => exact e1
    | 1, _ => exact e3
    | k + 2, h => omega
  · exact (h.iat hq).to (fun k v hv => ⟨hv.1, fun hM => ⟨key k v hM hv.2, fun _ _ h8 _ => absurd (show q = x from h8) e⟩⟩)
/-! ===== the law's world: both sides on one heap ===== -/
def lS (G : tG) (τ σ : Nat → Nat) (a : Nat → Option (Nat → Int32)) (s : State) (H : Heap) : Prop :=
  TH G (tΓ G τ) H ∧ (∀ q, τ q ≠ 0 → s.heap.size ≤ q ∧ q < H.size) ∧ TH G (mΓ G (σ, 2, qX a)) H ∧ (∀ q, σ q ≠ 0 → s.heap.size ≤ q ∧ q < H.size) ∧ (∀ x y, σ x = σ y → σ x ≠ 0 → x = y) ∧ PI2 a ∧ (∀ q, τ q ≠ 0 → σ q = 0) ∧ va_S (fun q => s.heap.size ≤ q) s.heap H []
theorem lS.G {G : tG} {τ σ : Nat → Nat} {a : Nat → Option (Nat → Int32)} {s : State} {H : Heap} (h : lS G τ σ a s H) : tGH G τ s H [] :=
  ⟨h.1, h.2.2.2.2.2.2.2.1, fun q h1 _ => h.2.2.2.2.2.2.2.2.1 q h1 (by show ¬ s.heap.size ≤ q; omega), fun _ h => by cases h⟩
theorem lS.M {G : tG} {τ σ : Nat → Nat} {a : Nat → Option (Nat → Int32)} {s : State} {H : Heap} (h : lS G τ σ a s H) : mGH G (σ, 2, qX a) s H [] :=
  ⟨h.2.2.1, ⟨h.2.2.2.2.2.2.2.1, fun q h1 _ => h.2.2.2.2.2.2.2.2.1 q h1 (by show ¬ s.heap.size ≤ q; omega), fun _ h => by cases h⟩, mu_2, h.2.2.2.2.1⟩
section LW
variable {p : Program} {l : Launch} {e : Env} {R : Room} {s : State} {m : MethodId} {args : Array Value} {below : List Frame} {meth : Method} {c : Code} {H : Heap} {Q : State → Prop}
variable {pc : Nat} {ls : Array Slot} {rest st0 : List Value} {G : tG} {τ σ : Nat → Nat} {a : Nat → Option (Nat → Int32)} {cells slots : Nat} {av : Array Value}
theorem lS.own {H1 : Heap} (hL : lS G τ σ a s H) (hT : TH G (tΓ G τ) H1) (hz : H.size ≤ H1.size) (ho : ∀ q : Nat, q < H.size → ¬ tA τ q → H1[q]? = H[q]?) {locs : List Loc} (hS : va_S (fun q => s.heap.size ≤ q) s.heap H1 locs) : lS G τ σ a s H1 := by
  obtain ⟨h1, h2, h3, h4, h5, h6, h7, h8⟩ := hL
  refine ⟨hT, fun q hq => ⟨(h2 q hq).1, Nat.lt_of_lt_of_le (h2 q hq).2 hz⟩, mTH.mk (fun q hq => (mTH.at h3 hq).kept (ho q (h4 q hq).2 (fun z => hq (h7 q z)))), fun q hq => ⟨(h4 q hq).1, Nat.lt_of_lt_of_le (h4 q hq).2 hz⟩, h5, h6, h7, hS.1, hS.2.1, fun _ h => by cases h⟩
theorem lS.model {H1 : Heap} {Z : mY} {a' : Nat → Option (Nat → Int32)} (hL : lS G τ σ a s H) (hT : TH G (mΓ G Z) H1) (hP : PI2 a') (hZ : mLe Z (σ, 2, qX a')) (hz : H.size ≤ H1.size) (ho : ∀ q : Nat, q < H.size → ¬ mA (σ, 2, qX a) q → H1[q]? = H[q]?) {locs : List Loc} (hS : va_S (fun q => s.heap.size ≤ q) s.heap H1 locs) : lS G τ σ a' s H1 := by
  obtain ⟨h1, h2, h3, h4, h5, h6, h7, h8⟩ := hL
  refine ⟨h1.kept (fun q hq => ?_), fun q hq => ⟨(h2 q hq).1, Nat.lt_of_lt_of_le (h2 q hq).2 hz⟩, mTH.le hZ hT, fun q hq => ⟨(h4 q hq).1, Nat.lt_of_lt_of_le (h4 q hq).2 hz⟩, h5, hP, h7, hS.1, hS.2.1, fun _ h => by cases h⟩
  have hq0 := tΓ_no hq
  exact ho q (h2 q hq0).2 (fun z => z (h7 q hq0))
theorem lc_i {post : Int32 → Prop} (hL : lS G τ σ a s H) (hr : va_Run p l e R s m args below meth c H [] cells slots 0 0 (F0 m pc ls st0) rest (tQi G τ post av) (tA τ))
    (kk : ∀ (r : Int32) (H1 : Heap), lS G τ σ a s H1 → post r → W p l e R s m args below meth c H1 [] cells slots Q (F0 m (pc + 3) ls (.int r :: rest))) : W p l e R s m args below meth c H [] cells slots Q (F0 m pc ls st0) :=
  va_calli hr hL.2.2.2.2.2.2.2 (fun q _ h2 => (hL.2.1 q h2).1) (fun q h2 => (hL.2.1 q h2).1) (fun r _ t H1 locs1 ht _ hp hB hz ho hS => va_forget (fun q hq => hS.2.2 q hq) (kk r H1 (hL.own (ht ▸ hB) hz ho hS) hp))
theorem lc_l {post : Int64 → Prop} (hL : lS G τ σ a s H) (hr : va_Run p l e R s m args below meth c H [] cells slots 0 0 (F0 m pc ls st0) rest (tQl G τ post av) (tA τ))
    (kk : ∀ (r : Int64) (H1 : Heap), lS G τ σ a s H1 → W p l e R s m args below meth c H1 [] cells slots Q (F0 m (pc + 3) ls (.long r :: rest))) : W p l e R s m args below meth c H [] cells slots Q (F0 m pc ls st0) :=
  va_calll hr hL.2.2.2.2.2.2.2 (fun q _ h2 => (hL.2.1 q h2).1) (fun q h2 => (hL.2.1 q h2).1) (fun r _ t H1 locs1 ht _ hp hB hz ho hS => va_forget (fun q hq => hS.2.2 q hq) (kk r H1 (hL.own (ht ▸ hB) hz ho hS)))
theorem lm_i {post : Int32 → mY → Prop} (hL : lS G τ σ a s H) (hr : va_Run p l e R s m args below meth c H [] cells slots 0 0 (F0 m pc ls st0) rest (mQiX G (σ, 2, qX a) post av) (mA (σ, 2, qX a)))
    (hq : ∀ r Z, Z.1 = σ → post r Z → ∃ a', PI2 a' ∧ mLe Z (σ, 2, qX a'))
    (kk : ∀ (r : Int32) (a' : Nat → Option (Nat → Int32)) (H1 : Heap), lS G τ σ a' s H1 → (∃ Z, post r Z) → W p l e R s m args below meth c H1 [] cells slots Q (F0 m (pc + 3) ls (.int r :: rest))) : W p l e R s m args below meth c H [] cells slots Q (F0 m pc ls st0) :=
  va_calli hr hL.2.2.2.2.2.2.2 (fun q _ h2 => (hL.2.2.2.1 q h2).1) (fun q h2 => (hL.2.2.2.1 q h2).1) (fun r Z t H1 locs1 ht _ hp hB hz ho hS => by
    obtain ⟨a', g1, g2⟩ := hq r Z hp.1 hp.2.2
    exact va_forget (fun q hq => hS.2.2 q hq) (kk r a' H1 (hL.model (ht ▸ hB) g1 g2 hz ho hS) ⟨Z, hp.2.2⟩))
theorem lm_l {post : Int64 → mY → Prop} (hL : lS G τ σ a s H) (hr : va_Run p l e R s m args below meth c H [] cells slots 0 0 (F0 m pc ls st0) rest (mQlX G (σ, 2, qX a) post av) (mA (σ, 2, qX a)))
    (hq : ∀ r Z, Z.1 = σ → post r Z → ∃ a', PI2 a' ∧ mLe Z (σ, 2, qX a'))
    (kk : ∀ (r : Int64) (a' : Nat → Option (Nat → Int32)) (H1 : Heap), lS G τ σ a' s H1 → W p l e R s m args below meth c H1 [] cells slots Q (F0 m (pc + 3) ls (.long r :: rest))) : W p l e R s m args below meth c H [] cells slots Q (F0 m pc ls st0) :=
  va_calll hr hL.2.2.2.2.2.2.2 (fun q _ h2 => (hL.2.2.2.1 q h2).1) (fun q h2 => (hL.2.2.2.1 q h2).1) (fun r Z t H1 locs1 ht _ hp hB hz ho hS => by
    obtain ⟨a', g1, g2⟩ := hq r Z hp.1 hp.2.2
    exact va_forget (fun q hq => hS.2.2 q hq) (kk r a' H1 (hL.model (ht ▸ hB) g1 g2 hz ho hS)))
end LW
section LKW
variable {p : Program} {l : Launch} {e : Env} {R : Room} {s : State} {m : MethodId} {args : Array Value} {below : List Frame} {meth : Method} {c : Code} {H : Heap} {Q : State → Prop}
variable {pc : Nat} {ls : Array Slot} {rest st0 : List Value} {G : tG} {τ σ : Nat → Nat} {a : Nat → Option (Nat → Int32)} {cells slots : Nat} {av : Array Value}
theorem lS.to {Z : tG} (h : lS G τ σ a s H) (hA : gA G Z) (h1 : tΓ Z τ = tΓ G τ) (h2 : mΓ Z (σ, 2, qX a) = mΓ G (σ, 2, qX a)) : lS Z τ σ a s H := by
  obtain ⟨g1, g2, g3, g4⟩ := h
  exact ⟨by rw [hA.TH, h1]; exact g1, g2, by rw [hA.TH, h2]; exact g3, g4⟩
theorem lk_c {post : Int32 → tG → Prop} (hL : lS G τ σ a s H) (hr : va_Run p l e R s m args below meth c H [] cells slots 0 0 (F0 m pc ls st0) rest (tQk τ post av) (tA τ))
    (hq : ∀ r Z, post r Z → gA G Z ∧ mΓ Z (σ, 2, qX a) = mΓ G (σ, 2, qX a))
    (kk : ∀ (r : Int32) (Z : tG) (H1 : Heap), post r Z → gA G Z → lS Z τ σ a s H1 → W p l e R s m args below meth c H1 [] cells slots Q (F0 m (pc + 3) ls (.int r :: rest))) : W p l e R s m args below meth c H [] cells slots Q (F0 m pc ls st0) :=
  va_calli hr hL.2.2.2.2.2.2.2 (fun q _ h2 => (hL.2.1 q h2).1) (fun q h2 => (hL.2.1 q h2).1) (fun r Z t H1 locs1 ht _ hp hB hz ho hS => by
    obtain ⟨g1, g2⟩ := hq r Z hp
    obtain ⟨h1, h2, h3, h4, h5, h6, h7, h8⟩ := hL
    have hT : TH Z (tΓ Z τ) H1 := ht ▸ hB
    refine va_forget (fun q hq => hS.2.2 q hq) (kk r Z H1 hp g1 ⟨hT, fun q hq => ⟨(h2 q hq).1, Nat.lt_of_lt_of_le (h2 q hq).2 hz⟩, ?_, fun q hq => ⟨(h4 q hq).1, Nat.lt_of_lt_of_le (h4 q hq).2 hz⟩, h5, h6, h7, hS.1, hS.2.1, fun _ h => by cases h⟩)
    rw [g1.TH, g2]
    exact mTH.mk (fun q hq => (mTH.at h3 hq).kept (ho q (h4 q hq).2 (fun z => hq (h7 q z)))))
theorem lk_m {post : Int32 → mY → tG → Prop} (hL : lS G τ σ a s H) (hr : va_Run p l e R s m args below meth c H [] cells slots 0 0 (F0 m pc ls st0) rest (mQk (σ, 2, qX a) post av) (mA (σ, 2, qX a)))
    (hq : ∀ r Y Z, Y.1 = σ → post r Y Z → gA G Z ∧ tΓ Z τ = tΓ G τ ∧ ∃ a', PI2 a' ∧ mLe Y (σ, 2, qX a'))
    (kk : ∀ (r : Int32) (Z : tG) (a' : Nat → Option (Nat → Int32)) (H1 : Heap), (∃ Y, post r Y Z) → gA G Z → lS Z τ σ a' s H1 → W p l e R s m args below meth c H1 [] cells slots Q (F0 m (pc + 3) ls (.int r :: rest))) : W p l e R s m args below meth c H [] cells slots Q (F0 m pc ls st0) :=
  va_calli hr hL.2.2.2.2.2.2.2 (fun q _ h2 => (hL.2.2.2.1 q h2).1) (fun q h2 => (hL.2.2.2.1 q h2).1) (fun r w t H1 locs1 ht _ hp hB hz ho hS => by
    obtain ⟨Y, Z⟩ := w
    obtain ⟨g1, g2, a', g3, g4⟩ := hq r Y Z hp.1 hp.2.2
    obtain ⟨h1, h2, h3, h4, h5, h6, h7, h8⟩ := hL
    have hT : TH Z (mΓ Z Y) H1 := ht ▸ hB
    refine va_forget (fun q hq => hS.2.2 q hq) (kk r Z a' H1 ⟨Y, hp.2.2⟩ g1 ⟨?_, fun q hq => ⟨(h2 q hq).1, Nat.lt_of_lt_of_le (h2 q hq).2 hz⟩, mTH.le g4 hT, fun q hq => ⟨(h4 q hq).1, Nat.lt_of_lt_of_le (h4 q hq).2 hz⟩, h5, g3, h7, hS.1, hS.2.1, fun _ h => by cases h⟩)
    rw [g1.TH, g2]
    exact h1.kept (fun q hq => ho q (h2 q (tΓ_no hq)).2 (fun z => z (h7 q (tΓ_no hq)))))
end LKW
/-! how the knowledge goes on -/
theorem PI2.up {a : Nat → Option (Nat → Int32)} {t : Nat → Int32} (h : PI2 a) (ht : TInv t) : PI2 (upA a 2 t) :=
  ⟨(upA_ne (by decide)).trans h.1, (upA_ne (by decide)).trans h.2.1, ⟨t, upA_at, ht⟩, by obtain ⟨u, h1, h2⟩ := h.2.2.2; exact ⟨u, (upA_ne (by decide)).trans h1, h2⟩⟩
theorem PI2.im {a : Nat → Option (Nat → Int32)} {t : Nat → Int32} (h : PI2 a) (ht : TInv t) : PI2 (upA a 3 t) :=
  ⟨(upA_ne (by decide)).trans h.1, (upA_ne (by decide)).trans h.2.1, by obtain ⟨u, h1, h2⟩ := h.2.2.1; exact ⟨u, (upA_ne (by decide)).trans h1, h2⟩, ⟨t, upA_at, ht⟩⟩
def pb (A : Nat → Option (Nat → Int32)) : Nat → Option (Nat → Int32) := fun c => if c = 2 ∨ c = 3 then A c else none
theorem pb_le {σ : Nat → Nat} {A : Nat → Option (Nat → Int32)} : mLe (σ, 2, qX A) (σ, 2, qX (pb A)) := ⟨rfl, rfl, fun c k y e => by
  have e : qX (pb A) c k = some y := e
  show qX A c k = some y
  unfold qX at e ⊢
  by_cases z : c = 2 ∨ c = 3
  · rw [show pb A c = A c from if_pos z] at e; exact e
  · rw [show pb A c = none from if_neg z] at e
    split at e <;> cases e⟩
theorem pb_PI {a A : Nat → Option (Nat → Int32)} {ta : Nat → Int32} (h : PI2 a) (hI : TInv ta) (h2 : A 2 = some ta) (h3 : A 3 = a 3) : PI2 (pb A) :=
  ⟨rfl, rfl, ⟨ta, (show pb A 2 = A 2 from rfl).trans h2, hI⟩, by obtain ⟨u, g1, g2⟩ := h.2.2.2; exact ⟨u, (show pb A 3 = A 3 from rfl).trans (h3.trans g1), g2⟩⟩
