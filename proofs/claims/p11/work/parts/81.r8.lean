/-! ===== printing: both sides print the same ===== -/
def NRg (t : Nat → Int32) : Prop := ∀ b k : Int, 0 ≤ b → b ≤ 23 → 2 ≤ k → k ≤ 6 → 0 ≤ K t b k ∧ K t b k ≤ 99 ∧ (k = 6 → K t b k ≤ 9)
theorem NRg_of {G : tG} {σ : Nat → Nat} {a : Nat → Option (Nat → Int32)} {t : Nat → Int32} {x : Nat} {H : Heap} (hM : TH G (mΓ G (σ, 2, qX a)) H) (hx : σ x = 1) (ha : a 2 = some t) : NRg t := by
  intro b k h1 h2 h3 h4
  have h9 := hM x _ (mΓ_at hx (by decide))
  obtain ⟨r, V, g1, -, g3⟩ := h9
  have hr : r = (RX10, TX10, 40) := Option.some.inj (g1.symm.trans fc_X10.1)
  have h6 := (g3 0 (by rw [hr]; decide)).1
  obtain ⟨q, e1, e2⟩ : ∃ q : Nat, V 0 = .ref q ∧ σ q = 2 := h6
  have h10 := hM q _ (mΓ_at e2 (by decide))
  obtain ⟨V2, c1, c2⟩ := h10
  have hlt : ix b k < 934 := by unfold ix; omega
  have h11 := (c2 (ix b k) hlt).1
  obtain ⟨y, w1, w2, w3, w4⟩ : ∃ y : Int32, V2 (ix b k) = .int y ∧ (nR (ix b k)).1 ≤ y.toInt ∧ y.toInt ≤ (nR (ix b k)).2 ∧ ∀ z, qX a 2 (ix b k) = some z → y = z := h11
  have hy : y = t (ix b k) := w4 _ ((qX_TI (σ := σ) mu_2 ha).2.2 b k h1 h2 (by omega) (Or.inl (by omega)))
  rw [ix_div h1 (by omega) (by omega)] at w2 w3
  have hK : K t b k = y.toInt := by rw [hy]
  rw [hK]
  rcases (show k = 2 ∨ k = 3 ∨ k = 4 ∨ k = 5 ∨ k = 6 by omega) with e | e | e | e | e <;> subst e
  · have w2 : (0 : Int) ≤ y.toInt := w2
    have w3 : y.toInt ≤ (99 : Int) := w3
    exact ⟨w2, w3, fun z => by omega⟩
  · have w2 : (0 : Int) ≤ y.toInt := w2
    have w3 : y.toInt ≤ (99 : Int) := w3
    exact ⟨w2, w3, fun z => by omega⟩
  · have w2 : (0 : Int) ≤ y.toInt := w2
    have w3 : y.toInt ≤ (99 : Int) := w3
    exact ⟨w2, w3, fun z => by omega⟩
  · have w2 : (0 : Int) ≤ y.toInt := w2
    have w3 : y.toInt ≤ (99 : Int) := w3
    exact ⟨w2, w3, fun z => by omega⟩
  · have w2 : (0 : Int) ≤ y.toInt := w2
    have w3 : y.toInt ≤ (9 : Int) := w3
    exact ⟨w2, by omega, fun z => w3⟩
theorem PRF_of {F : mF} {w : Nat} {t : Nat → Int32} (h : RT F w t) (hI : TInv t) (hJ : TJ t) (hN : NRg t) : PRF F w := by
  intro n hn hA
  have ha := (h.bit n).mp hA
  obtain ⟨b1, b2, b3, b4, b5, b6, b7, b8⟩ := h.box ha
  have h10 := TI10 hI ha.1 ha.2.1
  have hk := hJ.2.2.2 _ ha
  have b1 : (F (w + 1 + (3 + 4 * n)) 4).toInt = K t (n : Int) 1 := b1
  have b3 : (F (w + 1 + (3 + 4 * n)) 7).toInt = K t (n : Int) 6 := b3
  have b6 : (F (w + 1 + (3 + 4 * n)) 10).toInt = K t (n : Int) 10 := b6
  rw [b1, b3, b6]
  have h6 := hN (n : Int) 6 ha.1 ha.2.1 (by decide) (by decide)
  refine ⟨hk, ⟨h6.1, h6.2.2 rfl⟩, h10, fun j hj => ?_, fun j hj => ?_⟩
  · have b7 : (F (w + 1 + (3 + 4 * n) + 1) j).toInt = K t (n : Int) (2 + (j : Int)) := b7 j hj
    have h2 := hN (n : Int) (2 + (j : Int)) ha.1 ha.2.1 (by omega) (by omega)
    rw [b7]
    exact ⟨h2.1, h2.2.1⟩
  · have b8 : (F (w + 1 + (3 + 4 * n) + 2) j).toInt = K t (n : Int) (11 + (j : Int)) := b8 j hj
    have h2 := hJ.2.1 (n : Int) (j : Int) ha (by omega) hj
    rw [← b8] at h2
    refine ⟨h2.1, h2.2.1, (h.bit _).mpr ?_⟩
    have e : (((F (w + 1 + (3 + 4 * n) + 2) j).toNatClampNeg : Nat) : Int) = (F (w + 1 + (3 + 4 * n) + 2) j).toInt := by
      show (((F (w + 1 + (3 + 4 * n) + 2) j).toInt.toNat : Nat) : Int) = _
      have := h2.1
      omega
    rw [e]
    exact h2
theorem nmsL_eq {T T' : Int → Int → Int} {b : Int} : ∀ n : Nat, (∀ i : Nat, i < n → T b (2 + (i : Int)) = T' b (2 + (i : Int))) → nmsL T b n = nmsL T' b n
  | 0, _ => rfl
  | n + 1, h => by
    show nmsL T b n ++ (32 :: numL (T b (2 + (n : Int)))) = nmsL T' b n ++ (32 :: numL (T' b (2 + (n : Int))))
    rw [nmsL_eq n (fun i hi => h i (by omega)), h n (by omega)]
theorem kdL_eq2 {T T' : Int → Int → Int} {f g : Int → List Int} {b : Int} : ∀ n : Nat, (∀ i : Nat, i < n → T b (11 + (i : Int)) = T' b (11 + (i : Int)) ∧ f (T' b (11 + (i : Int))) = g (T' b (11 + (i : Int)))) → kdL T f b n = kdL T' g b n
  | 0, _ => rfl
  | n + 1, h => by
    show kdL T f b n ++ ((if n = 0 then 40 else 44) :: f (T b (11 + (n : Int)))) = kdL T' g b n ++ ((if n = 0 then 40 else 44) :: g (T' b (11 + (n : Int))))
    rw [kdL_eq2 n (fun i hi => h i (by omega)), (h n (by omega)).1, (h n (by omega)).2]
theorem RT_pT {F : mF} {w : Nat} {t : Nat → Int32} (h : RT F w t) (hI : TInv t) (hJ : TJ t) : ∀ (d : Nat) (b : Int), AL t b → pT (kF F w) d b = pT (K t) d b
  | 0, _, _ => rfl
  | d + 1, b, ha => by
    obtain ⟨b1, b2, b3, b4, b5, b6, b7, b8⟩ := h.box ha
    have h10 := TI10 hI ha.1 ha.2.1
    have hn23 : b.toNat ≤ 23 := by have := ha.1; have := ha.2.1; omega
    have eb : ((b.toNat : Nat) : Int) = b := by have := ha.1; omega
    obtain ⟨k1, k6, k10, k4, k11⟩ := kF_at (F := F) (w := w) (n := b.toNat) (a := bA w b.toNat) hn23 rfl
    rw [eb] at k1 k6 k10 k4 k11
    have e1 : kF F w b 1 = K t b 1 := by rw [k1, b1]
    have e6 : kF F w b 6 = K t b 6 := by rw [k6, b3]
    have e10 : kF F w b 10 = K t b 10 := by rw [k10, b6]
    have e2 : ∀ j : Nat, j < 4 → kF F w b (2 + (j : Int)) = K t b (2 + (j : Int)) := fun j hj => by rw [k4 j hj, b7 j hj]
    have e11 : ∀ j : Nat, (j : Int) < K t b 10 → kF F w b (11 + (j : Int)) = K t b (11 + (j : Int)) := fun j hj => by rw [k11 j, b8 j hj]
    show (ownL (kF F w) b ++ kdL (kF F w) (pT (kF F w) d) b (kF F w b 10).toNat) ++ clL (kF F w b 10) = (ownL (K t) b ++ kdL (K t) (pT (K t) d) b (K t b 10).toNat) ++ clL (K t b 10)
    have eo : ownL (kF F w) b = ownL (K t) b := by
      unfold ownL
      have hnn := nNum_r (K t b 1)
      rw [e1, e6, nmsL_eq (T := kF F w) (T' := K t) _ (fun i hi => e2 i (by omega))]
    rw [eo, e10, kdL_eq2 (T := kF F w) (T' := K t) (f := pT (kF F w) d) (g := pT (K t) d) _ (fun i hi => ⟨e11 i (by omega), RT_pT h hI hJ d _ (hJ.2.1 b (i : Int) ha (by omega) (by omega))⟩)]
/-- what the class's printed() does -/
def PDc (F F9 : mF) (w P : Nat) (x1 x2 r : Int32) : Prop := (¬ ((0 ≤ x1.toInt ∧ x1.toInt ≤ 23 ∧ tB (F w 4) x1.toInt.toNat) ∧ -1 ≤ x2.toInt) ∧ r = -1 ∧ F9 = F) ∨ (((0 ≤ x1.toInt ∧ x1.toInt ≤ 23 ∧ tB (F w 4) x1.toInt.toNat) ∧ -1 ≤ x2.toInt) ∧ PRO P F F9 (pT (kF F w) 24 x1.toInt) ∧ r.toInt = prA (TXT F9 P) x2.toInt)
def PDr (t : Nat → Int32) (x1 x2 r : Int32) : Prop := (¬ ((0 ≤ x1.toInt ∧ x1.toInt ≤ 23 ∧ K t x1.toInt 0 = 1) ∧ -1 ≤ x2.toInt) ∧ r = -1) ∨ (((0 ≤ x1.toInt ∧ x1.toInt ≤ 23 ∧ K t x1.toInt 0 = 1) ∧ -1 ≤ x2.toInt) ∧ (pT (K t) 24 x1.toInt).length ≤ 700 ∧ r.toInt = prA (pT (K t) 24 x1.toInt) x2.toInt)
theorem RL_printed {F F9 : mF} {w P : Nat} {t : Nat → Int32} {x1 x2 r r' : Int32} (h : RT F w t) (hI : TInv t) (hJ : TJ t) (hc : PDc F F9 w P x1 x2 r) (hr : PDr t x1 x2 r') : r = r' := by
  unfold PDc at hc
  unfold PDr at hr
  have hal := h.al x1
  have hAL : AL t x1.toInt ↔ (0 ≤ x1.toInt ∧ x1.toInt ≤ 23 ∧ K t x1.toInt 0 = 1) := Iff.rfl
  rw [hal, hAL] at hc
  rcases hc with ⟨c1, c2, c3⟩ | ⟨c1, c2, c3⟩
  · rcases hr with ⟨q1, q2⟩ | ⟨q1, q2⟩
    · rw [c2, q2]
    · exact absurd q1 c1
  · rcases hr with ⟨q1, q2⟩ | ⟨q1, q2, q3⟩
    · exact absurd c1 q1
    · refine Int32.toInt_inj.mp ?_
      rw [c3, q3, c2.1, RT_pT h hI hJ 24 _ c1.1, List.take_of_length_le (by omega)]
theorem FR_printed {F F9 : mF} {w P : Nat} {x1 x2 r : Int32} (h : PDc F F9 w P x1 x2 r) : ∀ c k, ¬ (c = P ∨ c = P + 1) → F9 c k = F c k := by
  rcases h with ⟨-, -, e⟩ | ⟨-, e, -⟩
  · intro c k _; rw [e]
  · exact e.2.2
