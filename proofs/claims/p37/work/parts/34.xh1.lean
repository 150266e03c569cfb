/-! ===== what a BOX that comes changes, slot by slot ===== -/
def BRs (F F' : mF) (w n : Nat) (kd pa v0 v1 v2 v3 sh : Int32) : Prop :=
  ((F' w 8).toInt = ((n + 1 : Nat) : Int) ∧ (∀ m : Nat, tB (F' w 4) m ↔ tB (F w 4) m ∨ m = n) ∧ F' w 9 = (if pa.toInt = -1 then F w 8 else F w 9) ∧ F' w 3 = F w 3)
  ∧ (∀ c k : Nat, ¬ (w ≤ c ∧ c < w + 100) → F' c k = F c k)
  ∧ (F' (w + 1 + (3 + 4 * n)) 4 = kd ∧ F' (w + 1 + (3 + 4 * n)) 5 = pa ∧ F' (w + 1 + (3 + 4 * n)) 7 = sh ∧ F' (w + 1 + (3 + 4 * n)) 8 = 0 ∧ F' (w + 1 + (3 + 4 * n)) 9 = 99 ∧ F' (w + 1 + (3 + 4 * n)) 10 = 0 ∧ F' (w + 1 + (3 + 4 * n)) 0 = F (w + 1 + (3 + 4 * n)) 0)
  ∧ (F' (w + 1 + (3 + 4 * n) + 1) 0 = v0 ∧ F' (w + 1 + (3 + 4 * n) + 1) 1 = v1 ∧ F' (w + 1 + (3 + 4 * n) + 1) 2 = v2 ∧ F' (w + 1 + (3 + 4 * n) + 1) 3 = v3)
  ∧ ∀ b : Nat, b < 24 → ¬ b = n → (∀ k, ¬ k = 10 → F' (w + 1 + (3 + 4 * b)) k = F (w + 1 + (3 + 4 * b)) k) ∧ (∀ k, F' (w + 1 + (3 + 4 * b) + 1) k = F (w + 1 + (3 + 4 * b) + 1) k)
    ∧ (¬ (b : Int) = pa.toInt → F' (w + 1 + (3 + 4 * b)) 10 = F (w + 1 + (3 + 4 * b)) 10 ∧ ∀ k, F' (w + 1 + (3 + 4 * b) + 2) k = F (w + 1 + (3 + 4 * b) + 2) k)
    ∧ ((b : Int) = pa.toInt → (F' (w + 1 + (3 + 4 * b)) 10).toInt = (F (w + 1 + (3 + 4 * b)) 10).toInt + 1 ∧ (∀ k : Nat, (k : Int) < (F (w + 1 + (3 + 4 * b)) 10).toInt → F' (w + 1 + (3 + 4 * b) + 2) k = F (w + 1 + (3 + 4 * b) + 2) k) ∧ (F' (w + 1 + (3 + 4 * b) + 2) (F (w + 1 + (3 + 4 * b)) 10).toInt.toNat).toInt = (n : Int))
/-- a BOX without its place among the CHILDREN -/
def b0F (F : mF) (w n : Nat) (kd pa v0 v1 v2 v3 sh : Int32) : mF := nuF (kdF (up2 (up2 F w 8 (F w 8 + 1)) w 4 (F w 4 ||| (1 <<< (F w 8 &&& 31)))) (w + 1 + (3 + 4 * n)) kd pa sh) (w + 1 + (3 + 4 * n)) v0 v1 v2 v3
theorem b0F_o {F : mF} {w n c k : Nat} {kd pa v0 v1 v2 v3 sh : Int32} (h1 : ¬ c = w) (h2 : ¬ c = w + 1 + (3 + 4 * n)) (h3 : ¬ c = w + 1 + (3 + 4 * n) + 1) : b0F F w n kd pa v0 v1 v2 v3 sh c k = F c k := by
  unfold b0F
  rw [nuF_ne h3, kdF_ne h2, up2_ne (by omega), up2_ne (by omega)]
theorem b0F_w {F : mF} {w n k : Nat} {kd pa v0 v1 v2 v3 sh : Int32} (h1 : ¬ k = 8) (h2 : ¬ k = 4) : b0F F w n kd pa v0 v1 v2 v3 sh w k = F w k := by
  unfold b0F
  rw [nuF_ne (by omega), kdF_ne (by omega), up2_ne (by omega), up2_ne (by omega)]
theorem b0F_8 {F : mF} {w n : Nat} {kd pa v0 v1 v2 v3 sh : Int32} : b0F F w n kd pa v0 v1 v2 v3 sh w 8 = F w 8 + 1 := by
  unfold b0F
  rw [nuF_ne (by omega), kdF_ne (by omega), up2_ne (by omega), up2_at]
theorem b0F_4 {F : mF} {w n : Nat} {kd pa v0 v1 v2 v3 sh : Int32} : b0F F w n kd pa v0 v1 v2 v3 sh w 4 = F w 4 ||| (1 <<< (F w 8 &&& 31)) := by
  unfold b0F
  rw [nuF_ne (by omega), kdF_ne (by omega), up2_at]
theorem kdF_k {F : mF} {b : Nat} {kd pa sh : Int32} : kdF F b kd pa sh b 4 = kd ∧ kdF F b kd pa sh b 5 = pa ∧ kdF F b kd pa sh b 7 = sh ∧ kdF F b kd pa sh b 8 = 0 ∧ kdF F b kd pa sh b 9 = 99 ∧ kdF F b kd pa sh b 10 = 0 ∧ kdF F b kd pa sh b 0 = F b 0 := by
  unfold kdF up2
  simp
theorem nuF_k {F : mF} {b : Nat} {v0 v1 v2 v3 : Int32} : nuF F b v0 v1 v2 v3 (b + 1) 0 = v0 ∧ nuF F b v0 v1 v2 v3 (b + 1) 1 = v1 ∧ nuF F b v0 v1 v2 v3 (b + 1) 2 = v2 ∧ nuF F b v0 v1 v2 v3 (b + 1) 3 = v3 := by
  unfold nuF up2
  simp
theorem b0F_n {F : mF} {w n k : Nat} {kd pa v0 v1 v2 v3 sh : Int32} : b0F F w n kd pa v0 v1 v2 v3 sh (w + 1 + (3 + 4 * n)) k = kdF (up2 (up2 F w 8 (F w 8 + 1)) w 4 (F w 4 ||| (1 <<< (F w 8 &&& 31)))) (w + 1 + (3 + 4 * n)) kd pa sh (w + 1 + (3 + 4 * n)) k := by
  unfold b0F
  rw [nuF_ne (by omega)]
theorem b0F_0 {F : mF} {w n : Nat} {kd pa v0 v1 v2 v3 sh : Int32} : b0F F w n kd pa v0 v1 v2 v3 sh (w + 1 + (3 + 4 * n)) 0 = F (w + 1 + (3 + 4 * n)) 0 := by
  rw [b0F_n, kdF_k.2.2.2.2.2.2, up2_ne (by omega), up2_ne (by omega)]
/-- a CHILD more, behind the others -/
theorem adF_last {F : mF} {b : Nat} {kid : Int32} (h0 : 0 ≤ (F b 10).toInt) (h7 : (F b 10).toInt ≤ 7) : (adF F b kid (F b 10) b 10).toInt = (F b 10).toInt + 1 ∧ (∀ k, ¬ k = 10 → adF F b kid (F b 10) b k = F b k) ∧ (∀ k : Nat, (k : Int) < (F b 10).toInt → adF F b kid (F b 10) (b + 2) k = F (b + 2) k) ∧ adF F b kid (F b 10) (b + 2) (F b 10).toInt.toNat = kid := by
  have e0 : (F b 10 - F b 10).toNatClampNeg = 0 := by
    have : (F b 10 - F b 10).toInt = 0 := by rw [tn_sub rfl rfl rfl (by omega) (by omega)]; omega
    show (F b 10 - F b 10).toInt.toNat = 0
    omega
  have e1 : (F b 10).toNatClampNeg = (F b 10).toInt.toNat := rfl
  refine ⟨?_, fun k hk => ?_, fun k hk => ?_, ?_⟩
  · unfold adF
    rw [up2_at]
    exact i32_add1 (by omega)
  · unfold adF
    rw [up2_ne (by omega), up2_ne (by omega), upR_ne (by omega)]
  · unfold adF
    rw [up2_ne (by omega), up2_ne (by omega), upR_ne (by omega)]
  · unfold adF
    rw [up2_ne (by omega), e1, up2_at]
theorem brF_eq {F : mF} {w : Nat} {kd pa v0 v1 v2 v3 sh : Int32} : brF F w kd pa v0 v1 v2 v3 sh = if pa.toInt = -1 then up2 (b0F F w (F w 8).toInt.toNat kd pa v0 v1 v2 v3 sh) w 9 (F w 8) else adF (b0F F w (F w 8).toInt.toNat kd pa v0 v1 v2 v3 sh) (w + 1 + (3 + 4 * pa.toNatClampNeg)) (F w 8) (F (w + 1 + (3 + 4 * pa.toNatClampNeg)) 10) := rfl
theorem brF_spec {F F' : mF} {w : Nat} {kd pa v0 v1 v2 v3 sh : Int32} (e : F' = brF F w kd pa v0 v1 v2 v3 sh) (hn0 : 0 ≤ (F w 8).toInt) (hn : (F w 8).toInt ≤ 23) (hp : pa.toInt = -1 ∨ (0 ≤ pa.toInt ∧ pa.toInt < (F w 8).toInt ∧ 0 ≤ (F (w + 1 + (3 + 4 * pa.toInt.toNat)) 10).toInt ∧ (F (w + 1 + (3 + 4 * pa.toInt.toNat)) 10).toInt ≤ 7)) : BRs F F' w (F w 8).toInt.toNat kd pa v0 v1 v2 v3 sh := by
  obtain ⟨n, en⟩ : ∃ n : Nat, n = (F w 8).toInt.toNat := ⟨_, rfl⟩
  have ep : pa.toNatClampNeg = pa.toInt.toNat := rfl
  have e8 : (F w 8 + 1).toInt = ((n + 1 : Nat) : Int) := by rw [i32_add1 (by omega)]; omega
  have hk := kdF_k (F := up2 (up2 F w 8 (F w 8 + 1)) w 4 (F w 4 ||| (1 <<< (F w 8 &&& 31)))) (b := w + 1 + (3 + 4 * n)) (kd := kd) (pa := pa) (sh := sh)
  have hu := nuF_k (F := kdF (up2 (up2 F w 8 (F w 8 + 1)) w 4 (F w 4 ||| (1 <<< (F w 8 &&& 31)))) (w + 1 + (3 + 4 * n)) kd pa sh) (b := w + 1 + (3 + 4 * n)) (v0 := v0) (v1 := v1) (v2 := v2) (v3 := v3)
  obtain ⟨F2, e2⟩ : ∃ F2 : mF, F2 = b0F F w n kd pa v0 v1 v2 v3 sh := ⟨_, rfl⟩
  have hu : F2 (w + 1 + (3 + 4 * n) + 1) 0 = v0 ∧ F2 (w + 1 + (3 + 4 * n) + 1) 1 = v1 ∧ F2 (w + 1 + (3 + 4 * n) + 1) 2 = v2 ∧ F2 (w + 1 + (3 + 4 * n) + 1) 3 = v3 := by rw [e2]; exact hu
  have hk : F2 (w + 1 + (3 + 4 * n)) 4 = kd ∧ F2 (w + 1 + (3 + 4 * n)) 5 = pa ∧ F2 (w + 1 + (3 + 4 * n)) 7 = sh ∧ F2 (w + 1 + (3 + 4 * n)) 8 = 0 ∧ F2 (w + 1 + (3 + 4 * n)) 9 = 99 ∧ F2 (w + 1 + (3 + 4 * n)) 10 = 0 ∧ F2 (w + 1 + (3 + 4 * n)) 0 = F (w + 1 + (3 + 4 * n)) 0 := by
    rw [e2]
    exact ⟨b0F_n.trans hk.1, b0F_n.trans hk.2.1, b0F_n.trans hk.2.2.1, b0F_n.trans hk.2.2.2.1, b0F_n.trans hk.2.2.2.2.1, b0F_n.trans hk.2.2.2.2.2.1, b0F_0⟩
  have ho : ∀ c k, ¬ c = w → ¬ c = w + 1 + (3 + 4 * n) → ¬ c = w + 1 + (3 + 4 * n) + 1 → F2 c k = F c k := fun c k h1 h2 h3 => by rw [e2, b0F_o h1 h2 h3]
  have h4 : ∀ m : Nat, tB (F2 w 4) m ↔ tB (F w 4) m ∨ m = n := fun m => by rw [e2, b0F_4, en]; exact tB_or hn0 hn
  have h8 : F2 w 8 = F w 8 + 1 := by rw [e2, b0F_8]
  have hw : ∀ k, ¬ k = 8 → ¬ k = 4 → F2 w k = F w k := fun k h1 h2 => by rw [e2, b0F_w h1 h2]
  rw [brF_eq, ← en, ← e2] at e
  rw [← en]
  by_cases z : pa.toInt = -1
  · rw [if_pos z] at e
    have g : ∀ c k, ¬ (c = w ∧ k = 9) → F' c k = F2 c k := fun c k h => by rw [e, up2_ne h]
    refine ⟨⟨?_, fun m => ?_, ?_, ?_⟩, fun c k hc => ?_, ?_, ?_, fun b hb hbn => ⟨fun k hk9 => ?_, fun k => ?_, fun hne => ⟨?_, fun k => ?_⟩, fun he => ?_⟩⟩
    · rw [g w 8 (by omega), h8, e8]
    · rw [g w 4 (by omega)]; exact h4 m
    · rw [if_pos z, e, up2_at]
    · rw [g w 3 (by omega), hw 3 (by decide) (by decide)]
    · rw [g c k (by omega), ho c k (by omega) (by omega) (by omega)]
    · rw [g _ 4 (by omega), g _ 5 (by omega), g _ 7 (by omega), g _ 8 (by omega), g _ 9 (by omega), g _ 10 (by omega), g _ 0 (by omega)]; exact hk
    · rw [g _ 0 (by omega), g _ 1 (by omega), g _ 2 (by omega), g _ 3 (by omega)]; exact hu
    · rw [g _ k (by omega), ho _ k (by omega) (by omega) (by omega)]
    · rw [g _ k (by omega), ho _ k (by omega) (by omega) (by omega)]
    · rw [g _ 10 (by omega), ho _ 10 (by omega) (by omega) (by omega)]
    · rw [g _ k (by omega), ho _ k (by omega) (by omega) (by omega)]
    · exfalso; omega
  · rw [if_neg z, ep] at e
    obtain ⟨p, ep2⟩ : ∃ p : Nat, p = pa.toInt.toNat := ⟨_, rfl⟩
    rw [← ep2] at e hp
    have hp2 : (p : Int) = pa.toInt ∧ p < n ∧ 0 ≤ (F (w + 1 + (3 + 4 * p)) 10).toInt ∧ (F (w + 1 + (3 + 4 * p)) 10).toInt ≤ 7 := by
      rcases hp with h | ⟨h1, h2, h3, h4⟩
      · exact absurd h z
      · exact ⟨by omega, by omega, h3, h4⟩
    have e10 : F (w + 1 + (3 + 4 * p)) 10 = F2 (w + 1 + (3 + 4 * p)) 10 := (ho _ 10 (by omega) (by omega) (by omega)).symm
    have hA := adF_last (F := F2) (b := w + 1 + (3 + 4 * p)) (kid := F w 8) (by rw [← e10]; exact hp2.2.2.1) (by rw [← e10]; exact hp2.2.2.2)
    rw [e10] at e
    rw [← e] at hA
    have g : ∀ c k, ¬ c = w + 1 + (3 + 4 * p) → ¬ c = w + 1 + (3 + 4 * p) + 2 → F' c k = F2 c k := fun c k h1 h2 => by rw [e, adF_ne (by omega)]
    refine ⟨⟨?_, fun m => ?_, ?_, ?_⟩, fun c k hc => ?_, ?_, ?_, fun b hb hbn => ⟨fun k hk9 => ?_, fun k => ?_, fun hne => ⟨?_, fun k => ?_⟩, fun he => ?_⟩⟩
    · rw [g w 8 (by omega) (by omega), h8, e8]
    · rw [g w 4 (by omega) (by omega)]; exact h4 m
    · rw [if_neg z, g w 9 (by omega) (by omega), hw 9 (by decide) (by decide)]
    · rw [g w 3 (by omega) (by omega), hw 3 (by decide) (by decide)]
    · rw [g c k (by omega) (by omega), ho c k (by omega) (by omega) (by omega)]
    · have g9 : ∀ k, F' (w + 1 + (3 + 4 * n)) k = F2 (w + 1 + (3 + 4 * n)) k := fun k => g _ k (by omega) (by omega)
      rw [g9 4, g9 5, g9 7, g9 8, g9 9, g9 10, g9 0]; exact hk
    · have g9 : ∀ k, F' (w + 1 + (3 + 4 * n) + 1) k = F2 (w + 1 + (3 + 4 * n) + 1) k := fun k => g _ k (by omega) (by omega)
      rw [g9 0, g9 1, g9 2, g9 3]; exact hu
    · by_cases y : b = p
      · subst y
        rw [hA.2.1 k hk9, ho _ k (by omega) (by omega) (by omega)]
      · rw [g _ k (by omega) (by omega), ho _ k (by omega) (by omega) (by omega)]
    · rw [g _ k (by omega) (by omega), ho _ k (by omega) (by omega) (by omega)]
    · rw [g _ 10 (by omega) (by omega), ho _ 10 (by omega) (by omega) (by omega)]
    · rw [g _ k (by omega) (by omega), ho _ k (by omega) (by omega) (by omega)]
    · have y : b = p := by omega
      subst y
      rw [← e10] at hA
      refine ⟨hA.1, fun k hk => ?_, ?_⟩
      · rw [hA.2.2.1 k hk, ho _ k (by omega) (by omega) (by omega)]
      · rw [hA.2.2.2]; omega
/-! ===== the BOXES of a TREE in words come ===== -/
def BRq (w rd : Nat) (par : Int32) (fr : Int) (F1 : mF) : Nat → mF → Prop
  | 0, F' => F' = F1
  | i + 1, F' => ∃ (F2 : mF) (pa v0 v1 v2 v3 : Int32), BRq w rd par fr F1 i F2 ∧ pa.toInt = (if i = 0 then par.toInt else fr + LF F1 (rd + 2) i) ∧ F' = brF F2 w (F1 (rd + 1) i) pa v0 v1 v2 v3 (F1 (rd + 3) i)
    ∧ (v0 = if 0 < nNum (F1 (rd + 1) i).toInt then F1 (rd + 5 + (1 + i)) 0 else 0) ∧ (v1 = if 1 < nNum (F1 (rd + 1) i).toInt then F1 (rd + 5 + (1 + i)) 1 else 0) ∧ (v2 = if 2 < nNum (F1 (rd + 1) i).toInt then F1 (rd + 5 + (1 + i)) 2 else 0) ∧ (v3 = if 3 < nNum (F1 (rd + 1) i).toInt then F1 (rd + 5 + (1 + i)) 3 else 0)
/-- i BOXES have come -/
def RIv (F1 Fc : mF) (w rd : Nat) (par : Int32) (fr : Int) (i : Nat) : Prop := BRq w rd par fr F1 i Fc ∧ (∀ c k : Nat, ¬ (w ≤ c ∧ c < w + 100) → Fc c k = F1 c k) ∧ (Fc w 8).toInt = fr + i ∧ (∀ m : Nat, tB (Fc w 4) m ↔ tB (F1 w 4) m ∨ (fr ≤ m ∧ (m : Int) < fr + i)) ∧ ∀ j : Nat, j < i → (Fc (w + 1 + (3 + 4 * (fr.toNat + j))) 10).toInt = cnt (LF F1 (rd + 2)) i j
/-- who holds the BOX number i -/
def RPo (F1 Fc : mF) (w rd : Nat) (par : Int32) (fr : Int) (i : Nat) (pa : Int32) : Prop := pa.toInt = (if i = 0 then par.toInt else fr + LF F1 (rd + 2) i) ∧ (pa.toInt = -1 ∨ (0 ≤ pa.toInt ∧ pa.toInt < (Fc w 8).toInt ∧ tB (Fc w 4) pa.toInt.toNat ∧ 0 ≤ (Fc (w + 1 + (3 + 4 * pa.toInt.toNat)) 10).toInt ∧ (Fc (w + 1 + (3 + 4 * pa.toInt.toNat)) 10).toInt ≤ 7))
theorem RIv_0 {F1 : mF} {w rd : Nat} {par : Int32} {fr : Int} (h : (F1 w 8).toInt = fr) : RIv F1 F1 w rd par fr 0 := ⟨rfl, fun _ _ _ => rfl, by omega, fun m => ⟨Or.inl, fun h => h.elim id (fun h => by omega)⟩, fun j hj => by omega⟩
theorem RIv_s {F1 Fc F9 : mF} {w rd i : Nat} {par pa v0 v1 v2 v3 : Int32} {fr : Int} (hI : RIv F1 Fc w rd par fr i) (hf0 : 0 ≤ fr) (hfr : fr + i ≤ 23) (hP : RPo F1 Fc w rd par fr i pa) (hPB : PB (LF F1 (rd + 2)) (i + 1)) (h0 : LF F1 (rd + 2) 0 = -1) (hpar : par.toInt < fr) (e : F9 = brF Fc w (F1 (rd + 1) i) pa v0 v1 v2 v3 (F1 (rd + 3) i))
    (e0 : v0 = if 0 < nNum (F1 (rd + 1) i).toInt then F1 (rd + 5 + (1 + i)) 0 else 0) (e1 : v1 = if 1 < nNum (F1 (rd + 1) i).toInt then F1 (rd + 5 + (1 + i)) 1 else 0) (e2 : v2 = if 2 < nNum (F1 (rd + 1) i).toInt then F1 (rd + 5 + (1 + i)) 2 else 0) (e3 : v3 = if 3 < nNum (F1 (rd + 1) i).toInt then F1 (rd + 5 + (1 + i)) 3 else 0) : RIv F1 F9 w rd par fr (i + 1) := by
  obtain ⟨a1, a2, a3, a4, a5⟩ := hI
  obtain ⟨p1, p2⟩ := hP
  obtain ⟨⟨b1, b2, b3, b4⟩, b5, b6, b7, b8⟩ := brF_spec e (by omega) (by omega) (by rcases p2 with h | ⟨h1, h2, h3, h4, h5⟩; exact Or.inl h; exact Or.inr ⟨h1, h2, h4, h5⟩)
  have en : (Fc w 8).toInt.toNat = fr.toNat + i := by omega
  rw [en] at b1 b2 b6 b7 b8
  refine ⟨⟨Fc, pa, v0, v1, v2, v3, a1, p1, e, e0, e1, e2, e3⟩, fun c k hc => (b5 c k hc).trans (a2 c k hc), by rw [b1]; omega, fun m => ?_, fun j hj => ?_⟩
  · rw [b2, a4]
    constructor
    · rintro ((h | h) | h)
      · exact Or.inl h
      · exact Or.inr (by omega)
      · exact Or.inr (by omega)
    · rintro (h | h)
      · exact Or.inl (Or.inl h)
      · by_cases z : m = fr.toNat + i
        · exact Or.inr z
        · exact Or.inl (Or.inr (by omega))
  · show _ = cnt (LF F1 (rd + 2)) i j + (if LF F1 (rd + 2) i = j then 1 else 0)
    by_cases z : j = i
    · subst z
      have hb := hPB j (by omega)
      rw [b6.2.2.2.2.2.1, cnt_no j (fun q hq => by have := hPB q (by omega); omega), if_neg (by omega)]
      rfl
    · obtain ⟨-, -, c1, c2⟩ := b8 (fr.toNat + j) (by omega) (by omega)
      have h5 := a5 j (by omega)
      by_cases y : ((fr.toNat + j : Nat) : Int) = pa.toInt
      · rw [(c2 y).1, h5]
        by_cases y2 : i = 0
        · omega
        · rw [if_neg y2] at p1
          rw [if_pos (by omega)]
      · rw [(c1 y).1, h5]
        by_cases y2 : i = 0
        · omega
        · rw [if_neg y2] at p1
          rw [if_neg (by omega)]
          omega
theorem RDn_par {L : Nat → Int} {len left : Int} {K P S : Nat → Int} {N : Nat → Nat → Int} {n : Nat} {p par : Int} (h : RDn L len left K P S N (n + 1) p par) : 0 ≤ par := by
  obtain ⟨p0, q, h1, h2, h3⟩ := h
  rcases h3 with ⟨_, h4, _⟩ | ⟨_, k, _, h4, _⟩ <;> omega
theorem RDn_all {L : Nat → Int} {len left : Int} {K P S : Nat → Int} {N : Nat → Nat → Int} : ∀ (n : Nat) (p par : Int), RDn L len left K P S N n p par → ∀ i, i < n → (∃ p0, RDn L len left K P S N i p0 (P i)) ∧ ∃ p0 q, BXok L len left i p0 (P i) K (fun j => cnt P i j) (K i) (N i) (S i) q
  | 0, _, _, _, i, hi => absurd hi (Nat.not_lt_zero _)
  | n + 1, p, par, ⟨p0, q, h1, h2, h3⟩, i, hi => by
    by_cases z : i = n
    · subst z
      exact ⟨⟨p0, h1⟩, p0, q, h2⟩
    · exact RDn_all n p0 _ h1 i (by omega)
theorem RDok_all {L : Nat → Int} {len left : Int} {K P S : Nat → Int} {N : Nat → Nat → Int} {n : Nat} (h : RDok L len left K P S N n) {i : Nat} (hi : i < n) : (∃ p0, RDn L len left K P S N i p0 (P i)) ∧ ∃ p0 q, BXok L len left i p0 (P i) K (fun j => cnt P i j) (K i) (N i) (S i) q := by
  obtain ⟨m, p0, q, e, h1, h2, h3⟩ := h
  by_cases z : i = m
  · subst z
    exact ⟨⟨p0, h1⟩, p0, q, h2⟩
  · exact RDn_all m p0 _ h1 i (by omega)
/-- who holds the first; the others are held by one of those that came -/
theorem RDok_P {L : Nat → Int} {len left : Int} {K P S : Nat → Int} {N : Nat → Nat → Int} {n : Nat} (h : RDok L len left K P S N n) {i : Nat} (hi : i < n) : (i = 0 ∧ P i = -1) ∨ (0 < i ∧ 0 ≤ P i ∧ cnt P i (P i) ≤ 7) := by
  obtain ⟨⟨p0, h1⟩, p2, q, h2⟩ := RDok_all h hi
  cases i with
  | zero => exact Or.inl ⟨rfl, h1.2⟩
  | succ i =>
    have h3 := RDn_par h1
    refine Or.inr ⟨by omega, h3, ?_⟩
    have h4 := h2.1.1
    have h5 := nKid_r (K (P (i + 1)).toNat)
    rcases h4 with h4 | h4
    · omega
    · have h4 : cnt P (i + 1) ((P (i + 1)).toNat : Nat) < _ := h4
      rw [Int.toNat_of_nonneg h3] at h4
      omega
theorem RIv_par {F1 Fc : mF} {w rd i n : Nat} {par pa : Int32} {fr len left : Int} {L : Nat → Int} (hI : RIv F1 Fc w rd par fr i) (hO : FOk L F1 rd len left n) (hi : i < n) (hf0 : 0 ≤ fr) (hpa : pa.toInt = if i = 0 then par.toInt else fr + LF F1 (rd + 2) i) (hpar : par.toInt = -1 ∨ (0 ≤ par.toInt ∧ par.toInt < fr ∧ tB (F1 w 4) par.toInt.toNat ∧ 0 ≤ (F1 (w + 1 + (3 + 4 * par.toInt.toNat)) 10).toInt ∧ (F1 (w + 1 + (3 + 4 * par.toInt.toNat)) 10).toInt ≤ 7)) : RPo F1 Fc w rd par fr i pa := by
  refine ⟨hpa, ?_⟩
  obtain ⟨o1, o2, o3, o4, o5, o6⟩ := hO
  obtain ⟨a1, a2, a3, a4, a5⟩ := hI
  rcases RDok_P o5 hi with ⟨z, h⟩ | ⟨z, h1, h2⟩
  · subst z
    rw [if_pos rfl] at hpa
    have e : Fc = F1 := a1
    rw [e, hpa]
    rw [e] at a3
    rcases hpar with h | ⟨h3, h4, h5, h6, h7⟩
    · exact Or.inl h
    · exact Or.inr ⟨h3, by omega, h5, h6, h7⟩
  · rw [if_neg (by omega)] at hpa
    have hb := o6 i hi
    have h5 := a5 (LF F1 (rd + 2) i).toNat (by omega)
    rw [Int.toNat_of_nonneg h1] at h5
    have e : pa.toInt.toNat = fr.toNat + (LF F1 (rd + 2) i).toNat := by omega
    have := cnt_le (P := LF F1 (rd + 2)) (h := LF F1 (rd + 2) i) i
    refine Or.inr ⟨by omega, by omega, ?_, ?_, ?_⟩
    · rw [e, a4]; exact Or.inr (by omega)
    · rw [e, h5]; omega
    · rw [e, h5]; exact h2
theorem FOk_up {L : Nat → Int} {F1 : mF} {rd h n : Nat} {len left : Int} {v : Int32} (hO : FOk L F1 rd len left n) (hh : h < rd ∨ rd + 30 ≤ h) : FOk L (up2 F1 h 8 v) rd len left n := by
  obtain ⟨o1, o2, o3, o4, o5, o6⟩ := hO
  have e : ∀ d, d < 30 → LF (up2 F1 h 8 v) (rd + d) = LF F1 (rd + d) := fun d hd => LF_up (by omega)
  refine ⟨o1, o2, o3, by rw [up2_ne (by omega)]; exact o4, ?_, by rw [e 2 (by decide)]; exact o6⟩
  obtain ⟨m, p0, q, em, h1, h2, h3⟩ := o5
  have hPB : PB (LF F1 (rd + 2)) m := fun j hj => o6 j (by omega)
  have eN : ∀ i, i < n → LF (up2 F1 h 8 v) (rd + 5 + (1 + i)) = LF F1 (rd + 5 + (1 + i)) := fun i hi => LF_up (by omega)
  rw [e 1 (by decide), e 2 (by decide), e 3 (by decide)]
  refine ⟨m, p0, q, em, RDn_eq m _ _ hPB (fun j hj => ⟨rfl, rfl, rfl, fun i _ => by rw [eN j (by omega)]⟩) h1, ?_, h3⟩
  show BXok L len left m p0 _ _ _ _ (LF (up2 F1 h 8 v) (rd + 5 + (1 + m))) _ q
  rw [eN m (by omega)]
  exact h2
/-- what comes of reads() -/
def RDS (F F' : mF) (w rd lt h : Nat) (par r : Int32) : Prop := ∃ F1 : mF, FRM (up2 F h 8 0) F1 rd ∧ ((∃ q : Int, 0 ≤ q ∧ q ≤ 120 ∧ RDbd (LF F lt) (F h 8).toInt (24 - (F w 8).toInt) q ∧ r.toInt = -100 - q ∧ F' = F1) ∨ (∃ n : Nat, FOk (LF F lt) F1 rd (F h 8).toInt (24 - (F w 8).toInt) n ∧ r.toInt = n ∧ BRq w rd par (F w 8).toInt F1 n F'))
