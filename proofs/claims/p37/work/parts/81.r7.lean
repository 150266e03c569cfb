/-! ===== how many BOXES there are ===== -/
theorem zc_nand_split {a b c d : Nat} (ha : a < 256) (hc : c < 256) : (a + 256 * b) &&& (c + 256 * d) = (a &&& c) + 256 * (b &&& d) := by
  have h1 : ((a + 256 * b) &&& (c + 256 * d)) % 2 ^ 8 = (a &&& c) := by
    rw [Nat.and_mod_two_pow]
    rw [show (a + 256 * b) % 2 ^ 8 = a by omega, show (c + 256 * d) % 2 ^ 8 = c by omega]
  have h2 : ((a + 256 * b) &&& (c + 256 * d)) / 2 ^ 8 = (b &&& d) := by
    rw [Nat.and_div_two_pow]
    rw [show (a + 256 * b) / 2 ^ 8 = b by omega, show (c + 256 * d) / 2 ^ 8 = d by omega]
  omega
theorem zc_nm3 {a b c m : Nat} (ha : a < 256) (hb : b < 256) (hm : m < 256) : (a + 256 * (b + 256 * c)) &&& (m + 256 * (m + 256 * (m + 256 * m))) = (a &&& m) + 256 * ((b &&& m) + 256 * (c &&& (m + 256 * m))) := by
  rw [zc_nand_split ha hm, zc_nand_split hb hm]
theorem zc_nm1 {c m : Nat} (hc : c < 256) (hm : m < 256) : c &&& (m + 256 * m) = c &&& m := by
  have := zc_nand_split (a := c) (b := 0) (c := m) (d := m) hc hm
  rw [Nat.mul_zero, Nat.add_zero, Nat.zero_and, Nat.mul_zero, Nat.add_zero] at this
  exact this
def zc_g1 (a : Nat) : Nat := a - ((a / 2) &&& 85)
def zc_g2 (y : Nat) : Nat := (y &&& 51) + ((y / 4) &&& 51)
def zc_g3 (z : Nat) : Nat := (z + z / 16) &&& 15
theorem zc_gt1 : ∀ a, a < 256 → (∀ e, e < 2 → (a / 2 + 128 * e) &&& 85 = (a / 2) &&& 85) ∧ ((a / 2) &&& 85) ≤ a := by decide +kernel
theorem zc_gt2 : ∀ y, y < 256 → (∀ e, e < 4 → (y / 4 + 64 * e) &&& 51 = (y / 4) &&& 51) ∧ zc_g2 y ≤ 102 := by decide +kernel
theorem zc_gt3 : ∀ a, a < 256 → zc_g2 (zc_g1 a) ≤ 68 ∧ zc_g2 (zc_g1 a) % 16 ≤ 4 ∧ zc_g3 (zc_g2 (zc_g1 a)) = a % 2 + a / 2 % 2 + a / 4 % 2 + a / 8 % 2 + a / 16 % 2 + a / 32 % 2 + a / 64 % 2 + a / 128 % 2 := by decide +kernel
theorem zc_gt4 : ∀ z, z < 69 → ∀ e, e < 5 → (z + z / 16 + 16 * e) &&& 15 = zc_g3 z := by decide +kernel
def zc_P1 (n : Nat) : Nat := n - ((n / 2) &&& 1431655765)
def zc_P2 (n : Nat) : Nat := (n &&& 858993459) + ((n / 4) &&& 858993459)
def zc_P3 (n : Nat) : Nat := (n + n / 16) &&& 252645135
def zc_pc8 (a : Nat) : Nat := a % 2 + a / 2 % 2 + a / 4 % 2 + a / 8 % 2 + a / 16 % 2 + a / 32 % 2 + a / 64 % 2 + a / 128 % 2
theorem zc_P1_s {a b c : Nat} (ha : a < 256) (hb : b < 256) (hc : c < 256) : zc_P1 (a + 256 * (b + 256 * c)) = zc_g1 a + 256 * (zc_g1 b + 256 * zc_g1 c) := by
  unfold zc_P1
  have e : (a + 256 * (b + 256 * c)) / 2 = (a / 2 + 128 * (b % 2)) + 256 * ((b / 2 + 128 * (c % 2)) + 256 * (c / 2)) := by omega
  rw [e, show 1431655765 = 85 + 256 * (85 + 256 * (85 + 256 * 85)) from rfl, zc_nm3 (by omega) (by omega) (by omega), zc_nm1 (by omega) (by omega), (zc_gt1 a ha).1 _ (by omega), (zc_gt1 b hb).1 _ (by omega)]
  have := (zc_gt1 a ha).2
  have := (zc_gt1 b hb).2
  have := (zc_gt1 c hc).2
  unfold zc_g1
  omega
theorem zc_P2_s {a b c : Nat} (ha : a < 256) (hb : b < 256) (hc : c < 256) : zc_P2 (a + 256 * (b + 256 * c)) = zc_g2 a + 256 * (zc_g2 b + 256 * zc_g2 c) := by
  unfold zc_P2
  have e : (a + 256 * (b + 256 * c)) / 4 = (a / 4 + 64 * (b % 4)) + 256 * ((b / 4 + 64 * (c % 4)) + 256 * (c / 4)) := by omega
  rw [e, show 858993459 = 51 + 256 * (51 + 256 * (51 + 256 * 51)) from rfl, zc_nm3 (by omega) (by omega) (by omega), zc_nm3 (by omega) (by omega) (by omega), zc_nm1 (by omega) (by omega), zc_nm1 (by omega) (by omega), (zc_gt2 a ha).1 _ (by omega), (zc_gt2 b hb).1 _ (by omega)]
  unfold zc_g2
  omega
theorem zc_P3_s {a b c : Nat} (ha : a < 69) (hb : b < 69) (hc : c < 69) (ha4 : a % 16 ≤ 4) (hb4 : b % 16 ≤ 4) (hc4 : c % 16 ≤ 4) : zc_P3 (a + 256 * (b + 256 * c)) = zc_g3 a + 256 * (zc_g3 b + 256 * zc_g3 c) := by
  unfold zc_P3
  have e : (a + 256 * (b + 256 * c)) + (a + 256 * (b + 256 * c)) / 16 = (a + a / 16 + 16 * (b % 16)) + 256 * ((b + b / 16 + 16 * (c % 16)) + 256 * (c + c / 16)) := by omega
  rw [e, show 252645135 = 15 + 256 * (15 + 256 * (15 + 256 * 15)) from rfl, zc_nm3 (by omega) (by omega) (by omega), zc_nm1 (by omega) (by omega), zc_gt4 a ha _ (by omega), zc_gt4 b hb _ (by omega)]
  rfl
def zc_PE (n : Nat) : Nat := ((zc_P3 (zc_P2 (zc_P1 n)) + zc_P3 (zc_P2 (zc_P1 n)) / 256) + (zc_P3 (zc_P2 (zc_P1 n)) + zc_P3 (zc_P2 (zc_P1 n)) / 256) / 65536) &&& 63
theorem zc_g1_lt {a : Nat} (h : a < 256) : zc_g1 a < 256 := by unfold zc_g1; omega
theorem zc_P123 {n : Nat} (h : n < 16777216) : zc_P3 (zc_P2 (zc_P1 n)) = zc_pc8 (n % 256) + 256 * (zc_pc8 (n / 256 % 256) + 256 * zc_pc8 (n / 65536)) ∧ zc_P1 n < 16777216 ∧ zc_P2 (zc_P1 n) < 16777216 ∧ zc_P2 (zc_P1 n) + zc_P2 (zc_P1 n) / 16 < 4294967296 := by
  have e : n = n % 256 + 256 * (n / 256 % 256 + 256 * (n / 65536)) := by omega
  obtain ⟨a, ea⟩ : ∃ a, a = n % 256 := ⟨_, rfl⟩
  obtain ⟨b, eb⟩ : ∃ b, b = n / 256 % 256 := ⟨_, rfl⟩
  obtain ⟨c, ec⟩ : ∃ c, c = n / 65536 := ⟨_, rfl⟩
  rw [← ea, ← eb, ← ec] at e ⊢
  have ha : a < 256 := by omega
  have hb : b < 256 := by omega
  have hc : c < 256 := by omega
  have h1 := zc_g1_lt ha
  have h2 := zc_g1_lt hb
  have h3 := zc_g1_lt hc
  have t1 := zc_gt3 a ha
  have t2 := zc_gt3 b hb
  have t3 := zc_gt3 c hc
  have e1 : zc_P1 n = zc_g1 a + 256 * (zc_g1 b + 256 * zc_g1 c) := by rw [e]; exact zc_P1_s ha hb hc
  have e2 : zc_P2 (zc_P1 n) = zc_g2 (zc_g1 a) + 256 * (zc_g2 (zc_g1 b) + 256 * zc_g2 (zc_g1 c)) := by rw [e1]; exact zc_P2_s h1 h2 h3
  have e3 : zc_P3 (zc_P2 (zc_P1 n)) = zc_g3 (zc_g2 (zc_g1 a)) + 256 * (zc_g3 (zc_g2 (zc_g1 b)) + 256 * zc_g3 (zc_g2 (zc_g1 c))) := by
    rw [e2]
    exact zc_P3_s (by omega) (by omega) (by omega) t1.2.1 t2.2.1 t3.2.1
  refine ⟨?_, by omega, by omega, by omega⟩
  rw [e3, t1.2.2, t2.2.2, t3.2.2]
  rfl
theorem zc_pc8_8 {a : Nat} : zc_pc8 a ≤ 8 := by unfold zc_pc8; omega
theorem zc_PE_s {n : Nat} (h : n < 16777216) : zc_PE n = zc_pc8 (n % 256) + zc_pc8 (n / 256 % 256) + zc_pc8 (n / 65536) := by
  unfold zc_PE
  rw [(zc_P123 h).1]
  have h1 := zc_pc8_8 (a := n % 256)
  have h2 := zc_pc8_8 (a := n / 256 % 256)
  have h3 := zc_pc8_8 (a := n / 65536)
  rw [show (63 : Nat) = 2 ^ 6 - 1 from rfl, Nat.and_two_pow_sub_one_eq_mod]
  generalize zc_pc8 (n % 256) = u at h1 ⊢
  generalize zc_pc8 (n / 256 % 256) = v at h2 ⊢
  generalize zc_pc8 (n / 65536) = w at h3 ⊢
  rw [show (u + 256 * (v + 256 * w)) / 256 = v + 256 * w by omega, show (u + 256 * (v + 256 * w) + (v + 256 * w)) / 65536 = w by omega]
  omega
def zc_uN (x : Int32) : Nat := x.toBitVec.toNat
theorem zc_uN_ush {x k : Int32} {j : Nat} (hk : (k.toUInt32 &&& Int32.toUInt32 31).toBitVec.toNat % 32 = j) : zc_uN (ush x k) = zc_uN x / 2 ^ j := by
  unfold zc_uN ush
  show (x.toBitVec >>> ((k.toUInt32 &&& Int32.toUInt32 31).toBitVec % 32#32).toNat).toNat = _
  rw [BitVec.toNat_ushiftRight, BitVec.toNat_umod, show (32#32 : BitVec 32).toNat = 32 from rfl, hk, Nat.shiftRight_eq_div_pow]
theorem zc_uN_and {x y : Int32} : zc_uN (x &&& y) = zc_uN x &&& zc_uN y := by
  show (x.toBitVec &&& y.toBitVec).toNat = _
  rw [BitVec.toNat_and]; rfl
theorem zc_uN_add {x y : Int32} (h : zc_uN x + zc_uN y < 4294967296) : zc_uN (x + y) = zc_uN x + zc_uN y := by
  show (x.toBitVec + y.toBitVec).toNat = _
  rw [BitVec.toNat_add]
  exact Nat.mod_eq_of_lt h
theorem zc_uN_sub {x y : Int32} (h : zc_uN y ≤ zc_uN x) : zc_uN (x - y) = zc_uN x - zc_uN y := by
  show (x.toBitVec - y.toBitVec).toNat = _
  exact BitVec.toNat_sub_of_le (BitVec.le_def.mpr h)
theorem zc_and_le {a b : Nat} : a &&& b ≤ a := Nat.and_le_left
theorem zc_bcE_uN {x : Int32} (h : zc_uN x < 16777216) : zc_uN (bcE x) = zc_PE (zc_uN x) := by
  obtain ⟨h3, l1, l2, l3⟩ := zc_P123 h
  have e1 : zc_uN (bc1 x) = zc_P1 (zc_uN x) := by
    unfold bc1 zc_P1
    have e : zc_uN (ush x 1 &&& 1431655765) = zc_uN x / 2 &&& 1431655765 := by rw [zc_uN_and, zc_uN_ush (j := 1) rfl]; rfl
    have hl : zc_uN x / 2 &&& 1431655765 ≤ zc_uN x / 2 := zc_and_le
    rw [zc_uN_sub (by omega), e]
  have e2 : zc_uN (bc2 (bc1 x)) = zc_P2 (zc_P1 (zc_uN x)) := by
    unfold bc2 zc_P2
    have ea : zc_uN (bc1 x &&& 858993459) = zc_P1 (zc_uN x) &&& 858993459 := by rw [zc_uN_and, e1]; rfl
    have eb : zc_uN (ush (bc1 x) 2 &&& 858993459) = zc_P1 (zc_uN x) / 4 &&& 858993459 := by rw [zc_uN_and, zc_uN_ush (j := 2) rfl, e1]; rfl
    have h1 : zc_P1 (zc_uN x) &&& 858993459 ≤ zc_P1 (zc_uN x) := zc_and_le
    have h2 : zc_P1 (zc_uN x) / 4 &&& 858993459 ≤ zc_P1 (zc_uN x) / 4 := zc_and_le
    rw [zc_uN_add (by omega), ea, eb]
  have e3 : zc_uN (bc3 (bc2 (bc1 x))) = zc_P3 (zc_P2 (zc_P1 (zc_uN x))) := by
    unfold bc3 zc_P3
    have eb : zc_uN (ush (bc2 (bc1 x)) 4) = zc_P2 (zc_P1 (zc_uN x)) / 16 := by rw [zc_uN_ush (j := 4) rfl, e2]
    rw [zc_uN_and, zc_uN_add (by omega), eb, e2]; rfl
  have b1 := zc_pc8_8 (a := zc_uN x % 256)
  have b2 := zc_pc8_8 (a := zc_uN x / 256 % 256)
  have b3 := zc_pc8_8 (a := zc_uN x / 65536)
  have e4 : zc_uN (bc4 (bc3 (bc2 (bc1 x)))) = zc_P3 (zc_P2 (zc_P1 (zc_uN x))) + zc_P3 (zc_P2 (zc_P1 (zc_uN x))) / 256 := by
    unfold bc4
    have eb : zc_uN (ush (bc3 (bc2 (bc1 x))) 8) = zc_P3 (zc_P2 (zc_P1 (zc_uN x))) / 256 := by rw [zc_uN_ush (j := 8) rfl, e3]
    rw [zc_uN_add (by omega), eb, e3]
  unfold bcE bc5 zc_PE
  have eb : zc_uN (ush (bc4 (bc3 (bc2 (bc1 x)))) 16) = (zc_P3 (zc_P2 (zc_P1 (zc_uN x))) + zc_P3 (zc_P2 (zc_P1 (zc_uN x))) / 256) / 65536 := by rw [zc_uN_ush (j := 16) rfl, e4]
  rw [zc_uN_and, zc_uN_add (by omega), eb, e4]; rfl
theorem zc_uN_lt {A : Int32} (h : ∀ n : Nat, tB A n → n ≤ 23) : zc_uN A < 16777216 := by
  refine Nat.lt_pow_two_of_testBit (n := 24) (zc_uN A) (fun i hi => ?_)
  cases q : (zc_uN A).testBit i with
  | false => rfl
  | true =>
    have : tB A i := by
      show A.toBitVec.getLsbD i = true
      rw [← BitVec.testBit_toNat]; exact q
    have := h i this
    omega
theorem zc_kb_0 (n : Nat) : n % 256 % 2 = n % 2 := by omega
theorem zc_kb_1 (n : Nat) : n % 256 / 2 % 2 = n / 2 % 2 := by omega
theorem zc_kb_2 (n : Nat) : n % 256 / 4 % 2 = n / 4 % 2 := by omega
theorem zc_kb_3 (n : Nat) : n % 256 / 8 % 2 = n / 8 % 2 := by omega
theorem zc_kb_4 (n : Nat) : n % 256 / 16 % 2 = n / 16 % 2 := by omega
theorem zc_kb_5 (n : Nat) : n % 256 / 32 % 2 = n / 32 % 2 := by omega
theorem zc_kb_6 (n : Nat) : n % 256 / 64 % 2 = n / 64 % 2 := by omega
theorem zc_kb_7 (n : Nat) : n % 256 / 128 % 2 = n / 128 % 2 := by omega
theorem zc_kc_0 (n : Nat) : n / 256 % 256 % 2 = n / 256 % 2 := by omega
theorem zc_kc_1 (n : Nat) : n / 256 % 256 / 2 % 2 = n / 512 % 2 := by omega
theorem zc_kc_2 (n : Nat) : n / 256 % 256 / 4 % 2 = n / 1024 % 2 := by omega
theorem zc_kc_3 (n : Nat) : n / 256 % 256 / 8 % 2 = n / 2048 % 2 := by omega
theorem zc_kc_4 (n : Nat) : n / 256 % 256 / 16 % 2 = n / 4096 % 2 := by omega
theorem zc_kc_5 (n : Nat) : n / 256 % 256 / 32 % 2 = n / 8192 % 2 := by omega
theorem zc_kc_6 (n : Nat) : n / 256 % 256 / 64 % 2 = n / 16384 % 2 := by omega
theorem zc_kc_7 (n : Nat) : n / 256 % 256 / 128 % 2 = n / 32768 % 2 := by omega
theorem zc_kd_1 (n : Nat) : n / 65536 / 2 % 2 = n / 131072 % 2 := by omega
theorem zc_kd_2 (n : Nat) : n / 65536 / 4 % 2 = n / 262144 % 2 := by omega
theorem zc_kd_3 (n : Nat) : n / 65536 / 8 % 2 = n / 524288 % 2 := by omega
theorem zc_kd_4 (n : Nat) : n / 65536 / 16 % 2 = n / 1048576 % 2 := by omega
theorem zc_kd_5 (n : Nat) : n / 65536 / 32 % 2 = n / 2097152 % 2 := by omega
theorem zc_kd_6 (n : Nat) : n / 65536 / 64 % 2 = n / 4194304 % 2 := by omega
theorem zc_kd_7 (n : Nat) : n / 65536 / 128 % 2 = n / 8388608 % 2 := by omega
theorem bcE_cB {A : Int32} {t : Nat → Int32} (h : ∀ n : Nat, tB A n ↔ n ≤ 23 ∧ K t (n : Int) 0 = 1) : (bcE A).toInt = cB t 24 := by
  have hl := zc_uN_lt (fun n q => ((h n).mp q).1)
  have hb : ∀ i : Nat, i < 24 → (if K t (i : Int) 0 = 1 then (1 : Int) else 0) = ((zc_uN A / 2 ^ i % 2 : Nat) : Int) := fun i hi => by
    have e : tB A i ↔ zc_uN A / 2 ^ i % 2 = 1 := by
      show A.toBitVec.getLsbD i = true ↔ _
      rw [← BitVec.testBit_toNat, Nat.testBit_eq_decide_div_mod_eq]
      exact decide_eq_true_iff
    by_cases z : K t (i : Int) 0 = 1
    · rw [if_pos z, e.mp ((h i).mpr ⟨by omega, z⟩)]; rfl
    · have : ¬ zc_uN A / 2 ^ i % 2 = 1 := fun q => z ((h i).mp (e.mpr q)).2
      rw [if_neg z, show zc_uN A / 2 ^ i % 2 = 0 by omega]; rfl
  have hE := zc_bcE_uN hl
  rw [zc_PE_s hl] at hE
  have b1 := zc_pc8_8 (a := zc_uN A % 256)
  have b2 := zc_pc8_8 (a := zc_uN A / 256 % 256)
  have b3 := zc_pc8_8 (a := zc_uN A / 65536)
  have hI : (bcE A).toInt = (zc_uN (bcE A) : Int) := by
    show (bcE A).toBitVec.toInt = _
    refine BitVec.toInt_eq_toNat_of_lt ?_
    show 2 * zc_uN (bcE A) < 2 ^ 32
    omega
  rw [hI, hE]
  obtain ⟨f, hf⟩ : ∃ f : Nat → Int, f = fun (i : Nat) => if K t (i : Int) 0 = 1 then (1 : Int) else 0 := ⟨_, rfl⟩
  have c : cB t 24 = 0 + f 0 + f 1 + f 2 + f 3 + f 4 + f 5 + f 6 + f 7 + f 8 + f 9 + f 10 + f 11 + f 12 + f 13 + f 14 + f 15 + f 16 + f 17 + f 18 + f 19 + f 20 + f 21 + f 22 + f 23 := by rw [hf]; rfl
  have fb : ∀ i : Nat, i < 24 → f i = ((zc_uN A / 2 ^ i % 2 : Nat) : Int) := fun i hi => by rw [hf]; exact hb i hi
  rw [c]
  generalize zc_uN A = n at hl fb ⊢
  have k1 : zc_pc8 (n % 256) = n % 2 + n / 2 % 2 + n / 4 % 2 + n / 8 % 2 + n / 16 % 2 + n / 32 % 2 + n / 64 % 2 + n / 128 % 2 := by unfold zc_pc8; rw [zc_kb_0, zc_kb_1, zc_kb_2, zc_kb_3, zc_kb_4, zc_kb_5, zc_kb_6, zc_kb_7]
  have k2 : zc_pc8 (n / 256 % 256) = n / 256 % 2 + n / 512 % 2 + n / 1024 % 2 + n / 2048 % 2 + n / 4096 % 2 + n / 8192 % 2 + n / 16384 % 2 + n / 32768 % 2 := by unfold zc_pc8; rw [zc_kc_0, zc_kc_1, zc_kc_2, zc_kc_3, zc_kc_4, zc_kc_5, zc_kc_6, zc_kc_7]
  have k3 : zc_pc8 (n / 65536) = n / 65536 % 2 + n / 131072 % 2 + n / 262144 % 2 + n / 524288 % 2 + n / 1048576 % 2 + n / 2097152 % 2 + n / 4194304 % 2 + n / 8388608 % 2 := by unfold zc_pc8; rw [zc_kd_1, zc_kd_2, zc_kd_3, zc_kd_4, zc_kd_5, zc_kd_6, zc_kd_7]
  rw [k1, k2, k3, fb 0 (by decide), fb 1 (by decide), fb 2 (by decide), fb 3 (by decide), fb 4 (by decide), fb 5 (by decide), fb 6 (by decide), fb 7 (by decide), fb 8 (by decide), fb 9 (by decide), fb 10 (by decide), fb 11 (by decide), fb 12 (by decide), fb 13 (by decide), fb 14 (by decide), fb 15 (by decide), fb 16 (by decide), fb 17 (by decide), fb 18 (by decide), fb 19 (by decide), fb 20 (by decide), fb 21 (by decide), fb 22 (by decide), fb 23 (by decide)]
  simp only [Int.natCast_add, Nat.pow_zero, Nat.div_one, Nat.reducePow, Int.zero_add, Int.add_assoc]
  done
theorem cB_bd {t : Nat → Int32} : ∀ n : Nat, 0 ≤ cB t n ∧ cB t n ≤ n
  | 0 => ⟨Int.le_refl _, Int.le_refl _⟩
  | n + 1 => by
    have h := cB_bd (t := t) n
    have e : cB t (n + 1) = cB t n + (if K t (n : Int) 0 = 1 then 1 else 0) := rfl
    rw [e]
    split <;> omega
theorem RL_dropsR {F F9 : mF} {w : Nat} {t t' : Nat → Int32} {x1 r r' : Int32} (h : RT F w t) (hI : TInv t) (hJ : TJ t) (hc : DPc F F9 w x1 r) (hr : DPx t t' x1.toInt r') : r = r' := by
  obtain ⟨h1, h2, -⟩ := RL_drops h hI hJ hc hr
  rcases h1 with ha | h1
  · unfold DPc at hc
    unfold DPx at hr
    rw [h.al x1] at hc
    have hc := (hc.resolve_left (fun z => z.2.2 ha)).2
    have hr := (hr.resolve_left (fun z => z.2.2 ha)).2
    obtain ⟨thc, -, er, c2⟩ := hc
    obtain ⟨th, t1, o, hcu, -, hgn, hag⟩ := hr
    have e4 : F9 w 4 = thc := by
      rcases c2 with ⟨-, pl, -, c9⟩ | ⟨-, c9⟩
      · rw [c9, rmF_o (by omega) (by omega), up2_at]
      · rw [c9, up2_ne (by omega), up2_at]
    have b1 := bcE_cB h.2.2.1
    have b2 := bcE_cB h2.2.2.1
    rw [e4] at b2
    have c1 : cB t' 24 = cB t1 24 := cB_eq 24 (fun i hi => congrArg Int32.toInt (hag.2.2 (i : Int) 0 (by omega) (by decide) (by decide)))
    have c3 : cB th 24 = cB t 24 := cB_eq 24 (fun i hi => congrArg Int32.toInt (hcu.2.2.2.1 (i : Int) 0 (by omega) (by decide) (by decide) (by omega)))
    have g := hgn.2.2.2.2
    have g : r'.toInt + cB t1 24 = cB th 24 := g
    have d1 := cB_bd (t := t) 24
    have d2 := cB_bd (t := t') 24
    have := tn_sub (z := r) er b1 b2 (by omega) (by omega)
    exact Int32.toInt_inj.mp (by omega)
  · exact h1
