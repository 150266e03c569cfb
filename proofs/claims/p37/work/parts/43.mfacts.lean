/-! ===== facts of the reference ===== -/
theorem mr_15 : mFr 15 1 2 := ⟨ff_X10_15, rfl⟩
theorem mr_18 : mFr 18 2 3 := ⟨ff_X10_18, rfl⟩
theorem mr_21 : mFr 21 3 4 := ⟨ff_X10_21, rfl⟩
theorem mr_24 : mFr 24 4 5 := ⟨ff_X10_24, rfl⟩
theorem mr_27 : mFr 27 12 6 := ⟨ff_X10_27, rfl⟩
theorem mr_30 : mFr 30 13 7 := ⟨ff_X10_30, rfl⟩
theorem mr_33 : mFr 33 14 8 := ⟨ff_X10_33, rfl⟩
theorem mr_36 : mFr 36 15 9 := ⟨ff_X10_36, rfl⟩
theorem mr_39 : mFr 39 16 10 := ⟨ff_X10_39, rfl⟩
theorem mr_42 : mFr 42 17 11 := ⟨ff_X10_42, rfl⟩
theorem mr_45 : mFr 45 19 12 := ⟨ff_X10_45, rfl⟩
theorem mr_48 : mFr 48 22 13 := ⟨ff_X10_48, rfl⟩
theorem mr_51 : mFr 51 23 14 := ⟨ff_X10_51, rfl⟩
theorem mr_54 : mFr 54 24 15 := ⟨ff_X10_54, rfl⟩
theorem mr_57 : mFr 57 28 16 := ⟨ff_X10_57, rfl⟩
theorem mr_60 : mFr 60 29 17 := ⟨ff_X10_60, rfl⟩
theorem mr_63 : mFr 63 31 18 := ⟨ff_X10_63, rfl⟩
theorem mr_66 : mFr 66 33 19 := ⟨ff_X10_66, rfl⟩
theorem mr_69 : mFr 69 35 20 := ⟨ff_X10_69, rfl⟩
theorem mr_72 : mFr 72 36 21 := ⟨ff_X10_72, rfl⟩
theorem mr_75 : mFr 75 37 22 := ⟨ff_X10_75, rfl⟩
theorem mr_78 : mFr 78 38 23 := ⟨ff_X10_78, rfl⟩
theorem mr_82 : mFr 82 39 24 := ⟨ff_X10_82, rfl⟩
theorem mi_202 : mFi 202 7 (-2147483648) (2147483647) := ⟨ff_X10_202, rfl⟩
theorem mp_202 : mPi 202 7 (-2147483648) (2147483647) .int := ⟨fq_X10_202, rfl, rfl⟩
theorem mi_212 : mFi 212 9 (-2147483648) (2147483647) := ⟨ff_X10_212, rfl⟩
theorem mp_212 : mPi 212 9 (-2147483648) (2147483647) .int := ⟨fq_X10_212, rfl, rfl⟩
theorem mi_215 : mFi 215 8 (-2147483648) (2147483647) := ⟨ff_X10_215, rfl⟩
theorem mp_215 : mPi 215 8 (-2147483648) (2147483647) .int := ⟨fq_X10_215, rfl, rfl⟩
theorem mi_218 : mFi 218 20 (-2147483648) (2147483647) := ⟨ff_X10_218, rfl⟩
theorem mp_218 : mPi 218 20 (-2147483648) (2147483647) .int := ⟨fq_X10_218, rfl, rfl⟩
theorem mi_221 : mFi 221 18 (0) (29) := ⟨ff_X10_221, rfl⟩
theorem mp_221 : mPi 221 18 (0) (29) .int := ⟨fq_X10_221, rfl, rfl⟩
theorem mi_261 : mFi 261 21 (-2147483648) (2147483647) := ⟨ff_X10_261, rfl⟩
theorem mp_261 : mPi 261 21 (-2147483648) (2147483647) .int := ⟨fq_X10_261, rfl, rfl⟩
theorem mi_321 : mFi 321 10 (-2147483648) (2147483647) := ⟨ff_X10_321, rfl⟩
theorem mp_321 : mPi 321 10 (-2147483648) (2147483647) .int := ⟨fq_X10_321, rfl, rfl⟩
theorem mi_324 : mFi 324 11 (-2147483648) (2147483647) := ⟨ff_X10_324, rfl⟩
theorem mp_324 : mPi 324 11 (-2147483648) (2147483647) .int := ⟨fq_X10_324, rfl, rfl⟩
theorem mi_340 : mFi 340 25 (0) (120) := ⟨ff_X10_340, rfl⟩
theorem mi_343 : mFi 343 6 (-2147483648) (2147483647) := ⟨ff_X10_343, rfl⟩
theorem mp_343 : mPi 343 6 (-2147483648) (2147483647) .int := ⟨fq_X10_343, rfl, rfl⟩
theorem mi_350 : mFi 350 26 (0) (120) := ⟨ff_X10_350, rfl⟩
theorem mp_350 : mPi 350 26 (0) (120) .int := ⟨fq_X10_350, rfl, rfl⟩
theorem mi_359 : mFi 359 27 (0) (1) := ⟨ff_X10_359, rfl⟩
theorem mp_359 : mPi 359 27 (0) (1) .boolean := ⟨fq_X10_359, rfl, rfl⟩
theorem mi_367 : mFi 367 32 (0) (25) := ⟨ff_X10_367, rfl⟩
theorem mp_367 : mPi 367 32 (0) (25) .int := ⟨fq_X10_367, rfl, rfl⟩
theorem mi_370 : mFi 370 30 (0) (24) := ⟨ff_X10_370, rfl⟩
theorem mp_370 : mPi 370 30 (0) (24) .int := ⟨fq_X10_370, rfl, rfl⟩
theorem mi_389 : mFi 389 34 (0) (700) := ⟨ff_X10_389, rfl⟩
theorem mp_389 : mPi 389 34 (0) (700) .int := ⟨fq_X10_389, rfl, rfl⟩
theorem mi_449 : mFi 449 5 (0) (1) := ⟨ff_X10_449, rfl⟩
theorem ma_6 : mAr 6 30 (0) (23) := ⟨⟨by decide, by decide⟩, rfl, fun _ => rfl⟩
theorem ma_7 : mAr 7 30 (0) (1) := ⟨⟨by decide, by decide⟩, rfl, fun _ => rfl⟩
theorem ma_8 : mAr 8 30 (0) (23) := ⟨⟨by decide, by decide⟩, rfl, fun _ => rfl⟩
theorem ma_9 : mAr 9 30 (0) (8) := ⟨⟨by decide, by decide⟩, rfl, fun _ => rfl⟩
theorem ma_10 : mAr 10 30 (0) (23) := ⟨⟨by decide, by decide⟩, rfl, fun _ => rfl⟩
theorem ma_11 : mAr 11 24 (0) (18) := ⟨⟨by decide, by decide⟩, rfl, fun _ => rfl⟩
theorem ma_12 : mAr 12 192 (0) (1000) := ⟨⟨by decide, by decide⟩, rfl, fun _ => rfl⟩
theorem ma_13 : mAr 13 24 (-2147483648) (2147483647) := ⟨⟨by decide, by decide⟩, rfl, fun _ => rfl⟩
theorem ma_14 : mAr 14 192 (-2147483648) (2147483647) := ⟨⟨by decide, by decide⟩, rfl, fun _ => rfl⟩
theorem ma_15 : mAl 15 120 (0) (126) := ⟨by decide, rfl, fun _ => rfl⟩
theorem ma_16 : mAl 16 60 (0) (127) := ⟨by decide, rfl, fun _ => rfl⟩
theorem ma_18 : mAr 18 26 (0) (23) := ⟨⟨by decide, by decide⟩, rfl, fun _ => rfl⟩
theorem ma_19 : mAr 19 700 (-2147483648) (2147483647) := ⟨⟨by decide, by decide⟩, rfl, fun _ => rfl⟩
theorem ma_20 : mAr 20 6 (0) (23) := ⟨⟨by decide, by decide⟩, rfl, fun _ => rfl⟩
theorem ma_21 : mAr 21 4 (0) (4) := ⟨⟨by decide, by decide⟩, rfl, fun _ => rfl⟩
theorem ma_22 : mAr 22 4 (0) (60) := ⟨⟨by decide, by decide⟩, rfl, fun _ => rfl⟩
theorem mal_23 : mShp 23 = .inr (2, 240) ∧ 23 ≠ 0 ∧ ∀ k, mFD 23 k = (3, 0, 0) := ⟨rfl, by decide, fun _ => rfl⟩
theorem mal_24 : mShp 24 = .inr (2, 60) ∧ 24 ≠ 0 ∧ ∀ k, mFD 24 k = (3, 0, 0) := ⟨rfl, by decide, fun _ => rfl⟩
theorem mu_2 : mCu 2 := by unfold mCu; decide
theorem mu_3 : mCu 3 := by unfold mCu; decide
theorem mu_4 : mCu 4 := by unfold mCu; decide
theorem mu_5 : mCu 5 := by unfold mCu; decide
theorem tl_i2l {x : Int32} {z : Int64} (e : z = x.toInt64) : z.toInt = x.toInt := by rw [e]; exact Int32.toInt_toInt64 x
theorem tl_cmp {x y : Int64} {z : Int32} (e : z = lg_cmp x y) : (z.toInt = -1 ∧ x.toInt < y.toInt) ∨ (z.toInt = 0 ∧ x.toInt = y.toInt) ∨ (z.toInt = 1 ∧ y.toInt < x.toInt) := by
  unfold lg_cmp at e
  split at e
  · rename_i h
    have := Int64.lt_iff_toInt_lt.mp h
    exact Or.inr (Or.inr ⟨by rw [e]; decide, this⟩)
  · rename_i h
    split at e
    · rename_i h2
      exact Or.inr (Or.inl ⟨by rw [e]; decide, by rw [h2]⟩)
    · rename_i h2
      refine Or.inl ⟨by rw [e]; decide, ?_⟩
      have a1 : ¬ y.toInt < x.toInt := fun q => h (Int64.lt_iff_toInt_lt.mpr q)
      have a2 : ¬ x.toInt = y.toInt := fun q => h2 (Int64.toInt_inj.mp q)
      omega
theorem tl_add {x y z : Int64} {a b : Int} (e : z = x + y) (hx : x.toInt = a) (hy : y.toInt = b) (h1 : -4294967296 ≤ a + b) (h2 : a + b ≤ 4294967296) : z.toInt = a + b := by
  subst e; subst hx; subst hy
  rw [Int64.toInt_add]
  exact Int.bmod_eq_of_le (by omega) (by omega)
theorem tn_div {x y z : Int32} {k : Int} (ez : z = x / y) (hy : y.toInt = k) (hx : 0 ≤ x.toInt) (hk : 0 < k) : z.toInt = x.toInt / k := by
  subst ez; subst hy
  rw [Int32.toInt_div]
  rw [Int.tdiv_eq_ediv_of_nonneg hx]
  have h1 := t_any2 x
  have h2 : x.toInt / y.toInt ≤ x.toInt := Int.ediv_le_self _ hx
  have h3 : 0 ≤ x.toInt / y.toInt := Int.ediv_nonneg hx (by omega)
  exact Int.bmod_eq_of_le (by omega) (by omega)
theorem tn_mulb {x y z : Int32} {a b : Nat} (ez : z = x * y) (h1 : 0 ≤ x.toInt) (h2 : x.toInt ≤ a) (h3 : 0 ≤ y.toInt) (h4 : y.toInt ≤ b) (h5 : a * b ≤ 2147483647) : z.toInt = x.toInt * y.toInt ∧ 0 ≤ z.toInt ∧ z.toInt ≤ ((a * b : Nat) : Int) := by
  have e1 : 0 ≤ x.toInt * y.toInt := Int.mul_nonneg h1 h3
  have e2 : x.toInt * y.toInt ≤ (a : Int) * (b : Int) := Int.mul_le_mul h2 h4 h3 (by omega)
  have e3 : ((a * b : Nat) : Int) = (a : Int) * (b : Int) := by push_cast; rfl
  have e4 : z.toInt = x.toInt * y.toInt := tn_mul ez rfl rfl (by omega) (by omega)
  exact ⟨e4, by omega, by omega⟩
theorem mV_f {Y : mY} {b k : Int} {r : Int32} (h : mV Y (ix b k) r) (hb : 0 ≤ b) (hk : 0 ≤ k) (hk2 : k < 38) : (fR k.toNat).1 ≤ r.toInt ∧ r.toInt ≤ (fR k.toNat).2 := by
  rw [← ix_div hb hk hk2]
  exact ⟨h.1, h.2.1⟩
theorem mV_l {Y : mY} {b k k' : Int} {r : Int32} (h : mV Y (ix b k) r) (e : k = k') : mV Y (ix b k') r := e ▸ h
theorem mV_r {Y : mY} {b k : Int} {r : Int32} (k0 k1 : Nat) (lo hi : Int) (h : mV Y (ix b k) r) (hb : 0 ≤ b) (h0 : (k0 : Int) ≤ k) (h1 : k ≤ (k1 : Int)) (hd : ∀ j, j < 38 → k0 ≤ j → j ≤ k1 → lo ≤ (fR j).1 ∧ (fR j).2 ≤ hi) (h38 : k1 < 38) : lo ≤ r.toInt ∧ r.toInt ≤ hi := by
  have h2 := mV_f h hb (by omega) (by omega)
  have h3 := hd k.toNat (by omega) (by omega) (by omega)
  omega
theorem mV_0 {Y : mY} {b : Int} {r : Int32} (h : mV Y (ix b 0) r) (hb : 0 ≤ b) : 0 ≤ r.toInt ∧ r.toInt ≤ 1 := mV_f h hb (by decide) (by decide)
theorem mV_1 {Y : mY} {b : Int} {r : Int32} (h : mV Y (ix b 1) r) (hb : 0 ≤ b) : 0 ≤ r.toInt ∧ r.toInt ≤ 9 := mV_f h hb (by decide) (by decide)
theorem mV_2 {Y : mY} {b : Int} {r : Int32} (h : mV Y (ix b 2) r) (hb : 0 ≤ b) : 0 ≤ r.toInt ∧ r.toInt ≤ 99 := mV_f h hb (by decide) (by decide)
theorem mV_3 {Y : mY} {b : Int} {r : Int32} (h : mV Y (ix b 3) r) (hb : 0 ≤ b) : 0 ≤ r.toInt ∧ r.toInt ≤ 99 := mV_f h hb (by decide) (by decide)
theorem mV_4 {Y : mY} {b : Int} {r : Int32} (h : mV Y (ix b 4) r) (hb : 0 ≤ b) : 0 ≤ r.toInt ∧ r.toInt ≤ 99 := mV_f h hb (by decide) (by decide)
theorem mV_5 {Y : mY} {b : Int} {r : Int32} (h : mV Y (ix b 5) r) (hb : 0 ≤ b) : 0 ≤ r.toInt ∧ r.toInt ≤ 99 := mV_f h hb (by decide) (by decide)
theorem mV_6 {Y : mY} {b : Int} {r : Int32} (h : mV Y (ix b 6) r) (hb : 0 ≤ b) : 0 ≤ r.toInt ∧ r.toInt ≤ 9 := mV_f h hb (by decide) (by decide)
theorem mV_7 {Y : mY} {b : Int} {r : Int32} (h : mV Y (ix b 7) r) (hb : 0 ≤ b) : 0 ≤ r.toInt ∧ r.toInt ≤ 99 := mV_f h hb (by decide) (by decide)
theorem mV_8 {Y : mY} {b : Int} {r : Int32} (h : mV Y (ix b 8) r) (hb : 0 ≤ b) : 0 ≤ r.toInt ∧ r.toInt ≤ 99 := mV_f h hb (by decide) (by decide)
theorem mV_9 {Y : mY} {b : Int} {r : Int32} (h : mV Y (ix b 9) r) (hb : 0 ≤ b) : -1 ≤ r.toInt ∧ r.toInt ≤ 23 := mV_f h hb (by decide) (by decide)
theorem mV_10 {Y : mY} {b : Int} {r : Int32} (h : mV Y (ix b 10) r) (hb : 0 ≤ b) : 0 ≤ r.toInt ∧ r.toInt ≤ 8 := mV_f h hb (by decide) (by decide)
theorem mV_11 {Y : mY} {b : Int} {r : Int32} (h : mV Y (ix b 11) r) (hb : 0 ≤ b) : 0 ≤ r.toInt ∧ r.toInt ≤ 23 := mV_f h hb (by decide) (by decide)
theorem mV_12 {Y : mY} {b : Int} {r : Int32} (h : mV Y (ix b 12) r) (hb : 0 ≤ b) : 0 ≤ r.toInt ∧ r.toInt ≤ 23 := mV_f h hb (by decide) (by decide)
theorem mV_13 {Y : mY} {b : Int} {r : Int32} (h : mV Y (ix b 13) r) (hb : 0 ≤ b) : 0 ≤ r.toInt ∧ r.toInt ≤ 23 := mV_f h hb (by decide) (by decide)
theorem mV_14 {Y : mY} {b : Int} {r : Int32} (h : mV Y (ix b 14) r) (hb : 0 ≤ b) : 0 ≤ r.toInt ∧ r.toInt ≤ 23 := mV_f h hb (by decide) (by decide)
theorem mV_15 {Y : mY} {b : Int} {r : Int32} (h : mV Y (ix b 15) r) (hb : 0 ≤ b) : 0 ≤ r.toInt ∧ r.toInt ≤ 23 := mV_f h hb (by decide) (by decide)
theorem mV_16 {Y : mY} {b : Int} {r : Int32} (h : mV Y (ix b 16) r) (hb : 0 ≤ b) : 0 ≤ r.toInt ∧ r.toInt ≤ 23 := mV_f h hb (by decide) (by decide)
theorem mV_17 {Y : mY} {b : Int} {r : Int32} (h : mV Y (ix b 17) r) (hb : 0 ≤ b) : 0 ≤ r.toInt ∧ r.toInt ≤ 23 := mV_f h hb (by decide) (by decide)
theorem mV_18 {Y : mY} {b : Int} {r : Int32} (h : mV Y (ix b 18) r) (hb : 0 ≤ b) : 0 ≤ r.toInt ∧ r.toInt ≤ 23 := mV_f h hb (by decide) (by decide)
theorem mV_19 {Y : mY} {b : Int} {r : Int32} (h : mV Y (ix b 19) r) (hb : 0 ≤ b) : 0 ≤ r.toInt ∧ r.toInt ≤ 1 := mV_f h hb (by decide) (by decide)
theorem mV_20 {Y : mY} {b : Int} {r : Int32} (h : mV Y (ix b 20) r) (hb : 0 ≤ b) : 0 ≤ r.toInt ∧ r.toInt ≤ 1 := mV_f h hb (by decide) (by decide)
theorem mV_21 {Y : mY} {b : Int} {r : Int32} (h : mV Y (ix b 21) r) (hb : 0 ≤ b) : 0 ≤ r.toInt ∧ r.toInt ≤ 3 := mV_f h hb (by decide) (by decide)
theorem mV_22 {Y : mY} {b : Int} {r : Int32} (h : mV Y (ix b 22) r) (hb : 0 ≤ b) : -2147483648 ≤ r.toInt ∧ r.toInt ≤ 2147483647 := mV_f h hb (by decide) (by decide)
theorem mV_23 {Y : mY} {b : Int} {r : Int32} (h : mV Y (ix b 23) r) (hb : 0 ≤ b) : -2147483648 ≤ r.toInt ∧ r.toInt ≤ 2147483647 := mV_f h hb (by decide) (by decide)
theorem mV_24 {Y : mY} {b : Int} {r : Int32} (h : mV Y (ix b 24) r) (hb : 0 ≤ b) : 0 ≤ r.toInt ∧ r.toInt ≤ 1 := mV_f h hb (by decide) (by decide)
theorem mV_25 {Y : mY} {b : Int} {r : Int32} (h : mV Y (ix b 25) r) (hb : 0 ≤ b) : 0 ≤ r.toInt ∧ r.toInt ≤ 1 := mV_f h hb (by decide) (by decide)
theorem mV_26 {Y : mY} {b : Int} {r : Int32} (h : mV Y (ix b 26) r) (hb : 0 ≤ b) : 0 ≤ r.toInt ∧ r.toInt ≤ 1000 := mV_f h hb (by decide) (by decide)
theorem mV_27 {Y : mY} {b : Int} {r : Int32} (h : mV Y (ix b 27) r) (hb : 0 ≤ b) : 0 ≤ r.toInt ∧ r.toInt ≤ 1000 := mV_f h hb (by decide) (by decide)
theorem mV_28 {Y : mY} {b : Int} {r : Int32} (h : mV Y (ix b 28) r) (hb : 0 ≤ b) : 0 ≤ r.toInt ∧ r.toInt ≤ 1000 := mV_f h hb (by decide) (by decide)
theorem mV_29 {Y : mY} {b : Int} {r : Int32} (h : mV Y (ix b 29) r) (hb : 0 ≤ b) : 0 ≤ r.toInt ∧ r.toInt ≤ 1000 := mV_f h hb (by decide) (by decide)
theorem mV_30 {Y : mY} {b : Int} {r : Int32} (h : mV Y (ix b 30) r) (hb : 0 ≤ b) : -2147483648 ≤ r.toInt ∧ r.toInt ≤ 2147483647 := mV_f h hb (by decide) (by decide)
theorem mV_31 {Y : mY} {b : Int} {r : Int32} (h : mV Y (ix b 31) r) (hb : 0 ≤ b) : -2147483648 ≤ r.toInt ∧ r.toInt ≤ 2147483647 := mV_f h hb (by decide) (by decide)
theorem mV_32 {Y : mY} {b : Int} {r : Int32} (h : mV Y (ix b 32) r) (hb : 0 ≤ b) : 0 ≤ r.toInt ∧ r.toInt ≤ 1000 := mV_f h hb (by decide) (by decide)
theorem mV_33 {Y : mY} {b : Int} {r : Int32} (h : mV Y (ix b 33) r) (hb : 0 ≤ b) : 0 ≤ r.toInt ∧ r.toInt ≤ 1000 := mV_f h hb (by decide) (by decide)
theorem mV_34 {Y : mY} {b : Int} {r : Int32} (h : mV Y (ix b 34) r) (hb : 0 ≤ b) : -2147483648 ≤ r.toInt ∧ r.toInt ≤ 2147483647 := mV_f h hb (by decide) (by decide)
theorem mV_35 {Y : mY} {b : Int} {r : Int32} (h : mV Y (ix b 35) r) (hb : 0 ≤ b) : -2147483648 ≤ r.toInt ∧ r.toInt ≤ 2147483647 := mV_f h hb (by decide) (by decide)
theorem mV_36 {Y : mY} {b : Int} {r : Int32} (h : mV Y (ix b 36) r) (hb : 0 ≤ b) : 0 ≤ r.toInt ∧ r.toInt ≤ 2 := mV_f h hb (by decide) (by decide)
theorem mV_37 {Y : mY} {b : Int} {r : Int32} (h : mV Y (ix b 37) r) (hb : 0 ≤ b) : -2147483648 ≤ r.toInt ∧ r.toInt ≤ 2147483647 := mV_f h hb (by decide) (by decide)
theorem mMk_i {t : Nat} {i : Int32} (hc : mCu t) (hm : ¬ i.toInt = 5 ∨ t = 4 ∨ t = 5) : mMk t i.toNatClampNeg = false := by
  have e : i.toNatClampNeg = i.toInt.toNat := rfl
  cases h : mMk t i.toNatClampNeg with
  | false => rfl
  | true =>
    exfalso
    unfold mMk at h
    rw [e] at h
    simp only [Bool.or_eq_true, Bool.and_eq_true, beq_iff_eq] at h
    rcases hc with z | z | z | z <;> omega
section MCN
variable {p : Program} {l : Launch} {e : Env} {R : Room} {s : State} {m : MethodId} {args : Array Value} {below : List Frame} {meth : Method} {c : Code} {H : Heap} {locs : List Loc} {Q : State → Prop}
variable {cc : ByteArray} {pc : Nat} {ls : Array Slot} {rest st0 As : List Value} {a b t k index n : Nat} {G : tG} {own : String} {nL : Nat} {Y Y0 : mY} {lo hi : Int} {i : Int32} {cells slots : Nat}
theorem mc_nastX (E : tE G p s m c args own cc nL) (hG : mGH G Y s H locs) (ha : Y.1 a = t) (hc : mCu t) (hin : vp_in i 934) (hd : nR i.toNatClampNeg = (lo, hi)) {x : Int32} (h1 : lo ≤ x.toInt) (h2 : x.toInt ≤ hi) (hdg : decode cc pc = .ok (.iastore, 1))
    (kk : ∀ (H1 : Heap) (locs1 : List Loc), mGH G (mSet Y t i.toNatClampNeg (some x)) s H1 locs1 → W p l e R s m args below meth c H1 locs1 cells slots Q (F0 m (pc + 1) ls rest)) (hm : ¬ i.toInt = 5 ∨ t = 4 ∨ t = 5 := by first | exact Or.inl (by decide) | exact Or.inl (by omega)) : W p l e R s m args below meth c H locs cells slots Q (F0 m pc ls (.int x :: .int i :: .ref a :: rest)) :=
  mc_iastG E hG ha (mCu_nz hc) (mMk_i hc hm) (mShp_cu hc) (by rw [mFD_cu hc, hd]) hin h1 h2 hdg kk
theorem mc_nast (E : tE G p s m c args own cc nL) (hG : mGH G Y s H locs) (ha : Y.1 a = t) (hc : mCu t) (hN : Y.2.2 t i.toNatClampNeg = none) (hin : vp_in i 934) (hd : nR i.toNatClampNeg = (lo, hi)) {x : Int32} (h1 : lo ≤ x.toInt) (h2 : x.toInt ≤ hi) (hdg : decode cc pc = .ok (.iastore, 1))
    (kk : ∀ (H1 : Heap) (locs1 : List Loc), mGH G Y s H1 locs1 → W p l e R s m args below meth c H1 locs1 cells slots Q (F0 m (pc + 1) ls rest)) (hm : ¬ i.toInt = 5 ∨ t = 4 ∨ t = 5 := by first | exact Or.inl (by decide) | exact Or.inl (by omega)) : W p l e R s m args below meth c H locs cells slots Q (F0 m pc ls (.int x :: .int i :: .ref a :: rest)) :=
  mc_nastX E hG ha hc hin hd h1 h2 hdg (fun H1 locs1 hG1 => kk H1 locs1 (hG1.le (mSet_none hN))) hm
end MCN
/-- the laying writes these alone -/
def mAV (Y : mY) : Prop := (∀ c k : Nat, (c = 6 ∨ c = 7 ∨ c = 8 ∨ c = 9 ∨ c = 12 ∨ c = 13 ∨ c = 14) → Y.2.2 c k = none) ∧ (∀ k : Nat, (k = 7 ∨ k = 8 ∨ k = 9 ∨ k = 20 ∨ k = 21) → Y.2.2 1 k = none) ∧ ∀ b k : Int, 0 ≤ b → b ≤ 23 → (k = 19 ∨ 21 ≤ k) → k ≤ 37 → Y.2.2 Y.2.1 (ix b k) = none

