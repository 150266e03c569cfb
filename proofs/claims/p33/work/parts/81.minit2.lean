/-! ===== the reference's constructor ===== -/
def fsX10 : List Value := [.null, .null, .null, .null, .null, .int 0, .int 0, .int 0, .int 0, .int 0, .int 0, .int 0, .null, .null, .null, .null, .null, .null, .int 0, .null, .int 0, .int 0, .null, .null, .null, .int 0, .int 0, .int 0, .null, .null, .int 0, .null, .int 0, .null, .int 0, .null, .null, .null, .null, .null]
theorem fv_X10 : ∀ j, j < 40 → defaultValue (tyX10 j) = vp_V fsX10 j := by decide
theorem fz_X10_15 : tFz RX10 15 9 1 (.array .int) := ⟨_, _, _, _, fc_X10, Nat.le_of_ble_eq_true rfl, t_w6 38 rfl rfl, rfl, rfl, rfl⟩
theorem fz_X10_18 : tFz RX10 18 9 2 (.array .int) := ⟨_, _, _, _, fc_X10, Nat.le_of_ble_eq_true rfl, t_w6 39 rfl rfl, rfl, rfl, rfl⟩
theorem fz_X10_21 : tFz RX10 21 9 3 (.array .int) := ⟨_, _, _, _, fc_X10, Nat.le_of_ble_eq_true rfl, t_w6 40 rfl rfl, rfl, rfl, rfl⟩
theorem fz_X10_24 : tFz RX10 24 9 4 (.array .int) := ⟨_, _, _, _, fc_X10, Nat.le_of_ble_eq_true rfl, t_w6 41 rfl rfl, rfl, rfl, rfl⟩
theorem fz_X10_27 : tFz RX10 27 9 12 (.array .int) := ⟨_, _, _, _, fc_X10, Nat.le_of_ble_eq_true rfl, t_w6 49 rfl rfl, rfl, rfl, rfl⟩
theorem fz_X10_30 : tFz RX10 30 9 13 (.array .int) := ⟨_, _, _, _, fc_X10, Nat.le_of_ble_eq_true rfl, t_w6 50 rfl rfl, rfl, rfl, rfl⟩
theorem fz_X10_33 : tFz RX10 33 9 14 (.array .int) := ⟨_, _, _, _, fc_X10, Nat.le_of_ble_eq_true rfl, t_w6 51 rfl rfl, rfl, rfl, rfl⟩
theorem fz_X10_36 : tFz RX10 36 9 15 (.array .int) := ⟨_, _, _, _, fc_X10, Nat.le_of_ble_eq_true rfl, t_w6 52 rfl rfl, rfl, rfl, rfl⟩
theorem fz_X10_39 : tFz RX10 39 9 16 (.array .int) := ⟨_, _, _, _, fc_X10, Nat.le_of_ble_eq_true rfl, t_w6 53 rfl rfl, rfl, rfl, rfl⟩
theorem fz_X10_42 : tFz RX10 42 9 17 (.array .int) := ⟨_, _, _, _, fc_X10, Nat.le_of_ble_eq_true rfl, t_w6 54 rfl rfl, rfl, rfl, rfl⟩
theorem fz_X10_45 : tFz RX10 45 9 19 (.array .int) := ⟨_, _, _, _, fc_X10, Nat.le_of_ble_eq_true rfl, t_w6 56 rfl rfl, rfl, rfl, rfl⟩
theorem fz_X10_48 : tFz RX10 48 9 22 (.array .int) := ⟨_, _, _, _, fc_X10, Nat.le_of_ble_eq_true rfl, t_w6 59 rfl rfl, rfl, rfl, rfl⟩
theorem fz_X10_51 : tFz RX10 51 9 23 (.array .int) := ⟨_, _, _, _, fc_X10, Nat.le_of_ble_eq_true rfl, t_w6 60 rfl rfl, rfl, rfl, rfl⟩
theorem fz_X10_54 : tFz RX10 54 9 24 (.array .int) := ⟨_, _, _, _, fc_X10, Nat.le_of_ble_eq_true rfl, t_w6 61 rfl rfl, rfl, rfl, rfl⟩
theorem fz_X10_57 : tFz RX10 57 9 28 (.array .int) := ⟨_, _, _, _, fc_X10, Nat.le_of_ble_eq_true rfl, t_w6 65 rfl rfl, rfl, rfl, rfl⟩
theorem fz_X10_60 : tFz RX10 60 9 29 (.array .int) := ⟨_, _, _, _, fc_X10, Nat.le_of_ble_eq_true rfl, t_w6 66 rfl rfl, rfl, rfl, rfl⟩
theorem fz_X10_63 : tFz RX10 63 9 31 (.array .int) := ⟨_, _, _, _, fc_X10, Nat.le_of_ble_eq_true rfl, t_w6 68 rfl rfl, rfl, rfl, rfl⟩
theorem fz_X10_66 : tFz RX10 66 9 33 (.array .int) := ⟨_, _, _, _, fc_X10, Nat.le_of_ble_eq_true rfl, t_w6 70 rfl rfl, rfl, rfl, rfl⟩
theorem fz_X10_69 : tFz RX10 69 9 35 (.array .int) := ⟨_, _, _, _, fc_X10, Nat.le_of_ble_eq_true rfl, t_w6 72 rfl rfl, rfl, rfl, rfl⟩
theorem fz_X10_72 : tFz RX10 72 9 36 (.array .int) := ⟨_, _, _, _, fc_X10, Nat.le_of_ble_eq_true rfl, t_w6 73 rfl rfl, rfl, rfl, rfl⟩
theorem fz_X10_75 : tFz RX10 75 9 37 (.array .int) := ⟨_, _, _, _, fc_X10, Nat.le_of_ble_eq_true rfl, t_w6 74 rfl rfl, rfl, rfl, rfl⟩
theorem fz_X10_78 : tFz RX10 78 9 38 (.array .long) := ⟨_, _, _, _, fc_X10, Nat.le_of_ble_eq_true rfl, t_w6 75 rfl rfl, rfl, rfl, rfl⟩
theorem fz_X10_82 : tFz RX10 82 9 39 (.array .long) := ⟨_, _, _, _, fc_X10, Nat.le_of_ble_eq_true rfl, t_w6 76 rfl rfl, rfl, rfl, rfl⟩
theorem ck_X10_init : tCm yX10_init cX10_init 1 none 0 ∧ Cond.instanceMethod yX10_init ∈ tWS := ⟨⟨t_w6 35 rfl rfl, t_w1 10 rfl rfl, by decide, by decide, by decide⟩, t_w6 34 rfl rfl⟩
theorem qX_no {a : Nat → Option (Nat → Int32)} {c k : Nat} (h : a c = none) : qX a c k = none := by unfold qX; rw [h]; split <;> rfl
theorem qX_uz {a : Nat → Option (Nat → Int32)} {c c9 k : Nat} {t : Nat → Int32} {y : Int32} (h : c ≠ c9) (e : qX (upA a c9 t) c k = some y) : qX a c k = some y := by
  unfold qX at e ⊢
  rw [upA_ne h] at e; exact e
def a3 (t u : Nat → Int32) : Nat → Option (Nat → Int32) := upA (upA (fun _ => none) 2 t) 3 u
theorem qX_st {t u : Nat → Int32} {k c j : Nat} {v y : Int32} (h : ¬ (c = 2 ∧ j = k)) (e : qX (a3 (upN t k v) u) c j = some y) : qX (a3 t u) c j = some y := by
  unfold a3 at *
  unfold qX at e ⊢
  by_cases z : c = 3
  · rw [z, upA_at] at e ⊢; exact e
  · rw [upA_ne z] at e ⊢
    by_cases w : c = 2
    · rw [w, upA_at] at e ⊢
      rw [w] at h
      by_cases q : ((2 = 2 ∨ 2 = 3 ∨ 2 = 4 ∨ 2 = 5) ∧ tr j = true) ∨ (2 = 20 ∨ 2 = 17 ∨ (2 = 1 ∧ j = 30))
      · rw [if_pos q] at e ⊢
        have e : some (upN t k v j) = some y := e
        rw [upN_ne (fun x => h ⟨rfl, x⟩)] at e
        exact e
      · rw [if_neg q] at e; cases e
    · rw [upA_ne w] at e ⊢; exact e
theorem msv_z {G : tG} {σ : Nat → Nat} {a : Nat → Option (Nat → Int32)} {c9 k : Nat} {lo hi : Int} (hd : mFD c9 k = (0, lo, hi)) (h1 : lo ≤ 0) (h2 : 0 ≤ hi) (hX : ∀ y, qX a c9 k = some y → (0 : Int32) = y) : msv G (σ, 2, qX a) c9 k (.int 0) := by
  unfold msv
  rw [hd]
  exact ⟨0, rfl, by rw [kI_0]; exact h1, by rw [kI_0]; exact h2, hX⟩
theorem qX_zz {a : Nat → Option (Nat → Int32)} {c k : Nat} {y : Int32} (h : a c = some tZ) (e : qX a c k = some y) : (0 : Int32) = y := by
  unfold qX at e
  rw [h] at e
  split at e
  · exact Option.some.inj e
  · cases e
theorem msv_l {G : tG} {Y : mY} {c9 k : Nat} (hd : mFD c9 k = (3, 0, 0)) : msv G Y c9 k (.long 0) := by
  unfold msv
  rw [hd]
  exact ⟨0, rfl⟩
theorem TI_e : TInv (upN tZ 0 (-1)) := TInv_z (by decide) (by decide) (fun b k => by
  by_cases z : ix b k = 0
  · exact Or.inr (by omega)
  · left; show (upN tZ 0 (-1) (ix b k)).toInt = 0; rw [upN_ne z]; exact kI_0)
theorem TI_f : TInv tZ := TInv_z (by decide) (by decide) (fun b k => Or.inl kI_0)
