/-! ===== the reference's constructor ===== -/
def fsX10 : List Value := [.null, .null, .null, .null, .null, .int 0, .int 0, .int 0, .int 0, .int 0, .int 0, .int 0, .null, .null, .null, .null, .null, .null, .int 0, .null, .int 0, .int 0, .null, .null, .null, .int 0, .int 0, .int 0, .null, .null, .int 0, .null, .int 0, .null, .int 0, .null, .null, .null, .null, .null]
theorem fv_X10 : ∀ j, j < 40 → defaultValue (tyX10 j) = vp_V fsX10 j := by decide
theorem fz_X10_15 : tFz RX10 15 9 1 (.array .int) := ⟨_, _, _, _, fc_X10, Nat.le_of_ble_eq_true rfl, t_w6 38 rfl rfl, rfl, rfl, rfl⟩
theorem fz_X10_18 : tFz RX10 18 9 2 (.array .int) := ⟨_, _, _, _, fc_X10, Nat.le_of_ble_eq_true rfl, t_w6 39 rfl rfl, rfl, rfl, rfl⟩
theorem fz_X10_21 : tFz RX10 21 9 3 (.array .int) := ⟨_, _, _, _, fc_X10, Nat.le_of_ble_eq_true rfl, t_w6 40 rfl rfl, rfl, rfl, rfl⟩
theorem fz_X10_24 : tFz RX10 24 9 4 (.array .int) := ⟨_, _, _, _, fc_X10, Nat.le_of_ble_eq_true rfl, t_w6 41 rfl rfl, rfl, rfl, rfl⟩
theorem fz_X10_27 : tFz RX10 27 9 12 (.array .int) := ⟨_, _, _, _, fc_X10, Nat.le_of_ble_eq_true rfl, t_w6 49 rfl rfl, rfl, rfl, rfl⟩
theorem fz_X10_30 : tFz RX10 30 9 13 (.array .int) := ⟨_, _, _, _, fc_X10, Nat.le_of_ble_eq_true rfl, t_w6 50 rfl rfl, rfl, rfl, rfl⟩
theorem fz_X10_33 : tFz RX10 33 9 14 (.array .int) := ⟨_, _, _, _, fc_X10, Nat.le_of_ble_eq_true rfl, t_w6 51 rfl rfl, rfl, rfl, rfl⟩
theorem fz_X10_36 : tFz RX10 36 9 15 (.array .int) := ⟨_, _, _, _, fc_X10, Nat.le_of_ble_eq_true rfl, t_w6 52 rfl rfl, rfl, rfl, rfl⟩
theorem fz_X10_39 : tFz RX10 39 9 16 (.array .int) := ⟨_, _, _, _, fc_X10, Nat.le_of_ble_eq_true rfl, t_w6 53 rfl rfl, rfl, rfl, rfl⟩
theorem fz_X10_42 : tFz RX10 42 9 17 (.array .int) := ⟨_, _, _, _, fc_X10, Nat.le_of_ble_eq_true rfl, t_w6 54 rfl rfl, rfl, rfl, rfl⟩
theorem fz_X10_45 : tFz RX10 45 9 19 (.array .int) := ⟨_, _, _, _, fc_X10, Nat.le_of_ble_eq_true rfl, t_w6 56 rfl rfl, rfl, rfl, rfl⟩
theorem fz_X10_48 : tFz RX10 48 9 22 (.array .int) := ⟨_, _, _, _, fc_X10, Nat.le_of_ble_eq_true rfl, t_w6 59 rfl rfl, rfl, rfl, rfl⟩
theorem fz_X10_51 : tFz RX10 51 9 23 (.array .int) := ⟨_, _, _, _, fc_X10, Nat.le_of_ble_eq_true rfl, t_w6 60 rfl rfl, rfl, rfl, rfl⟩
theorem fz_X10_54 : tFz RX10 54 9 24 (.array .int) := ⟨_, _, _, _, fc_X10, Nat.le_of_ble_eq_true rfl, t_w6 61 rfl rfl, rfl, rfl, rfl⟩
theorem fz_X10_57 : tFz RX10 57 9 28 (.array .int) := ⟨_, _, _, _, fc_X10, Nat.le_of_ble_eq_true rfl, t_w6 65 rfl rfl, rfl, rfl, rfl⟩
theorem fz_X10_60 : tFz RX10 60 9 29 (.array .int) := ⟨_, _, _, _, fc_X10, Nat.le_of_ble_eq_true rfl, t_w6 66 rfl rfl, rfl, rfl, rfl⟩
theorem fz_X10_63 : tFz RX10 63 9 31 (.array .int) := ⟨_, _, _, _, fc_X10, Nat.le_of_ble_eq_true rfl, t_w6 68 rfl rfl, rfl, rfl, rfl⟩
theorem fz_X10_66 : tFz RX10 66 9 33 (.array .int) := ⟨_, _, _, _, fc_X10, Nat.le_of_ble_eq_true rfl, t_w6 70 rfl rfl, rfl, rfl, rfl⟩
theorem fz_X10_69 : tFz RX10 69 9 35 (.array .int) := ⟨_, _, _, _, fc_X10, Nat.le_of_ble_eq_true rfl, t_w6 72 rfl rfl, rfl, rfl, rfl⟩
theorem fz_X10_72 : tFz RX10 72 9 36 (.array .int) := ⟨_, _, _, _, fc_X10, Nat.le_of_ble_eq_true rfl, t_w6 73 rfl rfl, rfl, rfl, rfl⟩
theorem fz_X10_75 : tFz RX10 75 9 37 (.array .int) := ⟨_, _, _, _, fc_X10, Nat.le_of_ble_eq_true rfl, t_w6 74 rfl rfl, rfl, rfl, rfl⟩
theorem fz_X10_78 : tFz RX10 78 9 38 (.array .long) := ⟨_, _, _, _, fc_X10, Nat.le_of_ble_eq_true rfl, t_w6 75 rfl rfl, rfl, rfl, rfl⟩
theorem fz_X10_82 : tFz RX10 82 9 39 (.array .long) := ⟨_, _, _, _, fc_X10, Nat.le_of_ble_eq_true rfl, t_w6 76 rfl rfl, rfl, rfl, rfl⟩
theorem ck_X10_init : tCm yX10_init cX10_init 1 none 0 ∧ Cond.instanceMethod yX10_init ∈ tWS := ⟨⟨t_w6 35 rfl rfl, t_w1 10 rfl rfl, by decide, by decide, by decide⟩, t_w6 34 rfl rfl⟩
theorem qX_no {a : Nat → Option (Nat → Int32)} {c k : Nat} (h : a c = none) : qX a c k = none := by unfold qX; rw [h]; split <;> rfl
theorem qX_uz {a : Nat → Option (Nat → Int32)} {c c9 k : Nat} {t : Nat → Int32} {y : Int32} (h : c ≠ c9) (e : qX (upA a c9 t) c k = some y) : qX a c k = some y := by
  unfold qX at e ⊢
  rw [upA_ne h] at e; exact e
def a3 (t u : Nat → Int32) : Nat → Option (Nat → Int32) := upA (upA (fun _ => none) 2 t) 3 u
theorem qX_st {t u : Nat → Int32} {k c j : Nat} {v y : Int32} (h : ¬ (c = 2 ∧ j = k)) (e : qX (a3 (upN t k v) u) c j = some y) : qX (a3 t u) c j = some y := by
  unfold a3 at *
  unfold qX at e ⊢
  by_cases z : c = 3
  · rw [z, upA_at] at e ⊢; exact e
  · rw [upA_ne z] at e ⊢
    by_cases w : c = 2
    · rw [w, upA_at] at e ⊢
      rw [w] at h
      by_cases q : ((2 = 2 ∨ 2 = 3 ∨ 2 = 4 ∨ 2 = 5) ∧ tr j = true) ∨ (2 = 20 ∨ 2 = 17 ∨ (2 = 1 ∧ j = 30))
      · rw [if_pos q] at e ⊢
        have e : some (upN t k v j) = some y := e
        rw [upN_ne (fun x => h ⟨rfl, x⟩)] at e
        exact e
      · rw [if_neg q] at e; cases e
    · rw [upA_ne w] at e ⊢; exact e
theorem msv_z {σ : Nat → Nat} {a : Nat → Option (Nat → Int32)} {c9 k : Nat} {lo hi : Int} (hd : mFD c9 k = (0, lo, hi)) (h1 : lo ≤ 0) (h2 : 0 ≤ hi) (hX : ∀ y, qX a c9 k = some y → (0 : Int32) = y) : msv (σ, 2, qX a) c9 k (.int 0) := by
  unfold msv
  rw [hd]
  exact ⟨0, rfl, by rw [kI_0]; exact h1, by rw [kI_0]; exact h2, hX⟩
theorem qX_zz {a : Nat → Option (Nat → Int32)} {c k : Nat} {y : Int32} (h : a c = some tZ) (e : qX a c k = some y) : (0 : Int32) = y := by
  unfold qX at e
  rw [h] at e
  split at e
  · exact Option.some.inj e
  · cases e
theorem msv_l {Y : mY} {c9 k : Nat} (hd : mFD c9 k = (3, 0, 0)) : msv Y c9 k (.long 0) := by
  unfold msv
  rw [hd]
  exact ⟨0, rfl⟩
theorem TI_e : TInv (upN tZ 0 (-1)) := TInv_z (by decide) (by decide) (fun b k => by
  by_cases z : ix b k = 0
  · exact Or.inr (by omega)
  · left; show (upN tZ 0 (-1) (ix b k)).toInt = 0; rw [upN_ne z]; exact kI_0)
theorem TI_f : TInv tZ := TInv_z (by decide) (by decide) (fun b k => Or.inl kI_0)
theorem TI_e0 : ∀ b k : Int, 0 ≤ b → 0 ≤ k → K (upN tZ 0 (-1)) b k = 0 := fun b k h1 h2 => by
  show (upN tZ 0 (-1) (ix b k)).toInt = 0
  rw [upN_ne (by unfold ix; omega)]
  exact kI_0
theorem NMS_0 : NMS (up2 (up2 (up2 (up2 (up2 (up2 (up2 (up2 (up2 (up2 (up2 (up2 (up2 (up2 (up2 (up2 (up2 (up2 (up2 (up2 (up2 (up2 (up2 (up2 (up2 (up2 (up2 (up2 (up2 (up2 (up2 (up2 (up2 (up2 (up2 (up2 (up2 (up2 (up2 (up2 (up2 (up2 (up2 (up2 (up2 (up2 (up2 (up2 (up2 (up2 (up2 (up2 (up2 (up2 (up2 (up2 (up2 (up2 (up2 (up2 (fun _ _ => 0) 16 (0 : Int32).toNatClampNeg (98 : Int32)) 16 (1 : Int32).toNatClampNeg (108 : Int32)) 16 (2 : Int32).toNatClampNeg (111 : Int32)) 16 (3 : Int32).toNatClampNeg (99 : Int32)) 16 (4 : Int32).toNatClampNeg (107 : Int32)) 16 (5 : Int32).toNatClampNeg (0 : Int32)) 16 (6 : Int32).toNatClampNeg (116 : Int32)) 16 (7 : Int32).toNatClampNeg (101 : Int32)) 16 (8 : Int32).toNatClampNeg (120 : Int32)) 16 (9 : Int32).toNatClampNeg (116 : Int32)) 16 (10 : Int32).toNatClampNeg (0 : Int32)) 16 (11 : Int32).toNatClampNeg (0 : Int32)) 16 (12 : Int32).toNatClampNeg (112 : Int32)) 16 (13 : Int32).toNatClampNeg (97 : Int32)) 16 (14 : Int32).toNatClampNeg (100 : Int32)) 16 (15 : Int32).toNatClampNeg (0 : Int32)) 16 (16 : Int32).toNatClampNeg (0 : Int32)) 16 (17 : Int32).toNatClampNeg (0 : Int32)) 16 (18 : Int32).toNatClampNeg (108 : Int32)) 16 (19 : Int32).toNatClampNeg (105 : Int32)) 16 (20 : Int32).toNatClampNeg (109 : Int32)) 16 (21 : Int32).toNatClampNeg (105 : Int32)) 16 (22 : Int32).toNatClampNeg (116 : Int32)) 16 (23 : Int32).toNatClampNeg (0 : Int32)) 16 (24 : Int32).toNatClampNeg (99 : Int32)) 16 (25 : Int32).toNatClampNeg (101 : Int32)) 16 (26 : Int32).toNatClampNeg (110 : Int32)) 16 (27 : Int32).toNatClampNeg (116 : Int32)) 16 (28 : Int32).toNatClampNeg (114 : Int32)) 16 (29 : Int32).toNatClampNeg (101 : Int32)) 16 (30 : Int32).toNatClampNeg (102 : Int32)) 16 (31 : Int32).toNatClampNeg (105 : Int32)) 16 (32 : Int32).toNatClampNeg (116 : Int32)) 16 (33 : Int32).toNatClampNeg (0 : Int32)) 16 (34 : Int32).toNatClampNeg (0 : Int32)) 16 (35 : Int32).toNatClampNeg (0 : Int32)) 16 (36 : Int32).toNatClampNeg (114 : Int32)) 16 (37 : Int32).toNatClampNeg (97 : Int32)) 16 (38 : Int32).toNatClampNeg (116 : Int32)) 16 (39 : Int32).toNatClampNeg (105 : Int32)) 16 (40 : Int32).toNatClampNeg (111 : Int32)) 16 (41 : Int32).toNatClampNeg (0 : Int32)) 16 (42 : Int32).toNatClampNeg (108 : Int32)) 16 (43 : Int32).toNatClampNeg (97 : Int32)) 16 (44 : Int32).toNatClampNeg (121 : Int32)) 16 (45 : Int32).toNatClampNeg (101 : Int32)) 16 (46 : Int32).toNatClampNeg (114 : Int32)) 16 (47 : Int32).toNatClampNeg (115 : Int32)) 16 (48 : Int32).toNatClampNeg (114 : Int32)) 16 (49 : Int32).toNatClampNeg (111 : Int32)) 16 (50 : Int32).toNatClampNeg (119 : Int32)) 16 (51 : Int32).toNatClampNeg (0 : Int32)) 16 (52 : Int32).toNatClampNeg (0 : Int32)) 16 (53 : Int32).toNatClampNeg (0 : Int32)) 16 (54 : Int32).toNatClampNeg (99 : Int32)) 16 (55 : Int32).toNatClampNeg (111 : Int32)) 16 (56 : Int32).toNatClampNeg (108 : Int32)) 16 (57 : Int32).toNatClampNeg (117 : Int32)) 16 (58 : Int32).toNatClampNeg (109 : Int32)) 16 (59 : Int32).toNatClampNeg (110 : Int32)) := by
  have h : ∀ k : Nat, k < 10 → ∀ j : Nat, j < 6 → ((up2 (up2 (up2 (up2 (up2 (up2 (up2 (up2 (up2 (up2 (up2 (up2 (up2 (up2 (up2 (up2 (up2 (up2 (up2 (up2 (up2 (up2 (up2 (up2 (up2 (up2 (up2 (up2 (up2 (up2 (up2 (up2 (up2 (up2 (up2 (up2 (up2 (up2 (up2 (up2 (up2 (up2 (up2 (up2 (up2 (up2 (up2 (up2 (up2 (up2 (up2 (up2 (up2 (up2 (up2 (up2 (up2 (up2 (up2 (up2 (fun _ _ => 0) 16 (0 : Int32).toNatClampNeg (98 : Int32)) 16 (1 : Int32).toNatClampNeg (108 : Int32)) 16 (2 : Int32).toNatClampNeg (111 : Int32)) 16 (3 : Int32).toNatClampNeg (99 : Int32)) 16 (4 : Int32).toNatClampNeg (107 : Int32)) 16 (5 : Int32).toNatClampNeg (0 : Int32)) 16 (6 : Int32).toNatClampNeg (116 : Int32)) 16 (7 : Int32).toNatClampNeg (101 : Int32)) 16 (8 : Int32).toNatClampNeg (120 : Int32)) 16 (9 : Int32).toNatClampNeg (116 : Int32)) 16 (10 : Int32).toNatClampNeg (0 : Int32)) 16 (11 : Int32).toNatClampNeg (0 : Int32)) 16 (12 : Int32).toNatClampNeg (112 : Int32)) 16 (13 : Int32).toNatClampNeg (97 : Int32)) 16 (14 : Int32).toNatClampNeg (100 : Int32)) 16 (15 : Int32).toNatClampNeg (0 : Int32)) 16 (16 : Int32).toNatClampNeg (0 : Int32)) 16 (17 : Int32).toNatClampNeg (0 : Int32)) 16 (18 : Int32).toNatClampNeg (108 : Int32)) 16 (19 : Int32).toNatClampNeg (105 : Int32)) 16 (20 : Int32).toNatClampNeg (109 : Int32)) 16 (21 : Int32).toNatClampNeg (105 : Int32)) 16 (22 : Int32).toNatClampNeg (116 : Int32)) 16 (23 : Int32).toNatClampNeg (0 : Int32)) 16 (24 : Int32).toNatClampNeg (99 : Int32)) 16 (25 : Int32).toNatClampNeg (101 : Int32)) 16 (26 : Int32).toNatClampNeg (110 : Int32)) 16 (27 : Int32).toNatClampNeg (116 : Int32)) 16 (28 : Int32).toNatClampNeg (114 : Int32)) 16 (29 : Int32).toNatClampNeg (101 : Int32)) 16 (30 : Int32).toNatClampNeg (102 : Int32)) 16 (31 : Int32).toNatClampNeg (105 : Int32)) 16 (32 : Int32).toNatClampNeg (116 : Int32)) 16 (33 : Int32).toNatClampNeg (0 : Int32)) 16 (34 : Int32).toNatClampNeg (0 : Int32)) 16 (35 : Int32).toNatClampNeg (0 : Int32)) 16 (36 : Int32).toNatClampNeg (114 : Int32)) 16 (37 : Int32).toNatClampNeg (97 : Int32)) 16 (38 : Int32).toNatClampNeg (116 : Int32)) 16 (39 : Int32).toNatClampNeg (105 : Int32)) 16 (40 : Int32).toNatClampNeg (111 : Int32)) 16 (41 : Int32).toNatClampNeg (0 : Int32)) 16 (42 : Int32).toNatClampNeg (108 : Int32)) 16 (43 : Int32).toNatClampNeg (97 : Int32)) 16 (44 : Int32).toNatClampNeg (121 : Int32)) 16 (45 : Int32).toNatClampNeg (101 : Int32)) 16 (46 : Int32).toNatClampNeg (114 : Int32)) 16 (47 : Int32).toNatClampNeg (115 : Int32)) 16 (48 : Int32).toNatClampNeg (114 : Int32)) 16 (49 : Int32).toNatClampNeg (111 : Int32)) 16 (50 : Int32).toNatClampNeg (119 : Int32)) 16 (51 : Int32).toNatClampNeg (0 : Int32)) 16 (52 : Int32).toNatClampNeg (0 : Int32)) 16 (53 : Int32).toNatClampNeg (0 : Int32)) 16 (54 : Int32).toNatClampNeg (99 : Int32)) 16 (55 : Int32).toNatClampNeg (111 : Int32)) 16 (56 : Int32).toNatClampNeg (108 : Int32)) 16 (57 : Int32).toNatClampNeg (117 : Int32)) 16 (58 : Int32).toNatClampNeg (109 : Int32)) 16 (59 : Int32).toNatClampNeg (110 : Int32)) 16 (6 * k + j)).toInt = nml k j := by decide +kernel
  exact fun k j hk hj => h k hk j hj
set_option maxHeartbeats 8000000 in
set_option maxRecDepth 100000 in
theorem k_X10_init {l : Launch} {G : tG} {τ : Nat → Nat} {h sz : Nat} : Met l yX10_init (.code yX10_init cX10_init 1 none :: tWS) { frames := 1, cells := 23, slots := 5730, locals := 12 } (va_Pc (.ref h :: []) (tCP G τ h sz 9 fsX10)) (mIQ G h sz) 23 5730 (tCA h sz) := by
  refine cg_met rfl rfl (Nat.le_of_ble_eq_true rfl) ?_
  intro p e s m below meth c E hNs hin hr hlk hsz hC ls hl
  have hx := E.1
  have hb := E.2.1
  have hτ := hC.2.1
  generalize hH : s.heap = H at hC ⊢
  generalize hL : ([] : List Loc) = locs at hC ⊢
  have hC : tCG G τ τ s h 9 [.null, .null, .null, .null, .null, .int 0, .int 0, .int 0, .int 0, .int 0, .int 0, .int 0, .null, .null, .null, .null, .null, .null, .int 0, .null, .int 0, .int 0, .null, .null, .null, .int 0, .int 0, .int 0, .null, .null, .int 0, .null, .int 0, .null, .int 0, .null, .null, .null, .null, .null] H locs := hC
  have hM : mC G (kM G (fun _ _ => 0)) (fun _ => 0) (fun _ => none) s.heap.size 1 H := mC_0
  refine lv_aload_n hx hb dX10_init_0 rfl (lv_at hl 0 rfl) ?_
  refine cg_obj E hl.1 (t_w6 36 rfl rfl) ko_1 ko_2 ⟨Nat.le_of_ble_eq_true rfl, Nat.le_of_ble_eq_true rfl⟩ dX10_init_1 ?_
  refine lv_aload_n hx hb dX10_init_4 rfl (lv_at hl 0 rfl) ?_
  refine lv_sipush (v := 934) hx hb dX10_init_5 (by decide) ?_
  refine mi_newa (a' := (upA (fun _ => none) 2 tZ)) E hC hM (atype := .int) (ak := 0) (c9 := 2) (t_w1 113 rfl rfl) rfl (by decide) (by decide) (fun _ _ _ h e => qX_uz h e) (fun _ k => msv_z (mFD_cu mu_2) (nR_z k).1 (nR_z k).2 (fun y hy => qX_zz (a := (upA (fun _ => none) 2 tZ)) rfl hy)) (fun _ _ => rfl) (by decide) (by decide) (Nat.le_of_ble_eq_true rfl) (Nat.le_of_ble_eq_true rfl) (Nat.le_of_ble_eq_true rfl) (fun cA hc => Option.some.inj (hc.symm.trans (E.2.2.2.2.2.2 0 (G.2.1 0, .int) rfl).2)) dX10_init_8 (fun q2 σ2 H1 hC hM g2 hup => ?_)
  refine cg_put E hC fq_X10_9 rfl rfl dX10_init_10 (fun H1 locs hC ho hzs => ?_)
  have hC : tCG G τ τ s h 9 [.ref q2, .null, .null, .null, .null, .int 0, .int 0, .int 0, .int 0, .int 0, .int 0, .int 0, .null, .null, .null, .null, .null, .null, .int 0, .null, .int 0, .int 0, .null, .null, .null, .int 0, .int 0, .int 0, .null, .null, .int 0, .null, .int 0, .null, .int 0, .null, .null, .null, .null, .null] H1 locs := hC
  have hM := mi_set hM hC.2.2.2.2.2.1 hzs ho
  refine lv_aload_n hx hb dX10_init_13 rfl (lv_at hl 0 rfl) ?_
  refine lv_aload_n hx hb dX10_init_14 rfl (lv_at hl 0 rfl) ?_
  refine cg_get E hC ff_X10_9 (v := .ref q2) rfl dX10_init_15 ?_
  refine cg_putF E hin hC fz_X10_15 rfl rfl dX10_init_18 (fun H1 locs hC ho hzs => ?_)
  have hC : tCG G τ τ s h 9 [.ref q2, .ref q2, .null, .null, .null, .int 0, .int 0, .int 0, .int 0, .int 0, .int 0, .int 0, .null, .null, .null, .null, .null, .null, .int 0, .null, .int 0, .int 0, .null, .null, .null, .int 0, .int 0, .int 0, .null, .null, .int 0, .null, .int 0, .null, .int 0, .null, .null, .null, .null, .null] H1 locs := hC
  have hM := mi_set hM hC.2.2.2.2.2.1 hzs ho
  refine lv_aload_n hx hb dX10_init_21 rfl (lv_at hl 0 rfl) ?_
  refine lv_sipush (v := 934) hx hb dX10_init_22 (by decide) ?_
  refine mi_newa (a' := (a3 tZ tZ)) E hC hM (atype := .int) (ak := 0) (c9 := 3) (t_w1 113 rfl rfl) rfl (by decide) (by decide) (fun _ _ _ h e => qX_uz h e) (fun _ k => msv_z (mFD_cu mu_3) (nR_z k).1 (nR_z k).2 (fun y hy => qX_zz (a := (a3 tZ tZ)) rfl hy)) (fun _ _ => rfl) (by decide) (by decide) (Nat.le_of_ble_eq_true rfl) (Nat.le_of_ble_eq_true rfl) (Nat.le_of_ble_eq_true rfl) (fun cA hc => Option.some.inj (hc.symm.trans (E.2.2.2.2.2.2 0 (G.2.1 0, .int) rfl).2)) dX10_init_25 (fun q3 σ3 H1 hC hM g3 hup => ?_)
  have g2 := (hup _ (by rw [g2]; decide)).trans g2
  refine cg_putF E hin hC fz_X10_18 rfl rfl dX10_init_27 (fun H1 locs hC ho hzs => ?_)
  have hC : tCG G τ τ s h 9 [.ref q2, .ref q2, .ref q3, .null, .null, .int 0, .int 0, .int 0, .int 0, .int 0, .int 0, .int 0, .null, .null, .null, .null, .null, .null, .int 0, .null, .int 0, .int 0, .null, .null, .null, .int 0, .int 0, .int 0, .null, .null, .int 0, .null, .int 0, .null, .int 0, .null, .null, .null, .null, .null] H1 locs := hC
  have hM := mi_set hM hC.2.2.2.2.2.1 hzs ho
  refine lv_aload_n hx hb dX10_init_30 rfl (lv_at hl 0 rfl) ?_
  refine lv_sipush (v := 934) hx hb dX10_init_31 (by decide) ?_
  refine mi_newa (a' := (a3 tZ tZ)) E hC hM (atype := .int) (ak := 0) (c9 := 4) (t_w1 113 rfl rfl) rfl (by decide) (by decide) (fun _ _ _ _ e => e) (fun _ k => msv_z (mFD_cu mu_4) (nR_z k).1 (nR_z k).2 (fun y hy => by rw [qX_no (a := (a3 tZ tZ)) rfl] at hy; cases hy)) (fun _ => mKn_no (mMk_t rfl)) (by decide) (by decide) (Nat.le_of_ble_eq_true rfl) (Nat.le_of_ble_eq_true rfl) (Nat.le_of_ble_eq_true rfl) (fun cA hc => Option.some.inj (hc.symm.trans (E.2.2.2.2.2.2 0 (G.2.1 0, .int) rfl).2)) dX10_init_34 (fun q4 σ4 H1 hC hM g4 hup => ?_)
  have g2 := (hup _ (by rw [g2]; decide)).trans g2
  have g3 := (hup _ (by rw [g3]; decide)).trans g3
  refine cg_putF E hin hC fz_X10_21 rfl rfl dX10_init_36 (fun H1 locs hC ho hzs => ?_)
  have hC : tCG G τ τ s h 9 [.ref q2, .ref q2, .ref q3, .ref q4, .null, .int 0, .int 0, .int 0, .int 0, .int 0, .int 0, .int 0, .null, .null, .null, .null, .null, .null, .int 0, .null, .int 0, .int 0, .null, .null, .null, .int 0, .int 0, .int 0, .null, .null, .int 0, .null, .int 0, .null, .int 0, .null, .null, .null, .null, .null] H1 locs := hC
  have hM := mi_set hM hC.2.2.2.2.2.1 hzs ho
  refine lv_aload_n hx hb dX10_init_39 rfl (lv_at hl 0 rfl) ?_
  refine lv_sipush (v := 934) hx hb dX10_init_40 (by decide) ?_
  refine mi_newa (a' := (a3 tZ tZ)) E hC hM (atype := .int) (ak := 0) (c9 := 5) (t_w1 113 rfl rfl) rfl (by decide) (by decide) (fun _ _ _ _ e => e) (fun _ k => msv_z (mFD_cu mu_5) (nR_z k).1 (nR_z k).2 (fun y hy => by rw [qX_no (a := (a3 tZ tZ)) rfl] at hy; cases hy)) (fun _ => mKn_no (mMk_t rfl)) (by decide) (by decide) (Nat.le_of_ble_eq_true rfl) (Nat.le_of_ble_eq_true rfl) (Nat.le_of_ble_eq_true rfl) (fun cA hc => Option.some.inj (hc.symm.trans (E.2.2.2.2.2.2 0 (G.2.1 0, .int) rfl).2)) dX10_init_43 (fun q5 σ5 H1 hC hM g5 hup => ?_)
  have g2 := (hup _ (by rw [g2]; decide)).trans g2
  have g3 := (hup _ (by rw [g3]; decide)).trans g3
  have g4 := (hup _ (by rw [g4]; decide)).trans g4
  refine cg_putF E hin hC fz_X10_24 rfl rfl dX10_init_45 (fun H1 locs hC ho hzs => ?_)
  have hC : tCG G τ τ s h 9 [.ref q2, .ref q2, .ref q3, .ref q4, .ref q5, .int 0, .int 0, .int 0, .int 0, .int 0, .int 0, .int 0, .null, .null, .null, .null, .null, .null, .int 0, .null, .int 0, .int 0, .null, .null, .null, .int 0, .int 0, .int 0, .null, .null, .int 0, .null, .int 0, .null, .int 0, .null, .null, .null, .null, .null] H1 locs := hC
  have hM := mi_set hM hC.2.2.2.2.2.1 hzs ho
  refine lv_aload_n hx hb dX10_init_48 rfl (lv_at hl 0 rfl) ?_
  refine lv_bipush (v := 30) hx hb dX10_init_49 (by decide) ?_
  refine mi_newa (a' := (a3 tZ tZ)) E hC hM (atype := .int) (ak := 0) (c9 := 6) (t_w1 113 rfl rfl) rfl (by decide) (by decide) (fun _ _ _ _ e => e) (fun _ k => msv_z (ma_6.2.2 k) (by decide) (by decide) (fun y hy => by rw [qX_no (a := (a3 tZ tZ)) rfl] at hy; cases hy)) (fun _ => mKn_no (mMk_t rfl)) (by decide) (by decide) (Nat.le_of_ble_eq_true rfl) (Nat.le_of_ble_eq_true rfl) (Nat.le_of_ble_eq_true rfl) (fun cA hc => Option.some.inj (hc.symm.trans (E.2.2.2.2.2.2 0 (G.2.1 0, .int) rfl).2)) dX10_init_51 (fun q6 σ6 H1 hC hM g6 hup => ?_)
  have g2 := (hup _ (by rw [g2]; decide)).trans g2
  have g3 := (hup _ (by rw [g3]; decide)).trans g3
  have g4 := (hup _ (by rw [g4]; decide)).trans g4
  have g5 := (hup _ (by rw [g5]; decide)).trans g5
  refine cg_putF E hin hC fz_X10_27 rfl rfl dX10_init_53 (fun H1 locs hC ho hzs => ?_)
  have hC : tCG G τ τ s h 9 [.ref q2, .ref q2, .ref q3, .ref q4, .ref q5, .int 0, .int 0, .int 0, .int 0, .int 0, .int 0, .int 0, .ref q6, .null, .null, .null, .null, .null, .int 0, .null, .int 0, .int 0, .null, .null, .null, .int 0, .int 0, .int 0, .null, .null, .int 0, .null, .int 0, .null, .int 0, .null, .null, .null, .null, .null] H1 locs := hC
  have hM := mi_set hM hC.2.2.2.2.2.1 hzs ho
  refine lv_aload_n hx hb dX10_init_56 rfl (lv_at hl 0 rfl) ?_
  refine lv_bipush (v := 30) hx hb dX10_init_57 (by decide) ?_
  refine mi_newa (a' := (a3 tZ tZ)) E hC hM (atype := .int) (ak := 0) (c9 := 7) (t_w1 113 rfl rfl) rfl (by decide) (by decide) (fun _ _ _ _ e => e) (fun _ k => msv_z (ma_7.2.2 k) (by decide) (by decide) (fun y hy => by rw [qX_no (a := (a3 tZ tZ)) rfl] at hy; cases hy)) (fun _ => mKn_no (mMk_t rfl)) (by decide) (by decide) (Nat.le_of_ble_eq_true rfl) (Nat.le_of_ble_eq_true rfl) (Nat.le_of_ble_eq_true rfl) (fun cA hc => Option.some.inj (hc.symm.trans (E.2.2.2.2.2.2 0 (G.2.1 0, .int) rfl).2)) dX10_init_59 (fun q7 σ7 H1 hC hM g7 hup => ?_)
  have g2 := (hup _ (by rw [g2]; decide)).trans g2
  have g3 := (hup _ (by rw [g3]; decide)).trans g3
  have g4 := (hup _ (by rw [g4]; decide)).trans g4
  have g5 := (hup _ (by rw [g5]; decide)).trans g5
  have g6 := (hup _ (by rw [g6]; decide)).trans g6
  refine cg_putF E hin hC fz_X10_30 rfl rfl dX10_init_61 (fun H1 locs hC ho hzs => ?_)
  have hC : tCG G τ τ s h 9 [.ref q2, .ref q2, .ref q3, .ref q4, .ref q5, .int 0, .int 0, .int 0, .int 0, .int 0, .int 0, .int 0, .ref q6, .ref q7, .null, .null, .null, .null, .int 0, .null, .int 0, .int 0, .null, .null, .null, .int 0, .int 0, .int 0, .null, .null, .int 0, .null, .int 0, .null, .int 0, .null, .null, .null, .null, .null] H1 locs := hC
  have hM := mi_set hM hC.2.2.2.2.2.1 hzs ho
  refine lv_aload_n hx hb dX10_init_64 rfl (lv_at hl 0 rfl) ?_
  refine lv_bipush (v := 30) hx hb dX10_init_65 (by decide) ?_
  refine mi_newa (a' := (a3 tZ tZ)) E hC hM (atype := .int) (ak := 0) (c9 := 8) (t_w1 113 rfl rfl) rfl (by decide) (by decide) (fun _ _ _ _ e => e) (fun _ k => msv_z (ma_8.2.2 k) (by decide) (by decide) (fun y hy => by rw [qX_no (a := (a3 tZ tZ)) rfl] at hy; cases hy)) (fun _ => mKn_no (mMk_t rfl)) (by decide) (by decide) (Nat.le_of_ble_eq_true rfl) (Nat.le_of_ble_eq_true rfl) (Nat.le_of_ble_eq_true rfl) (fun cA hc => Option.some.inj (hc.symm.trans (E.2.2.2.2.2.2 0 (G.2.1 0, .int) rfl).2)) dX10_init_67 (fun q8 σ8 H1 hC hM g8 hup => ?_)
  have g2 := (hup _ (by rw [g2]; decide)).trans g2
  have g3 := (hup _ (by rw [g3]; decide)).trans g3
  have g4 := (hup _ (by rw [g4]; decide)).trans g4
  have g5 := (hup _ (by rw [g5]; decide)).trans g5
  have g6 := (hup _ (by rw [g6]; decide)).trans g6
  have g7 := (hup _ (by rw [g7]; decide)).trans g7
  refine cg_putF E hin hC fz_X10_33 rfl rfl dX10_init_69 (fun H1 locs hC ho hzs => ?_)
  have hC : tCG G τ τ s h 9 [.ref q2, .ref q2, .ref q3, .ref q4, .ref q5, .int 0, .int 0, .int 0, .int 0, .int 0, .int 0, .int 0, .ref q6, .ref q7, .ref q8, .null, .null, .null, .int 0, .null, .int 0, .int 0, .null, .null, .null, .int 0, .int 0, .int 0, .null, .null, .int 0, .null, .int 0, .null, .int 0, .null, .null, .null, .null, .null] H1 locs := hC
  have hM := mi_set hM hC.2.2.2.2.2.1 hzs ho
  refine lv_aload_n hx hb dX10_init_72 rfl (lv_at hl 0 rfl) ?_
  refine lv_bipush (v := 30) hx hb dX10_init_73 (by decide) ?_
  refine mi_newa (a' := (a3 tZ tZ)) E hC hM (atype := .int) (ak := 0) (c9 := 9) (t_w1 113 rfl rfl) rfl (by decide) (by decide) (fun _ _ _ _ e => e) (fun _ k => msv_z (ma_9.2.2 k) (by decide) (by decide) (fun y hy => by rw [qX_no (a := (a3 tZ tZ)) rfl] at hy; cases hy)) (fun _ => mKn_no (mMk_t rfl)) (by decide) (by decide) (Nat.le_of_ble_eq_true rfl) (Nat.le_of_ble_eq_true rfl) (Nat.le_of_ble_eq_true rfl) (fun cA hc => Option.some.inj (hc.symm.trans (E.2.2.2.2.2.2 0 (G.2.1 0, .int) rfl).2)) dX10_init_75 (fun q9 σ9 H1 hC hM g9 hup => ?_)
  have g2 := (hup _ (by rw [g2]; decide)).trans g2
  have g3 := (hup _ (by rw [g3]; decide)).trans g3
  have g4 := (hup _ (by rw [g4]; decide)).trans g4
  have g5 := (hup _ (by rw [g5]; decide)).trans g5
  have g6 := (hup _ (by rw [g6]; decide)).trans g6
  have g7 := (hup _ (by rw [g7]; decide)).trans g7
  have g8 := (hup _ (by rw [g8]; decide)).trans g8
  refine cg_putF E hin hC fz_X10_36 rfl rfl dX10_init_77 (fun H1 locs hC ho hzs => ?_)
  have hC : tCG G τ τ s h 9 [.ref q2, .ref q2, .ref q3, .ref q4, .ref q5, .int 0, .int 0, .int 0, .int 0, .int 0, .int 0, .int 0, .ref q6, .ref q7, .ref q8, .ref q9, .null, .null, .int 0, .null, .int 0, .int 0, .null, .null, .null, .int 0, .int 0, .int 0, .null, .null, .int 0, .null, .int 0, .null, .int 0, .null, .null, .null, .null, .null] H1 locs := hC
  have hM := mi_set hM hC.2.2.2.2.2.1 hzs ho
  refine lv_aload_n hx hb dX10_init_80 rfl (lv_at hl 0 rfl) ?_
  refine lv_bipush (v := 30) hx hb dX10_init_81 (by decide) ?_
  refine mi_newa (a' := (a3 tZ tZ)) E hC hM (atype := .int) (ak := 0) (c9 := 10) (t_w1 113 rfl rfl) rfl (by decide) (by decide) (fun _ _ _ _ e => e) (fun _ k => msv_z (ma_10.2.2 k) (by decide) (by decide) (fun y hy => by rw [qX_no (a := (a3 tZ tZ)) rfl] at hy; cases hy)) (fun _ => mKn_no (mMk_t rfl)) (by decide) (by decide) (Nat.le_of_ble_eq_true rfl) (Nat.le_of_ble_eq_true rfl) (Nat.le_of_ble_eq_true rfl) (fun cA hc => Option.some.inj (hc.symm.trans (E.2.2.2.2.2.2 0 (G.2.1 0, .int) rfl).2)) dX10_init_83 (fun q10 σ10 H1 hC hM g10 hup => ?_)
  have g2 := (hup _ (by rw [g2]; decide)).trans g2
  have g3 := (hup _ (by rw [g3]; decide)).trans g3
  have g4 := (hup _ (by rw [g4]; decide)).trans g4
  have g5 := (hup _ (by rw [g5]; decide)).trans g5
  have g6 := (hup _ (by rw [g6]; decide)).trans g6
  have g7 := (hup _ (by rw [g7]; decide)).trans g7
  have g8 := (hup _ (by rw [g8]; decide)).trans g8
  have g9 := (hup _ (by rw [g9]; decide)).trans g9
  refine cg_putF E hin hC fz_X10_39 rfl rfl dX10_init_85 (fun H1 locs hC ho hzs => ?_)
  have hC : tCG G τ τ s h 9 [.ref q2, .ref q2, .ref q3, .ref q4, .ref q5, .int 0, .int 0, .int 0, .int 0, .int 0, .int 0, .int 0, .ref q6, .ref q7, .ref q8, .ref q9, .ref q10, .null, .int 0, .null, .int 0, .int 0, .null, .null, .null, .int 0, .int 0, .int 0, .null, .null, .int 0, .null, .int 0, .null, .int 0, .null, .null, .null, .null, .null] H1 locs := hC
  have hM := mi_set hM hC.2.2.2.2.2.1 hzs ho
  refine lv_aload_n hx hb dX10_init_88 rfl (lv_at hl 0 rfl) ?_
  refine lv_bipush (v := 24) hx hb dX10_init_89 (by decide) ?_
  refine mi_newa (a' := (a3 tZ tZ)) E hC hM (atype := .int) (ak := 0) (c9 := 11) (t_w1 113 rfl rfl) rfl (by decide) (by decide) (fun _ _ _ _ e => e) (fun _ k => msv_z (ma_11.2.2 k) (by decide) (by decide) (fun y hy => by rw [qX_no (a := (a3 tZ tZ)) rfl] at hy; cases hy)) (fun _ => mKn_no (mMk_t rfl)) (by decide) (by decide) (Nat.le_of_ble_eq_true rfl) (Nat.le_of_ble_eq_true rfl) (Nat.le_of_ble_eq_true rfl) (fun cA hc => Option.some.inj (hc.symm.trans (E.2.2.2.2.2.2 0 (G.2.1 0, .int) rfl).2)) dX10_init_91 (fun q11 σ11 H1 hC hM g11 hup => ?_)
  have g2 := (hup _ (by rw [g2]; decide)).trans g2
  have g3 := (hup _ (by rw [g3]; decide)).trans g3
  have g4 := (hup _ (by rw [g4]; decide)).trans g4
  have g5 := (hup _ (by rw [g5]; decide)).trans g5
  have g6 := (hup _ (by rw [g6]; decide)).trans g6
  have g7 := (hup _ (by rw [g7]; decide)).trans g7
  have g8 := (hup _ (by rw [g8]; decide)).trans g8
  have g9 := (hup _ (by rw [g9]; decide)).trans g9
  have g10 := (hup _ (by rw [g10]; decide)).trans g10
  refine cg_putF E hin hC fz_X10_42 rfl rfl dX10_init_93 (fun H1 locs hC ho hzs => ?_)
  have hC : tCG G τ τ s h 9 [.ref q2, .ref q2, .ref q3, .ref q4, .ref q5, .int 0, .int 0, .int 0, .int 0, .int 0, .int 0, .int 0, .ref q6, .ref q7, .ref q8, .ref q9, .ref q10, .ref q11, .int 0, .null, .int 0, .int 0, .null, .null, .null, .int 0, .int 0, .int 0, .null, .null, .int 0, .null, .int 0, .null, .int 0, .null, .null, .null, .null, .null] H1 locs := hC
  have hM := mi_set hM hC.2.2.2.2.2.1 hzs ho
  refine lv_aload_n hx hb dX10_init_96 rfl (lv_at hl 0 rfl) ?_
  refine lv_sipush (v := 192) hx hb dX10_init_97 (by decide) ?_
  refine mi_newa (a' := (a3 tZ tZ)) E hC hM (atype := .int) (ak := 0) (c9 := 12) (t_w1 113 rfl rfl) rfl (by decide) (by decide) (fun _ _ _ _ e => e) (fun _ k => msv_z (ma_12.2.2 k) (by decide) (by decide) (fun y hy => by rw [qX_no (a := (a3 tZ tZ)) rfl] at hy; cases hy)) (fun _ => mKn_no (mMk_t rfl)) (by decide) (by decide) (Nat.le_of_ble_eq_true rfl) (Nat.le_of_ble_eq_true rfl) (Nat.le_of_ble_eq_true rfl) (fun cA hc => Option.some.inj (hc.symm.trans (E.2.2.2.2.2.2 0 (G.2.1 0, .int) rfl).2)) dX10_init_100 (fun q12 σ12 H1 hC hM g12 hup => ?_)
  have g2 := (hup _ (by rw [g2]; decide)).trans g2
  have g3 := (hup _ (by rw [g3]; decide)).trans g3
  have g4 := (hup _ (by rw [g4]; decide)).trans g4
  have g5 := (hup _ (by rw [g5]; decide)).trans g5
  have g6 := (hup _ (by rw [g6]; decide)).trans g6
  have g7 := (hup _ (by rw [g7]; decide)).trans g7
  have g8 := (hup _ (by rw [g8]; decide)).trans g8
  have g9 := (hup _ (by rw [g9]; decide)).trans g9
  have g10 := (hup _ (by rw [g10]; decide)).trans g10
  have g11 := (hup _ (by rw [g11]; decide)).trans g11
  refine cg_putF E hin hC fz_X10_45 rfl rfl dX10_init_102 (fun H1 locs hC ho hzs => ?_)
  have hC : tCG G τ τ s h 9 [.ref q2, .ref q2, .ref q3, .ref q4, .ref q5, .int 0, .int 0, .int 0, .int 0, .int 0, .int 0, .int 0, .ref q6, .ref q7, .ref q8, .ref q9, .ref q10, .ref q11, .int 0, .ref q12, .int 0, .int 0, .null, .null, .null, .int 0, .int 0, .int 0, .null, .null, .int 0, .null, .int 0, .null, .int 0, .null, .null, .null, .null, .null] H1 locs := hC
  have hM := mi_set hM hC.2.2.2.2.2.1 hzs ho
  refine lv_aload_n hx hb dX10_init_105 rfl (lv_at hl 0 rfl) ?_
  refine lv_bipush (v := 24) hx hb dX10_init_106 (by decide) ?_
  refine mi_newa (a' := (a3 tZ tZ)) E hC hM (atype := .int) (ak := 0) (c9 := 13) (t_w1 113 rfl rfl) rfl (by decide) (by decide) (fun _ _ _ _ e => e) (fun _ k => msv_z (ma_13.2.2 k) (by decide) (by decide) (fun y hy => by rw [qX_no (a := (a3 tZ tZ)) rfl] at hy; cases hy)) (fun _ => mKn_no (mMk_t rfl)) (by decide) (by decide) (Nat.le_of_ble_eq_true rfl) (Nat.le_of_ble_eq_true rfl) (Nat.le_of_ble_eq_true rfl) (fun cA hc => Option.some.inj (hc.symm.trans (E.2.2.2.2.2.2 0 (G.2.1 0, .int) rfl).2)) dX10_init_108 (fun q13 σ13 H1 hC hM g13 hup => ?_)
  have g2 := (hup _ (by rw [g2]; decide)).trans g2
  have g3 := (hup _ (by rw [g3]; decide)).trans g3
  have g4 := (hup _ (by rw [g4]; decide)).trans g4
  have g5 := (hup _ (by rw [g5]; decide)).trans g5
  have g6 := (hup _ (by rw [g6]; decide)).trans g6
  have g7 := (hup _ (by rw [g7]; decide)).trans g7
  have g8 := (hup _ (by rw [g8]; decide)).trans g8
  have g9 := (hup _ (by rw [g9]; decide)).trans g9
  have g10 := (hup _ (by rw [g10]; decide)).trans g10
  have g11 := (hup _ (by rw [g11]; decide)).trans g11
  have g12 := (hup _ (by rw [g12]; decide)).trans g12
  refine cg_putF E hin hC fz_X10_48 rfl rfl dX10_init_110 (fun H1 locs hC ho hzs => ?_)
  have hC : tCG G τ τ s h 9 [.ref q2, .ref q2, .ref q3, .ref q4, .ref q5, .int 0, .int 0, .int 0, .int 0, .int 0, .int 0, .int 0, .ref q6, .ref q7, .ref q8, .ref q9, .ref q10, .ref q11, .int 0, .ref q12, .int 0, .int 0, .ref q13, .null, .null, .int 0, .int 0, .int 0, .null, .null, .int 0, .null, .int 0, .null, .int 0, .null, .null, .null, .null, .null] H1 locs := hC
  have hM := mi_set hM hC.2.2.2.2.2.1 hzs ho
  refine lv_aload_n hx hb dX10_init_113 rfl (lv_at hl 0 rfl) ?_
  refine lv_sipush (v := 192) hx hb dX10_init_114 (by decide) ?_
  refine mi_newa (a' := (a3 tZ tZ)) E hC hM (atype := .int) (ak := 0) (c9 := 14) (t_w1 113 rfl rfl) rfl (by decide) (by decide) (fun _ _ _ _ e => e) (fun _ k => msv_z (ma_14.2.2 k) (by decide) (by decide) (fun y hy => by rw [qX_no (a := (a3 tZ tZ)) rfl] at hy; cases hy)) (fun _ => mKn_no (mMk_t rfl)) (by decide) (by decide) (Nat.le_of_ble_eq_true rfl) (Nat.le_of_ble_eq_true rfl) (Nat.le_of_ble_eq_true rfl) (fun cA hc => Option.some.inj (hc.symm.trans (E.2.2.2.2.2.2 0 (G.2.1 0, .int) rfl).2)) dX10_init_117 (fun q14 σ14 H1 hC hM g14 hup => ?_)
  have g2 := (hup _ (by rw [g2]; decide)).trans g2
  have g3 := (hup _ (by rw [g3]; decide)).trans g3
  have g4 := (hup _ (by rw [g4]; decide)).trans g4
  have g5 := (hup _ (by rw [g5]; decide)).trans g5
  have g6 := (hup _ (by rw [g6]; decide)).trans g6
  have g7 := (hup _ (by rw [g7]; decide)).trans g7
  have g8 := (hup _ (by rw [g8]; decide)).trans g8
  have g9 := (hup _ (by rw [g9]; decide)).trans g9
  have g10 := (hup _ (by rw [g10]; decide)).trans g10
  have g11 := (hup _ (by rw [g11]; decide)).trans g11
  have g12 := (hup _ (by rw [g12]; decide)).trans g12
  have g13 := (hup _ (by rw [g13]; decide)).trans g13
  refine cg_putF E hin hC fz_X10_51 rfl rfl dX10_init_119 (fun H1 locs hC ho hzs => ?_)
  have hC : tCG G τ τ s h 9 [.ref q2, .ref q2, .ref q3, .ref q4, .ref q5, .int 0, .int 0, .int 0, .int 0, .int 0, .int 0, .int 0, .ref q6, .ref q7, .ref q8, .ref q9, .ref q10, .ref q11, .int 0, .ref q12, .int 0, .int 0, .ref q13, .ref q14, .null, .int 0, .int 0, .int 0, .null, .null, .int 0, .null, .int 0, .null, .int 0, .null, .null, .null, .null, .null] H1 locs := hC
  have hM := mi_set hM hC.2.2.2.2.2.1 hzs ho
  refine lv_aload_n hx hb dX10_init_122 rfl (lv_at hl 0 rfl) ?_
  refine lv_bipush (v := 120) hx hb dX10_init_123 (by decide) ?_
  refine mi_newa (a' := (a3 tZ tZ)) E hC hM (atype := .int) (ak := 0) (c9 := 15) (t_w1 113 rfl rfl) rfl (by decide) (by decide) (fun _ _ _ _ e => e) (fun _ k => msv_z (ma_15.2.2 k) (by decide) (by decide) (fun y hy => by rw [qX_no (a := (a3 tZ tZ)) rfl] at hy; cases hy)) (fun _ _ => rfl) (by decide) (by decide) (Nat.le_of_ble_eq_true rfl) (Nat.le_of_ble_eq_true rfl) (Nat.le_of_ble_eq_true rfl) (fun cA hc => Option.some.inj (hc.symm.trans (E.2.2.2.2.2.2 0 (G.2.1 0, .int) rfl).2)) dX10_init_125 (fun q15 σ15 H1 hC hM g15 hup => ?_)
  have g2 := (hup _ (by rw [g2]; decide)).trans g2
  have g3 := (hup _ (by rw [g3]; decide)).trans g3
  have g4 := (hup _ (by rw [g4]; decide)).trans g4
  have g5 := (hup _ (by rw [g5]; decide)).trans g5
  have g6 := (hup _ (by rw [g6]; decide)).trans g6
  have g7 := (hup _ (by rw [g7]; decide)).trans g7
  have g8 := (hup _ (by rw [g8]; decide)).trans g8
  have g9 := (hup _ (by rw [g9]; decide)).trans g9
  have g10 := (hup _ (by rw [g10]; decide)).trans g10
  have g11 := (hup _ (by rw [g11]; decide)).trans g11
  have g12 := (hup _ (by rw [g12]; decide)).trans g12
  have g13 := (hup _ (by rw [g13]; decide)).trans g13
  have g14 := (hup _ (by rw [g14]; decide)).trans g14
  refine cg_putF E hin hC fz_X10_54 rfl rfl dX10_init_127 (fun H1 locs hC ho hzs => ?_)
  have hC : tCG G τ τ s h 9 [.ref q2, .ref q2, .ref q3, .ref q4, .ref q5, .int 0, .int 0, .int 0, .int 0, .int 0, .int 0, .int 0, .ref q6, .ref q7, .ref q8, .ref q9, .ref q10, .ref q11, .int 0, .ref q12, .int 0, .int 0, .ref q13, .ref q14, .ref q15, .int 0, .int 0, .int 0, .null, .null, .int 0, .null, .int 0, .null, .int 0, .null, .null, .null, .null, .null] H1 locs := hC
  have hM := mi_set hM hC.2.2.2.2.2.1 hzs ho
  refine lv_aload_n hx hb dX10_init_130 rfl (lv_at hl 0 rfl) ?_
  refine lv_bipush (v := 60) hx hb dX10_init_131 (by decide) ?_
  refine mi_newa (a' := (a3 tZ tZ)) E hC hM (atype := .int) (ak := 0) (c9 := 16) (t_w1 113 rfl rfl) rfl (by decide) (by decide) (fun _ _ _ _ e => e) (fun _ k => msv_z (ma_16.2.2 k) (by decide) (by decide) (fun y hy => by rw [qX_no (a := (a3 tZ tZ)) rfl] at hy; cases hy)) (fun _ _ => rfl) (by decide) (by decide) (Nat.le_of_ble_eq_true rfl) (Nat.le_of_ble_eq_true rfl) (Nat.le_of_ble_eq_true rfl) (fun cA hc => Option.some.inj (hc.symm.trans (E.2.2.2.2.2.2 0 (G.2.1 0, .int) rfl).2)) dX10_init_133 (fun q16 σ16 H1 hC hM g16 hup => ?_)
  have g2 := (hup _ (by rw [g2]; decide)).trans g2
  have g3 := (hup _ (by rw [g3]; decide)).trans g3
  have g4 := (hup _ (by rw [g4]; decide)).trans g4
  have g5 := (hup _ (by rw [g5]; decide)).trans g5
  have g6 := (hup _ (by rw [g6]; decide)).trans g6
  have g7 := (hup _ (by rw [g7]; decide)).trans g7
  have g8 := (hup _ (by rw [g8]; decide)).trans g8
  have g9 := (hup _ (by rw [g9]; decide)).trans g9
  have g10 := (hup _ (by rw [g10]; decide)).trans g10
  have g11 := (hup _ (by rw [g11]; decide)).trans g11
  have g12 := (hup _ (by rw [g12]; decide)).trans g12
  have g13 := (hup _ (by rw [g13]; decide)).trans g13
  have g14 := (hup _ (by rw [g14]; decide)).trans g14
  have g15 := (hup _ (by rw [g15]; decide)).trans g15
  refine lv_dup hx hb dX10_init_135 rfl ?_
  refine lv_iconst (v := 0) hx hb dX10_init_136 (by decide) ?_
  refine lv_bipush (v := 98) hx hb dX10_init_137 (by decide) ?_
  refine mi_astK (a' := (a3 tZ tZ)) E hC hM hτ (c9 := 16) g16 (by decide) rfl (t_in (by decide) (by decide)) (ma_16.2.2 _) (by decide) (by decide) (fun y hy => by rw [qX_no (a := (a3 tZ tZ)) rfl] at hy; cases hy) (fun _ _ _ _ e => e) dX10_init_139 (fun H1 locs hC hM => ?_)
  refine lv_dup hx hb dX10_init_140 rfl ?_
  refine lv_iconst (v := 1) hx hb dX10_init_141 (by decide) ?_
  refine lv_bipush (v := 108) hx hb dX10_init_142 (by decide) ?_
  refine mi_astK (a' := (a3 tZ tZ)) E hC hM hτ (c9 := 16) g16 (by decide) rfl (t_in (by decide) (by decide)) (ma_16.2.2 _) (by decide) (by decide) (fun y hy => by rw [qX_no (a := (a3 tZ tZ)) rfl] at hy; cases hy) (fun _ _ _ _ e => e) dX10_init_144 (fun H1 locs hC hM => ?_)
  refine lv_dup hx hb dX10_init_145 rfl ?_
  refine lv_iconst (v := 2) hx hb dX10_init_146 (by decide) ?_
  refine lv_bipush (v := 111) hx hb dX10_init_147 (by decide) ?_
  refine mi_astK (a' := (a3 tZ tZ)) E hC hM hτ (c9 := 16) g16 (by decide) rfl (t_in (by decide) (by decide)) (ma_16.2.2 _) (by decide) (by decide) (fun y hy => by rw [qX_no (a := (a3 tZ tZ)) rfl] at hy; cases hy) (fun _ _ _ _ e => e) dX10_init_149 (fun H1 locs hC hM => ?_)
  refine lv_dup hx hb dX10_init_150 rfl ?_
  refine lv_iconst (v := 3) hx hb dX10_init_151 (by decide) ?_
  refine lv_bipush (v := 99) hx hb dX10_init_152 (by decide) ?_
  refine mi_astK (a' := (a3 tZ tZ)) E hC hM hτ (c9 := 16) g16 (by decide) rfl (t_in (by decide) (by decide)) (ma_16.2.2 _) (by decide) (by decide) (fun y hy => by rw [qX_no (a := (a3 tZ tZ)) rfl] at hy; cases hy) (fun _ _ _ _ e => e) dX10_init_154 (fun H1 locs hC hM => ?_)
  refine lv_dup hx hb dX10_init_155 rfl ?_
  refine lv_iconst (v := 4) hx hb dX10_init_156 (by decide) ?_
  refine lv_bipush (v := 107) hx hb dX10_init_157 (by decide) ?_
  refine mi_astK (a' := (a3 tZ tZ)) E hC hM hτ (c9 := 16) g16 (by decide) rfl (t_in (by decide) (by decide)) (ma_16.2.2 _) (by decide) (by decide) (fun y hy => by rw [qX_no (a := (a3 tZ tZ)) rfl] at hy; cases hy) (fun _ _ _ _ e => e) dX10_init_159 (fun H1 locs hC hM => ?_)
  refine lv_dup hx hb dX10_init_160 rfl ?_
  refine lv_iconst (v := 5) hx hb dX10_init_161 (by decide) ?_
  refine lv_iconst (v := 0) hx hb dX10_init_162 (by decide) ?_
  refine mi_astK (a' := (a3 tZ tZ)) E hC hM hτ (c9 := 16) g16 (by decide) rfl (t_in (by decide) (by decide)) (ma_16.2.2 _) (by decide) (by decide) (fun y hy => by rw [qX_no (a := (a3 tZ tZ)) rfl] at hy; cases hy) (fun _ _ _ _ e => e) dX10_init_163 (fun H1 locs hC hM => ?_)
  refine lv_dup hx hb dX10_init_164 rfl ?_
  refine lv_bipush (v := 6) hx hb dX10_init_165 (by decide) ?_
  refine lv_bipush (v := 116) hx hb dX10_init_167 (by decide) ?_
  refine mi_astK (a' := (a3 tZ tZ)) E hC hM hτ (c9 := 16) g16 (by decide) rfl (t_in (by decide) (by decide)) (ma_16.2.2 _) (by decide) (by decide) (fun y hy => by rw [qX_no (a := (a3 tZ tZ)) rfl] at hy; cases hy) (fun _ _ _ _ e => e) dX10_init_169 (fun H1 locs hC hM => ?_)
  refine lv_dup hx hb dX10_init_170 rfl ?_
  refine lv_bipush (v := 7) hx hb dX10_init_171 (by decide) ?_
  refine lv_bipush (v := 101) hx hb dX10_init_173 (by decide) ?_
  refine mi_astK (a' := (a3 tZ tZ)) E hC hM hτ (c9 := 16) g16 (by decide) rfl (t_in (by decide) (by decide)) (ma_16.2.2 _) (by decide) (by decide) (fun y hy => by rw [qX_no (a := (a3 tZ tZ)) rfl] at hy; cases hy) (fun _ _ _ _ e => e) dX10_init_175 (fun H1 locs hC hM => ?_)
  refine lv_dup hx hb dX10_init_176 rfl ?_
  refine lv_bipush (v := 8) hx hb dX10_init_177 (by decide) ?_
  refine lv_bipush (v := 120) hx hb dX10_init_179 (by decide) ?_
  refine mi_astK (a' := (a3 tZ tZ)) E hC hM hτ (c9 := 16) g16 (by decide) rfl (t_in (by decide) (by decide)) (ma_16.2.2 _) (by decide) (by decide) (fun y hy => by rw [qX_no (a := (a3 tZ tZ)) rfl] at hy; cases hy) (fun _ _ _ _ e => e) dX10_init_181 (fun H1 locs hC hM => ?_)
  refine lv_dup hx hb dX10_init_182 rfl ?_
  refine lv_bipush (v := 9) hx hb dX10_init_183 (by decide) ?_
  refine lv_bipush (v := 116) hx hb dX10_init_185 (by decide) ?_
  refine mi_astK (a' := (a3 tZ tZ)) E hC hM hτ (c9 := 16) g16 (by decide) rfl (t_in (by decide) (by decide)) (ma_16.2.2 _) (by decide) (by decide) (fun y hy => by rw [qX_no (a := (a3 tZ tZ)) rfl] at hy; cases hy) (fun _ _ _ _ e => e) dX10_init_187 (fun H1 locs hC hM => ?_)
  refine lv_dup hx hb dX10_init_188 rfl ?_
  refine lv_bipush (v := 10) hx hb dX10_init_189 (by decide) ?_
  refine lv_iconst (v := 0) hx hb dX10_init_191 (by decide) ?_
  refine mi_astK (a' := (a3 tZ tZ)) E hC hM hτ (c9 := 16) g16 (by decide) rfl (t_in (by decide) (by decide)) (ma_16.2.2 _) (by decide) (by decide) (fun y hy => by rw [qX_no (a := (a3 tZ tZ)) rfl] at hy; cases hy) (fun _ _ _ _ e => e) dX10_init_192 (fun H1 locs hC hM => ?_)
  refine lv_dup hx hb dX10_init_193 rfl ?_
  refine lv_bipush (v := 11) hx hb dX10_init_194 (by decide) ?_
  refine lv_iconst (v := 0) hx hb dX10_init_196 (by decide) ?_
  refine mi_astK (a' := (a3 tZ tZ)) E hC hM hτ (c9 := 16) g16 (by decide) rfl (t_in (by decide) (by decide)) (ma_16.2.2 _) (by decide) (by decide) (fun y hy => by rw [qX_no (a := (a3 tZ tZ)) rfl] at hy; cases hy) (fun _ _ _ _ e => e) dX10_init_197 (fun H1 locs hC hM => ?_)
  refine lv_dup hx hb dX10_init_198 rfl ?_
  refine lv_bipush (v := 12) hx hb dX10_init_199 (by decide) ?_
  refine lv_bipush (v := 112) hx hb dX10_init_201 (by decide) ?_
  refine mi_astK (a' := (a3 tZ tZ)) E hC hM hτ (c9 := 16) g16 (by decide) rfl (t_in (by decide) (by decide)) (ma_16.2.2 _) (by decide) (by decide) (fun y hy => by rw [qX_no (a := (a3 tZ tZ)) rfl] at hy; cases hy) (fun _ _ _ _ e => e) dX10_init_203 (fun H1 locs hC hM => ?_)
  refine lv_dup hx hb dX10_init_204 rfl ?_
  refine lv_bipush (v := 13) hx hb dX10_init_205 (by decide) ?_
  refine lv_bipush (v := 97) hx hb dX10_init_207 (by decide) ?_
  refine mi_astK (a' := (a3 tZ tZ)) E hC hM hτ (c9 := 16) g16 (by decide) rfl (t_in (by decide) (by decide)) (ma_16.2.2 _) (by decide) (by decide) (fun y hy => by rw [qX_no (a := (a3 tZ tZ)) rfl] at hy; cases hy) (fun _ _ _ _ e => e) dX10_init_209 (fun H1 locs hC hM => ?_)
  refine lv_dup hx hb dX10_init_210 rfl ?_
  refine lv_bipush (v := 14) hx hb dX10_init_211 (by decide) ?_
  refine lv_bipush (v := 100) hx hb dX10_init_213 (by decide) ?_
  refine mi_astK (a' := (a3 tZ tZ)) E hC hM hτ (c9 := 16) g16 (by decide) rfl (t_in (by decide) (by decide)) (ma_16.2.2 _) (by decide) (by decide) (fun y hy => by rw [qX_no (a := (a3 tZ tZ)) rfl] at hy; cases hy) (fun _ _ _ _ e => e) dX10_init_215 (fun H1 locs hC hM => ?_)
  refine lv_dup hx hb dX10_init_216 rfl ?_
  refine lv_bipush (v := 15) hx hb dX10_init_217 (by decide) ?_
  refine lv_iconst (v := 0) hx hb dX10_init_219 (by decide) ?_
  refine mi_astK (a' := (a3 tZ tZ)) E hC hM hτ (c9 := 16) g16 (by decide) rfl (t_in (by decide) (by decide)) (ma_16.2.2 _) (by decide) (by decide) (fun y hy => by rw [qX_no (a := (a3 tZ tZ)) rfl] at hy; cases hy) (fun _ _ _ _ e => e) dX10_init_220 (fun H1 locs hC hM => ?_)
  refine lv_dup hx hb dX10_init_221 rfl ?_
  refine lv_bipush (v := 16) hx hb dX10_init_222 (by decide) ?_
  refine lv_iconst (v := 0) hx hb dX10_init_224 (by decide) ?_
  refine mi_astK (a' := (a3 tZ tZ)) E hC hM hτ (c9 := 16) g16 (by decide) rfl (t_in (by decide) (by decide)) (ma_16.2.2 _) (by decide) (by decide) (fun y hy => by rw [qX_no (a := (a3 tZ tZ)) rfl] at hy; cases hy) (fun _ _ _ _ e => e) dX10_init_225 (fun H1 locs hC hM => ?_)
  refine lv_dup hx hb dX10_init_226 rfl ?_
  refine lv_bipush (v := 17) hx hb dX10_init_227 (by decide) ?_
  refine lv_iconst (v := 0) hx hb dX10_init_229 (by decide) ?_
  refine mi_astK (a' := (a3 tZ tZ)) E hC hM hτ (c9 := 16) g16 (by decide) rfl (t_in (by decide) (by decide)) (ma_16.2.2 _) (by decide) (by decide) (fun y hy => by rw [qX_no (a := (a3 tZ tZ)) rfl] at hy; cases hy) (fun _ _ _ _ e => e) dX10_init_230 (fun H1 locs hC hM => ?_)
  refine lv_dup hx hb dX10_init_231 rfl ?_
  refine lv_bipush (v := 18) hx hb dX10_init_232 (by decide) ?_
  refine lv_bipush (v := 108) hx hb dX10_init_234 (by decide) ?_
  refine mi_astK (a' := (a3 tZ tZ)) E hC hM hτ (c9 := 16) g16 (by decide) rfl (t_in (by decide) (by decide)) (ma_16.2.2 _) (by decide) (by decide) (fun y hy => by rw [qX_no (a := (a3 tZ tZ)) rfl] at hy; cases hy) (fun _ _ _ _ e => e) dX10_init_236 (fun H1 locs hC hM => ?_)
  refine lv_dup hx hb dX10_init_237 rfl ?_
  refine lv_bipush (v := 19) hx hb dX10_init_238 (by decide) ?_
  refine lv_bipush (v := 105) hx hb dX10_init_240 (by decide) ?_
  refine mi_astK (a' := (a3 tZ tZ)) E hC hM hτ (c9 := 16) g16 (by decide) rfl (t_in (by decide) (by decide)) (ma_16.2.2 _) (by decide) (by decide) (fun y hy => by rw [qX_no (a := (a3 tZ tZ)) rfl] at hy; cases hy) (fun _ _ _ _ e => e) dX10_init_242 (fun H1 locs hC hM => ?_)
  refine lv_dup hx hb dX10_init_243 rfl ?_
  refine lv_bipush (v := 20) hx hb dX10_init_244 (by decide) ?_
  refine lv_bipush (v := 109) hx hb dX10_init_246 (by decide) ?_
  refine mi_astK (a' := (a3 tZ tZ)) E hC hM hτ (c9 := 16) g16 (by decide) rfl (t_in (by decide) (by decide)) (ma_16.2.2 _) (by decide) (by decide) (fun y hy => by rw [qX_no (a := (a3 tZ tZ)) rfl] at hy; cases hy) (fun _ _ _ _ e => e) dX10_init_248 (fun H1 locs hC hM => ?_)
  refine lv_dup hx hb dX10_init_249 rfl ?_
  refine lv_bipush (v := 21) hx hb dX10_init_250 (by decide) ?_
  refine lv_bipush (v := 105) hx hb dX10_init_252 (by decide) ?_
  refine mi_astK (a' := (a3 tZ tZ)) E hC hM hτ (c9 := 16) g16 (by decide) rfl (t_in (by decide) (by decide)) (ma_16.2.2 _) (by decide) (by decide) (fun y hy => by rw [qX_no (a := (a3 tZ tZ)) rfl] at hy; cases hy) (fun _ _ _ _ e => e) dX10_init_254 (fun H1 locs hC hM => ?_)
  refine lv_dup hx hb dX10_init_255 rfl ?_
  refine lv_bipush (v := 22) hx hb dX10_init_256 (by decide) ?_
  refine lv_bipush (v := 116) hx hb dX10_init_258 (by decide) ?_
  refine mi_astK (a' := (a3 tZ tZ)) E hC hM hτ (c9 := 16) g16 (by decide) rfl (t_in (by decide) (by decide)) (ma_16.2.2 _) (by decide) (by decide) (fun y hy => by rw [qX_no (a := (a3 tZ tZ)) rfl] at hy; cases hy) (fun _ _ _ _ e => e) dX10_init_260 (fun H1 locs hC hM => ?_)
  refine lv_dup hx hb dX10_init_261 rfl ?_
  refine lv_bipush (v := 23) hx hb dX10_init_262 (by decide) ?_
  refine lv_iconst (v := 0) hx hb dX10_init_264 (by decide) ?_
  refine mi_astK (a' := (a3 tZ tZ)) E hC hM hτ (c9 := 16) g16 (by decide) rfl (t_in (by decide) (by decide)) (ma_16.2.2 _) (by decide) (by decide) (fun y hy => by rw [qX_no (a := (a3 tZ tZ)) rfl] at hy; cases hy) (fun _ _ _ _ e => e) dX10_init_265 (fun H1 locs hC hM => ?_)
  refine lv_dup hx hb dX10_init_266 rfl ?_
  refine lv_bipush (v := 24) hx hb dX10_init_267 (by decide) ?_
  refine lv_bipush (v := 99) hx hb dX10_init_269 (by decide) ?_
  refine mi_astK (a' := (a3 tZ tZ)) E hC hM hτ (c9 := 16) g16 (by decide) rfl (t_in (by decide) (by decide)) (ma_16.2.2 _) (by decide) (by decide) (fun y hy => by rw [qX_no (a := (a3 tZ tZ)) rfl] at hy; cases hy) (fun _ _ _ _ e => e) dX10_init_271 (fun H1 locs hC hM => ?_)
  refine lv_dup hx hb dX10_init_272 rfl ?_
  refine lv_bipush (v := 25) hx hb dX10_init_273 (by decide) ?_
  refine lv_bipush (v := 101) hx hb dX10_init_275 (by decide) ?_
  refine mi_astK (a' := (a3 tZ tZ)) E hC hM hτ (c9 := 16) g16 (by decide) rfl (t_in (by decide) (by decide)) (ma_16.2.2 _) (by decide) (by decide) (fun y hy => by rw [qX_no (a := (a3 tZ tZ)) rfl] at hy; cases hy) (fun _ _ _ _ e => e) dX10_init_277 (fun H1 locs hC hM => ?_)
  refine lv_dup hx hb dX10_init_278 rfl ?_
  refine lv_bipush (v := 26) hx hb dX10_init_279 (by decide) ?_
  refine lv_bipush (v := 110) hx hb dX10_init_281 (by decide) ?_
  refine mi_astK (a' := (a3 tZ tZ)) E hC hM hτ (c9 := 16) g16 (by decide) rfl (t_in (by decide) (by decide)) (ma_16.2.2 _) (by decide) (by decide) (fun y hy => by rw [qX_no (a := (a3 tZ tZ)) rfl] at hy; cases hy) (fun _ _ _ _ e => e) dX10_init_283 (fun H1 locs hC hM => ?_)
  refine lv_dup hx hb dX10_init_284 rfl ?_
  refine lv_bipush (v := 27) hx hb dX10_init_285 (by decide) ?_
  refine lv_bipush (v := 116) hx hb dX10_init_287 (by decide) ?_
  refine mi_astK (a' := (a3 tZ tZ)) E hC hM hτ (c9 := 16) g16 (by decide) rfl (t_in (by decide) (by decide)) (ma_16.2.2 _) (by decide) (by decide) (fun y hy => by rw [qX_no (a := (a3 tZ tZ)) rfl] at hy; cases hy) (fun _ _ _ _ e => e) dX10_init_289 (fun H1 locs hC hM => ?_)
  refine lv_dup hx hb dX10_init_290 rfl ?_
  refine lv_bipush (v := 28) hx hb dX10_init_291 (by decide) ?_
  refine lv_bipush (v := 114) hx hb dX10_init_293 (by decide) ?_
  refine mi_astK (a' := (a3 tZ tZ)) E hC hM hτ (c9 := 16) g16 (by decide) rfl (t_in (by decide) (by decide)) (ma_16.2.2 _) (by decide) (by decide) (fun y hy => by rw [qX_no (a := (a3 tZ tZ)) rfl] at hy; cases hy) (fun _ _ _ _ e => e) dX10_init_295 (fun H1 locs hC hM => ?_)
  refine lv_dup hx hb dX10_init_296 rfl ?_
  refine lv_bipush (v := 29) hx hb dX10_init_297 (by decide) ?_
  refine lv_bipush (v := 101) hx hb dX10_init_299 (by decide) ?_
  refine mi_astK (a' := (a3 tZ tZ)) E hC hM hτ (c9 := 16) g16 (by decide) rfl (t_in (by decide) (by decide)) (ma_16.2.2 _) (by decide) (by decide) (fun y hy => by rw [qX_no (a := (a3 tZ tZ)) rfl] at hy; cases hy) (fun _ _ _ _ e => e) dX10_init_301 (fun H1 locs hC hM => ?_)
  refine lv_dup hx hb dX10_init_302 rfl ?_
  refine lv_bipush (v := 30) hx hb dX10_init_303 (by decide) ?_
  refine lv_bipush (v := 102) hx hb dX10_init_305 (by decide) ?_
  refine mi_astK (a' := (a3 tZ tZ)) E hC hM hτ (c9 := 16) g16 (by decide) rfl (t_in (by decide) (by decide)) (ma_16.2.2 _) (by decide) (by decide) (fun y hy => by rw [qX_no (a := (a3 tZ tZ)) rfl] at hy; cases hy) (fun _ _ _ _ e => e) dX10_init_307 (fun H1 locs hC hM => ?_)
  refine lv_dup hx hb dX10_init_308 rfl ?_
  refine lv_bipush (v := 31) hx hb dX10_init_309 (by decide) ?_
  refine lv_bipush (v := 105) hx hb dX10_init_311 (by decide) ?_
  refine mi_astK (a' := (a3 tZ tZ)) E hC hM hτ (c9 := 16) g16 (by decide) rfl (t_in (by decide) (by decide)) (ma_16.2.2 _) (by decide) (by decide) (fun y hy => by rw [qX_no (a := (a3 tZ tZ)) rfl] at hy; cases hy) (fun _ _ _ _ e => e) dX10_init_313 (fun H1 locs hC hM => ?_)
  refine lv_dup hx hb dX10_init_314 rfl ?_
  refine lv_bipush (v := 32) hx hb dX10_init_315 (by decide) ?_
  refine lv_bipush (v := 116) hx hb dX10_init_317 (by decide) ?_
  refine mi_astK (a' := (a3 tZ tZ)) E hC hM hτ (c9 := 16) g16 (by decide) rfl (t_in (by decide) (by decide)) (ma_16.2.2 _) (by decide) (by decide) (fun y hy => by rw [qX_no (a := (a3 tZ tZ)) rfl] at hy; cases hy) (fun _ _ _ _ e => e) dX10_init_319 (fun H1 locs hC hM => ?_)
  refine lv_dup hx hb dX10_init_320 rfl ?_
  refine lv_bipush (v := 33) hx hb dX10_init_321 (by decide) ?_
  refine lv_iconst (v := 0) hx hb dX10_init_323 (by decide) ?_
  refine mi_astK (a' := (a3 tZ tZ)) E hC hM hτ (c9 := 16) g16 (by decide) rfl (t_in (by decide) (by decide)) (ma_16.2.2 _) (by decide) (by decide) (fun y hy => by rw [qX_no (a := (a3 tZ tZ)) rfl] at hy; cases hy) (fun _ _ _ _ e => e) dX10_init_324 (fun H1 locs hC hM => ?_)
  refine lv_dup hx hb dX10_init_325 rfl ?_
  refine lv_bipush (v := 34) hx hb dX10_init_326 (by decide) ?_
  refine lv_iconst (v := 0) hx hb dX10_init_328 (by decide) ?_
  refine mi_astK (a' := (a3 tZ tZ)) E hC hM hτ (c9 := 16) g16 (by decide) rfl (t_in (by decide) (by decide)) (ma_16.2.2 _) (by decide) (by decide) (fun y hy => by rw [qX_no (a := (a3 tZ tZ)) rfl] at hy; cases hy) (fun _ _ _ _ e => e) dX10_init_329 (fun H1 locs hC hM => ?_)
  refine lv_dup hx hb dX10_init_330 rfl ?_
  refine lv_bipush (v := 35) hx hb dX10_init_331 (by decide) ?_
  refine lv_iconst (v := 0) hx hb dX10_init_333 (by decide) ?_
  refine mi_astK (a' := (a3 tZ tZ)) E hC hM hτ (c9 := 16) g16 (by decide) rfl (t_in (by decide) (by decide)) (ma_16.2.2 _) (by decide) (by decide) (fun y hy => by rw [qX_no (a := (a3 tZ tZ)) rfl] at hy; cases hy) (fun _ _ _ _ e => e) dX10_init_334 (fun H1 locs hC hM => ?_)
  refine lv_dup hx hb dX10_init_335 rfl ?_
  refine lv_bipush (v := 36) hx hb dX10_init_336 (by decide) ?_
  refine lv_bipush (v := 114) hx hb dX10_init_338 (by decide) ?_
  refine mi_astK (a' := (a3 tZ tZ)) E hC hM hτ (c9 := 16) g16 (by decide) rfl (t_in (by decide) (by decide)) (ma_16.2.2 _) (by decide) (by decide) (fun y hy => by rw [qX_no (a := (a3 tZ tZ)) rfl] at hy; cases hy) (fun _ _ _ _ e => e) dX10_init_340 (fun H1 locs hC hM => ?_)
  refine lv_dup hx hb dX10_init_341 rfl ?_
  refine lv_bipush (v := 37) hx hb dX10_init_342 (by decide) ?_
  refine lv_bipush (v := 97) hx hb dX10_init_344 (by decide) ?_
  refine mi_astK (a' := (a3 tZ tZ)) E hC hM hτ (c9 := 16) g16 (by decide) rfl (t_in (by decide) (by decide)) (ma_16.2.2 _) (by decide) (by decide) (fun y hy => by rw [qX_no (a := (a3 tZ tZ)) rfl] at hy; cases hy) (fun _ _ _ _ e => e) dX10_init_346 (fun H1 locs hC hM => ?_)
  refine lv_dup hx hb dX10_init_347 rfl ?_
  refine lv_bipush (v := 38) hx hb dX10_init_348 (by decide) ?_
  refine lv_bipush (v := 116) hx hb dX10_init_350 (by decide) ?_
  refine mi_astK (a' := (a3 tZ tZ)) E hC hM hτ (c9 := 16) g16 (by decide) rfl (t_in (by decide) (by decide)) (ma_16.2.2 _) (by decide) (by decide) (fun y hy => by rw [qX_no (a := (a3 tZ tZ)) rfl] at hy; cases hy) (fun _ _ _ _ e => e) dX10_init_352 (fun H1 locs hC hM => ?_)
  refine lv_dup hx hb dX10_init_353 rfl ?_
  refine lv_bipush (v := 39) hx hb dX10_init_354 (by decide) ?_
  refine lv_bipush (v := 105) hx hb dX10_init_356 (by decide) ?_
  refine mi_astK (a' := (a3 tZ tZ)) E hC hM hτ (c9 := 16) g16 (by decide) rfl (t_in (by decide) (by decide)) (ma_16.2.2 _) (by decide) (by decide) (fun y hy => by rw [qX_no (a := (a3 tZ tZ)) rfl] at hy; cases hy) (fun _ _ _ _ e => e) dX10_init_358 (fun H1 locs hC hM => ?_)
  refine lv_dup hx hb dX10_init_359 rfl ?_
  refine lv_bipush (v := 40) hx hb dX10_init_360 (by decide) ?_
  refine lv_bipush (v := 111) hx hb dX10_init_362 (by decide) ?_
  refine mi_astK (a' := (a3 tZ tZ)) E hC hM hτ (c9 := 16) g16 (by decide) rfl (t_in (by decide) (by decide)) (ma_16.2.2 _) (by decide) (by decide) (fun y hy => by rw [qX_no (a := (a3 tZ tZ)) rfl] at hy; cases hy) (fun _ _ _ _ e => e) dX10_init_364 (fun H1 locs hC hM => ?_)
  refine lv_dup hx hb dX10_init_365 rfl ?_
  refine lv_bipush (v := 41) hx hb dX10_init_366 (by decide) ?_
  refine lv_iconst (v := 0) hx hb dX10_init_368 (by decide) ?_
  refine mi_astK (a' := (a3 tZ tZ)) E hC hM hτ (c9 := 16) g16 (by decide) rfl (t_in (by decide) (by decide)) (ma_16.2.2 _) (by decide) (by decide) (fun y hy => by rw [qX_no (a := (a3 tZ tZ)) rfl] at hy; cases hy) (fun _ _ _ _ e => e) dX10_init_369 (fun H1 locs hC hM => ?_)
  refine lv_dup hx hb dX10_init_370 rfl ?_
  refine lv_bipush (v := 42) hx hb dX10_init_371 (by decide) ?_
  refine lv_bipush (v := 108) hx hb dX10_init_373 (by decide) ?_
  refine mi_astK (a' := (a3 tZ tZ)) E hC hM hτ (c9 := 16) g16 (by decide) rfl (t_in (by decide) (by decide)) (ma_16.2.2 _) (by decide) (by decide) (fun y hy => by rw [qX_no (a := (a3 tZ tZ)) rfl] at hy; cases hy) (fun _ _ _ _ e => e) dX10_init_375 (fun H1 locs hC hM => ?_)
  refine lv_dup hx hb dX10_init_376 rfl ?_
  refine lv_bipush (v := 43) hx hb dX10_init_377 (by decide) ?_
  refine lv_bipush (v := 97) hx hb dX10_init_379 (by decide) ?_
  refine mi_astK (a' := (a3 tZ tZ)) E hC hM hτ (c9 := 16) g16 (by decide) rfl (t_in (by decide) (by decide)) (ma_16.2.2 _) (by decide) (by decide) (fun y hy => by rw [qX_no (a := (a3 tZ tZ)) rfl] at hy; cases hy) (fun _ _ _ _ e => e) dX10_init_381 (fun H1 locs hC hM => ?_)
  refine lv_dup hx hb dX10_init_382 rfl ?_
  refine lv_bipush (v := 44) hx hb dX10_init_383 (by decide) ?_
  refine lv_bipush (v := 121) hx hb dX10_init_385 (by decide) ?_
  refine mi_astK (a' := (a3 tZ tZ)) E hC hM hτ (c9 := 16) g16 (by decide) rfl (t_in (by decide) (by decide)) (ma_16.2.2 _) (by decide) (by decide) (fun y hy => by rw [qX_no (a := (a3 tZ tZ)) rfl] at hy; cases hy) (fun _ _ _ _ e => e) dX10_init_387 (fun H1 locs hC hM => ?_)
  refine lv_dup hx hb dX10_init_388 rfl ?_
  refine lv_bipush (v := 45) hx hb dX10_init_389 (by decide) ?_
  refine lv_bipush (v := 101) hx hb dX10_init_391 (by decide) ?_
  refine mi_astK (a' := (a3 tZ tZ)) E hC hM hτ (c9 := 16) g16 (by decide) rfl (t_in (by decide) (by decide)) (ma_16.2.2 _) (by decide) (by decide) (fun y hy => by rw [qX_no (a := (a3 tZ tZ)) rfl] at hy; cases hy) (fun _ _ _ _ e => e) dX10_init_393 (fun H1 locs hC hM => ?_)
  refine lv_dup hx hb dX10_init_394 rfl ?_
  refine lv_bipush (v := 46) hx hb dX10_init_395 (by decide) ?_
  refine lv_bipush (v := 114) hx hb dX10_init_397 (by decide) ?_
  refine mi_astK (a' := (a3 tZ tZ)) E hC hM hτ (c9 := 16) g16 (by decide) rfl (t_in (by decide) (by decide)) (ma_16.2.2 _) (by decide) (by decide) (fun y hy => by rw [qX_no (a := (a3 tZ tZ)) rfl] at hy; cases hy) (fun _ _ _ _ e => e) dX10_init_399 (fun H1 locs hC hM => ?_)
  refine lv_dup hx hb dX10_init_400 rfl ?_
  refine lv_bipush (v := 47) hx hb dX10_init_401 (by decide) ?_
  refine lv_bipush (v := 115) hx hb dX10_init_403 (by decide) ?_
  refine mi_astK (a' := (a3 tZ tZ)) E hC hM hτ (c9 := 16) g16 (by decide) rfl (t_in (by decide) (by decide)) (ma_16.2.2 _) (by decide) (by decide) (fun y hy => by rw [qX_no (a := (a3 tZ tZ)) rfl] at hy; cases hy) (fun _ _ _ _ e => e) dX10_init_405 (fun H1 locs hC hM => ?_)
  refine lv_dup hx hb dX10_init_406 rfl ?_
  refine lv_bipush (v := 48) hx hb dX10_init_407 (by decide) ?_
  refine lv_bipush (v := 114) hx hb dX10_init_409 (by decide) ?_
  refine mi_astK (a' := (a3 tZ tZ)) E hC hM hτ (c9 := 16) g16 (by decide) rfl (t_in (by decide) (by decide)) (ma_16.2.2 _) (by decide) (by decide) (fun y hy => by rw [qX_no (a := (a3 tZ tZ)) rfl] at hy; cases hy) (fun _ _ _ _ e => e) dX10_init_411 (fun H1 locs hC hM => ?_)
  refine lv_dup hx hb dX10_init_412 rfl ?_
  refine lv_bipush (v := 49) hx hb dX10_init_413 (by decide) ?_
  refine lv_bipush (v := 111) hx hb dX10_init_415 (by decide) ?_
  refine mi_astK (a' := (a3 tZ tZ)) E hC hM hτ (c9 := 16) g16 (by decide) rfl (t_in (by decide) (by decide)) (ma_16.2.2 _) (by decide) (by decide) (fun y hy => by rw [qX_no (a := (a3 tZ tZ)) rfl] at hy; cases hy) (fun _ _ _ _ e => e) dX10_init_417 (fun H1 locs hC hM => ?_)
  refine lv_dup hx hb dX10_init_418 rfl ?_
  refine lv_bipush (v := 50) hx hb dX10_init_419 (by decide) ?_
  refine lv_bipush (v := 119) hx hb dX10_init_421 (by decide) ?_
  refine mi_astK (a' := (a3 tZ tZ)) E hC hM hτ (c9 := 16) g16 (by decide) rfl (t_in (by decide) (by decide)) (ma_16.2.2 _) (by decide) (by decide) (fun y hy => by rw [qX_no (a := (a3 tZ tZ)) rfl] at hy; cases hy) (fun _ _ _ _ e => e) dX10_init_423 (fun H1 locs hC hM => ?_)
  refine lv_dup hx hb dX10_init_424 rfl ?_
  refine lv_bipush (v := 51) hx hb dX10_init_425 (by decide) ?_
  refine lv_iconst (v := 0) hx hb dX10_init_427 (by decide) ?_
  refine mi_astK (a' := (a3 tZ tZ)) E hC hM hτ (c9 := 16) g16 (by decide) rfl (t_in (by decide) (by decide)) (ma_16.2.2 _) (by decide) (by decide) (fun y hy => by rw [qX_no (a := (a3 tZ tZ)) rfl] at hy; cases hy) (fun _ _ _ _ e => e) dX10_init_428 (fun H1 locs hC hM => ?_)
  refine lv_dup hx hb dX10_init_429 rfl ?_
  refine lv_bipush (v := 52) hx hb dX10_init_430 (by decide) ?_
  refine lv_iconst (v := 0) hx hb dX10_init_432 (by decide) ?_
  refine mi_astK (a' := (a3 tZ tZ)) E hC hM hτ (c9 := 16) g16 (by decide) rfl (t_in (by decide) (by decide)) (ma_16.2.2 _) (by decide) (by decide) (fun y hy => by rw [qX_no (a := (a3 tZ tZ)) rfl] at hy; cases hy) (fun _ _ _ _ e => e) dX10_init_433 (fun H1 locs hC hM => ?_)
  refine lv_dup hx hb dX10_init_434 rfl ?_
  refine lv_bipush (v := 53) hx hb dX10_init_435 (by decide) ?_
  refine lv_iconst (v := 0) hx hb dX10_init_437 (by decide) ?_
  refine mi_astK (a' := (a3 tZ tZ)) E hC hM hτ (c9 := 16) g16 (by decide) rfl (t_in (by decide) (by decide)) (ma_16.2.2 _) (by decide) (by decide) (fun y hy => by rw [qX_no (a := (a3 tZ tZ)) rfl] at hy; cases hy) (fun _ _ _ _ e => e) dX10_init_438 (fun H1 locs hC hM => ?_)
  refine lv_dup hx hb dX10_init_439 rfl ?_
  refine lv_bipush (v := 54) hx hb dX10_init_440 (by decide) ?_
  refine lv_bipush (v := 99) hx hb dX10_init_442 (by decide) ?_
  refine mi_astK (a' := (a3 tZ tZ)) E hC hM hτ (c9 := 16) g16 (by decide) rfl (t_in (by decide) (by decide)) (ma_16.2.2 _) (by decide) (by decide) (fun y hy => by rw [qX_no (a := (a3 tZ tZ)) rfl] at hy; cases hy) (fun _ _ _ _ e => e) dX10_init_444 (fun H1 locs hC hM => ?_)
  refine lv_dup hx hb dX10_init_445 rfl ?_
  refine lv_bipush (v := 55) hx hb dX10_init_446 (by decide) ?_
  refine lv_bipush (v := 111) hx hb dX10_init_448 (by decide) ?_
  refine mi_astK (a' := (a3 tZ tZ)) E hC hM hτ (c9 := 16) g16 (by decide) rfl (t_in (by decide) (by decide)) (ma_16.2.2 _) (by decide) (by decide) (fun y hy => by rw [qX_no (a := (a3 tZ tZ)) rfl] at hy; cases hy) (fun _ _ _ _ e => e) dX10_init_450 (fun H1 locs hC hM => ?_)
  refine lv_dup hx hb dX10_init_451 rfl ?_
  refine lv_bipush (v := 56) hx hb dX10_init_452 (by decide) ?_
  refine lv_bipush (v := 108) hx hb dX10_init_454 (by decide) ?_
  refine mi_astK (a' := (a3 tZ tZ)) E hC hM hτ (c9 := 16) g16 (by decide) rfl (t_in (by decide) (by decide)) (ma_16.2.2 _) (by decide) (by decide) (fun y hy => by rw [qX_no (a := (a3 tZ tZ)) rfl] at hy; cases hy) (fun _ _ _ _ e => e) dX10_init_456 (fun H1 locs hC hM => ?_)
  refine lv_dup hx hb dX10_init_457 rfl ?_
  refine lv_bipush (v := 57) hx hb dX10_init_458 (by decide) ?_
  refine lv_bipush (v := 117) hx hb dX10_init_460 (by decide) ?_
  refine mi_astK (a' := (a3 tZ tZ)) E hC hM hτ (c9 := 16) g16 (by decide) rfl (t_in (by decide) (by decide)) (ma_16.2.2 _) (by decide) (by decide) (fun y hy => by rw [qX_no (a := (a3 tZ tZ)) rfl] at hy; cases hy) (fun _ _ _ _ e => e) dX10_init_462 (fun H1 locs hC hM => ?_)
  refine lv_dup hx hb dX10_init_463 rfl ?_
  refine lv_bipush (v := 58) hx hb dX10_init_464 (by decide) ?_
  refine lv_bipush (v := 109) hx hb dX10_init_466 (by decide) ?_
  refine mi_astK (a' := (a3 tZ tZ)) E hC hM hτ (c9 := 16) g16 (by decide) rfl (t_in (by decide) (by decide)) (ma_16.2.2 _) (by decide) (by decide) (fun y hy => by rw [qX_no (a := (a3 tZ tZ)) rfl] at hy; cases hy) (fun _ _ _ _ e => e) dX10_init_468 (fun H1 locs hC hM => ?_)
  refine lv_dup hx hb dX10_init_469 rfl ?_
  refine lv_bipush (v := 59) hx hb dX10_init_470 (by decide) ?_
  refine lv_bipush (v := 110) hx hb dX10_init_472 (by decide) ?_
  refine mi_astK (a' := (a3 tZ tZ)) E hC hM hτ (c9 := 16) g16 (by decide) rfl (t_in (by decide) (by decide)) (ma_16.2.2 _) (by decide) (by decide) (fun y hy => by rw [qX_no (a := (a3 tZ tZ)) rfl] at hy; cases hy) (fun _ _ _ _ e => e) dX10_init_474 (fun H1 locs hC hM => ?_)
  refine cg_putF E hin hC fz_X10_57 rfl rfl dX10_init_475 (fun H1 locs hC ho hzs => ?_)
  have hC : tCG G τ τ s h 9 [.ref q2, .ref q2, .ref q3, .ref q4, .ref q5, .int 0, .int 0, .int 0, .int 0, .int 0, .int 0, .int 0, .ref q6, .ref q7, .ref q8, .ref q9, .ref q10, .ref q11, .int 0, .ref q12, .int 0, .int 0, .ref q13, .ref q14, .ref q15, .int 0, .int 0, .int 0, .ref q16, .null, .int 0, .null, .int 0, .null, .int 0, .null, .null, .null, .null, .null] H1 locs := hC
  have hM := mi_set hM hC.2.2.2.2.2.1 hzs ho
  refine lv_aload_n hx hb dX10_init_478 rfl (lv_at hl 0 rfl) ?_
  refine lv_sipush (v := 192) hx hb dX10_init_479 (by decide) ?_
  refine mi_newa (a' := (a3 tZ tZ)) E hC hM (atype := .int) (ak := 0) (c9 := 17) (t_w1 113 rfl rfl) rfl (by decide) (by decide) (fun _ _ _ _ e => e) (fun _ k => msv_z (show mFD 17 k = (0, (rR k).1, (rR k).2) from rfl) rR_0.1 rR_0.2 (fun y hy => by rw [qX_no (a := (a3 tZ tZ)) rfl] at hy; cases hy)) (fun _ => mKn_no (mMk_t rfl)) (by decide) (by decide) (Nat.le_of_ble_eq_true rfl) (Nat.le_of_ble_eq_true rfl) (Nat.le_of_ble_eq_true rfl) (fun cA hc => Option.some.inj (hc.symm.trans (E.2.2.2.2.2.2 0 (G.2.1 0, .int) rfl).2)) dX10_init_482 (fun q17 σ17 H1 hC hM g17 hup => ?_)
  have g2 := (hup _ (by rw [g2]; decide)).trans g2
  have g3 := (hup _ (by rw [g3]; decide)).trans g3
  have g4 := (hup _ (by rw [g4]; decide)).trans g4
  have g5 := (hup _ (by rw [g5]; decide)).trans g5
  have g6 := (hup _ (by rw [g6]; decide)).trans g6
  have g7 := (hup _ (by rw [g7]; decide)).trans g7
  have g8 := (hup _ (by rw [g8]; decide)).trans g8
  have g9 := (hup _ (by rw [g9]; decide)).trans g9
  have g10 := (hup _ (by rw [g10]; decide)).trans g10
  have g11 := (hup _ (by rw [g11]; decide)).trans g11
  have g12 := (hup _ (by rw [g12]; decide)).trans g12
  have g13 := (hup _ (by rw [g13]; decide)).trans g13
  have g14 := (hup _ (by rw [g14]; decide)).trans g14
  have g15 := (hup _ (by rw [g15]; decide)).trans g15
  have g16 := (hup _ (by rw [g16]; decide)).trans g16
  refine cg_putF E hin hC fz_X10_60 rfl rfl dX10_init_484 (fun H1 locs hC ho hzs => ?_)
  have hC : tCG G τ τ s h 9 [.ref q2, .ref q2, .ref q3, .ref q4, .ref q5, .int 0, .int 0, .int 0, .int 0, .int 0, .int 0, .int 0, .ref q6, .ref q7, .ref q8, .ref q9, .ref q10, .ref q11, .int 0, .ref q12, .int 0, .int 0, .ref q13, .ref q14, .ref q15, .int 0, .int 0, .int 0, .ref q16, .ref q17, .int 0, .null, .int 0, .null, .int 0, .null, .null, .null, .null, .null] H1 locs := hC
  have hM := mi_set hM hC.2.2.2.2.2.1 hzs ho
  refine lv_aload_n hx hb dX10_init_487 rfl (lv_at hl 0 rfl) ?_
  refine lv_bipush (v := 26) hx hb dX10_init_488 (by decide) ?_
  refine mi_newa (a' := (a3 tZ tZ)) E hC hM (atype := .int) (ak := 0) (c9 := 18) (t_w1 113 rfl rfl) rfl (by decide) (by decide) (fun _ _ _ _ e => e) (fun _ k => msv_z (ma_18.2.2 k) (by decide) (by decide) (fun y hy => by rw [qX_no (a := (a3 tZ tZ)) rfl] at hy; cases hy)) (fun _ => mKn_no (mMk_t rfl)) (by decide) (by decide) (Nat.le_of_ble_eq_true rfl) (Nat.le_of_ble_eq_true rfl) (Nat.le_of_ble_eq_true rfl) (fun cA hc => Option.some.inj (hc.symm.trans (E.2.2.2.2.2.2 0 (G.2.1 0, .int) rfl).2)) dX10_init_490 (fun q18 σ18 H1 hC hM g18 hup => ?_)
  have g2 := (hup _ (by rw [g2]; decide)).trans g2
  have g3 := (hup _ (by rw [g3]; decide)).trans g3
  have g4 := (hup _ (by rw [g4]; decide)).trans g4
  have g5 := (hup _ (by rw [g5]; decide)).trans g5
  have g6 := (hup _ (by rw [g6]; decide)).trans g6
  have g7 := (hup _ (by rw [g7]; decide)).trans g7
  have g8 := (hup _ (by rw [g8]; decide)).trans g8
  have g9 := (hup _ (by rw [g9]; decide)).trans g9
  have g10 := (hup _ (by rw [g10]; decide)).trans g10
  have g11 := (hup _ (by rw [g11]; decide)).trans g11
  have g12 := (hup _ (by rw [g12]; decide)).trans g12
  have g13 := (hup _ (by rw [g13]; decide)).trans g13
  have g14 := (hup _ (by rw [g14]; decide)).trans g14
  have g15 := (hup _ (by rw [g15]; decide)).trans g15
  have g16 := (hup _ (by rw [g16]; decide)).trans g16
  have g17 := (hup _ (by rw [g17]; decide)).trans g17
  refine cg_putF E hin hC fz_X10_63 rfl rfl dX10_init_492 (fun H1 locs hC ho hzs => ?_)
  have hC : tCG G τ τ s h 9 [.ref q2, .ref q2, .ref q3, .ref q4, .ref q5, .int 0, .int 0, .int 0, .int 0, .int 0, .int 0, .int 0, .ref q6, .ref q7, .ref q8, .ref q9, .ref q10, .ref q11, .int 0, .ref q12, .int 0, .int 0, .ref q13, .ref q14, .ref q15, .int 0, .int 0, .int 0, .ref q16, .ref q17, .int 0, .ref q18, .int 0, .null, .int 0, .null, .null, .null, .null, .null] H1 locs := hC
  have hM := mi_set hM hC.2.2.2.2.2.1 hzs ho
  refine lv_aload_n hx hb dX10_init_495 rfl (lv_at hl 0 rfl) ?_
  refine lv_sipush (v := 700) hx hb dX10_init_496 (by decide) ?_
  refine mi_newa (a' := (a3 tZ tZ)) E hC hM (atype := .int) (ak := 0) (c9 := 19) (t_w1 113 rfl rfl) rfl (by decide) (by decide) (fun _ _ _ _ e => e) (fun _ k => msv_z (ma_19.2.2 k) (by decide) (by decide) (fun y hy => by rw [qX_no (a := (a3 tZ tZ)) rfl] at hy; cases hy)) (fun _ => mKn_no (mMk_t rfl)) (by decide) (by decide) (Nat.le_of_ble_eq_true rfl) (Nat.le_of_ble_eq_true rfl) (Nat.le_of_ble_eq_true rfl) (fun cA hc => Option.some.inj (hc.symm.trans (E.2.2.2.2.2.2 0 (G.2.1 0, .int) rfl).2)) dX10_init_499 (fun q19 σ19 H1 hC hM g19 hup => ?_)
  have g2 := (hup _ (by rw [g2]; decide)).trans g2
  have g3 := (hup _ (by rw [g3]; decide)).trans g3
  have g4 := (hup _ (by rw [g4]; decide)).trans g4
  have g5 := (hup _ (by rw [g5]; decide)).trans g5
  have g6 := (hup _ (by rw [g6]; decide)).trans g6
  have g7 := (hup _ (by rw [g7]; decide)).trans g7
  have g8 := (hup _ (by rw [g8]; decide)).trans g8
  have g9 := (hup _ (by rw [g9]; decide)).trans g9
  have g10 := (hup _ (by rw [g10]; decide)).trans g10
  have g11 := (hup _ (by rw [g11]; decide)).trans g11
  have g12 := (hup _ (by rw [g12]; decide)).trans g12
  have g13 := (hup _ (by rw [g13]; decide)).trans g13
  have g14 := (hup _ (by rw [g14]; decide)).trans g14
  have g15 := (hup _ (by rw [g15]; decide)).trans g15
  have g16 := (hup _ (by rw [g16]; decide)).trans g16
  have g17 := (hup _ (by rw [g17]; decide)).trans g17
  have g18 := (hup _ (by rw [g18]; decide)).trans g18
  refine cg_putF E hin hC fz_X10_66 rfl rfl dX10_init_501 (fun H1 locs hC ho hzs => ?_)
  have hC : tCG G τ τ s h 9 [.ref q2, .ref q2, .ref q3, .ref q4, .ref q5, .int 0, .int 0, .int 0, .int 0, .int 0, .int 0, .int 0, .ref q6, .ref q7, .ref q8, .ref q9, .ref q10, .ref q11, .int 0, .ref q12, .int 0, .int 0, .ref q13, .ref q14, .ref q15, .int 0, .int 0, .int 0, .ref q16, .ref q17, .int 0, .ref q18, .int 0, .ref q19, .int 0, .null, .null, .null, .null, .null] H1 locs := hC
  have hM := mi_set hM hC.2.2.2.2.2.1 hzs ho
  refine lv_aload_n hx hb dX10_init_504 rfl (lv_at hl 0 rfl) ?_
  refine lv_bipush (v := 6) hx hb dX10_init_505 (by decide) ?_
  refine mi_newa (a' := (a3 tZ tZ)) E hC hM (atype := .int) (ak := 0) (c9 := 20) (t_w1 113 rfl rfl) rfl (by decide) (by decide) (fun _ _ _ _ e => e) (fun _ k => msv_z (ma_20.2.2 k) (by decide) (by decide) (fun y hy => by rw [qX_no (a := (a3 tZ tZ)) rfl] at hy; cases hy)) (fun _ => mKn_no (mMk_t rfl)) (by decide) (by decide) (Nat.le_of_ble_eq_true rfl) (Nat.le_of_ble_eq_true rfl) (Nat.le_of_ble_eq_true rfl) (fun cA hc => Option.some.inj (hc.symm.trans (E.2.2.2.2.2.2 0 (G.2.1 0, .int) rfl).2)) dX10_init_507 (fun q20 σ20 H1 hC hM g20 hup => ?_)
  have g2 := (hup _ (by rw [g2]; decide)).trans g2
  have g3 := (hup _ (by rw [g3]; decide)).trans g3
  have g4 := (hup _ (by rw [g4]; decide)).trans g4
  have g5 := (hup _ (by rw [g5]; decide)).trans g5
  have g6 := (hup _ (by rw [g6]; decide)).trans g6
  have g7 := (hup _ (by rw [g7]; decide)).trans g7
  have g8 := (hup _ (by rw [g8]; decide)).trans g8
  have g9 := (hup _ (by rw [g9]; decide)).trans g9
  have g10 := (hup _ (by rw [g10]; decide)).trans g10
  have g11 := (hup _ (by rw [g11]; decide)).trans g11
  have g12 := (hup _ (by rw [g12]; decide)).trans g12
  have g13 := (hup _ (by rw [g13]; decide)).trans g13
  have g14 := (hup _ (by rw [g14]; decide)).trans g14
  have g15 := (hup _ (by rw [g15]; decide)).trans g15
  have g16 := (hup _ (by rw [g16]; decide)).trans g16
  have g17 := (hup _ (by rw [g17]; decide)).trans g17
  have g18 := (hup _ (by rw [g18]; decide)).trans g18
  have g19 := (hup _ (by rw [g19]; decide)).trans g19
  refine cg_putF E hin hC fz_X10_69 rfl rfl dX10_init_509 (fun H1 locs hC ho hzs => ?_)
  have hC : tCG G τ τ s h 9 [.ref q2, .ref q2, .ref q3, .ref q4, .ref q5, .int 0, .int 0, .int 0, .int 0, .int 0, .int 0, .int 0, .ref q6, .ref q7, .ref q8, .ref q9, .ref q10, .ref q11, .int 0, .ref q12, .int 0, .int 0, .ref q13, .ref q14, .ref q15, .int 0, .int 0, .int 0, .ref q16, .ref q17, .int 0, .ref q18, .int 0, .ref q19, .int 0, .ref q20, .null, .null, .null, .null] H1 locs := hC
  have hM := mi_set hM hC.2.2.2.2.2.1 hzs ho
  refine lv_aload_n hx hb dX10_init_512 rfl (lv_at hl 0 rfl) ?_
  refine lv_iconst (v := 4) hx hb dX10_init_513 (by decide) ?_
  refine mi_newa (a' := (a3 tZ tZ)) E hC hM (atype := .int) (ak := 0) (c9 := 21) (t_w1 113 rfl rfl) rfl (by decide) (by decide) (fun _ _ _ _ e => e) (fun _ k => msv_z (ma_21.2.2 k) (by decide) (by decide) (fun y hy => by rw [qX_no (a := (a3 tZ tZ)) rfl] at hy; cases hy)) (fun _ => mKn_no (mMk_t rfl)) (by decide) (by decide) (Nat.le_of_ble_eq_true rfl) (Nat.le_of_ble_eq_true rfl) (Nat.le_of_ble_eq_true rfl) (fun cA hc => Option.some.inj (hc.symm.trans (E.2.2.2.2.2.2 0 (G.2.1 0, .int) rfl).2)) dX10_init_514 (fun q21 σ21 H1 hC hM g21 hup => ?_)
  have g2 := (hup _ (by rw [g2]; decide)).trans g2
  have g3 := (hup _ (by rw [g3]; decide)).trans g3
  have g4 := (hup _ (by rw [g4]; decide)).trans g4
  have g5 := (hup _ (by rw [g5]; decide)).trans g5
  have g6 := (hup _ (by rw [g6]; decide)).trans g6
  have g7 := (hup _ (by rw [g7]; decide)).trans g7
  have g8 := (hup _ (by rw [g8]; decide)).trans g8
  have g9 := (hup _ (by rw [g9]; decide)).trans g9
  have g10 := (hup _ (by rw [g10]; decide)).trans g10
  have g11 := (hup _ (by rw [g11]; decide)).trans g11
  have g12 := (hup _ (by rw [g12]; decide)).trans g12
  have g13 := (hup _ (by rw [g13]; decide)).trans g13
  have g14 := (hup _ (by rw [g14]; decide)).trans g14
  have g15 := (hup _ (by rw [g15]; decide)).trans g15
  have g16 := (hup _ (by rw [g16]; decide)).trans g16
  have g17 := (hup _ (by rw [g17]; decide)).trans g17
  have g18 := (hup _ (by rw [g18]; decide)).trans g18
  have g19 := (hup _ (by rw [g19]; decide)).trans g19
  have g20 := (hup _ (by rw [g20]; decide)).trans g20
  refine cg_putF E hin hC fz_X10_72 rfl rfl dX10_init_516 (fun H1 locs hC ho hzs => ?_)
  have hC : tCG G τ τ s h 9 [.ref q2, .ref q2, .ref q3, .ref q4, .ref q5, .int 0, .int 0, .int 0, .int 0, .int 0, .int 0, .int 0, .ref q6, .ref q7, .ref q8, .ref q9, .ref q10, .ref q11, .int 0, .ref q12, .int 0, .int 0, .ref q13, .ref q14, .ref q15, .int 0, .int 0, .int 0, .ref q16, .ref q17, .int 0, .ref q18, .int 0, .ref q19, .int 0, .ref q20, .ref q21, .null, .null, .null] H1 locs := hC
  have hM := mi_set hM hC.2.2.2.2.2.1 hzs ho
  refine lv_aload_n hx hb dX10_init_519 rfl (lv_at hl 0 rfl) ?_
  refine lv_iconst (v := 4) hx hb dX10_init_520 (by decide) ?_
  refine mi_newa (a' := (a3 tZ tZ)) E hC hM (atype := .int) (ak := 0) (c9 := 22) (t_w1 113 rfl rfl) rfl (by decide) (by decide) (fun _ _ _ _ e => e) (fun _ k => msv_z (ma_22.2.2 k) (by decide) (by decide) (fun y hy => by rw [qX_no (a := (a3 tZ tZ)) rfl] at hy; cases hy)) (fun _ => mKn_no (mMk_t rfl)) (by decide) (by decide) (Nat.le_of_ble_eq_true rfl) (Nat.le_of_ble_eq_true rfl) (Nat.le_of_ble_eq_true rfl) (fun cA hc => Option.some.inj (hc.symm.trans (E.2.2.2.2.2.2 0 (G.2.1 0, .int) rfl).2)) dX10_init_521 (fun q22 σ22 H1 hC hM g22 hup => ?_)
  have g2 := (hup _ (by rw [g2]; decide)).trans g2
  have g3 := (hup _ (by rw [g3]; decide)).trans g3
  have g4 := (hup _ (by rw [g4]; decide)).trans g4
  have g5 := (hup _ (by rw [g5]; decide)).trans g5
  have g6 := (hup _ (by rw [g6]; decide)).trans g6
  have g7 := (hup _ (by rw [g7]; decide)).trans g7
  have g8 := (hup _ (by rw [g8]; decide)).trans g8
  have g9 := (hup _ (by rw [g9]; decide)).trans g9
  have g10 := (hup _ (by rw [g10]; decide)).trans g10
  have g11 := (hup _ (by rw [g11]; decide)).trans g11
  have g12 := (hup _ (by rw [g12]; decide)).trans g12
  have g13 := (hup _ (by rw [g13]; decide)).trans g13
  have g14 := (hup _ (by rw [g14]; decide)).trans g14
  have g15 := (hup _ (by rw [g15]; decide)).trans g15
  have g16 := (hup _ (by rw [g16]; decide)).trans g16
  have g17 := (hup _ (by rw [g17]; decide)).trans g17
  have g18 := (hup _ (by rw [g18]; decide)).trans g18
  have g19 := (hup _ (by rw [g19]; decide)).trans g19
  have g20 := (hup _ (by rw [g20]; decide)).trans g20
  have g21 := (hup _ (by rw [g21]; decide)).trans g21
  refine cg_putF E hin hC fz_X10_75 rfl rfl dX10_init_523 (fun H1 locs hC ho hzs => ?_)
  have hC : tCG G τ τ s h 9 [.ref q2, .ref q2, .ref q3, .ref q4, .ref q5, .int 0, .int 0, .int 0, .int 0, .int 0, .int 0, .int 0, .ref q6, .ref q7, .ref q8, .ref q9, .ref q10, .ref q11, .int 0, .ref q12, .int 0, .int 0, .ref q13, .ref q14, .ref q15, .int 0, .int 0, .int 0, .ref q16, .ref q17, .int 0, .ref q18, .int 0, .ref q19, .int 0, .ref q20, .ref q21, .ref q22, .null, .null] H1 locs := hC
  have hM := mi_set hM hC.2.2.2.2.2.1 hzs ho
  refine lv_aload_n hx hb dX10_init_526 rfl (lv_at hl 0 rfl) ?_
  refine lv_sipush (v := 240) hx hb dX10_init_527 (by decide) ?_
  refine mi_newa (a' := (a3 tZ tZ)) E hC hM (atype := .long) (ak := 2) (c9 := 23) (t_w2 178 rfl rfl) rfl (by decide) (by decide) (fun _ _ _ _ e => e) (fun _ k => msv_l (mal_23.2.2 k)) (fun _ => mKn_no (mMk_t rfl)) (by decide) (by decide) (Nat.le_of_ble_eq_true rfl) (Nat.le_of_ble_eq_true rfl) (Nat.le_of_ble_eq_true rfl) (fun cA hc => Option.some.inj (hc.symm.trans (E.2.2.2.2.2.2 2 (G.2.1 2, .long) rfl).2)) dX10_init_530 (fun q23 σ23 H1 hC hM g23 hup => ?_)
  have g2 := (hup _ (by rw [g2]; decide)).trans g2
  have g3 := (hup _ (by rw [g3]; decide)).trans g3
  have g4 := (hup _ (by rw [g4]; decide)).trans g4
  have g5 := (hup _ (by rw [g5]; decide)).trans g5
  have g6 := (hup _ (by rw [g6]; decide)).trans g6
  have g7 := (hup _ (by rw [g7]; decide)).trans g7
  have g8 := (hup _ (by rw [g8]; decide)).trans g8
  have g9 := (hup _ (by rw [g9]; decide)).trans g9
  have g10 := (hup _ (by rw [g10]; decide)).trans g10
  have g11 := (hup _ (by rw [g11]; decide)).trans g11
  have g12 := (hup _ (by rw [g12]; decide)).trans g12
  have g13 := (hup _ (by rw [g13]; decide)).trans g13
  have g14 := (hup _ (by rw [g14]; decide)).trans g14
  have g15 := (hup _ (by rw [g15]; decide)).trans g15
  have g16 := (hup _ (by rw [g16]; decide)).trans g16
  have g17 := (hup _ (by rw [g17]; decide)).trans g17
  have g18 := (hup _ (by rw [g18]; decide)).trans g18
  have g19 := (hup _ (by rw [g19]; decide)).trans g19
  have g20 := (hup _ (by rw [g20]; decide)).trans g20
  have g21 := (hup _ (by rw [g21]; decide)).trans g21
  have g22 := (hup _ (by rw [g22]; decide)).trans g22
  refine cg_putF E hin hC fz_X10_78 rfl rfl dX10_init_532 (fun H1 locs hC ho hzs => ?_)
  have hC : tCG G τ τ s h 9 [.ref q2, .ref q2, .ref q3, .ref q4, .ref q5, .int 0, .int 0, .int 0, .int 0, .int 0, .int 0, .int 0, .ref q6, .ref q7, .ref q8, .ref q9, .ref q10, .ref q11, .int 0, .ref q12, .int 0, .int 0, .ref q13, .ref q14, .ref q15, .int 0, .int 0, .int 0, .ref q16, .ref q17, .int 0, .ref q18, .int 0, .ref q19, .int 0, .ref q20, .ref q21, .ref q22, .ref q23, .null] H1 locs := hC
  have hM := mi_set hM hC.2.2.2.2.2.1 hzs ho
  refine lv_aload_n hx hb dX10_init_535 rfl (lv_at hl 0 rfl) ?_
  refine lv_bipush (v := 60) hx hb dX10_init_536 (by decide) ?_
  refine mi_newa (a' := (a3 tZ tZ)) E hC hM (atype := .long) (ak := 2) (c9 := 24) (t_w2 178 rfl rfl) rfl (by decide) (by decide) (fun _ _ _ _ e => e) (fun _ k => msv_l (mal_24.2.2 k)) (fun _ => mKn_no (mMk_t rfl)) (by decide) (by decide) (Nat.le_of_ble_eq_true rfl) (Nat.le_of_ble_eq_true rfl) (Nat.le_of_ble_eq_true rfl) (fun cA hc => Option.some.inj (hc.symm.trans (E.2.2.2.2.2.2 2 (G.2.1 2, .long) rfl).2)) dX10_init_538 (fun q24 σ24 H1 hC hM g24 hup => ?_)
  have g2 := (hup _ (by rw [g2]; decide)).trans g2
  have g3 := (hup _ (by rw [g3]; decide)).trans g3
  have g4 := (hup _ (by rw [g4]; decide)).trans g4
  have g5 := (hup _ (by rw [g5]; decide)).trans g5
  have g6 := (hup _ (by rw [g6]; decide)).trans g6
  have g7 := (hup _ (by rw [g7]; decide)).trans g7
  have g8 := (hup _ (by rw [g8]; decide)).trans g8
  have g9 := (hup _ (by rw [g9]; decide)).trans g9
  have g10 := (hup _ (by rw [g10]; decide)).trans g10
  have g11 := (hup _ (by rw [g11]; decide)).trans g11
  have g12 := (hup _ (by rw [g12]; decide)).trans g12
  have g13 := (hup _ (by rw [g13]; decide)).trans g13
  have g14 := (hup _ (by rw [g14]; decide)).trans g14
  have g15 := (hup _ (by rw [g15]; decide)).trans g15
  have g16 := (hup _ (by rw [g16]; decide)).trans g16
  have g17 := (hup _ (by rw [g17]; decide)).trans g17
  have g18 := (hup _ (by rw [g18]; decide)).trans g18
  have g19 := (hup _ (by rw [g19]; decide)).trans g19
  have g20 := (hup _ (by rw [g20]; decide)).trans g20
  have g21 := (hup _ (by rw [g21]; decide)).trans g21
  have g22 := (hup _ (by rw [g22]; decide)).trans g22
  have g23 := (hup _ (by rw [g23]; decide)).trans g23
  refine cg_putF E hin hC fz_X10_82 rfl rfl dX10_init_540 (fun H1 locs hC ho hzs => ?_)
  have hC : tCG G τ τ s h 9 [.ref q2, .ref q2, .ref q3, .ref q4, .ref q5, .int 0, .int 0, .int 0, .int 0, .int 0, .int 0, .int 0, .ref q6, .ref q7, .ref q8, .ref q9, .ref q10, .ref q11, .int 0, .ref q12, .int 0, .int 0, .ref q13, .ref q14, .ref q15, .int 0, .int 0, .int 0, .ref q16, .ref q17, .int 0, .ref q18, .int 0, .ref q19, .int 0, .ref q20, .ref q21, .ref q22, .ref q23, .ref q24] H1 locs := hC
  have hM := mi_set hM hC.2.2.2.2.2.1 hzs ho
  refine lv_aload_n hx hb dX10_init_543 rfl (lv_at hl 0 rfl) ?_
  refine cg_get E hC ff_X10_9 (v := .ref q2) rfl dX10_init_544 ?_
  refine lv_iconst (v := 0) hx hb dX10_init_547 (by decide) ?_
  refine lv_iconst (v := -1) hx hb dX10_init_548 (by decide) ?_
  refine mi_ast (a' := (a3 (upN tZ 0 (-1)) tZ)) E hC hM hτ (c9 := 2) g2 (by decide) rfl (t_in (by decide) (by decide)) (lo := -1) (hi := 23) rfl (by decide) (by decide) (fun y hy => by have hy : qX (a3 (upN tZ 0 (-1)) tZ) 2 0 = some y := hy; rw [qX_at (a := a3 (upN tZ 0 (-1)) tZ) (k := 0) (t := upN tZ 0 (-1)) mu_2 rfl rfl] at hy; exact Option.some.inj hy) (fun _ _ _ h e => qX_st h e) dX10_init_549 (fun H1 locs hC hM => ?_)
  refine lv_aload_n hx hb dX10_init_550 rfl (lv_at hl 0 rfl) ?_
  refine cg_get E hC ff_X10_9 (v := .ref q2) rfl dX10_init_551 ?_
  refine lv_iconst (v := 1) hx hb dX10_init_554 (by decide) ?_
  refine lv_bipush (v := 100) hx hb dX10_init_555 (by decide) ?_
  refine mi_ast (a' := (a3 (upN tZ 0 (-1)) tZ)) E hC hM hτ (c9 := 2) g2 (by decide) rfl (t_in (by decide) (by decide)) (lo := 0) (hi := 200) rfl (by decide) (by decide) (fun y hy => by rw [qX_nk (a := (a3 (upN tZ 0 (-1)) tZ)) (by decide) (show tr (1 : Int32).toNatClampNeg = false from rfl)] at hy; cases hy) (fun _ _ _ _ e => e) dX10_init_557 (fun H1 locs hC hM => ?_)
  refine lv_aload_n hx hb dX10_init_558 rfl (lv_at hl 0 rfl) ?_
  refine cg_get E hC ff_X10_9 (v := .ref q2) rfl dX10_init_559 ?_
  refine lv_iconst (v := 2) hx hb dX10_init_562 (by decide) ?_
  refine lv_bipush (v := 100) hx hb dX10_init_563 (by decide) ?_
  refine mi_ast (a' := (a3 (upN tZ 0 (-1)) tZ)) E hC hM hτ (c9 := 2) g2 (by decide) rfl (t_in (by decide) (by decide)) (lo := 0) (hi := 1000) rfl (by decide) (by decide) (fun y hy => by rw [qX_nk (a := (a3 (upN tZ 0 (-1)) tZ)) (by decide) (show tr (2 : Int32).toNatClampNeg = false from rfl)] at hy; cases hy) (fun _ _ _ _ e => e) dX10_init_565 (fun H1 locs hC hM => ?_)
  refine lv_aload_n hx hb dX10_init_566 rfl (lv_at hl 0 rfl) ?_
  refine cg_get E hC ff_X10_9 (v := .ref q2) rfl dX10_init_567 ?_
  refine lv_iconst (v := 4) hx hb dX10_init_570 (by decide) ?_
  refine lv_iconst (v := 1) hx hb dX10_init_571 (by decide) ?_
  refine mi_ast (a' := (a3 (upN tZ 0 (-1)) tZ)) E hC hM hτ (c9 := 2) g2 (by decide) rfl (t_in (by decide) (by decide)) (lo := -2147483648) (hi := 2147483647) rfl (by decide) (by decide) (fun y hy => by rw [qX_nk (a := (a3 (upN tZ 0 (-1)) tZ)) (by decide) (show tr (4 : Int32).toNatClampNeg = false from rfl)] at hy; cases hy) (fun _ _ _ _ e => e) dX10_init_572 (fun H1 locs hC hM => ?_)
  exact mi_ret hr hlk E hC hM hsz ⟨rfl, rfl, _, _, rfl, rfl, TI_e, TI_f, by decide, by decide, TI_e0⟩ ⟨rfl, rfl, rfl, rfl, NMS_0, fun _ => rfl⟩ (show mFo (fun k v => ∀ σ9 : Nat → Nat, (∀ x, σ24 x ≠ 0 → σ9 x = σ24 x) → msv (σ9, 2, qX (a3 (upN tZ 0 (-1)) tZ)) 1 k v) 0 [.ref q2, .ref q2, .ref q3, .ref q4, .ref q5, .int 0, .int 0, .int 0, .int 0, .int 0, .int 0, .int 0, .ref q6, .ref q7, .ref q8, .ref q9, .ref q10, .ref q11, .int 0, .ref q12, .int 0, .int 0, .ref q13, .ref q14, .ref q15, .int 0, .int 0, .int 0, .ref q16, .ref q17, .int 0, .ref q18, .int 0, .ref q19, .int 0, .ref q20, .ref q21, .ref q22, .ref q23, .ref q24] from ⟨fun σ9 u9 => ⟨_, rfl, (u9 _ (by rw [g2]; decide)).trans g2⟩, fun σ9 u9 => ⟨_, rfl, (u9 _ (by rw [g2]; decide)).trans g2⟩, fun σ9 u9 => ⟨_, rfl, (u9 _ (by rw [g3]; decide)).trans g3⟩, fun σ9 u9 => ⟨_, rfl, (u9 _ (by rw [g4]; decide)).trans g4⟩, fun σ9 u9 => ⟨_, rfl, (u9 _ (by rw [g5]; decide)).trans g5⟩, fun σ9 u9 => ⟨_, rfl, by decide, by decide, fun y hy => by have hy : qX (a3 (upN tZ 0 (-1)) tZ) 1 5 = some y := hy; rw [qX_no (a := (a3 (upN tZ 0 (-1)) tZ)) rfl] at hy; cases hy⟩, fun σ9 u9 => ⟨_, rfl, by decide, by decide, fun y hy => by have hy : qX (a3 (upN tZ 0 (-1)) tZ) 1 6 = some y := hy; rw [qX_no (a := (a3 (upN tZ 0 (-1)) tZ)) rfl] at hy; cases hy⟩, fun σ9 u9 => ⟨_, rfl, by decide, by decide, fun y hy => by have hy : qX (a3 (upN tZ 0 (-1)) tZ) 1 7 = some y := hy; rw [qX_no (a := (a3 (upN tZ 0 (-1)) tZ)) rfl] at hy; cases hy⟩, fun σ9 u9 => ⟨_, rfl, by decide, by decide, fun y hy => by have hy : qX (a3 (upN tZ 0 (-1)) tZ) 1 8 = some y := hy; rw [qX_no (a := (a3 (upN tZ 0 (-1)) tZ)) rfl] at hy; cases hy⟩, fun σ9 u9 => ⟨_, rfl, by decide, by decide, fun y hy => by have hy : qX (a3 (upN tZ 0 (-1)) tZ) 1 9 = some y := hy; rw [qX_no (a := (a3 (upN tZ 0 (-1)) tZ)) rfl] at hy; cases hy⟩, fun σ9 u9 => ⟨_, rfl, by decide, by decide, fun y hy => by have hy : qX (a3 (upN tZ 0 (-1)) tZ) 1 10 = some y := hy; rw [qX_no (a := (a3 (upN tZ 0 (-1)) tZ)) rfl] at hy; cases hy⟩, fun σ9 u9 => ⟨_, rfl, by decide, by decide, fun y hy => by have hy : qX (a3 (upN tZ 0 (-1)) tZ) 1 11 = some y := hy; rw [qX_no (a := (a3 (upN tZ 0 (-1)) tZ)) rfl] at hy; cases hy⟩, fun σ9 u9 => ⟨_, rfl, (u9 _ (by rw [g6]; decide)).trans g6⟩, fun σ9 u9 => ⟨_, rfl, (u9 _ (by rw [g7]; decide)).trans g7⟩, fun σ9 u9 => ⟨_, rfl, (u9 _ (by rw [g8]; decide)).trans g8⟩, fun σ9 u9 => ⟨_, rfl, (u9 _ (by rw [g9]; decide)).trans g9⟩, fun σ9 u9 => ⟨_, rfl, (u9 _ (by rw [g10]; decide)).trans g10⟩, fun σ9 u9 => ⟨_, rfl, (u9 _ (by rw [g11]; decide)).trans g11⟩, fun σ9 u9 => ⟨_, rfl, by decide, by decide, fun y hy => by have hy : qX (a3 (upN tZ 0 (-1)) tZ) 1 18 = some y := hy; rw [qX_no (a := (a3 (upN tZ 0 (-1)) tZ)) rfl] at hy; cases hy⟩, fun σ9 u9 => ⟨_, rfl, (u9 _ (by rw [g12]; decide)).trans g12⟩, fun σ9 u9 => ⟨_, rfl, by decide, by decide, fun y hy => by have hy : qX (a3 (upN tZ 0 (-1)) tZ) 1 20 = some y := hy; rw [qX_no (a := (a3 (upN tZ 0 (-1)) tZ)) rfl] at hy; cases hy⟩, fun σ9 u9 => ⟨_, rfl, by decide, by decide, fun y hy => by have hy : qX (a3 (upN tZ 0 (-1)) tZ) 1 21 = some y := hy; rw [qX_no (a := (a3 (upN tZ 0 (-1)) tZ)) rfl] at hy; cases hy⟩, fun σ9 u9 => ⟨_, rfl, (u9 _ (by rw [g13]; decide)).trans g13⟩, fun σ9 u9 => ⟨_, rfl, (u9 _ (by rw [g14]; decide)).trans g14⟩, fun σ9 u9 => ⟨_, rfl, (u9 _ (by rw [g15]; decide)).trans g15⟩, fun σ9 u9 => ⟨_, rfl, by decide, by decide, fun y hy => by have hy : qX (a3 (upN tZ 0 (-1)) tZ) 1 25 = some y := hy; rw [qX_no (a := (a3 (upN tZ 0 (-1)) tZ)) rfl] at hy; cases hy⟩, fun σ9 u9 => ⟨_, rfl, by decide, by decide, fun y hy => by have hy : qX (a3 (upN tZ 0 (-1)) tZ) 1 26 = some y := hy; rw [qX_no (a := (a3 (upN tZ 0 (-1)) tZ)) rfl] at hy; cases hy⟩, fun σ9 u9 => ⟨_, rfl, by decide, by decide, fun y hy => by have hy : qX (a3 (upN tZ 0 (-1)) tZ) 1 27 = some y := hy; rw [qX_no (a := (a3 (upN tZ 0 (-1)) tZ)) rfl] at hy; cases hy⟩, fun σ9 u9 => ⟨_, rfl, (u9 _ (by rw [g16]; decide)).trans g16⟩, fun σ9 u9 => ⟨_, rfl, (u9 _ (by rw [g17]; decide)).trans g17⟩, fun σ9 u9 => ⟨_, rfl, by decide, by decide, fun y hy => by have hy : qX (a3 (upN tZ 0 (-1)) tZ) 1 30 = some y := hy; rw [qX_no (a := (a3 (upN tZ 0 (-1)) tZ)) rfl] at hy; cases hy⟩, fun σ9 u9 => ⟨_, rfl, (u9 _ (by rw [g18]; decide)).trans g18⟩, fun σ9 u9 => ⟨_, rfl, by decide, by decide, fun y hy => by have hy : qX (a3 (upN tZ 0 (-1)) tZ) 1 32 = some y := hy; rw [qX_no (a := (a3 (upN tZ 0 (-1)) tZ)) rfl] at hy; cases hy⟩, fun σ9 u9 => ⟨_, rfl, (u9 _ (by rw [g19]; decide)).trans g19⟩, fun σ9 u9 => ⟨_, rfl, by decide, by decide, fun y hy => by have hy : qX (a3 (upN tZ 0 (-1)) tZ) 1 34 = some y := hy; rw [qX_no (a := (a3 (upN tZ 0 (-1)) tZ)) rfl] at hy; cases hy⟩, fun σ9 u9 => ⟨_, rfl, (u9 _ (by rw [g20]; decide)).trans g20⟩, fun σ9 u9 => ⟨_, rfl, (u9 _ (by rw [g21]; decide)).trans g21⟩, fun σ9 u9 => ⟨_, rfl, (u9 _ (by rw [g22]; decide)).trans g22⟩, fun σ9 u9 => ⟨_, rfl, (u9 _ (by rw [g23]; decide)).trans g23⟩, fun σ9 u9 => ⟨_, rfl, (u9 _ (by rw [g24]; decide)).trans g24⟩, trivial⟩) (fun v h => by cases h; rfl) (fun v h => by cases h; rfl) dX10_init_573
