/-! ===== the reference: the laying of one box ===== -/
set_option maxHeartbeats 4000000 in
set_option maxRecDepth 100000 in
theorem c_X10_ends (l : Launch) (G : tG) (σ : Nat → Nat) (cu : Nat) (X : mX) (Fa : mF) (h0 : Nat) (x1 : Int32) (x2 : Int32) (x3 : Int32) (t0 : σ h0 = 1) (l1 : 0 ≤ x1.toInt) (u1 : x1.toInt ≤ 23) (hA : mAV (σ, cu, X)) (hd1 : 1 ≤ (Fa 1 18).toInt) : Met l yX10_ends (.code yX10_ends cX10_ends 4 none :: tWS) (tRm 2 44) (va_Pc [.ref h0, .int x1, .int x2, .int x3] (mPre G (σ, cu, kO PC X Fa))) (mQvX G (σ, cu, kO PC X Fa) (fun Z => ∃ F : mF, Z = (σ, cu, kO PC X F) ∧ SPo Fa F)) 0 0 (mA (σ, cu, kO PC X Fa)) := by
  refine mc_met (by decide) (Nat.le_of_ble_eq_true rfl) ?_
  intro p e s m below meth c E hr hlk hG ls hl
  have hl : lv_has ls 4 [(0, .ref h0), (1, .int x1), (2, .int x2), (3, .int x3)] := hl
  have hx := E.1
  have hb := E.2.1
  obtain ⟨H, eH⟩ : ∃ H, H = s.heap := ⟨_, rfl⟩
  obtain ⟨locs, eL⟩ : ∃ x : List Loc, x = [] := ⟨_, rfl⟩
  have hG : mGH G (σ, cu, kO PC X Fa) s H locs := by rw [eH, eL]; exact hG
  suffices hW : W p l e (tRm 2 44) s m ([.ref h0, .int x1, .int x2, .int x3] : List Value).toArray below meth c H locs 0 0 (MQ below (mQvX G (σ, cu, kO PC X Fa) (fun Z => ∃ F : mF, Z = (σ, cu, kO PC X F) ∧ SPo Fa F)) ([.ref h0, .int x1, .int x2, .int x3] : List Value).toArray s 0 0 (mA (σ, cu, kO PC X Fa))) (F0 m 0 ls []) by subst eH; subst eL; exact hW
  clear eH eL
  have hcu : mCu cu := hG.2.2.1
  refine lv_aload_n hx hb dX10_ends_0 rfl (lv_at hl 0 rfl) ?_
  refine lv_iload_n hx hb dX10_ends_1 rfl (lv_at hl 1 rfl) ?_
  refine lv_bipush (v := 32) hx hb dX10_ends_2 (by decide) ?_
  refine lv_iload_n hx hb dX10_ends_4 rfl (lv_at hl 2 rfl) ?_
  refine lv_aload_n hx hb dX10_ends_5 rfl (lv_at hl 0 rfl) ?_
  refine lv_iload_n hx hb dX10_ends_6 rfl (lv_at hl 1 rfl) ?_
  refine lv_iconst (v := 0) hx hb dX10_ends_7 (by decide) ?_
  refine tc_callp (mc_runV (As := [.int x1, .int 0]) (rest := [.int x2, .int 32, .int x1, .ref h0]) E hG (c_X10_low l G (σ, cu, kO PC X Fa) h0 x1 (0 : Int32) t0 (by omega) (by omega) (by decide) (by decide)) t0 rfl kv_X10_low ml_X10_224 ⟨rfl, rfl, Nat.le_of_ble_eq_true rfl, Nat.le_of_ble_eq_true rfl⟩ rfl hl.1 rfl (Nat.le_of_ble_eq_true rfl) ⟨Nat.zero_le _, Nat.zero_le _⟩ dX10_ends_8) (fun r1 pr1 => ?_)
  replace pr1 : 0 ≤ r1.toInt ∧ r1.toInt ≤ 1000 := pr1
  have k2 := kI_0
  refine lv_aload_n hx hb dX10_ends_11 rfl (lv_at hl 0 rfl) ?_
  refine lv_iload_n hx hb dX10_ends_12 rfl (lv_at hl 1 rfl) ?_
  refine lv_iconst (v := 0) hx hb dX10_ends_13 (by decide) ?_
  refine tc_callp (mc_runV (As := [.int x1, .int 0]) (rest := [.int r1, .int x2, .int 32, .int x1, .ref h0]) E hG (c_X10_most l G (σ, cu, kO PC X Fa) h0 x1 (0 : Int32) t0 (by omega) (by omega) (by decide) (by decide)) t0 rfl kv_X10_most ml_X10_227 ⟨rfl, rfl, Nat.le_of_ble_eq_true rfl, Nat.le_of_ble_eq_true rfl⟩ rfl hl.1 rfl (Nat.le_of_ble_eq_true rfl) ⟨Nat.zero_le _, Nat.zero_le _⟩ dX10_ends_14) (fun r3 pr3 => ?_)
  replace pr3 : 0 ≤ r3.toInt ∧ r3.toInt ≤ 1000 := pr3
  have k4 := kI_0
  refine tc_callp (mc_runS (As := [.int x2, .int r1, .int r3]) (rest := [.int 32, .int x1, .ref h0]) E hG (c_X10_held l G (σ, cu, kO PC X Fa) x2 r1 r3) ks_X10_held ml_X10_184 ⟨rfl, rfl, Nat.le_of_ble_eq_true rfl, Nat.le_of_ble_eq_true rfl⟩ rfl hl.1 rfl (Nat.le_of_ble_eq_true rfl) ⟨Nat.zero_le _, Nat.zero_le _⟩ dX10_ends_17) (fun r5 pr5 => ?_)
  replace pr5 : (r5 = x2 ∧ r1.toInt ≤ x2.toInt ∧ x2.toInt ≤ r3.toInt) ∨ (r5 = r1 ∧ x2.toInt < r1.toInt) ∨ (r5 = r3 ∧ r3.toInt < x2.toInt) := pr5
  have br5 : 0 ≤ r5.toInt ∧ r5.toInt ≤ 1000 := by rcases pr5 with ⟨w, _⟩ | ⟨w, _⟩ | ⟨w, _⟩ <;> rw [w] <;> omega
  refine mc_callv hG (mc_runV (As := [.int x1, .int 32, .int r5]) (rest := []) E hG (c_X10_put l G (σ, cu, kO PC X Fa) h0 x1 (32 : Int32) r5 t0 (by omega) (by omega) (by decide) (by decide) (0) (1000) rfl (by omega) (by omega) ((PC_AV hA hcu).2.2 _ _ (by omega) (by omega) (by decide) (by decide))) t0 rfl kv_X10_put ml_X10_102 ⟨rfl, rfl, Nat.le_of_ble_eq_true rfl, Nat.le_of_ble_eq_true rfl⟩ rfl hl.1 rfl (Nat.le_of_ble_eq_true rfl) ⟨Nat.zero_le _, Nat.zero_le _⟩ dX10_ends_20) (fun H locs hG => ?_)
  refine lv_aload_n hx hb dX10_ends_23 rfl (lv_at hl 0 rfl) ?_
  refine lv_iload_n hx hb dX10_ends_24 rfl (lv_at hl 1 rfl) ?_
  refine lv_bipush (v := 33) hx hb dX10_ends_25 (by decide) ?_
  refine lv_iload_n hx hb dX10_ends_27 rfl (lv_at hl 3 rfl) ?_
  refine lv_aload_n hx hb dX10_ends_28 rfl (lv_at hl 0 rfl) ?_
  refine lv_iload_n hx hb dX10_ends_29 rfl (lv_at hl 1 rfl) ?_
  refine lv_iconst (v := 1) hx hb dX10_ends_30 (by decide) ?_
  refine tc_callp (mc_runV (As := [.int x1, .int 1]) (rest := [.int x3, .int 33, .int x1, .ref h0]) E hG (c_X10_low l G (σ, cu, kO PC X Fa) h0 x1 (1 : Int32) t0 (by omega) (by omega) (by decide) (by decide)) t0 rfl kv_X10_low ml_X10_224 ⟨rfl, rfl, Nat.le_of_ble_eq_true rfl, Nat.le_of_ble_eq_true rfl⟩ rfl hl.1 rfl (Nat.le_of_ble_eq_true rfl) ⟨Nat.zero_le _, Nat.zero_le _⟩ dX10_ends_31) (fun r6 pr6 => ?_)
  replace pr6 : 0 ≤ r6.toInt ∧ r6.toInt ≤ 1000 := pr6
  have k7 := kI_1
  refine lv_aload_n hx hb dX10_ends_34 rfl (lv_at hl 0 rfl) ?_
  refine lv_iload_n hx hb dX10_ends_35 rfl (lv_at hl 1 rfl) ?_
  refine lv_iconst (v := 1) hx hb dX10_ends_36 (by decide) ?_
  refine tc_callp (mc_runV (As := [.int x1, .int 1]) (rest := [.int r6, .int x3, .int 33, .int x1, .ref h0]) E hG (c_X10_most l G (σ, cu, kO PC X Fa) h0 x1 (1 : Int32) t0 (by omega) (by omega) (by decide) (by decide)) t0 rfl kv_X10_most ml_X10_227 ⟨rfl, rfl, Nat.le_of_ble_eq_true rfl, Nat.le_of_ble_eq_true rfl⟩ rfl hl.1 rfl (Nat.le_of_ble_eq_true rfl) ⟨Nat.zero_le _, Nat.zero_le _⟩ dX10_ends_37) (fun r8 pr8 => ?_)
  replace pr8 : 0 ≤ r8.toInt ∧ r8.toInt ≤ 1000 := pr8
  have k9 := kI_1
  refine tc_callp (mc_runS (As := [.int x3, .int r6, .int r8]) (rest := [.int 33, .int x1, .ref h0]) E hG (c_X10_held l G (σ, cu, kO PC X Fa) x3 r6 r8) ks_X10_held ml_X10_184 ⟨rfl, rfl, Nat.le_of_ble_eq_true rfl, Nat.le_of_ble_eq_true rfl⟩ rfl hl.1 rfl (Nat.le_of_ble_eq_true rfl) ⟨Nat.zero_le _, Nat.zero_le _⟩ dX10_ends_40) (fun r10 pr10 => ?_)
  replace pr10 : (r10 = x3 ∧ r6.toInt ≤ x3.toInt ∧ x3.toInt ≤ r8.toInt) ∨ (r10 = r6 ∧ x3.toInt < r6.toInt) ∨ (r10 = r8 ∧ r8.toInt < x3.toInt) := pr10
  have br10 : 0 ≤ r10.toInt ∧ r10.toInt ≤ 1000 := by rcases pr10 with ⟨w, _⟩ | ⟨w, _⟩ | ⟨w, _⟩ <;> rw [w] <;> omega
  refine mc_callv hG (mc_runV (As := [.int x1, .int 33, .int r10]) (rest := []) E hG (c_X10_put l G (σ, cu, kO PC X Fa) h0 x1 (33 : Int32) r10 t0 (by omega) (by omega) (by decide) (by decide) (0) (1000) rfl (by omega) (by omega) ((PC_AV hA hcu).2.2 _ _ (by omega) (by omega) (by decide) (by decide))) t0 rfl kv_X10_put ml_X10_102 ⟨rfl, rfl, Nat.le_of_ble_eq_true rfl, Nat.le_of_ble_eq_true rfl⟩ rfl hl.1 rfl (Nat.le_of_ble_eq_true rfl) ⟨Nat.zero_le _, Nat.zero_le _⟩ dX10_ends_43) (fun H locs hG => ?_)
  refine lv_aload_n hx hb dX10_ends_46 rfl (lv_at hl 0 rfl) ?_
  refine lv_iload_n hx hb dX10_ends_47 rfl (lv_at hl 1 rfl) ?_
  refine lv_bipush (v := 34) hx hb dX10_ends_48 (by decide) ?_
  refine lv_iconst (v := 0) hx hb dX10_ends_50 (by decide) ?_
  have k11 := kI_0
  refine mc_callv hG (mc_runV (As := [.int x1, .int 34, .int 0]) (rest := []) E hG (c_X10_put l G (σ, cu, kO PC X Fa) h0 x1 (34 : Int32) (0 : Int32) t0 (by omega) (by omega) (by decide) (by decide) (-2147483648) (2147483647) rfl (t_any1 _) (t_any2 _) ((PC_AV hA hcu).2.2 _ _ (by omega) (by omega) (by decide) (by decide))) t0 rfl kv_X10_put ml_X10_102 ⟨rfl, rfl, Nat.le_of_ble_eq_true rfl, Nat.le_of_ble_eq_true rfl⟩ rfl hl.1 rfl (Nat.le_of_ble_eq_true rfl) ⟨Nat.zero_le _, Nat.zero_le _⟩ dX10_ends_51) (fun H locs hG => ?_)
  refine lv_aload_n hx hb dX10_ends_54 rfl (lv_at hl 0 rfl) ?_
  refine lv_iload_n hx hb dX10_ends_55 rfl (lv_at hl 1 rfl) ?_
  refine lv_bipush (v := 35) hx hb dX10_ends_56 (by decide) ?_
  refine lv_iconst (v := 0) hx hb dX10_ends_58 (by decide) ?_
  have k12 := kI_0
  refine mc_callv hG (mc_runV (As := [.int x1, .int 35, .int 0]) (rest := []) E hG (c_X10_put l G (σ, cu, kO PC X Fa) h0 x1 (35 : Int32) (0 : Int32) t0 (by omega) (by omega) (by decide) (by decide) (-2147483648) (2147483647) rfl (t_any1 _) (t_any2 _) ((PC_AV hA hcu).2.2 _ _ (by omega) (by omega) (by decide) (by decide))) t0 rfl kv_X10_put ml_X10_102 ⟨rfl, rfl, Nat.le_of_ble_eq_true rfl, Nat.le_of_ble_eq_true rfl⟩ rfl hl.1 rfl (Nat.le_of_ble_eq_true rfl) ⟨Nat.zero_le _, Nat.zero_le _⟩ dX10_ends_59) (fun H locs hG => ?_)
  refine lv_aload_n hx hb dX10_ends_62 rfl (lv_at hl 0 rfl) ?_
  refine lv_iload_n hx hb dX10_ends_63 rfl (lv_at hl 1 rfl) ?_
  refine lv_bipush (v := 36) hx hb dX10_ends_64 (by decide) ?_
  refine lv_iconst (v := 0) hx hb dX10_ends_66 (by decide) ?_
  have k13 := kI_0
  refine mc_callv hG (mc_runV (As := [.int x1, .int 36, .int 0]) (rest := []) E hG (c_X10_put l G (σ, cu, kO PC X Fa) h0 x1 (36 : Int32) (0 : Int32) t0 (by omega) (by omega) (by decide) (by decide) (0) (2) rfl (by omega) (by omega) ((PC_AV hA hcu).2.2 _ _ (by omega) (by omega) (by decide) (by decide))) t0 rfl kv_X10_put ml_X10_102 ⟨rfl, rfl, Nat.le_of_ble_eq_true rfl, Nat.le_of_ble_eq_true rfl⟩ rfl hl.1 rfl (Nat.le_of_ble_eq_true rfl) ⟨Nat.zero_le _, Nat.zero_le _⟩ dX10_ends_67) (fun H locs hG => ?_)
  refine lv_aload_n hx hb dX10_ends_70 rfl (lv_at hl 0 rfl) ?_
  refine lv_iload_n hx hb dX10_ends_71 rfl (lv_at hl 1 rfl) ?_
  refine lv_bipush (v := 19) hx hb dX10_ends_72 (by decide) ?_
  refine lv_iconst (v := 0) hx hb dX10_ends_74 (by decide) ?_
  have k14 := kI_0
  refine mc_callv hG (mc_runV (As := [.int x1, .int 19, .int 0]) (rest := []) E hG (c_X10_put l G (σ, cu, kO PC X Fa) h0 x1 (19 : Int32) (0 : Int32) t0 (by omega) (by omega) (by decide) (by decide) (0) (1) rfl (by omega) (by omega) ((PC_AV hA hcu).2.2 _ _ (by omega) (by omega) (by decide) (by decide))) t0 rfl kv_X10_put ml_X10_102 ⟨rfl, rfl, Nat.le_of_ble_eq_true rfl, Nat.le_of_ble_eq_true rfl⟩ rfl hl.1 rfl (Nat.le_of_ble_eq_true rfl) ⟨Nat.zero_le _, Nat.zero_le _⟩ dX10_ends_75) (fun H locs hG => ?_)
  refine lv_aload_n hx hb dX10_ends_78 rfl (lv_at hl 0 rfl) ?_
  refine lv_iload_n hx hb dX10_ends_79 rfl (lv_at hl 1 rfl) ?_
  refine lv_bipush (v := 24) hx hb dX10_ends_80 (by decide) ?_
  refine lv_iconst (v := 0) hx hb dX10_ends_82 (by decide) ?_
  have k15 := kI_0
  refine mc_callv hG (mc_runV (As := [.int x1, .int 24, .int 0]) (rest := []) E hG (c_X10_put l G (σ, cu, kO PC X Fa) h0 x1 (24 : Int32) (0 : Int32) t0 (by omega) (by omega) (by decide) (by decide) (0) (1) rfl (by omega) (by omega) ((PC_AV hA hcu).2.2 _ _ (by omega) (by omega) (by decide) (by decide))) t0 rfl kv_X10_put ml_X10_102 ⟨rfl, rfl, Nat.le_of_ble_eq_true rfl, Nat.le_of_ble_eq_true rfl⟩ rfl hl.1 rfl (Nat.le_of_ble_eq_true rfl) ⟨Nat.zero_le _, Nat.zero_le _⟩ dX10_ends_83) (fun H locs hG => ?_)
  refine lv_aload_n hx hb dX10_ends_86 rfl (lv_at hl 0 rfl) ?_
  refine lv_dup hx hb dX10_ends_87 rfl ?_
  refine mc_geti E hG t0 mi_221 dX10_ends_88 (fun z16 lz16 uz16 qz16 => ?_)
  have wz16 := kq qz16 (PC_d)
  have hd9 : 1 ≤ z16.toInt := by rw [wz16]; exact hd1
  refine lv_iconst (v := 1) hx hb dX10_ends_91 (by decide) ?_
  refine lv_isub hx hb dX10_ends_92 ?_
  refine lv_topi (fun z17 ez17 => ?_)
  have tz17 := tn_sub ez17 rfl kI_1 (by omega) (by omega)
  have hd8 : z17.toInt = (Fa 1 18).toInt - 1 := by rw [tz17, ← wz16]
  refine mc_putX E hG t0 mp_221 (by omega) (by omega) rfl rfl dX10_ends_93 (fun H locs hG => ?_)
  have hG := kO_set (PC_d) hG
  obtain ⟨F18, eF18⟩ : ∃ Z : mF, Z = up2 Fa 1 18 z17 := ⟨_, rfl⟩
  rw [← eF18] at hG
  exact mc_vretX E hr hlk hG rfl ⟨_, rfl, SPo_of eF18 (by omega)⟩ dX10_ends_96

set_option maxHeartbeats 4000000 in
set_option maxRecDepth 100000 in
theorem c_X10_lay (l : Launch) (G : tG) (σ : Nat → Nat) (cu : Nat) (X : mX) (Fa : mF) (h0 : Nat) (x1 : Int32) (x2 : Int32) (x3 : Int32) (x4 : Int32) (x5 : Int32) (t0 : σ h0 = 1) (l1 : 0 ≤ x1.toInt) (u1 : x1.toInt ≤ 23) (l2 : 0 ≤ x2.toInt) (u2 : x2.toInt ≤ 1000) (l3 : 0 ≤ x3.toInt) (u3 : x3.toInt ≤ 1000) (l4 : 0 ≤ x4.toInt) (u4 : x4.toInt ≤ 1000) (l5 : 0 ≤ x5.toInt) (u5 : x5.toInt ≤ 1000) (hA : mAV (σ, cu, X)) (hd2 : (Fa 1 18).toInt ≤ 28) : Met l yX10_lay (.code yX10_lay cX10_lay 7 none :: tWS) (tRm 1 23) (va_Pc [.ref h0, .int x1, .int x2, .int x3, .int x4, .int x5] (mPre G (σ, cu, kO PC X Fa))) (mQvX G (σ, cu, kO PC X Fa) (fun Z => ∃ F : mF, Z = (σ, cu, kO PC X F) ∧ LyP Fa F x1)) 0 0 (mA (σ, cu, kO PC X Fa)) := by
  refine mc_met (by decide) (Nat.le_of_ble_eq_true rfl) ?_
  intro p e s m below meth c E hr hlk hG ls hl
  have hl : lv_has ls 7 [(0, .ref h0), (1, .int x1), (2, .int x2), (3, .int x3), (4, .int x4), (5, .int x5)] := hl
  have hx := E.1
  have hb := E.2.1
  obtain ⟨H, eH⟩ : ∃ H, H = s.heap := ⟨_, rfl⟩
  obtain ⟨locs, eL⟩ : ∃ x : List Loc, x = [] := ⟨_, rfl⟩
  have hG : mGH G (σ, cu, kO PC X Fa) s H locs := by rw [eH, eL]; exact hG
  suffices hW : W p l e (tRm 1 23) s m ([.ref h0, .int x1, .int x2, .int x3, .int x4, .int x5] : List Value).toArray below meth c H locs 0 0 (MQ below (mQvX G (σ, cu, kO PC X Fa) (fun Z => ∃ F : mF, Z = (σ, cu, kO PC X F) ∧ LyP Fa F x1)) ([.ref h0, .int x1, .int x2, .int x3, .int x4, .int x5] : List Value).toArray s 0 0 (mA (σ, cu, kO PC X Fa))) (F0 m 0 ls []) by subst eH; subst eL; exact hW
  clear eH eL
  have hcu : mCu cu := hG.2.2.1
  refine lv_aload_n hx hb dX10_lay_0 rfl (lv_at hl 0 rfl) ?_
  refine lv_iload_n hx hb dX10_lay_1 rfl (lv_at hl 1 rfl) ?_
  refine lv_bipush (v := 25) hx hb dX10_lay_2 (by decide) ?_
  refine tc_callp (mc_runV (As := [.int x1, .int 25]) (rest := []) E hG (c_X10_get l G (σ, cu, kO PC X Fa) h0 x1 (25 : Int32) t0 (by omega) (by omega) (by decide) (by decide)) t0 rfl kv_X10_get ml_X10_91 ⟨rfl, rfl, Nat.le_of_ble_eq_true rfl, Nat.le_of_ble_eq_true rfl⟩ rfl hl.1 rfl (Nat.le_of_ble_eq_true rfl) ⟨Nat.zero_le _, Nat.zero_le _⟩ dX10_lay_4) (fun r1 pr1 => ?_)
  replace pr1 : mV (σ, cu, kO PC X Fa) (ix x1.toInt (25 : Int32).toInt) r1 := pr1
  have pr1 := mV_l pr1 kI_25
  have br1 := mV_25 pr1 (by omega)
  have k2 := kI_25
  refine lv_iconst (v := 1) hx hb dX10_lay_7 (by decide) ?_
  refine lv_icmp_ne (tgt := 61) hx hb dX10_lay_8 (by decide) (fun c3 => ?_) (fun c3 => ?_)
  · skip
    have ic3 := tn_ne rfl kI_1 c3
    refine lv_iconst (v := 0) hx hb dX10_lay_61 (by decide) ?_
    refine lv_istore (lv' := [(6, .int 0), (0, .ref h0), (1, .int x1), (2, .int x2), (3, .int x3), (4, .int x4), (5, .int x5)]) hx hb dX10_lay_62 hl (by decide) rfl (fun ls hl => ?_)
    refine lv_aload_n hx hb dX10_lay_64 rfl (lv_at hl 1 rfl) ?_
    refine lv_iload_n hx hb dX10_lay_65 rfl (lv_at hl 2 rfl) ?_
    refine lv_bipush (v := 19) hx hb dX10_lay_66 (by decide) ?_
    refine tc_callp (mc_runV (As := [.int x1, .int 19]) (rest := []) E hG (c_X10_get l G (σ, cu, kO PC X Fa) h0 x1 (19 : Int32) t0 (by omega) (by omega) (by decide) (by decide)) t0 rfl kv_X10_get ml_X10_91 ⟨rfl, rfl, Nat.le_of_ble_eq_true rfl, Nat.le_of_ble_eq_true rfl⟩ rfl hl.1 rfl (Nat.le_of_ble_eq_true rfl) ⟨Nat.zero_le _, Nat.zero_le _⟩ dX10_lay_68) (fun r4 pr4 => ?_)
    replace pr4 : mV (σ, cu, kO PC X Fa) (ix x1.toInt (19 : Int32).toInt) r4 := pr4
    have pr4 := mV_l pr4 kI_19
    have br4 := mV_19 pr4 (by omega)
    have k5 := kI_19
    refine lv_if_ne (tgt := 90) hx hb dX10_lay_71 (by decide) (fun c6 => ?_) (fun c6 => ?_)
    · skip
      have ic6 := tn_ne rfl kI_0 c6
      refine lv_aload_n hx hb dX10_lay_90 rfl (lv_at hl 1 rfl) ?_
      refine lv_dup hx hb dX10_lay_91 rfl ?_
      refine mc_geti E hG t0 mi_215 dX10_lay_92 (fun z7 lz7 uz7 qz7 => ?_)
      refine lv_iconst (v := 1) hx hb dX10_lay_95 (by decide) ?_
      refine lv_iadd hx hb dX10_lay_96 ?_
      refine lv_topi (fun z8 ez8 => ?_)
      refine mc_put E hG t0 mp_215 ((PC_AV hA hcu).2.1 _ (by decide)) (t_any1 _) (t_any2 _) rfl rfl dX10_lay_97 (fun H locs hG => ?_)
      refine lv_aload_n hx hb dX10_lay_100 rfl (lv_at hl 1 rfl) ?_
      refine lv_dup hx hb dX10_lay_101 rfl ?_
      refine mc_geti E hG t0 mi_218 dX10_lay_102 (fun z9 lz9 uz9 qz9 => ?_)
      refine lv_iconst (v := 1) hx hb dX10_lay_105 (by decide) ?_
      refine lv_iload_n hx hb dX10_lay_106 rfl (lv_at hl 2 rfl) ?_
      refine lv_ishl hx hb dX10_lay_107 ?_
      refine lv_topi (fun z10 ez10 => ?_)
      refine lv_ior hx hb dX10_lay_108 ?_
      refine lv_topi (fun z11 ez11 => ?_)
      refine mc_put E hG t0 mp_218 ((PC_AV hA hcu).2.1 _ (by decide)) (t_any1 _) (t_any2 _) rfl rfl dX10_lay_109 (fun H locs hG => ?_)
      refine lv_aload_n hx hb dX10_lay_112 rfl (lv_at hl 1 rfl) ?_
      refine lv_iload_n hx hb dX10_lay_113 rfl (lv_at hl 2 rfl) ?_
      refine lv_bipush (v := 25) hx hb dX10_lay_114 (by decide) ?_
      refine lv_iconst (v := 1) hx hb dX10_lay_116 (by decide) ?_
      have k12 := kI_1
      refine mc_callv hG (mc_runV (As := [.int x1, .int 25, .int 1]) (rest := []) E hG (c_X10_put l G (σ, cu, kO PC X Fa) h0 x1 (25 : Int32) (1 : Int32) t0 (by omega) (by omega) (by decide) (by decide) (0) (1) rfl (by omega) (by omega) ((PC_AV hA hcu).2.2 _ _ (by omega) (by omega) (by decide) (by decide))) t0 rfl kv_X10_put ml_X10_102 ⟨rfl, rfl, Nat.le_of_ble_eq_true rfl, Nat.le_of_ble_eq_true rfl⟩ rfl hl.1 rfl (Nat.le_of_ble_eq_true rfl) ⟨Nat.zero_le _, Nat.zero_le _⟩ dX10_lay_117) (fun H locs hG => ?_)
      refine lv_aload_n hx hb dX10_lay_120 rfl (lv_at hl 1 rfl) ?_
      refine lv_iload_n hx hb dX10_lay_121 rfl (lv_at hl 2 rfl) ?_
      refine lv_bipush (v := 26) hx hb dX10_lay_122 (by decide) ?_
      refine lv_iload_n hx hb dX10_lay_124 rfl (lv_at hl 3 rfl) ?_
      refine mc_callv hG (mc_runV (As := [.int x1, .int 26, .int x2]) (rest := []) E hG (c_X10_put l G (σ, cu, kO PC X Fa) h0 x1 (26 : Int32) x2 t0 (by omega) (by omega) (by decide) (by decide) (0) (1000) rfl (by omega) (by omega) ((PC_AV hA hcu).2.2 _ _ (by omega) (by omega) (by decide) (by decide))) t0 rfl kv_X10_put ml_X10_102 ⟨rfl, rfl, Nat.le_of_ble_eq_true rfl, Nat.le_of_ble_eq_true rfl⟩ rfl hl.1 rfl (Nat.le_of_ble_eq_true rfl) ⟨Nat.zero_le _, Nat.zero_le _⟩ dX10_lay_125) (fun H locs hG => ?_)
      refine lv_aload_n hx hb dX10_lay_128 rfl (lv_at hl 1 rfl) ?_
      refine lv_iload_n hx hb dX10_lay_129 rfl (lv_at hl 2 rfl) ?_
      refine lv_bipush (v := 27) hx hb dX10_lay_130 (by decide) ?_
      refine lv_iload_n hx hb dX10_lay_132 rfl (lv_at hl 4 rfl) ?_
      refine mc_callv hG (mc_runV (As := [.int x1, .int 27, .int x3]) (rest := []) E hG (c_X10_put l G (σ, cu, kO PC X Fa) h0 x1 (27 : Int32) x3 t0 (by omega) (by omega) (by decide) (by decide) (0) (1000) rfl (by omega) (by omega) ((PC_AV hA hcu).2.2 _ _ (by omega) (by omega) (by decide) (by decide))) t0 rfl kv_X10_put ml_X10_102 ⟨rfl, rfl, Nat.le_of_ble_eq_true rfl, Nat.le_of_ble_eq_true rfl⟩ rfl hl.1 rfl (Nat.le_of_ble_eq_true rfl) ⟨Nat.zero_le _, Nat.zero_le _⟩ dX10_lay_133) (fun H locs hG => ?_)
      refine lv_aload_n hx hb dX10_lay_136 rfl (lv_at hl 1 rfl) ?_
      refine lv_iload_n hx hb dX10_lay_137 rfl (lv_at hl 2 rfl) ?_
      refine lv_bipush (v := 28) hx hb dX10_lay_138 (by decide) ?_
      refine lv_iload hx hb dX10_lay_140 (lv_at hl 5 rfl) ?_
      refine mc_callv hG (mc_runV (As := [.int x1, .int 28, .int x4]) (rest := []) E hG (c_X10_put l G (σ, cu, kO PC X Fa) h0 x1 (28 : Int32) x4 t0 (by omega) (by omega) (by decide) (by decide) (0) (1000) rfl (by omega) (by omega) ((PC_AV hA hcu).2.2 _ _ (by omega) (by omega) (by decide) (by decide))) t0 rfl kv_X10_put ml_X10_102 ⟨rfl, rfl, Nat.le_of_ble_eq_true rfl, Nat.le_of_ble_eq_true rfl⟩ rfl hl.1 rfl (Nat.le_of_ble_eq_true rfl) ⟨Nat.zero_le _, Nat.zero_le _⟩ dX10_lay_142) (fun H locs hG => ?_)
      refine lv_aload_n hx hb dX10_lay_145 rfl (lv_at hl 1 rfl) ?_
      refine lv_iload_n hx hb dX10_lay_146 rfl (lv_at hl 2 rfl) ?_
      refine lv_bipush (v := 29) hx hb dX10_lay_147 (by decide) ?_
      refine lv_iload hx hb dX10_lay_149 (lv_at hl 6 rfl) ?_
      refine mc_callv hG (mc_runV (As := [.int x1, .int 29, .int x5]) (rest := []) E hG (c_X10_put l G (σ, cu, kO PC X Fa) h0 x1 (29 : Int32) x5 t0 (by omega) (by omega) (by decide) (by decide) (0) (1000) rfl (by omega) (by omega) ((PC_AV hA hcu).2.2 _ _ (by omega) (by omega) (by decide) (by decide))) t0 rfl kv_X10_put ml_X10_102 ⟨rfl, rfl, Nat.le_of_ble_eq_true rfl, Nat.le_of_ble_eq_true rfl⟩ rfl hl.1 rfl (Nat.le_of_ble_eq_true rfl) ⟨Nat.zero_le _, Nat.zero_le _⟩ dX10_lay_151) (fun H locs hG => ?_)
      refine lv_aload_n hx hb dX10_lay_154 rfl (lv_at hl 1 rfl) ?_
      refine mc_getr E hG t0 mr_39 dX10_lay_155 (fun oa13 hoa13 => ?_)
      refine lv_aload_n hx hb dX10_lay_158 rfl (lv_at hl 1 rfl) ?_
      refine mc_geti E hG t0 mi_221 dX10_lay_159 (fun z14 lz14 uz14 qz14 => ?_)
      have wz14 := kq qz14 (PC_d)
      have hd7 : z14.toInt ≤ 28 := by rw [wz14]; exact hd2
      refine lv_iload_n hx hb dX10_lay_162 rfl (lv_at hl 2 rfl) ?_
      refine mc_iastX E hG hoa13 ma_10.1 ma_10.2.1 (ma_10.2.2 _) (t_in (by omega) (by omega)) (by omega) (by omega) dX10_lay_163 (fun H locs hG => ?_)
      have hG := kO_set (PC_10) hG
      obtain ⟨F15, eF15⟩ : ∃ Z : mF, Z = up2 Fa 10 (z14).toNatClampNeg x1 := ⟨_, rfl⟩
      rw [← eF15] at hG
      refine lv_aload_n hx hb dX10_lay_164 rfl (lv_at hl 1 rfl) ?_
      refine mc_getr E hG t0 mr_42 dX10_lay_165 (fun oa16 hoa16 => ?_)
      refine lv_iload_n hx hb dX10_lay_168 rfl (lv_at hl 2 rfl) ?_
      refine lv_iconst (v := 0) hx hb dX10_lay_169 (by decide) ?_
      refine mc_iastX E hG hoa16 ma_11.1 ma_11.2.1 (ma_11.2.2 _) (t_in (by omega) (by omega)) (by decide) (by decide) dX10_lay_170 (fun H locs hG => ?_)
      have hG := kO_set (PC_11) hG
      obtain ⟨F17, eF17⟩ : ∃ Z : mF, Z = up2 F15 11 (x1).toNatClampNeg (0 : Int32) := ⟨_, rfl⟩
      rw [← eF17] at hG
      refine lv_aload_n hx hb dX10_lay_171 rfl (lv_at hl 1 rfl) ?_
      refine lv_dup hx hb dX10_lay_172 rfl ?_
      refine mc_geti E hG t0 mi_221 dX10_lay_173 (fun z18 lz18 uz18 qz18 => ?_)
      have wz18 := kq qz18 (PC_d)
      have hd9 : z18.toInt ≤ 28 := by rw [wz18, eF17, up2_ne (by omega), eF15, up2_ne (by omega)]; exact hd2
      refine lv_iconst (v := 1) hx hb dX10_lay_176 (by decide) ?_
      refine lv_iadd hx hb dX10_lay_177 ?_
      refine lv_topi (fun z19 ez19 => ?_)
      have tz19 := tn_add ez19 rfl kI_1 (by omega) (by omega)
      have hd8 : z19.toInt = (F17 1 18).toInt + 1 := by rw [tz19, ← wz18]
      refine mc_putX E hG t0 mp_221 (by omega) (by omega) rfl rfl dX10_lay_178 (fun H locs hG => ?_)
      have hG := kO_set (PC_d) hG
      obtain ⟨F20, eF20⟩ : ∃ Z : mF, Z = up2 F17 1 18 z19 := ⟨_, rfl⟩
      rw [← eF20] at hG
      exact mc_vretX E hr hlk hG rfl ⟨_, rfl, LyP_of wz14 eF15 eF17 eF20 hd8⟩ dX10_lay_181
    · skip
      have ic6 := tn_eq rfl kI_0 c6
      refine lv_iload hx hb dX10_lay_74 (lv_at hl 0 rfl) ?_
      refine lv_if_eq (tgt := 90) hx hb dX10_lay_76 (by decide) (fun c21 => ?_) (fun c21 => ?_)
      · skip
        have ic21 := tn_eq kI_0 kI_0 c21
        refine lv_aload_n hx hb dX10_lay_90 rfl (lv_at hl 1 rfl) ?_
        refine lv_dup hx hb dX10_lay_91 rfl ?_
        refine mc_geti E hG t0 mi_215 dX10_lay_92 (fun z22 lz22 uz22 qz22 => ?_)
        refine lv_iconst (v := 1) hx hb dX10_lay_95 (by decide) ?_
        refine lv_iadd hx hb dX10_lay_96 ?_
        refine lv_topi (fun z23 ez23 => ?_)
        refine mc_put E hG t0 mp_215 ((PC_AV hA hcu).2.1 _ (by decide)) (t_any1 _) (t_any2 _) rfl rfl dX10_lay_97 (fun H locs hG => ?_)
        refine lv_aload_n hx hb dX10_lay_100 rfl (lv_at hl 1 rfl) ?_
        refine lv_dup hx hb dX10_lay_101 rfl ?_
        refine mc_geti E hG t0 mi_218 dX10_lay_102 (fun z24 lz24 uz24 qz24 => ?_)
        refine lv_iconst (v := 1) hx hb dX10_lay_105 (by decide) ?_
        refine lv_iload_n hx hb dX10_lay_106 rfl (lv_at hl 2 rfl) ?_
        refine lv_ishl hx hb dX10_lay_107 ?_
        refine lv_topi (fun z25 ez25 => ?_)
        refine lv_ior hx hb dX10_lay_108 ?_
        refine lv_topi (fun z26 ez26 => ?_)
        refine mc_put E hG t0 mp_218 ((PC_AV hA hcu).2.1 _ (by decide)) (t_any1 _) (t_any2 _) rfl rfl dX10_lay_109 (fun H locs hG => ?_)
        refine lv_aload_n hx hb dX10_lay_112 rfl (lv_at hl 1 rfl) ?_
        refine lv_iload_n hx hb dX10_lay_113 rfl (lv_at hl 2 rfl) ?_
        refine lv_bipush (v := 25) hx hb dX10_lay_114 (by decide) ?_
        refine lv_iconst (v := 1) hx hb dX10_lay_116 (by decide) ?_
        have k27 := kI_1
        refine mc_callv hG (mc_runV (As := [.int x1, .int 25, .int 1]) (rest := []) E hG (c_X10_put l G (σ, cu, kO PC X Fa) h0 x1 (25 : Int32) (1 : Int32) t0 (by omega) (by omega) (by decide) (by decide) (0) (1) rfl (by omega) (by omega) ((PC_AV hA hcu).2.2 _ _ (by omega) (by omega) (by decide) (by decide))) t0 rfl kv_X10_put ml_X10_102 ⟨rfl, rfl, Nat.le_of_ble_eq_true rfl, Nat.le_of_ble_eq_true rfl⟩ rfl hl.1 rfl (Nat.le_of_ble_eq_true rfl) ⟨Nat.zero_le _, Nat.zero_le _⟩ dX10_lay_117) (fun H locs hG => ?_)
        refine lv_aload_n hx hb dX10_lay_120 rfl (lv_at hl 1 rfl) ?_
        refine lv_iload_n hx hb dX10_lay_121 rfl (lv_at hl 2 rfl) ?_
        refine lv_bipush (v := 26) hx hb dX10_lay_122 (by decide) ?_
        refine lv_iload_n hx hb dX10_lay_124 rfl (lv_at hl 3 rfl) ?_
        refine mc_callv hG (mc_runV (As := [.int x1, .int 26, .int x2]) (rest := []) E hG (c_X10_put l G (σ, cu, kO PC X Fa) h0 x1 (26 : Int32) x2 t0 (by omega) (by omega) (by decide) (by decide) (0) (1000) rfl (by omega) (by omega) ((PC_AV hA hcu).2.2 _ _ (by omega) (by omega) (by decide) (by decide))) t0 rfl kv_X10_put ml_X10_102 ⟨rfl, rfl, Nat.le_of_ble_eq_true rfl, Nat.le_of_ble_eq_true rfl⟩ rfl hl.1 rfl (Nat.le_of_ble_eq_true rfl) ⟨Nat.zero_le _, Nat.zero_le _⟩ dX10_lay_125) (fun H locs hG => ?_)
        refine lv_aload_n hx hb dX10_lay_128 rfl (lv_at hl 1 rfl) ?_
        refine lv_iload_n hx hb dX10_lay_129 rfl (lv_at hl 2 rfl) ?_
        refine lv_bipush (v := 27) hx hb dX10_lay_130 (by decide) ?_
        refine lv_iload_n hx hb dX10_lay_132 rfl (lv_at hl 4 rfl) ?_
        refine mc_callv hG (mc_runV (As := [.int x1, .int 27, .int x3]) (rest := []) E hG (c_X10_put l G (σ, cu, kO PC X Fa) h0 x1 (27 : Int32) x3 t0 (by omega) (by omega) (by decide) (by decide) (0) (1000) rfl (by omega) (by omega) ((PC_AV hA hcu).2.2 _ _ (by omega) (by omega) (by decide) (by decide))) t0 rfl kv_X10_put ml_X10_102 ⟨rfl, rfl, Nat.le_of_ble_eq_true rfl, Nat.le_of_ble_eq_true rfl⟩ rfl hl.1 rfl (Nat.le_of_ble_eq_true rfl) ⟨Nat.zero_le _, Nat.zero_le _⟩ dX10_lay_133) (fun H locs hG => ?_)
        refine lv_aload_n hx hb dX10_lay_136 rfl (lv_at hl 1 rfl) ?_
        refine lv_iload_n hx hb dX10_lay_137 rfl (lv_at hl 2 rfl) ?_
        refine lv_bipush (v := 28) hx hb dX10_lay_138 (by decide) ?_
        refine lv_iload hx hb dX10_lay_140 (lv_at hl 5 rfl) ?_
        refine mc_callv hG (mc_runV (As := [.int x1, .int 28, .int x4]) (rest := []) E hG (c_X10_put l G (σ, cu, kO PC X Fa) h0 x1 (28 : Int32) x4 t0 (by omega) (by omega) (by decide) (by decide) (0) (1000) rfl (by omega) (by omega) ((PC_AV hA hcu).2.2 _ _ (by omega) (by omega) (by decide) (by decide))) t0 rfl kv_X10_put ml_X10_102 ⟨rfl, rfl, Nat.le_of_ble_eq_true rfl, Nat.le_of_ble_eq_true rfl⟩ rfl hl.1 rfl (Nat.le_of_ble_eq_true rfl) ⟨Nat.zero_le _, Nat.zero_le _⟩ dX10_lay_142) (fun H locs hG => ?_)
        refine lv_aload_n hx hb dX10_lay_145 rfl (lv_at hl 1 rfl) ?_
        refine lv_iload_n hx hb dX10_lay_146 rfl (lv_at hl 2 rfl) ?_
        refine lv_bipush (v := 29) hx hb dX10_lay_147 (by decide) ?_
        refine lv_iload hx hb dX10_lay_149 (lv_at hl 6 rfl) ?_
        refine mc_callv hG (mc_runV (As := [.int x1, .int 29, .int x5]) (rest := []) E hG (c_X10_put l G (σ, cu, kO PC X Fa) h0 x1 (29 : Int32) x5 t0 (by omega) (by omega) (by decide) (by decide) (0) (1000) rfl (by omega) (by omega) ((PC_AV hA hcu).2.2 _ _ (by omega) (by omega) (by decide) (by decide))) t0 rfl kv_X10_put ml_X10_102 ⟨rfl, rfl, Nat.le_of_ble_eq_true rfl, Nat.le_of_ble_eq_true rfl⟩ rfl hl.1 rfl (Nat.le_of_ble_eq_true rfl) ⟨Nat.zero_le _, Nat.zero_le _⟩ dX10_lay_151) (fun H locs hG => ?_)
        refine lv_aload_n hx hb dX10_lay_154 rfl (lv_at hl 1 rfl) ?_
        refine mc_getr E hG t0 mr_39 dX10_lay_155 (fun oa28 hoa28 => ?_)
        refine lv_aload_n hx hb dX10_lay_158 rfl (lv_at hl 1 rfl) ?_
        refine mc_geti E hG t0 mi_221 dX10_lay_159 (fun z29 lz29 uz29 qz29 => ?_)
        have wz29 := kq qz29 (PC_d)
        have hd7 : z29.toInt ≤ 28 := by rw [wz29]; exact hd2
        refine lv_iload_n hx hb dX10_lay_162 rfl (lv_at hl 2 rfl) ?_
        refine mc_iastX E hG hoa28 ma_10.1 ma_10.2.1 (ma_10.2.2 _) (t_in (by omega) (by omega)) (by omega) (by omega) dX10_lay_163 (fun H locs hG => ?_)
        have hG := kO_set (PC_10) hG
        obtain ⟨F30, eF30⟩ : ∃ Z : mF, Z = up2 Fa 10 (z29).toNatClampNeg x1 := ⟨_, rfl⟩
        rw [← eF30] at hG
        refine lv_aload_n hx hb dX10_lay_164 rfl (lv_at hl 1 rfl) ?_
        refine mc_getr E hG t0 mr_42 dX10_lay_165 (fun oa31 hoa31 => ?_)
        refine lv_iload_n hx hb dX10_lay_168 rfl (lv_at hl 2 rfl) ?_
        refine lv_iconst (v := 0) hx hb dX10_lay_169 (by decide) ?_
        refine mc_iastX E hG hoa31 ma_11.1 ma_11.2.1 (ma_11.2.2 _) (t_in (by omega) (by omega)) (by decide) (by decide) dX10_lay_170 (fun H locs hG => ?_)
        have hG := kO_set (PC_11) hG
        obtain ⟨F32, eF32⟩ : ∃ Z : mF, Z = up2 F30 11 (x1).toNatClampNeg (0 : Int32) := ⟨_, rfl⟩
        rw [← eF32] at hG
        refine lv_aload_n hx hb dX10_lay_171 rfl (lv_at hl 1 rfl) ?_
        refine lv_dup hx hb dX10_lay_172 rfl ?_
        refine mc_geti E hG t0 mi_221 dX10_lay_173 (fun z33 lz33 uz33 qz33 => ?_)
        have wz33 := kq qz33 (PC_d)
        have hd9 : z33.toInt ≤ 28 := by rw [wz33, eF32, up2_ne (by omega), eF30, up2_ne (by omega)]; exact hd2
        refine lv_iconst (v := 1) hx hb dX10_lay_176 (by decide) ?_
        refine lv_iadd hx hb dX10_lay_177 ?_
        refine lv_topi (fun z34 ez34 => ?_)
        have tz34 := tn_add ez34 rfl kI_1 (by omega) (by omega)
        have hd8 : z34.toInt = (F32 1 18).toInt + 1 := by rw [tz34, ← wz33]
        refine mc_putX E hG t0 mp_221 (by omega) (by omega) rfl rfl dX10_lay_178 (fun H locs hG => ?_)
        have hG := kO_set (PC_d) hG
        obtain ⟨F35, eF35⟩ : ∃ Z : mF, Z = up2 F32 1 18 z34 := ⟨_, rfl⟩
        rw [← eF35] at hG
        exact mc_vretX E hr hlk hG rfl ⟨_, rfl, LyP_of wz29 eF30 eF32 eF35 hd8⟩ dX10_lay_181
      · exfalso
        have ic21 := tn_ne kI_0 kI_0 c21
        omega
  · skip
    have ic3 := tn_eq rfl kI_1 c3
    refine lv_aload_n hx hb dX10_lay_11 rfl (lv_at hl 0 rfl) ?_
    refine lv_iload_n hx hb dX10_lay_12 rfl (lv_at hl 1 rfl) ?_
    refine lv_bipush (v := 26) hx hb dX10_lay_13 (by decide) ?_
    refine tc_callp (mc_runV (As := [.int x1, .int 26]) (rest := []) E hG (c_X10_get l G (σ, cu, kO PC X Fa) h0 x1 (26 : Int32) t0 (by omega) (by omega) (by decide) (by decide)) t0 rfl kv_X10_get ml_X10_91 ⟨rfl, rfl, Nat.le_of_ble_eq_true rfl, Nat.le_of_ble_eq_true rfl⟩ rfl hl.1 rfl (Nat.le_of_ble_eq_true rfl) ⟨Nat.zero_le _, Nat.zero_le _⟩ dX10_lay_15) (fun r36 pr36 => ?_)
    replace pr36 : mV (σ, cu, kO PC X Fa) (ix x1.toInt (26 : Int32).toInt) r36 := pr36
    have pr36 := mV_l pr36 kI_26
    have br36 := mV_26 pr36 (by omega)
    have k37 := kI_26
    refine lv_iload_n hx hb dX10_lay_18 rfl (lv_at hl 2 rfl) ?_
    refine lv_icmp_ne (tgt := 61) hx hb dX10_lay_19 (by decide) (fun c38 => ?_) (fun c38 => ?_)
    · skip
      have ic38 := tn_ne rfl rfl c38
      refine lv_iconst (v := 0) hx hb dX10_lay_61 (by decide) ?_
      refine lv_istore (lv' := [(6, .int 0), (0, .ref h0), (1, .int x1), (2, .int x2), (3, .int x3), (4, .int x4), (5, .int x5)]) hx hb dX10_lay_62 hl (by decide) rfl (fun ls hl => ?_)
      refine lv_aload_n hx hb dX10_lay_64 rfl (lv_at hl 1 rfl) ?_
      refine lv_iload_n hx hb dX10_lay_65 rfl (lv_at hl 2 rfl) ?_
      refine lv_bipush (v := 19) hx hb dX10_lay_66 (by decide) ?_
      refine tc_callp (mc_runV (As := [.int x1, .int 19]) (rest := []) E hG (c_X10_get l G (σ, cu, kO PC X Fa) h0 x1 (19 : Int32) t0 (by omega) (by omega) (by decide) (by decide)) t0 rfl kv_X10_get ml_X10_91 ⟨rfl, rfl, Nat.le_of_ble_eq_true rfl, Nat.le_of_ble_eq_true rfl⟩ rfl hl.1 rfl (Nat.le_of_ble_eq_true rfl) ⟨Nat.zero_le _, Nat.zero_le _⟩ dX10_lay_68) (fun r39 pr39 => ?_)
      replace pr39 : mV (σ, cu, kO PC X Fa) (ix x1.toInt (19 : Int32).toInt) r39 := pr39
      have pr39 := mV_l pr39 kI_19
      have br39 := mV_19 pr39 (by omega)
      have k40 := kI_19
      refine lv_if_ne (tgt := 90) hx hb dX10_lay_71 (by decide) (fun c41 => ?_) (fun c41 => ?_)
      · skip
        have ic41 := tn_ne rfl kI_0 c41
        refine lv_aload_n hx hb dX10_lay_90 rfl (lv_at hl 1 rfl) ?_
        refine lv_dup hx hb dX10_lay_91 rfl ?_
        refine mc_geti E hG t0 mi_215 dX10_lay_92 (fun z42 lz42 uz42 qz42 => ?_)
        refine lv_iconst (v := 1) hx hb dX10_lay_95 (by decide) ?_
        refine lv_iadd hx hb dX10_lay_96 ?_
        refine lv_topi (fun z43 ez43 => ?_)
        refine mc_put E hG t0 mp_215 ((PC_AV hA hcu).2.1 _ (by decide)) (t_any1 _) (t_any2 _) rfl rfl dX10_lay_97 (fun H locs hG => ?_)
        refine lv_aload_n hx hb dX10_lay_100 rfl (lv_at hl 1 rfl) ?_
        refine lv_dup hx hb dX10_lay_101 rfl ?_
        refine mc_geti E hG t0 mi_218 dX10_lay_102 (fun z44 lz44 uz44 qz44 => ?_)
        refine lv_iconst (v := 1) hx hb dX10_lay_105 (by decide) ?_
        refine lv_iload_n hx hb dX10_lay_106 rfl (lv_at hl 2 rfl) ?_
        refine lv_ishl hx hb dX10_lay_107 ?_
        refine lv_topi (fun z45 ez45 => ?_)
        refine lv_ior hx hb dX10_lay_108 ?_
        refine lv_topi (fun z46 ez46 => ?_)
        refine mc_put E hG t0 mp_218 ((PC_AV hA hcu).2.1 _ (by decide)) (t_any1 _) (t_any2 _) rfl rfl dX10_lay_109 (fun H locs hG => ?_)
        refine lv_aload_n hx hb dX10_lay_112 rfl (lv_at hl 1 rfl) ?_
        refine lv_iload_n hx hb dX10_lay_113 rfl (lv_at hl 2 rfl) ?_
        refine lv_bipush (v := 25) hx hb dX10_lay_114 (by decide) ?_
        refine lv_iconst (v := 1) hx hb dX10_lay_116 (by decide) ?_
        have k47 := kI_1
        refine mc_callv hG (mc_runV (As := [.int x1, .int 25, .int 1]) (rest := []) E hG (c_X10_put l G (σ, cu, kO PC X Fa) h0 x1 (25 : Int32) (1 : Int32) t0 (by omega) (by omega) (by decide) (by decide) (0) (1) rfl (by omega) (by omega) ((PC_AV hA hcu).2.2 _ _ (by omega) (by omega) (by decide) (by decide))) t0 rfl kv_X10_put ml_X10_102 ⟨rfl, rfl, Nat.le_of_ble_eq_true rfl, Nat.le_of_ble_eq_true rfl⟩ rfl hl.1 rfl (Nat.le_of_ble_eq_true rfl) ⟨Nat.zero_le _, Nat.zero_le _⟩ dX10_lay_117) (fun H locs hG => ?_)
        refine lv_aload_n hx hb dX10_lay_120 rfl (lv_at hl 1 rfl) ?_
        refine lv_iload_n hx hb dX10_lay_121 rfl (lv_at hl 2 rfl) ?_
        refine lv_bipush (v := 26) hx hb dX10_lay_122 (by decide) ?_
        refine lv_iload_n hx hb dX10_lay_124 rfl (lv_at hl 3 rfl) ?_
        refine mc_callv hG (mc_runV (As := [.int x1, .int 26, .int x2]) (rest := []) E hG (c_X10_put l G (σ, cu, kO PC X Fa) h0 x1 (26 : Int32) x2 t0 (by omega) (by omega) (by decide) (by decide) (0) (1000) rfl (by omega) (by omega) ((PC_AV hA hcu).2.2 _ _ (by omega) (by omega) (by decide) (by decide))) t0 rfl kv_X10_put ml_X10_102 ⟨rfl, rfl, Nat.le_of_ble_eq_true rfl, Nat.le_of_ble_eq_true rfl⟩ rfl hl.1 rfl (Nat.le_of_ble_eq_true rfl) ⟨Nat.zero_le _, Nat.zero_le _⟩ dX10_lay_125) (fun H locs hG => ?_)
        refine lv_aload_n hx hb dX10_lay_128 rfl (lv_at hl 1 rfl) ?_
        refine lv_iload_n hx hb dX10_lay_129 rfl (lv_at hl 2 rfl) ?_
        refine lv_bipush (v := 27) hx hb dX10_lay_130 (by decide) ?_
        refine lv_iload_n hx hb dX10_lay_132 rfl (lv_at hl 4 rfl) ?_
        refine mc_callv hG (mc_runV (As := [.int x1, .int 27, .int x3]) (rest := []) E hG (c_X10_put l G (σ, cu, kO PC X Fa) h0 x1 (27 : Int32) x3 t0 (by omega) (by omega) (by decide) (by decide) (0) (1000) rfl (by omega) (by omega) ((PC_AV hA hcu).2.2 _ _ (by omega) (by omega) (by decide) (by decide))) t0 rfl kv_X10_put ml_X10_102 ⟨rfl, rfl, Nat.le_of_ble_eq_true rfl, Nat.le_of_ble_eq_true rfl⟩ rfl hl.1 rfl (Nat.le_of_ble_eq_true rfl) ⟨Nat.zero_le _, Nat.zero_le _⟩ dX10_lay_133) (fun H locs hG => ?_)
        refine lv_aload_n hx hb dX10_lay_136 rfl (lv_at hl 1 rfl) ?_
        refine lv_iload_n hx hb dX10_lay_137 rfl (lv_at hl 2 rfl) ?_
        refine lv_bipush (v := 28) hx hb dX10_lay_138 (by decide) ?_
        refine lv_iload hx hb dX10_lay_140 (lv_at hl 5 rfl) ?_
        refine mc_callv hG (mc_runV (As := [.int x1, .int 28, .int x4]) (rest := []) E hG (c_X10_put l G (σ, cu, kO PC X Fa) h0 x1 (28 : Int32) x4 t0 (by omega) (by omega) (by decide) (by decide) (0) (1000) rfl (by omega) (by omega) ((PC_AV hA hcu).2.2 _ _ (by omega) (by omega) (by decide) (by decide))) t0 rfl kv_X10_put ml_X10_102 ⟨rfl, rfl, Nat.le_of_ble_eq_true rfl, Nat.le_of_ble_eq_true rfl⟩ rfl hl.1 rfl (Nat.le_of_ble_eq_true rfl) ⟨Nat.zero_le _, Nat.zero_le _⟩ dX10_lay_142) (fun H locs hG => ?_)
        refine lv_aload_n hx hb dX10_lay_145 rfl (lv_at hl 1 rfl) ?_
        refine lv_iload_n hx hb dX10_lay_146 rfl (lv_at hl 2 rfl) ?_
        refine lv_bipush (v := 29) hx hb dX10_lay_147 (by decide) ?_
        refine lv_iload hx hb dX10_lay_149 (lv_at hl 6 rfl) ?_
        refine mc_callv hG (mc_runV (As := [.int x1, .int 29, .int x5]) (rest := []) E hG (c_X10_put l G (σ, cu, kO PC X Fa) h0 x1 (29 : Int32) x5 t0 (by omega) (by omega) (by decide) (by decide) (0) (1000) rfl (by omega) (by omega) ((PC_AV hA hcu).2.2 _ _ (by omega) (by omega) (by decide) (by decide))) t0 rfl kv_X10_put ml_X10_102 ⟨rfl, rfl, Nat.le_of_ble_eq_true rfl, Nat.le_of_ble_eq_true rfl⟩ rfl hl.1 rfl (Nat.le_of_ble_eq_true rfl) ⟨Nat.zero_le _, Nat.zero_le _⟩ dX10_lay_151) (fun H locs hG => ?_)
        refine lv_aload_n hx hb dX10_lay_154 rfl (lv_at hl 1 rfl) ?_
        refine mc_getr E hG t0 mr_39 dX10_lay_155 (fun oa48 hoa48 => ?_)
        refine lv_aload_n hx hb dX10_lay_158 rfl (lv_at hl 1 rfl) ?_
        refine mc_geti E hG t0 mi_221 dX10_lay_159 (fun z49 lz49 uz49 qz49 => ?_)
        have wz49 := kq qz49 (PC_d)
        have hd7 : z49.toInt ≤ 28 := by rw [wz49]; exact hd2
        refine lv_iload_n hx hb dX10_lay_162 rfl (lv_at hl 2 rfl) ?_
        refine mc_iastX E hG hoa48 ma_10.1 ma_10.2.1 (ma_10.2.2 _) (t_in (by omega) (by omega)) (by omega) (by omega) dX10_lay_163 (fun H locs hG => ?_)
        have hG := kO_set (PC_10) hG
        obtain ⟨F50, eF50⟩ : ∃ Z : mF, Z = up2 Fa 10 (z49).toNatClampNeg x1 := ⟨_, rfl⟩
        rw [← eF50] at hG
        refine lv_aload_n hx hb dX10_lay_164 rfl (lv_at hl 1 rfl) ?_
        refine mc_getr E hG t0 mr_42 dX10_lay_165 (fun oa51 hoa51 => ?_)
        refine lv_iload_n hx hb dX10_lay_168 rfl (lv_at hl 2 rfl) ?_
        refine lv_iconst (v := 0) hx hb dX10_lay_169 (by decide) ?_
        refine mc_iastX E hG hoa51 ma_11.1 ma_11.2.1 (ma_11.2.2 _) (t_in (by omega) (by omega)) (by decide) (by decide) dX10_lay_170 (fun H locs hG => ?_)
        have hG := kO_set (PC_11) hG
        obtain ⟨F52, eF52⟩ : ∃ Z : mF, Z = up2 F50 11 (x1).toNatClampNeg (0 : Int32) := ⟨_, rfl⟩
        rw [← eF52] at hG
        refine lv_aload_n hx hb dX10_lay_171 rfl (lv_at hl 1 rfl) ?_
        refine lv_dup hx hb dX10_lay_172 rfl ?_
        refine mc_geti E hG t0 mi_221 dX10_lay_173 (fun z53 lz53 uz53 qz53 => ?_)
        have wz53 := kq qz53 (PC_d)
        have hd9 : z53.toInt ≤ 28 := by rw [wz53, eF52, up2_ne (by omega), eF50, up2_ne (by omega)]; exact hd2
        refine lv_iconst (v := 1) hx hb dX10_lay_176 (by decide) ?_
        refine lv_iadd hx hb dX10_lay_177 ?_
        refine lv_topi (fun z54 ez54 => ?_)
        have tz54 := tn_add ez54 rfl kI_1 (by omega) (by omega)
        have hd8 : z54.toInt = (F52 1 18).toInt + 1 := by rw [tz54, ← wz53]
        refine mc_putX E hG t0 mp_221 (by omega) (by omega) rfl rfl dX10_lay_178 (fun H locs hG => ?_)
        have hG := kO_set (PC_d) hG
        obtain ⟨F55, eF55⟩ : ∃ Z : mF, Z = up2 F52 1 18 z54 := ⟨_, rfl⟩
        rw [← eF55] at hG
        exact mc_vretX E hr hlk hG rfl ⟨_, rfl, LyP_of wz49 eF50 eF52 eF55 hd8⟩ dX10_lay_181
      · skip
        have ic41 := tn_eq rfl kI_0 c41
        refine lv_iload hx hb dX10_lay_74 (lv_at hl 0 rfl) ?_
        refine lv_if_eq (tgt := 90) hx hb dX10_lay_76 (by decide) (fun c56 => ?_) (fun c56 => ?_)
        · skip
          have ic56 := tn_eq kI_0 kI_0 c56
          refine lv_aload_n hx hb dX10_lay_90 rfl (lv_at hl 1 rfl) ?_
          refine lv_dup hx hb dX10_lay_91 rfl ?_
          refine mc_geti E hG t0 mi_215 dX10_lay_92 (fun z57 lz57 uz57 qz57 => ?_)
          refine lv_iconst (v := 1) hx hb dX10_lay_95 (by decide) ?_
          refine lv_iadd hx hb dX10_lay_96 ?_
          refine lv_topi (fun z58 ez58 => ?_)
          refine mc_put E hG t0 mp_215 ((PC_AV hA hcu).2.1 _ (by decide)) (t_any1 _) (t_any2 _) rfl rfl dX10_lay_97 (fun H locs hG => ?_)
          refine lv_aload_n hx hb dX10_lay_100 rfl (lv_at hl 1 rfl) ?_
          refine lv_dup hx hb dX10_lay_101 rfl ?_
          refine mc_geti E hG t0 mi_218 dX10_lay_102 (fun z59 lz59 uz59 qz59 => ?_)
          refine lv_iconst (v := 1) hx hb dX10_lay_105 (by decide) ?_
          refine lv_iload_n hx hb dX10_lay_106 rfl (lv_at hl 2 rfl) ?_
          refine lv_ishl hx hb dX10_lay_107 ?_
          refine lv_topi (fun z60 ez60 => ?_)
          refine lv_ior hx hb dX10_lay_108 ?_
          refine lv_topi (fun z61 ez61 => ?_)
          refine mc_put E hG t0 mp_218 ((PC_AV hA hcu).2.1 _ (by decide)) (t_any1 _) (t_any2 _) rfl rfl dX10_lay_109 (fun H locs hG => ?_)
          refine lv_aload_n hx hb dX10_lay_112 rfl (lv_at hl 1 rfl) ?_
          refine lv_iload_n hx hb dX10_lay_113 rfl (lv_at hl 2 rfl) ?_
          refine lv_bipush (v := 25) hx hb dX10_lay_114 (by decide) ?_
          refine lv_iconst (v := 1) hx hb dX10_lay_116 (by decide) ?_
          have k62 := kI_1
          refine mc_callv hG (mc_runV (As := [.int x1, .int 25, .int 1]) (rest := []) E hG (c_X10_put l G (σ, cu, kO PC X Fa) h0 x1 (25 : Int32) (1 : Int32) t0 (by omega) (by omega) (by decide) (by decide) (0) (1) rfl (by omega) (by omega) ((PC_AV hA hcu).2.2 _ _ (by omega) (by omega) (by decide) (by decide))) t0 rfl kv_X10_put ml_X10_102 ⟨rfl, rfl, Nat.le_of_ble_eq_true rfl, Nat.le_of_ble_eq_true rfl⟩ rfl hl.1 rfl (Nat.le_of_ble_eq_true rfl) ⟨Nat.zero_le _, Nat.zero_le _⟩ dX10_lay_117) (fun H locs hG => ?_)
          refine lv_aload_n hx hb dX10_lay_120 rfl (lv_at hl 1 rfl) ?_
          refine lv_iload_n hx hb dX10_lay_121 rfl (lv_at hl 2 rfl) ?_
          refine lv_bipush (v := 26) hx hb dX10_lay_122 (by decide) ?_
          refine lv_iload_n hx hb dX10_lay_124 rfl (lv_at hl 3 rfl) ?_
          refine mc_callv hG (mc_runV (As := [.int x1, .int 26, .int x2]) (rest := []) E hG (c_X10_put l G (σ, cu, kO PC X Fa) h0 x1 (26 : Int32) x2 t0 (by omega) (by omega) (by decide) (by decide) (0) (1000) rfl (by omega) (by omega) ((PC_AV hA hcu).2.2 _ _ (by omega) (by omega) (by decide) (by decide))) t0 rfl kv_X10_put ml_X10_102 ⟨rfl, rfl, Nat.le_of_ble_eq_true rfl, Nat.le_of_ble_eq_true rfl⟩ rfl hl.1 rfl (Nat.le_of_ble_eq_true rfl) ⟨Nat.zero_le _, Nat.zero_le _⟩ dX10_lay_125) (fun H locs hG => ?_)
          refine lv_aload_n hx hb dX10_lay_128 rfl (lv_at hl 1 rfl) ?_
          refine lv_iload_n hx hb dX10_lay_129 rfl (lv_at hl 2 rfl) ?_
          refine lv_bipush (v := 27) hx hb dX10_lay_130 (by decide) ?_
          refine lv_iload_n hx hb dX10_lay_132 rfl (lv_at hl 4 rfl) ?_
          refine mc_callv hG (mc_runV (As := [.int x1, .int 27, .int x3]) (rest := []) E hG (c_X10_put l G (σ, cu, kO PC X Fa) h0 x1 (27 : Int32) x3 t0 (by omega) (by omega) (by decide) (by decide) (0) (1000) rfl (by omega) (by omega) ((PC_AV hA hcu).2.2 _ _ (by omega) (by omega) (by decide) (by decide))) t0 rfl kv_X10_put ml_X10_102 ⟨rfl, rfl, Nat.le_of_ble_eq_true rfl, Nat.le_of_ble_eq_true rfl⟩ rfl hl.1 rfl (Nat.le_of_ble_eq_true rfl) ⟨Nat.zero_le _, Nat.zero_le _⟩ dX10_lay_133) (fun H locs hG => ?_)
          refine lv_aload_n hx hb dX10_lay_136 rfl (lv_at hl 1 rfl) ?_
          refine lv_iload_n hx hb dX10_lay_137 rfl (lv_at hl 2 rfl) ?_
          refine lv_bipush (v := 28) hx hb dX10_lay_138 (by decide) ?_
          refine lv_iload hx hb dX10_lay_140 (lv_at hl 5 rfl) ?_
          refine mc_callv hG (mc_runV (As := [.int x1, .int 28, .int x4]) (rest := []) E hG (c_X10_put l G (σ, cu, kO PC X Fa) h0 x1 (28 : Int32) x4 t0 (by omega) (by omega) (by decide) (by decide) (0) (1000) rfl (by omega) (by omega) ((PC_AV hA hcu).2.2 _ _ (by omega) (by omega) (by decide) (by decide))) t0 rfl kv_X10_put ml_X10_102 ⟨rfl, rfl, Nat.le_of_ble_eq_true rfl, Nat.le_of_ble_eq_true rfl⟩ rfl hl.1 rfl (Nat.le_of_ble_eq_true rfl) ⟨Nat.zero_le _, Nat.zero_le _⟩ dX10_lay_142) (fun H locs hG => ?_)
          refine lv_aload_n hx hb dX10_lay_145 rfl (lv_at hl 1 rfl) ?_
          refine lv_iload_n hx hb dX10_lay_146 rfl (lv_at hl 2 rfl) ?_
          refine lv_bipush (v := 29) hx hb dX10_lay_147 (by decide) ?_
          refine lv_iload hx hb dX10_lay_149 (lv_at hl 6 rfl) ?_
          refine mc_callv hG (mc_runV (As := [.int x1, .int 29, .int x5]) (rest := []) E hG (c_X10_put l G (σ, cu, kO PC X Fa) h0 x1 (29 : Int32) x5 t0 (by omega) (by omega) (by decide) (by decide) (0) (1000) rfl (by omega) (by omega) ((PC_AV hA hcu).2.2 _ _ (by omega) (by omega) (by decide) (by decide))) t0 rfl kv_X10_put ml_X10_102 ⟨rfl, rfl, Nat.le_of_ble_eq_true rfl, Nat.le_of_ble_eq_true rfl⟩ rfl hl.1 rfl (Nat.le_of_ble_eq_true rfl) ⟨Nat.zero_le _, Nat.zero_le _⟩ dX10_lay_151) (fun H locs hG => ?_)
          refine lv_aload_n hx hb dX10_lay_154 rfl (lv_at hl 1 rfl) ?_
          refine mc_getr E hG t0 mr_39 dX10_lay_155 (fun oa63 hoa63 => ?_)
          refine lv_aload_n hx hb dX10_lay_158 rfl (lv_at hl 1 rfl) ?_
          refine mc_geti E hG t0 mi_221 dX10_lay_159 (fun z64 lz64 uz64 qz64 => ?_)
          have wz64 := kq qz64 (PC_d)
          have hd7 : z64.toInt ≤ 28 := by rw [wz64]; exact hd2
          refine lv_iload_n hx hb dX10_lay_162 rfl (lv_at hl 2 rfl) ?_
          refine mc_iastX E hG hoa63 ma_10.1 ma_10.2.1 (ma_10.2.2 _) (t_in (by omega) (by omega)) (by omega) (by omega) dX10_lay_163 (fun H locs hG => ?_)
          have hG := kO_set (PC_10) hG
          obtain ⟨F65, eF65⟩ : ∃ Z : mF, Z = up2 Fa 10 (z64).toNatClampNeg x1 := ⟨_, rfl⟩
          rw [← eF65] at hG
          refine lv_aload_n hx hb dX10_lay_164 rfl (lv_at hl 1 rfl) ?_
          refine mc_getr E hG t0 mr_42 dX10_lay_165 (fun oa66 hoa66 => ?_)
          refine lv_iload_n hx hb dX10_lay_168 rfl (lv_at hl 2 rfl) ?_
          refine lv_iconst (v := 0) hx hb dX10_lay_169 (by decide) ?_
          refine mc_iastX E hG hoa66 ma_11.1 ma_11.2.1 (ma_11.2.2 _) (t_in (by omega) (by omega)) (by decide) (by decide) dX10_lay_170 (fun H locs hG => ?_)
          have hG := kO_set (PC_11) hG
          obtain ⟨F67, eF67⟩ : ∃ Z : mF, Z = up2 F65 11 (x1).toNatClampNeg (0 : Int32) := ⟨_, rfl⟩
          rw [← eF67] at hG
          refine lv_aload_n hx hb dX10_lay_171 rfl (lv_at hl 1 rfl) ?_
          refine lv_dup hx hb dX10_lay_172 rfl ?_
          refine mc_geti E hG t0 mi_221 dX10_lay_173 (fun z68 lz68 uz68 qz68 => ?_)
          have wz68 := kq qz68 (PC_d)
          have hd9 : z68.toInt ≤ 28 := by rw [wz68, eF67, up2_ne (by omega), eF65, up2_ne (by omega)]; exact hd2
          refine lv_iconst (v := 1) hx hb dX10_lay_176 (by decide) ?_
          refine lv_iadd hx hb dX10_lay_177 ?_
          refine lv_topi (fun z69 ez69 => ?_)
          have tz69 := tn_add ez69 rfl kI_1 (by omega) (by omega)
          have hd8 : z69.toInt = (F67 1 18).toInt + 1 := by rw [tz69, ← wz68]
          refine mc_putX E hG t0 mp_221 (by omega) (by omega) rfl rfl dX10_lay_178 (fun H locs hG => ?_)
          have hG := kO_set (PC_d) hG
          obtain ⟨F70, eF70⟩ : ∃ Z : mF, Z = up2 F67 1 18 z69 := ⟨_, rfl⟩
          rw [← eF70] at hG
          exact mc_vretX E hr hlk hG rfl ⟨_, rfl, LyP_of wz64 eF65 eF67 eF70 hd8⟩ dX10_lay_181
        · exfalso
          have ic56 := tn_ne kI_0 kI_0 c56
          omega
    · skip
      have ic38 := tn_eq rfl rfl c38
      refine lv_aload_n hx hb dX10_lay_22 rfl (lv_at hl 0 rfl) ?_
      refine lv_iload_n hx hb dX10_lay_23 rfl (lv_at hl 1 rfl) ?_
      refine lv_bipush (v := 27) hx hb dX10_lay_24 (by decide) ?_
      refine tc_callp (mc_runV (As := [.int x1, .int 27]) (rest := []) E hG (c_X10_get l G (σ, cu, kO PC X Fa) h0 x1 (27 : Int32) t0 (by omega) (by omega) (by decide) (by decide)) t0 rfl kv_X10_get ml_X10_91 ⟨rfl, rfl, Nat.le_of_ble_eq_true rfl, Nat.le_of_ble_eq_true rfl⟩ rfl hl.1 rfl (Nat.le_of_ble_eq_true rfl) ⟨Nat.zero_le _, Nat.zero_le _⟩ dX10_lay_26) (fun r71 pr71 => ?_)
      replace pr71 : mV (σ, cu, kO PC X Fa) (ix x1.toInt (27 : Int32).toInt) r71 := pr71
      have pr71 := mV_l pr71 kI_27
      have br71 := mV_27 pr71 (by omega)
      have k72 := kI_27
      refine lv_iload_n hx hb dX10_lay_29 rfl (lv_at hl 3 rfl) ?_
      refine lv_icmp_ne (tgt := 61) hx hb dX10_lay_30 (by decide) (fun c73 => ?_) (fun c73 => ?_)
      · skip
        have ic73 := tn_ne rfl rfl c73
        refine lv_iconst (v := 0) hx hb dX10_lay_61 (by decide) ?_
        refine lv_istore (lv' := [(6, .int 0), (0, .ref h0), (1, .int x1), (2, .int x2), (3, .int x3), (4, .int x4), (5, .int x5)]) hx hb dX10_lay_62 hl (by decide) rfl (fun ls hl => ?_)
        refine lv_aload_n hx hb dX10_lay_64 rfl (lv_at hl 1 rfl) ?_
        refine lv_iload_n hx hb dX10_lay_65 rfl (lv_at hl 2 rfl) ?_
        refine lv_bipush (v := 19) hx hb dX10_lay_66 (by decide) ?_
        refine tc_callp (mc_runV (As := [.int x1, .int 19]) (rest := []) E hG (c_X10_get l G (σ, cu, kO PC X Fa) h0 x1 (19 : Int32) t0 (by omega) (by omega) (by decide) (by decide)) t0 rfl kv_X10_get ml_X10_91 ⟨rfl, rfl, Nat.le_of_ble_eq_true rfl, Nat.le_of_ble_eq_true rfl⟩ rfl hl.1 rfl (Nat.le_of_ble_eq_true rfl) ⟨Nat.zero_le _, Nat.zero_le _⟩ dX10_lay_68) (fun r74 pr74 => ?_)
        replace pr74 : mV (σ, cu, kO PC X Fa) (ix x1.toInt (19 : Int32).toInt) r74 := pr74
        have pr74 := mV_l pr74 kI_19
        have br74 := mV_19 pr74 (by omega)
        have k75 := kI_19
        refine lv_if_ne (tgt := 90) hx hb dX10_lay_71 (by decide) (fun c76 => ?_) (fun c76 => ?_)
        · skip
          have ic76 := tn_ne rfl kI_0 c76
          refine lv_aload_n hx hb dX10_lay_90 rfl (lv_at hl 1 rfl) ?_
          refine lv_dup hx hb dX10_lay_91 rfl ?_
          refine mc_geti E hG t0 mi_215 dX10_lay_92 (fun z77 lz77 uz77 qz77 => ?_)
          refine lv_iconst (v := 1) hx hb dX10_lay_95 (by decide) ?_
          refine lv_iadd hx hb dX10_lay_96 ?_
          refine lv_topi (fun z78 ez78 => ?_)
          refine mc_put E hG t0 mp_215 ((PC_AV hA hcu).2.1 _ (by decide)) (t_any1 _) (t_any2 _) rfl rfl dX10_lay_97 (fun H locs hG => ?_)
          refine lv_aload_n hx hb dX10_lay_100 rfl (lv_at hl 1 rfl) ?_
          refine lv_dup hx hb dX10_lay_101 rfl ?_
          refine mc_geti E hG t0 mi_218 dX10_lay_102 (fun z79 lz79 uz79 qz79 => ?_)
          refine lv_iconst (v := 1) hx hb dX10_lay_105 (by decide) ?_
          refine lv_iload_n hx hb dX10_lay_106 rfl (lv_at hl 2 rfl) ?_
          refine lv_ishl hx hb dX10_lay_107 ?_
          refine lv_topi (fun z80 ez80 => ?_)
          refine lv_ior hx hb dX10_lay_108 ?_
          refine lv_topi (fun z81 ez81 => ?_)
          refine mc_put E hG t0 mp_218 ((PC_AV hA hcu).2.1 _ (by decide)) (t_any1 _) (t_any2 _) rfl rfl dX10_lay_109 (fun H locs hG => ?_)
          refine lv_aload_n hx hb dX10_lay_112 rfl (lv_at hl 1 rfl) ?_
          refine lv_iload_n hx hb dX10_lay_113 rfl (lv_at hl 2 rfl) ?_
          refine lv_bipush (v := 25) hx hb dX10_lay_114 (by decide) ?_
          refine lv_iconst (v := 1) hx hb dX10_lay_116 (by decide) ?_
          have k82 := kI_1
          refine mc_callv hG (mc_runV (As := [.int x1, .int 25, .int 1]) (rest := []) E hG (c_X10_put l G (σ, cu, kO PC X Fa) h0 x1 (25 : Int32) (1 : Int32) t0 (by omega) (by omega) (by decide) (by decide) (0) (1) rfl (by omega) (by omega) ((PC_AV hA hcu).2.2 _ _ (by omega) (by omega) (by decide) (by decide))) t0 rfl kv_X10_put ml_X10_102 ⟨rfl, rfl, Nat.le_of_ble_eq_true rfl, Nat.le_of_ble_eq_true rfl⟩ rfl hl.1 rfl (Nat.le_of_ble_eq_true rfl) ⟨Nat.zero_le _, Nat.zero_le _⟩ dX10_lay_117) (fun H locs hG => ?_)
          refine lv_aload_n hx hb dX10_lay_120 rfl (lv_at hl 1 rfl) ?_
          refine lv_iload_n hx hb dX10_lay_121 rfl (lv_at hl 2 rfl) ?_
          refine lv_bipush (v := 26) hx hb dX10_lay_122 (by decide) ?_
          refine lv_iload_n hx hb dX10_lay_124 rfl (lv_at hl 3 rfl) ?_
          refine mc_callv hG (mc_runV (As := [.int x1, .int 26, .int x2]) (rest := []) E hG (c_X10_put l G (σ, cu, kO PC X Fa) h0 x1 (26 : Int32) x2 t0 (by omega) (by omega) (by decide) (by decide) (0) (1000) rfl (by omega) (by omega) ((PC_AV hA hcu).2.2 _ _ (by omega) (by omega) (by decide) (by decide))) t0 rfl kv_X10_put ml_X10_102 ⟨rfl, rfl, Nat.le_of_ble_eq_true rfl, Nat.le_of_ble_eq_true rfl⟩ rfl hl.1 rfl (Nat.le_of_ble_eq_true rfl) ⟨Nat.zero_le _, Nat.zero_le _⟩ dX10_lay_125) (fun H locs hG => ?_)
          refine lv_aload_n hx hb dX10_lay_128 rfl (lv_at hl 1 rfl) ?_
          refine lv_iload_n hx hb dX10_lay_129 rfl (lv_at hl 2 rfl) ?_
          refine lv_bipush (v := 27) hx hb dX10_lay_130 (by decide) ?_
          refine lv_iload_n hx hb dX10_lay_132 rfl (lv_at hl 4 rfl) ?_
          refine mc_callv hG (mc_runV (As := [.int x1, .int 27, .int x3]) (rest := []) E hG (c_X10_put l G (σ, cu, kO PC X Fa) h0 x1 (27 : Int32) x3 t0 (by omega) (by omega) (by decide) (by decide) (0) (1000) rfl (by omega) (by omega) ((PC_AV hA hcu).2.2 _ _ (by omega) (by omega) (by decide) (by decide))) t0 rfl kv_X10_put ml_X10_102 ⟨rfl, rfl, Nat.le_of_ble_eq_true rfl, Nat.le_of_ble_eq_true rfl⟩ rfl hl.1 rfl (Nat.le_of_ble_eq_true rfl) ⟨Nat.zero_le _, Nat.zero_le _⟩ dX10_lay_133) (fun H locs hG => ?_)
          refine lv_aload_n hx hb dX10_lay_136 rfl (lv_at hl 1 rfl) ?_
          refine lv_iload_n hx hb dX10_lay_137 rfl (lv_at hl 2 rfl) ?_
          refine lv_bipush (v := 28) hx hb dX10_lay_138 (by decide) ?_
          refine lv_iload hx hb dX10_lay_140 (lv_at hl 5 rfl) ?_
          refine mc_callv hG (mc_runV (As := [.int x1, .int 28, .int x4]) (rest := []) E hG (c_X10_put l G (σ, cu, kO PC X Fa) h0 x1 (28 : Int32) x4 t0 (by omega) (by omega) (by decide) (by decide) (0) (1000) rfl (by omega) (by omega) ((PC_AV hA hcu).2.2 _ _ (by omega) (by omega) (by decide) (by decide))) t0 rfl kv_X10_put ml_X10_102 ⟨rfl, rfl, Nat.le_of_ble_eq_true rfl, Nat.le_of_ble_eq_true rfl⟩ rfl hl.1 rfl (Nat.le_of_ble_eq_true rfl) ⟨Nat.zero_le _, Nat.zero_le _⟩ dX10_lay_142) (fun H locs hG => ?_)
          refine lv_aload_n hx hb dX10_lay_145 rfl (lv_at hl 1 rfl) ?_
          refine lv_iload_n hx hb dX10_lay_146 rfl (lv_at hl 2 rfl) ?_
          refine lv_bipush (v := 29) hx hb dX10_lay_147 (by decide) ?_
          refine lv_iload hx hb dX10_lay_149 (lv_at hl 6 rfl) ?_
          refine mc_callv hG (mc_runV (As := [.int x1, .int 29, .int x5]) (rest := []) E hG (c_X10_put l G (σ, cu, kO PC X Fa) h0 x1 (29 : Int32) x5 t0 (by omega) (by omega) (by decide) (by decide) (0) (1000) rfl (by omega) (by omega) ((PC_AV hA hcu).2.2 _ _ (by omega) (by omega) (by decide) (by decide))) t0 rfl kv_X10_put ml_X10_102 ⟨rfl, rfl, Nat.le_of_ble_eq_true rfl, Nat.le_of_ble_eq_true rfl⟩ rfl hl.1 rfl (Nat.le_of_ble_eq_true rfl) ⟨Nat.zero_le _, Nat.zero_le _⟩ dX10_lay_151) (fun H locs hG => ?_)
          refine lv_aload_n hx hb dX10_lay_154 rfl (lv_at hl 1 rfl) ?_
          refine mc_getr E hG t0 mr_39 dX10_lay_155 (fun oa83 hoa83 => ?_)
          refine lv_aload_n hx hb dX10_lay_158 rfl (lv_at hl 1 rfl) ?_
          refine mc_geti E hG t0 mi_221 dX10_lay_159 (fun z84 lz84 uz84 qz84 => ?_)
          have wz84 := kq qz84 (PC_d)
          have hd7 : z84.toInt ≤ 28 := by rw [wz84]; exact hd2
          refine lv_iload_n hx hb dX10_lay_162 rfl (lv_at hl 2 rfl) ?_
          refine mc_iastX E hG hoa83 ma_10.1 ma_10.2.1 (ma_10.2.2 _) (t_in (by omega) (by omega)) (by omega) (by omega) dX10_lay_163 (fun H locs hG => ?_)
          have hG := kO_set (PC_10) hG
          obtain ⟨F85, eF85⟩ : ∃ Z : mF, Z = up2 Fa 10 (z84).toNatClampNeg x1 := ⟨_, rfl⟩
          rw [← eF85] at hG
          refine lv_aload_n hx hb dX10_lay_164 rfl (lv_at hl 1 rfl) ?_
          refine mc_getr E hG t0 mr_42 dX10_lay_165 (fun oa86 hoa86 => ?_)
          refine lv_iload_n hx hb dX10_lay_168 rfl (lv_at hl 2 rfl) ?_
          refine lv_iconst (v := 0) hx hb dX10_lay_169 (by decide) ?_
          refine mc_iastX E hG hoa86 ma_11.1 ma_11.2.1 (ma_11.2.2 _) (t_in (by omega) (by omega)) (by decide) (by decide) dX10_lay_170 (fun H locs hG => ?_)
          have hG := kO_set (PC_11) hG
          obtain ⟨F87, eF87⟩ : ∃ Z : mF, Z = up2 F85 11 (x1).toNatClampNeg (0 : Int32) := ⟨_, rfl⟩
          rw [← eF87] at hG
          refine lv_aload_n hx hb dX10_lay_171 rfl (lv_at hl 1 rfl) ?_
          refine lv_dup hx hb dX10_lay_172 rfl ?_
          refine mc_geti E hG t0 mi_221 dX10_lay_173 (fun z88 lz88 uz88 qz88 => ?_)
          have wz88 := kq qz88 (PC_d)
          have hd9 : z88.toInt ≤ 28 := by rw [wz88, eF87, up2_ne (by omega), eF85, up2_ne (by omega)]; exact hd2
          refine lv_iconst (v := 1) hx hb dX10_lay_176 (by decide) ?_
          refine lv_iadd hx hb dX10_lay_177 ?_
          refine lv_topi (fun z89 ez89 => ?_)
          have tz89 := tn_add ez89 rfl kI_1 (by omega) (by omega)
          have hd8 : z89.toInt = (F87 1 18).toInt + 1 := by rw [tz89, ← wz88]
          refine mc_putX E hG t0 mp_221 (by omega) (by omega) rfl rfl dX10_lay_178 (fun H locs hG => ?_)
          have hG := kO_set (PC_d) hG
          obtain ⟨F90, eF90⟩ : ∃ Z : mF, Z = up2 F87 1 18 z89 := ⟨_, rfl⟩
          rw [← eF90] at hG
          exact mc_vretX E hr hlk hG rfl ⟨_, rfl, LyP_of wz84 eF85 eF87 eF90 hd8⟩ dX10_lay_181
        · skip
          have ic76 := tn_eq rfl kI_0 c76
          refine lv_iload hx hb dX10_lay_74 (lv_at hl 0 rfl) ?_
          refine lv_if_eq (tgt := 90) hx hb dX10_lay_76 (by decide) (fun c91 => ?_) (fun c91 => ?_)
          · skip
            have ic91 := tn_eq kI_0 kI_0 c91
            refine lv_aload_n hx hb dX10_lay_90 rfl (lv_at hl 1 rfl) ?_
            refine lv_dup hx hb dX10_lay_91 rfl ?_
            refine mc_geti E hG t0 mi_215 dX10_lay_92 (fun z92 lz92 uz92 qz92 => ?_)
            refine lv_iconst (v := 1) hx hb dX10_lay_95 (by decide) ?_
            refine lv_iadd hx hb dX10_lay_96 ?_
            refine lv_topi (fun z93 ez93 => ?_)
            refine mc_put E hG t0 mp_215 ((PC_AV hA hcu).2.1 _ (by decide)) (t_any1 _) (t_any2 _) rfl rfl dX10_lay_97 (fun H locs hG => ?_)
            refine lv_aload_n hx hb dX10_lay_100 rfl (lv_at hl 1 rfl) ?_
            refine lv_dup hx hb dX10_lay_101 rfl ?_
            refine mc_geti E hG t0 mi_218 dX10_lay_102 (fun z94 lz94 uz94 qz94 => ?_)
            refine lv_iconst (v := 1) hx hb dX10_lay_105 (by decide) ?_
            refine lv_iload_n hx hb dX10_lay_106 rfl (lv_at hl 2 rfl) ?_
            refine lv_ishl hx hb dX10_lay_107 ?_
            refine lv_topi (fun z95 ez95 => ?_)
            refine lv_ior hx hb dX10_lay_108 ?_
            refine lv_topi (fun z96 ez96 => ?_)
            refine mc_put E hG t0 mp_218 ((PC_AV hA hcu).2.1 _ (by decide)) (t_any1 _) (t_any2 _) rfl rfl dX10_lay_109 (fun H locs hG => ?_)
            refine lv_aload_n hx hb dX10_lay_112 rfl (lv_at hl 1 rfl) ?_
            refine lv_iload_n hx hb dX10_lay_113 rfl (lv_at hl 2 rfl) ?_
            refine lv_bipush (v := 25) hx hb dX10_lay_114 (by decide) ?_
            refine lv_iconst (v := 1) hx hb dX10_lay_116 (by decide) ?_
            have k97 := kI_1
            refine mc_callv hG (mc_runV (As := [.int x1, .int 25, .int 1]) (rest := []) E hG (c_X10_put l G (σ, cu, kO PC X Fa) h0 x1 (25 : Int32) (1 : Int32) t0 (by omega) (by omega) (by decide) (by decide) (0) (1) rfl (by omega) (by omega) ((PC_AV hA hcu).2.2 _ _ (by omega) (by omega) (by decide) (by decide))) t0 rfl kv_X10_put ml_X10_102 ⟨rfl, rfl, Nat.le_of_ble_eq_true rfl, Nat.le_of_ble_eq_true rfl⟩ rfl hl.1 rfl (Nat.le_of_ble_eq_true rfl) ⟨Nat.zero_le _, Nat.zero_le _⟩ dX10_lay_117) (fun H locs hG => ?_)
            refine lv_aload_n hx hb dX10_lay_120 rfl (lv_at hl 1 rfl) ?_
            refine lv_iload_n hx hb dX10_lay_121 rfl (lv_at hl 2 rfl) ?_
            refine lv_bipush (v := 26) hx hb dX10_lay_122 (by decide) ?_
            refine lv_iload_n hx hb dX10_lay_124 rfl (lv_at hl 3 rfl) ?_
            refine mc_callv hG (mc_runV (As := [.int x1, .int 26, .int x2]) (rest := []) E hG (c_X10_put l G (σ, cu, kO PC X Fa) h0 x1 (26 : Int32) x2 t0 (by omega) (by omega) (by decide) (by decide) (0) (1000) rfl (by omega) (by omega) ((PC_AV hA hcu).2.2 _ _ (by omega) (by omega) (by decide) (by decide))) t0 rfl kv_X10_put ml_X10_102 ⟨rfl, rfl, Nat.le_of_ble_eq_true rfl, Nat.le_of_ble_eq_true rfl⟩ rfl hl.1 rfl (Nat.le_of_ble_eq_true rfl) ⟨Nat.zero_le _, Nat.zero_le _⟩ dX10_lay_125) (fun H locs hG => ?_)
            refine lv_aload_n hx hb dX10_lay_128 rfl (lv_at hl 1 rfl) ?_
            refine lv_iload_n hx hb dX10_lay_129 rfl (lv_at hl 2 rfl) ?_
            refine lv_bipush (v := 27) hx hb dX10_lay_130 (by decide) ?_
            refine lv_iload_n hx hb dX10_lay_132 rfl (lv_at hl 4 rfl) ?_
            refine mc_callv hG (mc_runV (As := [.int x1, .int 27, .int x3]) (rest := []) E hG (c_X10_put l G (σ, cu, kO PC X Fa) h0 x1 (27 : Int32) x3 t0 (by omega) (by omega) (by decide) (by decide) (0) (1000) rfl (by omega) (by omega) ((PC_AV hA hcu).2.2 _ _ (by omega) (by omega) (by decide) (by decide))) t0 rfl kv_X10_put ml_X10_102 ⟨rfl, rfl, Nat.le_of_ble_eq_true rfl, Nat.le_of_ble_eq_true rfl⟩ rfl hl.1 rfl (Nat.le_of_ble_eq_true rfl) ⟨Nat.zero_le _, Nat.zero_le _⟩ dX10_lay_133) (fun H locs hG => ?_)
            refine lv_aload_n hx hb dX10_lay_136 rfl (lv_at hl 1 rfl) ?_
            refine lv_iload_n hx hb dX10_lay_137 rfl (lv_at hl 2 rfl) ?_
            refine lv_bipush (v := 28) hx hb dX10_lay_138 (by decide) ?_
            refine lv_iload hx hb dX10_lay_140 (lv_at hl 5 rfl) ?_
            refine mc_callv hG (mc_runV (As := [.int x1, .int 28, .int x4]) (rest := []) E hG (c_X10_put l G (σ, cu, kO PC X Fa) h0 x1 (28 : Int32) x4 t0 (by omega) (by omega) (by decide) (by decide) (0) (1000) rfl (by omega) (by omega) ((PC_AV hA hcu).2.2 _ _ (by omega) (by omega) (by decide) (by decide))) t0 rfl kv_X10_put ml_X10_102 ⟨rfl, rfl, Nat.le_of_ble_eq_true rfl, Nat.le_of_ble_eq_true rfl⟩ rfl hl.1 rfl (Nat.le_of_ble_eq_true rfl) ⟨Nat.zero_le _, Nat.zero_le _⟩ dX10_lay_142) (fun H locs hG => ?_)
            refine lv_aload_n hx hb dX10_lay_145 rfl (lv_at hl 1 rfl) ?_
            refine lv_iload_n hx hb dX10_lay_146 rfl (lv_at hl 2 rfl) ?_
            refine lv_bipush (v := 29) hx hb dX10_lay_147 (by decide) ?_
            refine lv_iload hx hb dX10_lay_149 (lv_at hl 6 rfl) ?_
            refine mc_callv hG (mc_runV (As := [.int x1, .int 29, .int x5]) (rest := []) E hG (c_X10_put l G (σ, cu, kO PC X Fa) h0 x1 (29 : Int32) x5 t0 (by omega) (by omega) (by decide) (by decide) (0) (1000) rfl (by omega) (by omega) ((PC_AV hA hcu).2.2 _ _ (by omega) (by omega) (by decide) (by decide))) t0 rfl kv_X10_put ml_X10_102 ⟨rfl, rfl, Nat.le_of_ble_eq_true rfl, Nat.le_of_ble_eq_true rfl⟩ rfl hl.1 rfl (Nat.le_of_ble_eq_true rfl) ⟨Nat.zero_le _, Nat.zero_le _⟩ dX10_lay_151) (fun H locs hG => ?_)
            refine lv_aload_n hx hb dX10_lay_154 rfl (lv_at hl 1 rfl) ?_
            refine mc_getr E hG t0 mr_39 dX10_lay_155 (fun oa98 hoa98 => ?_)
            refine lv_aload_n hx hb dX10_lay_158 rfl (lv_at hl 1 rfl) ?_
            refine mc_geti E hG t0 mi_221 dX10_lay_159 (fun z99 lz99 uz99 qz99 => ?_)
            have wz99 := kq qz99 (PC_d)
            have hd7 : z99.toInt ≤ 28 := by rw [wz99]; exact hd2
            refine lv_iload_n hx hb dX10_lay_162 rfl (lv_at hl 2 rfl) ?_
            refine mc_iastX E hG hoa98 ma_10.1 ma_10.2.1 (ma_10.2.2 _) (t_in (by omega) (by omega)) (by omega) (by omega) dX10_lay_163 (fun H locs hG => ?_)
            have hG := kO_set (PC_10) hG
            obtain ⟨F100, eF100⟩ : ∃ Z : mF, Z = up2 Fa 10 (z99).toNatClampNeg x1 := ⟨_, rfl⟩
            rw [← eF100] at hG
            refine lv_aload_n hx hb dX10_lay_164 rfl (lv_at hl 1 rfl) ?_
            refine mc_getr E hG t0 mr_42 dX10_lay_165 (fun oa101 hoa101 => ?_)
            refine lv_iload_n hx hb dX10_lay_168 rfl (lv_at hl 2 rfl) ?_
            refine lv_iconst (v := 0) hx hb dX10_lay_169 (by decide) ?_
            refine mc_iastX E hG hoa101 ma_11.1 ma_11.2.1 (ma_11.2.2 _) (t_in (by omega) (by omega)) (by decide) (by decide) dX10_lay_170 (fun H locs hG => ?_)
            have hG := kO_set (PC_11) hG
            obtain ⟨F102, eF102⟩ : ∃ Z : mF, Z = up2 F100 11 (x1).toNatClampNeg (0 : Int32) := ⟨_, rfl⟩
            rw [← eF102] at hG
            refine lv_aload_n hx hb dX10_lay_171 rfl (lv_at hl 1 rfl) ?_
            refine lv_dup hx hb dX10_lay_172 rfl ?_
            refine mc_geti E hG t0 mi_221 dX10_lay_173 (fun z103 lz103 uz103 qz103 => ?_)
            have wz103 := kq qz103 (PC_d)
            have hd9 : z103.toInt ≤ 28 := by rw [wz103, eF102, up2_ne (by omega), eF100, up2_ne (by omega)]; exact hd2
            refine lv_iconst (v := 1) hx hb dX10_lay_176 (by decide) ?_
            refine lv_iadd hx hb dX10_lay_177 ?_
            refine lv_topi (fun z104 ez104 => ?_)
            have tz104 := tn_add ez104 rfl kI_1 (by omega) (by omega)
            have hd8 : z104.toInt = (F102 1 18).toInt + 1 := by rw [tz104, ← wz103]
            refine mc_putX E hG t0 mp_221 (by omega) (by omega) rfl rfl dX10_lay_178 (fun H locs hG => ?_)
            have hG := kO_set (PC_d) hG
            obtain ⟨F105, eF105⟩ : ∃ Z : mF, Z = up2 F102 1 18 z104 := ⟨_, rfl⟩
            rw [← eF105] at hG
            exact mc_vretX E hr hlk hG rfl ⟨_, rfl, LyP_of wz99 eF100 eF102 eF105 hd8⟩ dX10_lay_181
          · exfalso
            have ic91 := tn_ne kI_0 kI_0 c91
            omega
      · skip
        have ic73 := tn_eq rfl rfl c73
        refine lv_aload_n hx hb dX10_lay_33 rfl (lv_at hl 0 rfl) ?_
        refine lv_iload_n hx hb dX10_lay_34 rfl (lv_at hl 1 rfl) ?_
        refine lv_bipush (v := 28) hx hb dX10_lay_35 (by decide) ?_
        refine tc_callp (mc_runV (As := [.int x1, .int 28]) (rest := []) E hG (c_X10_get l G (σ, cu, kO PC X Fa) h0 x1 (28 : Int32) t0 (by omega) (by omega) (by decide) (by decide)) t0 rfl kv_X10_get ml_X10_91 ⟨rfl, rfl, Nat.le_of_ble_eq_true rfl, Nat.le_of_ble_eq_true rfl⟩ rfl hl.1 rfl (Nat.le_of_ble_eq_true rfl) ⟨Nat.zero_le _, Nat.zero_le _⟩ dX10_lay_37) (fun r106 pr106 => ?_)
        replace pr106 : mV (σ, cu, kO PC X Fa) (ix x1.toInt (28 : Int32).toInt) r106 := pr106
        have pr106 := mV_l pr106 kI_28
        have br106 := mV_28 pr106 (by omega)
        have k107 := kI_28
        refine lv_iload hx hb dX10_lay_40 (lv_at hl 4 rfl) ?_
        refine lv_icmp_ne (tgt := 61) hx hb dX10_lay_42 (by decide) (fun c108 => ?_) (fun c108 => ?_)
        · skip
          have ic108 := tn_ne rfl rfl c108
          refine lv_iconst (v := 0) hx hb dX10_lay_61 (by decide) ?_
          refine lv_istore (lv' := [(6, .int 0), (0, .ref h0), (1, .int x1), (2, .int x2), (3, .int x3), (4, .int x4), (5, .int x5)]) hx hb dX10_lay_62 hl (by decide) rfl (fun ls hl => ?_)
          refine lv_aload_n hx hb dX10_lay_64 rfl (lv_at hl 1 rfl) ?_
          refine lv_iload_n hx hb dX10_lay_65 rfl (lv_at hl 2 rfl) ?_
          refine lv_bipush (v := 19) hx hb dX10_lay_66 (by decide) ?_
          refine tc_callp (mc_runV (As := [.int x1, .int 19]) (rest := []) E hG (c_X10_get l G (σ, cu, kO PC X Fa) h0 x1 (19 : Int32) t0 (by omega) (by omega) (by decide) (by decide)) t0 rfl kv_X10_get ml_X10_91 ⟨rfl, rfl, Nat.le_of_ble_eq_true rfl, Nat.le_of_ble_eq_true rfl⟩ rfl hl.1 rfl (Nat.le_of_ble_eq_true rfl) ⟨Nat.zero_le _, Nat.zero_le _⟩ dX10_lay_68) (fun r109 pr109 => ?_)
          replace pr109 : mV (σ, cu, kO PC X Fa) (ix x1.toInt (19 : Int32).toInt) r109 := pr109
          have pr109 := mV_l pr109 kI_19
          have br109 := mV_19 pr109 (by omega)
          have k110 := kI_19
          refine lv_if_ne (tgt := 90) hx hb dX10_lay_71 (by decide) (fun c111 => ?_) (fun c111 => ?_)
          · skip
            have ic111 := tn_ne rfl kI_0 c111
            refine lv_aload_n hx hb dX10_lay_90 rfl (lv_at hl 1 rfl) ?_
            refine lv_dup hx hb dX10_lay_91 rfl ?_
            refine mc_geti E hG t0 mi_215 dX10_lay_92 (fun z112 lz112 uz112 qz112 => ?_)
            refine lv_iconst (v := 1) hx hb dX10_lay_95 (by decide) ?_
            refine lv_iadd hx hb dX10_lay_96 ?_
            refine lv_topi (fun z113 ez113 => ?_)
            refine mc_put E hG t0 mp_215 ((PC_AV hA hcu).2.1 _ (by decide)) (t_any1 _) (t_any2 _) rfl rfl dX10_lay_97 (fun H locs hG => ?_)
            refine lv_aload_n hx hb dX10_lay_100 rfl (lv_at hl 1 rfl) ?_
            refine lv_dup hx hb dX10_lay_101 rfl ?_
            refine mc_geti E hG t0 mi_218 dX10_lay_102 (fun z114 lz114 uz114 qz114 => ?_)
            refine lv_iconst (v := 1) hx hb dX10_lay_105 (by decide) ?_
            refine lv_iload_n hx hb dX10_lay_106 rfl (lv_at hl 2 rfl) ?_
            refine lv_ishl hx hb dX10_lay_107 ?_
            refine lv_topi (fun z115 ez115 => ?_)
            refine lv_ior hx hb dX10_lay_108 ?_
            refine lv_topi (fun z116 ez116 => ?_)
            refine mc_put E hG t0 mp_218 ((PC_AV hA hcu).2.1 _ (by decide)) (t_any1 _) (t_any2 _) rfl rfl dX10_lay_109 (fun H locs hG => ?_)
            refine lv_aload_n hx hb dX10_lay_112 rfl (lv_at hl 1 rfl) ?_
            refine lv_iload_n hx hb dX10_lay_113 rfl (lv_at hl 2 rfl) ?_
            refine lv_bipush (v := 25) hx hb dX10_lay_114 (by decide) ?_
            refine lv_iconst (v := 1) hx hb dX10_lay_116 (by decide) ?_
            have k117 := kI_1
            refine mc_callv hG (mc_runV (As := [.int x1, .int 25, .int 1]) (rest := []) E hG (c_X10_put l G (σ, cu, kO PC X Fa) h0 x1 (25 : Int32) (1 : Int32) t0 (by omega) (by omega) (by decide) (by decide) (0) (1) rfl (by omega) (by omega) ((PC_AV hA hcu).2.2 _ _ (by omega) (by omega) (by decide) (by decide))) t0 rfl kv_X10_put ml_X10_102 ⟨rfl, rfl, Nat.le_of_ble_eq_true rfl, Nat.le_of_ble_eq_true rfl⟩ rfl hl.1 rfl (Nat.le_of_ble_eq_true rfl) ⟨Nat.zero_le _, Nat.zero_le _⟩ dX10_lay_117) (fun H locs hG => ?_)
            refine lv_aload_n hx hb dX10_lay_120 rfl (lv_at hl 1 rfl) ?_
            refine lv_iload_n hx hb dX10_lay_121 rfl (lv_at hl 2 rfl) ?_
            refine lv_bipush (v := 26) hx hb dX10_lay_122 (by decide) ?_
            refine lv_iload_n hx hb dX10_lay_124 rfl (lv_at hl 3 rfl) ?_
            refine mc_callv hG (mc_runV (As := [.int x1, .int 26, .int x2]) (rest := []) E hG (c_X10_put l G (σ, cu, kO PC X Fa) h0 x1 (26 : Int32) x2 t0 (by omega) (by omega) (by decide) (by decide) (0) (1000) rfl (by omega) (by omega) ((PC_AV hA hcu).2.2 _ _ (by omega) (by omega) (by decide) (by decide))) t0 rfl kv_X10_put ml_X10_102 ⟨rfl, rfl, Nat.le_of_ble_eq_true rfl, Nat.le_of_ble_eq_true rfl⟩ rfl hl.1 rfl (Nat.le_of_ble_eq_true rfl) ⟨Nat.zero_le _, Nat.zero_le _⟩ dX10_lay_125) (fun H locs hG => ?_)
            refine lv_aload_n hx hb dX10_lay_128 rfl (lv_at hl 1 rfl) ?_
            refine lv_iload_n hx hb dX10_lay_129 rfl (lv_at hl 2 rfl) ?_
            refine lv_bipush (v := 27) hx hb dX10_lay_130 (by decide) ?_
            refine lv_iload_n hx hb dX10_lay_132 rfl (lv_at hl 4 rfl) ?_
            refine mc_callv hG (mc_runV (As := [.int x1, .int 27, .int x3]) (rest := []) E hG (c_X10_put l G (σ, cu, kO PC X Fa) h0 x1 (27 : Int32) x3 t0 (by omega) (by omega) (by decide) (by decide) (0) (1000) rfl (by omega) (by omega) ((PC_AV hA hcu).2.2 _ _ (by omega) (by omega) (by decide) (by decide))) t0 rfl kv_X10_put ml_X10_102 ⟨rfl, rfl, Nat.le_of_ble_eq_true rfl, Nat.le_of_ble_eq_true rfl⟩ rfl hl.1 rfl (Nat.le_of_ble_eq_true rfl) ⟨Nat.zero_le _, Nat.zero_le _⟩ dX10_lay_133) (fun H locs hG => ?_)
            refine lv_aload_n hx hb dX10_lay_136 rfl (lv_at hl 1 rfl) ?_
            refine lv_iload_n hx hb dX10_lay_137 rfl (lv_at hl 2 rfl) ?_
            refine lv_bipush (v := 28) hx hb dX10_lay_138 (by decide) ?_
            refine lv_iload hx hb dX10_lay_140 (lv_at hl 5 rfl) ?_
            refine mc_callv hG (mc_runV (As := [.int x1, .int 28, .int x4]) (rest := []) E hG (c_X10_put l G (σ, cu, kO PC X Fa) h0 x1 (28 : Int32) x4 t0 (by omega) (by omega) (by decide) (by decide) (0) (1000) rfl (by omega) (by omega) ((PC_AV hA hcu).2.2 _ _ (by omega) (by omega) (by decide) (by decide))) t0 rfl kv_X10_put ml_X10_102 ⟨rfl, rfl, Nat.le_of_ble_eq_true rfl, Nat.le_of_ble_eq_true rfl⟩ rfl hl.1 rfl (Nat.le_of_ble_eq_true rfl) ⟨Nat.zero_le _, Nat.zero_le _⟩ dX10_lay_142) (fun H locs hG => ?_)
            refine lv_aload_n hx hb dX10_lay_145 rfl (lv_at hl 1 rfl) ?_
            refine lv_iload_n hx hb dX10_lay_146 rfl (lv_at hl 2 rfl) ?_
            refine lv_bipush (v := 29) hx hb dX10_lay_147 (by decide) ?_
            refine lv_iload hx hb dX10_lay_149 (lv_at hl 6 rfl) ?_
            refine mc_callv hG (mc_runV (As := [.int x1, .int 29, .int x5]) (rest := []) E hG (c_X10_put l G (σ, cu, kO PC X Fa) h0 x1 (29 : Int32) x5 t0 (by omega) (by omega) (by decide) (by decide) (0) (1000) rfl (by omega) (by omega) ((PC_AV hA hcu).2.2 _ _ (by omega) (by omega) (by decide) (by decide))) t0 rfl kv_X10_put ml_X10_102 ⟨rfl, rfl, Nat.le_of_ble_eq_true rfl, Nat.le_of_ble_eq_true rfl⟩ rfl hl.1 rfl (Nat.le_of_ble_eq_true rfl) ⟨Nat.zero_le _, Nat.zero_le _⟩ dX10_lay_151) (fun H locs hG => ?_)
            refine lv_aload_n hx hb dX10_lay_154 rfl (lv_at hl 1 rfl) ?_
            refine mc_getr E hG t0 mr_39 dX10_lay_155 (fun oa118 hoa118 => ?_)
            refine lv_aload_n hx hb dX10_lay_158 rfl (lv_at hl 1 rfl) ?_
            refine mc_geti E hG t0 mi_221 dX10_lay_159 (fun z119 lz119 uz119 qz119 => ?_)
            have wz119 := kq qz119 (PC_d)
            have hd7 : z119.toInt ≤ 28 := by rw [wz119]; exact hd2
            refine lv_iload_n hx hb dX10_lay_162 rfl (lv_at hl 2 rfl) ?_
            refine mc_iastX E hG hoa118 ma_10.1 ma_10.2.1 (ma_10.2.2 _) (t_in (by omega) (by omega)) (by omega) (by omega) dX10_lay_163 (fun H locs hG => ?_)
            have hG := kO_set (PC_10) hG
            obtain ⟨F120, eF120⟩ : ∃ Z : mF, Z = up2 Fa 10 (z119).toNatClampNeg x1 := ⟨_, rfl⟩
            rw [← eF120] at hG
            refine lv_aload_n hx hb dX10_lay_164 rfl (lv_at hl 1 rfl) ?_
            refine mc_getr E hG t0 mr_42 dX10_lay_165 (fun oa121 hoa121 => ?_)
            refine lv_iload_n hx hb dX10_lay_168 rfl (lv_at hl 2 rfl) ?_
            refine lv_iconst (v := 0) hx hb dX10_lay_169 (by decide) ?_
            refine mc_iastX E hG hoa121 ma_11.1 ma_11.2.1 (ma_11.2.2 _) (t_in (by omega) (by omega)) (by decide) (by decide) dX10_lay_170 (fun H locs hG => ?_)
            have hG := kO_set (PC_11) hG
            obtain ⟨F122, eF122⟩ : ∃ Z : mF, Z = up2 F120 11 (x1).toNatClampNeg (0 : Int32) := ⟨_, rfl⟩
            rw [← eF122] at hG
            refine lv_aload_n hx hb dX10_lay_171 rfl (lv_at hl 1 rfl) ?_
            refine lv_dup hx hb dX10_lay_172 rfl ?_
            refine mc_geti E hG t0 mi_221 dX10_lay_173 (fun z123 lz123 uz123 qz123 => ?_)
            have wz123 := kq qz123 (PC_d)
            have hd9 : z123.toInt ≤ 28 := by rw [wz123, eF122, up2_ne (by omega), eF120, up2_ne (by omega)]; exact hd2
            refine lv_iconst (v := 1) hx hb dX10_lay_176 (by decide) ?_
            refine lv_iadd hx hb dX10_lay_177 ?_
            refine lv_topi (fun z124 ez124 => ?_)
            have tz124 := tn_add ez124 rfl kI_1 (by omega) (by omega)
            have hd8 : z124.toInt = (F122 1 18).toInt + 1 := by rw [tz124, ← wz123]
            refine mc_putX E hG t0 mp_221 (by omega) (by omega) rfl rfl dX10_lay_178 (fun H locs hG => ?_)
            have hG := kO_set (PC_d) hG
            obtain ⟨F125, eF125⟩ : ∃ Z : mF, Z = up2 F122 1 18 z124 := ⟨_, rfl⟩
            rw [← eF125] at hG
            exact mc_vretX E hr hlk hG rfl ⟨_, rfl, LyP_of wz119 eF120 eF122 eF125 hd8⟩ dX10_lay_181
          · skip
            have ic111 := tn_eq rfl kI_0 c111
            refine lv_iload hx hb dX10_lay_74 (lv_at hl 0 rfl) ?_
            refine lv_if_eq (tgt := 90) hx hb dX10_lay_76 (by decide) (fun c126 => ?_) (fun c126 => ?_)
            · skip
              have ic126 := tn_eq kI_0 kI_0 c126
              refine lv_aload_n hx hb dX10_lay_90 rfl (lv_at hl 1 rfl) ?_
              refine lv_dup hx hb dX10_lay_91 rfl ?_
              refine mc_geti E hG t0 mi_215 dX10_lay_92 (fun z127 lz127 uz127 qz127 => ?_)
              refine lv_iconst (v := 1) hx hb dX10_lay_95 (by decide) ?_
              refine lv_iadd hx hb dX10_lay_96 ?_
              refine lv_topi (fun z128 ez128 => ?_)
              refine mc_put E hG t0 mp_215 ((PC_AV hA hcu).2.1 _ (by decide)) (t_any1 _) (t_any2 _) rfl rfl dX10_lay_97 (fun H locs hG => ?_)
              refine lv_aload_n hx hb dX10_lay_100 rfl (lv_at hl 1 rfl) ?_
              refine lv_dup hx hb dX10_lay_101 rfl ?_
              refine mc_geti E hG t0 mi_218 dX10_lay_102 (fun z129 lz129 uz129 qz129 => ?_)
              refine lv_iconst (v := 1) hx hb dX10_lay_105 (by decide) ?_
              refine lv_iload_n hx hb dX10_lay_106 rfl (lv_at hl 2 rfl) ?_
              refine lv_ishl hx hb dX10_lay_107 ?_
              refine lv_topi (fun z130 ez130 => ?_)
              refine lv_ior hx hb dX10_lay_108 ?_
              refine lv_topi (fun z131 ez131 => ?_)
              refine mc_put E hG t0 mp_218 ((PC_AV hA hcu).2.1 _ (by decide)) (t_any1 _) (t_any2 _) rfl rfl dX10_lay_109 (fun H locs hG => ?_)
              refine lv_aload_n hx hb dX10_lay_112 rfl (lv_at hl 1 rfl) ?_
              refine lv_iload_n hx hb dX10_lay_113 rfl (lv_at hl 2 rfl) ?_
              refine lv_bipush (v := 25) hx hb dX10_lay_114 (by decide) ?_
              refine lv_iconst (v := 1) hx hb dX10_lay_116 (by decide) ?_
              have k132 := kI_1
              refine mc_callv hG (mc_runV (As := [.int x1, .int 25, .int 1]) (rest := []) E hG (c_X10_put l G (σ, cu, kO PC X Fa) h0 x1 (25 : Int32) (1 : Int32) t0 (by omega) (by omega) (by decide) (by decide) (0) (1) rfl (by omega) (by omega) ((PC_AV hA hcu).2.2 _ _ (by omega) (by omega) (by decide) (by decide))) t0 rfl kv_X10_put ml_X10_102 ⟨rfl, rfl, Nat.le_of_ble_eq_true rfl, Nat.le_of_ble_eq_true rfl⟩ rfl hl.1 rfl (Nat.le_of_ble_eq_true rfl) ⟨Nat.zero_le _, Nat.zero_le _⟩ dX10_lay_117) (fun H locs hG => ?_)
              refine lv_aload_n hx hb dX10_lay_120 rfl (lv_at hl 1 rfl) ?_
              refine lv_iload_n hx hb dX10_lay_121 rfl (lv_at hl 2 rfl) ?_
              refine lv_bipush (v := 26) hx hb dX10_lay_122 (by decide) ?_
              refine lv_iload_n hx hb dX10_lay_124 rfl (lv_at hl 3 rfl) ?_
              refine mc_callv hG (mc_runV (As := [.int x1, .int 26, .int x2]) (rest := []) E hG (c_X10_put l G (σ, cu, kO PC X Fa) h0 x1 (26 : Int32) x2 t0 (by omega) (by omega) (by decide) (by decide) (0) (1000) rfl (by omega) (by omega) ((PC_AV hA hcu).2.2 _ _ (by omega) (by omega) (by decide) (by decide))) t0 rfl kv_X10_put ml_X10_102 ⟨rfl, rfl, Nat.le_of_ble_eq_true rfl, Nat.le_of_ble_eq_true rfl⟩ rfl hl.1 rfl (Nat.le_of_ble_eq_true rfl) ⟨Nat.zero_le _, Nat.zero_le _⟩ dX10_lay_125) (fun H locs hG => ?_)
              refine lv_aload_n hx hb dX10_lay_128 rfl (lv_at hl 1 rfl) ?_
              refine lv_iload_n hx hb dX10_lay_129 rfl (lv_at hl 2 rfl) ?_
              refine lv_bipush (v := 27) hx hb dX10_lay_130 (by decide) ?_
              refine lv_iload_n hx hb dX10_lay_132 rfl (lv_at hl 4 rfl) ?_
              refine mc_callv hG (mc_runV (As := [.int x1, .int 27, .int x3]) (rest := []) E hG (c_X10_put l G (σ, cu, kO PC X Fa) h0 x1 (27 : Int32) x3 t0 (by omega) (by omega) (by decide) (by decide) (0) (1000) rfl (by omega) (by omega) ((PC_AV hA hcu).2.2 _ _ (by omega) (by omega) (by decide) (by decide))) t0 rfl kv_X10_put ml_X10_102 ⟨rfl, rfl, Nat.le_of_ble_eq_true rfl, Nat.le_of_ble_eq_true rfl⟩ rfl hl.1 rfl (Nat.le_of_ble_eq_true rfl) ⟨Nat.zero_le _, Nat.zero_le _⟩ dX10_lay_133) (fun H locs hG => ?_)
              refine lv_aload_n hx hb dX10_lay_136 rfl (lv_at hl 1 rfl) ?_
              refine lv_iload_n hx hb dX10_lay_137 rfl (lv_at hl 2 rfl) ?_
              refine lv_bipush (v := 28) hx hb dX10_lay_138 (by decide) ?_
              refine lv_iload hx hb dX10_lay_140 (lv_at hl 5 rfl) ?_
              refine mc_callv hG (mc_runV (As := [.int x1, .int 28, .int x4]) (rest := []) E hG (c_X10_put l G (σ, cu, kO PC X Fa) h0 x1 (28 : Int32) x4 t0 (by omega) (by omega) (by decide) (by decide) (0) (1000) rfl (by omega) (by omega) ((PC_AV hA hcu).2.2 _ _ (by omega) (by omega) (by decide) (by decide))) t0 rfl kv_X10_put ml_X10_102 ⟨rfl, rfl, Nat.le_of_ble_eq_true rfl, Nat.le_of_ble_eq_true rfl⟩ rfl hl.1 rfl (Nat.le_of_ble_eq_true rfl) ⟨Nat.zero_le _, Nat.zero_le _⟩ dX10_lay_142) (fun H locs hG => ?_)
              refine lv_aload_n hx hb dX10_lay_145 rfl (lv_at hl 1 rfl) ?_
              refine lv_iload_n hx hb dX10_lay_146 rfl (lv_at hl 2 rfl) ?_
              refine lv_bipush (v := 29) hx hb dX10_lay_147 (by decide) ?_
              refine lv_iload hx hb dX10_lay_149 (lv_at hl 6 rfl) ?_
              refine mc_callv hG (mc_runV (As := [.int x1, .int 29, .int x5]) (rest := []) E hG (c_X10_put l G (σ, cu, kO PC X Fa) h0 x1 (29 : Int32) x5 t0 (by omega) (by omega) (by decide) (by decide) (0) (1000) rfl (by omega) (by omega) ((PC_AV hA hcu).2.2 _ _ (by omega) (by omega) (by decide) (by decide))) t0 rfl kv_X10_put ml_X10_102 ⟨rfl, rfl, Nat.le_of_ble_eq_true rfl, Nat.le_of_ble_eq_true rfl⟩ rfl hl.1 rfl (Nat.le_of_ble_eq_true rfl) ⟨Nat.zero_le _, Nat.zero_le _⟩ dX10_lay_151) (fun H locs hG => ?_)
              refine lv_aload_n hx hb dX10_lay_154 rfl (lv_at hl 1 rfl) ?_
              refine mc_getr E hG t0 mr_39 dX10_lay_155 (fun oa133 hoa133 => ?_)
              refine lv_aload_n hx hb dX10_lay_158 rfl (lv_at hl 1 rfl) ?_
              refine mc_geti E hG t0 mi_221 dX10_lay_159 (fun z134 lz134 uz134 qz134 => ?_)
              have wz134 := kq qz134 (PC_d)
              have hd7 : z134.toInt ≤ 28 := by rw [wz134]; exact hd2
              refine lv_iload_n hx hb dX10_lay_162 rfl (lv_at hl 2 rfl) ?_
              refine mc_iastX E hG hoa133 ma_10.1 ma_10.2.1 (ma_10.2.2 _) (t_in (by omega) (by omega)) (by omega) (by omega) dX10_lay_163 (fun H locs hG => ?_)
              have hG := kO_set (PC_10) hG
              obtain ⟨F135, eF135⟩ : ∃ Z : mF, Z = up2 Fa 10 (z134).toNatClampNeg x1 := ⟨_, rfl⟩
              rw [← eF135] at hG
              refine lv_aload_n hx hb dX10_lay_164 rfl (lv_at hl 1 rfl) ?_
              refine mc_getr E hG t0 mr_42 dX10_lay_165 (fun oa136 hoa136 => ?_)
              refine lv_iload_n hx hb dX10_lay_168 rfl (lv_at hl 2 rfl) ?_
              refine lv_iconst (v := 0) hx hb dX10_lay_169 (by decide) ?_
              refine mc_iastX E hG hoa136 ma_11.1 ma_11.2.1 (ma_11.2.2 _) (t_in (by omega) (by omega)) (by decide) (by decide) dX10_lay_170 (fun H locs hG => ?_)
              have hG := kO_set (PC_11) hG
              obtain ⟨F137, eF137⟩ : ∃ Z : mF, Z = up2 F135 11 (x1).toNatClampNeg (0 : Int32) := ⟨_, rfl⟩
              rw [← eF137] at hG
              refine lv_aload_n hx hb dX10_lay_171 rfl (lv_at hl 1 rfl) ?_
              refine lv_dup hx hb dX10_lay_172 rfl ?_
              refine mc_geti E hG t0 mi_221 dX10_lay_173 (fun z138 lz138 uz138 qz138 => ?_)
              have wz138 := kq qz138 (PC_d)
              have hd9 : z138.toInt ≤ 28 := by rw [wz138, eF137, up2_ne (by omega), eF135, up2_ne (by omega)]; exact hd2
              refine lv_iconst (v := 1) hx hb dX10_lay_176 (by decide) ?_
              refine lv_iadd hx hb dX10_lay_177 ?_
              refine lv_topi (fun z139 ez139 => ?_)
              have tz139 := tn_add ez139 rfl kI_1 (by omega) (by omega)
              have hd8 : z139.toInt = (F137 1 18).toInt + 1 := by rw [tz139, ← wz138]
              refine mc_putX E hG t0 mp_221 (by omega) (by omega) rfl rfl dX10_lay_178 (fun H locs hG => ?_)
              have hG := kO_set (PC_d) hG
              obtain ⟨F140, eF140⟩ : ∃ Z : mF, Z = up2 F137 1 18 z139 := ⟨_, rfl⟩
              rw [← eF140] at hG
              exact mc_vretX E hr hlk hG rfl ⟨_, rfl, LyP_of wz134 eF135 eF137 eF140 hd8⟩ dX10_lay_181
            · exfalso
              have ic126 := tn_ne kI_0 kI_0 c126
              omega
        · skip
          have ic108 := tn_eq rfl rfl c108
          refine lv_aload_n hx hb dX10_lay_45 rfl (lv_at hl 0 rfl) ?_
          refine lv_iload_n hx hb dX10_lay_46 rfl (lv_at hl 1 rfl) ?_
          refine lv_bipush (v := 29) hx hb dX10_lay_47 (by decide) ?_
          refine tc_callp (mc_runV (As := [.int x1, .int 29]) (rest := []) E hG (c_X10_get l G (σ, cu, kO PC X Fa) h0 x1 (29 : Int32) t0 (by omega) (by omega) (by decide) (by decide)) t0 rfl kv_X10_get ml_X10_91 ⟨rfl, rfl, Nat.le_of_ble_eq_true rfl, Nat.le_of_ble_eq_true rfl⟩ rfl hl.1 rfl (Nat.le_of_ble_eq_true rfl) ⟨Nat.zero_le _, Nat.zero_le _⟩ dX10_lay_49) (fun r141 pr141 => ?_)
          replace pr141 : mV (σ, cu, kO PC X Fa) (ix x1.toInt (29 : Int32).toInt) r141 := pr141
          have pr141 := mV_l pr141 kI_29
          have br141 := mV_29 pr141 (by omega)
          have k142 := kI_29
          refine lv_iload hx hb dX10_lay_52 (lv_at hl 5 rfl) ?_
          refine lv_icmp_ne (tgt := 61) hx hb dX10_lay_54 (by decide) (fun c143 => ?_) (fun c143 => ?_)
          · skip
            have ic143 := tn_ne rfl rfl c143
            refine lv_iconst (v := 0) hx hb dX10_lay_61 (by decide) ?_
            refine lv_istore (lv' := [(6, .int 0), (0, .ref h0), (1, .int x1), (2, .int x2), (3, .int x3), (4, .int x4), (5, .int x5)]) hx hb dX10_lay_62 hl (by decide) rfl (fun ls hl => ?_)
            refine lv_aload_n hx hb dX10_lay_64 rfl (lv_at hl 1 rfl) ?_
            refine lv_iload_n hx hb dX10_lay_65 rfl (lv_at hl 2 rfl) ?_
            refine lv_bipush (v := 19) hx hb dX10_lay_66 (by decide) ?_
            refine tc_callp (mc_runV (As := [.int x1, .int 19]) (rest := []) E hG (c_X10_get l G (σ, cu, kO PC X Fa) h0 x1 (19 : Int32) t0 (by omega) (by omega) (by decide) (by decide)) t0 rfl kv_X10_get ml_X10_91 ⟨rfl, rfl, Nat.le_of_ble_eq_true rfl, Nat.le_of_ble_eq_true rfl⟩ rfl hl.1 rfl (Nat.le_of_ble_eq_true rfl) ⟨Nat.zero_le _, Nat.zero_le _⟩ dX10_lay_68) (fun r144 pr144 => ?_)
            replace pr144 : mV (σ, cu, kO PC X Fa) (ix x1.toInt (19 : Int32).toInt) r144 := pr144
            have pr144 := mV_l pr144 kI_19
            have br144 := mV_19 pr144 (by omega)
            have k145 := kI_19
            refine lv_if_ne (tgt := 90) hx hb dX10_lay_71 (by decide) (fun c146 => ?_) (fun c146 => ?_)
            · skip
              have ic146 := tn_ne rfl kI_0 c146
              refine lv_aload_n hx hb dX10_lay_90 rfl (lv_at hl 1 rfl) ?_
              refine lv_dup hx hb dX10_lay_91 rfl ?_
              refine mc_geti E hG t0 mi_215 dX10_lay_92 (fun z147 lz147 uz147 qz147 => ?_)
              refine lv_iconst (v := 1) hx hb dX10_lay_95 (by decide) ?_
              refine lv_iadd hx hb dX10_lay_96 ?_
              refine lv_topi (fun z148 ez148 => ?_)
              refine mc_put E hG t0 mp_215 ((PC_AV hA hcu).2.1 _ (by decide)) (t_any1 _) (t_any2 _) rfl rfl dX10_lay_97 (fun H locs hG => ?_)
              refine lv_aload_n hx hb dX10_lay_100 rfl (lv_at hl 1 rfl) ?_
              refine lv_dup hx hb dX10_lay_101 rfl ?_
              refine mc_geti E hG t0 mi_218 dX10_lay_102 (fun z149 lz149 uz149 qz149 => ?_)
              refine lv_iconst (v := 1) hx hb dX10_lay_105 (by decide) ?_
              refine lv_iload_n hx hb dX10_lay_106 rfl (lv_at hl 2 rfl) ?_
              refine lv_ishl hx hb dX10_lay_107 ?_
              refine lv_topi (fun z150 ez150 => ?_)
              refine lv_ior hx hb dX10_lay_108 ?_
              refine lv_topi (fun z151 ez151 => ?_)
              refine mc_put E hG t0 mp_218 ((PC_AV hA hcu).2.1 _ (by decide)) (t_any1 _) (t_any2 _) rfl rfl dX10_lay_109 (fun H locs hG => ?_)
              refine lv_aload_n hx hb dX10_lay_112 rfl (lv_at hl 1 rfl) ?_
              refine lv_iload_n hx hb dX10_lay_113 rfl (lv_at hl 2 rfl) ?_
              refine lv_bipush (v := 25) hx hb dX10_lay_114 (by decide) ?_
              refine lv_iconst (v := 1) hx hb dX10_lay_116 (by decide) ?_
              have k152 := kI_1
              refine mc_callv hG (mc_runV (As := [.int x1, .int 25, .int 1]) (rest := []) E hG (c_X10_put l G (σ, cu, kO PC X Fa) h0 x1 (25 : Int32) (1 : Int32) t0 (by omega) (by omega) (by decide) (by decide) (0) (1) rfl (by omega) (by omega) ((PC_AV hA hcu).2.2 _ _ (by omega) (by omega) (by decide) (by decide))) t0 rfl kv_X10_put ml_X10_102 ⟨rfl, rfl, Nat.le_of_ble_eq_true rfl, Nat.le_of_ble_eq_true rfl⟩ rfl hl.1 rfl (Nat.le_of_ble_eq_true rfl) ⟨Nat.zero_le _, Nat.zero_le _⟩ dX10_lay_117) (fun H locs hG => ?_)
              refine lv_aload_n hx hb dX10_lay_120 rfl (lv_at hl 1 rfl) ?_
              refine lv_iload_n hx hb dX10_lay_121 rfl (lv_at hl 2 rfl) ?_
              refine lv_bipush (v := 26) hx hb dX10_lay_122 (by decide) ?_
              refine lv_iload_n hx hb dX10_lay_124 rfl (lv_at hl 3 rfl) ?_
              refine mc_callv hG (mc_runV (As := [.int x1, .int 26, .int x2]) (rest := []) E hG (c_X10_put l G (σ, cu, kO PC X Fa) h0 x1 (26 : Int32) x2 t0 (by omega) (by omega) (by decide) (by decide) (0) (1000) rfl (by omega) (by omega) ((PC_AV hA hcu).2.2 _ _ (by omega) (by omega) (by decide) (by decide))) t0 rfl kv_X10_put ml_X10_102 ⟨rfl, rfl, Nat.le_of_ble_eq_true rfl, Nat.le_of_ble_eq_true rfl⟩ rfl hl.1 rfl (Nat.le_of_ble_eq_true rfl) ⟨Nat.zero_le _, Nat.zero_le _⟩ dX10_lay_125) (fun H locs hG => ?_)
              refine lv_aload_n hx hb dX10_lay_128 rfl (lv_at hl 1 rfl) ?_
              refine lv_iload_n hx hb dX10_lay_129 rfl (lv_at hl 2 rfl) ?_
              refine lv_bipush (v := 27) hx hb dX10_lay_130 (by decide) ?_
              refine lv_iload_n hx hb dX10_lay_132 rfl (lv_at hl 4 rfl) ?_
              refine mc_callv hG (mc_runV (As := [.int x1, .int 27, .int x3]) (rest := []) E hG (c_X10_put l G (σ, cu, kO PC X Fa) h0 x1 (27 : Int32) x3 t0 (by omega) (by omega) (by decide) (by decide) (0) (1000) rfl (by omega) (by omega) ((PC_AV hA hcu).2.2 _ _ (by omega) (by omega) (by decide) (by decide))) t0 rfl kv_X10_put ml_X10_102 ⟨rfl, rfl, Nat.le_of_ble_eq_true rfl, Nat.le_of_ble_eq_true rfl⟩ rfl hl.1 rfl (Nat.le_of_ble_eq_true rfl) ⟨Nat.zero_le _, Nat.zero_le _⟩ dX10_lay_133) (fun H locs hG => ?_)
              refine lv_aload_n hx hb dX10_lay_136 rfl (lv_at hl 1 rfl) ?_
              refine lv_iload_n hx hb dX10_lay_137 rfl (lv_at hl 2 rfl) ?_
              refine lv_bipush (v := 28) hx hb dX10_lay_138 (by decide) ?_
              refine lv_iload hx hb dX10_lay_140 (lv_at hl 5 rfl) ?_
              refine mc_callv hG (mc_runV (As := [.int x1, .int 28, .int x4]) (rest := []) E hG (c_X10_put l G (σ, cu, kO PC X Fa) h0 x1 (28 : Int32) x4 t0 (by omega) (by omega) (by decide) (by decide) (0) (1000) rfl (by omega) (by omega) ((PC_AV hA hcu).2.2 _ _ (by omega) (by omega) (by decide) (by decide))) t0 rfl kv_X10_put ml_X10_102 ⟨rfl, rfl, Nat.le_of_ble_eq_true rfl, Nat.le_of_ble_eq_true rfl⟩ rfl hl.1 rfl (Nat.le_of_ble_eq_true rfl) ⟨Nat.zero_le _, Nat.zero_le _⟩ dX10_lay_142) (fun H locs hG => ?_)
              refine lv_aload_n hx hb dX10_lay_145 rfl (lv_at hl 1 rfl) ?_
              refine lv_iload_n hx hb dX10_lay_146 rfl (lv_at hl 2 rfl) ?_
              refine lv_bipush (v := 29) hx hb dX10_lay_147 (by decide) ?_
              refine lv_iload hx hb dX10_lay_149 (lv_at hl 6 rfl) ?_
              refine mc_callv hG (mc_runV (As := [.int x1, .int 29, .int x5]) (rest := []) E hG (c_X10_put l G (σ, cu, kO PC X Fa) h0 x1 (29 : Int32) x5 t0 (by omega) (by omega) (by decide) (by decide) (0) (1000) rfl (by omega) (by omega) ((PC_AV hA hcu).2.2 _ _ (by omega) (by omega) (by decide) (by decide))) t0 rfl kv_X10_put ml_X10_102 ⟨rfl, rfl, Nat.le_of_ble_eq_true rfl, Nat.le_of_ble_eq_true rfl⟩ rfl hl.1 rfl (Nat.le_of_ble_eq_true rfl) ⟨Nat.zero_le _, Nat.zero_le _⟩ dX10_lay_151) (fun H locs hG => ?_)
              refine lv_aload_n hx hb dX10_lay_154 rfl (lv_at hl 1 rfl) ?_
              refine mc_getr E hG t0 mr_39 dX10_lay_155 (fun oa153 hoa153 => ?_)
              refine lv_aload_n hx hb dX10_lay_158 rfl (lv_at hl 1 rfl) ?_
              refine mc_geti E hG t0 mi_221 dX10_lay_159 (fun z154 lz154 uz154 qz154 => ?_)
              have wz154 := kq qz154 (PC_d)
              have hd7 : z154.toInt ≤ 28 := by rw [wz154]; exact hd2
              refine lv_iload_n hx hb dX10_lay_162 rfl (lv_at hl 2 rfl) ?_
              refine mc_iastX E hG hoa153 ma_10.1 ma_10.2.1 (ma_10.2.2 _) (t_in (by omega) (by omega)) (by omega) (by omega) dX10_lay_163 (fun H locs hG => ?_)
              have hG := kO_set (PC_10) hG
              obtain ⟨F155, eF155⟩ : ∃ Z : mF, Z = up2 Fa 10 (z154).toNatClampNeg x1 := ⟨_, rfl⟩
              rw [← eF155] at hG
              refine lv_aload_n hx hb dX10_lay_164 rfl (lv_at hl 1 rfl) ?_
              refine mc_getr E hG t0 mr_42 dX10_lay_165 (fun oa156 hoa156 => ?_)
              refine lv_iload_n hx hb dX10_lay_168 rfl (lv_at hl 2 rfl) ?_
              refine lv_iconst (v := 0) hx hb dX10_lay_169 (by decide) ?_
              refine mc_iastX E hG hoa156 ma_11.1 ma_11.2.1 (ma_11.2.2 _) (t_in (by omega) (by omega)) (by decide) (by decide) dX10_lay_170 (fun H locs hG => ?_)
              have hG := kO_set (PC_11) hG
              obtain ⟨F157, eF157⟩ : ∃ Z : mF, Z = up2 F155 11 (x1).toNatClampNeg (0 : Int32) := ⟨_, rfl⟩
              rw [← eF157] at hG
              refine lv_aload_n hx hb dX10_lay_171 rfl (lv_at hl 1 rfl) ?_
              refine lv_dup hx hb dX10_lay_172 rfl ?_
              refine mc_geti E hG t0 mi_221 dX10_lay_173 (fun z158 lz158 uz158 qz158 => ?_)
              have wz158 := kq qz158 (PC_d)
              have hd9 : z158.toInt ≤ 28 := by rw [wz158, eF157, up2_ne (by omega), eF155, up2_ne (by omega)]; exact hd2
              refine lv_iconst (v := 1) hx hb dX10_lay_176 (by decide) ?_
              refine lv_iadd hx hb dX10_lay_177 ?_
              refine lv_topi (fun z159 ez159 => ?_)
              have tz159 := tn_add ez159 rfl kI_1 (by omega) (by omega)
              have hd8 : z159.toInt = (F157 1 18).toInt + 1 := by rw [tz159, ← wz158]
              refine mc_putX E hG t0 mp_221 (by omega) (by omega) rfl rfl dX10_lay_178 (fun H locs hG => ?_)
              have hG := kO_set (PC_d) hG
              obtain ⟨F160, eF160⟩ : ∃ Z : mF, Z = up2 F157 1 18 z159 := ⟨_, rfl⟩
              rw [← eF160] at hG
              exact mc_vretX E hr hlk hG rfl ⟨_, rfl, LyP_of wz154 eF155 eF157 eF160 hd8⟩ dX10_lay_181
            · skip
              have ic146 := tn_eq rfl kI_0 c146
              refine lv_iload hx hb dX10_lay_74 (lv_at hl 0 rfl) ?_
              refine lv_if_eq (tgt := 90) hx hb dX10_lay_76 (by decide) (fun c161 => ?_) (fun c161 => ?_)
              · skip
                have ic161 := tn_eq kI_0 kI_0 c161
                refine lv_aload_n hx hb dX10_lay_90 rfl (lv_at hl 1 rfl) ?_
                refine lv_dup hx hb dX10_lay_91 rfl ?_
                refine mc_geti E hG t0 mi_215 dX10_lay_92 (fun z162 lz162 uz162 qz162 => ?_)
                refine lv_iconst (v := 1) hx hb dX10_lay_95 (by decide) ?_
                refine lv_iadd hx hb dX10_lay_96 ?_
                refine lv_topi (fun z163 ez163 => ?_)
                refine mc_put E hG t0 mp_215 ((PC_AV hA hcu).2.1 _ (by decide)) (t_any1 _) (t_any2 _) rfl rfl dX10_lay_97 (fun H locs hG => ?_)
                refine lv_aload_n hx hb dX10_lay_100 rfl (lv_at hl 1 rfl) ?_
                refine lv_dup hx hb dX10_lay_101 rfl ?_
                refine mc_geti E hG t0 mi_218 dX10_lay_102 (fun z164 lz164 uz164 qz164 => ?_)
                refine lv_iconst (v := 1) hx hb dX10_lay_105 (by decide) ?_
                refine lv_iload_n hx hb dX10_lay_106 rfl (lv_at hl 2 rfl) ?_
                refine lv_ishl hx hb dX10_lay_107 ?_
                refine lv_topi (fun z165 ez165 => ?_)
                refine lv_ior hx hb dX10_lay_108 ?_
                refine lv_topi (fun z166 ez166 => ?_)
                refine mc_put E hG t0 mp_218 ((PC_AV hA hcu).2.1 _ (by decide)) (t_any1 _) (t_any2 _) rfl rfl dX10_lay_109 (fun H locs hG => ?_)
                refine lv_aload_n hx hb dX10_lay_112 rfl (lv_at hl 1 rfl) ?_
                refine lv_iload_n hx hb dX10_lay_113 rfl (lv_at hl 2 rfl) ?_
                refine lv_bipush (v := 25) hx hb dX10_lay_114 (by decide) ?_
                refine lv_iconst (v := 1) hx hb dX10_lay_116 (by decide) ?_
                have k167 := kI_1
                refine mc_callv hG (mc_runV (As := [.int x1, .int 25, .int 1]) (rest := []) E hG (c_X10_put l G (σ, cu, kO PC X Fa) h0 x1 (25 : Int32) (1 : Int32) t0 (by omega) (by omega) (by decide) (by decide) (0) (1) rfl (by omega) (by omega) ((PC_AV hA hcu).2.2 _ _ (by omega) (by omega) (by decide) (by decide))) t0 rfl kv_X10_put ml_X10_102 ⟨rfl, rfl, Nat.le_of_ble_eq_true rfl, Nat.le_of_ble_eq_true rfl⟩ rfl hl.1 rfl (Nat.le_of_ble_eq_true rfl) ⟨Nat.zero_le _, Nat.zero_le _⟩ dX10_lay_117) (fun H locs hG => ?_)
                refine lv_aload_n hx hb dX10_lay_120 rfl (lv_at hl 1 rfl) ?_
                refine lv_iload_n hx hb dX10_lay_121 rfl (lv_at hl 2 rfl) ?_
                refine lv_bipush (v := 26) hx hb dX10_lay_122 (by decide) ?_
                refine lv_iload_n hx hb dX10_lay_124 rfl (lv_at hl 3 rfl) ?_
                refine mc_callv hG (mc_runV (As := [.int x1, .int 26, .int x2]) (rest := []) E hG (c_X10_put l G (σ, cu, kO PC X Fa) h0 x1 (26 : Int32) x2 t0 (by omega) (by omega) (by decide) (by decide) (0) (1000) rfl (by omega) (by omega) ((PC_AV hA hcu).2.2 _ _ (by omega) (by omega) (by decide) (by decide))) t0 rfl kv_X10_put ml_X10_102 ⟨rfl, rfl, Nat.le_of_ble_eq_true rfl, Nat.le_of_ble_eq_true rfl⟩ rfl hl.1 rfl (Nat.le_of_ble_eq_true rfl) ⟨Nat.zero_le _, Nat.zero_le _⟩ dX10_lay_125) (fun H locs hG => ?_)
                refine lv_aload_n hx hb dX10_lay_128 rfl (lv_at hl 1 rfl) ?_
                refine lv_iload_n hx hb dX10_lay_129 rfl (lv_at hl 2 rfl) ?_
                refine lv_bipush (v := 27) hx hb dX10_lay_130 (by decide) ?_
                refine lv_iload_n hx hb dX10_lay_132 rfl (lv_at hl 4 rfl) ?_
                refine mc_callv hG (mc_runV (As := [.int x1, .int 27, .int x3]) (rest := []) E hG (c_X10_put l G (σ, cu, kO PC X Fa) h0 x1 (27 : Int32) x3 t0 (by omega) (by omega) (by decide) (by decide) (0) (1000) rfl (by omega) (by omega) ((PC_AV hA hcu).2.2 _ _ (by omega) (by omega) (by decide) (by decide))) t0 rfl kv_X10_put ml_X10_102 ⟨rfl, rfl, Nat.le_of_ble_eq_true rfl, Nat.le_of_ble_eq_true rfl⟩ rfl hl.1 rfl (Nat.le_of_ble_eq_true rfl) ⟨Nat.zero_le _, Nat.zero_le _⟩ dX10_lay_133) (fun H locs hG => ?_)
                refine lv_aload_n hx hb dX10_lay_136 rfl (lv_at hl 1 rfl) ?_
                refine lv_iload_n hx hb dX10_lay_137 rfl (lv_at hl 2 rfl) ?_
                refine lv_bipush (v := 28) hx hb dX10_lay_138 (by decide) ?_
                refine lv_iload hx hb dX10_lay_140 (lv_at hl 5 rfl) ?_
                refine mc_callv hG (mc_runV (As := [.int x1, .int 28, .int x4]) (rest := []) E hG (c_X10_put l G (σ, cu, kO PC X Fa) h0 x1 (28 : Int32) x4 t0 (by omega) (by omega) (by decide) (by decide) (0) (1000) rfl (by omega) (by omega) ((PC_AV hA hcu).2.2 _ _ (by omega) (by omega) (by decide) (by decide))) t0 rfl kv_X10_put ml_X10_102 ⟨rfl, rfl, Nat.le_of_ble_eq_true rfl, Nat.le_of_ble_eq_true rfl⟩ rfl hl.1 rfl (Nat.le_of_ble_eq_true rfl) ⟨Nat.zero_le _, Nat.zero_le _⟩ dX10_lay_142) (fun H locs hG => ?_)
                refine lv_aload_n hx hb dX10_lay_145 rfl (lv_at hl 1 rfl) ?_
                refine lv_iload_n hx hb dX10_lay_146 rfl (lv_at hl 2 rfl) ?_
                refine lv_bipush (v := 29) hx hb dX10_lay_147 (by decide) ?_
                refine lv_iload hx hb dX10_lay_149 (lv_at hl 6 rfl) ?_
                refine mc_callv hG (mc_runV (As := [.int x1, .int 29, .int x5]) (rest := []) E hG (c_X10_put l G (σ, cu, kO PC X Fa) h0 x1 (29 : Int32) x5 t0 (by omega) (by omega) (by decide) (by decide) (0) (1000) rfl (by omega) (by omega) ((PC_AV hA hcu).2.2 _ _ (by omega) (by omega) (by decide) (by decide))) t0 rfl kv_X10_put ml_X10_102 ⟨rfl, rfl, Nat.le_of_ble_eq_true rfl, Nat.le_of_ble_eq_true rfl⟩ rfl hl.1 rfl (Nat.le_of_ble_eq_true rfl) ⟨Nat.zero_le _, Nat.zero_le _⟩ dX10_lay_151) (fun H locs hG => ?_)
                refine lv_aload_n hx hb dX10_lay_154 rfl (lv_at hl 1 rfl) ?_
                refine mc_getr E hG t0 mr_39 dX10_lay_155 (fun oa168 hoa168 => ?_)
                refine lv_aload_n hx hb dX10_lay_158 rfl (lv_at hl 1 rfl) ?_
                refine mc_geti E hG t0 mi_221 dX10_lay_159 (fun z169 lz169 uz169 qz169 => ?_)
                have wz169 := kq qz169 (PC_d)
                have hd7 : z169.toInt ≤ 28 := by rw [wz169]; exact hd2
                refine lv_iload_n hx hb dX10_lay_162 rfl (lv_at hl 2 rfl) ?_
                refine mc_iastX E hG hoa168 ma_10.1 ma_10.2.1 (ma_10.2.2 _) (t_in (by omega) (by omega)) (by omega) (by omega) dX10_lay_163 (fun H locs hG => ?_)
                have hG := kO_set (PC_10) hG
                obtain ⟨F170, eF170⟩ : ∃ Z : mF, Z = up2 Fa 10 (z169).toNatClampNeg x1 := ⟨_, rfl⟩
                rw [← eF170] at hG
                refine lv_aload_n hx hb dX10_lay_164 rfl (lv_at hl 1 rfl) ?_
                refine mc_getr E hG t0 mr_42 dX10_lay_165 (fun oa171 hoa171 => ?_)
                refine lv_iload_n hx hb dX10_lay_168 rfl (lv_at hl 2 rfl) ?_
                refine lv_iconst (v := 0) hx hb dX10_lay_169 (by decide) ?_
                refine mc_iastX E hG hoa171 ma_11.1 ma_11.2.1 (ma_11.2.2 _) (t_in (by omega) (by omega)) (by decide) (by decide) dX10_lay_170 (fun H locs hG => ?_)
                have hG := kO_set (PC_11) hG
                obtain ⟨F172, eF172⟩ : ∃ Z : mF, Z = up2 F170 11 (x1).toNatClampNeg (0 : Int32) := ⟨_, rfl⟩
                rw [← eF172] at hG
                refine lv_aload_n hx hb dX10_lay_171 rfl (lv_at hl 1 rfl) ?_
                refine lv_dup hx hb dX10_lay_172 rfl ?_
                refine mc_geti E hG t0 mi_221 dX10_lay_173 (fun z173 lz173 uz173 qz173 => ?_)
                have wz173 := kq qz173 (PC_d)
                have hd9 : z173.toInt ≤ 28 := by rw [wz173, eF172, up2_ne (by omega), eF170, up2_ne (by omega)]; exact hd2
                refine lv_iconst (v := 1) hx hb dX10_lay_176 (by decide) ?_
                refine lv_iadd hx hb dX10_lay_177 ?_
                refine lv_topi (fun z174 ez174 => ?_)
                have tz174 := tn_add ez174 rfl kI_1 (by omega) (by omega)
                have hd8 : z174.toInt = (F172 1 18).toInt + 1 := by rw [tz174, ← wz173]
                refine mc_putX E hG t0 mp_221 (by omega) (by omega) rfl rfl dX10_lay_178 (fun H locs hG => ?_)
                have hG := kO_set (PC_d) hG
                obtain ⟨F175, eF175⟩ : ∃ Z : mF, Z = up2 F172 1 18 z174 := ⟨_, rfl⟩
                rw [← eF175] at hG
                exact mc_vretX E hr hlk hG rfl ⟨_, rfl, LyP_of wz169 eF170 eF172 eF175 hd8⟩ dX10_lay_181
              · exfalso
                have ic161 := tn_ne kI_0 kI_0 c161
                omega
          · skip
            have ic143 := tn_eq rfl rfl c143
            refine lv_iconst (v := 1) hx hb dX10_lay_57 (by decide) ?_
            refine lv_goto (tgt := 62) hx hb dX10_lay_58 (by decide) ?_
            refine lv_istore (lv' := [(6, .int 1), (0, .ref h0), (1, .int x1), (2, .int x2), (3, .int x3), (4, .int x4), (5, .int x5)]) hx hb dX10_lay_62 hl (by decide) rfl (fun ls hl => ?_)
            refine lv_aload_n hx hb dX10_lay_64 rfl (lv_at hl 1 rfl) ?_
            refine lv_iload_n hx hb dX10_lay_65 rfl (lv_at hl 2 rfl) ?_
            refine lv_bipush (v := 19) hx hb dX10_lay_66 (by decide) ?_
            refine tc_callp (mc_runV (As := [.int x1, .int 19]) (rest := []) E hG (c_X10_get l G (σ, cu, kO PC X Fa) h0 x1 (19 : Int32) t0 (by omega) (by omega) (by decide) (by decide)) t0 rfl kv_X10_get ml_X10_91 ⟨rfl, rfl, Nat.le_of_ble_eq_true rfl, Nat.le_of_ble_eq_true rfl⟩ rfl hl.1 rfl (Nat.le_of_ble_eq_true rfl) ⟨Nat.zero_le _, Nat.zero_le _⟩ dX10_lay_68) (fun r176 pr176 => ?_)
            replace pr176 : mV (σ, cu, kO PC X Fa) (ix x1.toInt (19 : Int32).toInt) r176 := pr176
            have pr176 := mV_l pr176 kI_19
            have br176 := mV_19 pr176 (by omega)
            have k177 := kI_19
            refine lv_if_ne (tgt := 90) hx hb dX10_lay_71 (by decide) (fun c178 => ?_) (fun c178 => ?_)
            · skip
              have ic178 := tn_ne rfl kI_0 c178
              refine lv_aload_n hx hb dX10_lay_90 rfl (lv_at hl 1 rfl) ?_
              refine lv_dup hx hb dX10_lay_91 rfl ?_
              refine mc_geti E hG t0 mi_215 dX10_lay_92 (fun z179 lz179 uz179 qz179 => ?_)
              refine lv_iconst (v := 1) hx hb dX10_lay_95 (by decide) ?_
              refine lv_iadd hx hb dX10_lay_96 ?_
              refine lv_topi (fun z180 ez180 => ?_)
              refine mc_put E hG t0 mp_215 ((PC_AV hA hcu).2.1 _ (by decide)) (t_any1 _) (t_any2 _) rfl rfl dX10_lay_97 (fun H locs hG => ?_)
              refine lv_aload_n hx hb dX10_lay_100 rfl (lv_at hl 1 rfl) ?_
              refine lv_dup hx hb dX10_lay_101 rfl ?_
              refine mc_geti E hG t0 mi_218 dX10_lay_102 (fun z181 lz181 uz181 qz181 => ?_)
              refine lv_iconst (v := 1) hx hb dX10_lay_105 (by decide) ?_
              refine lv_iload_n hx hb dX10_lay_106 rfl (lv_at hl 2 rfl) ?_
              refine lv_ishl hx hb dX10_lay_107 ?_
              refine lv_topi (fun z182 ez182 => ?_)
              refine lv_ior hx hb dX10_lay_108 ?_
              refine lv_topi (fun z183 ez183 => ?_)
              refine mc_put E hG t0 mp_218 ((PC_AV hA hcu).2.1 _ (by decide)) (t_any1 _) (t_any2 _) rfl rfl dX10_lay_109 (fun H locs hG => ?_)
              refine lv_aload_n hx hb dX10_lay_112 rfl (lv_at hl 1 rfl) ?_
              refine lv_iload_n hx hb dX10_lay_113 rfl (lv_at hl 2 rfl) ?_
              refine lv_bipush (v := 25) hx hb dX10_lay_114 (by decide) ?_
              refine lv_iconst (v := 1) hx hb dX10_lay_116 (by decide) ?_
              have k184 := kI_1
              refine mc_callv hG (mc_runV (As := [.int x1, .int 25, .int 1]) (rest := []) E hG (c_X10_put l G (σ, cu, kO PC X Fa) h0 x1 (25 : Int32) (1 : Int32) t0 (by omega) (by omega) (by decide) (by decide) (0) (1) rfl (by omega) (by omega) ((PC_AV hA hcu).2.2 _ _ (by omega) (by omega) (by decide) (by decide))) t0 rfl kv_X10_put ml_X10_102 ⟨rfl, rfl, Nat.le_of_ble_eq_true rfl, Nat.le_of_ble_eq_true rfl⟩ rfl hl.1 rfl (Nat.le_of_ble_eq_true rfl) ⟨Nat.zero_le _, Nat.zero_le _⟩ dX10_lay_117) (fun H locs hG => ?_)
              refine lv_aload_n hx hb dX10_lay_120 rfl (lv_at hl 1 rfl) ?_
              refine lv_iload_n hx hb dX10_lay_121 rfl (lv_at hl 2 rfl) ?_
              refine lv_bipush (v := 26) hx hb dX10_lay_122 (by decide) ?_
              refine lv_iload_n hx hb dX10_lay_124 rfl (lv_at hl 3 rfl) ?_
              refine mc_callv hG (mc_runV (As := [.int x1, .int 26, .int x2]) (rest := []) E hG (c_X10_put l G (σ, cu, kO PC X Fa) h0 x1 (26 : Int32) x2 t0 (by omega) (by omega) (by decide) (by decide) (0) (1000) rfl (by omega) (by omega) ((PC_AV hA hcu).2.2 _ _ (by omega) (by omega) (by decide) (by decide))) t0 rfl kv_X10_put ml_X10_102 ⟨rfl, rfl, Nat.le_of_ble_eq_true rfl, Nat.le_of_ble_eq_true rfl⟩ rfl hl.1 rfl (Nat.le_of_ble_eq_true rfl) ⟨Nat.zero_le _, Nat.zero_le _⟩ dX10_lay_125) (fun H locs hG => ?_)
              refine lv_aload_n hx hb dX10_lay_128 rfl (lv_at hl 1 rfl) ?_
              refine lv_iload_n hx hb dX10_lay_129 rfl (lv_at hl 2 rfl) ?_
              refine lv_bipush (v := 27) hx hb dX10_lay_130 (by decide) ?_
              refine lv_iload_n hx hb dX10_lay_132 rfl (lv_at hl 4 rfl) ?_
              refine mc_callv hG (mc_runV (As := [.int x1, .int 27, .int x3]) (rest := []) E hG (c_X10_put l G (σ, cu, kO PC X Fa) h0 x1 (27 : Int32) x3 t0 (by omega) (by omega) (by decide) (by decide) (0) (1000) rfl (by omega) (by omega) ((PC_AV hA hcu).2.2 _ _ (by omega) (by omega) (by decide) (by decide))) t0 rfl kv_X10_put ml_X10_102 ⟨rfl, rfl, Nat.le_of_ble_eq_true rfl, Nat.le_of_ble_eq_true rfl⟩ rfl hl.1 rfl (Nat.le_of_ble_eq_true rfl) ⟨Nat.zero_le _, Nat.zero_le _⟩ dX10_lay_133) (fun H locs hG => ?_)
              refine lv_aload_n hx hb dX10_lay_136 rfl (lv_at hl 1 rfl) ?_
              refine lv_iload_n hx hb dX10_lay_137 rfl (lv_at hl 2 rfl) ?_
              refine lv_bipush (v := 28) hx hb dX10_lay_138 (by decide) ?_
              refine lv_iload hx hb dX10_lay_140 (lv_at hl 5 rfl) ?_
              refine mc_callv hG (mc_runV (As := [.int x1, .int 28, .int x4]) (rest := []) E hG (c_X10_put l G (σ, cu, kO PC X Fa) h0 x1 (28 : Int32) x4 t0 (by omega) (by omega) (by decide) (by decide) (0) (1000) rfl (by omega) (by omega) ((PC_AV hA hcu).2.2 _ _ (by omega) (by omega) (by decide) (by decide))) t0 rfl kv_X10_put ml_X10_102 ⟨rfl, rfl, Nat.le_of_ble_eq_true rfl, Nat.le_of_ble_eq_true rfl⟩ rfl hl.1 rfl (Nat.le_of_ble_eq_true rfl) ⟨Nat.zero_le _, Nat.zero_le _⟩ dX10_lay_142) (fun H locs hG => ?_)
              refine lv_aload_n hx hb dX10_lay_145 rfl (lv_at hl 1 rfl) ?_
              refine lv_iload_n hx hb dX10_lay_146 rfl (lv_at hl 2 rfl) ?_
              refine lv_bipush (v := 29) hx hb dX10_lay_147 (by decide) ?_
              refine lv_iload hx hb dX10_lay_149 (lv_at hl 6 rfl) ?_
              refine mc_callv hG (mc_runV (As := [.int x1, .int 29, .int x5]) (rest := []) E hG (c_X10_put l G (σ, cu, kO PC X Fa) h0 x1 (29 : Int32) x5 t0 (by omega) (by omega) (by decide) (by decide) (0) (1000) rfl (by omega) (by omega) ((PC_AV hA hcu).2.2 _ _ (by omega) (by omega) (by decide) (by decide))) t0 rfl kv_X10_put ml_X10_102 ⟨rfl, rfl, Nat.le_of_ble_eq_true rfl, Nat.le_of_ble_eq_true rfl⟩ rfl hl.1 rfl (Nat.le_of_ble_eq_true rfl) ⟨Nat.zero_le _, Nat.zero_le _⟩ dX10_lay_151) (fun H locs hG => ?_)
              refine lv_aload_n hx hb dX10_lay_154 rfl (lv_at hl 1 rfl) ?_
              refine mc_getr E hG t0 mr_39 dX10_lay_155 (fun oa185 hoa185 => ?_)
              refine lv_aload_n hx hb dX10_lay_158 rfl (lv_at hl 1 rfl) ?_
              refine mc_geti E hG t0 mi_221 dX10_lay_159 (fun z186 lz186 uz186 qz186 => ?_)
              have wz186 := kq qz186 (PC_d)
              have hd7 : z186.toInt ≤ 28 := by rw [wz186]; exact hd2
              refine lv_iload_n hx hb dX10_lay_162 rfl (lv_at hl 2 rfl) ?_
              refine mc_iastX E hG hoa185 ma_10.1 ma_10.2.1 (ma_10.2.2 _) (t_in (by omega) (by omega)) (by omega) (by omega) dX10_lay_163 (fun H locs hG => ?_)
              have hG := kO_set (PC_10) hG
              obtain ⟨F187, eF187⟩ : ∃ Z : mF, Z = up2 Fa 10 (z186).toNatClampNeg x1 := ⟨_, rfl⟩
              rw [← eF187] at hG
              refine lv_aload_n hx hb dX10_lay_164 rfl (lv_at hl 1 rfl) ?_
              refine mc_getr E hG t0 mr_42 dX10_lay_165 (fun oa188 hoa188 => ?_)
              refine lv_iload_n hx hb dX10_lay_168 rfl (lv_at hl 2 rfl) ?_
              refine lv_iconst (v := 0) hx hb dX10_lay_169 (by decide) ?_
              refine mc_iastX E hG hoa188 ma_11.1 ma_11.2.1 (ma_11.2.2 _) (t_in (by omega) (by omega)) (by decide) (by decide) dX10_lay_170 (fun H locs hG => ?_)
              have hG := kO_set (PC_11) hG
              obtain ⟨F189, eF189⟩ : ∃ Z : mF, Z = up2 F187 11 (x1).toNatClampNeg (0 : Int32) := ⟨_, rfl⟩
              rw [← eF189] at hG
              refine lv_aload_n hx hb dX10_lay_171 rfl (lv_at hl 1 rfl) ?_
              refine lv_dup hx hb dX10_lay_172 rfl ?_
              refine mc_geti E hG t0 mi_221 dX10_lay_173 (fun z190 lz190 uz190 qz190 => ?_)
              have wz190 := kq qz190 (PC_d)
              have hd9 : z190.toInt ≤ 28 := by rw [wz190, eF189, up2_ne (by omega), eF187, up2_ne (by omega)]; exact hd2
              refine lv_iconst (v := 1) hx hb dX10_lay_176 (by decide) ?_
              refine lv_iadd hx hb dX10_lay_177 ?_
              refine lv_topi (fun z191 ez191 => ?_)
              have tz191 := tn_add ez191 rfl kI_1 (by omega) (by omega)
              have hd8 : z191.toInt = (F189 1 18).toInt + 1 := by rw [tz191, ← wz190]
              refine mc_putX E hG t0 mp_221 (by omega) (by omega) rfl rfl dX10_lay_178 (fun H locs hG => ?_)
              have hG := kO_set (PC_d) hG
              obtain ⟨F192, eF192⟩ : ∃ Z : mF, Z = up2 F189 1 18 z191 := ⟨_, rfl⟩
              rw [← eF192] at hG
              exact mc_vretX E hr hlk hG rfl ⟨_, rfl, LyP_of wz186 eF187 eF189 eF192 hd8⟩ dX10_lay_181
            · skip
              have ic178 := tn_eq rfl kI_0 c178
              refine lv_iload hx hb dX10_lay_74 (lv_at hl 0 rfl) ?_
              refine lv_if_eq (tgt := 90) hx hb dX10_lay_76 (by decide) (fun c193 => ?_) (fun c193 => ?_)
              · exfalso
                have ic193 := tn_eq kI_1 kI_0 c193
                omega
              · skip
                have ic193 := tn_ne kI_1 kI_0 c193
                refine lv_aload_n hx hb dX10_lay_79 rfl (lv_at hl 1 rfl) ?_
                refine lv_dup hx hb dX10_lay_80 rfl ?_
                refine mc_geti E hG t0 mi_212 dX10_lay_81 (fun z194 lz194 uz194 qz194 => ?_)
                refine lv_iconst (v := 1) hx hb dX10_lay_84 (by decide) ?_
                refine lv_iadd hx hb dX10_lay_85 ?_
                refine lv_topi (fun z195 ez195 => ?_)
                refine mc_put E hG t0 mp_212 ((PC_AV hA hcu).2.1 _ (by decide)) (t_any1 _) (t_any2 _) rfl rfl dX10_lay_86 (fun H locs hG => ?_)
                exact mc_vretX E hr hlk hG rfl ⟨_, rfl, Or.inl rfl⟩ dX10_lay_89

