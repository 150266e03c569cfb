/-! ===== the reference: printing ===== -/
set_option maxHeartbeats 4000000 in
set_option maxRecDepth 100000 in
theorem c_X10_prints (l : Launch) (G : tG) (σ : Nat → Nat) (cu : Nat) (X : mX) (Fa : mF) (h0 : Nat) (x1 : Int32) (t0 : σ h0 = 1) (hP : ∀ k, X 19 k = none) (hr0 : (Fa 1 34).toInt ≤ 699) : Met l yX10_prints (.code yX10_prints cX10_prints 2 none :: tWS) (tRm 0 0) (va_Pc [.ref h0, .int x1] (mPre G (σ, cu, kO PP X Fa))) (mQvX G (σ, cu, kO PP X Fa) (fun Z => ∃ F : mF, Z = (σ, cu, kO PP X F) ∧ PQ Fa F 1)) 0 0 (mA (σ, cu, kO PP X Fa)) := by
  refine mc_met (by decide) (Nat.le_of_ble_eq_true rfl) ?_
  intro p e s m below meth c E hr hlk hG ls hl
  have hl : lv_has ls 2 [(0, .ref h0), (1, .int x1)] := hl
  have hx := E.1
  have hb := E.2.1
  obtain ⟨H, eH⟩ : ∃ H, H = s.heap := ⟨_, rfl⟩
  obtain ⟨locs, eL⟩ : ∃ x : List Loc, x = [] := ⟨_, rfl⟩
  have hG : mGH G (σ, cu, kO PP X Fa) s H locs := by rw [eH, eL]; exact hG
  suffices hW : W p l e (tRm 0 0) s m ([.ref h0, .int x1] : List Value).toArray below meth c H locs 0 0 (MQ below (mQvX G (σ, cu, kO PP X Fa) (fun Z => ∃ F : mF, Z = (σ, cu, kO PP X F) ∧ PQ Fa F 1)) ([.ref h0, .int x1] : List Value).toArray s 0 0 (mA (σ, cu, kO PP X Fa))) (F0 m 0 ls []) by subst eH; subst eL; exact hW
  clear eH eL
  have hcu : mCu cu := hG.2.2.1
  refine lv_aload_n hx hb dX10_prints_0 rfl (lv_at hl 0 rfl) ?_
  refine mc_getr E hG t0 mr_66 dX10_prints_1 (fun oa1 hoa1 => ?_)
  refine lv_aload_n hx hb dX10_prints_4 rfl (lv_at hl 0 rfl) ?_
  refine mc_geti E hG t0 mi_389 dX10_prints_5 (fun z2 lz2 uz2 qz2 => ?_)
  have wz2 := kq qz2 (PP_p)
  have hz9 : z2.toInt ≤ 699 := by rw [wz2]; exact hr0
  refine lv_iload_n hx hb dX10_prints_8 rfl (lv_at hl 1 rfl) ?_
  refine mc_iast E hG hoa1 ma_19 (kn PP_19 (hP _)) (t_in (by omega) (by omega)) (t_any1 _) (t_any2 _) dX10_prints_9 (fun H locs hG => ?_)
  refine lv_aload_n hx hb dX10_prints_10 rfl (lv_at hl 0 rfl) ?_
  refine lv_dup hx hb dX10_prints_11 rfl ?_
  refine mc_geti E hG t0 mi_389 dX10_prints_12 (fun z3 lz3 uz3 qz3 => ?_)
  have wz3 := kq qz3 (PP_p)
  have hz8 : z3.toInt ≤ 699 := by rw [wz3]; exact hr0
  refine lv_iconst (v := 1) hx hb dX10_prints_15 (by decide) ?_
  refine lv_iadd hx hb dX10_prints_16 ?_
  refine lv_topi (fun z4 ez4 => ?_)
  have tz4 := tn_add ez4 rfl kI_1 (by omega) (by omega)
  have hz7 : z4.toInt = (Fa 1 34).toInt + 1 := by rw [tz4, ← wz3]
  refine mc_putX E hG t0 mp_389 (by omega) (by omega) rfl rfl dX10_prints_17 (fun H locs hG => ?_)
  have hG := kO_set (PP_p) hG
  obtain ⟨F5, eF5⟩ : ∃ Z : mF, Z = up2 Fa 1 34 z4 := ⟨_, rfl⟩
  rw [← eF5] at hG
  exact mc_vretX E hr hlk hG rfl ⟨_, rfl, PQ_1 eF5 hz7 (by omega)⟩ dX10_prints_20

set_option maxHeartbeats 4000000 in
set_option maxRecDepth 100000 in
theorem c_X10_printsBox (l : Launch) (G : tG) (σ : Nat → Nat) (cu : Nat) (X : mX) (Fa : mF) (h0 : Nat) (x1 : Int32) (t0 : σ h0 = 1) (l1 : 0 ≤ x1.toInt) (u1 : x1.toInt ≤ 23) (hP : ∀ k, X 19 k = none) (hp0 : 0 ≤ (Fa 1 34).toInt) (hr0 : (Fa 1 34).toInt ≤ 670) : Met l yX10_printsBox (.code yX10_printsBox cX10_printsBox 5 none :: tWS) (tRm 1 22) (va_Pc [.ref h0, .int x1] (mPre G (σ, cu, kO PP X Fa))) (mQvX G (σ, cu, kO PP X Fa) (fun Z => ∃ F : mF, Z = (σ, cu, kO PP X F) ∧ PQ Fa F 20)) 0 0 (mA (σ, cu, kO PP X Fa)) := by
  refine mc_met (by decide) (Nat.le_of_ble_eq_true rfl) ?_
  intro p e s m below meth c E hr hlk hG ls hl
  have hl : lv_has ls 5 [(0, .ref h0), (1, .int x1)] := hl
  have hx := E.1
  have hb := E.2.1
  obtain ⟨H, eH⟩ : ∃ H, H = s.heap := ⟨_, rfl⟩
  obtain ⟨locs, eL⟩ : ∃ x : List Loc, x = [] := ⟨_, rfl⟩
  have hG : mGH G (σ, cu, kO PP X Fa) s H locs := by rw [eH, eL]; exact hG
  suffices hW : W p l e (tRm 1 22) s m ([.ref h0, .int x1] : List Value).toArray below meth c H locs 0 0 (MQ below (mQvX G (σ, cu, kO PP X Fa) (fun Z => ∃ F : mF, Z = (σ, cu, kO PP X F) ∧ PQ Fa F 20)) ([.ref h0, .int x1] : List Value).toArray s 0 0 (mA (σ, cu, kO PP X Fa))) (F0 m 0 ls []) by subst eH; subst eL; exact hW
  clear eH eL
  have hcu : mCu cu := hG.2.2.1
  have J42 : ∀ (n42 : Nat) (F : mF) (H : Heap) (locs : List Loc) (ls : Array Slot) (v2 : Int32) (v3 : Int32), mGH G (σ, cu, kO PP X F) s H locs → lv_has ls 5 [(0, .ref h0), (1, .int x1), (2, .int v2), (3, .int v3)] → 0 ≤ v2.toInt → v2.toInt ≤ 9 → 0 ≤ v3.toInt → v3.toInt ≤ 4 → PQ Fa F (6 + 3 * v3.toInt) → (4 - v3.toInt).toNat < n42 → W p l e (tRm 1 22) s m ([.ref h0, .int x1] : List Value).toArray below meth c H locs 0 0 (MQ below (mQvX G (σ, cu, kO PP X Fa) (fun Z => ∃ F : mF, Z = (σ, cu, kO PP X F) ∧ PQ Fa F 20)) ([.ref h0, .int x1] : List Value).toArray s 0 0 (mA (σ, cu, kO PP X Fa))) (F0 m 42 ls []) := by
    intro n42
    induction n42 with
    | zero => intro F H locs ls v2 v3 hG hl b2 c2 b3 c3 hex42 hn42; exact absurd hn42 (Nat.not_lt_zero _)
    | succ n42 ih42 =>
      intro F H locs ls v2 v3 hG hl b2 c2 b3 c3 hex42 hn42
      have hb9 := hex42.1
      refine lv_iload_n hx hb dX10_printsBox_42 rfl (lv_at hl 3 rfl) ?_
      refine lv_iload_n hx hb dX10_printsBox_43 rfl (lv_at hl 2 rfl) ?_
      refine tc_callp (mc_runS (As := [.int v2]) (rest := [.int v3]) E hG (c_X10_numbersOf l G (σ, cu, kO PP X F) v2) ks_X10_numbersOf ml_X10_110 ⟨rfl, rfl, Nat.le_of_ble_eq_true rfl, Nat.le_of_ble_eq_true rfl⟩ rfl hl.1 rfl (Nat.le_of_ble_eq_true rfl) ⟨Nat.zero_le _, Nat.zero_le _⟩ dX10_printsBox_44) (fun r1 pr1 => ?_)
      replace pr1 : (v2.toInt = 3 ∧ r1.toInt = 4) ∨ ((v2.toInt = 4 ∨ v2.toInt = 5) ∧ r1.toInt = 0) ∨ (v2.toInt = 7 ∧ r1.toInt = 1) ∨ (¬ v2.toInt = 3 ∧ ¬ v2.toInt = 4 ∧ ¬ v2.toInt = 5 ∧ ¬ v2.toInt = 7 ∧ r1.toInt = 2) := pr1
      refine lv_icmp_ge (tgt := 103) hx hb dX10_printsBox_47 (by decide) (fun c2 => ?_) (fun c2 => ?_)
      · skip
        have ic2 := tn_le rfl rfl c2
        refine lv_aload_n hx hb dX10_printsBox_103 rfl (lv_at hl 0 rfl) ?_
        refine lv_iload_n hx hb dX10_printsBox_104 rfl (lv_at hl 1 rfl) ?_
        refine lv_bipush (v := 6) hx hb dX10_printsBox_105 (by decide) ?_
        refine tc_callp (mc_runV (As := [.int x1, .int 6]) (rest := []) E hG (c_X10_get l G (σ, cu, kO PP X F) h0 x1 (6 : Int32) t0 (by omega) (by omega) (by decide) (by decide)) t0 rfl kv_X10_get ml_X10_91 ⟨rfl, rfl, Nat.le_of_ble_eq_true rfl, Nat.le_of_ble_eq_true rfl⟩ rfl hl.1 rfl (Nat.le_of_ble_eq_true rfl) ⟨Nat.zero_le _, Nat.zero_le _⟩ dX10_printsBox_107) (fun r3 pr3 => ?_)
        replace pr3 : mV (σ, cu, kO PP X F) (ix x1.toInt (6 : Int32).toInt) r3 := pr3
        have pr3 := mV_l pr3 kI_6
        have br3 := mV_6 pr3 (by omega)
        have k4 := kI_6
        refine lv_if_le (tgt := 133) hx hb dX10_printsBox_110 (by decide) (fun c5 => ?_) (fun c5 => ?_)
        · skip
          have ic5 := tn_le rfl kI_0 c5
          exact mc_vretX E hr hlk hG rfl ⟨_, rfl, (hex42.le (by omega))⟩ dX10_printsBox_133
        · skip
          have ic5 := tn_nle rfl kI_0 c5
          refine lv_aload_n hx hb dX10_printsBox_113 rfl (lv_at hl 0 rfl) ?_
          refine lv_bipush (v := 42) hx hb dX10_printsBox_114 (by decide) ?_
          refine mc_callvX hG (mc_runV (As := [.int 42]) (rest := []) E hG (c_X10_prints l G σ cu X F h0 (42 : Int32) t0 hP (by omega)) t0 rfl kv_X10_prints ml_X10_392 ⟨rfl, rfl, Nat.le_of_ble_eq_true rfl, Nat.le_of_ble_eq_true rfl⟩ rfl hl.1 rfl (Nat.le_of_ble_eq_true rfl) ⟨Nat.zero_le _, Nat.zero_le _⟩ dX10_printsBox_116) (fun Z H locs eZ pZ hG => ?_)
          obtain ⟨F7, rfl, pF7⟩ := pZ
          clear eZ
          have hbF7 := pF7.1
          have hcF7 := pF7.2.1
          refine lv_aload_n hx hb dX10_printsBox_119 rfl (lv_at hl 0 rfl) ?_
          refine lv_bipush (v := 48) hx hb dX10_printsBox_120 (by decide) ?_
          refine lv_aload_n hx hb dX10_printsBox_122 rfl (lv_at hl 0 rfl) ?_
          refine lv_iload_n hx hb dX10_printsBox_123 rfl (lv_at hl 1 rfl) ?_
          refine lv_bipush (v := 6) hx hb dX10_printsBox_124 (by decide) ?_
          refine tc_callp (mc_runV (As := [.int x1, .int 6]) (rest := [.int 48, .ref h0]) E hG (c_X10_get l G (σ, cu, kO PP X F7) h0 x1 (6 : Int32) t0 (by omega) (by omega) (by decide) (by decide)) t0 rfl kv_X10_get ml_X10_91 ⟨rfl, rfl, Nat.le_of_ble_eq_true rfl, Nat.le_of_ble_eq_true rfl⟩ rfl hl.1 rfl (Nat.le_of_ble_eq_true rfl) ⟨Nat.zero_le _, Nat.zero_le _⟩ dX10_printsBox_126) (fun r8 pr8 => ?_)
          replace pr8 : mV (σ, cu, kO PP X F7) (ix x1.toInt (6 : Int32).toInt) r8 := pr8
          have pr8 := mV_l pr8 kI_6
          have br8 := mV_6 pr8 (by omega)
          have k9 := kI_6
          refine lv_iadd hx hb dX10_printsBox_129 ?_
          refine lv_topi (fun z10 ez10 => ?_)
          have tz10 := tn_add ez10 kI_48 rfl (by omega) (by omega)
          refine mc_callvX hG (mc_runV (As := [.int z10]) (rest := []) E hG (c_X10_prints l G σ cu X F7 h0 z10 t0 hP (by omega)) t0 rfl kv_X10_prints ml_X10_392 ⟨rfl, rfl, Nat.le_of_ble_eq_true rfl, Nat.le_of_ble_eq_true rfl⟩ rfl hl.1 rfl (Nat.le_of_ble_eq_true rfl) ⟨Nat.zero_le _, Nat.zero_le _⟩ dX10_printsBox_130) (fun Z H locs eZ pZ hG => ?_)
          obtain ⟨F12, rfl, pF12⟩ := pZ
          clear eZ
          have hbF12 := pF12.1
          have hcF12 := pF12.2.1
          exact mc_vretX E hr hlk hG rfl ⟨_, rfl, ((hex42.trans pF7 (Int.le_refl _)).trans pF12 (by omega))⟩ dX10_printsBox_133
      · skip
        have ic2 := tn_nle rfl rfl c2
        refine lv_aload_n hx hb dX10_printsBox_50 rfl (lv_at hl 0 rfl) ?_
        refine lv_iload_n hx hb dX10_printsBox_51 rfl (lv_at hl 1 rfl) ?_
        refine lv_iconst (v := 2) hx hb dX10_printsBox_52 (by decide) ?_
        refine lv_iload_n hx hb dX10_printsBox_53 rfl (lv_at hl 3 rfl) ?_
        refine lv_iadd hx hb dX10_printsBox_54 ?_
        refine lv_topi (fun z13 ez13 => ?_)
        have tz13 := tn_add ez13 kI_2 rfl (by omega) (by omega)
        refine tc_callp (mc_runV (As := [.int x1, .int z13]) (rest := []) E hG (c_X10_get l G (σ, cu, kO PP X F) h0 x1 z13 t0 (by omega) (by omega) (by omega) (by omega)) t0 rfl kv_X10_get ml_X10_91 ⟨rfl, rfl, Nat.le_of_ble_eq_true rfl, Nat.le_of_ble_eq_true rfl⟩ rfl hl.1 rfl (Nat.le_of_ble_eq_true rfl) ⟨Nat.zero_le _, Nat.zero_le _⟩ dX10_printsBox_55) (fun r14 pr14 => ?_)
        replace pr14 : mV (σ, cu, kO PP X F) (ix x1.toInt z13.toInt) r14 := pr14
        have br14 := mV_r 2 5 (0) (99) pr14 (by omega) (by omega) (by omega) (by decide) (by decide)
        refine lv_istore (lv' := [(4, .int r14), (0, .ref h0), (1, .int x1), (2, .int v2), (3, .int v3)]) hx hb dX10_printsBox_58 hl (by decide) rfl (fun ls hl => ?_)
        refine lv_aload_n hx hb dX10_printsBox_60 rfl (lv_at hl 1 rfl) ?_
        refine lv_bipush (v := 32) hx hb dX10_printsBox_61 (by decide) ?_
        refine mc_callvX hG (mc_runV (As := [.int 32]) (rest := []) E hG (c_X10_prints l G σ cu X F h0 (32 : Int32) t0 hP (by omega)) t0 rfl kv_X10_prints ml_X10_392 ⟨rfl, rfl, Nat.le_of_ble_eq_true rfl, Nat.le_of_ble_eq_true rfl⟩ rfl hl.1 rfl (Nat.le_of_ble_eq_true rfl) ⟨Nat.zero_le _, Nat.zero_le _⟩ dX10_printsBox_63) (fun Z H locs eZ pZ hG => ?_)
        obtain ⟨F16, rfl, pF16⟩ := pZ
        clear eZ
        have hbF16 := pF16.1
        have hcF16 := pF16.2.1
        refine lv_iload hx hb dX10_printsBox_66 (lv_at hl 0 rfl) ?_
        refine lv_bipush (v := 9) hx hb dX10_printsBox_68 (by decide) ?_
        refine lv_icmp_le (tgt := 85) hx hb dX10_printsBox_70 (by decide) (fun c17 => ?_) (fun c17 => ?_)
        · skip
          have ic17 := tn_le rfl kI_9 c17
          refine lv_aload_n hx hb dX10_printsBox_85 rfl (lv_at hl 1 rfl) ?_
          refine lv_bipush (v := 48) hx hb dX10_printsBox_86 (by decide) ?_
          refine lv_iload hx hb dX10_printsBox_88 (lv_at hl 0 rfl) ?_
          refine lv_bipush (v := 10) hx hb dX10_printsBox_90 (by decide) ?_
          refine lv_irem hx hb dX10_printsBox_92 (by decide) ?_
          refine lv_topi (fun z18 ez18 => ?_)
          have tz18 := tn_rem ez18 kI_10 (by omega) (by decide)
          refine lv_iadd hx hb dX10_printsBox_93 ?_
          refine lv_topi (fun z19 ez19 => ?_)
          have tz19 := tn_add ez19 kI_48 rfl (by omega) (by omega)
          refine mc_callvX hG (mc_runV (As := [.int z19]) (rest := []) E hG (c_X10_prints l G σ cu X F16 h0 z19 t0 hP (by omega)) t0 rfl kv_X10_prints ml_X10_392 ⟨rfl, rfl, Nat.le_of_ble_eq_true rfl, Nat.le_of_ble_eq_true rfl⟩ rfl hl.1 rfl (Nat.le_of_ble_eq_true rfl) ⟨Nat.zero_le _, Nat.zero_le _⟩ dX10_printsBox_94) (fun Z H locs eZ pZ hG => ?_)
          obtain ⟨F21, rfl, pF21⟩ := pZ
          clear eZ
          have hbF21 := pF21.1
          have hcF21 := pF21.2.1
          obtain ⟨z22, ez22⟩ : ∃ y : Int32, y = v3 + (1) := ⟨_, rfl⟩
          refine lv_iinc (v := z22) (lv' := [(3, .int z22), (4, .int r14), (0, .ref h0), (1, .int x1), (2, .int v2)]) hx hb dX10_printsBox_97 hl (k := 4) rfl (by rw [ez22]; rfl) (by decide) rfl (fun ls hl => ?_)
          have tz22 := tn_add ez22 rfl kI_1 (by omega) (by omega)
          refine lv_goto (tgt := 42) hx hb dX10_printsBox_100 (by decide) ?_
          have hQ : PQ Fa F21 (6 + 3 * z22.toInt) := ((hex42.trans pF16 (Int.le_refl _)).trans pF21 (by omega))
          exact ih42 F21 H locs ls v2 z22 hG (lv_sub hl [2, 3, 4, 0] rfl) (by omega) (by omega) (by omega) (by omega) (by exact hQ) (by omega)
        · skip
          have ic17 := tn_nle rfl kI_9 c17
          refine lv_aload_n hx hb dX10_printsBox_73 rfl (lv_at hl 1 rfl) ?_
          refine lv_bipush (v := 48) hx hb dX10_printsBox_74 (by decide) ?_
          refine lv_iload hx hb dX10_printsBox_76 (lv_at hl 0 rfl) ?_
          refine lv_bipush (v := 10) hx hb dX10_printsBox_78 (by decide) ?_
          refine lv_idiv hx hb dX10_printsBox_80 (by decide) ?_
          refine lv_topi (fun z23 ez23 => ?_)
          have tz23 := tn_div ez23 kI_10 (by omega) (by decide)
          refine lv_iadd hx hb dX10_printsBox_81 ?_
          refine lv_topi (fun z24 ez24 => ?_)
          have tz24 := tn_add ez24 kI_48 rfl (by omega) (by omega)
          refine mc_callvX hG (mc_runV (As := [.int z24]) (rest := []) E hG (c_X10_prints l G σ cu X F16 h0 z24 t0 hP (by omega)) t0 rfl kv_X10_prints ml_X10_392 ⟨rfl, rfl, Nat.le_of_ble_eq_true rfl, Nat.le_of_ble_eq_true rfl⟩ rfl hl.1 rfl (Nat.le_of_ble_eq_true rfl) ⟨Nat.zero_le _, Nat.zero_le _⟩ dX10_printsBox_82) (fun Z H locs eZ pZ hG => ?_)
          obtain ⟨F26, rfl, pF26⟩ := pZ
          clear eZ
          have hbF26 := pF26.1
          have hcF26 := pF26.2.1
          refine lv_aload_n hx hb dX10_printsBox_85 rfl (lv_at hl 1 rfl) ?_
          refine lv_bipush (v := 48) hx hb dX10_printsBox_86 (by decide) ?_
          refine lv_iload hx hb dX10_printsBox_88 (lv_at hl 0 rfl) ?_
          refine lv_bipush (v := 10) hx hb dX10_printsBox_90 (by decide) ?_
          refine lv_irem hx hb dX10_printsBox_92 (by decide) ?_
          refine lv_topi (fun z27 ez27 => ?_)
          have tz27 := tn_rem ez27 kI_10 (by omega) (by decide)
          refine lv_iadd hx hb dX10_printsBox_93 ?_
          refine lv_topi (fun z28 ez28 => ?_)
          have tz28 := tn_add ez28 kI_48 rfl (by omega) (by omega)
          refine mc_callvX hG (mc_runV (As := [.int z28]) (rest := []) E hG (c_X10_prints l G σ cu X F26 h0 z28 t0 hP (by omega)) t0 rfl kv_X10_prints ml_X10_392 ⟨rfl, rfl, Nat.le_of_ble_eq_true rfl, Nat.le_of_ble_eq_true rfl⟩ rfl hl.1 rfl (Nat.le_of_ble_eq_true rfl) ⟨Nat.zero_le _, Nat.zero_le _⟩ dX10_printsBox_94) (fun Z H locs eZ pZ hG => ?_)
          obtain ⟨F30, rfl, pF30⟩ := pZ
          clear eZ
          have hbF30 := pF30.1
          have hcF30 := pF30.2.1
          obtain ⟨z31, ez31⟩ : ∃ y : Int32, y = v3 + (1) := ⟨_, rfl⟩
          refine lv_iinc (v := z31) (lv' := [(3, .int z31), (4, .int r14), (0, .ref h0), (1, .int x1), (2, .int v2)]) hx hb dX10_printsBox_97 hl (k := 4) rfl (by rw [ez31]; rfl) (by decide) rfl (fun ls hl => ?_)
          have tz31 := tn_add ez31 rfl kI_1 (by omega) (by omega)
          refine lv_goto (tgt := 42) hx hb dX10_printsBox_100 (by decide) ?_
          have hQ : PQ Fa F30 (6 + 3 * z31.toInt) := (((hex42.trans pF16 (Int.le_refl _)).trans pF26 (Int.le_refl _)).trans pF30 (by omega))
          exact ih42 F30 H locs ls v2 z31 hG (lv_sub hl [2, 3, 4, 0] rfl) (by omega) (by omega) (by omega) (by omega) (by exact hQ) (by omega)
  have J9 : ∀ (n9 : Nat) (F : mF) (H : Heap) (locs : List Loc) (ls : Array Slot) (v2 : Int32) (v3 : Int32), mGH G (σ, cu, kO PP X F) s H locs → lv_has ls 5 [(0, .ref h0), (1, .int x1), (2, .int v2), (3, .int v3)] → 0 ≤ v2.toInt → v2.toInt ≤ 9 → 0 ≤ v3.toInt → v3.toInt ≤ 6 → PQ Fa F v3.toInt → (6 - v3.toInt).toNat < n9 → W p l e (tRm 1 22) s m ([.ref h0, .int x1] : List Value).toArray below meth c H locs 0 0 (MQ below (mQvX G (σ, cu, kO PP X Fa) (fun Z => ∃ F : mF, Z = (σ, cu, kO PP X F) ∧ PQ Fa F 20)) ([.ref h0, .int x1] : List Value).toArray s 0 0 (mA (σ, cu, kO PP X Fa))) (F0 m 9 ls []) := by
    intro n9
    induction n9 with
    | zero => intro F H locs ls v2 v3 hG hl b2 c2 b3 c3 hex9 hn9; exact absurd hn9 (Nat.not_lt_zero _)
    | succ n9 ih9 =>
      intro F H locs ls v2 v3 hG hl b2 c2 b3 c3 hex9 hn9
      have hb9 := hex9.1
      refine lv_iload_n hx hb dX10_printsBox_9 rfl (lv_at hl 3 rfl) ?_
      refine lv_bipush (v := 6) hx hb dX10_printsBox_10 (by decide) ?_
      refine lv_icmp_ge (tgt := 40) hx hb dX10_printsBox_12 (by decide) (fun c32 => ?_) (fun c32 => ?_)
      · skip
        have ic32 := tn_le kI_6 rfl c32
        refine lv_iconst (v := 0) hx hb dX10_printsBox_40 (by decide) ?_
        refine lv_istore_n (lv' := [(3, .int 0), (0, .ref h0), (1, .int x1), (2, .int v2)]) hx hb dX10_printsBox_41 rfl hl (by decide) rfl (fun ls hl => ?_)
        have hQ : PQ Fa F (6 + 3 * (0 : Int32).toInt) := hex9.le (by have k0 := kI_0; omega)
        exact J42 ((4 - (0 : Int32).toInt).toNat + 1) F H locs ls v2 (0 : Int32) hG (lv_sub hl [1, 2, 3, 0] rfl) (by omega) (by omega) (by decide) (by decide) (by exact hQ) (Nat.lt_succ_self _)
      · skip
        have ic32 := tn_nle kI_6 rfl c32
        refine lv_aload_n hx hb dX10_printsBox_15 rfl (lv_at hl 0 rfl) ?_
        refine lv_iload_n hx hb dX10_printsBox_16 rfl (lv_at hl 2 rfl) ?_
        refine lv_iload_n hx hb dX10_printsBox_17 rfl (lv_at hl 3 rfl) ?_
        refine tc_callp (mc_runV (As := [.int v2, .int v3]) (rest := []) E hG (c_X10_nameLetter l G (σ, cu, kO PP X F) h0 v2 v3 t0 (by omega) (by omega) (by omega) (by omega)) t0 rfl kv_X10_nameLetter ml_X10_353 ⟨rfl, rfl, Nat.le_of_ble_eq_true rfl, Nat.le_of_ble_eq_true rfl⟩ rfl hl.1 rfl (Nat.le_of_ble_eq_true rfl) ⟨Nat.zero_le _, Nat.zero_le _⟩ dX10_printsBox_18) (fun r33 pr33 => ?_)
        replace pr33 : 0 ≤ r33.toInt ∧ r33.toInt ≤ 127 := pr33
        refine lv_if_eq (tgt := 40) hx hb dX10_printsBox_21 (by decide) (fun c34 => ?_) (fun c34 => ?_)
        · skip
          have ic34 := tn_eq rfl kI_0 c34
          refine lv_iconst (v := 0) hx hb dX10_printsBox_40 (by decide) ?_
          refine lv_istore_n (lv' := [(3, .int 0), (0, .ref h0), (1, .int x1), (2, .int v2)]) hx hb dX10_printsBox_41 rfl hl (by decide) rfl (fun ls hl => ?_)
          have hQ : PQ Fa F (6 + 3 * (0 : Int32).toInt) := hex9.le (by have k0 := kI_0; omega)
          exact J42 ((4 - (0 : Int32).toInt).toNat + 1) F H locs ls v2 (0 : Int32) hG (lv_sub hl [1, 2, 3, 0] rfl) (by omega) (by omega) (by decide) (by decide) (by exact hQ) (Nat.lt_succ_self _)
        · skip
          have ic34 := tn_ne rfl kI_0 c34
          refine lv_aload_n hx hb dX10_printsBox_24 rfl (lv_at hl 0 rfl) ?_
          refine lv_aload_n hx hb dX10_printsBox_25 rfl (lv_at hl 0 rfl) ?_
          refine lv_iload_n hx hb dX10_printsBox_26 rfl (lv_at hl 2 rfl) ?_
          refine lv_iload_n hx hb dX10_printsBox_27 rfl (lv_at hl 3 rfl) ?_
          refine tc_callp (mc_runV (As := [.int v2, .int v3]) (rest := [.ref h0]) E hG (c_X10_nameLetter l G (σ, cu, kO PP X F) h0 v2 v3 t0 (by omega) (by omega) (by omega) (by omega)) t0 rfl kv_X10_nameLetter ml_X10_353 ⟨rfl, rfl, Nat.le_of_ble_eq_true rfl, Nat.le_of_ble_eq_true rfl⟩ rfl hl.1 rfl (Nat.le_of_ble_eq_true rfl) ⟨Nat.zero_le _, Nat.zero_le _⟩ dX10_printsBox_28) (fun r35 pr35 => ?_)
          replace pr35 : 0 ≤ r35.toInt ∧ r35.toInt ≤ 127 := pr35
          refine mc_callvX hG (mc_runV (As := [.int r35]) (rest := []) E hG (c_X10_prints l G σ cu X F h0 r35 t0 hP (by omega)) t0 rfl kv_X10_prints ml_X10_392 ⟨rfl, rfl, Nat.le_of_ble_eq_true rfl, Nat.le_of_ble_eq_true rfl⟩ rfl hl.1 rfl (Nat.le_of_ble_eq_true rfl) ⟨Nat.zero_le _, Nat.zero_le _⟩ dX10_printsBox_31) (fun Z H locs eZ pZ hG => ?_)
          obtain ⟨F37, rfl, pF37⟩ := pZ
          clear eZ
          have hbF37 := pF37.1
          have hcF37 := pF37.2.1
          obtain ⟨z38, ez38⟩ : ∃ y : Int32, y = v3 + (1) := ⟨_, rfl⟩
          refine lv_iinc (v := z38) (lv' := [(3, .int z38), (0, .ref h0), (1, .int x1), (2, .int v2)]) hx hb dX10_printsBox_34 hl (k := 3) rfl (by rw [ez38]; rfl) (by decide) rfl (fun ls hl => ?_)
          have tz38 := tn_add ez38 rfl kI_1 (by omega) (by omega)
          refine lv_goto (tgt := 9) hx hb dX10_printsBox_37 (by decide) ?_
          have hQ : PQ Fa F37 z38.toInt := (hex9.trans pF37 (by omega))
          exact ih9 F37 H locs ls v2 z38 hG (lv_sub hl [1, 2, 3, 0] rfl) (by omega) (by omega) (by omega) (by omega) (by exact hQ) (by omega)
  refine lv_aload_n hx hb dX10_printsBox_0 rfl (lv_at hl 0 rfl) ?_
  refine lv_iload_n hx hb dX10_printsBox_1 rfl (lv_at hl 1 rfl) ?_
  refine lv_iconst (v := 1) hx hb dX10_printsBox_2 (by decide) ?_
  refine tc_callp (mc_runV (As := [.int x1, .int 1]) (rest := []) E hG (c_X10_get l G (σ, cu, kO PP X Fa) h0 x1 (1 : Int32) t0 (by omega) (by omega) (by decide) (by decide)) t0 rfl kv_X10_get ml_X10_91 ⟨rfl, rfl, Nat.le_of_ble_eq_true rfl, Nat.le_of_ble_eq_true rfl⟩ rfl hl.1 rfl (Nat.le_of_ble_eq_true rfl) ⟨Nat.zero_le _, Nat.zero_le _⟩ dX10_printsBox_3) (fun r39 pr39 => ?_)
  replace pr39 : mV (σ, cu, kO PP X Fa) (ix x1.toInt (1 : Int32).toInt) r39 := pr39
  have pr39 := mV_l pr39 kI_1
  have br39 := mV_1 pr39 (by omega)
  have k40 := kI_1
  refine lv_istore_n (lv' := [(2, .int r39), (0, .ref h0), (1, .int x1)]) hx hb dX10_printsBox_6 rfl hl (by decide) rfl (fun ls hl => ?_)
  refine lv_iconst (v := 0) hx hb dX10_printsBox_7 (by decide) ?_
  refine lv_istore_n (lv' := [(3, .int 0), (2, .int r39), (0, .ref h0), (1, .int x1)]) hx hb dX10_printsBox_8 rfl hl (by decide) rfl (fun ls hl => ?_)
  have hQ : PQ Fa Fa (0 : Int32).toInt := PQ.refl (by decide) hp0
  exact J9 ((6 - (0 : Int32).toInt).toNat + 1) Fa H locs ls r39 (0 : Int32) hG (lv_sub hl [2, 3, 1, 0] rfl) (by omega) (by omega) (by decide) (by decide) (by exact hQ) (Nat.lt_succ_self _)

set_option maxHeartbeats 4000000 in
set_option maxRecDepth 100000 in
theorem c_X10_printsAll (l : Launch) (G : tG) (σ : Nat → Nat) (cu : Nat) (a : Nat → Option (Nat → Int32)) (ta : Nat → Int32) (h0 : Nat) (x1 : Int32) (t0 : σ h0 = 1) (l1 : 0 ≤ x1.toInt) (u1 : x1.toInt ≤ 23) (hIa : TInv ta) : Met l yX10_printsAll (.code yX10_printsAll cX10_printsAll 4 none :: tWS) (tRm 2 46) (va_Pc [.ref h0, .int x1] (mPre G (σ, cu, qX (upA a cu ta)))) (mQv G (σ, cu, qX (upA a cu ta))) 0 0 (mA (σ, cu, qX (upA a cu ta))) := by
  refine mc_met (by decide) (Nat.le_of_ble_eq_true rfl) ?_
  intro p e s m below meth c E hr hlk hG ls hl
  have hl : lv_has ls 4 [(0, .ref h0), (1, .int x1)] := hl
  have hx := E.1
  have hb := E.2.1
  obtain ⟨H, eH⟩ : ∃ H, H = s.heap := ⟨_, rfl⟩
  obtain ⟨locs, eL⟩ : ∃ x : List Loc, x = [] := ⟨_, rfl⟩
  have hG : mGH G (σ, cu, qX (upA a cu ta)) s H locs := by rw [eH, eL]; exact hG
  suffices hW : W p l e (tRm 2 46) s m ([.ref h0, .int x1] : List Value).toArray below meth c H locs 0 0 (MQ below (mQv G (σ, cu, qX (upA a cu ta))) ([.ref h0, .int x1] : List Value).toArray s 0 0 (mA (σ, cu, qX (upA a cu ta)))) (F0 m 0 ls []) by subst eH; subst eL; exact hW
  clear eH eL
  obtain ⟨Fa, hG⟩ := mGain hG
  have hG : mGH G (σ, cu, kO PP (qX (upA a cu ta)) Fa) s H locs := hG PP
  have hcu : mCu cu := hG.2.2.1
  have hI := hIa
  have J24 : ∀ (n24 : Nat) (F : mF) (H : Heap) (locs : List Loc) (ls : Array Slot), mGH G (σ, cu, kO PP (qX (upA a cu ta)) F) s H locs → lv_has ls 4 [(0, .ref h0)] → PJ ta x1.toInt F → LM F < n24 → W p l e (tRm 2 46) s m ([.ref h0, .int x1] : List Value).toArray below meth c H locs 0 0 (MQ below (mQv G (σ, cu, qX (upA a cu ta))) ([.ref h0, .int x1] : List Value).toArray s 0 0 (mA (σ, cu, qX (upA a cu ta)))) (F0 m 24 ls []) := by
    intro n24
    induction n24 with
    | zero => intro F H locs ls hG hl hex24 hn24; exact absurd hn24 (Nat.not_lt_zero _)
    | succ n24 ih24 =>
      intro F H locs ls hG hl hex24 hn24
      have hro := PJ_room hex24
      have hle := hro.2.2.2.1.le
      refine lv_aload_n hx hb dX10_printsAll_24 rfl (lv_at hl 0 rfl) ?_
      refine mc_geti E hG t0 mi_221 dX10_printsAll_25 (fun z1 lz1 uz1 qz1 => ?_)
      have wz1 := kq qz1 (PP_d)
      refine lv_if_le (tgt := 163) hx hb dX10_printsAll_28 (by decide) (fun c2 => ?_) (fun c2 => ?_)
      · skip
        have ic2 := tn_le rfl kI_0 c2
        have hG := kO_drop PP_qn hG
        exact mc_vret E hr hlk hG dX10_printsAll_163
      · skip
        have ic2 := tn_nle rfl kI_0 c2
        refine lv_aload_n hx hb dX10_printsAll_31 rfl (lv_at hl 0 rfl) ?_
        refine mc_getr E hG t0 mr_39 dX10_printsAll_32 (fun oa3 hoa3 => ?_)
        refine lv_aload_n hx hb dX10_printsAll_35 rfl (lv_at hl 0 rfl) ?_
        refine mc_geti E hG t0 mi_221 dX10_printsAll_36 (fun z4 lz4 uz4 qz4 => ?_)
        have wz4 := kq qz4 (PP_d)
        have hdd : z4.toInt = z1.toInt := by rw [wz4, wz1]
        have hdl : z4.toInt ≤ 24 := by rw [wz4]; exact hle
        refine lv_iconst (v := 1) hx hb dX10_printsAll_39 (by decide) ?_
        refine lv_isub hx hb dX10_printsAll_40 ?_
        refine lv_topi (fun z5 ez5 => ?_)
        have tz5 := tn_sub ez5 rfl kI_1 (by omega) (by omega)
        refine mc_iald E hG hoa3 ma_10 (t_in (by omega) (by omega)) dX10_printsAll_41 (fun z6 lz6 uz6 qz6 => ?_)
        have wz6 := kq qz6 (PP_10)
        refine lv_istore_n (lv' := [(2, .int z6), (0, .ref h0)]) hx hb dX10_printsAll_42 rfl hl (by decide) rfl (fun ls hl => ?_)
        refine lv_aload_n hx hb dX10_printsAll_43 rfl (lv_at hl 1 rfl) ?_
        refine mc_getr E hG t0 mr_42 dX10_printsAll_44 (fun oa7 hoa7 => ?_)
        refine lv_iload_n hx hb dX10_printsAll_47 rfl (lv_at hl 0 rfl) ?_
        refine mc_iald E hG hoa7 ma_11 (t_in (by omega) (by omega)) dX10_printsAll_48 (fun z8 lz8 uz8 qz8 => ?_)
        have wz8 := kq qz8 (PP_11)
        refine lv_istore_n (lv' := [(3, .int z8), (2, .int z6), (0, .ref h0)]) hx hb dX10_printsAll_49 rfl hl (by decide) rfl (fun ls hl => ?_)
        refine lv_iload_n hx hb dX10_printsAll_50 rfl (lv_at hl 0 rfl) ?_
        refine lv_if_ne (tgt := 59) hx hb dX10_printsAll_51 (by decide) (fun c9 => ?_) (fun c9 => ?_)
        · skip
          have ic9 := tn_ne rfl kI_0 c9
          refine lv_iload_n hx hb dX10_printsAll_59 rfl (lv_at hl 0 rfl) ?_
          refine lv_aload_n hx hb dX10_printsAll_60 rfl (lv_at hl 2 rfl) ?_
          refine lv_iload_n hx hb dX10_printsAll_61 rfl (lv_at hl 1 rfl) ?_
          refine tc_callp (mc_runV (As := [.int z6]) (rest := [.int z8]) E hG (c_X10_manyOf l G (σ, cu, kO PP (qX (upA a cu ta)) F) h0 z6 t0 (by omega) (by omega)) t0 rfl kv_X10_manyOf ml_X10_117 ⟨rfl, rfl, Nat.le_of_ble_eq_true rfl, Nat.le_of_ble_eq_true rfl⟩ rfl hl.1 rfl (Nat.le_of_ble_eq_true rfl) ⟨Nat.zero_le _, Nat.zero_le _⟩ dX10_printsAll_62) (fun r10 pr10 => ?_)
          replace pr10 : mV (σ, cu, kO PP (qX (upA a cu ta)) F) (ix z6.toInt 10) r10 := pr10
          have br10 := mV_10 pr10 (by omega)
          have cr10 := mT pr10 (kO_TI (PP_tr hcu) (qX_TI hcu upA_at)) (by omega) (by omega) (by decide) (by decide)
          refine lv_icmp_ge (tgt := 136) hx hb dX10_printsAll_65 (by decide) (fun c11 => ?_) (fun c11 => ?_)
          · skip
            have ic11 := tn_le rfl rfl c11
            refine lv_aload_n hx hb dX10_printsAll_136 rfl (lv_at hl 2 rfl) ?_
            refine lv_iload_n hx hb dX10_printsAll_137 rfl (lv_at hl 1 rfl) ?_
            refine tc_callp (mc_runV (As := [.int z6]) (rest := []) E hG (c_X10_manyOf l G (σ, cu, kO PP (qX (upA a cu ta)) F) h0 z6 t0 (by omega) (by omega)) t0 rfl kv_X10_manyOf ml_X10_117 ⟨rfl, rfl, Nat.le_of_ble_eq_true rfl, Nat.le_of_ble_eq_true rfl⟩ rfl hl.1 rfl (Nat.le_of_ble_eq_true rfl) ⟨Nat.zero_le _, Nat.zero_le _⟩ dX10_printsAll_138) (fun r12 pr12 => ?_)
            replace pr12 : mV (σ, cu, kO PP (qX (upA a cu ta)) F) (ix z6.toInt 10) r12 := pr12
            have br12 := mV_10 pr12 (by omega)
            have cr12 := mT pr12 (kO_TI (PP_tr hcu) (qX_TI hcu upA_at)) (by omega) (by omega) (by decide) (by decide)
            refine lv_if_le (tgt := 150) hx hb dX10_printsAll_141 (by decide) (fun c13 => ?_) (fun c13 => ?_)
            · skip
              have ic13 := tn_le rfl kI_0 c13
              refine lv_aload_n hx hb dX10_printsAll_150 rfl (lv_at hl 2 rfl) ?_
              refine lv_dup hx hb dX10_printsAll_151 rfl ?_
              refine mc_geti E hG t0 mi_221 dX10_printsAll_152 (fun z14 lz14 uz14 qz14 => ?_)
              have wz14 := kq qz14 (PP_d)
              have hPQ := (PQ.refl (F := F) (n := 0) (Int.le_refl _) hro.2.1)
              have hd4 : z14.toInt = (F 1 18).toInt := by rw [wz14]
              have hd5 : (F 1 18).toInt = (F 1 18).toInt := by rw [hPQ.2.2.1]
              have hd6 : 1 ≤ (F 1 18).toInt := by rw [← wz4]; omega
              refine lv_iconst (v := 1) hx hb dX10_printsAll_155 (by decide) ?_
              refine lv_isub hx hb dX10_printsAll_156 ?_
              refine lv_topi (fun z15 ez15 => ?_)
              have tz15 := tn_sub ez15 rfl kI_1 (by omega) (by omega)
              refine mc_putX E hG t0 mp_221 (by omega) (by omega) rfl rfl dX10_printsAll_157 (fun H locs hG => ?_)
              have hG := kO_set (PP_d) hG
              obtain ⟨F16, eF16⟩ : ∃ Z : mF, Z = up2 F 1 18 z15 := ⟨_, rfl⟩
              rw [← eF16] at hG
              refine lv_goto (tgt := 24) hx hb dX10_printsAll_160 (by decide) ?_
              have hnn : ((z5.toNatClampNeg : Nat) : Int) = (F 1 18).toInt - 1 := by show ((z5.toInt.toNat : Nat) : Int) = _; rw [← wz4]; omega
              have hd1 : 1 ≤ (F 1 18).toInt := by rw [← wz4]; omega
              have hP := PJ_pop (p := 0) hex24 hd1 hnn wz6 wz8 (hPQ.le (by omega)) (by omega) eF16 (by omega)
              have hQ := hP.1
              have hP2 := hP.2
              exact ih24 F16 H locs ls hG (lv_sub hl [2] rfl) (by exact hQ) (by omega)
            · skip
              have ic13 := tn_nle rfl kI_0 c13
              refine lv_aload_n hx hb dX10_printsAll_144 rfl (lv_at hl 2 rfl) ?_
              refine lv_bipush (v := 41) hx hb dX10_printsAll_145 (by decide) ?_
              refine mc_callvX hG (mc_runV (As := [.int 41]) (rest := []) E hG (c_X10_prints l G σ cu (qX (upA a cu ta)) F h0 (41 : Int32) t0 (fun k => qX_nc (c := 19) (by unfold mCu; decide) (by omega)) (by omega)) t0 rfl kv_X10_prints ml_X10_392 ⟨rfl, rfl, Nat.le_of_ble_eq_true rfl, Nat.le_of_ble_eq_true rfl⟩ rfl hl.1 rfl (Nat.le_of_ble_eq_true rfl) ⟨Nat.zero_le _, Nat.zero_le _⟩ dX10_printsAll_147) (fun Z H locs eZ pZ hG => ?_)
              obtain ⟨F18, rfl, pF18⟩ := pZ
              clear eZ
              have hbF18 := pF18.1
              have hcF18 := pF18.2.1
              refine lv_aload_n hx hb dX10_printsAll_150 rfl (lv_at hl 2 rfl) ?_
              refine lv_dup hx hb dX10_printsAll_151 rfl ?_
              refine mc_geti E hG t0 mi_221 dX10_printsAll_152 (fun z19 lz19 uz19 qz19 => ?_)
              have wz19 := kq qz19 (PP_d)
              have hPQ := ((PQ.refl (F := F) (n := 0) (Int.le_refl _) hro.2.1).trans pF18 (Int.le_refl _))
              have hd4 : z19.toInt = (F18 1 18).toInt := by rw [wz19]
              have hd5 : (F18 1 18).toInt = (F 1 18).toInt := by rw [hPQ.2.2.1]
              have hd6 : 1 ≤ (F 1 18).toInt := by rw [← wz4]; omega
              refine lv_iconst (v := 1) hx hb dX10_printsAll_155 (by decide) ?_
              refine lv_isub hx hb dX10_printsAll_156 ?_
              refine lv_topi (fun z20 ez20 => ?_)
              have tz20 := tn_sub ez20 rfl kI_1 (by omega) (by omega)
              refine mc_putX E hG t0 mp_221 (by omega) (by omega) rfl rfl dX10_printsAll_157 (fun H locs hG => ?_)
              have hG := kO_set (PP_d) hG
              obtain ⟨F21, eF21⟩ : ∃ Z : mF, Z = up2 F18 1 18 z20 := ⟨_, rfl⟩
              rw [← eF21] at hG
              refine lv_goto (tgt := 24) hx hb dX10_printsAll_160 (by decide) ?_
              have hnn : ((z5.toNatClampNeg : Nat) : Int) = (F 1 18).toInt - 1 := by show ((z5.toInt.toNat : Nat) : Int) = _; rw [← wz4]; omega
              have hd1 : 1 ≤ (F 1 18).toInt := by rw [← wz4]; omega
              have hP := PJ_pop (p := 1) hex24 hd1 hnn wz6 wz8 (hPQ.le (by omega)) (by omega) eF21 (by omega)
              have hQ := hP.1
              have hP2 := hP.2
              exact ih24 F21 H locs ls hG (lv_sub hl [2] rfl) (by exact hQ) (by omega)
          · skip
            have ic11 := tn_nle rfl rfl c11
            refine lv_aload_n hx hb dX10_printsAll_68 rfl (lv_at hl 2 rfl) ?_
            refine lv_iload_n hx hb dX10_printsAll_69 rfl (lv_at hl 0 rfl) ?_
            refine lv_if_ne (tgt := 78) hx hb dX10_printsAll_70 (by decide) (fun c22 => ?_) (fun c22 => ?_)
            · skip
              have ic22 := tn_ne rfl kI_0 c22
              refine lv_bipush (v := 44) hx hb dX10_printsAll_78 (by decide) ?_
              refine mc_callvX hG (mc_runV (As := [.int 44]) (rest := []) E hG (c_X10_prints l G σ cu (qX (upA a cu ta)) F h0 (44 : Int32) t0 (fun k => qX_nc (c := 19) (by unfold mCu; decide) (by omega)) (by omega)) t0 rfl kv_X10_prints ml_X10_392 ⟨rfl, rfl, Nat.le_of_ble_eq_true rfl, Nat.le_of_ble_eq_true rfl⟩ rfl hl.1 rfl (Nat.le_of_ble_eq_true rfl) ⟨Nat.zero_le _, Nat.zero_le _⟩ dX10_printsAll_80) (fun Z H locs eZ pZ hG => ?_)
              obtain ⟨F24, rfl, pF24⟩ := pZ
              clear eZ
              have hbF24 := pF24.1
              have hcF24 := pF24.2.1
              refine lv_aload_n hx hb dX10_printsAll_83 rfl (lv_at hl 2 rfl) ?_
              refine mc_getr E hG t0 mr_42 dX10_printsAll_84 (fun oa25 hoa25 => ?_)
              refine lv_iload_n hx hb dX10_printsAll_87 rfl (lv_at hl 1 rfl) ?_
              refine lv_dup2_11 hx hb dX10_printsAll_88 rfl rfl ?_
              refine mc_iald E hG hoa25 ma_11 (t_in (by omega) (by omega)) dX10_printsAll_89 (fun z26 lz26 uz26 qz26 => ?_)
              have wz26 := kq qz26 (PP_11)
              have hPQ := ((PQ.refl (F := F) (n := 0) (Int.le_refl _) hro.2.1).trans pF24 (Int.le_refl _))
              have hq90 : z26.toInt = z8.toInt := by rw [wz26, hPQ.2.2.2.2, ← wz8]
              refine lv_iconst (v := 1) hx hb dX10_printsAll_90 (by decide) ?_
              refine lv_iadd hx hb dX10_printsAll_91 ?_
              refine lv_topi (fun z27 ez27 => ?_)
              have tz27 := tn_add ez27 rfl kI_1 (by omega) (by omega)
              refine mc_iastX E hG hoa25 ma_11.1 ma_11.2.1 (ma_11.2.2 _) (t_in (by omega) (by omega)) (by omega) (by omega) dX10_printsAll_92 (fun H locs hG => ?_)
              have hG := kO_set (PP_11) hG
              obtain ⟨F28, eF28⟩ : ∃ Z : mF, Z = up2 F24 11 (z6).toNatClampNeg z27 := ⟨_, rfl⟩
              rw [← eF28] at hG
              refine lv_aload_n hx hb dX10_printsAll_93 rfl (lv_at hl 2 rfl) ?_
              refine mc_getr E hG t0 mr_39 dX10_printsAll_94 (fun oa29 hoa29 => ?_)
              refine lv_aload_n hx hb dX10_printsAll_97 rfl (lv_at hl 2 rfl) ?_
              refine mc_geti E hG t0 mi_221 dX10_printsAll_98 (fun z30 lz30 uz30 qz30 => ?_)
              have wz30 := kq qz30 (PP_d)
              have hd2 : z30 = F 1 18 := by rw [wz30, eF28, up2_ne (by omega), hPQ.2.2.1]
              have hd2i : z30.toInt ≤ 24 := by rw [hd2]; exact hle
              refine lv_aload_n hx hb dX10_printsAll_101 rfl (lv_at hl 2 rfl) ?_
              refine lv_iload_n hx hb dX10_printsAll_102 rfl (lv_at hl 1 rfl) ?_
              refine lv_iload_n hx hb dX10_printsAll_103 rfl (lv_at hl 0 rfl) ?_
              refine tc_callp (mc_runV (As := [.int z6, .int z8]) (rest := [.int z30, .ref oa29]) E hG (c_X10_childOf l G (σ, cu, kO PP (qX (upA a cu ta)) F28) h0 z6 z8 t0 (by omega) (by omega) (by omega) (by omega)) t0 rfl kv_X10_childOf ml_X10_153 ⟨rfl, rfl, Nat.le_of_ble_eq_true rfl, Nat.le_of_ble_eq_true rfl⟩ rfl hl.1 rfl (Nat.le_of_ble_eq_true rfl) ⟨Nat.zero_le _, Nat.zero_le _⟩ dX10_printsAll_104) (fun r31 pr31 => ?_)
              replace pr31 : mV (σ, cu, kO PP (qX (upA a cu ta)) F28) (ix z6.toInt (11 + z8.toInt)) r31 := pr31
              have br31 := mV_r 11 18 0 23 pr31 (by omega) (by omega) (by omega) (by decide) (by decide)
              have cr31 := mT pr31 (kO_TI (PP_tr hcu) (qX_TI hcu upA_at)) (by omega) (by omega) (by omega) (by omega)
              have dr31 := mP11 cr31 hI (by omega) (by omega) (by omega)
              refine mc_iastX E hG hoa29 ma_10.1 ma_10.2.1 (ma_10.2.2 _) (t_in (by omega) (by omega)) (by omega) (by omega) dX10_printsAll_107 (fun H locs hG => ?_)
              have hG := kO_set (PP_10) hG
              obtain ⟨F32, eF32⟩ : ∃ Z : mF, Z = up2 F28 10 (z30).toNatClampNeg r31 := ⟨_, rfl⟩
              rw [← eF32] at hG
              refine lv_aload_n hx hb dX10_printsAll_108 rfl (lv_at hl 2 rfl) ?_
              refine mc_getr E hG t0 mr_42 dX10_printsAll_109 (fun oa33 hoa33 => ?_)
              refine lv_aload_n hx hb dX10_printsAll_112 rfl (lv_at hl 2 rfl) ?_
              refine mc_getr E hG t0 mr_39 dX10_printsAll_113 (fun oa34 hoa34 => ?_)
              refine lv_aload_n hx hb dX10_printsAll_116 rfl (lv_at hl 2 rfl) ?_
              refine mc_geti E hG t0 mi_221 dX10_printsAll_117 (fun z35 lz35 uz35 qz35 => ?_)
              have wz35 := kq qz35 (PP_d)
              have hd3 : z35 = F 1 18 := by rw [wz35, eF32, up2_ne (by omega), eF28, up2_ne (by omega), hPQ.2.2.1]
              have hd3i : z35.toInt ≤ 24 := by rw [hd3]; exact hle
              refine mc_iald E hG hoa34 ma_10 (t_in (by omega) (by omega)) dX10_printsAll_120 (fun z36 lz36 uz36 qz36 => ?_)
              have wz36 := kq qz36 (PP_10)
              have hzc : z36 = r31 := by rw [wz36, eF32, show z35.toNatClampNeg = z30.toNatClampNeg by rw [hd3, hd2], up2_at]
              refine lv_iconst (v := 0) hx hb dX10_printsAll_121 (by decide) ?_
              refine mc_iastX E hG hoa33 ma_11.1 ma_11.2.1 (ma_11.2.2 _) (t_in (by omega) (by omega)) (by decide) (by decide) dX10_printsAll_122 (fun H locs hG => ?_)
              have hG := kO_set (PP_11) hG
              obtain ⟨F37, eF37⟩ : ∃ Z : mF, Z = up2 F32 11 (z36).toNatClampNeg (0 : Int32) := ⟨_, rfl⟩
              rw [← eF37] at hG
              refine lv_aload_n hx hb dX10_printsAll_123 rfl (lv_at hl 2 rfl) ?_
              refine lv_dup hx hb dX10_printsAll_124 rfl ?_
              refine mc_geti E hG t0 mi_221 dX10_printsAll_125 (fun z38 lz38 uz38 qz38 => ?_)
              have wz38 := kq qz38 (PP_d)
              have hd4 : z38 = F 1 18 := by rw [wz38, eF37, up2_ne (by omega), eF32, up2_ne (by omega), eF28, up2_ne (by omega), hPQ.2.2.1]
              have hd4i : z38.toInt = (F 1 18).toInt := by rw [hd4]
              refine lv_iconst (v := 1) hx hb dX10_printsAll_128 (by decide) ?_
              refine lv_iadd hx hb dX10_printsAll_129 ?_
              refine lv_topi (fun z39 ez39 => ?_)
              have tz39 := tn_add ez39 rfl kI_1 (by omega) (by omega)
              refine mc_putX E hG t0 mp_221 (by omega) (by omega) rfl rfl dX10_printsAll_130 (fun H locs hG => ?_)
              have hG := kO_set (PP_d) hG
              obtain ⟨F40, eF40⟩ : ∃ Z : mF, Z = up2 F37 1 18 z39 := ⟨_, rfl⟩
              rw [← eF40] at hG
              refine lv_goto (tgt := 160) hx hb dX10_printsAll_133 (by decide) ?_
              refine lv_goto (tgt := 24) hx hb dX10_printsAll_160 (by decide) ?_
              have hnn : ((z5.toNatClampNeg : Nat) : Int) = (F 1 18).toInt - 1 := by show ((z5.toInt.toNat : Nat) : Int) = _; rw [← wz4]; omega
              have hd1 : 1 ≤ (F 1 18).toInt := by rw [← wz4]; omega
              rw [hzc] at eF37
              have hP := PJ_push (p := 1) hIa hex24 hd1 hnn wz6 wz8 (hPQ.le (by omega)) (by omega) (by omega) cr31 eF28 (by omega) eF32 hd2 eF37 rfl eF40 (by omega)
              have hQ := hP.1
              have hP2 := hP.2
              exact ih24 F40 H locs ls hG (lv_sub hl [2] rfl) (by exact hQ) (by omega)
            · exfalso
              have ic22 := tn_eq rfl kI_0 c22
              omega
        · skip
          have ic9 := tn_eq rfl kI_0 c9
          refine lv_aload_n hx hb dX10_printsAll_54 rfl (lv_at hl 2 rfl) ?_
          refine lv_iload_n hx hb dX10_printsAll_55 rfl (lv_at hl 1 rfl) ?_
          refine mc_callvX hG (mc_runV (As := [.int z6]) (rest := []) E hG (c_X10_printsBox l G σ cu (qX (upA a cu ta)) F h0 z6 t0 (by omega) (by omega) (fun k => qX_nc (c := 19) (by unfold mCu; decide) (by omega)) (by omega) (by omega)) t0 rfl kv_X10_printsBox ml_X10_395 ⟨rfl, rfl, Nat.le_of_ble_eq_true rfl, Nat.le_of_ble_eq_true rfl⟩ rfl hl.1 rfl (Nat.le_of_ble_eq_true rfl) ⟨Nat.zero_le _, Nat.zero_le _⟩ dX10_printsAll_56) (fun Z H locs eZ pZ hG => ?_)
          obtain ⟨F42, rfl, pF42⟩ := pZ
          clear eZ
          have hbF42 := pF42.1
          have hcF42 := pF42.2.1
          refine lv_iload_n hx hb dX10_printsAll_59 rfl (lv_at hl 0 rfl) ?_
          refine lv_aload_n hx hb dX10_printsAll_60 rfl (lv_at hl 2 rfl) ?_
          refine lv_iload_n hx hb dX10_printsAll_61 rfl (lv_at hl 1 rfl) ?_
          refine tc_callp (mc_runV (As := [.int z6]) (rest := [.int z8]) E hG (c_X10_manyOf l G (σ, cu, kO PP (qX (upA a cu ta)) F42) h0 z6 t0 (by omega) (by omega)) t0 rfl kv_X10_manyOf ml_X10_117 ⟨rfl, rfl, Nat.le_of_ble_eq_true rfl, Nat.le_of_ble_eq_true rfl⟩ rfl hl.1 rfl (Nat.le_of_ble_eq_true rfl) ⟨Nat.zero_le _, Nat.zero_le _⟩ dX10_printsAll_62) (fun r43 pr43 => ?_)
          replace pr43 : mV (σ, cu, kO PP (qX (upA a cu ta)) F42) (ix z6.toInt 10) r43 := pr43
          have br43 := mV_10 pr43 (by omega)
          have cr43 := mT pr43 (kO_TI (PP_tr hcu) (qX_TI hcu upA_at)) (by omega) (by omega) (by decide) (by decide)
          refine lv_icmp_ge (tgt := 136) hx hb dX10_printsAll_65 (by decide) (fun c44 => ?_) (fun c44 => ?_)
          · skip
            have ic44 := tn_le rfl rfl c44
            refine lv_aload_n hx hb dX10_printsAll_136 rfl (lv_at hl 2 rfl) ?_
            refine lv_iload_n hx hb dX10_printsAll_137 rfl (lv_at hl 1 rfl) ?_
            refine tc_callp (mc_runV (As := [.int z6]) (rest := []) E hG (c_X10_manyOf l G (σ, cu, kO PP (qX (upA a cu ta)) F42) h0 z6 t0 (by omega) (by omega)) t0 rfl kv_X10_manyOf ml_X10_117 ⟨rfl, rfl, Nat.le_of_ble_eq_true rfl, Nat.le_of_ble_eq_true rfl⟩ rfl hl.1 rfl (Nat.le_of_ble_eq_true rfl) ⟨Nat.zero_le _, Nat.zero_le _⟩ dX10_printsAll_138) (fun r45 pr45 => ?_)
            replace pr45 : mV (σ, cu, kO PP (qX (upA a cu ta)) F42) (ix z6.toInt 10) r45 := pr45
            have br45 := mV_10 pr45 (by omega)
            have cr45 := mT pr45 (kO_TI (PP_tr hcu) (qX_TI hcu upA_at)) (by omega) (by omega) (by decide) (by decide)
            refine lv_if_le (tgt := 150) hx hb dX10_printsAll_141 (by decide) (fun c46 => ?_) (fun c46 => ?_)
            · skip
              have ic46 := tn_le rfl kI_0 c46
              refine lv_aload_n hx hb dX10_printsAll_150 rfl (lv_at hl 2 rfl) ?_
              refine lv_dup hx hb dX10_printsAll_151 rfl ?_
              refine mc_geti E hG t0 mi_221 dX10_printsAll_152 (fun z47 lz47 uz47 qz47 => ?_)
              have wz47 := kq qz47 (PP_d)
              have hPQ := ((PQ.refl (F := F) (n := 0) (Int.le_refl _) hro.2.1).trans pF42 (Int.le_refl _))
              have hd4 : z47.toInt = (F42 1 18).toInt := by rw [wz47]
              have hd5 : (F42 1 18).toInt = (F 1 18).toInt := by rw [hPQ.2.2.1]
              have hd6 : 1 ≤ (F 1 18).toInt := by rw [← wz4]; omega
              refine lv_iconst (v := 1) hx hb dX10_printsAll_155 (by decide) ?_
              refine lv_isub hx hb dX10_printsAll_156 ?_
              refine lv_topi (fun z48 ez48 => ?_)
              have tz48 := tn_sub ez48 rfl kI_1 (by omega) (by omega)
              refine mc_putX E hG t0 mp_221 (by omega) (by omega) rfl rfl dX10_printsAll_157 (fun H locs hG => ?_)
              have hG := kO_set (PP_d) hG
              obtain ⟨F49, eF49⟩ : ∃ Z : mF, Z = up2 F42 1 18 z48 := ⟨_, rfl⟩
              rw [← eF49] at hG
              refine lv_goto (tgt := 24) hx hb dX10_printsAll_160 (by decide) ?_
              have hnn : ((z5.toNatClampNeg : Nat) : Int) = (F 1 18).toInt - 1 := by show ((z5.toInt.toNat : Nat) : Int) = _; rw [← wz4]; omega
              have hd1 : 1 ≤ (F 1 18).toInt := by rw [← wz4]; omega
              have hP := PJ_pop (p := 20) hex24 hd1 hnn wz6 wz8 (hPQ.le (by omega)) (by omega) eF49 (by omega)
              have hQ := hP.1
              have hP2 := hP.2
              exact ih24 F49 H locs ls hG (lv_sub hl [2] rfl) (by exact hQ) (by omega)
            · skip
              have ic46 := tn_nle rfl kI_0 c46
              refine lv_aload_n hx hb dX10_printsAll_144 rfl (lv_at hl 2 rfl) ?_
              refine lv_bipush (v := 41) hx hb dX10_printsAll_145 (by decide) ?_
              refine mc_callvX hG (mc_runV (As := [.int 41]) (rest := []) E hG (c_X10_prints l G σ cu (qX (upA a cu ta)) F42 h0 (41 : Int32) t0 (fun k => qX_nc (c := 19) (by unfold mCu; decide) (by omega)) (by omega)) t0 rfl kv_X10_prints ml_X10_392 ⟨rfl, rfl, Nat.le_of_ble_eq_true rfl, Nat.le_of_ble_eq_true rfl⟩ rfl hl.1 rfl (Nat.le_of_ble_eq_true rfl) ⟨Nat.zero_le _, Nat.zero_le _⟩ dX10_printsAll_147) (fun Z H locs eZ pZ hG => ?_)
              obtain ⟨F51, rfl, pF51⟩ := pZ
              clear eZ
              have hbF51 := pF51.1
              have hcF51 := pF51.2.1
              refine lv_aload_n hx hb dX10_printsAll_150 rfl (lv_at hl 2 rfl) ?_
              refine lv_dup hx hb dX10_printsAll_151 rfl ?_
              refine mc_geti E hG t0 mi_221 dX10_printsAll_152 (fun z52 lz52 uz52 qz52 => ?_)
              have wz52 := kq qz52 (PP_d)
              have hPQ := (((PQ.refl (F := F) (n := 0) (Int.le_refl _) hro.2.1).trans pF42 (Int.le_refl _)).trans pF51 (Int.le_refl _))
              have hd4 : z52.toInt = (F51 1 18).toInt := by rw [wz52]
              have hd5 : (F51 1 18).toInt = (F 1 18).toInt := by rw [hPQ.2.2.1]
              have hd6 : 1 ≤ (F 1 18).toInt := by rw [← wz4]; omega
              refine lv_iconst (v := 1) hx hb dX10_printsAll_155 (by decide) ?_
              refine lv_isub hx hb dX10_printsAll_156 ?_
              refine lv_topi (fun z53 ez53 => ?_)
              have tz53 := tn_sub ez53 rfl kI_1 (by omega) (by omega)
              refine mc_putX E hG t0 mp_221 (by omega) (by omega) rfl rfl dX10_printsAll_157 (fun H locs hG => ?_)
              have hG := kO_set (PP_d) hG
              obtain ⟨F54, eF54⟩ : ∃ Z : mF, Z = up2 F51 1 18 z53 := ⟨_, rfl⟩
              rw [← eF54] at hG
              refine lv_goto (tgt := 24) hx hb dX10_printsAll_160 (by decide) ?_
              have hnn : ((z5.toNatClampNeg : Nat) : Int) = (F 1 18).toInt - 1 := by show ((z5.toInt.toNat : Nat) : Int) = _; rw [← wz4]; omega
              have hd1 : 1 ≤ (F 1 18).toInt := by rw [← wz4]; omega
              have hP := PJ_pop (p := 21) hex24 hd1 hnn wz6 wz8 (hPQ.le (by omega)) (by omega) eF54 (by omega)
              have hQ := hP.1
              have hP2 := hP.2
              exact ih24 F54 H locs ls hG (lv_sub hl [2] rfl) (by exact hQ) (by omega)
          · skip
            have ic44 := tn_nle rfl rfl c44
            refine lv_aload_n hx hb dX10_printsAll_68 rfl (lv_at hl 2 rfl) ?_
            refine lv_iload_n hx hb dX10_printsAll_69 rfl (lv_at hl 0 rfl) ?_
            refine lv_if_ne (tgt := 78) hx hb dX10_printsAll_70 (by decide) (fun c55 => ?_) (fun c55 => ?_)
            · exfalso
              have ic55 := tn_ne rfl kI_0 c55
              omega
            · skip
              have ic55 := tn_eq rfl kI_0 c55
              refine lv_bipush (v := 40) hx hb dX10_printsAll_73 (by decide) ?_
              refine lv_goto (tgt := 80) hx hb dX10_printsAll_75 (by decide) ?_
              refine mc_callvX hG (mc_runV (As := [.int 40]) (rest := []) E hG (c_X10_prints l G σ cu (qX (upA a cu ta)) F42 h0 (40 : Int32) t0 (fun k => qX_nc (c := 19) (by unfold mCu; decide) (by omega)) (by omega)) t0 rfl kv_X10_prints ml_X10_392 ⟨rfl, rfl, Nat.le_of_ble_eq_true rfl, Nat.le_of_ble_eq_true rfl⟩ rfl hl.1 rfl (Nat.le_of_ble_eq_true rfl) ⟨Nat.zero_le _, Nat.zero_le _⟩ dX10_printsAll_80) (fun Z H locs eZ pZ hG => ?_)
              obtain ⟨F57, rfl, pF57⟩ := pZ
              clear eZ
              have hbF57 := pF57.1
              have hcF57 := pF57.2.1
              refine lv_aload_n hx hb dX10_printsAll_83 rfl (lv_at hl 2 rfl) ?_
              refine mc_getr E hG t0 mr_42 dX10_printsAll_84 (fun oa58 hoa58 => ?_)
              refine lv_iload_n hx hb dX10_printsAll_87 rfl (lv_at hl 1 rfl) ?_
              refine lv_dup2_11 hx hb dX10_printsAll_88 rfl rfl ?_
              refine mc_iald E hG hoa58 ma_11 (t_in (by omega) (by omega)) dX10_printsAll_89 (fun z59 lz59 uz59 qz59 => ?_)
              have wz59 := kq qz59 (PP_11)
              have hPQ := (((PQ.refl (F := F) (n := 0) (Int.le_refl _) hro.2.1).trans pF42 (Int.le_refl _)).trans pF57 (Int.le_refl _))
              have hq90 : z59.toInt = z8.toInt := by rw [wz59, hPQ.2.2.2.2, ← wz8]
              refine lv_iconst (v := 1) hx hb dX10_printsAll_90 (by decide) ?_
              refine lv_iadd hx hb dX10_printsAll_91 ?_
              refine lv_topi (fun z60 ez60 => ?_)
              have tz60 := tn_add ez60 rfl kI_1 (by omega) (by omega)
              refine mc_iastX E hG hoa58 ma_11.1 ma_11.2.1 (ma_11.2.2 _) (t_in (by omega) (by omega)) (by omega) (by omega) dX10_printsAll_92 (fun H locs hG => ?_)
              have hG := kO_set (PP_11) hG
              obtain ⟨F61, eF61⟩ : ∃ Z : mF, Z = up2 F57 11 (z6).toNatClampNeg z60 := ⟨_, rfl⟩
              rw [← eF61] at hG
              refine lv_aload_n hx hb dX10_printsAll_93 rfl (lv_at hl 2 rfl) ?_
              refine mc_getr E hG t0 mr_39 dX10_printsAll_94 (fun oa62 hoa62 => ?_)
              refine lv_aload_n hx hb dX10_printsAll_97 rfl (lv_at hl 2 rfl) ?_
              refine mc_geti E hG t0 mi_221 dX10_printsAll_98 (fun z63 lz63 uz63 qz63 => ?_)
              have wz63 := kq qz63 (PP_d)
              have hd2 : z63 = F 1 18 := by rw [wz63, eF61, up2_ne (by omega), hPQ.2.2.1]
              have hd2i : z63.toInt ≤ 24 := by rw [hd2]; exact hle
              refine lv_aload_n hx hb dX10_printsAll_101 rfl (lv_at hl 2 rfl) ?_
              refine lv_iload_n hx hb dX10_printsAll_102 rfl (lv_at hl 1 rfl) ?_
              refine lv_iload_n hx hb dX10_printsAll_103 rfl (lv_at hl 0 rfl) ?_
              refine tc_callp (mc_runV (As := [.int z6, .int z8]) (rest := [.int z63, .ref oa62]) E hG (c_X10_childOf l G (σ, cu, kO PP (qX (upA a cu ta)) F61) h0 z6 z8 t0 (by omega) (by omega) (by omega) (by omega)) t0 rfl kv_X10_childOf ml_X10_153 ⟨rfl, rfl, Nat.le_of_ble_eq_true rfl, Nat.le_of_ble_eq_true rfl⟩ rfl hl.1 rfl (Nat.le_of_ble_eq_true rfl) ⟨Nat.zero_le _, Nat.zero_le _⟩ dX10_printsAll_104) (fun r64 pr64 => ?_)
              replace pr64 : mV (σ, cu, kO PP (qX (upA a cu ta)) F61) (ix z6.toInt (11 + z8.toInt)) r64 := pr64
              have br64 := mV_r 11 18 0 23 pr64 (by omega) (by omega) (by omega) (by decide) (by decide)
              have cr64 := mT pr64 (kO_TI (PP_tr hcu) (qX_TI hcu upA_at)) (by omega) (by omega) (by omega) (by omega)
              have dr64 := mP11 cr64 hI (by omega) (by omega) (by omega)
              refine mc_iastX E hG hoa62 ma_10.1 ma_10.2.1 (ma_10.2.2 _) (t_in (by omega) (by omega)) (by omega) (by omega) dX10_printsAll_107 (fun H locs hG => ?_)
              have hG := kO_set (PP_10) hG
              obtain ⟨F65, eF65⟩ : ∃ Z : mF, Z = up2 F61 10 (z63).toNatClampNeg r64 := ⟨_, rfl⟩
              rw [← eF65] at hG
              refine lv_aload_n hx hb dX10_printsAll_108 rfl (lv_at hl 2 rfl) ?_
              refine mc_getr E hG t0 mr_42 dX10_printsAll_109 (fun oa66 hoa66 => ?_)
              refine lv_aload_n hx hb dX10_printsAll_112 rfl (lv_at hl 2 rfl) ?_
              refine mc_getr E hG t0 mr_39 dX10_printsAll_113 (fun oa67 hoa67 => ?_)
              refine lv_aload_n hx hb dX10_printsAll_116 rfl (lv_at hl 2 rfl) ?_
              refine mc_geti E hG t0 mi_221 dX10_printsAll_117 (fun z68 lz68 uz68 qz68 => ?_)
              have wz68 := kq qz68 (PP_d)
              have hd3 : z68 = F 1 18 := by rw [wz68, eF65, up2_ne (by omega), eF61, up2_ne (by omega), hPQ.2.2.1]
              have hd3i : z68.toInt ≤ 24 := by rw [hd3]; exact hle
              refine mc_iald E hG hoa67 ma_10 (t_in (by omega) (by omega)) dX10_printsAll_120 (fun z69 lz69 uz69 qz69 => ?_)
              have wz69 := kq qz69 (PP_10)
              have hzc : z69 = r64 := by rw [wz69, eF65, show z68.toNatClampNeg = z63.toNatClampNeg by rw [hd3, hd2], up2_at]
              refine lv_iconst (v := 0) hx hb dX10_printsAll_121 (by decide) ?_
              refine mc_iastX E hG hoa66 ma_11.1 ma_11.2.1 (ma_11.2.2 _) (t_in (by omega) (by omega)) (by decide) (by decide) dX10_printsAll_122 (fun H locs hG => ?_)
              have hG := kO_set (PP_11) hG
              obtain ⟨F70, eF70⟩ : ∃ Z : mF, Z = up2 F65 11 (z69).toNatClampNeg (0 : Int32) := ⟨_, rfl⟩
              rw [← eF70] at hG
              refine lv_aload_n hx hb dX10_printsAll_123 rfl (lv_at hl 2 rfl) ?_
              refine lv_dup hx hb dX10_printsAll_124 rfl ?_
              refine mc_geti E hG t0 mi_221 dX10_printsAll_125 (fun z71 lz71 uz71 qz71 => ?_)
              have wz71 := kq qz71 (PP_d)
              have hd4 : z71 = F 1 18 := by rw [wz71, eF70, up2_ne (by omega), eF65, up2_ne (by omega), eF61, up2_ne (by omega), hPQ.2.2.1]
              have hd4i : z71.toInt = (F 1 18).toInt := by rw [hd4]
              refine lv_iconst (v := 1) hx hb dX10_printsAll_128 (by decide) ?_
              refine lv_iadd hx hb dX10_printsAll_129 ?_
              refine lv_topi (fun z72 ez72 => ?_)
              have tz72 := tn_add ez72 rfl kI_1 (by omega) (by omega)
              refine mc_putX E hG t0 mp_221 (by omega) (by omega) rfl rfl dX10_printsAll_130 (fun H locs hG => ?_)
              have hG := kO_set (PP_d) hG
              obtain ⟨F73, eF73⟩ : ∃ Z : mF, Z = up2 F70 1 18 z72 := ⟨_, rfl⟩
              rw [← eF73] at hG
              refine lv_goto (tgt := 160) hx hb dX10_printsAll_133 (by decide) ?_
              refine lv_goto (tgt := 24) hx hb dX10_printsAll_160 (by decide) ?_
              have hnn : ((z5.toNatClampNeg : Nat) : Int) = (F 1 18).toInt - 1 := by show ((z5.toInt.toNat : Nat) : Int) = _; rw [← wz4]; omega
              have hd1 : 1 ≤ (F 1 18).toInt := by rw [← wz4]; omega
              rw [hzc] at eF70
              have hP := PJ_push (p := 21) hIa hex24 hd1 hnn wz6 wz8 (hPQ.le (by omega)) (by omega) (by omega) cr64 eF61 (by omega) eF65 hd2 eF70 rfl eF73 (by omega)
              have hQ := hP.1
              have hP2 := hP.2
              exact ih24 F73 H locs ls hG (lv_sub hl [2] rfl) (by exact hQ) (by omega)
  refine lv_aload_n hx hb dX10_printsAll_0 rfl (lv_at hl 0 rfl) ?_
  refine lv_iconst (v := 0) hx hb dX10_printsAll_1 (by decide) ?_
  refine mc_putX E hG t0 mp_389 (by decide) (by decide) rfl rfl dX10_printsAll_2 (fun H locs hG => ?_)
  have hG := kO_set (PP_p) hG
  obtain ⟨F74, eF74⟩ : ∃ Z : mF, Z = up2 Fa 1 34 (0 : Int32) := ⟨_, rfl⟩
  rw [← eF74] at hG
  refine lv_aload_n hx hb dX10_printsAll_5 rfl (lv_at hl 0 rfl) ?_
  refine lv_iconst (v := 1) hx hb dX10_printsAll_6 (by decide) ?_
  refine mc_putX E hG t0 mp_221 (by decide) (by decide) rfl rfl dX10_printsAll_7 (fun H locs hG => ?_)
  have hG := kO_set (PP_d) hG
  obtain ⟨F75, eF75⟩ : ∃ Z : mF, Z = up2 F74 1 18 (1 : Int32) := ⟨_, rfl⟩
  rw [← eF75] at hG
  refine lv_aload_n hx hb dX10_printsAll_10 rfl (lv_at hl 0 rfl) ?_
  refine mc_getr E hG t0 mr_39 dX10_printsAll_11 (fun oa76 hoa76 => ?_)
  refine lv_iconst (v := 0) hx hb dX10_printsAll_14 (by decide) ?_
  refine lv_iload_n hx hb dX10_printsAll_15 rfl (lv_at hl 1 rfl) ?_
  refine mc_iastX E hG hoa76 ma_10.1 ma_10.2.1 (ma_10.2.2 _) (t_in (by decide) (by decide)) (by omega) (by omega) dX10_printsAll_16 (fun H locs hG => ?_)
  have hG := kO_set (PP_10) hG
  obtain ⟨F77, eF77⟩ : ∃ Z : mF, Z = up2 F75 10 ((0 : Int32)).toNatClampNeg x1 := ⟨_, rfl⟩
  rw [← eF77] at hG
  refine lv_aload_n hx hb dX10_printsAll_17 rfl (lv_at hl 0 rfl) ?_
  refine mc_getr E hG t0 mr_42 dX10_printsAll_18 (fun oa78 hoa78 => ?_)
  refine lv_iload_n hx hb dX10_printsAll_21 rfl (lv_at hl 1 rfl) ?_
  refine lv_iconst (v := 0) hx hb dX10_printsAll_22 (by decide) ?_
  refine mc_iastX E hG hoa78 ma_11.1 ma_11.2.1 (ma_11.2.2 _) (t_in (by omega) (by omega)) (by decide) (by decide) dX10_printsAll_23 (fun H locs hG => ?_)
  have hG := kO_set (PP_11) hG
  obtain ⟨F79, eF79⟩ : ∃ Z : mF, Z = up2 F77 11 (x1).toNatClampNeg (0 : Int32) := ⟨_, rfl⟩
  rw [← eF79] at hG
  have hQ : PJ ta x1.toInt F79 := PJ_0 eF74 kI_0 eF75 kI_1 eF77 eF79 kI_0 rfl (by omega) (by omega)
  exact J24 (LM F79 + 1) F79 H locs ls hG (lv_sub hl [0] rfl) (by exact hQ) (Nat.lt_succ_self _)

set_option maxHeartbeats 4000000 in
set_option maxRecDepth 100000 in
theorem c_X10_printed (l : Launch) (G : tG) (σ : Nat → Nat) (cu : Nat) (a : Nat → Option (Nat → Int32)) (ta : Nat → Int32) (h0 : Nat) (x1 : Int32) (x2 : Int32) (t0 : σ h0 = 1) (hIa : TInv ta) : Met l yX10_printed (.code yX10_printed cX10_printed 3 (some .int) :: tWS) (tRm 3 69) (va_Pc [.ref h0, .int x1, .int x2] (mPre G (σ, cu, qX (upA a cu ta)))) (mQiX G (σ, cu, qX (upA a cu ta)) (fun r Z => ∃ t : Nat → Int32, Z = (σ, cu, qX (upA a cu t)) ∧ AG ta t ∧ TInv t)) 0 0 (mA (σ, cu, qX (upA a cu ta))) := by
  refine mc_met (by decide) (Nat.le_of_ble_eq_true rfl) ?_
  intro p e s m below meth c E hr hlk hG ls hl
  have hl : lv_has ls 3 [(0, .ref h0), (1, .int x1), (2, .int x2)] := hl
  have hx := E.1
  have hb := E.2.1
  obtain ⟨H, eH⟩ : ∃ H, H = s.heap := ⟨_, rfl⟩
  obtain ⟨locs, eL⟩ : ∃ x : List Loc, x = [] := ⟨_, rfl⟩
  have hG : mGH G (σ, cu, qX (upA a cu ta)) s H locs := by rw [eH, eL]; exact hG
  suffices hW : W p l e (tRm 3 69) s m ([.ref h0, .int x1, .int x2] : List Value).toArray below meth c H locs 0 0 (MQ below (mQiX G (σ, cu, qX (upA a cu ta)) (fun r Z => ∃ t : Nat → Int32, Z = (σ, cu, qX (upA a cu t)) ∧ AG ta t ∧ TInv t)) ([.ref h0, .int x1, .int x2] : List Value).toArray s 0 0 (mA (σ, cu, qX (upA a cu ta)))) (F0 m 0 ls []) by subst eH; subst eL; exact hW
  clear eH eL
  have hcu : mCu cu := hG.2.2.1
  have hI := hIa
  refine lv_aload_n hx hb dX10_printed_0 rfl (lv_at hl 0 rfl) ?_
  refine lv_iload_n hx hb dX10_printed_1 rfl (lv_at hl 1 rfl) ?_
  refine tc_callp (mc_runV (As := [.int x1]) (rest := []) E hG (c_X10_isBox l G (σ, cu, qX (upA a cu ta)) h0 x1 t0) t0 rfl kv_X10_isBox ml_X10_127 ⟨rfl, rfl, Nat.le_of_ble_eq_true rfl, Nat.le_of_ble_eq_true rfl⟩ rfl hl.1 rfl (Nat.le_of_ble_eq_true rfl) ⟨Nat.zero_le _, Nat.zero_le _⟩ dX10_printed_2) (fun r1 pr1 => ?_)
  replace pr1 : (r1.toInt = 1 ∧ 0 ≤ x1.toInt ∧ x1.toInt ≤ 23 ∧ mV (σ, cu, qX (upA a cu ta)) (ix x1.toInt 0) 1) ∨ (r1.toInt = 0 ∧ (x1.toInt < 0 ∨ 23 < x1.toInt ∨ ∃ v : Int32, ¬ v.toInt = 1 ∧ mV (σ, cu, qX (upA a cu ta)) (ix x1.toInt 0) v)) := pr1
  have cr1 := mB pr1 (qX_TI hcu upA_at) hI
  clear pr1
  refine lv_if_eq (tgt := 13) hx hb dX10_printed_5 (by decide) (fun c2 => ?_) (fun c2 => ?_)
  · skip
    have ic2 := tn_eq rfl kI_0 c2
    refine lv_iconst (v := -1) hx hb dX10_printed_13 (by decide) ?_
    exact mc_iretX E hr hlk hG rfl rfl ⟨_, rfl, (by first | assumption | exact ⟨rfl, rfl, fun _ _ _ _ _ => rfl⟩), hI⟩ dX10_printed_14
  · skip
    have ic2 := tn_ne rfl kI_0 c2
    refine lv_iload_n hx hb dX10_printed_8 rfl (lv_at hl 2 rfl) ?_
    refine lv_iconst (v := -1) hx hb dX10_printed_9 (by decide) ?_
    refine lv_icmp_ge (tgt := 15) hx hb dX10_printed_10 (by decide) (fun c3 => ?_) (fun c3 => ?_)
    · skip
      have ic3 := tn_le kI_m1 rfl c3
      refine lv_aload_n hx hb dX10_printed_15 rfl (lv_at hl 0 rfl) ?_
      refine lv_iload_n hx hb dX10_printed_16 rfl (lv_at hl 1 rfl) ?_
      refine mc_callv hG (mc_runV (As := [.int x1]) (rest := []) E hG (c_X10_printsAll l G σ cu a ta h0 x1 t0 (by omega) (by omega) hI) t0 rfl kv_X10_printsAll ml_X10_398 ⟨rfl, rfl, Nat.le_of_ble_eq_true rfl, Nat.le_of_ble_eq_true rfl⟩ rfl hl.1 rfl (Nat.le_of_ble_eq_true rfl) ⟨Nat.zero_le _, Nat.zero_le _⟩ dX10_printed_17) (fun H locs hG => ?_)
      refine lv_iload_n hx hb dX10_printed_20 rfl (lv_at hl 2 rfl) ?_
      refine lv_iconst (v := -1) hx hb dX10_printed_21 (by decide) ?_
      refine lv_icmp_ne (tgt := 32) hx hb dX10_printed_22 (by decide) (fun c5 => ?_) (fun c5 => ?_)
      · skip
        have ic5 := tn_ne rfl kI_m1 c5
        refine lv_iload_n hx hb dX10_printed_32 rfl (lv_at hl 2 rfl) ?_
        refine lv_aload_n hx hb dX10_printed_33 rfl (lv_at hl 0 rfl) ?_
        refine mc_geti E hG t0 mi_389 dX10_printed_34 (fun z6 lz6 uz6 qz6 => ?_)
        refine lv_icmp_ge (tgt := 49) hx hb dX10_printed_37 (by decide) (fun c7 => ?_) (fun c7 => ?_)
        · skip
          have ic7 := tn_le rfl rfl c7
          refine lv_iconst (v := -1) hx hb dX10_printed_49 (by decide) ?_
          exact mc_iretX E hr hlk hG rfl rfl ⟨_, rfl, (by first | assumption | exact ⟨rfl, rfl, fun _ _ _ _ _ => rfl⟩), hI⟩ dX10_printed_50
        · skip
          have ic7 := tn_nle rfl rfl c7
          refine lv_aload_n hx hb dX10_printed_40 rfl (lv_at hl 0 rfl) ?_
          refine mc_getr E hG t0 mr_66 dX10_printed_41 (fun oa8 hoa8 => ?_)
          refine lv_iload_n hx hb dX10_printed_44 rfl (lv_at hl 2 rfl) ?_
          refine mc_iald E hG hoa8 ma_19 (t_in (by omega) (by omega)) dX10_printed_45 (fun z9 lz9 uz9 qz9 => ?_)
          refine lv_goto (tgt := 50) hx hb dX10_printed_46 (by decide) ?_
          exact mc_iretX E hr hlk hG rfl rfl ⟨_, rfl, (by first | assumption | exact ⟨rfl, rfl, fun _ _ _ _ _ => rfl⟩), hI⟩ dX10_printed_50
      · skip
        have ic5 := tn_eq rfl kI_m1 c5
        refine lv_aload_n hx hb dX10_printed_25 rfl (lv_at hl 0 rfl) ?_
        refine mc_geti E hG t0 mi_389 dX10_printed_26 (fun z10 lz10 uz10 qz10 => ?_)
        refine lv_goto (tgt := 50) hx hb dX10_printed_29 (by decide) ?_
        exact mc_iretX E hr hlk hG rfl rfl ⟨_, rfl, (by first | assumption | exact ⟨rfl, rfl, fun _ _ _ _ _ => rfl⟩), hI⟩ dX10_printed_50
    · skip
      have ic3 := tn_nle kI_m1 rfl c3
      refine lv_iconst (v := -1) hx hb dX10_printed_13 (by decide) ?_
      exact mc_iretX E hr hlk hG rfl rfl ⟨_, rfl, (by first | assumption | exact ⟨rfl, rfl, fun _ _ _ _ _ => rfl⟩), hI⟩ dX10_printed_14

