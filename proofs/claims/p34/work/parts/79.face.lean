/-! ===== the reference: tapes, images, questions ===== -/
theorem qnl {σ : Nat → Nat} {cu c : Nat} {a : Nat → Option (Nat → Int32)} (hc : ¬ mCu c) (h : ¬ c = 20 ∧ ¬ c = 17 ∧ ¬ c = 1) : ∀ k, ((σ, cu, qX a) : mY).2.2 c k = none := fun k => qX_nc hc (by omega)
set_option maxHeartbeats 4000000 in
set_option maxRecDepth 100000 in
theorem c_X10_asks (l : Launch) (G : tG) (σ : Nat → Nat) (cu : Nat) (a : Nat → Option (Nat → Int32)) (ta : Nat → Int32) (h0 : Nat) (x1 : Int32) (x2 : Int32) (t0 : σ h0 = 1) (hIa : TInv ta) : Met l yX10_asks (.code yX10_asks cX10_asks 3 (some .int) :: tWS) (tRm 6 142) (va_Pc [.ref h0, .int x1, .int x2] (mPre G (σ, cu, qX (upA a cu ta)))) (mQiX G (σ, cu, qX (upA a cu ta)) (fun r Z => ∃ t : Nat → Int32, Z = (σ, cu, qX (upA a cu t)) ∧ True ∧ TInv t)) 0 0 (mA (σ, cu, qX (upA a cu ta))) := by
  refine mc_met (by decide) (Nat.le_of_ble_eq_true rfl) ?_
  intro p e s m below meth c E hr hlk hG ls hl
  have hl : lv_has ls 3 [(0, .ref h0), (1, .int x1), (2, .int x2)] := hl
  have hx := E.1
  have hb := E.2.1
  obtain ⟨H, eH⟩ : ∃ H, H = s.heap := ⟨_, rfl⟩
  obtain ⟨locs, eL⟩ : ∃ x : List Loc, x = [] := ⟨_, rfl⟩
  have hG : mGH G (σ, cu, qX (upA a cu ta)) s H locs := by rw [eH, eL]; exact hG
  suffices hW : W p l e (tRm 6 142) s m ([.ref h0, .int x1, .int x2] : List Value).toArray below meth c H locs 0 0 (MQ below (mQiX G (σ, cu, qX (upA a cu ta)) (fun r Z => ∃ t : Nat → Int32, Z = (σ, cu, qX (upA a cu t)) ∧ True ∧ TInv t)) ([.ref h0, .int x1, .int x2] : List Value).toArray s 0 0 (mA (σ, cu, qX (upA a cu ta)))) (F0 m 0 ls []) by subst eH; subst eL; exact hW
  clear eH eL
  have hcu : mCu cu := hG.2.2.1
  have hI := hIa
  refine lv_aload_n hx hb dX10_asks_0 rfl (lv_at hl 0 rfl) ?_
  refine lv_iload_n hx hb dX10_asks_1 rfl (lv_at hl 1 rfl) ?_
  refine tc_callp (mc_runV (As := [.int x1]) (rest := []) E hG (c_X10_isBox l G (σ, cu, qX (upA a cu ta)) h0 x1 t0) t0 rfl kv_X10_isBox ml_X10_127 ⟨rfl, rfl, Nat.le_of_ble_eq_true rfl, Nat.le_of_ble_eq_true rfl⟩ rfl hl.1 rfl (Nat.le_of_ble_eq_true rfl) ⟨Nat.zero_le _, Nat.zero_le _⟩ dX10_asks_2) (fun r1 pr1 => ?_)
  replace pr1 : (r1.toInt = 1 ∧ 0 ≤ x1.toInt ∧ x1.toInt ≤ 23 ∧ mV (σ, cu, qX (upA a cu ta)) (ix x1.toInt 0) 1) ∨ (r1.toInt = 0 ∧ (x1.toInt < 0 ∨ 23 < x1.toInt ∨ ∃ v : Int32, ¬ v.toInt = 1 ∧ mV (σ, cu, qX (upA a cu ta)) (ix x1.toInt 0) v)) := pr1
  have cr1 := mB pr1 (qX_TI hcu upA_at) hI
  clear pr1
  refine lv_if_eq (tgt := 27) hx hb dX10_asks_5 (by decide) (fun c2 => ?_) (fun c2 => ?_)
  · skip
    have ic2 := tn_eq rfl kI_0 c2
    refine lv_iconst (v := -1) hx hb dX10_asks_27 (by decide) ?_
    exact mc_iretX E hr hlk hG rfl rfl ⟨_, rfl, trivial, hI⟩ dX10_asks_28
  · skip
    have ic2 := tn_ne rfl kI_0 c2
    refine lv_iload_n hx hb dX10_asks_8 rfl (lv_at hl 2 rfl) ?_
    refine lv_i2l hx hb dX10_asks_9 rfl ?_
    refine lv_topl (fun z3 ez3 => ?_)
    have tz3 := tl_i2l ez3
    refine lv_lconst (v := 0) hx hb dX10_asks_10 (by decide) ?_
    refine lv_topl (fun z4 ez4 => ?_)
    have tz4 : z4.toInt = 0 := by rw [ez4]; decide
    refine lv_lconst (v := 1) hx hb dX10_asks_11 (by decide) ?_
    refine lv_topl (fun z5 ez5 => ?_)
    have tz5 : z5.toInt = 1 := by rw [ez5]; decide
    refine tc_callp (mc_runS (As := [.long z3, .long z4, .long z5]) (rest := []) E hG (c_X10_in l G (σ, cu, qX (upA a cu ta)) z3 z4 z5) ks_X10_in ml_X10_87 ⟨rfl, rfl, Nat.le_of_ble_eq_true rfl, Nat.le_of_ble_eq_true rfl⟩ rfl hl.1 rfl (Nat.le_of_ble_eq_true rfl) ⟨Nat.zero_le _, Nat.zero_le _⟩ dX10_asks_12) (fun r6 pr6 => ?_)
    replace pr6 : ((r6.toInt = 1 ∧ z4.toInt ≤ z3.toInt ∧ z3.toInt ≤ z5.toInt) ∨ (r6.toInt = 0 ∧ (z3.toInt < z4.toInt ∨ z5.toInt < z3.toInt))) := pr6
    refine lv_if_eq (tgt := 27) hx hb dX10_asks_15 (by decide) (fun c7 => ?_) (fun c7 => ?_)
    · skip
      have ic7 := tn_eq rfl kI_0 c7
      refine lv_iconst (v := -1) hx hb dX10_asks_27 (by decide) ?_
      exact mc_iretX E hr hlk hG rfl rfl ⟨_, rfl, trivial, hI⟩ dX10_asks_28
    · skip
      have ic7 := tn_ne rfl kI_0 c7
      refine lv_aload_n hx hb dX10_asks_18 rfl (lv_at hl 0 rfl) ?_
      refine lv_iload_n hx hb dX10_asks_19 rfl (lv_at hl 1 rfl) ?_
      refine lv_iload_n hx hb dX10_asks_20 rfl (lv_at hl 2 rfl) ?_
      refine mc_calli hG (mc_runV (As := [.int x1, .int x2]) (rest := []) E hG (c_X10_asksIt l G σ cu (qX (upA a cu ta)) h0 x1 x2 t0 (by omega) (by omega) (by omega) (by omega) ta (qX_TI hcu upA_at) hI (qX_AV hcu) (by omega)) t0 rfl kv_X10_asksIt ml_X10_206 ⟨rfl, rfl, Nat.le_of_ble_eq_true rfl, Nat.le_of_ble_eq_true rfl⟩ rfl hl.1 rfl (Nat.le_of_ble_eq_true rfl) ⟨Nat.zero_le _, Nat.zero_le _⟩ dX10_asks_21) (fun r8 H locs pr8 hG => ?_)
      refine lv_goto (tgt := 28) hx hb dX10_asks_24 (by decide) ?_
      exact mc_iretX E hr hlk hG rfl rfl ⟨_, rfl, trivial, hI⟩ dX10_asks_28

set_option maxHeartbeats 4000000 in
set_option maxRecDepth 100000 in
theorem c_X10_at (l : Launch) (G : tG) (σ : Nat → Nat) (cu : Nat) (a : Nat → Option (Nat → Int32)) (ta : Nat → Int32) (h0 : Nat) (x1 : Int32) (x2 : Int32) (t0 : σ h0 = 1) (hIa : TInv ta) : Met l yX10_at (.code yX10_at cX10_at 3 (some .int) :: tWS) (tRm 3 70) (va_Pc [.ref h0, .int x1, .int x2] (mPre G (σ, cu, qX (upA a cu ta)))) (mQiX G (σ, cu, qX (upA a cu ta)) (fun r Z => ∃ t : Nat → Int32, Z = (σ, cu, qX (upA a cu t)) ∧ True ∧ TInv t)) 0 0 (mA (σ, cu, qX (upA a cu ta))) := by
  refine mc_met (by decide) (Nat.le_of_ble_eq_true rfl) ?_
  intro p e s m below meth c E hr hlk hG ls hl
  have hl : lv_has ls 3 [(0, .ref h0), (1, .int x1), (2, .int x2)] := hl
  have hx := E.1
  have hb := E.2.1
  obtain ⟨H, eH⟩ : ∃ H, H = s.heap := ⟨_, rfl⟩
  obtain ⟨locs, eL⟩ : ∃ x : List Loc, x = [] := ⟨_, rfl⟩
  have hG : mGH G (σ, cu, qX (upA a cu ta)) s H locs := by rw [eH, eL]; exact hG
  suffices hW : W p l e (tRm 3 70) s m ([.ref h0, .int x1, .int x2] : List Value).toArray below meth c H locs 0 0 (MQ below (mQiX G (σ, cu, qX (upA a cu ta)) (fun r Z => ∃ t : Nat → Int32, Z = (σ, cu, qX (upA a cu t)) ∧ True ∧ TInv t)) ([.ref h0, .int x1, .int x2] : List Value).toArray s 0 0 (mA (σ, cu, qX (upA a cu ta)))) (F0 m 0 ls []) by subst eH; subst eL; exact hW
  clear eH eL
  have hcu : mCu cu := hG.2.2.1
  have hI := hIa
  refine lv_aload_n hx hb dX10_at_0 rfl (lv_at hl 0 rfl) ?_
  refine lv_iload_n hx hb dX10_at_1 rfl (lv_at hl 1 rfl) ?_
  refine tc_callp (mc_runV (As := [.int x1]) (rest := []) E hG (c_X10_isBox l G (σ, cu, qX (upA a cu ta)) h0 x1 t0) t0 rfl kv_X10_isBox ml_X10_127 ⟨rfl, rfl, Nat.le_of_ble_eq_true rfl, Nat.le_of_ble_eq_true rfl⟩ rfl hl.1 rfl (Nat.le_of_ble_eq_true rfl) ⟨Nat.zero_le _, Nat.zero_le _⟩ dX10_at_2) (fun r1 pr1 => ?_)
  replace pr1 : (r1.toInt = 1 ∧ 0 ≤ x1.toInt ∧ x1.toInt ≤ 23 ∧ mV (σ, cu, qX (upA a cu ta)) (ix x1.toInt 0) 1) ∨ (r1.toInt = 0 ∧ (x1.toInt < 0 ∨ 23 < x1.toInt ∨ ∃ v : Int32, ¬ v.toInt = 1 ∧ mV (σ, cu, qX (upA a cu ta)) (ix x1.toInt 0) v)) := pr1
  have cr1 := mB pr1 (qX_TI hcu upA_at) hI
  clear pr1
  refine lv_if_eq (tgt := 20) hx hb dX10_at_5 (by decide) (fun c2 => ?_) (fun c2 => ?_)
  · skip
    have ic2 := tn_eq rfl kI_0 c2
    refine lv_iconst (v := -1) hx hb dX10_at_20 (by decide) ?_
    exact mc_iretX E hr hlk hG rfl rfl ⟨_, rfl, trivial, hI⟩ dX10_at_21
  · skip
    have ic2 := tn_ne rfl kI_0 c2
    refine lv_iload_n hx hb dX10_at_8 rfl (lv_at hl 2 rfl) ?_
    refine lv_i2l hx hb dX10_at_9 rfl ?_
    refine lv_topl (fun z3 ez3 => ?_)
    have tz3 := tl_i2l ez3
    refine lv_lconst (v := 0) hx hb dX10_at_10 (by decide) ?_
    refine lv_topl (fun z4 ez4 => ?_)
    have tz4 : z4.toInt = 0 := by rw [ez4]; decide
    refine lv_ldc2 (v := 8) hx hb E.2.2.2.1 (E.2.2.2.2.1 _ (t_w7 203 rfl rfl)) dX10_at_11 ?_
    refine lv_topl (fun z5 ez5 => ?_)
    have tz5 : z5.toInt = 8 := by rw [ez5]; decide
    refine tc_callp (mc_runS (As := [.long z3, .long z4, .long z5]) (rest := []) E hG (c_X10_in l G (σ, cu, qX (upA a cu ta)) z3 z4 z5) ks_X10_in ml_X10_87 ⟨rfl, rfl, Nat.le_of_ble_eq_true rfl, Nat.le_of_ble_eq_true rfl⟩ rfl hl.1 rfl (Nat.le_of_ble_eq_true rfl) ⟨Nat.zero_le _, Nat.zero_le _⟩ dX10_at_14) (fun r6 pr6 => ?_)
    replace pr6 : ((r6.toInt = 1 ∧ z4.toInt ≤ z3.toInt ∧ z3.toInt ≤ z5.toInt) ∨ (r6.toInt = 0 ∧ (z3.toInt < z4.toInt ∨ z5.toInt < z3.toInt))) := pr6
    refine lv_if_ne (tgt := 22) hx hb dX10_at_17 (by decide) (fun c7 => ?_) (fun c7 => ?_)
    · skip
      have ic7 := tn_ne rfl kI_0 c7
      refine lv_iload_n hx hb dX10_at_22 rfl (lv_at hl 2 rfl) ?_
      refine lv_bipush (v := 8) hx hb dX10_at_23 (by decide) ?_
      refine lv_icmp_ne (tgt := 35) hx hb dX10_at_25 (by decide) (fun c8 => ?_) (fun c8 => ?_)
      · skip
        have ic8 := tn_ne rfl kI_8 c8
        refine lv_aload_n hx hb dX10_at_35 rfl (lv_at hl 0 rfl) ?_
        refine lv_iload_n hx hb dX10_at_36 rfl (lv_at hl 1 rfl) ?_
        refine lv_bipush (v := 25) hx hb dX10_at_37 (by decide) ?_
        refine tc_callp (mc_runV (As := [.int x1, .int 25]) (rest := []) E hG (c_X10_get l G (σ, cu, qX (upA a cu ta)) h0 x1 (25 : Int32) t0 (by omega) (by omega) (by decide) (by decide)) t0 rfl kv_X10_get ml_X10_91 ⟨rfl, rfl, Nat.le_of_ble_eq_true rfl, Nat.le_of_ble_eq_true rfl⟩ rfl hl.1 rfl (Nat.le_of_ble_eq_true rfl) ⟨Nat.zero_le _, Nat.zero_le _⟩ dX10_at_39) (fun r9 pr9 => ?_)
        replace pr9 : mV (σ, cu, qX (upA a cu ta)) (ix x1.toInt (25 : Int32).toInt) r9 := pr9
        have pr9 := mV_l pr9 kI_25
        have br9 := mV_25 pr9 (by omega)
        have k10 := kI_25
        refine lv_if_ne (tgt := 47) hx hb dX10_at_42 (by decide) (fun c11 => ?_) (fun c11 => ?_)
        · skip
          have ic11 := tn_ne rfl kI_0 c11
          refine lv_iload_n hx hb dX10_at_47 rfl (lv_at hl 2 rfl) ?_
          rcases (show (x2.toInt < 0 ∨ 6 < x2.toInt) ∨ x2.toInt = 0 ∨ x2.toInt = 1 ∨ x2.toInt = 2 ∨ x2.toInt = 3 ∨ x2.toInt = 4 ∨ x2.toInt = 5 ∨ x2.toInt = 6 by omega) with k12 | k12 | k12 | k12 | k12 | k12 | k12 | k12
          · refine lv_tableOut (tgt := 134) hx hb dX10_at_48 k12 (by decide) ?_
            refine lv_aload_n hx hb dX10_at_134 rfl (lv_at hl 0 rfl) ?_
            refine lv_iload_n hx hb dX10_at_135 rfl (lv_at hl 1 rfl) ?_
            refine lv_bipush (v := 35) hx hb dX10_at_136 (by decide) ?_
            refine tc_callp (mc_runV (As := [.int x1, .int 35]) (rest := []) E hG (c_X10_get l G (σ, cu, qX (upA a cu ta)) h0 x1 (35 : Int32) t0 (by omega) (by omega) (by decide) (by decide)) t0 rfl kv_X10_get ml_X10_91 ⟨rfl, rfl, Nat.le_of_ble_eq_true rfl, Nat.le_of_ble_eq_true rfl⟩ rfl hl.1 rfl (Nat.le_of_ble_eq_true rfl) ⟨Nat.zero_le _, Nat.zero_le _⟩ dX10_at_138) (fun r13 pr13 => ?_)
            replace pr13 : mV (σ, cu, qX (upA a cu ta)) (ix x1.toInt (35 : Int32).toInt) r13 := pr13
            have pr13 := mV_l pr13 kI_35
            have k14 := kI_35
            exact mc_iretX E hr hlk hG rfl rfl ⟨_, rfl, trivial, hI⟩ dX10_at_141
          · refine lv_tableIn (off := 44) (tgt := 92) hx hb dX10_at_48 (by rw [k12]; decide) (by rw [k12]; decide) (by rw [k12]; rfl) (by decide) ?_
            refine lv_aload_n hx hb dX10_at_92 rfl (lv_at hl 0 rfl) ?_
            refine lv_iload_n hx hb dX10_at_93 rfl (lv_at hl 1 rfl) ?_
            refine lv_bipush (v := 30) hx hb dX10_at_94 (by decide) ?_
            refine lv_iload_n hx hb dX10_at_96 rfl (lv_at hl 2 rfl) ?_
            refine lv_iadd hx hb dX10_at_97 ?_
            refine lv_topi (fun z15 ez15 => ?_)
            have tz15 := tn_add ez15 kI_30 rfl (by omega) (by omega)
            refine tc_callp (mc_runV (As := [.int x1, .int z15]) (rest := []) E hG (c_X10_get l G (σ, cu, qX (upA a cu ta)) h0 x1 z15 t0 (by omega) (by omega) (by omega) (by omega)) t0 rfl kv_X10_get ml_X10_91 ⟨rfl, rfl, Nat.le_of_ble_eq_true rfl, Nat.le_of_ble_eq_true rfl⟩ rfl hl.1 rfl (Nat.le_of_ble_eq_true rfl) ⟨Nat.zero_le _, Nat.zero_le _⟩ dX10_at_98) (fun r16 pr16 => ?_)
            replace pr16 : mV (σ, cu, qX (upA a cu ta)) (ix x1.toInt z15.toInt) r16 := pr16
            exact mc_iretX E hr hlk hG rfl rfl ⟨_, rfl, trivial, hI⟩ dX10_at_101
          · refine lv_tableIn (off := 44) (tgt := 92) hx hb dX10_at_48 (by rw [k12]; decide) (by rw [k12]; decide) (by rw [k12]; rfl) (by decide) ?_
            refine lv_aload_n hx hb dX10_at_92 rfl (lv_at hl 0 rfl) ?_
            refine lv_iload_n hx hb dX10_at_93 rfl (lv_at hl 1 rfl) ?_
            refine lv_bipush (v := 30) hx hb dX10_at_94 (by decide) ?_
            refine lv_iload_n hx hb dX10_at_96 rfl (lv_at hl 2 rfl) ?_
            refine lv_iadd hx hb dX10_at_97 ?_
            refine lv_topi (fun z17 ez17 => ?_)
            have tz17 := tn_add ez17 kI_30 rfl (by omega) (by omega)
            refine tc_callp (mc_runV (As := [.int x1, .int z17]) (rest := []) E hG (c_X10_get l G (σ, cu, qX (upA a cu ta)) h0 x1 z17 t0 (by omega) (by omega) (by omega) (by omega)) t0 rfl kv_X10_get ml_X10_91 ⟨rfl, rfl, Nat.le_of_ble_eq_true rfl, Nat.le_of_ble_eq_true rfl⟩ rfl hl.1 rfl (Nat.le_of_ble_eq_true rfl) ⟨Nat.zero_le _, Nat.zero_le _⟩ dX10_at_98) (fun r18 pr18 => ?_)
            replace pr18 : mV (σ, cu, qX (upA a cu ta)) (ix x1.toInt z17.toInt) r18 := pr18
            exact mc_iretX E hr hlk hG rfl rfl ⟨_, rfl, trivial, hI⟩ dX10_at_101
          · refine lv_tableIn (off := 54) (tgt := 102) hx hb dX10_at_48 (by rw [k12]; decide) (by rw [k12]; decide) (by rw [k12]; rfl) (by decide) ?_
            refine lv_aload_n hx hb dX10_at_102 rfl (lv_at hl 0 rfl) ?_
            refine lv_iload_n hx hb dX10_at_103 rfl (lv_at hl 1 rfl) ?_
            refine lv_bipush (v := 30) hx hb dX10_at_104 (by decide) ?_
            refine lv_iload_n hx hb dX10_at_106 rfl (lv_at hl 2 rfl) ?_
            refine lv_iadd hx hb dX10_at_107 ?_
            refine lv_topi (fun z19 ez19 => ?_)
            have tz19 := tn_add ez19 kI_30 rfl (by omega) (by omega)
            refine lv_iconst (v := 2) hx hb dX10_at_108 (by decide) ?_
            refine lv_isub hx hb dX10_at_109 ?_
            refine lv_topi (fun z20 ez20 => ?_)
            have tz20 := tn_sub ez20 rfl kI_2 (by omega) (by omega)
            refine tc_callp (mc_runV (As := [.int x1, .int z20]) (rest := []) E hG (c_X10_inTop l G (σ, cu, qX (upA a cu ta)) h0 x1 z20 t0 (by omega) (by omega) (by omega) (by omega) ta (qX_TI hcu upA_at) hI (by omega)) t0 rfl kv_X10_inTop ml_X10_329 ⟨rfl, rfl, Nat.le_of_ble_eq_true rfl, Nat.le_of_ble_eq_true rfl⟩ rfl hl.1 rfl (Nat.le_of_ble_eq_true rfl) ⟨Nat.zero_le _, Nat.zero_le _⟩ dX10_at_110) (fun r21 pr21 => ?_)
            exact mc_iretX E hr hlk hG rfl rfl ⟨_, rfl, trivial, hI⟩ dX10_at_113
          · refine lv_tableIn (off := 54) (tgt := 102) hx hb dX10_at_48 (by rw [k12]; decide) (by rw [k12]; decide) (by rw [k12]; rfl) (by decide) ?_
            refine lv_aload_n hx hb dX10_at_102 rfl (lv_at hl 0 rfl) ?_
            refine lv_iload_n hx hb dX10_at_103 rfl (lv_at hl 1 rfl) ?_
            refine lv_bipush (v := 30) hx hb dX10_at_104 (by decide) ?_
            refine lv_iload_n hx hb dX10_at_106 rfl (lv_at hl 2 rfl) ?_
            refine lv_iadd hx hb dX10_at_107 ?_
            refine lv_topi (fun z22 ez22 => ?_)
            have tz22 := tn_add ez22 kI_30 rfl (by omega) (by omega)
            refine lv_iconst (v := 2) hx hb dX10_at_108 (by decide) ?_
            refine lv_isub hx hb dX10_at_109 ?_
            refine lv_topi (fun z23 ez23 => ?_)
            have tz23 := tn_sub ez23 rfl kI_2 (by omega) (by omega)
            refine tc_callp (mc_runV (As := [.int x1, .int z23]) (rest := []) E hG (c_X10_inTop l G (σ, cu, qX (upA a cu ta)) h0 x1 z23 t0 (by omega) (by omega) (by omega) (by omega) ta (qX_TI hcu upA_at) hI (by omega)) t0 rfl kv_X10_inTop ml_X10_329 ⟨rfl, rfl, Nat.le_of_ble_eq_true rfl, Nat.le_of_ble_eq_true rfl⟩ rfl hl.1 rfl (Nat.le_of_ble_eq_true rfl) ⟨Nat.zero_le _, Nat.zero_le _⟩ dX10_at_110) (fun r24 pr24 => ?_)
            exact mc_iretX E hr hlk hG rfl rfl ⟨_, rfl, trivial, hI⟩ dX10_at_113
          · refine lv_tableIn (off := 66) (tgt := 114) hx hb dX10_at_48 (by rw [k12]; decide) (by rw [k12]; decide) (by rw [k12]; rfl) (by decide) ?_
            refine lv_aload_n hx hb dX10_at_114 rfl (lv_at hl 0 rfl) ?_
            refine lv_iload_n hx hb dX10_at_115 rfl (lv_at hl 1 rfl) ?_
            refine lv_bipush (v := 32) hx hb dX10_at_116 (by decide) ?_
            refine lv_iload_n hx hb dX10_at_118 rfl (lv_at hl 2 rfl) ?_
            refine lv_iadd hx hb dX10_at_119 ?_
            refine lv_topi (fun z25 ez25 => ?_)
            have tz25 := tn_add ez25 kI_32 rfl (by omega) (by omega)
            refine lv_iconst (v := 4) hx hb dX10_at_120 (by decide) ?_
            refine lv_isub hx hb dX10_at_121 ?_
            refine lv_topi (fun z26 ez26 => ?_)
            have tz26 := tn_sub ez26 rfl kI_4 (by omega) (by omega)
            refine tc_callp (mc_runV (As := [.int x1, .int z26]) (rest := []) E hG (c_X10_get l G (σ, cu, qX (upA a cu ta)) h0 x1 z26 t0 (by omega) (by omega) (by omega) (by omega)) t0 rfl kv_X10_get ml_X10_91 ⟨rfl, rfl, Nat.le_of_ble_eq_true rfl, Nat.le_of_ble_eq_true rfl⟩ rfl hl.1 rfl (Nat.le_of_ble_eq_true rfl) ⟨Nat.zero_le _, Nat.zero_le _⟩ dX10_at_122) (fun r27 pr27 => ?_)
            replace pr27 : mV (σ, cu, qX (upA a cu ta)) (ix x1.toInt z26.toInt) r27 := pr27
            have br27 := mV_r 32 32 (0) (1000) pr27 (by omega) (by omega) (by omega) (by decide) (by decide)
            exact mc_iretX E hr hlk hG rfl rfl ⟨_, rfl, trivial, hI⟩ dX10_at_125
          · refine lv_tableIn (off := 66) (tgt := 114) hx hb dX10_at_48 (by rw [k12]; decide) (by rw [k12]; decide) (by rw [k12]; rfl) (by decide) ?_
            refine lv_aload_n hx hb dX10_at_114 rfl (lv_at hl 0 rfl) ?_
            refine lv_iload_n hx hb dX10_at_115 rfl (lv_at hl 1 rfl) ?_
            refine lv_bipush (v := 32) hx hb dX10_at_116 (by decide) ?_
            refine lv_iload_n hx hb dX10_at_118 rfl (lv_at hl 2 rfl) ?_
            refine lv_iadd hx hb dX10_at_119 ?_
            refine lv_topi (fun z28 ez28 => ?_)
            have tz28 := tn_add ez28 kI_32 rfl (by omega) (by omega)
            refine lv_iconst (v := 4) hx hb dX10_at_120 (by decide) ?_
            refine lv_isub hx hb dX10_at_121 ?_
            refine lv_topi (fun z29 ez29 => ?_)
            have tz29 := tn_sub ez29 rfl kI_4 (by omega) (by omega)
            refine tc_callp (mc_runV (As := [.int x1, .int z29]) (rest := []) E hG (c_X10_get l G (σ, cu, qX (upA a cu ta)) h0 x1 z29 t0 (by omega) (by omega) (by omega) (by omega)) t0 rfl kv_X10_get ml_X10_91 ⟨rfl, rfl, Nat.le_of_ble_eq_true rfl, Nat.le_of_ble_eq_true rfl⟩ rfl hl.1 rfl (Nat.le_of_ble_eq_true rfl) ⟨Nat.zero_le _, Nat.zero_le _⟩ dX10_at_122) (fun r30 pr30 => ?_)
            replace pr30 : mV (σ, cu, qX (upA a cu ta)) (ix x1.toInt z29.toInt) r30 := pr30
            have br30 := mV_r 33 33 (0) (1000) pr30 (by omega) (by omega) (by omega) (by decide) (by decide)
            exact mc_iretX E hr hlk hG rfl rfl ⟨_, rfl, trivial, hI⟩ dX10_at_125
          · refine lv_tableIn (off := 78) (tgt := 126) hx hb dX10_at_48 (by rw [k12]; decide) (by rw [k12]; decide) (by rw [k12]; rfl) (by decide) ?_
            refine lv_aload_n hx hb dX10_at_126 rfl (lv_at hl 0 rfl) ?_
            refine lv_iload_n hx hb dX10_at_127 rfl (lv_at hl 1 rfl) ?_
            refine lv_bipush (v := 34) hx hb dX10_at_128 (by decide) ?_
            refine tc_callp (mc_runV (As := [.int x1, .int 34]) (rest := []) E hG (c_X10_get l G (σ, cu, qX (upA a cu ta)) h0 x1 (34 : Int32) t0 (by omega) (by omega) (by decide) (by decide)) t0 rfl kv_X10_get ml_X10_91 ⟨rfl, rfl, Nat.le_of_ble_eq_true rfl, Nat.le_of_ble_eq_true rfl⟩ rfl hl.1 rfl (Nat.le_of_ble_eq_true rfl) ⟨Nat.zero_le _, Nat.zero_le _⟩ dX10_at_130) (fun r31 pr31 => ?_)
            replace pr31 : mV (σ, cu, qX (upA a cu ta)) (ix x1.toInt (34 : Int32).toInt) r31 := pr31
            have pr31 := mV_l pr31 kI_34
            have k32 := kI_34
            exact mc_iretX E hr hlk hG rfl rfl ⟨_, rfl, trivial, hI⟩ dX10_at_133
        · skip
          have ic11 := tn_eq rfl kI_0 c11
          refine lv_iconst (v := 0) hx hb dX10_at_45 (by decide) ?_
          exact mc_iretX E hr hlk hG rfl rfl ⟨_, rfl, trivial, hI⟩ dX10_at_46
      · skip
        have ic8 := tn_eq rfl kI_8 c8
        refine lv_aload_n hx hb dX10_at_28 rfl (lv_at hl 0 rfl) ?_
        refine lv_iload_n hx hb dX10_at_29 rfl (lv_at hl 1 rfl) ?_
        refine lv_iconst (v := 0) hx hb dX10_at_30 (by decide) ?_
        refine mc_calli hG (mc_runV (As := [.int x1, .int 0]) (rest := []) E hG (c_X10_baseOf l G σ cu (qX (upA a cu ta)) h0 x1 (0 : Int32) t0 (by omega) (by omega) (by decide) (by decide) ta (qX_TI hcu upA_at) hI (qX_AV hcu)) t0 rfl kv_X10_baseOf ml_X10_283 ⟨rfl, rfl, Nat.le_of_ble_eq_true rfl, Nat.le_of_ble_eq_true rfl⟩ rfl hl.1 rfl (Nat.le_of_ble_eq_true rfl) ⟨Nat.zero_le _, Nat.zero_le _⟩ dX10_at_31) (fun r33 H locs pr33 hG => ?_)
        exact mc_iretX E hr hlk hG rfl rfl ⟨_, rfl, trivial, hI⟩ dX10_at_34
    · skip
      have ic7 := tn_eq rfl kI_0 c7
      refine lv_iconst (v := -1) hx hb dX10_at_20 (by decide) ?_
      exact mc_iretX E hr hlk hG rfl rfl ⟨_, rfl, trivial, hI⟩ dX10_at_21

set_option maxHeartbeats 4000000 in
set_option maxRecDepth 100000 in
theorem c_X10_lays (l : Launch) (G : tG) (σ : Nat → Nat) (cu : Nat) (a : Nat → Option (Nat → Int32)) (ta : Nat → Int32) (h0 : Nat) (t0 : σ h0 = 1) (hIa : TInv ta) : Met l yX10_lays (.code yX10_lays cX10_lays 1 (some .int) :: tWS) (tRm 9 208) (va_Pc [.ref h0] (mPre G (σ, cu, qX (upA a cu ta)))) (mQiX G (σ, cu, qX (upA a cu ta)) (fun r Z => ∃ t : Nat → Int32, Z = (σ, cu, qX (upA a cu t)) ∧ True ∧ TInv t)) 0 0 (mA (σ, cu, qX (upA a cu ta))) := by
  refine mc_met (by decide) (Nat.le_of_ble_eq_true rfl) ?_
  intro p e s m below meth c E hr hlk hG ls hl
  have hl : lv_has ls 1 [(0, .ref h0)] := hl
  have hx := E.1
  have hb := E.2.1
  obtain ⟨H, eH⟩ : ∃ H, H = s.heap := ⟨_, rfl⟩
  obtain ⟨locs, eL⟩ : ∃ x : List Loc, x = [] := ⟨_, rfl⟩
  have hG : mGH G (σ, cu, qX (upA a cu ta)) s H locs := by rw [eH, eL]; exact hG
  suffices hW : W p l e (tRm 9 208) s m ([.ref h0] : List Value).toArray below meth c H locs 0 0 (MQ below (mQiX G (σ, cu, qX (upA a cu ta)) (fun r Z => ∃ t : Nat → Int32, Z = (σ, cu, qX (upA a cu t)) ∧ True ∧ TInv t)) ([.ref h0] : List Value).toArray s 0 0 (mA (σ, cu, qX (upA a cu ta)))) (F0 m 0 ls []) by subst eH; subst eL; exact hW
  clear eH eL
  have hcu : mCu cu := hG.2.2.1
  have hI := hIa
  refine lv_aload_n hx hb dX10_lays_0 rfl (lv_at hl 0 rfl) ?_
  refine mc_callvX hG (mc_runV (As := []) (rest := []) E hG (c_X10_layOut l G σ cu a ta h0 t0 hI) t0 rfl kv_X10_layOut ml_X10_318 ⟨rfl, rfl, Nat.le_of_ble_eq_true rfl, Nat.le_of_ble_eq_true rfl⟩ rfl hl.1 rfl (Nat.le_of_ble_eq_true rfl) ⟨Nat.zero_le _, Nat.zero_le _⟩ dX10_lays_1) (fun Z H locs eZ pZ hG => ?_)
  obtain ⟨t2, rfl, pt2, hI⟩ := pZ
  clear eZ
  have h3n : (t2 3).toInt = (ta 3).toInt := by rw [pt2.2.1]
  have h0n : (t2 0).toInt = (ta 0).toInt := by rw [pt2.1]
  refine lv_aload_n hx hb dX10_lays_4 rfl (lv_at hl 0 rfl) ?_
  refine lv_aload_n hx hb dX10_lays_5 rfl (lv_at hl 0 rfl) ?_
  refine mc_geti E hG t0 mi_215 dX10_lays_6 (fun z3 lz3 uz3 qz3 => ?_)
  refine mc_put E hG t0 mp_321 (qn (by unfold mCu; decide) (by decide)) (t_any1 _) (t_any2 _) rfl rfl dX10_lays_9 (fun H locs hG => ?_)
  refine lv_aload_n hx hb dX10_lays_12 rfl (lv_at hl 0 rfl) ?_
  refine lv_aload_n hx hb dX10_lays_13 rfl (lv_at hl 0 rfl) ?_
  refine mc_geti E hG t0 mi_212 dX10_lays_14 (fun z4 lz4 uz4 qz4 => ?_)
  refine mc_put E hG t0 mp_324 (qn (by unfold mCu; decide) (by decide)) (t_any1 _) (t_any2 _) rfl rfl dX10_lays_17 (fun H locs hG => ?_)
  refine lv_aload_n hx hb dX10_lays_20 rfl (lv_at hl 0 rfl) ?_
  refine mc_geti E hG t0 mi_215 dX10_lays_21 (fun z5 lz5 uz5 qz5 => ?_)
  exact mc_iretX E hr hlk hG rfl rfl ⟨_, rfl, trivial, hI⟩ dX10_lays_24

set_option maxHeartbeats 4000000 in
set_option maxRecDepth 100000 in
theorem c_X10_image (l : Launch) (G : tG) (σ : Nat → Nat) (a : Nat → Option (Nat → Int32)) (ta : Nat → Int32) (h0 : Nat) (t0 : σ h0 = 1) (ha : a 2 = some ta) : Met l yX10_image (.code yX10_image cX10_image 1 (some .int) :: tWS) (tRm 3 68) (va_Pc [.ref h0] (mPre G (σ, 2, qX a))) (mQiX G (σ, 2, qX a) (fun r Z => Z = (σ, 2, qX (upA a 3 ta)))) 0 0 (mA (σ, 2, qX a)) := by
  refine mc_met (by decide) (Nat.le_of_ble_eq_true rfl) ?_
  intro p e s m below meth c E hr hlk hG ls hl
  have hl : lv_has ls 1 [(0, .ref h0)] := hl
  have hx := E.1
  have hb := E.2.1
  obtain ⟨H, eH⟩ : ∃ H, H = s.heap := ⟨_, rfl⟩
  obtain ⟨locs, eL⟩ : ∃ x : List Loc, x = [] := ⟨_, rfl⟩
  have hG : mGH G (σ, 2, qX a) s H locs := by rw [eH, eL]; exact hG
  suffices hW : W p l e (tRm 3 68) s m ([.ref h0] : List Value).toArray below meth c H locs 0 0 (MQ below (mQiX G (σ, 2, qX a) (fun r Z => Z = (σ, 2, qX (upA a 3 ta)))) ([.ref h0] : List Value).toArray s 0 0 (mA (σ, 2, qX a))) (F0 m 0 ls []) by subst eH; subst eL; exact hW
  clear eH eL
  have hcu : mCu 2 := mu_2
  refine lv_aload_n hx hb dX10_image_0 rfl (lv_at hl 0 rfl) ?_
  refine lv_iconst (v := 1) hx hb dX10_image_1 (by decide) ?_
  refine mc_put E hG t0 mp_449 (qn (by unfold mCu; decide) (by decide)) (by decide) (by decide) (t_nz (by decide) (by decide)).1 (t_nz (by decide) (by decide)).2 dX10_image_2 (fun H locs hG => ?_)
  refine lv_aload_n hx hb dX10_image_5 rfl (lv_at hl 0 rfl) ?_
  refine mc_getn E hG t0 ff_X10_9 dX10_image_6 (fun oa1 hoa1 => ?_)
  refine lv_aload_n hx hb dX10_image_9 rfl (lv_at hl 0 rfl) ?_
  refine mc_getr E hG t0 mr_18 dX10_image_10 (fun oa2 hoa2 => ?_)
  refine mc_callvX hG (mc_runS (As := [.ref oa1, .ref oa2]) (rest := []) E hG (c_X10_copies l G σ 2 a 2 3 ta oa1 oa2 hoa1 hoa2 mu_2 mu_3 (by decide) ha) ks_X10_copies ml_X10_401 ⟨rfl, rfl, Nat.le_of_ble_eq_true rfl, Nat.le_of_ble_eq_true rfl⟩ rfl hl.1 rfl (Nat.le_of_ble_eq_true rfl) ⟨Nat.zero_le _, Nat.zero_le _⟩ dX10_image_13) (fun Z H locs eZ pZ hG => ?_)
  subst pZ
  clear eZ
  refine lv_aload_n hx hb dX10_image_16 rfl (lv_at hl 0 rfl) ?_
  refine tc_callp (mc_runV (As := []) (rest := []) E hG (c_X10_many l G (σ, 2, qX (upA a 3 ta)) h0 t0) t0 rfl kv_X10_many ml_X10_405 ⟨rfl, rfl, Nat.le_of_ble_eq_true rfl, Nat.le_of_ble_eq_true rfl⟩ rfl hl.1 rfl (Nat.le_of_ble_eq_true rfl) ⟨Nat.zero_le _, Nat.zero_le _⟩ dX10_image_17) (fun r3 pr3 => ?_)
  exact mc_iretX E hr hlk hG rfl rfl rfl dX10_image_20

set_option maxHeartbeats 4000000 in
set_option maxRecDepth 100000 in
theorem c_X10_undo (l : Launch) (G : tG) (σ : Nat → Nat) (a : Nat → Option (Nat → Int32)) (u : Nat → Int32) (h0 : Nat) (t0 : σ h0 = 1) (h3 : a 3 = some u) : Met l yX10_undo (.code yX10_undo cX10_undo 1 (some .int) :: tWS) (tRm 3 68) (va_Pc [.ref h0] (mPre G (σ, 2, qX a))) (mQiX G (σ, 2, qX a) (fun r Z => Z = (σ, 2, qX a) ∨ Z = (σ, 2, qX (upA a 2 u)))) 0 0 (mA (σ, 2, qX a)) := by
  refine mc_met (by decide) (Nat.le_of_ble_eq_true rfl) ?_
  intro p e s m below meth c E hr hlk hG ls hl
  have hl : lv_has ls 1 [(0, .ref h0)] := hl
  have hx := E.1
  have hb := E.2.1
  obtain ⟨H, eH⟩ : ∃ H, H = s.heap := ⟨_, rfl⟩
  obtain ⟨locs, eL⟩ : ∃ x : List Loc, x = [] := ⟨_, rfl⟩
  have hG : mGH G (σ, 2, qX a) s H locs := by rw [eH, eL]; exact hG
  suffices hW : W p l e (tRm 3 68) s m ([.ref h0] : List Value).toArray below meth c H locs 0 0 (MQ below (mQiX G (σ, 2, qX a) (fun r Z => Z = (σ, 2, qX a) ∨ Z = (σ, 2, qX (upA a 2 u)))) ([.ref h0] : List Value).toArray s 0 0 (mA (σ, 2, qX a))) (F0 m 0 ls []) by subst eH; subst eL; exact hW
  clear eH eL
  have hcu : mCu 2 := mu_2
  refine lv_aload_n hx hb dX10_undo_0 rfl (lv_at hl 0 rfl) ?_
  refine mc_geti E hG t0 mi_449 dX10_undo_1 (fun z1 lz1 uz1 qz1 => ?_)
  refine lv_if_ne (tgt := 10) hx hb dX10_undo_4 (by decide) (fun c2 => ?_) (fun c2 => ?_)
  · skip
    have ic2 := tn_ne rfl kI_0 c2
    refine lv_aload_n hx hb dX10_undo_10 rfl (lv_at hl 0 rfl) ?_
    refine mc_getr E hG t0 mr_18 dX10_undo_11 (fun oa3 hoa3 => ?_)
    refine lv_aload_n hx hb dX10_undo_14 rfl (lv_at hl 0 rfl) ?_
    refine mc_getn E hG t0 ff_X10_9 dX10_undo_15 (fun oa4 hoa4 => ?_)
    refine mc_callvX hG (mc_runS (As := [.ref oa3, .ref oa4]) (rest := []) E hG (c_X10_copies l G σ 2 a 3 2 u oa3 oa4 hoa3 hoa4 mu_3 mu_2 (by decide) h3) ks_X10_copies ml_X10_401 ⟨rfl, rfl, Nat.le_of_ble_eq_true rfl, Nat.le_of_ble_eq_true rfl⟩ rfl hl.1 rfl (Nat.le_of_ble_eq_true rfl) ⟨Nat.zero_le _, Nat.zero_le _⟩ dX10_undo_18) (fun Z H locs eZ pZ hG => ?_)
    subst pZ
    clear eZ
    refine lv_aload_n hx hb dX10_undo_21 rfl (lv_at hl 0 rfl) ?_
    refine tc_callp (mc_runV (As := []) (rest := []) E hG (c_X10_many l G (σ, 2, qX (upA a 2 u)) h0 t0) t0 rfl kv_X10_many ml_X10_405 ⟨rfl, rfl, Nat.le_of_ble_eq_true rfl, Nat.le_of_ble_eq_true rfl⟩ rfl hl.1 rfl (Nat.le_of_ble_eq_true rfl) ⟨Nat.zero_le _, Nat.zero_le _⟩ dX10_undo_22) (fun r5 pr5 => ?_)
    exact mc_iretX E hr hlk hG rfl rfl (Or.inr rfl) dX10_undo_25
  · skip
    have ic2 := tn_eq rfl kI_0 c2
    refine lv_bipush (v := -3) hx hb dX10_undo_7 (by decide) ?_
    exact mc_iretX E hr hlk hG rfl rfl (Or.inl rfl) dX10_undo_9

