/-! ===== the reference: thoughts ===== -/
set_option maxHeartbeats 4000000 in
set_option maxRecDepth 100000 in
theorem c_X10_tall (l : Launch) (G : tG) (σ : Nat → Nat) (a : Nat → Option (Nat → Int32)) (ta : Nat → Int32) (h0 : Nat) (x1 : Int32) (t0 : σ h0 = 1) (ha : a 2 = some ta) (hIa : TInv ta) : Met l yX10_tall (.code yX10_tall cX10_tall 3 (some .int) :: tWS) (tRm 10 228) (va_Pc [.ref h0, .int x1] (mPre G (σ, 2, qX a))) (mQiX G (σ, 2, qX a) (fun r Z => ∃ A : Nat → Option (Nat → Int32), Z = (σ, 2, qX A) ∧ A 2 = some ta ∧ A 3 = a 3)) 0 0 (mA (σ, 2, qX a)) := by
  refine mc_met (by decide) (Nat.le_of_ble_eq_true rfl) ?_
  intro p e s m below meth c E hr hlk hG ls hl
  have hl : lv_has ls 3 [(0, .ref h0), (1, .int x1)] := hl
  have hx := E.1
  have hb := E.2.1
  obtain ⟨H, eH⟩ : ∃ H, H = s.heap := ⟨_, rfl⟩
  obtain ⟨locs, eL⟩ : ∃ x : List Loc, x = [] := ⟨_, rfl⟩
  have hG : mGH G (σ, 2, qX a) s H locs := by rw [eH, eL]; exact hG
  suffices hW : W p l e (tRm 10 228) s m ([.ref h0, .int x1] : List Value).toArray below meth c H locs 0 0 (MQ below (mQiX G (σ, 2, qX a) (fun r Z => ∃ A : Nat → Option (Nat → Int32), Z = (σ, 2, qX A) ∧ A 2 = some ta ∧ A 3 = a 3)) ([.ref h0, .int x1] : List Value).toArray s 0 0 (mA (σ, 2, qX a))) (F0 m 0 ls []) by subst eH; subst eL; exact hW
  clear eH eL
  have hA2 := ha
  have hA3 : a 3 = a 3 := rfl
  have hI := hIa
  have hcu := mu_2
  have hT2 : A2 ta ta := A2.refl
  refine lv_iload_n hx hb dX10_tall_0 rfl (lv_at hl 1 rfl) ?_
  refine lv_i2l hx hb dX10_tall_1 rfl ?_
  refine lv_topl (fun z1 ez1 => ?_)
  have tz1 := tl_i2l ez1
  refine lv_lconst (v := 0) hx hb dX10_tall_2 (by decide) ?_
  refine lv_topl (fun z2 ez2 => ?_)
  have tz2 : z2.toInt = 0 := by rw [ez2]; decide
  refine lv_ldc2 (v := 200) hx hb E.2.2.2.1 (E.2.2.2.2.1 _ (t_w7 15 rfl rfl)) dX10_tall_3 ?_
  refine lv_topl (fun z3 ez3 => ?_)
  have tz3 : z3.toInt = 200 := by rw [ez3]; decide
  refine tc_callp (mc_runS (As := [.long z1, .long z2, .long z3]) (rest := []) E hG (c_X10_in l G (σ, 2, qX a) z1 z2 z3) ks_X10_in ml_X10_87 ⟨rfl, rfl, Nat.le_of_ble_eq_true rfl, Nat.le_of_ble_eq_true rfl⟩ rfl hl.1 rfl (Nat.le_of_ble_eq_true rfl) ⟨Nat.zero_le _, Nat.zero_le _⟩ dX10_tall_6) (fun r4 pr4 => ?_)
  replace pr4 : ((r4.toInt = 1 ∧ z2.toInt ≤ z1.toInt ∧ z1.toInt ≤ z3.toInt) ∨ (r4.toInt = 0 ∧ (z1.toInt < z2.toInt ∨ z3.toInt < z1.toInt))) := pr4
  refine lv_if_ne (tgt := 15) hx hb dX10_tall_9 (by decide) (fun c5 => ?_) (fun c5 => ?_)
  · skip
    have ic5 := tn_ne rfl kI_0 c5
    refine lv_aload_n hx hb dX10_tall_15 rfl (lv_at hl 0 rfl) ?_
    refine tc_callp (mc_runV (As := []) (rest := []) E hG (c_X10_isFull l G (σ, 2, qX a) h0 t0) t0 rfl kv_X10_isFull ml_X10_409 ⟨rfl, rfl, Nat.le_of_ble_eq_true rfl, Nat.le_of_ble_eq_true rfl⟩ rfl hl.1 rfl (Nat.le_of_ble_eq_true rfl) ⟨Nat.zero_le _, Nat.zero_le _⟩ dX10_tall_16) (fun r6 pr6 => ?_)
    replace pr6 : 0 ≤ r6.toInt ∧ r6.toInt ≤ 1 := pr6
    refine lv_if_eq (tgt := 25) hx hb dX10_tall_19 (by decide) (fun c7 => ?_) (fun c7 => ?_)
    · skip
      have ic7 := tn_eq rfl kI_0 c7
      refine lv_aload_n hx hb dX10_tall_25 rfl (lv_at hl 0 rfl) ?_
      refine mc_getn E hG t0 ff_X10_9 dX10_tall_26 (fun oa8 hoa8 => ?_)
      refine lv_iconst (v := 0) hx hb dX10_tall_29 (by decide) ?_
      refine mc_nald E hG hoa8 hG.2.2.1 (t_in (by decide) (by decide)) dX10_tall_30 (fun z9 lz9 uz9 qz9 => ?_)
      have lz9 : -1 ≤ z9.toInt := lz9
      have uz9 : z9.toInt ≤ 23 := uz9
      have wz9 : z9 = ta 0 := qz9 _ (qX_at (k := 0) mu_2 hA2 rfl)
      have cz9 : z9.toInt = (ta 0).toInt := by rw [wz9]
      refine lv_if_ge (tgt := 37) hx hb dX10_tall_31 (by decide) (fun c10 => ?_) (fun c10 => ?_)
      · skip
        have ic10 := tn_le kI_0 rfl c10
        refine lv_aload_n hx hb dX10_tall_37 rfl (lv_at hl 0 rfl) ?_
        refine lv_aload_n hx hb dX10_tall_38 rfl (lv_at hl 0 rfl) ?_
        refine mc_getr E hG t0 mr_21 dX10_tall_39 (fun oa11 hoa11 => ?_)
        refine mc_callvX hG (mc_runV (As := [.ref oa11]) (rest := []) E hG (c_X10_thinks l G σ 2 a 4 ta h0 oa11 t0 hoa11 mu_4 (by decide) hA2) t0 rfl kv_X10_thinks ml_X10_412 ⟨rfl, rfl, Nat.le_of_ble_eq_true rfl, Nat.le_of_ble_eq_true rfl⟩ rfl hl.1 rfl (Nat.le_of_ble_eq_true rfl) ⟨Nat.zero_le _, Nat.zero_le _⟩ dX10_tall_42) (fun Z H locs eZ pZ hG => ?_)
        subst pZ
        clear eZ
        have hI := hIa
        have hT2 : A2 ta ta := A2.refl
        have hcu := mu_4
        refine lv_aload_n hx hb dX10_tall_45 rfl (lv_at hl 0 rfl) ?_
        refine lv_iload_n hx hb dX10_tall_46 rfl (lv_at hl 1 rfl) ?_
        refine lv_sipush (v := 1000) hx hb dX10_tall_47 (by decide) ?_
        refine mc_callvX hG (mc_runV (As := [.int x1, .int 1000]) (rest := []) E hG (c_X10_screens l G σ 4 a ta h0 x1 (1000 : Int32) t0 (by omega) (by omega) (by decide) (by decide) hI) t0 rfl kv_X10_screens ml_X10_165 ⟨rfl, rfl, Nat.le_of_ble_eq_true rfl, Nat.le_of_ble_eq_true rfl⟩ rfl hl.1 rfl (Nat.le_of_ble_eq_true rfl) ⟨Nat.zero_le _, Nat.zero_le _⟩ dX10_tall_50) (fun Z H locs eZ pZ hG => ?_)
        obtain ⟨t13, rfl, pt13, hI⟩ := pZ
        clear eZ
        have h3n : (t13 3).toInt = (ta 3).toInt := by rw [pt13.2.1]
        have h0n : (t13 0).toInt = (ta 0).toInt := by rw [pt13.1]
        have hT2 := hT2.trans pt13.A2
        have h0t : (t13 0).toInt = (ta 0).toInt := by rw [hT2.1]
        have h3t : (t13 3).toInt = (ta 3).toInt := by rw [hT2.2.1]
        refine lv_aload_n hx hb dX10_tall_53 rfl (lv_at hl 0 rfl) ?_
        refine mc_callvX hG (mc_runV (As := []) (rest := []) E hG (c_X10_laysInThought l G σ 4 a t13 h0 t0 hI) t0 rfl kv_X10_laysInThought ml_X10_416 ⟨rfl, rfl, Nat.le_of_ble_eq_true rfl, Nat.le_of_ble_eq_true rfl⟩ rfl hl.1 rfl (Nat.le_of_ble_eq_true rfl) ⟨Nat.zero_le _, Nat.zero_le _⟩ dX10_tall_54) (fun Z H locs eZ pZ hG => ?_)
        obtain ⟨t15, rfl, pt15, hI⟩ := pZ
        clear eZ
        have h3n : (t15 3).toInt = (t13 3).toInt := by rw [pt15.2.1]
        have h0n : (t15 0).toInt = (t13 0).toInt := by rw [pt15.1]
        have hT2 := hT2.trans pt15.A2
        have h0t : (t15 0).toInt = (ta 0).toInt := by rw [hT2.1]
        have h3t : (t15 3).toInt = (ta 3).toInt := by rw [hT2.2.1]
        refine lv_aload_n hx hb dX10_tall_57 rfl (lv_at hl 0 rfl) ?_
        refine lv_aload_n hx hb dX10_tall_58 rfl (lv_at hl 0 rfl) ?_
        refine mc_getn E hG t0 ff_X10_9 dX10_tall_59 (fun oa16 hoa16 => ?_)
        refine lv_iconst (v := 0) hx hb dX10_tall_62 (by decide) ?_
        refine mc_nald E hG hoa16 hG.2.2.1 (t_in (by decide) (by decide)) dX10_tall_63 (fun z17 lz17 uz17 qz17 => ?_)
        have lz17 : -1 ≤ z17.toInt := lz17
        have uz17 : z17.toInt ≤ 23 := uz17
        have wz17 : z17 = t15 0 := qz17 _ (qX_at (a := upA a 4 t15) (k := 0) hcu upA_at rfl)
        have cz17 : z17.toInt = (t15 0).toInt := by rw [wz17]
        refine lv_bipush (v := 33) hx hb dX10_tall_64 (by decide) ?_
        refine tc_callp (mc_runV (As := [.int z17, .int 33]) (rest := []) E hG (c_X10_get l G (σ, 4, qX (upA a 4 t15)) h0 z17 (33 : Int32) t0 (by omega) (by omega) (by decide) (by decide)) t0 rfl kv_X10_get ml_X10_91 ⟨rfl, rfl, Nat.le_of_ble_eq_true rfl, Nat.le_of_ble_eq_true rfl⟩ rfl hl.1 rfl (Nat.le_of_ble_eq_true rfl) ⟨Nat.zero_le _, Nat.zero_le _⟩ dX10_tall_66) (fun r18 pr18 => ?_)
        replace pr18 : mV (σ, 4, qX (upA a 4 t15)) (ix z17.toInt (33 : Int32).toInt) r18 := pr18
        have pr18 := mV_l pr18 kI_33
        have br18 := mV_33 pr18 (by omega)
        have k19 := kI_33
        refine lv_istore_n (lv' := [(2, .int r18), (0, .ref h0), (1, .int x1)]) hx hb dX10_tall_69 rfl hl (by decide) rfl (fun ls hl => ?_)
        refine lv_aload_n hx hb dX10_tall_70 rfl (lv_at hl 1 rfl) ?_
        refine lv_aload_n hx hb dX10_tall_71 rfl (lv_at hl 1 rfl) ?_
        refine mc_getr E hG t0 mr_15 dX10_tall_72 (fun oa20 hoa20 => ?_)
        obtain ⟨A21, eA21⟩ : ∃ Z : Nat → Option (Nat → Int32), Z = upA a 4 t15 := ⟨_, rfl⟩
        rw [← eA21] at hG
        have hA2 : A21 2 = some ta := by rw [eA21]; exact (upA_ne (by decide)).trans hA2
        have hA3 : A21 3 = a 3 := by rw [eA21]; exact (upA_ne (by decide)).trans hA3
        refine mc_putn E hG t0 fq_X10_9 (show mCu (σ oa20) by rw [show σ oa20 = 2 from hoa20]; exact mu_2) dX10_tall_75 (fun H locs hG => ?_)
        have hG : mGH G (σ, σ oa20, qX A21) s H locs := hG
        rw [show σ oa20 = 2 from hoa20] at hG
        have hcu := mu_2
        have hI := hIa
        refine lv_iload_n hx hb dX10_tall_78 rfl (lv_at hl 0 rfl) ?_
        exact mc_iretX E hr hlk hG rfl rfl ⟨_, rfl, hA2, hA3⟩ dX10_tall_79
      · skip
        have ic10 := tn_nle kI_0 rfl c10
        refine lv_bipush (v := -5) hx hb dX10_tall_34 (by decide) ?_
        exact mc_iretX E hr hlk hG rfl rfl ⟨_, rfl, hA2, hA3⟩ dX10_tall_36
    · skip
      have ic7 := tn_ne rfl kI_0 c7
      refine lv_bipush (v := -4) hx hb dX10_tall_22 (by decide) ?_
      exact mc_iretX E hr hlk hG rfl rfl ⟨_, rfl, hA2, hA3⟩ dX10_tall_24
  · skip
    have ic5 := tn_eq rfl kI_0 c5
    refine lv_bipush (v := -2) hx hb dX10_tall_12 (by decide) ?_
    exact mc_iretX E hr hlk hG rfl rfl ⟨_, rfl, hA2, hA3⟩ dX10_tall_14

set_option maxHeartbeats 4000000 in
set_option maxRecDepth 100000 in
theorem c_X10_reached (l : Launch) (G : tG) (σ : Nat → Nat) (a : Nat → Option (Nat → Int32)) (ta : Nat → Int32) (h0 : Nat) (x1 : Int32) (x2 : Int32) (t0 : σ h0 = 1) (ha : a 2 = some ta) (hIa : TInv ta) : Met l yX10_reached (.code yX10_reached cX10_reached 3 (some .int) :: tWS) (tRm 10 228) (va_Pc [.ref h0, .int x1, .int x2] (mPre G (σ, 2, qX a))) (mQiX G (σ, 2, qX a) (fun r Z => ∃ A : Nat → Option (Nat → Int32), Z = (σ, 2, qX A) ∧ A 2 = some ta ∧ A 3 = a 3)) 0 0 (mA (σ, 2, qX a)) := by
  refine mc_met (by decide) (Nat.le_of_ble_eq_true rfl) ?_
  intro p e s m below meth c E hr hlk hG ls hl
  have hl : lv_has ls 3 [(0, .ref h0), (1, .int x1), (2, .int x2)] := hl
  have hx := E.1
  have hb := E.2.1
  obtain ⟨H, eH⟩ : ∃ H, H = s.heap := ⟨_, rfl⟩
  obtain ⟨locs, eL⟩ : ∃ x : List Loc, x = [] := ⟨_, rfl⟩
  have hG : mGH G (σ, 2, qX a) s H locs := by rw [eH, eL]; exact hG
  suffices hW : W p l e (tRm 10 228) s m ([.ref h0, .int x1, .int x2] : List Value).toArray below meth c H locs 0 0 (MQ below (mQiX G (σ, 2, qX a) (fun r Z => ∃ A : Nat → Option (Nat → Int32), Z = (σ, 2, qX A) ∧ A 2 = some ta ∧ A 3 = a 3)) ([.ref h0, .int x1, .int x2] : List Value).toArray s 0 0 (mA (σ, 2, qX a))) (F0 m 0 ls []) by subst eH; subst eL; exact hW
  clear eH eL
  have hA2 := ha
  have hA3 : a 3 = a 3 := rfl
  have hI := hIa
  have hcu := mu_2
  have hT2 : A2 ta ta := A2.refl
  refine lv_aload_n hx hb dX10_reached_0 rfl (lv_at hl 0 rfl) ?_
  refine lv_iload_n hx hb dX10_reached_1 rfl (lv_at hl 1 rfl) ?_
  refine tc_callp (mc_runV (As := [.int x1]) (rest := []) E hG (c_X10_isBox l G (σ, 2, qX a) h0 x1 t0) t0 rfl kv_X10_isBox ml_X10_127 ⟨rfl, rfl, Nat.le_of_ble_eq_true rfl, Nat.le_of_ble_eq_true rfl⟩ rfl hl.1 rfl (Nat.le_of_ble_eq_true rfl) ⟨Nat.zero_le _, Nat.zero_le _⟩ dX10_reached_2) (fun r1 pr1 => ?_)
  replace pr1 : (r1.toInt = 1 ∧ 0 ≤ x1.toInt ∧ x1.toInt ≤ 23 ∧ mV (σ, 2, qX a) (ix x1.toInt 0) 1) ∨ (r1.toInt = 0 ∧ (x1.toInt < 0 ∨ 23 < x1.toInt ∨ ∃ v : Int32, ¬ v.toInt = 1 ∧ mV (σ, 2, qX a) (ix x1.toInt 0) v)) := pr1
  have cr1 := mB pr1 (qX_TI mu_2 hA2) hI
  clear pr1
  refine lv_if_eq (tgt := 18) hx hb dX10_reached_5 (by decide) (fun c2 => ?_) (fun c2 => ?_)
  · skip
    have ic2 := tn_eq rfl kI_0 c2
    refine lv_iconst (v := -1) hx hb dX10_reached_18 (by decide) ?_
    exact mc_iretX E hr hlk hG rfl rfl ⟨_, rfl, hA2, hA3⟩ dX10_reached_19
  · skip
    have ic2 := tn_ne rfl kI_0 c2
    refine lv_iload_n hx hb dX10_reached_8 rfl (lv_at hl 2 rfl) ?_
    refine lv_i2l hx hb dX10_reached_9 rfl ?_
    refine lv_topl (fun z3 ez3 => ?_)
    have tz3 := tl_i2l ez3
    refine lv_lconst (v := 0) hx hb dX10_reached_10 (by decide) ?_
    refine lv_topl (fun z4 ez4 => ?_)
    have tz4 : z4.toInt = 0 := by rw [ez4]; decide
    refine lv_lconst (v := 1) hx hb dX10_reached_11 (by decide) ?_
    refine lv_topl (fun z5 ez5 => ?_)
    have tz5 : z5.toInt = 1 := by rw [ez5]; decide
    refine tc_callp (mc_runS (As := [.long z3, .long z4, .long z5]) (rest := []) E hG (c_X10_in l G (σ, 2, qX a) z3 z4 z5) ks_X10_in ml_X10_87 ⟨rfl, rfl, Nat.le_of_ble_eq_true rfl, Nat.le_of_ble_eq_true rfl⟩ rfl hl.1 rfl (Nat.le_of_ble_eq_true rfl) ⟨Nat.zero_le _, Nat.zero_le _⟩ dX10_reached_12) (fun r6 pr6 => ?_)
    replace pr6 : ((r6.toInt = 1 ∧ z4.toInt ≤ z3.toInt ∧ z3.toInt ≤ z5.toInt) ∨ (r6.toInt = 0 ∧ (z3.toInt < z4.toInt ∨ z5.toInt < z3.toInt))) := pr6
    refine lv_if_ne (tgt := 20) hx hb dX10_reached_15 (by decide) (fun c7 => ?_) (fun c7 => ?_)
    · skip
      have ic7 := tn_ne rfl kI_0 c7
      refine lv_aload_n hx hb dX10_reached_20 rfl (lv_at hl 0 rfl) ?_
      refine tc_callp (mc_runV (As := []) (rest := []) E hG (c_X10_isFull l G (σ, 2, qX a) h0 t0) t0 rfl kv_X10_isFull ml_X10_409 ⟨rfl, rfl, Nat.le_of_ble_eq_true rfl, Nat.le_of_ble_eq_true rfl⟩ rfl hl.1 rfl (Nat.le_of_ble_eq_true rfl) ⟨Nat.zero_le _, Nat.zero_le _⟩ dX10_reached_21) (fun r8 pr8 => ?_)
      replace pr8 : 0 ≤ r8.toInt ∧ r8.toInt ≤ 1 := pr8
      refine lv_if_eq (tgt := 30) hx hb dX10_reached_24 (by decide) (fun c9 => ?_) (fun c9 => ?_)
      · skip
        have ic9 := tn_eq rfl kI_0 c9
        refine lv_aload_n hx hb dX10_reached_30 rfl (lv_at hl 0 rfl) ?_
        refine lv_aload_n hx hb dX10_reached_31 rfl (lv_at hl 0 rfl) ?_
        refine mc_getr E hG t0 mr_21 dX10_reached_32 (fun oa10 hoa10 => ?_)
        refine mc_callvX hG (mc_runV (As := [.ref oa10]) (rest := []) E hG (c_X10_thinks l G σ 2 a 4 ta h0 oa10 t0 hoa10 mu_4 (by decide) hA2) t0 rfl kv_X10_thinks ml_X10_412 ⟨rfl, rfl, Nat.le_of_ble_eq_true rfl, Nat.le_of_ble_eq_true rfl⟩ rfl hl.1 rfl (Nat.le_of_ble_eq_true rfl) ⟨Nat.zero_le _, Nat.zero_le _⟩ dX10_reached_35) (fun Z H locs eZ pZ hG => ?_)
        subst pZ
        clear eZ
        have hI := hIa
        have hT2 : A2 ta ta := A2.refl
        have hcu := mu_4
        refine lv_aload_n hx hb dX10_reached_38 rfl (lv_at hl 0 rfl) ?_
        refine mc_callvX hG (mc_runV (As := []) (rest := []) E hG (c_X10_laysInThought l G σ 4 a ta h0 t0 hI) t0 rfl kv_X10_laysInThought ml_X10_416 ⟨rfl, rfl, Nat.le_of_ble_eq_true rfl, Nat.le_of_ble_eq_true rfl⟩ rfl hl.1 rfl (Nat.le_of_ble_eq_true rfl) ⟨Nat.zero_le _, Nat.zero_le _⟩ dX10_reached_39) (fun Z H locs eZ pZ hG => ?_)
        obtain ⟨t12, rfl, pt12, hI⟩ := pZ
        clear eZ
        have h3n : (t12 3).toInt = (ta 3).toInt := by rw [pt12.2.1]
        have h0n : (t12 0).toInt = (ta 0).toInt := by rw [pt12.1]
        have hT2 := hT2.trans pt12.A2
        have h0t : (t12 0).toInt = (ta 0).toInt := by rw [hT2.1]
        have h3t : (t12 3).toInt = (ta 3).toInt := by rw [hT2.2.1]
        refine lv_aload_n hx hb dX10_reached_42 rfl (lv_at hl 0 rfl) ?_
        refine lv_iload_n hx hb dX10_reached_43 rfl (lv_at hl 1 rfl) ?_
        refine mc_callvX hG (mc_runV (As := [.int x1]) (rest := []) E hG (c_X10_marks l G σ 4 a t12 h0 x1 t0 (by omega) (by omega) hI (by first | omega | (have k1 := kI_m1; have hI1 := hI.1; omega))) t0 rfl kv_X10_marks ml_X10_113 ⟨rfl, rfl, Nat.le_of_ble_eq_true rfl, Nat.le_of_ble_eq_true rfl⟩ rfl hl.1 rfl (Nat.le_of_ble_eq_true rfl) ⟨Nat.zero_le _, Nat.zero_le _⟩ dX10_reached_44) (fun Z H locs eZ pZ hG => ?_)
        obtain ⟨t14, rfl, pt14, hI⟩ := pZ
        clear eZ
        have h3n : (t14 3).toInt = (t12 3).toInt := by rw [pt14.2.1]
        have h0n : (t14 0).toInt = (t12 0).toInt := by rw [pt14.1]
        have hT2 := hT2.trans pt14.A2
        have h0t : (t14 0).toInt = (ta 0).toInt := by rw [hT2.1]
        have h3t : (t14 3).toInt = (ta 3).toInt := by rw [hT2.2.1]
        refine lv_aload_n hx hb dX10_reached_47 rfl (lv_at hl 0 rfl) ?_
        refine mc_callvX hG (mc_runV (As := []) (rest := []) E hG (c_X10_laysInThought l G σ 4 a t14 h0 t0 hI) t0 rfl kv_X10_laysInThought ml_X10_416 ⟨rfl, rfl, Nat.le_of_ble_eq_true rfl, Nat.le_of_ble_eq_true rfl⟩ rfl hl.1 rfl (Nat.le_of_ble_eq_true rfl) ⟨Nat.zero_le _, Nat.zero_le _⟩ dX10_reached_48) (fun Z H locs eZ pZ hG => ?_)
        obtain ⟨t16, rfl, pt16, hI⟩ := pZ
        clear eZ
        have h3n : (t16 3).toInt = (t14 3).toInt := by rw [pt16.2.1]
        have h0n : (t16 0).toInt = (t14 0).toInt := by rw [pt16.1]
        have hT2 := hT2.trans pt16.A2
        have h0t : (t16 0).toInt = (ta 0).toInt := by rw [hT2.1]
        have h3t : (t16 3).toInt = (ta 3).toInt := by rw [hT2.2.1]
        refine lv_aload_n hx hb dX10_reached_51 rfl (lv_at hl 0 rfl) ?_
        refine lv_aload_n hx hb dX10_reached_52 rfl (lv_at hl 0 rfl) ?_
        refine mc_getr E hG t0 mr_15 dX10_reached_53 (fun oa17 hoa17 => ?_)
        obtain ⟨A18, eA18⟩ : ∃ Z : Nat → Option (Nat → Int32), Z = upA a 4 t16 := ⟨_, rfl⟩
        rw [← eA18] at hG
        have hA2 : A18 2 = some ta := by rw [eA18]; exact (upA_ne (by decide)).trans hA2
        have hA3 : A18 3 = a 3 := by rw [eA18]; exact (upA_ne (by decide)).trans hA3
        refine mc_putn E hG t0 fq_X10_9 (show mCu (σ oa17) by rw [show σ oa17 = 2 from hoa17]; exact mu_2) dX10_reached_56 (fun H locs hG => ?_)
        have hG : mGH G (σ, σ oa17, qX A18) s H locs := hG
        rw [show σ oa17 = 2 from hoa17] at hG
        have hcu := mu_2
        have hI := hIa
        refine lv_iload_n hx hb dX10_reached_59 rfl (lv_at hl 2 rfl) ?_
        refine lv_if_ne (tgt := 70) hx hb dX10_reached_60 (by decide) (fun c19 => ?_) (fun c19 => ?_)
        · skip
          have ic19 := tn_ne rfl kI_0 c19
          refine lv_aload_n hx hb dX10_reached_70 rfl (lv_at hl 0 rfl) ?_
          refine mc_geti E hG t0 mi_212 dX10_reached_71 (fun z20 lz20 uz20 qz20 => ?_)
          exact mc_iretX E hr hlk hG rfl rfl ⟨_, rfl, hA2, hA3⟩ dX10_reached_74
        · skip
          have ic19 := tn_eq rfl kI_0 c19
          refine lv_aload_n hx hb dX10_reached_63 rfl (lv_at hl 0 rfl) ?_
          refine mc_geti E hG t0 mi_218 dX10_reached_64 (fun z21 lz21 uz21 qz21 => ?_)
          refine lv_goto (tgt := 74) hx hb dX10_reached_67 (by decide) ?_
          exact mc_iretX E hr hlk hG rfl rfl ⟨_, rfl, hA2, hA3⟩ dX10_reached_74
      · skip
        have ic9 := tn_ne rfl kI_0 c9
        refine lv_bipush (v := -4) hx hb dX10_reached_27 (by decide) ?_
        exact mc_iretX E hr hlk hG rfl rfl ⟨_, rfl, hA2, hA3⟩ dX10_reached_29
    · skip
      have ic7 := tn_eq rfl kI_0 c7
      refine lv_iconst (v := -1) hx hb dX10_reached_18 (by decide) ?_
      exact mc_iretX E hr hlk hG rfl rfl ⟨_, rfl, hA2, hA3⟩ dX10_reached_19

set_option maxHeartbeats 4000000 in
set_option maxRecDepth 100000 in
theorem c_X10_bestShare (l : Launch) (G : tG) (σ : Nat → Nat) (a : Nat → Option (Nat → Int32)) (ta : Nat → Int32) (h0 : Nat) (x1 : Int32) (x2 : Int32) (t0 : σ h0 = 1) (ha : a 2 = some ta) (hIa : TInv ta) : Met l yX10_bestShare (.code yX10_bestShare cX10_bestShare 7 (some .int) :: tWS) (tRm 10 228) (va_Pc [.ref h0, .int x1, .int x2] (mPre G (σ, 2, qX a))) (mQiX G (σ, 2, qX a) (fun r Z => ∃ A : Nat → Option (Nat → Int32), Z = (σ, 2, qX A) ∧ A 2 = some ta ∧ A 3 = a 3)) 0 0 (mA (σ, 2, qX a)) := by
  refine mc_met (by decide) (Nat.le_of_ble_eq_true rfl) ?_
  intro p e s m below meth c E hr hlk hG ls hl
  have hl : lv_has ls 7 [(0, .ref h0), (1, .int x1), (2, .int x2)] := hl
  have hx := E.1
  have hb := E.2.1
  obtain ⟨H, eH⟩ : ∃ H, H = s.heap := ⟨_, rfl⟩
  obtain ⟨locs, eL⟩ : ∃ x : List Loc, x = [] := ⟨_, rfl⟩
  have hG : mGH G (σ, 2, qX a) s H locs := by rw [eH, eL]; exact hG
  suffices hW : W p l e (tRm 10 228) s m ([.ref h0, .int x1, .int x2] : List Value).toArray below meth c H locs 0 0 (MQ below (mQiX G (σ, 2, qX a) (fun r Z => ∃ A : Nat → Option (Nat → Int32), Z = (σ, 2, qX A) ∧ A 2 = some ta ∧ A 3 = a 3)) ([.ref h0, .int x1, .int x2] : List Value).toArray s 0 0 (mA (σ, 2, qX a))) (F0 m 0 ls []) by subst eH; subst eL; exact hW
  clear eH eL
  have hA2 := ha
  have hA3 : a 3 = a 3 := rfl
  have hI := hIa
  have hcu := mu_2
  have hT2 : A2 ta ta := A2.refl
  have J38 : ∀ (n38 : Nat) (cu : Nat) (A : Nat → Option (Nat → Int32)) (H : Heap) (locs : List Loc) (ls : Array Slot) (v3 : Int32) (v4 : Int32) (v5 : Int32), mGH G (σ, cu, qX A) s H locs → lv_has ls 7 [(0, .ref h0), (1, .int x1), (2, .int x2), (3, .int v3), (4, .int v4), (5, .int v5)] → 0 ≤ x1.toInt → x1.toInt ≤ 23 → 0 ≤ v3.toInt → -1 ≤ v4.toInt → v4.toInt ≤ 1000 → 0 ≤ v5.toInt → v5.toInt ≤ 10 → (A 2 = some ta ∧ A 3 = a 3 ∧ x1.toInt < (ta 3).toInt) → (10 - v5.toInt).toNat < n38 → W p l e (tRm 10 228) s m ([.ref h0, .int x1, .int x2] : List Value).toArray below meth c H locs 0 0 (MQ below (mQiX G (σ, 2, qX a) (fun r Z => ∃ A : Nat → Option (Nat → Int32), Z = (σ, 2, qX A) ∧ A 2 = some ta ∧ A 3 = a 3)) ([.ref h0, .int x1, .int x2] : List Value).toArray s 0 0 (mA (σ, 2, qX a))) (F0 m 38 ls []) := by
    intro n38
    induction n38 with
    | zero => intro cu A H locs ls v3 v4 v5 hG hl bp1 cp1 b3 b4 c4 b5 c5 hex38 hn38; exact absurd hn38 (Nat.not_lt_zero _)
    | succ n38 ih38 =>
      intro cu A H locs ls v3 v4 v5 hG hl bp1 cp1 b3 b4 c4 b5 c5 hex38 hn38
      have hA2 := hex38.1
      have hA3 := hex38.2.1
      have hI := hIa
      have hcu : mCu cu := hG.2.2.1
      refine lv_iload hx hb dX10_bestShare_38 (lv_at hl 5 rfl) ?_
      refine lv_bipush (v := 10) hx hb dX10_bestShare_40 (by decide) ?_
      refine lv_icmp_ge (tgt := 110) hx hb dX10_bestShare_42 (by decide) (fun c1 => ?_) (fun c1 => ?_)
      · skip
        have ic1 := tn_le kI_10 rfl c1
        refine lv_aload_n hx hb dX10_bestShare_110 rfl (lv_at hl 0 rfl) ?_
        refine lv_aload_n hx hb dX10_bestShare_111 rfl (lv_at hl 0 rfl) ?_
        refine mc_getr E hG t0 mr_15 dX10_bestShare_112 (fun oa2 hoa2 => ?_)
        refine mc_putn E hG t0 fq_X10_9 (show mCu (σ oa2) by rw [show σ oa2 = 2 from hoa2]; exact mu_2) dX10_bestShare_115 (fun H locs hG => ?_)
        have hG : mGH G (σ, σ oa2, qX A) s H locs := hG
        rw [show σ oa2 = 2 from hoa2] at hG
        have hcu := mu_2
        have hI := hIa
        refine lv_iload_n hx hb dX10_bestShare_118 rfl (lv_at hl 2 rfl) ?_
        refine lv_if_ne (tgt := 126) hx hb dX10_bestShare_119 (by decide) (fun c3 => ?_) (fun c3 => ?_)
        · skip
          have ic3 := tn_ne rfl kI_0 c3
          refine lv_iload hx hb dX10_bestShare_126 (lv_at hl 4 rfl) ?_
          exact mc_iretX E hr hlk hG rfl rfl ⟨_, rfl, hA2, hA3⟩ dX10_bestShare_128
        · skip
          have ic3 := tn_eq rfl kI_0 c3
          refine lv_iload_n hx hb dX10_bestShare_122 rfl (lv_at hl 3 rfl) ?_
          refine lv_goto (tgt := 128) hx hb dX10_bestShare_123 (by decide) ?_
          exact mc_iretX E hr hlk hG rfl rfl ⟨_, rfl, hA2, hA3⟩ dX10_bestShare_128
      · skip
        have ic1 := tn_nle kI_10 rfl c1
        refine lv_aload_n hx hb dX10_bestShare_45 rfl (lv_at hl 0 rfl) ?_
        refine lv_aload_n hx hb dX10_bestShare_46 rfl (lv_at hl 0 rfl) ?_
        refine mc_getr E hG t0 mr_21 dX10_bestShare_47 (fun oa4 hoa4 => ?_)
        refine mc_callvX hG (mc_runV (As := [.ref oa4]) (rest := []) E hG (c_X10_thinks l G σ cu A 4 ta h0 oa4 t0 hoa4 mu_4 (by decide) hA2) t0 rfl kv_X10_thinks ml_X10_412 ⟨rfl, rfl, Nat.le_of_ble_eq_true rfl, Nat.le_of_ble_eq_true rfl⟩ rfl hl.1 rfl (Nat.le_of_ble_eq_true rfl) ⟨Nat.zero_le _, Nat.zero_le _⟩ dX10_bestShare_50) (fun Z H locs eZ pZ hG => ?_)
        subst pZ
        clear eZ
        have hI := hIa
        have hT2 : A2 ta ta := A2.refl
        have hcu := mu_4
        refine lv_aload_n hx hb dX10_bestShare_53 rfl (lv_at hl 0 rfl) ?_
        refine lv_iload_n hx hb dX10_bestShare_54 rfl (lv_at hl 1 rfl) ?_
        refine lv_iconst (v := 4) hx hb dX10_bestShare_55 (by decide) ?_
        refine lv_iload hx hb dX10_bestShare_56 (lv_at hl 5 rfl) ?_
        refine mc_callvX hG (mc_runV (As := [.int x1, .int 4, .int v5]) (rest := []) E hG (c_X10_tellsIt l G σ 4 A ta h0 x1 (4 : Int32) v5 t0 (by omega) (by omega) (by decide) (by decide) hI (by have k2 := kI_4; omega) (by have k2 := kI_4; omega) (by have k2 := kI_4; omega) (by have k2 := kI_4; omega) (by have k2 := kI_4; omega)) t0 rfl kv_X10_tellsIt ml_X10_150 ⟨rfl, rfl, Nat.le_of_ble_eq_true rfl, Nat.le_of_ble_eq_true rfl⟩ rfl hl.1 rfl (Nat.le_of_ble_eq_true rfl) ⟨Nat.zero_le _, Nat.zero_le _⟩ dX10_bestShare_58) (fun Z H locs eZ pZ hG => ?_)
        obtain ⟨t6, rfl, pt6, hI⟩ := pZ
        clear eZ
        have h3n : (t6 3).toInt = (ta 3).toInt := by rw [pt6.2.1]
        have h0n : (t6 0).toInt = (ta 0).toInt := by rw [pt6.1]
        have hT2 := hT2.trans pt6
        have h0t : (t6 0).toInt = (ta 0).toInt := by rw [hT2.1]
        have h3t : (t6 3).toInt = (ta 3).toInt := by rw [hT2.2.1]
        refine lv_aload_n hx hb dX10_bestShare_61 rfl (lv_at hl 0 rfl) ?_
        refine mc_callvX hG (mc_runV (As := []) (rest := []) E hG (c_X10_laysInThought l G σ 4 A t6 h0 t0 hI) t0 rfl kv_X10_laysInThought ml_X10_416 ⟨rfl, rfl, Nat.le_of_ble_eq_true rfl, Nat.le_of_ble_eq_true rfl⟩ rfl hl.1 rfl (Nat.le_of_ble_eq_true rfl) ⟨Nat.zero_le _, Nat.zero_le _⟩ dX10_bestShare_62) (fun Z H locs eZ pZ hG => ?_)
        obtain ⟨t8, rfl, pt8, hI⟩ := pZ
        clear eZ
        have h3n : (t8 3).toInt = (t6 3).toInt := by rw [pt8.2.1]
        have h0n : (t8 0).toInt = (t6 0).toInt := by rw [pt8.1]
        have hT2 := hT2.trans pt8.A2
        have h0t : (t8 0).toInt = (ta 0).toInt := by rw [hT2.1]
        have h3t : (t8 3).toInt = (ta 3).toInt := by rw [hT2.2.1]
        refine lv_aload_n hx hb dX10_bestShare_65 rfl (lv_at hl 0 rfl) ?_
        refine lv_iload_n hx hb dX10_bestShare_66 rfl (lv_at hl 1 rfl) ?_
        refine lv_bipush (v := 32) hx hb dX10_bestShare_67 (by decide) ?_
        refine tc_callp (mc_runV (As := [.int x1, .int 32]) (rest := []) E hG (c_X10_get l G (σ, 4, qX (upA A 4 t8)) h0 x1 (32 : Int32) t0 (by omega) (by omega) (by decide) (by decide)) t0 rfl kv_X10_get ml_X10_91 ⟨rfl, rfl, Nat.le_of_ble_eq_true rfl, Nat.le_of_ble_eq_true rfl⟩ rfl hl.1 rfl (Nat.le_of_ble_eq_true rfl) ⟨Nat.zero_le _, Nat.zero_le _⟩ dX10_bestShare_69) (fun r9 pr9 => ?_)
        replace pr9 : mV (σ, 4, qX (upA A 4 t8)) (ix x1.toInt (32 : Int32).toInt) r9 := pr9
        have pr9 := mV_l pr9 kI_32
        have br9 := mV_32 pr9 (by omega)
        have k10 := kI_32
        refine lv_istore (lv' := [(6, .int r9), (0, .ref h0), (1, .int x1), (2, .int x2), (3, .int v3), (4, .int v4), (5, .int v5)]) hx hb dX10_bestShare_72 hl (by decide) rfl (fun ls hl => ?_)
        refine lv_iload hx hb dX10_bestShare_74 (lv_at hl 0 rfl) ?_
        refine lv_iload hx hb dX10_bestShare_76 (lv_at hl 5 rfl) ?_
        refine lv_icmp_le (tgt := 86) hx hb dX10_bestShare_78 (by decide) (fun c11 => ?_) (fun c11 => ?_)
        · skip
          have ic11 := tn_le rfl rfl c11
          refine lv_iload_n hx hb dX10_bestShare_86 rfl (lv_at hl 4 rfl) ?_
          refine lv_istore_n (lv' := [(3, .int v3), (6, .int r9), (0, .ref h0), (1, .int x1), (2, .int x2), (4, .int v4), (5, .int v5)]) hx hb dX10_bestShare_87 rfl hl (by decide) rfl (fun ls hl => ?_)
          refine lv_iload hx hb dX10_bestShare_88 (lv_at hl 1 rfl) ?_
          refine lv_iload hx hb dX10_bestShare_90 (lv_at hl 5 rfl) ?_
          refine lv_icmp_le (tgt := 100) hx hb dX10_bestShare_92 (by decide) (fun c12 => ?_) (fun c12 => ?_)
          · skip
            have ic12 := tn_le rfl rfl c12
            refine lv_iload hx hb dX10_bestShare_100 (lv_at hl 5 rfl) ?_
            refine lv_istore (lv' := [(4, .int v4), (3, .int v3), (6, .int r9), (0, .ref h0), (1, .int x1), (2, .int x2), (5, .int v5)]) hx hb dX10_bestShare_102 hl (by decide) rfl (fun ls hl => ?_)
            obtain ⟨z13, ez13⟩ : ∃ y : Int32, y = v5 + (1) := ⟨_, rfl⟩
            refine lv_iinc (v := z13) (lv' := [(5, .int z13), (4, .int v4), (3, .int v3), (6, .int r9), (0, .ref h0), (1, .int x1), (2, .int x2)]) hx hb dX10_bestShare_104 hl (k := 6) rfl (by rw [ez13]; rfl) (by decide) rfl (fun ls hl => ?_)
            have tz13 := tn_add ez13 rfl kI_1 (by omega) (by omega)
            refine lv_goto (tgt := 38) hx hb dX10_bestShare_107 (by decide) ?_
            exact ih38 4 (upA A 4 t8) H locs ls v3 v4 z13 hG (lv_sub hl [4, 5, 6, 2, 1, 0] rfl) (by omega) (by omega) (by omega) (by omega) (by omega) (by omega) (by omega) (by exact ⟨(upA_ne (by decide)).trans hA2, (upA_ne (by decide)).trans hA3, by omega⟩) (by omega)
          · skip
            have ic12 := tn_nle rfl rfl c12
            refine lv_iload hx hb dX10_bestShare_95 (lv_at hl 1 rfl) ?_
            refine lv_goto (tgt := 102) hx hb dX10_bestShare_97 (by decide) ?_
            refine lv_istore (lv' := [(4, .int r9), (3, .int v3), (6, .int r9), (0, .ref h0), (1, .int x1), (2, .int x2), (5, .int v5)]) hx hb dX10_bestShare_102 hl (by decide) rfl (fun ls hl => ?_)
            obtain ⟨z14, ez14⟩ : ∃ y : Int32, y = v5 + (1) := ⟨_, rfl⟩
            refine lv_iinc (v := z14) (lv' := [(5, .int z14), (4, .int r9), (3, .int v3), (6, .int r9), (0, .ref h0), (1, .int x1), (2, .int x2)]) hx hb dX10_bestShare_104 hl (k := 6) rfl (by rw [ez14]; rfl) (by decide) rfl (fun ls hl => ?_)
            have tz14 := tn_add ez14 rfl kI_1 (by omega) (by omega)
            refine lv_goto (tgt := 38) hx hb dX10_bestShare_107 (by decide) ?_
            exact ih38 4 (upA A 4 t8) H locs ls v3 r9 z14 hG (lv_sub hl [4, 5, 6, 2, 1, 0] rfl) (by omega) (by omega) (by omega) (by omega) (by omega) (by omega) (by omega) (by exact ⟨(upA_ne (by decide)).trans hA2, (upA_ne (by decide)).trans hA3, by omega⟩) (by omega)
        · skip
          have ic11 := tn_nle rfl rfl c11
          refine lv_iload hx hb dX10_bestShare_81 (lv_at hl 6 rfl) ?_
          refine lv_goto (tgt := 87) hx hb dX10_bestShare_83 (by decide) ?_
          refine lv_istore_n (lv' := [(3, .int v5), (6, .int r9), (0, .ref h0), (1, .int x1), (2, .int x2), (4, .int v4), (5, .int v5)]) hx hb dX10_bestShare_87 rfl hl (by decide) rfl (fun ls hl => ?_)
          refine lv_iload hx hb dX10_bestShare_88 (lv_at hl 1 rfl) ?_
          refine lv_iload hx hb dX10_bestShare_90 (lv_at hl 5 rfl) ?_
          refine lv_icmp_le (tgt := 100) hx hb dX10_bestShare_92 (by decide) (fun c15 => ?_) (fun c15 => ?_)
          · skip
            have ic15 := tn_le rfl rfl c15
            refine lv_iload hx hb dX10_bestShare_100 (lv_at hl 5 rfl) ?_
            refine lv_istore (lv' := [(4, .int v4), (3, .int v5), (6, .int r9), (0, .ref h0), (1, .int x1), (2, .int x2), (5, .int v5)]) hx hb dX10_bestShare_102 hl (by decide) rfl (fun ls hl => ?_)
            obtain ⟨z16, ez16⟩ : ∃ y : Int32, y = v5 + (1) := ⟨_, rfl⟩
            refine lv_iinc (v := z16) (lv' := [(5, .int z16), (4, .int v4), (3, .int v5), (6, .int r9), (0, .ref h0), (1, .int x1), (2, .int x2)]) hx hb dX10_bestShare_104 hl (k := 6) rfl (by rw [ez16]; rfl) (by decide) rfl (fun ls hl => ?_)
            have tz16 := tn_add ez16 rfl kI_1 (by omega) (by omega)
            refine lv_goto (tgt := 38) hx hb dX10_bestShare_107 (by decide) ?_
            exact ih38 4 (upA A 4 t8) H locs ls v5 v4 z16 hG (lv_sub hl [4, 5, 6, 2, 1, 0] rfl) (by omega) (by omega) (by omega) (by omega) (by omega) (by omega) (by omega) (by exact ⟨(upA_ne (by decide)).trans hA2, (upA_ne (by decide)).trans hA3, by omega⟩) (by omega)
          · skip
            have ic15 := tn_nle rfl rfl c15
            refine lv_iload hx hb dX10_bestShare_95 (lv_at hl 1 rfl) ?_
            refine lv_goto (tgt := 102) hx hb dX10_bestShare_97 (by decide) ?_
            refine lv_istore (lv' := [(4, .int r9), (3, .int v5), (6, .int r9), (0, .ref h0), (1, .int x1), (2, .int x2), (5, .int v5)]) hx hb dX10_bestShare_102 hl (by decide) rfl (fun ls hl => ?_)
            obtain ⟨z17, ez17⟩ : ∃ y : Int32, y = v5 + (1) := ⟨_, rfl⟩
            refine lv_iinc (v := z17) (lv' := [(5, .int z17), (4, .int r9), (3, .int v5), (6, .int r9), (0, .ref h0), (1, .int x1), (2, .int x2)]) hx hb dX10_bestShare_104 hl (k := 6) rfl (by rw [ez17]; rfl) (by decide) rfl (fun ls hl => ?_)
            have tz17 := tn_add ez17 rfl kI_1 (by omega) (by omega)
            refine lv_goto (tgt := 38) hx hb dX10_bestShare_107 (by decide) ?_
            exact ih38 4 (upA A 4 t8) H locs ls v5 r9 z17 hG (lv_sub hl [4, 5, 6, 2, 1, 0] rfl) (by omega) (by omega) (by omega) (by omega) (by omega) (by omega) (by omega) (by exact ⟨(upA_ne (by decide)).trans hA2, (upA_ne (by decide)).trans hA3, by omega⟩) (by omega)
  refine lv_aload_n hx hb dX10_bestShare_0 rfl (lv_at hl 0 rfl) ?_
  refine lv_iload_n hx hb dX10_bestShare_1 rfl (lv_at hl 1 rfl) ?_
  refine tc_callp (mc_runV (As := [.int x1]) (rest := []) E hG (c_X10_isBox l G (σ, 2, qX a) h0 x1 t0) t0 rfl kv_X10_isBox ml_X10_127 ⟨rfl, rfl, Nat.le_of_ble_eq_true rfl, Nat.le_of_ble_eq_true rfl⟩ rfl hl.1 rfl (Nat.le_of_ble_eq_true rfl) ⟨Nat.zero_le _, Nat.zero_le _⟩ dX10_bestShare_2) (fun r18 pr18 => ?_)
  replace pr18 : (r18.toInt = 1 ∧ 0 ≤ x1.toInt ∧ x1.toInt ≤ 23 ∧ mV (σ, 2, qX a) (ix x1.toInt 0) 1) ∨ (r18.toInt = 0 ∧ (x1.toInt < 0 ∨ 23 < x1.toInt ∨ ∃ v : Int32, ¬ v.toInt = 1 ∧ mV (σ, 2, qX a) (ix x1.toInt 0) v)) := pr18
  have cr18 := mB pr18 (qX_TI mu_2 hA2) hI
  clear pr18
  refine lv_if_eq (tgt := 18) hx hb dX10_bestShare_5 (by decide) (fun c19 => ?_) (fun c19 => ?_)
  · skip
    have ic19 := tn_eq rfl kI_0 c19
    refine lv_iconst (v := -1) hx hb dX10_bestShare_18 (by decide) ?_
    exact mc_iretX E hr hlk hG rfl rfl ⟨_, rfl, hA2, hA3⟩ dX10_bestShare_19
  · skip
    have ic19 := tn_ne rfl kI_0 c19
    refine lv_iload_n hx hb dX10_bestShare_8 rfl (lv_at hl 2 rfl) ?_
    refine lv_i2l hx hb dX10_bestShare_9 rfl ?_
    refine lv_topl (fun z20 ez20 => ?_)
    have tz20 := tl_i2l ez20
    refine lv_lconst (v := 0) hx hb dX10_bestShare_10 (by decide) ?_
    refine lv_topl (fun z21 ez21 => ?_)
    have tz21 : z21.toInt = 0 := by rw [ez21]; decide
    refine lv_lconst (v := 1) hx hb dX10_bestShare_11 (by decide) ?_
    refine lv_topl (fun z22 ez22 => ?_)
    have tz22 : z22.toInt = 1 := by rw [ez22]; decide
    refine tc_callp (mc_runS (As := [.long z20, .long z21, .long z22]) (rest := []) E hG (c_X10_in l G (σ, 2, qX a) z20 z21 z22) ks_X10_in ml_X10_87 ⟨rfl, rfl, Nat.le_of_ble_eq_true rfl, Nat.le_of_ble_eq_true rfl⟩ rfl hl.1 rfl (Nat.le_of_ble_eq_true rfl) ⟨Nat.zero_le _, Nat.zero_le _⟩ dX10_bestShare_12) (fun r23 pr23 => ?_)
    replace pr23 : ((r23.toInt = 1 ∧ z21.toInt ≤ z20.toInt ∧ z20.toInt ≤ z22.toInt) ∨ (r23.toInt = 0 ∧ (z20.toInt < z21.toInt ∨ z22.toInt < z20.toInt))) := pr23
    refine lv_if_ne (tgt := 20) hx hb dX10_bestShare_15 (by decide) (fun c24 => ?_) (fun c24 => ?_)
    · skip
      have ic24 := tn_ne rfl kI_0 c24
      refine lv_aload_n hx hb dX10_bestShare_20 rfl (lv_at hl 0 rfl) ?_
      refine tc_callp (mc_runV (As := []) (rest := []) E hG (c_X10_isFull l G (σ, 2, qX a) h0 t0) t0 rfl kv_X10_isFull ml_X10_409 ⟨rfl, rfl, Nat.le_of_ble_eq_true rfl, Nat.le_of_ble_eq_true rfl⟩ rfl hl.1 rfl (Nat.le_of_ble_eq_true rfl) ⟨Nat.zero_le _, Nat.zero_le _⟩ dX10_bestShare_21) (fun r25 pr25 => ?_)
      replace pr25 : 0 ≤ r25.toInt ∧ r25.toInt ≤ 1 := pr25
      refine lv_if_eq (tgt := 30) hx hb dX10_bestShare_24 (by decide) (fun c26 => ?_) (fun c26 => ?_)
      · skip
        have ic26 := tn_eq rfl kI_0 c26
        refine lv_iconst (v := 0) hx hb dX10_bestShare_30 (by decide) ?_
        refine lv_istore_n (lv' := [(3, .int 0), (0, .ref h0), (1, .int x1), (2, .int x2)]) hx hb dX10_bestShare_31 rfl hl (by decide) rfl (fun ls hl => ?_)
        refine lv_iconst (v := -1) hx hb dX10_bestShare_32 (by decide) ?_
        refine lv_istore (lv' := [(4, .int (-1)), (3, .int 0), (0, .ref h0), (1, .int x1), (2, .int x2)]) hx hb dX10_bestShare_33 hl (by decide) rfl (fun ls hl => ?_)
        refine lv_iconst (v := 0) hx hb dX10_bestShare_35 (by decide) ?_
        refine lv_istore (lv' := [(5, .int 0), (4, .int (-1)), (3, .int 0), (0, .ref h0), (1, .int x1), (2, .int x2)]) hx hb dX10_bestShare_36 hl (by decide) rfl (fun ls hl => ?_)
        exact J38 ((10 - (0 : Int32).toInt).toNat + 1) 2 a H locs ls (0 : Int32) (-1 : Int32) (0 : Int32) hG (lv_sub hl [3, 4, 5, 2, 1, 0] rfl) (by omega) (by omega) (by decide) (by decide) (by decide) (by decide) (by decide) (by exact ⟨hA2, hA3, by omega⟩) (Nat.lt_succ_self _)
      · skip
        have ic26 := tn_ne rfl kI_0 c26
        refine lv_bipush (v := -4) hx hb dX10_bestShare_27 (by decide) ?_
        exact mc_iretX E hr hlk hG rfl rfl ⟨_, rfl, hA2, hA3⟩ dX10_bestShare_29
    · skip
      have ic24 := tn_eq rfl kI_0 c24
      refine lv_iconst (v := -1) hx hb dX10_bestShare_18 (by decide) ?_
      exact mc_iretX E hr hlk hG rfl rfl ⟨_, rfl, hA2, hA3⟩ dX10_bestShare_19

set_option maxHeartbeats 4000000 in
set_option maxRecDepth 100000 in
theorem c_X10_fits (l : Launch) (G : tG) (σ : Nat → Nat) (a : Nat → Option (Nat → Int32)) (ta : Nat → Int32) (h0 : Nat) (x1 : Int32) (x2 : Int32) (t0 : σ h0 = 1) (ha : a 2 = some ta) (hIa : TInv ta) : Met l yX10_fits (.code yX10_fits cX10_fits 5 (some .int) :: tWS) (tRm 10 228) (va_Pc [.ref h0, .int x1, .int x2] (mPre G (σ, 2, qX a))) (mQiX G (σ, 2, qX a) (fun r Z => ∃ A : Nat → Option (Nat → Int32), Z = (σ, 2, qX A) ∧ A 2 = some ta ∧ A 3 = a 3)) 0 0 (mA (σ, 2, qX a)) := by
  refine mc_met (by decide) (Nat.le_of_ble_eq_true rfl) ?_
  intro p e s m below meth c E hr hlk hG ls hl
  have hl : lv_has ls 5 [(0, .ref h0), (1, .int x1), (2, .int x2)] := hl
  have hx := E.1
  have hb := E.2.1
  obtain ⟨H, eH⟩ : ∃ H, H = s.heap := ⟨_, rfl⟩
  obtain ⟨locs, eL⟩ : ∃ x : List Loc, x = [] := ⟨_, rfl⟩
  have hG : mGH G (σ, 2, qX a) s H locs := by rw [eH, eL]; exact hG
  suffices hW : W p l e (tRm 10 228) s m ([.ref h0, .int x1, .int x2] : List Value).toArray below meth c H locs 0 0 (MQ below (mQiX G (σ, 2, qX a) (fun r Z => ∃ A : Nat → Option (Nat → Int32), Z = (σ, 2, qX A) ∧ A 2 = some ta ∧ A 3 = a 3)) ([.ref h0, .int x1, .int x2] : List Value).toArray s 0 0 (mA (σ, 2, qX a))) (F0 m 0 ls []) by subst eH; subst eL; exact hW
  clear eH eL
  have hA2 := ha
  have hA3 : a 3 = a 3 := rfl
  have hI := hIa
  have hcu := mu_2
  have hT2 : A2 ta ta := A2.refl
  have J50 : ∀ (n50 : Nat) (A : Nat → Option (Nat → Int32)) (H : Heap) (locs : List Loc) (ls : Array Slot) (v3 : Int32) (v4 : Int32), mGH G (σ, 2, qX A) s H locs → lv_has ls 5 [(0, .ref h0), (1, .int x1), (2, .int x2), (3, .int v3), (4, .int v4)] → 0 ≤ x1.toInt → x1.toInt ≤ 23 → 0 ≤ x2.toInt → x2.toInt ≤ 3 → 0 ≤ v4.toInt → v4.toInt ≤ 21 → (A 2 = some ta ∧ A 3 = a 3 ∧ x1.toInt < (ta 3).toInt) → (21 - v4.toInt).toNat < n50 → W p l e (tRm 10 228) s m ([.ref h0, .int x1, .int x2] : List Value).toArray below meth c H locs 0 0 (MQ below (mQiX G (σ, 2, qX a) (fun r Z => ∃ A : Nat → Option (Nat → Int32), Z = (σ, 2, qX A) ∧ A 2 = some ta ∧ A 3 = a 3)) ([.ref h0, .int x1, .int x2] : List Value).toArray s 0 0 (mA (σ, 2, qX a))) (F0 m 50 ls []) := by
    intro n50
    induction n50 with
    | zero => intro A H locs ls v3 v4 hG hl bp1 cp1 bp2 cp2 b4 c4 hex50 hn50; exact absurd hn50 (Nat.not_lt_zero _)
    | succ n50 ih50 =>
      intro A H locs ls v3 v4 hG hl bp1 cp1 bp2 cp2 b4 c4 hex50 hn50
      have hA2 := hex50.1
      have hA3 := hex50.2.1
      have hI := hIa
      have hcu := mu_2
      refine lv_iload hx hb dX10_fits_50 (lv_at hl 4 rfl) ?_
      refine lv_bipush (v := 20) hx hb dX10_fits_52 (by decide) ?_
      refine lv_icmp_gt (tgt := 120) hx hb dX10_fits_54 (by decide) (fun c1 => ?_) (fun c1 => ?_)
      · skip
        have ic1 := tn_lt kI_20 rfl c1
        refine lv_iload_n hx hb dX10_fits_120 rfl (lv_at hl 3 rfl) ?_
        exact mc_iretX E hr hlk hG rfl rfl ⟨_, rfl, hA2, hA3⟩ dX10_fits_121
      · skip
        have ic1 := tn_nlt kI_20 rfl c1
        refine lv_aload_n hx hb dX10_fits_57 rfl (lv_at hl 0 rfl) ?_
        refine lv_iload_n hx hb dX10_fits_58 rfl (lv_at hl 1 rfl) ?_
        refine lv_iload_n hx hb dX10_fits_59 rfl (lv_at hl 2 rfl) ?_
        refine lv_iload hx hb dX10_fits_60 (lv_at hl 4 rfl) ?_
        refine tc_callp (mc_runV (As := [.int x1, .int x2, .int v4]) (rest := []) E hG (c_X10_isToldGood l G (σ, 2, qX A) h0 x1 x2 v4 t0 (by omega) (by omega) (by omega) (by omega) ta (qX_TI mu_2 hA2) hI) t0 rfl kv_X10_isToldGood ml_X10_147 ⟨rfl, rfl, Nat.le_of_ble_eq_true rfl, Nat.le_of_ble_eq_true rfl⟩ rfl hl.1 rfl (Nat.le_of_ble_eq_true rfl) ⟨Nat.zero_le _, Nat.zero_le _⟩ dX10_fits_62) (fun r2 pr2 => ?_)
        replace pr2 : r2.toInt = 0 ∨ (r2.toInt = 1 ∧ 0 ≤ v4.toInt ∧ v4.toInt ≤ 99 ∧ (¬ x2.toInt = 4 ∨ v4.toInt ≤ 9) ∧ (4 ≤ x2.toInt ∨ ¬ K ta x1.toInt 1 = 6 ∨ 1 ≤ v4.toInt)) := pr2
        refine lv_if_eq (tgt := 114) hx hb dX10_fits_65 (by decide) (fun c3 => ?_) (fun c3 => ?_)
        · skip
          have ic3 := tn_eq rfl kI_0 c3
          obtain ⟨z4, ez4⟩ : ∃ y : Int32, y = v4 + (1) := ⟨_, rfl⟩
          refine lv_iinc (v := z4) (lv' := [(4, .int z4), (0, .ref h0), (1, .int x1), (2, .int x2), (3, .int v3)]) hx hb dX10_fits_114 hl (k := 4) rfl (by rw [ez4]; rfl) (by decide) rfl (fun ls hl => ?_)
          have tz4 := tn_add ez4 rfl kI_1 (by omega) (by omega)
          refine lv_goto (tgt := 50) hx hb dX10_fits_117 (by decide) ?_
          exact ih50 A H locs ls v3 z4 hG (lv_sub hl [1, 2, 3, 4, 0] rfl) (by omega) (by omega) (by omega) (by omega) (by omega) (by omega) (by exact ⟨hA2, hA3, by omega⟩) (by omega)
        · skip
          have ic3 := tn_ne rfl kI_0 c3
          refine lv_aload_n hx hb dX10_fits_68 rfl (lv_at hl 0 rfl) ?_
          refine lv_aload_n hx hb dX10_fits_69 rfl (lv_at hl 0 rfl) ?_
          refine mc_getr E hG t0 mr_21 dX10_fits_70 (fun oa5 hoa5 => ?_)
          refine mc_callvX hG (mc_runV (As := [.ref oa5]) (rest := []) E hG (c_X10_thinks l G σ 2 A 4 ta h0 oa5 t0 hoa5 mu_4 (by decide) hA2) t0 rfl kv_X10_thinks ml_X10_412 ⟨rfl, rfl, Nat.le_of_ble_eq_true rfl, Nat.le_of_ble_eq_true rfl⟩ rfl hl.1 rfl (Nat.le_of_ble_eq_true rfl) ⟨Nat.zero_le _, Nat.zero_le _⟩ dX10_fits_73) (fun Z H locs eZ pZ hG => ?_)
          subst pZ
          clear eZ
          have hI := hIa
          have hT2 : A2 ta ta := A2.refl
          have hcu := mu_4
          refine lv_aload_n hx hb dX10_fits_76 rfl (lv_at hl 0 rfl) ?_
          refine lv_iload_n hx hb dX10_fits_77 rfl (lv_at hl 1 rfl) ?_
          refine lv_iload_n hx hb dX10_fits_78 rfl (lv_at hl 2 rfl) ?_
          refine lv_iload hx hb dX10_fits_79 (lv_at hl 4 rfl) ?_
          refine mc_callvX hG (mc_runV (As := [.int x1, .int x2, .int v4]) (rest := []) E hG (c_X10_tellsIt l G σ 4 A ta h0 x1 x2 v4 t0 (by omega) (by omega) (by omega) (by omega) hI (by omega) (by omega) (by omega) (by omega) (by omega)) t0 rfl kv_X10_tellsIt ml_X10_150 ⟨rfl, rfl, Nat.le_of_ble_eq_true rfl, Nat.le_of_ble_eq_true rfl⟩ rfl hl.1 rfl (Nat.le_of_ble_eq_true rfl) ⟨Nat.zero_le _, Nat.zero_le _⟩ dX10_fits_81) (fun Z H locs eZ pZ hG => ?_)
          obtain ⟨t7, rfl, pt7, hI⟩ := pZ
          clear eZ
          have h3n : (t7 3).toInt = (ta 3).toInt := by rw [pt7.2.1]
          have h0n : (t7 0).toInt = (ta 0).toInt := by rw [pt7.1]
          have hT2 := hT2.trans pt7
          have h0t : (t7 0).toInt = (ta 0).toInt := by rw [hT2.1]
          have h3t : (t7 3).toInt = (ta 3).toInt := by rw [hT2.2.1]
          refine lv_aload_n hx hb dX10_fits_84 rfl (lv_at hl 0 rfl) ?_
          refine mc_callvX hG (mc_runV (As := []) (rest := []) E hG (c_X10_laysInThought l G σ 4 A t7 h0 t0 hI) t0 rfl kv_X10_laysInThought ml_X10_416 ⟨rfl, rfl, Nat.le_of_ble_eq_true rfl, Nat.le_of_ble_eq_true rfl⟩ rfl hl.1 rfl (Nat.le_of_ble_eq_true rfl) ⟨Nat.zero_le _, Nat.zero_le _⟩ dX10_fits_85) (fun Z H locs eZ pZ hG => ?_)
          obtain ⟨t9, rfl, pt9, hI⟩ := pZ
          clear eZ
          have h3n : (t9 3).toInt = (t7 3).toInt := by rw [pt9.2.1]
          have h0n : (t9 0).toInt = (t7 0).toInt := by rw [pt9.1]
          have hT2 := hT2.trans pt9.A2
          have h0t : (t9 0).toInt = (ta 0).toInt := by rw [hT2.1]
          have h3t : (t9 3).toInt = (ta 3).toInt := by rw [hT2.2.1]
          refine lv_iload_n hx hb dX10_fits_88 rfl (lv_at hl 3 rfl) ?_
          refine lv_aload_n hx hb dX10_fits_89 rfl (lv_at hl 0 rfl) ?_
          refine tc_callp (mc_runV (As := []) (rest := [.int v3]) E hG (c_X10_isFitting l G (σ, 4, qX (upA A 4 t9)) h0 t0) t0 rfl kv_X10_isFitting ml_X10_419 ⟨rfl, rfl, Nat.le_of_ble_eq_true rfl, Nat.le_of_ble_eq_true rfl⟩ rfl hl.1 rfl (Nat.le_of_ble_eq_true rfl) ⟨Nat.zero_le _, Nat.zero_le _⟩ dX10_fits_90) (fun r10 pr10 => ?_)
          replace pr10 : 0 ≤ r10.toInt ∧ r10.toInt ≤ 1 := pr10
          refine lv_if_eq (tgt := 103) hx hb dX10_fits_93 (by decide) (fun c11 => ?_) (fun c11 => ?_)
          · skip
            have ic11 := tn_eq rfl kI_0 c11
            refine lv_iconst (v := 0) hx hb dX10_fits_103 (by decide) ?_
            refine lv_ior hx hb dX10_fits_104 ?_
            refine lv_topi (fun z12 ez12 => ?_)
            refine lv_istore_n (lv' := [(3, .int z12), (0, .ref h0), (1, .int x1), (2, .int x2), (4, .int v4)]) hx hb dX10_fits_105 rfl hl (by decide) rfl (fun ls hl => ?_)
            refine lv_aload_n hx hb dX10_fits_106 rfl (lv_at hl 1 rfl) ?_
            refine lv_aload_n hx hb dX10_fits_107 rfl (lv_at hl 1 rfl) ?_
            refine mc_getr E hG t0 mr_15 dX10_fits_108 (fun oa13 hoa13 => ?_)
            obtain ⟨A14, eA14⟩ : ∃ Z : Nat → Option (Nat → Int32), Z = upA A 4 t9 := ⟨_, rfl⟩
            rw [← eA14] at hG
            have hA2 : A14 2 = some ta := by rw [eA14]; exact (upA_ne (by decide)).trans hA2
            have hA3 : A14 3 = a 3 := by rw [eA14]; exact (upA_ne (by decide)).trans hA3
            refine mc_putn E hG t0 fq_X10_9 (show mCu (σ oa13) by rw [show σ oa13 = 2 from hoa13]; exact mu_2) dX10_fits_111 (fun H locs hG => ?_)
            have hG : mGH G (σ, σ oa13, qX A14) s H locs := hG
            rw [show σ oa13 = 2 from hoa13] at hG
            have hcu := mu_2
            have hI := hIa
            obtain ⟨z15, ez15⟩ : ∃ y : Int32, y = v4 + (1) := ⟨_, rfl⟩
            refine lv_iinc (v := z15) (lv' := [(4, .int z15), (3, .int z12), (0, .ref h0), (1, .int x1), (2, .int x2)]) hx hb dX10_fits_114 hl (k := 4) rfl (by rw [ez15]; rfl) (by decide) rfl (fun ls hl => ?_)
            have tz15 := tn_add ez15 rfl kI_1 (by omega) (by omega)
            refine lv_goto (tgt := 50) hx hb dX10_fits_117 (by decide) ?_
            exact ih50 A14 H locs ls z12 z15 hG (lv_sub hl [2, 3, 4, 1, 0] rfl) (by omega) (by omega) (by omega) (by omega) (by omega) (by omega) (by exact ⟨hA2, hA3, by omega⟩) (by omega)
          · skip
            have ic11 := tn_ne rfl kI_0 c11
            refine lv_iconst (v := 1) hx hb dX10_fits_96 (by decide) ?_
            refine lv_iload hx hb dX10_fits_97 (lv_at hl 4 rfl) ?_
            refine lv_ishl hx hb dX10_fits_99 ?_
            refine lv_topi (fun z16 ez16 => ?_)
            refine lv_goto (tgt := 104) hx hb dX10_fits_100 (by decide) ?_
            refine lv_ior hx hb dX10_fits_104 ?_
            refine lv_topi (fun z17 ez17 => ?_)
            refine lv_istore_n (lv' := [(3, .int z17), (0, .ref h0), (1, .int x1), (2, .int x2), (4, .int v4)]) hx hb dX10_fits_105 rfl hl (by decide) rfl (fun ls hl => ?_)
            refine lv_aload_n hx hb dX10_fits_106 rfl (lv_at hl 1 rfl) ?_
            refine lv_aload_n hx hb dX10_fits_107 rfl (lv_at hl 1 rfl) ?_
            refine mc_getr E hG t0 mr_15 dX10_fits_108 (fun oa18 hoa18 => ?_)
            obtain ⟨A19, eA19⟩ : ∃ Z : Nat → Option (Nat → Int32), Z = upA A 4 t9 := ⟨_, rfl⟩
            rw [← eA19] at hG
            have hA2 : A19 2 = some ta := by rw [eA19]; exact (upA_ne (by decide)).trans hA2
            have hA3 : A19 3 = a 3 := by rw [eA19]; exact (upA_ne (by decide)).trans hA3
            refine mc_putn E hG t0 fq_X10_9 (show mCu (σ oa18) by rw [show σ oa18 = 2 from hoa18]; exact mu_2) dX10_fits_111 (fun H locs hG => ?_)
            have hG : mGH G (σ, σ oa18, qX A19) s H locs := hG
            rw [show σ oa18 = 2 from hoa18] at hG
            have hcu := mu_2
            have hI := hIa
            obtain ⟨z20, ez20⟩ : ∃ y : Int32, y = v4 + (1) := ⟨_, rfl⟩
            refine lv_iinc (v := z20) (lv' := [(4, .int z20), (3, .int z17), (0, .ref h0), (1, .int x1), (2, .int x2)]) hx hb dX10_fits_114 hl (k := 4) rfl (by rw [ez20]; rfl) (by decide) rfl (fun ls hl => ?_)
            have tz20 := tn_add ez20 rfl kI_1 (by omega) (by omega)
            refine lv_goto (tgt := 50) hx hb dX10_fits_117 (by decide) ?_
            exact ih50 A19 H locs ls z17 z20 hG (lv_sub hl [2, 3, 4, 1, 0] rfl) (by omega) (by omega) (by omega) (by omega) (by omega) (by omega) (by exact ⟨hA2, hA3, by omega⟩) (by omega)
  refine lv_aload_n hx hb dX10_fits_0 rfl (lv_at hl 0 rfl) ?_
  refine lv_iload_n hx hb dX10_fits_1 rfl (lv_at hl 1 rfl) ?_
  refine tc_callp (mc_runV (As := [.int x1]) (rest := []) E hG (c_X10_isBox l G (σ, 2, qX a) h0 x1 t0) t0 rfl kv_X10_isBox ml_X10_127 ⟨rfl, rfl, Nat.le_of_ble_eq_true rfl, Nat.le_of_ble_eq_true rfl⟩ rfl hl.1 rfl (Nat.le_of_ble_eq_true rfl) ⟨Nat.zero_le _, Nat.zero_le _⟩ dX10_fits_2) (fun r21 pr21 => ?_)
  replace pr21 : (r21.toInt = 1 ∧ 0 ≤ x1.toInt ∧ x1.toInt ≤ 23 ∧ mV (σ, 2, qX a) (ix x1.toInt 0) 1) ∨ (r21.toInt = 0 ∧ (x1.toInt < 0 ∨ 23 < x1.toInt ∨ ∃ v : Int32, ¬ v.toInt = 1 ∧ mV (σ, 2, qX a) (ix x1.toInt 0) v)) := pr21
  have cr21 := mB pr21 (qX_TI mu_2 hA2) hI
  clear pr21
  refine lv_if_eq (tgt := 33) hx hb dX10_fits_5 (by decide) (fun c22 => ?_) (fun c22 => ?_)
  · skip
    have ic22 := tn_eq rfl kI_0 c22
    refine lv_iconst (v := -1) hx hb dX10_fits_33 (by decide) ?_
    exact mc_iretX E hr hlk hG rfl rfl ⟨_, rfl, hA2, hA3⟩ dX10_fits_34
  · skip
    have ic22 := tn_ne rfl kI_0 c22
    refine lv_iload_n hx hb dX10_fits_8 rfl (lv_at hl 2 rfl) ?_
    refine lv_i2l hx hb dX10_fits_9 rfl ?_
    refine lv_topl (fun z23 ez23 => ?_)
    have tz23 := tl_i2l ez23
    refine lv_lconst (v := 0) hx hb dX10_fits_10 (by decide) ?_
    refine lv_topl (fun z24 ez24 => ?_)
    have tz24 : z24.toInt = 0 := by rw [ez24]; decide
    refine lv_ldc2 (v := 3) hx hb E.2.2.2.1 (E.2.2.2.2.1 _ (t_w7 212 rfl rfl)) dX10_fits_11 ?_
    refine lv_topl (fun z25 ez25 => ?_)
    have tz25 : z25.toInt = 3 := by rw [ez25]; decide
    refine tc_callp (mc_runS (As := [.long z23, .long z24, .long z25]) (rest := []) E hG (c_X10_in l G (σ, 2, qX a) z23 z24 z25) ks_X10_in ml_X10_87 ⟨rfl, rfl, Nat.le_of_ble_eq_true rfl, Nat.le_of_ble_eq_true rfl⟩ rfl hl.1 rfl (Nat.le_of_ble_eq_true rfl) ⟨Nat.zero_le _, Nat.zero_le _⟩ dX10_fits_14) (fun r26 pr26 => ?_)
    replace pr26 : ((r26.toInt = 1 ∧ z24.toInt ≤ z23.toInt ∧ z23.toInt ≤ z25.toInt) ∨ (r26.toInt = 0 ∧ (z23.toInt < z24.toInt ∨ z25.toInt < z23.toInt))) := pr26
    refine lv_if_eq (tgt := 33) hx hb dX10_fits_17 (by decide) (fun c27 => ?_) (fun c27 => ?_)
    · skip
      have ic27 := tn_eq rfl kI_0 c27
      refine lv_iconst (v := -1) hx hb dX10_fits_33 (by decide) ?_
      exact mc_iretX E hr hlk hG rfl rfl ⟨_, rfl, hA2, hA3⟩ dX10_fits_34
    · skip
      have ic27 := tn_ne rfl kI_0 c27
      refine lv_iload_n hx hb dX10_fits_20 rfl (lv_at hl 2 rfl) ?_
      refine lv_aload_n hx hb dX10_fits_21 rfl (lv_at hl 0 rfl) ?_
      refine lv_iload_n hx hb dX10_fits_22 rfl (lv_at hl 1 rfl) ?_
      refine lv_iconst (v := 1) hx hb dX10_fits_23 (by decide) ?_
      refine tc_callp (mc_runV (As := [.int x1, .int 1]) (rest := [.int x2]) E hG (c_X10_get l G (σ, 2, qX a) h0 x1 (1 : Int32) t0 (by omega) (by omega) (by decide) (by decide)) t0 rfl kv_X10_get ml_X10_91 ⟨rfl, rfl, Nat.le_of_ble_eq_true rfl, Nat.le_of_ble_eq_true rfl⟩ rfl hl.1 rfl (Nat.le_of_ble_eq_true rfl) ⟨Nat.zero_le _, Nat.zero_le _⟩ dX10_fits_24) (fun r28 pr28 => ?_)
      replace pr28 : mV (σ, 2, qX a) (ix x1.toInt (1 : Int32).toInt) r28 := pr28
      have pr28 := mV_l pr28 kI_1
      have br28 := mV_1 pr28 (by omega)
      have cr28 := mT pr28 (qX_TI mu_2 hA2) (by omega) (by omega) (by decide) (by decide)
      have k29 := kI_1
      refine tc_callp (mc_runS (As := [.int r28]) (rest := [.int x2]) E hG (c_X10_numbersOf l G (σ, 2, qX a) r28) ks_X10_numbersOf ml_X10_110 ⟨rfl, rfl, Nat.le_of_ble_eq_true rfl, Nat.le_of_ble_eq_true rfl⟩ rfl hl.1 rfl (Nat.le_of_ble_eq_true rfl) ⟨Nat.zero_le _, Nat.zero_le _⟩ dX10_fits_27) (fun r30 pr30 => ?_)
      replace pr30 : (r28.toInt = 3 ∧ r30.toInt = 4) ∨ ((r28.toInt = 4 ∨ r28.toInt = 5) ∧ r30.toInt = 0) ∨ (r28.toInt = 7 ∧ r30.toInt = 1) ∨ (¬ r28.toInt = 3 ∧ ¬ r28.toInt = 4 ∧ ¬ r28.toInt = 5 ∧ ¬ r28.toInt = 7 ∧ r30.toInt = 2) := pr30
      refine lv_icmp_lt (tgt := 35) hx hb dX10_fits_30 (by decide) (fun c31 => ?_) (fun c31 => ?_)
      · skip
        have ic31 := tn_lt rfl rfl c31
        refine lv_aload_n hx hb dX10_fits_35 rfl (lv_at hl 0 rfl) ?_
        refine tc_callp (mc_runV (As := []) (rest := []) E hG (c_X10_isFull l G (σ, 2, qX a) h0 t0) t0 rfl kv_X10_isFull ml_X10_409 ⟨rfl, rfl, Nat.le_of_ble_eq_true rfl, Nat.le_of_ble_eq_true rfl⟩ rfl hl.1 rfl (Nat.le_of_ble_eq_true rfl) ⟨Nat.zero_le _, Nat.zero_le _⟩ dX10_fits_36) (fun r32 pr32 => ?_)
        replace pr32 : 0 ≤ r32.toInt ∧ r32.toInt ≤ 1 := pr32
        refine lv_if_eq (tgt := 45) hx hb dX10_fits_39 (by decide) (fun c33 => ?_) (fun c33 => ?_)
        · skip
          have ic33 := tn_eq rfl kI_0 c33
          refine lv_iconst (v := 0) hx hb dX10_fits_45 (by decide) ?_
          refine lv_istore_n (lv' := [(3, .int 0), (0, .ref h0), (1, .int x1), (2, .int x2)]) hx hb dX10_fits_46 rfl hl (by decide) rfl (fun ls hl => ?_)
          refine lv_iconst (v := 0) hx hb dX10_fits_47 (by decide) ?_
          refine lv_istore (lv' := [(4, .int 0), (3, .int 0), (0, .ref h0), (1, .int x1), (2, .int x2)]) hx hb dX10_fits_48 hl (by decide) rfl (fun ls hl => ?_)
          exact J50 ((21 - (0 : Int32).toInt).toNat + 1) a H locs ls (0 : Int32) (0 : Int32) hG (lv_sub hl [2, 3, 4, 1, 0] rfl) (by omega) (by omega) (by omega) (by omega) (by decide) (by decide) (by exact ⟨hA2, hA3, by omega⟩) (Nat.lt_succ_self _)
        · skip
          have ic33 := tn_ne rfl kI_0 c33
          refine lv_bipush (v := -4) hx hb dX10_fits_42 (by decide) ?_
          exact mc_iretX E hr hlk hG rfl rfl ⟨_, rfl, hA2, hA3⟩ dX10_fits_44
      · skip
        have ic31 := tn_nlt rfl rfl c31
        refine lv_iconst (v := -1) hx hb dX10_fits_33 (by decide) ?_
        exact mc_iretX E hr hlk hG rfl rfl ⟨_, rfl, hA2, hA3⟩ dX10_fits_34

set_option maxHeartbeats 4000000 in
set_option maxRecDepth 100000 in
theorem c_X10_narrowest (l : Launch) (G : tG) (σ : Nat → Nat) (a : Nat → Option (Nat → Int32)) (ta : Nat → Int32) (h0 : Nat) (t0 : σ h0 = 1) (ha : a 2 = some ta) (hIa : TInv ta) : Met l yX10_narrowest (.code yX10_narrowest cX10_narrowest 3 (some .int) :: tWS) (tRm 10 228) (va_Pc [.ref h0] (mPre G (σ, 2, qX a))) (mQiX G (σ, 2, qX a) (fun r Z => ∃ A : Nat → Option (Nat → Int32), Z = (σ, 2, qX A) ∧ A 2 = some ta ∧ A 3 = a 3)) 0 0 (mA (σ, 2, qX a)) := by
  refine mc_met (by decide) (Nat.le_of_ble_eq_true rfl) ?_
  intro p e s m below meth c E hr hlk hG ls hl
  have hl : lv_has ls 3 [(0, .ref h0)] := hl
  have hx := E.1
  have hb := E.2.1
  obtain ⟨H, eH⟩ : ∃ H, H = s.heap := ⟨_, rfl⟩
  obtain ⟨locs, eL⟩ : ∃ x : List Loc, x = [] := ⟨_, rfl⟩
  have hG : mGH G (σ, 2, qX a) s H locs := by rw [eH, eL]; exact hG
  suffices hW : W p l e (tRm 10 228) s m ([.ref h0] : List Value).toArray below meth c H locs 0 0 (MQ below (mQiX G (σ, 2, qX a) (fun r Z => ∃ A : Nat → Option (Nat → Int32), Z = (σ, 2, qX A) ∧ A 2 = some ta ∧ A 3 = a 3)) ([.ref h0] : List Value).toArray s 0 0 (mA (σ, 2, qX a))) (F0 m 0 ls []) by subst eH; subst eL; exact hW
  clear eH eL
  have hA2 := ha
  have hA3 : a 3 = a 3 := rfl
  have hI := hIa
  have hcu := mu_2
  have hT2 : A2 ta ta := A2.refl
  have J15 : ∀ (n15 : Nat) (cu : Nat) (A : Nat → Option (Nat → Int32)) (H : Heap) (locs : List Loc) (ls : Array Slot) (v1 : Int32) (v2 : Int32), mGH G (σ, cu, qX A) s H locs → lv_has ls 3 [(0, .ref h0), (1, .int v1), (2, .int v2)] → -5 ≤ v1.toInt → v1.toInt ≤ 200 → 0 ≤ v2.toInt → v2.toInt ≤ 201 → (A 2 = some ta ∧ A 3 = a 3 ∧ True) → (201 - v2.toInt).toNat < n15 → W p l e (tRm 10 228) s m ([.ref h0] : List Value).toArray below meth c H locs 0 0 (MQ below (mQiX G (σ, 2, qX a) (fun r Z => ∃ A : Nat → Option (Nat → Int32), Z = (σ, 2, qX A) ∧ A 2 = some ta ∧ A 3 = a 3)) ([.ref h0] : List Value).toArray s 0 0 (mA (σ, 2, qX a))) (F0 m 15 ls []) := by
    intro n15
    induction n15 with
    | zero => intro cu A H locs ls v1 v2 hG hl b1 c1 b2 c2 hex15 hn15; exact absurd hn15 (Nat.not_lt_zero _)
    | succ n15 ih15 =>
      intro cu A H locs ls v1 v2 hG hl b1 c1 b2 c2 hex15 hn15
      have hA2 := hex15.1
      have hA3 := hex15.2.1
      have hI := hIa
      have hcu : mCu cu := hG.2.2.1
      refine lv_iload_n hx hb dX10_narrowest_15 rfl (lv_at hl 2 rfl) ?_
      refine lv_sipush (v := 200) hx hb dX10_narrowest_16 (by decide) ?_
      refine lv_icmp_gt (tgt := 77) hx hb dX10_narrowest_19 (by decide) (fun c1 => ?_) (fun c1 => ?_)
      · skip
        have ic1 := tn_lt kI_200 rfl c1
        refine lv_aload_n hx hb dX10_narrowest_77 rfl (lv_at hl 0 rfl) ?_
        refine lv_aload_n hx hb dX10_narrowest_78 rfl (lv_at hl 0 rfl) ?_
        refine mc_getr E hG t0 mr_15 dX10_narrowest_79 (fun oa2 hoa2 => ?_)
        refine mc_putn E hG t0 fq_X10_9 (show mCu (σ oa2) by rw [show σ oa2 = 2 from hoa2]; exact mu_2) dX10_narrowest_82 (fun H locs hG => ?_)
        have hG : mGH G (σ, σ oa2, qX A) s H locs := hG
        rw [show σ oa2 = 2 from hoa2] at hG
        have hcu := mu_2
        have hI := hIa
        refine lv_iload_n hx hb dX10_narrowest_85 rfl (lv_at hl 1 rfl) ?_
        exact mc_iretX E hr hlk hG rfl rfl ⟨_, rfl, hA2, hA3⟩ dX10_narrowest_86
      · skip
        have ic1 := tn_nlt kI_200 rfl c1
        refine lv_iload_n hx hb dX10_narrowest_22 rfl (lv_at hl 1 rfl) ?_
        refine lv_if_ge (tgt := 77) hx hb dX10_narrowest_23 (by decide) (fun c3 => ?_) (fun c3 => ?_)
        · skip
          have ic3 := tn_le kI_0 rfl c3
          refine lv_aload_n hx hb dX10_narrowest_77 rfl (lv_at hl 0 rfl) ?_
          refine lv_aload_n hx hb dX10_narrowest_78 rfl (lv_at hl 0 rfl) ?_
          refine mc_getr E hG t0 mr_15 dX10_narrowest_79 (fun oa4 hoa4 => ?_)
          refine mc_putn E hG t0 fq_X10_9 (show mCu (σ oa4) by rw [show σ oa4 = 2 from hoa4]; exact mu_2) dX10_narrowest_82 (fun H locs hG => ?_)
          have hG : mGH G (σ, σ oa4, qX A) s H locs := hG
          rw [show σ oa4 = 2 from hoa4] at hG
          have hcu := mu_2
          have hI := hIa
          refine lv_iload_n hx hb dX10_narrowest_85 rfl (lv_at hl 1 rfl) ?_
          exact mc_iretX E hr hlk hG rfl rfl ⟨_, rfl, hA2, hA3⟩ dX10_narrowest_86
        · skip
          have ic3 := tn_nle kI_0 rfl c3
          refine lv_aload_n hx hb dX10_narrowest_26 rfl (lv_at hl 0 rfl) ?_
          refine mc_getr E hG t0 mr_15 dX10_narrowest_27 (fun oa5 hoa5 => ?_)
          refine lv_iconst (v := 0) hx hb dX10_narrowest_30 (by decide) ?_
          refine mc_nald E hG hoa5 mu_2 (t_in (by decide) (by decide)) dX10_narrowest_31 (fun z6 lz6 uz6 qz6 => ?_)
          have lz6 : -1 ≤ z6.toInt := lz6
          have uz6 : z6.toInt ≤ 23 := uz6
          refine lv_if_lt (tgt := 77) hx hb dX10_narrowest_32 (by decide) (fun c7 => ?_) (fun c7 => ?_)
          · skip
            have ic7 := tn_lt rfl kI_0 c7
            refine lv_aload_n hx hb dX10_narrowest_77 rfl (lv_at hl 0 rfl) ?_
            refine lv_aload_n hx hb dX10_narrowest_78 rfl (lv_at hl 0 rfl) ?_
            refine mc_getr E hG t0 mr_15 dX10_narrowest_79 (fun oa8 hoa8 => ?_)
            refine mc_putn E hG t0 fq_X10_9 (show mCu (σ oa8) by rw [show σ oa8 = 2 from hoa8]; exact mu_2) dX10_narrowest_82 (fun H locs hG => ?_)
            have hG : mGH G (σ, σ oa8, qX A) s H locs := hG
            rw [show σ oa8 = 2 from hoa8] at hG
            have hcu := mu_2
            have hI := hIa
            refine lv_iload_n hx hb dX10_narrowest_85 rfl (lv_at hl 1 rfl) ?_
            exact mc_iretX E hr hlk hG rfl rfl ⟨_, rfl, hA2, hA3⟩ dX10_narrowest_86
          · skip
            have ic7 := tn_nlt rfl kI_0 c7
            refine lv_aload_n hx hb dX10_narrowest_35 rfl (lv_at hl 0 rfl) ?_
            refine lv_aload_n hx hb dX10_narrowest_36 rfl (lv_at hl 0 rfl) ?_
            refine mc_getr E hG t0 mr_21 dX10_narrowest_37 (fun oa9 hoa9 => ?_)
            refine mc_callvX hG (mc_runV (As := [.ref oa9]) (rest := []) E hG (c_X10_thinks l G σ cu A 4 ta h0 oa9 t0 hoa9 mu_4 (by decide) hA2) t0 rfl kv_X10_thinks ml_X10_412 ⟨rfl, rfl, Nat.le_of_ble_eq_true rfl, Nat.le_of_ble_eq_true rfl⟩ rfl hl.1 rfl (Nat.le_of_ble_eq_true rfl) ⟨Nat.zero_le _, Nat.zero_le _⟩ dX10_narrowest_40) (fun Z H locs eZ pZ hG => ?_)
            subst pZ
            clear eZ
            have hI := hIa
            have hT2 : A2 ta ta := A2.refl
            have hcu := mu_4
            refine lv_aload_n hx hb dX10_narrowest_43 rfl (lv_at hl 0 rfl) ?_
            refine lv_iload_n hx hb dX10_narrowest_44 rfl (lv_at hl 2 rfl) ?_
            refine lv_aload_n hx hb dX10_narrowest_45 rfl (lv_at hl 0 rfl) ?_
            refine mc_getn E hG t0 ff_X10_9 dX10_narrowest_46 (fun oa10 hoa10 => ?_)
            refine lv_iconst (v := 2) hx hb dX10_narrowest_49 (by decide) ?_
            refine mc_nald E hG hoa10 hG.2.2.1 (t_in (by decide) (by decide)) dX10_narrowest_50 (fun z11 lz11 uz11 qz11 => ?_)
            have lz11 : 0 ≤ z11.toInt := lz11
            have uz11 : z11.toInt ≤ 1000 := uz11
            refine mc_callvX hG (mc_runV (As := [.int v2, .int z11]) (rest := []) E hG (c_X10_screens l G σ 4 A ta h0 v2 z11 t0 (by omega) (by omega) (by omega) (by omega) hI) t0 rfl kv_X10_screens ml_X10_165 ⟨rfl, rfl, Nat.le_of_ble_eq_true rfl, Nat.le_of_ble_eq_true rfl⟩ rfl hl.1 rfl (Nat.le_of_ble_eq_true rfl) ⟨Nat.zero_le _, Nat.zero_le _⟩ dX10_narrowest_51) (fun Z H locs eZ pZ hG => ?_)
            obtain ⟨t13, rfl, pt13, hI⟩ := pZ
            clear eZ
            have h3n : (t13 3).toInt = (ta 3).toInt := by rw [pt13.2.1]
            have h0n : (t13 0).toInt = (ta 0).toInt := by rw [pt13.1]
            have hT2 := hT2.trans pt13.A2
            have h0t : (t13 0).toInt = (ta 0).toInt := by rw [hT2.1]
            have h3t : (t13 3).toInt = (ta 3).toInt := by rw [hT2.2.1]
            refine lv_aload_n hx hb dX10_narrowest_54 rfl (lv_at hl 0 rfl) ?_
            refine mc_callvX hG (mc_runV (As := []) (rest := []) E hG (c_X10_laysInThought l G σ 4 A t13 h0 t0 hI) t0 rfl kv_X10_laysInThought ml_X10_416 ⟨rfl, rfl, Nat.le_of_ble_eq_true rfl, Nat.le_of_ble_eq_true rfl⟩ rfl hl.1 rfl (Nat.le_of_ble_eq_true rfl) ⟨Nat.zero_le _, Nat.zero_le _⟩ dX10_narrowest_55) (fun Z H locs eZ pZ hG => ?_)
            obtain ⟨t15, rfl, pt15, hI⟩ := pZ
            clear eZ
            have h3n : (t15 3).toInt = (t13 3).toInt := by rw [pt15.2.1]
            have h0n : (t15 0).toInt = (t13 0).toInt := by rw [pt15.1]
            have hT2 := hT2.trans pt15.A2
            have h0t : (t15 0).toInt = (ta 0).toInt := by rw [hT2.1]
            have h3t : (t15 3).toInt = (ta 3).toInt := by rw [hT2.2.1]
            refine lv_aload_n hx hb dX10_narrowest_58 rfl (lv_at hl 0 rfl) ?_
            refine tc_callp (mc_runV (As := []) (rest := []) E hG (c_X10_isFitting l G (σ, 4, qX (upA A 4 t15)) h0 t0) t0 rfl kv_X10_isFitting ml_X10_419 ⟨rfl, rfl, Nat.le_of_ble_eq_true rfl, Nat.le_of_ble_eq_true rfl⟩ rfl hl.1 rfl (Nat.le_of_ble_eq_true rfl) ⟨Nat.zero_le _, Nat.zero_le _⟩ dX10_narrowest_59) (fun r16 pr16 => ?_)
            replace pr16 : 0 ≤ r16.toInt ∧ r16.toInt ≤ 1 := pr16
            refine lv_if_eq (tgt := 69) hx hb dX10_narrowest_62 (by decide) (fun c17 => ?_) (fun c17 => ?_)
            · skip
              have ic17 := tn_eq rfl kI_0 c17
              refine lv_iload_n hx hb dX10_narrowest_69 rfl (lv_at hl 1 rfl) ?_
              refine lv_istore_n (lv' := [(1, .int v1), (0, .ref h0), (2, .int v2)]) hx hb dX10_narrowest_70 rfl hl (by decide) rfl (fun ls hl => ?_)
              obtain ⟨z18, ez18⟩ : ∃ y : Int32, y = v2 + (1) := ⟨_, rfl⟩
              refine lv_iinc (v := z18) (lv' := [(2, .int z18), (1, .int v1), (0, .ref h0)]) hx hb dX10_narrowest_71 hl (k := 2) rfl (by rw [ez18]; rfl) (by decide) rfl (fun ls hl => ?_)
              have tz18 := tn_add ez18 rfl kI_1 (by omega) (by omega)
              refine lv_goto (tgt := 15) hx hb dX10_narrowest_74 (by decide) ?_
              exact ih15 4 (upA A 4 t15) H locs ls v1 z18 hG (lv_sub hl [2, 1, 0] rfl) (by omega) (by omega) (by omega) (by omega) (by exact ⟨(upA_ne (by decide)).trans hA2, (upA_ne (by decide)).trans hA3, trivial⟩) (by omega)
            · skip
              have ic17 := tn_ne rfl kI_0 c17
              refine lv_iload_n hx hb dX10_narrowest_65 rfl (lv_at hl 2 rfl) ?_
              refine lv_goto (tgt := 70) hx hb dX10_narrowest_66 (by decide) ?_
              refine lv_istore_n (lv' := [(1, .int v2), (0, .ref h0), (2, .int v2)]) hx hb dX10_narrowest_70 rfl hl (by decide) rfl (fun ls hl => ?_)
              obtain ⟨z19, ez19⟩ : ∃ y : Int32, y = v2 + (1) := ⟨_, rfl⟩
              refine lv_iinc (v := z19) (lv' := [(2, .int z19), (1, .int v2), (0, .ref h0)]) hx hb dX10_narrowest_71 hl (k := 2) rfl (by rw [ez19]; rfl) (by decide) rfl (fun ls hl => ?_)
              have tz19 := tn_add ez19 rfl kI_1 (by omega) (by omega)
              refine lv_goto (tgt := 15) hx hb dX10_narrowest_74 (by decide) ?_
              exact ih15 4 (upA A 4 t15) H locs ls v2 z19 hG (lv_sub hl [2, 1, 0] rfl) (by omega) (by omega) (by omega) (by omega) (by exact ⟨(upA_ne (by decide)).trans hA2, (upA_ne (by decide)).trans hA3, trivial⟩) (by omega)
  refine lv_aload_n hx hb dX10_narrowest_0 rfl (lv_at hl 0 rfl) ?_
  refine tc_callp (mc_runV (As := []) (rest := []) E hG (c_X10_isFull l G (σ, 2, qX a) h0 t0) t0 rfl kv_X10_isFull ml_X10_409 ⟨rfl, rfl, Nat.le_of_ble_eq_true rfl, Nat.le_of_ble_eq_true rfl⟩ rfl hl.1 rfl (Nat.le_of_ble_eq_true rfl) ⟨Nat.zero_le _, Nat.zero_le _⟩ dX10_narrowest_1) (fun r20 pr20 => ?_)
  replace pr20 : 0 ≤ r20.toInt ∧ r20.toInt ≤ 1 := pr20
  refine lv_if_eq (tgt := 10) hx hb dX10_narrowest_4 (by decide) (fun c21 => ?_) (fun c21 => ?_)
  · skip
    have ic21 := tn_eq rfl kI_0 c21
    refine lv_bipush (v := -5) hx hb dX10_narrowest_10 (by decide) ?_
    refine lv_istore_n (lv' := [(1, .int (-5)), (0, .ref h0)]) hx hb dX10_narrowest_12 rfl hl (by decide) rfl (fun ls hl => ?_)
    refine lv_iconst (v := 0) hx hb dX10_narrowest_13 (by decide) ?_
    refine lv_istore_n (lv' := [(2, .int 0), (1, .int (-5)), (0, .ref h0)]) hx hb dX10_narrowest_14 rfl hl (by decide) rfl (fun ls hl => ?_)
    exact J15 ((201 - (0 : Int32).toInt).toNat + 1) 2 a H locs ls (-5 : Int32) (0 : Int32) hG (lv_sub hl [2, 1, 0] rfl) (by decide) (by decide) (by decide) (by decide) (by exact ⟨hA2, hA3, trivial⟩) (Nat.lt_succ_self _)
  · skip
    have ic21 := tn_ne rfl kI_0 c21
    refine lv_bipush (v := -4) hx hb dX10_narrowest_7 (by decide) ?_
    exact mc_iretX E hr hlk hG rfl rfl ⟨_, rfl, hA2, hA3⟩ dX10_narrowest_9

