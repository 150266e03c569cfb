/-! ===== the reference, exactly: told numbers, boxes that come ===== -/
set_option maxHeartbeats 4000000 in
set_option maxRecDepth 100000 in
theorem x_X10_tellsIt (l : Launch) (G : tG) (σ : Nat → Nat) (cu : Nat) (a : Nat → Option (Nat → Int32)) (ta : Nat → Int32) (h0 : Nat) (x1 : Int32) (x2 : Int32) (x3 : Int32) (t0 : σ h0 = 1) (l1 : 0 ≤ x1.toInt) (u1 : x1.toInt ≤ 23) (l2 : 0 ≤ x2.toInt) (u2 : x2.toInt ≤ 6) (hIa : TInv ta) (hc : x1.toInt < (ta 3).toInt) (hv0 : 0 ≤ x3.toInt) (hv9 : x3.toInt ≤ 99) (hv4 : ¬ x2.toInt = 4 ∨ x3.toInt ≤ 9) (hv6 : 2 ≤ x2.toInt ∨ ¬ K ta x1.toInt 1 = 6 ∨ 1 ≤ x3.toInt) : Met l yX10_tellsIt (.code yX10_tellsIt cX10_tellsIt 4 none :: tWS) (tRm 3 66) (va_Pc [.ref h0, .int x1, .int x2, .int x3] (mPre G (σ, cu, qX (upA a cu ta)))) (mQvX G (σ, cu, qX (upA a cu ta)) (fun Z => ∃ t : Nat → Int32, Z = (σ, cu, qX (upA a cu t)) ∧ AG (upN ta (ix x1.toInt (2 + x2.toInt)) x3) t ∧ TInv t)) 0 0 (mA (σ, cu, qX (upA a cu ta))) := by
  refine mc_met (by decide) (Nat.le_of_ble_eq_true rfl) ?_
  intro p e s m below meth c E hr hlk hG ls hl
  have hl : lv_has ls 4 [(0, .ref h0), (1, .int x1), (2, .int x2), (3, .int x3)] := hl
  have hx := E.1
  have hb := E.2.1
  obtain ⟨H, eH⟩ : ∃ H, H = s.heap := ⟨_, rfl⟩
  obtain ⟨locs, eL⟩ : ∃ x : List Loc, x = [] := ⟨_, rfl⟩
  have hG : mGH G (σ, cu, qX (upA a cu ta)) s H locs := by rw [eH, eL]; exact hG
  suffices hW : W p l e (tRm 3 66) s m ([.ref h0, .int x1, .int x2, .int x3] : List Value).toArray below meth c H locs 0 0 (MQ below (mQvX G (σ, cu, qX (upA a cu ta)) (fun Z => ∃ t : Nat → Int32, Z = (σ, cu, qX (upA a cu t)) ∧ AG (upN ta (ix x1.toInt (2 + x2.toInt)) x3) t ∧ TInv t)) ([.ref h0, .int x1, .int x2, .int x3] : List Value).toArray s 0 0 (mA (σ, cu, qX (upA a cu ta)))) (F0 m 0 ls []) by subst eH; subst eL; exact hW
  clear eH eL
  have hcu : mCu cu := hG.2.2.1
  have hI := hIa
  refine lv_aload_n hx hb dX10_tellsIt_0 rfl (lv_at hl 0 rfl) ?_
  refine lv_iload_n hx hb dX10_tellsIt_1 rfl (lv_at hl 1 rfl) ?_
  refine lv_iconst (v := 2) hx hb dX10_tellsIt_2 (by decide) ?_
  refine lv_iload_n hx hb dX10_tellsIt_3 rfl (lv_at hl 2 rfl) ?_
  refine lv_iadd hx hb dX10_tellsIt_4 ?_
  refine lv_topi (fun z1 ez1 => ?_)
  have tz1 := tn_add ez1 kI_2 rfl (by omega) (by omega)
  refine lv_iload_n hx hb dX10_tellsIt_5 rfl (lv_at hl 3 rfl) ?_
  have k2 : (fR z1.toInt.toNat).1 ≤ x3.toInt ∧ x3.toInt ≤ (fR z1.toInt.toNat).2 := by
    rcases (show z1.toInt = 2 ∨ z1.toInt = 3 ∨ z1.toInt = 4 ∨ z1.toInt = 5 ∨ z1.toInt = 6 ∨ z1.toInt = 7 ∨ z1.toInt = 8 by omega) with h9 | h9 | h9 | h9 | h9 | h9 | h9 <;> rw [h9]
    · show (0 : Int) ≤ _ ∧ _ ≤ (99 : Int); omega
    · show (0 : Int) ≤ _ ∧ _ ≤ (99 : Int); omega
    · show (0 : Int) ≤ _ ∧ _ ≤ (99 : Int); omega
    · show (0 : Int) ≤ _ ∧ _ ≤ (99 : Int); omega
    · show (0 : Int) ≤ _ ∧ _ ≤ (9 : Int); omega
    · show (0 : Int) ≤ _ ∧ _ ≤ (99 : Int); omega
    · show (0 : Int) ≤ _ ∧ _ ≤ (99 : Int); omega
  refine mc_callvX hG (mc_runV (As := [.int x1, .int z1, .int x3]) (rest := []) E hG (c_X10_putX l G (σ, cu, qX (upA a cu ta)) h0 x1 z1 x3 t0 (by omega) (by omega) (by omega) (by omega) _ _ rfl k2.1 k2.2) t0 rfl kv_X10_put ml_X10_102 ⟨rfl, rfl, Nat.le_of_ble_eq_true rfl, Nat.le_of_ble_eq_true rfl⟩ rfl hl.1 rfl (Nat.le_of_ble_eq_true rfl) ⟨Nat.zero_le _, Nat.zero_le _⟩ dX10_tellsIt_6) (fun Z H locs eZ pZ hG => ?_)
  rw [pZ] at hG
  clear eZ pZ Z
  have hG := qX_set hcu (tr_y (by omega) (by omega) (by omega) (by omega)) hG
  obtain ⟨t3, et3⟩ : ∃ Z : Nat → Int32, Z = upN ta (ix x1.toInt z1.toInt) x3 := ⟨_, rfl⟩
  rw [← et3] at hG
  have hA2 : A2 ta t3 := by rw [et3]; exact A2.put (by omega) (by omega) (by omega)
  have hI := TInv_tell hI (by omega) (by omega) (by omega) et3 (by omega)
  have h3t : (t3 3).toInt = (ta 3).toInt := by rw [hA2.2.1]
  refine lv_aload_n hx hb dX10_tellsIt_9 rfl (lv_at hl 0 rfl) ?_
  refine lv_iload_n hx hb dX10_tellsIt_10 rfl (lv_at hl 2 rfl) ?_
  refine lv_iconst (v := 4) hx hb dX10_tellsIt_11 (by decide) ?_
  refine lv_icmp_ge (tgt := 19) hx hb dX10_tellsIt_12 (by decide) (fun c4 => ?_) (fun c4 => ?_)
  · skip
    have ic4 := tn_le kI_4 rfl c4
    refine lv_aload_n hx hb dX10_tellsIt_19 rfl (lv_at hl 0 rfl) ?_
    refine lv_iload_n hx hb dX10_tellsIt_20 rfl (lv_at hl 1 rfl) ?_
    refine lv_bipush (v := 9) hx hb dX10_tellsIt_21 (by decide) ?_
    refine tc_callp (mc_runV (As := [.int x1, .int 9]) (rest := [.ref h0]) E hG (c_X10_get l G (σ, cu, qX (upA a cu t3)) h0 x1 (9 : Int32) t0 (by omega) (by omega) (by decide) (by decide)) t0 rfl kv_X10_get ml_X10_91 ⟨rfl, rfl, Nat.le_of_ble_eq_true rfl, Nat.le_of_ble_eq_true rfl⟩ rfl hl.1 rfl (Nat.le_of_ble_eq_true rfl) ⟨Nat.zero_le _, Nat.zero_le _⟩ dX10_tellsIt_23) (fun r5 pr5 => ?_)
    replace pr5 : mV (σ, cu, qX (upA a cu t3)) (ix x1.toInt (9 : Int32).toInt) r5 := pr5
    have pr5 := mV_l pr5 kI_9
    have br5 := mV_9 pr5 (by omega)
    have cr5 := mT pr5 (qX_TI hcu upA_at) (by omega) (by omega) (by decide) (by decide)
    have dr5 := mP9 cr5 hI (by omega)
    have k6 := kI_9
    refine mc_callvX hG (mc_runV (As := [.int r5]) (rest := []) E hG (c_X10_marks l G σ cu a t3 h0 r5 t0 (by omega) (by omega) hI (by first | omega | (have k1 := kI_m1; have hI1 := hI.1; omega))) t0 rfl kv_X10_marks ml_X10_113 ⟨rfl, rfl, Nat.le_of_ble_eq_true rfl, Nat.le_of_ble_eq_true rfl⟩ rfl hl.1 rfl (Nat.le_of_ble_eq_true rfl) ⟨Nat.zero_le _, Nat.zero_le _⟩ dX10_tellsIt_26) (fun Z H locs eZ pZ hG => ?_)
    obtain ⟨t8, rfl, pt8, hI⟩ := pZ
    clear eZ
    have h3n : (t8 3).toInt = (t3 3).toInt := by rw [pt8.2.1]
    have h0n : (t8 0).toInt = (t3 0).toInt := by rw [pt8.1]
    have hAG := pt8
    rw [et3, show z1.toInt = 2 + x2.toInt by omega] at hAG
    exact mc_vretX E hr hlk hG rfl ⟨_, rfl, hAG, hI⟩ dX10_tellsIt_29
  · skip
    have ic4 := tn_nle kI_4 rfl c4
    refine lv_iload_n hx hb dX10_tellsIt_15 rfl (lv_at hl 1 rfl) ?_
    refine lv_goto (tgt := 26) hx hb dX10_tellsIt_16 (by decide) ?_
    refine mc_callvX hG (mc_runV (As := [.int x1]) (rest := []) E hG (c_X10_marks l G σ cu a t3 h0 x1 t0 (by omega) (by omega) hI (by first | omega | (have k1 := kI_m1; have hI1 := hI.1; omega))) t0 rfl kv_X10_marks ml_X10_113 ⟨rfl, rfl, Nat.le_of_ble_eq_true rfl, Nat.le_of_ble_eq_true rfl⟩ rfl hl.1 rfl (Nat.le_of_ble_eq_true rfl) ⟨Nat.zero_le _, Nat.zero_le _⟩ dX10_tellsIt_26) (fun Z H locs eZ pZ hG => ?_)
    obtain ⟨t10, rfl, pt10, hI⟩ := pZ
    clear eZ
    have h3n : (t10 3).toInt = (t3 3).toInt := by rw [pt10.2.1]
    have h0n : (t10 0).toInt = (t3 0).toInt := by rw [pt10.1]
    have hAG := pt10
    rw [et3, show z1.toInt = 2 + x2.toInt by omega] at hAG
    exact mc_vretX E hr hlk hG rfl ⟨_, rfl, hAG, hI⟩ dX10_tellsIt_29

/-- who may be told what -/
def HTd (t : Nat → Int32) (b w : Int) : Prop := 0 ≤ b ∧ b ≤ 23 ∧ K t b 0 = 1 ∧ 0 ≤ w ∧ w ≤ 6 ∧ (w < 4 → w < nNum (K t b 1))
def TLp (ta t : Nat → Int32) (x1 x2 : Int) (x3 r : Int32) : Prop := (r = -1 ∧ t = ta ∧ ¬ HTd ta x1 x2) ∨ (r = -2 ∧ t = ta ∧ HTd ta x1 x2 ∧ ¬ MTd ta x1 x2 x3.toInt) ∨ (HTd ta x1 x2 ∧ MTd ta x1 x2 x3.toInt ∧ r.toInt = K ta x1 (2 + x2) ∧ AG (upN ta (ix x1 (2 + x2)) x3) t)
set_option maxHeartbeats 4000000 in
set_option maxRecDepth 100000 in
theorem x_X10_tells (l : Launch) (G : tG) (σ : Nat → Nat) (cu : Nat) (a : Nat → Option (Nat → Int32)) (ta : Nat → Int32) (h0 : Nat) (x1 : Int32) (x2 : Int32) (x3 : Int32) (t0 : σ h0 = 1) (hIa : TInv ta) : Met l yX10_tells (.code yX10_tells cX10_tells 5 (some .int) :: tWS) (tRm 4 89) (va_Pc [.ref h0, .int x1, .int x2, .int x3] (mPre G (σ, cu, qX (upA a cu ta)))) (mQiX G (σ, cu, qX (upA a cu ta)) (fun r Z => ∃ t : Nat → Int32, Z = (σ, cu, qX (upA a cu t)) ∧ TLp ta t x1.toInt x2.toInt x3 r ∧ TInv t)) 0 0 (mA (σ, cu, qX (upA a cu ta))) := by
  refine mc_met (by decide) (Nat.le_of_ble_eq_true rfl) ?_
  intro p e s m below meth c E hr hlk hG ls hl
  have hl : lv_has ls 5 [(0, .ref h0), (1, .int x1), (2, .int x2), (3, .int x3)] := hl
  have hx := E.1
  have hb := E.2.1
  obtain ⟨H, eH⟩ : ∃ H, H = s.heap := ⟨_, rfl⟩
  obtain ⟨locs, eL⟩ : ∃ x : List Loc, x = [] := ⟨_, rfl⟩
  have hG : mGH G (σ, cu, qX (upA a cu ta)) s H locs := by rw [eH, eL]; exact hG
  suffices hW : W p l e (tRm 4 89) s m ([.ref h0, .int x1, .int x2, .int x3] : List Value).toArray below meth c H locs 0 0 (MQ below (mQiX G (σ, cu, qX (upA a cu ta)) (fun r Z => ∃ t : Nat → Int32, Z = (σ, cu, qX (upA a cu t)) ∧ TLp ta t x1.toInt x2.toInt x3 r ∧ TInv t)) ([.ref h0, .int x1, .int x2, .int x3] : List Value).toArray s 0 0 (mA (σ, cu, qX (upA a cu ta)))) (F0 m 0 ls []) by subst eH; subst eL; exact hW
  clear eH eL
  have hcu : mCu cu := hG.2.2.1
  have hI := hIa
  refine lv_aload_n hx hb dX10_tells_0 rfl (lv_at hl 0 rfl) ?_
  refine lv_iload_n hx hb dX10_tells_1 rfl (lv_at hl 1 rfl) ?_
  refine tc_callp (mc_runV (As := [.int x1]) (rest := []) E hG (c_X10_isBox l G (σ, cu, qX (upA a cu ta)) h0 x1 t0) t0 rfl kv_X10_isBox ml_X10_127 ⟨rfl, rfl, Nat.le_of_ble_eq_true rfl, Nat.le_of_ble_eq_true rfl⟩ rfl hl.1 rfl (Nat.le_of_ble_eq_true rfl) ⟨Nat.zero_le _, Nat.zero_le _⟩ dX10_tells_2) (fun r1 pr1 => ?_)
  replace pr1 : (r1.toInt = 1 ∧ 0 ≤ x1.toInt ∧ x1.toInt ≤ 23 ∧ mV (σ, cu, qX (upA a cu ta)) (ix x1.toInt 0) 1) ∨ (r1.toInt = 0 ∧ (x1.toInt < 0 ∨ 23 < x1.toInt ∨ ∃ v : Int32, ¬ v.toInt = 1 ∧ mV (σ, cu, qX (upA a cu ta)) (ix x1.toInt 0) v)) := pr1
  have cr1 := mB pr1 (qX_TI hcu upA_at) hI
  clear pr1
  refine lv_if_eq (tgt := 38) hx hb dX10_tells_5 (by decide) (fun c2 => ?_) (fun c2 => ?_)
  · skip
    have ic2 := tn_eq rfl kI_0 c2
    refine lv_iconst (v := -1) hx hb dX10_tells_38 (by decide) ?_
    exact mc_iretX E hr hlk hG rfl rfl ⟨_, rfl, Or.inl ⟨rfl, rfl, by unfold HTd; omega⟩, hI⟩ dX10_tells_39
  · skip
    have ic2 := tn_ne rfl kI_0 c2
    refine lv_iload_n hx hb dX10_tells_8 rfl (lv_at hl 2 rfl) ?_
    refine lv_i2l hx hb dX10_tells_9 rfl ?_
    refine lv_topl (fun z3 ez3 => ?_)
    have tz3 := tl_i2l ez3
    refine lv_lconst (v := 0) hx hb dX10_tells_10 (by decide) ?_
    refine lv_topl (fun z4 ez4 => ?_)
    have tz4 : z4.toInt = 0 := by rw [ez4]; decide
    refine lv_ldc2 (v := 6) hx hb E.2.2.2.1 (E.2.2.2.2.1 _ (t_w6 221 rfl rfl)) dX10_tells_11 ?_
    refine lv_topl (fun z5 ez5 => ?_)
    have tz5 : z5.toInt = 6 := by rw [ez5]; decide
    refine tc_callp (mc_runS (As := [.long z3, .long z4, .long z5]) (rest := []) E hG (c_X10_in l G (σ, cu, qX (upA a cu ta)) z3 z4 z5) ks_X10_in ml_X10_87 ⟨rfl, rfl, Nat.le_of_ble_eq_true rfl, Nat.le_of_ble_eq_true rfl⟩ rfl hl.1 rfl (Nat.le_of_ble_eq_true rfl) ⟨Nat.zero_le _, Nat.zero_le _⟩ dX10_tells_14) (fun r6 pr6 => ?_)
    replace pr6 : ((r6.toInt = 1 ∧ z4.toInt ≤ z3.toInt ∧ z3.toInt ≤ z5.toInt) ∨ (r6.toInt = 0 ∧ (z3.toInt < z4.toInt ∨ z5.toInt < z3.toInt))) := pr6
    refine lv_if_eq (tgt := 38) hx hb dX10_tells_17 (by decide) (fun c7 => ?_) (fun c7 => ?_)
    · skip
      have ic7 := tn_eq rfl kI_0 c7
      refine lv_iconst (v := -1) hx hb dX10_tells_38 (by decide) ?_
      exact mc_iretX E hr hlk hG rfl rfl ⟨_, rfl, Or.inl ⟨rfl, rfl, by unfold HTd; omega⟩, hI⟩ dX10_tells_39
    · skip
      have ic7 := tn_ne rfl kI_0 c7
      refine lv_iload_n hx hb dX10_tells_20 rfl (lv_at hl 2 rfl) ?_
      refine lv_iconst (v := 4) hx hb dX10_tells_21 (by decide) ?_
      refine lv_icmp_ge (tgt := 40) hx hb dX10_tells_22 (by decide) (fun c8 => ?_) (fun c8 => ?_)
      · skip
        have ic8 := tn_le kI_4 rfl c8
        refine lv_aload_n hx hb dX10_tells_40 rfl (lv_at hl 0 rfl) ?_
        refine lv_iload_n hx hb dX10_tells_41 rfl (lv_at hl 1 rfl) ?_
        refine lv_iload_n hx hb dX10_tells_42 rfl (lv_at hl 2 rfl) ?_
        refine lv_iload_n hx hb dX10_tells_43 rfl (lv_at hl 3 rfl) ?_
        refine tc_callp (mc_runV (As := [.int x1, .int x2, .int x3]) (rest := []) E hG (x_X10_isToldGood l G (σ, cu, qX (upA a cu ta)) h0 x1 x2 x3 t0 (by omega) (by omega) (by omega) (by omega) ta (qX_TI hcu upA_at) hI (by omega)) t0 rfl kv_X10_isToldGood ml_X10_147 ⟨rfl, rfl, Nat.le_of_ble_eq_true rfl, Nat.le_of_ble_eq_true rfl⟩ rfl hl.1 rfl (Nat.le_of_ble_eq_true rfl) ⟨Nat.zero_le _, Nat.zero_le _⟩ dX10_tells_44) (fun r9 pr9 => ?_)
        replace pr9 : (r9.toInt = 1 ∧ MTd ta x1.toInt x2.toInt x3.toInt ∧ 0 ≤ x3.toInt ∧ x3.toInt ≤ 99 ∧ (¬ x2.toInt = 4 ∨ x3.toInt ≤ 9) ∧ (4 ≤ x2.toInt ∨ ¬ K ta x1.toInt 1 = 6 ∨ 1 ≤ x3.toInt)) ∨ (r9.toInt = 0 ∧ ¬ MTd ta x1.toInt x2.toInt x3.toInt) := pr9
        refine lv_if_ne (tgt := 53) hx hb dX10_tells_47 (by decide) (fun c10 => ?_) (fun c10 => ?_)
        · skip
          have ic10 := tn_ne rfl kI_0 c10
          have hMT : MTd ta x1.toInt x2.toInt x3.toInt := by
            rcases pr9 with ⟨-, w, -⟩ | ⟨w, -⟩
            · exact w
            · exact absurd w (by omega)
          refine lv_aload_n hx hb dX10_tells_53 rfl (lv_at hl 0 rfl) ?_
          refine lv_iload_n hx hb dX10_tells_54 rfl (lv_at hl 1 rfl) ?_
          refine lv_iconst (v := 2) hx hb dX10_tells_55 (by decide) ?_
          refine lv_iload_n hx hb dX10_tells_56 rfl (lv_at hl 2 rfl) ?_
          refine lv_iadd hx hb dX10_tells_57 ?_
          refine lv_topi (fun z11 ez11 => ?_)
          have tz11 := tn_add ez11 kI_2 rfl (by omega) (by omega)
          refine tc_callp (mc_runV (As := [.int x1, .int z11]) (rest := []) E hG (c_X10_get l G (σ, cu, qX (upA a cu ta)) h0 x1 z11 t0 (by omega) (by omega) (by omega) (by omega)) t0 rfl kv_X10_get ml_X10_91 ⟨rfl, rfl, Nat.le_of_ble_eq_true rfl, Nat.le_of_ble_eq_true rfl⟩ rfl hl.1 rfl (Nat.le_of_ble_eq_true rfl) ⟨Nat.zero_le _, Nat.zero_le _⟩ dX10_tells_58) (fun r12 pr12 => ?_)
          replace pr12 : mV (σ, cu, qX (upA a cu ta)) (ix x1.toInt z11.toInt) r12 := pr12
          have br12 := mV_r 6 8 (0) (99) pr12 (by omega) (by omega) (by omega) (by decide) (by decide)
          have hrv : r12.toInt = K ta x1.toInt (2 + x2.toInt) := by rw [mT pr12 (qX_TI hcu upA_at) (by omega) (by omega) (by omega) (by omega), show z11.toInt = 2 + x2.toInt by omega]
          refine lv_istore (lv' := [(4, .int r12), (0, .ref h0), (1, .int x1), (2, .int x2), (3, .int x3)]) hx hb dX10_tells_61 hl (by decide) rfl (fun ls hl => ?_)
          refine lv_aload_n hx hb dX10_tells_63 rfl (lv_at hl 1 rfl) ?_
          refine lv_iload_n hx hb dX10_tells_64 rfl (lv_at hl 2 rfl) ?_
          refine lv_iload_n hx hb dX10_tells_65 rfl (lv_at hl 3 rfl) ?_
          refine lv_iload_n hx hb dX10_tells_66 rfl (lv_at hl 4 rfl) ?_
          refine mc_callvX hG (mc_runV (As := [.int x1, .int x2, .int x3]) (rest := []) E hG (x_X10_tellsIt l G σ cu a ta h0 x1 x2 x3 t0 (by omega) (by omega) (by omega) (by omega) hI (by omega) (by omega) (by omega) (by omega) (by omega)) t0 rfl kv_X10_tellsIt ml_X10_150 ⟨rfl, rfl, Nat.le_of_ble_eq_true rfl, Nat.le_of_ble_eq_true rfl⟩ rfl hl.1 rfl (Nat.le_of_ble_eq_true rfl) ⟨Nat.zero_le _, Nat.zero_le _⟩ dX10_tells_67) (fun Z H locs eZ pZ hG => ?_)
          obtain ⟨t14, rfl, pt14, hI⟩ := pZ
          clear eZ
          refine lv_iload hx hb dX10_tells_70 (lv_at hl 0 rfl) ?_
          exact mc_iretX E hr hlk hG rfl rfl ⟨_, rfl, Or.inr (Or.inr ⟨by unfold HTd; omega, hMT, hrv, pt14⟩), hI⟩ dX10_tells_72
        · skip
          have ic10 := tn_eq rfl kI_0 c10
          have hMT : ¬ MTd ta x1.toInt x2.toInt x3.toInt := by
            rcases pr9 with ⟨w, -⟩ | ⟨-, w⟩
            · exact absurd w (by omega)
            · exact w
          refine lv_bipush (v := -2) hx hb dX10_tells_50 (by decide) ?_
          exact mc_iretX E hr hlk hG rfl rfl ⟨_, rfl, Or.inr (Or.inl ⟨rfl, rfl, by unfold HTd; omega, hMT⟩), hI⟩ dX10_tells_52
      · skip
        have ic8 := tn_nle kI_4 rfl c8
        refine lv_iload_n hx hb dX10_tells_25 rfl (lv_at hl 2 rfl) ?_
        refine lv_aload_n hx hb dX10_tells_26 rfl (lv_at hl 0 rfl) ?_
        refine lv_iload_n hx hb dX10_tells_27 rfl (lv_at hl 1 rfl) ?_
        refine lv_iconst (v := 1) hx hb dX10_tells_28 (by decide) ?_
        refine tc_callp (mc_runV (As := [.int x1, .int 1]) (rest := [.int x2]) E hG (c_X10_get l G (σ, cu, qX (upA a cu ta)) h0 x1 (1 : Int32) t0 (by omega) (by omega) (by decide) (by decide)) t0 rfl kv_X10_get ml_X10_91 ⟨rfl, rfl, Nat.le_of_ble_eq_true rfl, Nat.le_of_ble_eq_true rfl⟩ rfl hl.1 rfl (Nat.le_of_ble_eq_true rfl) ⟨Nat.zero_le _, Nat.zero_le _⟩ dX10_tells_29) (fun r15 pr15 => ?_)
        replace pr15 : mV (σ, cu, qX (upA a cu ta)) (ix x1.toInt (1 : Int32).toInt) r15 := pr15
        have pr15 := mV_l pr15 kI_1
        have br15 := mV_1 pr15 (by omega)
        have cr15 := mT pr15 (qX_TI hcu upA_at) (by omega) (by omega) (by decide) (by decide)
        have k16 := kI_1
        refine tc_callp (mc_runS (As := [.int r15]) (rest := [.int x2]) E hG (x_X10_numbersOf l G (σ, cu, qX (upA a cu ta)) r15 (by omega) (by omega)) ks_X10_numbersOf ml_X10_110 ⟨rfl, rfl, Nat.le_of_ble_eq_true rfl, Nat.le_of_ble_eq_true rfl⟩ rfl hl.1 rfl (Nat.le_of_ble_eq_true rfl) ⟨Nat.zero_le _, Nat.zero_le _⟩ dX10_tells_32) (fun r17 pr17 => ?_)
        replace pr17 : r17.toInt = nNum r15.toInt ∧ ((r15.toInt = 3 ∧ r17.toInt = 4) ∨ ((r15.toInt = 4 ∨ r15.toInt = 5) ∧ r17.toInt = 0) ∨ (r15.toInt = 7 ∧ r17.toInt = 1) ∨ (¬ r15.toInt = 3 ∧ ¬ r15.toInt = 4 ∧ ¬ r15.toInt = 5 ∧ ¬ r15.toInt = 7 ∧ r17.toInt = 2)) := pr17
        rw [cr15] at pr17
        refine lv_icmp_lt (tgt := 40) hx hb dX10_tells_35 (by decide) (fun c18 => ?_) (fun c18 => ?_)
        · skip
          have ic18 := tn_lt rfl rfl c18
          refine lv_aload_n hx hb dX10_tells_40 rfl (lv_at hl 0 rfl) ?_
          refine lv_iload_n hx hb dX10_tells_41 rfl (lv_at hl 1 rfl) ?_
          refine lv_iload_n hx hb dX10_tells_42 rfl (lv_at hl 2 rfl) ?_
          refine lv_iload_n hx hb dX10_tells_43 rfl (lv_at hl 3 rfl) ?_
          refine tc_callp (mc_runV (As := [.int x1, .int x2, .int x3]) (rest := []) E hG (x_X10_isToldGood l G (σ, cu, qX (upA a cu ta)) h0 x1 x2 x3 t0 (by omega) (by omega) (by omega) (by omega) ta (qX_TI hcu upA_at) hI (by omega)) t0 rfl kv_X10_isToldGood ml_X10_147 ⟨rfl, rfl, Nat.le_of_ble_eq_true rfl, Nat.le_of_ble_eq_true rfl⟩ rfl hl.1 rfl (Nat.le_of_ble_eq_true rfl) ⟨Nat.zero_le _, Nat.zero_le _⟩ dX10_tells_44) (fun r19 pr19 => ?_)
          replace pr19 : (r19.toInt = 1 ∧ MTd ta x1.toInt x2.toInt x3.toInt ∧ 0 ≤ x3.toInt ∧ x3.toInt ≤ 99 ∧ (¬ x2.toInt = 4 ∨ x3.toInt ≤ 9) ∧ (4 ≤ x2.toInt ∨ ¬ K ta x1.toInt 1 = 6 ∨ 1 ≤ x3.toInt)) ∨ (r19.toInt = 0 ∧ ¬ MTd ta x1.toInt x2.toInt x3.toInt) := pr19
          refine lv_if_ne (tgt := 53) hx hb dX10_tells_47 (by decide) (fun c20 => ?_) (fun c20 => ?_)
          · skip
            have ic20 := tn_ne rfl kI_0 c20
            have hMT : MTd ta x1.toInt x2.toInt x3.toInt := by
              rcases pr19 with ⟨-, w, -⟩ | ⟨w, -⟩
              · exact w
              · exact absurd w (by omega)
            refine lv_aload_n hx hb dX10_tells_53 rfl (lv_at hl 0 rfl) ?_
            refine lv_iload_n hx hb dX10_tells_54 rfl (lv_at hl 1 rfl) ?_
            refine lv_iconst (v := 2) hx hb dX10_tells_55 (by decide) ?_
            refine lv_iload_n hx hb dX10_tells_56 rfl (lv_at hl 2 rfl) ?_
            refine lv_iadd hx hb dX10_tells_57 ?_
            refine lv_topi (fun z21 ez21 => ?_)
            have tz21 := tn_add ez21 kI_2 rfl (by omega) (by omega)
            refine tc_callp (mc_runV (As := [.int x1, .int z21]) (rest := []) E hG (c_X10_get l G (σ, cu, qX (upA a cu ta)) h0 x1 z21 t0 (by omega) (by omega) (by omega) (by omega)) t0 rfl kv_X10_get ml_X10_91 ⟨rfl, rfl, Nat.le_of_ble_eq_true rfl, Nat.le_of_ble_eq_true rfl⟩ rfl hl.1 rfl (Nat.le_of_ble_eq_true rfl) ⟨Nat.zero_le _, Nat.zero_le _⟩ dX10_tells_58) (fun r22 pr22 => ?_)
            replace pr22 : mV (σ, cu, qX (upA a cu ta)) (ix x1.toInt z21.toInt) r22 := pr22
            have br22 := mV_r 2 5 (0) (99) pr22 (by omega) (by omega) (by omega) (by decide) (by decide)
            have hrv : r22.toInt = K ta x1.toInt (2 + x2.toInt) := by rw [mT pr22 (qX_TI hcu upA_at) (by omega) (by omega) (by omega) (by omega), show z21.toInt = 2 + x2.toInt by omega]
            refine lv_istore (lv' := [(4, .int r22), (0, .ref h0), (1, .int x1), (2, .int x2), (3, .int x3)]) hx hb dX10_tells_61 hl (by decide) rfl (fun ls hl => ?_)
            refine lv_aload_n hx hb dX10_tells_63 rfl (lv_at hl 1 rfl) ?_
            refine lv_iload_n hx hb dX10_tells_64 rfl (lv_at hl 2 rfl) ?_
            refine lv_iload_n hx hb dX10_tells_65 rfl (lv_at hl 3 rfl) ?_
            refine lv_iload_n hx hb dX10_tells_66 rfl (lv_at hl 4 rfl) ?_
            refine mc_callvX hG (mc_runV (As := [.int x1, .int x2, .int x3]) (rest := []) E hG (x_X10_tellsIt l G σ cu a ta h0 x1 x2 x3 t0 (by omega) (by omega) (by omega) (by omega) hI (by omega) (by omega) (by omega) (by omega) (by omega)) t0 rfl kv_X10_tellsIt ml_X10_150 ⟨rfl, rfl, Nat.le_of_ble_eq_true rfl, Nat.le_of_ble_eq_true rfl⟩ rfl hl.1 rfl (Nat.le_of_ble_eq_true rfl) ⟨Nat.zero_le _, Nat.zero_le _⟩ dX10_tells_67) (fun Z H locs eZ pZ hG => ?_)
            obtain ⟨t24, rfl, pt24, hI⟩ := pZ
            clear eZ
            refine lv_iload hx hb dX10_tells_70 (lv_at hl 0 rfl) ?_
            exact mc_iretX E hr hlk hG rfl rfl ⟨_, rfl, Or.inr (Or.inr ⟨by unfold HTd; omega, hMT, hrv, pt24⟩), hI⟩ dX10_tells_72
          · skip
            have ic20 := tn_eq rfl kI_0 c20
            have hMT : ¬ MTd ta x1.toInt x2.toInt x3.toInt := by
              rcases pr19 with ⟨w, -⟩ | ⟨-, w⟩
              · exact absurd w (by omega)
              · exact w
            refine lv_bipush (v := -2) hx hb dX10_tells_50 (by decide) ?_
            exact mc_iretX E hr hlk hG rfl rfl ⟨_, rfl, Or.inr (Or.inl ⟨rfl, rfl, by unfold HTd; omega, hMT⟩), hI⟩ dX10_tells_52
        · skip
          have ic18 := tn_nlt rfl rfl c18
          refine lv_iconst (v := -1) hx hb dX10_tells_38 (by decide) ?_
          exact mc_iretX E hr hlk hG rfl rfl ⟨_, rfl, Or.inl ⟨rfl, rfl, by unfold HTd; omega⟩, hI⟩ dX10_tells_39

/-- the new box n: all its fields -/
def BZ (ta t : Nat → Int32) (n w0 w1 w2 w3 w4 w5 w6 w7 w8 w9 w10 : Int) : Prop := (t 3).toInt = n + 1 ∧ t 0 = ta 0 ∧ (∀ b j : Int, 0 ≤ b → ¬ b = n → 0 ≤ j → j ≤ 37 → t (ix b j) = ta (ix b j)) ∧ K t n 0 = w0 ∧ K t n 1 = w1 ∧ K t n 2 = w2 ∧ K t n 3 = w3 ∧ K t n 4 = w4 ∧ K t n 5 = w5 ∧ K t n 6 = w6 ∧ K t n 7 = w7 ∧ K t n 8 = w8 ∧ K t n 9 = w9 ∧ K t n 10 = w10
theorem BZ_z {ta t : Nat → Int32} {n k : Int} (h : ZI ta t n k) (hk : 38 ≤ k) : BZ ta t n 0 0 0 0 0 0 0 0 0 0 0 :=
  ⟨h.1, h.2.1, h.2.2.2, h.2.2.1 0 (by decide) (by omega), h.2.2.1 1 (by decide) (by omega), h.2.2.1 2 (by decide) (by omega), h.2.2.1 3 (by decide) (by omega), h.2.2.1 4 (by decide) (by omega), h.2.2.1 5 (by decide) (by omega), h.2.2.1 6 (by decide) (by omega), h.2.2.1 7 (by decide) (by omega), h.2.2.1 8 (by decide) (by omega), h.2.2.1 9 (by decide) (by omega), h.2.2.1 10 (by decide) (by omega)⟩
theorem BZ.bx {ta t : Nat → Int32} {n w0 w1 w2 w3 w4 w5 w6 w7 w8 w9 w10 : Int} (h : BZ ta t n w0 w1 w2 w3 w4 w5 w6 w7 w8 w9 w10) : BX ta t n w0 w1 w2 w3 w9 w10 :=
  ⟨h.1, h.2.1, h.2.2.1, h.2.2.2.1, h.2.2.2.2.1, h.2.2.2.2.2.1, h.2.2.2.2.2.2.1, h.2.2.2.2.2.2.2.2.2.2.2.2.1, h.2.2.2.2.2.2.2.2.2.2.2.2.2⟩
theorem BZ_p {ta t t' : Nat → Int32} {n w0 w1 w2 w3 w4 w5 w6 w7 w8 w9 w10 k : Int} {v : Int32} (h : BZ ta t n w0 w1 w2 w3 w4 w5 w6 w7 w8 w9 w10) (hn : 0 ≤ n) (h0 : 0 ≤ k) (h37 : k ≤ 37) (e : t' = upN t (ix n k) v) : BZ ta t' n (if k = 0 then v.toInt else w0) (if k = 1 then v.toInt else w1) (if k = 2 then v.toInt else w2) (if k = 3 then v.toInt else w3) (if k = 4 then v.toInt else w4) (if k = 5 then v.toInt else w5) (if k = 6 then v.toInt else w6) (if k = 7 then v.toInt else w7) (if k = 8 then v.toInt else w8) (if k = 9 then v.toInt else w9) (if k = 10 then v.toInt else w10) := by
  obtain ⟨h1, h2, h3, g0, g1, g2, g3, g4, g5, g6, g7, g8, g9, g10⟩ := h
  have hm := (ix_mod hn h0 h37).2
  have key : ∀ j x : Int, 0 ≤ j → j ≤ 37 → K t n j = x → K t' n j = if k = j then v.toInt else x := fun j x q1 q2 q3 => by
    show (t' (ix n j)).toInt = _
    by_cases w : k = j
    · rw [if_pos w, e, w, upN_at]
    · rw [if_neg w, e, upN_ne (fun q => w (ix_inj hn q1 (by omega) hn h0 (by omega) q).2.symm)]
      exact q3
  refine ⟨by rw [e, upN_ne (by omega)]; exact h1, by rw [e, upN_ne (by omega)]; exact h2, fun b j q1 q2 q3 q4 => ?_, key 0 w0 (by decide) (by decide) g0, key 1 w1 (by decide) (by decide) g1, key 2 w2 (by decide) (by decide) g2, key 3 w3 (by decide) (by decide) g3, key 4 w4 (by decide) (by decide) g4, key 5 w5 (by decide) (by decide) g5, key 6 w6 (by decide) (by decide) g6, key 7 w7 (by decide) (by decide) g7, key 8 w8 (by decide) (by decide) g8, key 9 w9 (by decide) (by decide) g9, key 10 w10 (by decide) (by decide) g10⟩
  rw [e, upN_ne (fun q => q2 (ix_inj q1 q3 (by omega) hn h0 (by omega) q).1)]
  exact h3 b j q1 q2 q3 q4
/-- what a new box brings, exactly -/
def PX (ta t : Nat → Int32) (kd p v0 v1 v2 v3 sh : Int) : Prop := (t 3).toInt = (ta 3).toInt + 1 ∧ (p < 0 → (t 0).toInt = (ta 3).toInt) ∧ (0 ≤ p → t 0 = ta 0) ∧ (K t (ta 3).toInt 0 = 1 ∧ K t (ta 3).toInt 1 = kd ∧ K t (ta 3).toInt 2 = v0 ∧ K t (ta 3).toInt 3 = v1 ∧ K t (ta 3).toInt 4 = v2 ∧ K t (ta 3).toInt 5 = v3 ∧ K t (ta 3).toInt 6 = sh ∧ K t (ta 3).toInt 7 = 0 ∧ K t (ta 3).toInt 8 = 99 ∧ K t (ta 3).toInt 9 = p ∧ K t (ta 3).toInt 10 = 0) ∧ (∀ b j : Int, 0 ≤ b → ¬ b = (ta 3).toInt → 0 ≤ j → j ≤ 18 → ¬ (b = p ∧ (j = 10 ∨ j = 11 + K ta p 10)) → K t b j = K ta b j) ∧ (0 ≤ p → K t p 10 = K ta p 10 + 1 ∧ K t p (11 + K ta p 10) = (ta 3).toInt)
/-- of the numbers told those that the kind has -/
def MK (kd a b c d v0 v1 v2 v3 : Int) : Prop := (0 < nNum kd → v0 = a) ∧ (¬ 0 < nNum kd → v0 = 0) ∧ (1 < nNum kd → v1 = b) ∧ (¬ 1 < nNum kd → v1 = 0) ∧ (2 < nNum kd → v2 = c) ∧ (¬ 2 < nNum kd → v2 = 0) ∧ (3 < nNum kd → v3 = d) ∧ (¬ 3 < nNum kd → v3 = 0)
theorem PX_AG {ta t t' : Nat → Int32} {kd p v0 v1 v2 v3 sh : Int} (h : PX ta t kd p v0 v1 v2 v3 sh) (hg : AG t t') (hn : 0 ≤ (ta 3).toInt) (hm : 0 ≤ p → 0 ≤ K ta p 10 ∧ K ta p 10 ≤ 7) : PX ta t' kd p v0 v1 v2 v3 sh := by
  obtain ⟨h1, h2, h2', ⟨g0, g1, g2, g3, g4, g5, g6, g7, g8, g9, g10⟩, h4, h5⟩ := h
  have k : ∀ j : Int, 0 ≤ j → j ≤ 18 → K t' (ta 3).toInt j = K t (ta 3).toInt j := fun j q1 q2 => hg.K hn q1 q2
  refine ⟨by rw [hg.2.1]; exact h1, by rw [hg.1]; exact h2, by rw [hg.1]; exact h2', ⟨by rw [k 0 (by decide) (by decide)]; exact g0, by rw [k 1 (by decide) (by decide)]; exact g1, by rw [k 2 (by decide) (by decide)]; exact g2, by rw [k 3 (by decide) (by decide)]; exact g3, by rw [k 4 (by decide) (by decide)]; exact g4, by rw [k 5 (by decide) (by decide)]; exact g5, by rw [k 6 (by decide) (by decide)]; exact g6, by rw [k 7 (by decide) (by decide)]; exact g7, by rw [k 8 (by decide) (by decide)]; exact g8, by rw [k 9 (by decide) (by decide)]; exact g9, by rw [k 10 (by decide) (by decide)]; exact g10⟩, fun b j q1 q2 q3 q4 q5 => by rw [hg.K q1 q3 q4]; exact h4 b j q1 q2 q3 q4 q5, fun q => ?_⟩
  have := hm q
  rw [hg.K q (by decide) (by decide), hg.K q (by omega) (by omega)]
  exact h5 q
theorem PZ_top {ta t t' : Nat → Int32} {n kd v0 v1 v2 v3 sh p : Int} {v : Int32} (hn : n = (ta 3).toInt) (hn0 : 0 ≤ n) (h : BZ ta t n 1 kd v0 v1 v2 v3 sh 0 99 p 0) (hp : p = -1) (e : t' = upN t 0 v) (hv : v.toInt = n) : PX ta t' kd p v0 v1 v2 v3 sh := by
  obtain ⟨h1, h2, h3, g0, g1, g2, g3, g4, g5, g6, g7, g8, g9, g10⟩ := h
  have kk : ∀ b j : Int, 0 ≤ b → 0 ≤ j → j ≤ 37 → K t' b j = K t b j := fun b j q1 q2 q3 => by
    have := (ix_mod q1 q2 q3).2
    show (t' (ix b j)).toInt = (t (ix b j)).toInt
    rw [e, upN_ne (by omega)]
  unfold PX
  rw [← hn]
  have k : ∀ j : Int, 0 ≤ j → j ≤ 18 → K t' n j = K t n j := fun j q1 q2 => kk n j hn0 q1 (by omega)
  refine ⟨by rw [e, upN_ne (by decide)]; exact h1, fun _ => by rw [e, upN_at]; exact hv, fun q => by omega, ⟨by rw [k 0 (by decide) (by decide)]; exact g0, by rw [k 1 (by decide) (by decide)]; exact g1, by rw [k 2 (by decide) (by decide)]; exact g2, by rw [k 3 (by decide) (by decide)]; exact g3, by rw [k 4 (by decide) (by decide)]; exact g4, by rw [k 5 (by decide) (by decide)]; exact g5, by rw [k 6 (by decide) (by decide)]; exact g6, by rw [k 7 (by decide) (by decide)]; exact g7, by rw [k 8 (by decide) (by decide)]; exact g8, by rw [k 9 (by decide) (by decide)]; exact g9, by rw [k 10 (by decide) (by decide)]; exact g10⟩, fun b j q1 q2 q3 q4 q5 => ?_, fun q => by omega⟩
  rw [kk b j q1 q3 (by omega)]
  show (t (ix b j)).toInt = (ta (ix b j)).toInt
  rw [h3 b j q1 q2 q3 (by omega)]
theorem PZ_par {ta t t' t'' : Nat → Int32} {n kd v0 v1 v2 v3 sh p k : Int} {v w : Int32} (hn : n = (ta 3).toInt) (h : BZ ta t n 1 kd v0 v1 v2 v3 sh 0 99 p 0) (hp : 0 ≤ p) (hpn : p < n) (hm : K ta p 10 < 8) (hm0 : 0 ≤ K ta p 10) (e : t' = upN t (ix p k) v) (hk : k = 11 + K ta p 10) (hv : v.toInt = n) (e2 : t'' = upN t' (ix p 10) w) (hw : w.toInt = K ta p 10 + 1) : PX ta t'' kd p v0 v1 v2 v3 sh := by
  obtain ⟨h1, h2, h3, g0, g1, g2, g3, g4, g5, g6, g7, g8, g9, g10⟩ := h
  have hn0 : 0 ≤ n := by omega
  have mk := (ix_mod hp (by omega : 0 ≤ k) (by omega : k ≤ 37)).2
  have m10 := (ix_mod hp (by decide : (0 : Int) ≤ 10) (by decide)).2
  have kn : ∀ j : Int, 0 ≤ j → j ≤ 37 → K t'' n j = K t n j := fun j q2 q3 => by
    show (t'' (ix n j)).toInt = (t (ix n j)).toInt
    rw [e2, upN_ne (fun q => by have := (ix_inj hn0 q2 (by omega) hp (by decide) (by decide) q).1; omega), e, upN_ne (fun q => by have := (ix_inj hn0 q2 (by omega) hp (by omega) (by omega) q).1; omega)]
  have ko : ∀ b j : Int, 0 ≤ b → ¬ b = n → 0 ≤ j → j ≤ 37 → ¬ (b = p ∧ (j = 10 ∨ j = 11 + K ta p 10)) → K t'' b j = K ta b j := fun b j q1 q2 q3 q4 q5 => by
    show (t'' (ix b j)).toInt = (ta (ix b j)).toInt
    rw [e2, upN_ne (fun q => q5 (by have := ix_inj q1 q3 (by omega) hp (by decide) (by decide) q; exact ⟨this.1, Or.inl this.2⟩)), e, upN_ne (fun q => q5 (by have := ix_inj q1 q3 (by omega) hp (by omega) (by omega) q; exact ⟨this.1, Or.inr (by omega)⟩)), h3 b j q1 q2 q3 q4]
  have p10 : K t'' p 10 = K ta p 10 + 1 := by
    show (t'' (ix p 10)).toInt = _
    rw [e2, upN_at]; exact hw
  have pk : K t'' p (11 + K ta p 10) = n := by
    show (t'' (ix p (11 + K ta p 10))).toInt = n
    rw [e2, upN_ne (fun q => by have := (ix_inj hp (by omega) (by omega) hp (by decide) (by decide) q).2; omega), e, hk, upN_at]; exact hv
  have e3 : (t'' 3).toInt = n + 1 := by rw [e2, upN_ne (by omega), e, upN_ne (by omega)]; exact h1
  have e0 : t'' 0 = ta 0 := by rw [e2, upN_ne (by omega), e, upN_ne (by omega), h2]
  have k : ∀ j : Int, 0 ≤ j → j ≤ 18 → K t'' n j = K t n j := fun j q1 q2 => kn j q1 (by omega)
  unfold PX
  rw [← hn]
  exact ⟨e3, fun q => by omega, fun _ => e0, ⟨by rw [k 0 (by decide) (by decide)]; exact g0, by rw [k 1 (by decide) (by decide)]; exact g1, by rw [k 2 (by decide) (by decide)]; exact g2, by rw [k 3 (by decide) (by decide)]; exact g3, by rw [k 4 (by decide) (by decide)]; exact g4, by rw [k 5 (by decide) (by decide)]; exact g5, by rw [k 6 (by decide) (by decide)]; exact g6, by rw [k 7 (by decide) (by decide)]; exact g7, by rw [k 8 (by decide) (by decide)]; exact g8, by rw [k 9 (by decide) (by decide)]; exact g9, by rw [k 10 (by decide) (by decide)]; exact g10⟩, fun b j q1 q2 q3 q4 q5 => ko b j q1 q2 q3 (by omega) q5, fun _ => ⟨p10, pk⟩⟩
set_option maxHeartbeats 4000000 in
set_option maxRecDepth 100000 in
theorem x_X10_putBox (l : Launch) (G : tG) (σ : Nat → Nat) (cu : Nat) (a : Nat → Option (Nat → Int32)) (ta : Nat → Int32) (h0 : Nat) (x1 : Int32) (x2 : Int32) (x3 : Int32) (x4 : Int32) (x5 : Int32) (x6 : Int32) (x7 : Int32) (t0 : σ h0 = 1) (l1 : 0 ≤ x1.toInt) (u1 : x1.toInt ≤ 9) (l2 : -1 ≤ x2.toInt) (u2 : x2.toInt ≤ 23) (l7 : 0 ≤ x7.toInt) (u7 : x7.toInt ≤ 9) (hIa : TInv ta) (hn : (ta 3).toInt ≤ 23) (hga : x1.toInt = 4 ∨ x1.toInt = 5 ∨ (0 ≤ x3.toInt ∧ x3.toInt ≤ 99 ∧ (x1.toInt = 6 → 1 ≤ x3.toInt))) (hgb : x1.toInt = 4 ∨ x1.toInt = 5 ∨ x1.toInt = 7 ∨ (0 ≤ x4.toInt ∧ x4.toInt ≤ 99 ∧ (x1.toInt = 6 → 1 ≤ x4.toInt))) (hgc : ¬ x1.toInt = 3 ∨ (0 ≤ x5.toInt ∧ x5.toInt ≤ 99 ∧ 0 ≤ x6.toInt ∧ x6.toInt ≤ 99)) (hpar : (x2.toInt = -1 ∧ (ta 0).toInt < 0) ∨ (0 ≤ x2.toInt ∧ x2.toInt < (ta 3).toInt ∧ K ta x2.toInt 10 < 8)) : Met l yX10_putBox (.code yX10_putBox cX10_putBox 10 (some .int) :: tWS) (tRm 3 66) (va_Pc [.ref h0, .int x1, .int x2, .int x3, .int x4, .int x5, .int x6, .int x7] (mPre G (σ, cu, qX (upA a cu ta)))) (mQiX G (σ, cu, qX (upA a cu ta)) (fun r Z => ∃ t : Nat → Int32, Z = (σ, cu, qX (upA a cu t)) ∧ (∃ v0 v1 v2 v3 : Int, MK x1.toInt x3.toInt x4.toInt x5.toInt x6.toInt v0 v1 v2 v3 ∧ PX ta t x1.toInt x2.toInt v0 v1 v2 v3 x7.toInt ∧ r.toInt = (ta 3).toInt) ∧ TInv t)) 0 0 (mA (σ, cu, qX (upA a cu ta))) := by
  refine mc_met (by decide) (Nat.le_of_ble_eq_true rfl) ?_
  intro p e s m below meth c E hr hlk hG ls hl
  have hl : lv_has ls 10 [(0, .ref h0), (1, .int x1), (2, .int x2), (3, .int x3), (4, .int x4), (5, .int x5), (6, .int x6), (7, .int x7)] := hl
  have hx := E.1
  have hb := E.2.1
  obtain ⟨H, eH⟩ : ∃ H, H = s.heap := ⟨_, rfl⟩
  obtain ⟨locs, eL⟩ : ∃ x : List Loc, x = [] := ⟨_, rfl⟩
  have hG : mGH G (σ, cu, qX (upA a cu ta)) s H locs := by rw [eH, eL]; exact hG
  suffices hW : W p l e (tRm 3 66) s m ([.ref h0, .int x1, .int x2, .int x3, .int x4, .int x5, .int x6, .int x7] : List Value).toArray below meth c H locs 0 0 (MQ below (mQiX G (σ, cu, qX (upA a cu ta)) (fun r Z => ∃ t : Nat → Int32, Z = (σ, cu, qX (upA a cu t)) ∧ (∃ v0 v1 v2 v3 : Int, MK x1.toInt x3.toInt x4.toInt x5.toInt x6.toInt v0 v1 v2 v3 ∧ PX ta t x1.toInt x2.toInt v0 v1 v2 v3 x7.toInt ∧ r.toInt = (ta 3).toInt) ∧ TInv t)) ([.ref h0, .int x1, .int x2, .int x3, .int x4, .int x5, .int x6, .int x7] : List Value).toArray s 0 0 (mA (σ, cu, qX (upA a cu ta)))) (F0 m 0 ls []) by subst eH; subst eL; exact hW
  clear eH eL
  have hcu : mCu cu := hG.2.2.1
  have hI := hIa
  have J21 : ∀ (n21 : Nat) (t : Nat → Int32) (H : Heap) (locs : List Loc) (ls : Array Slot) (v8 : Int32) (v9 : Int32), mGH G (σ, cu, qX (upA a cu t)) s H locs → lv_has ls 10 [(0, .ref h0), (1, .int x1), (2, .int x2), (3, .int x3), (4, .int x4), (5, .int x5), (6, .int x6), (7, .int x7), (8, .int v8), (9, .int v9)] → 0 ≤ v8.toInt → v8.toInt ≤ 23 → 0 ≤ v9.toInt → v9.toInt ≤ 38 → (ZI ta t v8.toInt v9.toInt ∧ v8.toInt = (ta 3).toInt) → (38 - v9.toInt).toNat < n21 → W p l e (tRm 3 66) s m ([.ref h0, .int x1, .int x2, .int x3, .int x4, .int x5, .int x6, .int x7] : List Value).toArray below meth c H locs 0 0 (MQ below (mQiX G (σ, cu, qX (upA a cu ta)) (fun r Z => ∃ t : Nat → Int32, Z = (σ, cu, qX (upA a cu t)) ∧ (∃ v0 v1 v2 v3 : Int, MK x1.toInt x3.toInt x4.toInt x5.toInt x6.toInt v0 v1 v2 v3 ∧ PX ta t x1.toInt x2.toInt v0 v1 v2 v3 x7.toInt ∧ r.toInt = (ta 3).toInt) ∧ TInv t)) ([.ref h0, .int x1, .int x2, .int x3, .int x4, .int x5, .int x6, .int x7] : List Value).toArray s 0 0 (mA (σ, cu, qX (upA a cu ta)))) (F0 m 21 ls []) := by
    intro n21
    induction n21 with
    | zero => intro t H locs ls v8 v9 hG hl b8 c8 b9 c9 hex21 hn21; exact absurd hn21 (Nat.not_lt_zero _)
    | succ n21 ih21 =>
      intro t H locs ls v8 v9 hG hl b8 c8 b9 c9 hex21 hn21
      refine lv_iload hx hb dX10_putBox_21 (lv_at hl 9 rfl) ?_
      refine lv_bipush (v := 38) hx hb dX10_putBox_23 (by decide) ?_
      refine lv_icmp_ge (tgt := 43) hx hb dX10_putBox_25 (by decide) (fun c1 => ?_) (fun c1 => ?_)
      · skip
        have ic1 := tn_le kI_38 rfl c1
        have hB := BZ_z hex21.1 (by omega)
        have hn8 := hex21.2
        refine lv_iload_n hx hb dX10_putBox_43 rfl (lv_at hl 1 rfl) ?_
        refine tc_callp (mc_runS (As := [.int x1]) (rest := []) E hG (x_X10_numbersOf l G (σ, cu, qX (upA a cu t)) x1 (by omega) (by omega)) ks_X10_numbersOf ml_X10_110 ⟨rfl, rfl, Nat.le_of_ble_eq_true rfl, Nat.le_of_ble_eq_true rfl⟩ rfl hl.1 rfl (Nat.le_of_ble_eq_true rfl) ⟨Nat.zero_le _, Nat.zero_le _⟩ dX10_putBox_44) (fun r2 pr2 => ?_)
        replace pr2 : r2.toInt = nNum x1.toInt ∧ ((x1.toInt = 3 ∧ r2.toInt = 4) ∨ ((x1.toInt = 4 ∨ x1.toInt = 5) ∧ r2.toInt = 0) ∨ (x1.toInt = 7 ∧ r2.toInt = 1) ∨ (¬ x1.toInt = 3 ∧ ¬ x1.toInt = 4 ∧ ¬ x1.toInt = 5 ∧ ¬ x1.toInt = 7 ∧ r2.toInt = 2)) := pr2
        refine lv_istore (lv' := [(9, .int r2), (0, .ref h0), (1, .int x1), (2, .int x2), (3, .int x3), (4, .int x4), (5, .int x5), (6, .int x6), (7, .int x7), (8, .int v8)]) hx hb dX10_putBox_47 hl (by decide) rfl (fun ls hl => ?_)
        refine lv_aload_n hx hb dX10_putBox_49 rfl (lv_at hl 1 rfl) ?_
        refine lv_iload hx hb dX10_putBox_50 (lv_at hl 9 rfl) ?_
        refine lv_iconst (v := 0) hx hb dX10_putBox_52 (by decide) ?_
        refine lv_iconst (v := 1) hx hb dX10_putBox_53 (by decide) ?_
        have k3 := kI_1
        refine mc_callvX hG (mc_runV (As := [.int v8, .int 0, .int 1]) (rest := []) E hG (c_X10_putX l G (σ, cu, qX (upA a cu t)) h0 v8 (0 : Int32) (1 : Int32) t0 (by omega) (by omega) (by decide) (by decide) (0) (1) rfl (by omega) (by omega)) t0 rfl kv_X10_put ml_X10_102 ⟨rfl, rfl, Nat.le_of_ble_eq_true rfl, Nat.le_of_ble_eq_true rfl⟩ rfl hl.1 rfl (Nat.le_of_ble_eq_true rfl) ⟨Nat.zero_le _, Nat.zero_le _⟩ dX10_putBox_54) (fun Z H locs eZ pZ hG => ?_)
        rw [pZ] at hG
        clear eZ pZ Z
        rw [show (0 : Int32).toInt = 0 from kI_0] at hG
        have hG := qX_put hcu hG
        obtain ⟨t4, et4⟩ : ∃ Z : Nat → Int32, Z = upN t (ix v8.toInt 0) (1 : Int32) := ⟨_, rfl⟩
        rw [← et4] at hG
        have hB : BZ ta t4 v8.toInt (1) (0) (0) (0) (0) (0) (0) (0) (0) (0) (0) := by
          have q := BZ_p (k := 0) hB (by omega) (by decide) (by decide) et4
          rw [kI_1] at q
          exact q
        refine lv_aload_n hx hb dX10_putBox_57 rfl (lv_at hl 1 rfl) ?_
        refine lv_iload hx hb dX10_putBox_58 (lv_at hl 9 rfl) ?_
        refine lv_iconst (v := 1) hx hb dX10_putBox_60 (by decide) ?_
        refine lv_iload_n hx hb dX10_putBox_61 rfl (lv_at hl 2 rfl) ?_
        refine mc_callvX hG (mc_runV (As := [.int v8, .int 1, .int x1]) (rest := []) E hG (c_X10_putX l G (σ, cu, qX (upA a cu t4)) h0 v8 (1 : Int32) x1 t0 (by omega) (by omega) (by decide) (by decide) (0) (9) rfl (by omega) (by omega)) t0 rfl kv_X10_put ml_X10_102 ⟨rfl, rfl, Nat.le_of_ble_eq_true rfl, Nat.le_of_ble_eq_true rfl⟩ rfl hl.1 rfl (Nat.le_of_ble_eq_true rfl) ⟨Nat.zero_le _, Nat.zero_le _⟩ dX10_putBox_62) (fun Z H locs eZ pZ hG => ?_)
        rw [pZ] at hG
        clear eZ pZ Z
        rw [show (1 : Int32).toInt = 1 from kI_1] at hG
        have hG := qX_put hcu hG
        obtain ⟨t5, et5⟩ : ∃ Z : Nat → Int32, Z = upN t4 (ix v8.toInt 1) x1 := ⟨_, rfl⟩
        rw [← et5] at hG
        have hB : BZ ta t5 v8.toInt (1) (x1.toInt) (0) (0) (0) (0) (0) (0) (0) (0) (0) := by
          have q := BZ_p (k := 1) hB (by omega) (by decide) (by decide) et5
          exact q
        refine lv_aload_n hx hb dX10_putBox_65 rfl (lv_at hl 1 rfl) ?_
        refine lv_iload hx hb dX10_putBox_66 (lv_at hl 9 rfl) ?_
        refine lv_iconst (v := 2) hx hb dX10_putBox_68 (by decide) ?_
        refine lv_iload hx hb dX10_putBox_69 (lv_at hl 0 rfl) ?_
        refine lv_if_le (tgt := 78) hx hb dX10_putBox_71 (by decide) (fun c6 => ?_) (fun c6 => ?_)
        · skip
          have ic6 := tn_le rfl kI_0 c6
          refine lv_iconst (v := 0) hx hb dX10_putBox_78 (by decide) ?_
          have k7 := kI_0
          refine mc_callvX hG (mc_runV (As := [.int v8, .int 2, .int 0]) (rest := []) E hG (c_X10_putX l G (σ, cu, qX (upA a cu t5)) h0 v8 (2 : Int32) (0 : Int32) t0 (by omega) (by omega) (by decide) (by decide) (0) (99) rfl (by omega) (by omega)) t0 rfl kv_X10_put ml_X10_102 ⟨rfl, rfl, Nat.le_of_ble_eq_true rfl, Nat.le_of_ble_eq_true rfl⟩ rfl hl.1 rfl (Nat.le_of_ble_eq_true rfl) ⟨Nat.zero_le _, Nat.zero_le _⟩ dX10_putBox_79) (fun Z H locs eZ pZ hG => ?_)
          rw [pZ] at hG
          clear eZ pZ Z
          rw [show (2 : Int32).toInt = 2 from kI_2] at hG
          have hG := qX_put hcu hG
          obtain ⟨t8, et8⟩ : ∃ Z : Nat → Int32, Z = upN t5 (ix v8.toInt 2) (0 : Int32) := ⟨_, rfl⟩
          rw [← et8] at hG
          have hB : BZ ta t8 v8.toInt (1) (x1.toInt) (0) (0) (0) (0) (0) (0) (0) (0) (0) := by
            have q := BZ_p (k := 2) hB (by omega) (by decide) (by decide) et8
            rw [kI_0] at q
            exact q
          refine lv_aload_n hx hb dX10_putBox_82 rfl (lv_at hl 1 rfl) ?_
          refine lv_iload hx hb dX10_putBox_83 (lv_at hl 9 rfl) ?_
          refine lv_iconst (v := 3) hx hb dX10_putBox_85 (by decide) ?_
          refine lv_iload hx hb dX10_putBox_86 (lv_at hl 0 rfl) ?_
          refine lv_iconst (v := 1) hx hb dX10_putBox_88 (by decide) ?_
          refine lv_icmp_le (tgt := 97) hx hb dX10_putBox_89 (by decide) (fun c9 => ?_) (fun c9 => ?_)
          · skip
            have ic9 := tn_le rfl kI_1 c9
            refine lv_iconst (v := 0) hx hb dX10_putBox_97 (by decide) ?_
            have k10 := kI_0
            refine mc_callvX hG (mc_runV (As := [.int v8, .int 3, .int 0]) (rest := []) E hG (c_X10_putX l G (σ, cu, qX (upA a cu t8)) h0 v8 (3 : Int32) (0 : Int32) t0 (by omega) (by omega) (by decide) (by decide) (0) (99) rfl (by omega) (by omega)) t0 rfl kv_X10_put ml_X10_102 ⟨rfl, rfl, Nat.le_of_ble_eq_true rfl, Nat.le_of_ble_eq_true rfl⟩ rfl hl.1 rfl (Nat.le_of_ble_eq_true rfl) ⟨Nat.zero_le _, Nat.zero_le _⟩ dX10_putBox_98) (fun Z H locs eZ pZ hG => ?_)
            rw [pZ] at hG
            clear eZ pZ Z
            rw [show (3 : Int32).toInt = 3 from kI_3] at hG
            have hG := qX_put hcu hG
            obtain ⟨t11, et11⟩ : ∃ Z : Nat → Int32, Z = upN t8 (ix v8.toInt 3) (0 : Int32) := ⟨_, rfl⟩
            rw [← et11] at hG
            have hB : BZ ta t11 v8.toInt (1) (x1.toInt) (0) (0) (0) (0) (0) (0) (0) (0) (0) := by
              have q := BZ_p (k := 3) hB (by omega) (by decide) (by decide) et11
              rw [kI_0] at q
              exact q
            refine lv_aload_n hx hb dX10_putBox_101 rfl (lv_at hl 1 rfl) ?_
            refine lv_iload hx hb dX10_putBox_102 (lv_at hl 9 rfl) ?_
            refine lv_iconst (v := 4) hx hb dX10_putBox_104 (by decide) ?_
            refine lv_iload hx hb dX10_putBox_105 (lv_at hl 0 rfl) ?_
            refine lv_iconst (v := 2) hx hb dX10_putBox_107 (by decide) ?_
            refine lv_icmp_le (tgt := 116) hx hb dX10_putBox_108 (by decide) (fun c12 => ?_) (fun c12 => ?_)
            · skip
              have ic12 := tn_le rfl kI_2 c12
              refine lv_iconst (v := 0) hx hb dX10_putBox_116 (by decide) ?_
              have k13 := kI_0
              refine mc_callvX hG (mc_runV (As := [.int v8, .int 4, .int 0]) (rest := []) E hG (c_X10_putX l G (σ, cu, qX (upA a cu t11)) h0 v8 (4 : Int32) (0 : Int32) t0 (by omega) (by omega) (by decide) (by decide) (0) (99) rfl (by omega) (by omega)) t0 rfl kv_X10_put ml_X10_102 ⟨rfl, rfl, Nat.le_of_ble_eq_true rfl, Nat.le_of_ble_eq_true rfl⟩ rfl hl.1 rfl (Nat.le_of_ble_eq_true rfl) ⟨Nat.zero_le _, Nat.zero_le _⟩ dX10_putBox_117) (fun Z H locs eZ pZ hG => ?_)
              rw [pZ] at hG
              clear eZ pZ Z
              rw [show (4 : Int32).toInt = 4 from kI_4] at hG
              have hG := qX_put hcu hG
              obtain ⟨t14, et14⟩ : ∃ Z : Nat → Int32, Z = upN t11 (ix v8.toInt 4) (0 : Int32) := ⟨_, rfl⟩
              rw [← et14] at hG
              have hB : BZ ta t14 v8.toInt (1) (x1.toInt) (0) (0) (0) (0) (0) (0) (0) (0) (0) := by
                have q := BZ_p (k := 4) hB (by omega) (by decide) (by decide) et14
                rw [kI_0] at q
                exact q
              refine lv_aload_n hx hb dX10_putBox_120 rfl (lv_at hl 1 rfl) ?_
              refine lv_iload hx hb dX10_putBox_121 (lv_at hl 9 rfl) ?_
              refine lv_iconst (v := 5) hx hb dX10_putBox_123 (by decide) ?_
              refine lv_iload hx hb dX10_putBox_124 (lv_at hl 0 rfl) ?_
              refine lv_iconst (v := 3) hx hb dX10_putBox_126 (by decide) ?_
              refine lv_icmp_le (tgt := 135) hx hb dX10_putBox_127 (by decide) (fun c15 => ?_) (fun c15 => ?_)
              · skip
                have ic15 := tn_le rfl kI_3 c15
                refine lv_iconst (v := 0) hx hb dX10_putBox_135 (by decide) ?_
                have k16 := kI_0
                refine mc_callvX hG (mc_runV (As := [.int v8, .int 5, .int 0]) (rest := []) E hG (c_X10_putX l G (σ, cu, qX (upA a cu t14)) h0 v8 (5 : Int32) (0 : Int32) t0 (by omega) (by omega) (by decide) (by decide) (0) (99) rfl (by omega) (by omega)) t0 rfl kv_X10_put ml_X10_102 ⟨rfl, rfl, Nat.le_of_ble_eq_true rfl, Nat.le_of_ble_eq_true rfl⟩ rfl hl.1 rfl (Nat.le_of_ble_eq_true rfl) ⟨Nat.zero_le _, Nat.zero_le _⟩ dX10_putBox_136) (fun Z H locs eZ pZ hG => ?_)
                rw [pZ] at hG
                clear eZ pZ Z
                rw [show (5 : Int32).toInt = 5 from kI_5] at hG
                have hG := qX_put hcu hG
                obtain ⟨t17, et17⟩ : ∃ Z : Nat → Int32, Z = upN t14 (ix v8.toInt 5) (0 : Int32) := ⟨_, rfl⟩
                rw [← et17] at hG
                have hB : BZ ta t17 v8.toInt (1) (x1.toInt) (0) (0) (0) (0) (0) (0) (0) (0) (0) := by
                  have q := BZ_p (k := 5) hB (by omega) (by decide) (by decide) et17
                  rw [kI_0] at q
                  exact q
                refine lv_aload_n hx hb dX10_putBox_139 rfl (lv_at hl 1 rfl) ?_
                refine lv_iload hx hb dX10_putBox_140 (lv_at hl 9 rfl) ?_
                refine lv_bipush (v := 6) hx hb dX10_putBox_142 (by decide) ?_
                refine lv_iload hx hb dX10_putBox_144 (lv_at hl 8 rfl) ?_
                refine mc_callvX hG (mc_runV (As := [.int v8, .int 6, .int x7]) (rest := []) E hG (c_X10_putX l G (σ, cu, qX (upA a cu t17)) h0 v8 (6 : Int32) x7 t0 (by omega) (by omega) (by decide) (by decide) (0) (9) rfl (by omega) (by omega)) t0 rfl kv_X10_put ml_X10_102 ⟨rfl, rfl, Nat.le_of_ble_eq_true rfl, Nat.le_of_ble_eq_true rfl⟩ rfl hl.1 rfl (Nat.le_of_ble_eq_true rfl) ⟨Nat.zero_le _, Nat.zero_le _⟩ dX10_putBox_146) (fun Z H locs eZ pZ hG => ?_)
                rw [pZ] at hG
                clear eZ pZ Z
                rw [show (6 : Int32).toInt = 6 from kI_6] at hG
                have hG := qX_put hcu hG
                obtain ⟨t18, et18⟩ : ∃ Z : Nat → Int32, Z = upN t17 (ix v8.toInt 6) x7 := ⟨_, rfl⟩
                rw [← et18] at hG
                have hB : BZ ta t18 v8.toInt (1) (x1.toInt) (0) (0) (0) (0) (x7.toInt) (0) (0) (0) (0) := by
                  have q := BZ_p (k := 6) hB (by omega) (by decide) (by decide) et18
                  exact q
                refine lv_aload_n hx hb dX10_putBox_149 rfl (lv_at hl 1 rfl) ?_
                refine lv_iload hx hb dX10_putBox_150 (lv_at hl 9 rfl) ?_
                refine lv_bipush (v := 8) hx hb dX10_putBox_152 (by decide) ?_
                refine lv_bipush (v := 99) hx hb dX10_putBox_154 (by decide) ?_
                have k19 := kI_99
                refine mc_callvX hG (mc_runV (As := [.int v8, .int 8, .int 99]) (rest := []) E hG (c_X10_putX l G (σ, cu, qX (upA a cu t18)) h0 v8 (8 : Int32) (99 : Int32) t0 (by omega) (by omega) (by decide) (by decide) (0) (99) rfl (by omega) (by omega)) t0 rfl kv_X10_put ml_X10_102 ⟨rfl, rfl, Nat.le_of_ble_eq_true rfl, Nat.le_of_ble_eq_true rfl⟩ rfl hl.1 rfl (Nat.le_of_ble_eq_true rfl) ⟨Nat.zero_le _, Nat.zero_le _⟩ dX10_putBox_156) (fun Z H locs eZ pZ hG => ?_)
                rw [pZ] at hG
                clear eZ pZ Z
                rw [show (8 : Int32).toInt = 8 from kI_8] at hG
                have hG := qX_put hcu hG
                obtain ⟨t20, et20⟩ : ∃ Z : Nat → Int32, Z = upN t18 (ix v8.toInt 8) (99 : Int32) := ⟨_, rfl⟩
                rw [← et20] at hG
                have hB : BZ ta t20 v8.toInt (1) (x1.toInt) (0) (0) (0) (0) (x7.toInt) (0) (99) (0) (0) := by
                  have q := BZ_p (k := 8) hB (by omega) (by decide) (by decide) et20
                  rw [kI_99] at q
                  exact q
                refine lv_aload_n hx hb dX10_putBox_159 rfl (lv_at hl 1 rfl) ?_
                refine lv_iload hx hb dX10_putBox_160 (lv_at hl 9 rfl) ?_
                refine lv_bipush (v := 9) hx hb dX10_putBox_162 (by decide) ?_
                refine lv_iload_n hx hb dX10_putBox_164 rfl (lv_at hl 3 rfl) ?_
                refine mc_callvX hG (mc_runV (As := [.int v8, .int 9, .int x2]) (rest := []) E hG (c_X10_putX l G (σ, cu, qX (upA a cu t20)) h0 v8 (9 : Int32) x2 t0 (by omega) (by omega) (by decide) (by decide) (-1) (23) rfl (by omega) (by omega)) t0 rfl kv_X10_put ml_X10_102 ⟨rfl, rfl, Nat.le_of_ble_eq_true rfl, Nat.le_of_ble_eq_true rfl⟩ rfl hl.1 rfl (Nat.le_of_ble_eq_true rfl) ⟨Nat.zero_le _, Nat.zero_le _⟩ dX10_putBox_165) (fun Z H locs eZ pZ hG => ?_)
                rw [pZ] at hG
                clear eZ pZ Z
                rw [show (9 : Int32).toInt = 9 from kI_9] at hG
                have hG := qX_put hcu hG
                obtain ⟨t21, et21⟩ : ∃ Z : Nat → Int32, Z = upN t20 (ix v8.toInt 9) x2 := ⟨_, rfl⟩
                rw [← et21] at hG
                have hB : BZ ta t21 v8.toInt (1) (x1.toInt) (0) (0) (0) (0) (x7.toInt) (0) (99) (x2.toInt) (0) := by
                  have q := BZ_p (k := 9) hB (by omega) (by decide) (by decide) et21
                  exact q
                refine lv_aload_n hx hb dX10_putBox_168 rfl (lv_at hl 1 rfl) ?_
                refine lv_iload hx hb dX10_putBox_169 (lv_at hl 9 rfl) ?_
                refine lv_bipush (v := 19) hx hb dX10_putBox_171 (by decide) ?_
                refine lv_iconst (v := 1) hx hb dX10_putBox_173 (by decide) ?_
                have k22 := kI_1
                refine mc_callv hG (mc_runV (As := [.int v8, .int 19, .int 1]) (rest := []) E hG (c_X10_put l G (σ, cu, qX (upA a cu t21)) h0 v8 (19 : Int32) (1 : Int32) t0 (by omega) (by omega) (by decide) (by decide) (0) (1) rfl (by omega) (by omega) ((qX_AV hcu).2.2 _ _ (by omega) (by omega) (by decide) (by decide))) t0 rfl kv_X10_put ml_X10_102 ⟨rfl, rfl, Nat.le_of_ble_eq_true rfl, Nat.le_of_ble_eq_true rfl⟩ rfl hl.1 rfl (Nat.le_of_ble_eq_true rfl) ⟨Nat.zero_le _, Nat.zero_le _⟩ dX10_putBox_174) (fun H locs hG => ?_)
                refine lv_iload_n hx hb dX10_putBox_177 rfl (lv_at hl 3 rfl) ?_
                refine lv_if_ge (tgt := 198) hx hb dX10_putBox_178 (by decide) (fun c23 => ?_) (fun c23 => ?_)
                · skip
                  have ic23 := tn_le kI_0 rfl c23
                  refine lv_aload_n hx hb dX10_putBox_198 rfl (lv_at hl 1 rfl) ?_
                  refine lv_iload_n hx hb dX10_putBox_199 rfl (lv_at hl 3 rfl) ?_
                  refine lv_bipush (v := 11) hx hb dX10_putBox_200 (by decide) ?_
                  refine lv_aload_n hx hb dX10_putBox_202 rfl (lv_at hl 1 rfl) ?_
                  refine lv_iload_n hx hb dX10_putBox_203 rfl (lv_at hl 3 rfl) ?_
                  refine tc_callp (mc_runV (As := [.int x2]) (rest := [.int 11, .int x2, .ref h0]) E hG (c_X10_manyOf l G (σ, cu, qX (upA a cu t21)) h0 x2 t0 (by omega) (by omega)) t0 rfl kv_X10_manyOf ml_X10_117 ⟨rfl, rfl, Nat.le_of_ble_eq_true rfl, Nat.le_of_ble_eq_true rfl⟩ rfl hl.1 rfl (Nat.le_of_ble_eq_true rfl) ⟨Nat.zero_le _, Nat.zero_le _⟩ dX10_putBox_204) (fun r24 pr24 => ?_)
                  replace pr24 : mV (σ, cu, qX (upA a cu t21)) (ix x2.toInt 10) r24 := pr24
                  have br24 := mV_10 pr24 (by omega)
                  have cr24 := mT pr24 (qX_TI hcu upA_at) (by omega) (by omega) (by decide) (by decide)
                  have hm1 : r24.toInt = K ta x2.toInt 10 := by rw [cr24]; show (t21 (ix _ 10)).toInt = _; rw [hB.2.2.1 _ 10 (by omega) (by omega) (by decide) (by decide)]
                  refine lv_iadd hx hb dX10_putBox_207 ?_
                  refine lv_topi (fun z25 ez25 => ?_)
                  have tz25 := tn_add ez25 kI_11 rfl (by omega) (by omega)
                  refine lv_iload hx hb dX10_putBox_208 (lv_at hl 9 rfl) ?_
                  have k26 : fR z25.toInt.toNat = (0, 23) := by rcases (show z25.toInt = 11 ∨ z25.toInt = 12 ∨ z25.toInt = 13 ∨ z25.toInt = 14 ∨ z25.toInt = 15 ∨ z25.toInt = 16 ∨ z25.toInt = 17 ∨ z25.toInt = 18 by omega) with h9 | h9 | h9 | h9 | h9 | h9 | h9 | h9 <;> rw [h9] <;> rfl
                  refine mc_callvX hG (mc_runV (As := [.int x2, .int z25, .int v8]) (rest := []) E hG (c_X10_putX l G (σ, cu, qX (upA a cu t21)) h0 x2 z25 v8 t0 (by omega) (by omega) (by omega) (by omega) _ _ k26 (by omega) (by omega)) t0 rfl kv_X10_put ml_X10_102 ⟨rfl, rfl, Nat.le_of_ble_eq_true rfl, Nat.le_of_ble_eq_true rfl⟩ rfl hl.1 rfl (Nat.le_of_ble_eq_true rfl) ⟨Nat.zero_le _, Nat.zero_le _⟩ dX10_putBox_210) (fun Z H locs eZ pZ hG => ?_)
                  rw [pZ] at hG
                  clear eZ pZ Z
                  have hG := qX_put hcu hG
                  obtain ⟨t27, et27⟩ : ∃ Z : Nat → Int32, Z = upN t21 (ix x2.toInt z25.toInt) v8 := ⟨_, rfl⟩
                  rw [← et27] at hG
                  refine lv_aload_n hx hb dX10_putBox_213 rfl (lv_at hl 1 rfl) ?_
                  refine lv_iload_n hx hb dX10_putBox_214 rfl (lv_at hl 3 rfl) ?_
                  refine lv_bipush (v := 10) hx hb dX10_putBox_215 (by decide) ?_
                  refine lv_aload_n hx hb dX10_putBox_217 rfl (lv_at hl 1 rfl) ?_
                  refine lv_iload_n hx hb dX10_putBox_218 rfl (lv_at hl 3 rfl) ?_
                  refine tc_callp (mc_runV (As := [.int x2]) (rest := [.int 10, .int x2, .ref h0]) E hG (c_X10_manyOf l G (σ, cu, qX (upA a cu t27)) h0 x2 t0 (by omega) (by omega)) t0 rfl kv_X10_manyOf ml_X10_117 ⟨rfl, rfl, Nat.le_of_ble_eq_true rfl, Nat.le_of_ble_eq_true rfl⟩ rfl hl.1 rfl (Nat.le_of_ble_eq_true rfl) ⟨Nat.zero_le _, Nat.zero_le _⟩ dX10_putBox_219) (fun r28 pr28 => ?_)
                  replace pr28 : mV (σ, cu, qX (upA a cu t27)) (ix x2.toInt 10) r28 := pr28
                  have br28 := mV_10 pr28 (by omega)
                  have cr28 := mT pr28 (qX_TI hcu upA_at) (by omega) (by omega) (by decide) (by decide)
                  have hm2 : r28.toInt = K ta x2.toInt 10 := by rw [cr28]; show (t27 (ix _ 10)).toInt = _; rw [et27, upN_ne (fun q => by have := (ix_inj (by omega) (by decide) (by decide) (by omega) (by omega) (by omega) q).2; omega), hB.2.2.1 _ 10 (by omega) (by omega) (by decide) (by decide)]
                  refine lv_iconst (v := 1) hx hb dX10_putBox_222 (by decide) ?_
                  refine lv_iadd hx hb dX10_putBox_223 ?_
                  refine lv_topi (fun z29 ez29 => ?_)
                  have tz29 := tn_add ez29 rfl kI_1 (by omega) (by omega)
                  refine mc_callvX hG (mc_runV (As := [.int x2, .int 10, .int z29]) (rest := []) E hG (c_X10_putX l G (σ, cu, qX (upA a cu t27)) h0 x2 (10 : Int32) z29 t0 (by omega) (by omega) (by decide) (by decide) (0) (8) rfl (by omega) (by omega)) t0 rfl kv_X10_put ml_X10_102 ⟨rfl, rfl, Nat.le_of_ble_eq_true rfl, Nat.le_of_ble_eq_true rfl⟩ rfl hl.1 rfl (Nat.le_of_ble_eq_true rfl) ⟨Nat.zero_le _, Nat.zero_le _⟩ dX10_putBox_224) (fun Z H locs eZ pZ hG => ?_)
                  rw [pZ] at hG
                  clear eZ pZ Z
                  rw [show (10 : Int32).toInt = 10 from kI_10] at hG
                  have hG := qX_put hcu hG
                  obtain ⟨t30, et30⟩ : ∃ Z : Nat → Int32, Z = upN t27 (ix x2.toInt 10) z29 := ⟨_, rfl⟩
                  rw [← et30] at hG
                  have hPB := PB_par hIa hn8 (by omega) hB.bx (fun q => ⟨by omega, by omega⟩) (by omega) (by omega) (by omega) et27 (by omega) rfl et30 (by omega)
                  have hm0 := hIa.2.2.2.2.2.2.2.2 x2.toInt (by omega) (by omega)
                  have hPX := PZ_par hn8 hB (by omega) (by omega) (by omega) hm0.1 et27 (by omega) rfl et30 (by omega)
                  have hI := hPB.1
                  have h3p := hPB.2.1
                  refine lv_aload_n hx hb dX10_putBox_227 rfl (lv_at hl 1 rfl) ?_
                  refine lv_iload_n hx hb dX10_putBox_228 rfl (lv_at hl 3 rfl) ?_
                  refine mc_callvX hG (mc_runV (As := [.int x2]) (rest := []) E hG (c_X10_marks l G σ cu a t30 h0 x2 t0 (by omega) (by omega) hI (by first | omega | (have k1 := kI_m1; have hI1 := hI.1; omega))) t0 rfl kv_X10_marks ml_X10_113 ⟨rfl, rfl, Nat.le_of_ble_eq_true rfl, Nat.le_of_ble_eq_true rfl⟩ rfl hl.1 rfl (Nat.le_of_ble_eq_true rfl) ⟨Nat.zero_le _, Nat.zero_le _⟩ dX10_putBox_229) (fun Z H locs eZ pZ hG => ?_)
                  obtain ⟨t32, rfl, pt32, hI⟩ := pZ
                  clear eZ
                  have h3n : (t32 3).toInt = (t30 3).toInt := by rw [pt32.2.1]
                  have h0n : (t32 0).toInt = (t30 0).toInt := by rw [pt32.1]
                  refine lv_iload hx hb dX10_putBox_232 (lv_at hl 9 rfl) ?_
                  exact mc_iretX E hr hlk hG rfl rfl ⟨_, rfl, ⟨_, _, _, _, (by unfold MK; omega : MK x1.toInt x3.toInt x4.toInt x5.toInt x6.toInt (0) (0) (0) (0)), PX_AG hPX pt32 (by omega) (by omega), by omega⟩, hI⟩ dX10_putBox_234
                · skip
                  have ic23 := tn_nle kI_0 rfl c23
                  refine lv_aload_n hx hb dX10_putBox_181 rfl (lv_at hl 1 rfl) ?_
                  refine mc_getn E hG t0 ff_X10_9 dX10_putBox_182 (fun oa33 hoa33 => ?_)
                  refine lv_iconst (v := 0) hx hb dX10_putBox_185 (by decide) ?_
                  refine lv_iload hx hb dX10_putBox_186 (lv_at hl 9 rfl) ?_
                  refine mc_nastX E hG hoa33 hG.2.2.1 (t_in (by decide) (by decide)) (lo := -1) (hi := 23) rfl (by omega) (by omega) dX10_putBox_188 (fun H locs hG => ?_)
                  have hG := qX_set (k := 0) hcu rfl hG
                  obtain ⟨t34, et34⟩ : ∃ Z : Nat → Int32, Z = upN t21 0 v8 := ⟨_, rfl⟩
                  rw [← et34] at hG
                  have hPB := PB_top hIa hn8 (by omega) hB.bx (fun q => ⟨by omega, by omega⟩) (by omega) (by omega) et34 rfl
                  have hPX := PZ_top hn8 (by omega) hB (by omega) et34 rfl
                  have hI := hPB.1
                  have h3p := hPB.2.1
                  refine lv_aload_n hx hb dX10_putBox_189 rfl (lv_at hl 1 rfl) ?_
                  refine lv_iload hx hb dX10_putBox_190 (lv_at hl 9 rfl) ?_
                  refine mc_callvX hG (mc_runV (As := [.int v8]) (rest := []) E hG (c_X10_marks l G σ cu a t34 h0 v8 t0 (by omega) (by omega) hI (by first | omega | (have k1 := kI_m1; have hI1 := hI.1; omega))) t0 rfl kv_X10_marks ml_X10_113 ⟨rfl, rfl, Nat.le_of_ble_eq_true rfl, Nat.le_of_ble_eq_true rfl⟩ rfl hl.1 rfl (Nat.le_of_ble_eq_true rfl) ⟨Nat.zero_le _, Nat.zero_le _⟩ dX10_putBox_192) (fun Z H locs eZ pZ hG => ?_)
                  obtain ⟨t36, rfl, pt36, hI⟩ := pZ
                  clear eZ
                  have h3n : (t36 3).toInt = (t34 3).toInt := by rw [pt36.2.1]
                  have h0n : (t36 0).toInt = (t34 0).toInt := by rw [pt36.1]
                  refine lv_goto (tgt := 232) hx hb dX10_putBox_195 (by decide) ?_
                  refine lv_iload hx hb dX10_putBox_232 (lv_at hl 9 rfl) ?_
                  exact mc_iretX E hr hlk hG rfl rfl ⟨_, rfl, ⟨_, _, _, _, (by unfold MK; omega : MK x1.toInt x3.toInt x4.toInt x5.toInt x6.toInt (0) (0) (0) (0)), PX_AG hPX pt36 (by omega) (by omega), by omega⟩, hI⟩ dX10_putBox_234
              · exfalso
                have ic15 := tn_nle rfl kI_3 c15
                omega
            · exfalso
              have ic12 := tn_nle rfl kI_2 c12
              omega
          · exfalso
            have ic9 := tn_nle rfl kI_1 c9
            omega
        · skip
          have ic6 := tn_nle rfl kI_0 c6
          refine lv_iload_n hx hb dX10_putBox_74 rfl (lv_at hl 4 rfl) ?_
          refine lv_goto (tgt := 79) hx hb dX10_putBox_75 (by decide) ?_
          refine mc_callvX hG (mc_runV (As := [.int v8, .int 2, .int x3]) (rest := []) E hG (c_X10_putX l G (σ, cu, qX (upA a cu t5)) h0 v8 (2 : Int32) x3 t0 (by omega) (by omega) (by decide) (by decide) (0) (99) rfl (by omega) (by omega)) t0 rfl kv_X10_put ml_X10_102 ⟨rfl, rfl, Nat.le_of_ble_eq_true rfl, Nat.le_of_ble_eq_true rfl⟩ rfl hl.1 rfl (Nat.le_of_ble_eq_true rfl) ⟨Nat.zero_le _, Nat.zero_le _⟩ dX10_putBox_79) (fun Z H locs eZ pZ hG => ?_)
          rw [pZ] at hG
          clear eZ pZ Z
          rw [show (2 : Int32).toInt = 2 from kI_2] at hG
          have hG := qX_put hcu hG
          obtain ⟨t37, et37⟩ : ∃ Z : Nat → Int32, Z = upN t5 (ix v8.toInt 2) x3 := ⟨_, rfl⟩
          rw [← et37] at hG
          have hB : BZ ta t37 v8.toInt (1) (x1.toInt) (x3.toInt) (0) (0) (0) (0) (0) (0) (0) (0) := by
            have q := BZ_p (k := 2) hB (by omega) (by decide) (by decide) et37
            exact q
          refine lv_aload_n hx hb dX10_putBox_82 rfl (lv_at hl 1 rfl) ?_
          refine lv_iload hx hb dX10_putBox_83 (lv_at hl 9 rfl) ?_
          refine lv_iconst (v := 3) hx hb dX10_putBox_85 (by decide) ?_
          refine lv_iload hx hb dX10_putBox_86 (lv_at hl 0 rfl) ?_
          refine lv_iconst (v := 1) hx hb dX10_putBox_88 (by decide) ?_
          refine lv_icmp_le (tgt := 97) hx hb dX10_putBox_89 (by decide) (fun c38 => ?_) (fun c38 => ?_)
          · skip
            have ic38 := tn_le rfl kI_1 c38
            refine lv_iconst (v := 0) hx hb dX10_putBox_97 (by decide) ?_
            have k39 := kI_0
            refine mc_callvX hG (mc_runV (As := [.int v8, .int 3, .int 0]) (rest := []) E hG (c_X10_putX l G (σ, cu, qX (upA a cu t37)) h0 v8 (3 : Int32) (0 : Int32) t0 (by omega) (by omega) (by decide) (by decide) (0) (99) rfl (by omega) (by omega)) t0 rfl kv_X10_put ml_X10_102 ⟨rfl, rfl, Nat.le_of_ble_eq_true rfl, Nat.le_of_ble_eq_true rfl⟩ rfl hl.1 rfl (Nat.le_of_ble_eq_true rfl) ⟨Nat.zero_le _, Nat.zero_le _⟩ dX10_putBox_98) (fun Z H locs eZ pZ hG => ?_)
            rw [pZ] at hG
            clear eZ pZ Z
            rw [show (3 : Int32).toInt = 3 from kI_3] at hG
            have hG := qX_put hcu hG
            obtain ⟨t40, et40⟩ : ∃ Z : Nat → Int32, Z = upN t37 (ix v8.toInt 3) (0 : Int32) := ⟨_, rfl⟩
            rw [← et40] at hG
            have hB : BZ ta t40 v8.toInt (1) (x1.toInt) (x3.toInt) (0) (0) (0) (0) (0) (0) (0) (0) := by
              have q := BZ_p (k := 3) hB (by omega) (by decide) (by decide) et40
              rw [kI_0] at q
              exact q
            refine lv_aload_n hx hb dX10_putBox_101 rfl (lv_at hl 1 rfl) ?_
            refine lv_iload hx hb dX10_putBox_102 (lv_at hl 9 rfl) ?_
            refine lv_iconst (v := 4) hx hb dX10_putBox_104 (by decide) ?_
            refine lv_iload hx hb dX10_putBox_105 (lv_at hl 0 rfl) ?_
            refine lv_iconst (v := 2) hx hb dX10_putBox_107 (by decide) ?_
            refine lv_icmp_le (tgt := 116) hx hb dX10_putBox_108 (by decide) (fun c41 => ?_) (fun c41 => ?_)
            · skip
              have ic41 := tn_le rfl kI_2 c41
              refine lv_iconst (v := 0) hx hb dX10_putBox_116 (by decide) ?_
              have k42 := kI_0
              refine mc_callvX hG (mc_runV (As := [.int v8, .int 4, .int 0]) (rest := []) E hG (c_X10_putX l G (σ, cu, qX (upA a cu t40)) h0 v8 (4 : Int32) (0 : Int32) t0 (by omega) (by omega) (by decide) (by decide) (0) (99) rfl (by omega) (by omega)) t0 rfl kv_X10_put ml_X10_102 ⟨rfl, rfl, Nat.le_of_ble_eq_true rfl, Nat.le_of_ble_eq_true rfl⟩ rfl hl.1 rfl (Nat.le_of_ble_eq_true rfl) ⟨Nat.zero_le _, Nat.zero_le _⟩ dX10_putBox_117) (fun Z H locs eZ pZ hG => ?_)
              rw [pZ] at hG
              clear eZ pZ Z
              rw [show (4 : Int32).toInt = 4 from kI_4] at hG
              have hG := qX_put hcu hG
              obtain ⟨t43, et43⟩ : ∃ Z : Nat → Int32, Z = upN t40 (ix v8.toInt 4) (0 : Int32) := ⟨_, rfl⟩
              rw [← et43] at hG
              have hB : BZ ta t43 v8.toInt (1) (x1.toInt) (x3.toInt) (0) (0) (0) (0) (0) (0) (0) (0) := by
                have q := BZ_p (k := 4) hB (by omega) (by decide) (by decide) et43
                rw [kI_0] at q
                exact q
              refine lv_aload_n hx hb dX10_putBox_120 rfl (lv_at hl 1 rfl) ?_
              refine lv_iload hx hb dX10_putBox_121 (lv_at hl 9 rfl) ?_
              refine lv_iconst (v := 5) hx hb dX10_putBox_123 (by decide) ?_
              refine lv_iload hx hb dX10_putBox_124 (lv_at hl 0 rfl) ?_
              refine lv_iconst (v := 3) hx hb dX10_putBox_126 (by decide) ?_
              refine lv_icmp_le (tgt := 135) hx hb dX10_putBox_127 (by decide) (fun c44 => ?_) (fun c44 => ?_)
              · skip
                have ic44 := tn_le rfl kI_3 c44
                refine lv_iconst (v := 0) hx hb dX10_putBox_135 (by decide) ?_
                have k45 := kI_0
                refine mc_callvX hG (mc_runV (As := [.int v8, .int 5, .int 0]) (rest := []) E hG (c_X10_putX l G (σ, cu, qX (upA a cu t43)) h0 v8 (5 : Int32) (0 : Int32) t0 (by omega) (by omega) (by decide) (by decide) (0) (99) rfl (by omega) (by omega)) t0 rfl kv_X10_put ml_X10_102 ⟨rfl, rfl, Nat.le_of_ble_eq_true rfl, Nat.le_of_ble_eq_true rfl⟩ rfl hl.1 rfl (Nat.le_of_ble_eq_true rfl) ⟨Nat.zero_le _, Nat.zero_le _⟩ dX10_putBox_136) (fun Z H locs eZ pZ hG => ?_)
                rw [pZ] at hG
                clear eZ pZ Z
                rw [show (5 : Int32).toInt = 5 from kI_5] at hG
                have hG := qX_put hcu hG
                obtain ⟨t46, et46⟩ : ∃ Z : Nat → Int32, Z = upN t43 (ix v8.toInt 5) (0 : Int32) := ⟨_, rfl⟩
                rw [← et46] at hG
                have hB : BZ ta t46 v8.toInt (1) (x1.toInt) (x3.toInt) (0) (0) (0) (0) (0) (0) (0) (0) := by
                  have q := BZ_p (k := 5) hB (by omega) (by decide) (by decide) et46
                  rw [kI_0] at q
                  exact q
                refine lv_aload_n hx hb dX10_putBox_139 rfl (lv_at hl 1 rfl) ?_
                refine lv_iload hx hb dX10_putBox_140 (lv_at hl 9 rfl) ?_
                refine lv_bipush (v := 6) hx hb dX10_putBox_142 (by decide) ?_
                refine lv_iload hx hb dX10_putBox_144 (lv_at hl 8 rfl) ?_
                refine mc_callvX hG (mc_runV (As := [.int v8, .int 6, .int x7]) (rest := []) E hG (c_X10_putX l G (σ, cu, qX (upA a cu t46)) h0 v8 (6 : Int32) x7 t0 (by omega) (by omega) (by decide) (by decide) (0) (9) rfl (by omega) (by omega)) t0 rfl kv_X10_put ml_X10_102 ⟨rfl, rfl, Nat.le_of_ble_eq_true rfl, Nat.le_of_ble_eq_true rfl⟩ rfl hl.1 rfl (Nat.le_of_ble_eq_true rfl) ⟨Nat.zero_le _, Nat.zero_le _⟩ dX10_putBox_146) (fun Z H locs eZ pZ hG => ?_)
                rw [pZ] at hG
                clear eZ pZ Z
                rw [show (6 : Int32).toInt = 6 from kI_6] at hG
                have hG := qX_put hcu hG
                obtain ⟨t47, et47⟩ : ∃ Z : Nat → Int32, Z = upN t46 (ix v8.toInt 6) x7 := ⟨_, rfl⟩
                rw [← et47] at hG
                have hB : BZ ta t47 v8.toInt (1) (x1.toInt) (x3.toInt) (0) (0) (0) (x7.toInt) (0) (0) (0) (0) := by
                  have q := BZ_p (k := 6) hB (by omega) (by decide) (by decide) et47
                  exact q
                refine lv_aload_n hx hb dX10_putBox_149 rfl (lv_at hl 1 rfl) ?_
                refine lv_iload hx hb dX10_putBox_150 (lv_at hl 9 rfl) ?_
                refine lv_bipush (v := 8) hx hb dX10_putBox_152 (by decide) ?_
                refine lv_bipush (v := 99) hx hb dX10_putBox_154 (by decide) ?_
                have k48 := kI_99
                refine mc_callvX hG (mc_runV (As := [.int v8, .int 8, .int 99]) (rest := []) E hG (c_X10_putX l G (σ, cu, qX (upA a cu t47)) h0 v8 (8 : Int32) (99 : Int32) t0 (by omega) (by omega) (by decide) (by decide) (0) (99) rfl (by omega) (by omega)) t0 rfl kv_X10_put ml_X10_102 ⟨rfl, rfl, Nat.le_of_ble_eq_true rfl, Nat.le_of_ble_eq_true rfl⟩ rfl hl.1 rfl (Nat.le_of_ble_eq_true rfl) ⟨Nat.zero_le _, Nat.zero_le _⟩ dX10_putBox_156) (fun Z H locs eZ pZ hG => ?_)
                rw [pZ] at hG
                clear eZ pZ Z
                rw [show (8 : Int32).toInt = 8 from kI_8] at hG
                have hG := qX_put hcu hG
                obtain ⟨t49, et49⟩ : ∃ Z : Nat → Int32, Z = upN t47 (ix v8.toInt 8) (99 : Int32) := ⟨_, rfl⟩
                rw [← et49] at hG
                have hB : BZ ta t49 v8.toInt (1) (x1.toInt) (x3.toInt) (0) (0) (0) (x7.toInt) (0) (99) (0) (0) := by
                  have q := BZ_p (k := 8) hB (by omega) (by decide) (by decide) et49
                  rw [kI_99] at q
                  exact q
                refine lv_aload_n hx hb dX10_putBox_159 rfl (lv_at hl 1 rfl) ?_
                refine lv_iload hx hb dX10_putBox_160 (lv_at hl 9 rfl) ?_
                refine lv_bipush (v := 9) hx hb dX10_putBox_162 (by decide) ?_
                refine lv_iload_n hx hb dX10_putBox_164 rfl (lv_at hl 3 rfl) ?_
                refine mc_callvX hG (mc_runV (As := [.int v8, .int 9, .int x2]) (rest := []) E hG (c_X10_putX l G (σ, cu, qX (upA a cu t49)) h0 v8 (9 : Int32) x2 t0 (by omega) (by omega) (by decide) (by decide) (-1) (23) rfl (by omega) (by omega)) t0 rfl kv_X10_put ml_X10_102 ⟨rfl, rfl, Nat.le_of_ble_eq_true rfl, Nat.le_of_ble_eq_true rfl⟩ rfl hl.1 rfl (Nat.le_of_ble_eq_true rfl) ⟨Nat.zero_le _, Nat.zero_le _⟩ dX10_putBox_165) (fun Z H locs eZ pZ hG => ?_)
                rw [pZ] at hG
                clear eZ pZ Z
                rw [show (9 : Int32).toInt = 9 from kI_9] at hG
                have hG := qX_put hcu hG
                obtain ⟨t50, et50⟩ : ∃ Z : Nat → Int32, Z = upN t49 (ix v8.toInt 9) x2 := ⟨_, rfl⟩
                rw [← et50] at hG
                have hB : BZ ta t50 v8.toInt (1) (x1.toInt) (x3.toInt) (0) (0) (0) (x7.toInt) (0) (99) (x2.toInt) (0) := by
                  have q := BZ_p (k := 9) hB (by omega) (by decide) (by decide) et50
                  exact q
                refine lv_aload_n hx hb dX10_putBox_168 rfl (lv_at hl 1 rfl) ?_
                refine lv_iload hx hb dX10_putBox_169 (lv_at hl 9 rfl) ?_
                refine lv_bipush (v := 19) hx hb dX10_putBox_171 (by decide) ?_
                refine lv_iconst (v := 1) hx hb dX10_putBox_173 (by decide) ?_
                have k51 := kI_1
                refine mc_callv hG (mc_runV (As := [.int v8, .int 19, .int 1]) (rest := []) E hG (c_X10_put l G (σ, cu, qX (upA a cu t50)) h0 v8 (19 : Int32) (1 : Int32) t0 (by omega) (by omega) (by decide) (by decide) (0) (1) rfl (by omega) (by omega) ((qX_AV hcu).2.2 _ _ (by omega) (by omega) (by decide) (by decide))) t0 rfl kv_X10_put ml_X10_102 ⟨rfl, rfl, Nat.le_of_ble_eq_true rfl, Nat.le_of_ble_eq_true rfl⟩ rfl hl.1 rfl (Nat.le_of_ble_eq_true rfl) ⟨Nat.zero_le _, Nat.zero_le _⟩ dX10_putBox_174) (fun H locs hG => ?_)
                refine lv_iload_n hx hb dX10_putBox_177 rfl (lv_at hl 3 rfl) ?_
                refine lv_if_ge (tgt := 198) hx hb dX10_putBox_178 (by decide) (fun c52 => ?_) (fun c52 => ?_)
                · skip
                  have ic52 := tn_le kI_0 rfl c52
                  refine lv_aload_n hx hb dX10_putBox_198 rfl (lv_at hl 1 rfl) ?_
                  refine lv_iload_n hx hb dX10_putBox_199 rfl (lv_at hl 3 rfl) ?_
                  refine lv_bipush (v := 11) hx hb dX10_putBox_200 (by decide) ?_
                  refine lv_aload_n hx hb dX10_putBox_202 rfl (lv_at hl 1 rfl) ?_
                  refine lv_iload_n hx hb dX10_putBox_203 rfl (lv_at hl 3 rfl) ?_
                  refine tc_callp (mc_runV (As := [.int x2]) (rest := [.int 11, .int x2, .ref h0]) E hG (c_X10_manyOf l G (σ, cu, qX (upA a cu t50)) h0 x2 t0 (by omega) (by omega)) t0 rfl kv_X10_manyOf ml_X10_117 ⟨rfl, rfl, Nat.le_of_ble_eq_true rfl, Nat.le_of_ble_eq_true rfl⟩ rfl hl.1 rfl (Nat.le_of_ble_eq_true rfl) ⟨Nat.zero_le _, Nat.zero_le _⟩ dX10_putBox_204) (fun r53 pr53 => ?_)
                  replace pr53 : mV (σ, cu, qX (upA a cu t50)) (ix x2.toInt 10) r53 := pr53
                  have br53 := mV_10 pr53 (by omega)
                  have cr53 := mT pr53 (qX_TI hcu upA_at) (by omega) (by omega) (by decide) (by decide)
                  have hm1 : r53.toInt = K ta x2.toInt 10 := by rw [cr53]; show (t50 (ix _ 10)).toInt = _; rw [hB.2.2.1 _ 10 (by omega) (by omega) (by decide) (by decide)]
                  refine lv_iadd hx hb dX10_putBox_207 ?_
                  refine lv_topi (fun z54 ez54 => ?_)
                  have tz54 := tn_add ez54 kI_11 rfl (by omega) (by omega)
                  refine lv_iload hx hb dX10_putBox_208 (lv_at hl 9 rfl) ?_
                  have k55 : fR z54.toInt.toNat = (0, 23) := by rcases (show z54.toInt = 11 ∨ z54.toInt = 12 ∨ z54.toInt = 13 ∨ z54.toInt = 14 ∨ z54.toInt = 15 ∨ z54.toInt = 16 ∨ z54.toInt = 17 ∨ z54.toInt = 18 by omega) with h9 | h9 | h9 | h9 | h9 | h9 | h9 | h9 <;> rw [h9] <;> rfl
                  refine mc_callvX hG (mc_runV (As := [.int x2, .int z54, .int v8]) (rest := []) E hG (c_X10_putX l G (σ, cu, qX (upA a cu t50)) h0 x2 z54 v8 t0 (by omega) (by omega) (by omega) (by omega) _ _ k55 (by omega) (by omega)) t0 rfl kv_X10_put ml_X10_102 ⟨rfl, rfl, Nat.le_of_ble_eq_true rfl, Nat.le_of_ble_eq_true rfl⟩ rfl hl.1 rfl (Nat.le_of_ble_eq_true rfl) ⟨Nat.zero_le _, Nat.zero_le _⟩ dX10_putBox_210) (fun Z H locs eZ pZ hG => ?_)
                  rw [pZ] at hG
                  clear eZ pZ Z
                  have hG := qX_put hcu hG
                  obtain ⟨t56, et56⟩ : ∃ Z : Nat → Int32, Z = upN t50 (ix x2.toInt z54.toInt) v8 := ⟨_, rfl⟩
                  rw [← et56] at hG
                  refine lv_aload_n hx hb dX10_putBox_213 rfl (lv_at hl 1 rfl) ?_
                  refine lv_iload_n hx hb dX10_putBox_214 rfl (lv_at hl 3 rfl) ?_
                  refine lv_bipush (v := 10) hx hb dX10_putBox_215 (by decide) ?_
                  refine lv_aload_n hx hb dX10_putBox_217 rfl (lv_at hl 1 rfl) ?_
                  refine lv_iload_n hx hb dX10_putBox_218 rfl (lv_at hl 3 rfl) ?_
                  refine tc_callp (mc_runV (As := [.int x2]) (rest := [.int 10, .int x2, .ref h0]) E hG (c_X10_manyOf l G (σ, cu, qX (upA a cu t56)) h0 x2 t0 (by omega) (by omega)) t0 rfl kv_X10_manyOf ml_X10_117 ⟨rfl, rfl, Nat.le_of_ble_eq_true rfl, Nat.le_of_ble_eq_true rfl⟩ rfl hl.1 rfl (Nat.le_of_ble_eq_true rfl) ⟨Nat.zero_le _, Nat.zero_le _⟩ dX10_putBox_219) (fun r57 pr57 => ?_)
                  replace pr57 : mV (σ, cu, qX (upA a cu t56)) (ix x2.toInt 10) r57 := pr57
                  have br57 := mV_10 pr57 (by omega)
                  have cr57 := mT pr57 (qX_TI hcu upA_at) (by omega) (by omega) (by decide) (by decide)
                  have hm2 : r57.toInt = K ta x2.toInt 10 := by rw [cr57]; show (t56 (ix _ 10)).toInt = _; rw [et56, upN_ne (fun q => by have := (ix_inj (by omega) (by decide) (by decide) (by omega) (by omega) (by omega) q).2; omega), hB.2.2.1 _ 10 (by omega) (by omega) (by decide) (by decide)]
                  refine lv_iconst (v := 1) hx hb dX10_putBox_222 (by decide) ?_
                  refine lv_iadd hx hb dX10_putBox_223 ?_
                  refine lv_topi (fun z58 ez58 => ?_)
                  have tz58 := tn_add ez58 rfl kI_1 (by omega) (by omega)
                  refine mc_callvX hG (mc_runV (As := [.int x2, .int 10, .int z58]) (rest := []) E hG (c_X10_putX l G (σ, cu, qX (upA a cu t56)) h0 x2 (10 : Int32) z58 t0 (by omega) (by omega) (by decide) (by decide) (0) (8) rfl (by omega) (by omega)) t0 rfl kv_X10_put ml_X10_102 ⟨rfl, rfl, Nat.le_of_ble_eq_true rfl, Nat.le_of_ble_eq_true rfl⟩ rfl hl.1 rfl (Nat.le_of_ble_eq_true rfl) ⟨Nat.zero_le _, Nat.zero_le _⟩ dX10_putBox_224) (fun Z H locs eZ pZ hG => ?_)
                  rw [pZ] at hG
                  clear eZ pZ Z
                  rw [show (10 : Int32).toInt = 10 from kI_10] at hG
                  have hG := qX_put hcu hG
                  obtain ⟨t59, et59⟩ : ∃ Z : Nat → Int32, Z = upN t56 (ix x2.toInt 10) z58 := ⟨_, rfl⟩
                  rw [← et59] at hG
                  have hPB := PB_par hIa hn8 (by omega) hB.bx (fun q => ⟨by omega, by omega⟩) (by omega) (by omega) (by omega) et56 (by omega) rfl et59 (by omega)
                  have hm0 := hIa.2.2.2.2.2.2.2.2 x2.toInt (by omega) (by omega)
                  have hPX := PZ_par hn8 hB (by omega) (by omega) (by omega) hm0.1 et56 (by omega) rfl et59 (by omega)
                  have hI := hPB.1
                  have h3p := hPB.2.1
                  refine lv_aload_n hx hb dX10_putBox_227 rfl (lv_at hl 1 rfl) ?_
                  refine lv_iload_n hx hb dX10_putBox_228 rfl (lv_at hl 3 rfl) ?_
                  refine mc_callvX hG (mc_runV (As := [.int x2]) (rest := []) E hG (c_X10_marks l G σ cu a t59 h0 x2 t0 (by omega) (by omega) hI (by first | omega | (have k1 := kI_m1; have hI1 := hI.1; omega))) t0 rfl kv_X10_marks ml_X10_113 ⟨rfl, rfl, Nat.le_of_ble_eq_true rfl, Nat.le_of_ble_eq_true rfl⟩ rfl hl.1 rfl (Nat.le_of_ble_eq_true rfl) ⟨Nat.zero_le _, Nat.zero_le _⟩ dX10_putBox_229) (fun Z H locs eZ pZ hG => ?_)
                  obtain ⟨t61, rfl, pt61, hI⟩ := pZ
                  clear eZ
                  have h3n : (t61 3).toInt = (t59 3).toInt := by rw [pt61.2.1]
                  have h0n : (t61 0).toInt = (t59 0).toInt := by rw [pt61.1]
                  refine lv_iload hx hb dX10_putBox_232 (lv_at hl 9 rfl) ?_
                  exact mc_iretX E hr hlk hG rfl rfl ⟨_, rfl, ⟨_, _, _, _, (by unfold MK; omega : MK x1.toInt x3.toInt x4.toInt x5.toInt x6.toInt (x3.toInt) (0) (0) (0)), PX_AG hPX pt61 (by omega) (by omega), by omega⟩, hI⟩ dX10_putBox_234
                · skip
                  have ic52 := tn_nle kI_0 rfl c52
                  refine lv_aload_n hx hb dX10_putBox_181 rfl (lv_at hl 1 rfl) ?_
                  refine mc_getn E hG t0 ff_X10_9 dX10_putBox_182 (fun oa62 hoa62 => ?_)
                  refine lv_iconst (v := 0) hx hb dX10_putBox_185 (by decide) ?_
                  refine lv_iload hx hb dX10_putBox_186 (lv_at hl 9 rfl) ?_
                  refine mc_nastX E hG hoa62 hG.2.2.1 (t_in (by decide) (by decide)) (lo := -1) (hi := 23) rfl (by omega) (by omega) dX10_putBox_188 (fun H locs hG => ?_)
                  have hG := qX_set (k := 0) hcu rfl hG
                  obtain ⟨t63, et63⟩ : ∃ Z : Nat → Int32, Z = upN t50 0 v8 := ⟨_, rfl⟩
                  rw [← et63] at hG
                  have hPB := PB_top hIa hn8 (by omega) hB.bx (fun q => ⟨by omega, by omega⟩) (by omega) (by omega) et63 rfl
                  have hPX := PZ_top hn8 (by omega) hB (by omega) et63 rfl
                  have hI := hPB.1
                  have h3p := hPB.2.1
                  refine lv_aload_n hx hb dX10_putBox_189 rfl (lv_at hl 1 rfl) ?_
                  refine lv_iload hx hb dX10_putBox_190 (lv_at hl 9 rfl) ?_
                  refine mc_callvX hG (mc_runV (As := [.int v8]) (rest := []) E hG (c_X10_marks l G σ cu a t63 h0 v8 t0 (by omega) (by omega) hI (by first | omega | (have k1 := kI_m1; have hI1 := hI.1; omega))) t0 rfl kv_X10_marks ml_X10_113 ⟨rfl, rfl, Nat.le_of_ble_eq_true rfl, Nat.le_of_ble_eq_true rfl⟩ rfl hl.1 rfl (Nat.le_of_ble_eq_true rfl) ⟨Nat.zero_le _, Nat.zero_le _⟩ dX10_putBox_192) (fun Z H locs eZ pZ hG => ?_)
                  obtain ⟨t65, rfl, pt65, hI⟩ := pZ
                  clear eZ
                  have h3n : (t65 3).toInt = (t63 3).toInt := by rw [pt65.2.1]
                  have h0n : (t65 0).toInt = (t63 0).toInt := by rw [pt65.1]
                  refine lv_goto (tgt := 232) hx hb dX10_putBox_195 (by decide) ?_
                  refine lv_iload hx hb dX10_putBox_232 (lv_at hl 9 rfl) ?_
                  exact mc_iretX E hr hlk hG rfl rfl ⟨_, rfl, ⟨_, _, _, _, (by unfold MK; omega : MK x1.toInt x3.toInt x4.toInt x5.toInt x6.toInt (x3.toInt) (0) (0) (0)), PX_AG hPX pt65 (by omega) (by omega), by omega⟩, hI⟩ dX10_putBox_234
              · exfalso
                have ic44 := tn_nle rfl kI_3 c44
                omega
            · exfalso
              have ic41 := tn_nle rfl kI_2 c41
              omega
          · skip
            have ic38 := tn_nle rfl kI_1 c38
            refine lv_iload hx hb dX10_putBox_92 (lv_at hl 5 rfl) ?_
            refine lv_goto (tgt := 98) hx hb dX10_putBox_94 (by decide) ?_
            refine mc_callvX hG (mc_runV (As := [.int v8, .int 3, .int x4]) (rest := []) E hG (c_X10_putX l G (σ, cu, qX (upA a cu t37)) h0 v8 (3 : Int32) x4 t0 (by omega) (by omega) (by decide) (by decide) (0) (99) rfl (by omega) (by omega)) t0 rfl kv_X10_put ml_X10_102 ⟨rfl, rfl, Nat.le_of_ble_eq_true rfl, Nat.le_of_ble_eq_true rfl⟩ rfl hl.1 rfl (Nat.le_of_ble_eq_true rfl) ⟨Nat.zero_le _, Nat.zero_le _⟩ dX10_putBox_98) (fun Z H locs eZ pZ hG => ?_)
            rw [pZ] at hG
            clear eZ pZ Z
            rw [show (3 : Int32).toInt = 3 from kI_3] at hG
            have hG := qX_put hcu hG
            obtain ⟨t66, et66⟩ : ∃ Z : Nat → Int32, Z = upN t37 (ix v8.toInt 3) x4 := ⟨_, rfl⟩
            rw [← et66] at hG
            have hB : BZ ta t66 v8.toInt (1) (x1.toInt) (x3.toInt) (x4.toInt) (0) (0) (0) (0) (0) (0) (0) := by
              have q := BZ_p (k := 3) hB (by omega) (by decide) (by decide) et66
              exact q
            refine lv_aload_n hx hb dX10_putBox_101 rfl (lv_at hl 1 rfl) ?_
            refine lv_iload hx hb dX10_putBox_102 (lv_at hl 9 rfl) ?_
            refine lv_iconst (v := 4) hx hb dX10_putBox_104 (by decide) ?_
            refine lv_iload hx hb dX10_putBox_105 (lv_at hl 0 rfl) ?_
            refine lv_iconst (v := 2) hx hb dX10_putBox_107 (by decide) ?_
            refine lv_icmp_le (tgt := 116) hx hb dX10_putBox_108 (by decide) (fun c67 => ?_) (fun c67 => ?_)
            · skip
              have ic67 := tn_le rfl kI_2 c67
              refine lv_iconst (v := 0) hx hb dX10_putBox_116 (by decide) ?_
              have k68 := kI_0
              refine mc_callvX hG (mc_runV (As := [.int v8, .int 4, .int 0]) (rest := []) E hG (c_X10_putX l G (σ, cu, qX (upA a cu t66)) h0 v8 (4 : Int32) (0 : Int32) t0 (by omega) (by omega) (by decide) (by decide) (0) (99) rfl (by omega) (by omega)) t0 rfl kv_X10_put ml_X10_102 ⟨rfl, rfl, Nat.le_of_ble_eq_true rfl, Nat.le_of_ble_eq_true rfl⟩ rfl hl.1 rfl (Nat.le_of_ble_eq_true rfl) ⟨Nat.zero_le _, Nat.zero_le _⟩ dX10_putBox_117) (fun Z H locs eZ pZ hG => ?_)
              rw [pZ] at hG
              clear eZ pZ Z
              rw [show (4 : Int32).toInt = 4 from kI_4] at hG
              have hG := qX_put hcu hG
              obtain ⟨t69, et69⟩ : ∃ Z : Nat → Int32, Z = upN t66 (ix v8.toInt 4) (0 : Int32) := ⟨_, rfl⟩
              rw [← et69] at hG
              have hB : BZ ta t69 v8.toInt (1) (x1.toInt) (x3.toInt) (x4.toInt) (0) (0) (0) (0) (0) (0) (0) := by
                have q := BZ_p (k := 4) hB (by omega) (by decide) (by decide) et69
                rw [kI_0] at q
                exact q
              refine lv_aload_n hx hb dX10_putBox_120 rfl (lv_at hl 1 rfl) ?_
              refine lv_iload hx hb dX10_putBox_121 (lv_at hl 9 rfl) ?_
              refine lv_iconst (v := 5) hx hb dX10_putBox_123 (by decide) ?_
              refine lv_iload hx hb dX10_putBox_124 (lv_at hl 0 rfl) ?_
              refine lv_iconst (v := 3) hx hb dX10_putBox_126 (by decide) ?_
              refine lv_icmp_le (tgt := 135) hx hb dX10_putBox_127 (by decide) (fun c70 => ?_) (fun c70 => ?_)
              · skip
                have ic70 := tn_le rfl kI_3 c70
                refine lv_iconst (v := 0) hx hb dX10_putBox_135 (by decide) ?_
                have k71 := kI_0
                refine mc_callvX hG (mc_runV (As := [.int v8, .int 5, .int 0]) (rest := []) E hG (c_X10_putX l G (σ, cu, qX (upA a cu t69)) h0 v8 (5 : Int32) (0 : Int32) t0 (by omega) (by omega) (by decide) (by decide) (0) (99) rfl (by omega) (by omega)) t0 rfl kv_X10_put ml_X10_102 ⟨rfl, rfl, Nat.le_of_ble_eq_true rfl, Nat.le_of_ble_eq_true rfl⟩ rfl hl.1 rfl (Nat.le_of_ble_eq_true rfl) ⟨Nat.zero_le _, Nat.zero_le _⟩ dX10_putBox_136) (fun Z H locs eZ pZ hG => ?_)
                rw [pZ] at hG
                clear eZ pZ Z
                rw [show (5 : Int32).toInt = 5 from kI_5] at hG
                have hG := qX_put hcu hG
                obtain ⟨t72, et72⟩ : ∃ Z : Nat → Int32, Z = upN t69 (ix v8.toInt 5) (0 : Int32) := ⟨_, rfl⟩
                rw [← et72] at hG
                have hB : BZ ta t72 v8.toInt (1) (x1.toInt) (x3.toInt) (x4.toInt) (0) (0) (0) (0) (0) (0) (0) := by
                  have q := BZ_p (k := 5) hB (by omega) (by decide) (by decide) et72
                  rw [kI_0] at q
                  exact q
                refine lv_aload_n hx hb dX10_putBox_139 rfl (lv_at hl 1 rfl) ?_
                refine lv_iload hx hb dX10_putBox_140 (lv_at hl 9 rfl) ?_
                refine lv_bipush (v := 6) hx hb dX10_putBox_142 (by decide) ?_
                refine lv_iload hx hb dX10_putBox_144 (lv_at hl 8 rfl) ?_
                refine mc_callvX hG (mc_runV (As := [.int v8, .int 6, .int x7]) (rest := []) E hG (c_X10_putX l G (σ, cu, qX (upA a cu t72)) h0 v8 (6 : Int32) x7 t0 (by omega) (by omega) (by decide) (by decide) (0) (9) rfl (by omega) (by omega)) t0 rfl kv_X10_put ml_X10_102 ⟨rfl, rfl, Nat.le_of_ble_eq_true rfl, Nat.le_of_ble_eq_true rfl⟩ rfl hl.1 rfl (Nat.le_of_ble_eq_true rfl) ⟨Nat.zero_le _, Nat.zero_le _⟩ dX10_putBox_146) (fun Z H locs eZ pZ hG => ?_)
                rw [pZ] at hG
                clear eZ pZ Z
                rw [show (6 : Int32).toInt = 6 from kI_6] at hG
                have hG := qX_put hcu hG
                obtain ⟨t73, et73⟩ : ∃ Z : Nat → Int32, Z = upN t72 (ix v8.toInt 6) x7 := ⟨_, rfl⟩
                rw [← et73] at hG
                have hB : BZ ta t73 v8.toInt (1) (x1.toInt) (x3.toInt) (x4.toInt) (0) (0) (x7.toInt) (0) (0) (0) (0) := by
                  have q := BZ_p (k := 6) hB (by omega) (by decide) (by decide) et73
                  exact q
                refine lv_aload_n hx hb dX10_putBox_149 rfl (lv_at hl 1 rfl) ?_
                refine lv_iload hx hb dX10_putBox_150 (lv_at hl 9 rfl) ?_
                refine lv_bipush (v := 8) hx hb dX10_putBox_152 (by decide) ?_
                refine lv_bipush (v := 99) hx hb dX10_putBox_154 (by decide) ?_
                have k74 := kI_99
                refine mc_callvX hG (mc_runV (As := [.int v8, .int 8, .int 99]) (rest := []) E hG (c_X10_putX l G (σ, cu, qX (upA a cu t73)) h0 v8 (8 : Int32) (99 : Int32) t0 (by omega) (by omega) (by decide) (by decide) (0) (99) rfl (by omega) (by omega)) t0 rfl kv_X10_put ml_X10_102 ⟨rfl, rfl, Nat.le_of_ble_eq_true rfl, Nat.le_of_ble_eq_true rfl⟩ rfl hl.1 rfl (Nat.le_of_ble_eq_true rfl) ⟨Nat.zero_le _, Nat.zero_le _⟩ dX10_putBox_156) (fun Z H locs eZ pZ hG => ?_)
                rw [pZ] at hG
                clear eZ pZ Z
                rw [show (8 : Int32).toInt = 8 from kI_8] at hG
                have hG := qX_put hcu hG
                obtain ⟨t75, et75⟩ : ∃ Z : Nat → Int32, Z = upN t73 (ix v8.toInt 8) (99 : Int32) := ⟨_, rfl⟩
                rw [← et75] at hG
                have hB : BZ ta t75 v8.toInt (1) (x1.toInt) (x3.toInt) (x4.toInt) (0) (0) (x7.toInt) (0) (99) (0) (0) := by
                  have q := BZ_p (k := 8) hB (by omega) (by decide) (by decide) et75
                  rw [kI_99] at q
                  exact q
                refine lv_aload_n hx hb dX10_putBox_159 rfl (lv_at hl 1 rfl) ?_
                refine lv_iload hx hb dX10_putBox_160 (lv_at hl 9 rfl) ?_
                refine lv_bipush (v := 9) hx hb dX10_putBox_162 (by decide) ?_
                refine lv_iload_n hx hb dX10_putBox_164 rfl (lv_at hl 3 rfl) ?_
                refine mc_callvX hG (mc_runV (As := [.int v8, .int 9, .int x2]) (rest := []) E hG (c_X10_putX l G (σ, cu, qX (upA a cu t75)) h0 v8 (9 : Int32) x2 t0 (by omega) (by omega) (by decide) (by decide) (-1) (23) rfl (by omega) (by omega)) t0 rfl kv_X10_put ml_X10_102 ⟨rfl, rfl, Nat.le_of_ble_eq_true rfl, Nat.le_of_ble_eq_true rfl⟩ rfl hl.1 rfl (Nat.le_of_ble_eq_true rfl) ⟨Nat.zero_le _, Nat.zero_le _⟩ dX10_putBox_165) (fun Z H locs eZ pZ hG => ?_)
                rw [pZ] at hG
                clear eZ pZ Z
                rw [show (9 : Int32).toInt = 9 from kI_9] at hG
                have hG := qX_put hcu hG
                obtain ⟨t76, et76⟩ : ∃ Z : Nat → Int32, Z = upN t75 (ix v8.toInt 9) x2 := ⟨_, rfl⟩
                rw [← et76] at hG
                have hB : BZ ta t76 v8.toInt (1) (x1.toInt) (x3.toInt) (x4.toInt) (0) (0) (x7.toInt) (0) (99) (x2.toInt) (0) := by
                  have q := BZ_p (k := 9) hB (by omega) (by decide) (by decide) et76
                  exact q
                refine lv_aload_n hx hb dX10_putBox_168 rfl (lv_at hl 1 rfl) ?_
                refine lv_iload hx hb dX10_putBox_169 (lv_at hl 9 rfl) ?_
                refine lv_bipush (v := 19) hx hb dX10_putBox_171 (by decide) ?_
                refine lv_iconst (v := 1) hx hb dX10_putBox_173 (by decide) ?_
                have k77 := kI_1
                refine mc_callv hG (mc_runV (As := [.int v8, .int 19, .int 1]) (rest := []) E hG (c_X10_put l G (σ, cu, qX (upA a cu t76)) h0 v8 (19 : Int32) (1 : Int32) t0 (by omega) (by omega) (by decide) (by decide) (0) (1) rfl (by omega) (by omega) ((qX_AV hcu).2.2 _ _ (by omega) (by omega) (by decide) (by decide))) t0 rfl kv_X10_put ml_X10_102 ⟨rfl, rfl, Nat.le_of_ble_eq_true rfl, Nat.le_of_ble_eq_true rfl⟩ rfl hl.1 rfl (Nat.le_of_ble_eq_true rfl) ⟨Nat.zero_le _, Nat.zero_le _⟩ dX10_putBox_174) (fun H locs hG => ?_)
                refine lv_iload_n hx hb dX10_putBox_177 rfl (lv_at hl 3 rfl) ?_
                refine lv_if_ge (tgt := 198) hx hb dX10_putBox_178 (by decide) (fun c78 => ?_) (fun c78 => ?_)
                · skip
                  have ic78 := tn_le kI_0 rfl c78
                  refine lv_aload_n hx hb dX10_putBox_198 rfl (lv_at hl 1 rfl) ?_
                  refine lv_iload_n hx hb dX10_putBox_199 rfl (lv_at hl 3 rfl) ?_
                  refine lv_bipush (v := 11) hx hb dX10_putBox_200 (by decide) ?_
                  refine lv_aload_n hx hb dX10_putBox_202 rfl (lv_at hl 1 rfl) ?_
                  refine lv_iload_n hx hb dX10_putBox_203 rfl (lv_at hl 3 rfl) ?_
                  refine tc_callp (mc_runV (As := [.int x2]) (rest := [.int 11, .int x2, .ref h0]) E hG (c_X10_manyOf l G (σ, cu, qX (upA a cu t76)) h0 x2 t0 (by omega) (by omega)) t0 rfl kv_X10_manyOf ml_X10_117 ⟨rfl, rfl, Nat.le_of_ble_eq_true rfl, Nat.le_of_ble_eq_true rfl⟩ rfl hl.1 rfl (Nat.le_of_ble_eq_true rfl) ⟨Nat.zero_le _, Nat.zero_le _⟩ dX10_putBox_204) (fun r79 pr79 => ?_)
                  replace pr79 : mV (σ, cu, qX (upA a cu t76)) (ix x2.toInt 10) r79 := pr79
                  have br79 := mV_10 pr79 (by omega)
                  have cr79 := mT pr79 (qX_TI hcu upA_at) (by omega) (by omega) (by decide) (by decide)
                  have hm1 : r79.toInt = K ta x2.toInt 10 := by rw [cr79]; show (t76 (ix _ 10)).toInt = _; rw [hB.2.2.1 _ 10 (by omega) (by omega) (by decide) (by decide)]
                  refine lv_iadd hx hb dX10_putBox_207 ?_
                  refine lv_topi (fun z80 ez80 => ?_)
                  have tz80 := tn_add ez80 kI_11 rfl (by omega) (by omega)
                  refine lv_iload hx hb dX10_putBox_208 (lv_at hl 9 rfl) ?_
                  have k81 : fR z80.toInt.toNat = (0, 23) := by rcases (show z80.toInt = 11 ∨ z80.toInt = 12 ∨ z80.toInt = 13 ∨ z80.toInt = 14 ∨ z80.toInt = 15 ∨ z80.toInt = 16 ∨ z80.toInt = 17 ∨ z80.toInt = 18 by omega) with h9 | h9 | h9 | h9 | h9 | h9 | h9 | h9 <;> rw [h9] <;> rfl
                  refine mc_callvX hG (mc_runV (As := [.int x2, .int z80, .int v8]) (rest := []) E hG (c_X10_putX l G (σ, cu, qX (upA a cu t76)) h0 x2 z80 v8 t0 (by omega) (by omega) (by omega) (by omega) _ _ k81 (by omega) (by omega)) t0 rfl kv_X10_put ml_X10_102 ⟨rfl, rfl, Nat.le_of_ble_eq_true rfl, Nat.le_of_ble_eq_true rfl⟩ rfl hl.1 rfl (Nat.le_of_ble_eq_true rfl) ⟨Nat.zero_le _, Nat.zero_le _⟩ dX10_putBox_210) (fun Z H locs eZ pZ hG => ?_)
                  rw [pZ] at hG
                  clear eZ pZ Z
                  have hG := qX_put hcu hG
                  obtain ⟨t82, et82⟩ : ∃ Z : Nat → Int32, Z = upN t76 (ix x2.toInt z80.toInt) v8 := ⟨_, rfl⟩
                  rw [← et82] at hG
                  refine lv_aload_n hx hb dX10_putBox_213 rfl (lv_at hl 1 rfl) ?_
                  refine lv_iload_n hx hb dX10_putBox_214 rfl (lv_at hl 3 rfl) ?_
                  refine lv_bipush (v := 10) hx hb dX10_putBox_215 (by decide) ?_
                  refine lv_aload_n hx hb dX10_putBox_217 rfl (lv_at hl 1 rfl) ?_
                  refine lv_iload_n hx hb dX10_putBox_218 rfl (lv_at hl 3 rfl) ?_
                  refine tc_callp (mc_runV (As := [.int x2]) (rest := [.int 10, .int x2, .ref h0]) E hG (c_X10_manyOf l G (σ, cu, qX (upA a cu t82)) h0 x2 t0 (by omega) (by omega)) t0 rfl kv_X10_manyOf ml_X10_117 ⟨rfl, rfl, Nat.le_of_ble_eq_true rfl, Nat.le_of_ble_eq_true rfl⟩ rfl hl.1 rfl (Nat.le_of_ble_eq_true rfl) ⟨Nat.zero_le _, Nat.zero_le _⟩ dX10_putBox_219) (fun r83 pr83 => ?_)
                  replace pr83 : mV (σ, cu, qX (upA a cu t82)) (ix x2.toInt 10) r83 := pr83
                  have br83 := mV_10 pr83 (by omega)
                  have cr83 := mT pr83 (qX_TI hcu upA_at) (by omega) (by omega) (by decide) (by decide)
                  have hm2 : r83.toInt = K ta x2.toInt 10 := by rw [cr83]; show (t82 (ix _ 10)).toInt = _; rw [et82, upN_ne (fun q => by have := (ix_inj (by omega) (by decide) (by decide) (by omega) (by omega) (by omega) q).2; omega), hB.2.2.1 _ 10 (by omega) (by omega) (by decide) (by decide)]
                  refine lv_iconst (v := 1) hx hb dX10_putBox_222 (by decide) ?_
                  refine lv_iadd hx hb dX10_putBox_223 ?_
                  refine lv_topi (fun z84 ez84 => ?_)
                  have tz84 := tn_add ez84 rfl kI_1 (by omega) (by omega)
                  refine mc_callvX hG (mc_runV (As := [.int x2, .int 10, .int z84]) (rest := []) E hG (c_X10_putX l G (σ, cu, qX (upA a cu t82)) h0 x2 (10 : Int32) z84 t0 (by omega) (by omega) (by decide) (by decide) (0) (8) rfl (by omega) (by omega)) t0 rfl kv_X10_put ml_X10_102 ⟨rfl, rfl, Nat.le_of_ble_eq_true rfl, Nat.le_of_ble_eq_true rfl⟩ rfl hl.1 rfl (Nat.le_of_ble_eq_true rfl) ⟨Nat.zero_le _, Nat.zero_le _⟩ dX10_putBox_224) (fun Z H locs eZ pZ hG => ?_)
                  rw [pZ] at hG
                  clear eZ pZ Z
                  rw [show (10 : Int32).toInt = 10 from kI_10] at hG
                  have hG := qX_put hcu hG
                  obtain ⟨t85, et85⟩ : ∃ Z : Nat → Int32, Z = upN t82 (ix x2.toInt 10) z84 := ⟨_, rfl⟩
                  rw [← et85] at hG
                  have hPB := PB_par hIa hn8 (by omega) hB.bx (fun q => ⟨by omega, by omega⟩) (by omega) (by omega) (by omega) et82 (by omega) rfl et85 (by omega)
                  have hm0 := hIa.2.2.2.2.2.2.2.2 x2.toInt (by omega) (by omega)
                  have hPX := PZ_par hn8 hB (by omega) (by omega) (by omega) hm0.1 et82 (by omega) rfl et85 (by omega)
                  have hI := hPB.1
                  have h3p := hPB.2.1
                  refine lv_aload_n hx hb dX10_putBox_227 rfl (lv_at hl 1 rfl) ?_
                  refine lv_iload_n hx hb dX10_putBox_228 rfl (lv_at hl 3 rfl) ?_
                  refine mc_callvX hG (mc_runV (As := [.int x2]) (rest := []) E hG (c_X10_marks l G σ cu a t85 h0 x2 t0 (by omega) (by omega) hI (by first | omega | (have k1 := kI_m1; have hI1 := hI.1; omega))) t0 rfl kv_X10_marks ml_X10_113 ⟨rfl, rfl, Nat.le_of_ble_eq_true rfl, Nat.le_of_ble_eq_true rfl⟩ rfl hl.1 rfl (Nat.le_of_ble_eq_true rfl) ⟨Nat.zero_le _, Nat.zero_le _⟩ dX10_putBox_229) (fun Z H locs eZ pZ hG => ?_)
                  obtain ⟨t87, rfl, pt87, hI⟩ := pZ
                  clear eZ
                  have h3n : (t87 3).toInt = (t85 3).toInt := by rw [pt87.2.1]
                  have h0n : (t87 0).toInt = (t85 0).toInt := by rw [pt87.1]
                  refine lv_iload hx hb dX10_putBox_232 (lv_at hl 9 rfl) ?_
                  exact mc_iretX E hr hlk hG rfl rfl ⟨_, rfl, ⟨_, _, _, _, (by unfold MK; omega : MK x1.toInt x3.toInt x4.toInt x5.toInt x6.toInt (x3.toInt) (x4.toInt) (0) (0)), PX_AG hPX pt87 (by omega) (by omega), by omega⟩, hI⟩ dX10_putBox_234
                · skip
                  have ic78 := tn_nle kI_0 rfl c78
                  refine lv_aload_n hx hb dX10_putBox_181 rfl (lv_at hl 1 rfl) ?_
                  refine mc_getn E hG t0 ff_X10_9 dX10_putBox_182 (fun oa88 hoa88 => ?_)
                  refine lv_iconst (v := 0) hx hb dX10_putBox_185 (by decide) ?_
                  refine lv_iload hx hb dX10_putBox_186 (lv_at hl 9 rfl) ?_
                  refine mc_nastX E hG hoa88 hG.2.2.1 (t_in (by decide) (by decide)) (lo := -1) (hi := 23) rfl (by omega) (by omega) dX10_putBox_188 (fun H locs hG => ?_)
                  have hG := qX_set (k := 0) hcu rfl hG
                  obtain ⟨t89, et89⟩ : ∃ Z : Nat → Int32, Z = upN t76 0 v8 := ⟨_, rfl⟩
                  rw [← et89] at hG
                  have hPB := PB_top hIa hn8 (by omega) hB.bx (fun q => ⟨by omega, by omega⟩) (by omega) (by omega) et89 rfl
                  have hPX := PZ_top hn8 (by omega) hB (by omega) et89 rfl
                  have hI := hPB.1
                  have h3p := hPB.2.1
                  refine lv_aload_n hx hb dX10_putBox_189 rfl (lv_at hl 1 rfl) ?_
                  refine lv_iload hx hb dX10_putBox_190 (lv_at hl 9 rfl) ?_
                  refine mc_callvX hG (mc_runV (As := [.int v8]) (rest := []) E hG (c_X10_marks l G σ cu a t89 h0 v8 t0 (by omega) (by omega) hI (by first | omega | (have k1 := kI_m1; have hI1 := hI.1; omega))) t0 rfl kv_X10_marks ml_X10_113 ⟨rfl, rfl, Nat.le_of_ble_eq_true rfl, Nat.le_of_ble_eq_true rfl⟩ rfl hl.1 rfl (Nat.le_of_ble_eq_true rfl) ⟨Nat.zero_le _, Nat.zero_le _⟩ dX10_putBox_192) (fun Z H locs eZ pZ hG => ?_)
                  obtain ⟨t91, rfl, pt91, hI⟩ := pZ
                  clear eZ
                  have h3n : (t91 3).toInt = (t89 3).toInt := by rw [pt91.2.1]
                  have h0n : (t91 0).toInt = (t89 0).toInt := by rw [pt91.1]
                  refine lv_goto (tgt := 232) hx hb dX10_putBox_195 (by decide) ?_
                  refine lv_iload hx hb dX10_putBox_232 (lv_at hl 9 rfl) ?_
                  exact mc_iretX E hr hlk hG rfl rfl ⟨_, rfl, ⟨_, _, _, _, (by unfold MK; omega : MK x1.toInt x3.toInt x4.toInt x5.toInt x6.toInt (x3.toInt) (x4.toInt) (0) (0)), PX_AG hPX pt91 (by omega) (by omega), by omega⟩, hI⟩ dX10_putBox_234
              · exfalso
                have ic70 := tn_nle rfl kI_3 c70
                omega
            · skip
              have ic67 := tn_nle rfl kI_2 c67
              refine lv_iload hx hb dX10_putBox_111 (lv_at hl 6 rfl) ?_
              refine lv_goto (tgt := 117) hx hb dX10_putBox_113 (by decide) ?_
              refine mc_callvX hG (mc_runV (As := [.int v8, .int 4, .int x5]) (rest := []) E hG (c_X10_putX l G (σ, cu, qX (upA a cu t66)) h0 v8 (4 : Int32) x5 t0 (by omega) (by omega) (by decide) (by decide) (0) (99) rfl (by omega) (by omega)) t0 rfl kv_X10_put ml_X10_102 ⟨rfl, rfl, Nat.le_of_ble_eq_true rfl, Nat.le_of_ble_eq_true rfl⟩ rfl hl.1 rfl (Nat.le_of_ble_eq_true rfl) ⟨Nat.zero_le _, Nat.zero_le _⟩ dX10_putBox_117) (fun Z H locs eZ pZ hG => ?_)
              rw [pZ] at hG
              clear eZ pZ Z
              rw [show (4 : Int32).toInt = 4 from kI_4] at hG
              have hG := qX_put hcu hG
              obtain ⟨t92, et92⟩ : ∃ Z : Nat → Int32, Z = upN t66 (ix v8.toInt 4) x5 := ⟨_, rfl⟩
              rw [← et92] at hG
              have hB : BZ ta t92 v8.toInt (1) (x1.toInt) (x3.toInt) (x4.toInt) (x5.toInt) (0) (0) (0) (0) (0) (0) := by
                have q := BZ_p (k := 4) hB (by omega) (by decide) (by decide) et92
                exact q
              refine lv_aload_n hx hb dX10_putBox_120 rfl (lv_at hl 1 rfl) ?_
              refine lv_iload hx hb dX10_putBox_121 (lv_at hl 9 rfl) ?_
              refine lv_iconst (v := 5) hx hb dX10_putBox_123 (by decide) ?_
              refine lv_iload hx hb dX10_putBox_124 (lv_at hl 0 rfl) ?_
              refine lv_iconst (v := 3) hx hb dX10_putBox_126 (by decide) ?_
              refine lv_icmp_le (tgt := 135) hx hb dX10_putBox_127 (by decide) (fun c93 => ?_) (fun c93 => ?_)
              · skip
                have ic93 := tn_le rfl kI_3 c93
                refine lv_iconst (v := 0) hx hb dX10_putBox_135 (by decide) ?_
                have k94 := kI_0
                refine mc_callvX hG (mc_runV (As := [.int v8, .int 5, .int 0]) (rest := []) E hG (c_X10_putX l G (σ, cu, qX (upA a cu t92)) h0 v8 (5 : Int32) (0 : Int32) t0 (by omega) (by omega) (by decide) (by decide) (0) (99) rfl (by omega) (by omega)) t0 rfl kv_X10_put ml_X10_102 ⟨rfl, rfl, Nat.le_of_ble_eq_true rfl, Nat.le_of_ble_eq_true rfl⟩ rfl hl.1 rfl (Nat.le_of_ble_eq_true rfl) ⟨Nat.zero_le _, Nat.zero_le _⟩ dX10_putBox_136) (fun Z H locs eZ pZ hG => ?_)
                rw [pZ] at hG
                clear eZ pZ Z
                rw [show (5 : Int32).toInt = 5 from kI_5] at hG
                have hG := qX_put hcu hG
                obtain ⟨t95, et95⟩ : ∃ Z : Nat → Int32, Z = upN t92 (ix v8.toInt 5) (0 : Int32) := ⟨_, rfl⟩
                rw [← et95] at hG
                have hB : BZ ta t95 v8.toInt (1) (x1.toInt) (x3.toInt) (x4.toInt) (x5.toInt) (0) (0) (0) (0) (0) (0) := by
                  have q := BZ_p (k := 5) hB (by omega) (by decide) (by decide) et95
                  rw [kI_0] at q
                  exact q
                refine lv_aload_n hx hb dX10_putBox_139 rfl (lv_at hl 1 rfl) ?_
                refine lv_iload hx hb dX10_putBox_140 (lv_at hl 9 rfl) ?_
                refine lv_bipush (v := 6) hx hb dX10_putBox_142 (by decide) ?_
                refine lv_iload hx hb dX10_putBox_144 (lv_at hl 8 rfl) ?_
                refine mc_callvX hG (mc_runV (As := [.int v8, .int 6, .int x7]) (rest := []) E hG (c_X10_putX l G (σ, cu, qX (upA a cu t95)) h0 v8 (6 : Int32) x7 t0 (by omega) (by omega) (by decide) (by decide) (0) (9) rfl (by omega) (by omega)) t0 rfl kv_X10_put ml_X10_102 ⟨rfl, rfl, Nat.le_of_ble_eq_true rfl, Nat.le_of_ble_eq_true rfl⟩ rfl hl.1 rfl (Nat.le_of_ble_eq_true rfl) ⟨Nat.zero_le _, Nat.zero_le _⟩ dX10_putBox_146) (fun Z H locs eZ pZ hG => ?_)
                rw [pZ] at hG
                clear eZ pZ Z
                rw [show (6 : Int32).toInt = 6 from kI_6] at hG
                have hG := qX_put hcu hG
                obtain ⟨t96, et96⟩ : ∃ Z : Nat → Int32, Z = upN t95 (ix v8.toInt 6) x7 := ⟨_, rfl⟩
                rw [← et96] at hG
                have hB : BZ ta t96 v8.toInt (1) (x1.toInt) (x3.toInt) (x4.toInt) (x5.toInt) (0) (x7.toInt) (0) (0) (0) (0) := by
                  have q := BZ_p (k := 6) hB (by omega) (by decide) (by decide) et96
                  exact q
                refine lv_aload_n hx hb dX10_putBox_149 rfl (lv_at hl 1 rfl) ?_
                refine lv_iload hx hb dX10_putBox_150 (lv_at hl 9 rfl) ?_
                refine lv_bipush (v := 8) hx hb dX10_putBox_152 (by decide) ?_
                refine lv_bipush (v := 99) hx hb dX10_putBox_154 (by decide) ?_
                have k97 := kI_99
                refine mc_callvX hG (mc_runV (As := [.int v8, .int 8, .int 99]) (rest := []) E hG (c_X10_putX l G (σ, cu, qX (upA a cu t96)) h0 v8 (8 : Int32) (99 : Int32) t0 (by omega) (by omega) (by decide) (by decide) (0) (99) rfl (by omega) (by omega)) t0 rfl kv_X10_put ml_X10_102 ⟨rfl, rfl, Nat.le_of_ble_eq_true rfl, Nat.le_of_ble_eq_true rfl⟩ rfl hl.1 rfl (Nat.le_of_ble_eq_true rfl) ⟨Nat.zero_le _, Nat.zero_le _⟩ dX10_putBox_156) (fun Z H locs eZ pZ hG => ?_)
                rw [pZ] at hG
                clear eZ pZ Z
                rw [show (8 : Int32).toInt = 8 from kI_8] at hG
                have hG := qX_put hcu hG
                obtain ⟨t98, et98⟩ : ∃ Z : Nat → Int32, Z = upN t96 (ix v8.toInt 8) (99 : Int32) := ⟨_, rfl⟩
                rw [← et98] at hG
                have hB : BZ ta t98 v8.toInt (1) (x1.toInt) (x3.toInt) (x4.toInt) (x5.toInt) (0) (x7.toInt) (0) (99) (0) (0) := by
                  have q := BZ_p (k := 8) hB (by omega) (by decide) (by decide) et98
                  rw [kI_99] at q
                  exact q
                refine lv_aload_n hx hb dX10_putBox_159 rfl (lv_at hl 1 rfl) ?_
                refine lv_iload hx hb dX10_putBox_160 (lv_at hl 9 rfl) ?_
                refine lv_bipush (v := 9) hx hb dX10_putBox_162 (by decide) ?_
                refine lv_iload_n hx hb dX10_putBox_164 rfl (lv_at hl 3 rfl) ?_
                refine mc_callvX hG (mc_runV (As := [.int v8, .int 9, .int x2]) (rest := []) E hG (c_X10_putX l G (σ, cu, qX (upA a cu t98)) h0 v8 (9 : Int32) x2 t0 (by omega) (by omega) (by decide) (by decide) (-1) (23) rfl (by omega) (by omega)) t0 rfl kv_X10_put ml_X10_102 ⟨rfl, rfl, Nat.le_of_ble_eq_true rfl, Nat.le_of_ble_eq_true rfl⟩ rfl hl.1 rfl (Nat.le_of_ble_eq_true rfl) ⟨Nat.zero_le _, Nat.zero_le _⟩ dX10_putBox_165) (fun Z H locs eZ pZ hG => ?_)
                rw [pZ] at hG
                clear eZ pZ Z
                rw [show (9 : Int32).toInt = 9 from kI_9] at hG
                have hG := qX_put hcu hG
                obtain ⟨t99, et99⟩ : ∃ Z : Nat → Int32, Z = upN t98 (ix v8.toInt 9) x2 := ⟨_, rfl⟩
                rw [← et99] at hG
                have hB : BZ ta t99 v8.toInt (1) (x1.toInt) (x3.toInt) (x4.toInt) (x5.toInt) (0) (x7.toInt) (0) (99) (x2.toInt) (0) := by
                  have q := BZ_p (k := 9) hB (by omega) (by decide) (by decide) et99
                  exact q
                refine lv_aload_n hx hb dX10_putBox_168 rfl (lv_at hl 1 rfl) ?_
                refine lv_iload hx hb dX10_putBox_169 (lv_at hl 9 rfl) ?_
                refine lv_bipush (v := 19) hx hb dX10_putBox_171 (by decide) ?_
                refine lv_iconst (v := 1) hx hb dX10_putBox_173 (by decide) ?_
                have k100 := kI_1
                refine mc_callv hG (mc_runV (As := [.int v8, .int 19, .int 1]) (rest := []) E hG (c_X10_put l G (σ, cu, qX (upA a cu t99)) h0 v8 (19 : Int32) (1 : Int32) t0 (by omega) (by omega) (by decide) (by decide) (0) (1) rfl (by omega) (by omega) ((qX_AV hcu).2.2 _ _ (by omega) (by omega) (by decide) (by decide))) t0 rfl kv_X10_put ml_X10_102 ⟨rfl, rfl, Nat.le_of_ble_eq_true rfl, Nat.le_of_ble_eq_true rfl⟩ rfl hl.1 rfl (Nat.le_of_ble_eq_true rfl) ⟨Nat.zero_le _, Nat.zero_le _⟩ dX10_putBox_174) (fun H locs hG => ?_)
                refine lv_iload_n hx hb dX10_putBox_177 rfl (lv_at hl 3 rfl) ?_
                refine lv_if_ge (tgt := 198) hx hb dX10_putBox_178 (by decide) (fun c101 => ?_) (fun c101 => ?_)
                · skip
                  have ic101 := tn_le kI_0 rfl c101
                  refine lv_aload_n hx hb dX10_putBox_198 rfl (lv_at hl 1 rfl) ?_
                  refine lv_iload_n hx hb dX10_putBox_199 rfl (lv_at hl 3 rfl) ?_
                  refine lv_bipush (v := 11) hx hb dX10_putBox_200 (by decide) ?_
                  refine lv_aload_n hx hb dX10_putBox_202 rfl (lv_at hl 1 rfl) ?_
                  refine lv_iload_n hx hb dX10_putBox_203 rfl (lv_at hl 3 rfl) ?_
                  refine tc_callp (mc_runV (As := [.int x2]) (rest := [.int 11, .int x2, .ref h0]) E hG (c_X10_manyOf l G (σ, cu, qX (upA a cu t99)) h0 x2 t0 (by omega) (by omega)) t0 rfl kv_X10_manyOf ml_X10_117 ⟨rfl, rfl, Nat.le_of_ble_eq_true rfl, Nat.le_of_ble_eq_true rfl⟩ rfl hl.1 rfl (Nat.le_of_ble_eq_true rfl) ⟨Nat.zero_le _, Nat.zero_le _⟩ dX10_putBox_204) (fun r102 pr102 => ?_)
                  replace pr102 : mV (σ, cu, qX (upA a cu t99)) (ix x2.toInt 10) r102 := pr102
                  have br102 := mV_10 pr102 (by omega)
                  have cr102 := mT pr102 (qX_TI hcu upA_at) (by omega) (by omega) (by decide) (by decide)
                  have hm1 : r102.toInt = K ta x2.toInt 10 := by rw [cr102]; show (t99 (ix _ 10)).toInt = _; rw [hB.2.2.1 _ 10 (by omega) (by omega) (by decide) (by decide)]
                  refine lv_iadd hx hb dX10_putBox_207 ?_
                  refine lv_topi (fun z103 ez103 => ?_)
                  have tz103 := tn_add ez103 kI_11 rfl (by omega) (by omega)
                  refine lv_iload hx hb dX10_putBox_208 (lv_at hl 9 rfl) ?_
                  have k104 : fR z103.toInt.toNat = (0, 23) := by rcases (show z103.toInt = 11 ∨ z103.toInt = 12 ∨ z103.toInt = 13 ∨ z103.toInt = 14 ∨ z103.toInt = 15 ∨ z103.toInt = 16 ∨ z103.toInt = 17 ∨ z103.toInt = 18 by omega) with h9 | h9 | h9 | h9 | h9 | h9 | h9 | h9 <;> rw [h9] <;> rfl
                  refine mc_callvX hG (mc_runV (As := [.int x2, .int z103, .int v8]) (rest := []) E hG (c_X10_putX l G (σ, cu, qX (upA a cu t99)) h0 x2 z103 v8 t0 (by omega) (by omega) (by omega) (by omega) _ _ k104 (by omega) (by omega)) t0 rfl kv_X10_put ml_X10_102 ⟨rfl, rfl, Nat.le_of_ble_eq_true rfl, Nat.le_of_ble_eq_true rfl⟩ rfl hl.1 rfl (Nat.le_of_ble_eq_true rfl) ⟨Nat.zero_le _, Nat.zero_le _⟩ dX10_putBox_210) (fun Z H locs eZ pZ hG => ?_)
                  rw [pZ] at hG
                  clear eZ pZ Z
                  have hG := qX_put hcu hG
                  obtain ⟨t105, et105⟩ : ∃ Z : Nat → Int32, Z = upN t99 (ix x2.toInt z103.toInt) v8 := ⟨_, rfl⟩
                  rw [← et105] at hG
                  refine lv_aload_n hx hb dX10_putBox_213 rfl (lv_at hl 1 rfl) ?_
                  refine lv_iload_n hx hb dX10_putBox_214 rfl (lv_at hl 3 rfl) ?_
                  refine lv_bipush (v := 10) hx hb dX10_putBox_215 (by decide) ?_
                  refine lv_aload_n hx hb dX10_putBox_217 rfl (lv_at hl 1 rfl) ?_
                  refine lv_iload_n hx hb dX10_putBox_218 rfl (lv_at hl 3 rfl) ?_
                  refine tc_callp (mc_runV (As := [.int x2]) (rest := [.int 10, .int x2, .ref h0]) E hG (c_X10_manyOf l G (σ, cu, qX (upA a cu t105)) h0 x2 t0 (by omega) (by omega)) t0 rfl kv_X10_manyOf ml_X10_117 ⟨rfl, rfl, Nat.le_of_ble_eq_true rfl, Nat.le_of_ble_eq_true rfl⟩ rfl hl.1 rfl (Nat.le_of_ble_eq_true rfl) ⟨Nat.zero_le _, Nat.zero_le _⟩ dX10_putBox_219) (fun r106 pr106 => ?_)
                  replace pr106 : mV (σ, cu, qX (upA a cu t105)) (ix x2.toInt 10) r106 := pr106
                  have br106 := mV_10 pr106 (by omega)
                  have cr106 := mT pr106 (qX_TI hcu upA_at) (by omega) (by omega) (by decide) (by decide)
                  have hm2 : r106.toInt = K ta x2.toInt 10 := by rw [cr106]; show (t105 (ix _ 10)).toInt = _; rw [et105, upN_ne (fun q => by have := (ix_inj (by omega) (by decide) (by decide) (by omega) (by omega) (by omega) q).2; omega), hB.2.2.1 _ 10 (by omega) (by omega) (by decide) (by decide)]
                  refine lv_iconst (v := 1) hx hb dX10_putBox_222 (by decide) ?_
                  refine lv_iadd hx hb dX10_putBox_223 ?_
                  refine lv_topi (fun z107 ez107 => ?_)
                  have tz107 := tn_add ez107 rfl kI_1 (by omega) (by omega)
                  refine mc_callvX hG (mc_runV (As := [.int x2, .int 10, .int z107]) (rest := []) E hG (c_X10_putX l G (σ, cu, qX (upA a cu t105)) h0 x2 (10 : Int32) z107 t0 (by omega) (by omega) (by decide) (by decide) (0) (8) rfl (by omega) (by omega)) t0 rfl kv_X10_put ml_X10_102 ⟨rfl, rfl, Nat.le_of_ble_eq_true rfl, Nat.le_of_ble_eq_true rfl⟩ rfl hl.1 rfl (Nat.le_of_ble_eq_true rfl) ⟨Nat.zero_le _, Nat.zero_le _⟩ dX10_putBox_224) (fun Z H locs eZ pZ hG => ?_)
                  rw [pZ] at hG
                  clear eZ pZ Z
                  rw [show (10 : Int32).toInt = 10 from kI_10] at hG
                  have hG := qX_put hcu hG
                  obtain ⟨t108, et108⟩ : ∃ Z : Nat → Int32, Z = upN t105 (ix x2.toInt 10) z107 := ⟨_, rfl⟩
                  rw [← et108] at hG
                  have hPB := PB_par hIa hn8 (by omega) hB.bx (fun q => ⟨by omega, by omega⟩) (by omega) (by omega) (by omega) et105 (by omega) rfl et108 (by omega)
                  have hm0 := hIa.2.2.2.2.2.2.2.2 x2.toInt (by omega) (by omega)
                  have hPX := PZ_par hn8 hB (by omega) (by omega) (by omega) hm0.1 et105 (by omega) rfl et108 (by omega)
                  have hI := hPB.1
                  have h3p := hPB.2.1
                  refine lv_aload_n hx hb dX10_putBox_227 rfl (lv_at hl 1 rfl) ?_
                  refine lv_iload_n hx hb dX10_putBox_228 rfl (lv_at hl 3 rfl) ?_
                  refine mc_callvX hG (mc_runV (As := [.int x2]) (rest := []) E hG (c_X10_marks l G σ cu a t108 h0 x2 t0 (by omega) (by omega) hI (by first | omega | (have k1 := kI_m1; have hI1 := hI.1; omega))) t0 rfl kv_X10_marks ml_X10_113 ⟨rfl, rfl, Nat.le_of_ble_eq_true rfl, Nat.le_of_ble_eq_true rfl⟩ rfl hl.1 rfl (Nat.le_of_ble_eq_true rfl) ⟨Nat.zero_le _, Nat.zero_le _⟩ dX10_putBox_229) (fun Z H locs eZ pZ hG => ?_)
                  obtain ⟨t110, rfl, pt110, hI⟩ := pZ
                  clear eZ
                  have h3n : (t110 3).toInt = (t108 3).toInt := by rw [pt110.2.1]
                  have h0n : (t110 0).toInt = (t108 0).toInt := by rw [pt110.1]
                  refine lv_iload hx hb dX10_putBox_232 (lv_at hl 9 rfl) ?_
                  exact mc_iretX E hr hlk hG rfl rfl ⟨_, rfl, ⟨_, _, _, _, (by unfold MK; omega : MK x1.toInt x3.toInt x4.toInt x5.toInt x6.toInt (x3.toInt) (x4.toInt) (x5.toInt) (0)), PX_AG hPX pt110 (by omega) (by omega), by omega⟩, hI⟩ dX10_putBox_234
                · skip
                  have ic101 := tn_nle kI_0 rfl c101
                  refine lv_aload_n hx hb dX10_putBox_181 rfl (lv_at hl 1 rfl) ?_
                  refine mc_getn E hG t0 ff_X10_9 dX10_putBox_182 (fun oa111 hoa111 => ?_)
                  refine lv_iconst (v := 0) hx hb dX10_putBox_185 (by decide) ?_
                  refine lv_iload hx hb dX10_putBox_186 (lv_at hl 9 rfl) ?_
                  refine mc_nastX E hG hoa111 hG.2.2.1 (t_in (by decide) (by decide)) (lo := -1) (hi := 23) rfl (by omega) (by omega) dX10_putBox_188 (fun H locs hG => ?_)
                  have hG := qX_set (k := 0) hcu rfl hG
                  obtain ⟨t112, et112⟩ : ∃ Z : Nat → Int32, Z = upN t99 0 v8 := ⟨_, rfl⟩
                  rw [← et112] at hG
                  have hPB := PB_top hIa hn8 (by omega) hB.bx (fun q => ⟨by omega, by omega⟩) (by omega) (by omega) et112 rfl
                  have hPX := PZ_top hn8 (by omega) hB (by omega) et112 rfl
                  have hI := hPB.1
                  have h3p := hPB.2.1
                  refine lv_aload_n hx hb dX10_putBox_189 rfl (lv_at hl 1 rfl) ?_
                  refine lv_iload hx hb dX10_putBox_190 (lv_at hl 9 rfl) ?_
                  refine mc_callvX hG (mc_runV (As := [.int v8]) (rest := []) E hG (c_X10_marks l G σ cu a t112 h0 v8 t0 (by omega) (by omega) hI (by first | omega | (have k1 := kI_m1; have hI1 := hI.1; omega))) t0 rfl kv_X10_marks ml_X10_113 ⟨rfl, rfl, Nat.le_of_ble_eq_true rfl, Nat.le_of_ble_eq_true rfl⟩ rfl hl.1 rfl (Nat.le_of_ble_eq_true rfl) ⟨Nat.zero_le _, Nat.zero_le _⟩ dX10_putBox_192) (fun Z H locs eZ pZ hG => ?_)
                  obtain ⟨t114, rfl, pt114, hI⟩ := pZ
                  clear eZ
                  have h3n : (t114 3).toInt = (t112 3).toInt := by rw [pt114.2.1]
                  have h0n : (t114 0).toInt = (t112 0).toInt := by rw [pt114.1]
                  refine lv_goto (tgt := 232) hx hb dX10_putBox_195 (by decide) ?_
                  refine lv_iload hx hb dX10_putBox_232 (lv_at hl 9 rfl) ?_
                  exact mc_iretX E hr hlk hG rfl rfl ⟨_, rfl, ⟨_, _, _, _, (by unfold MK; omega : MK x1.toInt x3.toInt x4.toInt x5.toInt x6.toInt (x3.toInt) (x4.toInt) (x5.toInt) (0)), PX_AG hPX pt114 (by omega) (by omega), by omega⟩, hI⟩ dX10_putBox_234
              · skip
                have ic93 := tn_nle rfl kI_3 c93
                refine lv_iload hx hb dX10_putBox_130 (lv_at hl 7 rfl) ?_
                refine lv_goto (tgt := 136) hx hb dX10_putBox_132 (by decide) ?_
                refine mc_callvX hG (mc_runV (As := [.int v8, .int 5, .int x6]) (rest := []) E hG (c_X10_putX l G (σ, cu, qX (upA a cu t92)) h0 v8 (5 : Int32) x6 t0 (by omega) (by omega) (by decide) (by decide) (0) (99) rfl (by omega) (by omega)) t0 rfl kv_X10_put ml_X10_102 ⟨rfl, rfl, Nat.le_of_ble_eq_true rfl, Nat.le_of_ble_eq_true rfl⟩ rfl hl.1 rfl (Nat.le_of_ble_eq_true rfl) ⟨Nat.zero_le _, Nat.zero_le _⟩ dX10_putBox_136) (fun Z H locs eZ pZ hG => ?_)
                rw [pZ] at hG
                clear eZ pZ Z
                rw [show (5 : Int32).toInt = 5 from kI_5] at hG
                have hG := qX_put hcu hG
                obtain ⟨t115, et115⟩ : ∃ Z : Nat → Int32, Z = upN t92 (ix v8.toInt 5) x6 := ⟨_, rfl⟩
                rw [← et115] at hG
                have hB : BZ ta t115 v8.toInt (1) (x1.toInt) (x3.toInt) (x4.toInt) (x5.toInt) (x6.toInt) (0) (0) (0) (0) (0) := by
                  have q := BZ_p (k := 5) hB (by omega) (by decide) (by decide) et115
                  exact q
                refine lv_aload_n hx hb dX10_putBox_139 rfl (lv_at hl 1 rfl) ?_
                refine lv_iload hx hb dX10_putBox_140 (lv_at hl 9 rfl) ?_
                refine lv_bipush (v := 6) hx hb dX10_putBox_142 (by decide) ?_
                refine lv_iload hx hb dX10_putBox_144 (lv_at hl 8 rfl) ?_
                refine mc_callvX hG (mc_runV (As := [.int v8, .int 6, .int x7]) (rest := []) E hG (c_X10_putX l G (σ, cu, qX (upA a cu t115)) h0 v8 (6 : Int32) x7 t0 (by omega) (by omega) (by decide) (by decide) (0) (9) rfl (by omega) (by omega)) t0 rfl kv_X10_put ml_X10_102 ⟨rfl, rfl, Nat.le_of_ble_eq_true rfl, Nat.le_of_ble_eq_true rfl⟩ rfl hl.1 rfl (Nat.le_of_ble_eq_true rfl) ⟨Nat.zero_le _, Nat.zero_le _⟩ dX10_putBox_146) (fun Z H locs eZ pZ hG => ?_)
                rw [pZ] at hG
                clear eZ pZ Z
                rw [show (6 : Int32).toInt = 6 from kI_6] at hG
                have hG := qX_put hcu hG
                obtain ⟨t116, et116⟩ : ∃ Z : Nat → Int32, Z = upN t115 (ix v8.toInt 6) x7 := ⟨_, rfl⟩
                rw [← et116] at hG
                have hB : BZ ta t116 v8.toInt (1) (x1.toInt) (x3.toInt) (x4.toInt) (x5.toInt) (x6.toInt) (x7.toInt) (0) (0) (0) (0) := by
                  have q := BZ_p (k := 6) hB (by omega) (by decide) (by decide) et116
                  exact q
                refine lv_aload_n hx hb dX10_putBox_149 rfl (lv_at hl 1 rfl) ?_
                refine lv_iload hx hb dX10_putBox_150 (lv_at hl 9 rfl) ?_
                refine lv_bipush (v := 8) hx hb dX10_putBox_152 (by decide) ?_
                refine lv_bipush (v := 99) hx hb dX10_putBox_154 (by decide) ?_
                have k117 := kI_99
                refine mc_callvX hG (mc_runV (As := [.int v8, .int 8, .int 99]) (rest := []) E hG (c_X10_putX l G (σ, cu, qX (upA a cu t116)) h0 v8 (8 : Int32) (99 : Int32) t0 (by omega) (by omega) (by decide) (by decide) (0) (99) rfl (by omega) (by omega)) t0 rfl kv_X10_put ml_X10_102 ⟨rfl, rfl, Nat.le_of_ble_eq_true rfl, Nat.le_of_ble_eq_true rfl⟩ rfl hl.1 rfl (Nat.le_of_ble_eq_true rfl) ⟨Nat.zero_le _, Nat.zero_le _⟩ dX10_putBox_156) (fun Z H locs eZ pZ hG => ?_)
                rw [pZ] at hG
                clear eZ pZ Z
                rw [show (8 : Int32).toInt = 8 from kI_8] at hG
                have hG := qX_put hcu hG
                obtain ⟨t118, et118⟩ : ∃ Z : Nat → Int32, Z = upN t116 (ix v8.toInt 8) (99 : Int32) := ⟨_, rfl⟩
                rw [← et118] at hG
                have hB : BZ ta t118 v8.toInt (1) (x1.toInt) (x3.toInt) (x4.toInt) (x5.toInt) (x6.toInt) (x7.toInt) (0) (99) (0) (0) := by
                  have q := BZ_p (k := 8) hB (by omega) (by decide) (by decide) et118
                  rw [kI_99] at q
                  exact q
                refine lv_aload_n hx hb dX10_putBox_159 rfl (lv_at hl 1 rfl) ?_
                refine lv_iload hx hb dX10_putBox_160 (lv_at hl 9 rfl) ?_
                refine lv_bipush (v := 9) hx hb dX10_putBox_162 (by decide) ?_
                refine lv_iload_n hx hb dX10_putBox_164 rfl (lv_at hl 3 rfl) ?_
                refine mc_callvX hG (mc_runV (As := [.int v8, .int 9, .int x2]) (rest := []) E hG (c_X10_putX l G (σ, cu, qX (upA a cu t118)) h0 v8 (9 : Int32) x2 t0 (by omega) (by omega) (by decide) (by decide) (-1) (23) rfl (by omega) (by omega)) t0 rfl kv_X10_put ml_X10_102 ⟨rfl, rfl, Nat.le_of_ble_eq_true rfl, Nat.le_of_ble_eq_true rfl⟩ rfl hl.1 rfl (Nat.le_of_ble_eq_true rfl) ⟨Nat.zero_le _, Nat.zero_le _⟩ dX10_putBox_165) (fun Z H locs eZ pZ hG => ?_)
                rw [pZ] at hG
                clear eZ pZ Z
                rw [show (9 : Int32).toInt = 9 from kI_9] at hG
                have hG := qX_put hcu hG
                obtain ⟨t119, et119⟩ : ∃ Z : Nat → Int32, Z = upN t118 (ix v8.toInt 9) x2 := ⟨_, rfl⟩
                rw [← et119] at hG
                have hB : BZ ta t119 v8.toInt (1) (x1.toInt) (x3.toInt) (x4.toInt) (x5.toInt) (x6.toInt) (x7.toInt) (0) (99) (x2.toInt) (0) := by
                  have q := BZ_p (k := 9) hB (by omega) (by decide) (by decide) et119
                  exact q
                refine lv_aload_n hx hb dX10_putBox_168 rfl (lv_at hl 1 rfl) ?_
                refine lv_iload hx hb dX10_putBox_169 (lv_at hl 9 rfl) ?_
                refine lv_bipush (v := 19) hx hb dX10_putBox_171 (by decide) ?_
                refine lv_iconst (v := 1) hx hb dX10_putBox_173 (by decide) ?_
                have k120 := kI_1
                refine mc_callv hG (mc_runV (As := [.int v8, .int 19, .int 1]) (rest := []) E hG (c_X10_put l G (σ, cu, qX (upA a cu t119)) h0 v8 (19 : Int32) (1 : Int32) t0 (by omega) (by omega) (by decide) (by decide) (0) (1) rfl (by omega) (by omega) ((qX_AV hcu).2.2 _ _ (by omega) (by omega) (by decide) (by decide))) t0 rfl kv_X10_put ml_X10_102 ⟨rfl, rfl, Nat.le_of_ble_eq_true rfl, Nat.le_of_ble_eq_true rfl⟩ rfl hl.1 rfl (Nat.le_of_ble_eq_true rfl) ⟨Nat.zero_le _, Nat.zero_le _⟩ dX10_putBox_174) (fun H locs hG => ?_)
                refine lv_iload_n hx hb dX10_putBox_177 rfl (lv_at hl 3 rfl) ?_
                refine lv_if_ge (tgt := 198) hx hb dX10_putBox_178 (by decide) (fun c121 => ?_) (fun c121 => ?_)
                · skip
                  have ic121 := tn_le kI_0 rfl c121
                  refine lv_aload_n hx hb dX10_putBox_198 rfl (lv_at hl 1 rfl) ?_
                  refine lv_iload_n hx hb dX10_putBox_199 rfl (lv_at hl 3 rfl) ?_
                  refine lv_bipush (v := 11) hx hb dX10_putBox_200 (by decide) ?_
                  refine lv_aload_n hx hb dX10_putBox_202 rfl (lv_at hl 1 rfl) ?_
                  refine lv_iload_n hx hb dX10_putBox_203 rfl (lv_at hl 3 rfl) ?_
                  refine tc_callp (mc_runV (As := [.int x2]) (rest := [.int 11, .int x2, .ref h0]) E hG (c_X10_manyOf l G (σ, cu, qX (upA a cu t119)) h0 x2 t0 (by omega) (by omega)) t0 rfl kv_X10_manyOf ml_X10_117 ⟨rfl, rfl, Nat.le_of_ble_eq_true rfl, Nat.le_of_ble_eq_true rfl⟩ rfl hl.1 rfl (Nat.le_of_ble_eq_true rfl) ⟨Nat.zero_le _, Nat.zero_le _⟩ dX10_putBox_204) (fun r122 pr122 => ?_)
                  replace pr122 : mV (σ, cu, qX (upA a cu t119)) (ix x2.toInt 10) r122 := pr122
                  have br122 := mV_10 pr122 (by omega)
                  have cr122 := mT pr122 (qX_TI hcu upA_at) (by omega) (by omega) (by decide) (by decide)
                  have hm1 : r122.toInt = K ta x2.toInt 10 := by rw [cr122]; show (t119 (ix _ 10)).toInt = _; rw [hB.2.2.1 _ 10 (by omega) (by omega) (by decide) (by decide)]
                  refine lv_iadd hx hb dX10_putBox_207 ?_
                  refine lv_topi (fun z123 ez123 => ?_)
                  have tz123 := tn_add ez123 kI_11 rfl (by omega) (by omega)
                  refine lv_iload hx hb dX10_putBox_208 (lv_at hl 9 rfl) ?_
                  have k124 : fR z123.toInt.toNat = (0, 23) := by rcases (show z123.toInt = 11 ∨ z123.toInt = 12 ∨ z123.toInt = 13 ∨ z123.toInt = 14 ∨ z123.toInt = 15 ∨ z123.toInt = 16 ∨ z123.toInt = 17 ∨ z123.toInt = 18 by omega) with h9 | h9 | h9 | h9 | h9 | h9 | h9 | h9 <;> rw [h9] <;> rfl
                  refine mc_callvX hG (mc_runV (As := [.int x2, .int z123, .int v8]) (rest := []) E hG (c_X10_putX l G (σ, cu, qX (upA a cu t119)) h0 x2 z123 v8 t0 (by omega) (by omega) (by omega) (by omega) _ _ k124 (by omega) (by omega)) t0 rfl kv_X10_put ml_X10_102 ⟨rfl, rfl, Nat.le_of_ble_eq_true rfl, Nat.le_of_ble_eq_true rfl⟩ rfl hl.1 rfl (Nat.le_of_ble_eq_true rfl) ⟨Nat.zero_le _, Nat.zero_le _⟩ dX10_putBox_210) (fun Z H locs eZ pZ hG => ?_)
                  rw [pZ] at hG
                  clear eZ pZ Z
                  have hG := qX_put hcu hG
                  obtain ⟨t125, et125⟩ : ∃ Z : Nat → Int32, Z = upN t119 (ix x2.toInt z123.toInt) v8 := ⟨_, rfl⟩
                  rw [← et125] at hG
                  refine lv_aload_n hx hb dX10_putBox_213 rfl (lv_at hl 1 rfl) ?_
                  refine lv_iload_n hx hb dX10_putBox_214 rfl (lv_at hl 3 rfl) ?_
                  refine lv_bipush (v := 10) hx hb dX10_putBox_215 (by decide) ?_
                  refine lv_aload_n hx hb dX10_putBox_217 rfl (lv_at hl 1 rfl) ?_
                  refine lv_iload_n hx hb dX10_putBox_218 rfl (lv_at hl 3 rfl) ?_
                  refine tc_callp (mc_runV (As := [.int x2]) (rest := [.int 10, .int x2, .ref h0]) E hG (c_X10_manyOf l G (σ, cu, qX (upA a cu t125)) h0 x2 t0 (by omega) (by omega)) t0 rfl kv_X10_manyOf ml_X10_117 ⟨rfl, rfl, Nat.le_of_ble_eq_true rfl, Nat.le_of_ble_eq_true rfl⟩ rfl hl.1 rfl (Nat.le_of_ble_eq_true rfl) ⟨Nat.zero_le _, Nat.zero_le _⟩ dX10_putBox_219) (fun r126 pr126 => ?_)
                  replace pr126 : mV (σ, cu, qX (upA a cu t125)) (ix x2.toInt 10) r126 := pr126
                  have br126 := mV_10 pr126 (by omega)
                  have cr126 := mT pr126 (qX_TI hcu upA_at) (by omega) (by omega) (by decide) (by decide)
                  have hm2 : r126.toInt = K ta x2.toInt 10 := by rw [cr126]; show (t125 (ix _ 10)).toInt = _; rw [et125, upN_ne (fun q => by have := (ix_inj (by omega) (by decide) (by decide) (by omega) (by omega) (by omega) q).2; omega), hB.2.2.1 _ 10 (by omega) (by omega) (by decide) (by decide)]
                  refine lv_iconst (v := 1) hx hb dX10_putBox_222 (by decide) ?_
                  refine lv_iadd hx hb dX10_putBox_223 ?_
                  refine lv_topi (fun z127 ez127 => ?_)
                  have tz127 := tn_add ez127 rfl kI_1 (by omega) (by omega)
                  refine mc_callvX hG (mc_runV (As := [.int x2, .int 10, .int z127]) (rest := []) E hG (c_X10_putX l G (σ, cu, qX (upA a cu t125)) h0 x2 (10 : Int32) z127 t0 (by omega) (by omega) (by decide) (by decide) (0) (8) rfl (by omega) (by omega)) t0 rfl kv_X10_put ml_X10_102 ⟨rfl, rfl, Nat.le_of_ble_eq_true rfl, Nat.le_of_ble_eq_true rfl⟩ rfl hl.1 rfl (Nat.le_of_ble_eq_true rfl) ⟨Nat.zero_le _, Nat.zero_le _⟩ dX10_putBox_224) (fun Z H locs eZ pZ hG => ?_)
                  rw [pZ] at hG
                  clear eZ pZ Z
                  rw [show (10 : Int32).toInt = 10 from kI_10] at hG
                  have hG := qX_put hcu hG
                  obtain ⟨t128, et128⟩ : ∃ Z : Nat → Int32, Z = upN t125 (ix x2.toInt 10) z127 := ⟨_, rfl⟩
                  rw [← et128] at hG
                  have hPB := PB_par hIa hn8 (by omega) hB.bx (fun q => ⟨by omega, by omega⟩) (by omega) (by omega) (by omega) et125 (by omega) rfl et128 (by omega)
                  have hm0 := hIa.2.2.2.2.2.2.2.2 x2.toInt (by omega) (by omega)
                  have hPX := PZ_par hn8 hB (by omega) (by omega) (by omega) hm0.1 et125 (by omega) rfl et128 (by omega)
                  have hI := hPB.1
                  have h3p := hPB.2.1
                  refine lv_aload_n hx hb dX10_putBox_227 rfl (lv_at hl 1 rfl) ?_
                  refine lv_iload_n hx hb dX10_putBox_228 rfl (lv_at hl 3 rfl) ?_
                  refine mc_callvX hG (mc_runV (As := [.int x2]) (rest := []) E hG (c_X10_marks l G σ cu a t128 h0 x2 t0 (by omega) (by omega) hI (by first | omega | (have k1 := kI_m1; have hI1 := hI.1; omega))) t0 rfl kv_X10_marks ml_X10_113 ⟨rfl, rfl, Nat.le_of_ble_eq_true rfl, Nat.le_of_ble_eq_true rfl⟩ rfl hl.1 rfl (Nat.le_of_ble_eq_true rfl) ⟨Nat.zero_le _, Nat.zero_le _⟩ dX10_putBox_229) (fun Z H locs eZ pZ hG => ?_)
                  obtain ⟨t130, rfl, pt130, hI⟩ := pZ
                  clear eZ
                  have h3n : (t130 3).toInt = (t128 3).toInt := by rw [pt130.2.1]
                  have h0n : (t130 0).toInt = (t128 0).toInt := by rw [pt130.1]
                  refine lv_iload hx hb dX10_putBox_232 (lv_at hl 9 rfl) ?_
                  exact mc_iretX E hr hlk hG rfl rfl ⟨_, rfl, ⟨_, _, _, _, (by unfold MK; omega : MK x1.toInt x3.toInt x4.toInt x5.toInt x6.toInt (x3.toInt) (x4.toInt) (x5.toInt) (x6.toInt)), PX_AG hPX pt130 (by omega) (by omega), by omega⟩, hI⟩ dX10_putBox_234
                · skip
                  have ic121 := tn_nle kI_0 rfl c121
                  refine lv_aload_n hx hb dX10_putBox_181 rfl (lv_at hl 1 rfl) ?_
                  refine mc_getn E hG t0 ff_X10_9 dX10_putBox_182 (fun oa131 hoa131 => ?_)
                  refine lv_iconst (v := 0) hx hb dX10_putBox_185 (by decide) ?_
                  refine lv_iload hx hb dX10_putBox_186 (lv_at hl 9 rfl) ?_
                  refine mc_nastX E hG hoa131 hG.2.2.1 (t_in (by decide) (by decide)) (lo := -1) (hi := 23) rfl (by omega) (by omega) dX10_putBox_188 (fun H locs hG => ?_)
                  have hG := qX_set (k := 0) hcu rfl hG
                  obtain ⟨t132, et132⟩ : ∃ Z : Nat → Int32, Z = upN t119 0 v8 := ⟨_, rfl⟩
                  rw [← et132] at hG
                  have hPB := PB_top hIa hn8 (by omega) hB.bx (fun q => ⟨by omega, by omega⟩) (by omega) (by omega) et132 rfl
                  have hPX := PZ_top hn8 (by omega) hB (by omega) et132 rfl
                  have hI := hPB.1
                  have h3p := hPB.2.1
                  refine lv_aload_n hx hb dX10_putBox_189 rfl (lv_at hl 1 rfl) ?_
                  refine lv_iload hx hb dX10_putBox_190 (lv_at hl 9 rfl) ?_
                  refine mc_callvX hG (mc_runV (As := [.int v8]) (rest := []) E hG (c_X10_marks l G σ cu a t132 h0 v8 t0 (by omega) (by omega) hI (by first | omega | (have k1 := kI_m1; have hI1 := hI.1; omega))) t0 rfl kv_X10_marks ml_X10_113 ⟨rfl, rfl, Nat.le_of_ble_eq_true rfl, Nat.le_of_ble_eq_true rfl⟩ rfl hl.1 rfl (Nat.le_of_ble_eq_true rfl) ⟨Nat.zero_le _, Nat.zero_le _⟩ dX10_putBox_192) (fun Z H locs eZ pZ hG => ?_)
                  obtain ⟨t134, rfl, pt134, hI⟩ := pZ
                  clear eZ
                  have h3n : (t134 3).toInt = (t132 3).toInt := by rw [pt134.2.1]
                  have h0n : (t134 0).toInt = (t132 0).toInt := by rw [pt134.1]
                  refine lv_goto (tgt := 232) hx hb dX10_putBox_195 (by decide) ?_
                  refine lv_iload hx hb dX10_putBox_232 (lv_at hl 9 rfl) ?_
                  exact mc_iretX E hr hlk hG rfl rfl ⟨_, rfl, ⟨_, _, _, _, (by unfold MK; omega : MK x1.toInt x3.toInt x4.toInt x5.toInt x6.toInt (x3.toInt) (x4.toInt) (x5.toInt) (x6.toInt)), PX_AG hPX pt134 (by omega) (by omega), by omega⟩, hI⟩ dX10_putBox_234
      · skip
        have ic1 := tn_nle kI_38 rfl c1
        refine lv_aload_n hx hb dX10_putBox_28 rfl (lv_at hl 0 rfl) ?_
        refine lv_iload hx hb dX10_putBox_29 (lv_at hl 8 rfl) ?_
        refine lv_iload hx hb dX10_putBox_31 (lv_at hl 9 rfl) ?_
        refine lv_iconst (v := 0) hx hb dX10_putBox_33 (by decide) ?_
        have k135 : (fR v9.toInt.toNat).1 ≤ (0 : Int32).toInt ∧ (0 : Int32).toInt ≤ (fR v9.toInt.toNat).2 := by rw [kI_0]; exact fR_0 (by omega)
        refine mc_callvX hG (mc_runV (As := [.int v8, .int v9, .int 0]) (rest := []) E hG (c_X10_putX l G (σ, cu, qX (upA a cu t)) h0 v8 v9 (0 : Int32) t0 (by omega) (by omega) (by omega) (by omega) _ _ rfl k135.1 k135.2) t0 rfl kv_X10_put ml_X10_102 ⟨rfl, rfl, Nat.le_of_ble_eq_true rfl, Nat.le_of_ble_eq_true rfl⟩ rfl hl.1 rfl (Nat.le_of_ble_eq_true rfl) ⟨Nat.zero_le _, Nat.zero_le _⟩ dX10_putBox_34) (fun Z H locs eZ pZ hG => ?_)
        rw [pZ] at hG
        clear eZ pZ Z
        have hG := qX_put hcu hG
        obtain ⟨t136, et136⟩ : ∃ Z : Nat → Int32, Z = upN t (ix v8.toInt v9.toInt) (0 : Int32) := ⟨_, rfl⟩
        rw [← et136] at hG
        obtain ⟨z137, ez137⟩ : ∃ y : Int32, y = v9 + (1) := ⟨_, rfl⟩
        refine lv_iinc (v := z137) (lv' := [(9, .int z137), (0, .ref h0), (1, .int x1), (2, .int x2), (3, .int x3), (4, .int x4), (5, .int x5), (6, .int x6), (7, .int x7), (8, .int v8)]) hx hb dX10_putBox_37 hl (k := 9) rfl (by rw [ez137]; rfl) (by decide) rfl (fun ls hl => ?_)
        have tz137 := tn_add ez137 rfl kI_1 (by omega) (by omega)
        refine lv_goto (tgt := 21) hx hb dX10_putBox_40 (by decide) ?_
        have hQ := ZI_s (z := z137) hex21.1 (by omega) (by omega) (by omega) (by omega) et136 kI_0
        exact ih21 t136 H locs ls v8 z137 hG (lv_sub hl [1, 2, 3, 4, 5, 6, 7, 8, 9, 0] rfl) (by omega) (by omega) (by omega) (by omega) (by exact ⟨hQ, by omega⟩) (by omega)
  refine lv_aload_n hx hb dX10_putBox_0 rfl (lv_at hl 0 rfl) ?_
  refine mc_getn E hG t0 ff_X10_9 dX10_putBox_1 (fun oa138 hoa138 => ?_)
  refine lv_iconst (v := 3) hx hb dX10_putBox_4 (by decide) ?_
  refine mc_nald E hG hoa138 hG.2.2.1 (t_in (by decide) (by decide)) dX10_putBox_5 (fun z139 lz139 uz139 qz139 => ?_)
  have lz139 : 0 ≤ z139.toInt := lz139
  have uz139 : z139.toInt ≤ 24 := uz139
  have wz139 : z139 = ta 3 := qz139 _ (qX_at hcu upA_at rfl)
  have cz139 : z139.toInt = (ta 3).toInt := by rw [wz139]
  refine lv_istore (lv' := [(8, .int z139), (0, .ref h0), (1, .int x1), (2, .int x2), (3, .int x3), (4, .int x4), (5, .int x5), (6, .int x6), (7, .int x7)]) hx hb dX10_putBox_6 hl (by decide) rfl (fun ls hl => ?_)
  refine lv_aload_n hx hb dX10_putBox_8 rfl (lv_at hl 1 rfl) ?_
  refine mc_getn E hG t0 ff_X10_9 dX10_putBox_9 (fun oa140 hoa140 => ?_)
  refine lv_iconst (v := 3) hx hb dX10_putBox_12 (by decide) ?_
  refine lv_dup2_11 hx hb dX10_putBox_13 rfl rfl ?_
  refine mc_nald E hG hoa140 hG.2.2.1 (t_in (by decide) (by decide)) dX10_putBox_14 (fun z141 lz141 uz141 qz141 => ?_)
  have lz141 : 0 ≤ z141.toInt := lz141
  have uz141 : z141.toInt ≤ 24 := uz141
  have wz141 : z141 = ta 3 := qz141 _ (qX_at hcu upA_at rfl)
  have cz141 : z141.toInt = (ta 3).toInt := by rw [wz141]
  refine lv_iconst (v := 1) hx hb dX10_putBox_15 (by decide) ?_
  refine lv_iadd hx hb dX10_putBox_16 ?_
  refine lv_topi (fun z142 ez142 => ?_)
  have tz142 := tn_add ez142 rfl kI_1 (by omega) (by omega)
  refine mc_nastX E hG hoa140 hG.2.2.1 (t_in (by decide) (by decide)) (lo := 0) (hi := 24) rfl (by omega) (by omega) dX10_putBox_17 (fun H locs hG => ?_)
  have hG := qX_set (k := 3) hcu rfl hG
  obtain ⟨t143, et143⟩ : ∃ Z : Nat → Int32, Z = upN ta 3 z142 := ⟨_, rfl⟩
  rw [← et143] at hG
  refine lv_iconst (v := 0) hx hb dX10_putBox_18 (by decide) ?_
  refine lv_istore (lv' := [(9, .int 0), (8, .int z139), (0, .ref h0), (1, .int x1), (2, .int x2), (3, .int x3), (4, .int x4), (5, .int x5), (6, .int x6), (7, .int x7)]) hx hb dX10_putBox_19 hl (by decide) rfl (fun ls hl => ?_)
  have hQ := ZI_0 (n := z139.toInt) et143 (by omega)
  exact J21 ((38 - (0 : Int32).toInt).toNat + 1) t143 H locs ls z139 (0 : Int32) hG (lv_sub hl [2, 3, 4, 5, 6, 7, 8, 9, 1, 0] rfl) (by omega) (by omega) (by decide) (by decide) (by exact ⟨hQ, by omega⟩) (Nat.lt_succ_self _)

theorem okG_b {k a b c d : Int} (h : okG k a b c d) (hk : 0 ≤ k ∧ k ≤ 9) : (k = 4 ∨ k = 5 ∨ (0 ≤ a ∧ a ≤ 99 ∧ (k = 6 → 1 ≤ a))) ∧ (k = 4 ∨ k = 5 ∨ k = 7 ∨ (0 ≤ b ∧ b ≤ 99 ∧ (k = 6 → 1 ≤ b))) ∧ (¬ k = 3 ∨ (0 ≤ c ∧ c ≤ 99 ∧ 0 ≤ d ∧ d ≤ 99)) := by
  obtain ⟨h1, h2, h3, -⟩ := h
  rw [MBe_iff] at h1 h2
  rw [MBe_iff, MBe_iff] at h3
  rcases k10 hk with e | e | e | e | e | e | e | e | e | e <;> subst e <;> simp [nNum, Lk, Hk] at h1 h2 h3 ⊢ <;> omega
/-- there is such a parent -/
def PAl (t : Nat → Int32) (p : Int) : Prop := p = -1 ∨ (0 ≤ p ∧ p ≤ 23 ∧ K t p 0 = 1)
def CMp (ta t : Nat → Int32) (kd p a b c d : Int) (r : Int32) : Prop := (r = -1 ∧ t = ta ∧ ¬ PAl ta p) ∨ (r = -2 ∧ t = ta ∧ PAl ta p ∧ ¬ (0 ≤ kd ∧ kd ≤ 9 ∧ okG kd a b c d)) ∨ (r = -3 ∧ t = ta ∧ PAl ta p ∧ (0 ≤ kd ∧ kd ≤ 9 ∧ okG kd a b c d) ∧ ¬ RMe ta p) ∨ (r = -4 ∧ t = ta ∧ PAl ta p ∧ (0 ≤ kd ∧ kd ≤ 9 ∧ okG kd a b c d) ∧ RMe ta p ∧ (ta 3).toInt = 24) ∨ (PAl ta p ∧ (0 ≤ kd ∧ kd ≤ 9 ∧ okG kd a b c d) ∧ RMe ta p ∧ (ta 3).toInt ≤ 23 ∧ r.toInt = (ta 3).toInt ∧ ∃ v0 v1 v2 v3 : Int, MK kd a b c d v0 v1 v2 v3 ∧ PX ta t kd p v0 v1 v2 v3 0)
set_option maxHeartbeats 4000000 in
set_option maxRecDepth 100000 in
theorem x_X10_comes (l : Launch) (G : tG) (σ : Nat → Nat) (cu : Nat) (a : Nat → Option (Nat → Int32)) (ta : Nat → Int32) (h0 : Nat) (x1 : Int32) (x2 : Int32) (x3 : Int32) (x4 : Int32) (x5 : Int32) (x6 : Int32) (t0 : σ h0 = 1) (hIa : TInv ta) : Met l yX10_comes (.code yX10_comes cX10_comes 7 (some .int) :: tWS) (tRm 4 95) (va_Pc [.ref h0, .int x1, .int x2, .int x3, .int x4, .int x5, .int x6] (mPre G (σ, cu, qX (upA a cu ta)))) (mQiX G (σ, cu, qX (upA a cu ta)) (fun r Z => ∃ t : Nat → Int32, Z = (σ, cu, qX (upA a cu t)) ∧ CMp ta t x1.toInt x2.toInt x3.toInt x4.toInt x5.toInt x6.toInt r ∧ TInv t)) 0 0 (mA (σ, cu, qX (upA a cu ta))) := by
  refine mc_met (by decide) (Nat.le_of_ble_eq_true rfl) ?_
  intro p e s m below meth c E hr hlk hG ls hl
  have hl : lv_has ls 7 [(0, .ref h0), (1, .int x1), (2, .int x2), (3, .int x3), (4, .int x4), (5, .int x5), (6, .int x6)] := hl
  have hx := E.1
  have hb := E.2.1
  obtain ⟨H, eH⟩ : ∃ H, H = s.heap := ⟨_, rfl⟩
  obtain ⟨locs, eL⟩ : ∃ x : List Loc, x = [] := ⟨_, rfl⟩
  have hG : mGH G (σ, cu, qX (upA a cu ta)) s H locs := by rw [eH, eL]; exact hG
  suffices hW : W p l e (tRm 4 95) s m ([.ref h0, .int x1, .int x2, .int x3, .int x4, .int x5, .int x6] : List Value).toArray below meth c H locs 0 0 (MQ below (mQiX G (σ, cu, qX (upA a cu ta)) (fun r Z => ∃ t : Nat → Int32, Z = (σ, cu, qX (upA a cu t)) ∧ CMp ta t x1.toInt x2.toInt x3.toInt x4.toInt x5.toInt x6.toInt r ∧ TInv t)) ([.ref h0, .int x1, .int x2, .int x3, .int x4, .int x5, .int x6] : List Value).toArray s 0 0 (mA (σ, cu, qX (upA a cu ta)))) (F0 m 0 ls []) by subst eH; subst eL; exact hW
  clear eH eL
  have hcu : mCu cu := hG.2.2.1
  have hI := hIa
  refine lv_iload_n hx hb dX10_comes_0 rfl (lv_at hl 2 rfl) ?_
  refine lv_iconst (v := -1) hx hb dX10_comes_1 (by decide) ?_
  refine lv_icmp_eq (tgt := 15) hx hb dX10_comes_2 (by decide) (fun c1 => ?_) (fun c1 => ?_)
  · skip
    have ic1 := tn_eq rfl kI_m1 c1
    have hP : PAl ta x2.toInt := by unfold PAl; omega
    refine lv_iload_n hx hb dX10_comes_15 rfl (lv_at hl 1 rfl) ?_
    refine lv_i2l hx hb dX10_comes_16 rfl ?_
    refine lv_topl (fun z2 ez2 => ?_)
    have tz2 := tl_i2l ez2
    refine lv_lconst (v := 0) hx hb dX10_comes_17 (by decide) ?_
    refine lv_topl (fun z3 ez3 => ?_)
    have tz3 : z3.toInt = 0 := by rw [ez3]; decide
    refine lv_ldc2 (v := 9) hx hb E.2.2.2.1 (E.2.2.2.2.1 _ (t_w6 174 rfl rfl)) dX10_comes_18 ?_
    refine lv_topl (fun z4 ez4 => ?_)
    have tz4 : z4.toInt = 9 := by rw [ez4]; decide
    refine tc_callp (mc_runS (As := [.long z2, .long z3, .long z4]) (rest := []) E hG (c_X10_in l G (σ, cu, qX (upA a cu ta)) z2 z3 z4) ks_X10_in ml_X10_87 ⟨rfl, rfl, Nat.le_of_ble_eq_true rfl, Nat.le_of_ble_eq_true rfl⟩ rfl hl.1 rfl (Nat.le_of_ble_eq_true rfl) ⟨Nat.zero_le _, Nat.zero_le _⟩ dX10_comes_21) (fun r5 pr5 => ?_)
    replace pr5 : ((r5.toInt = 1 ∧ z3.toInt ≤ z2.toInt ∧ z2.toInt ≤ z4.toInt) ∨ (r5.toInt = 0 ∧ (z2.toInt < z3.toInt ∨ z4.toInt < z2.toInt))) := pr5
    refine lv_if_eq (tgt := 41) hx hb dX10_comes_24 (by decide) (fun c6 => ?_) (fun c6 => ?_)
    · skip
      have ic6 := tn_eq rfl kI_0 c6
      have hO : ¬ (0 ≤ x1.toInt ∧ x1.toInt ≤ 9 ∧ okG x1.toInt x3.toInt x4.toInt x5.toInt x6.toInt) := fun q => by omega
      refine lv_bipush (v := -2) hx hb dX10_comes_41 (by decide) ?_
      exact mc_iretX E hr hlk hG rfl rfl ⟨_, rfl, Or.inr (Or.inl ⟨rfl, rfl, hP, hO⟩), hI⟩ dX10_comes_43
    · skip
      have ic6 := tn_ne rfl kI_0 c6
      refine lv_iload_n hx hb dX10_comes_27 rfl (lv_at hl 1 rfl) ?_
      refine lv_iload_n hx hb dX10_comes_28 rfl (lv_at hl 3 rfl) ?_
      refine lv_iload hx hb dX10_comes_29 (lv_at hl 4 rfl) ?_
      refine lv_iload hx hb dX10_comes_31 (lv_at hl 5 rfl) ?_
      refine lv_iload hx hb dX10_comes_33 (lv_at hl 6 rfl) ?_
      refine tc_callp (mc_runS (As := [.int x1, .int x3, .int x4, .int x5, .int x6]) (rest := []) E hG (x_X10_areGood l G (σ, cu, qX (upA a cu ta)) x1 x3 x4 x5 x6 (by omega) (by omega)) ks_X10_areGood ml_X10_132 ⟨rfl, rfl, Nat.le_of_ble_eq_true rfl, Nat.le_of_ble_eq_true rfl⟩ rfl hl.1 rfl (Nat.le_of_ble_eq_true rfl) ⟨Nat.zero_le _, Nat.zero_le _⟩ dX10_comes_35) (fun r7 pr7 => ?_)
      replace pr7 : (r7.toInt = 1 ∧ okG x1.toInt x3.toInt x4.toInt x5.toInt x6.toInt) ∨ (r7.toInt = 0 ∧ ¬ okG x1.toInt x3.toInt x4.toInt x5.toInt x6.toInt) := pr7
      refine lv_if_ne (tgt := 44) hx hb dX10_comes_38 (by decide) (fun c8 => ?_) (fun c8 => ?_)
      · skip
        have ic8 := tn_ne rfl kI_0 c8
        have hO : 0 ≤ x1.toInt ∧ x1.toInt ≤ 9 ∧ okG x1.toInt x3.toInt x4.toInt x5.toInt x6.toInt := by
          rcases pr7 with ⟨-, w⟩ | ⟨w, -⟩
          · exact ⟨by omega, by omega, w⟩
          · exact absurd w (by omega)
        have hgb := okG_b hO.2.2 ⟨hO.1, hO.2.1⟩
        refine lv_aload_n hx hb dX10_comes_44 rfl (lv_at hl 0 rfl) ?_
        refine lv_iload_n hx hb dX10_comes_45 rfl (lv_at hl 2 rfl) ?_
        refine tc_callp (mc_runV (As := [.int x2]) (rest := []) E hG (x_X10_isRoom l G (σ, cu, qX (upA a cu ta)) h0 x2 t0 (by omega) (by omega) ta (qX_TI hcu upA_at) hI) t0 rfl kv_X10_isRoom ml_X10_136 ⟨rfl, rfl, Nat.le_of_ble_eq_true rfl, Nat.le_of_ble_eq_true rfl⟩ rfl hl.1 rfl (Nat.le_of_ble_eq_true rfl) ⟨Nat.zero_le _, Nat.zero_le _⟩ dX10_comes_46) (fun r9 pr9 => ?_)
        replace pr9 : (r9.toInt = 1 ∧ RMe ta x2.toInt) ∨ (r9.toInt = 0 ∧ ¬ RMe ta x2.toInt) := pr9
        refine lv_if_ne (tgt := 55) hx hb dX10_comes_49 (by decide) (fun c10 => ?_) (fun c10 => ?_)
        · skip
          have ic10 := tn_ne rfl kI_0 c10
          have hR : RMe ta x2.toInt := by
            rcases pr9 with ⟨-, w⟩ | ⟨w, -⟩
            · exact w
            · exact absurd w (by omega)
          have hR2 := hR
          unfold RMe at hR2
          unfold PAl at hP
          refine lv_aload_n hx hb dX10_comes_55 rfl (lv_at hl 0 rfl) ?_
          refine mc_getn E hG t0 ff_X10_9 dX10_comes_56 (fun oa11 hoa11 => ?_)
          refine lv_iconst (v := 3) hx hb dX10_comes_59 (by decide) ?_
          refine mc_nald E hG hoa11 hG.2.2.1 (t_in (by decide) (by decide)) dX10_comes_60 (fun z12 lz12 uz12 qz12 => ?_)
          have lz12 : 0 ≤ z12.toInt := lz12
          have uz12 : z12.toInt ≤ 24 := uz12
          have wz12 : z12 = ta 3 := qz12 _ (qX_at hcu upA_at rfl)
          have cz12 : z12.toInt = (ta 3).toInt := by rw [wz12]
          refine lv_bipush (v := 24) hx hb dX10_comes_61 (by decide) ?_
          refine lv_icmp_ne (tgt := 71) hx hb dX10_comes_63 (by decide) (fun c13 => ?_) (fun c13 => ?_)
          · skip
            have ic13 := tn_ne rfl kI_24 c13
            refine lv_aload_n hx hb dX10_comes_71 rfl (lv_at hl 0 rfl) ?_
            refine lv_iload_n hx hb dX10_comes_72 rfl (lv_at hl 1 rfl) ?_
            refine lv_iload_n hx hb dX10_comes_73 rfl (lv_at hl 2 rfl) ?_
            refine lv_iload_n hx hb dX10_comes_74 rfl (lv_at hl 3 rfl) ?_
            refine lv_iload hx hb dX10_comes_75 (lv_at hl 4 rfl) ?_
            refine lv_iload hx hb dX10_comes_77 (lv_at hl 5 rfl) ?_
            refine lv_iload hx hb dX10_comes_79 (lv_at hl 6 rfl) ?_
            refine lv_iconst (v := 0) hx hb dX10_comes_81 (by decide) ?_
            refine mc_calliX hG (mc_runV (As := [.int x1, .int x2, .int x3, .int x4, .int x5, .int x6, .int 0]) (rest := []) E hG (x_X10_putBox l G σ cu a ta h0 x1 x2 x3 x4 x5 x6 (0 : Int32) t0 (by omega) (by omega) (by omega) (by omega) (by decide) (by decide) hI (by omega) hgb.1 hgb.2.1 hgb.2.2 (by omega)) t0 rfl kv_X10_putBox ml_X10_139 ⟨rfl, rfl, Nat.le_of_ble_eq_true rfl, Nat.le_of_ble_eq_true rfl⟩ rfl hl.1 rfl (Nat.le_of_ble_eq_true rfl) ⟨Nat.zero_le _, Nat.zero_le _⟩ dX10_comes_82) (fun r14 Z H locs eZ pZ hG => ?_)
            obtain ⟨t15, rfl, pt15, hI⟩ := pZ
            clear eZ
            obtain ⟨v0, v1, v2, v3, hmk, hpx, hrr⟩ := pt15
            exact mc_iretX E hr hlk hG rfl rfl ⟨_, rfl, Or.inr (Or.inr (Or.inr (Or.inr ⟨hP, hO, hR, by omega, hrr, v0, v1, v2, v3, hmk, hpx⟩))), hI⟩ dX10_comes_85
          · skip
            have ic13 := tn_eq rfl kI_24 c13
            refine lv_bipush (v := -4) hx hb dX10_comes_66 (by decide) ?_
            refine lv_goto (tgt := 85) hx hb dX10_comes_68 (by decide) ?_
            exact mc_iretX E hr hlk hG rfl rfl ⟨_, rfl, Or.inr (Or.inr (Or.inr (Or.inl ⟨rfl, rfl, hP, hO, hR, by omega⟩))), hI⟩ dX10_comes_85
        · skip
          have ic10 := tn_eq rfl kI_0 c10
          have hR : ¬ RMe ta x2.toInt := by
            rcases pr9 with ⟨w, -⟩ | ⟨-, w⟩
            · exact absurd w (by omega)
            · exact w
          refine lv_bipush (v := -3) hx hb dX10_comes_52 (by decide) ?_
          exact mc_iretX E hr hlk hG rfl rfl ⟨_, rfl, Or.inr (Or.inr (Or.inl ⟨rfl, rfl, hP, hO, hR⟩)), hI⟩ dX10_comes_54
      · skip
        have ic8 := tn_eq rfl kI_0 c8
        have hO : ¬ (0 ≤ x1.toInt ∧ x1.toInt ≤ 9 ∧ okG x1.toInt x3.toInt x4.toInt x5.toInt x6.toInt) := fun q => by
          rcases pr7 with ⟨w, -⟩ | ⟨-, w⟩
          · exact absurd w (by omega)
          · exact w q.2.2
        refine lv_bipush (v := -2) hx hb dX10_comes_41 (by decide) ?_
        exact mc_iretX E hr hlk hG rfl rfl ⟨_, rfl, Or.inr (Or.inl ⟨rfl, rfl, hP, hO⟩), hI⟩ dX10_comes_43
  · skip
    have ic1 := tn_ne rfl kI_m1 c1
    refine lv_aload_n hx hb dX10_comes_5 rfl (lv_at hl 0 rfl) ?_
    refine lv_iload_n hx hb dX10_comes_6 rfl (lv_at hl 2 rfl) ?_
    refine tc_callp (mc_runV (As := [.int x2]) (rest := []) E hG (c_X10_isBox l G (σ, cu, qX (upA a cu ta)) h0 x2 t0) t0 rfl kv_X10_isBox ml_X10_127 ⟨rfl, rfl, Nat.le_of_ble_eq_true rfl, Nat.le_of_ble_eq_true rfl⟩ rfl hl.1 rfl (Nat.le_of_ble_eq_true rfl) ⟨Nat.zero_le _, Nat.zero_le _⟩ dX10_comes_7) (fun r16 pr16 => ?_)
    replace pr16 : (r16.toInt = 1 ∧ 0 ≤ x2.toInt ∧ x2.toInt ≤ 23 ∧ mV (σ, cu, qX (upA a cu ta)) (ix x2.toInt 0) 1) ∨ (r16.toInt = 0 ∧ (x2.toInt < 0 ∨ 23 < x2.toInt ∨ ∃ v : Int32, ¬ v.toInt = 1 ∧ mV (σ, cu, qX (upA a cu ta)) (ix x2.toInt 0) v)) := pr16
    have cr16 := mB pr16 (qX_TI hcu upA_at) hI
    clear pr16
    refine lv_if_ne (tgt := 15) hx hb dX10_comes_10 (by decide) (fun c17 => ?_) (fun c17 => ?_)
    · skip
      have ic17 := tn_ne rfl kI_0 c17
      have hP : PAl ta x2.toInt := by unfold PAl; omega
      refine lv_iload_n hx hb dX10_comes_15 rfl (lv_at hl 1 rfl) ?_
      refine lv_i2l hx hb dX10_comes_16 rfl ?_
      refine lv_topl (fun z18 ez18 => ?_)
      have tz18 := tl_i2l ez18
      refine lv_lconst (v := 0) hx hb dX10_comes_17 (by decide) ?_
      refine lv_topl (fun z19 ez19 => ?_)
      have tz19 : z19.toInt = 0 := by rw [ez19]; decide
      refine lv_ldc2 (v := 9) hx hb E.2.2.2.1 (E.2.2.2.2.1 _ (t_w6 174 rfl rfl)) dX10_comes_18 ?_
      refine lv_topl (fun z20 ez20 => ?_)
      have tz20 : z20.toInt = 9 := by rw [ez20]; decide
      refine tc_callp (mc_runS (As := [.long z18, .long z19, .long z20]) (rest := []) E hG (c_X10_in l G (σ, cu, qX (upA a cu ta)) z18 z19 z20) ks_X10_in ml_X10_87 ⟨rfl, rfl, Nat.le_of_ble_eq_true rfl, Nat.le_of_ble_eq_true rfl⟩ rfl hl.1 rfl (Nat.le_of_ble_eq_true rfl) ⟨Nat.zero_le _, Nat.zero_le _⟩ dX10_comes_21) (fun r21 pr21 => ?_)
      replace pr21 : ((r21.toInt = 1 ∧ z19.toInt ≤ z18.toInt ∧ z18.toInt ≤ z20.toInt) ∨ (r21.toInt = 0 ∧ (z18.toInt < z19.toInt ∨ z20.toInt < z18.toInt))) := pr21
      refine lv_if_eq (tgt := 41) hx hb dX10_comes_24 (by decide) (fun c22 => ?_) (fun c22 => ?_)
      · skip
        have ic22 := tn_eq rfl kI_0 c22
        have hO : ¬ (0 ≤ x1.toInt ∧ x1.toInt ≤ 9 ∧ okG x1.toInt x3.toInt x4.toInt x5.toInt x6.toInt) := fun q => by omega
        refine lv_bipush (v := -2) hx hb dX10_comes_41 (by decide) ?_
        exact mc_iretX E hr hlk hG rfl rfl ⟨_, rfl, Or.inr (Or.inl ⟨rfl, rfl, hP, hO⟩), hI⟩ dX10_comes_43
      · skip
        have ic22 := tn_ne rfl kI_0 c22
        refine lv_iload_n hx hb dX10_comes_27 rfl (lv_at hl 1 rfl) ?_
        refine lv_iload_n hx hb dX10_comes_28 rfl (lv_at hl 3 rfl) ?_
        refine lv_iload hx hb dX10_comes_29 (lv_at hl 4 rfl) ?_
        refine lv_iload hx hb dX10_comes_31 (lv_at hl 5 rfl) ?_
        refine lv_iload hx hb dX10_comes_33 (lv_at hl 6 rfl) ?_
        refine tc_callp (mc_runS (As := [.int x1, .int x3, .int x4, .int x5, .int x6]) (rest := []) E hG (x_X10_areGood l G (σ, cu, qX (upA a cu ta)) x1 x3 x4 x5 x6 (by omega) (by omega)) ks_X10_areGood ml_X10_132 ⟨rfl, rfl, Nat.le_of_ble_eq_true rfl, Nat.le_of_ble_eq_true rfl⟩ rfl hl.1 rfl (Nat.le_of_ble_eq_true rfl) ⟨Nat.zero_le _, Nat.zero_le _⟩ dX10_comes_35) (fun r23 pr23 => ?_)
        replace pr23 : (r23.toInt = 1 ∧ okG x1.toInt x3.toInt x4.toInt x5.toInt x6.toInt) ∨ (r23.toInt = 0 ∧ ¬ okG x1.toInt x3.toInt x4.toInt x5.toInt x6.toInt) := pr23
        refine lv_if_ne (tgt := 44) hx hb dX10_comes_38 (by decide) (fun c24 => ?_) (fun c24 => ?_)
        · skip
          have ic24 := tn_ne rfl kI_0 c24
          have hO : 0 ≤ x1.toInt ∧ x1.toInt ≤ 9 ∧ okG x1.toInt x3.toInt x4.toInt x5.toInt x6.toInt := by
            rcases pr23 with ⟨-, w⟩ | ⟨w, -⟩
            · exact ⟨by omega, by omega, w⟩
            · exact absurd w (by omega)
          have hgb := okG_b hO.2.2 ⟨hO.1, hO.2.1⟩
          refine lv_aload_n hx hb dX10_comes_44 rfl (lv_at hl 0 rfl) ?_
          refine lv_iload_n hx hb dX10_comes_45 rfl (lv_at hl 2 rfl) ?_
          refine tc_callp (mc_runV (As := [.int x2]) (rest := []) E hG (x_X10_isRoom l G (σ, cu, qX (upA a cu ta)) h0 x2 t0 (by omega) (by omega) ta (qX_TI hcu upA_at) hI) t0 rfl kv_X10_isRoom ml_X10_136 ⟨rfl, rfl, Nat.le_of_ble_eq_true rfl, Nat.le_of_ble_eq_true rfl⟩ rfl hl.1 rfl (Nat.le_of_ble_eq_true rfl) ⟨Nat.zero_le _, Nat.zero_le _⟩ dX10_comes_46) (fun r25 pr25 => ?_)
          replace pr25 : (r25.toInt = 1 ∧ RMe ta x2.toInt) ∨ (r25.toInt = 0 ∧ ¬ RMe ta x2.toInt) := pr25
          refine lv_if_ne (tgt := 55) hx hb dX10_comes_49 (by decide) (fun c26 => ?_) (fun c26 => ?_)
          · skip
            have ic26 := tn_ne rfl kI_0 c26
            have hR : RMe ta x2.toInt := by
              rcases pr25 with ⟨-, w⟩ | ⟨w, -⟩
              · exact w
              · exact absurd w (by omega)
            have hR2 := hR
            unfold RMe at hR2
            unfold PAl at hP
            refine lv_aload_n hx hb dX10_comes_55 rfl (lv_at hl 0 rfl) ?_
            refine mc_getn E hG t0 ff_X10_9 dX10_comes_56 (fun oa27 hoa27 => ?_)
            refine lv_iconst (v := 3) hx hb dX10_comes_59 (by decide) ?_
            refine mc_nald E hG hoa27 hG.2.2.1 (t_in (by decide) (by decide)) dX10_comes_60 (fun z28 lz28 uz28 qz28 => ?_)
            have lz28 : 0 ≤ z28.toInt := lz28
            have uz28 : z28.toInt ≤ 24 := uz28
            have wz28 : z28 = ta 3 := qz28 _ (qX_at hcu upA_at rfl)
            have cz28 : z28.toInt = (ta 3).toInt := by rw [wz28]
            refine lv_bipush (v := 24) hx hb dX10_comes_61 (by decide) ?_
            refine lv_icmp_ne (tgt := 71) hx hb dX10_comes_63 (by decide) (fun c29 => ?_) (fun c29 => ?_)
            · skip
              have ic29 := tn_ne rfl kI_24 c29
              refine lv_aload_n hx hb dX10_comes_71 rfl (lv_at hl 0 rfl) ?_
              refine lv_iload_n hx hb dX10_comes_72 rfl (lv_at hl 1 rfl) ?_
              refine lv_iload_n hx hb dX10_comes_73 rfl (lv_at hl 2 rfl) ?_
              refine lv_iload_n hx hb dX10_comes_74 rfl (lv_at hl 3 rfl) ?_
              refine lv_iload hx hb dX10_comes_75 (lv_at hl 4 rfl) ?_
              refine lv_iload hx hb dX10_comes_77 (lv_at hl 5 rfl) ?_
              refine lv_iload hx hb dX10_comes_79 (lv_at hl 6 rfl) ?_
              refine lv_iconst (v := 0) hx hb dX10_comes_81 (by decide) ?_
              refine mc_calliX hG (mc_runV (As := [.int x1, .int x2, .int x3, .int x4, .int x5, .int x6, .int 0]) (rest := []) E hG (x_X10_putBox l G σ cu a ta h0 x1 x2 x3 x4 x5 x6 (0 : Int32) t0 (by omega) (by omega) (by omega) (by omega) (by decide) (by decide) hI (by omega) hgb.1 hgb.2.1 hgb.2.2 (by omega)) t0 rfl kv_X10_putBox ml_X10_139 ⟨rfl, rfl, Nat.le_of_ble_eq_true rfl, Nat.le_of_ble_eq_true rfl⟩ rfl hl.1 rfl (Nat.le_of_ble_eq_true rfl) ⟨Nat.zero_le _, Nat.zero_le _⟩ dX10_comes_82) (fun r30 Z H locs eZ pZ hG => ?_)
              obtain ⟨t31, rfl, pt31, hI⟩ := pZ
              clear eZ
              obtain ⟨v0, v1, v2, v3, hmk, hpx, hrr⟩ := pt31
              exact mc_iretX E hr hlk hG rfl rfl ⟨_, rfl, Or.inr (Or.inr (Or.inr (Or.inr ⟨hP, hO, hR, by omega, hrr, v0, v1, v2, v3, hmk, hpx⟩))), hI⟩ dX10_comes_85
            · skip
              have ic29 := tn_eq rfl kI_24 c29
              refine lv_bipush (v := -4) hx hb dX10_comes_66 (by decide) ?_
              refine lv_goto (tgt := 85) hx hb dX10_comes_68 (by decide) ?_
              exact mc_iretX E hr hlk hG rfl rfl ⟨_, rfl, Or.inr (Or.inr (Or.inr (Or.inl ⟨rfl, rfl, hP, hO, hR, by omega⟩))), hI⟩ dX10_comes_85
          · skip
            have ic26 := tn_eq rfl kI_0 c26
            have hR : ¬ RMe ta x2.toInt := by
              rcases pr25 with ⟨w, -⟩ | ⟨-, w⟩
              · exact absurd w (by omega)
              · exact w
            refine lv_bipush (v := -3) hx hb dX10_comes_52 (by decide) ?_
            exact mc_iretX E hr hlk hG rfl rfl ⟨_, rfl, Or.inr (Or.inr (Or.inl ⟨rfl, rfl, hP, hO, hR⟩)), hI⟩ dX10_comes_54
        · skip
          have ic24 := tn_eq rfl kI_0 c24
          have hO : ¬ (0 ≤ x1.toInt ∧ x1.toInt ≤ 9 ∧ okG x1.toInt x3.toInt x4.toInt x5.toInt x6.toInt) := fun q => by
            rcases pr23 with ⟨w, -⟩ | ⟨-, w⟩
            · exact absurd w (by omega)
            · exact w q.2.2
          refine lv_bipush (v := -2) hx hb dX10_comes_41 (by decide) ?_
          exact mc_iretX E hr hlk hG rfl rfl ⟨_, rfl, Or.inr (Or.inl ⟨rfl, rfl, hP, hO⟩), hI⟩ dX10_comes_43
    · skip
      have ic17 := tn_eq rfl kI_0 c17
      have hP : ¬ PAl ta x2.toInt := by unfold PAl; omega
      refine lv_iconst (v := -1) hx hb dX10_comes_13 (by decide) ?_
      exact mc_iretX E hr hlk hG rfl rfl ⟨_, rfl, Or.inl ⟨rfl, rfl, hP⟩, hI⟩ dX10_comes_14

