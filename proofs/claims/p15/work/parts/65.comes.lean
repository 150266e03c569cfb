/-! ===== the reference: boxes come, go, move ===== -/
set_option maxHeartbeats 4000000 in
set_option maxRecDepth 100000 in
theorem c_X10_isInW (l : Launch) (G : tG) (Y : mY) (h0 : Nat) (x1 : Int32) (x2 : Int32) (t0 : Y.1 h0 = 1) (l1 : 0 ≤ x1.toInt) (u1 : x1.toInt ≤ 23) (t : Nat → Int32) (hT : TI Y t) (hI : TW t) (hc : x1.toInt < (t 3).toInt) : Met l yX10_isIn (.code yX10_isIn cX10_isIn 4 (some .boolean) :: tWS) (tRm 1 22) (va_Pc [.ref h0, .int x1, .int x2] (mPre G Y)) (tQp (fun r => (0 ≤ r.toInt ∧ r.toInt ≤ 1) ∧ (¬ x1.toInt = x2.toInt ∨ r.toInt = 1))) 0 0 tNo := by
  refine mc_met (by decide) (Nat.le_of_ble_eq_true rfl) ?_
  intro p e s m below meth c E hr hlk hG ls hl
  have hl : lv_has ls 4 [(0, .ref h0), (1, .int x1), (2, .int x2)] := hl
  have hx := E.1
  have hb := E.2.1
  obtain ⟨H, eH⟩ : ∃ H, H = s.heap := ⟨_, rfl⟩
  obtain ⟨locs, eL⟩ : ∃ x : List Loc, x = [] := ⟨_, rfl⟩
  have hG : mGH G Y s H locs := by rw [eH, eL]; exact hG
  suffices hW : W p l e (tRm 1 22) s m ([.ref h0, .int x1, .int x2] : List Value).toArray below meth c H locs 0 0 (MQ below (tQp (fun r => (0 ≤ r.toInt ∧ r.toInt ≤ 1) ∧ (¬ x1.toInt = x2.toInt ∨ r.toInt = 1))) ([.ref h0, .int x1, .int x2] : List Value).toArray s 0 0 tNo) (F0 m 0 ls []) by subst eH; subst eL; exact hW
  have J2 : ∀ (n2 : Nat) (ls : Array Slot) (v3 : Int32), lv_has ls 4 [(0, .ref h0), (2, .int x2), (3, .int v3)] → -1 ≤ v3.toInt → v3.toInt ≤ 23 → (v3.toInt < (t 3).toInt ∧ (¬ x1.toInt = x2.toInt ∨ v3.toInt = x1.toInt)) → (v3.toInt + 1).toNat < n2 → W p l e (tRm 1 22) s m ([.ref h0, .int x1, .int x2] : List Value).toArray below meth c H locs 0 0 (MQ below (tQp (fun r => (0 ≤ r.toInt ∧ r.toInt ≤ 1) ∧ (¬ x1.toInt = x2.toInt ∨ r.toInt = 1))) ([.ref h0, .int x1, .int x2] : List Value).toArray s 0 0 tNo) (F0 m 2 ls []) := by
    intro n2
    induction n2 with
    | zero => intro ls v3 hl b3 c3 hex2 hn2; exact absurd hn2 (Nat.not_lt_zero _)
    | succ n2 ih2 =>
      intro ls v3 hl b3 c3 hex2 hn2
      refine lv_iload_n hx hb dX10_isIn_2 rfl (lv_at hl 2 rfl) ?_
      refine lv_if_lt (tgt := 22) hx hb dX10_isIn_3 (by decide) (fun c1 => ?_) (fun c1 => ?_)
      · skip
        have ic1 := tn_lt rfl kI_0 c1
        refine lv_iload_n hx hb dX10_isIn_22 rfl (lv_at hl 2 rfl) ?_
        refine lv_iload_n hx hb dX10_isIn_23 rfl (lv_at hl 1 rfl) ?_
        refine lv_icmp_ne (tgt := 31) hx hb dX10_isIn_24 (by decide) (fun c2 => ?_) (fun c2 => ?_)
        · skip
          have ic2 := tn_ne rfl rfl c2
          refine lv_iconst (v := 0) hx hb dX10_isIn_31 (by decide) ?_
          exact tc_pret E hr hlk eH eL (t_nz (by decide) (by decide)).1 (show (0 ≤ (0 : Int32).toInt ∧ (0 : Int32).toInt ≤ 1) ∧ (¬ x1.toInt = x2.toInt ∨ (0 : Int32).toInt = 1) by have kk := kI_0; omega) dX10_isIn_32
        · skip
          have ic2 := tn_eq rfl rfl c2
          refine lv_iconst (v := 1) hx hb dX10_isIn_27 (by decide) ?_
          refine lv_goto (tgt := 32) hx hb dX10_isIn_28 (by decide) ?_
          exact tc_pret E hr hlk eH eL (t_nz (by decide) (by decide)).1 (show (0 ≤ (1 : Int32).toInt ∧ (1 : Int32).toInt ≤ 1) ∧ (¬ x1.toInt = x2.toInt ∨ (1 : Int32).toInt = 1) by have kk := kI_1; omega) dX10_isIn_32
      · skip
        have ic1 := tn_nlt rfl kI_0 c1
        refine lv_iload_n hx hb dX10_isIn_6 rfl (lv_at hl 2 rfl) ?_
        refine lv_iload_n hx hb dX10_isIn_7 rfl (lv_at hl 1 rfl) ?_
        refine lv_icmp_eq (tgt := 22) hx hb dX10_isIn_8 (by decide) (fun c3 => ?_) (fun c3 => ?_)
        · skip
          have ic3 := tn_eq rfl rfl c3
          refine lv_iload_n hx hb dX10_isIn_22 rfl (lv_at hl 2 rfl) ?_
          refine lv_iload_n hx hb dX10_isIn_23 rfl (lv_at hl 1 rfl) ?_
          refine lv_icmp_ne (tgt := 31) hx hb dX10_isIn_24 (by decide) (fun c4 => ?_) (fun c4 => ?_)
          · skip
            have ic4 := tn_ne rfl rfl c4
            refine lv_iconst (v := 0) hx hb dX10_isIn_31 (by decide) ?_
            exact tc_pret E hr hlk eH eL (t_nz (by decide) (by decide)).1 (show (0 ≤ (0 : Int32).toInt ∧ (0 : Int32).toInt ≤ 1) ∧ (¬ x1.toInt = x2.toInt ∨ (0 : Int32).toInt = 1) by have kk := kI_0; omega) dX10_isIn_32
          · skip
            have ic4 := tn_eq rfl rfl c4
            refine lv_iconst (v := 1) hx hb dX10_isIn_27 (by decide) ?_
            refine lv_goto (tgt := 32) hx hb dX10_isIn_28 (by decide) ?_
            exact tc_pret E hr hlk eH eL (t_nz (by decide) (by decide)).1 (show (0 ≤ (1 : Int32).toInt ∧ (1 : Int32).toInt ≤ 1) ∧ (¬ x1.toInt = x2.toInt ∨ (1 : Int32).toInt = 1) by have kk := kI_1; omega) dX10_isIn_32
        · skip
          have ic3 := tn_ne rfl rfl c3
          refine lv_aload_n hx hb dX10_isIn_11 rfl (lv_at hl 0 rfl) ?_
          refine lv_iload_n hx hb dX10_isIn_12 rfl (lv_at hl 2 rfl) ?_
          refine lv_bipush (v := 9) hx hb dX10_isIn_13 (by decide) ?_
          refine tc_callp (mc_runV (As := [.int v3, .int 9]) (rest := []) E hG (c_X10_get l G Y h0 v3 (9 : Int32) t0 (by omega) (by omega) (by decide) (by decide)) t0 rfl kv_X10_get ml_X10_91 ⟨rfl, rfl, Nat.le_of_ble_eq_true rfl, Nat.le_of_ble_eq_true rfl⟩ rfl hl.1 rfl (Nat.le_of_ble_eq_true rfl) ⟨Nat.zero_le _, Nat.zero_le _⟩ dX10_isIn_15) (fun r5 pr5 => ?_)
          replace pr5 : mV Y (ix v3.toInt (9 : Int32).toInt) r5 := pr5
          have pr5 := mV_l pr5 kI_9
          have br5 := mV_9 pr5 (by omega)
          have cr5 := mT pr5 hT (by omega) (by omega) (by decide) (by decide)
          have dr5 := mP9w cr5 hI (by omega)
          have k6 := kI_9
          refine lv_istore_n (lv' := [(3, .int r5), (0, .ref h0), (2, .int x2)]) hx hb dX10_isIn_18 rfl hl (by decide) rfl (fun ls hl => ?_)
          refine lv_goto (tgt := 2) hx hb dX10_isIn_19 (by decide) ?_
          exact ih2 ls r5 (lv_sub hl [1, 2, 0] rfl) (by omega) (by omega) (by have k0 := kI_0; have k1 := kI_1; omega) (by omega)
  refine lv_iload_n hx hb dX10_isIn_0 rfl (lv_at hl 1 rfl) ?_
  refine lv_istore_n (lv' := [(3, .int x1), (0, .ref h0), (1, .int x1), (2, .int x2)]) hx hb dX10_isIn_1 rfl hl (by decide) rfl (fun ls hl => ?_)
  exact J2 ((x1.toInt + 1).toNat + 1) ls x1 (lv_sub hl [1, 3, 0] rfl) (by omega) (by omega) (by have k0 := kI_0; have k1 := kI_1; omega) (Nat.lt_succ_self _)

set_option maxHeartbeats 4000000 in
set_option maxRecDepth 100000 in
theorem c_X10_isRoom2 (l : Launch) (G : tG) (Y : mY) (h0 : Nat) (x1 : Int32) (t0 : Y.1 h0 = 1) (l1 : -1 ≤ x1.toInt) (u1 : x1.toInt ≤ 23) (t : Nat → Int32) (hT : TI Y t) (hI : TInv0 t) : Met l yX10_isRoom (.code yX10_isRoom cX10_isRoom 2 (some .boolean) :: tWS) (tRm 2 43) (va_Pc [.ref h0, .int x1] (mPre G Y)) (tQp (fun r => r.toInt = 0 ∨ (r.toInt = 1 ∧ ((x1.toInt < 0 ∧ (t 0).toInt < 0) ∨ (0 ≤ x1.toInt ∧ K t x1.toInt 10 < 8))))) 0 0 tNo := by
  refine mc_met (by decide) (Nat.le_of_ble_eq_true rfl) ?_
  intro p e s m below meth c E hr hlk hG ls hl
  have hl : lv_has ls 2 [(0, .ref h0), (1, .int x1)] := hl
  have hx := E.1
  have hb := E.2.1
  obtain ⟨H, eH⟩ : ∃ H, H = s.heap := ⟨_, rfl⟩
  obtain ⟨locs, eL⟩ : ∃ x : List Loc, x = [] := ⟨_, rfl⟩
  have hG : mGH G Y s H locs := by rw [eH, eL]; exact hG
  suffices hW : W p l e (tRm 2 43) s m ([.ref h0, .int x1] : List Value).toArray below meth c H locs 0 0 (MQ below (tQp (fun r => r.toInt = 0 ∨ (r.toInt = 1 ∧ ((x1.toInt < 0 ∧ (t 0).toInt < 0) ∨ (0 ≤ x1.toInt ∧ K t x1.toInt 10 < 8))))) ([.ref h0, .int x1] : List Value).toArray s 0 0 tNo) (F0 m 0 ls []) by subst eH; subst eL; exact hW
  refine lv_iload_n hx hb dX10_isRoom_0 rfl (lv_at hl 1 rfl) ?_
  refine lv_if_ge (tgt := 21) hx hb dX10_isRoom_1 (by decide) (fun c1 => ?_) (fun c1 => ?_)
  · skip
    have ic1 := tn_le kI_0 rfl c1
    refine lv_aload_n hx hb dX10_isRoom_21 rfl (lv_at hl 0 rfl) ?_
    refine lv_iload_n hx hb dX10_isRoom_22 rfl (lv_at hl 1 rfl) ?_
    refine tc_callp (mc_runV (As := [.int x1]) (rest := []) E hG (c_X10_manyOf l G Y h0 x1 t0 (by omega) (by omega)) t0 rfl kv_X10_manyOf ml_X10_117 ⟨rfl, rfl, Nat.le_of_ble_eq_true rfl, Nat.le_of_ble_eq_true rfl⟩ rfl hl.1 rfl (Nat.le_of_ble_eq_true rfl) ⟨Nat.zero_le _, Nat.zero_le _⟩ dX10_isRoom_23) (fun r2 pr2 => ?_)
    replace pr2 : mV Y (ix x1.toInt 10) r2 := pr2
    have br2 := mV_10 pr2 (by omega)
    have cr2 := mT pr2 hT (by omega) (by omega) (by decide) (by decide)
    refine lv_aload_n hx hb dX10_isRoom_26 rfl (lv_at hl 0 rfl) ?_
    refine lv_iload_n hx hb dX10_isRoom_27 rfl (lv_at hl 1 rfl) ?_
    refine lv_iconst (v := 1) hx hb dX10_isRoom_28 (by decide) ?_
    refine tc_callp (mc_runV (As := [.int x1, .int 1]) (rest := [.int r2]) E hG (c_X10_get l G Y h0 x1 (1 : Int32) t0 (by omega) (by omega) (by decide) (by decide)) t0 rfl kv_X10_get ml_X10_91 ⟨rfl, rfl, Nat.le_of_ble_eq_true rfl, Nat.le_of_ble_eq_true rfl⟩ rfl hl.1 rfl (Nat.le_of_ble_eq_true rfl) ⟨Nat.zero_le _, Nat.zero_le _⟩ dX10_isRoom_29) (fun r3 pr3 => ?_)
    replace pr3 : mV Y (ix x1.toInt (1 : Int32).toInt) r3 := pr3
    have pr3 := mV_l pr3 kI_1
    have br3 := mV_1 pr3 (by omega)
    have cr3 := mT pr3 hT (by omega) (by omega) (by decide) (by decide)
    have k4 := kI_1
    refine tc_callp (mc_runS (As := [.int r3]) (rest := [.int r2]) E hG (c_X10_takes l G Y r3) ks_X10_takes ml_X10_124 ⟨rfl, rfl, Nat.le_of_ble_eq_true rfl, Nat.le_of_ble_eq_true rfl⟩ rfl hl.1 rfl (Nat.le_of_ble_eq_true rfl) ⟨Nat.zero_le _, Nat.zero_le _⟩ dX10_isRoom_32) (fun r5 pr5 => ?_)
    replace pr5 : 0 ≤ r5.toInt ∧ r5.toInt ≤ 8 := pr5
    refine lv_icmp_ge (tgt := 42) hx hb dX10_isRoom_35 (by decide) (fun c6 => ?_) (fun c6 => ?_)
    · skip
      have ic6 := tn_le rfl rfl c6
      refine lv_iconst (v := 0) hx hb dX10_isRoom_42 (by decide) ?_
      exact tc_pret E hr hlk eH eL (t_nz (by decide) (by decide)).1 (show (0 : Int32).toInt = 0 ∨ ((0 : Int32).toInt = 1 ∧ ((x1.toInt < 0 ∧ (t 0).toInt < 0) ∨ (0 ≤ x1.toInt ∧ K t x1.toInt 10 < 8))) by have kk := kI_0; omega) dX10_isRoom_43
    · skip
      have ic6 := tn_nle rfl rfl c6
      refine lv_iconst (v := 1) hx hb dX10_isRoom_38 (by decide) ?_
      refine lv_goto (tgt := 43) hx hb dX10_isRoom_39 (by decide) ?_
      exact tc_pret E hr hlk eH eL (t_nz (by decide) (by decide)).1 (show (1 : Int32).toInt = 0 ∨ ((1 : Int32).toInt = 1 ∧ ((x1.toInt < 0 ∧ (t 0).toInt < 0) ∨ (0 ≤ x1.toInt ∧ K t x1.toInt 10 < 8))) by have kk := kI_1; omega) dX10_isRoom_43
  · skip
    have ic1 := tn_nle kI_0 rfl c1
    refine lv_aload_n hx hb dX10_isRoom_4 rfl (lv_at hl 0 rfl) ?_
    refine mc_getn E hG t0 ff_X10_9 dX10_isRoom_5 (fun oa7 hoa7 => ?_)
    refine lv_iconst (v := 0) hx hb dX10_isRoom_8 (by decide) ?_
    refine mc_nald E hG hoa7 hG.2.2.1 (t_in (by decide) (by decide)) dX10_isRoom_9 (fun z8 lz8 uz8 qz8 => ?_)
    have lz8 : -1 ≤ z8.toInt := lz8
    have uz8 : z8.toInt ≤ 23 := uz8
    have wz8 : z8.toInt = (t 0).toInt := by rw [qz8 _ hT.1]
    refine lv_if_ge (tgt := 17) hx hb dX10_isRoom_10 (by decide) (fun c9 => ?_) (fun c9 => ?_)
    · skip
      have ic9 := tn_le kI_0 rfl c9
      refine lv_iconst (v := 0) hx hb dX10_isRoom_17 (by decide) ?_
      refine lv_goto (tgt := 43) hx hb dX10_isRoom_18 (by decide) ?_
      exact tc_pret E hr hlk eH eL (t_nz (by decide) (by decide)).1 (show (0 : Int32).toInt = 0 ∨ ((0 : Int32).toInt = 1 ∧ ((x1.toInt < 0 ∧ (t 0).toInt < 0) ∨ (0 ≤ x1.toInt ∧ K t x1.toInt 10 < 8))) by have kk := kI_0; omega) dX10_isRoom_43
    · skip
      have ic9 := tn_nle kI_0 rfl c9
      refine lv_iconst (v := 1) hx hb dX10_isRoom_13 (by decide) ?_
      refine lv_goto (tgt := 43) hx hb dX10_isRoom_14 (by decide) ?_
      exact tc_pret E hr hlk eH eL (t_nz (by decide) (by decide)).1 (show (1 : Int32).toInt = 0 ∨ ((1 : Int32).toInt = 1 ∧ ((x1.toInt < 0 ∧ (t 0).toInt < 0) ∨ (0 ≤ x1.toInt ∧ K t x1.toInt 10 < 8))) by have kk := kI_1; omega) dX10_isRoom_43

