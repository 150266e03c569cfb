/-! ===== the reference: what is told, exactly ===== -/
set_option maxHeartbeats 4000000 in
set_option maxRecDepth 100000 in
theorem q_X10_wordOf (l : Launch) (G : tG) (Y : mY) (x0 : Int32) (x1 : Int32) (l0 : 0 ≤ x0.toInt) (u0 : x0.toInt ≤ 99) (l1 : 0 ≤ x1.toInt) (u1 : x1.toInt ≤ 99) : Met l yX10_wordOf (.code yX10_wordOf cX10_wordOf 3 (some .int) :: tWS) (tRm 0 0) (va_Pc [.int x0, .int x1] (mPre G Y)) (tQp (fun r => r.toInt = wdI x0.toInt x1.toInt ∧ 1 ≤ r.toInt ∧ r.toInt ≤ 9)) 0 0 tNo := by
  refine mc_met (by decide) (Nat.le_of_ble_eq_true rfl) ?_
  intro p e s m below meth c E hr hlk hG ls hl
  have hl : lv_has ls 3 [(0, .int x0), (1, .int x1)] := hl
  have hx := E.1
  have hb := E.2.1
  obtain ⟨H, eH⟩ : ∃ H, H = s.heap := ⟨_, rfl⟩
  obtain ⟨locs, eL⟩ : ∃ x : List Loc, x = [] := ⟨_, rfl⟩
  have hG : mGH G Y s H locs := by rw [eH, eL]; exact hG
  suffices hW : W p l e (tRm 0 0) s m ([.int x0, .int x1] : List Value).toArray below meth c H locs 0 0 (MQ below (tQp (fun r => r.toInt = wdI x0.toInt x1.toInt ∧ 1 ≤ r.toInt ∧ r.toInt ≤ 9)) ([.int x0, .int x1] : List Value).toArray s 0 0 tNo) (F0 m 0 ls []) by subst eH; subst eL; exact hW
  refine lv_iload_n hx hb dX10_wordOf_0 rfl (lv_at hl 0 rfl) ?_
  refine lv_iload_n hx hb dX10_wordOf_1 rfl (lv_at hl 1 rfl) ?_
  refine lv_iadd hx hb dX10_wordOf_2 ?_
  refine lv_topi (fun z1 ez1 => ?_)
  have tz1 := tn_add ez1 rfl rfl (by omega) (by omega)
  refine lv_bipush (v := 32) hx hb dX10_wordOf_3 (by decide) ?_
  refine lv_irem hx hb dX10_wordOf_5 (by decide) ?_
  refine lv_topi (fun z2 ez2 => ?_)
  have tz2 := tn_rem ez2 kI_32 (by omega) (by decide)
  refine lv_istore_n (lv' := [(2, .int z2), (0, .int x0), (1, .int x1)]) hx hb dX10_wordOf_6 rfl hl (by decide) rfl (fun ls hl => ?_)
  refine lv_iconst (v := 1) hx hb dX10_wordOf_7 (by decide) ?_
  refine lv_bipush (v := 7) hx hb dX10_wordOf_8 (by decide) ?_
  refine lv_iload_n hx hb dX10_wordOf_10 rfl (lv_at hl 0 rfl) ?_
  refine lv_imul hx hb dX10_wordOf_11 ?_
  refine lv_topi (fun z3 ez3 => ?_)
  have tz3 := tn_mul ez3 kI_7 rfl (by omega) (by omega)
  refine lv_iload_n hx hb dX10_wordOf_12 rfl (lv_at hl 0 rfl) ?_
  refine lv_imul hx hb dX10_wordOf_13 ?_
  refine lv_topi (fun z4 ez4 => ?_)
  have tz4 := tn_mulb (a := 217) (b := 31) ez4 (by omega) (by omega) (by omega) (by omega) (by decide)
  refine lv_iconst (v := 3) hx hb dX10_wordOf_14 (by decide) ?_
  refine lv_iload_n hx hb dX10_wordOf_15 rfl (lv_at hl 0 rfl) ?_
  refine lv_imul hx hb dX10_wordOf_16 ?_
  refine lv_topi (fun z5 ez5 => ?_)
  have tz5 := tn_mul ez5 kI_3 rfl (by omega) (by omega)
  refine lv_iadd hx hb dX10_wordOf_17 ?_
  refine lv_topi (fun z6 ez6 => ?_)
  have tz6 := tn_add ez6 rfl rfl (by omega) (by omega)
  refine lv_bipush (v := 9) hx hb dX10_wordOf_18 (by decide) ?_
  refine lv_irem hx hb dX10_wordOf_20 (by decide) ?_
  refine lv_topi (fun z7 ez7 => ?_)
  have tz7 := tn_rem ez7 kI_9 (by omega) (by decide)
  refine lv_iadd hx hb dX10_wordOf_21 ?_
  refine lv_topi (fun z8 ez8 => ?_)
  have tz8 := tn_add ez8 kI_1 rfl (by omega) (by omega)
  exact tc_pret E hr hlk eH eL rfl (show z8.toInt = wdI x0.toInt x1.toInt ∧ 1 ≤ z8.toInt ∧ z8.toInt ≤ 9 by (have h9 := wdI_bd x0.toInt x1.toInt; have h8 : z8.toInt = wdI x0.toInt x1.toInt := (by unfold wdI; rw [tz8, tz7, tz6, tz5, tz4.1, tz3, tz2, tz1]); exact ⟨h8, by omega, by omega⟩)) dX10_wordOf_22

set_option maxHeartbeats 4000000 in
set_option maxRecDepth 100000 in
theorem q_X10_ended (l : Launch) (G : tG) (Y : mY) (x0 : Int32) (l0 : 0 ≤ x0.toInt) (u0 : x0.toInt ≤ 99) : Met l yX10_ended (.code yX10_ended cX10_ended 1 (some .int) :: tWS) (tRm 0 0) (va_Pc [.int x0] (mPre G Y)) (tQp (fun r => r.toInt = enI x0.toInt ∧ 0 ≤ r.toInt ∧ r.toInt ≤ 1000)) 0 0 tNo := by
  refine mc_met (by decide) (Nat.le_of_ble_eq_true rfl) ?_
  intro p e s m below meth c E hr hlk hG ls hl
  have hl : lv_has ls 1 [(0, .int x0)] := hl
  have hx := E.1
  have hb := E.2.1
  obtain ⟨H, eH⟩ : ∃ H, H = s.heap := ⟨_, rfl⟩
  obtain ⟨locs, eL⟩ : ∃ x : List Loc, x = [] := ⟨_, rfl⟩
  have hG : mGH G Y s H locs := by rw [eH, eL]; exact hG
  suffices hW : W p l e (tRm 0 0) s m ([.int x0] : List Value).toArray below meth c H locs 0 0 (MQ below (tQp (fun r => r.toInt = enI x0.toInt ∧ 0 ≤ r.toInt ∧ r.toInt ≤ 1000)) ([.int x0] : List Value).toArray s 0 0 tNo) (F0 m 0 ls []) by subst eH; subst eL; exact hW
  refine lv_iload_n hx hb dX10_ended_0 rfl (lv_at hl 0 rfl) ?_
  refine lv_bipush (v := 99) hx hb dX10_ended_1 (by decide) ?_
  refine lv_icmp_ne (tgt := 12) hx hb dX10_ended_3 (by decide) (fun c1 => ?_) (fun c1 => ?_)
  · skip
    have ic1 := tn_ne rfl kI_99 c1
    refine lv_iload_n hx hb dX10_ended_12 rfl (lv_at hl 0 rfl) ?_
    exact tc_pret E hr hlk eH eL rfl (show x0.toInt = enI x0.toInt ∧ 0 ≤ x0.toInt ∧ x0.toInt ≤ 1000 by (unfold enI; split <;> omega)) dX10_ended_13
  · skip
    have ic1 := tn_eq rfl kI_99 c1
    refine lv_sipush (v := 1000) hx hb dX10_ended_6 (by decide) ?_
    refine lv_goto (tgt := 13) hx hb dX10_ended_9 (by decide) ?_
    exact tc_pret E hr hlk eH eL rfl (show (1000 : Int32).toInt = enI x0.toInt ∧ 0 ≤ (1000 : Int32).toInt ∧ (1000 : Int32).toInt ≤ 1000 by have kk := kI_1000; (unfold enI; split <;> omega)) dX10_ended_13

set_option maxHeartbeats 4000000 in
set_option maxRecDepth 100000 in
theorem q_X10_held (l : Launch) (G : tG) (Y : mY) (x0 : Int32) (x1 : Int32) (x2 : Int32) (l0 : 0 ≤ x0.toInt) (u0 : x0.toInt ≤ 13600) (l1 : 0 ≤ x1.toInt) (u1 : x1.toInt ≤ 99) (l2 : 0 ≤ x2.toInt) (u2 : x2.toInt ≤ 1000) : Met l yX10_held (.code yX10_held cX10_held 3 (some .int) :: tWS) (tRm 0 0) (va_Pc [.int x0, .int x1, .int x2] (mPre G Y)) (tQp (fun r => r.toInt = hdI x0.toInt x1.toInt x2.toInt ∧ 0 ≤ r.toInt ∧ r.toInt ≤ 1000)) 0 0 tNo := by
  refine mc_met (by decide) (Nat.le_of_ble_eq_true rfl) ?_
  intro p e s m below meth c E hr hlk hG ls hl
  have hl : lv_has ls 3 [(0, .int x0), (1, .int x1), (2, .int x2)] := hl
  have hx := E.1
  have hb := E.2.1
  obtain ⟨H, eH⟩ : ∃ H, H = s.heap := ⟨_, rfl⟩
  obtain ⟨locs, eL⟩ : ∃ x : List Loc, x = [] := ⟨_, rfl⟩
  have hG : mGH G Y s H locs := by rw [eH, eL]; exact hG
  suffices hW : W p l e (tRm 0 0) s m ([.int x0, .int x1, .int x2] : List Value).toArray below meth c H locs 0 0 (MQ below (tQp (fun r => r.toInt = hdI x0.toInt x1.toInt x2.toInt ∧ 0 ≤ r.toInt ∧ r.toInt ≤ 1000)) ([.int x0, .int x1, .int x2] : List Value).toArray s 0 0 tNo) (F0 m 0 ls []) by subst eH; subst eL; exact hW
  refine lv_iload_n hx hb dX10_held_0 rfl (lv_at hl 0 rfl) ?_
  refine lv_iload_n hx hb dX10_held_1 rfl (lv_at hl 1 rfl) ?_
  refine lv_icmp_ge (tgt := 9) hx hb dX10_held_2 (by decide) (fun c1 => ?_) (fun c1 => ?_)
  · skip
    have ic1 := tn_le rfl rfl c1
    refine lv_iload_n hx hb dX10_held_9 rfl (lv_at hl 0 rfl) ?_
    refine lv_iload_n hx hb dX10_held_10 rfl (lv_at hl 2 rfl) ?_
    refine lv_icmp_le (tgt := 18) hx hb dX10_held_11 (by decide) (fun c2 => ?_) (fun c2 => ?_)
    · skip
      have ic2 := tn_le rfl rfl c2
      refine lv_iload_n hx hb dX10_held_18 rfl (lv_at hl 0 rfl) ?_
      exact tc_pret E hr hlk eH eL rfl (show x0.toInt = hdI x0.toInt x1.toInt x2.toInt ∧ 0 ≤ x0.toInt ∧ x0.toInt ≤ 1000 by (unfold hdI; split <;> (try split) <;> omega)) dX10_held_19
    · skip
      have ic2 := tn_nle rfl rfl c2
      refine lv_iload_n hx hb dX10_held_14 rfl (lv_at hl 2 rfl) ?_
      refine lv_goto (tgt := 19) hx hb dX10_held_15 (by decide) ?_
      exact tc_pret E hr hlk eH eL rfl (show x2.toInt = hdI x0.toInt x1.toInt x2.toInt ∧ 0 ≤ x2.toInt ∧ x2.toInt ≤ 1000 by (unfold hdI; split <;> (try split) <;> omega)) dX10_held_19
  · skip
    have ic1 := tn_nle rfl rfl c1
    refine lv_iload_n hx hb dX10_held_5 rfl (lv_at hl 1 rfl) ?_
    refine lv_goto (tgt := 19) hx hb dX10_held_6 (by decide) ?_
    exact tc_pret E hr hlk eH eL rfl (show x1.toInt = hdI x0.toInt x1.toInt x2.toInt ∧ 0 ≤ x1.toInt ∧ x1.toInt ≤ 1000 by (unfold hdI; split <;> (try split) <;> omega)) dX10_held_19

set_option maxHeartbeats 4000000 in
set_option maxRecDepth 100000 in
theorem q_X10_textOf (l : Launch) (G : tG) (Y : mY) (h0 : Nat) (x1 : Int32) (x2 : Int32) (t0 : Y.1 h0 = 1) (l1 : 0 ≤ x1.toInt) (u1 : x1.toInt ≤ 23) (l2 : 0 ≤ x2.toInt) (u2 : x2.toInt ≤ 1) (t : Nat → Int32) (hT : TI Y t) (hI : TInv0 t) : Met l yX10_textOf (.code yX10_textOf cX10_textOf 7 (some .int) :: tWS) (tRm 1 22) (va_Pc [.ref h0, .int x1, .int x2] (mPre G Y)) (tQp (fun r => r.toInt = txI (K t x1.toInt 2) (K t x1.toInt 3) x2.toInt ∧ 0 ≤ r.toInt ∧ r.toInt ≤ 1000)) 0 0 tNo := by
  refine mc_met (by decide) (Nat.le_of_ble_eq_true rfl) ?_
  intro p e s m below meth c E hr hlk hG ls hl
  have hl : lv_has ls 7 [(0, .ref h0), (1, .int x1), (2, .int x2)] := hl
  have hx := E.1
  have hb := E.2.1
  obtain ⟨H, eH⟩ : ∃ H, H = s.heap := ⟨_, rfl⟩
  obtain ⟨locs, eL⟩ : ∃ x : List Loc, x = [] := ⟨_, rfl⟩
  have hG : mGH G Y s H locs := by rw [eH, eL]; exact hG
  suffices hW : W p l e (tRm 1 22) s m ([.ref h0, .int x1, .int x2] : List Value).toArray below meth c H locs 0 0 (MQ below (tQp (fun r => r.toInt = txI (K t x1.toInt 2) (K t x1.toInt 3) x2.toInt ∧ 0 ≤ r.toInt ∧ r.toInt ≤ 1000)) ([.ref h0, .int x1, .int x2] : List Value).toArray s 0 0 tNo) (F0 m 0 ls []) by subst eH; subst eL; exact hW
  have J8 : ∀ (n8 : Nat) (ls : Array Slot) (v3 : Int32) (v4 : Int32) (v5 : Int32), lv_has ls 7 [(0, .ref h0), (1, .int x1), (2, .int x2), (3, .int v3), (4, .int v4), (5, .int v5)] → 0 ≤ v3.toInt → v3.toInt ≤ 990 → 0 ≤ v4.toInt → v4.toInt ≤ 9 → 0 ≤ v5.toInt → v5.toInt ≤ 99 → (v3.toInt = (if 0 < v5.toInt then v5.toInt - 1 else 0) + sumI (fun k => wdI (K t x1.toInt 3) (k : Int)) v5.toInt.toNat ∧ v4.toInt = mxI (fun k => wdI (K t x1.toInt 3) (k : Int)) v5.toInt.toNat ∧ (v5.toInt ≤ K t x1.toInt 2 ∨ v5.toInt = 0) ∧ v3.toInt ≤ 10 * v5.toInt) → (99 - v5.toInt).toNat < n8 → W p l e (tRm 1 22) s m ([.ref h0, .int x1, .int x2] : List Value).toArray below meth c H locs 0 0 (MQ below (tQp (fun r => r.toInt = txI (K t x1.toInt 2) (K t x1.toInt 3) x2.toInt ∧ 0 ≤ r.toInt ∧ r.toInt ≤ 1000)) ([.ref h0, .int x1, .int x2] : List Value).toArray s 0 0 tNo) (F0 m 8 ls []) := by
    intro n8
    induction n8 with
    | zero => intro ls v3 v4 v5 hl b3 c3 b4 c4 b5 c5 hex8 hn8; exact absurd hn8 (Nat.not_lt_zero _)
    | succ n8 ih8 =>
      intro ls v3 v4 v5 hl b3 c3 b4 c4 b5 c5 hex8 hn8
      refine lv_iload hx hb dX10_textOf_8 (lv_at hl 5 rfl) ?_
      refine lv_aload_n hx hb dX10_textOf_10 rfl (lv_at hl 0 rfl) ?_
      refine lv_iload_n hx hb dX10_textOf_11 rfl (lv_at hl 1 rfl) ?_
      refine lv_iconst (v := 2) hx hb dX10_textOf_12 (by decide) ?_
      refine tc_callp (mc_runV (As := [.int x1, .int 2]) (rest := [.int v5]) E hG (c_X10_get l G Y h0 x1 (2 : Int32) t0 (by omega) (by omega) (by decide) (by decide)) t0 rfl kv_X10_get ml_X10_91 ⟨rfl, rfl, Nat.le_of_ble_eq_true rfl, Nat.le_of_ble_eq_true rfl⟩ rfl hl.1 rfl (Nat.le_of_ble_eq_true rfl) ⟨Nat.zero_le _, Nat.zero_le _⟩ dX10_textOf_13) (fun r1 pr1 => ?_)
      replace pr1 : mV Y (ix x1.toInt (2 : Int32).toInt) r1 := pr1
      have pr1 := mV_l pr1 kI_2
      have br1 := mV_2 pr1 (by omega)
      have cr1 := mT pr1 hT (by omega) (by omega) (by decide) (by decide)
      have k2 := kI_2
      refine lv_icmp_ge (tgt := 70) hx hb dX10_textOf_16 (by decide) (fun c3 => ?_) (fun c3 => ?_)
      · skip
        have ic3 := tn_le rfl rfl c3
        refine lv_iload_n hx hb dX10_textOf_70 rfl (lv_at hl 2 rfl) ?_
        refine lv_if_ne (tgt := 78) hx hb dX10_textOf_71 (by decide) (fun c4 => ?_) (fun c4 => ?_)
        · skip
          have ic4 := tn_ne rfl kI_0 c4
          refine lv_iload hx hb dX10_textOf_78 (lv_at hl 4 rfl) ?_
          exact tc_pret E hr hlk eH eL rfl (show v4.toInt = txI (K t x1.toInt 2) (K t x1.toInt 3) x2.toInt ∧ 0 ≤ v4.toInt ∧ v4.toInt ≤ 1000 by (refine ⟨?_, by omega, by omega⟩; unfold txI; first | (rw [if_pos (by omega), show (K t x1.toInt 2).toNat = v5.toInt.toNat by omega]; split <;> split at hex8 <;> omega) | (rw [if_neg (by omega), show (K t x1.toInt 2).toNat = v5.toInt.toNat by omega]; exact hex8.2.1))) dX10_textOf_80
        · skip
          have ic4 := tn_eq rfl kI_0 c4
          refine lv_iload_n hx hb dX10_textOf_74 rfl (lv_at hl 3 rfl) ?_
          refine lv_goto (tgt := 80) hx hb dX10_textOf_75 (by decide) ?_
          exact tc_pret E hr hlk eH eL rfl (show v3.toInt = txI (K t x1.toInt 2) (K t x1.toInt 3) x2.toInt ∧ 0 ≤ v3.toInt ∧ v3.toInt ≤ 1000 by (refine ⟨?_, by omega, by omega⟩; unfold txI; first | (rw [if_pos (by omega), show (K t x1.toInt 2).toNat = v5.toInt.toNat by omega]; split <;> split at hex8 <;> omega) | (rw [if_neg (by omega), show (K t x1.toInt 2).toNat = v5.toInt.toNat by omega]; exact hex8.2.1))) dX10_textOf_80
      · skip
        have ic3 := tn_nle rfl rfl c3
        refine lv_aload_n hx hb dX10_textOf_19 rfl (lv_at hl 0 rfl) ?_
        refine lv_iload_n hx hb dX10_textOf_20 rfl (lv_at hl 1 rfl) ?_
        refine lv_iconst (v := 3) hx hb dX10_textOf_21 (by decide) ?_
        refine tc_callp (mc_runV (As := [.int x1, .int 3]) (rest := []) E hG (c_X10_get l G Y h0 x1 (3 : Int32) t0 (by omega) (by omega) (by decide) (by decide)) t0 rfl kv_X10_get ml_X10_91 ⟨rfl, rfl, Nat.le_of_ble_eq_true rfl, Nat.le_of_ble_eq_true rfl⟩ rfl hl.1 rfl (Nat.le_of_ble_eq_true rfl) ⟨Nat.zero_le _, Nat.zero_le _⟩ dX10_textOf_22) (fun r5 pr5 => ?_)
        replace pr5 : mV Y (ix x1.toInt (3 : Int32).toInt) r5 := pr5
        have pr5 := mV_l pr5 kI_3
        have br5 := mV_3 pr5 (by omega)
        have cr5 := mT pr5 hT (by omega) (by omega) (by decide) (by decide)
        have k6 := kI_3
        refine lv_iload hx hb dX10_textOf_25 (lv_at hl 5 rfl) ?_
        refine tc_callp (mc_runS (As := [.int r5, .int v5]) (rest := []) E hG (q_X10_wordOf l G Y r5 v5 (by omega) (by omega) (by omega) (by omega)) ks_X10_wordOf ml_X10_174 ⟨rfl, rfl, Nat.le_of_ble_eq_true rfl, Nat.le_of_ble_eq_true rfl⟩ rfl hl.1 rfl (Nat.le_of_ble_eq_true rfl) ⟨Nat.zero_le _, Nat.zero_le _⟩ dX10_textOf_27) (fun r7 pr7 => ?_)
        replace pr7 : r7.toInt = wdI r5.toInt v5.toInt ∧ 1 ≤ r7.toInt ∧ r7.toInt ≤ 9 := pr7
        rw [cr5] at pr7
        refine lv_istore (lv' := [(6, .int r7), (0, .ref h0), (1, .int x1), (2, .int x2), (3, .int v3), (4, .int v4), (5, .int v5)]) hx hb dX10_textOf_30 hl (by decide) rfl (fun ls hl => ?_)
        refine lv_iload_n hx hb dX10_textOf_32 rfl (lv_at hl 4 rfl) ?_
        refine lv_iload hx hb dX10_textOf_33 (lv_at hl 0 rfl) ?_
        refine lv_iload hx hb dX10_textOf_35 (lv_at hl 6 rfl) ?_
        refine lv_if_le (tgt := 44) hx hb dX10_textOf_37 (by decide) (fun c8 => ?_) (fun c8 => ?_)
        · skip
          have ic8 := tn_le rfl kI_0 c8
          refine lv_iconst (v := 0) hx hb dX10_textOf_44 (by decide) ?_
          refine lv_iadd hx hb dX10_textOf_45 ?_
          refine lv_topi (fun z9 ez9 => ?_)
          have tz9 := tn_add ez9 rfl kI_0 (by omega) (by omega)
          refine lv_iadd hx hb dX10_textOf_46 ?_
          refine lv_topi (fun z10 ez10 => ?_)
          have tz10 := tn_add ez10 rfl rfl (by omega) (by omega)
          refine lv_istore_n (lv' := [(3, .int z10), (6, .int r7), (0, .ref h0), (1, .int x1), (2, .int x2), (4, .int v4), (5, .int v5)]) hx hb dX10_textOf_47 rfl hl (by decide) rfl (fun ls hl => ?_)
          refine lv_iload hx hb dX10_textOf_48 (lv_at hl 1 rfl) ?_
          refine lv_iload hx hb dX10_textOf_50 (lv_at hl 5 rfl) ?_
          refine lv_icmp_le (tgt := 60) hx hb dX10_textOf_52 (by decide) (fun c11 => ?_) (fun c11 => ?_)
          · skip
            have ic11 := tn_le rfl rfl c11
            refine lv_iload hx hb dX10_textOf_60 (lv_at hl 5 rfl) ?_
            refine lv_istore (lv' := [(4, .int v4), (3, .int z10), (6, .int r7), (0, .ref h0), (1, .int x1), (2, .int x2), (5, .int v5)]) hx hb dX10_textOf_62 hl (by decide) rfl (fun ls hl => ?_)
            obtain ⟨z12, ez12⟩ : ∃ y : Int32, y = v5 + (1) := ⟨_, rfl⟩
            refine lv_iinc (v := z12) (lv' := [(5, .int z12), (4, .int v4), (3, .int z10), (6, .int r7), (0, .ref h0), (1, .int x1), (2, .int x2)]) hx hb dX10_textOf_64 hl (k := 6) rfl (by rw [ez12]; rfl) (by decide) rfl (fun ls hl => ?_)
            have tz12 := tn_add ez12 rfl kI_1 (by omega) (by omega)
            refine lv_goto (tgt := 8) hx hb dX10_textOf_67 (by decide) ?_
            exact ih8 ls z10 v4 z12 (lv_sub hl [4, 5, 6, 2, 1, 0] rfl) (by omega) (by omega) (by omega) (by omega) (by omega) (by omega) (by refine ⟨?_, ?_, by omega, by omega⟩; (rw [show z12.toInt.toNat = v5.toInt.toNat + 1 by omega]; show _ = _ + (sumI (fun k => wdI (K t x1.toInt 3) (k : Int)) v5.toInt.toNat + wdI (K t x1.toInt 3) ((v5.toInt.toNat : Nat) : Int)); rw [show ((v5.toInt.toNat : Nat) : Int) = v5.toInt by omega]; split <;> omega); (rw [show z12.toInt.toNat = v5.toInt.toNat + 1 by omega]; show _ = if mxI (fun k => wdI (K t x1.toInt 3) (k : Int)) v5.toInt.toNat < wdI (K t x1.toInt 3) ((v5.toInt.toNat : Nat) : Int) then wdI (K t x1.toInt 3) ((v5.toInt.toNat : Nat) : Int) else mxI (fun k => wdI (K t x1.toInt 3) (k : Int)) v5.toInt.toNat; rw [show ((v5.toInt.toNat : Nat) : Int) = v5.toInt by omega]; split <;> omega)) (by omega)
          · skip
            have ic11 := tn_nle rfl rfl c11
            refine lv_iload hx hb dX10_textOf_55 (lv_at hl 1 rfl) ?_
            refine lv_goto (tgt := 62) hx hb dX10_textOf_57 (by decide) ?_
            refine lv_istore (lv' := [(4, .int r7), (3, .int z10), (6, .int r7), (0, .ref h0), (1, .int x1), (2, .int x2), (5, .int v5)]) hx hb dX10_textOf_62 hl (by decide) rfl (fun ls hl => ?_)
            obtain ⟨z13, ez13⟩ : ∃ y : Int32, y = v5 + (1) := ⟨_, rfl⟩
            refine lv_iinc (v := z13) (lv' := [(5, .int z13), (4, .int r7), (3, .int z10), (6, .int r7), (0, .ref h0), (1, .int x1), (2, .int x2)]) hx hb dX10_textOf_64 hl (k := 6) rfl (by rw [ez13]; rfl) (by decide) rfl (fun ls hl => ?_)
            have tz13 := tn_add ez13 rfl kI_1 (by omega) (by omega)
            refine lv_goto (tgt := 8) hx hb dX10_textOf_67 (by decide) ?_
            exact ih8 ls z10 r7 z13 (lv_sub hl [4, 5, 6, 2, 1, 0] rfl) (by omega) (by omega) (by omega) (by omega) (by omega) (by omega) (by refine ⟨?_, ?_, by omega, by omega⟩; (rw [show z13.toInt.toNat = v5.toInt.toNat + 1 by omega]; show _ = _ + (sumI (fun k => wdI (K t x1.toInt 3) (k : Int)) v5.toInt.toNat + wdI (K t x1.toInt 3) ((v5.toInt.toNat : Nat) : Int)); rw [show ((v5.toInt.toNat : Nat) : Int) = v5.toInt by omega]; split <;> omega); (rw [show z13.toInt.toNat = v5.toInt.toNat + 1 by omega]; show _ = if mxI (fun k => wdI (K t x1.toInt 3) (k : Int)) v5.toInt.toNat < wdI (K t x1.toInt 3) ((v5.toInt.toNat : Nat) : Int) then wdI (K t x1.toInt 3) ((v5.toInt.toNat : Nat) : Int) else mxI (fun k => wdI (K t x1.toInt 3) (k : Int)) v5.toInt.toNat; rw [show ((v5.toInt.toNat : Nat) : Int) = v5.toInt by omega]; split <;> omega)) (by omega)
        · skip
          have ic8 := tn_nle rfl kI_0 c8
          refine lv_iconst (v := 1) hx hb dX10_textOf_40 (by decide) ?_
          refine lv_goto (tgt := 45) hx hb dX10_textOf_41 (by decide) ?_
          refine lv_iadd hx hb dX10_textOf_45 ?_
          refine lv_topi (fun z14 ez14 => ?_)
          have tz14 := tn_add ez14 rfl kI_1 (by omega) (by omega)
          refine lv_iadd hx hb dX10_textOf_46 ?_
          refine lv_topi (fun z15 ez15 => ?_)
          have tz15 := tn_add ez15 rfl rfl (by omega) (by omega)
          refine lv_istore_n (lv' := [(3, .int z15), (6, .int r7), (0, .ref h0), (1, .int x1), (2, .int x2), (4, .int v4), (5, .int v5)]) hx hb dX10_textOf_47 rfl hl (by decide) rfl (fun ls hl => ?_)
          refine lv_iload hx hb dX10_textOf_48 (lv_at hl 1 rfl) ?_
          refine lv_iload hx hb dX10_textOf_50 (lv_at hl 5 rfl) ?_
          refine lv_icmp_le (tgt := 60) hx hb dX10_textOf_52 (by decide) (fun c16 => ?_) (fun c16 => ?_)
          · skip
            have ic16 := tn_le rfl rfl c16
            refine lv_iload hx hb dX10_textOf_60 (lv_at hl 5 rfl) ?_
            refine lv_istore (lv' := [(4, .int v4), (3, .int z15), (6, .int r7), (0, .ref h0), (1, .int x1), (2, .int x2), (5, .int v5)]) hx hb dX10_textOf_62 hl (by decide) rfl (fun ls hl => ?_)
            obtain ⟨z17, ez17⟩ : ∃ y : Int32, y = v5 + (1) := ⟨_, rfl⟩
            refine lv_iinc (v := z17) (lv' := [(5, .int z17), (4, .int v4), (3, .int z15), (6, .int r7), (0, .ref h0), (1, .int x1), (2, .int x2)]) hx hb dX10_textOf_64 hl (k := 6) rfl (by rw [ez17]; rfl) (by decide) rfl (fun ls hl => ?_)
            have tz17 := tn_add ez17 rfl kI_1 (by omega) (by omega)
            refine lv_goto (tgt := 8) hx hb dX10_textOf_67 (by decide) ?_
            exact ih8 ls z15 v4 z17 (lv_sub hl [4, 5, 6, 2, 1, 0] rfl) (by omega) (by omega) (by omega) (by omega) (by omega) (by omega) (by refine ⟨?_, ?_, by omega, by omega⟩; (rw [show z17.toInt.toNat = v5.toInt.toNat + 1 by omega]; show _ = _ + (sumI (fun k => wdI (K t x1.toInt 3) (k : Int)) v5.toInt.toNat + wdI (K t x1.toInt 3) ((v5.toInt.toNat : Nat) : Int)); rw [show ((v5.toInt.toNat : Nat) : Int) = v5.toInt by omega]; split <;> omega); (rw [show z17.toInt.toNat = v5.toInt.toNat + 1 by omega]; show _ = if mxI (fun k => wdI (K t x1.toInt 3) (k : Int)) v5.toInt.toNat < wdI (K t x1.toInt 3) ((v5.toInt.toNat : Nat) : Int) then wdI (K t x1.toInt 3) ((v5.toInt.toNat : Nat) : Int) else mxI (fun k => wdI (K t x1.toInt 3) (k : Int)) v5.toInt.toNat; rw [show ((v5.toInt.toNat : Nat) : Int) = v5.toInt by omega]; split <;> omega)) (by omega)
          · skip
            have ic16 := tn_nle rfl rfl c16
            refine lv_iload hx hb dX10_textOf_55 (lv_at hl 1 rfl) ?_
            refine lv_goto (tgt := 62) hx hb dX10_textOf_57 (by decide) ?_
            refine lv_istore (lv' := [(4, .int r7), (3, .int z15), (6, .int r7), (0, .ref h0), (1, .int x1), (2, .int x2), (5, .int v5)]) hx hb dX10_textOf_62 hl (by decide) rfl (fun ls hl => ?_)
            obtain ⟨z18, ez18⟩ : ∃ y : Int32, y = v5 + (1) := ⟨_, rfl⟩
            refine lv_iinc (v := z18) (lv' := [(5, .int z18), (4, .int r7), (3, .int z15), (6, .int r7), (0, .ref h0), (1, .int x1), (2, .int x2)]) hx hb dX10_textOf_64 hl (k := 6) rfl (by rw [ez18]; rfl) (by decide) rfl (fun ls hl => ?_)
            have tz18 := tn_add ez18 rfl kI_1 (by omega) (by omega)
            refine lv_goto (tgt := 8) hx hb dX10_textOf_67 (by decide) ?_
            exact ih8 ls z15 r7 z18 (lv_sub hl [4, 5, 6, 2, 1, 0] rfl) (by omega) (by omega) (by omega) (by omega) (by omega) (by omega) (by refine ⟨?_, ?_, by omega, by omega⟩; (rw [show z18.toInt.toNat = v5.toInt.toNat + 1 by omega]; show _ = _ + (sumI (fun k => wdI (K t x1.toInt 3) (k : Int)) v5.toInt.toNat + wdI (K t x1.toInt 3) ((v5.toInt.toNat : Nat) : Int)); rw [show ((v5.toInt.toNat : Nat) : Int) = v5.toInt by omega]; split <;> omega); (rw [show z18.toInt.toNat = v5.toInt.toNat + 1 by omega]; show _ = if mxI (fun k => wdI (K t x1.toInt 3) (k : Int)) v5.toInt.toNat < wdI (K t x1.toInt 3) ((v5.toInt.toNat : Nat) : Int) then wdI (K t x1.toInt 3) ((v5.toInt.toNat : Nat) : Int) else mxI (fun k => wdI (K t x1.toInt 3) (k : Int)) v5.toInt.toNat; rw [show ((v5.toInt.toNat : Nat) : Int) = v5.toInt by omega]; split <;> omega)) (by omega)
  refine lv_iconst (v := 0) hx hb dX10_textOf_0 (by decide) ?_
  refine lv_istore_n (lv' := [(3, .int 0), (0, .ref h0), (1, .int x1), (2, .int x2)]) hx hb dX10_textOf_1 rfl hl (by decide) rfl (fun ls hl => ?_)
  refine lv_iconst (v := 0) hx hb dX10_textOf_2 (by decide) ?_
  refine lv_istore (lv' := [(4, .int 0), (3, .int 0), (0, .ref h0), (1, .int x1), (2, .int x2)]) hx hb dX10_textOf_3 hl (by decide) rfl (fun ls hl => ?_)
  refine lv_iconst (v := 0) hx hb dX10_textOf_5 (by decide) ?_
  refine lv_istore (lv' := [(5, .int 0), (4, .int 0), (3, .int 0), (0, .ref h0), (1, .int x1), (2, .int x2)]) hx hb dX10_textOf_6 hl (by decide) rfl (fun ls hl => ?_)
  exact J8 ((99 - (0 : Int32).toInt).toNat + 1) ls (0 : Int32) (0 : Int32) (0 : Int32) (lv_sub hl [3, 4, 5, 2, 1, 0] rfl) (by decide) (by decide) (by decide) (by decide) (by decide) (by decide) (by have k0 := kI_0; refine ⟨?_, ?_, by omega, by omega⟩; (rw [show (0 : Int32).toInt.toNat = 0 from by decide]; show _ = _ + (0 : Int); split <;> omega); (rw [show (0 : Int32).toInt.toNat = 0 from by decide]; exact kI_0)) (Nat.lt_succ_self _)

set_option maxHeartbeats 4000000 in
set_option maxRecDepth 100000 in
theorem q_X10_toldBy (l : Launch) (G : tG) (Y : mY) (h0 : Nat) (x1 : Int32) (x2 : Int32) (x3 : Int32) (t0 : Y.1 h0 = 1) (l1 : 0 ≤ x1.toInt) (u1 : x1.toInt ≤ 23) (l2 : 0 ≤ x2.toInt) (u2 : x2.toInt ≤ 7) (l3 : 0 ≤ x3.toInt) (u3 : x3.toInt ≤ 1) (t : Nat → Int32) (hT : TI Y t) (hI : TInv0 t) : Met l yX10_toldBy (.code yX10_toldBy cX10_toldBy 5 (some .int) :: tWS) (tRm 2 44) (va_Pc [.ref h0, .int x1, .int x2, .int x3] (mPre G Y)) (tQp (fun r => r.toInt = K t (K t x1.toInt (11 + x2.toInt)) (22 + whI (K t x1.toInt 1) x3.toInt))) 0 0 tNo := by
  refine mc_met (by decide) (Nat.le_of_ble_eq_true rfl) ?_
  intro p e s m below meth c E hr hlk hG ls hl
  have hl : lv_has ls 5 [(0, .ref h0), (1, .int x1), (2, .int x2), (3, .int x3)] := hl
  have hx := E.1
  have hb := E.2.1
  obtain ⟨H, eH⟩ : ∃ H, H = s.heap := ⟨_, rfl⟩
  obtain ⟨locs, eL⟩ : ∃ x : List Loc, x = [] := ⟨_, rfl⟩
  have hG : mGH G Y s H locs := by rw [eH, eL]; exact hG
  suffices hW : W p l e (tRm 2 44) s m ([.ref h0, .int x1, .int x2, .int x3] : List Value).toArray below meth c H locs 0 0 (MQ below (tQp (fun r => r.toInt = K t (K t x1.toInt (11 + x2.toInt)) (22 + whI (K t x1.toInt 1) x3.toInt))) ([.ref h0, .int x1, .int x2, .int x3] : List Value).toArray s 0 0 tNo) (F0 m 0 ls []) by subst eH; subst eL; exact hW
  refine lv_aload_n hx hb dX10_toldBy_0 rfl (lv_at hl 0 rfl) ?_
  refine lv_iload_n hx hb dX10_toldBy_1 rfl (lv_at hl 1 rfl) ?_
  refine lv_iconst (v := 1) hx hb dX10_toldBy_2 (by decide) ?_
  refine tc_callp (mc_runV (As := [.int x1, .int 1]) (rest := []) E hG (c_X10_get l G Y h0 x1 (1 : Int32) t0 (by omega) (by omega) (by decide) (by decide)) t0 rfl kv_X10_get ml_X10_91 ⟨rfl, rfl, Nat.le_of_ble_eq_true rfl, Nat.le_of_ble_eq_true rfl⟩ rfl hl.1 rfl (Nat.le_of_ble_eq_true rfl) ⟨Nat.zero_le _, Nat.zero_le _⟩ dX10_toldBy_3) (fun r1 pr1 => ?_)
  replace pr1 : mV Y (ix x1.toInt (1 : Int32).toInt) r1 := pr1
  have pr1 := mV_l pr1 kI_1
  have br1 := mV_1 pr1 (by omega)
  have cr1 := mT pr1 hT (by omega) (by omega) (by decide) (by decide)
  have k2 := kI_1
  refine lv_iconst (v := 5) hx hb dX10_toldBy_6 (by decide) ?_
  refine lv_icmp_ne (tgt := 14) hx hb dX10_toldBy_7 (by decide) (fun c3 => ?_) (fun c3 => ?_)
  · skip
    have ic3 := tn_ne rfl kI_5 c3
    refine lv_iload_n hx hb dX10_toldBy_14 rfl (lv_at hl 3 rfl) ?_
    refine lv_istore (lv' := [(4, .int x3), (0, .ref h0), (1, .int x1), (2, .int x2), (3, .int x3)]) hx hb dX10_toldBy_15 hl (by decide) rfl (fun ls hl => ?_)
    refine lv_aload_n hx hb dX10_toldBy_17 rfl (lv_at hl 1 rfl) ?_
    refine lv_aload_n hx hb dX10_toldBy_18 rfl (lv_at hl 1 rfl) ?_
    refine lv_iload_n hx hb dX10_toldBy_19 rfl (lv_at hl 2 rfl) ?_
    refine lv_iload_n hx hb dX10_toldBy_20 rfl (lv_at hl 3 rfl) ?_
    refine tc_callp (mc_runV (As := [.int x1, .int x2]) (rest := [.ref h0]) E hG (c_X10_childOf l G Y h0 x1 x2 t0 (by omega) (by omega) (by omega) (by omega)) t0 rfl kv_X10_childOf ml_X10_153 ⟨rfl, rfl, Nat.le_of_ble_eq_true rfl, Nat.le_of_ble_eq_true rfl⟩ rfl hl.1 rfl (Nat.le_of_ble_eq_true rfl) ⟨Nat.zero_le _, Nat.zero_le _⟩ dX10_toldBy_21) (fun r4 pr4 => ?_)
    replace pr4 : mV Y (ix x1.toInt (11 + x2.toInt)) r4 := pr4
    have br4 := mV_r 11 18 0 23 pr4 (by omega) (by omega) (by omega) (by decide) (by decide)
    have cr4 := mT pr4 hT (by omega) (by omega) (by omega) (by omega)
    have dr4 := mP11 cr4 hI.z (by omega) (by omega) (by omega)
    refine lv_bipush (v := 22) hx hb dX10_toldBy_24 (by decide) ?_
    refine lv_iload hx hb dX10_toldBy_26 (lv_at hl 0 rfl) ?_
    refine lv_iadd hx hb dX10_toldBy_28 ?_
    refine lv_topi (fun z5 ez5 => ?_)
    have tz5 := tn_add ez5 kI_22 rfl (by omega) (by omega)
    refine tc_callp (mc_runV (As := [.int r4, .int z5]) (rest := []) E hG (c_X10_get l G Y h0 r4 z5 t0 (by omega) (by omega) (by omega) (by omega)) t0 rfl kv_X10_get ml_X10_91 ⟨rfl, rfl, Nat.le_of_ble_eq_true rfl, Nat.le_of_ble_eq_true rfl⟩ rfl hl.1 rfl (Nat.le_of_ble_eq_true rfl) ⟨Nat.zero_le _, Nat.zero_le _⟩ dX10_toldBy_29) (fun r6 pr6 => ?_)
    replace pr6 : mV Y (ix r4.toInt z5.toInt) r6 := pr6
    have hw9 : z5.toInt = 22 + whI (K t x1.toInt 1) x3.toInt := by unfold whI; first | (rw [if_pos (by omega)]; omega) | (rw [if_neg (by omega)]; omega)
    exact tc_pret E hr hlk eH eL rfl (show r6.toInt = K t (K t x1.toInt (11 + x2.toInt)) (22 + whI (K t x1.toInt 1) x3.toInt) by (have h9 := mT pr6 hT (by omega) (by omega) (by omega) (by omega); rw [h9, hw9, cr4])) dX10_toldBy_32
  · skip
    have ic3 := tn_eq rfl kI_5 c3
    refine lv_iconst (v := 0) hx hb dX10_toldBy_10 (by decide) ?_
    refine lv_goto (tgt := 15) hx hb dX10_toldBy_11 (by decide) ?_
    refine lv_istore (lv' := [(4, .int 0), (0, .ref h0), (1, .int x1), (2, .int x2), (3, .int x3)]) hx hb dX10_toldBy_15 hl (by decide) rfl (fun ls hl => ?_)
    refine lv_aload_n hx hb dX10_toldBy_17 rfl (lv_at hl 1 rfl) ?_
    refine lv_aload_n hx hb dX10_toldBy_18 rfl (lv_at hl 1 rfl) ?_
    refine lv_iload_n hx hb dX10_toldBy_19 rfl (lv_at hl 2 rfl) ?_
    refine lv_iload_n hx hb dX10_toldBy_20 rfl (lv_at hl 3 rfl) ?_
    refine tc_callp (mc_runV (As := [.int x1, .int x2]) (rest := [.ref h0]) E hG (c_X10_childOf l G Y h0 x1 x2 t0 (by omega) (by omega) (by omega) (by omega)) t0 rfl kv_X10_childOf ml_X10_153 ⟨rfl, rfl, Nat.le_of_ble_eq_true rfl, Nat.le_of_ble_eq_true rfl⟩ rfl hl.1 rfl (Nat.le_of_ble_eq_true rfl) ⟨Nat.zero_le _, Nat.zero_le _⟩ dX10_toldBy_21) (fun r7 pr7 => ?_)
    replace pr7 : mV Y (ix x1.toInt (11 + x2.toInt)) r7 := pr7
    have br7 := mV_r 11 18 0 23 pr7 (by omega) (by omega) (by omega) (by decide) (by decide)
    have cr7 := mT pr7 hT (by omega) (by omega) (by omega) (by omega)
    have dr7 := mP11 cr7 hI.z (by omega) (by omega) (by omega)
    refine lv_bipush (v := 22) hx hb dX10_toldBy_24 (by decide) ?_
    refine lv_iload hx hb dX10_toldBy_26 (lv_at hl 0 rfl) ?_
    refine lv_iadd hx hb dX10_toldBy_28 ?_
    refine lv_topi (fun z8 ez8 => ?_)
    have tz8 := tn_add ez8 kI_22 kI_0 (by omega) (by omega)
    refine tc_callp (mc_runV (As := [.int r7, .int z8]) (rest := []) E hG (c_X10_get l G Y h0 r7 z8 t0 (by omega) (by omega) (by omega) (by omega)) t0 rfl kv_X10_get ml_X10_91 ⟨rfl, rfl, Nat.le_of_ble_eq_true rfl, Nat.le_of_ble_eq_true rfl⟩ rfl hl.1 rfl (Nat.le_of_ble_eq_true rfl) ⟨Nat.zero_le _, Nat.zero_le _⟩ dX10_toldBy_29) (fun r9 pr9 => ?_)
    replace pr9 : mV Y (ix r7.toInt z8.toInt) r9 := pr9
    have hw9 : z8.toInt = 22 + whI (K t x1.toInt 1) x3.toInt := by unfold whI; first | (rw [if_pos (by omega)]; omega) | (rw [if_neg (by omega)]; omega)
    exact tc_pret E hr hlk eH eL rfl (show r9.toInt = K t (K t x1.toInt (11 + x2.toInt)) (22 + whI (K t x1.toInt 1) x3.toInt) by (have h9 := mT pr9 hT (by omega) (by omega) (by omega) (by omega); rw [h9, hw9, cr7])) dX10_toldBy_32

set_option maxHeartbeats 4000000 in
set_option maxRecDepth 100000 in
theorem q_X10_mostTold (l : Launch) (G : tG) (Y : mY) (h0 : Nat) (x1 : Int32) (x2 : Int32) (t0 : Y.1 h0 = 1) (l1 : 0 ≤ x1.toInt) (u1 : x1.toInt ≤ 23) (l2 : 0 ≤ x2.toInt) (u2 : x2.toInt ≤ 1) (t : Nat → Int32) (hT : TI Y t) (hI : TInv0 t) (hB : ∀ i : Int, 0 ≤ i → i < K t x1.toInt 10 → 0 ≤ K t (K t x1.toInt (11 + i)) (22 + whI (K t x1.toInt 1) x2.toInt) ∧ K t (K t x1.toInt (11 + i)) (22 + whI (K t x1.toInt 1) x2.toInt) ≤ 13600) : Met l yX10_mostTold (.code yX10_mostTold cX10_mostTold 6 (some .int) :: tWS) (tRm 3 68) (va_Pc [.ref h0, .int x1, .int x2] (mPre G Y)) (tQp (fun r => r.toInt = mxI (fun i : Nat => K t (K t x1.toInt (11 + (i : Int))) (22 + whI (K t x1.toInt 1) x2.toInt)) (K t x1.toInt 10).toNat ∧ 0 ≤ r.toInt ∧ r.toInt ≤ 13600)) 0 0 tNo := by
  refine mc_met (by decide) (Nat.le_of_ble_eq_true rfl) ?_
  intro p e s m below meth c E hr hlk hG ls hl
  have hl : lv_has ls 6 [(0, .ref h0), (1, .int x1), (2, .int x2)] := hl
  have hx := E.1
  have hb := E.2.1
  obtain ⟨H, eH⟩ : ∃ H, H = s.heap := ⟨_, rfl⟩
  obtain ⟨locs, eL⟩ : ∃ x : List Loc, x = [] := ⟨_, rfl⟩
  have hG : mGH G Y s H locs := by rw [eH, eL]; exact hG
  suffices hW : W p l e (tRm 3 68) s m ([.ref h0, .int x1, .int x2] : List Value).toArray below meth c H locs 0 0 (MQ below (tQp (fun r => r.toInt = mxI (fun i : Nat => K t (K t x1.toInt (11 + (i : Int))) (22 + whI (K t x1.toInt 1) x2.toInt)) (K t x1.toInt 10).toNat ∧ 0 ≤ r.toInt ∧ r.toInt ≤ 13600)) ([.ref h0, .int x1, .int x2] : List Value).toArray s 0 0 tNo) (F0 m 0 ls []) by subst eH; subst eL; exact hW
  have J5 : ∀ (n5 : Nat) (ls : Array Slot) (v3 : Int32) (v4 : Int32), lv_has ls 6 [(0, .ref h0), (1, .int x1), (2, .int x2), (3, .int v3), (4, .int v4)] → 0 ≤ v3.toInt → v3.toInt ≤ 13600 → 0 ≤ v4.toInt → v4.toInt ≤ 8 → (v3.toInt = mxI (fun i : Nat => K t (K t x1.toInt (11 + (i : Int))) (22 + whI (K t x1.toInt 1) x2.toInt)) v4.toInt.toNat ∧ v4.toInt ≤ K t x1.toInt 10) → (8 - v4.toInt).toNat < n5 → W p l e (tRm 3 68) s m ([.ref h0, .int x1, .int x2] : List Value).toArray below meth c H locs 0 0 (MQ below (tQp (fun r => r.toInt = mxI (fun i : Nat => K t (K t x1.toInt (11 + (i : Int))) (22 + whI (K t x1.toInt 1) x2.toInt)) (K t x1.toInt 10).toNat ∧ 0 ≤ r.toInt ∧ r.toInt ≤ 13600)) ([.ref h0, .int x1, .int x2] : List Value).toArray s 0 0 tNo) (F0 m 5 ls []) := by
    intro n5
    induction n5 with
    | zero => intro ls v3 v4 hl b3 c3 b4 c4 hex5 hn5; exact absurd hn5 (Nat.not_lt_zero _)
    | succ n5 ih5 =>
      intro ls v3 v4 hl b3 c3 b4 c4 hex5 hn5
      refine lv_iload hx hb dX10_mostTold_5 (lv_at hl 4 rfl) ?_
      refine lv_aload_n hx hb dX10_mostTold_7 rfl (lv_at hl 0 rfl) ?_
      refine lv_iload_n hx hb dX10_mostTold_8 rfl (lv_at hl 1 rfl) ?_
      refine tc_callp (mc_runV (As := [.int x1]) (rest := [.int v4]) E hG (c_X10_manyOf l G Y h0 x1 t0 (by omega) (by omega)) t0 rfl kv_X10_manyOf ml_X10_117 ⟨rfl, rfl, Nat.le_of_ble_eq_true rfl, Nat.le_of_ble_eq_true rfl⟩ rfl hl.1 rfl (Nat.le_of_ble_eq_true rfl) ⟨Nat.zero_le _, Nat.zero_le _⟩ dX10_mostTold_9) (fun r1 pr1 => ?_)
      replace pr1 : mV Y (ix x1.toInt 10) r1 := pr1
      have br1 := mV_10 pr1 (by omega)
      have cr1 := mT pr1 hT (by omega) (by omega) (by decide) (by decide)
      refine lv_icmp_ge (tgt := 44) hx hb dX10_mostTold_12 (by decide) (fun c2 => ?_) (fun c2 => ?_)
      · skip
        have ic2 := tn_le rfl rfl c2
        refine lv_iload_n hx hb dX10_mostTold_44 rfl (lv_at hl 3 rfl) ?_
        exact tc_pret E hr hlk eH eL rfl (show v3.toInt = mxI (fun i : Nat => K t (K t x1.toInt (11 + (i : Int))) (22 + whI (K t x1.toInt 1) x2.toInt)) (K t x1.toInt 10).toNat ∧ 0 ≤ v3.toInt ∧ v3.toInt ≤ 13600 by (refine ⟨?_, by omega, by omega⟩; rw [show (K t x1.toInt 10).toNat = v4.toInt.toNat by omega]; exact hex5.1)) dX10_mostTold_45
      · skip
        have ic2 := tn_nle rfl rfl c2
        refine lv_aload_n hx hb dX10_mostTold_15 rfl (lv_at hl 0 rfl) ?_
        refine lv_iload_n hx hb dX10_mostTold_16 rfl (lv_at hl 1 rfl) ?_
        refine lv_iload hx hb dX10_mostTold_17 (lv_at hl 4 rfl) ?_
        refine lv_iload_n hx hb dX10_mostTold_19 rfl (lv_at hl 2 rfl) ?_
        refine tc_callp (mc_runV (As := [.int x1, .int v4, .int x2]) (rest := []) E hG (q_X10_toldBy l G Y h0 x1 v4 x2 t0 (by omega) (by omega) (by omega) (by omega) (by omega) (by omega) t hT hI.z) t0 rfl kv_X10_toldBy ml_X10_177 ⟨rfl, rfl, Nat.le_of_ble_eq_true rfl, Nat.le_of_ble_eq_true rfl⟩ rfl hl.1 rfl (Nat.le_of_ble_eq_true rfl) ⟨Nat.zero_le _, Nat.zero_le _⟩ dX10_mostTold_20) (fun r3 pr3 => ?_)
        replace pr3 : r3.toInt = K t (K t x1.toInt (11 + v4.toInt)) (22 + whI (K t x1.toInt 1) x2.toInt) := pr3
        have br3 : 0 ≤ r3.toInt ∧ r3.toInt ≤ 13600 := by rw [pr3]; exact hB _ (by omega) (by omega)
        refine lv_istore (lv' := [(5, .int r3), (0, .ref h0), (1, .int x1), (2, .int x2), (3, .int v3), (4, .int v4)]) hx hb dX10_mostTold_23 hl (by decide) rfl (fun ls hl => ?_)
        refine lv_iload hx hb dX10_mostTold_25 (lv_at hl 0 rfl) ?_
        refine lv_iload_n hx hb dX10_mostTold_27 rfl (lv_at hl 4 rfl) ?_
        refine lv_icmp_le (tgt := 36) hx hb dX10_mostTold_28 (by decide) (fun c4 => ?_) (fun c4 => ?_)
        · skip
          have ic4 := tn_le rfl rfl c4
          refine lv_iload_n hx hb dX10_mostTold_36 rfl (lv_at hl 4 rfl) ?_
          refine lv_istore_n (lv' := [(3, .int v3), (5, .int r3), (0, .ref h0), (1, .int x1), (2, .int x2), (4, .int v4)]) hx hb dX10_mostTold_37 rfl hl (by decide) rfl (fun ls hl => ?_)
          obtain ⟨z5, ez5⟩ : ∃ y : Int32, y = v4 + (1) := ⟨_, rfl⟩
          refine lv_iinc (v := z5) (lv' := [(4, .int z5), (3, .int v3), (5, .int r3), (0, .ref h0), (1, .int x1), (2, .int x2)]) hx hb dX10_mostTold_38 hl (k := 5) rfl (by rw [ez5]; rfl) (by decide) rfl (fun ls hl => ?_)
          have tz5 := tn_add ez5 rfl kI_1 (by omega) (by omega)
          refine lv_goto (tgt := 5) hx hb dX10_mostTold_41 (by decide) ?_
          exact ih5 ls v3 z5 (lv_sub hl [3, 4, 5, 1, 0] rfl) (by omega) (by omega) (by omega) (by omega) (by refine ⟨?_, by omega⟩; rw [show z5.toInt.toNat = v4.toInt.toNat + 1 by omega]; show _ = if mxI (fun i : Nat => K t (K t x1.toInt (11 + (i : Int))) (22 + whI (K t x1.toInt 1) x2.toInt)) v4.toInt.toNat < K t (K t x1.toInt (11 + ((v4.toInt.toNat : Nat) : Int))) (22 + whI (K t x1.toInt 1) x2.toInt) then K t (K t x1.toInt (11 + ((v4.toInt.toNat : Nat) : Int))) (22 + whI (K t x1.toInt 1) x2.toInt) else mxI (fun i : Nat => K t (K t x1.toInt (11 + (i : Int))) (22 + whI (K t x1.toInt 1) x2.toInt)) v4.toInt.toNat; rw [show ((v4.toInt.toNat : Nat) : Int) = v4.toInt by omega, ← pr3]; split <;> omega) (by omega)
        · skip
          have ic4 := tn_nle rfl rfl c4
          refine lv_iload hx hb dX10_mostTold_31 (lv_at hl 0 rfl) ?_
          refine lv_goto (tgt := 37) hx hb dX10_mostTold_33 (by decide) ?_
          refine lv_istore_n (lv' := [(3, .int r3), (5, .int r3), (0, .ref h0), (1, .int x1), (2, .int x2), (4, .int v4)]) hx hb dX10_mostTold_37 rfl hl (by decide) rfl (fun ls hl => ?_)
          obtain ⟨z6, ez6⟩ : ∃ y : Int32, y = v4 + (1) := ⟨_, rfl⟩
          refine lv_iinc (v := z6) (lv' := [(4, .int z6), (3, .int r3), (5, .int r3), (0, .ref h0), (1, .int x1), (2, .int x2)]) hx hb dX10_mostTold_38 hl (k := 5) rfl (by rw [ez6]; rfl) (by decide) rfl (fun ls hl => ?_)
          have tz6 := tn_add ez6 rfl kI_1 (by omega) (by omega)
          refine lv_goto (tgt := 5) hx hb dX10_mostTold_41 (by decide) ?_
          exact ih5 ls r3 z6 (lv_sub hl [3, 4, 5, 1, 0] rfl) (by omega) (by omega) (by omega) (by omega) (by refine ⟨?_, by omega⟩; rw [show z6.toInt.toNat = v4.toInt.toNat + 1 by omega]; show _ = if mxI (fun i : Nat => K t (K t x1.toInt (11 + (i : Int))) (22 + whI (K t x1.toInt 1) x2.toInt)) v4.toInt.toNat < K t (K t x1.toInt (11 + ((v4.toInt.toNat : Nat) : Int))) (22 + whI (K t x1.toInt 1) x2.toInt) then K t (K t x1.toInt (11 + ((v4.toInt.toNat : Nat) : Int))) (22 + whI (K t x1.toInt 1) x2.toInt) else mxI (fun i : Nat => K t (K t x1.toInt (11 + (i : Int))) (22 + whI (K t x1.toInt 1) x2.toInt)) v4.toInt.toNat; rw [show ((v4.toInt.toNat : Nat) : Int) = v4.toInt by omega, ← pr3]; split <;> omega) (by omega)
  refine lv_iconst (v := 0) hx hb dX10_mostTold_0 (by decide) ?_
  refine lv_istore_n (lv' := [(3, .int 0), (0, .ref h0), (1, .int x1), (2, .int x2)]) hx hb dX10_mostTold_1 rfl hl (by decide) rfl (fun ls hl => ?_)
  refine lv_iconst (v := 0) hx hb dX10_mostTold_2 (by decide) ?_
  refine lv_istore (lv' := [(4, .int 0), (3, .int 0), (0, .ref h0), (1, .int x1), (2, .int x2)]) hx hb dX10_mostTold_3 hl (by decide) rfl (fun ls hl => ?_)
  exact J5 ((8 - (0 : Int32).toInt).toNat + 1) ls (0 : Int32) (0 : Int32) (lv_sub hl [2, 3, 4, 1, 0] rfl) (by decide) (by decide) (by decide) (by decide) (by have k0 := kI_0; have k9 := hI.2.2.2.2.2.2.2.2 x1.toInt (by omega) (by omega); refine ⟨?_, by omega⟩; rw [show (0 : Int32).toInt.toNat = 0 from by decide]; exact kI_0) (Nat.lt_succ_self _)

set_option maxHeartbeats 4000000 in
set_option maxRecDepth 100000 in
theorem q_X10_allTold (l : Launch) (G : tG) (Y : mY) (h0 : Nat) (x1 : Int32) (x2 : Int32) (t0 : Y.1 h0 = 1) (l1 : 0 ≤ x1.toInt) (u1 : x1.toInt ≤ 23) (l2 : 0 ≤ x2.toInt) (u2 : x2.toInt ≤ 1) (t : Nat → Int32) (hT : TI Y t) (hI : TInv0 t) (hB : ∀ i : Int, 0 ≤ i → i < K t x1.toInt 10 → 0 ≤ K t (K t x1.toInt (11 + i)) (22 + whI (K t x1.toInt 1) x2.toInt) ∧ K t (K t x1.toInt (11 + i)) (22 + whI (K t x1.toInt 1) x2.toInt) ≤ 13600) : Met l yX10_allTold (.code yX10_allTold cX10_allTold 7 (some .int) :: tWS) (tRm 3 68) (va_Pc [.ref h0, .int x1, .int x2] (mPre G Y)) (tQp (fun r => r.toInt = gpI (K t x1.toInt 10) (K t x1.toInt 3) + sumI (fun i : Nat => hdI (K t (K t x1.toInt (11 + (i : Int))) (22 + whI (K t x1.toInt 1) x2.toInt)) (K t (K t x1.toInt (11 + (i : Int))) 7) (enI (K t (K t x1.toInt (11 + (i : Int))) 8))) (K t x1.toInt 10).toNat ∧ 0 ≤ r.toInt ∧ r.toInt ≤ 8693)) 0 0 tNo := by
  refine mc_met (by decide) (Nat.le_of_ble_eq_true rfl) ?_
  intro p e s m below meth c E hr hlk hG ls hl
  have hl : lv_has ls 7 [(0, .ref h0), (1, .int x1), (2, .int x2)] := hl
  have hx := E.1
  have hb := E.2.1
  obtain ⟨H, eH⟩ : ∃ H, H = s.heap := ⟨_, rfl⟩
  obtain ⟨locs, eL⟩ : ∃ x : List Loc, x = [] := ⟨_, rfl⟩
  have hG : mGH G Y s H locs := by rw [eH, eL]; exact hG
  suffices hW : W p l e (tRm 3 68) s m ([.ref h0, .int x1, .int x2] : List Value).toArray below meth c H locs 0 0 (MQ below (tQp (fun r => r.toInt = gpI (K t x1.toInt 10) (K t x1.toInt 3) + sumI (fun i : Nat => hdI (K t (K t x1.toInt (11 + (i : Int))) (22 + whI (K t x1.toInt 1) x2.toInt)) (K t (K t x1.toInt (11 + (i : Int))) 7) (enI (K t (K t x1.toInt (11 + (i : Int))) 8))) (K t x1.toInt 10).toNat ∧ 0 ≤ r.toInt ∧ r.toInt ≤ 8693)) ([.ref h0, .int x1, .int x2] : List Value).toArray s 0 0 tNo) (F0 m 0 ls []) by subst eH; subst eL; exact hW
  have J30 : ∀ (n30 : Nat) (ls : Array Slot) (v3 : Int32) (v4 : Int32) (v5 : Int32), lv_has ls 7 [(0, .ref h0), (1, .int x1), (2, .int x2), (3, .int v3), (4, .int v4), (5, .int v5)] → 0 ≤ v3.toInt → v3.toInt ≤ 8 → 0 ≤ v4.toInt → v4.toInt ≤ 8693 → 0 ≤ v5.toInt → v5.toInt ≤ 8 → (v4.toInt = gpI (K t x1.toInt 10) (K t x1.toInt 3) + sumI (fun i : Nat => hdI (K t (K t x1.toInt (11 + (i : Int))) (22 + whI (K t x1.toInt 1) x2.toInt)) (K t (K t x1.toInt (11 + (i : Int))) 7) (enI (K t (K t x1.toInt (11 + (i : Int))) 8))) v5.toInt.toNat ∧ v5.toInt ≤ K t x1.toInt 10 ∧ v3.toInt = K t x1.toInt 10 ∧ v4.toInt ≤ 693 + 1000 * v5.toInt) → (8 - v5.toInt).toNat < n30 → W p l e (tRm 3 68) s m ([.ref h0, .int x1, .int x2] : List Value).toArray below meth c H locs 0 0 (MQ below (tQp (fun r => r.toInt = gpI (K t x1.toInt 10) (K t x1.toInt 3) + sumI (fun i : Nat => hdI (K t (K t x1.toInt (11 + (i : Int))) (22 + whI (K t x1.toInt 1) x2.toInt)) (K t (K t x1.toInt (11 + (i : Int))) 7) (enI (K t (K t x1.toInt (11 + (i : Int))) 8))) (K t x1.toInt 10).toNat ∧ 0 ≤ r.toInt ∧ r.toInt ≤ 8693)) ([.ref h0, .int x1, .int x2] : List Value).toArray s 0 0 tNo) (F0 m 30 ls []) := by
    intro n30
    induction n30 with
    | zero => intro ls v3 v4 v5 hl b3 c3 b4 c4 b5 c5 hex30 hn30; exact absurd hn30 (Nat.not_lt_zero _)
    | succ n30 ih30 =>
      intro ls v3 v4 v5 hl b3 c3 b4 c4 b5 c5 hex30 hn30
      refine lv_iload hx hb dX10_allTold_30 (lv_at hl 5 rfl) ?_
      refine lv_iload_n hx hb dX10_allTold_32 rfl (lv_at hl 3 rfl) ?_
      refine lv_icmp_ge (tgt := 86) hx hb dX10_allTold_33 (by decide) (fun c1 => ?_) (fun c1 => ?_)
      · skip
        have ic1 := tn_le rfl rfl c1
        refine lv_iload hx hb dX10_allTold_86 (lv_at hl 4 rfl) ?_
        exact tc_pret E hr hlk eH eL rfl (show v4.toInt = gpI (K t x1.toInt 10) (K t x1.toInt 3) + sumI (fun i : Nat => hdI (K t (K t x1.toInt (11 + (i : Int))) (22 + whI (K t x1.toInt 1) x2.toInt)) (K t (K t x1.toInt (11 + (i : Int))) 7) (enI (K t (K t x1.toInt (11 + (i : Int))) 8))) (K t x1.toInt 10).toNat ∧ 0 ≤ v4.toInt ∧ v4.toInt ≤ 8693 by (refine ⟨?_, by omega, by omega⟩; rw [show (K t x1.toInt 10).toNat = v5.toInt.toNat by omega]; exact hex30.1)) dX10_allTold_88
      · skip
        have ic1 := tn_nle rfl rfl c1
        refine lv_aload_n hx hb dX10_allTold_36 rfl (lv_at hl 0 rfl) ?_
        refine lv_iload_n hx hb dX10_allTold_37 rfl (lv_at hl 1 rfl) ?_
        refine lv_iload hx hb dX10_allTold_38 (lv_at hl 5 rfl) ?_
        refine tc_callp (mc_runV (As := [.int x1, .int v5]) (rest := []) E hG (c_X10_childOf l G Y h0 x1 v5 t0 (by omega) (by omega) (by omega) (by omega)) t0 rfl kv_X10_childOf ml_X10_153 ⟨rfl, rfl, Nat.le_of_ble_eq_true rfl, Nat.le_of_ble_eq_true rfl⟩ rfl hl.1 rfl (Nat.le_of_ble_eq_true rfl) ⟨Nat.zero_le _, Nat.zero_le _⟩ dX10_allTold_40) (fun r2 pr2 => ?_)
        replace pr2 : mV Y (ix x1.toInt (11 + v5.toInt)) r2 := pr2
        have br2 := mV_r 11 18 0 23 pr2 (by omega) (by omega) (by omega) (by decide) (by decide)
        have cr2 := mT pr2 hT (by omega) (by omega) (by omega) (by omega)
        have dr2 := mP11 cr2 hI.z (by omega) (by omega) (by omega)
        refine lv_istore (lv' := [(6, .int r2), (0, .ref h0), (1, .int x1), (2, .int x2), (3, .int v3), (4, .int v4), (5, .int v5)]) hx hb dX10_allTold_43 hl (by decide) rfl (fun ls hl => ?_)
        refine lv_iload hx hb dX10_allTold_45 (lv_at hl 5 rfl) ?_
        refine lv_aload_n hx hb dX10_allTold_47 rfl (lv_at hl 1 rfl) ?_
        refine lv_iload_n hx hb dX10_allTold_48 rfl (lv_at hl 2 rfl) ?_
        refine lv_iload hx hb dX10_allTold_49 (lv_at hl 6 rfl) ?_
        refine lv_iload_n hx hb dX10_allTold_51 rfl (lv_at hl 3 rfl) ?_
        refine tc_callp (mc_runV (As := [.int x1, .int v5, .int x2]) (rest := [.int v4]) E hG (q_X10_toldBy l G Y h0 x1 v5 x2 t0 (by omega) (by omega) (by omega) (by omega) (by omega) (by omega) t hT hI.z) t0 rfl kv_X10_toldBy ml_X10_177 ⟨rfl, rfl, Nat.le_of_ble_eq_true rfl, Nat.le_of_ble_eq_true rfl⟩ rfl hl.1 rfl (Nat.le_of_ble_eq_true rfl) ⟨Nat.zero_le _, Nat.zero_le _⟩ dX10_allTold_52) (fun r3 pr3 => ?_)
        replace pr3 : r3.toInt = K t (K t x1.toInt (11 + v5.toInt)) (22 + whI (K t x1.toInt 1) x2.toInt) := pr3
        have br3 : 0 ≤ r3.toInt ∧ r3.toInt ≤ 13600 := by rw [pr3]; exact hB _ (by omega) (by omega)
        refine lv_aload_n hx hb dX10_allTold_55 rfl (lv_at hl 1 rfl) ?_
        refine lv_iload hx hb dX10_allTold_56 (lv_at hl 0 rfl) ?_
        refine lv_bipush (v := 7) hx hb dX10_allTold_58 (by decide) ?_
        refine tc_callp (mc_runV (As := [.int r2, .int 7]) (rest := [.int r3, .int v4]) E hG (c_X10_get l G Y h0 r2 (7 : Int32) t0 (by omega) (by omega) (by decide) (by decide)) t0 rfl kv_X10_get ml_X10_91 ⟨rfl, rfl, Nat.le_of_ble_eq_true rfl, Nat.le_of_ble_eq_true rfl⟩ rfl hl.1 rfl (Nat.le_of_ble_eq_true rfl) ⟨Nat.zero_le _, Nat.zero_le _⟩ dX10_allTold_60) (fun r4 pr4 => ?_)
        replace pr4 : mV Y (ix r2.toInt (7 : Int32).toInt) r4 := pr4
        have pr4 := mV_l pr4 kI_7
        have br4 := mV_7 pr4 (by omega)
        have cr4 := mT pr4 hT (by omega) (by omega) (by decide) (by decide)
        have k5 := kI_7
        refine lv_aload_n hx hb dX10_allTold_63 rfl (lv_at hl 1 rfl) ?_
        refine lv_iload hx hb dX10_allTold_64 (lv_at hl 0 rfl) ?_
        refine lv_bipush (v := 8) hx hb dX10_allTold_66 (by decide) ?_
        refine tc_callp (mc_runV (As := [.int r2, .int 8]) (rest := [.int r4, .int r3, .int v4]) E hG (c_X10_get l G Y h0 r2 (8 : Int32) t0 (by omega) (by omega) (by decide) (by decide)) t0 rfl kv_X10_get ml_X10_91 ⟨rfl, rfl, Nat.le_of_ble_eq_true rfl, Nat.le_of_ble_eq_true rfl⟩ rfl hl.1 rfl (Nat.le_of_ble_eq_true rfl) ⟨Nat.zero_le _, Nat.zero_le _⟩ dX10_allTold_68) (fun r6 pr6 => ?_)
        replace pr6 : mV Y (ix r2.toInt (8 : Int32).toInt) r6 := pr6
        have pr6 := mV_l pr6 kI_8
        have br6 := mV_8 pr6 (by omega)
        have cr6 := mT pr6 hT (by omega) (by omega) (by decide) (by decide)
        have k7 := kI_8
        refine tc_callp (mc_runS (As := [.int r6]) (rest := [.int r4, .int r3, .int v4]) E hG (q_X10_ended l G Y r6 (by omega) (by omega)) ks_X10_ended ml_X10_181 ⟨rfl, rfl, Nat.le_of_ble_eq_true rfl, Nat.le_of_ble_eq_true rfl⟩ rfl hl.1 rfl (Nat.le_of_ble_eq_true rfl) ⟨Nat.zero_le _, Nat.zero_le _⟩ dX10_allTold_71) (fun r8 pr8 => ?_)
        replace pr8 : r8.toInt = enI r6.toInt ∧ 0 ≤ r8.toInt ∧ r8.toInt ≤ 1000 := pr8
        refine tc_callp (mc_runS (As := [.int r3, .int r4, .int r8]) (rest := [.int v4]) E hG (q_X10_held l G Y r3 r4 r8 (by omega) (by omega) (by omega) (by omega) (by omega) (by omega)) ks_X10_held ml_X10_184 ⟨rfl, rfl, Nat.le_of_ble_eq_true rfl, Nat.le_of_ble_eq_true rfl⟩ rfl hl.1 rfl (Nat.le_of_ble_eq_true rfl) ⟨Nat.zero_le _, Nat.zero_le _⟩ dX10_allTold_74) (fun r9 pr9 => ?_)
        replace pr9 : r9.toInt = hdI r3.toInt r4.toInt r8.toInt ∧ 0 ≤ r9.toInt ∧ r9.toInt ≤ 1000 := pr9
        refine lv_iadd hx hb dX10_allTold_77 ?_
        refine lv_topi (fun z10 ez10 => ?_)
        have tz10 := tn_add ez10 rfl rfl (by omega) (by omega)
        refine lv_istore (lv' := [(4, .int z10), (6, .int r2), (0, .ref h0), (1, .int x1), (2, .int x2), (3, .int v3), (5, .int v5)]) hx hb dX10_allTold_78 hl (by decide) rfl (fun ls hl => ?_)
        obtain ⟨z11, ez11⟩ : ∃ y : Int32, y = v5 + (1) := ⟨_, rfl⟩
        refine lv_iinc (v := z11) (lv' := [(5, .int z11), (4, .int z10), (6, .int r2), (0, .ref h0), (1, .int x1), (2, .int x2), (3, .int v3)]) hx hb dX10_allTold_80 hl (k := 6) rfl (by rw [ez11]; rfl) (by decide) rfl (fun ls hl => ?_)
        have tz11 := tn_add ez11 rfl kI_1 (by omega) (by omega)
        refine lv_goto (tgt := 30) hx hb dX10_allTold_83 (by decide) ?_
        exact ih30 ls v3 z10 z11 (lv_sub hl [3, 4, 5, 6, 1, 0] rfl) (by omega) (by omega) (by omega) (by omega) (by omega) (by omega) (by refine ⟨?_, by omega, by omega, by omega⟩; rw [show z11.toInt.toNat = v5.toInt.toNat + 1 by omega]; show _ = _ + (sumI (fun i : Nat => hdI (K t (K t x1.toInt (11 + (i : Int))) (22 + whI (K t x1.toInt 1) x2.toInt)) (K t (K t x1.toInt (11 + (i : Int))) 7) (enI (K t (K t x1.toInt (11 + (i : Int))) 8))) v5.toInt.toNat + hdI (K t (K t x1.toInt (11 + ((v5.toInt.toNat : Nat) : Int))) (22 + whI (K t x1.toInt 1) x2.toInt)) (K t (K t x1.toInt (11 + ((v5.toInt.toNat : Nat) : Int))) 7) (enI (K t (K t x1.toInt (11 + ((v5.toInt.toNat : Nat) : Int))) 8))); rw [show ((v5.toInt.toNat : Nat) : Int) = v5.toInt by omega, ← pr3, ← cr2, ← cr4, ← cr6, ← pr8.1, ← pr9.1]; omega) (by omega)
  refine lv_aload_n hx hb dX10_allTold_0 rfl (lv_at hl 0 rfl) ?_
  refine lv_iload_n hx hb dX10_allTold_1 rfl (lv_at hl 1 rfl) ?_
  refine tc_callp (mc_runV (As := [.int x1]) (rest := []) E hG (c_X10_manyOf l G Y h0 x1 t0 (by omega) (by omega)) t0 rfl kv_X10_manyOf ml_X10_117 ⟨rfl, rfl, Nat.le_of_ble_eq_true rfl, Nat.le_of_ble_eq_true rfl⟩ rfl hl.1 rfl (Nat.le_of_ble_eq_true rfl) ⟨Nat.zero_le _, Nat.zero_le _⟩ dX10_allTold_2) (fun r12 pr12 => ?_)
  replace pr12 : mV Y (ix x1.toInt 10) r12 := pr12
  have br12 := mV_10 pr12 (by omega)
  have cr12 := mT pr12 hT (by omega) (by omega) (by decide) (by decide)
  refine lv_istore_n (lv' := [(3, .int r12), (0, .ref h0), (1, .int x1), (2, .int x2)]) hx hb dX10_allTold_5 rfl hl (by decide) rfl (fun ls hl => ?_)
  have hmn := cr12
  refine lv_iload_n hx hb dX10_allTold_6 rfl (lv_at hl 0 rfl) ?_
  refine lv_iconst (v := 1) hx hb dX10_allTold_7 (by decide) ?_
  refine lv_icmp_le (tgt := 24) hx hb dX10_allTold_8 (by decide) (fun c13 => ?_) (fun c13 => ?_)
  · skip
    have ic13 := tn_le rfl kI_1 c13
    refine lv_iconst (v := 0) hx hb dX10_allTold_24 (by decide) ?_
    refine lv_istore (lv' := [(4, .int 0), (3, .int r12), (0, .ref h0), (1, .int x1), (2, .int x2)]) hx hb dX10_allTold_25 hl (by decide) rfl (fun ls hl => ?_)
    refine lv_iconst (v := 0) hx hb dX10_allTold_27 (by decide) ?_
    refine lv_istore (lv' := [(5, .int 0), (4, .int 0), (3, .int r12), (0, .ref h0), (1, .int x1), (2, .int x2)]) hx hb dX10_allTold_28 hl (by decide) rfl (fun ls hl => ?_)
    exact J30 ((8 - (0 : Int32).toInt).toNat + 1) ls r12 (0 : Int32) (0 : Int32) (lv_sub hl [3, 4, 5, 2, 1, 0] rfl) (by omega) (by omega) (by decide) (by decide) (by decide) (by decide) (by have k0 := kI_0; refine ⟨?_, by omega, by omega, by omega⟩; rw [show (0 : Int32).toInt.toNat = 0 from by decide]; show _ = _ + (0 : Int); rw [Int.add_zero]; unfold gpI; rw [if_neg (by omega)]; exact kI_0) (Nat.lt_succ_self _)
  · skip
    have ic13 := tn_nle rfl kI_1 c13
    refine lv_iload_n hx hb dX10_allTold_11 rfl (lv_at hl 0 rfl) ?_
    refine lv_iconst (v := 1) hx hb dX10_allTold_12 (by decide) ?_
    refine lv_isub hx hb dX10_allTold_13 ?_
    refine lv_topi (fun z14 ez14 => ?_)
    have tz14 := tn_sub ez14 rfl kI_1 (by omega) (by omega)
    refine lv_aload_n hx hb dX10_allTold_14 rfl (lv_at hl 1 rfl) ?_
    refine lv_iload_n hx hb dX10_allTold_15 rfl (lv_at hl 2 rfl) ?_
    refine lv_iconst (v := 3) hx hb dX10_allTold_16 (by decide) ?_
    refine tc_callp (mc_runV (As := [.int x1, .int 3]) (rest := [.int z14]) E hG (c_X10_get l G Y h0 x1 (3 : Int32) t0 (by omega) (by omega) (by decide) (by decide)) t0 rfl kv_X10_get ml_X10_91 ⟨rfl, rfl, Nat.le_of_ble_eq_true rfl, Nat.le_of_ble_eq_true rfl⟩ rfl hl.1 rfl (Nat.le_of_ble_eq_true rfl) ⟨Nat.zero_le _, Nat.zero_le _⟩ dX10_allTold_17) (fun r15 pr15 => ?_)
    replace pr15 : mV Y (ix x1.toInt (3 : Int32).toInt) r15 := pr15
    have pr15 := mV_l pr15 kI_3
    have br15 := mV_3 pr15 (by omega)
    have cr15 := mT pr15 hT (by omega) (by omega) (by decide) (by decide)
    have k16 := kI_3
    refine lv_imul hx hb dX10_allTold_20 ?_
    refine lv_topi (fun z17 ez17 => ?_)
    have tz17 := tn_mulb (a := 7) (b := 99) ez17 (by omega) (by omega) (by omega) (by omega) (by decide)
    refine lv_goto (tgt := 25) hx hb dX10_allTold_21 (by decide) ?_
    refine lv_istore (lv' := [(4, .int z17), (3, .int r12), (0, .ref h0), (1, .int x1), (2, .int x2)]) hx hb dX10_allTold_25 hl (by decide) rfl (fun ls hl => ?_)
    refine lv_iconst (v := 0) hx hb dX10_allTold_27 (by decide) ?_
    refine lv_istore (lv' := [(5, .int 0), (4, .int z17), (3, .int r12), (0, .ref h0), (1, .int x1), (2, .int x2)]) hx hb dX10_allTold_28 hl (by decide) rfl (fun ls hl => ?_)
    exact J30 ((8 - (0 : Int32).toInt).toNat + 1) ls r12 z17 (0 : Int32) (lv_sub hl [3, 4, 5, 2, 1, 0] rfl) (by omega) (by omega) (by omega) (by omega) (by decide) (by decide) (by have k0 := kI_0; refine ⟨?_, by omega, by omega, by omega⟩; rw [show (0 : Int32).toInt.toNat = 0 from by decide]; show _ = _ + (0 : Int); rw [Int.add_zero]; unfold gpI; rw [if_pos (by omega), tz17.1, cr15, ← hmn, tz14]) (Nat.lt_succ_self _)

set_option maxHeartbeats 4000000 in
set_option maxRecDepth 100000 in
theorem q_X10_answerOf (l : Launch) (G : tG) (Y : mY) (h0 : Nat) (x1 : Int32) (x2 : Int32) (t0 : Y.1 h0 = 1) (l1 : 0 ≤ x1.toInt) (u1 : x1.toInt ≤ 23) (l2 : 0 ≤ x2.toInt) (u2 : x2.toInt ≤ 1) (t : Nat → Int32) (hT : TI Y t) (hI : TInv0 t) (hB : KN (K t x1.toInt 1) → ∀ i : Int, 0 ≤ i → i < K t x1.toInt 10 → 0 ≤ K t (K t x1.toInt (11 + i)) (22 + whI (K t x1.toInt 1) x2.toInt) ∧ K t (K t x1.toInt (11 + i)) (22 + whI (K t x1.toInt 1) x2.toInt) ≤ 13600) : Met l yX10_answerOf (.code yX10_answerOf cX10_answerOf 3 (some .int) :: tWS) (tRm 4 94) (va_Pc [.ref h0, .int x1, .int x2] (mPre G Y)) (tQp (fun r => r.toInt = anI (K t) x1.toInt x2.toInt (fun i : Nat => K t (K t x1.toInt (11 + (i : Int))) (22 + whI (K t x1.toInt 1) x2.toInt)))) 0 0 tNo := by
  refine mc_met (by decide) (Nat.le_of_ble_eq_true rfl) ?_
  intro p e s m below meth c E hr hlk hG ls hl
  have hl : lv_has ls 3 [(0, .ref h0), (1, .int x1), (2, .int x2)] := hl
  have hx := E.1
  have hb := E.2.1
  obtain ⟨H, eH⟩ : ∃ H, H = s.heap := ⟨_, rfl⟩
  obtain ⟨locs, eL⟩ : ∃ x : List Loc, x = [] := ⟨_, rfl⟩
  have hG : mGH G Y s H locs := by rw [eH, eL]; exact hG
  suffices hW : W p l e (tRm 4 94) s m ([.ref h0, .int x1, .int x2] : List Value).toArray below meth c H locs 0 0 (MQ below (tQp (fun r => r.toInt = anI (K t) x1.toInt x2.toInt (fun i : Nat => K t (K t x1.toInt (11 + (i : Int))) (22 + whI (K t x1.toInt 1) x2.toInt)))) ([.ref h0, .int x1, .int x2] : List Value).toArray s 0 0 tNo) (F0 m 0 ls []) by subst eH; subst eL; exact hW
  refine lv_aload_n hx hb dX10_answerOf_0 rfl (lv_at hl 0 rfl) ?_
  refine lv_iload_n hx hb dX10_answerOf_1 rfl (lv_at hl 1 rfl) ?_
  refine lv_iconst (v := 1) hx hb dX10_answerOf_2 (by decide) ?_
  refine tc_callp (mc_runV (As := [.int x1, .int 1]) (rest := []) E hG (c_X10_get l G Y h0 x1 (1 : Int32) t0 (by omega) (by omega) (by decide) (by decide)) t0 rfl kv_X10_get ml_X10_91 ⟨rfl, rfl, Nat.le_of_ble_eq_true rfl, Nat.le_of_ble_eq_true rfl⟩ rfl hl.1 rfl (Nat.le_of_ble_eq_true rfl) ⟨Nat.zero_le _, Nat.zero_le _⟩ dX10_answerOf_3) (fun r1 pr1 => ?_)
  replace pr1 : mV Y (ix x1.toInt (1 : Int32).toInt) r1 := pr1
  have pr1 := mV_l pr1 kI_1
  have br1 := mV_1 pr1 (by omega)
  have cr1 := mT pr1 hT (by omega) (by omega) (by decide) (by decide)
  have k2 := kI_1
  rcases (show (r1.toInt < 0 ∨ 8 < r1.toInt) ∨ r1.toInt = 0 ∨ r1.toInt = 1 ∨ r1.toInt = 2 ∨ r1.toInt = 3 ∨ r1.toInt = 4 ∨ r1.toInt = 5 ∨ r1.toInt = 6 ∨ r1.toInt = 7 ∨ r1.toInt = 8 by omega) with k3 | k3 | k3 | k3 | k3 | k3 | k3 | k3 | k3 | k3
  · refine lv_tableOut (tgt := 141) hx hb dX10_answerOf_6 k3 (by decide) ?_
    refine lv_aload_n hx hb dX10_answerOf_141 rfl (lv_at hl 0 rfl) ?_
    refine lv_iload_n hx hb dX10_answerOf_142 rfl (lv_at hl 1 rfl) ?_
    refine lv_iload_n hx hb dX10_answerOf_143 rfl (lv_at hl 2 rfl) ?_
    refine tc_callp (mc_runV (As := [.int x1, .int x2]) (rest := []) E hG (q_X10_mostTold l G Y h0 x1 x2 t0 (by omega) (by omega) (by omega) (by omega) t hT hI.z (hB (by unfold KN; omega))) t0 rfl kv_X10_mostTold ml_X10_190 ⟨rfl, rfl, Nat.le_of_ble_eq_true rfl, Nat.le_of_ble_eq_true rfl⟩ rfl hl.1 rfl (Nat.le_of_ble_eq_true rfl) ⟨Nat.zero_le _, Nat.zero_le _⟩ dX10_answerOf_144) (fun r4 pr4 => ?_)
    replace pr4 : r4.toInt = mxI (fun i : Nat => K t (K t x1.toInt (11 + (i : Int))) (22 + whI (K t x1.toInt 1) x2.toInt)) (K t x1.toInt 10).toNat ∧ 0 ≤ r4.toInt ∧ r4.toInt ≤ 13600 := pr4
    exact tc_pret E hr hlk eH eL rfl (show r4.toInt = anI (K t) x1.toInt x2.toInt (fun i : Nat => K t (K t x1.toInt (11 + (i : Int))) (22 + whI (K t x1.toInt 1) x2.toInt)) by (unfold anI; rw [if_neg (by omega), if_neg (by omega), if_neg (by omega), if_neg (by omega), if_neg (by omega), if_neg (by omega)]; exact pr4.1)) dX10_answerOf_147
  · refine lv_tableIn (off := 50) (tgt := 56) hx hb dX10_answerOf_6 (by rw [k3]; decide) (by rw [k3]; decide) (by rw [k3]; rfl) (by decide) ?_
    refine lv_aload_n hx hb dX10_answerOf_56 rfl (lv_at hl 0 rfl) ?_
    refine lv_iload_n hx hb dX10_answerOf_57 rfl (lv_at hl 1 rfl) ?_
    refine lv_iconst (v := 2) hx hb dX10_answerOf_58 (by decide) ?_
    refine tc_callp (mc_runV (As := [.int x1, .int 2]) (rest := []) E hG (c_X10_get l G Y h0 x1 (2 : Int32) t0 (by omega) (by omega) (by decide) (by decide)) t0 rfl kv_X10_get ml_X10_91 ⟨rfl, rfl, Nat.le_of_ble_eq_true rfl, Nat.le_of_ble_eq_true rfl⟩ rfl hl.1 rfl (Nat.le_of_ble_eq_true rfl) ⟨Nat.zero_le _, Nat.zero_le _⟩ dX10_answerOf_59) (fun r5 pr5 => ?_)
    replace pr5 : mV Y (ix x1.toInt (2 : Int32).toInt) r5 := pr5
    have pr5 := mV_l pr5 kI_2
    have br5 := mV_2 pr5 (by omega)
    have cr5 := mT pr5 hT (by omega) (by omega) (by decide) (by decide)
    have k6 := kI_2
    exact tc_pret E hr hlk eH eL rfl (show r5.toInt = anI (K t) x1.toInt x2.toInt (fun i : Nat => K t (K t x1.toInt (11 + (i : Int))) (22 + whI (K t x1.toInt 1) x2.toInt)) by (unfold anI; rw [if_pos (by omega)]; omega)) dX10_answerOf_62
  · refine lv_tableIn (off := 57) (tgt := 63) hx hb dX10_answerOf_6 (by rw [k3]; decide) (by rw [k3]; decide) (by rw [k3]; rfl) (by decide) ?_
    refine lv_aload_n hx hb dX10_answerOf_63 rfl (lv_at hl 0 rfl) ?_
    refine lv_iload_n hx hb dX10_answerOf_64 rfl (lv_at hl 1 rfl) ?_
    refine lv_iload_n hx hb dX10_answerOf_65 rfl (lv_at hl 2 rfl) ?_
    refine tc_callp (mc_runV (As := [.int x1, .int x2]) (rest := []) E hG (q_X10_textOf l G Y h0 x1 x2 t0 (by omega) (by omega) (by omega) (by omega) t hT hI.z) t0 rfl kv_X10_textOf ml_X10_187 ⟨rfl, rfl, Nat.le_of_ble_eq_true rfl, Nat.le_of_ble_eq_true rfl⟩ rfl hl.1 rfl (Nat.le_of_ble_eq_true rfl) ⟨Nat.zero_le _, Nat.zero_le _⟩ dX10_answerOf_66) (fun r7 pr7 => ?_)
    replace pr7 : r7.toInt = txI (K t x1.toInt 2) (K t x1.toInt 3) x2.toInt ∧ 0 ≤ r7.toInt ∧ r7.toInt ≤ 1000 := pr7
    exact tc_pret E hr hlk eH eL rfl (show r7.toInt = anI (K t) x1.toInt x2.toInt (fun i : Nat => K t (K t x1.toInt (11 + (i : Int))) (22 + whI (K t x1.toInt 1) x2.toInt)) by (unfold anI; rw [if_neg (by omega), if_pos (by omega)]; exact pr7.1)) dX10_answerOf_69
  · refine lv_tableIn (off := 64) (tgt := 70) hx hb dX10_answerOf_6 (by rw [k3]; decide) (by rw [k3]; decide) (by rw [k3]; rfl) (by decide) ?_
    refine lv_aload_n hx hb dX10_answerOf_70 rfl (lv_at hl 0 rfl) ?_
    refine lv_iload_n hx hb dX10_answerOf_71 rfl (lv_at hl 1 rfl) ?_
    refine lv_iload_n hx hb dX10_answerOf_72 rfl (lv_at hl 2 rfl) ?_
    refine tc_callp (mc_runV (As := [.int x1, .int x2]) (rest := []) E hG (q_X10_mostTold l G Y h0 x1 x2 t0 (by omega) (by omega) (by omega) (by omega) t hT hI.z (hB (by unfold KN; omega))) t0 rfl kv_X10_mostTold ml_X10_190 ⟨rfl, rfl, Nat.le_of_ble_eq_true rfl, Nat.le_of_ble_eq_true rfl⟩ rfl hl.1 rfl (Nat.le_of_ble_eq_true rfl) ⟨Nat.zero_le _, Nat.zero_le _⟩ dX10_answerOf_73) (fun r8 pr8 => ?_)
    replace pr8 : r8.toInt = mxI (fun i : Nat => K t (K t x1.toInt (11 + (i : Int))) (22 + whI (K t x1.toInt 1) x2.toInt)) (K t x1.toInt 10).toNat ∧ 0 ≤ r8.toInt ∧ r8.toInt ≤ 13600 := pr8
    refine lv_iconst (v := 2) hx hb dX10_answerOf_76 (by decide) ?_
    refine lv_aload_n hx hb dX10_answerOf_77 rfl (lv_at hl 0 rfl) ?_
    refine lv_iload_n hx hb dX10_answerOf_78 rfl (lv_at hl 1 rfl) ?_
    refine lv_iconst (v := 2) hx hb dX10_answerOf_79 (by decide) ?_
    refine tc_callp (mc_runV (As := [.int x1, .int 2]) (rest := [.int 2, .int r8]) E hG (c_X10_get l G Y h0 x1 (2 : Int32) t0 (by omega) (by omega) (by decide) (by decide)) t0 rfl kv_X10_get ml_X10_91 ⟨rfl, rfl, Nat.le_of_ble_eq_true rfl, Nat.le_of_ble_eq_true rfl⟩ rfl hl.1 rfl (Nat.le_of_ble_eq_true rfl) ⟨Nat.zero_le _, Nat.zero_le _⟩ dX10_answerOf_80) (fun r9 pr9 => ?_)
    replace pr9 : mV Y (ix x1.toInt (2 : Int32).toInt) r9 := pr9
    have pr9 := mV_l pr9 kI_2
    have br9 := mV_2 pr9 (by omega)
    have cr9 := mT pr9 hT (by omega) (by omega) (by decide) (by decide)
    have k10 := kI_2
    refine lv_imul hx hb dX10_answerOf_83 ?_
    refine lv_topi (fun z11 ez11 => ?_)
    have tz11 := tn_mul ez11 kI_2 rfl (by omega) (by omega)
    refine lv_iadd hx hb dX10_answerOf_84 ?_
    refine lv_topi (fun z12 ez12 => ?_)
    have tz12 := tn_add ez12 rfl rfl (by omega) (by omega)
    exact tc_pret E hr hlk eH eL rfl (show z12.toInt = anI (K t) x1.toInt x2.toInt (fun i : Nat => K t (K t x1.toInt (11 + (i : Int))) (22 + whI (K t x1.toInt 1) x2.toInt)) by (unfold anI; rw [if_neg (by omega), if_neg (by omega), if_pos (by omega)]; omega)) dX10_answerOf_85
  · refine lv_tableIn (off := 80) (tgt := 86) hx hb dX10_answerOf_6 (by rw [k3]; decide) (by rw [k3]; decide) (by rw [k3]; rfl) (by decide) ?_
    refine lv_aload_n hx hb dX10_answerOf_86 rfl (lv_at hl 0 rfl) ?_
    refine lv_iload_n hx hb dX10_answerOf_87 rfl (lv_at hl 1 rfl) ?_
    refine lv_iload_n hx hb dX10_answerOf_88 rfl (lv_at hl 2 rfl) ?_
    refine tc_callp (mc_runV (As := [.int x1, .int x2]) (rest := []) E hG (q_X10_mostTold l G Y h0 x1 x2 t0 (by omega) (by omega) (by omega) (by omega) t hT hI.z (hB (by unfold KN; omega))) t0 rfl kv_X10_mostTold ml_X10_190 ⟨rfl, rfl, Nat.le_of_ble_eq_true rfl, Nat.le_of_ble_eq_true rfl⟩ rfl hl.1 rfl (Nat.le_of_ble_eq_true rfl) ⟨Nat.zero_le _, Nat.zero_le _⟩ dX10_answerOf_89) (fun r13 pr13 => ?_)
    replace pr13 : r13.toInt = mxI (fun i : Nat => K t (K t x1.toInt (11 + (i : Int))) (22 + whI (K t x1.toInt 1) x2.toInt)) (K t x1.toInt 10).toNat ∧ 0 ≤ r13.toInt ∧ r13.toInt ≤ 13600 := pr13
    refine lv_aload_n hx hb dX10_answerOf_92 rfl (lv_at hl 0 rfl) ?_
    refine lv_iload_n hx hb dX10_answerOf_93 rfl (lv_at hl 1 rfl) ?_
    refine lv_iconst (v := 2) hx hb dX10_answerOf_94 (by decide) ?_
    refine tc_callp (mc_runV (As := [.int x1, .int 2]) (rest := [.int r13]) E hG (c_X10_get l G Y h0 x1 (2 : Int32) t0 (by omega) (by omega) (by decide) (by decide)) t0 rfl kv_X10_get ml_X10_91 ⟨rfl, rfl, Nat.le_of_ble_eq_true rfl, Nat.le_of_ble_eq_true rfl⟩ rfl hl.1 rfl (Nat.le_of_ble_eq_true rfl) ⟨Nat.zero_le _, Nat.zero_le _⟩ dX10_answerOf_95) (fun r14 pr14 => ?_)
    replace pr14 : mV Y (ix x1.toInt (2 : Int32).toInt) r14 := pr14
    have pr14 := mV_l pr14 kI_2
    have br14 := mV_2 pr14 (by omega)
    have cr14 := mT pr14 hT (by omega) (by omega) (by decide) (by decide)
    have k15 := kI_2
    refine lv_aload_n hx hb dX10_answerOf_98 rfl (lv_at hl 0 rfl) ?_
    refine lv_iload_n hx hb dX10_answerOf_99 rfl (lv_at hl 1 rfl) ?_
    refine lv_iconst (v := 3) hx hb dX10_answerOf_100 (by decide) ?_
    refine tc_callp (mc_runV (As := [.int x1, .int 3]) (rest := [.int r14, .int r13]) E hG (c_X10_get l G Y h0 x1 (3 : Int32) t0 (by omega) (by omega) (by decide) (by decide)) t0 rfl kv_X10_get ml_X10_91 ⟨rfl, rfl, Nat.le_of_ble_eq_true rfl, Nat.le_of_ble_eq_true rfl⟩ rfl hl.1 rfl (Nat.le_of_ble_eq_true rfl) ⟨Nat.zero_le _, Nat.zero_le _⟩ dX10_answerOf_101) (fun r16 pr16 => ?_)
    replace pr16 : mV Y (ix x1.toInt (3 : Int32).toInt) r16 := pr16
    have pr16 := mV_l pr16 kI_3
    have br16 := mV_3 pr16 (by omega)
    have cr16 := mT pr16 hT (by omega) (by omega) (by decide) (by decide)
    have k17 := kI_3
    refine tc_callp (mc_runS (As := [.int r16]) (rest := [.int r14, .int r13]) E hG (q_X10_ended l G Y r16 (by omega) (by omega)) ks_X10_ended ml_X10_181 ⟨rfl, rfl, Nat.le_of_ble_eq_true rfl, Nat.le_of_ble_eq_true rfl⟩ rfl hl.1 rfl (Nat.le_of_ble_eq_true rfl) ⟨Nat.zero_le _, Nat.zero_le _⟩ dX10_answerOf_104) (fun r18 pr18 => ?_)
    replace pr18 : r18.toInt = enI r16.toInt ∧ 0 ≤ r18.toInt ∧ r18.toInt ≤ 1000 := pr18
    refine tc_callp (mc_runS (As := [.int r13, .int r14, .int r18]) (rest := []) E hG (q_X10_held l G Y r13 r14 r18 (by omega) (by omega) (by omega) (by omega) (by omega) (by omega)) ks_X10_held ml_X10_184 ⟨rfl, rfl, Nat.le_of_ble_eq_true rfl, Nat.le_of_ble_eq_true rfl⟩ rfl hl.1 rfl (Nat.le_of_ble_eq_true rfl) ⟨Nat.zero_le _, Nat.zero_le _⟩ dX10_answerOf_107) (fun r19 pr19 => ?_)
    replace pr19 : r19.toInt = hdI r13.toInt r14.toInt r18.toInt ∧ 0 ≤ r19.toInt ∧ r19.toInt ≤ 1000 := pr19
    exact tc_pret E hr hlk eH eL rfl (show r19.toInt = anI (K t) x1.toInt x2.toInt (fun i : Nat => K t (K t x1.toInt (11 + (i : Int))) (22 + whI (K t x1.toInt 1) x2.toInt)) by (unfold anI; rw [if_neg (by omega), if_neg (by omega), if_neg (by omega), if_pos (by omega), ← cr14, ← cr16, ← pr18.1, ← pr13.1]; exact pr19.1)) dX10_answerOf_110
  · refine lv_tableIn (off := 135) (tgt := 141) hx hb dX10_answerOf_6 (by rw [k3]; decide) (by rw [k3]; decide) (by rw [k3]; rfl) (by decide) ?_
    refine lv_aload_n hx hb dX10_answerOf_141 rfl (lv_at hl 0 rfl) ?_
    refine lv_iload_n hx hb dX10_answerOf_142 rfl (lv_at hl 1 rfl) ?_
    refine lv_iload_n hx hb dX10_answerOf_143 rfl (lv_at hl 2 rfl) ?_
    refine tc_callp (mc_runV (As := [.int x1, .int x2]) (rest := []) E hG (q_X10_mostTold l G Y h0 x1 x2 t0 (by omega) (by omega) (by omega) (by omega) t hT hI.z (hB (by unfold KN; omega))) t0 rfl kv_X10_mostTold ml_X10_190 ⟨rfl, rfl, Nat.le_of_ble_eq_true rfl, Nat.le_of_ble_eq_true rfl⟩ rfl hl.1 rfl (Nat.le_of_ble_eq_true rfl) ⟨Nat.zero_le _, Nat.zero_le _⟩ dX10_answerOf_144) (fun r20 pr20 => ?_)
    replace pr20 : r20.toInt = mxI (fun i : Nat => K t (K t x1.toInt (11 + (i : Int))) (22 + whI (K t x1.toInt 1) x2.toInt)) (K t x1.toInt 10).toNat ∧ 0 ≤ r20.toInt ∧ r20.toInt ≤ 13600 := pr20
    exact tc_pret E hr hlk eH eL rfl (show r20.toInt = anI (K t) x1.toInt x2.toInt (fun i : Nat => K t (K t x1.toInt (11 + (i : Int))) (22 + whI (K t x1.toInt 1) x2.toInt)) by (unfold anI; rw [if_neg (by omega), if_neg (by omega), if_neg (by omega), if_neg (by omega), if_neg (by omega), if_neg (by omega)]; exact pr20.1)) dX10_answerOf_147
  · refine lv_tableIn (off := 135) (tgt := 141) hx hb dX10_answerOf_6 (by rw [k3]; decide) (by rw [k3]; decide) (by rw [k3]; rfl) (by decide) ?_
    refine lv_aload_n hx hb dX10_answerOf_141 rfl (lv_at hl 0 rfl) ?_
    refine lv_iload_n hx hb dX10_answerOf_142 rfl (lv_at hl 1 rfl) ?_
    refine lv_iload_n hx hb dX10_answerOf_143 rfl (lv_at hl 2 rfl) ?_
    refine tc_callp (mc_runV (As := [.int x1, .int x2]) (rest := []) E hG (q_X10_mostTold l G Y h0 x1 x2 t0 (by omega) (by omega) (by omega) (by omega) t hT hI.z (hB (by unfold KN; omega))) t0 rfl kv_X10_mostTold ml_X10_190 ⟨rfl, rfl, Nat.le_of_ble_eq_true rfl, Nat.le_of_ble_eq_true rfl⟩ rfl hl.1 rfl (Nat.le_of_ble_eq_true rfl) ⟨Nat.zero_le _, Nat.zero_le _⟩ dX10_answerOf_144) (fun r21 pr21 => ?_)
    replace pr21 : r21.toInt = mxI (fun i : Nat => K t (K t x1.toInt (11 + (i : Int))) (22 + whI (K t x1.toInt 1) x2.toInt)) (K t x1.toInt 10).toNat ∧ 0 ≤ r21.toInt ∧ r21.toInt ≤ 13600 := pr21
    exact tc_pret E hr hlk eH eL rfl (show r21.toInt = anI (K t) x1.toInt x2.toInt (fun i : Nat => K t (K t x1.toInt (11 + (i : Int))) (22 + whI (K t x1.toInt 1) x2.toInt)) by (unfold anI; rw [if_neg (by omega), if_neg (by omega), if_neg (by omega), if_neg (by omega), if_neg (by omega), if_neg (by omega)]; exact pr21.1)) dX10_answerOf_147
  · refine lv_tableIn (off := 105) (tgt := 111) hx hb dX10_answerOf_6 (by rw [k3]; decide) (by rw [k3]; decide) (by rw [k3]; rfl) (by decide) ?_
    refine lv_iload_n hx hb dX10_answerOf_111 rfl (lv_at hl 2 rfl) ?_
    refine lv_if_ne (tgt := 127) hx hb dX10_answerOf_112 (by decide) (fun c22 => ?_) (fun c22 => ?_)
    · skip
      have ic22 := tn_ne rfl kI_0 c22
      refine lv_aload_n hx hb dX10_answerOf_127 rfl (lv_at hl 0 rfl) ?_
      refine lv_iload_n hx hb dX10_answerOf_128 rfl (lv_at hl 1 rfl) ?_
      refine lv_iconst (v := 2) hx hb dX10_answerOf_129 (by decide) ?_
      refine tc_callp (mc_runV (As := [.int x1, .int 2]) (rest := []) E hG (c_X10_get l G Y h0 x1 (2 : Int32) t0 (by omega) (by omega) (by decide) (by decide)) t0 rfl kv_X10_get ml_X10_91 ⟨rfl, rfl, Nat.le_of_ble_eq_true rfl, Nat.le_of_ble_eq_true rfl⟩ rfl hl.1 rfl (Nat.le_of_ble_eq_true rfl) ⟨Nat.zero_le _, Nat.zero_le _⟩ dX10_answerOf_130) (fun r23 pr23 => ?_)
      replace pr23 : mV Y (ix x1.toInt (2 : Int32).toInt) r23 := pr23
      have pr23 := mV_l pr23 kI_2
      have br23 := mV_2 pr23 (by omega)
      have cr23 := mT pr23 hT (by omega) (by omega) (by decide) (by decide)
      have k24 := kI_2
      exact tc_pret E hr hlk eH eL rfl (show r23.toInt = anI (K t) x1.toInt x2.toInt (fun i : Nat => K t (K t x1.toInt (11 + (i : Int))) (22 + whI (K t x1.toInt 1) x2.toInt)) by (unfold anI; rw [if_neg (by omega), if_neg (by omega), if_neg (by omega), if_neg (by omega), if_pos (by omega)]; first | (rw [if_pos (by omega)]; omega) | (rw [if_neg (by omega)]; omega))) dX10_answerOf_133
    · skip
      have ic22 := tn_eq rfl kI_0 c22
      refine lv_bipush (v := 10) hx hb dX10_answerOf_115 (by decide) ?_
      refine lv_aload_n hx hb dX10_answerOf_117 rfl (lv_at hl 0 rfl) ?_
      refine lv_iload_n hx hb dX10_answerOf_118 rfl (lv_at hl 1 rfl) ?_
      refine lv_iconst (v := 2) hx hb dX10_answerOf_119 (by decide) ?_
      refine tc_callp (mc_runV (As := [.int x1, .int 2]) (rest := [.int 10]) E hG (c_X10_get l G Y h0 x1 (2 : Int32) t0 (by omega) (by omega) (by decide) (by decide)) t0 rfl kv_X10_get ml_X10_91 ⟨rfl, rfl, Nat.le_of_ble_eq_true rfl, Nat.le_of_ble_eq_true rfl⟩ rfl hl.1 rfl (Nat.le_of_ble_eq_true rfl) ⟨Nat.zero_le _, Nat.zero_le _⟩ dX10_answerOf_120) (fun r25 pr25 => ?_)
      replace pr25 : mV Y (ix x1.toInt (2 : Int32).toInt) r25 := pr25
      have pr25 := mV_l pr25 kI_2
      have br25 := mV_2 pr25 (by omega)
      have cr25 := mT pr25 hT (by omega) (by omega) (by decide) (by decide)
      have k26 := kI_2
      refine lv_imul hx hb dX10_answerOf_123 ?_
      refine lv_topi (fun z27 ez27 => ?_)
      have tz27 := tn_mul ez27 kI_10 rfl (by omega) (by omega)
      refine lv_goto (tgt := 133) hx hb dX10_answerOf_124 (by decide) ?_
      exact tc_pret E hr hlk eH eL rfl (show z27.toInt = anI (K t) x1.toInt x2.toInt (fun i : Nat => K t (K t x1.toInt (11 + (i : Int))) (22 + whI (K t x1.toInt 1) x2.toInt)) by (unfold anI; rw [if_neg (by omega), if_neg (by omega), if_neg (by omega), if_neg (by omega), if_pos (by omega)]; first | (rw [if_pos (by omega)]; omega) | (rw [if_neg (by omega)]; omega))) dX10_answerOf_133
  · refine lv_tableIn (off := 135) (tgt := 141) hx hb dX10_answerOf_6 (by rw [k3]; decide) (by rw [k3]; decide) (by rw [k3]; rfl) (by decide) ?_
    refine lv_aload_n hx hb dX10_answerOf_141 rfl (lv_at hl 0 rfl) ?_
    refine lv_iload_n hx hb dX10_answerOf_142 rfl (lv_at hl 1 rfl) ?_
    refine lv_iload_n hx hb dX10_answerOf_143 rfl (lv_at hl 2 rfl) ?_
    refine tc_callp (mc_runV (As := [.int x1, .int x2]) (rest := []) E hG (q_X10_mostTold l G Y h0 x1 x2 t0 (by omega) (by omega) (by omega) (by omega) t hT hI.z (hB (by unfold KN; omega))) t0 rfl kv_X10_mostTold ml_X10_190 ⟨rfl, rfl, Nat.le_of_ble_eq_true rfl, Nat.le_of_ble_eq_true rfl⟩ rfl hl.1 rfl (Nat.le_of_ble_eq_true rfl) ⟨Nat.zero_le _, Nat.zero_le _⟩ dX10_answerOf_144) (fun r28 pr28 => ?_)
    replace pr28 : r28.toInt = mxI (fun i : Nat => K t (K t x1.toInt (11 + (i : Int))) (22 + whI (K t x1.toInt 1) x2.toInt)) (K t x1.toInt 10).toNat ∧ 0 ≤ r28.toInt ∧ r28.toInt ≤ 13600 := pr28
    exact tc_pret E hr hlk eH eL rfl (show r28.toInt = anI (K t) x1.toInt x2.toInt (fun i : Nat => K t (K t x1.toInt (11 + (i : Int))) (22 + whI (K t x1.toInt 1) x2.toInt)) by (unfold anI; rw [if_neg (by omega), if_neg (by omega), if_neg (by omega), if_neg (by omega), if_neg (by omega), if_neg (by omega)]; exact pr28.1)) dX10_answerOf_147
  · refine lv_tableIn (off := 128) (tgt := 134) hx hb dX10_answerOf_6 (by rw [k3]; decide) (by rw [k3]; decide) (by rw [k3]; rfl) (by decide) ?_
    refine lv_aload_n hx hb dX10_answerOf_134 rfl (lv_at hl 0 rfl) ?_
    refine lv_iload_n hx hb dX10_answerOf_135 rfl (lv_at hl 1 rfl) ?_
    refine lv_iload_n hx hb dX10_answerOf_136 rfl (lv_at hl 2 rfl) ?_
    refine tc_callp (mc_runV (As := [.int x1, .int x2]) (rest := []) E hG (q_X10_allTold l G Y h0 x1 x2 t0 (by omega) (by omega) (by omega) (by omega) t hT hI.z (hB (by unfold KN; omega))) t0 rfl kv_X10_allTold ml_X10_193 ⟨rfl, rfl, Nat.le_of_ble_eq_true rfl, Nat.le_of_ble_eq_true rfl⟩ rfl hl.1 rfl (Nat.le_of_ble_eq_true rfl) ⟨Nat.zero_le _, Nat.zero_le _⟩ dX10_answerOf_137) (fun r29 pr29 => ?_)
    replace pr29 : r29.toInt = gpI (K t x1.toInt 10) (K t x1.toInt 3) + sumI (fun i : Nat => hdI (K t (K t x1.toInt (11 + (i : Int))) (22 + whI (K t x1.toInt 1) x2.toInt)) (K t (K t x1.toInt (11 + (i : Int))) 7) (enI (K t (K t x1.toInt (11 + (i : Int))) 8))) (K t x1.toInt 10).toNat ∧ 0 ≤ r29.toInt ∧ r29.toInt ≤ 8693 := pr29
    exact tc_pret E hr hlk eH eL rfl (show r29.toInt = anI (K t) x1.toInt x2.toInt (fun i : Nat => K t (K t x1.toInt (11 + (i : Int))) (22 + whI (K t x1.toInt 1) x2.toInt)) by (unfold anI; rw [if_neg (by omega), if_neg (by omega), if_neg (by omega), if_neg (by omega), if_neg (by omega), if_pos (by omega)]; exact pr29.1)) dX10_answerOf_140

theorem rmb_of {Y : mY} {t : Nat → Int32} {b w : Int} {me v : Int32} (hT : TI Y t) (h : mV Y (ix b 21) me) (h0 : 0 ≤ b) (h1 : b ≤ 23) (hv : v.toInt = w) (hw0 : 0 ≤ w) (hw1 : w ≤ 1) (hb : ¬ ((me >>> (v &&& 31)) &&& 1).toInt = 0) : rmb t b w := by
  have e : me = t (ix b 21) := h.2.2 _ (hT.2.2 b 21 h0 h1 (by decide) (by decide))
  rw [e] at hb
  unfold rmb bU
  rcases (show w = 0 ∨ w = 1 by omega) with e | e
  · have : v = 0 := Int32.toInt_inj.mp (by rw [hv, e]; decide)
    rw [this] at hb
    exact Or.inl ⟨e, hb⟩
  · have : v = 1 := Int32.toInt_inj.mp (by rw [hv, e]; decide)
    rw [this] at hb
    exact Or.inr ⟨e, hb⟩
set_option maxHeartbeats 4000000 in
set_option maxRecDepth 100000 in
theorem q_X10_untold (l : Launch) (G : tG) (Y : mY) (h0 : Nat) (x1 : Int32) (x2 : Int32) (t0 : Y.1 h0 = 1) (l1 : 0 ≤ x1.toInt) (u1 : x1.toInt ≤ 23) (l2 : 0 ≤ x2.toInt) (u2 : x2.toInt ≤ 1) (t : Nat → Int32) (hT : TI Y t) (hI : TInv0 t) : Met l yX10_untold (.code yX10_untold cX10_untold 6 (some .int) :: tWS) (tRm 2 44) (va_Pc [.ref h0, .int x1, .int x2] (mPre G Y)) (tQp (fun r => (r.toInt = -1 ∧ (K t x1.toInt 1 = 6 ∨ ∀ i : Int, 0 ≤ i → i < K t x1.toInt 10 → rmb t (K t x1.toInt (11 + i)) (whI (K t x1.toInt 1) x2.toInt))) ∨ (x1.toInt < r.toInt ∧ r.toInt ≤ 23 ∧ r.toInt < (t 3).toInt ∧ ∃ me : Int32, mV Y (ix r.toInt 21) me ∧ ((K t x1.toInt 1 = 5 ∧ bU me 0) ∨ (¬ K t x1.toInt 1 = 5 ∧ bU me x2))))) 0 0 tNo := by
  refine mc_met (by decide) (Nat.le_of_ble_eq_true rfl) ?_
  intro p e s m below meth c E hr hlk hG ls hl
  have hl : lv_has ls 6 [(0, .ref h0), (1, .int x1), (2, .int x2)] := hl
  have hx := E.1
  have hb := E.2.1
  obtain ⟨H, eH⟩ : ∃ H, H = s.heap := ⟨_, rfl⟩
  obtain ⟨locs, eL⟩ : ∃ x : List Loc, x = [] := ⟨_, rfl⟩
  have hG : mGH G Y s H locs := by rw [eH, eL]; exact hG
  suffices hW : W p l e (tRm 2 44) s m ([.ref h0, .int x1, .int x2] : List Value).toArray below meth c H locs 0 0 (MQ below (tQp (fun r => (r.toInt = -1 ∧ (K t x1.toInt 1 = 6 ∨ ∀ i : Int, 0 ≤ i → i < K t x1.toInt 10 → rmb t (K t x1.toInt (11 + i)) (whI (K t x1.toInt 1) x2.toInt))) ∨ (x1.toInt < r.toInt ∧ r.toInt ≤ 23 ∧ r.toInt < (t 3).toInt ∧ ∃ me : Int32, mV Y (ix r.toInt 21) me ∧ ((K t x1.toInt 1 = 5 ∧ bU me 0) ∨ (¬ K t x1.toInt 1 = 5 ∧ bU me x2))))) ([.ref h0, .int x1, .int x2] : List Value).toArray s 0 0 tNo) (F0 m 0 ls []) by subst eH; subst eL; exact hW
  have J30 : ∀ (n30 : Nat) (ls : Array Slot) (v4 : Int32) (v5 : Int32), lv_has ls 6 [(0, .ref h0), (1, .int x1), (4, .int v4), (5, .int v5)] → 0 ≤ v4.toInt → v4.toInt ≤ 1 → 0 ≤ v5.toInt → v5.toInt ≤ 8 → (((K t x1.toInt 1 = 5 ∧ v4.toInt = 0) ∨ (¬ K t x1.toInt 1 = 5 ∧ v4.toInt = x2.toInt)) ∧ ∀ i : Int, 0 ≤ i → i < v5.toInt → rmb t (K t x1.toInt (11 + i)) (whI (K t x1.toInt 1) x2.toInt)) → (8 - v5.toInt).toNat < n30 → W p l e (tRm 2 44) s m ([.ref h0, .int x1, .int x2] : List Value).toArray below meth c H locs 0 0 (MQ below (tQp (fun r => (r.toInt = -1 ∧ (K t x1.toInt 1 = 6 ∨ ∀ i : Int, 0 ≤ i → i < K t x1.toInt 10 → rmb t (K t x1.toInt (11 + i)) (whI (K t x1.toInt 1) x2.toInt))) ∨ (x1.toInt < r.toInt ∧ r.toInt ≤ 23 ∧ r.toInt < (t 3).toInt ∧ ∃ me : Int32, mV Y (ix r.toInt 21) me ∧ ((K t x1.toInt 1 = 5 ∧ bU me 0) ∨ (¬ K t x1.toInt 1 = 5 ∧ bU me x2))))) ([.ref h0, .int x1, .int x2] : List Value).toArray s 0 0 tNo) (F0 m 30 ls []) := by
    intro n30
    induction n30 with
    | zero => intro ls v4 v5 hl b4 c4 b5 c5 hex30 hn30; exact absurd hn30 (Nat.not_lt_zero _)
    | succ n30 ih30 =>
      intro ls v4 v5 hl b4 c4 b5 c5 hex30 hn30
      refine lv_iload hx hb dX10_untold_30 (lv_at hl 3 rfl) ?_
      refine lv_aload_n hx hb dX10_untold_32 rfl (lv_at hl 0 rfl) ?_
      refine lv_iload_n hx hb dX10_untold_33 rfl (lv_at hl 1 rfl) ?_
      refine tc_callp (mc_runV (As := [.int x1]) (rest := [.int v5]) E hG (c_X10_manyOf l G Y h0 x1 t0 (by omega) (by omega)) t0 rfl kv_X10_manyOf ml_X10_117 ⟨rfl, rfl, Nat.le_of_ble_eq_true rfl, Nat.le_of_ble_eq_true rfl⟩ rfl hl.1 rfl (Nat.le_of_ble_eq_true rfl) ⟨Nat.zero_le _, Nat.zero_le _⟩ dX10_untold_34) (fun r1 pr1 => ?_)
      replace pr1 : mV Y (ix x1.toInt 10) r1 := pr1
      have br1 := mV_10 pr1 (by omega)
      have cr1 := mT pr1 hT (by omega) (by omega) (by decide) (by decide)
      refine lv_icmp_ge (tgt := 75) hx hb dX10_untold_37 (by decide) (fun c2 => ?_) (fun c2 => ?_)
      · skip
        have ic2 := tn_le rfl rfl c2
        refine lv_iconst (v := -1) hx hb dX10_untold_75 (by decide) ?_
        exact tc_pret E hr hlk eH eL rfl (Or.inl ⟨kI_m1, Or.inr (fun i h0 h1 => hex30.2 i h0 (by omega))⟩) dX10_untold_76
      · skip
        have ic2 := tn_nle rfl rfl c2
        refine lv_aload_n hx hb dX10_untold_40 rfl (lv_at hl 0 rfl) ?_
        refine lv_aload_n hx hb dX10_untold_41 rfl (lv_at hl 0 rfl) ?_
        refine lv_iload_n hx hb dX10_untold_42 rfl (lv_at hl 1 rfl) ?_
        refine lv_iload hx hb dX10_untold_43 (lv_at hl 3 rfl) ?_
        refine tc_callp (mc_runV (As := [.int x1, .int v5]) (rest := [.ref h0]) E hG (c_X10_childOf l G Y h0 x1 v5 t0 (by omega) (by omega) (by omega) (by omega)) t0 rfl kv_X10_childOf ml_X10_153 ⟨rfl, rfl, Nat.le_of_ble_eq_true rfl, Nat.le_of_ble_eq_true rfl⟩ rfl hl.1 rfl (Nat.le_of_ble_eq_true rfl) ⟨Nat.zero_le _, Nat.zero_le _⟩ dX10_untold_45) (fun r3 pr3 => ?_)
        replace pr3 : mV Y (ix x1.toInt (11 + v5.toInt)) r3 := pr3
        have br3 := mV_r 11 18 0 23 pr3 (by omega) (by omega) (by omega) (by decide) (by decide)
        have cr3 := mT pr3 hT (by omega) (by omega) (by omega) (by omega)
        have dr3 := mP11 cr3 hI.z (by omega) (by omega) (by omega)
        refine lv_bipush (v := 21) hx hb dX10_untold_48 (by decide) ?_
        refine tc_callp (mc_runV (As := [.int r3, .int 21]) (rest := []) E hG (c_X10_get l G Y h0 r3 (21 : Int32) t0 (by omega) (by omega) (by decide) (by decide)) t0 rfl kv_X10_get ml_X10_91 ⟨rfl, rfl, Nat.le_of_ble_eq_true rfl, Nat.le_of_ble_eq_true rfl⟩ rfl hl.1 rfl (Nat.le_of_ble_eq_true rfl) ⟨Nat.zero_le _, Nat.zero_le _⟩ dX10_untold_50) (fun r4 pr4 => ?_)
        replace pr4 : mV Y (ix r3.toInt (21 : Int32).toInt) r4 := pr4
        have pr4 := mV_l pr4 kI_21
        have br4 := mV_21 pr4 (by omega)
        have cr4 := mT pr4 hT (by omega) (by omega) (by decide) (by decide)
        have k5 := kI_21
        refine lv_iload hx hb dX10_untold_53 (lv_at hl 2 rfl) ?_
        refine lv_ishr hx hb dX10_untold_55 ?_
        refine lv_topi (fun z6 ez6 => ?_)
        refine lv_iconst (v := 1) hx hb dX10_untold_56 (by decide) ?_
        refine lv_iand hx hb dX10_untold_57 ?_
        refine lv_topi (fun z7 ez7 => ?_)
        refine lv_if_ne (tgt := 69) hx hb dX10_untold_58 (by decide) (fun c8 => ?_) (fun c8 => ?_)
        · skip
          have ic8 := tn_ne rfl kI_0 c8
          obtain ⟨z9, ez9⟩ : ∃ y : Int32, y = v5 + (1) := ⟨_, rfl⟩
          refine lv_iinc (v := z9) (lv' := [(5, .int z9), (0, .ref h0), (1, .int x1), (4, .int v4)]) hx hb dX10_untold_69 hl (k := 3) rfl (by rw [ez9]; rfl) (by decide) rfl (fun ls hl => ?_)
          have tz9 := tn_add ez9 rfl kI_1 (by omega) (by omega)
          refine lv_goto (tgt := 30) hx hb dX10_untold_72 (by decide) ?_
          exact ih30 ls v4 z9 (lv_sub hl [1, 2, 3, 0] rfl) (by omega) (by omega) (by omega) (by omega) (by refine ⟨hex30.1, fun i h0 h1 => ?_⟩; have hv9 : v4.toInt = whI (K t x1.toInt 1) x2.toInt := (by rcases hex30.1 with ⟨w1, w2⟩ | ⟨w1, w2⟩ <;> (unfold whI; first | rw [if_pos w1] | rw [if_neg w1]) <;> omega); by_cases q9 : i = v5.toInt; (rw [q9, ← cr3]; exact rmb_of hT pr4 (by omega) (by omega) hv9 (by omega) (by omega) (by rw [← ez6, ← ez7]; omega)); exact hex30.2 i h0 (by omega)) (by omega)
        · skip
          have ic8 := tn_eq rfl kI_0 c8
          refine lv_aload_n hx hb dX10_untold_61 rfl (lv_at hl 0 rfl) ?_
          refine lv_iload_n hx hb dX10_untold_62 rfl (lv_at hl 1 rfl) ?_
          refine lv_iload hx hb dX10_untold_63 (lv_at hl 3 rfl) ?_
          refine tc_callp (mc_runV (As := [.int x1, .int v5]) (rest := []) E hG (c_X10_childOf l G Y h0 x1 v5 t0 (by omega) (by omega) (by omega) (by omega)) t0 rfl kv_X10_childOf ml_X10_153 ⟨rfl, rfl, Nat.le_of_ble_eq_true rfl, Nat.le_of_ble_eq_true rfl⟩ rfl hl.1 rfl (Nat.le_of_ble_eq_true rfl) ⟨Nat.zero_le _, Nat.zero_le _⟩ dX10_untold_65) (fun r10 pr10 => ?_)
          replace pr10 : mV Y (ix x1.toInt (11 + v5.toInt)) r10 := pr10
          have br10 := mV_r 11 18 0 23 pr10 (by omega) (by omega) (by omega) (by decide) (by decide)
          have cr10 := mT pr10 hT (by omega) (by omega) (by omega) (by omega)
          have dr10 := mP11 cr10 hI.z (by omega) (by omega) (by omega)
          have hz : z7.toInt = 0 := by omega
          exact tc_pret E hr hlk eH eL rfl (Or.inr ((un_fin hex30.1 cr3 cr10 pr4 ez6 ez7 hz (by omega) (by omega)).resolve_left (by omega))) dX10_untold_68
  refine lv_aload_n hx hb dX10_untold_0 rfl (lv_at hl 0 rfl) ?_
  refine lv_iload_n hx hb dX10_untold_1 rfl (lv_at hl 1 rfl) ?_
  refine lv_iconst (v := 1) hx hb dX10_untold_2 (by decide) ?_
  refine tc_callp (mc_runV (As := [.int x1, .int 1]) (rest := []) E hG (c_X10_get l G Y h0 x1 (1 : Int32) t0 (by omega) (by omega) (by decide) (by decide)) t0 rfl kv_X10_get ml_X10_91 ⟨rfl, rfl, Nat.le_of_ble_eq_true rfl, Nat.le_of_ble_eq_true rfl⟩ rfl hl.1 rfl (Nat.le_of_ble_eq_true rfl) ⟨Nat.zero_le _, Nat.zero_le _⟩ dX10_untold_3) (fun r11 pr11 => ?_)
  replace pr11 : mV Y (ix x1.toInt (1 : Int32).toInt) r11 := pr11
  have pr11 := mV_l pr11 kI_1
  have br11 := mV_1 pr11 (by omega)
  have cr11 := mT pr11 hT (by omega) (by omega) (by decide) (by decide)
  have k12 := kI_1
  refine lv_istore_n (lv' := [(3, .int r11), (0, .ref h0), (1, .int x1), (2, .int x2)]) hx hb dX10_untold_6 rfl hl (by decide) rfl (fun ls hl => ?_)
  refine lv_iload_n hx hb dX10_untold_7 rfl (lv_at hl 0 rfl) ?_
  refine lv_iconst (v := 5) hx hb dX10_untold_8 (by decide) ?_
  refine lv_icmp_ne (tgt := 16) hx hb dX10_untold_9 (by decide) (fun c13 => ?_) (fun c13 => ?_)
  · skip
    have ic13 := tn_ne rfl kI_5 c13
    refine lv_iload_n hx hb dX10_untold_16 rfl (lv_at hl 3 rfl) ?_
    refine lv_istore (lv' := [(4, .int x2), (3, .int r11), (0, .ref h0), (1, .int x1), (2, .int x2)]) hx hb dX10_untold_17 hl (by decide) rfl (fun ls hl => ?_)
    refine lv_iload_n hx hb dX10_untold_19 rfl (lv_at hl 1 rfl) ?_
    refine lv_bipush (v := 6) hx hb dX10_untold_20 (by decide) ?_
    refine lv_icmp_ne (tgt := 27) hx hb dX10_untold_22 (by decide) (fun c14 => ?_) (fun c14 => ?_)
    · skip
      have ic14 := tn_ne rfl kI_6 c14
      refine lv_iconst (v := 0) hx hb dX10_untold_27 (by decide) ?_
      refine lv_istore (lv' := [(5, .int 0), (4, .int x2), (3, .int r11), (0, .ref h0), (1, .int x1), (2, .int x2)]) hx hb dX10_untold_28 hl (by decide) rfl (fun ls hl => ?_)
      exact J30 ((8 - (0 : Int32).toInt).toNat + 1) ls x2 (0 : Int32) (lv_sub hl [3, 4, 1, 0] rfl) (by omega) (by omega) (by decide) (by decide) (by have k0 := kI_0; refine ⟨by omega, fun i h0 h1 => ?_⟩; exfalso; omega) (Nat.lt_succ_self _)
    · skip
      have ic14 := tn_eq rfl kI_6 c14
      refine lv_iconst (v := -1) hx hb dX10_untold_25 (by decide) ?_
      exact tc_pret E hr hlk eH eL rfl (Or.inl ⟨kI_m1, Or.inl (by omega)⟩) dX10_untold_26
  · skip
    have ic13 := tn_eq rfl kI_5 c13
    refine lv_iconst (v := 0) hx hb dX10_untold_12 (by decide) ?_
    refine lv_goto (tgt := 17) hx hb dX10_untold_13 (by decide) ?_
    refine lv_istore (lv' := [(4, .int 0), (3, .int r11), (0, .ref h0), (1, .int x1), (2, .int x2)]) hx hb dX10_untold_17 hl (by decide) rfl (fun ls hl => ?_)
    refine lv_iload_n hx hb dX10_untold_19 rfl (lv_at hl 1 rfl) ?_
    refine lv_bipush (v := 6) hx hb dX10_untold_20 (by decide) ?_
    refine lv_icmp_ne (tgt := 27) hx hb dX10_untold_22 (by decide) (fun c15 => ?_) (fun c15 => ?_)
    · skip
      have ic15 := tn_ne rfl kI_6 c15
      refine lv_iconst (v := 0) hx hb dX10_untold_27 (by decide) ?_
      refine lv_istore (lv' := [(5, .int 0), (4, .int 0), (3, .int r11), (0, .ref h0), (1, .int x1), (2, .int x2)]) hx hb dX10_untold_28 hl (by decide) rfl (fun ls hl => ?_)
      exact J30 ((8 - (0 : Int32).toInt).toNat + 1) ls (0 : Int32) (0 : Int32) (lv_sub hl [3, 4, 1, 0] rfl) (by decide) (by decide) (by decide) (by decide) (by have k0 := kI_0; refine ⟨by omega, fun i h0 h1 => ?_⟩; exfalso; omega) (Nat.lt_succ_self _)
    · exfalso
      have ic15 := tn_eq rfl kI_6 c15
      omega

