/-! ===== the reference: along the tree ===== -/
set_option maxHeartbeats 4000000 in
set_option maxRecDepth 100000 in
theorem c_X10_depthOf (l : Launch) (G : tG) (Y : mY) (h0 : Nat) (x1 : Int32) (t0 : Y.1 h0 = 1) (l1 : 0 ≤ x1.toInt) (u1 : x1.toInt ≤ 23) (t : Nat → Int32) (hT : TI Y t) (hI : TInv t) (hc : x1.toInt < (t 3).toInt) : Met l yX10_depthOf (.code yX10_depthOf cX10_depthOf 4 (some .int) :: tWS) (tRm 1 22) (va_Pc [.ref h0, .int x1] (mPre G Y)) (tQp (fun r => True)) 0 0 tNo := by
  refine mc_met (by decide) (Nat.le_of_ble_eq_true rfl) ?_
  intro p e s m below meth c E hr hlk hG ls hl
  have hl : lv_has ls 4 [(0, .ref h0), (1, .int x1)] := hl
  have hx := E.1
  have hb := E.2.1
  obtain ⟨H, eH⟩ : ∃ H, H = s.heap := ⟨_, rfl⟩
  obtain ⟨locs, eL⟩ : ∃ x : List Loc, x = [] := ⟨_, rfl⟩
  have hG : mGH G Y s H locs := by rw [eH, eL]; exact hG
  suffices hW : W p l e (tRm 1 22) s m ([.ref h0, .int x1] : List Value).toArray below meth c H locs 0 0 (MQ below (tQp (fun r => True)) ([.ref h0, .int x1] : List Value).toArray s 0 0 tNo) (F0 m 0 ls []) by subst eH; subst eL; exact hW
  have J10 : ∀ (n10 : Nat) (ls : Array Slot) (v2 : Int32) (v3 : Int32), lv_has ls 4 [(0, .ref h0), (2, .int v2), (3, .int v3)] → -1 ≤ v3.toInt → v3.toInt ≤ 23 → v3.toInt < (t 3).toInt → (v3.toInt + 1).toNat < n10 → W p l e (tRm 1 22) s m ([.ref h0, .int x1] : List Value).toArray below meth c H locs 0 0 (MQ below (tQp (fun r => True)) ([.ref h0, .int x1] : List Value).toArray s 0 0 tNo) (F0 m 10 ls []) := by
    intro n10
    induction n10 with
    | zero => intro ls v2 v3 hl b3 c3 hex10 hn10; exact absurd hn10 (Nat.not_lt_zero _)
    | succ n10 ih10 =>
      intro ls v2 v3 hl b3 c3 hex10 hn10
      refine lv_iload_n hx hb dX10_depthOf_10 rfl (lv_at hl 2 rfl) ?_
      refine lv_if_lt (tgt := 28) hx hb dX10_depthOf_11 (by decide) (fun c1 => ?_) (fun c1 => ?_)
      · skip
        have ic1 := tn_lt rfl kI_0 c1
        refine lv_iload_n hx hb dX10_depthOf_28 rfl (lv_at hl 1 rfl) ?_
        exact tc_pret E hr hlk eH eL rfl trivial dX10_depthOf_29
      · skip
        have ic1 := tn_nlt rfl kI_0 c1
        obtain ⟨z2, ez2⟩ : ∃ y : Int32, y = v2 + (1) := ⟨_, rfl⟩
        refine lv_iinc (v := z2) (lv' := [(2, .int z2), (0, .ref h0), (3, .int v3)]) hx hb dX10_depthOf_14 hl (k := 1) rfl (by rw [ez2]; rfl) (by decide) rfl (fun ls hl => ?_)
        refine lv_aload_n hx hb dX10_depthOf_17 rfl (lv_at hl 1 rfl) ?_
        refine lv_iload_n hx hb dX10_depthOf_18 rfl (lv_at hl 2 rfl) ?_
        refine lv_bipush (v := 9) hx hb dX10_depthOf_19 (by decide) ?_
        refine tc_callp (mc_runV (As := [.int v3, .int 9]) (rest := []) E hG (c_X10_get l G Y h0 v3 (9 : Int32) t0 (by omega) (by omega) (by decide) (by decide)) t0 rfl kv_X10_get ml_X10_91 ⟨rfl, rfl, Nat.le_of_ble_eq_true rfl, Nat.le_of_ble_eq_true rfl⟩ rfl hl.1 rfl (Nat.le_of_ble_eq_true rfl) ⟨Nat.zero_le _, Nat.zero_le _⟩ dX10_depthOf_21) (fun r3 pr3 => ?_)
        have pr3 : mV Y (ix v3.toInt (9 : Int32).toInt) r3 := pr3
        have pr3 := mV_l pr3 kI_9
        have br3 := mV_9 pr3 (by omega)
        have cr3 := mT pr3 hT (by omega) (by omega) (by decide) (by decide)
        have dr3 := mP9 cr3 hI (by omega)
        have k4 := kI_9
        refine lv_istore_n (lv' := [(3, .int r3), (2, .int z2), (0, .ref h0)]) hx hb dX10_depthOf_24 rfl hl (by decide) rfl (fun ls hl => ?_)
        refine lv_goto (tgt := 10) hx hb dX10_depthOf_25 (by decide) ?_
        exact ih10 ls z2 r3 (lv_sub hl [2, 1, 0] rfl) (by omega) (by omega) (by omega) (by omega)
  refine lv_iconst (v := 0) hx hb dX10_depthOf_0 (by decide) ?_
  refine lv_istore_n (lv' := [(2, .int 0), (0, .ref h0), (1, .int x1)]) hx hb dX10_depthOf_1 rfl hl (by decide) rfl (fun ls hl => ?_)
  refine lv_aload_n hx hb dX10_depthOf_2 rfl (lv_at hl 1 rfl) ?_
  refine lv_iload_n hx hb dX10_depthOf_3 rfl (lv_at hl 2 rfl) ?_
  refine lv_bipush (v := 9) hx hb dX10_depthOf_4 (by decide) ?_
  refine tc_callp (mc_runV (As := [.int x1, .int 9]) (rest := []) E hG (c_X10_get l G Y h0 x1 (9 : Int32) t0 (by omega) (by omega) (by decide) (by decide)) t0 rfl kv_X10_get ml_X10_91 ⟨rfl, rfl, Nat.le_of_ble_eq_true rfl, Nat.le_of_ble_eq_true rfl⟩ rfl hl.1 rfl (Nat.le_of_ble_eq_true rfl) ⟨Nat.zero_le _, Nat.zero_le _⟩ dX10_depthOf_6) (fun r5 pr5 => ?_)
  have pr5 : mV Y (ix x1.toInt (9 : Int32).toInt) r5 := pr5
  have pr5 := mV_l pr5 kI_9
  have br5 := mV_9 pr5 (by omega)
  have cr5 := mT pr5 hT (by omega) (by omega) (by decide) (by decide)
  have dr5 := mP9 cr5 hI (by omega)
  have k6 := kI_9
  refine lv_istore_n (lv' := [(3, .int r5), (2, .int 0), (0, .ref h0), (1, .int x1)]) hx hb dX10_depthOf_9 rfl hl (by decide) rfl (fun ls hl => ?_)
  exact J10 ((r5.toInt + 1).toNat + 1) ls (0 : Int32) r5 (lv_sub hl [2, 1, 0] rfl) (by omega) (by omega) (by omega) (Nat.lt_succ_self _)

set_option maxHeartbeats 4000000 in
set_option maxRecDepth 100000 in
theorem c_X10_inTop (l : Launch) (G : tG) (Y : mY) (h0 : Nat) (x1 : Int32) (x2 : Int32) (t0 : Y.1 h0 = 1) (l1 : 0 ≤ x1.toInt) (u1 : x1.toInt ≤ 23) (l2 : 0 ≤ x2.toInt) (u2 : x2.toInt ≤ 37) (t : Nat → Int32) (hT : TI Y t) (hI : TInv t) (hc : x1.toInt < (t 3).toInt) : Met l yX10_inTop (.code yX10_inTop cX10_inTop 5 (some .int) :: tWS) (tRm 1 22) (va_Pc [.ref h0, .int x1, .int x2] (mPre G Y)) (tQp (fun r => True)) 0 0 tNo := by
  refine mc_met (by decide) (Nat.le_of_ble_eq_true rfl) ?_
  intro p e s m below meth c E hr hlk hG ls hl
  have hl : lv_has ls 5 [(0, .ref h0), (1, .int x1), (2, .int x2)] := hl
  have hx := E.1
  have hb := E.2.1
  obtain ⟨H, eH⟩ : ∃ H, H = s.heap := ⟨_, rfl⟩
  obtain ⟨locs, eL⟩ : ∃ x : List Loc, x = [] := ⟨_, rfl⟩
  have hG : mGH G Y s H locs := by rw [eH, eL]; exact hG
  suffices hW : W p l e (tRm 1 22) s m ([.ref h0, .int x1, .int x2] : List Value).toArray below meth c H locs 0 0 (MQ below (tQp (fun r => True)) ([.ref h0, .int x1, .int x2] : List Value).toArray s 0 0 tNo) (F0 m 0 ls []) by subst eH; subst eL; exact hW
  have J5 : ∀ (n5 : Nat) (ls : Array Slot) (v3 : Int32) (v4 : Int32), lv_has ls 5 [(0, .ref h0), (2, .int x2), (3, .int v3), (4, .int v4)] → -1 ≤ v4.toInt → v4.toInt ≤ 23 → v4.toInt < (t 3).toInt → (v4.toInt + 1).toNat < n5 → W p l e (tRm 1 22) s m ([.ref h0, .int x1, .int x2] : List Value).toArray below meth c H locs 0 0 (MQ below (tQp (fun r => True)) ([.ref h0, .int x1, .int x2] : List Value).toArray s 0 0 tNo) (F0 m 5 ls []) := by
    intro n5
    induction n5 with
    | zero => intro ls v3 v4 hl b4 c4 hex5 hn5; exact absurd hn5 (Nat.not_lt_zero _)
    | succ n5 ih5 =>
      intro ls v3 v4 hl b4 c4 hex5 hn5
      refine lv_iload hx hb dX10_inTop_5 (lv_at hl 3 rfl) ?_
      refine lv_if_lt (tgt := 33) hx hb dX10_inTop_7 (by decide) (fun c1 => ?_) (fun c1 => ?_)
      · skip
        have ic1 := tn_lt rfl kI_0 c1
        refine lv_iload_n hx hb dX10_inTop_33 rfl (lv_at hl 2 rfl) ?_
        exact tc_pret E hr hlk eH eL rfl trivial dX10_inTop_34
      · skip
        have ic1 := tn_nlt rfl kI_0 c1
        refine lv_iload_n hx hb dX10_inTop_10 rfl (lv_at hl 2 rfl) ?_
        refine lv_aload_n hx hb dX10_inTop_11 rfl (lv_at hl 0 rfl) ?_
        refine lv_iload hx hb dX10_inTop_12 (lv_at hl 3 rfl) ?_
        refine lv_iload_n hx hb dX10_inTop_14 rfl (lv_at hl 1 rfl) ?_
        refine tc_callp (mc_runV (As := [.int v4, .int x2]) (rest := [.int v3]) E hG (c_X10_get l G Y h0 v4 x2 t0 (by omega) (by omega) (by omega) (by omega)) t0 rfl kv_X10_get ml_X10_91 ⟨rfl, rfl, Nat.le_of_ble_eq_true rfl, Nat.le_of_ble_eq_true rfl⟩ rfl hl.1 rfl (Nat.le_of_ble_eq_true rfl) ⟨Nat.zero_le _, Nat.zero_le _⟩ dX10_inTop_15) (fun r2 pr2 => ?_)
        have pr2 : mV Y (ix v4.toInt x2.toInt) r2 := pr2
        refine lv_iadd hx hb dX10_inTop_18 ?_
        refine lv_topi (fun z3 ez3 => ?_)
        refine lv_istore_n (lv' := [(3, .int z3), (0, .ref h0), (2, .int x2), (4, .int v4)]) hx hb dX10_inTop_19 rfl hl (by decide) rfl (fun ls hl => ?_)
        refine lv_aload_n hx hb dX10_inTop_20 rfl (lv_at hl 1 rfl) ?_
        refine lv_iload hx hb dX10_inTop_21 (lv_at hl 3 rfl) ?_
        refine lv_bipush (v := 9) hx hb dX10_inTop_23 (by decide) ?_
        refine tc_callp (mc_runV (As := [.int v4, .int 9]) (rest := []) E hG (c_X10_get l G Y h0 v4 (9 : Int32) t0 (by omega) (by omega) (by decide) (by decide)) t0 rfl kv_X10_get ml_X10_91 ⟨rfl, rfl, Nat.le_of_ble_eq_true rfl, Nat.le_of_ble_eq_true rfl⟩ rfl hl.1 rfl (Nat.le_of_ble_eq_true rfl) ⟨Nat.zero_le _, Nat.zero_le _⟩ dX10_inTop_25) (fun r4 pr4 => ?_)
        have pr4 : mV Y (ix v4.toInt (9 : Int32).toInt) r4 := pr4
        have pr4 := mV_l pr4 kI_9
        have br4 := mV_9 pr4 (by omega)
        have cr4 := mT pr4 hT (by omega) (by omega) (by decide) (by decide)
        have dr4 := mP9 cr4 hI (by omega)
        have k5 := kI_9
        refine lv_istore (lv' := [(4, .int r4), (3, .int z3), (0, .ref h0), (2, .int x2)]) hx hb dX10_inTop_28 hl (by decide) rfl (fun ls hl => ?_)
        refine lv_goto (tgt := 5) hx hb dX10_inTop_30 (by decide) ?_
        exact ih5 ls z3 r4 (lv_sub hl [2, 3, 1, 0] rfl) (by omega) (by omega) (by omega) (by omega)
  refine lv_iconst (v := 0) hx hb dX10_inTop_0 (by decide) ?_
  refine lv_istore_n (lv' := [(3, .int 0), (0, .ref h0), (1, .int x1), (2, .int x2)]) hx hb dX10_inTop_1 rfl hl (by decide) rfl (fun ls hl => ?_)
  refine lv_iload_n hx hb dX10_inTop_2 rfl (lv_at hl 2 rfl) ?_
  refine lv_istore (lv' := [(4, .int x1), (3, .int 0), (0, .ref h0), (1, .int x1), (2, .int x2)]) hx hb dX10_inTop_3 hl (by decide) rfl (fun ls hl => ?_)
  exact J5 ((x1.toInt + 1).toNat + 1) ls (0 : Int32) x1 (lv_sub hl [2, 4, 1, 0] rfl) (by omega) (by omega) (by omega) (Nat.lt_succ_self _)

set_option maxHeartbeats 4000000 in
set_option maxRecDepth 100000 in
theorem c_X10_isIn (l : Launch) (G : tG) (Y : mY) (h0 : Nat) (x1 : Int32) (x2 : Int32) (t0 : Y.1 h0 = 1) (l1 : 0 ≤ x1.toInt) (u1 : x1.toInt ≤ 23) (t : Nat → Int32) (hT : TI Y t) (hI : TInv t) (hc : x1.toInt < (t 3).toInt) : Met l yX10_isIn (.code yX10_isIn cX10_isIn 4 (some .boolean) :: tWS) (tRm 1 22) (va_Pc [.ref h0, .int x1, .int x2] (mPre G Y)) (tQp (fun r => (0 ≤ r.toInt ∧ r.toInt ≤ 1) ∧ (¬ x1.toInt = x2.toInt ∨ r.toInt = 1))) 0 0 tNo := by
  refine mc_met (by decide) (Nat.le_of_ble_eq_true rfl) ?_
  intro p e s m below meth c E hr hlk hG ls hl
  have hl : lv_has ls 4 [(0, .ref h0), (1, .int x1), (2, .int x2)] := hl
  have hx := E.1
  have hb := E.2.1
  obtain ⟨H, eH⟩ : ∃ H, H = s.heap := ⟨_, rfl⟩
  obtain ⟨locs, eL⟩ : ∃ x : List Loc, x = [] := ⟨_, rfl⟩
  have hG : mGH G Y s H locs := by rw [eH, eL]; exact hG
  suffices hW : W p l e (tRm 1 22) s m ([.ref h0, .int x1, .int x2] : List Value).toArray below meth c H locs 0 0 (MQ below (tQp (fun r => (0 ≤ r.toInt ∧ r.toInt ≤ 1) ∧ (¬ x1.toInt = x2.toInt ∨ r.toInt = 1))) ([.ref h0, .int x1, .int x2] : List Value).toArray s 0 0 tNo) (F0 m 0 ls []) by subst eH; subst eL; exact hW
  have J2 : ∀ (n2 : Nat) (ls : Array Slot) (v3 : Int32), lv_has ls 4 [(0, .ref h0), (2, .int x2), (3, .int v3)] → -1 ≤ v3.toInt → v3.toInt ≤ 23 → (v3.toInt < (t 3).toInt ∧ (¬ x1.toInt = x2.toInt ∨ v3.toInt = x1.toInt)) → (v3.toInt + 1).toNat < n2 → W p l e (tRm 1 22) s m ([.ref h0, .int x1, .int x2] : List Value).toArray below meth c H locs 0 0 (MQ below (tQp (fun r => (0 ≤ r.toInt ∧ r.toInt ≤ 1) ∧ (¬ x1.toInt = x2.toInt ∨ r.toInt = 1))) ([.ref h0, .int x1, .int x2] : List Value).toArray s 0 0 tNo) (F0 m 2 ls []) := by
    intro n2
    induction n2 with
    | zero => intro ls v3 hl b3 c3 hex2 hn2; exact absurd hn2 (Nat.not_lt_zero _)
    | succ n2 ih2 =>
      intro ls v3 hl b3 c3 hex2 hn2
      refine lv_iload_n hx hb dX10_isIn_2 rfl (lv_at hl 2 rfl) ?_
      refine lv_if_lt (tgt := 22) hx hb dX10_isIn_3 (by decide) (fun c1 => ?_) (fun c1 => ?_)
      · skip
        have ic1 := tn_lt rfl kI_0 c1
        refine lv_iload_n hx hb dX10_isIn_22 rfl (lv_at hl 2 rfl) ?_
        refine lv_iload_n hx hb dX10_isIn_23 rfl (lv_at hl 1 rfl) ?_
        refine lv_icmp_ne (tgt := 31) hx hb dX10_isIn_24 (by decide) (fun c2 => ?_) (fun c2 => ?_)
        · skip
          have ic2 := tn_ne rfl rfl c2
          refine lv_iconst (v := 0) hx hb dX10_isIn_31 (by decide) ?_
          exact tc_pret E hr hlk eH eL (t_nz (by decide) (by decide)).1 (show (0 ≤ (0 : Int32).toInt ∧ (0 : Int32).toInt ≤ 1) ∧ (¬ x1.toInt = x2.toInt ∨ (0 : Int32).toInt = 1) by have kk := kI_0; omega) dX10_isIn_32
        · skip
          have ic2 := tn_eq rfl rfl c2
          refine lv_iconst (v := 1) hx hb dX10_isIn_27 (by decide) ?_
          refine lv_goto (tgt := 32) hx hb dX10_isIn_28 (by decide) ?_
          exact tc_pret E hr hlk eH eL (t_nz (by decide) (by decide)).1 (show (0 ≤ (1 : Int32).toInt ∧ (1 : Int32).toInt ≤ 1) ∧ (¬ x1.toInt = x2.toInt ∨ (1 : Int32).toInt = 1) by have kk := kI_1; omega) dX10_isIn_32
      · skip
        have ic1 := tn_nlt rfl kI_0 c1
        refine lv_iload_n hx hb dX10_isIn_6 rfl (lv_at hl 2 rfl) ?_
        refine lv_iload_n hx hb dX10_isIn_7 rfl (lv_at hl 1 rfl) ?_
        refine lv_icmp_eq (tgt := 22) hx hb dX10_isIn_8 (by decide) (fun c3 => ?_) (fun c3 => ?_)
        · skip
          have ic3 := tn_eq rfl rfl c3
          refine lv_iload_n hx hb dX10_isIn_22 rfl (lv_at hl 2 rfl) ?_
          refine lv_iload_n hx hb dX10_isIn_23 rfl (lv_at hl 1 rfl) ?_
          refine lv_icmp_ne (tgt := 31) hx hb dX10_isIn_24 (by decide) (fun c4 => ?_) (fun c4 => ?_)
          · skip
            have ic4 := tn_ne rfl rfl c4
            refine lv_iconst (v := 0) hx hb dX10_isIn_31 (by decide) ?_
            exact tc_pret E hr hlk eH eL (t_nz (by decide) (by decide)).1 (show (0 ≤ (0 : Int32).toInt ∧ (0 : Int32).toInt ≤ 1) ∧ (¬ x1.toInt = x2.toInt ∨ (0 : Int32).toInt = 1) by have kk := kI_0; omega) dX10_isIn_32
          · skip
            have ic4 := tn_eq rfl rfl c4
            refine lv_iconst (v := 1) hx hb dX10_isIn_27 (by decide) ?_
            refine lv_goto (tgt := 32) hx hb dX10_isIn_28 (by decide) ?_
            exact tc_pret E hr hlk eH eL (t_nz (by decide) (by decide)).1 (show (0 ≤ (1 : Int32).toInt ∧ (1 : Int32).toInt ≤ 1) ∧ (¬ x1.toInt = x2.toInt ∨ (1 : Int32).toInt = 1) by have kk := kI_1; omega) dX10_isIn_32
        · skip
          have ic3 := tn_ne rfl rfl c3
          refine lv_aload_n hx hb dX10_isIn_11 rfl (lv_at hl 0 rfl) ?_
          refine lv_iload_n hx hb dX10_isIn_12 rfl (lv_at hl 2 rfl) ?_
          refine lv_bipush (v := 9) hx hb dX10_isIn_13 (by decide) ?_
          refine tc_callp (mc_runV (As := [.int v3, .int 9]) (rest := []) E hG (c_X10_get l G Y h0 v3 (9 : Int32) t0 (by omega) (by omega) (by decide) (by decide)) t0 rfl kv_X10_get ml_X10_91 ⟨rfl, rfl, Nat.le_of_ble_eq_true rfl, Nat.le_of_ble_eq_true rfl⟩ rfl hl.1 rfl (Nat.le_of_ble_eq_true rfl) ⟨Nat.zero_le _, Nat.zero_le _⟩ dX10_isIn_15) (fun r5 pr5 => ?_)
          have pr5 : mV Y (ix v3.toInt (9 : Int32).toInt) r5 := pr5
          have pr5 := mV_l pr5 kI_9
          have br5 := mV_9 pr5 (by omega)
          have cr5 := mT pr5 hT (by omega) (by omega) (by decide) (by decide)
          have dr5 := mP9 cr5 hI (by omega)
          have k6 := kI_9
          refine lv_istore_n (lv' := [(3, .int r5), (0, .ref h0), (2, .int x2)]) hx hb dX10_isIn_18 rfl hl (by decide) rfl (fun ls hl => ?_)
          refine lv_goto (tgt := 2) hx hb dX10_isIn_19 (by decide) ?_
          exact ih2 ls r5 (lv_sub hl [1, 2, 0] rfl) (by omega) (by omega) (by omega) (by omega)
  refine lv_iload_n hx hb dX10_isIn_0 rfl (lv_at hl 1 rfl) ?_
  refine lv_istore_n (lv' := [(3, .int x1), (0, .ref h0), (1, .int x1), (2, .int x2)]) hx hb dX10_isIn_1 rfl hl (by decide) rfl (fun ls hl => ?_)
  exact J2 ((x1.toInt + 1).toNat + 1) ls x1 (lv_sub hl [1, 3, 0] rfl) (by omega) (by omega) (by omega) (Nat.lt_succ_self _)

set_option maxHeartbeats 4000000 in
set_option maxRecDepth 100000 in
theorem c_X10_nextListed (l : Launch) (G : tG) (Y : mY) (h0 : Nat) (t0 : Y.1 h0 = 1) (t : Nat → Int32) (hT : TI Y t) (hI : TInv t) : Met l yX10_nextListed (.code yX10_nextListed cX10_nextListed 4 (some .int) :: tWS) (tRm 2 46) (va_Pc [.ref h0] (mPre G Y)) (tQp (fun r => r.toInt = -1 ∨ (0 ≤ r.toInt ∧ r.toInt ≤ 23 ∧ K t r.toInt 0 = 1 ∧ K t r.toInt 20 = 1))) 0 0 tNo := by
  refine mc_met (by decide) (Nat.le_of_ble_eq_true rfl) ?_
  intro p e s m below meth c E hr hlk hG ls hl
  have hl : lv_has ls 4 [(0, .ref h0)] := hl
  have hx := E.1
  have hb := E.2.1
  obtain ⟨H, eH⟩ : ∃ H, H = s.heap := ⟨_, rfl⟩
  obtain ⟨locs, eL⟩ : ∃ x : List Loc, x = [] := ⟨_, rfl⟩
  have hG : mGH G Y s H locs := by rw [eH, eL]; exact hG
  suffices hW : W p l e (tRm 2 46) s m ([.ref h0] : List Value).toArray below meth c H locs 0 0 (MQ below (tQp (fun r => r.toInt = -1 ∨ (0 ≤ r.toInt ∧ r.toInt ≤ 23 ∧ K t r.toInt 0 = 1 ∧ K t r.toInt 20 = 1))) ([.ref h0] : List Value).toArray s 0 0 tNo) (F0 m 0 ls []) by subst eH; subst eL; exact hW
  have J7 : ∀ (n7 : Nat) (ls : Array Slot) (v1 : Int32) (v2 : Int32) (v3 : Int32), lv_has ls 4 [(0, .ref h0), (1, .int v1), (2, .int v2), (3, .int v3)] → -1 ≤ v1.toInt → 0 ≤ v3.toInt → v3.toInt ≤ 24 → (v1.toInt = -1 ∨ (0 ≤ v1.toInt ∧ v1.toInt ≤ 23 ∧ K t v1.toInt 0 = 1 ∧ K t v1.toInt 20 = 1)) → (24 - v3.toInt).toNat < n7 → W p l e (tRm 2 46) s m ([.ref h0] : List Value).toArray below meth c H locs 0 0 (MQ below (tQp (fun r => r.toInt = -1 ∨ (0 ≤ r.toInt ∧ r.toInt ≤ 23 ∧ K t r.toInt 0 = 1 ∧ K t r.toInt 20 = 1))) ([.ref h0] : List Value).toArray s 0 0 tNo) (F0 m 7 ls []) := by
    intro n7
    induction n7 with
    | zero => intro ls v1 v2 v3 hl b1 b3 c3 hex7 hn7; exact absurd hn7 (Nat.not_lt_zero _)
    | succ n7 ih7 =>
      intro ls v1 v2 v3 hl b1 b3 c3 hex7 hn7
      have J49 : ∀ (ls : Array Slot) (v1 : Int32) (v2 : Int32) (v3 : Int32), lv_has ls 4 [(0, .ref h0), (1, .int v1), (2, .int v2), (3, .int v3)] → -1 ≤ v1.toInt → 0 ≤ v3.toInt → v3.toInt ≤ 23 → (24 - v3.toInt).toNat < n7 + 1 → (v1.toInt = -1 ∨ (0 ≤ v1.toInt ∧ v1.toInt ≤ 23 ∧ K t v1.toInt 0 = 1 ∧ K t v1.toInt 20 = 1)) → W p l e (tRm 2 46) s m ([.ref h0] : List Value).toArray below meth c H locs 0 0 (MQ below (tQp (fun r => r.toInt = -1 ∨ (0 ≤ r.toInt ∧ r.toInt ≤ 23 ∧ K t r.toInt 0 = 1 ∧ K t r.toInt 20 = 1))) ([.ref h0] : List Value).toArray s 0 0 tNo) (F0 m 49 ls []) := by
        intro ls v1 v2 v3 hl b1 b3 c3 hm7 hex49
        obtain ⟨z1, ez1⟩ : ∃ y : Int32, y = v3 + (1) := ⟨_, rfl⟩
        refine lv_iinc (v := z1) (lv' := [(3, .int z1), (0, .ref h0), (1, .int v1), (2, .int v2)]) hx hb dX10_nextListed_49 hl (k := 3) rfl (by rw [ez1]; rfl) (by decide) rfl (fun ls hl => ?_)
        have tz1 := tn_add ez1 rfl kI_1 (by omega) (by omega)
        refine lv_goto (tgt := 7) hx hb dX10_nextListed_52 (by decide) ?_
        exact ih7 ls v1 v2 z1 (lv_sub hl [1, 2, 3, 0] rfl) (by omega) (by omega) (by omega) (by first | omega | exact Or.inl (by decide)) (by omega)
      refine lv_iload_n hx hb dX10_nextListed_7 rfl (lv_at hl 3 rfl) ?_
      refine lv_bipush (v := 24) hx hb dX10_nextListed_8 (by decide) ?_
      refine lv_icmp_ge (tgt := 55) hx hb dX10_nextListed_10 (by decide) (fun c2 => ?_) (fun c2 => ?_)
      · skip
        have ic2 := tn_le kI_24 rfl c2
        refine lv_iload_n hx hb dX10_nextListed_55 rfl (lv_at hl 1 rfl) ?_
        exact tc_pret E hr hlk eH eL rfl (show v1.toInt = -1 ∨ (0 ≤ v1.toInt ∧ v1.toInt ≤ 23 ∧ K t v1.toInt 0 = 1 ∧ K t v1.toInt 20 = 1) by omega) dX10_nextListed_56
      · skip
        have ic2 := tn_nle kI_24 rfl c2
        refine lv_aload_n hx hb dX10_nextListed_13 rfl (lv_at hl 0 rfl) ?_
        refine lv_iload_n hx hb dX10_nextListed_14 rfl (lv_at hl 3 rfl) ?_
        refine tc_callp (mc_runV (As := [.int v3]) (rest := []) E hG (c_X10_isBox l G Y h0 v3 t0) t0 rfl kv_X10_isBox ml_X10_127 ⟨rfl, rfl, Nat.le_of_ble_eq_true rfl, Nat.le_of_ble_eq_true rfl⟩ rfl hl.1 rfl (Nat.le_of_ble_eq_true rfl) ⟨Nat.zero_le _, Nat.zero_le _⟩ dX10_nextListed_15) (fun r3 pr3 => ?_)
        have pr3 : (r3.toInt = 1 ∧ 0 ≤ v3.toInt ∧ v3.toInt ≤ 23 ∧ mV Y (ix v3.toInt 0) 1) ∨ (r3.toInt = 0 ∧ (v3.toInt < 0 ∨ 23 < v3.toInt ∨ ∃ v : Int32, ¬ v.toInt = 1 ∧ mV Y (ix v3.toInt 0) v)) := pr3
        have cr3 := mB pr3 hT hI
        refine lv_if_eq (tgt := 49) hx hb dX10_nextListed_18 (by decide) (fun c4 => ?_) (fun c4 => ?_)
        · skip
          have ic4 := tn_eq rfl kI_0 c4
          exact J49 ls v1 v2 v3 (lv_sub hl [0, 1, 2, 3] rfl) (by omega) (by omega) (by omega) (by omega) (by omega)
        · skip
          have ic4 := tn_ne rfl kI_0 c4
          refine lv_aload_n hx hb dX10_nextListed_21 rfl (lv_at hl 0 rfl) ?_
          refine lv_iload_n hx hb dX10_nextListed_22 rfl (lv_at hl 3 rfl) ?_
          refine lv_bipush (v := 20) hx hb dX10_nextListed_23 (by decide) ?_
          refine tc_callp (mc_runV (As := [.int v3, .int 20]) (rest := []) E hG (c_X10_get l G Y h0 v3 (20 : Int32) t0 (by omega) (by omega) (by decide) (by decide)) t0 rfl kv_X10_get ml_X10_91 ⟨rfl, rfl, Nat.le_of_ble_eq_true rfl, Nat.le_of_ble_eq_true rfl⟩ rfl hl.1 rfl (Nat.le_of_ble_eq_true rfl) ⟨Nat.zero_le _, Nat.zero_le _⟩ dX10_nextListed_25) (fun r5 pr5 => ?_)
          have pr5 : mV Y (ix v3.toInt (20 : Int32).toInt) r5 := pr5
          have pr5 := mV_l pr5 kI_20
          have br5 := mV_20 pr5 (by omega)
          have cr5 := mT pr5 hT (by omega) (by omega) (by decide) (by decide)
          have k6 := kI_20
          refine lv_iconst (v := 1) hx hb dX10_nextListed_28 (by decide) ?_
          refine lv_icmp_ne (tgt := 49) hx hb dX10_nextListed_29 (by decide) (fun c7 => ?_) (fun c7 => ?_)
          · skip
            have ic7 := tn_ne rfl kI_1 c7
            exact J49 ls v1 v2 v3 (lv_sub hl [0, 1, 2, 3] rfl) (by omega) (by omega) (by omega) (by omega) (by omega)
          · skip
            have ic7 := tn_eq rfl kI_1 c7
            refine lv_aload_n hx hb dX10_nextListed_32 rfl (lv_at hl 0 rfl) ?_
            refine lv_iload_n hx hb dX10_nextListed_33 rfl (lv_at hl 3 rfl) ?_
            refine tc_callp (mc_runV (As := [.int v3]) (rest := []) E hG (c_X10_depthOf l G Y h0 v3 t0 (by omega) (by omega) t hT hI (by omega)) t0 rfl kv_X10_depthOf ml_X10_171 ⟨rfl, rfl, Nat.le_of_ble_eq_true rfl, Nat.le_of_ble_eq_true rfl⟩ rfl hl.1 rfl (Nat.le_of_ble_eq_true rfl) ⟨Nat.zero_le _, Nat.zero_le _⟩ dX10_nextListed_34) (fun r8 pr8 => ?_)
            refine lv_iload_n hx hb dX10_nextListed_37 rfl (lv_at hl 2 rfl) ?_
            refine lv_icmp_ge (tgt := 49) hx hb dX10_nextListed_38 (by decide) (fun c9 => ?_) (fun c9 => ?_)
            · skip
              have ic9 := tn_le rfl rfl c9
              exact J49 ls v1 v2 v3 (lv_sub hl [0, 1, 2, 3] rfl) (by omega) (by omega) (by omega) (by omega) (by omega)
            · skip
              have ic9 := tn_nle rfl rfl c9
              refine lv_iload_n hx hb dX10_nextListed_41 rfl (lv_at hl 3 rfl) ?_
              refine lv_istore_n (lv' := [(1, .int v3), (0, .ref h0), (2, .int v2), (3, .int v3)]) hx hb dX10_nextListed_42 rfl hl (by decide) rfl (fun ls hl => ?_)
              refine lv_aload_n hx hb dX10_nextListed_43 rfl (lv_at hl 1 rfl) ?_
              refine lv_iload_n hx hb dX10_nextListed_44 rfl (lv_at hl 3 rfl) ?_
              refine tc_callp (mc_runV (As := [.int v3]) (rest := []) E hG (c_X10_depthOf l G Y h0 v3 t0 (by omega) (by omega) t hT hI (by omega)) t0 rfl kv_X10_depthOf ml_X10_171 ⟨rfl, rfl, Nat.le_of_ble_eq_true rfl, Nat.le_of_ble_eq_true rfl⟩ rfl hl.1 rfl (Nat.le_of_ble_eq_true rfl) ⟨Nat.zero_le _, Nat.zero_le _⟩ dX10_nextListed_45) (fun r10 pr10 => ?_)
              refine lv_istore_n (lv' := [(2, .int r10), (1, .int v3), (0, .ref h0), (3, .int v3)]) hx hb dX10_nextListed_48 rfl hl (by decide) rfl (fun ls hl => ?_)
              exact J49 ls v3 r10 v3 (lv_sub hl [2, 1, 0, 3] rfl) (by omega) (by omega) (by omega) (by omega) (by omega)
  refine lv_iconst (v := -1) hx hb dX10_nextListed_0 (by decide) ?_
  refine lv_istore_n (lv' := [(1, .int (-1)), (0, .ref h0)]) hx hb dX10_nextListed_1 rfl hl (by decide) rfl (fun ls hl => ?_)
  refine lv_bipush (v := 99) hx hb dX10_nextListed_2 (by decide) ?_
  refine lv_istore_n (lv' := [(2, .int 99), (1, .int (-1)), (0, .ref h0)]) hx hb dX10_nextListed_4 rfl hl (by decide) rfl (fun ls hl => ?_)
  refine lv_iconst (v := 0) hx hb dX10_nextListed_5 (by decide) ?_
  refine lv_istore_n (lv' := [(3, .int 0), (2, .int 99), (1, .int (-1)), (0, .ref h0)]) hx hb dX10_nextListed_6 rfl hl (by decide) rfl (fun ls hl => ?_)
  exact J7 ((24 - (0 : Int32).toInt).toNat + 1) ls (-1 : Int32) (99 : Int32) (0 : Int32) (lv_sub hl [3, 2, 1, 0] rfl) (by decide) (by decide) (by decide) (by first | omega | exact Or.inl (by decide)) (Nat.lt_succ_self _)

set_option maxHeartbeats 4000000 in
set_option maxRecDepth 100000 in
theorem c_X10_of (l : Launch) (G : tG) (Y : mY) (h0 : Nat) (x1 : Int32) (x2 : Int32) (t0 : Y.1 h0 = 1) (t : Nat → Int32) (hT : TI Y t) (hI : TInv t) : Met l yX10_of (.code yX10_of cX10_of 3 (some .int) :: tWS) (tRm 2 46) (va_Pc [.ref h0, .int x1, .int x2] (mPre G Y)) (tQp (fun r => True)) 0 0 tNo := by
  refine mc_met (by decide) (Nat.le_of_ble_eq_true rfl) ?_
  intro p e s m below meth c E hr hlk hG ls hl
  have hl : lv_has ls 3 [(0, .ref h0), (1, .int x1), (2, .int x2)] := hl
  have hx := E.1
  have hb := E.2.1
  obtain ⟨H, eH⟩ : ∃ H, H = s.heap := ⟨_, rfl⟩
  obtain ⟨locs, eL⟩ : ∃ x : List Loc, x = [] := ⟨_, rfl⟩
  have hG : mGH G Y s H locs := by rw [eH, eL]; exact hG
  suffices hW : W p l e (tRm 2 46) s m ([.ref h0, .int x1, .int x2] : List Value).toArray below meth c H locs 0 0 (MQ below (tQp (fun r => True)) ([.ref h0, .int x1, .int x2] : List Value).toArray s 0 0 tNo) (F0 m 0 ls []) by subst eH; subst eL; exact hW
  refine lv_aload_n hx hb dX10_of_0 rfl (lv_at hl 0 rfl) ?_
  refine lv_iload_n hx hb dX10_of_1 rfl (lv_at hl 1 rfl) ?_
  refine tc_callp (mc_runV (As := [.int x1]) (rest := []) E hG (c_X10_isBox l G Y h0 x1 t0) t0 rfl kv_X10_isBox ml_X10_127 ⟨rfl, rfl, Nat.le_of_ble_eq_true rfl, Nat.le_of_ble_eq_true rfl⟩ rfl hl.1 rfl (Nat.le_of_ble_eq_true rfl) ⟨Nat.zero_le _, Nat.zero_le _⟩ dX10_of_2) (fun r1 pr1 => ?_)
  have pr1 : (r1.toInt = 1 ∧ 0 ≤ x1.toInt ∧ x1.toInt ≤ 23 ∧ mV Y (ix x1.toInt 0) 1) ∨ (r1.toInt = 0 ∧ (x1.toInt < 0 ∨ 23 < x1.toInt ∨ ∃ v : Int32, ¬ v.toInt = 1 ∧ mV Y (ix x1.toInt 0) v)) := pr1
  have cr1 := mB pr1 hT hI
  refine lv_if_eq (tgt := 20) hx hb dX10_of_5 (by decide) (fun c2 => ?_) (fun c2 => ?_)
  · skip
    have ic2 := tn_eq rfl kI_0 c2
    refine lv_iconst (v := -1) hx hb dX10_of_20 (by decide) ?_
    exact tc_pret E hr hlk eH eL rfl trivial dX10_of_21
  · skip
    have ic2 := tn_ne rfl kI_0 c2
    refine lv_iload_n hx hb dX10_of_8 rfl (lv_at hl 2 rfl) ?_
    refine lv_i2l hx hb dX10_of_9 rfl ?_
    refine lv_topl (fun z3 ez3 => ?_)
    have tz3 := tl_i2l ez3
    refine lv_lconst (v := 0) hx hb dX10_of_10 (by decide) ?_
    refine lv_topl (fun z4 ez4 => ?_)
    have tz4 : z4.toInt = 0 := by rw [ez4]; decide
    refine lv_ldc2 (v := 14) hx hb E.2.2.2.1 (E.2.2.2.2.1 _ (t_w7 24 rfl rfl)) dX10_of_11 ?_
    refine lv_topl (fun z5 ez5 => ?_)
    have tz5 : z5.toInt = 14 := by rw [ez5]; decide
    refine tc_callp (mc_runS (As := [.long z3, .long z4, .long z5]) (rest := []) E hG (c_X10_in l G Y z3 z4 z5) ks_X10_in ml_X10_87 ⟨rfl, rfl, Nat.le_of_ble_eq_true rfl, Nat.le_of_ble_eq_true rfl⟩ rfl hl.1 rfl (Nat.le_of_ble_eq_true rfl) ⟨Nat.zero_le _, Nat.zero_le _⟩ dX10_of_14) (fun r6 pr6 => ?_)
    have pr6 : ((r6.toInt = 1 ∧ z4.toInt ≤ z3.toInt ∧ z3.toInt ≤ z5.toInt) ∨ (r6.toInt = 0 ∧ (z3.toInt < z4.toInt ∨ z5.toInt < z3.toInt))) := pr6
    refine lv_if_ne (tgt := 22) hx hb dX10_of_17 (by decide) (fun c7 => ?_) (fun c7 => ?_)
    · skip
      have ic7 := tn_ne rfl kI_0 c7
      refine lv_iload_n hx hb dX10_of_22 rfl (lv_at hl 2 rfl) ?_
      rcases (show (x2.toInt < 0 ∨ 14 < x2.toInt) ∨ x2.toInt = 0 ∨ x2.toInt = 1 ∨ x2.toInt = 2 ∨ x2.toInt = 3 ∨ x2.toInt = 4 ∨ x2.toInt = 5 ∨ x2.toInt = 6 ∨ x2.toInt = 7 ∨ x2.toInt = 8 ∨ x2.toInt = 9 ∨ x2.toInt = 10 ∨ x2.toInt = 11 ∨ x2.toInt = 12 ∨ x2.toInt = 13 ∨ x2.toInt = 14 by omega) with k8 | k8 | k8 | k8 | k8 | k8 | k8 | k8 | k8 | k8 | k8 | k8 | k8 | k8 | k8 | k8
      · refine lv_tableOut (tgt := 155) hx hb dX10_of_23 k8 (by decide) ?_
        refine lv_aload_n hx hb dX10_of_155 rfl (lv_at hl 0 rfl) ?_
        refine lv_iload_n hx hb dX10_of_156 rfl (lv_at hl 1 rfl) ?_
        refine lv_iconst (v := 2) hx hb dX10_of_157 (by decide) ?_
        refine lv_iload_n hx hb dX10_of_158 rfl (lv_at hl 2 rfl) ?_
        refine lv_iadd hx hb dX10_of_159 ?_
        refine lv_topi (fun z9 ez9 => ?_)
        have tz9 := tn_add ez9 kI_2 rfl (by omega) (by omega)
        refine lv_iconst (v := 3) hx hb dX10_of_160 (by decide) ?_
        refine lv_isub hx hb dX10_of_161 ?_
        refine lv_topi (fun z10 ez10 => ?_)
        have tz10 := tn_sub ez10 rfl kI_3 (by omega) (by omega)
        refine tc_callp (mc_runV (As := [.int x1, .int z10]) (rest := []) E hG (c_X10_get l G Y h0 x1 z10 t0 (by omega) (by omega) (by omega) (by omega)) t0 rfl kv_X10_get ml_X10_91 ⟨rfl, rfl, Nat.le_of_ble_eq_true rfl, Nat.le_of_ble_eq_true rfl⟩ rfl hl.1 rfl (Nat.le_of_ble_eq_true rfl) ⟨Nat.zero_le _, Nat.zero_le _⟩ dX10_of_162) (fun r11 pr11 => ?_)
        have pr11 : mV Y (ix x1.toInt z10.toInt) r11 := pr11
        have br11 := mV_r 0 13 (-1) (99) pr11 (by omega) (by omega) (by omega) (by decide) (by decide)
        exact tc_pret E hr hlk eH eL rfl trivial dX10_of_165
      · refine lv_tableIn (off := 73) (tgt := 96) hx hb dX10_of_23 (by rw [k8]; decide) (by rw [k8]; decide) (by rw [k8]; rfl) (by decide) ?_
        refine lv_aload_n hx hb dX10_of_96 rfl (lv_at hl 0 rfl) ?_
        refine lv_iload_n hx hb dX10_of_97 rfl (lv_at hl 1 rfl) ?_
        refine lv_iconst (v := 1) hx hb dX10_of_98 (by decide) ?_
        refine tc_callp (mc_runV (As := [.int x1, .int 1]) (rest := []) E hG (c_X10_get l G Y h0 x1 (1 : Int32) t0 (by omega) (by omega) (by decide) (by decide)) t0 rfl kv_X10_get ml_X10_91 ⟨rfl, rfl, Nat.le_of_ble_eq_true rfl, Nat.le_of_ble_eq_true rfl⟩ rfl hl.1 rfl (Nat.le_of_ble_eq_true rfl) ⟨Nat.zero_le _, Nat.zero_le _⟩ dX10_of_99) (fun r12 pr12 => ?_)
        have pr12 : mV Y (ix x1.toInt (1 : Int32).toInt) r12 := pr12
        have pr12 := mV_l pr12 kI_1
        have br12 := mV_1 pr12 (by omega)
        have cr12 := mT pr12 hT (by omega) (by omega) (by decide) (by decide)
        have k13 := kI_1
        exact tc_pret E hr hlk eH eL rfl trivial dX10_of_102
      · refine lv_tableIn (off := 80) (tgt := 103) hx hb dX10_of_23 (by rw [k8]; decide) (by rw [k8]; decide) (by rw [k8]; rfl) (by decide) ?_
        refine lv_aload_n hx hb dX10_of_103 rfl (lv_at hl 0 rfl) ?_
        refine lv_iload_n hx hb dX10_of_104 rfl (lv_at hl 1 rfl) ?_
        refine lv_bipush (v := 9) hx hb dX10_of_105 (by decide) ?_
        refine tc_callp (mc_runV (As := [.int x1, .int 9]) (rest := []) E hG (c_X10_get l G Y h0 x1 (9 : Int32) t0 (by omega) (by omega) (by decide) (by decide)) t0 rfl kv_X10_get ml_X10_91 ⟨rfl, rfl, Nat.le_of_ble_eq_true rfl, Nat.le_of_ble_eq_true rfl⟩ rfl hl.1 rfl (Nat.le_of_ble_eq_true rfl) ⟨Nat.zero_le _, Nat.zero_le _⟩ dX10_of_107) (fun r14 pr14 => ?_)
        have pr14 : mV Y (ix x1.toInt (9 : Int32).toInt) r14 := pr14
        have pr14 := mV_l pr14 kI_9
        have br14 := mV_9 pr14 (by omega)
        have cr14 := mT pr14 hT (by omega) (by omega) (by decide) (by decide)
        have dr14 := mP9 cr14 hI (by omega)
        have k15 := kI_9
        exact tc_pret E hr hlk eH eL rfl trivial dX10_of_110
      · refine lv_tableIn (off := 88) (tgt := 111) hx hb dX10_of_23 (by rw [k8]; decide) (by rw [k8]; decide) (by rw [k8]; rfl) (by decide) ?_
        refine lv_aload_n hx hb dX10_of_111 rfl (lv_at hl 0 rfl) ?_
        refine lv_iload_n hx hb dX10_of_112 rfl (lv_at hl 1 rfl) ?_
        refine tc_callp (mc_runV (As := [.int x1]) (rest := []) E hG (c_X10_manyOf l G Y h0 x1 t0 (by omega) (by omega)) t0 rfl kv_X10_manyOf ml_X10_117 ⟨rfl, rfl, Nat.le_of_ble_eq_true rfl, Nat.le_of_ble_eq_true rfl⟩ rfl hl.1 rfl (Nat.le_of_ble_eq_true rfl) ⟨Nat.zero_le _, Nat.zero_le _⟩ dX10_of_113) (fun r16 pr16 => ?_)
        have pr16 : mV Y (ix x1.toInt 10) r16 := pr16
        have br16 := mV_10 pr16 (by omega)
        have cr16 := mT pr16 hT (by omega) (by omega) (by decide) (by decide)
        exact tc_pret E hr hlk eH eL rfl trivial dX10_of_116
      · refine lv_tableIn (off := 132) (tgt := 155) hx hb dX10_of_23 (by rw [k8]; decide) (by rw [k8]; decide) (by rw [k8]; rfl) (by decide) ?_
        refine lv_aload_n hx hb dX10_of_155 rfl (lv_at hl 0 rfl) ?_
        refine lv_iload_n hx hb dX10_of_156 rfl (lv_at hl 1 rfl) ?_
        refine lv_iconst (v := 2) hx hb dX10_of_157 (by decide) ?_
        refine lv_iload_n hx hb dX10_of_158 rfl (lv_at hl 2 rfl) ?_
        refine lv_iadd hx hb dX10_of_159 ?_
        refine lv_topi (fun z17 ez17 => ?_)
        have tz17 := tn_add ez17 kI_2 rfl (by omega) (by omega)
        refine lv_iconst (v := 3) hx hb dX10_of_160 (by decide) ?_
        refine lv_isub hx hb dX10_of_161 ?_
        refine lv_topi (fun z18 ez18 => ?_)
        have tz18 := tn_sub ez18 rfl kI_3 (by omega) (by omega)
        refine tc_callp (mc_runV (As := [.int x1, .int z18]) (rest := []) E hG (c_X10_get l G Y h0 x1 z18 t0 (by omega) (by omega) (by omega) (by omega)) t0 rfl kv_X10_get ml_X10_91 ⟨rfl, rfl, Nat.le_of_ble_eq_true rfl, Nat.le_of_ble_eq_true rfl⟩ rfl hl.1 rfl (Nat.le_of_ble_eq_true rfl) ⟨Nat.zero_le _, Nat.zero_le _⟩ dX10_of_162) (fun r19 pr19 => ?_)
        have pr19 : mV Y (ix x1.toInt z18.toInt) r19 := pr19
        have br19 := mV_r 2 2 (0) (99) pr19 (by omega) (by omega) (by omega) (by decide) (by decide)
        exact tc_pret E hr hlk eH eL rfl trivial dX10_of_165
      · refine lv_tableIn (off := 132) (tgt := 155) hx hb dX10_of_23 (by rw [k8]; decide) (by rw [k8]; decide) (by rw [k8]; rfl) (by decide) ?_
        refine lv_aload_n hx hb dX10_of_155 rfl (lv_at hl 0 rfl) ?_
        refine lv_iload_n hx hb dX10_of_156 rfl (lv_at hl 1 rfl) ?_
        refine lv_iconst (v := 2) hx hb dX10_of_157 (by decide) ?_
        refine lv_iload_n hx hb dX10_of_158 rfl (lv_at hl 2 rfl) ?_
        refine lv_iadd hx hb dX10_of_159 ?_
        refine lv_topi (fun z20 ez20 => ?_)
        have tz20 := tn_add ez20 kI_2 rfl (by omega) (by omega)
        refine lv_iconst (v := 3) hx hb dX10_of_160 (by decide) ?_
        refine lv_isub hx hb dX10_of_161 ?_
        refine lv_topi (fun z21 ez21 => ?_)
        have tz21 := tn_sub ez21 rfl kI_3 (by omega) (by omega)
        refine tc_callp (mc_runV (As := [.int x1, .int z21]) (rest := []) E hG (c_X10_get l G Y h0 x1 z21 t0 (by omega) (by omega) (by omega) (by omega)) t0 rfl kv_X10_get ml_X10_91 ⟨rfl, rfl, Nat.le_of_ble_eq_true rfl, Nat.le_of_ble_eq_true rfl⟩ rfl hl.1 rfl (Nat.le_of_ble_eq_true rfl) ⟨Nat.zero_le _, Nat.zero_le _⟩ dX10_of_162) (fun r22 pr22 => ?_)
        have pr22 : mV Y (ix x1.toInt z21.toInt) r22 := pr22
        have br22 := mV_r 3 3 (0) (99) pr22 (by omega) (by omega) (by omega) (by decide) (by decide)
        exact tc_pret E hr hlk eH eL rfl trivial dX10_of_165
      · refine lv_tableIn (off := 132) (tgt := 155) hx hb dX10_of_23 (by rw [k8]; decide) (by rw [k8]; decide) (by rw [k8]; rfl) (by decide) ?_
        refine lv_aload_n hx hb dX10_of_155 rfl (lv_at hl 0 rfl) ?_
        refine lv_iload_n hx hb dX10_of_156 rfl (lv_at hl 1 rfl) ?_
        refine lv_iconst (v := 2) hx hb dX10_of_157 (by decide) ?_
        refine lv_iload_n hx hb dX10_of_158 rfl (lv_at hl 2 rfl) ?_
        refine lv_iadd hx hb dX10_of_159 ?_
        refine lv_topi (fun z23 ez23 => ?_)
        have tz23 := tn_add ez23 kI_2 rfl (by omega) (by omega)
        refine lv_iconst (v := 3) hx hb dX10_of_160 (by decide) ?_
        refine lv_isub hx hb dX10_of_161 ?_
        refine lv_topi (fun z24 ez24 => ?_)
        have tz24 := tn_sub ez24 rfl kI_3 (by omega) (by omega)
        refine tc_callp (mc_runV (As := [.int x1, .int z24]) (rest := []) E hG (c_X10_get l G Y h0 x1 z24 t0 (by omega) (by omega) (by omega) (by omega)) t0 rfl kv_X10_get ml_X10_91 ⟨rfl, rfl, Nat.le_of_ble_eq_true rfl, Nat.le_of_ble_eq_true rfl⟩ rfl hl.1 rfl (Nat.le_of_ble_eq_true rfl) ⟨Nat.zero_le _, Nat.zero_le _⟩ dX10_of_162) (fun r25 pr25 => ?_)
        have pr25 : mV Y (ix x1.toInt z24.toInt) r25 := pr25
        have br25 := mV_r 4 4 (0) (99) pr25 (by omega) (by omega) (by omega) (by decide) (by decide)
        exact tc_pret E hr hlk eH eL rfl trivial dX10_of_165
      · refine lv_tableIn (off := 132) (tgt := 155) hx hb dX10_of_23 (by rw [k8]; decide) (by rw [k8]; decide) (by rw [k8]; rfl) (by decide) ?_
        refine lv_aload_n hx hb dX10_of_155 rfl (lv_at hl 0 rfl) ?_
        refine lv_iload_n hx hb dX10_of_156 rfl (lv_at hl 1 rfl) ?_
        refine lv_iconst (v := 2) hx hb dX10_of_157 (by decide) ?_
        refine lv_iload_n hx hb dX10_of_158 rfl (lv_at hl 2 rfl) ?_
        refine lv_iadd hx hb dX10_of_159 ?_
        refine lv_topi (fun z26 ez26 => ?_)
        have tz26 := tn_add ez26 kI_2 rfl (by omega) (by omega)
        refine lv_iconst (v := 3) hx hb dX10_of_160 (by decide) ?_
        refine lv_isub hx hb dX10_of_161 ?_
        refine lv_topi (fun z27 ez27 => ?_)
        have tz27 := tn_sub ez27 rfl kI_3 (by omega) (by omega)
        refine tc_callp (mc_runV (As := [.int x1, .int z27]) (rest := []) E hG (c_X10_get l G Y h0 x1 z27 t0 (by omega) (by omega) (by omega) (by omega)) t0 rfl kv_X10_get ml_X10_91 ⟨rfl, rfl, Nat.le_of_ble_eq_true rfl, Nat.le_of_ble_eq_true rfl⟩ rfl hl.1 rfl (Nat.le_of_ble_eq_true rfl) ⟨Nat.zero_le _, Nat.zero_le _⟩ dX10_of_162) (fun r28 pr28 => ?_)
        have pr28 : mV Y (ix x1.toInt z27.toInt) r28 := pr28
        have br28 := mV_r 5 5 (0) (99) pr28 (by omega) (by omega) (by omega) (by decide) (by decide)
        exact tc_pret E hr hlk eH eL rfl trivial dX10_of_165
      · refine lv_tableIn (off := 132) (tgt := 155) hx hb dX10_of_23 (by rw [k8]; decide) (by rw [k8]; decide) (by rw [k8]; rfl) (by decide) ?_
        refine lv_aload_n hx hb dX10_of_155 rfl (lv_at hl 0 rfl) ?_
        refine lv_iload_n hx hb dX10_of_156 rfl (lv_at hl 1 rfl) ?_
        refine lv_iconst (v := 2) hx hb dX10_of_157 (by decide) ?_
        refine lv_iload_n hx hb dX10_of_158 rfl (lv_at hl 2 rfl) ?_
        refine lv_iadd hx hb dX10_of_159 ?_
        refine lv_topi (fun z29 ez29 => ?_)
        have tz29 := tn_add ez29 kI_2 rfl (by omega) (by omega)
        refine lv_iconst (v := 3) hx hb dX10_of_160 (by decide) ?_
        refine lv_isub hx hb dX10_of_161 ?_
        refine lv_topi (fun z30 ez30 => ?_)
        have tz30 := tn_sub ez30 rfl kI_3 (by omega) (by omega)
        refine tc_callp (mc_runV (As := [.int x1, .int z30]) (rest := []) E hG (c_X10_get l G Y h0 x1 z30 t0 (by omega) (by omega) (by omega) (by omega)) t0 rfl kv_X10_get ml_X10_91 ⟨rfl, rfl, Nat.le_of_ble_eq_true rfl, Nat.le_of_ble_eq_true rfl⟩ rfl hl.1 rfl (Nat.le_of_ble_eq_true rfl) ⟨Nat.zero_le _, Nat.zero_le _⟩ dX10_of_162) (fun r31 pr31 => ?_)
        have pr31 : mV Y (ix x1.toInt z30.toInt) r31 := pr31
        have br31 := mV_r 6 6 (0) (9) pr31 (by omega) (by omega) (by omega) (by decide) (by decide)
        exact tc_pret E hr hlk eH eL rfl trivial dX10_of_165
      · refine lv_tableIn (off := 132) (tgt := 155) hx hb dX10_of_23 (by rw [k8]; decide) (by rw [k8]; decide) (by rw [k8]; rfl) (by decide) ?_
        refine lv_aload_n hx hb dX10_of_155 rfl (lv_at hl 0 rfl) ?_
        refine lv_iload_n hx hb dX10_of_156 rfl (lv_at hl 1 rfl) ?_
        refine lv_iconst (v := 2) hx hb dX10_of_157 (by decide) ?_
        refine lv_iload_n hx hb dX10_of_158 rfl (lv_at hl 2 rfl) ?_
        refine lv_iadd hx hb dX10_of_159 ?_
        refine lv_topi (fun z32 ez32 => ?_)
        have tz32 := tn_add ez32 kI_2 rfl (by omega) (by omega)
        refine lv_iconst (v := 3) hx hb dX10_of_160 (by decide) ?_
        refine lv_isub hx hb dX10_of_161 ?_
        refine lv_topi (fun z33 ez33 => ?_)
        have tz33 := tn_sub ez33 rfl kI_3 (by omega) (by omega)
        refine tc_callp (mc_runV (As := [.int x1, .int z33]) (rest := []) E hG (c_X10_get l G Y h0 x1 z33 t0 (by omega) (by omega) (by omega) (by omega)) t0 rfl kv_X10_get ml_X10_91 ⟨rfl, rfl, Nat.le_of_ble_eq_true rfl, Nat.le_of_ble_eq_true rfl⟩ rfl hl.1 rfl (Nat.le_of_ble_eq_true rfl) ⟨Nat.zero_le _, Nat.zero_le _⟩ dX10_of_162) (fun r34 pr34 => ?_)
        have pr34 : mV Y (ix x1.toInt z33.toInt) r34 := pr34
        have br34 := mV_r 7 7 (0) (99) pr34 (by omega) (by omega) (by omega) (by decide) (by decide)
        exact tc_pret E hr hlk eH eL rfl trivial dX10_of_165
      · refine lv_tableIn (off := 132) (tgt := 155) hx hb dX10_of_23 (by rw [k8]; decide) (by rw [k8]; decide) (by rw [k8]; rfl) (by decide) ?_
        refine lv_aload_n hx hb dX10_of_155 rfl (lv_at hl 0 rfl) ?_
        refine lv_iload_n hx hb dX10_of_156 rfl (lv_at hl 1 rfl) ?_
        refine lv_iconst (v := 2) hx hb dX10_of_157 (by decide) ?_
        refine lv_iload_n hx hb dX10_of_158 rfl (lv_at hl 2 rfl) ?_
        refine lv_iadd hx hb dX10_of_159 ?_
        refine lv_topi (fun z35 ez35 => ?_)
        have tz35 := tn_add ez35 kI_2 rfl (by omega) (by omega)
        refine lv_iconst (v := 3) hx hb dX10_of_160 (by decide) ?_
        refine lv_isub hx hb dX10_of_161 ?_
        refine lv_topi (fun z36 ez36 => ?_)
        have tz36 := tn_sub ez36 rfl kI_3 (by omega) (by omega)
        refine tc_callp (mc_runV (As := [.int x1, .int z36]) (rest := []) E hG (c_X10_get l G Y h0 x1 z36 t0 (by omega) (by omega) (by omega) (by omega)) t0 rfl kv_X10_get ml_X10_91 ⟨rfl, rfl, Nat.le_of_ble_eq_true rfl, Nat.le_of_ble_eq_true rfl⟩ rfl hl.1 rfl (Nat.le_of_ble_eq_true rfl) ⟨Nat.zero_le _, Nat.zero_le _⟩ dX10_of_162) (fun r37 pr37 => ?_)
        have pr37 : mV Y (ix x1.toInt z36.toInt) r37 := pr37
        have br37 := mV_r 8 8 (0) (99) pr37 (by omega) (by omega) (by omega) (by decide) (by decide)
        exact tc_pret E hr hlk eH eL rfl trivial dX10_of_165
      · refine lv_tableIn (off := 94) (tgt := 117) hx hb dX10_of_23 (by rw [k8]; decide) (by rw [k8]; decide) (by rw [k8]; rfl) (by decide) ?_
        refine lv_aload_n hx hb dX10_of_117 rfl (lv_at hl 0 rfl) ?_
        refine lv_iload_n hx hb dX10_of_118 rfl (lv_at hl 1 rfl) ?_
        refine lv_bipush (v := 19) hx hb dX10_of_119 (by decide) ?_
        refine tc_callp (mc_runV (As := [.int x1, .int 19]) (rest := []) E hG (c_X10_get l G Y h0 x1 (19 : Int32) t0 (by omega) (by omega) (by decide) (by decide)) t0 rfl kv_X10_get ml_X10_91 ⟨rfl, rfl, Nat.le_of_ble_eq_true rfl, Nat.le_of_ble_eq_true rfl⟩ rfl hl.1 rfl (Nat.le_of_ble_eq_true rfl) ⟨Nat.zero_le _, Nat.zero_le _⟩ dX10_of_121) (fun r38 pr38 => ?_)
        have pr38 : mV Y (ix x1.toInt (19 : Int32).toInt) r38 := pr38
        have pr38 := mV_l pr38 kI_19
        have br38 := mV_19 pr38 (by omega)
        have k39 := kI_19
        exact tc_pret E hr hlk eH eL rfl trivial dX10_of_124
      · refine lv_tableIn (off := 102) (tgt := 125) hx hb dX10_of_23 (by rw [k8]; decide) (by rw [k8]; decide) (by rw [k8]; rfl) (by decide) ?_
        refine lv_aload_n hx hb dX10_of_125 rfl (lv_at hl 0 rfl) ?_
        refine lv_iload_n hx hb dX10_of_126 rfl (lv_at hl 1 rfl) ?_
        refine lv_bipush (v := 20) hx hb dX10_of_127 (by decide) ?_
        refine tc_callp (mc_runV (As := [.int x1, .int 20]) (rest := []) E hG (c_X10_get l G Y h0 x1 (20 : Int32) t0 (by omega) (by omega) (by decide) (by decide)) t0 rfl kv_X10_get ml_X10_91 ⟨rfl, rfl, Nat.le_of_ble_eq_true rfl, Nat.le_of_ble_eq_true rfl⟩ rfl hl.1 rfl (Nat.le_of_ble_eq_true rfl) ⟨Nat.zero_le _, Nat.zero_le _⟩ dX10_of_129) (fun r40 pr40 => ?_)
        have pr40 : mV Y (ix x1.toInt (20 : Int32).toInt) r40 := pr40
        have pr40 := mV_l pr40 kI_20
        have br40 := mV_20 pr40 (by omega)
        have cr40 := mT pr40 hT (by omega) (by omega) (by decide) (by decide)
        have k41 := kI_20
        exact tc_pret E hr hlk eH eL rfl trivial dX10_of_132
      · refine lv_tableIn (off := 110) (tgt := 133) hx hb dX10_of_23 (by rw [k8]; decide) (by rw [k8]; decide) (by rw [k8]; rfl) (by decide) ?_
        refine lv_aload_n hx hb dX10_of_133 rfl (lv_at hl 0 rfl) ?_
        refine lv_iload_n hx hb dX10_of_134 rfl (lv_at hl 1 rfl) ?_
        refine lv_bipush (v := 21) hx hb dX10_of_135 (by decide) ?_
        refine tc_callp (mc_runV (As := [.int x1, .int 21]) (rest := []) E hG (c_X10_get l G Y h0 x1 (21 : Int32) t0 (by omega) (by omega) (by decide) (by decide)) t0 rfl kv_X10_get ml_X10_91 ⟨rfl, rfl, Nat.le_of_ble_eq_true rfl, Nat.le_of_ble_eq_true rfl⟩ rfl hl.1 rfl (Nat.le_of_ble_eq_true rfl) ⟨Nat.zero_le _, Nat.zero_le _⟩ dX10_of_137) (fun r42 pr42 => ?_)
        have pr42 : mV Y (ix x1.toInt (21 : Int32).toInt) r42 := pr42
        have pr42 := mV_l pr42 kI_21
        have br42 := mV_21 pr42 (by omega)
        have k43 := kI_21
        exact tc_pret E hr hlk eH eL rfl trivial dX10_of_140
      · refine lv_tableIn (off := 118) (tgt := 141) hx hb dX10_of_23 (by rw [k8]; decide) (by rw [k8]; decide) (by rw [k8]; rfl) (by decide) ?_
        refine lv_aload_n hx hb dX10_of_141 rfl (lv_at hl 0 rfl) ?_
        refine lv_iload_n hx hb dX10_of_142 rfl (lv_at hl 1 rfl) ?_
        refine lv_bipush (v := 24) hx hb dX10_of_143 (by decide) ?_
        refine tc_callp (mc_runV (As := [.int x1, .int 24]) (rest := []) E hG (c_X10_get l G Y h0 x1 (24 : Int32) t0 (by omega) (by omega) (by decide) (by decide)) t0 rfl kv_X10_get ml_X10_91 ⟨rfl, rfl, Nat.le_of_ble_eq_true rfl, Nat.le_of_ble_eq_true rfl⟩ rfl hl.1 rfl (Nat.le_of_ble_eq_true rfl) ⟨Nat.zero_le _, Nat.zero_le _⟩ dX10_of_145) (fun r44 pr44 => ?_)
        have pr44 : mV Y (ix x1.toInt (24 : Int32).toInt) r44 := pr44
        have pr44 := mV_l pr44 kI_24
        have br44 := mV_24 pr44 (by omega)
        have k45 := kI_24
        exact tc_pret E hr hlk eH eL rfl trivial dX10_of_148
      · refine lv_tableIn (off := 126) (tgt := 149) hx hb dX10_of_23 (by rw [k8]; decide) (by rw [k8]; decide) (by rw [k8]; rfl) (by decide) ?_
        refine lv_aload_n hx hb dX10_of_149 rfl (lv_at hl 0 rfl) ?_
        refine lv_iload_n hx hb dX10_of_150 rfl (lv_at hl 1 rfl) ?_
        refine tc_callp (mc_runV (As := [.int x1]) (rest := []) E hG (c_X10_depthOf l G Y h0 x1 t0 (by omega) (by omega) t hT hI (by omega)) t0 rfl kv_X10_depthOf ml_X10_171 ⟨rfl, rfl, Nat.le_of_ble_eq_true rfl, Nat.le_of_ble_eq_true rfl⟩ rfl hl.1 rfl (Nat.le_of_ble_eq_true rfl) ⟨Nat.zero_le _, Nat.zero_le _⟩ dX10_of_151) (fun r46 pr46 => ?_)
        exact tc_pret E hr hlk eH eL rfl trivial dX10_of_154
    · skip
      have ic7 := tn_eq rfl kI_0 c7
      refine lv_iconst (v := -1) hx hb dX10_of_20 (by decide) ?_
      exact tc_pret E hr hlk eH eL rfl trivial dX10_of_21

set_option maxHeartbeats 4000000 in
set_option maxRecDepth 100000 in
theorem c_X10_hit (l : Launch) (G : tG) (Y : mY) (h0 : Nat) (x1 : Int32) (x2 : Int32) (t0 : Y.1 h0 = 1) (t : Nat → Int32) (hT : TI Y t) (hI : TInv t) : Met l yX10_hit (.code yX10_hit cX10_hit 8 (some .int) :: tWS) (tRm 2 48) (va_Pc [.ref h0, .int x1, .int x2] (mPre G Y)) (tQp (fun r => True)) 0 0 tNo := by
  refine mc_met (by decide) (Nat.le_of_ble_eq_true rfl) ?_
  intro p e s m below meth c E hr hlk hG ls hl
  have hl : lv_has ls 8 [(0, .ref h0), (1, .int x1), (2, .int x2)] := hl
  have hx := E.1
  have hb := E.2.1
  obtain ⟨H, eH⟩ : ∃ H, H = s.heap := ⟨_, rfl⟩
  obtain ⟨locs, eL⟩ : ∃ x : List Loc, x = [] := ⟨_, rfl⟩
  have hG : mGH G Y s H locs := by rw [eH, eL]; exact hG
  suffices hW : W p l e (tRm 2 48) s m ([.ref h0, .int x1, .int x2] : List Value).toArray below meth c H locs 0 0 (MQ below (tQp (fun r => True)) ([.ref h0, .int x1, .int x2] : List Value).toArray s 0 0 tNo) (F0 m 0 ls []) by subst eH; subst eL; exact hW
  have J39 : ∀ (n39 : Nat) (ls : Array Slot) (v3 : Int32) (v4 : Int32) (v5 : Int32) (v6 : Int32), lv_has ls 8 [(0, .ref h0), (3, .int v3), (4, .int v4), (5, .int v5), (6, .int v6)] → 0 ≤ v3.toInt → v3.toInt ≤ 23 → -1 ≤ v6.toInt → v6.toInt ≤ 7 → v6.toInt < K t v3.toInt 10 → (9 * (24 - v3.toInt) + v6.toInt + 1).toNat < n39 → W p l e (tRm 2 48) s m ([.ref h0, .int x1, .int x2] : List Value).toArray below meth c H locs 0 0 (MQ below (tQp (fun r => True)) ([.ref h0, .int x1, .int x2] : List Value).toArray s 0 0 tNo) (F0 m 39 ls []) := by
    intro n39
    induction n39 with
    | zero => intro ls v3 v4 v5 v6 hl b3 c3 b6 c6 hex39 hn39; exact absurd hn39 (Nat.not_lt_zero _)
    | succ n39 ih39 =>
      intro ls v3 v4 v5 v6 hl b3 c3 b6 c6 hex39 hn39
      refine lv_iload hx hb dX10_hit_39 (lv_at hl 4 rfl) ?_
      refine lv_if_lt (tgt := 131) hx hb dX10_hit_41 (by decide) (fun c1 => ?_) (fun c1 => ?_)
      · skip
        have ic1 := tn_lt rfl kI_0 c1
        refine lv_iload_n hx hb dX10_hit_131 rfl (lv_at hl 1 rfl) ?_
        exact tc_pret E hr hlk eH eL rfl trivial dX10_hit_132
      · skip
        have ic1 := tn_nlt rfl kI_0 c1
        refine lv_aload_n hx hb dX10_hit_44 rfl (lv_at hl 0 rfl) ?_
        refine lv_iload_n hx hb dX10_hit_45 rfl (lv_at hl 1 rfl) ?_
        refine lv_iload hx hb dX10_hit_46 (lv_at hl 4 rfl) ?_
        refine tc_callp (mc_runV (As := [.int v3, .int v6]) (rest := []) E hG (c_X10_childOf l G Y h0 v3 v6 t0 (by omega) (by omega) (by omega) (by omega)) t0 rfl kv_X10_childOf ml_X10_153 ⟨rfl, rfl, Nat.le_of_ble_eq_true rfl, Nat.le_of_ble_eq_true rfl⟩ rfl hl.1 rfl (Nat.le_of_ble_eq_true rfl) ⟨Nat.zero_le _, Nat.zero_le _⟩ dX10_hit_48) (fun r2 pr2 => ?_)
        have pr2 : mV Y (ix v3.toInt (11 + v6.toInt)) r2 := pr2
        have br2 := mV_r 11 18 0 23 pr2 (by omega) (by omega) (by omega) (by decide) (by decide)
        have cr2 := mT pr2 hT (by omega) (by omega) (by omega) (by omega)
        have dr2 := mP11 cr2 hI (by omega) (by omega) (by omega)
        refine lv_istore (lv' := [(7, .int r2), (0, .ref h0), (3, .int v3), (4, .int v4), (5, .int v5), (6, .int v6)]) hx hb dX10_hit_51 hl (by decide) rfl (fun ls hl => ?_)
        refine lv_aload_n hx hb dX10_hit_53 rfl (lv_at hl 1 rfl) ?_
        refine lv_iload hx hb dX10_hit_54 (lv_at hl 0 rfl) ?_
        refine lv_iload hx hb dX10_hit_56 (lv_at hl 3 rfl) ?_
        refine lv_aload_n hx hb dX10_hit_58 rfl (lv_at hl 1 rfl) ?_
        refine lv_iload hx hb dX10_hit_59 (lv_at hl 0 rfl) ?_
        refine lv_bipush (v := 30) hx hb dX10_hit_61 (by decide) ?_
        refine tc_callp (mc_runV (As := [.int r2, .int 30]) (rest := [.int v4, .int r2, .ref h0]) E hG (c_X10_get l G Y h0 r2 (30 : Int32) t0 (by omega) (by omega) (by decide) (by decide)) t0 rfl kv_X10_get ml_X10_91 ⟨rfl, rfl, Nat.le_of_ble_eq_true rfl, Nat.le_of_ble_eq_true rfl⟩ rfl hl.1 rfl (Nat.le_of_ble_eq_true rfl) ⟨Nat.zero_le _, Nat.zero_le _⟩ dX10_hit_63) (fun r3 pr3 => ?_)
        have pr3 : mV Y (ix r2.toInt (30 : Int32).toInt) r3 := pr3
        have pr3 := mV_l pr3 kI_30
        have k4 := kI_30
        refine lv_isub hx hb dX10_hit_66 ?_
        refine lv_topi (fun z5 ez5 => ?_)
        refine lv_iload hx hb dX10_hit_67 (lv_at hl 4 rfl) ?_
        refine lv_aload_n hx hb dX10_hit_69 rfl (lv_at hl 1 rfl) ?_
        refine lv_iload hx hb dX10_hit_70 (lv_at hl 0 rfl) ?_
        refine lv_bipush (v := 31) hx hb dX10_hit_72 (by decide) ?_
        refine tc_callp (mc_runV (As := [.int r2, .int 31]) (rest := [.int v5, .int z5, .int r2, .ref h0]) E hG (c_X10_get l G Y h0 r2 (31 : Int32) t0 (by omega) (by omega) (by decide) (by decide)) t0 rfl kv_X10_get ml_X10_91 ⟨rfl, rfl, Nat.le_of_ble_eq_true rfl, Nat.le_of_ble_eq_true rfl⟩ rfl hl.1 rfl (Nat.le_of_ble_eq_true rfl) ⟨Nat.zero_le _, Nat.zero_le _⟩ dX10_hit_74) (fun r6 pr6 => ?_)
        have pr6 : mV Y (ix r2.toInt (31 : Int32).toInt) r6 := pr6
        have pr6 := mV_l pr6 kI_31
        have k7 := kI_31
        refine lv_isub hx hb dX10_hit_77 ?_
        refine lv_topi (fun z8 ez8 => ?_)
        refine tc_callp (mc_runV (As := [.int r2, .int z5, .int z8]) (rest := []) E hG (c_X10_isAt l G Y h0 r2 z5 z8 t0 (by omega) (by omega)) t0 rfl kv_X10_isAt ml_X10_334 ⟨rfl, rfl, Nat.le_of_ble_eq_true rfl, Nat.le_of_ble_eq_true rfl⟩ rfl hl.1 rfl (Nat.le_of_ble_eq_true rfl) ⟨Nat.zero_le _, Nat.zero_le _⟩ dX10_hit_78) (fun r9 pr9 => ?_)
        have pr9 : 0 ≤ r9.toInt ∧ r9.toInt ≤ 1 := pr9
        refine lv_if_eq (tgt := 125) hx hb dX10_hit_81 (by decide) (fun c10 => ?_) (fun c10 => ?_)
        · skip
          have ic10 := tn_eq rfl kI_0 c10
          obtain ⟨z11, ez11⟩ : ∃ y : Int32, y = v6 + (-1) := ⟨_, rfl⟩
          refine lv_iinc (v := z11) (lv' := [(6, .int z11), (7, .int r2), (0, .ref h0), (3, .int v3), (4, .int v4), (5, .int v5)]) hx hb dX10_hit_125 hl (k := 5) rfl (by rw [ez11]; rfl) (by decide) rfl (fun ls hl => ?_)
          have tz11 := tn_add ez11 rfl kI_m1 (by omega) (by omega)
          refine lv_goto (tgt := 39) hx hb dX10_hit_128 (by decide) ?_
          exact ih39 ls v3 v4 v5 z11 (lv_sub hl [2, 3, 4, 5, 0] rfl) (by omega) (by omega) (by omega) (by omega) (by omega) (by omega)
        · skip
          have ic10 := tn_ne rfl kI_0 c10
          refine lv_iload hx hb dX10_hit_84 (lv_at hl 3 rfl) ?_
          refine lv_aload_n hx hb dX10_hit_86 rfl (lv_at hl 1 rfl) ?_
          refine lv_iload hx hb dX10_hit_87 (lv_at hl 0 rfl) ?_
          refine lv_bipush (v := 30) hx hb dX10_hit_89 (by decide) ?_
          refine tc_callp (mc_runV (As := [.int r2, .int 30]) (rest := [.int v4]) E hG (c_X10_get l G Y h0 r2 (30 : Int32) t0 (by omega) (by omega) (by decide) (by decide)) t0 rfl kv_X10_get ml_X10_91 ⟨rfl, rfl, Nat.le_of_ble_eq_true rfl, Nat.le_of_ble_eq_true rfl⟩ rfl hl.1 rfl (Nat.le_of_ble_eq_true rfl) ⟨Nat.zero_le _, Nat.zero_le _⟩ dX10_hit_91) (fun r12 pr12 => ?_)
          have pr12 : mV Y (ix r2.toInt (30 : Int32).toInt) r12 := pr12
          have pr12 := mV_l pr12 kI_30
          have k13 := kI_30
          refine lv_isub hx hb dX10_hit_94 ?_
          refine lv_topi (fun z14 ez14 => ?_)
          refine lv_istore (lv' := [(4, .int z14), (7, .int r2), (0, .ref h0), (3, .int v3), (5, .int v5), (6, .int v6)]) hx hb dX10_hit_95 hl (by decide) rfl (fun ls hl => ?_)
          refine lv_iload hx hb dX10_hit_97 (lv_at hl 4 rfl) ?_
          refine lv_aload_n hx hb dX10_hit_99 rfl (lv_at hl 2 rfl) ?_
          refine lv_iload hx hb dX10_hit_100 (lv_at hl 1 rfl) ?_
          refine lv_bipush (v := 31) hx hb dX10_hit_102 (by decide) ?_
          refine tc_callp (mc_runV (As := [.int r2, .int 31]) (rest := [.int v5]) E hG (c_X10_get l G Y h0 r2 (31 : Int32) t0 (by omega) (by omega) (by decide) (by decide)) t0 rfl kv_X10_get ml_X10_91 ⟨rfl, rfl, Nat.le_of_ble_eq_true rfl, Nat.le_of_ble_eq_true rfl⟩ rfl hl.1 rfl (Nat.le_of_ble_eq_true rfl) ⟨Nat.zero_le _, Nat.zero_le _⟩ dX10_hit_104) (fun r15 pr15 => ?_)
          have pr15 : mV Y (ix r2.toInt (31 : Int32).toInt) r15 := pr15
          have pr15 := mV_l pr15 kI_31
          have k16 := kI_31
          refine lv_isub hx hb dX10_hit_107 ?_
          refine lv_topi (fun z17 ez17 => ?_)
          refine lv_istore (lv' := [(5, .int z17), (4, .int z14), (7, .int r2), (0, .ref h0), (3, .int v3), (6, .int v6)]) hx hb dX10_hit_108 hl (by decide) rfl (fun ls hl => ?_)
          refine lv_iload hx hb dX10_hit_110 (lv_at hl 2 rfl) ?_
          refine lv_istore_n (lv' := [(3, .int r2), (5, .int z17), (4, .int z14), (7, .int r2), (0, .ref h0), (6, .int v6)]) hx hb dX10_hit_112 rfl hl (by decide) rfl (fun ls hl => ?_)
          refine lv_aload_n hx hb dX10_hit_113 rfl (lv_at hl 4 rfl) ?_
          refine lv_iload_n hx hb dX10_hit_114 rfl (lv_at hl 0 rfl) ?_
          refine tc_callp (mc_runV (As := [.int r2]) (rest := []) E hG (c_X10_manyOf l G Y h0 r2 t0 (by omega) (by omega)) t0 rfl kv_X10_manyOf ml_X10_117 ⟨rfl, rfl, Nat.le_of_ble_eq_true rfl, Nat.le_of_ble_eq_true rfl⟩ rfl hl.1 rfl (Nat.le_of_ble_eq_true rfl) ⟨Nat.zero_le _, Nat.zero_le _⟩ dX10_hit_115) (fun r18 pr18 => ?_)
          have pr18 : mV Y (ix r2.toInt 10) r18 := pr18
          have br18 := mV_10 pr18 (by omega)
          have cr18 := mT pr18 hT (by omega) (by omega) (by decide) (by decide)
          refine lv_iconst (v := 1) hx hb dX10_hit_118 (by decide) ?_
          refine lv_isub hx hb dX10_hit_119 ?_
          refine lv_topi (fun z19 ez19 => ?_)
          have tz19 := tn_sub ez19 rfl kI_1 (by omega) (by omega)
          refine lv_istore (lv' := [(6, .int z19), (3, .int r2), (5, .int z17), (4, .int z14), (7, .int r2), (0, .ref h0)]) hx hb dX10_hit_120 hl (by decide) rfl (fun ls hl => ?_)
          refine lv_goto (tgt := 128) hx hb dX10_hit_122 (by decide) ?_
          refine lv_goto (tgt := 39) hx hb dX10_hit_128 (by decide) ?_
          exact ih39 ls r2 z14 z17 z19 (lv_sub hl [5, 1, 3, 2, 0] rfl) (by omega) (by omega) (by omega) (by omega) (by omega) (by omega)
  refine lv_aload_n hx hb dX10_hit_0 rfl (lv_at hl 0 rfl) ?_
  refine mc_getn E hG t0 ff_X10_9 dX10_hit_1 (fun oa20 hoa20 => ?_)
  refine lv_iconst (v := 0) hx hb dX10_hit_4 (by decide) ?_
  refine mc_nald E hG hoa20 hG.2.2.1 (t_in (by decide) (by decide)) dX10_hit_5 (fun z21 lz21 uz21 qz21 => ?_)
  have lz21 : -1 ≤ z21.toInt := lz21
  have uz21 : z21.toInt ≤ 23 := uz21
  refine lv_istore_n (lv' := [(3, .int z21), (0, .ref h0), (1, .int x1), (2, .int x2)]) hx hb dX10_hit_6 rfl hl (by decide) rfl (fun ls hl => ?_)
  refine lv_iload_n hx hb dX10_hit_7 rfl (lv_at hl 0 rfl) ?_
  refine lv_if_lt (tgt := 21) hx hb dX10_hit_8 (by decide) (fun c22 => ?_) (fun c22 => ?_)
  · skip
    have ic22 := tn_lt rfl kI_0 c22
    refine lv_bipush (v := -5) hx hb dX10_hit_21 (by decide) ?_
    exact tc_pret E hr hlk eH eL rfl trivial dX10_hit_23
  · skip
    have ic22 := tn_nlt rfl kI_0 c22
    refine lv_aload_n hx hb dX10_hit_11 rfl (lv_at hl 1 rfl) ?_
    refine lv_iload_n hx hb dX10_hit_12 rfl (lv_at hl 0 rfl) ?_
    refine lv_iload_n hx hb dX10_hit_13 rfl (lv_at hl 2 rfl) ?_
    refine lv_iload_n hx hb dX10_hit_14 rfl (lv_at hl 3 rfl) ?_
    refine tc_callp (mc_runV (As := [.int z21, .int x1, .int x2]) (rest := []) E hG (c_X10_isAt l G Y h0 z21 x1 x2 t0 (by omega) (by omega)) t0 rfl kv_X10_isAt ml_X10_334 ⟨rfl, rfl, Nat.le_of_ble_eq_true rfl, Nat.le_of_ble_eq_true rfl⟩ rfl hl.1 rfl (Nat.le_of_ble_eq_true rfl) ⟨Nat.zero_le _, Nat.zero_le _⟩ dX10_hit_15) (fun r23 pr23 => ?_)
    have pr23 : 0 ≤ r23.toInt ∧ r23.toInt ≤ 1 := pr23
    refine lv_if_ne (tgt := 24) hx hb dX10_hit_18 (by decide) (fun c24 => ?_) (fun c24 => ?_)
    · skip
      have ic24 := tn_ne rfl kI_0 c24
      refine lv_iload_n hx hb dX10_hit_24 rfl (lv_at hl 2 rfl) ?_
      refine lv_istore (lv' := [(4, .int x1), (3, .int z21), (0, .ref h0), (1, .int x1), (2, .int x2)]) hx hb dX10_hit_25 hl (by decide) rfl (fun ls hl => ?_)
      refine lv_iload_n hx hb dX10_hit_27 rfl (lv_at hl 4 rfl) ?_
      refine lv_istore (lv' := [(5, .int x2), (4, .int x1), (3, .int z21), (0, .ref h0), (1, .int x1), (2, .int x2)]) hx hb dX10_hit_28 hl (by decide) rfl (fun ls hl => ?_)
      refine lv_aload_n hx hb dX10_hit_30 rfl (lv_at hl 3 rfl) ?_
      refine lv_iload_n hx hb dX10_hit_31 rfl (lv_at hl 2 rfl) ?_
      refine tc_callp (mc_runV (As := [.int z21]) (rest := []) E hG (c_X10_manyOf l G Y h0 z21 t0 (by omega) (by omega)) t0 rfl kv_X10_manyOf ml_X10_117 ⟨rfl, rfl, Nat.le_of_ble_eq_true rfl, Nat.le_of_ble_eq_true rfl⟩ rfl hl.1 rfl (Nat.le_of_ble_eq_true rfl) ⟨Nat.zero_le _, Nat.zero_le _⟩ dX10_hit_32) (fun r25 pr25 => ?_)
      have pr25 : mV Y (ix z21.toInt 10) r25 := pr25
      have br25 := mV_10 pr25 (by omega)
      have cr25 := mT pr25 hT (by omega) (by omega) (by decide) (by decide)
      refine lv_iconst (v := 1) hx hb dX10_hit_35 (by decide) ?_
      refine lv_isub hx hb dX10_hit_36 ?_
      refine lv_topi (fun z26 ez26 => ?_)
      have tz26 := tn_sub ez26 rfl kI_1 (by omega) (by omega)
      refine lv_istore (lv' := [(6, .int z26), (5, .int x2), (4, .int x1), (3, .int z21), (0, .ref h0), (1, .int x1), (2, .int x2)]) hx hb dX10_hit_37 hl (by decide) rfl (fun ls hl => ?_)
      exact J39 ((9 * (24 - z21.toInt) + z26.toInt + 1).toNat + 1) ls z21 x1 x2 z26 (lv_sub hl [4, 3, 2, 1, 0] rfl) (by omega) (by omega) (by omega) (by omega) (by omega) (Nat.lt_succ_self _)
    · skip
      have ic24 := tn_eq rfl kI_0 c24
      refine lv_bipush (v := -5) hx hb dX10_hit_21 (by decide) ?_
      exact tc_pret E hr hlk eH eL rfl trivial dX10_hit_23

set_option maxHeartbeats 4000000 in
set_option maxRecDepth 100000 in
theorem c_X10_hasPart (l : Launch) (G : tG) (Y : mY) (h0 : Nat) (x1 : Int32) (x2 : Int32) (t0 : Y.1 h0 = 1) (l1 : 0 ≤ x1.toInt) (u1 : x1.toInt ≤ 23) (l2 : 0 ≤ x2.toInt) (u2 : x2.toInt ≤ 23) : Met l yX10_hasPart (.code yX10_hasPart cX10_hasPart 3 (some .boolean) :: tWS) (tRm 2 44) (va_Pc [.ref h0, .int x1, .int x2] (mPre G Y)) (tQp (fun r => (0 ≤ r.toInt ∧ r.toInt ≤ 1) ∧ (r.toInt = 0 ∨ ∃ v : Int32, 0 < v.toInt ∧ mV Y (ix x2.toInt 6) v))) 0 0 tNo := by
  refine mc_met (by decide) (Nat.le_of_ble_eq_true rfl) ?_
  intro p e s m below meth c E hr hlk hG ls hl
  have hl : lv_has ls 3 [(0, .ref h0), (1, .int x1), (2, .int x2)] := hl
  have hx := E.1
  have hb := E.2.1
  obtain ⟨H, eH⟩ : ∃ H, H = s.heap := ⟨_, rfl⟩
  obtain ⟨locs, eL⟩ : ∃ x : List Loc, x = [] := ⟨_, rfl⟩
  have hG : mGH G Y s H locs := by rw [eH, eL]; exact hG
  suffices hW : W p l e (tRm 2 44) s m ([.ref h0, .int x1, .int x2] : List Value).toArray below meth c H locs 0 0 (MQ below (tQp (fun r => (0 ≤ r.toInt ∧ r.toInt ≤ 1) ∧ (r.toInt = 0 ∨ ∃ v : Int32, 0 < v.toInt ∧ mV Y (ix x2.toInt 6) v))) ([.ref h0, .int x1, .int x2] : List Value).toArray s 0 0 tNo) (F0 m 0 ls []) by subst eH; subst eL; exact hW
  refine lv_aload_n hx hb dX10_hasPart_0 rfl (lv_at hl 0 rfl) ?_
  refine lv_iload_n hx hb dX10_hasPart_1 rfl (lv_at hl 2 rfl) ?_
  refine lv_bipush (v := 6) hx hb dX10_hasPart_2 (by decide) ?_
  refine tc_callp (mc_runV (As := [.int x2, .int 6]) (rest := []) E hG (c_X10_get l G Y h0 x2 (6 : Int32) t0 (by omega) (by omega) (by decide) (by decide)) t0 rfl kv_X10_get ml_X10_91 ⟨rfl, rfl, Nat.le_of_ble_eq_true rfl, Nat.le_of_ble_eq_true rfl⟩ rfl hl.1 rfl (Nat.le_of_ble_eq_true rfl) ⟨Nat.zero_le _, Nat.zero_le _⟩ dX10_hasPart_4) (fun r1 pr1 => ?_)
  have pr1 : mV Y (ix x2.toInt (6 : Int32).toInt) r1 := pr1
  have pr1 := mV_l pr1 kI_6
  have br1 := mV_6 pr1 (by omega)
  have k2 := kI_6
  refine lv_if_le (tgt := 34) hx hb dX10_hasPart_7 (by decide) (fun c3 => ?_) (fun c3 => ?_)
  · skip
    have ic3 := tn_le rfl kI_0 c3
    refine lv_iconst (v := 0) hx hb dX10_hasPart_34 (by decide) ?_
    exact tc_pret E hr hlk eH eL (t_nz (by decide) (by decide)).1 (show (0 ≤ (0 : Int32).toInt ∧ (0 : Int32).toInt ≤ 1) ∧ ((0 : Int32).toInt = 0 ∨ ∃ v : Int32, 0 < v.toInt ∧ mV Y (ix x2.toInt 6) v) by have kk := kI_0; first | exact ⟨by omega, Or.inl (by omega)⟩ | exact ⟨by omega, Or.inr (mV_sh (by assumption) (by omega))⟩) dX10_hasPart_35
  · skip
    have ic3 := tn_nle rfl kI_0 c3
    refine lv_aload_n hx hb dX10_hasPart_10 rfl (lv_at hl 0 rfl) ?_
    refine lv_iload_n hx hb dX10_hasPart_11 rfl (lv_at hl 1 rfl) ?_
    refine lv_aload_n hx hb dX10_hasPart_12 rfl (lv_at hl 0 rfl) ?_
    refine lv_iload_n hx hb dX10_hasPart_13 rfl (lv_at hl 1 rfl) ?_
    refine lv_iconst (v := 1) hx hb dX10_hasPart_14 (by decide) ?_
    refine tc_callp (mc_runV (As := [.int x1, .int 1]) (rest := [.int x1, .ref h0]) E hG (c_X10_get l G Y h0 x1 (1 : Int32) t0 (by omega) (by omega) (by decide) (by decide)) t0 rfl kv_X10_get ml_X10_91 ⟨rfl, rfl, Nat.le_of_ble_eq_true rfl, Nat.le_of_ble_eq_true rfl⟩ rfl hl.1 rfl (Nat.le_of_ble_eq_true rfl) ⟨Nat.zero_le _, Nat.zero_le _⟩ dX10_hasPart_15) (fun r4 pr4 => ?_)
    have pr4 : mV Y (ix x1.toInt (1 : Int32).toInt) r4 := pr4
    have pr4 := mV_l pr4 kI_1
    have br4 := mV_1 pr4 (by omega)
    have k5 := kI_1
    refine tc_callp (mc_runS (As := [.int r4]) (rest := [.int x1, .ref h0]) E hG (c_X10_alongOf l G Y r4) ks_X10_alongOf ml_X10_252 ⟨rfl, rfl, Nat.le_of_ble_eq_true rfl, Nat.le_of_ble_eq_true rfl⟩ rfl hl.1 rfl (Nat.le_of_ble_eq_true rfl) ⟨Nat.zero_le _, Nat.zero_le _⟩ dX10_hasPart_18) (fun r6 pr6 => ?_)
    have pr6 : 0 ≤ r6.toInt ∧ r6.toInt ≤ 1 := pr6
    refine tc_callp (mc_runV (As := [.int x1, .int r6]) (rest := []) E hG (c_X10_most l G Y h0 x1 r6 t0 (by omega) (by omega) (by omega) (by omega)) t0 rfl kv_X10_most ml_X10_227 ⟨rfl, rfl, Nat.le_of_ble_eq_true rfl, Nat.le_of_ble_eq_true rfl⟩ rfl hl.1 rfl (Nat.le_of_ble_eq_true rfl) ⟨Nat.zero_le _, Nat.zero_le _⟩ dX10_hasPart_21) (fun r7 pr7 => ?_)
    have pr7 : 0 ≤ r7.toInt ∧ r7.toInt ≤ 1000 := pr7
    refine lv_sipush (v := 1000) hx hb dX10_hasPart_24 (by decide) ?_
    refine lv_icmp_eq (tgt := 34) hx hb dX10_hasPart_27 (by decide) (fun c8 => ?_) (fun c8 => ?_)
    · skip
      have ic8 := tn_eq rfl kI_1000 c8
      refine lv_iconst (v := 0) hx hb dX10_hasPart_34 (by decide) ?_
      exact tc_pret E hr hlk eH eL (t_nz (by decide) (by decide)).1 (show (0 ≤ (0 : Int32).toInt ∧ (0 : Int32).toInt ≤ 1) ∧ ((0 : Int32).toInt = 0 ∨ ∃ v : Int32, 0 < v.toInt ∧ mV Y (ix x2.toInt 6) v) by have kk := kI_0; first | exact ⟨by omega, Or.inl (by omega)⟩ | exact ⟨by omega, Or.inr (mV_sh (by assumption) (by omega))⟩) dX10_hasPart_35
    · skip
      have ic8 := tn_ne rfl kI_1000 c8
      refine lv_iconst (v := 1) hx hb dX10_hasPart_30 (by decide) ?_
      refine lv_goto (tgt := 35) hx hb dX10_hasPart_31 (by decide) ?_
      exact tc_pret E hr hlk eH eL (t_nz (by decide) (by decide)).1 (show (0 ≤ (1 : Int32).toInt ∧ (1 : Int32).toInt ≤ 1) ∧ ((1 : Int32).toInt = 0 ∨ ∃ v : Int32, 0 < v.toInt ∧ mV Y (ix x2.toInt 6) v) by have kk := kI_1; first | exact ⟨by omega, Or.inl (by omega)⟩ | exact ⟨by omega, Or.inr (mV_sh (by assumption) (by omega))⟩) dX10_hasPart_35

set_option maxHeartbeats 4000000 in
set_option maxRecDepth 100000 in
theorem c_X10_isToldGood (l : Launch) (G : tG) (Y : mY) (h0 : Nat) (x1 : Int32) (x2 : Int32) (x3 : Int32) (t0 : Y.1 h0 = 1) (l1 : 0 ≤ x1.toInt) (u1 : x1.toInt ≤ 23) (l2 : 0 ≤ x2.toInt) (u2 : x2.toInt ≤ 6) (t : Nat → Int32) (hT : TI Y t) (hI : TInv t) : Met l yX10_isToldGood (.code yX10_isToldGood cX10_isToldGood 5 (some .boolean) :: tWS) (tRm 2 47) (va_Pc [.ref h0, .int x1, .int x2, .int x3] (mPre G Y)) (tQp (fun r => r.toInt = 0 ∨ (r.toInt = 1 ∧ 0 ≤ x3.toInt ∧ x3.toInt ≤ 99 ∧ (¬ x2.toInt = 4 ∨ x3.toInt ≤ 9) ∧ (4 ≤ x2.toInt ∨ ¬ K t x1.toInt 1 = 6 ∨ 1 ≤ x3.toInt)))) 0 0 tNo := by
  refine mc_met (by decide) (Nat.le_of_ble_eq_true rfl) ?_
  intro p e s m below meth c E hr hlk hG ls hl
  have hl : lv_has ls 5 [(0, .ref h0), (1, .int x1), (2, .int x2), (3, .int x3)] := hl
  have hx := E.1
  have hb := E.2.1
  obtain ⟨H, eH⟩ : ∃ H, H = s.heap := ⟨_, rfl⟩
  obtain ⟨locs, eL⟩ : ∃ x : List Loc, x = [] := ⟨_, rfl⟩
  have hG : mGH G Y s H locs := by rw [eH, eL]; exact hG
  suffices hW : W p l e (tRm 2 47) s m ([.ref h0, .int x1, .int x2, .int x3] : List Value).toArray below meth c H locs 0 0 (MQ below (tQp (fun r => r.toInt = 0 ∨ (r.toInt = 1 ∧ 0 ≤ x3.toInt ∧ x3.toInt ≤ 99 ∧ (¬ x2.toInt = 4 ∨ x3.toInt ≤ 9) ∧ (4 ≤ x2.toInt ∨ ¬ K t x1.toInt 1 = 6 ∨ 1 ≤ x3.toInt)))) ([.ref h0, .int x1, .int x2, .int x3] : List Value).toArray s 0 0 tNo) (F0 m 0 ls []) by subst eH; subst eL; exact hW
  refine lv_aload_n hx hb dX10_isToldGood_0 rfl (lv_at hl 0 rfl) ?_
  refine lv_iload_n hx hb dX10_isToldGood_1 rfl (lv_at hl 1 rfl) ?_
  refine lv_iconst (v := 1) hx hb dX10_isToldGood_2 (by decide) ?_
  refine tc_callp (mc_runV (As := [.int x1, .int 1]) (rest := []) E hG (c_X10_get l G Y h0 x1 (1 : Int32) t0 (by omega) (by omega) (by decide) (by decide)) t0 rfl kv_X10_get ml_X10_91 ⟨rfl, rfl, Nat.le_of_ble_eq_true rfl, Nat.le_of_ble_eq_true rfl⟩ rfl hl.1 rfl (Nat.le_of_ble_eq_true rfl) ⟨Nat.zero_le _, Nat.zero_le _⟩ dX10_isToldGood_3) (fun r1 pr1 => ?_)
  have pr1 : mV Y (ix x1.toInt (1 : Int32).toInt) r1 := pr1
  have pr1 := mV_l pr1 kI_1
  have br1 := mV_1 pr1 (by omega)
  have cr1 := mT pr1 hT (by omega) (by omega) (by decide) (by decide)
  have k2 := kI_1
  refine lv_istore (lv' := [(4, .int r1), (0, .ref h0), (1, .int x1), (2, .int x2), (3, .int x3)]) hx hb dX10_isToldGood_6 hl (by decide) rfl (fun ls hl => ?_)
  refine lv_iload_n hx hb dX10_isToldGood_8 rfl (lv_at hl 3 rfl) ?_
  rcases (show (x2.toInt < 4 ∨ 6 < x2.toInt) ∨ x2.toInt = 4 ∨ x2.toInt = 5 ∨ x2.toInt = 6 by omega) with k3 | k3 | k3 | k3
  · refine lv_tableOut (tgt := 78) hx hb dX10_isToldGood_9 k3 (by decide) ?_
    refine lv_iload hx hb dX10_isToldGood_78 (lv_at hl 0 rfl) ?_
    refine lv_iload_n hx hb dX10_isToldGood_80 rfl (lv_at hl 3 rfl) ?_
    refine lv_iload_n hx hb dX10_isToldGood_81 rfl (lv_at hl 4 rfl) ?_
    refine tc_callp (mc_runS (As := [.int r1, .int x2, .int x3]) (rest := []) E hG (c_X10_mayBe l G Y r1 x2 x3) ks_X10_mayBe ml_X10_120 ⟨rfl, rfl, Nat.le_of_ble_eq_true rfl, Nat.le_of_ble_eq_true rfl⟩ rfl hl.1 rfl (Nat.le_of_ble_eq_true rfl) ⟨Nat.zero_le _, Nat.zero_le _⟩ dX10_isToldGood_82) (fun r4 pr4 => ?_)
    have pr4 : (r4.toInt = 1 ∧ 0 ≤ x3.toInt ∧ x3.toInt ≤ 99 ∧ (r1.toInt = 6 → 1 ≤ x3.toInt)) ∨ r4.toInt = 0 := pr4
    refine lv_if_ne (tgt := 90) hx hb dX10_isToldGood_85 (by decide) (fun c5 => ?_) (fun c5 => ?_)
    · skip
      have ic5 := tn_ne rfl kI_0 c5
      refine lv_iload hx hb dX10_isToldGood_90 (lv_at hl 0 rfl) ?_
      refine lv_iconst (v := 3) hx hb dX10_isToldGood_92 (by decide) ?_
      refine lv_icmp_ne (tgt := 133) hx hb dX10_isToldGood_93 (by decide) (fun c6 => ?_) (fun c6 => ?_)
      · skip
        have ic6 := tn_ne rfl kI_3 c6
        refine lv_iconst (v := 1) hx hb dX10_isToldGood_133 (by decide) ?_
        refine lv_goto (tgt := 138) hx hb dX10_isToldGood_134 (by decide) ?_
        exact tc_pret E hr hlk eH eL (t_nz (by decide) (by decide)).1 (show (1 : Int32).toInt = 0 ∨ ((1 : Int32).toInt = 1 ∧ 0 ≤ x3.toInt ∧ x3.toInt ≤ 99 ∧ (¬ x2.toInt = 4 ∨ x3.toInt ≤ 9) ∧ (4 ≤ x2.toInt ∨ ¬ K t x1.toInt 1 = 6 ∨ 1 ≤ x3.toInt)) by have kk := kI_1; omega) dX10_isToldGood_138
      · skip
        have ic6 := tn_eq rfl kI_3 c6
        refine lv_iload_n hx hb dX10_isToldGood_96 rfl (lv_at hl 3 rfl) ?_
        refine lv_iconst (v := 2) hx hb dX10_isToldGood_97 (by decide) ?_
        refine lv_irem hx hb dX10_isToldGood_98 (by decide) ?_
        refine lv_topi (fun z7 ez7 => ?_)
        have tz7 := tn_rem ez7 kI_2 (by omega) (by decide)
        refine lv_if_ne (tgt := 119) hx hb dX10_isToldGood_99 (by decide) (fun c8 => ?_) (fun c8 => ?_)
        · skip
          have ic8 := tn_ne rfl kI_0 c8
          refine lv_iload_n hx hb dX10_isToldGood_119 rfl (lv_at hl 4 rfl) ?_
          refine lv_aload_n hx hb dX10_isToldGood_120 rfl (lv_at hl 1 rfl) ?_
          refine lv_iload_n hx hb dX10_isToldGood_121 rfl (lv_at hl 2 rfl) ?_
          refine lv_iconst (v := 2) hx hb dX10_isToldGood_122 (by decide) ?_
          refine lv_iload_n hx hb dX10_isToldGood_123 rfl (lv_at hl 3 rfl) ?_
          refine lv_iadd hx hb dX10_isToldGood_124 ?_
          refine lv_topi (fun z9 ez9 => ?_)
          have tz9 := tn_add ez9 kI_2 rfl (by omega) (by omega)
          refine lv_iconst (v := 1) hx hb dX10_isToldGood_125 (by decide) ?_
          refine lv_isub hx hb dX10_isToldGood_126 ?_
          refine lv_topi (fun z10 ez10 => ?_)
          have tz10 := tn_sub ez10 rfl kI_1 (by omega) (by omega)
          refine tc_callp (mc_runV (As := [.int x1, .int z10]) (rest := [.int x3]) E hG (c_X10_get l G Y h0 x1 z10 t0 (by omega) (by omega) (by omega) (by omega)) t0 rfl kv_X10_get ml_X10_91 ⟨rfl, rfl, Nat.le_of_ble_eq_true rfl, Nat.le_of_ble_eq_true rfl⟩ rfl hl.1 rfl (Nat.le_of_ble_eq_true rfl) ⟨Nat.zero_le _, Nat.zero_le _⟩ dX10_isToldGood_127) (fun r11 pr11 => ?_)
          have pr11 : mV Y (ix x1.toInt z10.toInt) r11 := pr11
          have br11 := mV_r 1 7 (0) (99) pr11 (by omega) (by omega) (by omega) (by decide) (by decide)
          refine lv_icmp_lt (tgt := 137) hx hb dX10_isToldGood_130 (by decide) (fun c12 => ?_) (fun c12 => ?_)
          · skip
            have ic12 := tn_lt rfl rfl c12
            refine lv_iconst (v := 0) hx hb dX10_isToldGood_137 (by decide) ?_
            exact tc_pret E hr hlk eH eL (t_nz (by decide) (by decide)).1 (show (0 : Int32).toInt = 0 ∨ ((0 : Int32).toInt = 1 ∧ 0 ≤ x3.toInt ∧ x3.toInt ≤ 99 ∧ (¬ x2.toInt = 4 ∨ x3.toInt ≤ 9) ∧ (4 ≤ x2.toInt ∨ ¬ K t x1.toInt 1 = 6 ∨ 1 ≤ x3.toInt)) by have kk := kI_0; omega) dX10_isToldGood_138
          · skip
            have ic12 := tn_nlt rfl rfl c12
            refine lv_iconst (v := 1) hx hb dX10_isToldGood_133 (by decide) ?_
            refine lv_goto (tgt := 138) hx hb dX10_isToldGood_134 (by decide) ?_
            exact tc_pret E hr hlk eH eL (t_nz (by decide) (by decide)).1 (show (1 : Int32).toInt = 0 ∨ ((1 : Int32).toInt = 1 ∧ 0 ≤ x3.toInt ∧ x3.toInt ≤ 99 ∧ (¬ x2.toInt = 4 ∨ x3.toInt ≤ 9) ∧ (4 ≤ x2.toInt ∨ ¬ K t x1.toInt 1 = 6 ∨ 1 ≤ x3.toInt)) by have kk := kI_1; omega) dX10_isToldGood_138
        · skip
          have ic8 := tn_eq rfl kI_0 c8
          refine lv_iload_n hx hb dX10_isToldGood_102 rfl (lv_at hl 4 rfl) ?_
          refine lv_aload_n hx hb dX10_isToldGood_103 rfl (lv_at hl 1 rfl) ?_
          refine lv_iload_n hx hb dX10_isToldGood_104 rfl (lv_at hl 2 rfl) ?_
          refine lv_iconst (v := 2) hx hb dX10_isToldGood_105 (by decide) ?_
          refine lv_iload_n hx hb dX10_isToldGood_106 rfl (lv_at hl 3 rfl) ?_
          refine lv_iadd hx hb dX10_isToldGood_107 ?_
          refine lv_topi (fun z13 ez13 => ?_)
          have tz13 := tn_add ez13 kI_2 rfl (by omega) (by omega)
          refine lv_iconst (v := 1) hx hb dX10_isToldGood_108 (by decide) ?_
          refine lv_iadd hx hb dX10_isToldGood_109 ?_
          refine lv_topi (fun z14 ez14 => ?_)
          have tz14 := tn_add ez14 rfl kI_1 (by omega) (by omega)
          refine tc_callp (mc_runV (As := [.int x1, .int z14]) (rest := [.int x3]) E hG (c_X10_get l G Y h0 x1 z14 t0 (by omega) (by omega) (by omega) (by omega)) t0 rfl kv_X10_get ml_X10_91 ⟨rfl, rfl, Nat.le_of_ble_eq_true rfl, Nat.le_of_ble_eq_true rfl⟩ rfl hl.1 rfl (Nat.le_of_ble_eq_true rfl) ⟨Nat.zero_le _, Nat.zero_le _⟩ dX10_isToldGood_110) (fun r15 pr15 => ?_)
          have pr15 : mV Y (ix x1.toInt z14.toInt) r15 := pr15
          have br15 := mV_r 3 9 (-1) (99) pr15 (by omega) (by omega) (by omega) (by decide) (by decide)
          refine lv_icmp_gt (tgt := 137) hx hb dX10_isToldGood_113 (by decide) (fun c16 => ?_) (fun c16 => ?_)
          · skip
            have ic16 := tn_lt rfl rfl c16
            refine lv_iconst (v := 0) hx hb dX10_isToldGood_137 (by decide) ?_
            exact tc_pret E hr hlk eH eL (t_nz (by decide) (by decide)).1 (show (0 : Int32).toInt = 0 ∨ ((0 : Int32).toInt = 1 ∧ 0 ≤ x3.toInt ∧ x3.toInt ≤ 99 ∧ (¬ x2.toInt = 4 ∨ x3.toInt ≤ 9) ∧ (4 ≤ x2.toInt ∨ ¬ K t x1.toInt 1 = 6 ∨ 1 ≤ x3.toInt)) by have kk := kI_0; omega) dX10_isToldGood_138
          · skip
            have ic16 := tn_nlt rfl rfl c16
            refine lv_goto (tgt := 133) hx hb dX10_isToldGood_116 (by decide) ?_
            refine lv_iconst (v := 1) hx hb dX10_isToldGood_133 (by decide) ?_
            refine lv_goto (tgt := 138) hx hb dX10_isToldGood_134 (by decide) ?_
            exact tc_pret E hr hlk eH eL (t_nz (by decide) (by decide)).1 (show (1 : Int32).toInt = 0 ∨ ((1 : Int32).toInt = 1 ∧ 0 ≤ x3.toInt ∧ x3.toInt ≤ 99 ∧ (¬ x2.toInt = 4 ∨ x3.toInt ≤ 9) ∧ (4 ≤ x2.toInt ∨ ¬ K t x1.toInt 1 = 6 ∨ 1 ≤ x3.toInt)) by have kk := kI_1; omega) dX10_isToldGood_138
    · skip
      have ic5 := tn_eq rfl kI_0 c5
      refine lv_iconst (v := 0) hx hb dX10_isToldGood_88 (by decide) ?_
      exact tc_pret E hr hlk eH eL (t_nz (by decide) (by decide)).1 (show (0 : Int32).toInt = 0 ∨ ((0 : Int32).toInt = 1 ∧ 0 ≤ x3.toInt ∧ x3.toInt ≤ 99 ∧ (¬ x2.toInt = 4 ∨ x3.toInt ≤ 9) ∧ (4 ≤ x2.toInt ∨ ¬ K t x1.toInt 1 = 6 ∨ 1 ≤ x3.toInt)) by have kk := kI_0; omega) dX10_isToldGood_89
  · refine lv_tableIn (off := 27) (tgt := 36) hx hb dX10_isToldGood_9 (by rw [k3]; decide) (by rw [k3]; decide) (by rw [k3]; rfl) (by decide) ?_
    refine lv_iload_n hx hb dX10_isToldGood_36 rfl (lv_at hl 4 rfl) ?_
    refine lv_i2l hx hb dX10_isToldGood_37 rfl ?_
    refine lv_topl (fun z17 ez17 => ?_)
    have tz17 := tl_i2l ez17
    refine lv_lconst (v := 0) hx hb dX10_isToldGood_38 (by decide) ?_
    refine lv_topl (fun z18 ez18 => ?_)
    have tz18 : z18.toInt = 0 := by rw [ez18]; decide
    refine lv_ldc2 (v := 9) hx hb E.2.2.2.1 (E.2.2.2.2.1 _ (t_w6 174 rfl rfl)) dX10_isToldGood_39 ?_
    refine lv_topl (fun z19 ez19 => ?_)
    have tz19 : z19.toInt = 9 := by rw [ez19]; decide
    refine tc_callp (mc_runS (As := [.long z17, .long z18, .long z19]) (rest := []) E hG (c_X10_in l G Y z17 z18 z19) ks_X10_in ml_X10_87 ⟨rfl, rfl, Nat.le_of_ble_eq_true rfl, Nat.le_of_ble_eq_true rfl⟩ rfl hl.1 rfl (Nat.le_of_ble_eq_true rfl) ⟨Nat.zero_le _, Nat.zero_le _⟩ dX10_isToldGood_42) (fun r20 pr20 => ?_)
    have pr20 : ((r20.toInt = 1 ∧ z18.toInt ≤ z17.toInt ∧ z17.toInt ≤ z19.toInt) ∨ (r20.toInt = 0 ∧ (z17.toInt < z18.toInt ∨ z19.toInt < z17.toInt))) := pr20
    exact tc_pret E hr hlk eH eL (t_nz (by omega) (by omega)).1 (show r20.toInt = 0 ∨ (r20.toInt = 1 ∧ 0 ≤ x3.toInt ∧ x3.toInt ≤ 99 ∧ (¬ x2.toInt = 4 ∨ x3.toInt ≤ 9) ∧ (4 ≤ x2.toInt ∨ ¬ K t x1.toInt 1 = 6 ∨ 1 ≤ x3.toInt)) by omega) dX10_isToldGood_45
  · refine lv_tableIn (off := 37) (tgt := 46) hx hb dX10_isToldGood_9 (by rw [k3]; decide) (by rw [k3]; decide) (by rw [k3]; rfl) (by decide) ?_
    refine lv_iload_n hx hb dX10_isToldGood_46 rfl (lv_at hl 4 rfl) ?_
    refine lv_i2l hx hb dX10_isToldGood_47 rfl ?_
    refine lv_topl (fun z21 ez21 => ?_)
    have tz21 := tl_i2l ez21
    refine lv_lconst (v := 0) hx hb dX10_isToldGood_48 (by decide) ?_
    refine lv_topl (fun z22 ez22 => ?_)
    have tz22 : z22.toInt = 0 := by rw [ez22]; decide
    refine lv_aload_n hx hb dX10_isToldGood_49 rfl (lv_at hl 1 rfl) ?_
    refine lv_iload_n hx hb dX10_isToldGood_50 rfl (lv_at hl 2 rfl) ?_
    refine lv_bipush (v := 8) hx hb dX10_isToldGood_51 (by decide) ?_
    refine tc_callp (mc_runV (As := [.int x1, .int 8]) (rest := [.long z22, .long z21]) E hG (c_X10_get l G Y h0 x1 (8 : Int32) t0 (by omega) (by omega) (by decide) (by decide)) t0 rfl kv_X10_get ml_X10_91 ⟨rfl, rfl, Nat.le_of_ble_eq_true rfl, Nat.le_of_ble_eq_true rfl⟩ rfl hl.1 rfl (Nat.le_of_ble_eq_true rfl) ⟨Nat.zero_le _, Nat.zero_le _⟩ dX10_isToldGood_53) (fun r23 pr23 => ?_)
    have pr23 : mV Y (ix x1.toInt (8 : Int32).toInt) r23 := pr23
    have pr23 := mV_l pr23 kI_8
    have br23 := mV_8 pr23 (by omega)
    have cr23 := mT pr23 hT (by omega) (by omega) (by decide) (by decide)
    have k24 := kI_8
    refine lv_i2l hx hb dX10_isToldGood_56 rfl ?_
    refine lv_topl (fun z25 ez25 => ?_)
    have tz25 := tl_i2l ez25
    refine tc_callp (mc_runS (As := [.long z21, .long z22, .long z25]) (rest := []) E hG (c_X10_in l G Y z21 z22 z25) ks_X10_in ml_X10_87 ⟨rfl, rfl, Nat.le_of_ble_eq_true rfl, Nat.le_of_ble_eq_true rfl⟩ rfl hl.1 rfl (Nat.le_of_ble_eq_true rfl) ⟨Nat.zero_le _, Nat.zero_le _⟩ dX10_isToldGood_57) (fun r26 pr26 => ?_)
    have pr26 : ((r26.toInt = 1 ∧ z22.toInt ≤ z21.toInt ∧ z21.toInt ≤ z25.toInt) ∨ (r26.toInt = 0 ∧ (z21.toInt < z22.toInt ∨ z25.toInt < z21.toInt))) := pr26
    exact tc_pret E hr hlk eH eL (t_nz (by omega) (by omega)).1 (show r26.toInt = 0 ∨ (r26.toInt = 1 ∧ 0 ≤ x3.toInt ∧ x3.toInt ≤ 99 ∧ (¬ x2.toInt = 4 ∨ x3.toInt ≤ 9) ∧ (4 ≤ x2.toInt ∨ ¬ K t x1.toInt 1 = 6 ∨ 1 ≤ x3.toInt)) by omega) dX10_isToldGood_60
  · refine lv_tableIn (off := 52) (tgt := 61) hx hb dX10_isToldGood_9 (by rw [k3]; decide) (by rw [k3]; decide) (by rw [k3]; rfl) (by decide) ?_
    refine lv_iload_n hx hb dX10_isToldGood_61 rfl (lv_at hl 4 rfl) ?_
    refine lv_i2l hx hb dX10_isToldGood_62 rfl ?_
    refine lv_topl (fun z27 ez27 => ?_)
    have tz27 := tl_i2l ez27
    refine lv_aload_n hx hb dX10_isToldGood_63 rfl (lv_at hl 1 rfl) ?_
    refine lv_iload_n hx hb dX10_isToldGood_64 rfl (lv_at hl 2 rfl) ?_
    refine lv_bipush (v := 7) hx hb dX10_isToldGood_65 (by decide) ?_
    refine tc_callp (mc_runV (As := [.int x1, .int 7]) (rest := [.long z27]) E hG (c_X10_get l G Y h0 x1 (7 : Int32) t0 (by omega) (by omega) (by decide) (by decide)) t0 rfl kv_X10_get ml_X10_91 ⟨rfl, rfl, Nat.le_of_ble_eq_true rfl, Nat.le_of_ble_eq_true rfl⟩ rfl hl.1 rfl (Nat.le_of_ble_eq_true rfl) ⟨Nat.zero_le _, Nat.zero_le _⟩ dX10_isToldGood_67) (fun r28 pr28 => ?_)
    have pr28 : mV Y (ix x1.toInt (7 : Int32).toInt) r28 := pr28
    have pr28 := mV_l pr28 kI_7
    have br28 := mV_7 pr28 (by omega)
    have cr28 := mT pr28 hT (by omega) (by omega) (by decide) (by decide)
    have k29 := kI_7
    refine lv_i2l hx hb dX10_isToldGood_70 rfl ?_
    refine lv_topl (fun z30 ez30 => ?_)
    have tz30 := tl_i2l ez30
    refine lv_ldc2 (v := 99) hx hb E.2.2.2.1 (E.2.2.2.2.1 _ (t_w6 226 rfl rfl)) dX10_isToldGood_71 ?_
    refine lv_topl (fun z31 ez31 => ?_)
    have tz31 : z31.toInt = 99 := by rw [ez31]; decide
    refine tc_callp (mc_runS (As := [.long z27, .long z30, .long z31]) (rest := []) E hG (c_X10_in l G Y z27 z30 z31) ks_X10_in ml_X10_87 ⟨rfl, rfl, Nat.le_of_ble_eq_true rfl, Nat.le_of_ble_eq_true rfl⟩ rfl hl.1 rfl (Nat.le_of_ble_eq_true rfl) ⟨Nat.zero_le _, Nat.zero_le _⟩ dX10_isToldGood_74) (fun r32 pr32 => ?_)
    have pr32 : ((r32.toInt = 1 ∧ z30.toInt ≤ z27.toInt ∧ z27.toInt ≤ z31.toInt) ∨ (r32.toInt = 0 ∧ (z27.toInt < z30.toInt ∨ z31.toInt < z27.toInt))) := pr32
    exact tc_pret E hr hlk eH eL (t_nz (by omega) (by omega)).1 (show r32.toInt = 0 ∨ (r32.toInt = 1 ∧ 0 ≤ x3.toInt ∧ x3.toInt ≤ 99 ∧ (¬ x2.toInt = 4 ∨ x3.toInt ≤ 9) ∧ (4 ≤ x2.toInt ∨ ¬ K t x1.toInt 1 = 6 ∨ 1 ≤ x3.toInt)) by omega) dX10_isToldGood_77

