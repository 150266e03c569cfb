/-! ===== the reference: small methods ===== -/
set_option maxHeartbeats 4000000 in
set_option maxRecDepth 100000 in
theorem c_X10_in (l : Launch) (G : tG) (Y : mY) (x0 : Int64) (x2 : Int64) (x4 : Int64)  : Met l yX10_in (.code yX10_in cX10_in 6 (some .boolean) :: tWS) (tRm 0 0) (va_Pc [.long x0, .long x2, .long x4] (mPre G Y)) (tQp (fun r => ((r.toInt = 1 ∧ x2.toInt ≤ x0.toInt ∧ x0.toInt ≤ x4.toInt) ∨ (r.toInt = 0 ∧ (x0.toInt < x2.toInt ∨ x4.toInt < x0.toInt))))) 0 0 tNo := by
  refine mc_met (by decide) (Nat.le_of_ble_eq_true rfl) ?_
  intro p e s m below meth c E hr hlk hG ls hl
  have hl : lv_has ls 6 [(0, .long x0), (2, .long x2), (4, .long x4)] := hl
  have hx := E.1
  have hb := E.2.1
  obtain ⟨H, eH⟩ : ∃ H, H = s.heap := ⟨_, rfl⟩
  obtain ⟨locs, eL⟩ : ∃ x : List Loc, x = [] := ⟨_, rfl⟩
  have hG : mGH G Y s H locs := by rw [eH, eL]; exact hG
  suffices hW : W p l e (tRm 0 0) s m ([.long x0, .long x2, .long x4] : List Value).toArray below meth c H locs 0 0 (MQ below (tQp (fun r => ((r.toInt = 1 ∧ x2.toInt ≤ x0.toInt ∧ x0.toInt ≤ x4.toInt) ∨ (r.toInt = 0 ∧ (x0.toInt < x2.toInt ∨ x4.toInt < x0.toInt))))) ([.long x0, .long x2, .long x4] : List Value).toArray s 0 0 tNo) (F0 m 0 ls []) by subst eH; subst eL; exact hW
  refine lv_lload_n hx hb dX10_in_0 rfl (lv_at hl 0 rfl) ?_
  refine lv_lload_n hx hb dX10_in_1 rfl (lv_at hl 1 rfl) ?_
  refine W.lcmp hx hb dX10_in_2 ?_
  refine lv_topi (fun z1 ez1 => ?_)
  have tz1 := tl_cmp ez1
  refine lv_if_lt (tgt := 17) hx hb dX10_in_3 (by decide) (fun c2 => ?_) (fun c2 => ?_)
  · skip
    have ic2 := tn_lt rfl kI_0 c2
    refine lv_iconst (v := 0) hx hb dX10_in_17 (by decide) ?_
    exact tc_pret E hr hlk eH eL (t_nz (by decide) (by decide)).1 (show (((0 : Int32).toInt = 1 ∧ x2.toInt ≤ x0.toInt ∧ x0.toInt ≤ x4.toInt) ∨ ((0 : Int32).toInt = 0 ∧ (x0.toInt < x2.toInt ∨ x4.toInt < x0.toInt))) by have kk := kI_0; omega) dX10_in_18
  · skip
    have ic2 := tn_nlt rfl kI_0 c2
    refine lv_lload_n hx hb dX10_in_6 rfl (lv_at hl 0 rfl) ?_
    refine lv_lload hx hb dX10_in_7 (lv_at hl 2 rfl) ?_
    refine W.lcmp hx hb dX10_in_9 ?_
    refine lv_topi (fun z3 ez3 => ?_)
    have tz3 := tl_cmp ez3
    refine lv_if_gt (tgt := 17) hx hb dX10_in_10 (by decide) (fun c4 => ?_) (fun c4 => ?_)
    · skip
      have ic4 := tn_lt kI_0 rfl c4
      refine lv_iconst (v := 0) hx hb dX10_in_17 (by decide) ?_
      exact tc_pret E hr hlk eH eL (t_nz (by decide) (by decide)).1 (show (((0 : Int32).toInt = 1 ∧ x2.toInt ≤ x0.toInt ∧ x0.toInt ≤ x4.toInt) ∨ ((0 : Int32).toInt = 0 ∧ (x0.toInt < x2.toInt ∨ x4.toInt < x0.toInt))) by have kk := kI_0; omega) dX10_in_18
    · skip
      have ic4 := tn_nlt kI_0 rfl c4
      refine lv_iconst (v := 1) hx hb dX10_in_13 (by decide) ?_
      refine lv_goto (tgt := 18) hx hb dX10_in_14 (by decide) ?_
      exact tc_pret E hr hlk eH eL (t_nz (by decide) (by decide)).1 (show (((1 : Int32).toInt = 1 ∧ x2.toInt ≤ x0.toInt ∧ x0.toInt ≤ x4.toInt) ∨ ((1 : Int32).toInt = 0 ∧ (x0.toInt < x2.toInt ∨ x4.toInt < x0.toInt))) by have kk := kI_1; omega) dX10_in_18

set_option maxHeartbeats 4000000 in
set_option maxRecDepth 100000 in
theorem c_X10_held (l : Launch) (G : tG) (Y : mY) (x0 : Int32) (x1 : Int32) (x2 : Int32)  : Met l yX10_held (.code yX10_held cX10_held 3 (some .int) :: tWS) (tRm 0 0) (va_Pc [.int x0, .int x1, .int x2] (mPre G Y)) (tQp (fun r => (r = x0 ∧ x1.toInt ≤ x0.toInt ∧ x0.toInt ≤ x2.toInt) ∨ (r = x1 ∧ x0.toInt < x1.toInt) ∨ (r = x2 ∧ x2.toInt < x0.toInt))) 0 0 tNo := by
  refine mc_met (by decide) (Nat.le_of_ble_eq_true rfl) ?_
  intro p e s m below meth c E hr hlk hG ls hl
  have hl : lv_has ls 3 [(0, .int x0), (1, .int x1), (2, .int x2)] := hl
  have hx := E.1
  have hb := E.2.1
  obtain ⟨H, eH⟩ : ∃ H, H = s.heap := ⟨_, rfl⟩
  obtain ⟨locs, eL⟩ : ∃ x : List Loc, x = [] := ⟨_, rfl⟩
  have hG : mGH G Y s H locs := by rw [eH, eL]; exact hG
  suffices hW : W p l e (tRm 0 0) s m ([.int x0, .int x1, .int x2] : List Value).toArray below meth c H locs 0 0 (MQ below (tQp (fun r => (r = x0 ∧ x1.toInt ≤ x0.toInt ∧ x0.toInt ≤ x2.toInt) ∨ (r = x1 ∧ x0.toInt < x1.toInt) ∨ (r = x2 ∧ x2.toInt < x0.toInt))) ([.int x0, .int x1, .int x2] : List Value).toArray s 0 0 tNo) (F0 m 0 ls []) by subst eH; subst eL; exact hW
  refine lv_iload_n hx hb dX10_held_0 rfl (lv_at hl 0 rfl) ?_
  refine lv_iload_n hx hb dX10_held_1 rfl (lv_at hl 1 rfl) ?_
  refine lv_icmp_ge (tgt := 9) hx hb dX10_held_2 (by decide) (fun c1 => ?_) (fun c1 => ?_)
  · skip
    have ic1 := tn_le rfl rfl c1
    refine lv_iload_n hx hb dX10_held_9 rfl (lv_at hl 0 rfl) ?_
    refine lv_iload_n hx hb dX10_held_10 rfl (lv_at hl 2 rfl) ?_
    refine lv_icmp_le (tgt := 18) hx hb dX10_held_11 (by decide) (fun c2 => ?_) (fun c2 => ?_)
    · skip
      have ic2 := tn_le rfl rfl c2
      refine lv_iload_n hx hb dX10_held_18 rfl (lv_at hl 0 rfl) ?_
      exact tc_pret E hr hlk eH eL rfl (show (x0 = x0 ∧ x1.toInt ≤ x0.toInt ∧ x0.toInt ≤ x2.toInt) ∨ (x0 = x1 ∧ x0.toInt < x1.toInt) ∨ (x0 = x2 ∧ x2.toInt < x0.toInt) by first | exact Or.inl ⟨rfl, by omega, by omega⟩ | exact Or.inr (Or.inl ⟨rfl, by omega⟩) | exact Or.inr (Or.inr ⟨rfl, by omega⟩)) dX10_held_19
    · skip
      have ic2 := tn_nle rfl rfl c2
      refine lv_iload_n hx hb dX10_held_14 rfl (lv_at hl 2 rfl) ?_
      refine lv_goto (tgt := 19) hx hb dX10_held_15 (by decide) ?_
      exact tc_pret E hr hlk eH eL rfl (show (x2 = x0 ∧ x1.toInt ≤ x0.toInt ∧ x0.toInt ≤ x2.toInt) ∨ (x2 = x1 ∧ x0.toInt < x1.toInt) ∨ (x2 = x2 ∧ x2.toInt < x0.toInt) by first | exact Or.inl ⟨rfl, by omega, by omega⟩ | exact Or.inr (Or.inl ⟨rfl, by omega⟩) | exact Or.inr (Or.inr ⟨rfl, by omega⟩)) dX10_held_19
  · skip
    have ic1 := tn_nle rfl rfl c1
    refine lv_iload_n hx hb dX10_held_5 rfl (lv_at hl 1 rfl) ?_
    refine lv_goto (tgt := 19) hx hb dX10_held_6 (by decide) ?_
    exact tc_pret E hr hlk eH eL rfl (show (x1 = x0 ∧ x1.toInt ≤ x0.toInt ∧ x0.toInt ≤ x2.toInt) ∨ (x1 = x1 ∧ x0.toInt < x1.toInt) ∨ (x1 = x2 ∧ x2.toInt < x0.toInt) by first | exact Or.inl ⟨rfl, by omega, by omega⟩ | exact Or.inr (Or.inl ⟨rfl, by omega⟩) | exact Or.inr (Or.inr ⟨rfl, by omega⟩)) dX10_held_19

set_option maxHeartbeats 4000000 in
set_option maxRecDepth 100000 in
theorem c_X10_ended (l : Launch) (G : tG) (Y : mY) (x0 : Int32) (l0 : 0 ≤ x0.toInt) (u0 : x0.toInt ≤ 99) : Met l yX10_ended (.code yX10_ended cX10_ended 1 (some .int) :: tWS) (tRm 0 0) (va_Pc [.int x0] (mPre G Y)) (tQp (fun r => (0 ≤ r.toInt ∧ r.toInt ≤ 1000))) 0 0 tNo := by
  refine mc_met (by decide) (Nat.le_of_ble_eq_true rfl) ?_
  intro p e s m below meth c E hr hlk hG ls hl
  have hl : lv_has ls 1 [(0, .int x0)] := hl
  have hx := E.1
  have hb := E.2.1
  obtain ⟨H, eH⟩ : ∃ H, H = s.heap := ⟨_, rfl⟩
  obtain ⟨locs, eL⟩ : ∃ x : List Loc, x = [] := ⟨_, rfl⟩
  have hG : mGH G Y s H locs := by rw [eH, eL]; exact hG
  suffices hW : W p l e (tRm 0 0) s m ([.int x0] : List Value).toArray below meth c H locs 0 0 (MQ below (tQp (fun r => (0 ≤ r.toInt ∧ r.toInt ≤ 1000))) ([.int x0] : List Value).toArray s 0 0 tNo) (F0 m 0 ls []) by subst eH; subst eL; exact hW
  refine lv_iload_n hx hb dX10_ended_0 rfl (lv_at hl 0 rfl) ?_
  refine lv_bipush (v := 99) hx hb dX10_ended_1 (by decide) ?_
  refine lv_icmp_ne (tgt := 12) hx hb dX10_ended_3 (by decide) (fun c1 => ?_) (fun c1 => ?_)
  · skip
    have ic1 := tn_ne rfl kI_99 c1
    refine lv_iload_n hx hb dX10_ended_12 rfl (lv_at hl 0 rfl) ?_
    exact tc_pret E hr hlk eH eL rfl (show (0 ≤ x0.toInt ∧ x0.toInt ≤ 1000) by omega) dX10_ended_13
  · skip
    have ic1 := tn_eq rfl kI_99 c1
    refine lv_sipush (v := 1000) hx hb dX10_ended_6 (by decide) ?_
    refine lv_goto (tgt := 13) hx hb dX10_ended_9 (by decide) ?_
    exact tc_pret E hr hlk eH eL rfl (show (0 ≤ (1000 : Int32).toInt ∧ (1000 : Int32).toInt ≤ 1000) by have kk := kI_1000; omega) dX10_ended_13

set_option maxHeartbeats 4000000 in
set_option maxRecDepth 100000 in
theorem c_X10_get (l : Launch) (G : tG) (Y : mY) (h0 : Nat) (x1 : Int32) (x2 : Int32) (t0 : Y.1 h0 = 1) (l1 : 0 ≤ x1.toInt) (u1 : x1.toInt ≤ 23) (l2 : 0 ≤ x2.toInt) (u2 : x2.toInt ≤ 37) : Met l yX10_get (.code yX10_get cX10_get 3 (some .int) :: tWS) (tRm 0 0) (va_Pc [.ref h0, .int x1, .int x2] (mPre G Y)) (tQp (fun r => mV Y (ix x1.toInt x2.toInt) r)) 0 0 tNo := by
  refine mc_met (by decide) (Nat.le_of_ble_eq_true rfl) ?_
  intro p e s m below meth c E hr hlk hG ls hl
  have hl : lv_has ls 3 [(0, .ref h0), (1, .int x1), (2, .int x2)] := hl
  have hx := E.1
  have hb := E.2.1
  obtain ⟨H, eH⟩ : ∃ H, H = s.heap := ⟨_, rfl⟩
  obtain ⟨locs, eL⟩ : ∃ x : List Loc, x = [] := ⟨_, rfl⟩
  have hG : mGH G Y s H locs := by rw [eH, eL]; exact hG
  suffices hW : W p l e (tRm 0 0) s m ([.ref h0, .int x1, .int x2] : List Value).toArray below meth c H locs 0 0 (MQ below (tQp (fun r => mV Y (ix x1.toInt x2.toInt) r)) ([.ref h0, .int x1, .int x2] : List Value).toArray s 0 0 tNo) (F0 m 0 ls []) by subst eH; subst eL; exact hW
  refine lv_aload_n hx hb dX10_get_0 rfl (lv_at hl 0 rfl) ?_
  refine mc_getn E hG t0 ff_X10_9 dX10_get_1 (fun oa1 hoa1 => ?_)
  refine lv_bipush (v := 22) hx hb dX10_get_4 (by decide) ?_
  refine lv_bipush (v := 38) hx hb dX10_get_6 (by decide) ?_
  refine lv_iload_n hx hb dX10_get_8 rfl (lv_at hl 1 rfl) ?_
  refine lv_imul hx hb dX10_get_9 ?_
  refine lv_topi (fun z2 ez2 => ?_)
  have tz2 := tn_mul ez2 kI_38 rfl (by omega) (by omega)
  refine lv_iadd hx hb dX10_get_10 ?_
  refine lv_topi (fun z3 ez3 => ?_)
  have tz3 := tn_add ez3 kI_22 rfl (by omega) (by omega)
  refine lv_iload_n hx hb dX10_get_11 rfl (lv_at hl 2 rfl) ?_
  refine lv_iadd hx hb dX10_get_12 ?_
  refine lv_topi (fun z4 ez4 => ?_)
  have tz4 := tn_add ez4 rfl rfl (by omega) (by omega)
  refine mc_nald E hG hoa1 hG.2.2.1 (t_in (by omega) (by omega)) dX10_get_13 (fun z5 lz5 uz5 qz5 => ?_)
  have hi : z4.toNatClampNeg = ix x1.toInt x2.toInt := by show z4.toInt.toNat = _; unfold ix; omega
  rw [hi] at lz5 uz5 qz5
  have hv : mV Y (ix x1.toInt x2.toInt) z5 := ⟨lz5, uz5, qz5⟩
  exact tc_pret E hr hlk eH eL rfl (show mV Y (ix x1.toInt x2.toInt) z5 by exact hv) dX10_get_14

set_option maxHeartbeats 4000000 in
set_option maxRecDepth 100000 in
theorem c_X10_put (l : Launch) (G : tG) (Y : mY) (h0 : Nat) (x1 : Int32) (x2 : Int32) (x3 : Int32) (t0 : Y.1 h0 = 1) (l1 : 0 ≤ x1.toInt) (u1 : x1.toInt ≤ 23) (l2 : 0 ≤ x2.toInt) (u2 : x2.toInt ≤ 37) (lo hi2 : Int) (hf : fR x2.toInt.toNat = (lo, hi2)) (hv1 : lo ≤ x3.toInt) (hv2 : x3.toInt ≤ hi2) (hN : Y.2.2 Y.2.1 (ix x1.toInt x2.toInt) = none) : Met l yX10_put (.code yX10_put cX10_put 4 none :: tWS) (tRm 0 0) (va_Pc [.ref h0, .int x1, .int x2, .int x3] (mPre G Y)) (mQv G Y) 0 0 (mA Y) := by
  refine mc_met (by decide) (Nat.le_of_ble_eq_true rfl) ?_
  intro p e s m below meth c E hr hlk hG ls hl
  have hl : lv_has ls 4 [(0, .ref h0), (1, .int x1), (2, .int x2), (3, .int x3)] := hl
  have hx := E.1
  have hb := E.2.1
  obtain ⟨H, eH⟩ : ∃ H, H = s.heap := ⟨_, rfl⟩
  obtain ⟨locs, eL⟩ : ∃ x : List Loc, x = [] := ⟨_, rfl⟩
  have hG : mGH G Y s H locs := by rw [eH, eL]; exact hG
  suffices hW : W p l e (tRm 0 0) s m ([.ref h0, .int x1, .int x2, .int x3] : List Value).toArray below meth c H locs 0 0 (MQ below (mQv G Y) ([.ref h0, .int x1, .int x2, .int x3] : List Value).toArray s 0 0 (mA Y)) (F0 m 0 ls []) by subst eH; subst eL; exact hW
  clear eH eL
  refine lv_aload_n hx hb dX10_put_0 rfl (lv_at hl 0 rfl) ?_
  refine mc_getn E hG t0 ff_X10_9 dX10_put_1 (fun oa1 hoa1 => ?_)
  refine lv_bipush (v := 22) hx hb dX10_put_4 (by decide) ?_
  refine lv_bipush (v := 38) hx hb dX10_put_6 (by decide) ?_
  refine lv_iload_n hx hb dX10_put_8 rfl (lv_at hl 1 rfl) ?_
  refine lv_imul hx hb dX10_put_9 ?_
  refine lv_topi (fun z2 ez2 => ?_)
  have tz2 := tn_mul ez2 kI_38 rfl (by omega) (by omega)
  refine lv_iadd hx hb dX10_put_10 ?_
  refine lv_topi (fun z3 ez3 => ?_)
  have tz3 := tn_add ez3 kI_22 rfl (by omega) (by omega)
  refine lv_iload_n hx hb dX10_put_11 rfl (lv_at hl 2 rfl) ?_
  refine lv_iadd hx hb dX10_put_12 ?_
  refine lv_topi (fun z4 ez4 => ?_)
  have tz4 := tn_add ez4 rfl rfl (by omega) (by omega)
  refine lv_iload_n hx hb dX10_put_13 rfl (lv_at hl 3 rfl) ?_
  have hi : z4.toNatClampNeg = ix x1.toInt x2.toInt := by show z4.toInt.toNat = _; unfold ix; omega
  have hf2 : nR z4.toNatClampNeg = (lo, hi2) := by rw [hi, ix_div (by omega) (by omega) (by omega)]; exact hf
  refine mc_nastX E hG hoa1 hG.2.2.1 (t_in (by omega) (by omega)) hf2 hv1 hv2 dX10_put_14 (fun H locs hG => ?_)
  rw [hi] at hG
  have hG := hG.le (mSet_none hN)
  exact mc_vret E hr hlk hG dX10_put_15

set_option maxHeartbeats 4000000 in
set_option maxRecDepth 100000 in
theorem c_X10_putX (l : Launch) (G : tG) (Y : mY) (h0 : Nat) (x1 : Int32) (x2 : Int32) (x3 : Int32) (t0 : Y.1 h0 = 1) (l1 : 0 ≤ x1.toInt) (u1 : x1.toInt ≤ 23) (l2 : 0 ≤ x2.toInt) (u2 : x2.toInt ≤ 37) (lo hi2 : Int) (hf : fR x2.toInt.toNat = (lo, hi2)) (hv1 : lo ≤ x3.toInt) (hv2 : x3.toInt ≤ hi2) : Met l yX10_put (.code yX10_put cX10_put 4 none :: tWS) (tRm 0 0) (va_Pc [.ref h0, .int x1, .int x2, .int x3] (mPre G Y)) (mQvX G Y (fun Y1 => Y1 = mSet Y Y.2.1 (ix x1.toInt x2.toInt) (some x3))) 0 0 (mA Y) := by
  refine mc_met (by decide) (Nat.le_of_ble_eq_true rfl) ?_
  intro p e s m below meth c E hr hlk hG ls hl
  have hl : lv_has ls 4 [(0, .ref h0), (1, .int x1), (2, .int x2), (3, .int x3)] := hl
  have hx := E.1
  have hb := E.2.1
  obtain ⟨H, eH⟩ : ∃ H, H = s.heap := ⟨_, rfl⟩
  obtain ⟨locs, eL⟩ : ∃ x : List Loc, x = [] := ⟨_, rfl⟩
  have hG : mGH G Y s H locs := by rw [eH, eL]; exact hG
  suffices hW : W p l e (tRm 0 0) s m ([.ref h0, .int x1, .int x2, .int x3] : List Value).toArray below meth c H locs 0 0 (MQ below (mQvX G Y (fun Y1 => Y1 = mSet Y Y.2.1 (ix x1.toInt x2.toInt) (some x3))) ([.ref h0, .int x1, .int x2, .int x3] : List Value).toArray s 0 0 (mA Y)) (F0 m 0 ls []) by subst eH; subst eL; exact hW
  clear eH eL
  refine lv_aload_n hx hb dX10_put_0 rfl (lv_at hl 0 rfl) ?_
  refine mc_getn E hG t0 ff_X10_9 dX10_put_1 (fun oa1 hoa1 => ?_)
  refine lv_bipush (v := 22) hx hb dX10_put_4 (by decide) ?_
  refine lv_bipush (v := 38) hx hb dX10_put_6 (by decide) ?_
  refine lv_iload_n hx hb dX10_put_8 rfl (lv_at hl 1 rfl) ?_
  refine lv_imul hx hb dX10_put_9 ?_
  refine lv_topi (fun z2 ez2 => ?_)
  have tz2 := tn_mul ez2 kI_38 rfl (by omega) (by omega)
  refine lv_iadd hx hb dX10_put_10 ?_
  refine lv_topi (fun z3 ez3 => ?_)
  have tz3 := tn_add ez3 kI_22 rfl (by omega) (by omega)
  refine lv_iload_n hx hb dX10_put_11 rfl (lv_at hl 2 rfl) ?_
  refine lv_iadd hx hb dX10_put_12 ?_
  refine lv_topi (fun z4 ez4 => ?_)
  have tz4 := tn_add ez4 rfl rfl (by omega) (by omega)
  refine lv_iload_n hx hb dX10_put_13 rfl (lv_at hl 3 rfl) ?_
  have hi : z4.toNatClampNeg = ix x1.toInt x2.toInt := by show z4.toInt.toNat = _; unfold ix; omega
  have hf2 : nR z4.toNatClampNeg = (lo, hi2) := by rw [hi, ix_div (by omega) (by omega) (by omega)]; exact hf
  refine mc_nastX E hG hoa1 hG.2.2.1 (t_in (by omega) (by omega)) hf2 hv1 hv2 dX10_put_14 (fun H locs hG => ?_)
  rw [hi] at hG
  exact mc_vretX E hr hlk hG rfl rfl dX10_put_15

