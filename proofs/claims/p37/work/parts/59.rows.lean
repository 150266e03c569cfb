/-! ===== the reference: rows, columns, layers; one step ===== -/
set_option maxHeartbeats 4000000 in
set_option maxRecDepth 100000 in
theorem c_X10_lineOf (l : Launch) (G : tG) (σ : Nat → Nat) (cu : Nat) (X : mX) (h0 : Nat) (x1 : Int32) (t0 : σ h0 = 1) (l1 : 0 ≤ x1.toInt) (u1 : x1.toInt ≤ 23) (t : Nat → Int32) (hT : TI (σ, cu, X) t) (hI : TInv t) (hA : mAV (σ, cu, X)) : Met l yX10_lineOf (.code yX10_lineOf cX10_lineOf 6 (some .int) :: tWS) (tRm 3 70) (va_Pc [.ref h0, .int x1] (mPre G (σ, cu, X))) (mQi G (σ, cu, X) (fun r => True)) 0 0 (mA (σ, cu, X)) := by
  refine mc_met (by decide) (Nat.le_of_ble_eq_true rfl) ?_
  intro p e s m below meth c E hr hlk hG ls hl
  have hl : lv_has ls 6 [(0, .ref h0), (1, .int x1)] := hl
  have hx := E.1
  have hb := E.2.1
  obtain ⟨H, eH⟩ : ∃ H, H = s.heap := ⟨_, rfl⟩
  obtain ⟨locs, eL⟩ : ∃ x : List Loc, x = [] := ⟨_, rfl⟩
  have hG : mGH G (σ, cu, X) s H locs := by rw [eH, eL]; exact hG
  suffices hW : W p l e (tRm 3 70) s m ([.ref h0, .int x1] : List Value).toArray below meth c H locs 0 0 (MQ below (mQi G (σ, cu, X) (fun r => True)) ([.ref h0, .int x1] : List Value).toArray s 0 0 (mA (σ, cu, X))) (F0 m 0 ls []) by subst eH; subst eL; exact hW
  clear eH eL
  have J4 : ∀ (n4 : Nat) (H : Heap) (locs : List Loc) (ls : Array Slot) (v2 : Int32) (v3 : Int32), mGH G (σ, cu, X) s H locs → lv_has ls 6 [(0, .ref h0), (1, .int x1), (2, .int v2), (3, .int v3)] → 0 ≤ v3.toInt → v3.toInt ≤ 8 → (8 - v3.toInt).toNat < n4 → W p l e (tRm 3 70) s m ([.ref h0, .int x1] : List Value).toArray below meth c H locs 0 0 (MQ below (mQi G (σ, cu, X) (fun r => True)) ([.ref h0, .int x1] : List Value).toArray s 0 0 (mA (σ, cu, X))) (F0 m 4 ls []) := by
    intro n4
    induction n4 with
    | zero => intro H locs ls v2 v3 hG hl b3 c3 hn4; exact absurd hn4 (Nat.not_lt_zero _)
    | succ n4 ih4 =>
      intro H locs ls v2 v3 hG hl b3 c3 hn4
      have J88 : ∀ (H : Heap) (locs : List Loc) (ls : Array Slot) (v3 : Int32) (vs0 : Int32), mGH G (σ, cu, X) s H locs → lv_has ls 6 [(0, .ref h0), (1, .int x1), (3, .int v3)] → 0 ≤ v3.toInt → v3.toInt ≤ 7 → (8 - v3.toInt).toNat < n4 + 1 → W p l e (tRm 3 70) s m ([.ref h0, .int x1] : List Value).toArray below meth c H locs 0 0 (MQ below (mQi G (σ, cu, X) (fun r => True)) ([.ref h0, .int x1] : List Value).toArray s 0 0 (mA (σ, cu, X))) (F0 m 88 ls [.int vs0]) := by
        intro H locs ls v3 vs0 hG hl b3 c3 hm4
        refine lv_istore_n (lv' := [(2, .int vs0), (0, .ref h0), (1, .int x1), (3, .int v3)]) hx hb dX10_lineOf_88 rfl hl (by decide) rfl (fun ls hl => ?_)
        obtain ⟨z1, ez1⟩ : ∃ y : Int32, y = v3 + (1) := ⟨_, rfl⟩
        refine lv_iinc (v := z1) (lv' := [(3, .int z1), (2, .int vs0), (0, .ref h0), (1, .int x1)]) hx hb dX10_lineOf_89 hl (k := 3) rfl (by rw [ez1]; rfl) (by decide) rfl (fun ls hl => ?_)
        have tz1 := tn_add ez1 rfl kI_1 (by omega) (by omega)
        refine lv_goto (tgt := 4) hx hb dX10_lineOf_92 (by decide) ?_
        exact ih4 H locs ls vs0 z1 hG (lv_sub hl [2, 3, 1, 0] rfl) (by omega) (by omega) (by omega)
      have J57 : ∀ (H : Heap) (locs : List Loc) (ls : Array Slot) (v2 : Int32) (v3 : Int32) (as0 : Nat) (vs1 : Int32) (vs2 : Int32), mGH G (σ, cu, X) s H locs → lv_has ls 6 [(0, .ref h0), (1, .int x1), (2, .int v2), (3, .int v3)] → 0 ≤ v3.toInt → v3.toInt ≤ 7 → σ as0 = 14 → 0 ≤ vs1.toInt → vs1.toInt ≤ 191 → 0 ≤ vs2.toInt → (8 - v3.toInt).toNat < n4 + 1 → W p l e (tRm 3 70) s m ([.ref h0, .int x1] : List Value).toArray below meth c H locs 0 0 (MQ below (mQi G (σ, cu, X) (fun r => True)) ([.ref h0, .int x1] : List Value).toArray s 0 0 (mA (σ, cu, X))) (F0 m 57 ls [.int vs2, .int vs1, .ref as0]) := by
        intro H locs ls v2 v3 as0 vs1 vs2 hG hl b3 c3 es0 bs1 cs1 bs2 hm4
        refine mc_iast E hG es0 ma_14 (hA.1 _ _ (by decide)) (t_in (by omega) (by omega)) (t_any1 _) (t_any2 _) dX10_lineOf_57 (fun H locs hG => ?_)
        refine lv_aload_n hx hb dX10_lineOf_58 rfl (lv_at hl 0 rfl) ?_
        refine mc_getr E hG t0 mr_51 dX10_lineOf_59 (fun oa2 hoa2 => ?_)
        refine lv_bipush (v := 8) hx hb dX10_lineOf_62 (by decide) ?_
        refine lv_iload_n hx hb dX10_lineOf_64 rfl (lv_at hl 1 rfl) ?_
        refine lv_imul hx hb dX10_lineOf_65 ?_
        refine lv_topi (fun z3 ez3 => ?_)
        have tz3 := tn_mul ez3 kI_8 rfl (by omega) (by omega)
        refine lv_iload_n hx hb dX10_lineOf_66 rfl (lv_at hl 3 rfl) ?_
        refine lv_iadd hx hb dX10_lineOf_67 ?_
        refine lv_topi (fun z4 ez4 => ?_)
        have tz4 := tn_add ez4 rfl rfl (by omega) (by omega)
        refine mc_iald E hG hoa2 ma_14 (t_in (by omega) (by omega)) dX10_lineOf_68 (fun z5 lz5 uz5 qz5 => ?_)
        refine lv_iload_n hx hb dX10_lineOf_69 rfl (lv_at hl 2 rfl) ?_
        refine lv_icmp_le (tgt := 87) hx hb dX10_lineOf_70 (by decide) (fun c6 => ?_) (fun c6 => ?_)
        · skip
          have ic6 := tn_le rfl rfl c6
          refine lv_iload_n hx hb dX10_lineOf_87 rfl (lv_at hl 2 rfl) ?_
          exact J88 H locs ls v3 v2 hG (lv_sub hl [0, 1, 3] rfl) (by omega) (by omega) (by omega)
        · skip
          have ic6 := tn_nle rfl rfl c6
          refine lv_aload_n hx hb dX10_lineOf_73 rfl (lv_at hl 0 rfl) ?_
          refine mc_getr E hG t0 mr_51 dX10_lineOf_74 (fun oa7 hoa7 => ?_)
          refine lv_bipush (v := 8) hx hb dX10_lineOf_77 (by decide) ?_
          refine lv_iload_n hx hb dX10_lineOf_79 rfl (lv_at hl 1 rfl) ?_
          refine lv_imul hx hb dX10_lineOf_80 ?_
          refine lv_topi (fun z8 ez8 => ?_)
          have tz8 := tn_mul ez8 kI_8 rfl (by omega) (by omega)
          refine lv_iload_n hx hb dX10_lineOf_81 rfl (lv_at hl 3 rfl) ?_
          refine lv_iadd hx hb dX10_lineOf_82 ?_
          refine lv_topi (fun z9 ez9 => ?_)
          have tz9 := tn_add ez9 rfl rfl (by omega) (by omega)
          refine mc_iald E hG hoa7 ma_14 (t_in (by omega) (by omega)) dX10_lineOf_83 (fun z10 lz10 uz10 qz10 => ?_)
          refine lv_goto (tgt := 88) hx hb dX10_lineOf_84 (by decide) ?_
          exact J88 H locs ls v3 z10 hG (lv_sub hl [0, 1, 3] rfl) (by omega) (by omega) (by omega)
      refine lv_iload_n hx hb dX10_lineOf_4 rfl (lv_at hl 3 rfl) ?_
      refine lv_aload_n hx hb dX10_lineOf_5 rfl (lv_at hl 0 rfl) ?_
      refine lv_iload_n hx hb dX10_lineOf_6 rfl (lv_at hl 1 rfl) ?_
      refine tc_callp (mc_runV (As := [.int x1]) (rest := [.int v3]) E hG (c_X10_manyOf l G (σ, cu, X) h0 x1 t0 (by omega) (by omega)) t0 rfl kv_X10_manyOf ml_X10_117 ⟨rfl, rfl, Nat.le_of_ble_eq_true rfl, Nat.le_of_ble_eq_true rfl⟩ rfl hl.1 rfl (Nat.le_of_ble_eq_true rfl) ⟨Nat.zero_le _, Nat.zero_le _⟩ dX10_lineOf_7) (fun r11 pr11 => ?_)
      replace pr11 : mV (σ, cu, X) (ix x1.toInt 10) r11 := pr11
      have br11 := mV_10 pr11 (by omega)
      have cr11 := mT pr11 hT (by omega) (by omega) (by decide) (by decide)
      refine lv_icmp_ge (tgt := 95) hx hb dX10_lineOf_10 (by decide) (fun c12 => ?_) (fun c12 => ?_)
      · skip
        have ic12 := tn_le rfl rfl c12
        refine lv_iload_n hx hb dX10_lineOf_95 rfl (lv_at hl 2 rfl) ?_
        exact mc_iret E hr hlk hG trivial dX10_lineOf_96
      · skip
        have ic12 := tn_nle rfl rfl c12
        refine lv_aload_n hx hb dX10_lineOf_13 rfl (lv_at hl 0 rfl) ?_
        refine lv_iload_n hx hb dX10_lineOf_14 rfl (lv_at hl 1 rfl) ?_
        refine lv_iload_n hx hb dX10_lineOf_15 rfl (lv_at hl 3 rfl) ?_
        refine tc_callp (mc_runV (As := [.int x1, .int v3]) (rest := []) E hG (c_X10_childOf l G (σ, cu, X) h0 x1 v3 t0 (by omega) (by omega) (by omega) (by omega)) t0 rfl kv_X10_childOf ml_X10_153 ⟨rfl, rfl, Nat.le_of_ble_eq_true rfl, Nat.le_of_ble_eq_true rfl⟩ rfl hl.1 rfl (Nat.le_of_ble_eq_true rfl) ⟨Nat.zero_le _, Nat.zero_le _⟩ dX10_lineOf_16) (fun r13 pr13 => ?_)
        replace pr13 : mV (σ, cu, X) (ix x1.toInt (11 + v3.toInt)) r13 := pr13
        have br13 := mV_r 11 18 0 23 pr13 (by omega) (by omega) (by omega) (by decide) (by decide)
        have cr13 := mT pr13 hT (by omega) (by omega) (by omega) (by omega)
        have dr13 := mP11 cr13 hI (by omega) (by omega) (by omega)
        refine lv_istore (lv' := [(4, .int r13), (0, .ref h0), (1, .int x1), (2, .int v2), (3, .int v3)]) hx hb dX10_lineOf_19 hl (by decide) rfl (fun ls hl => ?_)
        refine lv_aload_n hx hb dX10_lineOf_21 rfl (lv_at hl 1 rfl) ?_
        refine lv_iload hx hb dX10_lineOf_22 (lv_at hl 0 rfl) ?_
        refine lv_iconst (v := 1) hx hb dX10_lineOf_24 (by decide) ?_
        refine mc_calli hG (mc_runV (As := [.int r13, .int 1]) (rest := []) E hG (c_X10_baseOf l G σ cu (X) h0 r13 (1 : Int32) t0 (by omega) (by omega) (by decide) (by decide) t hT hI hA) t0 rfl kv_X10_baseOf ml_X10_283 ⟨rfl, rfl, Nat.le_of_ble_eq_true rfl, Nat.le_of_ble_eq_true rfl⟩ rfl hl.1 rfl (Nat.le_of_ble_eq_true rfl) ⟨Nat.zero_le _, Nat.zero_le _⟩ dX10_lineOf_25) (fun r14 H locs pr14 hG => ?_)
        refine lv_istore (lv' := [(5, .int r14), (4, .int r13), (0, .ref h0), (1, .int x1), (2, .int v2), (3, .int v3)]) hx hb dX10_lineOf_28 hl (by decide) rfl (fun ls hl => ?_)
        refine lv_aload_n hx hb dX10_lineOf_30 rfl (lv_at hl 2 rfl) ?_
        refine mc_getr E hG t0 mr_51 dX10_lineOf_31 (fun oa15 hoa15 => ?_)
        refine lv_bipush (v := 8) hx hb dX10_lineOf_34 (by decide) ?_
        refine lv_iload_n hx hb dX10_lineOf_36 rfl (lv_at hl 3 rfl) ?_
        refine lv_imul hx hb dX10_lineOf_37 ?_
        refine lv_topi (fun z16 ez16 => ?_)
        have tz16 := tn_mul ez16 kI_8 rfl (by omega) (by omega)
        refine lv_iload_n hx hb dX10_lineOf_38 rfl (lv_at hl 5 rfl) ?_
        refine lv_iadd hx hb dX10_lineOf_39 ?_
        refine lv_topi (fun z17 ez17 => ?_)
        have tz17 := tn_add ez17 rfl rfl (by omega) (by omega)
        refine lv_iload hx hb dX10_lineOf_40 (lv_at hl 0 rfl) ?_
        refine lv_if_ge (tgt := 55) hx hb dX10_lineOf_42 (by decide) (fun c18 => ?_) (fun c18 => ?_)
        · skip
          have ic18 := tn_le kI_0 rfl c18
          refine lv_iload hx hb dX10_lineOf_55 (lv_at hl 0 rfl) ?_
          exact J57 H locs ls v2 v3 (oa15) z17 r14 hG (lv_sub hl [2, 3, 4, 5] rfl) (by omega) (by omega) hoa15 (by omega) (by omega) (by omega) (by omega)
        · skip
          have ic18 := tn_nle kI_0 rfl c18
          refine lv_aload_n hx hb dX10_lineOf_45 rfl (lv_at hl 2 rfl) ?_
          refine lv_iload hx hb dX10_lineOf_46 (lv_at hl 1 rfl) ?_
          refine lv_iconst (v := 1) hx hb dX10_lineOf_48 (by decide) ?_
          refine tc_callp (mc_runV (As := [.int r13, .int 1]) (rest := [.int z17, .ref oa15]) E hG (c_X10_sizeOf l G (σ, cu, X) h0 r13 (1 : Int32) t0 (by omega) (by omega) (by decide) (by decide)) t0 rfl kv_X10_sizeOf ml_X10_243 ⟨rfl, rfl, Nat.le_of_ble_eq_true rfl, Nat.le_of_ble_eq_true rfl⟩ rfl hl.1 rfl (Nat.le_of_ble_eq_true rfl) ⟨Nat.zero_le _, Nat.zero_le _⟩ dX10_lineOf_49) (fun r19 pr19 => ?_)
          replace pr19 : 0 ≤ r19.toInt ∧ r19.toInt ≤ 1000 := pr19
          have k20 := kI_1
          refine lv_goto (tgt := 57) hx hb dX10_lineOf_52 (by decide) ?_
          exact J57 H locs ls v2 v3 (oa15) z17 r19 hG (lv_sub hl [2, 3, 4, 5] rfl) (by omega) (by omega) hoa15 (by omega) (by omega) (by omega) (by omega)
  refine lv_iconst (v := 0) hx hb dX10_lineOf_0 (by decide) ?_
  refine lv_istore_n (lv' := [(2, .int 0), (0, .ref h0), (1, .int x1)]) hx hb dX10_lineOf_1 rfl hl (by decide) rfl (fun ls hl => ?_)
  refine lv_iconst (v := 0) hx hb dX10_lineOf_2 (by decide) ?_
  refine lv_istore_n (lv' := [(3, .int 0), (2, .int 0), (0, .ref h0), (1, .int x1)]) hx hb dX10_lineOf_3 rfl hl (by decide) rfl (fun ls hl => ?_)
  exact J4 ((8 - (0 : Int32).toInt).toNat + 1) H locs ls (0 : Int32) (0 : Int32) hG (lv_sub hl [2, 3, 1, 0] rfl) (by decide) (by decide) (Nat.lt_succ_self _)

set_option maxHeartbeats 4000000 in
set_option maxRecDepth 100000 in
theorem c_X10_layAlong (l : Launch) (G : tG) (σ : Nat → Nat) (cu : Nat) (X : mX) (Fa : mF) (h0 : Nat) (x1 : Int32) (x2 : Int32) (x3 : Int32) (x4 : Int32) (t0 : σ h0 = 1) (l1 : 0 ≤ x1.toInt) (u1 : x1.toInt ≤ 23) (l2 : 0 ≤ x2.toInt) (u2 : x2.toInt ≤ 23) (l3 : 0 ≤ x3.toInt) (u3 : x3.toInt ≤ 1000) (l4 : 0 ≤ x4.toInt) (u4 : x4.toInt ≤ 1000) (hA : mAV (σ, cu, X)) (hd2 : (Fa 1 18).toInt ≤ 28) : Met l yX10_layAlong (.code yX10_layAlong cX10_layAlong 8 none :: tWS) (tRm 2 49) (va_Pc [.ref h0, .int x1, .int x2, .int x3, .int x4] (mPre G (σ, cu, kO PC X Fa))) (mQvX G (σ, cu, kO PC X Fa) (fun Z => ∃ F : mF, Z = (σ, cu, kO PC X F) ∧ LyP Fa F x2)) 0 0 (mA (σ, cu, kO PC X Fa)) := by
  refine mc_met (by decide) (Nat.le_of_ble_eq_true rfl) ?_
  intro p e s m below meth c E hr hlk hG ls hl
  have hl : lv_has ls 8 [(0, .ref h0), (1, .int x1), (2, .int x2), (3, .int x3), (4, .int x4)] := hl
  have hx := E.1
  have hb := E.2.1
  obtain ⟨H, eH⟩ : ∃ H, H = s.heap := ⟨_, rfl⟩
  obtain ⟨locs, eL⟩ : ∃ x : List Loc, x = [] := ⟨_, rfl⟩
  have hG : mGH G (σ, cu, kO PC X Fa) s H locs := by rw [eH, eL]; exact hG
  suffices hW : W p l e (tRm 2 49) s m ([.ref h0, .int x1, .int x2, .int x3, .int x4] : List Value).toArray below meth c H locs 0 0 (MQ below (mQvX G (σ, cu, kO PC X Fa) (fun Z => ∃ F : mF, Z = (σ, cu, kO PC X F) ∧ LyP Fa F x2)) ([.ref h0, .int x1, .int x2, .int x3, .int x4] : List Value).toArray s 0 0 (mA (σ, cu, kO PC X Fa))) (F0 m 0 ls []) by subst eH; subst eL; exact hW
  clear eH eL
  have hcu : mCu cu := hG.2.2.1
  have J46 : ∀ (H : Heap) (locs : List Loc) (ls : Array Slot) (v5 : Int32) (v6 : Int32) (vs0 : Int32), mGH G (σ, cu, kO PC X Fa) s H locs → lv_has ls 8 [(0, .ref h0), (2, .int x2), (3, .int x3), (4, .int x4), (5, .int v5), (6, .int v6)] → 0 ≤ v5.toInt → v5.toInt ≤ 1 → 0 ≤ v6.toInt → v6.toInt ≤ 1000 → 0 ≤ vs0.toInt → vs0.toInt ≤ 999 → W p l e (tRm 2 49) s m ([.ref h0, .int x1, .int x2, .int x3, .int x4] : List Value).toArray below meth c H locs 0 0 (MQ below (mQvX G (σ, cu, kO PC X Fa) (fun Z => ∃ F : mF, Z = (σ, cu, kO PC X F) ∧ LyP Fa F x2)) ([.ref h0, .int x1, .int x2, .int x3, .int x4] : List Value).toArray s 0 0 (mA (σ, cu, kO PC X Fa))) (F0 m 46 ls [.int vs0]) := by
    intro H locs ls v5 v6 vs0 hG hl b5 c5 b6 c6 bs0 cs0
    refine lv_istore (lv' := [(7, .int vs0), (0, .ref h0), (2, .int x2), (3, .int x3), (4, .int x4), (5, .int v5), (6, .int v6)]) hx hb dX10_layAlong_46 hl (by decide) rfl (fun ls hl => ?_)
    refine lv_iload hx hb dX10_layAlong_48 (lv_at hl 5 rfl) ?_
    refine lv_if_ne (tgt := 68) hx hb dX10_layAlong_50 (by decide) (fun c1 => ?_) (fun c1 => ?_)
    · skip
      have ic1 := tn_ne rfl kI_0 c1
      refine lv_aload_n hx hb dX10_layAlong_68 rfl (lv_at hl 1 rfl) ?_
      refine lv_iload_n hx hb dX10_layAlong_69 rfl (lv_at hl 2 rfl) ?_
      refine lv_iload hx hb dX10_layAlong_70 (lv_at hl 0 rfl) ?_
      refine lv_iload hx hb dX10_layAlong_72 (lv_at hl 6 rfl) ?_
      refine lv_iload_n hx hb dX10_layAlong_74 rfl (lv_at hl 3 rfl) ?_
      refine lv_iload hx hb dX10_layAlong_75 (lv_at hl 4 rfl) ?_
      refine mc_callvX hG (mc_runV (As := [.int x2, .int vs0, .int v6, .int x3, .int x4]) (rest := []) E hG (c_X10_lay l G σ cu X Fa h0 x2 vs0 v6 x3 x4 t0 (by omega) (by omega) (by omega) (by omega) (by omega) (by omega) (by omega) (by omega) (by omega) (by omega) hA (by omega)) t0 rfl kv_X10_lay ml_X10_236 ⟨rfl, rfl, Nat.le_of_ble_eq_true rfl, Nat.le_of_ble_eq_true rfl⟩ rfl hl.1 rfl (Nat.le_of_ble_eq_true rfl) ⟨Nat.zero_le _, Nat.zero_le _⟩ dX10_layAlong_77) (fun Z H locs eZ pZ hG => ?_)
      obtain ⟨F3, rfl, pF3⟩ := pZ
      clear eZ
      exact mc_vretX E hr hlk hG rfl ⟨_, rfl, pF3⟩ dX10_layAlong_80
    · skip
      have ic1 := tn_eq rfl kI_0 c1
      refine lv_aload_n hx hb dX10_layAlong_53 rfl (lv_at hl 1 rfl) ?_
      refine lv_iload_n hx hb dX10_layAlong_54 rfl (lv_at hl 2 rfl) ?_
      refine lv_iload_n hx hb dX10_layAlong_55 rfl (lv_at hl 3 rfl) ?_
      refine lv_iload hx hb dX10_layAlong_56 (lv_at hl 4 rfl) ?_
      refine lv_iload hx hb dX10_layAlong_58 (lv_at hl 0 rfl) ?_
      refine lv_iload hx hb dX10_layAlong_60 (lv_at hl 6 rfl) ?_
      refine mc_callvX hG (mc_runV (As := [.int x2, .int x3, .int x4, .int vs0, .int v6]) (rest := []) E hG (c_X10_lay l G σ cu X Fa h0 x2 x3 x4 vs0 v6 t0 (by omega) (by omega) (by omega) (by omega) (by omega) (by omega) (by omega) (by omega) (by omega) (by omega) hA (by omega)) t0 rfl kv_X10_lay ml_X10_236 ⟨rfl, rfl, Nat.le_of_ble_eq_true rfl, Nat.le_of_ble_eq_true rfl⟩ rfl hl.1 rfl (Nat.le_of_ble_eq_true rfl) ⟨Nat.zero_le _, Nat.zero_le _⟩ dX10_layAlong_62) (fun Z H locs eZ pZ hG => ?_)
      obtain ⟨F5, rfl, pF5⟩ := pZ
      clear eZ
      refine lv_goto (tgt := 80) hx hb dX10_layAlong_65 (by decide) ?_
      exact mc_vretX E hr hlk hG rfl ⟨_, rfl, pF5⟩ dX10_layAlong_80
  have J45 : ∀ (H : Heap) (locs : List Loc) (ls : Array Slot) (v5 : Int32) (v6 : Int32), mGH G (σ, cu, kO PC X Fa) s H locs → lv_has ls 8 [(0, .ref h0), (2, .int x2), (3, .int x3), (4, .int x4), (5, .int v5), (6, .int v6)] → 0 ≤ v5.toInt → v5.toInt ≤ 1 → 0 ≤ v6.toInt → v6.toInt ≤ 1000 → W p l e (tRm 2 49) s m ([.ref h0, .int x1, .int x2, .int x3, .int x4] : List Value).toArray below meth c H locs 0 0 (MQ below (mQvX G (σ, cu, kO PC X Fa) (fun Z => ∃ F : mF, Z = (σ, cu, kO PC X F) ∧ LyP Fa F x2)) ([.ref h0, .int x1, .int x2, .int x3, .int x4] : List Value).toArray s 0 0 (mA (σ, cu, kO PC X Fa))) (F0 m 45 ls []) := by
    intro H locs ls v5 v6 hG hl b5 c5 b6 c6
    refine lv_iconst (v := 0) hx hb dX10_layAlong_45 (by decide) ?_
    exact J46 H locs ls v5 v6 (0 : Int32) hG (lv_sub hl [0, 1, 2, 3, 4, 5] rfl) (by omega) (by omega) (by omega) (by omega) (by decide) (by decide)
  refine lv_aload_n hx hb dX10_layAlong_0 rfl (lv_at hl 0 rfl) ?_
  refine lv_iload_n hx hb dX10_layAlong_1 rfl (lv_at hl 1 rfl) ?_
  refine lv_iconst (v := 1) hx hb dX10_layAlong_2 (by decide) ?_
  refine tc_callp (mc_runV (As := [.int x1, .int 1]) (rest := []) E hG (c_X10_get l G (σ, cu, kO PC X Fa) h0 x1 (1 : Int32) t0 (by omega) (by omega) (by decide) (by decide)) t0 rfl kv_X10_get ml_X10_91 ⟨rfl, rfl, Nat.le_of_ble_eq_true rfl, Nat.le_of_ble_eq_true rfl⟩ rfl hl.1 rfl (Nat.le_of_ble_eq_true rfl) ⟨Nat.zero_le _, Nat.zero_le _⟩ dX10_layAlong_3) (fun r6 pr6 => ?_)
  replace pr6 : mV (σ, cu, kO PC X Fa) (ix x1.toInt (1 : Int32).toInt) r6 := pr6
  have pr6 := mV_l pr6 kI_1
  have br6 := mV_1 pr6 (by omega)
  have k7 := kI_1
  refine tc_callp (mc_runS (As := [.int r6]) (rest := []) E hG (c_X10_alongOf l G (σ, cu, kO PC X Fa) r6) ks_X10_alongOf ml_X10_252 ⟨rfl, rfl, Nat.le_of_ble_eq_true rfl, Nat.le_of_ble_eq_true rfl⟩ rfl hl.1 rfl (Nat.le_of_ble_eq_true rfl) ⟨Nat.zero_le _, Nat.zero_le _⟩ dX10_layAlong_6) (fun r8 pr8 => ?_)
  replace pr8 : 0 ≤ r8.toInt ∧ r8.toInt ≤ 1 := pr8
  refine lv_istore (lv' := [(5, .int r8), (0, .ref h0), (1, .int x1), (2, .int x2), (3, .int x3), (4, .int x4)]) hx hb dX10_layAlong_9 hl (by decide) rfl (fun ls hl => ?_)
  refine lv_aload_n hx hb dX10_layAlong_11 rfl (lv_at hl 1 rfl) ?_
  refine lv_iload_n hx hb dX10_layAlong_12 rfl (lv_at hl 2 rfl) ?_
  refine lv_iconst (v := 1) hx hb dX10_layAlong_13 (by decide) ?_
  refine lv_iload hx hb dX10_layAlong_14 (lv_at hl 0 rfl) ?_
  refine lv_isub hx hb dX10_layAlong_16 ?_
  refine lv_topi (fun z9 ez9 => ?_)
  have tz9 := tn_sub ez9 kI_1 rfl (by omega) (by omega)
  refine tc_callp (mc_runV (As := [.int x1, .int z9]) (rest := []) E hG (c_X10_most l G (σ, cu, kO PC X Fa) h0 x1 z9 t0 (by omega) (by omega) (by omega) (by omega)) t0 rfl kv_X10_most ml_X10_227 ⟨rfl, rfl, Nat.le_of_ble_eq_true rfl, Nat.le_of_ble_eq_true rfl⟩ rfl hl.1 rfl (Nat.le_of_ble_eq_true rfl) ⟨Nat.zero_le _, Nat.zero_le _⟩ dX10_layAlong_17) (fun r10 pr10 => ?_)
  replace pr10 : 0 ≤ r10.toInt ∧ r10.toInt ≤ 1000 := pr10
  refine lv_istore (lv' := [(6, .int r10), (5, .int r8), (0, .ref h0), (1, .int x1), (2, .int x2), (3, .int x3), (4, .int x4)]) hx hb dX10_layAlong_20 hl (by decide) rfl (fun ls hl => ?_)
  refine lv_aload_n hx hb dX10_layAlong_22 rfl (lv_at hl 2 rfl) ?_
  refine lv_iload_n hx hb dX10_layAlong_23 rfl (lv_at hl 3 rfl) ?_
  refine lv_iconst (v := 2) hx hb dX10_layAlong_24 (by decide) ?_
  refine tc_callp (mc_runV (As := [.int x1, .int 2]) (rest := []) E hG (c_X10_get l G (σ, cu, kO PC X Fa) h0 x1 (2 : Int32) t0 (by omega) (by omega) (by decide) (by decide)) t0 rfl kv_X10_get ml_X10_91 ⟨rfl, rfl, Nat.le_of_ble_eq_true rfl, Nat.le_of_ble_eq_true rfl⟩ rfl hl.1 rfl (Nat.le_of_ble_eq_true rfl) ⟨Nat.zero_le _, Nat.zero_le _⟩ dX10_layAlong_25) (fun r11 pr11 => ?_)
  replace pr11 : mV (σ, cu, kO PC X Fa) (ix x1.toInt (2 : Int32).toInt) r11 := pr11
  have pr11 := mV_l pr11 kI_2
  have br11 := mV_2 pr11 (by omega)
  have k12 := kI_2
  refine lv_iconst (v := 3) hx hb dX10_layAlong_28 (by decide) ?_
  refine lv_icmp_ne (tgt := 45) hx hb dX10_layAlong_29 (by decide) (fun c13 => ?_) (fun c13 => ?_)
  · skip
    have ic13 := tn_ne rfl kI_3 c13
    exact J45 H locs ls r8 r10 hG (lv_sub hl [2, 4, 5, 6, 1, 0] rfl) (by omega) (by omega) (by omega) (by omega)
  · skip
    have ic13 := tn_eq rfl kI_3 c13
    refine lv_iload hx hb dX10_layAlong_32 (lv_at hl 0 rfl) ?_
    refine lv_sipush (v := 1000) hx hb dX10_layAlong_34 (by decide) ?_
    refine lv_icmp_eq (tgt := 45) hx hb dX10_layAlong_37 (by decide) (fun c14 => ?_) (fun c14 => ?_)
    · skip
      have ic14 := tn_eq rfl kI_1000 c14
      exact J45 H locs ls r8 r10 hG (lv_sub hl [2, 4, 5, 6, 1, 0] rfl) (by omega) (by omega) (by omega) (by omega)
    · skip
      have ic14 := tn_ne rfl kI_1000 c14
      refine lv_iload hx hb dX10_layAlong_40 (lv_at hl 0 rfl) ?_
      refine lv_goto (tgt := 46) hx hb dX10_layAlong_42 (by decide) ?_
      exact J46 H locs ls r8 r10 r10 hG (lv_sub hl [2, 4, 5, 6, 1, 0] rfl) (by omega) (by omega) (by omega) (by omega) (by omega) (by omega)

set_option maxHeartbeats 4000000 in
set_option maxRecDepth 100000 in
theorem c_X10_layLayers (l : Launch) (G : tG) (σ : Nat → Nat) (cu : Nat) (X : mX) (Fa : mF) (h0 : Nat) (x1 : Int32) (t0 : σ h0 = 1) (l1 : 0 ≤ x1.toInt) (u1 : x1.toInt ≤ 23) (t : Nat → Int32) (hT : TI (σ, cu, X) t) (hI : TInv t) (hA : mAV (σ, cu, X)) (hd1 : 1 ≤ (Fa 1 18).toInt) (hd2 : (Fa 1 18).toInt ≤ 24) : Met l yX10_layLayers (.code yX10_layLayers cX10_layLayers 9 none :: tWS) (tRm 3 67) (va_Pc [.ref h0, .int x1] (mPre G (σ, cu, kO PC X Fa))) (mQvX G (σ, cu, kO PC X Fa) (fun Z => ∃ F : mF, Z = (σ, cu, kO PC X F) ∧ SP (t 3).toInt x1 Fa F)) 0 0 (mA (σ, cu, kO PC X Fa)) := by
  refine mc_met (by decide) (Nat.le_of_ble_eq_true rfl) ?_
  intro p e s m below meth c E hr hlk hG ls hl
  have hl : lv_has ls 9 [(0, .ref h0), (1, .int x1)] := hl
  have hx := E.1
  have hb := E.2.1
  obtain ⟨H, eH⟩ : ∃ H, H = s.heap := ⟨_, rfl⟩
  obtain ⟨locs, eL⟩ : ∃ x : List Loc, x = [] := ⟨_, rfl⟩
  have hG : mGH G (σ, cu, kO PC X Fa) s H locs := by rw [eH, eL]; exact hG
  suffices hW : W p l e (tRm 3 67) s m ([.ref h0, .int x1] : List Value).toArray below meth c H locs 0 0 (MQ below (mQvX G (σ, cu, kO PC X Fa) (fun Z => ∃ F : mF, Z = (σ, cu, kO PC X F) ∧ SP (t 3).toInt x1 Fa F)) ([.ref h0, .int x1] : List Value).toArray s 0 0 (mA (σ, cu, kO PC X Fa))) (F0 m 0 ls []) by subst eH; subst eL; exact hW
  clear eH eL
  have hcu : mCu cu := hG.2.2.1
  have J155 : ∀ (n155 : Nat) (F : mF) (H : Heap) (locs : List Loc) (ls : Array Slot) (v3 : Int32) (v6 : Int32) (v7 : Int32), mGH G (σ, cu, kO PC X F) s H locs → lv_has ls 9 [(0, .ref h0), (1, .int x1), (3, .int v3), (6, .int v6), (7, .int v7)] → 0 ≤ v3.toInt → v3.toInt ≤ 8 → 0 ≤ v6.toInt → v6.toInt ≤ 99 → 0 ≤ v7.toInt → v7.toInt ≤ 8 → SPo Fa F → (8 - v7.toInt).toNat < n155 → W p l e (tRm 3 67) s m ([.ref h0, .int x1] : List Value).toArray below meth c H locs 0 0 (MQ below (mQvX G (σ, cu, kO PC X Fa) (fun Z => ∃ F : mF, Z = (σ, cu, kO PC X F) ∧ SP (t 3).toInt x1 Fa F)) ([.ref h0, .int x1] : List Value).toArray s 0 0 (mA (σ, cu, kO PC X Fa))) (F0 m 155 ls []) := by
    intro n155
    induction n155 with
    | zero => intro F H locs ls v3 v6 v7 hG hl b3 c3 b6 c6 b7 c7 hex155 hn155; exact absurd hn155 (Nat.not_lt_zero _)
    | succ n155 ih155 =>
      intro F H locs ls v3 v6 v7 hG hl b3 c3 b6 c6 b7 c7 hex155 hn155
      refine lv_iload hx hb dX10_layLayers_155 (lv_at hl 4 rfl) ?_
      refine lv_iload_n hx hb dX10_layLayers_157 rfl (lv_at hl 2 rfl) ?_
      refine lv_icmp_ge (tgt := 220) hx hb dX10_layLayers_158 (by decide) (fun c1 => ?_) (fun c1 => ?_)
      · skip
        have ic1 := tn_le rfl rfl c1
        exact mc_vretX E hr hlk hG rfl ⟨_, rfl, Or.inl hex155⟩ dX10_layLayers_220
      · skip
        have ic1 := tn_nle rfl rfl c1
        refine lv_aload_n hx hb dX10_layLayers_161 rfl (lv_at hl 0 rfl) ?_
        refine lv_iload_n hx hb dX10_layLayers_162 rfl (lv_at hl 1 rfl) ?_
        refine lv_iload hx hb dX10_layLayers_163 (lv_at hl 4 rfl) ?_
        refine tc_callp (mc_runV (As := [.int x1, .int v7]) (rest := []) E hG (c_X10_childOf l G (σ, cu, kO PC X F) h0 x1 v7 t0 (by omega) (by omega) (by omega) (by omega)) t0 rfl kv_X10_childOf ml_X10_153 ⟨rfl, rfl, Nat.le_of_ble_eq_true rfl, Nat.le_of_ble_eq_true rfl⟩ rfl hl.1 rfl (Nat.le_of_ble_eq_true rfl) ⟨Nat.zero_le _, Nat.zero_le _⟩ dX10_layLayers_165) (fun r2 pr2 => ?_)
        replace pr2 : mV (σ, cu, kO PC X F) (ix x1.toInt (11 + v7.toInt)) r2 := pr2
        have br2 := mV_r 11 18 0 23 pr2 (by omega) (by omega) (by omega) (by decide) (by decide)
        have cr2 := mT pr2 (kO_TI (PC_tr hcu) hT) (by omega) (by omega) (by omega) (by omega)
        have dr2 := mP11 cr2 hI (by omega) (by omega) (by omega)
        refine lv_istore (lv' := [(8, .int r2), (0, .ref h0), (1, .int x1), (3, .int v3), (6, .int v6), (7, .int v7)]) hx hb dX10_layLayers_168 hl (by decide) rfl (fun ls hl => ?_)
        refine lv_aload_n hx hb dX10_layLayers_170 rfl (lv_at hl 1 rfl) ?_
        refine lv_iload hx hb dX10_layLayers_171 (lv_at hl 0 rfl) ?_
        refine lv_iload hx hb dX10_layLayers_173 (lv_at hl 4 rfl) ?_
        refine lv_aload_n hx hb dX10_layLayers_175 rfl (lv_at hl 1 rfl) ?_
        refine lv_iload_n hx hb dX10_layLayers_176 rfl (lv_at hl 2 rfl) ?_
        refine lv_iconst (v := 0) hx hb dX10_layLayers_177 (by decide) ?_
        refine tc_callp (mc_runV (As := [.int x1, .int 0]) (rest := [.int v6, .int r2, .ref h0]) E hG (c_X10_sizeOf l G (σ, cu, kO PC X F) h0 x1 (0 : Int32) t0 (by omega) (by omega) (by decide) (by decide)) t0 rfl kv_X10_sizeOf ml_X10_243 ⟨rfl, rfl, Nat.le_of_ble_eq_true rfl, Nat.le_of_ble_eq_true rfl⟩ rfl hl.1 rfl (Nat.le_of_ble_eq_true rfl) ⟨Nat.zero_le _, Nat.zero_le _⟩ dX10_layLayers_178) (fun r3 pr3 => ?_)
        replace pr3 : 0 ≤ r3.toInt ∧ r3.toInt ≤ 1000 := pr3
        have k4 := kI_0
        refine lv_aload_n hx hb dX10_layLayers_181 rfl (lv_at hl 1 rfl) ?_
        refine lv_iload hx hb dX10_layLayers_182 (lv_at hl 0 rfl) ?_
        refine lv_iconst (v := 0) hx hb dX10_layLayers_184 (by decide) ?_
        refine tc_callp (mc_runV (As := [.int r2, .int 0]) (rest := [.int r3, .int v6, .int r2, .ref h0]) E hG (c_X10_sizeOf l G (σ, cu, kO PC X F) h0 r2 (0 : Int32) t0 (by omega) (by omega) (by decide) (by decide)) t0 rfl kv_X10_sizeOf ml_X10_243 ⟨rfl, rfl, Nat.le_of_ble_eq_true rfl, Nat.le_of_ble_eq_true rfl⟩ rfl hl.1 rfl (Nat.le_of_ble_eq_true rfl) ⟨Nat.zero_le _, Nat.zero_le _⟩ dX10_layLayers_185) (fun r5 pr5 => ?_)
        replace pr5 : 0 ≤ r5.toInt ∧ r5.toInt ≤ 1000 := pr5
        have k6 := kI_0
        refine lv_isub hx hb dX10_layLayers_188 ?_
        refine lv_topi (fun z7 ez7 => ?_)
        have tz7 := tn_sub ez7 rfl rfl (by omega) (by omega)
        refine tc_callp (mc_runS (As := [.int v6, .int z7]) (rest := [.int r2, .ref h0]) E hG (c_X10_beside l G (σ, cu, kO PC X F) v6 z7) ks_X10_beside ml_X10_249 ⟨rfl, rfl, Nat.le_of_ble_eq_true rfl, Nat.le_of_ble_eq_true rfl⟩ rfl hl.1 rfl (Nat.le_of_ble_eq_true rfl) ⟨Nat.zero_le _, Nat.zero_le _⟩ dX10_layLayers_189) (fun r8 pr8 => ?_)
        refine lv_iload hx hb dX10_layLayers_192 (lv_at hl 4 rfl) ?_
        refine lv_aload_n hx hb dX10_layLayers_194 rfl (lv_at hl 1 rfl) ?_
        refine lv_iload_n hx hb dX10_layLayers_195 rfl (lv_at hl 2 rfl) ?_
        refine lv_iconst (v := 1) hx hb dX10_layLayers_196 (by decide) ?_
        refine tc_callp (mc_runV (As := [.int x1, .int 1]) (rest := [.int v6, .int r8, .int r2, .ref h0]) E hG (c_X10_sizeOf l G (σ, cu, kO PC X F) h0 x1 (1 : Int32) t0 (by omega) (by omega) (by decide) (by decide)) t0 rfl kv_X10_sizeOf ml_X10_243 ⟨rfl, rfl, Nat.le_of_ble_eq_true rfl, Nat.le_of_ble_eq_true rfl⟩ rfl hl.1 rfl (Nat.le_of_ble_eq_true rfl) ⟨Nat.zero_le _, Nat.zero_le _⟩ dX10_layLayers_197) (fun r9 pr9 => ?_)
        replace pr9 : 0 ≤ r9.toInt ∧ r9.toInt ≤ 1000 := pr9
        have k10 := kI_1
        refine lv_aload_n hx hb dX10_layLayers_200 rfl (lv_at hl 1 rfl) ?_
        refine lv_iload hx hb dX10_layLayers_201 (lv_at hl 0 rfl) ?_
        refine lv_iconst (v := 1) hx hb dX10_layLayers_203 (by decide) ?_
        refine tc_callp (mc_runV (As := [.int r2, .int 1]) (rest := [.int r9, .int v6, .int r8, .int r2, .ref h0]) E hG (c_X10_sizeOf l G (σ, cu, kO PC X F) h0 r2 (1 : Int32) t0 (by omega) (by omega) (by decide) (by decide)) t0 rfl kv_X10_sizeOf ml_X10_243 ⟨rfl, rfl, Nat.le_of_ble_eq_true rfl, Nat.le_of_ble_eq_true rfl⟩ rfl hl.1 rfl (Nat.le_of_ble_eq_true rfl) ⟨Nat.zero_le _, Nat.zero_le _⟩ dX10_layLayers_204) (fun r11 pr11 => ?_)
        replace pr11 : 0 ≤ r11.toInt ∧ r11.toInt ≤ 1000 := pr11
        have k12 := kI_1
        refine lv_isub hx hb dX10_layLayers_207 ?_
        refine lv_topi (fun z13 ez13 => ?_)
        have tz13 := tn_sub ez13 rfl rfl (by omega) (by omega)
        refine tc_callp (mc_runS (As := [.int v6, .int z13]) (rest := [.int r8, .int r2, .ref h0]) E hG (c_X10_beside l G (σ, cu, kO PC X F) v6 z13) ks_X10_beside ml_X10_249 ⟨rfl, rfl, Nat.le_of_ble_eq_true rfl, Nat.le_of_ble_eq_true rfl⟩ rfl hl.1 rfl (Nat.le_of_ble_eq_true rfl) ⟨Nat.zero_le _, Nat.zero_le _⟩ dX10_layLayers_208) (fun r14 pr14 => ?_)
        refine mc_callv hG (mc_runV (As := [.int r2, .int r8, .int r14]) (rest := []) E hG (c_X10_sets l G σ cu (kO PC X F) h0 r2 r8 r14 t0 (by omega) (by omega) (PC_AV hA hcu)) t0 rfl kv_X10_sets ml_X10_240 ⟨rfl, rfl, Nat.le_of_ble_eq_true rfl, Nat.le_of_ble_eq_true rfl⟩ rfl hl.1 rfl (Nat.le_of_ble_eq_true rfl) ⟨Nat.zero_le _, Nat.zero_le _⟩ dX10_layLayers_211) (fun H locs hG => ?_)
        obtain ⟨z16, ez16⟩ : ∃ y : Int32, y = v7 + (1) := ⟨_, rfl⟩
        refine lv_iinc (v := z16) (lv' := [(7, .int z16), (8, .int r2), (0, .ref h0), (1, .int x1), (3, .int v3), (6, .int v6)]) hx hb dX10_layLayers_214 hl (k := 5) rfl (by rw [ez16]; rfl) (by decide) rfl (fun ls hl => ?_)
        have tz16 := tn_add ez16 rfl kI_1 (by omega) (by omega)
        refine lv_goto (tgt := 155) hx hb dX10_layLayers_217 (by decide) ?_
        exact ih155 F H locs ls v3 v6 z16 hG (lv_sub hl [2, 3, 4, 5, 0] rfl) (by omega) (by omega) (by omega) (by omega) (by omega) (by omega) (by assumption) (by omega)
  have J62 : ∀ (n62 : Nat) (H : Heap) (locs : List Loc) (ls : Array Slot) (v3 : Int32) (v4 : Int32) (v5 : Int32) (v6 : Int32), mGH G (σ, cu, kO PC X Fa) s H locs → lv_has ls 9 [(0, .ref h0), (1, .int x1), (3, .int v3), (4, .int v4), (5, .int v5), (6, .int v6)] → 0 ≤ v3.toInt → v3.toInt ≤ 8 → 0 ≤ v4.toInt → v4.toInt ≤ 1000 → 0 ≤ v5.toInt → v5.toInt ≤ 1000 → 0 ≤ v6.toInt → v6.toInt ≤ 8 → (8 - v6.toInt).toNat < n62 → W p l e (tRm 3 67) s m ([.ref h0, .int x1] : List Value).toArray below meth c H locs 0 0 (MQ below (mQvX G (σ, cu, kO PC X Fa) (fun Z => ∃ F : mF, Z = (σ, cu, kO PC X F) ∧ SP (t 3).toInt x1 Fa F)) ([.ref h0, .int x1] : List Value).toArray s 0 0 (mA (σ, cu, kO PC X Fa))) (F0 m 62 ls []) := by
    intro n62
    induction n62 with
    | zero => intro H locs ls v3 v4 v5 v6 hG hl b3 c3 b4 c4 b5 c5 b6 c6 hn62; exact absurd hn62 (Nat.not_lt_zero _)
    | succ n62 ih62 =>
      intro H locs ls v3 v4 v5 v6 hG hl b3 c3 b4 c4 b5 c5 b6 c6 hn62
      have J127 : ∀ (H : Heap) (locs : List Loc) (ls : Array Slot) (v3 : Int32) (v4 : Int32) (v6 : Int32) (vs0 : Int32), mGH G (σ, cu, kO PC X Fa) s H locs → lv_has ls 9 [(0, .ref h0), (1, .int x1), (3, .int v3), (4, .int v4), (6, .int v6)] → 1 ≤ v3.toInt → v3.toInt ≤ 8 → 0 ≤ v4.toInt → v4.toInt ≤ 1000 → 0 ≤ v6.toInt → v6.toInt ≤ 7 → 0 ≤ vs0.toInt → vs0.toInt ≤ 1000 → (8 - v6.toInt).toNat < n62 + 1 → W p l e (tRm 3 67) s m ([.ref h0, .int x1] : List Value).toArray below meth c H locs 0 0 (MQ below (mQvX G (σ, cu, kO PC X Fa) (fun Z => ∃ F : mF, Z = (σ, cu, kO PC X F) ∧ SP (t 3).toInt x1 Fa F)) ([.ref h0, .int x1] : List Value).toArray s 0 0 (mA (σ, cu, kO PC X Fa))) (F0 m 127 ls [.int vs0]) := by
        intro H locs ls v3 v4 v6 vs0 hG hl b3 c3 b4 c4 b6 c6 bs0 cs0 hm62
        refine lv_istore (lv' := [(5, .int vs0), (0, .ref h0), (1, .int x1), (3, .int v3), (4, .int v4), (6, .int v6)]) hx hb dX10_layLayers_127 hl (by decide) rfl (fun ls hl => ?_)
        obtain ⟨z17, ez17⟩ : ∃ y : Int32, y = v6 + (1) := ⟨_, rfl⟩
        refine lv_iinc (v := z17) (lv' := [(6, .int z17), (5, .int vs0), (0, .ref h0), (1, .int x1), (3, .int v3), (4, .int v4)]) hx hb dX10_layLayers_129 hl (k := 5) rfl (by rw [ez17]; rfl) (by decide) rfl (fun ls hl => ?_)
        have tz17 := tn_add ez17 rfl kI_1 (by omega) (by omega)
        refine lv_goto (tgt := 62) hx hb dX10_layLayers_132 (by decide) ?_
        exact ih62 H locs ls v3 v4 vs0 z17 hG (lv_sub hl [2, 3, 4, 5, 1, 0] rfl) (by omega) (by omega) (by omega) (by omega) (by omega) (by omega) (by omega) (by omega) (by omega)
      have J101 : ∀ (H : Heap) (locs : List Loc) (ls : Array Slot) (v3 : Int32) (v5 : Int32) (v6 : Int32) (v7 : Int32) (vs0 : Int32), mGH G (σ, cu, kO PC X Fa) s H locs → lv_has ls 9 [(0, .ref h0), (1, .int x1), (3, .int v3), (5, .int v5), (6, .int v6), (7, .int v7)] → 1 ≤ v3.toInt → v3.toInt ≤ 8 → 0 ≤ v5.toInt → v5.toInt ≤ 1000 → 0 ≤ v6.toInt → v6.toInt ≤ 7 → 0 ≤ v7.toInt → v7.toInt ≤ 23 → 0 ≤ vs0.toInt → vs0.toInt ≤ 1000 → (8 - v6.toInt).toNat < n62 + 1 → W p l e (tRm 3 67) s m ([.ref h0, .int x1] : List Value).toArray below meth c H locs 0 0 (MQ below (mQvX G (σ, cu, kO PC X Fa) (fun Z => ∃ F : mF, Z = (σ, cu, kO PC X F) ∧ SP (t 3).toInt x1 Fa F)) ([.ref h0, .int x1] : List Value).toArray s 0 0 (mA (σ, cu, kO PC X Fa))) (F0 m 101 ls [.int vs0]) := by
        intro H locs ls v3 v5 v6 v7 vs0 hG hl b3 c3 b5 c5 b6 c6 b7 c7 bs0 cs0 hm62
        refine lv_istore (lv' := [(4, .int vs0), (0, .ref h0), (1, .int x1), (3, .int v3), (5, .int v5), (6, .int v6), (7, .int v7)]) hx hb dX10_layLayers_101 hl (by decide) rfl (fun ls hl => ?_)
        refine lv_aload_n hx hb dX10_layLayers_103 rfl (lv_at hl 1 rfl) ?_
        refine lv_iload hx hb dX10_layLayers_104 (lv_at hl 6 rfl) ?_
        refine lv_iconst (v := 1) hx hb dX10_layLayers_106 (by decide) ?_
        refine tc_callp (mc_runV (As := [.int v7, .int 1]) (rest := []) E hG (c_X10_sizeOf l G (σ, cu, kO PC X Fa) h0 v7 (1 : Int32) t0 (by omega) (by omega) (by decide) (by decide)) t0 rfl kv_X10_sizeOf ml_X10_243 ⟨rfl, rfl, Nat.le_of_ble_eq_true rfl, Nat.le_of_ble_eq_true rfl⟩ rfl hl.1 rfl (Nat.le_of_ble_eq_true rfl) ⟨Nat.zero_le _, Nat.zero_le _⟩ dX10_layLayers_107) (fun r18 pr18 => ?_)
        replace pr18 : 0 ≤ r18.toInt ∧ r18.toInt ≤ 1000 := pr18
        have k19 := kI_1
        refine lv_iload hx hb dX10_layLayers_110 (lv_at hl 4 rfl) ?_
        refine lv_icmp_le (tgt := 125) hx hb dX10_layLayers_112 (by decide) (fun c20 => ?_) (fun c20 => ?_)
        · skip
          have ic20 := tn_le rfl rfl c20
          refine lv_iload hx hb dX10_layLayers_125 (lv_at hl 4 rfl) ?_
          exact J127 H locs ls v3 vs0 v6 v5 hG (lv_sub hl [1, 2, 3, 0, 5] rfl) (by omega) (by omega) (by omega) (by omega) (by omega) (by omega) (by omega) (by omega) (by omega)
        · skip
          have ic20 := tn_nle rfl rfl c20
          refine lv_aload_n hx hb dX10_layLayers_115 rfl (lv_at hl 1 rfl) ?_
          refine lv_iload hx hb dX10_layLayers_116 (lv_at hl 6 rfl) ?_
          refine lv_iconst (v := 1) hx hb dX10_layLayers_118 (by decide) ?_
          refine tc_callp (mc_runV (As := [.int v7, .int 1]) (rest := []) E hG (c_X10_sizeOf l G (σ, cu, kO PC X Fa) h0 v7 (1 : Int32) t0 (by omega) (by omega) (by decide) (by decide)) t0 rfl kv_X10_sizeOf ml_X10_243 ⟨rfl, rfl, Nat.le_of_ble_eq_true rfl, Nat.le_of_ble_eq_true rfl⟩ rfl hl.1 rfl (Nat.le_of_ble_eq_true rfl) ⟨Nat.zero_le _, Nat.zero_le _⟩ dX10_layLayers_119) (fun r21 pr21 => ?_)
          replace pr21 : 0 ≤ r21.toInt ∧ r21.toInt ≤ 1000 := pr21
          have k22 := kI_1
          refine lv_goto (tgt := 127) hx hb dX10_layLayers_122 (by decide) ?_
          exact J127 H locs ls v3 vs0 v6 r21 hG (lv_sub hl [1, 2, 3, 0, 5] rfl) (by omega) (by omega) (by omega) (by omega) (by omega) (by omega) (by omega) (by omega) (by omega)
      refine lv_iload hx hb dX10_layLayers_62 (lv_at hl 5 rfl) ?_
      refine lv_iload_n hx hb dX10_layLayers_64 rfl (lv_at hl 2 rfl) ?_
      refine lv_icmp_ge (tgt := 135) hx hb dX10_layLayers_65 (by decide) (fun c23 => ?_) (fun c23 => ?_)
      · skip
        have ic23 := tn_le rfl rfl c23
        refine lv_aload_n hx hb dX10_layLayers_135 rfl (lv_at hl 0 rfl) ?_
        refine lv_iload_n hx hb dX10_layLayers_136 rfl (lv_at hl 1 rfl) ?_
        refine lv_iload hx hb dX10_layLayers_137 (lv_at hl 3 rfl) ?_
        refine lv_iload hx hb dX10_layLayers_139 (lv_at hl 4 rfl) ?_
        refine mc_callvX hG (mc_runV (As := [.int x1, .int v4, .int v5]) (rest := []) E hG (c_X10_ends l G σ cu X Fa h0 x1 v4 v5 t0 (by omega) (by omega) hA (by omega)) t0 rfl kv_X10_ends ml_X10_230 ⟨rfl, rfl, Nat.le_of_ble_eq_true rfl, Nat.le_of_ble_eq_true rfl⟩ rfl hl.1 rfl (Nat.le_of_ble_eq_true rfl) ⟨Nat.zero_le _, Nat.zero_le _⟩ dX10_layLayers_141) (fun Z H locs eZ pZ hG => ?_)
        obtain ⟨F25, rfl, pF25⟩ := pZ
        clear eZ
        refine lv_aload_n hx hb dX10_layLayers_144 rfl (lv_at hl 0 rfl) ?_
        refine lv_iload_n hx hb dX10_layLayers_145 rfl (lv_at hl 1 rfl) ?_
        refine lv_iconst (v := 2) hx hb dX10_layLayers_146 (by decide) ?_
        refine tc_callp (mc_runV (As := [.int x1, .int 2]) (rest := []) E hG (c_X10_get l G (σ, cu, kO PC X F25) h0 x1 (2 : Int32) t0 (by omega) (by omega) (by decide) (by decide)) t0 rfl kv_X10_get ml_X10_91 ⟨rfl, rfl, Nat.le_of_ble_eq_true rfl, Nat.le_of_ble_eq_true rfl⟩ rfl hl.1 rfl (Nat.le_of_ble_eq_true rfl) ⟨Nat.zero_le _, Nat.zero_le _⟩ dX10_layLayers_147) (fun r26 pr26 => ?_)
        replace pr26 : mV (σ, cu, kO PC X F25) (ix x1.toInt (2 : Int32).toInt) r26 := pr26
        have pr26 := mV_l pr26 kI_2
        have br26 := mV_2 pr26 (by omega)
        have cr26 := mT pr26 (kO_TI (PC_tr hcu) hT) (by omega) (by omega) (by decide) (by decide)
        have k27 := kI_2
        refine lv_istore (lv' := [(6, .int r26), (0, .ref h0), (1, .int x1), (3, .int v3), (4, .int v4), (5, .int v5)]) hx hb dX10_layLayers_150 hl (by decide) rfl (fun ls hl => ?_)
        refine lv_iconst (v := 0) hx hb dX10_layLayers_152 (by decide) ?_
        refine lv_istore (lv' := [(7, .int 0), (6, .int r26), (0, .ref h0), (1, .int x1), (3, .int v3), (4, .int v4), (5, .int v5)]) hx hb dX10_layLayers_153 hl (by decide) rfl (fun ls hl => ?_)
        exact J155 ((8 - (0 : Int32).toInt).toNat + 1) F25 H locs ls v3 r26 (0 : Int32) hG (lv_sub hl [2, 3, 4, 1, 0] rfl) (by omega) (by omega) (by omega) (by omega) (by decide) (by decide) (by assumption) (Nat.lt_succ_self _)
      · skip
        have ic23 := tn_nle rfl rfl c23
        refine lv_aload_n hx hb dX10_layLayers_68 rfl (lv_at hl 0 rfl) ?_
        refine lv_iload_n hx hb dX10_layLayers_69 rfl (lv_at hl 1 rfl) ?_
        refine lv_iload hx hb dX10_layLayers_70 (lv_at hl 5 rfl) ?_
        refine tc_callp (mc_runV (As := [.int x1, .int v6]) (rest := []) E hG (c_X10_childOf l G (σ, cu, kO PC X Fa) h0 x1 v6 t0 (by omega) (by omega) (by omega) (by omega)) t0 rfl kv_X10_childOf ml_X10_153 ⟨rfl, rfl, Nat.le_of_ble_eq_true rfl, Nat.le_of_ble_eq_true rfl⟩ rfl hl.1 rfl (Nat.le_of_ble_eq_true rfl) ⟨Nat.zero_le _, Nat.zero_le _⟩ dX10_layLayers_72) (fun r28 pr28 => ?_)
        replace pr28 : mV (σ, cu, kO PC X Fa) (ix x1.toInt (11 + v6.toInt)) r28 := pr28
        have br28 := mV_r 11 18 0 23 pr28 (by omega) (by omega) (by omega) (by decide) (by decide)
        have cr28 := mT pr28 (kO_TI (PC_tr hcu) hT) (by omega) (by omega) (by omega) (by omega)
        have dr28 := mP11 cr28 hI (by omega) (by omega) (by omega)
        refine lv_istore (lv' := [(7, .int r28), (0, .ref h0), (1, .int x1), (3, .int v3), (4, .int v4), (5, .int v5), (6, .int v6)]) hx hb dX10_layLayers_75 hl (by decide) rfl (fun ls hl => ?_)
        refine lv_aload_n hx hb dX10_layLayers_77 rfl (lv_at hl 1 rfl) ?_
        refine lv_iload hx hb dX10_layLayers_78 (lv_at hl 0 rfl) ?_
        refine lv_iconst (v := 0) hx hb dX10_layLayers_80 (by decide) ?_
        refine tc_callp (mc_runV (As := [.int r28, .int 0]) (rest := []) E hG (c_X10_sizeOf l G (σ, cu, kO PC X Fa) h0 r28 (0 : Int32) t0 (by omega) (by omega) (by decide) (by decide)) t0 rfl kv_X10_sizeOf ml_X10_243 ⟨rfl, rfl, Nat.le_of_ble_eq_true rfl, Nat.le_of_ble_eq_true rfl⟩ rfl hl.1 rfl (Nat.le_of_ble_eq_true rfl) ⟨Nat.zero_le _, Nat.zero_le _⟩ dX10_layLayers_81) (fun r29 pr29 => ?_)
        replace pr29 : 0 ≤ r29.toInt ∧ r29.toInt ≤ 1000 := pr29
        have k30 := kI_0
        refine lv_iload hx hb dX10_layLayers_84 (lv_at hl 4 rfl) ?_
        refine lv_icmp_le (tgt := 99) hx hb dX10_layLayers_86 (by decide) (fun c31 => ?_) (fun c31 => ?_)
        · skip
          have ic31 := tn_le rfl rfl c31
          refine lv_iload hx hb dX10_layLayers_99 (lv_at hl 4 rfl) ?_
          exact J101 H locs ls v3 v5 v6 r28 v4 hG (lv_sub hl [1, 2, 3, 5, 6, 0] rfl) (by omega) (by omega) (by omega) (by omega) (by omega) (by omega) (by omega) (by omega) (by omega) (by omega) (by omega)
        · skip
          have ic31 := tn_nle rfl rfl c31
          refine lv_aload_n hx hb dX10_layLayers_89 rfl (lv_at hl 1 rfl) ?_
          refine lv_iload hx hb dX10_layLayers_90 (lv_at hl 0 rfl) ?_
          refine lv_iconst (v := 0) hx hb dX10_layLayers_92 (by decide) ?_
          refine tc_callp (mc_runV (As := [.int r28, .int 0]) (rest := []) E hG (c_X10_sizeOf l G (σ, cu, kO PC X Fa) h0 r28 (0 : Int32) t0 (by omega) (by omega) (by decide) (by decide)) t0 rfl kv_X10_sizeOf ml_X10_243 ⟨rfl, rfl, Nat.le_of_ble_eq_true rfl, Nat.le_of_ble_eq_true rfl⟩ rfl hl.1 rfl (Nat.le_of_ble_eq_true rfl) ⟨Nat.zero_le _, Nat.zero_le _⟩ dX10_layLayers_93) (fun r32 pr32 => ?_)
          replace pr32 : 0 ≤ r32.toInt ∧ r32.toInt ≤ 1000 := pr32
          have k33 := kI_0
          refine lv_goto (tgt := 101) hx hb dX10_layLayers_96 (by decide) ?_
          exact J101 H locs ls v3 v5 v6 r28 r32 hG (lv_sub hl [1, 2, 3, 5, 6, 0] rfl) (by omega) (by omega) (by omega) (by omega) (by omega) (by omega) (by omega) (by omega) (by omega) (by omega) (by omega)
  refine lv_aload_n hx hb dX10_layLayers_0 rfl (lv_at hl 0 rfl) ?_
  refine mc_getr E hG t0 mr_42 dX10_layLayers_1 (fun oa34 hoa34 => ?_)
  refine lv_iload_n hx hb dX10_layLayers_4 rfl (lv_at hl 1 rfl) ?_
  refine mc_iald E hG hoa34 ma_11 (t_in (by omega) (by omega)) dX10_layLayers_5 (fun z35 lz35 uz35 qz35 => ?_)
  have wz35 := kq qz35 (PC_11)
  refine lv_istore_n (lv' := [(2, .int z35), (0, .ref h0), (1, .int x1)]) hx hb dX10_layLayers_6 rfl hl (by decide) rfl (fun ls hl => ?_)
  refine lv_aload_n hx hb dX10_layLayers_7 rfl (lv_at hl 1 rfl) ?_
  refine lv_iload_n hx hb dX10_layLayers_8 rfl (lv_at hl 2 rfl) ?_
  refine tc_callp (mc_runV (As := [.int x1]) (rest := []) E hG (c_X10_manyOf l G (σ, cu, kO PC X Fa) h0 x1 t0 (by omega) (by omega)) t0 rfl kv_X10_manyOf ml_X10_117 ⟨rfl, rfl, Nat.le_of_ble_eq_true rfl, Nat.le_of_ble_eq_true rfl⟩ rfl hl.1 rfl (Nat.le_of_ble_eq_true rfl) ⟨Nat.zero_le _, Nat.zero_le _⟩ dX10_layLayers_9) (fun r36 pr36 => ?_)
  replace pr36 : mV (σ, cu, kO PC X Fa) (ix x1.toInt 10) r36 := pr36
  have br36 := mV_10 pr36 (by omega)
  have cr36 := mT pr36 (kO_TI (PC_tr hcu) hT) (by omega) (by omega) (by decide) (by decide)
  refine lv_istore_n (lv' := [(3, .int r36), (2, .int z35), (0, .ref h0), (1, .int x1)]) hx hb dX10_layLayers_12 rfl hl (by decide) rfl (fun ls hl => ?_)
  refine lv_iload_n hx hb dX10_layLayers_13 rfl (lv_at hl 1 rfl) ?_
  refine lv_iload_n hx hb dX10_layLayers_14 rfl (lv_at hl 0 rfl) ?_
  refine lv_icmp_ge (tgt := 53) hx hb dX10_layLayers_15 (by decide) (fun c37 => ?_) (fun c37 => ?_)
  · skip
    have ic37 := tn_le rfl rfl c37
    refine lv_iconst (v := 0) hx hb dX10_layLayers_53 (by decide) ?_
    refine lv_istore (lv' := [(4, .int 0), (3, .int r36), (2, .int z35), (0, .ref h0), (1, .int x1)]) hx hb dX10_layLayers_54 hl (by decide) rfl (fun ls hl => ?_)
    refine lv_iconst (v := 0) hx hb dX10_layLayers_56 (by decide) ?_
    refine lv_istore (lv' := [(5, .int 0), (4, .int 0), (3, .int r36), (2, .int z35), (0, .ref h0), (1, .int x1)]) hx hb dX10_layLayers_57 hl (by decide) rfl (fun ls hl => ?_)
    refine lv_iconst (v := 0) hx hb dX10_layLayers_59 (by decide) ?_
    refine lv_istore (lv' := [(6, .int 0), (5, .int 0), (4, .int 0), (3, .int r36), (2, .int z35), (0, .ref h0), (1, .int x1)]) hx hb dX10_layLayers_60 hl (by decide) rfl (fun ls hl => ?_)
    exact J62 ((8 - (0 : Int32).toInt).toNat + 1) H locs ls r36 (0 : Int32) (0 : Int32) (0 : Int32) hG (lv_sub hl [5, 6, 3, 2, 1, 0] rfl) (by omega) (by omega) (by decide) (by decide) (by decide) (by decide) (by decide) (by decide) (Nat.lt_succ_self _)
  · skip
    have ic37 := tn_nle rfl rfl c37
    refine lv_aload_n hx hb dX10_layLayers_18 rfl (lv_at hl 2 rfl) ?_
    refine mc_getr E hG t0 mr_42 dX10_layLayers_19 (fun oa38 hoa38 => ?_)
    refine lv_iload_n hx hb dX10_layLayers_22 rfl (lv_at hl 3 rfl) ?_
    refine lv_dup2_11 hx hb dX10_layLayers_23 rfl rfl ?_
    refine mc_iald E hG hoa38 ma_11 (t_in (by omega) (by omega)) dX10_layLayers_24 (fun z39 lz39 uz39 qz39 => ?_)
    have wz39 := kq qz39 (PC_11)
    have hq25 : z39.toInt = z35.toInt := by rw [wz39, wz35]
    refine lv_iconst (v := 1) hx hb dX10_layLayers_25 (by decide) ?_
    refine lv_iadd hx hb dX10_layLayers_26 ?_
    refine lv_topi (fun z40 ez40 => ?_)
    have tz40 := tn_add ez40 rfl kI_1 (by omega) (by omega)
    refine mc_iastX E hG hoa38 ma_11.1 ma_11.2.1 (ma_11.2.2 _) (t_in (by omega) (by omega)) (by omega) (by omega) dX10_layLayers_27 (fun H locs hG => ?_)
    have hG := kO_set (PC_11) hG
    obtain ⟨F41, eF41⟩ : ∃ Z : mF, Z = up2 Fa 11 (x1).toNatClampNeg z40 := ⟨_, rfl⟩
    rw [← eF41] at hG
    refine lv_aload_n hx hb dX10_layLayers_28 rfl (lv_at hl 2 rfl) ?_
    refine lv_aload_n hx hb dX10_layLayers_29 rfl (lv_at hl 2 rfl) ?_
    refine lv_iload_n hx hb dX10_layLayers_30 rfl (lv_at hl 3 rfl) ?_
    refine lv_iload_n hx hb dX10_layLayers_31 rfl (lv_at hl 1 rfl) ?_
    refine tc_callp (mc_runV (As := [.int x1, .int z35]) (rest := [.ref h0]) E hG (c_X10_childOf l G (σ, cu, kO PC X F41) h0 x1 z35 t0 (by omega) (by omega) (by omega) (by omega)) t0 rfl kv_X10_childOf ml_X10_153 ⟨rfl, rfl, Nat.le_of_ble_eq_true rfl, Nat.le_of_ble_eq_true rfl⟩ rfl hl.1 rfl (Nat.le_of_ble_eq_true rfl) ⟨Nat.zero_le _, Nat.zero_le _⟩ dX10_layLayers_32) (fun r42 pr42 => ?_)
    replace pr42 : mV (σ, cu, kO PC X F41) (ix x1.toInt (11 + z35.toInt)) r42 := pr42
    have br42 := mV_r 11 18 0 23 pr42 (by omega) (by omega) (by omega) (by decide) (by decide)
    have cr42 := mT pr42 (kO_TI (PC_tr hcu) hT) (by omega) (by omega) (by omega) (by omega)
    have dr42 := mP11 cr42 hI (by omega) (by omega) (by omega)
    refine lv_iconst (v := 0) hx hb dX10_layLayers_35 (by decide) ?_
    refine lv_aload_n hx hb dX10_layLayers_36 rfl (lv_at hl 2 rfl) ?_
    refine lv_iload_n hx hb dX10_layLayers_37 rfl (lv_at hl 3 rfl) ?_
    refine lv_iconst (v := 0) hx hb dX10_layLayers_38 (by decide) ?_
    refine tc_callp (mc_runV (As := [.int x1, .int 0]) (rest := [.int 0, .int r42, .ref h0]) E hG (c_X10_most l G (σ, cu, kO PC X F41) h0 x1 (0 : Int32) t0 (by omega) (by omega) (by decide) (by decide)) t0 rfl kv_X10_most ml_X10_227 ⟨rfl, rfl, Nat.le_of_ble_eq_true rfl, Nat.le_of_ble_eq_true rfl⟩ rfl hl.1 rfl (Nat.le_of_ble_eq_true rfl) ⟨Nat.zero_le _, Nat.zero_le _⟩ dX10_layLayers_39) (fun r43 pr43 => ?_)
    replace pr43 : 0 ≤ r43.toInt ∧ r43.toInt ≤ 1000 := pr43
    have k44 := kI_0
    refine lv_iconst (v := 0) hx hb dX10_layLayers_42 (by decide) ?_
    refine lv_aload_n hx hb dX10_layLayers_43 rfl (lv_at hl 2 rfl) ?_
    refine lv_iload_n hx hb dX10_layLayers_44 rfl (lv_at hl 3 rfl) ?_
    refine lv_iconst (v := 1) hx hb dX10_layLayers_45 (by decide) ?_
    refine tc_callp (mc_runV (As := [.int x1, .int 1]) (rest := [.int 0, .int r43, .int 0, .int r42, .ref h0]) E hG (c_X10_most l G (σ, cu, kO PC X F41) h0 x1 (1 : Int32) t0 (by omega) (by omega) (by decide) (by decide)) t0 rfl kv_X10_most ml_X10_227 ⟨rfl, rfl, Nat.le_of_ble_eq_true rfl, Nat.le_of_ble_eq_true rfl⟩ rfl hl.1 rfl (Nat.le_of_ble_eq_true rfl) ⟨Nat.zero_le _, Nat.zero_le _⟩ dX10_layLayers_46) (fun r45 pr45 => ?_)
    replace pr45 : 0 ≤ r45.toInt ∧ r45.toInt ≤ 1000 := pr45
    have k46 := kI_1
    refine mc_callvX hG (mc_runV (As := [.int r42, .int 0, .int r43, .int 0, .int r45]) (rest := []) E hG (c_X10_lay l G σ cu X F41 h0 r42 (0 : Int32) r43 (0 : Int32) r45 t0 (by omega) (by omega) (by decide) (by decide) (by omega) (by omega) (by decide) (by decide) (by omega) (by omega) hA (by rw [eF41, up2_ne (by omega)]; omega)) t0 rfl kv_X10_lay ml_X10_236 ⟨rfl, rfl, Nat.le_of_ble_eq_true rfl, Nat.le_of_ble_eq_true rfl⟩ rfl hl.1 rfl (Nat.le_of_ble_eq_true rfl) ⟨Nat.zero_le _, Nat.zero_le _⟩ dX10_layLayers_49) (fun Z H locs eZ pZ hG => ?_)
    obtain ⟨F48, rfl, pF48⟩ := pZ
    clear eZ
    exact mc_vretX E hr hlk hG rfl ⟨_, rfl, Or.inr ⟨F41, z40, r42, eF41, (by rw [← wz39]; omega), by omega, pF48, by omega, by omega, by omega⟩⟩ dX10_layLayers_52

set_option maxHeartbeats 4000000 in
set_option maxRecDepth 100000 in
theorem c_X10_endsRow (l : Launch) (G : tG) (σ : Nat → Nat) (cu : Nat) (X : mX) (Fa : mF) (h0 : Nat) (x1 : Int32) (t0 : σ h0 = 1) (l1 : 0 ≤ x1.toInt) (u1 : x1.toInt ≤ 23) (t : Nat → Int32) (hT : TI (σ, cu, X) t) (hI : TInv t) (hA : mAV (σ, cu, X)) (hd1 : 1 ≤ (Fa 1 18).toInt) (hd2 : (Fa 1 18).toInt ≤ 24) : Met l yX10_endsRow (.code yX10_endsRow cX10_endsRow 15 none :: tWS) (tRm 4 95) (va_Pc [.ref h0, .int x1] (mPre G (σ, cu, kO PC X Fa))) (mQvX G (σ, cu, kO PC X Fa) (fun Z => ∃ F : mF, Z = (σ, cu, kO PC X F) ∧ SPo Fa F)) 0 0 (mA (σ, cu, kO PC X Fa)) := by
  refine mc_met (by decide) (Nat.le_of_ble_eq_true rfl) ?_
  intro p e s m below meth c E hr hlk hG ls hl
  have hl : lv_has ls 15 [(0, .ref h0), (1, .int x1)] := hl
  have hx := E.1
  have hb := E.2.1
  obtain ⟨H, eH⟩ : ∃ H, H = s.heap := ⟨_, rfl⟩
  obtain ⟨locs, eL⟩ : ∃ x : List Loc, x = [] := ⟨_, rfl⟩
  have hG : mGH G (σ, cu, kO PC X Fa) s H locs := by rw [eH, eL]; exact hG
  suffices hW : W p l e (tRm 4 95) s m ([.ref h0, .int x1] : List Value).toArray below meth c H locs 0 0 (MQ below (mQvX G (σ, cu, kO PC X Fa) (fun Z => ∃ F : mF, Z = (σ, cu, kO PC X F) ∧ SPo Fa F)) ([.ref h0, .int x1] : List Value).toArray s 0 0 (mA (σ, cu, kO PC X Fa))) (F0 m 0 ls []) by subst eH; subst eL; exact hW
  clear eH eL
  have hcu : mCu cu := hG.2.2.1
  have J301 : ∀ (n301 : Nat) (F : mF) (H : Heap) (locs : List Loc) (ls : Array Slot) (v2 : Int32) (v3 : Int32) (v8 : Int32) (v9 : Int32) (v11 : Int32) (v12 : Int32), mGH G (σ, cu, kO PC X F) s H locs → lv_has ls 15 [(0, .ref h0), (1, .int x1), (2, .int v2), (3, .int v3), (8, .int v8), (9, .int v9), (11, .int v11), (12, .int v12)] → 0 ≤ v2.toInt → v2.toInt ≤ 1 → 0 ≤ v3.toInt → v3.toInt ≤ 8 → 0 ≤ v8.toInt → v8.toInt ≤ 1 → 0 ≤ v12.toInt → v12.toInt ≤ 8 → SPo Fa F → (8 - v12.toInt).toNat < n301 → W p l e (tRm 4 95) s m ([.ref h0, .int x1] : List Value).toArray below meth c H locs 0 0 (MQ below (mQvX G (σ, cu, kO PC X Fa) (fun Z => ∃ F : mF, Z = (σ, cu, kO PC X F) ∧ SPo Fa F)) ([.ref h0, .int x1] : List Value).toArray s 0 0 (mA (σ, cu, kO PC X Fa))) (F0 m 301 ls []) := by
    intro n301
    induction n301 with
    | zero => intro F H locs ls v2 v3 v8 v9 v11 v12 hG hl b2 c2 b3 c3 b8 c8 b12 c12 hex301 hn301; exact absurd hn301 (Nat.not_lt_zero _)
    | succ n301 ih301 =>
      intro F H locs ls v2 v3 v8 v9 v11 v12 hG hl b2 c2 b3 c3 b8 c8 b12 c12 hex301 hn301
      have J393 : ∀ (H : Heap) (locs : List Loc) (ls : Array Slot) (v2 : Int32) (v3 : Int32) (v8 : Int32) (v9 : Int32) (v11 : Int32) (v12 : Int32) (v13 : Int32) (as0 : Nat) (vs1 : Int32) (vs2 : Int32) (vs3 : Int32), mGH G (σ, cu, kO PC X F) s H locs → lv_has ls 15 [(0, .ref h0), (1, .int x1), (2, .int v2), (3, .int v3), (8, .int v8), (9, .int v9), (11, .int v11), (12, .int v12), (13, .int v13)] → 0 ≤ v2.toInt → v2.toInt ≤ 1 → 1 ≤ v3.toInt → v3.toInt ≤ 8 → 0 ≤ v8.toInt → v8.toInt ≤ 1 → 0 ≤ v12.toInt → v12.toInt ≤ 7 → 0 ≤ v13.toInt → v13.toInt ≤ 23 → σ as0 = 1 → 0 ≤ vs1.toInt → vs1.toInt ≤ 23 → (8 - v12.toInt).toNat < n301 + 1 → W p l e (tRm 4 95) s m ([.ref h0, .int x1] : List Value).toArray below meth c H locs 0 0 (MQ below (mQvX G (σ, cu, kO PC X Fa) (fun Z => ∃ F : mF, Z = (σ, cu, kO PC X F) ∧ SPo Fa F)) ([.ref h0, .int x1] : List Value).toArray s 0 0 (mA (σ, cu, kO PC X Fa))) (F0 m 393 ls [.int vs3, .int vs2, .int vs1, .ref as0]) := by
        intro H locs ls v2 v3 v8 v9 v11 v12 v13 as0 vs1 vs2 vs3 hG hl b2 c2 b3 c3 b8 c8 b12 c12 b13 c13 es0 bs1 cs1 hm301
        refine mc_callv hG (mc_runV (As := [.int vs1, .int vs2, .int vs3]) (rest := []) E hG (c_X10_sets l G σ cu (kO PC X F) as0 vs1 vs2 vs3 es0 (by omega) (by omega) (PC_AV hA hcu)) es0 rfl kv_X10_sets ml_X10_240 ⟨rfl, rfl, Nat.le_of_ble_eq_true rfl, Nat.le_of_ble_eq_true rfl⟩ rfl hl.1 rfl (Nat.le_of_ble_eq_true rfl) ⟨Nat.zero_le _, Nat.zero_le _⟩ dX10_endsRow_393) (fun H locs hG => ?_)
        refine lv_iload hx hb dX10_endsRow_396 (lv_at hl 6 rfl) ?_
        refine lv_aload_n hx hb dX10_endsRow_398 rfl (lv_at hl 0 rfl) ?_
        refine lv_iload hx hb dX10_endsRow_399 (lv_at hl 8 rfl) ?_
        refine lv_iload_n hx hb dX10_endsRow_401 rfl (lv_at hl 2 rfl) ?_
        refine tc_callp (mc_runV (As := [.int v13, .int v2]) (rest := [.int v11]) E hG (c_X10_sizeOf l G (σ, cu, kO PC X F) h0 v13 v2 t0 (by omega) (by omega) (by omega) (by omega)) t0 rfl kv_X10_sizeOf ml_X10_243 ⟨rfl, rfl, Nat.le_of_ble_eq_true rfl, Nat.le_of_ble_eq_true rfl⟩ rfl hl.1 rfl (Nat.le_of_ble_eq_true rfl) ⟨Nat.zero_le _, Nat.zero_le _⟩ dX10_endsRow_402) (fun r2 pr2 => ?_)
        replace pr2 : 0 ≤ r2.toInt ∧ r2.toInt ≤ 1000 := pr2
        refine lv_aload_n hx hb dX10_endsRow_405 rfl (lv_at hl 0 rfl) ?_
        refine lv_iload_n hx hb dX10_endsRow_406 rfl (lv_at hl 1 rfl) ?_
        refine lv_iconst (v := 3) hx hb dX10_endsRow_407 (by decide) ?_
        refine tc_callp (mc_runV (As := [.int x1, .int 3]) (rest := [.int r2, .int v11]) E hG (c_X10_get l G (σ, cu, kO PC X F) h0 x1 (3 : Int32) t0 (by omega) (by omega) (by decide) (by decide)) t0 rfl kv_X10_get ml_X10_91 ⟨rfl, rfl, Nat.le_of_ble_eq_true rfl, Nat.le_of_ble_eq_true rfl⟩ rfl hl.1 rfl (Nat.le_of_ble_eq_true rfl) ⟨Nat.zero_le _, Nat.zero_le _⟩ dX10_endsRow_408) (fun r3 pr3 => ?_)
        replace pr3 : mV (σ, cu, kO PC X F) (ix x1.toInt (3 : Int32).toInt) r3 := pr3
        have pr3 := mV_l pr3 kI_3
        have br3 := mV_3 pr3 (by omega)
        have cr3 := mT pr3 (kO_TI (PC_tr hcu) hT) (by omega) (by omega) (by decide) (by decide)
        have k4 := kI_3
        refine lv_iadd hx hb dX10_endsRow_411 ?_
        refine lv_topi (fun z5 ez5 => ?_)
        have tz5 := tn_add ez5 rfl rfl (by omega) (by omega)
        refine lv_iadd hx hb dX10_endsRow_412 ?_
        refine lv_topi (fun z6 ez6 => ?_)
        refine lv_istore (lv' := [(11, .int z6), (0, .ref h0), (1, .int x1), (2, .int v2), (3, .int v3), (8, .int v8), (9, .int v9), (12, .int v12), (13, .int v13)]) hx hb dX10_endsRow_413 hl (by decide) rfl (fun ls hl => ?_)
        obtain ⟨z7, ez7⟩ : ∃ y : Int32, y = v12 + (1) := ⟨_, rfl⟩
        refine lv_iinc (v := z7) (lv' := [(12, .int z7), (11, .int z6), (0, .ref h0), (1, .int x1), (2, .int v2), (3, .int v3), (8, .int v8), (9, .int v9), (13, .int v13)]) hx hb dX10_endsRow_415 hl (k := 7) rfl (by rw [ez7]; rfl) (by decide) rfl (fun ls hl => ?_)
        have tz7 := tn_add ez7 rfl kI_1 (by omega) (by omega)
        refine lv_goto (tgt := 301) hx hb dX10_endsRow_418 (by decide) ?_
        exact ih301 F H locs ls v2 v3 v8 v9 z6 z7 hG (lv_sub hl [2, 3, 4, 5, 6, 7, 1, 0] rfl) (by omega) (by omega) (by omega) (by omega) (by omega) (by omega) (by omega) (by omega) (by assumption) (by omega)
      have J382 : ∀ (H : Heap) (locs : List Loc) (ls : Array Slot) (v2 : Int32) (v3 : Int32) (v8 : Int32) (v9 : Int32) (v11 : Int32) (v12 : Int32) (v13 : Int32) (v14 : Int32) (as0 : Nat) (vs1 : Int32) (vs2 : Int32), mGH G (σ, cu, kO PC X F) s H locs → lv_has ls 15 [(0, .ref h0), (1, .int x1), (2, .int v2), (3, .int v3), (8, .int v8), (9, .int v9), (11, .int v11), (12, .int v12), (13, .int v13), (14, .int v14)] → 0 ≤ v2.toInt → v2.toInt ≤ 1 → 1 ≤ v3.toInt → v3.toInt ≤ 8 → 0 ≤ v8.toInt → v8.toInt ≤ 1 → 0 ≤ v12.toInt → v12.toInt ≤ 7 → 0 ≤ v13.toInt → v13.toInt ≤ 23 → σ as0 = 1 → 0 ≤ vs1.toInt → vs1.toInt ≤ 23 → (8 - v12.toInt).toNat < n301 + 1 → W p l e (tRm 4 95) s m ([.ref h0, .int x1] : List Value).toArray below meth c H locs 0 0 (MQ below (mQvX G (σ, cu, kO PC X Fa) (fun Z => ∃ F : mF, Z = (σ, cu, kO PC X F) ∧ SPo Fa F)) ([.ref h0, .int x1] : List Value).toArray s 0 0 (mA (σ, cu, kO PC X Fa))) (F0 m 382 ls [.int vs2, .int vs1, .ref as0]) := by
        intro H locs ls v2 v3 v8 v9 v11 v12 v13 v14 as0 vs1 vs2 hG hl b2 c2 b3 c3 b8 c8 b12 c12 b13 c13 es0 bs1 cs1 hm301
        refine lv_iload_n hx hb dX10_endsRow_382 rfl (lv_at hl 2 rfl) ?_
        refine lv_if_ne (tgt := 391) hx hb dX10_endsRow_383 (by decide) (fun c8 => ?_) (fun c8 => ?_)
        · skip
          have ic8 := tn_ne rfl kI_0 c8
          refine lv_iload hx hb dX10_endsRow_391 (lv_at hl 6 rfl) ?_
          exact J393 H locs ls v2 v3 v8 v9 v11 v12 v13 (as0) vs1 vs2 v11 hG (lv_sub hl [0, 1, 2, 3, 4, 5, 6, 7, 8] rfl) (by omega) (by omega) (by omega) (by omega) (by omega) (by omega) (by omega) (by omega) (by omega) (by omega) es0 (by omega) (by omega) (by omega)
        · skip
          have ic8 := tn_eq rfl kI_0 c8
          refine lv_iload hx hb dX10_endsRow_386 (lv_at hl 9 rfl) ?_
          refine lv_goto (tgt := 393) hx hb dX10_endsRow_388 (by decide) ?_
          exact J393 H locs ls v2 v3 v8 v9 v11 v12 v13 (as0) vs1 vs2 v14 hG (lv_sub hl [0, 1, 2, 3, 4, 5, 6, 7, 8] rfl) (by omega) (by omega) (by omega) (by omega) (by omega) (by omega) (by omega) (by omega) (by omega) (by omega) es0 (by omega) (by omega) (by omega)
      have J366 : ∀ (H : Heap) (locs : List Loc) (ls : Array Slot) (v2 : Int32) (v3 : Int32) (v8 : Int32) (v9 : Int32) (v11 : Int32) (v12 : Int32) (v13 : Int32) (vs0 : Int32), mGH G (σ, cu, kO PC X F) s H locs → lv_has ls 15 [(0, .ref h0), (1, .int x1), (2, .int v2), (3, .int v3), (8, .int v8), (9, .int v9), (11, .int v11), (12, .int v12), (13, .int v13)] → 0 ≤ v2.toInt → v2.toInt ≤ 1 → 1 ≤ v3.toInt → v3.toInt ≤ 8 → 0 ≤ v8.toInt → v8.toInt ≤ 1 → 0 ≤ v12.toInt → v12.toInt ≤ 7 → 0 ≤ v13.toInt → v13.toInt ≤ 23 → (8 - v12.toInt).toNat < n301 + 1 → W p l e (tRm 4 95) s m ([.ref h0, .int x1] : List Value).toArray below meth c H locs 0 0 (MQ below (mQvX G (σ, cu, kO PC X Fa) (fun Z => ∃ F : mF, Z = (σ, cu, kO PC X F) ∧ SPo Fa F)) ([.ref h0, .int x1] : List Value).toArray s 0 0 (mA (σ, cu, kO PC X Fa))) (F0 m 366 ls [.int vs0]) := by
        intro H locs ls v2 v3 v8 v9 v11 v12 v13 vs0 hG hl b2 c2 b3 c3 b8 c8 b12 c12 b13 c13 hm301
        refine lv_istore (lv' := [(14, .int vs0), (0, .ref h0), (1, .int x1), (2, .int v2), (3, .int v3), (8, .int v8), (9, .int v9), (11, .int v11), (12, .int v12), (13, .int v13)]) hx hb dX10_endsRow_366 hl (by decide) rfl (fun ls hl => ?_)
        refine lv_aload_n hx hb dX10_endsRow_368 rfl (lv_at hl 1 rfl) ?_
        refine lv_iload hx hb dX10_endsRow_369 (lv_at hl 9 rfl) ?_
        refine lv_iload_n hx hb dX10_endsRow_371 rfl (lv_at hl 3 rfl) ?_
        refine lv_if_ne (tgt := 380) hx hb dX10_endsRow_372 (by decide) (fun c9 => ?_) (fun c9 => ?_)
        · skip
          have ic9 := tn_ne rfl kI_0 c9
          refine lv_iload hx hb dX10_endsRow_380 (lv_at hl 0 rfl) ?_
          exact J382 H locs ls v2 v3 v8 v9 v11 v12 v13 vs0 (h0) v13 vs0 hG (lv_sub hl [1, 2, 3, 4, 5, 6, 7, 8, 9, 0] rfl) (by omega) (by omega) (by omega) (by omega) (by omega) (by omega) (by omega) (by omega) (by omega) (by omega) t0 (by omega) (by omega) (by omega)
        · skip
          have ic9 := tn_eq rfl kI_0 c9
          refine lv_iload hx hb dX10_endsRow_375 (lv_at hl 7 rfl) ?_
          refine lv_goto (tgt := 382) hx hb dX10_endsRow_377 (by decide) ?_
          exact J382 H locs ls v2 v3 v8 v9 v11 v12 v13 vs0 (h0) v13 v11 hG (lv_sub hl [1, 2, 3, 4, 5, 6, 7, 8, 9, 0] rfl) (by omega) (by omega) (by omega) (by omega) (by omega) (by omega) (by omega) (by omega) (by omega) (by omega) t0 (by omega) (by omega) (by omega)
      refine lv_iload hx hb dX10_endsRow_301 (lv_at hl 7 rfl) ?_
      refine lv_iload_n hx hb dX10_endsRow_303 rfl (lv_at hl 3 rfl) ?_
      refine lv_icmp_ge (tgt := 421) hx hb dX10_endsRow_304 (by decide) (fun c10 => ?_) (fun c10 => ?_)
      · skip
        have ic10 := tn_le rfl rfl c10
        exact mc_vretX E hr hlk hG rfl ⟨_, rfl, hex301⟩ dX10_endsRow_421
      · skip
        have ic10 := tn_nle rfl rfl c10
        refine lv_aload_n hx hb dX10_endsRow_307 rfl (lv_at hl 0 rfl) ?_
        refine lv_iload_n hx hb dX10_endsRow_308 rfl (lv_at hl 1 rfl) ?_
        refine lv_iload hx hb dX10_endsRow_309 (lv_at hl 7 rfl) ?_
        refine tc_callp (mc_runV (As := [.int x1, .int v12]) (rest := []) E hG (c_X10_childOf l G (σ, cu, kO PC X F) h0 x1 v12 t0 (by omega) (by omega) (by omega) (by omega)) t0 rfl kv_X10_childOf ml_X10_153 ⟨rfl, rfl, Nat.le_of_ble_eq_true rfl, Nat.le_of_ble_eq_true rfl⟩ rfl hl.1 rfl (Nat.le_of_ble_eq_true rfl) ⟨Nat.zero_le _, Nat.zero_le _⟩ dX10_endsRow_311) (fun r11 pr11 => ?_)
        replace pr11 : mV (σ, cu, kO PC X F) (ix x1.toInt (11 + v12.toInt)) r11 := pr11
        have br11 := mV_r 11 18 0 23 pr11 (by omega) (by omega) (by omega) (by decide) (by decide)
        have cr11 := mT pr11 (kO_TI (PC_tr hcu) hT) (by omega) (by omega) (by omega) (by omega)
        have dr11 := mP11 cr11 hI (by omega) (by omega) (by omega)
        refine lv_istore (lv' := [(13, .int r11), (0, .ref h0), (1, .int x1), (2, .int v2), (3, .int v3), (8, .int v8), (9, .int v9), (11, .int v11), (12, .int v12)]) hx hb dX10_endsRow_314 hl (by decide) rfl (fun ls hl => ?_)
        refine lv_iload hx hb dX10_endsRow_316 (lv_at hl 5 rfl) ?_
        refine lv_if_eq (tgt := 339) hx hb dX10_endsRow_318 (by decide) (fun c12 => ?_) (fun c12 => ?_)
        · skip
          have ic12 := tn_eq rfl kI_0 c12
          refine lv_aload_n hx hb dX10_endsRow_339 rfl (lv_at hl 1 rfl) ?_
          refine lv_iload_n hx hb dX10_endsRow_340 rfl (lv_at hl 2 rfl) ?_
          refine lv_iconst (v := 2) hx hb dX10_endsRow_341 (by decide) ?_
          refine tc_callp (mc_runV (As := [.int x1, .int 2]) (rest := []) E hG (c_X10_get l G (σ, cu, kO PC X F) h0 x1 (2 : Int32) t0 (by omega) (by omega) (by decide) (by decide)) t0 rfl kv_X10_get ml_X10_91 ⟨rfl, rfl, Nat.le_of_ble_eq_true rfl, Nat.le_of_ble_eq_true rfl⟩ rfl hl.1 rfl (Nat.le_of_ble_eq_true rfl) ⟨Nat.zero_le _, Nat.zero_le _⟩ dX10_endsRow_342) (fun r13 pr13 => ?_)
          replace pr13 : mV (σ, cu, kO PC X F) (ix x1.toInt (2 : Int32).toInt) r13 := pr13
          have pr13 := mV_l pr13 kI_2
          have br13 := mV_2 pr13 (by omega)
          have cr13 := mT pr13 (kO_TI (PC_tr hcu) hT) (by omega) (by omega) (by decide) (by decide)
          have k14 := kI_2
          refine lv_aload_n hx hb dX10_endsRow_345 rfl (lv_at hl 1 rfl) ?_
          refine lv_iload_n hx hb dX10_endsRow_346 rfl (lv_at hl 2 rfl) ?_
          refine lv_iconst (v := 1) hx hb dX10_endsRow_347 (by decide) ?_
          refine lv_iload_n hx hb dX10_endsRow_348 rfl (lv_at hl 3 rfl) ?_
          refine lv_isub hx hb dX10_endsRow_349 ?_
          refine lv_topi (fun z15 ez15 => ?_)
          have tz15 := tn_sub ez15 kI_1 rfl (by omega) (by omega)
          refine tc_callp (mc_runV (As := [.int x1, .int z15]) (rest := [.int r13]) E hG (c_X10_sizeOf l G (σ, cu, kO PC X F) h0 x1 z15 t0 (by omega) (by omega) (by omega) (by omega)) t0 rfl kv_X10_sizeOf ml_X10_243 ⟨rfl, rfl, Nat.le_of_ble_eq_true rfl, Nat.le_of_ble_eq_true rfl⟩ rfl hl.1 rfl (Nat.le_of_ble_eq_true rfl) ⟨Nat.zero_le _, Nat.zero_le _⟩ dX10_endsRow_350) (fun r16 pr16 => ?_)
          replace pr16 : 0 ≤ r16.toInt ∧ r16.toInt ≤ 1000 := pr16
          refine lv_aload_n hx hb dX10_endsRow_353 rfl (lv_at hl 1 rfl) ?_
          refine lv_iload hx hb dX10_endsRow_354 (lv_at hl 0 rfl) ?_
          refine lv_iconst (v := 1) hx hb dX10_endsRow_356 (by decide) ?_
          refine lv_iload_n hx hb dX10_endsRow_357 rfl (lv_at hl 3 rfl) ?_
          refine lv_isub hx hb dX10_endsRow_358 ?_
          refine lv_topi (fun z17 ez17 => ?_)
          have tz17 := tn_sub ez17 kI_1 rfl (by omega) (by omega)
          refine tc_callp (mc_runV (As := [.int r11, .int z17]) (rest := [.int r16, .int r13]) E hG (c_X10_sizeOf l G (σ, cu, kO PC X F) h0 r11 z17 t0 (by omega) (by omega) (by omega) (by omega)) t0 rfl kv_X10_sizeOf ml_X10_243 ⟨rfl, rfl, Nat.le_of_ble_eq_true rfl, Nat.le_of_ble_eq_true rfl⟩ rfl hl.1 rfl (Nat.le_of_ble_eq_true rfl) ⟨Nat.zero_le _, Nat.zero_le _⟩ dX10_endsRow_359) (fun r18 pr18 => ?_)
          replace pr18 : 0 ≤ r18.toInt ∧ r18.toInt ≤ 1000 := pr18
          refine lv_isub hx hb dX10_endsRow_362 ?_
          refine lv_topi (fun z19 ez19 => ?_)
          have tz19 := tn_sub ez19 rfl rfl (by omega) (by omega)
          refine tc_callp (mc_runS (As := [.int r13, .int z19]) (rest := []) E hG (c_X10_beside l G (σ, cu, kO PC X F) r13 z19) ks_X10_beside ml_X10_249 ⟨rfl, rfl, Nat.le_of_ble_eq_true rfl, Nat.le_of_ble_eq_true rfl⟩ rfl hl.1 rfl (Nat.le_of_ble_eq_true rfl) ⟨Nat.zero_le _, Nat.zero_le _⟩ dX10_endsRow_363) (fun r20 pr20 => ?_)
          exact J366 H locs ls v2 v3 v8 v9 v11 v12 r11 r20 hG (lv_sub hl [1, 2, 3, 4, 5, 6, 7, 8, 0] rfl) (by omega) (by omega) (by omega) (by omega) (by omega) (by omega) (by omega) (by omega) (by omega) (by omega) (by omega)
        · skip
          have ic12 := tn_ne rfl kI_0 c12
          refine lv_iload hx hb dX10_endsRow_321 (lv_at hl 6 rfl) ?_
          refine lv_aload_n hx hb dX10_endsRow_323 rfl (lv_at hl 1 rfl) ?_
          refine mc_getr E hG t0 mr_51 dX10_endsRow_324 (fun oa21 hoa21 => ?_)
          refine lv_bipush (v := 8) hx hb dX10_endsRow_327 (by decide) ?_
          refine lv_iload_n hx hb dX10_endsRow_329 rfl (lv_at hl 2 rfl) ?_
          refine lv_imul hx hb dX10_endsRow_330 ?_
          refine lv_topi (fun z22 ez22 => ?_)
          have tz22 := tn_mul ez22 kI_8 rfl (by omega) (by omega)
          refine lv_iload hx hb dX10_endsRow_331 (lv_at hl 8 rfl) ?_
          refine lv_iadd hx hb dX10_endsRow_333 ?_
          refine lv_topi (fun z23 ez23 => ?_)
          have tz23 := tn_add ez23 rfl rfl (by omega) (by omega)
          refine mc_iald E hG hoa21 ma_14 (t_in (by omega) (by omega)) dX10_endsRow_334 (fun z24 lz24 uz24 qz24 => ?_)
          refine lv_isub hx hb dX10_endsRow_335 ?_
          refine lv_topi (fun z25 ez25 => ?_)
          refine lv_goto (tgt := 366) hx hb dX10_endsRow_336 (by decide) ?_
          exact J366 H locs ls v2 v3 v8 v9 v11 v12 r11 z25 hG (lv_sub hl [1, 2, 3, 4, 5, 6, 7, 8, 0] rfl) (by omega) (by omega) (by omega) (by omega) (by omega) (by omega) (by omega) (by omega) (by omega) (by omega) (by omega)
  have J216 : ∀ (H : Heap) (locs : List Loc) (ls : Array Slot) (v2 : Int32) (v3 : Int32) (v4 : Int32) (v8 : Int32) (v9 : Int32) (as0 : Nat) (vs1 : Int32) (vs2 : Int32) (vs3 : Int32), mGH G (σ, cu, kO PC X Fa) s H locs → lv_has ls 15 [(0, .ref h0), (1, .int x1), (2, .int v2), (3, .int v3), (4, .int v4), (8, .int v8), (9, .int v9)] → 0 ≤ v2.toInt → v2.toInt ≤ 1 → 0 ≤ v3.toInt → v3.toInt ≤ 8 → 0 ≤ v8.toInt → v8.toInt ≤ 1 → σ as0 = 1 → 0 ≤ vs1.toInt → vs1.toInt ≤ 23 → W p l e (tRm 4 95) s m ([.ref h0, .int x1] : List Value).toArray below meth c H locs 0 0 (MQ below (mQvX G (σ, cu, kO PC X Fa) (fun Z => ∃ F : mF, Z = (σ, cu, kO PC X F) ∧ SPo Fa F)) ([.ref h0, .int x1] : List Value).toArray s 0 0 (mA (σ, cu, kO PC X Fa))) (F0 m 216 ls [.int vs3, .int vs2, .int vs1, .ref as0]) := by
    intro H locs ls v2 v3 v4 v8 v9 as0 vs1 vs2 vs3 hG hl b2 c2 b3 c3 b8 c8 es0 bs1 cs1
    refine mc_callvX hG (mc_runV (As := [.int vs1, .int vs2, .int vs3]) (rest := []) E hG (c_X10_ends l G σ cu X Fa as0 vs1 vs2 vs3 es0 (by omega) (by omega) hA (by omega)) es0 rfl kv_X10_ends ml_X10_230 ⟨rfl, rfl, Nat.le_of_ble_eq_true rfl, Nat.le_of_ble_eq_true rfl⟩ rfl hl.1 rfl (Nat.le_of_ble_eq_true rfl) ⟨Nat.zero_le _, Nat.zero_le _⟩ dX10_endsRow_216) (fun Z H locs eZ pZ hG => ?_)
    obtain ⟨F27, rfl, pF27⟩ := pZ
    clear eZ
    refine lv_iload hx hb dX10_endsRow_219 (lv_at hl 4 rfl) ?_
    refine lv_aload_n hx hb dX10_endsRow_221 rfl (lv_at hl 0 rfl) ?_
    refine lv_iload_n hx hb dX10_endsRow_222 rfl (lv_at hl 1 rfl) ?_
    refine lv_iload_n hx hb dX10_endsRow_223 rfl (lv_at hl 2 rfl) ?_
    refine tc_callp (mc_runV (As := [.int x1, .int v2]) (rest := [.int v4]) E hG (c_X10_sizeOf l G (σ, cu, kO PC X F27) h0 x1 v2 t0 (by omega) (by omega) (by omega) (by omega)) t0 rfl kv_X10_sizeOf ml_X10_243 ⟨rfl, rfl, Nat.le_of_ble_eq_true rfl, Nat.le_of_ble_eq_true rfl⟩ rfl hl.1 rfl (Nat.le_of_ble_eq_true rfl) ⟨Nat.zero_le _, Nat.zero_le _⟩ dX10_endsRow_224) (fun r28 pr28 => ?_)
    replace pr28 : 0 ≤ r28.toInt ∧ r28.toInt ≤ 1000 := pr28
    refine lv_isub hx hb dX10_endsRow_227 ?_
    refine lv_topi (fun z29 ez29 => ?_)
    refine lv_istore (lv' := [(10, .int z29), (0, .ref h0), (1, .int x1), (2, .int v2), (3, .int v3), (4, .int v4), (8, .int v8), (9, .int v9)]) hx hb dX10_endsRow_228 hl (by decide) rfl (fun ls hl => ?_)
    refine lv_aload_n hx hb dX10_endsRow_230 rfl (lv_at hl 1 rfl) ?_
    refine lv_iload_n hx hb dX10_endsRow_231 rfl (lv_at hl 2 rfl) ?_
    refine lv_bipush (v := 34) hx hb dX10_endsRow_232 (by decide) ?_
    refine lv_iload hx hb dX10_endsRow_234 (lv_at hl 0 rfl) ?_
    refine lv_if_le (tgt := 244) hx hb dX10_endsRow_236 (by decide) (fun c30 => ?_) (fun c30 => ?_)
    · skip
      have ic30 := tn_le rfl kI_0 c30
      refine lv_iconst (v := 0) hx hb dX10_endsRow_244 (by decide) ?_
      have k31 := kI_0
      refine mc_callv hG (mc_runV (As := [.int x1, .int 34, .int 0]) (rest := []) E hG (c_X10_put l G (σ, cu, kO PC X F27) h0 x1 (34 : Int32) (0 : Int32) t0 (by omega) (by omega) (by decide) (by decide) (-2147483648) (2147483647) rfl (t_any1 _) (t_any2 _) ((PC_AV hA hcu).2.2 _ _ (by omega) (by omega) (by decide) (by decide))) t0 rfl kv_X10_put ml_X10_102 ⟨rfl, rfl, Nat.le_of_ble_eq_true rfl, Nat.le_of_ble_eq_true rfl⟩ rfl hl.1 rfl (Nat.le_of_ble_eq_true rfl) ⟨Nat.zero_le _, Nat.zero_le _⟩ dX10_endsRow_245) (fun H locs hG => ?_)
      refine lv_aload_n hx hb dX10_endsRow_248 rfl (lv_at hl 1 rfl) ?_
      refine lv_iload_n hx hb dX10_endsRow_249 rfl (lv_at hl 2 rfl) ?_
      refine lv_bipush (v := 35) hx hb dX10_endsRow_250 (by decide) ?_
      refine lv_aload_n hx hb dX10_endsRow_252 rfl (lv_at hl 1 rfl) ?_
      refine mc_getr E hG t0 mr_48 dX10_endsRow_253 (fun oa32 hoa32 => ?_)
      refine lv_iload_n hx hb dX10_endsRow_256 rfl (lv_at hl 2 rfl) ?_
      refine mc_iald E hG hoa32 ma_13 (t_in (by omega) (by omega)) dX10_endsRow_257 (fun z33 lz33 uz33 qz33 => ?_)
      refine mc_callv hG (mc_runV (As := [.int x1, .int 35, .int z33]) (rest := []) E hG (c_X10_put l G (σ, cu, kO PC X F27) h0 x1 (35 : Int32) z33 t0 (by omega) (by omega) (by decide) (by decide) (-2147483648) (2147483647) rfl (t_any1 _) (t_any2 _) ((PC_AV hA hcu).2.2 _ _ (by omega) (by omega) (by decide) (by decide))) t0 rfl kv_X10_put ml_X10_102 ⟨rfl, rfl, Nat.le_of_ble_eq_true rfl, Nat.le_of_ble_eq_true rfl⟩ rfl hl.1 rfl (Nat.le_of_ble_eq_true rfl) ⟨Nat.zero_le _, Nat.zero_le _⟩ dX10_endsRow_258) (fun H locs hG => ?_)
      refine lv_aload_n hx hb dX10_endsRow_261 rfl (lv_at hl 1 rfl) ?_
      refine lv_iload_n hx hb dX10_endsRow_262 rfl (lv_at hl 2 rfl) ?_
      refine lv_bipush (v := 36) hx hb dX10_endsRow_263 (by decide) ?_
      refine lv_iload hx hb dX10_endsRow_265 (lv_at hl 6 rfl) ?_
      refine lv_if_ne (tgt := 274) hx hb dX10_endsRow_267 (by decide) (fun c34 => ?_) (fun c34 => ?_)
      · skip
        have ic34 := tn_ne rfl kI_0 c34
        refine lv_iload_n hx hb dX10_endsRow_274 rfl (lv_at hl 4 rfl) ?_
        refine lv_if_le (tgt := 282) hx hb dX10_endsRow_275 (by decide) (fun c35 => ?_) (fun c35 => ?_)
        · skip
          have ic35 := tn_le rfl kI_0 c35
          refine lv_iconst (v := 2) hx hb dX10_endsRow_282 (by decide) ?_
          have k36 := kI_2
          refine mc_callv hG (mc_runV (As := [.int x1, .int 36, .int 2]) (rest := []) E hG (c_X10_put l G (σ, cu, kO PC X F27) h0 x1 (36 : Int32) (2 : Int32) t0 (by omega) (by omega) (by decide) (by decide) (0) (2) rfl (by omega) (by omega) ((PC_AV hA hcu).2.2 _ _ (by omega) (by omega) (by decide) (by decide))) t0 rfl kv_X10_put ml_X10_102 ⟨rfl, rfl, Nat.le_of_ble_eq_true rfl, Nat.le_of_ble_eq_true rfl⟩ rfl hl.1 rfl (Nat.le_of_ble_eq_true rfl) ⟨Nat.zero_le _, Nat.zero_le _⟩ dX10_endsRow_283) (fun H locs hG => ?_)
          refine lv_aload_n hx hb dX10_endsRow_286 rfl (lv_at hl 1 rfl) ?_
          refine lv_iload_n hx hb dX10_endsRow_287 rfl (lv_at hl 2 rfl) ?_
          refine lv_bipush (v := 37) hx hb dX10_endsRow_288 (by decide) ?_
          refine lv_iload hx hb dX10_endsRow_290 (lv_at hl 7 rfl) ?_
          refine mc_callv hG (mc_runV (As := [.int x1, .int 37, .int v9]) (rest := []) E hG (c_X10_put l G (σ, cu, kO PC X F27) h0 x1 (37 : Int32) v9 t0 (by omega) (by omega) (by decide) (by decide) (-2147483648) (2147483647) rfl (t_any1 _) (t_any2 _) ((PC_AV hA hcu).2.2 _ _ (by omega) (by omega) (by decide) (by decide))) t0 rfl kv_X10_put ml_X10_102 ⟨rfl, rfl, Nat.le_of_ble_eq_true rfl, Nat.le_of_ble_eq_true rfl⟩ rfl hl.1 rfl (Nat.le_of_ble_eq_true rfl) ⟨Nat.zero_le _, Nat.zero_le _⟩ dX10_endsRow_292) (fun H locs hG => ?_)
          refine lv_iconst (v := 0) hx hb dX10_endsRow_295 (by decide) ?_
          refine lv_istore (lv' := [(11, .int 0), (10, .int z29), (0, .ref h0), (1, .int x1), (2, .int v2), (3, .int v3), (4, .int v4), (8, .int v8), (9, .int v9)]) hx hb dX10_endsRow_296 hl (by decide) rfl (fun ls hl => ?_)
          refine lv_iconst (v := 0) hx hb dX10_endsRow_298 (by decide) ?_
          refine lv_istore (lv' := [(12, .int 0), (11, .int 0), (10, .int z29), (0, .ref h0), (1, .int x1), (2, .int v2), (3, .int v3), (4, .int v4), (8, .int v8), (9, .int v9)]) hx hb dX10_endsRow_299 hl (by decide) rfl (fun ls hl => ?_)
          exact J301 ((8 - (0 : Int32).toInt).toNat + 1) F27 H locs ls v2 v3 v8 v9 (0 : Int32) (0 : Int32) hG (lv_sub hl [3, 4, 5, 6, 8, 9, 1, 0] rfl) (by omega) (by omega) (by omega) (by omega) (by omega) (by omega) (by decide) (by decide) (by assumption) (Nat.lt_succ_self _)
        · skip
          have ic35 := tn_nle rfl kI_0 c35
          refine lv_iconst (v := 1) hx hb dX10_endsRow_278 (by decide) ?_
          refine lv_goto (tgt := 283) hx hb dX10_endsRow_279 (by decide) ?_
          have k37 := kI_1
          refine mc_callv hG (mc_runV (As := [.int x1, .int 36, .int 1]) (rest := []) E hG (c_X10_put l G (σ, cu, kO PC X F27) h0 x1 (36 : Int32) (1 : Int32) t0 (by omega) (by omega) (by decide) (by decide) (0) (2) rfl (by omega) (by omega) ((PC_AV hA hcu).2.2 _ _ (by omega) (by omega) (by decide) (by decide))) t0 rfl kv_X10_put ml_X10_102 ⟨rfl, rfl, Nat.le_of_ble_eq_true rfl, Nat.le_of_ble_eq_true rfl⟩ rfl hl.1 rfl (Nat.le_of_ble_eq_true rfl) ⟨Nat.zero_le _, Nat.zero_le _⟩ dX10_endsRow_283) (fun H locs hG => ?_)
          refine lv_aload_n hx hb dX10_endsRow_286 rfl (lv_at hl 1 rfl) ?_
          refine lv_iload_n hx hb dX10_endsRow_287 rfl (lv_at hl 2 rfl) ?_
          refine lv_bipush (v := 37) hx hb dX10_endsRow_288 (by decide) ?_
          refine lv_iload hx hb dX10_endsRow_290 (lv_at hl 7 rfl) ?_
          refine mc_callv hG (mc_runV (As := [.int x1, .int 37, .int v9]) (rest := []) E hG (c_X10_put l G (σ, cu, kO PC X F27) h0 x1 (37 : Int32) v9 t0 (by omega) (by omega) (by decide) (by decide) (-2147483648) (2147483647) rfl (t_any1 _) (t_any2 _) ((PC_AV hA hcu).2.2 _ _ (by omega) (by omega) (by decide) (by decide))) t0 rfl kv_X10_put ml_X10_102 ⟨rfl, rfl, Nat.le_of_ble_eq_true rfl, Nat.le_of_ble_eq_true rfl⟩ rfl hl.1 rfl (Nat.le_of_ble_eq_true rfl) ⟨Nat.zero_le _, Nat.zero_le _⟩ dX10_endsRow_292) (fun H locs hG => ?_)
          refine lv_iconst (v := 0) hx hb dX10_endsRow_295 (by decide) ?_
          refine lv_istore (lv' := [(11, .int 0), (10, .int z29), (0, .ref h0), (1, .int x1), (2, .int v2), (3, .int v3), (4, .int v4), (8, .int v8), (9, .int v9)]) hx hb dX10_endsRow_296 hl (by decide) rfl (fun ls hl => ?_)
          refine lv_iconst (v := 0) hx hb dX10_endsRow_298 (by decide) ?_
          refine lv_istore (lv' := [(12, .int 0), (11, .int 0), (10, .int z29), (0, .ref h0), (1, .int x1), (2, .int v2), (3, .int v3), (4, .int v4), (8, .int v8), (9, .int v9)]) hx hb dX10_endsRow_299 hl (by decide) rfl (fun ls hl => ?_)
          exact J301 ((8 - (0 : Int32).toInt).toNat + 1) F27 H locs ls v2 v3 v8 v9 (0 : Int32) (0 : Int32) hG (lv_sub hl [3, 4, 5, 6, 8, 9, 1, 0] rfl) (by omega) (by omega) (by omega) (by omega) (by omega) (by omega) (by decide) (by decide) (by assumption) (Nat.lt_succ_self _)
      · skip
        have ic34 := tn_eq rfl kI_0 c34
        refine lv_iconst (v := 0) hx hb dX10_endsRow_270 (by decide) ?_
        refine lv_goto (tgt := 283) hx hb dX10_endsRow_271 (by decide) ?_
        have k38 := kI_0
        refine mc_callv hG (mc_runV (As := [.int x1, .int 36, .int 0]) (rest := []) E hG (c_X10_put l G (σ, cu, kO PC X F27) h0 x1 (36 : Int32) (0 : Int32) t0 (by omega) (by omega) (by decide) (by decide) (0) (2) rfl (by omega) (by omega) ((PC_AV hA hcu).2.2 _ _ (by omega) (by omega) (by decide) (by decide))) t0 rfl kv_X10_put ml_X10_102 ⟨rfl, rfl, Nat.le_of_ble_eq_true rfl, Nat.le_of_ble_eq_true rfl⟩ rfl hl.1 rfl (Nat.le_of_ble_eq_true rfl) ⟨Nat.zero_le _, Nat.zero_le _⟩ dX10_endsRow_283) (fun H locs hG => ?_)
        refine lv_aload_n hx hb dX10_endsRow_286 rfl (lv_at hl 1 rfl) ?_
        refine lv_iload_n hx hb dX10_endsRow_287 rfl (lv_at hl 2 rfl) ?_
        refine lv_bipush (v := 37) hx hb dX10_endsRow_288 (by decide) ?_
        refine lv_iload hx hb dX10_endsRow_290 (lv_at hl 7 rfl) ?_
        refine mc_callv hG (mc_runV (As := [.int x1, .int 37, .int v9]) (rest := []) E hG (c_X10_put l G (σ, cu, kO PC X F27) h0 x1 (37 : Int32) v9 t0 (by omega) (by omega) (by decide) (by decide) (-2147483648) (2147483647) rfl (t_any1 _) (t_any2 _) ((PC_AV hA hcu).2.2 _ _ (by omega) (by omega) (by decide) (by decide))) t0 rfl kv_X10_put ml_X10_102 ⟨rfl, rfl, Nat.le_of_ble_eq_true rfl, Nat.le_of_ble_eq_true rfl⟩ rfl hl.1 rfl (Nat.le_of_ble_eq_true rfl) ⟨Nat.zero_le _, Nat.zero_le _⟩ dX10_endsRow_292) (fun H locs hG => ?_)
        refine lv_iconst (v := 0) hx hb dX10_endsRow_295 (by decide) ?_
        refine lv_istore (lv' := [(11, .int 0), (10, .int z29), (0, .ref h0), (1, .int x1), (2, .int v2), (3, .int v3), (4, .int v4), (8, .int v8), (9, .int v9)]) hx hb dX10_endsRow_296 hl (by decide) rfl (fun ls hl => ?_)
        refine lv_iconst (v := 0) hx hb dX10_endsRow_298 (by decide) ?_
        refine lv_istore (lv' := [(12, .int 0), (11, .int 0), (10, .int z29), (0, .ref h0), (1, .int x1), (2, .int v2), (3, .int v3), (4, .int v4), (8, .int v8), (9, .int v9)]) hx hb dX10_endsRow_299 hl (by decide) rfl (fun ls hl => ?_)
        exact J301 ((8 - (0 : Int32).toInt).toNat + 1) F27 H locs ls v2 v3 v8 v9 (0 : Int32) (0 : Int32) hG (lv_sub hl [3, 4, 5, 6, 8, 9, 1, 0] rfl) (by omega) (by omega) (by omega) (by omega) (by omega) (by omega) (by decide) (by decide) (by assumption) (Nat.lt_succ_self _)
    · skip
      have ic30 := tn_nle rfl kI_0 c30
      refine lv_iload hx hb dX10_endsRow_239 (lv_at hl 0 rfl) ?_
      refine lv_goto (tgt := 245) hx hb dX10_endsRow_241 (by decide) ?_
      refine mc_callv hG (mc_runV (As := [.int x1, .int 34, .int z29]) (rest := []) E hG (c_X10_put l G (σ, cu, kO PC X F27) h0 x1 (34 : Int32) z29 t0 (by omega) (by omega) (by decide) (by decide) (-2147483648) (2147483647) rfl (t_any1 _) (t_any2 _) ((PC_AV hA hcu).2.2 _ _ (by omega) (by omega) (by decide) (by decide))) t0 rfl kv_X10_put ml_X10_102 ⟨rfl, rfl, Nat.le_of_ble_eq_true rfl, Nat.le_of_ble_eq_true rfl⟩ rfl hl.1 rfl (Nat.le_of_ble_eq_true rfl) ⟨Nat.zero_le _, Nat.zero_le _⟩ dX10_endsRow_245) (fun H locs hG => ?_)
      refine lv_aload_n hx hb dX10_endsRow_248 rfl (lv_at hl 1 rfl) ?_
      refine lv_iload_n hx hb dX10_endsRow_249 rfl (lv_at hl 2 rfl) ?_
      refine lv_bipush (v := 35) hx hb dX10_endsRow_250 (by decide) ?_
      refine lv_aload_n hx hb dX10_endsRow_252 rfl (lv_at hl 1 rfl) ?_
      refine mc_getr E hG t0 mr_48 dX10_endsRow_253 (fun oa39 hoa39 => ?_)
      refine lv_iload_n hx hb dX10_endsRow_256 rfl (lv_at hl 2 rfl) ?_
      refine mc_iald E hG hoa39 ma_13 (t_in (by omega) (by omega)) dX10_endsRow_257 (fun z40 lz40 uz40 qz40 => ?_)
      refine mc_callv hG (mc_runV (As := [.int x1, .int 35, .int z40]) (rest := []) E hG (c_X10_put l G (σ, cu, kO PC X F27) h0 x1 (35 : Int32) z40 t0 (by omega) (by omega) (by decide) (by decide) (-2147483648) (2147483647) rfl (t_any1 _) (t_any2 _) ((PC_AV hA hcu).2.2 _ _ (by omega) (by omega) (by decide) (by decide))) t0 rfl kv_X10_put ml_X10_102 ⟨rfl, rfl, Nat.le_of_ble_eq_true rfl, Nat.le_of_ble_eq_true rfl⟩ rfl hl.1 rfl (Nat.le_of_ble_eq_true rfl) ⟨Nat.zero_le _, Nat.zero_le _⟩ dX10_endsRow_258) (fun H locs hG => ?_)
      refine lv_aload_n hx hb dX10_endsRow_261 rfl (lv_at hl 1 rfl) ?_
      refine lv_iload_n hx hb dX10_endsRow_262 rfl (lv_at hl 2 rfl) ?_
      refine lv_bipush (v := 36) hx hb dX10_endsRow_263 (by decide) ?_
      refine lv_iload hx hb dX10_endsRow_265 (lv_at hl 6 rfl) ?_
      refine lv_if_ne (tgt := 274) hx hb dX10_endsRow_267 (by decide) (fun c41 => ?_) (fun c41 => ?_)
      · skip
        have ic41 := tn_ne rfl kI_0 c41
        refine lv_iload_n hx hb dX10_endsRow_274 rfl (lv_at hl 4 rfl) ?_
        refine lv_if_le (tgt := 282) hx hb dX10_endsRow_275 (by decide) (fun c42 => ?_) (fun c42 => ?_)
        · skip
          have ic42 := tn_le rfl kI_0 c42
          refine lv_iconst (v := 2) hx hb dX10_endsRow_282 (by decide) ?_
          have k43 := kI_2
          refine mc_callv hG (mc_runV (As := [.int x1, .int 36, .int 2]) (rest := []) E hG (c_X10_put l G (σ, cu, kO PC X F27) h0 x1 (36 : Int32) (2 : Int32) t0 (by omega) (by omega) (by decide) (by decide) (0) (2) rfl (by omega) (by omega) ((PC_AV hA hcu).2.2 _ _ (by omega) (by omega) (by decide) (by decide))) t0 rfl kv_X10_put ml_X10_102 ⟨rfl, rfl, Nat.le_of_ble_eq_true rfl, Nat.le_of_ble_eq_true rfl⟩ rfl hl.1 rfl (Nat.le_of_ble_eq_true rfl) ⟨Nat.zero_le _, Nat.zero_le _⟩ dX10_endsRow_283) (fun H locs hG => ?_)
          refine lv_aload_n hx hb dX10_endsRow_286 rfl (lv_at hl 1 rfl) ?_
          refine lv_iload_n hx hb dX10_endsRow_287 rfl (lv_at hl 2 rfl) ?_
          refine lv_bipush (v := 37) hx hb dX10_endsRow_288 (by decide) ?_
          refine lv_iload hx hb dX10_endsRow_290 (lv_at hl 7 rfl) ?_
          refine mc_callv hG (mc_runV (As := [.int x1, .int 37, .int v9]) (rest := []) E hG (c_X10_put l G (σ, cu, kO PC X F27) h0 x1 (37 : Int32) v9 t0 (by omega) (by omega) (by decide) (by decide) (-2147483648) (2147483647) rfl (t_any1 _) (t_any2 _) ((PC_AV hA hcu).2.2 _ _ (by omega) (by omega) (by decide) (by decide))) t0 rfl kv_X10_put ml_X10_102 ⟨rfl, rfl, Nat.le_of_ble_eq_true rfl, Nat.le_of_ble_eq_true rfl⟩ rfl hl.1 rfl (Nat.le_of_ble_eq_true rfl) ⟨Nat.zero_le _, Nat.zero_le _⟩ dX10_endsRow_292) (fun H locs hG => ?_)
          refine lv_iconst (v := 0) hx hb dX10_endsRow_295 (by decide) ?_
          refine lv_istore (lv' := [(11, .int 0), (10, .int z29), (0, .ref h0), (1, .int x1), (2, .int v2), (3, .int v3), (4, .int v4), (8, .int v8), (9, .int v9)]) hx hb dX10_endsRow_296 hl (by decide) rfl (fun ls hl => ?_)
          refine lv_iconst (v := 0) hx hb dX10_endsRow_298 (by decide) ?_
          refine lv_istore (lv' := [(12, .int 0), (11, .int 0), (10, .int z29), (0, .ref h0), (1, .int x1), (2, .int v2), (3, .int v3), (4, .int v4), (8, .int v8), (9, .int v9)]) hx hb dX10_endsRow_299 hl (by decide) rfl (fun ls hl => ?_)
          exact J301 ((8 - (0 : Int32).toInt).toNat + 1) F27 H locs ls v2 v3 v8 v9 (0 : Int32) (0 : Int32) hG (lv_sub hl [3, 4, 5, 6, 8, 9, 1, 0] rfl) (by omega) (by omega) (by omega) (by omega) (by omega) (by omega) (by decide) (by decide) (by assumption) (Nat.lt_succ_self _)
        · skip
          have ic42 := tn_nle rfl kI_0 c42
          refine lv_iconst (v := 1) hx hb dX10_endsRow_278 (by decide) ?_
          refine lv_goto (tgt := 283) hx hb dX10_endsRow_279 (by decide) ?_
          have k44 := kI_1
          refine mc_callv hG (mc_runV (As := [.int x1, .int 36, .int 1]) (rest := []) E hG (c_X10_put l G (σ, cu, kO PC X F27) h0 x1 (36 : Int32) (1 : Int32) t0 (by omega) (by omega) (by decide) (by decide) (0) (2) rfl (by omega) (by omega) ((PC_AV hA hcu).2.2 _ _ (by omega) (by omega) (by decide) (by decide))) t0 rfl kv_X10_put ml_X10_102 ⟨rfl, rfl, Nat.le_of_ble_eq_true rfl, Nat.le_of_ble_eq_true rfl⟩ rfl hl.1 rfl (Nat.le_of_ble_eq_true rfl) ⟨Nat.zero_le _, Nat.zero_le _⟩ dX10_endsRow_283) (fun H locs hG => ?_)
          refine lv_aload_n hx hb dX10_endsRow_286 rfl (lv_at hl 1 rfl) ?_
          refine lv_iload_n hx hb dX10_endsRow_287 rfl (lv_at hl 2 rfl) ?_
          refine lv_bipush (v := 37) hx hb dX10_endsRow_288 (by decide) ?_
          refine lv_iload hx hb dX10_endsRow_290 (lv_at hl 7 rfl) ?_
          refine mc_callv hG (mc_runV (As := [.int x1, .int 37, .int v9]) (rest := []) E hG (c_X10_put l G (σ, cu, kO PC X F27) h0 x1 (37 : Int32) v9 t0 (by omega) (by omega) (by decide) (by decide) (-2147483648) (2147483647) rfl (t_any1 _) (t_any2 _) ((PC_AV hA hcu).2.2 _ _ (by omega) (by omega) (by decide) (by decide))) t0 rfl kv_X10_put ml_X10_102 ⟨rfl, rfl, Nat.le_of_ble_eq_true rfl, Nat.le_of_ble_eq_true rfl⟩ rfl hl.1 rfl (Nat.le_of_ble_eq_true rfl) ⟨Nat.zero_le _, Nat.zero_le _⟩ dX10_endsRow_292) (fun H locs hG => ?_)
          refine lv_iconst (v := 0) hx hb dX10_endsRow_295 (by decide) ?_
          refine lv_istore (lv' := [(11, .int 0), (10, .int z29), (0, .ref h0), (1, .int x1), (2, .int v2), (3, .int v3), (4, .int v4), (8, .int v8), (9, .int v9)]) hx hb dX10_endsRow_296 hl (by decide) rfl (fun ls hl => ?_)
          refine lv_iconst (v := 0) hx hb dX10_endsRow_298 (by decide) ?_
          refine lv_istore (lv' := [(12, .int 0), (11, .int 0), (10, .int z29), (0, .ref h0), (1, .int x1), (2, .int v2), (3, .int v3), (4, .int v4), (8, .int v8), (9, .int v9)]) hx hb dX10_endsRow_299 hl (by decide) rfl (fun ls hl => ?_)
          exact J301 ((8 - (0 : Int32).toInt).toNat + 1) F27 H locs ls v2 v3 v8 v9 (0 : Int32) (0 : Int32) hG (lv_sub hl [3, 4, 5, 6, 8, 9, 1, 0] rfl) (by omega) (by omega) (by omega) (by omega) (by omega) (by omega) (by decide) (by decide) (by assumption) (Nat.lt_succ_self _)
      · skip
        have ic41 := tn_eq rfl kI_0 c41
        refine lv_iconst (v := 0) hx hb dX10_endsRow_270 (by decide) ?_
        refine lv_goto (tgt := 283) hx hb dX10_endsRow_271 (by decide) ?_
        have k45 := kI_0
        refine mc_callv hG (mc_runV (As := [.int x1, .int 36, .int 0]) (rest := []) E hG (c_X10_put l G (σ, cu, kO PC X F27) h0 x1 (36 : Int32) (0 : Int32) t0 (by omega) (by omega) (by decide) (by decide) (0) (2) rfl (by omega) (by omega) ((PC_AV hA hcu).2.2 _ _ (by omega) (by omega) (by decide) (by decide))) t0 rfl kv_X10_put ml_X10_102 ⟨rfl, rfl, Nat.le_of_ble_eq_true rfl, Nat.le_of_ble_eq_true rfl⟩ rfl hl.1 rfl (Nat.le_of_ble_eq_true rfl) ⟨Nat.zero_le _, Nat.zero_le _⟩ dX10_endsRow_283) (fun H locs hG => ?_)
        refine lv_aload_n hx hb dX10_endsRow_286 rfl (lv_at hl 1 rfl) ?_
        refine lv_iload_n hx hb dX10_endsRow_287 rfl (lv_at hl 2 rfl) ?_
        refine lv_bipush (v := 37) hx hb dX10_endsRow_288 (by decide) ?_
        refine lv_iload hx hb dX10_endsRow_290 (lv_at hl 7 rfl) ?_
        refine mc_callv hG (mc_runV (As := [.int x1, .int 37, .int v9]) (rest := []) E hG (c_X10_put l G (σ, cu, kO PC X F27) h0 x1 (37 : Int32) v9 t0 (by omega) (by omega) (by decide) (by decide) (-2147483648) (2147483647) rfl (t_any1 _) (t_any2 _) ((PC_AV hA hcu).2.2 _ _ (by omega) (by omega) (by decide) (by decide))) t0 rfl kv_X10_put ml_X10_102 ⟨rfl, rfl, Nat.le_of_ble_eq_true rfl, Nat.le_of_ble_eq_true rfl⟩ rfl hl.1 rfl (Nat.le_of_ble_eq_true rfl) ⟨Nat.zero_le _, Nat.zero_le _⟩ dX10_endsRow_292) (fun H locs hG => ?_)
        refine lv_iconst (v := 0) hx hb dX10_endsRow_295 (by decide) ?_
        refine lv_istore (lv' := [(11, .int 0), (10, .int z29), (0, .ref h0), (1, .int x1), (2, .int v2), (3, .int v3), (4, .int v4), (8, .int v8), (9, .int v9)]) hx hb dX10_endsRow_296 hl (by decide) rfl (fun ls hl => ?_)
        refine lv_iconst (v := 0) hx hb dX10_endsRow_298 (by decide) ?_
        refine lv_istore (lv' := [(12, .int 0), (11, .int 0), (10, .int z29), (0, .ref h0), (1, .int x1), (2, .int v2), (3, .int v3), (4, .int v4), (8, .int v8), (9, .int v9)]) hx hb dX10_endsRow_299 hl (by decide) rfl (fun ls hl => ?_)
        exact J301 ((8 - (0 : Int32).toInt).toNat + 1) F27 H locs ls v2 v3 v8 v9 (0 : Int32) (0 : Int32) hG (lv_sub hl [3, 4, 5, 6, 8, 9, 1, 0] rfl) (by omega) (by omega) (by omega) (by omega) (by omega) (by omega) (by decide) (by decide) (by assumption) (Nat.lt_succ_self _)
  have J205 : ∀ (H : Heap) (locs : List Loc) (ls : Array Slot) (v2 : Int32) (v3 : Int32) (v4 : Int32) (v5 : Int32) (v7 : Int32) (v8 : Int32) (v9 : Int32) (as0 : Nat) (vs1 : Int32) (vs2 : Int32), mGH G (σ, cu, kO PC X Fa) s H locs → lv_has ls 15 [(0, .ref h0), (1, .int x1), (2, .int v2), (3, .int v3), (4, .int v4), (5, .int v5), (7, .int v7), (8, .int v8), (9, .int v9)] → 0 ≤ v2.toInt → v2.toInt ≤ 1 → 0 ≤ v3.toInt → v3.toInt ≤ 8 → 0 ≤ v8.toInt → v8.toInt ≤ 1 → σ as0 = 1 → 0 ≤ vs1.toInt → vs1.toInt ≤ 23 → W p l e (tRm 4 95) s m ([.ref h0, .int x1] : List Value).toArray below meth c H locs 0 0 (MQ below (mQvX G (σ, cu, kO PC X Fa) (fun Z => ∃ F : mF, Z = (σ, cu, kO PC X F) ∧ SPo Fa F)) ([.ref h0, .int x1] : List Value).toArray s 0 0 (mA (σ, cu, kO PC X Fa))) (F0 m 205 ls [.int vs2, .int vs1, .ref as0]) := by
    intro H locs ls v2 v3 v4 v5 v7 v8 v9 as0 vs1 vs2 hG hl b2 c2 b3 c3 b8 c8 es0 bs1 cs1
    refine lv_iload_n hx hb dX10_endsRow_205 rfl (lv_at hl 2 rfl) ?_
    refine lv_if_ne (tgt := 214) hx hb dX10_endsRow_206 (by decide) (fun c46 => ?_) (fun c46 => ?_)
    · skip
      have ic46 := tn_ne rfl kI_0 c46
      refine lv_iload hx hb dX10_endsRow_214 (lv_at hl 6 rfl) ?_
      exact J216 H locs ls v2 v3 v4 v8 v9 (as0) vs1 vs2 v7 hG (lv_sub hl [0, 1, 2, 3, 4, 7, 8] rfl) (by omega) (by omega) (by omega) (by omega) (by omega) (by omega) es0 (by omega) (by omega)
    · skip
      have ic46 := tn_eq rfl kI_0 c46
      refine lv_iload hx hb dX10_endsRow_209 (lv_at hl 5 rfl) ?_
      refine lv_goto (tgt := 216) hx hb dX10_endsRow_211 (by decide) ?_
      exact J216 H locs ls v2 v3 v4 v8 v9 (as0) vs1 vs2 v5 hG (lv_sub hl [0, 1, 2, 3, 4, 7, 8] rfl) (by omega) (by omega) (by omega) (by omega) (by omega) (by omega) es0 (by omega) (by omega)
  have J190 : ∀ (H : Heap) (locs : List Loc) (ls : Array Slot) (v2 : Int32) (v3 : Int32) (v4 : Int32) (v7 : Int32) (v8 : Int32) (v9 : Int32) (vs0 : Int32), mGH G (σ, cu, kO PC X Fa) s H locs → lv_has ls 15 [(0, .ref h0), (1, .int x1), (2, .int v2), (3, .int v3), (4, .int v4), (7, .int v7), (8, .int v8), (9, .int v9)] → 0 ≤ v2.toInt → v2.toInt ≤ 1 → 0 ≤ v3.toInt → v3.toInt ≤ 8 → 0 ≤ v8.toInt → v8.toInt ≤ 1 → W p l e (tRm 4 95) s m ([.ref h0, .int x1] : List Value).toArray below meth c H locs 0 0 (MQ below (mQvX G (σ, cu, kO PC X Fa) (fun Z => ∃ F : mF, Z = (σ, cu, kO PC X F) ∧ SPo Fa F)) ([.ref h0, .int x1] : List Value).toArray s 0 0 (mA (σ, cu, kO PC X Fa))) (F0 m 190 ls [.int vs0]) := by
    intro H locs ls v2 v3 v4 v7 v8 v9 vs0 hG hl b2 c2 b3 c3 b8 c8
    refine lv_istore (lv' := [(5, .int vs0), (0, .ref h0), (1, .int x1), (2, .int v2), (3, .int v3), (4, .int v4), (7, .int v7), (8, .int v8), (9, .int v9)]) hx hb dX10_endsRow_190 hl (by decide) rfl (fun ls hl => ?_)
    refine lv_aload_n hx hb dX10_endsRow_192 rfl (lv_at hl 1 rfl) ?_
    refine lv_iload_n hx hb dX10_endsRow_193 rfl (lv_at hl 2 rfl) ?_
    refine lv_iload_n hx hb dX10_endsRow_194 rfl (lv_at hl 3 rfl) ?_
    refine lv_if_ne (tgt := 203) hx hb dX10_endsRow_195 (by decide) (fun c47 => ?_) (fun c47 => ?_)
    · skip
      have ic47 := tn_ne rfl kI_0 c47
      refine lv_iload hx hb dX10_endsRow_203 (lv_at hl 0 rfl) ?_
      exact J205 H locs ls v2 v3 v4 vs0 v7 v8 v9 (h0) x1 vs0 hG (lv_sub hl [1, 2, 3, 4, 5, 0, 6, 7, 8] rfl) (by omega) (by omega) (by omega) (by omega) (by omega) (by omega) t0 (by omega) (by omega)
    · skip
      have ic47 := tn_eq rfl kI_0 c47
      refine lv_iload hx hb dX10_endsRow_198 (lv_at hl 6 rfl) ?_
      refine lv_goto (tgt := 205) hx hb dX10_endsRow_200 (by decide) ?_
      exact J205 H locs ls v2 v3 v4 vs0 v7 v8 v9 (h0) x1 v7 hG (lv_sub hl [1, 2, 3, 4, 5, 0, 6, 7, 8] rfl) (by omega) (by omega) (by omega) (by omega) (by omega) (by omega) t0 (by omega) (by omega)
  have J170 : ∀ (H : Heap) (locs : List Loc) (ls : Array Slot) (v2 : Int32) (v3 : Int32) (v4 : Int32) (v5 : Int32) (v7 : Int32) (v8 : Int32) (vs0 : Int32), mGH G (σ, cu, kO PC X Fa) s H locs → lv_has ls 15 [(0, .ref h0), (1, .int x1), (2, .int v2), (3, .int v3), (4, .int v4), (5, .int v5), (7, .int v7), (8, .int v8)] → 0 ≤ v2.toInt → v2.toInt ≤ 1 → 0 ≤ v3.toInt → v3.toInt ≤ 8 → 0 ≤ v5.toInt → v5.toInt ≤ 1000 → 0 ≤ v8.toInt → v8.toInt ≤ 1 → W p l e (tRm 4 95) s m ([.ref h0, .int x1] : List Value).toArray below meth c H locs 0 0 (MQ below (mQvX G (σ, cu, kO PC X Fa) (fun Z => ∃ F : mF, Z = (σ, cu, kO PC X F) ∧ SPo Fa F)) ([.ref h0, .int x1] : List Value).toArray s 0 0 (mA (σ, cu, kO PC X Fa))) (F0 m 170 ls [.int vs0]) := by
    intro H locs ls v2 v3 v4 v5 v7 v8 vs0 hG hl b2 c2 b3 c3 b5 c5 b8 c8
    refine lv_istore (lv' := [(9, .int vs0), (0, .ref h0), (1, .int x1), (2, .int v2), (3, .int v3), (4, .int v4), (5, .int v5), (7, .int v7), (8, .int v8)]) hx hb dX10_endsRow_170 hl (by decide) rfl (fun ls hl => ?_)
    refine lv_iload hx hb dX10_endsRow_172 (lv_at hl 8 rfl) ?_
    refine lv_if_eq (tgt := 188) hx hb dX10_endsRow_174 (by decide) (fun c48 => ?_) (fun c48 => ?_)
    · skip
      have ic48 := tn_eq rfl kI_0 c48
      refine lv_iload hx hb dX10_endsRow_188 (lv_at hl 6 rfl) ?_
      exact J190 H locs ls v2 v3 v4 v7 v8 vs0 v5 hG (lv_sub hl [1, 2, 3, 4, 5, 7, 8, 0] rfl) (by omega) (by omega) (by omega) (by omega) (by omega) (by omega)
    · skip
      have ic48 := tn_ne rfl kI_0 c48
      refine lv_iload hx hb dX10_endsRow_177 (lv_at hl 0 rfl) ?_
      refine lv_aload_n hx hb dX10_endsRow_179 rfl (lv_at hl 1 rfl) ?_
      refine lv_iload_n hx hb dX10_endsRow_180 rfl (lv_at hl 2 rfl) ?_
      refine tc_callp (mc_runV (As := [.int x1]) (rest := [.int vs0]) E hG (c_X10_belowOf l G (σ, cu, kO PC X Fa) h0 x1 t0 (by omega) (by omega)) t0 rfl kv_X10_belowOf ml_X10_280 ⟨rfl, rfl, Nat.le_of_ble_eq_true rfl, Nat.le_of_ble_eq_true rfl⟩ rfl hl.1 rfl (Nat.le_of_ble_eq_true rfl) ⟨Nat.zero_le _, Nat.zero_le _⟩ dX10_endsRow_181) (fun r49 pr49 => ?_)
      refine lv_iadd hx hb dX10_endsRow_184 ?_
      refine lv_topi (fun z50 ez50 => ?_)
      refine lv_goto (tgt := 190) hx hb dX10_endsRow_185 (by decide) ?_
      exact J190 H locs ls v2 v3 v4 v7 v8 vs0 z50 hG (lv_sub hl [1, 2, 3, 4, 5, 7, 8, 0] rfl) (by omega) (by omega) (by omega) (by omega) (by omega) (by omega)
  have J154 : ∀ (H : Heap) (locs : List Loc) (ls : Array Slot) (v2 : Int32) (v3 : Int32) (v4 : Int32) (v5 : Int32) (v7 : Int32) (vs0 : Int32), mGH G (σ, cu, kO PC X Fa) s H locs → lv_has ls 15 [(0, .ref h0), (1, .int x1), (2, .int v2), (3, .int v3), (4, .int v4), (5, .int v5), (7, .int v7)] → 0 ≤ v2.toInt → v2.toInt ≤ 1 → 0 ≤ v3.toInt → v3.toInt ≤ 8 → 0 ≤ v5.toInt → v5.toInt ≤ 1000 → 0 ≤ vs0.toInt → vs0.toInt ≤ 1 → W p l e (tRm 4 95) s m ([.ref h0, .int x1] : List Value).toArray below meth c H locs 0 0 (MQ below (mQvX G (σ, cu, kO PC X Fa) (fun Z => ∃ F : mF, Z = (σ, cu, kO PC X F) ∧ SPo Fa F)) ([.ref h0, .int x1] : List Value).toArray s 0 0 (mA (σ, cu, kO PC X Fa))) (F0 m 154 ls [.int vs0]) := by
    intro H locs ls v2 v3 v4 v5 v7 vs0 hG hl b2 c2 b3 c3 b5 c5 bs0 cs0
    refine lv_istore (lv' := [(8, .int vs0), (0, .ref h0), (1, .int x1), (2, .int v2), (3, .int v3), (4, .int v4), (5, .int v5), (7, .int v7)]) hx hb dX10_endsRow_154 hl (by decide) rfl (fun ls hl => ?_)
    refine lv_iload hx hb dX10_endsRow_156 (lv_at hl 0 rfl) ?_
    refine lv_if_eq (tgt := 169) hx hb dX10_endsRow_158 (by decide) (fun c51 => ?_) (fun c51 => ?_)
    · skip
      have ic51 := tn_eq rfl kI_0 c51
      refine lv_iconst (v := 0) hx hb dX10_endsRow_169 (by decide) ?_
      exact J170 H locs ls v2 v3 v4 v5 v7 vs0 (0 : Int32) hG (lv_sub hl [1, 2, 3, 4, 5, 6, 7, 0] rfl) (by omega) (by omega) (by omega) (by omega) (by omega) (by omega) (by omega) (by omega)
    · skip
      have ic51 := tn_ne rfl kI_0 c51
      refine lv_aload_n hx hb dX10_endsRow_161 rfl (lv_at hl 1 rfl) ?_
      refine lv_iload_n hx hb dX10_endsRow_162 rfl (lv_at hl 2 rfl) ?_
      refine mc_calli hG (mc_runV (As := [.int x1]) (rest := []) E hG (c_X10_lineOf l G σ cu (kO PC X Fa) h0 x1 t0 (by omega) (by omega) t (kO_TI (PC_tr hcu) hT) hI (PC_AV hA hcu)) t0 rfl kv_X10_lineOf ml_X10_277 ⟨rfl, rfl, Nat.le_of_ble_eq_true rfl, Nat.le_of_ble_eq_true rfl⟩ rfl hl.1 rfl (Nat.le_of_ble_eq_true rfl) ⟨Nat.zero_le _, Nat.zero_le _⟩ dX10_endsRow_163) (fun r52 H locs pr52 hG => ?_)
      refine lv_goto (tgt := 170) hx hb dX10_endsRow_166 (by decide) ?_
      exact J170 H locs ls v2 v3 v4 v5 v7 vs0 r52 hG (lv_sub hl [1, 2, 3, 4, 5, 6, 7, 0] rfl) (by omega) (by omega) (by omega) (by omega) (by omega) (by omega) (by omega) (by omega)
  have J153 : ∀ (H : Heap) (locs : List Loc) (ls : Array Slot) (v2 : Int32) (v3 : Int32) (v4 : Int32) (v5 : Int32) (v7 : Int32), mGH G (σ, cu, kO PC X Fa) s H locs → lv_has ls 15 [(0, .ref h0), (1, .int x1), (2, .int v2), (3, .int v3), (4, .int v4), (5, .int v5), (7, .int v7)] → 0 ≤ v2.toInt → v2.toInt ≤ 1 → 0 ≤ v3.toInt → v3.toInt ≤ 8 → 0 ≤ v5.toInt → v5.toInt ≤ 1000 → W p l e (tRm 4 95) s m ([.ref h0, .int x1] : List Value).toArray below meth c H locs 0 0 (MQ below (mQvX G (σ, cu, kO PC X Fa) (fun Z => ∃ F : mF, Z = (σ, cu, kO PC X F) ∧ SPo Fa F)) ([.ref h0, .int x1] : List Value).toArray s 0 0 (mA (σ, cu, kO PC X Fa))) (F0 m 153 ls []) := by
    intro H locs ls v2 v3 v4 v5 v7 hG hl b2 c2 b3 c3 b5 c5
    refine lv_iconst (v := 0) hx hb dX10_endsRow_153 (by decide) ?_
    exact J154 H locs ls v2 v3 v4 v5 v7 (0 : Int32) hG (lv_sub hl [0, 1, 2, 3, 4, 5, 6] rfl) (by omega) (by omega) (by omega) (by omega) (by omega) (by omega) (by decide) (by decide)
  have J133 : ∀ (H : Heap) (locs : List Loc) (ls : Array Slot) (v2 : Int32) (v3 : Int32) (v4 : Int32) (v5 : Int32) (vs0 : Int32), mGH G (σ, cu, kO PC X Fa) s H locs → lv_has ls 15 [(0, .ref h0), (1, .int x1), (2, .int v2), (3, .int v3), (4, .int v4), (5, .int v5)] → 0 ≤ v2.toInt → v2.toInt ≤ 1 → 0 ≤ v3.toInt → v3.toInt ≤ 8 → 0 ≤ v5.toInt → v5.toInt ≤ 1000 → W p l e (tRm 4 95) s m ([.ref h0, .int x1] : List Value).toArray below meth c H locs 0 0 (MQ below (mQvX G (σ, cu, kO PC X Fa) (fun Z => ∃ F : mF, Z = (σ, cu, kO PC X F) ∧ SPo Fa F)) ([.ref h0, .int x1] : List Value).toArray s 0 0 (mA (σ, cu, kO PC X Fa))) (F0 m 133 ls [.int vs0]) := by
    intro H locs ls v2 v3 v4 v5 vs0 hG hl b2 c2 b3 c3 b5 c5
    refine lv_istore (lv' := [(7, .int vs0), (0, .ref h0), (1, .int x1), (2, .int v2), (3, .int v3), (4, .int v4), (5, .int v5)]) hx hb dX10_endsRow_133 hl (by decide) rfl (fun ls hl => ?_)
    refine lv_aload_n hx hb dX10_endsRow_135 rfl (lv_at hl 1 rfl) ?_
    refine lv_iload_n hx hb dX10_endsRow_136 rfl (lv_at hl 2 rfl) ?_
    refine lv_iconst (v := 2) hx hb dX10_endsRow_137 (by decide) ?_
    refine tc_callp (mc_runV (As := [.int x1, .int 2]) (rest := []) E hG (c_X10_get l G (σ, cu, kO PC X Fa) h0 x1 (2 : Int32) t0 (by omega) (by omega) (by decide) (by decide)) t0 rfl kv_X10_get ml_X10_91 ⟨rfl, rfl, Nat.le_of_ble_eq_true rfl, Nat.le_of_ble_eq_true rfl⟩ rfl hl.1 rfl (Nat.le_of_ble_eq_true rfl) ⟨Nat.zero_le _, Nat.zero_le _⟩ dX10_endsRow_138) (fun r53 pr53 => ?_)
    replace pr53 : mV (σ, cu, kO PC X Fa) (ix x1.toInt (2 : Int32).toInt) r53 := pr53
    have pr53 := mV_l pr53 kI_2
    have br53 := mV_2 pr53 (by omega)
    have cr53 := mT pr53 (kO_TI (PC_tr hcu) hT) (by omega) (by omega) (by decide) (by decide)
    have k54 := kI_2
    refine lv_iconst (v := 4) hx hb dX10_endsRow_141 (by decide) ?_
    refine lv_icmp_ne (tgt := 153) hx hb dX10_endsRow_142 (by decide) (fun c55 => ?_) (fun c55 => ?_)
    · skip
      have ic55 := tn_ne rfl kI_4 c55
      exact J153 H locs ls v2 v3 v4 v5 vs0 hG (lv_sub hl [1, 2, 3, 4, 5, 6, 0] rfl) (by omega) (by omega) (by omega) (by omega) (by omega) (by omega)
    · skip
      have ic55 := tn_eq rfl kI_4 c55
      refine lv_iload_n hx hb dX10_endsRow_145 rfl (lv_at hl 3 rfl) ?_
      refine lv_if_ne (tgt := 153) hx hb dX10_endsRow_146 (by decide) (fun c56 => ?_) (fun c56 => ?_)
      · skip
        have ic56 := tn_ne rfl kI_0 c56
        exact J153 H locs ls v2 v3 v4 v5 vs0 hG (lv_sub hl [1, 2, 3, 4, 5, 6, 0] rfl) (by omega) (by omega) (by omega) (by omega) (by omega) (by omega)
      · skip
        have ic56 := tn_eq rfl kI_0 c56
        refine lv_iconst (v := 1) hx hb dX10_endsRow_149 (by decide) ?_
        refine lv_goto (tgt := 154) hx hb dX10_endsRow_150 (by decide) ?_
        exact J154 H locs ls v2 v3 v4 v5 vs0 (1 : Int32) hG (lv_sub hl [1, 2, 3, 4, 5, 6, 0] rfl) (by omega) (by omega) (by omega) (by omega) (by omega) (by omega) (by decide) (by decide)
  have J32 : ∀ (n32 : Nat) (H : Heap) (locs : List Loc) (ls : Array Slot) (v2 : Int32) (v3 : Int32) (v4 : Int32) (v5 : Int32) (v6 : Int32) (v7 : Int32), mGH G (σ, cu, kO PC X Fa) s H locs → lv_has ls 15 [(0, .ref h0), (1, .int x1), (2, .int v2), (3, .int v3), (4, .int v4), (5, .int v5), (6, .int v6), (7, .int v7)] → 0 ≤ v2.toInt → v2.toInt ≤ 1 → 0 ≤ v3.toInt → v3.toInt ≤ 8 → 0 ≤ v5.toInt → v5.toInt ≤ 1000 → 0 ≤ v6.toInt → v6.toInt ≤ 1 → 0 ≤ v7.toInt → v7.toInt ≤ 8 → (8 - v7.toInt).toNat < n32 → W p l e (tRm 4 95) s m ([.ref h0, .int x1] : List Value).toArray below meth c H locs 0 0 (MQ below (mQvX G (σ, cu, kO PC X Fa) (fun Z => ∃ F : mF, Z = (σ, cu, kO PC X F) ∧ SPo Fa F)) ([.ref h0, .int x1] : List Value).toArray s 0 0 (mA (σ, cu, kO PC X Fa))) (F0 m 32 ls []) := by
    intro n32
    induction n32 with
    | zero => intro H locs ls v2 v3 v4 v5 v6 v7 hG hl b2 c2 b3 c3 b5 c5 b6 c6 b7 c7 hn32; exact absurd hn32 (Nat.not_lt_zero _)
    | succ n32 ih32 =>
      intro H locs ls v2 v3 v4 v5 v6 v7 hG hl b2 c2 b3 c3 b5 c5 b6 c6 b7 c7 hn32
      have J109 : ∀ (H : Heap) (locs : List Loc) (ls : Array Slot) (v2 : Int32) (v3 : Int32) (v4 : Int32) (v5 : Int32) (v7 : Int32) (vs0 : Int32), mGH G (σ, cu, kO PC X Fa) s H locs → lv_has ls 15 [(0, .ref h0), (1, .int x1), (2, .int v2), (3, .int v3), (4, .int v4), (5, .int v5), (7, .int v7)] → 0 ≤ v2.toInt → v2.toInt ≤ 1 → 1 ≤ v3.toInt → v3.toInt ≤ 8 → 0 ≤ v5.toInt → v5.toInt ≤ 1000 → 0 ≤ v7.toInt → v7.toInt ≤ 7 → 0 ≤ vs0.toInt → vs0.toInt ≤ 1 → (8 - v7.toInt).toNat < n32 + 1 → W p l e (tRm 4 95) s m ([.ref h0, .int x1] : List Value).toArray below meth c H locs 0 0 (MQ below (mQvX G (σ, cu, kO PC X Fa) (fun Z => ∃ F : mF, Z = (σ, cu, kO PC X F) ∧ SPo Fa F)) ([.ref h0, .int x1] : List Value).toArray s 0 0 (mA (σ, cu, kO PC X Fa))) (F0 m 109 ls [.int vs0]) := by
        intro H locs ls v2 v3 v4 v5 v7 vs0 hG hl b2 c2 b3 c3 b5 c5 b7 c7 bs0 cs0 hm32
        refine lv_istore (lv' := [(6, .int vs0), (0, .ref h0), (1, .int x1), (2, .int v2), (3, .int v3), (4, .int v4), (5, .int v5), (7, .int v7)]) hx hb dX10_endsRow_109 hl (by decide) rfl (fun ls hl => ?_)
        obtain ⟨z57, ez57⟩ : ∃ y : Int32, y = v7 + (1) := ⟨_, rfl⟩
        refine lv_iinc (v := z57) (lv' := [(7, .int z57), (6, .int vs0), (0, .ref h0), (1, .int x1), (2, .int v2), (3, .int v3), (4, .int v4), (5, .int v5)]) hx hb dX10_endsRow_111 hl (k := 7) rfl (by rw [ez57]; rfl) (by decide) rfl (fun ls hl => ?_)
        have tz57 := tn_add ez57 rfl kI_1 (by omega) (by omega)
        refine lv_goto (tgt := 32) hx hb dX10_endsRow_114 (by decide) ?_
        exact ih32 H locs ls v2 v3 v4 v5 vs0 z57 hG (lv_sub hl [2, 3, 4, 5, 6, 7, 1, 0] rfl) (by omega) (by omega) (by omega) (by omega) (by omega) (by omega) (by omega) (by omega) (by omega) (by omega) (by omega)
      have J104 : ∀ (H : Heap) (locs : List Loc) (ls : Array Slot) (v2 : Int32) (v3 : Int32) (v4 : Int32) (v5 : Int32) (v7 : Int32), mGH G (σ, cu, kO PC X Fa) s H locs → lv_has ls 15 [(0, .ref h0), (1, .int x1), (2, .int v2), (3, .int v3), (4, .int v4), (5, .int v5), (7, .int v7)] → 0 ≤ v2.toInt → v2.toInt ≤ 1 → 1 ≤ v3.toInt → v3.toInt ≤ 8 → 0 ≤ v5.toInt → v5.toInt ≤ 1000 → 0 ≤ v7.toInt → v7.toInt ≤ 7 → (8 - v7.toInt).toNat < n32 + 1 → W p l e (tRm 4 95) s m ([.ref h0, .int x1] : List Value).toArray below meth c H locs 0 0 (MQ below (mQvX G (σ, cu, kO PC X Fa) (fun Z => ∃ F : mF, Z = (σ, cu, kO PC X F) ∧ SPo Fa F)) ([.ref h0, .int x1] : List Value).toArray s 0 0 (mA (σ, cu, kO PC X Fa))) (F0 m 104 ls []) := by
        intro H locs ls v2 v3 v4 v5 v7 hG hl b2 c2 b3 c3 b5 c5 b7 c7 hm32
        refine lv_iconst (v := 1) hx hb dX10_endsRow_104 (by decide) ?_
        refine lv_goto (tgt := 109) hx hb dX10_endsRow_105 (by decide) ?_
        exact J109 H locs ls v2 v3 v4 v5 v7 (1 : Int32) hG (lv_sub hl [0, 1, 2, 3, 4, 5, 6] rfl) (by omega) (by omega) (by omega) (by omega) (by omega) (by omega) (by omega) (by omega) (by decide) (by decide) (by omega)
      have J87 : ∀ (H : Heap) (locs : List Loc) (ls : Array Slot) (v2 : Int32) (v3 : Int32) (v4 : Int32) (v6 : Int32) (v7 : Int32) (v8 : Int32) (vs0 : Int32), mGH G (σ, cu, kO PC X Fa) s H locs → lv_has ls 15 [(0, .ref h0), (1, .int x1), (2, .int v2), (3, .int v3), (4, .int v4), (6, .int v6), (7, .int v7), (8, .int v8)] → 0 ≤ v2.toInt → v2.toInt ≤ 1 → 1 ≤ v3.toInt → v3.toInt ≤ 8 → 0 ≤ v6.toInt → v6.toInt ≤ 1 → 0 ≤ v7.toInt → v7.toInt ≤ 7 → 0 ≤ v8.toInt → v8.toInt ≤ 23 → 0 ≤ vs0.toInt → vs0.toInt ≤ 1000 → (8 - v7.toInt).toNat < n32 + 1 → W p l e (tRm 4 95) s m ([.ref h0, .int x1] : List Value).toArray below meth c H locs 0 0 (MQ below (mQvX G (σ, cu, kO PC X Fa) (fun Z => ∃ F : mF, Z = (σ, cu, kO PC X F) ∧ SPo Fa F)) ([.ref h0, .int x1] : List Value).toArray s 0 0 (mA (σ, cu, kO PC X Fa))) (F0 m 87 ls [.int vs0]) := by
        intro H locs ls v2 v3 v4 v6 v7 v8 vs0 hG hl b2 c2 b3 c3 b6 c6 b7 c7 b8 c8 bs0 cs0 hm32
        refine lv_istore (lv' := [(5, .int vs0), (0, .ref h0), (1, .int x1), (2, .int v2), (3, .int v3), (4, .int v4), (6, .int v6), (7, .int v7), (8, .int v8)]) hx hb dX10_endsRow_87 hl (by decide) rfl (fun ls hl => ?_)
        refine lv_iload hx hb dX10_endsRow_89 (lv_at hl 6 rfl) ?_
        refine lv_if_ne (tgt := 104) hx hb dX10_endsRow_91 (by decide) (fun c58 => ?_) (fun c58 => ?_)
        · skip
          have ic58 := tn_ne rfl kI_0 c58
          exact J104 H locs ls v2 v3 v4 vs0 v7 hG (lv_sub hl [1, 2, 3, 4, 5, 0, 7] rfl) (by omega) (by omega) (by omega) (by omega) (by omega) (by omega) (by omega) (by omega) (by omega)
        · skip
          have ic58 := tn_eq rfl kI_0 c58
          refine lv_aload_n hx hb dX10_endsRow_94 rfl (lv_at hl 1 rfl) ?_
          refine lv_iload_n hx hb dX10_endsRow_95 rfl (lv_at hl 2 rfl) ?_
          refine lv_iload hx hb dX10_endsRow_96 (lv_at hl 8 rfl) ?_
          refine tc_callp (mc_runV (As := [.int x1, .int v8]) (rest := []) E hG (c_X10_hasPart l G (σ, cu, kO PC X Fa) h0 x1 v8 t0 (by omega) (by omega) (by omega) (by omega)) t0 rfl kv_X10_hasPart ml_X10_258 ⟨rfl, rfl, Nat.le_of_ble_eq_true rfl, Nat.le_of_ble_eq_true rfl⟩ rfl hl.1 rfl (Nat.le_of_ble_eq_true rfl) ⟨Nat.zero_le _, Nat.zero_le _⟩ dX10_endsRow_98) (fun r59 pr59 => ?_)
          replace pr59 : (0 ≤ r59.toInt ∧ r59.toInt ≤ 1) ∧ (r59.toInt = 0 ∨ ∃ v : Int32, 0 < v.toInt ∧ mV (σ, cu, kO PC X Fa) (ix v8.toInt 6) v) := pr59
          replace pr59 := pr59.1
          refine lv_if_eq (tgt := 108) hx hb dX10_endsRow_101 (by decide) (fun c60 => ?_) (fun c60 => ?_)
          · skip
            have ic60 := tn_eq rfl kI_0 c60
            refine lv_iconst (v := 0) hx hb dX10_endsRow_108 (by decide) ?_
            exact J109 H locs ls v2 v3 v4 vs0 v7 (0 : Int32) hG (lv_sub hl [1, 2, 3, 4, 5, 0, 7] rfl) (by omega) (by omega) (by omega) (by omega) (by omega) (by omega) (by omega) (by omega) (by decide) (by decide) (by omega)
          · skip
            have ic60 := tn_ne rfl kI_0 c60
            exact J104 H locs ls v2 v3 v4 vs0 v7 hG (lv_sub hl [1, 2, 3, 4, 5, 0, 7] rfl) (by omega) (by omega) (by omega) (by omega) (by omega) (by omega) (by omega) (by omega) (by omega)
      refine lv_iload hx hb dX10_endsRow_32 (lv_at hl 7 rfl) ?_
      refine lv_iload_n hx hb dX10_endsRow_34 rfl (lv_at hl 3 rfl) ?_
      refine lv_icmp_ge (tgt := 117) hx hb dX10_endsRow_35 (by decide) (fun c61 => ?_) (fun c61 => ?_)
      · skip
        have ic61 := tn_le rfl rfl c61
        refine lv_iload hx hb dX10_endsRow_117 (lv_at hl 6 rfl) ?_
        refine lv_if_eq (tgt := 131) hx hb dX10_endsRow_119 (by decide) (fun c62 => ?_) (fun c62 => ?_)
        · skip
          have ic62 := tn_eq rfl kI_0 c62
          refine lv_iload hx hb dX10_endsRow_131 (lv_at hl 4 rfl) ?_
          exact J133 H locs ls v2 v3 v4 v5 v4 hG (lv_sub hl [0, 1, 2, 3, 4, 5] rfl) (by omega) (by omega) (by omega) (by omega) (by omega) (by omega)
        · skip
          have ic62 := tn_ne rfl kI_0 c62
          refine lv_aload_n hx hb dX10_endsRow_122 rfl (lv_at hl 0 rfl) ?_
          refine lv_iload_n hx hb dX10_endsRow_123 rfl (lv_at hl 1 rfl) ?_
          refine lv_iload_n hx hb dX10_endsRow_124 rfl (lv_at hl 2 rfl) ?_
          refine tc_callp (mc_runV (As := [.int x1, .int v2]) (rest := []) E hG (c_X10_most l G (σ, cu, kO PC X Fa) h0 x1 v2 t0 (by omega) (by omega) (by omega) (by omega)) t0 rfl kv_X10_most ml_X10_227 ⟨rfl, rfl, Nat.le_of_ble_eq_true rfl, Nat.le_of_ble_eq_true rfl⟩ rfl hl.1 rfl (Nat.le_of_ble_eq_true rfl) ⟨Nat.zero_le _, Nat.zero_le _⟩ dX10_endsRow_125) (fun r63 pr63 => ?_)
          replace pr63 : 0 ≤ r63.toInt ∧ r63.toInt ≤ 1000 := pr63
          refine lv_goto (tgt := 133) hx hb dX10_endsRow_128 (by decide) ?_
          exact J133 H locs ls v2 v3 v4 v5 r63 hG (lv_sub hl [0, 1, 2, 3, 4, 5] rfl) (by omega) (by omega) (by omega) (by omega) (by omega) (by omega)
      · skip
        have ic61 := tn_nle rfl rfl c61
        refine lv_aload_n hx hb dX10_endsRow_38 rfl (lv_at hl 0 rfl) ?_
        refine lv_iload_n hx hb dX10_endsRow_39 rfl (lv_at hl 1 rfl) ?_
        refine lv_iload hx hb dX10_endsRow_40 (lv_at hl 7 rfl) ?_
        refine tc_callp (mc_runV (As := [.int x1, .int v7]) (rest := []) E hG (c_X10_childOf l G (σ, cu, kO PC X Fa) h0 x1 v7 t0 (by omega) (by omega) (by omega) (by omega)) t0 rfl kv_X10_childOf ml_X10_153 ⟨rfl, rfl, Nat.le_of_ble_eq_true rfl, Nat.le_of_ble_eq_true rfl⟩ rfl hl.1 rfl (Nat.le_of_ble_eq_true rfl) ⟨Nat.zero_le _, Nat.zero_le _⟩ dX10_endsRow_42) (fun r64 pr64 => ?_)
        replace pr64 : mV (σ, cu, kO PC X Fa) (ix x1.toInt (11 + v7.toInt)) r64 := pr64
        have br64 := mV_r 11 18 0 23 pr64 (by omega) (by omega) (by omega) (by decide) (by decide)
        have cr64 := mT pr64 (kO_TI (PC_tr hcu) hT) (by omega) (by omega) (by omega) (by omega)
        have dr64 := mP11 cr64 hI (by omega) (by omega) (by omega)
        refine lv_istore (lv' := [(8, .int r64), (0, .ref h0), (1, .int x1), (2, .int v2), (3, .int v3), (4, .int v4), (5, .int v5), (6, .int v6), (7, .int v7)]) hx hb dX10_endsRow_45 hl (by decide) rfl (fun ls hl => ?_)
        refine lv_iload hx hb dX10_endsRow_47 (lv_at hl 5 rfl) ?_
        refine lv_aload_n hx hb dX10_endsRow_49 rfl (lv_at hl 1 rfl) ?_
        refine lv_iload hx hb dX10_endsRow_50 (lv_at hl 0 rfl) ?_
        refine lv_iload_n hx hb dX10_endsRow_52 rfl (lv_at hl 3 rfl) ?_
        refine tc_callp (mc_runV (As := [.int r64, .int v2]) (rest := [.int v4]) E hG (c_X10_sizeOf l G (σ, cu, kO PC X Fa) h0 r64 v2 t0 (by omega) (by omega) (by omega) (by omega)) t0 rfl kv_X10_sizeOf ml_X10_243 ⟨rfl, rfl, Nat.le_of_ble_eq_true rfl, Nat.le_of_ble_eq_true rfl⟩ rfl hl.1 rfl (Nat.le_of_ble_eq_true rfl) ⟨Nat.zero_le _, Nat.zero_le _⟩ dX10_endsRow_53) (fun r65 pr65 => ?_)
        replace pr65 : 0 ≤ r65.toInt ∧ r65.toInt ≤ 1000 := pr65
        refine lv_iadd hx hb dX10_endsRow_56 ?_
        refine lv_topi (fun z66 ez66 => ?_)
        refine lv_istore (lv' := [(4, .int z66), (8, .int r64), (0, .ref h0), (1, .int x1), (2, .int v2), (3, .int v3), (5, .int v5), (6, .int v6), (7, .int v7)]) hx hb dX10_endsRow_57 hl (by decide) rfl (fun ls hl => ?_)
        refine lv_aload_n hx hb dX10_endsRow_59 rfl (lv_at hl 2 rfl) ?_
        refine lv_iload hx hb dX10_endsRow_60 (lv_at hl 1 rfl) ?_
        refine lv_iconst (v := 1) hx hb dX10_endsRow_62 (by decide) ?_
        refine lv_iload_n hx hb dX10_endsRow_63 rfl (lv_at hl 4 rfl) ?_
        refine lv_isub hx hb dX10_endsRow_64 ?_
        refine lv_topi (fun z67 ez67 => ?_)
        have tz67 := tn_sub ez67 kI_1 rfl (by omega) (by omega)
        refine tc_callp (mc_runV (As := [.int r64, .int z67]) (rest := []) E hG (c_X10_sizeOf l G (σ, cu, kO PC X Fa) h0 r64 z67 t0 (by omega) (by omega) (by omega) (by omega)) t0 rfl kv_X10_sizeOf ml_X10_243 ⟨rfl, rfl, Nat.le_of_ble_eq_true rfl, Nat.le_of_ble_eq_true rfl⟩ rfl hl.1 rfl (Nat.le_of_ble_eq_true rfl) ⟨Nat.zero_le _, Nat.zero_le _⟩ dX10_endsRow_65) (fun r68 pr68 => ?_)
        replace pr68 : 0 ≤ r68.toInt ∧ r68.toInt ≤ 1000 := pr68
        refine lv_iload hx hb dX10_endsRow_68 (lv_at hl 6 rfl) ?_
        refine lv_icmp_le (tgt := 85) hx hb dX10_endsRow_70 (by decide) (fun c69 => ?_) (fun c69 => ?_)
        · skip
          have ic69 := tn_le rfl rfl c69
          refine lv_iload hx hb dX10_endsRow_85 (lv_at hl 6 rfl) ?_
          exact J87 H locs ls v2 v3 z66 v6 v7 r64 v5 hG (lv_sub hl [2, 3, 4, 5, 0, 7, 8, 1] rfl) (by omega) (by omega) (by omega) (by omega) (by omega) (by omega) (by omega) (by omega) (by omega) (by omega) (by omega) (by omega) (by omega)
        · skip
          have ic69 := tn_nle rfl rfl c69
          refine lv_aload_n hx hb dX10_endsRow_73 rfl (lv_at hl 2 rfl) ?_
          refine lv_iload hx hb dX10_endsRow_74 (lv_at hl 1 rfl) ?_
          refine lv_iconst (v := 1) hx hb dX10_endsRow_76 (by decide) ?_
          refine lv_iload_n hx hb dX10_endsRow_77 rfl (lv_at hl 4 rfl) ?_
          refine lv_isub hx hb dX10_endsRow_78 ?_
          refine lv_topi (fun z70 ez70 => ?_)
          have tz70 := tn_sub ez70 kI_1 rfl (by omega) (by omega)
          refine tc_callp (mc_runV (As := [.int r64, .int z70]) (rest := []) E hG (c_X10_sizeOf l G (σ, cu, kO PC X Fa) h0 r64 z70 t0 (by omega) (by omega) (by omega) (by omega)) t0 rfl kv_X10_sizeOf ml_X10_243 ⟨rfl, rfl, Nat.le_of_ble_eq_true rfl, Nat.le_of_ble_eq_true rfl⟩ rfl hl.1 rfl (Nat.le_of_ble_eq_true rfl) ⟨Nat.zero_le _, Nat.zero_le _⟩ dX10_endsRow_79) (fun r71 pr71 => ?_)
          replace pr71 : 0 ≤ r71.toInt ∧ r71.toInt ≤ 1000 := pr71
          refine lv_goto (tgt := 87) hx hb dX10_endsRow_82 (by decide) ?_
          exact J87 H locs ls v2 v3 z66 v6 v7 r64 r71 hG (lv_sub hl [2, 3, 4, 5, 0, 7, 8, 1] rfl) (by omega) (by omega) (by omega) (by omega) (by omega) (by omega) (by omega) (by omega) (by omega) (by omega) (by omega) (by omega) (by omega)
  refine lv_aload_n hx hb dX10_endsRow_0 rfl (lv_at hl 0 rfl) ?_
  refine lv_iload_n hx hb dX10_endsRow_1 rfl (lv_at hl 1 rfl) ?_
  refine lv_iconst (v := 1) hx hb dX10_endsRow_2 (by decide) ?_
  refine tc_callp (mc_runV (As := [.int x1, .int 1]) (rest := []) E hG (c_X10_get l G (σ, cu, kO PC X Fa) h0 x1 (1 : Int32) t0 (by omega) (by omega) (by decide) (by decide)) t0 rfl kv_X10_get ml_X10_91 ⟨rfl, rfl, Nat.le_of_ble_eq_true rfl, Nat.le_of_ble_eq_true rfl⟩ rfl hl.1 rfl (Nat.le_of_ble_eq_true rfl) ⟨Nat.zero_le _, Nat.zero_le _⟩ dX10_endsRow_3) (fun r72 pr72 => ?_)
  replace pr72 : mV (σ, cu, kO PC X Fa) (ix x1.toInt (1 : Int32).toInt) r72 := pr72
  have pr72 := mV_l pr72 kI_1
  have br72 := mV_1 pr72 (by omega)
  have cr72 := mT pr72 (kO_TI (PC_tr hcu) hT) (by omega) (by omega) (by decide) (by decide)
  have k73 := kI_1
  refine tc_callp (mc_runS (As := [.int r72]) (rest := []) E hG (c_X10_alongOf l G (σ, cu, kO PC X Fa) r72) ks_X10_alongOf ml_X10_252 ⟨rfl, rfl, Nat.le_of_ble_eq_true rfl, Nat.le_of_ble_eq_true rfl⟩ rfl hl.1 rfl (Nat.le_of_ble_eq_true rfl) ⟨Nat.zero_le _, Nat.zero_le _⟩ dX10_endsRow_6) (fun r74 pr74 => ?_)
  replace pr74 : 0 ≤ r74.toInt ∧ r74.toInt ≤ 1 := pr74
  refine lv_istore_n (lv' := [(2, .int r74), (0, .ref h0), (1, .int x1)]) hx hb dX10_endsRow_9 rfl hl (by decide) rfl (fun ls hl => ?_)
  refine lv_aload_n hx hb dX10_endsRow_10 rfl (lv_at hl 1 rfl) ?_
  refine lv_iload_n hx hb dX10_endsRow_11 rfl (lv_at hl 2 rfl) ?_
  refine tc_callp (mc_runV (As := [.int x1]) (rest := []) E hG (c_X10_manyOf l G (σ, cu, kO PC X Fa) h0 x1 t0 (by omega) (by omega)) t0 rfl kv_X10_manyOf ml_X10_117 ⟨rfl, rfl, Nat.le_of_ble_eq_true rfl, Nat.le_of_ble_eq_true rfl⟩ rfl hl.1 rfl (Nat.le_of_ble_eq_true rfl) ⟨Nat.zero_le _, Nat.zero_le _⟩ dX10_endsRow_12) (fun r75 pr75 => ?_)
  replace pr75 : mV (σ, cu, kO PC X Fa) (ix x1.toInt 10) r75 := pr75
  have br75 := mV_10 pr75 (by omega)
  have cr75 := mT pr75 (kO_TI (PC_tr hcu) hT) (by omega) (by omega) (by decide) (by decide)
  refine lv_istore_n (lv' := [(3, .int r75), (2, .int r74), (0, .ref h0), (1, .int x1)]) hx hb dX10_endsRow_15 rfl hl (by decide) rfl (fun ls hl => ?_)
  refine lv_aload_n hx hb dX10_endsRow_16 rfl (lv_at hl 2 rfl) ?_
  refine lv_iload_n hx hb dX10_endsRow_17 rfl (lv_at hl 3 rfl) ?_
  refine tc_callp (mc_runV (As := [.int x1]) (rest := []) E hG (c_X10_gapsOf l G (σ, cu, kO PC X Fa) h0 x1 t0 (by omega) (by omega)) t0 rfl kv_X10_gapsOf ml_X10_255 ⟨rfl, rfl, Nat.le_of_ble_eq_true rfl, Nat.le_of_ble_eq_true rfl⟩ rfl hl.1 rfl (Nat.le_of_ble_eq_true rfl) ⟨Nat.zero_le _, Nat.zero_le _⟩ dX10_endsRow_18) (fun r76 pr76 => ?_)
  replace pr76 : 0 ≤ r76.toInt ∧ r76.toInt ≤ 693 := pr76
  refine lv_istore (lv' := [(4, .int r76), (3, .int r75), (2, .int r74), (0, .ref h0), (1, .int x1)]) hx hb dX10_endsRow_21 hl (by decide) rfl (fun ls hl => ?_)
  refine lv_iconst (v := 0) hx hb dX10_endsRow_23 (by decide) ?_
  refine lv_istore (lv' := [(5, .int 0), (4, .int r76), (3, .int r75), (2, .int r74), (0, .ref h0), (1, .int x1)]) hx hb dX10_endsRow_24 hl (by decide) rfl (fun ls hl => ?_)
  refine lv_iconst (v := 0) hx hb dX10_endsRow_26 (by decide) ?_
  refine lv_istore (lv' := [(6, .int 0), (5, .int 0), (4, .int r76), (3, .int r75), (2, .int r74), (0, .ref h0), (1, .int x1)]) hx hb dX10_endsRow_27 hl (by decide) rfl (fun ls hl => ?_)
  refine lv_iconst (v := 0) hx hb dX10_endsRow_29 (by decide) ?_
  refine lv_istore (lv' := [(7, .int 0), (6, .int 0), (5, .int 0), (4, .int r76), (3, .int r75), (2, .int r74), (0, .ref h0), (1, .int x1)]) hx hb dX10_endsRow_30 hl (by decide) rfl (fun ls hl => ?_)
  exact J32 ((8 - (0 : Int32).toInt).toNat + 1) H locs ls r74 r75 r76 (0 : Int32) (0 : Int32) (0 : Int32) hG (lv_sub hl [6, 7, 5, 4, 3, 2, 1, 0] rfl) (by omega) (by omega) (by omega) (by omega) (by decide) (by decide) (by decide) (by decide) (by decide) (by decide) (Nat.lt_succ_self _)

