/-! ===== the reference: bases; the laying of one box ===== -/
set_option maxHeartbeats 4000000 in
set_option maxRecDepth 100000 in
theorem c_X10_sets (l : Launch) (G : tG) (σ : Nat → Nat) (cu : Nat) (X : mX) (h0 : Nat) (x1 : Int32) (x2 : Int32) (x3 : Int32) (t0 : σ h0 = 1) (l1 : 0 ≤ x1.toInt) (u1 : x1.toInt ≤ 23) (hA : mAV (σ, cu, X)) : Met l yX10_sets (.code yX10_sets cX10_sets 4 none :: tWS) (tRm 1 23) (va_Pc [.ref h0, .int x1, .int x2, .int x3] (mPre G (σ, cu, X))) (mQv G (σ, cu, X)) 0 0 (mA (σ, cu, X)) := by
  refine mc_met (by decide) (Nat.le_of_ble_eq_true rfl) ?_
  intro p e s m below meth c E hr hlk hG ls hl
  have hl : lv_has ls 4 [(0, .ref h0), (1, .int x1), (2, .int x2), (3, .int x3)] := hl
  have hx := E.1
  have hb := E.2.1
  obtain ⟨H, eH⟩ : ∃ H, H = s.heap := ⟨_, rfl⟩
  obtain ⟨locs, eL⟩ : ∃ x : List Loc, x = [] := ⟨_, rfl⟩
  have hG : mGH G (σ, cu, X) s H locs := by rw [eH, eL]; exact hG
  suffices hW : W p l e (tRm 1 23) s m ([.ref h0, .int x1, .int x2, .int x3] : List Value).toArray below meth c H locs 0 0 (MQ below (mQv G (σ, cu, X)) ([.ref h0, .int x1, .int x2, .int x3] : List Value).toArray s 0 0 (mA (σ, cu, X))) (F0 m 0 ls []) by subst eH; subst eL; exact hW
  clear eH eL
  refine lv_aload_n hx hb dX10_sets_0 rfl (lv_at hl 0 rfl) ?_
  refine lv_iload_n hx hb dX10_sets_1 rfl (lv_at hl 1 rfl) ?_
  refine lv_bipush (v := 30) hx hb dX10_sets_2 (by decide) ?_
  refine lv_iload_n hx hb dX10_sets_4 rfl (lv_at hl 2 rfl) ?_
  refine mc_callv hG (mc_runV (As := [.int x1, .int 30, .int x2]) (rest := []) E hG (c_X10_put l G (σ, cu, X) h0 x1 (30 : Int32) x2 t0 (by omega) (by omega) (by decide) (by decide) (-2147483648) (2147483647) rfl (t_any1 _) (t_any2 _) (hA.2.2 _ _ (by omega) (by omega) (by decide) (by decide))) t0 rfl kv_X10_put ml_X10_102 ⟨rfl, rfl, Nat.le_of_ble_eq_true rfl, Nat.le_of_ble_eq_true rfl⟩ rfl hl.1 rfl (Nat.le_of_ble_eq_true rfl) ⟨Nat.zero_le _, Nat.zero_le _⟩ dX10_sets_5) (fun H locs hG => ?_)
  refine lv_aload_n hx hb dX10_sets_8 rfl (lv_at hl 0 rfl) ?_
  refine lv_iload_n hx hb dX10_sets_9 rfl (lv_at hl 1 rfl) ?_
  refine lv_bipush (v := 31) hx hb dX10_sets_10 (by decide) ?_
  refine lv_iload_n hx hb dX10_sets_12 rfl (lv_at hl 3 rfl) ?_
  refine mc_callv hG (mc_runV (As := [.int x1, .int 31, .int x3]) (rest := []) E hG (c_X10_put l G (σ, cu, X) h0 x1 (31 : Int32) x3 t0 (by omega) (by omega) (by decide) (by decide) (-2147483648) (2147483647) rfl (t_any1 _) (t_any2 _) (hA.2.2 _ _ (by omega) (by omega) (by decide) (by decide))) t0 rfl kv_X10_put ml_X10_102 ⟨rfl, rfl, Nat.le_of_ble_eq_true rfl, Nat.le_of_ble_eq_true rfl⟩ rfl hl.1 rfl (Nat.le_of_ble_eq_true rfl) ⟨Nat.zero_le _, Nat.zero_le _⟩ dX10_sets_13) (fun H locs hG => ?_)
  exact mc_vret E hr hlk hG dX10_sets_16

set_option maxHeartbeats 4000000 in
set_option maxRecDepth 100000 in
theorem c_X10_baseOf (l : Launch) (G : tG) (σ : Nat → Nat) (cu : Nat) (X : mX) (h0 : Nat) (x1 : Int32) (x2 : Int32) (t0 : σ h0 = 1) (l1 : 0 ≤ x1.toInt) (u1 : x1.toInt ≤ 23) (l2 : 0 ≤ x2.toInt) (u2 : x2.toInt ≤ 1) (t : Nat → Int32) (hT : TI (σ, cu, X) t) (hI : TInv t) (hA : mAV (σ, cu, X)) : Met l yX10_baseOf (.code yX10_baseOf cX10_baseOf 7 (some .int) :: tWS) (tRm 2 44) (va_Pc [.ref h0, .int x1, .int x2] (mPre G (σ, cu, X))) (mQi G (σ, cu, X) (fun r => True)) 0 0 (mA (σ, cu, X)) := by
  refine mc_met (by decide) (Nat.le_of_ble_eq_true rfl) ?_
  intro p e s m below meth c E hr hlk hG ls hl
  have hl : lv_has ls 7 [(0, .ref h0), (1, .int x1), (2, .int x2)] := hl
  have hx := E.1
  have hb := E.2.1
  obtain ⟨H, eH⟩ : ∃ H, H = s.heap := ⟨_, rfl⟩
  obtain ⟨locs, eL⟩ : ∃ x : List Loc, x = [] := ⟨_, rfl⟩
  have hG : mGH G (σ, cu, X) s H locs := by rw [eH, eL]; exact hG
  suffices hW : W p l e (tRm 2 44) s m ([.ref h0, .int x1, .int x2] : List Value).toArray below meth c H locs 0 0 (MQ below (mQi G (σ, cu, X) (fun r => True)) ([.ref h0, .int x1, .int x2] : List Value).toArray s 0 0 (mA (σ, cu, X))) (F0 m 0 ls []) by subst eH; subst eL; exact hW
  clear eH eL
  obtain ⟨Fa, hG⟩ := mGain hG
  have hG : mGH G (σ, cu, kO mPB X Fa) s H locs := hG mPB
  have hcu : mCu cu := hG.2.2.1
  have J72 : ∀ (n72 : Nat) (F : mF) (H : Heap) (locs : List Loc) (ls : Array Slot) (v5 : Int32) (v6 : Int32), mGH G (σ, cu, kO mPB X F) s H locs → lv_has ls 7 [(0, .ref h0), (5, .int v5), (6, .int v6)] → -1 ≤ v6.toInt → v6.toInt ≤ 24 → (v6.toInt + 1).toNat < n72 → W p l e (tRm 2 44) s m ([.ref h0, .int x1, .int x2] : List Value).toArray below meth c H locs 0 0 (MQ below (mQi G (σ, cu, X) (fun r => True)) ([.ref h0, .int x1, .int x2] : List Value).toArray s 0 0 (mA (σ, cu, X))) (F0 m 72 ls []) := by
    intro n72
    induction n72 with
    | zero => intro F H locs ls v5 v6 hG hl b6 c6 hn72; exact absurd hn72 (Nat.not_lt_zero _)
    | succ n72 ih72 =>
      intro F H locs ls v5 v6 hG hl b6 c6 hn72
      refine lv_iload hx hb dX10_baseOf_72 (lv_at hl 2 rfl) ?_
      refine lv_if_le (tgt := 101) hx hb dX10_baseOf_74 (by decide) (fun c1 => ?_) (fun c1 => ?_)
      · skip
        have ic1 := tn_le rfl kI_0 c1
        refine lv_iload hx hb dX10_baseOf_101 (lv_at hl 1 rfl) ?_
        have hG := kO_drop (PB_none hA) hG
        exact mc_iret E hr hlk hG trivial dX10_baseOf_103
      · skip
        have ic1 := tn_nle rfl kI_0 c1
        refine lv_iload hx hb dX10_baseOf_77 (lv_at hl 1 rfl) ?_
        refine lv_aload_n hx hb dX10_baseOf_79 rfl (lv_at hl 0 rfl) ?_
        refine lv_aload_n hx hb dX10_baseOf_80 rfl (lv_at hl 0 rfl) ?_
        refine mc_getr E hG t0 mr_33 dX10_baseOf_81 (fun oa2 hoa2 => ?_)
        refine lv_iload hx hb dX10_baseOf_84 (lv_at hl 2 rfl) ?_
        refine mc_iald E hG hoa2 ma_8 (t_in (by omega) (by omega)) dX10_baseOf_86 (fun z3 lz3 uz3 qz3 => ?_)
        have wz3 := kq qz3 (PB_8)
        refine lv_bipush (v := 31) hx hb dX10_baseOf_87 (by decide) ?_
        refine tc_callp (mc_runV (As := [.int z3, .int 31]) (rest := [.int v5]) E hG (c_X10_get l G (σ, cu, kO mPB X F) h0 z3 (31 : Int32) t0 (by omega) (by omega) (by decide) (by decide)) t0 rfl kv_X10_get ml_X10_91 ⟨rfl, rfl, Nat.le_of_ble_eq_true rfl, Nat.le_of_ble_eq_true rfl⟩ rfl hl.1 rfl (Nat.le_of_ble_eq_true rfl) ⟨Nat.zero_le _, Nat.zero_le _⟩ dX10_baseOf_89) (fun r4 pr4 => ?_)
        replace pr4 : mV (σ, cu, kO mPB X F) (ix z3.toInt (31 : Int32).toInt) r4 := pr4
        have pr4 := mV_l pr4 kI_31
        have k5 := kI_31
        refine lv_iadd hx hb dX10_baseOf_92 ?_
        refine lv_topi (fun z6 ez6 => ?_)
        refine lv_istore (lv' := [(5, .int z6), (0, .ref h0), (6, .int v6)]) hx hb dX10_baseOf_93 hl (by decide) rfl (fun ls hl => ?_)
        obtain ⟨z7, ez7⟩ : ∃ y : Int32, y = v6 + (-1) := ⟨_, rfl⟩
        refine lv_iinc (v := z7) (lv' := [(6, .int z7), (5, .int z6), (0, .ref h0)]) hx hb dX10_baseOf_95 hl (k := 2) rfl (by rw [ez7]; rfl) (by decide) rfl (fun ls hl => ?_)
        have tz7 := tn_add ez7 rfl kI_m1 (by omega) (by omega)
        refine lv_goto (tgt := 72) hx hb dX10_baseOf_98 (by decide) ?_
        exact ih72 F H locs ls z6 z7 hG (lv_sub hl [2, 1, 0] rfl) (by omega) (by omega) (by omega)
  have J16 : ∀ (n16 : Nat) (F : mF) (H : Heap) (locs : List Loc) (ls : Array Slot) (v3 : Int32), mGH G (σ, cu, kO mPB X F) s H locs → lv_has ls 7 [(0, .ref h0), (2, .int x2), (3, .int v3)] → 0 ≤ v3.toInt → v3.toInt ≤ 24 → BI F v3.toInt → BM F v3.toInt < n16 → W p l e (tRm 2 44) s m ([.ref h0, .int x1, .int x2] : List Value).toArray below meth c H locs 0 0 (MQ below (mQi G (σ, cu, X) (fun r => True)) ([.ref h0, .int x1, .int x2] : List Value).toArray s 0 0 (mA (σ, cu, X))) (F0 m 16 ls []) := by
    intro n16
    induction n16 with
    | zero => intro F H locs ls v3 hG hl b3 c3 hex16 hn16; exact absurd hn16 (Nat.not_lt_zero _)
    | succ n16 ih16 =>
      intro F H locs ls v3 hG hl b3 c3 hex16 hn16
      refine lv_iload_n hx hb dX10_baseOf_16 rfl (lv_at hl 2 rfl) ?_
      refine lv_if_le (tgt := 179) hx hb dX10_baseOf_17 (by decide) (fun c8 => ?_) (fun c8 => ?_)
      · skip
        have ic8 := tn_le rfl kI_0 c8
        refine lv_bipush (v := -5) hx hb dX10_baseOf_179 (by decide) ?_
        have hG := kO_drop (PB_none hA) hG
        exact mc_iret E hr hlk hG trivial dX10_baseOf_181
      · skip
        have ic8 := tn_nle rfl kI_0 c8
        refine lv_aload_n hx hb dX10_baseOf_20 rfl (lv_at hl 0 rfl) ?_
        refine mc_getr E hG t0 mr_33 dX10_baseOf_21 (fun oa9 hoa9 => ?_)
        refine lv_iload_n hx hb dX10_baseOf_24 rfl (lv_at hl 2 rfl) ?_
        refine lv_iconst (v := 1) hx hb dX10_baseOf_25 (by decide) ?_
        refine lv_isub hx hb dX10_baseOf_26 ?_
        refine lv_topi (fun z10 ez10 => ?_)
        have tz10 := tn_sub ez10 rfl kI_1 (by omega) (by omega)
        refine mc_iald E hG hoa9 ma_8 (t_in (by omega) (by omega)) dX10_baseOf_27 (fun z11 lz11 uz11 qz11 => ?_)
        have wz11 := kq qz11 (PB_8)
        refine lv_istore (lv' := [(4, .int z11), (0, .ref h0), (2, .int x2), (3, .int v3)]) hx hb dX10_baseOf_28 hl (by decide) rfl (fun ls hl => ?_)
        refine lv_iload_n hx hb dX10_baseOf_30 rfl (lv_at hl 2 rfl) ?_
        refine lv_if_eq (tgt := 54) hx hb dX10_baseOf_31 (by decide) (fun c12 => ?_) (fun c12 => ?_)
        · skip
          have ic12 := tn_eq rfl kI_0 c12
          refine lv_aload_n hx hb dX10_baseOf_54 rfl (lv_at hl 1 rfl) ?_
          refine lv_iload hx hb dX10_baseOf_55 (lv_at hl 0 rfl) ?_
          refine tc_callp (mc_runV (As := [.int z11]) (rest := []) E hG (c_X10_ownBase l G (σ, cu, kO mPB X F) h0 z11 t0 (by omega) (by omega)) t0 rfl kv_X10_ownBase ml_X10_209 ⟨rfl, rfl, Nat.le_of_ble_eq_true rfl, Nat.le_of_ble_eq_true rfl⟩ rfl hl.1 rfl (Nat.le_of_ble_eq_true rfl) ⟨Nat.zero_le _, Nat.zero_le _⟩ dX10_baseOf_57) (fun r13 pr13 => ?_)
          refine lv_istore (lv' := [(5, .int r13), (4, .int z11), (0, .ref h0), (2, .int x2), (3, .int v3)]) hx hb dX10_baseOf_60 hl (by decide) rfl (fun ls hl => ?_)
          refine lv_iload hx hb dX10_baseOf_62 (lv_at hl 0 rfl) ?_
          refine lv_if_lt (tgt := 104) hx hb dX10_baseOf_64 (by decide) (fun c14 => ?_) (fun c14 => ?_)
          · skip
            have ic14 := tn_lt rfl kI_0 c14
            refine lv_iload hx hb dX10_baseOf_104 (lv_at hl 0 rfl) ?_
            refine lv_bipush (v := -6) hx hb dX10_baseOf_106 (by decide) ?_
            refine lv_icmp_ne (tgt := 173) hx hb dX10_baseOf_108 (by decide) (fun c15 => ?_) (fun c15 => ?_)
            · skip
              have ic15 := tn_ne rfl kI_m6 c15
              obtain ⟨z16, ez16⟩ : ∃ y : Int32, y = v3 + (-1) := ⟨_, rfl⟩
              refine lv_iinc (v := z16) (lv' := [(3, .int z16), (5, .int r13), (4, .int z11), (0, .ref h0), (2, .int x2)]) hx hb dX10_baseOf_173 hl (k := 4) rfl (by rw [ez16]; rfl) (by decide) rfl (fun ls hl => ?_)
              have tz16 := tn_add ez16 rfl kI_m1 (by omega) (by omega)
              refine lv_goto (tgt := 16) hx hb dX10_baseOf_176 (by decide) ?_
              have hP := BI_pop hex16 (by omega)
              rw [show v3.toInt - 1 = z16.toInt by omega] at hP
              have hP2 := hP.2
              have hP3 := hP.1.1.le
              exact ih16 F H locs ls z16 hG (lv_sub hl [3, 4, 0] rfl) (by omega) (by omega) (by first | exact hP.1 | exact hP) (by omega)
            · skip
              have ic15 := tn_eq rfl kI_m6 c15
              refine lv_aload_n hx hb dX10_baseOf_111 rfl (lv_at hl 2 rfl) ?_
              refine mc_getr E hG t0 mr_36 dX10_baseOf_112 (fun oa17 hoa17 => ?_)
              refine lv_iload_n hx hb dX10_baseOf_115 rfl (lv_at hl 4 rfl) ?_
              refine lv_iconst (v := 1) hx hb dX10_baseOf_116 (by decide) ?_
              refine lv_isub hx hb dX10_baseOf_117 ?_
              refine lv_topi (fun z18 ez18 => ?_)
              have tz18 := tn_sub ez18 rfl kI_1 (by omega) (by omega)
              refine mc_iald E hG hoa17 ma_9 (t_in (by omega) (by omega)) dX10_baseOf_118 (fun z19 lz19 uz19 qz19 => ?_)
              have wz19 := kq qz19 (PB_9)
              refine lv_aload_n hx hb dX10_baseOf_119 rfl (lv_at hl 2 rfl) ?_
              refine lv_iload hx hb dX10_baseOf_120 (lv_at hl 1 rfl) ?_
              refine tc_callp (mc_runV (As := [.int z11]) (rest := [.int z19]) E hG (c_X10_manyOf l G (σ, cu, kO mPB X F) h0 z11 t0 (by omega) (by omega)) t0 rfl kv_X10_manyOf ml_X10_117 ⟨rfl, rfl, Nat.le_of_ble_eq_true rfl, Nat.le_of_ble_eq_true rfl⟩ rfl hl.1 rfl (Nat.le_of_ble_eq_true rfl) ⟨Nat.zero_le _, Nat.zero_le _⟩ dX10_baseOf_122) (fun r20 pr20 => ?_)
              replace pr20 : mV (σ, cu, kO mPB X F) (ix z11.toInt 10) r20 := pr20
              have br20 := mV_10 pr20 (by omega)
              have cr20 := mT pr20 (kO_TI (PB_tr hcu) hT) (by omega) (by omega) (by decide) (by decide)
              refine lv_icmp_ge (tgt := 173) hx hb dX10_baseOf_125 (by decide) (fun c21 => ?_) (fun c21 => ?_)
              · skip
                have ic21 := tn_le rfl rfl c21
                obtain ⟨z22, ez22⟩ : ∃ y : Int32, y = v3 + (-1) := ⟨_, rfl⟩
                refine lv_iinc (v := z22) (lv' := [(3, .int z22), (5, .int r13), (4, .int z11), (0, .ref h0), (2, .int x2)]) hx hb dX10_baseOf_173 hl (k := 4) rfl (by rw [ez22]; rfl) (by decide) rfl (fun ls hl => ?_)
                have tz22 := tn_add ez22 rfl kI_m1 (by omega) (by omega)
                refine lv_goto (tgt := 16) hx hb dX10_baseOf_176 (by decide) ?_
                have hP := BI_pop hex16 (by omega)
                rw [show v3.toInt - 1 = z22.toInt by omega] at hP
                have hP2 := hP.2
                have hP3 := hP.1.1.le
                exact ih16 F H locs ls z22 hG (lv_sub hl [3, 4, 0] rfl) (by omega) (by omega) (by first | exact hP.1 | exact hP) (by omega)
              · skip
                have ic21 := tn_nle rfl rfl c21
                refine lv_aload_n hx hb dX10_baseOf_128 rfl (lv_at hl 2 rfl) ?_
                refine mc_getr E hG t0 mr_33 dX10_baseOf_129 (fun oa23 hoa23 => ?_)
                refine lv_iload_n hx hb dX10_baseOf_132 rfl (lv_at hl 4 rfl) ?_
                refine lv_aload_n hx hb dX10_baseOf_133 rfl (lv_at hl 2 rfl) ?_
                refine lv_iload hx hb dX10_baseOf_134 (lv_at hl 1 rfl) ?_
                refine lv_aload_n hx hb dX10_baseOf_136 rfl (lv_at hl 2 rfl) ?_
                refine mc_getr E hG t0 mr_36 dX10_baseOf_137 (fun oa24 hoa24 => ?_)
                refine lv_iload_n hx hb dX10_baseOf_140 rfl (lv_at hl 4 rfl) ?_
                refine lv_iconst (v := 1) hx hb dX10_baseOf_141 (by decide) ?_
                refine lv_isub hx hb dX10_baseOf_142 ?_
                refine lv_topi (fun z25 ez25 => ?_)
                have tz25 := tn_sub ez25 rfl kI_1 (by omega) (by omega)
                refine mc_iald E hG hoa24 ma_9 (t_in (by omega) (by omega)) dX10_baseOf_143 (fun z26 lz26 uz26 qz26 => ?_)
                have wz26 := kq qz26 (PB_9)
                have hbq : z26.toInt = z19.toInt := by rw [wz26, wz19, show z25.toNatClampNeg = z18.toNatClampNeg by show z25.toInt.toNat = z18.toInt.toNat; omega]
                refine tc_callp (mc_runV (As := [.int z11, .int z26]) (rest := [.int v3, .ref oa23]) E hG (c_X10_childOf l G (σ, cu, kO mPB X F) h0 z11 z26 t0 (by omega) (by omega) (by omega) (by omega)) t0 rfl kv_X10_childOf ml_X10_153 ⟨rfl, rfl, Nat.le_of_ble_eq_true rfl, Nat.le_of_ble_eq_true rfl⟩ rfl hl.1 rfl (Nat.le_of_ble_eq_true rfl) ⟨Nat.zero_le _, Nat.zero_le _⟩ dX10_baseOf_144) (fun r27 pr27 => ?_)
                replace pr27 : mV (σ, cu, kO mPB X F) (ix z11.toInt (11 + z26.toInt)) r27 := pr27
                have br27 := mV_r 11 18 0 23 pr27 (by omega) (by omega) (by omega) (by decide) (by decide)
                have cr27 := mT pr27 (kO_TI (PB_tr hcu) hT) (by omega) (by omega) (by omega) (by omega)
                have dr27 := mP11 cr27 hI (by omega) (by omega) (by omega)
                refine mc_iastX E hG hoa23 ma_8.1 ma_8.2.1 (ma_8.2.2 _) (t_in (by omega) (by omega)) (by omega) (by omega) dX10_baseOf_147 (fun H locs hG => ?_)
                have hG := kO_set (PB_8) hG
                obtain ⟨F28, eF28⟩ : ∃ Z : mF, Z = up2 F 8 (v3).toNatClampNeg r27 := ⟨_, rfl⟩
                rw [← eF28] at hG
                refine lv_aload_n hx hb dX10_baseOf_148 rfl (lv_at hl 2 rfl) ?_
                refine mc_getr E hG t0 mr_36 dX10_baseOf_149 (fun oa29 hoa29 => ?_)
                refine lv_iload_n hx hb dX10_baseOf_152 rfl (lv_at hl 4 rfl) ?_
                refine lv_iconst (v := 0) hx hb dX10_baseOf_153 (by decide) ?_
                refine mc_iastX E hG hoa29 ma_9.1 ma_9.2.1 (ma_9.2.2 _) (t_in (by omega) (by omega)) (by decide) (by decide) dX10_baseOf_154 (fun H locs hG => ?_)
                have hG := kO_set (PB_9) hG
                obtain ⟨F30, eF30⟩ : ∃ Z : mF, Z = up2 F28 9 (v3).toNatClampNeg (0 : Int32) := ⟨_, rfl⟩
                rw [← eF30] at hG
                refine lv_aload_n hx hb dX10_baseOf_155 rfl (lv_at hl 2 rfl) ?_
                refine mc_getr E hG t0 mr_36 dX10_baseOf_156 (fun oa31 hoa31 => ?_)
                refine lv_iload_n hx hb dX10_baseOf_159 rfl (lv_at hl 4 rfl) ?_
                refine lv_iconst (v := 1) hx hb dX10_baseOf_160 (by decide) ?_
                refine lv_isub hx hb dX10_baseOf_161 ?_
                refine lv_topi (fun z32 ez32 => ?_)
                have tz32 := tn_sub ez32 rfl kI_1 (by omega) (by omega)
                refine lv_dup2_11 hx hb dX10_baseOf_162 rfl rfl ?_
                refine mc_iald E hG hoa31 ma_9 (t_in (by omega) (by omega)) dX10_baseOf_163 (fun z33 lz33 uz33 qz33 => ?_)
                have wz33 := kq qz33 (PB_9)
                have hbk : z33.toInt = z19.toInt := by
                  have hik : z32.toNatClampNeg = z18.toNatClampNeg := by show z32.toInt.toNat = z18.toInt.toNat; omega
                  have hin : ¬ z32.toNatClampNeg = v3.toNatClampNeg := by show ¬ z32.toInt.toNat = v3.toInt.toNat; omega
                  rw [wz33, eF30, up2_ne (fun q => hin q.2), eF28, up2_ne (by omega), hik, ← wz19]
                refine lv_iconst (v := 1) hx hb dX10_baseOf_164 (by decide) ?_
                refine lv_iadd hx hb dX10_baseOf_165 ?_
                refine lv_topi (fun z34 ez34 => ?_)
                have tz34 := tn_add ez34 rfl kI_1 (by omega) (by omega)
                refine mc_iastX E hG hoa31 ma_9.1 ma_9.2.1 (ma_9.2.2 _) (t_in (by omega) (by omega)) (by omega) (by omega) dX10_baseOf_166 (fun H locs hG => ?_)
                have hG := kO_set (PB_9) hG
                obtain ⟨F35, eF35⟩ : ∃ Z : mF, Z = up2 F30 9 (z32).toNatClampNeg z34 := ⟨_, rfl⟩
                rw [← eF35] at hG
                obtain ⟨z36, ez36⟩ : ∃ y : Int32, y = v3 + (1) := ⟨_, rfl⟩
                refine lv_iinc (v := z36) (lv' := [(3, .int z36), (5, .int r13), (4, .int z11), (0, .ref h0), (2, .int x2)]) hx hb dX10_baseOf_167 hl (k := 4) rfl (by rw [ez36]; rfl) (by decide) rfl (fun ls hl => ?_)
                have tz36 := tn_add ez36 rfl kI_1 (by omega) (by omega)
                refine lv_goto (tgt := 176) hx hb dX10_baseOf_170 (by decide) ?_
                refine lv_goto (tgt := 16) hx hb dX10_baseOf_176 (by decide) ?_
                have hiz10 : z10.toNatClampNeg = (v3.toInt - 1).toNat := by show z10.toInt.toNat = _; omega
                have hiz18 : z18.toNatClampNeg = (v3.toInt - 1).toNat := by show z18.toInt.toNat = _; omega
                have hiz32 : z32.toNatClampNeg = (v3.toInt - 1).toNat := by show z32.toInt.toNat = _; omega
                rw [hiz10] at wz11
                rw [hiz18] at wz19
                rw [hiz32] at eF35
                have hi9 : v3.toNatClampNeg = (v3.toInt - 1).toNat + 1 := by show v3.toInt.toNat = _; omega
                rw [hiz32, eF30, up2_ne (by omega), eF28, up2_ne (by omega)] at wz33
                have hP := BI_push (n := v3.toNatClampNeg) hex16 (by omega) (by show ((v3.toInt.toNat : Nat) : Int) = _; omega) eF28 eF30 eF35 (by rw [← wz33]; omega) (by omega) (by rw [← wz11]; omega) (by omega)
                rw [show v3.toInt + 1 = z36.toInt by omega] at hP
                have hP2 := hP.2
                have hP3 := hP.1.1.le
                exact ih16 F35 H locs ls z36 hG (lv_sub hl [3, 4, 0] rfl) (by omega) (by omega) (by first | exact hP.1 | exact hP) (by omega)
          · skip
            have ic14 := tn_nlt rfl kI_0 c14
            refine lv_iload_n hx hb dX10_baseOf_67 rfl (lv_at hl 4 rfl) ?_
            refine lv_iconst (v := 1) hx hb dX10_baseOf_68 (by decide) ?_
            refine lv_isub hx hb dX10_baseOf_69 ?_
            refine lv_topi (fun z37 ez37 => ?_)
            have tz37 := tn_sub ez37 rfl kI_1 (by omega) (by omega)
            refine lv_istore (lv' := [(6, .int z37), (5, .int r13), (4, .int z11), (0, .ref h0), (2, .int x2), (3, .int v3)]) hx hb dX10_baseOf_70 hl (by decide) rfl (fun ls hl => ?_)
            exact J72 ((z37.toInt + 1).toNat + 1) F H locs ls r13 z37 hG (lv_sub hl [3, 1, 0] rfl) (by omega) (by omega) (Nat.lt_succ_self _)
        · skip
          have ic12 := tn_ne rfl kI_0 c12
          refine lv_aload_n hx hb dX10_baseOf_34 rfl (lv_at hl 1 rfl) ?_
          refine mc_getr E hG t0 mr_36 dX10_baseOf_35 (fun oa38 hoa38 => ?_)
          refine lv_iload_n hx hb dX10_baseOf_38 rfl (lv_at hl 3 rfl) ?_
          refine lv_iconst (v := 1) hx hb dX10_baseOf_39 (by decide) ?_
          refine lv_isub hx hb dX10_baseOf_40 ?_
          refine lv_topi (fun z39 ez39 => ?_)
          have tz39 := tn_sub ez39 rfl kI_1 (by omega) (by omega)
          refine mc_iald E hG hoa38 ma_9 (t_in (by omega) (by omega)) dX10_baseOf_41 (fun z40 lz40 uz40 qz40 => ?_)
          have wz40 := kq qz40 (PB_9)
          refine lv_if_ne (tgt := 54) hx hb dX10_baseOf_42 (by decide) (fun c41 => ?_) (fun c41 => ?_)
          · skip
            have ic41 := tn_ne rfl kI_0 c41
            refine lv_aload_n hx hb dX10_baseOf_54 rfl (lv_at hl 1 rfl) ?_
            refine lv_iload hx hb dX10_baseOf_55 (lv_at hl 0 rfl) ?_
            refine tc_callp (mc_runV (As := [.int z11]) (rest := []) E hG (c_X10_ownBase l G (σ, cu, kO mPB X F) h0 z11 t0 (by omega) (by omega)) t0 rfl kv_X10_ownBase ml_X10_209 ⟨rfl, rfl, Nat.le_of_ble_eq_true rfl, Nat.le_of_ble_eq_true rfl⟩ rfl hl.1 rfl (Nat.le_of_ble_eq_true rfl) ⟨Nat.zero_le _, Nat.zero_le _⟩ dX10_baseOf_57) (fun r42 pr42 => ?_)
            refine lv_istore (lv' := [(5, .int r42), (4, .int z11), (0, .ref h0), (2, .int x2), (3, .int v3)]) hx hb dX10_baseOf_60 hl (by decide) rfl (fun ls hl => ?_)
            refine lv_iload hx hb dX10_baseOf_62 (lv_at hl 0 rfl) ?_
            refine lv_if_lt (tgt := 104) hx hb dX10_baseOf_64 (by decide) (fun c43 => ?_) (fun c43 => ?_)
            · skip
              have ic43 := tn_lt rfl kI_0 c43
              refine lv_iload hx hb dX10_baseOf_104 (lv_at hl 0 rfl) ?_
              refine lv_bipush (v := -6) hx hb dX10_baseOf_106 (by decide) ?_
              refine lv_icmp_ne (tgt := 173) hx hb dX10_baseOf_108 (by decide) (fun c44 => ?_) (fun c44 => ?_)
              · skip
                have ic44 := tn_ne rfl kI_m6 c44
                obtain ⟨z45, ez45⟩ : ∃ y : Int32, y = v3 + (-1) := ⟨_, rfl⟩
                refine lv_iinc (v := z45) (lv' := [(3, .int z45), (5, .int r42), (4, .int z11), (0, .ref h0), (2, .int x2)]) hx hb dX10_baseOf_173 hl (k := 4) rfl (by rw [ez45]; rfl) (by decide) rfl (fun ls hl => ?_)
                have tz45 := tn_add ez45 rfl kI_m1 (by omega) (by omega)
                refine lv_goto (tgt := 16) hx hb dX10_baseOf_176 (by decide) ?_
                have hP := BI_pop hex16 (by omega)
                rw [show v3.toInt - 1 = z45.toInt by omega] at hP
                have hP2 := hP.2
                have hP3 := hP.1.1.le
                exact ih16 F H locs ls z45 hG (lv_sub hl [3, 4, 0] rfl) (by omega) (by omega) (by first | exact hP.1 | exact hP) (by omega)
              · skip
                have ic44 := tn_eq rfl kI_m6 c44
                refine lv_aload_n hx hb dX10_baseOf_111 rfl (lv_at hl 2 rfl) ?_
                refine mc_getr E hG t0 mr_36 dX10_baseOf_112 (fun oa46 hoa46 => ?_)
                refine lv_iload_n hx hb dX10_baseOf_115 rfl (lv_at hl 4 rfl) ?_
                refine lv_iconst (v := 1) hx hb dX10_baseOf_116 (by decide) ?_
                refine lv_isub hx hb dX10_baseOf_117 ?_
                refine lv_topi (fun z47 ez47 => ?_)
                have tz47 := tn_sub ez47 rfl kI_1 (by omega) (by omega)
                refine mc_iald E hG hoa46 ma_9 (t_in (by omega) (by omega)) dX10_baseOf_118 (fun z48 lz48 uz48 qz48 => ?_)
                have wz48 := kq qz48 (PB_9)
                refine lv_aload_n hx hb dX10_baseOf_119 rfl (lv_at hl 2 rfl) ?_
                refine lv_iload hx hb dX10_baseOf_120 (lv_at hl 1 rfl) ?_
                refine tc_callp (mc_runV (As := [.int z11]) (rest := [.int z48]) E hG (c_X10_manyOf l G (σ, cu, kO mPB X F) h0 z11 t0 (by omega) (by omega)) t0 rfl kv_X10_manyOf ml_X10_117 ⟨rfl, rfl, Nat.le_of_ble_eq_true rfl, Nat.le_of_ble_eq_true rfl⟩ rfl hl.1 rfl (Nat.le_of_ble_eq_true rfl) ⟨Nat.zero_le _, Nat.zero_le _⟩ dX10_baseOf_122) (fun r49 pr49 => ?_)
                replace pr49 : mV (σ, cu, kO mPB X F) (ix z11.toInt 10) r49 := pr49
                have br49 := mV_10 pr49 (by omega)
                have cr49 := mT pr49 (kO_TI (PB_tr hcu) hT) (by omega) (by omega) (by decide) (by decide)
                refine lv_icmp_ge (tgt := 173) hx hb dX10_baseOf_125 (by decide) (fun c50 => ?_) (fun c50 => ?_)
                · skip
                  have ic50 := tn_le rfl rfl c50
                  obtain ⟨z51, ez51⟩ : ∃ y : Int32, y = v3 + (-1) := ⟨_, rfl⟩
                  refine lv_iinc (v := z51) (lv' := [(3, .int z51), (5, .int r42), (4, .int z11), (0, .ref h0), (2, .int x2)]) hx hb dX10_baseOf_173 hl (k := 4) rfl (by rw [ez51]; rfl) (by decide) rfl (fun ls hl => ?_)
                  have tz51 := tn_add ez51 rfl kI_m1 (by omega) (by omega)
                  refine lv_goto (tgt := 16) hx hb dX10_baseOf_176 (by decide) ?_
                  have hP := BI_pop hex16 (by omega)
                  rw [show v3.toInt - 1 = z51.toInt by omega] at hP
                  have hP2 := hP.2
                  have hP3 := hP.1.1.le
                  exact ih16 F H locs ls z51 hG (lv_sub hl [3, 4, 0] rfl) (by omega) (by omega) (by first | exact hP.1 | exact hP) (by omega)
                · skip
                  have ic50 := tn_nle rfl rfl c50
                  refine lv_aload_n hx hb dX10_baseOf_128 rfl (lv_at hl 2 rfl) ?_
                  refine mc_getr E hG t0 mr_33 dX10_baseOf_129 (fun oa52 hoa52 => ?_)
                  refine lv_iload_n hx hb dX10_baseOf_132 rfl (lv_at hl 4 rfl) ?_
                  refine lv_aload_n hx hb dX10_baseOf_133 rfl (lv_at hl 2 rfl) ?_
                  refine lv_iload hx hb dX10_baseOf_134 (lv_at hl 1 rfl) ?_
                  refine lv_aload_n hx hb dX10_baseOf_136 rfl (lv_at hl 2 rfl) ?_
                  refine mc_getr E hG t0 mr_36 dX10_baseOf_137 (fun oa53 hoa53 => ?_)
                  refine lv_iload_n hx hb dX10_baseOf_140 rfl (lv_at hl 4 rfl) ?_
                  refine lv_iconst (v := 1) hx hb dX10_baseOf_141 (by decide) ?_
                  refine lv_isub hx hb dX10_baseOf_142 ?_
                  refine lv_topi (fun z54 ez54 => ?_)
                  have tz54 := tn_sub ez54 rfl kI_1 (by omega) (by omega)
                  refine mc_iald E hG hoa53 ma_9 (t_in (by omega) (by omega)) dX10_baseOf_143 (fun z55 lz55 uz55 qz55 => ?_)
                  have wz55 := kq qz55 (PB_9)
                  have hbq : z55.toInt = z48.toInt := by rw [wz55, wz48, show z54.toNatClampNeg = z47.toNatClampNeg by show z54.toInt.toNat = z47.toInt.toNat; omega]
                  refine tc_callp (mc_runV (As := [.int z11, .int z55]) (rest := [.int v3, .ref oa52]) E hG (c_X10_childOf l G (σ, cu, kO mPB X F) h0 z11 z55 t0 (by omega) (by omega) (by omega) (by omega)) t0 rfl kv_X10_childOf ml_X10_153 ⟨rfl, rfl, Nat.le_of_ble_eq_true rfl, Nat.le_of_ble_eq_true rfl⟩ rfl hl.1 rfl (Nat.le_of_ble_eq_true rfl) ⟨Nat.zero_le _, Nat.zero_le _⟩ dX10_baseOf_144) (fun r56 pr56 => ?_)
                  replace pr56 : mV (σ, cu, kO mPB X F) (ix z11.toInt (11 + z55.toInt)) r56 := pr56
                  have br56 := mV_r 11 18 0 23 pr56 (by omega) (by omega) (by omega) (by decide) (by decide)
                  have cr56 := mT pr56 (kO_TI (PB_tr hcu) hT) (by omega) (by omega) (by omega) (by omega)
                  have dr56 := mP11 cr56 hI (by omega) (by omega) (by omega)
                  refine mc_iastX E hG hoa52 ma_8.1 ma_8.2.1 (ma_8.2.2 _) (t_in (by omega) (by omega)) (by omega) (by omega) dX10_baseOf_147 (fun H locs hG => ?_)
                  have hG := kO_set (PB_8) hG
                  obtain ⟨F57, eF57⟩ : ∃ Z : mF, Z = up2 F 8 (v3).toNatClampNeg r56 := ⟨_, rfl⟩
                  rw [← eF57] at hG
                  refine lv_aload_n hx hb dX10_baseOf_148 rfl (lv_at hl 2 rfl) ?_
                  refine mc_getr E hG t0 mr_36 dX10_baseOf_149 (fun oa58 hoa58 => ?_)
                  refine lv_iload_n hx hb dX10_baseOf_152 rfl (lv_at hl 4 rfl) ?_
                  refine lv_iconst (v := 0) hx hb dX10_baseOf_153 (by decide) ?_
                  refine mc_iastX E hG hoa58 ma_9.1 ma_9.2.1 (ma_9.2.2 _) (t_in (by omega) (by omega)) (by decide) (by decide) dX10_baseOf_154 (fun H locs hG => ?_)
                  have hG := kO_set (PB_9) hG
                  obtain ⟨F59, eF59⟩ : ∃ Z : mF, Z = up2 F57 9 (v3).toNatClampNeg (0 : Int32) := ⟨_, rfl⟩
                  rw [← eF59] at hG
                  refine lv_aload_n hx hb dX10_baseOf_155 rfl (lv_at hl 2 rfl) ?_
                  refine mc_getr E hG t0 mr_36 dX10_baseOf_156 (fun oa60 hoa60 => ?_)
                  refine lv_iload_n hx hb dX10_baseOf_159 rfl (lv_at hl 4 rfl) ?_
                  refine lv_iconst (v := 1) hx hb dX10_baseOf_160 (by decide) ?_
                  refine lv_isub hx hb dX10_baseOf_161 ?_
                  refine lv_topi (fun z61 ez61 => ?_)
                  have tz61 := tn_sub ez61 rfl kI_1 (by omega) (by omega)
                  refine lv_dup2_11 hx hb dX10_baseOf_162 rfl rfl ?_
                  refine mc_iald E hG hoa60 ma_9 (t_in (by omega) (by omega)) dX10_baseOf_163 (fun z62 lz62 uz62 qz62 => ?_)
                  have wz62 := kq qz62 (PB_9)
                  have hbk : z62.toInt = z48.toInt := by
                    have hik : z61.toNatClampNeg = z47.toNatClampNeg := by show z61.toInt.toNat = z47.toInt.toNat; omega
                    have hin : ¬ z61.toNatClampNeg = v3.toNatClampNeg := by show ¬ z61.toInt.toNat = v3.toInt.toNat; omega
                    rw [wz62, eF59, up2_ne (fun q => hin q.2), eF57, up2_ne (by omega), hik, ← wz48]
                  refine lv_iconst (v := 1) hx hb dX10_baseOf_164 (by decide) ?_
                  refine lv_iadd hx hb dX10_baseOf_165 ?_
                  refine lv_topi (fun z63 ez63 => ?_)
                  have tz63 := tn_add ez63 rfl kI_1 (by omega) (by omega)
                  refine mc_iastX E hG hoa60 ma_9.1 ma_9.2.1 (ma_9.2.2 _) (t_in (by omega) (by omega)) (by omega) (by omega) dX10_baseOf_166 (fun H locs hG => ?_)
                  have hG := kO_set (PB_9) hG
                  obtain ⟨F64, eF64⟩ : ∃ Z : mF, Z = up2 F59 9 (z61).toNatClampNeg z63 := ⟨_, rfl⟩
                  rw [← eF64] at hG
                  obtain ⟨z65, ez65⟩ : ∃ y : Int32, y = v3 + (1) := ⟨_, rfl⟩
                  refine lv_iinc (v := z65) (lv' := [(3, .int z65), (5, .int r42), (4, .int z11), (0, .ref h0), (2, .int x2)]) hx hb dX10_baseOf_167 hl (k := 4) rfl (by rw [ez65]; rfl) (by decide) rfl (fun ls hl => ?_)
                  have tz65 := tn_add ez65 rfl kI_1 (by omega) (by omega)
                  refine lv_goto (tgt := 176) hx hb dX10_baseOf_170 (by decide) ?_
                  refine lv_goto (tgt := 16) hx hb dX10_baseOf_176 (by decide) ?_
                  have hiz10 : z10.toNatClampNeg = (v3.toInt - 1).toNat := by show z10.toInt.toNat = _; omega
                  have hiz47 : z47.toNatClampNeg = (v3.toInt - 1).toNat := by show z47.toInt.toNat = _; omega
                  have hiz61 : z61.toNatClampNeg = (v3.toInt - 1).toNat := by show z61.toInt.toNat = _; omega
                  rw [hiz10] at wz11
                  rw [hiz47] at wz48
                  rw [hiz61] at eF64
                  have hi9 : v3.toNatClampNeg = (v3.toInt - 1).toNat + 1 := by show v3.toInt.toNat = _; omega
                  rw [hiz61, eF59, up2_ne (by omega), eF57, up2_ne (by omega)] at wz62
                  have hP := BI_push (n := v3.toNatClampNeg) hex16 (by omega) (by show ((v3.toInt.toNat : Nat) : Int) = _; omega) eF57 eF59 eF64 (by rw [← wz62]; omega) (by omega) (by rw [← wz11]; omega) (by omega)
                  rw [show v3.toInt + 1 = z65.toInt by omega] at hP
                  have hP2 := hP.2
                  have hP3 := hP.1.1.le
                  exact ih16 F64 H locs ls z65 hG (lv_sub hl [3, 4, 0] rfl) (by omega) (by omega) (by first | exact hP.1 | exact hP) (by omega)
            · skip
              have ic43 := tn_nlt rfl kI_0 c43
              refine lv_iload_n hx hb dX10_baseOf_67 rfl (lv_at hl 4 rfl) ?_
              refine lv_iconst (v := 1) hx hb dX10_baseOf_68 (by decide) ?_
              refine lv_isub hx hb dX10_baseOf_69 ?_
              refine lv_topi (fun z66 ez66 => ?_)
              have tz66 := tn_sub ez66 rfl kI_1 (by omega) (by omega)
              refine lv_istore (lv' := [(6, .int z66), (5, .int r42), (4, .int z11), (0, .ref h0), (2, .int x2), (3, .int v3)]) hx hb dX10_baseOf_70 hl (by decide) rfl (fun ls hl => ?_)
              exact J72 ((z66.toInt + 1).toNat + 1) F H locs ls r42 z66 hG (lv_sub hl [3, 1, 0] rfl) (by omega) (by omega) (Nat.lt_succ_self _)
          · skip
            have ic41 := tn_eq rfl kI_0 c41
            refine lv_aload_n hx hb dX10_baseOf_45 rfl (lv_at hl 1 rfl) ?_
            refine lv_iload hx hb dX10_baseOf_46 (lv_at hl 0 rfl) ?_
            refine lv_bipush (v := 24) hx hb dX10_baseOf_48 (by decide) ?_
            refine lv_iconst (v := 1) hx hb dX10_baseOf_50 (by decide) ?_
            have k67 := kI_1
            refine mc_callv hG (mc_runV (As := [.int z11, .int 24, .int 1]) (rest := []) E hG (c_X10_put l G (σ, cu, kO mPB X F) h0 z11 (24 : Int32) (1 : Int32) t0 (by omega) (by omega) (by decide) (by decide) (0) (1) rfl (by omega) (by omega) (kn (PB_cu hcu _) (hA.2.2 _ _ (by omega) (by omega) (by decide) (by decide)))) t0 rfl kv_X10_put ml_X10_102 ⟨rfl, rfl, Nat.le_of_ble_eq_true rfl, Nat.le_of_ble_eq_true rfl⟩ rfl hl.1 rfl (Nat.le_of_ble_eq_true rfl) ⟨Nat.zero_le _, Nat.zero_le _⟩ dX10_baseOf_51) (fun H locs hG => ?_)
            refine lv_aload_n hx hb dX10_baseOf_54 rfl (lv_at hl 1 rfl) ?_
            refine lv_iload hx hb dX10_baseOf_55 (lv_at hl 0 rfl) ?_
            refine tc_callp (mc_runV (As := [.int z11]) (rest := []) E hG (c_X10_ownBase l G (σ, cu, kO mPB X F) h0 z11 t0 (by omega) (by omega)) t0 rfl kv_X10_ownBase ml_X10_209 ⟨rfl, rfl, Nat.le_of_ble_eq_true rfl, Nat.le_of_ble_eq_true rfl⟩ rfl hl.1 rfl (Nat.le_of_ble_eq_true rfl) ⟨Nat.zero_le _, Nat.zero_le _⟩ dX10_baseOf_57) (fun r68 pr68 => ?_)
            refine lv_istore (lv' := [(5, .int r68), (4, .int z11), (0, .ref h0), (2, .int x2), (3, .int v3)]) hx hb dX10_baseOf_60 hl (by decide) rfl (fun ls hl => ?_)
            refine lv_iload hx hb dX10_baseOf_62 (lv_at hl 0 rfl) ?_
            refine lv_if_lt (tgt := 104) hx hb dX10_baseOf_64 (by decide) (fun c69 => ?_) (fun c69 => ?_)
            · skip
              have ic69 := tn_lt rfl kI_0 c69
              refine lv_iload hx hb dX10_baseOf_104 (lv_at hl 0 rfl) ?_
              refine lv_bipush (v := -6) hx hb dX10_baseOf_106 (by decide) ?_
              refine lv_icmp_ne (tgt := 173) hx hb dX10_baseOf_108 (by decide) (fun c70 => ?_) (fun c70 => ?_)
              · skip
                have ic70 := tn_ne rfl kI_m6 c70
                obtain ⟨z71, ez71⟩ : ∃ y : Int32, y = v3 + (-1) := ⟨_, rfl⟩
                refine lv_iinc (v := z71) (lv' := [(3, .int z71), (5, .int r68), (4, .int z11), (0, .ref h0), (2, .int x2)]) hx hb dX10_baseOf_173 hl (k := 4) rfl (by rw [ez71]; rfl) (by decide) rfl (fun ls hl => ?_)
                have tz71 := tn_add ez71 rfl kI_m1 (by omega) (by omega)
                refine lv_goto (tgt := 16) hx hb dX10_baseOf_176 (by decide) ?_
                have hP := BI_pop hex16 (by omega)
                rw [show v3.toInt - 1 = z71.toInt by omega] at hP
                have hP2 := hP.2
                have hP3 := hP.1.1.le
                exact ih16 F H locs ls z71 hG (lv_sub hl [3, 4, 0] rfl) (by omega) (by omega) (by first | exact hP.1 | exact hP) (by omega)
              · skip
                have ic70 := tn_eq rfl kI_m6 c70
                refine lv_aload_n hx hb dX10_baseOf_111 rfl (lv_at hl 2 rfl) ?_
                refine mc_getr E hG t0 mr_36 dX10_baseOf_112 (fun oa72 hoa72 => ?_)
                refine lv_iload_n hx hb dX10_baseOf_115 rfl (lv_at hl 4 rfl) ?_
                refine lv_iconst (v := 1) hx hb dX10_baseOf_116 (by decide) ?_
                refine lv_isub hx hb dX10_baseOf_117 ?_
                refine lv_topi (fun z73 ez73 => ?_)
                have tz73 := tn_sub ez73 rfl kI_1 (by omega) (by omega)
                refine mc_iald E hG hoa72 ma_9 (t_in (by omega) (by omega)) dX10_baseOf_118 (fun z74 lz74 uz74 qz74 => ?_)
                have wz74 := kq qz74 (PB_9)
                refine lv_aload_n hx hb dX10_baseOf_119 rfl (lv_at hl 2 rfl) ?_
                refine lv_iload hx hb dX10_baseOf_120 (lv_at hl 1 rfl) ?_
                refine tc_callp (mc_runV (As := [.int z11]) (rest := [.int z74]) E hG (c_X10_manyOf l G (σ, cu, kO mPB X F) h0 z11 t0 (by omega) (by omega)) t0 rfl kv_X10_manyOf ml_X10_117 ⟨rfl, rfl, Nat.le_of_ble_eq_true rfl, Nat.le_of_ble_eq_true rfl⟩ rfl hl.1 rfl (Nat.le_of_ble_eq_true rfl) ⟨Nat.zero_le _, Nat.zero_le _⟩ dX10_baseOf_122) (fun r75 pr75 => ?_)
                replace pr75 : mV (σ, cu, kO mPB X F) (ix z11.toInt 10) r75 := pr75
                have br75 := mV_10 pr75 (by omega)
                have cr75 := mT pr75 (kO_TI (PB_tr hcu) hT) (by omega) (by omega) (by decide) (by decide)
                refine lv_icmp_ge (tgt := 173) hx hb dX10_baseOf_125 (by decide) (fun c76 => ?_) (fun c76 => ?_)
                · skip
                  have ic76 := tn_le rfl rfl c76
                  obtain ⟨z77, ez77⟩ : ∃ y : Int32, y = v3 + (-1) := ⟨_, rfl⟩
                  refine lv_iinc (v := z77) (lv' := [(3, .int z77), (5, .int r68), (4, .int z11), (0, .ref h0), (2, .int x2)]) hx hb dX10_baseOf_173 hl (k := 4) rfl (by rw [ez77]; rfl) (by decide) rfl (fun ls hl => ?_)
                  have tz77 := tn_add ez77 rfl kI_m1 (by omega) (by omega)
                  refine lv_goto (tgt := 16) hx hb dX10_baseOf_176 (by decide) ?_
                  have hP := BI_pop hex16 (by omega)
                  rw [show v3.toInt - 1 = z77.toInt by omega] at hP
                  have hP2 := hP.2
                  have hP3 := hP.1.1.le
                  exact ih16 F H locs ls z77 hG (lv_sub hl [3, 4, 0] rfl) (by omega) (by omega) (by first | exact hP.1 | exact hP) (by omega)
                · skip
                  have ic76 := tn_nle rfl rfl c76
                  refine lv_aload_n hx hb dX10_baseOf_128 rfl (lv_at hl 2 rfl) ?_
                  refine mc_getr E hG t0 mr_33 dX10_baseOf_129 (fun oa78 hoa78 => ?_)
                  refine lv_iload_n hx hb dX10_baseOf_132 rfl (lv_at hl 4 rfl) ?_
                  refine lv_aload_n hx hb dX10_baseOf_133 rfl (lv_at hl 2 rfl) ?_
                  refine lv_iload hx hb dX10_baseOf_134 (lv_at hl 1 rfl) ?_
                  refine lv_aload_n hx hb dX10_baseOf_136 rfl (lv_at hl 2 rfl) ?_
                  refine mc_getr E hG t0 mr_36 dX10_baseOf_137 (fun oa79 hoa79 => ?_)
                  refine lv_iload_n hx hb dX10_baseOf_140 rfl (lv_at hl 4 rfl) ?_
                  refine lv_iconst (v := 1) hx hb dX10_baseOf_141 (by decide) ?_
                  refine lv_isub hx hb dX10_baseOf_142 ?_
                  refine lv_topi (fun z80 ez80 => ?_)
                  have tz80 := tn_sub ez80 rfl kI_1 (by omega) (by omega)
                  refine mc_iald E hG hoa79 ma_9 (t_in (by omega) (by omega)) dX10_baseOf_143 (fun z81 lz81 uz81 qz81 => ?_)
                  have wz81 := kq qz81 (PB_9)
                  have hbq : z81.toInt = z74.toInt := by rw [wz81, wz74, show z80.toNatClampNeg = z73.toNatClampNeg by show z80.toInt.toNat = z73.toInt.toNat; omega]
                  refine tc_callp (mc_runV (As := [.int z11, .int z81]) (rest := [.int v3, .ref oa78]) E hG (c_X10_childOf l G (σ, cu, kO mPB X F) h0 z11 z81 t0 (by omega) (by omega) (by omega) (by omega)) t0 rfl kv_X10_childOf ml_X10_153 ⟨rfl, rfl, Nat.le_of_ble_eq_true rfl, Nat.le_of_ble_eq_true rfl⟩ rfl hl.1 rfl (Nat.le_of_ble_eq_true rfl) ⟨Nat.zero_le _, Nat.zero_le _⟩ dX10_baseOf_144) (fun r82 pr82 => ?_)
                  replace pr82 : mV (σ, cu, kO mPB X F) (ix z11.toInt (11 + z81.toInt)) r82 := pr82
                  have br82 := mV_r 11 18 0 23 pr82 (by omega) (by omega) (by omega) (by decide) (by decide)
                  have cr82 := mT pr82 (kO_TI (PB_tr hcu) hT) (by omega) (by omega) (by omega) (by omega)
                  have dr82 := mP11 cr82 hI (by omega) (by omega) (by omega)
                  refine mc_iastX E hG hoa78 ma_8.1 ma_8.2.1 (ma_8.2.2 _) (t_in (by omega) (by omega)) (by omega) (by omega) dX10_baseOf_147 (fun H locs hG => ?_)
                  have hG := kO_set (PB_8) hG
                  obtain ⟨F83, eF83⟩ : ∃ Z : mF, Z = up2 F 8 (v3).toNatClampNeg r82 := ⟨_, rfl⟩
                  rw [← eF83] at hG
                  refine lv_aload_n hx hb dX10_baseOf_148 rfl (lv_at hl 2 rfl) ?_
                  refine mc_getr E hG t0 mr_36 dX10_baseOf_149 (fun oa84 hoa84 => ?_)
                  refine lv_iload_n hx hb dX10_baseOf_152 rfl (lv_at hl 4 rfl) ?_
                  refine lv_iconst (v := 0) hx hb dX10_baseOf_153 (by decide) ?_
                  refine mc_iastX E hG hoa84 ma_9.1 ma_9.2.1 (ma_9.2.2 _) (t_in (by omega) (by omega)) (by decide) (by decide) dX10_baseOf_154 (fun H locs hG => ?_)
                  have hG := kO_set (PB_9) hG
                  obtain ⟨F85, eF85⟩ : ∃ Z : mF, Z = up2 F83 9 (v3).toNatClampNeg (0 : Int32) := ⟨_, rfl⟩
                  rw [← eF85] at hG
                  refine lv_aload_n hx hb dX10_baseOf_155 rfl (lv_at hl 2 rfl) ?_
                  refine mc_getr E hG t0 mr_36 dX10_baseOf_156 (fun oa86 hoa86 => ?_)
                  refine lv_iload_n hx hb dX10_baseOf_159 rfl (lv_at hl 4 rfl) ?_
                  refine lv_iconst (v := 1) hx hb dX10_baseOf_160 (by decide) ?_
                  refine lv_isub hx hb dX10_baseOf_161 ?_
                  refine lv_topi (fun z87 ez87 => ?_)
                  have tz87 := tn_sub ez87 rfl kI_1 (by omega) (by omega)
                  refine lv_dup2_11 hx hb dX10_baseOf_162 rfl rfl ?_
                  refine mc_iald E hG hoa86 ma_9 (t_in (by omega) (by omega)) dX10_baseOf_163 (fun z88 lz88 uz88 qz88 => ?_)
                  have wz88 := kq qz88 (PB_9)
                  have hbk : z88.toInt = z74.toInt := by
                    have hik : z87.toNatClampNeg = z73.toNatClampNeg := by show z87.toInt.toNat = z73.toInt.toNat; omega
                    have hin : ¬ z87.toNatClampNeg = v3.toNatClampNeg := by show ¬ z87.toInt.toNat = v3.toInt.toNat; omega
                    rw [wz88, eF85, up2_ne (fun q => hin q.2), eF83, up2_ne (by omega), hik, ← wz74]
                  refine lv_iconst (v := 1) hx hb dX10_baseOf_164 (by decide) ?_
                  refine lv_iadd hx hb dX10_baseOf_165 ?_
                  refine lv_topi (fun z89 ez89 => ?_)
                  have tz89 := tn_add ez89 rfl kI_1 (by omega) (by omega)
                  refine mc_iastX E hG hoa86 ma_9.1 ma_9.2.1 (ma_9.2.2 _) (t_in (by omega) (by omega)) (by omega) (by omega) dX10_baseOf_166 (fun H locs hG => ?_)
                  have hG := kO_set (PB_9) hG
                  obtain ⟨F90, eF90⟩ : ∃ Z : mF, Z = up2 F85 9 (z87).toNatClampNeg z89 := ⟨_, rfl⟩
                  rw [← eF90] at hG
                  obtain ⟨z91, ez91⟩ : ∃ y : Int32, y = v3 + (1) := ⟨_, rfl⟩
                  refine lv_iinc (v := z91) (lv' := [(3, .int z91), (5, .int r68), (4, .int z11), (0, .ref h0), (2, .int x2)]) hx hb dX10_baseOf_167 hl (k := 4) rfl (by rw [ez91]; rfl) (by decide) rfl (fun ls hl => ?_)
                  have tz91 := tn_add ez91 rfl kI_1 (by omega) (by omega)
                  refine lv_goto (tgt := 176) hx hb dX10_baseOf_170 (by decide) ?_
                  refine lv_goto (tgt := 16) hx hb dX10_baseOf_176 (by decide) ?_
                  have hiz10 : z10.toNatClampNeg = (v3.toInt - 1).toNat := by show z10.toInt.toNat = _; omega
                  have hiz73 : z73.toNatClampNeg = (v3.toInt - 1).toNat := by show z73.toInt.toNat = _; omega
                  have hiz87 : z87.toNatClampNeg = (v3.toInt - 1).toNat := by show z87.toInt.toNat = _; omega
                  rw [hiz10] at wz11
                  rw [hiz73] at wz74
                  rw [hiz87] at eF90
                  have hi9 : v3.toNatClampNeg = (v3.toInt - 1).toNat + 1 := by show v3.toInt.toNat = _; omega
                  rw [hiz87, eF85, up2_ne (by omega), eF83, up2_ne (by omega)] at wz88
                  have hP := BI_push (n := v3.toNatClampNeg) hex16 (by omega) (by show ((v3.toInt.toNat : Nat) : Int) = _; omega) eF83 eF85 eF90 (by rw [← wz88]; omega) (by omega) (by rw [← wz11]; omega) (by omega)
                  rw [show v3.toInt + 1 = z91.toInt by omega] at hP
                  have hP2 := hP.2
                  have hP3 := hP.1.1.le
                  exact ih16 F90 H locs ls z91 hG (lv_sub hl [3, 4, 0] rfl) (by omega) (by omega) (by first | exact hP.1 | exact hP) (by omega)
            · skip
              have ic69 := tn_nlt rfl kI_0 c69
              refine lv_iload_n hx hb dX10_baseOf_67 rfl (lv_at hl 4 rfl) ?_
              refine lv_iconst (v := 1) hx hb dX10_baseOf_68 (by decide) ?_
              refine lv_isub hx hb dX10_baseOf_69 ?_
              refine lv_topi (fun z92 ez92 => ?_)
              have tz92 := tn_sub ez92 rfl kI_1 (by omega) (by omega)
              refine lv_istore (lv' := [(6, .int z92), (5, .int r68), (4, .int z11), (0, .ref h0), (2, .int x2), (3, .int v3)]) hx hb dX10_baseOf_70 hl (by decide) rfl (fun ls hl => ?_)
              exact J72 ((z92.toInt + 1).toNat + 1) F H locs ls r68 z92 hG (lv_sub hl [3, 1, 0] rfl) (by omega) (by omega) (Nat.lt_succ_self _)
  refine lv_iconst (v := 1) hx hb dX10_baseOf_0 (by decide) ?_
  refine lv_istore_n (lv' := [(3, .int 1), (0, .ref h0), (1, .int x1), (2, .int x2)]) hx hb dX10_baseOf_1 rfl hl (by decide) rfl (fun ls hl => ?_)
  refine lv_aload_n hx hb dX10_baseOf_2 rfl (lv_at hl 1 rfl) ?_
  refine mc_getr E hG t0 mr_33 dX10_baseOf_3 (fun oa93 hoa93 => ?_)
  refine lv_iconst (v := 0) hx hb dX10_baseOf_6 (by decide) ?_
  refine lv_iload_n hx hb dX10_baseOf_7 rfl (lv_at hl 2 rfl) ?_
  refine mc_iastX E hG hoa93 ma_8.1 ma_8.2.1 (ma_8.2.2 _) (t_in (by decide) (by decide)) (by omega) (by omega) dX10_baseOf_8 (fun H locs hG => ?_)
  have hG := kO_set (PB_8) hG
  obtain ⟨F94, eF94⟩ : ∃ Z : mF, Z = up2 Fa 8 ((0 : Int32)).toNatClampNeg x1 := ⟨_, rfl⟩
  rw [← eF94] at hG
  refine lv_aload_n hx hb dX10_baseOf_9 rfl (lv_at hl 1 rfl) ?_
  refine mc_getr E hG t0 mr_36 dX10_baseOf_10 (fun oa95 hoa95 => ?_)
  refine lv_iconst (v := 0) hx hb dX10_baseOf_13 (by decide) ?_
  refine lv_iconst (v := 0) hx hb dX10_baseOf_14 (by decide) ?_
  refine mc_iastX E hG hoa95 ma_9.1 ma_9.2.1 (ma_9.2.2 _) (t_in (by decide) (by decide)) (by decide) (by decide) dX10_baseOf_15 (fun H locs hG => ?_)
  have hG := kO_set (PB_9) hG
  obtain ⟨F96, eF96⟩ : ∃ Z : mF, Z = up2 F94 9 ((0 : Int32)).toNatClampNeg (0 : Int32) := ⟨_, rfl⟩
  rw [← eF96] at hG
  have hP := BI_one (F := Fa) eF94 eF96 (by omega) (by omega)
  exact J16 (BM F96 (1 : Int32).toInt + 1) F96 H locs ls (1 : Int32) hG (lv_sub hl [1, 3, 0] rfl) (by decide) (by decide) (by first | exact hP.1 | exact hP) (Nat.lt_succ_self _)

