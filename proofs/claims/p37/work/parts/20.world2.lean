set_option maxHeartbeats 4000000 in
set_option maxRecDepth 100000 in
theorem c_X8_whoIsAt (l : Launch) (G : tG) (τ : Nat → Nat) : ∀ (d : Nat) (h0 : Nat) (h1 : Nat) (x2 : Int32) (x3 : Int32) (x4 : Int32) (x5 : Int32) (x6 : Int32) (t0 : τ h0 = 2) (t1 : τ h1 = 3) (l6 : 0 ≤ x6.toInt) (hd : (24 - x6.toInt).toNat < d), Met l yX8_whoIsAt (.code yX8_whoIsAt cX8_whoIsAt 11 (some .int) :: tWS) (tRm (1 * d + 4) (30 * d + 90)) (va_Pc [.ref h0, .ref h1, .int x2, .int x3, .int x4, .int x5, .int x6] (tPre G τ)) (tQi G τ (fun r => True)) 0 0 (tA τ) := by
  intro d
  induction d with
  | zero => intro h0 h1 x2 x3 x4 x5 x6 t0 t1 l6 hd; exact absurd hd (Nat.not_lt_zero _)
  | succ d ih =>
  intro h0 h1 x2 x3 x4 x5 x6 t0 t1 l6 hd
  refine tc_met (by decide) (Nat.le_of_ble_eq_true rfl) ?_
  intro p e s m below meth c E hSt hr hlk hG ls hl
  have hl : lv_has ls 11 [(0, .ref h0), (1, .ref h1), (2, .int x2), (3, .int x3), (4, .int x4), (5, .int x5), (6, .int x6)] := hl
  have hx := E.1
  have hb := E.2.1
  obtain ⟨H, eH⟩ : ∃ H, H = s.heap := ⟨_, rfl⟩
  obtain ⟨locs, eL⟩ : ∃ x : List Loc, x = [] := ⟨_, rfl⟩
  have hG : tGH G τ s H locs := by rw [eH, eL]; exact hG
  suffices hW : W p l e (tRm (1 * (d + 1) + 4) (30 * (d + 1) + 90)) s m ([.ref h0, .ref h1, .int x2, .int x3, .int x4, .int x5, .int x6] : List Value).toArray below meth c H locs 0 0 (MQ below (tQi G τ (fun r => True)) ([.ref h0, .ref h1, .int x2, .int x3, .int x4, .int x5, .int x6] : List Value).toArray s 0 0 (tA τ)) (F0 m 0 ls []) by subst eH; subst eL; exact hW
  clear eH eL
  have J82 : ∀ (n82 : Nat) (H : Heap) (locs : List Loc) (ls : Array Slot) (v7 : Int32) (v8 : Int32) (v9 : Int32), tGH G τ s H locs → lv_has ls 11 [(0, .ref h0), (1, .ref h1), (2, .int x2), (3, .int x3), (6, .int x6), (7, .int v7), (8, .int v8), (9, .int v9)] → x6.toInt ≤ 23 → -1 ≤ v9.toInt → v9.toInt ≤ 7 → (v9.toInt - (-1)).toNat < n82 → W p l e (tRm (1 * (d + 1) + 4) (30 * (d + 1) + 90)) s m ([.ref h0, .ref h1, .int x2, .int x3, .int x4, .int x5, .int x6] : List Value).toArray below meth c H locs 0 0 (MQ below (tQi G τ (fun r => True)) ([.ref h0, .ref h1, .int x2, .int x3, .int x4, .int x5, .int x6] : List Value).toArray s 0 0 (tA τ)) (F0 m 82 ls []) := by
    intro n82
    induction n82 with
    | zero => intro H locs ls v7 v8 v9 hG hl cp6 b9 c9 hn82; exact absurd hn82 (Nat.not_lt_zero _)
    | succ n82 ih82 =>
      intro H locs ls v7 v8 v9 hG hl cp6 b9 c9 hn82
      refine lv_iload hx hb dX8_whoIsAt_82 (lv_at hl 7 rfl) ?_
      refine lv_if_lt (tgt := 126) hx hb dX8_whoIsAt_84 (by decide) (fun c1 => ?_) (fun c1 => ?_)
      · skip
        have ic1 := tn_lt rfl kI_0 c1
        refine lv_aload_n hx hb dX8_whoIsAt_126 rfl (lv_at hl 1 rfl) ?_
        refine tc_geti E hG t1 fi_X8_119 dX8_whoIsAt_127 (fun z2 lz2 uz2 => ?_)
        exact tc_iret E hr hlk hG trivial dX8_whoIsAt_130
      · skip
        have ic1 := tn_nlt rfl kI_0 c1
        refine lv_aload_n hx hb dX8_whoIsAt_87 rfl (lv_at hl 0 rfl) ?_
        refine lv_aload_n hx hb dX8_whoIsAt_88 rfl (lv_at hl 0 rfl) ?_
        refine lv_aload_n hx hb dX8_whoIsAt_89 rfl (lv_at hl 1 rfl) ?_
        refine lv_iload hx hb dX8_whoIsAt_90 (lv_at hl 7 rfl) ?_
        refine tc_callpr (tc_runV (As := [.ref h1, .int v9]) (rest := [.ref h0]) E hSt hG (c_X8_kidOf l G τ h0 h1 v9 t0 t1 (by omega) (by omega)) t0 rv_2 kv_X8_kidOf ml_X8_128 (tRm_ok (by omega) (by omega)) rfl hl.1 rfl (Nat.le_of_ble_eq_true rfl) ⟨Nat.zero_le _, Nat.zero_le _⟩ dX8_whoIsAt_92) (fun r3 pr3 => ?_)
        refine lv_iload_n hx hb dX8_whoIsAt_95 rfl (lv_at hl 2 rfl) ?_
        refine lv_iload_n hx hb dX8_whoIsAt_96 rfl (lv_at hl 3 rfl) ?_
        refine lv_iload hx hb dX8_whoIsAt_97 (lv_at hl 5 rfl) ?_
        refine lv_iload hx hb dX8_whoIsAt_99 (lv_at hl 6 rfl) ?_
        refine lv_iload hx hb dX8_whoIsAt_101 (lv_at hl 4 rfl) ?_
        refine lv_iconst (v := 1) hx hb dX8_whoIsAt_103 (by decide) ?_
        refine lv_iadd hx hb dX8_whoIsAt_104 ?_
        refine lv_topi (fun z4 ez4 => ?_)
        have tz4 := tn_add ez4 rfl kI_1 (by omega) (by omega)
        refine tc_calli hG (tc_runV (As := [.ref r3, .int x2, .int x3, .int v7, .int v8, .int z4]) (rest := []) E hSt hG (ih h0 r3 x2 x3 v7 v8 z4 t0 pr3 (by omega) (by omega)) t0 rv_2 kv_X8_whoIsAt ml_X8_158 (tRm_ok (by omega) (by omega)) rfl hl.1 rfl (Nat.le_of_ble_eq_true rfl) ⟨Nat.zero_le _, Nat.zero_le _⟩ dX8_whoIsAt_105) (fun r5 H locs pr5 hG => ?_)
        refine lv_istore (lv' := [(10, .int r5), (0, .ref h0), (1, .ref h1), (2, .int x2), (3, .int x3), (6, .int x6), (7, .int v7), (8, .int v8), (9, .int v9)]) hx hb dX8_whoIsAt_108 hl (by decide) rfl (fun ls hl => ?_)
        refine lv_iload hx hb dX8_whoIsAt_110 (lv_at hl 0 rfl) ?_
        refine lv_bipush (v := -5) hx hb dX8_whoIsAt_112 (by decide) ?_
        refine lv_icmp_eq (tgt := 120) hx hb dX8_whoIsAt_114 (by decide) (fun c6 => ?_) (fun c6 => ?_)
        · skip
          have ic6 := tn_eq rfl kI_m5 c6
          obtain ⟨z7, ez7⟩ : ∃ y : Int32, y = v9 + (-1) := ⟨_, rfl⟩
          refine lv_iinc (v := z7) (lv' := [(9, .int z7), (10, .int r5), (0, .ref h0), (1, .ref h1), (2, .int x2), (3, .int x3), (6, .int x6), (7, .int v7), (8, .int v8)]) hx hb dX8_whoIsAt_120 hl (k := 8) rfl (by rw [ez7]; rfl) (by decide) rfl (fun ls hl => ?_)
          have tz7 := tn_add ez7 rfl kI_m1 (by omega) (by omega)
          refine lv_goto (tgt := 82) hx hb dX8_whoIsAt_123 (by decide) ?_
          exact ih82 H locs ls v7 v8 z7 hG (lv_sub hl [2, 3, 4, 5, 6, 7, 8, 0] rfl) (by omega) (by omega) (by omega) (by omega)
        · skip
          have ic6 := tn_ne rfl kI_m5 c6
          refine lv_iload hx hb dX8_whoIsAt_117 (lv_at hl 0 rfl) ?_
          exact tc_iret E hr hlk hG trivial dX8_whoIsAt_119
  refine lv_iload hx hb dX8_whoIsAt_0 (lv_at hl 4 rfl) ?_
  refine lv_aload_n hx hb dX8_whoIsAt_2 rfl (lv_at hl 1 rfl) ?_
  refine tc_getr E hG t1 fr_X8_132 dX8_whoIsAt_3 (fun oa8 hoa8 => ?_)
  refine tc_geti E hG hoa8 fi_X8_152 dX8_whoIsAt_6 (fun z9 _ _ => ?_)
  refine lv_iadd hx hb dX8_whoIsAt_9 ?_
  refine lv_topi (fun z10 ez10 => ?_)
  refine lv_istore (lv' := [(7, .int z10), (0, .ref h0), (1, .ref h1), (2, .int x2), (3, .int x3), (4, .int x4), (5, .int x5), (6, .int x6)]) hx hb dX8_whoIsAt_10 hl (by decide) rfl (fun ls hl => ?_)
  refine lv_iload hx hb dX8_whoIsAt_12 (lv_at hl 6 rfl) ?_
  refine lv_aload_n hx hb dX8_whoIsAt_14 rfl (lv_at hl 2 rfl) ?_
  refine tc_getr E hG t1 fr_X8_132 dX8_whoIsAt_15 (fun oa11 hoa11 => ?_)
  refine tc_geti E hG hoa11 fi_X8_155 dX8_whoIsAt_18 (fun z12 _ _ => ?_)
  refine lv_iadd hx hb dX8_whoIsAt_21 ?_
  refine lv_topi (fun z13 ez13 => ?_)
  refine lv_istore (lv' := [(8, .int z13), (7, .int z10), (0, .ref h0), (1, .ref h1), (2, .int x2), (3, .int x3), (4, .int x4), (5, .int x5), (6, .int x6)]) hx hb dX8_whoIsAt_22 hl (by decide) rfl (fun ls hl => ?_)
  refine lv_iload hx hb dX8_whoIsAt_24 (lv_at hl 8 rfl) ?_
  refine lv_bipush (v := 24) hx hb dX8_whoIsAt_26 (by decide) ?_
  refine lv_icmp_ge (tgt := 71) hx hb dX8_whoIsAt_28 (by decide) (fun c14 => ?_) (fun c14 => ?_)
  · skip
    have ic14 := tn_le kI_24 rfl c14
    refine lv_bipush (v := -5) hx hb dX8_whoIsAt_71 (by decide) ?_
    exact tc_iret E hr hlk hG trivial dX8_whoIsAt_73
  · skip
    have ic14 := tn_nle kI_24 rfl c14
    refine lv_iload_n hx hb dX8_whoIsAt_31 rfl (lv_at hl 4 rfl) ?_
    refine lv_iload hx hb dX8_whoIsAt_32 (lv_at hl 1 rfl) ?_
    refine lv_icmp_lt (tgt := 71) hx hb dX8_whoIsAt_34 (by decide) (fun c15 => ?_) (fun c15 => ?_)
    · skip
      have ic15 := tn_lt rfl rfl c15
      refine lv_bipush (v := -5) hx hb dX8_whoIsAt_71 (by decide) ?_
      exact tc_iret E hr hlk hG trivial dX8_whoIsAt_73
    · skip
      have ic15 := tn_nlt rfl rfl c15
      refine lv_iload_n hx hb dX8_whoIsAt_37 rfl (lv_at hl 4 rfl) ?_
      refine lv_iload hx hb dX8_whoIsAt_38 (lv_at hl 1 rfl) ?_
      refine lv_aload_n hx hb dX8_whoIsAt_40 rfl (lv_at hl 3 rfl) ?_
      refine tc_getr E hG t1 fr_X8_132 dX8_whoIsAt_41 (fun oa16 hoa16 => ?_)
      refine tc_geti E hG hoa16 fi_X8_162 dX8_whoIsAt_44 (fun z17 _ _ => ?_)
      refine lv_iadd hx hb dX8_whoIsAt_47 ?_
      refine lv_topi (fun z18 ez18 => ?_)
      refine lv_icmp_ge (tgt := 71) hx hb dX8_whoIsAt_48 (by decide) (fun c19 => ?_) (fun c19 => ?_)
      · skip
        have ic19 := tn_le rfl rfl c19
        refine lv_bipush (v := -5) hx hb dX8_whoIsAt_71 (by decide) ?_
        exact tc_iret E hr hlk hG trivial dX8_whoIsAt_73
      · skip
        have ic19 := tn_nle rfl rfl c19
        refine lv_iload_n hx hb dX8_whoIsAt_51 rfl (lv_at hl 5 rfl) ?_
        refine lv_iload hx hb dX8_whoIsAt_52 (lv_at hl 0 rfl) ?_
        refine lv_icmp_lt (tgt := 71) hx hb dX8_whoIsAt_54 (by decide) (fun c20 => ?_) (fun c20 => ?_)
        · skip
          have ic20 := tn_lt rfl rfl c20
          refine lv_bipush (v := -5) hx hb dX8_whoIsAt_71 (by decide) ?_
          exact tc_iret E hr hlk hG trivial dX8_whoIsAt_73
        · skip
          have ic20 := tn_nlt rfl rfl c20
          refine lv_iload_n hx hb dX8_whoIsAt_57 rfl (lv_at hl 5 rfl) ?_
          refine lv_iload hx hb dX8_whoIsAt_58 (lv_at hl 0 rfl) ?_
          refine lv_aload_n hx hb dX8_whoIsAt_60 rfl (lv_at hl 3 rfl) ?_
          refine tc_getr E hG t1 fr_X8_132 dX8_whoIsAt_61 (fun oa21 hoa21 => ?_)
          refine tc_geti E hG hoa21 fi_X8_165 dX8_whoIsAt_64 (fun z22 _ _ => ?_)
          refine lv_iadd hx hb dX8_whoIsAt_67 ?_
          refine lv_topi (fun z23 ez23 => ?_)
          refine lv_icmp_lt (tgt := 74) hx hb dX8_whoIsAt_68 (by decide) (fun c24 => ?_) (fun c24 => ?_)
          · skip
            have ic24 := tn_lt rfl rfl c24
            refine lv_aload_n hx hb dX8_whoIsAt_74 rfl (lv_at hl 3 rfl) ?_
            refine tc_geti E hG t1 fi_X8_59 dX8_whoIsAt_75 (fun z25 lz25 uz25 => ?_)
            refine lv_iconst (v := 1) hx hb dX8_whoIsAt_78 (by decide) ?_
            refine lv_isub hx hb dX8_whoIsAt_79 ?_
            refine lv_topi (fun z26 ez26 => ?_)
            have tz26 := tn_sub ez26 rfl kI_1 (by omega) (by omega)
            refine lv_istore (lv' := [(9, .int z26), (8, .int z13), (7, .int z10), (0, .ref h0), (1, .ref h1), (2, .int x2), (3, .int x3), (4, .int x4), (5, .int x5), (6, .int x6)]) hx hb dX8_whoIsAt_80 hl (by decide) rfl (fun ls hl => ?_)
            exact J82 ((z26.toInt - (-1)).toNat + 1) H locs ls z10 z13 z26 hG (lv_sub hl [3, 4, 5, 6, 9, 2, 1, 0] rfl) (by omega) (by omega) (by omega) (Nat.lt_succ_self _)
          · skip
            have ic24 := tn_nlt rfl rfl c24
            refine lv_bipush (v := -5) hx hb dX8_whoIsAt_71 (by decide) ?_
            exact tc_iret E hr hlk hG trivial dX8_whoIsAt_73

set_option maxHeartbeats 4000000 in
set_option maxRecDepth 100000 in
theorem c_X8_whoIsAtPoint (l : Launch) (G : tG) (τ : Nat → Nat) (h0 : Nat) (x1 : Int32) (x2 : Int32) (t0 : τ h0 = 2) : Met l yX8_whoIsAtPoint (.code yX8_whoIsAtPoint cX8_whoIsAtPoint 3 (some .int) :: tWS) (tRm 30 870) (va_Pc [.ref h0, .int x1, .int x2] (tPre G τ)) (tQi G τ (fun r => True)) 0 0 (tA τ) := by
  refine tc_met (by decide) (Nat.le_of_ble_eq_true rfl) ?_
  intro p e s m below meth c E hSt hr hlk hG ls hl
  have hl : lv_has ls 3 [(0, .ref h0), (1, .int x1), (2, .int x2)] := hl
  have hx := E.1
  have hb := E.2.1
  obtain ⟨H, eH⟩ : ∃ H, H = s.heap := ⟨_, rfl⟩
  obtain ⟨locs, eL⟩ : ∃ x : List Loc, x = [] := ⟨_, rfl⟩
  have hG : tGH G τ s H locs := by rw [eH, eL]; exact hG
  suffices hW : W p l e (tRm 30 870) s m ([.ref h0, .int x1, .int x2] : List Value).toArray below meth c H locs 0 0 (MQ below (tQi G τ (fun r => True)) ([.ref h0, .int x1, .int x2] : List Value).toArray s 0 0 (tA τ)) (F0 m 0 ls []) by subst eH; subst eL; exact hW
  clear eH eL
  refine lv_aload_n hx hb dX8_whoIsAtPoint_0 rfl (lv_at hl 0 rfl) ?_
  refine lv_aload_n hx hb dX8_whoIsAtPoint_1 rfl (lv_at hl 0 rfl) ?_
  refine tc_getiS E hG t0 fi_X8_24 dX8_whoIsAtPoint_2 (fun z1 lz1 uz1 fv2 => ?_)
  have fv2 := fv2 _ rfl
  refine tc_callp (tc_runV (As := [.int z1]) (rest := []) E hSt hG (c_X8_has l G τ h0 z1 t0) t0 rv_2 kv_X8_has ml_X8_55 ⟨rfl, rfl, Nat.le_of_ble_eq_true rfl, Nat.le_of_ble_eq_true rfl⟩ rfl hl.1 rfl (Nat.le_of_ble_eq_true rfl) ⟨Nat.zero_le _, Nat.zero_le _⟩ dX8_whoIsAtPoint_5) (fun r3 pr3 => ?_)
  have pr3 : (0 ≤ r3.toInt ∧ r3.toInt ≤ 1) ∧ (r3.toInt = 0 ∨ (0 ≤ z1.toInt ∧ z1.toInt ≤ 23)) := pr3
  refine lv_if_eq (tgt := 32) hx hb dX8_whoIsAtPoint_8 (by decide) (fun c4 => ?_) (fun c4 => ?_)
  · skip
    have ic4 := tn_eq rfl kI_0 c4
    refine lv_bipush (v := -5) hx hb dX8_whoIsAtPoint_32 (by decide) ?_
    exact tc_iret E hr hlk hG trivial dX8_whoIsAtPoint_34
  · skip
    have ic4 := tn_ne rfl kI_0 c4
    refine lv_aload_n hx hb dX8_whoIsAtPoint_11 rfl (lv_at hl 0 rfl) ?_
    refine lv_aload_n hx hb dX8_whoIsAtPoint_12 rfl (lv_at hl 0 rfl) ?_
    refine tc_getrS E hG t0 fr_X8_11 dX8_whoIsAtPoint_13 (fun oa5 hoa5 fv6 => ?_)
    have fv6 := fv6 _ rfl
    refine lv_aload_n hx hb dX8_whoIsAtPoint_16 rfl (lv_at hl 0 rfl) ?_
    refine tc_seen E ff_X8_24 fv2 dX8_whoIsAtPoint_17 ?_
    refine tc_aald3S E hG hoa5 ta_10 (t_in (by omega) (by omega)) dX8_whoIsAtPoint_20 (fun oa7 hoa7 fv8 => ?_)
    refine lv_iload_n hx hb dX8_whoIsAtPoint_21 rfl (lv_at hl 1 rfl) ?_
    refine lv_iload_n hx hb dX8_whoIsAtPoint_22 rfl (lv_at hl 2 rfl) ?_
    refine lv_iconst (v := 0) hx hb dX8_whoIsAtPoint_23 (by decide) ?_
    refine lv_iconst (v := 0) hx hb dX8_whoIsAtPoint_24 (by decide) ?_
    refine lv_iconst (v := 0) hx hb dX8_whoIsAtPoint_25 (by decide) ?_
    refine tc_calli hG (tc_runV (As := [.ref oa7, .int x1, .int x2, .int 0, .int 0, .int 0]) (rest := []) E hSt hG (c_X8_whoIsAt l G τ 25 h0 oa7 x1 x2 (0 : Int32) (0 : Int32) (0 : Int32) t0 hoa7 (by decide) (by first | decide | omega)) t0 rv_2 kv_X8_whoIsAt ml_X8_158 ⟨rfl, rfl, Nat.le_of_ble_eq_true rfl, Nat.le_of_ble_eq_true rfl⟩ rfl hl.1 rfl (Nat.le_of_ble_eq_true rfl) ⟨Nat.zero_le _, Nat.zero_le _⟩ dX8_whoIsAtPoint_26) (fun r9 H locs pr9 hG => ?_)
    refine lv_goto (tgt := 34) hx hb dX8_whoIsAtPoint_29 (by decide) ?_
    exact tc_iret E hr hlk hG trivial dX8_whoIsAtPoint_34

set_option maxHeartbeats 4000000 in
set_option maxRecDepth 100000 in
theorem c_J7_fill_d0a16 (l : Launch) (G : tG) (τ : Nat → Nat) (h0 : Nat) (x1 : Int64) (t0 : τ h0 = 21) : Met l yJ7_fill_d0a16 (.code yJ7_fill_d0a16 cJ7_fill_d0a16 5 none :: tWS) (tRm 0 0) (va_Pc [.ref h0, .long x1] (tPre G τ)) (tQv G τ) 0 0 (tA τ) := by
  refine tc_met (by decide) (Nat.le_of_ble_eq_true rfl) ?_
  intro p e s m below meth c E hSt hr hlk hG ls hl
  have hl : lv_has ls 5 [(0, .ref h0), (1, .long x1)] := hl
  have hx := E.1
  have hb := E.2.1
  obtain ⟨H, eH⟩ : ∃ H, H = s.heap := ⟨_, rfl⟩
  obtain ⟨locs, eL⟩ : ∃ x : List Loc, x = [] := ⟨_, rfl⟩
  have hG : tGH G τ s H locs := by rw [eH, eL]; exact hG
  suffices hW : W p l e (tRm 0 0) s m ([.ref h0, .long x1] : List Value).toArray below meth c H locs 0 0 (MQ below (tQv G τ) ([.ref h0, .long x1] : List Value).toArray s 0 0 (tA τ)) (F0 m 0 ls []) by subst eH; subst eL; exact hW
  clear eH eL
  have J6 : ∀ (n6 : Nat) (H : Heap) (locs : List Loc) (ls : Array Slot) (v3 : Int32) (v4 : Int32), tGH G τ s H locs → lv_has ls 5 [(0, .ref h0), (1, .long x1), (3, .int v3), (4, .int v4)] → 0 ≤ v3.toInt → v3.toInt ≤ 60 → 60 ≤ v4.toInt → v4.toInt ≤ 60 → (60 - v3.toInt).toNat < n6 → W p l e (tRm 0 0) s m ([.ref h0, .long x1] : List Value).toArray below meth c H locs 0 0 (MQ below (tQv G τ) ([.ref h0, .long x1] : List Value).toArray s 0 0 (tA τ)) (F0 m 6 ls []) := by
    intro n6
    induction n6 with
    | zero => intro H locs ls v3 v4 hG hl b3 c3 b4 c4 hn6; exact absurd hn6 (Nat.not_lt_zero _)
    | succ n6 ih6 =>
      intro H locs ls v3 v4 hG hl b3 c3 b4 c4 hn6
      refine lv_iload_n hx hb dJ7_fill_d0a16_6 rfl (lv_at hl 2 rfl) ?_
      refine lv_iload hx hb dJ7_fill_d0a16_7 (lv_at hl 3 rfl) ?_
      refine lv_icmp_ge (tgt := 22) hx hb dJ7_fill_d0a16_9 (by decide) (fun c1 => ?_) (fun c1 => ?_)
      · skip
        have ic1 := tn_le rfl rfl c1
        exact tc_vret E hr hlk hG dJ7_fill_d0a16_22
      · skip
        have ic1 := tn_nle rfl rfl c1
        refine lv_aload_n hx hb dJ7_fill_d0a16_12 rfl (lv_at hl 0 rfl) ?_
        refine lv_iload_n hx hb dJ7_fill_d0a16_13 rfl (lv_at hl 2 rfl) ?_
        refine lv_lload_n hx hb dJ7_fill_d0a16_14 rfl (lv_at hl 1 rfl) ?_
        refine tc_last E hG t0 ta_21 (t_in (by omega) (by omega)) dJ7_fill_d0a16_15 (fun H locs hG  => ?_)
        obtain ⟨z2, ez2⟩ : ∃ y : Int32, y = v3 + (1) := ⟨_, rfl⟩
        refine lv_iinc (v := z2) (lv' := [(3, .int z2), (0, .ref h0), (1, .long x1), (4, .int v4)]) hx hb dJ7_fill_d0a16_16 hl (k := 2) rfl (by rw [ez2]; rfl) (by decide) rfl (fun ls hl => ?_)
        have tz2 := tn_add ez2 rfl kI_1 (by omega) (by omega)
        refine lv_goto (tgt := 6) hx hb dJ7_fill_d0a16_19 (by decide) ?_
        exact ih6 H locs ls z2 v4 hG (lv_sub hl [1, 2, 0, 3] rfl) (by omega) (by omega) (by omega) (by omega) (by omega)
  refine lv_iconst (v := 0) hx hb dJ7_fill_d0a16_0 (by decide) ?_
  refine lv_istore_n (lv' := [(3, .int 0), (0, .ref h0), (1, .long x1)]) hx hb dJ7_fill_d0a16_1 rfl hl (by decide) rfl (fun ls hl => ?_)
  refine lv_aload_n hx hb dJ7_fill_d0a16_2 rfl (lv_at hl 1 rfl) ?_
  refine tc_alen E hG t0 ta_21 rfl (v := 60) (by decide) dJ7_fill_d0a16_3 ?_
  refine lv_istore (lv' := [(4, .int 60), (3, .int 0), (0, .ref h0), (1, .long x1)]) hx hb dJ7_fill_d0a16_4 hl (by decide) rfl (fun ls hl => ?_)
  exact J6 ((60 - (0 : Int32).toInt).toNat + 1) H locs ls (0 : Int32) (60 : Int32) hG (lv_sub hl [2, 3, 1, 0] rfl) (by decide) (by decide) (by decide) (by decide) (Nat.lt_succ_self _)

set_option maxHeartbeats 4000000 in
set_option maxRecDepth 100000 in
theorem c_X6_clearTo (l : Launch) (G : tG) (τ : Nat → Nat) (h0 : Nat) (x1 : Int32) (x2 : Int32) (t0 : τ h0 = 9) (l2 : 0 ≤ x2.toInt) (u2 : x2.toInt ≤ 60) : Met l yX6_clearTo (.code yX6_clearTo cX6_clearTo 3 none :: tWS) (tRm 1 24) (va_Pc [.ref h0, .int x1, .int x2] (tPre G τ)) (tQv G τ) 0 0 (tA τ) := by
  refine tc_met (by decide) (Nat.le_of_ble_eq_true rfl) ?_
  intro p e s m below meth c E hSt hr hlk hG ls hl
  have hl : lv_has ls 3 [(0, .ref h0), (1, .int x1), (2, .int x2)] := hl
  have hx := E.1
  have hb := E.2.1
  obtain ⟨H, eH⟩ : ∃ H, H = s.heap := ⟨_, rfl⟩
  obtain ⟨locs, eL⟩ : ∃ x : List Loc, x = [] := ⟨_, rfl⟩
  have hG : tGH G τ s H locs := by rw [eH, eL]; exact hG
  suffices hW : W p l e (tRm 1 24) s m ([.ref h0, .int x1, .int x2] : List Value).toArray below meth c H locs 0 0 (MQ below (tQv G τ) ([.ref h0, .int x1, .int x2] : List Value).toArray s 0 0 (tA τ)) (F0 m 0 ls []) by subst eH; subst eL; exact hW
  clear eH eL
  refine lv_aload_n hx hb dX6_clearTo_0 rfl (lv_at hl 0 rfl) ?_
  refine lv_iload_n hx hb dX6_clearTo_1 rfl (lv_at hl 1 rfl) ?_
  refine tc_puti E hG t0 fp_X6_15 (t_any1 _) (t_any2 _) dX6_clearTo_2 (fun H locs hG => ?_)
  refine lv_aload_n hx hb dX6_clearTo_5 rfl (lv_at hl 0 rfl) ?_
  refine lv_iload_n hx hb dX6_clearTo_6 rfl (lv_at hl 2 rfl) ?_
  refine tc_puti E hG t0 fp_X6_19 (by omega) (by omega) dX6_clearTo_7 (fun H locs hG => ?_)
  refine lv_aload_n hx hb dX6_clearTo_10 rfl (lv_at hl 0 rfl) ?_
  refine tc_getr E hG t0 fr_X6_9 dX6_clearTo_11 (fun oa1 hoa1 => ?_)
  refine lv_lconst (v := 0) hx hb dX6_clearTo_14 (by decide) ?_
  refine tc_callv hG (tc_runS (As := [.ref oa1, .long 0]) (rest := []) E hSt hG (c_J7_fill_d0a16 l G τ oa1 (0 : Int64) hoa1) ks_J7_fill_d0a16 ml_X6_22 ⟨rfl, rfl, Nat.le_of_ble_eq_true rfl, Nat.le_of_ble_eq_true rfl⟩ rfl hl.1 rfl (Nat.le_of_ble_eq_true rfl) ⟨Nat.zero_le _, Nat.zero_le _⟩ dX6_clearTo_15) (fun H locs hG => ?_)
  exact tc_vret E hr hlk hG dX6_clearTo_18
