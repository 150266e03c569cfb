set_option maxHeartbeats 4000000 in
set_option maxRecDepth 100000 in
theorem f_X5_faultOf {p : Program} {l : Launch} {e : Env} {s : State} {m : MethodId} {args : Array Value} {below : List Frame} {meth : Method} {c : Code} {Q : State → Prop} {G : tG} {τ : Nat → Nat} (h0 : Nat) (h1 : Nat) (x2 : Int32) (x3 : Int32) (E : tE G p s m c args RX5 cX5_faultOf 6) (hSt : tSt G (tA τ) s) (t0 : τ h0 = 22) (t1 : τ h1 = 18) (l2 : 0 ≤ x2.toInt) (u2 : x2.toInt ≤ 120) (hret : ∀ (pc : Nat) (ls : Array Slot) (v : Int32) (H : Heap) (locs : List Loc), decode cX5_faultOf pc = .ok (.ireturn, 1) → tGH G τ s H locs → W p l e (tRm 7 156) s m args below meth c H locs 0 0 Q (F0 m pc ls [.int v])) (H : Heap) (locs : List Loc) (ls : Array Slot) (hG : tGH G τ s H locs) (hl : lv_has ls 6 [(0, .ref h0), (1, .ref h1), (2, .int x2), (3, .int x3)]) : W p l e (tRm 7 156) s m args below meth c H locs 0 0 (Q) (F0 m 5 ls []) := by
  have hx := E.1
  have hb := E.2.1
  have J41 : ∀ (n41 : Nat) (H : Heap) (locs : List Loc) (ls : Array Slot) (v4 : Int32) (v5 : Int32), tGH G τ s H locs → lv_has ls 6 [(0, .ref h0), (4, .int v4), (5, .int v5)] → -1 ≤ v4.toInt → v4.toInt ≤ 23 → 0 ≤ v5.toInt → v5.toInt ≤ 24 → (24 - v5.toInt).toNat < n41 → W p l e (tRm 7 156) s m args below meth c H locs 0 0 (Q) (F0 m 41 ls []) := by
    intro n41
    induction n41 with
    | zero => intro H locs ls v4 v5 hG hl b4 c4 b5 c5 hn41; exact absurd hn41 (Nat.not_lt_zero _)
    | succ n41 ih41 =>
      intro H locs ls v4 v5 hG hl b4 c4 b5 c5 hn41
      refine lv_iload hx hb dX5_faultOf_41 (lv_at hl 2 rfl) ?_
      refine lv_bipush (v := 24) hx hb dX5_faultOf_43 (by decide) ?_
      refine lv_icmp_ge (tgt := 107) hx hb dX5_faultOf_45 (by decide) (fun c1 => ?_) (fun c1 => ?_)
      · skip
        have ic1 := tn_le kI_24 rfl c1
        refine lv_aload_n hx hb dX5_faultOf_107 rfl (lv_at hl 0 rfl) ?_
        refine tc_getiS E hG t0 fiw_X5_46 dX5_faultOf_108 (fun z2 lz2 uz2 fv3 => ?_)
        have fv3 := fv3 _ rfl
        exact hret _ _ _ _ _ dX5_faultOf_111 hG
      · skip
        have ic1 := tn_nle kI_24 rfl c1
        refine lv_aload_n hx hb dX5_faultOf_48 rfl (lv_at hl 0 rfl) ?_
        refine lv_iload hx hb dX5_faultOf_49 (lv_at hl 1 rfl) ?_
        obtain ⟨gc4, lgc4, ugc4, fgc4⟩ := tc_look hG t0 fiw_X5_49
        have fgc4 := fgc4 _ rfl
        refine tc_calliH hG (tc_runVH (As := [.int v4]) (rest := []) E hSt hG (c_X5_readBox l G τ h0 v4 t0 (by omega) (by omega) gc4 (by omega) (by omega)) (fgc4) t0 rv_22 kv_X5_readBox ml_X5_56 ⟨rfl, rfl, Nat.le_of_ble_eq_true rfl, Nat.le_of_ble_eq_true rfl⟩ rfl hl.1 rfl (Nat.le_of_ble_eq_true rfl) ⟨Nat.zero_le _, Nat.zero_le _⟩ dX5_faultOf_51) (fun r5 H locs pr5 hG => ?_)
        have pr5 : (0 ≤ r5.toInt ∧ r5.toInt ≤ 1) ∧ ∃ n : Int32, tSl G H h0 4 5 (.int n) ∧ 0 ≤ n.toInt ∧ n.toInt ≤ 24 ∧ (r5.toInt = 0 ∨ 1 ≤ n.toInt) := pr5
        obtain ⟨n6, fn6, ln6, un6, on6⟩ := pr5.2
        have ppr5 := pr5.1
        refine lv_if_ne (tgt := 62) hx hb dX5_faultOf_54 (by decide) (fun c7 => ?_) (fun c7 => ?_)
        · skip
          have ic7 := tn_ne rfl kI_0 c7
          refine lv_aload_n hx hb dX5_faultOf_62 rfl (lv_at hl 0 rfl) ?_
          refine tc_calliH hG (tc_runVH (As := []) (rest := []) E hSt hG (c_X5_parentOfNext l G τ h0 t0 n6 (by omega) (by omega) (by omega)) (fn6) t0 rv_22 kv_X5_parentOfNext ml_X5_60 ⟨rfl, rfl, Nat.le_of_ble_eq_true rfl, Nat.le_of_ble_eq_true rfl⟩ rfl hl.1 rfl (Nat.le_of_ble_eq_true rfl) ⟨Nat.zero_le _, Nat.zero_le _⟩ dX5_faultOf_63) (fun r8 H locs pr8 hG => ?_)
          have pr8 : (-1 ≤ r8.toInt ∧ r8.toInt ≤ 23) ∧ tSl G H h0 4 5 (.int n6) := pr8
          have fv9 := pr8.2
          refine lv_istore (lv' := [(4, .int r8), (0, .ref h0), (5, .int v5)]) hx hb dX5_faultOf_66 hl (by decide) rfl (fun ls hl => ?_)
          refine lv_iload hx hb dX5_faultOf_68 (lv_at hl 0 rfl) ?_
          refine lv_iconst (v := -1) hx hb dX5_faultOf_70 (by decide) ?_
          refine lv_icmp_ne (tgt := 101) hx hb dX5_faultOf_71 (by decide) (fun c10 => ?_) (fun c10 => ?_)
          · skip
            have ic10 := tn_ne rfl kI_m1 c10
            obtain ⟨z11, ez11⟩ : ∃ y : Int32, y = v5 + (1) := ⟨_, rfl⟩
            refine lv_iinc (v := z11) (lv' := [(5, .int z11), (4, .int r8), (0, .ref h0)]) hx hb dX5_faultOf_101 hl (k := 2) rfl (by rw [ez11]; rfl) (by decide) rfl (fun ls hl => ?_)
            have tz11 := tn_add ez11 rfl kI_1 (by omega) (by omega)
            refine lv_goto (tgt := 41) hx hb dX5_faultOf_104 (by decide) ?_
            exact ih41 H locs ls r8 z11 hG (lv_sub hl [2, 1, 0] rfl) (by omega) (by omega) (by omega) (by omega) (by omega)
          · skip
            have ic10 := tn_eq rfl kI_m1 c10
            refine lv_aload_n hx hb dX5_faultOf_74 rfl (lv_at hl 1 rfl) ?_
            refine tc_getiS E hG t0 fiw_X5_52 dX5_faultOf_75 (fun z12 lz12 uz12 fv13 => ?_)
            have fv13 := fv13 _ rfl
            refine lv_if_eq (tgt := 96) hx hb dX5_faultOf_78 (by decide) (fun c14 => ?_) (fun c14 => ?_)
            · skip
              have ic14 := tn_eq rfl kI_0 c14
              refine lv_aload_n hx hb dX5_faultOf_96 rfl (lv_at hl 1 rfl) ?_
              refine tc_getiS E hG t0 fiw_X5_46 dX5_faultOf_97 (fun z15 lz15 uz15 fv16 => ?_)
              have fv16 := fv16 _ rfl
              exact hret _ _ _ _ _ dX5_faultOf_100 hG
            · skip
              have ic14 := tn_ne rfl kI_0 c14
              refine lv_aload_n hx hb dX5_faultOf_81 rfl (lv_at hl 1 rfl) ?_
              refine tc_getiS E hG t0 fiw_X5_46 dX5_faultOf_82 (fun z17 lz17 uz17 fv18 => ?_)
              have fv18 := fv18 _ rfl
              refine lv_aload_n hx hb dX5_faultOf_85 rfl (lv_at hl 1 rfl) ?_
              refine tc_getiS E hG t0 fiw_X5_39 dX5_faultOf_86 (fun z19 lz19 uz19 fv20 => ?_)
              have fv20 := fv20 _ rfl
              refine lv_icmp_ne (tgt := 96) hx hb dX5_faultOf_89 (by decide) (fun c21 => ?_) (fun c21 => ?_)
              · skip
                have ic21 := tn_ne rfl rfl c21
                refine lv_aload_n hx hb dX5_faultOf_96 rfl (lv_at hl 1 rfl) ?_
                refine tc_seen E ff_X5_46 fv18 dX5_faultOf_97 ?_
                exact hret _ _ _ _ _ dX5_faultOf_100 hG
              · skip
                have ic21 := tn_eq rfl rfl c21
                refine lv_iconst (v := -1) hx hb dX5_faultOf_92 (by decide) ?_
                refine lv_goto (tgt := 100) hx hb dX5_faultOf_93 (by decide) ?_
                exact hret _ _ _ _ _ dX5_faultOf_100 hG
        · skip
          have ic7 := tn_eq rfl kI_0 c7
          refine lv_aload_n hx hb dX5_faultOf_57 rfl (lv_at hl 0 rfl) ?_
          refine tc_getiS E hG t0 fiw_X5_46 dX5_faultOf_58 (fun z22 lz22 uz22 fv23 => ?_)
          have fv23 := fv23 _ rfl
          exact hret _ _ _ _ _ dX5_faultOf_61 hG
  refine lv_aload_n hx hb dX5_faultOf_5 rfl (lv_at hl 0 rfl) ?_
  refine lv_iload_n hx hb dX5_faultOf_6 rfl (lv_at hl 2 rfl) ?_
  refine lv_aload_n hx hb dX5_faultOf_7 rfl (lv_at hl 1 rfl) ?_
  refine tc_alen E hG t1 ta_18 rfl (v := 120) (by decide) dX5_faultOf_8 ?_
  refine tc_min (rest := [.ref h0]) E hl.1 ml_X5_33 kn_min1 kn_math kn_min2 ⟨Nat.le_of_ble_eq_true rfl, Nat.le_of_ble_eq_true rfl⟩ ⟨Nat.zero_le _, Nat.zero_le _⟩ dX5_faultOf_9 (fun z24 ez24 => ?_)
  have tz24 := tn_min ez24
  have kk25_ := kI_120
  refine tc_putS E hG t0 fpw_X5_39 (by omega) (by omega) rfl rfl dX5_faultOf_12 (fun H locs hG oq27 sl26 => ?_)
  have fv28 := (sl26 _ rfl).1
  refine lv_aload_n hx hb dX5_faultOf_15 rfl (lv_at hl 0 rfl) ?_
  refine lv_iload_n hx hb dX5_faultOf_16 rfl (lv_at hl 3 rfl) ?_
  refine tc_putS E hG t0 fpw_X5_43 (t_any1 _) (t_any2 _) rfl rfl dX5_faultOf_17 (fun H locs hG oq30 sl29 => ?_)
  have fv31 := (sl29 _ rfl).2 _ _ _ _ ff_X5_39 (by decide) fv28
  have fv32 := (sl29 _ rfl).1
  refine lv_aload_n hx hb dX5_faultOf_20 rfl (lv_at hl 0 rfl) ?_
  refine lv_iconst (v := 0) hx hb dX5_faultOf_21 (by decide) ?_
  refine tc_putS E hG t0 fpw_X5_46 (by decide) (by decide) rfl rfl dX5_faultOf_22 (fun H locs hG oq34 sl33 => ?_)
  have fv35 := (sl33 _ rfl).2 _ _ _ _ ff_X5_39 (by decide) fv31
  have fv36 := (sl33 _ rfl).2 _ _ _ _ ff_X5_43 (by decide) fv32
  have fv37 := (sl33 _ rfl).1
  refine lv_aload_n hx hb dX5_faultOf_25 rfl (lv_at hl 0 rfl) ?_
  refine lv_iconst (v := 0) hx hb dX5_faultOf_26 (by decide) ?_
  refine tc_putS E hG t0 fpw_X5_49 (by decide) (by decide) rfl rfl dX5_faultOf_27 (fun H locs hG oq39 sl38 => ?_)
  have fv40 := (sl38 _ rfl).2 _ _ _ _ ff_X5_39 (by decide) fv35
  have fv41 := (sl38 _ rfl).2 _ _ _ _ ff_X5_43 (by decide) fv36
  have fv42 := (sl38 _ rfl).2 _ _ _ _ ff_X5_46 (by decide) fv37
  have fv43 := (sl38 _ rfl).1
  refine lv_aload_n hx hb dX5_faultOf_30 rfl (lv_at hl 0 rfl) ?_
  refine lv_iconst (v := 0) hx hb dX5_faultOf_31 (by decide) ?_
  refine tc_putS E hG t0 fpw_X5_52 (by decide) (by decide) (t_nz (by decide) (by decide)).1 (t_nz (by decide) (by decide)).2 dX5_faultOf_32 (fun H locs hG oq45 sl44 => ?_)
  have fv46 := (sl44 _ rfl).2 _ _ _ _ ff_X5_39 (by decide) fv40
  have fv47 := (sl44 _ rfl).2 _ _ _ _ ff_X5_43 (by decide) fv41
  have fv48 := (sl44 _ rfl).2 _ _ _ _ ff_X5_46 (by decide) fv42
  have fv49 := (sl44 _ rfl).2 _ _ _ _ ff_X5_49 (by decide) fv43
  have fv50 := (sl44 _ rfl).1
  refine lv_iconst (v := -1) hx hb dX5_faultOf_35 (by decide) ?_
  refine lv_istore (lv' := [(4, .int (-1)), (0, .ref h0), (1, .ref h1), (2, .int x2), (3, .int x3)]) hx hb dX5_faultOf_36 hl (by decide) rfl (fun ls hl => ?_)
  refine lv_iconst (v := 0) hx hb dX5_faultOf_38 (by decide) ?_
  refine lv_istore (lv' := [(5, .int 0), (4, .int (-1)), (0, .ref h0), (1, .ref h1), (2, .int x2), (3, .int x3)]) hx hb dX5_faultOf_39 hl (by decide) rfl (fun ls hl => ?_)
  exact J41 ((24 - (0 : Int32).toInt).toNat + 1) H locs ls (-1 : Int32) (0 : Int32) hG (lv_sub hl [2, 1, 0] rfl) (by decide) (by decide) (by decide) (by decide) (Nat.lt_succ_self _)

set_option maxHeartbeats 4000000 in
theorem c_X5_faultOf (l : Launch) (G : tG) (τ : Nat → Nat) (h0 : Nat) (h1 : Nat) (x2 : Int32) (x3 : Int32) (t0 : τ h0 = 7) (t1 : τ h1 = 18) (l2 : 0 ≤ x2.toInt) (u2 : x2.toInt ≤ 120) : Met l yX5_faultOf (.code yX5_faultOf cX5_faultOf 6 (some .int) :: tWS) (tRm 7 156) (va_Pc [.ref h0, .ref h1, .int x2, .int x3] (tPre G τ)) (tQi G τ (fun r => True)) 0 0 (tA τ) := by
  refine tc_met (by decide) (Nat.le_of_ble_eq_true rfl) ?_
  intro p e s m below meth c E hSt hr hlk hG ls hl
  have hl : lv_has ls 6 [(0, .ref h0), (1, .ref h1), (2, .int x2), (3, .int x3)] := hl
  have hx := E.1
  have hb := E.2.1
  refine lv_aload_n hx hb dX5_faultOf_0 rfl (lv_at hl 0 rfl) ?_
  refine lv_aload_n hx hb dX5_faultOf_1 rfl (lv_at hl 1 rfl) ?_
  refine tc_letters E hG t0 t1 dX5_faultOf_2 (fun H1 locs1 hG1 => ?_) (fun q h => by cases h) (fun q _ => rfl)
  exact f_X5_faultOf h0 h1 x2 x3 E (hSt.narrow (fun q h => tLet_sub t0 h)) (if_pos rfl) (tLet_c t0 (by decide) (by decide) t1) l2 u2 (fun pc ls v H locs hd hg => tc_iret E hr hlk (tLet_back t0 hG.1 hg) trivial hd) H1 locs1 ls hG1 hl

set_option maxHeartbeats 4000000 in
set_option maxRecDepth 100000 in
theorem c_X9_reads (l : Launch) (G : tG) (τ : Nat → Nat) (h0 : Nat) (x1 : Int32) (t0 : τ h0 = 1) : Met l yX9_reads (.code yX9_reads cX9_reads 7 (some .int) :: tWS) (tRm 8 181) (va_Pc [.ref h0, .int x1] (tPre G τ)) (tQi G τ (fun r => True)) 0 0 (tA τ) := by
  refine tc_met (by decide) (Nat.le_of_ble_eq_true rfl) ?_
  intro p e s m below meth c E hSt hr hlk hG ls hl
  have hl : lv_has ls 7 [(0, .ref h0), (1, .int x1)] := hl
  have hx := E.1
  have hb := E.2.1
  obtain ⟨H, eH⟩ : ∃ H, H = s.heap := ⟨_, rfl⟩
  obtain ⟨locs, eL⟩ : ∃ x : List Loc, x = [] := ⟨_, rfl⟩
  have hG : tGH G τ s H locs := by rw [eH, eL]; exact hG
  suffices hW : W p l e (tRm 8 181) s m ([.ref h0, .int x1] : List Value).toArray below meth c H locs 0 0 (MQ below (tQi G τ (fun r => True)) ([.ref h0, .int x1] : List Value).toArray s 0 0 (tA τ)) (F0 m 0 ls []) by subst eH; subst eL; exact hW
  clear eH eL
  have J76 : ∀ (n76 : Nat) (H : Heap) (locs : List Loc) (ls : Array Slot) (v3 : Int32) (v4 : Int32), tGH G τ s H locs → lv_has ls 7 [(0, .ref h0), (1, .int x1), (3, .int v3), (4, .int v4)] → 0 ≤ v3.toInt → v3.toInt ≤ 24 → 0 ≤ v4.toInt → v4.toInt ≤ 24 → (24 - v4.toInt).toNat < n76 → W p l e (tRm 8 181) s m ([.ref h0, .int x1] : List Value).toArray below meth c H locs 0 0 (MQ below (tQi G τ (fun r => True)) ([.ref h0, .int x1] : List Value).toArray s 0 0 (tA τ)) (F0 m 76 ls []) := by
    intro n76
    induction n76 with
    | zero => intro H locs ls v3 v4 hG hl b3 c3 b4 c4 hn76; exact absurd hn76 (Nat.not_lt_zero _)
    | succ n76 ih76 =>
      intro H locs ls v3 v4 hG hl b3 c3 b4 c4 hn76
      refine lv_iload hx hb dX9_reads_76 (lv_at hl 3 rfl) ?_
      refine lv_aload_n hx hb dX9_reads_78 rfl (lv_at hl 0 rfl) ?_
      refine tc_getr E hG t0 fr_X9_40 dX9_reads_79 (fun oa1 hoa1 => ?_)
      refine tc_geti E hG hoa1 fi_X9_171 dX9_reads_82 (fun z2 lz2 uz2 => ?_)
      refine lv_icmp_ge (tgt := 175) hx hb dX9_reads_85 (by decide) (fun c3 => ?_) (fun c3 => ?_)
      · skip
        have ic3 := tn_le rfl rfl c3
        refine lv_aload_n hx hb dX9_reads_175 rfl (lv_at hl 0 rfl) ?_
        refine tc_getr E hG t0 fr_X9_40 dX9_reads_176 (fun oa4 hoa4 => ?_)
        refine tc_geti E hG hoa4 fi_X9_171 dX9_reads_179 (fun z5 lz5 uz5 => ?_)
        exact tc_iret E hr hlk hG trivial dX9_reads_182
      · skip
        have ic3 := tn_nle rfl rfl c3
        refine lv_iload hx hb dX9_reads_88 (lv_at hl 3 rfl) ?_
        refine lv_if_ne (tgt := 97) hx hb dX9_reads_90 (by decide) (fun c6 => ?_) (fun c6 => ?_)
        · skip
          have ic6 := tn_ne rfl kI_0 c6
          refine lv_iload_n hx hb dX9_reads_97 rfl (lv_at hl 2 rfl) ?_
          refine lv_aload_n hx hb dX9_reads_98 rfl (lv_at hl 0 rfl) ?_
          refine tc_getr E hG t0 fr_X9_40 dX9_reads_99 (fun oa7 hoa7 => ?_)
          refine tc_getr E hG hoa7 fr_X9_174 dX9_reads_102 (fun oa8 hoa8 => ?_)
          refine lv_iload hx hb dX9_reads_105 (lv_at hl 3 rfl) ?_
          refine tc_iald E hG hoa8 ta_16 (t_in (by omega) (by omega)) dX9_reads_107 (fun z9 lz9 uz9 => ?_)
          refine lv_iadd hx hb dX9_reads_108 ?_
          refine lv_topi (fun z10 ez10 => ?_)
          have tz10 := tn_add ez10 rfl rfl (by omega) (by omega)
          refine lv_istore (lv' := [(5, .int z10), (0, .ref h0), (1, .int x1), (3, .int v3), (4, .int v4)]) hx hb dX9_reads_109 hl (by decide) rfl (fun ls hl => ?_)
          refine lv_aload_n hx hb dX9_reads_111 rfl (lv_at hl 1 rfl) ?_
          refine tc_getr E hG t0 fr_X9_40 dX9_reads_112 (fun oa11 hoa11 => ?_)
          refine tc_getr E hG hoa11 fr_X9_177 dX9_reads_115 (fun oa12 hoa12 => ?_)
          refine lv_iload hx hb dX9_reads_118 (lv_at hl 4 rfl) ?_
          refine tc_aald5 E hG hoa12 ta_17 (t_in (by omega) (by omega)) dX9_reads_120 (fun oa13 hoa13 => ?_)
          refine lv_astore (lv' := [(6, .ref oa13), (5, .int z10), (0, .ref h0), (1, .int x1), (3, .int v3), (4, .int v4)]) hx hb dX9_reads_121 hl (by decide) rfl (fun ls hl => ?_)
          refine lv_aload_n hx hb dX9_reads_123 rfl (lv_at hl 2 rfl) ?_
          refine tc_getr E hG t0 fr_X9_12 dX9_reads_124 (fun oa14 hoa14 => ?_)
          refine lv_aload_n hx hb dX9_reads_127 rfl (lv_at hl 2 rfl) ?_
          refine tc_getr E hG t0 fr_X9_40 dX9_reads_128 (fun oa15 hoa15 => ?_)
          refine tc_getr E hG hoa15 fr_X9_180 dX9_reads_131 (fun oa16 hoa16 => ?_)
          refine lv_iload hx hb dX9_reads_134 (lv_at hl 5 rfl) ?_
          refine tc_iald E hG hoa16 ta_15 (t_in (by omega) (by omega)) dX9_reads_136 (fun z17 _ _ => ?_)
          refine lv_iload hx hb dX9_reads_137 (lv_at hl 1 rfl) ?_
          refine lv_aload hx hb dX9_reads_139 (lv_at hl 0 rfl) ?_
          refine lv_iconst (v := 0) hx hb dX9_reads_141 (by decide) ?_
          refine tc_iald E hG hoa13 ta_11 (t_in (by decide) (by decide)) dX9_reads_142 (fun z18 _ _ => ?_)
          refine lv_aload hx hb dX9_reads_143 (lv_at hl 0 rfl) ?_
          refine lv_iconst (v := 1) hx hb dX9_reads_145 (by decide) ?_
          refine tc_iald E hG hoa13 ta_11 (t_in (by decide) (by decide)) dX9_reads_146 (fun z19 _ _ => ?_)
          refine lv_aload hx hb dX9_reads_147 (lv_at hl 0 rfl) ?_
          refine lv_iconst (v := 2) hx hb dX9_reads_149 (by decide) ?_
          refine tc_iald E hG hoa13 ta_11 (t_in (by decide) (by decide)) dX9_reads_150 (fun z20 _ _ => ?_)
          refine lv_aload hx hb dX9_reads_151 (lv_at hl 0 rfl) ?_
          refine lv_iconst (v := 3) hx hb dX9_reads_153 (by decide) ?_
          refine tc_iald E hG hoa13 ta_11 (t_in (by decide) (by decide)) dX9_reads_154 (fun z21 _ _ => ?_)
          refine lv_aload_n hx hb dX9_reads_155 rfl (lv_at hl 2 rfl) ?_
          refine tc_getr E hG t0 fr_X9_40 dX9_reads_156 (fun oa22 hoa22 => ?_)
          refine tc_getr E hG hoa22 fr_X9_183 dX9_reads_159 (fun oa23 hoa23 => ?_)
          refine lv_iload hx hb dX9_reads_162 (lv_at hl 5 rfl) ?_
          refine tc_iald E hG hoa23 ta_15 (t_in (by omega) (by omega)) dX9_reads_164 (fun z24 _ _ => ?_)
          refine tc_calli hG (tc_runV (As := [.int z17, .int z10, .int z18, .int z19, .int z20, .int z21, .int z24]) (rest := []) E hSt hG (c_X8_bring l G τ oa14 z17 z10 z18 z19 z20 z21 z24 hoa14) hoa14 rv_2 kv_X8_bring ml_X9_79 ⟨rfl, rfl, Nat.le_of_ble_eq_true rfl, Nat.le_of_ble_eq_true rfl⟩ rfl hl.1 rfl (Nat.le_of_ble_eq_true rfl) ⟨Nat.zero_le _, Nat.zero_le _⟩ dX9_reads_165) (fun r25 H locs pr25 hG => ?_)
          refine lv_pop hx hb dX9_reads_168 rfl ?_
          obtain ⟨z26, ez26⟩ : ∃ y : Int32, y = v4 + (1) := ⟨_, rfl⟩
          refine lv_iinc (v := z26) (lv' := [(4, .int z26), (6, .ref oa13), (5, .int z10), (0, .ref h0), (1, .int x1), (3, .int v3)]) hx hb dX9_reads_169 hl (k := 5) rfl (by rw [ez26]; rfl) (by decide) rfl (fun ls hl => ?_)
          have tz26 := tn_add ez26 rfl kI_1 (by omega) (by omega)
          refine lv_goto (tgt := 76) hx hb dX9_reads_172 (by decide) ?_
          exact ih76 H locs ls v3 z26 hG (lv_sub hl [3, 4, 5, 0] rfl) (by omega) (by omega) (by omega) (by omega) (by omega)
        · skip
          have ic6 := tn_eq rfl kI_0 c6
          refine lv_iload_n hx hb dX9_reads_93 rfl (lv_at hl 1 rfl) ?_
          refine lv_goto (tgt := 109) hx hb dX9_reads_94 (by decide) ?_
          refine lv_istore (lv' := [(5, .int x1), (0, .ref h0), (1, .int x1), (3, .int v3), (4, .int v4)]) hx hb dX9_reads_109 hl (by decide) rfl (fun ls hl => ?_)
          refine lv_aload_n hx hb dX9_reads_111 rfl (lv_at hl 1 rfl) ?_
          refine tc_getr E hG t0 fr_X9_40 dX9_reads_112 (fun oa27 hoa27 => ?_)
          refine tc_getr E hG hoa27 fr_X9_177 dX9_reads_115 (fun oa28 hoa28 => ?_)
          refine lv_iload hx hb dX9_reads_118 (lv_at hl 4 rfl) ?_
          refine tc_aald5 E hG hoa28 ta_17 (t_in (by omega) (by omega)) dX9_reads_120 (fun oa29 hoa29 => ?_)
          refine lv_astore (lv' := [(6, .ref oa29), (5, .int x1), (0, .ref h0), (1, .int x1), (3, .int v3), (4, .int v4)]) hx hb dX9_reads_121 hl (by decide) rfl (fun ls hl => ?_)
          refine lv_aload_n hx hb dX9_reads_123 rfl (lv_at hl 2 rfl) ?_
          refine tc_getr E hG t0 fr_X9_12 dX9_reads_124 (fun oa30 hoa30 => ?_)
          refine lv_aload_n hx hb dX9_reads_127 rfl (lv_at hl 2 rfl) ?_
          refine tc_getr E hG t0 fr_X9_40 dX9_reads_128 (fun oa31 hoa31 => ?_)
          refine tc_getr E hG hoa31 fr_X9_180 dX9_reads_131 (fun oa32 hoa32 => ?_)
          refine lv_iload hx hb dX9_reads_134 (lv_at hl 5 rfl) ?_
          refine tc_iald E hG hoa32 ta_15 (t_in (by omega) (by omega)) dX9_reads_136 (fun z33 _ _ => ?_)
          refine lv_iload hx hb dX9_reads_137 (lv_at hl 1 rfl) ?_
          refine lv_aload hx hb dX9_reads_139 (lv_at hl 0 rfl) ?_
          refine lv_iconst (v := 0) hx hb dX9_reads_141 (by decide) ?_
          refine tc_iald E hG hoa29 ta_11 (t_in (by decide) (by decide)) dX9_reads_142 (fun z34 _ _ => ?_)
          refine lv_aload hx hb dX9_reads_143 (lv_at hl 0 rfl) ?_
          refine lv_iconst (v := 1) hx hb dX9_reads_145 (by decide) ?_
          refine tc_iald E hG hoa29 ta_11 (t_in (by decide) (by decide)) dX9_reads_146 (fun z35 _ _ => ?_)
          refine lv_aload hx hb dX9_reads_147 (lv_at hl 0 rfl) ?_
          refine lv_iconst (v := 2) hx hb dX9_reads_149 (by decide) ?_
          refine tc_iald E hG hoa29 ta_11 (t_in (by decide) (by decide)) dX9_reads_150 (fun z36 _ _ => ?_)
          refine lv_aload hx hb dX9_reads_151 (lv_at hl 0 rfl) ?_
          refine lv_iconst (v := 3) hx hb dX9_reads_153 (by decide) ?_
          refine tc_iald E hG hoa29 ta_11 (t_in (by decide) (by decide)) dX9_reads_154 (fun z37 _ _ => ?_)
          refine lv_aload_n hx hb dX9_reads_155 rfl (lv_at hl 2 rfl) ?_
          refine tc_getr E hG t0 fr_X9_40 dX9_reads_156 (fun oa38 hoa38 => ?_)
          refine tc_getr E hG hoa38 fr_X9_183 dX9_reads_159 (fun oa39 hoa39 => ?_)
          refine lv_iload hx hb dX9_reads_162 (lv_at hl 5 rfl) ?_
          refine tc_iald E hG hoa39 ta_15 (t_in (by omega) (by omega)) dX9_reads_164 (fun z40 _ _ => ?_)
          refine tc_calli hG (tc_runV (As := [.int z33, .int x1, .int z34, .int z35, .int z36, .int z37, .int z40]) (rest := []) E hSt hG (c_X8_bring l G τ oa30 z33 x1 z34 z35 z36 z37 z40 hoa30) hoa30 rv_2 kv_X8_bring ml_X9_79 ⟨rfl, rfl, Nat.le_of_ble_eq_true rfl, Nat.le_of_ble_eq_true rfl⟩ rfl hl.1 rfl (Nat.le_of_ble_eq_true rfl) ⟨Nat.zero_le _, Nat.zero_le _⟩ dX9_reads_165) (fun r41 H locs pr41 hG => ?_)
          refine lv_pop hx hb dX9_reads_168 rfl ?_
          obtain ⟨z42, ez42⟩ : ∃ y : Int32, y = v4 + (1) := ⟨_, rfl⟩
          refine lv_iinc (v := z42) (lv' := [(4, .int z42), (6, .ref oa29), (5, .int x1), (0, .ref h0), (1, .int x1), (3, .int v3)]) hx hb dX9_reads_169 hl (k := 5) rfl (by rw [ez42]; rfl) (by decide) rfl (fun ls hl => ?_)
          have tz42 := tn_add ez42 rfl kI_1 (by omega) (by omega)
          refine lv_goto (tgt := 76) hx hb dX9_reads_172 (by decide) ?_
          exact ih76 H locs ls v3 z42 hG (lv_sub hl [3, 4, 5, 0] rfl) (by omega) (by omega) (by omega) (by omega) (by omega)
  refine lv_aload_n hx hb dX9_reads_0 rfl (lv_at hl 0 rfl) ?_
  refine lv_iload_n hx hb dX9_reads_1 rfl (lv_at hl 1 rfl) ?_
  refine tc_callp (tc_runV (As := [.int x1]) (rest := []) E hSt hG (c_X9_mayHoldChildren l G τ h0 x1 t0) t0 rv_1 kv_X9_mayHoldChildren ml_X9_62 ⟨rfl, rfl, Nat.le_of_ble_eq_true rfl, Nat.le_of_ble_eq_true rfl⟩ rfl hl.1 rfl (Nat.le_of_ble_eq_true rfl) ⟨Nat.zero_le _, Nat.zero_le _⟩ dX9_reads_2) (fun r43 pr43 => ?_)
  have pr43 : 0 ≤ r43.toInt ∧ r43.toInt ≤ 1 := pr43
  refine lv_if_ne (tgt := 10) hx hb dX9_reads_5 (by decide) (fun c44 => ?_) (fun c44 => ?_)
  · skip
    have ic44 := tn_ne rfl kI_0 c44
    refine lv_aload_n hx hb dX9_reads_10 rfl (lv_at hl 0 rfl) ?_
    refine tc_getr E hG t0 fr_X9_12 dX9_reads_11 (fun oa45 hoa45 => ?_)
    refine lv_iload_n hx hb dX9_reads_14 rfl (lv_at hl 1 rfl) ?_
    refine tc_callp (tc_runV (As := [.int x1]) (rest := []) E hSt hG (c_X8_takesOneMore l G τ oa45 x1 hoa45) hoa45 rv_2 kv_X8_takesOneMore ml_X9_72 ⟨rfl, rfl, Nat.le_of_ble_eq_true rfl, Nat.le_of_ble_eq_true rfl⟩ rfl hl.1 rfl (Nat.le_of_ble_eq_true rfl) ⟨Nat.zero_le _, Nat.zero_le _⟩ dX9_reads_15) (fun r46 pr46 => ?_)
    have pr46 : 0 ≤ r46.toInt ∧ r46.toInt ≤ 1 := pr46
    refine lv_if_ne (tgt := 24) hx hb dX9_reads_18 (by decide) (fun c47 => ?_) (fun c47 => ?_)
    · skip
      have ic47 := tn_ne rfl kI_0 c47
      refine lv_aload_n hx hb dX9_reads_24 rfl (lv_at hl 0 rfl) ?_
      refine tc_getr E hG t0 fr_X9_40 dX9_reads_25 (fun oa48 hoa48 => ?_)
      refine lv_aload_n hx hb dX9_reads_28 rfl (lv_at hl 0 rfl) ?_
      refine tc_getr E hG t0 fr_X9_51 dX9_reads_29 (fun oa49 hoa49 => ?_)
      refine lv_aload_n hx hb dX9_reads_32 rfl (lv_at hl 0 rfl) ?_
      refine tc_geti E hG t0 fi_X9_164 dX9_reads_33 (fun z50 lz50 uz50 => ?_)
      refine lv_bipush (v := 24) hx hb dX9_reads_36 (by decide) ?_
      refine lv_aload_n hx hb dX9_reads_38 rfl (lv_at hl 0 rfl) ?_
      refine tc_getr E hG t0 fr_X9_12 dX9_reads_39 (fun oa51 hoa51 => ?_)
      refine tc_geti E hG hoa51 fi_X9_75 dX9_reads_42 (fun z52 lz52 uz52 => ?_)
      refine lv_isub hx hb dX9_reads_45 ?_
      refine lv_topi (fun z53 ez53 => ?_)
      have tz53 := tn_sub ez53 kI_24 rfl (by omega) (by omega)
      refine tc_calli hG (tc_runV (As := [.ref oa49, .int z50, .int z53]) (rest := []) E hSt hG (c_X5_faultOf l G τ oa48 oa49 z50 z53 hoa48 hoa49 (by omega) (by omega)) hoa48 rv_7 kv_X5_faultOf ml_X9_167 ⟨rfl, rfl, Nat.le_of_ble_eq_true rfl, Nat.le_of_ble_eq_true rfl⟩ rfl hl.1 rfl (Nat.le_of_ble_eq_true rfl) ⟨Nat.zero_le _, Nat.zero_le _⟩ dX9_reads_46) (fun r54 H locs pr54 hG => ?_)
      refine lv_istore_n (lv' := [(2, .int r54), (0, .ref h0), (1, .int x1)]) hx hb dX9_reads_49 rfl hl (by decide) rfl (fun ls hl => ?_)
      refine lv_aload_n hx hb dX9_reads_50 rfl (lv_at hl 1 rfl) ?_
      refine lv_iconst (v := 0) hx hb dX9_reads_51 (by decide) ?_
      refine tc_puti E hG t0 fp_X9_164 (by decide) (by decide) dX9_reads_52 (fun H locs hG => ?_)
      refine lv_iload_n hx hb dX9_reads_55 rfl (lv_at hl 0 rfl) ?_
      refine lv_iconst (v := -1) hx hb dX9_reads_56 (by decide) ?_
      refine lv_icmp_eq (tgt := 65) hx hb dX9_reads_57 (by decide) (fun c55 => ?_) (fun c55 => ?_)
      · skip
        have ic55 := tn_eq rfl kI_m1 c55
        refine lv_aload_n hx hb dX9_reads_65 rfl (lv_at hl 1 rfl) ?_
        refine tc_getr E hG t0 fr_X9_12 dX9_reads_66 (fun oa56 hoa56 => ?_)
        refine tc_geti E hG hoa56 fi_X9_75 dX9_reads_69 (fun z57 lz57 uz57 => ?_)
        refine lv_istore_n (lv' := [(3, .int z57), (2, .int r54), (0, .ref h0), (1, .int x1)]) hx hb dX9_reads_72 rfl hl (by decide) rfl (fun ls hl => ?_)
        refine lv_iconst (v := 0) hx hb dX9_reads_73 (by decide) ?_
        refine lv_istore (lv' := [(4, .int 0), (3, .int z57), (2, .int r54), (0, .ref h0), (1, .int x1)]) hx hb dX9_reads_74 hl (by decide) rfl (fun ls hl => ?_)
        exact J76 ((24 - (0 : Int32).toInt).toNat + 1) H locs ls z57 (0 : Int32) hG (lv_sub hl [3, 4, 1, 0] rfl) (by omega) (by omega) (by decide) (by decide) (Nat.lt_succ_self _)
      · skip
        have ic55 := tn_ne rfl kI_m1 c55
        refine lv_bipush (v := -100) hx hb dX9_reads_60 (by decide) ?_
        refine lv_iload_n hx hb dX9_reads_62 rfl (lv_at hl 0 rfl) ?_
        refine lv_isub hx hb dX9_reads_63 ?_
        refine lv_topi (fun z58 ez58 => ?_)
        exact tc_iret E hr hlk hG trivial dX9_reads_64
    · skip
      have ic47 := tn_eq rfl kI_0 c47
      refine lv_bipush (v := -3) hx hb dX9_reads_21 (by decide) ?_
      exact tc_iret E hr hlk hG trivial dX9_reads_23
  · skip
    have ic44 := tn_eq rfl kI_0 c44
    refine lv_iconst (v := -1) hx hb dX9_reads_8 (by decide) ?_
    exact tc_iret E hr hlk hG trivial dX9_reads_9
