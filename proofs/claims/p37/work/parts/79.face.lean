/-! ===== the reference: tapes, images, questions ===== -/
theorem qnl {σ : Nat → Nat} {cu c : Nat} {a : Nat → Option (Nat → Int32)} (hc : ¬ mCu c) (h : ¬ c = 20 ∧ ¬ c = 17 ∧ ¬ c = 1) : ∀ k, ((σ, cu, qX a) : mY).2.2 c k = none := fun k => qX_nc hc (by omega)
set_option maxHeartbeats 4000000 in
set_option maxRecDepth 100000 in
theorem c_X10_tape (l : Launch) (G : tG) (σ : Nat → Nat) (cu : Nat) (a : Nat → Option (Nat → Int32)) (ta : Nat → Int32) (h0 : Nat) (x1 : Int32) (x2 : Int32) (x3 : Int32) (t0 : σ h0 = 1) (hIa : TInv ta) : Met l yX10_tape (.code yX10_tape cX10_tape 5 (some .int) :: tWS) (tRm 2 45) (va_Pc [.ref h0, .int x1, .int x2, .int x3] (mPre G (σ, cu, qX (upA a cu ta)))) (mQiX G (σ, cu, qX (upA a cu ta)) (fun r Z => ∃ t : Nat → Int32, Z = (σ, cu, qX (upA a cu t)) ∧ AG ta t ∧ TInv t)) 0 0 (mA (σ, cu, qX (upA a cu ta))) := by
  refine mc_met (by decide) (Nat.le_of_ble_eq_true rfl) ?_
  intro p e s m below meth c E hr hlk hG ls hl
  have hl : lv_has ls 5 [(0, .ref h0), (1, .int x1), (2, .int x2), (3, .int x3)] := hl
  have hx := E.1
  have hb := E.2.1
  obtain ⟨H, eH⟩ : ∃ H, H = s.heap := ⟨_, rfl⟩
  obtain ⟨locs, eL⟩ : ∃ x : List Loc, x = [] := ⟨_, rfl⟩
  have hG : mGH G (σ, cu, qX (upA a cu ta)) s H locs := by rw [eH, eL]; exact hG
  suffices hW : W p l e (tRm 2 45) s m ([.ref h0, .int x1, .int x2, .int x3] : List Value).toArray below meth c H locs 0 0 (MQ below (mQiX G (σ, cu, qX (upA a cu ta)) (fun r Z => ∃ t : Nat → Int32, Z = (σ, cu, qX (upA a cu t)) ∧ AG ta t ∧ TInv t)) ([.ref h0, .int x1, .int x2, .int x3] : List Value).toArray s 0 0 (mA (σ, cu, qX (upA a cu ta)))) (F0 m 0 ls []) by subst eH; subst eL; exact hW
  clear eH eL
  have hcu : mCu cu := hG.2.2.1
  have hI := hIa
  have J74 : ∀ (n74 : Nat) (H : Heap) (locs : List Loc) (ls : Array Slot) (v4 : Int32), mGH G (σ, cu, qX (upA a cu ta)) s H locs → lv_has ls 5 [(0, .ref h0), (1, .int x1), (4, .int v4)] → 0 ≤ x1.toInt → x1.toInt ≤ 3 → 0 ≤ v4.toInt → v4.toInt ≤ 60 → (x2.toInt = -1 ∨ (0 ≤ x2.toInt ∧ x2.toInt ≤ 3 ∧ 0 ≤ x3.toInt ∧ x3.toInt ≤ 60)) → (60 - v4.toInt).toNat < n74 → W p l e (tRm 2 45) s m ([.ref h0, .int x1, .int x2, .int x3] : List Value).toArray below meth c H locs 0 0 (MQ below (mQiX G (σ, cu, qX (upA a cu ta)) (fun r Z => ∃ t : Nat → Int32, Z = (σ, cu, qX (upA a cu t)) ∧ AG ta t ∧ TInv t)) ([.ref h0, .int x1, .int x2, .int x3] : List Value).toArray s 0 0 (mA (σ, cu, qX (upA a cu ta)))) (F0 m 74 ls []) := by
    intro n74
    induction n74 with
    | zero => intro H locs ls v4 hG hl bp1 cp1 b4 c4 hex74 hn74; exact absurd hn74 (Nat.not_lt_zero _)
    | succ n74 ih74 =>
      intro H locs ls v4 hG hl bp1 cp1 b4 c4 hex74 hn74
      refine lv_iload hx hb dX10_tape_74 (lv_at hl 2 rfl) ?_
      refine lv_bipush (v := 60) hx hb dX10_tape_76 (by decide) ?_
      refine lv_icmp_ge (tgt := 100) hx hb dX10_tape_78 (by decide) (fun c1 => ?_) (fun c1 => ?_)
      · skip
        have ic1 := tn_le kI_60 rfl c1
        refine lv_iconst (v := 1) hx hb dX10_tape_100 (by decide) ?_
        exact mc_iretX E hr hlk hG rfl rfl ⟨_, rfl, (by first | assumption | exact ⟨rfl, rfl, fun _ _ _ _ _ => rfl⟩), hI⟩ dX10_tape_101
      · skip
        have ic1 := tn_nle kI_60 rfl c1
        refine lv_aload_n hx hb dX10_tape_81 rfl (lv_at hl 0 rfl) ?_
        refine mc_getr E hG t0 mr_78 dX10_tape_82 (fun oa2 hoa2 => ?_)
        refine lv_bipush (v := 60) hx hb dX10_tape_85 (by decide) ?_
        refine lv_iload_n hx hb dX10_tape_87 rfl (lv_at hl 1 rfl) ?_
        refine lv_imul hx hb dX10_tape_88 ?_
        refine lv_topi (fun z3 ez3 => ?_)
        have tz3 := tn_mul ez3 kI_60 rfl (by omega) (by omega)
        refine lv_iload hx hb dX10_tape_89 (lv_at hl 2 rfl) ?_
        refine lv_iadd hx hb dX10_tape_91 ?_
        refine lv_topi (fun z4 ez4 => ?_)
        have tz4 := tn_add ez4 rfl rfl (by omega) (by omega)
        refine lv_lconst (v := 0) hx hb dX10_tape_92 (by decide) ?_
        refine lv_topl (fun z5 ez5 => ?_)
        have tz5 : z5.toInt = 0 := by rw [ez5]; decide
        refine mc_last E hG hoa2 mal_23 (qnl (by unfold mCu; decide) (by decide)) (t_in (by omega) (by omega)) dX10_tape_93 (fun H locs hG => ?_)
        obtain ⟨z6, ez6⟩ : ∃ y : Int32, y = v4 + (1) := ⟨_, rfl⟩
        refine lv_iinc (v := z6) (lv' := [(4, .int z6), (0, .ref h0), (1, .int x1)]) hx hb dX10_tape_94 hl (k := 2) rfl (by rw [ez6]; rfl) (by decide) rfl (fun ls hl => ?_)
        have tz6 := tn_add ez6 rfl kI_1 (by omega) (by omega)
        refine lv_goto (tgt := 74) hx hb dX10_tape_97 (by decide) ?_
        exact ih74 H locs ls z6 hG (lv_sub hl [1, 2, 0] rfl) (by omega) (by omega) (by omega) (by omega) (by have k0 := kI_0; have k1 := kI_1; omega) (by omega)
  refine lv_iload_n hx hb dX10_tape_0 rfl (lv_at hl 1 rfl) ?_
  refine tc_callp (mc_runS (As := [.int x1]) (rest := []) E hG (c_X10_isTape l G (σ, cu, qX (upA a cu ta)) x1) ks_X10_isTape ml_X10_440 ⟨rfl, rfl, Nat.le_of_ble_eq_true rfl, Nat.le_of_ble_eq_true rfl⟩ rfl hl.1 rfl (Nat.le_of_ble_eq_true rfl) ⟨Nat.zero_le _, Nat.zero_le _⟩ dX10_tape_1) (fun r7 pr7 => ?_)
  replace pr7 : (r7.toInt = 1 ∧ 0 ≤ x1.toInt ∧ x1.toInt ≤ 3) ∨ (r7.toInt = 0 ∧ (x1.toInt < 0 ∨ 3 < x1.toInt)) := pr7
  refine lv_if_ne (tgt := 9) hx hb dX10_tape_4 (by decide) (fun c8 => ?_) (fun c8 => ?_)
  · skip
    have ic8 := tn_ne rfl kI_0 c8
    refine lv_iload_n hx hb dX10_tape_9 rfl (lv_at hl 2 rfl) ?_
    refine lv_i2l hx hb dX10_tape_10 rfl ?_
    refine lv_topl (fun z9 ez9 => ?_)
    have tz9 := tl_i2l ez9
    refine lv_ldc2 (v := -1) hx hb E.2.2.2.1 (E.2.2.2.2.1 _ (t_w8 146 rfl rfl)) dX10_tape_11 ?_
    refine lv_topl (fun z10 ez10 => ?_)
    have tz10 : z10.toInt = -1 := by rw [ez10]; decide
    refine lv_ldc2 (v := 3) hx hb E.2.2.2.1 (E.2.2.2.2.1 _ (t_w7 212 rfl rfl)) dX10_tape_14 ?_
    refine lv_topl (fun z11 ez11 => ?_)
    have tz11 : z11.toInt = 3 := by rw [ez11]; decide
    refine tc_callp (mc_runS (As := [.long z9, .long z10, .long z11]) (rest := []) E hG (c_X10_in l G (σ, cu, qX (upA a cu ta)) z9 z10 z11) ks_X10_in ml_X10_87 ⟨rfl, rfl, Nat.le_of_ble_eq_true rfl, Nat.le_of_ble_eq_true rfl⟩ rfl hl.1 rfl (Nat.le_of_ble_eq_true rfl) ⟨Nat.zero_le _, Nat.zero_le _⟩ dX10_tape_17) (fun r12 pr12 => ?_)
    replace pr12 : ((r12.toInt = 1 ∧ z10.toInt ≤ z9.toInt ∧ z9.toInt ≤ z11.toInt) ∨ (r12.toInt = 0 ∧ (z9.toInt < z10.toInt ∨ z11.toInt < z9.toInt))) := pr12
    refine lv_if_eq (tgt := 33) hx hb dX10_tape_20 (by decide) (fun c13 => ?_) (fun c13 => ?_)
    · skip
      have ic13 := tn_eq rfl kI_0 c13
      refine lv_bipush (v := -2) hx hb dX10_tape_33 (by decide) ?_
      exact mc_iretX E hr hlk hG rfl rfl ⟨_, rfl, (by first | assumption | exact ⟨rfl, rfl, fun _ _ _ _ _ => rfl⟩), hI⟩ dX10_tape_35
    · skip
      have ic13 := tn_ne rfl kI_0 c13
      refine lv_iload_n hx hb dX10_tape_23 rfl (lv_at hl 2 rfl) ?_
      refine lv_if_lt (tgt := 36) hx hb dX10_tape_24 (by decide) (fun c14 => ?_) (fun c14 => ?_)
      · skip
        have ic14 := tn_lt rfl kI_0 c14
        refine lv_iload_n hx hb dX10_tape_36 rfl (lv_at hl 2 rfl) ?_
        refine lv_if_lt (tgt := 47) hx hb dX10_tape_37 (by decide) (fun c15 => ?_) (fun c15 => ?_)
        · skip
          have ic15 := tn_lt rfl kI_0 c15
          refine lv_aload_n hx hb dX10_tape_47 rfl (lv_at hl 0 rfl) ?_
          refine mc_getr E hG t0 mr_72 dX10_tape_48 (fun oa16 hoa16 => ?_)
          refine lv_iload_n hx hb dX10_tape_51 rfl (lv_at hl 1 rfl) ?_
          refine lv_iload_n hx hb dX10_tape_52 rfl (lv_at hl 2 rfl) ?_
          refine lv_iconst (v := 1) hx hb dX10_tape_53 (by decide) ?_
          refine lv_iadd hx hb dX10_tape_54 ?_
          refine lv_topi (fun z17 ez17 => ?_)
          have tz17 := tn_add ez17 rfl kI_1 (by omega) (by omega)
          refine mc_iast E hG hoa16 ma_21 (qn (by unfold mCu; decide) (by omega)) (t_in (by omega) (by omega)) (by omega) (by omega) dX10_tape_55 (fun H locs hG => ?_)
          refine lv_aload_n hx hb dX10_tape_56 rfl (lv_at hl 0 rfl) ?_
          refine mc_getr E hG t0 mr_75 dX10_tape_57 (fun oa18 hoa18 => ?_)
          refine lv_iload_n hx hb dX10_tape_60 rfl (lv_at hl 1 rfl) ?_
          refine lv_iload_n hx hb dX10_tape_61 rfl (lv_at hl 2 rfl) ?_
          refine lv_if_ge (tgt := 69) hx hb dX10_tape_62 (by decide) (fun c19 => ?_) (fun c19 => ?_)
          · exfalso
            have ic19 := tn_le kI_0 rfl c19
            omega
          · skip
            have ic19 := tn_nle kI_0 rfl c19
            refine lv_iconst (v := 0) hx hb dX10_tape_65 (by decide) ?_
            refine lv_goto (tgt := 70) hx hb dX10_tape_66 (by decide) ?_
            refine mc_iast E hG hoa18 ma_22 (qn (by unfold mCu; decide) (by omega)) (t_in (by omega) (by omega)) (by decide) (by decide) dX10_tape_70 (fun H locs hG => ?_)
            refine lv_iconst (v := 0) hx hb dX10_tape_71 (by decide) ?_
            refine lv_istore (lv' := [(4, .int 0), (0, .ref h0), (1, .int x1), (2, .int x2), (3, .int x3)]) hx hb dX10_tape_72 hl (by decide) rfl (fun ls hl => ?_)
            exact J74 ((60 - (0 : Int32).toInt).toNat + 1) H locs ls (0 : Int32) hG (lv_sub hl [1, 2, 0] rfl) (by omega) (by omega) (by decide) (by decide) (by have k0 := kI_0; have k1 := kI_1; omega) (Nat.lt_succ_self _)
        · exfalso
          have ic15 := tn_nlt rfl kI_0 c15
          omega
      · skip
        have ic14 := tn_nlt rfl kI_0 c14
        refine lv_iload_n hx hb dX10_tape_27 rfl (lv_at hl 3 rfl) ?_
        refine lv_bipush (v := 60) hx hb dX10_tape_28 (by decide) ?_
        refine lv_icmp_le (tgt := 36) hx hb dX10_tape_30 (by decide) (fun c20 => ?_) (fun c20 => ?_)
        · skip
          have ic20 := tn_le rfl kI_60 c20
          refine lv_iload_n hx hb dX10_tape_36 rfl (lv_at hl 2 rfl) ?_
          refine lv_if_lt (tgt := 47) hx hb dX10_tape_37 (by decide) (fun c21 => ?_) (fun c21 => ?_)
          · exfalso
            have ic21 := tn_lt rfl kI_0 c21
            omega
          · skip
            have ic21 := tn_nlt rfl kI_0 c21
            refine lv_iload_n hx hb dX10_tape_40 rfl (lv_at hl 3 rfl) ?_
            refine lv_if_ge (tgt := 47) hx hb dX10_tape_41 (by decide) (fun c22 => ?_) (fun c22 => ?_)
            · skip
              have ic22 := tn_le kI_0 rfl c22
              refine lv_aload_n hx hb dX10_tape_47 rfl (lv_at hl 0 rfl) ?_
              refine mc_getr E hG t0 mr_72 dX10_tape_48 (fun oa23 hoa23 => ?_)
              refine lv_iload_n hx hb dX10_tape_51 rfl (lv_at hl 1 rfl) ?_
              refine lv_iload_n hx hb dX10_tape_52 rfl (lv_at hl 2 rfl) ?_
              refine lv_iconst (v := 1) hx hb dX10_tape_53 (by decide) ?_
              refine lv_iadd hx hb dX10_tape_54 ?_
              refine lv_topi (fun z24 ez24 => ?_)
              have tz24 := tn_add ez24 rfl kI_1 (by omega) (by omega)
              refine mc_iast E hG hoa23 ma_21 (qn (by unfold mCu; decide) (by omega)) (t_in (by omega) (by omega)) (by omega) (by omega) dX10_tape_55 (fun H locs hG => ?_)
              refine lv_aload_n hx hb dX10_tape_56 rfl (lv_at hl 0 rfl) ?_
              refine mc_getr E hG t0 mr_75 dX10_tape_57 (fun oa25 hoa25 => ?_)
              refine lv_iload_n hx hb dX10_tape_60 rfl (lv_at hl 1 rfl) ?_
              refine lv_iload_n hx hb dX10_tape_61 rfl (lv_at hl 2 rfl) ?_
              refine lv_if_ge (tgt := 69) hx hb dX10_tape_62 (by decide) (fun c26 => ?_) (fun c26 => ?_)
              · skip
                have ic26 := tn_le kI_0 rfl c26
                refine lv_iload_n hx hb dX10_tape_69 rfl (lv_at hl 3 rfl) ?_
                refine mc_iast E hG hoa25 ma_22 (qn (by unfold mCu; decide) (by omega)) (t_in (by omega) (by omega)) (by omega) (by omega) dX10_tape_70 (fun H locs hG => ?_)
                refine lv_iconst (v := 0) hx hb dX10_tape_71 (by decide) ?_
                refine lv_istore (lv' := [(4, .int 0), (0, .ref h0), (1, .int x1), (2, .int x2), (3, .int x3)]) hx hb dX10_tape_72 hl (by decide) rfl (fun ls hl => ?_)
                exact J74 ((60 - (0 : Int32).toInt).toNat + 1) H locs ls (0 : Int32) hG (lv_sub hl [1, 2, 0] rfl) (by omega) (by omega) (by decide) (by decide) (by have k0 := kI_0; have k1 := kI_1; omega) (Nat.lt_succ_self _)
              · exfalso
                have ic26 := tn_nle kI_0 rfl c26
                omega
            · skip
              have ic22 := tn_nle kI_0 rfl c22
              refine lv_bipush (v := -14) hx hb dX10_tape_44 (by decide) ?_
              exact mc_iretX E hr hlk hG rfl rfl ⟨_, rfl, (by first | assumption | exact ⟨rfl, rfl, fun _ _ _ _ _ => rfl⟩), hI⟩ dX10_tape_46
        · skip
          have ic20 := tn_nle rfl kI_60 c20
          refine lv_bipush (v := -2) hx hb dX10_tape_33 (by decide) ?_
          exact mc_iretX E hr hlk hG rfl rfl ⟨_, rfl, (by first | assumption | exact ⟨rfl, rfl, fun _ _ _ _ _ => rfl⟩), hI⟩ dX10_tape_35
  · skip
    have ic8 := tn_eq rfl kI_0 c8
    refine lv_iconst (v := -1) hx hb dX10_tape_7 (by decide) ?_
    exact mc_iretX E hr hlk hG rfl rfl ⟨_, rfl, (by first | assumption | exact ⟨rfl, rfl, fun _ _ _ _ _ => rfl⟩), hI⟩ dX10_tape_8

set_option maxHeartbeats 4000000 in
set_option maxRecDepth 100000 in
theorem c_X10_item (l : Launch) (G : tG) (σ : Nat → Nat) (cu : Nat) (a : Nat → Option (Nat → Int32)) (ta : Nat → Int32) (h0 : Nat) (x1 : Int32) (x2 : Int32) (x3 : Int64) (t0 : σ h0 = 1) (hIa : TInv ta) : Met l yX10_item (.code yX10_item cX10_item 5 (some .int) :: tWS) (tRm 2 45) (va_Pc [.ref h0, .int x1, .int x2, .long x3] (mPre G (σ, cu, qX (upA a cu ta)))) (mQiX G (σ, cu, qX (upA a cu ta)) (fun r Z => ∃ t : Nat → Int32, Z = (σ, cu, qX (upA a cu t)) ∧ AG ta t ∧ TInv t)) 0 0 (mA (σ, cu, qX (upA a cu ta))) := by
  refine mc_met (by decide) (Nat.le_of_ble_eq_true rfl) ?_
  intro p e s m below meth c E hr hlk hG ls hl
  have hl : lv_has ls 5 [(0, .ref h0), (1, .int x1), (2, .int x2), (3, .long x3)] := hl
  have hx := E.1
  have hb := E.2.1
  obtain ⟨H, eH⟩ : ∃ H, H = s.heap := ⟨_, rfl⟩
  obtain ⟨locs, eL⟩ : ∃ x : List Loc, x = [] := ⟨_, rfl⟩
  have hG : mGH G (σ, cu, qX (upA a cu ta)) s H locs := by rw [eH, eL]; exact hG
  suffices hW : W p l e (tRm 2 45) s m ([.ref h0, .int x1, .int x2, .long x3] : List Value).toArray below meth c H locs 0 0 (MQ below (mQiX G (σ, cu, qX (upA a cu ta)) (fun r Z => ∃ t : Nat → Int32, Z = (σ, cu, qX (upA a cu t)) ∧ AG ta t ∧ TInv t)) ([.ref h0, .int x1, .int x2, .long x3] : List Value).toArray s 0 0 (mA (σ, cu, qX (upA a cu ta)))) (F0 m 0 ls []) by subst eH; subst eL; exact hW
  clear eH eL
  have hcu : mCu cu := hG.2.2.1
  have hI := hIa
  refine lv_iload_n hx hb dX10_item_0 rfl (lv_at hl 1 rfl) ?_
  refine tc_callp (mc_runS (As := [.int x1]) (rest := []) E hG (c_X10_isTape l G (σ, cu, qX (upA a cu ta)) x1) ks_X10_isTape ml_X10_440 ⟨rfl, rfl, Nat.le_of_ble_eq_true rfl, Nat.le_of_ble_eq_true rfl⟩ rfl hl.1 rfl (Nat.le_of_ble_eq_true rfl) ⟨Nat.zero_le _, Nat.zero_le _⟩ dX10_item_1) (fun r1 pr1 => ?_)
  replace pr1 : (r1.toInt = 1 ∧ 0 ≤ x1.toInt ∧ x1.toInt ≤ 3) ∨ (r1.toInt = 0 ∧ (x1.toInt < 0 ∨ 3 < x1.toInt)) := pr1
  refine lv_if_ne (tgt := 9) hx hb dX10_item_4 (by decide) (fun c2 => ?_) (fun c2 => ?_)
  · skip
    have ic2 := tn_ne rfl kI_0 c2
    refine lv_aload_n hx hb dX10_item_9 rfl (lv_at hl 0 rfl) ?_
    refine mc_getr E hG t0 mr_72 dX10_item_10 (fun oa3 hoa3 => ?_)
    refine lv_iload_n hx hb dX10_item_13 rfl (lv_at hl 1 rfl) ?_
    refine mc_iald E hG hoa3 ma_21 (t_in (by omega) (by omega)) dX10_item_14 (fun z4 lz4 uz4 qz4 => ?_)
    refine lv_if_ne (tgt := 21) hx hb dX10_item_15 (by decide) (fun c5 => ?_) (fun c5 => ?_)
    · skip
      have ic5 := tn_ne rfl kI_0 c5
      refine lv_iload_n hx hb dX10_item_21 rfl (lv_at hl 2 rfl) ?_
      refine lv_i2l hx hb dX10_item_22 rfl ?_
      refine lv_topl (fun z6 ez6 => ?_)
      have tz6 := tl_i2l ez6
      refine lv_lconst (v := 0) hx hb dX10_item_23 (by decide) ?_
      refine lv_topl (fun z7 ez7 => ?_)
      have tz7 : z7.toInt = 0 := by rw [ez7]; decide
      refine lv_aload_n hx hb dX10_item_24 rfl (lv_at hl 0 rfl) ?_
      refine mc_getr E hG t0 mr_75 dX10_item_25 (fun oa8 hoa8 => ?_)
      refine lv_iload_n hx hb dX10_item_28 rfl (lv_at hl 1 rfl) ?_
      refine mc_iald E hG hoa8 ma_22 (t_in (by omega) (by omega)) dX10_item_29 (fun z9 lz9 uz9 qz9 => ?_)
      refine lv_iconst (v := 1) hx hb dX10_item_30 (by decide) ?_
      refine lv_isub hx hb dX10_item_31 ?_
      refine lv_topi (fun z10 ez10 => ?_)
      have tz10 := tn_sub ez10 rfl kI_1 (by omega) (by omega)
      refine lv_i2l hx hb dX10_item_32 rfl ?_
      refine lv_topl (fun z11 ez11 => ?_)
      have tz11 := tl_i2l ez11
      refine tc_callp (mc_runS (As := [.long z6, .long z7, .long z11]) (rest := []) E hG (c_X10_in l G (σ, cu, qX (upA a cu ta)) z6 z7 z11) ks_X10_in ml_X10_87 ⟨rfl, rfl, Nat.le_of_ble_eq_true rfl, Nat.le_of_ble_eq_true rfl⟩ rfl hl.1 rfl (Nat.le_of_ble_eq_true rfl) ⟨Nat.zero_le _, Nat.zero_le _⟩ dX10_item_33) (fun r12 pr12 => ?_)
      replace pr12 : ((r12.toInt = 1 ∧ z7.toInt ≤ z6.toInt ∧ z6.toInt ≤ z11.toInt) ∨ (r12.toInt = 0 ∧ (z6.toInt < z7.toInt ∨ z11.toInt < z6.toInt))) := pr12
      refine lv_if_ne (tgt := 42) hx hb dX10_item_36 (by decide) (fun c13 => ?_) (fun c13 => ?_)
      · skip
        have ic13 := tn_ne rfl kI_0 c13
        refine lv_aload_n hx hb dX10_item_42 rfl (lv_at hl 0 rfl) ?_
        refine mc_getr E hG t0 mr_78 dX10_item_43 (fun oa14 hoa14 => ?_)
        refine lv_bipush (v := 60) hx hb dX10_item_46 (by decide) ?_
        refine lv_iload_n hx hb dX10_item_48 rfl (lv_at hl 1 rfl) ?_
        refine lv_imul hx hb dX10_item_49 ?_
        refine lv_topi (fun z15 ez15 => ?_)
        have tz15 := tn_mul ez15 kI_60 rfl (by omega) (by omega)
        refine lv_iload_n hx hb dX10_item_50 rfl (lv_at hl 2 rfl) ?_
        refine lv_iadd hx hb dX10_item_51 ?_
        refine lv_topi (fun z16 ez16 => ?_)
        have tz16 := tn_add ez16 rfl rfl (by omega) (by omega)
        refine lv_lload_n hx hb dX10_item_52 rfl (lv_at hl 3 rfl) ?_
        refine lv_aload_n hx hb dX10_item_53 rfl (lv_at hl 0 rfl) ?_
        refine mc_getr E hG t0 mr_72 dX10_item_54 (fun oa17 hoa17 => ?_)
        refine lv_iload_n hx hb dX10_item_57 rfl (lv_at hl 1 rfl) ?_
        refine mc_iald E hG hoa17 ma_21 (t_in (by omega) (by omega)) dX10_item_58 (fun z18 lz18 uz18 qz18 => ?_)
        refine lv_iconst (v := 1) hx hb dX10_item_59 (by decide) ?_
        refine lv_isub hx hb dX10_item_60 ?_
        refine lv_topi (fun z19 ez19 => ?_)
        have tz19 := tn_sub ez19 rfl kI_1 (by omega) (by omega)
        refine tc_callpl (mc_runS (As := [.long x3, .int z19]) (rest := [.int z16, .ref oa14]) E hG (c_X10_narrowed l G (σ, cu, qX (upA a cu ta)) x3 z19) ks_X10_narrowed ml_X10_445 ⟨rfl, rfl, Nat.le_of_ble_eq_true rfl, Nat.le_of_ble_eq_true rfl⟩ rfl hl.1 rfl (Nat.le_of_ble_eq_true rfl) ⟨Nat.zero_le _, Nat.zero_le _⟩ dX10_item_61) (fun r20 pr20 => ?_)
        refine mc_last E hG hoa14 mal_23 (qnl (by unfold mCu; decide) (by decide)) (t_in (by omega) (by omega)) dX10_item_64 (fun H locs hG => ?_)
        refine lv_iconst (v := 1) hx hb dX10_item_65 (by decide) ?_
        exact mc_iretX E hr hlk hG rfl rfl ⟨_, rfl, (by first | assumption | exact ⟨rfl, rfl, fun _ _ _ _ _ => rfl⟩), hI⟩ dX10_item_66
      · skip
        have ic13 := tn_eq rfl kI_0 c13
        refine lv_bipush (v := -13) hx hb dX10_item_39 (by decide) ?_
        exact mc_iretX E hr hlk hG rfl rfl ⟨_, rfl, (by first | assumption | exact ⟨rfl, rfl, fun _ _ _ _ _ => rfl⟩), hI⟩ dX10_item_41
    · skip
      have ic5 := tn_eq rfl kI_0 c5
      refine lv_bipush (v := -11) hx hb dX10_item_18 (by decide) ?_
      exact mc_iretX E hr hlk hG rfl rfl ⟨_, rfl, (by first | assumption | exact ⟨rfl, rfl, fun _ _ _ _ _ => rfl⟩), hI⟩ dX10_item_20
  · skip
    have ic2 := tn_eq rfl kI_0 c2
    refine lv_iconst (v := -1) hx hb dX10_item_7 (by decide) ?_
    exact mc_iretX E hr hlk hG rfl rfl ⟨_, rfl, (by first | assumption | exact ⟨rfl, rfl, fun _ _ _ _ _ => rfl⟩), hI⟩ dX10_item_8

set_option maxHeartbeats 4000000 in
set_option maxRecDepth 100000 in
theorem c_X10_shift (l : Launch) (G : tG) (σ : Nat → Nat) (cu : Nat) (a : Nat → Option (Nat → Int32)) (ta : Nat → Int32) (h0 : Nat) (x1 : Int32) (x2 : Int32) (x3 : Int32) (x4 : Int32) (x5 : Int32) (t0 : σ h0 = 1) (hIa : TInv ta) : Met l yX10_shift (.code yX10_shift cX10_shift 7 (some .int) :: tWS) (tRm 2 45) (va_Pc [.ref h0, .int x1, .int x2, .int x3, .int x4, .int x5] (mPre G (σ, cu, qX (upA a cu ta)))) (mQiX G (σ, cu, qX (upA a cu ta)) (fun r Z => ∃ t : Nat → Int32, Z = (σ, cu, qX (upA a cu t)) ∧ AG ta t ∧ TInv t)) 0 0 (mA (σ, cu, qX (upA a cu ta))) := by
  refine mc_met (by decide) (Nat.le_of_ble_eq_true rfl) ?_
  intro p e s m below meth c E hr hlk hG ls hl
  have hl : lv_has ls 7 [(0, .ref h0), (1, .int x1), (2, .int x2), (3, .int x3), (4, .int x4), (5, .int x5)] := hl
  have hx := E.1
  have hb := E.2.1
  obtain ⟨H, eH⟩ : ∃ H, H = s.heap := ⟨_, rfl⟩
  obtain ⟨locs, eL⟩ : ∃ x : List Loc, x = [] := ⟨_, rfl⟩
  have hG : mGH G (σ, cu, qX (upA a cu ta)) s H locs := by rw [eH, eL]; exact hG
  suffices hW : W p l e (tRm 2 45) s m ([.ref h0, .int x1, .int x2, .int x3, .int x4, .int x5] : List Value).toArray below meth c H locs 0 0 (MQ below (mQiX G (σ, cu, qX (upA a cu ta)) (fun r Z => ∃ t : Nat → Int32, Z = (σ, cu, qX (upA a cu t)) ∧ AG ta t ∧ TInv t)) ([.ref h0, .int x1, .int x2, .int x3, .int x4, .int x5] : List Value).toArray s 0 0 (mA (σ, cu, qX (upA a cu ta)))) (F0 m 0 ls []) by subst eH; subst eL; exact hW
  clear eH eL
  have hcu : mCu cu := hG.2.2.1
  have hI := hIa
  have J147 : ∀ (n147 : Nat) (H : Heap) (locs : List Loc) (ls : Array Slot) (v6 : Int32), mGH G (σ, cu, qX (upA a cu ta)) s H locs → lv_has ls 7 [(0, .ref h0), (3, .int x3), (4, .int x4), (5, .int x5), (6, .int v6)] → 0 ≤ x3.toInt → x3.toInt ≤ 3 → 0 ≤ x4.toInt → 0 ≤ x5.toInt → 0 ≤ v6.toInt → v6.toInt ≤ 60 → (0 ≤ x2.toInt ∧ 0 ≤ x4.toInt ∧ 0 ≤ x5.toInt ∧ x2.toInt + x5.toInt ≤ 60 ∧ x4.toInt + x5.toInt ≤ 60) → (60 - v6.toInt).toNat < n147 → W p l e (tRm 2 45) s m ([.ref h0, .int x1, .int x2, .int x3, .int x4, .int x5] : List Value).toArray below meth c H locs 0 0 (MQ below (mQiX G (σ, cu, qX (upA a cu ta)) (fun r Z => ∃ t : Nat → Int32, Z = (σ, cu, qX (upA a cu t)) ∧ AG ta t ∧ TInv t)) ([.ref h0, .int x1, .int x2, .int x3, .int x4, .int x5] : List Value).toArray s 0 0 (mA (σ, cu, qX (upA a cu ta)))) (F0 m 147 ls []) := by
    intro n147
    induction n147 with
    | zero => intro H locs ls v6 hG hl bp3 cp3 bp4 bp5 b6 c6 hex147 hn147; exact absurd hn147 (Nat.not_lt_zero _)
    | succ n147 ih147 =>
      intro H locs ls v6 hG hl bp3 cp3 bp4 bp5 b6 c6 hex147 hn147
      refine lv_iload hx hb dX10_shift_147 (lv_at hl 4 rfl) ?_
      refine lv_iload hx hb dX10_shift_149 (lv_at hl 3 rfl) ?_
      refine lv_icmp_ge (tgt := 182) hx hb dX10_shift_151 (by decide) (fun c1 => ?_) (fun c1 => ?_)
      · skip
        have ic1 := tn_le rfl rfl c1
        refine lv_iload hx hb dX10_shift_182 (lv_at hl 3 rfl) ?_
        exact mc_iretX E hr hlk hG rfl rfl ⟨_, rfl, (by first | assumption | exact ⟨rfl, rfl, fun _ _ _ _ _ => rfl⟩), hI⟩ dX10_shift_184
      · skip
        have ic1 := tn_nle rfl rfl c1
        refine lv_aload_n hx hb dX10_shift_154 rfl (lv_at hl 0 rfl) ?_
        refine mc_getr E hG t0 mr_78 dX10_shift_155 (fun oa2 hoa2 => ?_)
        refine lv_bipush (v := 60) hx hb dX10_shift_158 (by decide) ?_
        refine lv_iload_n hx hb dX10_shift_160 rfl (lv_at hl 1 rfl) ?_
        refine lv_imul hx hb dX10_shift_161 ?_
        refine lv_topi (fun z3 ez3 => ?_)
        have tz3 := tn_mul ez3 kI_60 rfl (by omega) (by omega)
        refine lv_iload hx hb dX10_shift_162 (lv_at hl 2 rfl) ?_
        refine lv_iadd hx hb dX10_shift_164 ?_
        refine lv_topi (fun z4 ez4 => ?_)
        have tz4 := tn_add ez4 rfl rfl (by omega) (by omega)
        refine lv_iload hx hb dX10_shift_165 (lv_at hl 4 rfl) ?_
        refine lv_iadd hx hb dX10_shift_167 ?_
        refine lv_topi (fun z5 ez5 => ?_)
        have tz5 := tn_add ez5 rfl rfl (by omega) (by omega)
        refine lv_aload_n hx hb dX10_shift_168 rfl (lv_at hl 0 rfl) ?_
        refine mc_getr E hG t0 mr_82 dX10_shift_169 (fun oa6 hoa6 => ?_)
        refine lv_iload hx hb dX10_shift_172 (lv_at hl 4 rfl) ?_
        refine mc_lald E hG hoa6 mal_24 (t_in (by omega) (by omega)) dX10_shift_174 (fun z7 => ?_)
        refine mc_last E hG hoa2 mal_23 (qnl (by unfold mCu; decide) (by decide)) (t_in (by omega) (by omega)) dX10_shift_175 (fun H locs hG => ?_)
        obtain ⟨z8, ez8⟩ : ∃ y : Int32, y = v6 + (1) := ⟨_, rfl⟩
        refine lv_iinc (v := z8) (lv' := [(6, .int z8), (0, .ref h0), (3, .int x3), (4, .int x4), (5, .int x5)]) hx hb dX10_shift_176 hl (k := 4) rfl (by rw [ez8]; rfl) (by decide) rfl (fun ls hl => ?_)
        have tz8 := tn_add ez8 rfl kI_1 (by omega) (by omega)
        refine lv_goto (tgt := 147) hx hb dX10_shift_179 (by decide) ?_
        exact ih147 H locs ls z8 hG (lv_sub hl [1, 2, 3, 4, 0] rfl) (by omega) (by omega) (by omega) (by omega) (by omega) (by omega) (by have k0 := kI_0; have k1 := kI_1; omega) (by omega)
  have J110 : ∀ (n110 : Nat) (H : Heap) (locs : List Loc) (ls : Array Slot) (v6 : Int32), mGH G (σ, cu, qX (upA a cu ta)) s H locs → lv_has ls 7 [(0, .ref h0), (1, .int x1), (2, .int x2), (3, .int x3), (4, .int x4), (5, .int x5), (6, .int v6)] → 0 ≤ x1.toInt → x1.toInt ≤ 3 → 0 ≤ x2.toInt → 0 ≤ x3.toInt → x3.toInt ≤ 3 → 0 ≤ x4.toInt → 0 ≤ x5.toInt → 0 ≤ v6.toInt → v6.toInt ≤ 60 → (0 ≤ x2.toInt ∧ 0 ≤ x4.toInt ∧ 0 ≤ x5.toInt ∧ x2.toInt + x5.toInt ≤ 60 ∧ x4.toInt + x5.toInt ≤ 60) → (60 - v6.toInt).toNat < n110 → W p l e (tRm 2 45) s m ([.ref h0, .int x1, .int x2, .int x3, .int x4, .int x5] : List Value).toArray below meth c H locs 0 0 (MQ below (mQiX G (σ, cu, qX (upA a cu ta)) (fun r Z => ∃ t : Nat → Int32, Z = (σ, cu, qX (upA a cu t)) ∧ AG ta t ∧ TInv t)) ([.ref h0, .int x1, .int x2, .int x3, .int x4, .int x5] : List Value).toArray s 0 0 (mA (σ, cu, qX (upA a cu ta)))) (F0 m 110 ls []) := by
    intro n110
    induction n110 with
    | zero => intro H locs ls v6 hG hl bp1 cp1 bp2 bp3 cp3 bp4 bp5 b6 c6 hex110 hn110; exact absurd hn110 (Nat.not_lt_zero _)
    | succ n110 ih110 =>
      intro H locs ls v6 hG hl bp1 cp1 bp2 bp3 cp3 bp4 bp5 b6 c6 hex110 hn110
      refine lv_iload hx hb dX10_shift_110 (lv_at hl 6 rfl) ?_
      refine lv_iload hx hb dX10_shift_112 (lv_at hl 5 rfl) ?_
      refine lv_icmp_ge (tgt := 144) hx hb dX10_shift_114 (by decide) (fun c9 => ?_) (fun c9 => ?_)
      · skip
        have ic9 := tn_le rfl rfl c9
        refine lv_iconst (v := 0) hx hb dX10_shift_144 (by decide) ?_
        refine lv_istore (lv' := [(6, .int 0), (0, .ref h0), (1, .int x1), (2, .int x2), (3, .int x3), (4, .int x4), (5, .int x5)]) hx hb dX10_shift_145 hl (by decide) rfl (fun ls hl => ?_)
        exact J147 ((60 - (0 : Int32).toInt).toNat + 1) H locs ls (0 : Int32) hG (lv_sub hl [1, 4, 5, 6, 0] rfl) (by omega) (by omega) (by omega) (by omega) (by decide) (by decide) (by have k0 := kI_0; have k1 := kI_1; omega) (Nat.lt_succ_self _)
      · skip
        have ic9 := tn_nle rfl rfl c9
        refine lv_aload_n hx hb dX10_shift_117 rfl (lv_at hl 0 rfl) ?_
        refine mc_getr E hG t0 mr_82 dX10_shift_118 (fun oa10 hoa10 => ?_)
        refine lv_iload hx hb dX10_shift_121 (lv_at hl 6 rfl) ?_
        refine lv_aload_n hx hb dX10_shift_123 rfl (lv_at hl 0 rfl) ?_
        refine mc_getr E hG t0 mr_78 dX10_shift_124 (fun oa11 hoa11 => ?_)
        refine lv_bipush (v := 60) hx hb dX10_shift_127 (by decide) ?_
        refine lv_iload_n hx hb dX10_shift_129 rfl (lv_at hl 1 rfl) ?_
        refine lv_imul hx hb dX10_shift_130 ?_
        refine lv_topi (fun z12 ez12 => ?_)
        have tz12 := tn_mul ez12 kI_60 rfl (by omega) (by omega)
        refine lv_iload_n hx hb dX10_shift_131 rfl (lv_at hl 2 rfl) ?_
        refine lv_iadd hx hb dX10_shift_132 ?_
        refine lv_topi (fun z13 ez13 => ?_)
        have tz13 := tn_add ez13 rfl rfl (by omega) (by omega)
        refine lv_iload hx hb dX10_shift_133 (lv_at hl 6 rfl) ?_
        refine lv_iadd hx hb dX10_shift_135 ?_
        refine lv_topi (fun z14 ez14 => ?_)
        have tz14 := tn_add ez14 rfl rfl (by omega) (by omega)
        refine mc_lald E hG hoa11 mal_23 (t_in (by omega) (by omega)) dX10_shift_136 (fun z15 => ?_)
        refine mc_last E hG hoa10 mal_24 (qnl (by unfold mCu; decide) (by decide)) (t_in (by omega) (by omega)) dX10_shift_137 (fun H locs hG => ?_)
        obtain ⟨z16, ez16⟩ : ∃ y : Int32, y = v6 + (1) := ⟨_, rfl⟩
        refine lv_iinc (v := z16) (lv' := [(6, .int z16), (0, .ref h0), (1, .int x1), (2, .int x2), (3, .int x3), (4, .int x4), (5, .int x5)]) hx hb dX10_shift_138 hl (k := 6) rfl (by rw [ez16]; rfl) (by decide) rfl (fun ls hl => ?_)
        have tz16 := tn_add ez16 rfl kI_1 (by omega) (by omega)
        refine lv_goto (tgt := 110) hx hb dX10_shift_141 (by decide) ?_
        exact ih110 H locs ls z16 hG (lv_sub hl [1, 2, 3, 4, 5, 6, 0] rfl) (by omega) (by omega) (by omega) (by omega) (by omega) (by omega) (by omega) (by omega) (by omega) (by have k0 := kI_0; have k1 := kI_1; omega) (by omega)
  refine lv_iload_n hx hb dX10_shift_0 rfl (lv_at hl 1 rfl) ?_
  refine tc_callp (mc_runS (As := [.int x1]) (rest := []) E hG (c_X10_isTape l G (σ, cu, qX (upA a cu ta)) x1) ks_X10_isTape ml_X10_440 ⟨rfl, rfl, Nat.le_of_ble_eq_true rfl, Nat.le_of_ble_eq_true rfl⟩ rfl hl.1 rfl (Nat.le_of_ble_eq_true rfl) ⟨Nat.zero_le _, Nat.zero_le _⟩ dX10_shift_1) (fun r17 pr17 => ?_)
  replace pr17 : (r17.toInt = 1 ∧ 0 ≤ x1.toInt ∧ x1.toInt ≤ 3) ∨ (r17.toInt = 0 ∧ (x1.toInt < 0 ∨ 3 < x1.toInt)) := pr17
  refine lv_if_eq (tgt := 14) hx hb dX10_shift_4 (by decide) (fun c18 => ?_) (fun c18 => ?_)
  · skip
    have ic18 := tn_eq rfl kI_0 c18
    refine lv_iconst (v := -1) hx hb dX10_shift_14 (by decide) ?_
    exact mc_iretX E hr hlk hG rfl rfl ⟨_, rfl, (by first | assumption | exact ⟨rfl, rfl, fun _ _ _ _ _ => rfl⟩), hI⟩ dX10_shift_15
  · skip
    have ic18 := tn_ne rfl kI_0 c18
    refine lv_iload_n hx hb dX10_shift_7 rfl (lv_at hl 3 rfl) ?_
    refine tc_callp (mc_runS (As := [.int x3]) (rest := []) E hG (c_X10_isTape l G (σ, cu, qX (upA a cu ta)) x3) ks_X10_isTape ml_X10_440 ⟨rfl, rfl, Nat.le_of_ble_eq_true rfl, Nat.le_of_ble_eq_true rfl⟩ rfl hl.1 rfl (Nat.le_of_ble_eq_true rfl) ⟨Nat.zero_le _, Nat.zero_le _⟩ dX10_shift_8) (fun r19 pr19 => ?_)
    replace pr19 : (r19.toInt = 1 ∧ 0 ≤ x3.toInt ∧ x3.toInt ≤ 3) ∨ (r19.toInt = 0 ∧ (x3.toInt < 0 ∨ 3 < x3.toInt)) := pr19
    refine lv_if_ne (tgt := 16) hx hb dX10_shift_11 (by decide) (fun c20 => ?_) (fun c20 => ?_)
    · skip
      have ic20 := tn_ne rfl kI_0 c20
      refine lv_aload_n hx hb dX10_shift_16 rfl (lv_at hl 0 rfl) ?_
      refine mc_getr E hG t0 mr_72 dX10_shift_17 (fun oa21 hoa21 => ?_)
      refine lv_iload_n hx hb dX10_shift_20 rfl (lv_at hl 1 rfl) ?_
      refine mc_iald E hG hoa21 ma_21 (t_in (by omega) (by omega)) dX10_shift_21 (fun z22 lz22 uz22 qz22 => ?_)
      refine lv_if_eq (tgt := 34) hx hb dX10_shift_22 (by decide) (fun c23 => ?_) (fun c23 => ?_)
      · skip
        have ic23 := tn_eq rfl kI_0 c23
        refine lv_bipush (v := -11) hx hb dX10_shift_34 (by decide) ?_
        exact mc_iretX E hr hlk hG rfl rfl ⟨_, rfl, (by first | assumption | exact ⟨rfl, rfl, fun _ _ _ _ _ => rfl⟩), hI⟩ dX10_shift_36
      · skip
        have ic23 := tn_ne rfl kI_0 c23
        refine lv_aload_n hx hb dX10_shift_25 rfl (lv_at hl 0 rfl) ?_
        refine mc_getr E hG t0 mr_72 dX10_shift_26 (fun oa24 hoa24 => ?_)
        refine lv_iload_n hx hb dX10_shift_29 rfl (lv_at hl 3 rfl) ?_
        refine mc_iald E hG hoa24 ma_21 (t_in (by omega) (by omega)) dX10_shift_30 (fun z25 lz25 uz25 qz25 => ?_)
        refine lv_if_ne (tgt := 37) hx hb dX10_shift_31 (by decide) (fun c26 => ?_) (fun c26 => ?_)
        · skip
          have ic26 := tn_ne rfl kI_0 c26
          refine lv_aload_n hx hb dX10_shift_37 rfl (lv_at hl 0 rfl) ?_
          refine mc_getr E hG t0 mr_72 dX10_shift_38 (fun oa27 hoa27 => ?_)
          refine lv_iload_n hx hb dX10_shift_41 rfl (lv_at hl 1 rfl) ?_
          refine mc_iald E hG hoa27 ma_21 (t_in (by omega) (by omega)) dX10_shift_42 (fun z28 lz28 uz28 qz28 => ?_)
          refine lv_aload_n hx hb dX10_shift_43 rfl (lv_at hl 0 rfl) ?_
          refine mc_getr E hG t0 mr_72 dX10_shift_44 (fun oa29 hoa29 => ?_)
          refine lv_iload_n hx hb dX10_shift_47 rfl (lv_at hl 3 rfl) ?_
          refine mc_iald E hG hoa29 ma_21 (t_in (by omega) (by omega)) dX10_shift_48 (fun z30 lz30 uz30 qz30 => ?_)
          refine lv_icmp_eq (tgt := 55) hx hb dX10_shift_49 (by decide) (fun c31 => ?_) (fun c31 => ?_)
          · skip
            have ic31 := tn_eq rfl rfl c31
            refine lv_iload hx hb dX10_shift_55 (lv_at hl 5 rfl) ?_
            refine lv_if_lt (tgt := 104) hx hb dX10_shift_57 (by decide) (fun c32 => ?_) (fun c32 => ?_)
            · skip
              have ic32 := tn_lt rfl kI_0 c32
              refine lv_bipush (v := -13) hx hb dX10_shift_104 (by decide) ?_
              exact mc_iretX E hr hlk hG rfl rfl ⟨_, rfl, (by first | assumption | exact ⟨rfl, rfl, fun _ _ _ _ _ => rfl⟩), hI⟩ dX10_shift_106
            · skip
              have ic32 := tn_nlt rfl kI_0 c32
              refine lv_iload_n hx hb dX10_shift_60 rfl (lv_at hl 2 rfl) ?_
              refine lv_if_lt (tgt := 104) hx hb dX10_shift_61 (by decide) (fun c33 => ?_) (fun c33 => ?_)
              · skip
                have ic33 := tn_lt rfl kI_0 c33
                refine lv_bipush (v := -13) hx hb dX10_shift_104 (by decide) ?_
                exact mc_iretX E hr hlk hG rfl rfl ⟨_, rfl, (by first | assumption | exact ⟨rfl, rfl, fun _ _ _ _ _ => rfl⟩), hI⟩ dX10_shift_106
              · skip
                have ic33 := tn_nlt rfl kI_0 c33
                refine lv_iload hx hb dX10_shift_64 (lv_at hl 4 rfl) ?_
                refine lv_if_lt (tgt := 104) hx hb dX10_shift_66 (by decide) (fun c34 => ?_) (fun c34 => ?_)
                · skip
                  have ic34 := tn_lt rfl kI_0 c34
                  refine lv_bipush (v := -13) hx hb dX10_shift_104 (by decide) ?_
                  exact mc_iretX E hr hlk hG rfl rfl ⟨_, rfl, (by first | assumption | exact ⟨rfl, rfl, fun _ _ _ _ _ => rfl⟩), hI⟩ dX10_shift_106
                · skip
                  have ic34 := tn_nlt rfl kI_0 c34
                  refine lv_iload_n hx hb dX10_shift_69 rfl (lv_at hl 2 rfl) ?_
                  refine lv_i2l hx hb dX10_shift_70 rfl ?_
                  refine lv_topl (fun z35 ez35 => ?_)
                  have tz35 := tl_i2l ez35
                  refine lv_iload hx hb dX10_shift_71 (lv_at hl 5 rfl) ?_
                  refine lv_i2l hx hb dX10_shift_73 rfl ?_
                  refine lv_topl (fun z36 ez36 => ?_)
                  have tz36 := tl_i2l ez36
                  refine lv_ladd hx hb dX10_shift_74 ?_
                  refine lv_topl (fun z37 ez37 => ?_)
                  have y38 := t_any2 x2
                  have y39 := t_any2 x5
                  have tz37 := tl_add ez37 tz35 tz36 (by omega) (by omega)
                  refine lv_aload_n hx hb dX10_shift_75 rfl (lv_at hl 0 rfl) ?_
                  refine mc_getr E hG t0 mr_75 dX10_shift_76 (fun oa40 hoa40 => ?_)
                  refine lv_iload_n hx hb dX10_shift_79 rfl (lv_at hl 1 rfl) ?_
                  refine mc_iald E hG hoa40 ma_22 (t_in (by omega) (by omega)) dX10_shift_80 (fun z41 lz41 uz41 qz41 => ?_)
                  refine lv_i2l hx hb dX10_shift_81 rfl ?_
                  refine lv_topl (fun z42 ez42 => ?_)
                  have tz42 := tl_i2l ez42
                  refine W.lcmp hx hb dX10_shift_82 ?_
                  refine lv_topi (fun z43 ez43 => ?_)
                  have tz43 := tl_cmp ez43
                  refine lv_if_gt (tgt := 104) hx hb dX10_shift_83 (by decide) (fun c44 => ?_) (fun c44 => ?_)
                  · skip
                    have ic44 := tn_lt kI_0 rfl c44
                    refine lv_bipush (v := -13) hx hb dX10_shift_104 (by decide) ?_
                    exact mc_iretX E hr hlk hG rfl rfl ⟨_, rfl, (by first | assumption | exact ⟨rfl, rfl, fun _ _ _ _ _ => rfl⟩), hI⟩ dX10_shift_106
                  · skip
                    have ic44 := tn_nlt kI_0 rfl c44
                    refine lv_iload hx hb dX10_shift_86 (lv_at hl 4 rfl) ?_
                    refine lv_i2l hx hb dX10_shift_88 rfl ?_
                    refine lv_topl (fun z45 ez45 => ?_)
                    have tz45 := tl_i2l ez45
                    refine lv_iload hx hb dX10_shift_89 (lv_at hl 5 rfl) ?_
                    refine lv_i2l hx hb dX10_shift_91 rfl ?_
                    refine lv_topl (fun z46 ez46 => ?_)
                    have tz46 := tl_i2l ez46
                    refine lv_ladd hx hb dX10_shift_92 ?_
                    refine lv_topl (fun z47 ez47 => ?_)
                    have y48 := t_any2 x4
                    have y49 := t_any2 x5
                    have tz47 := tl_add ez47 tz45 tz46 (by omega) (by omega)
                    refine lv_aload_n hx hb dX10_shift_93 rfl (lv_at hl 0 rfl) ?_
                    refine mc_getr E hG t0 mr_75 dX10_shift_94 (fun oa50 hoa50 => ?_)
                    refine lv_iload_n hx hb dX10_shift_97 rfl (lv_at hl 3 rfl) ?_
                    refine mc_iald E hG hoa50 ma_22 (t_in (by omega) (by omega)) dX10_shift_98 (fun z51 lz51 uz51 qz51 => ?_)
                    refine lv_i2l hx hb dX10_shift_99 rfl ?_
                    refine lv_topl (fun z52 ez52 => ?_)
                    have tz52 := tl_i2l ez52
                    refine W.lcmp hx hb dX10_shift_100 ?_
                    refine lv_topi (fun z53 ez53 => ?_)
                    have tz53 := tl_cmp ez53
                    refine lv_if_le (tgt := 107) hx hb dX10_shift_101 (by decide) (fun c54 => ?_) (fun c54 => ?_)
                    · skip
                      have ic54 := tn_le rfl kI_0 c54
                      refine lv_iconst (v := 0) hx hb dX10_shift_107 (by decide) ?_
                      refine lv_istore (lv' := [(6, .int 0), (0, .ref h0), (1, .int x1), (2, .int x2), (3, .int x3), (4, .int x4), (5, .int x5)]) hx hb dX10_shift_108 hl (by decide) rfl (fun ls hl => ?_)
                      exact J110 ((60 - (0 : Int32).toInt).toNat + 1) H locs ls (0 : Int32) hG (lv_sub hl [1, 2, 3, 4, 5, 6, 0] rfl) (by omega) (by omega) (by omega) (by omega) (by omega) (by omega) (by omega) (by decide) (by decide) (by have k0 := kI_0; have k1 := kI_1; omega) (Nat.lt_succ_self _)
                    · skip
                      have ic54 := tn_nle rfl kI_0 c54
                      refine lv_bipush (v := -13) hx hb dX10_shift_104 (by decide) ?_
                      exact mc_iretX E hr hlk hG rfl rfl ⟨_, rfl, (by first | assumption | exact ⟨rfl, rfl, fun _ _ _ _ _ => rfl⟩), hI⟩ dX10_shift_106
          · skip
            have ic31 := tn_ne rfl rfl c31
            refine lv_bipush (v := -12) hx hb dX10_shift_52 (by decide) ?_
            exact mc_iretX E hr hlk hG rfl rfl ⟨_, rfl, (by first | assumption | exact ⟨rfl, rfl, fun _ _ _ _ _ => rfl⟩), hI⟩ dX10_shift_54
        · skip
          have ic26 := tn_eq rfl kI_0 c26
          refine lv_bipush (v := -11) hx hb dX10_shift_34 (by decide) ?_
          exact mc_iretX E hr hlk hG rfl rfl ⟨_, rfl, (by first | assumption | exact ⟨rfl, rfl, fun _ _ _ _ _ => rfl⟩), hI⟩ dX10_shift_36
    · skip
      have ic20 := tn_eq rfl kI_0 c20
      refine lv_iconst (v := -1) hx hb dX10_shift_14 (by decide) ?_
      exact mc_iretX E hr hlk hG rfl rfl ⟨_, rfl, (by first | assumption | exact ⟨rfl, rfl, fun _ _ _ _ _ => rfl⟩), hI⟩ dX10_shift_15

set_option maxHeartbeats 4000000 in
set_option maxRecDepth 100000 in
theorem c_X10_asks (l : Launch) (G : tG) (σ : Nat → Nat) (cu : Nat) (a : Nat → Option (Nat → Int32)) (ta : Nat → Int32) (h0 : Nat) (x1 : Int32) (x2 : Int32) (t0 : σ h0 = 1) (hIa : TInv ta) : Met l yX10_asks (.code yX10_asks cX10_asks 3 (some .int) :: tWS) (tRm 6 142) (va_Pc [.ref h0, .int x1, .int x2] (mPre G (σ, cu, qX (upA a cu ta)))) (mQiX G (σ, cu, qX (upA a cu ta)) (fun r Z => ∃ t : Nat → Int32, Z = (σ, cu, qX (upA a cu t)) ∧ AG ta t ∧ TInv t)) 0 0 (mA (σ, cu, qX (upA a cu ta))) := by
  refine mc_met (by decide) (Nat.le_of_ble_eq_true rfl) ?_
  intro p e s m below meth c E hr hlk hG ls hl
  have hl : lv_has ls 3 [(0, .ref h0), (1, .int x1), (2, .int x2)] := hl
  have hx := E.1
  have hb := E.2.1
  obtain ⟨H, eH⟩ : ∃ H, H = s.heap := ⟨_, rfl⟩
  obtain ⟨locs, eL⟩ : ∃ x : List Loc, x = [] := ⟨_, rfl⟩
  have hG : mGH G (σ, cu, qX (upA a cu ta)) s H locs := by rw [eH, eL]; exact hG
  suffices hW : W p l e (tRm 6 142) s m ([.ref h0, .int x1, .int x2] : List Value).toArray below meth c H locs 0 0 (MQ below (mQiX G (σ, cu, qX (upA a cu ta)) (fun r Z => ∃ t : Nat → Int32, Z = (σ, cu, qX (upA a cu t)) ∧ AG ta t ∧ TInv t)) ([.ref h0, .int x1, .int x2] : List Value).toArray s 0 0 (mA (σ, cu, qX (upA a cu ta)))) (F0 m 0 ls []) by subst eH; subst eL; exact hW
  clear eH eL
  have hcu : mCu cu := hG.2.2.1
  have hI := hIa
  refine lv_aload_n hx hb dX10_asks_0 rfl (lv_at hl 0 rfl) ?_
  refine lv_iload_n hx hb dX10_asks_1 rfl (lv_at hl 1 rfl) ?_
  refine tc_callp (mc_runV (As := [.int x1]) (rest := []) E hG (c_X10_isBox l G (σ, cu, qX (upA a cu ta)) h0 x1 t0) t0 rfl kv_X10_isBox ml_X10_127 ⟨rfl, rfl, Nat.le_of_ble_eq_true rfl, Nat.le_of_ble_eq_true rfl⟩ rfl hl.1 rfl (Nat.le_of_ble_eq_true rfl) ⟨Nat.zero_le _, Nat.zero_le _⟩ dX10_asks_2) (fun r1 pr1 => ?_)
  replace pr1 : (r1.toInt = 1 ∧ 0 ≤ x1.toInt ∧ x1.toInt ≤ 23 ∧ mV (σ, cu, qX (upA a cu ta)) (ix x1.toInt 0) 1) ∨ (r1.toInt = 0 ∧ (x1.toInt < 0 ∨ 23 < x1.toInt ∨ ∃ v : Int32, ¬ v.toInt = 1 ∧ mV (σ, cu, qX (upA a cu ta)) (ix x1.toInt 0) v)) := pr1
  have cr1 := mB pr1 (qX_TI hcu upA_at) hI
  clear pr1
  refine lv_if_eq (tgt := 27) hx hb dX10_asks_5 (by decide) (fun c2 => ?_) (fun c2 => ?_)
  · skip
    have ic2 := tn_eq rfl kI_0 c2
    refine lv_iconst (v := -1) hx hb dX10_asks_27 (by decide) ?_
    exact mc_iretX E hr hlk hG rfl rfl ⟨_, rfl, (by first | assumption | exact ⟨rfl, rfl, fun _ _ _ _ _ => rfl⟩), hI⟩ dX10_asks_28
  · skip
    have ic2 := tn_ne rfl kI_0 c2
    refine lv_iload_n hx hb dX10_asks_8 rfl (lv_at hl 2 rfl) ?_
    refine lv_i2l hx hb dX10_asks_9 rfl ?_
    refine lv_topl (fun z3 ez3 => ?_)
    have tz3 := tl_i2l ez3
    refine lv_lconst (v := 0) hx hb dX10_asks_10 (by decide) ?_
    refine lv_topl (fun z4 ez4 => ?_)
    have tz4 : z4.toInt = 0 := by rw [ez4]; decide
    refine lv_lconst (v := 1) hx hb dX10_asks_11 (by decide) ?_
    refine lv_topl (fun z5 ez5 => ?_)
    have tz5 : z5.toInt = 1 := by rw [ez5]; decide
    refine tc_callp (mc_runS (As := [.long z3, .long z4, .long z5]) (rest := []) E hG (c_X10_in l G (σ, cu, qX (upA a cu ta)) z3 z4 z5) ks_X10_in ml_X10_87 ⟨rfl, rfl, Nat.le_of_ble_eq_true rfl, Nat.le_of_ble_eq_true rfl⟩ rfl hl.1 rfl (Nat.le_of_ble_eq_true rfl) ⟨Nat.zero_le _, Nat.zero_le _⟩ dX10_asks_12) (fun r6 pr6 => ?_)
    replace pr6 : ((r6.toInt = 1 ∧ z4.toInt ≤ z3.toInt ∧ z3.toInt ≤ z5.toInt) ∨ (r6.toInt = 0 ∧ (z3.toInt < z4.toInt ∨ z5.toInt < z3.toInt))) := pr6
    refine lv_if_eq (tgt := 27) hx hb dX10_asks_15 (by decide) (fun c7 => ?_) (fun c7 => ?_)
    · skip
      have ic7 := tn_eq rfl kI_0 c7
      refine lv_iconst (v := -1) hx hb dX10_asks_27 (by decide) ?_
      exact mc_iretX E hr hlk hG rfl rfl ⟨_, rfl, (by first | assumption | exact ⟨rfl, rfl, fun _ _ _ _ _ => rfl⟩), hI⟩ dX10_asks_28
    · skip
      have ic7 := tn_ne rfl kI_0 c7
      refine lv_aload_n hx hb dX10_asks_18 rfl (lv_at hl 0 rfl) ?_
      refine lv_iload_n hx hb dX10_asks_19 rfl (lv_at hl 1 rfl) ?_
      refine lv_iload_n hx hb dX10_asks_20 rfl (lv_at hl 2 rfl) ?_
      refine mc_calli hG (mc_runV (As := [.int x1, .int x2]) (rest := []) E hG (c_X10_asksIt l G σ cu (qX (upA a cu ta)) h0 x1 x2 t0 (by omega) (by omega) (by omega) (by omega) ta (qX_TI hcu upA_at) hI (qX_AV hcu) (by omega)) t0 rfl kv_X10_asksIt ml_X10_206 ⟨rfl, rfl, Nat.le_of_ble_eq_true rfl, Nat.le_of_ble_eq_true rfl⟩ rfl hl.1 rfl (Nat.le_of_ble_eq_true rfl) ⟨Nat.zero_le _, Nat.zero_le _⟩ dX10_asks_21) (fun r8 H locs pr8 hG => ?_)
      refine lv_goto (tgt := 28) hx hb dX10_asks_24 (by decide) ?_
      exact mc_iretX E hr hlk hG rfl rfl ⟨_, rfl, (by first | assumption | exact ⟨rfl, rfl, fun _ _ _ _ _ => rfl⟩), hI⟩ dX10_asks_28

set_option maxHeartbeats 4000000 in
set_option maxRecDepth 100000 in
theorem c_X10_at (l : Launch) (G : tG) (σ : Nat → Nat) (cu : Nat) (a : Nat → Option (Nat → Int32)) (ta : Nat → Int32) (h0 : Nat) (x1 : Int32) (x2 : Int32) (t0 : σ h0 = 1) (hIa : TInv ta) : Met l yX10_at (.code yX10_at cX10_at 3 (some .int) :: tWS) (tRm 3 70) (va_Pc [.ref h0, .int x1, .int x2] (mPre G (σ, cu, qX (upA a cu ta)))) (mQiX G (σ, cu, qX (upA a cu ta)) (fun r Z => ∃ t : Nat → Int32, Z = (σ, cu, qX (upA a cu t)) ∧ AG ta t ∧ TInv t)) 0 0 (mA (σ, cu, qX (upA a cu ta))) := by
  refine mc_met (by decide) (Nat.le_of_ble_eq_true rfl) ?_
  intro p e s m below meth c E hr hlk hG ls hl
  have hl : lv_has ls 3 [(0, .ref h0), (1, .int x1), (2, .int x2)] := hl
  have hx := E.1
  have hb := E.2.1
  obtain ⟨H, eH⟩ : ∃ H, H = s.heap := ⟨_, rfl⟩
  obtain ⟨locs, eL⟩ : ∃ x : List Loc, x = [] := ⟨_, rfl⟩
  have hG : mGH G (σ, cu, qX (upA a cu ta)) s H locs := by rw [eH, eL]; exact hG
  suffices hW : W p l e (tRm 3 70) s m ([.ref h0, .int x1, .int x2] : List Value).toArray below meth c H locs 0 0 (MQ below (mQiX G (σ, cu, qX (upA a cu ta)) (fun r Z => ∃ t : Nat → Int32, Z = (σ, cu, qX (upA a cu t)) ∧ AG ta t ∧ TInv t)) ([.ref h0, .int x1, .int x2] : List Value).toArray s 0 0 (mA (σ, cu, qX (upA a cu ta)))) (F0 m 0 ls []) by subst eH; subst eL; exact hW
  clear eH eL
  have hcu : mCu cu := hG.2.2.1
  have hI := hIa
  refine lv_aload_n hx hb dX10_at_0 rfl (lv_at hl 0 rfl) ?_
  refine lv_iload_n hx hb dX10_at_1 rfl (lv_at hl 1 rfl) ?_
  refine tc_callp (mc_runV (As := [.int x1]) (rest := []) E hG (c_X10_isBox l G (σ, cu, qX (upA a cu ta)) h0 x1 t0) t0 rfl kv_X10_isBox ml_X10_127 ⟨rfl, rfl, Nat.le_of_ble_eq_true rfl, Nat.le_of_ble_eq_true rfl⟩ rfl hl.1 rfl (Nat.le_of_ble_eq_true rfl) ⟨Nat.zero_le _, Nat.zero_le _⟩ dX10_at_2) (fun r1 pr1 => ?_)
  replace pr1 : (r1.toInt = 1 ∧ 0 ≤ x1.toInt ∧ x1.toInt ≤ 23 ∧ mV (σ, cu, qX (upA a cu ta)) (ix x1.toInt 0) 1) ∨ (r1.toInt = 0 ∧ (x1.toInt < 0 ∨ 23 < x1.toInt ∨ ∃ v : Int32, ¬ v.toInt = 1 ∧ mV (σ, cu, qX (upA a cu ta)) (ix x1.toInt 0) v)) := pr1
  have cr1 := mB pr1 (qX_TI hcu upA_at) hI
  clear pr1
  refine lv_if_eq (tgt := 20) hx hb dX10_at_5 (by decide) (fun c2 => ?_) (fun c2 => ?_)
  · skip
    have ic2 := tn_eq rfl kI_0 c2
    refine lv_iconst (v := -1) hx hb dX10_at_20 (by decide) ?_
    exact mc_iretX E hr hlk hG rfl rfl ⟨_, rfl, (by first | assumption | exact ⟨rfl, rfl, fun _ _ _ _ _ => rfl⟩), hI⟩ dX10_at_21
  · skip
    have ic2 := tn_ne rfl kI_0 c2
    refine lv_iload_n hx hb dX10_at_8 rfl (lv_at hl 2 rfl) ?_
    refine lv_i2l hx hb dX10_at_9 rfl ?_
    refine lv_topl (fun z3 ez3 => ?_)
    have tz3 := tl_i2l ez3
    refine lv_lconst (v := 0) hx hb dX10_at_10 (by decide) ?_
    refine lv_topl (fun z4 ez4 => ?_)
    have tz4 : z4.toInt = 0 := by rw [ez4]; decide
    refine lv_ldc2 (v := 8) hx hb E.2.2.2.1 (E.2.2.2.2.1 _ (t_w7 203 rfl rfl)) dX10_at_11 ?_
    refine lv_topl (fun z5 ez5 => ?_)
    have tz5 : z5.toInt = 8 := by rw [ez5]; decide
    refine tc_callp (mc_runS (As := [.long z3, .long z4, .long z5]) (rest := []) E hG (c_X10_in l G (σ, cu, qX (upA a cu ta)) z3 z4 z5) ks_X10_in ml_X10_87 ⟨rfl, rfl, Nat.le_of_ble_eq_true rfl, Nat.le_of_ble_eq_true rfl⟩ rfl hl.1 rfl (Nat.le_of_ble_eq_true rfl) ⟨Nat.zero_le _, Nat.zero_le _⟩ dX10_at_14) (fun r6 pr6 => ?_)
    replace pr6 : ((r6.toInt = 1 ∧ z4.toInt ≤ z3.toInt ∧ z3.toInt ≤ z5.toInt) ∨ (r6.toInt = 0 ∧ (z3.toInt < z4.toInt ∨ z5.toInt < z3.toInt))) := pr6
    refine lv_if_ne (tgt := 22) hx hb dX10_at_17 (by decide) (fun c7 => ?_) (fun c7 => ?_)
    · skip
      have ic7 := tn_ne rfl kI_0 c7
      refine lv_iload_n hx hb dX10_at_22 rfl (lv_at hl 2 rfl) ?_
      refine lv_bipush (v := 8) hx hb dX10_at_23 (by decide) ?_
      refine lv_icmp_ne (tgt := 35) hx hb dX10_at_25 (by decide) (fun c8 => ?_) (fun c8 => ?_)
      · skip
        have ic8 := tn_ne rfl kI_8 c8
        refine lv_aload_n hx hb dX10_at_35 rfl (lv_at hl 0 rfl) ?_
        refine lv_iload_n hx hb dX10_at_36 rfl (lv_at hl 1 rfl) ?_
        refine lv_bipush (v := 25) hx hb dX10_at_37 (by decide) ?_
        refine tc_callp (mc_runV (As := [.int x1, .int 25]) (rest := []) E hG (c_X10_get l G (σ, cu, qX (upA a cu ta)) h0 x1 (25 : Int32) t0 (by omega) (by omega) (by decide) (by decide)) t0 rfl kv_X10_get ml_X10_91 ⟨rfl, rfl, Nat.le_of_ble_eq_true rfl, Nat.le_of_ble_eq_true rfl⟩ rfl hl.1 rfl (Nat.le_of_ble_eq_true rfl) ⟨Nat.zero_le _, Nat.zero_le _⟩ dX10_at_39) (fun r9 pr9 => ?_)
        replace pr9 : mV (σ, cu, qX (upA a cu ta)) (ix x1.toInt (25 : Int32).toInt) r9 := pr9
        have pr9 := mV_l pr9 kI_25
        have br9 := mV_25 pr9 (by omega)
        have k10 := kI_25
        refine lv_if_ne (tgt := 47) hx hb dX10_at_42 (by decide) (fun c11 => ?_) (fun c11 => ?_)
        · skip
          have ic11 := tn_ne rfl kI_0 c11
          refine lv_iload_n hx hb dX10_at_47 rfl (lv_at hl 2 rfl) ?_
          rcases (show (x2.toInt < 0 ∨ 6 < x2.toInt) ∨ x2.toInt = 0 ∨ x2.toInt = 1 ∨ x2.toInt = 2 ∨ x2.toInt = 3 ∨ x2.toInt = 4 ∨ x2.toInt = 5 ∨ x2.toInt = 6 by omega) with k12 | k12 | k12 | k12 | k12 | k12 | k12 | k12
          · refine lv_tableOut (tgt := 134) hx hb dX10_at_48 k12 (by decide) ?_
            refine lv_aload_n hx hb dX10_at_134 rfl (lv_at hl 0 rfl) ?_
            refine lv_iload_n hx hb dX10_at_135 rfl (lv_at hl 1 rfl) ?_
            refine lv_bipush (v := 35) hx hb dX10_at_136 (by decide) ?_
            refine tc_callp (mc_runV (As := [.int x1, .int 35]) (rest := []) E hG (c_X10_get l G (σ, cu, qX (upA a cu ta)) h0 x1 (35 : Int32) t0 (by omega) (by omega) (by decide) (by decide)) t0 rfl kv_X10_get ml_X10_91 ⟨rfl, rfl, Nat.le_of_ble_eq_true rfl, Nat.le_of_ble_eq_true rfl⟩ rfl hl.1 rfl (Nat.le_of_ble_eq_true rfl) ⟨Nat.zero_le _, Nat.zero_le _⟩ dX10_at_138) (fun r13 pr13 => ?_)
            replace pr13 : mV (σ, cu, qX (upA a cu ta)) (ix x1.toInt (35 : Int32).toInt) r13 := pr13
            have pr13 := mV_l pr13 kI_35
            have k14 := kI_35
            exact mc_iretX E hr hlk hG rfl rfl ⟨_, rfl, (by first | assumption | exact ⟨rfl, rfl, fun _ _ _ _ _ => rfl⟩), hI⟩ dX10_at_141
          · refine lv_tableIn (off := 44) (tgt := 92) hx hb dX10_at_48 (by rw [k12]; decide) (by rw [k12]; decide) (by rw [k12]; rfl) (by decide) ?_
            refine lv_aload_n hx hb dX10_at_92 rfl (lv_at hl 0 rfl) ?_
            refine lv_iload_n hx hb dX10_at_93 rfl (lv_at hl 1 rfl) ?_
            refine lv_bipush (v := 30) hx hb dX10_at_94 (by decide) ?_
            refine lv_iload_n hx hb dX10_at_96 rfl (lv_at hl 2 rfl) ?_
            refine lv_iadd hx hb dX10_at_97 ?_
            refine lv_topi (fun z15 ez15 => ?_)
            have tz15 := tn_add ez15 kI_30 rfl (by omega) (by omega)
            refine tc_callp (mc_runV (As := [.int x1, .int z15]) (rest := []) E hG (c_X10_get l G (σ, cu, qX (upA a cu ta)) h0 x1 z15 t0 (by omega) (by omega) (by omega) (by omega)) t0 rfl kv_X10_get ml_X10_91 ⟨rfl, rfl, Nat.le_of_ble_eq_true rfl, Nat.le_of_ble_eq_true rfl⟩ rfl hl.1 rfl (Nat.le_of_ble_eq_true rfl) ⟨Nat.zero_le _, Nat.zero_le _⟩ dX10_at_98) (fun r16 pr16 => ?_)
            replace pr16 : mV (σ, cu, qX (upA a cu ta)) (ix x1.toInt z15.toInt) r16 := pr16
            exact mc_iretX E hr hlk hG rfl rfl ⟨_, rfl, (by first | assumption | exact ⟨rfl, rfl, fun _ _ _ _ _ => rfl⟩), hI⟩ dX10_at_101
          · refine lv_tableIn (off := 44) (tgt := 92) hx hb dX10_at_48 (by rw [k12]; decide) (by rw [k12]; decide) (by rw [k12]; rfl) (by decide) ?_
            refine lv_aload_n hx hb dX10_at_92 rfl (lv_at hl 0 rfl) ?_
            refine lv_iload_n hx hb dX10_at_93 rfl (lv_at hl 1 rfl) ?_
            refine lv_bipush (v := 30) hx hb dX10_at_94 (by decide) ?_
            refine lv_iload_n hx hb dX10_at_96 rfl (lv_at hl 2 rfl) ?_
            refine lv_iadd hx hb dX10_at_97 ?_
            refine lv_topi (fun z17 ez17 => ?_)
            have tz17 := tn_add ez17 kI_30 rfl (by omega) (by omega)
            refine tc_callp (mc_runV (As := [.int x1, .int z17]) (rest := []) E hG (c_X10_get l G (σ, cu, qX (upA a cu ta)) h0 x1 z17 t0 (by omega) (by omega) (by omega) (by omega)) t0 rfl kv_X10_get ml_X10_91 ⟨rfl, rfl, Nat.le_of_ble_eq_true rfl, Nat.le_of_ble_eq_true rfl⟩ rfl hl.1 rfl (Nat.le_of_ble_eq_true rfl) ⟨Nat.zero_le _, Nat.zero_le _⟩ dX10_at_98) (fun r18 pr18 => ?_)
            replace pr18 : mV (σ, cu, qX (upA a cu ta)) (ix x1.toInt z17.toInt) r18 := pr18
            exact mc_iretX E hr hlk hG rfl rfl ⟨_, rfl, (by first | assumption | exact ⟨rfl, rfl, fun _ _ _ _ _ => rfl⟩), hI⟩ dX10_at_101
          · refine lv_tableIn (off := 54) (tgt := 102) hx hb dX10_at_48 (by rw [k12]; decide) (by rw [k12]; decide) (by rw [k12]; rfl) (by decide) ?_
            refine lv_aload_n hx hb dX10_at_102 rfl (lv_at hl 0 rfl) ?_
            refine lv_iload_n hx hb dX10_at_103 rfl (lv_at hl 1 rfl) ?_
            refine lv_bipush (v := 30) hx hb dX10_at_104 (by decide) ?_
            refine lv_iload_n hx hb dX10_at_106 rfl (lv_at hl 2 rfl) ?_
            refine lv_iadd hx hb dX10_at_107 ?_
            refine lv_topi (fun z19 ez19 => ?_)
            have tz19 := tn_add ez19 kI_30 rfl (by omega) (by omega)
            refine lv_iconst (v := 2) hx hb dX10_at_108 (by decide) ?_
            refine lv_isub hx hb dX10_at_109 ?_
            refine lv_topi (fun z20 ez20 => ?_)
            have tz20 := tn_sub ez20 rfl kI_2 (by omega) (by omega)
            refine tc_callp (mc_runV (As := [.int x1, .int z20]) (rest := []) E hG (c_X10_inTop l G (σ, cu, qX (upA a cu ta)) h0 x1 z20 t0 (by omega) (by omega) (by omega) (by omega) ta (qX_TI hcu upA_at) hI (by omega)) t0 rfl kv_X10_inTop ml_X10_329 ⟨rfl, rfl, Nat.le_of_ble_eq_true rfl, Nat.le_of_ble_eq_true rfl⟩ rfl hl.1 rfl (Nat.le_of_ble_eq_true rfl) ⟨Nat.zero_le _, Nat.zero_le _⟩ dX10_at_110) (fun r21 pr21 => ?_)
            exact mc_iretX E hr hlk hG rfl rfl ⟨_, rfl, (by first | assumption | exact ⟨rfl, rfl, fun _ _ _ _ _ => rfl⟩), hI⟩ dX10_at_113
          · refine lv_tableIn (off := 54) (tgt := 102) hx hb dX10_at_48 (by rw [k12]; decide) (by rw [k12]; decide) (by rw [k12]; rfl) (by decide) ?_
            refine lv_aload_n hx hb dX10_at_102 rfl (lv_at hl 0 rfl) ?_
            refine lv_iload_n hx hb dX10_at_103 rfl (lv_at hl 1 rfl) ?_
            refine lv_bipush (v := 30) hx hb dX10_at_104 (by decide) ?_
            refine lv_iload_n hx hb dX10_at_106 rfl (lv_at hl 2 rfl) ?_
            refine lv_iadd hx hb dX10_at_107 ?_
            refine lv_topi (fun z22 ez22 => ?_)
            have tz22 := tn_add ez22 kI_30 rfl (by omega) (by omega)
            refine lv_iconst (v := 2) hx hb dX10_at_108 (by decide) ?_
            refine lv_isub hx hb dX10_at_109 ?_
            refine lv_topi (fun z23 ez23 => ?_)
            have tz23 := tn_sub ez23 rfl kI_2 (by omega) (by omega)
            refine tc_callp (mc_runV (As := [.int x1, .int z23]) (rest := []) E hG (c_X10_inTop l G (σ, cu, qX (upA a cu ta)) h0 x1 z23 t0 (by omega) (by omega) (by omega) (by omega) ta (qX_TI hcu upA_at) hI (by omega)) t0 rfl kv_X10_inTop ml_X10_329 ⟨rfl, rfl, Nat.le_of_ble_eq_true rfl, Nat.le_of_ble_eq_true rfl⟩ rfl hl.1 rfl (Nat.le_of_ble_eq_true rfl) ⟨Nat.zero_le _, Nat.zero_le _⟩ dX10_at_110) (fun r24 pr24 => ?_)
            exact mc_iretX E hr hlk hG rfl rfl ⟨_, rfl, (by first | assumption | exact ⟨rfl, rfl, fun _ _ _ _ _ => rfl⟩), hI⟩ dX10_at_113
          · refine lv_tableIn (off := 66) (tgt := 114) hx hb dX10_at_48 (by rw [k12]; decide) (by rw [k12]; decide) (by rw [k12]; rfl) (by decide) ?_
            refine lv_aload_n hx hb dX10_at_114 rfl (lv_at hl 0 rfl) ?_
            refine lv_iload_n hx hb dX10_at_115 rfl (lv_at hl 1 rfl) ?_
            refine lv_bipush (v := 32) hx hb dX10_at_116 (by decide) ?_
            refine lv_iload_n hx hb dX10_at_118 rfl (lv_at hl 2 rfl) ?_
            refine lv_iadd hx hb dX10_at_119 ?_
            refine lv_topi (fun z25 ez25 => ?_)
            have tz25 := tn_add ez25 kI_32 rfl (by omega) (by omega)
            refine lv_iconst (v := 4) hx hb dX10_at_120 (by decide) ?_
            refine lv_isub hx hb dX10_at_121 ?_
            refine lv_topi (fun z26 ez26 => ?_)
            have tz26 := tn_sub ez26 rfl kI_4 (by omega) (by omega)
            refine tc_callp (mc_runV (As := [.int x1, .int z26]) (rest := []) E hG (c_X10_get l G (σ, cu, qX (upA a cu ta)) h0 x1 z26 t0 (by omega) (by omega) (by omega) (by omega)) t0 rfl kv_X10_get ml_X10_91 ⟨rfl, rfl, Nat.le_of_ble_eq_true rfl, Nat.le_of_ble_eq_true rfl⟩ rfl hl.1 rfl (Nat.le_of_ble_eq_true rfl) ⟨Nat.zero_le _, Nat.zero_le _⟩ dX10_at_122) (fun r27 pr27 => ?_)
            replace pr27 : mV (σ, cu, qX (upA a cu ta)) (ix x1.toInt z26.toInt) r27 := pr27
            have br27 := mV_r 32 32 (0) (1000) pr27 (by omega) (by omega) (by omega) (by decide) (by decide)
            exact mc_iretX E hr hlk hG rfl rfl ⟨_, rfl, (by first | assumption | exact ⟨rfl, rfl, fun _ _ _ _ _ => rfl⟩), hI⟩ dX10_at_125
          · refine lv_tableIn (off := 66) (tgt := 114) hx hb dX10_at_48 (by rw [k12]; decide) (by rw [k12]; decide) (by rw [k12]; rfl) (by decide) ?_
            refine lv_aload_n hx hb dX10_at_114 rfl (lv_at hl 0 rfl) ?_
            refine lv_iload_n hx hb dX10_at_115 rfl (lv_at hl 1 rfl) ?_
            refine lv_bipush (v := 32) hx hb dX10_at_116 (by decide) ?_
            refine lv_iload_n hx hb dX10_at_118 rfl (lv_at hl 2 rfl) ?_
            refine lv_iadd hx hb dX10_at_119 ?_
            refine lv_topi (fun z28 ez28 => ?_)
            have tz28 := tn_add ez28 kI_32 rfl (by omega) (by omega)
            refine lv_iconst (v := 4) hx hb dX10_at_120 (by decide) ?_
            refine lv_isub hx hb dX10_at_121 ?_
            refine lv_topi (fun z29 ez29 => ?_)
            have tz29 := tn_sub ez29 rfl kI_4 (by omega) (by omega)
            refine tc_callp (mc_runV (As := [.int x1, .int z29]) (rest := []) E hG (c_X10_get l G (σ, cu, qX (upA a cu ta)) h0 x1 z29 t0 (by omega) (by omega) (by omega) (by omega)) t0 rfl kv_X10_get ml_X10_91 ⟨rfl, rfl, Nat.le_of_ble_eq_true rfl, Nat.le_of_ble_eq_true rfl⟩ rfl hl.1 rfl (Nat.le_of_ble_eq_true rfl) ⟨Nat.zero_le _, Nat.zero_le _⟩ dX10_at_122) (fun r30 pr30 => ?_)
            replace pr30 : mV (σ, cu, qX (upA a cu ta)) (ix x1.toInt z29.toInt) r30 := pr30
            have br30 := mV_r 33 33 (0) (1000) pr30 (by omega) (by omega) (by omega) (by decide) (by decide)
            exact mc_iretX E hr hlk hG rfl rfl ⟨_, rfl, (by first | assumption | exact ⟨rfl, rfl, fun _ _ _ _ _ => rfl⟩), hI⟩ dX10_at_125
          · refine lv_tableIn (off := 78) (tgt := 126) hx hb dX10_at_48 (by rw [k12]; decide) (by rw [k12]; decide) (by rw [k12]; rfl) (by decide) ?_
            refine lv_aload_n hx hb dX10_at_126 rfl (lv_at hl 0 rfl) ?_
            refine lv_iload_n hx hb dX10_at_127 rfl (lv_at hl 1 rfl) ?_
            refine lv_bipush (v := 34) hx hb dX10_at_128 (by decide) ?_
            refine tc_callp (mc_runV (As := [.int x1, .int 34]) (rest := []) E hG (c_X10_get l G (σ, cu, qX (upA a cu ta)) h0 x1 (34 : Int32) t0 (by omega) (by omega) (by decide) (by decide)) t0 rfl kv_X10_get ml_X10_91 ⟨rfl, rfl, Nat.le_of_ble_eq_true rfl, Nat.le_of_ble_eq_true rfl⟩ rfl hl.1 rfl (Nat.le_of_ble_eq_true rfl) ⟨Nat.zero_le _, Nat.zero_le _⟩ dX10_at_130) (fun r31 pr31 => ?_)
            replace pr31 : mV (σ, cu, qX (upA a cu ta)) (ix x1.toInt (34 : Int32).toInt) r31 := pr31
            have pr31 := mV_l pr31 kI_34
            have k32 := kI_34
            exact mc_iretX E hr hlk hG rfl rfl ⟨_, rfl, (by first | assumption | exact ⟨rfl, rfl, fun _ _ _ _ _ => rfl⟩), hI⟩ dX10_at_133
        · skip
          have ic11 := tn_eq rfl kI_0 c11
          refine lv_iconst (v := 0) hx hb dX10_at_45 (by decide) ?_
          exact mc_iretX E hr hlk hG rfl rfl ⟨_, rfl, (by first | assumption | exact ⟨rfl, rfl, fun _ _ _ _ _ => rfl⟩), hI⟩ dX10_at_46
      · skip
        have ic8 := tn_eq rfl kI_8 c8
        refine lv_aload_n hx hb dX10_at_28 rfl (lv_at hl 0 rfl) ?_
        refine lv_iload_n hx hb dX10_at_29 rfl (lv_at hl 1 rfl) ?_
        refine lv_iconst (v := 0) hx hb dX10_at_30 (by decide) ?_
        refine mc_calli hG (mc_runV (As := [.int x1, .int 0]) (rest := []) E hG (c_X10_baseOf l G σ cu (qX (upA a cu ta)) h0 x1 (0 : Int32) t0 (by omega) (by omega) (by decide) (by decide) ta (qX_TI hcu upA_at) hI (qX_AV hcu)) t0 rfl kv_X10_baseOf ml_X10_283 ⟨rfl, rfl, Nat.le_of_ble_eq_true rfl, Nat.le_of_ble_eq_true rfl⟩ rfl hl.1 rfl (Nat.le_of_ble_eq_true rfl) ⟨Nat.zero_le _, Nat.zero_le _⟩ dX10_at_31) (fun r33 H locs pr33 hG => ?_)
        exact mc_iretX E hr hlk hG rfl rfl ⟨_, rfl, (by first | assumption | exact ⟨rfl, rfl, fun _ _ _ _ _ => rfl⟩), hI⟩ dX10_at_34
    · skip
      have ic7 := tn_eq rfl kI_0 c7
      refine lv_iconst (v := -1) hx hb dX10_at_20 (by decide) ?_
      exact mc_iretX E hr hlk hG rfl rfl ⟨_, rfl, (by first | assumption | exact ⟨rfl, rfl, fun _ _ _ _ _ => rfl⟩), hI⟩ dX10_at_21

set_option maxHeartbeats 4000000 in
set_option maxRecDepth 100000 in
theorem c_X10_lays (l : Launch) (G : tG) (σ : Nat → Nat) (cu : Nat) (a : Nat → Option (Nat → Int32)) (ta : Nat → Int32) (h0 : Nat) (t0 : σ h0 = 1) (hIa : TInv ta) : Met l yX10_lays (.code yX10_lays cX10_lays 1 (some .int) :: tWS) (tRm 9 208) (va_Pc [.ref h0] (mPre G (σ, cu, qX (upA a cu ta)))) (mQiX G (σ, cu, qX (upA a cu ta)) (fun r Z => ∃ t : Nat → Int32, Z = (σ, cu, qX (upA a cu t)) ∧ AG ta t ∧ TInv t)) 0 0 (mA (σ, cu, qX (upA a cu ta))) := by
  refine mc_met (by decide) (Nat.le_of_ble_eq_true rfl) ?_
  intro p e s m below meth c E hr hlk hG ls hl
  have hl : lv_has ls 1 [(0, .ref h0)] := hl
  have hx := E.1
  have hb := E.2.1
  obtain ⟨H, eH⟩ : ∃ H, H = s.heap := ⟨_, rfl⟩
  obtain ⟨locs, eL⟩ : ∃ x : List Loc, x = [] := ⟨_, rfl⟩
  have hG : mGH G (σ, cu, qX (upA a cu ta)) s H locs := by rw [eH, eL]; exact hG
  suffices hW : W p l e (tRm 9 208) s m ([.ref h0] : List Value).toArray below meth c H locs 0 0 (MQ below (mQiX G (σ, cu, qX (upA a cu ta)) (fun r Z => ∃ t : Nat → Int32, Z = (σ, cu, qX (upA a cu t)) ∧ AG ta t ∧ TInv t)) ([.ref h0] : List Value).toArray s 0 0 (mA (σ, cu, qX (upA a cu ta)))) (F0 m 0 ls []) by subst eH; subst eL; exact hW
  clear eH eL
  have hcu : mCu cu := hG.2.2.1
  have hI := hIa
  refine lv_aload_n hx hb dX10_lays_0 rfl (lv_at hl 0 rfl) ?_
  refine mc_callvX hG (mc_runV (As := []) (rest := []) E hG (c_X10_layOut l G σ cu a ta h0 t0 hI) t0 rfl kv_X10_layOut ml_X10_318 ⟨rfl, rfl, Nat.le_of_ble_eq_true rfl, Nat.le_of_ble_eq_true rfl⟩ rfl hl.1 rfl (Nat.le_of_ble_eq_true rfl) ⟨Nat.zero_le _, Nat.zero_le _⟩ dX10_lays_1) (fun Z H locs eZ pZ hG => ?_)
  obtain ⟨t2, rfl, pt2, hI⟩ := pZ
  clear eZ
  have h3n : (t2 3).toInt = (ta 3).toInt := by rw [pt2.2.1]
  have h0n : (t2 0).toInt = (ta 0).toInt := by rw [pt2.1]
  refine lv_aload_n hx hb dX10_lays_4 rfl (lv_at hl 0 rfl) ?_
  refine lv_aload_n hx hb dX10_lays_5 rfl (lv_at hl 0 rfl) ?_
  refine mc_geti E hG t0 mi_215 dX10_lays_6 (fun z3 lz3 uz3 qz3 => ?_)
  refine mc_put E hG t0 mp_321 (qn (by unfold mCu; decide) (by decide)) (t_any1 _) (t_any2 _) rfl rfl dX10_lays_9 (fun H locs hG => ?_)
  refine lv_aload_n hx hb dX10_lays_12 rfl (lv_at hl 0 rfl) ?_
  refine lv_aload_n hx hb dX10_lays_13 rfl (lv_at hl 0 rfl) ?_
  refine mc_geti E hG t0 mi_212 dX10_lays_14 (fun z4 lz4 uz4 qz4 => ?_)
  refine mc_put E hG t0 mp_324 (qn (by unfold mCu; decide) (by decide)) (t_any1 _) (t_any2 _) rfl rfl dX10_lays_17 (fun H locs hG => ?_)
  refine lv_aload_n hx hb dX10_lays_20 rfl (lv_at hl 0 rfl) ?_
  refine mc_geti E hG t0 mi_215 dX10_lays_21 (fun z5 lz5 uz5 qz5 => ?_)
  exact mc_iretX E hr hlk hG rfl rfl ⟨_, rfl, (by first | assumption | exact ⟨rfl, rfl, fun _ _ _ _ _ => rfl⟩), hI⟩ dX10_lays_24

