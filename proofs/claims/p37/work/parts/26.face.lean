/-- what tape() answers, by its arguments alone -/
def tTape (t k n : Int) : Int := if t < 0 ∨ 3 < t then -1 else if k = -1 then 1 else if k < 0 ∨ 3 < k ∨ 60 < n then -2 else if n < 0 then -14 else 1
theorem tl_ne0 {x : Int64} {z : Int32} (ez : z = (if x < 0 then -1 else if x = 0 then 0 else 1)) (h : ¬ z.toInt = 0) : ¬ x = 0 := by
  intro e
  subst e
  subst ez
  exact h (by decide)

set_option maxHeartbeats 4000000 in
set_option maxRecDepth 100000 in
theorem c_X9_mayHoldChildren (l : Launch) (G : tG) (τ : Nat → Nat) (h0 : Nat) (x1 : Int32) (t0 : τ h0 = 1) : Met l yX9_mayHoldChildren (.code yX9_mayHoldChildren cX9_mayHoldChildren 2 (some .boolean) :: tWS) (tRm 1 21) (va_Pc [.ref h0, .int x1] (tPre G τ)) (tQp (fun r => 0 ≤ r.toInt ∧ r.toInt ≤ 1)) 0 0 tNo := by
  refine tc_met (by decide) (Nat.le_of_ble_eq_true rfl) ?_
  intro p e s m below meth c E hSt hr hlk hG ls hl
  have hl : lv_has ls 2 [(0, .ref h0), (1, .int x1)] := hl
  have hx := E.1
  have hb := E.2.1
  obtain ⟨H, eH⟩ : ∃ H, H = s.heap := ⟨_, rfl⟩
  obtain ⟨locs, eL⟩ : ∃ x : List Loc, x = [] := ⟨_, rfl⟩
  have hG : tGH G τ s H locs := by rw [eH, eL]; exact hG
  suffices hW : W p l e (tRm 1 21) s m ([.ref h0, .int x1] : List Value).toArray below meth c H locs 0 0 (MQ below (tQp (fun r => 0 ≤ r.toInt ∧ r.toInt ≤ 1)) ([.ref h0, .int x1] : List Value).toArray s 0 0 tNo) (F0 m 0 ls []) by subst eH; subst eL; exact hW
  refine lv_iload_n hx hb dX9_mayHoldChildren_0 rfl (lv_at hl 1 rfl) ?_
  refine lv_iconst (v := -1) hx hb dX9_mayHoldChildren_1 (by decide) ?_
  refine lv_icmp_eq (tgt := 16) hx hb dX9_mayHoldChildren_2 (by decide) (fun c1 => ?_) (fun c1 => ?_)
  · skip
    have ic1 := tn_eq rfl kI_m1 c1
    refine lv_iconst (v := 1) hx hb dX9_mayHoldChildren_16 (by decide) ?_
    refine lv_goto (tgt := 21) hx hb dX9_mayHoldChildren_17 (by decide) ?_
    exact tc_pret E hr hlk eH eL (t_nz (by decide) (by decide)).1 (show 0 ≤ (1 : Int32).toInt ∧ (1 : Int32).toInt ≤ 1 by have kk := kI_1; omega) dX9_mayHoldChildren_21
  · skip
    have ic1 := tn_ne rfl kI_m1 c1
    refine lv_aload_n hx hb dX9_mayHoldChildren_5 rfl (lv_at hl 0 rfl) ?_
    refine tc_getr E hG t0 fr_X9_12 dX9_mayHoldChildren_6 (fun oa2 hoa2 => ?_)
    refine lv_iload_n hx hb dX9_mayHoldChildren_9 rfl (lv_at hl 1 rfl) ?_
    refine tc_callp (tc_runV (As := [.int x1]) (rest := []) E hSt hG (c_X8_has l G τ oa2 x1 hoa2) hoa2 rv_2 kv_X8_has ml_X9_83 ⟨rfl, rfl, Nat.le_of_ble_eq_true rfl, Nat.le_of_ble_eq_true rfl⟩ rfl hl.1 rfl (Nat.le_of_ble_eq_true rfl) ⟨Nat.zero_le _, Nat.zero_le _⟩ dX9_mayHoldChildren_10) (fun r3 pr3 => ?_)
    have pr3 : (0 ≤ r3.toInt ∧ r3.toInt ≤ 1) ∧ (r3.toInt = 0 ∨ (0 ≤ x1.toInt ∧ x1.toInt ≤ 23)) := pr3
    refine lv_if_eq (tgt := 20) hx hb dX9_mayHoldChildren_13 (by decide) (fun c4 => ?_) (fun c4 => ?_)
    · skip
      have ic4 := tn_eq rfl kI_0 c4
      refine lv_iconst (v := 0) hx hb dX9_mayHoldChildren_20 (by decide) ?_
      exact tc_pret E hr hlk eH eL (t_nz (by decide) (by decide)).1 (show 0 ≤ (0 : Int32).toInt ∧ (0 : Int32).toInt ≤ 1 by have kk := kI_0; omega) dX9_mayHoldChildren_21
    · skip
      have ic4 := tn_ne rfl kI_0 c4
      refine lv_iconst (v := 1) hx hb dX9_mayHoldChildren_16 (by decide) ?_
      refine lv_goto (tgt := 21) hx hb dX9_mayHoldChildren_17 (by decide) ?_
      exact tc_pret E hr hlk eH eL (t_nz (by decide) (by decide)).1 (show 0 ≤ (1 : Int32).toInt ∧ (1 : Int32).toInt ≤ 1 by have kk := kI_1; omega) dX9_mayHoldChildren_21

set_option maxHeartbeats 4000000 in
set_option maxRecDepth 100000 in
theorem c_X9_screen (l : Launch) (G : tG) (τ : Nat → Nat) (h0 : Nat) (x1 : Int32) (x2 : Int32) (t0 : τ h0 = 1) : Met l yX9_screen (.code yX9_screen cX9_screen 4 (some .int) :: tWS) (tRm 2 43) (va_Pc [.ref h0, .int x1, .int x2] (tPre G τ)) (tQi G τ (fun r => True)) 0 0 (tA τ) := by
  refine tc_met (by decide) (Nat.le_of_ble_eq_true rfl) ?_
  intro p e s m below meth c E hSt hr hlk hG ls hl
  have hl : lv_has ls 4 [(0, .ref h0), (1, .int x1), (2, .int x2)] := hl
  have hx := E.1
  have hb := E.2.1
  obtain ⟨H, eH⟩ : ∃ H, H = s.heap := ⟨_, rfl⟩
  obtain ⟨locs, eL⟩ : ∃ x : List Loc, x = [] := ⟨_, rfl⟩
  have hG : tGH G τ s H locs := by rw [eH, eL]; exact hG
  suffices hW : W p l e (tRm 2 43) s m ([.ref h0, .int x1, .int x2] : List Value).toArray below meth c H locs 0 0 (MQ below (tQi G τ (fun r => True)) ([.ref h0, .int x1, .int x2] : List Value).toArray s 0 0 (tA τ)) (F0 m 0 ls []) by subst eH; subst eL; exact hW
  clear eH eL
  have J32 : ∀ (H : Heap) (locs : List Loc) (ls : Array Slot), tGH G τ s H locs → lv_has ls 4 [(0, .ref h0), (1, .int x1), (2, .int x2)] → 0 ≤ x1.toInt → x1.toInt ≤ 200 → 0 ≤ x2.toInt → x2.toInt ≤ 1000 → W p l e (tRm 2 43) s m ([.ref h0, .int x1, .int x2] : List Value).toArray below meth c H locs 0 0 (MQ below (tQi G τ (fun r => True)) ([.ref h0, .int x1, .int x2] : List Value).toArray s 0 0 (tA τ)) (F0 m 32 ls []) := by
    intro H locs ls hG hl bp1 cp1 bp2 cp2
    refine lv_sipush (v := 1000) hx hb dX9_screen_32 (by decide) ?_
    refine lv_aload_n hx hb dX9_screen_35 rfl (lv_at hl 0 rfl) ?_
    refine tc_getr E hG t0 fr_X9_12 dX9_screen_36 (fun oa1 hoa1 => ?_)
    refine tc_geti E hG hoa1 fi_X9_117 dX9_screen_39 (fun z2 _ _ => ?_)
    refine lv_imul hx hb dX9_screen_42 ?_
    refine lv_topi (fun z3 ez3 => ?_)
    refine lv_aload_n hx hb dX9_screen_43 rfl (lv_at hl 0 rfl) ?_
    refine tc_getr E hG t0 fr_X9_12 dX9_screen_44 (fun oa4 hoa4 => ?_)
    refine tc_geti E hG hoa4 fi_X9_120 dX9_screen_47 (fun z5 _ _ => ?_)
    refine lv_iadd hx hb dX9_screen_50 ?_
    refine lv_topi (fun z6 ez6 => ?_)
    refine lv_istore_n (lv' := [(3, .int z6), (0, .ref h0), (1, .int x1), (2, .int x2)]) hx hb dX9_screen_51 rfl hl (by decide) rfl (fun ls hl => ?_)
    refine lv_aload_n hx hb dX9_screen_52 rfl (lv_at hl 1 rfl) ?_
    refine tc_getr E hG t0 fr_X9_12 dX9_screen_53 (fun oa7 hoa7 => ?_)
    refine lv_iload_n hx hb dX9_screen_56 rfl (lv_at hl 2 rfl) ?_
    refine lv_iload_n hx hb dX9_screen_57 rfl (lv_at hl 3 rfl) ?_
    refine tc_callv hG (tc_runV (As := [.int x1, .int x2]) (rest := []) E hSt hG (c_X8_tellScreen l G τ oa7 x1 x2 hoa7) hoa7 rv_2 kv_X8_tellScreen ml_X9_123 ⟨rfl, rfl, Nat.le_of_ble_eq_true rfl, Nat.le_of_ble_eq_true rfl⟩ rfl hl.1 rfl (Nat.le_of_ble_eq_true rfl) ⟨Nat.zero_le _, Nat.zero_le _⟩ dX9_screen_58) (fun H locs hG => ?_)
    refine lv_iload_n hx hb dX9_screen_61 rfl (lv_at hl 0 rfl) ?_
    exact tc_iret E hr hlk hG trivial dX9_screen_62
  refine lv_iload_n hx hb dX9_screen_0 rfl (lv_at hl 1 rfl) ?_
  refine lv_if_lt (tgt := 29) hx hb dX9_screen_1 (by decide) (fun c9 => ?_) (fun c9 => ?_)
  · skip
    have ic9 := tn_lt rfl kI_0 c9
    refine lv_bipush (v := -2) hx hb dX9_screen_29 (by decide) ?_
    exact tc_iret E hr hlk hG trivial dX9_screen_31
  · skip
    have ic9 := tn_nlt rfl kI_0 c9
    refine lv_iload_n hx hb dX9_screen_4 rfl (lv_at hl 1 rfl) ?_
    refine lv_sipush (v := 200) hx hb dX9_screen_5 (by decide) ?_
    refine lv_icmp_gt (tgt := 29) hx hb dX9_screen_8 (by decide) (fun c10 => ?_) (fun c10 => ?_)
    · skip
      have ic10 := tn_lt kI_200 rfl c10
      refine lv_bipush (v := -2) hx hb dX9_screen_29 (by decide) ?_
      exact tc_iret E hr hlk hG trivial dX9_screen_31
    · skip
      have ic10 := tn_nlt kI_200 rfl c10
      refine lv_iload_n hx hb dX9_screen_11 rfl (lv_at hl 2 rfl) ?_
      refine lv_if_lt (tgt := 29) hx hb dX9_screen_12 (by decide) (fun c11 => ?_) (fun c11 => ?_)
      · skip
        have ic11 := tn_lt rfl kI_0 c11
        refine lv_bipush (v := -2) hx hb dX9_screen_29 (by decide) ?_
        exact tc_iret E hr hlk hG trivial dX9_screen_31
      · skip
        have ic11 := tn_nlt rfl kI_0 c11
        refine lv_iload_n hx hb dX9_screen_15 rfl (lv_at hl 2 rfl) ?_
        refine lv_sipush (v := 200) hx hb dX9_screen_16 (by decide) ?_
        refine lv_icmp_le (tgt := 32) hx hb dX9_screen_19 (by decide) (fun c12 => ?_) (fun c12 => ?_)
        · skip
          have ic12 := tn_le rfl kI_200 c12
          exact J32 H locs ls hG (lv_sub hl [0, 1, 2] rfl) (by omega) (by omega) (by omega) (by omega)
        · skip
          have ic12 := tn_nle rfl kI_200 c12
          refine lv_iload_n hx hb dX9_screen_22 rfl (lv_at hl 2 rfl) ?_
          refine lv_sipush (v := 1000) hx hb dX9_screen_23 (by decide) ?_
          refine lv_icmp_eq (tgt := 32) hx hb dX9_screen_26 (by decide) (fun c13 => ?_) (fun c13 => ?_)
          · skip
            have ic13 := tn_eq rfl kI_1000 c13
            exact J32 H locs ls hG (lv_sub hl [0, 1, 2] rfl) (by omega) (by omega) (by omega) (by omega)
          · skip
            have ic13 := tn_ne rfl kI_1000 c13
            refine lv_bipush (v := -2) hx hb dX9_screen_29 (by decide) ?_
            exact tc_iret E hr hlk hG trivial dX9_screen_31

set_option maxHeartbeats 4000000 in
set_option maxRecDepth 100000 in
theorem c_X9_of (l : Launch) (G : tG) (τ : Nat → Nat) (h0 : Nat) (x1 : Int32) (x2 : Int32) (t0 : τ h0 = 1) : Met l yX9_of (.code yX9_of cX9_of 4 (some .int) :: tWS) (tRm 1 21) (va_Pc [.ref h0, .int x1, .int x2] (tPre G τ)) (tQi G τ (fun r => True)) 0 0 (tA τ) := by
  refine tc_met (by decide) (Nat.le_of_ble_eq_true rfl) ?_
  intro p e s m below meth c E hSt hr hlk hG ls hl
  have hl : lv_has ls 4 [(0, .ref h0), (1, .int x1), (2, .int x2)] := hl
  have hx := E.1
  have hb := E.2.1
  obtain ⟨H, eH⟩ : ∃ H, H = s.heap := ⟨_, rfl⟩
  obtain ⟨locs, eL⟩ : ∃ x : List Loc, x = [] := ⟨_, rfl⟩
  have hG : tGH G τ s H locs := by rw [eH, eL]; exact hG
  suffices hW : W p l e (tRm 1 21) s m ([.ref h0, .int x1, .int x2] : List Value).toArray below meth c H locs 0 0 (MQ below (tQi G τ (fun r => True)) ([.ref h0, .int x1, .int x2] : List Value).toArray s 0 0 (tA τ)) (F0 m 0 ls []) by subst eH; subst eL; exact hW
  clear eH eL
  refine lv_aload_n hx hb dX9_of_0 rfl (lv_at hl 0 rfl) ?_
  refine tc_getr E hG t0 fr_X9_12 dX9_of_1 (fun oa1 hoa1 => ?_)
  refine lv_iload_n hx hb dX9_of_4 rfl (lv_at hl 1 rfl) ?_
  refine tc_callp (tc_runV (As := [.int x1]) (rest := []) E hSt hG (c_X8_has l G τ oa1 x1 hoa1) hoa1 rv_2 kv_X8_has ml_X9_83 ⟨rfl, rfl, Nat.le_of_ble_eq_true rfl, Nat.le_of_ble_eq_true rfl⟩ rfl hl.1 rfl (Nat.le_of_ble_eq_true rfl) ⟨Nat.zero_le _, Nat.zero_le _⟩ dX9_of_5) (fun r2 pr2 => ?_)
  have pr2 : (0 ≤ r2.toInt ∧ r2.toInt ≤ 1) ∧ (r2.toInt = 0 ∨ (0 ≤ x1.toInt ∧ x1.toInt ≤ 23)) := pr2
  refine lv_if_ne (tgt := 13) hx hb dX9_of_8 (by decide) (fun c3 => ?_) (fun c3 => ?_)
  · skip
    have ic3 := tn_ne rfl kI_0 c3
    refine lv_aload_n hx hb dX9_of_13 rfl (lv_at hl 0 rfl) ?_
    refine tc_getr E hG t0 fr_X9_12 dX9_of_14 (fun oa4 hoa4 => ?_)
    refine tc_getr E hG hoa4 fr_X9_86 dX9_of_17 (fun oa5 hoa5 => ?_)
    refine lv_iload_n hx hb dX9_of_20 rfl (lv_at hl 1 rfl) ?_
    refine tc_aald3 E hG hoa5 ta_10 (t_in (by omega) (by omega)) dX9_of_21 (fun oa6 hoa6 => ?_)
    refine lv_astore_n (lv' := [(3, .ref oa6), (0, .ref h0), (1, .int x1), (2, .int x2)]) hx hb dX9_of_22 rfl hl (by decide) rfl (fun ls hl => ?_)
    refine lv_iload_n hx hb dX9_of_23 rfl (lv_at hl 3 rfl) ?_
    rcases (show (x2.toInt < 0 ∨ 14 < x2.toInt) ∨ x2.toInt = 0 ∨ x2.toInt = 1 ∨ x2.toInt = 2 ∨ x2.toInt = 3 ∨ x2.toInt = 4 ∨ x2.toInt = 5 ∨ x2.toInt = 6 ∨ x2.toInt = 7 ∨ x2.toInt = 8 ∨ x2.toInt = 9 ∨ x2.toInt = 10 ∨ x2.toInt = 11 ∨ x2.toInt = 12 ∨ x2.toInt = 13 ∨ x2.toInt = 14 by omega) with k7 | k7 | k7 | k7 | k7 | k7 | k7 | k7 | k7 | k7 | k7 | k7 | k7 | k7 | k7 | k7
    · refine lv_tableOut (tgt := 185) hx hb dX9_of_24 k7 (by decide) ?_
      refine lv_iconst (v := -1) hx hb dX9_of_185 (by decide) ?_
      exact tc_iret E hr hlk hG trivial dX9_of_186
    · refine lv_tableIn (off := 76) (tgt := 100) hx hb dX9_of_24 (by rw [k7]; decide) (by rw [k7]; decide) (by rw [k7]; rfl) (by decide) ?_
      refine lv_aload_n hx hb dX9_of_100 rfl (lv_at hl 0 rfl) ?_
      refine tc_geti E hG hoa6 fi_X9_127 dX9_of_101 (fun z8 _ _ => ?_)
      exact tc_iret E hr hlk hG trivial dX9_of_104
    · refine lv_tableIn (off := 81) (tgt := 105) hx hb dX9_of_24 (by rw [k7]; decide) (by rw [k7]; decide) (by rw [k7]; rfl) (by decide) ?_
      refine lv_aload_n hx hb dX9_of_105 rfl (lv_at hl 0 rfl) ?_
      refine tc_geti E hG hoa6 fi_X9_107 dX9_of_106 (fun z9 _ _ => ?_)
      exact tc_iret E hr hlk hG trivial dX9_of_109
    · refine lv_tableIn (off := 86) (tgt := 110) hx hb dX9_of_24 (by rw [k7]; decide) (by rw [k7]; decide) (by rw [k7]; rfl) (by decide) ?_
      refine lv_aload_n hx hb dX9_of_110 rfl (lv_at hl 0 rfl) ?_
      refine tc_geti E hG hoa6 fi_X9_110 dX9_of_111 (fun z10 lz10 uz10 => ?_)
      exact tc_iret E hr hlk hG trivial dX9_of_114
    · refine lv_tableIn (off := 91) (tgt := 115) hx hb dX9_of_24 (by rw [k7]; decide) (by rw [k7]; decide) (by rw [k7]; rfl) (by decide) ?_
      refine lv_aload_n hx hb dX9_of_115 rfl (lv_at hl 0 rfl) ?_
      refine tc_getr E hG hoa6 fr_X9_130 dX9_of_116 (fun oa11 hoa11 => ?_)
      refine lv_iload_n hx hb dX9_of_119 rfl (lv_at hl 3 rfl) ?_
      refine lv_iconst (v := 3) hx hb dX9_of_120 (by decide) ?_
      refine lv_isub hx hb dX9_of_121 ?_
      refine lv_topi (fun z12 ez12 => ?_)
      have tz12 := tn_sub ez12 rfl kI_3 (by omega) (by omega)
      refine tc_iald E hG hoa11 ta_11 (t_in (by omega) (by omega)) dX9_of_122 (fun z13 _ _ => ?_)
      exact tc_iret E hr hlk hG trivial dX9_of_123
    · refine lv_tableIn (off := 91) (tgt := 115) hx hb dX9_of_24 (by rw [k7]; decide) (by rw [k7]; decide) (by rw [k7]; rfl) (by decide) ?_
      refine lv_aload_n hx hb dX9_of_115 rfl (lv_at hl 0 rfl) ?_
      refine tc_getr E hG hoa6 fr_X9_130 dX9_of_116 (fun oa14 hoa14 => ?_)
      refine lv_iload_n hx hb dX9_of_119 rfl (lv_at hl 3 rfl) ?_
      refine lv_iconst (v := 3) hx hb dX9_of_120 (by decide) ?_
      refine lv_isub hx hb dX9_of_121 ?_
      refine lv_topi (fun z15 ez15 => ?_)
      have tz15 := tn_sub ez15 rfl kI_3 (by omega) (by omega)
      refine tc_iald E hG hoa14 ta_11 (t_in (by omega) (by omega)) dX9_of_122 (fun z16 _ _ => ?_)
      exact tc_iret E hr hlk hG trivial dX9_of_123
    · refine lv_tableIn (off := 91) (tgt := 115) hx hb dX9_of_24 (by rw [k7]; decide) (by rw [k7]; decide) (by rw [k7]; rfl) (by decide) ?_
      refine lv_aload_n hx hb dX9_of_115 rfl (lv_at hl 0 rfl) ?_
      refine tc_getr E hG hoa6 fr_X9_130 dX9_of_116 (fun oa17 hoa17 => ?_)
      refine lv_iload_n hx hb dX9_of_119 rfl (lv_at hl 3 rfl) ?_
      refine lv_iconst (v := 3) hx hb dX9_of_120 (by decide) ?_
      refine lv_isub hx hb dX9_of_121 ?_
      refine lv_topi (fun z18 ez18 => ?_)
      have tz18 := tn_sub ez18 rfl kI_3 (by omega) (by omega)
      refine tc_iald E hG hoa17 ta_11 (t_in (by omega) (by omega)) dX9_of_122 (fun z19 _ _ => ?_)
      exact tc_iret E hr hlk hG trivial dX9_of_123
    · refine lv_tableIn (off := 91) (tgt := 115) hx hb dX9_of_24 (by rw [k7]; decide) (by rw [k7]; decide) (by rw [k7]; rfl) (by decide) ?_
      refine lv_aload_n hx hb dX9_of_115 rfl (lv_at hl 0 rfl) ?_
      refine tc_getr E hG hoa6 fr_X9_130 dX9_of_116 (fun oa20 hoa20 => ?_)
      refine lv_iload_n hx hb dX9_of_119 rfl (lv_at hl 3 rfl) ?_
      refine lv_iconst (v := 3) hx hb dX9_of_120 (by decide) ?_
      refine lv_isub hx hb dX9_of_121 ?_
      refine lv_topi (fun z21 ez21 => ?_)
      have tz21 := tn_sub ez21 rfl kI_3 (by omega) (by omega)
      refine tc_iald E hG hoa20 ta_11 (t_in (by omega) (by omega)) dX9_of_122 (fun z22 _ _ => ?_)
      exact tc_iret E hr hlk hG trivial dX9_of_123
    · refine lv_tableIn (off := 100) (tgt := 124) hx hb dX9_of_24 (by rw [k7]; decide) (by rw [k7]; decide) (by rw [k7]; rfl) (by decide) ?_
      refine lv_aload_n hx hb dX9_of_124 rfl (lv_at hl 0 rfl) ?_
      refine tc_geti E hG hoa6 fi_X9_134 dX9_of_125 (fun z23 _ _ => ?_)
      exact tc_iret E hr hlk hG trivial dX9_of_128
    · refine lv_tableIn (off := 105) (tgt := 129) hx hb dX9_of_24 (by rw [k7]; decide) (by rw [k7]; decide) (by rw [k7]; rfl) (by decide) ?_
      refine lv_aload_n hx hb dX9_of_129 rfl (lv_at hl 0 rfl) ?_
      refine tc_geti E hG hoa6 fi_X9_137 dX9_of_130 (fun z24 _ _ => ?_)
      exact tc_iret E hr hlk hG trivial dX9_of_133
    · refine lv_tableIn (off := 110) (tgt := 134) hx hb dX9_of_24 (by rw [k7]; decide) (by rw [k7]; decide) (by rw [k7]; rfl) (by decide) ?_
      refine lv_aload_n hx hb dX9_of_134 rfl (lv_at hl 0 rfl) ?_
      refine tc_geti E hG hoa6 fi_X9_140 dX9_of_135 (fun z25 _ _ => ?_)
      exact tc_iret E hr hlk hG trivial dX9_of_138
    · refine lv_tableIn (off := 115) (tgt := 139) hx hb dX9_of_24 (by rw [k7]; decide) (by rw [k7]; decide) (by rw [k7]; rfl) (by decide) ?_
      refine lv_aload_n hx hb dX9_of_139 rfl (lv_at hl 1 rfl) ?_
      refine tc_getr E hG t0 fr_X9_12 dX9_of_140 (fun oa26 hoa26 => ?_)
      refine tc_geti E hG hoa26 fi_X9_143 dX9_of_143 (fun z27 _ _ => ?_)
      refine lv_iload_n hx hb dX9_of_146 rfl (lv_at hl 2 rfl) ?_
      refine tc_callp (tc_runS (As := [.int z27, .int x1]) (rest := []) E hSt hG (c_X9_bitOf l G τ z27 x1) ks_X9_bitOf ml_X9_146 ⟨rfl, rfl, Nat.le_of_ble_eq_true rfl, Nat.le_of_ble_eq_true rfl⟩ rfl hl.1 rfl (Nat.le_of_ble_eq_true rfl) ⟨Nat.zero_le _, Nat.zero_le _⟩ dX9_of_147) (fun r28 pr28 => ?_)
      exact tc_iret E hr hlk hG trivial dX9_of_150
    · refine lv_tableIn (off := 127) (tgt := 151) hx hb dX9_of_24 (by rw [k7]; decide) (by rw [k7]; decide) (by rw [k7]; rfl) (by decide) ?_
      refine lv_aload_n hx hb dX9_of_151 rfl (lv_at hl 1 rfl) ?_
      refine tc_getr E hG t0 fr_X9_12 dX9_of_152 (fun oa29 hoa29 => ?_)
      refine tc_geti E hG hoa29 fi_X9_149 dX9_of_155 (fun z30 _ _ => ?_)
      refine lv_iload_n hx hb dX9_of_158 rfl (lv_at hl 2 rfl) ?_
      refine tc_callp (tc_runS (As := [.int z30, .int x1]) (rest := []) E hSt hG (c_X9_bitOf l G τ z30 x1) ks_X9_bitOf ml_X9_146 ⟨rfl, rfl, Nat.le_of_ble_eq_true rfl, Nat.le_of_ble_eq_true rfl⟩ rfl hl.1 rfl (Nat.le_of_ble_eq_true rfl) ⟨Nat.zero_le _, Nat.zero_le _⟩ dX9_of_159) (fun r31 pr31 => ?_)
      exact tc_iret E hr hlk hG trivial dX9_of_162
    · refine lv_tableIn (off := 139) (tgt := 163) hx hb dX9_of_24 (by rw [k7]; decide) (by rw [k7]; decide) (by rw [k7]; rfl) (by decide) ?_
      refine lv_aload_n hx hb dX9_of_163 rfl (lv_at hl 0 rfl) ?_
      refine tc_geti E hG hoa6 fi_X9_152 dX9_of_164 (fun z32 _ _ => ?_)
      exact tc_iret E hr hlk hG trivial dX9_of_167
    · refine lv_tableIn (off := 144) (tgt := 168) hx hb dX9_of_24 (by rw [k7]; decide) (by rw [k7]; decide) (by rw [k7]; rfl) (by decide) ?_
      refine lv_aload_n hx hb dX9_of_168 rfl (lv_at hl 1 rfl) ?_
      refine tc_getr E hG t0 fr_X9_12 dX9_of_169 (fun oa33 hoa33 => ?_)
      refine tc_geti E hG hoa33 fi_X9_155 dX9_of_172 (fun z34 _ _ => ?_)
      refine lv_iload_n hx hb dX9_of_175 rfl (lv_at hl 2 rfl) ?_
      refine tc_callp (tc_runS (As := [.int z34, .int x1]) (rest := []) E hSt hG (c_X9_bitOf l G τ z34 x1) ks_X9_bitOf ml_X9_146 ⟨rfl, rfl, Nat.le_of_ble_eq_true rfl, Nat.le_of_ble_eq_true rfl⟩ rfl hl.1 rfl (Nat.le_of_ble_eq_true rfl) ⟨Nat.zero_le _, Nat.zero_le _⟩ dX9_of_176) (fun r35 pr35 => ?_)
      exact tc_iret E hr hlk hG trivial dX9_of_179
    · refine lv_tableIn (off := 156) (tgt := 180) hx hb dX9_of_24 (by rw [k7]; decide) (by rw [k7]; decide) (by rw [k7]; rfl) (by decide) ?_
      refine lv_aload_n hx hb dX9_of_180 rfl (lv_at hl 0 rfl) ?_
      refine tc_geti E hG hoa6 fi_X9_158 dX9_of_181 (fun z36 _ _ => ?_)
      exact tc_iret E hr hlk hG trivial dX9_of_184
  · skip
    have ic3 := tn_eq rfl kI_0 c3
    refine lv_iconst (v := -1) hx hb dX9_of_11 (by decide) ?_
    exact tc_iret E hr hlk hG trivial dX9_of_12

set_option maxHeartbeats 4000000 in
set_option maxRecDepth 100000 in
theorem c_X9_child (l : Launch) (G : tG) (τ : Nat → Nat) (h0 : Nat) (x1 : Int32) (x2 : Int32) (t0 : τ h0 = 1) : Met l yX9_child (.code yX9_child cX9_child 3 (some .int) :: tWS) (tRm 1 21) (va_Pc [.ref h0, .int x1, .int x2] (tPre G τ)) (tQi G τ (fun r => True)) 0 0 (tA τ) := by
  refine tc_met (by decide) (Nat.le_of_ble_eq_true rfl) ?_
  intro p e s m below meth c E hSt hr hlk hG ls hl
  have hl : lv_has ls 3 [(0, .ref h0), (1, .int x1), (2, .int x2)] := hl
  have hx := E.1
  have hb := E.2.1
  obtain ⟨H, eH⟩ : ∃ H, H = s.heap := ⟨_, rfl⟩
  obtain ⟨locs, eL⟩ : ∃ x : List Loc, x = [] := ⟨_, rfl⟩
  have hG : tGH G τ s H locs := by rw [eH, eL]; exact hG
  suffices hW : W p l e (tRm 1 21) s m ([.ref h0, .int x1, .int x2] : List Value).toArray below meth c H locs 0 0 (MQ below (tQi G τ (fun r => True)) ([.ref h0, .int x1, .int x2] : List Value).toArray s 0 0 (tA τ)) (F0 m 0 ls []) by subst eH; subst eL; exact hW
  clear eH eL
  refine lv_aload_n hx hb dX9_child_0 rfl (lv_at hl 0 rfl) ?_
  refine tc_getr E hG t0 fr_X9_12 dX9_child_1 (fun oa1 hoa1 => ?_)
  refine lv_iload_n hx hb dX9_child_4 rfl (lv_at hl 1 rfl) ?_
  refine tc_callp (tc_runV (As := [.int x1]) (rest := []) E hSt hG (c_X8_has l G τ oa1 x1 hoa1) hoa1 rv_2 kv_X8_has ml_X9_83 ⟨rfl, rfl, Nat.le_of_ble_eq_true rfl, Nat.le_of_ble_eq_true rfl⟩ rfl hl.1 rfl (Nat.le_of_ble_eq_true rfl) ⟨Nat.zero_le _, Nat.zero_le _⟩ dX9_child_5) (fun r2 pr2 => ?_)
  have pr2 : (0 ≤ r2.toInt ∧ r2.toInt ≤ 1) ∧ (r2.toInt = 0 ∨ (0 ≤ x1.toInt ∧ x1.toInt ≤ 23)) := pr2
  refine lv_if_eq (tgt := 31) hx hb dX9_child_8 (by decide) (fun c3 => ?_) (fun c3 => ?_)
  · skip
    have ic3 := tn_eq rfl kI_0 c3
    refine lv_iconst (v := -1) hx hb dX9_child_31 (by decide) ?_
    exact tc_iret E hr hlk hG trivial dX9_child_32
  · skip
    have ic3 := tn_ne rfl kI_0 c3
    refine lv_iload_n hx hb dX9_child_11 rfl (lv_at hl 2 rfl) ?_
    refine lv_if_lt (tgt := 31) hx hb dX9_child_12 (by decide) (fun c4 => ?_) (fun c4 => ?_)
    · skip
      have ic4 := tn_lt rfl kI_0 c4
      refine lv_iconst (v := -1) hx hb dX9_child_31 (by decide) ?_
      exact tc_iret E hr hlk hG trivial dX9_child_32
    · skip
      have ic4 := tn_nlt rfl kI_0 c4
      refine lv_iload_n hx hb dX9_child_15 rfl (lv_at hl 2 rfl) ?_
      refine lv_aload_n hx hb dX9_child_16 rfl (lv_at hl 0 rfl) ?_
      refine tc_getr E hG t0 fr_X9_12 dX9_child_17 (fun oa5 hoa5 => ?_)
      refine tc_getr E hG hoa5 fr_X9_86 dX9_child_20 (fun oa6 hoa6 => ?_)
      refine lv_iload_n hx hb dX9_child_23 rfl (lv_at hl 1 rfl) ?_
      refine tc_aald3 E hG hoa6 ta_10 (t_in (by omega) (by omega)) dX9_child_24 (fun oa7 hoa7 => ?_)
      refine tc_geti E hG hoa7 fi_X9_110 dX9_child_25 (fun z8 lz8 uz8 => ?_)
      refine lv_icmp_lt (tgt := 33) hx hb dX9_child_28 (by decide) (fun c9 => ?_) (fun c9 => ?_)
      · skip
        have ic9 := tn_lt rfl rfl c9
        refine lv_aload_n hx hb dX9_child_33 rfl (lv_at hl 0 rfl) ?_
        refine tc_getr E hG t0 fr_X9_12 dX9_child_34 (fun oa10 hoa10 => ?_)
        refine tc_getr E hG hoa10 fr_X9_86 dX9_child_37 (fun oa11 hoa11 => ?_)
        refine lv_iload_n hx hb dX9_child_40 rfl (lv_at hl 1 rfl) ?_
        refine tc_aald3 E hG hoa11 ta_10 (t_in (by omega) (by omega)) dX9_child_41 (fun oa12 hoa12 => ?_)
        refine tc_getr E hG hoa12 fr_X9_161 dX9_child_42 (fun oa13 hoa13 => ?_)
        refine lv_iload_n hx hb dX9_child_45 rfl (lv_at hl 2 rfl) ?_
        refine tc_iald E hG hoa13 ta_12 (t_in (by omega) (by omega)) dX9_child_46 (fun z14 lz14 uz14 => ?_)
        exact tc_iret E hr hlk hG trivial dX9_child_47
      · skip
        have ic9 := tn_nlt rfl rfl c9
        refine lv_iconst (v := -1) hx hb dX9_child_31 (by decide) ?_
        exact tc_iret E hr hlk hG trivial dX9_child_32

set_option maxHeartbeats 4000000 in
set_option maxRecDepth 100000 in
theorem c_X9_printed (l : Launch) (G : tG) (τ : Nat → Nat) (h0 : Nat) (x1 : Int32) (x2 : Int32) (t0 : τ h0 = 1) : Met l yX9_printed (.code yX9_printed cX9_printed 3 (some .int) :: tWS) (tRm 39 1944) (va_Pc [.ref h0, .int x1, .int x2] (tPre G τ)) (tQi G τ (fun r => True)) 0 0 (tA τ) := by
  refine tc_met (by decide) (Nat.le_of_ble_eq_true rfl) ?_
  intro p e s m below meth c E hSt hr hlk hG ls hl
  have hl : lv_has ls 3 [(0, .ref h0), (1, .int x1), (2, .int x2)] := hl
  have hx := E.1
  have hb := E.2.1
  obtain ⟨H, eH⟩ : ∃ H, H = s.heap := ⟨_, rfl⟩
  obtain ⟨locs, eL⟩ : ∃ x : List Loc, x = [] := ⟨_, rfl⟩
  have hG : tGH G τ s H locs := by rw [eH, eL]; exact hG
  suffices hW : W p l e (tRm 39 1944) s m ([.ref h0, .int x1, .int x2] : List Value).toArray below meth c H locs 0 0 (MQ below (tQi G τ (fun r => True)) ([.ref h0, .int x1, .int x2] : List Value).toArray s 0 0 (tA τ)) (F0 m 0 ls []) by subst eH; subst eL; exact hW
  clear eH eL
  refine lv_aload_n hx hb dX9_printed_0 rfl (lv_at hl 0 rfl) ?_
  refine tc_getr E hG t0 fr_X9_12 dX9_printed_1 (fun oa1 hoa1 => ?_)
  refine lv_iload_n hx hb dX9_printed_4 rfl (lv_at hl 1 rfl) ?_
  refine tc_callp (tc_runV (As := [.int x1]) (rest := []) E hSt hG (c_X8_has l G τ oa1 x1 hoa1) hoa1 rv_2 kv_X8_has ml_X9_83 ⟨rfl, rfl, Nat.le_of_ble_eq_true rfl, Nat.le_of_ble_eq_true rfl⟩ rfl hl.1 rfl (Nat.le_of_ble_eq_true rfl) ⟨Nat.zero_le _, Nat.zero_le _⟩ dX9_printed_5) (fun r2 pr2 => ?_)
  have pr2 : (0 ≤ r2.toInt ∧ r2.toInt ≤ 1) ∧ (r2.toInt = 0 ∨ (0 ≤ x1.toInt ∧ x1.toInt ≤ 23)) := pr2
  refine lv_if_eq (tgt := 16) hx hb dX9_printed_8 (by decide) (fun c3 => ?_) (fun c3 => ?_)
  · skip
    have ic3 := tn_eq rfl kI_0 c3
    refine lv_iconst (v := -1) hx hb dX9_printed_16 (by decide) ?_
    exact tc_iret E hr hlk hG trivial dX9_printed_17
  · skip
    have ic3 := tn_ne rfl kI_0 c3
    refine lv_iload_n hx hb dX9_printed_11 rfl (lv_at hl 2 rfl) ?_
    refine lv_iconst (v := -1) hx hb dX9_printed_12 (by decide) ?_
    refine lv_icmp_ge (tgt := 18) hx hb dX9_printed_13 (by decide) (fun c4 => ?_) (fun c4 => ?_)
    · skip
      have ic4 := tn_le kI_m1 rfl c4
      refine lv_aload_n hx hb dX9_printed_18 rfl (lv_at hl 0 rfl) ?_
      refine tc_getr E hG t0 fr_X9_47 dX9_printed_19 (fun oa5 hoa5 => ?_)
      refine lv_iload_n hx hb dX9_printed_22 rfl (lv_at hl 1 rfl) ?_
      refine tc_callv hG (tc_runV (As := [.int x1]) (rest := []) E hSt hG (c_X4_print l G τ oa5 x1 hoa5) hoa5 rv_8 kv_X4_print ml_X9_186 ⟨rfl, rfl, Nat.le_of_ble_eq_true rfl, Nat.le_of_ble_eq_true rfl⟩ rfl hl.1 rfl (Nat.le_of_ble_eq_true rfl) ⟨Nat.zero_le _, Nat.zero_le _⟩ dX9_printed_23) (fun H locs hG => ?_)
      refine lv_iload_n hx hb dX9_printed_26 rfl (lv_at hl 2 rfl) ?_
      refine lv_iconst (v := -1) hx hb dX9_printed_27 (by decide) ?_
      refine lv_icmp_ne (tgt := 39) hx hb dX9_printed_28 (by decide) (fun c7 => ?_) (fun c7 => ?_)
      · skip
        have ic7 := tn_ne rfl kI_m1 c7
        refine lv_iload_n hx hb dX9_printed_39 rfl (lv_at hl 2 rfl) ?_
        refine lv_aload_n hx hb dX9_printed_40 rfl (lv_at hl 0 rfl) ?_
        refine tc_getr E hG t0 fr_X9_47 dX9_printed_41 (fun oa8 hoa8 => ?_)
        refine tc_geti E hG hoa8 fi_X9_190 dX9_printed_44 (fun z9 lz9 uz9 => ?_)
        refine lv_icmp_ge (tgt := 62) hx hb dX9_printed_47 (by decide) (fun c10 => ?_) (fun c10 => ?_)
        · skip
          have ic10 := tn_le rfl rfl c10
          refine lv_iconst (v := -1) hx hb dX9_printed_62 (by decide) ?_
          exact tc_iret E hr hlk hG trivial dX9_printed_63
        · skip
          have ic10 := tn_nle rfl rfl c10
          refine lv_aload_n hx hb dX9_printed_50 rfl (lv_at hl 0 rfl) ?_
          refine tc_getr E hG t0 fr_X9_47 dX9_printed_51 (fun oa11 hoa11 => ?_)
          refine tc_getr E hG hoa11 fr_X9_193 dX9_printed_54 (fun oa12 hoa12 => ?_)
          refine lv_iload_n hx hb dX9_printed_57 rfl (lv_at hl 2 rfl) ?_
          refine tc_cald E hG hoa12 ta_19 (t_in (by omega) (by omega)) dX9_printed_58 (fun z13 lz13 uz13 => ?_)
          refine lv_goto (tgt := 63) hx hb dX9_printed_59 (by decide) ?_
          exact tc_iret E hr hlk hG trivial dX9_printed_63
      · skip
        have ic7 := tn_eq rfl kI_m1 c7
        refine lv_aload_n hx hb dX9_printed_31 rfl (lv_at hl 0 rfl) ?_
        refine tc_getr E hG t0 fr_X9_47 dX9_printed_32 (fun oa14 hoa14 => ?_)
        refine tc_geti E hG hoa14 fi_X9_190 dX9_printed_35 (fun z15 lz15 uz15 => ?_)
        exact tc_iret E hr hlk hG trivial dX9_printed_38
    · skip
      have ic4 := tn_nle kI_m1 rfl c4
      refine lv_iconst (v := -1) hx hb dX9_printed_16 (by decide) ?_
      exact tc_iret E hr hlk hG trivial dX9_printed_17

set_option maxHeartbeats 4000000 in
set_option maxRecDepth 100000 in
theorem c_X9_lays (l : Launch) (G : tG) (τ : Nat → Nat) (h0 : Nat) (t0 : τ h0 = 1) : Met l yX9_lays (.code yX9_lays cX9_lays 1 (some .int) :: tWS) (tRm 1092 15076) (va_Pc [.ref h0] (tPre G τ)) (tQi G τ (fun r => True)) 0 0 (tA τ) := by
  refine tc_met (by decide) (Nat.le_of_ble_eq_true rfl) ?_
  intro p e s m below meth c E hSt hr hlk hG ls hl
  have hl : lv_has ls 1 [(0, .ref h0)] := hl
  have hx := E.1
  have hb := E.2.1
  obtain ⟨H, eH⟩ : ∃ H, H = s.heap := ⟨_, rfl⟩
  obtain ⟨locs, eL⟩ : ∃ x : List Loc, x = [] := ⟨_, rfl⟩
  have hG : tGH G τ s H locs := by rw [eH, eL]; exact hG
  suffices hW : W p l e (tRm 1092 15076) s m ([.ref h0] : List Value).toArray below meth c H locs 0 0 (MQ below (tQi G τ (fun r => True)) ([.ref h0] : List Value).toArray s 0 0 (tA τ)) (F0 m 0 ls []) by subst eH; subst eL; exact hW
  clear eH eL
  refine lv_aload_n hx hb dX9_lays_0 rfl (lv_at hl 0 rfl) ?_
  refine tc_getr E hG t0 fr_X9_26 dX9_lays_1 (fun oa1 hoa1 => ?_)
  refine tc_callv hG (tc_runV (As := []) (rest := []) E hSt hG (c_X3_layOut l G τ oa1 hoa1) hoa1 rv_5 kv_X3_layOut ml_X9_196 ⟨rfl, rfl, Nat.le_of_ble_eq_true rfl, Nat.le_of_ble_eq_true rfl⟩ rfl hl.1 rfl (Nat.le_of_ble_eq_true rfl) ⟨Nat.zero_le _, Nat.zero_le _⟩ dX9_lays_4) (fun H locs hG => ?_)
  refine lv_aload_n hx hb dX9_lays_7 rfl (lv_at hl 0 rfl) ?_
  refine lv_aload_n hx hb dX9_lays_8 rfl (lv_at hl 0 rfl) ?_
  refine tc_getr E hG t0 fr_X9_26 dX9_lays_9 (fun oa3 hoa3 => ?_)
  refine tc_geti E hG hoa3 fi_X9_199 dX9_lays_12 (fun z4 _ _ => ?_)
  refine tc_puti E hG t0 fp_X9_202 (t_any1 _) (t_any2 _) dX9_lays_15 (fun H locs hG => ?_)
  refine lv_aload_n hx hb dX9_lays_18 rfl (lv_at hl 0 rfl) ?_
  refine lv_aload_n hx hb dX9_lays_19 rfl (lv_at hl 0 rfl) ?_
  refine tc_getr E hG t0 fr_X9_26 dX9_lays_20 (fun oa5 hoa5 => ?_)
  refine tc_geti E hG hoa5 fi_X9_205 dX9_lays_23 (fun z6 _ _ => ?_)
  refine tc_puti E hG t0 fp_X9_208 (t_any1 _) (t_any2 _) dX9_lays_26 (fun H locs hG => ?_)
  refine lv_aload_n hx hb dX9_lays_29 rfl (lv_at hl 0 rfl) ?_
  refine tc_geti E hG t0 fi_X9_202 dX9_lays_30 (fun z7 _ _ => ?_)
  exact tc_iret E hr hlk hG trivial dX9_lays_33

set_option maxHeartbeats 4000000 in
set_option maxRecDepth 100000 in
theorem c_X9_at (l : Launch) (G : tG) (τ : Nat → Nat) (h0 : Nat) (x1 : Int32) (x2 : Int32) (t0 : τ h0 = 1) : Met l yX9_at (.code yX9_at cX9_at 4 (some .int) :: tWS) (tRm 31 787) (va_Pc [.ref h0, .int x1, .int x2] (tPre G τ)) (tQi G τ (fun r => True)) 0 0 (tA τ) := by
  refine tc_met (by decide) (Nat.le_of_ble_eq_true rfl) ?_
  intro p e s m below meth c E hSt hr hlk hG ls hl
  have hl : lv_has ls 4 [(0, .ref h0), (1, .int x1), (2, .int x2)] := hl
  have hx := E.1
  have hb := E.2.1
  obtain ⟨H, eH⟩ : ∃ H, H = s.heap := ⟨_, rfl⟩
  obtain ⟨locs, eL⟩ : ∃ x : List Loc, x = [] := ⟨_, rfl⟩
  have hG : tGH G τ s H locs := by rw [eH, eL]; exact hG
  suffices hW : W p l e (tRm 31 787) s m ([.ref h0, .int x1, .int x2] : List Value).toArray below meth c H locs 0 0 (MQ below (tQi G τ (fun r => True)) ([.ref h0, .int x1, .int x2] : List Value).toArray s 0 0 (tA τ)) (F0 m 0 ls []) by subst eH; subst eL; exact hW
  clear eH eL
  refine lv_aload_n hx hb dX9_at_0 rfl (lv_at hl 0 rfl) ?_
  refine tc_getr E hG t0 fr_X9_12 dX9_at_1 (fun oa1 hoa1 => ?_)
  refine lv_iload_n hx hb dX9_at_4 rfl (lv_at hl 1 rfl) ?_
  refine tc_callp (tc_runV (As := [.int x1]) (rest := []) E hSt hG (c_X8_has l G τ oa1 x1 hoa1) hoa1 rv_2 kv_X8_has ml_X9_83 ⟨rfl, rfl, Nat.le_of_ble_eq_true rfl, Nat.le_of_ble_eq_true rfl⟩ rfl hl.1 rfl (Nat.le_of_ble_eq_true rfl) ⟨Nat.zero_le _, Nat.zero_le _⟩ dX9_at_5) (fun r2 pr2 => ?_)
  have pr2 : (0 ≤ r2.toInt ∧ r2.toInt ≤ 1) ∧ (r2.toInt = 0 ∨ (0 ≤ x1.toInt ∧ x1.toInt ≤ 23)) := pr2
  refine lv_if_ne (tgt := 13) hx hb dX9_at_8 (by decide) (fun c3 => ?_) (fun c3 => ?_)
  · skip
    have ic3 := tn_ne rfl kI_0 c3
    refine lv_aload_n hx hb dX9_at_13 rfl (lv_at hl 0 rfl) ?_
    refine tc_getr E hG t0 fr_X9_12 dX9_at_14 (fun oa4 hoa4 => ?_)
    refine tc_getr E hG hoa4 fr_X9_86 dX9_at_17 (fun oa5 hoa5 => ?_)
    refine lv_iload_n hx hb dX9_at_20 rfl (lv_at hl 1 rfl) ?_
    refine tc_aald3 E hG hoa5 ta_10 (t_in (by omega) (by omega)) dX9_at_21 (fun oa6 hoa6 => ?_)
    refine tc_getr E hG hoa6 fr_X9_211 dX9_at_22 (fun oa7 hoa7 => ?_)
    refine lv_astore_n (lv' := [(3, .ref oa7), (0, .ref h0), (1, .int x1), (2, .int x2)]) hx hb dX9_at_25 rfl hl (by decide) rfl (fun ls hl => ?_)
    refine lv_iload_n hx hb dX9_at_26 rfl (lv_at hl 3 rfl) ?_
    rcases (show (x2.toInt < 0 ∨ 8 < x2.toInt) ∨ x2.toInt = 0 ∨ x2.toInt = 1 ∨ x2.toInt = 2 ∨ x2.toInt = 3 ∨ x2.toInt = 4 ∨ x2.toInt = 5 ∨ x2.toInt = 6 ∨ x2.toInt = 7 ∨ x2.toInt = 8 by omega) with k8 | k8 | k8 | k8 | k8 | k8 | k8 | k8 | k8 | k8
    · refine lv_tableOut (tgt := 163) hx hb dX9_at_27 k8 (by decide) ?_
      refine lv_iconst (v := -1) hx hb dX9_at_163 (by decide) ?_
      exact tc_iret E hr hlk hG trivial dX9_at_164
    · refine lv_tableIn (off := 49) (tgt := 76) hx hb dX9_at_27 (by rw [k8]; decide) (by rw [k8]; decide) (by rw [k8]; rfl) (by decide) ?_
      refine lv_aload_n hx hb dX9_at_76 rfl (lv_at hl 0 rfl) ?_
      refine tc_geti E hG hoa7 fi_X9_215 dX9_at_77 (fun z9 _ _ => ?_)
      exact tc_iret E hr hlk hG trivial dX9_at_80
    · refine lv_tableIn (off := 54) (tgt := 81) hx hb dX9_at_27 (by rw [k8]; decide) (by rw [k8]; decide) (by rw [k8]; rfl) (by decide) ?_
      refine lv_aload_n hx hb dX9_at_81 rfl (lv_at hl 0 rfl) ?_
      refine tc_geti E hG hoa7 fi_X9_220 dX9_at_82 (fun z10 _ _ => ?_)
      exact tc_iret E hr hlk hG trivial dX9_at_85
    · refine lv_tableIn (off := 59) (tgt := 86) hx hb dX9_at_27 (by rw [k8]; decide) (by rw [k8]; decide) (by rw [k8]; rfl) (by decide) ?_
      refine lv_aload_n hx hb dX9_at_86 rfl (lv_at hl 0 rfl) ?_
      refine tc_geti E hG hoa7 fi_X9_223 dX9_at_87 (fun z11 lz11 uz11 => ?_)
      refine lv_if_eq (tgt := 104) hx hb dX9_at_90 (by decide) (fun c12 => ?_) (fun c12 => ?_)
      · skip
        have ic12 := tn_eq rfl kI_0 c12
        refine lv_iconst (v := 0) hx hb dX9_at_104 (by decide) ?_
        exact tc_iret E hr hlk hG trivial dX9_at_105
      · skip
        have ic12 := tn_ne rfl kI_0 c12
        refine lv_aload_n hx hb dX9_at_93 rfl (lv_at hl 1 rfl) ?_
        refine tc_getr E hG t0 fr_X9_12 dX9_at_94 (fun oa13 hoa13 => ?_)
        refine lv_iload_n hx hb dX9_at_97 rfl (lv_at hl 2 rfl) ?_
        refine tc_callp (tc_runV (As := [.int x1]) (rest := []) E hSt hG (c_X8_leftInTop l G τ oa13 x1 hoa13) hoa13 rv_2 kv_X8_leftInTop ml_X9_227 ⟨rfl, rfl, Nat.le_of_ble_eq_true rfl, Nat.le_of_ble_eq_true rfl⟩ rfl hl.1 rfl (Nat.le_of_ble_eq_true rfl) ⟨Nat.zero_le _, Nat.zero_le _⟩ dX9_at_98) (fun r14 pr14 => ?_)
        refine lv_goto (tgt := 105) hx hb dX9_at_101 (by decide) ?_
        exact tc_iret E hr hlk hG trivial dX9_at_105
    · refine lv_tableIn (off := 79) (tgt := 106) hx hb dX9_at_27 (by rw [k8]; decide) (by rw [k8]; decide) (by rw [k8]; rfl) (by decide) ?_
      refine lv_aload_n hx hb dX9_at_106 rfl (lv_at hl 0 rfl) ?_
      refine tc_geti E hG hoa7 fi_X9_223 dX9_at_107 (fun z15 lz15 uz15 => ?_)
      refine lv_if_eq (tgt := 124) hx hb dX9_at_110 (by decide) (fun c16 => ?_) (fun c16 => ?_)
      · skip
        have ic16 := tn_eq rfl kI_0 c16
        refine lv_iconst (v := 0) hx hb dX9_at_124 (by decide) ?_
        exact tc_iret E hr hlk hG trivial dX9_at_125
      · skip
        have ic16 := tn_ne rfl kI_0 c16
        refine lv_aload_n hx hb dX9_at_113 rfl (lv_at hl 1 rfl) ?_
        refine tc_getr E hG t0 fr_X9_12 dX9_at_114 (fun oa17 hoa17 => ?_)
        refine lv_iload_n hx hb dX9_at_117 rfl (lv_at hl 2 rfl) ?_
        refine tc_callp (tc_runV (As := [.int x1]) (rest := []) E hSt hG (c_X8_upperInTop l G τ oa17 x1 hoa17) hoa17 rv_2 kv_X8_upperInTop ml_X9_230 ⟨rfl, rfl, Nat.le_of_ble_eq_true rfl, Nat.le_of_ble_eq_true rfl⟩ rfl hl.1 rfl (Nat.le_of_ble_eq_true rfl) ⟨Nat.zero_le _, Nat.zero_le _⟩ dX9_at_118) (fun r18 pr18 => ?_)
        refine lv_goto (tgt := 125) hx hb dX9_at_121 (by decide) ?_
        exact tc_iret E hr hlk hG trivial dX9_at_125
    · refine lv_tableIn (off := 99) (tgt := 126) hx hb dX9_at_27 (by rw [k8]; decide) (by rw [k8]; decide) (by rw [k8]; rfl) (by decide) ?_
      refine lv_aload_n hx hb dX9_at_126 rfl (lv_at hl 0 rfl) ?_
      refine tc_geti E hG hoa7 fi_X9_233 dX9_at_127 (fun z19 _ _ => ?_)
      exact tc_iret E hr hlk hG trivial dX9_at_130
    · refine lv_tableIn (off := 104) (tgt := 131) hx hb dX9_at_27 (by rw [k8]; decide) (by rw [k8]; decide) (by rw [k8]; rfl) (by decide) ?_
      refine lv_aload_n hx hb dX9_at_131 rfl (lv_at hl 0 rfl) ?_
      refine tc_geti E hG hoa7 fi_X9_236 dX9_at_132 (fun z20 _ _ => ?_)
      exact tc_iret E hr hlk hG trivial dX9_at_135
    · refine lv_tableIn (off := 109) (tgt := 136) hx hb dX9_at_27 (by rw [k8]; decide) (by rw [k8]; decide) (by rw [k8]; rfl) (by decide) ?_
      refine lv_aload_n hx hb dX9_at_136 rfl (lv_at hl 0 rfl) ?_
      refine tc_geti E hG hoa7 fi_X9_239 dX9_at_137 (fun z21 _ _ => ?_)
      exact tc_iret E hr hlk hG trivial dX9_at_140
    · refine lv_tableIn (off := 114) (tgt := 141) hx hb dX9_at_27 (by rw [k8]; decide) (by rw [k8]; decide) (by rw [k8]; rfl) (by decide) ?_
      refine lv_aload_n hx hb dX9_at_141 rfl (lv_at hl 0 rfl) ?_
      refine tc_geti E hG hoa7 fi_X9_242 dX9_at_142 (fun z22 _ _ => ?_)
      exact tc_iret E hr hlk hG trivial dX9_at_145
    · refine lv_tableIn (off := 119) (tgt := 146) hx hb dX9_at_27 (by rw [k8]; decide) (by rw [k8]; decide) (by rw [k8]; rfl) (by decide) ?_
      refine lv_aload_n hx hb dX9_at_146 rfl (lv_at hl 1 rfl) ?_
      refine tc_getr E hG t0 fr_X9_26 dX9_at_147 (fun oa23 hoa23 => ?_)
      refine lv_aload_n hx hb dX9_at_150 rfl (lv_at hl 1 rfl) ?_
      refine tc_getr E hG t0 fr_X9_12 dX9_at_151 (fun oa24 hoa24 => ?_)
      refine tc_getr E hG hoa24 fr_X9_86 dX9_at_154 (fun oa25 hoa25 => ?_)
      refine lv_iload_n hx hb dX9_at_157 rfl (lv_at hl 2 rfl) ?_
      refine tc_aald3 E hG hoa25 ta_10 (t_in (by omega) (by omega)) dX9_at_158 (fun oa26 hoa26 => ?_)
      refine tc_calli hG (tc_runV (As := [.ref oa26]) (rest := []) E hSt hG (c_X3_baseAsLaid l G τ oa23 oa26 hoa23 hoa26) hoa23 rv_5 kv_X3_baseAsLaid ml_X9_245 ⟨rfl, rfl, Nat.le_of_ble_eq_true rfl, Nat.le_of_ble_eq_true rfl⟩ rfl hl.1 rfl (Nat.le_of_ble_eq_true rfl) ⟨Nat.zero_le _, Nat.zero_le _⟩ dX9_at_159) (fun r27 H locs pr27 hG => ?_)
      exact tc_iret E hr hlk hG trivial dX9_at_162
  · skip
    have ic3 := tn_eq rfl kI_0 c3
    refine lv_iconst (v := -1) hx hb dX9_at_11 (by decide) ?_
    exact tc_iret E hr hlk hG trivial dX9_at_12

set_option maxHeartbeats 4000000 in
set_option maxRecDepth 100000 in
theorem c_X9_bounds (l : Launch) (G : tG) (τ : Nat → Nat) (h0 : Nat) (x1 : Int32) (x2 : Int32) (t0 : τ h0 = 1) : Met l yX9_bounds (.code yX9_bounds cX9_bounds 4 (some .int) :: tWS) (tRm 1 21) (va_Pc [.ref h0, .int x1, .int x2] (tPre G τ)) (tQi G τ (fun r => True)) 0 0 (tA τ) := by
  refine tc_met (by decide) (Nat.le_of_ble_eq_true rfl) ?_
  intro p e s m below meth c E hSt hr hlk hG ls hl
  have hl : lv_has ls 4 [(0, .ref h0), (1, .int x1), (2, .int x2)] := hl
  have hx := E.1
  have hb := E.2.1
  obtain ⟨H, eH⟩ : ∃ H, H = s.heap := ⟨_, rfl⟩
  obtain ⟨locs, eL⟩ : ∃ x : List Loc, x = [] := ⟨_, rfl⟩
  have hG : tGH G τ s H locs := by rw [eH, eL]; exact hG
  suffices hW : W p l e (tRm 1 21) s m ([.ref h0, .int x1, .int x2] : List Value).toArray below meth c H locs 0 0 (MQ below (tQi G τ (fun r => True)) ([.ref h0, .int x1, .int x2] : List Value).toArray s 0 0 (tA τ)) (F0 m 0 ls []) by subst eH; subst eL; exact hW
  clear eH eL
  refine lv_aload_n hx hb dX9_bounds_0 rfl (lv_at hl 0 rfl) ?_
  refine tc_getr E hG t0 fr_X9_12 dX9_bounds_1 (fun oa1 hoa1 => ?_)
  refine lv_iload_n hx hb dX9_bounds_4 rfl (lv_at hl 1 rfl) ?_
  refine tc_callp (tc_runV (As := [.int x1]) (rest := []) E hSt hG (c_X8_has l G τ oa1 x1 hoa1) hoa1 rv_2 kv_X8_has ml_X9_83 ⟨rfl, rfl, Nat.le_of_ble_eq_true rfl, Nat.le_of_ble_eq_true rfl⟩ rfl hl.1 rfl (Nat.le_of_ble_eq_true rfl) ⟨Nat.zero_le _, Nat.zero_le _⟩ dX9_bounds_5) (fun r2 pr2 => ?_)
  have pr2 : (0 ≤ r2.toInt ∧ r2.toInt ≤ 1) ∧ (r2.toInt = 0 ∨ (0 ≤ x1.toInt ∧ x1.toInt ≤ 23)) := pr2
  refine lv_if_eq (tgt := 20) hx hb dX9_bounds_8 (by decide) (fun c3 => ?_) (fun c3 => ?_)
  · skip
    have ic3 := tn_eq rfl kI_0 c3
    refine lv_iconst (v := -1) hx hb dX9_bounds_20 (by decide) ?_
    exact tc_iret E hr hlk hG trivial dX9_bounds_21
  · skip
    have ic3 := tn_ne rfl kI_0 c3
    refine lv_iload_n hx hb dX9_bounds_11 rfl (lv_at hl 2 rfl) ?_
    refine lv_if_lt (tgt := 20) hx hb dX9_bounds_12 (by decide) (fun c4 => ?_) (fun c4 => ?_)
    · skip
      have ic4 := tn_lt rfl kI_0 c4
      refine lv_iconst (v := -1) hx hb dX9_bounds_20 (by decide) ?_
      exact tc_iret E hr hlk hG trivial dX9_bounds_21
    · skip
      have ic4 := tn_nlt rfl kI_0 c4
      refine lv_iload_n hx hb dX9_bounds_15 rfl (lv_at hl 2 rfl) ?_
      refine lv_iconst (v := 3) hx hb dX9_bounds_16 (by decide) ?_
      refine lv_icmp_le (tgt := 22) hx hb dX9_bounds_17 (by decide) (fun c5 => ?_) (fun c5 => ?_)
      · skip
        have ic5 := tn_le rfl kI_3 c5
        refine lv_aload_n hx hb dX9_bounds_22 rfl (lv_at hl 0 rfl) ?_
        refine tc_getr E hG t0 fr_X9_12 dX9_bounds_23 (fun oa6 hoa6 => ?_)
        refine tc_getr E hG hoa6 fr_X9_86 dX9_bounds_26 (fun oa7 hoa7 => ?_)
        refine lv_iload_n hx hb dX9_bounds_29 rfl (lv_at hl 1 rfl) ?_
        refine tc_aald3 E hG hoa7 ta_10 (t_in (by omega) (by omega)) dX9_bounds_30 (fun oa8 hoa8 => ?_)
        refine tc_getr E hG hoa8 fr_X9_211 dX9_bounds_31 (fun oa9 hoa9 => ?_)
        refine lv_astore_n (lv' := [(3, .ref oa9), (0, .ref h0), (1, .int x1), (2, .int x2)]) hx hb dX9_bounds_34 rfl hl (by decide) rfl (fun ls hl => ?_)
        refine lv_aload_n hx hb dX9_bounds_35 rfl (lv_at hl 0 rfl) ?_
        refine tc_geti E hG hoa9 fi_X9_223 dX9_bounds_36 (fun z10 lz10 uz10 => ?_)
        refine lv_if_ne (tgt := 45) hx hb dX9_bounds_39 (by decide) (fun c11 => ?_) (fun c11 => ?_)
        · skip
          have ic11 := tn_ne rfl kI_0 c11
          refine lv_iload_n hx hb dX9_bounds_45 rfl (lv_at hl 3 rfl) ?_
          rcases (show (x2.toInt < 0 ∨ 2 < x2.toInt) ∨ x2.toInt = 0 ∨ x2.toInt = 1 ∨ x2.toInt = 2 by omega) with k12 | k12 | k12 | k12
          · refine lv_tableOut (tgt := 87) hx hb dX9_bounds_46 k12 (by decide) ?_
            refine lv_aload_n hx hb dX9_bounds_87 rfl (lv_at hl 0 rfl) ?_
            refine tc_geti E hG hoa9 fi_X9_258 dX9_bounds_88 (fun z13 _ _ => ?_)
            exact tc_iret E hr hlk hG trivial dX9_bounds_91
          · refine lv_tableIn (off := 26) (tgt := 72) hx hb dX9_bounds_46 (by rw [k12]; decide) (by rw [k12]; decide) (by rw [k12]; rfl) (by decide) ?_
            refine lv_aload_n hx hb dX9_bounds_72 rfl (lv_at hl 0 rfl) ?_
            refine tc_geti E hG hoa9 fi_X9_249 dX9_bounds_73 (fun z14 _ _ => ?_)
            exact tc_iret E hr hlk hG trivial dX9_bounds_76
          · refine lv_tableIn (off := 31) (tgt := 77) hx hb dX9_bounds_46 (by rw [k12]; decide) (by rw [k12]; decide) (by rw [k12]; rfl) (by decide) ?_
            refine lv_aload_n hx hb dX9_bounds_77 rfl (lv_at hl 0 rfl) ?_
            refine tc_geti E hG hoa9 fi_X9_252 dX9_bounds_78 (fun z15 _ _ => ?_)
            exact tc_iret E hr hlk hG trivial dX9_bounds_81
          · refine lv_tableIn (off := 36) (tgt := 82) hx hb dX9_bounds_46 (by rw [k12]; decide) (by rw [k12]; decide) (by rw [k12]; rfl) (by decide) ?_
            refine lv_aload_n hx hb dX9_bounds_82 rfl (lv_at hl 0 rfl) ?_
            refine tc_geti E hG hoa9 fi_X9_255 dX9_bounds_83 (fun z16 _ _ => ?_)
            exact tc_iret E hr hlk hG trivial dX9_bounds_86
        · skip
          have ic11 := tn_eq rfl kI_0 c11
          refine lv_bipush (v := -5) hx hb dX9_bounds_42 (by decide) ?_
          exact tc_iret E hr hlk hG trivial dX9_bounds_44
      · skip
        have ic5 := tn_nle rfl kI_3 c5
        refine lv_iconst (v := -1) hx hb dX9_bounds_20 (by decide) ?_
        exact tc_iret E hr hlk hG trivial dX9_bounds_21

set_option maxHeartbeats 4000000 in
set_option maxRecDepth 100000 in
theorem c_X9_asks (l : Launch) (G : tG) (τ : Nat → Nat) (h0 : Nat) (x1 : Int32) (x2 : Int32) (t0 : τ h0 = 1) : Met l yX9_asks (.code yX9_asks cX9_asks 3 (some .int) :: tWS) (tRm 81 2016) (va_Pc [.ref h0, .int x1, .int x2] (tPre G τ)) (tQi G τ (fun r => True)) 0 0 (tA τ) := by
  refine tc_met (by decide) (Nat.le_of_ble_eq_true rfl) ?_
  intro p e s m below meth c E hSt hr hlk hG ls hl
  have hl : lv_has ls 3 [(0, .ref h0), (1, .int x1), (2, .int x2)] := hl
  have hx := E.1
  have hb := E.2.1
  obtain ⟨H, eH⟩ : ∃ H, H = s.heap := ⟨_, rfl⟩
  obtain ⟨locs, eL⟩ : ∃ x : List Loc, x = [] := ⟨_, rfl⟩
  have hG : tGH G τ s H locs := by rw [eH, eL]; exact hG
  suffices hW : W p l e (tRm 81 2016) s m ([.ref h0, .int x1, .int x2] : List Value).toArray below meth c H locs 0 0 (MQ below (tQi G τ (fun r => True)) ([.ref h0, .int x1, .int x2] : List Value).toArray s 0 0 (tA τ)) (F0 m 0 ls []) by subst eH; subst eL; exact hW
  clear eH eL
  refine lv_aload_n hx hb dX9_asks_0 rfl (lv_at hl 0 rfl) ?_
  refine tc_getr E hG t0 fr_X9_12 dX9_asks_1 (fun oa1 hoa1 => ?_)
  refine lv_iload_n hx hb dX9_asks_4 rfl (lv_at hl 1 rfl) ?_
  refine tc_callp (tc_runV (As := [.int x1]) (rest := []) E hSt hG (c_X8_has l G τ oa1 x1 hoa1) hoa1 rv_2 kv_X8_has ml_X9_83 ⟨rfl, rfl, Nat.le_of_ble_eq_true rfl, Nat.le_of_ble_eq_true rfl⟩ rfl hl.1 rfl (Nat.le_of_ble_eq_true rfl) ⟨Nat.zero_le _, Nat.zero_le _⟩ dX9_asks_5) (fun r2 pr2 => ?_)
  have pr2 : (0 ≤ r2.toInt ∧ r2.toInt ≤ 1) ∧ (r2.toInt = 0 ∨ (0 ≤ x1.toInt ∧ x1.toInt ≤ 23)) := pr2
  refine lv_if_eq (tgt := 20) hx hb dX9_asks_8 (by decide) (fun c3 => ?_) (fun c3 => ?_)
  · skip
    have ic3 := tn_eq rfl kI_0 c3
    refine lv_iconst (v := -1) hx hb dX9_asks_20 (by decide) ?_
    exact tc_iret E hr hlk hG trivial dX9_asks_21
  · skip
    have ic3 := tn_ne rfl kI_0 c3
    refine lv_iload_n hx hb dX9_asks_11 rfl (lv_at hl 2 rfl) ?_
    refine lv_if_eq (tgt := 22) hx hb dX9_asks_12 (by decide) (fun c4 => ?_) (fun c4 => ?_)
    · skip
      have ic4 := tn_eq rfl kI_0 c4
      refine lv_aload_n hx hb dX9_asks_22 rfl (lv_at hl 0 rfl) ?_
      refine tc_getr E hG t0 fr_X9_26 dX9_asks_23 (fun oa5 hoa5 => ?_)
      refine lv_aload_n hx hb dX9_asks_26 rfl (lv_at hl 0 rfl) ?_
      refine tc_getr E hG t0 fr_X9_12 dX9_asks_27 (fun oa6 hoa6 => ?_)
      refine tc_getr E hG hoa6 fr_X9_86 dX9_asks_30 (fun oa7 hoa7 => ?_)
      refine lv_iload_n hx hb dX9_asks_33 rfl (lv_at hl 1 rfl) ?_
      refine tc_aald3 E hG hoa7 ta_10 (t_in (by omega) (by omega)) dX9_asks_34 (fun oa8 hoa8 => ?_)
      refine lv_iload_n hx hb dX9_asks_35 rfl (lv_at hl 2 rfl) ?_
      refine tc_calli hG (tc_runV (As := [.ref oa8, .int x2]) (rest := []) E hSt hG (c_X3_ask l G τ oa5 oa8 x2 hoa5 hoa8) hoa5 rv_5 kv_X3_ask ml_X9_261 ⟨rfl, rfl, Nat.le_of_ble_eq_true rfl, Nat.le_of_ble_eq_true rfl⟩ rfl hl.1 rfl (Nat.le_of_ble_eq_true rfl) ⟨Nat.zero_le _, Nat.zero_le _⟩ dX9_asks_36) (fun r9 H locs pr9 hG => ?_)
      exact tc_iret E hr hlk hG trivial dX9_asks_39
    · skip
      have ic4 := tn_ne rfl kI_0 c4
      refine lv_iload_n hx hb dX9_asks_15 rfl (lv_at hl 2 rfl) ?_
      refine lv_iconst (v := 1) hx hb dX9_asks_16 (by decide) ?_
      refine lv_icmp_eq (tgt := 22) hx hb dX9_asks_17 (by decide) (fun c10 => ?_) (fun c10 => ?_)
      · skip
        have ic10 := tn_eq rfl kI_1 c10
        refine lv_aload_n hx hb dX9_asks_22 rfl (lv_at hl 0 rfl) ?_
        refine tc_getr E hG t0 fr_X9_26 dX9_asks_23 (fun oa11 hoa11 => ?_)
        refine lv_aload_n hx hb dX9_asks_26 rfl (lv_at hl 0 rfl) ?_
        refine tc_getr E hG t0 fr_X9_12 dX9_asks_27 (fun oa12 hoa12 => ?_)
        refine tc_getr E hG hoa12 fr_X9_86 dX9_asks_30 (fun oa13 hoa13 => ?_)
        refine lv_iload_n hx hb dX9_asks_33 rfl (lv_at hl 1 rfl) ?_
        refine tc_aald3 E hG hoa13 ta_10 (t_in (by omega) (by omega)) dX9_asks_34 (fun oa14 hoa14 => ?_)
        refine lv_iload_n hx hb dX9_asks_35 rfl (lv_at hl 2 rfl) ?_
        refine tc_calli hG (tc_runV (As := [.ref oa14, .int x2]) (rest := []) E hSt hG (c_X3_ask l G τ oa11 oa14 x2 hoa11 hoa14) hoa11 rv_5 kv_X3_ask ml_X9_261 ⟨rfl, rfl, Nat.le_of_ble_eq_true rfl, Nat.le_of_ble_eq_true rfl⟩ rfl hl.1 rfl (Nat.le_of_ble_eq_true rfl) ⟨Nat.zero_le _, Nat.zero_le _⟩ dX9_asks_36) (fun r15 H locs pr15 hG => ?_)
        exact tc_iret E hr hlk hG trivial dX9_asks_39
      · skip
        have ic10 := tn_ne rfl kI_1 c10
        refine lv_iconst (v := -1) hx hb dX9_asks_20 (by decide) ?_
        exact tc_iret E hr hlk hG trivial dX9_asks_21

set_option maxHeartbeats 4000000 in
set_option maxRecDepth 100000 in
theorem c_X9_hit (l : Launch) (G : tG) (τ : Nat → Nat) (h0 : Nat) (x1 : Int32) (x2 : Int32) (t0 : τ h0 = 1) : Met l yX9_hit (.code yX9_hit cX9_hit 3 (some .int) :: tWS) (tRm 31 892) (va_Pc [.ref h0, .int x1, .int x2] (tPre G τ)) (tQi G τ (fun r => True)) 0 0 (tA τ) := by
  refine tc_met (by decide) (Nat.le_of_ble_eq_true rfl) ?_
  intro p e s m below meth c E hSt hr hlk hG ls hl
  have hl : lv_has ls 3 [(0, .ref h0), (1, .int x1), (2, .int x2)] := hl
  have hx := E.1
  have hb := E.2.1
  obtain ⟨H, eH⟩ : ∃ H, H = s.heap := ⟨_, rfl⟩
  obtain ⟨locs, eL⟩ : ∃ x : List Loc, x = [] := ⟨_, rfl⟩
  have hG : tGH G τ s H locs := by rw [eH, eL]; exact hG
  suffices hW : W p l e (tRm 31 892) s m ([.ref h0, .int x1, .int x2] : List Value).toArray below meth c H locs 0 0 (MQ below (tQi G τ (fun r => True)) ([.ref h0, .int x1, .int x2] : List Value).toArray s 0 0 (tA τ)) (F0 m 0 ls []) by subst eH; subst eL; exact hW
  clear eH eL
  refine lv_aload_n hx hb dX9_hit_0 rfl (lv_at hl 0 rfl) ?_
  refine tc_getr E hG t0 fr_X9_12 dX9_hit_1 (fun oa1 hoa1 => ?_)
  refine lv_iload_n hx hb dX9_hit_4 rfl (lv_at hl 1 rfl) ?_
  refine lv_iload_n hx hb dX9_hit_5 rfl (lv_at hl 2 rfl) ?_
  refine tc_calli hG (tc_runV (As := [.int x1, .int x2]) (rest := []) E hSt hG (c_X8_whoIsAtPoint l G τ oa1 x1 x2 hoa1) hoa1 rv_2 kv_X8_whoIsAtPoint ml_X9_265 ⟨rfl, rfl, Nat.le_of_ble_eq_true rfl, Nat.le_of_ble_eq_true rfl⟩ rfl hl.1 rfl (Nat.le_of_ble_eq_true rfl) ⟨Nat.zero_le _, Nat.zero_le _⟩ dX9_hit_6) (fun r2 H locs pr2 hG => ?_)
  exact tc_iret E hr hlk hG trivial dX9_hit_9

set_option maxHeartbeats 4000000 in
set_option maxRecDepth 100000 in
theorem c_X9_told (l : Launch) (G : tG) (τ : Nat → Nat) (h0 : Nat) (x1 : Int32) (t0 : τ h0 = 1) : Met l yX9_told (.code yX9_told cX9_told 2 (some .int) :: tWS) (tRm 2 43) (va_Pc [.ref h0, .int x1] (tPre G τ)) (tQi G τ (fun r => True)) 0 0 (tA τ) := by
  refine tc_met (by decide) (Nat.le_of_ble_eq_true rfl) ?_
  intro p e s m below meth c E hSt hr hlk hG ls hl
  have hl : lv_has ls 2 [(0, .ref h0), (1, .int x1)] := hl
  have hx := E.1
  have hb := E.2.1
  obtain ⟨H, eH⟩ : ∃ H, H = s.heap := ⟨_, rfl⟩
  obtain ⟨locs, eL⟩ : ∃ x : List Loc, x = [] := ⟨_, rfl⟩
  have hG : tGH G τ s H locs := by rw [eH, eL]; exact hG
  suffices hW : W p l e (tRm 2 43) s m ([.ref h0, .int x1] : List Value).toArray below meth c H locs 0 0 (MQ below (tQi G τ (fun r => True)) ([.ref h0, .int x1] : List Value).toArray s 0 0 (tA τ)) (F0 m 0 ls []) by subst eH; subst eL; exact hW
  clear eH eL
  refine lv_iload_n hx hb dX9_told_0 rfl (lv_at hl 1 rfl) ?_
  rcases (show (x1.toInt < 0 ∨ 13 < x1.toInt) ∨ x1.toInt = 0 ∨ x1.toInt = 1 ∨ x1.toInt = 2 ∨ x1.toInt = 3 ∨ x1.toInt = 4 ∨ x1.toInt = 5 ∨ x1.toInt = 6 ∨ x1.toInt = 7 ∨ x1.toInt = 8 ∨ x1.toInt = 9 ∨ x1.toInt = 10 ∨ x1.toInt = 11 ∨ x1.toInt = 12 ∨ x1.toInt = 13 by omega) with k1 | k1 | k1 | k1 | k1 | k1 | k1 | k1 | k1 | k1 | k1 | k1 | k1 | k1 | k1
  · refine lv_tableOut (tgt := 197) hx hb dX9_told_1 k1 (by decide) ?_
    refine lv_iconst (v := -1) hx hb dX9_told_197 (by decide) ?_
    exact tc_iret E hr hlk hG trivial dX9_told_198
  · refine lv_tableIn (off := 71) (tgt := 72) hx hb dX9_told_1 (by rw [k1]; decide) (by rw [k1]; decide) (by rw [k1]; rfl) (by decide) ?_
    refine lv_aload_n hx hb dX9_told_72 rfl (lv_at hl 0 rfl) ?_
    refine tc_getr E hG t0 fr_X9_12 dX9_told_73 (fun oa2 hoa2 => ?_)
    refine tc_geti E hG hoa2 fi_X9_117 dX9_told_76 (fun z3 _ _ => ?_)
    exact tc_iret E hr hlk hG trivial dX9_told_79
  · refine lv_tableIn (off := 79) (tgt := 80) hx hb dX9_told_1 (by rw [k1]; decide) (by rw [k1]; decide) (by rw [k1]; rfl) (by decide) ?_
    refine lv_aload_n hx hb dX9_told_80 rfl (lv_at hl 0 rfl) ?_
    refine tc_getr E hG t0 fr_X9_12 dX9_told_81 (fun oa4 hoa4 => ?_)
    refine tc_geti E hG hoa4 fi_X9_120 dX9_told_84 (fun z5 _ _ => ?_)
    exact tc_iret E hr hlk hG trivial dX9_told_87
  · refine lv_tableIn (off := 87) (tgt := 88) hx hb dX9_told_1 (by rw [k1]; decide) (by rw [k1]; decide) (by rw [k1]; rfl) (by decide) ?_
    refine lv_aload_n hx hb dX9_told_88 rfl (lv_at hl 0 rfl) ?_
    refine tc_getr E hG t0 fr_X9_12 dX9_told_89 (fun oa6 hoa6 => ?_)
    refine lv_aload_n hx hb dX9_told_92 rfl (lv_at hl 0 rfl) ?_
    refine tc_getr E hG t0 fr_X9_12 dX9_told_93 (fun oa7 hoa7 => ?_)
    refine tc_geti E hG hoa7 fi_X9_268 dX9_told_96 (fun z8 _ _ => ?_)
    refine tc_callp (tc_runV (As := [.int z8]) (rest := []) E hSt hG (c_X8_has l G τ oa6 z8 hoa6) hoa6 rv_2 kv_X8_has ml_X9_83 ⟨rfl, rfl, Nat.le_of_ble_eq_true rfl, Nat.le_of_ble_eq_true rfl⟩ rfl hl.1 rfl (Nat.le_of_ble_eq_true rfl) ⟨Nat.zero_le _, Nat.zero_le _⟩ dX9_told_99) (fun r9 pr9 => ?_)
    have pr9 : (0 ≤ r9.toInt ∧ r9.toInt ≤ 1) ∧ (r9.toInt = 0 ∨ (0 ≤ z8.toInt ∧ z8.toInt ≤ 23)) := pr9
    refine lv_if_eq (tgt := 115) hx hb dX9_told_102 (by decide) (fun c10 => ?_) (fun c10 => ?_)
    · skip
      have ic10 := tn_eq rfl kI_0 c10
      refine lv_bipush (v := -5) hx hb dX9_told_115 (by decide) ?_
      exact tc_iret E hr hlk hG trivial dX9_told_117
    · skip
      have ic10 := tn_ne rfl kI_0 c10
      refine lv_aload_n hx hb dX9_told_105 rfl (lv_at hl 0 rfl) ?_
      refine tc_getr E hG t0 fr_X9_12 dX9_told_106 (fun oa11 hoa11 => ?_)
      refine tc_geti E hG hoa11 fi_X9_268 dX9_told_109 (fun z12 _ _ => ?_)
      refine lv_goto (tgt := 117) hx hb dX9_told_112 (by decide) ?_
      exact tc_iret E hr hlk hG trivial dX9_told_117
  · refine lv_tableIn (off := 117) (tgt := 118) hx hb dX9_told_1 (by rw [k1]; decide) (by rw [k1]; decide) (by rw [k1]; rfl) (by decide) ?_
    refine lv_aload_n hx hb dX9_told_118 rfl (lv_at hl 0 rfl) ?_
    refine tc_getr E hG t0 fr_X9_12 dX9_told_119 (fun oa13 hoa13 => ?_)
    refine tc_geti E hG hoa13 fi_X9_271 dX9_told_122 (fun z14 _ _ => ?_)
    exact tc_iret E hr hlk hG trivial dX9_told_125
  · refine lv_tableIn (off := 125) (tgt := 126) hx hb dX9_told_1 (by rw [k1]; decide) (by rw [k1]; decide) (by rw [k1]; rfl) (by decide) ?_
    refine lv_aload_n hx hb dX9_told_126 rfl (lv_at hl 0 rfl) ?_
    refine tc_getr E hG t0 fr_X9_12 dX9_told_127 (fun oa15 hoa15 => ?_)
    refine tc_geti E hG hoa15 fi_X9_143 dX9_told_130 (fun z16 _ _ => ?_)
    exact tc_iret E hr hlk hG trivial dX9_told_133
  · refine lv_tableIn (off := 133) (tgt := 134) hx hb dX9_told_1 (by rw [k1]; decide) (by rw [k1]; decide) (by rw [k1]; rfl) (by decide) ?_
    refine lv_aload_n hx hb dX9_told_134 rfl (lv_at hl 0 rfl) ?_
    refine tc_getr E hG t0 fr_X9_12 dX9_told_135 (fun oa17 hoa17 => ?_)
    refine tc_geti E hG hoa17 fi_X9_149 dX9_told_138 (fun z18 _ _ => ?_)
    exact tc_iret E hr hlk hG trivial dX9_told_141
  · refine lv_tableIn (off := 141) (tgt := 142) hx hb dX9_told_1 (by rw [k1]; decide) (by rw [k1]; decide) (by rw [k1]; rfl) (by decide) ?_
    refine lv_aload_n hx hb dX9_told_142 rfl (lv_at hl 0 rfl) ?_
    refine tc_getr E hG t0 fr_X9_12 dX9_told_143 (fun oa19 hoa19 => ?_)
    refine tc_callp (tc_runV (As := []) (rest := []) E hSt hG (c_X8_overBits l G τ oa19 hoa19) hoa19 rv_2 kv_X8_overBits ml_X9_274 ⟨rfl, rfl, Nat.le_of_ble_eq_true rfl, Nat.le_of_ble_eq_true rfl⟩ rfl hl.1 rfl (Nat.le_of_ble_eq_true rfl) ⟨Nat.zero_le _, Nat.zero_le _⟩ dX9_told_146) (fun r20 pr20 => ?_)
    exact tc_iret E hr hlk hG trivial dX9_told_149
  · refine lv_tableIn (off := 149) (tgt := 150) hx hb dX9_told_1 (by rw [k1]; decide) (by rw [k1]; decide) (by rw [k1]; rfl) (by decide) ?_
    refine lv_aload_n hx hb dX9_told_150 rfl (lv_at hl 0 rfl) ?_
    refine tc_geti E hG t0 fi_X9_202 dX9_told_151 (fun z21 _ _ => ?_)
    exact tc_iret E hr hlk hG trivial dX9_told_154
  · refine lv_tableIn (off := 154) (tgt := 155) hx hb dX9_told_1 (by rw [k1]; decide) (by rw [k1]; decide) (by rw [k1]; rfl) (by decide) ?_
    refine lv_aload_n hx hb dX9_told_155 rfl (lv_at hl 0 rfl) ?_
    refine tc_geti E hG t0 fi_X9_208 dX9_told_156 (fun z22 _ _ => ?_)
    exact tc_iret E hr hlk hG trivial dX9_told_159
  · refine lv_tableIn (off := 159) (tgt := 160) hx hb dX9_told_1 (by rw [k1]; decide) (by rw [k1]; decide) (by rw [k1]; rfl) (by decide) ?_
    refine lv_aload_n hx hb dX9_told_160 rfl (lv_at hl 0 rfl) ?_
    refine tc_getr E hG t0 fr_X9_12 dX9_told_161 (fun oa23 hoa23 => ?_)
    refine tc_geti E hG hoa23 fi_X9_75 dX9_told_164 (fun z24 lz24 uz24 => ?_)
    exact tc_iret E hr hlk hG trivial dX9_told_167
  · refine lv_tableIn (off := 167) (tgt := 168) hx hb dX9_told_1 (by rw [k1]; decide) (by rw [k1]; decide) (by rw [k1]; rfl) (by decide) ?_
    refine lv_aload_n hx hb dX9_told_168 rfl (lv_at hl 0 rfl) ?_
    refine tc_geti E hG t0 fi_X9_164 dX9_told_169 (fun z25 lz25 uz25 => ?_)
    exact tc_iret E hr hlk hG trivial dX9_told_172
  · refine lv_tableIn (off := 172) (tgt := 173) hx hb dX9_told_1 (by rw [k1]; decide) (by rw [k1]; decide) (by rw [k1]; rfl) (by decide) ?_
    refine lv_aload_n hx hb dX9_told_173 rfl (lv_at hl 0 rfl) ?_
    refine tc_getr E hG t0 fr_X9_12 dX9_told_174 (fun oa26 hoa26 => ?_)
    refine tc_geti E hG hoa26 fi_X9_278 dX9_told_177 (fun z27 lz27 uz27 => ?_)
    exact tc_iret E hr hlk hG trivial dX9_told_180
  · refine lv_tableIn (off := 180) (tgt := 181) hx hb dX9_told_1 (by rw [k1]; decide) (by rw [k1]; decide) (by rw [k1]; rfl) (by decide) ?_
    refine lv_aload_n hx hb dX9_told_181 rfl (lv_at hl 0 rfl) ?_
    refine tc_getr E hG t0 fr_X9_33 dX9_told_182 (fun oa28 hoa28 => ?_)
    refine tc_callp (tc_runV (As := []) (rest := []) E hSt hG (c_X7_workDone l G τ oa28 hoa28) hoa28 rv_6 kv_X7_workDone ml_X9_281 ⟨rfl, rfl, Nat.le_of_ble_eq_true rfl, Nat.le_of_ble_eq_true rfl⟩ rfl hl.1 rfl (Nat.le_of_ble_eq_true rfl) ⟨Nat.zero_le _, Nat.zero_le _⟩ dX9_told_185) (fun r29 pr29 => ?_)
    exact tc_iret E hr hlk hG trivial dX9_told_188
  · refine lv_tableIn (off := 188) (tgt := 189) hx hb dX9_told_1 (by rw [k1]; decide) (by rw [k1]; decide) (by rw [k1]; rfl) (by decide) ?_
    refine lv_aload_n hx hb dX9_told_189 rfl (lv_at hl 0 rfl) ?_
    refine tc_getr E hG t0 fr_X9_26 dX9_told_190 (fun oa30 hoa30 => ?_)
    refine tc_geti E hG hoa30 fi_X9_284 dX9_told_193 (fun z31 _ _ => ?_)
    exact tc_iret E hr hlk hG trivial dX9_told_196

set_option maxHeartbeats 4000000 in
set_option maxRecDepth 100000 in
theorem c_X9_agrees (l : Launch) (G : tG) (τ : Nat → Nat) (h0 : Nat) (t0 : τ h0 = 1) : Met l yX9_agrees (.code yX9_agrees cX9_agrees 1 (some .int) :: tWS) (tRm 1093 15096) (va_Pc [.ref h0] (tPre G τ)) (tQi G τ (fun r => True)) 0 0 (tA τ) := by
  refine tc_met (by decide) (Nat.le_of_ble_eq_true rfl) ?_
  intro p e s m below meth c E hSt hr hlk hG ls hl
  have hl : lv_has ls 1 [(0, .ref h0)] := hl
  have hx := E.1
  have hb := E.2.1
  obtain ⟨H, eH⟩ : ∃ H, H = s.heap := ⟨_, rfl⟩
  obtain ⟨locs, eL⟩ : ∃ x : List Loc, x = [] := ⟨_, rfl⟩
  have hG : tGH G τ s H locs := by rw [eH, eL]; exact hG
  suffices hW : W p l e (tRm 1093 15096) s m ([.ref h0] : List Value).toArray below meth c H locs 0 0 (MQ below (tQi G τ (fun r => True)) ([.ref h0] : List Value).toArray s 0 0 (tA τ)) (F0 m 0 ls []) by subst eH; subst eL; exact hW
  clear eH eL
  refine lv_aload_n hx hb dX9_agrees_0 rfl (lv_at hl 0 rfl) ?_
  refine tc_getr E hG t0 fr_X9_33 dX9_agrees_1 (fun oa1 hoa1 => ?_)
  refine tc_callp (tc_runV (As := []) (rest := []) E hSt hG (c_X7_isTired l G τ oa1 hoa1) hoa1 rv_6 kv_X7_isTired ml_X9_287 ⟨rfl, rfl, Nat.le_of_ble_eq_true rfl, Nat.le_of_ble_eq_true rfl⟩ rfl hl.1 rfl (Nat.le_of_ble_eq_true rfl) ⟨Nat.zero_le _, Nat.zero_le _⟩ dX9_agrees_4) (fun r2 pr2 => ?_)
  have pr2 : 0 ≤ r2.toInt ∧ r2.toInt ≤ 1 := pr2
  refine lv_if_eq (tgt := 15) hx hb dX9_agrees_7 (by decide) (fun c3 => ?_) (fun c3 => ?_)
  · skip
    have ic3 := tn_eq rfl kI_0 c3
    refine lv_aload_n hx hb dX9_agrees_15 rfl (lv_at hl 0 rfl) ?_
    refine tc_getr E hG t0 fr_X9_33 dX9_agrees_16 (fun oa4 hoa4 => ?_)
    refine tc_calli hG (tc_runV (As := []) (rest := []) E hSt hG (c_X7_agreesAnew l G τ oa4 hoa4) hoa4 rv_6 kv_X7_agreesAnew ml_X9_291 ⟨rfl, rfl, Nat.le_of_ble_eq_true rfl, Nat.le_of_ble_eq_true rfl⟩ rfl hl.1 rfl (Nat.le_of_ble_eq_true rfl) ⟨Nat.zero_le _, Nat.zero_le _⟩ dX9_agrees_19) (fun r5 H locs pr5 hG => ?_)
    exact tc_iret E hr hlk hG trivial dX9_agrees_22
  · skip
    have ic3 := tn_ne rfl kI_0 c3
    refine lv_bipush (v := -4) hx hb dX9_agrees_10 (by decide) ?_
    refine lv_goto (tgt := 22) hx hb dX9_agrees_12 (by decide) ?_
    exact tc_iret E hr hlk hG trivial dX9_agrees_22

set_option maxHeartbeats 4000000 in
set_option maxRecDepth 100000 in
theorem c_X9_narrowest (l : Launch) (G : tG) (τ : Nat → Nat) (h0 : Nat) (t0 : τ h0 = 1) : Met l yX9_narrowest (.code yX9_narrowest cX9_narrowest 1 (some .int) :: tWS) (tRm 1094 15119) (va_Pc [.ref h0] (tPre G τ)) (tQi G τ (fun r => True)) 0 0 (tA τ) := by
  refine tc_met (by decide) (Nat.le_of_ble_eq_true rfl) ?_
  intro p e s m below meth c E hSt hr hlk hG ls hl
  have hl : lv_has ls 1 [(0, .ref h0)] := hl
  have hx := E.1
  have hb := E.2.1
  obtain ⟨H, eH⟩ : ∃ H, H = s.heap := ⟨_, rfl⟩
  obtain ⟨locs, eL⟩ : ∃ x : List Loc, x = [] := ⟨_, rfl⟩
  have hG : tGH G τ s H locs := by rw [eH, eL]; exact hG
  suffices hW : W p l e (tRm 1094 15119) s m ([.ref h0] : List Value).toArray below meth c H locs 0 0 (MQ below (tQi G τ (fun r => True)) ([.ref h0] : List Value).toArray s 0 0 (tA τ)) (F0 m 0 ls []) by subst eH; subst eL; exact hW
  clear eH eL
  refine lv_aload_n hx hb dX9_narrowest_0 rfl (lv_at hl 0 rfl) ?_
  refine tc_getr E hG t0 fr_X9_33 dX9_narrowest_1 (fun oa1 hoa1 => ?_)
  refine tc_callp (tc_runV (As := []) (rest := []) E hSt hG (c_X7_isTired l G τ oa1 hoa1) hoa1 rv_6 kv_X7_isTired ml_X9_287 ⟨rfl, rfl, Nat.le_of_ble_eq_true rfl, Nat.le_of_ble_eq_true rfl⟩ rfl hl.1 rfl (Nat.le_of_ble_eq_true rfl) ⟨Nat.zero_le _, Nat.zero_le _⟩ dX9_narrowest_4) (fun r2 pr2 => ?_)
  have pr2 : 0 ≤ r2.toInt ∧ r2.toInt ≤ 1 := pr2
  refine lv_if_eq (tgt := 15) hx hb dX9_narrowest_7 (by decide) (fun c3 => ?_) (fun c3 => ?_)
  · skip
    have ic3 := tn_eq rfl kI_0 c3
    refine lv_aload_n hx hb dX9_narrowest_15 rfl (lv_at hl 0 rfl) ?_
    refine tc_getr E hG t0 fr_X9_33 dX9_narrowest_16 (fun oa4 hoa4 => ?_)
    refine tc_calli hG (tc_runV (As := []) (rest := []) E hSt hG (c_X7_narrowestScreen l G τ oa4 hoa4) hoa4 rv_6 kv_X7_narrowestScreen ml_X9_294 ⟨rfl, rfl, Nat.le_of_ble_eq_true rfl, Nat.le_of_ble_eq_true rfl⟩ rfl hl.1 rfl (Nat.le_of_ble_eq_true rfl) ⟨Nat.zero_le _, Nat.zero_le _⟩ dX9_narrowest_19) (fun r5 H locs pr5 hG => ?_)
    exact tc_iret E hr hlk hG trivial dX9_narrowest_22
  · skip
    have ic3 := tn_ne rfl kI_0 c3
    refine lv_bipush (v := -4) hx hb dX9_narrowest_10 (by decide) ?_
    refine lv_goto (tgt := 22) hx hb dX9_narrowest_12 (by decide) ?_
    exact tc_iret E hr hlk hG trivial dX9_narrowest_22

set_option maxHeartbeats 4000000 in
set_option maxRecDepth 100000 in
theorem c_X9_reached (l : Launch) (G : tG) (τ : Nat → Nat) (h0 : Nat) (x1 : Int32) (x2 : Int32) (t0 : τ h0 = 1) : Met l yX9_reached (.code yX9_reached cX9_reached 3 (some .int) :: tWS) (tRm 1093 15098) (va_Pc [.ref h0, .int x1, .int x2] (tPre G τ)) (tQi G τ (fun r => True)) 0 0 (tA τ) := by
  refine tc_met (by decide) (Nat.le_of_ble_eq_true rfl) ?_
  intro p e s m below meth c E hSt hr hlk hG ls hl
  have hl : lv_has ls 3 [(0, .ref h0), (1, .int x1), (2, .int x2)] := hl
  have hx := E.1
  have hb := E.2.1
  obtain ⟨H, eH⟩ : ∃ H, H = s.heap := ⟨_, rfl⟩
  obtain ⟨locs, eL⟩ : ∃ x : List Loc, x = [] := ⟨_, rfl⟩
  have hG : tGH G τ s H locs := by rw [eH, eL]; exact hG
  suffices hW : W p l e (tRm 1093 15098) s m ([.ref h0, .int x1, .int x2] : List Value).toArray below meth c H locs 0 0 (MQ below (tQi G τ (fun r => True)) ([.ref h0, .int x1, .int x2] : List Value).toArray s 0 0 (tA τ)) (F0 m 0 ls []) by subst eH; subst eL; exact hW
  clear eH eL
  refine lv_aload_n hx hb dX9_reached_0 rfl (lv_at hl 0 rfl) ?_
  refine tc_getr E hG t0 fr_X9_12 dX9_reached_1 (fun oa1 hoa1 => ?_)
  refine lv_iload_n hx hb dX9_reached_4 rfl (lv_at hl 1 rfl) ?_
  refine tc_callp (tc_runV (As := [.int x1]) (rest := []) E hSt hG (c_X8_has l G τ oa1 x1 hoa1) hoa1 rv_2 kv_X8_has ml_X9_83 ⟨rfl, rfl, Nat.le_of_ble_eq_true rfl, Nat.le_of_ble_eq_true rfl⟩ rfl hl.1 rfl (Nat.le_of_ble_eq_true rfl) ⟨Nat.zero_le _, Nat.zero_le _⟩ dX9_reached_5) (fun r2 pr2 => ?_)
  have pr2 : (0 ≤ r2.toInt ∧ r2.toInt ≤ 1) ∧ (r2.toInt = 0 ∨ (0 ≤ x1.toInt ∧ x1.toInt ≤ 23)) := pr2
  refine lv_if_eq (tgt := 20) hx hb dX9_reached_8 (by decide) (fun c3 => ?_) (fun c3 => ?_)
  · skip
    have ic3 := tn_eq rfl kI_0 c3
    refine lv_iconst (v := -1) hx hb dX9_reached_20 (by decide) ?_
    exact tc_iret E hr hlk hG trivial dX9_reached_21
  · skip
    have ic3 := tn_ne rfl kI_0 c3
    refine lv_iload_n hx hb dX9_reached_11 rfl (lv_at hl 2 rfl) ?_
    refine lv_if_eq (tgt := 22) hx hb dX9_reached_12 (by decide) (fun c4 => ?_) (fun c4 => ?_)
    · skip
      have ic4 := tn_eq rfl kI_0 c4
      refine lv_aload_n hx hb dX9_reached_22 rfl (lv_at hl 0 rfl) ?_
      refine tc_getr E hG t0 fr_X9_33 dX9_reached_23 (fun oa5 hoa5 => ?_)
      refine tc_callp (tc_runV (As := []) (rest := []) E hSt hG (c_X7_isTired l G τ oa5 hoa5) hoa5 rv_6 kv_X7_isTired ml_X9_287 ⟨rfl, rfl, Nat.le_of_ble_eq_true rfl, Nat.le_of_ble_eq_true rfl⟩ rfl hl.1 rfl (Nat.le_of_ble_eq_true rfl) ⟨Nat.zero_le _, Nat.zero_le _⟩ dX9_reached_26) (fun r6 pr6 => ?_)
      have pr6 : 0 ≤ r6.toInt ∧ r6.toInt ≤ 1 := pr6
      refine lv_if_eq (tgt := 37) hx hb dX9_reached_29 (by decide) (fun c7 => ?_) (fun c7 => ?_)
      · skip
        have ic7 := tn_eq rfl kI_0 c7
        refine lv_aload_n hx hb dX9_reached_37 rfl (lv_at hl 0 rfl) ?_
        refine tc_getr E hG t0 fr_X9_33 dX9_reached_38 (fun oa8 hoa8 => ?_)
        refine lv_iload_n hx hb dX9_reached_41 rfl (lv_at hl 1 rfl) ?_
        refine lv_iload_n hx hb dX9_reached_42 rfl (lv_at hl 2 rfl) ?_
        refine tc_calli hG (tc_runV (As := [.int x1, .int x2]) (rest := []) E hSt hG (c_X7_reachedFrom l G τ oa8 x1 x2 hoa8) hoa8 rv_6 kv_X7_reachedFrom ml_X9_300 ⟨rfl, rfl, Nat.le_of_ble_eq_true rfl, Nat.le_of_ble_eq_true rfl⟩ rfl hl.1 rfl (Nat.le_of_ble_eq_true rfl) ⟨Nat.zero_le _, Nat.zero_le _⟩ dX9_reached_43) (fun r9 H locs pr9 hG => ?_)
        exact tc_iret E hr hlk hG trivial dX9_reached_46
      · skip
        have ic7 := tn_ne rfl kI_0 c7
        refine lv_bipush (v := -4) hx hb dX9_reached_32 (by decide) ?_
        refine lv_goto (tgt := 46) hx hb dX9_reached_34 (by decide) ?_
        exact tc_iret E hr hlk hG trivial dX9_reached_46
    · skip
      have ic4 := tn_ne rfl kI_0 c4
      refine lv_iload_n hx hb dX9_reached_15 rfl (lv_at hl 2 rfl) ?_
      refine lv_iconst (v := 1) hx hb dX9_reached_16 (by decide) ?_
      refine lv_icmp_eq (tgt := 22) hx hb dX9_reached_17 (by decide) (fun c10 => ?_) (fun c10 => ?_)
      · skip
        have ic10 := tn_eq rfl kI_1 c10
        refine lv_aload_n hx hb dX9_reached_22 rfl (lv_at hl 0 rfl) ?_
        refine tc_getr E hG t0 fr_X9_33 dX9_reached_23 (fun oa11 hoa11 => ?_)
        refine tc_callp (tc_runV (As := []) (rest := []) E hSt hG (c_X7_isTired l G τ oa11 hoa11) hoa11 rv_6 kv_X7_isTired ml_X9_287 ⟨rfl, rfl, Nat.le_of_ble_eq_true rfl, Nat.le_of_ble_eq_true rfl⟩ rfl hl.1 rfl (Nat.le_of_ble_eq_true rfl) ⟨Nat.zero_le _, Nat.zero_le _⟩ dX9_reached_26) (fun r12 pr12 => ?_)
        have pr12 : 0 ≤ r12.toInt ∧ r12.toInt ≤ 1 := pr12
        refine lv_if_eq (tgt := 37) hx hb dX9_reached_29 (by decide) (fun c13 => ?_) (fun c13 => ?_)
        · skip
          have ic13 := tn_eq rfl kI_0 c13
          refine lv_aload_n hx hb dX9_reached_37 rfl (lv_at hl 0 rfl) ?_
          refine tc_getr E hG t0 fr_X9_33 dX9_reached_38 (fun oa14 hoa14 => ?_)
          refine lv_iload_n hx hb dX9_reached_41 rfl (lv_at hl 1 rfl) ?_
          refine lv_iload_n hx hb dX9_reached_42 rfl (lv_at hl 2 rfl) ?_
          refine tc_calli hG (tc_runV (As := [.int x1, .int x2]) (rest := []) E hSt hG (c_X7_reachedFrom l G τ oa14 x1 x2 hoa14) hoa14 rv_6 kv_X7_reachedFrom ml_X9_300 ⟨rfl, rfl, Nat.le_of_ble_eq_true rfl, Nat.le_of_ble_eq_true rfl⟩ rfl hl.1 rfl (Nat.le_of_ble_eq_true rfl) ⟨Nat.zero_le _, Nat.zero_le _⟩ dX9_reached_43) (fun r15 H locs pr15 hG => ?_)
          exact tc_iret E hr hlk hG trivial dX9_reached_46
        · skip
          have ic13 := tn_ne rfl kI_0 c13
          refine lv_bipush (v := -4) hx hb dX9_reached_32 (by decide) ?_
          refine lv_goto (tgt := 46) hx hb dX9_reached_34 (by decide) ?_
          exact tc_iret E hr hlk hG trivial dX9_reached_46
      · skip
        have ic10 := tn_ne rfl kI_1 c10
        refine lv_iconst (v := -1) hx hb dX9_reached_20 (by decide) ?_
        exact tc_iret E hr hlk hG trivial dX9_reached_21

set_option maxHeartbeats 4000000 in
set_option maxRecDepth 100000 in
theorem c_X9_bestShare (l : Launch) (G : tG) (τ : Nat → Nat) (h0 : Nat) (x1 : Int32) (x2 : Int32) (t0 : τ h0 = 1) : Met l yX9_bestShare (.code yX9_bestShare cX9_bestShare 3 (some .int) :: tWS) (tRm 1094 15124) (va_Pc [.ref h0, .int x1, .int x2] (tPre G τ)) (tQi G τ (fun r => True)) 0 0 (tA τ) := by
  refine tc_met (by decide) (Nat.le_of_ble_eq_true rfl) ?_
  intro p e s m below meth c E hSt hr hlk hG ls hl
  have hl : lv_has ls 3 [(0, .ref h0), (1, .int x1), (2, .int x2)] := hl
  have hx := E.1
  have hb := E.2.1
  obtain ⟨H, eH⟩ : ∃ H, H = s.heap := ⟨_, rfl⟩
  obtain ⟨locs, eL⟩ : ∃ x : List Loc, x = [] := ⟨_, rfl⟩
  have hG : tGH G τ s H locs := by rw [eH, eL]; exact hG
  suffices hW : W p l e (tRm 1094 15124) s m ([.ref h0, .int x1, .int x2] : List Value).toArray below meth c H locs 0 0 (MQ below (tQi G τ (fun r => True)) ([.ref h0, .int x1, .int x2] : List Value).toArray s 0 0 (tA τ)) (F0 m 0 ls []) by subst eH; subst eL; exact hW
  clear eH eL
  refine lv_aload_n hx hb dX9_bestShare_0 rfl (lv_at hl 0 rfl) ?_
  refine tc_getr E hG t0 fr_X9_12 dX9_bestShare_1 (fun oa1 hoa1 => ?_)
  refine lv_iload_n hx hb dX9_bestShare_4 rfl (lv_at hl 1 rfl) ?_
  refine tc_callp (tc_runV (As := [.int x1]) (rest := []) E hSt hG (c_X8_has l G τ oa1 x1 hoa1) hoa1 rv_2 kv_X8_has ml_X9_83 ⟨rfl, rfl, Nat.le_of_ble_eq_true rfl, Nat.le_of_ble_eq_true rfl⟩ rfl hl.1 rfl (Nat.le_of_ble_eq_true rfl) ⟨Nat.zero_le _, Nat.zero_le _⟩ dX9_bestShare_5) (fun r2 pr2 => ?_)
  have pr2 : (0 ≤ r2.toInt ∧ r2.toInt ≤ 1) ∧ (r2.toInt = 0 ∨ (0 ≤ x1.toInt ∧ x1.toInt ≤ 23)) := pr2
  refine lv_if_eq (tgt := 20) hx hb dX9_bestShare_8 (by decide) (fun c3 => ?_) (fun c3 => ?_)
  · skip
    have ic3 := tn_eq rfl kI_0 c3
    refine lv_iconst (v := -1) hx hb dX9_bestShare_20 (by decide) ?_
    exact tc_iret E hr hlk hG trivial dX9_bestShare_21
  · skip
    have ic3 := tn_ne rfl kI_0 c3
    refine lv_iload_n hx hb dX9_bestShare_11 rfl (lv_at hl 2 rfl) ?_
    refine lv_if_eq (tgt := 22) hx hb dX9_bestShare_12 (by decide) (fun c4 => ?_) (fun c4 => ?_)
    · skip
      have ic4 := tn_eq rfl kI_0 c4
      refine lv_aload_n hx hb dX9_bestShare_22 rfl (lv_at hl 0 rfl) ?_
      refine tc_getr E hG t0 fr_X9_33 dX9_bestShare_23 (fun oa5 hoa5 => ?_)
      refine tc_callp (tc_runV (As := []) (rest := []) E hSt hG (c_X7_isTired l G τ oa5 hoa5) hoa5 rv_6 kv_X7_isTired ml_X9_287 ⟨rfl, rfl, Nat.le_of_ble_eq_true rfl, Nat.le_of_ble_eq_true rfl⟩ rfl hl.1 rfl (Nat.le_of_ble_eq_true rfl) ⟨Nat.zero_le _, Nat.zero_le _⟩ dX9_bestShare_26) (fun r6 pr6 => ?_)
      have pr6 : 0 ≤ r6.toInt ∧ r6.toInt ≤ 1 := pr6
      refine lv_if_eq (tgt := 37) hx hb dX9_bestShare_29 (by decide) (fun c7 => ?_) (fun c7 => ?_)
      · skip
        have ic7 := tn_eq rfl kI_0 c7
        refine lv_aload_n hx hb dX9_bestShare_37 rfl (lv_at hl 0 rfl) ?_
        refine tc_getr E hG t0 fr_X9_33 dX9_bestShare_38 (fun oa8 hoa8 => ?_)
        refine lv_iload_n hx hb dX9_bestShare_41 rfl (lv_at hl 1 rfl) ?_
        refine lv_iload_n hx hb dX9_bestShare_42 rfl (lv_at hl 2 rfl) ?_
        refine tc_calli hG (tc_runV (As := [.int x1, .int x2]) (rest := []) E hSt hG (c_X7_widestShare l G τ oa8 x1 x2 hoa8 (by omega) (by omega)) hoa8 rv_6 kv_X7_widestShare ml_X9_303 ⟨rfl, rfl, Nat.le_of_ble_eq_true rfl, Nat.le_of_ble_eq_true rfl⟩ rfl hl.1 rfl (Nat.le_of_ble_eq_true rfl) ⟨Nat.zero_le _, Nat.zero_le _⟩ dX9_bestShare_43) (fun r9 H locs pr9 hG => ?_)
        exact tc_iret E hr hlk hG trivial dX9_bestShare_46
      · skip
        have ic7 := tn_ne rfl kI_0 c7
        refine lv_bipush (v := -4) hx hb dX9_bestShare_32 (by decide) ?_
        refine lv_goto (tgt := 46) hx hb dX9_bestShare_34 (by decide) ?_
        exact tc_iret E hr hlk hG trivial dX9_bestShare_46
    · skip
      have ic4 := tn_ne rfl kI_0 c4
      refine lv_iload_n hx hb dX9_bestShare_15 rfl (lv_at hl 2 rfl) ?_
      refine lv_iconst (v := 1) hx hb dX9_bestShare_16 (by decide) ?_
      refine lv_icmp_eq (tgt := 22) hx hb dX9_bestShare_17 (by decide) (fun c10 => ?_) (fun c10 => ?_)
      · skip
        have ic10 := tn_eq rfl kI_1 c10
        refine lv_aload_n hx hb dX9_bestShare_22 rfl (lv_at hl 0 rfl) ?_
        refine tc_getr E hG t0 fr_X9_33 dX9_bestShare_23 (fun oa11 hoa11 => ?_)
        refine tc_callp (tc_runV (As := []) (rest := []) E hSt hG (c_X7_isTired l G τ oa11 hoa11) hoa11 rv_6 kv_X7_isTired ml_X9_287 ⟨rfl, rfl, Nat.le_of_ble_eq_true rfl, Nat.le_of_ble_eq_true rfl⟩ rfl hl.1 rfl (Nat.le_of_ble_eq_true rfl) ⟨Nat.zero_le _, Nat.zero_le _⟩ dX9_bestShare_26) (fun r12 pr12 => ?_)
        have pr12 : 0 ≤ r12.toInt ∧ r12.toInt ≤ 1 := pr12
        refine lv_if_eq (tgt := 37) hx hb dX9_bestShare_29 (by decide) (fun c13 => ?_) (fun c13 => ?_)
        · skip
          have ic13 := tn_eq rfl kI_0 c13
          refine lv_aload_n hx hb dX9_bestShare_37 rfl (lv_at hl 0 rfl) ?_
          refine tc_getr E hG t0 fr_X9_33 dX9_bestShare_38 (fun oa14 hoa14 => ?_)
          refine lv_iload_n hx hb dX9_bestShare_41 rfl (lv_at hl 1 rfl) ?_
          refine lv_iload_n hx hb dX9_bestShare_42 rfl (lv_at hl 2 rfl) ?_
          refine tc_calli hG (tc_runV (As := [.int x1, .int x2]) (rest := []) E hSt hG (c_X7_widestShare l G τ oa14 x1 x2 hoa14 (by omega) (by omega)) hoa14 rv_6 kv_X7_widestShare ml_X9_303 ⟨rfl, rfl, Nat.le_of_ble_eq_true rfl, Nat.le_of_ble_eq_true rfl⟩ rfl hl.1 rfl (Nat.le_of_ble_eq_true rfl) ⟨Nat.zero_le _, Nat.zero_le _⟩ dX9_bestShare_43) (fun r15 H locs pr15 hG => ?_)
          exact tc_iret E hr hlk hG trivial dX9_bestShare_46
        · skip
          have ic13 := tn_ne rfl kI_0 c13
          refine lv_bipush (v := -4) hx hb dX9_bestShare_32 (by decide) ?_
          refine lv_goto (tgt := 46) hx hb dX9_bestShare_34 (by decide) ?_
          exact tc_iret E hr hlk hG trivial dX9_bestShare_46
      · skip
        have ic10 := tn_ne rfl kI_1 c10
        refine lv_iconst (v := -1) hx hb dX9_bestShare_20 (by decide) ?_
        exact tc_iret E hr hlk hG trivial dX9_bestShare_21

set_option maxHeartbeats 4000000 in
set_option maxRecDepth 100000 in
theorem c_X9_fits (l : Launch) (G : tG) (τ : Nat → Nat) (h0 : Nat) (x1 : Int32) (x2 : Int32) (t0 : τ h0 = 1) : Met l yX9_fits (.code yX9_fits cX9_fits 3 (some .int) :: tWS) (tRm 1094 15123) (va_Pc [.ref h0, .int x1, .int x2] (tPre G τ)) (tQi G τ (fun r => True)) 0 0 (tA τ) := by
  refine tc_met (by decide) (Nat.le_of_ble_eq_true rfl) ?_
  intro p e s m below meth c E hSt hr hlk hG ls hl
  have hl : lv_has ls 3 [(0, .ref h0), (1, .int x1), (2, .int x2)] := hl
  have hx := E.1
  have hb := E.2.1
  obtain ⟨H, eH⟩ : ∃ H, H = s.heap := ⟨_, rfl⟩
  obtain ⟨locs, eL⟩ : ∃ x : List Loc, x = [] := ⟨_, rfl⟩
  have hG : tGH G τ s H locs := by rw [eH, eL]; exact hG
  suffices hW : W p l e (tRm 1094 15123) s m ([.ref h0, .int x1, .int x2] : List Value).toArray below meth c H locs 0 0 (MQ below (tQi G τ (fun r => True)) ([.ref h0, .int x1, .int x2] : List Value).toArray s 0 0 (tA τ)) (F0 m 0 ls []) by subst eH; subst eL; exact hW
  clear eH eL
  refine lv_aload_n hx hb dX9_fits_0 rfl (lv_at hl 0 rfl) ?_
  refine tc_getr E hG t0 fr_X9_12 dX9_fits_1 (fun oa1 hoa1 => ?_)
  refine lv_iload_n hx hb dX9_fits_4 rfl (lv_at hl 1 rfl) ?_
  refine tc_callp (tc_runV (As := [.int x1]) (rest := []) E hSt hG (c_X8_has l G τ oa1 x1 hoa1) hoa1 rv_2 kv_X8_has ml_X9_83 ⟨rfl, rfl, Nat.le_of_ble_eq_true rfl, Nat.le_of_ble_eq_true rfl⟩ rfl hl.1 rfl (Nat.le_of_ble_eq_true rfl) ⟨Nat.zero_le _, Nat.zero_le _⟩ dX9_fits_5) (fun r2 pr2 => ?_)
  have pr2 : (0 ≤ r2.toInt ∧ r2.toInt ≤ 1) ∧ (r2.toInt = 0 ∨ (0 ≤ x1.toInt ∧ x1.toInt ≤ 23)) := pr2
  refine lv_if_eq (tgt := 32) hx hb dX9_fits_8 (by decide) (fun c3 => ?_) (fun c3 => ?_)
  · skip
    have ic3 := tn_eq rfl kI_0 c3
    refine lv_iconst (v := -1) hx hb dX9_fits_32 (by decide) ?_
    exact tc_iret E hr hlk hG trivial dX9_fits_33
  · skip
    have ic3 := tn_ne rfl kI_0 c3
    refine lv_iload_n hx hb dX9_fits_11 rfl (lv_at hl 2 rfl) ?_
    refine lv_iconst (v := 4) hx hb dX9_fits_12 (by decide) ?_
    refine lv_icmp_ge (tgt := 32) hx hb dX9_fits_13 (by decide) (fun c4 => ?_) (fun c4 => ?_)
    · skip
      have ic4 := tn_le kI_4 rfl c4
      refine lv_iconst (v := -1) hx hb dX9_fits_32 (by decide) ?_
      exact tc_iret E hr hlk hG trivial dX9_fits_33
    · skip
      have ic4 := tn_nle kI_4 rfl c4
      refine lv_aload_n hx hb dX9_fits_16 rfl (lv_at hl 0 rfl) ?_
      refine tc_getr E hG t0 fr_X9_12 dX9_fits_17 (fun oa5 hoa5 => ?_)
      refine tc_getr E hG hoa5 fr_X9_86 dX9_fits_20 (fun oa6 hoa6 => ?_)
      refine lv_iload_n hx hb dX9_fits_23 rfl (lv_at hl 1 rfl) ?_
      refine tc_aald3 E hG hoa6 ta_10 (t_in (by omega) (by omega)) dX9_fits_24 (fun oa7 hoa7 => ?_)
      refine lv_iload_n hx hb dX9_fits_25 rfl (lv_at hl 2 rfl) ?_
      refine tc_callp (tc_runV (As := [.int x2]) (rest := []) E hSt hG (c_X0_hasTold l G τ oa7 x2 hoa7) hoa7 rv_3 kv_X0_hasTold ml_X9_90 ⟨rfl, rfl, Nat.le_of_ble_eq_true rfl, Nat.le_of_ble_eq_true rfl⟩ rfl hl.1 rfl (Nat.le_of_ble_eq_true rfl) ⟨Nat.zero_le _, Nat.zero_le _⟩ dX9_fits_26) (fun r8 pr8 => ?_)
      have pr8 : (0 ≤ r8.toInt ∧ r8.toInt ≤ 1) ∧ (r8.toInt = 0 ∨ (0 ≤ x2.toInt ∧ x2.toInt ≤ 6)) := pr8
      refine lv_if_ne (tgt := 34) hx hb dX9_fits_29 (by decide) (fun c9 => ?_) (fun c9 => ?_)
      · skip
        have ic9 := tn_ne rfl kI_0 c9
        refine lv_aload_n hx hb dX9_fits_34 rfl (lv_at hl 0 rfl) ?_
        refine tc_getr E hG t0 fr_X9_33 dX9_fits_35 (fun oa10 hoa10 => ?_)
        refine tc_callp (tc_runV (As := []) (rest := []) E hSt hG (c_X7_isTired l G τ oa10 hoa10) hoa10 rv_6 kv_X7_isTired ml_X9_287 ⟨rfl, rfl, Nat.le_of_ble_eq_true rfl, Nat.le_of_ble_eq_true rfl⟩ rfl hl.1 rfl (Nat.le_of_ble_eq_true rfl) ⟨Nat.zero_le _, Nat.zero_le _⟩ dX9_fits_38) (fun r11 pr11 => ?_)
        have pr11 : 0 ≤ r11.toInt ∧ r11.toInt ≤ 1 := pr11
        refine lv_if_eq (tgt := 49) hx hb dX9_fits_41 (by decide) (fun c12 => ?_) (fun c12 => ?_)
        · skip
          have ic12 := tn_eq rfl kI_0 c12
          refine lv_aload_n hx hb dX9_fits_49 rfl (lv_at hl 0 rfl) ?_
          refine tc_getr E hG t0 fr_X9_33 dX9_fits_50 (fun oa13 hoa13 => ?_)
          refine lv_iload_n hx hb dX9_fits_53 rfl (lv_at hl 1 rfl) ?_
          refine lv_iload_n hx hb dX9_fits_54 rfl (lv_at hl 2 rfl) ?_
          refine tc_calli hG (tc_runV (As := [.int x1, .int x2]) (rest := []) E hSt hG (c_X7_fittingNumbers l G τ oa13 x1 x2 hoa13 (by omega) (by omega) (by omega) (by omega)) hoa13 rv_6 kv_X7_fittingNumbers ml_X9_306 ⟨rfl, rfl, Nat.le_of_ble_eq_true rfl, Nat.le_of_ble_eq_true rfl⟩ rfl hl.1 rfl (Nat.le_of_ble_eq_true rfl) ⟨Nat.zero_le _, Nat.zero_le _⟩ dX9_fits_55) (fun r14 H locs pr14 hG => ?_)
          exact tc_iret E hr hlk hG trivial dX9_fits_58
        · skip
          have ic12 := tn_ne rfl kI_0 c12
          refine lv_bipush (v := -4) hx hb dX9_fits_44 (by decide) ?_
          refine lv_goto (tgt := 58) hx hb dX9_fits_46 (by decide) ?_
          exact tc_iret E hr hlk hG trivial dX9_fits_58
      · skip
        have ic9 := tn_eq rfl kI_0 c9
        refine lv_iconst (v := -1) hx hb dX9_fits_32 (by decide) ?_
        exact tc_iret E hr hlk hG trivial dX9_fits_33

set_option maxHeartbeats 4000000 in
set_option maxRecDepth 100000 in
theorem c_X9_saved (l : Launch) (G : tG) (τ : Nat → Nat) (h0 : Nat) (t0 : τ h0 = 1) : Met l yX9_saved (.code yX9_saved cX9_saved 1 (some .int) :: tWS) (tRm 1093 15098) (va_Pc [.ref h0] (tPre G τ)) (tQi G τ (fun r => True)) 0 0 (tA τ) := by
  refine tc_met (by decide) (Nat.le_of_ble_eq_true rfl) ?_
  intro p e s m below meth c E hSt hr hlk hG ls hl
  have hl : lv_has ls 1 [(0, .ref h0)] := hl
  have hx := E.1
  have hb := E.2.1
  obtain ⟨H, eH⟩ : ∃ H, H = s.heap := ⟨_, rfl⟩
  obtain ⟨locs, eL⟩ : ∃ x : List Loc, x = [] := ⟨_, rfl⟩
  have hG : tGH G τ s H locs := by rw [eH, eL]; exact hG
  suffices hW : W p l e (tRm 1093 15098) s m ([.ref h0] : List Value).toArray below meth c H locs 0 0 (MQ below (tQi G τ (fun r => True)) ([.ref h0] : List Value).toArray s 0 0 (tA τ)) (F0 m 0 ls []) by subst eH; subst eL; exact hW
  clear eH eL
  refine lv_aload_n hx hb dX9_saved_0 rfl (lv_at hl 0 rfl) ?_
  refine tc_getr E hG t0 fr_X9_33 dX9_saved_1 (fun oa1 hoa1 => ?_)
  refine tc_callp (tc_runV (As := []) (rest := []) E hSt hG (c_X7_isTired l G τ oa1 hoa1) hoa1 rv_6 kv_X7_isTired ml_X9_287 ⟨rfl, rfl, Nat.le_of_ble_eq_true rfl, Nat.le_of_ble_eq_true rfl⟩ rfl hl.1 rfl (Nat.le_of_ble_eq_true rfl) ⟨Nat.zero_le _, Nat.zero_le _⟩ dX9_saved_4) (fun r2 pr2 => ?_)
  have pr2 : 0 ≤ r2.toInt ∧ r2.toInt ≤ 1 := pr2
  refine lv_if_eq (tgt := 15) hx hb dX9_saved_7 (by decide) (fun c3 => ?_) (fun c3 => ?_)
  · skip
    have ic3 := tn_eq rfl kI_0 c3
    refine lv_aload_n hx hb dX9_saved_15 rfl (lv_at hl 0 rfl) ?_
    refine tc_getr E hG t0 fr_X9_33 dX9_saved_16 (fun oa4 hoa4 => ?_)
    refine tc_calli hG (tc_runV (As := []) (rest := []) E hSt hG (c_X7_visitsSaved l G τ oa4 hoa4) hoa4 rv_6 kv_X7_visitsSaved ml_X9_312 ⟨rfl, rfl, Nat.le_of_ble_eq_true rfl, Nat.le_of_ble_eq_true rfl⟩ rfl hl.1 rfl (Nat.le_of_ble_eq_true rfl) ⟨Nat.zero_le _, Nat.zero_le _⟩ dX9_saved_19) (fun r5 H locs pr5 hG => ?_)
    exact tc_iret E hr hlk hG trivial dX9_saved_22
  · skip
    have ic3 := tn_ne rfl kI_0 c3
    refine lv_bipush (v := -4) hx hb dX9_saved_10 (by decide) ?_
    refine lv_goto (tgt := 22) hx hb dX9_saved_12 (by decide) ?_
    exact tc_iret E hr hlk hG trivial dX9_saved_22

set_option maxHeartbeats 4000000 in
set_option maxRecDepth 100000 in
theorem c_X9_drawn (l : Launch) (G : tG) (τ : Nat → Nat) (h0 : Nat) (x1 : Int32) (t0 : τ h0 = 1) : Met l yX9_drawn (.code yX9_drawn cX9_drawn 2 (some .int) :: tWS) (tRm 1094 15121) (va_Pc [.ref h0, .int x1] (tPre G τ)) (tQi G τ (fun r => True)) 0 0 (tA τ) := by
  refine tc_met (by decide) (Nat.le_of_ble_eq_true rfl) ?_
  intro p e s m below meth c E hSt hr hlk hG ls hl
  have hl : lv_has ls 2 [(0, .ref h0), (1, .int x1)] := hl
  have hx := E.1
  have hb := E.2.1
  obtain ⟨H, eH⟩ : ∃ H, H = s.heap := ⟨_, rfl⟩
  obtain ⟨locs, eL⟩ : ∃ x : List Loc, x = [] := ⟨_, rfl⟩
  have hG : tGH G τ s H locs := by rw [eH, eL]; exact hG
  suffices hW : W p l e (tRm 1094 15121) s m ([.ref h0, .int x1] : List Value).toArray below meth c H locs 0 0 (MQ below (tQi G τ (fun r => True)) ([.ref h0, .int x1] : List Value).toArray s 0 0 (tA τ)) (F0 m 0 ls []) by subst eH; subst eL; exact hW
  clear eH eL
  refine lv_iload_n hx hb dX9_drawn_0 rfl (lv_at hl 1 rfl) ?_
  refine lv_iconst (v := 1) hx hb dX9_drawn_1 (by decide) ?_
  refine lv_icmp_lt (tgt := 11) hx hb dX9_drawn_2 (by decide) (fun c1 => ?_) (fun c1 => ?_)
  · skip
    have ic1 := tn_lt rfl kI_1 c1
    refine lv_bipush (v := -2) hx hb dX9_drawn_11 (by decide) ?_
    exact tc_iret E hr hlk hG trivial dX9_drawn_13
  · skip
    have ic1 := tn_nlt rfl kI_1 c1
    refine lv_iload_n hx hb dX9_drawn_5 rfl (lv_at hl 1 rfl) ?_
    refine lv_bipush (v := 20) hx hb dX9_drawn_6 (by decide) ?_
    refine lv_icmp_le (tgt := 14) hx hb dX9_drawn_8 (by decide) (fun c2 => ?_) (fun c2 => ?_)
    · skip
      have ic2 := tn_le rfl kI_20 c2
      refine lv_aload_n hx hb dX9_drawn_14 rfl (lv_at hl 0 rfl) ?_
      refine tc_getr E hG t0 fr_X9_33 dX9_drawn_15 (fun oa3 hoa3 => ?_)
      refine tc_callp (tc_runV (As := []) (rest := []) E hSt hG (c_X7_isTired l G τ oa3 hoa3) hoa3 rv_6 kv_X7_isTired ml_X9_287 ⟨rfl, rfl, Nat.le_of_ble_eq_true rfl, Nat.le_of_ble_eq_true rfl⟩ rfl hl.1 rfl (Nat.le_of_ble_eq_true rfl) ⟨Nat.zero_le _, Nat.zero_le _⟩ dX9_drawn_18) (fun r4 pr4 => ?_)
      have pr4 : 0 ≤ r4.toInt ∧ r4.toInt ≤ 1 := pr4
      refine lv_if_eq (tgt := 29) hx hb dX9_drawn_21 (by decide) (fun c5 => ?_) (fun c5 => ?_)
      · skip
        have ic5 := tn_eq rfl kI_0 c5
        refine lv_aload_n hx hb dX9_drawn_29 rfl (lv_at hl 0 rfl) ?_
        refine tc_getr E hG t0 fr_X9_33 dX9_drawn_30 (fun oa6 hoa6 => ?_)
        refine lv_iload_n hx hb dX9_drawn_33 rfl (lv_at hl 1 rfl) ?_
        refine tc_calli hG (tc_runV (As := [.int x1]) (rest := []) E hSt hG (c_X7_overOfDraws l G τ oa6 x1 hoa6) hoa6 rv_6 kv_X7_overOfDraws ml_X9_332 ⟨rfl, rfl, Nat.le_of_ble_eq_true rfl, Nat.le_of_ble_eq_true rfl⟩ rfl hl.1 rfl (Nat.le_of_ble_eq_true rfl) ⟨Nat.zero_le _, Nat.zero_le _⟩ dX9_drawn_34) (fun r7 H locs pr7 hG => ?_)
        exact tc_iret E hr hlk hG trivial dX9_drawn_37
      · skip
        have ic5 := tn_ne rfl kI_0 c5
        refine lv_bipush (v := -4) hx hb dX9_drawn_24 (by decide) ?_
        refine lv_goto (tgt := 37) hx hb dX9_drawn_26 (by decide) ?_
        exact tc_iret E hr hlk hG trivial dX9_drawn_37
    · skip
      have ic2 := tn_nle rfl kI_20 c2
      refine lv_bipush (v := -2) hx hb dX9_drawn_11 (by decide) ?_
      exact tc_iret E hr hlk hG trivial dX9_drawn_13

set_option maxHeartbeats 4000000 in
set_option maxRecDepth 100000 in
theorem c_X9_seed (l : Launch) (G : tG) (τ : Nat → Nat) (h0 : Nat) (x1 : Int32) (t0 : τ h0 = 1) : Met l yX9_seed (.code yX9_seed cX9_seed 3 (some .int) :: tWS) (tRm 0 0) (va_Pc [.ref h0, .int x1] (tPre G τ)) (tQi G τ (fun r => True)) 0 0 (tA τ) := by
  refine tc_met (by decide) (Nat.le_of_ble_eq_true rfl) ?_
  intro p e s m below meth c E hSt hr hlk hG ls hl
  have hl : lv_has ls 3 [(0, .ref h0), (1, .int x1)] := hl
  have hx := E.1
  have hb := E.2.1
  obtain ⟨H, eH⟩ : ∃ H, H = s.heap := ⟨_, rfl⟩
  obtain ⟨locs, eL⟩ : ∃ x : List Loc, x = [] := ⟨_, rfl⟩
  have hG : tGH G τ s H locs := by rw [eH, eL]; exact hG
  suffices hW : W p l e (tRm 0 0) s m ([.ref h0, .int x1] : List Value).toArray below meth c H locs 0 0 (MQ below (tQi G τ (fun r => True)) ([.ref h0, .int x1] : List Value).toArray s 0 0 (tA τ)) (F0 m 0 ls []) by subst eH; subst eL; exact hW
  clear eH eL
  refine lv_aload_n hx hb dX9_seed_0 rfl (lv_at hl 0 rfl) ?_
  refine tc_getr E hG t0 fr_X9_12 dX9_seed_1 (fun oa1 hoa1 => ?_)
  refine tc_geti E hG hoa1 fi_X9_335 dX9_seed_4 (fun z2 _ _ => ?_)
  refine lv_istore_n (lv' := [(2, .int z2), (0, .ref h0), (1, .int x1)]) hx hb dX9_seed_7 rfl hl (by decide) rfl (fun ls hl => ?_)
  refine lv_aload_n hx hb dX9_seed_8 rfl (lv_at hl 1 rfl) ?_
  refine tc_getr E hG t0 fr_X9_12 dX9_seed_9 (fun oa3 hoa3 => ?_)
  refine lv_iload_n hx hb dX9_seed_12 rfl (lv_at hl 2 rfl) ?_
  refine tc_puti E hG hoa3 fp_X9_335 (t_any1 _) (t_any2 _) dX9_seed_13 (fun H locs hG => ?_)
  refine lv_iload_n hx hb dX9_seed_16 rfl (lv_at hl 0 rfl) ?_
  exact tc_iret E hr hlk hG trivial dX9_seed_17

set_option maxHeartbeats 4000000 in
set_option maxRecDepth 100000 in
theorem c_X9_taken (l : Launch) (G : tG) (τ : Nat → Nat) (h0 : Nat) (x1 : Int32) (x2 : Int32) (t0 : τ h0 = 1) : Met l yX9_taken (.code yX9_taken cX9_taken 4 (some .int) :: tWS) (tRm 1 21) (va_Pc [.ref h0, .int x1, .int x2] (tPre G τ)) (tQi G τ (fun r => True)) 0 0 (tA τ) := by
  refine tc_met (by decide) (Nat.le_of_ble_eq_true rfl) ?_
  intro p e s m below meth c E hSt hr hlk hG ls hl
  have hl : lv_has ls 4 [(0, .ref h0), (1, .int x1), (2, .int x2)] := hl
  have hx := E.1
  have hb := E.2.1
  obtain ⟨H, eH⟩ : ∃ H, H = s.heap := ⟨_, rfl⟩
  obtain ⟨locs, eL⟩ : ∃ x : List Loc, x = [] := ⟨_, rfl⟩
  have hG : tGH G τ s H locs := by rw [eH, eL]; exact hG
  suffices hW : W p l e (tRm 1 21) s m ([.ref h0, .int x1, .int x2] : List Value).toArray below meth c H locs 0 0 (MQ below (tQi G τ (fun r => True)) ([.ref h0, .int x1, .int x2] : List Value).toArray s 0 0 (tA τ)) (F0 m 0 ls []) by subst eH; subst eL; exact hW
  clear eH eL
  refine lv_iload_n hx hb dX9_taken_0 rfl (lv_at hl 2 rfl) ?_
  refine tc_callp (tc_runS (As := [.int x2]) (rest := []) E hSt hG (c_X1_isKind l G τ x2) ks_X1_isKind ml_X9_341 ⟨rfl, rfl, Nat.le_of_ble_eq_true rfl, Nat.le_of_ble_eq_true rfl⟩ rfl hl.1 rfl (Nat.le_of_ble_eq_true rfl) ⟨Nat.zero_le _, Nat.zero_le _⟩ dX9_taken_1) (fun r1 pr1 => ?_)
  have pr1 : (0 ≤ r1.toInt ∧ r1.toInt ≤ 1) ∧ (r1.toInt = 0 ∨ (0 ≤ x2.toInt ∧ x2.toInt ≤ 9)) := pr1
  refine lv_if_ne (tgt := 10) hx hb dX9_taken_4 (by decide) (fun c2 => ?_) (fun c2 => ?_)
  · skip
    have ic2 := tn_ne rfl kI_0 c2
    refine lv_aload_n hx hb dX9_taken_10 rfl (lv_at hl 0 rfl) ?_
    refine tc_getr E hG t0 fr_X9_12 dX9_taken_11 (fun oa3 hoa3 => ?_)
    refine lv_iload_n hx hb dX9_taken_14 rfl (lv_at hl 1 rfl) ?_
    refine tc_callp (tc_runV (As := [.int x1]) (rest := []) E hSt hG (c_X8_has l G τ oa3 x1 hoa3) hoa3 rv_2 kv_X8_has ml_X9_83 ⟨rfl, rfl, Nat.le_of_ble_eq_true rfl, Nat.le_of_ble_eq_true rfl⟩ rfl hl.1 rfl (Nat.le_of_ble_eq_true rfl) ⟨Nat.zero_le _, Nat.zero_le _⟩ dX9_taken_15) (fun r4 pr4 => ?_)
    have pr4 : (0 ≤ r4.toInt ∧ r4.toInt ≤ 1) ∧ (r4.toInt = 0 ∨ (0 ≤ x1.toInt ∧ x1.toInt ≤ 23)) := pr4
    refine lv_if_ne (tgt := 24) hx hb dX9_taken_18 (by decide) (fun c5 => ?_) (fun c5 => ?_)
    · skip
      have ic5 := tn_ne rfl kI_0 c5
      refine lv_aload_n hx hb dX9_taken_24 rfl (lv_at hl 0 rfl) ?_
      refine tc_getr E hG t0 fr_X9_12 dX9_taken_25 (fun oa6 hoa6 => ?_)
      refine tc_getr E hG hoa6 fr_X9_86 dX9_taken_28 (fun oa7 hoa7 => ?_)
      refine lv_iload_n hx hb dX9_taken_31 rfl (lv_at hl 1 rfl) ?_
      refine tc_aald3 E hG hoa7 ta_10 (t_in (by omega) (by omega)) dX9_taken_32 (fun oa8 hoa8 => ?_)
      refine tc_geti E hG hoa8 fi_X9_127 dX9_taken_33 (fun z9 _ _ => ?_)
      refine lv_istore_n (lv' := [(3, .int z9), (0, .ref h0), (1, .int x1), (2, .int x2)]) hx hb dX9_taken_36 rfl hl (by decide) rfl (fun ls hl => ?_)
      refine lv_iload_n hx hb dX9_taken_37 rfl (lv_at hl 0 rfl) ?_
      refine lv_iload_n hx hb dX9_taken_38 rfl (lv_at hl 3 rfl) ?_
      refine tc_callp (tc_runS (As := [.int z9, .int x2]) (rest := []) E hSt hG (c_X1_passesFor l G τ z9 x2) ks_X1_passesFor ml_X9_344 ⟨rfl, rfl, Nat.le_of_ble_eq_true rfl, Nat.le_of_ble_eq_true rfl⟩ rfl hl.1 rfl (Nat.le_of_ble_eq_true rfl) ⟨Nat.zero_le _, Nat.zero_le _⟩ dX9_taken_39) (fun r10 pr10 => ?_)
      have pr10 : 0 ≤ r10.toInt ∧ r10.toInt ≤ 1 := pr10
      refine lv_if_eq (tgt := 49) hx hb dX9_taken_42 (by decide) (fun c11 => ?_) (fun c11 => ?_)
      · skip
        have ic11 := tn_eq rfl kI_0 c11
        refine lv_bipush (v := -12) hx hb dX9_taken_49 (by decide) ?_
        exact tc_iret E hr hlk hG trivial dX9_taken_51
      · skip
        have ic11 := tn_ne rfl kI_0 c11
        refine lv_iload_n hx hb dX9_taken_45 rfl (lv_at hl 0 rfl) ?_
        refine lv_goto (tgt := 51) hx hb dX9_taken_46 (by decide) ?_
        exact tc_iret E hr hlk hG trivial dX9_taken_51
    · skip
      have ic5 := tn_eq rfl kI_0 c5
      refine lv_bipush (v := -11) hx hb dX9_taken_21 (by decide) ?_
      exact tc_iret E hr hlk hG trivial dX9_taken_23
  · skip
    have ic2 := tn_eq rfl kI_0 c2
    refine lv_bipush (v := -2) hx hb dX9_taken_7 (by decide) ?_
    exact tc_iret E hr hlk hG trivial dX9_taken_9

set_option maxHeartbeats 4000000 in
set_option maxRecDepth 100000 in
theorem c_X9_firstOtherwise (l : Launch) (G : tG) (τ : Nat → Nat) (h0 : Nat) (h1 : Nat) (x2 : Int32) (t0 : τ h0 = 1) (t1 : τ h1 = 9) (l2 : 0 ≤ x2.toInt) : Met l yX9_firstOtherwise (.code yX9_firstOtherwise cX9_firstOtherwise 5 (some .int) :: tWS) (tRm 1 21) (va_Pc [.ref h0, .ref h1, .int x2] (tPre G τ)) (tQp (fun r => True)) 0 0 tNo := by
  refine tc_met (by decide) (Nat.le_of_ble_eq_true rfl) ?_
  intro p e s m below meth c E hSt hr hlk hG ls hl
  have hl : lv_has ls 5 [(0, .ref h0), (1, .ref h1), (2, .int x2)] := hl
  have hx := E.1
  have hb := E.2.1
  obtain ⟨H, eH⟩ : ∃ H, H = s.heap := ⟨_, rfl⟩
  obtain ⟨locs, eL⟩ : ∃ x : List Loc, x = [] := ⟨_, rfl⟩
  have hG : tGH G τ s H locs := by rw [eH, eL]; exact hG
  suffices hW : W p l e (tRm 1 21) s m ([.ref h0, .ref h1, .int x2] : List Value).toArray below meth c H locs 0 0 (MQ below (tQp (fun r => True)) ([.ref h0, .ref h1, .int x2] : List Value).toArray s 0 0 tNo) (F0 m 0 ls []) by subst eH; subst eL; exact hW
  have J5 : ∀ (n5 : Nat) (ls : Array Slot) (v3 : Int32) (v4 : Int32), lv_has ls 5 [(0, .ref h0), (1, .ref h1), (2, .int x2), (3, .int v3), (4, .int v4)] → 0 ≤ v3.toInt → v3.toInt ≤ 24 → 0 ≤ v4.toInt → v4.toInt ≤ 24 → v3.toInt ≤ v4.toInt → (24 - v4.toInt).toNat < n5 → W p l e (tRm 1 21) s m ([.ref h0, .ref h1, .int x2] : List Value).toArray below meth c H locs 0 0 (MQ below (tQp (fun r => True)) ([.ref h0, .ref h1, .int x2] : List Value).toArray s 0 0 tNo) (F0 m 5 ls []) := by
    intro n5
    induction n5 with
    | zero => intro ls v3 v4 hl b3 c3 b4 c4 hex5 hn5; exact absurd hn5 (Nat.not_lt_zero _)
    | succ n5 ih5 =>
      intro ls v3 v4 hl b3 c3 b4 c4 hex5 hn5
      refine lv_iload hx hb dX9_firstOtherwise_5 (lv_at hl 4 rfl) ?_
      refine lv_aload_n hx hb dX9_firstOtherwise_7 rfl (lv_at hl 0 rfl) ?_
      refine tc_getr E hG t0 fr_X9_12 dX9_firstOtherwise_8 (fun oa1 hoa1 => ?_)
      refine tc_geti E hG hoa1 fi_X9_75 dX9_firstOtherwise_11 (fun z2 lz2 uz2 => ?_)
      refine lv_icmp_ge (tgt := 88) hx hb dX9_firstOtherwise_14 (by decide) (fun c3 => ?_) (fun c3 => ?_)
      · skip
        have ic3 := tn_le rfl rfl c3
        refine lv_bipush (v := -5) hx hb dX9_firstOtherwise_88 (by decide) ?_
        exact tc_pret E hr hlk eH eL rfl trivial dX9_firstOtherwise_90
      · skip
        have ic3 := tn_nle rfl rfl c3
        refine lv_aload_n hx hb dX9_firstOtherwise_17 rfl (lv_at hl 0 rfl) ?_
        refine tc_getr E hG t0 fr_X9_12 dX9_firstOtherwise_18 (fun oa4 hoa4 => ?_)
        refine lv_iload hx hb dX9_firstOtherwise_21 (lv_at hl 4 rfl) ?_
        refine tc_callp (tc_runV (As := [.int v4]) (rest := []) E hSt hG (c_X8_has l G τ oa4 v4 hoa4) hoa4 rv_2 kv_X8_has ml_X9_83 ⟨rfl, rfl, Nat.le_of_ble_eq_true rfl, Nat.le_of_ble_eq_true rfl⟩ rfl hl.1 rfl (Nat.le_of_ble_eq_true rfl) ⟨Nat.zero_le _, Nat.zero_le _⟩ dX9_firstOtherwise_23) (fun r5 pr5 => ?_)
        have pr5 : (0 ≤ r5.toInt ∧ r5.toInt ≤ 1) ∧ (r5.toInt = 0 ∨ (0 ≤ v4.toInt ∧ v4.toInt ≤ 23)) := pr5
        refine lv_if_ne (tgt := 32) hx hb dX9_firstOtherwise_26 (by decide) (fun c6 => ?_) (fun c6 => ?_)
        · skip
          have ic6 := tn_ne rfl kI_0 c6
          refine lv_iload_n hx hb dX9_firstOtherwise_32 rfl (lv_at hl 2 rfl) ?_
          refine lv_aload_n hx hb dX9_firstOtherwise_33 rfl (lv_at hl 1 rfl) ?_
          refine tc_geti E hG t1 fi_X9_386 dX9_firstOtherwise_34 (fun z7 lz7 uz7 => ?_)
          refine lv_iload_n hx hb dX9_firstOtherwise_37 rfl (lv_at hl 3 rfl) ?_
          refine lv_isub hx hb dX9_firstOtherwise_38 ?_
          refine lv_topi (fun z8 ez8 => ?_)
          have tz8 := tn_sub ez8 rfl rfl (by omega) (by omega)
          refine lv_icmp_lt (tgt := 47) hx hb dX9_firstOtherwise_39 (by decide) (fun c9 => ?_) (fun c9 => ?_)
          · skip
            have ic9 := tn_lt rfl rfl c9
            refine lv_aload_n hx hb dX9_firstOtherwise_47 rfl (lv_at hl 1 rfl) ?_
            refine tc_getr E hG t1 fr_X9_363 dX9_firstOtherwise_48 (fun oa10 hoa10 => ?_)
            refine lv_iload_n hx hb dX9_firstOtherwise_51 rfl (lv_at hl 2 rfl) ?_
            refine lv_iload_n hx hb dX9_firstOtherwise_52 rfl (lv_at hl 3 rfl) ?_
            refine lv_iadd hx hb dX9_firstOtherwise_53 ?_
            refine lv_topi (fun z11 ez11 => ?_)
            have tz11 := tn_add ez11 rfl rfl (by omega) (by omega)
            refine tc_lald E hG hoa10 ta_21 (t_in (by omega) (by omega)) dX9_firstOtherwise_54 (fun z12 => ?_)
            refine lv_aload_n hx hb dX9_firstOtherwise_55 rfl (lv_at hl 0 rfl) ?_
            refine tc_getr E hG t0 fr_X9_12 dX9_firstOtherwise_56 (fun oa13 hoa13 => ?_)
            refine tc_getr E hG hoa13 fr_X9_86 dX9_firstOtherwise_59 (fun oa14 hoa14 => ?_)
            refine lv_iload hx hb dX9_firstOtherwise_62 (lv_at hl 4 rfl) ?_
            refine tc_aald3 E hG hoa14 ta_10 (t_in (by omega) (by omega)) dX9_firstOtherwise_64 (fun oa15 hoa15 => ?_)
            refine tc_getr E hG hoa15 fr_X9_211 dX9_firstOtherwise_65 (fun oa16 hoa16 => ?_)
            refine tc_geti E hG hoa16 fi_X9_233 dX9_firstOtherwise_68 (fun z17 _ _ => ?_)
            refine lv_i2l hx hb dX9_firstOtherwise_71 rfl ?_
            refine lv_topl (fun z18 ez18 => ?_)
            refine W.lcmp hx hb dX9_firstOtherwise_72 ?_
            refine lv_topi (fun z19 ez19 => ?_)
            refine lv_if_eq (tgt := 79) hx hb dX9_firstOtherwise_73 (by decide) (fun c20 => ?_) (fun c20 => ?_)
            · skip
              have ic20 := tn_eq rfl kI_0 c20
              obtain ⟨z21, ez21⟩ : ∃ y : Int32, y = v3 + (1) := ⟨_, rfl⟩
              refine lv_iinc (v := z21) (lv' := [(3, .int z21), (0, .ref h0), (1, .ref h1), (2, .int x2), (4, .int v4)]) hx hb dX9_firstOtherwise_79 hl (k := 3) rfl (by rw [ez21]; rfl) (by decide) rfl (fun ls hl => ?_)
              have tz21 := tn_add ez21 rfl kI_1 (by omega) (by omega)
              obtain ⟨z22, ez22⟩ : ∃ y : Int32, y = v4 + (1) := ⟨_, rfl⟩
              refine lv_iinc (v := z22) (lv' := [(4, .int z22), (3, .int z21), (0, .ref h0), (1, .ref h1), (2, .int x2)]) hx hb dX9_firstOtherwise_82 hl (k := 4) rfl (by rw [ez22]; rfl) (by decide) rfl (fun ls hl => ?_)
              have tz22 := tn_add ez22 rfl kI_1 (by omega) (by omega)
              refine lv_goto (tgt := 5) hx hb dX9_firstOtherwise_85 (by decide) ?_
              exact ih5 ls z21 z22 (lv_sub hl [2, 3, 4, 1, 0] rfl) (by omega) (by omega) (by omega) (by omega) (by omega) (by omega)
            · skip
              have ic20 := tn_ne rfl kI_0 c20
              have nc20 := tl_ne ez19 ic20
              refine lv_iload hx hb dX9_firstOtherwise_76 (lv_at hl 4 rfl) ?_
              exact tc_pret E hr hlk eH eL rfl trivial dX9_firstOtherwise_78
          · skip
            have ic9 := tn_nlt rfl rfl c9
            refine lv_bipush (v := 100) hx hb dX9_firstOtherwise_42 (by decide) ?_
            refine lv_iload_n hx hb dX9_firstOtherwise_44 rfl (lv_at hl 3 rfl) ?_
            refine lv_iadd hx hb dX9_firstOtherwise_45 ?_
            refine lv_topi (fun z23 ez23 => ?_)
            have tz23 := tn_add ez23 kI_100 rfl (by omega) (by omega)
            exact tc_pret E hr hlk eH eL rfl trivial dX9_firstOtherwise_46
        · skip
          have ic6 := tn_eq rfl kI_0 c6
          refine lv_goto (tgt := 82) hx hb dX9_firstOtherwise_29 (by decide) ?_
          obtain ⟨z24, ez24⟩ : ∃ y : Int32, y = v4 + (1) := ⟨_, rfl⟩
          refine lv_iinc (v := z24) (lv' := [(4, .int z24), (0, .ref h0), (1, .ref h1), (2, .int x2), (3, .int v3)]) hx hb dX9_firstOtherwise_82 hl (k := 4) rfl (by rw [ez24]; rfl) (by decide) rfl (fun ls hl => ?_)
          have tz24 := tn_add ez24 rfl kI_1 (by omega) (by omega)
          refine lv_goto (tgt := 5) hx hb dX9_firstOtherwise_85 (by decide) ?_
          exact ih5 ls v3 z24 (lv_sub hl [1, 2, 3, 4, 0] rfl) (by omega) (by omega) (by omega) (by omega) (by omega) (by omega)
  refine lv_iconst (v := 0) hx hb dX9_firstOtherwise_0 (by decide) ?_
  refine lv_istore_n (lv' := [(3, .int 0), (0, .ref h0), (1, .ref h1), (2, .int x2)]) hx hb dX9_firstOtherwise_1 rfl hl (by decide) rfl (fun ls hl => ?_)
  refine lv_iconst (v := 0) hx hb dX9_firstOtherwise_2 (by decide) ?_
  refine lv_istore (lv' := [(4, .int 0), (3, .int 0), (0, .ref h0), (1, .ref h1), (2, .int x2)]) hx hb dX9_firstOtherwise_3 hl (by decide) rfl (fun ls hl => ?_)
  exact J5 ((24 - (0 : Int32).toInt).toNat + 1) ls (0 : Int32) (0 : Int32) (lv_sub hl [2, 3, 4, 1, 0] rfl) (by decide) (by decide) (by decide) (by decide) (by omega) (Nat.lt_succ_self _)

set_option maxHeartbeats 4000000 in
set_option maxRecDepth 100000 in
theorem c_X9_judge (l : Launch) (G : tG) (τ : Nat → Nat) (h0 : Nat) (x1 : Int32) (x2 : Int32) (t0 : τ h0 = 1) : Met l yX9_judge (.code yX9_judge cX9_judge 4 (some .int) :: tWS) (tRm 2 45) (va_Pc [.ref h0, .int x1, .int x2] (tPre G τ)) (tQi G τ (fun r => True)) 0 0 (tA τ) := by
  refine tc_met (by decide) (Nat.le_of_ble_eq_true rfl) ?_
  intro p e s m below meth c E hSt hr hlk hG ls hl
  have hl : lv_has ls 4 [(0, .ref h0), (1, .int x1), (2, .int x2)] := hl
  have hx := E.1
  have hb := E.2.1
  obtain ⟨H, eH⟩ : ∃ H, H = s.heap := ⟨_, rfl⟩
  obtain ⟨locs, eL⟩ : ∃ x : List Loc, x = [] := ⟨_, rfl⟩
  have hG : tGH G τ s H locs := by rw [eH, eL]; exact hG
  suffices hW : W p l e (tRm 2 45) s m ([.ref h0, .int x1, .int x2] : List Value).toArray below meth c H locs 0 0 (MQ below (tQi G τ (fun r => True)) ([.ref h0, .int x1, .int x2] : List Value).toArray s 0 0 (tA τ)) (F0 m 0 ls []) by subst eH; subst eL; exact hW
  clear eH eL
  refine lv_iload_n hx hb dX9_judge_0 rfl (lv_at hl 1 rfl) ?_
  refine tc_callp (tc_runS (As := [.int x1]) (rest := []) E hSt hG (c_X9_isTape l G τ x1) ks_X9_isTape ml_X9_347 ⟨rfl, rfl, Nat.le_of_ble_eq_true rfl, Nat.le_of_ble_eq_true rfl⟩ rfl hl.1 rfl (Nat.le_of_ble_eq_true rfl) ⟨Nat.zero_le _, Nat.zero_le _⟩ dX9_judge_1) (fun r1 pr1 => ?_)
  have pr1 : (0 ≤ r1.toInt ∧ r1.toInt ≤ 1) ∧ (r1.toInt = 0 ∨ (0 ≤ x1.toInt ∧ x1.toInt ≤ 3)) ∧ (r1.toInt = 1 ∨ x1.toInt < 0 ∨ 3 < x1.toInt) := pr1
  refine lv_if_ne (tgt := 9) hx hb dX9_judge_4 (by decide) (fun c2 => ?_) (fun c2 => ?_)
  · skip
    have ic2 := tn_ne rfl kI_0 c2
    refine lv_aload_n hx hb dX9_judge_9 rfl (lv_at hl 0 rfl) ?_
    refine tc_getr E hG t0 fr_X9_57 dX9_judge_10 (fun oa3 hoa3 => ?_)
    refine lv_iload_n hx hb dX9_judge_13 rfl (lv_at hl 1 rfl) ?_
    refine tc_aald4 E hG hoa3 ta_20 (t_in (by omega) (by omega)) dX9_judge_14 (fun oa4 hoa4 => ?_)
    refine lv_astore_n (lv' := [(3, .ref oa4), (0, .ref h0), (1, .int x1), (2, .int x2)]) hx hb dX9_judge_15 rfl hl (by decide) rfl (fun ls hl => ?_)
    refine lv_aload_n hx hb dX9_judge_16 rfl (lv_at hl 0 rfl) ?_
    refine tc_geti E hG hoa4 fi_X9_350 dX9_judge_17 (fun z5 _ _ => ?_)
    refine lv_iconst (v := -1) hx hb dX9_judge_20 (by decide) ?_
    refine lv_icmp_ne (tgt := 27) hx hb dX9_judge_21 (by decide) (fun c6 => ?_) (fun c6 => ?_)
    · skip
      have ic6 := tn_ne rfl kI_m1 c6
      refine lv_aload_n hx hb dX9_judge_27 rfl (lv_at hl 0 rfl) ?_
      refine tc_geti E hG hoa4 fi_X9_350 dX9_judge_28 (fun z7 _ _ => ?_)
      refine lv_iconst (v := 2) hx hb dX9_judge_31 (by decide) ?_
      refine lv_icmp_eq (tgt := 38) hx hb dX9_judge_32 (by decide) (fun c8 => ?_) (fun c8 => ?_)
      · skip
        have ic8 := tn_eq rfl kI_2 c8
        refine lv_iload_n hx hb dX9_judge_38 rfl (lv_at hl 3 rfl) ?_
        refine lv_if_ge (tgt := 47) hx hb dX9_judge_39 (by decide) (fun c9 => ?_) (fun c9 => ?_)
        · skip
          have ic9 := tn_le kI_0 rfl c9
          refine lv_aload_n hx hb dX9_judge_47 rfl (lv_at hl 1 rfl) ?_
          refine lv_aload_n hx hb dX9_judge_48 rfl (lv_at hl 0 rfl) ?_
          refine lv_iload_n hx hb dX9_judge_49 rfl (lv_at hl 3 rfl) ?_
          refine tc_callp (tc_runV (As := [.ref oa4, .int x2]) (rest := []) E hSt hG (c_X9_firstOtherwise l G τ h0 oa4 x2 t0 hoa4 (by omega)) t0 rv_1 kv_X9_firstOtherwise ml_X9_353 ⟨rfl, rfl, Nat.le_of_ble_eq_true rfl, Nat.le_of_ble_eq_true rfl⟩ rfl hl.1 rfl (Nat.le_of_ble_eq_true rfl) ⟨Nat.zero_le _, Nat.zero_le _⟩ dX9_judge_50) (fun r10 pr10 => ?_)
          exact tc_iret E hr hlk hG trivial dX9_judge_53
        · skip
          have ic9 := tn_nle kI_0 rfl c9
          refine lv_bipush (v := 100) hx hb dX9_judge_42 (by decide) ?_
          refine lv_goto (tgt := 53) hx hb dX9_judge_44 (by decide) ?_
          exact tc_iret E hr hlk hG trivial dX9_judge_53
      · skip
        have ic8 := tn_ne rfl kI_2 c8
        refine lv_bipush (v := -12) hx hb dX9_judge_35 (by decide) ?_
        exact tc_iret E hr hlk hG trivial dX9_judge_37
    · skip
      have ic6 := tn_eq rfl kI_m1 c6
      refine lv_bipush (v := 100) hx hb dX9_judge_24 (by decide) ?_
      exact tc_iret E hr hlk hG trivial dX9_judge_26
  · skip
    have ic2 := tn_eq rfl kI_0 c2
    refine lv_iconst (v := -1) hx hb dX9_judge_7 (by decide) ?_
    exact tc_iret E hr hlk hG trivial dX9_judge_8

set_option maxHeartbeats 4000000 in
set_option maxRecDepth 100000 in
theorem c_X9_tape (l : Launch) (G : tG) (τ : Nat → Nat) (h0 : Nat) (x1 : Int32) (x2 : Int32) (x3 : Int32) (t0 : τ h0 = 1) : Met l yX9_tape (.code yX9_tape cX9_tape 4 (some .int) :: tWS) (tRm 2 46) (va_Pc [.ref h0, .int x1, .int x2, .int x3] (tPre G τ)) (tQi G τ (fun r => r.toInt = tTape x1.toInt x2.toInt x3.toInt)) 0 0 (tA τ) := by
  refine tc_met (by decide) (Nat.le_of_ble_eq_true rfl) ?_
  intro p e s m below meth c E hSt hr hlk hG ls hl
  have hl : lv_has ls 4 [(0, .ref h0), (1, .int x1), (2, .int x2), (3, .int x3)] := hl
  have hx := E.1
  have hb := E.2.1
  obtain ⟨H, eH⟩ : ∃ H, H = s.heap := ⟨_, rfl⟩
  obtain ⟨locs, eL⟩ : ∃ x : List Loc, x = [] := ⟨_, rfl⟩
  have hG : tGH G τ s H locs := by rw [eH, eL]; exact hG
  suffices hW : W p l e (tRm 2 46) s m ([.ref h0, .int x1, .int x2, .int x3] : List Value).toArray below meth c H locs 0 0 (MQ below (tQi G τ (fun r => r.toInt = tTape x1.toInt x2.toInt x3.toInt)) ([.ref h0, .int x1, .int x2, .int x3] : List Value).toArray s 0 0 (tA τ)) (F0 m 0 ls []) by subst eH; subst eL; exact hW
  clear eH eL
  refine lv_iload_n hx hb dX9_tape_0 rfl (lv_at hl 1 rfl) ?_
  refine tc_callp (tc_runS (As := [.int x1]) (rest := []) E hSt hG (c_X9_isTape l G τ x1) ks_X9_isTape ml_X9_347 ⟨rfl, rfl, Nat.le_of_ble_eq_true rfl, Nat.le_of_ble_eq_true rfl⟩ rfl hl.1 rfl (Nat.le_of_ble_eq_true rfl) ⟨Nat.zero_le _, Nat.zero_le _⟩ dX9_tape_1) (fun r1 pr1 => ?_)
  have pr1 : (0 ≤ r1.toInt ∧ r1.toInt ≤ 1) ∧ (r1.toInt = 0 ∨ (0 ≤ x1.toInt ∧ x1.toInt ≤ 3)) ∧ (r1.toInt = 1 ∨ x1.toInt < 0 ∨ 3 < x1.toInt) := pr1
  refine lv_if_ne (tgt := 9) hx hb dX9_tape_4 (by decide) (fun c2 => ?_) (fun c2 => ?_)
  · skip
    have ic2 := tn_ne rfl kI_0 c2
    refine lv_iload_n hx hb dX9_tape_9 rfl (lv_at hl 2 rfl) ?_
    refine lv_iconst (v := -1) hx hb dX9_tape_10 (by decide) ?_
    refine lv_icmp_ne (tgt := 27) hx hb dX9_tape_11 (by decide) (fun c3 => ?_) (fun c3 => ?_)
    · skip
      have ic3 := tn_ne rfl kI_m1 c3
      refine lv_iload_n hx hb dX9_tape_27 rfl (lv_at hl 2 rfl) ?_
      refine lv_if_lt (tgt := 42) hx hb dX9_tape_28 (by decide) (fun c4 => ?_) (fun c4 => ?_)
      · skip
        have ic4 := tn_lt rfl kI_0 c4
        refine lv_bipush (v := -2) hx hb dX9_tape_42 (by decide) ?_
        exact tc_iret E hr hlk hG (show (-2 : Int32).toInt = tTape x1.toInt x2.toInt x3.toInt by have kk := kI_m2; (unfold tTape; (repeat first | rw [if_pos (by omega)] | rw [if_neg (by omega)]); first | done | omega)) dX9_tape_44
      · skip
        have ic4 := tn_nlt rfl kI_0 c4
        refine lv_iload_n hx hb dX9_tape_31 rfl (lv_at hl 2 rfl) ?_
        refine lv_iconst (v := 3) hx hb dX9_tape_32 (by decide) ?_
        refine lv_icmp_gt (tgt := 42) hx hb dX9_tape_33 (by decide) (fun c5 => ?_) (fun c5 => ?_)
        · skip
          have ic5 := tn_lt kI_3 rfl c5
          refine lv_bipush (v := -2) hx hb dX9_tape_42 (by decide) ?_
          exact tc_iret E hr hlk hG (show (-2 : Int32).toInt = tTape x1.toInt x2.toInt x3.toInt by have kk := kI_m2; (unfold tTape; (repeat first | rw [if_pos (by omega)] | rw [if_neg (by omega)]); first | done | omega)) dX9_tape_44
        · skip
          have ic5 := tn_nlt kI_3 rfl c5
          refine lv_iload_n hx hb dX9_tape_36 rfl (lv_at hl 3 rfl) ?_
          refine lv_bipush (v := 60) hx hb dX9_tape_37 (by decide) ?_
          refine lv_icmp_le (tgt := 45) hx hb dX9_tape_39 (by decide) (fun c6 => ?_) (fun c6 => ?_)
          · skip
            have ic6 := tn_le rfl kI_60 c6
            refine lv_iload_n hx hb dX9_tape_45 rfl (lv_at hl 3 rfl) ?_
            refine lv_if_ge (tgt := 52) hx hb dX9_tape_46 (by decide) (fun c7 => ?_) (fun c7 => ?_)
            · skip
              have ic7 := tn_le kI_0 rfl c7
              refine lv_aload_n hx hb dX9_tape_52 rfl (lv_at hl 0 rfl) ?_
              refine tc_getr E hG t0 fr_X9_57 dX9_tape_53 (fun oa8 hoa8 => ?_)
              refine lv_iload_n hx hb dX9_tape_56 rfl (lv_at hl 1 rfl) ?_
              refine tc_aald4 E hG hoa8 ta_20 (t_in (by omega) (by omega)) dX9_tape_57 (fun oa9 hoa9 => ?_)
              refine lv_iload_n hx hb dX9_tape_58 rfl (lv_at hl 2 rfl) ?_
              refine lv_iload_n hx hb dX9_tape_59 rfl (lv_at hl 3 rfl) ?_
              refine tc_callv hG (tc_runV (As := [.int x2, .int x3]) (rest := []) E hSt hG (c_X6_clearTo l G τ oa9 x2 x3 hoa9 (by omega) (by omega)) hoa9 rv_9 kv_X6_clearTo ml_X9_357 ⟨rfl, rfl, Nat.le_of_ble_eq_true rfl, Nat.le_of_ble_eq_true rfl⟩ rfl hl.1 rfl (Nat.le_of_ble_eq_true rfl) ⟨Nat.zero_le _, Nat.zero_le _⟩ dX9_tape_60) (fun H locs hG => ?_)
              refine lv_iconst (v := 1) hx hb dX9_tape_63 (by decide) ?_
              exact tc_iret E hr hlk hG (show (1 : Int32).toInt = tTape x1.toInt x2.toInt x3.toInt by have kk := kI_1; (unfold tTape; (repeat first | rw [if_pos (by omega)] | rw [if_neg (by omega)]); first | done | omega)) dX9_tape_64
            · skip
              have ic7 := tn_nle kI_0 rfl c7
              refine lv_bipush (v := -14) hx hb dX9_tape_49 (by decide) ?_
              exact tc_iret E hr hlk hG (show (-14 : Int32).toInt = tTape x1.toInt x2.toInt x3.toInt by have kk := kI_m14; (unfold tTape; (repeat first | rw [if_pos (by omega)] | rw [if_neg (by omega)]); first | done | omega)) dX9_tape_51
          · skip
            have ic6 := tn_nle rfl kI_60 c6
            refine lv_bipush (v := -2) hx hb dX9_tape_42 (by decide) ?_
            exact tc_iret E hr hlk hG (show (-2 : Int32).toInt = tTape x1.toInt x2.toInt x3.toInt by have kk := kI_m2; (unfold tTape; (repeat first | rw [if_pos (by omega)] | rw [if_neg (by omega)]); first | done | omega)) dX9_tape_44
    · skip
      have ic3 := tn_eq rfl kI_m1 c3
      refine lv_aload_n hx hb dX9_tape_14 rfl (lv_at hl 0 rfl) ?_
      refine tc_getr E hG t0 fr_X9_57 dX9_tape_15 (fun oa11 hoa11 => ?_)
      refine lv_iload_n hx hb dX9_tape_18 rfl (lv_at hl 1 rfl) ?_
      refine tc_aald4 E hG hoa11 ta_20 (t_in (by omega) (by omega)) dX9_tape_19 (fun oa12 hoa12 => ?_)
      refine lv_iload_n hx hb dX9_tape_20 rfl (lv_at hl 2 rfl) ?_
      refine lv_iconst (v := 0) hx hb dX9_tape_21 (by decide) ?_
      refine tc_callv hG (tc_runV (As := [.int x2, .int 0]) (rest := []) E hSt hG (c_X6_clearTo l G τ oa12 x2 (0 : Int32) hoa12 (by decide) (by decide)) hoa12 rv_9 kv_X6_clearTo ml_X9_357 ⟨rfl, rfl, Nat.le_of_ble_eq_true rfl, Nat.le_of_ble_eq_true rfl⟩ rfl hl.1 rfl (Nat.le_of_ble_eq_true rfl) ⟨Nat.zero_le _, Nat.zero_le _⟩ dX9_tape_22) (fun H locs hG => ?_)
      refine lv_iconst (v := 1) hx hb dX9_tape_25 (by decide) ?_
      exact tc_iret E hr hlk hG (show (1 : Int32).toInt = tTape x1.toInt x2.toInt x3.toInt by have kk := kI_1; (unfold tTape; (repeat first | rw [if_pos (by omega)] | rw [if_neg (by omega)]); first | done | omega)) dX9_tape_26
  · skip
    have ic2 := tn_eq rfl kI_0 c2
    refine lv_iconst (v := -1) hx hb dX9_tape_7 (by decide) ?_
    exact tc_iret E hr hlk hG (show (-1 : Int32).toInt = tTape x1.toInt x2.toInt x3.toInt by have kk := kI_m1; (unfold tTape; (repeat first | rw [if_pos (by omega)] | rw [if_neg (by omega)]); first | done | omega)) dX9_tape_8

set_option maxHeartbeats 4000000 in
set_option maxRecDepth 100000 in
theorem c_X9_item (l : Launch) (G : tG) (τ : Nat → Nat) (h0 : Nat) (x1 : Int32) (x2 : Int32) (x3 : Int64) (t0 : τ h0 = 1) : Met l yX9_item (.code yX9_item cX9_item 6 (some .int) :: tWS) (tRm 1 22) (va_Pc [.ref h0, .int x1, .int x2, .long x3] (tPre G τ)) (tQi G τ (fun r => True)) 0 0 (tA τ) := by
  refine tc_met (by decide) (Nat.le_of_ble_eq_true rfl) ?_
  intro p e s m below meth c E hSt hr hlk hG ls hl
  have hl : lv_has ls 6 [(0, .ref h0), (1, .int x1), (2, .int x2), (3, .long x3)] := hl
  have hx := E.1
  have hb := E.2.1
  obtain ⟨H, eH⟩ : ∃ H, H = s.heap := ⟨_, rfl⟩
  obtain ⟨locs, eL⟩ : ∃ x : List Loc, x = [] := ⟨_, rfl⟩
  have hG : tGH G τ s H locs := by rw [eH, eL]; exact hG
  suffices hW : W p l e (tRm 1 22) s m ([.ref h0, .int x1, .int x2, .long x3] : List Value).toArray below meth c H locs 0 0 (MQ below (tQi G τ (fun r => True)) ([.ref h0, .int x1, .int x2, .long x3] : List Value).toArray s 0 0 (tA τ)) (F0 m 0 ls []) by subst eH; subst eL; exact hW
  clear eH eL
  refine lv_iload_n hx hb dX9_item_0 rfl (lv_at hl 1 rfl) ?_
  refine tc_callp (tc_runS (As := [.int x1]) (rest := []) E hSt hG (c_X9_isTape l G τ x1) ks_X9_isTape ml_X9_347 ⟨rfl, rfl, Nat.le_of_ble_eq_true rfl, Nat.le_of_ble_eq_true rfl⟩ rfl hl.1 rfl (Nat.le_of_ble_eq_true rfl) ⟨Nat.zero_le _, Nat.zero_le _⟩ dX9_item_1) (fun r1 pr1 => ?_)
  have pr1 : (0 ≤ r1.toInt ∧ r1.toInt ≤ 1) ∧ (r1.toInt = 0 ∨ (0 ≤ x1.toInt ∧ x1.toInt ≤ 3)) ∧ (r1.toInt = 1 ∨ x1.toInt < 0 ∨ 3 < x1.toInt) := pr1
  refine lv_if_ne (tgt := 9) hx hb dX9_item_4 (by decide) (fun c2 => ?_) (fun c2 => ?_)
  · skip
    have ic2 := tn_ne rfl kI_0 c2
    refine lv_aload_n hx hb dX9_item_9 rfl (lv_at hl 0 rfl) ?_
    refine tc_getr E hG t0 fr_X9_57 dX9_item_10 (fun oa3 hoa3 => ?_)
    refine lv_iload_n hx hb dX9_item_13 rfl (lv_at hl 1 rfl) ?_
    refine tc_aald4 E hG hoa3 ta_20 (t_in (by omega) (by omega)) dX9_item_14 (fun oa4 hoa4 => ?_)
    refine lv_astore (lv' := [(5, .ref oa4), (0, .ref h0), (1, .int x1), (2, .int x2), (3, .long x3)]) hx hb dX9_item_15 hl (by decide) rfl (fun ls hl => ?_)
    refine lv_aload hx hb dX9_item_17 (lv_at hl 0 rfl) ?_
    refine tc_geti E hG hoa4 fi_X9_350 dX9_item_19 (fun z5 _ _ => ?_)
    refine lv_iconst (v := -1) hx hb dX9_item_22 (by decide) ?_
    refine lv_icmp_ne (tgt := 29) hx hb dX9_item_23 (by decide) (fun c6 => ?_) (fun c6 => ?_)
    · skip
      have ic6 := tn_ne rfl kI_m1 c6
      refine lv_aload hx hb dX9_item_29 (lv_at hl 0 rfl) ?_
      refine lv_iload_n hx hb dX9_item_31 rfl (lv_at hl 3 rfl) ?_
      refine tc_callp (tc_runV (As := [.int x2]) (rest := []) E hSt hG (c_X6_hasPlace l G τ oa4 x2 hoa4) hoa4 rv_9 kv_X6_hasPlace ml_X9_360 ⟨rfl, rfl, Nat.le_of_ble_eq_true rfl, Nat.le_of_ble_eq_true rfl⟩ rfl hl.1 rfl (Nat.le_of_ble_eq_true rfl) ⟨Nat.zero_le _, Nat.zero_le _⟩ dX9_item_32) (fun r7 pr7 => ?_)
      have pr7 : (0 ≤ r7.toInt ∧ r7.toInt ≤ 1) ∧ (r7.toInt = 0 ∨ (0 ≤ x2.toInt ∧ x2.toInt ≤ 59)) := pr7
      refine lv_if_ne (tgt := 41) hx hb dX9_item_35 (by decide) (fun c8 => ?_) (fun c8 => ?_)
      · skip
        have ic8 := tn_ne rfl kI_0 c8
        refine lv_aload hx hb dX9_item_41 (lv_at hl 0 rfl) ?_
        refine tc_getr E hG hoa4 fr_X9_363 dX9_item_43 (fun oa9 hoa9 => ?_)
        refine lv_iload_n hx hb dX9_item_46 rfl (lv_at hl 3 rfl) ?_
        refine lv_aload hx hb dX9_item_47 (lv_at hl 0 rfl) ?_
        refine lv_lload_n hx hb dX9_item_49 rfl (lv_at hl 4 rfl) ?_
        refine tc_callpl (tc_runV (As := [.long x3]) (rest := [.int x2, .ref oa9]) E hSt hG (c_X6_cutToSort l G τ oa4 x3 hoa4) hoa4 rv_9 kv_X6_cutToSort ml_X9_367 ⟨rfl, rfl, Nat.le_of_ble_eq_true rfl, Nat.le_of_ble_eq_true rfl⟩ rfl hl.1 rfl (Nat.le_of_ble_eq_true rfl) ⟨Nat.zero_le _, Nat.zero_le _⟩ dX9_item_50) (fun r10 pr10 => ?_)
        refine tc_last E hG hoa9 ta_21 (t_in (by omega) (by omega)) dX9_item_53 (fun H locs hG  => ?_)
        refine lv_iconst (v := 1) hx hb dX9_item_54 (by decide) ?_
        exact tc_iret E hr hlk hG trivial dX9_item_55
      · skip
        have ic8 := tn_eq rfl kI_0 c8
        refine lv_bipush (v := -13) hx hb dX9_item_38 (by decide) ?_
        exact tc_iret E hr hlk hG trivial dX9_item_40
    · skip
      have ic6 := tn_eq rfl kI_m1 c6
      refine lv_bipush (v := -11) hx hb dX9_item_26 (by decide) ?_
      exact tc_iret E hr hlk hG trivial dX9_item_28
  · skip
    have ic2 := tn_eq rfl kI_0 c2
    refine lv_iconst (v := -1) hx hb dX9_item_7 (by decide) ?_
    exact tc_iret E hr hlk hG trivial dX9_item_8

set_option maxHeartbeats 4000000 in
set_option maxRecDepth 100000 in
theorem c_X9_peek (l : Launch) (G : tG) (τ : Nat → Nat) (h0 : Nat) (x1 : Int32) (x2 : Int32) (t0 : τ h0 = 1) : Met l yX9_peek (.code yX9_peek cX9_peek 3 (some .long) :: tWS) (tRm 1 21) (va_Pc [.ref h0, .int x1, .int x2] (tPre G τ)) (tQl G τ (fun r => True)) 0 0 (tA τ) := by
  refine tc_met (by decide) (Nat.le_of_ble_eq_true rfl) ?_
  intro p e s m below meth c E hSt hr hlk hG ls hl
  have hl : lv_has ls 3 [(0, .ref h0), (1, .int x1), (2, .int x2)] := hl
  have hx := E.1
  have hb := E.2.1
  obtain ⟨H, eH⟩ : ∃ H, H = s.heap := ⟨_, rfl⟩
  obtain ⟨locs, eL⟩ : ∃ x : List Loc, x = [] := ⟨_, rfl⟩
  have hG : tGH G τ s H locs := by rw [eH, eL]; exact hG
  suffices hW : W p l e (tRm 1 21) s m ([.ref h0, .int x1, .int x2] : List Value).toArray below meth c H locs 0 0 (MQ below (tQl G τ (fun r => True)) ([.ref h0, .int x1, .int x2] : List Value).toArray s 0 0 (tA τ)) (F0 m 0 ls []) by subst eH; subst eL; exact hW
  clear eH eL
  refine lv_iload_n hx hb dX9_peek_0 rfl (lv_at hl 1 rfl) ?_
  refine tc_callp (tc_runS (As := [.int x1]) (rest := []) E hSt hG (c_X9_isTape l G τ x1) ks_X9_isTape ml_X9_347 ⟨rfl, rfl, Nat.le_of_ble_eq_true rfl, Nat.le_of_ble_eq_true rfl⟩ rfl hl.1 rfl (Nat.le_of_ble_eq_true rfl) ⟨Nat.zero_le _, Nat.zero_le _⟩ dX9_peek_1) (fun r1 pr1 => ?_)
  have pr1 : (0 ≤ r1.toInt ∧ r1.toInt ≤ 1) ∧ (r1.toInt = 0 ∨ (0 ≤ x1.toInt ∧ x1.toInt ≤ 3)) ∧ (r1.toInt = 1 ∨ x1.toInt < 0 ∨ 3 < x1.toInt) := pr1
  refine lv_if_eq (tgt := 34) hx hb dX9_peek_4 (by decide) (fun c2 => ?_) (fun c2 => ?_)
  · skip
    have ic2 := tn_eq rfl kI_0 c2
    refine lv_ldc2 (v := -9223372036854775808) hx hb E.2.2.2.1 (E.2.2.2.2.1 _ (t_w5 161 rfl rfl)) dX9_peek_34 ?_
    exact tc_lret E hr hlk hG trivial dX9_peek_37
  · skip
    have ic2 := tn_ne rfl kI_0 c2
    refine lv_aload_n hx hb dX9_peek_7 rfl (lv_at hl 0 rfl) ?_
    refine tc_getr E hG t0 fr_X9_57 dX9_peek_8 (fun oa3 hoa3 => ?_)
    refine lv_iload_n hx hb dX9_peek_11 rfl (lv_at hl 1 rfl) ?_
    refine tc_aald4 E hG hoa3 ta_20 (t_in (by omega) (by omega)) dX9_peek_12 (fun oa4 hoa4 => ?_)
    refine lv_iload_n hx hb dX9_peek_13 rfl (lv_at hl 2 rfl) ?_
    refine tc_callp (tc_runV (As := [.int x2]) (rest := []) E hSt hG (c_X6_hasPlace l G τ oa4 x2 hoa4) hoa4 rv_9 kv_X6_hasPlace ml_X9_360 ⟨rfl, rfl, Nat.le_of_ble_eq_true rfl, Nat.le_of_ble_eq_true rfl⟩ rfl hl.1 rfl (Nat.le_of_ble_eq_true rfl) ⟨Nat.zero_le _, Nat.zero_le _⟩ dX9_peek_14) (fun r5 pr5 => ?_)
    have pr5 : (0 ≤ r5.toInt ∧ r5.toInt ≤ 1) ∧ (r5.toInt = 0 ∨ (0 ≤ x2.toInt ∧ x2.toInt ≤ 59)) := pr5
    refine lv_if_eq (tgt := 34) hx hb dX9_peek_17 (by decide) (fun c6 => ?_) (fun c6 => ?_)
    · skip
      have ic6 := tn_eq rfl kI_0 c6
      refine lv_ldc2 (v := -9223372036854775808) hx hb E.2.2.2.1 (E.2.2.2.2.1 _ (t_w5 161 rfl rfl)) dX9_peek_34 ?_
      exact tc_lret E hr hlk hG trivial dX9_peek_37
    · skip
      have ic6 := tn_ne rfl kI_0 c6
      refine lv_aload_n hx hb dX9_peek_20 rfl (lv_at hl 0 rfl) ?_
      refine tc_getr E hG t0 fr_X9_57 dX9_peek_21 (fun oa7 hoa7 => ?_)
      refine lv_iload_n hx hb dX9_peek_24 rfl (lv_at hl 1 rfl) ?_
      refine tc_aald4 E hG hoa7 ta_20 (t_in (by omega) (by omega)) dX9_peek_25 (fun oa8 hoa8 => ?_)
      refine tc_getr E hG hoa8 fr_X9_363 dX9_peek_26 (fun oa9 hoa9 => ?_)
      refine lv_iload_n hx hb dX9_peek_29 rfl (lv_at hl 2 rfl) ?_
      refine tc_lald E hG hoa9 ta_21 (t_in (by omega) (by omega)) dX9_peek_30 (fun z10 => ?_)
      refine lv_goto (tgt := 37) hx hb dX9_peek_31 (by decide) ?_
      exact tc_lret E hr hlk hG trivial dX9_peek_37

set_option maxHeartbeats 4000000 in
set_option maxRecDepth 100000 in
theorem c_X9_shift (l : Launch) (G : tG) (τ : Nat → Nat) (h0 : Nat) (x1 : Int32) (x2 : Int32) (x3 : Int32) (x4 : Int32) (x5 : Int32) (t0 : τ h0 = 1) : Met l yX9_shift (.code yX9_shift cX9_shift 8 (some .int) :: tWS) (tRm 1 40) (va_Pc [.ref h0, .int x1, .int x2, .int x3, .int x4, .int x5] (tPre G τ)) (tQi G τ (fun r => True)) 0 0 (tA τ) := by
  refine tc_met (by decide) (Nat.le_of_ble_eq_true rfl) ?_
  intro p e s m below meth c E hSt hr hlk hG ls hl
  have hl : lv_has ls 8 [(0, .ref h0), (1, .int x1), (2, .int x2), (3, .int x3), (4, .int x4), (5, .int x5)] := hl
  have hx := E.1
  have hb := E.2.1
  obtain ⟨H, eH⟩ : ∃ H, H = s.heap := ⟨_, rfl⟩
  obtain ⟨locs, eL⟩ : ∃ x : List Loc, x = [] := ⟨_, rfl⟩
  have hG : tGH G τ s H locs := by rw [eH, eL]; exact hG
  suffices hW : W p l e (tRm 1 40) s m ([.ref h0, .int x1, .int x2, .int x3, .int x4, .int x5] : List Value).toArray below meth c H locs 0 0 (MQ below (tQi G τ (fun r => True)) ([.ref h0, .int x1, .int x2, .int x3, .int x4, .int x5] : List Value).toArray s 0 0 (tA τ)) (F0 m 0 ls []) by subst eH; subst eL; exact hW
  clear eH eL
  refine lv_iload_n hx hb dX9_shift_0 rfl (lv_at hl 1 rfl) ?_
  refine tc_callp (tc_runS (As := [.int x1]) (rest := []) E hSt hG (c_X9_isTape l G τ x1) ks_X9_isTape ml_X9_347 ⟨rfl, rfl, Nat.le_of_ble_eq_true rfl, Nat.le_of_ble_eq_true rfl⟩ rfl hl.1 rfl (Nat.le_of_ble_eq_true rfl) ⟨Nat.zero_le _, Nat.zero_le _⟩ dX9_shift_1) (fun r1 pr1 => ?_)
  have pr1 : (0 ≤ r1.toInt ∧ r1.toInt ≤ 1) ∧ (r1.toInt = 0 ∨ (0 ≤ x1.toInt ∧ x1.toInt ≤ 3)) ∧ (r1.toInt = 1 ∨ x1.toInt < 0 ∨ 3 < x1.toInt) := pr1
  refine lv_if_eq (tgt := 14) hx hb dX9_shift_4 (by decide) (fun c2 => ?_) (fun c2 => ?_)
  · skip
    have ic2 := tn_eq rfl kI_0 c2
    refine lv_iconst (v := -1) hx hb dX9_shift_14 (by decide) ?_
    exact tc_iret E hr hlk hG trivial dX9_shift_15
  · skip
    have ic2 := tn_ne rfl kI_0 c2
    refine lv_iload_n hx hb dX9_shift_7 rfl (lv_at hl 3 rfl) ?_
    refine tc_callp (tc_runS (As := [.int x3]) (rest := []) E hSt hG (c_X9_isTape l G τ x3) ks_X9_isTape ml_X9_347 ⟨rfl, rfl, Nat.le_of_ble_eq_true rfl, Nat.le_of_ble_eq_true rfl⟩ rfl hl.1 rfl (Nat.le_of_ble_eq_true rfl) ⟨Nat.zero_le _, Nat.zero_le _⟩ dX9_shift_8) (fun r3 pr3 => ?_)
    have pr3 : (0 ≤ r3.toInt ∧ r3.toInt ≤ 1) ∧ (r3.toInt = 0 ∨ (0 ≤ x3.toInt ∧ x3.toInt ≤ 3)) ∧ (r3.toInt = 1 ∨ x3.toInt < 0 ∨ 3 < x3.toInt) := pr3
    refine lv_if_ne (tgt := 16) hx hb dX9_shift_11 (by decide) (fun c4 => ?_) (fun c4 => ?_)
    · skip
      have ic4 := tn_ne rfl kI_0 c4
      refine lv_aload_n hx hb dX9_shift_16 rfl (lv_at hl 0 rfl) ?_
      refine tc_getr E hG t0 fr_X9_57 dX9_shift_17 (fun oa5 hoa5 => ?_)
      refine lv_iload_n hx hb dX9_shift_20 rfl (lv_at hl 1 rfl) ?_
      refine tc_aald4 E hG hoa5 ta_20 (t_in (by omega) (by omega)) dX9_shift_21 (fun oa6 hoa6 => ?_)
      refine lv_astore (lv' := [(6, .ref oa6), (0, .ref h0), (1, .int x1), (2, .int x2), (3, .int x3), (4, .int x4), (5, .int x5)]) hx hb dX9_shift_22 hl (by decide) rfl (fun ls hl => ?_)
      refine lv_aload_n hx hb dX9_shift_24 rfl (lv_at hl 1 rfl) ?_
      refine tc_getr E hG t0 fr_X9_57 dX9_shift_25 (fun oa7 hoa7 => ?_)
      refine lv_iload_n hx hb dX9_shift_28 rfl (lv_at hl 4 rfl) ?_
      refine tc_aald4 E hG hoa7 ta_20 (t_in (by omega) (by omega)) dX9_shift_29 (fun oa8 hoa8 => ?_)
      refine lv_astore (lv' := [(7, .ref oa8), (6, .ref oa6), (0, .ref h0), (1, .int x1), (2, .int x2), (3, .int x3), (4, .int x4), (5, .int x5)]) hx hb dX9_shift_30 hl (by decide) rfl (fun ls hl => ?_)
      refine lv_aload hx hb dX9_shift_32 (lv_at hl 1 rfl) ?_
      refine tc_geti E hG hoa6 fi_X9_350 dX9_shift_34 (fun z9 _ _ => ?_)
      refine lv_iconst (v := -1) hx hb dX9_shift_37 (by decide) ?_
      refine lv_icmp_eq (tgt := 50) hx hb dX9_shift_38 (by decide) (fun c10 => ?_) (fun c10 => ?_)
      · skip
        have ic10 := tn_eq rfl kI_m1 c10
        refine lv_bipush (v := -11) hx hb dX9_shift_50 (by decide) ?_
        exact tc_iret E hr hlk hG trivial dX9_shift_52
      · skip
        have ic10 := tn_ne rfl kI_m1 c10
        refine lv_aload hx hb dX9_shift_41 (lv_at hl 0 rfl) ?_
        refine tc_geti E hG hoa8 fi_X9_350 dX9_shift_43 (fun z11 _ _ => ?_)
        refine lv_iconst (v := -1) hx hb dX9_shift_46 (by decide) ?_
        refine lv_icmp_ne (tgt := 53) hx hb dX9_shift_47 (by decide) (fun c12 => ?_) (fun c12 => ?_)
        · skip
          have ic12 := tn_ne rfl kI_m1 c12
          refine lv_aload hx hb dX9_shift_53 (lv_at hl 1 rfl) ?_
          refine tc_geti E hG hoa6 fi_X9_350 dX9_shift_55 (fun z13 _ _ => ?_)
          refine lv_aload hx hb dX9_shift_58 (lv_at hl 0 rfl) ?_
          refine tc_geti E hG hoa8 fi_X9_350 dX9_shift_60 (fun z14 _ _ => ?_)
          refine lv_icmp_eq (tgt := 69) hx hb dX9_shift_63 (by decide) (fun c15 => ?_) (fun c15 => ?_)
          · skip
            have ic15 := tn_eq rfl rfl c15
            refine lv_aload hx hb dX9_shift_69 (lv_at hl 1 rfl) ?_
            refine lv_iload_n hx hb dX9_shift_71 rfl (lv_at hl 4 rfl) ?_
            refine lv_iload hx hb dX9_shift_72 (lv_at hl 7 rfl) ?_
            refine tc_callp (tc_runV (As := [.int x2, .int x5]) (rest := []) E hSt hG (c_X6_hasRun l G τ oa6 x2 x5 hoa6) hoa6 rv_9 kv_X6_hasRun ml_X9_371 ⟨rfl, rfl, Nat.le_of_ble_eq_true rfl, Nat.le_of_ble_eq_true rfl⟩ rfl hl.1 rfl (Nat.le_of_ble_eq_true rfl) ⟨Nat.zero_le _, Nat.zero_le _⟩ dX9_shift_74) (fun r16 pr16 => ?_)
            have pr16 : (0 ≤ r16.toInt ∧ r16.toInt ≤ 1) ∧ (r16.toInt = 0 ∨ (0 ≤ x2.toInt ∧ 0 ≤ x5.toInt ∧ x2.toInt + x5.toInt ≤ 60)) := pr16
            refine lv_if_eq (tgt := 92) hx hb dX9_shift_77 (by decide) (fun c17 => ?_) (fun c17 => ?_)
            · skip
              have ic17 := tn_eq rfl kI_0 c17
              refine lv_bipush (v := -13) hx hb dX9_shift_92 (by decide) ?_
              exact tc_iret E hr hlk hG trivial dX9_shift_94
            · skip
              have ic17 := tn_ne rfl kI_0 c17
              refine lv_aload hx hb dX9_shift_80 (lv_at hl 0 rfl) ?_
              refine lv_iload hx hb dX9_shift_82 (lv_at hl 6 rfl) ?_
              refine lv_iload hx hb dX9_shift_84 (lv_at hl 7 rfl) ?_
              refine tc_callp (tc_runV (As := [.int x4, .int x5]) (rest := []) E hSt hG (c_X6_hasRun l G τ oa8 x4 x5 hoa8) hoa8 rv_9 kv_X6_hasRun ml_X9_371 ⟨rfl, rfl, Nat.le_of_ble_eq_true rfl, Nat.le_of_ble_eq_true rfl⟩ rfl hl.1 rfl (Nat.le_of_ble_eq_true rfl) ⟨Nat.zero_le _, Nat.zero_le _⟩ dX9_shift_86) (fun r18 pr18 => ?_)
              have pr18 : (0 ≤ r18.toInt ∧ r18.toInt ≤ 1) ∧ (r18.toInt = 0 ∨ (0 ≤ x4.toInt ∧ 0 ≤ x5.toInt ∧ x4.toInt + x5.toInt ≤ 60)) := pr18
              refine lv_if_ne (tgt := 95) hx hb dX9_shift_89 (by decide) (fun c19 => ?_) (fun c19 => ?_)
              · skip
                have ic19 := tn_ne rfl kI_0 c19
                refine lv_aload hx hb dX9_shift_95 (lv_at hl 1 rfl) ?_
                refine tc_getr E hG hoa6 fr_X9_363 dX9_shift_97 (fun oa20 hoa20 => ?_)
                refine lv_iload_n hx hb dX9_shift_100 rfl (lv_at hl 4 rfl) ?_
                refine lv_aload hx hb dX9_shift_101 (lv_at hl 0 rfl) ?_
                refine tc_getr E hG hoa8 fr_X9_363 dX9_shift_103 (fun oa21 hoa21 => ?_)
                refine lv_iload hx hb dX9_shift_106 (lv_at hl 6 rfl) ?_
                refine lv_iload hx hb dX9_shift_108 (lv_at hl 7 rfl) ?_
                refine tc_copyl (rest := []) E hl.1 hG ml_X9_374 kn_copy1 kn_copy2 kn_copy3 hoa20 hoa21 ta_21 ta_21 (by omega) (by omega) (by omega) (by omega) (by omega) ⟨Nat.le_of_ble_eq_true rfl, by decide +kernel⟩ dX9_shift_110 (fun H locs hG oq22 => ?_)
                refine lv_iload hx hb dX9_shift_113 (lv_at hl 7 rfl) ?_
                exact tc_iret E hr hlk hG trivial dX9_shift_115
              · skip
                have ic19 := tn_eq rfl kI_0 c19
                refine lv_bipush (v := -13) hx hb dX9_shift_92 (by decide) ?_
                exact tc_iret E hr hlk hG trivial dX9_shift_94
          · skip
            have ic15 := tn_ne rfl rfl c15
            refine lv_bipush (v := -12) hx hb dX9_shift_66 (by decide) ?_
            exact tc_iret E hr hlk hG trivial dX9_shift_68
        · skip
          have ic12 := tn_eq rfl kI_m1 c12
          refine lv_bipush (v := -11) hx hb dX9_shift_50 (by decide) ?_
          exact tc_iret E hr hlk hG trivial dX9_shift_52
    · skip
      have ic4 := tn_eq rfl kI_0 c4
      refine lv_iconst (v := -1) hx hb dX9_shift_14 (by decide) ?_
      exact tc_iret E hr hlk hG trivial dX9_shift_15
