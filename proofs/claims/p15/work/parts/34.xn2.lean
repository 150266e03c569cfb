set_option maxHeartbeats 4000000 in
set_option maxRecDepth 100000 in
theorem x_X3_isDue (l : Launch) (G : tG) (τ : Nat → Nat) (h0 : Nat) (x1 : Int32) (x2 : Int32) (t0 : τ h0 = 5) (hU : ∀ q, τ q = 2 → q = (G.2.2.1 10)) : Met l yX3_isDue (.code yX3_isDue cX3_isDue 3 (some .boolean) :: tWS) (tRm 1 21) (va_Pc [.ref h0, .int x1, .int x2] (tPre G τ)) (tQp (fun r => (0 ≤ r.toInt ∧ r.toInt ≤ 1) ∧ (r.toInt = 0 ∨ ((0 ≤ x1.toInt ∧ x1.toInt ≤ 23 ∧ tB ((FF G) (G.2.2.1 10) 4) x1.toInt.toNat) ∧ ((FF G) ((G.2.2.1 10) + 1 + (3 + 4 * x1.toNatClampNeg)) 6).toInt = x2.toInt)))) 0 0 tNo := by
  refine tc_met (by decide) (Nat.le_of_ble_eq_true rfl) ?_
  intro p e s m below meth c E hSt hr hlk hG ls hl
  have hl : lv_has ls 3 [(0, .ref h0), (1, .int x1), (2, .int x2)] := hl
  have hx := E.1
  have hb := E.2.1
  obtain ⟨H, eH⟩ : ∃ H, H = s.heap := ⟨_, rfl⟩
  obtain ⟨locs, eL⟩ : ∃ x : List Loc, x = [] := ⟨_, rfl⟩
  have hG : tGH G τ s H locs := by rw [eH, eL]; exact hG
  suffices hW : W p l e (tRm 1 21) s m ([.ref h0, .int x1, .int x2] : List Value).toArray below meth c H locs 0 0 (MQ below (tQp (fun r => (0 ≤ r.toInt ∧ r.toInt ≤ 1) ∧ (r.toInt = 0 ∨ ((0 ≤ x1.toInt ∧ x1.toInt ≤ 23 ∧ tB ((FF G) (G.2.2.1 10) 4) x1.toInt.toNat) ∧ ((FF G) ((G.2.2.1 10) + 1 + (3 + 4 * x1.toNatClampNeg)) 6).toInt = x2.toInt)))) ([.ref h0, .int x1, .int x2] : List Value).toArray s 0 0 tNo) (F0 m 0 ls []) by subst eH; subst eL; exact hW
  refine lv_aload_n hx hb dX3_isDue_0 rfl (lv_at hl 0 rfl) ?_
  refine tc_getr E hG t0 fr_X3_9 dX3_isDue_1 (fun oa1 hoa1 => ?_)
  obtain rfl := hU _ hoa1
  refine lv_iload_n hx hb dX3_isDue_4 rfl (lv_at hl 1 rfl) ?_
  refine tc_callp (tc_runV (As := [.int x1]) (rest := []) E hSt hG (x_X8_has l G τ (G.2.2.1 10) x1 hoa1) hoa1 rv_2 kv_X8_has ml_X3_80 ⟨rfl, rfl, Nat.le_of_ble_eq_true rfl, Nat.le_of_ble_eq_true rfl⟩ rfl hl.1 rfl (Nat.le_of_ble_eq_true rfl) ⟨Nat.zero_le _, Nat.zero_le _⟩ dX3_isDue_5) (fun r2 pr2 => ?_)
  have pr2 : (r2.toInt = 1 ∧ (0 ≤ x1.toInt ∧ x1.toInt ≤ 23 ∧ tB ((FF G) (G.2.2.1 10) 4) x1.toInt.toNat)) ∨ (r2.toInt = 0 ∧ ¬ (0 ≤ x1.toInt ∧ x1.toInt ≤ 23 ∧ tB ((FF G) (G.2.2.1 10) 4) x1.toInt.toNat)) := pr2
  refine lv_if_eq (tgt := 54) hx hb dX3_isDue_8 (by decide) (fun c3 => ?_) (fun c3 => ?_)
  · skip
    have ic3 := tn_eq rfl kI_0 c3
    refine lv_iconst (v := 0) hx hb dX3_isDue_54 (by decide) ?_
    exact tc_pret E hr hlk eH eL (t_nz (by decide) (by decide)).1 (show (0 ≤ (0 : Int32).toInt ∧ (0 : Int32).toInt ≤ 1) ∧ ((0 : Int32).toInt = 0 ∨ ((0 ≤ x1.toInt ∧ x1.toInt ≤ 23 ∧ tB ((FF G) (G.2.2.1 10) 4) x1.toInt.toNat) ∧ ((FF G) ((G.2.2.1 10) + 1 + (3 + 4 * x1.toNatClampNeg)) 6).toInt = x2.toInt)) by have kk := kI_0; exact ⟨by decide, Or.inl (by decide)⟩) dX3_isDue_55
  · skip
    have ic3 := tn_ne rfl kI_0 c3
    refine lv_aload_n hx hb dX3_isDue_11 rfl (lv_at hl 0 rfl) ?_
    refine tc_getr E hG t0 fr_X3_9 dX3_isDue_12 (fun oa4 hoa4 => ?_)
    obtain rfl := hU _ hoa4
    refine tc_geti E hG hoa4 fi_X3_48 dX3_isDue_15 (fun z5 _ _ => ?_)
    refine lv_aload_n hx hb dX3_isDue_18 rfl (lv_at hl 0 rfl) ?_
    refine tc_getr E hG t0 fr_X3_9 dX3_isDue_19 (fun oa6 hoa6 => ?_)
    obtain rfl := hU _ hoa6
    refine tc_geti E hG hoa6 fi_X3_51 dX3_isDue_22 (fun z7 _ _ => ?_)
    refine lv_iand hx hb dX3_isDue_25 ?_
    refine lv_topi (fun z8 ez8 => ?_)
    refine lv_iload_n hx hb dX3_isDue_26 rfl (lv_at hl 1 rfl) ?_
    refine lv_iushr hx hb dX3_isDue_27 rfl ?_
    refine lv_topi (fun z9 ez9 => ?_)
    refine lv_iconst (v := 1) hx hb dX3_isDue_28 (by decide) ?_
    refine lv_iand hx hb dX3_isDue_29 ?_
    refine lv_topi (fun z10 ez10 => ?_)
    refine lv_iconst (v := 1) hx hb dX3_isDue_30 (by decide) ?_
    refine lv_icmp_ne (tgt := 54) hx hb dX3_isDue_31 (by decide) (fun c11 => ?_) (fun c11 => ?_)
    · skip
      have ic11 := tn_ne rfl kI_1 c11
      refine lv_iconst (v := 0) hx hb dX3_isDue_54 (by decide) ?_
      exact tc_pret E hr hlk eH eL (t_nz (by decide) (by decide)).1 (show (0 ≤ (0 : Int32).toInt ∧ (0 : Int32).toInt ≤ 1) ∧ ((0 : Int32).toInt = 0 ∨ ((0 ≤ x1.toInt ∧ x1.toInt ≤ 23 ∧ tB ((FF G) (G.2.2.1 10) 4) x1.toInt.toNat) ∧ ((FF G) ((G.2.2.1 10) + 1 + (3 + 4 * x1.toNatClampNeg)) 6).toInt = x2.toInt)) by have kk := kI_0; exact ⟨by decide, Or.inl (by decide)⟩) dX3_isDue_55
    · skip
      have ic11 := tn_eq rfl kI_1 c11
      refine lv_aload_n hx hb dX3_isDue_34 rfl (lv_at hl 0 rfl) ?_
      refine tc_getr E hG t0 fr_X3_9 dX3_isDue_35 (fun oa12 hoa12 => ?_)
      obtain rfl := hU _ hoa12
      refine tc_getrF (d := 1) E hG hoa12 fr_X3_34 rfl dX3_isDue_38 (fun ha13 => ?_)
      refine lv_iload_n hx hb dX3_isDue_41 rfl (lv_at hl 1 rfl) ?_
      refine tc_aald3F (d := 3 + 4 * x1.toNatClampNeg) E hG ha13 ta_10 rfl (t_in (by omega) (by omega)) dX3_isDue_42 (fun ha14 => ?_)
      have nx1 : x1.toNatClampNeg = x1.toInt.toNat := rfl
      refine tc_getF E hG ha14 fi_X3_84 rfl dX3_isDue_43 (fun z15 lz15 uz15 wz15 => ?_)
      replace wz15 : z15 = (FF G) (((G.2.2.1 10) + 1) + (3 + 4 * x1.toNatClampNeg)) 6 := wz15
      have cz15 : z15.toInt = ((FF G) (((G.2.2.1 10) + 1) + (3 + 4 * x1.toNatClampNeg)) 6).toInt := by rw [wz15]
      refine lv_iload_n hx hb dX3_isDue_46 rfl (lv_at hl 2 rfl) ?_
      refine lv_icmp_ne (tgt := 54) hx hb dX3_isDue_47 (by decide) (fun c16 => ?_) (fun c16 => ?_)
      · skip
        have ic16 := tn_ne rfl rfl c16
        refine lv_iconst (v := 0) hx hb dX3_isDue_54 (by decide) ?_
        exact tc_pret E hr hlk eH eL (t_nz (by decide) (by decide)).1 (show (0 ≤ (0 : Int32).toInt ∧ (0 : Int32).toInt ≤ 1) ∧ ((0 : Int32).toInt = 0 ∨ ((0 ≤ x1.toInt ∧ x1.toInt ≤ 23 ∧ tB ((FF G) (G.2.2.1 10) 4) x1.toInt.toNat) ∧ ((FF G) ((G.2.2.1 10) + 1 + (3 + 4 * x1.toNatClampNeg)) 6).toInt = x2.toInt)) by have kk := kI_0; exact ⟨by decide, Or.inl (by decide)⟩) dX3_isDue_55
      · skip
        have ic16 := tn_eq rfl rfl c16
        refine lv_iconst (v := 1) hx hb dX3_isDue_50 (by decide) ?_
        refine lv_goto (tgt := 55) hx hb dX3_isDue_51 (by decide) ?_
        exact tc_pret E hr hlk eH eL (t_nz (by decide) (by decide)).1 (show (0 ≤ (1 : Int32).toInt ∧ (1 : Int32).toInt ≤ 1) ∧ ((1 : Int32).toInt = 0 ∨ ((0 ≤ x1.toInt ∧ x1.toInt ≤ 23 ∧ tB ((FF G) (G.2.2.1 10) 4) x1.toInt.toNat) ∧ ((FF G) ((G.2.2.1 10) + 1 + (3 + 4 * x1.toNatClampNeg)) 6).toInt = x2.toInt)) by have kk := kI_1; exact ⟨by decide, Or.inr ⟨(by rcases pr2 with ⟨_, q9⟩ | ⟨q9, _⟩; exact q9; (exfalso; omega)), by omega⟩⟩) dX3_isDue_55

set_option maxHeartbeats 4000000 in
set_option maxRecDepth 100000 in
theorem x_X3_layOut (l : Launch) (G : tG) (F : mF) (τ : Nat → Nat) (h0 : Nat) (t0 : τ h0 = 5) (hU : ∀ q, τ q = 2 → q = (G.2.2.1 10)) (hK : AKF F (G.2.2.1 10)) (hC : CINV F (G.2.2.1 10)) (hD : DEPF F (G.2.2.1 10)) : Met l yX3_layOut (.code yX3_layOut cX3_layOut 5 none :: tWS) (tRm 1091 15052) (va_Pc [.ref h0] (tPre (gF G F) τ)) (tQG G τ (fun F9 => HRx F F9 (G.2.2.1 10))) 0 0 (tA τ) := by
  refine tc_met (by decide) (Nat.le_of_ble_eq_true rfl) ?_
  intro p e s m below meth c E hSt hr hlk hG ls hl
  have hl : lv_has ls 5 [(0, .ref h0)] := hl
  have hx := E.1
  have hb := E.2.1
  obtain ⟨H, eH⟩ : ∃ H, H = s.heap := ⟨_, rfl⟩
  obtain ⟨locs, eL⟩ : ∃ x : List Loc, x = [] := ⟨_, rfl⟩
  have hG : tGH (gF G F) τ s H locs := by rw [eH, eL]; exact hG
  suffices hW : W p l e (tRm 1091 15052) s m ([.ref h0] : List Value).toArray below meth c H locs 0 0 (MQ below (tQG G τ (fun F9 => HRx F F9 (G.2.2.1 10))) ([.ref h0] : List Value).toArray s 0 0 (tA τ)) (F0 m 0 ls []) by subst eH; subst eL; exact hW
  clear eH eL
  have J168 : ∀ (Fc : mF) (H : Heap) (locs : List Loc) (ls : Array Slot), tGH (gF G Fc) τ s H locs → lv_has ls 5 [(0, .ref h0)] → HRx F Fc (G.2.2.1 10) → W p l e (tRm 1091 15052) s m ([.ref h0] : List Value).toArray below meth c H locs 0 0 (MQ below (tQG G τ (fun F9 => HRx F F9 (G.2.2.1 10))) ([.ref h0] : List Value).toArray s 0 0 (tA τ)) (F0 m 168 ls []) := by
    intro Fc H locs ls hG hl hex168
    have E := E.f1 (F' := Fc)
    have hSt := hSt.f1 (F' := Fc)
    refine lv_aload_n hx hb dX3_layOut_168 rfl (lv_at hl 0 rfl) ?_
    refine tc_getr E hG t0 fr_X3_9 dX3_layOut_169 (fun oa1 hoa1 => ?_)
    obtain rfl := hU _ hoa1
    refine lv_iconst (v := 0) hx hb dX3_layOut_172 (by decide) ?_
    refine tc_puti E hG hoa1 fp_X3_48 (t_any1 _) (t_any2 _) dX3_layOut_173 (fun H locs hG => ?_)
    refine lv_aload_n hx hb dX3_layOut_176 rfl (lv_at hl 0 rfl) ?_
    refine lv_dup hx hb dX3_layOut_177 rfl ?_
    refine tc_geti E hG t0 fi_X3_77 dX3_layOut_178 (fun z2 _ _ => ?_)
    refine lv_aload_n hx hb dX3_layOut_181 rfl (lv_at hl 0 rfl) ?_
    refine tc_geti E hG t0 fi_X3_15 dX3_layOut_182 (fun z3 _ _ => ?_)
    refine lv_aload_n hx hb dX3_layOut_185 rfl (lv_at hl 0 rfl) ?_
    refine tc_geti E hG t0 fi_X3_19 dX3_layOut_186 (fun z4 _ _ => ?_)
    refine lv_iadd hx hb dX3_layOut_189 ?_
    refine lv_topi (fun z5 ez5 => ?_)
    refine lv_iadd hx hb dX3_layOut_190 ?_
    refine lv_topi (fun z6 ez6 => ?_)
    refine tc_puti E hG t0 fp_X3_77 (t_any1 _) (t_any2 _) dX3_layOut_191 (fun H locs hG => ?_)
    exact tc_vretF E hr hlk hG hex168 dX3_layOut_194
  have J68 : ∀ (n68 : Nat) (Fc : mF) (H : Heap) (locs : List Loc) (ls : Array Slot) (v1 : Int32), tGH (gF G Fc) τ s H locs → lv_has ls 5 [(0, .ref h0), (1, .int v1)] → 1 ≤ v1.toInt → v1.toInt ≤ 24 → HRx F Fc (G.2.2.1 10) → (24 - v1.toInt).toNat < n68 → W p l e (tRm 1091 15052) s m ([.ref h0] : List Value).toArray below meth c H locs 0 0 (MQ below (tQG G τ (fun F9 => HRx F F9 (G.2.2.1 10))) ([.ref h0] : List Value).toArray s 0 0 (tA τ)) (F0 m 68 ls []) := by
    intro n68
    induction n68 with
    | zero => intro Fc H locs ls v1 hG hl b1 c1 hex68 hn68; exact absurd hn68 (Nat.not_lt_zero _)
    | succ n68 ih68 =>
      intro Fc H locs ls v1 hG hl b1 c1 hex68 hn68
      have J94 : ∀ (n94 : Nat) (Fc : mF) (H : Heap) (locs : List Loc) (ls : Array Slot) (v1 : Int32) (v2 : Int32), tGH (gF G Fc) τ s H locs → lv_has ls 5 [(0, .ref h0), (1, .int v1), (2, .int v2)] → 1 ≤ v1.toInt → v1.toInt ≤ 23 → 0 ≤ v2.toInt → v2.toInt ≤ 24 → (24 - v1.toInt).toNat < n68 + 1 → HRx F Fc (G.2.2.1 10) → (24 - v2.toInt).toNat < n94 → W p l e (tRm 1091 15052) s m ([.ref h0] : List Value).toArray below meth c H locs 0 0 (MQ below (tQG G τ (fun F9 => HRx F F9 (G.2.2.1 10))) ([.ref h0] : List Value).toArray s 0 0 (tA τ)) (F0 m 94 ls []) := by
        intro n94
        induction n94 with
        | zero => intro Fc H locs ls v1 v2 hG hl b1 c1 b2 c2 hm68 hex94 hn94; exact absurd hn94 (Nat.not_lt_zero _)
        | succ n94 ih94 =>
          intro Fc H locs ls v1 v2 hG hl b1 c1 b2 c2 hm68 hex94 hn94
          have J156 : ∀ (Fc : mF) (H : Heap) (locs : List Loc) (ls : Array Slot) (v1 : Int32) (v2 : Int32), tGH (gF G Fc) τ s H locs → lv_has ls 5 [(0, .ref h0), (1, .int v1), (2, .int v2)] → 1 ≤ v1.toInt → v1.toInt ≤ 23 → 0 ≤ v2.toInt → v2.toInt ≤ 23 → (24 - v1.toInt).toNat < n68 + 1 → (24 - v2.toInt).toNat < n94 + 1 → HRx F Fc (G.2.2.1 10) → W p l e (tRm 1091 15052) s m ([.ref h0] : List Value).toArray below meth c H locs 0 0 (MQ below (tQG G τ (fun F9 => HRx F F9 (G.2.2.1 10))) ([.ref h0] : List Value).toArray s 0 0 (tA τ)) (F0 m 156 ls []) := by
            intro Fc H locs ls v1 v2 hG hl b1 c1 b2 c2 hm68 hm94 hex156
            have E := E.f1 (F' := Fc)
            have hSt := hSt.f1 (F' := Fc)
            obtain ⟨z7, ez7⟩ : ∃ y : Int32, y = v2 + (1) := ⟨_, rfl⟩
            refine lv_iinc (v := z7) (lv' := [(2, .int z7), (0, .ref h0), (1, .int v1)]) hx hb dX3_layOut_156 hl (k := 2) rfl (by rw [ez7]; rfl) (by decide) rfl (fun ls hl => ?_)
            have tz7 := tn_add ez7 rfl kI_1 (by omega) (by omega)
            refine lv_goto (tgt := 94) hx hb dX3_layOut_159 (by decide) ?_
            exact ih94 Fc H locs ls v1 z7 hG (lv_sub hl [1, 2, 0] rfl) (by omega) (by omega) (by omega) (by omega) (by omega) (by exact hex156) (by omega)
          have E := E.f1 (F' := Fc)
          have hSt := hSt.f1 (F' := Fc)
          refine lv_iload_n hx hb dX3_layOut_94 rfl (lv_at hl 2 rfl) ?_
          refine lv_aload_n hx hb dX3_layOut_95 rfl (lv_at hl 0 rfl) ?_
          refine tc_getr E hG t0 fr_X3_9 dX3_layOut_96 (fun oa8 hoa8 => ?_)
          obtain rfl := hU _ hoa8
          refine tc_getF E hG hoa8 fi_X3_54 rfl dX3_layOut_99 (fun z9 lz9 uz9 wz9 => ?_)
          replace wz9 : z9 = Fc (G.2.2.1 10) 8 := wz9
          replace wz9 : z9 = F (G.2.2.1 10) 8 := by rw [wz9, hex94.1 _ _ (by omega)]
          have cz9 : z9.toInt = (F (G.2.2.1 10) 8).toInt := by rw [wz9]
          refine lv_icmp_ge (tgt := 162) hx hb dX3_layOut_102 (by decide) (fun c10 => ?_) (fun c10 => ?_)
          · skip
            have ic10 := tn_le rfl rfl c10
            obtain ⟨z11, ez11⟩ : ∃ y : Int32, y = v1 + (1) := ⟨_, rfl⟩
            refine lv_iinc (v := z11) (lv' := [(1, .int z11), (0, .ref h0), (2, .int v2)]) hx hb dX3_layOut_162 hl (k := 1) rfl (by rw [ez11]; rfl) (by decide) rfl (fun ls hl => ?_)
            have tz11 := tn_add ez11 rfl kI_1 (by omega) (by omega)
            refine lv_goto (tgt := 68) hx hb dX3_layOut_165 (by decide) ?_
            exact ih68 Fc H locs ls z11 hG (lv_sub hl [1, 0] rfl) (by omega) (by omega) (by exact hex94) (by omega)
          · skip
            have ic10 := tn_nle rfl rfl c10
            refine lv_aload_n hx hb dX3_layOut_105 rfl (lv_at hl 0 rfl) ?_
            refine lv_iload_n hx hb dX3_layOut_106 rfl (lv_at hl 2 rfl) ?_
            refine lv_iload_n hx hb dX3_layOut_107 rfl (lv_at hl 1 rfl) ?_
            refine tc_callp (tc_runV (As := [.int v2, .int v1]) (rest := []) E hSt hG (x_X3_isDue l (gF G Fc) τ h0 v2 v1 t0 hU) t0 rv_5 kv_X3_isDue ml_X3_30 ⟨rfl, rfl, Nat.le_of_ble_eq_true rfl, Nat.le_of_ble_eq_true rfl⟩ rfl hl.1 rfl (Nat.le_of_ble_eq_true rfl) ⟨Nat.zero_le _, Nat.zero_le _⟩ dX3_layOut_108) (fun r12 pr12 => ?_)
            have pr12 : (0 ≤ r12.toInt ∧ r12.toInt ≤ 1) ∧ (r12.toInt = 0 ∨ ((0 ≤ v2.toInt ∧ v2.toInt ≤ 23 ∧ tB (Fc (G.2.2.1 10) 4) v2.toInt.toNat) ∧ (Fc ((G.2.2.1 10) + 1 + (3 + 4 * v2.toNatClampNeg)) 6).toInt = v1.toInt)) := pr12
            rw [hex94.1 (G.2.2.1 10) 4 (by omega)] at pr12
            refine lv_if_eq (tgt := 156) hx hb dX3_layOut_111 (by decide) (fun c13 => ?_) (fun c13 => ?_)
            · skip
              have ic13 := tn_eq rfl kI_0 c13
              exact J156 Fc H locs ls v1 v2 hG (lv_sub hl [0, 1, 2] rfl) (by omega) (by omega) (by omega) (by omega) (by omega) (by omega) (by exact hex94)
            · skip
              have ic13 := tn_ne rfl kI_0 c13
              refine lv_aload_n hx hb dX3_layOut_114 rfl (lv_at hl 0 rfl) ?_
              refine tc_getr E hG t0 fr_X3_9 dX3_layOut_115 (fun oa14 hoa14 => ?_)
              obtain rfl := hU _ hoa14
              refine tc_getrF (d := 1) E hG hoa14 fr_X3_34 rfl dX3_layOut_118 (fun ha15 => ?_)
              refine lv_iload_n hx hb dX3_layOut_121 rfl (lv_at hl 2 rfl) ?_
              refine tc_aald3F (d := 3 + 4 * v2.toNatClampNeg) E hG ha15 ta_10 rfl (t_in (by omega) (by omega)) dX3_layOut_122 (fun ha16 => ?_)
              have nv2 : v2.toNatClampNeg = v2.toInt.toNat := rfl
              refine lv_astore_n (lv' := [(3, .ref (((G.2.2.1 10) + 1) + (3 + 4 * v2.toNatClampNeg))), (0, .ref h0), (1, .int v1), (2, .int v2)]) hx hb dX3_layOut_123 rfl hl (by decide) rfl (fun ls hl => ?_)
              refine lv_aload_n hx hb dX3_layOut_124 rfl (lv_at hl 0 rfl) ?_
              refine tc_getrF (d := 3) E hG ha16 fr_X3_57 rfl dX3_layOut_125 (fun ha17 => ?_)
              refine lv_astore (lv' := [(4, .ref ((((G.2.2.1 10) + 1) + (3 + 4 * v2.toNatClampNeg)) + 3)), (3, .ref (((G.2.2.1 10) + 1) + (3 + 4 * v2.toNatClampNeg))), (0, .ref h0), (1, .int v1), (2, .int v2)]) hx hb dX3_layOut_128 hl (by decide) rfl (fun ls hl => ?_)
              refine lv_aload_n hx hb dX3_layOut_130 rfl (lv_at hl 2 rfl) ?_
              refine lv_aload_n hx hb dX3_layOut_131 rfl (lv_at hl 1 rfl) ?_
              refine lv_aload hx hb dX3_layOut_132 (lv_at hl 0 rfl) ?_
              refine tc_geti E hG ha17 fi_X3_63 dX3_layOut_134 (fun z18 _ _ => ?_)
              refine lv_aload hx hb dX3_layOut_137 (lv_at hl 0 rfl) ?_
              refine tc_geti E hG ha17 fi_X3_68 dX3_layOut_139 (fun z19 _ _ => ?_)
              refine lv_aload hx hb dX3_layOut_142 (lv_at hl 0 rfl) ?_
              refine tc_geti E hG ha17 fi_X3_71 dX3_layOut_144 (fun z20 _ _ => ?_)
              refine lv_aload hx hb dX3_layOut_147 (lv_at hl 0 rfl) ?_
              refine tc_geti E hG ha17 fi_X3_74 dX3_layOut_149 (fun z21 _ _ => ?_)
              refine lv_iload_n hx hb dX3_layOut_152 rfl (lv_at hl 3 rfl) ?_
              obtain ⟨w1_, w2_, w3_⟩ : (0 ≤ v2.toInt ∧ v2.toInt ≤ 23 ∧ tB (F (G.2.2.1 10) 4) v2.toInt.toNat) := by rcases pr12.2 with q9 | ⟨q9, _⟩; (exfalso; omega); exact q9
              have wd_ : (F ((G.2.2.1 10) + 1 + (3 + 4 * v2.toNatClampNeg)) 6).toInt = v1.toInt := by rcases pr12.2 with q9 | ⟨_, q9⟩; (exfalso; omega); (rw [hex94.1 _ 6 (by omega)] at q9; exact q9)
              refine tc_callvF hG (tc_runV (As := [.ref (((G.2.2.1 10) + 1) + (3 + 4 * v2.toNatClampNeg)), .int z18, .int z19, .int z20, .int z21, .int v1]) (rest := []) E hSt hG (h_X3_lay l (gF G Fc) τ 25 Fc h0 (((G.2.2.1 10) + 1) + (3 + 4 * v2.toNatClampNeg)) z18 z19 z20 z21 v1 t0 ha16 (by omega) (by first | decide | omega) hU (AKF_fr hex94.1 hK) hex94.2 (LOK_fr hex94.1 ⟨v2.toNatClampNeg, (by omega), w3_, rfl, (by have h9 := hD v2.toNatClampNeg (by omega) w3_; omega)⟩)) t0 rv_5 kv_X3_lay ml_X3_44 ⟨rfl, rfl, Nat.le_of_ble_eq_true rfl, Nat.le_of_ble_eq_true rfl⟩ rfl hl.1 rfl (Nat.le_of_ble_eq_true rfl) ⟨Nat.zero_le _, Nat.zero_le _⟩ dX3_layOut_153) (fun F23 H locs pr22 hG => ?_)
              have E := E.f1 (F' := F23)
              have hSt := hSt.f1 (F' := F23)
              replace pr22 : HRx Fc F23 (G.2.2.1 10) := pr22
              have hrr22 := HRx.trans hex94 pr22
              exact J156 F23 H locs ls v1 v2 hG (lv_sub hl [2, 3, 4] rfl) (by omega) (by omega) (by omega) (by omega) (by omega) (by omega) (by exact hrr22)
      have E := E.f1 (F' := Fc)
      have hSt := hSt.f1 (F' := Fc)
      refine lv_iload_n hx hb dX3_layOut_68 rfl (lv_at hl 1 rfl) ?_
      refine lv_bipush (v := 24) hx hb dX3_layOut_69 (by decide) ?_
      refine lv_icmp_ge (tgt := 168) hx hb dX3_layOut_71 (by decide) (fun c24 => ?_) (fun c24 => ?_)
      · skip
        have ic24 := tn_le kI_24 rfl c24
        exact J168 Fc H locs ls hG (lv_sub hl [0] rfl) (by exact hex68)
      · skip
        have ic24 := tn_nle kI_24 rfl c24
        refine lv_aload_n hx hb dX3_layOut_74 rfl (lv_at hl 0 rfl) ?_
        refine tc_getr E hG t0 fr_X3_9 dX3_layOut_75 (fun oa25 hoa25 => ?_)
        obtain rfl := hU _ hoa25
        refine tc_geti E hG hoa25 fi_X3_48 dX3_layOut_78 (fun z26 _ _ => ?_)
        refine lv_aload_n hx hb dX3_layOut_81 rfl (lv_at hl 0 rfl) ?_
        refine tc_getr E hG t0 fr_X3_9 dX3_layOut_82 (fun oa27 hoa27 => ?_)
        obtain rfl := hU _ hoa27
        refine tc_geti E hG hoa27 fi_X3_51 dX3_layOut_85 (fun z28 _ _ => ?_)
        refine lv_iand hx hb dX3_layOut_88 ?_
        refine lv_topi (fun z29 ez29 => ?_)
        refine lv_if_eq (tgt := 168) hx hb dX3_layOut_89 (by decide) (fun c30 => ?_) (fun c30 => ?_)
        · skip
          have ic30 := tn_eq rfl kI_0 c30
          exact J168 Fc H locs ls hG (lv_sub hl [0] rfl) (by exact hex68)
        · skip
          have ic30 := tn_ne rfl kI_0 c30
          refine lv_iconst (v := 0) hx hb dX3_layOut_92 (by decide) ?_
          refine lv_istore_n (lv' := [(2, .int 0), (0, .ref h0), (1, .int v1)]) hx hb dX3_layOut_93 rfl hl (by decide) rfl (fun ls hl => ?_)
          exact J94 ((24 - (0 : Int32).toInt).toNat + 1) Fc H locs ls v1 (0 : Int32) hG (lv_sub hl [1, 2, 0] rfl) (by omega) (by omega) (by decide) (by decide) (by omega) (by exact hex68) (Nat.lt_succ_self _)
  have J66 : ∀ (Fc : mF) (H : Heap) (locs : List Loc) (ls : Array Slot), tGH (gF G Fc) τ s H locs → lv_has ls 5 [(0, .ref h0)] → HRx F Fc (G.2.2.1 10) → W p l e (tRm 1091 15052) s m ([.ref h0] : List Value).toArray below meth c H locs 0 0 (MQ below (tQG G τ (fun F9 => HRx F F9 (G.2.2.1 10))) ([.ref h0] : List Value).toArray s 0 0 (tA τ)) (F0 m 66 ls []) := by
    intro Fc H locs ls hG hl hex66
    have E := E.f1 (F' := Fc)
    have hSt := hSt.f1 (F' := Fc)
    refine lv_iconst (v := 1) hx hb dX3_layOut_66 (by decide) ?_
    refine lv_istore_n (lv' := [(1, .int 1), (0, .ref h0)]) hx hb dX3_layOut_67 rfl hl (by decide) rfl (fun ls hl => ?_)
    exact J68 ((24 - (1 : Int32).toInt).toNat + 1) Fc H locs ls (1 : Int32) hG (lv_sub hl [1, 0] rfl) (by decide) (by decide) (by exact hex66) (Nat.lt_succ_self _)
  refine lv_aload_n hx hb dX3_layOut_0 rfl (lv_at hl 0 rfl) ?_
  refine lv_iconst (v := 0) hx hb dX3_layOut_1 (by decide) ?_
  refine tc_puti E hG t0 fp_X3_15 (t_any1 _) (t_any2 _) dX3_layOut_2 (fun H locs hG => ?_)
  refine lv_aload_n hx hb dX3_layOut_5 rfl (lv_at hl 0 rfl) ?_
  refine lv_iconst (v := 0) hx hb dX3_layOut_6 (by decide) ?_
  refine tc_puti E hG t0 fp_X3_19 (t_any1 _) (t_any2 _) dX3_layOut_7 (fun H locs hG => ?_)
  refine lv_aload_n hx hb dX3_layOut_10 rfl (lv_at hl 0 rfl) ?_
  refine lv_iconst (v := 0) hx hb dX3_layOut_11 (by decide) ?_
  refine tc_puti E hG t0 fp_X3_22 (t_any1 _) (t_any2 _) dX3_layOut_12 (fun H locs hG => ?_)
  refine lv_aload_n hx hb dX3_layOut_15 rfl (lv_at hl 0 rfl) ?_
  refine lv_aload_n hx hb dX3_layOut_16 rfl (lv_at hl 0 rfl) ?_
  refine tc_getr E hG t0 fr_X3_9 dX3_layOut_17 (fun oa31 hoa31 => ?_)
  obtain rfl := hU _ hoa31
  refine tc_getF E hG hoa31 fi_X3_25 rfl dX3_layOut_20 (fun z32 lz32 uz32 wz32 => ?_)
  replace wz32 : z32 = F (G.2.2.1 10) 9 := wz32
  have cz32 : z32.toInt = (F (G.2.2.1 10) 9).toInt := by rw [wz32]
  refine lv_iconst (v := 0) hx hb dX3_layOut_23 (by decide) ?_
  refine tc_callp (tc_runV (As := [.int z32, .int 0]) (rest := []) E hSt hG (x_X3_isDue l (gF G F) τ h0 z32 (0 : Int32) t0 hU) t0 rv_5 kv_X3_isDue ml_X3_30 ⟨rfl, rfl, Nat.le_of_ble_eq_true rfl, Nat.le_of_ble_eq_true rfl⟩ rfl hl.1 rfl (Nat.le_of_ble_eq_true rfl) ⟨Nat.zero_le _, Nat.zero_le _⟩ dX3_layOut_24) (fun r33 pr33 => ?_)
  have pr33 : (0 ≤ r33.toInt ∧ r33.toInt ≤ 1) ∧ (r33.toInt = 0 ∨ ((0 ≤ z32.toInt ∧ z32.toInt ≤ 23 ∧ tB (F (G.2.2.1 10) 4) z32.toInt.toNat) ∧ (F ((G.2.2.1 10) + 1 + (3 + 4 * z32.toNatClampNeg)) 6).toInt = (0 : Int32).toInt)) := pr33
  have k34 := kI_0
  refine lv_if_eq (tgt := 66) hx hb dX3_layOut_27 (by decide) (fun c35 => ?_) (fun c35 => ?_)
  · skip
    have ic35 := tn_eq rfl kI_0 c35
    exact J66 F H locs ls hG (lv_sub hl [0] rfl) (by exact (HRx.refl hC))
  · skip
    have ic35 := tn_ne rfl kI_0 c35
    refine lv_aload_n hx hb dX3_layOut_30 rfl (lv_at hl 0 rfl) ?_
    refine lv_aload_n hx hb dX3_layOut_31 rfl (lv_at hl 0 rfl) ?_
    refine tc_getr E hG t0 fr_X3_9 dX3_layOut_32 (fun oa36 hoa36 => ?_)
    obtain rfl := hU _ hoa36
    refine tc_getrF (d := 1) E hG hoa36 fr_X3_34 rfl dX3_layOut_35 (fun ha37 => ?_)
    refine lv_aload_n hx hb dX3_layOut_38 rfl (lv_at hl 0 rfl) ?_
    refine tc_getr E hG t0 fr_X3_9 dX3_layOut_39 (fun oa38 hoa38 => ?_)
    obtain rfl := hU _ hoa38
    refine tc_getF E hG hoa38 fi_X3_25 rfl dX3_layOut_42 (fun z39 lz39 uz39 wz39 => ?_)
    replace wz39 : z39 = F (G.2.2.1 10) 9 := wz39
    have cz39 : z39.toInt = (F (G.2.2.1 10) 9).toInt := by rw [wz39]
    refine tc_aald3F (d := 3 + 4 * z39.toNatClampNeg) E hG ha37 ta_10 rfl (t_in (by omega) (by omega)) dX3_layOut_45 (fun ha40 => ?_)
    have nz39 : z39.toNatClampNeg = z39.toInt.toNat := rfl
    refine lv_iconst (v := 0) hx hb dX3_layOut_46 (by decide) ?_
    refine lv_aload_n hx hb dX3_layOut_47 rfl (lv_at hl 0 rfl) ?_
    refine tc_getr E hG t0 fr_X3_9 dX3_layOut_48 (fun oa41 hoa41 => ?_)
    obtain rfl := hU _ hoa41
    refine tc_geti E hG hoa41 fi_X3_38 dX3_layOut_51 (fun z42 _ _ => ?_)
    refine lv_iconst (v := 0) hx hb dX3_layOut_54 (by decide) ?_
    refine lv_aload_n hx hb dX3_layOut_55 rfl (lv_at hl 0 rfl) ?_
    refine tc_getr E hG t0 fr_X3_9 dX3_layOut_56 (fun oa43 hoa43 => ?_)
    obtain rfl := hU _ hoa43
    refine tc_geti E hG hoa43 fi_X3_41 dX3_layOut_59 (fun z44 _ _ => ?_)
    refine lv_iconst (v := 0) hx hb dX3_layOut_62 (by decide) ?_
    obtain ⟨w1_, w2_, w3_⟩ : (0 ≤ z39.toInt ∧ z39.toInt ≤ 23 ∧ tB (F (G.2.2.1 10) 4) z39.toInt.toNat) := by rcases pr33.2 with q9 | ⟨q9, _⟩; (exfalso; omega); (rw [wz39, ← wz32]; exact q9)
    have wd_ : (F ((G.2.2.1 10) + 1 + (3 + 4 * z39.toNatClampNeg)) 6).toInt = (0 : Int32).toInt := by rcases pr33.2 with q9 | ⟨_, q9⟩; (exfalso; omega); (rw [wz39, ← wz32]; exact q9)
    refine tc_callvF hG (tc_runV (As := [.ref (((G.2.2.1 10) + 1) + (3 + 4 * z39.toNatClampNeg)), .int 0, .int z42, .int 0, .int z44, .int 0]) (rest := []) E hSt hG (h_X3_lay l (gF G F) τ 25 F h0 (((G.2.2.1 10) + 1) + (3 + 4 * z39.toNatClampNeg)) (0 : Int32) z42 (0 : Int32) z44 (0 : Int32) t0 ha40 (by decide) (by first | decide | omega) hU (AKF_fr FRX.refl hK) (HRx.refl hC).2 (LOK_fr FRX.refl ⟨z39.toNatClampNeg, (by omega), w3_, rfl, (by have h9 := hD z39.toNatClampNeg (by omega) w3_; omega)⟩)) t0 rv_5 kv_X3_lay ml_X3_44 ⟨rfl, rfl, Nat.le_of_ble_eq_true rfl, Nat.le_of_ble_eq_true rfl⟩ rfl hl.1 rfl (Nat.le_of_ble_eq_true rfl) ⟨Nat.zero_le _, Nat.zero_le _⟩ dX3_layOut_63) (fun F46 H locs pr45 hG => ?_)
    have E := E.f1 (F' := F46)
    have hSt := hSt.f1 (F' := F46)
    replace pr45 : HRx F F46 (G.2.2.1 10) := pr45
    have k47 := kI_0
    have k48 := kI_0
    have k49 := kI_0
    have hrr45 := HRx.trans (HRx.refl hC) pr45
    exact J66 F46 H locs ls hG (lv_sub hl [0] rfl) (by exact hrr45)
