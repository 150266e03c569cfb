set_option maxHeartbeats 4000000 in
set_option maxRecDepth 100000 in
theorem x_X9_plan (l : Launch) (G : tG) (F : mF) (τ : Nat → Nat) (h0 : Nat) (x1 : Int32) (x2 : Int32) (t0 : τ h0 = 1) (h8 : h0 = G.2.2.1 8) : Met l yX9_plan (.code yX9_plan cX9_plan 3 (some .int) :: tWS) (tRm 1 22) (va_Pc [.ref h0, .int x1, .int x2] (tPre (gF G F) τ)) (tQF G τ (fun r F9 => (x1.toInt = -1 ∧ r = 0 ∧ F9 = up2 F (G.2.2.1 10) 3 0) ∨ (¬ x1.toInt = -1 ∧ r = -1 ∧ F9 = F ∧ ¬ (0 ≤ x1.toInt ∧ x1.toInt ≤ 23 ∧ tB (F (G.2.2.1 10) 4) x1.toInt.toNat)) ∨ (¬ x1.toInt = -1 ∧ r = -2 ∧ F9 = F ∧ (0 ≤ x1.toInt ∧ x1.toInt ≤ 23 ∧ tB (F (G.2.2.1 10) 4) x1.toInt.toNat) ∧ ¬ (0 ≤ x2.toInt ∧ x2.toInt ≤ 9)) ∨ (¬ x1.toInt = -1 ∧ r = -4 ∧ F9 = F ∧ (0 ≤ x1.toInt ∧ x1.toInt ≤ 23 ∧ tB (F (G.2.2.1 10) 4) x1.toInt.toNat) ∧ (0 ≤ x2.toInt ∧ x2.toInt ≤ 9) ∧ 8 ≤ (F (G.2.2.1 10) 3).toInt) ∨ (¬ x1.toInt = -1 ∧ (0 ≤ x1.toInt ∧ x1.toInt ≤ 23 ∧ tB (F (G.2.2.1 10) 4) x1.toInt.toNat) ∧ (0 ≤ x2.toInt ∧ x2.toInt ≤ 9) ∧ (F (G.2.2.1 10) 3).toInt ≤ 7 ∧ r = F (G.2.2.1 10) 3 + 1 ∧ F9 = up2 F (G.2.2.1 10) 3 (F (G.2.2.1 10) 3 + 1)))) 0 0 (tA τ) := by
  refine tc_met (by decide) (Nat.le_of_ble_eq_true rfl) ?_
  intro p e s m below meth c E hSt hr hlk hG ls hl
  have hl : lv_has ls 3 [(0, .ref h0), (1, .int x1), (2, .int x2)] := hl
  have hx := E.1
  have hb := E.2.1
  obtain ⟨H, eH⟩ : ∃ H, H = s.heap := ⟨_, rfl⟩
  obtain ⟨locs, eL⟩ : ∃ x : List Loc, x = [] := ⟨_, rfl⟩
  have hG : tGH (gF G F) τ s H locs := by rw [eH, eL]; exact hG
  suffices hW : W p l e (tRm 1 22) s m ([.ref h0, .int x1, .int x2] : List Value).toArray below meth c H locs 0 0 (MQ below (tQF G τ (fun r F9 => (x1.toInt = -1 ∧ r = 0 ∧ F9 = up2 F (G.2.2.1 10) 3 0) ∨ (¬ x1.toInt = -1 ∧ r = -1 ∧ F9 = F ∧ ¬ (0 ≤ x1.toInt ∧ x1.toInt ≤ 23 ∧ tB (F (G.2.2.1 10) 4) x1.toInt.toNat)) ∨ (¬ x1.toInt = -1 ∧ r = -2 ∧ F9 = F ∧ (0 ≤ x1.toInt ∧ x1.toInt ≤ 23 ∧ tB (F (G.2.2.1 10) 4) x1.toInt.toNat) ∧ ¬ (0 ≤ x2.toInt ∧ x2.toInt ≤ 9)) ∨ (¬ x1.toInt = -1 ∧ r = -4 ∧ F9 = F ∧ (0 ≤ x1.toInt ∧ x1.toInt ≤ 23 ∧ tB (F (G.2.2.1 10) 4) x1.toInt.toNat) ∧ (0 ≤ x2.toInt ∧ x2.toInt ≤ 9) ∧ 8 ≤ (F (G.2.2.1 10) 3).toInt) ∨ (¬ x1.toInt = -1 ∧ (0 ≤ x1.toInt ∧ x1.toInt ≤ 23 ∧ tB (F (G.2.2.1 10) 4) x1.toInt.toNat) ∧ (0 ≤ x2.toInt ∧ x2.toInt ≤ 9) ∧ (F (G.2.2.1 10) 3).toInt ≤ 7 ∧ r = F (G.2.2.1 10) 3 + 1 ∧ F9 = up2 F (G.2.2.1 10) 3 (F (G.2.2.1 10) 3 + 1)))) ([.ref h0, .int x1, .int x2] : List Value).toArray s 0 0 (tA τ)) (F0 m 0 ls []) by subst eH; subst eL; exact hW
  clear eH eL
  refine lv_iload_n hx hb dX9_plan_0 rfl (lv_at hl 1 rfl) ?_
  refine lv_iconst (v := -1) hx hb dX9_plan_1 (by decide) ?_
  refine lv_icmp_ne (tgt := 15) hx hb dX9_plan_2 (by decide) (fun c1 => ?_) (fun c1 => ?_)
  · skip
    have ic1 := tn_ne rfl kI_m1 c1
    refine lv_aload_n hx hb dX9_plan_15 rfl (lv_at hl 0 rfl) ?_
    refine tc_getrG E hG t0 fr_X9_12 rfl (fun _ => h8) (fun z => by cases z) dX9_plan_16 (fun ha2 => ?_)
    replace ha2 : τ (G.2.2.1 10) = 2 := ha2
    refine lv_iload_n hx hb dX9_plan_19 rfl (lv_at hl 1 rfl) ?_
    refine tc_callp (tc_runV (As := [.int x1]) (rest := []) E hSt hG (x_X8_has l (gF G F) τ (G.2.2.1 10) x1 ha2) ha2 rv_2 kv_X8_has ml_X9_83 ⟨rfl, rfl, Nat.le_of_ble_eq_true rfl, Nat.le_of_ble_eq_true rfl⟩ rfl hl.1 rfl (Nat.le_of_ble_eq_true rfl) ⟨Nat.zero_le _, Nat.zero_le _⟩ dX9_plan_20) (fun r3 pr3 => ?_)
    have pr3 : (r3.toInt = 1 ∧ (0 ≤ x1.toInt ∧ x1.toInt ≤ 23 ∧ tB (F (G.2.2.1 10) 4) x1.toInt.toNat)) ∨ (r3.toInt = 0 ∧ ¬ (0 ≤ x1.toInt ∧ x1.toInt ≤ 23 ∧ tB (F (G.2.2.1 10) 4) x1.toInt.toNat)) := pr3
    refine lv_if_ne (tgt := 28) hx hb dX9_plan_23 (by decide) (fun c4 => ?_) (fun c4 => ?_)
    · skip
      have ic4 := tn_ne rfl kI_0 c4
      refine lv_iload_n hx hb dX9_plan_28 rfl (lv_at hl 2 rfl) ?_
      refine lv_if_lt (tgt := 38) hx hb dX9_plan_29 (by decide) (fun c5 => ?_) (fun c5 => ?_)
      · skip
        have ic5 := tn_lt rfl kI_0 c5
        refine lv_bipush (v := -2) hx hb dX9_plan_38 (by decide) ?_
        exact tc_iretF E hr hlk hG rfl (Or.inr (Or.inr (Or.inl ⟨by omega, rfl, rfl, by grind, by omega⟩))) dX9_plan_40
      · skip
        have ic5 := tn_nlt rfl kI_0 c5
        refine lv_iload_n hx hb dX9_plan_32 rfl (lv_at hl 2 rfl) ?_
        refine lv_bipush (v := 9) hx hb dX9_plan_33 (by decide) ?_
        refine lv_icmp_le (tgt := 41) hx hb dX9_plan_35 (by decide) (fun c6 => ?_) (fun c6 => ?_)
        · skip
          have ic6 := tn_le rfl kI_9 c6
          refine lv_aload_n hx hb dX9_plan_41 rfl (lv_at hl 0 rfl) ?_
          refine tc_getrG E hG t0 fr_X9_12 rfl (fun _ => h8) (fun z => by cases z) dX9_plan_42 (fun ha7 => ?_)
          replace ha7 : τ (G.2.2.1 10) = 2 := ha7
          refine tc_getF E hG ha7 fi_X9_278 rfl dX9_plan_45 (fun z8 lz8 uz8 wz8 => ?_)
          replace wz8 : z8 = F (G.2.2.1 10) 3 := wz8
          have cz8 : z8.toInt = (F (G.2.2.1 10) 3).toInt := by rw [wz8]
          refine lv_bipush (v := 8) hx hb dX9_plan_48 (by decide) ?_
          refine lv_icmp_lt (tgt := 56) hx hb dX9_plan_50 (by decide) (fun c9 => ?_) (fun c9 => ?_)
          · skip
            have ic9 := tn_lt rfl kI_8 c9
            refine lv_aload_n hx hb dX9_plan_56 rfl (lv_at hl 0 rfl) ?_
            refine tc_getrG E hG t0 fr_X9_12 rfl (fun _ => h8) (fun z => by cases z) dX9_plan_57 (fun ha10 => ?_)
            replace ha10 : τ (G.2.2.1 10) = 2 := ha10
            refine lv_iload_n hx hb dX9_plan_60 rfl (lv_at hl 1 rfl) ?_
            refine lv_iload_n hx hb dX9_plan_61 rfl (lv_at hl 2 rfl) ?_
            refine tc_calliF hG (tc_runV (As := [.int x1, .int x2]) (rest := []) E hSt hG (x_X8_addPlanRow l G F τ (G.2.2.1 10) x1 x2 ha10 (by omega) (by omega)) ha10 rv_2 kv_X8_addPlanRow ml_X9_309 ⟨rfl, rfl, Nat.le_of_ble_eq_true rfl, Nat.le_of_ble_eq_true rfl⟩ rfl hl.1 rfl (Nat.le_of_ble_eq_true rfl) ⟨Nat.zero_le _, Nat.zero_le _⟩ dX9_plan_62) (fun r11 F12 H locs pr11 hG => ?_)
            have E := E.f1 (F' := F12)
            have hSt := hSt.f1 (F' := F12)
            replace pr11 : ((F (G.2.2.1 10) 3).toInt ≥ 8 ∧ r11 = F (G.2.2.1 10) 3 ∧ F12 = F) ∨ ((F (G.2.2.1 10) 3).toInt ≤ 7 ∧ r11 = F (G.2.2.1 10) 3 + 1 ∧ F12 = up2 F (G.2.2.1 10) 3 (F (G.2.2.1 10) 3 + 1)) := pr11
            exact tc_iretF E hr hlk hG rfl (by rcases pr11 with ⟨q1, _, _⟩ | ⟨q1, q2, q3⟩; (exfalso; omega); exact Or.inr (Or.inr (Or.inr (Or.inr ⟨by omega, by grind, by omega, q1, q2, q3⟩)))) dX9_plan_65
          · skip
            have ic9 := tn_nlt rfl kI_8 c9
            refine lv_bipush (v := -4) hx hb dX9_plan_53 (by decide) ?_
            exact tc_iretF E hr hlk hG rfl (Or.inr (Or.inr (Or.inr (Or.inl ⟨by omega, rfl, rfl, by grind, by omega, by omega⟩)))) dX9_plan_55
        · skip
          have ic6 := tn_nle rfl kI_9 c6
          refine lv_bipush (v := -2) hx hb dX9_plan_38 (by decide) ?_
          exact tc_iretF E hr hlk hG rfl (Or.inr (Or.inr (Or.inl ⟨by omega, rfl, rfl, by grind, by omega⟩))) dX9_plan_40
    · skip
      have ic4 := tn_eq rfl kI_0 c4
      refine lv_iconst (v := -1) hx hb dX9_plan_26 (by decide) ?_
      exact tc_iretF E hr hlk hG rfl (Or.inr (Or.inl ⟨by omega, rfl, rfl, by grind⟩)) dX9_plan_27
  · skip
    have ic1 := tn_eq rfl kI_m1 c1
    refine lv_aload_n hx hb dX9_plan_5 rfl (lv_at hl 0 rfl) ?_
    refine tc_getrG E hG t0 fr_X9_12 rfl (fun _ => h8) (fun z => by cases z) dX9_plan_6 (fun ha13 => ?_)
    replace ha13 : τ (G.2.2.1 10) = 2 := ha13
    refine lv_iconst (v := 0) hx hb dX9_plan_9 (by decide) ?_
    refine tc_putF (lo := 0) (hi := 8) E hG ha13 (by decide) rfl rfl fq_X9_278 (by decide) (by decide) rfl rfl dX9_plan_10 (fun H locs hG => ?_)
    obtain ⟨F14, eF14⟩ : ∃ Z : mF, Z = up2 F (G.2.2.1 10) 3 (0 : Int32) := ⟨_, rfl⟩
    replace hG : tGH (gF G F14) τ s H locs := by rw [eF14]; exact hG
    have E := E.f1 (F' := F14)
    have hSt := hSt.f1 (F' := F14)
    refine lv_iconst (v := 0) hx hb dX9_plan_13 (by decide) ?_
    exact tc_iretF E hr hlk hG rfl (Or.inl ⟨by omega, rfl, (by rw [eF14])⟩) dX9_plan_14
