set_option maxHeartbeats 4000000 in
set_option maxRecDepth 100000 in
theorem x_X9_tells (l : Launch) (G : tG) (F : mF) (τ : Nat → Nat) (h0 : Nat) (x1 : Int32) (x2 : Int32) (x3 : Int32) (t0 : τ h0 = 1) (h8 : h0 = G.2.2.1 8) : Met l yX9_tells (.code yX9_tells cX9_tells 4 (some .int) :: tWS) (tRm 4 85) (va_Pc [.ref h0, .int x1, .int x2, .int x3] (tPre (gF G F) τ)) (tQF G τ (fun r F9 => (r = -1 ∧ F9 = F ∧ ¬ ((0 ≤ x1.toInt ∧ x1.toInt ≤ 23 ∧ tB (F (G.2.2.1 10) 4) x1.toInt.toNat) ∧ (0 ≤ x2.toInt ∧ (x2.toInt < nNum (F ((G.2.2.1 10) + 1 + (3 + 4 * x1.toNatClampNeg)) 4).toInt ∨ (4 ≤ x2.toInt ∧ x2.toInt ≤ 6))))) ∨ (r = -2 ∧ F9 = F ∧ ((0 ≤ x1.toInt ∧ x1.toInt ≤ 23 ∧ tB (F (G.2.2.1 10) 4) x1.toInt.toNat) ∧ (0 ≤ x2.toInt ∧ (x2.toInt < nNum (F ((G.2.2.1 10) + 1 + (3 + 4 * x1.toNatClampNeg)) 4).toInt ∨ (4 ≤ x2.toInt ∧ x2.toInt ≤ 6)))) ∧ ¬ (mbT F ((G.2.2.1 10) + 1 + (3 + 4 * x1.toNatClampNeg)) x2.toInt x3.toInt)) ∨ (((0 ≤ x1.toInt ∧ x1.toInt ≤ 23 ∧ tB (F (G.2.2.1 10) 4) x1.toInt.toNat) ∧ (0 ≤ x2.toInt ∧ (x2.toInt < nNum (F ((G.2.2.1 10) + 1 + (3 + 4 * x1.toNatClampNeg)) 4).toInt ∨ (4 ≤ x2.toInt ∧ x2.toInt ≤ 6)))) ∧ (mbT F ((G.2.2.1 10) + 1 + (3 + 4 * x1.toNatClampNeg)) x2.toInt x3.toInt) ∧ (x2.toInt = 4 → r = F ((G.2.2.1 10) + 1 + (3 + 4 * x1.toNatClampNeg)) 7 ∧ F9 = up2 F ((G.2.2.1 10) + 1 + (3 + 4 * x1.toNatClampNeg)) 7 x3) ∧ (x2.toInt = 5 → r = F ((G.2.2.1 10) + 1 + (3 + 4 * x1.toNatClampNeg)) 8 ∧ F9 = up2 F ((G.2.2.1 10) + 1 + (3 + 4 * x1.toNatClampNeg)) 8 x3) ∧ (x2.toInt = 6 → r = F ((G.2.2.1 10) + 1 + (3 + 4 * x1.toNatClampNeg)) 9 ∧ F9 = up2 F ((G.2.2.1 10) + 1 + (3 + 4 * x1.toNatClampNeg)) 9 x3) ∧ (x2.toInt < 4 → r = F (((G.2.2.1 10) + 1 + (3 + 4 * x1.toNatClampNeg)) + 1) x2.toNatClampNeg ∧ F9 = up2 F (((G.2.2.1 10) + 1 + (3 + 4 * x1.toNatClampNeg)) + 1) x2.toNatClampNeg x3)))) 0 0 (tA τ) := by
  refine tc_met (by decide) (Nat.le_of_ble_eq_true rfl) ?_
  intro p e s m below meth c E hSt hr hlk hG ls hl
  have hl : lv_has ls 4 [(0, .ref h0), (1, .int x1), (2, .int x2), (3, .int x3)] := hl
  have hx := E.1
  have hb := E.2.1
  obtain ⟨H, eH⟩ : ∃ H, H = s.heap := ⟨_, rfl⟩
  obtain ⟨locs, eL⟩ : ∃ x : List Loc, x = [] := ⟨_, rfl⟩
  have hG : tGH (gF G F) τ s H locs := by rw [eH, eL]; exact hG
  suffices hW : W p l e (tRm 4 85) s m ([.ref h0, .int x1, .int x2, .int x3] : List Value).toArray below meth c H locs 0 0 (MQ below (tQF G τ (fun r F9 => (r = -1 ∧ F9 = F ∧ ¬ ((0 ≤ x1.toInt ∧ x1.toInt ≤ 23 ∧ tB (F (G.2.2.1 10) 4) x1.toInt.toNat) ∧ (0 ≤ x2.toInt ∧ (x2.toInt < nNum (F ((G.2.2.1 10) + 1 + (3 + 4 * x1.toNatClampNeg)) 4).toInt ∨ (4 ≤ x2.toInt ∧ x2.toInt ≤ 6))))) ∨ (r = -2 ∧ F9 = F ∧ ((0 ≤ x1.toInt ∧ x1.toInt ≤ 23 ∧ tB (F (G.2.2.1 10) 4) x1.toInt.toNat) ∧ (0 ≤ x2.toInt ∧ (x2.toInt < nNum (F ((G.2.2.1 10) + 1 + (3 + 4 * x1.toNatClampNeg)) 4).toInt ∨ (4 ≤ x2.toInt ∧ x2.toInt ≤ 6)))) ∧ ¬ (mbT F ((G.2.2.1 10) + 1 + (3 + 4 * x1.toNatClampNeg)) x2.toInt x3.toInt)) ∨ (((0 ≤ x1.toInt ∧ x1.toInt ≤ 23 ∧ tB (F (G.2.2.1 10) 4) x1.toInt.toNat) ∧ (0 ≤ x2.toInt ∧ (x2.toInt < nNum (F ((G.2.2.1 10) + 1 + (3 + 4 * x1.toNatClampNeg)) 4).toInt ∨ (4 ≤ x2.toInt ∧ x2.toInt ≤ 6)))) ∧ (mbT F ((G.2.2.1 10) + 1 + (3 + 4 * x1.toNatClampNeg)) x2.toInt x3.toInt) ∧ (x2.toInt = 4 → r = F ((G.2.2.1 10) + 1 + (3 + 4 * x1.toNatClampNeg)) 7 ∧ F9 = up2 F ((G.2.2.1 10) + 1 + (3 + 4 * x1.toNatClampNeg)) 7 x3) ∧ (x2.toInt = 5 → r = F ((G.2.2.1 10) + 1 + (3 + 4 * x1.toNatClampNeg)) 8 ∧ F9 = up2 F ((G.2.2.1 10) + 1 + (3 + 4 * x1.toNatClampNeg)) 8 x3) ∧ (x2.toInt = 6 → r = F ((G.2.2.1 10) + 1 + (3 + 4 * x1.toNatClampNeg)) 9 ∧ F9 = up2 F ((G.2.2.1 10) + 1 + (3 + 4 * x1.toNatClampNeg)) 9 x3) ∧ (x2.toInt < 4 → r = F (((G.2.2.1 10) + 1 + (3 + 4 * x1.toNatClampNeg)) + 1) x2.toNatClampNeg ∧ F9 = up2 F (((G.2.2.1 10) + 1 + (3 + 4 * x1.toNatClampNeg)) + 1) x2.toNatClampNeg x3)))) ([.ref h0, .int x1, .int x2, .int x3] : List Value).toArray s 0 0 (tA τ)) (F0 m 0 ls []) by subst eH; subst eL; exact hW
  clear eH eL
  refine lv_aload_n hx hb dX9_tells_0 rfl (lv_at hl 0 rfl) ?_
  refine tc_getrG E hG t0 fr_X9_12 rfl (fun _ => h8) (fun z => by cases z) dX9_tells_1 (fun ha1 => ?_)
  replace ha1 : τ (G.2.2.1 10) = 2 := ha1
  refine lv_iload_n hx hb dX9_tells_4 rfl (lv_at hl 1 rfl) ?_
  refine tc_callp (tc_runV (As := [.int x1]) (rest := []) E hSt hG (x_X8_has l (gF G F) τ (G.2.2.1 10) x1 ha1) ha1 rv_2 kv_X8_has ml_X9_83 ⟨rfl, rfl, Nat.le_of_ble_eq_true rfl, Nat.le_of_ble_eq_true rfl⟩ rfl hl.1 rfl (Nat.le_of_ble_eq_true rfl) ⟨Nat.zero_le _, Nat.zero_le _⟩ dX9_tells_5) (fun r2 pr2 => ?_)
  have pr2 : (r2.toInt = 1 ∧ (0 ≤ x1.toInt ∧ x1.toInt ≤ 23 ∧ tB (F (G.2.2.1 10) 4) x1.toInt.toNat)) ∨ (r2.toInt = 0 ∧ ¬ (0 ≤ x1.toInt ∧ x1.toInt ≤ 23 ∧ tB (F (G.2.2.1 10) 4) x1.toInt.toNat)) := pr2
  refine lv_if_eq (tgt := 27) hx hb dX9_tells_8 (by decide) (fun c3 => ?_) (fun c3 => ?_)
  · skip
    have ic3 := tn_eq rfl kI_0 c3
    refine lv_iconst (v := -1) hx hb dX9_tells_27 (by decide) ?_
    exact tc_iretF E hr hlk hG rfl (Or.inl ⟨rfl, rfl, by grind⟩) dX9_tells_28
  · skip
    have ic3 := tn_ne rfl kI_0 c3
    refine lv_aload_n hx hb dX9_tells_11 rfl (lv_at hl 0 rfl) ?_
    refine tc_getrG E hG t0 fr_X9_12 rfl (fun _ => h8) (fun z => by cases z) dX9_tells_12 (fun ha4 => ?_)
    replace ha4 : τ (G.2.2.1 10) = 2 := ha4
    refine tc_getrF (d := 1) E hG ha4 fr_X9_86 rfl dX9_tells_15 (fun ha5 => ?_)
    refine lv_iload_n hx hb dX9_tells_18 rfl (lv_at hl 1 rfl) ?_
    refine tc_aald3F (d := 3 + 4 * x1.toNatClampNeg) E hG ha5 ta_10 rfl (t_in (by omega) (by omega)) dX9_tells_19 (fun ha6 => ?_)
    have nx1 : x1.toNatClampNeg = x1.toInt.toNat := rfl
    refine lv_iload_n hx hb dX9_tells_20 rfl (lv_at hl 2 rfl) ?_
    refine tc_callp (tc_runV (As := [.int x2]) (rest := []) E hSt hG (x_X0_hasTold l (gF G F) τ (((G.2.2.1 10) + 1) + (3 + 4 * x1.toNatClampNeg)) x2 ha6) ha6 rv_3 kv_X0_hasTold ml_X9_90 ⟨rfl, rfl, Nat.le_of_ble_eq_true rfl, Nat.le_of_ble_eq_true rfl⟩ rfl hl.1 rfl (Nat.le_of_ble_eq_true rfl) ⟨Nat.zero_le _, Nat.zero_le _⟩ dX9_tells_21) (fun r7 pr7 => ?_)
    have pr7 : ((0 ≤ r7.toInt ∧ r7.toInt ≤ 1) ∧ (r7.toInt = 0 ∨ (0 ≤ x2.toInt ∧ x2.toInt ≤ 6))) ∧ ((r7.toInt = 1 ∧ (0 ≤ x2.toInt ∧ (x2.toInt < nNum (F (((G.2.2.1 10) + 1) + (3 + 4 * x1.toNatClampNeg)) 4).toInt ∨ (4 ≤ x2.toInt ∧ x2.toInt ≤ 6)))) ∨ (r7.toInt = 0 ∧ ¬ (0 ≤ x2.toInt ∧ (x2.toInt < nNum (F (((G.2.2.1 10) + 1) + (3 + 4 * x1.toNatClampNeg)) 4).toInt ∨ (4 ≤ x2.toInt ∧ x2.toInt ≤ 6))))) := pr7
    refine lv_if_ne (tgt := 29) hx hb dX9_tells_24 (by decide) (fun c8 => ?_) (fun c8 => ?_)
    · skip
      have ic8 := tn_ne rfl kI_0 c8
      refine lv_aload_n hx hb dX9_tells_29 rfl (lv_at hl 0 rfl) ?_
      refine tc_getrG E hG t0 fr_X9_12 rfl (fun _ => h8) (fun z => by cases z) dX9_tells_30 (fun ha9 => ?_)
      replace ha9 : τ (G.2.2.1 10) = 2 := ha9
      refine tc_getrF (d := 1) E hG ha9 fr_X9_86 rfl dX9_tells_33 (fun ha10 => ?_)
      refine lv_iload_n hx hb dX9_tells_36 rfl (lv_at hl 1 rfl) ?_
      refine tc_aald3F (d := 3 + 4 * x1.toNatClampNeg) E hG ha10 ta_10 rfl (t_in (by omega) (by omega)) dX9_tells_37 (fun ha11 => ?_)
      have nx1 : x1.toNatClampNeg = x1.toInt.toNat := rfl
      refine lv_iload_n hx hb dX9_tells_38 rfl (lv_at hl 2 rfl) ?_
      refine lv_iload_n hx hb dX9_tells_39 rfl (lv_at hl 3 rfl) ?_
      refine tc_callp (tc_runV (As := [.int x2, .int x3]) (rest := []) E hSt hG (x_X0_mayBeTold l (gF G F) τ (((G.2.2.1 10) + 1) + (3 + 4 * x1.toNatClampNeg)) x2 x3 ha11) ha11 rv_3 kv_X0_mayBeTold ml_X9_95 ⟨rfl, rfl, Nat.le_of_ble_eq_true rfl, Nat.le_of_ble_eq_true rfl⟩ rfl hl.1 rfl (Nat.le_of_ble_eq_true rfl) ⟨Nat.zero_le _, Nat.zero_le _⟩ dX9_tells_40) (fun r12 pr12 => ?_)
      have pr12 : (r12.toInt = 1 ∧ (mbT F (((G.2.2.1 10) + 1) + (3 + 4 * x1.toNatClampNeg)) x2.toInt x3.toInt)) ∨ (r12.toInt = 0 ∧ ¬ (mbT F (((G.2.2.1 10) + 1) + (3 + 4 * x1.toNatClampNeg)) x2.toInt x3.toInt)) := pr12
      refine lv_if_ne (tgt := 49) hx hb dX9_tells_43 (by decide) (fun c13 => ?_) (fun c13 => ?_)
      · skip
        have ic13 := tn_ne rfl kI_0 c13
        refine lv_aload_n hx hb dX9_tells_49 rfl (lv_at hl 0 rfl) ?_
        refine tc_getrG E hG t0 fr_X9_12 rfl (fun _ => h8) (fun z => by cases z) dX9_tells_50 (fun ha14 => ?_)
        replace ha14 : τ (G.2.2.1 10) = 2 := ha14
        refine lv_iload_n hx hb dX9_tells_53 rfl (lv_at hl 1 rfl) ?_
        refine lv_iload_n hx hb dX9_tells_54 rfl (lv_at hl 2 rfl) ?_
        refine lv_iload_n hx hb dX9_tells_55 rfl (lv_at hl 3 rfl) ?_
        refine tc_calliF hG (tc_runV (As := [.int x1, .int x2, .int x3]) (rest := []) E hSt hG (x_X8_tell l G F τ (G.2.2.1 10) x1 x2 x3 ha14 (by omega) (by omega) (by omega) (by omega)) ha14 rv_2 kv_X8_tell ml_X9_99 ⟨rfl, rfl, Nat.le_of_ble_eq_true rfl, Nat.le_of_ble_eq_true rfl⟩ rfl hl.1 rfl (Nat.le_of_ble_eq_true rfl) ⟨Nat.zero_le _, Nat.zero_le _⟩ dX9_tells_56) (fun r15 F16 H locs pr15 hG => ?_)
        have E := E.f1 (F' := F16)
        have hSt := hSt.f1 (F' := F16)
        replace pr15 : (x2.toInt = 4 → r15 = F ((G.2.2.1 10) + 1 + (3 + 4 * x1.toNatClampNeg)) 7 ∧ F16 = up2 F ((G.2.2.1 10) + 1 + (3 + 4 * x1.toNatClampNeg)) 7 x3) ∧ (x2.toInt = 5 → r15 = F ((G.2.2.1 10) + 1 + (3 + 4 * x1.toNatClampNeg)) 8 ∧ F16 = up2 F ((G.2.2.1 10) + 1 + (3 + 4 * x1.toNatClampNeg)) 8 x3) ∧ (x2.toInt = 6 → r15 = F ((G.2.2.1 10) + 1 + (3 + 4 * x1.toNatClampNeg)) 9 ∧ F16 = up2 F ((G.2.2.1 10) + 1 + (3 + 4 * x1.toNatClampNeg)) 9 x3) ∧ (x2.toInt < 4 → r15 = F (((G.2.2.1 10) + 1 + (3 + 4 * x1.toNatClampNeg)) + 1) x2.toNatClampNeg ∧ F16 = up2 F (((G.2.2.1 10) + 1 + (3 + 4 * x1.toNatClampNeg)) + 1) x2.toNatClampNeg x3) := pr15
        exact tc_iretF E hr hlk hG rfl (Or.inr (Or.inr ⟨by grind, by grind, pr15⟩)) dX9_tells_59
      · skip
        have ic13 := tn_eq rfl kI_0 c13
        refine lv_bipush (v := -2) hx hb dX9_tells_46 (by decide) ?_
        exact tc_iretF E hr hlk hG rfl (Or.inr (Or.inl ⟨rfl, rfl, by grind, by grind⟩)) dX9_tells_48
    · skip
      have ic8 := tn_eq rfl kI_0 c8
      refine lv_iconst (v := -1) hx hb dX9_tells_27 (by decide) ?_
      exact tc_iretF E hr hlk hG rfl (Or.inl ⟨rfl, rfl, by grind⟩) dX9_tells_28
