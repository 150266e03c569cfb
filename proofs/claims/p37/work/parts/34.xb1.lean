/-- the BOX and its PARENT are there -/
def mvH (F : mF) (w : Nat) (x : Int32) : Prop := (0 ≤ x.toInt ∧ x.toInt ≤ 23 ∧ tB (F w 4) x.toInt.toNat) ∧ (0 ≤ (F (w + 1 + (3 + 4 * x.toNatClampNeg)) 5).toInt ∧ (F (w + 1 + (3 + 4 * x.toNatClampNeg)) 5).toInt ≤ 23 ∧ tB (F w 4) (F (w + 1 + (3 + 4 * x.toNatClampNeg)) 5).toInt.toNat)
set_option maxHeartbeats 4000000 in
set_option maxRecDepth 100000 in
theorem x_X9_moves (l : Launch) (G : tG) (F : mF) (τ : Nat → Nat) (h0 : Nat) (x1 : Int32) (x2 : Int32) (t0 : τ h0 = 1) (h8 : h0 = G.2.2.1 8) (hin : mvH F (G.2.2.1 10) x1 → ∃ j : Nat, (j : Int) < (F ((G.2.2.1 10) + 1 + (3 + 4 * (F ((G.2.2.1 10) + 1 + (3 + 4 * x1.toNatClampNeg)) 5).toNatClampNeg)) 10).toInt ∧ (F (((G.2.2.1 10) + 1 + (3 + 4 * (F ((G.2.2.1 10) + 1 + (3 + 4 * x1.toNatClampNeg)) 5).toNatClampNeg)) + 2) j).toInt = x1.toInt) : Met l yX9_moves (.code yX9_moves cX9_moves 3 (some .int) :: tWS) (tRm 3 86) (va_Pc [.ref h0, .int x1, .int x2] (tPre (gF G F) τ)) (tQF G τ (fun r F9 => (r = -1 ∧ F9 = F ∧ ¬ mvH F (G.2.2.1 10) x1) ∨ (r = -2 ∧ F9 = F ∧ mvH F (G.2.2.1 10) x1 ∧ ¬ (0 ≤ x2.toInt ∧ x2.toInt < (F ((G.2.2.1 10) + 1 + (3 + 4 * (F ((G.2.2.1 10) + 1 + (3 + 4 * x1.toNatClampNeg)) 5).toNatClampNeg)) 10).toInt)) ∨ (mvH F (G.2.2.1 10) x1 ∧ (0 ≤ x2.toInt ∧ x2.toInt < (F ((G.2.2.1 10) + 1 + (3 + 4 * (F ((G.2.2.1 10) + 1 + (3 + 4 * x1.toNatClampNeg)) 5).toNatClampNeg)) 10).toInt) ∧ (0 ≤ r.toInt ∧ r.toInt < (F ((G.2.2.1 10) + 1 + (3 + 4 * (F ((G.2.2.1 10) + 1 + (3 + 4 * x1.toNatClampNeg)) 5).toNatClampNeg)) 10).toInt ∧ (F (((G.2.2.1 10) + 1 + (3 + 4 * (F ((G.2.2.1 10) + 1 + (3 + 4 * x1.toNatClampNeg)) 5).toNatClampNeg)) + 2) r.toInt.toNat).toInt = x1.toInt ∧ ∀ j : Nat, (j : Int) < r.toInt → ¬ (F (((G.2.2.1 10) + 1 + (3 + 4 * (F ((G.2.2.1 10) + 1 + (3 + 4 * x1.toNatClampNeg)) 5).toNatClampNeg)) + 2) j).toInt = x1.toInt) ∧ ((r.toInt = x2.toInt ∧ F9 = F) ∨ (¬ r.toInt = x2.toInt ∧ F9 = adF (rmF F ((G.2.2.1 10) + 1 + (3 + 4 * (F ((G.2.2.1 10) + 1 + (3 + 4 * x1.toNatClampNeg)) 5).toNatClampNeg)) r) ((G.2.2.1 10) + 1 + (3 + 4 * (F ((G.2.2.1 10) + 1 + (3 + 4 * x1.toNatClampNeg)) 5).toNatClampNeg)) x1 x2))))) 0 0 (tA τ) := by
  refine tc_met (by decide) (Nat.le_of_ble_eq_true rfl) ?_
  intro p e s m below meth c E hSt hr hlk hG ls hl
  have hl : lv_has ls 3 [(0, .ref h0), (1, .int x1), (2, .int x2)] := hl
  have hx := E.1
  have hb := E.2.1
  obtain ⟨H, eH⟩ : ∃ H, H = s.heap := ⟨_, rfl⟩
  obtain ⟨locs, eL⟩ : ∃ x : List Loc, x = [] := ⟨_, rfl⟩
  have hG : tGH (gF G F) τ s H locs := by rw [eH, eL]; exact hG
  suffices hW : W p l e (tRm 3 86) s m ([.ref h0, .int x1, .int x2] : List Value).toArray below meth c H locs 0 0 (MQ below (tQF G τ (fun r F9 => (r = -1 ∧ F9 = F ∧ ¬ mvH F (G.2.2.1 10) x1) ∨ (r = -2 ∧ F9 = F ∧ mvH F (G.2.2.1 10) x1 ∧ ¬ (0 ≤ x2.toInt ∧ x2.toInt < (F ((G.2.2.1 10) + 1 + (3 + 4 * (F ((G.2.2.1 10) + 1 + (3 + 4 * x1.toNatClampNeg)) 5).toNatClampNeg)) 10).toInt)) ∨ (mvH F (G.2.2.1 10) x1 ∧ (0 ≤ x2.toInt ∧ x2.toInt < (F ((G.2.2.1 10) + 1 + (3 + 4 * (F ((G.2.2.1 10) + 1 + (3 + 4 * x1.toNatClampNeg)) 5).toNatClampNeg)) 10).toInt) ∧ (0 ≤ r.toInt ∧ r.toInt < (F ((G.2.2.1 10) + 1 + (3 + 4 * (F ((G.2.2.1 10) + 1 + (3 + 4 * x1.toNatClampNeg)) 5).toNatClampNeg)) 10).toInt ∧ (F (((G.2.2.1 10) + 1 + (3 + 4 * (F ((G.2.2.1 10) + 1 + (3 + 4 * x1.toNatClampNeg)) 5).toNatClampNeg)) + 2) r.toInt.toNat).toInt = x1.toInt ∧ ∀ j : Nat, (j : Int) < r.toInt → ¬ (F (((G.2.2.1 10) + 1 + (3 + 4 * (F ((G.2.2.1 10) + 1 + (3 + 4 * x1.toNatClampNeg)) 5).toNatClampNeg)) + 2) j).toInt = x1.toInt) ∧ ((r.toInt = x2.toInt ∧ F9 = F) ∨ (¬ r.toInt = x2.toInt ∧ F9 = adF (rmF F ((G.2.2.1 10) + 1 + (3 + 4 * (F ((G.2.2.1 10) + 1 + (3 + 4 * x1.toNatClampNeg)) 5).toNatClampNeg)) r) ((G.2.2.1 10) + 1 + (3 + 4 * (F ((G.2.2.1 10) + 1 + (3 + 4 * x1.toNatClampNeg)) 5).toNatClampNeg)) x1 x2))))) ([.ref h0, .int x1, .int x2] : List Value).toArray s 0 0 (tA τ)) (F0 m 0 ls []) by subst eH; subst eL; exact hW
  clear eH eL
  refine lv_aload_n hx hb dX9_moves_0 rfl (lv_at hl 0 rfl) ?_
  refine tc_getrG E hG t0 fr_X9_12 rfl (fun _ => h8) (fun z => by cases z) dX9_moves_1 (fun ha1 => ?_)
  replace ha1 : τ (G.2.2.1 10) = 2 := ha1
  refine lv_iload_n hx hb dX9_moves_4 rfl (lv_at hl 1 rfl) ?_
  refine tc_callp (tc_runV (As := [.int x1]) (rest := []) E hSt hG (x_X8_has l (gF G F) τ (G.2.2.1 10) x1 ha1) ha1 rv_2 kv_X8_has ml_X9_83 ⟨rfl, rfl, Nat.le_of_ble_eq_true rfl, Nat.le_of_ble_eq_true rfl⟩ rfl hl.1 rfl (Nat.le_of_ble_eq_true rfl) ⟨Nat.zero_le _, Nat.zero_le _⟩ dX9_moves_5) (fun r2 pr2 => ?_)
  have pr2 : (r2.toInt = 1 ∧ (0 ≤ x1.toInt ∧ x1.toInt ≤ 23 ∧ tB (F (G.2.2.1 10) 4) x1.toInt.toNat)) ∨ (r2.toInt = 0 ∧ ¬ (0 ≤ x1.toInt ∧ x1.toInt ≤ 23 ∧ tB (F (G.2.2.1 10) 4) x1.toInt.toNat)) := pr2
  refine lv_if_eq (tgt := 33) hx hb dX9_moves_8 (by decide) (fun c3 => ?_) (fun c3 => ?_)
  · skip
    have ic3 := tn_eq rfl kI_0 c3
    refine lv_iconst (v := -1) hx hb dX9_moves_33 (by decide) ?_
    exact tc_iretF E hr hlk hG rfl (Or.inl ⟨rfl, rfl, (by unfold mvH; grind)⟩) dX9_moves_34
  · skip
    have ic3 := tn_ne rfl kI_0 c3
    refine lv_aload_n hx hb dX9_moves_11 rfl (lv_at hl 0 rfl) ?_
    refine tc_getrG E hG t0 fr_X9_12 rfl (fun _ => h8) (fun z => by cases z) dX9_moves_12 (fun ha4 => ?_)
    replace ha4 : τ (G.2.2.1 10) = 2 := ha4
    refine lv_aload_n hx hb dX9_moves_15 rfl (lv_at hl 0 rfl) ?_
    refine tc_getrG E hG t0 fr_X9_12 rfl (fun _ => h8) (fun z => by cases z) dX9_moves_16 (fun ha5 => ?_)
    replace ha5 : τ (G.2.2.1 10) = 2 := ha5
    refine tc_getrF (d := 1) E hG ha5 fr_X9_86 rfl dX9_moves_19 (fun ha6 => ?_)
    refine lv_iload_n hx hb dX9_moves_22 rfl (lv_at hl 1 rfl) ?_
    refine tc_aald3F (d := 3 + 4 * x1.toNatClampNeg) E hG ha6 ta_10 rfl (t_in (by omega) (by omega)) dX9_moves_23 (fun ha7 => ?_)
    have nx1 : x1.toNatClampNeg = x1.toInt.toNat := rfl
    refine tc_getF E hG ha7 fi_X9_107 rfl dX9_moves_24 (fun z8 lz8 uz8 wz8 => ?_)
    replace wz8 : z8 = F (((G.2.2.1 10) + 1) + (3 + 4 * x1.toNatClampNeg)) 5 := wz8
    have cz8 : z8.toInt = (F (((G.2.2.1 10) + 1) + (3 + 4 * x1.toNatClampNeg)) 5).toInt := by rw [wz8]
    replace wz8 : z8 = F ((G.2.2.1 10) + 1 + (3 + 4 * x1.toNatClampNeg)) 5 := wz8
    subst wz8
    refine tc_callp (tc_runV (As := [.int (F ((G.2.2.1 10) + 1 + (3 + 4 * x1.toNatClampNeg)) 5)]) (rest := []) E hSt hG (x_X8_has l (gF G F) τ (G.2.2.1 10) (F ((G.2.2.1 10) + 1 + (3 + 4 * x1.toNatClampNeg)) 5) ha4) ha4 rv_2 kv_X8_has ml_X9_83 ⟨rfl, rfl, Nat.le_of_ble_eq_true rfl, Nat.le_of_ble_eq_true rfl⟩ rfl hl.1 rfl (Nat.le_of_ble_eq_true rfl) ⟨Nat.zero_le _, Nat.zero_le _⟩ dX9_moves_27) (fun r9 pr9 => ?_)
    have pr9 : (r9.toInt = 1 ∧ (0 ≤ (F ((G.2.2.1 10) + 1 + (3 + 4 * x1.toNatClampNeg)) 5).toInt ∧ (F ((G.2.2.1 10) + 1 + (3 + 4 * x1.toNatClampNeg)) 5).toInt ≤ 23 ∧ tB (F (G.2.2.1 10) 4) (F ((G.2.2.1 10) + 1 + (3 + 4 * x1.toNatClampNeg)) 5).toInt.toNat)) ∨ (r9.toInt = 0 ∧ ¬ (0 ≤ (F ((G.2.2.1 10) + 1 + (3 + 4 * x1.toNatClampNeg)) 5).toInt ∧ (F ((G.2.2.1 10) + 1 + (3 + 4 * x1.toNatClampNeg)) 5).toInt ≤ 23 ∧ tB (F (G.2.2.1 10) 4) (F ((G.2.2.1 10) + 1 + (3 + 4 * x1.toNatClampNeg)) 5).toInt.toNat)) := pr9
    refine lv_if_ne (tgt := 35) hx hb dX9_moves_30 (by decide) (fun c10 => ?_) (fun c10 => ?_)
    · skip
      have ic10 := tn_ne rfl kI_0 c10
      refine lv_iload_n hx hb dX9_moves_35 rfl (lv_at hl 2 rfl) ?_
      refine lv_if_lt (tgt := 66) hx hb dX9_moves_36 (by decide) (fun c11 => ?_) (fun c11 => ?_)
      · skip
        have ic11 := tn_lt rfl kI_0 c11
        refine lv_bipush (v := -2) hx hb dX9_moves_66 (by decide) ?_
        exact tc_iretF E hr hlk hG rfl (Or.inr (Or.inl ⟨rfl, rfl, (by unfold mvH; grind), by omega⟩)) dX9_moves_68
      · skip
        have ic11 := tn_nlt rfl kI_0 c11
        refine lv_iload_n hx hb dX9_moves_39 rfl (lv_at hl 2 rfl) ?_
        refine lv_aload_n hx hb dX9_moves_40 rfl (lv_at hl 0 rfl) ?_
        refine tc_getrG E hG t0 fr_X9_12 rfl (fun _ => h8) (fun z => by cases z) dX9_moves_41 (fun ha12 => ?_)
        replace ha12 : τ (G.2.2.1 10) = 2 := ha12
        refine tc_getrF (d := 1) E hG ha12 fr_X9_86 rfl dX9_moves_44 (fun ha13 => ?_)
        refine lv_aload_n hx hb dX9_moves_47 rfl (lv_at hl 0 rfl) ?_
        refine tc_getrG E hG t0 fr_X9_12 rfl (fun _ => h8) (fun z => by cases z) dX9_moves_48 (fun ha14 => ?_)
        replace ha14 : τ (G.2.2.1 10) = 2 := ha14
        refine tc_getrF (d := 1) E hG ha14 fr_X9_86 rfl dX9_moves_51 (fun ha15 => ?_)
        refine lv_iload_n hx hb dX9_moves_54 rfl (lv_at hl 1 rfl) ?_
        refine tc_aald3F (d := 3 + 4 * x1.toNatClampNeg) E hG ha15 ta_10 rfl (t_in (by omega) (by omega)) dX9_moves_55 (fun ha16 => ?_)
        have nx1 : x1.toNatClampNeg = x1.toInt.toNat := rfl
        refine tc_getF E hG ha16 fi_X9_107 rfl dX9_moves_56 (fun z17 lz17 uz17 wz17 => ?_)
        replace wz17 : z17 = F (((G.2.2.1 10) + 1) + (3 + 4 * x1.toNatClampNeg)) 5 := wz17
        have cz17 : z17.toInt = (F (((G.2.2.1 10) + 1) + (3 + 4 * x1.toNatClampNeg)) 5).toInt := by rw [wz17]
        replace wz17 : z17 = F ((G.2.2.1 10) + 1 + (3 + 4 * x1.toNatClampNeg)) 5 := wz17
        subst wz17
        refine tc_aald3F (d := 3 + 4 * (F ((G.2.2.1 10) + 1 + (3 + 4 * x1.toNatClampNeg)) 5).toNatClampNeg) E hG ha13 ta_10 rfl (t_in (by omega) (by omega)) dX9_moves_59 (fun ha18 => ?_)
        have nn19 : (F ((G.2.2.1 10) + 1 + (3 + 4 * x1.toNatClampNeg)) 5).toNatClampNeg = (F ((G.2.2.1 10) + 1 + (3 + 4 * x1.toNatClampNeg)) 5).toInt.toNat := rfl
        refine tc_getF E hG ha18 fi_X9_110 rfl dX9_moves_60 (fun z20 lz20 uz20 wz20 => ?_)
        replace wz20 : z20 = F (((G.2.2.1 10) + 1) + (3 + 4 * (F ((G.2.2.1 10) + 1 + (3 + 4 * x1.toNatClampNeg)) 5).toNatClampNeg)) 10 := wz20
        have cz20 : z20.toInt = (F (((G.2.2.1 10) + 1) + (3 + 4 * (F ((G.2.2.1 10) + 1 + (3 + 4 * x1.toNatClampNeg)) 5).toNatClampNeg)) 10).toInt := by rw [wz20]
        refine lv_icmp_lt (tgt := 69) hx hb dX9_moves_63 (by decide) (fun c21 => ?_) (fun c21 => ?_)
        · skip
          have ic21 := tn_lt rfl rfl c21
          refine lv_aload_n hx hb dX9_moves_69 rfl (lv_at hl 0 rfl) ?_
          refine tc_getrG E hG t0 fr_X9_12 rfl (fun _ => h8) (fun z => by cases z) dX9_moves_70 (fun ha22 => ?_)
          replace ha22 : τ (G.2.2.1 10) = 2 := ha22
          refine lv_iload_n hx hb dX9_moves_73 rfl (lv_at hl 1 rfl) ?_
          refine lv_iload_n hx hb dX9_moves_74 rfl (lv_at hl 2 rfl) ?_
          refine tc_calliF hG (tc_runV (As := [.int x1, .int x2]) (rest := []) E hSt hG (x_X8_move l G F τ (G.2.2.1 10) x1 x2 ha22 (by omega) (by omega) (by omega) (by omega) (hin (by unfold mvH; grind)) (by omega) (by omega) (by omega)) ha22 rv_2 kv_X8_move ml_X9_113 ⟨rfl, rfl, Nat.le_of_ble_eq_true rfl, Nat.le_of_ble_eq_true rfl⟩ rfl hl.1 rfl (Nat.le_of_ble_eq_true rfl) ⟨Nat.zero_le _, Nat.zero_le _⟩ dX9_moves_75) (fun r23 F24 H locs pr23 hG => ?_)
          have E := E.f1 (F' := F24)
          have hSt := hSt.f1 (F' := F24)
          replace pr23 : (0 ≤ r23.toInt ∧ r23.toInt < (F ((G.2.2.1 10) + 1 + (3 + 4 * (F ((G.2.2.1 10) + 1 + (3 + 4 * x1.toNatClampNeg)) 5).toNatClampNeg)) 10).toInt ∧ (F (((G.2.2.1 10) + 1 + (3 + 4 * (F ((G.2.2.1 10) + 1 + (3 + 4 * x1.toNatClampNeg)) 5).toNatClampNeg)) + 2) r23.toInt.toNat).toInt = x1.toInt ∧ ∀ j : Nat, (j : Int) < r23.toInt → ¬ (F (((G.2.2.1 10) + 1 + (3 + 4 * (F ((G.2.2.1 10) + 1 + (3 + 4 * x1.toNatClampNeg)) 5).toNatClampNeg)) + 2) j).toInt = x1.toInt) ∧ ((r23.toInt = x2.toInt ∧ F24 = F) ∨ (¬ r23.toInt = x2.toInt ∧ F24 = adF (rmF F ((G.2.2.1 10) + 1 + (3 + 4 * (F ((G.2.2.1 10) + 1 + (3 + 4 * x1.toNatClampNeg)) 5).toNatClampNeg)) r23) ((G.2.2.1 10) + 1 + (3 + 4 * (F ((G.2.2.1 10) + 1 + (3 + 4 * x1.toNatClampNeg)) 5).toNatClampNeg)) x1 x2)) := pr23
          exact tc_iretF E hr hlk hG rfl (Or.inr (Or.inr ⟨(by unfold mvH; grind), by omega, pr23⟩)) dX9_moves_78
        · skip
          have ic21 := tn_nlt rfl rfl c21
          refine lv_bipush (v := -2) hx hb dX9_moves_66 (by decide) ?_
          exact tc_iretF E hr hlk hG rfl (Or.inr (Or.inl ⟨rfl, rfl, (by unfold mvH; grind), by omega⟩)) dX9_moves_68
    · skip
      have ic10 := tn_eq rfl kI_0 c10
      refine lv_iconst (v := -1) hx hb dX9_moves_33 (by decide) ?_
      exact tc_iretF E hr hlk hG rfl (Or.inl ⟨rfl, rfl, (by unfold mvH; grind)⟩) dX9_moves_34
