def cpB (F F' : mF) (b o : Nat) : Prop := F' b 4 = F o 4 ∧ F' b 5 = F o 5 ∧ F' b 7 = F o 7 ∧ F' b 8 = F o 8 ∧ F' b 9 = F o 9 ∧ F' b 10 = F o 10 ∧ (∀ j : Nat, j < 4 → F' (b + 1) j = F (o + 1) j) ∧ ∀ j : Nat, (j : Int) < (F o 10).toInt → F' (b + 2) j = F (o + 2) j
def cpMm (F F' : mF) (b o : Nat) : Prop := cpB F F' b o ∧ F' b 6 = F o 6 ∧ F' b 11 = F o 11 ∧ F' b 12 = F o 12 ∧ F' b 13 = F o 13

set_option maxHeartbeats 4000000 in
set_option maxRecDepth 100000 in
theorem x_X0_copyFrom (l : Launch) (G : tG) (F : mF) (τ : Nat → Nat) (h0 : Nat) (h1 : Nat) (t0 : τ h0 = 3) (t1 : τ h1 = 37) (hap : h1 + 3 ≤ h0 ∨ h0 + 3 ≤ h1) : Met l yX0_copyFrom (.code yX0_copyFrom cX0_copyFrom 2 none :: tWS) (tRm 1 40) (va_Pc [.ref h0, .ref h1] (tPre (gF G F) τ)) (tQG G τ (fun F9 => cpMm F F9 h0 h1 ∧ F9 h0 0 = F h0 0 ∧ ∀ c k : Nat, ¬ (c = h0 ∨ c = h0 + 1 ∨ c = h0 + 2) → F9 c k = F c k)) 0 0 (tA τ) := by
  refine tc_met (by decide) (Nat.le_of_ble_eq_true rfl) ?_
  intro p e s m below meth c E hSt hr hlk hG ls hl
  have hl : lv_has ls 2 [(0, .ref h0), (1, .ref h1)] := hl
  have hx := E.1
  have hb := E.2.1
  obtain ⟨H, eH⟩ : ∃ H, H = s.heap := ⟨_, rfl⟩
  obtain ⟨locs, eL⟩ : ∃ x : List Loc, x = [] := ⟨_, rfl⟩
  have hG : tGH (gF G F) τ s H locs := by rw [eH, eL]; exact hG
  suffices hW : W p l e (tRm 1 40) s m ([.ref h0, .ref h1] : List Value).toArray below meth c H locs 0 0 (MQ below (tQG G τ (fun F9 => cpMm F F9 h0 h1 ∧ F9 h0 0 = F h0 0 ∧ ∀ c k : Nat, ¬ (c = h0 ∨ c = h0 + 1 ∨ c = h0 + 2) → F9 c k = F c k)) ([.ref h0, .ref h1] : List Value).toArray s 0 0 (tA τ)) (F0 m 0 ls []) by subst eH; subst eL; exact hW
  clear eH eL
  refine lv_aload_n hx hb dX0_copyFrom_0 rfl (lv_at hl 0 rfl) ?_
  refine lv_aload_n hx hb dX0_copyFrom_1 rfl (lv_at hl 1 rfl) ?_
  refine tc_getF E hG t1 fij_X0_29 rfl dX0_copyFrom_2 (fun z1 lz1 uz1 wz1 => ?_)
  replace wz1 : z1 = F h1 4 := wz1
  have cz1 : z1.toInt = (F h1 4).toInt := by rw [wz1]
  refine tc_putF (lo := -2147483648) (hi := 2147483647) E hG t0 (by decide) rfl rfl fq_X0_29 (t_any1 _) (t_any2 _) rfl rfl dX0_copyFrom_5 (fun H locs hG => ?_)
  obtain ⟨F2, eF2⟩ : ∃ Z : mF, Z = up2 F h0 4 z1 := ⟨_, rfl⟩
  replace hG : tGH (gF G F2) τ s H locs := by rw [eF2]; exact hG
  have E := E.f1 (F' := F2)
  have hSt := hSt.f1 (F' := F2)
  refine lv_aload_n hx hb dX0_copyFrom_8 rfl (lv_at hl 0 rfl) ?_
  refine lv_aload_n hx hb dX0_copyFrom_9 rfl (lv_at hl 1 rfl) ?_
  refine tc_getF E hG t1 fij_X0_32 rfl dX0_copyFrom_10 (fun z3 lz3 uz3 wz3 => ?_)
  replace wz3 : z3 = F2 h1 5 := wz3
  replace wz3 : z3 = F h1 5 := by rw [wz3, eF2, up2_ne (by omega)]
  have cz3 : z3.toInt = (F h1 5).toInt := by rw [wz3]
  refine tc_putF (lo := -2147483648) (hi := 2147483647) E hG t0 (by decide) rfl rfl fq_X0_32 (t_any1 _) (t_any2 _) rfl rfl dX0_copyFrom_13 (fun H locs hG => ?_)
  obtain ⟨F4, eF4⟩ : ∃ Z : mF, Z = up2 F2 h0 5 z3 := ⟨_, rfl⟩
  replace hG : tGH (gF G F4) τ s H locs := by rw [eF4]; exact hG
  have E := E.f1 (F' := F4)
  have hSt := hSt.f1 (F' := F4)
  refine lv_aload_n hx hb dX0_copyFrom_16 rfl (lv_at hl 0 rfl) ?_
  refine lv_aload_n hx hb dX0_copyFrom_17 rfl (lv_at hl 1 rfl) ?_
  refine tc_getF E hG t1 fij_X0_35 rfl dX0_copyFrom_18 (fun z5 lz5 uz5 wz5 => ?_)
  replace wz5 : z5 = F4 h1 6 := wz5
  replace wz5 : z5 = F h1 6 := by rw [wz5, eF4, up2_ne (by omega), eF2, up2_ne (by omega)]
  have cz5 : z5.toInt = (F h1 6).toInt := by rw [wz5]
  refine tc_putF (lo := -2147483648) (hi := 2147483647) E hG t0 (by decide) rfl rfl fq_X0_35 (t_any1 _) (t_any2 _) rfl rfl dX0_copyFrom_21 (fun H locs hG => ?_)
  obtain ⟨F6, eF6⟩ : ∃ Z : mF, Z = up2 F4 h0 6 z5 := ⟨_, rfl⟩
  replace hG : tGH (gF G F6) τ s H locs := by rw [eF6]; exact hG
  have E := E.f1 (F' := F6)
  have hSt := hSt.f1 (F' := F6)
  refine lv_aload_n hx hb dX0_copyFrom_24 rfl (lv_at hl 0 rfl) ?_
  refine lv_aload_n hx hb dX0_copyFrom_25 rfl (lv_at hl 1 rfl) ?_
  refine tc_getF E hG t1 fij_X0_38 rfl dX0_copyFrom_26 (fun z7 lz7 uz7 wz7 => ?_)
  replace wz7 : z7 = F6 h1 7 := wz7
  replace wz7 : z7 = F h1 7 := by rw [wz7, eF6, up2_ne (by omega), eF4, up2_ne (by omega), eF2, up2_ne (by omega)]
  have cz7 : z7.toInt = (F h1 7).toInt := by rw [wz7]
  refine tc_putF (lo := -2147483648) (hi := 2147483647) E hG t0 (by decide) rfl rfl fq_X0_38 (t_any1 _) (t_any2 _) rfl rfl dX0_copyFrom_29 (fun H locs hG => ?_)
  obtain ⟨F8, eF8⟩ : ∃ Z : mF, Z = up2 F6 h0 7 z7 := ⟨_, rfl⟩
  replace hG : tGH (gF G F8) τ s H locs := by rw [eF8]; exact hG
  have E := E.f1 (F' := F8)
  have hSt := hSt.f1 (F' := F8)
  refine lv_aload_n hx hb dX0_copyFrom_32 rfl (lv_at hl 1 rfl) ?_
  refine tc_getrF (d := 1) E hG t1 frj_X0_9 rfl dX0_copyFrom_33 (fun ha9 => ?_)
  refine lv_iconst (v := 0) hx hb dX0_copyFrom_36 (by decide) ?_
  refine lv_aload_n hx hb dX0_copyFrom_37 rfl (lv_at hl 0 rfl) ?_
  refine tc_getrF (d := 1) E hG t0 fr_X0_9 rfl dX0_copyFrom_38 (fun ha10 => ?_)
  refine lv_iconst (v := 0) hx hb dX0_copyFrom_41 (by decide) ?_
  refine lv_iconst (v := 4) hx hb dX0_copyFrom_42 (by decide) ?_
  have k11 := kI_4
  have k12 := kI_0
  have k13 := kI_0
  refine tc_copyF (rest := []) E hl.1 hG ml_X0_76 kn_copy1 kn_copy2 kn_copy3 ha9 ha10 ta_38 ta_11 (fun _ => rfl) (fun _ => rfl) (by omega) (by omega) (by omega) (by omega) (by omega) ⟨Nat.le_of_ble_eq_true rfl, Nat.le_of_ble_eq_true rfl⟩ dX0_copyFrom_43 (fun H locs hG => ?_)
  obtain ⟨F14, eF14⟩ : ∃ Z : mF, Z = upR F8 (h0 + 1) 0 4 (fun j => F8 (h1 + 1) (0 + (j - 0))) := ⟨_, rfl⟩
  replace hG : tGH (gF G F14) τ s H locs := by rw [eF14]; exact hG
  have E := E.f1 (F' := F14)
  have hSt := hSt.f1 (F' := F14)
  refine lv_aload_n hx hb dX0_copyFrom_46 rfl (lv_at hl 1 rfl) ?_
  refine tc_getrF (d := 2) E hG t1 frj_X0_15 rfl dX0_copyFrom_47 (fun ha15 => ?_)
  refine lv_iconst (v := 0) hx hb dX0_copyFrom_50 (by decide) ?_
  refine lv_aload_n hx hb dX0_copyFrom_51 rfl (lv_at hl 0 rfl) ?_
  refine tc_getrF (d := 2) E hG t0 fr_X0_15 rfl dX0_copyFrom_52 (fun ha16 => ?_)
  refine lv_iconst (v := 0) hx hb dX0_copyFrom_55 (by decide) ?_
  refine lv_aload_n hx hb dX0_copyFrom_56 rfl (lv_at hl 1 rfl) ?_
  refine tc_getF E hG t1 fij_X0_47 rfl dX0_copyFrom_57 (fun z17 lz17 uz17 wz17 => ?_)
  replace wz17 : z17 = F14 h1 10 := wz17
  replace wz17 : z17 = F h1 10 := by rw [wz17, eF14, upR_ne (by omega), eF8, up2_ne (by omega), eF6, up2_ne (by omega), eF4, up2_ne (by omega), eF2, up2_ne (by omega)]
  have cz17 : z17.toInt = (F h1 10).toInt := by rw [wz17]
  have k18 := kI_0
  have k19 := kI_0
  refine tc_copyF (rest := []) E hl.1 hG ml_X0_76 kn_copy1 kn_copy2 kn_copy3 ha15 ha16 ta_39 ta_12 (fun _ => rfl) (fun _ => rfl) (by omega) (by omega) (by omega) (by omega) (by omega) ⟨Nat.le_of_ble_eq_true rfl, Nat.le_of_ble_eq_true rfl⟩ dX0_copyFrom_60 (fun H locs hG => ?_)
  have nn20 : z17.toNatClampNeg = z17.toInt.toNat := rfl
  obtain ⟨F21, eF21⟩ : ∃ Z : mF, Z = upR F14 (h0 + 2) 0 z17.toNatClampNeg (fun j => F14 (h1 + 2) (0 + (j - 0))) := ⟨_, rfl⟩
  replace hG : tGH (gF G F21) τ s H locs := by rw [eF21]; exact hG
  have E := E.f1 (F' := F21)
  have hSt := hSt.f1 (F' := F21)
  refine lv_aload_n hx hb dX0_copyFrom_63 rfl (lv_at hl 0 rfl) ?_
  refine lv_aload_n hx hb dX0_copyFrom_64 rfl (lv_at hl 1 rfl) ?_
  refine tc_getF E hG t1 fij_X0_41 rfl dX0_copyFrom_65 (fun z22 lz22 uz22 wz22 => ?_)
  replace wz22 : z22 = F21 h1 8 := wz22
  replace wz22 : z22 = F h1 8 := by rw [wz22, eF21, upR_ne (by omega), eF14, upR_ne (by omega), eF8, up2_ne (by omega), eF6, up2_ne (by omega), eF4, up2_ne (by omega), eF2, up2_ne (by omega)]
  have cz22 : z22.toInt = (F h1 8).toInt := by rw [wz22]
  refine tc_putF (lo := -2147483648) (hi := 2147483647) E hG t0 (by decide) rfl rfl fq_X0_41 (t_any1 _) (t_any2 _) rfl rfl dX0_copyFrom_68 (fun H locs hG => ?_)
  obtain ⟨F23, eF23⟩ : ∃ Z : mF, Z = up2 F21 h0 8 z22 := ⟨_, rfl⟩
  replace hG : tGH (gF G F23) τ s H locs := by rw [eF23]; exact hG
  have E := E.f1 (F' := F23)
  have hSt := hSt.f1 (F' := F23)
  refine lv_aload_n hx hb dX0_copyFrom_71 rfl (lv_at hl 0 rfl) ?_
  refine lv_aload_n hx hb dX0_copyFrom_72 rfl (lv_at hl 1 rfl) ?_
  refine tc_getF E hG t1 fij_X0_44 rfl dX0_copyFrom_73 (fun z24 lz24 uz24 wz24 => ?_)
  replace wz24 : z24 = F23 h1 9 := wz24
  replace wz24 : z24 = F h1 9 := by rw [wz24, eF23, up2_ne (by omega), eF21, upR_ne (by omega), eF14, upR_ne (by omega), eF8, up2_ne (by omega), eF6, up2_ne (by omega), eF4, up2_ne (by omega), eF2, up2_ne (by omega)]
  have cz24 : z24.toInt = (F h1 9).toInt := by rw [wz24]
  refine tc_putF (lo := -2147483648) (hi := 2147483647) E hG t0 (by decide) rfl rfl fq_X0_44 (t_any1 _) (t_any2 _) rfl rfl dX0_copyFrom_76 (fun H locs hG => ?_)
  obtain ⟨F25, eF25⟩ : ∃ Z : mF, Z = up2 F23 h0 9 z24 := ⟨_, rfl⟩
  replace hG : tGH (gF G F25) τ s H locs := by rw [eF25]; exact hG
  have E := E.f1 (F' := F25)
  have hSt := hSt.f1 (F' := F25)
  refine lv_aload_n hx hb dX0_copyFrom_79 rfl (lv_at hl 0 rfl) ?_
  refine lv_aload_n hx hb dX0_copyFrom_80 rfl (lv_at hl 1 rfl) ?_
  refine tc_getF E hG t1 fij_X0_47 rfl dX0_copyFrom_81 (fun z26 lz26 uz26 wz26 => ?_)
  replace wz26 : z26 = F25 h1 10 := wz26
  replace wz26 : z26 = F h1 10 := by rw [wz26, eF25, up2_ne (by omega), eF23, up2_ne (by omega), eF21, upR_ne (by omega), eF14, upR_ne (by omega), eF8, up2_ne (by omega), eF6, up2_ne (by omega), eF4, up2_ne (by omega), eF2, up2_ne (by omega)]
  have cz26 : z26.toInt = (F h1 10).toInt := by rw [wz26]
  refine tc_putF (lo := 0) (hi := 8) E hG t0 (by decide) rfl rfl fq_X0_47 (by omega) (by omega) rfl rfl dX0_copyFrom_84 (fun H locs hG => ?_)
  obtain ⟨F27, eF27⟩ : ∃ Z : mF, Z = up2 F25 h0 10 z26 := ⟨_, rfl⟩
  replace hG : tGH (gF G F27) τ s H locs := by rw [eF27]; exact hG
  have E := E.f1 (F' := F27)
  have hSt := hSt.f1 (F' := F27)
  refine lv_aload_n hx hb dX0_copyFrom_87 rfl (lv_at hl 0 rfl) ?_
  refine lv_aload_n hx hb dX0_copyFrom_88 rfl (lv_at hl 1 rfl) ?_
  refine tc_getF E hG t1 fij_X0_50 rfl dX0_copyFrom_89 (fun z28 lz28 uz28 wz28 => ?_)
  replace wz28 : z28 = F27 h1 11 := wz28
  replace wz28 : z28 = F h1 11 := by rw [wz28, eF27, up2_ne (by omega), eF25, up2_ne (by omega), eF23, up2_ne (by omega), eF21, upR_ne (by omega), eF14, upR_ne (by omega), eF8, up2_ne (by omega), eF6, up2_ne (by omega), eF4, up2_ne (by omega), eF2, up2_ne (by omega)]
  have cz28 : z28.toInt = (F h1 11).toInt := by rw [wz28]
  refine tc_putF (lo := -2147483648) (hi := 2147483647) E hG t0 (by decide) rfl rfl fq_X0_50 (t_any1 _) (t_any2 _) rfl rfl dX0_copyFrom_92 (fun H locs hG => ?_)
  obtain ⟨F29, eF29⟩ : ∃ Z : mF, Z = up2 F27 h0 11 z28 := ⟨_, rfl⟩
  replace hG : tGH (gF G F29) τ s H locs := by rw [eF29]; exact hG
  have E := E.f1 (F' := F29)
  have hSt := hSt.f1 (F' := F29)
  refine lv_aload_n hx hb dX0_copyFrom_95 rfl (lv_at hl 0 rfl) ?_
  refine lv_aload_n hx hb dX0_copyFrom_96 rfl (lv_at hl 1 rfl) ?_
  refine tc_getF E hG t1 fij_X0_70 rfl dX0_copyFrom_97 (fun z30 lz30 uz30 wz30 => ?_)
  replace wz30 : z30 = F29 h1 12 := wz30
  replace wz30 : z30 = F h1 12 := by rw [wz30, eF29, up2_ne (by omega), eF27, up2_ne (by omega), eF25, up2_ne (by omega), eF23, up2_ne (by omega), eF21, upR_ne (by omega), eF14, upR_ne (by omega), eF8, up2_ne (by omega), eF6, up2_ne (by omega), eF4, up2_ne (by omega), eF2, up2_ne (by omega)]
  have cz30 : z30.toInt = (F h1 12).toInt := by rw [wz30]
  refine tc_putF (lo := -2147483648) (hi := 2147483647) E hG t0 (by decide) rfl rfl fq_X0_70 (t_any1 _) (t_any2 _) rfl rfl dX0_copyFrom_100 (fun H locs hG => ?_)
  obtain ⟨F31, eF31⟩ : ∃ Z : mF, Z = up2 F29 h0 12 z30 := ⟨_, rfl⟩
  replace hG : tGH (gF G F31) τ s H locs := by rw [eF31]; exact hG
  have E := E.f1 (F' := F31)
  have hSt := hSt.f1 (F' := F31)
  refine lv_aload_n hx hb dX0_copyFrom_103 rfl (lv_at hl 0 rfl) ?_
  refine lv_aload_n hx hb dX0_copyFrom_104 rfl (lv_at hl 1 rfl) ?_
  refine tc_getF E hG t1 fij_X0_73 rfl dX0_copyFrom_105 (fun z32 lz32 uz32 wz32 => ?_)
  replace wz32 : z32 = F31 h1 13 := wz32
  replace wz32 : z32 = F h1 13 := by rw [wz32, eF31, up2_ne (by omega), eF29, up2_ne (by omega), eF27, up2_ne (by omega), eF25, up2_ne (by omega), eF23, up2_ne (by omega), eF21, upR_ne (by omega), eF14, upR_ne (by omega), eF8, up2_ne (by omega), eF6, up2_ne (by omega), eF4, up2_ne (by omega), eF2, up2_ne (by omega)]
  have cz32 : z32.toInt = (F h1 13).toInt := by rw [wz32]
  refine tc_putF (lo := -2147483648) (hi := 2147483647) E hG t0 (by decide) rfl rfl fq_X0_73 (t_any1 _) (t_any2 _) rfl rfl dX0_copyFrom_108 (fun H locs hG => ?_)
  obtain ⟨F33, eF33⟩ : ∃ Z : mF, Z = up2 F31 h0 13 z32 := ⟨_, rfl⟩
  replace hG : tGH (gF G F33) τ s H locs := by rw [eF33]; exact hG
  have E := E.f1 (F' := F33)
  have hSt := hSt.f1 (F' := F33)
  refine lv_aload_n hx hb dX0_copyFrom_111 rfl (lv_at hl 0 rfl) ?_
  refine tc_getrF (d := 3) E hG t0 fr_X0_21 rfl dX0_copyFrom_112 (fun ha34 => ?_)
  refine lv_aload_n hx hb dX0_copyFrom_115 rfl (lv_at hl 1 rfl) ?_
  refine tc_getrF (d := 3) E hG t1 frj_X0_21 rfl dX0_copyFrom_116 (fun ha35 => ?_)
  refine tc_callv hG (tc_runV (As := [.ref (h1 + 3)]) (rest := []) E hSt hG (c_X2_copyFrom l (gF G F33) τ (h0 + 3) (h1 + 3) ha34 ha35) ha34 rv_4 kv_X2_copyFrom ml_X0_82 ⟨rfl, rfl, Nat.le_of_ble_eq_true rfl, Nat.le_of_ble_eq_true rfl⟩ rfl hl.1 rfl (Nat.le_of_ble_eq_true rfl) ⟨Nat.zero_le _, Nat.zero_le _⟩ dX0_copyFrom_119) (fun H locs hG => ?_)
  exact tc_vretF E hr hlk hG ⟨⟨⟨(by rw [eF33, up2_ne (by omega), eF31, up2_ne (by omega), eF29, up2_ne (by omega), eF27, up2_ne (by omega), eF25, up2_ne (by omega), eF23, up2_ne (by omega), eF21, upR_ne (by omega), eF14, upR_ne (by omega), eF8, up2_ne (by omega), eF6, up2_ne (by omega), eF4, up2_ne (by omega), eF2, up2_at, wz1]), (by rw [eF33, up2_ne (by omega), eF31, up2_ne (by omega), eF29, up2_ne (by omega), eF27, up2_ne (by omega), eF25, up2_ne (by omega), eF23, up2_ne (by omega), eF21, upR_ne (by omega), eF14, upR_ne (by omega), eF8, up2_ne (by omega), eF6, up2_ne (by omega), eF4, up2_at, wz3]), (by rw [eF33, up2_ne (by omega), eF31, up2_ne (by omega), eF29, up2_ne (by omega), eF27, up2_ne (by omega), eF25, up2_ne (by omega), eF23, up2_ne (by omega), eF21, upR_ne (by omega), eF14, upR_ne (by omega), eF8, up2_at, wz7]), (by rw [eF33, up2_ne (by omega), eF31, up2_ne (by omega), eF29, up2_ne (by omega), eF27, up2_ne (by omega), eF25, up2_ne (by omega), eF23, up2_at, wz22]), (by rw [eF33, up2_ne (by omega), eF31, up2_ne (by omega), eF29, up2_ne (by omega), eF27, up2_ne (by omega), eF25, up2_at, wz24]), (by rw [eF33, up2_ne (by omega), eF31, up2_ne (by omega), eF29, up2_ne (by omega), eF27, up2_at, wz26]), (fun j hj => by rw [eF33, up2_ne (by omega), eF31, up2_ne (by omega), eF29, up2_ne (by omega), eF27, up2_ne (by omega), eF25, up2_ne (by omega), eF23, up2_ne (by omega), eF21, upR_ne (by omega), eF14, upR_in ⟨rfl, by omega, by omega⟩]; show _ = _; rw [eF8, up2_ne (by omega), eF6, up2_ne (by omega), eF4, up2_ne (by omega), eF2, up2_ne (by omega), show 0 + (j - 0) = j by omega]), (fun j hj => by rw [eF33, up2_ne (by omega), eF31, up2_ne (by omega), eF29, up2_ne (by omega), eF27, up2_ne (by omega), eF25, up2_ne (by omega), eF23, up2_ne (by omega), eF21, upR_in ⟨rfl, by omega, by omega⟩]; show _ = _; rw [eF14, upR_ne (by omega), eF8, up2_ne (by omega), eF6, up2_ne (by omega), eF4, up2_ne (by omega), eF2, up2_ne (by omega), show 0 + (j - 0) = j by omega])⟩, (by rw [eF33, up2_ne (by omega), eF31, up2_ne (by omega), eF29, up2_ne (by omega), eF27, up2_ne (by omega), eF25, up2_ne (by omega), eF23, up2_ne (by omega), eF21, upR_ne (by omega), eF14, upR_ne (by omega), eF8, up2_ne (by omega), eF6, up2_at, wz5]), (by rw [eF33, up2_ne (by omega), eF31, up2_ne (by omega), eF29, up2_at, wz28]), (by rw [eF33, up2_ne (by omega), eF31, up2_at, wz30]), (by rw [eF33, up2_at, wz32])⟩, (by rw [eF33, up2_ne (by omega), eF31, up2_ne (by omega), eF29, up2_ne (by omega), eF27, up2_ne (by omega), eF25, up2_ne (by omega), eF23, up2_ne (by omega), eF21, upR_ne (by omega), eF14, upR_ne (by omega), eF8, up2_ne (by omega), eF6, up2_ne (by omega), eF4, up2_ne (by omega), eF2, up2_ne (by omega)]), (fun c k hc => by rw [eF33, up2_ne (by omega), eF31, up2_ne (by omega), eF29, up2_ne (by omega), eF27, up2_ne (by omega), eF25, up2_ne (by omega), eF23, up2_ne (by omega), eF21, upR_ne (by omega), eF14, upR_ne (by omega), eF8, up2_ne (by omega), eF6, up2_ne (by omega), eF4, up2_ne (by omega), eF2, up2_ne (by omega)])⟩ dX0_copyFrom_122

set_option maxHeartbeats 4000000 in
set_option maxRecDepth 100000 in
theorem x_X0_copyFrom_m (l : Launch) (G : tG) (F : mF) (τ : Nat → Nat) (h0 : Nat) (h1 : Nat) (t0 : τ h0 = 37) (t1 : τ h1 = 3) (hap : h1 + 3 ≤ h0 ∨ h0 + 3 ≤ h1) : Met l yX0_copyFrom (.code yX0_copyFrom cX0_copyFrom 2 none :: tWS) (tRm 1 40) (va_Pc [.ref h0, .ref h1] (tPre (gF G F) τ)) (tQG G τ (fun F9 => cpMm F F9 h0 h1 ∧ F9 h0 0 = F h0 0 ∧ ∀ c k : Nat, ¬ (c = h0 ∨ c = h0 + 1 ∨ c = h0 + 2) → F9 c k = F c k)) 0 0 (tA τ) := by
  refine tc_met (by decide) (Nat.le_of_ble_eq_true rfl) ?_
  intro p e s m below meth c E hSt hr hlk hG ls hl
  have hl : lv_has ls 2 [(0, .ref h0), (1, .ref h1)] := hl
  have hx := E.1
  have hb := E.2.1
  obtain ⟨H, eH⟩ : ∃ H, H = s.heap := ⟨_, rfl⟩
  obtain ⟨locs, eL⟩ : ∃ x : List Loc, x = [] := ⟨_, rfl⟩
  have hG : tGH (gF G F) τ s H locs := by rw [eH, eL]; exact hG
  suffices hW : W p l e (tRm 1 40) s m ([.ref h0, .ref h1] : List Value).toArray below meth c H locs 0 0 (MQ below (tQG G τ (fun F9 => cpMm F F9 h0 h1 ∧ F9 h0 0 = F h0 0 ∧ ∀ c k : Nat, ¬ (c = h0 ∨ c = h0 + 1 ∨ c = h0 + 2) → F9 c k = F c k)) ([.ref h0, .ref h1] : List Value).toArray s 0 0 (tA τ)) (F0 m 0 ls []) by subst eH; subst eL; exact hW
  clear eH eL
  refine lv_aload_n hx hb dX0_copyFrom_0 rfl (lv_at hl 0 rfl) ?_
  refine lv_aload_n hx hb dX0_copyFrom_1 rfl (lv_at hl 1 rfl) ?_
  refine tc_getF E hG t1 fi_X0_29 rfl dX0_copyFrom_2 (fun z1 lz1 uz1 wz1 => ?_)
  replace wz1 : z1 = F h1 4 := wz1
  have cz1 : z1.toInt = (F h1 4).toInt := by rw [wz1]
  refine tc_putF (lo := -2147483648) (hi := 2147483647) E hG t0 (by decide) rfl rfl fq_X0_29 (t_any1 _) (t_any2 _) rfl rfl dX0_copyFrom_5 (fun H locs hG => ?_)
  obtain ⟨F2, eF2⟩ : ∃ Z : mF, Z = up2 F h0 4 z1 := ⟨_, rfl⟩
  replace hG : tGH (gF G F2) τ s H locs := by rw [eF2]; exact hG
  have E := E.f1 (F' := F2)
  have hSt := hSt.f1 (F' := F2)
  refine lv_aload_n hx hb dX0_copyFrom_8 rfl (lv_at hl 0 rfl) ?_
  refine lv_aload_n hx hb dX0_copyFrom_9 rfl (lv_at hl 1 rfl) ?_
  refine tc_getF E hG t1 fi_X0_32 rfl dX0_copyFrom_10 (fun z3 lz3 uz3 wz3 => ?_)
  replace wz3 : z3 = F2 h1 5 := wz3
  replace wz3 : z3 = F h1 5 := by rw [wz3, eF2, up2_ne (by omega)]
  have cz3 : z3.toInt = (F h1 5).toInt := by rw [wz3]
  refine tc_putF (lo := -2147483648) (hi := 2147483647) E hG t0 (by decide) rfl rfl fq_X0_32 (t_any1 _) (t_any2 _) rfl rfl dX0_copyFrom_13 (fun H locs hG => ?_)
  obtain ⟨F4, eF4⟩ : ∃ Z : mF, Z = up2 F2 h0 5 z3 := ⟨_, rfl⟩
  replace hG : tGH (gF G F4) τ s H locs := by rw [eF4]; exact hG
  have E := E.f1 (F' := F4)
  have hSt := hSt.f1 (F' := F4)
  refine lv_aload_n hx hb dX0_copyFrom_16 rfl (lv_at hl 0 rfl) ?_
  refine lv_aload_n hx hb dX0_copyFrom_17 rfl (lv_at hl 1 rfl) ?_
  refine tc_getF E hG t1 fi_X0_35 rfl dX0_copyFrom_18 (fun z5 lz5 uz5 wz5 => ?_)
  replace wz5 : z5 = F4 h1 6 := wz5
  replace wz5 : z5 = F h1 6 := by rw [wz5, eF4, up2_ne (by omega), eF2, up2_ne (by omega)]
  have cz5 : z5.toInt = (F h1 6).toInt := by rw [wz5]
  refine tc_putF (lo := -2147483648) (hi := 2147483647) E hG t0 (by decide) rfl rfl fq_X0_35 (t_any1 _) (t_any2 _) rfl rfl dX0_copyFrom_21 (fun H locs hG => ?_)
  obtain ⟨F6, eF6⟩ : ∃ Z : mF, Z = up2 F4 h0 6 z5 := ⟨_, rfl⟩
  replace hG : tGH (gF G F6) τ s H locs := by rw [eF6]; exact hG
  have E := E.f1 (F' := F6)
  have hSt := hSt.f1 (F' := F6)
  refine lv_aload_n hx hb dX0_copyFrom_24 rfl (lv_at hl 0 rfl) ?_
  refine lv_aload_n hx hb dX0_copyFrom_25 rfl (lv_at hl 1 rfl) ?_
  refine tc_getF E hG t1 fi_X0_38 rfl dX0_copyFrom_26 (fun z7 lz7 uz7 wz7 => ?_)
  replace wz7 : z7 = F6 h1 7 := wz7
  replace wz7 : z7 = F h1 7 := by rw [wz7, eF6, up2_ne (by omega), eF4, up2_ne (by omega), eF2, up2_ne (by omega)]
  have cz7 : z7.toInt = (F h1 7).toInt := by rw [wz7]
  refine tc_putF (lo := -2147483648) (hi := 2147483647) E hG t0 (by decide) rfl rfl fq_X0_38 (t_any1 _) (t_any2 _) rfl rfl dX0_copyFrom_29 (fun H locs hG => ?_)
  obtain ⟨F8, eF8⟩ : ∃ Z : mF, Z = up2 F6 h0 7 z7 := ⟨_, rfl⟩
  replace hG : tGH (gF G F8) τ s H locs := by rw [eF8]; exact hG
  have E := E.f1 (F' := F8)
  have hSt := hSt.f1 (F' := F8)
  refine lv_aload_n hx hb dX0_copyFrom_32 rfl (lv_at hl 1 rfl) ?_
  refine tc_getrF (d := 1) E hG t1 fr_X0_9 rfl dX0_copyFrom_33 (fun ha9 => ?_)
  refine lv_iconst (v := 0) hx hb dX0_copyFrom_36 (by decide) ?_
  refine lv_aload_n hx hb dX0_copyFrom_37 rfl (lv_at hl 0 rfl) ?_
  refine tc_getrF (d := 1) E hG t0 frj_X0_9 rfl dX0_copyFrom_38 (fun ha10 => ?_)
  refine lv_iconst (v := 0) hx hb dX0_copyFrom_41 (by decide) ?_
  refine lv_iconst (v := 4) hx hb dX0_copyFrom_42 (by decide) ?_
  have k11 := kI_4
  have k12 := kI_0
  have k13 := kI_0
  refine tc_copyF (rest := []) E hl.1 hG ml_X0_76 kn_copy1 kn_copy2 kn_copy3 ha9 ha10 ta_11 ta_38 (fun _ => rfl) (fun _ => rfl) (by omega) (by omega) (by omega) (by omega) (by omega) ⟨Nat.le_of_ble_eq_true rfl, Nat.le_of_ble_eq_true rfl⟩ dX0_copyFrom_43 (fun H locs hG => ?_)
  obtain ⟨F14, eF14⟩ : ∃ Z : mF, Z = upR F8 (h0 + 1) 0 4 (fun j => F8 (h1 + 1) (0 + (j - 0))) := ⟨_, rfl⟩
  replace hG : tGH (gF G F14) τ s H locs := by rw [eF14]; exact hG
  have E := E.f1 (F' := F14)
  have hSt := hSt.f1 (F' := F14)
  refine lv_aload_n hx hb dX0_copyFrom_46 rfl (lv_at hl 1 rfl) ?_
  refine tc_getrF (d := 2) E hG t1 fr_X0_15 rfl dX0_copyFrom_47 (fun ha15 => ?_)
  refine lv_iconst (v := 0) hx hb dX0_copyFrom_50 (by decide) ?_
  refine lv_aload_n hx hb dX0_copyFrom_51 rfl (lv_at hl 0 rfl) ?_
  refine tc_getrF (d := 2) E hG t0 frj_X0_15 rfl dX0_copyFrom_52 (fun ha16 => ?_)
  refine lv_iconst (v := 0) hx hb dX0_copyFrom_55 (by decide) ?_
  refine lv_aload_n hx hb dX0_copyFrom_56 rfl (lv_at hl 1 rfl) ?_
  refine tc_getF E hG t1 fi_X0_47 rfl dX0_copyFrom_57 (fun z17 lz17 uz17 wz17 => ?_)
  replace wz17 : z17 = F14 h1 10 := wz17
  replace wz17 : z17 = F h1 10 := by rw [wz17, eF14, upR_ne (by omega), eF8, up2_ne (by omega), eF6, up2_ne (by omega), eF4, up2_ne (by omega), eF2, up2_ne (by omega)]
  have cz17 : z17.toInt = (F h1 10).toInt := by rw [wz17]
  have k18 := kI_0
  have k19 := kI_0
  refine tc_copyF (rest := []) E hl.1 hG ml_X0_76 kn_copy1 kn_copy2 kn_copy3 ha15 ha16 ta_12 ta_39 (fun _ => rfl) (fun _ => rfl) (by omega) (by omega) (by omega) (by omega) (by omega) ⟨Nat.le_of_ble_eq_true rfl, Nat.le_of_ble_eq_true rfl⟩ dX0_copyFrom_60 (fun H locs hG => ?_)
  have nn20 : z17.toNatClampNeg = z17.toInt.toNat := rfl
  obtain ⟨F21, eF21⟩ : ∃ Z : mF, Z = upR F14 (h0 + 2) 0 z17.toNatClampNeg (fun j => F14 (h1 + 2) (0 + (j - 0))) := ⟨_, rfl⟩
  replace hG : tGH (gF G F21) τ s H locs := by rw [eF21]; exact hG
  have E := E.f1 (F' := F21)
  have hSt := hSt.f1 (F' := F21)
  refine lv_aload_n hx hb dX0_copyFrom_63 rfl (lv_at hl 0 rfl) ?_
  refine lv_aload_n hx hb dX0_copyFrom_64 rfl (lv_at hl 1 rfl) ?_
  refine tc_getF E hG t1 fi_X0_41 rfl dX0_copyFrom_65 (fun z22 lz22 uz22 wz22 => ?_)
  replace wz22 : z22 = F21 h1 8 := wz22
  replace wz22 : z22 = F h1 8 := by rw [wz22, eF21, upR_ne (by omega), eF14, upR_ne (by omega), eF8, up2_ne (by omega), eF6, up2_ne (by omega), eF4, up2_ne (by omega), eF2, up2_ne (by omega)]
  have cz22 : z22.toInt = (F h1 8).toInt := by rw [wz22]
  refine tc_putF (lo := -2147483648) (hi := 2147483647) E hG t0 (by decide) rfl rfl fq_X0_41 (t_any1 _) (t_any2 _) rfl rfl dX0_copyFrom_68 (fun H locs hG => ?_)
  obtain ⟨F23, eF23⟩ : ∃ Z : mF, Z = up2 F21 h0 8 z22 := ⟨_, rfl⟩
  replace hG : tGH (gF G F23) τ s H locs := by rw [eF23]; exact hG
  have E := E.f1 (F' := F23)
  have hSt := hSt.f1 (F' := F23)
  refine lv_aload_n hx hb dX0_copyFrom_71 rfl (lv_at hl 0 rfl) ?_
  refine lv_aload_n hx hb dX0_copyFrom_72 rfl (lv_at hl 1 rfl) ?_
  refine tc_getF E hG t1 fi_X0_44 rfl dX0_copyFrom_73 (fun z24 lz24 uz24 wz24 => ?_)
  replace wz24 : z24 = F23 h1 9 := wz24
  replace wz24 : z24 = F h1 9 := by rw [wz24, eF23, up2_ne (by omega), eF21, upR_ne (by omega), eF14, upR_ne (by omega), eF8, up2_ne (by omega), eF6, up2_ne (by omega), eF4, up2_ne (by omega), eF2, up2_ne (by omega)]
  have cz24 : z24.toInt = (F h1 9).toInt := by rw [wz24]
  refine tc_putF (lo := -2147483648) (hi := 2147483647) E hG t0 (by decide) rfl rfl fq_X0_44 (t_any1 _) (t_any2 _) rfl rfl dX0_copyFrom_76 (fun H locs hG => ?_)
  obtain ⟨F25, eF25⟩ : ∃ Z : mF, Z = up2 F23 h0 9 z24 := ⟨_, rfl⟩
  replace hG : tGH (gF G F25) τ s H locs := by rw [eF25]; exact hG
  have E := E.f1 (F' := F25)
  have hSt := hSt.f1 (F' := F25)
  refine lv_aload_n hx hb dX0_copyFrom_79 rfl (lv_at hl 0 rfl) ?_
  refine lv_aload_n hx hb dX0_copyFrom_80 rfl (lv_at hl 1 rfl) ?_
  refine tc_getF E hG t1 fi_X0_47 rfl dX0_copyFrom_81 (fun z26 lz26 uz26 wz26 => ?_)
  replace wz26 : z26 = F25 h1 10 := wz26
  replace wz26 : z26 = F h1 10 := by rw [wz26, eF25, up2_ne (by omega), eF23, up2_ne (by omega), eF21, upR_ne (by omega), eF14, upR_ne (by omega), eF8, up2_ne (by omega), eF6, up2_ne (by omega), eF4, up2_ne (by omega), eF2, up2_ne (by omega)]
  have cz26 : z26.toInt = (F h1 10).toInt := by rw [wz26]
  refine tc_putF (lo := 0) (hi := 8) E hG t0 (by decide) rfl rfl fq_X0_47 (by omega) (by omega) rfl rfl dX0_copyFrom_84 (fun H locs hG => ?_)
  obtain ⟨F27, eF27⟩ : ∃ Z : mF, Z = up2 F25 h0 10 z26 := ⟨_, rfl⟩
  replace hG : tGH (gF G F27) τ s H locs := by rw [eF27]; exact hG
  have E := E.f1 (F' := F27)
  have hSt := hSt.f1 (F' := F27)
  refine lv_aload_n hx hb dX0_copyFrom_87 rfl (lv_at hl 0 rfl) ?_
  refine lv_aload_n hx hb dX0_copyFrom_88 rfl (lv_at hl 1 rfl) ?_
  refine tc_getF E hG t1 fi_X0_50 rfl dX0_copyFrom_89 (fun z28 lz28 uz28 wz28 => ?_)
  replace wz28 : z28 = F27 h1 11 := wz28
  replace wz28 : z28 = F h1 11 := by rw [wz28, eF27, up2_ne (by omega), eF25, up2_ne (by omega), eF23, up2_ne (by omega), eF21, upR_ne (by omega), eF14, upR_ne (by omega), eF8, up2_ne (by omega), eF6, up2_ne (by omega), eF4, up2_ne (by omega), eF2, up2_ne (by omega)]
  have cz28 : z28.toInt = (F h1 11).toInt := by rw [wz28]
  refine tc_putF (lo := -2147483648) (hi := 2147483647) E hG t0 (by decide) rfl rfl fq_X0_50 (t_any1 _) (t_any2 _) rfl rfl dX0_copyFrom_92 (fun H locs hG => ?_)
  obtain ⟨F29, eF29⟩ : ∃ Z : mF, Z = up2 F27 h0 11 z28 := ⟨_, rfl⟩
  replace hG : tGH (gF G F29) τ s H locs := by rw [eF29]; exact hG
  have E := E.f1 (F' := F29)
  have hSt := hSt.f1 (F' := F29)
  refine lv_aload_n hx hb dX0_copyFrom_95 rfl (lv_at hl 0 rfl) ?_
  refine lv_aload_n hx hb dX0_copyFrom_96 rfl (lv_at hl 1 rfl) ?_
  refine tc_getF E hG t1 fi_X0_70 rfl dX0_copyFrom_97 (fun z30 lz30 uz30 wz30 => ?_)
  replace wz30 : z30 = F29 h1 12 := wz30
  replace wz30 : z30 = F h1 12 := by rw [wz30, eF29, up2_ne (by omega), eF27, up2_ne (by omega), eF25, up2_ne (by omega), eF23, up2_ne (by omega), eF21, upR_ne (by omega), eF14, upR_ne (by omega), eF8, up2_ne (by omega), eF6, up2_ne (by omega), eF4, up2_ne (by omega), eF2, up2_ne (by omega)]
  have cz30 : z30.toInt = (F h1 12).toInt := by rw [wz30]
  refine tc_putF (lo := -2147483648) (hi := 2147483647) E hG t0 (by decide) rfl rfl fq_X0_70 (t_any1 _) (t_any2 _) rfl rfl dX0_copyFrom_100 (fun H locs hG => ?_)
  obtain ⟨F31, eF31⟩ : ∃ Z : mF, Z = up2 F29 h0 12 z30 := ⟨_, rfl⟩
  replace hG : tGH (gF G F31) τ s H locs := by rw [eF31]; exact hG
  have E := E.f1 (F' := F31)
  have hSt := hSt.f1 (F' := F31)
  refine lv_aload_n hx hb dX0_copyFrom_103 rfl (lv_at hl 0 rfl) ?_
  refine lv_aload_n hx hb dX0_copyFrom_104 rfl (lv_at hl 1 rfl) ?_
  refine tc_getF E hG t1 fi_X0_73 rfl dX0_copyFrom_105 (fun z32 lz32 uz32 wz32 => ?_)
  replace wz32 : z32 = F31 h1 13 := wz32
  replace wz32 : z32 = F h1 13 := by rw [wz32, eF31, up2_ne (by omega), eF29, up2_ne (by omega), eF27, up2_ne (by omega), eF25, up2_ne (by omega), eF23, up2_ne (by omega), eF21, upR_ne (by omega), eF14, upR_ne (by omega), eF8, up2_ne (by omega), eF6, up2_ne (by omega), eF4, up2_ne (by omega), eF2, up2_ne (by omega)]
  have cz32 : z32.toInt = (F h1 13).toInt := by rw [wz32]
  refine tc_putF (lo := -2147483648) (hi := 2147483647) E hG t0 (by decide) rfl rfl fq_X0_73 (t_any1 _) (t_any2 _) rfl rfl dX0_copyFrom_108 (fun H locs hG => ?_)
  obtain ⟨F33, eF33⟩ : ∃ Z : mF, Z = up2 F31 h0 13 z32 := ⟨_, rfl⟩
  replace hG : tGH (gF G F33) τ s H locs := by rw [eF33]; exact hG
  have E := E.f1 (F' := F33)
  have hSt := hSt.f1 (F' := F33)
  refine lv_aload_n hx hb dX0_copyFrom_111 rfl (lv_at hl 0 rfl) ?_
  refine tc_getrF (d := 3) E hG t0 frj_X0_21 rfl dX0_copyFrom_112 (fun ha34 => ?_)
  refine lv_aload_n hx hb dX0_copyFrom_115 rfl (lv_at hl 1 rfl) ?_
  refine tc_getrF (d := 3) E hG t1 fr_X0_21 rfl dX0_copyFrom_116 (fun ha35 => ?_)
  refine tc_callv hG (tc_runV (As := [.ref (h1 + 3)]) (rest := []) E hSt hG (c_X2_copyFrom l (gF G F33) τ (h0 + 3) (h1 + 3) ha34 ha35) ha34 rv_4 kv_X2_copyFrom ml_X0_82 ⟨rfl, rfl, Nat.le_of_ble_eq_true rfl, Nat.le_of_ble_eq_true rfl⟩ rfl hl.1 rfl (Nat.le_of_ble_eq_true rfl) ⟨Nat.zero_le _, Nat.zero_le _⟩ dX0_copyFrom_119) (fun H locs hG => ?_)
  exact tc_vretF E hr hlk hG ⟨⟨⟨(by rw [eF33, up2_ne (by omega), eF31, up2_ne (by omega), eF29, up2_ne (by omega), eF27, up2_ne (by omega), eF25, up2_ne (by omega), eF23, up2_ne (by omega), eF21, upR_ne (by omega), eF14, upR_ne (by omega), eF8, up2_ne (by omega), eF6, up2_ne (by omega), eF4, up2_ne (by omega), eF2, up2_at, wz1]), (by rw [eF33, up2_ne (by omega), eF31, up2_ne (by omega), eF29, up2_ne (by omega), eF27, up2_ne (by omega), eF25, up2_ne (by omega), eF23, up2_ne (by omega), eF21, upR_ne (by omega), eF14, upR_ne (by omega), eF8, up2_ne (by omega), eF6, up2_ne (by omega), eF4, up2_at, wz3]), (by rw [eF33, up2_ne (by omega), eF31, up2_ne (by omega), eF29, up2_ne (by omega), eF27, up2_ne (by omega), eF25, up2_ne (by omega), eF23, up2_ne (by omega), eF21, upR_ne (by omega), eF14, upR_ne (by omega), eF8, up2_at, wz7]), (by rw [eF33, up2_ne (by omega), eF31, up2_ne (by omega), eF29, up2_ne (by omega), eF27, up2_ne (by omega), eF25, up2_ne (by omega), eF23, up2_at, wz22]), (by rw [eF33, up2_ne (by omega), eF31, up2_ne (by omega), eF29, up2_ne (by omega), eF27, up2_ne (by omega), eF25, up2_at, wz24]), (by rw [eF33, up2_ne (by omega), eF31, up2_ne (by omega), eF29, up2_ne (by omega), eF27, up2_at, wz26]), (fun j hj => by rw [eF33, up2_ne (by omega), eF31, up2_ne (by omega), eF29, up2_ne (by omega), eF27, up2_ne (by omega), eF25, up2_ne (by omega), eF23, up2_ne (by omega), eF21, upR_ne (by omega), eF14, upR_in ⟨rfl, by omega, by omega⟩]; show _ = _; rw [eF8, up2_ne (by omega), eF6, up2_ne (by omega), eF4, up2_ne (by omega), eF2, up2_ne (by omega), show 0 + (j - 0) = j by omega]), (fun j hj => by rw [eF33, up2_ne (by omega), eF31, up2_ne (by omega), eF29, up2_ne (by omega), eF27, up2_ne (by omega), eF25, up2_ne (by omega), eF23, up2_ne (by omega), eF21, upR_in ⟨rfl, by omega, by omega⟩]; show _ = _; rw [eF14, upR_ne (by omega), eF8, up2_ne (by omega), eF6, up2_ne (by omega), eF4, up2_ne (by omega), eF2, up2_ne (by omega), show 0 + (j - 0) = j by omega])⟩, (by rw [eF33, up2_ne (by omega), eF31, up2_ne (by omega), eF29, up2_ne (by omega), eF27, up2_ne (by omega), eF25, up2_ne (by omega), eF23, up2_ne (by omega), eF21, upR_ne (by omega), eF14, upR_ne (by omega), eF8, up2_ne (by omega), eF6, up2_at, wz5]), (by rw [eF33, up2_ne (by omega), eF31, up2_ne (by omega), eF29, up2_at, wz28]), (by rw [eF33, up2_ne (by omega), eF31, up2_at, wz30]), (by rw [eF33, up2_at, wz32])⟩, (by rw [eF33, up2_ne (by omega), eF31, up2_ne (by omega), eF29, up2_ne (by omega), eF27, up2_ne (by omega), eF25, up2_ne (by omega), eF23, up2_ne (by omega), eF21, upR_ne (by omega), eF14, upR_ne (by omega), eF8, up2_ne (by omega), eF6, up2_ne (by omega), eF4, up2_ne (by omega), eF2, up2_ne (by omega)]), (fun c k hc => by rw [eF33, up2_ne (by omega), eF31, up2_ne (by omega), eF29, up2_ne (by omega), eF27, up2_ne (by omega), eF25, up2_ne (by omega), eF23, up2_ne (by omega), eF21, upR_ne (by omega), eF14, upR_ne (by omega), eF8, up2_ne (by omega), eF6, up2_ne (by omega), eF4, up2_ne (by omega), eF2, up2_ne (by omega)])⟩ dX0_copyFrom_122

theorem cpB.kept {F F1 F2 : mF} {b o : Nat} (h : cpB F F1 b o) (he : ∀ c k : Nat, (c = b ∨ c = b + 1 ∨ c = b + 2) → F2 c k = F1 c k) : cpB F F2 b o := by
  obtain ⟨h1, h2, h3, h4, h5, h6, h7, h8⟩ := h
  have e0 : ∀ k, F2 b k = F1 b k := fun k => he b k (Or.inl rfl)
  have e1 : ∀ k, F2 (b + 1) k = F1 (b + 1) k := fun k => he _ k (Or.inr (Or.inl rfl))
  have e2 : ∀ k, F2 (b + 2) k = F1 (b + 2) k := fun k => he _ k (Or.inr (Or.inr rfl))
  unfold cpB
  simp only [e0, e1, e2]
  exact ⟨h1, h2, h3, h4, h5, h6, h7, h8⟩
theorem cpB.from {F F0 F1 : mF} {b o : Nat} (h : cpB F0 F1 b o) (he : ∀ c k : Nat, (c = o ∨ c = o + 1 ∨ c = o + 2) → F0 c k = F c k) : cpB F F1 b o := by
  obtain ⟨h1, h2, h3, h4, h5, h6, h7, h8⟩ := h
  have e0 : ∀ k, F0 o k = F o k := fun k => he o k (Or.inl rfl)
  have e1 : ∀ k, F0 (o + 1) k = F (o + 1) k := fun k => he _ k (Or.inr (Or.inl rfl))
  have e2 : ∀ k, F0 (o + 2) k = F (o + 2) k := fun k => he _ k (Or.inr (Or.inr rfl))
  unfold cpB
  simp only [← e0, ← e1, ← e2]
  exact ⟨h1, h2, h3, h4, h5, h6, h7, h8⟩
/-- the World at w becomes the one at o -/
def cpW (F F' : mF) (w o : Nat) : Prop := (F' w 3 = F o 3 ∧ F' w 4 = F o 4 ∧ F' w 8 = F o 8 ∧ F' w 9 = F o 9) ∧ (∀ c k : Nat, ¬ (w ≤ c ∧ c < w + 100) → F' c k = F c k) ∧ (∀ i : Nat, i < 24 → F' (w + 1 + (3 + 4 * i)) 0 = F (w + 1 + (3 + 4 * i)) 0) ∧ ∀ i : Nat, (i : Int) < (F o 8).toInt → tB (F o 4) i → cpB F F' (w + 1 + (3 + 4 * i)) (o + 1 + (3 + 4 * i))
theorem cpMm.kept {F F1 F2 : mF} {b o : Nat} (h : cpMm F F1 b o) (he : ∀ c k : Nat, (c = b ∨ c = b + 1 ∨ c = b + 2) → F2 c k = F1 c k) : cpMm F F2 b o := by
  obtain ⟨h1, h2, h3, h4, h5⟩ := h
  have e0 : ∀ k, F2 b k = F1 b k := fun k => he b k (Or.inl rfl)
  refine ⟨h1.kept he, ?_, ?_, ?_, ?_⟩ <;> rw [e0] <;> assumption
theorem cpMm.from {F F0 F1 : mF} {b o : Nat} (h : cpMm F0 F1 b o) (he : ∀ c k : Nat, (c = o ∨ c = o + 1 ∨ c = o + 2) → F0 c k = F c k) : cpMm F F1 b o := by
  obtain ⟨h1, h2, h3, h4, h5⟩ := h
  have e0 : ∀ k, F0 o k = F o k := fun k => he o k (Or.inl rfl)
  refine ⟨h1.from he, ?_, ?_, ?_, ?_⟩ <;> rw [← e0] <;> assumption
def cpN (F F' : mF) (w o : Nat) : Prop := (F' w 3 = F o 3 ∧ F' w 4 = F o 4 ∧ F' w 8 = F o 8 ∧ F' w 9 = F o 9) ∧ (∀ c k : Nat, ¬ (w ≤ c ∧ c < w + 100) → F' c k = F c k) ∧ (∀ i : Nat, i < 24 → F' (w + 1 + (3 + 4 * i)) 0 = F (w + 1 + (3 + 4 * i)) 0) ∧ ∀ i : Nat, (i : Int) < (F o 8).toInt → tB (F o 4) i → cpMm F F' (w + 1 + (3 + 4 * i)) (o + 1 + (3 + 4 * i))
theorem cpN.W {F F' : mF} {w o : Nat} (h : cpN F F' w o) : cpW F F' w o := ⟨h.1, h.2.1, h.2.2.1, fun i h1 h2 => (h.2.2.2 i h1 h2).1⟩

set_option maxHeartbeats 4000000 in
set_option maxRecDepth 100000 in
theorem x_X8_has_m (l : Launch) (G : tG) (τ : Nat → Nat) (h0 : Nat) (x1 : Int32) (t0 : τ h0 = 30) : Met l yX8_has (.code yX8_has cX8_has 2 (some .boolean) :: tWS) (tRm 0 0) (va_Pc [.ref h0, .int x1] (tPre G τ)) (tQp (fun r => (r.toInt = 1 ∧ (0 ≤ x1.toInt ∧ x1.toInt ≤ 23 ∧ tB ((FF G) h0 4) x1.toInt.toNat)) ∨ (r.toInt = 0 ∧ ¬ (0 ≤ x1.toInt ∧ x1.toInt ≤ 23 ∧ tB ((FF G) h0 4) x1.toInt.toNat)))) 0 0 tNo := by
  refine tc_met (by decide) (Nat.le_of_ble_eq_true rfl) ?_
  intro p e s m below meth c E hSt hr hlk hG ls hl
  have hl : lv_has ls 2 [(0, .ref h0), (1, .int x1)] := hl
  have hx := E.1
  have hb := E.2.1
  obtain ⟨H, eH⟩ : ∃ H, H = s.heap := ⟨_, rfl⟩
  obtain ⟨locs, eL⟩ : ∃ x : List Loc, x = [] := ⟨_, rfl⟩
  have hG : tGH G τ s H locs := by rw [eH, eL]; exact hG
  suffices hW : W p l e (tRm 0 0) s m ([.ref h0, .int x1] : List Value).toArray below meth c H locs 0 0 (MQ below (tQp (fun r => (r.toInt = 1 ∧ (0 ≤ x1.toInt ∧ x1.toInt ≤ 23 ∧ tB ((FF G) h0 4) x1.toInt.toNat)) ∨ (r.toInt = 0 ∧ ¬ (0 ≤ x1.toInt ∧ x1.toInt ≤ 23 ∧ tB ((FF G) h0 4) x1.toInt.toNat)))) ([.ref h0, .int x1] : List Value).toArray s 0 0 tNo) (F0 m 0 ls []) by subst eH; subst eL; exact hW
  refine lv_iload_n hx hb dX8_has_0 rfl (lv_at hl 1 rfl) ?_
  refine lv_if_lt (tgt := 26) hx hb dX8_has_1 (by decide) (fun c1 => ?_) (fun c1 => ?_)
  · skip
    have ic1 := tn_lt rfl kI_0 c1
    refine lv_iconst (v := 0) hx hb dX8_has_26 (by decide) ?_
    exact tc_pret E hr hlk eH eL (t_nz (by decide) (by decide)).1 (show ((0 : Int32).toInt = 1 ∧ (0 ≤ x1.toInt ∧ x1.toInt ≤ 23 ∧ tB ((FF G) h0 4) x1.toInt.toNat)) ∨ ((0 : Int32).toInt = 0 ∧ ¬ (0 ≤ x1.toInt ∧ x1.toInt ≤ 23 ∧ tB ((FF G) h0 4) x1.toInt.toNat)) by have kk := kI_0; exact Or.inr ⟨by decide, fun q9 => (by omega)⟩) dX8_has_27
  · skip
    have ic1 := tn_nlt rfl kI_0 c1
    refine lv_iload_n hx hb dX8_has_4 rfl (lv_at hl 1 rfl) ?_
    refine lv_bipush (v := 24) hx hb dX8_has_5 (by decide) ?_
    refine lv_icmp_ge (tgt := 26) hx hb dX8_has_7 (by decide) (fun c2 => ?_) (fun c2 => ?_)
    · skip
      have ic2 := tn_le kI_24 rfl c2
      refine lv_iconst (v := 0) hx hb dX8_has_26 (by decide) ?_
      exact tc_pret E hr hlk eH eL (t_nz (by decide) (by decide)).1 (show ((0 : Int32).toInt = 1 ∧ (0 ≤ x1.toInt ∧ x1.toInt ≤ 23 ∧ tB ((FF G) h0 4) x1.toInt.toNat)) ∨ ((0 : Int32).toInt = 0 ∧ ¬ (0 ≤ x1.toInt ∧ x1.toInt ≤ 23 ∧ tB ((FF G) h0 4) x1.toInt.toNat)) by have kk := kI_0; exact Or.inr ⟨by decide, fun q9 => (by omega)⟩) dX8_has_27
    · skip
      have ic2 := tn_nle kI_24 rfl c2
      refine lv_aload_n hx hb dX8_has_10 rfl (lv_at hl 0 rfl) ?_
      refine tc_getF E hG t0 fim_X8_40 rfl dX8_has_11 (fun z3 lz3 uz3 wz3 => ?_)
      replace wz3 : z3 = (FF G) h0 4 := wz3
      have cz3 : z3.toInt = ((FF G) h0 4).toInt := by rw [wz3]
      refine lv_iload_n hx hb dX8_has_14 rfl (lv_at hl 1 rfl) ?_
      refine lv_iushr hx hb dX8_has_15 rfl ?_
      refine lv_topi (fun z4 ez4 => ?_)
      refine lv_iconst (v := 1) hx hb dX8_has_16 (by decide) ?_
      refine lv_iand hx hb dX8_has_17 ?_
      refine lv_topi (fun z5 ez5 => ?_)
      have bz5 := tB_get (y := x1) (by omega) (by omega) ez4 ez5
      rw [wz3] at bz5
      refine lv_iconst (v := 1) hx hb dX8_has_18 (by decide) ?_
      refine lv_icmp_ne (tgt := 26) hx hb dX8_has_19 (by decide) (fun c6 => ?_) (fun c6 => ?_)
      · skip
        have ic6 := tn_ne rfl kI_1 c6
        refine lv_iconst (v := 0) hx hb dX8_has_26 (by decide) ?_
        exact tc_pret E hr hlk eH eL (t_nz (by decide) (by decide)).1 (show ((0 : Int32).toInt = 1 ∧ (0 ≤ x1.toInt ∧ x1.toInt ≤ 23 ∧ tB ((FF G) h0 4) x1.toInt.toNat)) ∨ ((0 : Int32).toInt = 0 ∧ ¬ (0 ≤ x1.toInt ∧ x1.toInt ≤ 23 ∧ tB ((FF G) h0 4) x1.toInt.toNat)) by have kk := kI_0; exact Or.inr ⟨by decide, fun q9 => (by rcases bz5 with ⟨_, b9⟩ | ⟨_, b9⟩; (exfalso; omega); exact absurd q9.2.2 b9)⟩) dX8_has_27
      · skip
        have ic6 := tn_eq rfl kI_1 c6
        refine lv_iconst (v := 1) hx hb dX8_has_22 (by decide) ?_
        refine lv_goto (tgt := 27) hx hb dX8_has_23 (by decide) ?_
        exact tc_pret E hr hlk eH eL (t_nz (by decide) (by decide)).1 (show ((1 : Int32).toInt = 1 ∧ (0 ≤ x1.toInt ∧ x1.toInt ≤ 23 ∧ tB ((FF G) h0 4) x1.toInt.toNat)) ∨ ((1 : Int32).toInt = 0 ∧ ¬ (0 ≤ x1.toInt ∧ x1.toInt ≤ 23 ∧ tB ((FF G) h0 4) x1.toInt.toNat)) by have kk := kI_1; exact Or.inl ⟨by decide, by omega, by omega, (by rcases bz5 with ⟨_, b9⟩ | ⟨_, b9⟩; exact b9; exfalso; omega)⟩) dX8_has_27

set_option maxHeartbeats 4000000 in
set_option maxRecDepth 100000 in
theorem x_X8_copyFrom (l : Launch) (G : tG) (F : mF) (τ : Nat → Nat) (h0 : Nat) (h1 : Nat) (t0 : τ h0 = 2) (t1 : τ h1 = 30) (hap : h1 + 100 ≤ h0 ∨ h0 + 100 ≤ h1) (h24 : (F h1 8).toInt ≤ 24) : Met l yX8_copyFrom (.code yX8_copyFrom cX8_copyFrom 3 none :: tWS) (tRm 2 61) (va_Pc [.ref h0, .ref h1] (tPre (gF G F) τ)) (tQG G τ (fun F9 => cpN F F9 h0 h1)) 0 0 (tA τ) := by
  refine tc_met (by decide) (Nat.le_of_ble_eq_true rfl) ?_
  intro p e s m below meth c E hSt hr hlk hG ls hl
  have hl : lv_has ls 3 [(0, .ref h0), (1, .ref h1)] := hl
  have hx := E.1
  have hb := E.2.1
  obtain ⟨H, eH⟩ : ∃ H, H = s.heap := ⟨_, rfl⟩
  obtain ⟨locs, eL⟩ : ∃ x : List Loc, x = [] := ⟨_, rfl⟩
  have hG : tGH (gF G F) τ s H locs := by rw [eH, eL]; exact hG
  suffices hW : W p l e (tRm 2 61) s m ([.ref h0, .ref h1] : List Value).toArray below meth c H locs 0 0 (MQ below (tQG G τ (fun F9 => cpN F F9 h0 h1)) ([.ref h0, .ref h1] : List Value).toArray s 0 0 (tA τ)) (F0 m 0 ls []) by subst eH; subst eL; exact hW
  clear eH eL
  have J2 : ∀ (n2 : Nat) (Fc : mF) (H : Heap) (locs : List Loc) (ls : Array Slot) (v2 : Int32), tGH (gF G Fc) τ s H locs → lv_has ls 3 [(0, .ref h0), (1, .ref h1), (2, .int v2)] → 0 ≤ v2.toInt → v2.toInt ≤ 24 → ((∀ c k : Nat, ¬ (h0 < c ∧ c < h0 + 100) → Fc c k = F c k) ∧ (∀ i : Nat, i < 24 → Fc (h0 + 1 + (3 + 4 * i)) 0 = F (h0 + 1 + (3 + 4 * i)) 0) ∧ ∀ i : Nat, (i : Int) < v2.toInt → tB (F h1 4) i → cpMm F Fc (h0 + 1 + (3 + 4 * i)) (h1 + 1 + (3 + 4 * i))) → (24 - v2.toInt).toNat < n2 → W p l e (tRm 2 61) s m ([.ref h0, .ref h1] : List Value).toArray below meth c H locs 0 0 (MQ below (tQG G τ (fun F9 => cpN F F9 h0 h1)) ([.ref h0, .ref h1] : List Value).toArray s 0 0 (tA τ)) (F0 m 2 ls []) := by
    intro n2
    induction n2 with
    | zero => intro Fc H locs ls v2 hG hl b2 c2 hex2 hn2; exact absurd hn2 (Nat.not_lt_zero _)
    | succ n2 ih2 =>
      intro Fc H locs ls v2 hG hl b2 c2 hex2 hn2
      have E := E.f1 (F' := Fc)
      have hSt := hSt.f1 (F' := Fc)
      obtain ⟨hfr, hn0, hcp⟩ := hex2
      refine lv_iload_n hx hb dX8_copyFrom_2 rfl (lv_at hl 2 rfl) ?_
      refine lv_aload_n hx hb dX8_copyFrom_3 rfl (lv_at hl 1 rfl) ?_
      refine tc_getF E hG t1 fim_X8_70 rfl dX8_copyFrom_4 (fun z1 lz1 uz1 wz1 => ?_)
      replace wz1 : z1 = Fc h1 8 := wz1
      replace wz1 : z1 = F h1 8 := by rw [wz1, hfr _ _ (by omega)]
      have cz1 : z1.toInt = (F h1 8).toInt := by rw [wz1]
      refine lv_icmp_ge (tgt := 39) hx hb dX8_copyFrom_7 (by decide) (fun c2 => ?_) (fun c2 => ?_)
      · skip
        have ic2 := tn_le rfl rfl c2
        refine lv_aload_n hx hb dX8_copyFrom_39 rfl (lv_at hl 1 rfl) ?_
        refine tc_getr E hG t1 frm_X8_17 dX8_copyFrom_40 (fun oa3 hoa3 => ?_)
        refine lv_iconst (v := 0) hx hb dX8_copyFrom_43 (by decide) ?_
        refine lv_aload_n hx hb dX8_copyFrom_44 rfl (lv_at hl 0 rfl) ?_
        refine tc_getr E hG t0 fr_X8_17 dX8_copyFrom_45 (fun oa4 hoa4 => ?_)
        refine lv_iconst (v := 0) hx hb dX8_copyFrom_48 (by decide) ?_
        refine lv_bipush (v := 8) hx hb dX8_copyFrom_49 (by decide) ?_
        have k7 := kI_8
        have k8 := kI_0
        have k9 := kI_0
        refine tc_copyi (rest := []) E hl.1 hG ml_X8_176 kn_copy1 kn_copy2 kn_copy3 hoa3 hoa4 ta_36 ta_36 (by omega) (by omega) (by omega) (by omega) (by omega) ⟨Nat.le_of_ble_eq_true rfl, by decide +kernel⟩ dX8_copyFrom_51 (fun H locs hG oq5 => ?_)
        refine lv_aload_n hx hb dX8_copyFrom_54 rfl (lv_at hl 1 rfl) ?_
        refine tc_getr E hG t1 frm_X8_21 dX8_copyFrom_55 (fun oa10 hoa10 => ?_)
        refine lv_iconst (v := 0) hx hb dX8_copyFrom_58 (by decide) ?_
        refine lv_aload_n hx hb dX8_copyFrom_59 rfl (lv_at hl 0 rfl) ?_
        refine tc_getr E hG t0 fr_X8_21 dX8_copyFrom_60 (fun oa11 hoa11 => ?_)
        refine lv_iconst (v := 0) hx hb dX8_copyFrom_63 (by decide) ?_
        refine lv_bipush (v := 8) hx hb dX8_copyFrom_64 (by decide) ?_
        have k14 := kI_8
        have k15 := kI_0
        have k16 := kI_0
        refine tc_copyi (rest := []) E hl.1 hG ml_X8_176 kn_copy1 kn_copy2 kn_copy3 hoa10 hoa11 ta_13 ta_13 (by omega) (by omega) (by omega) (by omega) (by omega) ⟨Nat.le_of_ble_eq_true rfl, by decide +kernel⟩ dX8_copyFrom_66 (fun H locs hG oq12 => ?_)
        refine lv_aload_n hx hb dX8_copyFrom_69 rfl (lv_at hl 0 rfl) ?_
        refine lv_aload_n hx hb dX8_copyFrom_70 rfl (lv_at hl 1 rfl) ?_
        refine tc_getF E hG t1 fim_X8_145 rfl dX8_copyFrom_71 (fun z17 lz17 uz17 wz17 => ?_)
        replace wz17 : z17 = Fc h1 3 := wz17
        replace wz17 : z17 = F h1 3 := by rw [wz17, hfr _ _ (by omega)]
        have cz17 : z17.toInt = (F h1 3).toInt := by rw [wz17]
        refine tc_putF (lo := 0) (hi := 8) E hG t0 (by decide) rfl rfl fq_X8_145 (by omega) (by omega) rfl rfl dX8_copyFrom_74 (fun H locs hG => ?_)
        obtain ⟨F18, eF18⟩ : ∃ Z : mF, Z = up2 Fc h0 3 z17 := ⟨_, rfl⟩
        replace hG : tGH (gF G F18) τ s H locs := by rw [eF18]; exact hG
        have E := E.f1 (F' := F18)
        have hSt := hSt.f1 (F' := F18)
        refine lv_aload_n hx hb dX8_copyFrom_77 rfl (lv_at hl 0 rfl) ?_
        refine lv_aload_n hx hb dX8_copyFrom_78 rfl (lv_at hl 1 rfl) ?_
        refine tc_getF E hG t1 fim_X8_40 rfl dX8_copyFrom_79 (fun z19 lz19 uz19 wz19 => ?_)
        replace wz19 : z19 = F18 h1 4 := wz19
        replace wz19 : z19 = F h1 4 := by rw [wz19, eF18, up2_ne (by omega), hfr _ _ (by omega)]
        have cz19 : z19.toInt = (F h1 4).toInt := by rw [wz19]
        refine tc_putF (lo := -2147483648) (hi := 2147483647) E hG t0 (by decide) rfl rfl fq_X8_40 (t_any1 _) (t_any2 _) rfl rfl dX8_copyFrom_82 (fun H locs hG => ?_)
        obtain ⟨F20, eF20⟩ : ∃ Z : mF, Z = up2 F18 h0 4 z19 := ⟨_, rfl⟩
        replace hG : tGH (gF G F20) τ s H locs := by rw [eF20]; exact hG
        have E := E.f1 (F' := F20)
        have hSt := hSt.f1 (F' := F20)
        refine lv_aload_n hx hb dX8_copyFrom_85 rfl (lv_at hl 0 rfl) ?_
        refine lv_aload_n hx hb dX8_copyFrom_86 rfl (lv_at hl 1 rfl) ?_
        refine tc_geti E hG t1 fim_X8_43 dX8_copyFrom_87 (fun z21 _ _ => ?_)
        refine tc_puti E hG t0 fp_X8_43 (t_any1 _) (t_any2 _) dX8_copyFrom_90 (fun H locs hG => ?_)
        refine lv_aload_n hx hb dX8_copyFrom_93 rfl (lv_at hl 0 rfl) ?_
        refine lv_aload_n hx hb dX8_copyFrom_94 rfl (lv_at hl 1 rfl) ?_
        refine tc_geti E hG t1 fim_X8_122 dX8_copyFrom_95 (fun z22 _ _ => ?_)
        refine tc_puti E hG t0 fp_X8_122 (t_any1 _) (t_any2 _) dX8_copyFrom_98 (fun H locs hG => ?_)
        refine lv_aload_n hx hb dX8_copyFrom_101 rfl (lv_at hl 0 rfl) ?_
        refine lv_aload_n hx hb dX8_copyFrom_102 rfl (lv_at hl 1 rfl) ?_
        refine tc_geti E hG t1 fim_X8_125 dX8_copyFrom_103 (fun z23 _ _ => ?_)
        refine tc_puti E hG t0 fp_X8_125 (t_any1 _) (t_any2 _) dX8_copyFrom_106 (fun H locs hG => ?_)
        refine lv_aload_n hx hb dX8_copyFrom_109 rfl (lv_at hl 0 rfl) ?_
        refine lv_aload_n hx hb dX8_copyFrom_110 rfl (lv_at hl 1 rfl) ?_
        refine tc_getF E hG t1 fim_X8_70 rfl dX8_copyFrom_111 (fun z24 lz24 uz24 wz24 => ?_)
        replace wz24 : z24 = F20 h1 8 := wz24
        replace wz24 : z24 = F h1 8 := by rw [wz24, eF20, up2_ne (by omega), eF18, up2_ne (by omega), hfr _ _ (by omega)]
        have cz24 : z24.toInt = (F h1 8).toInt := by rw [wz24]
        refine tc_putF (lo := 0) (hi := 24) E hG t0 (by decide) rfl rfl fq_X8_70 (by omega) (by omega) rfl rfl dX8_copyFrom_114 (fun H locs hG => ?_)
        obtain ⟨F25, eF25⟩ : ∃ Z : mF, Z = up2 F20 h0 8 z24 := ⟨_, rfl⟩
        replace hG : tGH (gF G F25) τ s H locs := by rw [eF25]; exact hG
        have E := E.f1 (F' := F25)
        have hSt := hSt.f1 (F' := F25)
        refine lv_aload_n hx hb dX8_copyFrom_117 rfl (lv_at hl 0 rfl) ?_
        refine lv_aload_n hx hb dX8_copyFrom_118 rfl (lv_at hl 1 rfl) ?_
        refine tc_getF E hG t1 fim_X8_24 rfl dX8_copyFrom_119 (fun z26 lz26 uz26 wz26 => ?_)
        replace wz26 : z26 = F25 h1 9 := wz26
        replace wz26 : z26 = F h1 9 := by rw [wz26, eF25, up2_ne (by omega), eF20, up2_ne (by omega), eF18, up2_ne (by omega), hfr _ _ (by omega)]
        have cz26 : z26.toInt = (F h1 9).toInt := by rw [wz26]
        refine tc_putF (lo := -2147483648) (hi := 2147483647) E hG t0 (by decide) rfl rfl fq_X8_24 (t_any1 _) (t_any2 _) rfl rfl dX8_copyFrom_122 (fun H locs hG => ?_)
        obtain ⟨F27, eF27⟩ : ∃ Z : mF, Z = up2 F25 h0 9 z26 := ⟨_, rfl⟩
        replace hG : tGH (gF G F27) τ s H locs := by rw [eF27]; exact hG
        have E := E.f1 (F' := F27)
        have hSt := hSt.f1 (F' := F27)
        refine lv_aload_n hx hb dX8_copyFrom_125 rfl (lv_at hl 0 rfl) ?_
        refine lv_aload_n hx hb dX8_copyFrom_126 rfl (lv_at hl 1 rfl) ?_
        refine tc_geti E hG t1 fim_X8_28 dX8_copyFrom_127 (fun z28 _ _ => ?_)
        refine tc_puti E hG t0 fp_X8_28 (t_any1 _) (t_any2 _) dX8_copyFrom_130 (fun H locs hG => ?_)
        refine lv_aload_n hx hb dX8_copyFrom_133 rfl (lv_at hl 0 rfl) ?_
        refine lv_aload_n hx hb dX8_copyFrom_134 rfl (lv_at hl 1 rfl) ?_
        refine tc_geti E hG t1 fim_X8_31 dX8_copyFrom_135 (fun z29 _ _ => ?_)
        refine tc_puti E hG t0 fp_X8_31 (t_any1 _) (t_any2 _) dX8_copyFrom_138 (fun H locs hG => ?_)
        refine lv_aload_n hx hb dX8_copyFrom_141 rfl (lv_at hl 0 rfl) ?_
        refine lv_aload_n hx hb dX8_copyFrom_142 rfl (lv_at hl 1 rfl) ?_
        refine tc_geti E hG t1 fim_X8_34 dX8_copyFrom_143 (fun z30 _ _ => ?_)
        refine tc_puti E hG t0 fp_X8_34 (t_any1 _) (t_any2 _) dX8_copyFrom_146 (fun H locs hG => ?_)
        exact tc_vretF E hr hlk hG ⟨⟨(by rw [eF27, up2_ne (by omega), eF25, up2_ne (by omega), eF20, up2_ne (by omega), eF18, up2_at, wz17]), (by rw [eF27, up2_ne (by omega), eF25, up2_ne (by omega), eF20, up2_at, wz19]), (by rw [eF27, up2_ne (by omega), eF25, up2_at, wz24]), (by rw [eF27, up2_at, wz26])⟩, (fun c k hc => by rw [eF27, up2_ne (by omega), eF25, up2_ne (by omega), eF20, up2_ne (by omega), eF18, up2_ne (by omega)]; exact hfr c k (by omega)), (fun i hi => by rw [eF27, up2_ne (by omega), eF25, up2_ne (by omega), eF20, up2_ne (by omega), eF18, up2_ne (by omega)]; exact hn0 i hi), (fun i hi hb => (hcp i (by omega) hb).kept (fun c k hc => by rw [eF27, up2_ne (by omega), eF25, up2_ne (by omega), eF20, up2_ne (by omega), eF18, up2_ne (by omega)]))⟩ dX8_copyFrom_149
      · skip
        have ic2 := tn_nle rfl rfl c2
        refine lv_aload_n hx hb dX8_copyFrom_10 rfl (lv_at hl 1 rfl) ?_
        refine lv_iload_n hx hb dX8_copyFrom_11 rfl (lv_at hl 2 rfl) ?_
        refine tc_callp (tc_runV (As := [.int v2]) (rest := []) E hSt hG (x_X8_has_m l (gF G Fc) τ h1 v2 t1) t1 rv_30 kv_X8_has ml_X8_55 ⟨rfl, rfl, Nat.le_of_ble_eq_true rfl, Nat.le_of_ble_eq_true rfl⟩ rfl hl.1 rfl (Nat.le_of_ble_eq_true rfl) ⟨Nat.zero_le _, Nat.zero_le _⟩ dX8_copyFrom_12) (fun r31 pr31 => ?_)
        have pr31 : (r31.toInt = 1 ∧ (0 ≤ v2.toInt ∧ v2.toInt ≤ 23 ∧ tB (Fc h1 4) v2.toInt.toNat)) ∨ (r31.toInt = 0 ∧ ¬ (0 ≤ v2.toInt ∧ v2.toInt ≤ 23 ∧ tB (Fc h1 4) v2.toInt.toNat)) := pr31
        rw [show Fc h1 4 = F h1 4 from (by rw [hfr _ _ (by omega)])] at pr31
        refine lv_if_eq (tgt := 33) hx hb dX8_copyFrom_15 (by decide) (fun c32 => ?_) (fun c32 => ?_)
        · skip
          have ic32 := tn_eq rfl kI_0 c32
          obtain ⟨z33, ez33⟩ : ∃ y : Int32, y = v2 + (1) := ⟨_, rfl⟩
          refine lv_iinc (v := z33) (lv' := [(2, .int z33), (0, .ref h0), (1, .ref h1)]) hx hb dX8_copyFrom_33 hl (k := 2) rfl (by rw [ez33]; rfl) (by decide) rfl (fun ls hl => ?_)
          have tz33 := tn_add ez33 rfl kI_1 (by omega) (by omega)
          refine lv_goto (tgt := 2) hx hb dX8_copyFrom_36 (by decide) ?_
          exact ih2 Fc H locs ls z33 hG (lv_sub hl [1, 2, 0] rfl) (by omega) (by omega) (by refine ⟨hfr, hn0, fun i hi hb => ?_⟩; by_cases q9 : (i : Int) = v2.toInt; (exfalso; (have e9 : i = v2.toInt.toNat := (by omega)); rw [e9] at hb; grind); exact hcp i (by omega) hb) (by omega)
        · skip
          have ic32 := tn_ne rfl kI_0 c32
          refine lv_aload_n hx hb dX8_copyFrom_18 rfl (lv_at hl 0 rfl) ?_
          refine tc_getrF (d := 1) E hG t0 fr_X8_11 rfl dX8_copyFrom_19 (fun ha34 => ?_)
          refine lv_iload_n hx hb dX8_copyFrom_22 rfl (lv_at hl 2 rfl) ?_
          refine tc_aald3F (d := 3 + 4 * v2.toNatClampNeg) E hG ha34 ta_10 rfl (t_in (by omega) (by omega)) dX8_copyFrom_23 (fun ha35 => ?_)
          have nv2 : v2.toNatClampNeg = v2.toInt.toNat := rfl
          refine lv_aload_n hx hb dX8_copyFrom_24 rfl (lv_at hl 1 rfl) ?_
          refine tc_getrF (d := 1) E hG t1 frm_X8_11 rfl dX8_copyFrom_25 (fun ha36 => ?_)
          refine lv_iload_n hx hb dX8_copyFrom_28 rfl (lv_at hl 2 rfl) ?_
          refine tc_aald3F (d := 3 + 4 * v2.toNatClampNeg) E hG ha36 ta_40 rfl (t_in (by omega) (by omega)) dX8_copyFrom_29 (fun ha37 => ?_)
          have nv2 : v2.toNatClampNeg = v2.toInt.toNat := rfl
          refine tc_callvF hG (tc_runV (As := [.ref ((h1 + 1) + (3 + 4 * v2.toNatClampNeg))]) (rest := []) E hSt hG (x_X0_copyFrom l G Fc τ ((h0 + 1) + (3 + 4 * v2.toNatClampNeg)) ((h1 + 1) + (3 + 4 * v2.toNatClampNeg)) ha35 ha37 (by omega)) ha35 rv_3 kv_X0_copyFrom ml_X8_172 ⟨rfl, rfl, Nat.le_of_ble_eq_true rfl, Nat.le_of_ble_eq_true rfl⟩ rfl hl.1 rfl (Nat.le_of_ble_eq_true rfl) ⟨Nat.zero_le _, Nat.zero_le _⟩ dX8_copyFrom_30) (fun F39 H locs pr38 hG => ?_)
          have E := E.f1 (F' := F39)
          have hSt := hSt.f1 (F' := F39)
          replace pr38 : cpMm Fc F39 ((h0 + 1) + (3 + 4 * v2.toNatClampNeg)) ((h1 + 1) + (3 + 4 * v2.toNatClampNeg)) ∧ F39 ((h0 + 1) + (3 + 4 * v2.toNatClampNeg)) 0 = Fc ((h0 + 1) + (3 + 4 * v2.toNatClampNeg)) 0 ∧ ∀ c k : Nat, ¬ (c = ((h0 + 1) + (3 + 4 * v2.toNatClampNeg)) ∨ c = ((h0 + 1) + (3 + 4 * v2.toNatClampNeg)) + 1 ∨ c = ((h0 + 1) + (3 + 4 * v2.toNatClampNeg)) + 2) → F39 c k = Fc c k := pr38
          obtain ⟨z40, ez40⟩ : ∃ y : Int32, y = v2 + (1) := ⟨_, rfl⟩
          refine lv_iinc (v := z40) (lv' := [(2, .int z40), (0, .ref h0), (1, .ref h1)]) hx hb dX8_copyFrom_33 hl (k := 2) rfl (by rw [ez40]; rfl) (by decide) rfl (fun ls hl => ?_)
          have tz40 := tn_add ez40 rfl kI_1 (by omega) (by omega)
          refine lv_goto (tgt := 2) hx hb dX8_copyFrom_36 (by decide) ?_
          exact ih2 F39 H locs ls z40 hG (lv_sub hl [1, 2, 0] rfl) (by omega) (by omega) (by obtain ⟨g1, g2, g3⟩ := pr38; have nv : v2.toNatClampNeg = v2.toInt.toNat := rfl; refine ⟨fun c k hc => (by rw [g3 c k (by omega)]; exact hfr c k hc), fun i hi => ?_, fun i hi hb => ?_⟩; (by_cases q9 : i = v2.toNatClampNeg; (rw [q9]; exact g2.trans (hn0 _ (by omega))); (rw [g3 _ _ (by omega)]; exact hn0 i hi)); (by_cases q9 : i = v2.toNatClampNeg; (rw [q9]; exact g1.from (fun c k hc => hfr c k (by omega))); exact (hcp i (by omega) hb).kept (fun c k hc => g3 c k (by omega)))) (by omega)
  refine lv_iconst (v := 0) hx hb dX8_copyFrom_0 (by decide) ?_
  refine lv_istore_n (lv' := [(2, .int 0), (0, .ref h0), (1, .ref h1)]) hx hb dX8_copyFrom_1 rfl hl (by decide) rfl (fun ls hl => ?_)
  exact J2 ((24 - (0 : Int32).toInt).toNat + 1) F H locs ls (0 : Int32) hG (lv_sub hl [1, 2, 0] rfl) (by decide) (by decide) (by exact ⟨fun c k _ => rfl, fun i _ => rfl, fun i hi => (by have k0 := kI_0; omega)⟩) (Nat.lt_succ_self _)

set_option maxHeartbeats 4000000 in
set_option maxRecDepth 100000 in
theorem x_X8_copyFrom_m (l : Launch) (G : tG) (F : mF) (τ : Nat → Nat) (h0 : Nat) (h1 : Nat) (t0 : τ h0 = 30) (t1 : τ h1 = 2) (hap : h1 + 100 ≤ h0 ∨ h0 + 100 ≤ h1) (h24 : (F h1 8).toInt ≤ 24) : Met l yX8_copyFrom (.code yX8_copyFrom cX8_copyFrom 3 none :: tWS) (tRm 2 61) (va_Pc [.ref h0, .ref h1] (tPre (gF G F) τ)) (tQG G τ (fun F9 => cpN F F9 h0 h1)) 0 0 (tA τ) := by
  refine tc_met (by decide) (Nat.le_of_ble_eq_true rfl) ?_
  intro p e s m below meth c E hSt hr hlk hG ls hl
  have hl : lv_has ls 3 [(0, .ref h0), (1, .ref h1)] := hl
  have hx := E.1
  have hb := E.2.1
  obtain ⟨H, eH⟩ : ∃ H, H = s.heap := ⟨_, rfl⟩
  obtain ⟨locs, eL⟩ : ∃ x : List Loc, x = [] := ⟨_, rfl⟩
  have hG : tGH (gF G F) τ s H locs := by rw [eH, eL]; exact hG
  suffices hW : W p l e (tRm 2 61) s m ([.ref h0, .ref h1] : List Value).toArray below meth c H locs 0 0 (MQ below (tQG G τ (fun F9 => cpN F F9 h0 h1)) ([.ref h0, .ref h1] : List Value).toArray s 0 0 (tA τ)) (F0 m 0 ls []) by subst eH; subst eL; exact hW
  clear eH eL
  have J2 : ∀ (n2 : Nat) (Fc : mF) (H : Heap) (locs : List Loc) (ls : Array Slot) (v2 : Int32), tGH (gF G Fc) τ s H locs → lv_has ls 3 [(0, .ref h0), (1, .ref h1), (2, .int v2)] → 0 ≤ v2.toInt → v2.toInt ≤ 24 → ((∀ c k : Nat, ¬ (h0 < c ∧ c < h0 + 100) → Fc c k = F c k) ∧ (∀ i : Nat, i < 24 → Fc (h0 + 1 + (3 + 4 * i)) 0 = F (h0 + 1 + (3 + 4 * i)) 0) ∧ ∀ i : Nat, (i : Int) < v2.toInt → tB (F h1 4) i → cpMm F Fc (h0 + 1 + (3 + 4 * i)) (h1 + 1 + (3 + 4 * i))) → (24 - v2.toInt).toNat < n2 → W p l e (tRm 2 61) s m ([.ref h0, .ref h1] : List Value).toArray below meth c H locs 0 0 (MQ below (tQG G τ (fun F9 => cpN F F9 h0 h1)) ([.ref h0, .ref h1] : List Value).toArray s 0 0 (tA τ)) (F0 m 2 ls []) := by
    intro n2
    induction n2 with
    | zero => intro Fc H locs ls v2 hG hl b2 c2 hex2 hn2; exact absurd hn2 (Nat.not_lt_zero _)
    | succ n2 ih2 =>
      intro Fc H locs ls v2 hG hl b2 c2 hex2 hn2
      have E := E.f1 (F' := Fc)
      have hSt := hSt.f1 (F' := Fc)
      obtain ⟨hfr, hn0, hcp⟩ := hex2
      refine lv_iload_n hx hb dX8_copyFrom_2 rfl (lv_at hl 2 rfl) ?_
      refine lv_aload_n hx hb dX8_copyFrom_3 rfl (lv_at hl 1 rfl) ?_
      refine tc_getF E hG t1 fi_X8_70 rfl dX8_copyFrom_4 (fun z1 lz1 uz1 wz1 => ?_)
      replace wz1 : z1 = Fc h1 8 := wz1
      replace wz1 : z1 = F h1 8 := by rw [wz1, hfr _ _ (by omega)]
      have cz1 : z1.toInt = (F h1 8).toInt := by rw [wz1]
      refine lv_icmp_ge (tgt := 39) hx hb dX8_copyFrom_7 (by decide) (fun c2 => ?_) (fun c2 => ?_)
      · skip
        have ic2 := tn_le rfl rfl c2
        refine lv_aload_n hx hb dX8_copyFrom_39 rfl (lv_at hl 1 rfl) ?_
        refine tc_getr E hG t1 fr_X8_17 dX8_copyFrom_40 (fun oa3 hoa3 => ?_)
        refine lv_iconst (v := 0) hx hb dX8_copyFrom_43 (by decide) ?_
        refine lv_aload_n hx hb dX8_copyFrom_44 rfl (lv_at hl 0 rfl) ?_
        refine tc_getr E hG t0 frm_X8_17 dX8_copyFrom_45 (fun oa4 hoa4 => ?_)
        refine lv_iconst (v := 0) hx hb dX8_copyFrom_48 (by decide) ?_
        refine lv_bipush (v := 8) hx hb dX8_copyFrom_49 (by decide) ?_
        have k7 := kI_8
        have k8 := kI_0
        have k9 := kI_0
        refine tc_copyi (rest := []) E hl.1 hG ml_X8_176 kn_copy1 kn_copy2 kn_copy3 hoa3 hoa4 ta_36 ta_36 (by omega) (by omega) (by omega) (by omega) (by omega) ⟨Nat.le_of_ble_eq_true rfl, by decide +kernel⟩ dX8_copyFrom_51 (fun H locs hG oq5 => ?_)
        refine lv_aload_n hx hb dX8_copyFrom_54 rfl (lv_at hl 1 rfl) ?_
        refine tc_getr E hG t1 fr_X8_21 dX8_copyFrom_55 (fun oa10 hoa10 => ?_)
        refine lv_iconst (v := 0) hx hb dX8_copyFrom_58 (by decide) ?_
        refine lv_aload_n hx hb dX8_copyFrom_59 rfl (lv_at hl 0 rfl) ?_
        refine tc_getr E hG t0 frm_X8_21 dX8_copyFrom_60 (fun oa11 hoa11 => ?_)
        refine lv_iconst (v := 0) hx hb dX8_copyFrom_63 (by decide) ?_
        refine lv_bipush (v := 8) hx hb dX8_copyFrom_64 (by decide) ?_
        have k14 := kI_8
        have k15 := kI_0
        have k16 := kI_0
        refine tc_copyi (rest := []) E hl.1 hG ml_X8_176 kn_copy1 kn_copy2 kn_copy3 hoa10 hoa11 ta_13 ta_13 (by omega) (by omega) (by omega) (by omega) (by omega) ⟨Nat.le_of_ble_eq_true rfl, by decide +kernel⟩ dX8_copyFrom_66 (fun H locs hG oq12 => ?_)
        refine lv_aload_n hx hb dX8_copyFrom_69 rfl (lv_at hl 0 rfl) ?_
        refine lv_aload_n hx hb dX8_copyFrom_70 rfl (lv_at hl 1 rfl) ?_
        refine tc_getF E hG t1 fi_X8_145 rfl dX8_copyFrom_71 (fun z17 lz17 uz17 wz17 => ?_)
        replace wz17 : z17 = Fc h1 3 := wz17
        replace wz17 : z17 = F h1 3 := by rw [wz17, hfr _ _ (by omega)]
        have cz17 : z17.toInt = (F h1 3).toInt := by rw [wz17]
        refine tc_putF (lo := 0) (hi := 8) E hG t0 (by decide) rfl rfl fq_X8_145 (by omega) (by omega) rfl rfl dX8_copyFrom_74 (fun H locs hG => ?_)
        obtain ⟨F18, eF18⟩ : ∃ Z : mF, Z = up2 Fc h0 3 z17 := ⟨_, rfl⟩
        replace hG : tGH (gF G F18) τ s H locs := by rw [eF18]; exact hG
        have E := E.f1 (F' := F18)
        have hSt := hSt.f1 (F' := F18)
        refine lv_aload_n hx hb dX8_copyFrom_77 rfl (lv_at hl 0 rfl) ?_
        refine lv_aload_n hx hb dX8_copyFrom_78 rfl (lv_at hl 1 rfl) ?_
        refine tc_getF E hG t1 fi_X8_40 rfl dX8_copyFrom_79 (fun z19 lz19 uz19 wz19 => ?_)
        replace wz19 : z19 = F18 h1 4 := wz19
        replace wz19 : z19 = F h1 4 := by rw [wz19, eF18, up2_ne (by omega), hfr _ _ (by omega)]
        have cz19 : z19.toInt = (F h1 4).toInt := by rw [wz19]
        refine tc_putF (lo := -2147483648) (hi := 2147483647) E hG t0 (by decide) rfl rfl fq_X8_40 (t_any1 _) (t_any2 _) rfl rfl dX8_copyFrom_82 (fun H locs hG => ?_)
        obtain ⟨F20, eF20⟩ : ∃ Z : mF, Z = up2 F18 h0 4 z19 := ⟨_, rfl⟩
        replace hG : tGH (gF G F20) τ s H locs := by rw [eF20]; exact hG
        have E := E.f1 (F' := F20)
        have hSt := hSt.f1 (F' := F20)
        refine lv_aload_n hx hb dX8_copyFrom_85 rfl (lv_at hl 0 rfl) ?_
        refine lv_aload_n hx hb dX8_copyFrom_86 rfl (lv_at hl 1 rfl) ?_
        refine tc_geti E hG t1 fi_X8_43 dX8_copyFrom_87 (fun z21 _ _ => ?_)
        refine tc_puti E hG t0 fpm_X8_43 (t_any1 _) (t_any2 _) dX8_copyFrom_90 (fun H locs hG => ?_)
        refine lv_aload_n hx hb dX8_copyFrom_93 rfl (lv_at hl 0 rfl) ?_
        refine lv_aload_n hx hb dX8_copyFrom_94 rfl (lv_at hl 1 rfl) ?_
        refine tc_geti E hG t1 fi_X8_122 dX8_copyFrom_95 (fun z22 _ _ => ?_)
        refine tc_puti E hG t0 fpm_X8_122 (t_any1 _) (t_any2 _) dX8_copyFrom_98 (fun H locs hG => ?_)
        refine lv_aload_n hx hb dX8_copyFrom_101 rfl (lv_at hl 0 rfl) ?_
        refine lv_aload_n hx hb dX8_copyFrom_102 rfl (lv_at hl 1 rfl) ?_
        refine tc_geti E hG t1 fi_X8_125 dX8_copyFrom_103 (fun z23 _ _ => ?_)
        refine tc_puti E hG t0 fpm_X8_125 (t_any1 _) (t_any2 _) dX8_copyFrom_106 (fun H locs hG => ?_)
        refine lv_aload_n hx hb dX8_copyFrom_109 rfl (lv_at hl 0 rfl) ?_
        refine lv_aload_n hx hb dX8_copyFrom_110 rfl (lv_at hl 1 rfl) ?_
        refine tc_getF E hG t1 fi_X8_70 rfl dX8_copyFrom_111 (fun z24 lz24 uz24 wz24 => ?_)
        replace wz24 : z24 = F20 h1 8 := wz24
        replace wz24 : z24 = F h1 8 := by rw [wz24, eF20, up2_ne (by omega), eF18, up2_ne (by omega), hfr _ _ (by omega)]
        have cz24 : z24.toInt = (F h1 8).toInt := by rw [wz24]
        refine tc_putF (lo := 0) (hi := 24) E hG t0 (by decide) rfl rfl fq_X8_70 (by omega) (by omega) rfl rfl dX8_copyFrom_114 (fun H locs hG => ?_)
        obtain ⟨F25, eF25⟩ : ∃ Z : mF, Z = up2 F20 h0 8 z24 := ⟨_, rfl⟩
        replace hG : tGH (gF G F25) τ s H locs := by rw [eF25]; exact hG
        have E := E.f1 (F' := F25)
        have hSt := hSt.f1 (F' := F25)
        refine lv_aload_n hx hb dX8_copyFrom_117 rfl (lv_at hl 0 rfl) ?_
        refine lv_aload_n hx hb dX8_copyFrom_118 rfl (lv_at hl 1 rfl) ?_
        refine tc_getF E hG t1 fi_X8_24 rfl dX8_copyFrom_119 (fun z26 lz26 uz26 wz26 => ?_)
        replace wz26 : z26 = F25 h1 9 := wz26
        replace wz26 : z26 = F h1 9 := by rw [wz26, eF25, up2_ne (by omega), eF20, up2_ne (by omega), eF18, up2_ne (by omega), hfr _ _ (by omega)]
        have cz26 : z26.toInt = (F h1 9).toInt := by rw [wz26]
        refine tc_putF (lo := -2147483648) (hi := 2147483647) E hG t0 (by decide) rfl rfl fq_X8_24 (t_any1 _) (t_any2 _) rfl rfl dX8_copyFrom_122 (fun H locs hG => ?_)
        obtain ⟨F27, eF27⟩ : ∃ Z : mF, Z = up2 F25 h0 9 z26 := ⟨_, rfl⟩
        replace hG : tGH (gF G F27) τ s H locs := by rw [eF27]; exact hG
        have E := E.f1 (F' := F27)
        have hSt := hSt.f1 (F' := F27)
        refine lv_aload_n hx hb dX8_copyFrom_125 rfl (lv_at hl 0 rfl) ?_
        refine lv_aload_n hx hb dX8_copyFrom_126 rfl (lv_at hl 1 rfl) ?_
        refine tc_geti E hG t1 fi_X8_28 dX8_copyFrom_127 (fun z28 _ _ => ?_)
        refine tc_puti E hG t0 fpm_X8_28 (t_any1 _) (t_any2 _) dX8_copyFrom_130 (fun H locs hG => ?_)
        refine lv_aload_n hx hb dX8_copyFrom_133 rfl (lv_at hl 0 rfl) ?_
        refine lv_aload_n hx hb dX8_copyFrom_134 rfl (lv_at hl 1 rfl) ?_
        refine tc_geti E hG t1 fi_X8_31 dX8_copyFrom_135 (fun z29 _ _ => ?_)
        refine tc_puti E hG t0 fpm_X8_31 (t_any1 _) (t_any2 _) dX8_copyFrom_138 (fun H locs hG => ?_)
        refine lv_aload_n hx hb dX8_copyFrom_141 rfl (lv_at hl 0 rfl) ?_
        refine lv_aload_n hx hb dX8_copyFrom_142 rfl (lv_at hl 1 rfl) ?_
        refine tc_geti E hG t1 fi_X8_34 dX8_copyFrom_143 (fun z30 _ _ => ?_)
        refine tc_puti E hG t0 fpm_X8_34 (t_any1 _) (t_any2 _) dX8_copyFrom_146 (fun H locs hG => ?_)
        exact tc_vretF E hr hlk hG ⟨⟨(by rw [eF27, up2_ne (by omega), eF25, up2_ne (by omega), eF20, up2_ne (by omega), eF18, up2_at, wz17]), (by rw [eF27, up2_ne (by omega), eF25, up2_ne (by omega), eF20, up2_at, wz19]), (by rw [eF27, up2_ne (by omega), eF25, up2_at, wz24]), (by rw [eF27, up2_at, wz26])⟩, (fun c k hc => by rw [eF27, up2_ne (by omega), eF25, up2_ne (by omega), eF20, up2_ne (by omega), eF18, up2_ne (by omega)]; exact hfr c k (by omega)), (fun i hi => by rw [eF27, up2_ne (by omega), eF25, up2_ne (by omega), eF20, up2_ne (by omega), eF18, up2_ne (by omega)]; exact hn0 i hi), (fun i hi hb => (hcp i (by omega) hb).kept (fun c k hc => by rw [eF27, up2_ne (by omega), eF25, up2_ne (by omega), eF20, up2_ne (by omega), eF18, up2_ne (by omega)]))⟩ dX8_copyFrom_149
      · skip
        have ic2 := tn_nle rfl rfl c2
        refine lv_aload_n hx hb dX8_copyFrom_10 rfl (lv_at hl 1 rfl) ?_
        refine lv_iload_n hx hb dX8_copyFrom_11 rfl (lv_at hl 2 rfl) ?_
        refine tc_callp (tc_runV (As := [.int v2]) (rest := []) E hSt hG (x_X8_has l (gF G Fc) τ h1 v2 t1) t1 rv_2 kv_X8_has ml_X8_55 ⟨rfl, rfl, Nat.le_of_ble_eq_true rfl, Nat.le_of_ble_eq_true rfl⟩ rfl hl.1 rfl (Nat.le_of_ble_eq_true rfl) ⟨Nat.zero_le _, Nat.zero_le _⟩ dX8_copyFrom_12) (fun r31 pr31 => ?_)
        have pr31 : (r31.toInt = 1 ∧ (0 ≤ v2.toInt ∧ v2.toInt ≤ 23 ∧ tB (Fc h1 4) v2.toInt.toNat)) ∨ (r31.toInt = 0 ∧ ¬ (0 ≤ v2.toInt ∧ v2.toInt ≤ 23 ∧ tB (Fc h1 4) v2.toInt.toNat)) := pr31
        rw [show Fc h1 4 = F h1 4 from (by rw [hfr _ _ (by omega)])] at pr31
        refine lv_if_eq (tgt := 33) hx hb dX8_copyFrom_15 (by decide) (fun c32 => ?_) (fun c32 => ?_)
        · skip
          have ic32 := tn_eq rfl kI_0 c32
          obtain ⟨z33, ez33⟩ : ∃ y : Int32, y = v2 + (1) := ⟨_, rfl⟩
          refine lv_iinc (v := z33) (lv' := [(2, .int z33), (0, .ref h0), (1, .ref h1)]) hx hb dX8_copyFrom_33 hl (k := 2) rfl (by rw [ez33]; rfl) (by decide) rfl (fun ls hl => ?_)
          have tz33 := tn_add ez33 rfl kI_1 (by omega) (by omega)
          refine lv_goto (tgt := 2) hx hb dX8_copyFrom_36 (by decide) ?_
          exact ih2 Fc H locs ls z33 hG (lv_sub hl [1, 2, 0] rfl) (by omega) (by omega) (by refine ⟨hfr, hn0, fun i hi hb => ?_⟩; by_cases q9 : (i : Int) = v2.toInt; (exfalso; (have e9 : i = v2.toInt.toNat := (by omega)); rw [e9] at hb; grind); exact hcp i (by omega) hb) (by omega)
        · skip
          have ic32 := tn_ne rfl kI_0 c32
          refine lv_aload_n hx hb dX8_copyFrom_18 rfl (lv_at hl 0 rfl) ?_
          refine tc_getrF (d := 1) E hG t0 frm_X8_11 rfl dX8_copyFrom_19 (fun ha34 => ?_)
          refine lv_iload_n hx hb dX8_copyFrom_22 rfl (lv_at hl 2 rfl) ?_
          refine tc_aald3F (d := 3 + 4 * v2.toNatClampNeg) E hG ha34 ta_40 rfl (t_in (by omega) (by omega)) dX8_copyFrom_23 (fun ha35 => ?_)
          have nv2 : v2.toNatClampNeg = v2.toInt.toNat := rfl
          refine lv_aload_n hx hb dX8_copyFrom_24 rfl (lv_at hl 1 rfl) ?_
          refine tc_getrF (d := 1) E hG t1 fr_X8_11 rfl dX8_copyFrom_25 (fun ha36 => ?_)
          refine lv_iload_n hx hb dX8_copyFrom_28 rfl (lv_at hl 2 rfl) ?_
          refine tc_aald3F (d := 3 + 4 * v2.toNatClampNeg) E hG ha36 ta_10 rfl (t_in (by omega) (by omega)) dX8_copyFrom_29 (fun ha37 => ?_)
          have nv2 : v2.toNatClampNeg = v2.toInt.toNat := rfl
          refine tc_callvF hG (tc_runV (As := [.ref ((h1 + 1) + (3 + 4 * v2.toNatClampNeg))]) (rest := []) E hSt hG (x_X0_copyFrom_m l G Fc τ ((h0 + 1) + (3 + 4 * v2.toNatClampNeg)) ((h1 + 1) + (3 + 4 * v2.toNatClampNeg)) ha35 ha37 (by omega)) ha35 rv_37 kv_X0_copyFrom ml_X8_172 ⟨rfl, rfl, Nat.le_of_ble_eq_true rfl, Nat.le_of_ble_eq_true rfl⟩ rfl hl.1 rfl (Nat.le_of_ble_eq_true rfl) ⟨Nat.zero_le _, Nat.zero_le _⟩ dX8_copyFrom_30) (fun F39 H locs pr38 hG => ?_)
          have E := E.f1 (F' := F39)
          have hSt := hSt.f1 (F' := F39)
          replace pr38 : cpMm Fc F39 ((h0 + 1) + (3 + 4 * v2.toNatClampNeg)) ((h1 + 1) + (3 + 4 * v2.toNatClampNeg)) ∧ F39 ((h0 + 1) + (3 + 4 * v2.toNatClampNeg)) 0 = Fc ((h0 + 1) + (3 + 4 * v2.toNatClampNeg)) 0 ∧ ∀ c k : Nat, ¬ (c = ((h0 + 1) + (3 + 4 * v2.toNatClampNeg)) ∨ c = ((h0 + 1) + (3 + 4 * v2.toNatClampNeg)) + 1 ∨ c = ((h0 + 1) + (3 + 4 * v2.toNatClampNeg)) + 2) → F39 c k = Fc c k := pr38
          obtain ⟨z40, ez40⟩ : ∃ y : Int32, y = v2 + (1) := ⟨_, rfl⟩
          refine lv_iinc (v := z40) (lv' := [(2, .int z40), (0, .ref h0), (1, .ref h1)]) hx hb dX8_copyFrom_33 hl (k := 2) rfl (by rw [ez40]; rfl) (by decide) rfl (fun ls hl => ?_)
          have tz40 := tn_add ez40 rfl kI_1 (by omega) (by omega)
          refine lv_goto (tgt := 2) hx hb dX8_copyFrom_36 (by decide) ?_
          exact ih2 F39 H locs ls z40 hG (lv_sub hl [1, 2, 0] rfl) (by omega) (by omega) (by obtain ⟨g1, g2, g3⟩ := pr38; have nv : v2.toNatClampNeg = v2.toInt.toNat := rfl; refine ⟨fun c k hc => (by rw [g3 c k (by omega)]; exact hfr c k hc), fun i hi => ?_, fun i hi hb => ?_⟩; (by_cases q9 : i = v2.toNatClampNeg; (rw [q9]; exact g2.trans (hn0 _ (by omega))); (rw [g3 _ _ (by omega)]; exact hn0 i hi)); (by_cases q9 : i = v2.toNatClampNeg; (rw [q9]; exact g1.from (fun c k hc => hfr c k (by omega))); exact (hcp i (by omega) hb).kept (fun c k hc => g3 c k (by omega)))) (by omega)
  refine lv_iconst (v := 0) hx hb dX8_copyFrom_0 (by decide) ?_
  refine lv_istore_n (lv' := [(2, .int 0), (0, .ref h0), (1, .ref h1)]) hx hb dX8_copyFrom_1 rfl hl (by decide) rfl (fun ls hl => ?_)
  exact J2 ((24 - (0 : Int32).toInt).toNat + 1) F H locs ls (0 : Int32) hG (lv_sub hl [1, 2, 0] rfl) (by decide) (by decide) (by exact ⟨fun c k _ => rfl, fun i _ => rfl, fun i hi => (by have k0 := kI_0; omega)⟩) (Nat.lt_succ_self _)
