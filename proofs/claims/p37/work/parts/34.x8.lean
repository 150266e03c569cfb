def cpB (F F' : mF) (b o : Nat) : Prop := F' b 4 = F o 4 ∧ F' b 5 = F o 5 ∧ F' b 7 = F o 7 ∧ F' b 8 = F o 8 ∧ F' b 9 = F o 9 ∧ F' b 10 = F o 10 ∧ (∀ j : Nat, j < 4 → F' (b + 1) j = F (o + 1) j) ∧ ∀ j : Nat, (j : Int) < (F o 10).toInt → F' (b + 2) j = F (o + 2) j

set_option maxHeartbeats 4000000 in
set_option maxRecDepth 100000 in
theorem x_X0_copyFrom (l : Launch) (G : tG) (F : mF) (τ : Nat → Nat) (h0 : Nat) (h1 : Nat) (t0 : τ h0 = 3) (t1 : τ h1 = 37) (hap : h1 + 3 ≤ h0 ∨ h0 + 3 ≤ h1) : Met l yX0_copyFrom (.code yX0_copyFrom cX0_copyFrom 2 none :: tWS) (tRm 1 40) (va_Pc [.ref h0, .ref h1] (tPre (gF G F) τ)) (tQG G τ (fun F9 => cpB F F9 h0 h1 ∧ F9 h0 0 = F h0 0 ∧ ∀ c k : Nat, ¬ (c = h0 ∨ c = h0 + 1 ∨ c = h0 + 2) → F9 c k = F c k)) 0 0 (tA τ) := by
  refine tc_met (by decide) (Nat.le_of_ble_eq_true rfl) ?_
  intro p e s m below meth c E hSt hr hlk hG ls hl
  have hl : lv_has ls 2 [(0, .ref h0), (1, .ref h1)] := hl
  have hx := E.1
  have hb := E.2.1
  obtain ⟨H, eH⟩ : ∃ H, H = s.heap := ⟨_, rfl⟩
  obtain ⟨locs, eL⟩ : ∃ x : List Loc, x = [] := ⟨_, rfl⟩
  have hG : tGH (gF G F) τ s H locs := by rw [eH, eL]; exact hG
  suffices hW : W p l e (tRm 1 40) s m ([.ref h0, .ref h1] : List Value).toArray below meth c H locs 0 0 (MQ below (tQG G τ (fun F9 => cpB F F9 h0 h1 ∧ F9 h0 0 = F h0 0 ∧ ∀ c k : Nat, ¬ (c = h0 ∨ c = h0 + 1 ∨ c = h0 + 2) → F9 c k = F c k)) ([.ref h0, .ref h1] : List Value).toArray s 0 0 (tA τ)) (F0 m 0 ls []) by subst eH; subst eL; exact hW
  clear eH eL
  refine lv_aload_n hx hb dX0_copyFrom_0 rfl (lv_at hl 0 rfl) ?_
  refine lv_aload_n hx hb dX0_copyFrom_1 rfl (lv_at hl 1 rfl) ?_
  refine tc_getF E hG t1 fij_X0_29 rfl dX0_copyFrom_2 (fun z1 lz1 uz1 wz1 => ?_)
  replace wz1 : z1 = F h1 4 := wz1
  have cz1 : z1.toInt = (F h1 4).toInt := by rw [wz1]
  refine tc_putF (lo := -2147483648) (hi := 2147483647) E hG t0 (by decide) rfl rfl fq_X0_29 (t_any1 _) (t_any2 _) rfl rfl dX0_copyFrom_5 (fun H locs hG => ?_)
  obtain ⟨F2, eF2⟩ : ∃ Z : mF, Z = up2 F h0 4 z1 := ⟨_, rfl⟩
  replace hG : tGH (gF G F2) τ s H locs := by rw [eF2]; exact hG
  have E := E.f1 (F' := F2)
  have hSt := hSt.f1 (F' := F2)
  refine lv_aload_n hx hb dX0_copyFrom_8 rfl (lv_at hl 0 rfl) ?_
  refine lv_aload_n hx hb dX0_copyFrom_9 rfl (lv_at hl 1 rfl) ?_
  refine tc_getF E hG t1 fij_X0_32 rfl dX0_copyFrom_10 (fun z3 lz3 uz3 wz3 => ?_)
  replace wz3 : z3 = F2 h1 5 := wz3
  replace wz3 : z3 = F h1 5 := by rw [wz3, eF2, up2_ne (by omega)]
  have cz3 : z3.toInt = (F h1 5).toInt := by rw [wz3]
  refine tc_putF (lo := -2147483648) (hi := 2147483647) E hG t0 (by decide) rfl rfl fq_X0_32 (t_any1 _) (t_any2 _) rfl rfl dX0_copyFrom_13 (fun H locs hG => ?_)
  obtain ⟨F4, eF4⟩ : ∃ Z : mF, Z = up2 F2 h0 5 z3 := ⟨_, rfl⟩
  replace hG : tGH (gF G F4) τ s H locs := by rw [eF4]; exact hG
  have E := E.f1 (F' := F4)
  have hSt := hSt.f1 (F' := F4)
  refine lv_aload_n hx hb dX0_copyFrom_16 rfl (lv_at hl 0 rfl) ?_
  refine lv_aload_n hx hb dX0_copyFrom_17 rfl (lv_at hl 1 rfl) ?_
  refine tc_geti E hG t1 fij_X0_35 dX0_copyFrom_18 (fun z5 _ _ => ?_)
  refine tc_puti E hG t0 fp_X0_35 (t_any1 _) (t_any2 _) dX0_copyFrom_21 (fun H locs hG => ?_)
  refine lv_aload_n hx hb dX0_copyFrom_24 rfl (lv_at hl 0 rfl) ?_
  refine lv_aload_n hx hb dX0_copyFrom_25 rfl (lv_at hl 1 rfl) ?_
  refine tc_getF E hG t1 fij_X0_38 rfl dX0_copyFrom_26 (fun z6 lz6 uz6 wz6 => ?_)
  replace wz6 : z6 = F4 h1 7 := wz6
  replace wz6 : z6 = F h1 7 := by rw [wz6, eF4, up2_ne (by omega), eF2, up2_ne (by omega)]
  have cz6 : z6.toInt = (F h1 7).toInt := by rw [wz6]
  refine tc_putF (lo := -2147483648) (hi := 2147483647) E hG t0 (by decide) rfl rfl fq_X0_38 (t_any1 _) (t_any2 _) rfl rfl dX0_copyFrom_29 (fun H locs hG => ?_)
  obtain ⟨F7, eF7⟩ : ∃ Z : mF, Z = up2 F4 h0 7 z6 := ⟨_, rfl⟩
  replace hG : tGH (gF G F7) τ s H locs := by rw [eF7]; exact hG
  have E := E.f1 (F' := F7)
  have hSt := hSt.f1 (F' := F7)
  refine lv_aload_n hx hb dX0_copyFrom_32 rfl (lv_at hl 1 rfl) ?_
  refine tc_getrF (d := 1) E hG t1 frj_X0_9 rfl dX0_copyFrom_33 (fun ha8 => ?_)
  refine lv_iconst (v := 0) hx hb dX0_copyFrom_36 (by decide) ?_
  refine lv_aload_n hx hb dX0_copyFrom_37 rfl (lv_at hl 0 rfl) ?_
  refine tc_getrF (d := 1) E hG t0 fr_X0_9 rfl dX0_copyFrom_38 (fun ha9 => ?_)
  refine lv_iconst (v := 0) hx hb dX0_copyFrom_41 (by decide) ?_
  refine lv_iconst (v := 4) hx hb dX0_copyFrom_42 (by decide) ?_
  have k10 := kI_4
  have k11 := kI_0
  have k12 := kI_0
  refine tc_copyF (rest := []) E hl.1 hG ml_X0_76 kn_copy1 kn_copy2 kn_copy3 ha8 ha9 ta_38 ta_11 (fun _ => rfl) (fun _ => rfl) (by omega) (by omega) (by omega) (by omega) (by omega) ⟨Nat.le_of_ble_eq_true rfl, Nat.le_of_ble_eq_true rfl⟩ dX0_copyFrom_43 (fun H locs hG => ?_)
  obtain ⟨F13, eF13⟩ : ∃ Z : mF, Z = upR F7 (h0 + 1) 0 4 (fun j => F7 (h1 + 1) (0 + (j - 0))) := ⟨_, rfl⟩
  replace hG : tGH (gF G F13) τ s H locs := by rw [eF13]; exact hG
  have E := E.f1 (F' := F13)
  have hSt := hSt.f1 (F' := F13)
  refine lv_aload_n hx hb dX0_copyFrom_46 rfl (lv_at hl 1 rfl) ?_
  refine tc_getrF (d := 2) E hG t1 frj_X0_15 rfl dX0_copyFrom_47 (fun ha14 => ?_)
  refine lv_iconst (v := 0) hx hb dX0_copyFrom_50 (by decide) ?_
  refine lv_aload_n hx hb dX0_copyFrom_51 rfl (lv_at hl 0 rfl) ?_
  refine tc_getrF (d := 2) E hG t0 fr_X0_15 rfl dX0_copyFrom_52 (fun ha15 => ?_)
  refine lv_iconst (v := 0) hx hb dX0_copyFrom_55 (by decide) ?_
  refine lv_aload_n hx hb dX0_copyFrom_56 rfl (lv_at hl 1 rfl) ?_
  refine tc_getF E hG t1 fij_X0_47 rfl dX0_copyFrom_57 (fun z16 lz16 uz16 wz16 => ?_)
  replace wz16 : z16 = F13 h1 10 := wz16
  replace wz16 : z16 = F h1 10 := by rw [wz16, eF13, upR_ne (by omega), eF7, up2_ne (by omega), eF4, up2_ne (by omega), eF2, up2_ne (by omega)]
  have cz16 : z16.toInt = (F h1 10).toInt := by rw [wz16]
  have k17 := kI_0
  have k18 := kI_0
  refine tc_copyF (rest := []) E hl.1 hG ml_X0_76 kn_copy1 kn_copy2 kn_copy3 ha14 ha15 ta_39 ta_12 (fun _ => rfl) (fun _ => rfl) (by omega) (by omega) (by omega) (by omega) (by omega) ⟨Nat.le_of_ble_eq_true rfl, Nat.le_of_ble_eq_true rfl⟩ dX0_copyFrom_60 (fun H locs hG => ?_)
  have nn19 : z16.toNatClampNeg = z16.toInt.toNat := rfl
  obtain ⟨F20, eF20⟩ : ∃ Z : mF, Z = upR F13 (h0 + 2) 0 z16.toNatClampNeg (fun j => F13 (h1 + 2) (0 + (j - 0))) := ⟨_, rfl⟩
  replace hG : tGH (gF G F20) τ s H locs := by rw [eF20]; exact hG
  have E := E.f1 (F' := F20)
  have hSt := hSt.f1 (F' := F20)
  refine lv_aload_n hx hb dX0_copyFrom_63 rfl (lv_at hl 0 rfl) ?_
  refine lv_aload_n hx hb dX0_copyFrom_64 rfl (lv_at hl 1 rfl) ?_
  refine tc_getF E hG t1 fij_X0_41 rfl dX0_copyFrom_65 (fun z21 lz21 uz21 wz21 => ?_)
  replace wz21 : z21 = F20 h1 8 := wz21
  replace wz21 : z21 = F h1 8 := by rw [wz21, eF20, upR_ne (by omega), eF13, upR_ne (by omega), eF7, up2_ne (by omega), eF4, up2_ne (by omega), eF2, up2_ne (by omega)]
  have cz21 : z21.toInt = (F h1 8).toInt := by rw [wz21]
  refine tc_putF (lo := -2147483648) (hi := 2147483647) E hG t0 (by decide) rfl rfl fq_X0_41 (t_any1 _) (t_any2 _) rfl rfl dX0_copyFrom_68 (fun H locs hG => ?_)
  obtain ⟨F22, eF22⟩ : ∃ Z : mF, Z = up2 F20 h0 8 z21 := ⟨_, rfl⟩
  replace hG : tGH (gF G F22) τ s H locs := by rw [eF22]; exact hG
  have E := E.f1 (F' := F22)
  have hSt := hSt.f1 (F' := F22)
  refine lv_aload_n hx hb dX0_copyFrom_71 rfl (lv_at hl 0 rfl) ?_
  refine lv_aload_n hx hb dX0_copyFrom_72 rfl (lv_at hl 1 rfl) ?_
  refine tc_getF E hG t1 fij_X0_44 rfl dX0_copyFrom_73 (fun z23 lz23 uz23 wz23 => ?_)
  replace wz23 : z23 = F22 h1 9 := wz23
  replace wz23 : z23 = F h1 9 := by rw [wz23, eF22, up2_ne (by omega), eF20, upR_ne (by omega), eF13, upR_ne (by omega), eF7, up2_ne (by omega), eF4, up2_ne (by omega), eF2, up2_ne (by omega)]
  have cz23 : z23.toInt = (F h1 9).toInt := by rw [wz23]
  refine tc_putF (lo := -2147483648) (hi := 2147483647) E hG t0 (by decide) rfl rfl fq_X0_44 (t_any1 _) (t_any2 _) rfl rfl dX0_copyFrom_76 (fun H locs hG => ?_)
  obtain ⟨F24, eF24⟩ : ∃ Z : mF, Z = up2 F22 h0 9 z23 := ⟨_, rfl⟩
  replace hG : tGH (gF G F24) τ s H locs := by rw [eF24]; exact hG
  have E := E.f1 (F' := F24)
  have hSt := hSt.f1 (F' := F24)
  refine lv_aload_n hx hb dX0_copyFrom_79 rfl (lv_at hl 0 rfl) ?_
  refine lv_aload_n hx hb dX0_copyFrom_80 rfl (lv_at hl 1 rfl) ?_
  refine tc_getF E hG t1 fij_X0_47 rfl dX0_copyFrom_81 (fun z25 lz25 uz25 wz25 => ?_)
  replace wz25 : z25 = F24 h1 10 := wz25
  replace wz25 : z25 = F h1 10 := by rw [wz25, eF24, up2_ne (by omega), eF22, up2_ne (by omega), eF20, upR_ne (by omega), eF13, upR_ne (by omega), eF7, up2_ne (by omega), eF4, up2_ne (by omega), eF2, up2_ne (by omega)]
  have cz25 : z25.toInt = (F h1 10).toInt := by rw [wz25]
  refine tc_putF (lo := 0) (hi := 8) E hG t0 (by decide) rfl rfl fq_X0_47 (by omega) (by omega) rfl rfl dX0_copyFrom_84 (fun H locs hG => ?_)
  obtain ⟨F26, eF26⟩ : ∃ Z : mF, Z = up2 F24 h0 10 z25 := ⟨_, rfl⟩
  replace hG : tGH (gF G F26) τ s H locs := by rw [eF26]; exact hG
  have E := E.f1 (F' := F26)
  have hSt := hSt.f1 (F' := F26)
  refine lv_aload_n hx hb dX0_copyFrom_87 rfl (lv_at hl 0 rfl) ?_
  refine lv_aload_n hx hb dX0_copyFrom_88 rfl (lv_at hl 1 rfl) ?_
  refine tc_geti E hG t1 fij_X0_50 dX0_copyFrom_89 (fun z27 _ _ => ?_)
  refine tc_puti E hG t0 fp_X0_50 (t_any1 _) (t_any2 _) dX0_copyFrom_92 (fun H locs hG => ?_)
  refine lv_aload_n hx hb dX0_copyFrom_95 rfl (lv_at hl 0 rfl) ?_
  refine lv_aload_n hx hb dX0_copyFrom_96 rfl (lv_at hl 1 rfl) ?_
  refine tc_geti E hG t1 fij_X0_70 dX0_copyFrom_97 (fun z28 _ _ => ?_)
  refine tc_puti E hG t0 fp_X0_70 (t_any1 _) (t_any2 _) dX0_copyFrom_100 (fun H locs hG => ?_)
  refine lv_aload_n hx hb dX0_copyFrom_103 rfl (lv_at hl 0 rfl) ?_
  refine lv_aload_n hx hb dX0_copyFrom_104 rfl (lv_at hl 1 rfl) ?_
  refine tc_geti E hG t1 fij_X0_73 dX0_copyFrom_105 (fun z29 _ _ => ?_)
  refine tc_puti E hG t0 fp_X0_73 (t_any1 _) (t_any2 _) dX0_copyFrom_108 (fun H locs hG => ?_)
  refine lv_aload_n hx hb dX0_copyFrom_111 rfl (lv_at hl 0 rfl) ?_
  refine tc_getrF (d := 3) E hG t0 fr_X0_21 rfl dX0_copyFrom_112 (fun ha30 => ?_)
  refine lv_aload_n hx hb dX0_copyFrom_115 rfl (lv_at hl 1 rfl) ?_
  refine tc_getrF (d := 3) E hG t1 frj_X0_21 rfl dX0_copyFrom_116 (fun ha31 => ?_)
  refine tc_callv hG (tc_runV (As := [.ref (h1 + 3)]) (rest := []) E hSt hG (c_X2_copyFrom l (gF G F26) τ (h0 + 3) (h1 + 3) ha30 ha31) ha30 rv_4 kv_X2_copyFrom ml_X0_82 ⟨rfl, rfl, Nat.le_of_ble_eq_true rfl, Nat.le_of_ble_eq_true rfl⟩ rfl hl.1 rfl (Nat.le_of_ble_eq_true rfl) ⟨Nat.zero_le _, Nat.zero_le _⟩ dX0_copyFrom_119) (fun H locs hG => ?_)
  exact tc_vretF E hr hlk hG ⟨⟨(by rw [eF26, up2_ne (by omega), eF24, up2_ne (by omega), eF22, up2_ne (by omega), eF20, upR_ne (by omega), eF13, upR_ne (by omega), eF7, up2_ne (by omega), eF4, up2_ne (by omega), eF2, up2_at, wz1]), (by rw [eF26, up2_ne (by omega), eF24, up2_ne (by omega), eF22, up2_ne (by omega), eF20, upR_ne (by omega), eF13, upR_ne (by omega), eF7, up2_ne (by omega), eF4, up2_at, wz3]), (by rw [eF26, up2_ne (by omega), eF24, up2_ne (by omega), eF22, up2_ne (by omega), eF20, upR_ne (by omega), eF13, upR_ne (by omega), eF7, up2_at, wz6]), (by rw [eF26, up2_ne (by omega), eF24, up2_ne (by omega), eF22, up2_at, wz21]), (by rw [eF26, up2_ne (by omega), eF24, up2_at, wz23]), (by rw [eF26, up2_at, wz25]), (fun j hj => by rw [eF26, up2_ne (by omega), eF24, up2_ne (by omega), eF22, up2_ne (by omega), eF20, upR_ne (by omega), eF13, upR_in ⟨rfl, by omega, by omega⟩]; show _ = _; rw [eF7, up2_ne (by omega), eF4, up2_ne (by omega), eF2, up2_ne (by omega), show 0 + (j - 0) = j by omega]), (fun j hj => by rw [eF26, up2_ne (by omega), eF24, up2_ne (by omega), eF22, up2_ne (by omega), eF20, upR_in ⟨rfl, by omega, by omega⟩]; show _ = _; rw [eF13, upR_ne (by omega), eF7, up2_ne (by omega), eF4, up2_ne (by omega), eF2, up2_ne (by omega), show 0 + (j - 0) = j by omega])⟩, (by rw [eF26, up2_ne (by omega), eF24, up2_ne (by omega), eF22, up2_ne (by omega), eF20, upR_ne (by omega), eF13, upR_ne (by omega), eF7, up2_ne (by omega), eF4, up2_ne (by omega), eF2, up2_ne (by omega)]), (fun c k hc => by rw [eF26, up2_ne (by omega), eF24, up2_ne (by omega), eF22, up2_ne (by omega), eF20, upR_ne (by omega), eF13, upR_ne (by omega), eF7, up2_ne (by omega), eF4, up2_ne (by omega), eF2, up2_ne (by omega)])⟩ dX0_copyFrom_122

set_option maxHeartbeats 4000000 in
set_option maxRecDepth 100000 in
theorem x_X0_copyFrom_m (l : Launch) (G : tG) (F : mF) (τ : Nat → Nat) (h0 : Nat) (h1 : Nat) (t0 : τ h0 = 37) (t1 : τ h1 = 3) (hap : h1 + 3 ≤ h0 ∨ h0 + 3 ≤ h1) : Met l yX0_copyFrom (.code yX0_copyFrom cX0_copyFrom 2 none :: tWS) (tRm 1 40) (va_Pc [.ref h0, .ref h1] (tPre (gF G F) τ)) (tQG G τ (fun F9 => cpB F F9 h0 h1 ∧ F9 h0 0 = F h0 0 ∧ ∀ c k : Nat, ¬ (c = h0 ∨ c = h0 + 1 ∨ c = h0 + 2) → F9 c k = F c k)) 0 0 (tA τ) := by
  refine tc_met (by decide) (Nat.le_of_ble_eq_true rfl) ?_
  intro p e s m below meth c E hSt hr hlk hG ls hl
  have hl : lv_has ls 2 [(0, .ref h0), (1, .ref h1)] := hl
  have hx := E.1
  have hb := E.2.1
  obtain ⟨H, eH⟩ : ∃ H, H = s.heap := ⟨_, rfl⟩
  obtain ⟨locs, eL⟩ : ∃ x : List Loc, x = [] := ⟨_, rfl⟩
  have hG : tGH (gF G F) τ s H locs := by rw [eH, eL]; exact hG
  suffices hW : W p l e (tRm 1 40) s m ([.ref h0, .ref h1] : List Value).toArray below meth c H locs 0 0 (MQ below (tQG G τ (fun F9 => cpB F F9 h0 h1 ∧ F9 h0 0 = F h0 0 ∧ ∀ c k : Nat, ¬ (c = h0 ∨ c = h0 + 1 ∨ c = h0 + 2) → F9 c k = F c k)) ([.ref h0, .ref h1] : List Value).toArray s 0 0 (tA τ)) (F0 m 0 ls []) by subst eH; subst eL; exact hW
  clear eH eL
  refine lv_aload_n hx hb dX0_copyFrom_0 rfl (lv_at hl 0 rfl) ?_
  refine lv_aload_n hx hb dX0_copyFrom_1 rfl (lv_at hl 1 rfl) ?_
  refine tc_getF E hG t1 fi_X0_29 rfl dX0_copyFrom_2 (fun z1 lz1 uz1 wz1 => ?_)
  replace wz1 : z1 = F h1 4 := wz1
  have cz1 : z1.toInt = (F h1 4).toInt := by rw [wz1]
  refine tc_putF (lo := -2147483648) (hi := 2147483647) E hG t0 (by decide) rfl rfl fq_X0_29 (t_any1 _) (t_any2 _) rfl rfl dX0_copyFrom_5 (fun H locs hG => ?_)
  obtain ⟨F2, eF2⟩ : ∃ Z : mF, Z = up2 F h0 4 z1 := ⟨_, rfl⟩
  replace hG : tGH (gF G F2) τ s H locs := by rw [eF2]; exact hG
  have E := E.f1 (F' := F2)
  have hSt := hSt.f1 (F' := F2)
  refine lv_aload_n hx hb dX0_copyFrom_8 rfl (lv_at hl 0 rfl) ?_
  refine lv_aload_n hx hb dX0_copyFrom_9 rfl (lv_at hl 1 rfl) ?_
  refine tc_getF E hG t1 fi_X0_32 rfl dX0_copyFrom_10 (fun z3 lz3 uz3 wz3 => ?_)
  replace wz3 : z3 = F2 h1 5 := wz3
  replace wz3 : z3 = F h1 5 := by rw [wz3, eF2, up2_ne (by omega)]
  have cz3 : z3.toInt = (F h1 5).toInt := by rw [wz3]
  refine tc_putF (lo := -2147483648) (hi := 2147483647) E hG t0 (by decide) rfl rfl fq_X0_32 (t_any1 _) (t_any2 _) rfl rfl dX0_copyFrom_13 (fun H locs hG => ?_)
  obtain ⟨F4, eF4⟩ : ∃ Z : mF, Z = up2 F2 h0 5 z3 := ⟨_, rfl⟩
  replace hG : tGH (gF G F4) τ s H locs := by rw [eF4]; exact hG
  have E := E.f1 (F' := F4)
  have hSt := hSt.f1 (F' := F4)
  refine lv_aload_n hx hb dX0_copyFrom_16 rfl (lv_at hl 0 rfl) ?_
  refine lv_aload_n hx hb dX0_copyFrom_17 rfl (lv_at hl 1 rfl) ?_
  refine tc_geti E hG t1 fi_X0_35 dX0_copyFrom_18 (fun z5 _ _ => ?_)
  refine tc_puti E hG t0 fpj_X0_35 (t_any1 _) (t_any2 _) dX0_copyFrom_21 (fun H locs hG => ?_)
  refine lv_aload_n hx hb dX0_copyFrom_24 rfl (lv_at hl 0 rfl) ?_
  refine lv_aload_n hx hb dX0_copyFrom_25 rfl (lv_at hl 1 rfl) ?_
  refine tc_getF E hG t1 fi_X0_38 rfl dX0_copyFrom_26 (fun z6 lz6 uz6 wz6 => ?_)
  replace wz6 : z6 = F4 h1 7 := wz6
  replace wz6 : z6 = F h1 7 := by rw [wz6, eF4, up2_ne (by omega), eF2, up2_ne (by omega)]
  have cz6 : z6.toInt = (F h1 7).toInt := by rw [wz6]
  refine tc_putF (lo := -2147483648) (hi := 2147483647) E hG t0 (by decide) rfl rfl fq_X0_38 (t_any1 _) (t_any2 _) rfl rfl dX0_copyFrom_29 (fun H locs hG => ?_)
  obtain ⟨F7, eF7⟩ : ∃ Z : mF, Z = up2 F4 h0 7 z6 := ⟨_, rfl⟩
  replace hG : tGH (gF G F7) τ s H locs := by rw [eF7]; exact hG
  have E := E.f1 (F' := F7)
  have hSt := hSt.f1 (F' := F7)
  refine lv_aload_n hx hb dX0_copyFrom_32 rfl (lv_at hl 1 rfl) ?_
  refine tc_getrF (d := 1) E hG t1 fr_X0_9 rfl dX0_copyFrom_33 (fun ha8 => ?_)
  refine lv_iconst (v := 0) hx hb dX0_copyFrom_36 (by decide) ?_
  refine lv_aload_n hx hb dX0_copyFrom_37 rfl (lv_at hl 0 rfl) ?_
  refine tc_getrF (d := 1) E hG t0 frj_X0_9 rfl dX0_copyFrom_38 (fun ha9 => ?_)
  refine lv_iconst (v := 0) hx hb dX0_copyFrom_41 (by decide) ?_
  refine lv_iconst (v := 4) hx hb dX0_copyFrom_42 (by decide) ?_
  have k10 := kI_4
  have k11 := kI_0
  have k12 := kI_0
  refine tc_copyF (rest := []) E hl.1 hG ml_X0_76 kn_copy1 kn_copy2 kn_copy3 ha8 ha9 ta_11 ta_38 (fun _ => rfl) (fun _ => rfl) (by omega) (by omega) (by omega) (by omega) (by omega) ⟨Nat.le_of_ble_eq_true rfl, Nat.le_of_ble_eq_true rfl⟩ dX0_copyFrom_43 (fun H locs hG => ?_)
  obtain ⟨F13, eF13⟩ : ∃ Z : mF, Z = upR F7 (h0 + 1) 0 4 (fun j => F7 (h1 + 1) (0 + (j - 0))) := ⟨_, rfl⟩
  replace hG : tGH (gF G F13) τ s H locs := by rw [eF13]; exact hG
  have E := E.f1 (F' := F13)
  have hSt := hSt.f1 (F' := F13)
  refine lv_aload_n hx hb dX0_copyFrom_46 rfl (lv_at hl 1 rfl) ?_
  refine tc_getrF (d := 2) E hG t1 fr_X0_15 rfl dX0_copyFrom_47 (fun ha14 => ?_)
  refine lv_iconst (v := 0) hx hb dX0_copyFrom_50 (by decide) ?_
  refine lv_aload_n hx hb dX0_copyFrom_51 rfl (lv_at hl 0 rfl) ?_
  refine tc_getrF (d := 2) E hG t0 frj_X0_15 rfl dX0_copyFrom_52 (fun ha15 => ?_)
  refine lv_iconst (v := 0) hx hb dX0_copyFrom_55 (by decide) ?_
  refine lv_aload_n hx hb dX0_copyFrom_56 rfl (lv_at hl 1 rfl) ?_
  refine tc_getF E hG t1 fi_X0_47 rfl dX0_copyFrom_57 (fun z16 lz16 uz16 wz16 => ?_)
  replace wz16 : z16 = F13 h1 10 := wz16
  replace wz16 : z16 = F h1 10 := by rw [wz16, eF13, upR_ne (by omega), eF7, up2_ne (by omega), eF4, up2_ne (by omega), eF2, up2_ne (by omega)]
  have cz16 : z16.toInt = (F h1 10).toInt := by rw [wz16]
  have k17 := kI_0
  have k18 := kI_0
  refine tc_copyF (rest := []) E hl.1 hG ml_X0_76 kn_copy1 kn_copy2 kn_copy3 ha14 ha15 ta_12 ta_39 (fun _ => rfl) (fun _ => rfl) (by omega) (by omega) (by omega) (by omega) (by omega) ⟨Nat.le_of_ble_eq_true rfl, Nat.le_of_ble_eq_true rfl⟩ dX0_copyFrom_60 (fun H locs hG => ?_)
  have nn19 : z16.toNatClampNeg = z16.toInt.toNat := rfl
  obtain ⟨F20, eF20⟩ : ∃ Z : mF, Z = upR F13 (h0 + 2) 0 z16.toNatClampNeg (fun j => F13 (h1 + 2) (0 + (j - 0))) := ⟨_, rfl⟩
  replace hG : tGH (gF G F20) τ s H locs := by rw [eF20]; exact hG
  have E := E.f1 (F' := F20)
  have hSt := hSt.f1 (F' := F20)
  refine lv_aload_n hx hb dX0_copyFrom_63 rfl (lv_at hl 0 rfl) ?_
  refine lv_aload_n hx hb dX0_copyFrom_64 rfl (lv_at hl 1 rfl) ?_
  refine tc_getF E hG t1 fi_X0_41 rfl dX0_copyFrom_65 (fun z21 lz21 uz21 wz21 => ?_)
  replace wz21 : z21 = F20 h1 8 := wz21
  replace wz21 : z21 = F h1 8 := by rw [wz21, eF20, upR_ne (by omega), eF13, upR_ne (by omega), eF7, up2_ne (by omega), eF4, up2_ne (by omega), eF2, up2_ne (by omega)]
  have cz21 : z21.toInt = (F h1 8).toInt := by rw [wz21]
  refine tc_putF (lo := -2147483648) (hi := 2147483647) E hG t0 (by decide) rfl rfl fq_X0_41 (t_any1 _) (t_any2 _) rfl rfl dX0_copyFrom_68 (fun H locs hG => ?_)
  obtain ⟨F22, eF22⟩ : ∃ Z : mF, Z = up2 F20 h0 8 z21 := ⟨_, rfl⟩
  replace hG : tGH (gF G F22) τ s H locs := by rw [eF22]; exact hG
  have E := E.f1 (F' := F22)
  have hSt := hSt.f1 (F' := F22)
  refine lv_aload_n hx hb dX0_copyFrom_71 rfl (lv_at hl 0 rfl) ?_
  refine lv_aload_n hx hb dX0_copyFrom_72 rfl (lv_at hl 1 rfl) ?_
  refine tc_getF E hG t1 fi_X0_44 rfl dX0_copyFrom_73 (fun z23 lz23 uz23 wz23 => ?_)
  replace wz23 : z23 = F22 h1 9 := wz23
  replace wz23 : z23 = F h1 9 := by rw [wz23, eF22, up2_ne (by omega), eF20, upR_ne (by omega), eF13, upR_ne (by omega), eF7, up2_ne (by omega), eF4, up2_ne (by omega), eF2, up2_ne (by omega)]
  have cz23 : z23.toInt = (F h1 9).toInt := by rw [wz23]
  refine tc_putF (lo := -2147483648) (hi := 2147483647) E hG t0 (by decide) rfl rfl fq_X0_44 (t_any1 _) (t_any2 _) rfl rfl dX0_copyFrom_76 (fun H locs hG => ?_)
  obtain ⟨F24, eF24⟩ : ∃ Z : mF, Z = up2 F22 h0 9 z23 := ⟨_, rfl⟩
  replace hG : tGH (gF G F24) τ s H locs := by rw [eF24]; exact hG
  have E := E.f1 (F' := F24)
  have hSt := hSt.f1 (F' := F24)
  refine lv_aload_n hx hb dX0_copyFrom_79 rfl (lv_at hl 0 rfl) ?_
  refine lv_aload_n hx hb dX0_copyFrom_80 rfl (lv_at hl 1 rfl) ?_
  refine tc_getF E hG t1 fi_X0_47 rfl dX0_copyFrom_81 (fun z25 lz25 uz25 wz25 => ?_)
  replace wz25 : z25 = F24 h1 10 := wz25
  replace wz25 : z25 = F h1 10 := by rw [wz25, eF24, up2_ne (by omega), eF22, up2_ne (by omega), eF20, upR_ne (by omega), eF13, upR_ne (by omega), eF7, up2_ne (by omega), eF4, up2_ne (by omega), eF2, up2_ne (by omega)]
  have cz25 : z25.toInt = (F h1 10).toInt := by rw [wz25]
  refine tc_putF (lo := 0) (hi := 8) E hG t0 (by decide) rfl rfl fq_X0_47 (by omega) (by omega) rfl rfl dX0_copyFrom_84 (fun H locs hG => ?_)
  obtain ⟨F26, eF26⟩ : ∃ Z : mF, Z = up2 F24 h0 10 z25 := ⟨_, rfl⟩
  replace hG : tGH (gF G F26) τ s H locs := by rw [eF26]; exact hG
  have E := E.f1 (F' := F26)
  have hSt := hSt.f1 (F' := F26)
  refine lv_aload_n hx hb dX0_copyFrom_87 rfl (lv_at hl 0 rfl) ?_
  refine lv_aload_n hx hb dX0_copyFrom_88 rfl (lv_at hl 1 rfl) ?_
  refine tc_geti E hG t1 fi_X0_50 dX0_copyFrom_89 (fun z27 _ _ => ?_)
  refine tc_puti E hG t0 fpj_X0_50 (t_any1 _) (t_any2 _) dX0_copyFrom_92 (fun H locs hG => ?_)
  refine lv_aload_n hx hb dX0_copyFrom_95 rfl (lv_at hl 0 rfl) ?_
  refine lv_aload_n hx hb dX0_copyFrom_96 rfl (lv_at hl 1 rfl) ?_
  refine tc_geti E hG t1 fi_X0_70 dX0_copyFrom_97 (fun z28 _ _ => ?_)
  refine tc_puti E hG t0 fpj_X0_70 (t_any1 _) (t_any2 _) dX0_copyFrom_100 (fun H locs hG => ?_)
  refine lv_aload_n hx hb dX0_copyFrom_103 rfl (lv_at hl 0 rfl) ?_
  refine lv_aload_n hx hb dX0_copyFrom_104 rfl (lv_at hl 1 rfl) ?_
  refine tc_geti E hG t1 fi_X0_73 dX0_copyFrom_105 (fun z29 _ _ => ?_)
  refine tc_puti E hG t0 fpj_X0_73 (t_any1 _) (t_any2 _) dX0_copyFrom_108 (fun H locs hG => ?_)
  refine lv_aload_n hx hb dX0_copyFrom_111 rfl (lv_at hl 0 rfl) ?_
  refine tc_getrF (d := 3) E hG t0 frj_X0_21 rfl dX0_copyFrom_112 (fun ha30 => ?_)
  refine lv_aload_n hx hb dX0_copyFrom_115 rfl (lv_at hl 1 rfl) ?_
  refine tc_getrF (d := 3) E hG t1 fr_X0_21 rfl dX0_copyFrom_116 (fun ha31 => ?_)
  refine tc_callv hG (tc_runV (As := [.ref (h1 + 3)]) (rest := []) E hSt hG (c_X2_copyFrom l (gF G F26) τ (h0 + 3) (h1 + 3) ha30 ha31) ha30 rv_4 kv_X2_copyFrom ml_X0_82 ⟨rfl, rfl, Nat.le_of_ble_eq_true rfl, Nat.le_of_ble_eq_true rfl⟩ rfl hl.1 rfl (Nat.le_of_ble_eq_true rfl) ⟨Nat.zero_le _, Nat.zero_le _⟩ dX0_copyFrom_119) (fun H locs hG => ?_)
  exact tc_vretF E hr hlk hG ⟨⟨(by rw [eF26, up2_ne (by omega), eF24, up2_ne (by omega), eF22, up2_ne (by omega), eF20, upR_ne (by omega), eF13, upR_ne (by omega), eF7, up2_ne (by omega), eF4, up2_ne (by omega), eF2, up2_at, wz1]), (by rw [eF26, up2_ne (by omega), eF24, up2_ne (by omega), eF22, up2_ne (by omega), eF20, upR_ne (by omega), eF13, upR_ne (by omega), eF7, up2_ne (by omega), eF4, up2_at, wz3]), (by rw [eF26, up2_ne (by omega), eF24, up2_ne (by omega), eF22, up2_ne (by omega), eF20, upR_ne (by omega), eF13, upR_ne (by omega), eF7, up2_at, wz6]), (by rw [eF26, up2_ne (by omega), eF24, up2_ne (by omega), eF22, up2_at, wz21]), (by rw [eF26, up2_ne (by omega), eF24, up2_at, wz23]), (by rw [eF26, up2_at, wz25]), (fun j hj => by rw [eF26, up2_ne (by omega), eF24, up2_ne (by omega), eF22, up2_ne (by omega), eF20, upR_ne (by omega), eF13, upR_in ⟨rfl, by omega, by omega⟩]; show _ = _; rw [eF7, up2_ne (by omega), eF4, up2_ne (by omega), eF2, up2_ne (by omega), show 0 + (j - 0) = j by omega]), (fun j hj => by rw [eF26, up2_ne (by omega), eF24, up2_ne (by omega), eF22, up2_ne (by omega), eF20, upR_in ⟨rfl, by omega, by omega⟩]; show _ = _; rw [eF13, upR_ne (by omega), eF7, up2_ne (by omega), eF4, up2_ne (by omega), eF2, up2_ne (by omega), show 0 + (j - 0) = j by omega])⟩, (by rw [eF26, up2_ne (by omega), eF24, up2_ne (by omega), eF22, up2_ne (by omega), eF20, upR_ne (by omega), eF13, upR_ne (by omega), eF7, up2_ne (by omega), eF4, up2_ne (by omega), eF2, up2_ne (by omega)]), (fun c k hc => by rw [eF26, up2_ne (by omega), eF24, up2_ne (by omega), eF22, up2_ne (by omega), eF20, upR_ne (by omega), eF13, upR_ne (by omega), eF7, up2_ne (by omega), eF4, up2_ne (by omega), eF2, up2_ne (by omega)])⟩ dX0_copyFrom_122

theorem cpB.kept {F F1 F2 : mF} {b o : Nat} (h : cpB F F1 b o) (he : ∀ c k : Nat, (c = b ∨ c = b + 1 ∨ c = b + 2) → F2 c k = F1 c k) : cpB F F2 b o := by
  obtain ⟨h1, h2, h3, h4, h5, h6, h7, h8⟩ := h
  have e0 : ∀ k, F2 b k = F1 b k := fun k => he b k (Or.inl rfl)
  have e1 : ∀ k, F2 (b + 1) k = F1 (b + 1) k := fun k => he _ k (Or.inr (Or.inl rfl))
  have e2 : ∀ k, F2 (b + 2) k = F1 (b + 2) k := fun k => he _ k (Or.inr (Or.inr rfl))
  unfold cpB
  simp only [e0, e1, e2]
  exact ⟨h1, h2, h3, h4, h5, h6, h7, h8⟩
theorem cpB.from {F F0 F1 : mF} {b o : Nat} (h : cpB F0 F1 b o) (he : ∀ c k : Nat, (c = o ∨ c = o + 1 ∨ c = o + 2) → F0 c k = F c k) : cpB F F1 b o := by
  obtain ⟨h1, h2, h3, h4, h5, h6, h7, h8⟩ := h
  have e0 : ∀ k, F0 o k = F o k := fun k => he o k (Or.inl rfl)
  have e1 : ∀ k, F0 (o + 1) k = F (o + 1) k := fun k => he _ k (Or.inr (Or.inl rfl))
  have e2 : ∀ k, F0 (o + 2) k = F (o + 2) k := fun k => he _ k (Or.inr (Or.inr rfl))
  unfold cpB
  simp only [← e0, ← e1, ← e2]
  exact ⟨h1, h2, h3, h4, h5, h6, h7, h8⟩
/-- the World at w becomes the one at o -/
def cpW (F F' : mF) (w o : Nat) : Prop := (F' w 3 = F o 3 ∧ F' w 4 = F o 4 ∧ F' w 8 = F o 8 ∧ F' w 9 = F o 9) ∧ (∀ c k : Nat, ¬ (w ≤ c ∧ c < w + 100) → F' c k = F c k) ∧ (∀ i : Nat, i < 24 → F' (w + 1 + (3 + 4 * i)) 0 = F (w + 1 + (3 + 4 * i)) 0) ∧ ∀ i : Nat, (i : Int) < (F o 8).toInt → tB (F o 4) i → cpB F F' (w + 1 + (3 + 4 * i)) (o + 1 + (3 + 4 * i))

set_option maxHeartbeats 4000000 in
set_option maxRecDepth 100000 in
theorem x_X8_has_m (l : Launch) (G : tG) (τ : Nat → Nat) (h0 : Nat) (x1 : Int32) (t0 : τ h0 = 30) : Met l yX8_has (.code yX8_has cX8_has 2 (some .boolean) :: tWS) (tRm 0 0) (va_Pc [.ref h0, .int x1] (tPre G τ)) (tQp (fun r => (r.toInt = 1 ∧ (0 ≤ x1.toInt ∧ x1.toInt ≤ 23 ∧ tB ((FF G) h0 4) x1.toInt.toNat)) ∨ (r.toInt = 0 ∧ ¬ (0 ≤ x1.toInt ∧ x1.toInt ≤ 23 ∧ tB ((FF G) h0 4) x1.toInt.toNat)))) 0 0 tNo := by
  refine tc_met (by decide) (Nat.le_of_ble_eq_true rfl) ?_
  intro p e s m below meth c E hSt hr hlk hG ls hl
  have hl : lv_has ls 2 [(0, .ref h0), (1, .int x1)] := hl
  have hx := E.1
  have hb := E.2.1
  obtain ⟨H, eH⟩ : ∃ H, H = s.heap := ⟨_, rfl⟩
  obtain ⟨locs, eL⟩ : ∃ x : List Loc, x = [] := ⟨_, rfl⟩
  have hG : tGH G τ s H locs := by rw [eH, eL]; exact hG
  suffices hW : W p l e (tRm 0 0) s m ([.ref h0, .int x1] : List Value).toArray below meth c H locs 0 0 (MQ below (tQp (fun r => (r.toInt = 1 ∧ (0 ≤ x1.toInt ∧ x1.toInt ≤ 23 ∧ tB ((FF G) h0 4) x1.toInt.toNat)) ∨ (r.toInt = 0 ∧ ¬ (0 ≤ x1.toInt ∧ x1.toInt ≤ 23 ∧ tB ((FF G) h0 4) x1.toInt.toNat)))) ([.ref h0, .int x1] : List Value).toArray s 0 0 tNo) (F0 m 0 ls []) by subst eH; subst eL; exact hW
  refine lv_iload_n hx hb dX8_has_0 rfl (lv_at hl 1 rfl) ?_
  refine lv_if_lt (tgt := 26) hx hb dX8_has_1 (by decide) (fun c1 => ?_) (fun c1 => ?_)
  · skip
    have ic1 := tn_lt rfl kI_0 c1
    refine lv_iconst (v := 0) hx hb dX8_has_26 (by decide) ?_
    exact tc_pret E hr hlk eH eL (t_nz (by decide) (by decide)).1 (show ((0 : Int32).toInt = 1 ∧ (0 ≤ x1.toInt ∧ x1.toInt ≤ 23 ∧ tB ((FF G) h0 4) x1.toInt.toNat)) ∨ ((0 : Int32).toInt = 0 ∧ ¬ (0 ≤ x1.toInt ∧ x1.toInt ≤ 23 ∧ tB ((FF G) h0 4) x1.toInt.toNat)) by have kk := kI_0; exact Or.inr ⟨by decide, fun q9 => (by omega)⟩) dX8_has_27
  · skip
    have ic1 := tn_nlt rfl kI_0 c1
    refine lv_iload_n hx hb dX8_has_4 rfl (lv_at hl 1 rfl) ?_
    refine lv_bipush (v := 24) hx hb dX8_has_5 (by decide) ?_
    refine lv_icmp_ge (tgt := 26) hx hb dX8_has_7 (by decide) (fun c2 => ?_) (fun c2 => ?_)
    · skip
      have ic2 := tn_le kI_24 rfl c2
      refine lv_iconst (v := 0) hx hb dX8_has_26 (by decide) ?_
      exact tc_pret E hr hlk eH eL (t_nz (by decide) (by decide)).1 (show ((0 : Int32).toInt = 1 ∧ (0 ≤ x1.toInt ∧ x1.toInt ≤ 23 ∧ tB ((FF G) h0 4) x1.toInt.toNat)) ∨ ((0 : Int32).toInt = 0 ∧ ¬ (0 ≤ x1.toInt ∧ x1.toInt ≤ 23 ∧ tB ((FF G) h0 4) x1.toInt.toNat)) by have kk := kI_0; exact Or.inr ⟨by decide, fun q9 => (by omega)⟩) dX8_has_27
    · skip
      have ic2 := tn_nle kI_24 rfl c2
      refine lv_aload_n hx hb dX8_has_10 rfl (lv_at hl 0 rfl) ?_
      refine tc_getF E hG t0 fim_X8_40 rfl dX8_has_11 (fun z3 lz3 uz3 wz3 => ?_)
      replace wz3 : z3 = (FF G) h0 4 := wz3
      have cz3 : z3.toInt = ((FF G) h0 4).toInt := by rw [wz3]
      refine lv_iload_n hx hb dX8_has_14 rfl (lv_at hl 1 rfl) ?_
      refine lv_iushr hx hb dX8_has_15 rfl ?_
      refine lv_topi (fun z4 ez4 => ?_)
      refine lv_iconst (v := 1) hx hb dX8_has_16 (by decide) ?_
      refine lv_iand hx hb dX8_has_17 ?_
      refine lv_topi (fun z5 ez5 => ?_)
      have bz5 := tB_get (y := x1) (by omega) (by omega) ez4 ez5
      rw [wz3] at bz5
      refine lv_iconst (v := 1) hx hb dX8_has_18 (by decide) ?_
      refine lv_icmp_ne (tgt := 26) hx hb dX8_has_19 (by decide) (fun c6 => ?_) (fun c6 => ?_)
      · skip
        have ic6 := tn_ne rfl kI_1 c6
        refine lv_iconst (v := 0) hx hb dX8_has_26 (by decide) ?_
        exact tc_pret E hr hlk eH eL (t_nz (by decide) (by decide)).1 (show ((0 : Int32).toInt = 1 ∧ (0 ≤ x1.toInt ∧ x1.toInt ≤ 23 ∧ tB ((FF G) h0 4) x1.toInt.toNat)) ∨ ((0 : Int32).toInt = 0 ∧ ¬ (0 ≤ x1.toInt ∧ x1.toInt ≤ 23 ∧ tB ((FF G) h0 4) x1.toInt.toNat)) by have kk := kI_0; exact Or.inr ⟨by decide, fun q9 => (by rcases bz5 with ⟨_, b9⟩ | ⟨_, b9⟩; (exfalso; omega); exact absurd q9.2.2 b9)⟩) dX8_has_27
      · skip
        have ic6 := tn_eq rfl kI_1 c6
        refine lv_iconst (v := 1) hx hb dX8_has_22 (by decide) ?_
        refine lv_goto (tgt := 27) hx hb dX8_has_23 (by decide) ?_
        exact tc_pret E hr hlk eH eL (t_nz (by decide) (by decide)).1 (show ((1 : Int32).toInt = 1 ∧ (0 ≤ x1.toInt ∧ x1.toInt ≤ 23 ∧ tB ((FF G) h0 4) x1.toInt.toNat)) ∨ ((1 : Int32).toInt = 0 ∧ ¬ (0 ≤ x1.toInt ∧ x1.toInt ≤ 23 ∧ tB ((FF G) h0 4) x1.toInt.toNat)) by have kk := kI_1; exact Or.inl ⟨by decide, by omega, by omega, (by rcases bz5 with ⟨_, b9⟩ | ⟨_, b9⟩; exact b9; exfalso; omega)⟩) dX8_has_27

set_option maxHeartbeats 4000000 in
set_option maxRecDepth 100000 in
theorem x_X8_copyFrom (l : Launch) (G : tG) (F : mF) (τ : Nat → Nat) (h0 : Nat) (h1 : Nat) (t0 : τ h0 = 2) (t1 : τ h1 = 30) (hap : h1 + 100 ≤ h0 ∨ h0 + 100 ≤ h1) (h24 : (F h1 8).toInt ≤ 24) : Met l yX8_copyFrom (.code yX8_copyFrom cX8_copyFrom 3 none :: tWS) (tRm 2 61) (va_Pc [.ref h0, .ref h1] (tPre (gF G F) τ)) (tQG G τ (fun F9 => cpW F F9 h0 h1)) 0 0 (tA τ) := by
  refine tc_met (by decide) (Nat.le_of_ble_eq_true rfl) ?_
  intro p e s m below meth c E hSt hr hlk hG ls hl
  have hl : lv_has ls 3 [(0, .ref h0), (1, .ref h1)] := hl
  have hx := E.1
  have hb := E.2.1
  obtain ⟨H, eH⟩ : ∃ H, H = s.heap := ⟨_, rfl⟩
  obtain ⟨locs, eL⟩ : ∃ x : List Loc, x = [] := ⟨_, rfl⟩
  have hG : tGH (gF G F) τ s H locs := by rw [eH, eL]; exact hG
  suffices hW : W p l e (tRm 2 61) s m ([.ref h0, .ref h1] : List Value).toArray below meth c H locs 0 0 (MQ below (tQG G τ (fun F9 => cpW F F9 h0 h1)) ([.ref h0, .ref h1] : List Value).toArray s 0 0 (tA τ)) (F0 m 0 ls []) by subst eH; subst eL; exact hW
  clear eH eL
  have J2 : ∀ (n2 : Nat) (Fc : mF) (H : Heap) (locs : List Loc) (ls : Array Slot) (v2 : Int32), tGH (gF G Fc) τ s H locs → lv_has ls 3 [(0, .ref h0), (1, .ref h1), (2, .int v2)] → 0 ≤ v2.toInt → v2.toInt ≤ 24 → ((∀ c k : Nat, ¬ (h0 < c ∧ c < h0 + 100) → Fc c k = F c k) ∧ (∀ i : Nat, i < 24 → Fc (h0 + 1 + (3 + 4 * i)) 0 = F (h0 + 1 + (3 + 4 * i)) 0) ∧ ∀ i : Nat, (i : Int) < v2.toInt → tB (F h1 4) i → cpB F Fc (h0 + 1 + (3 + 4 * i)) (h1 + 1 + (3 + 4 * i))) → (24 - v2.toInt).toNat < n2 → W p l e (tRm 2 61) s m ([.ref h0, .ref h1] : List Value).toArray below meth c H locs 0 0 (MQ below (tQG G τ (fun F9 => cpW F F9 h0 h1)) ([.ref h0, .ref h1] : List Value).toArray s 0 0 (tA τ)) (F0 m 2 ls []) := by
    intro n2
    induction n2 with
    | zero => intro Fc H locs ls v2 hG hl b2 c2 hex2 hn2; exact absurd hn2 (Nat.not_lt_zero _)
    | succ n2 ih2 =>
      intro Fc H locs ls v2 hG hl b2 c2 hex2 hn2
      have E := E.f1 (F' := Fc)
      have hSt := hSt.f1 (F' := Fc)
      obtain ⟨hfr, hn0, hcp⟩ := hex2
      refine lv_iload_n hx hb dX8_copyFrom_2 rfl (lv_at hl 2 rfl) ?_
      refine lv_aload_n hx hb dX8_copyFrom_3 rfl (lv_at hl 1 rfl) ?_
      refine tc_getF E hG t1 fim_X8_70 rfl dX8_copyFrom_4 (fun z1 lz1 uz1 wz1 => ?_)
      replace wz1 : z1 = Fc h1 8 := wz1
      replace wz1 : z1 = F h1 8 := by rw [wz1, hfr _ _ (by omega)]
      have cz1 : z1.toInt = (F h1 8).toInt := by rw [wz1]
      refine lv_icmp_ge (tgt := 39) hx hb dX8_copyFrom_7 (by decide) (fun c2 => ?_) (fun c2 => ?_)
      · skip
        have ic2 := tn_le rfl rfl c2
        refine lv_aload_n hx hb dX8_copyFrom_39 rfl (lv_at hl 1 rfl) ?_
        refine tc_getr E hG t1 frm_X8_17 dX8_copyFrom_40 (fun oa3 hoa3 => ?_)
        refine lv_iconst (v := 0) hx hb dX8_copyFrom_43 (by decide) ?_
        refine lv_aload_n hx hb dX8_copyFrom_44 rfl (lv_at hl 0 rfl) ?_
        refine tc_getr E hG t0 fr_X8_17 dX8_copyFrom_45 (fun oa4 hoa4 => ?_)
        refine lv_iconst (v := 0) hx hb dX8_copyFrom_48 (by decide) ?_
        refine lv_bipush (v := 8) hx hb dX8_copyFrom_49 (by decide) ?_
        have k7 := kI_8
        have k8 := kI_0
        have k9 := kI_0
        refine tc_copyi (rest := []) E hl.1 hG ml_X8_176 kn_copy1 kn_copy2 kn_copy3 hoa3 hoa4 ta_36 ta_36 (by omega) (by omega) (by omega) (by omega) (by omega) ⟨Nat.le_of_ble_eq_true rfl, by decide +kernel⟩ dX8_copyFrom_51 (fun H locs hG oq5 => ?_)
        refine lv_aload_n hx hb dX8_copyFrom_54 rfl (lv_at hl 1 rfl) ?_
        refine tc_getr E hG t1 frm_X8_21 dX8_copyFrom_55 (fun oa10 hoa10 => ?_)
        refine lv_iconst (v := 0) hx hb dX8_copyFrom_58 (by decide) ?_
        refine lv_aload_n hx hb dX8_copyFrom_59 rfl (lv_at hl 0 rfl) ?_
        refine tc_getr E hG t0 fr_X8_21 dX8_copyFrom_60 (fun oa11 hoa11 => ?_)
        refine lv_iconst (v := 0) hx hb dX8_copyFrom_63 (by decide) ?_
        refine lv_bipush (v := 8) hx hb dX8_copyFrom_64 (by decide) ?_
        have k14 := kI_8
        have k15 := kI_0
        have k16 := kI_0
        refine tc_copyi (rest := []) E hl.1 hG ml_X8_176 kn_copy1 kn_copy2 kn_copy3 hoa10 hoa11 ta_13 ta_13 (by omega) (by omega) (by omega) (by omega) (by omega) ⟨Nat.le_of_ble_eq_true rfl, by decide +kernel⟩ dX8_copyFrom_66 (fun H locs hG oq12 => ?_)
        refine lv_aload_n hx hb dX8_copyFrom_69 rfl (lv_at hl 0 rfl) ?_
        refine lv_aload_n hx hb dX8_copyFrom_70 rfl (lv_at hl 1 rfl) ?_
        refine tc_getF E hG t1 fim_X8_145 rfl dX8_copyFrom_71 (fun z17 lz17 uz17 wz17 => ?_)
        replace wz17 : z17 = Fc h1 3 := wz17
        replace wz17 : z17 = F h1 3 := by rw [wz17, hfr _ _ (by omega)]
        have cz17 : z17.toInt = (F h1 3).toInt := by rw [wz17]
        refine tc_putF (lo := 0) (hi := 8) E hG t0 (by decide) rfl rfl fq_X8_145 (by omega) (by omega) rfl rfl dX8_copyFrom_74 (fun H locs hG => ?_)
        obtain ⟨F18, eF18⟩ : ∃ Z : mF, Z = up2 Fc h0 3 z17 := ⟨_, rfl⟩
        replace hG : tGH (gF G F18) τ s H locs := by rw [eF18]; exact hG
        have E := E.f1 (F' := F18)
        have hSt := hSt.f1 (F' := F18)
        refine lv_aload_n hx hb dX8_copyFrom_77 rfl (lv_at hl 0 rfl) ?_
        refine lv_aload_n hx hb dX8_copyFrom_78 rfl (lv_at hl 1 rfl) ?_
        refine tc_getF E hG t1 fim_X8_40 rfl dX8_copyFrom_79 (fun z19 lz19 uz19 wz19 => ?_)
        replace wz19 : z19 = F18 h1 4 := wz19
        replace wz19 : z19 = F h1 4 := by rw [wz19, eF18, up2_ne (by omega), hfr _ _ (by omega)]
        have cz19 : z19.toInt = (F h1 4).toInt := by rw [wz19]
        refine tc_putF (lo := -2147483648) (hi := 2147483647) E hG t0 (by decide) rfl rfl fq_X8_40 (t_any1 _) (t_any2 _) rfl rfl dX8_copyFrom_82 (fun H locs hG => ?_)
        obtain ⟨F20, eF20⟩ : ∃ Z : mF, Z = up2 F18 h0 4 z19 := ⟨_, rfl⟩
        replace hG : tGH (gF G F20) τ s H locs := by rw [eF20]; exact hG
        have E := E.f1 (F' := F20)
        have hSt := hSt.f1 (F' := F20)
        refine lv_aload_n hx hb dX8_copyFrom_85 rfl (lv_at hl 0 rfl) ?_
        refine lv_aload_n hx hb dX8_copyFrom_86 rfl (lv_at hl 1 rfl) ?_
        refine tc_geti E hG t1 fim_X8_43 dX8_copyFrom_87 (fun z21 _ _ => ?_)
        refine tc_puti E hG t0 fp_X8_43 (t_any1 _) (t_any2 _) dX8_copyFrom_90 (fun H locs hG => ?_)
        refine lv_aload_n hx hb dX8_copyFrom_93 rfl (lv_at hl 0 rfl) ?_
        refine lv_aload_n hx hb dX8_copyFrom_94 rfl (lv_at hl 1 rfl) ?_
        refine tc_geti E hG t1 fim_X8_122 dX8_copyFrom_95 (fun z22 _ _ => ?_)
        refine tc_puti E hG t0 fp_X8_122 (t_any1 _) (t_any2 _) dX8_copyFrom_98 (fun H locs hG => ?_)
        refine lv_aload_n hx hb dX8_copyFrom_101 rfl (lv_at hl 0 rfl) ?_
        refine lv_aload_n hx hb dX8_copyFrom_102 rfl (lv_at hl 1 rfl) ?_
        refine tc_geti E hG t1 fim_X8_125 dX8_copyFrom_103 (fun z23 _ _ => ?_)
        refine tc_puti E hG t0 fp_X8_125 (t_any1 _) (t_any2 _) dX8_copyFrom_106 (fun H locs hG => ?_)
        refine lv_aload_n hx hb dX8_copyFrom_109 rfl (lv_at hl 0 rfl) ?_
        refine lv_aload_n hx hb dX8_copyFrom_110 rfl (lv_at hl 1 rfl) ?_
        refine tc_getF E hG t1 fim_X8_70 rfl dX8_copyFrom_111 (fun z24 lz24 uz24 wz24 => ?_)
        replace wz24 : z24 = F20 h1 8 := wz24
        replace wz24 : z24 = F h1 8 := by rw [wz24, eF20, up2_ne (by omega), eF18, up2_ne (by omega), hfr _ _ (by omega)]
        have cz24 : z24.toInt = (F h1 8).toInt := by rw [wz24]
        refine tc_putF (lo := 0) (hi := 24) E hG t0 (by decide) rfl rfl fq_X8_70 (by omega) (by omega) rfl rfl dX8_copyFrom_114 (fun H locs hG => ?_)
        obtain ⟨F25, eF25⟩ : ∃ Z : mF, Z = up2 F20 h0 8 z24 := ⟨_, rfl⟩
        replace hG : tGH (gF G F25) τ s H locs := by rw [eF25]; exact hG
        have E := E.f1 (F' := F25)
        have hSt := hSt.f1 (F' := F25)
        refine lv_aload_n hx hb dX8_copyFrom_117 rfl (lv_at hl 0 rfl) ?_
        refine lv_aload_n hx hb dX8_copyFrom_118 rfl (lv_at hl 1 rfl) ?_
        refine tc_getF E hG t1 fim_X8_24 rfl dX8_copyFrom_119 (fun z26 lz26 uz26 wz26 => ?_)
        replace wz26 : z26 = F25 h1 9 := wz26
        replace wz26 : z26 = F h1 9 := by rw [wz26, eF25, up2_ne (by omega), eF20, up2_ne (by omega), eF18, up2_ne (by omega), hfr _ _ (by omega)]
        have cz26 : z26.toInt = (F h1 9).toInt := by rw [wz26]
        refine tc_putF (lo := -2147483648) (hi := 2147483647) E hG t0 (by decide) rfl rfl fq_X8_24 (t_any1 _) (t_any2 _) rfl rfl dX8_copyFrom_122 (fun H locs hG => ?_)
        obtain ⟨F27, eF27⟩ : ∃ Z : mF, Z = up2 F25 h0 9 z26 := ⟨_, rfl⟩
        replace hG : tGH (gF G F27) τ s H locs := by rw [eF27]; exact hG
        have E := E.f1 (F' := F27)
        have hSt := hSt.f1 (F' := F27)
        refine lv_aload_n hx hb dX8_copyFrom_125 rfl (lv_at hl 0 rfl) ?_
        refine lv_aload_n hx hb dX8_copyFrom_126 rfl (lv_at hl 1 rfl) ?_
        refine tc_geti E hG t1 fim_X8_28 dX8_copyFrom_127 (fun z28 _ _ => ?_)
        refine tc_puti E hG t0 fp_X8_28 (t_any1 _) (t_any2 _) dX8_copyFrom_130 (fun H locs hG => ?_)
        refine lv_aload_n hx hb dX8_copyFrom_133 rfl (lv_at hl 0 rfl) ?_
        refine lv_aload_n hx hb dX8_copyFrom_134 rfl (lv_at hl 1 rfl) ?_
        refine tc_geti E hG t1 fim_X8_31 dX8_copyFrom_135 (fun z29 _ _ => ?_)
        refine tc_puti E hG t0 fp_X8_31 (t_any1 _) (t_any2 _) dX8_copyFrom_138 (fun H locs hG => ?_)
        refine lv_aload_n hx hb dX8_copyFrom_141 rfl (lv_at hl 0 rfl) ?_
        refine lv_aload_n hx hb dX8_copyFrom_142 rfl (lv_at hl 1 rfl) ?_
        refine tc_geti E hG t1 fim_X8_34 dX8_copyFrom_143 (fun z30 _ _ => ?_)
        refine tc_puti E hG t0 fp_X8_34 (t_any1 _) (t_any2 _) dX8_copyFrom_146 (fun H locs hG => ?_)
        exact tc_vretF E hr hlk hG ⟨⟨(by rw [eF27, up2_ne (by omega), eF25, up2_ne (by omega), eF20, up2_ne (by omega), eF18, up2_at, wz17]), (by rw [eF27, up2_ne (by omega), eF25, up2_ne (by omega), eF20, up2_at, wz19]), (by rw [eF27, up2_ne (by omega), eF25, up2_at, wz24]), (by rw [eF27, up2_at, wz26])⟩, (fun c k hc => by rw [eF27, up2_ne (by omega), eF25, up2_ne (by omega), eF20, up2_ne (by omega), eF18, up2_ne (by omega)]; exact hfr c k (by omega)), (fun i hi => by rw [eF27, up2_ne (by omega), eF25, up2_ne (by omega), eF20, up2_ne (by omega), eF18, up2_ne (by omega)]; exact hn0 i hi), (fun i hi hb => (hcp i (by omega) hb).kept (fun c k hc => by rw [eF27, up2_ne (by omega), eF25, up2_ne (by omega), eF20, up2_ne (by omega), eF18, up2_ne (by omega)]))⟩ dX8_copyFrom_149
      · skip
        have ic2 := tn_nle rfl rfl c2
        refine lv_aload_n hx hb dX8_copyFrom_10 rfl (lv_at hl 1 rfl) ?_
        refine lv_iload_n hx hb dX8_copyFrom_11 rfl (lv_at hl 2 rfl) ?_
        refine tc_callp (tc_runV (As := [.int v2]) (rest := []) E hSt hG (x_X8_has_m l (gF G Fc) τ h1 v2 t1) t1 rv_30 kv_X8_has ml_X8_55 ⟨rfl, rfl, Nat.le_of_ble_eq_true rfl, Nat.le_of_ble_eq_true rfl⟩ rfl hl.1 rfl (Nat.le_of_ble_eq_true rfl) ⟨Nat.zero_le _, Nat.zero_le _⟩ dX8_copyFrom_12) (fun r31 pr31 => ?_)
        have pr31 : (r31.toInt = 1 ∧ (0 ≤ v2.toInt ∧ v2.toInt ≤ 23 ∧ tB (Fc h1 4) v2.toInt.toNat)) ∨ (r31.toInt = 0 ∧ ¬ (0 ≤ v2.toInt ∧ v2.toInt ≤ 23 ∧ tB (Fc h1 4) v2.toInt.toNat)) := pr31
        rw [show Fc h1 4 = F h1 4 from (by rw [hfr _ _ (by omega)])] at pr31
        refine lv_if_eq (tgt := 33) hx hb dX8_copyFrom_15 (by decide) (fun c32 => ?_) (fun c32 => ?_)
        · skip
          have ic32 := tn_eq rfl kI_0 c32
          obtain ⟨z33, ez33⟩ : ∃ y : Int32, y = v2 + (1) := ⟨_, rfl⟩
          refine lv_iinc (v := z33) (lv' := [(2, .int z33), (0, .ref h0), (1, .ref h1)]) hx hb dX8_copyFrom_33 hl (k := 2) rfl (by rw [ez33]; rfl) (by decide) rfl (fun ls hl => ?_)
          have tz33 := tn_add ez33 rfl kI_1 (by omega) (by omega)
          refine lv_goto (tgt := 2) hx hb dX8_copyFrom_36 (by decide) ?_
          exact ih2 Fc H locs ls z33 hG (lv_sub hl [1, 2, 0] rfl) (by omega) (by omega) (by refine ⟨hfr, hn0, fun i hi hb => ?_⟩; by_cases q9 : (i : Int) = v2.toInt; (exfalso; (have e9 : i = v2.toInt.toNat := (by omega)); rw [e9] at hb; grind); exact hcp i (by omega) hb) (by omega)
        · skip
          have ic32 := tn_ne rfl kI_0 c32
          refine lv_aload_n hx hb dX8_copyFrom_18 rfl (lv_at hl 0 rfl) ?_
          refine tc_getrF (d := 1) E hG t0 fr_X8_11 rfl dX8_copyFrom_19 (fun ha34 => ?_)
          refine lv_iload_n hx hb dX8_copyFrom_22 rfl (lv_at hl 2 rfl) ?_
          refine tc_aald3F (d := 3 + 4 * v2.toNatClampNeg) E hG ha34 ta_10 rfl (t_in (by omega) (by omega)) dX8_copyFrom_23 (fun ha35 => ?_)
          have nv2 : v2.toNatClampNeg = v2.toInt.toNat := rfl
          refine lv_aload_n hx hb dX8_copyFrom_24 rfl (lv_at hl 1 rfl) ?_
          refine tc_getrF (d := 1) E hG t1 frm_X8_11 rfl dX8_copyFrom_25 (fun ha36 => ?_)
          refine lv_iload_n hx hb dX8_copyFrom_28 rfl (lv_at hl 2 rfl) ?_
          refine tc_aald3F (d := 3 + 4 * v2.toNatClampNeg) E hG ha36 ta_40 rfl (t_in (by omega) (by omega)) dX8_copyFrom_29 (fun ha37 => ?_)
          have nv2 : v2.toNatClampNeg = v2.toInt.toNat := rfl
          refine tc_callvF hG (tc_runV (As := [.ref ((h1 + 1) + (3 + 4 * v2.toNatClampNeg))]) (rest := []) E hSt hG (x_X0_copyFrom l G Fc τ ((h0 + 1) + (3 + 4 * v2.toNatClampNeg)) ((h1 + 1) + (3 + 4 * v2.toNatClampNeg)) ha35 ha37 (by omega)) ha35 rv_3 kv_X0_copyFrom ml_X8_172 ⟨rfl, rfl, Nat.le_of_ble_eq_true rfl, Nat.le_of_ble_eq_true rfl⟩ rfl hl.1 rfl (Nat.le_of_ble_eq_true rfl) ⟨Nat.zero_le _, Nat.zero_le _⟩ dX8_copyFrom_30) (fun F39 H locs pr38 hG => ?_)
          have E := E.f1 (F' := F39)
          have hSt := hSt.f1 (F' := F39)
          replace pr38 : cpB Fc F39 ((h0 + 1) + (3 + 4 * v2.toNatClampNeg)) ((h1 + 1) + (3 + 4 * v2.toNatClampNeg)) ∧ F39 ((h0 + 1) + (3 + 4 * v2.toNatClampNeg)) 0 = Fc ((h0 + 1) + (3 + 4 * v2.toNatClampNeg)) 0 ∧ ∀ c k : Nat, ¬ (c = ((h0 + 1) + (3 + 4 * v2.toNatClampNeg)) ∨ c = ((h0 + 1) + (3 + 4 * v2.toNatClampNeg)) + 1 ∨ c = ((h0 + 1) + (3 + 4 * v2.toNatClampNeg)) + 2) → F39 c k = Fc c k := pr38
          obtain ⟨z40, ez40⟩ : ∃ y : Int32, y = v2 + (1) := ⟨_, rfl⟩
          refine lv_iinc (v := z40) (lv' := [(2, .int z40), (0, .ref h0), (1, .ref h1)]) hx hb dX8_copyFrom_33 hl (k := 2) rfl (by rw [ez40]; rfl) (by decide) rfl (fun ls hl => ?_)
          have tz40 := tn_add ez40 rfl kI_1 (by omega) (by omega)
          refine lv_goto (tgt := 2) hx hb dX8_copyFrom_36 (by decide) ?_
          exact ih2 F39 H locs ls z40 hG (lv_sub hl [1, 2, 0] rfl) (by omega) (by omega) (by obtain ⟨g1, g2, g3⟩ := pr38; have nv : v2.toNatClampNeg = v2.toInt.toNat := rfl; refine ⟨fun c k hc => (by rw [g3 c k (by omega)]; exact hfr c k hc), fun i hi => ?_, fun i hi hb => ?_⟩; (by_cases q9 : i = v2.toNatClampNeg; (rw [q9]; exact g2.trans (hn0 _ (by omega))); (rw [g3 _ _ (by omega)]; exact hn0 i hi)); (by_cases q9 : i = v2.toNatClampNeg; (rw [q9]; exact g1.from (fun c k hc => hfr c k (by omega))); exact (hcp i (by omega) hb).kept (fun c k hc => g3 c k (by omega)))) (by omega)
  refine lv_iconst (v := 0) hx hb dX8_copyFrom_0 (by decide) ?_
  refine lv_istore_n (lv' := [(2, .int 0), (0, .ref h0), (1, .ref h1)]) hx hb dX8_copyFrom_1 rfl hl (by decide) rfl (fun ls hl => ?_)
  exact J2 ((24 - (0 : Int32).toInt).toNat + 1) F H locs ls (0 : Int32) hG (lv_sub hl [1, 2, 0] rfl) (by decide) (by decide) (by exact ⟨fun c k _ => rfl, fun i _ => rfl, fun i hi => (by have k0 := kI_0; omega)⟩) (Nat.lt_succ_self _)

set_option maxHeartbeats 4000000 in
set_option maxRecDepth 100000 in
theorem x_X8_copyFrom_m (l : Launch) (G : tG) (F : mF) (τ : Nat → Nat) (h0 : Nat) (h1 : Nat) (t0 : τ h0 = 30) (t1 : τ h1 = 2) (hap : h1 + 100 ≤ h0 ∨ h0 + 100 ≤ h1) (h24 : (F h1 8).toInt ≤ 24) : Met l yX8_copyFrom (.code yX8_copyFrom cX8_copyFrom 3 none :: tWS) (tRm 2 61) (va_Pc [.ref h0, .ref h1] (tPre (gF G F) τ)) (tQG G τ (fun F9 => cpW F F9 h0 h1)) 0 0 (tA τ) := by
  refine tc_met (by decide) (Nat.le_of_ble_eq_true rfl) ?_
  intro p e s m below meth c E hSt hr hlk hG ls hl
  have hl : lv_has ls 3 [(0, .ref h0), (1, .ref h1)] := hl
  have hx := E.1
  have hb := E.2.1
  obtain ⟨H, eH⟩ : ∃ H, H = s.heap := ⟨_, rfl⟩
  obtain ⟨locs, eL⟩ : ∃ x : List Loc, x = [] := ⟨_, rfl⟩
  have hG : tGH (gF G F) τ s H locs := by rw [eH, eL]; exact hG
  suffices hW : W p l e (tRm 2 61) s m ([.ref h0, .ref h1] : List Value).toArray below meth c H locs 0 0 (MQ below (tQG G τ (fun F9 => cpW F F9 h0 h1)) ([.ref h0, .ref h1] : List Value).toArray s 0 0 (tA τ)) (F0 m 0 ls []) by subst eH; subst eL; exact hW
  clear eH eL
  have J2 : ∀ (n2 : Nat) (Fc : mF) (H : Heap) (locs : List Loc) (ls : Array Slot) (v2 : Int32), tGH (gF G Fc) τ s H locs → lv_has ls 3 [(0, .ref h0), (1, .ref h1), (2, .int v2)] → 0 ≤ v2.toInt → v2.toInt ≤ 24 → ((∀ c k : Nat, ¬ (h0 < c ∧ c < h0 + 100) → Fc c k = F c k) ∧ (∀ i : Nat, i < 24 → Fc (h0 + 1 + (3 + 4 * i)) 0 = F (h0 + 1 + (3 + 4 * i)) 0) ∧ ∀ i : Nat, (i : Int) < v2.toInt → tB (F h1 4) i → cpB F Fc (h0 + 1 + (3 + 4 * i)) (h1 + 1 + (3 + 4 * i))) → (24 - v2.toInt).toNat < n2 → W p l e (tRm 2 61) s m ([.ref h0, .ref h1] : List Value).toArray below meth c H locs 0 0 (MQ below (tQG G τ (fun F9 => cpW F F9 h0 h1)) ([.ref h0, .ref h1] : List Value).toArray s 0 0 (tA τ)) (F0 m 2 ls []) := by
    intro n2
    induction n2 with
    | zero => intro Fc H locs ls v2 hG hl b2 c2 hex2 hn2; exact absurd hn2 (Nat.not_lt_zero _)
    | succ n2 ih2 =>
      intro Fc H locs ls v2 hG hl b2 c2 hex2 hn2
      have E := E.f1 (F' := Fc)
      have hSt := hSt.f1 (F' := Fc)
      obtain ⟨hfr, hn0, hcp⟩ := hex2
      refine lv_iload_n hx hb dX8_copyFrom_2 rfl (lv_at hl 2 rfl) ?_
      refine lv_aload_n hx hb dX8_copyFrom_3 rfl (lv_at hl 1 rfl) ?_
      refine tc_getF E hG t1 fi_X8_70 rfl dX8_copyFrom_4 (fun z1 lz1 uz1 wz1 => ?_)
      replace wz1 : z1 = Fc h1 8 := wz1
      replace wz1 : z1 = F h1 8 := by rw [wz1, hfr _ _ (by omega)]
      have cz1 : z1.toInt = (F h1 8).toInt := by rw [wz1]
      refine lv_icmp_ge (tgt := 39) hx hb dX8_copyFrom_7 (by decide) (fun c2 => ?_) (fun c2 => ?_)
      · skip
        have ic2 := tn_le rfl rfl c2
        refine lv_aload_n hx hb dX8_copyFrom_39 rfl (lv_at hl 1 rfl) ?_
        refine tc_getr E hG t1 fr_X8_17 dX8_copyFrom_40 (fun oa3 hoa3 => ?_)
        refine lv_iconst (v := 0) hx hb dX8_copyFrom_43 (by decide) ?_
        refine lv_aload_n hx hb dX8_copyFrom_44 rfl (lv_at hl 0 rfl) ?_
        refine tc_getr E hG t0 frm_X8_17 dX8_copyFrom_45 (fun oa4 hoa4 => ?_)
        refine lv_iconst (v := 0) hx hb dX8_copyFrom_48 (by decide) ?_
        refine lv_bipush (v := 8) hx hb dX8_copyFrom_49 (by decide) ?_
        have k7 := kI_8
        have k8 := kI_0
        have k9 := kI_0
        refine tc_copyi (rest := []) E hl.1 hG ml_X8_176 kn_copy1 kn_copy2 kn_copy3 hoa3 hoa4 ta_36 ta_36 (by omega) (by omega) (by omega) (by omega) (by omega) ⟨Nat.le_of_ble_eq_true rfl, by decide +kernel⟩ dX8_copyFrom_51 (fun H locs hG oq5 => ?_)
        refine lv_aload_n hx hb dX8_copyFrom_54 rfl (lv_at hl 1 rfl) ?_
        refine tc_getr E hG t1 fr_X8_21 dX8_copyFrom_55 (fun oa10 hoa10 => ?_)
        refine lv_iconst (v := 0) hx hb dX8_copyFrom_58 (by decide) ?_
        refine lv_aload_n hx hb dX8_copyFrom_59 rfl (lv_at hl 0 rfl) ?_
        refine tc_getr E hG t0 frm_X8_21 dX8_copyFrom_60 (fun oa11 hoa11 => ?_)
        refine lv_iconst (v := 0) hx hb dX8_copyFrom_63 (by decide) ?_
        refine lv_bipush (v := 8) hx hb dX8_copyFrom_64 (by decide) ?_
        have k14 := kI_8
        have k15 := kI_0
        have k16 := kI_0
        refine tc_copyi (rest := []) E hl.1 hG ml_X8_176 kn_copy1 kn_copy2 kn_copy3 hoa10 hoa11 ta_13 ta_13 (by omega) (by omega) (by omega) (by omega) (by omega) ⟨Nat.le_of_ble_eq_true rfl, by decide +kernel⟩ dX8_copyFrom_66 (fun H locs hG oq12 => ?_)
        refine lv_aload_n hx hb dX8_copyFrom_69 rfl (lv_at hl 0 rfl) ?_
        refine lv_aload_n hx hb dX8_copyFrom_70 rfl (lv_at hl 1 rfl) ?_
        refine tc_getF E hG t1 fi_X8_145 rfl dX8_copyFrom_71 (fun z17 lz17 uz17 wz17 => ?_)
        replace wz17 : z17 = Fc h1 3 := wz17
        replace wz17 : z17 = F h1 3 := by rw [wz17, hfr _ _ (by omega)]
        have cz17 : z17.toInt = (F h1 3).toInt := by rw [wz17]
        refine tc_putF (lo := 0) (hi := 8) E hG t0 (by decide) rfl rfl fq_X8_145 (by omega) (by omega) rfl rfl dX8_copyFrom_74 (fun H locs hG => ?_)
        obtain ⟨F18, eF18⟩ : ∃ Z : mF, Z = up2 Fc h0 3 z17 := ⟨_, rfl⟩
        replace hG : tGH (gF G F18) τ s H locs := by rw [eF18]; exact hG
        have E := E.f1 (F' := F18)
        have hSt := hSt.f1 (F' := F18)
        refine lv_aload_n hx hb dX8_copyFrom_77 rfl (lv_at hl 0 rfl) ?_
        refine lv_aload_n hx hb dX8_copyFrom_78 rfl (lv_at hl 1 rfl) ?_
        refine tc_getF E hG t1 fi_X8_40 rfl dX8_copyFrom_79 (fun z19 lz19 uz19 wz19 => ?_)
        replace wz19 : z19 = F18 h1 4 := wz19
        replace wz19 : z19 = F h1 4 := by rw [wz19, eF18, up2_ne (by omega), hfr _ _ (by omega)]
        have cz19 : z19.toInt = (F h1 4).toInt := by rw [wz19]
        refine tc_putF (lo := -2147483648) (hi := 2147483647) E hG t0 (by decide) rfl rfl fq_X8_40 (t_any1 _) (t_any2 _) rfl rfl dX8_copyFrom_82 (fun H locs hG => ?_)
        obtain ⟨F20, eF20⟩ : ∃ Z : mF, Z = up2 F18 h0 4 z19 := ⟨_, rfl⟩
        replace hG : tGH (gF G F20) τ s H locs := by rw [eF20]; exact hG
        have E := E.f1 (F' := F20)
        have hSt := hSt.f1 (F' := F20)
        refine lv_aload_n hx hb dX8_copyFrom_85 rfl (lv_at hl 0 rfl) ?_
        refine lv_aload_n hx hb dX8_copyFrom_86 rfl (lv_at hl 1 rfl) ?_
        refine tc_geti E hG t1 fi_X8_43 dX8_copyFrom_87 (fun z21 _ _ => ?_)
        refine tc_puti E hG t0 fpm_X8_43 (t_any1 _) (t_any2 _) dX8_copyFrom_90 (fun H locs hG => ?_)
        refine lv_aload_n hx hb dX8_copyFrom_93 rfl (lv_at hl 0 rfl) ?_
        refine lv_aload_n hx hb dX8_copyFrom_94 rfl (lv_at hl 1 rfl) ?_
        refine tc_geti E hG t1 fi_X8_122 dX8_copyFrom_95 (fun z22 _ _ => ?_)
        refine tc_puti E hG t0 fpm_X8_122 (t_any1 _) (t_any2 _) dX8_copyFrom_98 (fun H locs hG => ?_)
        refine lv_aload_n hx hb dX8_copyFrom_101 rfl (lv_at hl 0 rfl) ?_
        refine lv_aload_n hx hb dX8_copyFrom_102 rfl (lv_at hl 1 rfl) ?_
        refine tc_geti E hG t1 fi_X8_125 dX8_copyFrom_103 (fun z23 _ _ => ?_)
        refine tc_puti E hG t0 fpm_X8_125 (t_any1 _) (t_any2 _) dX8_copyFrom_106 (fun H locs hG => ?_)
        refine lv_aload_n hx hb dX8_copyFrom_109 rfl (lv_at hl 0 rfl) ?_
        refine lv_aload_n hx hb dX8_copyFrom_110 rfl (lv_at hl 1 rfl) ?_
        refine tc_getF E hG t1 fi_X8_70 rfl dX8_copyFrom_111 (fun z24 lz24 uz24 wz24 => ?_)
        replace wz24 : z24 = F20 h1 8 := wz24
        replace wz24 : z24 = F h1 8 := by rw [wz24, eF20, up2_ne (by omega), eF18, up2_ne (by omega), hfr _ _ (by omega)]
        have cz24 : z24.toInt = (F h1 8).toInt := by rw [wz24]
        refine tc_putF (lo := 0) (hi := 24) E hG t0 (by decide) rfl rfl fq_X8_70 (by omega) (by omega) rfl rfl dX8_copyFrom_114 (fun H locs hG => ?_)
        obtain ⟨F25, eF25⟩ : ∃ Z : mF, Z = up2 F20 h0 8 z24 := ⟨_, rfl⟩
        replace hG : tGH (gF G F25) τ s H locs := by rw [eF25]; exact hG
        have E := E.f1 (F' := F25)
        have hSt := hSt.f1 (F' := F25)
        refine lv_aload_n hx hb dX8_copyFrom_117 rfl (lv_at hl 0 rfl) ?_
        refine lv_aload_n hx hb dX8_copyFrom_118 rfl (lv_at hl 1 rfl) ?_
        refine tc_getF E hG t1 fi_X8_24 rfl dX8_copyFrom_119 (fun z26 lz26 uz26 wz26 => ?_)
        replace wz26 : z26 = F25 h1 9 := wz26
        replace wz26 : z26 = F h1 9 := by rw [wz26, eF25, up2_ne (by omega), eF20, up2_ne (by omega), eF18, up2_ne (by omega), hfr _ _ (by omega)]
        have cz26 : z26.toInt = (F h1 9).toInt := by rw [wz26]
        refine tc_putF (lo := -2147483648) (hi := 2147483647) E hG t0 (by decide) rfl rfl fq_X8_24 (t_any1 _) (t_any2 _) rfl rfl dX8_copyFrom_122 (fun H locs hG => ?_)
        obtain ⟨F27, eF27⟩ : ∃ Z : mF, Z = up2 F25 h0 9 z26 := ⟨_, rfl⟩
        replace hG : tGH (gF G F27) τ s H locs := by rw [eF27]; exact hG
        have E := E.f1 (F' := F27)
        have hSt := hSt.f1 (F' := F27)
        refine lv_aload_n hx hb dX8_copyFrom_125 rfl (lv_at hl 0 rfl) ?_
        refine lv_aload_n hx hb dX8_copyFrom_126 rfl (lv_at hl 1 rfl) ?_
        refine tc_geti E hG t1 fi_X8_28 dX8_copyFrom_127 (fun z28 _ _ => ?_)
        refine tc_puti E hG t0 fpm_X8_28 (t_any1 _) (t_any2 _) dX8_copyFrom_130 (fun H locs hG => ?_)
        refine lv_aload_n hx hb dX8_copyFrom_133 rfl (lv_at hl 0 rfl) ?_
        refine lv_aload_n hx hb dX8_copyFrom_134 rfl (lv_at hl 1 rfl) ?_
        refine tc_geti E hG t1 fi_X8_31 dX8_copyFrom_135 (fun z29 _ _ => ?_)
        refine tc_puti E hG t0 fpm_X8_31 (t_any1 _) (t_any2 _) dX8_copyFrom_138 (fun H locs hG => ?_)
        refine lv_aload_n hx hb dX8_copyFrom_141 rfl (lv_at hl 0 rfl) ?_
        refine lv_aload_n hx hb dX8_copyFrom_142 rfl (lv_at hl 1 rfl) ?_
        refine tc_geti E hG t1 fi_X8_34 dX8_copyFrom_143 (fun z30 _ _ => ?_)
        refine tc_puti E hG t0 fpm_X8_34 (t_any1 _) (t_any2 _) dX8_copyFrom_146 (fun H locs hG => ?_)
        exact tc_vretF E hr hlk hG ⟨⟨(by rw [eF27, up2_ne (by omega), eF25, up2_ne (by omega), eF20, up2_ne (by omega), eF18, up2_at, wz17]), (by rw [eF27, up2_ne (by omega), eF25, up2_ne (by omega), eF20, up2_at, wz19]), (by rw [eF27, up2_ne (by omega), eF25, up2_at, wz24]), (by rw [eF27, up2_at, wz26])⟩, (fun c k hc => by rw [eF27, up2_ne (by omega), eF25, up2_ne (by omega), eF20, up2_ne (by omega), eF18, up2_ne (by omega)]; exact hfr c k (by omega)), (fun i hi => by rw [eF27, up2_ne (by omega), eF25, up2_ne (by omega), eF20, up2_ne (by omega), eF18, up2_ne (by omega)]; exact hn0 i hi), (fun i hi hb => (hcp i (by omega) hb).kept (fun c k hc => by rw [eF27, up2_ne (by omega), eF25, up2_ne (by omega), eF20, up2_ne (by omega), eF18, up2_ne (by omega)]))⟩ dX8_copyFrom_149
      · skip
        have ic2 := tn_nle rfl rfl c2
        refine lv_aload_n hx hb dX8_copyFrom_10 rfl (lv_at hl 1 rfl) ?_
        refine lv_iload_n hx hb dX8_copyFrom_11 rfl (lv_at hl 2 rfl) ?_
        refine tc_callp (tc_runV (As := [.int v2]) (rest := []) E hSt hG (x_X8_has l (gF G Fc) τ h1 v2 t1) t1 rv_2 kv_X8_has ml_X8_55 ⟨rfl, rfl, Nat.le_of_ble_eq_true rfl, Nat.le_of_ble_eq_true rfl⟩ rfl hl.1 rfl (Nat.le_of_ble_eq_true rfl) ⟨Nat.zero_le _, Nat.zero_le _⟩ dX8_copyFrom_12) (fun r31 pr31 => ?_)
        have pr31 : (r31.toInt = 1 ∧ (0 ≤ v2.toInt ∧ v2.toInt ≤ 23 ∧ tB (Fc h1 4) v2.toInt.toNat)) ∨ (r31.toInt = 0 ∧ ¬ (0 ≤ v2.toInt ∧ v2.toInt ≤ 23 ∧ tB (Fc h1 4) v2.toInt.toNat)) := pr31
        rw [show Fc h1 4 = F h1 4 from (by rw [hfr _ _ (by omega)])] at pr31
        refine lv_if_eq (tgt := 33) hx hb dX8_copyFrom_15 (by decide) (fun c32 => ?_) (fun c32 => ?_)
        · skip
          have ic32 := tn_eq rfl kI_0 c32
          obtain ⟨z33, ez33⟩ : ∃ y : Int32, y = v2 + (1) := ⟨_, rfl⟩
          refine lv_iinc (v := z33) (lv' := [(2, .int z33), (0, .ref h0), (1, .ref h1)]) hx hb dX8_copyFrom_33 hl (k := 2) rfl (by rw [ez33]; rfl) (by decide) rfl (fun ls hl => ?_)
          have tz33 := tn_add ez33 rfl kI_1 (by omega) (by omega)
          refine lv_goto (tgt := 2) hx hb dX8_copyFrom_36 (by decide) ?_
          exact ih2 Fc H locs ls z33 hG (lv_sub hl [1, 2, 0] rfl) (by omega) (by omega) (by refine ⟨hfr, hn0, fun i hi hb => ?_⟩; by_cases q9 : (i : Int) = v2.toInt; (exfalso; (have e9 : i = v2.toInt.toNat := (by omega)); rw [e9] at hb; grind); exact hcp i (by omega) hb) (by omega)
        · skip
          have ic32 := tn_ne rfl kI_0 c32
          refine lv_aload_n hx hb dX8_copyFrom_18 rfl (lv_at hl 0 rfl) ?_
          refine tc_getrF (d := 1) E hG t0 frm_X8_11 rfl dX8_copyFrom_19 (fun ha34 => ?_)
          refine lv_iload_n hx hb dX8_copyFrom_22 rfl (lv_at hl 2 rfl) ?_
          refine tc_aald3F (d := 3 + 4 * v2.toNatClampNeg) E hG ha34 ta_40 rfl (t_in (by omega) (by omega)) dX8_copyFrom_23 (fun ha35 => ?_)
          have nv2 : v2.toNatClampNeg = v2.toInt.toNat := rfl
          refine lv_aload_n hx hb dX8_copyFrom_24 rfl (lv_at hl 1 rfl) ?_
          refine tc_getrF (d := 1) E hG t1 fr_X8_11 rfl dX8_copyFrom_25 (fun ha36 => ?_)
          refine lv_iload_n hx hb dX8_copyFrom_28 rfl (lv_at hl 2 rfl) ?_
          refine tc_aald3F (d := 3 + 4 * v2.toNatClampNeg) E hG ha36 ta_10 rfl (t_in (by omega) (by omega)) dX8_copyFrom_29 (fun ha37 => ?_)
          have nv2 : v2.toNatClampNeg = v2.toInt.toNat := rfl
          refine tc_callvF hG (tc_runV (As := [.ref ((h1 + 1) + (3 + 4 * v2.toNatClampNeg))]) (rest := []) E hSt hG (x_X0_copyFrom_m l G Fc τ ((h0 + 1) + (3 + 4 * v2.toNatClampNeg)) ((h1 + 1) + (3 + 4 * v2.toNatClampNeg)) ha35 ha37 (by omega)) ha35 rv_37 kv_X0_copyFrom ml_X8_172 ⟨rfl, rfl, Nat.le_of_ble_eq_true rfl, Nat.le_of_ble_eq_true rfl⟩ rfl hl.1 rfl (Nat.le_of_ble_eq_true rfl) ⟨Nat.zero_le _, Nat.zero_le _⟩ dX8_copyFrom_30) (fun F39 H locs pr38 hG => ?_)
          have E := E.f1 (F' := F39)
          have hSt := hSt.f1 (F' := F39)
          replace pr38 : cpB Fc F39 ((h0 + 1) + (3 + 4 * v2.toNatClampNeg)) ((h1 + 1) + (3 + 4 * v2.toNatClampNeg)) ∧ F39 ((h0 + 1) + (3 + 4 * v2.toNatClampNeg)) 0 = Fc ((h0 + 1) + (3 + 4 * v2.toNatClampNeg)) 0 ∧ ∀ c k : Nat, ¬ (c = ((h0 + 1) + (3 + 4 * v2.toNatClampNeg)) ∨ c = ((h0 + 1) + (3 + 4 * v2.toNatClampNeg)) + 1 ∨ c = ((h0 + 1) + (3 + 4 * v2.toNatClampNeg)) + 2) → F39 c k = Fc c k := pr38
          obtain ⟨z40, ez40⟩ : ∃ y : Int32, y = v2 + (1) := ⟨_, rfl⟩
          refine lv_iinc (v := z40) (lv' := [(2, .int z40), (0, .ref h0), (1, .ref h1)]) hx hb dX8_copyFrom_33 hl (k := 2) rfl (by rw [ez40]; rfl) (by decide) rfl (fun ls hl => ?_)
          have tz40 := tn_add ez40 rfl kI_1 (by omega) (by omega)
          refine lv_goto (tgt := 2) hx hb dX8_copyFrom_36 (by decide) ?_
          exact ih2 F39 H locs ls z40 hG (lv_sub hl [1, 2, 0] rfl) (by omega) (by omega) (by obtain ⟨g1, g2, g3⟩ := pr38; have nv : v2.toNatClampNeg = v2.toInt.toNat := rfl; refine ⟨fun c k hc => (by rw [g3 c k (by omega)]; exact hfr c k hc), fun i hi => ?_, fun i hi hb => ?_⟩; (by_cases q9 : i = v2.toNatClampNeg; (rw [q9]; exact g2.trans (hn0 _ (by omega))); (rw [g3 _ _ (by omega)]; exact hn0 i hi)); (by_cases q9 : i = v2.toNatClampNeg; (rw [q9]; exact g1.from (fun c k hc => hfr c k (by omega))); exact (hcp i (by omega) hb).kept (fun c k hc => g3 c k (by omega)))) (by omega)
  refine lv_iconst (v := 0) hx hb dX8_copyFrom_0 (by decide) ?_
  refine lv_istore_n (lv' := [(2, .int 0), (0, .ref h0), (1, .ref h1)]) hx hb dX8_copyFrom_1 rfl hl (by decide) rfl (fun ls hl => ?_)
  exact J2 ((24 - (0 : Int32).toInt).toNat + 1) F H locs ls (0 : Int32) hG (lv_sub hl [1, 2, 0] rfl) (by decide) (by decide) (by exact ⟨fun c k _ => rfl, fun i _ => rfl, fun i hi => (by have k0 := kI_0; omega)⟩) (Nat.lt_succ_self _)
