theorem kdF_4 {F : mF} {b : Nat} {kd pa sh : Int32} : kdF F b kd pa sh b 4 = kd := by
  unfold kdF
  rw [up2_ne (by omega), up2_ne (by omega), up2_ne (by omega), up2_ne (by omega), up2_ne (by omega), up2_at]
theorem kdF_ne {F : mF} {b c k : Nat} {kd pa sh : Int32} (h : ¬ c = b) : kdF F b kd pa sh c k = F c k := by
  unfold kdF
  rw [up2_ne (by omega), up2_ne (by omega), up2_ne (by omega), up2_ne (by omega), up2_ne (by omega), up2_ne (by omega)]
theorem nuF_ne {F : mF} {b c k : Nat} {v0 v1 v2 v3 : Int32} (h : ¬ c = b + 1) : nuF F b v0 v1 v2 v3 c k = F c k := by
  unfold nuF
  rw [up2_ne (by omega), up2_ne (by omega), up2_ne (by omega), up2_ne (by omega)]
def brF (F : mF) (w : Nat) (kd pa v0 v1 v2 v3 sh : Int32) : mF :=
  let F2 := nuF (kdF (up2 (up2 F w 8 (F w 8 + 1)) w 4 (F w 4 ||| (1 <<< (F w 8 &&& 31)))) (w + 1 + (3 + 4 * (F w 8).toNatClampNeg)) kd pa sh) (w + 1 + (3 + 4 * (F w 8).toNatClampNeg)) v0 v1 v2 v3
  if pa.toInt = -1 then up2 F2 w 9 (F w 8) else adF F2 (w + 1 + (3 + 4 * pa.toNatClampNeg)) (F w 8) (F (w + 1 + (3 + 4 * pa.toNatClampNeg)) 10)

set_option maxHeartbeats 4000000 in
set_option maxRecDepth 100000 in
theorem x_X8_tell (l : Launch) (G : tG) (F : mF) (τ : Nat → Nat) (h0 : Nat) (x1 : Int32) (x2 : Int32) (x3 : Int32) (t0 : τ h0 = 2) (l1 : 0 ≤ x1.toInt) (u1 : x1.toInt ≤ 23) (l2 : 0 ≤ x2.toInt) (u2 : x2.toInt ≤ 6) : Met l yX8_tell (.code yX8_tell cX8_tell 6 (some .int) :: tWS) (tRm 2 47) (va_Pc [.ref h0, .int x1, .int x2, .int x3] (tPre (gF G F) τ)) (tQF G τ (fun r F9 => (x2.toInt = 4 → r = F (h0 + 1 + (3 + 4 * x1.toNatClampNeg)) 7 ∧ F9 = up2 F (h0 + 1 + (3 + 4 * x1.toNatClampNeg)) 7 x3) ∧ (x2.toInt = 5 → r = F (h0 + 1 + (3 + 4 * x1.toNatClampNeg)) 8 ∧ F9 = up2 F (h0 + 1 + (3 + 4 * x1.toNatClampNeg)) 8 x3) ∧ (x2.toInt = 6 → r = F (h0 + 1 + (3 + 4 * x1.toNatClampNeg)) 9 ∧ F9 = up2 F (h0 + 1 + (3 + 4 * x1.toNatClampNeg)) 9 x3) ∧ (x2.toInt < 4 → r = F ((h0 + 1 + (3 + 4 * x1.toNatClampNeg)) + 1) x2.toNatClampNeg ∧ F9 = up2 F ((h0 + 1 + (3 + 4 * x1.toNatClampNeg)) + 1) x2.toNatClampNeg x3))) 0 0 (tA τ) := by
  refine tc_met (by decide) (Nat.le_of_ble_eq_true rfl) ?_
  intro p e s m below meth c E hSt hr hlk hG ls hl
  have hl : lv_has ls 6 [(0, .ref h0), (1, .int x1), (2, .int x2), (3, .int x3)] := hl
  have hx := E.1
  have hb := E.2.1
  obtain ⟨H, eH⟩ : ∃ H, H = s.heap := ⟨_, rfl⟩
  obtain ⟨locs, eL⟩ : ∃ x : List Loc, x = [] := ⟨_, rfl⟩
  have hG : tGH (gF G F) τ s H locs := by rw [eH, eL]; exact hG
  suffices hW : W p l e (tRm 2 47) s m ([.ref h0, .int x1, .int x2, .int x3] : List Value).toArray below meth c H locs 0 0 (MQ below (tQF G τ (fun r F9 => (x2.toInt = 4 → r = F (h0 + 1 + (3 + 4 * x1.toNatClampNeg)) 7 ∧ F9 = up2 F (h0 + 1 + (3 + 4 * x1.toNatClampNeg)) 7 x3) ∧ (x2.toInt = 5 → r = F (h0 + 1 + (3 + 4 * x1.toNatClampNeg)) 8 ∧ F9 = up2 F (h0 + 1 + (3 + 4 * x1.toNatClampNeg)) 8 x3) ∧ (x2.toInt = 6 → r = F (h0 + 1 + (3 + 4 * x1.toNatClampNeg)) 9 ∧ F9 = up2 F (h0 + 1 + (3 + 4 * x1.toNatClampNeg)) 9 x3) ∧ (x2.toInt < 4 → r = F ((h0 + 1 + (3 + 4 * x1.toNatClampNeg)) + 1) x2.toNatClampNeg ∧ F9 = up2 F ((h0 + 1 + (3 + 4 * x1.toNatClampNeg)) + 1) x2.toNatClampNeg x3))) ([.ref h0, .int x1, .int x2, .int x3] : List Value).toArray s 0 0 (tA τ)) (F0 m 0 ls []) by subst eH; subst eL; exact hW
  clear eH eL
  refine lv_aload_n hx hb dX8_tell_0 rfl (lv_at hl 0 rfl) ?_
  refine tc_getrF (d := 1) E hG t0 fr_X8_11 rfl dX8_tell_1 (fun ha1 => ?_)
  refine lv_iload_n hx hb dX8_tell_4 rfl (lv_at hl 1 rfl) ?_
  refine tc_aald3F (d := 3 + 4 * x1.toNatClampNeg) E hG ha1 ta_10 rfl (t_in (by omega) (by omega)) dX8_tell_5 (fun ha2 => ?_)
  have nx1 : x1.toNatClampNeg = x1.toInt.toNat := rfl
  refine lv_astore (lv' := [(4, .ref ((h0 + 1) + (3 + 4 * x1.toNatClampNeg))), (0, .ref h0), (1, .int x1), (2, .int x2), (3, .int x3)]) hx hb dX8_tell_6 hl (by decide) rfl (fun ls hl => ?_)
  refine lv_iload_n hx hb dX8_tell_8 rfl (lv_at hl 3 rfl) ?_
  rcases (show (x2.toInt < 4 ∨ 6 < x2.toInt) ∨ x2.toInt = 4 ∨ x2.toInt = 5 ∨ x2.toInt = 6 by omega) with k3 | k3 | k3 | k3
  · refine lv_tableOut (tgt := 84) hx hb dX8_tell_9 k3 (by decide) ?_
    refine lv_aload hx hb dX8_tell_84 (lv_at hl 0 rfl) ?_
    refine tc_getrF (d := 1) E hG ha2 fr_X8_99 rfl dX8_tell_86 (fun ha4 => ?_)
    refine lv_iload_n hx hb dX8_tell_89 rfl (lv_at hl 3 rfl) ?_
    refine tc_ialdF E hG ha4 ta_11 rfl (t_in (by omega) (by omega)) dX8_tell_90 (fun z5 lz5 uz5 wz5 => ?_)
    replace wz5 : z5 = F (((h0 + 1) + (3 + 4 * x1.toNatClampNeg)) + 1) x2.toNatClampNeg := wz5
    have cz5 : z5.toInt = (F (((h0 + 1) + (3 + 4 * x1.toNatClampNeg)) + 1) x2.toNatClampNeg).toInt := by rw [wz5]
    refine lv_istore (lv' := [(5, .int z5), (4, .ref ((h0 + 1) + (3 + 4 * x1.toNatClampNeg))), (0, .ref h0), (1, .int x1), (2, .int x2), (3, .int x3)]) hx hb dX8_tell_91 hl (by decide) rfl (fun ls hl => ?_)
    refine lv_aload hx hb dX8_tell_93 (lv_at hl 1 rfl) ?_
    refine tc_getrF (d := 1) E hG ha2 fr_X8_99 rfl dX8_tell_95 (fun ha6 => ?_)
    refine lv_iload_n hx hb dX8_tell_98 rfl (lv_at hl 4 rfl) ?_
    refine lv_iload_n hx hb dX8_tell_99 rfl (lv_at hl 5 rfl) ?_
    refine tc_iastF E hG ha6 ta_11 (t_in (by omega) (by omega)) (t_any1 _) (t_any2 _) dX8_tell_100 (fun H locs hG => ?_)
    obtain ⟨F7, eF7⟩ : ∃ Z : mF, Z = up2 F (((h0 + 1) + (3 + 4 * x1.toNatClampNeg)) + 1) x2.toNatClampNeg x3 := ⟨_, rfl⟩
    replace hG : tGH (gF G F7) τ s H locs := by rw [eF7]; exact hG
    have E := E.f1 (F' := F7)
    have hSt := hSt.f1 (F' := F7)
    refine lv_aload_n hx hb dX8_tell_101 rfl (lv_at hl 2 rfl) ?_
    refine lv_iload_n hx hb dX8_tell_102 rfl (lv_at hl 4 rfl) ?_
    refine lv_iconst (v := 4) hx hb dX8_tell_103 (by decide) ?_
    refine lv_icmp_ge (tgt := 111) hx hb dX8_tell_104 (by decide) (fun c8 => ?_) (fun c8 => ?_)
    · skip
      have ic8 := tn_le kI_4 rfl c8
      refine lv_aload hx hb dX8_tell_111 (lv_at hl 1 rfl) ?_
      refine tc_getF E hG ha2 fi_X8_102 rfl dX8_tell_113 (fun z9 lz9 uz9 wz9 => ?_)
      replace wz9 : z9 = F7 ((h0 + 1) + (3 + 4 * x1.toNatClampNeg)) 5 := wz9
      replace wz9 : z9 = F ((h0 + 1) + (3 + 4 * x1.toNatClampNeg)) 5 := by rw [wz9, eF7, up2_ne (by omega)]
      have cz9 : z9.toInt = (F ((h0 + 1) + (3 + 4 * x1.toNatClampNeg)) 5).toInt := by rw [wz9]
      refine tc_callv hG (tc_runV (As := [.int z9]) (rest := []) E hSt hG (c_X8_mark l (gF G F7) τ h0 z9 t0) t0 rv_2 kv_X8_mark ml_X8_87 ⟨rfl, rfl, Nat.le_of_ble_eq_true rfl, Nat.le_of_ble_eq_true rfl⟩ rfl hl.1 rfl (Nat.le_of_ble_eq_true rfl) ⟨Nat.zero_le _, Nat.zero_le _⟩ dX8_tell_116) (fun H locs hG => ?_)
      refine lv_iload hx hb dX8_tell_119 (lv_at hl 0 rfl) ?_
      exact tc_iretF E hr hlk hG rfl ⟨fun q9 => absurd q9 (by omega), fun q9 => absurd q9 (by omega), fun q9 => absurd q9 (by omega), fun q9 => ⟨(by simp only [wz9, wz5]), (by rw [eF7])⟩⟩ dX8_tell_121
    · skip
      have ic8 := tn_nle kI_4 rfl c8
      refine lv_iload_n hx hb dX8_tell_107 rfl (lv_at hl 3 rfl) ?_
      refine lv_goto (tgt := 116) hx hb dX8_tell_108 (by decide) ?_
      refine tc_callv hG (tc_runV (As := [.int x1]) (rest := []) E hSt hG (c_X8_mark l (gF G F7) τ h0 x1 t0) t0 rv_2 kv_X8_mark ml_X8_87 ⟨rfl, rfl, Nat.le_of_ble_eq_true rfl, Nat.le_of_ble_eq_true rfl⟩ rfl hl.1 rfl (Nat.le_of_ble_eq_true rfl) ⟨Nat.zero_le _, Nat.zero_le _⟩ dX8_tell_116) (fun H locs hG => ?_)
      refine lv_iload hx hb dX8_tell_119 (lv_at hl 0 rfl) ?_
      exact tc_iretF E hr hlk hG rfl ⟨fun q9 => absurd q9 (by omega), fun q9 => absurd q9 (by omega), fun q9 => absurd q9 (by omega), fun q9 => ⟨(by simp only [wz5]), (by rw [eF7])⟩⟩ dX8_tell_121
  · refine lv_tableIn (off := 27) (tgt := 36) hx hb dX8_tell_9 (by rw [k3]; decide) (by rw [k3]; decide) (by rw [k3]; rfl) (by decide) ?_
    refine lv_aload hx hb dX8_tell_36 (lv_at hl 0 rfl) ?_
    refine tc_getF E hG ha2 fi_X8_90 rfl dX8_tell_38 (fun z12 lz12 uz12 wz12 => ?_)
    replace wz12 : z12 = F ((h0 + 1) + (3 + 4 * x1.toNatClampNeg)) 7 := wz12
    have cz12 : z12.toInt = (F ((h0 + 1) + (3 + 4 * x1.toNatClampNeg)) 7).toInt := by rw [wz12]
    refine lv_istore (lv' := [(5, .int z12), (4, .ref ((h0 + 1) + (3 + 4 * x1.toNatClampNeg))), (0, .ref h0), (1, .int x1), (2, .int x2), (3, .int x3)]) hx hb dX8_tell_41 hl (by decide) rfl (fun ls hl => ?_)
    refine lv_aload hx hb dX8_tell_43 (lv_at hl 1 rfl) ?_
    refine lv_iload_n hx hb dX8_tell_45 rfl (lv_at hl 5 rfl) ?_
    refine tc_putF (lo := -2147483648) (hi := 2147483647) E hG ha2 (by decide) rfl rfl fq_X8_90 (t_any1 _) (t_any2 _) rfl rfl dX8_tell_46 (fun H locs hG => ?_)
    obtain ⟨F13, eF13⟩ : ∃ Z : mF, Z = up2 F ((h0 + 1) + (3 + 4 * x1.toNatClampNeg)) 7 x3 := ⟨_, rfl⟩
    replace hG : tGH (gF G F13) τ s H locs := by rw [eF13]; exact hG
    have E := E.f1 (F' := F13)
    have hSt := hSt.f1 (F' := F13)
    refine lv_goto (tgt := 101) hx hb dX8_tell_49 (by decide) ?_
    refine lv_aload_n hx hb dX8_tell_101 rfl (lv_at hl 2 rfl) ?_
    refine lv_iload_n hx hb dX8_tell_102 rfl (lv_at hl 4 rfl) ?_
    refine lv_iconst (v := 4) hx hb dX8_tell_103 (by decide) ?_
    refine lv_icmp_ge (tgt := 111) hx hb dX8_tell_104 (by decide) (fun c14 => ?_) (fun c14 => ?_)
    · skip
      have ic14 := tn_le kI_4 rfl c14
      refine lv_aload hx hb dX8_tell_111 (lv_at hl 1 rfl) ?_
      refine tc_getF E hG ha2 fi_X8_102 rfl dX8_tell_113 (fun z15 lz15 uz15 wz15 => ?_)
      replace wz15 : z15 = F13 ((h0 + 1) + (3 + 4 * x1.toNatClampNeg)) 5 := wz15
      replace wz15 : z15 = F ((h0 + 1) + (3 + 4 * x1.toNatClampNeg)) 5 := by rw [wz15, eF13, up2_ne (by omega)]
      have cz15 : z15.toInt = (F ((h0 + 1) + (3 + 4 * x1.toNatClampNeg)) 5).toInt := by rw [wz15]
      refine tc_callv hG (tc_runV (As := [.int z15]) (rest := []) E hSt hG (c_X8_mark l (gF G F13) τ h0 z15 t0) t0 rv_2 kv_X8_mark ml_X8_87 ⟨rfl, rfl, Nat.le_of_ble_eq_true rfl, Nat.le_of_ble_eq_true rfl⟩ rfl hl.1 rfl (Nat.le_of_ble_eq_true rfl) ⟨Nat.zero_le _, Nat.zero_le _⟩ dX8_tell_116) (fun H locs hG => ?_)
      refine lv_iload hx hb dX8_tell_119 (lv_at hl 0 rfl) ?_
      exact tc_iretF E hr hlk hG rfl ⟨fun q9 => ⟨(by simp only [wz15, wz12]), (by rw [eF13])⟩, fun q9 => absurd q9 (by omega), fun q9 => absurd q9 (by omega), fun q9 => absurd q9 (by omega)⟩ dX8_tell_121
    · exfalso
      have ic14 := tn_nle kI_4 rfl c14
      omega
  · refine lv_tableIn (off := 43) (tgt := 52) hx hb dX8_tell_9 (by rw [k3]; decide) (by rw [k3]; decide) (by rw [k3]; rfl) (by decide) ?_
    refine lv_aload hx hb dX8_tell_52 (lv_at hl 0 rfl) ?_
    refine tc_getF E hG ha2 fi_X8_93 rfl dX8_tell_54 (fun z17 lz17 uz17 wz17 => ?_)
    replace wz17 : z17 = F ((h0 + 1) + (3 + 4 * x1.toNatClampNeg)) 8 := wz17
    have cz17 : z17.toInt = (F ((h0 + 1) + (3 + 4 * x1.toNatClampNeg)) 8).toInt := by rw [wz17]
    refine lv_istore (lv' := [(5, .int z17), (4, .ref ((h0 + 1) + (3 + 4 * x1.toNatClampNeg))), (0, .ref h0), (1, .int x1), (2, .int x2), (3, .int x3)]) hx hb dX8_tell_57 hl (by decide) rfl (fun ls hl => ?_)
    refine lv_aload hx hb dX8_tell_59 (lv_at hl 1 rfl) ?_
    refine lv_iload_n hx hb dX8_tell_61 rfl (lv_at hl 5 rfl) ?_
    refine tc_putF (lo := -2147483648) (hi := 2147483647) E hG ha2 (by decide) rfl rfl fq_X8_93 (t_any1 _) (t_any2 _) rfl rfl dX8_tell_62 (fun H locs hG => ?_)
    obtain ⟨F18, eF18⟩ : ∃ Z : mF, Z = up2 F ((h0 + 1) + (3 + 4 * x1.toNatClampNeg)) 8 x3 := ⟨_, rfl⟩
    replace hG : tGH (gF G F18) τ s H locs := by rw [eF18]; exact hG
    have E := E.f1 (F' := F18)
    have hSt := hSt.f1 (F' := F18)
    refine lv_goto (tgt := 101) hx hb dX8_tell_65 (by decide) ?_
    refine lv_aload_n hx hb dX8_tell_101 rfl (lv_at hl 2 rfl) ?_
    refine lv_iload_n hx hb dX8_tell_102 rfl (lv_at hl 4 rfl) ?_
    refine lv_iconst (v := 4) hx hb dX8_tell_103 (by decide) ?_
    refine lv_icmp_ge (tgt := 111) hx hb dX8_tell_104 (by decide) (fun c19 => ?_) (fun c19 => ?_)
    · skip
      have ic19 := tn_le kI_4 rfl c19
      refine lv_aload hx hb dX8_tell_111 (lv_at hl 1 rfl) ?_
      refine tc_getF E hG ha2 fi_X8_102 rfl dX8_tell_113 (fun z20 lz20 uz20 wz20 => ?_)
      replace wz20 : z20 = F18 ((h0 + 1) + (3 + 4 * x1.toNatClampNeg)) 5 := wz20
      replace wz20 : z20 = F ((h0 + 1) + (3 + 4 * x1.toNatClampNeg)) 5 := by rw [wz20, eF18, up2_ne (by omega)]
      have cz20 : z20.toInt = (F ((h0 + 1) + (3 + 4 * x1.toNatClampNeg)) 5).toInt := by rw [wz20]
      refine tc_callv hG (tc_runV (As := [.int z20]) (rest := []) E hSt hG (c_X8_mark l (gF G F18) τ h0 z20 t0) t0 rv_2 kv_X8_mark ml_X8_87 ⟨rfl, rfl, Nat.le_of_ble_eq_true rfl, Nat.le_of_ble_eq_true rfl⟩ rfl hl.1 rfl (Nat.le_of_ble_eq_true rfl) ⟨Nat.zero_le _, Nat.zero_le _⟩ dX8_tell_116) (fun H locs hG => ?_)
      refine lv_iload hx hb dX8_tell_119 (lv_at hl 0 rfl) ?_
      exact tc_iretF E hr hlk hG rfl ⟨fun q9 => absurd q9 (by omega), fun q9 => ⟨(by simp only [wz20, wz17]), (by rw [eF18])⟩, fun q9 => absurd q9 (by omega), fun q9 => absurd q9 (by omega)⟩ dX8_tell_121
    · exfalso
      have ic19 := tn_nle kI_4 rfl c19
      omega
  · refine lv_tableIn (off := 59) (tgt := 68) hx hb dX8_tell_9 (by rw [k3]; decide) (by rw [k3]; decide) (by rw [k3]; rfl) (by decide) ?_
    refine lv_aload hx hb dX8_tell_68 (lv_at hl 0 rfl) ?_
    refine tc_getF E hG ha2 fi_X8_96 rfl dX8_tell_70 (fun z22 lz22 uz22 wz22 => ?_)
    replace wz22 : z22 = F ((h0 + 1) + (3 + 4 * x1.toNatClampNeg)) 9 := wz22
    have cz22 : z22.toInt = (F ((h0 + 1) + (3 + 4 * x1.toNatClampNeg)) 9).toInt := by rw [wz22]
    refine lv_istore (lv' := [(5, .int z22), (4, .ref ((h0 + 1) + (3 + 4 * x1.toNatClampNeg))), (0, .ref h0), (1, .int x1), (2, .int x2), (3, .int x3)]) hx hb dX8_tell_73 hl (by decide) rfl (fun ls hl => ?_)
    refine lv_aload hx hb dX8_tell_75 (lv_at hl 1 rfl) ?_
    refine lv_iload_n hx hb dX8_tell_77 rfl (lv_at hl 5 rfl) ?_
    refine tc_putF (lo := -2147483648) (hi := 2147483647) E hG ha2 (by decide) rfl rfl fq_X8_96 (t_any1 _) (t_any2 _) rfl rfl dX8_tell_78 (fun H locs hG => ?_)
    obtain ⟨F23, eF23⟩ : ∃ Z : mF, Z = up2 F ((h0 + 1) + (3 + 4 * x1.toNatClampNeg)) 9 x3 := ⟨_, rfl⟩
    replace hG : tGH (gF G F23) τ s H locs := by rw [eF23]; exact hG
    have E := E.f1 (F' := F23)
    have hSt := hSt.f1 (F' := F23)
    refine lv_goto (tgt := 101) hx hb dX8_tell_81 (by decide) ?_
    refine lv_aload_n hx hb dX8_tell_101 rfl (lv_at hl 2 rfl) ?_
    refine lv_iload_n hx hb dX8_tell_102 rfl (lv_at hl 4 rfl) ?_
    refine lv_iconst (v := 4) hx hb dX8_tell_103 (by decide) ?_
    refine lv_icmp_ge (tgt := 111) hx hb dX8_tell_104 (by decide) (fun c24 => ?_) (fun c24 => ?_)
    · skip
      have ic24 := tn_le kI_4 rfl c24
      refine lv_aload hx hb dX8_tell_111 (lv_at hl 1 rfl) ?_
      refine tc_getF E hG ha2 fi_X8_102 rfl dX8_tell_113 (fun z25 lz25 uz25 wz25 => ?_)
      replace wz25 : z25 = F23 ((h0 + 1) + (3 + 4 * x1.toNatClampNeg)) 5 := wz25
      replace wz25 : z25 = F ((h0 + 1) + (3 + 4 * x1.toNatClampNeg)) 5 := by rw [wz25, eF23, up2_ne (by omega)]
      have cz25 : z25.toInt = (F ((h0 + 1) + (3 + 4 * x1.toNatClampNeg)) 5).toInt := by rw [wz25]
      refine tc_callv hG (tc_runV (As := [.int z25]) (rest := []) E hSt hG (c_X8_mark l (gF G F23) τ h0 z25 t0) t0 rv_2 kv_X8_mark ml_X8_87 ⟨rfl, rfl, Nat.le_of_ble_eq_true rfl, Nat.le_of_ble_eq_true rfl⟩ rfl hl.1 rfl (Nat.le_of_ble_eq_true rfl) ⟨Nat.zero_le _, Nat.zero_le _⟩ dX8_tell_116) (fun H locs hG => ?_)
      refine lv_iload hx hb dX8_tell_119 (lv_at hl 0 rfl) ?_
      exact tc_iretF E hr hlk hG rfl ⟨fun q9 => absurd q9 (by omega), fun q9 => absurd q9 (by omega), fun q9 => ⟨(by simp only [wz25, wz22]), (by rw [eF23])⟩, fun q9 => absurd q9 (by omega)⟩ dX8_tell_121
    · exfalso
      have ic24 := tn_nle kI_4 rfl c24
      omega

theorem adF_ne {F : mF} {b c k : Nat} {kid pl : Int32} (h : ¬ (c = b ∨ c = b + 2)) : adF F b kid pl c k = F c k := by
  unfold adF
  rw [up2_ne (by omega), up2_ne (by omega), upR_ne (by omega)]

set_option maxHeartbeats 4000000 in
set_option maxRecDepth 100000 in
theorem x_X8_bring (l : Launch) (G : tG) (F : mF) (τ : Nat → Nat) (h0 : Nat) (x1 : Int32) (x2 : Int32) (x3 : Int32) (x4 : Int32) (x5 : Int32) (x6 : Int32) (x7 : Int32) (t0 : τ h0 = 2) (hp : x2.toInt = -1 ∨ (0 ≤ x2.toInt ∧ x2.toInt < (F h0 8).toInt ∧ tB (F h0 4) x2.toInt.toNat)) (hk7 : 0 ≤ x2.toInt → (F (h0 + 1 + (3 + 4 * x2.toNatClampNeg)) 10).toInt ≤ 7) : Met l yX8_bring (.code yX8_bring cX8_bring 10 (some .int) :: tWS) (tRm 3 68) (va_Pc [.ref h0, .int x1, .int x2, .int x3, .int x4, .int x5, .int x6, .int x7] (tPre (gF G F) τ)) (tQF G τ (fun r F9 => ((F h0 8).toInt ≥ 24 ∧ r = -4 ∧ F9 = F) ∨ ((F h0 8).toInt ≤ 23 ∧ r = F h0 8 ∧ ∃ v0 v1 v2 v3 : Int32, F9 = brF F h0 x1 x2 v0 v1 v2 v3 x7 ∧ (v0 = if 0 < nNum x1.toInt then x3 else 0) ∧ (v1 = if 1 < nNum x1.toInt then x4 else 0) ∧ (v2 = if 2 < nNum x1.toInt then x5 else 0) ∧ (v3 = if 3 < nNum x1.toInt then x6 else 0)))) 0 0 (tA τ) := by
  refine tc_met (by decide) (Nat.le_of_ble_eq_true rfl) ?_
  intro p e s m below meth c E hSt hr hlk hG ls hl
  have hl : lv_has ls 10 [(0, .ref h0), (1, .int x1), (2, .int x2), (3, .int x3), (4, .int x4), (5, .int x5), (6, .int x6), (7, .int x7)] := hl
  have hx := E.1
  have hb := E.2.1
  obtain ⟨H, eH⟩ : ∃ H, H = s.heap := ⟨_, rfl⟩
  obtain ⟨locs, eL⟩ : ∃ x : List Loc, x = [] := ⟨_, rfl⟩
  have hG : tGH (gF G F) τ s H locs := by rw [eH, eL]; exact hG
  suffices hW : W p l e (tRm 3 68) s m ([.ref h0, .int x1, .int x2, .int x3, .int x4, .int x5, .int x6, .int x7] : List Value).toArray below meth c H locs 0 0 (MQ below (tQF G τ (fun r F9 => ((F h0 8).toInt ≥ 24 ∧ r = -4 ∧ F9 = F) ∨ ((F h0 8).toInt ≤ 23 ∧ r = F h0 8 ∧ ∃ v0 v1 v2 v3 : Int32, F9 = brF F h0 x1 x2 v0 v1 v2 v3 x7 ∧ (v0 = if 0 < nNum x1.toInt then x3 else 0) ∧ (v1 = if 1 < nNum x1.toInt then x4 else 0) ∧ (v2 = if 2 < nNum x1.toInt then x5 else 0) ∧ (v3 = if 3 < nNum x1.toInt then x6 else 0)))) ([.ref h0, .int x1, .int x2, .int x3, .int x4, .int x5, .int x6, .int x7] : List Value).toArray s 0 0 (tA τ)) (F0 m 0 ls []) by subst eH; subst eL; exact hW
  clear eH eL
  have nx2 : x2.toNatClampNeg = x2.toInt.toNat := rfl
  refine lv_aload_n hx hb dX8_bring_0 rfl (lv_at hl 0 rfl) ?_
  refine tc_getF E hG t0 fi_X8_70 rfl dX8_bring_1 (fun z1 lz1 uz1 wz1 => ?_)
  replace wz1 : z1 = F h0 8 := wz1
  have cz1 : z1.toInt = (F h0 8).toInt := by rw [wz1]
  refine lv_bipush (v := 24) hx hb dX8_bring_4 (by decide) ?_
  refine lv_icmp_lt (tgt := 12) hx hb dX8_bring_6 (by decide) (fun c2 => ?_) (fun c2 => ?_)
  · skip
    have ic2 := tn_lt rfl kI_24 c2
    refine lv_aload_n hx hb dX8_bring_12 rfl (lv_at hl 0 rfl) ?_
    refine tc_getF E hG t0 fi_X8_70 rfl dX8_bring_13 (fun z3 lz3 uz3 wz3 => ?_)
    replace wz3 : z3 = F h0 8 := wz3
    have cz3 : z3.toInt = (F h0 8).toInt := by rw [wz3]
    refine lv_istore (lv' := [(8, .int z3), (0, .ref h0), (1, .int x1), (2, .int x2), (3, .int x3), (4, .int x4), (5, .int x5), (6, .int x6), (7, .int x7)]) hx hb dX8_bring_16 hl (by decide) rfl (fun ls hl => ?_)
    refine lv_aload_n hx hb dX8_bring_18 rfl (lv_at hl 1 rfl) ?_
    refine lv_dup hx hb dX8_bring_19 rfl ?_
    refine tc_getF E hG t0 fi_X8_70 rfl dX8_bring_20 (fun z4 lz4 uz4 wz4 => ?_)
    replace wz4 : z4 = F h0 8 := wz4
    have cz4 : z4.toInt = (F h0 8).toInt := by rw [wz4]
    refine lv_iconst (v := 1) hx hb dX8_bring_23 (by decide) ?_
    refine lv_iadd hx hb dX8_bring_24 ?_
    refine lv_topi (fun z5 ez5 => ?_)
    have tz5 := tn_add ez5 rfl kI_1 (by omega) (by omega)
    refine tc_putF (lo := 0) (hi := 24) E hG t0 (by decide) rfl rfl fq_X8_70 (by omega) (by omega) rfl rfl dX8_bring_25 (fun H locs hG => ?_)
    obtain ⟨F6, eF6⟩ : ∃ Z : mF, Z = up2 F h0 8 z5 := ⟨_, rfl⟩
    replace hG : tGH (gF G F6) τ s H locs := by rw [eF6]; exact hG
    have E := E.f1 (F' := F6)
    have hSt := hSt.f1 (F' := F6)
    refine lv_aload_n hx hb dX8_bring_28 rfl (lv_at hl 1 rfl) ?_
    refine lv_dup hx hb dX8_bring_29 rfl ?_
    refine tc_getF E hG t0 fi_X8_40 rfl dX8_bring_30 (fun z7 lz7 uz7 wz7 => ?_)
    replace wz7 : z7 = F6 h0 4 := wz7
    replace wz7 : z7 = F h0 4 := by rw [wz7, eF6, up2_ne (by omega)]
    have cz7 : z7.toInt = (F h0 4).toInt := by rw [wz7]
    refine lv_iconst (v := 1) hx hb dX8_bring_33 (by decide) ?_
    refine lv_iload hx hb dX8_bring_34 (lv_at hl 0 rfl) ?_
    refine lv_ishl hx hb dX8_bring_36 ?_
    refine lv_topi (fun z8 ez8 => ?_)
    refine lv_ior hx hb dX8_bring_37 ?_
    refine lv_topi (fun z9 ez9 => ?_)
    refine tc_putF (lo := -2147483648) (hi := 2147483647) E hG t0 (by decide) rfl rfl fq_X8_40 (t_any1 _) (t_any2 _) rfl rfl dX8_bring_38 (fun H locs hG => ?_)
    obtain ⟨F10, eF10⟩ : ∃ Z : mF, Z = up2 F6 h0 4 z9 := ⟨_, rfl⟩
    replace hG : tGH (gF G F10) τ s H locs := by rw [eF10]; exact hG
    have E := E.f1 (F' := F10)
    have hSt := hSt.f1 (F' := F10)
    refine lv_aload_n hx hb dX8_bring_41 rfl (lv_at hl 1 rfl) ?_
    refine lv_dup hx hb dX8_bring_42 rfl ?_
    refine tc_geti E hG t0 fi_X8_43 dX8_bring_43 (fun z11 _ _ => ?_)
    refine lv_iconst (v := 1) hx hb dX8_bring_46 (by decide) ?_
    refine lv_iload hx hb dX8_bring_47 (lv_at hl 0 rfl) ?_
    refine lv_ishl hx hb dX8_bring_49 ?_
    refine lv_topi (fun z12 ez12 => ?_)
    refine lv_ior hx hb dX8_bring_50 ?_
    refine lv_topi (fun z13 ez13 => ?_)
    refine tc_puti E hG t0 fp_X8_43 (t_any1 _) (t_any2 _) dX8_bring_51 (fun H locs hG => ?_)
    refine lv_aload_n hx hb dX8_bring_54 rfl (lv_at hl 1 rfl) ?_
    refine tc_getrF (d := 1) E hG t0 fr_X8_11 rfl dX8_bring_55 (fun ha14 => ?_)
    refine lv_iload hx hb dX8_bring_58 (lv_at hl 0 rfl) ?_
    refine tc_aald3F (d := 3 + 4 * z3.toNatClampNeg) E hG ha14 ta_10 rfl (t_in (by omega) (by omega)) dX8_bring_60 (fun ha15 => ?_)
    have nz3 : z3.toNatClampNeg = z3.toInt.toNat := rfl
    refine lv_astore (lv' := [(9, .ref ((h0 + 1) + (3 + 4 * z3.toNatClampNeg))), (8, .int z3), (0, .ref h0), (1, .int x1), (2, .int x2), (3, .int x3), (4, .int x4), (5, .int x5), (6, .int x6), (7, .int x7)]) hx hb dX8_bring_61 hl (by decide) rfl (fun ls hl => ?_)
    refine lv_aload hx hb dX8_bring_63 (lv_at hl 0 rfl) ?_
    refine lv_iload_n hx hb dX8_bring_65 rfl (lv_at hl 3 rfl) ?_
    refine lv_iload_n hx hb dX8_bring_66 rfl (lv_at hl 4 rfl) ?_
    refine lv_aload_n hx hb dX8_bring_67 rfl (lv_at hl 2 rfl) ?_
    refine lv_iload_n hx hb dX8_bring_68 rfl (lv_at hl 4 rfl) ?_
    refine tc_callp (tc_runV (As := [.int x2]) (rest := [.int x2, .int x1, .ref ((h0 + 1) + (3 + 4 * z3.toNatClampNeg))]) E hSt hG (x_X8_has l (gF G F10) τ h0 x2 t0) t0 rv_2 kv_X8_has ml_X8_55 ⟨rfl, rfl, Nat.le_of_ble_eq_true rfl, Nat.le_of_ble_eq_true rfl⟩ rfl hl.1 rfl (Nat.le_of_ble_eq_true rfl) ⟨Nat.zero_le _, Nat.zero_le _⟩ dX8_bring_69) (fun r16 pr16 => ?_)
    have pr16 : (r16.toInt = 1 ∧ (0 ≤ x2.toInt ∧ x2.toInt ≤ 23 ∧ tB (F10 h0 4) x2.toInt.toNat)) ∨ (r16.toInt = 0 ∧ ¬ (0 ≤ x2.toInt ∧ x2.toInt ≤ 23 ∧ tB (F10 h0 4) x2.toInt.toNat)) := pr16
    rw [show F10 h0 4 = z9 from (by rw [eF10, up2_at])] at pr16
    have or16 : tB z9 x2.toInt.toNat ↔ tB (F h0 4) x2.toInt.toNat ∨ x2.toInt.toNat = (F h0 8).toInt.toNat := by simp only [ez13, ez12, ez9, ez8, wz7, ez5, wz4, wz3, wz1]; exact tB_or (by omega) (by omega)
    refine lv_if_eq (tgt := 89) hx hb dX8_bring_72 (by decide) (fun c17 => ?_) (fun c17 => ?_)
    · skip
      have ic17 := tn_eq rfl kI_0 c17
      refine lv_iconst (v := 0) hx hb dX8_bring_89 (by decide) ?_
      refine lv_iload hx hb dX8_bring_90 (lv_at hl 9 rfl) ?_
      refine tc_callvF hG (tc_runV (As := [.int x1, .int x2, .int 0, .int x7]) (rest := []) E hSt hG (x_X0_begin l G F10 τ ((h0 + 1) + (3 + 4 * z3.toNatClampNeg)) x1 x2 (0 : Int32) x7 ha15) ha15 rv_3 kv_X0_begin ml_X8_76 ⟨rfl, rfl, Nat.le_of_ble_eq_true rfl, Nat.le_of_ble_eq_true rfl⟩ rfl hl.1 rfl (Nat.le_of_ble_eq_true rfl) ⟨Nat.zero_le _, Nat.zero_le _⟩ dX8_bring_92) (fun F19 H locs pr18 hG => ?_)
      have E := E.f1 (F' := F19)
      have hSt := hSt.f1 (F' := F19)
      replace pr18 : F19 = kdF F10 ((h0 + 1) + (3 + 4 * z3.toNatClampNeg)) x1 x2 x7 := pr18
      have k20 := kI_0
      refine lv_aload hx hb dX8_bring_95 (lv_at hl 0 rfl) ?_
      refine lv_iload_n hx hb dX8_bring_97 rfl (lv_at hl 5 rfl) ?_
      refine lv_iload hx hb dX8_bring_98 (lv_at hl 6 rfl) ?_
      refine lv_iload hx hb dX8_bring_100 (lv_at hl 7 rfl) ?_
      refine lv_iload hx hb dX8_bring_102 (lv_at hl 8 rfl) ?_
      refine tc_callvF hG (tc_runV (As := [.int x3, .int x4, .int x5, .int x6]) (rest := []) E hSt hG (x_X0_setNumbers l G F19 τ ((h0 + 1) + (3 + 4 * z3.toNatClampNeg)) x3 x4 x5 x6 ha15) ha15 rv_3 kv_X0_setNumbers ml_X8_80 ⟨rfl, rfl, Nat.le_of_ble_eq_true rfl, Nat.le_of_ble_eq_true rfl⟩ rfl hl.1 rfl (Nat.le_of_ble_eq_true rfl) ⟨Nat.zero_le _, Nat.zero_le _⟩ dX8_bring_104) (fun F22 H locs pr21 hG => ?_)
      have E := E.f1 (F' := F22)
      have hSt := hSt.f1 (F' := F22)
      replace pr21 : ∃ v0 v1 v2 v3 : Int32, F22 = nuF F19 ((h0 + 1) + (3 + 4 * z3.toNatClampNeg)) v0 v1 v2 v3 ∧ (v0 = if 0 < nNum (F19 ((h0 + 1) + (3 + 4 * z3.toNatClampNeg)) 4).toInt then x3 else 0) ∧ (v1 = if 1 < nNum (F19 ((h0 + 1) + (3 + 4 * z3.toNatClampNeg)) 4).toInt then x4 else 0) ∧ (v2 = if 2 < nNum (F19 ((h0 + 1) + (3 + 4 * z3.toNatClampNeg)) 4).toInt then x5 else 0) ∧ (v3 = if 3 < nNum (F19 ((h0 + 1) + (3 + 4 * z3.toNatClampNeg)) 4).toInt then x6 else 0) := pr21
      obtain ⟨var21, vbr21, vcr21, vdr21, qr21, qar21, qbr21, qcr21, qdr21⟩ := pr21
      rw [show F19 ((h0 + 1) + (3 + 4 * z3.toNatClampNeg)) 4 = x1 from (by rw [pr18]; exact kdF_4)] at qar21 qbr21 qcr21 qdr21
      refine lv_aload_n hx hb dX8_bring_107 rfl (lv_at hl 2 rfl) ?_
      refine lv_iload_n hx hb dX8_bring_108 rfl (lv_at hl 4 rfl) ?_
      refine tc_callp (tc_runV (As := [.int x2]) (rest := []) E hSt hG (x_X8_has l (gF G F22) τ h0 x2 t0) t0 rv_2 kv_X8_has ml_X8_55 ⟨rfl, rfl, Nat.le_of_ble_eq_true rfl, Nat.le_of_ble_eq_true rfl⟩ rfl hl.1 rfl (Nat.le_of_ble_eq_true rfl) ⟨Nat.zero_le _, Nat.zero_le _⟩ dX8_bring_109) (fun r23 pr23 => ?_)
      have pr23 : (r23.toInt = 1 ∧ (0 ≤ x2.toInt ∧ x2.toInt ≤ 23 ∧ tB (F22 h0 4) x2.toInt.toNat)) ∨ (r23.toInt = 0 ∧ ¬ (0 ≤ x2.toInt ∧ x2.toInt ≤ 23 ∧ tB (F22 h0 4) x2.toInt.toNat)) := pr23
      rw [show F22 h0 4 = z9 from (by rw [qr21, nuF_ne (by omega), pr18, kdF_ne (by omega), eF10, up2_at])] at pr23
      have or23 : tB z9 x2.toInt.toNat ↔ tB (F h0 4) x2.toInt.toNat ∨ x2.toInt.toNat = (F h0 8).toInt.toNat := by simp only [ez13, ez12, ez9, ez8, wz7, ez5, wz4, wz3, wz1]; exact tB_or (by omega) (by omega)
      refine lv_if_eq (tgt := 143) hx hb dX8_bring_112 (by decide) (fun c24 => ?_) (fun c24 => ?_)
      · skip
        have ic24 := tn_eq rfl kI_0 c24
        refine lv_aload_n hx hb dX8_bring_143 rfl (lv_at hl 2 rfl) ?_
        refine lv_iload hx hb dX8_bring_144 (lv_at hl 1 rfl) ?_
        refine tc_putF (lo := -2147483648) (hi := 2147483647) E hG t0 (by decide) rfl rfl fq_X8_24 (t_any1 _) (t_any2 _) rfl rfl dX8_bring_146 (fun H locs hG => ?_)
        obtain ⟨F25, eF25⟩ : ∃ Z : mF, Z = up2 F22 h0 9 z3 := ⟨_, rfl⟩
        replace hG : tGH (gF G F25) τ s H locs := by rw [eF25]; exact hG
        have E := E.f1 (F' := F25)
        have hSt := hSt.f1 (F' := F25)
        refine lv_aload_n hx hb dX8_bring_149 rfl (lv_at hl 2 rfl) ?_
        refine lv_iload hx hb dX8_bring_150 (lv_at hl 1 rfl) ?_
        refine tc_callv hG (tc_runV (As := [.int z3]) (rest := []) E hSt hG (c_X8_mark l (gF G F25) τ h0 z3 t0) t0 rv_2 kv_X8_mark ml_X8_87 ⟨rfl, rfl, Nat.le_of_ble_eq_true rfl, Nat.le_of_ble_eq_true rfl⟩ rfl hl.1 rfl (Nat.le_of_ble_eq_true rfl) ⟨Nat.zero_le _, Nat.zero_le _⟩ dX8_bring_152) (fun H locs hG => ?_)
        refine lv_iload hx hb dX8_bring_155 (lv_at hl 1 rfl) ?_
        exact tc_iretF E hr hlk hG rfl (by first | exact (Or.inr ⟨by omega, by simp only [ez13, ez12, ez9, ez8, wz7, ez5, wz4, wz3, wz1], var21, vbr21, vcr21, vdr21, (by unfold brF; rw [if_pos (by grind), eF25, qr21, pr18, eF10, eF6]; simp only [ez13, ez12, ez9, ez8, wz7, ez5, wz4, wz3, wz1]), qar21, qbr21, qcr21, qdr21⟩) | (exfalso; grind)) dX8_bring_157
      · skip
        have ic24 := tn_ne rfl kI_0 c24
        refine lv_aload_n hx hb dX8_bring_115 rfl (lv_at hl 2 rfl) ?_
        refine tc_getrF (d := 1) E hG t0 fr_X8_11 rfl dX8_bring_116 (fun ha27 => ?_)
        refine lv_iload_n hx hb dX8_bring_119 rfl (lv_at hl 4 rfl) ?_
        refine tc_aald3F (d := 3 + 4 * x2.toNatClampNeg) E hG ha27 ta_10 rfl (t_in (by omega) (by omega)) dX8_bring_120 (fun ha28 => ?_)
        have nx2 : x2.toNatClampNeg = x2.toInt.toNat := rfl
        refine lv_iload hx hb dX8_bring_121 (lv_at hl 1 rfl) ?_
        refine lv_aload_n hx hb dX8_bring_123 rfl (lv_at hl 2 rfl) ?_
        refine tc_getrF (d := 1) E hG t0 fr_X8_11 rfl dX8_bring_124 (fun ha29 => ?_)
        refine lv_iload_n hx hb dX8_bring_127 rfl (lv_at hl 4 rfl) ?_
        refine tc_aald3F (d := 3 + 4 * x2.toNatClampNeg) E hG ha29 ta_10 rfl (t_in (by omega) (by omega)) dX8_bring_128 (fun ha30 => ?_)
        have nx2 : x2.toNatClampNeg = x2.toInt.toNat := rfl
        refine tc_getF E hG ha30 fi_X8_59 rfl dX8_bring_129 (fun z31 lz31 uz31 wz31 => ?_)
        replace wz31 : z31 = F22 ((h0 + 1) + (3 + 4 * x2.toNatClampNeg)) 10 := wz31
        replace wz31 : z31 = F ((h0 + 1) + (3 + 4 * x2.toNatClampNeg)) 10 := by rw [wz31, qr21, nuF_ne (by omega), pr18, kdF_ne (by omega), eF10, up2_ne (by omega), eF6, up2_ne (by omega)]
        have cz31 : z31.toInt = (F ((h0 + 1) + (3 + 4 * x2.toNatClampNeg)) 10).toInt := by rw [wz31]
        refine tc_callvF hG (tc_runV (As := [.int z3, .int z31]) (rest := []) E hSt hG (x_X0_addKid l G F22 τ ((h0 + 1) + (3 + 4 * x2.toNatClampNeg)) z3 z31 ha28 (by omega) (by omega)) ha28 rv_3 kv_X0_addKid ml_X8_83 ⟨rfl, rfl, Nat.le_of_ble_eq_true rfl, Nat.le_of_ble_eq_true rfl⟩ rfl hl.1 rfl (Nat.le_of_ble_eq_true rfl) ⟨Nat.zero_le _, Nat.zero_le _⟩ dX8_bring_132) (fun F33 H locs pr32 hG => ?_)
        have E := E.f1 (F' := F33)
        have hSt := hSt.f1 (F' := F33)
        replace pr32 : (((F22 ((h0 + 1) + (3 + 4 * x2.toNatClampNeg)) 10).toInt ≥ 8 ∨ z31.toInt < 0 ∨ (F22 ((h0 + 1) + (3 + 4 * x2.toNatClampNeg)) 10).toInt < z31.toInt) ∧ F33 = F22) ∨ ((F22 ((h0 + 1) + (3 + 4 * x2.toNatClampNeg)) 10).toInt ≤ 7 ∧ 0 ≤ z31.toInt ∧ z31.toInt ≤ (F22 ((h0 + 1) + (3 + 4 * x2.toNatClampNeg)) 10).toInt ∧ F33 = adF F22 ((h0 + 1) + (3 + 4 * x2.toNatClampNeg)) z3 z31) := pr32
        have rr32 : F22 ((h0 + 1) + (3 + 4 * x2.toNatClampNeg)) 10 = F ((h0 + 1) + (3 + 4 * x2.toNatClampNeg)) 10 := by rw [qr21, nuF_ne (by omega), pr18, kdF_ne (by omega), eF10, up2_ne (by omega), eF6, up2_ne (by omega)]
        have qr32 : F33 = adF F22 ((h0 + 1) + (3 + 4 * x2.toNatClampNeg)) z3 z31 := by rcases pr32 with ⟨q9, _⟩ | ⟨_, _, _, q9⟩; (exfalso; rw [rr32] at q9; omega); exact q9
        refine lv_aload_n hx hb dX8_bring_135 rfl (lv_at hl 2 rfl) ?_
        refine lv_iload_n hx hb dX8_bring_136 rfl (lv_at hl 4 rfl) ?_
        refine tc_callv hG (tc_runV (As := [.int x2]) (rest := []) E hSt hG (c_X8_mark l (gF G F33) τ h0 x2 t0) t0 rv_2 kv_X8_mark ml_X8_87 ⟨rfl, rfl, Nat.le_of_ble_eq_true rfl, Nat.le_of_ble_eq_true rfl⟩ rfl hl.1 rfl (Nat.le_of_ble_eq_true rfl) ⟨Nat.zero_le _, Nat.zero_le _⟩ dX8_bring_137) (fun H locs hG => ?_)
        refine lv_goto (tgt := 155) hx hb dX8_bring_140 (by decide) ?_
        refine lv_iload hx hb dX8_bring_155 (lv_at hl 1 rfl) ?_
        exact tc_iretF E hr hlk hG rfl (by first | exact (Or.inr ⟨by omega, by simp only [wz31, ez13, ez12, ez9, ez8, wz7, ez5, wz4, wz3, wz1], var21, vbr21, vcr21, vdr21, (by unfold brF; rw [if_neg (by grind), qr32, qr21, pr18, eF10, eF6]; simp only [wz31, ez13, ez12, ez9, ez8, wz7, ez5, wz4, wz3, wz1]), qar21, qbr21, qcr21, qdr21⟩) | (exfalso; grind)) dX8_bring_157
    · skip
      have ic17 := tn_ne rfl kI_0 c17
      refine lv_aload_n hx hb dX8_bring_75 rfl (lv_at hl 2 rfl) ?_
      refine tc_getrF (d := 1) E hG t0 fr_X8_11 rfl dX8_bring_76 (fun ha35 => ?_)
      refine lv_iload_n hx hb dX8_bring_79 rfl (lv_at hl 4 rfl) ?_
      refine tc_aald3F (d := 3 + 4 * x2.toNatClampNeg) E hG ha35 ta_10 rfl (t_in (by omega) (by omega)) dX8_bring_80 (fun ha36 => ?_)
      have nx2 : x2.toNatClampNeg = x2.toInt.toNat := rfl
      refine tc_geti E hG ha36 fi_X8_73 dX8_bring_81 (fun z37 _ _ => ?_)
      refine lv_iconst (v := 1) hx hb dX8_bring_84 (by decide) ?_
      refine lv_iadd hx hb dX8_bring_85 ?_
      refine lv_topi (fun z38 ez38 => ?_)
      refine lv_goto (tgt := 90) hx hb dX8_bring_86 (by decide) ?_
      refine lv_iload hx hb dX8_bring_90 (lv_at hl 9 rfl) ?_
      refine tc_callvF hG (tc_runV (As := [.int x1, .int x2, .int z38, .int x7]) (rest := []) E hSt hG (x_X0_begin l G F10 τ ((h0 + 1) + (3 + 4 * z3.toNatClampNeg)) x1 x2 z38 x7 ha15) ha15 rv_3 kv_X0_begin ml_X8_76 ⟨rfl, rfl, Nat.le_of_ble_eq_true rfl, Nat.le_of_ble_eq_true rfl⟩ rfl hl.1 rfl (Nat.le_of_ble_eq_true rfl) ⟨Nat.zero_le _, Nat.zero_le _⟩ dX8_bring_92) (fun F40 H locs pr39 hG => ?_)
      have E := E.f1 (F' := F40)
      have hSt := hSt.f1 (F' := F40)
      replace pr39 : F40 = kdF F10 ((h0 + 1) + (3 + 4 * z3.toNatClampNeg)) x1 x2 x7 := pr39
      refine lv_aload hx hb dX8_bring_95 (lv_at hl 0 rfl) ?_
      refine lv_iload_n hx hb dX8_bring_97 rfl (lv_at hl 5 rfl) ?_
      refine lv_iload hx hb dX8_bring_98 (lv_at hl 6 rfl) ?_
      refine lv_iload hx hb dX8_bring_100 (lv_at hl 7 rfl) ?_
      refine lv_iload hx hb dX8_bring_102 (lv_at hl 8 rfl) ?_
      refine tc_callvF hG (tc_runV (As := [.int x3, .int x4, .int x5, .int x6]) (rest := []) E hSt hG (x_X0_setNumbers l G F40 τ ((h0 + 1) + (3 + 4 * z3.toNatClampNeg)) x3 x4 x5 x6 ha15) ha15 rv_3 kv_X0_setNumbers ml_X8_80 ⟨rfl, rfl, Nat.le_of_ble_eq_true rfl, Nat.le_of_ble_eq_true rfl⟩ rfl hl.1 rfl (Nat.le_of_ble_eq_true rfl) ⟨Nat.zero_le _, Nat.zero_le _⟩ dX8_bring_104) (fun F42 H locs pr41 hG => ?_)
      have E := E.f1 (F' := F42)
      have hSt := hSt.f1 (F' := F42)
      replace pr41 : ∃ v0 v1 v2 v3 : Int32, F42 = nuF F40 ((h0 + 1) + (3 + 4 * z3.toNatClampNeg)) v0 v1 v2 v3 ∧ (v0 = if 0 < nNum (F40 ((h0 + 1) + (3 + 4 * z3.toNatClampNeg)) 4).toInt then x3 else 0) ∧ (v1 = if 1 < nNum (F40 ((h0 + 1) + (3 + 4 * z3.toNatClampNeg)) 4).toInt then x4 else 0) ∧ (v2 = if 2 < nNum (F40 ((h0 + 1) + (3 + 4 * z3.toNatClampNeg)) 4).toInt then x5 else 0) ∧ (v3 = if 3 < nNum (F40 ((h0 + 1) + (3 + 4 * z3.toNatClampNeg)) 4).toInt then x6 else 0) := pr41
      obtain ⟨var41, vbr41, vcr41, vdr41, qr41, qar41, qbr41, qcr41, qdr41⟩ := pr41
      rw [show F40 ((h0 + 1) + (3 + 4 * z3.toNatClampNeg)) 4 = x1 from (by rw [pr39]; exact kdF_4)] at qar41 qbr41 qcr41 qdr41
      refine lv_aload_n hx hb dX8_bring_107 rfl (lv_at hl 2 rfl) ?_
      refine lv_iload_n hx hb dX8_bring_108 rfl (lv_at hl 4 rfl) ?_
      refine tc_callp (tc_runV (As := [.int x2]) (rest := []) E hSt hG (x_X8_has l (gF G F42) τ h0 x2 t0) t0 rv_2 kv_X8_has ml_X8_55 ⟨rfl, rfl, Nat.le_of_ble_eq_true rfl, Nat.le_of_ble_eq_true rfl⟩ rfl hl.1 rfl (Nat.le_of_ble_eq_true rfl) ⟨Nat.zero_le _, Nat.zero_le _⟩ dX8_bring_109) (fun r43 pr43 => ?_)
      have pr43 : (r43.toInt = 1 ∧ (0 ≤ x2.toInt ∧ x2.toInt ≤ 23 ∧ tB (F42 h0 4) x2.toInt.toNat)) ∨ (r43.toInt = 0 ∧ ¬ (0 ≤ x2.toInt ∧ x2.toInt ≤ 23 ∧ tB (F42 h0 4) x2.toInt.toNat)) := pr43
      rw [show F42 h0 4 = z9 from (by rw [qr41, nuF_ne (by omega), pr39, kdF_ne (by omega), eF10, up2_at])] at pr43
      have or43 : tB z9 x2.toInt.toNat ↔ tB (F h0 4) x2.toInt.toNat ∨ x2.toInt.toNat = (F h0 8).toInt.toNat := by simp only [ez38, ez13, ez12, ez9, ez8, wz7, ez5, wz4, wz3, wz1]; exact tB_or (by omega) (by omega)
      refine lv_if_eq (tgt := 143) hx hb dX8_bring_112 (by decide) (fun c44 => ?_) (fun c44 => ?_)
      · skip
        have ic44 := tn_eq rfl kI_0 c44
        refine lv_aload_n hx hb dX8_bring_143 rfl (lv_at hl 2 rfl) ?_
        refine lv_iload hx hb dX8_bring_144 (lv_at hl 1 rfl) ?_
        refine tc_putF (lo := -2147483648) (hi := 2147483647) E hG t0 (by decide) rfl rfl fq_X8_24 (t_any1 _) (t_any2 _) rfl rfl dX8_bring_146 (fun H locs hG => ?_)
        obtain ⟨F45, eF45⟩ : ∃ Z : mF, Z = up2 F42 h0 9 z3 := ⟨_, rfl⟩
        replace hG : tGH (gF G F45) τ s H locs := by rw [eF45]; exact hG
        have E := E.f1 (F' := F45)
        have hSt := hSt.f1 (F' := F45)
        refine lv_aload_n hx hb dX8_bring_149 rfl (lv_at hl 2 rfl) ?_
        refine lv_iload hx hb dX8_bring_150 (lv_at hl 1 rfl) ?_
        refine tc_callv hG (tc_runV (As := [.int z3]) (rest := []) E hSt hG (c_X8_mark l (gF G F45) τ h0 z3 t0) t0 rv_2 kv_X8_mark ml_X8_87 ⟨rfl, rfl, Nat.le_of_ble_eq_true rfl, Nat.le_of_ble_eq_true rfl⟩ rfl hl.1 rfl (Nat.le_of_ble_eq_true rfl) ⟨Nat.zero_le _, Nat.zero_le _⟩ dX8_bring_152) (fun H locs hG => ?_)
        refine lv_iload hx hb dX8_bring_155 (lv_at hl 1 rfl) ?_
        exact tc_iretF E hr hlk hG rfl (by first | exact (Or.inr ⟨by omega, by simp only [ez38, ez13, ez12, ez9, ez8, wz7, ez5, wz4, wz3, wz1], var41, vbr41, vcr41, vdr41, (by unfold brF; rw [if_pos (by grind), eF45, qr41, pr39, eF10, eF6]; simp only [ez38, ez13, ez12, ez9, ez8, wz7, ez5, wz4, wz3, wz1]), qar41, qbr41, qcr41, qdr41⟩) | (exfalso; grind)) dX8_bring_157
      · skip
        have ic44 := tn_ne rfl kI_0 c44
        refine lv_aload_n hx hb dX8_bring_115 rfl (lv_at hl 2 rfl) ?_
        refine tc_getrF (d := 1) E hG t0 fr_X8_11 rfl dX8_bring_116 (fun ha47 => ?_)
        refine lv_iload_n hx hb dX8_bring_119 rfl (lv_at hl 4 rfl) ?_
        refine tc_aald3F (d := 3 + 4 * x2.toNatClampNeg) E hG ha47 ta_10 rfl (t_in (by omega) (by omega)) dX8_bring_120 (fun ha48 => ?_)
        have nx2 : x2.toNatClampNeg = x2.toInt.toNat := rfl
        refine lv_iload hx hb dX8_bring_121 (lv_at hl 1 rfl) ?_
        refine lv_aload_n hx hb dX8_bring_123 rfl (lv_at hl 2 rfl) ?_
        refine tc_getrF (d := 1) E hG t0 fr_X8_11 rfl dX8_bring_124 (fun ha49 => ?_)
        refine lv_iload_n hx hb dX8_bring_127 rfl (lv_at hl 4 rfl) ?_
        refine tc_aald3F (d := 3 + 4 * x2.toNatClampNeg) E hG ha49 ta_10 rfl (t_in (by omega) (by omega)) dX8_bring_128 (fun ha50 => ?_)
        have nx2 : x2.toNatClampNeg = x2.toInt.toNat := rfl
        refine tc_getF E hG ha50 fi_X8_59 rfl dX8_bring_129 (fun z51 lz51 uz51 wz51 => ?_)
        replace wz51 : z51 = F42 ((h0 + 1) + (3 + 4 * x2.toNatClampNeg)) 10 := wz51
        replace wz51 : z51 = F ((h0 + 1) + (3 + 4 * x2.toNatClampNeg)) 10 := by rw [wz51, qr41, nuF_ne (by omega), pr39, kdF_ne (by omega), eF10, up2_ne (by omega), eF6, up2_ne (by omega)]
        have cz51 : z51.toInt = (F ((h0 + 1) + (3 + 4 * x2.toNatClampNeg)) 10).toInt := by rw [wz51]
        refine tc_callvF hG (tc_runV (As := [.int z3, .int z51]) (rest := []) E hSt hG (x_X0_addKid l G F42 τ ((h0 + 1) + (3 + 4 * x2.toNatClampNeg)) z3 z51 ha48 (by omega) (by omega)) ha48 rv_3 kv_X0_addKid ml_X8_83 ⟨rfl, rfl, Nat.le_of_ble_eq_true rfl, Nat.le_of_ble_eq_true rfl⟩ rfl hl.1 rfl (Nat.le_of_ble_eq_true rfl) ⟨Nat.zero_le _, Nat.zero_le _⟩ dX8_bring_132) (fun F53 H locs pr52 hG => ?_)
        have E := E.f1 (F' := F53)
        have hSt := hSt.f1 (F' := F53)
        replace pr52 : (((F42 ((h0 + 1) + (3 + 4 * x2.toNatClampNeg)) 10).toInt ≥ 8 ∨ z51.toInt < 0 ∨ (F42 ((h0 + 1) + (3 + 4 * x2.toNatClampNeg)) 10).toInt < z51.toInt) ∧ F53 = F42) ∨ ((F42 ((h0 + 1) + (3 + 4 * x2.toNatClampNeg)) 10).toInt ≤ 7 ∧ 0 ≤ z51.toInt ∧ z51.toInt ≤ (F42 ((h0 + 1) + (3 + 4 * x2.toNatClampNeg)) 10).toInt ∧ F53 = adF F42 ((h0 + 1) + (3 + 4 * x2.toNatClampNeg)) z3 z51) := pr52
        have rr52 : F42 ((h0 + 1) + (3 + 4 * x2.toNatClampNeg)) 10 = F ((h0 + 1) + (3 + 4 * x2.toNatClampNeg)) 10 := by rw [qr41, nuF_ne (by omega), pr39, kdF_ne (by omega), eF10, up2_ne (by omega), eF6, up2_ne (by omega)]
        have qr52 : F53 = adF F42 ((h0 + 1) + (3 + 4 * x2.toNatClampNeg)) z3 z51 := by rcases pr52 with ⟨q9, _⟩ | ⟨_, _, _, q9⟩; (exfalso; rw [rr52] at q9; omega); exact q9
        refine lv_aload_n hx hb dX8_bring_135 rfl (lv_at hl 2 rfl) ?_
        refine lv_iload_n hx hb dX8_bring_136 rfl (lv_at hl 4 rfl) ?_
        refine tc_callv hG (tc_runV (As := [.int x2]) (rest := []) E hSt hG (c_X8_mark l (gF G F53) τ h0 x2 t0) t0 rv_2 kv_X8_mark ml_X8_87 ⟨rfl, rfl, Nat.le_of_ble_eq_true rfl, Nat.le_of_ble_eq_true rfl⟩ rfl hl.1 rfl (Nat.le_of_ble_eq_true rfl) ⟨Nat.zero_le _, Nat.zero_le _⟩ dX8_bring_137) (fun H locs hG => ?_)
        refine lv_goto (tgt := 155) hx hb dX8_bring_140 (by decide) ?_
        refine lv_iload hx hb dX8_bring_155 (lv_at hl 1 rfl) ?_
        exact tc_iretF E hr hlk hG rfl (by first | exact (Or.inr ⟨by omega, by simp only [wz51, ez38, ez13, ez12, ez9, ez8, wz7, ez5, wz4, wz3, wz1], var41, vbr41, vcr41, vdr41, (by unfold brF; rw [if_neg (by grind), qr52, qr41, pr39, eF10, eF6]; simp only [wz51, ez38, ez13, ez12, ez9, ez8, wz7, ez5, wz4, wz3, wz1]), qar41, qbr41, qcr41, qdr41⟩) | (exfalso; grind)) dX8_bring_157
  · skip
    have ic2 := tn_nlt rfl kI_24 c2
    refine lv_bipush (v := -4) hx hb dX8_bring_9 (by decide) ?_
    exact tc_iretF E hr hlk hG rfl (Or.inl ⟨by omega, rfl, rfl⟩) dX8_bring_11
