theorem kdF_4 {F : mF} {b : Nat} {kd pa sh : Int32} : kdF F b kd pa sh b 4 = kd := by
  unfold kdF
  rw [up2_ne (by omega), up2_ne (by omega), up2_ne (by omega), up2_ne (by omega), up2_ne (by omega), up2_at]
theorem kdF_ne {F : mF} {b c k : Nat} {kd pa sh : Int32} (h : ¬ c = b) : kdF F b kd pa sh c k = F c k := by
  unfold kdF
  rw [up2_ne (by omega), up2_ne (by omega), up2_ne (by omega), up2_ne (by omega), up2_ne (by omega), up2_ne (by omega)]
theorem nuF_ne {F : mF} {b c k : Nat} {v0 v1 v2 v3 : Int32} (h : ¬ c = b + 1) : nuF F b v0 v1 v2 v3 c k = F c k := by
  unfold nuF
  rw [up2_ne (by omega), up2_ne (by omega), up2_ne (by omega), up2_ne (by omega)]
theorem kdM_4 {F : mF} {b : Nat} {kd pa dp sh : Int32} : kdM F b kd pa dp sh b 4 = kd := by
  unfold kdM
  rw [up2_ne (by omega), up2_ne (by omega), up2_ne (by omega), up2_ne (by omega), up2_ne (by omega), up2_ne (by omega), up2_ne (by omega), up2_at]
theorem kdM_ne {F : mF} {b c k : Nat} {kd pa dp sh : Int32} (h : ¬ c = b) : kdM F b kd pa dp sh c k = F c k := by
  unfold kdM
  rw [up2_ne (by omega), up2_ne (by omega), up2_ne (by omega), up2_ne (by omega), up2_ne (by omega), up2_ne (by omega), up2_ne (by omega), up2_ne (by omega)]
def brG (F : mF) (w : Nat) (kd pa dp v0 v1 v2 v3 sh : Int32) : mF :=
  let F2 := nuF (kdM (up2 (up2 F w 8 (F w 8 + 1)) w 4 (F w 4 ||| (1 <<< (F w 8 &&& 31)))) (w + 1 + (3 + 4 * (F w 8).toNatClampNeg)) kd pa dp sh) (w + 1 + (3 + 4 * (F w 8).toNatClampNeg)) v0 v1 v2 v3
  if pa.toInt = -1 then up2 F2 w 9 (F w 8) else adF F2 (w + 1 + (3 + 4 * pa.toNatClampNeg)) (F w 8) (F (w + 1 + (3 + 4 * pa.toNatClampNeg)) 10)
def brF (F : mF) (w : Nat) (kd pa v0 v1 v2 v3 sh : Int32) : mF :=
  let F2 := nuF (kdF (up2 (up2 F w 8 (F w 8 + 1)) w 4 (F w 4 ||| (1 <<< (F w 8 &&& 31)))) (w + 1 + (3 + 4 * (F w 8).toNatClampNeg)) kd pa sh) (w + 1 + (3 + 4 * (F w 8).toNatClampNeg)) v0 v1 v2 v3
  if pa.toInt = -1 then up2 F2 w 9 (F w 8) else adF F2 (w + 1 + (3 + 4 * pa.toNatClampNeg)) (F w 8) (F (w + 1 + (3 + 4 * pa.toNatClampNeg)) 10)

set_option maxHeartbeats 4000000 in
set_option maxRecDepth 100000 in
theorem x_X8_tell (l : Launch) (G : tG) (F : mF) (τ : Nat → Nat) (h0 : Nat) (x1 : Int32) (x2 : Int32) (x3 : Int32) (t0 : τ h0 = 2) (l1 : 0 ≤ x1.toInt) (u1 : x1.toInt ≤ 23) (l2 : 0 ≤ x2.toInt) (u2 : x2.toInt ≤ 6) (hPA : PARF F h0) : Met l yX8_tell (.code yX8_tell cX8_tell 6 (some .int) :: tWS) (tRm 2 47) (va_Pc [.ref h0, .int x1, .int x2, .int x3] (tPre (gF G F) τ)) (tQF G τ (fun r F9 => ∃ Fz : mF, ((x2.toInt = 4 → r = F (h0 + 1 + (3 + 4 * x1.toNatClampNeg)) 7 ∧ Fz = up2 F (h0 + 1 + (3 + 4 * x1.toNatClampNeg)) 7 x3) ∧ (x2.toInt = 5 → r = F (h0 + 1 + (3 + 4 * x1.toNatClampNeg)) 8 ∧ Fz = up2 F (h0 + 1 + (3 + 4 * x1.toNatClampNeg)) 8 x3) ∧ (x2.toInt = 6 → r = F (h0 + 1 + (3 + 4 * x1.toNatClampNeg)) 9 ∧ Fz = up2 F (h0 + 1 + (3 + 4 * x1.toNatClampNeg)) 9 x3) ∧ (x2.toInt < 4 → r = F ((h0 + 1 + (3 + 4 * x1.toNatClampNeg)) + 1) x2.toNatClampNeg ∧ Fz = up2 F ((h0 + 1 + (3 + 4 * x1.toNatClampNeg)) + 1) x2.toNatClampNeg x3)) ∧ MKR Fz F9 h0 (if x2.toInt < 4 then x1 else F (h0 + 1 + (3 + 4 * x1.toNatClampNeg)) 5))) 0 0 (tA τ) := by
  refine tc_met (by decide) (Nat.le_of_ble_eq_true rfl) ?_
  intro p e s m below meth c E hSt hr hlk hG ls hl
  have hl : lv_has ls 6 [(0, .ref h0), (1, .int x1), (2, .int x2), (3, .int x3)] := hl
  have hx := E.1
  have hb := E.2.1
  obtain ⟨H, eH⟩ : ∃ H, H = s.heap := ⟨_, rfl⟩
  obtain ⟨locs, eL⟩ : ∃ x : List Loc, x = [] := ⟨_, rfl⟩
  have hG : tGH (gF G F) τ s H locs := by rw [eH, eL]; exact hG
  suffices hW : W p l e (tRm 2 47) s m ([.ref h0, .int x1, .int x2, .int x3] : List Value).toArray below meth c H locs 0 0 (MQ below (tQF G τ (fun r F9 => ∃ Fz : mF, ((x2.toInt = 4 → r = F (h0 + 1 + (3 + 4 * x1.toNatClampNeg)) 7 ∧ Fz = up2 F (h0 + 1 + (3 + 4 * x1.toNatClampNeg)) 7 x3) ∧ (x2.toInt = 5 → r = F (h0 + 1 + (3 + 4 * x1.toNatClampNeg)) 8 ∧ Fz = up2 F (h0 + 1 + (3 + 4 * x1.toNatClampNeg)) 8 x3) ∧ (x2.toInt = 6 → r = F (h0 + 1 + (3 + 4 * x1.toNatClampNeg)) 9 ∧ Fz = up2 F (h0 + 1 + (3 + 4 * x1.toNatClampNeg)) 9 x3) ∧ (x2.toInt < 4 → r = F ((h0 + 1 + (3 + 4 * x1.toNatClampNeg)) + 1) x2.toNatClampNeg ∧ Fz = up2 F ((h0 + 1 + (3 + 4 * x1.toNatClampNeg)) + 1) x2.toNatClampNeg x3)) ∧ MKR Fz F9 h0 (if x2.toInt < 4 then x1 else F (h0 + 1 + (3 + 4 * x1.toNatClampNeg)) 5))) ([.ref h0, .int x1, .int x2, .int x3] : List Value).toArray s 0 0 (tA τ)) (F0 m 0 ls []) by subst eH; subst eL; exact hW
  clear eH eL
  refine lv_aload_n hx hb dX8_tell_0 rfl (lv_at hl 0 rfl) ?_
  refine tc_getrF (d := 1) E hG t0 fr_X8_11 rfl dX8_tell_1 (fun ha1 => ?_)
  refine lv_iload_n hx hb dX8_tell_4 rfl (lv_at hl 1 rfl) ?_
  refine tc_aald3F (d := 3 + 4 * x1.toNatClampNeg) E hG ha1 ta_10 rfl (t_in (by omega) (by omega)) dX8_tell_5 (fun ha2 => ?_)
  have nx1 : x1.toNatClampNeg = x1.toInt.toNat := rfl
  refine lv_astore (lv' := [(4, .ref ((h0 + 1) + (3 + 4 * x1.toNatClampNeg))), (0, .ref h0), (1, .int x1), (2, .int x2), (3, .int x3)]) hx hb dX8_tell_6 hl (by decide) rfl (fun ls hl => ?_)
  refine lv_iload_n hx hb dX8_tell_8 rfl (lv_at hl 3 rfl) ?_
  rcases (show (x2.toInt < 4 ∨ 6 < x2.toInt) ∨ x2.toInt = 4 ∨ x2.toInt = 5 ∨ x2.toInt = 6 by omega) with k3 | k3 | k3 | k3
  · refine lv_tableOut (tgt := 84) hx hb dX8_tell_9 k3 (by decide) ?_
    refine lv_aload hx hb dX8_tell_84 (lv_at hl 0 rfl) ?_
    refine tc_getrF (d := 1) E hG ha2 fr_X8_99 rfl dX8_tell_86 (fun ha4 => ?_)
    refine lv_iload_n hx hb dX8_tell_89 rfl (lv_at hl 3 rfl) ?_
    refine tc_ialdF E hG ha4 ta_11 rfl (t_in (by omega) (by omega)) dX8_tell_90 (fun z5 lz5 uz5 wz5 => ?_)
    replace wz5 : z5 = F (((h0 + 1) + (3 + 4 * x1.toNatClampNeg)) + 1) x2.toNatClampNeg := wz5
    have cz5 : z5.toInt = (F (((h0 + 1) + (3 + 4 * x1.toNatClampNeg)) + 1) x2.toNatClampNeg).toInt := by rw [wz5]
    refine lv_istore (lv' := [(5, .int z5), (4, .ref ((h0 + 1) + (3 + 4 * x1.toNatClampNeg))), (0, .ref h0), (1, .int x1), (2, .int x2), (3, .int x3)]) hx hb dX8_tell_91 hl (by decide) rfl (fun ls hl => ?_)
    refine lv_aload hx hb dX8_tell_93 (lv_at hl 1 rfl) ?_
    refine tc_getrF (d := 1) E hG ha2 fr_X8_99 rfl dX8_tell_95 (fun ha6 => ?_)
    refine lv_iload_n hx hb dX8_tell_98 rfl (lv_at hl 4 rfl) ?_
    refine lv_iload_n hx hb dX8_tell_99 rfl (lv_at hl 5 rfl) ?_
    refine tc_iastF E hG ha6 ta_11 (t_in (by omega) (by omega)) (t_any1 _) (t_any2 _) dX8_tell_100 (fun H locs hG => ?_)
    obtain ⟨F7, eF7⟩ : ∃ Z : mF, Z = up2 F (((h0 + 1) + (3 + 4 * x1.toNatClampNeg)) + 1) x2.toNatClampNeg x3 := ⟨_, rfl⟩
    replace hG : tGH (gF G F7) τ s H locs := by rw [eF7]; exact hG
    have E := E.f1 (F' := F7)
    have hSt := hSt.f1 (F' := F7)
    refine lv_aload_n hx hb dX8_tell_101 rfl (lv_at hl 2 rfl) ?_
    refine lv_iload_n hx hb dX8_tell_102 rfl (lv_at hl 4 rfl) ?_
    refine lv_iconst (v := 4) hx hb dX8_tell_103 (by decide) ?_
    refine lv_icmp_ge (tgt := 111) hx hb dX8_tell_104 (by decide) (fun c8 => ?_) (fun c8 => ?_)
    · skip
      have ic8 := tn_le kI_4 rfl c8
      refine lv_aload hx hb dX8_tell_111 (lv_at hl 1 rfl) ?_
      refine tc_getF E hG ha2 fi_X8_102 rfl dX8_tell_113 (fun z9 lz9 uz9 wz9 => ?_)
      replace wz9 : z9 = F7 ((h0 + 1) + (3 + 4 * x1.toNatClampNeg)) 5 := wz9
      replace wz9 : z9 = F ((h0 + 1) + (3 + 4 * x1.toNatClampNeg)) 5 := by rw [wz9, eF7, up2_ne (by omega)]
      have cz9 : z9.toInt = (F ((h0 + 1) + (3 + 4 * x1.toNatClampNeg)) 5).toInt := by rw [wz9]
      refine tc_callvF hG (tc_runV (As := [.int z9]) (rest := []) E hSt hG (x_X8_mark l G F7 τ h0 z9 t0 (by rw [eF7]; exact PARF_up2 hPA (by omega) (by omega))) t0 rv_2 kv_X8_mark ml_X8_87 ⟨rfl, rfl, Nat.le_of_ble_eq_true rfl, Nat.le_of_ble_eq_true rfl⟩ rfl hl.1 rfl (Nat.le_of_ble_eq_true rfl) ⟨Nat.zero_le _, Nat.zero_le _⟩ dX8_tell_116) (fun F11 H locs pr10 hG => ?_)
      have E := E.f1 (F' := F11)
      have hSt := hSt.f1 (F' := F11)
      replace pr10 : MKR F7 F11 h0 z9 := pr10
      refine lv_iload hx hb dX8_tell_119 (lv_at hl 0 rfl) ?_
      exact tc_iretF E hr hlk hG rfl (by first | exact ⟨F7, ⟨fun q9 => absurd q9 (by omega), fun q9 => absurd q9 (by omega), fun q9 => absurd q9 (by omega), fun q9 => ⟨(by simp only [wz9, wz5]), (by rw [eF7])⟩⟩, (by rw [if_neg (by omega), ← wz9]; exact pr10)⟩ | (exfalso; omega)) dX8_tell_121
    · skip
      have ic8 := tn_nle kI_4 rfl c8
      refine lv_iload_n hx hb dX8_tell_107 rfl (lv_at hl 3 rfl) ?_
      refine lv_goto (tgt := 116) hx hb dX8_tell_108 (by decide) ?_
      refine tc_callvF hG (tc_runV (As := [.int x1]) (rest := []) E hSt hG (x_X8_mark l G F7 τ h0 x1 t0 (by rw [eF7]; exact PARF_up2 hPA (by omega) (by omega))) t0 rv_2 kv_X8_mark ml_X8_87 ⟨rfl, rfl, Nat.le_of_ble_eq_true rfl, Nat.le_of_ble_eq_true rfl⟩ rfl hl.1 rfl (Nat.le_of_ble_eq_true rfl) ⟨Nat.zero_le _, Nat.zero_le _⟩ dX8_tell_116) (fun F13 H locs pr12 hG => ?_)
      have E := E.f1 (F' := F13)
      have hSt := hSt.f1 (F' := F13)
      replace pr12 : MKR F7 F13 h0 x1 := pr12
      refine lv_iload hx hb dX8_tell_119 (lv_at hl 0 rfl) ?_
      exact tc_iretF E hr hlk hG rfl (by first | exact ⟨F7, ⟨fun q9 => absurd q9 (by omega), fun q9 => absurd q9 (by omega), fun q9 => absurd q9 (by omega), fun q9 => ⟨(by simp only [wz5]), (by rw [eF7])⟩⟩, (by rw [if_pos (by omega)]; exact pr12)⟩ | (exfalso; omega)) dX8_tell_121
  · refine lv_tableIn (off := 27) (tgt := 36) hx hb dX8_tell_9 (by rw [k3]; decide) (by rw [k3]; decide) (by rw [k3]; rfl) (by decide) ?_
    refine lv_aload hx hb dX8_tell_36 (lv_at hl 0 rfl) ?_
    refine tc_getF E hG ha2 fi_X8_90 rfl dX8_tell_38 (fun z14 lz14 uz14 wz14 => ?_)
    replace wz14 : z14 = F ((h0 + 1) + (3 + 4 * x1.toNatClampNeg)) 7 := wz14
    have cz14 : z14.toInt = (F ((h0 + 1) + (3 + 4 * x1.toNatClampNeg)) 7).toInt := by rw [wz14]
    refine lv_istore (lv' := [(5, .int z14), (4, .ref ((h0 + 1) + (3 + 4 * x1.toNatClampNeg))), (0, .ref h0), (1, .int x1), (2, .int x2), (3, .int x3)]) hx hb dX8_tell_41 hl (by decide) rfl (fun ls hl => ?_)
    refine lv_aload hx hb dX8_tell_43 (lv_at hl 1 rfl) ?_
    refine lv_iload_n hx hb dX8_tell_45 rfl (lv_at hl 5 rfl) ?_
    refine tc_putF (lo := -2147483648) (hi := 2147483647) E hG ha2 (by decide) rfl rfl fq_X8_90 (t_any1 _) (t_any2 _) rfl rfl dX8_tell_46 (fun H locs hG => ?_)
    obtain ⟨F15, eF15⟩ : ∃ Z : mF, Z = up2 F ((h0 + 1) + (3 + 4 * x1.toNatClampNeg)) 7 x3 := ⟨_, rfl⟩
    replace hG : tGH (gF G F15) τ s H locs := by rw [eF15]; exact hG
    have E := E.f1 (F' := F15)
    have hSt := hSt.f1 (F' := F15)
    refine lv_goto (tgt := 101) hx hb dX8_tell_49 (by decide) ?_
    refine lv_aload_n hx hb dX8_tell_101 rfl (lv_at hl 2 rfl) ?_
    refine lv_iload_n hx hb dX8_tell_102 rfl (lv_at hl 4 rfl) ?_
    refine lv_iconst (v := 4) hx hb dX8_tell_103 (by decide) ?_
    refine lv_icmp_ge (tgt := 111) hx hb dX8_tell_104 (by decide) (fun c16 => ?_) (fun c16 => ?_)
    · skip
      have ic16 := tn_le kI_4 rfl c16
      refine lv_aload hx hb dX8_tell_111 (lv_at hl 1 rfl) ?_
      refine tc_getF E hG ha2 fi_X8_102 rfl dX8_tell_113 (fun z17 lz17 uz17 wz17 => ?_)
      replace wz17 : z17 = F15 ((h0 + 1) + (3 + 4 * x1.toNatClampNeg)) 5 := wz17
      replace wz17 : z17 = F ((h0 + 1) + (3 + 4 * x1.toNatClampNeg)) 5 := by rw [wz17, eF15, up2_ne (by omega)]
      have cz17 : z17.toInt = (F ((h0 + 1) + (3 + 4 * x1.toNatClampNeg)) 5).toInt := by rw [wz17]
      refine tc_callvF hG (tc_runV (As := [.int z17]) (rest := []) E hSt hG (x_X8_mark l G F15 τ h0 z17 t0 (by rw [eF15]; exact PARF_up2 hPA (by omega) (by omega))) t0 rv_2 kv_X8_mark ml_X8_87 ⟨rfl, rfl, Nat.le_of_ble_eq_true rfl, Nat.le_of_ble_eq_true rfl⟩ rfl hl.1 rfl (Nat.le_of_ble_eq_true rfl) ⟨Nat.zero_le _, Nat.zero_le _⟩ dX8_tell_116) (fun F19 H locs pr18 hG => ?_)
      have E := E.f1 (F' := F19)
      have hSt := hSt.f1 (F' := F19)
      replace pr18 : MKR F15 F19 h0 z17 := pr18
      refine lv_iload hx hb dX8_tell_119 (lv_at hl 0 rfl) ?_
      exact tc_iretF E hr hlk hG rfl (by first | exact ⟨F15, ⟨fun q9 => ⟨(by simp only [wz17, wz14]), (by rw [eF15])⟩, fun q9 => absurd q9 (by omega), fun q9 => absurd q9 (by omega), fun q9 => absurd q9 (by omega)⟩, (by rw [if_neg (by omega), ← wz17]; exact pr18)⟩ | (exfalso; omega)) dX8_tell_121
    · exfalso
      have ic16 := tn_nle kI_4 rfl c16
      omega
  · refine lv_tableIn (off := 43) (tgt := 52) hx hb dX8_tell_9 (by rw [k3]; decide) (by rw [k3]; decide) (by rw [k3]; rfl) (by decide) ?_
    refine lv_aload hx hb dX8_tell_52 (lv_at hl 0 rfl) ?_
    refine tc_getF E hG ha2 fi_X8_93 rfl dX8_tell_54 (fun z20 lz20 uz20 wz20 => ?_)
    replace wz20 : z20 = F ((h0 + 1) + (3 + 4 * x1.toNatClampNeg)) 8 := wz20
    have cz20 : z20.toInt = (F ((h0 + 1) + (3 + 4 * x1.toNatClampNeg)) 8).toInt := by rw [wz20]
    refine lv_istore (lv' := [(5, .int z20), (4, .ref ((h0 + 1) + (3 + 4 * x1.toNatClampNeg))), (0, .ref h0), (1, .int x1), (2, .int x2), (3, .int x3)]) hx hb dX8_tell_57 hl (by decide) rfl (fun ls hl => ?_)
    refine lv_aload hx hb dX8_tell_59 (lv_at hl 1 rfl) ?_
    refine lv_iload_n hx hb dX8_tell_61 rfl (lv_at hl 5 rfl) ?_
    refine tc_putF (lo := -2147483648) (hi := 2147483647) E hG ha2 (by decide) rfl rfl fq_X8_93 (t_any1 _) (t_any2 _) rfl rfl dX8_tell_62 (fun H locs hG => ?_)
    obtain ⟨F21, eF21⟩ : ∃ Z : mF, Z = up2 F ((h0 + 1) + (3 + 4 * x1.toNatClampNeg)) 8 x3 := ⟨_, rfl⟩
    replace hG : tGH (gF G F21) τ s H locs := by rw [eF21]; exact hG
    have E := E.f1 (F' := F21)
    have hSt := hSt.f1 (F' := F21)
    refine lv_goto (tgt := 101) hx hb dX8_tell_65 (by decide) ?_
    refine lv_aload_n hx hb dX8_tell_101 rfl (lv_at hl 2 rfl) ?_
    refine lv_iload_n hx hb dX8_tell_102 rfl (lv_at hl 4 rfl) ?_
    refine lv_iconst (v := 4) hx hb dX8_tell_103 (by decide) ?_
    refine lv_icmp_ge (tgt := 111) hx hb dX8_tell_104 (by decide) (fun c22 => ?_) (fun c22 => ?_)
    · skip
      have ic22 := tn_le kI_4 rfl c22
      refine lv_aload hx hb dX8_tell_111 (lv_at hl 1 rfl) ?_
      refine tc_getF E hG ha2 fi_X8_102 rfl dX8_tell_113 (fun z23 lz23 uz23 wz23 => ?_)
      replace wz23 : z23 = F21 ((h0 + 1) + (3 + 4 * x1.toNatClampNeg)) 5 := wz23
      replace wz23 : z23 = F ((h0 + 1) + (3 + 4 * x1.toNatClampNeg)) 5 := by rw [wz23, eF21, up2_ne (by omega)]
      have cz23 : z23.toInt = (F ((h0 + 1) + (3 + 4 * x1.toNatClampNeg)) 5).toInt := by rw [wz23]
      refine tc_callvF hG (tc_runV (As := [.int z23]) (rest := []) E hSt hG (x_X8_mark l G F21 τ h0 z23 t0 (by rw [eF21]; exact PARF_up2 hPA (by omega) (by omega))) t0 rv_2 kv_X8_mark ml_X8_87 ⟨rfl, rfl, Nat.le_of_ble_eq_true rfl, Nat.le_of_ble_eq_true rfl⟩ rfl hl.1 rfl (Nat.le_of_ble_eq_true rfl) ⟨Nat.zero_le _, Nat.zero_le _⟩ dX8_tell_116) (fun F25 H locs pr24 hG => ?_)
      have E := E.f1 (F' := F25)
      have hSt := hSt.f1 (F' := F25)
      replace pr24 : MKR F21 F25 h0 z23 := pr24
      refine lv_iload hx hb dX8_tell_119 (lv_at hl 0 rfl) ?_
      exact tc_iretF E hr hlk hG rfl (by first | exact ⟨F21, ⟨fun q9 => absurd q9 (by omega), fun q9 => ⟨(by simp only [wz23, wz20]), (by rw [eF21])⟩, fun q9 => absurd q9 (by omega), fun q9 => absurd q9 (by omega)⟩, (by rw [if_neg (by omega), ← wz23]; exact pr24)⟩ | (exfalso; omega)) dX8_tell_121
    · exfalso
      have ic22 := tn_nle kI_4 rfl c22
      omega
  · refine lv_tableIn (off := 59) (tgt := 68) hx hb dX8_tell_9 (by rw [k3]; decide) (by rw [k3]; decide) (by rw [k3]; rfl) (by decide) ?_
    refine lv_aload hx hb dX8_tell_68 (lv_at hl 0 rfl) ?_
    refine tc_getF E hG ha2 fi_X8_96 rfl dX8_tell_70 (fun z26 lz26 uz26 wz26 => ?_)
    replace wz26 : z26 = F ((h0 + 1) + (3 + 4 * x1.toNatClampNeg)) 9 := wz26
    have cz26 : z26.toInt = (F ((h0 + 1) + (3 + 4 * x1.toNatClampNeg)) 9).toInt := by rw [wz26]
    refine lv_istore (lv' := [(5, .int z26), (4, .ref ((h0 + 1) + (3 + 4 * x1.toNatClampNeg))), (0, .ref h0), (1, .int x1), (2, .int x2), (3, .int x3)]) hx hb dX8_tell_73 hl (by decide) rfl (fun ls hl => ?_)
    refine lv_aload hx hb dX8_tell_75 (lv_at hl 1 rfl) ?_
    refine lv_iload_n hx hb dX8_tell_77 rfl (lv_at hl 5 rfl) ?_
    refine tc_putF (lo := -2147483648) (hi := 2147483647) E hG ha2 (by decide) rfl rfl fq_X8_96 (t_any1 _) (t_any2 _) rfl rfl dX8_tell_78 (fun H locs hG => ?_)
    obtain ⟨F27, eF27⟩ : ∃ Z : mF, Z = up2 F ((h0 + 1) + (3 + 4 * x1.toNatClampNeg)) 9 x3 := ⟨_, rfl⟩
    replace hG : tGH (gF G F27) τ s H locs := by rw [eF27]; exact hG
    have E := E.f1 (F' := F27)
    have hSt := hSt.f1 (F' := F27)
    refine lv_goto (tgt := 101) hx hb dX8_tell_81 (by decide) ?_
    refine lv_aload_n hx hb dX8_tell_101 rfl (lv_at hl 2 rfl) ?_
    refine lv_iload_n hx hb dX8_tell_102 rfl (lv_at hl 4 rfl) ?_
    refine lv_iconst (v := 4) hx hb dX8_tell_103 (by decide) ?_
    refine lv_icmp_ge (tgt := 111) hx hb dX8_tell_104 (by decide) (fun c28 => ?_) (fun c28 => ?_)
    · skip
      have ic28 := tn_le kI_4 rfl c28
      refine lv_aload hx hb dX8_tell_111 (lv_at hl 1 rfl) ?_
      refine tc_getF E hG ha2 fi_X8_102 rfl dX8_tell_113 (fun z29 lz29 uz29 wz29 => ?_)
      replace wz29 : z29 = F27 ((h0 + 1) + (3 + 4 * x1.toNatClampNeg)) 5 := wz29
      replace wz29 : z29 = F ((h0 + 1) + (3 + 4 * x1.toNatClampNeg)) 5 := by rw [wz29, eF27, up2_ne (by omega)]
      have cz29 : z29.toInt = (F ((h0 + 1) + (3 + 4 * x1.toNatClampNeg)) 5).toInt := by rw [wz29]
      refine tc_callvF hG (tc_runV (As := [.int z29]) (rest := []) E hSt hG (x_X8_mark l G F27 τ h0 z29 t0 (by rw [eF27]; exact PARF_up2 hPA (by omega) (by omega))) t0 rv_2 kv_X8_mark ml_X8_87 ⟨rfl, rfl, Nat.le_of_ble_eq_true rfl, Nat.le_of_ble_eq_true rfl⟩ rfl hl.1 rfl (Nat.le_of_ble_eq_true rfl) ⟨Nat.zero_le _, Nat.zero_le _⟩ dX8_tell_116) (fun F31 H locs pr30 hG => ?_)
      have E := E.f1 (F' := F31)
      have hSt := hSt.f1 (F' := F31)
      replace pr30 : MKR F27 F31 h0 z29 := pr30
      refine lv_iload hx hb dX8_tell_119 (lv_at hl 0 rfl) ?_
      exact tc_iretF E hr hlk hG rfl (by first | exact ⟨F27, ⟨fun q9 => absurd q9 (by omega), fun q9 => absurd q9 (by omega), fun q9 => ⟨(by simp only [wz29, wz26]), (by rw [eF27])⟩, fun q9 => absurd q9 (by omega)⟩, (by rw [if_neg (by omega), ← wz29]; exact pr30)⟩ | (exfalso; omega)) dX8_tell_121
    · exfalso
      have ic28 := tn_nle kI_4 rfl c28
      omega

theorem adF_ne {F : mF} {b c k : Nat} {kid pl : Int32} (h : ¬ (c = b ∨ c = b + 2)) : adF F b kid pl c k = F c k := by
  unfold adF
  rw [up2_ne (by omega), up2_ne (by omega), upR_ne (by omega)]
theorem kdM_k {F : mF} {b k : Nat} {kd pa dp sh : Int32} : kdM F b kd pa dp sh b k = if k = 6 then dp else if k = 11 then 0 else kdF F b kd pa sh b k := by
  unfold kdM kdF up2
  by_cases h6 : k = 6
  · subst h6; simp
  · by_cases h11 : k = 11
    · subst h11; simp
    · simp [h6, h11]
theorem kdM_kdF {F : mF} {b c k : Nat} {kd pa dp sh : Int32} (h : ¬ (c = b ∧ (k = 6 ∨ k = 11))) : kdM F b kd pa dp sh c k = kdF F b kd pa sh c k := by
  by_cases y : c = b
  · rw [y, kdM_k, if_neg (fun z => h ⟨y, Or.inl z⟩), if_neg (fun z => h ⟨y, Or.inr z⟩)]
  · rw [kdM_ne y, kdF_ne y]
theorem nuF_congr {X Y : mF} {b c k : Nat} {v0 v1 v2 v3 : Int32} (h : X c k = Y c k) : nuF X b v0 v1 v2 v3 c k = nuF Y b v0 v1 v2 v3 c k := by
  simp only [nuF, up2, h]
theorem adF_congr {X Y : mF} {b : Nat} {kid pl : Int32} {S : Nat → Nat → Prop} (h : ∀ c k, ¬ S c k → X c k = Y c k) (h10 : ¬ S b 10) (h2 : ∀ k, ¬ S (b + 2) k) {c k : Nat} (hS : ¬ S c k) : adF X b kid pl c k = adF Y b kid pl c k := by
  have e : ∀ k, X (b + 2) k = Y (b + 2) k := fun k => h _ _ (h2 k)
  simp only [adF, up2, upR, h b 10 h10, h c k hS, e]
/-- but for depth and MEMOS as it was said -/
theorem brG_ne {F : mF} {w c k : Nat} {kd pa dp v0 v1 v2 v3 sh : Int32} (h : ¬ (c = w + 1 + (3 + 4 * (F w 8).toNatClampNeg) ∧ (k = 6 ∨ k = 11))) : brG F w kd pa dp v0 v1 v2 v3 sh c k = brF F w kd pa v0 v1 v2 v3 sh c k := by
  have e2 : ∀ c k, ¬ (c = w + 1 + (3 + 4 * (F w 8).toNatClampNeg) ∧ (k = 6 ∨ k = 11)) → nuF (kdM (up2 (up2 F w 8 (F w 8 + 1)) w 4 (F w 4 ||| (1 <<< (F w 8 &&& 31)))) (w + 1 + (3 + 4 * (F w 8).toNatClampNeg)) kd pa dp sh) (w + 1 + (3 + 4 * (F w 8).toNatClampNeg)) v0 v1 v2 v3 c k = nuF (kdF (up2 (up2 F w 8 (F w 8 + 1)) w 4 (F w 4 ||| (1 <<< (F w 8 &&& 31)))) (w + 1 + (3 + 4 * (F w 8).toNatClampNeg)) kd pa sh) (w + 1 + (3 + 4 * (F w 8).toNatClampNeg)) v0 v1 v2 v3 c k := fun c k h => nuF_congr (kdM_kdF h)
  unfold brG brF
  by_cases z : pa.toInt = -1
  · rw [if_pos z, if_pos z]
    by_cases y : c = w ∧ k = 9
    · rw [y.1, y.2, up2_at, up2_at]
    · rw [up2_ne y, up2_ne y, e2 c k h]
  · rw [if_neg z, if_neg z]
    exact adF_congr (S := fun c k => c = w + 1 + (3 + 4 * (F w 8).toNatClampNeg) ∧ (k = 6 ∨ k = 11)) e2 (by omega) (fun k => by omega) h
theorem brG_at {F : mF} {w k : Nat} {kd pa dp v0 v1 v2 v3 sh : Int32} (hp : pa.toInt = -1 ∨ (0 ≤ pa.toInt ∧ pa.toInt < (F w 8).toInt)) : brG F w kd pa dp v0 v1 v2 v3 sh (w + 1 + (3 + 4 * (F w 8).toNatClampNeg)) k = kdM (up2 (up2 F w 8 (F w 8 + 1)) w 4 (F w 4 ||| (1 <<< (F w 8 &&& 31)))) (w + 1 + (3 + 4 * (F w 8).toNatClampNeg)) kd pa dp sh (w + 1 + (3 + 4 * (F w 8).toNatClampNeg)) k := by
  have ep : pa.toNatClampNeg = pa.toInt.toNat := rfl
  have e8 : (F w 8).toNatClampNeg = (F w 8).toInt.toNat := rfl
  unfold brG
  by_cases z : pa.toInt = -1
  · rw [if_pos z, up2_ne (by omega), nuF_ne (by omega)]
  · rw [if_neg z, adF_ne (by omega), nuF_ne (by omega)]
theorem kdM_5 {F : mF} {b : Nat} {kd pa dp sh : Int32} : kdM F b kd pa dp sh b 5 = pa := by
  unfold kdM
  rw [up2_ne (by omega), up2_ne (by omega), up2_ne (by omega), up2_ne (by omega), up2_ne (by omega), up2_ne (by omega), up2_at]
theorem brG_4 {F : mF} {w : Nat} {kd pa dp v0 v1 v2 v3 sh : Int32} : brG F w kd pa dp v0 v1 v2 v3 sh w 4 = F w 4 ||| (1 <<< (F w 8 &&& 31)) := by
  unfold brG
  by_cases z : pa.toInt = -1
  · rw [if_pos z, up2_ne (by omega), nuF_ne (by omega), kdM_ne (by omega), up2_at]
  · rw [if_neg z, adF_ne (by omega), nuF_ne (by omega), kdM_ne (by omega), up2_at]
theorem adF_km {F : mF} {b k : Nat} {kid pl : Int32} (h : ¬ k = 10) : adF F b kid pl b k = F b k := by
  unfold adF
  rw [up2_ne (by omega), up2_ne (by omega), upR_ne (by omega)]
theorem brG_5 {F : mF} {w n : Nat} {kd pa dp v0 v1 v2 v3 sh : Int32} (h : ¬ n = (F w 8).toNatClampNeg) : brG F w kd pa dp v0 v1 v2 v3 sh (w + 1 + (3 + 4 * n)) 5 = F (w + 1 + (3 + 4 * n)) 5 := by
  unfold brG
  by_cases z : pa.toInt = -1
  · rw [if_pos z, up2_ne (by omega), nuF_ne (by omega), kdM_ne (by omega), up2_ne (by omega), up2_ne (by omega)]
  · rw [if_neg z]
    by_cases y : n = pa.toNatClampNeg
    · rw [y, adF_km (by decide), nuF_ne (by omega), kdM_ne (by omega), up2_ne (by omega), up2_ne (by omega)]
    · rw [adF_ne (by omega), nuF_ne (by omega), kdM_ne (by omega), up2_ne (by omega), up2_ne (by omega)]
theorem PARF_brG {F : mF} {w : Nat} {kd pa dp v0 v1 v2 v3 sh : Int32} (hP : PARF F w) (hp : pa.toInt = -1 ∨ (0 ≤ pa.toInt ∧ pa.toInt < (F w 8).toInt)) (h0 : 0 ≤ (F w 8).toInt) (h23 : (F w 8).toInt ≤ 23) : PARF (brG F w kd pa dp v0 v1 v2 v3 sh) w := fun n hn ha => by
  rw [brG_4, tB_or h0 h23] at ha
  have e8 : (F w 8).toNatClampNeg = (F w 8).toInt.toNat := rfl
  by_cases z : n = (F w 8).toNatClampNeg
  · rw [z, brG_at hp, kdM_5]
    omega
  · rw [brG_5 z]
    exact hP n hn (ha.elim id (fun q => absurd q z))
theorem PARF_ad {F : mF} {w m : Nat} {kid pl : Int32} (hP : PARF F w) : PARF (adF F (w + 1 + (3 + 4 * m)) kid pl) w := PARF_fr hP (fun n hn => by rw [adF_ne (by omega)] at hn; exact hn) (fun n _ _ => by
  by_cases z : n = m
  · rw [z, adF_km (by decide)]
  · rw [adF_ne (by omega)])
/-- who is MARKED when a BOX comes -/
def brX (F F' : mF) (w : Nat) (kd pa v0 v1 v2 v3 sh : Int32) : Prop := ∃ (F1 : mF) (dp : Int32), F1 = brG F w kd pa dp v0 v1 v2 v3 sh ∧ (dp = if pa.toInt = -1 then 0 else F (w + 1 + (3 + 4 * pa.toNatClampNeg)) 6 + 1) ∧ MKR F1 F' w (if pa.toInt = -1 then F w 8 else pa)

set_option maxHeartbeats 4000000 in
set_option maxRecDepth 100000 in
theorem x_X8_bring (l : Launch) (G : tG) (F : mF) (τ : Nat → Nat) (h0 : Nat) (x1 : Int32) (x2 : Int32) (x3 : Int32) (x4 : Int32) (x5 : Int32) (x6 : Int32) (x7 : Int32) (t0 : τ h0 = 2) (hp : x2.toInt = -1 ∨ (0 ≤ x2.toInt ∧ x2.toInt < (F h0 8).toInt ∧ tB (F h0 4) x2.toInt.toNat)) (hk7 : 0 ≤ x2.toInt → (F (h0 + 1 + (3 + 4 * x2.toNatClampNeg)) 10).toInt ≤ 7) (hPA : PARF F h0) : Met l yX8_bring (.code yX8_bring cX8_bring 10 (some .int) :: tWS) (tRm 3 68) (va_Pc [.ref h0, .int x1, .int x2, .int x3, .int x4, .int x5, .int x6, .int x7] (tPre (gF G F) τ)) (tQF G τ (fun r F9 => ((F h0 8).toInt ≥ 24 ∧ r = -4 ∧ F9 = F) ∨ ((F h0 8).toInt ≤ 23 ∧ r = F h0 8 ∧ ∃ v0 v1 v2 v3 : Int32, brX F F9 h0 x1 x2 v0 v1 v2 v3 x7 ∧ (v0 = if 0 < nNum x1.toInt then x3 else 0) ∧ (v1 = if 1 < nNum x1.toInt then x4 else 0) ∧ (v2 = if 2 < nNum x1.toInt then x5 else 0) ∧ (v3 = if 3 < nNum x1.toInt then x6 else 0)))) 0 0 (tA τ) := by
  refine tc_met (by decide) (Nat.le_of_ble_eq_true rfl) ?_
  intro p e s m below meth c E hSt hr hlk hG ls hl
  have hl : lv_has ls 10 [(0, .ref h0), (1, .int x1), (2, .int x2), (3, .int x3), (4, .int x4), (5, .int x5), (6, .int x6), (7, .int x7)] := hl
  have hx := E.1
  have hb := E.2.1
  obtain ⟨H, eH⟩ : ∃ H, H = s.heap := ⟨_, rfl⟩
  obtain ⟨locs, eL⟩ : ∃ x : List Loc, x = [] := ⟨_, rfl⟩
  have hG : tGH (gF G F) τ s H locs := by rw [eH, eL]; exact hG
  suffices hW : W p l e (tRm 3 68) s m ([.ref h0, .int x1, .int x2, .int x3, .int x4, .int x5, .int x6, .int x7] : List Value).toArray below meth c H locs 0 0 (MQ below (tQF G τ (fun r F9 => ((F h0 8).toInt ≥ 24 ∧ r = -4 ∧ F9 = F) ∨ ((F h0 8).toInt ≤ 23 ∧ r = F h0 8 ∧ ∃ v0 v1 v2 v3 : Int32, brX F F9 h0 x1 x2 v0 v1 v2 v3 x7 ∧ (v0 = if 0 < nNum x1.toInt then x3 else 0) ∧ (v1 = if 1 < nNum x1.toInt then x4 else 0) ∧ (v2 = if 2 < nNum x1.toInt then x5 else 0) ∧ (v3 = if 3 < nNum x1.toInt then x6 else 0)))) ([.ref h0, .int x1, .int x2, .int x3, .int x4, .int x5, .int x6, .int x7] : List Value).toArray s 0 0 (tA τ)) (F0 m 0 ls []) by subst eH; subst eL; exact hW
  clear eH eL
  have nx2 : x2.toNatClampNeg = x2.toInt.toNat := rfl
  refine lv_aload_n hx hb dX8_bring_0 rfl (lv_at hl 0 rfl) ?_
  refine tc_getF E hG t0 fi_X8_70 rfl dX8_bring_1 (fun z1 lz1 uz1 wz1 => ?_)
  replace wz1 : z1 = F h0 8 := wz1
  have cz1 : z1.toInt = (F h0 8).toInt := by rw [wz1]
  refine lv_bipush (v := 24) hx hb dX8_bring_4 (by decide) ?_
  refine lv_icmp_lt (tgt := 12) hx hb dX8_bring_6 (by decide) (fun c2 => ?_) (fun c2 => ?_)
  · skip
    have ic2 := tn_lt rfl kI_24 c2
    refine lv_aload_n hx hb dX8_bring_12 rfl (lv_at hl 0 rfl) ?_
    refine tc_getF E hG t0 fi_X8_70 rfl dX8_bring_13 (fun z3 lz3 uz3 wz3 => ?_)
    replace wz3 : z3 = F h0 8 := wz3
    have cz3 : z3.toInt = (F h0 8).toInt := by rw [wz3]
    refine lv_istore (lv' := [(8, .int z3), (0, .ref h0), (1, .int x1), (2, .int x2), (3, .int x3), (4, .int x4), (5, .int x5), (6, .int x6), (7, .int x7)]) hx hb dX8_bring_16 hl (by decide) rfl (fun ls hl => ?_)
    refine lv_aload_n hx hb dX8_bring_18 rfl (lv_at hl 1 rfl) ?_
    refine lv_dup hx hb dX8_bring_19 rfl ?_
    refine tc_getF E hG t0 fi_X8_70 rfl dX8_bring_20 (fun z4 lz4 uz4 wz4 => ?_)
    replace wz4 : z4 = F h0 8 := wz4
    have cz4 : z4.toInt = (F h0 8).toInt := by rw [wz4]
    refine lv_iconst (v := 1) hx hb dX8_bring_23 (by decide) ?_
    refine lv_iadd hx hb dX8_bring_24 ?_
    refine lv_topi (fun z5 ez5 => ?_)
    have tz5 := tn_add ez5 rfl kI_1 (by omega) (by omega)
    refine tc_putF (lo := 0) (hi := 24) E hG t0 (by decide) rfl rfl fq_X8_70 (by omega) (by omega) rfl rfl dX8_bring_25 (fun H locs hG => ?_)
    obtain ⟨F6, eF6⟩ : ∃ Z : mF, Z = up2 F h0 8 z5 := ⟨_, rfl⟩
    replace hG : tGH (gF G F6) τ s H locs := by rw [eF6]; exact hG
    have E := E.f1 (F' := F6)
    have hSt := hSt.f1 (F' := F6)
    refine lv_aload_n hx hb dX8_bring_28 rfl (lv_at hl 1 rfl) ?_
    refine lv_dup hx hb dX8_bring_29 rfl ?_
    refine tc_getF E hG t0 fi_X8_40 rfl dX8_bring_30 (fun z7 lz7 uz7 wz7 => ?_)
    replace wz7 : z7 = F6 h0 4 := wz7
    replace wz7 : z7 = F h0 4 := by rw [wz7, eF6, up2_ne (by omega)]
    have cz7 : z7.toInt = (F h0 4).toInt := by rw [wz7]
    refine lv_iconst (v := 1) hx hb dX8_bring_33 (by decide) ?_
    refine lv_iload hx hb dX8_bring_34 (lv_at hl 0 rfl) ?_
    refine lv_ishl hx hb dX8_bring_36 ?_
    refine lv_topi (fun z8 ez8 => ?_)
    refine lv_ior hx hb dX8_bring_37 ?_
    refine lv_topi (fun z9 ez9 => ?_)
    refine tc_putF (lo := -2147483648) (hi := 2147483647) E hG t0 (by decide) rfl rfl fq_X8_40 (t_any1 _) (t_any2 _) rfl rfl dX8_bring_38 (fun H locs hG => ?_)
    obtain ⟨F10, eF10⟩ : ∃ Z : mF, Z = up2 F6 h0 4 z9 := ⟨_, rfl⟩
    replace hG : tGH (gF G F10) τ s H locs := by rw [eF10]; exact hG
    have E := E.f1 (F' := F10)
    have hSt := hSt.f1 (F' := F10)
    refine lv_aload_n hx hb dX8_bring_41 rfl (lv_at hl 1 rfl) ?_
    refine lv_dup hx hb dX8_bring_42 rfl ?_
    refine tc_geti E hG t0 fi_X8_43 dX8_bring_43 (fun z11 _ _ => ?_)
    refine lv_iconst (v := 1) hx hb dX8_bring_46 (by decide) ?_
    refine lv_iload hx hb dX8_bring_47 (lv_at hl 0 rfl) ?_
    refine lv_ishl hx hb dX8_bring_49 ?_
    refine lv_topi (fun z12 ez12 => ?_)
    refine lv_ior hx hb dX8_bring_50 ?_
    refine lv_topi (fun z13 ez13 => ?_)
    refine tc_puti E hG t0 fp_X8_43 (t_any1 _) (t_any2 _) dX8_bring_51 (fun H locs hG => ?_)
    refine lv_aload_n hx hb dX8_bring_54 rfl (lv_at hl 1 rfl) ?_
    refine tc_getrF (d := 1) E hG t0 fr_X8_11 rfl dX8_bring_55 (fun ha14 => ?_)
    refine lv_iload hx hb dX8_bring_58 (lv_at hl 0 rfl) ?_
    refine tc_aald3F (d := 3 + 4 * z3.toNatClampNeg) E hG ha14 ta_10 rfl (t_in (by omega) (by omega)) dX8_bring_60 (fun ha15 => ?_)
    have nz3 : z3.toNatClampNeg = z3.toInt.toNat := rfl
    refine lv_astore (lv' := [(9, .ref ((h0 + 1) + (3 + 4 * z3.toNatClampNeg))), (8, .int z3), (0, .ref h0), (1, .int x1), (2, .int x2), (3, .int x3), (4, .int x4), (5, .int x5), (6, .int x6), (7, .int x7)]) hx hb dX8_bring_61 hl (by decide) rfl (fun ls hl => ?_)
    refine lv_aload hx hb dX8_bring_63 (lv_at hl 0 rfl) ?_
    refine lv_iload_n hx hb dX8_bring_65 rfl (lv_at hl 3 rfl) ?_
    refine lv_iload_n hx hb dX8_bring_66 rfl (lv_at hl 4 rfl) ?_
    refine lv_aload_n hx hb dX8_bring_67 rfl (lv_at hl 2 rfl) ?_
    refine lv_iload_n hx hb dX8_bring_68 rfl (lv_at hl 4 rfl) ?_
    refine tc_callp (tc_runV (As := [.int x2]) (rest := [.int x2, .int x1, .ref ((h0 + 1) + (3 + 4 * z3.toNatClampNeg))]) E hSt hG (x_X8_has l (gF G F10) τ h0 x2 t0) t0 rv_2 kv_X8_has ml_X8_55 ⟨rfl, rfl, Nat.le_of_ble_eq_true rfl, Nat.le_of_ble_eq_true rfl⟩ rfl hl.1 rfl (Nat.le_of_ble_eq_true rfl) ⟨Nat.zero_le _, Nat.zero_le _⟩ dX8_bring_69) (fun r16 pr16 => ?_)
    have pr16 : (r16.toInt = 1 ∧ (0 ≤ x2.toInt ∧ x2.toInt ≤ 23 ∧ tB (F10 h0 4) x2.toInt.toNat)) ∨ (r16.toInt = 0 ∧ ¬ (0 ≤ x2.toInt ∧ x2.toInt ≤ 23 ∧ tB (F10 h0 4) x2.toInt.toNat)) := pr16
    rw [show F10 h0 4 = z9 from (by rw [eF10, up2_at])] at pr16
    have or16 : tB z9 x2.toInt.toNat ↔ tB (F h0 4) x2.toInt.toNat ∨ x2.toInt.toNat = (F h0 8).toInt.toNat := by simp only [ez13, ez12, ez9, ez8, wz7, ez5, wz4, wz3, wz1]; exact tB_or (by omega) (by omega)
    refine lv_if_eq (tgt := 89) hx hb dX8_bring_72 (by decide) (fun c17 => ?_) (fun c17 => ?_)
    · skip
      have ic17 := tn_eq rfl kI_0 c17
      refine lv_iconst (v := 0) hx hb dX8_bring_89 (by decide) ?_
      refine lv_iload hx hb dX8_bring_90 (lv_at hl 9 rfl) ?_
      refine tc_callvF hG (tc_runV (As := [.int x1, .int x2, .int 0, .int x7]) (rest := []) E hSt hG (x_X0_begin l G F10 τ ((h0 + 1) + (3 + 4 * z3.toNatClampNeg)) x1 x2 (0 : Int32) x7 ha15) ha15 rv_3 kv_X0_begin ml_X8_76 ⟨rfl, rfl, Nat.le_of_ble_eq_true rfl, Nat.le_of_ble_eq_true rfl⟩ rfl hl.1 rfl (Nat.le_of_ble_eq_true rfl) ⟨Nat.zero_le _, Nat.zero_le _⟩ dX8_bring_92) (fun F19 H locs pr18 hG => ?_)
      have E := E.f1 (F' := F19)
      have hSt := hSt.f1 (F' := F19)
      replace pr18 : F19 = kdM F10 ((h0 + 1) + (3 + 4 * z3.toNatClampNeg)) x1 x2 (0 : Int32) x7 := pr18
      have k20 := kI_0
      refine lv_aload hx hb dX8_bring_95 (lv_at hl 0 rfl) ?_
      refine lv_iload_n hx hb dX8_bring_97 rfl (lv_at hl 5 rfl) ?_
      refine lv_iload hx hb dX8_bring_98 (lv_at hl 6 rfl) ?_
      refine lv_iload hx hb dX8_bring_100 (lv_at hl 7 rfl) ?_
      refine lv_iload hx hb dX8_bring_102 (lv_at hl 8 rfl) ?_
      refine tc_callvF hG (tc_runV (As := [.int x3, .int x4, .int x5, .int x6]) (rest := []) E hSt hG (x_X0_setNumbers l G F19 τ ((h0 + 1) + (3 + 4 * z3.toNatClampNeg)) x3 x4 x5 x6 ha15) ha15 rv_3 kv_X0_setNumbers ml_X8_80 ⟨rfl, rfl, Nat.le_of_ble_eq_true rfl, Nat.le_of_ble_eq_true rfl⟩ rfl hl.1 rfl (Nat.le_of_ble_eq_true rfl) ⟨Nat.zero_le _, Nat.zero_le _⟩ dX8_bring_104) (fun F22 H locs pr21 hG => ?_)
      have E := E.f1 (F' := F22)
      have hSt := hSt.f1 (F' := F22)
      replace pr21 : ∃ v0 v1 v2 v3 : Int32, F22 = nuF F19 ((h0 + 1) + (3 + 4 * z3.toNatClampNeg)) v0 v1 v2 v3 ∧ (v0 = if 0 < nNum (F19 ((h0 + 1) + (3 + 4 * z3.toNatClampNeg)) 4).toInt then x3 else 0) ∧ (v1 = if 1 < nNum (F19 ((h0 + 1) + (3 + 4 * z3.toNatClampNeg)) 4).toInt then x4 else 0) ∧ (v2 = if 2 < nNum (F19 ((h0 + 1) + (3 + 4 * z3.toNatClampNeg)) 4).toInt then x5 else 0) ∧ (v3 = if 3 < nNum (F19 ((h0 + 1) + (3 + 4 * z3.toNatClampNeg)) 4).toInt then x6 else 0) := pr21
      obtain ⟨var21, vbr21, vcr21, vdr21, qr21, qar21, qbr21, qcr21, qdr21⟩ := pr21
      rw [show F19 ((h0 + 1) + (3 + 4 * z3.toNatClampNeg)) 4 = x1 from (by rw [pr18]; exact kdM_4)] at qar21 qbr21 qcr21 qdr21
      refine lv_aload_n hx hb dX8_bring_107 rfl (lv_at hl 2 rfl) ?_
      refine lv_iload_n hx hb dX8_bring_108 rfl (lv_at hl 4 rfl) ?_
      refine tc_callp (tc_runV (As := [.int x2]) (rest := []) E hSt hG (x_X8_has l (gF G F22) τ h0 x2 t0) t0 rv_2 kv_X8_has ml_X8_55 ⟨rfl, rfl, Nat.le_of_ble_eq_true rfl, Nat.le_of_ble_eq_true rfl⟩ rfl hl.1 rfl (Nat.le_of_ble_eq_true rfl) ⟨Nat.zero_le _, Nat.zero_le _⟩ dX8_bring_109) (fun r23 pr23 => ?_)
      have pr23 : (r23.toInt = 1 ∧ (0 ≤ x2.toInt ∧ x2.toInt ≤ 23 ∧ tB (F22 h0 4) x2.toInt.toNat)) ∨ (r23.toInt = 0 ∧ ¬ (0 ≤ x2.toInt ∧ x2.toInt ≤ 23 ∧ tB (F22 h0 4) x2.toInt.toNat)) := pr23
      rw [show F22 h0 4 = z9 from (by rw [qr21, nuF_ne (by omega), pr18, kdM_ne (by omega), eF10, up2_at])] at pr23
      have or23 : tB z9 x2.toInt.toNat ↔ tB (F h0 4) x2.toInt.toNat ∨ x2.toInt.toNat = (F h0 8).toInt.toNat := by simp only [ez13, ez12, ez9, ez8, wz7, ez5, wz4, wz3, wz1]; exact tB_or (by omega) (by omega)
      refine lv_if_eq (tgt := 143) hx hb dX8_bring_112 (by decide) (fun c24 => ?_) (fun c24 => ?_)
      · skip
        have ic24 := tn_eq rfl kI_0 c24
        refine lv_aload_n hx hb dX8_bring_143 rfl (lv_at hl 2 rfl) ?_
        refine lv_iload hx hb dX8_bring_144 (lv_at hl 1 rfl) ?_
        refine tc_putF (lo := -2147483648) (hi := 2147483647) E hG t0 (by decide) rfl rfl fq_X8_24 (t_any1 _) (t_any2 _) rfl rfl dX8_bring_146 (fun H locs hG => ?_)
        obtain ⟨F25, eF25⟩ : ∃ Z : mF, Z = up2 F22 h0 9 z3 := ⟨_, rfl⟩
        replace hG : tGH (gF G F25) τ s H locs := by rw [eF25]; exact hG
        have E := E.f1 (F' := F25)
        have hSt := hSt.f1 (F' := F25)
        refine lv_aload_n hx hb dX8_bring_149 rfl (lv_at hl 2 rfl) ?_
        refine lv_iload hx hb dX8_bring_150 (lv_at hl 1 rfl) ?_
        have hbr : F25 = brG F h0 x1 x2 (0 : Int32) var21 vbr21 vcr21 vdr21 x7 := by first | (unfold brG; rw [if_pos (by grind), eF25, qr21, pr18, eF10, eF6]; simp only [ez13, ez12, ez9, ez8, wz7, ez5, wz4, wz3, wz1]) | (exfalso; grind)
        have hdp : (0 : Int32) = (if x2.toInt = -1 then 0 else F (h0 + 1 + (3 + 4 * x2.toNatClampNeg)) 6 + 1) := by first | (rw [if_pos (by grind)]; done) | (rw [if_neg (by grind)]; simp only [ez13, ez12, ez9, ez8, wz7, ez5, wz4, wz3, wz1]; done) | (exfalso; grind)
        refine tc_callvF hG (tc_runV (As := [.int z3]) (rest := []) E hSt hG (x_X8_mark l G F25 τ h0 z3 t0 (by rw [hbr]; exact PARF_brG hPA (hp.imp id (fun q => ⟨q.1, q.2.1⟩)) (by omega) (by omega))) t0 rv_2 kv_X8_mark ml_X8_87 ⟨rfl, rfl, Nat.le_of_ble_eq_true rfl, Nat.le_of_ble_eq_true rfl⟩ rfl hl.1 rfl (Nat.le_of_ble_eq_true rfl) ⟨Nat.zero_le _, Nat.zero_le _⟩ dX8_bring_152) (fun F27 H locs pr26 hG => ?_)
        have E := E.f1 (F' := F27)
        have hSt := hSt.f1 (F' := F27)
        replace pr26 : MKR F25 F27 h0 z3 := pr26
        refine lv_iload hx hb dX8_bring_155 (lv_at hl 1 rfl) ?_
        exact tc_iretF E hr hlk hG rfl (by first | exact (Or.inr ⟨by omega, by simp only [ez13, ez12, ez9, ez8, wz7, ez5, wz4, wz3, wz1], var21, vbr21, vcr21, vdr21, ⟨F25, (0 : Int32), hbr, hdp, (by rw [if_pos (by grind), ← wz3]; exact pr26)⟩, qar21, qbr21, qcr21, qdr21⟩) | (exfalso; grind)) dX8_bring_157
      · skip
        have ic24 := tn_ne rfl kI_0 c24
        refine lv_aload_n hx hb dX8_bring_115 rfl (lv_at hl 2 rfl) ?_
        refine tc_getrF (d := 1) E hG t0 fr_X8_11 rfl dX8_bring_116 (fun ha28 => ?_)
        refine lv_iload_n hx hb dX8_bring_119 rfl (lv_at hl 4 rfl) ?_
        refine tc_aald3F (d := 3 + 4 * x2.toNatClampNeg) E hG ha28 ta_10 rfl (t_in (by omega) (by omega)) dX8_bring_120 (fun ha29 => ?_)
        have nx2 : x2.toNatClampNeg = x2.toInt.toNat := rfl
        refine lv_iload hx hb dX8_bring_121 (lv_at hl 1 rfl) ?_
        refine lv_aload_n hx hb dX8_bring_123 rfl (lv_at hl 2 rfl) ?_
        refine tc_getrF (d := 1) E hG t0 fr_X8_11 rfl dX8_bring_124 (fun ha30 => ?_)
        refine lv_iload_n hx hb dX8_bring_127 rfl (lv_at hl 4 rfl) ?_
        refine tc_aald3F (d := 3 + 4 * x2.toNatClampNeg) E hG ha30 ta_10 rfl (t_in (by omega) (by omega)) dX8_bring_128 (fun ha31 => ?_)
        have nx2 : x2.toNatClampNeg = x2.toInt.toNat := rfl
        refine tc_getF E hG ha31 fi_X8_59 rfl dX8_bring_129 (fun z32 lz32 uz32 wz32 => ?_)
        replace wz32 : z32 = F22 ((h0 + 1) + (3 + 4 * x2.toNatClampNeg)) 10 := wz32
        replace wz32 : z32 = F ((h0 + 1) + (3 + 4 * x2.toNatClampNeg)) 10 := by rw [wz32, qr21, nuF_ne (by omega), pr18, kdM_ne (by omega), eF10, up2_ne (by omega), eF6, up2_ne (by omega)]
        have cz32 : z32.toInt = (F ((h0 + 1) + (3 + 4 * x2.toNatClampNeg)) 10).toInt := by rw [wz32]
        refine tc_callvF hG (tc_runV (As := [.int z3, .int z32]) (rest := []) E hSt hG (x_X0_addKid l G F22 τ ((h0 + 1) + (3 + 4 * x2.toNatClampNeg)) z3 z32 ha29 (by omega) (by omega)) ha29 rv_3 kv_X0_addKid ml_X8_83 ⟨rfl, rfl, Nat.le_of_ble_eq_true rfl, Nat.le_of_ble_eq_true rfl⟩ rfl hl.1 rfl (Nat.le_of_ble_eq_true rfl) ⟨Nat.zero_le _, Nat.zero_le _⟩ dX8_bring_132) (fun F34 H locs pr33 hG => ?_)
        have E := E.f1 (F' := F34)
        have hSt := hSt.f1 (F' := F34)
        replace pr33 : (((F22 ((h0 + 1) + (3 + 4 * x2.toNatClampNeg)) 10).toInt ≥ 8 ∨ z32.toInt < 0 ∨ (F22 ((h0 + 1) + (3 + 4 * x2.toNatClampNeg)) 10).toInt < z32.toInt) ∧ F34 = F22) ∨ ((F22 ((h0 + 1) + (3 + 4 * x2.toNatClampNeg)) 10).toInt ≤ 7 ∧ 0 ≤ z32.toInt ∧ z32.toInt ≤ (F22 ((h0 + 1) + (3 + 4 * x2.toNatClampNeg)) 10).toInt ∧ F34 = adF F22 ((h0 + 1) + (3 + 4 * x2.toNatClampNeg)) z3 z32) := pr33
        have rr33 : F22 ((h0 + 1) + (3 + 4 * x2.toNatClampNeg)) 10 = F ((h0 + 1) + (3 + 4 * x2.toNatClampNeg)) 10 := by rw [qr21, nuF_ne (by omega), pr18, kdM_ne (by omega), eF10, up2_ne (by omega), eF6, up2_ne (by omega)]
        have qr33 : F34 = adF F22 ((h0 + 1) + (3 + 4 * x2.toNatClampNeg)) z3 z32 := by rcases pr33 with ⟨q9, _⟩ | ⟨_, _, _, q9⟩; (exfalso; rw [rr33] at q9; omega); exact q9
        refine lv_aload_n hx hb dX8_bring_135 rfl (lv_at hl 2 rfl) ?_
        refine lv_iload_n hx hb dX8_bring_136 rfl (lv_at hl 4 rfl) ?_
        have hbr : F34 = brG F h0 x1 x2 (0 : Int32) var21 vbr21 vcr21 vdr21 x7 := by first | (unfold brG; rw [if_neg (by grind), qr33, qr21, pr18, eF10, eF6]; simp only [wz32, ez13, ez12, ez9, ez8, wz7, ez5, wz4, wz3, wz1]) | (exfalso; grind)
        have hdp : (0 : Int32) = (if x2.toInt = -1 then 0 else F (h0 + 1 + (3 + 4 * x2.toNatClampNeg)) 6 + 1) := by first | (rw [if_pos (by grind)]; done) | (rw [if_neg (by grind)]; simp only [wz32, ez13, ez12, ez9, ez8, wz7, ez5, wz4, wz3, wz1]; done) | (exfalso; grind)
        refine tc_callvF hG (tc_runV (As := [.int x2]) (rest := []) E hSt hG (x_X8_mark l G F34 τ h0 x2 t0 (by rw [hbr]; exact PARF_brG hPA (hp.imp id (fun q => ⟨q.1, q.2.1⟩)) (by omega) (by omega))) t0 rv_2 kv_X8_mark ml_X8_87 ⟨rfl, rfl, Nat.le_of_ble_eq_true rfl, Nat.le_of_ble_eq_true rfl⟩ rfl hl.1 rfl (Nat.le_of_ble_eq_true rfl) ⟨Nat.zero_le _, Nat.zero_le _⟩ dX8_bring_137) (fun F36 H locs pr35 hG => ?_)
        have E := E.f1 (F' := F36)
        have hSt := hSt.f1 (F' := F36)
        replace pr35 : MKR F34 F36 h0 x2 := pr35
        refine lv_goto (tgt := 155) hx hb dX8_bring_140 (by decide) ?_
        refine lv_iload hx hb dX8_bring_155 (lv_at hl 1 rfl) ?_
        exact tc_iretF E hr hlk hG rfl (by first | exact (Or.inr ⟨by omega, by simp only [wz32, ez13, ez12, ez9, ez8, wz7, ez5, wz4, wz3, wz1], var21, vbr21, vcr21, vdr21, ⟨F34, (0 : Int32), hbr, hdp, (by rw [if_neg (by grind)]; exact pr35)⟩, qar21, qbr21, qcr21, qdr21⟩) | (exfalso; grind)) dX8_bring_157
    · skip
      have ic17 := tn_ne rfl kI_0 c17
      refine lv_aload_n hx hb dX8_bring_75 rfl (lv_at hl 2 rfl) ?_
      refine tc_getrF (d := 1) E hG t0 fr_X8_11 rfl dX8_bring_76 (fun ha37 => ?_)
      refine lv_iload_n hx hb dX8_bring_79 rfl (lv_at hl 4 rfl) ?_
      refine tc_aald3F (d := 3 + 4 * x2.toNatClampNeg) E hG ha37 ta_10 rfl (t_in (by omega) (by omega)) dX8_bring_80 (fun ha38 => ?_)
      have nx2 : x2.toNatClampNeg = x2.toInt.toNat := rfl
      refine tc_getF E hG ha38 fi_X8_73 rfl dX8_bring_81 (fun z39 lz39 uz39 wz39 => ?_)
      replace wz39 : z39 = F10 ((h0 + 1) + (3 + 4 * x2.toNatClampNeg)) 6 := wz39
      replace wz39 : z39 = F ((h0 + 1) + (3 + 4 * x2.toNatClampNeg)) 6 := by rw [wz39, eF10, up2_ne (by omega), eF6, up2_ne (by omega)]
      have cz39 : z39.toInt = (F ((h0 + 1) + (3 + 4 * x2.toNatClampNeg)) 6).toInt := by rw [wz39]
      refine lv_iconst (v := 1) hx hb dX8_bring_84 (by decide) ?_
      refine lv_iadd hx hb dX8_bring_85 ?_
      refine lv_topi (fun z40 ez40 => ?_)
      refine lv_goto (tgt := 90) hx hb dX8_bring_86 (by decide) ?_
      refine lv_iload hx hb dX8_bring_90 (lv_at hl 9 rfl) ?_
      refine tc_callvF hG (tc_runV (As := [.int x1, .int x2, .int z40, .int x7]) (rest := []) E hSt hG (x_X0_begin l G F10 τ ((h0 + 1) + (3 + 4 * z3.toNatClampNeg)) x1 x2 z40 x7 ha15) ha15 rv_3 kv_X0_begin ml_X8_76 ⟨rfl, rfl, Nat.le_of_ble_eq_true rfl, Nat.le_of_ble_eq_true rfl⟩ rfl hl.1 rfl (Nat.le_of_ble_eq_true rfl) ⟨Nat.zero_le _, Nat.zero_le _⟩ dX8_bring_92) (fun F42 H locs pr41 hG => ?_)
      have E := E.f1 (F' := F42)
      have hSt := hSt.f1 (F' := F42)
      replace pr41 : F42 = kdM F10 ((h0 + 1) + (3 + 4 * z3.toNatClampNeg)) x1 x2 z40 x7 := pr41
      refine lv_aload hx hb dX8_bring_95 (lv_at hl 0 rfl) ?_
      refine lv_iload_n hx hb dX8_bring_97 rfl (lv_at hl 5 rfl) ?_
      refine lv_iload hx hb dX8_bring_98 (lv_at hl 6 rfl) ?_
      refine lv_iload hx hb dX8_bring_100 (lv_at hl 7 rfl) ?_
      refine lv_iload hx hb dX8_bring_102 (lv_at hl 8 rfl) ?_
      refine tc_callvF hG (tc_runV (As := [.int x3, .int x4, .int x5, .int x6]) (rest := []) E hSt hG (x_X0_setNumbers l G F42 τ ((h0 + 1) + (3 + 4 * z3.toNatClampNeg)) x3 x4 x5 x6 ha15) ha15 rv_3 kv_X0_setNumbers ml_X8_80 ⟨rfl, rfl, Nat.le_of_ble_eq_true rfl, Nat.le_of_ble_eq_true rfl⟩ rfl hl.1 rfl (Nat.le_of_ble_eq_true rfl) ⟨Nat.zero_le _, Nat.zero_le _⟩ dX8_bring_104) (fun F44 H locs pr43 hG => ?_)
      have E := E.f1 (F' := F44)
      have hSt := hSt.f1 (F' := F44)
      replace pr43 : ∃ v0 v1 v2 v3 : Int32, F44 = nuF F42 ((h0 + 1) + (3 + 4 * z3.toNatClampNeg)) v0 v1 v2 v3 ∧ (v0 = if 0 < nNum (F42 ((h0 + 1) + (3 + 4 * z3.toNatClampNeg)) 4).toInt then x3 else 0) ∧ (v1 = if 1 < nNum (F42 ((h0 + 1) + (3 + 4 * z3.toNatClampNeg)) 4).toInt then x4 else 0) ∧ (v2 = if 2 < nNum (F42 ((h0 + 1) + (3 + 4 * z3.toNatClampNeg)) 4).toInt then x5 else 0) ∧ (v3 = if 3 < nNum (F42 ((h0 + 1) + (3 + 4 * z3.toNatClampNeg)) 4).toInt then x6 else 0) := pr43
      obtain ⟨var43, vbr43, vcr43, vdr43, qr43, qar43, qbr43, qcr43, qdr43⟩ := pr43
      rw [show F42 ((h0 + 1) + (3 + 4 * z3.toNatClampNeg)) 4 = x1 from (by rw [pr41]; exact kdM_4)] at qar43 qbr43 qcr43 qdr43
      refine lv_aload_n hx hb dX8_bring_107 rfl (lv_at hl 2 rfl) ?_
      refine lv_iload_n hx hb dX8_bring_108 rfl (lv_at hl 4 rfl) ?_
      refine tc_callp (tc_runV (As := [.int x2]) (rest := []) E hSt hG (x_X8_has l (gF G F44) τ h0 x2 t0) t0 rv_2 kv_X8_has ml_X8_55 ⟨rfl, rfl, Nat.le_of_ble_eq_true rfl, Nat.le_of_ble_eq_true rfl⟩ rfl hl.1 rfl (Nat.le_of_ble_eq_true rfl) ⟨Nat.zero_le _, Nat.zero_le _⟩ dX8_bring_109) (fun r45 pr45 => ?_)
      have pr45 : (r45.toInt = 1 ∧ (0 ≤ x2.toInt ∧ x2.toInt ≤ 23 ∧ tB (F44 h0 4) x2.toInt.toNat)) ∨ (r45.toInt = 0 ∧ ¬ (0 ≤ x2.toInt ∧ x2.toInt ≤ 23 ∧ tB (F44 h0 4) x2.toInt.toNat)) := pr45
      rw [show F44 h0 4 = z9 from (by rw [qr43, nuF_ne (by omega), pr41, kdM_ne (by omega), eF10, up2_at])] at pr45
      have or45 : tB z9 x2.toInt.toNat ↔ tB (F h0 4) x2.toInt.toNat ∨ x2.toInt.toNat = (F h0 8).toInt.toNat := by simp only [ez40, wz39, ez13, ez12, ez9, ez8, wz7, ez5, wz4, wz3, wz1]; exact tB_or (by omega) (by omega)
      refine lv_if_eq (tgt := 143) hx hb dX8_bring_112 (by decide) (fun c46 => ?_) (fun c46 => ?_)
      · skip
        have ic46 := tn_eq rfl kI_0 c46
        refine lv_aload_n hx hb dX8_bring_143 rfl (lv_at hl 2 rfl) ?_
        refine lv_iload hx hb dX8_bring_144 (lv_at hl 1 rfl) ?_
        refine tc_putF (lo := -2147483648) (hi := 2147483647) E hG t0 (by decide) rfl rfl fq_X8_24 (t_any1 _) (t_any2 _) rfl rfl dX8_bring_146 (fun H locs hG => ?_)
        obtain ⟨F47, eF47⟩ : ∃ Z : mF, Z = up2 F44 h0 9 z3 := ⟨_, rfl⟩
        replace hG : tGH (gF G F47) τ s H locs := by rw [eF47]; exact hG
        have E := E.f1 (F' := F47)
        have hSt := hSt.f1 (F' := F47)
        refine lv_aload_n hx hb dX8_bring_149 rfl (lv_at hl 2 rfl) ?_
        refine lv_iload hx hb dX8_bring_150 (lv_at hl 1 rfl) ?_
        have hbr : F47 = brG F h0 x1 x2 z40 var43 vbr43 vcr43 vdr43 x7 := by first | (unfold brG; rw [if_pos (by grind), eF47, qr43, pr41, eF10, eF6]; simp only [ez40, wz39, ez13, ez12, ez9, ez8, wz7, ez5, wz4, wz3, wz1]) | (exfalso; grind)
        have hdp : z40 = (if x2.toInt = -1 then 0 else F (h0 + 1 + (3 + 4 * x2.toNatClampNeg)) 6 + 1) := by first | (rw [if_pos (by grind)]; done) | (rw [if_neg (by grind)]; simp only [ez40, wz39, ez13, ez12, ez9, ez8, wz7, ez5, wz4, wz3, wz1]; done) | (exfalso; grind)
        refine tc_callvF hG (tc_runV (As := [.int z3]) (rest := []) E hSt hG (x_X8_mark l G F47 τ h0 z3 t0 (by rw [hbr]; exact PARF_brG hPA (hp.imp id (fun q => ⟨q.1, q.2.1⟩)) (by omega) (by omega))) t0 rv_2 kv_X8_mark ml_X8_87 ⟨rfl, rfl, Nat.le_of_ble_eq_true rfl, Nat.le_of_ble_eq_true rfl⟩ rfl hl.1 rfl (Nat.le_of_ble_eq_true rfl) ⟨Nat.zero_le _, Nat.zero_le _⟩ dX8_bring_152) (fun F49 H locs pr48 hG => ?_)
        have E := E.f1 (F' := F49)
        have hSt := hSt.f1 (F' := F49)
        replace pr48 : MKR F47 F49 h0 z3 := pr48
        refine lv_iload hx hb dX8_bring_155 (lv_at hl 1 rfl) ?_
        exact tc_iretF E hr hlk hG rfl (by first | exact (Or.inr ⟨by omega, by simp only [ez40, wz39, ez13, ez12, ez9, ez8, wz7, ez5, wz4, wz3, wz1], var43, vbr43, vcr43, vdr43, ⟨F47, z40, hbr, hdp, (by rw [if_pos (by grind), ← wz3]; exact pr48)⟩, qar43, qbr43, qcr43, qdr43⟩) | (exfalso; grind)) dX8_bring_157
      · skip
        have ic46 := tn_ne rfl kI_0 c46
        refine lv_aload_n hx hb dX8_bring_115 rfl (lv_at hl 2 rfl) ?_
        refine tc_getrF (d := 1) E hG t0 fr_X8_11 rfl dX8_bring_116 (fun ha50 => ?_)
        refine lv_iload_n hx hb dX8_bring_119 rfl (lv_at hl 4 rfl) ?_
        refine tc_aald3F (d := 3 + 4 * x2.toNatClampNeg) E hG ha50 ta_10 rfl (t_in (by omega) (by omega)) dX8_bring_120 (fun ha51 => ?_)
        have nx2 : x2.toNatClampNeg = x2.toInt.toNat := rfl
        refine lv_iload hx hb dX8_bring_121 (lv_at hl 1 rfl) ?_
        refine lv_aload_n hx hb dX8_bring_123 rfl (lv_at hl 2 rfl) ?_
        refine tc_getrF (d := 1) E hG t0 fr_X8_11 rfl dX8_bring_124 (fun ha52 => ?_)
        refine lv_iload_n hx hb dX8_bring_127 rfl (lv_at hl 4 rfl) ?_
        refine tc_aald3F (d := 3 + 4 * x2.toNatClampNeg) E hG ha52 ta_10 rfl (t_in (by omega) (by omega)) dX8_bring_128 (fun ha53 => ?_)
        have nx2 : x2.toNatClampNeg = x2.toInt.toNat := rfl
        refine tc_getF E hG ha53 fi_X8_59 rfl dX8_bring_129 (fun z54 lz54 uz54 wz54 => ?_)
        replace wz54 : z54 = F44 ((h0 + 1) + (3 + 4 * x2.toNatClampNeg)) 10 := wz54
        replace wz54 : z54 = F ((h0 + 1) + (3 + 4 * x2.toNatClampNeg)) 10 := by rw [wz54, qr43, nuF_ne (by omega), pr41, kdM_ne (by omega), eF10, up2_ne (by omega), eF6, up2_ne (by omega)]
        have cz54 : z54.toInt = (F ((h0 + 1) + (3 + 4 * x2.toNatClampNeg)) 10).toInt := by rw [wz54]
        refine tc_callvF hG (tc_runV (As := [.int z3, .int z54]) (rest := []) E hSt hG (x_X0_addKid l G F44 τ ((h0 + 1) + (3 + 4 * x2.toNatClampNeg)) z3 z54 ha51 (by omega) (by omega)) ha51 rv_3 kv_X0_addKid ml_X8_83 ⟨rfl, rfl, Nat.le_of_ble_eq_true rfl, Nat.le_of_ble_eq_true rfl⟩ rfl hl.1 rfl (Nat.le_of_ble_eq_true rfl) ⟨Nat.zero_le _, Nat.zero_le _⟩ dX8_bring_132) (fun F56 H locs pr55 hG => ?_)
        have E := E.f1 (F' := F56)
        have hSt := hSt.f1 (F' := F56)
        replace pr55 : (((F44 ((h0 + 1) + (3 + 4 * x2.toNatClampNeg)) 10).toInt ≥ 8 ∨ z54.toInt < 0 ∨ (F44 ((h0 + 1) + (3 + 4 * x2.toNatClampNeg)) 10).toInt < z54.toInt) ∧ F56 = F44) ∨ ((F44 ((h0 + 1) + (3 + 4 * x2.toNatClampNeg)) 10).toInt ≤ 7 ∧ 0 ≤ z54.toInt ∧ z54.toInt ≤ (F44 ((h0 + 1) + (3 + 4 * x2.toNatClampNeg)) 10).toInt ∧ F56 = adF F44 ((h0 + 1) + (3 + 4 * x2.toNatClampNeg)) z3 z54) := pr55
        have rr55 : F44 ((h0 + 1) + (3 + 4 * x2.toNatClampNeg)) 10 = F ((h0 + 1) + (3 + 4 * x2.toNatClampNeg)) 10 := by rw [qr43, nuF_ne (by omega), pr41, kdM_ne (by omega), eF10, up2_ne (by omega), eF6, up2_ne (by omega)]
        have qr55 : F56 = adF F44 ((h0 + 1) + (3 + 4 * x2.toNatClampNeg)) z3 z54 := by rcases pr55 with ⟨q9, _⟩ | ⟨_, _, _, q9⟩; (exfalso; rw [rr55] at q9; omega); exact q9
        refine lv_aload_n hx hb dX8_bring_135 rfl (lv_at hl 2 rfl) ?_
        refine lv_iload_n hx hb dX8_bring_136 rfl (lv_at hl 4 rfl) ?_
        have hbr : F56 = brG F h0 x1 x2 z40 var43 vbr43 vcr43 vdr43 x7 := by first | (unfold brG; rw [if_neg (by grind), qr55, qr43, pr41, eF10, eF6]; simp only [wz54, ez40, wz39, ez13, ez12, ez9, ez8, wz7, ez5, wz4, wz3, wz1]) | (exfalso; grind)
        have hdp : z40 = (if x2.toInt = -1 then 0 else F (h0 + 1 + (3 + 4 * x2.toNatClampNeg)) 6 + 1) := by first | (rw [if_pos (by grind)]; done) | (rw [if_neg (by grind)]; simp only [wz54, ez40, wz39, ez13, ez12, ez9, ez8, wz7, ez5, wz4, wz3, wz1]; done) | (exfalso; grind)
        refine tc_callvF hG (tc_runV (As := [.int x2]) (rest := []) E hSt hG (x_X8_mark l G F56 τ h0 x2 t0 (by rw [hbr]; exact PARF_brG hPA (hp.imp id (fun q => ⟨q.1, q.2.1⟩)) (by omega) (by omega))) t0 rv_2 kv_X8_mark ml_X8_87 ⟨rfl, rfl, Nat.le_of_ble_eq_true rfl, Nat.le_of_ble_eq_true rfl⟩ rfl hl.1 rfl (Nat.le_of_ble_eq_true rfl) ⟨Nat.zero_le _, Nat.zero_le _⟩ dX8_bring_137) (fun F58 H locs pr57 hG => ?_)
        have E := E.f1 (F' := F58)
        have hSt := hSt.f1 (F' := F58)
        replace pr57 : MKR F56 F58 h0 x2 := pr57
        refine lv_goto (tgt := 155) hx hb dX8_bring_140 (by decide) ?_
        refine lv_iload hx hb dX8_bring_155 (lv_at hl 1 rfl) ?_
        exact tc_iretF E hr hlk hG rfl (by first | exact (Or.inr ⟨by omega, by simp only [wz54, ez40, wz39, ez13, ez12, ez9, ez8, wz7, ez5, wz4, wz3, wz1], var43, vbr43, vcr43, vdr43, ⟨F56, z40, hbr, hdp, (by rw [if_neg (by grind)]; exact pr57)⟩, qar43, qbr43, qcr43, qdr43⟩) | (exfalso; grind)) dX8_bring_157
  · skip
    have ic2 := tn_nlt rfl kI_24 c2
    refine lv_bipush (v := -4) hx hb dX8_bring_9 (by decide) ?_
    exact tc_iretF E hr hlk hG rfl (Or.inl ⟨by omega, rfl, rfl⟩) dX8_bring_11
