theorem i2c_id {x : Int32} (h0 : 0 ≤ x.toInt) (h1 : x.toInt ≤ 65535) : (x.toUInt32 % 65536).toInt32 = x := Value.int.inj (t_nc h0 h1).1
set_option maxHeartbeats 4000000 in
set_option maxRecDepth 100000 in
theorem x_X9_letter (l : Launch) (G : tG) (F : mF) (τ : Nat → Nat) (h0 : Nat) (x1 : Int32) (t0 : τ h0 = 1) (h8 : h0 = G.2.2.1 8) (hal : ¬ h0 = G.2.2.1 16) : Met l yX9_letter (.code yX9_letter cX9_letter 2 (some .int) :: tWS) (tRm 0 0) (va_Pc [.ref h0, .int x1] (tPre (gF G F) τ)) (tQF G τ (fun r F9 => (¬ (32 ≤ x1.toInt ∧ x1.toInt ≤ 126) ∧ r = -2 ∧ F9 = F) ∨ ((32 ≤ x1.toInt ∧ x1.toInt ≤ 126) ∧ 120 ≤ (F h0 8).toInt ∧ r = -4 ∧ F9 = F) ∨ ((32 ≤ x1.toInt ∧ x1.toInt ≤ 126) ∧ (F h0 8).toInt ≤ 119 ∧ r = F h0 8 + 1 ∧ F9 = up2 (up2 F (G.2.2.1 16) (F h0 8).toNatClampNeg x1) h0 8 (F h0 8 + 1)))) 0 0 (tA τ) := by
  refine tc_met (by decide) (Nat.le_of_ble_eq_true rfl) ?_
  intro p e s m below meth c E hSt hr hlk hG ls hl
  have hl : lv_has ls 2 [(0, .ref h0), (1, .int x1)] := hl
  have hx := E.1
  have hb := E.2.1
  obtain ⟨H, eH⟩ : ∃ H, H = s.heap := ⟨_, rfl⟩
  obtain ⟨locs, eL⟩ : ∃ x : List Loc, x = [] := ⟨_, rfl⟩
  have hG : tGH (gF G F) τ s H locs := by rw [eH, eL]; exact hG
  suffices hW : W p l e (tRm 0 0) s m ([.ref h0, .int x1] : List Value).toArray below meth c H locs 0 0 (MQ below (tQF G τ (fun r F9 => (¬ (32 ≤ x1.toInt ∧ x1.toInt ≤ 126) ∧ r = -2 ∧ F9 = F) ∨ ((32 ≤ x1.toInt ∧ x1.toInt ≤ 126) ∧ 120 ≤ (F h0 8).toInt ∧ r = -4 ∧ F9 = F) ∨ ((32 ≤ x1.toInt ∧ x1.toInt ≤ 126) ∧ (F h0 8).toInt ≤ 119 ∧ r = F h0 8 + 1 ∧ F9 = up2 (up2 F (G.2.2.1 16) (F h0 8).toNatClampNeg x1) h0 8 (F h0 8 + 1)))) ([.ref h0, .int x1] : List Value).toArray s 0 0 (tA τ)) (F0 m 0 ls []) by subst eH; subst eL; exact hW
  clear eH eL
  refine lv_iload_n hx hb dX9_letter_0 rfl (lv_at hl 1 rfl) ?_
  refine lv_bipush (v := 32) hx hb dX9_letter_1 (by decide) ?_
  refine lv_icmp_lt (tgt := 12) hx hb dX9_letter_3 (by decide) (fun c1 => ?_) (fun c1 => ?_)
  · skip
    have ic1 := tn_lt rfl kI_32 c1
    refine lv_bipush (v := -2) hx hb dX9_letter_12 (by decide) ?_
    exact tc_iretF E hr hlk hG rfl (Or.inl ⟨by omega, rfl, rfl⟩) dX9_letter_14
  · skip
    have ic1 := tn_nlt rfl kI_32 c1
    refine lv_iload_n hx hb dX9_letter_6 rfl (lv_at hl 1 rfl) ?_
    refine lv_bipush (v := 126) hx hb dX9_letter_7 (by decide) ?_
    refine lv_icmp_le (tgt := 15) hx hb dX9_letter_9 (by decide) (fun c2 => ?_) (fun c2 => ?_)
    · skip
      have ic2 := tn_le rfl kI_126 c2
      refine lv_aload_n hx hb dX9_letter_15 rfl (lv_at hl 0 rfl) ?_
      refine tc_getF E hG t0 fi_X9_164 rfl dX9_letter_16 (fun z3 lz3 uz3 wz3 => ?_)
      replace wz3 : z3 = F h0 8 := wz3
      have cz3 : z3.toInt = (F h0 8).toInt := by rw [wz3]
      refine lv_bipush (v := 120) hx hb dX9_letter_19 (by decide) ?_
      refine lv_icmp_lt (tgt := 27) hx hb dX9_letter_21 (by decide) (fun c4 => ?_) (fun c4 => ?_)
      · skip
        have ic4 := tn_lt rfl kI_120 c4
        refine lv_aload_n hx hb dX9_letter_27 rfl (lv_at hl 0 rfl) ?_
        refine tc_getrG E hG t0 fr_X9_51 rfl (fun _ => h8) (fun z => by cases z) dX9_letter_28 (fun ha5 => ?_)
        replace ha5 : τ (G.2.2.1 16) = 18 := ha5
        refine lv_aload_n hx hb dX9_letter_31 rfl (lv_at hl 0 rfl) ?_
        refine tc_getF E hG t0 fi_X9_164 rfl dX9_letter_32 (fun z6 lz6 uz6 wz6 => ?_)
        replace wz6 : z6 = F h0 8 := wz6
        have cz6 : z6.toInt = (F h0 8).toInt := by rw [wz6]
        refine lv_iload_n hx hb dX9_letter_35 rfl (lv_at hl 1 rfl) ?_
        refine lv_i2c hx hb dX9_letter_36 rfl ?_
        refine lv_topi (fun z7 ez7 => ?_)
        have tz7 := tn_i2c ez7
        refine tc_castF E hG ha5 ta_18 (t_in (by omega) (by omega)) (by omega) (by omega) (by omega) (by omega) dX9_letter_37 (fun H locs hG => ?_)
        obtain ⟨F8, eF8⟩ : ∃ Z : mF, Z = up2 F (G.2.2.1 16) z6.toNatClampNeg z7 := ⟨_, rfl⟩
        replace hG : tGH (gF G F8) τ s H locs := by rw [eF8]; exact hG
        have E := E.f1 (F' := F8)
        have hSt := hSt.f1 (F' := F8)
        refine lv_aload_n hx hb dX9_letter_38 rfl (lv_at hl 0 rfl) ?_
        refine lv_dup hx hb dX9_letter_39 rfl ?_
        refine tc_getF E hG t0 fi_X9_164 rfl dX9_letter_40 (fun z9 lz9 uz9 wz9 => ?_)
        replace wz9 : z9 = F8 h0 8 := wz9
        replace wz9 : z9 = F h0 8 := by rw [wz9, eF8, up2_ne (by omega)]
        have cz9 : z9.toInt = (F h0 8).toInt := by rw [wz9]
        refine lv_iconst (v := 1) hx hb dX9_letter_43 (by decide) ?_
        refine lv_iadd hx hb dX9_letter_44 ?_
        refine lv_topi (fun z10 ez10 => ?_)
        have tz10 := tn_add ez10 rfl kI_1 (by omega) (by omega)
        refine tc_putF (lo := 0) (hi := 120) E hG t0 (by decide) rfl rfl fq_X9_164 (by omega) (by omega) rfl rfl dX9_letter_45 (fun H locs hG => ?_)
        obtain ⟨F11, eF11⟩ : ∃ Z : mF, Z = up2 F8 h0 8 z10 := ⟨_, rfl⟩
        replace hG : tGH (gF G F11) τ s H locs := by rw [eF11]; exact hG
        have E := E.f1 (F' := F11)
        have hSt := hSt.f1 (F' := F11)
        refine lv_aload_n hx hb dX9_letter_48 rfl (lv_at hl 0 rfl) ?_
        refine tc_getF E hG t0 fi_X9_164 rfl dX9_letter_49 (fun z12 lz12 uz12 wz12 => ?_)
        replace wz12 : z12 = F11 h0 8 := wz12
        replace wz12 : z12 = z10 := by rw [wz12, eF11, up2_at]
        have cz12 : z12.toInt = (z10).toInt := by rw [wz12]
        exact tc_iretF E hr hlk hG rfl (Or.inr (Or.inr ⟨by omega, by omega, (by simp only [wz12, ez10, wz9, ez7, wz6, wz3]), (by rw [eF11, eF8]; simp only [wz12, ez10, wz9, ez7, wz6, wz3]; rw [i2c_id (by omega) (by omega)])⟩)) dX9_letter_52
      · skip
        have ic4 := tn_nlt rfl kI_120 c4
        refine lv_bipush (v := -4) hx hb dX9_letter_24 (by decide) ?_
        exact tc_iretF E hr hlk hG rfl (Or.inr (Or.inl ⟨by omega, by omega, rfl, rfl⟩)) dX9_letter_26
    · skip
      have ic2 := tn_nle rfl kI_126 c2
      refine lv_bipush (v := -2) hx hb dX9_letter_12 (by decide) ?_
      exact tc_iretF E hr hlk hG rfl (Or.inl ⟨by omega, rfl, rfl⟩) dX9_letter_14
