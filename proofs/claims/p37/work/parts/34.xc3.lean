/-- a share, or none -/
def RS (L : Nat → Int) (len p s q : Int) (ok : Prop) : Prop := (¬ nx L len p = 42 ∧ s = 0 ∧ q = p ∧ ok) ∨ (nx L len p = 42 ∧ ¬ fg L len (p + 1) ∧ s = 0 ∧ q = p + 1 ∧ ¬ ok) ∨ (nx L len p = 42 ∧ fg L len (p + 1) ∧ s = nx L len (p + 1) - 48 ∧ q = p + 2 ∧ ok)
theorem up2_fs {F : mF} {c d k j : Nat} {v w x y : Int32} (h : ¬ c = d) : up2 (up2 (up2 (up2 F c k v) d j w) c k x) d j y = up2 (up2 F c k x) d j y := funext fun c9 => funext fun k9 => by
  unfold up2
  by_cases e1 : c9 = d ∧ k9 = j
  · simp only [if_pos e1]
  · simp only [if_neg e1]
    by_cases e2 : c9 = c ∧ k9 = k
    · simp only [if_pos e2]
    · simp only [if_neg e2]

theorem up2_sf {F : mF} {c d k j : Nat} {v : Int32} (h : ¬ c = d) : up2 (up2 F c k v) d j (F d j) = up2 F c k v := funext fun c9 => funext fun k9 => by
  unfold up2
  by_cases e1 : c9 = d ∧ k9 = j
  · rw [if_pos e1, if_neg (fun z => h (z.1.symm.trans e1.1)), e1.1, e1.2]
  · rw [if_neg e1]

set_option maxHeartbeats 4000000 in
set_option maxRecDepth 100000 in
theorem x_X5_readShare (l : Launch) (G : tG) (F : mF) (τ : Nat → Nat) (h0 : Nat) (x1 : Int32) (t0 : τ h0 = 7) (l1 : 0 ≤ x1.toInt) (u1 : x1.toInt ≤ 23) (hL : τ (G.2.2.1 16) = 18) (h9 : G.2.2.1 9 = 1) (hLr : G.2.2.1 16 < h0 ∨ h0 + 30 ≤ G.2.2.1 16) (h7 : (F h0 7).toInt ≤ 120) : Met l yX5_readShare (.code yX5_readShare cX5_readShare 2 (some .boolean) :: tWS) (tRm 2 41) (va_Pc [.ref h0, .int x1] (tPre (gF G F) τ)) (tQF G τ (fun r F9 => ∃ sv q : Int32, F9 = up2 (up2 F (h0 + 3) x1.toNatClampNeg sv) h0 9 q ∧ RS (LF F (G.2.2.1 16)) (F h0 7).toInt (F h0 9).toInt sv.toInt q.toInt (r.toInt = 1) ∧ 0 ≤ r.toInt ∧ r.toInt ≤ 1)) 0 0 (tA τ) := by
  refine tc_met (by decide) (Nat.le_of_ble_eq_true rfl) ?_
  intro p e s m below meth c E hSt hr hlk hG ls hl
  have hl : lv_has ls 2 [(0, .ref h0), (1, .int x1)] := hl
  have hx := E.1
  have hb := E.2.1
  obtain ⟨H, eH⟩ : ∃ H, H = s.heap := ⟨_, rfl⟩
  obtain ⟨locs, eL⟩ : ∃ x : List Loc, x = [] := ⟨_, rfl⟩
  have hG : tGH (gF G F) τ s H locs := by rw [eH, eL]; exact hG
  suffices hW : W p l e (tRm 2 41) s m ([.ref h0, .int x1] : List Value).toArray below meth c H locs 0 0 (MQ below (tQF G τ (fun r F9 => ∃ sv q : Int32, F9 = up2 (up2 F (h0 + 3) x1.toNatClampNeg sv) h0 9 q ∧ RS (LF F (G.2.2.1 16)) (F h0 7).toInt (F h0 9).toInt sv.toInt q.toInt (r.toInt = 1) ∧ 0 ≤ r.toInt ∧ r.toInt ≤ 1)) ([.ref h0, .int x1] : List Value).toArray s 0 0 (tA τ)) (F0 m 0 ls []) by subst eH; subst eL; exact hW
  clear eH eL
  refine lv_aload_n hx hb dX5_readShare_0 rfl (lv_at hl 0 rfl) ?_
  refine tc_getrF (d := 3) E hG t0 fr_X5_18 rfl dX5_readShare_1 (fun ha1 => ?_)
  refine lv_iload_n hx hb dX5_readShare_4 rfl (lv_at hl 1 rfl) ?_
  refine lv_iconst (v := 0) hx hb dX5_readShare_5 (by decide) ?_
  refine tc_iastF E hG ha1 ta_15 (t_in (by omega) (by omega)) (t_any1 _) (t_any2 _) dX5_readShare_6 (fun H locs hG => ?_)
  obtain ⟨F2, eF2⟩ : ∃ Z : mF, Z = up2 F (h0 + 3) x1.toNatClampNeg (0 : Int32) := ⟨_, rfl⟩
  replace hG : tGH (gF G F2) τ s H locs := by rw [eF2]; exact hG
  have E := E.f1 (F' := F2)
  have hSt := hSt.f1 (F' := F2)
  refine lv_aload_n hx hb dX5_readShare_7 rfl (lv_at hl 0 rfl) ?_
  refine lv_bipush (v := 42) hx hb dX5_readShare_8 (by decide) ?_
  refine tc_calliF hG (tc_runV (As := [.int 42]) (rest := []) E hSt hG (x_X5_passed l G F2 τ h0 (42 : Int32) t0 (by decide) (by decide) hL h9 hLr (by rw [eF2, up2_ne (by omega)]; exact h7)) t0 rv_7 kv_X5_passed ml_X5_68 ⟨rfl, rfl, Nat.le_of_ble_eq_true rfl, Nat.le_of_ble_eq_true rfl⟩ rfl hl.1 rfl (Nat.le_of_ble_eq_true rfl) ⟨Nat.zero_le _, Nat.zero_le _⟩ dX5_readShare_10) (fun r3 F4 H locs pr3 hG => ?_)
  have E := E.f1 (F' := F4)
  have hSt := hSt.f1 (F' := F4)
  replace pr3 : (r3.toInt = 1 ∧ nx (LF F2 (G.2.2.1 16)) (F2 h0 7).toInt (F2 h0 9).toInt = (42 : Int32).toInt ∧ (F2 h0 9).toInt < (F2 h0 7).toInt ∧ F4 = up2 F2 h0 9 (F2 h0 9 + 1)) ∨ (r3.toInt = 0 ∧ ¬ nx (LF F2 (G.2.2.1 16)) (F2 h0 7).toInt (F2 h0 9).toInt = (42 : Int32).toInt ∧ F4 = F2) := pr3
  have k5 := kI_42
  refine lv_if_ne (tgt := 18) hx hb dX5_readShare_13 (by decide) (fun c6 => ?_) (fun c6 => ?_)
  · skip
    have ic6 := tn_ne rfl kI_0 c6
    rw [show LF F2 (G.2.2.1 16) = LF F (G.2.2.1 16) from (by rw [eF2, LF_up (by omega)]), show F2 h0 7 = (F h0 7) from (by rw [eF2, up2_ne (by omega)]), show F2 h0 9 = (F h0 9) from (by rw [eF2, up2_ne (by omega)])] at pr3
    obtain ⟨fr3, gr3, eF4⟩ : nx (LF F (G.2.2.1 16)) (F h0 7).toInt (F h0 9).toInt = (42 : Int32).toInt ∧ (F h0 9).toInt < (F h0 7).toInt ∧ F4 = up2 F2 h0 9 ((F h0 9) + 1) := by rcases pr3 with ⟨_, a9, b9, q9⟩ | ⟨q9, _⟩; exact ⟨a9, b9, q9⟩; exfalso; omega
    obtain ⟨z7, ez7⟩ : ∃ y : Int32, y = (F h0 9) + 1 := ⟨_, rfl⟩
    rw [← ez7] at eF4
    have az7 := t_any1 (F h0 9)
    have tz7 := tn_add ez7 rfl kI_1 (by omega) (by omega)
    refine lv_aload_n hx hb dX5_readShare_18 rfl (lv_at hl 0 rfl) ?_
    refine tc_callp (tc_runV (As := []) (rest := []) E hSt hG (x_X5_nextIsFigure l (gF G F4) τ h0 t0 hL h9 hLr) t0 rv_7 kv_X5_nextIsFigure ml_X5_115 ⟨rfl, rfl, Nat.le_of_ble_eq_true rfl, Nat.le_of_ble_eq_true rfl⟩ rfl hl.1 rfl (Nat.le_of_ble_eq_true rfl) ⟨Nat.zero_le _, Nat.zero_le _⟩ dX5_readShare_19) (fun r8 pr8 => ?_)
    have pr8 : (r8.toInt = 1 ∧ (48 ≤ nx (LF F4 (G.2.2.1 16)) (F4 h0 7).toInt (F4 h0 9).toInt ∧ nx (LF F4 (G.2.2.1 16)) (F4 h0 7).toInt (F4 h0 9).toInt ≤ 57)) ∨ (r8.toInt = 0 ∧ ¬ (48 ≤ nx (LF F4 (G.2.2.1 16)) (F4 h0 7).toInt (F4 h0 9).toInt ∧ nx (LF F4 (G.2.2.1 16)) (F4 h0 7).toInt (F4 h0 9).toInt ≤ 57)) := pr8
    rw [show LF F4 (G.2.2.1 16) = LF F (G.2.2.1 16) from (by rw [eF4, LF_up (by omega), eF2, LF_up (by omega)]), show F4 h0 7 = (F h0 7) from (by rw [eF4, up2_ne (by omega), eF2, up2_ne (by omega)]), show F4 h0 9 = z7 from (by rw [eF4, up2_at])] at pr8
    refine lv_if_ne (tgt := 27) hx hb dX5_readShare_22 (by decide) (fun c9 => ?_) (fun c9 => ?_)
    · skip
      have ic9 := tn_ne rfl kI_0 c9
      refine lv_aload_n hx hb dX5_readShare_27 rfl (lv_at hl 0 rfl) ?_
      refine tc_getrF (d := 3) E hG t0 fr_X5_18 rfl dX5_readShare_28 (fun ha10 => ?_)
      refine lv_iload_n hx hb dX5_readShare_31 rfl (lv_at hl 1 rfl) ?_
      refine lv_aload_n hx hb dX5_readShare_32 rfl (lv_at hl 0 rfl) ?_
      refine tc_callp (tc_runV (As := []) (rest := [.int x1, .ref (h0 + 3)]) E hSt hG (x_X5_next l (gF G F4) τ h0 t0 hL h9 hLr) t0 rv_7 kv_X5_next ml_X5_64 ⟨rfl, rfl, Nat.le_of_ble_eq_true rfl, Nat.le_of_ble_eq_true rfl⟩ rfl hl.1 rfl (Nat.le_of_ble_eq_true rfl) ⟨Nat.zero_le _, Nat.zero_le _⟩ dX5_readShare_33) (fun r11 pr11 => ?_)
      have pr11 : r11.toInt = nx (LF F4 (G.2.2.1 16)) (F4 h0 7).toInt (F4 h0 9).toInt ∧ 0 ≤ r11.toInt ∧ r11.toInt ≤ 65535 := pr11
      rw [show LF F4 (G.2.2.1 16) = LF F (G.2.2.1 16) from (by rw [eF4, LF_up (by omega), eF2, LF_up (by omega)]), show F4 h0 7 = (F h0 7) from (by rw [eF4, up2_ne (by omega), eF2, up2_ne (by omega)]), show F4 h0 9 = z7 from (by rw [eF4, up2_at])] at pr11
      have qr11 : 1 ≤ r11.toInt → z7.toInt < (F h0 7).toInt := fun h => (by have h2 := pr11.1; unfold nx at h2; by_cases q9 : z7.toInt < (F h0 7).toInt; exact q9; rw [if_neg q9] at h2; omega)
      refine lv_bipush (v := 48) hx hb dX5_readShare_36 (by decide) ?_
      refine lv_isub hx hb dX5_readShare_38 ?_
      refine lv_topi (fun z12 ez12 => ?_)
      have tz12 := tn_sub ez12 rfl kI_48 (by omega) (by omega)
      refine tc_iastF E hG ha10 ta_15 (t_in (by omega) (by omega)) (t_any1 _) (t_any2 _) dX5_readShare_39 (fun H locs hG => ?_)
      obtain ⟨F13, eF13⟩ : ∃ Z : mF, Z = up2 F4 (h0 + 3) x1.toNatClampNeg z12 := ⟨_, rfl⟩
      replace hG : tGH (gF G F13) τ s H locs := by rw [eF13]; exact hG
      have E := E.f1 (F' := F13)
      have hSt := hSt.f1 (F' := F13)
      refine lv_aload_n hx hb dX5_readShare_40 rfl (lv_at hl 0 rfl) ?_
      refine lv_dup hx hb dX5_readShare_41 rfl ?_
      refine tc_getF E hG t0 fi_X5_46 rfl dX5_readShare_42 (fun z14 lz14 uz14 wz14 => ?_)
      replace wz14 : z14 = F13 h0 9 := wz14
      replace wz14 : z14 = z7 := by rw [wz14, eF13, up2_ne (by omega), eF4, up2_at]
      have cz14 : z14.toInt = (z7).toInt := by rw [wz14]
      refine lv_iconst (v := 1) hx hb dX5_readShare_45 (by decide) ?_
      refine lv_iadd hx hb dX5_readShare_46 ?_
      refine lv_topi (fun z15 ez15 => ?_)
      have tz15 := tn_add ez15 rfl kI_1 (by omega) (by omega)
      refine tc_putF (lo := 0) (hi := 120) E hG t0 (by decide) rfl rfl fq_X5_46 (by omega) (by omega) rfl rfl dX5_readShare_47 (fun H locs hG => ?_)
      obtain ⟨F16, eF16⟩ : ∃ Z : mF, Z = up2 F13 h0 9 z15 := ⟨_, rfl⟩
      replace hG : tGH (gF G F16) τ s H locs := by rw [eF16]; exact hG
      have E := E.f1 (F' := F16)
      have hSt := hSt.f1 (F' := F16)
      refine lv_iconst (v := 1) hx hb dX5_readShare_50 (by decide) ?_
      exact tc_iretF E hr hlk hG (t_nz (by decide) (by decide)).1 (by refine ⟨z12, z15, (by rw [eF16, eF13, eF4, eF2]; exact up2_fs (by omega)), ?_⟩; refine ⟨?_, by decide, by decide⟩; unfold RS fg; grind) dX5_readShare_51
    · skip
      have ic9 := tn_eq rfl kI_0 c9
      refine lv_iconst (v := 0) hx hb dX5_readShare_25 (by decide) ?_
      exact tc_iretF E hr hlk hG (t_nz (by decide) (by decide)).1 (by refine ⟨0, z7, (by rw [eF4, eF2]), ?_⟩; refine ⟨?_, by decide, by decide⟩; unfold RS fg; grind) dX5_readShare_26
  · skip
    have ic6 := tn_eq rfl kI_0 c6
    rw [show LF F2 (G.2.2.1 16) = LF F (G.2.2.1 16) from (by rw [eF2, LF_up (by omega)]), show F2 h0 7 = (F h0 7) from (by rw [eF2, up2_ne (by omega)]), show F2 h0 9 = (F h0 9) from (by rw [eF2, up2_ne (by omega)])] at pr3
    obtain ⟨fr3, eF4⟩ : ¬ nx (LF F (G.2.2.1 16)) (F h0 7).toInt (F h0 9).toInt = (42 : Int32).toInt ∧ F4 = F2 := by rcases pr3 with ⟨q9, _⟩ | ⟨_, a9, q9⟩; (exfalso; omega); exact ⟨a9, q9⟩
    rw [eF4] at hG
    have E := E.f1 (F' := F2)
    have hSt := hSt.f1 (F' := F2)
    refine lv_iconst (v := 1) hx hb dX5_readShare_16 (by decide) ?_
    exact tc_iretF E hr hlk hG (t_nz (by decide) (by decide)).1 (by refine ⟨0, F h0 9, (by rw [eF2]; exact (up2_sf (by omega)).symm), ?_⟩; refine ⟨?_, by decide, by decide⟩; unfold RS fg; grind) dX5_readShare_17
