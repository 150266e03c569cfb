set_option maxHeartbeats 4000000 in
set_option maxRecDepth 100000 in
theorem x_X3_onlyKid (l : Launch) (G : tG) (τ : Nat → Nat) (h0 : Nat) (h1 : Nat) (t0 : τ h0 = 5) (t1 : τ h1 = 3) (hU : ∀ q, τ q = 2 → q = (G.2.2.1 10)) : Met l yX3_onlyKid (.code yX3_onlyKid cX3_onlyKid 2 (some (.object "LaidOutBoxes$Box")) :: tWS) (tRm 1 22) (va_Pc [.ref h0, .ref h1] (tPre G τ)) (tQpq (fun r => r = none ∨ ∃ y, r = some y ∧ τ y = 3 ∧ y = ((G.2.2.1 10) + 1 + (3 + 4 * ((FF G) (h1 + 2) (0 : Int32).toNatClampNeg).toNatClampNeg)) ∧ 0 < ((FF G) h1 10).toInt)) 0 0 tNo := by
  refine tc_met (by decide) (Nat.le_of_ble_eq_true rfl) ?_
  intro p e s m below meth c E hSt hr hlk hG ls hl
  have hl : lv_has ls 2 [(0, .ref h0), (1, .ref h1)] := hl
  have hx := E.1
  have hb := E.2.1
  obtain ⟨H, eH⟩ : ∃ H, H = s.heap := ⟨_, rfl⟩
  obtain ⟨locs, eL⟩ : ∃ x : List Loc, x = [] := ⟨_, rfl⟩
  have hG : tGH G τ s H locs := by rw [eH, eL]; exact hG
  suffices hW : W p l e (tRm 1 22) s m ([.ref h0, .ref h1] : List Value).toArray below meth c H locs 0 0 (MQ below (tQpq (fun r => r = none ∨ ∃ y, r = some y ∧ τ y = 3 ∧ y = ((G.2.2.1 10) + 1 + (3 + 4 * ((FF G) (h1 + 2) (0 : Int32).toNatClampNeg).toNatClampNeg)) ∧ 0 < ((FF G) h1 10).toInt)) ([.ref h0, .ref h1] : List Value).toArray s 0 0 tNo) (F0 m 0 ls []) by subst eH; subst eL; exact hW
  refine lv_aload_n hx hb dX3_onlyKid_0 rfl (lv_at hl 1 rfl) ?_
  refine tc_getF E hG t1 fi_X3_144 rfl dX3_onlyKid_1 (fun z1 lz1 uz1 wz1 => ?_)
  replace wz1 : z1 = (FF G) h1 10 := wz1
  have cz1 : z1.toInt = ((FF G) h1 10).toInt := by rw [wz1]
  refine lv_if_le (tgt := 19) hx hb dX3_onlyKid_4 (by decide) (fun c2 => ?_) (fun c2 => ?_)
  · skip
    have ic2 := tn_le rfl kI_0 c2
    refine lv_null hx hb dX3_onlyKid_19 ?_
    exact tc_pnret E hr hlk eH eL (Or.inl rfl) dX3_onlyKid_20
  · skip
    have ic2 := tn_nle rfl kI_0 c2
    refine lv_aload_n hx hb dX3_onlyKid_7 rfl (lv_at hl 0 rfl) ?_
    refine tc_getr E hG t0 fr_X3_9 dX3_onlyKid_8 (fun oa3 hoa3 => ?_)
    obtain rfl := hU _ hoa3
    refine lv_aload_n hx hb dX3_onlyKid_11 rfl (lv_at hl 1 rfl) ?_
    refine lv_iconst (v := 0) hx hb dX3_onlyKid_12 (by decide) ?_
    refine tc_callpr (tc_runV (As := [.ref h1, .int 0]) (rest := []) E hSt hG (x_X8_kidOf l G τ (G.2.2.1 10) h1 (0 : Int32) hoa3 t1 (by decide) (by decide)) hoa3 rv_2 kv_X8_kidOf ml_X3_147 ⟨rfl, rfl, Nat.le_of_ble_eq_true rfl, Nat.le_of_ble_eq_true rfl⟩ rfl hl.1 rfl (Nat.le_of_ble_eq_true rfl) ⟨Nat.zero_le _, Nat.zero_le _⟩ dX3_onlyKid_13) (fun r4 pr4 => ?_)
    replace pr4 : τ r4 = 3 ∧ r4 = ((G.2.2.1 10) + 1 + (3 + 4 * ((FF G) (h1 + 2) (0 : Int32).toNatClampNeg).toNatClampNeg)) := pr4
    obtain ⟨pr4, er4⟩ := pr4
    subst er4
    refine lv_goto (tgt := 20) hx hb dX3_onlyKid_16 (by decide) ?_
    exact tc_pqret E hr hlk eH eL (Or.inr ⟨_, rfl, pr4, (by simp only [wz1]), (by omega)⟩) dX3_onlyKid_20

def P_lay (d : Nat) (τ : Nat → Nat) (l : Launch) (G : tG) : Prop := ∀ (F : mF) (h0 : Nat) (h1 : Nat) (x2 : Int32) (x3 : Int32) (x4 : Int32) (x5 : Int32) (x6 : Int32) (t0 : τ h0 = 5) (t1 : τ h1 = 3) (l6 : 0 ≤ x6.toInt) (hd : (24 - x6.toInt).toNat < d) (hU : ∀ q, τ q = 2 → q = (G.2.2.1 10)) (hK : AKF F (G.2.2.1 10)) (hC : CINV F (G.2.2.1 10)) (hL : LOK F (G.2.2.1 10) h1 x6.toInt), Met l yX3_lay (.code yX3_lay cX3_lay 8 none :: tWS) (tRm (42 * d + 40) (541 * d + 1500)) (va_Pc [.ref h0, .ref h1, .int x2, .int x3, .int x4, .int x5, .int x6] (tPre (gF G F) τ)) (tQG G τ (fun F9 => HRx F F9 (G.2.2.1 10))) 0 0 (tA τ)
set_option maxHeartbeats 4000000 in
set_option maxRecDepth 100000 in
theorem h_X3_layLoose (l : Launch) (G : tG) (F : mF) (τ : Nat → Nat) (h0 : Nat) (h1 : Nat) (h2 : Nat) (x3 : Int32) (t0 : τ h0 = 5) (t1 : τ h1 = 3) (t2 : τ h2 = 3) (l3 : 0 ≤ x3.toInt) (u3 : x3.toInt ≤ 23) (d : Nat) (ih : P_lay d τ l G) (hd : (24 - x3.toInt).toNat < d + 1) (hU : ∀ q, τ q = 2 → q = (G.2.2.1 10)) (hK : AKF F (G.2.2.1 10)) (hC : CINV F (G.2.2.1 10)) (hL2 : LOK F (G.2.2.1 10) h2 (x3.toInt + 1)) : Met l yX3_layLoose (.code yX3_layLoose cX3_layLoose 4 none :: tWS) (tRm (42 * d + 41) (541 * d + 1527)) (va_Pc [.ref h0, .ref h1, .ref h2, .int x3] (tPre (gF G F) τ)) (tQG G τ (fun F9 => HRx F F9 (G.2.2.1 10))) 0 0 (tA τ) := by
  refine tc_met (by decide) (Nat.le_of_ble_eq_true rfl) ?_
  intro p e s m below meth c E hSt hr hlk hG ls hl
  have hl : lv_has ls 4 [(0, .ref h0), (1, .ref h1), (2, .ref h2), (3, .int x3)] := hl
  have hx := E.1
  have hb := E.2.1
  obtain ⟨H, eH⟩ : ∃ H, H = s.heap := ⟨_, rfl⟩
  obtain ⟨locs, eL⟩ : ∃ x : List Loc, x = [] := ⟨_, rfl⟩
  have hG : hGH G F τ s H locs := ⟨F, HRx.refl hC, by rw [eH, eL]; exact hG⟩
  suffices hW : W p l e (tRm (42 * d + 41) (541 * d + 1527)) s m ([.ref h0, .ref h1, .ref h2, .int x3] : List Value).toArray below meth c H locs 0 0 (MQ below (tQG G τ (fun F9 => HRx F F9 (G.2.2.1 10))) ([.ref h0, .ref h1, .ref h2, .int x3] : List Value).toArray s 0 0 (tA τ)) (F0 m 0 ls []) by subst eH; subst eL; exact hW
  clear eH eL
  refine lv_aload_n hx hb dX3_layLoose_0 rfl (lv_at hl 0 rfl) ?_
  refine lv_aload_n hx hb dX3_layLoose_1 rfl (lv_at hl 2 rfl) ?_
  refine lv_iconst (v := 0) hx hb dX3_layLoose_2 (by decide) ?_
  refine lv_aload_n hx hb dX3_layLoose_3 rfl (lv_at hl 1 rfl) ?_
  refine hc_getr E hG t1 fr_X3_57 dX3_layLoose_4 (fun oa1 hoa1 => ?_)
  refine hc_geti E hG hoa1 fi_X3_68 dX3_layLoose_7 (fun z2 _ _ => ?_)
  refine lv_iconst (v := 0) hx hb dX3_layLoose_10 (by decide) ?_
  refine lv_aload_n hx hb dX3_layLoose_11 rfl (lv_at hl 1 rfl) ?_
  refine hc_getr E hG t1 fr_X3_57 dX3_layLoose_12 (fun oa3 hoa3 => ?_)
  refine hc_geti E hG hoa3 fi_X3_74 dX3_layLoose_15 (fun z4 _ _ => ?_)
  refine lv_iload_n hx hb dX3_layLoose_18 rfl (lv_at hl 3 rfl) ?_
  refine lv_iconst (v := 1) hx hb dX3_layLoose_19 (by decide) ?_
  refine lv_iadd hx hb dX3_layLoose_20 ?_
  refine lv_topi (fun z5 ez5 => ?_)
  have tz5 := tn_add ez5 rfl kI_1 (by omega) (by omega)
  refine hc_callvF hG (fun Fq hRq hG => tc_runV (As := [.ref h2, .int 0, .int z2, .int 0, .int z4, .int z5]) (rest := []) (E.f1 (F' := Fq)) (hSt.f1 (F' := Fq)) hG (ih Fq h0 h2 (0 : Int32) z2 (0 : Int32) z4 z5 t0 t2 (by omega) (by omega) hU (AKF_fr hRq.1 hK) hRq.2 (LOK_d (LOK_fr hRq.1 hL2) (by omega))) t0 rv_5 kv_X3_lay ml_X3_44 (tRm_ok (by omega) (by omega)) rfl hl.1 rfl (Nat.le_of_ble_eq_true rfl) ⟨Nat.zero_le _, Nat.zero_le _⟩ dX3_layLoose_21) (fun _ _ h => h) (fun H locs hG => ?_)
  exact hc_vret E hr hlk hG dX3_layLoose_24

set_option maxHeartbeats 4000000 in
set_option maxRecDepth 100000 in
theorem h_X3_layAlong (l : Launch) (G : tG) (F : mF) (τ : Nat → Nat) (h0 : Nat) (h1 : Nat) (h2 : Nat) (x3 : Int32) (x4 : Int32) (x5 : Int32) (t0 : τ h0 = 5) (t1 : τ h1 = 3) (t2 : τ h2 = 3) (l5 : 0 ≤ x5.toInt) (u5 : x5.toInt ≤ 23) (d : Nat) (ih : P_lay d τ l G) (hd : (24 - x5.toInt).toNat < d + 1) (hU : ∀ q, τ q = 2 → q = (G.2.2.1 10)) (hK : AKF F (G.2.2.1 10)) (hC : CINV F (G.2.2.1 10)) (hL2 : LOK F (G.2.2.1 10) h2 (x5.toInt + 1)) : Met l yX3_layAlong (.code yX3_layAlong cX3_layAlong 9 (some .int) :: tWS) (tRm (42 * d + 41) (541 * d + 1527)) (va_Pc [.ref h0, .ref h1, .ref h2, .int x3, .int x4, .int x5] (tPre (gF G F) τ)) (tQF G τ (fun r F9 => HRx F F9 (G.2.2.1 10))) 0 0 (tA τ) := by
  refine tc_met (by decide) (Nat.le_of_ble_eq_true rfl) ?_
  intro p e s m below meth c E hSt hr hlk hG ls hl
  have hl : lv_has ls 9 [(0, .ref h0), (1, .ref h1), (2, .ref h2), (3, .int x3), (4, .int x4), (5, .int x5)] := hl
  have hx := E.1
  have hb := E.2.1
  obtain ⟨H, eH⟩ : ∃ H, H = s.heap := ⟨_, rfl⟩
  obtain ⟨locs, eL⟩ : ∃ x : List Loc, x = [] := ⟨_, rfl⟩
  have hG : hGH G F τ s H locs := ⟨F, HRx.refl hC, by rw [eH, eL]; exact hG⟩
  suffices hW : W p l e (tRm (42 * d + 41) (541 * d + 1527)) s m ([.ref h0, .ref h1, .ref h2, .int x3, .int x4, .int x5] : List Value).toArray below meth c H locs 0 0 (MQ below (tQF G τ (fun r F9 => HRx F F9 (G.2.2.1 10))) ([.ref h0, .ref h1, .ref h2, .int x3, .int x4, .int x5] : List Value).toArray s 0 0 (tA τ)) (F0 m 0 ls []) by subst eH; subst eL; exact hW
  clear eH eL
  have J64 : ∀ (H : Heap) (locs : List Loc) (ls : Array Slot) (v6 : Int32) (v7 : Int32) (vs0 : Int32), hGH G F τ s H locs → lv_has ls 9 [(0, .ref h0), (2, .ref h2), (3, .int x3), (4, .int x4), (5, .int x5), (6, .int v6), (7, .int v7)] → 0 ≤ v6.toInt → v6.toInt ≤ 1 → vs0.toInt ≤ 999 → W p l e (tRm (42 * d + 41) (541 * d + 1527)) s m ([.ref h0, .ref h1, .ref h2, .int x3, .int x4, .int x5] : List Value).toArray below meth c H locs 0 0 (MQ below (tQF G τ (fun r F9 => HRx F F9 (G.2.2.1 10))) ([.ref h0, .ref h1, .ref h2, .int x3, .int x4, .int x5] : List Value).toArray s 0 0 (tA τ)) (F0 m 64 ls [.int vs0]) := by
    intro H locs ls v6 v7 vs0 hG hl b6 c6 cs0
    refine lv_istore (lv' := [(8, .int vs0), (0, .ref h0), (2, .ref h2), (3, .int x3), (4, .int x4), (5, .int x5), (6, .int v6), (7, .int v7)]) hx hb dX3_layAlong_64 hl (by decide) rfl (fun ls hl => ?_)
    refine lv_iload hx hb dX3_layAlong_66 (lv_at hl 6 rfl) ?_
    refine lv_if_eq (tgt := 95) hx hb dX3_layAlong_68 (by decide) (fun c1 => ?_) (fun c1 => ?_)
    · skip
      have ic1 := tn_eq rfl kI_0 c1
      refine lv_aload_n hx hb dX3_layAlong_95 rfl (lv_at hl 1 rfl) ?_
      refine lv_aload_n hx hb dX3_layAlong_96 rfl (lv_at hl 2 rfl) ?_
      refine lv_iload hx hb dX3_layAlong_97 (lv_at hl 0 rfl) ?_
      refine lv_iload hx hb dX3_layAlong_99 (lv_at hl 7 rfl) ?_
      refine lv_iload_n hx hb dX3_layAlong_101 rfl (lv_at hl 3 rfl) ?_
      refine lv_iload hx hb dX3_layAlong_102 (lv_at hl 4 rfl) ?_
      refine lv_iload hx hb dX3_layAlong_104 (lv_at hl 5 rfl) ?_
      refine lv_iconst (v := 1) hx hb dX3_layAlong_106 (by decide) ?_
      refine lv_iadd hx hb dX3_layAlong_107 ?_
      refine lv_topi (fun z2 ez2 => ?_)
      have tz2 := tn_add ez2 rfl kI_1 (by omega) (by omega)
      refine hc_callvF hG (fun Fq hRq hG => tc_runV (As := [.ref h2, .int vs0, .int v7, .int x3, .int x4, .int z2]) (rest := []) (E.f1 (F' := Fq)) (hSt.f1 (F' := Fq)) hG (ih Fq h0 h2 vs0 v7 x3 x4 z2 t0 t2 (by omega) (by omega) hU (AKF_fr hRq.1 hK) hRq.2 (LOK_d (LOK_fr hRq.1 hL2) (by omega))) t0 rv_5 kv_X3_lay ml_X3_44 (tRm_ok (by omega) (by omega)) rfl hl.1 rfl (Nat.le_of_ble_eq_true rfl) ⟨Nat.zero_le _, Nat.zero_le _⟩ dX3_layAlong_108) (fun _ _ h => h) (fun H locs hG => ?_)
      refine lv_aload_n hx hb dX3_layAlong_111 rfl (lv_at hl 2 rfl) ?_
      refine hc_getr E hG t2 fr_X3_57 dX3_layAlong_112 (fun oa4 hoa4 => ?_)
      refine hc_geti E hG hoa4 fi_X3_176 dX3_layAlong_115 (fun z5 _ _ => ?_)
      exact hc_iret E hr hlk hG dX3_layAlong_118
    · skip
      have ic1 := tn_ne rfl kI_0 c1
      refine lv_aload_n hx hb dX3_layAlong_71 rfl (lv_at hl 1 rfl) ?_
      refine lv_aload_n hx hb dX3_layAlong_72 rfl (lv_at hl 2 rfl) ?_
      refine lv_iload_n hx hb dX3_layAlong_73 rfl (lv_at hl 3 rfl) ?_
      refine lv_iload hx hb dX3_layAlong_74 (lv_at hl 4 rfl) ?_
      refine lv_iload hx hb dX3_layAlong_76 (lv_at hl 0 rfl) ?_
      refine lv_iload hx hb dX3_layAlong_78 (lv_at hl 7 rfl) ?_
      refine lv_iload hx hb dX3_layAlong_80 (lv_at hl 5 rfl) ?_
      refine lv_iconst (v := 1) hx hb dX3_layAlong_82 (by decide) ?_
      refine lv_iadd hx hb dX3_layAlong_83 ?_
      refine lv_topi (fun z6 ez6 => ?_)
      have tz6 := tn_add ez6 rfl kI_1 (by omega) (by omega)
      refine hc_callvF hG (fun Fq hRq hG => tc_runV (As := [.ref h2, .int x3, .int x4, .int vs0, .int v7, .int z6]) (rest := []) (E.f1 (F' := Fq)) (hSt.f1 (F' := Fq)) hG (ih Fq h0 h2 x3 x4 vs0 v7 z6 t0 t2 (by omega) (by omega) hU (AKF_fr hRq.1 hK) hRq.2 (LOK_d (LOK_fr hRq.1 hL2) (by omega))) t0 rv_5 kv_X3_lay ml_X3_44 (tRm_ok (by omega) (by omega)) rfl hl.1 rfl (Nat.le_of_ble_eq_true rfl) ⟨Nat.zero_le _, Nat.zero_le _⟩ dX3_layAlong_84) (fun _ _ h => h) (fun H locs hG => ?_)
      refine lv_aload_n hx hb dX3_layAlong_87 rfl (lv_at hl 2 rfl) ?_
      refine hc_getr E hG t2 fr_X3_57 dX3_layAlong_88 (fun oa8 hoa8 => ?_)
      refine hc_geti E hG hoa8 fi_X3_173 dX3_layAlong_91 (fun z9 _ _ => ?_)
      exact hc_iret E hr hlk hG dX3_layAlong_94
  have J63 : ∀ (H : Heap) (locs : List Loc) (ls : Array Slot) (v6 : Int32) (v7 : Int32), hGH G F τ s H locs → lv_has ls 9 [(0, .ref h0), (2, .ref h2), (3, .int x3), (4, .int x4), (5, .int x5), (6, .int v6), (7, .int v7)] → 0 ≤ v6.toInt → v6.toInt ≤ 1 → W p l e (tRm (42 * d + 41) (541 * d + 1527)) s m ([.ref h0, .ref h1, .ref h2, .int x3, .int x4, .int x5] : List Value).toArray below meth c H locs 0 0 (MQ below (tQF G τ (fun r F9 => HRx F F9 (G.2.2.1 10))) ([.ref h0, .ref h1, .ref h2, .int x3, .int x4, .int x5] : List Value).toArray s 0 0 (tA τ)) (F0 m 63 ls []) := by
    intro H locs ls v6 v7 hG hl b6 c6
    refine lv_iconst (v := 0) hx hb dX3_layAlong_63 (by decide) ?_
    exact J64 H locs ls v6 v7 (0 : Int32) hG (lv_sub hl [0, 1, 2, 3, 4, 5, 6] rfl) (by omega) (by omega) (by decide)
  have J38 : ∀ (H : Heap) (locs : List Loc) (ls : Array Slot) (v6 : Int32) (vs0 : Int32), hGH G F τ s H locs → lv_has ls 9 [(0, .ref h0), (1, .ref h1), (2, .ref h2), (3, .int x3), (4, .int x4), (5, .int x5), (6, .int v6)] → 0 ≤ v6.toInt → v6.toInt ≤ 1 → W p l e (tRm (42 * d + 41) (541 * d + 1527)) s m ([.ref h0, .ref h1, .ref h2, .int x3, .int x4, .int x5] : List Value).toArray below meth c H locs 0 0 (MQ below (tQF G τ (fun r F9 => HRx F F9 (G.2.2.1 10))) ([.ref h0, .ref h1, .ref h2, .int x3, .int x4, .int x5] : List Value).toArray s 0 0 (tA τ)) (F0 m 38 ls [.int vs0]) := by
    intro H locs ls v6 vs0 hG hl b6 c6
    refine lv_istore (lv' := [(7, .int vs0), (0, .ref h0), (1, .ref h1), (2, .ref h2), (3, .int x3), (4, .int x4), (5, .int x5), (6, .int v6)]) hx hb dX3_layAlong_38 hl (by decide) rfl (fun ls hl => ?_)
    refine lv_aload_n hx hb dX3_layAlong_40 rfl (lv_at hl 2 rfl) ?_
    refine hc_getr E hG t1 fr_X3_111 dX3_layAlong_41 (fun oa10 hoa10 => ?_)
    refine lv_iconst (v := 0) hx hb dX3_layAlong_44 (by decide) ?_
    refine hc_iald E hG hoa10 ta_11 (t_in (by decide) (by decide)) dX3_layAlong_45 (fun z11 _ _ => ?_)
    refine lv_iconst (v := 3) hx hb dX3_layAlong_46 (by decide) ?_
    refine lv_icmp_ne (tgt := 63) hx hb dX3_layAlong_47 (by decide) (fun c12 => ?_) (fun c12 => ?_)
    · skip
      have ic12 := tn_ne rfl kI_3 c12
      exact J63 H locs ls v6 vs0 hG (lv_sub hl [1, 3, 4, 5, 6, 7, 0] rfl) (by omega) (by omega)
    · skip
      have ic12 := tn_eq rfl kI_3 c12
      refine lv_iload hx hb dX3_layAlong_50 (lv_at hl 0 rfl) ?_
      refine lv_sipush (v := 1000) hx hb dX3_layAlong_52 (by decide) ?_
      refine lv_icmp_ge (tgt := 63) hx hb dX3_layAlong_55 (by decide) (fun c13 => ?_) (fun c13 => ?_)
      · skip
        have ic13 := tn_le kI_1000 rfl c13
        exact J63 H locs ls v6 vs0 hG (lv_sub hl [1, 3, 4, 5, 6, 7, 0] rfl) (by omega) (by omega)
      · skip
        have ic13 := tn_nle kI_1000 rfl c13
        refine lv_iload hx hb dX3_layAlong_58 (lv_at hl 0 rfl) ?_
        refine lv_goto (tgt := 64) hx hb dX3_layAlong_60 (by decide) ?_
        exact J64 H locs ls v6 vs0 vs0 hG (lv_sub hl [1, 3, 4, 5, 6, 7, 0] rfl) (by omega) (by omega) (by omega)
  have J14 : ∀ (H : Heap) (locs : List Loc) (ls : Array Slot) (vs0 : Int32), hGH G F τ s H locs → lv_has ls 9 [(0, .ref h0), (1, .ref h1), (2, .ref h2), (3, .int x3), (4, .int x4), (5, .int x5)] → 0 ≤ vs0.toInt → vs0.toInt ≤ 1 → W p l e (tRm (42 * d + 41) (541 * d + 1527)) s m ([.ref h0, .ref h1, .ref h2, .int x3, .int x4, .int x5] : List Value).toArray below meth c H locs 0 0 (MQ below (tQF G τ (fun r F9 => HRx F F9 (G.2.2.1 10))) ([.ref h0, .ref h1, .ref h2, .int x3, .int x4, .int x5] : List Value).toArray s 0 0 (tA τ)) (F0 m 14 ls [.int vs0]) := by
    intro H locs ls vs0 hG hl bs0 cs0
    refine lv_istore (lv' := [(6, .int vs0), (0, .ref h0), (1, .ref h1), (2, .ref h2), (3, .int x3), (4, .int x4), (5, .int x5)]) hx hb dX3_layAlong_14 hl (by decide) rfl (fun ls hl => ?_)
    refine lv_iload hx hb dX3_layAlong_16 (lv_at hl 0 rfl) ?_
    refine lv_if_eq (tgt := 31) hx hb dX3_layAlong_18 (by decide) (fun c14 => ?_) (fun c14 => ?_)
    · skip
      have ic14 := tn_eq rfl kI_0 c14
      refine lv_aload_n hx hb dX3_layAlong_31 rfl (lv_at hl 2 rfl) ?_
      refine hc_getr E hG t1 fr_X3_57 dX3_layAlong_32 (fun oa15 hoa15 => ?_)
      refine hc_geti E hG hoa15 fi_X3_68 dX3_layAlong_35 (fun z16 _ _ => ?_)
      exact J38 H locs ls vs0 z16 hG (lv_sub hl [1, 2, 3, 4, 5, 6, 0] rfl) (by omega) (by omega)
    · skip
      have ic14 := tn_ne rfl kI_0 c14
      refine lv_aload_n hx hb dX3_layAlong_21 rfl (lv_at hl 2 rfl) ?_
      refine hc_getr E hG t1 fr_X3_57 dX3_layAlong_22 (fun oa17 hoa17 => ?_)
      refine hc_geti E hG hoa17 fi_X3_74 dX3_layAlong_25 (fun z18 _ _ => ?_)
      refine lv_goto (tgt := 38) hx hb dX3_layAlong_28 (by decide) ?_
      exact J38 H locs ls vs0 z18 hG (lv_sub hl [1, 2, 3, 4, 5, 6, 0] rfl) (by omega) (by omega)
  refine lv_aload_n hx hb dX3_layAlong_0 rfl (lv_at hl 1 rfl) ?_
  refine hc_geti E hG t1 fi_X3_108 dX3_layAlong_1 (fun z19 _ _ => ?_)
  refine lv_bipush (v := 8) hx hb dX3_layAlong_4 (by decide) ?_
  refine lv_icmp_ne (tgt := 13) hx hb dX3_layAlong_6 (by decide) (fun c20 => ?_) (fun c20 => ?_)
  · skip
    have ic20 := tn_ne rfl kI_8 c20
    refine lv_iconst (v := 0) hx hb dX3_layAlong_13 (by decide) ?_
    exact J14 H locs ls (0 : Int32) hG (lv_sub hl [0, 1, 2, 3, 4, 5] rfl) (by decide) (by decide)
  · skip
    have ic20 := tn_eq rfl kI_8 c20
    refine lv_iconst (v := 1) hx hb dX3_layAlong_9 (by decide) ?_
    refine lv_goto (tgt := 14) hx hb dX3_layAlong_10 (by decide) ?_
    exact J14 H locs ls (1 : Int32) hG (lv_sub hl [0, 1, 2, 3, 4, 5] rfl) (by decide) (by decide)

set_option maxHeartbeats 4000000 in
set_option maxRecDepth 100000 in
theorem h_X3_layPad (l : Launch) (G : tG) (F : mF) (τ : Nat → Nat) (h0 : Nat) (h1 : Nat) (x2 : Int32) (t0 : τ h0 = 5) (t1 : τ h1 = 3) (l2 : 0 ≤ x2.toInt) (u2 : x2.toInt ≤ 23) (d : Nat) (ih : P_lay d τ l G) (hd : (24 - x2.toInt).toNat < d + 1) (hU : ∀ q, τ q = 2 → q = (G.2.2.1 10)) (hK : AKF F (G.2.2.1 10)) (hC : CINV F (G.2.2.1 10)) (hL : LOK F (G.2.2.1 10) h1 x2.toInt) : Met l yX3_layPad (.code yX3_layPad cX3_layPad 7 none :: tWS) (tRm (42 * d + 41) (541 * d + 1527)) (va_Pc [.ref h0, .ref h1, .int x2] (tPre (gF G F) τ)) (tQG G τ (fun F9 => HRx F F9 (G.2.2.1 10))) 0 0 (tA τ) := by
  refine tc_met (by decide) (Nat.le_of_ble_eq_true rfl) ?_
  intro p e s m below meth c E hSt hr hlk hG ls hl
  have hl : lv_has ls 7 [(0, .ref h0), (1, .ref h1), (2, .int x2)] := hl
  have hx := E.1
  have hb := E.2.1
  obtain ⟨H, eH⟩ : ∃ H, H = s.heap := ⟨_, rfl⟩
  obtain ⟨locs, eL⟩ : ∃ x : List Loc, x = [] := ⟨_, rfl⟩
  have hG : hGH G F τ s H locs := ⟨F, HRx.refl hC, by rw [eH, eL]; exact hG⟩
  suffices hW : W p l e (tRm (42 * d + 41) (541 * d + 1527)) s m ([.ref h0, .ref h1, .int x2] : List Value).toArray below meth c H locs 0 0 (MQ below (tQG G τ (fun F9 => HRx F F9 (G.2.2.1 10))) ([.ref h0, .ref h1, .int x2] : List Value).toArray s 0 0 (tA τ)) (F0 m 0 ls []) by subst eH; subst eL; exact hW
  clear eH eL
  obtain ⟨n9, hn9, hA9, en9, hd9⟩ := id hL
  refine lv_aload_n hx hb dX3_layPad_0 rfl (lv_at hl 1 rfl) ?_
  refine hc_getr E hG t1 fr_X3_57 dX3_layPad_1 (fun oa1 hoa1 => ?_)
  refine lv_astore_n (lv' := [(3, .ref oa1), (0, .ref h0), (1, .ref h1), (2, .int x2)]) hx hb dX3_layPad_4 rfl hl (by decide) rfl (fun ls hl => ?_)
  refine lv_aload_n hx hb dX3_layPad_5 rfl (lv_at hl 2 rfl) ?_
  refine hc_getr E hG t1 fr_X3_111 dX3_layPad_6 (fun oa2 hoa2 => ?_)
  refine lv_iconst (v := 0) hx hb dX3_layPad_9 (by decide) ?_
  refine hc_iald E hG hoa2 ta_11 (t_in (by decide) (by decide)) dX3_layPad_10 (fun z3 _ _ => ?_)
  refine lv_istore (lv' := [(4, .int z3), (3, .ref oa1), (0, .ref h0), (1, .ref h1), (2, .int x2)]) hx hb dX3_layPad_11 hl (by decide) rfl (fun ls hl => ?_)
  refine lv_aload_n hx hb dX3_layPad_13 rfl (lv_at hl 3 rfl) ?_
  refine hc_getr E hG t1 fr_X3_111 dX3_layPad_14 (fun oa4 hoa4 => ?_)
  refine lv_iconst (v := 1) hx hb dX3_layPad_17 (by decide) ?_
  refine hc_iald E hG hoa4 ta_11 (t_in (by decide) (by decide)) dX3_layPad_18 (fun z5 _ _ => ?_)
  refine lv_istore (lv' := [(5, .int z5), (4, .int z3), (3, .ref oa1), (0, .ref h0), (1, .ref h1), (2, .int x2)]) hx hb dX3_layPad_19 hl (by decide) rfl (fun ls hl => ?_)
  refine lv_aload_n hx hb dX3_layPad_21 rfl (lv_at hl 3 rfl) ?_
  refine lv_aload_n hx hb dX3_layPad_22 rfl (lv_at hl 4 rfl) ?_
  refine hc_callpq (post' := fun r => r = none ∨ ∃ y, r = some y ∧ τ y = 3 ∧ y = ((G.2.2.1 10) + 1 + (3 + 4 * (F (h1 + 2) (0 : Int32).toNatClampNeg).toNatClampNeg)) ∧ 0 < (F h1 10).toInt) hG (fun Fq hRq hG => tc_runV (As := [.ref h1]) (rest := []) (E.f1 (F' := Fq)) (hSt.f1 (F' := Fq)) hG (x_X3_onlyKid l (gF G Fq) τ h0 h1 t0 t1 hU) t0 rv_5 kv_X3_onlyKid ml_X3_163 (tRm_ok (by omega) (by omega)) rfl hl.1 rfl (Nat.le_of_ble_eq_true rfl) ⟨Nat.zero_le _, Nat.zero_le _⟩ dX3_layPad_23) (fun Fq r hf q => by rw [← hf (h1 + 2) (0 : Int32).toNatClampNeg (by omega), ← hf h1 10 (by omega)]; exact q) (fun r6 pr6 => ?_)
  rcases r6 with _ | br6
  · skip
    refine lv_astoreN (lv' := [(6, .null), (5, .int z5), (4, .int z3), (3, .ref oa1), (0, .ref h0), (1, .ref h1), (2, .int x2)]) hx hb dX3_layPad_26 hl (by decide) rfl (fun ls hl => ?_)
    refine lv_aloadN hx hb dX3_layPad_28 (lv_at hl 0 rfl) ?_
    refine lv_ifnonnullN hx hb dX3_layPad_30 ?_
    refine lv_aload_n hx hb dX3_layPad_33 rfl (lv_at hl 3 rfl) ?_
    refine lv_iconst (v := 2) hx hb dX3_layPad_34 (by decide) ?_
    refine lv_iload hx hb dX3_layPad_35 (lv_at hl 2 rfl) ?_
    refine lv_imul hx hb dX3_layPad_37 ?_
    refine lv_topi (fun z7 ez7 => ?_)
    refine lv_iconst (v := 2) hx hb dX3_layPad_38 (by decide) ?_
    refine lv_iload hx hb dX3_layPad_39 (lv_at hl 1 rfl) ?_
    refine lv_imul hx hb dX3_layPad_41 ?_
    refine lv_topi (fun z8 ez8 => ?_)
    refine hc_callv hG (fun Fq hRq hG => tc_runV (As := [.int z7, .int z8]) (rest := []) (E.f1 (F' := Fq)) (hSt.f1 (F' := Fq)) hG (c_X2_sizeTo l (gF G Fq) τ oa1 z7 z8 hoa1) hoa1 rv_4 kv_X2_sizeTo ml_X3_115 (tRm_ok (by omega) (by omega)) rfl hl.1 rfl (Nat.le_of_ble_eq_true rfl) ⟨Nat.zero_le _, Nat.zero_le _⟩ dX3_layPad_42) (fun H locs hG => ?_)
    exact hc_vret E hr hlk hG dX3_layPad_45
  · obtain ⟨yr6, er6, qr6, kr6, gr6⟩ := pr6.resolve_left (fun h => by cases h)
    obtain rfl := Option.some.inj er6
    have lkbr6 : LOK F (G.2.2.1 10) br6 (x2.toInt + 1) := LOK_kid hK hL (i := 0) (by decide) (by have k0 := kI_0; omega) kr6
    have ldbr6 := LOK_le lkbr6
    refine lv_astore (lv' := [(6, .ref br6), (5, .int z5), (4, .int z3), (3, .ref oa1), (0, .ref h0), (1, .ref h1), (2, .int x2)]) hx hb dX3_layPad_26 hl (by decide) rfl (fun ls hl => ?_)
    refine lv_aload hx hb dX3_layPad_28 (lv_at hl 0 rfl) ?_
    refine lv_ifnonnull (tgt := 46) hx hb dX3_layPad_30 (by decide) ?_
    refine lv_aload_n hx hb dX3_layPad_46 rfl (lv_at hl 4 rfl) ?_
    refine lv_aload hx hb dX3_layPad_47 (lv_at hl 0 rfl) ?_
    refine lv_aload_n hx hb dX3_layPad_49 rfl (lv_at hl 3 rfl) ?_
    refine hc_geti E hG hoa1 fi_X3_63 dX3_layPad_50 (fun z10 _ _ => ?_)
    refine lv_iconst (v := 2) hx hb dX3_layPad_53 (by decide) ?_
    refine lv_iload hx hb dX3_layPad_54 (lv_at hl 2 rfl) ?_
    refine lv_imul hx hb dX3_layPad_56 ?_
    refine lv_topi (fun z11 ez11 => ?_)
    refine hc_callp hG (fun Fq hRq hG => tc_runS (As := [.int z10, .int z11]) (rest := [.ref br6, .ref h0]) (E.f1 (F' := Fq)) (hSt.f1 (F' := Fq)) hG (c_X3_lessBy l (gF G Fq) τ z10 z11) ks_X3_lessBy ml_X3_167 (tRm_ok (by omega) (by omega)) rfl hl.1 rfl (Nat.le_of_ble_eq_true rfl) ⟨Nat.zero_le _, Nat.zero_le _⟩ dX3_layPad_57) (fun r12 pr12 => ?_)
    refine lv_aload_n hx hb dX3_layPad_60 rfl (lv_at hl 3 rfl) ?_
    refine hc_geti E hG hoa1 fi_X3_68 dX3_layPad_61 (fun z13 _ _ => ?_)
    refine lv_iconst (v := 2) hx hb dX3_layPad_64 (by decide) ?_
    refine lv_iload hx hb dX3_layPad_65 (lv_at hl 2 rfl) ?_
    refine lv_imul hx hb dX3_layPad_67 ?_
    refine lv_topi (fun z14 ez14 => ?_)
    refine hc_callp hG (fun Fq hRq hG => tc_runS (As := [.int z13, .int z14]) (rest := [.int r12, .ref br6, .ref h0]) (E.f1 (F' := Fq)) (hSt.f1 (F' := Fq)) hG (c_X3_lessBy l (gF G Fq) τ z13 z14) ks_X3_lessBy ml_X3_167 (tRm_ok (by omega) (by omega)) rfl hl.1 rfl (Nat.le_of_ble_eq_true rfl) ⟨Nat.zero_le _, Nat.zero_le _⟩ dX3_layPad_68) (fun r15 pr15 => ?_)
    refine lv_aload_n hx hb dX3_layPad_71 rfl (lv_at hl 3 rfl) ?_
    refine hc_geti E hG hoa1 fi_X3_71 dX3_layPad_72 (fun z16 _ _ => ?_)
    refine lv_iconst (v := 2) hx hb dX3_layPad_75 (by decide) ?_
    refine lv_iload hx hb dX3_layPad_76 (lv_at hl 1 rfl) ?_
    refine lv_imul hx hb dX3_layPad_78 ?_
    refine lv_topi (fun z17 ez17 => ?_)
    refine hc_callp hG (fun Fq hRq hG => tc_runS (As := [.int z16, .int z17]) (rest := [.int r15, .int r12, .ref br6, .ref h0]) (E.f1 (F' := Fq)) (hSt.f1 (F' := Fq)) hG (c_X3_lessBy l (gF G Fq) τ z16 z17) ks_X3_lessBy ml_X3_167 (tRm_ok (by omega) (by omega)) rfl hl.1 rfl (Nat.le_of_ble_eq_true rfl) ⟨Nat.zero_le _, Nat.zero_le _⟩ dX3_layPad_79) (fun r18 pr18 => ?_)
    refine lv_aload_n hx hb dX3_layPad_82 rfl (lv_at hl 3 rfl) ?_
    refine hc_geti E hG hoa1 fi_X3_74 dX3_layPad_83 (fun z19 _ _ => ?_)
    refine lv_iconst (v := 2) hx hb dX3_layPad_86 (by decide) ?_
    refine lv_iload hx hb dX3_layPad_87 (lv_at hl 1 rfl) ?_
    refine lv_imul hx hb dX3_layPad_89 ?_
    refine lv_topi (fun z20 ez20 => ?_)
    refine hc_callp hG (fun Fq hRq hG => tc_runS (As := [.int z19, .int z20]) (rest := [.int r18, .int r15, .int r12, .ref br6, .ref h0]) (E.f1 (F' := Fq)) (hSt.f1 (F' := Fq)) hG (c_X3_lessBy l (gF G Fq) τ z19 z20) ks_X3_lessBy ml_X3_167 (tRm_ok (by omega) (by omega)) rfl hl.1 rfl (Nat.le_of_ble_eq_true rfl) ⟨Nat.zero_le _, Nat.zero_le _⟩ dX3_layPad_90) (fun r21 pr21 => ?_)
    refine lv_iload_n hx hb dX3_layPad_93 rfl (lv_at hl 6 rfl) ?_
    refine lv_iconst (v := 1) hx hb dX3_layPad_94 (by decide) ?_
    refine lv_iadd hx hb dX3_layPad_95 ?_
    refine lv_topi (fun z22 ez22 => ?_)
    have tz22 := tn_add ez22 rfl kI_1 (by omega) (by omega)
    refine hc_callvF hG (fun Fq hRq hG => tc_runV (As := [.ref br6, .int r12, .int r15, .int r18, .int r21, .int z22]) (rest := []) (E.f1 (F' := Fq)) (hSt.f1 (F' := Fq)) hG (ih Fq h0 br6 r12 r15 r18 r21 z22 t0 qr6 (by omega) (by omega) hU (AKF_fr hRq.1 hK) hRq.2 (LOK_d (LOK_fr hRq.1 lkbr6) (by omega))) t0 rv_5 kv_X3_lay ml_X3_44 (tRm_ok (by omega) (by omega)) rfl hl.1 rfl (Nat.le_of_ble_eq_true rfl) ⟨Nat.zero_le _, Nat.zero_le _⟩ dX3_layPad_96) (fun _ _ h => h) (fun H locs hG => ?_)
    refine lv_aload hx hb dX3_layPad_99 (lv_at hl 0 rfl) ?_
    refine hc_getr E hG qr6 fr_X3_57 dX3_layPad_101 (fun oa24 hoa24 => ?_)
    refine lv_iload hx hb dX3_layPad_104 (lv_at hl 2 rfl) ?_
    refine lv_iload hx hb dX3_layPad_106 (lv_at hl 1 rfl) ?_
    refine hc_callv hG (fun Fq hRq hG => tc_runV (As := [.int z3, .int z5]) (rest := []) (E.f1 (F' := Fq)) (hSt.f1 (F' := Fq)) hG (c_X2_placeAt l (gF G Fq) τ oa24 z3 z5 hoa24) hoa24 rv_4 kv_X2_placeAt ml_X3_170 (tRm_ok (by omega) (by omega)) rfl hl.1 rfl (Nat.le_of_ble_eq_true rfl) ⟨Nat.zero_le _, Nat.zero_le _⟩ dX3_layPad_108) (fun H locs hG => ?_)
    refine lv_aload_n hx hb dX3_layPad_111 rfl (lv_at hl 3 rfl) ?_
    refine lv_aload hx hb dX3_layPad_112 (lv_at hl 0 rfl) ?_
    refine hc_getr E hG qr6 fr_X3_57 dX3_layPad_114 (fun oa26 hoa26 => ?_)
    refine hc_geti E hG hoa26 fi_X3_173 dX3_layPad_117 (fun z27 _ _ => ?_)
    refine lv_iconst (v := 2) hx hb dX3_layPad_120 (by decide) ?_
    refine lv_iload hx hb dX3_layPad_121 (lv_at hl 2 rfl) ?_
    refine lv_imul hx hb dX3_layPad_123 ?_
    refine lv_topi (fun z28 ez28 => ?_)
    refine lv_iadd hx hb dX3_layPad_124 ?_
    refine lv_topi (fun z29 ez29 => ?_)
    refine lv_aload hx hb dX3_layPad_125 (lv_at hl 0 rfl) ?_
    refine hc_getr E hG qr6 fr_X3_57 dX3_layPad_127 (fun oa30 hoa30 => ?_)
    refine hc_geti E hG hoa30 fi_X3_176 dX3_layPad_130 (fun z31 _ _ => ?_)
    refine lv_iconst (v := 2) hx hb dX3_layPad_133 (by decide) ?_
    refine lv_iload hx hb dX3_layPad_134 (lv_at hl 1 rfl) ?_
    refine lv_imul hx hb dX3_layPad_136 ?_
    refine lv_topi (fun z32 ez32 => ?_)
    refine lv_iadd hx hb dX3_layPad_137 ?_
    refine lv_topi (fun z33 ez33 => ?_)
    refine hc_callv hG (fun Fq hRq hG => tc_runV (As := [.int z29, .int z33]) (rest := []) (E.f1 (F' := Fq)) (hSt.f1 (F' := Fq)) hG (c_X2_sizeTo l (gF G Fq) τ oa1 z29 z33 hoa1) hoa1 rv_4 kv_X2_sizeTo ml_X3_115 (tRm_ok (by omega) (by omega)) rfl hl.1 rfl (Nat.le_of_ble_eq_true rfl) ⟨Nat.zero_le _, Nat.zero_le _⟩ dX3_layPad_138) (fun H locs hG => ?_)
    exact hc_vret E hr hlk hG dX3_layPad_141

set_option maxHeartbeats 4000000 in
set_option maxRecDepth 100000 in
theorem h_X3_layLimit (l : Launch) (G : tG) (F : mF) (τ : Nat → Nat) (h0 : Nat) (h1 : Nat) (x2 : Int32) (t0 : τ h0 = 5) (t1 : τ h1 = 3) (l2 : 0 ≤ x2.toInt) (u2 : x2.toInt ≤ 23) (d : Nat) (ih : P_lay d τ l G) (hd : (24 - x2.toInt).toNat < d + 1) (hU : ∀ q, τ q = 2 → q = (G.2.2.1 10)) (hK : AKF F (G.2.2.1 10)) (hC : CINV F (G.2.2.1 10)) (hL : LOK F (G.2.2.1 10) h1 x2.toInt) : Met l yX3_layLimit (.code yX3_layLimit cX3_layLimit 9 none :: tWS) (tRm (42 * d + 41) (541 * d + 1527)) (va_Pc [.ref h0, .ref h1, .int x2] (tPre (gF G F) τ)) (tQG G τ (fun F9 => HRx F F9 (G.2.2.1 10))) 0 0 (tA τ) := by
  refine tc_met (by decide) (Nat.le_of_ble_eq_true rfl) ?_
  intro p e s m below meth c E hSt hr hlk hG ls hl
  have hl : lv_has ls 9 [(0, .ref h0), (1, .ref h1), (2, .int x2)] := hl
  have hx := E.1
  have hb := E.2.1
  obtain ⟨H, eH⟩ : ∃ H, H = s.heap := ⟨_, rfl⟩
  obtain ⟨locs, eL⟩ : ∃ x : List Loc, x = [] := ⟨_, rfl⟩
  have hG : hGH G F τ s H locs := ⟨F, HRx.refl hC, by rw [eH, eL]; exact hG⟩
  suffices hW : W p l e (tRm (42 * d + 41) (541 * d + 1527)) s m ([.ref h0, .ref h1, .int x2] : List Value).toArray below meth c H locs 0 0 (MQ below (tQG G τ (fun F9 => HRx F F9 (G.2.2.1 10))) ([.ref h0, .ref h1, .int x2] : List Value).toArray s 0 0 (tA τ)) (F0 m 0 ls []) by subst eH; subst eL; exact hW
  clear eH eL
  obtain ⟨n9, hn9, hA9, en9, hd9⟩ := id hL
  refine lv_aload_n hx hb dX3_layLimit_0 rfl (lv_at hl 1 rfl) ?_
  refine hc_getr E hG t1 fr_X3_57 dX3_layLimit_1 (fun oa1 hoa1 => ?_)
  refine lv_astore_n (lv' := [(3, .ref oa1), (0, .ref h0), (1, .ref h1), (2, .int x2)]) hx hb dX3_layLimit_4 rfl hl (by decide) rfl (fun ls hl => ?_)
  refine lv_aload_n hx hb dX3_layLimit_5 rfl (lv_at hl 2 rfl) ?_
  refine hc_getr E hG t1 fr_X3_111 dX3_layLimit_6 (fun oa2 hoa2 => ?_)
  refine lv_iconst (v := 0) hx hb dX3_layLimit_9 (by decide) ?_
  refine hc_iald E hG hoa2 ta_11 (t_in (by decide) (by decide)) dX3_layLimit_10 (fun z3 _ _ => ?_)
  refine lv_aload_n hx hb dX3_layLimit_11 rfl (lv_at hl 0 rfl) ?_
  refine hc_geti E hG hoa1 fi_X3_63 dX3_layLimit_12 (fun z4 _ _ => ?_)
  refine lv_aload_n hx hb dX3_layLimit_15 rfl (lv_at hl 0 rfl) ?_
  refine hc_geti E hG hoa1 fi_X3_68 dX3_layLimit_16 (fun z5 _ _ => ?_)
  refine hc_callp hG (fun Fq hRq hG => tc_runN (As := [.int z3, .int z4, .int z5]) (rest := []) (E.f1 (F' := Fq)) (hSt.f1 (F' := Fq)) hG (c_X9_held l (gF G Fq) τ z3 z4 z5) ks_X9_held (List.mem_of_getElem? (i := 2) rfl) (tRm_ok (by omega) (by omega)) rfl hl.1 rfl (Nat.le_of_ble_eq_true rfl) ⟨Nat.zero_le _, Nat.zero_le _⟩ dX3_layLimit_19) (fun r6 pr6 => ?_)
  refine lv_istore (lv' := [(4, .int r6), (3, .ref oa1), (0, .ref h0), (1, .ref h1), (2, .int x2)]) hx hb dX3_layLimit_22 hl (by decide) rfl (fun ls hl => ?_)
  refine lv_aload_n hx hb dX3_layLimit_24 rfl (lv_at hl 3 rfl) ?_
  refine hc_getr E hG t1 fr_X3_111 dX3_layLimit_25 (fun oa7 hoa7 => ?_)
  refine lv_iconst (v := 1) hx hb dX3_layLimit_28 (by decide) ?_
  refine hc_iald E hG hoa7 ta_11 (t_in (by decide) (by decide)) dX3_layLimit_29 (fun z8 _ _ => ?_)
  refine hc_callp hG (fun Fq hRq hG => tc_runS (As := [.int z8]) (rest := []) (E.f1 (F' := Fq)) (hSt.f1 (F' := Fq)) hG (c_X0_orNoEnd l (gF G Fq) τ z8) ks_X0_orNoEnd ml_X3_183 (tRm_ok (by omega) (by omega)) rfl hl.1 rfl (Nat.le_of_ble_eq_true rfl) ⟨Nat.zero_le _, Nat.zero_le _⟩ dX3_layLimit_30) (fun r9 pr9 => ?_)
  refine lv_aload_n hx hb dX3_layLimit_33 rfl (lv_at hl 1 rfl) ?_
  refine hc_geti E hG hoa1 fi_X3_63 dX3_layLimit_34 (fun z10 _ _ => ?_)
  refine lv_aload_n hx hb dX3_layLimit_37 rfl (lv_at hl 1 rfl) ?_
  refine hc_geti E hG hoa1 fi_X3_68 dX3_layLimit_38 (fun z11 _ _ => ?_)
  refine hc_callp hG (fun Fq hRq hG => tc_runN (As := [.int r9, .int z10, .int z11]) (rest := []) (E.f1 (F' := Fq)) (hSt.f1 (F' := Fq)) hG (c_X9_held l (gF G Fq) τ r9 z10 z11) ks_X9_held (List.mem_of_getElem? (i := 2) rfl) (tRm_ok (by omega) (by omega)) rfl hl.1 rfl (Nat.le_of_ble_eq_true rfl) ⟨Nat.zero_le _, Nat.zero_le _⟩ dX3_layLimit_41) (fun r12 pr12 => ?_)
  refine lv_istore (lv' := [(5, .int r12), (4, .int r6), (3, .ref oa1), (0, .ref h0), (1, .ref h1), (2, .int x2)]) hx hb dX3_layLimit_44 hl (by decide) rfl (fun ls hl => ?_)
  refine lv_aload_n hx hb dX3_layLimit_46 rfl (lv_at hl 4 rfl) ?_
  refine hc_getr E hG t1 fr_X3_111 dX3_layLimit_47 (fun oa13 hoa13 => ?_)
  refine lv_iconst (v := 2) hx hb dX3_layLimit_50 (by decide) ?_
  refine hc_iald E hG hoa13 ta_11 (t_in (by decide) (by decide)) dX3_layLimit_51 (fun z14 _ _ => ?_)
  refine lv_aload_n hx hb dX3_layLimit_52 rfl (lv_at hl 2 rfl) ?_
  refine hc_geti E hG hoa1 fi_X3_71 dX3_layLimit_53 (fun z15 _ _ => ?_)
  refine lv_aload_n hx hb dX3_layLimit_56 rfl (lv_at hl 2 rfl) ?_
  refine hc_geti E hG hoa1 fi_X3_74 dX3_layLimit_57 (fun z16 _ _ => ?_)
  refine hc_callp hG (fun Fq hRq hG => tc_runN (As := [.int z14, .int z15, .int z16]) (rest := []) (E.f1 (F' := Fq)) (hSt.f1 (F' := Fq)) hG (c_X9_held l (gF G Fq) τ z14 z15 z16) ks_X9_held (List.mem_of_getElem? (i := 2) rfl) (tRm_ok (by omega) (by omega)) rfl hl.1 rfl (Nat.le_of_ble_eq_true rfl) ⟨Nat.zero_le _, Nat.zero_le _⟩ dX3_layLimit_60) (fun r17 pr17 => ?_)
  refine lv_istore (lv' := [(6, .int r17), (5, .int r12), (4, .int r6), (3, .ref oa1), (0, .ref h0), (1, .ref h1), (2, .int x2)]) hx hb dX3_layLimit_63 hl (by decide) rfl (fun ls hl => ?_)
  refine lv_aload_n hx hb dX3_layLimit_65 rfl (lv_at hl 5 rfl) ?_
  refine hc_getr E hG t1 fr_X3_111 dX3_layLimit_66 (fun oa18 hoa18 => ?_)
  refine lv_iconst (v := 3) hx hb dX3_layLimit_69 (by decide) ?_
  refine hc_iald E hG hoa18 ta_11 (t_in (by decide) (by decide)) dX3_layLimit_70 (fun z19 _ _ => ?_)
  refine hc_callp hG (fun Fq hRq hG => tc_runS (As := [.int z19]) (rest := []) (E.f1 (F' := Fq)) (hSt.f1 (F' := Fq)) hG (c_X0_orNoEnd l (gF G Fq) τ z19) ks_X0_orNoEnd ml_X3_183 (tRm_ok (by omega) (by omega)) rfl hl.1 rfl (Nat.le_of_ble_eq_true rfl) ⟨Nat.zero_le _, Nat.zero_le _⟩ dX3_layLimit_71) (fun r20 pr20 => ?_)
  refine lv_aload_n hx hb dX3_layLimit_74 rfl (lv_at hl 3 rfl) ?_
  refine hc_geti E hG hoa1 fi_X3_71 dX3_layLimit_75 (fun z21 _ _ => ?_)
  refine lv_aload_n hx hb dX3_layLimit_78 rfl (lv_at hl 3 rfl) ?_
  refine hc_geti E hG hoa1 fi_X3_74 dX3_layLimit_79 (fun z22 _ _ => ?_)
  refine hc_callp hG (fun Fq hRq hG => tc_runN (As := [.int r20, .int z21, .int z22]) (rest := []) (E.f1 (F' := Fq)) (hSt.f1 (F' := Fq)) hG (c_X9_held l (gF G Fq) τ r20 z21 z22) ks_X9_held (List.mem_of_getElem? (i := 2) rfl) (tRm_ok (by omega) (by omega)) rfl hl.1 rfl (Nat.le_of_ble_eq_true rfl) ⟨Nat.zero_le _, Nat.zero_le _⟩ dX3_layLimit_82) (fun r23 pr23 => ?_)
  refine lv_istore (lv' := [(7, .int r23), (6, .int r17), (5, .int r12), (4, .int r6), (3, .ref oa1), (0, .ref h0), (1, .ref h1), (2, .int x2)]) hx hb dX3_layLimit_85 hl (by decide) rfl (fun ls hl => ?_)
  refine lv_aload_n hx hb dX3_layLimit_87 rfl (lv_at hl 5 rfl) ?_
  refine lv_aload_n hx hb dX3_layLimit_88 rfl (lv_at hl 6 rfl) ?_
  refine hc_callpq (post' := fun r => r = none ∨ ∃ y, r = some y ∧ τ y = 3 ∧ y = ((G.2.2.1 10) + 1 + (3 + 4 * (F (h1 + 2) (0 : Int32).toNatClampNeg).toNatClampNeg)) ∧ 0 < (F h1 10).toInt) hG (fun Fq hRq hG => tc_runV (As := [.ref h1]) (rest := []) (E.f1 (F' := Fq)) (hSt.f1 (F' := Fq)) hG (x_X3_onlyKid l (gF G Fq) τ h0 h1 t0 t1 hU) t0 rv_5 kv_X3_onlyKid ml_X3_163 (tRm_ok (by omega) (by omega)) rfl hl.1 rfl (Nat.le_of_ble_eq_true rfl) ⟨Nat.zero_le _, Nat.zero_le _⟩ dX3_layLimit_89) (fun Fq r hf q => by rw [← hf (h1 + 2) (0 : Int32).toNatClampNeg (by omega), ← hf h1 10 (by omega)]; exact q) (fun r24 pr24 => ?_)
  rcases r24 with _ | br24
  · skip
    refine lv_astoreN (lv' := [(8, .null), (7, .int r23), (6, .int r17), (5, .int r12), (4, .int r6), (3, .ref oa1), (0, .ref h0), (1, .ref h1), (2, .int x2)]) hx hb dX3_layLimit_92 hl (by decide) rfl (fun ls hl => ?_)
    refine lv_aloadN hx hb dX3_layLimit_94 (lv_at hl 0 rfl) ?_
    refine lv_ifnonnullN hx hb dX3_layLimit_96 ?_
    refine lv_aload_n hx hb dX3_layLimit_99 rfl (lv_at hl 5 rfl) ?_
    refine lv_iload hx hb dX3_layLimit_100 (lv_at hl 4 rfl) ?_
    refine lv_iload hx hb dX3_layLimit_102 (lv_at hl 2 rfl) ?_
    refine hc_callv hG (fun Fq hRq hG => tc_runV (As := [.int r6, .int r17]) (rest := []) (E.f1 (F' := Fq)) (hSt.f1 (F' := Fq)) hG (c_X2_sizeTo l (gF G Fq) τ oa1 r6 r17 hoa1) hoa1 rv_4 kv_X2_sizeTo ml_X3_115 (tRm_ok (by omega) (by omega)) rfl hl.1 rfl (Nat.le_of_ble_eq_true rfl) ⟨Nat.zero_le _, Nat.zero_le _⟩ dX3_layLimit_104) (fun H locs hG => ?_)
    exact hc_vret E hr hlk hG dX3_layLimit_107
  · obtain ⟨yr24, er24, qr24, kr24, gr24⟩ := pr24.resolve_left (fun h => by cases h)
    obtain rfl := Option.some.inj er24
    have lkbr24 : LOK F (G.2.2.1 10) br24 (x2.toInt + 1) := LOK_kid hK hL (i := 0) (by decide) (by have k0 := kI_0; omega) kr24
    have ldbr24 := LOK_le lkbr24
    refine lv_astore (lv' := [(8, .ref br24), (7, .int r23), (6, .int r17), (5, .int r12), (4, .int r6), (3, .ref oa1), (0, .ref h0), (1, .ref h1), (2, .int x2)]) hx hb dX3_layLimit_92 hl (by decide) rfl (fun ls hl => ?_)
    refine lv_aload hx hb dX3_layLimit_94 (lv_at hl 0 rfl) ?_
    refine lv_ifnonnull (tgt := 108) hx hb dX3_layLimit_96 (by decide) ?_
    refine lv_aload_n hx hb dX3_layLimit_108 rfl (lv_at hl 6 rfl) ?_
    refine lv_aload hx hb dX3_layLimit_109 (lv_at hl 0 rfl) ?_
    refine lv_iload hx hb dX3_layLimit_111 (lv_at hl 4 rfl) ?_
    refine lv_iload hx hb dX3_layLimit_113 (lv_at hl 3 rfl) ?_
    refine lv_iload hx hb dX3_layLimit_115 (lv_at hl 2 rfl) ?_
    refine lv_iload hx hb dX3_layLimit_117 (lv_at hl 1 rfl) ?_
    refine lv_iload_n hx hb dX3_layLimit_119 rfl (lv_at hl 8 rfl) ?_
    refine lv_iconst (v := 1) hx hb dX3_layLimit_120 (by decide) ?_
    refine lv_iadd hx hb dX3_layLimit_121 ?_
    refine lv_topi (fun z26 ez26 => ?_)
    have tz26 := tn_add ez26 rfl kI_1 (by omega) (by omega)
    refine hc_callvF hG (fun Fq hRq hG => tc_runV (As := [.ref br24, .int r6, .int r12, .int r17, .int r23, .int z26]) (rest := []) (E.f1 (F' := Fq)) (hSt.f1 (F' := Fq)) hG (ih Fq h0 br24 r6 r12 r17 r23 z26 t0 qr24 (by omega) (by omega) hU (AKF_fr hRq.1 hK) hRq.2 (LOK_d (LOK_fr hRq.1 lkbr24) (by omega))) t0 rv_5 kv_X3_lay ml_X3_44 (tRm_ok (by omega) (by omega)) rfl hl.1 rfl (Nat.le_of_ble_eq_true rfl) ⟨Nat.zero_le _, Nat.zero_le _⟩ dX3_layLimit_122) (fun _ _ h => h) (fun H locs hG => ?_)
    refine lv_aload hx hb dX3_layLimit_125 (lv_at hl 0 rfl) ?_
    refine hc_getr E hG qr24 fr_X3_57 dX3_layLimit_127 (fun oa28 hoa28 => ?_)
    refine lv_iconst (v := 0) hx hb dX3_layLimit_130 (by decide) ?_
    refine lv_iconst (v := 0) hx hb dX3_layLimit_131 (by decide) ?_
    refine hc_callv hG (fun Fq hRq hG => tc_runV (As := [.int 0, .int 0]) (rest := []) (E.f1 (F' := Fq)) (hSt.f1 (F' := Fq)) hG (c_X2_placeAt l (gF G Fq) τ oa28 (0 : Int32) (0 : Int32) hoa28) hoa28 rv_4 kv_X2_placeAt ml_X3_170 (tRm_ok (by omega) (by omega)) rfl hl.1 rfl (Nat.le_of_ble_eq_true rfl) ⟨Nat.zero_le _, Nat.zero_le _⟩ dX3_layLimit_132) (fun H locs hG => ?_)
    refine lv_aload_n hx hb dX3_layLimit_135 rfl (lv_at hl 5 rfl) ?_
    refine lv_aload hx hb dX3_layLimit_136 (lv_at hl 0 rfl) ?_
    refine hc_getr E hG qr24 fr_X3_57 dX3_layLimit_138 (fun oa30 hoa30 => ?_)
    refine hc_geti E hG hoa30 fi_X3_173 dX3_layLimit_141 (fun z31 _ _ => ?_)
    refine lv_aload hx hb dX3_layLimit_144 (lv_at hl 0 rfl) ?_
    refine hc_getr E hG qr24 fr_X3_57 dX3_layLimit_146 (fun oa32 hoa32 => ?_)
    refine hc_geti E hG hoa32 fi_X3_176 dX3_layLimit_149 (fun z33 _ _ => ?_)
    refine hc_callv hG (fun Fq hRq hG => tc_runV (As := [.int z31, .int z33]) (rest := []) (E.f1 (F' := Fq)) (hSt.f1 (F' := Fq)) hG (c_X2_sizeTo l (gF G Fq) τ oa1 z31 z33 hoa1) hoa1 rv_4 kv_X2_sizeTo ml_X3_115 (tRm_ok (by omega) (by omega)) rfl hl.1 rfl (Nat.le_of_ble_eq_true rfl) ⟨Nat.zero_le _, Nat.zero_le _⟩ dX3_layLimit_152) (fun H locs hG => ?_)
    exact hc_vret E hr hlk hG dX3_layLimit_155

set_option maxHeartbeats 4000000 in
set_option maxRecDepth 100000 in
theorem h_X3_layCentre (l : Launch) (G : tG) (F : mF) (τ : Nat → Nat) (h0 : Nat) (h1 : Nat) (x2 : Int32) (t0 : τ h0 = 5) (t1 : τ h1 = 3) (l2 : 0 ≤ x2.toInt) (u2 : x2.toInt ≤ 23) (d : Nat) (ih : P_lay d τ l G) (hd : (24 - x2.toInt).toNat < d + 1) (hU : ∀ q, τ q = 2 → q = (G.2.2.1 10)) (hK : AKF F (G.2.2.1 10)) (hC : CINV F (G.2.2.1 10)) (hL : LOK F (G.2.2.1 10) h1 x2.toInt) : Met l yX3_layCentre (.code yX3_layCentre cX3_layCentre 7 none :: tWS) (tRm (42 * d + 42) (541 * d + 1550)) (va_Pc [.ref h0, .ref h1, .int x2] (tPre (gF G F) τ)) (tQG G τ (fun F9 => HRx F F9 (G.2.2.1 10))) 0 0 (tA τ) := by
  refine tc_met (by decide) (Nat.le_of_ble_eq_true rfl) ?_
  intro p e s m below meth c E hSt hr hlk hG ls hl
  have hl : lv_has ls 7 [(0, .ref h0), (1, .ref h1), (2, .int x2)] := hl
  have hx := E.1
  have hb := E.2.1
  obtain ⟨H, eH⟩ : ∃ H, H = s.heap := ⟨_, rfl⟩
  obtain ⟨locs, eL⟩ : ∃ x : List Loc, x = [] := ⟨_, rfl⟩
  have hG : hGH G F τ s H locs := ⟨F, HRx.refl hC, by rw [eH, eL]; exact hG⟩
  suffices hW : W p l e (tRm (42 * d + 42) (541 * d + 1550)) s m ([.ref h0, .ref h1, .int x2] : List Value).toArray below meth c H locs 0 0 (MQ below (tQG G τ (fun F9 => HRx F F9 (G.2.2.1 10))) ([.ref h0, .ref h1, .int x2] : List Value).toArray s 0 0 (tA τ)) (F0 m 0 ls []) by subst eH; subst eL; exact hW
  clear eH eL
  obtain ⟨n9, hn9, hA9, en9, hd9⟩ := id hL
  refine lv_aload_n hx hb dX3_layCentre_0 rfl (lv_at hl 1 rfl) ?_
  refine hc_getr E hG t1 fr_X3_57 dX3_layCentre_1 (fun oa1 hoa1 => ?_)
  refine lv_astore_n (lv' := [(3, .ref oa1), (0, .ref h0), (1, .ref h1), (2, .int x2)]) hx hb dX3_layCentre_4 rfl hl (by decide) rfl (fun ls hl => ?_)
  refine lv_aload_n hx hb dX3_layCentre_5 rfl (lv_at hl 1 rfl) ?_
  refine lv_aload_n hx hb dX3_layCentre_6 rfl (lv_at hl 2 rfl) ?_
  refine hc_callpq (post' := fun r => r = none ∨ ∃ y, r = some y ∧ τ y = 3 ∧ y = ((G.2.2.1 10) + 1 + (3 + 4 * (F (h1 + 2) (0 : Int32).toNatClampNeg).toNatClampNeg)) ∧ 0 < (F h1 10).toInt) hG (fun Fq hRq hG => tc_runV (As := [.ref h1]) (rest := []) (E.f1 (F' := Fq)) (hSt.f1 (F' := Fq)) hG (x_X3_onlyKid l (gF G Fq) τ h0 h1 t0 t1 hU) t0 rv_5 kv_X3_onlyKid ml_X3_163 (tRm_ok (by omega) (by omega)) rfl hl.1 rfl (Nat.le_of_ble_eq_true rfl) ⟨Nat.zero_le _, Nat.zero_le _⟩ dX3_layCentre_7) (fun Fq r hf q => by rw [← hf (h1 + 2) (0 : Int32).toNatClampNeg (by omega), ← hf h1 10 (by omega)]; exact q) (fun r2 pr2 => ?_)
  rcases r2 with _ | br2
  · skip
    refine lv_astoreN (lv' := [(4, .null), (3, .ref oa1), (0, .ref h0), (1, .ref h1), (2, .int x2)]) hx hb dX3_layCentre_10 hl (by decide) rfl (fun ls hl => ?_)
    refine lv_iconst (v := 0) hx hb dX3_layCentre_12 (by decide) ?_
    refine lv_istore (lv' := [(5, .int 0), (4, .null), (3, .ref oa1), (0, .ref h0), (1, .ref h1), (2, .int x2)]) hx hb dX3_layCentre_13 hl (by decide) rfl (fun ls hl => ?_)
    refine lv_iconst (v := 0) hx hb dX3_layCentre_15 (by decide) ?_
    refine lv_istore (lv' := [(6, .int 0), (5, .int 0), (4, .null), (3, .ref oa1), (0, .ref h0), (1, .ref h1), (2, .int x2)]) hx hb dX3_layCentre_16 hl (by decide) rfl (fun ls hl => ?_)
    refine lv_aloadN hx hb dX3_layCentre_18 (lv_at hl 2 rfl) ?_
    refine lv_ifnullN (tgt := 51) hx hb dX3_layCentre_20 (by decide) ?_
    refine lv_aload_n hx hb dX3_layCentre_51 rfl (lv_at hl 3 rfl) ?_
    refine lv_aload_n hx hb dX3_layCentre_52 rfl (lv_at hl 3 rfl) ?_
    refine hc_geti E hG hoa1 fi_X3_68 dX3_layCentre_53 (fun z3 _ _ => ?_)
    refine lv_sipush (v := 1000) hx hb dX3_layCentre_56 (by decide) ?_
    refine lv_icmp_ge (tgt := 69) hx hb dX3_layCentre_59 (by decide) (fun c4 => ?_) (fun c4 => ?_)
    · skip
      have ic4 := tn_le kI_1000 rfl c4
      refine lv_iload hx hb dX3_layCentre_69 (lv_at hl 1 rfl) ?_
      refine lv_aload_n hx hb dX3_layCentre_71 rfl (lv_at hl 3 rfl) ?_
      refine hc_geti E hG hoa1 fi_X3_74 dX3_layCentre_72 (fun z5 _ _ => ?_)
      refine lv_sipush (v := 1000) hx hb dX3_layCentre_75 (by decide) ?_
      refine lv_icmp_ge (tgt := 88) hx hb dX3_layCentre_78 (by decide) (fun c6 => ?_) (fun c6 => ?_)
      · skip
        have ic6 := tn_le kI_1000 rfl c6
        refine lv_iload hx hb dX3_layCentre_88 (lv_at hl 0 rfl) ?_
        refine hc_callv hG (fun Fq hRq hG => tc_runV (As := [.int 0, .int 0]) (rest := []) (E.f1 (F' := Fq)) (hSt.f1 (F' := Fq)) hG (c_X2_sizeTo l (gF G Fq) τ oa1 (0 : Int32) (0 : Int32) hoa1) hoa1 rv_4 kv_X2_sizeTo ml_X3_115 (tRm_ok (by omega) (by omega)) rfl hl.1 rfl (Nat.le_of_ble_eq_true rfl) ⟨Nat.zero_le _, Nat.zero_le _⟩ dX3_layCentre_90) (fun H locs hG => ?_)
        refine lv_aloadN hx hb dX3_layCentre_93 (lv_at hl 2 rfl) ?_
        refine lv_ifnullN (tgt := 124) hx hb dX3_layCentre_95 (by decide) ?_
        exact hc_vret E hr hlk hG dX3_layCentre_124
      · skip
        have ic6 := tn_nle kI_1000 rfl c6
        refine lv_aload_n hx hb dX3_layCentre_81 rfl (lv_at hl 3 rfl) ?_
        refine hc_geti E hG hoa1 fi_X3_74 dX3_layCentre_82 (fun z8 _ _ => ?_)
        refine lv_goto (tgt := 90) hx hb dX3_layCentre_85 (by decide) ?_
        refine hc_callv hG (fun Fq hRq hG => tc_runV (As := [.int 0, .int z8]) (rest := []) (E.f1 (F' := Fq)) (hSt.f1 (F' := Fq)) hG (c_X2_sizeTo l (gF G Fq) τ oa1 (0 : Int32) z8 hoa1) hoa1 rv_4 kv_X2_sizeTo ml_X3_115 (tRm_ok (by omega) (by omega)) rfl hl.1 rfl (Nat.le_of_ble_eq_true rfl) ⟨Nat.zero_le _, Nat.zero_le _⟩ dX3_layCentre_90) (fun H locs hG => ?_)
        refine lv_aloadN hx hb dX3_layCentre_93 (lv_at hl 2 rfl) ?_
        refine lv_ifnullN (tgt := 124) hx hb dX3_layCentre_95 (by decide) ?_
        exact hc_vret E hr hlk hG dX3_layCentre_124
    · skip
      have ic4 := tn_nle kI_1000 rfl c4
      refine lv_aload_n hx hb dX3_layCentre_62 rfl (lv_at hl 3 rfl) ?_
      refine hc_geti E hG hoa1 fi_X3_68 dX3_layCentre_63 (fun z10 _ _ => ?_)
      refine lv_goto (tgt := 71) hx hb dX3_layCentre_66 (by decide) ?_
      refine lv_aload_n hx hb dX3_layCentre_71 rfl (lv_at hl 3 rfl) ?_
      refine hc_geti E hG hoa1 fi_X3_74 dX3_layCentre_72 (fun z11 _ _ => ?_)
      refine lv_sipush (v := 1000) hx hb dX3_layCentre_75 (by decide) ?_
      refine lv_icmp_ge (tgt := 88) hx hb dX3_layCentre_78 (by decide) (fun c12 => ?_) (fun c12 => ?_)
      · skip
        have ic12 := tn_le kI_1000 rfl c12
        refine lv_iload hx hb dX3_layCentre_88 (lv_at hl 0 rfl) ?_
        refine hc_callv hG (fun Fq hRq hG => tc_runV (As := [.int z10, .int 0]) (rest := []) (E.f1 (F' := Fq)) (hSt.f1 (F' := Fq)) hG (c_X2_sizeTo l (gF G Fq) τ oa1 z10 (0 : Int32) hoa1) hoa1 rv_4 kv_X2_sizeTo ml_X3_115 (tRm_ok (by omega) (by omega)) rfl hl.1 rfl (Nat.le_of_ble_eq_true rfl) ⟨Nat.zero_le _, Nat.zero_le _⟩ dX3_layCentre_90) (fun H locs hG => ?_)
        refine lv_aloadN hx hb dX3_layCentre_93 (lv_at hl 2 rfl) ?_
        refine lv_ifnullN (tgt := 124) hx hb dX3_layCentre_95 (by decide) ?_
        exact hc_vret E hr hlk hG dX3_layCentre_124
      · skip
        have ic12 := tn_nle kI_1000 rfl c12
        refine lv_aload_n hx hb dX3_layCentre_81 rfl (lv_at hl 3 rfl) ?_
        refine hc_geti E hG hoa1 fi_X3_74 dX3_layCentre_82 (fun z14 _ _ => ?_)
        refine lv_goto (tgt := 90) hx hb dX3_layCentre_85 (by decide) ?_
        refine hc_callv hG (fun Fq hRq hG => tc_runV (As := [.int z10, .int z14]) (rest := []) (E.f1 (F' := Fq)) (hSt.f1 (F' := Fq)) hG (c_X2_sizeTo l (gF G Fq) τ oa1 z10 z14 hoa1) hoa1 rv_4 kv_X2_sizeTo ml_X3_115 (tRm_ok (by omega) (by omega)) rfl hl.1 rfl (Nat.le_of_ble_eq_true rfl) ⟨Nat.zero_le _, Nat.zero_le _⟩ dX3_layCentre_90) (fun H locs hG => ?_)
        refine lv_aloadN hx hb dX3_layCentre_93 (lv_at hl 2 rfl) ?_
        refine lv_ifnullN (tgt := 124) hx hb dX3_layCentre_95 (by decide) ?_
        exact hc_vret E hr hlk hG dX3_layCentre_124
  · obtain ⟨yr2, er2, qr2, kr2, gr2⟩ := pr2.resolve_left (fun h => by cases h)
    obtain rfl := Option.some.inj er2
    have lkbr2 : LOK F (G.2.2.1 10) br2 (x2.toInt + 1) := LOK_kid hK hL (i := 0) (by decide) (by have k0 := kI_0; omega) kr2
    have ldbr2 := LOK_le lkbr2
    refine lv_astore (lv' := [(4, .ref br2), (3, .ref oa1), (0, .ref h0), (1, .ref h1), (2, .int x2)]) hx hb dX3_layCentre_10 hl (by decide) rfl (fun ls hl => ?_)
    refine lv_iconst (v := 0) hx hb dX3_layCentre_12 (by decide) ?_
    refine lv_istore (lv' := [(5, .int 0), (4, .ref br2), (3, .ref oa1), (0, .ref h0), (1, .ref h1), (2, .int x2)]) hx hb dX3_layCentre_13 hl (by decide) rfl (fun ls hl => ?_)
    refine lv_iconst (v := 0) hx hb dX3_layCentre_15 (by decide) ?_
    refine lv_istore (lv' := [(6, .int 0), (5, .int 0), (4, .ref br2), (3, .ref oa1), (0, .ref h0), (1, .ref h1), (2, .int x2)]) hx hb dX3_layCentre_16 hl (by decide) rfl (fun ls hl => ?_)
    refine lv_aload hx hb dX3_layCentre_18 (lv_at hl 2 rfl) ?_
    refine lv_ifnull hx hb dX3_layCentre_20 ?_
    refine lv_aload_n hx hb dX3_layCentre_23 rfl (lv_at hl 4 rfl) ?_
    refine lv_aload_n hx hb dX3_layCentre_24 rfl (lv_at hl 5 rfl) ?_
    refine lv_aload hx hb dX3_layCentre_25 (lv_at hl 2 rfl) ?_
    refine lv_iload_n hx hb dX3_layCentre_27 rfl (lv_at hl 6 rfl) ?_
    refine hc_callvF hG (fun Fq hRq hG => tc_runV (As := [.ref h1, .ref br2, .int x2]) (rest := []) (E.f1 (F' := Fq)) (hSt.f1 (F' := Fq)) hG (h_X3_layLoose l G Fq τ h0 h1 br2 x2 t0 t1 qr2 (by omega) (by omega) d ih (by omega) hU (AKF_fr hRq.1 hK) hRq.2 (LOK_fr hRq.1 lkbr2)) t0 rv_5 kv_X3_layLoose ml_X3_187 (tRm_ok (by omega) (by omega)) rfl hl.1 rfl (Nat.le_of_ble_eq_true rfl) ⟨Nat.zero_le _, Nat.zero_le _⟩ dX3_layCentre_28) (fun _ _ h => h) (fun H locs hG => ?_)
    refine lv_aload hx hb dX3_layCentre_31 (lv_at hl 2 rfl) ?_
    refine hc_getr E hG qr2 fr_X3_57 dX3_layCentre_33 (fun oa17 hoa17 => ?_)
    refine hc_geti E hG hoa17 fi_X3_173 dX3_layCentre_36 (fun z18 _ _ => ?_)
    refine lv_istore (lv' := [(5, .int z18), (6, .int 0), (4, .ref br2), (3, .ref oa1), (0, .ref h0), (1, .ref h1), (2, .int x2)]) hx hb dX3_layCentre_39 hl (by decide) rfl (fun ls hl => ?_)
    refine lv_aload hx hb dX3_layCentre_41 (lv_at hl 2 rfl) ?_
    refine hc_getr E hG qr2 fr_X3_57 dX3_layCentre_43 (fun oa19 hoa19 => ?_)
    refine hc_geti E hG hoa19 fi_X3_176 dX3_layCentre_46 (fun z20 _ _ => ?_)
    refine lv_istore (lv' := [(6, .int z20), (5, .int z18), (4, .ref br2), (3, .ref oa1), (0, .ref h0), (1, .ref h1), (2, .int x2)]) hx hb dX3_layCentre_49 hl (by decide) rfl (fun ls hl => ?_)
    refine lv_aload_n hx hb dX3_layCentre_51 rfl (lv_at hl 3 rfl) ?_
    refine lv_aload_n hx hb dX3_layCentre_52 rfl (lv_at hl 3 rfl) ?_
    refine hc_geti E hG hoa1 fi_X3_68 dX3_layCentre_53 (fun z21 _ _ => ?_)
    refine lv_sipush (v := 1000) hx hb dX3_layCentre_56 (by decide) ?_
    refine lv_icmp_ge (tgt := 69) hx hb dX3_layCentre_59 (by decide) (fun c22 => ?_) (fun c22 => ?_)
    · skip
      have ic22 := tn_le kI_1000 rfl c22
      refine lv_iload hx hb dX3_layCentre_69 (lv_at hl 1 rfl) ?_
      refine lv_aload_n hx hb dX3_layCentre_71 rfl (lv_at hl 3 rfl) ?_
      refine hc_geti E hG hoa1 fi_X3_74 dX3_layCentre_72 (fun z23 _ _ => ?_)
      refine lv_sipush (v := 1000) hx hb dX3_layCentre_75 (by decide) ?_
      refine lv_icmp_ge (tgt := 88) hx hb dX3_layCentre_78 (by decide) (fun c24 => ?_) (fun c24 => ?_)
      · skip
        have ic24 := tn_le kI_1000 rfl c24
        refine lv_iload hx hb dX3_layCentre_88 (lv_at hl 0 rfl) ?_
        refine hc_callv hG (fun Fq hRq hG => tc_runV (As := [.int z18, .int z20]) (rest := []) (E.f1 (F' := Fq)) (hSt.f1 (F' := Fq)) hG (c_X2_sizeTo l (gF G Fq) τ oa1 z18 z20 hoa1) hoa1 rv_4 kv_X2_sizeTo ml_X3_115 (tRm_ok (by omega) (by omega)) rfl hl.1 rfl (Nat.le_of_ble_eq_true rfl) ⟨Nat.zero_le _, Nat.zero_le _⟩ dX3_layCentre_90) (fun H locs hG => ?_)
        refine lv_aload hx hb dX3_layCentre_93 (lv_at hl 2 rfl) ?_
        refine lv_ifnull hx hb dX3_layCentre_95 ?_
        refine lv_aload hx hb dX3_layCentre_98 (lv_at hl 2 rfl) ?_
        refine hc_getr E hG qr2 fr_X3_57 dX3_layCentre_100 (fun oa26 hoa26 => ?_)
        refine lv_aload_n hx hb dX3_layCentre_103 rfl (lv_at hl 3 rfl) ?_
        refine hc_geti E hG hoa1 fi_X3_173 dX3_layCentre_104 (fun z27 _ _ => ?_)
        refine lv_iload hx hb dX3_layCentre_107 (lv_at hl 1 rfl) ?_
        refine lv_isub hx hb dX3_layCentre_109 ?_
        refine lv_topi (fun z28 ez28 => ?_)
        refine lv_iconst (v := 2) hx hb dX3_layCentre_110 (by decide) ?_
        refine lv_idiv hx hb dX3_layCentre_111 (by decide) ?_
        refine lv_topi (fun z29 ez29 => ?_)
        refine lv_aload_n hx hb dX3_layCentre_112 rfl (lv_at hl 3 rfl) ?_
        refine hc_geti E hG hoa1 fi_X3_176 dX3_layCentre_113 (fun z30 _ _ => ?_)
        refine lv_iload hx hb dX3_layCentre_116 (lv_at hl 0 rfl) ?_
        refine lv_isub hx hb dX3_layCentre_118 ?_
        refine lv_topi (fun z31 ez31 => ?_)
        refine lv_iconst (v := 2) hx hb dX3_layCentre_119 (by decide) ?_
        refine lv_idiv hx hb dX3_layCentre_120 (by decide) ?_
        refine lv_topi (fun z32 ez32 => ?_)
        refine hc_callv hG (fun Fq hRq hG => tc_runV (As := [.int z29, .int z32]) (rest := []) (E.f1 (F' := Fq)) (hSt.f1 (F' := Fq)) hG (c_X2_placeAt l (gF G Fq) τ oa26 z29 z32 hoa26) hoa26 rv_4 kv_X2_placeAt ml_X3_170 (tRm_ok (by omega) (by omega)) rfl hl.1 rfl (Nat.le_of_ble_eq_true rfl) ⟨Nat.zero_le _, Nat.zero_le _⟩ dX3_layCentre_121) (fun H locs hG => ?_)
        exact hc_vret E hr hlk hG dX3_layCentre_124
      · skip
        have ic24 := tn_nle kI_1000 rfl c24
        refine lv_aload_n hx hb dX3_layCentre_81 rfl (lv_at hl 3 rfl) ?_
        refine hc_geti E hG hoa1 fi_X3_74 dX3_layCentre_82 (fun z34 _ _ => ?_)
        refine lv_goto (tgt := 90) hx hb dX3_layCentre_85 (by decide) ?_
        refine hc_callv hG (fun Fq hRq hG => tc_runV (As := [.int z18, .int z34]) (rest := []) (E.f1 (F' := Fq)) (hSt.f1 (F' := Fq)) hG (c_X2_sizeTo l (gF G Fq) τ oa1 z18 z34 hoa1) hoa1 rv_4 kv_X2_sizeTo ml_X3_115 (tRm_ok (by omega) (by omega)) rfl hl.1 rfl (Nat.le_of_ble_eq_true rfl) ⟨Nat.zero_le _, Nat.zero_le _⟩ dX3_layCentre_90) (fun H locs hG => ?_)
        refine lv_aload hx hb dX3_layCentre_93 (lv_at hl 2 rfl) ?_
        refine lv_ifnull hx hb dX3_layCentre_95 ?_
        refine lv_aload hx hb dX3_layCentre_98 (lv_at hl 2 rfl) ?_
        refine hc_getr E hG qr2 fr_X3_57 dX3_layCentre_100 (fun oa36 hoa36 => ?_)
        refine lv_aload_n hx hb dX3_layCentre_103 rfl (lv_at hl 3 rfl) ?_
        refine hc_geti E hG hoa1 fi_X3_173 dX3_layCentre_104 (fun z37 _ _ => ?_)
        refine lv_iload hx hb dX3_layCentre_107 (lv_at hl 1 rfl) ?_
        refine lv_isub hx hb dX3_layCentre_109 ?_
        refine lv_topi (fun z38 ez38 => ?_)
        refine lv_iconst (v := 2) hx hb dX3_layCentre_110 (by decide) ?_
        refine lv_idiv hx hb dX3_layCentre_111 (by decide) ?_
        refine lv_topi (fun z39 ez39 => ?_)
        refine lv_aload_n hx hb dX3_layCentre_112 rfl (lv_at hl 3 rfl) ?_
        refine hc_geti E hG hoa1 fi_X3_176 dX3_layCentre_113 (fun z40 _ _ => ?_)
        refine lv_iload hx hb dX3_layCentre_116 (lv_at hl 0 rfl) ?_
        refine lv_isub hx hb dX3_layCentre_118 ?_
        refine lv_topi (fun z41 ez41 => ?_)
        refine lv_iconst (v := 2) hx hb dX3_layCentre_119 (by decide) ?_
        refine lv_idiv hx hb dX3_layCentre_120 (by decide) ?_
        refine lv_topi (fun z42 ez42 => ?_)
        refine hc_callv hG (fun Fq hRq hG => tc_runV (As := [.int z39, .int z42]) (rest := []) (E.f1 (F' := Fq)) (hSt.f1 (F' := Fq)) hG (c_X2_placeAt l (gF G Fq) τ oa36 z39 z42 hoa36) hoa36 rv_4 kv_X2_placeAt ml_X3_170 (tRm_ok (by omega) (by omega)) rfl hl.1 rfl (Nat.le_of_ble_eq_true rfl) ⟨Nat.zero_le _, Nat.zero_le _⟩ dX3_layCentre_121) (fun H locs hG => ?_)
        exact hc_vret E hr hlk hG dX3_layCentre_124
    · skip
      have ic22 := tn_nle kI_1000 rfl c22
      refine lv_aload_n hx hb dX3_layCentre_62 rfl (lv_at hl 3 rfl) ?_
      refine hc_geti E hG hoa1 fi_X3_68 dX3_layCentre_63 (fun z44 _ _ => ?_)
      refine lv_goto (tgt := 71) hx hb dX3_layCentre_66 (by decide) ?_
      refine lv_aload_n hx hb dX3_layCentre_71 rfl (lv_at hl 3 rfl) ?_
      refine hc_geti E hG hoa1 fi_X3_74 dX3_layCentre_72 (fun z45 _ _ => ?_)
      refine lv_sipush (v := 1000) hx hb dX3_layCentre_75 (by decide) ?_
      refine lv_icmp_ge (tgt := 88) hx hb dX3_layCentre_78 (by decide) (fun c46 => ?_) (fun c46 => ?_)
      · skip
        have ic46 := tn_le kI_1000 rfl c46
        refine lv_iload hx hb dX3_layCentre_88 (lv_at hl 0 rfl) ?_
        refine hc_callv hG (fun Fq hRq hG => tc_runV (As := [.int z44, .int z20]) (rest := []) (E.f1 (F' := Fq)) (hSt.f1 (F' := Fq)) hG (c_X2_sizeTo l (gF G Fq) τ oa1 z44 z20 hoa1) hoa1 rv_4 kv_X2_sizeTo ml_X3_115 (tRm_ok (by omega) (by omega)) rfl hl.1 rfl (Nat.le_of_ble_eq_true rfl) ⟨Nat.zero_le _, Nat.zero_le _⟩ dX3_layCentre_90) (fun H locs hG => ?_)
        refine lv_aload hx hb dX3_layCentre_93 (lv_at hl 2 rfl) ?_
        refine lv_ifnull hx hb dX3_layCentre_95 ?_
        refine lv_aload hx hb dX3_layCentre_98 (lv_at hl 2 rfl) ?_
        refine hc_getr E hG qr2 fr_X3_57 dX3_layCentre_100 (fun oa48 hoa48 => ?_)
        refine lv_aload_n hx hb dX3_layCentre_103 rfl (lv_at hl 3 rfl) ?_
        refine hc_geti E hG hoa1 fi_X3_173 dX3_layCentre_104 (fun z49 _ _ => ?_)
        refine lv_iload hx hb dX3_layCentre_107 (lv_at hl 1 rfl) ?_
        refine lv_isub hx hb dX3_layCentre_109 ?_
        refine lv_topi (fun z50 ez50 => ?_)
        refine lv_iconst (v := 2) hx hb dX3_layCentre_110 (by decide) ?_
        refine lv_idiv hx hb dX3_layCentre_111 (by decide) ?_
        refine lv_topi (fun z51 ez51 => ?_)
        refine lv_aload_n hx hb dX3_layCentre_112 rfl (lv_at hl 3 rfl) ?_
        refine hc_geti E hG hoa1 fi_X3_176 dX3_layCentre_113 (fun z52 _ _ => ?_)
        refine lv_iload hx hb dX3_layCentre_116 (lv_at hl 0 rfl) ?_
        refine lv_isub hx hb dX3_layCentre_118 ?_
        refine lv_topi (fun z53 ez53 => ?_)
        refine lv_iconst (v := 2) hx hb dX3_layCentre_119 (by decide) ?_
        refine lv_idiv hx hb dX3_layCentre_120 (by decide) ?_
        refine lv_topi (fun z54 ez54 => ?_)
        refine hc_callv hG (fun Fq hRq hG => tc_runV (As := [.int z51, .int z54]) (rest := []) (E.f1 (F' := Fq)) (hSt.f1 (F' := Fq)) hG (c_X2_placeAt l (gF G Fq) τ oa48 z51 z54 hoa48) hoa48 rv_4 kv_X2_placeAt ml_X3_170 (tRm_ok (by omega) (by omega)) rfl hl.1 rfl (Nat.le_of_ble_eq_true rfl) ⟨Nat.zero_le _, Nat.zero_le _⟩ dX3_layCentre_121) (fun H locs hG => ?_)
        exact hc_vret E hr hlk hG dX3_layCentre_124
      · skip
        have ic46 := tn_nle kI_1000 rfl c46
        refine lv_aload_n hx hb dX3_layCentre_81 rfl (lv_at hl 3 rfl) ?_
        refine hc_geti E hG hoa1 fi_X3_74 dX3_layCentre_82 (fun z56 _ _ => ?_)
        refine lv_goto (tgt := 90) hx hb dX3_layCentre_85 (by decide) ?_
        refine hc_callv hG (fun Fq hRq hG => tc_runV (As := [.int z44, .int z56]) (rest := []) (E.f1 (F' := Fq)) (hSt.f1 (F' := Fq)) hG (c_X2_sizeTo l (gF G Fq) τ oa1 z44 z56 hoa1) hoa1 rv_4 kv_X2_sizeTo ml_X3_115 (tRm_ok (by omega) (by omega)) rfl hl.1 rfl (Nat.le_of_ble_eq_true rfl) ⟨Nat.zero_le _, Nat.zero_le _⟩ dX3_layCentre_90) (fun H locs hG => ?_)
        refine lv_aload hx hb dX3_layCentre_93 (lv_at hl 2 rfl) ?_
        refine lv_ifnull hx hb dX3_layCentre_95 ?_
        refine lv_aload hx hb dX3_layCentre_98 (lv_at hl 2 rfl) ?_
        refine hc_getr E hG qr2 fr_X3_57 dX3_layCentre_100 (fun oa58 hoa58 => ?_)
        refine lv_aload_n hx hb dX3_layCentre_103 rfl (lv_at hl 3 rfl) ?_
        refine hc_geti E hG hoa1 fi_X3_173 dX3_layCentre_104 (fun z59 _ _ => ?_)
        refine lv_iload hx hb dX3_layCentre_107 (lv_at hl 1 rfl) ?_
        refine lv_isub hx hb dX3_layCentre_109 ?_
        refine lv_topi (fun z60 ez60 => ?_)
        refine lv_iconst (v := 2) hx hb dX3_layCentre_110 (by decide) ?_
        refine lv_idiv hx hb dX3_layCentre_111 (by decide) ?_
        refine lv_topi (fun z61 ez61 => ?_)
        refine lv_aload_n hx hb dX3_layCentre_112 rfl (lv_at hl 3 rfl) ?_
        refine hc_geti E hG hoa1 fi_X3_176 dX3_layCentre_113 (fun z62 _ _ => ?_)
        refine lv_iload hx hb dX3_layCentre_116 (lv_at hl 0 rfl) ?_
        refine lv_isub hx hb dX3_layCentre_118 ?_
        refine lv_topi (fun z63 ez63 => ?_)
        refine lv_iconst (v := 2) hx hb dX3_layCentre_119 (by decide) ?_
        refine lv_idiv hx hb dX3_layCentre_120 (by decide) ?_
        refine lv_topi (fun z64 ez64 => ?_)
        refine hc_callv hG (fun Fq hRq hG => tc_runV (As := [.int z61, .int z64]) (rest := []) (E.f1 (F' := Fq)) (hSt.f1 (F' := Fq)) hG (c_X2_placeAt l (gF G Fq) τ oa58 z61 z64 hoa58) hoa58 rv_4 kv_X2_placeAt ml_X3_170 (tRm_ok (by omega) (by omega)) rfl hl.1 rfl (Nat.le_of_ble_eq_true rfl) ⟨Nat.zero_le _, Nat.zero_le _⟩ dX3_layCentre_121) (fun H locs hG => ?_)
        exact hc_vret E hr hlk hG dX3_layCentre_124

set_option maxHeartbeats 4000000 in
set_option maxRecDepth 100000 in
theorem h_X3_layFit (l : Launch) (G : tG) (F : mF) (τ : Nat → Nat) (h0 : Nat) (h1 : Nat) (x2 : Int32) (t0 : τ h0 = 5) (t1 : τ h1 = 3) (l2 : 0 ≤ x2.toInt) (u2 : x2.toInt ≤ 23) (d : Nat) (ih : P_lay d τ l G) (hd : (24 - x2.toInt).toNat < d + 1) (hU : ∀ q, τ q = 2 → q = (G.2.2.1 10)) (hK : AKF F (G.2.2.1 10)) (hC : CINV F (G.2.2.1 10)) (hL : LOK F (G.2.2.1 10) h1 x2.toInt) : Met l yX3_layFit (.code yX3_layFit cX3_layFit 6 none :: tWS) (tRm (42 * d + 80) (541 * d + 1994)) (va_Pc [.ref h0, .ref h1, .int x2] (tPre (gF G F) τ)) (tQG G τ (fun F9 => HRx F F9 (G.2.2.1 10))) 0 0 (tA τ) := by
  refine tc_met (by decide) (Nat.le_of_ble_eq_true rfl) ?_
  intro p e s m below meth c E hSt hr hlk hG ls hl
  have hl : lv_has ls 6 [(0, .ref h0), (1, .ref h1), (2, .int x2)] := hl
  have hx := E.1
  have hb := E.2.1
  obtain ⟨H, eH⟩ : ∃ H, H = s.heap := ⟨_, rfl⟩
  obtain ⟨locs, eL⟩ : ∃ x : List Loc, x = [] := ⟨_, rfl⟩
  have hG : hGH G F τ s H locs := ⟨F, HRx.refl hC, by rw [eH, eL]; exact hG⟩
  suffices hW : W p l e (tRm (42 * d + 80) (541 * d + 1994)) s m ([.ref h0, .ref h1, .int x2] : List Value).toArray below meth c H locs 0 0 (MQ below (tQG G τ (fun F9 => HRx F F9 (G.2.2.1 10))) ([.ref h0, .ref h1, .int x2] : List Value).toArray s 0 0 (tA τ)) (F0 m 0 ls []) by subst eH; subst eL; exact hW
  clear eH eL
  obtain ⟨n9, hn9, hA9, en9, hd9⟩ := id hL
  refine lv_aload_n hx hb dX3_layFit_0 rfl (lv_at hl 1 rfl) ?_
  refine hc_getr E hG t1 fr_X3_57 dX3_layFit_1 (fun oa1 hoa1 => ?_)
  refine lv_astore_n (lv' := [(3, .ref oa1), (0, .ref h0), (1, .ref h1), (2, .int x2)]) hx hb dX3_layFit_4 rfl hl (by decide) rfl (fun ls hl => ?_)
  refine lv_aload_n hx hb dX3_layFit_5 rfl (lv_at hl 1 rfl) ?_
  refine lv_aload_n hx hb dX3_layFit_6 rfl (lv_at hl 2 rfl) ?_
  refine hc_callpq (post' := fun r => r = none ∨ ∃ y, r = some y ∧ τ y = 3 ∧ y = ((G.2.2.1 10) + 1 + (3 + 4 * (F (h1 + 2) (0 : Int32).toNatClampNeg).toNatClampNeg)) ∧ 0 < (F h1 10).toInt) hG (fun Fq hRq hG => tc_runV (As := [.ref h1]) (rest := []) (E.f1 (F' := Fq)) (hSt.f1 (F' := Fq)) hG (x_X3_onlyKid l (gF G Fq) τ h0 h1 t0 t1 hU) t0 rv_5 kv_X3_onlyKid ml_X3_163 (tRm_ok (by omega) (by omega)) rfl hl.1 rfl (Nat.le_of_ble_eq_true rfl) ⟨Nat.zero_le _, Nat.zero_le _⟩ dX3_layFit_7) (fun Fq r hf q => by rw [← hf (h1 + 2) (0 : Int32).toNatClampNeg (by omega), ← hf h1 10 (by omega)]; exact q) (fun r2 pr2 => ?_)
  rcases r2 with _ | br2
  · skip
    refine lv_astoreN (lv' := [(4, .null), (3, .ref oa1), (0, .ref h0), (1, .ref h1), (2, .int x2)]) hx hb dX3_layFit_10 hl (by decide) rfl (fun ls hl => ?_)
    refine lv_aloadN hx hb dX3_layFit_12 (lv_at hl 0 rfl) ?_
    refine lv_ifnonnullN hx hb dX3_layFit_14 ?_
    refine lv_aload_n hx hb dX3_layFit_17 rfl (lv_at hl 1 rfl) ?_
    refine lv_iconst (v := 0) hx hb dX3_layFit_18 (by decide) ?_
    refine lv_aload_n hx hb dX3_layFit_19 rfl (lv_at hl 1 rfl) ?_
    refine hc_geti E hG hoa1 fi_X3_71 dX3_layFit_20 (fun z3 _ _ => ?_)
    refine hc_callv hG (fun Fq hRq hG => tc_runV (As := [.int 0, .int z3]) (rest := []) (E.f1 (F' := Fq)) (hSt.f1 (F' := Fq)) hG (c_X2_sizeTo l (gF G Fq) τ oa1 (0 : Int32) z3 hoa1) hoa1 rv_4 kv_X2_sizeTo ml_X3_115 (tRm_ok (by omega) (by omega)) rfl hl.1 rfl (Nat.le_of_ble_eq_true rfl) ⟨Nat.zero_le _, Nat.zero_le _⟩ dX3_layFit_23) (fun H locs hG => ?_)
    exact hc_vret E hr hlk hG dX3_layFit_26
  · obtain ⟨yr2, er2, qr2, kr2, gr2⟩ := pr2.resolve_left (fun h => by cases h)
    obtain rfl := Option.some.inj er2
    have lkbr2 : LOK F (G.2.2.1 10) br2 (x2.toInt + 1) := LOK_kid hK hL (i := 0) (by decide) (by have k0 := kI_0; omega) kr2
    have ldbr2 := LOK_le lkbr2
    refine lv_astore (lv' := [(4, .ref br2), (3, .ref oa1), (0, .ref h0), (1, .ref h1), (2, .int x2)]) hx hb dX3_layFit_10 hl (by decide) rfl (fun ls hl => ?_)
    refine lv_aload hx hb dX3_layFit_12 (lv_at hl 0 rfl) ?_
    refine lv_ifnonnull (tgt := 27) hx hb dX3_layFit_14 (by decide) ?_
    refine lv_aload_n hx hb dX3_layFit_27 rfl (lv_at hl 2 rfl) ?_
    refine lv_aload hx hb dX3_layFit_28 (lv_at hl 0 rfl) ?_
    refine lv_iconst (v := 0) hx hb dX3_layFit_30 (by decide) ?_
    refine lv_iload_n hx hb dX3_layFit_31 rfl (lv_at hl 4 rfl) ?_
    refine lv_iconst (v := 1) hx hb dX3_layFit_32 (by decide) ?_
    refine lv_iadd hx hb dX3_layFit_33 ?_
    refine lv_topi (fun z5 ez5 => ?_)
    have tz5 := tn_add ez5 rfl kI_1 (by omega) (by omega)
    refine hc_calliF hG (fun Fq hRq hG => tc_runV (As := [.ref br2, .int 0, .int z5]) (rest := []) (E.f1 (F' := Fq)) (hSt.f1 (F' := Fq)) hG (x_X3_askedOf l G τ 25 Fq h0 br2 (0 : Int32) z5 t0 qr2 (by decide) (by decide) (by omega) (by omega) (by first | decide | omega) hU (AKF_fr hRq.1 hK) hRq.2 (LOK_d (LOK_fr hRq.1 lkbr2) (by omega))) t0 rv_5 kv_X3_askedOf ml_X3_191 (tRm_ok (by omega) (by omega)) rfl hl.1 rfl (Nat.le_of_ble_eq_true rfl) ⟨Nat.zero_le _, Nat.zero_le _⟩ dX3_layFit_34) (fun _ _ _ h => ASK.hr h) (fun r6 H locs hG => ?_)
    refine lv_aload_n hx hb dX3_layFit_37 rfl (lv_at hl 1 rfl) ?_
    refine hc_geti E hG hoa1 fi_X3_63 dX3_layFit_38 (fun z7 _ _ => ?_)
    refine lv_aload_n hx hb dX3_layFit_41 rfl (lv_at hl 1 rfl) ?_
    refine hc_geti E hG hoa1 fi_X3_68 dX3_layFit_42 (fun z8 _ _ => ?_)
    refine hc_callp hG (fun Fq hRq hG => tc_runN (As := [.int r6, .int z7, .int z8]) (rest := []) (E.f1 (F' := Fq)) (hSt.f1 (F' := Fq)) hG (c_X9_held l (gF G Fq) τ r6 z7 z8) ks_X9_held (List.mem_of_getElem? (i := 2) rfl) (tRm_ok (by omega) (by omega)) rfl hl.1 rfl (Nat.le_of_ble_eq_true rfl) ⟨Nat.zero_le _, Nat.zero_le _⟩ dX3_layFit_45) (fun r9 pr9 => ?_)
    refine lv_istore (lv' := [(5, .int r9), (4, .ref br2), (3, .ref oa1), (0, .ref h0), (1, .ref h1), (2, .int x2)]) hx hb dX3_layFit_48 hl (by decide) rfl (fun ls hl => ?_)
    refine lv_aload_n hx hb dX3_layFit_50 rfl (lv_at hl 3 rfl) ?_
    refine lv_aload hx hb dX3_layFit_51 (lv_at hl 1 rfl) ?_
    refine lv_iload hx hb dX3_layFit_53 (lv_at hl 0 rfl) ?_
    refine lv_iload hx hb dX3_layFit_55 (lv_at hl 0 rfl) ?_
    refine lv_aload_n hx hb dX3_layFit_57 rfl (lv_at hl 2 rfl) ?_
    refine hc_geti E hG hoa1 fi_X3_71 dX3_layFit_58 (fun z10 _ _ => ?_)
    refine lv_aload_n hx hb dX3_layFit_61 rfl (lv_at hl 2 rfl) ?_
    refine hc_geti E hG hoa1 fi_X3_74 dX3_layFit_62 (fun z11 _ _ => ?_)
    refine lv_iload_n hx hb dX3_layFit_65 rfl (lv_at hl 5 rfl) ?_
    refine lv_iconst (v := 1) hx hb dX3_layFit_66 (by decide) ?_
    refine lv_iadd hx hb dX3_layFit_67 ?_
    refine lv_topi (fun z12 ez12 => ?_)
    have tz12 := tn_add ez12 rfl kI_1 (by omega) (by omega)
    refine hc_callvF hG (fun Fq hRq hG => tc_runV (As := [.ref br2, .int r9, .int r9, .int z10, .int z11, .int z12]) (rest := []) (E.f1 (F' := Fq)) (hSt.f1 (F' := Fq)) hG (ih Fq h0 br2 r9 r9 z10 z11 z12 t0 qr2 (by omega) (by omega) hU (AKF_fr hRq.1 hK) hRq.2 (LOK_d (LOK_fr hRq.1 lkbr2) (by omega))) t0 rv_5 kv_X3_lay ml_X3_44 (tRm_ok (by omega) (by omega)) rfl hl.1 rfl (Nat.le_of_ble_eq_true rfl) ⟨Nat.zero_le _, Nat.zero_le _⟩ dX3_layFit_68) (fun _ _ h => h) (fun H locs hG => ?_)
    refine lv_aload hx hb dX3_layFit_71 (lv_at hl 1 rfl) ?_
    refine hc_getr E hG qr2 fr_X3_57 dX3_layFit_73 (fun oa14 hoa14 => ?_)
    refine lv_iconst (v := 0) hx hb dX3_layFit_76 (by decide) ?_
    refine lv_iconst (v := 0) hx hb dX3_layFit_77 (by decide) ?_
    refine hc_callv hG (fun Fq hRq hG => tc_runV (As := [.int 0, .int 0]) (rest := []) (E.f1 (F' := Fq)) (hSt.f1 (F' := Fq)) hG (c_X2_placeAt l (gF G Fq) τ oa14 (0 : Int32) (0 : Int32) hoa14) hoa14 rv_4 kv_X2_placeAt ml_X3_170 (tRm_ok (by omega) (by omega)) rfl hl.1 rfl (Nat.le_of_ble_eq_true rfl) ⟨Nat.zero_le _, Nat.zero_le _⟩ dX3_layFit_78) (fun H locs hG => ?_)
    refine lv_aload_n hx hb dX3_layFit_81 rfl (lv_at hl 2 rfl) ?_
    refine lv_aload hx hb dX3_layFit_82 (lv_at hl 1 rfl) ?_
    refine hc_getr E hG qr2 fr_X3_57 dX3_layFit_84 (fun oa16 hoa16 => ?_)
    refine hc_geti E hG hoa16 fi_X3_173 dX3_layFit_87 (fun z17 _ _ => ?_)
    refine lv_aload hx hb dX3_layFit_90 (lv_at hl 1 rfl) ?_
    refine hc_getr E hG qr2 fr_X3_57 dX3_layFit_92 (fun oa18 hoa18 => ?_)
    refine hc_geti E hG hoa18 fi_X3_176 dX3_layFit_95 (fun z19 _ _ => ?_)
    refine hc_callv hG (fun Fq hRq hG => tc_runV (As := [.int z17, .int z19]) (rest := []) (E.f1 (F' := Fq)) (hSt.f1 (F' := Fq)) hG (c_X2_sizeTo l (gF G Fq) τ oa1 z17 z19 hoa1) hoa1 rv_4 kv_X2_sizeTo ml_X3_115 (tRm_ok (by omega) (by omega)) rfl hl.1 rfl (Nat.le_of_ble_eq_true rfl) ⟨Nat.zero_le _, Nat.zero_le _⟩ dX3_layFit_98) (fun H locs hG => ?_)
    exact hc_vret E hr hlk hG dX3_layFit_101

set_option maxHeartbeats 4000000 in
set_option maxRecDepth 100000 in
theorem h_X3_layRatio (l : Launch) (G : tG) (F : mF) (τ : Nat → Nat) (h0 : Nat) (h1 : Nat) (x2 : Int32) (t0 : τ h0 = 5) (t1 : τ h1 = 3) (l2 : 0 ≤ x2.toInt) (u2 : x2.toInt ≤ 23) (d : Nat) (ih : P_lay d τ l G) (hd : (24 - x2.toInt).toNat < d + 1) (hU : ∀ q, τ q = 2 → q = (G.2.2.1 10)) (hK : AKF F (G.2.2.1 10)) (hC : CINV F (G.2.2.1 10)) (hL : LOK F (G.2.2.1 10) h1 x2.toInt) : Met l yX3_layRatio (.code yX3_layRatio cX3_layRatio 9 none :: tWS) (tRm (42 * d + 41) (541 * d + 1527)) (va_Pc [.ref h0, .ref h1, .int x2] (tPre (gF G F) τ)) (tQG G τ (fun F9 => HRx F F9 (G.2.2.1 10))) 0 0 (tA τ) := by
  refine tc_met (by decide) (Nat.le_of_ble_eq_true rfl) ?_
  intro p e s m below meth c E hSt hr hlk hG ls hl
  have hl : lv_has ls 9 [(0, .ref h0), (1, .ref h1), (2, .int x2)] := hl
  have hx := E.1
  have hb := E.2.1
  obtain ⟨H, eH⟩ : ∃ H, H = s.heap := ⟨_, rfl⟩
  obtain ⟨locs, eL⟩ : ∃ x : List Loc, x = [] := ⟨_, rfl⟩
  have hG : hGH G F τ s H locs := ⟨F, HRx.refl hC, by rw [eH, eL]; exact hG⟩
  suffices hW : W p l e (tRm (42 * d + 41) (541 * d + 1527)) s m ([.ref h0, .ref h1, .int x2] : List Value).toArray below meth c H locs 0 0 (MQ below (tQG G τ (fun F9 => HRx F F9 (G.2.2.1 10))) ([.ref h0, .ref h1, .int x2] : List Value).toArray s 0 0 (tA τ)) (F0 m 0 ls []) by subst eH; subst eL; exact hW
  clear eH eL
  obtain ⟨n9, hn9, hA9, en9, hd9⟩ := id hL
  have J103 : ∀ (H : Heap) (locs : List Loc) (ls : Array Slot) (a3 : Nat) (v6 : Int32) (v7 : Int32), hGH G F τ s H locs → lv_has ls 9 [(0, .ref h0), (1, .ref h1), (2, .int x2), (3, .ref a3), (6, .int v6), (7, .int v7)] → τ a3 = 4 → W p l e (tRm (42 * d + 41) (541 * d + 1527)) s m ([.ref h0, .ref h1, .int x2] : List Value).toArray below meth c H locs 0 0 (MQ below (tQG G τ (fun F9 => HRx F F9 (G.2.2.1 10))) ([.ref h0, .ref h1, .int x2] : List Value).toArray s 0 0 (tA τ)) (F0 m 103 ls []) := by
    intro H locs ls a3 v6 v7 hG hl e3
    refine lv_aload_n hx hb dX3_layRatio_103 rfl (lv_at hl 3 rfl) ?_
    refine lv_iload hx hb dX3_layRatio_104 (lv_at hl 4 rfl) ?_
    refine lv_iload hx hb dX3_layRatio_106 (lv_at hl 5 rfl) ?_
    refine hc_callv hG (fun Fq hRq hG => tc_runV (As := [.int v6, .int v7]) (rest := []) (E.f1 (F' := Fq)) (hSt.f1 (F' := Fq)) hG (c_X2_sizeTo l (gF G Fq) τ a3 v6 v7 e3) e3 rv_4 kv_X2_sizeTo ml_X3_115 (tRm_ok (by omega) (by omega)) rfl hl.1 rfl (Nat.le_of_ble_eq_true rfl) ⟨Nat.zero_le _, Nat.zero_le _⟩ dX3_layRatio_108) (fun H locs hG => ?_)
    refine lv_aload_n hx hb dX3_layRatio_111 rfl (lv_at hl 0 rfl) ?_
    refine lv_aload_n hx hb dX3_layRatio_112 rfl (lv_at hl 1 rfl) ?_
    refine hc_callpq (post' := fun r => r = none ∨ ∃ y, r = some y ∧ τ y = 3 ∧ y = ((G.2.2.1 10) + 1 + (3 + 4 * (F (h1 + 2) (0 : Int32).toNatClampNeg).toNatClampNeg)) ∧ 0 < (F h1 10).toInt) hG (fun Fq hRq hG => tc_runV (As := [.ref h1]) (rest := []) (E.f1 (F' := Fq)) (hSt.f1 (F' := Fq)) hG (x_X3_onlyKid l (gF G Fq) τ h0 h1 t0 t1 hU) t0 rv_5 kv_X3_onlyKid ml_X3_163 (tRm_ok (by omega) (by omega)) rfl hl.1 rfl (Nat.le_of_ble_eq_true rfl) ⟨Nat.zero_le _, Nat.zero_le _⟩ dX3_layRatio_113) (fun Fq r hf q => by rw [← hf (h1 + 2) (0 : Int32).toNatClampNeg (by omega), ← hf h1 10 (by omega)]; exact q) (fun r2 pr2 => ?_)
    rcases r2 with _ | br2
    · skip
      refine lv_astoreN (lv' := [(8, .null), (0, .ref h0), (1, .ref h1), (2, .int x2), (3, .ref a3), (6, .int v6), (7, .int v7)]) hx hb dX3_layRatio_116 hl (by decide) rfl (fun ls hl => ?_)
      refine lv_aloadN hx hb dX3_layRatio_118 (lv_at hl 0 rfl) ?_
      refine lv_ifnullN (tgt := 158) hx hb dX3_layRatio_120 (by decide) ?_
      exact hc_vret E hr hlk hG dX3_layRatio_158
    · obtain ⟨yr2, er2, qr2, kr2, gr2⟩ := pr2.resolve_left (fun h => by cases h)
      obtain rfl := Option.some.inj er2
      have lkbr2 : LOK F (G.2.2.1 10) br2 (x2.toInt + 1) := LOK_kid hK hL (i := 0) (by decide) (by have k0 := kI_0; omega) kr2
      have ldbr2 := LOK_le lkbr2
      refine lv_astore (lv' := [(8, .ref br2), (0, .ref h0), (1, .ref h1), (2, .int x2), (3, .ref a3), (6, .int v6), (7, .int v7)]) hx hb dX3_layRatio_116 hl (by decide) rfl (fun ls hl => ?_)
      refine lv_aload hx hb dX3_layRatio_118 (lv_at hl 0 rfl) ?_
      refine lv_ifnull hx hb dX3_layRatio_120 ?_
      refine lv_aload_n hx hb dX3_layRatio_123 rfl (lv_at hl 1 rfl) ?_
      refine lv_aload hx hb dX3_layRatio_124 (lv_at hl 0 rfl) ?_
      refine lv_aload_n hx hb dX3_layRatio_126 rfl (lv_at hl 4 rfl) ?_
      refine hc_geti E hG e3 fi_X3_173 dX3_layRatio_127 (fun z3 _ _ => ?_)
      refine lv_aload_n hx hb dX3_layRatio_130 rfl (lv_at hl 4 rfl) ?_
      refine hc_geti E hG e3 fi_X3_173 dX3_layRatio_131 (fun z4 _ _ => ?_)
      refine lv_aload_n hx hb dX3_layRatio_134 rfl (lv_at hl 4 rfl) ?_
      refine hc_geti E hG e3 fi_X3_176 dX3_layRatio_135 (fun z5 _ _ => ?_)
      refine lv_aload_n hx hb dX3_layRatio_138 rfl (lv_at hl 4 rfl) ?_
      refine hc_geti E hG e3 fi_X3_176 dX3_layRatio_139 (fun z6 _ _ => ?_)
      refine lv_iload_n hx hb dX3_layRatio_142 rfl (lv_at hl 3 rfl) ?_
      refine lv_iconst (v := 1) hx hb dX3_layRatio_143 (by decide) ?_
      refine lv_iadd hx hb dX3_layRatio_144 ?_
      refine lv_topi (fun z7 ez7 => ?_)
      have tz7 := tn_add ez7 rfl kI_1 (by omega) (by omega)
      refine hc_callvF hG (fun Fq hRq hG => tc_runV (As := [.ref br2, .int z3, .int z4, .int z5, .int z6, .int z7]) (rest := []) (E.f1 (F' := Fq)) (hSt.f1 (F' := Fq)) hG (ih Fq h0 br2 z3 z4 z5 z6 z7 t0 qr2 (by omega) (by omega) hU (AKF_fr hRq.1 hK) hRq.2 (LOK_d (LOK_fr hRq.1 lkbr2) (by omega))) t0 rv_5 kv_X3_lay ml_X3_44 (tRm_ok (by omega) (by omega)) rfl hl.1 rfl (Nat.le_of_ble_eq_true rfl) ⟨Nat.zero_le _, Nat.zero_le _⟩ dX3_layRatio_145) (fun _ _ h => h) (fun H locs hG => ?_)
      refine lv_aload hx hb dX3_layRatio_148 (lv_at hl 0 rfl) ?_
      refine hc_getr E hG qr2 fr_X3_57 dX3_layRatio_150 (fun oa9 hoa9 => ?_)
      refine lv_iconst (v := 0) hx hb dX3_layRatio_153 (by decide) ?_
      refine lv_iconst (v := 0) hx hb dX3_layRatio_154 (by decide) ?_
      refine hc_callv hG (fun Fq hRq hG => tc_runV (As := [.int 0, .int 0]) (rest := []) (E.f1 (F' := Fq)) (hSt.f1 (F' := Fq)) hG (c_X2_placeAt l (gF G Fq) τ oa9 (0 : Int32) (0 : Int32) hoa9) hoa9 rv_4 kv_X2_placeAt ml_X3_170 (tRm_ok (by omega) (by omega)) rfl hl.1 rfl (Nat.le_of_ble_eq_true rfl) ⟨Nat.zero_le _, Nat.zero_le _⟩ dX3_layRatio_155) (fun H locs hG => ?_)
      exact hc_vret E hr hlk hG dX3_layRatio_158
  have J66 : ∀ (H : Heap) (locs : List Loc) (ls : Array Slot) (a3 : Nat) (v4 : Int32) (v5 : Int32) (v6 : Int32), hGH G F τ s H locs → lv_has ls 9 [(0, .ref h0), (1, .ref h1), (2, .int x2), (3, .ref a3), (4, .int v4), (5, .int v5), (6, .int v6)] → τ a3 = 4 → W p l e (tRm (42 * d + 41) (541 * d + 1527)) s m ([.ref h0, .ref h1, .int x2] : List Value).toArray below meth c H locs 0 0 (MQ below (tQG G τ (fun F9 => HRx F F9 (G.2.2.1 10))) ([.ref h0, .ref h1, .int x2] : List Value).toArray s 0 0 (tA τ)) (F0 m 66 ls []) := by
    intro H locs ls a3 v4 v5 v6 hG hl e3
    refine lv_iload hx hb dX3_layRatio_66 (lv_at hl 6 rfl) ?_
    refine lv_iload hx hb dX3_layRatio_68 (lv_at hl 5 rfl) ?_
    refine lv_iload hx hb dX3_layRatio_70 (lv_at hl 4 rfl) ?_
    refine hc_callp hG (fun Fq hRq hG => tc_runN (As := [.int v6, .int v5, .int v4]) (rest := []) (E.f1 (F' := Fq)) (hSt.f1 (F' := Fq)) hG (c_X9_timesBy l (gF G Fq) τ v6 v5 v4) ks_X9_timesBy (List.mem_of_getElem? (i := 3) rfl) (tRm_ok (by omega) (by omega)) rfl hl.1 rfl (Nat.le_of_ble_eq_true rfl) ⟨Nat.zero_le _, Nat.zero_le _⟩ dX3_layRatio_72) (fun r11 pr11 => ?_)
    refine lv_istore (lv' := [(7, .int r11), (0, .ref h0), (1, .ref h1), (2, .int x2), (3, .ref a3), (4, .int v4), (5, .int v5), (6, .int v6)]) hx hb dX3_layRatio_75 hl (by decide) rfl (fun ls hl => ?_)
    refine lv_iload hx hb dX3_layRatio_77 (lv_at hl 0 rfl) ?_
    refine lv_aload_n hx hb dX3_layRatio_79 rfl (lv_at hl 4 rfl) ?_
    refine hc_geti E hG e3 fi_X3_74 dX3_layRatio_80 (fun z12 _ _ => ?_)
    refine lv_icmp_le (tgt := 103) hx hb dX3_layRatio_83 (by decide) (fun c13 => ?_) (fun c13 => ?_)
    · skip
      have ic13 := tn_le rfl rfl c13
      exact J103 H locs ls (a3) v6 r11 hG (lv_sub hl [1, 2, 3, 4, 7, 0] rfl) e3
    · skip
      have ic13 := tn_nle rfl rfl c13
      refine lv_aload_n hx hb dX3_layRatio_86 rfl (lv_at hl 4 rfl) ?_
      refine hc_geti E hG e3 fi_X3_74 dX3_layRatio_87 (fun z14 _ _ => ?_)
      refine lv_istore (lv' := [(7, .int z14), (0, .ref h0), (1, .ref h1), (2, .int x2), (3, .ref a3), (4, .int v4), (5, .int v5), (6, .int v6)]) hx hb dX3_layRatio_90 hl (by decide) rfl (fun ls hl => ?_)
      refine lv_iload hx hb dX3_layRatio_92 (lv_at hl 0 rfl) ?_
      refine lv_iload hx hb dX3_layRatio_94 (lv_at hl 5 rfl) ?_
      refine lv_iload hx hb dX3_layRatio_96 (lv_at hl 6 rfl) ?_
      refine hc_callp hG (fun Fq hRq hG => tc_runN (As := [.int z14, .int v4, .int v5]) (rest := []) (E.f1 (F' := Fq)) (hSt.f1 (F' := Fq)) hG (c_X9_timesBy l (gF G Fq) τ z14 v4 v5) ks_X9_timesBy (List.mem_of_getElem? (i := 3) rfl) (tRm_ok (by omega) (by omega)) rfl hl.1 rfl (Nat.le_of_ble_eq_true rfl) ⟨Nat.zero_le _, Nat.zero_le _⟩ dX3_layRatio_98) (fun r15 pr15 => ?_)
      refine lv_istore (lv' := [(6, .int r15), (7, .int z14), (0, .ref h0), (1, .ref h1), (2, .int x2), (3, .ref a3), (4, .int v4), (5, .int v5)]) hx hb dX3_layRatio_101 hl (by decide) rfl (fun ls hl => ?_)
      exact J103 H locs ls (a3) r15 z14 hG (lv_sub hl [2, 3, 4, 5, 0, 1] rfl) e3
  have J64 : ∀ (H : Heap) (locs : List Loc) (ls : Array Slot) (a3 : Nat) (v4 : Int32) (v5 : Int32) (vs0 : Int32), hGH G F τ s H locs → lv_has ls 9 [(0, .ref h0), (1, .ref h1), (2, .int x2), (3, .ref a3), (4, .int v4), (5, .int v5)] → τ a3 = 4 → W p l e (tRm (42 * d + 41) (541 * d + 1527)) s m ([.ref h0, .ref h1, .int x2] : List Value).toArray below meth c H locs 0 0 (MQ below (tQG G τ (fun F9 => HRx F F9 (G.2.2.1 10))) ([.ref h0, .ref h1, .int x2] : List Value).toArray s 0 0 (tA τ)) (F0 m 64 ls [.int vs0]) := by
    intro H locs ls a3 v4 v5 vs0 hG hl e3
    refine lv_istore (lv' := [(6, .int vs0), (0, .ref h0), (1, .ref h1), (2, .int x2), (3, .ref a3), (4, .int v4), (5, .int v5)]) hx hb dX3_layRatio_64 hl (by decide) rfl (fun ls hl => ?_)
    exact J66 H locs ls (a3) v4 v5 vs0 hG (lv_sub hl [1, 2, 3, 4, 5, 6, 0] rfl) e3
  refine lv_aload_n hx hb dX3_layRatio_0 rfl (lv_at hl 1 rfl) ?_
  refine hc_getr E hG t1 fr_X3_57 dX3_layRatio_1 (fun oa16 hoa16 => ?_)
  refine lv_astore_n (lv' := [(3, .ref oa16), (0, .ref h0), (1, .ref h1), (2, .int x2)]) hx hb dX3_layRatio_4 rfl hl (by decide) rfl (fun ls hl => ?_)
  refine lv_aload_n hx hb dX3_layRatio_5 rfl (lv_at hl 2 rfl) ?_
  refine hc_getr E hG t1 fr_X3_111 dX3_layRatio_6 (fun oa17 hoa17 => ?_)
  refine lv_iconst (v := 0) hx hb dX3_layRatio_9 (by decide) ?_
  refine hc_iald E hG hoa17 ta_11 (t_in (by decide) (by decide)) dX3_layRatio_10 (fun z18 _ _ => ?_)
  refine lv_istore (lv' := [(4, .int z18), (3, .ref oa16), (0, .ref h0), (1, .ref h1), (2, .int x2)]) hx hb dX3_layRatio_11 hl (by decide) rfl (fun ls hl => ?_)
  refine lv_aload_n hx hb dX3_layRatio_13 rfl (lv_at hl 3 rfl) ?_
  refine hc_getr E hG t1 fr_X3_111 dX3_layRatio_14 (fun oa19 hoa19 => ?_)
  refine lv_iconst (v := 1) hx hb dX3_layRatio_17 (by decide) ?_
  refine hc_iald E hG hoa19 ta_11 (t_in (by decide) (by decide)) dX3_layRatio_18 (fun z20 _ _ => ?_)
  refine lv_istore (lv' := [(5, .int z20), (4, .int z18), (3, .ref oa16), (0, .ref h0), (1, .ref h1), (2, .int x2)]) hx hb dX3_layRatio_19 hl (by decide) rfl (fun ls hl => ?_)
  refine lv_aload_n hx hb dX3_layRatio_21 rfl (lv_at hl 2 rfl) ?_
  refine hc_geti E hG hoa16 fi_X3_68 dX3_layRatio_22 (fun z21 _ _ => ?_)
  refine lv_istore (lv' := [(6, .int z21), (5, .int z20), (4, .int z18), (3, .ref oa16), (0, .ref h0), (1, .ref h1), (2, .int x2)]) hx hb dX3_layRatio_25 hl (by decide) rfl (fun ls hl => ?_)
  refine lv_iload hx hb dX3_layRatio_27 (lv_at hl 0 rfl) ?_
  refine lv_sipush (v := 1000) hx hb dX3_layRatio_29 (by decide) ?_
  refine lv_icmp_lt (tgt := 66) hx hb dX3_layRatio_32 (by decide) (fun c22 => ?_) (fun c22 => ?_)
  · skip
    have ic22 := tn_lt rfl kI_1000 c22
    exact J66 H locs ls (oa16) z18 z20 z21 hG (lv_sub hl [4, 5, 6, 3, 2, 1, 0] rfl) hoa16
  · skip
    have ic22 := tn_nlt rfl kI_1000 c22
    refine lv_aload_n hx hb dX3_layRatio_35 rfl (lv_at hl 3 rfl) ?_
    refine hc_geti E hG hoa16 fi_X3_74 dX3_layRatio_36 (fun z23 _ _ => ?_)
    refine lv_sipush (v := 1000) hx hb dX3_layRatio_39 (by decide) ?_
    refine lv_icmp_lt (tgt := 53) hx hb dX3_layRatio_42 (by decide) (fun c24 => ?_) (fun c24 => ?_)
    · skip
      have ic24 := tn_lt rfl kI_1000 c24
      refine lv_aload_n hx hb dX3_layRatio_53 rfl (lv_at hl 3 rfl) ?_
      refine hc_geti E hG hoa16 fi_X3_74 dX3_layRatio_54 (fun z25 _ _ => ?_)
      refine lv_iload hx hb dX3_layRatio_57 (lv_at hl 2 rfl) ?_
      refine lv_iload hx hb dX3_layRatio_59 (lv_at hl 1 rfl) ?_
      refine hc_callp hG (fun Fq hRq hG => tc_runN (As := [.int z25, .int z18, .int z20]) (rest := []) (E.f1 (F' := Fq)) (hSt.f1 (F' := Fq)) hG (c_X9_timesBy l (gF G Fq) τ z25 z18 z20) ks_X9_timesBy (List.mem_of_getElem? (i := 3) rfl) (tRm_ok (by omega) (by omega)) rfl hl.1 rfl (Nat.le_of_ble_eq_true rfl) ⟨Nat.zero_le _, Nat.zero_le _⟩ dX3_layRatio_61) (fun r26 pr26 => ?_)
      exact J64 H locs ls (oa16) z18 z20 r26 hG (lv_sub hl [4, 5, 6, 3, 2, 1] rfl) hoa16
    · skip
      have ic24 := tn_nlt rfl kI_1000 c24
      refine lv_bipush (v := 10) hx hb dX3_layRatio_45 (by decide) ?_
      refine lv_iload hx hb dX3_layRatio_47 (lv_at hl 2 rfl) ?_
      refine lv_imul hx hb dX3_layRatio_49 ?_
      refine lv_topi (fun z27 ez27 => ?_)
      refine lv_goto (tgt := 64) hx hb dX3_layRatio_50 (by decide) ?_
      exact J64 H locs ls (oa16) z18 z20 z27 hG (lv_sub hl [4, 5, 6, 3, 2, 1] rfl) hoa16

set_option maxHeartbeats 4000000 in
set_option maxRecDepth 100000 in
theorem h_X3_layLayers (l : Launch) (G : tG) (F : mF) (τ : Nat → Nat) (h0 : Nat) (h1 : Nat) (x2 : Int32) (t0 : τ h0 = 5) (t1 : τ h1 = 3) (l2 : 0 ≤ x2.toInt) (u2 : x2.toInt ≤ 23) (d : Nat) (ih : P_lay d τ l G) (hd : (24 - x2.toInt).toNat < d + 1) (hU : ∀ q, τ q = 2 → q = (G.2.2.1 10)) (hK : AKF F (G.2.2.1 10)) (hC : CINV F (G.2.2.1 10)) (hL : LOK F (G.2.2.1 10) h1 x2.toInt) : Met l yX3_layLayers (.code yX3_layLayers cX3_layLayers 9 none :: tWS) (tRm (42 * d + 42) (541 * d + 1550)) (va_Pc [.ref h0, .ref h1, .int x2] (tPre (gF G F) τ)) (tQG G τ (fun F9 => HRx F F9 (G.2.2.1 10))) 0 0 (tA τ) := by
  refine tc_met (by decide) (Nat.le_of_ble_eq_true rfl) ?_
  intro p e s m below meth c E hSt hr hlk hG ls hl
  have hl : lv_has ls 9 [(0, .ref h0), (1, .ref h1), (2, .int x2)] := hl
  have hx := E.1
  have hb := E.2.1
  obtain ⟨H, eH⟩ : ∃ H, H = s.heap := ⟨_, rfl⟩
  obtain ⟨locs, eL⟩ : ∃ x : List Loc, x = [] := ⟨_, rfl⟩
  have hG : hGH G F τ s H locs := ⟨F, HRx.refl hC, by rw [eH, eL]; exact hG⟩
  suffices hW : W p l e (tRm (42 * d + 42) (541 * d + 1550)) s m ([.ref h0, .ref h1, .int x2] : List Value).toArray below meth c H locs 0 0 (MQ below (tQG G τ (fun F9 => HRx F F9 (G.2.2.1 10))) ([.ref h0, .ref h1, .int x2] : List Value).toArray s 0 0 (tA τ)) (F0 m 0 ls []) by subst eH; subst eL; exact hW
  clear eH eL
  obtain ⟨n9, hn9, hA9, en9, hd9⟩ := id hL
  have J90 : ∀ (n90 : Nat) (H : Heap) (locs : List Loc) (ls : Array Slot) (a3 : Nat) (v6 : Int32), hGH G F τ s H locs → lv_has ls 9 [(0, .ref h0), (1, .ref h1), (3, .ref a3), (6, .int v6)] → τ a3 = 4 → 0 ≤ v6.toInt → v6.toInt ≤ 8 → (8 - v6.toInt).toNat < n90 → W p l e (tRm (42 * d + 42) (541 * d + 1550)) s m ([.ref h0, .ref h1, .int x2] : List Value).toArray below meth c H locs 0 0 (MQ below (tQG G τ (fun F9 => HRx F F9 (G.2.2.1 10))) ([.ref h0, .ref h1, .int x2] : List Value).toArray s 0 0 (tA τ)) (F0 m 90 ls []) := by
    intro n90
    induction n90 with
    | zero => intro H locs ls a3 v6 hG hl e3 b6 c6 hn90; exact absurd hn90 (Nat.not_lt_zero _)
    | succ n90 ih90 =>
      intro H locs ls a3 v6 hG hl e3 b6 c6 hn90
      refine lv_iload hx hb dX3_layLayers_90 (lv_at hl 3 rfl) ?_
      refine lv_aload_n hx hb dX3_layLayers_92 rfl (lv_at hl 1 rfl) ?_
      refine hc_getF E hG t1 fi_X3_144 rfl (by decide) dX3_layLayers_93 (fun z1 lz1 uz1 wz1 => ?_)
      have cz1 : z1.toInt = (F h1 10).toInt := by rw [wz1]
      refine lv_icmp_ge (tgt := 163) hx hb dX3_layLayers_96 (by decide) (fun c2 => ?_) (fun c2 => ?_)
      · skip
        have ic2 := tn_le rfl rfl c2
        exact hc_vret E hr hlk hG dX3_layLayers_163
      · skip
        have ic2 := tn_nle rfl rfl c2
        refine lv_aload_n hx hb dX3_layLayers_99 rfl (lv_at hl 0 rfl) ?_
        refine hc_getr E hG t0 fr_X3_9 dX3_layLayers_100 (fun oa3 hoa3 => ?_)
        obtain rfl := hU _ hoa3
        refine lv_aload_n hx hb dX3_layLayers_103 rfl (lv_at hl 1 rfl) ?_
        refine lv_iload hx hb dX3_layLayers_104 (lv_at hl 3 rfl) ?_
        refine hc_callpr (post' := fun r => τ r = 3 ∧ r = ((G.2.2.1 10) + 1 + (3 + 4 * (F (h1 + 2) v6.toNatClampNeg).toNatClampNeg))) hG (fun Fq hRq hG => tc_runV (As := [.ref h1, .int v6]) (rest := []) (E.f1 (F' := Fq)) (hSt.f1 (F' := Fq)) hG (x_X8_kidOf l (gF G Fq) τ (G.2.2.1 10) h1 v6 hoa3 t1 (by omega) (by omega)) hoa3 rv_2 kv_X8_kidOf ml_X3_147 (tRm_ok (by omega) (by omega)) rfl hl.1 rfl (Nat.le_of_ble_eq_true rfl) ⟨Nat.zero_le _, Nat.zero_le _⟩ dX3_layLayers_106) (fun Fq r hf q => by rw [← hf (h1 + 2) v6.toNatClampNeg (by omega)]; exact q) (fun r4 pr4 => ?_)
        obtain ⟨pr4, kr4⟩ := pr4
        have lkr4 : LOK F (G.2.2.1 10) r4 (x2.toInt + 1) := LOK_kid hK hL (i := v6) (by omega) (by omega) kr4
        refine hc_getr E hG pr4 fr_X3_57 dX3_layLayers_109 (fun oa5 hoa5 => ?_)
        refine lv_astore (lv' := [(7, .ref oa5), (0, .ref h0), (1, .ref h1), (3, .ref a3), (6, .int v6)]) hx hb dX3_layLayers_112 hl (by decide) rfl (fun ls hl => ?_)
        refine lv_aload_n hx hb dX3_layLayers_114 rfl (lv_at hl 2 rfl) ?_
        refine hc_getr E hG t1 fr_X3_111 dX3_layLayers_115 (fun oa6 hoa6 => ?_)
        refine lv_iconst (v := 0) hx hb dX3_layLayers_118 (by decide) ?_
        refine hc_iald E hG hoa6 ta_11 (t_in (by decide) (by decide)) dX3_layLayers_119 (fun z7 _ _ => ?_)
        refine lv_istore (lv' := [(8, .int z7), (7, .ref oa5), (0, .ref h0), (1, .ref h1), (3, .ref a3), (6, .int v6)]) hx hb dX3_layLayers_120 hl (by decide) rfl (fun ls hl => ?_)
        refine lv_aload hx hb dX3_layLayers_122 (lv_at hl 1 rfl) ?_
        refine lv_aload_n hx hb dX3_layLayers_124 rfl (lv_at hl 4 rfl) ?_
        refine hc_geti E hG e3 fi_X3_173 dX3_layLayers_125 (fun z8 _ _ => ?_)
        refine lv_aload hx hb dX3_layLayers_128 (lv_at hl 1 rfl) ?_
        refine hc_geti E hG hoa5 fi_X3_173 dX3_layLayers_130 (fun z9 _ _ => ?_)
        refine lv_isub hx hb dX3_layLayers_133 ?_
        refine lv_topi (fun z10 ez10 => ?_)
        refine lv_iload hx hb dX3_layLayers_134 (lv_at hl 0 rfl) ?_
        refine hc_callp hG (fun Fq hRq hG => tc_runS (As := [.int z10, .int z7]) (rest := [.ref oa5]) (E.f1 (F' := Fq)) (hSt.f1 (F' := Fq)) hG (c_X3_aligned l (gF G Fq) τ z10 z7) ks_X3_aligned ml_X3_198 (tRm_ok (by omega) (by omega)) rfl hl.1 rfl (Nat.le_of_ble_eq_true rfl) ⟨Nat.zero_le _, Nat.zero_le _⟩ dX3_layLayers_136) (fun r11 pr11 => ?_)
        refine lv_aload_n hx hb dX3_layLayers_139 rfl (lv_at hl 4 rfl) ?_
        refine hc_geti E hG e3 fi_X3_176 dX3_layLayers_140 (fun z12 _ _ => ?_)
        refine lv_aload hx hb dX3_layLayers_143 (lv_at hl 1 rfl) ?_
        refine hc_geti E hG hoa5 fi_X3_176 dX3_layLayers_145 (fun z13 _ _ => ?_)
        refine lv_isub hx hb dX3_layLayers_148 ?_
        refine lv_topi (fun z14 ez14 => ?_)
        refine lv_iload hx hb dX3_layLayers_149 (lv_at hl 0 rfl) ?_
        refine hc_callp hG (fun Fq hRq hG => tc_runS (As := [.int z14, .int z7]) (rest := [.int r11, .ref oa5]) (E.f1 (F' := Fq)) (hSt.f1 (F' := Fq)) hG (c_X3_aligned l (gF G Fq) τ z14 z7) ks_X3_aligned ml_X3_198 (tRm_ok (by omega) (by omega)) rfl hl.1 rfl (Nat.le_of_ble_eq_true rfl) ⟨Nat.zero_le _, Nat.zero_le _⟩ dX3_layLayers_151) (fun r15 pr15 => ?_)
        refine hc_callv hG (fun Fq hRq hG => tc_runV (As := [.int r11, .int r15]) (rest := []) (E.f1 (F' := Fq)) (hSt.f1 (F' := Fq)) hG (c_X2_placeAt l (gF G Fq) τ oa5 r11 r15 hoa5) hoa5 rv_4 kv_X2_placeAt ml_X3_170 (tRm_ok (by omega) (by omega)) rfl hl.1 rfl (Nat.le_of_ble_eq_true rfl) ⟨Nat.zero_le _, Nat.zero_le _⟩ dX3_layLayers_154) (fun H locs hG => ?_)
        obtain ⟨z17, ez17⟩ : ∃ y : Int32, y = v6 + (1) := ⟨_, rfl⟩
        refine lv_iinc (v := z17) (lv' := [(6, .int z17), (8, .int z7), (7, .ref oa5), (0, .ref h0), (1, .ref h1), (3, .ref a3)]) hx hb dX3_layLayers_157 hl (k := 5) rfl (by rw [ez17]; rfl) (by decide) rfl (fun ls hl => ?_)
        have tz17 := tn_add ez17 rfl kI_1 (by omega) (by omega)
        refine lv_goto (tgt := 90) hx hb dX3_layLayers_160 (by decide) ?_
        exact ih90 H locs ls (a3) z17 hG (lv_sub hl [3, 4, 5, 0] rfl) e3 (by omega) (by omega) (by omega)
  have J14 : ∀ (n14 : Nat) (H : Heap) (locs : List Loc) (ls : Array Slot) (a3 : Nat) (v4 : Int32) (v5 : Int32) (v6 : Int32), hGH G F τ s H locs → lv_has ls 9 [(0, .ref h0), (1, .ref h1), (2, .int x2), (3, .ref a3), (4, .int v4), (5, .int v5), (6, .int v6)] → τ a3 = 4 → 0 ≤ v4.toInt → 0 ≤ v5.toInt → 0 ≤ v6.toInt → v6.toInt ≤ 8 → (8 - v6.toInt).toNat < n14 → W p l e (tRm (42 * d + 42) (541 * d + 1550)) s m ([.ref h0, .ref h1, .int x2] : List Value).toArray below meth c H locs 0 0 (MQ below (tQG G τ (fun F9 => HRx F F9 (G.2.2.1 10))) ([.ref h0, .ref h1, .int x2] : List Value).toArray s 0 0 (tA τ)) (F0 m 14 ls []) := by
    intro n14
    induction n14 with
    | zero => intro H locs ls a3 v4 v5 v6 hG hl e3 b4 b5 b6 c6 hn14; exact absurd hn14 (Nat.not_lt_zero _)
    | succ n14 ih14 =>
      intro H locs ls a3 v4 v5 v6 hG hl e3 b4 b5 b6 c6 hn14
      refine lv_iload hx hb dX3_layLayers_14 (lv_at hl 6 rfl) ?_
      refine lv_aload_n hx hb dX3_layLayers_16 rfl (lv_at hl 1 rfl) ?_
      refine hc_getF E hG t1 fi_X3_144 rfl (by decide) dX3_layLayers_17 (fun z18 lz18 uz18 wz18 => ?_)
      have cz18 : z18.toInt = (F h1 10).toInt := by rw [wz18]
      refine lv_icmp_ge (tgt := 79) hx hb dX3_layLayers_20 (by decide) (fun c19 => ?_) (fun c19 => ?_)
      · skip
        have ic19 := tn_le rfl rfl c19
        refine lv_aload_n hx hb dX3_layLayers_79 rfl (lv_at hl 3 rfl) ?_
        refine lv_iload hx hb dX3_layLayers_80 (lv_at hl 4 rfl) ?_
        refine lv_iload hx hb dX3_layLayers_82 (lv_at hl 5 rfl) ?_
        refine hc_callv hG (fun Fq hRq hG => tc_runV (As := [.int v4, .int v5]) (rest := []) (E.f1 (F' := Fq)) (hSt.f1 (F' := Fq)) hG (c_X2_sizeTo l (gF G Fq) τ a3 v4 v5 e3) e3 rv_4 kv_X2_sizeTo ml_X3_115 (tRm_ok (by omega) (by omega)) rfl hl.1 rfl (Nat.le_of_ble_eq_true rfl) ⟨Nat.zero_le _, Nat.zero_le _⟩ dX3_layLayers_84) (fun H locs hG => ?_)
        refine lv_iconst (v := 0) hx hb dX3_layLayers_87 (by decide) ?_
        refine lv_istore (lv' := [(6, .int 0), (0, .ref h0), (1, .ref h1), (2, .int x2), (3, .ref a3), (4, .int v4), (5, .int v5)]) hx hb dX3_layLayers_88 hl (by decide) rfl (fun ls hl => ?_)
        exact J90 ((8 - (0 : Int32).toInt).toNat + 1) H locs ls (a3) (0 : Int32) hG (lv_sub hl [1, 2, 4, 0] rfl) e3 (by decide) (by decide) (Nat.lt_succ_self _)
      · skip
        have ic19 := tn_nle rfl rfl c19
        refine lv_aload_n hx hb dX3_layLayers_23 rfl (lv_at hl 0 rfl) ?_
        refine hc_getr E hG t0 fr_X3_9 dX3_layLayers_24 (fun oa21 hoa21 => ?_)
        obtain rfl := hU _ hoa21
        refine lv_aload_n hx hb dX3_layLayers_27 rfl (lv_at hl 1 rfl) ?_
        refine lv_iload hx hb dX3_layLayers_28 (lv_at hl 6 rfl) ?_
        refine hc_callpr (post' := fun r => τ r = 3 ∧ r = ((G.2.2.1 10) + 1 + (3 + 4 * (F (h1 + 2) v6.toNatClampNeg).toNatClampNeg))) hG (fun Fq hRq hG => tc_runV (As := [.ref h1, .int v6]) (rest := []) (E.f1 (F' := Fq)) (hSt.f1 (F' := Fq)) hG (x_X8_kidOf l (gF G Fq) τ (G.2.2.1 10) h1 v6 hoa21 t1 (by omega) (by omega)) hoa21 rv_2 kv_X8_kidOf ml_X3_147 (tRm_ok (by omega) (by omega)) rfl hl.1 rfl (Nat.le_of_ble_eq_true rfl) ⟨Nat.zero_le _, Nat.zero_le _⟩ dX3_layLayers_30) (fun Fq r hf q => by rw [← hf (h1 + 2) v6.toNatClampNeg (by omega)]; exact q) (fun r22 pr22 => ?_)
        obtain ⟨pr22, kr22⟩ := pr22
        have lkr22 : LOK F (G.2.2.1 10) r22 (x2.toInt + 1) := LOK_kid hK hL (i := v6) (by omega) (by omega) kr22
        refine lv_astore (lv' := [(7, .ref r22), (0, .ref h0), (1, .ref h1), (2, .int x2), (3, .ref a3), (4, .int v4), (5, .int v5), (6, .int v6)]) hx hb dX3_layLayers_33 hl (by decide) rfl (fun ls hl => ?_)
        refine lv_aload_n hx hb dX3_layLayers_35 rfl (lv_at hl 1 rfl) ?_
        refine lv_aload_n hx hb dX3_layLayers_36 rfl (lv_at hl 2 rfl) ?_
        refine lv_aload hx hb dX3_layLayers_37 (lv_at hl 0 rfl) ?_
        refine lv_iload_n hx hb dX3_layLayers_39 rfl (lv_at hl 3 rfl) ?_
        refine hc_callvF hG (fun Fq hRq hG => tc_runV (As := [.ref h1, .ref r22, .int x2]) (rest := []) (E.f1 (F' := Fq)) (hSt.f1 (F' := Fq)) hG (h_X3_layLoose l G Fq τ h0 h1 r22 x2 t0 t1 pr22 (by omega) (by omega) d ih (by omega) hU (AKF_fr hRq.1 hK) hRq.2 (LOK_fr hRq.1 lkr22)) t0 rv_5 kv_X3_layLoose ml_X3_187 (tRm_ok (by omega) (by omega)) rfl hl.1 rfl (Nat.le_of_ble_eq_true rfl) ⟨Nat.zero_le _, Nat.zero_le _⟩ dX3_layLayers_40) (fun _ _ h => h) (fun H locs hG => ?_)
        refine lv_iload hx hb dX3_layLayers_43 (lv_at hl 5 rfl) ?_
        refine lv_aload hx hb dX3_layLayers_45 (lv_at hl 0 rfl) ?_
        refine hc_getr E hG pr22 fr_X3_57 dX3_layLayers_47 (fun oa24 hoa24 => ?_)
        refine hc_geti E hG hoa24 fi_X3_173 dX3_layLayers_50 (fun z25 _ _ => ?_)
        refine tc_max (rest := []) E hl.1 ml_X3_155 kn_max1 kn_math kn_max2 ⟨tMx1 (by omega), tMx2 (k := 0) rfl (by omega)⟩ ⟨Nat.zero_le _, Nat.zero_le _⟩ dX3_layLayers_53 (fun z26 ez26 => ?_)
        have tz26 := tn_max ez26
        refine lv_istore (lv' := [(4, .int z26), (7, .ref r22), (0, .ref h0), (1, .ref h1), (2, .int x2), (3, .ref a3), (5, .int v5), (6, .int v6)]) hx hb dX3_layLayers_56 hl (by decide) rfl (fun ls hl => ?_)
        refine lv_iload hx hb dX3_layLayers_58 (lv_at hl 6 rfl) ?_
        refine lv_aload hx hb dX3_layLayers_60 (lv_at hl 1 rfl) ?_
        refine hc_getr E hG pr22 fr_X3_57 dX3_layLayers_62 (fun oa27 hoa27 => ?_)
        refine hc_geti E hG hoa27 fi_X3_176 dX3_layLayers_65 (fun z28 _ _ => ?_)
        refine tc_max (rest := []) E hl.1 ml_X3_155 kn_max1 kn_math kn_max2 ⟨tMx1 (by omega), tMx2 (k := 0) rfl (by omega)⟩ ⟨Nat.zero_le _, Nat.zero_le _⟩ dX3_layLayers_68 (fun z29 ez29 => ?_)
        have tz29 := tn_max ez29
        refine lv_istore (lv' := [(5, .int z29), (4, .int z26), (7, .ref r22), (0, .ref h0), (1, .ref h1), (2, .int x2), (3, .ref a3), (6, .int v6)]) hx hb dX3_layLayers_71 hl (by decide) rfl (fun ls hl => ?_)
        obtain ⟨z30, ez30⟩ : ∃ y : Int32, y = v6 + (1) := ⟨_, rfl⟩
        refine lv_iinc (v := z30) (lv' := [(6, .int z30), (5, .int z29), (4, .int z26), (7, .ref r22), (0, .ref h0), (1, .ref h1), (2, .int x2), (3, .ref a3)]) hx hb dX3_layLayers_73 hl (k := 7) rfl (by rw [ez30]; rfl) (by decide) rfl (fun ls hl => ?_)
        have tz30 := tn_add ez30 rfl kI_1 (by omega) (by omega)
        refine lv_goto (tgt := 14) hx hb dX3_layLayers_76 (by decide) ?_
        exact ih14 H locs ls (a3) z26 z29 z30 hG (lv_sub hl [4, 5, 6, 7, 2, 1, 0] rfl) e3 (by omega) (by omega) (by omega) (by omega) (by omega)
  refine lv_aload_n hx hb dX3_layLayers_0 rfl (lv_at hl 1 rfl) ?_
  refine hc_getr E hG t1 fr_X3_57 dX3_layLayers_1 (fun oa31 hoa31 => ?_)
  refine lv_astore_n (lv' := [(3, .ref oa31), (0, .ref h0), (1, .ref h1), (2, .int x2)]) hx hb dX3_layLayers_4 rfl hl (by decide) rfl (fun ls hl => ?_)
  refine lv_iconst (v := 0) hx hb dX3_layLayers_5 (by decide) ?_
  refine lv_istore (lv' := [(4, .int 0), (3, .ref oa31), (0, .ref h0), (1, .ref h1), (2, .int x2)]) hx hb dX3_layLayers_6 hl (by decide) rfl (fun ls hl => ?_)
  refine lv_iconst (v := 0) hx hb dX3_layLayers_8 (by decide) ?_
  refine lv_istore (lv' := [(5, .int 0), (4, .int 0), (3, .ref oa31), (0, .ref h0), (1, .ref h1), (2, .int x2)]) hx hb dX3_layLayers_9 hl (by decide) rfl (fun ls hl => ?_)
  refine lv_iconst (v := 0) hx hb dX3_layLayers_11 (by decide) ?_
  refine lv_istore (lv' := [(6, .int 0), (5, .int 0), (4, .int 0), (3, .ref oa31), (0, .ref h0), (1, .ref h1), (2, .int x2)]) hx hb dX3_layLayers_12 hl (by decide) rfl (fun ls hl => ?_)
  exact J14 ((8 - (0 : Int32).toInt).toNat + 1) H locs ls (oa31) (0 : Int32) (0 : Int32) (0 : Int32) hG (lv_sub hl [4, 5, 6, 3, 2, 1, 0] rfl) hoa31 (by decide) (by decide) (by decide) (by decide) (Nat.lt_succ_self _)

set_option maxHeartbeats 4000000 in
set_option maxRecDepth 100000 in
theorem h_X3_layWithoutShare (l : Launch) (G : tG) (F : mF) (τ : Nat → Nat) (h0 : Nat) (h1 : Nat) (x2 : Int32) (x3 : Int32) (t0 : τ h0 = 5) (t1 : τ h1 = 3) (l2 : 0 ≤ x2.toInt) (u2 : x2.toInt ≤ 1) (l3 : 0 ≤ x3.toInt) (u3 : x3.toInt ≤ 23) (d : Nat) (ih : P_lay d τ l G) (hd : (24 - x3.toInt).toNat < d + 1) (hU : ∀ q, τ q = 2 → q = (G.2.2.1 10)) (hK : AKF F (G.2.2.1 10)) (hC : CINV F (G.2.2.1 10)) (hL : LOK F (G.2.2.1 10) h1 x3.toInt) : Met l yX3_layWithoutShare (.code yX3_layWithoutShare cX3_layWithoutShare 7 (some .int) :: tWS) (tRm (42 * d + 42) (541 * d + 1555)) (va_Pc [.ref h0, .ref h1, .int x2, .int x3] (tPre (gF G F) τ)) (tQF G τ (fun r F9 => HRx F F9 (G.2.2.1 10))) 0 0 (tA τ) := by
  refine tc_met (by decide) (Nat.le_of_ble_eq_true rfl) ?_
  intro p e s m below meth c E hSt hr hlk hG ls hl
  have hl : lv_has ls 7 [(0, .ref h0), (1, .ref h1), (2, .int x2), (3, .int x3)] := hl
  have hx := E.1
  have hb := E.2.1
  obtain ⟨H, eH⟩ : ∃ H, H = s.heap := ⟨_, rfl⟩
  obtain ⟨locs, eL⟩ : ∃ x : List Loc, x = [] := ⟨_, rfl⟩
  have hG : hGH G F τ s H locs := ⟨F, HRx.refl hC, by rw [eH, eL]; exact hG⟩
  suffices hW : W p l e (tRm (42 * d + 42) (541 * d + 1555)) s m ([.ref h0, .ref h1, .int x2, .int x3] : List Value).toArray below meth c H locs 0 0 (MQ below (tQF G τ (fun r F9 => HRx F F9 (G.2.2.1 10))) ([.ref h0, .ref h1, .int x2, .int x3] : List Value).toArray s 0 0 (tA τ)) (F0 m 0 ls []) by subst eH; subst eL; exact hW
  clear eH eL
  obtain ⟨n9, hn9, hA9, en9, hd9⟩ := id hL
  have J6 : ∀ (n6 : Nat) (H : Heap) (locs : List Loc) (ls : Array Slot) (v4 : Int32) (v5 : Int32), hGH G F τ s H locs → lv_has ls 7 [(0, .ref h0), (1, .ref h1), (2, .int x2), (3, .int x3), (4, .int v4), (5, .int v5)] → 0 ≤ v5.toInt → v5.toInt ≤ 8 → (8 - v5.toInt).toNat < n6 → W p l e (tRm (42 * d + 42) (541 * d + 1555)) s m ([.ref h0, .ref h1, .int x2, .int x3] : List Value).toArray below meth c H locs 0 0 (MQ below (tQF G τ (fun r F9 => HRx F F9 (G.2.2.1 10))) ([.ref h0, .ref h1, .int x2, .int x3] : List Value).toArray s 0 0 (tA τ)) (F0 m 6 ls []) := by
    intro n6
    induction n6 with
    | zero => intro H locs ls v4 v5 hG hl b5 c5 hn6; exact absurd hn6 (Nat.not_lt_zero _)
    | succ n6 ih6 =>
      intro H locs ls v4 v5 hG hl b5 c5 hn6
      have J65 : ∀ (H : Heap) (locs : List Loc) (ls : Array Slot) (v4 : Int32) (v5 : Int32), hGH G F τ s H locs → lv_has ls 7 [(0, .ref h0), (1, .ref h1), (2, .int x2), (3, .int x3), (4, .int v4), (5, .int v5)] → 0 ≤ v5.toInt → v5.toInt ≤ 7 → (8 - v5.toInt).toNat < n6 + 1 → W p l e (tRm (42 * d + 42) (541 * d + 1555)) s m ([.ref h0, .ref h1, .int x2, .int x3] : List Value).toArray below meth c H locs 0 0 (MQ below (tQF G τ (fun r F9 => HRx F F9 (G.2.2.1 10))) ([.ref h0, .ref h1, .int x2, .int x3] : List Value).toArray s 0 0 (tA τ)) (F0 m 65 ls []) := by
        intro H locs ls v4 v5 hG hl b5 c5 hm6
        obtain ⟨z1, ez1⟩ : ∃ y : Int32, y = v5 + (1) := ⟨_, rfl⟩
        refine lv_iinc (v := z1) (lv' := [(5, .int z1), (0, .ref h0), (1, .ref h1), (2, .int x2), (3, .int x3), (4, .int v4)]) hx hb dX3_layWithoutShare_65 hl (k := 5) rfl (by rw [ez1]; rfl) (by decide) rfl (fun ls hl => ?_)
        have tz1 := tn_add ez1 rfl kI_1 (by omega) (by omega)
        refine lv_goto (tgt := 6) hx hb dX3_layWithoutShare_68 (by decide) ?_
        exact ih6 H locs ls v4 z1 hG (lv_sub hl [1, 2, 3, 4, 5, 0] rfl) (by omega) (by omega) (by omega)
      have J39 : ∀ (H : Heap) (locs : List Loc) (ls : Array Slot) (v4 : Int32) (v5 : Int32) (a6 : Nat), hGH G F τ s H locs → lv_has ls 7 [(0, .ref h0), (1, .ref h1), (2, .int x2), (3, .int x3), (4, .int v4), (5, .int v5), (6, .ref a6)] → 0 ≤ v5.toInt → v5.toInt ≤ 7 → τ a6 = 3 ∧ LOK F (G.2.2.1 10) a6 (x3.toInt + 1) → (8 - v5.toInt).toNat < n6 + 1 → W p l e (tRm (42 * d + 42) (541 * d + 1555)) s m ([.ref h0, .ref h1, .int x2, .int x3] : List Value).toArray below meth c H locs 0 0 (MQ below (tQF G τ (fun r F9 => HRx F F9 (G.2.2.1 10))) ([.ref h0, .ref h1, .int x2, .int x3] : List Value).toArray s 0 0 (tA τ)) (F0 m 39 ls []) := by
        intro H locs ls v4 v5 a6 hG hl b5 c5 e6 hm6
        refine lv_iload hx hb dX3_layWithoutShare_39 (lv_at hl 4 rfl) ?_
        refine lv_aload_n hx hb dX3_layWithoutShare_41 rfl (lv_at hl 0 rfl) ?_
        refine lv_aload_n hx hb dX3_layWithoutShare_42 rfl (lv_at hl 1 rfl) ?_
        refine lv_aload hx hb dX3_layWithoutShare_43 (lv_at hl 6 rfl) ?_
        refine lv_aload hx hb dX3_layWithoutShare_45 (lv_at hl 6 rfl) ?_
        refine hc_geti E hG e6.1 fi_X3_237 dX3_layWithoutShare_47 (fun z2 _ _ => ?_)
        refine lv_aload hx hb dX3_layWithoutShare_50 (lv_at hl 6 rfl) ?_
        refine hc_geti E hG e6.1 fi_X3_240 dX3_layWithoutShare_52 (fun z3 _ _ => ?_)
        refine hc_callp hG (fun Fq hRq hG => tc_runS (As := [.int z3]) (rest := [.int z2, .ref a6, .ref h1, .ref h0, .int v4]) (E.f1 (F' := Fq)) (hSt.f1 (F' := Fq)) hG (c_X0_orNoEnd l (gF G Fq) τ z3) ks_X0_orNoEnd ml_X3_183 (tRm_ok (by omega) (by omega)) rfl hl.1 rfl (Nat.le_of_ble_eq_true rfl) ⟨Nat.zero_le _, Nat.zero_le _⟩ dX3_layWithoutShare_55) (fun r4 pr4 => ?_)
        refine lv_iload_n hx hb dX3_layWithoutShare_58 rfl (lv_at hl 3 rfl) ?_
        refine hc_calliF hG (fun Fq hRq hG => tc_runV (As := [.ref h1, .ref a6, .int z2, .int r4, .int x3]) (rest := [.int v4]) (E.f1 (F' := Fq)) (hSt.f1 (F' := Fq)) hG (h_X3_layAlong l G Fq τ h0 h1 a6 z2 r4 x3 t0 t1 e6.1 (by omega) (by omega) d ih (by omega) hU (AKF_fr hRq.1 hK) hRq.2 (LOK_fr hRq.1 e6.2)) t0 rv_5 kv_X3_layAlong ml_X3_243 (tRm_ok (by omega) (by omega)) rfl hl.1 rfl (Nat.le_of_ble_eq_true rfl) ⟨Nat.zero_le _, Nat.zero_le _⟩ dX3_layWithoutShare_59) (fun _ _ _ h => h) (fun r5 H locs hG => ?_)
        refine lv_iadd hx hb dX3_layWithoutShare_62 ?_
        refine lv_topi (fun z6 ez6 => ?_)
        refine lv_istore (lv' := [(4, .int z6), (0, .ref h0), (1, .ref h1), (2, .int x2), (3, .int x3), (5, .int v5), (6, .ref a6)]) hx hb dX3_layWithoutShare_63 hl (by decide) rfl (fun ls hl => ?_)
        exact J65 H locs ls z6 v5 hG (lv_sub hl [1, 2, 3, 4, 0, 5] rfl) (by omega) (by omega) (by omega)
      refine lv_iload hx hb dX3_layWithoutShare_6 (lv_at hl 5 rfl) ?_
      refine lv_aload_n hx hb dX3_layWithoutShare_8 rfl (lv_at hl 1 rfl) ?_
      refine hc_getF E hG t1 fi_X3_144 rfl (by decide) dX3_layWithoutShare_9 (fun z7 lz7 uz7 wz7 => ?_)
      have cz7 : z7.toInt = (F h1 10).toInt := by rw [wz7]
      refine lv_icmp_ge (tgt := 71) hx hb dX3_layWithoutShare_12 (by decide) (fun c8 => ?_) (fun c8 => ?_)
      · skip
        have ic8 := tn_le rfl rfl c8
        refine lv_iload hx hb dX3_layWithoutShare_71 (lv_at hl 4 rfl) ?_
        exact hc_iret E hr hlk hG dX3_layWithoutShare_73
      · skip
        have ic8 := tn_nle rfl rfl c8
        refine lv_aload_n hx hb dX3_layWithoutShare_15 rfl (lv_at hl 0 rfl) ?_
        refine hc_getr E hG t0 fr_X3_9 dX3_layWithoutShare_16 (fun oa9 hoa9 => ?_)
        obtain rfl := hU _ hoa9
        refine lv_aload_n hx hb dX3_layWithoutShare_19 rfl (lv_at hl 1 rfl) ?_
        refine lv_iload hx hb dX3_layWithoutShare_20 (lv_at hl 5 rfl) ?_
        refine hc_callpr (post' := fun r => τ r = 3 ∧ r = ((G.2.2.1 10) + 1 + (3 + 4 * (F (h1 + 2) v5.toNatClampNeg).toNatClampNeg))) hG (fun Fq hRq hG => tc_runV (As := [.ref h1, .int v5]) (rest := []) (E.f1 (F' := Fq)) (hSt.f1 (F' := Fq)) hG (x_X8_kidOf l (gF G Fq) τ (G.2.2.1 10) h1 v5 hoa9 t1 (by omega) (by omega)) hoa9 rv_2 kv_X8_kidOf ml_X3_147 (tRm_ok (by omega) (by omega)) rfl hl.1 rfl (Nat.le_of_ble_eq_true rfl) ⟨Nat.zero_le _, Nat.zero_le _⟩ dX3_layWithoutShare_22) (fun Fq r hf q => by rw [← hf (h1 + 2) v5.toNatClampNeg (by omega)]; exact q) (fun r10 pr10 => ?_)
        obtain ⟨pr10, kr10⟩ := pr10
        have lkr10 : LOK F (G.2.2.1 10) r10 (x3.toInt + 1) := LOK_kid hK hL (i := v5) (by omega) (by omega) kr10
        refine lv_astore (lv' := [(6, .ref r10), (0, .ref h0), (1, .ref h1), (2, .int x2), (3, .int x3), (4, .int v4), (5, .int v5)]) hx hb dX3_layWithoutShare_25 hl (by decide) rfl (fun ls hl => ?_)
        refine lv_iload_n hx hb dX3_layWithoutShare_27 rfl (lv_at hl 3 rfl) ?_
        refine lv_if_eq (tgt := 39) hx hb dX3_layWithoutShare_28 (by decide) (fun c11 => ?_) (fun c11 => ?_)
        · skip
          have ic11 := tn_eq rfl kI_0 c11
          exact J39 H locs ls v4 v5 (r10) hG (lv_sub hl [1, 2, 3, 4, 5, 6, 0] rfl) (by omega) (by omega) ⟨pr10, lkr10⟩ (by omega)
        · skip
          have ic11 := tn_ne rfl kI_0 c11
          refine lv_aload hx hb dX3_layWithoutShare_31 (lv_at hl 0 rfl) ?_
          refine hc_geti E hG pr10 fi_X3_234 dX3_layWithoutShare_33 (fun z12 _ _ => ?_)
          refine lv_if_ne (tgt := 65) hx hb dX3_layWithoutShare_36 (by decide) (fun c13 => ?_) (fun c13 => ?_)
          · skip
            have ic13 := tn_ne rfl kI_0 c13
            exact J65 H locs ls v4 v5 hG (lv_sub hl [1, 2, 3, 4, 5, 6] rfl) (by omega) (by omega) (by omega)
          · skip
            have ic13 := tn_eq rfl kI_0 c13
            exact J39 H locs ls v4 v5 (r10) hG (lv_sub hl [1, 2, 3, 4, 5, 6, 0] rfl) (by omega) (by omega) ⟨pr10, lkr10⟩ (by omega)
  refine lv_iconst (v := 0) hx hb dX3_layWithoutShare_0 (by decide) ?_
  refine lv_istore (lv' := [(4, .int 0), (0, .ref h0), (1, .ref h1), (2, .int x2), (3, .int x3)]) hx hb dX3_layWithoutShare_1 hl (by decide) rfl (fun ls hl => ?_)
  refine lv_iconst (v := 0) hx hb dX3_layWithoutShare_3 (by decide) ?_
  refine lv_istore (lv' := [(5, .int 0), (4, .int 0), (0, .ref h0), (1, .ref h1), (2, .int x2), (3, .int x3)]) hx hb dX3_layWithoutShare_4 hl (by decide) rfl (fun ls hl => ?_)
  exact J6 ((8 - (0 : Int32).toInt).toNat + 1) H locs ls (0 : Int32) (0 : Int32) hG (lv_sub hl [2, 3, 4, 5, 1, 0] rfl) (by decide) (by decide) (Nat.lt_succ_self _)

set_option maxHeartbeats 4000000 in
set_option maxRecDepth 100000 in
theorem h_X3_layByShare (l : Launch) (G : tG) (F : mF) (τ : Nat → Nat) (h0 : Nat) (h1 : Nat) (x2 : Int32) (t0 : τ h0 = 5) (t1 : τ h1 = 3) (l2 : 0 ≤ x2.toInt) (u2 : x2.toInt ≤ 23) (d : Nat) (ih : P_lay d τ l G) (hd : (24 - x2.toInt).toNat < d + 1) (hU : ∀ q, τ q = 2 → q = (G.2.2.1 10)) (hK : AKF F (G.2.2.1 10)) (hC : CINV F (G.2.2.1 10)) (hL : LOK F (G.2.2.1 10) h1 x2.toInt) : Met l yX3_layByShare (.code yX3_layByShare cX3_layByShare 6 (some .int) :: tWS) (tRm (42 * d + 42) (541 * d + 1555)) (va_Pc [.ref h0, .ref h1, .int x2] (tPre (gF G F) τ)) (tQF G τ (fun r F9 => HRx F F9 (G.2.2.1 10))) 0 0 (tA τ) := by
  refine tc_met (by decide) (Nat.le_of_ble_eq_true rfl) ?_
  intro p e s m below meth c E hSt hr hlk hG ls hl
  have hl : lv_has ls 6 [(0, .ref h0), (1, .ref h1), (2, .int x2)] := hl
  have hx := E.1
  have hb := E.2.1
  obtain ⟨H, eH⟩ : ∃ H, H = s.heap := ⟨_, rfl⟩
  obtain ⟨locs, eL⟩ : ∃ x : List Loc, x = [] := ⟨_, rfl⟩
  have hG : hGH G F τ s H locs := ⟨F, HRx.refl hC, by rw [eH, eL]; exact hG⟩
  suffices hW : W p l e (tRm (42 * d + 42) (541 * d + 1555)) s m ([.ref h0, .ref h1, .int x2] : List Value).toArray below meth c H locs 0 0 (MQ below (tQF G τ (fun r F9 => HRx F F9 (G.2.2.1 10))) ([.ref h0, .ref h1, .int x2] : List Value).toArray s 0 0 (tA τ)) (F0 m 0 ls []) by subst eH; subst eL; exact hW
  clear eH eL
  obtain ⟨n9, hn9, hA9, en9, hd9⟩ := id hL
  have J5 : ∀ (n5 : Nat) (H : Heap) (locs : List Loc) (ls : Array Slot) (v3 : Int32) (v4 : Int32), hGH G F τ s H locs → lv_has ls 6 [(0, .ref h0), (1, .ref h1), (2, .int x2), (3, .int v3), (4, .int v4)] → 0 ≤ v4.toInt → v4.toInt ≤ 8 → (8 - v4.toInt).toNat < n5 → W p l e (tRm (42 * d + 42) (541 * d + 1555)) s m ([.ref h0, .ref h1, .int x2] : List Value).toArray below meth c H locs 0 0 (MQ below (tQF G τ (fun r F9 => HRx F F9 (G.2.2.1 10))) ([.ref h0, .ref h1, .int x2] : List Value).toArray s 0 0 (tA τ)) (F0 m 5 ls []) := by
    intro n5
    induction n5 with
    | zero => intro H locs ls v3 v4 hG hl b4 c4 hn5; exact absurd hn5 (Nat.not_lt_zero _)
    | succ n5 ih5 =>
      intro H locs ls v3 v4 hG hl b4 c4 hn5
      have J55 : ∀ (H : Heap) (locs : List Loc) (ls : Array Slot) (v3 : Int32) (v4 : Int32), hGH G F τ s H locs → lv_has ls 6 [(0, .ref h0), (1, .ref h1), (2, .int x2), (3, .int v3), (4, .int v4)] → 0 ≤ v4.toInt → v4.toInt ≤ 7 → (8 - v4.toInt).toNat < n5 + 1 → W p l e (tRm (42 * d + 42) (541 * d + 1555)) s m ([.ref h0, .ref h1, .int x2] : List Value).toArray below meth c H locs 0 0 (MQ below (tQF G τ (fun r F9 => HRx F F9 (G.2.2.1 10))) ([.ref h0, .ref h1, .int x2] : List Value).toArray s 0 0 (tA τ)) (F0 m 55 ls []) := by
        intro H locs ls v3 v4 hG hl b4 c4 hm5
        obtain ⟨z1, ez1⟩ : ∃ y : Int32, y = v4 + (1) := ⟨_, rfl⟩
        refine lv_iinc (v := z1) (lv' := [(4, .int z1), (0, .ref h0), (1, .ref h1), (2, .int x2), (3, .int v3)]) hx hb dX3_layByShare_55 hl (k := 4) rfl (by rw [ez1]; rfl) (by decide) rfl (fun ls hl => ?_)
        have tz1 := tn_add ez1 rfl kI_1 (by omega) (by omega)
        refine lv_goto (tgt := 5) hx hb dX3_layByShare_58 (by decide) ?_
        exact ih5 H locs ls v3 z1 hG (lv_sub hl [1, 2, 3, 4, 0] rfl) (by omega) (by omega) (by omega)
      refine lv_iload hx hb dX3_layByShare_5 (lv_at hl 4 rfl) ?_
      refine lv_aload_n hx hb dX3_layByShare_7 rfl (lv_at hl 1 rfl) ?_
      refine hc_getF E hG t1 fi_X3_144 rfl (by decide) dX3_layByShare_8 (fun z2 lz2 uz2 wz2 => ?_)
      have cz2 : z2.toInt = (F h1 10).toInt := by rw [wz2]
      refine lv_icmp_ge (tgt := 61) hx hb dX3_layByShare_11 (by decide) (fun c3 => ?_) (fun c3 => ?_)
      · skip
        have ic3 := tn_le rfl rfl c3
        refine lv_iload_n hx hb dX3_layByShare_61 rfl (lv_at hl 3 rfl) ?_
        exact hc_iret E hr hlk hG dX3_layByShare_62
      · skip
        have ic3 := tn_nle rfl rfl c3
        refine lv_aload_n hx hb dX3_layByShare_14 rfl (lv_at hl 0 rfl) ?_
        refine hc_getr E hG t0 fr_X3_9 dX3_layByShare_15 (fun oa4 hoa4 => ?_)
        obtain rfl := hU _ hoa4
        refine lv_aload_n hx hb dX3_layByShare_18 rfl (lv_at hl 1 rfl) ?_
        refine lv_iload hx hb dX3_layByShare_19 (lv_at hl 4 rfl) ?_
        refine hc_callpr (post' := fun r => τ r = 3 ∧ r = ((G.2.2.1 10) + 1 + (3 + 4 * (F (h1 + 2) v4.toNatClampNeg).toNatClampNeg))) hG (fun Fq hRq hG => tc_runV (As := [.ref h1, .int v4]) (rest := []) (E.f1 (F' := Fq)) (hSt.f1 (F' := Fq)) hG (x_X8_kidOf l (gF G Fq) τ (G.2.2.1 10) h1 v4 hoa4 t1 (by omega) (by omega)) hoa4 rv_2 kv_X8_kidOf ml_X3_147 (tRm_ok (by omega) (by omega)) rfl hl.1 rfl (Nat.le_of_ble_eq_true rfl) ⟨Nat.zero_le _, Nat.zero_le _⟩ dX3_layByShare_21) (fun Fq r hf q => by rw [← hf (h1 + 2) v4.toNatClampNeg (by omega)]; exact q) (fun r5 pr5 => ?_)
        obtain ⟨pr5, kr5⟩ := pr5
        have lkr5 : LOK F (G.2.2.1 10) r5 (x2.toInt + 1) := LOK_kid hK hL (i := v4) (by omega) (by omega) kr5
        refine lv_astore (lv' := [(5, .ref r5), (0, .ref h0), (1, .ref h1), (2, .int x2), (3, .int v3), (4, .int v4)]) hx hb dX3_layByShare_24 hl (by decide) rfl (fun ls hl => ?_)
        refine lv_aload hx hb dX3_layByShare_26 (lv_at hl 0 rfl) ?_
        refine hc_geti E hG pr5 fi_X3_234 dX3_layByShare_28 (fun z6 _ _ => ?_)
        refine lv_if_le (tgt := 55) hx hb dX3_layByShare_31 (by decide) (fun c7 => ?_) (fun c7 => ?_)
        · skip
          have ic7 := tn_le rfl kI_0 c7
          exact J55 H locs ls v3 v4 hG (lv_sub hl [1, 2, 3, 4, 5] rfl) (by omega) (by omega) (by omega)
        · skip
          have ic7 := tn_nle rfl kI_0 c7
          refine lv_iload_n hx hb dX3_layByShare_34 rfl (lv_at hl 4 rfl) ?_
          refine lv_aload_n hx hb dX3_layByShare_35 rfl (lv_at hl 1 rfl) ?_
          refine lv_aload_n hx hb dX3_layByShare_36 rfl (lv_at hl 2 rfl) ?_
          refine lv_aload hx hb dX3_layByShare_37 (lv_at hl 0 rfl) ?_
          refine lv_aload hx hb dX3_layByShare_39 (lv_at hl 0 rfl) ?_
          refine hc_geti E hG pr5 fi_X3_247 dX3_layByShare_41 (fun z8 _ _ => ?_)
          refine lv_aload hx hb dX3_layByShare_44 (lv_at hl 0 rfl) ?_
          refine hc_geti E hG pr5 fi_X3_247 dX3_layByShare_46 (fun z9 _ _ => ?_)
          refine lv_iload_n hx hb dX3_layByShare_49 rfl (lv_at hl 3 rfl) ?_
          refine hc_calliF hG (fun Fq hRq hG => tc_runV (As := [.ref h1, .ref r5, .int z8, .int z9, .int x2]) (rest := [.int v3]) (E.f1 (F' := Fq)) (hSt.f1 (F' := Fq)) hG (h_X3_layAlong l G Fq τ h0 h1 r5 z8 z9 x2 t0 t1 pr5 (by omega) (by omega) d ih (by omega) hU (AKF_fr hRq.1 hK) hRq.2 (LOK_fr hRq.1 lkr5)) t0 rv_5 kv_X3_layAlong ml_X3_243 (tRm_ok (by omega) (by omega)) rfl hl.1 rfl (Nat.le_of_ble_eq_true rfl) ⟨Nat.zero_le _, Nat.zero_le _⟩ dX3_layByShare_50) (fun _ _ _ h => h) (fun r10 H locs hG => ?_)
          refine lv_iadd hx hb dX3_layByShare_53 ?_
          refine lv_topi (fun z11 ez11 => ?_)
          refine lv_istore_n (lv' := [(3, .int z11), (5, .ref r5), (0, .ref h0), (1, .ref h1), (2, .int x2), (4, .int v4)]) hx hb dX3_layByShare_54 rfl hl (by decide) rfl (fun ls hl => ?_)
          exact J55 H locs ls z11 v4 hG (lv_sub hl [2, 3, 4, 0, 5] rfl) (by omega) (by omega) (by omega)
  refine lv_iconst (v := 0) hx hb dX3_layByShare_0 (by decide) ?_
  refine lv_istore_n (lv' := [(3, .int 0), (0, .ref h0), (1, .ref h1), (2, .int x2)]) hx hb dX3_layByShare_1 rfl hl (by decide) rfl (fun ls hl => ?_)
  refine lv_iconst (v := 0) hx hb dX3_layByShare_2 (by decide) ?_
  refine lv_istore (lv' := [(4, .int 0), (3, .int 0), (0, .ref h0), (1, .ref h1), (2, .int x2)]) hx hb dX3_layByShare_3 hl (by decide) rfl (fun ls hl => ?_)
  exact J5 ((8 - (0 : Int32).toInt).toNat + 1) H locs ls (0 : Int32) (0 : Int32) hG (lv_sub hl [2, 3, 4, 1, 0] rfl) (by decide) (by decide) (Nat.lt_succ_self _)

set_option maxHeartbeats 4000000 in
set_option maxRecDepth 100000 in
theorem h_X3_layLine (l : Launch) (G : tG) (F : mF) (τ : Nat → Nat) (h0 : Nat) (h1 : Nat) (x2 : Int32) (t0 : τ h0 = 5) (t1 : τ h1 = 3) (l2 : 0 ≤ x2.toInt) (u2 : x2.toInt ≤ 23) (d : Nat) (ih : P_lay d τ l G) (hd : (24 - x2.toInt).toNat < d + 1) (hU : ∀ q, τ q = 2 → q = (G.2.2.1 10)) (hK : AKF F (G.2.2.1 10)) (hC : CINV F (G.2.2.1 10)) (hL : LOK F (G.2.2.1 10) h1 x2.toInt) : Met l yX3_layLine (.code yX3_layLine cX3_layLine 10 none :: tWS) (tRm (42 * d + 43) (541 * d + 1581)) (va_Pc [.ref h0, .ref h1, .int x2] (tPre (gF G F) τ)) (tQG G τ (fun F9 => HRx F F9 (G.2.2.1 10))) 0 0 (tA τ) := by
  refine tc_met (by decide) (Nat.le_of_ble_eq_true rfl) ?_
  intro p e s m below meth c E hSt hr hlk hG ls hl
  have hl : lv_has ls 10 [(0, .ref h0), (1, .ref h1), (2, .int x2)] := hl
  have hx := E.1
  have hb := E.2.1
  obtain ⟨H, eH⟩ : ∃ H, H = s.heap := ⟨_, rfl⟩
  obtain ⟨locs, eL⟩ : ∃ x : List Loc, x = [] := ⟨_, rfl⟩
  have hG : hGH G F τ s H locs := ⟨F, HRx.refl hC, by rw [eH, eL]; exact hG⟩
  suffices hW : W p l e (tRm (42 * d + 43) (541 * d + 1581)) s m ([.ref h0, .ref h1, .int x2] : List Value).toArray below meth c H locs 0 0 (MQ below (tQG G τ (fun F9 => HRx F F9 (G.2.2.1 10))) ([.ref h0, .ref h1, .int x2] : List Value).toArray s 0 0 (tA τ)) (F0 m 0 ls []) by subst eH; subst eL; exact hW
  clear eH eL
  obtain ⟨n9, hn9, hA9, en9, hd9⟩ := id hL
  have J236 : ∀ (H : Heap) (locs : List Loc) (ls : Array Slot) (v4 : Int32) (as0 : Nat) (vs1 : Int32) (vs2 : Int32), hGH G F τ s H locs → lv_has ls 10 [(0, .ref h0), (1, .ref h1), (4, .int v4)] → 0 ≤ v4.toInt → v4.toInt ≤ 1 → τ as0 = 4 → W p l e (tRm (42 * d + 43) (541 * d + 1581)) s m ([.ref h0, .ref h1, .int x2] : List Value).toArray below meth c H locs 0 0 (MQ below (tQG G τ (fun F9 => HRx F F9 (G.2.2.1 10))) ([.ref h0, .ref h1, .int x2] : List Value).toArray s 0 0 (tA τ)) (F0 m 236 ls [.int vs2, .int vs1, .ref as0]) := by
    intro H locs ls v4 as0 vs1 vs2 hG hl b4 c4 es0
    refine hc_callv hG (fun Fq hRq hG => tc_runV (As := [.int vs1, .int vs2]) (rest := []) (E.f1 (F' := Fq)) (hSt.f1 (F' := Fq)) hG (c_X2_sizeTo l (gF G Fq) τ as0 vs1 vs2 es0) es0 rv_4 kv_X2_sizeTo ml_X3_115 (tRm_ok (by omega) (by omega)) rfl hl.1 rfl (Nat.le_of_ble_eq_true rfl) ⟨Nat.zero_le _, Nat.zero_le _⟩ dX3_layLine_236) (fun H locs hG => ?_)
    refine lv_aload_n hx hb dX3_layLine_239 rfl (lv_at hl 0 rfl) ?_
    refine lv_aload_n hx hb dX3_layLine_240 rfl (lv_at hl 1 rfl) ?_
    refine lv_iload hx hb dX3_layLine_241 (lv_at hl 2 rfl) ?_
    refine hc_callv hG (fun Fq hRq hG => tc_runV (As := [.ref h1, .int v4]) (rest := []) (E.f1 (F' := Fq)) (hSt.f1 (F' := Fq)) hG (c_X3_placeInLine l (gF G Fq) τ h0 h1 v4 t0 t1 (by omega) (by omega)) t0 rv_5 kv_X3_placeInLine ml_X3_230 (tRm_ok (by omega) (by omega)) rfl hl.1 rfl (Nat.le_of_ble_eq_true rfl) ⟨Nat.zero_le _, Nat.zero_le _⟩ dX3_layLine_243) (fun H locs hG => ?_)
    exact hc_vret E hr hlk hG dX3_layLine_246
  have J224 : ∀ (H : Heap) (locs : List Loc) (ls : Array Slot) (v4 : Int32) (v8 : Int32) (v9 : Int32) (as0 : Nat) (vs1 : Int32), hGH G F τ s H locs → lv_has ls 10 [(0, .ref h0), (1, .ref h1), (4, .int v4), (8, .int v8), (9, .int v9)] → 0 ≤ v4.toInt → v4.toInt ≤ 1 → τ as0 = 4 → W p l e (tRm (42 * d + 43) (541 * d + 1581)) s m ([.ref h0, .ref h1, .int x2] : List Value).toArray below meth c H locs 0 0 (MQ below (tQG G τ (fun F9 => HRx F F9 (G.2.2.1 10))) ([.ref h0, .ref h1, .int x2] : List Value).toArray s 0 0 (tA τ)) (F0 m 224 ls [.int vs1, .ref as0]) := by
    intro H locs ls v4 v8 v9 as0 vs1 hG hl b4 c4 es0
    refine lv_iload hx hb dX3_layLine_224 (lv_at hl 2 rfl) ?_
    refine lv_if_eq (tgt := 234) hx hb dX3_layLine_226 (by decide) (fun c3 => ?_) (fun c3 => ?_)
    · skip
      have ic3 := tn_eq rfl kI_0 c3
      refine lv_iload hx hb dX3_layLine_234 (lv_at hl 3 rfl) ?_
      exact J236 H locs ls v4 (as0) vs1 v8 hG (lv_sub hl [0, 1, 2] rfl) (by omega) (by omega) es0
    · skip
      have ic3 := tn_ne rfl kI_0 c3
      refine lv_iload hx hb dX3_layLine_229 (lv_at hl 4 rfl) ?_
      refine lv_goto (tgt := 236) hx hb dX3_layLine_231 (by decide) ?_
      exact J236 H locs ls v4 (as0) vs1 v9 hG (lv_sub hl [0, 1, 2] rfl) (by omega) (by omega) es0
  have J202 : ∀ (H : Heap) (locs : List Loc) (ls : Array Slot) (a3 : Nat) (v4 : Int32) (v8 : Int32), hGH G F τ s H locs → lv_has ls 10 [(0, .ref h0), (1, .ref h1), (3, .ref a3), (4, .int v4), (8, .int v8)] → τ a3 = 4 → 0 ≤ v4.toInt → v4.toInt ≤ 1 → W p l e (tRm (42 * d + 43) (541 * d + 1581)) s m ([.ref h0, .ref h1, .int x2] : List Value).toArray below meth c H locs 0 0 (MQ below (tQG G τ (fun F9 => HRx F F9 (G.2.2.1 10))) ([.ref h0, .ref h1, .int x2] : List Value).toArray s 0 0 (tA τ)) (F0 m 202 ls []) := by
    intro H locs ls a3 v4 v8 hG hl e3 b4 c4
    refine lv_aload_n hx hb dX3_layLine_202 rfl (lv_at hl 0 rfl) ?_
    refine lv_aload_n hx hb dX3_layLine_203 rfl (lv_at hl 1 rfl) ?_
    refine lv_iload hx hb dX3_layLine_204 (lv_at hl 3 rfl) ?_
    refine hc_callp hG (fun Fq hRq hG => tc_runV (As := [.ref h1, .int v4]) (rest := []) (E.f1 (F' := Fq)) (hSt.f1 (F' := Fq)) hG (c_X3_greatestAcross l (gF G Fq) τ h0 h1 v4 t0 t1 (by omega) (by omega)) t0 rv_5 kv_X3_greatestAcross ml_X3_226 (tRm_ok (by omega) (by omega)) rfl hl.1 rfl (Nat.le_of_ble_eq_true rfl) ⟨Nat.zero_le _, Nat.zero_le _⟩ dX3_layLine_206) (fun r4 pr4 => ?_)
    refine lv_istore (lv' := [(9, .int r4), (0, .ref h0), (1, .ref h1), (3, .ref a3), (4, .int v4), (8, .int v8)]) hx hb dX3_layLine_209 hl (by decide) rfl (fun ls hl => ?_)
    refine lv_aload_n hx hb dX3_layLine_211 rfl (lv_at hl 3 rfl) ?_
    refine lv_iload hx hb dX3_layLine_212 (lv_at hl 4 rfl) ?_
    refine lv_if_eq (tgt := 222) hx hb dX3_layLine_214 (by decide) (fun c5 => ?_) (fun c5 => ?_)
    · skip
      have ic5 := tn_eq rfl kI_0 c5
      refine lv_iload hx hb dX3_layLine_222 (lv_at hl 0 rfl) ?_
      exact J224 H locs ls v4 v8 r4 (a3) r4 hG (lv_sub hl [1, 2, 4, 5, 0] rfl) (by omega) (by omega) e3
    · skip
      have ic5 := tn_ne rfl kI_0 c5
      refine lv_iload hx hb dX3_layLine_217 (lv_at hl 5 rfl) ?_
      refine lv_goto (tgt := 224) hx hb dX3_layLine_219 (by decide) ?_
      exact J224 H locs ls v4 v8 r4 (a3) v8 hG (lv_sub hl [1, 2, 4, 5, 0] rfl) (by omega) (by omega) e3
  have J156 : ∀ (H : Heap) (locs : List Loc) (ls : Array Slot) (a3 : Nat) (v4 : Int32) (v5 : Int32) (v6 : Int32) (vs0 : Int32) (vs1 : Int32), hGH G F τ s H locs → lv_has ls 10 [(0, .ref h0), (1, .ref h1), (2, .int x2), (3, .ref a3), (4, .int v4), (5, .int v5), (6, .int v6)] → τ a3 = 4 → 0 ≤ v4.toInt → v4.toInt ≤ 1 → W p l e (tRm (42 * d + 43) (541 * d + 1581)) s m ([.ref h0, .ref h1, .int x2] : List Value).toArray below meth c H locs 0 0 (MQ below (tQG G τ (fun F9 => HRx F F9 (G.2.2.1 10))) ([.ref h0, .ref h1, .int x2] : List Value).toArray s 0 0 (tA τ)) (F0 m 156 ls [.int vs1, .int vs0]) := by
    intro H locs ls a3 v4 v5 v6 vs0 vs1 hG hl e3 b4 c4
    refine lv_iload hx hb dX3_layLine_156 (lv_at hl 5 rfl) ?_
    refine hc_callp hG (fun Fq hRq hG => tc_runN (As := [.int vs0, .int vs1, .int v5]) (rest := []) (E.f1 (F' := Fq)) (hSt.f1 (F' := Fq)) hG (c_X9_held l (gF G Fq) τ vs0 vs1 v5) ks_X9_held (List.mem_of_getElem? (i := 2) rfl) (tRm_ok (by omega) (by omega)) rfl hl.1 rfl (Nat.le_of_ble_eq_true rfl) ⟨Nat.zero_le _, Nat.zero_le _⟩ dX3_layLine_158) (fun r6 pr6 => ?_)
    refine lv_istore (lv' := [(8, .int r6), (0, .ref h0), (1, .ref h1), (2, .int x2), (3, .ref a3), (4, .int v4), (5, .int v5), (6, .int v6)]) hx hb dX3_layLine_161 hl (by decide) rfl (fun ls hl => ?_)
    refine lv_aload_n hx hb dX3_layLine_163 rfl (lv_at hl 4 rfl) ?_
    refine lv_iconst (v := 0) hx hb dX3_layLine_164 (by decide) ?_
    refine lv_iload hx hb dX3_layLine_165 (lv_at hl 7 rfl) ?_
    refine lv_iload hx hb dX3_layLine_167 (lv_at hl 0 rfl) ?_
    refine lv_isub hx hb dX3_layLine_169 ?_
    refine lv_topi (fun z7 ez7 => ?_)
    refine tc_max (rest := [.ref a3]) E hl.1 ml_X3_155 kn_max1 kn_math kn_max2 ⟨tMx1 (by omega), tMx2 (k := 1) rfl (by omega)⟩ ⟨Nat.zero_le _, Nat.zero_le _⟩ dX3_layLine_170 (fun z8 ez8 => ?_)
    have tz8 := tn_max ez8
    have kk9_ := kI_0
    refine hc_puti E hG e3 fp_X3_219 (t_any1 _) (t_any2 _) dX3_layLine_173 (fun H locs hG => ?_)
    refine lv_iload hx hb dX3_layLine_176 (lv_at hl 5 rfl) ?_
    refine lv_if_eq (tgt := 202) hx hb dX3_layLine_178 (by decide) (fun c10 => ?_) (fun c10 => ?_)
    · skip
      have ic10 := tn_eq rfl kI_0 c10
      exact J202 H locs ls (a3) v4 r6 hG (lv_sub hl [1, 2, 4, 5, 0] rfl) e3 (by omega) (by omega)
    · skip
      have ic10 := tn_ne rfl kI_0 c10
      refine lv_aload_n hx hb dX3_layLine_181 rfl (lv_at hl 2 rfl) ?_
      refine hc_getr E hG t1 fr_X3_111 dX3_layLine_182 (fun oa11 hoa11 => ?_)
      refine lv_iconst (v := 0) hx hb dX3_layLine_185 (by decide) ?_
      refine hc_iald E hG hoa11 ta_11 (t_in (by decide) (by decide)) dX3_layLine_186 (fun z12 _ _ => ?_)
      refine lv_iconst (v := 4) hx hb dX3_layLine_187 (by decide) ?_
      refine lv_icmp_ne (tgt := 202) hx hb dX3_layLine_188 (by decide) (fun c13 => ?_) (fun c13 => ?_)
      · skip
        have ic13 := tn_ne rfl kI_4 c13
        exact J202 H locs ls (a3) v4 r6 hG (lv_sub hl [1, 2, 4, 5, 0] rfl) e3 (by omega) (by omega)
      · skip
        have ic13 := tn_eq rfl kI_4 c13
        refine lv_aload_n hx hb dX3_layLine_191 rfl (lv_at hl 1 rfl) ?_
        refine lv_aload_n hx hb dX3_layLine_192 rfl (lv_at hl 2 rfl) ?_
        refine lv_iload hx hb dX3_layLine_193 (lv_at hl 0 rfl) ?_
        refine lv_iload_n hx hb dX3_layLine_195 rfl (lv_at hl 3 rfl) ?_
        refine hc_callv hG (fun Fq hRq hG => tc_runV (As := [.ref h1, .int r6, .int x2]) (rest := []) (E.f1 (F' := Fq)) (hSt.f1 (F' := Fq)) hG (c_X3_standOnBase l (gF G Fq) τ h0 h1 r6 x2 t0 t1 (by omega) (by omega)) t0 rv_5 kv_X3_standOnBase ml_X3_222 (tRm_ok (by omega) (by omega)) rfl hl.1 rfl (Nat.le_of_ble_eq_true rfl) ⟨Nat.zero_le _, Nat.zero_le _⟩ dX3_layLine_196) (fun H locs hG => ?_)
        refine lv_goto (tgt := 246) hx hb dX3_layLine_199 (by decide) ?_
        exact hc_vret E hr hlk hG dX3_layLine_246
  have J140 : ∀ (H : Heap) (locs : List Loc) (ls : Array Slot) (a3 : Nat) (v4 : Int32) (v5 : Int32) (v6 : Int32) (vs0 : Int32), hGH G F τ s H locs → lv_has ls 10 [(0, .ref h0), (1, .ref h1), (2, .int x2), (3, .ref a3), (4, .int v4), (5, .int v5), (6, .int v6)] → τ a3 = 4 → 0 ≤ v4.toInt → v4.toInt ≤ 1 → W p l e (tRm (42 * d + 43) (541 * d + 1581)) s m ([.ref h0, .ref h1, .int x2] : List Value).toArray below meth c H locs 0 0 (MQ below (tQG G τ (fun F9 => HRx F F9 (G.2.2.1 10))) ([.ref h0, .ref h1, .int x2] : List Value).toArray s 0 0 (tA τ)) (F0 m 140 ls [.int vs0]) := by
    intro H locs ls a3 v4 v5 v6 vs0 hG hl e3 b4 c4
    refine lv_iload hx hb dX3_layLine_140 (lv_at hl 4 rfl) ?_
    refine lv_if_eq (tgt := 152) hx hb dX3_layLine_142 (by decide) (fun c15 => ?_) (fun c15 => ?_)
    · skip
      have ic15 := tn_eq rfl kI_0 c15
      refine lv_aload_n hx hb dX3_layLine_152 rfl (lv_at hl 3 rfl) ?_
      refine hc_geti E hG e3 fi_X3_71 dX3_layLine_153 (fun z16 _ _ => ?_)
      exact J156 H locs ls (a3) v4 v5 v6 vs0 z16 hG (lv_sub hl [0, 1, 2, 3, 4, 5, 6] rfl) e3 (by omega) (by omega)
    · skip
      have ic15 := tn_ne rfl kI_0 c15
      refine lv_aload_n hx hb dX3_layLine_145 rfl (lv_at hl 3 rfl) ?_
      refine hc_geti E hG e3 fi_X3_63 dX3_layLine_146 (fun z17 _ _ => ?_)
      refine lv_goto (tgt := 156) hx hb dX3_layLine_149 (by decide) ?_
      exact J156 H locs ls (a3) v4 v5 v6 vs0 z17 hG (lv_sub hl [0, 1, 2, 3, 4, 5, 6] rfl) e3 (by omega) (by omega)
  have J128 : ∀ (H : Heap) (locs : List Loc) (ls : Array Slot) (a3 : Nat) (v4 : Int32) (v5 : Int32) (v6 : Int32) (v7 : Int32), hGH G F τ s H locs → lv_has ls 10 [(0, .ref h0), (1, .ref h1), (2, .int x2), (3, .ref a3), (4, .int v4), (5, .int v5), (6, .int v6), (7, .int v7)] → τ a3 = 4 → 0 ≤ v4.toInt → v4.toInt ≤ 1 → 0 ≤ v7.toInt → v7.toInt ≤ 1 → W p l e (tRm (42 * d + 43) (541 * d + 1581)) s m ([.ref h0, .ref h1, .int x2] : List Value).toArray below meth c H locs 0 0 (MQ below (tQG G τ (fun F9 => HRx F F9 (G.2.2.1 10))) ([.ref h0, .ref h1, .int x2] : List Value).toArray s 0 0 (tA τ)) (F0 m 128 ls []) := by
    intro H locs ls a3 v4 v5 v6 v7 hG hl e3 b4 c4 b7 c7
    refine lv_iload hx hb dX3_layLine_128 (lv_at hl 7 rfl) ?_
    refine lv_if_eq (tgt := 138) hx hb dX3_layLine_130 (by decide) (fun c18 => ?_) (fun c18 => ?_)
    · skip
      have ic18 := tn_eq rfl kI_0 c18
      refine lv_iload hx hb dX3_layLine_138 (lv_at hl 6 rfl) ?_
      exact J140 H locs ls (a3) v4 v5 v6 v6 hG (lv_sub hl [0, 1, 2, 3, 4, 5, 6] rfl) e3 (by omega) (by omega)
    · skip
      have ic18 := tn_ne rfl kI_0 c18
      refine lv_iload hx hb dX3_layLine_133 (lv_at hl 5 rfl) ?_
      refine lv_goto (tgt := 140) hx hb dX3_layLine_135 (by decide) ?_
      exact J140 H locs ls (a3) v4 v5 v6 v5 hG (lv_sub hl [0, 1, 2, 3, 4, 5, 6] rfl) e3 (by omega) (by omega)
  have J79 : ∀ (H : Heap) (locs : List Loc) (ls : Array Slot) (a3 : Nat) (v4 : Int32) (v5 : Int32) (v6 : Int32) (vs0 : Int32), hGH G F τ s H locs → lv_has ls 10 [(0, .ref h0), (1, .ref h1), (2, .int x2), (3, .ref a3), (4, .int v4), (5, .int v5), (6, .int v6)] → τ a3 = 4 → 0 ≤ v4.toInt → v4.toInt ≤ 1 → 0 ≤ vs0.toInt → vs0.toInt ≤ 1 → W p l e (tRm (42 * d + 43) (541 * d + 1581)) s m ([.ref h0, .ref h1, .int x2] : List Value).toArray below meth c H locs 0 0 (MQ below (tQG G τ (fun F9 => HRx F F9 (G.2.2.1 10))) ([.ref h0, .ref h1, .int x2] : List Value).toArray s 0 0 (tA τ)) (F0 m 79 ls [.int vs0]) := by
    intro H locs ls a3 v4 v5 v6 vs0 hG hl e3 b4 c4 bs0 cs0
    refine lv_istore (lv' := [(7, .int vs0), (0, .ref h0), (1, .ref h1), (2, .int x2), (3, .ref a3), (4, .int v4), (5, .int v5), (6, .int v6)]) hx hb dX3_layLine_79 hl (by decide) rfl (fun ls hl => ?_)
    refine lv_iload hx hb dX3_layLine_81 (lv_at hl 7 rfl) ?_
    refine lv_aload_n hx hb dX3_layLine_83 rfl (lv_at hl 1 rfl) ?_
    refine lv_aload_n hx hb dX3_layLine_84 rfl (lv_at hl 2 rfl) ?_
    refine lv_iload hx hb dX3_layLine_85 (lv_at hl 0 rfl) ?_
    refine lv_iload_n hx hb dX3_layLine_87 rfl (lv_at hl 3 rfl) ?_
    refine hc_calliF hG (fun Fq hRq hG => tc_runV (As := [.ref h1, .int vs0, .int x2]) (rest := [.int v6]) (E.f1 (F' := Fq)) (hSt.f1 (F' := Fq)) hG (h_X3_layWithoutShare l G Fq τ h0 h1 vs0 x2 t0 t1 (by omega) (by omega) (by omega) (by omega) d ih (by omega) hU (AKF_fr hRq.1 hK) hRq.2 (LOK_fr hRq.1 hL)) t0 rv_5 kv_X3_layWithoutShare ml_X3_205 (tRm_ok (by omega) (by omega)) rfl hl.1 rfl (Nat.le_of_ble_eq_true rfl) ⟨Nat.zero_le _, Nat.zero_le _⟩ dX3_layLine_88) (fun _ _ _ h => h) (fun r19 H locs hG => ?_)
    refine lv_iadd hx hb dX3_layLine_91 ?_
    refine lv_topi (fun z20 ez20 => ?_)
    refine lv_istore (lv' := [(6, .int z20), (7, .int vs0), (0, .ref h0), (1, .ref h1), (2, .int x2), (3, .ref a3), (4, .int v4), (5, .int v5)]) hx hb dX3_layLine_92 hl (by decide) rfl (fun ls hl => ?_)
    refine lv_iload hx hb dX3_layLine_94 (lv_at hl 1 rfl) ?_
    refine lv_if_eq (tgt := 128) hx hb dX3_layLine_96 (by decide) (fun c21 => ?_) (fun c21 => ?_)
    · skip
      have ic21 := tn_eq rfl kI_0 c21
      exact J128 H locs ls (a3) v4 v5 z20 vs0 hG (lv_sub hl [2, 3, 4, 5, 6, 7, 0, 1] rfl) e3 (by omega) (by omega) (by omega) (by omega)
    · skip
      have ic21 := tn_ne rfl kI_0 c21
      refine lv_aload_n hx hb dX3_layLine_99 rfl (lv_at hl 5 rfl) ?_
      refine lv_aload_n hx hb dX3_layLine_100 rfl (lv_at hl 2 rfl) ?_
      refine lv_aload_n hx hb dX3_layLine_101 rfl (lv_at hl 3 rfl) ?_
      refine lv_iconst (v := 0) hx hb dX3_layLine_102 (by decide) ?_
      refine lv_iload hx hb dX3_layLine_103 (lv_at hl 7 rfl) ?_
      refine lv_iload hx hb dX3_layLine_105 (lv_at hl 0 rfl) ?_
      refine lv_isub hx hb dX3_layLine_107 ?_
      refine lv_topi (fun z22 ez22 => ?_)
      refine tc_max (rest := [.ref h1, .ref h0, .ref a3]) E hl.1 ml_X3_155 kn_max1 kn_math kn_max2 ⟨tMx1 (by omega), tMx2 (k := 3) rfl (by omega)⟩ ⟨Nat.zero_le _, Nat.zero_le _⟩ dX3_layLine_108 (fun z23 ez23 => ?_)
      have tz23 := tn_max ez23
      have kk24_ := kI_0
      refine hc_calli hG (fun Fq hRq hG => tc_runV (As := [.ref h1, .int z23]) (rest := [.ref a3]) (E.f1 (F' := Fq)) (hSt.f1 (F' := Fq)) hG (c_X3_roundsOf l (gF G Fq) τ h0 h1 z23 t0 t1) t0 rv_5 kv_X3_roundsOf ml_X3_209 (tRm_ok (by omega) (by omega)) rfl hl.1 rfl (Nat.le_of_ble_eq_true rfl) ⟨Nat.zero_le _, Nat.zero_le _⟩ dX3_layLine_111) (fun r25 H locs pr25 hG => ?_)
      refine hc_puti E hG e3 fp_X3_213 (t_any1 _) (t_any2 _) dX3_layLine_114 (fun H locs hG => ?_)
      refine lv_iload hx hb dX3_layLine_117 (lv_at hl 0 rfl) ?_
      refine lv_aload_n hx hb dX3_layLine_119 rfl (lv_at hl 2 rfl) ?_
      refine lv_aload_n hx hb dX3_layLine_120 rfl (lv_at hl 3 rfl) ?_
      refine lv_iload_n hx hb dX3_layLine_121 rfl (lv_at hl 4 rfl) ?_
      refine hc_calliF hG (fun Fq hRq hG => tc_runV (As := [.ref h1, .int x2]) (rest := [.int z20]) (E.f1 (F' := Fq)) (hSt.f1 (F' := Fq)) hG (h_X3_layByShare l G Fq τ h0 h1 x2 t0 t1 (by omega) (by omega) d ih (by omega) hU (AKF_fr hRq.1 hK) hRq.2 (LOK_fr hRq.1 hL)) t0 rv_5 kv_X3_layByShare ml_X3_216 (tRm_ok (by omega) (by omega)) rfl hl.1 rfl (Nat.le_of_ble_eq_true rfl) ⟨Nat.zero_le _, Nat.zero_le _⟩ dX3_layLine_122) (fun _ _ _ h => h) (fun r26 H locs hG => ?_)
      refine lv_iadd hx hb dX3_layLine_125 ?_
      refine lv_topi (fun z27 ez27 => ?_)
      refine lv_istore (lv' := [(6, .int z27), (7, .int vs0), (0, .ref h0), (1, .ref h1), (2, .int x2), (3, .ref a3), (4, .int v4), (5, .int v5)]) hx hb dX3_layLine_126 hl (by decide) rfl (fun ls hl => ?_)
      exact J128 H locs ls (a3) v4 v5 z27 vs0 hG (lv_sub hl [2, 3, 4, 5, 6, 7, 0, 1] rfl) e3 (by omega) (by omega) (by omega) (by omega)
  have J78 : ∀ (H : Heap) (locs : List Loc) (ls : Array Slot) (a3 : Nat) (v4 : Int32) (v5 : Int32) (v6 : Int32), hGH G F τ s H locs → lv_has ls 10 [(0, .ref h0), (1, .ref h1), (2, .int x2), (3, .ref a3), (4, .int v4), (5, .int v5), (6, .int v6)] → τ a3 = 4 → 0 ≤ v4.toInt → v4.toInt ≤ 1 → W p l e (tRm (42 * d + 43) (541 * d + 1581)) s m ([.ref h0, .ref h1, .int x2] : List Value).toArray below meth c H locs 0 0 (MQ below (tQG G τ (fun F9 => HRx F F9 (G.2.2.1 10))) ([.ref h0, .ref h1, .int x2] : List Value).toArray s 0 0 (tA τ)) (F0 m 78 ls []) := by
    intro H locs ls a3 v4 v5 v6 hG hl e3 b4 c4
    refine lv_iconst (v := 0) hx hb dX3_layLine_78 (by decide) ?_
    exact J79 H locs ls (a3) v4 v5 v6 (0 : Int32) hG (lv_sub hl [0, 1, 2, 3, 4, 5, 6] rfl) e3 (by omega) (by omega) (by decide) (by decide)
  have J37 : ∀ (H : Heap) (locs : List Loc) (ls : Array Slot) (a3 : Nat) (v4 : Int32) (vs0 : Int32), hGH G F τ s H locs → lv_has ls 10 [(0, .ref h0), (1, .ref h1), (2, .int x2), (3, .ref a3), (4, .int v4)] → τ a3 = 4 → 0 ≤ v4.toInt → v4.toInt ≤ 1 → W p l e (tRm (42 * d + 43) (541 * d + 1581)) s m ([.ref h0, .ref h1, .int x2] : List Value).toArray below meth c H locs 0 0 (MQ below (tQG G τ (fun F9 => HRx F F9 (G.2.2.1 10))) ([.ref h0, .ref h1, .int x2] : List Value).toArray s 0 0 (tA τ)) (F0 m 37 ls [.int vs0]) := by
    intro H locs ls a3 v4 vs0 hG hl e3 b4 c4
    refine lv_istore (lv' := [(5, .int vs0), (0, .ref h0), (1, .ref h1), (2, .int x2), (3, .ref a3), (4, .int v4)]) hx hb dX3_layLine_37 hl (by decide) rfl (fun ls hl => ?_)
    refine lv_iconst (v := 0) hx hb dX3_layLine_39 (by decide) ?_
    refine lv_aload_n hx hb dX3_layLine_40 rfl (lv_at hl 2 rfl) ?_
    refine hc_getF E hG t1 fi_X3_144 rfl (by decide) dX3_layLine_41 (fun z28 lz28 uz28 wz28 => ?_)
    have cz28 : z28.toInt = (F h1 10).toInt := by rw [wz28]
    refine lv_iconst (v := 1) hx hb dX3_layLine_44 (by decide) ?_
    refine lv_isub hx hb dX3_layLine_45 ?_
    refine lv_topi (fun z29 ez29 => ?_)
    have tz29 := tn_sub ez29 rfl kI_1 (by omega) (by omega)
    refine tc_max (rest := []) E hl.1 ml_X3_155 kn_max1 kn_math kn_max2 ⟨tMx1 (by omega), tMx2 (k := 0) rfl (by omega)⟩ ⟨Nat.zero_le _, Nat.zero_le _⟩ dX3_layLine_46 (fun z30 ez30 => ?_)
    have tz30 := tn_max ez30
    have kk31_ := kI_0
    refine lv_aload_n hx hb dX3_layLine_49 rfl (lv_at hl 2 rfl) ?_
    refine hc_getr E hG t1 fr_X3_111 dX3_layLine_50 (fun oa32 hoa32 => ?_)
    refine lv_iconst (v := 1) hx hb dX3_layLine_53 (by decide) ?_
    refine hc_iald E hG hoa32 ta_11 (t_in (by decide) (by decide)) dX3_layLine_54 (fun z33 _ _ => ?_)
    refine lv_imul hx hb dX3_layLine_55 ?_
    refine lv_topi (fun z34 ez34 => ?_)
    refine lv_istore (lv' := [(6, .int z34), (5, .int vs0), (0, .ref h0), (1, .ref h1), (2, .int x2), (3, .ref a3), (4, .int v4)]) hx hb dX3_layLine_56 hl (by decide) rfl (fun ls hl => ?_)
    refine lv_iload hx hb dX3_layLine_58 (lv_at hl 1 rfl) ?_
    refine lv_sipush (v := 1000) hx hb dX3_layLine_60 (by decide) ?_
    refine lv_icmp_ge (tgt := 78) hx hb dX3_layLine_63 (by decide) (fun c35 => ?_) (fun c35 => ?_)
    · skip
      have ic35 := tn_le kI_1000 rfl c35
      exact J78 H locs ls (a3) v4 vs0 z34 hG (lv_sub hl [2, 3, 4, 5, 6, 1, 0] rfl) e3 (by omega) (by omega)
    · skip
      have ic35 := tn_nle kI_1000 rfl c35
      refine lv_aload_n hx hb dX3_layLine_66 rfl (lv_at hl 2 rfl) ?_
      refine lv_aload_n hx hb dX3_layLine_67 rfl (lv_at hl 3 rfl) ?_
      refine hc_callp hG (fun Fq hRq hG => tc_runV (As := [.ref h1]) (rest := []) (E.f1 (F' := Fq)) (hSt.f1 (F' := Fq)) hG (c_X3_hasSharers l (gF G Fq) τ h0 h1 t0 t1) t0 rv_5 kv_X3_hasSharers ml_X3_201 (tRm_ok (by omega) (by omega)) rfl hl.1 rfl (Nat.le_of_ble_eq_true rfl) ⟨Nat.zero_le _, Nat.zero_le _⟩ dX3_layLine_68) (fun r36 pr36 => ?_)
      have pr36 : 0 ≤ r36.toInt ∧ r36.toInt ≤ 1 := pr36
      refine lv_if_eq (tgt := 78) hx hb dX3_layLine_71 (by decide) (fun c37 => ?_) (fun c37 => ?_)
      · skip
        have ic37 := tn_eq rfl kI_0 c37
        exact J78 H locs ls (a3) v4 vs0 z34 hG (lv_sub hl [2, 3, 4, 5, 6, 1, 0] rfl) e3 (by omega) (by omega)
      · skip
        have ic37 := tn_ne rfl kI_0 c37
        refine lv_iconst (v := 1) hx hb dX3_layLine_74 (by decide) ?_
        refine lv_goto (tgt := 79) hx hb dX3_layLine_75 (by decide) ?_
        exact J79 H locs ls (a3) v4 vs0 z34 (1 : Int32) hG (lv_sub hl [2, 3, 4, 5, 6, 1, 0] rfl) e3 (by omega) (by omega) (by decide) (by decide)
  have J19 : ∀ (H : Heap) (locs : List Loc) (ls : Array Slot) (a3 : Nat) (vs0 : Int32), hGH G F τ s H locs → lv_has ls 10 [(0, .ref h0), (1, .ref h1), (2, .int x2), (3, .ref a3)] → τ a3 = 4 → 0 ≤ vs0.toInt → vs0.toInt ≤ 1 → W p l e (tRm (42 * d + 43) (541 * d + 1581)) s m ([.ref h0, .ref h1, .int x2] : List Value).toArray below meth c H locs 0 0 (MQ below (tQG G τ (fun F9 => HRx F F9 (G.2.2.1 10))) ([.ref h0, .ref h1, .int x2] : List Value).toArray s 0 0 (tA τ)) (F0 m 19 ls [.int vs0]) := by
    intro H locs ls a3 vs0 hG hl e3 bs0 cs0
    refine lv_istore (lv' := [(4, .int vs0), (0, .ref h0), (1, .ref h1), (2, .int x2), (3, .ref a3)]) hx hb dX3_layLine_19 hl (by decide) rfl (fun ls hl => ?_)
    refine lv_iload hx hb dX3_layLine_21 (lv_at hl 0 rfl) ?_
    refine lv_if_eq (tgt := 33) hx hb dX3_layLine_23 (by decide) (fun c38 => ?_) (fun c38 => ?_)
    · skip
      have ic38 := tn_eq rfl kI_0 c38
      refine lv_aload_n hx hb dX3_layLine_33 rfl (lv_at hl 4 rfl) ?_
      refine hc_geti E hG e3 fi_X3_74 dX3_layLine_34 (fun z39 _ _ => ?_)
      exact J37 H locs ls (a3) vs0 z39 hG (lv_sub hl [1, 2, 3, 4, 0] rfl) e3 (by omega) (by omega)
    · skip
      have ic38 := tn_ne rfl kI_0 c38
      refine lv_aload_n hx hb dX3_layLine_26 rfl (lv_at hl 4 rfl) ?_
      refine hc_geti E hG e3 fi_X3_68 dX3_layLine_27 (fun z40 _ _ => ?_)
      refine lv_goto (tgt := 37) hx hb dX3_layLine_30 (by decide) ?_
      exact J37 H locs ls (a3) vs0 z40 hG (lv_sub hl [1, 2, 3, 4, 0] rfl) e3 (by omega) (by omega)
  refine lv_aload_n hx hb dX3_layLine_0 rfl (lv_at hl 1 rfl) ?_
  refine hc_getr E hG t1 fr_X3_57 dX3_layLine_1 (fun oa41 hoa41 => ?_)
  refine lv_astore_n (lv' := [(3, .ref oa41), (0, .ref h0), (1, .ref h1), (2, .int x2)]) hx hb dX3_layLine_4 rfl hl (by decide) rfl (fun ls hl => ?_)
  refine lv_aload_n hx hb dX3_layLine_5 rfl (lv_at hl 2 rfl) ?_
  refine hc_geti E hG t1 fi_X3_108 dX3_layLine_6 (fun z42 _ _ => ?_)
  refine lv_bipush (v := 8) hx hb dX3_layLine_9 (by decide) ?_
  refine lv_icmp_ne (tgt := 18) hx hb dX3_layLine_11 (by decide) (fun c43 => ?_) (fun c43 => ?_)
  · skip
    have ic43 := tn_ne rfl kI_8 c43
    refine lv_iconst (v := 0) hx hb dX3_layLine_18 (by decide) ?_
    exact J19 H locs ls (oa41) (0 : Int32) hG (lv_sub hl [1, 2, 3, 0] rfl) hoa41 (by decide) (by decide)
  · skip
    have ic43 := tn_eq rfl kI_8 c43
    refine lv_iconst (v := 1) hx hb dX3_layLine_14 (by decide) ?_
    refine lv_goto (tgt := 19) hx hb dX3_layLine_15 (by decide) ?_
    exact J19 H locs ls (oa41) (1 : Int32) hG (lv_sub hl [1, 2, 3, 0] rfl) hoa41 (by decide) (by decide)

set_option maxHeartbeats 4000000 in
set_option maxRecDepth 100000 in
theorem h_X3_layByKind (l : Launch) (G : tG) (F : mF) (τ : Nat → Nat) (h0 : Nat) (h1 : Nat) (x2 : Int32) (t0 : τ h0 = 5) (t1 : τ h1 = 3) (l2 : 0 ≤ x2.toInt) (u2 : x2.toInt ≤ 23) (d : Nat) (ih : P_lay d τ l G) (hd : (24 - x2.toInt).toNat < d + 1) (hU : ∀ q, τ q = 2 → q = (G.2.2.1 10)) (hK : AKF F (G.2.2.1 10)) (hC : CINV F (G.2.2.1 10)) (hL : LOK F (G.2.2.1 10) h1 x2.toInt) : Met l yX3_layByKind (.code yX3_layByKind cX3_layByKind 3 none :: tWS) (tRm (42 * d + 81) (541 * d + 2019)) (va_Pc [.ref h0, .ref h1, .int x2] (tPre (gF G F) τ)) (tQG G τ (fun F9 => HRx F F9 (G.2.2.1 10))) 0 0 (tA τ) := by
  refine tc_met (by decide) (Nat.le_of_ble_eq_true rfl) ?_
  intro p e s m below meth c E hSt hr hlk hG ls hl
  have hl : lv_has ls 3 [(0, .ref h0), (1, .ref h1), (2, .int x2)] := hl
  have hx := E.1
  have hb := E.2.1
  obtain ⟨H, eH⟩ : ∃ H, H = s.heap := ⟨_, rfl⟩
  obtain ⟨locs, eL⟩ : ∃ x : List Loc, x = [] := ⟨_, rfl⟩
  have hG : hGH G F τ s H locs := ⟨F, HRx.refl hC, by rw [eH, eL]; exact hG⟩
  suffices hW : W p l e (tRm (42 * d + 81) (541 * d + 2019)) s m ([.ref h0, .ref h1, .int x2] : List Value).toArray below meth c H locs 0 0 (MQ below (tQG G τ (fun F9 => HRx F F9 (G.2.2.1 10))) ([.ref h0, .ref h1, .int x2] : List Value).toArray s 0 0 (tA τ)) (F0 m 0 ls []) by subst eH; subst eL; exact hW
  clear eH eL
  obtain ⟨n9, hn9, hA9, en9, hd9⟩ := id hL
  refine lv_aload_n hx hb dX3_layByKind_0 rfl (lv_at hl 1 rfl) ?_
  refine hc_geti E hG t1 fi_X3_108 dX3_layByKind_1 (fun z1 _ _ => ?_)
  rcases (show (z1.toInt < 0 ∨ 7 < z1.toInt) ∨ z1.toInt = 0 ∨ z1.toInt = 1 ∨ z1.toInt = 2 ∨ z1.toInt = 3 ∨ z1.toInt = 4 ∨ z1.toInt = 5 ∨ z1.toInt = 6 ∨ z1.toInt = 7 by omega) with k2 | k2 | k2 | k2 | k2 | k2 | k2 | k2 | k2
  · refine lv_tableOut (tgt := 136) hx hb dX3_layByKind_4 k2 (by decide) ?_
    refine lv_aload_n hx hb dX3_layByKind_136 rfl (lv_at hl 0 rfl) ?_
    refine lv_aload_n hx hb dX3_layByKind_137 rfl (lv_at hl 1 rfl) ?_
    refine lv_iload_n hx hb dX3_layByKind_138 rfl (lv_at hl 2 rfl) ?_
    refine hc_callvF hG (fun Fq hRq hG => tc_runV (As := [.ref h1, .int x2]) (rest := []) (E.f1 (F' := Fq)) (hSt.f1 (F' := Fq)) hG (h_X3_layLine l G Fq τ h0 h1 x2 t0 t1 (by omega) (by omega) d ih (by omega) hU (AKF_fr hRq.1 hK) hRq.2 (LOK_fr hRq.1 hL)) t0 rv_5 kv_X3_layLine ml_X3_141 (tRm_ok (by omega) (by omega)) rfl hl.1 rfl (Nat.le_of_ble_eq_true rfl) ⟨Nat.zero_le _, Nat.zero_le _⟩ dX3_layByKind_139) (fun _ _ h => h) (fun H locs hG => ?_)
    exact hc_vret E hr hlk hG dX3_layByKind_142
  · refine lv_tableIn (off := 48) (tgt := 52) hx hb dX3_layByKind_4 (by rw [k2]; decide) (by rw [k2]; decide) (by rw [k2]; rfl) (by decide) ?_
    refine lv_aload_n hx hb dX3_layByKind_52 rfl (lv_at hl 1 rfl) ?_
    refine hc_getr E hG t1 fr_X3_57 dX3_layByKind_53 (fun oa4 hoa4 => ?_)
    refine lv_aload_n hx hb dX3_layByKind_56 rfl (lv_at hl 1 rfl) ?_
    refine hc_getr E hG t1 fr_X3_111 dX3_layByKind_57 (fun oa5 hoa5 => ?_)
    refine lv_iconst (v := 0) hx hb dX3_layByKind_60 (by decide) ?_
    refine hc_iald E hG hoa5 ta_11 (t_in (by decide) (by decide)) dX3_layByKind_61 (fun z6 _ _ => ?_)
    refine lv_aload_n hx hb dX3_layByKind_62 rfl (lv_at hl 1 rfl) ?_
    refine hc_getr E hG t1 fr_X3_111 dX3_layByKind_63 (fun oa7 hoa7 => ?_)
    refine lv_iconst (v := 1) hx hb dX3_layByKind_66 (by decide) ?_
    refine hc_iald E hG hoa7 ta_11 (t_in (by decide) (by decide)) dX3_layByKind_67 (fun z8 _ _ => ?_)
    refine hc_callv hG (fun Fq hRq hG => tc_runV (As := [.int z6, .int z8]) (rest := []) (E.f1 (F' := Fq)) (hSt.f1 (F' := Fq)) hG (c_X2_sizeTo l (gF G Fq) τ oa4 z6 z8 hoa4) hoa4 rv_4 kv_X2_sizeTo ml_X3_115 (tRm_ok (by omega) (by omega)) rfl hl.1 rfl (Nat.le_of_ble_eq_true rfl) ⟨Nat.zero_le _, Nat.zero_le _⟩ dX3_layByKind_68) (fun H locs hG => ?_)
    refine lv_goto (tgt := 142) hx hb dX3_layByKind_71 (by decide) ?_
    exact hc_vret E hr hlk hG dX3_layByKind_142
  · refine lv_tableIn (off := 70) (tgt := 74) hx hb dX3_layByKind_4 (by rw [k2]; decide) (by rw [k2]; decide) (by rw [k2]; rfl) (by decide) ?_
    refine lv_aload_n hx hb dX3_layByKind_74 rfl (lv_at hl 0 rfl) ?_
    refine lv_aload_n hx hb dX3_layByKind_75 rfl (lv_at hl 1 rfl) ?_
    refine hc_callv hG (fun Fq hRq hG => tc_runV (As := [.ref h1]) (rest := []) (E.f1 (F' := Fq)) (hSt.f1 (F' := Fq)) hG (c_X3_layText l (gF G Fq) τ h0 h1 t0 t1) t0 rv_5 kv_X3_layText ml_X3_119 (tRm_ok (by omega) (by omega)) rfl hl.1 rfl (Nat.le_of_ble_eq_true rfl) ⟨Nat.zero_le _, Nat.zero_le _⟩ dX3_layByKind_76) (fun H locs hG => ?_)
    refine lv_goto (tgt := 142) hx hb dX3_layByKind_79 (by decide) ?_
    exact hc_vret E hr hlk hG dX3_layByKind_142
  · refine lv_tableIn (off := 78) (tgt := 82) hx hb dX3_layByKind_4 (by rw [k2]; decide) (by rw [k2]; decide) (by rw [k2]; rfl) (by decide) ?_
    refine lv_aload_n hx hb dX3_layByKind_82 rfl (lv_at hl 0 rfl) ?_
    refine lv_aload_n hx hb dX3_layByKind_83 rfl (lv_at hl 1 rfl) ?_
    refine lv_iload_n hx hb dX3_layByKind_84 rfl (lv_at hl 2 rfl) ?_
    refine hc_callvF hG (fun Fq hRq hG => tc_runV (As := [.ref h1, .int x2]) (rest := []) (E.f1 (F' := Fq)) (hSt.f1 (F' := Fq)) hG (h_X3_layPad l G Fq τ h0 h1 x2 t0 t1 (by omega) (by omega) d ih (by omega) hU (AKF_fr hRq.1 hK) hRq.2 (LOK_fr hRq.1 hL)) t0 rv_5 kv_X3_layPad ml_X3_123 (tRm_ok (by omega) (by omega)) rfl hl.1 rfl (Nat.le_of_ble_eq_true rfl) ⟨Nat.zero_le _, Nat.zero_le _⟩ dX3_layByKind_85) (fun _ _ h => h) (fun H locs hG => ?_)
    refine lv_goto (tgt := 142) hx hb dX3_layByKind_88 (by decide) ?_
    exact hc_vret E hr hlk hG dX3_layByKind_142
  · refine lv_tableIn (off := 87) (tgt := 91) hx hb dX3_layByKind_4 (by rw [k2]; decide) (by rw [k2]; decide) (by rw [k2]; rfl) (by decide) ?_
    refine lv_aload_n hx hb dX3_layByKind_91 rfl (lv_at hl 0 rfl) ?_
    refine lv_aload_n hx hb dX3_layByKind_92 rfl (lv_at hl 1 rfl) ?_
    refine lv_iload_n hx hb dX3_layByKind_93 rfl (lv_at hl 2 rfl) ?_
    refine hc_callvF hG (fun Fq hRq hG => tc_runV (As := [.ref h1, .int x2]) (rest := []) (E.f1 (F' := Fq)) (hSt.f1 (F' := Fq)) hG (h_X3_layLimit l G Fq τ h0 h1 x2 t0 t1 (by omega) (by omega) d ih (by omega) hU (AKF_fr hRq.1 hK) hRq.2 (LOK_fr hRq.1 hL)) t0 rv_5 kv_X3_layLimit ml_X3_126 (tRm_ok (by omega) (by omega)) rfl hl.1 rfl (Nat.le_of_ble_eq_true rfl) ⟨Nat.zero_le _, Nat.zero_le _⟩ dX3_layByKind_94) (fun _ _ h => h) (fun H locs hG => ?_)
    refine lv_goto (tgt := 142) hx hb dX3_layByKind_97 (by decide) ?_
    exact hc_vret E hr hlk hG dX3_layByKind_142
  · refine lv_tableIn (off := 96) (tgt := 100) hx hb dX3_layByKind_4 (by rw [k2]; decide) (by rw [k2]; decide) (by rw [k2]; rfl) (by decide) ?_
    refine lv_aload_n hx hb dX3_layByKind_100 rfl (lv_at hl 0 rfl) ?_
    refine lv_aload_n hx hb dX3_layByKind_101 rfl (lv_at hl 1 rfl) ?_
    refine lv_iload_n hx hb dX3_layByKind_102 rfl (lv_at hl 2 rfl) ?_
    refine hc_callvF hG (fun Fq hRq hG => tc_runV (As := [.ref h1, .int x2]) (rest := []) (E.f1 (F' := Fq)) (hSt.f1 (F' := Fq)) hG (h_X3_layCentre l G Fq τ h0 h1 x2 t0 t1 (by omega) (by omega) d ih (by omega) hU (AKF_fr hRq.1 hK) hRq.2 (LOK_fr hRq.1 hL)) t0 rv_5 kv_X3_layCentre ml_X3_129 (tRm_ok (by omega) (by omega)) rfl hl.1 rfl (Nat.le_of_ble_eq_true rfl) ⟨Nat.zero_le _, Nat.zero_le _⟩ dX3_layByKind_103) (fun _ _ h => h) (fun H locs hG => ?_)
    refine lv_goto (tgt := 142) hx hb dX3_layByKind_106 (by decide) ?_
    exact hc_vret E hr hlk hG dX3_layByKind_142
  · refine lv_tableIn (off := 105) (tgt := 109) hx hb dX3_layByKind_4 (by rw [k2]; decide) (by rw [k2]; decide) (by rw [k2]; rfl) (by decide) ?_
    refine lv_aload_n hx hb dX3_layByKind_109 rfl (lv_at hl 0 rfl) ?_
    refine lv_aload_n hx hb dX3_layByKind_110 rfl (lv_at hl 1 rfl) ?_
    refine lv_iload_n hx hb dX3_layByKind_111 rfl (lv_at hl 2 rfl) ?_
    refine hc_callvF hG (fun Fq hRq hG => tc_runV (As := [.ref h1, .int x2]) (rest := []) (E.f1 (F' := Fq)) (hSt.f1 (F' := Fq)) hG (h_X3_layFit l G Fq τ h0 h1 x2 t0 t1 (by omega) (by omega) d ih (by omega) hU (AKF_fr hRq.1 hK) hRq.2 (LOK_fr hRq.1 hL)) t0 rv_5 kv_X3_layFit ml_X3_132 (tRm_ok (by omega) (by omega)) rfl hl.1 rfl (Nat.le_of_ble_eq_true rfl) ⟨Nat.zero_le _, Nat.zero_le _⟩ dX3_layByKind_112) (fun _ _ h => h) (fun H locs hG => ?_)
    refine lv_goto (tgt := 142) hx hb dX3_layByKind_115 (by decide) ?_
    exact hc_vret E hr hlk hG dX3_layByKind_142
  · refine lv_tableIn (off := 114) (tgt := 118) hx hb dX3_layByKind_4 (by rw [k2]; decide) (by rw [k2]; decide) (by rw [k2]; rfl) (by decide) ?_
    refine lv_aload_n hx hb dX3_layByKind_118 rfl (lv_at hl 0 rfl) ?_
    refine lv_aload_n hx hb dX3_layByKind_119 rfl (lv_at hl 1 rfl) ?_
    refine lv_iload_n hx hb dX3_layByKind_120 rfl (lv_at hl 2 rfl) ?_
    refine hc_callvF hG (fun Fq hRq hG => tc_runV (As := [.ref h1, .int x2]) (rest := []) (E.f1 (F' := Fq)) (hSt.f1 (F' := Fq)) hG (h_X3_layRatio l G Fq τ h0 h1 x2 t0 t1 (by omega) (by omega) d ih (by omega) hU (AKF_fr hRq.1 hK) hRq.2 (LOK_fr hRq.1 hL)) t0 rv_5 kv_X3_layRatio ml_X3_135 (tRm_ok (by omega) (by omega)) rfl hl.1 rfl (Nat.le_of_ble_eq_true rfl) ⟨Nat.zero_le _, Nat.zero_le _⟩ dX3_layByKind_121) (fun _ _ h => h) (fun H locs hG => ?_)
    refine lv_goto (tgt := 142) hx hb dX3_layByKind_124 (by decide) ?_
    exact hc_vret E hr hlk hG dX3_layByKind_142
  · refine lv_tableIn (off := 123) (tgt := 127) hx hb dX3_layByKind_4 (by rw [k2]; decide) (by rw [k2]; decide) (by rw [k2]; rfl) (by decide) ?_
    refine lv_aload_n hx hb dX3_layByKind_127 rfl (lv_at hl 0 rfl) ?_
    refine lv_aload_n hx hb dX3_layByKind_128 rfl (lv_at hl 1 rfl) ?_
    refine lv_iload_n hx hb dX3_layByKind_129 rfl (lv_at hl 2 rfl) ?_
    refine hc_callvF hG (fun Fq hRq hG => tc_runV (As := [.ref h1, .int x2]) (rest := []) (E.f1 (F' := Fq)) (hSt.f1 (F' := Fq)) hG (h_X3_layLayers l G Fq τ h0 h1 x2 t0 t1 (by omega) (by omega) d ih (by omega) hU (AKF_fr hRq.1 hK) hRq.2 (LOK_fr hRq.1 hL)) t0 rv_5 kv_X3_layLayers ml_X3_138 (tRm_ok (by omega) (by omega)) rfl hl.1 rfl (Nat.le_of_ble_eq_true rfl) ⟨Nat.zero_le _, Nat.zero_le _⟩ dX3_layByKind_130) (fun _ _ h => h) (fun H locs hG => ?_)
    refine lv_goto (tgt := 142) hx hb dX3_layByKind_133 (by decide) ?_
    exact hc_vret E hr hlk hG dX3_layByKind_142

set_option maxHeartbeats 4000000 in
set_option maxRecDepth 100000 in
theorem h_X3_lay (l : Launch) (G : tG) (τ : Nat → Nat) : ∀ (d : Nat) (F : mF) (h0 : Nat) (h1 : Nat) (x2 : Int32) (x3 : Int32) (x4 : Int32) (x5 : Int32) (x6 : Int32) (t0 : τ h0 = 5) (t1 : τ h1 = 3) (l6 : 0 ≤ x6.toInt) (hd : (24 - x6.toInt).toNat < d) (hU : ∀ q, τ q = 2 → q = (G.2.2.1 10)) (hK : AKF F (G.2.2.1 10)) (hC : CINV F (G.2.2.1 10)) (hL : LOK F (G.2.2.1 10) h1 x6.toInt), Met l yX3_lay (.code yX3_lay cX3_lay 8 none :: tWS) (tRm (42 * d + 40) (541 * d + 1500)) (va_Pc [.ref h0, .ref h1, .int x2, .int x3, .int x4, .int x5, .int x6] (tPre (gF G F) τ)) (tQG G τ (fun F9 => HRx F F9 (G.2.2.1 10))) 0 0 (tA τ) := by
  intro d
  induction d with
  | zero => intro F h0 h1 x2 x3 x4 x5 x6 t0 t1 l6 hd hU hK hC hL; exact absurd hd (Nat.not_lt_zero _)
  | succ d ih =>
  intro F h0 h1 x2 x3 x4 x5 x6 t0 t1 l6 hd hU hK hC hL
  refine tc_met (by decide) (Nat.le_of_ble_eq_true rfl) ?_
  intro p e s m below meth c E hSt hr hlk hG ls hl
  have hl : lv_has ls 8 [(0, .ref h0), (1, .ref h1), (2, .int x2), (3, .int x3), (4, .int x4), (5, .int x5), (6, .int x6)] := hl
  have hx := E.1
  have hb := E.2.1
  obtain ⟨H, eH⟩ : ∃ H, H = s.heap := ⟨_, rfl⟩
  obtain ⟨locs, eL⟩ : ∃ x : List Loc, x = [] := ⟨_, rfl⟩
  have hG : hGH G F τ s H locs := ⟨F, HRx.refl hC, by rw [eH, eL]; exact hG⟩
  suffices hW : W p l e (tRm (42 * (d + 1) + 40) (541 * (d + 1) + 1500)) s m ([.ref h0, .ref h1, .int x2, .int x3, .int x4, .int x5, .int x6] : List Value).toArray below meth c H locs 0 0 (MQ below (tQG G τ (fun F9 => HRx F F9 (G.2.2.1 10))) ([.ref h0, .ref h1, .int x2, .int x3, .int x4, .int x5, .int x6] : List Value).toArray s 0 0 (tA τ)) (F0 m 0 ls []) by subst eH; subst eL; exact hW
  clear eH eL
  obtain ⟨n9, hn9, hA9, en9, hd9⟩ := id hL
  have J49 : ∀ (H : Heap) (locs : List Loc) (ls : Array Slot), hGH G F τ s H locs → lv_has ls 8 [(0, .ref h0), (1, .ref h1), (2, .int x2), (3, .int x3), (4, .int x4), (5, .int x5), (6, .int x6)] → x6.toInt ≤ 23 → W p l e (tRm (42 * (d + 1) + 40) (541 * (d + 1) + 1500)) s m ([.ref h0, .ref h1, .int x2, .int x3, .int x4, .int x5, .int x6] : List Value).toArray below meth c H locs 0 0 (MQ below (tQG G τ (fun F9 => HRx F F9 (G.2.2.1 10))) ([.ref h0, .ref h1, .int x2, .int x3, .int x4, .int x5, .int x6] : List Value).toArray s 0 0 (tA τ)) (F0 m 49 ls []) := by
    intro H locs ls hG hl cp6
    refine lv_iconst (v := 1) hx hb dX3_lay_49 (by decide) ?_
    refine lv_aload_n hx hb dX3_lay_50 rfl (lv_at hl 1 rfl) ?_
    refine hc_geti E hG t1 fi_X3_87 dX3_lay_51 (fun z1 lz1 uz1 => ?_)
    refine lv_ishl hx hb dX3_lay_54 ?_
    refine lv_topi (fun z2 ez2 => ?_)
    refine lv_istore (lv' := [(7, .int z2), (0, .ref h0), (1, .ref h1), (2, .int x2), (3, .int x3), (4, .int x4), (5, .int x5), (6, .int x6)]) hx hb dX3_lay_55 hl (by decide) rfl (fun ls hl => ?_)
    refine lv_aload_n hx hb dX3_lay_57 rfl (lv_at hl 1 rfl) ?_
    refine lv_dup hx hb dX3_lay_58 rfl ?_
    refine hc_geti E hG t0 fi_X3_15 dX3_lay_59 (fun z3 _ _ => ?_)
    refine lv_iconst (v := 1) hx hb dX3_lay_62 (by decide) ?_
    refine lv_iadd hx hb dX3_lay_63 ?_
    refine lv_topi (fun z4 ez4 => ?_)
    refine hc_puti E hG t0 fp_X3_15 (t_any1 _) (t_any2 _) dX3_lay_64 (fun H locs hG => ?_)
    refine lv_aload_n hx hb dX3_lay_67 rfl (lv_at hl 1 rfl) ?_
    refine lv_dup hx hb dX3_lay_68 rfl ?_
    refine hc_geti E hG t0 fi_X3_22 dX3_lay_69 (fun z5 _ _ => ?_)
    refine lv_iload hx hb dX3_lay_72 (lv_at hl 0 rfl) ?_
    refine lv_ior hx hb dX3_lay_74 ?_
    refine lv_topi (fun z6 ez6 => ?_)
    refine hc_puti E hG t0 fp_X3_22 (t_any1 _) (t_any2 _) dX3_lay_75 (fun H locs hG => ?_)
    refine lv_aload_n hx hb dX3_lay_78 rfl (lv_at hl 2 rfl) ?_
    refine hc_getr E hG t1 fr_X3_57 dX3_lay_79 (fun oa7 hoa7 => ?_)
    refine lv_iload_n hx hb dX3_lay_82 rfl (lv_at hl 3 rfl) ?_
    refine lv_iload_n hx hb dX3_lay_83 rfl (lv_at hl 4 rfl) ?_
    refine lv_iload hx hb dX3_lay_84 (lv_at hl 5 rfl) ?_
    refine lv_iload hx hb dX3_lay_86 (lv_at hl 6 rfl) ?_
    refine hc_callv hG (fun Fq hRq hG => tc_runV (As := [.int x2, .int x3, .int x4, .int x5]) (rest := []) (E.f1 (F' := Fq)) (hSt.f1 (F' := Fq)) hG (c_X2_begin l (gF G Fq) τ oa7 x2 x3 x4 x5 hoa7) hoa7 rv_4 kv_X2_begin ml_X3_97 (tRm_ok (by omega) (by omega)) rfl hl.1 rfl (Nat.le_of_ble_eq_true rfl) ⟨Nat.zero_le _, Nat.zero_le _⟩ dX3_lay_88) (fun H locs hG => ?_)
    refine lv_aload_n hx hb dX3_lay_91 rfl (lv_at hl 1 rfl) ?_
    refine lv_aload_n hx hb dX3_lay_92 rfl (lv_at hl 2 rfl) ?_
    refine lv_iload hx hb dX3_lay_93 (lv_at hl 7 rfl) ?_
    refine hc_callvF hG (fun Fq hRq hG => tc_runV (As := [.ref h1, .int x6]) (rest := []) (E.f1 (F' := Fq)) (hSt.f1 (F' := Fq)) hG (h_X3_layByKind l G Fq τ h0 h1 x6 t0 t1 (by omega) (by omega) d ih (by omega) hU (AKF_fr hRq.1 hK) hRq.2 (LOK_fr hRq.1 hL)) t0 rv_5 kv_X3_layByKind ml_X3_101 (tRm_ok (by omega) (by omega)) rfl hl.1 rfl (Nat.le_of_ble_eq_true rfl) ⟨Nat.zero_le _, Nat.zero_le _⟩ dX3_lay_95) (fun _ _ h => h) (fun H locs hG => ?_)
    refine lv_aload_n hx hb dX3_lay_98 rfl (lv_at hl 1 rfl) ?_
    refine hc_getr E hG t0 fr_X3_9 dX3_lay_99 (fun oa10 hoa10 => ?_)
    obtain rfl := hU _ hoa10
    refine lv_dup hx hb dX3_lay_102 rfl ?_
    refine hc_geti E hG hoa10 fi_X3_51 dX3_lay_103 (fun z11 _ _ => ?_)
    refine lv_iload hx hb dX3_lay_106 (lv_at hl 0 rfl) ?_
    refine lv_iconst (v := -1) hx hb dX3_lay_108 (by decide) ?_
    refine lv_ixor hx hb dX3_lay_109 ?_
    refine lv_topi (fun z12 ez12 => ?_)
    refine lv_iand hx hb dX3_lay_110 ?_
    refine lv_topi (fun z13 ez13 => ?_)
    refine hc_puti E hG hoa10 fp_X3_51 (t_any1 _) (t_any2 _) dX3_lay_111 (fun H locs hG => ?_)
    refine lv_aload_n hx hb dX3_lay_114 rfl (lv_at hl 1 rfl) ?_
    refine hc_getr E hG t0 fr_X3_9 dX3_lay_115 (fun oa14 hoa14 => ?_)
    obtain rfl := hU _ hoa14
    refine lv_dup hx hb dX3_lay_118 rfl ?_
    refine hc_geti E hG hoa14 fi_X3_105 dX3_lay_119 (fun z15 _ _ => ?_)
    refine lv_iload hx hb dX3_lay_122 (lv_at hl 0 rfl) ?_
    refine lv_iconst (v := -1) hx hb dX3_lay_124 (by decide) ?_
    refine lv_ixor hx hb dX3_lay_125 ?_
    refine lv_topi (fun z16 ez16 => ?_)
    refine lv_iand hx hb dX3_lay_126 ?_
    refine lv_topi (fun z17 ez17 => ?_)
    refine hc_puti E hG hoa14 fp_X3_105 (t_any1 _) (t_any2 _) dX3_lay_127 (fun H locs hG => ?_)
    exact hc_vret E hr hlk hG dX3_lay_130
  refine lv_iload hx hb dX3_lay_0 (lv_at hl 6 rfl) ?_
  refine lv_bipush (v := 24) hx hb dX3_lay_2 (by decide) ?_
  refine lv_icmp_lt (tgt := 8) hx hb dX3_lay_4 (by decide) (fun c18 => ?_) (fun c18 => ?_)
  · skip
    have ic18 := tn_lt rfl kI_24 c18
    refine lv_aload_n hx hb dX3_lay_8 rfl (lv_at hl 0 rfl) ?_
    refine hc_getr E hG t0 fr_X3_9 dX3_lay_9 (fun oa19 hoa19 => ?_)
    obtain rfl := hU _ hoa19
    refine lv_aload_n hx hb dX3_lay_12 rfl (lv_at hl 1 rfl) ?_
    refine hc_geti E hG t1 fi_X3_87 dX3_lay_13 (fun z20 lz20 uz20 => ?_)
    refine hc_callp hG (fun Fq hRq hG => tc_runV (As := [.int z20]) (rest := []) (E.f1 (F' := Fq)) (hSt.f1 (F' := Fq)) hG (c_X8_isDirty l (gF G Fq) τ (G.2.2.1 10) z20 hoa19) hoa19 rv_2 kv_X8_isDirty ml_X3_90 (tRm_ok (by omega) (by omega)) rfl hl.1 rfl (Nat.le_of_ble_eq_true rfl) ⟨Nat.zero_le _, Nat.zero_le _⟩ dX3_lay_16) (fun r21 pr21 => ?_)
    have pr21 : 0 ≤ r21.toInt ∧ r21.toInt ≤ 1 := pr21
    refine lv_if_ne (tgt := 49) hx hb dX3_lay_19 (by decide) (fun c22 => ?_) (fun c22 => ?_)
    · skip
      have ic22 := tn_ne rfl kI_0 c22
      exact J49 H locs ls hG (lv_sub hl [0, 1, 2, 3, 4, 5, 6] rfl) (by omega)
    · skip
      have ic22 := tn_eq rfl kI_0 c22
      refine lv_aload_n hx hb dX3_lay_22 rfl (lv_at hl 1 rfl) ?_
      refine hc_getr E hG t1 fr_X3_57 dX3_lay_23 (fun oa23 hoa23 => ?_)
      refine lv_iload_n hx hb dX3_lay_26 rfl (lv_at hl 2 rfl) ?_
      refine lv_iload_n hx hb dX3_lay_27 rfl (lv_at hl 3 rfl) ?_
      refine lv_iload hx hb dX3_lay_28 (lv_at hl 4 rfl) ?_
      refine lv_iload hx hb dX3_lay_30 (lv_at hl 5 rfl) ?_
      refine hc_callp hG (fun Fq hRq hG => tc_runV (As := [.int x2, .int x3, .int x4, .int x5]) (rest := []) (E.f1 (F' := Fq)) (hSt.f1 (F' := Fq)) hG (c_X2_wasLaidBy l (gF G Fq) τ oa23 x2 x3 x4 x5 hoa23) hoa23 rv_4 kv_X2_wasLaidBy ml_X3_93 (tRm_ok (by omega) (by omega)) rfl hl.1 rfl (Nat.le_of_ble_eq_true rfl) ⟨Nat.zero_le _, Nat.zero_le _⟩ dX3_lay_32) (fun r24 pr24 => ?_)
      have pr24 : 0 ≤ r24.toInt ∧ r24.toInt ≤ 1 := pr24
      refine lv_if_eq (tgt := 49) hx hb dX3_lay_35 (by decide) (fun c25 => ?_) (fun c25 => ?_)
      · skip
        have ic25 := tn_eq rfl kI_0 c25
        exact J49 H locs ls hG (lv_sub hl [0, 1, 2, 3, 4, 5, 6] rfl) (by omega)
      · skip
        have ic25 := tn_ne rfl kI_0 c25
        refine lv_aload_n hx hb dX3_lay_38 rfl (lv_at hl 0 rfl) ?_
        refine lv_dup hx hb dX3_lay_39 rfl ?_
        refine hc_geti E hG t0 fi_X3_19 dX3_lay_40 (fun z26 _ _ => ?_)
        refine lv_iconst (v := 1) hx hb dX3_lay_43 (by decide) ?_
        refine lv_iadd hx hb dX3_lay_44 ?_
        refine lv_topi (fun z27 ez27 => ?_)
        refine hc_puti E hG t0 fp_X3_19 (t_any1 _) (t_any2 _) dX3_lay_45 (fun H locs hG => ?_)
        exact hc_vret E hr hlk hG dX3_lay_48
  · skip
    have ic18 := tn_nlt rfl kI_24 c18
    exact hc_vret E hr hlk hG dX3_lay_7
