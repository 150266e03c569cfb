/-! ===== the reference: screen, image, undo ===== -/
theorem cp_k {G : tG} {σ : Nat → Nat} {cu γ2 : Nat} {a : Nat → Option (Nat → Int32)} {F : mF} {s : State} {H : Heap} {locs : List Loc} {y1 y2 : Int32} (h23 : γ2 = 2 ∨ γ2 = 3) (e1 : F γ2 1 = y1) (e2 : F γ2 2 = y2) (hy1 : 0 ≤ y1.toInt) (hy2 : 0 ≤ y2.toInt) (hG : mGH (gDm G γ2) (σ, cu, kO (PD γ2) (qX a) F) s H locs) : mGH (gSm (gSm G γ2 1 y1) γ2 2 y2) (σ, cu, kO (PD γ2) (qX a) F) s H locs := by
  obtain ⟨h1, h2, h3⟩ := hG
  refine ⟨?_, h2, h3⟩
  rw [TH_gd] at h1
  rw [TH_gm, TH_gm]
  refine mTH.mk (fun q hq => (mTH.at h1 hq).to (fun k v hv => ⟨hv.1, fun hM y hy => ?_⟩))
  have hk := mMk_lt hM
  have hv1 : msv (σ, cu, kO (PD γ2) (qX a) F) (σ q) k v := hv.1
  have hv2 : mKn (gDm G γ2) (σ q) k v := hv.2
  have hM : mMk (σ q) k = true := hM
  have hy : km (gSm (gSm G γ2 1 y1) γ2 2 y2) (σ q) k = some y := hy
  by_cases e : σ q = γ2
  · rw [e] at hv1 hM hy
    have hc : mCu γ2 := by unfold mCu; omega
    unfold msv at hv1
    rw [mFD_cu hc] at hv1
    obtain ⟨x, rfl, -, -, hx⟩ := hv1
    have hx := hx _ (kO_in (X := qX a) (F := F) (c := γ2) (k := k) PD_c)
    rcases mMk_23 hM h23 with z | z
    · subst z
      rw [gSm_ne (Or.inr (by decide)) (by decide) (by decide), gSm_at hy1] at hy
      rw [hx, e1]; cases hy; rfl
    · subst z
      rw [gSm_at hy2] at hy
      rw [hx, e2]; cases hy; rfl
  · rw [gSm_ne (Or.inl e) (by decide) hk.2, gSm_ne (Or.inl e) (by decide) hk.2] at hy
    exact hv2 hM y (by rw [gDm_ne e hk.2]; exact hy)

set_option maxHeartbeats 4000000 in
set_option maxRecDepth 100000 in
theorem c_X10_screens2 (l : Launch) (G : tG) (σ : Nat → Nat) (a : Nat → Option (Nat → Int32)) (ta : Nat → Int32) (h0 : Nat) (x1 : Int32) (x2 : Int32) (t0 : σ h0 = 1) (l1 : 0 ≤ x1.toInt) (u1 : x1.toInt ≤ 200) (l2 : 0 ≤ x2.toInt) (u2 : x2.toInt ≤ 1000) (hIa : TInv ta) : Met l yX10_screens (.code yX10_screens cX10_screens 3 none :: tWS) (tRm 1 23) (va_Pc [.ref h0, .int x1, .int x2] (mPre G (σ, 2, qX (upA a 2 ta)))) (mQvX (gSm (gSm G 2 1 x1) 2 2 x2) (σ, 2, qX (upA a 2 ta)) (fun Z => ∃ t : Nat → Int32, Z = (σ, 2, qX (upA a 2 t)) ∧ AG ta t ∧ TInv t)) 0 0 (mA (σ, 2, qX (upA a 2 ta))) := by
  refine mc_met (by decide) (Nat.le_of_ble_eq_true rfl) ?_
  intro p e s m below meth c E hr hlk hG ls hl
  have hl : lv_has ls 3 [(0, .ref h0), (1, .int x1), (2, .int x2)] := hl
  have hx := E.1
  have hb := E.2.1
  obtain ⟨H, eH⟩ : ∃ H, H = s.heap := ⟨_, rfl⟩
  obtain ⟨locs, eL⟩ : ∃ x : List Loc, x = [] := ⟨_, rfl⟩
  have hG : mGH G (σ, 2, qX (upA a 2 ta)) s H locs := by rw [eH, eL]; exact hG
  suffices hW : W p l e (tRm 1 23) s m ([.ref h0, .int x1, .int x2] : List Value).toArray below meth c H locs 0 0 (MQ below (mQvX (gSm (gSm G 2 1 x1) 2 2 x2) (σ, 2, qX (upA a 2 ta)) (fun Z => ∃ t : Nat → Int32, Z = (σ, 2, qX (upA a 2 t)) ∧ AG ta t ∧ TInv t)) ([.ref h0, .int x1, .int x2] : List Value).toArray s 0 0 (mA (σ, 2, qX (upA a 2 ta)))) (F0 m 0 ls []) by subst eH; subst eL; exact hW
  clear eH eL
  have hcu : mCu 2 := hG.2.2.1
  have hI := hIa
  refine lv_aload_n hx hb dX10_screens_0 rfl (lv_at hl 0 rfl) ?_
  refine mc_getn E hG t0 ff_X10_9 dX10_screens_1 (fun oa1 hoa1 => ?_)
  refine lv_iconst (v := 1) hx hb dX10_screens_4 (by decide) ?_
  refine lv_iload_n hx hb dX10_screens_5 rfl (lv_at hl 1 rfl) ?_
  refine mc_nastK E hG hoa1 hG.2.2.1 (qX_nk (mCu_20 hcu) rfl) (t_in (by decide) (by decide)) (lo := 0) (hi := 200) rfl (by omega) (by omega) (by omega) (by decide) dX10_screens_6 (fun H locs hG => ?_)
  have E := E.gm (t := 2) (k := 1) (x := x1)
  replace hG : mGH (gSm G 2 1 x1) (σ, 2, qX (upA a 2 ta)) s H locs := hG
  refine lv_aload_n hx hb dX10_screens_7 rfl (lv_at hl 0 rfl) ?_
  refine mc_getn E hG t0 ff_X10_9 dX10_screens_8 (fun oa2 hoa2 => ?_)
  refine lv_iconst (v := 2) hx hb dX10_screens_11 (by decide) ?_
  refine lv_iload_n hx hb dX10_screens_12 rfl (lv_at hl 2 rfl) ?_
  refine mc_nastK E hG hoa2 hG.2.2.1 (qX_nk (mCu_20 hcu) rfl) (t_in (by decide) (by decide)) (lo := 0) (hi := 1000) rfl (by omega) (by omega) (by omega) (by decide) dX10_screens_13 (fun H locs hG => ?_)
  have E := E.gm (t := 2) (k := 2) (x := x2)
  replace hG : mGH (gSm (gSm G 2 1 x1) 2 2 x2) (σ, 2, qX (upA a 2 ta)) s H locs := hG
  refine lv_aload_n hx hb dX10_screens_14 rfl (lv_at hl 0 rfl) ?_
  refine mc_getn E hG t0 ff_X10_9 dX10_screens_15 (fun oa3 hoa3 => ?_)
  refine lv_iconst (v := 0) hx hb dX10_screens_18 (by decide) ?_
  refine mc_nald E hG hoa3 hG.2.2.1 (t_in (by decide) (by decide)) dX10_screens_19 (fun z4 lz4 uz4 qz4 => ?_)
  have lz4 : -1 ≤ z4.toInt := lz4
  have uz4 : z4.toInt ≤ 23 := uz4
  have wz4 : z4 = ta 0 := qz4 _ (show qX (upA a 2 ta) 2 0 = some (ta 0) from qX_at hcu upA_at rfl)
  have cz4 : z4.toInt = (ta 0).toInt := by rw [wz4]
  refine lv_if_lt (tgt := 49) hx hb dX10_screens_20 (by decide) (fun c5 => ?_) (fun c5 => ?_)
  · skip
    have ic5 := tn_lt rfl kI_0 c5
    exact mc_vretX E hr hlk hG rfl ⟨_, rfl, AG.refl, hI⟩ dX10_screens_49
  · skip
    have ic5 := tn_nlt rfl kI_0 c5
    refine lv_aload_n hx hb dX10_screens_23 rfl (lv_at hl 0 rfl) ?_
    refine lv_aload_n hx hb dX10_screens_24 rfl (lv_at hl 0 rfl) ?_
    refine mc_getn E hG t0 ff_X10_9 dX10_screens_25 (fun oa6 hoa6 => ?_)
    refine lv_iconst (v := 0) hx hb dX10_screens_28 (by decide) ?_
    refine mc_nald E hG hoa6 hG.2.2.1 (t_in (by decide) (by decide)) dX10_screens_29 (fun z7 lz7 uz7 qz7 => ?_)
    have lz7 : -1 ≤ z7.toInt := lz7
    have uz7 : z7.toInt ≤ 23 := uz7
    have wz7 : z7 = ta 0 := qz7 _ (show qX (upA a 2 ta) 2 0 = some (ta 0) from qX_at hcu upA_at rfl)
    have cz7 : z7.toInt = (ta 0).toInt := by rw [wz7]
    refine lv_bipush (v := 19) hx hb dX10_screens_30 (by decide) ?_
    refine lv_iconst (v := 1) hx hb dX10_screens_32 (by decide) ?_
    have k8 := kI_1
    refine mc_callv hG (mc_runV (As := [.int z7, .int 19, .int 1]) (rest := []) E hG (c_X10_put l _ (σ, 2, qX (upA a 2 ta)) h0 z7 (19 : Int32) (1 : Int32) t0 (by omega) (by omega) (by decide) (by decide) (0) (1) rfl (by omega) (by omega) ((qX_AV hcu).2.2 _ _ (by omega) (by omega) (by decide) (by decide))) t0 rfl kv_X10_put ml_X10_102 ⟨rfl, rfl, Nat.le_of_ble_eq_true rfl, Nat.le_of_ble_eq_true rfl⟩ rfl hl.1 rfl (Nat.le_of_ble_eq_true rfl) ⟨Nat.zero_le _, Nat.zero_le _⟩ dX10_screens_33) (fun H locs hG => ?_)
    refine lv_aload_n hx hb dX10_screens_36 rfl (lv_at hl 0 rfl) ?_
    refine lv_aload_n hx hb dX10_screens_37 rfl (lv_at hl 0 rfl) ?_
    refine mc_getn E hG t0 ff_X10_9 dX10_screens_38 (fun oa9 hoa9 => ?_)
    refine lv_iconst (v := 0) hx hb dX10_screens_41 (by decide) ?_
    refine mc_nald E hG hoa9 hG.2.2.1 (t_in (by decide) (by decide)) dX10_screens_42 (fun z10 lz10 uz10 qz10 => ?_)
    have lz10 : -1 ≤ z10.toInt := lz10
    have uz10 : z10.toInt ≤ 23 := uz10
    have wz10 : z10 = ta 0 := qz10 _ (show qX (upA a 2 ta) 2 0 = some (ta 0) from qX_at hcu upA_at rfl)
    have cz10 : z10.toInt = (ta 0).toInt := by rw [wz10]
    refine lv_bipush (v := 20) hx hb dX10_screens_43 (by decide) ?_
    refine lv_iconst (v := 1) hx hb dX10_screens_45 (by decide) ?_
    have k11 := kI_1
    refine mc_callvX hG (mc_runV (As := [.int z10, .int 20, .int 1]) (rest := []) E hG (c_X10_putX l _ (σ, 2, qX (upA a 2 ta)) h0 z10 (20 : Int32) (1 : Int32) t0 (by omega) (by omega) (by decide) (by decide) (0) (1) rfl (by omega) (by omega)) t0 rfl kv_X10_put ml_X10_102 ⟨rfl, rfl, Nat.le_of_ble_eq_true rfl, Nat.le_of_ble_eq_true rfl⟩ rfl hl.1 rfl (Nat.le_of_ble_eq_true rfl) ⟨Nat.zero_le _, Nat.zero_le _⟩ dX10_screens_46) (fun Z H locs eZ pZ hG => ?_)
    rw [pZ] at hG
    clear eZ pZ Z
    rw [show (20 : Int32).toInt = 20 from kI_20] at hG
    have hG := qX_set hcu (tr_y (by omega) (by omega) (by decide) (by decide)) hG
    obtain ⟨t12, et12⟩ : ∃ Z : Nat → Int32, Z = upN ta (ix z10.toInt 20) (1 : Int32) := ⟨_, rfl⟩
    rw [← et12] at hG
    have hAGn : AG ta t12 := by rw [et12]; exact AG.put (by omega) (by decide) (by decide)
    have hI := TInv_AG hAGn hI
    have h3n : (t12 3).toInt = (ta 3).toInt := by rw [hAGn.2.1]
    exact mc_vretX E hr hlk hG rfl ⟨_, rfl, hAGn, hI⟩ dX10_screens_49


set_option maxHeartbeats 4000000 in
set_option maxRecDepth 100000 in
theorem c_X10_screen (l : Launch) (G : tG) (σ : Nat → Nat) (a : Nat → Option (Nat → Int32)) (ta : Nat → Int32) (h0 : Nat) (x1 : Int32) (x2 : Int32) (t0 : σ h0 = 1) (hIa : TInv ta) (y1 y2 : Int32) (k1 : km G 2 1 = some y1) (k2 : km G 2 2 = some y2) : Met l yX10_screen (.code yX10_screen cX10_screen 4 (some .int) :: tWS) (tRm 2 45) (va_Pc [.ref h0, .int x1, .int x2] (mPre G (σ, 2, qX (upA a 2 ta)))) (mQk (σ, 2, qX (upA a 2 ta)) (fun r Z W => ((sOK x1 x2 → r = 1000 * y1 + y2 ∧ W = (gSm (gSm G 2 1 x1) 2 2 x2)) ∧ (¬ sOK x1 x2 → r = -2 ∧ W = G)) ∧ ∃ t : Nat → Int32, Z = (σ, 2, qX (upA a 2 t)) ∧ TInv t)) 0 0 (mA (σ, 2, qX (upA a 2 ta))) := by
  refine mc_met (by decide) (Nat.le_of_ble_eq_true rfl) ?_
  intro p e s m below meth c E hr hlk hG ls hl
  have hl : lv_has ls 4 [(0, .ref h0), (1, .int x1), (2, .int x2)] := hl
  have hx := E.1
  have hb := E.2.1
  obtain ⟨H, eH⟩ : ∃ H, H = s.heap := ⟨_, rfl⟩
  obtain ⟨locs, eL⟩ : ∃ x : List Loc, x = [] := ⟨_, rfl⟩
  have hG : mGH G (σ, 2, qX (upA a 2 ta)) s H locs := by rw [eH, eL]; exact hG
  suffices hW : W p l e (tRm 2 45) s m ([.ref h0, .int x1, .int x2] : List Value).toArray below meth c H locs 0 0 (MQ below (mQk (σ, 2, qX (upA a 2 ta)) (fun r Z W => ((sOK x1 x2 → r = 1000 * y1 + y2 ∧ W = (gSm (gSm G 2 1 x1) 2 2 x2)) ∧ (¬ sOK x1 x2 → r = -2 ∧ W = G)) ∧ ∃ t : Nat → Int32, Z = (σ, 2, qX (upA a 2 t)) ∧ TInv t)) ([.ref h0, .int x1, .int x2] : List Value).toArray s 0 0 (mA (σ, 2, qX (upA a 2 ta)))) (F0 m 0 ls []) by subst eH; subst eL; exact hW
  clear eH eL
  have hcu : mCu 2 := hG.2.2.1
  have hI := hIa
  refine lv_iload_n hx hb dX10_screen_0 rfl (lv_at hl 1 rfl) ?_
  refine lv_i2l hx hb dX10_screen_1 rfl ?_
  refine lv_topl (fun z1 ez1 => ?_)
  have tz1 := tl_i2l ez1
  refine lv_lconst (v := 0) hx hb dX10_screen_2 (by decide) ?_
  refine lv_topl (fun z2 ez2 => ?_)
  have tz2 : z2.toInt = 0 := by rw [ez2]; decide
  refine lv_ldc2 (v := 200) hx hb E.2.2.2.1 (E.2.2.2.2.1 _ (t_w7 15 rfl rfl)) dX10_screen_3 ?_
  refine lv_topl (fun z3 ez3 => ?_)
  have tz3 : z3.toInt = 200 := by rw [ez3]; decide
  refine tc_callp (mc_runS (As := [.long z1, .long z2, .long z3]) (rest := []) E hG (c_X10_in l G (σ, 2, qX (upA a 2 ta)) z1 z2 z3) ks_X10_in ml_X10_87 ⟨rfl, rfl, Nat.le_of_ble_eq_true rfl, Nat.le_of_ble_eq_true rfl⟩ rfl hl.1 rfl (Nat.le_of_ble_eq_true rfl) ⟨Nat.zero_le _, Nat.zero_le _⟩ dX10_screen_6) (fun r4 pr4 => ?_)
  replace pr4 : ((r4.toInt = 1 ∧ z2.toInt ≤ z1.toInt ∧ z1.toInt ≤ z3.toInt) ∨ (r4.toInt = 0 ∧ (z1.toInt < z2.toInt ∨ z3.toInt < z1.toInt))) := pr4
  refine lv_if_eq (tgt := 31) hx hb dX10_screen_9 (by decide) (fun c5 => ?_) (fun c5 => ?_)
  · skip
    have ic5 := tn_eq rfl kI_0 c5
    refine lv_bipush (v := -2) hx hb dX10_screen_31 (by decide) ?_
    exact mc_kretX E hr hlk hG rfl rfl ⟨⟨fun hn => absurd hn (by unfold sOK; omega), fun _ => ⟨rfl, rfl⟩⟩, _, rfl, hI⟩ dX10_screen_33
  · skip
    have ic5 := tn_ne rfl kI_0 c5
    refine lv_iload_n hx hb dX10_screen_12 rfl (lv_at hl 2 rfl) ?_
    refine lv_i2l hx hb dX10_screen_13 rfl ?_
    refine lv_topl (fun z6 ez6 => ?_)
    have tz6 := tl_i2l ez6
    refine lv_lconst (v := 0) hx hb dX10_screen_14 (by decide) ?_
    refine lv_topl (fun z7 ez7 => ?_)
    have tz7 : z7.toInt = 0 := by rw [ez7]; decide
    refine lv_ldc2 (v := 200) hx hb E.2.2.2.1 (E.2.2.2.2.1 _ (t_w7 15 rfl rfl)) dX10_screen_15 ?_
    refine lv_topl (fun z8 ez8 => ?_)
    have tz8 : z8.toInt = 200 := by rw [ez8]; decide
    refine tc_callp (mc_runS (As := [.long z6, .long z7, .long z8]) (rest := []) E hG (c_X10_in l G (σ, 2, qX (upA a 2 ta)) z6 z7 z8) ks_X10_in ml_X10_87 ⟨rfl, rfl, Nat.le_of_ble_eq_true rfl, Nat.le_of_ble_eq_true rfl⟩ rfl hl.1 rfl (Nat.le_of_ble_eq_true rfl) ⟨Nat.zero_le _, Nat.zero_le _⟩ dX10_screen_18) (fun r9 pr9 => ?_)
    replace pr9 : ((r9.toInt = 1 ∧ z7.toInt ≤ z6.toInt ∧ z6.toInt ≤ z8.toInt) ∨ (r9.toInt = 0 ∧ (z6.toInt < z7.toInt ∨ z8.toInt < z6.toInt))) := pr9
    refine lv_if_ne (tgt := 34) hx hb dX10_screen_21 (by decide) (fun c10 => ?_) (fun c10 => ?_)
    · skip
      have ic10 := tn_ne rfl kI_0 c10
      refine lv_sipush (v := 1000) hx hb dX10_screen_34 (by decide) ?_
      refine lv_aload_n hx hb dX10_screen_37 rfl (lv_at hl 0 rfl) ?_
      refine mc_getn E hG t0 ff_X10_9 dX10_screen_38 (fun oa11 hoa11 => ?_)
      refine lv_iconst (v := 1) hx hb dX10_screen_41 (by decide) ?_
      refine mc_naldK E hG hoa11 hG.2.2.1 (t_in (by decide) (by decide)) dX10_screen_42 (fun z12 lz12 uz12 qz12 wz12 => ?_)
      have fz12 := wz12 rfl _ k1
      have lz12 : 0 ≤ z12.toInt := lz12
      have uz12 : z12.toInt ≤ 200 := uz12
      refine lv_imul hx hb dX10_screen_43 ?_
      refine lv_topi (fun z13 ez13 => ?_)
      have tz13 := tn_mul ez13 kI_1000 rfl (by omega) (by omega)
      refine lv_aload_n hx hb dX10_screen_44 rfl (lv_at hl 0 rfl) ?_
      refine mc_getn E hG t0 ff_X10_9 dX10_screen_45 (fun oa14 hoa14 => ?_)
      refine lv_iconst (v := 2) hx hb dX10_screen_48 (by decide) ?_
      refine mc_naldK E hG hoa14 hG.2.2.1 (t_in (by decide) (by decide)) dX10_screen_49 (fun z15 lz15 uz15 qz15 wz15 => ?_)
      have fz15 := wz15 rfl _ k2
      have lz15 : 0 ≤ z15.toInt := lz15
      have uz15 : z15.toInt ≤ 1000 := uz15
      refine lv_iadd hx hb dX10_screen_50 ?_
      refine lv_topi (fun z16 ez16 => ?_)
      have tz16 := tn_add ez16 rfl rfl (by omega) (by omega)
      refine lv_istore_n (lv' := [(3, .int z16), (0, .ref h0), (1, .int x1), (2, .int x2)]) hx hb dX10_screen_51 rfl hl (by decide) rfl (fun ls hl => ?_)
      refine lv_aload_n hx hb dX10_screen_52 rfl (lv_at hl 1 rfl) ?_
      refine lv_iload_n hx hb dX10_screen_53 rfl (lv_at hl 2 rfl) ?_
      refine lv_iload_n hx hb dX10_screen_54 rfl (lv_at hl 3 rfl) ?_
      refine mc_callvXK hG (mc_runV (As := [.int x1, .int x2]) (rest := []) E hG (c_X10_screens2 l G σ a ta h0 x1 x2 t0 (by omega) (by omega) (by omega) (by omega) hI) t0 rfl kv_X10_screens ml_X10_165 ⟨rfl, rfl, Nat.le_of_ble_eq_true rfl, Nat.le_of_ble_eq_true rfl⟩ rfl hl.1 rfl (Nat.le_of_ble_eq_true rfl) ⟨Nat.zero_le _, Nat.zero_le _⟩ dX10_screen_55) (fun Z H locs eZ pZ hG => ?_)
      obtain ⟨t18, rfl, pt18, hI⟩ := pZ
      clear eZ
      have h3n : (t18 3).toInt = (ta 3).toInt := by rw [pt18.2.1]
      have h0n : (t18 0).toInt = (ta 0).toInt := by rw [pt18.1]
      refine lv_iload_n hx hb dX10_screen_58 rfl (lv_at hl 0 rfl) ?_
      have E := (E.gm (t := 2) (k := 1) (x := x1)).gm (t := 2) (k := 2) (x := x2)
      exact mc_kretX (post := fun r Z W => ((sOK x1 x2 → r = 1000 * y1 + y2 ∧ W = (gSm (gSm G 2 1 x1) 2 2 x2)) ∧ (¬ sOK x1 x2 → r = -2 ∧ W = G)) ∧ ∃ t : Nat → Int32, Z = (σ, 2, qX (upA a 2 t)) ∧ TInv t) E hr hlk hG rfl rfl ⟨⟨fun _ => ⟨by rw [ez16, ez13, fz12, fz15], rfl⟩, fun hn => absurd (show sOK x1 x2 by unfold sOK; omega) hn⟩, _, rfl, hI⟩ dX10_screen_59
    · skip
      have ic10 := tn_eq rfl kI_0 c10
      refine lv_iload_n hx hb dX10_screen_24 rfl (lv_at hl 2 rfl) ?_
      refine lv_sipush (v := 1000) hx hb dX10_screen_25 (by decide) ?_
      refine lv_icmp_eq (tgt := 34) hx hb dX10_screen_28 (by decide) (fun c19 => ?_) (fun c19 => ?_)
      · skip
        have ic19 := tn_eq rfl kI_1000 c19
        refine lv_sipush (v := 1000) hx hb dX10_screen_34 (by decide) ?_
        refine lv_aload_n hx hb dX10_screen_37 rfl (lv_at hl 0 rfl) ?_
        refine mc_getn E hG t0 ff_X10_9 dX10_screen_38 (fun oa20 hoa20 => ?_)
        refine lv_iconst (v := 1) hx hb dX10_screen_41 (by decide) ?_
        refine mc_naldK E hG hoa20 hG.2.2.1 (t_in (by decide) (by decide)) dX10_screen_42 (fun z21 lz21 uz21 qz21 wz21 => ?_)
        have fz21 := wz21 rfl _ k1
        have lz21 : 0 ≤ z21.toInt := lz21
        have uz21 : z21.toInt ≤ 200 := uz21
        refine lv_imul hx hb dX10_screen_43 ?_
        refine lv_topi (fun z22 ez22 => ?_)
        have tz22 := tn_mul ez22 kI_1000 rfl (by omega) (by omega)
        refine lv_aload_n hx hb dX10_screen_44 rfl (lv_at hl 0 rfl) ?_
        refine mc_getn E hG t0 ff_X10_9 dX10_screen_45 (fun oa23 hoa23 => ?_)
        refine lv_iconst (v := 2) hx hb dX10_screen_48 (by decide) ?_
        refine mc_naldK E hG hoa23 hG.2.2.1 (t_in (by decide) (by decide)) dX10_screen_49 (fun z24 lz24 uz24 qz24 wz24 => ?_)
        have fz24 := wz24 rfl _ k2
        have lz24 : 0 ≤ z24.toInt := lz24
        have uz24 : z24.toInt ≤ 1000 := uz24
        refine lv_iadd hx hb dX10_screen_50 ?_
        refine lv_topi (fun z25 ez25 => ?_)
        have tz25 := tn_add ez25 rfl rfl (by omega) (by omega)
        refine lv_istore_n (lv' := [(3, .int z25), (0, .ref h0), (1, .int x1), (2, .int x2)]) hx hb dX10_screen_51 rfl hl (by decide) rfl (fun ls hl => ?_)
        refine lv_aload_n hx hb dX10_screen_52 rfl (lv_at hl 1 rfl) ?_
        refine lv_iload_n hx hb dX10_screen_53 rfl (lv_at hl 2 rfl) ?_
        refine lv_iload_n hx hb dX10_screen_54 rfl (lv_at hl 3 rfl) ?_
        refine mc_callvXK hG (mc_runV (As := [.int x1, .int x2]) (rest := []) E hG (c_X10_screens2 l G σ a ta h0 x1 x2 t0 (by omega) (by omega) (by omega) (by omega) hI) t0 rfl kv_X10_screens ml_X10_165 ⟨rfl, rfl, Nat.le_of_ble_eq_true rfl, Nat.le_of_ble_eq_true rfl⟩ rfl hl.1 rfl (Nat.le_of_ble_eq_true rfl) ⟨Nat.zero_le _, Nat.zero_le _⟩ dX10_screen_55) (fun Z H locs eZ pZ hG => ?_)
        obtain ⟨t27, rfl, pt27, hI⟩ := pZ
        clear eZ
        have h3n : (t27 3).toInt = (ta 3).toInt := by rw [pt27.2.1]
        have h0n : (t27 0).toInt = (ta 0).toInt := by rw [pt27.1]
        refine lv_iload_n hx hb dX10_screen_58 rfl (lv_at hl 0 rfl) ?_
        have E := (E.gm (t := 2) (k := 1) (x := x1)).gm (t := 2) (k := 2) (x := x2)
        exact mc_kretX (post := fun r Z W => ((sOK x1 x2 → r = 1000 * y1 + y2 ∧ W = (gSm (gSm G 2 1 x1) 2 2 x2)) ∧ (¬ sOK x1 x2 → r = -2 ∧ W = G)) ∧ ∃ t : Nat → Int32, Z = (σ, 2, qX (upA a 2 t)) ∧ TInv t) E hr hlk hG rfl rfl ⟨⟨fun _ => ⟨by rw [ez25, ez22, fz21, fz24], rfl⟩, fun hn => absurd (show sOK x1 x2 by unfold sOK; omega) hn⟩, _, rfl, hI⟩ dX10_screen_59
      · skip
        have ic19 := tn_ne rfl kI_1000 c19
        refine lv_bipush (v := -2) hx hb dX10_screen_31 (by decide) ?_
        exact mc_kretX E hr hlk hG rfl rfl ⟨⟨fun hn => absurd hn (by unfold sOK; omega), fun _ => ⟨rfl, rfl⟩⟩, _, rfl, hI⟩ dX10_screen_33


set_option maxHeartbeats 4000000 in
set_option maxRecDepth 100000 in
theorem c_X10_copiesK (l : Launch) (G : tG) (σ : Nat → Nat) (cu : Nat) (a : Nat → Option (Nat → Int32)) (γ1 γ2 : Nat) (ta : Nat → Int32) (h0 : Nat) (h1 : Nat) (t0 : σ h0 = γ1) (t1 : σ h1 = γ2) (hc1 : mCu γ1) (hc2 : mCu γ2) (h12 : ¬ γ1 = γ2) (ha : a γ1 = some ta) (g1 : γ1 = 2 ∨ γ1 = 3) (g2 : γ2 = 2 ∨ γ2 = 3) (y1 y2 : Int32) (k1 : km G γ1 1 = some y1) (k2 : km G γ1 2 = some y2) (hy1 : 0 ≤ y1.toInt) (hy2 : 0 ≤ y2.toInt) : Met l yX10_copies (.code yX10_copies cX10_copies 3 none :: tWS) (tRm 0 0) (va_Pc [.ref h0, .ref h1] (mPre G (σ, cu, qX a))) (mQvX (gSm (gSm G γ2 1 y1) γ2 2 y2) (σ, cu, qX a) (fun Z => Z = (σ, cu, qX (upA a γ2 ta)))) 0 0 (mA (σ, cu, qX a)) := by
  refine mc_met (by decide) (Nat.le_of_ble_eq_true rfl) ?_
  intro p e s m below meth c E hr hlk hG ls hl
  have hl : lv_has ls 3 [(0, .ref h0), (1, .ref h1)] := hl
  have hx := E.1
  have hb := E.2.1
  obtain ⟨H, eH⟩ : ∃ H, H = s.heap := ⟨_, rfl⟩
  obtain ⟨locs, eL⟩ : ∃ x : List Loc, x = [] := ⟨_, rfl⟩
  have hG : mGH G (σ, cu, qX a) s H locs := by rw [eH, eL]; exact hG
  suffices hW : W p l e (tRm 0 0) s m ([.ref h0, .ref h1] : List Value).toArray below meth c H locs 0 0 (MQ below (mQvX (gSm (gSm G γ2 1 y1) γ2 2 y2) (σ, cu, qX a) (fun Z => Z = (σ, cu, qX (upA a γ2 ta)))) ([.ref h0, .ref h1] : List Value).toArray s 0 0 (mA (σ, cu, qX a))) (F0 m 0 ls []) by subst eH; subst eL; exact hW
  clear eH eL
  replace hG := hG.gd (t := γ2)
  have E := E.gd (t := γ2)
  obtain ⟨Fa, hG⟩ := mGain hG
  have hG : mGH (gDm G γ2) (σ, cu, kO (PD γ2) (qX a) Fa) s H locs := hG (PD γ2)
  have J2 : ∀ (n2 : Nat) (F : mF) (H : Heap) (locs : List Loc) (ls : Array Slot) (v2 : Int32), mGH (gDm G γ2) (σ, cu, kO (PD γ2) (qX a) F) s H locs → lv_has ls 3 [(0, .ref h0), (1, .ref h1), (2, .int v2)] → 0 ≤ v2.toInt → v2.toInt ≤ 934 → (∀ k : Nat, (k : Int) < v2.toInt → (tr k = true → F γ2 k = ta k) ∧ (k = 1 → F γ2 k = y1) ∧ (k = 2 → F γ2 k = y2)) → (934 - v2.toInt).toNat < n2 → W p l e (tRm 0 0) s m ([.ref h0, .ref h1] : List Value).toArray below meth c H locs 0 0 (MQ below (mQvX (gSm (gSm G γ2 1 y1) γ2 2 y2) (σ, cu, qX a) (fun Z => Z = (σ, cu, qX (upA a γ2 ta)))) ([.ref h0, .ref h1] : List Value).toArray s 0 0 (mA (σ, cu, qX a))) (F0 m 2 ls []) := by
    intro n2
    induction n2 with
    | zero => intro F H locs ls v2 hG hl b2 c2 hex2 hn2; exact absurd hn2 (Nat.not_lt_zero _)
    | succ n2 ih2 =>
      intro F H locs ls v2 hG hl b2 c2 hex2 hn2
      refine lv_iload_n hx hb dX10_copies_2 rfl (lv_at hl 2 rfl) ?_
      refine lv_sipush (v := 934) hx hb dX10_copies_3 (by decide) ?_
      refine lv_icmp_ge (tgt := 21) hx hb dX10_copies_6 (by decide) (fun c1 => ?_) (fun c1 => ?_)
      · skip
        have ic1 := tn_le kI_934 rfl c1
        have hG := cp_k g2 ((hex2 1 (by omega)).2.1 rfl) ((hex2 2 (by omega)).2.2 rfl) hy1 hy2 hG
        have hG := cp_end hc2 (fun k h1 h2 => (hex2 k (by omega)).1 h2) hG
        have E : tE (gSm (gSm G γ2 1 y1) γ2 2 y2) p s m c _ _ _ _ := E
        exact mc_vretX E hr hlk hG rfl rfl dX10_copies_21
      · skip
        have ic1 := tn_nle kI_934 rfl c1
        refine lv_aload_n hx hb dX10_copies_9 rfl (lv_at hl 1 rfl) ?_
        refine lv_iload_n hx hb dX10_copies_10 rfl (lv_at hl 2 rfl) ?_
        refine lv_aload_n hx hb dX10_copies_11 rfl (lv_at hl 0 rfl) ?_
        refine lv_iload_n hx hb dX10_copies_12 rfl (lv_at hl 2 rfl) ?_
        refine mc_naldK E hG t0 hc1 (t_in (by omega) (by omega)) dX10_copies_13 (fun z2 lz2 uz2 qz2 kz2 => ?_)
        have wz2 : tr v2.toNatClampNeg = true → z2 = ta v2.toNatClampNeg := fun h => qz2 _ ((kO_out (PD_n h12)).trans (qX_at hc1 ha h))
        have vz1 : v2.toNatClampNeg = 1 → z2 = y1 := fun h => kz2 (by rw [h]; rcases g1 with z | z <;> rw [z] <;> rfl) _ (by rw [h, gDm_ne h12 (by decide)]; exact k1)
        have vz2 : v2.toNatClampNeg = 2 → z2 = y2 := fun h => kz2 (by rw [h]; rcases g1 with z | z <;> rw [z] <;> rfl) _ (by rw [h, gDm_ne h12 (by decide)]; exact k2)
        refine mc_iastG E hG t1 (mCu_nz hc2) (fun h9 => gDm_at (mMk_23 h9 g2)) (mShp_cu hc2) (mFD_cu hc2) (t_in (by omega) (by omega)) lz2 uz2 dX10_copies_14 (fun H locs hG => ?_)
        have hG := kO_set PD_c hG
        obtain ⟨F3, eF3⟩ : ∃ Z : mF, Z = up2 F γ2 v2.toNatClampNeg z2 := ⟨_, rfl⟩
        rw [← eF3] at hG
        obtain ⟨z4, ez4⟩ : ∃ y : Int32, y = v2 + (1) := ⟨_, rfl⟩
        refine lv_iinc (v := z4) (lv' := [(2, .int z4), (0, .ref h0), (1, .ref h1)]) hx hb dX10_copies_15 hl (k := 2) rfl (by rw [ez4]; rfl) (by decide) rfl (fun ls hl => ?_)
        have tz4 := tn_add ez4 rfl kI_1 (by omega) (by omega)
        refine lv_goto (tgt := 2) hx hb dX10_copies_18 (by decide) ?_
        have hQ : (∀ k : Nat, (k : Int) < z4.toInt → (tr k = true → F3 γ2 k = ta k) ∧ (k = 1 → F3 γ2 k = y1) ∧ (k = 2 → F3 γ2 k = y2)) := fun k h1 => by
          have hi : v2.toNatClampNeg = v2.toInt.toNat := rfl
          rw [eF3]
          by_cases q : k = v2.toNatClampNeg
          · rw [q, up2_at]; exact ⟨wz2, vz1, vz2⟩
          · rw [up2_ne (fun y => q y.2)]; exact hex2 k (by omega)
        exact ih2 F3 H locs ls z4 hG (lv_sub hl [1, 2, 0] rfl) (by omega) (by omega) (by exact hQ) (by omega)
  refine lv_iconst (v := 0) hx hb dX10_copies_0 (by decide) ?_
  refine lv_istore_n (lv' := [(2, .int 0), (0, .ref h0), (1, .ref h1)]) hx hb dX10_copies_1 rfl hl (by decide) rfl (fun ls hl => ?_)
  have hQ : (∀ k : Nat, (k : Int) < (0 : Int32).toInt → (tr k = true → Fa γ2 k = ta k) ∧ (k = 1 → Fa γ2 k = y1) ∧ (k = 2 → Fa γ2 k = y2)) := fun k h => by have k0 := kI_0; omega
  exact J2 ((934 - (0 : Int32).toInt).toNat + 1) Fa H locs ls (0 : Int32) hG (lv_sub hl [1, 2, 0] rfl) (by decide) (by decide) (by exact hQ) (Nat.lt_succ_self _)


set_option maxHeartbeats 4000000 in
set_option maxRecDepth 100000 in
theorem c_X10_image (l : Launch) (G : tG) (σ : Nat → Nat) (a : Nat → Option (Nat → Int32)) (ta : Nat → Int32) (h0 : Nat) (t0 : σ h0 = 1) (ha : a 2 = some ta) (y1 y2 : Int32) (k1 : km G 2 1 = some y1) (k2 : km G 2 2 = some y2) (hy1 : 0 ≤ y1.toInt) (hy2 : 0 ≤ y2.toInt) : Met l yX10_image (.code yX10_image cX10_image 1 (some .int) :: tWS) (tRm 3 68) (va_Pc [.ref h0] (mPre G (σ, 2, qX a))) (mQk (σ, 2, qX a) (fun r Z W => Z = (σ, 2, qX (upA a 3 ta)) ∧ W = gSm (gSm (gSm G 1 5 1) 3 1 y1) 3 2 y2)) 0 0 (mA (σ, 2, qX a)) := by
  refine mc_met (by decide) (Nat.le_of_ble_eq_true rfl) ?_
  intro p e s m below meth c E hr hlk hG ls hl
  have hl : lv_has ls 1 [(0, .ref h0)] := hl
  have hx := E.1
  have hb := E.2.1
  obtain ⟨H, eH⟩ : ∃ H, H = s.heap := ⟨_, rfl⟩
  obtain ⟨locs, eL⟩ : ∃ x : List Loc, x = [] := ⟨_, rfl⟩
  have hG : mGH G (σ, 2, qX a) s H locs := by rw [eH, eL]; exact hG
  suffices hW : W p l e (tRm 3 68) s m ([.ref h0] : List Value).toArray below meth c H locs 0 0 (MQ below (mQk (σ, 2, qX a) (fun r Z W => Z = (σ, 2, qX (upA a 3 ta)) ∧ W = gSm (gSm (gSm G 1 5 1) 3 1 y1) 3 2 y2)) ([.ref h0] : List Value).toArray s 0 0 (mA (σ, 2, qX a))) (F0 m 0 ls []) by subst eH; subst eL; exact hW
  clear eH eL
  have hcu : mCu 2 := mu_2
  refine lv_aload_n hx hb dX10_image_0 rfl (lv_at hl 0 rfl) ?_
  refine lv_iconst (v := 1) hx hb dX10_image_1 (by decide) ?_
  refine mc_putK (k := 5) E hG t0 fq_X10_449 rfl (qn (by unfold mCu; decide) (by decide)) (by decide) (by decide) (by decide) (by decide) (t_nz (by decide) (by decide)).1 (t_nz (by decide) (by decide)).2 dX10_image_2 (fun H locs hG => ?_)
  have E := E.gm (t := 1) (k := 5) (x := 1)
  refine lv_aload_n hx hb dX10_image_5 rfl (lv_at hl 0 rfl) ?_
  refine mc_getn E hG t0 ff_X10_9 dX10_image_6 (fun oa1 hoa1 => ?_)
  refine lv_aload_n hx hb dX10_image_9 rfl (lv_at hl 0 rfl) ?_
  refine mc_getr E hG t0 mr_18 dX10_image_10 (fun oa2 hoa2 => ?_)
  refine mc_callvXK hG (mc_runS (As := [.ref oa1, .ref oa2]) (rest := []) E hG (c_X10_copiesK l _ σ 2 a 2 3 ta oa1 oa2 hoa1 hoa2 mu_2 mu_3 (by decide) ha (by decide) (by decide) y1 y2 (by rw [gSm_ne (Or.inl (by decide)) (by decide) (by decide)]; exact k1) (by rw [gSm_ne (Or.inl (by decide)) (by decide) (by decide)]; exact k2) hy1 hy2) ks_X10_copies ml_X10_401 ⟨rfl, rfl, Nat.le_of_ble_eq_true rfl, Nat.le_of_ble_eq_true rfl⟩ rfl hl.1 rfl (Nat.le_of_ble_eq_true rfl) ⟨Nat.zero_le _, Nat.zero_le _⟩ dX10_image_13) (fun Z H locs eZ pZ hG => ?_)
  subst pZ
  clear eZ
  have E := (E.gm (t := 3) (k := 1) (x := y1)).gm (t := 3) (k := 2) (x := y2)
  refine lv_aload_n hx hb dX10_image_16 rfl (lv_at hl 0 rfl) ?_
  refine tc_callp (mc_runV (As := []) (rest := []) E hG (c_X10_many l _ (σ, 2, qX (upA a 3 ta)) h0 t0) t0 rfl kv_X10_many ml_X10_405 ⟨rfl, rfl, Nat.le_of_ble_eq_true rfl, Nat.le_of_ble_eq_true rfl⟩ rfl hl.1 rfl (Nat.le_of_ble_eq_true rfl) ⟨Nat.zero_le _, Nat.zero_le _⟩ dX10_image_17) (fun r3 pr3 => ?_)
  exact mc_kretX (post := fun r Z W => Z = (σ, 2, qX (upA a 3 ta)) ∧ W = gSm (gSm (gSm G 1 5 1) 3 1 y1) 3 2 y2) E hr hlk hG rfl rfl ⟨rfl, rfl⟩ dX10_image_20


set_option maxHeartbeats 4000000 in
set_option maxRecDepth 100000 in
theorem c_X10_undo (l : Launch) (G : tG) (σ : Nat → Nat) (a : Nat → Option (Nat → Int32)) (u : Nat → Int32) (h0 : Nat) (t0 : σ h0 = 1) (h3 : a 3 = some u) (f y1 y2 : Int32) (kf : km G 1 5 = some f) (k1 : km G 3 1 = some y1) (k2 : km G 3 2 = some y2) (hy1 : 0 ≤ y1.toInt) (hy2 : 0 ≤ y2.toInt) : Met l yX10_undo (.code yX10_undo cX10_undo 1 (some .int) :: tWS) (tRm 3 68) (va_Pc [.ref h0] (mPre G (σ, 2, qX a))) (mQk (σ, 2, qX a) (fun r Z W => (f.toInt = 0 → Z = (σ, 2, qX a) ∧ W = G) ∧ (¬ f.toInt = 0 → Z = (σ, 2, qX (upA a 2 u)) ∧ W = gSm (gSm G 2 1 y1) 2 2 y2))) 0 0 (mA (σ, 2, qX a)) := by
  refine mc_met (by decide) (Nat.le_of_ble_eq_true rfl) ?_
  intro p e s m below meth c E hr hlk hG ls hl
  have hl : lv_has ls 1 [(0, .ref h0)] := hl
  have hx := E.1
  have hb := E.2.1
  obtain ⟨H, eH⟩ : ∃ H, H = s.heap := ⟨_, rfl⟩
  obtain ⟨locs, eL⟩ : ∃ x : List Loc, x = [] := ⟨_, rfl⟩
  have hG : mGH G (σ, 2, qX a) s H locs := by rw [eH, eL]; exact hG
  suffices hW : W p l e (tRm 3 68) s m ([.ref h0] : List Value).toArray below meth c H locs 0 0 (MQ below (mQk (σ, 2, qX a) (fun r Z W => (f.toInt = 0 → Z = (σ, 2, qX a) ∧ W = G) ∧ (¬ f.toInt = 0 → Z = (σ, 2, qX (upA a 2 u)) ∧ W = gSm (gSm G 2 1 y1) 2 2 y2))) ([.ref h0] : List Value).toArray s 0 0 (mA (σ, 2, qX a))) (F0 m 0 ls []) by subst eH; subst eL; exact hW
  clear eH eL
  have hcu : mCu 2 := mu_2
  refine lv_aload_n hx hb dX10_undo_0 rfl (lv_at hl 0 rfl) ?_
  refine mc_getiK E hG t0 mi_449 rfl dX10_undo_1 (fun z1 lz1 uz1 qz1 => ?_)
  have ef := qz1 _ kf
  refine lv_if_ne (tgt := 10) hx hb dX10_undo_4 (by decide) (fun c2 => ?_) (fun c2 => ?_)
  · skip
    have ic2 := tn_ne rfl kI_0 c2
    refine lv_aload_n hx hb dX10_undo_10 rfl (lv_at hl 0 rfl) ?_
    refine mc_getr E hG t0 mr_18 dX10_undo_11 (fun oa3 hoa3 => ?_)
    refine lv_aload_n hx hb dX10_undo_14 rfl (lv_at hl 0 rfl) ?_
    refine mc_getn E hG t0 ff_X10_9 dX10_undo_15 (fun oa4 hoa4 => ?_)
    refine mc_callvXK hG (mc_runS (As := [.ref oa3, .ref oa4]) (rest := []) E hG (c_X10_copiesK l _ σ 2 a 3 2 u oa3 oa4 hoa3 hoa4 mu_3 mu_2 (by decide) h3 (by decide) (by decide) y1 y2 k1 k2 hy1 hy2) ks_X10_copies ml_X10_401 ⟨rfl, rfl, Nat.le_of_ble_eq_true rfl, Nat.le_of_ble_eq_true rfl⟩ rfl hl.1 rfl (Nat.le_of_ble_eq_true rfl) ⟨Nat.zero_le _, Nat.zero_le _⟩ dX10_undo_18) (fun Z H locs eZ pZ hG => ?_)
    subst pZ
    clear eZ
    have E := (E.gm (t := 2) (k := 1) (x := y1)).gm (t := 2) (k := 2) (x := y2)
    refine lv_aload_n hx hb dX10_undo_21 rfl (lv_at hl 0 rfl) ?_
    refine tc_callp (mc_runV (As := []) (rest := []) E hG (c_X10_many l _ (σ, 2, qX (upA a 2 u)) h0 t0) t0 rfl kv_X10_many ml_X10_405 ⟨rfl, rfl, Nat.le_of_ble_eq_true rfl, Nat.le_of_ble_eq_true rfl⟩ rfl hl.1 rfl (Nat.le_of_ble_eq_true rfl) ⟨Nat.zero_le _, Nat.zero_le _⟩ dX10_undo_22) (fun r5 pr5 => ?_)
    exact mc_kretX (post := fun r Z W => (f.toInt = 0 → Z = (σ, 2, qX a) ∧ W = G) ∧ (¬ f.toInt = 0 → Z = (σ, 2, qX (upA a 2 u)) ∧ W = gSm (gSm G 2 1 y1) 2 2 y2)) E hr hlk hG rfl rfl ⟨fun h => absurd (by rw [ef]; exact h) ic2, fun _ => ⟨rfl, rfl⟩⟩ dX10_undo_25
  · skip
    have ic2 := tn_eq rfl kI_0 c2
    refine lv_bipush (v := -3) hx hb dX10_undo_7 (by decide) ?_
    exact mc_kretX E hr hlk hG rfl rfl ⟨fun _ => ⟨rfl, rfl⟩, fun h => absurd (by rw [← ef]; exact ic2) h⟩ dX10_undo_9

