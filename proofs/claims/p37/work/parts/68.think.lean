/-! ===== the reference: copies; thoughts begin ===== -/
set_option maxHeartbeats 4000000 in
set_option maxRecDepth 100000 in
theorem c_X10_copies (l : Launch) (G : tG) (σ : Nat → Nat) (cu : Nat) (a : Nat → Option (Nat → Int32)) (γ1 γ2 : Nat) (ta : Nat → Int32) (h0 : Nat) (h1 : Nat) (t0 : σ h0 = γ1) (t1 : σ h1 = γ2) (hc1 : mCu γ1) (hc2 : mCu γ2) (h12 : ¬ γ1 = γ2) (ha : a γ1 = some ta) (h45 : γ2 = 4 ∨ γ2 = 5 := by decide) : Met l yX10_copies (.code yX10_copies cX10_copies 3 none :: tWS) (tRm 0 0) (va_Pc [.ref h0, .ref h1] (mPre G (σ, cu, qX a))) (mQvX G (σ, cu, qX a) (fun Z => Z = (σ, cu, qX (upA a γ2 ta)))) 0 0 (mA (σ, cu, qX a)) := by
  refine mc_met (by decide) (Nat.le_of_ble_eq_true rfl) ?_
  intro p e s m below meth c E hr hlk hG ls hl
  have hl : lv_has ls 3 [(0, .ref h0), (1, .ref h1)] := hl
  have hx := E.1
  have hb := E.2.1
  obtain ⟨H, eH⟩ : ∃ H, H = s.heap := ⟨_, rfl⟩
  obtain ⟨locs, eL⟩ : ∃ x : List Loc, x = [] := ⟨_, rfl⟩
  have hG : mGH G (σ, cu, qX a) s H locs := by rw [eH, eL]; exact hG
  suffices hW : W p l e (tRm 0 0) s m ([.ref h0, .ref h1] : List Value).toArray below meth c H locs 0 0 (MQ below (mQvX G (σ, cu, qX a) (fun Z => Z = (σ, cu, qX (upA a γ2 ta)))) ([.ref h0, .ref h1] : List Value).toArray s 0 0 (mA (σ, cu, qX a))) (F0 m 0 ls []) by subst eH; subst eL; exact hW
  clear eH eL
  obtain ⟨Fa, hG⟩ := mGain hG
  have hG : mGH G (σ, cu, kO (PD γ2) (qX a) Fa) s H locs := hG (PD γ2)
  have J2 : ∀ (n2 : Nat) (F : mF) (H : Heap) (locs : List Loc) (ls : Array Slot) (v2 : Int32), mGH G (σ, cu, kO (PD γ2) (qX a) F) s H locs → lv_has ls 3 [(0, .ref h0), (1, .ref h1), (2, .int v2)] → 0 ≤ v2.toInt → v2.toInt ≤ 934 → (∀ k : Nat, (k : Int) < v2.toInt → tr k = true → F γ2 k = ta k) → (934 - v2.toInt).toNat < n2 → W p l e (tRm 0 0) s m ([.ref h0, .ref h1] : List Value).toArray below meth c H locs 0 0 (MQ below (mQvX G (σ, cu, qX a) (fun Z => Z = (σ, cu, qX (upA a γ2 ta)))) ([.ref h0, .ref h1] : List Value).toArray s 0 0 (mA (σ, cu, qX a))) (F0 m 2 ls []) := by
    intro n2
    induction n2 with
    | zero => intro F H locs ls v2 hG hl b2 c2 hex2 hn2; exact absurd hn2 (Nat.not_lt_zero _)
    | succ n2 ih2 =>
      intro F H locs ls v2 hG hl b2 c2 hex2 hn2
      refine lv_iload_n hx hb dX10_copies_2 rfl (lv_at hl 2 rfl) ?_
      refine lv_sipush (v := 934) hx hb dX10_copies_3 (by decide) ?_
      refine lv_icmp_ge (tgt := 21) hx hb dX10_copies_6 (by decide) (fun c1 => ?_) (fun c1 => ?_)
      · skip
        have ic1 := tn_le kI_934 rfl c1
        have hG := cp_end hc2 (fun k h1 h2 => hex2 k (by omega) h2) hG
        exact mc_vretX E hr hlk hG rfl rfl dX10_copies_21
      · skip
        have ic1 := tn_nle kI_934 rfl c1
        refine lv_aload_n hx hb dX10_copies_9 rfl (lv_at hl 1 rfl) ?_
        refine lv_iload_n hx hb dX10_copies_10 rfl (lv_at hl 2 rfl) ?_
        refine lv_aload_n hx hb dX10_copies_11 rfl (lv_at hl 0 rfl) ?_
        refine lv_iload_n hx hb dX10_copies_12 rfl (lv_at hl 2 rfl) ?_
        refine mc_nald E hG t0 hc1 (t_in (by omega) (by omega)) dX10_copies_13 (fun z2 lz2 uz2 qz2 => ?_)
        have wz2 : tr v2.toNatClampNeg = true → z2 = ta v2.toNatClampNeg := fun h => qz2 _ ((kO_out (PD_n h12)).trans (qX_at hc1 ha h))
        refine mc_nastX E hG t1 hc2 (t_in (by omega) (by omega)) (lo := (nR v2.toNatClampNeg).1) (hi := (nR v2.toNatClampNeg).2) rfl lz2 uz2 dX10_copies_14 (fun H locs hG => ?_) (hm := Or.inr h45)
        have hG := kO_set PD_c hG
        obtain ⟨F3, eF3⟩ : ∃ Z : mF, Z = up2 F γ2 v2.toNatClampNeg z2 := ⟨_, rfl⟩
        rw [← eF3] at hG
        obtain ⟨z4, ez4⟩ : ∃ y : Int32, y = v2 + (1) := ⟨_, rfl⟩
        refine lv_iinc (v := z4) (lv' := [(2, .int z4), (0, .ref h0), (1, .ref h1)]) hx hb dX10_copies_15 hl (k := 2) rfl (by rw [ez4]; rfl) (by decide) rfl (fun ls hl => ?_)
        have tz4 := tn_add ez4 rfl kI_1 (by omega) (by omega)
        refine lv_goto (tgt := 2) hx hb dX10_copies_18 (by decide) ?_
        have hQ : ∀ k : Nat, (k : Int) < z4.toInt → tr k = true → F3 γ2 k = ta k := fun k h1 h2 => by
          have hi : v2.toNatClampNeg = v2.toInt.toNat := rfl
          rw [eF3]
          by_cases q : k = v2.toNatClampNeg
          · subst q; rw [up2_at]; exact wz2 h2
          · rw [up2_ne (fun y => q y.2)]; exact hex2 k (by omega) h2
        exact ih2 F3 H locs ls z4 hG (lv_sub hl [1, 2, 0] rfl) (by omega) (by omega) (by exact hQ) (by omega)
  refine lv_iconst (v := 0) hx hb dX10_copies_0 (by decide) ?_
  refine lv_istore_n (lv' := [(2, .int 0), (0, .ref h0), (1, .ref h1)]) hx hb dX10_copies_1 rfl hl (by decide) rfl (fun ls hl => ?_)
  have hQ : ∀ k : Nat, (k : Int) < (0 : Int32).toInt → tr k = true → Fa γ2 k = ta k := fun k h _ => by have k0 := kI_0; omega
  exact J2 ((934 - (0 : Int32).toInt).toNat + 1) Fa H locs ls (0 : Int32) hG (lv_sub hl [1, 2, 0] rfl) (by decide) (by decide) (by exact hQ) (Nat.lt_succ_self _)

set_option maxHeartbeats 4000000 in
set_option maxRecDepth 100000 in
theorem c_X10_thinks (l : Launch) (G : tG) (σ : Nat → Nat) (cu : Nat) (a : Nat → Option (Nat → Int32)) (γ : Nat) (ta : Nat → Int32) (h0 : Nat) (h1 : Nat) (t0 : σ h0 = 1) (t1 : σ h1 = γ) (hc : mCu γ) (hc2 : ¬ 2 = γ) (ha : a 2 = some ta) (h45 : γ = 4 ∨ γ = 5 := by decide) : Met l yX10_thinks (.code yX10_thinks cX10_thinks 2 none :: tWS) (tRm 3 68) (va_Pc [.ref h0, .ref h1] (mPre G (σ, cu, qX a))) (mQvX G (σ, cu, qX a) (fun Z => Z = (σ, γ, qX (upA a γ ta)))) 0 0 (mA (σ, cu, qX a)) := by
  refine mc_met (by decide) (Nat.le_of_ble_eq_true rfl) ?_
  intro p e s m below meth c E hr hlk hG ls hl
  have hl : lv_has ls 2 [(0, .ref h0), (1, .ref h1)] := hl
  have hx := E.1
  have hb := E.2.1
  obtain ⟨H, eH⟩ : ∃ H, H = s.heap := ⟨_, rfl⟩
  obtain ⟨locs, eL⟩ : ∃ x : List Loc, x = [] := ⟨_, rfl⟩
  have hG : mGH G (σ, cu, qX a) s H locs := by rw [eH, eL]; exact hG
  suffices hW : W p l e (tRm 3 68) s m ([.ref h0, .ref h1] : List Value).toArray below meth c H locs 0 0 (MQ below (mQvX G (σ, cu, qX a) (fun Z => Z = (σ, γ, qX (upA a γ ta)))) ([.ref h0, .ref h1] : List Value).toArray s 0 0 (mA (σ, cu, qX a))) (F0 m 0 ls []) by subst eH; subst eL; exact hW
  clear eH eL
  refine lv_aload_n hx hb dX10_thinks_0 rfl (lv_at hl 0 rfl) ?_
  refine lv_aload_n hx hb dX10_thinks_1 rfl (lv_at hl 0 rfl) ?_
  refine mc_getr E hG t0 mr_15 dX10_thinks_2 (fun oa1 hoa1 => ?_)
  refine mc_putn E hG t0 fq_X10_9 (show mCu (σ oa1) by rw [show σ oa1 = 2 from hoa1]; exact mu_2) dX10_thinks_5 (fun H locs hG => ?_)
  have hG : mGH G (σ, σ oa1, qX a) s H locs := hG
  rw [show σ oa1 = 2 from hoa1] at hG
  refine lv_aload_n hx hb dX10_thinks_8 rfl (lv_at hl 0 rfl) ?_
  refine mc_getr E hG t0 mr_15 dX10_thinks_9 (fun oa2 hoa2 => ?_)
  refine lv_aload_n hx hb dX10_thinks_12 rfl (lv_at hl 1 rfl) ?_
  refine mc_callvX hG (mc_runS (As := [.ref oa2, .ref h1]) (rest := []) E hG (c_X10_copies l G σ 2 a 2 γ ta oa2 h1 hoa2 t1 mu_2 hc hc2 ha h45) ks_X10_copies ml_X10_401 ⟨rfl, rfl, Nat.le_of_ble_eq_true rfl, Nat.le_of_ble_eq_true rfl⟩ rfl hl.1 rfl (Nat.le_of_ble_eq_true rfl) ⟨Nat.zero_le _, Nat.zero_le _⟩ dX10_thinks_13) (fun Z H locs eZ pZ hG => ?_)
  subst pZ
  clear eZ
  refine lv_aload_n hx hb dX10_thinks_16 rfl (lv_at hl 0 rfl) ?_
  refine lv_aload_n hx hb dX10_thinks_17 rfl (lv_at hl 1 rfl) ?_
  refine mc_putn E hG t0 fq_X10_9 (show mCu (σ h1) by rw [show σ h1 = γ from t1]; exact hc) dX10_thinks_18 (fun H locs hG => ?_)
  have hG : mGH G (σ, σ h1, qX (upA a γ ta)) s H locs := hG
  rw [show σ h1 = γ from t1] at hG
  refine lv_aload_n hx hb dX10_thinks_21 rfl (lv_at hl 0 rfl) ?_
  refine lv_dup hx hb dX10_thinks_22 rfl ?_
  refine mc_geti E hG t0 mi_343 dX10_thinks_23 (fun z3 lz3 uz3 qz3 => ?_)
  refine lv_aload_n hx hb dX10_thinks_26 rfl (lv_at hl 0 rfl) ?_
  refine tc_callp (mc_runV (As := []) (rest := [.int z3, .ref h0]) E hG (c_X10_many l G (σ, γ, qX (upA a γ ta)) h0 t0) t0 rfl kv_X10_many ml_X10_405 ⟨rfl, rfl, Nat.le_of_ble_eq_true rfl, Nat.le_of_ble_eq_true rfl⟩ rfl hl.1 rfl (Nat.le_of_ble_eq_true rfl) ⟨Nat.zero_le _, Nat.zero_le _⟩ dX10_thinks_27) (fun r4 pr4 => ?_)
  refine lv_iadd hx hb dX10_thinks_30 ?_
  refine lv_topi (fun z5 ez5 => ?_)
  refine mc_put E hG t0 mp_343 (qn (by unfold mCu; decide) (by decide)) (t_any1 _) (t_any2 _) rfl rfl dX10_thinks_31 (fun H locs hG => ?_)
  exact mc_vretX E hr hlk hG rfl rfl dX10_thinks_34

set_option maxHeartbeats 4000000 in
set_option maxRecDepth 100000 in
theorem c_X10_laysInThought (l : Launch) (G : tG) (σ : Nat → Nat) (cu : Nat) (a : Nat → Option (Nat → Int32)) (ta : Nat → Int32) (h0 : Nat) (t0 : σ h0 = 1) (hIa : TInv ta) : Met l yX10_laysInThought (.code yX10_laysInThought cX10_laysInThought 1 none :: tWS) (tRm 9 208) (va_Pc [.ref h0] (mPre G (σ, cu, qX (upA a cu ta)))) (mQvX G (σ, cu, qX (upA a cu ta)) (fun Z => ∃ t : Nat → Int32, Z = (σ, cu, qX (upA a cu t)) ∧ AG ta t ∧ TInv t)) 0 0 (mA (σ, cu, qX (upA a cu ta))) := by
  refine mc_met (by decide) (Nat.le_of_ble_eq_true rfl) ?_
  intro p e s m below meth c E hr hlk hG ls hl
  have hl : lv_has ls 1 [(0, .ref h0)] := hl
  have hx := E.1
  have hb := E.2.1
  obtain ⟨H, eH⟩ : ∃ H, H = s.heap := ⟨_, rfl⟩
  obtain ⟨locs, eL⟩ : ∃ x : List Loc, x = [] := ⟨_, rfl⟩
  have hG : mGH G (σ, cu, qX (upA a cu ta)) s H locs := by rw [eH, eL]; exact hG
  suffices hW : W p l e (tRm 9 208) s m ([.ref h0] : List Value).toArray below meth c H locs 0 0 (MQ below (mQvX G (σ, cu, qX (upA a cu ta)) (fun Z => ∃ t : Nat → Int32, Z = (σ, cu, qX (upA a cu t)) ∧ AG ta t ∧ TInv t)) ([.ref h0] : List Value).toArray s 0 0 (mA (σ, cu, qX (upA a cu ta)))) (F0 m 0 ls []) by subst eH; subst eL; exact hW
  clear eH eL
  have hcu : mCu cu := hG.2.2.1
  have hI := hIa
  refine lv_aload_n hx hb dX10_laysInThought_0 rfl (lv_at hl 0 rfl) ?_
  refine mc_callvX hG (mc_runV (As := []) (rest := []) E hG (c_X10_layOut l G σ cu a ta h0 t0 hI) t0 rfl kv_X10_layOut ml_X10_318 ⟨rfl, rfl, Nat.le_of_ble_eq_true rfl, Nat.le_of_ble_eq_true rfl⟩ rfl hl.1 rfl (Nat.le_of_ble_eq_true rfl) ⟨Nat.zero_le _, Nat.zero_le _⟩ dX10_laysInThought_1) (fun Z H locs eZ pZ hG => ?_)
  obtain ⟨t2, rfl, pt2, hI⟩ := pZ
  clear eZ
  have h3n : (t2 3).toInt = (ta 3).toInt := by rw [pt2.2.1]
  have h0n : (t2 0).toInt = (ta 0).toInt := by rw [pt2.1]
  refine lv_aload_n hx hb dX10_laysInThought_4 rfl (lv_at hl 0 rfl) ?_
  refine lv_dup hx hb dX10_laysInThought_5 rfl ?_
  refine mc_geti E hG t0 mi_343 dX10_laysInThought_6 (fun z3 lz3 uz3 qz3 => ?_)
  refine lv_aload_n hx hb dX10_laysInThought_9 rfl (lv_at hl 0 rfl) ?_
  refine mc_geti E hG t0 mi_215 dX10_laysInThought_10 (fun z4 lz4 uz4 qz4 => ?_)
  refine lv_aload_n hx hb dX10_laysInThought_13 rfl (lv_at hl 0 rfl) ?_
  refine mc_geti E hG t0 mi_212 dX10_laysInThought_14 (fun z5 lz5 uz5 qz5 => ?_)
  refine lv_iadd hx hb dX10_laysInThought_17 ?_
  refine lv_topi (fun z6 ez6 => ?_)
  refine lv_iadd hx hb dX10_laysInThought_18 ?_
  refine lv_topi (fun z7 ez7 => ?_)
  refine mc_put E hG t0 mp_343 (qn (by unfold mCu; decide) (by decide)) (t_any1 _) (t_any2 _) rfl rfl dX10_laysInThought_19 (fun H locs hG => ?_)
  exact mc_vretX E hr hlk hG rfl ⟨_, rfl, pt2, hI⟩ dX10_laysInThought_22

