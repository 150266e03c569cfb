/-! ===== the reference: asking ===== -/
/-- what holds of MEMOS as long as it is asked -/
def AQ (t : Nat → Int32) (F : mF) (cu : Nat) (x1 x2 : Int32) (d : Int) : Prop := TInv (tM t (F cu)) ∧ (1 ≤ d → F 6 0 = x1 ∧ F 7 0 = x2) ∧ (¬ 1 ≤ d → rmb (tM t (F cu)) x1.toInt x2.toInt)
theorem AQ_one {t : Nat → Int32} {F F1 F2 : mF} {cu : Nat} {x1 x2 : Int32} (hcu : mCu cu) (hI : TInv (tM t (F cu))) (e1 : F1 = up2 F 6 0 x1) (e2 : F2 = up2 F1 7 0 x2) : AQ t F2 cu x1 x2 1 := by
  have hc6 : ¬ cu = 6 ∧ ¬ cu = 7 := by rcases hcu with e | e | e | e <;> subst e <;> decide
  have gc : F2 cu = F cu := by rw [e2, up2_nc hc6.2, e1, up2_nc hc6.1]
  exact ⟨by rw [gc]; exact hI, fun _ => ⟨by rw [e2, up2_ne (by decide), e1, up2_at], by rw [e2, up2_at]⟩, fun z => absurd (Int.le_refl 1) z⟩
theorem AQ_push {t : Nat → Int32} {F F1 F2 : mF} {cu n : Nat} {x1 x2 c w : Int32} {d d' : Int} (hcu : mCu cu) (h : AQ t F cu x1 x2 d) (hd : 1 ≤ d) (hn : 1 ≤ n) (e1 : F1 = up2 F 6 n c) (e2 : F2 = up2 F1 7 n w) (hd' : 1 ≤ d') : AQ t F2 cu x1 x2 d' := by
  have hc6 : ¬ cu = 6 ∧ ¬ cu = 7 := by rcases hcu with e | e | e | e <;> subst e <;> decide
  have gc : F2 cu = F cu := by rw [e2, up2_nc hc6.2, e1, up2_nc hc6.1]
  exact ⟨by rw [gc]; exact h.1, fun _ => ⟨by rw [e2, up2_ne (by omega), e1, up2_ne (by omega)]; exact (h.2.1 hd).1, by rw [e2, up2_ne (by omega), e1, up2_ne (by omega)]; exact (h.2.1 hd).2⟩, fun z => absurd hd' z⟩
theorem AQ_pop {t : Nat → Int32} {F F1 F2 : mF} {cu n : Nat} {x1 x2 a w m v : Int32} {d d' : Int} (hcu : mCu cu) (h : AQ t F cu x1 x2 d) (hd : 1 ≤ d) (hn : (n : Int) = d - 1) (hd' : d' = d - 1) (ea : a = F 6 n) (ew : w = F 7 n) (hb : rCm (tM t (F cu)) a.toInt) (h3 : 0 ≤ w.toInt) (h4 : w.toInt ≤ 1) (em : m = F cu (ix a.toInt 21)) (h1 : 0 ≤ m.toInt) (h2 : m.toInt ≤ 3) (e1 : F1 = up2 F cu (ix a.toInt (22 + w.toInt)) v) (e2 : F2 = up2 F1 cu (ix a.toInt 21) (m ||| (1 <<< (w &&& 31))))
    (hv : v.toInt = anI (K (tM t (F cu))) a.toInt w.toInt (fun i : Nat => K (tM t (F cu)) (K (tM t (F cu)) a.toInt (11 + (i : Int))) (22 + whI (K (tM t (F cu)) a.toInt 1) w.toInt))) (hk9 : KN (K (tM t (F cu)) a.toInt 1) → ∀ i : Int, 0 ≤ i → i < K (tM t (F cu)) a.toInt 10 → rmb (tM t (F cu)) (K (tM t (F cu)) a.toInt (11 + i)) (whI (K (tM t (F cu)) a.toInt 1) w.toInt)) : AQ t F2 cu x1 x2 d' := by
  have hc6 : ¬ 6 = cu ∧ ¬ 7 = cu := by rcases hcu with e | e | e | e <;> subst e <;> decide
  have g6 : F2 6 = F 6 := by rw [e2, up2_nc hc6.1, e1, up2_nc hc6.1]
  have g7 : F2 7 = F 7 := by rw [e2, up2_nc hc6.2, e1, up2_nc hc6.2]
  have gc : F2 cu = upN (upN (F cu) (ix a.toInt (22 + w.toInt)) v) (ix a.toInt 21) (m ||| (1 <<< (w &&& 31))) := by rw [e2, up2_c, e1, up2_c]
  obtain ⟨r1, r2⟩ := RKEEP h.1 hb h3 h4 em h1 h2 gc hv hk9
  refine ⟨r1, fun _ => by rw [g6, g7]; exact h.2.1 hd, fun z => ?_⟩
  have e0 : n = 0 := by omega
  subst e0
  obtain ⟨q1, q2⟩ := h.2.1 hd
  rw [← q1, ← q2, ← ea, ← ew]
  exact r2
/-- ASKED alone has changed -/
theorem AI_asked {cu : Nat} {t3 d : Int} {F F1 : mF} {b w : Int} {v : Int32} (hcu : mCu cu) (h : AI cu t3 F d) (hb : 0 ≤ b) (hw : 0 ≤ w) (hw1 : w ≤ 1) (e1 : F1 = up2 F cu (ix b (22 + w)) v) : AI cu t3 F1 d ∧ AM cu F1 d = AM cu F d ∧ F1 6 = F 6 ∧ F1 7 = F 7 ∧ ∀ b' : Int, 0 ≤ b' → F1 cu (ix b' 21) = F cu (ix b' 21) := by
  have hc6 : ¬ 6 = cu ∧ ¬ 7 = cu := by rcases hcu with e | e | e | e <;> subst e <;> decide
  have g6 : F1 6 = F 6 := by rw [e1, up2_nc hc6.1]
  have g7 : F1 7 = F 7 := by rw [e1, up2_nc hc6.2]
  have g21 : ∀ b' : Int, 0 ≤ b' → F1 cu (ix b' 21) = F cu (ix b' 21) := fun b' h0 => by
    rw [e1, up2_ne (fun z => by have := (ix_inj h0 (by decide) (by decide) hb (by omega) (by omega) z.2).2; omega)]
  refine ⟨⟨by rw [g6]; exact h.1, fun i hi => ?_⟩, ?_, g6, g7, g21⟩
  · have h0 := (h.1 i hi).1
    rw [g6, g7, g21 _ (by omega)]
    exact h.2 i hi
  · unfold AM
    rw [ms_eq (fun i hi => by show uM (F1 cu (ix (i : Int) 21)) = uM (F cu (ix (i : Int) 21)); rw [g21 _ (by omega)])]
theorem TI_rng {G : tG} {Y : mY} {t : Nat → Int32} {s : State} {H : Heap} {locs : List Loc} {a : Nat} (hG : mGH G Y s H locs) (ha : Y.1 a = 1) (hT : TI Y t) {b k : Int} (h1 : 0 ≤ b) (h2 : b ≤ 23) (h3 : 0 ≤ k) (h4 : k ≤ 18) : (fR k.toNat).1 ≤ K t b k ∧ K t b k ≤ (fR k.toNat).2 := by
  have hat := mTH.at hG.1 (a := a) (by rw [ha]; decide)
  rw [ha] at hat
  obtain ⟨r, V, g1, -, g3⟩ := hat
  have hr : r = (RX10, TX10, 40) := Option.some.inj (g1.symm.trans fc_X10.1)
  subst hr
  obtain ⟨q, -, e⟩ : ∃ b : Nat, V 0 = .ref b ∧ Y.1 b = Y.2.1 := (g3 0 (by decide)).1
  have hc := hG.2.2.1
  have hat2 := mTH.at hG.1 (a := q) (by rw [e]; exact mCu_nz hc)
  rw [e, mShp_cu hc] at hat2
  obtain ⟨V2, g4, g5⟩ := hat2
  have h5 := (g5 (ix b k) (by unfold ix; omega)).1
  have h5 : msv Y Y.2.1 (ix b k) _ := h5
  unfold msv at h5
  rw [mFD_cu hc, ix_div h1 h3 (by omega)] at h5
  obtain ⟨x, -, q1, q2, q3⟩ := h5
  rw [q3 _ (hT.2.2 b k h1 h2 h3 (Or.inl h4))] at q1 q2
  exact ⟨q1, q2⟩
theorem TI_kra {G : tG} {Y : mY} {t : Nat → Int32} {s : State} {H : Heap} {locs : List Loc} {a : Nat} (hG : mGH G Y s H locs) (ha : Y.1 a = 1) (hT : TI Y t) (hI : TInv0 t) : KRA (rCm t) (K t) := fun b hb =>
  ⟨TI_rng hG ha hT hb.1 hb.2.1 (k := 2) (by decide) (by decide), TI_rng hG ha hT hb.1 hb.2.1 (k := 3) (by decide) (by decide), TI_rng hG ha hT hb.1 hb.2.1 (k := 7) (by decide) (by decide), TI_rng hG ha hT hb.1 hb.2.1 (k := 8) (by decide) (by decide), hI.2.2.2.2.2.2.2.2 b hb.1 hb.2.1⟩
theorem rmb_val {t : Nat → Int32} {b w : Int} (hI : TInv t) (hb : rCm t b) (hm : rmb t b w) : K t b (22 + w) = asT (K t) 24 b w := by
  have hw : w = 0 ∨ w = 1 := by
    rcases hm with q | q
    · exact Or.inl q.1
    · exact Or.inr q.1
  exact (hI.r b w hb hw hm).1
theorem rmb_bd {t : Nat → Int32} {b w : Int} (hI : TInv t) (hr : KRA (rCm t) (K t)) (hb : rCm t b) (hm : rmb t b w) : 0 ≤ K t b (22 + w) ∧ K t b (22 + w) ≤ 13600 := by
  obtain ⟨hk, -⟩ := K_LOC (t' := t) hI.z (fun _ _ _ _ _ => rfl)
  have h2 := asT_bd hk hr 24 b w hb
  rw [rmb_val hI hb hm]
  omega
theorem TI_ch {t : Nat → Int32} {b i : Int} (hI : TInv t) (hb : rCm t b) (h0 : 0 ≤ i) (h1 : i < K t b 10) : rCm t (K t b (11 + i)) :=
  (((K_LOC (t' := t) hI.z (fun _ _ _ _ _ => rfl)).1 b hb).2 i h0 h1).2.2
theorem OFM_asT {t t' : Nat → Int32} {b w : Int} (h : OFM t t') (hI : TInv t) (hb : rCm t b) : asT (K t') 24 b w = asT (K t) 24 b w := by
  obtain ⟨hk, hL⟩ := K_LOC (t' := t') hI.z (fun b' k q1 q2 q3 => h.K q1 q2 (by omega) (by omega))
  exact asT_cg hk hL 24 b w (by have := hb.1; omega) hb
theorem rCm_tM {t f : Nat → Int32} {b : Int} (h0 : 0 ≤ b) (h1 : b ≤ 23) (h2 : b < (t 3).toInt) : rCm (tM t f) b := ⟨h0, h1, by rw [tM_n (mem_0 (by decide))]; exact h2⟩


set_option maxHeartbeats 4000000 in
set_option maxRecDepth 100000 in
theorem c_X10_asksIt (l : Launch) (G : tG) (σ : Nat → Nat) (cu : Nat) (X : mX) (h0 : Nat) (x1 : Int32) (x2 : Int32) (t0 : σ h0 = 1) (l1 : 0 ≤ x1.toInt) (u1 : x1.toInt ≤ 23) (l2 : 0 ≤ x2.toInt) (u2 : x2.toInt ≤ 1) (t : Nat → Int32) (hT : TI (σ, cu, X) t) (hI : TInv t) (hA : mAV (σ, cu, X)) (hc : x1.toInt < (t 3).toInt) : Met l yX10_asksIt (.code yX10_asksIt cX10_asksIt 7 (some .int) :: tWS) (tRm 5 116) (va_Pc [.ref h0, .int x1, .int x2] (mPre G (σ, cu, X))) (mQiX G (σ, cu, X) (fun r Z => ∃ t1 : Nat → Int32, Z = (σ, cu, upM X cu t1) ∧ OFM t t1 ∧ TInv t1 ∧ r.toInt = asT (K t) 24 x1.toInt x2.toInt)) 0 0 (mA (σ, cu, X)) := by
  refine mc_met (by decide) (Nat.le_of_ble_eq_true rfl) ?_
  intro p e s m below meth c E hr hlk hG ls hl
  have hl : lv_has ls 7 [(0, .ref h0), (1, .int x1), (2, .int x2)] := hl
  have hx := E.1
  have hb := E.2.1
  obtain ⟨H, eH⟩ : ∃ H, H = s.heap := ⟨_, rfl⟩
  obtain ⟨locs, eL⟩ : ∃ x : List Loc, x = [] := ⟨_, rfl⟩
  have hG : mGH G (σ, cu, X) s H locs := by rw [eH, eL]; exact hG
  suffices hW : W p l e (tRm 5 116) s m ([.ref h0, .int x1, .int x2] : List Value).toArray below meth c H locs 0 0 (MQ below (mQiX G (σ, cu, X) (fun r Z => ∃ t1 : Nat → Int32, Z = (σ, cu, upM X cu t1) ∧ OFM t t1 ∧ TInv t1 ∧ r.toInt = asT (K t) 24 x1.toInt x2.toInt)) ([.ref h0, .int x1, .int x2] : List Value).toArray s 0 0 (mA (σ, cu, X))) (F0 m 0 ls []) by subst eH; subst eL; exact hW
  clear eH eL
  obtain ⟨Fa, hFa, hG⟩ := mGainX hG
  have hG : mGH G (σ, cu, kO (PA cu) X Fa) s H locs := hG (PA cu)
  have hcu : mCu cu := hG.2.2.1
  have hTM0 : tM t (Fa cu) = t := tM_self (fun k h => hFa _ _ _ (TI_mem hT h))
  obtain ⟨t_Fa, et_Fa⟩ : ∃ T : Nat → Int32, T = tM t (Fa cu) := ⟨_, rfl⟩
  have hT_Fa : TI (σ, cu, kO (PA cu) X Fa) t_Fa := by rw [et_Fa]; exact PA_TI hcu hT
  have hTM1 : TInv (tM t (Fa cu)) := by rw [hTM0]; exact hI
  have J32 : ∀ (n32 : Nat) (F : mF) (H : Heap) (locs : List Loc) (ls : Array Slot) (v3 : Int32), mGH G (σ, cu, kO (PA cu) X F) s H locs → lv_has ls 7 [(0, .ref h0), (1, .int x1), (2, .int x2), (3, .int v3)] → 0 ≤ v3.toInt → v3.toInt ≤ 24 → (AI cu (t 3).toInt F v3.toInt ∧ AQ t F cu x1 x2 v3.toInt) → AM cu F v3.toInt < n32 → W p l e (tRm 5 116) s m ([.ref h0, .int x1, .int x2] : List Value).toArray below meth c H locs 0 0 (MQ below (mQiX G (σ, cu, X) (fun r Z => ∃ t1 : Nat → Int32, Z = (σ, cu, upM X cu t1) ∧ OFM t t1 ∧ TInv t1 ∧ r.toInt = asT (K t) 24 x1.toInt x2.toInt)) ([.ref h0, .int x1, .int x2] : List Value).toArray s 0 0 (mA (σ, cu, X))) (F0 m 32 ls []) := by
    intro n32
    induction n32 with
    | zero => intro F H locs ls v3 hG hl b3 c3 hex32 hn32; exact absurd hn32 (Nat.not_lt_zero _)
    | succ n32 ih32 =>
      intro F H locs ls v3 hG hl b3 c3 hex32 hn32
      obtain ⟨t_F, et_F⟩ : ∃ T : Nat → Int32, T = tM t (F cu) := ⟨_, rfl⟩
      have hT_F : TI (σ, cu, kO (PA cu) X F) t_F := by rw [et_F]; exact PA_TI hcu hT
      have hI_F : TInv t_F := by rw [et_F]; exact hex32.2.1
      have hKR := TI_kra hG t0 hT_F hI_F.z
      have h3e : t_F 3 = t 3 := by rw [et_F]; exact tM_n (mem_0 (by decide))
      refine lv_iload_n hx hb dX10_asksIt_32 rfl (lv_at hl 3 rfl) ?_
      refine lv_if_le (tgt := 179) hx hb dX10_asksIt_33 (by decide) (fun c1 => ?_) (fun c1 => ?_)
      · skip
        have ic1 := tn_le rfl kI_0 c1
        refine lv_aload_n hx hb dX10_asksIt_179 rfl (lv_at hl 0 rfl) ?_
        refine lv_iload_n hx hb dX10_asksIt_180 rfl (lv_at hl 1 rfl) ?_
        refine lv_bipush (v := 22) hx hb dX10_asksIt_181 (by decide) ?_
        refine lv_iload_n hx hb dX10_asksIt_183 rfl (lv_at hl 2 rfl) ?_
        refine lv_iadd hx hb dX10_asksIt_184 ?_
        refine lv_topi (fun z2 ez2 => ?_)
        have tz2 := tn_add ez2 kI_22 rfl (by omega) (by omega)
        refine tc_callp (mc_runV (As := [.int x1, .int z2]) (rest := []) E hG (c_X10_get l G (σ, cu, kO (PA cu) X F) h0 x1 z2 t0 (by omega) (by omega) (by omega) (by omega)) t0 rfl kv_X10_get ml_X10_91 ⟨rfl, rfl, Nat.le_of_ble_eq_true rfl, Nat.le_of_ble_eq_true rfl⟩ rfl hl.1 rfl (Nat.le_of_ble_eq_true rfl) ⟨Nat.zero_le _, Nat.zero_le _⟩ dX10_asksIt_185) (fun r3 pr3 => ?_)
        replace pr3 : mV (σ, cu, kO (PA cu) X F) (ix x1.toInt z2.toInt) r3 := pr3
        have hG := PA_end (t := t) hcu hA hG
        have hm9 := hex32.2.2.2 (by omega)
        rw [← et_F] at hm9 hG
        have hr9 : rCm t_F x1.toInt := ⟨by omega, by omega, by rw [h3e]; omega⟩
        have hv9 := mT pr3 hT_F (by omega) (by omega) (by omega) (by omega)
        rw [show z2.toInt = 22 + x2.toInt by omega, rmb_val hI_F hr9 hm9] at hv9
        have hO9 : OFM t t_F := by rw [et_F]; exact OFM_tM
        rw [OFM_asT hO9 hI ⟨by omega, by omega, by omega⟩] at hv9
        exact mc_iretX E hr hlk hG rfl rfl ⟨_, rfl, hO9, hI_F, hv9⟩ dX10_asksIt_188
      · skip
        have ic1 := tn_nle rfl kI_0 c1
        refine lv_aload_n hx hb dX10_asksIt_36 rfl (lv_at hl 0 rfl) ?_
        refine mc_getr E hG t0 mr_27 dX10_asksIt_37 (fun oa4 hoa4 => ?_)
        refine lv_iload_n hx hb dX10_asksIt_40 rfl (lv_at hl 3 rfl) ?_
        refine lv_iconst (v := 1) hx hb dX10_asksIt_41 (by decide) ?_
        refine lv_isub hx hb dX10_asksIt_42 ?_
        refine lv_topi (fun z5 ez5 => ?_)
        have tz5 := tn_sub ez5 rfl kI_1 (by omega) (by omega)
        refine mc_iald E hG hoa4 ma_6 (t_in (by omega) (by omega)) dX10_asksIt_43 (fun z6 lz6 uz6 qz6 => ?_)
        have wz6 := kq qz6 (PA_6)
        refine lv_istore (lv' := [(4, .int z6), (0, .ref h0), (1, .int x1), (2, .int x2), (3, .int v3)]) hx hb dX10_asksIt_44 hl (by decide) rfl (fun ls hl => ?_)
        refine lv_aload_n hx hb dX10_asksIt_46 rfl (lv_at hl 1 rfl) ?_
        refine mc_getr E hG t0 mr_30 dX10_asksIt_47 (fun oa7 hoa7 => ?_)
        refine lv_iload_n hx hb dX10_asksIt_50 rfl (lv_at hl 4 rfl) ?_
        refine lv_iconst (v := 1) hx hb dX10_asksIt_51 (by decide) ?_
        refine lv_isub hx hb dX10_asksIt_52 ?_
        refine lv_topi (fun z8 ez8 => ?_)
        have tz8 := tn_sub ez8 rfl kI_1 (by omega) (by omega)
        refine mc_iald E hG hoa7 ma_7 (t_in (by omega) (by omega)) dX10_asksIt_53 (fun z9 lz9 uz9 qz9 => ?_)
        have wz9 := kq qz9 (PA_7)
        refine lv_istore (lv' := [(5, .int z9), (4, .int z6), (0, .ref h0), (1, .int x1), (2, .int x2), (3, .int v3)]) hx hb dX10_asksIt_54 hl (by decide) rfl (fun ls hl => ?_)
        refine lv_aload_n hx hb dX10_asksIt_56 rfl (lv_at hl 2 rfl) ?_
        refine lv_iload hx hb dX10_asksIt_57 (lv_at hl 1 rfl) ?_
        refine lv_iload hx hb dX10_asksIt_59 (lv_at hl 0 rfl) ?_
        refine tc_callp (mc_runV (As := [.int z6, .int z9]) (rest := []) E hG (q_X10_untold l G (σ, cu, kO (PA cu) X F) h0 z6 z9 t0 (by omega) (by omega) (by omega) (by omega) t_F hT_F hI_F.z) t0 rfl kv_X10_untold ml_X10_196 ⟨rfl, rfl, Nat.le_of_ble_eq_true rfl, Nat.le_of_ble_eq_true rfl⟩ rfl hl.1 rfl (Nat.le_of_ble_eq_true rfl) ⟨Nat.zero_le _, Nat.zero_le _⟩ dX10_asksIt_61) (fun r10 pr10 => ?_)
        replace pr10 : (r10.toInt = -1 ∧ (K t_F z6.toInt 1 = 6 ∨ ∀ i : Int, 0 ≤ i → i < K t_F z6.toInt 10 → rmb t_F (K t_F z6.toInt (11 + i)) (whI (K t_F z6.toInt 1) z9.toInt))) ∨ (z6.toInt < r10.toInt ∧ r10.toInt ≤ 23 ∧ r10.toInt < (t_F 3).toInt ∧ ∃ me : Int32, mV (σ, cu, kO (PA cu) X F) (ix r10.toInt 21) me ∧ ((K t_F z6.toInt 1 = 5 ∧ bU me 0) ∨ (¬ K t_F z6.toInt 1 = 5 ∧ bU me z9))) := pr10
        have br10 : -1 ≤ r10.toInt ∧ r10.toInt ≤ 23 := by rcases pr10 with h | h <;> omega
        refine lv_istore (lv' := [(6, .int r10), (5, .int z9), (4, .int z6), (0, .ref h0), (1, .int x1), (2, .int x2), (3, .int v3)]) hx hb dX10_asksIt_64 hl (by decide) rfl (fun ls hl => ?_)
        refine lv_iload hx hb dX10_asksIt_66 (lv_at hl 0 rfl) ?_
        refine lv_if_lt (tgt := 108) hx hb dX10_asksIt_68 (by decide) (fun c11 => ?_) (fun c11 => ?_)
        · skip
          have ic11 := tn_lt rfl kI_0 c11
          refine lv_aload_n hx hb dX10_asksIt_108 rfl (lv_at hl 3 rfl) ?_
          refine lv_iload hx hb dX10_asksIt_109 (lv_at hl 2 rfl) ?_
          refine lv_bipush (v := 22) hx hb dX10_asksIt_111 (by decide) ?_
          refine lv_iload hx hb dX10_asksIt_113 (lv_at hl 1 rfl) ?_
          refine lv_iadd hx hb dX10_asksIt_115 ?_
          refine lv_topi (fun z12 ez12 => ?_)
          have tz12 := tn_add ez12 kI_22 rfl (by omega) (by omega)
          refine lv_aload_n hx hb dX10_asksIt_116 rfl (lv_at hl 3 rfl) ?_
          refine lv_iload hx hb dX10_asksIt_117 (lv_at hl 2 rfl) ?_
          refine lv_iload hx hb dX10_asksIt_119 (lv_at hl 1 rfl) ?_
          have hu9 : K t_F z6.toInt 1 = 6 ∨ ∀ i : Int, 0 ≤ i → i < K t_F z6.toInt 10 → rmb t_F (K t_F z6.toInt (11 + i)) (whI (K t_F z6.toInt 1) z9.toInt) := by
            rcases pr10 with h | h
            · exact h.2
            · exfalso; have := h.1; omega
          have ha9 := hex32.1.2 z5.toNatClampNeg (by show ((z5.toInt.toNat : Nat) : Int) < _; omega)
          rw [← wz6] at ha9
          have hrc : rCm t_F z6.toInt := ⟨by omega, by omega, by rw [h3e]; exact ha9.1⟩
          have hk9 : KN (K t_F z6.toInt 1) → ∀ i : Int, 0 ≤ i → i < K t_F z6.toInt 10 → rmb t_F (K t_F z6.toInt (11 + i)) (whI (K t_F z6.toInt 1) z9.toInt) := fun h => hu9.resolve_left (fun z => h (Or.inr (Or.inr z)))
          have hB9 : KN (K t_F z6.toInt 1) → ∀ i : Int, 0 ≤ i → i < K t_F z6.toInt 10 → 0 ≤ K t_F (K t_F z6.toInt (11 + i)) (22 + whI (K t_F z6.toInt 1) z9.toInt) ∧ K t_F (K t_F z6.toInt (11 + i)) (22 + whI (K t_F z6.toInt 1) z9.toInt) ≤ 13600 := fun h i h0 h1 => rmb_bd hI_F hKR (TI_ch hI_F hrc h0 h1) (hk9 h i h0 h1)
          refine tc_callp (mc_runV (As := [.int z6, .int z9]) (rest := [.int z12, .int z6, .ref h0]) E hG (q_X10_answerOf l G (σ, cu, kO (PA cu) X F) h0 z6 z9 t0 (by omega) (by omega) (by omega) (by omega) t_F hT_F hI_F.z hB9) t0 rfl kv_X10_answerOf ml_X10_199 ⟨rfl, rfl, Nat.le_of_ble_eq_true rfl, Nat.le_of_ble_eq_true rfl⟩ rfl hl.1 rfl (Nat.le_of_ble_eq_true rfl) ⟨Nat.zero_le _, Nat.zero_le _⟩ dX10_asksIt_121) (fun r13 pr13 => ?_)
          replace pr13 : r13.toInt = anI (K t_F) z6.toInt z9.toInt (fun i : Nat => K t_F (K t_F z6.toInt (11 + (i : Int))) (22 + whI (K t_F z6.toInt 1) z9.toInt)) := pr13
          have k14 : fR z12.toInt.toNat = (-2147483648, 2147483647) := by rcases (show z12.toInt = 22 ∨ z12.toInt = 23 by omega) with h9 | h9 <;> rw [h9] <;> rfl
          refine mc_callvX hG (mc_runV (As := [.int z6, .int z12, .int r13]) (rest := []) E hG (c_X10_putX l G (σ, cu, kO (PA cu) X F) h0 z6 z12 r13 t0 (by omega) (by omega) (by omega) (by omega) (-2147483648) (2147483647) k14 (t_any1 _) (t_any2 _)) t0 rfl kv_X10_put ml_X10_102 ⟨rfl, rfl, Nat.le_of_ble_eq_true rfl, Nat.le_of_ble_eq_true rfl⟩ rfl hl.1 rfl (Nat.le_of_ble_eq_true rfl) ⟨Nat.zero_le _, Nat.zero_le _⟩ dX10_asksIt_124) (fun Z H locs eZ pZ hG => ?_)
          rw [pZ] at hG
          clear eZ pZ Z
          rw [show z12.toInt = 22 + z9.toInt by omega] at hG
          have hG := kO_set (PA_m (b := z6.toInt) (k := (22 + z9.toInt)) (by omega) (by omega) (by omega) (by omega)) hG
          obtain ⟨F15, eF15⟩ : ∃ Z : mF, Z = up2 F cu (ix z6.toInt (22 + z9.toInt)) r13 := ⟨_, rfl⟩
          rw [← eF15] at hG
          obtain ⟨t_F15, et_F15⟩ : ∃ T : Nat → Int32, T = tM t (F15 cu) := ⟨_, rfl⟩
          have hT_F15 : TI (σ, cu, kO (PA cu) X F15) t_F15 := by rw [et_F15]; exact PA_TI hcu hT
          refine lv_aload_n hx hb dX10_asksIt_127 rfl (lv_at hl 3 rfl) ?_
          refine lv_iload hx hb dX10_asksIt_128 (lv_at hl 2 rfl) ?_
          refine lv_bipush (v := 21) hx hb dX10_asksIt_130 (by decide) ?_
          refine lv_aload_n hx hb dX10_asksIt_132 rfl (lv_at hl 3 rfl) ?_
          refine lv_iload hx hb dX10_asksIt_133 (lv_at hl 2 rfl) ?_
          refine lv_bipush (v := 21) hx hb dX10_asksIt_135 (by decide) ?_
          refine tc_callp (mc_runV (As := [.int z6, .int 21]) (rest := [.int 21, .int z6, .ref h0]) E hG (c_X10_get l G (σ, cu, kO (PA cu) X F15) h0 z6 (21 : Int32) t0 (by omega) (by omega) (by decide) (by decide)) t0 rfl kv_X10_get ml_X10_91 ⟨rfl, rfl, Nat.le_of_ble_eq_true rfl, Nat.le_of_ble_eq_true rfl⟩ rfl hl.1 rfl (Nat.le_of_ble_eq_true rfl) ⟨Nat.zero_le _, Nat.zero_le _⟩ dX10_asksIt_137) (fun r16 pr16 => ?_)
          replace pr16 : mV (σ, cu, kO (PA cu) X F15) (ix z6.toInt (21 : Int32).toInt) r16 := pr16
          have pr16 := mV_l pr16 kI_21
          have br16 := mV_21 pr16 (by omega)
          have cr16 := mT pr16 hT_F15 (by omega) (by omega) (by decide) (by decide)
          have k17 := kI_21
          have wr16 := kv pr16 (PA_m (by omega) (by omega) (by decide) (by decide))
          refine lv_iconst (v := 1) hx hb dX10_asksIt_140 (by decide) ?_
          refine lv_iload hx hb dX10_asksIt_141 (lv_at hl 1 rfl) ?_
          refine lv_ishl hx hb dX10_asksIt_143 ?_
          refine lv_topi (fun z18 ez18 => ?_)
          refine lv_ior hx hb dX10_asksIt_144 ?_
          refine lv_topi (fun z19 ez19 => ?_)
          have hor := bU_or (m := r16) (w := z9) (by omega) (by omega) (by omega) (by omega)
          rw [← ez18, ← ez19] at hor
          refine mc_callvX hG (mc_runV (As := [.int z6, .int 21, .int z19]) (rest := []) E hG (c_X10_putX l G (σ, cu, kO (PA cu) X F15) h0 z6 (21 : Int32) z19 t0 (by omega) (by omega) (by decide) (by decide) (0) (3) rfl (by omega) (by omega)) t0 rfl kv_X10_put ml_X10_102 ⟨rfl, rfl, Nat.le_of_ble_eq_true rfl, Nat.le_of_ble_eq_true rfl⟩ rfl hl.1 rfl (Nat.le_of_ble_eq_true rfl) ⟨Nat.zero_le _, Nat.zero_le _⟩ dX10_asksIt_145) (fun Z H locs eZ pZ hG => ?_)
          rw [pZ] at hG
          clear eZ pZ Z
          rw [show (21 : Int32).toInt = 21 from kI_21] at hG
          have hG := kO_set (PA_m (b := z6.toInt) (k := 21) (by omega) (by omega) (by omega) (by omega)) hG
          obtain ⟨F20, eF20⟩ : ∃ Z : mF, Z = up2 F15 cu (ix z6.toInt 21) z19 := ⟨_, rfl⟩
          rw [← eF20] at hG
          obtain ⟨t_F20, et_F20⟩ : ∃ T : Nat → Int32, T = tM t (F20 cu) := ⟨_, rfl⟩
          have hT_F20 : TI (σ, cu, kO (PA cu) X F20) t_F20 := by rw [et_F20]; exact PA_TI hcu hT
          refine lv_aload_n hx hb dX10_asksIt_148 rfl (lv_at hl 3 rfl) ?_
          refine lv_dup hx hb dX10_asksIt_149 rfl ?_
          refine mc_geti E hG t0 mi_202 dX10_asksIt_150 (fun z21 lz21 uz21 qz21 => ?_)
          refine lv_aload_n hx hb dX10_asksIt_153 rfl (lv_at hl 3 rfl) ?_
          refine mc_getn E hG t0 ff_X10_9 dX10_asksIt_154 (fun oa22 hoa22 => ?_)
          refine lv_aload_n hx hb dX10_asksIt_157 rfl (lv_at hl 3 rfl) ?_
          refine mc_getr E hG t0 mr_15 dX10_asksIt_158 (fun oa23 hoa23 => ?_)
          refine lv_acmp_ne (rx := some oa22) (ry := some oa23) (tgt := 168) hx hb dX10_asksIt_161 (by decide) (fun c24 => ?_) (fun c24 => ?_)
          · skip
            refine lv_iconst (v := 0) hx hb dX10_asksIt_168 (by decide) ?_
            refine lv_iadd hx hb dX10_asksIt_169 ?_
            refine lv_topi (fun z25 ez25 => ?_)
            refine mc_put E hG t0 mp_202 (kn (PA_1 hcu) (hA.2.1 _ (by decide))) (t_any1 _) (t_any2 _) rfl rfl dX10_asksIt_170 (fun H locs hG => ?_)
            obtain ⟨z26, ez26⟩ : ∃ y : Int32, y = v3 + (-1) := ⟨_, rfl⟩
            refine lv_iinc (v := z26) (lv' := [(3, .int z26), (6, .int r10), (5, .int z9), (4, .int z6), (0, .ref h0), (1, .int x1), (2, .int x2)]) hx hb dX10_asksIt_173 hl (k := 6) rfl (by rw [ez26]; rfl) (by decide) rfl (fun ls hl => ?_)
            have tz26 := tn_add ez26 rfl kI_m1 (by omega) (by omega)
            refine lv_goto (tgt := 32) hx hb dX10_asksIt_176 (by decide) ?_
            rw [ez19, ez18] at eF20
            have hi8 : z8.toNatClampNeg = z5.toNatClampNeg := by show z8.toInt.toNat = z5.toInt.toNat; omega
            rw [hi8] at wz9
            have hD9 := AI_asked (w := z9.toInt) hcu hex32.1 (by omega) (by omega) (by omega) eF15
            have hn9 : ((z5.toNatClampNeg : Nat) : Int) = v3.toInt - 1 := by show ((z5.toInt.toNat : Nat) : Int) = _; omega
            have hA9 := AI_pop (n := z5.toNatClampNeg) hD9.1 (by omega) hcu hn9 (by rw [hD9.2.2.1]; exact wz6) wr16 (by rw [hD9.2.2.2.1]; exact wz9) (by omega) (by omega) (by omega) (by omega) eF20
            rw [hD9.2.1] at hA9
            rw [et_F] at hrc hk9 pr13
            have hQ9 := AQ_pop (n := z5.toNatClampNeg) (d' := z26.toInt) hcu hex32.2 (by omega) hn9 (by omega) wz6 wz9 hrc (by omega) (by omega) (wr16.trans (hD9.2.2.2.2 _ (by omega))) (by omega) (by omega) eF15 eF20 pr13 hk9
            have q9 : v3.toInt - 1 = z26.toInt := by omega
            rw [q9] at hA9
            have hP2 := hA9.2
            have hP3 := hA9.1.1.le
            have hP := And.intro hA9.1 hQ9
            exact ih32 F20 H locs ls z26 hG (lv_sub hl [4, 5, 6, 0] rfl) (by omega) (by omega) (by exact hP) (by omega)
          · skip
            refine lv_iconst (v := 1) hx hb dX10_asksIt_164 (by decide) ?_
            refine lv_goto (tgt := 169) hx hb dX10_asksIt_165 (by decide) ?_
            refine lv_iadd hx hb dX10_asksIt_169 ?_
            refine lv_topi (fun z27 ez27 => ?_)
            refine mc_put E hG t0 mp_202 (kn (PA_1 hcu) (hA.2.1 _ (by decide))) (t_any1 _) (t_any2 _) rfl rfl dX10_asksIt_170 (fun H locs hG => ?_)
            obtain ⟨z28, ez28⟩ : ∃ y : Int32, y = v3 + (-1) := ⟨_, rfl⟩
            refine lv_iinc (v := z28) (lv' := [(3, .int z28), (6, .int r10), (5, .int z9), (4, .int z6), (0, .ref h0), (1, .int x1), (2, .int x2)]) hx hb dX10_asksIt_173 hl (k := 6) rfl (by rw [ez28]; rfl) (by decide) rfl (fun ls hl => ?_)
            have tz28 := tn_add ez28 rfl kI_m1 (by omega) (by omega)
            refine lv_goto (tgt := 32) hx hb dX10_asksIt_176 (by decide) ?_
            rw [ez19, ez18] at eF20
            have hi8 : z8.toNatClampNeg = z5.toNatClampNeg := by show z8.toInt.toNat = z5.toInt.toNat; omega
            rw [hi8] at wz9
            have hD9 := AI_asked (w := z9.toInt) hcu hex32.1 (by omega) (by omega) (by omega) eF15
            have hn9 : ((z5.toNatClampNeg : Nat) : Int) = v3.toInt - 1 := by show ((z5.toInt.toNat : Nat) : Int) = _; omega
            have hA9 := AI_pop (n := z5.toNatClampNeg) hD9.1 (by omega) hcu hn9 (by rw [hD9.2.2.1]; exact wz6) wr16 (by rw [hD9.2.2.2.1]; exact wz9) (by omega) (by omega) (by omega) (by omega) eF20
            rw [hD9.2.1] at hA9
            rw [et_F] at hrc hk9 pr13
            have hQ9 := AQ_pop (n := z5.toNatClampNeg) (d' := z28.toInt) hcu hex32.2 (by omega) hn9 (by omega) wz6 wz9 hrc (by omega) (by omega) (wr16.trans (hD9.2.2.2.2 _ (by omega))) (by omega) (by omega) eF15 eF20 pr13 hk9
            have q9 : v3.toInt - 1 = z28.toInt := by omega
            rw [q9] at hA9
            have hP2 := hA9.2
            have hP3 := hA9.1.1.le
            have hP := And.intro hA9.1 hQ9
            exact ih32 F20 H locs ls z28 hG (lv_sub hl [4, 5, 6, 0] rfl) (by omega) (by omega) (by exact hP) (by omega)
        · skip
          have ic11 := tn_nlt rfl kI_0 c11
          refine lv_aload_n hx hb dX10_asksIt_71 rfl (lv_at hl 3 rfl) ?_
          refine mc_getr E hG t0 mr_27 dX10_asksIt_72 (fun oa29 hoa29 => ?_)
          refine lv_iload_n hx hb dX10_asksIt_75 rfl (lv_at hl 6 rfl) ?_
          refine lv_iload hx hb dX10_asksIt_76 (lv_at hl 0 rfl) ?_
          refine mc_iastX E hG hoa29 ma_6.1 ma_6.2.1 (ma_6.2.2 _) (t_in (by omega) (by omega)) (by omega) (by omega) dX10_asksIt_78 (fun H locs hG => ?_)
          have hG := kO_set (PA_6) hG
          obtain ⟨F30, eF30⟩ : ∃ Z : mF, Z = up2 F 6 (v3).toNatClampNeg r10 := ⟨_, rfl⟩
          rw [← eF30] at hG
          obtain ⟨t_F30, et_F30⟩ : ∃ T : Nat → Int32, T = tM t (F30 cu) := ⟨_, rfl⟩
          have hT_F30 : TI (σ, cu, kO (PA cu) X F30) t_F30 := by rw [et_F30]; exact PA_TI hcu hT
          refine lv_aload_n hx hb dX10_asksIt_79 rfl (lv_at hl 3 rfl) ?_
          refine mc_getr E hG t0 mr_30 dX10_asksIt_80 (fun oa31 hoa31 => ?_)
          refine lv_iload_n hx hb dX10_asksIt_83 rfl (lv_at hl 6 rfl) ?_
          refine lv_aload_n hx hb dX10_asksIt_84 rfl (lv_at hl 3 rfl) ?_
          refine lv_iload hx hb dX10_asksIt_85 (lv_at hl 2 rfl) ?_
          refine lv_iconst (v := 1) hx hb dX10_asksIt_87 (by decide) ?_
          refine tc_callp (mc_runV (As := [.int z6, .int 1]) (rest := [.int v3, .ref oa31]) E hG (c_X10_get l G (σ, cu, kO (PA cu) X F30) h0 z6 (1 : Int32) t0 (by omega) (by omega) (by decide) (by decide)) t0 rfl kv_X10_get ml_X10_91 ⟨rfl, rfl, Nat.le_of_ble_eq_true rfl, Nat.le_of_ble_eq_true rfl⟩ rfl hl.1 rfl (Nat.le_of_ble_eq_true rfl) ⟨Nat.zero_le _, Nat.zero_le _⟩ dX10_asksIt_88) (fun r32 pr32 => ?_)
          replace pr32 : mV (σ, cu, kO (PA cu) X F30) (ix z6.toInt (1 : Int32).toInt) r32 := pr32
          have pr32 := mV_l pr32 kI_1
          have br32 := mV_1 pr32 (by omega)
          have cr32 := mT pr32 hT_F30 (by omega) (by omega) (by decide) (by decide)
          have k33 := kI_1
          refine lv_iconst (v := 5) hx hb dX10_asksIt_91 (by decide) ?_
          refine lv_icmp_ne (tgt := 99) hx hb dX10_asksIt_92 (by decide) (fun c34 => ?_) (fun c34 => ?_)
          · skip
            have ic34 := tn_ne rfl kI_5 c34
            refine lv_iload hx hb dX10_asksIt_99 (lv_at hl 1 rfl) ?_
            refine mc_iastX E hG hoa31 ma_7.1 ma_7.2.1 (ma_7.2.2 _) (t_in (by omega) (by omega)) (by omega) (by omega) dX10_asksIt_101 (fun H locs hG => ?_)
            have hG := kO_set (PA_7) hG
            obtain ⟨F35, eF35⟩ : ∃ Z : mF, Z = up2 F30 7 (v3).toNatClampNeg z9 := ⟨_, rfl⟩
            rw [← eF35] at hG
            obtain ⟨t_F35, et_F35⟩ : ∃ T : Nat → Int32, T = tM t (F35 cu) := ⟨_, rfl⟩
            have hT_F35 : TI (σ, cu, kO (PA cu) X F35) t_F35 := by rw [et_F35]; exact PA_TI hcu hT
            obtain ⟨z36, ez36⟩ : ∃ y : Int32, y = v3 + (1) := ⟨_, rfl⟩
            refine lv_iinc (v := z36) (lv' := [(3, .int z36), (6, .int r10), (5, .int z9), (4, .int z6), (0, .ref h0), (1, .int x1), (2, .int x2)]) hx hb dX10_asksIt_102 hl (k := 6) rfl (by rw [ez36]; rfl) (by decide) rfl (fun ls hl => ?_)
            have tz36 := tn_add ez36 rfl kI_1 (by omega) (by omega)
            refine lv_goto (tgt := 176) hx hb dX10_asksIt_105 (by decide) ?_
            refine lv_goto (tgt := 32) hx hb dX10_asksIt_176 (by decide) ?_
            have hi9 : z5.toNatClampNeg = (v3.toInt - 1).toNat := by show z5.toInt.toNat = _; omega
            rw [hi9] at wz6
            obtain ⟨g1, g2, g3, me, g4, g5⟩ := pr10.resolve_left (fun z => by have := z.1; omega)
            rw [h3e] at g3
            have wm := kv g4 (PA_m (by omega) (by omega) (by decide) (by decide))
            have hk1 : K t_F30 z6.toInt 1 = K t_F z6.toInt 1 := by rw [et_F30, et_F]; show (tM _ _ _).toInt = (tM _ _ _).toInt; rw [tM_n (mem_n (by omega) (by decide) (by decide) (by decide)), tM_n (mem_n (by omega) (by decide) (by decide) (by decide))]
            have hz : bU (F cu (ix r10.toInt 21)) z9 := by rw [← wm]; rcases g5 with ⟨q1, q2⟩ | ⟨q1, q2⟩ <;> first | (exfalso; omega) | exact q2
            have hA9 := AI_push (n := v3.toNatClampNeg) hex32.1 (by omega) hcu (by show ((v3.toInt.toNat : Nat) : Int) = _; omega) eF30 eF35 (by rw [← wz6]; omega) (by omega) (by omega) hz
            have hQ9 := AQ_push (n := v3.toNatClampNeg) (d' := z36.toInt) hcu hex32.2 (by omega) (by show 1 ≤ v3.toInt.toNat; omega) eF30 eF35 (by omega)
            have q9 : v3.toInt + 1 = z36.toInt := by omega
            rw [q9] at hA9
            have hP2 := hA9.2
            have hP3 := hA9.1.1.le
            have hP := And.intro hA9.1 hQ9
            exact ih32 F35 H locs ls z36 hG (lv_sub hl [4, 5, 6, 0] rfl) (by omega) (by omega) (by exact hP) (by omega)
          · skip
            have ic34 := tn_eq rfl kI_5 c34
            refine lv_iconst (v := 0) hx hb dX10_asksIt_95 (by decide) ?_
            refine lv_goto (tgt := 101) hx hb dX10_asksIt_96 (by decide) ?_
            refine mc_iastX E hG hoa31 ma_7.1 ma_7.2.1 (ma_7.2.2 _) (t_in (by omega) (by omega)) (by decide) (by decide) dX10_asksIt_101 (fun H locs hG => ?_)
            have hG := kO_set (PA_7) hG
            obtain ⟨F37, eF37⟩ : ∃ Z : mF, Z = up2 F30 7 (v3).toNatClampNeg (0 : Int32) := ⟨_, rfl⟩
            rw [← eF37] at hG
            obtain ⟨t_F37, et_F37⟩ : ∃ T : Nat → Int32, T = tM t (F37 cu) := ⟨_, rfl⟩
            have hT_F37 : TI (σ, cu, kO (PA cu) X F37) t_F37 := by rw [et_F37]; exact PA_TI hcu hT
            obtain ⟨z38, ez38⟩ : ∃ y : Int32, y = v3 + (1) := ⟨_, rfl⟩
            refine lv_iinc (v := z38) (lv' := [(3, .int z38), (6, .int r10), (5, .int z9), (4, .int z6), (0, .ref h0), (1, .int x1), (2, .int x2)]) hx hb dX10_asksIt_102 hl (k := 6) rfl (by rw [ez38]; rfl) (by decide) rfl (fun ls hl => ?_)
            have tz38 := tn_add ez38 rfl kI_1 (by omega) (by omega)
            refine lv_goto (tgt := 176) hx hb dX10_asksIt_105 (by decide) ?_
            refine lv_goto (tgt := 32) hx hb dX10_asksIt_176 (by decide) ?_
            have hi9 : z5.toNatClampNeg = (v3.toInt - 1).toNat := by show z5.toInt.toNat = _; omega
            rw [hi9] at wz6
            obtain ⟨g1, g2, g3, me, g4, g5⟩ := pr10.resolve_left (fun z => by have := z.1; omega)
            rw [h3e] at g3
            have wm := kv g4 (PA_m (by omega) (by omega) (by decide) (by decide))
            have hk1 : K t_F30 z6.toInt 1 = K t_F z6.toInt 1 := by rw [et_F30, et_F]; show (tM _ _ _).toInt = (tM _ _ _).toInt; rw [tM_n (mem_n (by omega) (by decide) (by decide) (by decide)), tM_n (mem_n (by omega) (by decide) (by decide) (by decide))]
            have hz : bU (F cu (ix r10.toInt 21)) (0 : Int32) := by rw [← wm]; rcases g5 with ⟨q1, q2⟩ | ⟨q1, q2⟩ <;> first | (exfalso; omega) | exact q2
            have hA9 := AI_push (n := v3.toNatClampNeg) hex32.1 (by omega) hcu (by show ((v3.toInt.toNat : Nat) : Int) = _; omega) eF30 eF37 (by rw [← wz6]; omega) (by omega) (by omega) hz
            have hQ9 := AQ_push (n := v3.toNatClampNeg) (d' := z38.toInt) hcu hex32.2 (by omega) (by show 1 ≤ v3.toInt.toNat; omega) eF30 eF37 (by omega)
            have q9 : v3.toInt + 1 = z38.toInt := by omega
            rw [q9] at hA9
            have hP2 := hA9.2
            have hP3 := hA9.1.1.le
            have hP := And.intro hA9.1 hQ9
            exact ih32 F37 H locs ls z38 hG (lv_sub hl [4, 5, 6, 0] rfl) (by omega) (by omega) (by exact hP) (by omega)
  refine lv_iconst (v := 0) hx hb dX10_asksIt_0 (by decide) ?_
  refine lv_istore_n (lv' := [(3, .int 0), (0, .ref h0), (1, .int x1), (2, .int x2)]) hx hb dX10_asksIt_1 rfl hl (by decide) rfl (fun ls hl => ?_)
  refine lv_aload_n hx hb dX10_asksIt_2 rfl (lv_at hl 1 rfl) ?_
  refine lv_iload_n hx hb dX10_asksIt_3 rfl (lv_at hl 2 rfl) ?_
  refine lv_bipush (v := 21) hx hb dX10_asksIt_4 (by decide) ?_
  refine tc_callp (mc_runV (As := [.int x1, .int 21]) (rest := []) E hG (c_X10_get l G (σ, cu, kO (PA cu) X Fa) h0 x1 (21 : Int32) t0 (by omega) (by omega) (by decide) (by decide)) t0 rfl kv_X10_get ml_X10_91 ⟨rfl, rfl, Nat.le_of_ble_eq_true rfl, Nat.le_of_ble_eq_true rfl⟩ rfl hl.1 rfl (Nat.le_of_ble_eq_true rfl) ⟨Nat.zero_le _, Nat.zero_le _⟩ dX10_asksIt_6) (fun r39 pr39 => ?_)
  replace pr39 : mV (σ, cu, kO (PA cu) X Fa) (ix x1.toInt (21 : Int32).toInt) r39 := pr39
  have pr39 := mV_l pr39 kI_21
  have br39 := mV_21 pr39 (by omega)
  have cr39 := mT pr39 hT_Fa (by omega) (by omega) (by decide) (by decide)
  have k40 := kI_21
  have wr39 := kv pr39 (PA_m (by omega) (by omega) (by decide) (by decide))
  refine lv_iload_n hx hb dX10_asksIt_9 rfl (lv_at hl 3 rfl) ?_
  refine lv_ishr hx hb dX10_asksIt_10 ?_
  refine lv_topi (fun z41 ez41 => ?_)
  refine lv_iconst (v := 1) hx hb dX10_asksIt_11 (by decide) ?_
  refine lv_iand hx hb dX10_asksIt_12 ?_
  refine lv_topi (fun z42 ez42 => ?_)
  refine lv_if_ne (tgt := 32) hx hb dX10_asksIt_13 (by decide) (fun c43 => ?_) (fun c43 => ?_)
  · skip
    have ic43 := tn_ne rfl kI_0 c43
    have hm9 : rmb (tM t (Fa cu)) x1.toInt x2.toInt := by rw [← et_Fa]; exact rmb_of hT_Fa pr39 (by omega) (by omega) rfl (by omega) (by omega) (by rw [← ez41, ← ez42]; omega)
    have hP : AI cu (t 3).toInt Fa (0 : Int32).toInt ∧ AQ t Fa cu x1 x2 (0 : Int32).toInt := ⟨AI_0, hTM1, fun z => absurd z (by decide), fun _ => hm9⟩
    exact J32 (AM cu Fa (0 : Int32).toInt + 1) Fa H locs ls (0 : Int32) hG (lv_sub hl [1, 2, 3, 0] rfl) (by decide) (by decide) (by exact hP) (Nat.lt_succ_self _)
  · skip
    have ic43 := tn_eq rfl kI_0 c43
    refine lv_aload_n hx hb dX10_asksIt_16 rfl (lv_at hl 1 rfl) ?_
    refine mc_getr E hG t0 mr_27 dX10_asksIt_17 (fun oa44 hoa44 => ?_)
    refine lv_iconst (v := 0) hx hb dX10_asksIt_20 (by decide) ?_
    refine lv_iload_n hx hb dX10_asksIt_21 rfl (lv_at hl 2 rfl) ?_
    refine mc_iastX E hG hoa44 ma_6.1 ma_6.2.1 (ma_6.2.2 _) (t_in (by decide) (by decide)) (by omega) (by omega) dX10_asksIt_22 (fun H locs hG => ?_)
    have hG := kO_set (PA_6) hG
    obtain ⟨F45, eF45⟩ : ∃ Z : mF, Z = up2 Fa 6 ((0 : Int32)).toNatClampNeg x1 := ⟨_, rfl⟩
    rw [← eF45] at hG
    obtain ⟨t_F45, et_F45⟩ : ∃ T : Nat → Int32, T = tM t (F45 cu) := ⟨_, rfl⟩
    have hT_F45 : TI (σ, cu, kO (PA cu) X F45) t_F45 := by rw [et_F45]; exact PA_TI hcu hT
    refine lv_aload_n hx hb dX10_asksIt_23 rfl (lv_at hl 1 rfl) ?_
    refine mc_getr E hG t0 mr_30 dX10_asksIt_24 (fun oa46 hoa46 => ?_)
    refine lv_iconst (v := 0) hx hb dX10_asksIt_27 (by decide) ?_
    refine lv_iload_n hx hb dX10_asksIt_28 rfl (lv_at hl 3 rfl) ?_
    refine mc_iastX E hG hoa46 ma_7.1 ma_7.2.1 (ma_7.2.2 _) (t_in (by decide) (by decide)) (by omega) (by omega) dX10_asksIt_29 (fun H locs hG => ?_)
    have hG := kO_set (PA_7) hG
    obtain ⟨F47, eF47⟩ : ∃ Z : mF, Z = up2 F45 7 ((0 : Int32)).toNatClampNeg x2 := ⟨_, rfl⟩
    rw [← eF47] at hG
    obtain ⟨t_F47, et_F47⟩ : ∃ T : Nat → Int32, T = tM t (F47 cu) := ⟨_, rfl⟩
    have hT_F47 : TI (σ, cu, kO (PA cu) X F47) t_F47 := by rw [et_F47]; exact PA_TI hcu hT
    refine lv_iconst (v := 1) hx hb dX10_asksIt_30 (by decide) ?_
    refine lv_istore_n (lv' := [(3, .int 1), (0, .ref h0), (1, .int x1), (2, .int x2)]) hx hb dX10_asksIt_31 rfl hl (by decide) rfl (fun ls hl => ?_)
    have hz : bU (Fa cu (ix x1.toInt 21)) x2 := by unfold bU; rw [← wr39, ← ez41, ← ez42]; omega
    have hP : AI cu (t 3).toInt F47 (1 : Int32).toInt ∧ AQ t F47 cu x1 x2 (1 : Int32).toInt := ⟨AI_one (t3 := (t 3).toInt) (F := Fa) hcu eF45 eF47 (by omega) (by omega) (by omega) hz, AQ_one (F := Fa) hcu hTM1 eF45 eF47⟩
    exact J32 (AM cu F47 (1 : Int32).toInt + 1) F47 H locs ls (1 : Int32) hG (lv_sub hl [1, 2, 3, 0] rfl) (by decide) (by decide) (by exact hP) (Nat.lt_succ_self _)

