/-! ===== the reference: rounds of parting ===== -/
set_option maxHeartbeats 4000000 in
set_option maxRecDepth 100000 in
theorem c_X10_roundOf (l : Launch) (G : tG) (σ : Nat → Nat) (cu : Nat) (X : mX) (h0 : Nat) (x1 : Int32) (x2 : Int32) (x3 : Int32) (t0 : σ h0 = 1) (l1 : 0 ≤ x1.toInt) (u1 : x1.toInt ≤ 23) (l2 : 0 ≤ x2.toInt) (u2 : x2.toInt ≤ 1000) (t : Nat → Int32) (hT : TI (σ, cu, X) t) (hI : TInv t) (hA : mAV (σ, cu, X)) (hO : OK8 t x1.toInt x3) (hE : ∃ j : Int32, 0 ≤ j.toInt ∧ j.toInt ≤ 7 ∧ bS x3 j) : Met l yX10_roundOf (.code yX10_roundOf cX10_roundOf 14 (some .int) :: tWS) (tRm 2 44) (va_Pc [.ref h0, .int x1, .int x2, .int x3] (mPre G (σ, cu, X))) (mQi G (σ, cu, X) (fun r => (r = x3 ∨ hasB x3 r))) 0 0 (mA (σ, cu, X)) := by
  refine mc_met (by decide) (Nat.le_of_ble_eq_true rfl) ?_
  intro p e s m below meth c E hr hlk hG ls hl
  have hl : lv_has ls 14 [(0, .ref h0), (1, .int x1), (2, .int x2), (3, .int x3)] := hl
  have hx := E.1
  have hb := E.2.1
  obtain ⟨H, eH⟩ : ∃ H, H = s.heap := ⟨_, rfl⟩
  obtain ⟨locs, eL⟩ : ∃ x : List Loc, x = [] := ⟨_, rfl⟩
  have hG : mGH G (σ, cu, X) s H locs := by rw [eH, eL]; exact hG
  suffices hW : W p l e (tRm 2 44) s m ([.ref h0, .int x1, .int x2, .int x3] : List Value).toArray below meth c H locs 0 0 (MQ below (mQi G (σ, cu, X) (fun r => (r = x3 ∨ hasB x3 r))) ([.ref h0, .int x1, .int x2, .int x3] : List Value).toArray s 0 0 (mA (σ, cu, X))) (F0 m 0 ls []) by subst eH; subst eL; exact hW
  clear eH eL
  obtain ⟨Fa, hG⟩ := mGain hG
  have hG : mGH G (σ, cu, kO PG X Fa) s H locs := hG PG
  have hcu : mCu cu := hG.2.2.1
  have J146 : ∀ (n146 : Nat) (F : mF) (H : Heap) (locs : List Loc) (ls : Array Slot) (v4 : Int32) (v6 : Int32) (v7 : Int32) (v8 : Int32) (v9 : Int32) (v10 : Int32), mGH G (σ, cu, kO PG X F) s H locs → lv_has ls 14 [(0, .ref h0), (1, .int x1), (2, .int x2), (3, .int x3), (4, .int v4), (6, .int v6), (7, .int v7), (8, .int v8), (9, .int v9), (10, .int v10)] → 0 ≤ v4.toInt → v4.toInt ≤ 8 → 0 ≤ v6.toInt → v6.toInt ≤ 1000 → 0 ≤ v7.toInt → v7.toInt ≤ 8000 → 0 ≤ v10.toInt → v10.toInt ≤ 8 → (L3 x3 x1.toInt F x2.toInt v6.toInt v7.toInt v4.toInt v10.toInt v8 v9 ∧ v4.toInt = K t x1.toInt 10 ∧ v7.toInt ≤ 1000 * v10.toInt ∧ v10.toInt ≤ v4.toInt) → (8 - v10.toInt).toNat < n146 → W p l e (tRm 2 44) s m ([.ref h0, .int x1, .int x2, .int x3] : List Value).toArray below meth c H locs 0 0 (MQ below (mQi G (σ, cu, X) (fun r => (r = x3 ∨ hasB x3 r))) ([.ref h0, .int x1, .int x2, .int x3] : List Value).toArray s 0 0 (mA (σ, cu, X))) (F0 m 146 ls []) := by
    intro n146
    induction n146 with
    | zero => intro F H locs ls v4 v6 v7 v8 v9 v10 hG hl b4 c4 b6 c6 b7 c7 b10 c10 hex146 hn146; exact absurd hn146 (Nat.not_lt_zero _)
    | succ n146 ih146 =>
      intro F H locs ls v4 v6 v7 v8 v9 v10 hG hl b4 c4 b6 c6 b7 c7 b10 c10 hex146 hn146
      refine lv_iload hx hb dX10_roundOf_146 (lv_at hl 9 rfl) ?_
      refine lv_iload hx hb dX10_roundOf_148 (lv_at hl 4 rfl) ?_
      refine lv_icmp_ge (tgt := 305) hx hb dX10_roundOf_150 (by decide) (fun c1 => ?_) (fun c1 => ?_)
      · skip
        have ic1 := tn_le rfl rfl c1
        refine lv_iload hx hb dX10_roundOf_305 (lv_at hl 6 rfl) ?_
        refine lv_iload_n hx hb dX10_roundOf_307 rfl (lv_at hl 2 rfl) ?_
        refine lv_icmp_ne (tgt := 315) hx hb dX10_roundOf_308 (by decide) (fun c2 => ?_) (fun c2 => ?_)
        · skip
          have ic2 := tn_ne rfl rfl c2
          refine lv_iload hx hb dX10_roundOf_315 (lv_at hl 6 rfl) ?_
          refine lv_iload_n hx hb dX10_roundOf_317 rfl (lv_at hl 2 rfl) ?_
          refine lv_icmp_le (tgt := 326) hx hb dX10_roundOf_318 (by decide) (fun c3 => ?_) (fun c3 => ?_)
          · skip
            have ic3 := tn_le rfl rfl c3
            refine lv_iload hx hb dX10_roundOf_326 (lv_at hl 8 rfl) ?_
            have hG := kO_drop (PG_none hA) hG
            exact mc_iret E hr hlk hG (L3_e (r := v9) hex146.1 (by omega) (by first | exact Or.inl ⟨by omega, rfl⟩ | exact Or.inr (Or.inl ⟨by omega, rfl⟩) | exact Or.inr (Or.inr ⟨by omega, rfl⟩))) dX10_roundOf_328
          · skip
            have ic3 := tn_nle rfl rfl c3
            refine lv_iload hx hb dX10_roundOf_321 (lv_at hl 7 rfl) ?_
            refine lv_goto (tgt := 328) hx hb dX10_roundOf_323 (by decide) ?_
            have hG := kO_drop (PG_none hA) hG
            exact mc_iret E hr hlk hG (L3_e (r := v8) hex146.1 (by omega) (by first | exact Or.inl ⟨by omega, rfl⟩ | exact Or.inr (Or.inl ⟨by omega, rfl⟩) | exact Or.inr (Or.inr ⟨by omega, rfl⟩))) dX10_roundOf_328
        · skip
          have ic2 := tn_eq rfl rfl c2
          refine lv_iload_n hx hb dX10_roundOf_311 rfl (lv_at hl 3 rfl) ?_
          refine lv_goto (tgt := 328) hx hb dX10_roundOf_312 (by decide) ?_
          have hG := kO_drop (PG_none hA) hG
          exact mc_iret E hr hlk hG (L3_e (r := x3) hex146.1 (by omega) (by first | exact Or.inl ⟨by omega, rfl⟩ | exact Or.inr (Or.inl ⟨by omega, rfl⟩) | exact Or.inr (Or.inr ⟨by omega, rfl⟩))) dX10_roundOf_328
      · skip
        have ic1 := tn_nle rfl rfl c1
        refine lv_iload_n hx hb dX10_roundOf_153 rfl (lv_at hl 3 rfl) ?_
        refine lv_iload hx hb dX10_roundOf_154 (lv_at hl 9 rfl) ?_
        refine lv_ishr hx hb dX10_roundOf_156 ?_
        refine lv_topi (fun z4 ez4 => ?_)
        refine lv_iconst (v := 1) hx hb dX10_roundOf_157 (by decide) ?_
        refine lv_iand hx hb dX10_roundOf_158 ?_
        refine lv_topi (fun z5 ez5 => ?_)
        refine lv_iconst (v := 1) hx hb dX10_roundOf_159 (by decide) ?_
        refine lv_icmp_ne (tgt := 299) hx hb dX10_roundOf_160 (by decide) (fun c6 => ?_) (fun c6 => ?_)
        · skip
          have ic6 := tn_ne rfl kI_1 c6
          obtain ⟨z7, ez7⟩ : ∃ y : Int32, y = v10 + (1) := ⟨_, rfl⟩
          refine lv_iinc (v := z7) (lv' := [(10, .int z7), (0, .ref h0), (1, .int x1), (2, .int x2), (3, .int x3), (4, .int v4), (6, .int v6), (7, .int v7), (8, .int v8), (9, .int v9)]) hx hb dX10_roundOf_299 hl (k := 9) rfl (by rw [ez7]; rfl) (by decide) rfl (fun ls hl => ?_)
          have tz7 := tn_add ez7 rfl kI_1 (by omega) (by omega)
          refine lv_goto (tgt := 146) hx hb dX10_roundOf_302 (by decide) ?_
          have hbit : ¬ bS x3 v10 := by show ¬ ((x3 >>> (v10 &&& 31)) &&& 1).toInt = 1; rw [← ez4, ← ez5]; omega
          have hL := L3_n hex146.1 (z := z7) (by omega) (by omega) (by omega) hbit
          exact ih146 F H locs ls v4 v6 v7 v8 v9 z7 hG (lv_sub hl [1, 2, 3, 4, 5, 6, 7, 8, 9, 0] rfl) (by omega) (by omega) (by omega) (by omega) (by omega) (by omega) (by omega) (by omega) (by exact ⟨hL, by omega, by first | omega | (have k0 := kI_0; omega), by first | omega | (have k0 := kI_0; omega)⟩) (by omega)
        · skip
          have ic6 := tn_eq rfl kI_1 c6
          refine lv_aload_n hx hb dX10_roundOf_163 rfl (lv_at hl 0 rfl) ?_
          refine lv_iload_n hx hb dX10_roundOf_164 rfl (lv_at hl 1 rfl) ?_
          refine lv_iload hx hb dX10_roundOf_165 (lv_at hl 9 rfl) ?_
          refine tc_callp (mc_runV (As := [.int x1, .int v10]) (rest := []) E hG (c_X10_childOf l G (σ, cu, kO PG X F) h0 x1 v10 t0 (by omega) (by omega) (by omega) (by omega)) t0 rfl kv_X10_childOf ml_X10_153 ⟨rfl, rfl, Nat.le_of_ble_eq_true rfl, Nat.le_of_ble_eq_true rfl⟩ rfl hl.1 rfl (Nat.le_of_ble_eq_true rfl) ⟨Nat.zero_le _, Nat.zero_le _⟩ dX10_roundOf_167) (fun r8 pr8 => ?_)
          replace pr8 : mV (σ, cu, kO PG X F) (ix x1.toInt (11 + v10.toInt)) r8 := pr8
          have br8 := mV_r 11 18 0 23 pr8 (by omega) (by omega) (by omega) (by decide) (by decide)
          have cr8 := mT pr8 (kO_TI (PG_tr hcu) hT) (by omega) (by omega) (by omega) (by omega)
          have dr8 := mP11 cr8 hI (by omega) (by omega) (by omega)
          refine lv_istore (lv' := [(11, .int r8), (0, .ref h0), (1, .int x1), (2, .int x2), (3, .int x3), (4, .int v4), (6, .int v6), (7, .int v7), (8, .int v8), (9, .int v9), (10, .int v10)]) hx hb dX10_roundOf_170 hl (by decide) rfl (fun ls hl => ?_)
          refine lv_aload_n hx hb dX10_roundOf_172 rfl (lv_at hl 1 rfl) ?_
          refine mc_getr E hG t0 mr_45 dX10_roundOf_173 (fun oa9 hoa9 => ?_)
          refine lv_bipush (v := 8) hx hb dX10_roundOf_176 (by decide) ?_
          refine lv_iload_n hx hb dX10_roundOf_178 rfl (lv_at hl 2 rfl) ?_
          refine lv_imul hx hb dX10_roundOf_179 ?_
          refine lv_topi (fun z10 ez10 => ?_)
          have tz10 := tn_mul ez10 kI_8 rfl (by omega) (by omega)
          refine lv_iload hx hb dX10_roundOf_180 (lv_at hl 10 rfl) ?_
          refine lv_iadd hx hb dX10_roundOf_182 ?_
          refine lv_topi (fun z11 ez11 => ?_)
          have tz11 := tn_add ez11 rfl rfl (by omega) (by omega)
          refine mc_iald E hG hoa9 ma_12 (t_in (by omega) (by omega)) dX10_roundOf_183 (fun z12 lz12 uz12 qz12 => ?_)
          have wz12 := kq qz12 (PG_12)
          refine lv_iload hx hb dX10_roundOf_184 (lv_at hl 6 rfl) ?_
          refine lv_if_le (tgt := 193) hx hb dX10_roundOf_186 (by decide) (fun c13 => ?_) (fun c13 => ?_)
          · skip
            have ic13 := tn_le rfl kI_0 c13
            refine lv_iconst (v := 0) hx hb dX10_roundOf_193 (by decide) ?_
            refine lv_iadd hx hb dX10_roundOf_194 ?_
            refine lv_topi (fun z14 ez14 => ?_)
            have tz14 := tn_add ez14 rfl kI_0 (by omega) (by omega)
            refine lv_istore (lv' := [(12, .int z14), (11, .int r8), (0, .ref h0), (1, .int x1), (2, .int x2), (3, .int x3), (4, .int v4), (6, .int v6), (7, .int v7), (8, .int v8), (9, .int v9), (10, .int v10)]) hx hb dX10_roundOf_195 hl (by decide) rfl (fun ls hl => ?_)
            refine lv_iload hx hb dX10_roundOf_197 (lv_at hl 7 rfl) ?_
            refine lv_iload hx hb dX10_roundOf_199 (lv_at hl 7 rfl) ?_
            refine lv_if_le (tgt := 208) hx hb dX10_roundOf_201 (by decide) (fun c15 => ?_) (fun c15 => ?_)
            · skip
              have ic15 := tn_le rfl kI_0 c15
              refine lv_iconst (v := 0) hx hb dX10_roundOf_208 (by decide) ?_
              refine lv_isub hx hb dX10_roundOf_209 ?_
              refine lv_topi (fun z16 ez16 => ?_)
              have tz16 := tn_sub ez16 rfl kI_0 (by omega) (by omega)
              refine lv_istore (lv' := [(6, .int z16), (12, .int z14), (11, .int r8), (0, .ref h0), (1, .int x1), (2, .int x2), (3, .int x3), (4, .int v4), (7, .int v7), (8, .int v8), (9, .int v9), (10, .int v10)]) hx hb dX10_roundOf_210 hl (by decide) rfl (fun ls hl => ?_)
              refine lv_iload hx hb dX10_roundOf_212 (lv_at hl 1 rfl) ?_
              refine lv_aload_n hx hb dX10_roundOf_214 rfl (lv_at hl 3 rfl) ?_
              refine lv_iload hx hb dX10_roundOf_215 (lv_at hl 2 rfl) ?_
              refine lv_bipush (v := 7) hx hb dX10_roundOf_217 (by decide) ?_
              refine tc_callp (mc_runV (As := [.int r8, .int 7]) (rest := [.int z14]) E hG (c_X10_get l G (σ, cu, kO PG X F) h0 r8 (7 : Int32) t0 (by omega) (by omega) (by decide) (by decide)) t0 rfl kv_X10_get ml_X10_91 ⟨rfl, rfl, Nat.le_of_ble_eq_true rfl, Nat.le_of_ble_eq_true rfl⟩ rfl hl.1 rfl (Nat.le_of_ble_eq_true rfl) ⟨Nat.zero_le _, Nat.zero_le _⟩ dX10_roundOf_219) (fun r17 pr17 => ?_)
              replace pr17 : mV (σ, cu, kO PG X F) (ix r8.toInt (7 : Int32).toInt) r17 := pr17
              have pr17 := mV_l pr17 kI_7
              have br17 := mV_7 pr17 (by omega)
              have cr17 := mT pr17 (kO_TI (PG_tr hcu) hT) (by omega) (by omega) (by decide) (by decide)
              have k18 := kI_7
              refine lv_aload_n hx hb dX10_roundOf_222 rfl (lv_at hl 3 rfl) ?_
              refine lv_iload hx hb dX10_roundOf_223 (lv_at hl 2 rfl) ?_
              refine lv_bipush (v := 8) hx hb dX10_roundOf_225 (by decide) ?_
              refine tc_callp (mc_runV (As := [.int r8, .int 8]) (rest := [.int r17, .int z14]) E hG (c_X10_get l G (σ, cu, kO PG X F) h0 r8 (8 : Int32) t0 (by omega) (by omega) (by decide) (by decide)) t0 rfl kv_X10_get ml_X10_91 ⟨rfl, rfl, Nat.le_of_ble_eq_true rfl, Nat.le_of_ble_eq_true rfl⟩ rfl hl.1 rfl (Nat.le_of_ble_eq_true rfl) ⟨Nat.zero_le _, Nat.zero_le _⟩ dX10_roundOf_227) (fun r19 pr19 => ?_)
              replace pr19 : mV (σ, cu, kO PG X F) (ix r8.toInt (8 : Int32).toInt) r19 := pr19
              have pr19 := mV_l pr19 kI_8
              have br19 := mV_8 pr19 (by omega)
              have cr19 := mT pr19 (kO_TI (PG_tr hcu) hT) (by omega) (by omega) (by decide) (by decide)
              have k20 := kI_8
              refine tc_callp (mc_runS (As := [.int r19]) (rest := [.int r17, .int z14]) E hG (c_X10_ended l G (σ, cu, kO PG X F) r19 (by omega) (by omega)) ks_X10_ended ml_X10_181 ⟨rfl, rfl, Nat.le_of_ble_eq_true rfl, Nat.le_of_ble_eq_true rfl⟩ rfl hl.1 rfl (Nat.le_of_ble_eq_true rfl) ⟨Nat.zero_le _, Nat.zero_le _⟩ dX10_roundOf_230) (fun r21 pr21 => ?_)
              replace pr21 : (0 ≤ r21.toInt ∧ r21.toInt ≤ 1000) := pr21
              refine tc_callp (mc_runS (As := [.int z14, .int r17, .int r21]) (rest := []) E hG (c_X10_held l G (σ, cu, kO PG X F) z14 r17 r21) ks_X10_held ml_X10_184 ⟨rfl, rfl, Nat.le_of_ble_eq_true rfl, Nat.le_of_ble_eq_true rfl⟩ rfl hl.1 rfl (Nat.le_of_ble_eq_true rfl) ⟨Nat.zero_le _, Nat.zero_le _⟩ dX10_roundOf_233) (fun r22 pr22 => ?_)
              replace pr22 : (r22 = z14 ∧ r17.toInt ≤ z14.toInt ∧ z14.toInt ≤ r21.toInt) ∨ (r22 = r17 ∧ z14.toInt < r17.toInt) ∨ (r22 = r21 ∧ r21.toInt < z14.toInt) := pr22
              have br22 : 0 ≤ r22.toInt ∧ r22.toInt ≤ 1000 := by rcases pr22 with ⟨w, _⟩ | ⟨w, _⟩ | ⟨w, _⟩ <;> rw [w] <;> omega
              refine lv_istore (lv' := [(13, .int r22), (6, .int z16), (12, .int z14), (11, .int r8), (0, .ref h0), (1, .int x1), (2, .int x2), (3, .int x3), (4, .int v4), (7, .int v7), (8, .int v8), (9, .int v9), (10, .int v10)]) hx hb dX10_roundOf_236 hl (by decide) rfl (fun ls hl => ?_)
              refine lv_iload hx hb dX10_roundOf_238 (lv_at hl 10 rfl) ?_
              refine lv_iload hx hb dX10_roundOf_240 (lv_at hl 0 rfl) ?_
              refine lv_iload hx hb dX10_roundOf_242 (lv_at hl 2 rfl) ?_
              refine lv_icmp_le (tgt := 254) hx hb dX10_roundOf_244 (by decide) (fun c23 => ?_) (fun c23 => ?_)
              · skip
                have ic23 := tn_le rfl rfl c23
                refine lv_iconst (v := 0) hx hb dX10_roundOf_254 (by decide) ?_
                refine lv_ior hx hb dX10_roundOf_255 ?_
                refine lv_topi (fun z24 ez24 => ?_)
                refine lv_istore (lv' := [(8, .int z24), (13, .int r22), (6, .int z16), (12, .int z14), (11, .int r8), (0, .ref h0), (1, .int x1), (2, .int x2), (3, .int x3), (4, .int v4), (7, .int v7), (9, .int v9), (10, .int v10)]) hx hb dX10_roundOf_256 hl (by decide) rfl (fun ls hl => ?_)
                refine lv_iload hx hb dX10_roundOf_258 (lv_at hl 11 rfl) ?_
                refine lv_iload hx hb dX10_roundOf_260 (lv_at hl 1 rfl) ?_
                refine lv_iload hx hb dX10_roundOf_262 (lv_at hl 3 rfl) ?_
                refine lv_icmp_ge (tgt := 274) hx hb dX10_roundOf_264 (by decide) (fun c25 => ?_) (fun c25 => ?_)
                · skip
                  have ic25 := tn_le rfl rfl c25
                  refine lv_iconst (v := 0) hx hb dX10_roundOf_274 (by decide) ?_
                  refine lv_ior hx hb dX10_roundOf_275 ?_
                  refine lv_topi (fun z26 ez26 => ?_)
                  refine lv_istore (lv' := [(9, .int z26), (8, .int z24), (13, .int r22), (6, .int z16), (12, .int z14), (11, .int r8), (0, .ref h0), (1, .int x1), (2, .int x2), (3, .int x3), (4, .int v4), (7, .int v7), (10, .int v10)]) hx hb dX10_roundOf_276 hl (by decide) rfl (fun ls hl => ?_)
                  refine lv_aload_n hx hb dX10_roundOf_278 rfl (lv_at hl 6 rfl) ?_
                  refine mc_getr E hG t0 mr_45 dX10_roundOf_279 (fun oa27 hoa27 => ?_)
                  refine lv_bipush (v := 8) hx hb dX10_roundOf_282 (by decide) ?_
                  refine lv_iload_n hx hb dX10_roundOf_284 rfl (lv_at hl 7 rfl) ?_
                  refine lv_imul hx hb dX10_roundOf_285 ?_
                  refine lv_topi (fun z28 ez28 => ?_)
                  have tz28 := tn_mul ez28 kI_8 rfl (by omega) (by omega)
                  refine lv_iload hx hb dX10_roundOf_286 (lv_at hl 12 rfl) ?_
                  refine lv_iadd hx hb dX10_roundOf_288 ?_
                  refine lv_topi (fun z29 ez29 => ?_)
                  have tz29 := tn_add ez29 rfl rfl (by omega) (by omega)
                  refine lv_iload hx hb dX10_roundOf_289 (lv_at hl 2 rfl) ?_
                  refine mc_iastX E hG hoa27 ma_12.1 ma_12.2.1 (ma_12.2.2 _) (t_in (by omega) (by omega)) (by omega) (by omega) dX10_roundOf_291 (fun H locs hG => ?_)
                  have hG := kO_set (PG_12) hG
                  obtain ⟨F30, eF30⟩ : ∃ Z : mF, Z = up2 F 12 (z29).toNatClampNeg r22 := ⟨_, rfl⟩
                  rw [← eF30] at hG
                  refine lv_iload hx hb dX10_roundOf_292 (lv_at hl 11 rfl) ?_
                  refine lv_iload hx hb dX10_roundOf_294 (lv_at hl 2 rfl) ?_
                  refine lv_iadd hx hb dX10_roundOf_296 ?_
                  refine lv_topi (fun z31 ez31 => ?_)
                  have tz31 := tn_add ez31 rfl rfl (by omega) (by omega)
                  refine lv_istore (lv' := [(7, .int z31), (9, .int z26), (8, .int z24), (13, .int r22), (6, .int z16), (12, .int z14), (11, .int r8), (0, .ref h0), (1, .int x1), (2, .int x2), (3, .int x3), (4, .int v4), (10, .int v10)]) hx hb dX10_roundOf_297 hl (by decide) rfl (fun ls hl => ?_)
                  obtain ⟨z32, ez32⟩ : ∃ y : Int32, y = v10 + (1) := ⟨_, rfl⟩
                  refine lv_iinc (v := z32) (lv' := [(10, .int z32), (7, .int z31), (9, .int z26), (8, .int z24), (13, .int r22), (6, .int z16), (12, .int z14), (11, .int r8), (0, .ref h0), (1, .int x1), (2, .int x2), (3, .int x3), (4, .int v4)]) hx hb dX10_roundOf_299 hl (k := 12) rfl (by rw [ez32]; rfl) (by decide) rfl (fun ls hl => ?_)
                  have tz32 := tn_add ez32 rfl kI_1 (by omega) (by omega)
                  refine lv_goto (tgt := 146) hx hb dX10_roundOf_302 (by decide) ?_
                  have hbit : bS x3 v10 := by show ((x3 >>> (v10 &&& 31)) &&& 1).toInt = 1; rw [← ez4, ← ez5]; omega
                  have hix : z29.toNatClampNeg = z11.toNatClampNeg := by show z29.toInt.toNat = z11.toInt.toNat; omega
                  rw [hix] at eF30
                  have hL := L3_s hex146.1 (z := z32) (v := z14.toInt) (left' := z16.toInt) (all' := z31.toInt) (by omega) (by omega) (by omega) (by omega) hbit (by show z11.toInt.toNat = _; omega) wz12 eF30 (by omega) (by omega) (Or.inr ⟨by omega, ez24⟩) (Or.inr ⟨by omega, ez26⟩)
                  exact ih146 F30 H locs ls v4 z16 z31 z24 z26 z32 hG (lv_sub hl [8, 9, 10, 11, 12, 5, 1, 3, 2, 0] rfl) (by omega) (by omega) (by omega) (by omega) (by omega) (by omega) (by omega) (by omega) (by exact ⟨hL, by omega, by first | omega | (have k0 := kI_0; omega), by first | omega | (have k0 := kI_0; omega)⟩) (by omega)
                · skip
                  have ic25 := tn_nle rfl rfl c25
                  refine lv_iconst (v := 1) hx hb dX10_roundOf_267 (by decide) ?_
                  refine lv_iload hx hb dX10_roundOf_268 (lv_at hl 12 rfl) ?_
                  refine lv_ishl hx hb dX10_roundOf_270 ?_
                  refine lv_topi (fun z33 ez33 => ?_)
                  refine lv_goto (tgt := 275) hx hb dX10_roundOf_271 (by decide) ?_
                  refine lv_ior hx hb dX10_roundOf_275 ?_
                  refine lv_topi (fun z34 ez34 => ?_)
                  refine lv_istore (lv' := [(9, .int z34), (8, .int z24), (13, .int r22), (6, .int z16), (12, .int z14), (11, .int r8), (0, .ref h0), (1, .int x1), (2, .int x2), (3, .int x3), (4, .int v4), (7, .int v7), (10, .int v10)]) hx hb dX10_roundOf_276 hl (by decide) rfl (fun ls hl => ?_)
                  refine lv_aload_n hx hb dX10_roundOf_278 rfl (lv_at hl 6 rfl) ?_
                  refine mc_getr E hG t0 mr_45 dX10_roundOf_279 (fun oa35 hoa35 => ?_)
                  refine lv_bipush (v := 8) hx hb dX10_roundOf_282 (by decide) ?_
                  refine lv_iload_n hx hb dX10_roundOf_284 rfl (lv_at hl 7 rfl) ?_
                  refine lv_imul hx hb dX10_roundOf_285 ?_
                  refine lv_topi (fun z36 ez36 => ?_)
                  have tz36 := tn_mul ez36 kI_8 rfl (by omega) (by omega)
                  refine lv_iload hx hb dX10_roundOf_286 (lv_at hl 12 rfl) ?_
                  refine lv_iadd hx hb dX10_roundOf_288 ?_
                  refine lv_topi (fun z37 ez37 => ?_)
                  have tz37 := tn_add ez37 rfl rfl (by omega) (by omega)
                  refine lv_iload hx hb dX10_roundOf_289 (lv_at hl 2 rfl) ?_
                  refine mc_iastX E hG hoa35 ma_12.1 ma_12.2.1 (ma_12.2.2 _) (t_in (by omega) (by omega)) (by omega) (by omega) dX10_roundOf_291 (fun H locs hG => ?_)
                  have hG := kO_set (PG_12) hG
                  obtain ⟨F38, eF38⟩ : ∃ Z : mF, Z = up2 F 12 (z37).toNatClampNeg r22 := ⟨_, rfl⟩
                  rw [← eF38] at hG
                  refine lv_iload hx hb dX10_roundOf_292 (lv_at hl 11 rfl) ?_
                  refine lv_iload hx hb dX10_roundOf_294 (lv_at hl 2 rfl) ?_
                  refine lv_iadd hx hb dX10_roundOf_296 ?_
                  refine lv_topi (fun z39 ez39 => ?_)
                  have tz39 := tn_add ez39 rfl rfl (by omega) (by omega)
                  refine lv_istore (lv' := [(7, .int z39), (9, .int z34), (8, .int z24), (13, .int r22), (6, .int z16), (12, .int z14), (11, .int r8), (0, .ref h0), (1, .int x1), (2, .int x2), (3, .int x3), (4, .int v4), (10, .int v10)]) hx hb dX10_roundOf_297 hl (by decide) rfl (fun ls hl => ?_)
                  obtain ⟨z40, ez40⟩ : ∃ y : Int32, y = v10 + (1) := ⟨_, rfl⟩
                  refine lv_iinc (v := z40) (lv' := [(10, .int z40), (7, .int z39), (9, .int z34), (8, .int z24), (13, .int r22), (6, .int z16), (12, .int z14), (11, .int r8), (0, .ref h0), (1, .int x1), (2, .int x2), (3, .int x3), (4, .int v4)]) hx hb dX10_roundOf_299 hl (k := 12) rfl (by rw [ez40]; rfl) (by decide) rfl (fun ls hl => ?_)
                  have tz40 := tn_add ez40 rfl kI_1 (by omega) (by omega)
                  refine lv_goto (tgt := 146) hx hb dX10_roundOf_302 (by decide) ?_
                  have hbit : bS x3 v10 := by show ((x3 >>> (v10 &&& 31)) &&& 1).toInt = 1; rw [← ez4, ← ez5]; omega
                  have hix : z37.toNatClampNeg = z11.toNatClampNeg := by show z37.toInt.toNat = z11.toInt.toNat; omega
                  rw [hix] at eF38
                  have hL := L3_s hex146.1 (z := z40) (v := z14.toInt) (left' := z16.toInt) (all' := z39.toInt) (by omega) (by omega) (by omega) (by omega) hbit (by show z11.toInt.toNat = _; omega) wz12 eF38 (by omega) (by omega) (Or.inr ⟨by omega, ez24⟩) (Or.inl ⟨by omega, ez34, ez33⟩)
                  exact ih146 F38 H locs ls v4 z16 z39 z24 z34 z40 hG (lv_sub hl [8, 9, 10, 11, 12, 5, 1, 3, 2, 0] rfl) (by omega) (by omega) (by omega) (by omega) (by omega) (by omega) (by omega) (by omega) (by exact ⟨hL, by omega, by first | omega | (have k0 := kI_0; omega), by first | omega | (have k0 := kI_0; omega)⟩) (by omega)
              · skip
                have ic23 := tn_nle rfl rfl c23
                refine lv_iconst (v := 1) hx hb dX10_roundOf_247 (by decide) ?_
                refine lv_iload hx hb dX10_roundOf_248 (lv_at hl 12 rfl) ?_
                refine lv_ishl hx hb dX10_roundOf_250 ?_
                refine lv_topi (fun z41 ez41 => ?_)
                refine lv_goto (tgt := 255) hx hb dX10_roundOf_251 (by decide) ?_
                refine lv_ior hx hb dX10_roundOf_255 ?_
                refine lv_topi (fun z42 ez42 => ?_)
                refine lv_istore (lv' := [(8, .int z42), (13, .int r22), (6, .int z16), (12, .int z14), (11, .int r8), (0, .ref h0), (1, .int x1), (2, .int x2), (3, .int x3), (4, .int v4), (7, .int v7), (9, .int v9), (10, .int v10)]) hx hb dX10_roundOf_256 hl (by decide) rfl (fun ls hl => ?_)
                refine lv_iload hx hb dX10_roundOf_258 (lv_at hl 11 rfl) ?_
                refine lv_iload hx hb dX10_roundOf_260 (lv_at hl 1 rfl) ?_
                refine lv_iload hx hb dX10_roundOf_262 (lv_at hl 3 rfl) ?_
                refine lv_icmp_ge (tgt := 274) hx hb dX10_roundOf_264 (by decide) (fun c43 => ?_) (fun c43 => ?_)
                · skip
                  have ic43 := tn_le rfl rfl c43
                  refine lv_iconst (v := 0) hx hb dX10_roundOf_274 (by decide) ?_
                  refine lv_ior hx hb dX10_roundOf_275 ?_
                  refine lv_topi (fun z44 ez44 => ?_)
                  refine lv_istore (lv' := [(9, .int z44), (8, .int z42), (13, .int r22), (6, .int z16), (12, .int z14), (11, .int r8), (0, .ref h0), (1, .int x1), (2, .int x2), (3, .int x3), (4, .int v4), (7, .int v7), (10, .int v10)]) hx hb dX10_roundOf_276 hl (by decide) rfl (fun ls hl => ?_)
                  refine lv_aload_n hx hb dX10_roundOf_278 rfl (lv_at hl 6 rfl) ?_
                  refine mc_getr E hG t0 mr_45 dX10_roundOf_279 (fun oa45 hoa45 => ?_)
                  refine lv_bipush (v := 8) hx hb dX10_roundOf_282 (by decide) ?_
                  refine lv_iload_n hx hb dX10_roundOf_284 rfl (lv_at hl 7 rfl) ?_
                  refine lv_imul hx hb dX10_roundOf_285 ?_
                  refine lv_topi (fun z46 ez46 => ?_)
                  have tz46 := tn_mul ez46 kI_8 rfl (by omega) (by omega)
                  refine lv_iload hx hb dX10_roundOf_286 (lv_at hl 12 rfl) ?_
                  refine lv_iadd hx hb dX10_roundOf_288 ?_
                  refine lv_topi (fun z47 ez47 => ?_)
                  have tz47 := tn_add ez47 rfl rfl (by omega) (by omega)
                  refine lv_iload hx hb dX10_roundOf_289 (lv_at hl 2 rfl) ?_
                  refine mc_iastX E hG hoa45 ma_12.1 ma_12.2.1 (ma_12.2.2 _) (t_in (by omega) (by omega)) (by omega) (by omega) dX10_roundOf_291 (fun H locs hG => ?_)
                  have hG := kO_set (PG_12) hG
                  obtain ⟨F48, eF48⟩ : ∃ Z : mF, Z = up2 F 12 (z47).toNatClampNeg r22 := ⟨_, rfl⟩
                  rw [← eF48] at hG
                  refine lv_iload hx hb dX10_roundOf_292 (lv_at hl 11 rfl) ?_
                  refine lv_iload hx hb dX10_roundOf_294 (lv_at hl 2 rfl) ?_
                  refine lv_iadd hx hb dX10_roundOf_296 ?_
                  refine lv_topi (fun z49 ez49 => ?_)
                  have tz49 := tn_add ez49 rfl rfl (by omega) (by omega)
                  refine lv_istore (lv' := [(7, .int z49), (9, .int z44), (8, .int z42), (13, .int r22), (6, .int z16), (12, .int z14), (11, .int r8), (0, .ref h0), (1, .int x1), (2, .int x2), (3, .int x3), (4, .int v4), (10, .int v10)]) hx hb dX10_roundOf_297 hl (by decide) rfl (fun ls hl => ?_)
                  obtain ⟨z50, ez50⟩ : ∃ y : Int32, y = v10 + (1) := ⟨_, rfl⟩
                  refine lv_iinc (v := z50) (lv' := [(10, .int z50), (7, .int z49), (9, .int z44), (8, .int z42), (13, .int r22), (6, .int z16), (12, .int z14), (11, .int r8), (0, .ref h0), (1, .int x1), (2, .int x2), (3, .int x3), (4, .int v4)]) hx hb dX10_roundOf_299 hl (k := 12) rfl (by rw [ez50]; rfl) (by decide) rfl (fun ls hl => ?_)
                  have tz50 := tn_add ez50 rfl kI_1 (by omega) (by omega)
                  refine lv_goto (tgt := 146) hx hb dX10_roundOf_302 (by decide) ?_
                  have hbit : bS x3 v10 := by show ((x3 >>> (v10 &&& 31)) &&& 1).toInt = 1; rw [← ez4, ← ez5]; omega
                  have hix : z47.toNatClampNeg = z11.toNatClampNeg := by show z47.toInt.toNat = z11.toInt.toNat; omega
                  rw [hix] at eF48
                  have hL := L3_s hex146.1 (z := z50) (v := z14.toInt) (left' := z16.toInt) (all' := z49.toInt) (by omega) (by omega) (by omega) (by omega) hbit (by show z11.toInt.toNat = _; omega) wz12 eF48 (by omega) (by omega) (Or.inl ⟨by omega, ez42, ez41⟩) (Or.inr ⟨by omega, ez44⟩)
                  exact ih146 F48 H locs ls v4 z16 z49 z42 z44 z50 hG (lv_sub hl [8, 9, 10, 11, 12, 5, 1, 3, 2, 0] rfl) (by omega) (by omega) (by omega) (by omega) (by omega) (by omega) (by omega) (by omega) (by exact ⟨hL, by omega, by first | omega | (have k0 := kI_0; omega), by first | omega | (have k0 := kI_0; omega)⟩) (by omega)
                · skip
                  have ic43 := tn_nle rfl rfl c43
                  refine lv_iconst (v := 1) hx hb dX10_roundOf_267 (by decide) ?_
                  refine lv_iload hx hb dX10_roundOf_268 (lv_at hl 12 rfl) ?_
                  refine lv_ishl hx hb dX10_roundOf_270 ?_
                  refine lv_topi (fun z51 ez51 => ?_)
                  refine lv_goto (tgt := 275) hx hb dX10_roundOf_271 (by decide) ?_
                  refine lv_ior hx hb dX10_roundOf_275 ?_
                  refine lv_topi (fun z52 ez52 => ?_)
                  refine lv_istore (lv' := [(9, .int z52), (8, .int z42), (13, .int r22), (6, .int z16), (12, .int z14), (11, .int r8), (0, .ref h0), (1, .int x1), (2, .int x2), (3, .int x3), (4, .int v4), (7, .int v7), (10, .int v10)]) hx hb dX10_roundOf_276 hl (by decide) rfl (fun ls hl => ?_)
                  refine lv_aload_n hx hb dX10_roundOf_278 rfl (lv_at hl 6 rfl) ?_
                  refine mc_getr E hG t0 mr_45 dX10_roundOf_279 (fun oa53 hoa53 => ?_)
                  refine lv_bipush (v := 8) hx hb dX10_roundOf_282 (by decide) ?_
                  refine lv_iload_n hx hb dX10_roundOf_284 rfl (lv_at hl 7 rfl) ?_
                  refine lv_imul hx hb dX10_roundOf_285 ?_
                  refine lv_topi (fun z54 ez54 => ?_)
                  have tz54 := tn_mul ez54 kI_8 rfl (by omega) (by omega)
                  refine lv_iload hx hb dX10_roundOf_286 (lv_at hl 12 rfl) ?_
                  refine lv_iadd hx hb dX10_roundOf_288 ?_
                  refine lv_topi (fun z55 ez55 => ?_)
                  have tz55 := tn_add ez55 rfl rfl (by omega) (by omega)
                  refine lv_iload hx hb dX10_roundOf_289 (lv_at hl 2 rfl) ?_
                  refine mc_iastX E hG hoa53 ma_12.1 ma_12.2.1 (ma_12.2.2 _) (t_in (by omega) (by omega)) (by omega) (by omega) dX10_roundOf_291 (fun H locs hG => ?_)
                  have hG := kO_set (PG_12) hG
                  obtain ⟨F56, eF56⟩ : ∃ Z : mF, Z = up2 F 12 (z55).toNatClampNeg r22 := ⟨_, rfl⟩
                  rw [← eF56] at hG
                  refine lv_iload hx hb dX10_roundOf_292 (lv_at hl 11 rfl) ?_
                  refine lv_iload hx hb dX10_roundOf_294 (lv_at hl 2 rfl) ?_
                  refine lv_iadd hx hb dX10_roundOf_296 ?_
                  refine lv_topi (fun z57 ez57 => ?_)
                  have tz57 := tn_add ez57 rfl rfl (by omega) (by omega)
                  refine lv_istore (lv' := [(7, .int z57), (9, .int z52), (8, .int z42), (13, .int r22), (6, .int z16), (12, .int z14), (11, .int r8), (0, .ref h0), (1, .int x1), (2, .int x2), (3, .int x3), (4, .int v4), (10, .int v10)]) hx hb dX10_roundOf_297 hl (by decide) rfl (fun ls hl => ?_)
                  obtain ⟨z58, ez58⟩ : ∃ y : Int32, y = v10 + (1) := ⟨_, rfl⟩
                  refine lv_iinc (v := z58) (lv' := [(10, .int z58), (7, .int z57), (9, .int z52), (8, .int z42), (13, .int r22), (6, .int z16), (12, .int z14), (11, .int r8), (0, .ref h0), (1, .int x1), (2, .int x2), (3, .int x3), (4, .int v4)]) hx hb dX10_roundOf_299 hl (k := 12) rfl (by rw [ez58]; rfl) (by decide) rfl (fun ls hl => ?_)
                  have tz58 := tn_add ez58 rfl kI_1 (by omega) (by omega)
                  refine lv_goto (tgt := 146) hx hb dX10_roundOf_302 (by decide) ?_
                  have hbit : bS x3 v10 := by show ((x3 >>> (v10 &&& 31)) &&& 1).toInt = 1; rw [← ez4, ← ez5]; omega
                  have hix : z55.toNatClampNeg = z11.toNatClampNeg := by show z55.toInt.toNat = z11.toInt.toNat; omega
                  rw [hix] at eF56
                  have hL := L3_s hex146.1 (z := z58) (v := z14.toInt) (left' := z16.toInt) (all' := z57.toInt) (by omega) (by omega) (by omega) (by omega) hbit (by show z11.toInt.toNat = _; omega) wz12 eF56 (by omega) (by omega) (Or.inl ⟨by omega, ez42, ez41⟩) (Or.inl ⟨by omega, ez52, ez51⟩)
                  exact ih146 F56 H locs ls v4 z16 z57 z42 z52 z58 hG (lv_sub hl [8, 9, 10, 11, 12, 5, 1, 3, 2, 0] rfl) (by omega) (by omega) (by omega) (by omega) (by omega) (by omega) (by omega) (by omega) (by exact ⟨hL, by omega, by first | omega | (have k0 := kI_0; omega), by first | omega | (have k0 := kI_0; omega)⟩) (by omega)
            · exfalso
              have ic15 := tn_nle rfl kI_0 c15
              omega
          · skip
            have ic13 := tn_nle rfl kI_0 c13
            refine lv_iconst (v := 1) hx hb dX10_roundOf_189 (by decide) ?_
            refine lv_goto (tgt := 194) hx hb dX10_roundOf_190 (by decide) ?_
            refine lv_iadd hx hb dX10_roundOf_194 ?_
            refine lv_topi (fun z59 ez59 => ?_)
            have tz59 := tn_add ez59 rfl kI_1 (by omega) (by omega)
            refine lv_istore (lv' := [(12, .int z59), (11, .int r8), (0, .ref h0), (1, .int x1), (2, .int x2), (3, .int x3), (4, .int v4), (6, .int v6), (7, .int v7), (8, .int v8), (9, .int v9), (10, .int v10)]) hx hb dX10_roundOf_195 hl (by decide) rfl (fun ls hl => ?_)
            refine lv_iload hx hb dX10_roundOf_197 (lv_at hl 7 rfl) ?_
            refine lv_iload hx hb dX10_roundOf_199 (lv_at hl 7 rfl) ?_
            refine lv_if_le (tgt := 208) hx hb dX10_roundOf_201 (by decide) (fun c60 => ?_) (fun c60 => ?_)
            · exfalso
              have ic60 := tn_le rfl kI_0 c60
              omega
            · skip
              have ic60 := tn_nle rfl kI_0 c60
              refine lv_iconst (v := 1) hx hb dX10_roundOf_204 (by decide) ?_
              refine lv_goto (tgt := 209) hx hb dX10_roundOf_205 (by decide) ?_
              refine lv_isub hx hb dX10_roundOf_209 ?_
              refine lv_topi (fun z61 ez61 => ?_)
              have tz61 := tn_sub ez61 rfl kI_1 (by omega) (by omega)
              refine lv_istore (lv' := [(6, .int z61), (12, .int z59), (11, .int r8), (0, .ref h0), (1, .int x1), (2, .int x2), (3, .int x3), (4, .int v4), (7, .int v7), (8, .int v8), (9, .int v9), (10, .int v10)]) hx hb dX10_roundOf_210 hl (by decide) rfl (fun ls hl => ?_)
              refine lv_iload hx hb dX10_roundOf_212 (lv_at hl 1 rfl) ?_
              refine lv_aload_n hx hb dX10_roundOf_214 rfl (lv_at hl 3 rfl) ?_
              refine lv_iload hx hb dX10_roundOf_215 (lv_at hl 2 rfl) ?_
              refine lv_bipush (v := 7) hx hb dX10_roundOf_217 (by decide) ?_
              refine tc_callp (mc_runV (As := [.int r8, .int 7]) (rest := [.int z59]) E hG (c_X10_get l G (σ, cu, kO PG X F) h0 r8 (7 : Int32) t0 (by omega) (by omega) (by decide) (by decide)) t0 rfl kv_X10_get ml_X10_91 ⟨rfl, rfl, Nat.le_of_ble_eq_true rfl, Nat.le_of_ble_eq_true rfl⟩ rfl hl.1 rfl (Nat.le_of_ble_eq_true rfl) ⟨Nat.zero_le _, Nat.zero_le _⟩ dX10_roundOf_219) (fun r62 pr62 => ?_)
              replace pr62 : mV (σ, cu, kO PG X F) (ix r8.toInt (7 : Int32).toInt) r62 := pr62
              have pr62 := mV_l pr62 kI_7
              have br62 := mV_7 pr62 (by omega)
              have cr62 := mT pr62 (kO_TI (PG_tr hcu) hT) (by omega) (by omega) (by decide) (by decide)
              have k63 := kI_7
              refine lv_aload_n hx hb dX10_roundOf_222 rfl (lv_at hl 3 rfl) ?_
              refine lv_iload hx hb dX10_roundOf_223 (lv_at hl 2 rfl) ?_
              refine lv_bipush (v := 8) hx hb dX10_roundOf_225 (by decide) ?_
              refine tc_callp (mc_runV (As := [.int r8, .int 8]) (rest := [.int r62, .int z59]) E hG (c_X10_get l G (σ, cu, kO PG X F) h0 r8 (8 : Int32) t0 (by omega) (by omega) (by decide) (by decide)) t0 rfl kv_X10_get ml_X10_91 ⟨rfl, rfl, Nat.le_of_ble_eq_true rfl, Nat.le_of_ble_eq_true rfl⟩ rfl hl.1 rfl (Nat.le_of_ble_eq_true rfl) ⟨Nat.zero_le _, Nat.zero_le _⟩ dX10_roundOf_227) (fun r64 pr64 => ?_)
              replace pr64 : mV (σ, cu, kO PG X F) (ix r8.toInt (8 : Int32).toInt) r64 := pr64
              have pr64 := mV_l pr64 kI_8
              have br64 := mV_8 pr64 (by omega)
              have cr64 := mT pr64 (kO_TI (PG_tr hcu) hT) (by omega) (by omega) (by decide) (by decide)
              have k65 := kI_8
              refine tc_callp (mc_runS (As := [.int r64]) (rest := [.int r62, .int z59]) E hG (c_X10_ended l G (σ, cu, kO PG X F) r64 (by omega) (by omega)) ks_X10_ended ml_X10_181 ⟨rfl, rfl, Nat.le_of_ble_eq_true rfl, Nat.le_of_ble_eq_true rfl⟩ rfl hl.1 rfl (Nat.le_of_ble_eq_true rfl) ⟨Nat.zero_le _, Nat.zero_le _⟩ dX10_roundOf_230) (fun r66 pr66 => ?_)
              replace pr66 : (0 ≤ r66.toInt ∧ r66.toInt ≤ 1000) := pr66
              refine tc_callp (mc_runS (As := [.int z59, .int r62, .int r66]) (rest := []) E hG (c_X10_held l G (σ, cu, kO PG X F) z59 r62 r66) ks_X10_held ml_X10_184 ⟨rfl, rfl, Nat.le_of_ble_eq_true rfl, Nat.le_of_ble_eq_true rfl⟩ rfl hl.1 rfl (Nat.le_of_ble_eq_true rfl) ⟨Nat.zero_le _, Nat.zero_le _⟩ dX10_roundOf_233) (fun r67 pr67 => ?_)
              replace pr67 : (r67 = z59 ∧ r62.toInt ≤ z59.toInt ∧ z59.toInt ≤ r66.toInt) ∨ (r67 = r62 ∧ z59.toInt < r62.toInt) ∨ (r67 = r66 ∧ r66.toInt < z59.toInt) := pr67
              have br67 : 0 ≤ r67.toInt ∧ r67.toInt ≤ 1000 := by rcases pr67 with ⟨w, _⟩ | ⟨w, _⟩ | ⟨w, _⟩ <;> rw [w] <;> omega
              refine lv_istore (lv' := [(13, .int r67), (6, .int z61), (12, .int z59), (11, .int r8), (0, .ref h0), (1, .int x1), (2, .int x2), (3, .int x3), (4, .int v4), (7, .int v7), (8, .int v8), (9, .int v9), (10, .int v10)]) hx hb dX10_roundOf_236 hl (by decide) rfl (fun ls hl => ?_)
              refine lv_iload hx hb dX10_roundOf_238 (lv_at hl 10 rfl) ?_
              refine lv_iload hx hb dX10_roundOf_240 (lv_at hl 0 rfl) ?_
              refine lv_iload hx hb dX10_roundOf_242 (lv_at hl 2 rfl) ?_
              refine lv_icmp_le (tgt := 254) hx hb dX10_roundOf_244 (by decide) (fun c68 => ?_) (fun c68 => ?_)
              · skip
                have ic68 := tn_le rfl rfl c68
                refine lv_iconst (v := 0) hx hb dX10_roundOf_254 (by decide) ?_
                refine lv_ior hx hb dX10_roundOf_255 ?_
                refine lv_topi (fun z69 ez69 => ?_)
                refine lv_istore (lv' := [(8, .int z69), (13, .int r67), (6, .int z61), (12, .int z59), (11, .int r8), (0, .ref h0), (1, .int x1), (2, .int x2), (3, .int x3), (4, .int v4), (7, .int v7), (9, .int v9), (10, .int v10)]) hx hb dX10_roundOf_256 hl (by decide) rfl (fun ls hl => ?_)
                refine lv_iload hx hb dX10_roundOf_258 (lv_at hl 11 rfl) ?_
                refine lv_iload hx hb dX10_roundOf_260 (lv_at hl 1 rfl) ?_
                refine lv_iload hx hb dX10_roundOf_262 (lv_at hl 3 rfl) ?_
                refine lv_icmp_ge (tgt := 274) hx hb dX10_roundOf_264 (by decide) (fun c70 => ?_) (fun c70 => ?_)
                · skip
                  have ic70 := tn_le rfl rfl c70
                  refine lv_iconst (v := 0) hx hb dX10_roundOf_274 (by decide) ?_
                  refine lv_ior hx hb dX10_roundOf_275 ?_
                  refine lv_topi (fun z71 ez71 => ?_)
                  refine lv_istore (lv' := [(9, .int z71), (8, .int z69), (13, .int r67), (6, .int z61), (12, .int z59), (11, .int r8), (0, .ref h0), (1, .int x1), (2, .int x2), (3, .int x3), (4, .int v4), (7, .int v7), (10, .int v10)]) hx hb dX10_roundOf_276 hl (by decide) rfl (fun ls hl => ?_)
                  refine lv_aload_n hx hb dX10_roundOf_278 rfl (lv_at hl 6 rfl) ?_
                  refine mc_getr E hG t0 mr_45 dX10_roundOf_279 (fun oa72 hoa72 => ?_)
                  refine lv_bipush (v := 8) hx hb dX10_roundOf_282 (by decide) ?_
                  refine lv_iload_n hx hb dX10_roundOf_284 rfl (lv_at hl 7 rfl) ?_
                  refine lv_imul hx hb dX10_roundOf_285 ?_
                  refine lv_topi (fun z73 ez73 => ?_)
                  have tz73 := tn_mul ez73 kI_8 rfl (by omega) (by omega)
                  refine lv_iload hx hb dX10_roundOf_286 (lv_at hl 12 rfl) ?_
                  refine lv_iadd hx hb dX10_roundOf_288 ?_
                  refine lv_topi (fun z74 ez74 => ?_)
                  have tz74 := tn_add ez74 rfl rfl (by omega) (by omega)
                  refine lv_iload hx hb dX10_roundOf_289 (lv_at hl 2 rfl) ?_
                  refine mc_iastX E hG hoa72 ma_12.1 ma_12.2.1 (ma_12.2.2 _) (t_in (by omega) (by omega)) (by omega) (by omega) dX10_roundOf_291 (fun H locs hG => ?_)
                  have hG := kO_set (PG_12) hG
                  obtain ⟨F75, eF75⟩ : ∃ Z : mF, Z = up2 F 12 (z74).toNatClampNeg r67 := ⟨_, rfl⟩
                  rw [← eF75] at hG
                  refine lv_iload hx hb dX10_roundOf_292 (lv_at hl 11 rfl) ?_
                  refine lv_iload hx hb dX10_roundOf_294 (lv_at hl 2 rfl) ?_
                  refine lv_iadd hx hb dX10_roundOf_296 ?_
                  refine lv_topi (fun z76 ez76 => ?_)
                  have tz76 := tn_add ez76 rfl rfl (by omega) (by omega)
                  refine lv_istore (lv' := [(7, .int z76), (9, .int z71), (8, .int z69), (13, .int r67), (6, .int z61), (12, .int z59), (11, .int r8), (0, .ref h0), (1, .int x1), (2, .int x2), (3, .int x3), (4, .int v4), (10, .int v10)]) hx hb dX10_roundOf_297 hl (by decide) rfl (fun ls hl => ?_)
                  obtain ⟨z77, ez77⟩ : ∃ y : Int32, y = v10 + (1) := ⟨_, rfl⟩
                  refine lv_iinc (v := z77) (lv' := [(10, .int z77), (7, .int z76), (9, .int z71), (8, .int z69), (13, .int r67), (6, .int z61), (12, .int z59), (11, .int r8), (0, .ref h0), (1, .int x1), (2, .int x2), (3, .int x3), (4, .int v4)]) hx hb dX10_roundOf_299 hl (k := 12) rfl (by rw [ez77]; rfl) (by decide) rfl (fun ls hl => ?_)
                  have tz77 := tn_add ez77 rfl kI_1 (by omega) (by omega)
                  refine lv_goto (tgt := 146) hx hb dX10_roundOf_302 (by decide) ?_
                  have hbit : bS x3 v10 := by show ((x3 >>> (v10 &&& 31)) &&& 1).toInt = 1; rw [← ez4, ← ez5]; omega
                  have hix : z74.toNatClampNeg = z11.toNatClampNeg := by show z74.toInt.toNat = z11.toInt.toNat; omega
                  rw [hix] at eF75
                  have hL := L3_s hex146.1 (z := z77) (v := z59.toInt) (left' := z61.toInt) (all' := z76.toInt) (by omega) (by omega) (by omega) (by omega) hbit (by show z11.toInt.toNat = _; omega) wz12 eF75 (by omega) (by omega) (Or.inr ⟨by omega, ez69⟩) (Or.inr ⟨by omega, ez71⟩)
                  exact ih146 F75 H locs ls v4 z61 z76 z69 z71 z77 hG (lv_sub hl [8, 9, 10, 11, 12, 5, 1, 3, 2, 0] rfl) (by omega) (by omega) (by omega) (by omega) (by omega) (by omega) (by omega) (by omega) (by exact ⟨hL, by omega, by first | omega | (have k0 := kI_0; omega), by first | omega | (have k0 := kI_0; omega)⟩) (by omega)
                · skip
                  have ic70 := tn_nle rfl rfl c70
                  refine lv_iconst (v := 1) hx hb dX10_roundOf_267 (by decide) ?_
                  refine lv_iload hx hb dX10_roundOf_268 (lv_at hl 12 rfl) ?_
                  refine lv_ishl hx hb dX10_roundOf_270 ?_
                  refine lv_topi (fun z78 ez78 => ?_)
                  refine lv_goto (tgt := 275) hx hb dX10_roundOf_271 (by decide) ?_
                  refine lv_ior hx hb dX10_roundOf_275 ?_
                  refine lv_topi (fun z79 ez79 => ?_)
                  refine lv_istore (lv' := [(9, .int z79), (8, .int z69), (13, .int r67), (6, .int z61), (12, .int z59), (11, .int r8), (0, .ref h0), (1, .int x1), (2, .int x2), (3, .int x3), (4, .int v4), (7, .int v7), (10, .int v10)]) hx hb dX10_roundOf_276 hl (by decide) rfl (fun ls hl => ?_)
                  refine lv_aload_n hx hb dX10_roundOf_278 rfl (lv_at hl 6 rfl) ?_
                  refine mc_getr E hG t0 mr_45 dX10_roundOf_279 (fun oa80 hoa80 => ?_)
                  refine lv_bipush (v := 8) hx hb dX10_roundOf_282 (by decide) ?_
                  refine lv_iload_n hx hb dX10_roundOf_284 rfl (lv_at hl 7 rfl) ?_
                  refine lv_imul hx hb dX10_roundOf_285 ?_
                  refine lv_topi (fun z81 ez81 => ?_)
                  have tz81 := tn_mul ez81 kI_8 rfl (by omega) (by omega)
                  refine lv_iload hx hb dX10_roundOf_286 (lv_at hl 12 rfl) ?_
                  refine lv_iadd hx hb dX10_roundOf_288 ?_
                  refine lv_topi (fun z82 ez82 => ?_)
                  have tz82 := tn_add ez82 rfl rfl (by omega) (by omega)
                  refine lv_iload hx hb dX10_roundOf_289 (lv_at hl 2 rfl) ?_
                  refine mc_iastX E hG hoa80 ma_12.1 ma_12.2.1 (ma_12.2.2 _) (t_in (by omega) (by omega)) (by omega) (by omega) dX10_roundOf_291 (fun H locs hG => ?_)
                  have hG := kO_set (PG_12) hG
                  obtain ⟨F83, eF83⟩ : ∃ Z : mF, Z = up2 F 12 (z82).toNatClampNeg r67 := ⟨_, rfl⟩
                  rw [← eF83] at hG
                  refine lv_iload hx hb dX10_roundOf_292 (lv_at hl 11 rfl) ?_
                  refine lv_iload hx hb dX10_roundOf_294 (lv_at hl 2 rfl) ?_
                  refine lv_iadd hx hb dX10_roundOf_296 ?_
                  refine lv_topi (fun z84 ez84 => ?_)
                  have tz84 := tn_add ez84 rfl rfl (by omega) (by omega)
                  refine lv_istore (lv' := [(7, .int z84), (9, .int z79), (8, .int z69), (13, .int r67), (6, .int z61), (12, .int z59), (11, .int r8), (0, .ref h0), (1, .int x1), (2, .int x2), (3, .int x3), (4, .int v4), (10, .int v10)]) hx hb dX10_roundOf_297 hl (by decide) rfl (fun ls hl => ?_)
                  obtain ⟨z85, ez85⟩ : ∃ y : Int32, y = v10 + (1) := ⟨_, rfl⟩
                  refine lv_iinc (v := z85) (lv' := [(10, .int z85), (7, .int z84), (9, .int z79), (8, .int z69), (13, .int r67), (6, .int z61), (12, .int z59), (11, .int r8), (0, .ref h0), (1, .int x1), (2, .int x2), (3, .int x3), (4, .int v4)]) hx hb dX10_roundOf_299 hl (k := 12) rfl (by rw [ez85]; rfl) (by decide) rfl (fun ls hl => ?_)
                  have tz85 := tn_add ez85 rfl kI_1 (by omega) (by omega)
                  refine lv_goto (tgt := 146) hx hb dX10_roundOf_302 (by decide) ?_
                  have hbit : bS x3 v10 := by show ((x3 >>> (v10 &&& 31)) &&& 1).toInt = 1; rw [← ez4, ← ez5]; omega
                  have hix : z82.toNatClampNeg = z11.toNatClampNeg := by show z82.toInt.toNat = z11.toInt.toNat; omega
                  rw [hix] at eF83
                  have hL := L3_s hex146.1 (z := z85) (v := z59.toInt) (left' := z61.toInt) (all' := z84.toInt) (by omega) (by omega) (by omega) (by omega) hbit (by show z11.toInt.toNat = _; omega) wz12 eF83 (by omega) (by omega) (Or.inr ⟨by omega, ez69⟩) (Or.inl ⟨by omega, ez79, ez78⟩)
                  exact ih146 F83 H locs ls v4 z61 z84 z69 z79 z85 hG (lv_sub hl [8, 9, 10, 11, 12, 5, 1, 3, 2, 0] rfl) (by omega) (by omega) (by omega) (by omega) (by omega) (by omega) (by omega) (by omega) (by exact ⟨hL, by omega, by first | omega | (have k0 := kI_0; omega), by first | omega | (have k0 := kI_0; omega)⟩) (by omega)
              · skip
                have ic68 := tn_nle rfl rfl c68
                refine lv_iconst (v := 1) hx hb dX10_roundOf_247 (by decide) ?_
                refine lv_iload hx hb dX10_roundOf_248 (lv_at hl 12 rfl) ?_
                refine lv_ishl hx hb dX10_roundOf_250 ?_
                refine lv_topi (fun z86 ez86 => ?_)
                refine lv_goto (tgt := 255) hx hb dX10_roundOf_251 (by decide) ?_
                refine lv_ior hx hb dX10_roundOf_255 ?_
                refine lv_topi (fun z87 ez87 => ?_)
                refine lv_istore (lv' := [(8, .int z87), (13, .int r67), (6, .int z61), (12, .int z59), (11, .int r8), (0, .ref h0), (1, .int x1), (2, .int x2), (3, .int x3), (4, .int v4), (7, .int v7), (9, .int v9), (10, .int v10)]) hx hb dX10_roundOf_256 hl (by decide) rfl (fun ls hl => ?_)
                refine lv_iload hx hb dX10_roundOf_258 (lv_at hl 11 rfl) ?_
                refine lv_iload hx hb dX10_roundOf_260 (lv_at hl 1 rfl) ?_
                refine lv_iload hx hb dX10_roundOf_262 (lv_at hl 3 rfl) ?_
                refine lv_icmp_ge (tgt := 274) hx hb dX10_roundOf_264 (by decide) (fun c88 => ?_) (fun c88 => ?_)
                · skip
                  have ic88 := tn_le rfl rfl c88
                  refine lv_iconst (v := 0) hx hb dX10_roundOf_274 (by decide) ?_
                  refine lv_ior hx hb dX10_roundOf_275 ?_
                  refine lv_topi (fun z89 ez89 => ?_)
                  refine lv_istore (lv' := [(9, .int z89), (8, .int z87), (13, .int r67), (6, .int z61), (12, .int z59), (11, .int r8), (0, .ref h0), (1, .int x1), (2, .int x2), (3, .int x3), (4, .int v4), (7, .int v7), (10, .int v10)]) hx hb dX10_roundOf_276 hl (by decide) rfl (fun ls hl => ?_)
                  refine lv_aload_n hx hb dX10_roundOf_278 rfl (lv_at hl 6 rfl) ?_
                  refine mc_getr E hG t0 mr_45 dX10_roundOf_279 (fun oa90 hoa90 => ?_)
                  refine lv_bipush (v := 8) hx hb dX10_roundOf_282 (by decide) ?_
                  refine lv_iload_n hx hb dX10_roundOf_284 rfl (lv_at hl 7 rfl) ?_
                  refine lv_imul hx hb dX10_roundOf_285 ?_
                  refine lv_topi (fun z91 ez91 => ?_)
                  have tz91 := tn_mul ez91 kI_8 rfl (by omega) (by omega)
                  refine lv_iload hx hb dX10_roundOf_286 (lv_at hl 12 rfl) ?_
                  refine lv_iadd hx hb dX10_roundOf_288 ?_
                  refine lv_topi (fun z92 ez92 => ?_)
                  have tz92 := tn_add ez92 rfl rfl (by omega) (by omega)
                  refine lv_iload hx hb dX10_roundOf_289 (lv_at hl 2 rfl) ?_
                  refine mc_iastX E hG hoa90 ma_12.1 ma_12.2.1 (ma_12.2.2 _) (t_in (by omega) (by omega)) (by omega) (by omega) dX10_roundOf_291 (fun H locs hG => ?_)
                  have hG := kO_set (PG_12) hG
                  obtain ⟨F93, eF93⟩ : ∃ Z : mF, Z = up2 F 12 (z92).toNatClampNeg r67 := ⟨_, rfl⟩
                  rw [← eF93] at hG
                  refine lv_iload hx hb dX10_roundOf_292 (lv_at hl 11 rfl) ?_
                  refine lv_iload hx hb dX10_roundOf_294 (lv_at hl 2 rfl) ?_
                  refine lv_iadd hx hb dX10_roundOf_296 ?_
                  refine lv_topi (fun z94 ez94 => ?_)
                  have tz94 := tn_add ez94 rfl rfl (by omega) (by omega)
                  refine lv_istore (lv' := [(7, .int z94), (9, .int z89), (8, .int z87), (13, .int r67), (6, .int z61), (12, .int z59), (11, .int r8), (0, .ref h0), (1, .int x1), (2, .int x2), (3, .int x3), (4, .int v4), (10, .int v10)]) hx hb dX10_roundOf_297 hl (by decide) rfl (fun ls hl => ?_)
                  obtain ⟨z95, ez95⟩ : ∃ y : Int32, y = v10 + (1) := ⟨_, rfl⟩
                  refine lv_iinc (v := z95) (lv' := [(10, .int z95), (7, .int z94), (9, .int z89), (8, .int z87), (13, .int r67), (6, .int z61), (12, .int z59), (11, .int r8), (0, .ref h0), (1, .int x1), (2, .int x2), (3, .int x3), (4, .int v4)]) hx hb dX10_roundOf_299 hl (k := 12) rfl (by rw [ez95]; rfl) (by decide) rfl (fun ls hl => ?_)
                  have tz95 := tn_add ez95 rfl kI_1 (by omega) (by omega)
                  refine lv_goto (tgt := 146) hx hb dX10_roundOf_302 (by decide) ?_
                  have hbit : bS x3 v10 := by show ((x3 >>> (v10 &&& 31)) &&& 1).toInt = 1; rw [← ez4, ← ez5]; omega
                  have hix : z92.toNatClampNeg = z11.toNatClampNeg := by show z92.toInt.toNat = z11.toInt.toNat; omega
                  rw [hix] at eF93
                  have hL := L3_s hex146.1 (z := z95) (v := z59.toInt) (left' := z61.toInt) (all' := z94.toInt) (by omega) (by omega) (by omega) (by omega) hbit (by show z11.toInt.toNat = _; omega) wz12 eF93 (by omega) (by omega) (Or.inl ⟨by omega, ez87, ez86⟩) (Or.inr ⟨by omega, ez89⟩)
                  exact ih146 F93 H locs ls v4 z61 z94 z87 z89 z95 hG (lv_sub hl [8, 9, 10, 11, 12, 5, 1, 3, 2, 0] rfl) (by omega) (by omega) (by omega) (by omega) (by omega) (by omega) (by omega) (by omega) (by exact ⟨hL, by omega, by first | omega | (have k0 := kI_0; omega), by first | omega | (have k0 := kI_0; omega)⟩) (by omega)
                · skip
                  have ic88 := tn_nle rfl rfl c88
                  refine lv_iconst (v := 1) hx hb dX10_roundOf_267 (by decide) ?_
                  refine lv_iload hx hb dX10_roundOf_268 (lv_at hl 12 rfl) ?_
                  refine lv_ishl hx hb dX10_roundOf_270 ?_
                  refine lv_topi (fun z96 ez96 => ?_)
                  refine lv_goto (tgt := 275) hx hb dX10_roundOf_271 (by decide) ?_
                  refine lv_ior hx hb dX10_roundOf_275 ?_
                  refine lv_topi (fun z97 ez97 => ?_)
                  refine lv_istore (lv' := [(9, .int z97), (8, .int z87), (13, .int r67), (6, .int z61), (12, .int z59), (11, .int r8), (0, .ref h0), (1, .int x1), (2, .int x2), (3, .int x3), (4, .int v4), (7, .int v7), (10, .int v10)]) hx hb dX10_roundOf_276 hl (by decide) rfl (fun ls hl => ?_)
                  refine lv_aload_n hx hb dX10_roundOf_278 rfl (lv_at hl 6 rfl) ?_
                  refine mc_getr E hG t0 mr_45 dX10_roundOf_279 (fun oa98 hoa98 => ?_)
                  refine lv_bipush (v := 8) hx hb dX10_roundOf_282 (by decide) ?_
                  refine lv_iload_n hx hb dX10_roundOf_284 rfl (lv_at hl 7 rfl) ?_
                  refine lv_imul hx hb dX10_roundOf_285 ?_
                  refine lv_topi (fun z99 ez99 => ?_)
                  have tz99 := tn_mul ez99 kI_8 rfl (by omega) (by omega)
                  refine lv_iload hx hb dX10_roundOf_286 (lv_at hl 12 rfl) ?_
                  refine lv_iadd hx hb dX10_roundOf_288 ?_
                  refine lv_topi (fun z100 ez100 => ?_)
                  have tz100 := tn_add ez100 rfl rfl (by omega) (by omega)
                  refine lv_iload hx hb dX10_roundOf_289 (lv_at hl 2 rfl) ?_
                  refine mc_iastX E hG hoa98 ma_12.1 ma_12.2.1 (ma_12.2.2 _) (t_in (by omega) (by omega)) (by omega) (by omega) dX10_roundOf_291 (fun H locs hG => ?_)
                  have hG := kO_set (PG_12) hG
                  obtain ⟨F101, eF101⟩ : ∃ Z : mF, Z = up2 F 12 (z100).toNatClampNeg r67 := ⟨_, rfl⟩
                  rw [← eF101] at hG
                  refine lv_iload hx hb dX10_roundOf_292 (lv_at hl 11 rfl) ?_
                  refine lv_iload hx hb dX10_roundOf_294 (lv_at hl 2 rfl) ?_
                  refine lv_iadd hx hb dX10_roundOf_296 ?_
                  refine lv_topi (fun z102 ez102 => ?_)
                  have tz102 := tn_add ez102 rfl rfl (by omega) (by omega)
                  refine lv_istore (lv' := [(7, .int z102), (9, .int z97), (8, .int z87), (13, .int r67), (6, .int z61), (12, .int z59), (11, .int r8), (0, .ref h0), (1, .int x1), (2, .int x2), (3, .int x3), (4, .int v4), (10, .int v10)]) hx hb dX10_roundOf_297 hl (by decide) rfl (fun ls hl => ?_)
                  obtain ⟨z103, ez103⟩ : ∃ y : Int32, y = v10 + (1) := ⟨_, rfl⟩
                  refine lv_iinc (v := z103) (lv' := [(10, .int z103), (7, .int z102), (9, .int z97), (8, .int z87), (13, .int r67), (6, .int z61), (12, .int z59), (11, .int r8), (0, .ref h0), (1, .int x1), (2, .int x2), (3, .int x3), (4, .int v4)]) hx hb dX10_roundOf_299 hl (k := 12) rfl (by rw [ez103]; rfl) (by decide) rfl (fun ls hl => ?_)
                  have tz103 := tn_add ez103 rfl kI_1 (by omega) (by omega)
                  refine lv_goto (tgt := 146) hx hb dX10_roundOf_302 (by decide) ?_
                  have hbit : bS x3 v10 := by show ((x3 >>> (v10 &&& 31)) &&& 1).toInt = 1; rw [← ez4, ← ez5]; omega
                  have hix : z100.toNatClampNeg = z11.toNatClampNeg := by show z100.toInt.toNat = z11.toInt.toNat; omega
                  rw [hix] at eF101
                  have hL := L3_s hex146.1 (z := z103) (v := z59.toInt) (left' := z61.toInt) (all' := z102.toInt) (by omega) (by omega) (by omega) (by omega) hbit (by show z11.toInt.toNat = _; omega) wz12 eF101 (by omega) (by omega) (Or.inl ⟨by omega, ez87, ez86⟩) (Or.inl ⟨by omega, ez97, ez96⟩)
                  exact ih146 F101 H locs ls v4 z61 z102 z87 z97 z103 hG (lv_sub hl [8, 9, 10, 11, 12, 5, 1, 3, 2, 0] rfl) (by omega) (by omega) (by omega) (by omega) (by omega) (by omega) (by omega) (by omega) (by exact ⟨hL, by omega, by first | omega | (have k0 := kI_0; omega), by first | omega | (have k0 := kI_0; omega)⟩) (by omega)
  have J64 : ∀ (n64 : Nat) (F : mF) (H : Heap) (locs : List Loc) (ls : Array Slot) (v4 : Int32) (v5 : Int32) (v6 : Int32) (v7 : Int32), mGH G (σ, cu, kO PG X F) s H locs → lv_has ls 14 [(0, .ref h0), (1, .int x1), (2, .int x2), (3, .int x3), (4, .int v4), (5, .int v5), (6, .int v6), (7, .int v7)] → 0 ≤ v4.toInt → v4.toInt ≤ 8 → 0 ≤ v5.toInt → v5.toInt ≤ 72 → -8000 ≤ v6.toInt → v6.toInt ≤ 1000 → 0 ≤ v7.toInt → v7.toInt ≤ 8 → (L2 t x1.toInt x3 F x2.toInt v5.toInt v6.toInt v4.toInt v7.toInt ∧ v4.toInt = K t x1.toInt 10 ∧ -1000 * v7.toInt ≤ v6.toInt ∧ v7.toInt ≤ v4.toInt) → (8 - v7.toInt).toNat < n64 → W p l e (tRm 2 44) s m ([.ref h0, .int x1, .int x2, .int x3] : List Value).toArray below meth c H locs 0 0 (MQ below (mQi G (σ, cu, X) (fun r => (r = x3 ∨ hasB x3 r))) ([.ref h0, .int x1, .int x2, .int x3] : List Value).toArray s 0 0 (mA (σ, cu, X))) (F0 m 64 ls []) := by
    intro n64
    induction n64 with
    | zero => intro F H locs ls v4 v5 v6 v7 hG hl b4 c4 b5 c5 b6 c6 b7 c7 hex64 hn64; exact absurd hn64 (Nat.not_lt_zero _)
    | succ n64 ih64 =>
      intro F H locs ls v4 v5 v6 v7 hG hl b4 c4 b5 c5 b6 c6 b7 c7 hex64 hn64
      refine lv_iload hx hb dX10_roundOf_64 (lv_at hl 7 rfl) ?_
      refine lv_iload hx hb dX10_roundOf_66 (lv_at hl 4 rfl) ?_
      refine lv_icmp_ge (tgt := 134) hx hb dX10_roundOf_68 (by decide) (fun c104 => ?_) (fun c104 => ?_)
      · skip
        have ic104 := tn_le rfl rfl c104
        refine lv_iconst (v := 0) hx hb dX10_roundOf_134 (by decide) ?_
        refine lv_istore (lv' := [(7, .int 0), (0, .ref h0), (1, .int x1), (2, .int x2), (3, .int x3), (4, .int v4), (5, .int v5), (6, .int v6)]) hx hb dX10_roundOf_135 hl (by decide) rfl (fun ls hl => ?_)
        refine lv_iconst (v := 0) hx hb dX10_roundOf_137 (by decide) ?_
        refine lv_istore (lv' := [(8, .int 0), (7, .int 0), (0, .ref h0), (1, .int x1), (2, .int x2), (3, .int x3), (4, .int v4), (5, .int v5), (6, .int v6)]) hx hb dX10_roundOf_138 hl (by decide) rfl (fun ls hl => ?_)
        refine lv_iconst (v := 0) hx hb dX10_roundOf_140 (by decide) ?_
        refine lv_istore (lv' := [(9, .int 0), (8, .int 0), (7, .int 0), (0, .ref h0), (1, .int x1), (2, .int x2), (3, .int x3), (4, .int v4), (5, .int v5), (6, .int v6)]) hx hb dX10_roundOf_141 hl (by decide) rfl (fun ls hl => ?_)
        refine lv_iconst (v := 0) hx hb dX10_roundOf_143 (by decide) ?_
        refine lv_istore (lv' := [(10, .int 0), (9, .int 0), (8, .int 0), (7, .int 0), (0, .ref h0), (1, .int x1), (2, .int x2), (3, .int x3), (4, .int v4), (5, .int v5), (6, .int v6)]) hx hb dX10_roundOf_144 hl (by decide) rfl (fun ls hl => ?_)
        have hb0 := hE.choose_spec
        have hb1 := hO _ hb0.1 hb0.2.1 hb0.2.2
        have hge := ps_ge (f := gS t x1.toInt x3) (n := v4.toInt.toNat) (i := hE.choose.toInt.toNat) (fun j hj => gS_nn hO (by omega)) (by omega)
        rw [gS_1 hb0.1 hb0.2.1 hb0.2.2] at hge
        have hpn := ps_nn (f := gS t x1.toInt x3) (n := hE.choose.toInt.toNat) (fun j hj => gS_nn hO (by omega))
        have h1e := hex64.1.1
        have hL := L3_0 hex64.1 (by omega) (by omega) (by omega)
        have hL0 : 0 ≤ v6.toInt := hL.1
        exact J146 ((8 - (0 : Int32).toInt).toNat + 1) F H locs ls v4 v6 (0 : Int32) (0 : Int32) (0 : Int32) (0 : Int32) hG (lv_sub hl [4, 5, 6, 7, 8, 10, 3, 2, 1, 0] rfl) (by omega) (by omega) (by omega) (by omega) (by decide) (by decide) (by decide) (by decide) (by exact ⟨hL, by omega, by first | omega | (have k0 := kI_0; omega), by first | omega | (have k0 := kI_0; omega)⟩) (Nat.lt_succ_self _)
      · skip
        have ic104 := tn_nle rfl rfl c104
        refine lv_iload_n hx hb dX10_roundOf_71 rfl (lv_at hl 3 rfl) ?_
        refine lv_iload hx hb dX10_roundOf_72 (lv_at hl 7 rfl) ?_
        refine lv_ishr hx hb dX10_roundOf_74 ?_
        refine lv_topi (fun z105 ez105 => ?_)
        refine lv_iconst (v := 1) hx hb dX10_roundOf_75 (by decide) ?_
        refine lv_iand hx hb dX10_roundOf_76 ?_
        refine lv_topi (fun z106 ez106 => ?_)
        refine lv_iconst (v := 1) hx hb dX10_roundOf_77 (by decide) ?_
        refine lv_icmp_ne (tgt := 128) hx hb dX10_roundOf_78 (by decide) (fun c107 => ?_) (fun c107 => ?_)
        · skip
          have ic107 := tn_ne rfl kI_1 c107
          obtain ⟨z108, ez108⟩ : ∃ y : Int32, y = v7 + (1) := ⟨_, rfl⟩
          refine lv_iinc (v := z108) (lv' := [(7, .int z108), (0, .ref h0), (1, .int x1), (2, .int x2), (3, .int x3), (4, .int v4), (5, .int v5), (6, .int v6)]) hx hb dX10_roundOf_128 hl (k := 7) rfl (by rw [ez108]; rfl) (by decide) rfl (fun ls hl => ?_)
          have tz108 := tn_add ez108 rfl kI_1 (by omega) (by omega)
          refine lv_goto (tgt := 64) hx hb dX10_roundOf_131 (by decide) ?_
          have hbit : ¬ bS x3 v7 := by show ¬ ((x3 >>> (v7 &&& 31)) &&& 1).toInt = 1; rw [← ez105, ← ez106]; omega
          have hL := L2_n hex64.1 (z := z108) (by omega) (by omega) (by omega) hbit
          exact ih64 F H locs ls v4 v5 v6 z108 hG (lv_sub hl [1, 2, 3, 4, 5, 6, 7, 0] rfl) (by omega) (by omega) (by omega) (by omega) (by omega) (by omega) (by omega) (by omega) (by exact ⟨hL, by omega, by first | omega | (have k0 := kI_0; omega), by first | omega | (have k0 := kI_0; omega)⟩) (by omega)
        · skip
          have ic107 := tn_eq rfl kI_1 c107
          refine lv_aload_n hx hb dX10_roundOf_81 rfl (lv_at hl 0 rfl) ?_
          refine mc_getr E hG t0 mr_45 dX10_roundOf_82 (fun oa109 hoa109 => ?_)
          refine lv_bipush (v := 8) hx hb dX10_roundOf_85 (by decide) ?_
          refine lv_iload_n hx hb dX10_roundOf_87 rfl (lv_at hl 1 rfl) ?_
          refine lv_imul hx hb dX10_roundOf_88 ?_
          refine lv_topi (fun z110 ez110 => ?_)
          have tz110 := tn_mul ez110 kI_8 rfl (by omega) (by omega)
          refine lv_iload hx hb dX10_roundOf_89 (lv_at hl 7 rfl) ?_
          refine lv_iadd hx hb dX10_roundOf_91 ?_
          refine lv_topi (fun z111 ez111 => ?_)
          have tz111 := tn_add ez111 rfl rfl (by omega) (by omega)
          refine lv_iload_n hx hb dX10_roundOf_92 rfl (lv_at hl 2 rfl) ?_
          refine lv_aload_n hx hb dX10_roundOf_93 rfl (lv_at hl 0 rfl) ?_
          refine lv_aload_n hx hb dX10_roundOf_94 rfl (lv_at hl 0 rfl) ?_
          refine lv_iload_n hx hb dX10_roundOf_95 rfl (lv_at hl 1 rfl) ?_
          refine lv_iload hx hb dX10_roundOf_96 (lv_at hl 7 rfl) ?_
          refine tc_callp (mc_runV (As := [.int x1, .int v7]) (rest := [.ref h0, .int x2, .int z111, .ref oa109]) E hG (c_X10_childOf l G (σ, cu, kO PG X F) h0 x1 v7 t0 (by omega) (by omega) (by omega) (by omega)) t0 rfl kv_X10_childOf ml_X10_153 ⟨rfl, rfl, Nat.le_of_ble_eq_true rfl, Nat.le_of_ble_eq_true rfl⟩ rfl hl.1 rfl (Nat.le_of_ble_eq_true rfl) ⟨Nat.zero_le _, Nat.zero_le _⟩ dX10_roundOf_98) (fun r112 pr112 => ?_)
          replace pr112 : mV (σ, cu, kO PG X F) (ix x1.toInt (11 + v7.toInt)) r112 := pr112
          have br112 := mV_r 11 18 0 23 pr112 (by omega) (by omega) (by omega) (by decide) (by decide)
          have cr112 := mT pr112 (kO_TI (PG_tr hcu) hT) (by omega) (by omega) (by omega) (by omega)
          have dr112 := mP11 cr112 hI (by omega) (by omega) (by omega)
          refine lv_bipush (v := 6) hx hb dX10_roundOf_101 (by decide) ?_
          refine tc_callp (mc_runV (As := [.int r112, .int 6]) (rest := [.int x2, .int z111, .ref oa109]) E hG (c_X10_get l G (σ, cu, kO PG X F) h0 r112 (6 : Int32) t0 (by omega) (by omega) (by decide) (by decide)) t0 rfl kv_X10_get ml_X10_91 ⟨rfl, rfl, Nat.le_of_ble_eq_true rfl, Nat.le_of_ble_eq_true rfl⟩ rfl hl.1 rfl (Nat.le_of_ble_eq_true rfl) ⟨Nat.zero_le _, Nat.zero_le _⟩ dX10_roundOf_103) (fun r113 pr113 => ?_)
          replace pr113 : mV (σ, cu, kO PG X F) (ix r112.toInt (6 : Int32).toInt) r113 := pr113
          have pr113 := mV_l pr113 kI_6
          have br113 := mV_6 pr113 (by omega)
          have cr113 := mT pr113 (kO_TI (PG_tr hcu) hT) (by omega) (by omega) (by decide) (by decide)
          have k114 := kI_6
          refine lv_imul hx hb dX10_roundOf_106 ?_
          refine lv_topi (fun z115 ez115 => ?_)
          have tz115 := tn_mulb (a := 1000) (b := 9) ez115 (by omega) (by omega) (by omega) (by omega) (by decide)
          refine lv_iload hx hb dX10_roundOf_107 (lv_at hl 5 rfl) ?_
          have hbit : bS x3 v7 := by show ((x3 >>> (v7 &&& 31)) &&& 1).toInt = 1; rw [← ez105, ← ez106]; omega
          have hsh := hO v7 (by omega) (by omega) hbit
          have hge := ps_ge (f := gS t x1.toInt x3) (n := v4.toInt.toNat) (i := v7.toInt.toNat) (fun j hj => gS_nn hO (by omega)) (by omega)
          rw [gS_1 (by omega) (by omega) hbit] at hge
          have hpn := ps_nn (f := gS t x1.toInt x3) (n := v7.toInt.toNat) (fun j hj => gS_nn hO (by omega))
          have h1e := hex64.1.1
          rw [cr112] at cr113
          refine lv_idiv hx hb dX10_roundOf_109 (t_ne0 (by omega)) ?_
          refine lv_topi (fun z116 ez116 => ?_)
          have hdv := dv_b (x := x2.toInt) (s := r113.toInt) (S := v5.toInt) (by omega) (by omega) (by omega) tz115.1 rfl ez116 (by omega)
          refine mc_iastX E hG hoa109 ma_12.1 ma_12.2.1 (ma_12.2.2 _) (t_in (by omega) (by omega)) (by omega) (by omega) dX10_roundOf_110 (fun H locs hG => ?_)
          have hG := kO_set (PG_12) hG
          obtain ⟨F117, eF117⟩ : ∃ Z : mF, Z = up2 F 12 (z111).toNatClampNeg z116 := ⟨_, rfl⟩
          rw [← eF117] at hG
          refine lv_iload hx hb dX10_roundOf_111 (lv_at hl 6 rfl) ?_
          refine lv_aload_n hx hb dX10_roundOf_113 rfl (lv_at hl 0 rfl) ?_
          refine mc_getr E hG t0 mr_45 dX10_roundOf_114 (fun oa118 hoa118 => ?_)
          refine lv_bipush (v := 8) hx hb dX10_roundOf_117 (by decide) ?_
          refine lv_iload_n hx hb dX10_roundOf_119 rfl (lv_at hl 1 rfl) ?_
          refine lv_imul hx hb dX10_roundOf_120 ?_
          refine lv_topi (fun z119 ez119 => ?_)
          have tz119 := tn_mul ez119 kI_8 rfl (by omega) (by omega)
          refine lv_iload hx hb dX10_roundOf_121 (lv_at hl 7 rfl) ?_
          refine lv_iadd hx hb dX10_roundOf_123 ?_
          refine lv_topi (fun z120 ez120 => ?_)
          have tz120 := tn_add ez120 rfl rfl (by omega) (by omega)
          refine mc_iald E hG hoa118 ma_12 (t_in (by omega) (by omega)) dX10_roundOf_124 (fun z121 lz121 uz121 qz121 => ?_)
          have wz121 := kq qz121 (PG_12)
          have hgf : z121 = z116 := by rw [wz121, eF117, show z120.toNatClampNeg = z111.toNatClampNeg by show z120.toInt.toNat = z111.toInt.toNat; omega, up2_at]
          refine lv_isub hx hb dX10_roundOf_125 ?_
          refine lv_topi (fun z122 ez122 => ?_)
          have tz122 := tn_sub ez122 rfl rfl (by omega) (by omega)
          refine lv_istore (lv' := [(6, .int z122), (0, .ref h0), (1, .int x1), (2, .int x2), (3, .int x3), (4, .int v4), (5, .int v5), (7, .int v7)]) hx hb dX10_roundOf_126 hl (by decide) rfl (fun ls hl => ?_)
          obtain ⟨z123, ez123⟩ : ∃ y : Int32, y = v7 + (1) := ⟨_, rfl⟩
          refine lv_iinc (v := z123) (lv' := [(7, .int z123), (6, .int z122), (0, .ref h0), (1, .int x1), (2, .int x2), (3, .int x3), (4, .int v4), (5, .int v5)]) hx hb dX10_roundOf_128 hl (k := 7) rfl (by rw [ez123]; rfl) (by decide) rfl (fun ls hl => ?_)
          have tz123 := tn_add ez123 rfl kI_1 (by omega) (by omega)
          refine lv_goto (tgt := 64) hx hb dX10_roundOf_131 (by decide) ?_
          have hL := L2_s hex64.1 (z := z123) (by omega) (by omega) (by omega) hbit (by show z111.toInt.toNat = _; omega) eF117 (by rw [← cr113]; exact hdv.1) (by rw [← cr113]; exact hdv.2.1) (show z122.toInt = v6.toInt - z116.toInt by rw [← hgf]; omega)
          exact ih64 F117 H locs ls v4 v5 z122 z123 hG (lv_sub hl [2, 3, 4, 5, 6, 7, 1, 0] rfl) (by omega) (by omega) (by omega) (by omega) (by omega) (by omega) (by omega) (by omega) (by exact ⟨hL, by omega, by first | omega | (have k0 := kI_0; omega), by first | omega | (have k0 := kI_0; omega)⟩) (by omega)
  have J16 : ∀ (n16 : Nat) (H : Heap) (locs : List Loc) (ls : Array Slot) (v4 : Int32) (v5 : Int32) (v6 : Int32) (v7 : Int32), mGH G (σ, cu, kO PG X Fa) s H locs → lv_has ls 14 [(0, .ref h0), (1, .int x1), (2, .int x2), (3, .int x3), (4, .int v4), (5, .int v5), (6, .int v6), (7, .int v7)] → 0 ≤ v4.toInt → v4.toInt ≤ 8 → 0 ≤ v5.toInt → v5.toInt ≤ 72 → 0 ≤ v6.toInt → v6.toInt ≤ 1000 → 0 ≤ v7.toInt → v7.toInt ≤ 8 → (v4.toInt = K t x1.toInt 10 ∧ v5.toInt = ps (gS t x1.toInt x3) v7.toInt.toNat ∧ v6.toInt = x2.toInt ∧ v5.toInt ≤ 9 * v7.toInt ∧ v7.toInt ≤ v4.toInt) → (8 - v7.toInt).toNat < n16 → W p l e (tRm 2 44) s m ([.ref h0, .int x1, .int x2, .int x3] : List Value).toArray below meth c H locs 0 0 (MQ below (mQi G (σ, cu, X) (fun r => (r = x3 ∨ hasB x3 r))) ([.ref h0, .int x1, .int x2, .int x3] : List Value).toArray s 0 0 (mA (σ, cu, X))) (F0 m 16 ls []) := by
    intro n16
    induction n16 with
    | zero => intro H locs ls v4 v5 v6 v7 hG hl b4 c4 b5 c5 b6 c6 b7 c7 hex16 hn16; exact absurd hn16 (Nat.not_lt_zero _)
    | succ n16 ih16 =>
      intro H locs ls v4 v5 v6 v7 hG hl b4 c4 b5 c5 b6 c6 b7 c7 hex16 hn16
      refine lv_iload hx hb dX10_roundOf_16 (lv_at hl 7 rfl) ?_
      refine lv_iload hx hb dX10_roundOf_18 (lv_at hl 4 rfl) ?_
      refine lv_icmp_ge (tgt := 61) hx hb dX10_roundOf_20 (by decide) (fun c124 => ?_) (fun c124 => ?_)
      · skip
        have ic124 := tn_le rfl rfl c124
        refine lv_iconst (v := 0) hx hb dX10_roundOf_61 (by decide) ?_
        refine lv_istore (lv' := [(7, .int 0), (0, .ref h0), (1, .int x1), (2, .int x2), (3, .int x3), (4, .int v4), (5, .int v5), (6, .int v6)]) hx hb dX10_roundOf_62 hl (by decide) rfl (fun ls hl => ?_)
        have hL : L2 t x1.toInt x3 Fa x2.toInt v5.toInt v6.toInt v4.toInt (0 : Int32).toInt := L2_0 (by rw [show v4.toInt.toNat = v7.toInt.toNat by omega]; exact hex16.2.1) (by omega)
        exact J64 ((8 - (0 : Int32).toInt).toNat + 1) Fa H locs ls v4 v5 v6 (0 : Int32) hG (lv_sub hl [1, 2, 3, 4, 5, 6, 7, 0] rfl) (by omega) (by omega) (by omega) (by omega) (by omega) (by omega) (by decide) (by decide) (by exact ⟨hL, by omega, by first | omega | (have k0 := kI_0; omega), by first | omega | (have k0 := kI_0; omega)⟩) (Nat.lt_succ_self _)
      · skip
        have ic124 := tn_nle rfl rfl c124
        refine lv_iload hx hb dX10_roundOf_23 (lv_at hl 5 rfl) ?_
        refine lv_iload_n hx hb dX10_roundOf_25 rfl (lv_at hl 3 rfl) ?_
        refine lv_iload hx hb dX10_roundOf_26 (lv_at hl 7 rfl) ?_
        refine lv_ishr hx hb dX10_roundOf_28 ?_
        refine lv_topi (fun z125 ez125 => ?_)
        refine lv_iconst (v := 1) hx hb dX10_roundOf_29 (by decide) ?_
        refine lv_iand hx hb dX10_roundOf_30 ?_
        refine lv_topi (fun z126 ez126 => ?_)
        refine lv_iconst (v := 1) hx hb dX10_roundOf_31 (by decide) ?_
        refine lv_icmp_ne (tgt := 51) hx hb dX10_roundOf_32 (by decide) (fun c127 => ?_) (fun c127 => ?_)
        · skip
          have ic127 := tn_ne rfl kI_1 c127
          refine lv_iconst (v := 0) hx hb dX10_roundOf_51 (by decide) ?_
          refine lv_iadd hx hb dX10_roundOf_52 ?_
          refine lv_topi (fun z128 ez128 => ?_)
          have tz128 := tn_add ez128 rfl kI_0 (by omega) (by omega)
          refine lv_istore (lv' := [(5, .int z128), (0, .ref h0), (1, .int x1), (2, .int x2), (3, .int x3), (4, .int v4), (6, .int v6), (7, .int v7)]) hx hb dX10_roundOf_53 hl (by decide) rfl (fun ls hl => ?_)
          obtain ⟨z129, ez129⟩ : ∃ y : Int32, y = v7 + (1) := ⟨_, rfl⟩
          refine lv_iinc (v := z129) (lv' := [(7, .int z129), (5, .int z128), (0, .ref h0), (1, .int x1), (2, .int x2), (3, .int x3), (4, .int v4), (6, .int v6)]) hx hb dX10_roundOf_55 hl (k := 7) rfl (by rw [ez129]; rfl) (by decide) rfl (fun ls hl => ?_)
          have tz129 := tn_add ez129 rfl kI_1 (by omega) (by omega)
          refine lv_goto (tgt := 16) hx hb dX10_roundOf_58 (by decide) ?_
          have hbit : ¬ bS x3 v7 := by show ¬ ((x3 >>> (v7 &&& 31)) &&& 1).toInt = 1; rw [← ez125, ← ez126]; omega
          have hg := gS_0 (t := t) (b := x1.toInt) (by omega) (by omega) hbit
          have hs1 := ps_1 (h := gS t x1.toInt x3) (v := v7) (z := z129) (by omega) (by omega)
          exact ih16 H locs ls v4 z128 v6 z129 hG (lv_sub hl [2, 3, 4, 5, 6, 1, 7, 0] rfl) (by omega) (by omega) (by omega) (by omega) (by omega) (by omega) (by omega) (by omega) (by first | omega | (rw [kI_0]; exact ⟨by omega, by rfl, by omega, by omega⟩)) (by omega)
        · skip
          have ic127 := tn_eq rfl kI_1 c127
          refine lv_aload_n hx hb dX10_roundOf_35 rfl (lv_at hl 0 rfl) ?_
          refine lv_aload_n hx hb dX10_roundOf_36 rfl (lv_at hl 0 rfl) ?_
          refine lv_iload_n hx hb dX10_roundOf_37 rfl (lv_at hl 1 rfl) ?_
          refine lv_iload hx hb dX10_roundOf_38 (lv_at hl 7 rfl) ?_
          refine tc_callp (mc_runV (As := [.int x1, .int v7]) (rest := [.ref h0, .int v5]) E hG (c_X10_childOf l G (σ, cu, kO PG X Fa) h0 x1 v7 t0 (by omega) (by omega) (by omega) (by omega)) t0 rfl kv_X10_childOf ml_X10_153 ⟨rfl, rfl, Nat.le_of_ble_eq_true rfl, Nat.le_of_ble_eq_true rfl⟩ rfl hl.1 rfl (Nat.le_of_ble_eq_true rfl) ⟨Nat.zero_le _, Nat.zero_le _⟩ dX10_roundOf_40) (fun r130 pr130 => ?_)
          replace pr130 : mV (σ, cu, kO PG X Fa) (ix x1.toInt (11 + v7.toInt)) r130 := pr130
          have br130 := mV_r 11 18 0 23 pr130 (by omega) (by omega) (by omega) (by decide) (by decide)
          have cr130 := mT pr130 (kO_TI (PG_tr hcu) hT) (by omega) (by omega) (by omega) (by omega)
          have dr130 := mP11 cr130 hI (by omega) (by omega) (by omega)
          refine lv_bipush (v := 6) hx hb dX10_roundOf_43 (by decide) ?_
          refine tc_callp (mc_runV (As := [.int r130, .int 6]) (rest := [.int v5]) E hG (c_X10_get l G (σ, cu, kO PG X Fa) h0 r130 (6 : Int32) t0 (by omega) (by omega) (by decide) (by decide)) t0 rfl kv_X10_get ml_X10_91 ⟨rfl, rfl, Nat.le_of_ble_eq_true rfl, Nat.le_of_ble_eq_true rfl⟩ rfl hl.1 rfl (Nat.le_of_ble_eq_true rfl) ⟨Nat.zero_le _, Nat.zero_le _⟩ dX10_roundOf_45) (fun r131 pr131 => ?_)
          replace pr131 : mV (σ, cu, kO PG X Fa) (ix r130.toInt (6 : Int32).toInt) r131 := pr131
          have pr131 := mV_l pr131 kI_6
          have br131 := mV_6 pr131 (by omega)
          have cr131 := mT pr131 (kO_TI (PG_tr hcu) hT) (by omega) (by omega) (by decide) (by decide)
          have k132 := kI_6
          refine lv_goto (tgt := 52) hx hb dX10_roundOf_48 (by decide) ?_
          refine lv_iadd hx hb dX10_roundOf_52 ?_
          refine lv_topi (fun z133 ez133 => ?_)
          have tz133 := tn_add ez133 rfl rfl (by omega) (by omega)
          refine lv_istore (lv' := [(5, .int z133), (0, .ref h0), (1, .int x1), (2, .int x2), (3, .int x3), (4, .int v4), (6, .int v6), (7, .int v7)]) hx hb dX10_roundOf_53 hl (by decide) rfl (fun ls hl => ?_)
          obtain ⟨z134, ez134⟩ : ∃ y : Int32, y = v7 + (1) := ⟨_, rfl⟩
          refine lv_iinc (v := z134) (lv' := [(7, .int z134), (5, .int z133), (0, .ref h0), (1, .int x1), (2, .int x2), (3, .int x3), (4, .int v4), (6, .int v6)]) hx hb dX10_roundOf_55 hl (k := 7) rfl (by rw [ez134]; rfl) (by decide) rfl (fun ls hl => ?_)
          have tz134 := tn_add ez134 rfl kI_1 (by omega) (by omega)
          refine lv_goto (tgt := 16) hx hb dX10_roundOf_58 (by decide) ?_
          have hbit : bS x3 v7 := by show ((x3 >>> (v7 &&& 31)) &&& 1).toInt = 1; rw [← ez125, ← ez126]; omega
          have hg := gS_1 (t := t) (b := x1.toInt) (by omega) (by omega) hbit
          rw [← cr130, ← cr131] at hg
          have hs1 := ps_1 (h := gS t x1.toInt x3) (v := v7) (z := z134) (by omega) (by omega)
          exact ih16 H locs ls v4 z133 v6 z134 hG (lv_sub hl [2, 3, 4, 5, 6, 1, 7, 0] rfl) (by omega) (by omega) (by omega) (by omega) (by omega) (by omega) (by omega) (by omega) (by first | omega | (rw [kI_0]; exact ⟨by omega, by rfl, by omega, by omega⟩)) (by omega)
  refine lv_aload_n hx hb dX10_roundOf_0 rfl (lv_at hl 0 rfl) ?_
  refine lv_iload_n hx hb dX10_roundOf_1 rfl (lv_at hl 1 rfl) ?_
  refine tc_callp (mc_runV (As := [.int x1]) (rest := []) E hG (c_X10_manyOf l G (σ, cu, kO PG X Fa) h0 x1 t0 (by omega) (by omega)) t0 rfl kv_X10_manyOf ml_X10_117 ⟨rfl, rfl, Nat.le_of_ble_eq_true rfl, Nat.le_of_ble_eq_true rfl⟩ rfl hl.1 rfl (Nat.le_of_ble_eq_true rfl) ⟨Nat.zero_le _, Nat.zero_le _⟩ dX10_roundOf_2) (fun r135 pr135 => ?_)
  replace pr135 : mV (σ, cu, kO PG X Fa) (ix x1.toInt 10) r135 := pr135
  have br135 := mV_10 pr135 (by omega)
  have cr135 := mT pr135 (kO_TI (PG_tr hcu) hT) (by omega) (by omega) (by decide) (by decide)
  refine lv_istore (lv' := [(4, .int r135), (0, .ref h0), (1, .int x1), (2, .int x2), (3, .int x3)]) hx hb dX10_roundOf_5 hl (by decide) rfl (fun ls hl => ?_)
  refine lv_iconst (v := 0) hx hb dX10_roundOf_7 (by decide) ?_
  refine lv_istore (lv' := [(5, .int 0), (4, .int r135), (0, .ref h0), (1, .int x1), (2, .int x2), (3, .int x3)]) hx hb dX10_roundOf_8 hl (by decide) rfl (fun ls hl => ?_)
  refine lv_iload_n hx hb dX10_roundOf_10 rfl (lv_at hl 4 rfl) ?_
  refine lv_istore (lv' := [(6, .int x2), (5, .int 0), (4, .int r135), (0, .ref h0), (1, .int x1), (2, .int x2), (3, .int x3)]) hx hb dX10_roundOf_11 hl (by decide) rfl (fun ls hl => ?_)
  refine lv_iconst (v := 0) hx hb dX10_roundOf_13 (by decide) ?_
  refine lv_istore (lv' := [(7, .int 0), (6, .int x2), (5, .int 0), (4, .int r135), (0, .ref h0), (1, .int x1), (2, .int x2), (3, .int x3)]) hx hb dX10_roundOf_14 hl (by decide) rfl (fun ls hl => ?_)
  exact J16 ((8 - (0 : Int32).toInt).toNat + 1) H locs ls r135 (0 : Int32) x2 (0 : Int32) hG (lv_sub hl [4, 5, 6, 7, 3, 2, 1, 0] rfl) (by omega) (by omega) (by decide) (by decide) (by omega) (by omega) (by decide) (by decide) (by first | omega | (rw [kI_0]; exact ⟨by omega, by rfl, by omega, by omega⟩)) (Nat.lt_succ_self _)

