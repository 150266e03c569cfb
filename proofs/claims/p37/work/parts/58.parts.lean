/-! ===== the reference: parting ===== -/
set_option maxHeartbeats 4000000 in
set_option maxRecDepth 100000 in
theorem c_X10_parts (l : Launch) (G : tG) (σ : Nat → Nat) (cu : Nat) (X : mX) (h0 : Nat) (x1 : Int32) (t0 : σ h0 = 1) (l1 : 0 ≤ x1.toInt) (u1 : x1.toInt ≤ 23) (t : Nat → Int32) (hT : TI (σ, cu, X) t) (hI : TInv t) (hA : mAV (σ, cu, X)) : Met l yX10_parts (.code yX10_parts cX10_parts 9 none :: tWS) (tRm 3 77) (va_Pc [.ref h0, .int x1] (mPre G (σ, cu, X))) (mQv G (σ, cu, X)) 0 0 (mA (σ, cu, X)) := by
  refine mc_met (by decide) (Nat.le_of_ble_eq_true rfl) ?_
  intro p e s m below meth c E hr hlk hG ls hl
  have hl : lv_has ls 9 [(0, .ref h0), (1, .int x1)] := hl
  have hx := E.1
  have hb := E.2.1
  obtain ⟨H, eH⟩ : ∃ H, H = s.heap := ⟨_, rfl⟩
  obtain ⟨locs, eL⟩ : ∃ x : List Loc, x = [] := ⟨_, rfl⟩
  have hG : mGH G (σ, cu, X) s H locs := by rw [eH, eL]; exact hG
  suffices hW : W p l e (tRm 3 77) s m ([.ref h0, .int x1] : List Value).toArray below meth c H locs 0 0 (MQ below (mQv G (σ, cu, X)) ([.ref h0, .int x1] : List Value).toArray s 0 0 (mA (σ, cu, X))) (F0 m 0 ls []) by subst eH; subst eL; exact hW
  clear eH eL
  have J123 : ∀ (n123 : Nat) (H : Heap) (locs : List Loc) (ls : Array Slot) (v3 : Int32) (v4 : Int32) (v5 : Int32), mGH G (σ, cu, X) s H locs → lv_has ls 9 [(0, .ref h0), (1, .int x1), (3, .int v3), (4, .int v4), (5, .int v5)] → 0 ≤ v3.toInt → v3.toInt ≤ 8 → 0 ≤ v4.toInt → v4.toInt ≤ 1000 → (v3.toInt = K t x1.toInt 10 ∧ OK8 t x1.toInt v5 ∧ v5.toBitVec.toNat < 256) → mO v5 < n123 → W p l e (tRm 3 77) s m ([.ref h0, .int x1] : List Value).toArray below meth c H locs 0 0 (MQ below (mQv G (σ, cu, X)) ([.ref h0, .int x1] : List Value).toArray s 0 0 (mA (σ, cu, X))) (F0 m 123 ls []) := by
    intro n123
    induction n123 with
    | zero => intro H locs ls v3 v4 v5 hG hl b3 c3 b4 c4 hex123 hn123; exact absurd hn123 (Nat.not_lt_zero _)
    | succ n123 ih123 =>
      intro H locs ls v3 v4 v5 hG hl b3 c3 b4 c4 hex123 hn123
      have J142 : ∀ (n142 : Nat) (H : Heap) (locs : List Loc) (ls : Array Slot) (v3 : Int32) (v4 : Int32) (v5 : Int32) (v6 : Int32) (v7 : Int32), mGH G (σ, cu, X) s H locs → lv_has ls 9 [(0, .ref h0), (1, .int x1), (3, .int v3), (4, .int v4), (5, .int v5), (6, .int v6), (7, .int v7)] → 0 ≤ v3.toInt → v3.toInt ≤ 8 → -8000 ≤ v4.toInt → v4.toInt ≤ 1000 → 0 ≤ v7.toInt → v7.toInt ≤ 8 → mO v5 < n123 + 1 → (v3.toInt = K t x1.toInt 10 ∧ ¬ v5 = 0 ∧ (v6 = v5 ∨ hasB v5 v6) ∧ -1000 * v7.toInt ≤ v4.toInt ∧ OK8 t x1.toInt v5 ∧ v5.toBitVec.toNat < 256) → (8 - v7.toInt).toNat < n142 → W p l e (tRm 3 77) s m ([.ref h0, .int x1] : List Value).toArray below meth c H locs 0 0 (MQ below (mQv G (σ, cu, X)) ([.ref h0, .int x1] : List Value).toArray s 0 0 (mA (σ, cu, X))) (F0 m 142 ls []) := by
        intro n142
        induction n142 with
        | zero => intro H locs ls v3 v4 v5 v6 v7 hG hl b3 c3 b4 c4 b7 c7 hm123 hex142 hn142; exact absurd hn142 (Nat.not_lt_zero _)
        | succ n142 ih142 =>
          intro H locs ls v3 v4 v5 v6 v7 hG hl b3 c3 b4 c4 b7 c7 hm123 hex142 hn142
          refine lv_iload hx hb dX10_parts_142 (lv_at hl 6 rfl) ?_
          refine lv_iload_n hx hb dX10_parts_144 rfl (lv_at hl 2 rfl) ?_
          refine lv_icmp_ge (tgt := 186) hx hb dX10_parts_145 (by decide) (fun c1 => ?_) (fun c1 => ?_)
          · skip
            have ic1 := tn_le rfl rfl c1
            refine lv_iload hx hb dX10_parts_186 (lv_at hl 3 rfl) ?_
            refine lv_if_ge (tgt := 195) hx hb dX10_parts_188 (by decide) (fun c2 => ?_) (fun c2 => ?_)
            · skip
              have ic2 := tn_le kI_0 rfl c2
              refine lv_iload hx hb dX10_parts_195 (lv_at hl 3 rfl) ?_
              refine lv_istore (lv' := [(4, .int v4), (0, .ref h0), (1, .int x1), (3, .int v3), (5, .int v5), (6, .int v6), (7, .int v7)]) hx hb dX10_parts_197 hl (by decide) rfl (fun ls hl => ?_)
              refine lv_iload hx hb dX10_parts_199 (lv_at hl 4 rfl) ?_
              refine lv_iload hx hb dX10_parts_201 (lv_at hl 5 rfl) ?_
              refine lv_iconst (v := -1) hx hb dX10_parts_203 (by decide) ?_
              refine lv_ixor hx hb dX10_parts_204 ?_
              refine lv_topi (fun z3 ez3 => ?_)
              refine lv_iand hx hb dX10_parts_205 ?_
              refine lv_topi (fun z4 ez4 => ?_)
              refine lv_istore (lv' := [(5, .int z4), (4, .int v4), (0, .ref h0), (1, .int x1), (3, .int v3), (6, .int v6), (7, .int v7)]) hx hb dX10_parts_206 hl (by decide) rfl (fun ls hl => ?_)
              refine lv_aload_n hx hb dX10_parts_208 rfl (lv_at hl 2 rfl) ?_
              refine lv_dup hx hb dX10_parts_209 rfl ?_
              refine mc_geti E hG t0 mi_261 dX10_parts_210 (fun z5 lz5 uz5 qz5 => ?_)
              refine lv_iconst (v := 1) hx hb dX10_parts_213 (by decide) ?_
              refine lv_iadd hx hb dX10_parts_214 ?_
              refine lv_topi (fun z6 ez6 => ?_)
              refine mc_put E hG t0 mp_261 (hA.2.1 _ (by decide)) (t_any1 _) (t_any2 _) rfl rfl dX10_parts_215 (fun H locs hG => ?_)
              refine lv_goto (tgt := 123) hx hb dX10_parts_218 (by decide) ?_
              have hL : OK8 t x1.toInt z4 ∧ z4.toBitVec.toNat < 256 := by rw [ez4]; exact ⟨fun j h0 h7 h => hex142.2.2.2.2.1 j h0 h7 (b_and h0 h7 h), b_land hex142.2.2.2.2.2⟩
              have hmo : mO z4 < mO v5 := by rw [ez4, ez3]; exact mO_lt hex142.2.1 hex142.2.2.1
              exact ih123 H locs ls v3 v4 z4 hG (lv_sub hl [2, 3, 4, 1, 0] rfl) (by omega) (by omega) (by omega) (by omega) (by exact ⟨by omega, hL.1, hL.2⟩) (by omega)
            · skip
              have ic2 := tn_nle kI_0 rfl c2
              refine lv_iconst (v := 0) hx hb dX10_parts_191 (by decide) ?_
              refine lv_goto (tgt := 197) hx hb dX10_parts_192 (by decide) ?_
              refine lv_istore (lv' := [(4, .int 0), (0, .ref h0), (1, .int x1), (3, .int v3), (5, .int v5), (6, .int v6), (7, .int v7)]) hx hb dX10_parts_197 hl (by decide) rfl (fun ls hl => ?_)
              refine lv_iload hx hb dX10_parts_199 (lv_at hl 4 rfl) ?_
              refine lv_iload hx hb dX10_parts_201 (lv_at hl 5 rfl) ?_
              refine lv_iconst (v := -1) hx hb dX10_parts_203 (by decide) ?_
              refine lv_ixor hx hb dX10_parts_204 ?_
              refine lv_topi (fun z7 ez7 => ?_)
              refine lv_iand hx hb dX10_parts_205 ?_
              refine lv_topi (fun z8 ez8 => ?_)
              refine lv_istore (lv' := [(5, .int z8), (4, .int 0), (0, .ref h0), (1, .int x1), (3, .int v3), (6, .int v6), (7, .int v7)]) hx hb dX10_parts_206 hl (by decide) rfl (fun ls hl => ?_)
              refine lv_aload_n hx hb dX10_parts_208 rfl (lv_at hl 2 rfl) ?_
              refine lv_dup hx hb dX10_parts_209 rfl ?_
              refine mc_geti E hG t0 mi_261 dX10_parts_210 (fun z9 lz9 uz9 qz9 => ?_)
              refine lv_iconst (v := 1) hx hb dX10_parts_213 (by decide) ?_
              refine lv_iadd hx hb dX10_parts_214 ?_
              refine lv_topi (fun z10 ez10 => ?_)
              refine mc_put E hG t0 mp_261 (hA.2.1 _ (by decide)) (t_any1 _) (t_any2 _) rfl rfl dX10_parts_215 (fun H locs hG => ?_)
              refine lv_goto (tgt := 123) hx hb dX10_parts_218 (by decide) ?_
              have hL : OK8 t x1.toInt z8 ∧ z8.toBitVec.toNat < 256 := by rw [ez8]; exact ⟨fun j h0 h7 h => hex142.2.2.2.2.1 j h0 h7 (b_and h0 h7 h), b_land hex142.2.2.2.2.2⟩
              have hmo : mO z8 < mO v5 := by rw [ez8, ez7]; exact mO_lt hex142.2.1 hex142.2.2.1
              exact ih123 H locs ls v3 (0 : Int32) z8 hG (lv_sub hl [2, 3, 4, 1, 0] rfl) (by omega) (by omega) (by decide) (by decide) (by exact ⟨by omega, hL.1, hL.2⟩) (by omega)
          · skip
            have ic1 := tn_nle rfl rfl c1
            refine lv_iload hx hb dX10_parts_148 (lv_at hl 3 rfl) ?_
            refine lv_iload hx hb dX10_parts_150 (lv_at hl 5 rfl) ?_
            refine lv_iload hx hb dX10_parts_152 (lv_at hl 6 rfl) ?_
            refine lv_ishr hx hb dX10_parts_154 ?_
            refine lv_topi (fun z11 ez11 => ?_)
            refine lv_iconst (v := 1) hx hb dX10_parts_155 (by decide) ?_
            refine lv_iand hx hb dX10_parts_156 ?_
            refine lv_topi (fun z12 ez12 => ?_)
            refine lv_iconst (v := 1) hx hb dX10_parts_157 (by decide) ?_
            refine lv_icmp_ne (tgt := 176) hx hb dX10_parts_158 (by decide) (fun c13 => ?_) (fun c13 => ?_)
            · skip
              have ic13 := tn_ne rfl kI_1 c13
              refine lv_iconst (v := 0) hx hb dX10_parts_176 (by decide) ?_
              refine lv_isub hx hb dX10_parts_177 ?_
              refine lv_topi (fun z14 ez14 => ?_)
              have tz14 := tn_sub ez14 rfl kI_0 (by omega) (by omega)
              refine lv_istore (lv' := [(4, .int z14), (0, .ref h0), (1, .int x1), (3, .int v3), (5, .int v5), (6, .int v6), (7, .int v7)]) hx hb dX10_parts_178 hl (by decide) rfl (fun ls hl => ?_)
              obtain ⟨z15, ez15⟩ : ∃ y : Int32, y = v7 + (1) := ⟨_, rfl⟩
              refine lv_iinc (v := z15) (lv' := [(7, .int z15), (4, .int z14), (0, .ref h0), (1, .int x1), (3, .int v3), (5, .int v5), (6, .int v6)]) hx hb dX10_parts_180 hl (k := 6) rfl (by rw [ez15]; rfl) (by decide) rfl (fun ls hl => ?_)
              have tz15 := tn_add ez15 rfl kI_1 (by omega) (by omega)
              refine lv_goto (tgt := 142) hx hb dX10_parts_183 (by decide) ?_
              have hq : (¬ v5 = 0 ∧ (v6 = v5 ∨ hasB v5 v6)) ∧ OK8 t x1.toInt v5 ∧ v5.toBitVec.toNat < 256 := ⟨⟨hex142.2.1, hex142.2.2.1⟩, hex142.2.2.2.2.1, hex142.2.2.2.2.2⟩
              exact ih142 H locs ls v3 z14 v5 v6 z15 hG (lv_sub hl [2, 3, 4, 1, 5, 6, 0] rfl) (by omega) (by omega) (by omega) (by omega) (by omega) (by omega) (by omega) (by exact ⟨by omega, hq.1.1, hq.1.2, by first | omega | (have k0 := kI_0; omega), hq.2.1, hq.2.2⟩) (by omega)
            · skip
              have ic13 := tn_eq rfl kI_1 c13
              refine lv_aload_n hx hb dX10_parts_161 rfl (lv_at hl 0 rfl) ?_
              refine mc_getr E hG t0 mr_45 dX10_parts_162 (fun oa16 hoa16 => ?_)
              refine lv_bipush (v := 8) hx hb dX10_parts_165 (by decide) ?_
              refine lv_iload_n hx hb dX10_parts_167 rfl (lv_at hl 1 rfl) ?_
              refine lv_imul hx hb dX10_parts_168 ?_
              refine lv_topi (fun z17 ez17 => ?_)
              have tz17 := tn_mul ez17 kI_8 rfl (by omega) (by omega)
              refine lv_iload hx hb dX10_parts_169 (lv_at hl 6 rfl) ?_
              refine lv_iadd hx hb dX10_parts_171 ?_
              refine lv_topi (fun z18 ez18 => ?_)
              have tz18 := tn_add ez18 rfl rfl (by omega) (by omega)
              refine mc_iald E hG hoa16 ma_12 (t_in (by omega) (by omega)) dX10_parts_172 (fun z19 lz19 uz19 qz19 => ?_)
              refine lv_goto (tgt := 177) hx hb dX10_parts_173 (by decide) ?_
              refine lv_isub hx hb dX10_parts_177 ?_
              refine lv_topi (fun z20 ez20 => ?_)
              have tz20 := tn_sub ez20 rfl rfl (by omega) (by omega)
              refine lv_istore (lv' := [(4, .int z20), (0, .ref h0), (1, .int x1), (3, .int v3), (5, .int v5), (6, .int v6), (7, .int v7)]) hx hb dX10_parts_178 hl (by decide) rfl (fun ls hl => ?_)
              obtain ⟨z21, ez21⟩ : ∃ y : Int32, y = v7 + (1) := ⟨_, rfl⟩
              refine lv_iinc (v := z21) (lv' := [(7, .int z21), (4, .int z20), (0, .ref h0), (1, .int x1), (3, .int v3), (5, .int v5), (6, .int v6)]) hx hb dX10_parts_180 hl (k := 6) rfl (by rw [ez21]; rfl) (by decide) rfl (fun ls hl => ?_)
              have tz21 := tn_add ez21 rfl kI_1 (by omega) (by omega)
              refine lv_goto (tgt := 142) hx hb dX10_parts_183 (by decide) ?_
              have hq : (¬ v5 = 0 ∧ (v6 = v5 ∨ hasB v5 v6)) ∧ OK8 t x1.toInt v5 ∧ v5.toBitVec.toNat < 256 := ⟨⟨hex142.2.1, hex142.2.2.1⟩, hex142.2.2.2.2.1, hex142.2.2.2.2.2⟩
              exact ih142 H locs ls v3 z20 v5 v6 z21 hG (lv_sub hl [2, 3, 4, 1, 5, 6, 0] rfl) (by omega) (by omega) (by omega) (by omega) (by omega) (by omega) (by omega) (by exact ⟨by omega, hq.1.1, hq.1.2, by first | omega | (have k0 := kI_0; omega), hq.2.1, hq.2.2⟩) (by omega)
      refine lv_iload hx hb dX10_parts_123 (lv_at hl 4 rfl) ?_
      refine lv_if_eq (tgt := 221) hx hb dX10_parts_125 (by decide) (fun c22 => ?_) (fun c22 => ?_)
      · skip
        have ic22 := tn_eq rfl kI_0 c22
        exact mc_vret E hr hlk hG dX10_parts_221
      · skip
        have ic22 := tn_ne rfl kI_0 c22
        refine lv_aload_n hx hb dX10_parts_128 rfl (lv_at hl 0 rfl) ?_
        refine lv_iload_n hx hb dX10_parts_129 rfl (lv_at hl 1 rfl) ?_
        refine lv_iload hx hb dX10_parts_130 (lv_at hl 3 rfl) ?_
        refine lv_iload hx hb dX10_parts_132 (lv_at hl 4 rfl) ?_
        have h50 : ¬ v5 = 0 := fun q => by rw [q] at ic22; exact ic22 (by decide)
        have hE := b_ex hex123.2.2 h50
        have hO := hex123.2.1
        refine mc_calli hG (mc_runV (As := [.int x1, .int v4, .int v5]) (rest := []) E hG (c_X10_roundOf l G σ cu (X) h0 x1 v4 v5 t0 (by omega) (by omega) (by omega) (by omega) t hT hI hA (by assumption) (by assumption)) t0 rfl kv_X10_roundOf ml_X10_264 ⟨rfl, rfl, Nat.le_of_ble_eq_true rfl, Nat.le_of_ble_eq_true rfl⟩ rfl hl.1 rfl (Nat.le_of_ble_eq_true rfl) ⟨Nat.zero_le _, Nat.zero_le _⟩ dX10_parts_134) (fun r23 H locs pr23 hG => ?_)
        replace pr23 : (r23 = v5 ∨ hasB v5 r23) := pr23
        refine lv_istore (lv' := [(6, .int r23), (0, .ref h0), (1, .int x1), (3, .int v3), (4, .int v4), (5, .int v5)]) hx hb dX10_parts_137 hl (by decide) rfl (fun ls hl => ?_)
        refine lv_iconst (v := 0) hx hb dX10_parts_139 (by decide) ?_
        refine lv_istore (lv' := [(7, .int 0), (6, .int r23), (0, .ref h0), (1, .int x1), (3, .int v3), (4, .int v4), (5, .int v5)]) hx hb dX10_parts_140 hl (by decide) rfl (fun ls hl => ?_)
        have hq : (¬ v5 = 0 ∧ (r23 = v5 ∨ hasB v5 r23)) ∧ OK8 t x1.toInt v5 ∧ v5.toBitVec.toNat < 256 := ⟨⟨h50, pr23⟩, hex123.2.1, hex123.2.2⟩
        exact J142 ((8 - (0 : Int32).toInt).toNat + 1) H locs ls v3 v4 v5 r23 (0 : Int32) hG (lv_sub hl [2, 3, 4, 5, 6, 1, 0] rfl) (by omega) (by omega) (by omega) (by omega) (by decide) (by decide) (by omega) (by exact ⟨by omega, hq.1.1, hq.1.2, by first | omega | (have k0 := kI_0; omega), hq.2.1, hq.2.2⟩) (Nat.lt_succ_self _)
  have J36 : ∀ (n36 : Nat) (H : Heap) (locs : List Loc) (ls : Array Slot) (v2 : Int32) (v3 : Int32) (v4 : Int32) (v5 : Int32) (v6 : Int32), mGH G (σ, cu, X) s H locs → lv_has ls 9 [(0, .ref h0), (1, .int x1), (2, .int v2), (3, .int v3), (4, .int v4), (5, .int v5), (6, .int v6)] → 0 ≤ v2.toInt → v2.toInt ≤ 1 → 0 ≤ v3.toInt → v3.toInt ≤ 8 → -9000 ≤ v4.toInt → v4.toInt ≤ 1000 → 0 ≤ v6.toInt → v6.toInt ≤ 8 → (v3.toInt = K t x1.toInt 10 ∧ OK8 t x1.toInt v5 ∧ v5.toBitVec.toNat < 256 ∧ -693 - 1000 * v6.toInt ≤ v4.toInt ∧ v6.toInt ≤ v3.toInt) → (8 - v6.toInt).toNat < n36 → W p l e (tRm 3 77) s m ([.ref h0, .int x1] : List Value).toArray below meth c H locs 0 0 (MQ below (mQv G (σ, cu, X)) ([.ref h0, .int x1] : List Value).toArray s 0 0 (mA (σ, cu, X))) (F0 m 36 ls []) := by
    intro n36
    induction n36 with
    | zero => intro H locs ls v2 v3 v4 v5 v6 hG hl b2 c2 b3 c3 b4 c4 b6 c6 hex36 hn36; exact absurd hn36 (Nat.not_lt_zero _)
    | succ n36 ih36 =>
      intro H locs ls v2 v3 v4 v5 v6 hG hl b2 c2 b3 c3 b4 c4 b6 c6 hex36 hn36
      refine lv_iload hx hb dX10_parts_36 (lv_at hl 6 rfl) ?_
      refine lv_iload_n hx hb dX10_parts_38 rfl (lv_at hl 3 rfl) ?_
      refine lv_icmp_ge (tgt := 105) hx hb dX10_parts_39 (by decide) (fun c24 => ?_) (fun c24 => ?_)
      · skip
        have ic24 := tn_le rfl rfl c24
        refine lv_iload hx hb dX10_parts_105 (lv_at hl 4 rfl) ?_
        refine lv_if_ge (tgt := 114) hx hb dX10_parts_107 (by decide) (fun c25 => ?_) (fun c25 => ?_)
        · skip
          have ic25 := tn_le kI_0 rfl c25
          refine lv_iload hx hb dX10_parts_114 (lv_at hl 4 rfl) ?_
          refine lv_istore (lv' := [(4, .int v4), (0, .ref h0), (1, .int x1), (2, .int v2), (3, .int v3), (5, .int v5), (6, .int v6)]) hx hb dX10_parts_116 hl (by decide) rfl (fun ls hl => ?_)
          refine lv_aload_n hx hb dX10_parts_118 rfl (lv_at hl 1 rfl) ?_
          refine lv_iconst (v := 0) hx hb dX10_parts_119 (by decide) ?_
          refine mc_put E hG t0 mp_261 (hA.2.1 _ (by decide)) (t_any1 _) (t_any2 _) rfl rfl dX10_parts_120 (fun H locs hG => ?_)
          have hL : OK8 t x1.toInt v5 ∧ v5.toBitVec.toNat < 256 := ⟨hex36.2.1, hex36.2.2.1⟩
          exact J123 (mO v5 + 1) H locs ls v3 v4 v5 hG (lv_sub hl [1, 2, 4, 0, 5] rfl) (by omega) (by omega) (by omega) (by omega) (by exact ⟨by omega, hL.1, hL.2⟩) (Nat.lt_succ_self _)
        · skip
          have ic25 := tn_nle kI_0 rfl c25
          refine lv_iconst (v := 0) hx hb dX10_parts_110 (by decide) ?_
          refine lv_goto (tgt := 116) hx hb dX10_parts_111 (by decide) ?_
          refine lv_istore (lv' := [(4, .int 0), (0, .ref h0), (1, .int x1), (2, .int v2), (3, .int v3), (5, .int v5), (6, .int v6)]) hx hb dX10_parts_116 hl (by decide) rfl (fun ls hl => ?_)
          refine lv_aload_n hx hb dX10_parts_118 rfl (lv_at hl 1 rfl) ?_
          refine lv_iconst (v := 0) hx hb dX10_parts_119 (by decide) ?_
          refine mc_put E hG t0 mp_261 (hA.2.1 _ (by decide)) (t_any1 _) (t_any2 _) rfl rfl dX10_parts_120 (fun H locs hG => ?_)
          have hL : OK8 t x1.toInt v5 ∧ v5.toBitVec.toNat < 256 := ⟨hex36.2.1, hex36.2.2.1⟩
          exact J123 (mO v5 + 1) H locs ls v3 (0 : Int32) v5 hG (lv_sub hl [1, 2, 4, 0, 5] rfl) (by omega) (by omega) (by decide) (by decide) (by exact ⟨by omega, hL.1, hL.2⟩) (Nat.lt_succ_self _)
      · skip
        have ic24 := tn_nle rfl rfl c24
        refine lv_aload_n hx hb dX10_parts_42 rfl (lv_at hl 0 rfl) ?_
        refine lv_iload_n hx hb dX10_parts_43 rfl (lv_at hl 1 rfl) ?_
        refine lv_iload hx hb dX10_parts_44 (lv_at hl 6 rfl) ?_
        refine tc_callp (mc_runV (As := [.int x1, .int v6]) (rest := []) E hG (c_X10_childOf l G (σ, cu, X) h0 x1 v6 t0 (by omega) (by omega) (by omega) (by omega)) t0 rfl kv_X10_childOf ml_X10_153 ⟨rfl, rfl, Nat.le_of_ble_eq_true rfl, Nat.le_of_ble_eq_true rfl⟩ rfl hl.1 rfl (Nat.le_of_ble_eq_true rfl) ⟨Nat.zero_le _, Nat.zero_le _⟩ dX10_parts_46) (fun r26 pr26 => ?_)
        replace pr26 : mV (σ, cu, X) (ix x1.toInt (11 + v6.toInt)) r26 := pr26
        have br26 := mV_r 11 18 0 23 pr26 (by omega) (by omega) (by omega) (by decide) (by decide)
        have cr26 := mT pr26 hT (by omega) (by omega) (by omega) (by omega)
        have dr26 := mP11 cr26 hI (by omega) (by omega) (by omega)
        refine lv_istore (lv' := [(7, .int r26), (0, .ref h0), (1, .int x1), (2, .int v2), (3, .int v3), (4, .int v4), (5, .int v5), (6, .int v6)]) hx hb dX10_parts_49 hl (by decide) rfl (fun ls hl => ?_)
        refine lv_aload_n hx hb dX10_parts_51 rfl (lv_at hl 1 rfl) ?_
        refine lv_iload_n hx hb dX10_parts_52 rfl (lv_at hl 2 rfl) ?_
        refine lv_iload hx hb dX10_parts_53 (lv_at hl 0 rfl) ?_
        refine tc_callp (mc_runV (As := [.int x1, .int r26]) (rest := []) E hG (c_X10_hasPart l G (σ, cu, X) h0 x1 r26 t0 (by omega) (by omega) (by omega) (by omega)) t0 rfl kv_X10_hasPart ml_X10_258 ⟨rfl, rfl, Nat.le_of_ble_eq_true rfl, Nat.le_of_ble_eq_true rfl⟩ rfl hl.1 rfl (Nat.le_of_ble_eq_true rfl) ⟨Nat.zero_le _, Nat.zero_le _⟩ dX10_parts_55) (fun r27 pr27 => ?_)
        replace pr27 : (0 ≤ r27.toInt ∧ r27.toInt ≤ 1) ∧ (r27.toInt = 0 ∨ ∃ v : Int32, 0 < v.toInt ∧ mV (σ, cu, X) (ix r26.toInt 6) v) := pr27
        refine lv_istore (lv' := [(8, .int r27), (7, .int r26), (0, .ref h0), (1, .int x1), (2, .int v2), (3, .int v3), (4, .int v4), (5, .int v5), (6, .int v6)]) hx hb dX10_parts_58 hl (by decide) rfl (fun ls hl => ?_)
        refine lv_iload hx hb dX10_parts_60 (lv_at hl 6 rfl) ?_
        refine lv_iload hx hb dX10_parts_62 (lv_at hl 0 rfl) ?_
        refine lv_if_eq (tgt := 71) hx hb dX10_parts_64 (by decide) (fun c28 => ?_) (fun c28 => ?_)
        · skip
          have ic28 := tn_eq rfl kI_0 c28
          refine lv_aload_n hx hb dX10_parts_71 rfl (lv_at hl 2 rfl) ?_
          refine lv_iload hx hb dX10_parts_72 (lv_at hl 1 rfl) ?_
          refine lv_iload_n hx hb dX10_parts_74 rfl (lv_at hl 4 rfl) ?_
          refine tc_callp (mc_runV (As := [.int r26, .int v2]) (rest := [.int v4]) E hG (c_X10_sizeOf l G (σ, cu, X) h0 r26 v2 t0 (by omega) (by omega) (by omega) (by omega)) t0 rfl kv_X10_sizeOf ml_X10_243 ⟨rfl, rfl, Nat.le_of_ble_eq_true rfl, Nat.le_of_ble_eq_true rfl⟩ rfl hl.1 rfl (Nat.le_of_ble_eq_true rfl) ⟨Nat.zero_le _, Nat.zero_le _⟩ dX10_parts_75) (fun r29 pr29 => ?_)
          replace pr29 : 0 ≤ r29.toInt ∧ r29.toInt ≤ 1000 := pr29
          refine lv_isub hx hb dX10_parts_78 ?_
          refine lv_topi (fun z30 ez30 => ?_)
          have tz30 := tn_sub ez30 rfl rfl (by omega) (by omega)
          refine lv_istore (lv' := [(4, .int z30), (8, .int r27), (7, .int r26), (0, .ref h0), (1, .int x1), (2, .int v2), (3, .int v3), (5, .int v5), (6, .int v6)]) hx hb dX10_parts_79 hl (by decide) rfl (fun ls hl => ?_)
          refine lv_iload hx hb dX10_parts_81 (lv_at hl 7 rfl) ?_
          refine lv_iload hx hb dX10_parts_83 (lv_at hl 1 rfl) ?_
          refine lv_if_eq (tgt := 95) hx hb dX10_parts_85 (by decide) (fun c31 => ?_) (fun c31 => ?_)
          · skip
            have ic31 := tn_eq rfl kI_0 c31
            refine lv_iconst (v := 0) hx hb dX10_parts_95 (by decide) ?_
            refine lv_ior hx hb dX10_parts_96 ?_
            refine lv_topi (fun z32 ez32 => ?_)
            refine lv_istore (lv' := [(5, .int z32), (4, .int z30), (8, .int r27), (7, .int r26), (0, .ref h0), (1, .int x1), (2, .int v2), (3, .int v3), (6, .int v6)]) hx hb dX10_parts_97 hl (by decide) rfl (fun ls hl => ?_)
            obtain ⟨z33, ez33⟩ : ∃ y : Int32, y = v6 + (1) := ⟨_, rfl⟩
            refine lv_iinc (v := z33) (lv' := [(6, .int z33), (5, .int z32), (4, .int z30), (8, .int r27), (7, .int r26), (0, .ref h0), (1, .int x1), (2, .int v2), (3, .int v3)]) hx hb dX10_parts_99 hl (k := 8) rfl (by rw [ez33]; rfl) (by decide) rfl (fun ls hl => ?_)
            have tz33 := tn_add ez33 rfl kI_1 (by omega) (by omega)
            refine lv_goto (tgt := 36) hx hb dX10_parts_102 (by decide) ?_
            have hL : OK8 t x1.toInt z32 ∧ z32.toBitVec.toNat < 256 := by
              rw [ez32, show v5 ||| (0 : Int32) = v5 from Int32.or_zero]
              exact ⟨hex36.2.1, hex36.2.2.1⟩
            clear pr27
            exact ih36 H locs ls v2 v3 z30 z32 z33 hG (lv_sub hl [5, 6, 7, 8, 2, 1, 0] rfl) (by omega) (by omega) (by omega) (by omega) (by omega) (by omega) (by omega) (by omega) (by exact ⟨by omega, hL.1, hL.2, by first | omega | (have k0 := kI_0; omega), by first | omega | (have k0 := kI_0; omega)⟩) (by omega)
          · exfalso
            have ic31 := tn_ne rfl kI_0 c31
            omega
        · skip
          have ic28 := tn_ne rfl kI_0 c28
          refine lv_iconst (v := 0) hx hb dX10_parts_67 (by decide) ?_
          refine lv_goto (tgt := 78) hx hb dX10_parts_68 (by decide) ?_
          refine lv_isub hx hb dX10_parts_78 ?_
          refine lv_topi (fun z34 ez34 => ?_)
          have tz34 := tn_sub ez34 rfl kI_0 (by omega) (by omega)
          refine lv_istore (lv' := [(4, .int z34), (8, .int r27), (7, .int r26), (0, .ref h0), (1, .int x1), (2, .int v2), (3, .int v3), (5, .int v5), (6, .int v6)]) hx hb dX10_parts_79 hl (by decide) rfl (fun ls hl => ?_)
          refine lv_iload hx hb dX10_parts_81 (lv_at hl 7 rfl) ?_
          refine lv_iload hx hb dX10_parts_83 (lv_at hl 1 rfl) ?_
          refine lv_if_eq (tgt := 95) hx hb dX10_parts_85 (by decide) (fun c35 => ?_) (fun c35 => ?_)
          · exfalso
            have ic35 := tn_eq rfl kI_0 c35
            omega
          · skip
            have ic35 := tn_ne rfl kI_0 c35
            refine lv_iconst (v := 1) hx hb dX10_parts_88 (by decide) ?_
            refine lv_iload hx hb dX10_parts_89 (lv_at hl 8 rfl) ?_
            refine lv_ishl hx hb dX10_parts_91 ?_
            refine lv_topi (fun z36 ez36 => ?_)
            refine lv_goto (tgt := 96) hx hb dX10_parts_92 (by decide) ?_
            refine lv_ior hx hb dX10_parts_96 ?_
            refine lv_topi (fun z37 ez37 => ?_)
            refine lv_istore (lv' := [(5, .int z37), (4, .int z34), (8, .int r27), (7, .int r26), (0, .ref h0), (1, .int x1), (2, .int v2), (3, .int v3), (6, .int v6)]) hx hb dX10_parts_97 hl (by decide) rfl (fun ls hl => ?_)
            obtain ⟨z38, ez38⟩ : ∃ y : Int32, y = v6 + (1) := ⟨_, rfl⟩
            refine lv_iinc (v := z38) (lv' := [(6, .int z38), (5, .int z37), (4, .int z34), (8, .int r27), (7, .int r26), (0, .ref h0), (1, .int x1), (2, .int v2), (3, .int v3)]) hx hb dX10_parts_99 hl (k := 8) rfl (by rw [ez38]; rfl) (by decide) rfl (fun ls hl => ?_)
            have tz38 := tn_add ez38 rfl kI_1 (by omega) (by omega)
            refine lv_goto (tgt := 36) hx hb dX10_parts_102 (by decide) ?_
            have hshr : 1 ≤ K t (K t x1.toInt (11 + v6.toInt)) 6 := by
              obtain ⟨v, g1, g2⟩ := pr27.2.resolve_left (by omega)
              have g3 := mT g2 hT (by omega) (by omega) (by decide) (by decide)
              rw [← cr26]; omega
            have hL : OK8 t x1.toInt z37 ∧ z37.toBitVec.toNat < 256 := by
              rw [ez37, ez36]
              refine ⟨fun j h0 h7 h => ?_, b_lor hex36.2.2.1 (by omega) (by omega)⟩
              rcases b_or2 h0 h7 (by omega) (by omega) h with h | h
              · exact hex36.2.1 j h0 h7 h
              · subst h; exact ⟨by omega, hshr⟩
            clear pr27
            exact ih36 H locs ls v2 v3 z34 z37 z38 hG (lv_sub hl [5, 6, 7, 8, 2, 1, 0] rfl) (by omega) (by omega) (by omega) (by omega) (by omega) (by omega) (by omega) (by omega) (by exact ⟨by omega, hL.1, hL.2, by first | omega | (have k0 := kI_0; omega), by first | omega | (have k0 := kI_0; omega)⟩) (by omega)
  refine lv_aload_n hx hb dX10_parts_0 rfl (lv_at hl 0 rfl) ?_
  refine lv_iload_n hx hb dX10_parts_1 rfl (lv_at hl 1 rfl) ?_
  refine lv_iconst (v := 1) hx hb dX10_parts_2 (by decide) ?_
  refine tc_callp (mc_runV (As := [.int x1, .int 1]) (rest := []) E hG (c_X10_get l G (σ, cu, X) h0 x1 (1 : Int32) t0 (by omega) (by omega) (by decide) (by decide)) t0 rfl kv_X10_get ml_X10_91 ⟨rfl, rfl, Nat.le_of_ble_eq_true rfl, Nat.le_of_ble_eq_true rfl⟩ rfl hl.1 rfl (Nat.le_of_ble_eq_true rfl) ⟨Nat.zero_le _, Nat.zero_le _⟩ dX10_parts_3) (fun r39 pr39 => ?_)
  replace pr39 : mV (σ, cu, X) (ix x1.toInt (1 : Int32).toInt) r39 := pr39
  have pr39 := mV_l pr39 kI_1
  have br39 := mV_1 pr39 (by omega)
  have cr39 := mT pr39 hT (by omega) (by omega) (by decide) (by decide)
  have k40 := kI_1
  refine tc_callp (mc_runS (As := [.int r39]) (rest := []) E hG (c_X10_alongOf l G (σ, cu, X) r39) ks_X10_alongOf ml_X10_252 ⟨rfl, rfl, Nat.le_of_ble_eq_true rfl, Nat.le_of_ble_eq_true rfl⟩ rfl hl.1 rfl (Nat.le_of_ble_eq_true rfl) ⟨Nat.zero_le _, Nat.zero_le _⟩ dX10_parts_6) (fun r41 pr41 => ?_)
  replace pr41 : 0 ≤ r41.toInt ∧ r41.toInt ≤ 1 := pr41
  refine lv_istore_n (lv' := [(2, .int r41), (0, .ref h0), (1, .int x1)]) hx hb dX10_parts_9 rfl hl (by decide) rfl (fun ls hl => ?_)
  refine lv_aload_n hx hb dX10_parts_10 rfl (lv_at hl 1 rfl) ?_
  refine lv_iload_n hx hb dX10_parts_11 rfl (lv_at hl 2 rfl) ?_
  refine tc_callp (mc_runV (As := [.int x1]) (rest := []) E hG (c_X10_manyOf l G (σ, cu, X) h0 x1 t0 (by omega) (by omega)) t0 rfl kv_X10_manyOf ml_X10_117 ⟨rfl, rfl, Nat.le_of_ble_eq_true rfl, Nat.le_of_ble_eq_true rfl⟩ rfl hl.1 rfl (Nat.le_of_ble_eq_true rfl) ⟨Nat.zero_le _, Nat.zero_le _⟩ dX10_parts_12) (fun r42 pr42 => ?_)
  replace pr42 : mV (σ, cu, X) (ix x1.toInt 10) r42 := pr42
  have br42 := mV_10 pr42 (by omega)
  have cr42 := mT pr42 hT (by omega) (by omega) (by decide) (by decide)
  refine lv_istore_n (lv' := [(3, .int r42), (2, .int r41), (0, .ref h0), (1, .int x1)]) hx hb dX10_parts_15 rfl hl (by decide) rfl (fun ls hl => ?_)
  refine lv_aload_n hx hb dX10_parts_16 rfl (lv_at hl 2 rfl) ?_
  refine lv_iload_n hx hb dX10_parts_17 rfl (lv_at hl 3 rfl) ?_
  refine lv_iload_n hx hb dX10_parts_18 rfl (lv_at hl 1 rfl) ?_
  refine tc_callp (mc_runV (As := [.int x1, .int r41]) (rest := []) E hG (c_X10_most l G (σ, cu, X) h0 x1 r41 t0 (by omega) (by omega) (by omega) (by omega)) t0 rfl kv_X10_most ml_X10_227 ⟨rfl, rfl, Nat.le_of_ble_eq_true rfl, Nat.le_of_ble_eq_true rfl⟩ rfl hl.1 rfl (Nat.le_of_ble_eq_true rfl) ⟨Nat.zero_le _, Nat.zero_le _⟩ dX10_parts_19) (fun r43 pr43 => ?_)
  replace pr43 : 0 ≤ r43.toInt ∧ r43.toInt ≤ 1000 := pr43
  refine lv_aload_n hx hb dX10_parts_22 rfl (lv_at hl 2 rfl) ?_
  refine lv_iload_n hx hb dX10_parts_23 rfl (lv_at hl 3 rfl) ?_
  refine tc_callp (mc_runV (As := [.int x1]) (rest := [.int r43]) E hG (c_X10_gapsOf l G (σ, cu, X) h0 x1 t0 (by omega) (by omega)) t0 rfl kv_X10_gapsOf ml_X10_255 ⟨rfl, rfl, Nat.le_of_ble_eq_true rfl, Nat.le_of_ble_eq_true rfl⟩ rfl hl.1 rfl (Nat.le_of_ble_eq_true rfl) ⟨Nat.zero_le _, Nat.zero_le _⟩ dX10_parts_24) (fun r44 pr44 => ?_)
  replace pr44 : 0 ≤ r44.toInt ∧ r44.toInt ≤ 693 := pr44
  refine lv_isub hx hb dX10_parts_27 ?_
  refine lv_topi (fun z45 ez45 => ?_)
  have tz45 := tn_sub ez45 rfl rfl (by omega) (by omega)
  refine lv_istore (lv' := [(4, .int z45), (3, .int r42), (2, .int r41), (0, .ref h0), (1, .int x1)]) hx hb dX10_parts_28 hl (by decide) rfl (fun ls hl => ?_)
  refine lv_iconst (v := 0) hx hb dX10_parts_30 (by decide) ?_
  refine lv_istore (lv' := [(5, .int 0), (4, .int z45), (3, .int r42), (2, .int r41), (0, .ref h0), (1, .int x1)]) hx hb dX10_parts_31 hl (by decide) rfl (fun ls hl => ?_)
  refine lv_iconst (v := 0) hx hb dX10_parts_33 (by decide) ?_
  refine lv_istore (lv' := [(6, .int 0), (5, .int 0), (4, .int z45), (3, .int r42), (2, .int r41), (0, .ref h0), (1, .int x1)]) hx hb dX10_parts_34 hl (by decide) rfl (fun ls hl => ?_)
  have hL : OK8 t x1.toInt 0 ∧ (0 : Int32).toBitVec.toNat < 256 := ⟨fun j h0 h7 h => absurd h (b_0 h0 h7), by decide⟩
  exact J36 ((8 - (0 : Int32).toInt).toNat + 1) H locs ls r41 r42 z45 (0 : Int32) (0 : Int32) hG (lv_sub hl [5, 6, 4, 3, 2, 1, 0] rfl) (by omega) (by omega) (by omega) (by omega) (by omega) (by omega) (by decide) (by decide) (by exact ⟨by omega, hL.1, hL.2, by first | omega | (have k0 := kI_0; omega), by first | omega | (have k0 := kI_0; omega)⟩) (Nat.lt_succ_self _)

