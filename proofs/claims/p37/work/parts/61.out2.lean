/-! ===== the reference: rows; one step; all ===== -/
set_option maxHeartbeats 4000000 in
set_option maxRecDepth 100000 in
theorem c_X10_layRow (l : Launch) (G : tG) (σ : Nat → Nat) (cu : Nat) (X : mX) (Fa : mF) (h0 : Nat) (x1 : Int32) (t0 : σ h0 = 1) (l1 : 0 ≤ x1.toInt) (u1 : x1.toInt ≤ 23) (t : Nat → Int32) (hT : TI (σ, cu, X) t) (hI : TInv t) (hA : mAV (σ, cu, X)) (hd1 : 1 ≤ (Fa 1 18).toInt) (hd2 : (Fa 1 18).toInt ≤ 24) : Met l yX10_layRow (.code yX10_layRow cX10_layRow 5 none :: tWS) (tRm 5 129) (va_Pc [.ref h0, .int x1] (mPre G (σ, cu, kO PC X Fa))) (mQvX G (σ, cu, kO PC X Fa) (fun Z => ∃ F : mF, Z = (σ, cu, kO PC X F) ∧ SP (t 3).toInt x1 Fa F)) 0 0 (mA (σ, cu, kO PC X Fa)) := by
  refine mc_met (by decide) (Nat.le_of_ble_eq_true rfl) ?_
  intro p e s m below meth c E hr hlk hG ls hl
  have hl : lv_has ls 5 [(0, .ref h0), (1, .int x1)] := hl
  have hx := E.1
  have hb := E.2.1
  obtain ⟨H, eH⟩ : ∃ H, H = s.heap := ⟨_, rfl⟩
  obtain ⟨locs, eL⟩ : ∃ x : List Loc, x = [] := ⟨_, rfl⟩
  have hG : mGH G (σ, cu, kO PC X Fa) s H locs := by rw [eH, eL]; exact hG
  suffices hW : W p l e (tRm 5 129) s m ([.ref h0, .int x1] : List Value).toArray below meth c H locs 0 0 (MQ below (mQvX G (σ, cu, kO PC X Fa) (fun Z => ∃ F : mF, Z = (σ, cu, kO PC X F) ∧ SP (t 3).toInt x1 Fa F)) ([.ref h0, .int x1] : List Value).toArray s 0 0 (mA (σ, cu, kO PC X Fa))) (F0 m 0 ls []) by subst eH; subst eL; exact hW
  clear eH eL
  have hcu : mCu cu := hG.2.2.1
  have J142 : ∀ (H : Heap) (locs : List Loc) (ls : Array Slot) (v2 : Int32) (v3 : Int32), mGH G (σ, cu, kO PC X Fa) s H locs → lv_has ls 5 [(0, .ref h0), (1, .int x1), (2, .int v2), (3, .int v3)] → 0 ≤ v2.toInt → v2.toInt ≤ 8 → 0 ≤ v3.toInt → v3.toInt ≤ 18 → ((Fa 11 x1.toNatClampNeg).toInt ≤ v3.toInt ∧ v2.toInt = K t x1.toInt 10 ∧ v2.toInt + 1 ≤ v3.toInt) → W p l e (tRm 5 129) s m ([.ref h0, .int x1] : List Value).toArray below meth c H locs 0 0 (MQ below (mQvX G (σ, cu, kO PC X Fa) (fun Z => ∃ F : mF, Z = (σ, cu, kO PC X F) ∧ SP (t 3).toInt x1 Fa F)) ([.ref h0, .int x1] : List Value).toArray s 0 0 (mA (σ, cu, kO PC X Fa))) (F0 m 142 ls []) := by
    intro H locs ls v2 v3 hG hl b2 c2 b3 c3 hex142
    refine lv_iload_n hx hb dX10_layRow_142 rfl (lv_at hl 3 rfl) ?_
    refine lv_iconst (v := 2) hx hb dX10_layRow_143 (by decide) ?_
    refine lv_iload_n hx hb dX10_layRow_144 rfl (lv_at hl 2 rfl) ?_
    refine lv_imul hx hb dX10_layRow_145 ?_
    refine lv_topi (fun z1 ez1 => ?_)
    have tz1 := tn_mul ez1 kI_2 rfl (by omega) (by omega)
    refine lv_icmp_gt (tgt := 202) hx hb dX10_layRow_146 (by decide) (fun c2 => ?_) (fun c2 => ?_)
    · skip
      have ic2 := tn_lt rfl rfl c2
      refine lv_aload_n hx hb dX10_layRow_202 rfl (lv_at hl 0 rfl) ?_
      refine lv_iload_n hx hb dX10_layRow_203 rfl (lv_at hl 1 rfl) ?_
      refine mc_callvX hG (mc_runV (As := [.int x1]) (rest := []) E hG (c_X10_endsRow l G σ cu X Fa h0 x1 t0 (by omega) (by omega) t (hT) hI hA (by omega) (by omega)) t0 rfl kv_X10_endsRow ml_X10_274 ⟨rfl, rfl, Nat.le_of_ble_eq_true rfl, Nat.le_of_ble_eq_true rfl⟩ rfl hl.1 rfl (Nat.le_of_ble_eq_true rfl) ⟨Nat.zero_le _, Nat.zero_le _⟩ dX10_layRow_204) (fun Z H locs eZ pZ hG => ?_)
      obtain ⟨F4, rfl, pF4⟩ := pZ
      clear eZ
      exact mc_vretX E hr hlk hG rfl ⟨_, rfl, Or.inl pF4⟩ dX10_layRow_207
    · skip
      have ic2 := tn_nlt rfl rfl c2
      refine lv_aload_n hx hb dX10_layRow_149 rfl (lv_at hl 0 rfl) ?_
      refine mc_getr E hG t0 mr_42 dX10_layRow_150 (fun oa5 hoa5 => ?_)
      refine lv_iload_n hx hb dX10_layRow_153 rfl (lv_at hl 1 rfl) ?_
      refine lv_iload_n hx hb dX10_layRow_154 rfl (lv_at hl 3 rfl) ?_
      refine lv_iconst (v := 1) hx hb dX10_layRow_155 (by decide) ?_
      refine lv_iadd hx hb dX10_layRow_156 ?_
      refine lv_topi (fun z6 ez6 => ?_)
      have tz6 := tn_add ez6 rfl kI_1 (by omega) (by omega)
      refine mc_iastX E hG hoa5 ma_11.1 ma_11.2.1 (ma_11.2.2 _) (t_in (by omega) (by omega)) (by omega) (by omega) dX10_layRow_157 (fun H locs hG => ?_)
      have hG := kO_set (PC_11) hG
      obtain ⟨F7, eF7⟩ : ∃ Z : mF, Z = up2 Fa 11 (x1).toNatClampNeg z6 := ⟨_, rfl⟩
      rw [← eF7] at hG
      refine lv_iload_n hx hb dX10_layRow_158 rfl (lv_at hl 3 rfl) ?_
      refine lv_iload_n hx hb dX10_layRow_159 rfl (lv_at hl 2 rfl) ?_
      refine lv_isub hx hb dX10_layRow_160 ?_
      refine lv_topi (fun z8 ez8 => ?_)
      have tz8 := tn_sub ez8 rfl rfl (by omega) (by omega)
      refine lv_iconst (v := 1) hx hb dX10_layRow_161 (by decide) ?_
      refine lv_isub hx hb dX10_layRow_162 ?_
      refine lv_topi (fun z9 ez9 => ?_)
      have tz9 := tn_sub ez9 rfl kI_1 (by omega) (by omega)
      refine lv_istore (lv' := [(4, .int z9), (0, .ref h0), (1, .int x1), (2, .int v2), (3, .int v3)]) hx hb dX10_layRow_163 hl (by decide) rfl (fun ls hl => ?_)
      refine lv_aload_n hx hb dX10_layRow_165 rfl (lv_at hl 1 rfl) ?_
      refine lv_iload_n hx hb dX10_layRow_166 rfl (lv_at hl 2 rfl) ?_
      refine lv_aload_n hx hb dX10_layRow_167 rfl (lv_at hl 1 rfl) ?_
      refine lv_iload_n hx hb dX10_layRow_168 rfl (lv_at hl 2 rfl) ?_
      refine lv_iload hx hb dX10_layRow_169 (lv_at hl 0 rfl) ?_
      refine tc_callp (mc_runV (As := [.int x1, .int z9]) (rest := [.int x1, .ref h0]) E hG (c_X10_childOf l G (σ, cu, kO PC X F7) h0 x1 z9 t0 (by omega) (by omega) (by omega) (by omega)) t0 rfl kv_X10_childOf ml_X10_153 ⟨rfl, rfl, Nat.le_of_ble_eq_true rfl, Nat.le_of_ble_eq_true rfl⟩ rfl hl.1 rfl (Nat.le_of_ble_eq_true rfl) ⟨Nat.zero_le _, Nat.zero_le _⟩ dX10_layRow_171) (fun r10 pr10 => ?_)
      replace pr10 : mV (σ, cu, kO PC X F7) (ix x1.toInt (11 + z9.toInt)) r10 := pr10
      have br10 := mV_r 11 18 0 23 pr10 (by omega) (by omega) (by omega) (by decide) (by decide)
      have cr10 := mT pr10 (kO_TI (PC_tr hcu) hT) (by omega) (by omega) (by omega) (by omega)
      have dr10 := mP11 cr10 hI (by omega) (by omega) (by omega)
      refine lv_aload_n hx hb dX10_layRow_174 rfl (lv_at hl 1 rfl) ?_
      refine mc_getr E hG t0 mr_45 dX10_layRow_175 (fun oa11 hoa11 => ?_)
      refine lv_bipush (v := 8) hx hb dX10_layRow_178 (by decide) ?_
      refine lv_iload_n hx hb dX10_layRow_180 rfl (lv_at hl 2 rfl) ?_
      refine lv_imul hx hb dX10_layRow_181 ?_
      refine lv_topi (fun z12 ez12 => ?_)
      have tz12 := tn_mul ez12 kI_8 rfl (by omega) (by omega)
      refine lv_iload hx hb dX10_layRow_182 (lv_at hl 0 rfl) ?_
      refine lv_iadd hx hb dX10_layRow_184 ?_
      refine lv_topi (fun z13 ez13 => ?_)
      have tz13 := tn_add ez13 rfl rfl (by omega) (by omega)
      refine mc_iald E hG hoa11 ma_12 (t_in (by omega) (by omega)) dX10_layRow_185 (fun z14 lz14 uz14 qz14 => ?_)
      refine lv_aload_n hx hb dX10_layRow_186 rfl (lv_at hl 1 rfl) ?_
      refine mc_getr E hG t0 mr_45 dX10_layRow_187 (fun oa15 hoa15 => ?_)
      refine lv_bipush (v := 8) hx hb dX10_layRow_190 (by decide) ?_
      refine lv_iload_n hx hb dX10_layRow_192 rfl (lv_at hl 2 rfl) ?_
      refine lv_imul hx hb dX10_layRow_193 ?_
      refine lv_topi (fun z16 ez16 => ?_)
      have tz16 := tn_mul ez16 kI_8 rfl (by omega) (by omega)
      refine lv_iload hx hb dX10_layRow_194 (lv_at hl 0 rfl) ?_
      refine lv_iadd hx hb dX10_layRow_196 ?_
      refine lv_topi (fun z17 ez17 => ?_)
      have tz17 := tn_add ez17 rfl rfl (by omega) (by omega)
      refine mc_iald E hG hoa15 ma_12 (t_in (by omega) (by omega)) dX10_layRow_197 (fun z18 lz18 uz18 qz18 => ?_)
      refine mc_callvX hG (mc_runV (As := [.int x1, .int r10, .int z14, .int z18]) (rest := []) E hG (c_X10_layAlong l G σ cu X F7 h0 x1 r10 z14 z18 t0 (by omega) (by omega) (by omega) (by omega) (by omega) (by omega) (by omega) (by omega) hA (by rw [eF7, up2_ne (by omega)]; omega)) t0 rfl kv_X10_layAlong ml_X10_267 ⟨rfl, rfl, Nat.le_of_ble_eq_true rfl, Nat.le_of_ble_eq_true rfl⟩ rfl hl.1 rfl (Nat.le_of_ble_eq_true rfl) ⟨Nat.zero_le _, Nat.zero_le _⟩ dX10_layRow_198) (fun Z H locs eZ pZ hG => ?_)
      obtain ⟨F20, rfl, pF20⟩ := pZ
      clear eZ
      exact mc_vretX E hr hlk hG rfl ⟨_, rfl, Or.inr ⟨F7, z6, r10, eF7, (by omega), by omega, pF20, by omega, by omega, by omega⟩⟩ dX10_layRow_201
  have J111 : ∀ (n111 : Nat) (H : Heap) (locs : List Loc) (ls : Array Slot) (v2 : Int32) (v3 : Int32), mGH G (σ, cu, kO PC X Fa) s H locs → lv_has ls 5 [(0, .ref h0), (1, .int x1), (2, .int v2), (3, .int v3)] → 0 ≤ v2.toInt → v2.toInt ≤ 8 → 0 ≤ v3.toInt → v3.toInt ≤ 18 → ((Fa 11 x1.toNatClampNeg).toInt ≤ v3.toInt ∧ v2.toInt = K t x1.toInt 10 ∧ v2.toInt + 1 ≤ v3.toInt) → (18 - v3.toInt).toNat < n111 → W p l e (tRm 5 129) s m ([.ref h0, .int x1] : List Value).toArray below meth c H locs 0 0 (MQ below (mQvX G (σ, cu, kO PC X Fa) (fun Z => ∃ F : mF, Z = (σ, cu, kO PC X F) ∧ SP (t 3).toInt x1 Fa F)) ([.ref h0, .int x1] : List Value).toArray s 0 0 (mA (σ, cu, kO PC X Fa))) (F0 m 111 ls []) := by
    intro n111
    induction n111 with
    | zero => intro H locs ls v2 v3 hG hl b2 c2 b3 c3 hex111 hn111; exact absurd hn111 (Nat.not_lt_zero _)
    | succ n111 ih111 =>
      intro H locs ls v2 v3 hG hl b2 c2 b3 c3 hex111 hn111
      refine lv_iload_n hx hb dX10_layRow_111 rfl (lv_at hl 3 rfl) ?_
      refine lv_iconst (v := 2) hx hb dX10_layRow_112 (by decide) ?_
      refine lv_iload_n hx hb dX10_layRow_113 rfl (lv_at hl 2 rfl) ?_
      refine lv_imul hx hb dX10_layRow_114 ?_
      refine lv_topi (fun z21 ez21 => ?_)
      have tz21 := tn_mul ez21 kI_2 rfl (by omega) (by omega)
      refine lv_icmp_gt (tgt := 142) hx hb dX10_layRow_115 (by decide) (fun c22 => ?_) (fun c22 => ?_)
      · skip
        have ic22 := tn_lt rfl rfl c22
        exact J142 H locs ls v2 v3 hG (lv_sub hl [0, 1, 2, 3] rfl) (by omega) (by omega) (by omega) (by omega) (by have k0 := kI_0; have k1 := kI_1; omega)
      · skip
        have ic22 := tn_nlt rfl rfl c22
        refine lv_aload_n hx hb dX10_layRow_118 rfl (lv_at hl 0 rfl) ?_
        refine lv_iload_n hx hb dX10_layRow_119 rfl (lv_at hl 1 rfl) ?_
        refine lv_aload_n hx hb dX10_layRow_120 rfl (lv_at hl 0 rfl) ?_
        refine lv_iload_n hx hb dX10_layRow_121 rfl (lv_at hl 1 rfl) ?_
        refine lv_iload_n hx hb dX10_layRow_122 rfl (lv_at hl 3 rfl) ?_
        refine lv_iload_n hx hb dX10_layRow_123 rfl (lv_at hl 2 rfl) ?_
        refine lv_isub hx hb dX10_layRow_124 ?_
        refine lv_topi (fun z23 ez23 => ?_)
        have tz23 := tn_sub ez23 rfl rfl (by omega) (by omega)
        refine lv_iconst (v := 1) hx hb dX10_layRow_125 (by decide) ?_
        refine lv_isub hx hb dX10_layRow_126 ?_
        refine lv_topi (fun z24 ez24 => ?_)
        have tz24 := tn_sub ez24 rfl kI_1 (by omega) (by omega)
        refine tc_callp (mc_runV (As := [.int x1, .int z24]) (rest := [.int x1, .ref h0]) E hG (c_X10_childOf l G (σ, cu, kO PC X Fa) h0 x1 z24 t0 (by omega) (by omega) (by omega) (by omega)) t0 rfl kv_X10_childOf ml_X10_153 ⟨rfl, rfl, Nat.le_of_ble_eq_true rfl, Nat.le_of_ble_eq_true rfl⟩ rfl hl.1 rfl (Nat.le_of_ble_eq_true rfl) ⟨Nat.zero_le _, Nat.zero_le _⟩ dX10_layRow_127) (fun r25 pr25 => ?_)
        replace pr25 : mV (σ, cu, kO PC X Fa) (ix x1.toInt (11 + z24.toInt)) r25 := pr25
        have br25 := mV_r 11 18 0 23 pr25 (by omega) (by omega) (by omega) (by decide) (by decide)
        have cr25 := mT pr25 (kO_TI (PC_tr hcu) hT) (by omega) (by omega) (by omega) (by omega)
        have dr25 := mP11 cr25 hI (by omega) (by omega) (by omega)
        refine tc_callp (mc_runV (As := [.int x1, .int r25]) (rest := []) E hG (c_X10_hasPart l G (σ, cu, kO PC X Fa) h0 x1 r25 t0 (by omega) (by omega) (by omega) (by omega)) t0 rfl kv_X10_hasPart ml_X10_258 ⟨rfl, rfl, Nat.le_of_ble_eq_true rfl, Nat.le_of_ble_eq_true rfl⟩ rfl hl.1 rfl (Nat.le_of_ble_eq_true rfl) ⟨Nat.zero_le _, Nat.zero_le _⟩ dX10_layRow_130) (fun r26 pr26 => ?_)
        replace pr26 : (0 ≤ r26.toInt ∧ r26.toInt ≤ 1) ∧ (r26.toInt = 0 ∨ ∃ v : Int32, 0 < v.toInt ∧ mV (σ, cu, kO PC X Fa) (ix r25.toInt 6) v) := pr26
        replace pr26 := pr26.1
        refine lv_if_ne (tgt := 142) hx hb dX10_layRow_133 (by decide) (fun c27 => ?_) (fun c27 => ?_)
        · skip
          have ic27 := tn_ne rfl kI_0 c27
          exact J142 H locs ls v2 v3 hG (lv_sub hl [0, 1, 2, 3] rfl) (by omega) (by omega) (by omega) (by omega) (by have k0 := kI_0; have k1 := kI_1; omega)
        · skip
          have ic27 := tn_eq rfl kI_0 c27
          obtain ⟨z28, ez28⟩ : ∃ y : Int32, y = v3 + (1) := ⟨_, rfl⟩
          refine lv_iinc (v := z28) (lv' := [(3, .int z28), (0, .ref h0), (1, .int x1), (2, .int v2)]) hx hb dX10_layRow_136 hl (k := 3) rfl (by rw [ez28]; rfl) (by decide) rfl (fun ls hl => ?_)
          have tz28 := tn_add ez28 rfl kI_1 (by omega) (by omega)
          refine lv_goto (tgt := 111) hx hb dX10_layRow_139 (by decide) ?_
          exact ih111 H locs ls v2 z28 hG (lv_sub hl [1, 2, 3, 0] rfl) (by omega) (by omega) (by omega) (by omega) (by have k0 := kI_0; have k1 := kI_1; omega) (by omega)
  have J38 : ∀ (H : Heap) (locs : List Loc) (ls : Array Slot) (v2 : Int32) (v3 : Int32), mGH G (σ, cu, kO PC X Fa) s H locs → lv_has ls 5 [(0, .ref h0), (1, .int x1), (2, .int v2), (3, .int v3)] → 0 ≤ v2.toInt → v2.toInt ≤ 8 → 0 ≤ v3.toInt → v3.toInt ≤ 18 → (Fa 11 x1.toNatClampNeg).toInt ≤ v3.toInt ∧ v2.toInt = K t x1.toInt 10 → W p l e (tRm 5 129) s m ([.ref h0, .int x1] : List Value).toArray below meth c H locs 0 0 (MQ below (mQvX G (σ, cu, kO PC X Fa) (fun Z => ∃ F : mF, Z = (σ, cu, kO PC X F) ∧ SP (t 3).toInt x1 Fa F)) ([.ref h0, .int x1] : List Value).toArray s 0 0 (mA (σ, cu, kO PC X Fa))) (F0 m 38 ls []) := by
    intro H locs ls v2 v3 hG hl b2 c2 b3 c3 hex38
    refine lv_iload_n hx hb dX10_layRow_38 rfl (lv_at hl 3 rfl) ?_
    refine lv_iload_n hx hb dX10_layRow_39 rfl (lv_at hl 2 rfl) ?_
    refine lv_icmp_ge (tgt := 87) hx hb dX10_layRow_40 (by decide) (fun c29 => ?_) (fun c29 => ?_)
    · skip
      have ic29 := tn_le rfl rfl c29
      refine lv_iload_n hx hb dX10_layRow_87 rfl (lv_at hl 3 rfl) ?_
      refine lv_iload_n hx hb dX10_layRow_88 rfl (lv_at hl 2 rfl) ?_
      refine lv_icmp_ne (tgt := 111) hx hb dX10_layRow_89 (by decide) (fun c30 => ?_) (fun c30 => ?_)
      · skip
        have ic30 := tn_ne rfl rfl c30
        exact J111 ((18 - v3.toInt).toNat + 1) H locs ls v2 v3 hG (lv_sub hl [0, 1, 2, 3] rfl) (by omega) (by omega) (by omega) (by omega) (by have k0 := kI_0; have k1 := kI_1; omega) (Nat.lt_succ_self _)
      · skip
        have ic30 := tn_eq rfl rfl c30
        refine lv_aload_n hx hb dX10_layRow_92 rfl (lv_at hl 0 rfl) ?_
        refine lv_iload_n hx hb dX10_layRow_93 rfl (lv_at hl 1 rfl) ?_
        refine mc_callv hG (mc_runV (As := [.int x1]) (rest := []) E hG (c_X10_parts l G σ cu (kO PC X Fa) h0 x1 t0 (by omega) (by omega) t (kO_TI (PC_tr hcu) hT) hI (PC_AV hA hcu)) t0 rfl kv_X10_parts ml_X10_271 ⟨rfl, rfl, Nat.le_of_ble_eq_true rfl, Nat.le_of_ble_eq_true rfl⟩ rfl hl.1 rfl (Nat.le_of_ble_eq_true rfl) ⟨Nat.zero_le _, Nat.zero_le _⟩ dX10_layRow_94) (fun H locs hG => ?_)
        refine lv_aload_n hx hb dX10_layRow_97 rfl (lv_at hl 0 rfl) ?_
        refine mc_getr E hG t0 mr_48 dX10_layRow_98 (fun oa32 hoa32 => ?_)
        refine lv_iload_n hx hb dX10_layRow_101 rfl (lv_at hl 1 rfl) ?_
        refine lv_aload_n hx hb dX10_layRow_102 rfl (lv_at hl 0 rfl) ?_
        refine mc_geti E hG t0 mi_261 dX10_layRow_103 (fun z33 lz33 uz33 qz33 => ?_)
        refine mc_iast E hG hoa32 ma_13 ((PC_AV hA hcu).1 _ _ (by decide)) (t_in (by omega) (by omega)) (t_any1 _) (t_any2 _) dX10_layRow_106 (fun H locs hG => ?_)
        refine lv_iload_n hx hb dX10_layRow_107 rfl (lv_at hl 2 rfl) ?_
        refine lv_iconst (v := 1) hx hb dX10_layRow_108 (by decide) ?_
        refine lv_iadd hx hb dX10_layRow_109 ?_
        refine lv_topi (fun z34 ez34 => ?_)
        have tz34 := tn_add ez34 rfl kI_1 (by omega) (by omega)
        refine lv_istore_n (lv' := [(3, .int z34), (0, .ref h0), (1, .int x1), (2, .int v2)]) hx hb dX10_layRow_110 rfl hl (by decide) rfl (fun ls hl => ?_)
        exact J111 ((18 - z34.toInt).toNat + 1) H locs ls v2 z34 hG (lv_sub hl [1, 2, 3, 0] rfl) (by omega) (by omega) (by omega) (by omega) (by have k0 := kI_0; have k1 := kI_1; omega) (Nat.lt_succ_self _)
    · skip
      have ic29 := tn_nle rfl rfl c29
      refine lv_aload_n hx hb dX10_layRow_43 rfl (lv_at hl 0 rfl) ?_
      refine lv_iload_n hx hb dX10_layRow_44 rfl (lv_at hl 1 rfl) ?_
      refine lv_iload_n hx hb dX10_layRow_45 rfl (lv_at hl 3 rfl) ?_
      refine tc_callp (mc_runV (As := [.int x1, .int v3]) (rest := []) E hG (c_X10_childOf l G (σ, cu, kO PC X Fa) h0 x1 v3 t0 (by omega) (by omega) (by omega) (by omega)) t0 rfl kv_X10_childOf ml_X10_153 ⟨rfl, rfl, Nat.le_of_ble_eq_true rfl, Nat.le_of_ble_eq_true rfl⟩ rfl hl.1 rfl (Nat.le_of_ble_eq_true rfl) ⟨Nat.zero_le _, Nat.zero_le _⟩ dX10_layRow_46) (fun r35 pr35 => ?_)
      replace pr35 : mV (σ, cu, kO PC X Fa) (ix x1.toInt (11 + v3.toInt)) r35 := pr35
      have br35 := mV_r 11 18 0 23 pr35 (by omega) (by omega) (by omega) (by decide) (by decide)
      have cr35 := mT pr35 (kO_TI (PC_tr hcu) hT) (by omega) (by omega) (by omega) (by omega)
      have dr35 := mP11 cr35 hI (by omega) (by omega) (by omega)
      refine lv_istore (lv' := [(4, .int r35), (0, .ref h0), (1, .int x1), (2, .int v2), (3, .int v3)]) hx hb dX10_layRow_49 hl (by decide) rfl (fun ls hl => ?_)
      refine lv_aload_n hx hb dX10_layRow_51 rfl (lv_at hl 1 rfl) ?_
      refine mc_getr E hG t0 mr_42 dX10_layRow_52 (fun oa36 hoa36 => ?_)
      refine lv_iload_n hx hb dX10_layRow_55 rfl (lv_at hl 2 rfl) ?_
      refine lv_iload_n hx hb dX10_layRow_56 rfl (lv_at hl 4 rfl) ?_
      refine lv_iconst (v := 1) hx hb dX10_layRow_57 (by decide) ?_
      refine lv_iadd hx hb dX10_layRow_58 ?_
      refine lv_topi (fun z37 ez37 => ?_)
      have tz37 := tn_add ez37 rfl kI_1 (by omega) (by omega)
      refine mc_iastX E hG hoa36 ma_11.1 ma_11.2.1 (ma_11.2.2 _) (t_in (by omega) (by omega)) (by omega) (by omega) dX10_layRow_59 (fun H locs hG => ?_)
      have hG := kO_set (PC_11) hG
      obtain ⟨F38, eF38⟩ : ∃ Z : mF, Z = up2 Fa 11 (x1).toNatClampNeg z37 := ⟨_, rfl⟩
      rw [← eF38] at hG
      refine lv_aload_n hx hb dX10_layRow_60 rfl (lv_at hl 1 rfl) ?_
      refine lv_iload_n hx hb dX10_layRow_61 rfl (lv_at hl 2 rfl) ?_
      refine lv_iload hx hb dX10_layRow_62 (lv_at hl 0 rfl) ?_
      refine lv_aload_n hx hb dX10_layRow_64 rfl (lv_at hl 1 rfl) ?_
      refine lv_iload hx hb dX10_layRow_65 (lv_at hl 0 rfl) ?_
      refine lv_bipush (v := 7) hx hb dX10_layRow_67 (by decide) ?_
      refine tc_callp (mc_runV (As := [.int r35, .int 7]) (rest := [.int r35, .int x1, .ref h0]) E hG (c_X10_get l G (σ, cu, kO PC X F38) h0 r35 (7 : Int32) t0 (by omega) (by omega) (by decide) (by decide)) t0 rfl kv_X10_get ml_X10_91 ⟨rfl, rfl, Nat.le_of_ble_eq_true rfl, Nat.le_of_ble_eq_true rfl⟩ rfl hl.1 rfl (Nat.le_of_ble_eq_true rfl) ⟨Nat.zero_le _, Nat.zero_le _⟩ dX10_layRow_69) (fun r39 pr39 => ?_)
      replace pr39 : mV (σ, cu, kO PC X F38) (ix r35.toInt (7 : Int32).toInt) r39 := pr39
      have pr39 := mV_l pr39 kI_7
      have br39 := mV_7 pr39 (by omega)
      have cr39 := mT pr39 (kO_TI (PC_tr hcu) hT) (by omega) (by omega) (by decide) (by decide)
      have k40 := kI_7
      refine lv_aload_n hx hb dX10_layRow_72 rfl (lv_at hl 1 rfl) ?_
      refine lv_iload hx hb dX10_layRow_73 (lv_at hl 0 rfl) ?_
      refine lv_bipush (v := 8) hx hb dX10_layRow_75 (by decide) ?_
      refine tc_callp (mc_runV (As := [.int r35, .int 8]) (rest := [.int r39, .int r35, .int x1, .ref h0]) E hG (c_X10_get l G (σ, cu, kO PC X F38) h0 r35 (8 : Int32) t0 (by omega) (by omega) (by decide) (by decide)) t0 rfl kv_X10_get ml_X10_91 ⟨rfl, rfl, Nat.le_of_ble_eq_true rfl, Nat.le_of_ble_eq_true rfl⟩ rfl hl.1 rfl (Nat.le_of_ble_eq_true rfl) ⟨Nat.zero_le _, Nat.zero_le _⟩ dX10_layRow_77) (fun r41 pr41 => ?_)
      replace pr41 : mV (σ, cu, kO PC X F38) (ix r35.toInt (8 : Int32).toInt) r41 := pr41
      have pr41 := mV_l pr41 kI_8
      have br41 := mV_8 pr41 (by omega)
      have cr41 := mT pr41 (kO_TI (PC_tr hcu) hT) (by omega) (by omega) (by decide) (by decide)
      have k42 := kI_8
      refine tc_callp (mc_runS (As := [.int r41]) (rest := [.int r39, .int r35, .int x1, .ref h0]) E hG (c_X10_ended l G (σ, cu, kO PC X F38) r41 (by omega) (by omega)) ks_X10_ended ml_X10_181 ⟨rfl, rfl, Nat.le_of_ble_eq_true rfl, Nat.le_of_ble_eq_true rfl⟩ rfl hl.1 rfl (Nat.le_of_ble_eq_true rfl) ⟨Nat.zero_le _, Nat.zero_le _⟩ dX10_layRow_80) (fun r43 pr43 => ?_)
      replace pr43 : (0 ≤ r43.toInt ∧ r43.toInt ≤ 1000) := pr43
      refine mc_callvX hG (mc_runV (As := [.int x1, .int r35, .int r39, .int r43]) (rest := []) E hG (c_X10_layAlong l G σ cu X F38 h0 x1 r35 r39 r43 t0 (by omega) (by omega) (by omega) (by omega) (by omega) (by omega) (by omega) (by omega) hA (by rw [eF38, up2_ne (by omega)]; omega)) t0 rfl kv_X10_layAlong ml_X10_267 ⟨rfl, rfl, Nat.le_of_ble_eq_true rfl, Nat.le_of_ble_eq_true rfl⟩ rfl hl.1 rfl (Nat.le_of_ble_eq_true rfl) ⟨Nat.zero_le _, Nat.zero_le _⟩ dX10_layRow_83) (fun Z H locs eZ pZ hG => ?_)
      obtain ⟨F45, rfl, pF45⟩ := pZ
      clear eZ
      exact mc_vretX E hr hlk hG rfl ⟨_, rfl, Or.inr ⟨F38, z37, r35, eF38, (by omega), by omega, pF45, by omega, by omega, by omega⟩⟩ dX10_layRow_86
  have J13 : ∀ (n13 : Nat) (H : Heap) (locs : List Loc) (ls : Array Slot) (v2 : Int32) (v3 : Int32), mGH G (σ, cu, kO PC X Fa) s H locs → lv_has ls 5 [(0, .ref h0), (1, .int x1), (2, .int v2), (3, .int v3)] → 0 ≤ v2.toInt → v2.toInt ≤ 8 → 0 ≤ v3.toInt → v3.toInt ≤ 18 → (Fa 11 x1.toNatClampNeg).toInt ≤ v3.toInt ∧ v2.toInt = K t x1.toInt 10 → (18 - v3.toInt).toNat < n13 → W p l e (tRm 5 129) s m ([.ref h0, .int x1] : List Value).toArray below meth c H locs 0 0 (MQ below (mQvX G (σ, cu, kO PC X Fa) (fun Z => ∃ F : mF, Z = (σ, cu, kO PC X F) ∧ SP (t 3).toInt x1 Fa F)) ([.ref h0, .int x1] : List Value).toArray s 0 0 (mA (σ, cu, kO PC X Fa))) (F0 m 13 ls []) := by
    intro n13
    induction n13 with
    | zero => intro H locs ls v2 v3 hG hl b2 c2 b3 c3 hex13 hn13; exact absurd hn13 (Nat.not_lt_zero _)
    | succ n13 ih13 =>
      intro H locs ls v2 v3 hG hl b2 c2 b3 c3 hex13 hn13
      refine lv_iload_n hx hb dX10_layRow_13 rfl (lv_at hl 3 rfl) ?_
      refine lv_iload_n hx hb dX10_layRow_14 rfl (lv_at hl 2 rfl) ?_
      refine lv_icmp_ge (tgt := 38) hx hb dX10_layRow_15 (by decide) (fun c46 => ?_) (fun c46 => ?_)
      · skip
        have ic46 := tn_le rfl rfl c46
        exact J38 H locs ls v2 v3 hG (lv_sub hl [0, 1, 2, 3] rfl) (by omega) (by omega) (by omega) (by omega) (by have k0 := kI_0; have k1 := kI_1; omega)
      · skip
        have ic46 := tn_nle rfl rfl c46
        refine lv_aload_n hx hb dX10_layRow_18 rfl (lv_at hl 0 rfl) ?_
        refine lv_iload_n hx hb dX10_layRow_19 rfl (lv_at hl 1 rfl) ?_
        refine lv_aload_n hx hb dX10_layRow_20 rfl (lv_at hl 0 rfl) ?_
        refine lv_iload_n hx hb dX10_layRow_21 rfl (lv_at hl 1 rfl) ?_
        refine lv_iload_n hx hb dX10_layRow_22 rfl (lv_at hl 3 rfl) ?_
        refine tc_callp (mc_runV (As := [.int x1, .int v3]) (rest := [.int x1, .ref h0]) E hG (c_X10_childOf l G (σ, cu, kO PC X Fa) h0 x1 v3 t0 (by omega) (by omega) (by omega) (by omega)) t0 rfl kv_X10_childOf ml_X10_153 ⟨rfl, rfl, Nat.le_of_ble_eq_true rfl, Nat.le_of_ble_eq_true rfl⟩ rfl hl.1 rfl (Nat.le_of_ble_eq_true rfl) ⟨Nat.zero_le _, Nat.zero_le _⟩ dX10_layRow_23) (fun r47 pr47 => ?_)
        replace pr47 : mV (σ, cu, kO PC X Fa) (ix x1.toInt (11 + v3.toInt)) r47 := pr47
        have br47 := mV_r 11 18 0 23 pr47 (by omega) (by omega) (by omega) (by decide) (by decide)
        have cr47 := mT pr47 (kO_TI (PC_tr hcu) hT) (by omega) (by omega) (by omega) (by omega)
        have dr47 := mP11 cr47 hI (by omega) (by omega) (by omega)
        refine tc_callp (mc_runV (As := [.int x1, .int r47]) (rest := []) E hG (c_X10_hasPart l G (σ, cu, kO PC X Fa) h0 x1 r47 t0 (by omega) (by omega) (by omega) (by omega)) t0 rfl kv_X10_hasPart ml_X10_258 ⟨rfl, rfl, Nat.le_of_ble_eq_true rfl, Nat.le_of_ble_eq_true rfl⟩ rfl hl.1 rfl (Nat.le_of_ble_eq_true rfl) ⟨Nat.zero_le _, Nat.zero_le _⟩ dX10_layRow_26) (fun r48 pr48 => ?_)
        replace pr48 : (0 ≤ r48.toInt ∧ r48.toInt ≤ 1) ∧ (r48.toInt = 0 ∨ ∃ v : Int32, 0 < v.toInt ∧ mV (σ, cu, kO PC X Fa) (ix r47.toInt 6) v) := pr48
        replace pr48 := pr48.1
        refine lv_if_eq (tgt := 38) hx hb dX10_layRow_29 (by decide) (fun c49 => ?_) (fun c49 => ?_)
        · skip
          have ic49 := tn_eq rfl kI_0 c49
          exact J38 H locs ls v2 v3 hG (lv_sub hl [0, 1, 2, 3] rfl) (by omega) (by omega) (by omega) (by omega) (by have k0 := kI_0; have k1 := kI_1; omega)
        · skip
          have ic49 := tn_ne rfl kI_0 c49
          obtain ⟨z50, ez50⟩ : ∃ y : Int32, y = v3 + (1) := ⟨_, rfl⟩
          refine lv_iinc (v := z50) (lv' := [(3, .int z50), (0, .ref h0), (1, .int x1), (2, .int v2)]) hx hb dX10_layRow_32 hl (k := 3) rfl (by rw [ez50]; rfl) (by decide) rfl (fun ls hl => ?_)
          have tz50 := tn_add ez50 rfl kI_1 (by omega) (by omega)
          refine lv_goto (tgt := 13) hx hb dX10_layRow_35 (by decide) ?_
          exact ih13 H locs ls v2 z50 hG (lv_sub hl [1, 2, 3, 0] rfl) (by omega) (by omega) (by omega) (by omega) (by have k0 := kI_0; have k1 := kI_1; omega) (by omega)
  refine lv_aload_n hx hb dX10_layRow_0 rfl (lv_at hl 0 rfl) ?_
  refine lv_iload_n hx hb dX10_layRow_1 rfl (lv_at hl 1 rfl) ?_
  refine tc_callp (mc_runV (As := [.int x1]) (rest := []) E hG (c_X10_manyOf l G (σ, cu, kO PC X Fa) h0 x1 t0 (by omega) (by omega)) t0 rfl kv_X10_manyOf ml_X10_117 ⟨rfl, rfl, Nat.le_of_ble_eq_true rfl, Nat.le_of_ble_eq_true rfl⟩ rfl hl.1 rfl (Nat.le_of_ble_eq_true rfl) ⟨Nat.zero_le _, Nat.zero_le _⟩ dX10_layRow_2) (fun r51 pr51 => ?_)
  replace pr51 : mV (σ, cu, kO PC X Fa) (ix x1.toInt 10) r51 := pr51
  have br51 := mV_10 pr51 (by omega)
  have cr51 := mT pr51 (kO_TI (PC_tr hcu) hT) (by omega) (by omega) (by decide) (by decide)
  refine lv_istore_n (lv' := [(2, .int r51), (0, .ref h0), (1, .int x1)]) hx hb dX10_layRow_5 rfl hl (by decide) rfl (fun ls hl => ?_)
  refine lv_aload_n hx hb dX10_layRow_6 rfl (lv_at hl 1 rfl) ?_
  refine mc_getr E hG t0 mr_42 dX10_layRow_7 (fun oa52 hoa52 => ?_)
  refine lv_iload_n hx hb dX10_layRow_10 rfl (lv_at hl 2 rfl) ?_
  refine mc_iald E hG hoa52 ma_11 (t_in (by omega) (by omega)) dX10_layRow_11 (fun z53 lz53 uz53 qz53 => ?_)
  have wz53 := kq qz53 (PC_11)
  have hS9 : (Fa 11 x1.toNatClampNeg).toInt = z53.toInt := by rw [wz53]
  refine lv_istore_n (lv' := [(3, .int z53), (2, .int r51), (0, .ref h0), (1, .int x1)]) hx hb dX10_layRow_12 rfl hl (by decide) rfl (fun ls hl => ?_)
  exact J13 ((18 - z53.toInt).toNat + 1) H locs ls r51 z53 hG (lv_sub hl [2, 3, 1, 0] rfl) (by omega) (by omega) (by omega) (by omega) (by have k0 := kI_0; have k1 := kI_1; omega) (Nat.lt_succ_self _)

set_option maxHeartbeats 4000000 in
set_option maxRecDepth 100000 in
theorem c_X10_stepsOn (l : Launch) (G : tG) (σ : Nat → Nat) (cu : Nat) (X : mX) (Fa : mF) (h0 : Nat) (x1 : Int32) (t0 : σ h0 = 1) (l1 : 0 ≤ x1.toInt) (u1 : x1.toInt ≤ 23) (t : Nat → Int32) (hT : TI (σ, cu, X) t) (hI : TInv t) (hA : mAV (σ, cu, X)) (hd1 : 1 ≤ (Fa 1 18).toInt) (hd2 : (Fa 1 18).toInt ≤ 24) : Met l yX10_stepsOn (.code yX10_stepsOn cX10_stepsOn 3 none :: tWS) (tRm 7 165) (va_Pc [.ref h0, .int x1] (mPre G (σ, cu, kO PC X Fa))) (mQvX G (σ, cu, kO PC X Fa) (fun Z => ∃ F : mF, Z = (σ, cu, kO PC X F) ∧ SP (t 3).toInt x1 Fa F)) 0 0 (mA (σ, cu, kO PC X Fa)) := by
  refine mc_met (by decide) (Nat.le_of_ble_eq_true rfl) ?_
  intro p e s m below meth c E hr hlk hG ls hl
  have hl : lv_has ls 3 [(0, .ref h0), (1, .int x1)] := hl
  have hx := E.1
  have hb := E.2.1
  obtain ⟨H, eH⟩ : ∃ H, H = s.heap := ⟨_, rfl⟩
  obtain ⟨locs, eL⟩ : ∃ x : List Loc, x = [] := ⟨_, rfl⟩
  have hG : mGH G (σ, cu, kO PC X Fa) s H locs := by rw [eH, eL]; exact hG
  suffices hW : W p l e (tRm 7 165) s m ([.ref h0, .int x1] : List Value).toArray below meth c H locs 0 0 (MQ below (mQvX G (σ, cu, kO PC X Fa) (fun Z => ∃ F : mF, Z = (σ, cu, kO PC X F) ∧ SP (t 3).toInt x1 Fa F)) ([.ref h0, .int x1] : List Value).toArray s 0 0 (mA (σ, cu, kO PC X Fa))) (F0 m 0 ls []) by subst eH; subst eL; exact hW
  clear eH eL
  have hcu : mCu cu := hG.2.2.1
  have km := kI_m1
  refine lv_aload_n hx hb dX10_stepsOn_0 rfl (lv_at hl 0 rfl) ?_
  refine lv_iload_n hx hb dX10_stepsOn_1 rfl (lv_at hl 1 rfl) ?_
  refine tc_callp (mc_runV (As := [.int x1]) (rest := []) E hG (c_X10_manyOf l G (σ, cu, kO PC X Fa) h0 x1 t0 (by omega) (by omega)) t0 rfl kv_X10_manyOf ml_X10_117 ⟨rfl, rfl, Nat.le_of_ble_eq_true rfl, Nat.le_of_ble_eq_true rfl⟩ rfl hl.1 rfl (Nat.le_of_ble_eq_true rfl) ⟨Nat.zero_le _, Nat.zero_le _⟩ dX10_stepsOn_2) (fun r1 pr1 => ?_)
  replace pr1 : mV (σ, cu, kO PC X Fa) (ix x1.toInt 10) r1 := pr1
  have br1 := mV_10 pr1 (by omega)
  have cr1 := mT pr1 (kO_TI (PC_tr hcu) hT) (by omega) (by omega) (by decide) (by decide)
  refine lv_if_le (tgt := 17) hx hb dX10_stepsOn_5 (by decide) (fun c2 => ?_) (fun c2 => ?_)
  · skip
    have ic2 := tn_le rfl kI_0 c2
    refine lv_iconst (v := -1) hx hb dX10_stepsOn_17 (by decide) ?_
    refine lv_istore_n (lv' := [(2, .int (-1)), (0, .ref h0), (1, .int x1)]) hx hb dX10_stepsOn_18 rfl hl (by decide) rfl (fun ls hl => ?_)
    refine lv_aload_n hx hb dX10_stepsOn_19 rfl (lv_at hl 1 rfl) ?_
    refine lv_iload_n hx hb dX10_stepsOn_20 rfl (lv_at hl 2 rfl) ?_
    refine lv_iconst (v := 1) hx hb dX10_stepsOn_21 (by decide) ?_
    refine tc_callp (mc_runV (As := [.int x1, .int 1]) (rest := []) E hG (c_X10_get l G (σ, cu, kO PC X Fa) h0 x1 (1 : Int32) t0 (by omega) (by omega) (by decide) (by decide)) t0 rfl kv_X10_get ml_X10_91 ⟨rfl, rfl, Nat.le_of_ble_eq_true rfl, Nat.le_of_ble_eq_true rfl⟩ rfl hl.1 rfl (Nat.le_of_ble_eq_true rfl) ⟨Nat.zero_le _, Nat.zero_le _⟩ dX10_stepsOn_22) (fun r3 pr3 => ?_)
    replace pr3 : mV (σ, cu, kO PC X Fa) (ix x1.toInt (1 : Int32).toInt) r3 := pr3
    have pr3 := mV_l pr3 kI_1
    have br3 := mV_1 pr3 (by omega)
    have cr3 := mT pr3 (kO_TI (PC_tr hcu) hT) (by omega) (by omega) (by decide) (by decide)
    have k4 := kI_1
    rcases (show (r3.toInt < 0 ∨ 7 < r3.toInt) ∨ r3.toInt = 0 ∨ r3.toInt = 1 ∨ r3.toInt = 2 ∨ r3.toInt = 3 ∨ r3.toInt = 4 ∨ r3.toInt = 5 ∨ r3.toInt = 6 ∨ r3.toInt = 7 by omega) with k5 | k5 | k5 | k5 | k5 | k5 | k5 | k5 | k5
    · refine lv_tableOut (tgt := 153) hx hb dX10_stepsOn_25 k5 (by decide) ?_
      refine lv_aload_n hx hb dX10_stepsOn_153 rfl (lv_at hl 1 rfl) ?_
      refine lv_iload_n hx hb dX10_stepsOn_154 rfl (lv_at hl 2 rfl) ?_
      refine mc_callvX hG (mc_runV (As := [.int x1]) (rest := []) E hG (c_X10_layRow l G σ cu X Fa h0 x1 t0 (by omega) (by omega) t (hT) hI hA (by omega) (by omega)) t0 rfl kv_X10_layRow ml_X10_308 ⟨rfl, rfl, Nat.le_of_ble_eq_true rfl, Nat.le_of_ble_eq_true rfl⟩ rfl hl.1 rfl (Nat.le_of_ble_eq_true rfl) ⟨Nat.zero_le _, Nat.zero_le _⟩ dX10_stepsOn_155) (fun Z H locs eZ pZ hG => ?_)
      obtain ⟨F7, rfl, pF7⟩ := pZ
      clear eZ
      exact mc_vretX E hr hlk hG rfl ⟨_, rfl, pF7⟩ dX10_stepsOn_158
    · refine lv_tableIn (off := 47) (tgt := 72) hx hb dX10_stepsOn_25 (by rw [k5]; decide) (by rw [k5]; decide) (by rw [k5]; rfl) (by decide) ?_
      refine lv_aload_n hx hb dX10_stepsOn_72 rfl (lv_at hl 1 rfl) ?_
      refine lv_iload_n hx hb dX10_stepsOn_73 rfl (lv_at hl 2 rfl) ?_
      refine lv_aload_n hx hb dX10_stepsOn_74 rfl (lv_at hl 1 rfl) ?_
      refine lv_iload_n hx hb dX10_stepsOn_75 rfl (lv_at hl 2 rfl) ?_
      refine lv_iconst (v := 2) hx hb dX10_stepsOn_76 (by decide) ?_
      refine tc_callp (mc_runV (As := [.int x1, .int 2]) (rest := [.int x1, .ref h0]) E hG (c_X10_get l G (σ, cu, kO PC X Fa) h0 x1 (2 : Int32) t0 (by omega) (by omega) (by decide) (by decide)) t0 rfl kv_X10_get ml_X10_91 ⟨rfl, rfl, Nat.le_of_ble_eq_true rfl, Nat.le_of_ble_eq_true rfl⟩ rfl hl.1 rfl (Nat.le_of_ble_eq_true rfl) ⟨Nat.zero_le _, Nat.zero_le _⟩ dX10_stepsOn_77) (fun r8 pr8 => ?_)
      replace pr8 : mV (σ, cu, kO PC X Fa) (ix x1.toInt (2 : Int32).toInt) r8 := pr8
      have pr8 := mV_l pr8 kI_2
      have br8 := mV_2 pr8 (by omega)
      have cr8 := mT pr8 (kO_TI (PC_tr hcu) hT) (by omega) (by omega) (by decide) (by decide)
      have k9 := kI_2
      refine lv_aload_n hx hb dX10_stepsOn_80 rfl (lv_at hl 1 rfl) ?_
      refine lv_iload_n hx hb dX10_stepsOn_81 rfl (lv_at hl 2 rfl) ?_
      refine lv_iconst (v := 3) hx hb dX10_stepsOn_82 (by decide) ?_
      refine tc_callp (mc_runV (As := [.int x1, .int 3]) (rest := [.int r8, .int x1, .ref h0]) E hG (c_X10_get l G (σ, cu, kO PC X Fa) h0 x1 (3 : Int32) t0 (by omega) (by omega) (by decide) (by decide)) t0 rfl kv_X10_get ml_X10_91 ⟨rfl, rfl, Nat.le_of_ble_eq_true rfl, Nat.le_of_ble_eq_true rfl⟩ rfl hl.1 rfl (Nat.le_of_ble_eq_true rfl) ⟨Nat.zero_le _, Nat.zero_le _⟩ dX10_stepsOn_83) (fun r10 pr10 => ?_)
      replace pr10 : mV (σ, cu, kO PC X Fa) (ix x1.toInt (3 : Int32).toInt) r10 := pr10
      have pr10 := mV_l pr10 kI_3
      have br10 := mV_3 pr10 (by omega)
      have cr10 := mT pr10 (kO_TI (PC_tr hcu) hT) (by omega) (by omega) (by decide) (by decide)
      have k11 := kI_3
      refine mc_callvX hG (mc_runV (As := [.int x1, .int r8, .int r10]) (rest := []) E hG (c_X10_ends l G σ cu X Fa h0 x1 r8 r10 t0 (by omega) (by omega) hA (by omega)) t0 rfl kv_X10_ends ml_X10_230 ⟨rfl, rfl, Nat.le_of_ble_eq_true rfl, Nat.le_of_ble_eq_true rfl⟩ rfl hl.1 rfl (Nat.le_of_ble_eq_true rfl) ⟨Nat.zero_le _, Nat.zero_le _⟩ dX10_stepsOn_86) (fun Z H locs eZ pZ hG => ?_)
      obtain ⟨F13, rfl, pF13⟩ := pZ
      clear eZ
      refine lv_goto (tgt := 158) hx hb dX10_stepsOn_89 (by decide) ?_
      exact mc_vretX E hr hlk hG rfl ⟨_, rfl, Or.inl pF13⟩ dX10_stepsOn_158
    · refine lv_tableIn (off := 67) (tgt := 92) hx hb dX10_stepsOn_25 (by rw [k5]; decide) (by rw [k5]; decide) (by rw [k5]; rfl) (by decide) ?_
      refine lv_aload_n hx hb dX10_stepsOn_92 rfl (lv_at hl 1 rfl) ?_
      refine lv_iload_n hx hb dX10_stepsOn_93 rfl (lv_at hl 2 rfl) ?_
      refine mc_callvX hG (mc_runV (As := [.int x1]) (rest := []) E hG (c_X10_layText l G σ cu X Fa h0 x1 t0 (by omega) (by omega) t (hT) hI hA (by omega) (by omega)) t0 rfl kv_X10_layText ml_X10_287 ⟨rfl, rfl, Nat.le_of_ble_eq_true rfl, Nat.le_of_ble_eq_true rfl⟩ rfl hl.1 rfl (Nat.le_of_ble_eq_true rfl) ⟨Nat.zero_le _, Nat.zero_le _⟩ dX10_stepsOn_94) (fun Z H locs eZ pZ hG => ?_)
      obtain ⟨F15, rfl, pF15⟩ := pZ
      clear eZ
      refine lv_goto (tgt := 158) hx hb dX10_stepsOn_97 (by decide) ?_
      exact mc_vretX E hr hlk hG rfl ⟨_, rfl, pF15⟩ dX10_stepsOn_158
    · refine lv_tableIn (off := 75) (tgt := 100) hx hb dX10_stepsOn_25 (by rw [k5]; decide) (by rw [k5]; decide) (by rw [k5]; rfl) (by decide) ?_
      refine lv_aload_n hx hb dX10_stepsOn_100 rfl (lv_at hl 1 rfl) ?_
      refine lv_iload_n hx hb dX10_stepsOn_101 rfl (lv_at hl 2 rfl) ?_
      refine lv_iload_n hx hb dX10_stepsOn_102 rfl (lv_at hl 0 rfl) ?_
      refine mc_callvX hG (mc_runV (As := [.int x1, .int (-1)]) (rest := []) E hG (c_X10_layPad l G σ cu X Fa h0 x1 (-1 : Int32) t0 (by omega) (by omega) (by decide) (by decide) t (hT) hI hA (by omega) (by omega) (by omega)) t0 rfl kv_X10_layPad ml_X10_290 ⟨rfl, rfl, Nat.le_of_ble_eq_true rfl, Nat.le_of_ble_eq_true rfl⟩ rfl hl.1 rfl (Nat.le_of_ble_eq_true rfl) ⟨Nat.zero_le _, Nat.zero_le _⟩ dX10_stepsOn_103) (fun Z H locs eZ pZ hG => ?_)
      obtain ⟨F17, rfl, pF17⟩ := pZ
      clear eZ
      refine lv_goto (tgt := 158) hx hb dX10_stepsOn_106 (by decide) ?_
      exact mc_vretX E hr hlk hG rfl ⟨_, rfl, pF17⟩ dX10_stepsOn_158
    · refine lv_tableIn (off := 84) (tgt := 109) hx hb dX10_stepsOn_25 (by rw [k5]; decide) (by rw [k5]; decide) (by rw [k5]; rfl) (by decide) ?_
      refine lv_aload_n hx hb dX10_stepsOn_109 rfl (lv_at hl 1 rfl) ?_
      refine lv_iload_n hx hb dX10_stepsOn_110 rfl (lv_at hl 2 rfl) ?_
      refine lv_iload_n hx hb dX10_stepsOn_111 rfl (lv_at hl 0 rfl) ?_
      refine mc_callvX hG (mc_runV (As := [.int x1, .int (-1)]) (rest := []) E hG (c_X10_layLimit l G σ cu X Fa h0 x1 (-1 : Int32) t0 (by omega) (by omega) (by decide) (by decide) t (hT) hI hA (by omega) (by omega) (by omega)) t0 rfl kv_X10_layLimit ml_X10_293 ⟨rfl, rfl, Nat.le_of_ble_eq_true rfl, Nat.le_of_ble_eq_true rfl⟩ rfl hl.1 rfl (Nat.le_of_ble_eq_true rfl) ⟨Nat.zero_le _, Nat.zero_le _⟩ dX10_stepsOn_112) (fun Z H locs eZ pZ hG => ?_)
      obtain ⟨F19, rfl, pF19⟩ := pZ
      clear eZ
      refine lv_goto (tgt := 158) hx hb dX10_stepsOn_115 (by decide) ?_
      exact mc_vretX E hr hlk hG rfl ⟨_, rfl, pF19⟩ dX10_stepsOn_158
    · refine lv_tableIn (off := 93) (tgt := 118) hx hb dX10_stepsOn_25 (by rw [k5]; decide) (by rw [k5]; decide) (by rw [k5]; rfl) (by decide) ?_
      refine lv_aload_n hx hb dX10_stepsOn_118 rfl (lv_at hl 1 rfl) ?_
      refine lv_iload_n hx hb dX10_stepsOn_119 rfl (lv_at hl 2 rfl) ?_
      refine lv_iload_n hx hb dX10_stepsOn_120 rfl (lv_at hl 0 rfl) ?_
      refine mc_callvX hG (mc_runV (As := [.int x1, .int (-1)]) (rest := []) E hG (c_X10_layCentre l G σ cu X Fa h0 x1 (-1 : Int32) t0 (by omega) (by omega) (by decide) (by decide) t (hT) hI hA (by omega) (by omega) (by omega)) t0 rfl kv_X10_layCentre ml_X10_296 ⟨rfl, rfl, Nat.le_of_ble_eq_true rfl, Nat.le_of_ble_eq_true rfl⟩ rfl hl.1 rfl (Nat.le_of_ble_eq_true rfl) ⟨Nat.zero_le _, Nat.zero_le _⟩ dX10_stepsOn_121) (fun Z H locs eZ pZ hG => ?_)
      obtain ⟨F21, rfl, pF21⟩ := pZ
      clear eZ
      refine lv_goto (tgt := 158) hx hb dX10_stepsOn_124 (by decide) ?_
      exact mc_vretX E hr hlk hG rfl ⟨_, rfl, pF21⟩ dX10_stepsOn_158
    · refine lv_tableIn (off := 102) (tgt := 127) hx hb dX10_stepsOn_25 (by rw [k5]; decide) (by rw [k5]; decide) (by rw [k5]; rfl) (by decide) ?_
      refine lv_aload_n hx hb dX10_stepsOn_127 rfl (lv_at hl 1 rfl) ?_
      refine lv_iload_n hx hb dX10_stepsOn_128 rfl (lv_at hl 2 rfl) ?_
      refine lv_iload_n hx hb dX10_stepsOn_129 rfl (lv_at hl 0 rfl) ?_
      refine mc_callvX hG (mc_runV (As := [.int x1, .int (-1)]) (rest := []) E hG (c_X10_layFit l G σ cu X Fa h0 x1 (-1 : Int32) t0 (by omega) (by omega) (by decide) (by decide) t (hT) hI hA (by omega) (by omega) (by omega)) t0 rfl kv_X10_layFit ml_X10_299 ⟨rfl, rfl, Nat.le_of_ble_eq_true rfl, Nat.le_of_ble_eq_true rfl⟩ rfl hl.1 rfl (Nat.le_of_ble_eq_true rfl) ⟨Nat.zero_le _, Nat.zero_le _⟩ dX10_stepsOn_130) (fun Z H locs eZ pZ hG => ?_)
      obtain ⟨F23, rfl, pF23⟩ := pZ
      clear eZ
      refine lv_goto (tgt := 158) hx hb dX10_stepsOn_133 (by decide) ?_
      exact mc_vretX E hr hlk hG rfl ⟨_, rfl, pF23⟩ dX10_stepsOn_158
    · refine lv_tableIn (off := 111) (tgt := 136) hx hb dX10_stepsOn_25 (by rw [k5]; decide) (by rw [k5]; decide) (by rw [k5]; rfl) (by decide) ?_
      have h6 := hI.2.2.2.2.2.2.2.1 x1.toInt (by omega) (by omega) (by omega)
      refine lv_aload_n hx hb dX10_stepsOn_136 rfl (lv_at hl 1 rfl) ?_
      refine lv_iload_n hx hb dX10_stepsOn_137 rfl (lv_at hl 2 rfl) ?_
      refine lv_iload_n hx hb dX10_stepsOn_138 rfl (lv_at hl 0 rfl) ?_
      refine mc_callvX hG (mc_runV (As := [.int x1, .int (-1)]) (rest := []) E hG (c_X10_layRatio l G σ cu X Fa h0 x1 (-1 : Int32) t0 (by omega) (by omega) (by decide) (by decide) t (hT) hI hA (by omega) (by omega) (by omega) (by omega)) t0 rfl kv_X10_layRatio ml_X10_302 ⟨rfl, rfl, Nat.le_of_ble_eq_true rfl, Nat.le_of_ble_eq_true rfl⟩ rfl hl.1 rfl (Nat.le_of_ble_eq_true rfl) ⟨Nat.zero_le _, Nat.zero_le _⟩ dX10_stepsOn_139) (fun Z H locs eZ pZ hG => ?_)
      obtain ⟨F25, rfl, pF25⟩ := pZ
      clear eZ
      refine lv_goto (tgt := 158) hx hb dX10_stepsOn_142 (by decide) ?_
      exact mc_vretX E hr hlk hG rfl ⟨_, rfl, pF25⟩ dX10_stepsOn_158
    · refine lv_tableIn (off := 120) (tgt := 145) hx hb dX10_stepsOn_25 (by rw [k5]; decide) (by rw [k5]; decide) (by rw [k5]; rfl) (by decide) ?_
      refine lv_aload_n hx hb dX10_stepsOn_145 rfl (lv_at hl 1 rfl) ?_
      refine lv_iload_n hx hb dX10_stepsOn_146 rfl (lv_at hl 2 rfl) ?_
      refine mc_callvX hG (mc_runV (As := [.int x1]) (rest := []) E hG (c_X10_layLayers l G σ cu X Fa h0 x1 t0 (by omega) (by omega) t (hT) hI hA (by omega) (by omega)) t0 rfl kv_X10_layLayers ml_X10_305 ⟨rfl, rfl, Nat.le_of_ble_eq_true rfl, Nat.le_of_ble_eq_true rfl⟩ rfl hl.1 rfl (Nat.le_of_ble_eq_true rfl) ⟨Nat.zero_le _, Nat.zero_le _⟩ dX10_stepsOn_147) (fun Z H locs eZ pZ hG => ?_)
      obtain ⟨F27, rfl, pF27⟩ := pZ
      clear eZ
      refine lv_goto (tgt := 158) hx hb dX10_stepsOn_150 (by decide) ?_
      exact mc_vretX E hr hlk hG rfl ⟨_, rfl, pF27⟩ dX10_stepsOn_158
  · skip
    have ic2 := tn_nle rfl kI_0 c2
    refine lv_aload_n hx hb dX10_stepsOn_8 rfl (lv_at hl 0 rfl) ?_
    refine lv_iload_n hx hb dX10_stepsOn_9 rfl (lv_at hl 1 rfl) ?_
    refine lv_iconst (v := 0) hx hb dX10_stepsOn_10 (by decide) ?_
    refine tc_callp (mc_runV (As := [.int x1, .int 0]) (rest := []) E hG (c_X10_childOf l G (σ, cu, kO PC X Fa) h0 x1 (0 : Int32) t0 (by omega) (by omega) (by decide) (by decide)) t0 rfl kv_X10_childOf ml_X10_153 ⟨rfl, rfl, Nat.le_of_ble_eq_true rfl, Nat.le_of_ble_eq_true rfl⟩ rfl hl.1 rfl (Nat.le_of_ble_eq_true rfl) ⟨Nat.zero_le _, Nat.zero_le _⟩ dX10_stepsOn_11) (fun r28 pr28 => ?_)
    replace pr28 : mV (σ, cu, kO PC X Fa) (ix x1.toInt (11 + (0 : Int32).toInt)) r28 := pr28
    have k29 := kI_0
    have br28 := mV_r 11 18 0 23 pr28 (by omega) (by omega) (by omega) (by decide) (by decide)
    have cr28 := mT pr28 (kO_TI (PC_tr hcu) hT) (by omega) (by omega) (by omega) (by omega)
    have dr28 := mP11 cr28 hI (by omega) (by omega) (by omega)
    have k30 := kI_0
    refine lv_goto (tgt := 18) hx hb dX10_stepsOn_14 (by decide) ?_
    refine lv_istore_n (lv' := [(2, .int r28), (0, .ref h0), (1, .int x1)]) hx hb dX10_stepsOn_18 rfl hl (by decide) rfl (fun ls hl => ?_)
    refine lv_aload_n hx hb dX10_stepsOn_19 rfl (lv_at hl 1 rfl) ?_
    refine lv_iload_n hx hb dX10_stepsOn_20 rfl (lv_at hl 2 rfl) ?_
    refine lv_iconst (v := 1) hx hb dX10_stepsOn_21 (by decide) ?_
    refine tc_callp (mc_runV (As := [.int x1, .int 1]) (rest := []) E hG (c_X10_get l G (σ, cu, kO PC X Fa) h0 x1 (1 : Int32) t0 (by omega) (by omega) (by decide) (by decide)) t0 rfl kv_X10_get ml_X10_91 ⟨rfl, rfl, Nat.le_of_ble_eq_true rfl, Nat.le_of_ble_eq_true rfl⟩ rfl hl.1 rfl (Nat.le_of_ble_eq_true rfl) ⟨Nat.zero_le _, Nat.zero_le _⟩ dX10_stepsOn_22) (fun r31 pr31 => ?_)
    replace pr31 : mV (σ, cu, kO PC X Fa) (ix x1.toInt (1 : Int32).toInt) r31 := pr31
    have pr31 := mV_l pr31 kI_1
    have br31 := mV_1 pr31 (by omega)
    have cr31 := mT pr31 (kO_TI (PC_tr hcu) hT) (by omega) (by omega) (by decide) (by decide)
    have k32 := kI_1
    rcases (show (r31.toInt < 0 ∨ 7 < r31.toInt) ∨ r31.toInt = 0 ∨ r31.toInt = 1 ∨ r31.toInt = 2 ∨ r31.toInt = 3 ∨ r31.toInt = 4 ∨ r31.toInt = 5 ∨ r31.toInt = 6 ∨ r31.toInt = 7 by omega) with k33 | k33 | k33 | k33 | k33 | k33 | k33 | k33 | k33
    · refine lv_tableOut (tgt := 153) hx hb dX10_stepsOn_25 k33 (by decide) ?_
      refine lv_aload_n hx hb dX10_stepsOn_153 rfl (lv_at hl 1 rfl) ?_
      refine lv_iload_n hx hb dX10_stepsOn_154 rfl (lv_at hl 2 rfl) ?_
      refine mc_callvX hG (mc_runV (As := [.int x1]) (rest := []) E hG (c_X10_layRow l G σ cu X Fa h0 x1 t0 (by omega) (by omega) t (hT) hI hA (by omega) (by omega)) t0 rfl kv_X10_layRow ml_X10_308 ⟨rfl, rfl, Nat.le_of_ble_eq_true rfl, Nat.le_of_ble_eq_true rfl⟩ rfl hl.1 rfl (Nat.le_of_ble_eq_true rfl) ⟨Nat.zero_le _, Nat.zero_le _⟩ dX10_stepsOn_155) (fun Z H locs eZ pZ hG => ?_)
      obtain ⟨F35, rfl, pF35⟩ := pZ
      clear eZ
      exact mc_vretX E hr hlk hG rfl ⟨_, rfl, pF35⟩ dX10_stepsOn_158
    · refine lv_tableIn (off := 47) (tgt := 72) hx hb dX10_stepsOn_25 (by rw [k33]; decide) (by rw [k33]; decide) (by rw [k33]; rfl) (by decide) ?_
      refine lv_aload_n hx hb dX10_stepsOn_72 rfl (lv_at hl 1 rfl) ?_
      refine lv_iload_n hx hb dX10_stepsOn_73 rfl (lv_at hl 2 rfl) ?_
      refine lv_aload_n hx hb dX10_stepsOn_74 rfl (lv_at hl 1 rfl) ?_
      refine lv_iload_n hx hb dX10_stepsOn_75 rfl (lv_at hl 2 rfl) ?_
      refine lv_iconst (v := 2) hx hb dX10_stepsOn_76 (by decide) ?_
      refine tc_callp (mc_runV (As := [.int x1, .int 2]) (rest := [.int x1, .ref h0]) E hG (c_X10_get l G (σ, cu, kO PC X Fa) h0 x1 (2 : Int32) t0 (by omega) (by omega) (by decide) (by decide)) t0 rfl kv_X10_get ml_X10_91 ⟨rfl, rfl, Nat.le_of_ble_eq_true rfl, Nat.le_of_ble_eq_true rfl⟩ rfl hl.1 rfl (Nat.le_of_ble_eq_true rfl) ⟨Nat.zero_le _, Nat.zero_le _⟩ dX10_stepsOn_77) (fun r36 pr36 => ?_)
      replace pr36 : mV (σ, cu, kO PC X Fa) (ix x1.toInt (2 : Int32).toInt) r36 := pr36
      have pr36 := mV_l pr36 kI_2
      have br36 := mV_2 pr36 (by omega)
      have cr36 := mT pr36 (kO_TI (PC_tr hcu) hT) (by omega) (by omega) (by decide) (by decide)
      have k37 := kI_2
      refine lv_aload_n hx hb dX10_stepsOn_80 rfl (lv_at hl 1 rfl) ?_
      refine lv_iload_n hx hb dX10_stepsOn_81 rfl (lv_at hl 2 rfl) ?_
      refine lv_iconst (v := 3) hx hb dX10_stepsOn_82 (by decide) ?_
      refine tc_callp (mc_runV (As := [.int x1, .int 3]) (rest := [.int r36, .int x1, .ref h0]) E hG (c_X10_get l G (σ, cu, kO PC X Fa) h0 x1 (3 : Int32) t0 (by omega) (by omega) (by decide) (by decide)) t0 rfl kv_X10_get ml_X10_91 ⟨rfl, rfl, Nat.le_of_ble_eq_true rfl, Nat.le_of_ble_eq_true rfl⟩ rfl hl.1 rfl (Nat.le_of_ble_eq_true rfl) ⟨Nat.zero_le _, Nat.zero_le _⟩ dX10_stepsOn_83) (fun r38 pr38 => ?_)
      replace pr38 : mV (σ, cu, kO PC X Fa) (ix x1.toInt (3 : Int32).toInt) r38 := pr38
      have pr38 := mV_l pr38 kI_3
      have br38 := mV_3 pr38 (by omega)
      have cr38 := mT pr38 (kO_TI (PC_tr hcu) hT) (by omega) (by omega) (by decide) (by decide)
      have k39 := kI_3
      refine mc_callvX hG (mc_runV (As := [.int x1, .int r36, .int r38]) (rest := []) E hG (c_X10_ends l G σ cu X Fa h0 x1 r36 r38 t0 (by omega) (by omega) hA (by omega)) t0 rfl kv_X10_ends ml_X10_230 ⟨rfl, rfl, Nat.le_of_ble_eq_true rfl, Nat.le_of_ble_eq_true rfl⟩ rfl hl.1 rfl (Nat.le_of_ble_eq_true rfl) ⟨Nat.zero_le _, Nat.zero_le _⟩ dX10_stepsOn_86) (fun Z H locs eZ pZ hG => ?_)
      obtain ⟨F41, rfl, pF41⟩ := pZ
      clear eZ
      refine lv_goto (tgt := 158) hx hb dX10_stepsOn_89 (by decide) ?_
      exact mc_vretX E hr hlk hG rfl ⟨_, rfl, Or.inl pF41⟩ dX10_stepsOn_158
    · refine lv_tableIn (off := 67) (tgt := 92) hx hb dX10_stepsOn_25 (by rw [k33]; decide) (by rw [k33]; decide) (by rw [k33]; rfl) (by decide) ?_
      refine lv_aload_n hx hb dX10_stepsOn_92 rfl (lv_at hl 1 rfl) ?_
      refine lv_iload_n hx hb dX10_stepsOn_93 rfl (lv_at hl 2 rfl) ?_
      refine mc_callvX hG (mc_runV (As := [.int x1]) (rest := []) E hG (c_X10_layText l G σ cu X Fa h0 x1 t0 (by omega) (by omega) t (hT) hI hA (by omega) (by omega)) t0 rfl kv_X10_layText ml_X10_287 ⟨rfl, rfl, Nat.le_of_ble_eq_true rfl, Nat.le_of_ble_eq_true rfl⟩ rfl hl.1 rfl (Nat.le_of_ble_eq_true rfl) ⟨Nat.zero_le _, Nat.zero_le _⟩ dX10_stepsOn_94) (fun Z H locs eZ pZ hG => ?_)
      obtain ⟨F43, rfl, pF43⟩ := pZ
      clear eZ
      refine lv_goto (tgt := 158) hx hb dX10_stepsOn_97 (by decide) ?_
      exact mc_vretX E hr hlk hG rfl ⟨_, rfl, pF43⟩ dX10_stepsOn_158
    · refine lv_tableIn (off := 75) (tgt := 100) hx hb dX10_stepsOn_25 (by rw [k33]; decide) (by rw [k33]; decide) (by rw [k33]; rfl) (by decide) ?_
      refine lv_aload_n hx hb dX10_stepsOn_100 rfl (lv_at hl 1 rfl) ?_
      refine lv_iload_n hx hb dX10_stepsOn_101 rfl (lv_at hl 2 rfl) ?_
      refine lv_iload_n hx hb dX10_stepsOn_102 rfl (lv_at hl 0 rfl) ?_
      refine mc_callvX hG (mc_runV (As := [.int x1, .int r28]) (rest := []) E hG (c_X10_layPad l G σ cu X Fa h0 x1 r28 t0 (by omega) (by omega) (by omega) (by omega) t (hT) hI hA (by omega) (by omega) (by omega)) t0 rfl kv_X10_layPad ml_X10_290 ⟨rfl, rfl, Nat.le_of_ble_eq_true rfl, Nat.le_of_ble_eq_true rfl⟩ rfl hl.1 rfl (Nat.le_of_ble_eq_true rfl) ⟨Nat.zero_le _, Nat.zero_le _⟩ dX10_stepsOn_103) (fun Z H locs eZ pZ hG => ?_)
      obtain ⟨F45, rfl, pF45⟩ := pZ
      clear eZ
      refine lv_goto (tgt := 158) hx hb dX10_stepsOn_106 (by decide) ?_
      exact mc_vretX E hr hlk hG rfl ⟨_, rfl, pF45⟩ dX10_stepsOn_158
    · refine lv_tableIn (off := 84) (tgt := 109) hx hb dX10_stepsOn_25 (by rw [k33]; decide) (by rw [k33]; decide) (by rw [k33]; rfl) (by decide) ?_
      refine lv_aload_n hx hb dX10_stepsOn_109 rfl (lv_at hl 1 rfl) ?_
      refine lv_iload_n hx hb dX10_stepsOn_110 rfl (lv_at hl 2 rfl) ?_
      refine lv_iload_n hx hb dX10_stepsOn_111 rfl (lv_at hl 0 rfl) ?_
      refine mc_callvX hG (mc_runV (As := [.int x1, .int r28]) (rest := []) E hG (c_X10_layLimit l G σ cu X Fa h0 x1 r28 t0 (by omega) (by omega) (by omega) (by omega) t (hT) hI hA (by omega) (by omega) (by omega)) t0 rfl kv_X10_layLimit ml_X10_293 ⟨rfl, rfl, Nat.le_of_ble_eq_true rfl, Nat.le_of_ble_eq_true rfl⟩ rfl hl.1 rfl (Nat.le_of_ble_eq_true rfl) ⟨Nat.zero_le _, Nat.zero_le _⟩ dX10_stepsOn_112) (fun Z H locs eZ pZ hG => ?_)
      obtain ⟨F47, rfl, pF47⟩ := pZ
      clear eZ
      refine lv_goto (tgt := 158) hx hb dX10_stepsOn_115 (by decide) ?_
      exact mc_vretX E hr hlk hG rfl ⟨_, rfl, pF47⟩ dX10_stepsOn_158
    · refine lv_tableIn (off := 93) (tgt := 118) hx hb dX10_stepsOn_25 (by rw [k33]; decide) (by rw [k33]; decide) (by rw [k33]; rfl) (by decide) ?_
      refine lv_aload_n hx hb dX10_stepsOn_118 rfl (lv_at hl 1 rfl) ?_
      refine lv_iload_n hx hb dX10_stepsOn_119 rfl (lv_at hl 2 rfl) ?_
      refine lv_iload_n hx hb dX10_stepsOn_120 rfl (lv_at hl 0 rfl) ?_
      refine mc_callvX hG (mc_runV (As := [.int x1, .int r28]) (rest := []) E hG (c_X10_layCentre l G σ cu X Fa h0 x1 r28 t0 (by omega) (by omega) (by omega) (by omega) t (hT) hI hA (by omega) (by omega) (by omega)) t0 rfl kv_X10_layCentre ml_X10_296 ⟨rfl, rfl, Nat.le_of_ble_eq_true rfl, Nat.le_of_ble_eq_true rfl⟩ rfl hl.1 rfl (Nat.le_of_ble_eq_true rfl) ⟨Nat.zero_le _, Nat.zero_le _⟩ dX10_stepsOn_121) (fun Z H locs eZ pZ hG => ?_)
      obtain ⟨F49, rfl, pF49⟩ := pZ
      clear eZ
      refine lv_goto (tgt := 158) hx hb dX10_stepsOn_124 (by decide) ?_
      exact mc_vretX E hr hlk hG rfl ⟨_, rfl, pF49⟩ dX10_stepsOn_158
    · refine lv_tableIn (off := 102) (tgt := 127) hx hb dX10_stepsOn_25 (by rw [k33]; decide) (by rw [k33]; decide) (by rw [k33]; rfl) (by decide) ?_
      refine lv_aload_n hx hb dX10_stepsOn_127 rfl (lv_at hl 1 rfl) ?_
      refine lv_iload_n hx hb dX10_stepsOn_128 rfl (lv_at hl 2 rfl) ?_
      refine lv_iload_n hx hb dX10_stepsOn_129 rfl (lv_at hl 0 rfl) ?_
      refine mc_callvX hG (mc_runV (As := [.int x1, .int r28]) (rest := []) E hG (c_X10_layFit l G σ cu X Fa h0 x1 r28 t0 (by omega) (by omega) (by omega) (by omega) t (hT) hI hA (by omega) (by omega) (by omega)) t0 rfl kv_X10_layFit ml_X10_299 ⟨rfl, rfl, Nat.le_of_ble_eq_true rfl, Nat.le_of_ble_eq_true rfl⟩ rfl hl.1 rfl (Nat.le_of_ble_eq_true rfl) ⟨Nat.zero_le _, Nat.zero_le _⟩ dX10_stepsOn_130) (fun Z H locs eZ pZ hG => ?_)
      obtain ⟨F51, rfl, pF51⟩ := pZ
      clear eZ
      refine lv_goto (tgt := 158) hx hb dX10_stepsOn_133 (by decide) ?_
      exact mc_vretX E hr hlk hG rfl ⟨_, rfl, pF51⟩ dX10_stepsOn_158
    · refine lv_tableIn (off := 111) (tgt := 136) hx hb dX10_stepsOn_25 (by rw [k33]; decide) (by rw [k33]; decide) (by rw [k33]; rfl) (by decide) ?_
      have h6 := hI.2.2.2.2.2.2.2.1 x1.toInt (by omega) (by omega) (by omega)
      refine lv_aload_n hx hb dX10_stepsOn_136 rfl (lv_at hl 1 rfl) ?_
      refine lv_iload_n hx hb dX10_stepsOn_137 rfl (lv_at hl 2 rfl) ?_
      refine lv_iload_n hx hb dX10_stepsOn_138 rfl (lv_at hl 0 rfl) ?_
      refine mc_callvX hG (mc_runV (As := [.int x1, .int r28]) (rest := []) E hG (c_X10_layRatio l G σ cu X Fa h0 x1 r28 t0 (by omega) (by omega) (by omega) (by omega) t (hT) hI hA (by omega) (by omega) (by omega) (by omega)) t0 rfl kv_X10_layRatio ml_X10_302 ⟨rfl, rfl, Nat.le_of_ble_eq_true rfl, Nat.le_of_ble_eq_true rfl⟩ rfl hl.1 rfl (Nat.le_of_ble_eq_true rfl) ⟨Nat.zero_le _, Nat.zero_le _⟩ dX10_stepsOn_139) (fun Z H locs eZ pZ hG => ?_)
      obtain ⟨F53, rfl, pF53⟩ := pZ
      clear eZ
      refine lv_goto (tgt := 158) hx hb dX10_stepsOn_142 (by decide) ?_
      exact mc_vretX E hr hlk hG rfl ⟨_, rfl, pF53⟩ dX10_stepsOn_158
    · refine lv_tableIn (off := 120) (tgt := 145) hx hb dX10_stepsOn_25 (by rw [k33]; decide) (by rw [k33]; decide) (by rw [k33]; rfl) (by decide) ?_
      refine lv_aload_n hx hb dX10_stepsOn_145 rfl (lv_at hl 1 rfl) ?_
      refine lv_iload_n hx hb dX10_stepsOn_146 rfl (lv_at hl 2 rfl) ?_
      refine mc_callvX hG (mc_runV (As := [.int x1]) (rest := []) E hG (c_X10_layLayers l G σ cu X Fa h0 x1 t0 (by omega) (by omega) t (hT) hI hA (by omega) (by omega)) t0 rfl kv_X10_layLayers ml_X10_305 ⟨rfl, rfl, Nat.le_of_ble_eq_true rfl, Nat.le_of_ble_eq_true rfl⟩ rfl hl.1 rfl (Nat.le_of_ble_eq_true rfl) ⟨Nat.zero_le _, Nat.zero_le _⟩ dX10_stepsOn_147) (fun Z H locs eZ pZ hG => ?_)
      obtain ⟨F55, rfl, pF55⟩ := pZ
      clear eZ
      refine lv_goto (tgt := 158) hx hb dX10_stepsOn_150 (by decide) ?_
      exact mc_vretX E hr hlk hG rfl ⟨_, rfl, pF55⟩ dX10_stepsOn_158

set_option maxHeartbeats 4000000 in
set_option maxRecDepth 100000 in
theorem c_X10_layOut (l : Launch) (G : tG) (σ : Nat → Nat) (cu : Nat) (a : Nat → Option (Nat → Int32)) (ta : Nat → Int32) (h0 : Nat) (t0 : σ h0 = 1) (hIa : TInv ta) : Met l yX10_layOut (.code yX10_layOut cX10_layOut 2 none :: tWS) (tRm 8 187) (va_Pc [.ref h0] (mPre G (σ, cu, qX (upA a cu ta)))) (mQvX G (σ, cu, qX (upA a cu ta)) (fun Z => ∃ t : Nat → Int32, Z = (σ, cu, qX (upA a cu t)) ∧ AG ta t ∧ TInv t)) 0 0 (mA (σ, cu, qX (upA a cu ta))) := by
  refine mc_met (by decide) (Nat.le_of_ble_eq_true rfl) ?_
  intro p e s m below meth c E hr hlk hG ls hl
  have hl : lv_has ls 2 [(0, .ref h0)] := hl
  have hx := E.1
  have hb := E.2.1
  obtain ⟨H, eH⟩ : ∃ H, H = s.heap := ⟨_, rfl⟩
  obtain ⟨locs, eL⟩ : ∃ x : List Loc, x = [] := ⟨_, rfl⟩
  have hG : mGH G (σ, cu, qX (upA a cu ta)) s H locs := by rw [eH, eL]; exact hG
  suffices hW : W p l e (tRm 8 187) s m ([.ref h0] : List Value).toArray below meth c H locs 0 0 (MQ below (mQvX G (σ, cu, qX (upA a cu ta)) (fun Z => ∃ t : Nat → Int32, Z = (σ, cu, qX (upA a cu t)) ∧ AG ta t ∧ TInv t)) ([.ref h0] : List Value).toArray s 0 0 (mA (σ, cu, qX (upA a cu ta)))) (F0 m 0 ls []) by subst eH; subst eL; exact hW
  clear eH eL
  obtain ⟨Fa, hG⟩ := mGain hG
  have hG : mGH G (σ, cu, kO PC (qX (upA a cu ta)) Fa) s H locs := hG PC
  have hcu : mCu cu := hG.2.2.1
  have hI := hIa
  have J20 : ∀ (n20 : Nat) (t : Nat → Int32) (F : mF) (H : Heap) (locs : List Loc) (ls : Array Slot) (v1 : Int32), mGH G (σ, cu, kO PC (qX (upA a cu t)) F) s H locs → lv_has ls 2 [(0, .ref h0), (1, .int v1)] → -1 ≤ v1.toInt → v1.toInt ≤ 23 → (TInv t ∧ AG ta t ∧ (v1.toInt = -1 ∨ (0 ≤ v1.toInt ∧ v1.toInt ≤ 23 ∧ K t v1.toInt 0 = 1 ∧ K t v1.toInt 20 = 1))) → nL t < n20 → W p l e (tRm 8 187) s m ([.ref h0] : List Value).toArray below meth c H locs 0 0 (MQ below (mQvX G (σ, cu, qX (upA a cu ta)) (fun Z => ∃ t : Nat → Int32, Z = (σ, cu, qX (upA a cu t)) ∧ AG ta t ∧ TInv t)) ([.ref h0] : List Value).toArray s 0 0 (mA (σ, cu, qX (upA a cu ta)))) (F0 m 20 ls []) := by
    intro n20
    induction n20 with
    | zero => intro t F H locs ls v1 hG hl b1 c1 hex20 hn20; exact absurd hn20 (Nat.not_lt_zero _)
    | succ n20 ih20 =>
      intro t F H locs ls v1 hG hl b1 c1 hex20 hn20
      have J113 : ∀ (n113 : Nat) (t : Nat → Int32) (F : mF) (H : Heap) (locs : List Loc) (ls : Array Slot), mGH G (σ, cu, kO PC (qX (upA a cu t)) F) s H locs → lv_has ls 2 [(0, .ref h0)] → nL t < n20 + 1 → (TInv t ∧ AG ta t ∧ LI F ∧ nL t < n20) → LM F < n113 → W p l e (tRm 8 187) s m ([.ref h0] : List Value).toArray below meth c H locs 0 0 (MQ below (mQvX G (σ, cu, qX (upA a cu ta)) (fun Z => ∃ t : Nat → Int32, Z = (σ, cu, qX (upA a cu t)) ∧ AG ta t ∧ TInv t)) ([.ref h0] : List Value).toArray s 0 0 (mA (σ, cu, qX (upA a cu ta)))) (F0 m 113 ls []) := by
        intro n113
        induction n113 with
        | zero => intro t F H locs ls hG hl hm20 hex113 hn113; exact absurd hn113 (Nat.not_lt_zero _)
        | succ n113 ih113 =>
          intro t F H locs ls hG hl hm20 hex113 hn113
          have hI := hex113.1
          refine lv_aload_n hx hb dX10_layOut_113 rfl (lv_at hl 0 rfl) ?_
          refine mc_geti E hG t0 mi_221 dX10_layOut_114 (fun z1 lz1 uz1 qz1 => ?_)
          have wz1 := kq qz1 (PC_d)
          refine lv_if_le (tgt := 138) hx hb dX10_layOut_117 (by decide) (fun c2 => ?_) (fun c2 => ?_)
          · skip
            have ic2 := tn_le rfl kI_0 c2
            refine lv_aload_n hx hb dX10_layOut_138 rfl (lv_at hl 0 rfl) ?_
            refine tc_callp (mc_runV (As := []) (rest := []) E hG (c_X10_nextListed l G (σ, cu, kO PC (qX (upA a cu t)) F) h0 t0 t (kO_TI (PC_tr hcu) (qX_TI hcu upA_at)) hI) t0 rfl kv_X10_nextListed ml_X10_311 ⟨rfl, rfl, Nat.le_of_ble_eq_true rfl, Nat.le_of_ble_eq_true rfl⟩ rfl hl.1 rfl (Nat.le_of_ble_eq_true rfl) ⟨Nat.zero_le _, Nat.zero_le _⟩ dX10_layOut_139) (fun r3 pr3 => ?_)
            replace pr3 : r3.toInt = -1 ∨ (0 ≤ r3.toInt ∧ r3.toInt ≤ 23 ∧ K t r3.toInt 0 = 1 ∧ K t r3.toInt 20 = 1) := pr3
            refine lv_istore_n (lv' := [(1, .int r3), (0, .ref h0)]) hx hb dX10_layOut_142 rfl hl (by decide) rfl (fun ls hl => ?_)
            refine lv_goto (tgt := 20) hx hb dX10_layOut_143 (by decide) ?_
            have hQ : TInv t ∧ AG ta t ∧ (r3.toInt = -1 ∨ (0 ≤ r3.toInt ∧ r3.toInt ≤ 23 ∧ K t r3.toInt 0 = 1 ∧ K t r3.toInt 20 = 1)) := ⟨hI, hex113.2.1, pr3⟩
            have hnl := hex113.2.2.2
            exact ih20 t F H locs ls r3 hG (lv_sub hl [1, 0] rfl) (by omega) (by omega) (by exact hQ) (by omega)
          · skip
            have ic2 := tn_nle rfl kI_0 c2
            refine lv_aload_n hx hb dX10_layOut_120 rfl (lv_at hl 0 rfl) ?_
            refine lv_aload_n hx hb dX10_layOut_121 rfl (lv_at hl 0 rfl) ?_
            refine mc_getr E hG t0 mr_39 dX10_layOut_122 (fun oa4 hoa4 => ?_)
            refine lv_aload_n hx hb dX10_layOut_125 rfl (lv_at hl 0 rfl) ?_
            refine mc_geti E hG t0 mi_221 dX10_layOut_126 (fun z5 lz5 uz5 qz5 => ?_)
            have wz5 := kq qz5 (PC_d)
            have hdd : z5.toInt = z1.toInt := by rw [wz5, wz1]
            refine lv_iconst (v := 1) hx hb dX10_layOut_129 (by decide) ?_
            refine lv_isub hx hb dX10_layOut_130 ?_
            refine lv_topi (fun z6 ez6 => ?_)
            have tz6 := tn_sub ez6 rfl kI_1 (by omega) (by omega)
            refine mc_iald E hG hoa4 ma_10 (t_in (by omega) (by omega)) dX10_layOut_131 (fun z7 lz7 uz7 qz7 => ?_)
            have wz7 := kq qz7 (PC_10)
            have hd9 : 1 ≤ (F 1 18).toInt := by rw [← wz1]; omega
            have hd8 := hex113.2.2.1.2.1.le
            refine mc_callvX hG (mc_runV (As := [.int z7]) (rest := []) E hG (c_X10_stepsOn l G σ cu (qX (upA a cu t)) F h0 z7 t0 (by omega) (by omega) t (qX_TI hcu upA_at) hI (qX_AV hcu) (by omega) (by omega)) t0 rfl kv_X10_stepsOn ml_X10_315 ⟨rfl, rfl, Nat.le_of_ble_eq_true rfl, Nat.le_of_ble_eq_true rfl⟩ rfl hl.1 rfl (Nat.le_of_ble_eq_true rfl) ⟨Nat.zero_le _, Nat.zero_le _⟩ dX10_layOut_132) (fun Z H locs eZ pZ hG => ?_)
            obtain ⟨F9, rfl, pF9⟩ := pZ
            clear eZ
            refine lv_goto (tgt := 113) hx hb dX10_layOut_135 (by decide) ?_
            have hi9 : ((z6.toNatClampNeg : Nat) : Int) = (F 1 18).toInt - 1 := by show ((z6.toInt.toNat : Nat) : Int) = _; rw [← wz5]; omega
            have hP := LI_step hex113.2.2.1 (by rw [← wz1]; omega) hi9 wz7 pF9
            have hP2 := hP.2
            have hQ : TInv t ∧ AG ta t ∧ LI F9 ∧ nL t < n20 := ⟨hI, hex113.2.1, hP.1, hex113.2.2.2⟩
            exact ih113 t F9 H locs ls hG (lv_sub hl [0] rfl) (by omega) (by exact hQ) (by omega)
      have hI := hex20.1
      refine lv_iload_n hx hb dX10_layOut_20 rfl (lv_at hl 1 rfl) ?_
      refine lv_if_lt (tgt := 146) hx hb dX10_layOut_21 (by decide) (fun c10 => ?_) (fun c10 => ?_)
      · skip
        have ic10 := tn_lt rfl kI_0 c10
        have hG := kO_drop PC_qn hG
        exact mc_vretX E hr hlk hG rfl ⟨_, rfl, hex20.2.1, hI⟩ dX10_layOut_146
      · skip
        have ic10 := tn_nlt rfl kI_0 c10
        refine lv_aload_n hx hb dX10_layOut_24 rfl (lv_at hl 0 rfl) ?_
        refine lv_iload_n hx hb dX10_layOut_25 rfl (lv_at hl 1 rfl) ?_
        refine lv_bipush (v := 20) hx hb dX10_layOut_26 (by decide) ?_
        refine lv_iconst (v := 0) hx hb dX10_layOut_28 (by decide) ?_
        have k11 := kI_0
        refine mc_callvX hG (mc_runV (As := [.int v1, .int 20, .int 0]) (rest := []) E hG (c_X10_putX l G (σ, cu, kO PC (qX (upA a cu t)) F) h0 v1 (20 : Int32) (0 : Int32) t0 (by omega) (by omega) (by decide) (by decide) (0) (1) rfl (by omega) (by omega)) t0 rfl kv_X10_put ml_X10_102 ⟨rfl, rfl, Nat.le_of_ble_eq_true rfl, Nat.le_of_ble_eq_true rfl⟩ rfl hl.1 rfl (Nat.le_of_ble_eq_true rfl) ⟨Nat.zero_le _, Nat.zero_le _⟩ dX10_layOut_29) (fun Z H locs eZ pZ hG => ?_)
        rw [pZ] at hG
        clear eZ pZ Z
        rw [show (20 : Int32).toInt = 20 from kI_20] at hG
        have hG := qk_set hcu (PC_cu hcu _) (tr_y (by omega) (by omega) (by decide) (by decide)) hG
        obtain ⟨t12, et12⟩ : ∃ Z : Nat → Int32, Z = upN t (ix v1.toInt 20) (0 : Int32) := ⟨_, rfl⟩
        rw [← et12] at hG
        have hAG : AG t t12 := by rw [et12]; exact AG.put (by omega) (by decide) (by decide)
        have hAG := hex20.2.1.trans hAG
        have hI := TInv_AG hAG hIa
        have hnl := nL_lt (v := (0 : Int32)) (by omega) (by omega) (by omega) et12 (by decide)
        refine lv_aload_n hx hb dX10_layOut_32 rfl (lv_at hl 0 rfl) ?_
        refine lv_iload_n hx hb dX10_layOut_33 rfl (lv_at hl 1 rfl) ?_
        refine lv_bipush (v := 19) hx hb dX10_layOut_34 (by decide) ?_
        refine tc_callp (mc_runV (As := [.int v1, .int 19]) (rest := []) E hG (c_X10_get l G (σ, cu, kO PC (qX (upA a cu t12)) F) h0 v1 (19 : Int32) t0 (by omega) (by omega) (by decide) (by decide)) t0 rfl kv_X10_get ml_X10_91 ⟨rfl, rfl, Nat.le_of_ble_eq_true rfl, Nat.le_of_ble_eq_true rfl⟩ rfl hl.1 rfl (Nat.le_of_ble_eq_true rfl) ⟨Nat.zero_le _, Nat.zero_le _⟩ dX10_layOut_36) (fun r13 pr13 => ?_)
        replace pr13 : mV (σ, cu, kO PC (qX (upA a cu t12)) F) (ix v1.toInt (19 : Int32).toInt) r13 := pr13
        have pr13 := mV_l pr13 kI_19
        have br13 := mV_19 pr13 (by omega)
        have k14 := kI_19
        refine lv_iconst (v := 1) hx hb dX10_layOut_39 (by decide) ?_
        refine lv_icmp_ne (tgt := 138) hx hb dX10_layOut_40 (by decide) (fun c15 => ?_) (fun c15 => ?_)
        · skip
          have ic15 := tn_ne rfl kI_1 c15
          refine lv_aload_n hx hb dX10_layOut_138 rfl (lv_at hl 0 rfl) ?_
          refine tc_callp (mc_runV (As := []) (rest := []) E hG (c_X10_nextListed l G (σ, cu, kO PC (qX (upA a cu t12)) F) h0 t0 t12 (kO_TI (PC_tr hcu) (qX_TI hcu upA_at)) hI) t0 rfl kv_X10_nextListed ml_X10_311 ⟨rfl, rfl, Nat.le_of_ble_eq_true rfl, Nat.le_of_ble_eq_true rfl⟩ rfl hl.1 rfl (Nat.le_of_ble_eq_true rfl) ⟨Nat.zero_le _, Nat.zero_le _⟩ dX10_layOut_139) (fun r16 pr16 => ?_)
          replace pr16 : r16.toInt = -1 ∨ (0 ≤ r16.toInt ∧ r16.toInt ≤ 23 ∧ K t12 r16.toInt 0 = 1 ∧ K t12 r16.toInt 20 = 1) := pr16
          refine lv_istore_n (lv' := [(1, .int r16), (0, .ref h0)]) hx hb dX10_layOut_142 rfl hl (by decide) rfl (fun ls hl => ?_)
          refine lv_goto (tgt := 20) hx hb dX10_layOut_143 (by decide) ?_
          have hQ : TInv t12 ∧ AG ta t12 ∧ (r16.toInt = -1 ∨ (0 ≤ r16.toInt ∧ r16.toInt ≤ 23 ∧ K t12 r16.toInt 0 = 1 ∧ K t12 r16.toInt 20 = 1)) := ⟨hI, hAG, pr16⟩
          exact ih20 t12 F H locs ls r16 hG (lv_sub hl [1, 0] rfl) (by omega) (by omega) (by exact hQ) (by omega)
        · skip
          have ic15 := tn_eq rfl kI_1 c15
          refine lv_aload_n hx hb dX10_layOut_43 rfl (lv_at hl 0 rfl) ?_
          refine lv_iconst (v := 0) hx hb dX10_layOut_44 (by decide) ?_
          refine mc_putX E hG t0 mp_221 (by decide) (by decide) rfl rfl dX10_layOut_45 (fun H locs hG => ?_)
          have hG := kO_set (PC_d) hG
          obtain ⟨F17, eF17⟩ : ∃ Z : mF, Z = up2 F 1 18 (0 : Int32) := ⟨_, rfl⟩
          rw [← eF17] at hG
          refine lv_iload_n hx hb dX10_layOut_48 rfl (lv_at hl 1 rfl) ?_
          refine lv_aload_n hx hb dX10_layOut_49 rfl (lv_at hl 0 rfl) ?_
          refine mc_getn E hG t0 ff_X10_9 dX10_layOut_50 (fun oa18 hoa18 => ?_)
          refine lv_iconst (v := 0) hx hb dX10_layOut_53 (by decide) ?_
          refine mc_nald E hG hoa18 hG.2.2.1 (t_in (by decide) (by decide)) dX10_layOut_54 (fun z19 lz19 uz19 qz19 => ?_)
          have lz19 : -1 ≤ z19.toInt := lz19
          have uz19 : z19.toInt ≤ 23 := uz19
          refine lv_icmp_ne (tgt := 80) hx hb dX10_layOut_55 (by decide) (fun c20 => ?_) (fun c20 => ?_)
          · skip
            have ic20 := tn_ne rfl rfl c20
            refine lv_aload_n hx hb dX10_layOut_80 rfl (lv_at hl 0 rfl) ?_
            refine lv_iload_n hx hb dX10_layOut_81 rfl (lv_at hl 1 rfl) ?_
            refine lv_aload_n hx hb dX10_layOut_82 rfl (lv_at hl 0 rfl) ?_
            refine lv_iload_n hx hb dX10_layOut_83 rfl (lv_at hl 1 rfl) ?_
            refine lv_bipush (v := 26) hx hb dX10_layOut_84 (by decide) ?_
            refine tc_callp (mc_runV (As := [.int v1, .int 26]) (rest := [.int v1, .ref h0]) E hG (c_X10_get l G (σ, cu, kO PC (qX (upA a cu t12)) F17) h0 v1 (26 : Int32) t0 (by omega) (by omega) (by decide) (by decide)) t0 rfl kv_X10_get ml_X10_91 ⟨rfl, rfl, Nat.le_of_ble_eq_true rfl, Nat.le_of_ble_eq_true rfl⟩ rfl hl.1 rfl (Nat.le_of_ble_eq_true rfl) ⟨Nat.zero_le _, Nat.zero_le _⟩ dX10_layOut_86) (fun r21 pr21 => ?_)
            replace pr21 : mV (σ, cu, kO PC (qX (upA a cu t12)) F17) (ix v1.toInt (26 : Int32).toInt) r21 := pr21
            have pr21 := mV_l pr21 kI_26
            have br21 := mV_26 pr21 (by omega)
            have k22 := kI_26
            refine lv_aload_n hx hb dX10_layOut_89 rfl (lv_at hl 0 rfl) ?_
            refine lv_iload_n hx hb dX10_layOut_90 rfl (lv_at hl 1 rfl) ?_
            refine lv_bipush (v := 27) hx hb dX10_layOut_91 (by decide) ?_
            refine tc_callp (mc_runV (As := [.int v1, .int 27]) (rest := [.int r21, .int v1, .ref h0]) E hG (c_X10_get l G (σ, cu, kO PC (qX (upA a cu t12)) F17) h0 v1 (27 : Int32) t0 (by omega) (by omega) (by decide) (by decide)) t0 rfl kv_X10_get ml_X10_91 ⟨rfl, rfl, Nat.le_of_ble_eq_true rfl, Nat.le_of_ble_eq_true rfl⟩ rfl hl.1 rfl (Nat.le_of_ble_eq_true rfl) ⟨Nat.zero_le _, Nat.zero_le _⟩ dX10_layOut_93) (fun r23 pr23 => ?_)
            replace pr23 : mV (σ, cu, kO PC (qX (upA a cu t12)) F17) (ix v1.toInt (27 : Int32).toInt) r23 := pr23
            have pr23 := mV_l pr23 kI_27
            have br23 := mV_27 pr23 (by omega)
            have k24 := kI_27
            refine lv_aload_n hx hb dX10_layOut_96 rfl (lv_at hl 0 rfl) ?_
            refine lv_iload_n hx hb dX10_layOut_97 rfl (lv_at hl 1 rfl) ?_
            refine lv_bipush (v := 28) hx hb dX10_layOut_98 (by decide) ?_
            refine tc_callp (mc_runV (As := [.int v1, .int 28]) (rest := [.int r23, .int r21, .int v1, .ref h0]) E hG (c_X10_get l G (σ, cu, kO PC (qX (upA a cu t12)) F17) h0 v1 (28 : Int32) t0 (by omega) (by omega) (by decide) (by decide)) t0 rfl kv_X10_get ml_X10_91 ⟨rfl, rfl, Nat.le_of_ble_eq_true rfl, Nat.le_of_ble_eq_true rfl⟩ rfl hl.1 rfl (Nat.le_of_ble_eq_true rfl) ⟨Nat.zero_le _, Nat.zero_le _⟩ dX10_layOut_100) (fun r25 pr25 => ?_)
            replace pr25 : mV (σ, cu, kO PC (qX (upA a cu t12)) F17) (ix v1.toInt (28 : Int32).toInt) r25 := pr25
            have pr25 := mV_l pr25 kI_28
            have br25 := mV_28 pr25 (by omega)
            have k26 := kI_28
            refine lv_aload_n hx hb dX10_layOut_103 rfl (lv_at hl 0 rfl) ?_
            refine lv_iload_n hx hb dX10_layOut_104 rfl (lv_at hl 1 rfl) ?_
            refine lv_bipush (v := 29) hx hb dX10_layOut_105 (by decide) ?_
            refine tc_callp (mc_runV (As := [.int v1, .int 29]) (rest := [.int r25, .int r23, .int r21, .int v1, .ref h0]) E hG (c_X10_get l G (σ, cu, kO PC (qX (upA a cu t12)) F17) h0 v1 (29 : Int32) t0 (by omega) (by omega) (by decide) (by decide)) t0 rfl kv_X10_get ml_X10_91 ⟨rfl, rfl, Nat.le_of_ble_eq_true rfl, Nat.le_of_ble_eq_true rfl⟩ rfl hl.1 rfl (Nat.le_of_ble_eq_true rfl) ⟨Nat.zero_le _, Nat.zero_le _⟩ dX10_layOut_107) (fun r27 pr27 => ?_)
            replace pr27 : mV (σ, cu, kO PC (qX (upA a cu t12)) F17) (ix v1.toInt (29 : Int32).toInt) r27 := pr27
            have pr27 := mV_l pr27 kI_29
            have br27 := mV_29 pr27 (by omega)
            have k28 := kI_29
            refine mc_callvX hG (mc_runV (As := [.int v1, .int r21, .int r23, .int r25, .int r27]) (rest := []) E hG (c_X10_lay l G σ cu (qX (upA a cu t12)) F17 h0 v1 r21 r23 r25 r27 t0 (by omega) (by omega) (by omega) (by omega) (by omega) (by omega) (by omega) (by omega) (by omega) (by omega) (qX_AV hcu) (by rw [eF17, up2_at]; decide)) t0 rfl kv_X10_lay ml_X10_236 ⟨rfl, rfl, Nat.le_of_ble_eq_true rfl, Nat.le_of_ble_eq_true rfl⟩ rfl hl.1 rfl (Nat.le_of_ble_eq_true rfl) ⟨Nat.zero_le _, Nat.zero_le _⟩ dX10_layOut_110) (fun Z H locs eZ pZ hG => ?_)
            obtain ⟨F30, rfl, pF30⟩ := pZ
            clear eZ
            have hQ : TInv t12 ∧ AG ta t12 ∧ LI F30 ∧ nL t12 < n20 := ⟨hI, hAG, LI_ly (F := F17) (by rw [eF17, up2_at]; decide) pF30 (by omega) (by omega), by omega⟩
            exact J113 (LM F30 + 1) t12 F30 H locs ls hG (lv_sub hl [0] rfl) (by omega) (by exact hQ) (Nat.lt_succ_self _)
          · skip
            have ic20 := tn_eq rfl rfl c20
            refine lv_aload_n hx hb dX10_layOut_58 rfl (lv_at hl 0 rfl) ?_
            refine lv_iload_n hx hb dX10_layOut_59 rfl (lv_at hl 1 rfl) ?_
            refine lv_iconst (v := 0) hx hb dX10_layOut_60 (by decide) ?_
            refine lv_aload_n hx hb dX10_layOut_61 rfl (lv_at hl 0 rfl) ?_
            refine mc_getn E hG t0 ff_X10_9 dX10_layOut_62 (fun oa31 hoa31 => ?_)
            refine lv_iconst (v := 1) hx hb dX10_layOut_65 (by decide) ?_
            refine mc_nald E hG hoa31 hG.2.2.1 (t_in (by decide) (by decide)) dX10_layOut_66 (fun z32 lz32 uz32 qz32 => ?_)
            have lz32 : 0 ≤ z32.toInt := lz32
            have uz32 : z32.toInt ≤ 200 := uz32
            refine lv_iconst (v := 0) hx hb dX10_layOut_67 (by decide) ?_
            refine lv_aload_n hx hb dX10_layOut_68 rfl (lv_at hl 0 rfl) ?_
            refine mc_getn E hG t0 ff_X10_9 dX10_layOut_69 (fun oa33 hoa33 => ?_)
            refine lv_iconst (v := 2) hx hb dX10_layOut_72 (by decide) ?_
            refine mc_nald E hG hoa33 hG.2.2.1 (t_in (by decide) (by decide)) dX10_layOut_73 (fun z34 lz34 uz34 qz34 => ?_)
            have lz34 : 0 ≤ z34.toInt := lz34
            have uz34 : z34.toInt ≤ 1000 := uz34
            refine mc_callvX hG (mc_runV (As := [.int v1, .int 0, .int z32, .int 0, .int z34]) (rest := []) E hG (c_X10_lay l G σ cu (qX (upA a cu t12)) F17 h0 v1 (0 : Int32) z32 (0 : Int32) z34 t0 (by omega) (by omega) (by decide) (by decide) (by omega) (by omega) (by decide) (by decide) (by omega) (by omega) (qX_AV hcu) (by rw [eF17, up2_at]; decide)) t0 rfl kv_X10_lay ml_X10_236 ⟨rfl, rfl, Nat.le_of_ble_eq_true rfl, Nat.le_of_ble_eq_true rfl⟩ rfl hl.1 rfl (Nat.le_of_ble_eq_true rfl) ⟨Nat.zero_le _, Nat.zero_le _⟩ dX10_layOut_74) (fun Z H locs eZ pZ hG => ?_)
            obtain ⟨F36, rfl, pF36⟩ := pZ
            clear eZ
            refine lv_goto (tgt := 113) hx hb dX10_layOut_77 (by decide) ?_
            have hQ : TInv t12 ∧ AG ta t12 ∧ LI F36 ∧ nL t12 < n20 := ⟨hI, hAG, LI_ly (F := F17) (by rw [eF17, up2_at]; decide) pF36 (by omega) (by omega), by omega⟩
            exact J113 (LM F36 + 1) t12 F36 H locs ls hG (lv_sub hl [0] rfl) (by omega) (by exact hQ) (Nat.lt_succ_self _)
  refine lv_aload_n hx hb dX10_layOut_0 rfl (lv_at hl 0 rfl) ?_
  refine lv_iconst (v := 0) hx hb dX10_layOut_1 (by decide) ?_
  refine mc_put E hG t0 mp_215 ((PC_AV (qX_AV hcu) hcu).2.1 _ (by decide)) (t_any1 _) (t_any2 _) rfl rfl dX10_layOut_2 (fun H locs hG => ?_)
  refine lv_aload_n hx hb dX10_layOut_5 rfl (lv_at hl 0 rfl) ?_
  refine lv_iconst (v := 0) hx hb dX10_layOut_6 (by decide) ?_
  refine mc_put E hG t0 mp_212 ((PC_AV (qX_AV hcu) hcu).2.1 _ (by decide)) (t_any1 _) (t_any2 _) rfl rfl dX10_layOut_7 (fun H locs hG => ?_)
  refine lv_aload_n hx hb dX10_layOut_10 rfl (lv_at hl 0 rfl) ?_
  refine lv_iconst (v := 0) hx hb dX10_layOut_11 (by decide) ?_
  refine mc_put E hG t0 mp_218 ((PC_AV (qX_AV hcu) hcu).2.1 _ (by decide)) (t_any1 _) (t_any2 _) rfl rfl dX10_layOut_12 (fun H locs hG => ?_)
  refine lv_aload_n hx hb dX10_layOut_15 rfl (lv_at hl 0 rfl) ?_
  refine tc_callp (mc_runV (As := []) (rest := []) E hG (c_X10_nextListed l G (σ, cu, kO PC (qX (upA a cu ta)) Fa) h0 t0 ta (kO_TI (PC_tr hcu) (qX_TI hcu upA_at)) hI) t0 rfl kv_X10_nextListed ml_X10_311 ⟨rfl, rfl, Nat.le_of_ble_eq_true rfl, Nat.le_of_ble_eq_true rfl⟩ rfl hl.1 rfl (Nat.le_of_ble_eq_true rfl) ⟨Nat.zero_le _, Nat.zero_le _⟩ dX10_layOut_16) (fun r37 pr37 => ?_)
  replace pr37 : r37.toInt = -1 ∨ (0 ≤ r37.toInt ∧ r37.toInt ≤ 23 ∧ K ta r37.toInt 0 = 1 ∧ K ta r37.toInt 20 = 1) := pr37
  refine lv_istore_n (lv' := [(1, .int r37), (0, .ref h0)]) hx hb dX10_layOut_19 rfl hl (by decide) rfl (fun ls hl => ?_)
  have hQ : TInv ta ∧ AG ta ta ∧ (r37.toInt = -1 ∨ (0 ≤ r37.toInt ∧ r37.toInt ≤ 23 ∧ K ta r37.toInt 0 = 1 ∧ K ta r37.toInt 20 = 1)) := ⟨hIa, AG.refl, pr37⟩
  exact J20 (nL ta + 1) ta Fa H locs ls r37 hG (lv_sub hl [1, 0] rfl) (by omega) (by omega) (by exact hQ) (Nat.lt_succ_self _)

