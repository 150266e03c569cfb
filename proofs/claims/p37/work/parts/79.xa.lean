/-! ===== the reference, exactly: reads ===== -/
set_option maxHeartbeats 4000000 in
set_option maxRecDepth 100000 in
theorem x_X10_reads (l : Launch) (G : tG) (σ : Nat → Nat) (cu : Nat) (a : Nat → Option (Nat → Int32)) (ta : Nat → Int32) (h0 : Nat) (x1 : Int32) (t0 : σ h0 = 1) (hIa : TInv ta) (h17 : a 17 = none) (h1 : a 1 = none) (hNM : NMS (FM G)) : Met l yX10_reads (.code yX10_reads cX10_reads 7 (some .int) :: tWS) (tRm 4 97) (va_Pc [.ref h0, .int x1] (mPre G (σ, cu, qX (upA a cu ta)))) (mQM G (σ, cu, qX (upA a cu ta)) (fun r Z W => ∃ t : Nat → Int32, Z = (σ, cu, qX (upA a cu t)) ∧ RDx G ta x1.toInt r t W ∧ TInv t)) 0 0 (mA (σ, cu, qX (upA a cu ta))) := by
  refine mc_met (by decide) (Nat.le_of_ble_eq_true rfl) ?_
  intro p e s m below meth c E hr hlk hG ls hl
  have hl : lv_has ls 7 [(0, .ref h0), (1, .int x1)] := hl
  have hx := E.1
  have hb := E.2.1
  obtain ⟨H, eH⟩ : ∃ H, H = s.heap := ⟨_, rfl⟩
  obtain ⟨locs, eL⟩ : ∃ x : List Loc, x = [] := ⟨_, rfl⟩
  have hG : mGH G (σ, cu, qX (upA a cu ta)) s H locs := by rw [eH, eL]; exact hG
  suffices hW : W p l e (tRm 4 97) s m ([.ref h0, .int x1] : List Value).toArray below meth c H locs 0 0 (MQ below (mQM G (σ, cu, qX (upA a cu ta)) (fun r Z W => ∃ t : Nat → Int32, Z = (σ, cu, qX (upA a cu t)) ∧ RDx G ta x1.toInt r t W ∧ TInv t)) ([.ref h0, .int x1] : List Value).toArray s 0 0 (mA (σ, cu, qX (upA a cu ta)))) (F0 m 0 ls []) by subst eH; subst eL; exact hW
  clear eH eL
  obtain ⟨G2, eG2⟩ : ∃ Z : tG, Z = kM G (up2 (FM G) 1 25 (0 : Int32)) := ⟨_, rfl⟩
  have E2 := E.fm (M := up2 (FM G) 1 25 (0 : Int32))
  rw [show kM G (up2 (FM G) 1 25 (0 : Int32)) = G2 from eG2.symm] at E2
  obtain ⟨Fa, hG, hFM⟩ := mGainM hG
  have hLG : LF Fa 15 = LF (FM G) 15 ∧ Fa 1 25 = FM G 1 25 := ⟨funext fun j => by unfold LF; rw [hFM 15 j rfl], hFM 1 25 rfl⟩
  have hLFa : LF Fa 15 = LF Fa 15 ∧ Fa 1 25 = Fa 1 25 := ⟨rfl, rfl⟩
  have hG : mGH G (σ, cu, kO PRd (qX (upA a cu ta)) Fa) s H locs := hG PRd
  have hcu : mCu cu := hG.2.2.1
  have hI := hIa
  have h17u : upA a cu ta 17 = none := by rw [upA_ne (by rcases hcu with e | e | e | e <;> subst e <;> decide)]; exact h17
  have h1u : upA a cu ta 1 = none := by rw [upA_ne (by rcases hcu with e | e | e | e <;> subst e <;> decide)]; exact h1
  have J109 : ∀ (n109 : Nat) (A : Nat → Option (Nat → Int32)) (t : Nat → Int32) (H : Heap) (locs : List Loc) (ls : Array Slot) (v3 : Int32) (v4 : Int32), mGH G2 (σ, cu, qX (upA A cu t)) s H locs → lv_has ls 7 [(0, .ref h0), (1, .int x1), (3, .int v3), (4, .int v4)] → -1 ≤ x1.toInt → x1.toInt ≤ 23 → 0 ≤ v3.toInt → v3.toInt ≤ 24 → 0 ≤ v4.toInt → v4.toInt ≤ 24 → (RE A t v3.toInt v4.toInt ∧ AX a A ∧ TInv t ∧ (1 ≤ v4.toInt ∨ ((x1.toInt = -1 ∧ (t 0).toInt < 0) ∨ (0 ≤ x1.toInt ∧ x1.toInt < (t 3).toInt ∧ K t x1.toInt 10 < 8))) ∧ (x1.toInt < v3.toInt ∧ v3.toInt = (ta 3).toInt ∧ PAl ta x1.toInt ∧ RMe ta x1.toInt) ∧ ∃ (Fz : mF) (nz : Nat), A 17 = some (Fz 17) ∧ A 1 = some (Fz 1) ∧ (Fz 1 30).toInt = nz ∧ RDok (LF (FM G) 15) (FM G 1 25).toInt (24 - (ta 3).toInt) (qK Fz) (qP Fz) (qS Fz) (qN Fz) nz ∧ PB (qP Fz) nz ∧ RQ ta Fz x1.toInt v3.toInt v4.toInt.toNat t) → (24 - v4.toInt).toNat < n109 → W p l e (tRm 4 97) s m ([.ref h0, .int x1] : List Value).toArray below meth c H locs 0 0 (MQ below (mQM G (σ, cu, qX (upA a cu ta)) (fun r Z W => ∃ t : Nat → Int32, Z = (σ, cu, qX (upA a cu t)) ∧ RDx G ta x1.toInt r t W ∧ TInv t)) ([.ref h0, .int x1] : List Value).toArray s 0 0 (mA (σ, cu, qX (upA a cu ta)))) (F0 m 109 ls []) := by
    intro n109
    induction n109 with
    | zero => intro A t H locs ls v3 v4 hG hl bp1 cp1 b3 c3 b4 c4 hex109 hn109; exact absurd hn109 (Nat.not_lt_zero _)
    | succ n109 ih109 =>
      intro A t H locs ls v3 v4 hG hl bp1 cp1 b3 c3 b4 c4 hex109 hn109
      have hI := hex109.2.2.1
      obtain ⟨F, f1, f2, f3, f4, f5, f6, f7⟩ := hex109.1
      have hcu17 : ¬ 17 = cu := by rcases hcu with e | e | e | e <;> subst e <;> decide
      have hcu1 : ¬ 1 = cu := by rcases hcu with e | e | e | e <;> subst e <;> decide
      have hI1 := hI.1
      obtain ⟨Fz, nz, dz1, dz2, dz3, dz4, dz5, dz6⟩ := hex109.2.2.2.2.2
      have zF : Fz 17 = F 17 := Option.some.inj (dz1.symm.trans f1)
      have zn : Fz 1 = F 1 := Option.some.inj (dz2.symm.trans f2)
      rw [zn] at dz3
      obtain ⟨y1, y2, y3, y4⟩ := q_17 zF
      obtain ⟨hxv, hv3, hPz, hRz⟩ := hex109.2.2.2.2.1
      refine lv_iload hx hb dX10_reads_109 (lv_at hl 3 rfl) ?_
      refine lv_aload_n hx hb dX10_reads_111 rfl (lv_at hl 0 rfl) ?_
      refine mc_geti E2 hG t0 mi_370 dX10_reads_112 (fun z1 lz1 uz1 qz1 => ?_)
      have hz30 : z1.toInt = (F 1 30).toInt := by rw [qz1 _ (qX_30 ((upA_ne hcu1).trans f2))]
      refine lv_icmp_ge (tgt := 221) hx hb dX10_reads_115 (by decide) (fun c2 => ?_) (fun c2 => ?_)
      · skip
        have ic2 := tn_le rfl rfl c2
        refine lv_aload_n hx hb dX10_reads_221 rfl (lv_at hl 0 rfl) ?_
        refine mc_geti E2 hG t0 mi_370 dX10_reads_222 (fun z3 lz3 uz3 qz3 => ?_)
        have hz9 : z3.toInt = (F 1 30).toInt := by rw [qz3 _ (qX_30 ((upA_ne hcu1).trans f2))]
        have hG := AX_end hcu h17 h1 hex109.2.1 hG
        subst eG2
        exact mc_kretM (G := G) (M := up2 (FM G) 1 25 0) (post := fun r Z W => ∃ t : Nat → Int32, Z = (σ, cu, qX (upA a cu t)) ∧ RDx G ta x1.toInt r t W ∧ TInv t) E2 hr hlk hG rfl rfl ⟨t, rfl, Or.inr (Or.inr ⟨hPz, hRz, rfl, Or.inr ⟨Fz, nz, dz4, dz5, by omega, by rw [show nz = v4.toInt.toNat by omega, show (ta 3).toInt = v3.toInt by omega]; exact dz6⟩⟩), hI⟩ dX10_reads_225
      · skip
        have ic2 := tn_nle rfl rfl c2
        refine lv_bipush (v := 8) hx hb dX10_reads_118 (by decide) ?_
        refine lv_iload hx hb dX10_reads_120 (lv_at hl 3 rfl) ?_
        refine lv_imul hx hb dX10_reads_122 ?_
        refine lv_topi (fun z4 ez4 => ?_)
        have tz4 := tn_mul ez4 kI_8 rfl (by omega) (by omega)
        refine lv_istore (lv' := [(5, .int z4), (0, .ref h0), (1, .int x1), (3, .int v3), (4, .int v4)]) hx hb dX10_reads_123 hl (by decide) rfl (fun ls hl => ?_)
        refine lv_aload_n hx hb dX10_reads_125 rfl (lv_at hl 1 rfl) ?_
        refine mc_getr E2 hG t0 mr_60 dX10_reads_126 (fun oa5 hoa5 => ?_)
        refine lv_iload hx hb dX10_reads_129 (lv_at hl 0 rfl) ?_
        refine lv_bipush (v := 6) hx hb dX10_reads_131 (by decide) ?_
        refine lv_iadd hx hb dX10_reads_133 ?_
        refine lv_topi (fun z6 ez6 => ?_)
        have tz6 := tn_add ez6 rfl kI_6 (by omega) (by omega)
        refine mc_rald E2 hG hoa5 (t_in (by omega) (by omega)) dX10_reads_134 (fun z7 lz7 uz7 qz7 => ?_)
        rw [rR_at (q := v4.toInt) (r := 6) (by omega) (by omega) (by omega) (by omega)] at lz7 uz7
        have lz7 : -1 ≤ z7.toInt := lz7
        have uz7 : z7.toInt ≤ 23 := uz7
        have wz7 : z7 = F 17 z6.toNatClampNeg := qz7 _ (qX_17 ((upA_ne hcu17).trans f1))
        rw [show z6.toNatClampNeg = 8 * v4.toInt.toNat + 6 by show z6.toInt.toNat = _; omega] at wz7
        refine lv_if_ge (tgt := 142) hx hb dX10_reads_135 (by decide) (fun c8 => ?_) (fun c8 => ?_)
        · skip
          have ic8 := tn_le kI_0 rfl c8
          have hRr := RE_r f3 (by omega) (by omega) f7 (by rw [← wz7]; omega)
          refine lv_iload_n hx hb dX10_reads_142 rfl (lv_at hl 3 rfl) ?_
          refine lv_aload_n hx hb dX10_reads_143 rfl (lv_at hl 1 rfl) ?_
          refine mc_getr E2 hG t0 mr_60 dX10_reads_144 (fun oa9 hoa9 => ?_)
          refine lv_iload hx hb dX10_reads_147 (lv_at hl 0 rfl) ?_
          refine lv_bipush (v := 6) hx hb dX10_reads_149 (by decide) ?_
          refine lv_iadd hx hb dX10_reads_151 ?_
          refine lv_topi (fun z10 ez10 => ?_)
          have tz10 := tn_add ez10 rfl kI_6 (by omega) (by omega)
          refine mc_rald E2 hG hoa9 (t_in (by omega) (by omega)) dX10_reads_152 (fun z11 lz11 uz11 qz11 => ?_)
          rw [rR_at (q := v4.toInt) (r := 6) (by omega) (by omega) (by omega) (by omega)] at lz11 uz11
          have lz11 : -1 ≤ z11.toInt := lz11
          have uz11 : z11.toInt ≤ 23 := uz11
          have wz11 : z11 = F 17 z10.toNatClampNeg := qz11 _ (qX_17 ((upA_ne hcu17).trans f1))
          rw [show z10.toNatClampNeg = 8 * v4.toInt.toNat + 6 by show z10.toInt.toNat = _; omega] at wz11
          refine lv_iadd hx hb dX10_reads_153 ?_
          refine lv_topi (fun z12 ez12 => ?_)
          have tz12 := tn_add ez12 rfl rfl (by omega) (by omega)
          refine lv_istore (lv' := [(6, .int z12), (5, .int z4), (0, .ref h0), (1, .int x1), (3, .int v3), (4, .int v4)]) hx hb dX10_reads_154 hl (by decide) rfl (fun ls hl => ?_)
          refine lv_aload_n hx hb dX10_reads_156 rfl (lv_at hl 2 rfl) ?_
          refine lv_aload_n hx hb dX10_reads_157 rfl (lv_at hl 2 rfl) ?_
          refine mc_getr E2 hG t0 mr_60 dX10_reads_158 (fun oa13 hoa13 => ?_)
          refine lv_iload hx hb dX10_reads_161 (lv_at hl 1 rfl) ?_
          refine mc_rald E2 hG hoa13 (t_in (by omega) (by omega)) dX10_reads_163 (fun z14 lz14 uz14 qz14 => ?_)
          rw [rR_at (q := v4.toInt) (r := 0) (by omega) (by omega) (by omega) (by omega)] at lz14 uz14
          have lz14 : 0 ≤ z14.toInt := lz14
          have uz14 : z14.toInt ≤ 9 := uz14
          have wz14 : z14 = F 17 z4.toNatClampNeg := qz14 _ (qX_17 ((upA_ne hcu17).trans f1))
          rw [show z4.toNatClampNeg = 8 * v4.toInt.toNat by show z4.toInt.toNat = _; omega] at wz14
          refine lv_iload hx hb dX10_reads_164 (lv_at hl 0 rfl) ?_
          refine lv_aload_n hx hb dX10_reads_166 rfl (lv_at hl 2 rfl) ?_
          refine mc_getr E2 hG t0 mr_60 dX10_reads_167 (fun oa15 hoa15 => ?_)
          refine lv_iload hx hb dX10_reads_170 (lv_at hl 1 rfl) ?_
          refine lv_iconst (v := 1) hx hb dX10_reads_172 (by decide) ?_
          refine lv_iadd hx hb dX10_reads_173 ?_
          refine lv_topi (fun z16 ez16 => ?_)
          have tz16 := tn_add ez16 rfl kI_1 (by omega) (by omega)
          refine mc_rald E2 hG hoa15 (t_in (by omega) (by omega)) dX10_reads_174 (fun z17 lz17 uz17 qz17 => ?_)
          rw [rR_at (q := v4.toInt) (r := 1) (by omega) (by omega) (by omega) (by omega)] at lz17 uz17
          have lz17 : 0 ≤ z17.toInt := lz17
          have uz17 : z17.toInt ≤ 99 := uz17
          have wz17 : z17 = F 17 z16.toNatClampNeg := qz17 _ (qX_17 ((upA_ne hcu17).trans f1))
          rw [show z16.toNatClampNeg = 8 * v4.toInt.toNat + 1 by show z16.toInt.toNat = _; omega] at wz17
          refine lv_aload_n hx hb dX10_reads_175 rfl (lv_at hl 2 rfl) ?_
          refine mc_getr E2 hG t0 mr_60 dX10_reads_176 (fun oa18 hoa18 => ?_)
          refine lv_iload hx hb dX10_reads_179 (lv_at hl 1 rfl) ?_
          refine lv_iconst (v := 2) hx hb dX10_reads_181 (by decide) ?_
          refine lv_iadd hx hb dX10_reads_182 ?_
          refine lv_topi (fun z19 ez19 => ?_)
          have tz19 := tn_add ez19 rfl kI_2 (by omega) (by omega)
          refine mc_rald E2 hG hoa18 (t_in (by omega) (by omega)) dX10_reads_183 (fun z20 lz20 uz20 qz20 => ?_)
          rw [rR_at (q := v4.toInt) (r := 2) (by omega) (by omega) (by omega) (by omega)] at lz20 uz20
          have lz20 : 0 ≤ z20.toInt := lz20
          have uz20 : z20.toInt ≤ 99 := uz20
          have wz20 : z20 = F 17 z19.toNatClampNeg := qz20 _ (qX_17 ((upA_ne hcu17).trans f1))
          rw [show z19.toNatClampNeg = 8 * v4.toInt.toNat + 2 by show z19.toInt.toNat = _; omega] at wz20
          refine lv_aload_n hx hb dX10_reads_184 rfl (lv_at hl 2 rfl) ?_
          refine mc_getr E2 hG t0 mr_60 dX10_reads_185 (fun oa21 hoa21 => ?_)
          refine lv_iload hx hb dX10_reads_188 (lv_at hl 1 rfl) ?_
          refine lv_iconst (v := 3) hx hb dX10_reads_190 (by decide) ?_
          refine lv_iadd hx hb dX10_reads_191 ?_
          refine lv_topi (fun z22 ez22 => ?_)
          have tz22 := tn_add ez22 rfl kI_3 (by omega) (by omega)
          refine mc_rald E2 hG hoa21 (t_in (by omega) (by omega)) dX10_reads_192 (fun z23 lz23 uz23 qz23 => ?_)
          rw [rR_at (q := v4.toInt) (r := 3) (by omega) (by omega) (by omega) (by omega)] at lz23 uz23
          have lz23 : 0 ≤ z23.toInt := lz23
          have uz23 : z23.toInt ≤ 99 := uz23
          have wz23 : z23 = F 17 z22.toNatClampNeg := qz23 _ (qX_17 ((upA_ne hcu17).trans f1))
          rw [show z22.toNatClampNeg = 8 * v4.toInt.toNat + 3 by show z22.toInt.toNat = _; omega] at wz23
          refine lv_aload_n hx hb dX10_reads_193 rfl (lv_at hl 2 rfl) ?_
          refine mc_getr E2 hG t0 mr_60 dX10_reads_194 (fun oa24 hoa24 => ?_)
          refine lv_iload hx hb dX10_reads_197 (lv_at hl 1 rfl) ?_
          refine lv_iconst (v := 4) hx hb dX10_reads_199 (by decide) ?_
          refine lv_iadd hx hb dX10_reads_200 ?_
          refine lv_topi (fun z25 ez25 => ?_)
          have tz25 := tn_add ez25 rfl kI_4 (by omega) (by omega)
          refine mc_rald E2 hG hoa24 (t_in (by omega) (by omega)) dX10_reads_201 (fun z26 lz26 uz26 qz26 => ?_)
          rw [rR_at (q := v4.toInt) (r := 4) (by omega) (by omega) (by omega) (by omega)] at lz26 uz26
          have lz26 : 0 ≤ z26.toInt := lz26
          have uz26 : z26.toInt ≤ 99 := uz26
          have wz26 : z26 = F 17 z25.toNatClampNeg := qz26 _ (qX_17 ((upA_ne hcu17).trans f1))
          rw [show z25.toNatClampNeg = 8 * v4.toInt.toNat + 4 by show z25.toInt.toNat = _; omega] at wz26
          refine lv_aload_n hx hb dX10_reads_202 rfl (lv_at hl 2 rfl) ?_
          refine mc_getr E2 hG t0 mr_60 dX10_reads_203 (fun oa27 hoa27 => ?_)
          refine lv_iload hx hb dX10_reads_206 (lv_at hl 1 rfl) ?_
          refine lv_iconst (v := 5) hx hb dX10_reads_208 (by decide) ?_
          refine lv_iadd hx hb dX10_reads_209 ?_
          refine lv_topi (fun z28 ez28 => ?_)
          have tz28 := tn_add ez28 rfl kI_5 (by omega) (by omega)
          refine mc_rald E2 hG hoa27 (t_in (by omega) (by omega)) dX10_reads_210 (fun z29 lz29 uz29 qz29 => ?_)
          rw [rR_at (q := v4.toInt) (r := 5) (by omega) (by omega) (by omega) (by omega)] at lz29 uz29
          have lz29 : 0 ≤ z29.toInt := lz29
          have uz29 : z29.toInt ≤ 9 := uz29
          have wz29 : z29 = F 17 z28.toNatClampNeg := qz29 _ (qX_17 ((upA_ne hcu17).trans f1))
          rw [show z28.toNatClampNeg = 8 * v4.toInt.toNat + 5 by show z28.toInt.toNat = _; omega] at wz29
          have hgd := (f3 v4.toInt.toNat (by omega)).2.1
          rw [← wz14, ← wz17, ← wz20] at hgd
          have ho6 : z7.toInt = (F 17 (8 * v4.toInt.toNat + 6)).toInt := by rw [wz7]
          have ho7 : z11.toInt = (F 17 (8 * v4.toInt.toNat + 6)).toInt := by rw [wz11]
          have hK8 : K t z12.toInt 10 < 8 := by rw [show z12.toInt = v3.toInt + (F 17 (8 * v4.toInt.toNat + 6)).toInt by omega]; exact hRr.2
          have hR1 := hRr.1
          refine mc_calliX hG (mc_runV (As := [.int z14, .int z12, .int z17, .int z20, .int z23, .int z26, .int z29]) (rest := []) E2 hG (x_X10_putBox l G2 σ cu A t h0 z14 z12 z17 z20 z23 z26 z29 t0 (by omega) (by omega) (by omega) (by omega) (by omega) (by omega) hI (by omega) (by omega) (by omega) (by omega) (by omega)) t0 rfl kv_X10_putBox ml_X10_139 ⟨rfl, rfl, Nat.le_of_ble_eq_true rfl, Nat.le_of_ble_eq_true rfl⟩ rfl hl.1 rfl (Nat.le_of_ble_eq_true rfl) ⟨Nat.zero_le _, Nat.zero_le _⟩ dX10_reads_211) (fun r30 Z H locs eZ pZ hG => ?_)
          have hIo := hI
          obtain ⟨t31, rfl, ⟨ya, yb, yc, yd, hmk, hpx, hrr⟩, hI⟩ := pZ
          clear eZ
          have pt31 := PX.br hpx (TI_p hIo (by omega))
          refine lv_pop hx hb dX10_reads_214 rfl ?_
          obtain ⟨z32, ez32⟩ : ∃ y : Int32, y = v4 + (1) := ⟨_, rfl⟩
          refine lv_iinc (v := z32) (lv' := [(4, .int z32), (6, .int z12), (5, .int z4), (0, .ref h0), (1, .int x1), (3, .int v3)]) hx hb dX10_reads_215 hl (k := 5) rfl (by rw [ez32]; rfl) (by decide) rfl (fun ls hl => ?_)
          have tz32 := tn_add ez32 rfl kI_1 (by omega) (by omega)
          refine lv_goto (tgt := 109) hx hb dX10_reads_218 (by decide) ?_
          have hPQ := hex109.2.2.2.2.1
          have hQ := RE_s (k' := z32.toInt) f1 f2 f3 f4 (by omega) f6 f7 (by omega) (by omega) pt31 (by omega) (Or.inr ⟨by rw [← wz7]; omega, by omega⟩)
          have hQ2 := hex109.2.1
          have hQz : ∃ (Fz : mF) (nz : Nat), A 17 = some (Fz 17) ∧ A 1 = some (Fz 1) ∧ (Fz 1 30).toInt = nz ∧ RDok (LF (FM G) 15) (FM G 1 25).toInt (24 - (ta 3).toInt) (qK Fz) (qP Fz) (qS Fz) (qN Fz) nz ∧ PB (qP Fz) nz ∧ RQ ta Fz x1.toInt v3.toInt z32.toInt.toNat t31 := by
            refine ⟨Fz, nz, dz1, dz2, by rw [zn]; exact dz3, dz4, dz5, ?_⟩
            rw [show z32.toInt.toNat = v4.toInt.toNat + 1 by omega]
            refine ⟨t, ya, yb, yc, yd, dz6, ?_, ?_⟩
            · rw [y1, y4]; unfold qK qN; rw [← wz14, ← wz17, ← wz20, ← wz23, ← wz26]; exact hmk
            · rw [if_neg (by intro q; have hdk := (f3 v4.toInt.toNat (by omega)).1; rw [← wz7] at hdk; omega), y1, y2, y3]; unfold qK qS qP; rw [← wz14, ← wz29, ← wz11, show v3.toInt + z11.toInt = z12.toInt by omega]; exact hpx
          exact ih109 A t31 H locs ls v3 z32 hG (lv_sub hl [3, 4, 5, 0] rfl) (by omega) (by omega) (by omega) (by omega) (by omega) (by omega) (by exact ⟨hQ, hQ2, hI, by omega, hPQ, hQz⟩) (by omega)
        · skip
          have ic8 := tn_nle kI_0 rfl c8
          have hdk := (f3 v4.toInt.toNat (by omega)).1
          have h40 : v4.toInt = 0 := by rw [← wz7] at hdk; omega
          have hpar := hex109.2.2.2.1
          refine lv_iload_n hx hb dX10_reads_138 rfl (lv_at hl 2 rfl) ?_
          refine lv_goto (tgt := 154) hx hb dX10_reads_139 (by decide) ?_
          refine lv_istore (lv' := [(6, .int x1), (5, .int z4), (0, .ref h0), (1, .int x1), (3, .int v3), (4, .int v4)]) hx hb dX10_reads_154 hl (by decide) rfl (fun ls hl => ?_)
          refine lv_aload_n hx hb dX10_reads_156 rfl (lv_at hl 2 rfl) ?_
          refine lv_aload_n hx hb dX10_reads_157 rfl (lv_at hl 2 rfl) ?_
          refine mc_getr E2 hG t0 mr_60 dX10_reads_158 (fun oa33 hoa33 => ?_)
          refine lv_iload hx hb dX10_reads_161 (lv_at hl 1 rfl) ?_
          refine mc_rald E2 hG hoa33 (t_in (by omega) (by omega)) dX10_reads_163 (fun z34 lz34 uz34 qz34 => ?_)
          rw [rR_at (q := v4.toInt) (r := 0) (by omega) (by omega) (by omega) (by omega)] at lz34 uz34
          have lz34 : 0 ≤ z34.toInt := lz34
          have uz34 : z34.toInt ≤ 9 := uz34
          have wz34 : z34 = F 17 z4.toNatClampNeg := qz34 _ (qX_17 ((upA_ne hcu17).trans f1))
          rw [show z4.toNatClampNeg = 8 * v4.toInt.toNat by show z4.toInt.toNat = _; omega] at wz34
          refine lv_iload hx hb dX10_reads_164 (lv_at hl 0 rfl) ?_
          refine lv_aload_n hx hb dX10_reads_166 rfl (lv_at hl 2 rfl) ?_
          refine mc_getr E2 hG t0 mr_60 dX10_reads_167 (fun oa35 hoa35 => ?_)
          refine lv_iload hx hb dX10_reads_170 (lv_at hl 1 rfl) ?_
          refine lv_iconst (v := 1) hx hb dX10_reads_172 (by decide) ?_
          refine lv_iadd hx hb dX10_reads_173 ?_
          refine lv_topi (fun z36 ez36 => ?_)
          have tz36 := tn_add ez36 rfl kI_1 (by omega) (by omega)
          refine mc_rald E2 hG hoa35 (t_in (by omega) (by omega)) dX10_reads_174 (fun z37 lz37 uz37 qz37 => ?_)
          rw [rR_at (q := v4.toInt) (r := 1) (by omega) (by omega) (by omega) (by omega)] at lz37 uz37
          have lz37 : 0 ≤ z37.toInt := lz37
          have uz37 : z37.toInt ≤ 99 := uz37
          have wz37 : z37 = F 17 z36.toNatClampNeg := qz37 _ (qX_17 ((upA_ne hcu17).trans f1))
          rw [show z36.toNatClampNeg = 8 * v4.toInt.toNat + 1 by show z36.toInt.toNat = _; omega] at wz37
          refine lv_aload_n hx hb dX10_reads_175 rfl (lv_at hl 2 rfl) ?_
          refine mc_getr E2 hG t0 mr_60 dX10_reads_176 (fun oa38 hoa38 => ?_)
          refine lv_iload hx hb dX10_reads_179 (lv_at hl 1 rfl) ?_
          refine lv_iconst (v := 2) hx hb dX10_reads_181 (by decide) ?_
          refine lv_iadd hx hb dX10_reads_182 ?_
          refine lv_topi (fun z39 ez39 => ?_)
          have tz39 := tn_add ez39 rfl kI_2 (by omega) (by omega)
          refine mc_rald E2 hG hoa38 (t_in (by omega) (by omega)) dX10_reads_183 (fun z40 lz40 uz40 qz40 => ?_)
          rw [rR_at (q := v4.toInt) (r := 2) (by omega) (by omega) (by omega) (by omega)] at lz40 uz40
          have lz40 : 0 ≤ z40.toInt := lz40
          have uz40 : z40.toInt ≤ 99 := uz40
          have wz40 : z40 = F 17 z39.toNatClampNeg := qz40 _ (qX_17 ((upA_ne hcu17).trans f1))
          rw [show z39.toNatClampNeg = 8 * v4.toInt.toNat + 2 by show z39.toInt.toNat = _; omega] at wz40
          refine lv_aload_n hx hb dX10_reads_184 rfl (lv_at hl 2 rfl) ?_
          refine mc_getr E2 hG t0 mr_60 dX10_reads_185 (fun oa41 hoa41 => ?_)
          refine lv_iload hx hb dX10_reads_188 (lv_at hl 1 rfl) ?_
          refine lv_iconst (v := 3) hx hb dX10_reads_190 (by decide) ?_
          refine lv_iadd hx hb dX10_reads_191 ?_
          refine lv_topi (fun z42 ez42 => ?_)
          have tz42 := tn_add ez42 rfl kI_3 (by omega) (by omega)
          refine mc_rald E2 hG hoa41 (t_in (by omega) (by omega)) dX10_reads_192 (fun z43 lz43 uz43 qz43 => ?_)
          rw [rR_at (q := v4.toInt) (r := 3) (by omega) (by omega) (by omega) (by omega)] at lz43 uz43
          have lz43 : 0 ≤ z43.toInt := lz43
          have uz43 : z43.toInt ≤ 99 := uz43
          have wz43 : z43 = F 17 z42.toNatClampNeg := qz43 _ (qX_17 ((upA_ne hcu17).trans f1))
          rw [show z42.toNatClampNeg = 8 * v4.toInt.toNat + 3 by show z42.toInt.toNat = _; omega] at wz43
          refine lv_aload_n hx hb dX10_reads_193 rfl (lv_at hl 2 rfl) ?_
          refine mc_getr E2 hG t0 mr_60 dX10_reads_194 (fun oa44 hoa44 => ?_)
          refine lv_iload hx hb dX10_reads_197 (lv_at hl 1 rfl) ?_
          refine lv_iconst (v := 4) hx hb dX10_reads_199 (by decide) ?_
          refine lv_iadd hx hb dX10_reads_200 ?_
          refine lv_topi (fun z45 ez45 => ?_)
          have tz45 := tn_add ez45 rfl kI_4 (by omega) (by omega)
          refine mc_rald E2 hG hoa44 (t_in (by omega) (by omega)) dX10_reads_201 (fun z46 lz46 uz46 qz46 => ?_)
          rw [rR_at (q := v4.toInt) (r := 4) (by omega) (by omega) (by omega) (by omega)] at lz46 uz46
          have lz46 : 0 ≤ z46.toInt := lz46
          have uz46 : z46.toInt ≤ 99 := uz46
          have wz46 : z46 = F 17 z45.toNatClampNeg := qz46 _ (qX_17 ((upA_ne hcu17).trans f1))
          rw [show z45.toNatClampNeg = 8 * v4.toInt.toNat + 4 by show z45.toInt.toNat = _; omega] at wz46
          refine lv_aload_n hx hb dX10_reads_202 rfl (lv_at hl 2 rfl) ?_
          refine mc_getr E2 hG t0 mr_60 dX10_reads_203 (fun oa47 hoa47 => ?_)
          refine lv_iload hx hb dX10_reads_206 (lv_at hl 1 rfl) ?_
          refine lv_iconst (v := 5) hx hb dX10_reads_208 (by decide) ?_
          refine lv_iadd hx hb dX10_reads_209 ?_
          refine lv_topi (fun z48 ez48 => ?_)
          have tz48 := tn_add ez48 rfl kI_5 (by omega) (by omega)
          refine mc_rald E2 hG hoa47 (t_in (by omega) (by omega)) dX10_reads_210 (fun z49 lz49 uz49 qz49 => ?_)
          rw [rR_at (q := v4.toInt) (r := 5) (by omega) (by omega) (by omega) (by omega)] at lz49 uz49
          have lz49 : 0 ≤ z49.toInt := lz49
          have uz49 : z49.toInt ≤ 9 := uz49
          have wz49 : z49 = F 17 z48.toNatClampNeg := qz49 _ (qX_17 ((upA_ne hcu17).trans f1))
          rw [show z48.toNatClampNeg = 8 * v4.toInt.toNat + 5 by show z48.toInt.toNat = _; omega] at wz49
          have hgd := (f3 v4.toInt.toNat (by omega)).2.1
          rw [← wz34, ← wz37, ← wz40] at hgd
          refine mc_calliX hG (mc_runV (As := [.int z34, .int x1, .int z37, .int z40, .int z43, .int z46, .int z49]) (rest := []) E2 hG (x_X10_putBox l G2 σ cu A t h0 z34 x1 z37 z40 z43 z46 z49 t0 (by omega) (by omega) (by omega) (by omega) (by omega) (by omega) hI (by omega) (by omega) (by omega) (by omega) (by omega)) t0 rfl kv_X10_putBox ml_X10_139 ⟨rfl, rfl, Nat.le_of_ble_eq_true rfl, Nat.le_of_ble_eq_true rfl⟩ rfl hl.1 rfl (Nat.le_of_ble_eq_true rfl) ⟨Nat.zero_le _, Nat.zero_le _⟩ dX10_reads_211) (fun r50 Z H locs eZ pZ hG => ?_)
          have hIo := hI
          obtain ⟨t51, rfl, ⟨ya, yb, yc, yd, hmk, hpx, hrr⟩, hI⟩ := pZ
          clear eZ
          have pt51 := PX.br hpx (TI_p hIo (by omega))
          refine lv_pop hx hb dX10_reads_214 rfl ?_
          obtain ⟨z52, ez52⟩ : ∃ y : Int32, y = v4 + (1) := ⟨_, rfl⟩
          refine lv_iinc (v := z52) (lv' := [(4, .int z52), (6, .int x1), (5, .int z4), (0, .ref h0), (1, .int x1), (3, .int v3)]) hx hb dX10_reads_215 hl (k := 5) rfl (by rw [ez52]; rfl) (by decide) rfl (fun ls hl => ?_)
          have tz52 := tn_add ez52 rfl kI_1 (by omega) (by omega)
          refine lv_goto (tgt := 109) hx hb dX10_reads_218 (by decide) ?_
          have hPQ := hex109.2.2.2.2.1
          have hQ := RE_s (k' := z52.toInt) f1 f2 f3 f4 (by omega) f6 f7 (by omega) (by omega) pt51 (by omega) (Or.inl ⟨by rw [← wz7]; omega, by omega⟩)
          have hQ2 := hex109.2.1
          have hQz : ∃ (Fz : mF) (nz : Nat), A 17 = some (Fz 17) ∧ A 1 = some (Fz 1) ∧ (Fz 1 30).toInt = nz ∧ RDok (LF (FM G) 15) (FM G 1 25).toInt (24 - (ta 3).toInt) (qK Fz) (qP Fz) (qS Fz) (qN Fz) nz ∧ PB (qP Fz) nz ∧ RQ ta Fz x1.toInt v3.toInt z52.toInt.toNat t51 := by
            refine ⟨Fz, nz, dz1, dz2, by rw [zn]; exact dz3, dz4, dz5, ?_⟩
            rw [show z52.toInt.toNat = v4.toInt.toNat + 1 by omega]
            refine ⟨t, ya, yb, yc, yd, dz6, ?_, ?_⟩
            · rw [y1, y4]; unfold qK qN; rw [← wz34, ← wz37, ← wz40, ← wz43, ← wz46]; exact hmk
            · rw [if_pos (by omega), y1, y3]; unfold qK qS; rw [← wz34, ← wz49]; exact hpx
          exact ih109 A t51 H locs ls v3 z52 hG (lv_sub hl [3, 4, 5, 0] rfl) (by omega) (by omega) (by omega) (by omega) (by omega) (by omega) (by exact ⟨hQ, hQ2, hI, by omega, hPQ, hQz⟩) (by omega)
  have J48 : ∀ (n48 : Nat) (F : mF) (H : Heap) (locs : List Loc) (ls : Array Slot) (v2 : Int32), mGH G (σ, cu, kO PRd (qX (upA a cu ta)) F) s H locs → lv_has ls 7 [(0, .ref h0), (1, .int x1), (2, .int v2)] → -1 ≤ x1.toInt → x1.toInt ≤ 23 → 0 ≤ v2.toInt → v2.toInt ≤ 1 → ((v2.toInt = 1 ∧ RV (ta 3).toInt F ∧ EVI (ta 3).toInt F) ∨ (v2.toInt = 0 ∧ (¬ (F 1 27).toInt = 0 ∨ (RD F (F 1 30).toInt ∧ (ta 3).toInt + (F 1 30).toInt ≤ 24)) ∧ 0 ≤ (F 1 30).toInt ∧ (((F 1 27).toInt = 0 ∧ DON (ta 3).toInt F) ∨ ((F 1 27).toInt = 1 ∧ RDbd (LF F 15) (F 1 25).toInt (24 - (ta 3).toInt) (F 1 26).toInt)))) ∧ (((x1.toInt = -1 ∧ (ta 0).toInt < 0) ∨ (0 ≤ x1.toInt ∧ x1.toInt < (ta 3).toInt ∧ K ta x1.toInt 10 < 8)) ∧ PAl ta x1.toInt ∧ RMe ta x1.toInt) ∧ (LF F 15 = LF (FM G) 15 ∧ F 1 25 = FM G 1 25) → (v2.toInt * 30 - (F 1 30).toInt + 30).toNat < n48 → W p l e (tRm 4 97) s m ([.ref h0, .int x1] : List Value).toArray below meth c H locs 0 0 (MQ below (mQM G (σ, cu, qX (upA a cu ta)) (fun r Z W => ∃ t : Nat → Int32, Z = (σ, cu, qX (upA a cu t)) ∧ RDx G ta x1.toInt r t W ∧ TInv t)) ([.ref h0, .int x1] : List Value).toArray s 0 0 (mA (σ, cu, qX (upA a cu ta)))) (F0 m 48 ls []) := by
    intro n48
    induction n48 with
    | zero => intro F H locs ls v2 hG hl bp1 cp1 b2 c2 hex48 hn48; exact absurd hn48 (Nat.not_lt_zero _)
    | succ n48 ih48 =>
      intro F H locs ls v2 hG hl bp1 cp1 b2 c2 hex48 hn48
      refine lv_iload_n hx hb dX10_reads_48 rfl (lv_at hl 2 rfl) ?_
      refine lv_if_eq (tgt := 79) hx hb dX10_reads_49 (by decide) (fun c53 => ?_) (fun c53 => ?_)
      · skip
        have ic53 := tn_eq rfl kI_0 c53
        have hEN : ((¬ (F 1 27).toInt = 0 ∨ (RD F (F 1 30).toInt ∧ (ta 3).toInt + (F 1 30).toInt ≤ 24)) ∧ 0 ≤ (F 1 30).toInt ∧ (((F 1 27).toInt = 0 ∧ DON (ta 3).toInt F) ∨ ((F 1 27).toInt = 1 ∧ RDbd (LF F 15) (F 1 25).toInt (24 - (ta 3).toInt) (F 1 26).toInt))) := by rcases hex48.1 with q | q; omega; exact q.2
        refine lv_aload_n hx hb dX10_reads_79 rfl (lv_at hl 0 rfl) ?_
        refine lv_iconst (v := 0) hx hb dX10_reads_80 (by decide) ?_
        refine mc_putXM (k := 25) E hG t0 fq_X10_340 rfl (by decide) (by decide) rfl rfl dX10_reads_81 (fun H locs hG => ?_)
        rw [show kM G (up2 (FM G) 1 25 (0 : Int32)) = G2 from eG2.symm] at hG
        have hG := kO_set (PRd_25) hG
        obtain ⟨F54, eF54⟩ : ∃ Z : mF, Z = up2 F 1 25 (0 : Int32) := ⟨_, rfl⟩
        rw [← eF54] at hG
        refine lv_aload_n hx hb dX10_reads_84 rfl (lv_at hl 0 rfl) ?_
        refine mc_geti E2 hG t0 mi_359 dX10_reads_85 (fun z55 lz55 uz55 qz55 => ?_)
        have wz55 := kq qz55 (PRd_27)
        have gz55 : z55.toInt = (F54 1 27).toInt := by rw [wz55]
        have hz27 : z55.toInt = (F 1 27).toInt := by rw [wz55, eF54, up2_ne (by decide)]
        refine lv_if_eq (tgt := 99) hx hb dX10_reads_88 (by decide) (fun c56 => ?_) (fun c56 => ?_)
        · skip
          have ic56 := tn_eq rfl kI_0 c56
          refine lv_aload_n hx hb dX10_reads_99 rfl (lv_at hl 0 rfl) ?_
          refine mc_getn E2 hG t0 ff_X10_9 dX10_reads_100 (fun oa57 hoa57 => ?_)
          refine lv_iconst (v := 3) hx hb dX10_reads_103 (by decide) ?_
          refine mc_nald E2 hG hoa57 hG.2.2.1 (t_in (by decide) (by decide)) dX10_reads_104 (fun z58 lz58 uz58 qz58 => ?_)
          have lz58 : 0 ≤ z58.toInt := lz58
          have uz58 : z58.toInt ≤ 24 := uz58
          have c3 : z58 = ta 3 := qz58 _ (show kO PRd (qX (upA a cu ta)) F54 cu 3 = some (ta 3) from (kO_out (PRd_cu hcu 3)).trans (qX_at hcu upA_at rfl))
          have c3i : z58.toInt = (ta 3).toInt := by rw [c3]
          refine lv_istore_n (lv' := [(3, .int z58), (0, .ref h0), (1, .int x1), (2, .int v2)]) hx hb dX10_reads_105 rfl hl (by decide) rfl (fun ls hl => ?_)
          have hRD := hEN.1.resolve_left (by omega)
          have hHP := hex48.2.1
          have h5 : RD F54 (F54 1 30).toInt ∧ (F54 1 30).toInt = (F 1 30).toInt := by
            have e30 : F54 1 30 = F 1 30 := by rw [eF54, up2_ne (by decide)]
            have e17 : F54 17 = F 17 := by rw [eF54, up2_nc (by decide)]
            rw [e30]
            refine ⟨?_, rfl⟩
            have hd := hRD.1
            unfold RD at hd ⊢
            have ec : ∀ j n, cn F54 j n = cn F j n := fun j n => cn_eq (fun i _ => by rw [e17])
            rw [e17]
            simp only [ec]
            exact hd
          have hG := rd_go hcu hG
          obtain ⟨A59, eA59⟩ : ∃ Z : Nat → Option (Nat → Int32), Z = upA (upA a 17 (F54 17)) 1 (F54 1) := ⟨_, rfl⟩
          rw [← eA59] at hG
          have hAX : AX a A59 := by rw [eA59]; exact AX_go
          have hRE : RE A59 ta z58.toInt (0 : Int32).toInt := by rw [eA59]; exact RE_0 h5.1 (by omega) (by omega) (by omega) (by decide)
          have k0 := kI_0
          have hDN : DON (ta 3).toInt F := by
            rcases hEN.2.2 with ⟨-, w⟩ | ⟨w, -⟩
            · exact w
            · omega
          have hDx : ∃ (Fz : mF) (nz : Nat), A59 17 = some (Fz 17) ∧ A59 1 = some (Fz 1) ∧ (Fz 1 30).toInt = nz ∧ RDok (LF (FM G) 15) (FM G 1 25).toInt (24 - (ta 3).toInt) (qK Fz) (qP Fz) (qS Fz) (qN Fz) nz ∧ PB (qP Fz) nz ∧ RQ ta Fz x1.toInt z58.toInt 0 ta := by
            have e30 : F54 1 30 = F 1 30 := by rw [eF54, up2_ne (by decide)]
            have e17 : F54 17 = F 17 := by rw [eF54, up2_nc (by decide)]
            obtain ⟨y1, y2, y3, y4⟩ := q_17 e17
            obtain ⟨w1, w2⟩ := hDN
            rw [hex48.2.2.1, hex48.2.2.2] at w1
            refine ⟨F54, (F 1 30).toInt.toNat, by rw [eA59]; exact (upA_ne (by decide)).trans upA_at, by rw [eA59]; exact upA_at, by rw [e30]; omega, by rw [y1, y2, y3, y4]; exact w1, by rw [y2]; exact w2, rfl⟩
          refine lv_iconst (v := 0) hx hb dX10_reads_106 (by decide) ?_
          refine lv_istore (lv' := [(4, .int 0), (3, .int z58), (0, .ref h0), (1, .int x1), (2, .int v2)]) hx hb dX10_reads_107 hl (by decide) rfl (fun ls hl => ?_)
          have hPQ : x1.toInt < z58.toInt ∧ z58.toInt = (ta 3).toInt ∧ PAl ta x1.toInt ∧ RMe ta x1.toInt := ⟨by omega, by omega, hex48.2.1.2.1, hex48.2.1.2.2⟩
          have hQ := hRE
          have hQ2 := hAX
          have hQz := hDx
          exact J109 ((24 - (0 : Int32).toInt).toNat + 1) A59 ta H locs ls z58 (0 : Int32) hG (lv_sub hl [2, 3, 1, 0] rfl) (by omega) (by omega) (by omega) (by omega) (by decide) (by decide) (by exact ⟨hQ, hQ2, hI, by omega, hPQ, hQz⟩) (Nat.lt_succ_self _)
        · skip
          have ic56 := tn_ne rfl kI_0 c56
          refine lv_bipush (v := -100) hx hb dX10_reads_91 (by decide) ?_
          refine lv_aload_n hx hb dX10_reads_93 rfl (lv_at hl 0 rfl) ?_
          refine mc_geti E2 hG t0 mi_350 dX10_reads_94 (fun z60 lz60 uz60 qz60 => ?_)
          have wz60 := kq qz60 (PRd_26)
          have gz60 : z60.toInt = (F54 1 26).toInt := by rw [wz60]
          have hz26 : z60.toInt = (F 1 26).toInt := by rw [wz60, eF54, up2_ne (by decide)]
          refine lv_isub hx hb dX10_reads_97 ?_
          refine lv_topi (fun z61 ez61 => ?_)
          have tz61 := tn_sub ez61 kI_m100 rfl (by omega) (by omega)
          have hB9 : RDbd (LF (FM G) 15) (FM G 1 25).toInt (24 - (ta 3).toInt) (F 1 26).toInt := by
            rcases hEN.2.2 with ⟨w, -⟩ | ⟨-, w⟩
            · omega
            · rw [hex48.2.2.1, hex48.2.2.2] at w; exact w
          have hG := kO_drop (PRd_qn h17u h1u) hG
          subst eG2
          exact mc_kretM (G := G) (M := up2 (FM G) 1 25 0) (post := fun r Z W => ∃ t : Nat → Int32, Z = (σ, cu, qX (upA a cu t)) ∧ RDx G ta x1.toInt r t W ∧ TInv t) E2 hr hlk hG rfl rfl ⟨ta, rfl, Or.inr (Or.inr ⟨hex48.2.1.2.1, hex48.2.1.2.2, rfl, Or.inl ⟨(F 1 26).toInt, by omega, by omega, hB9, by omega, rfl⟩⟩), hIa⟩ dX10_reads_98
      · skip
        have ic53 := tn_ne rfl kI_0 c53
        have hVE : RV (ta 3).toInt F ∧ EVI (ta 3).toInt F := by rcases hex48.1 with q | q; exact q.2; omega
        have hV := hVE.1
        have hEV := hVE.2
        have hV0 := hV.1
        have hV2 := hV.2.1
        have hI1 := hIa.1
        refine lv_aload_n hx hb dX10_reads_52 rfl (lv_at hl 0 rfl) ?_
        refine mc_callvX hG (mc_runV (As := []) (rest := []) E hG (x_X10_readBox l G σ cu (qX (upA a cu ta)) F h0 t0 ta (qX_TI hcu upA_at) hI hV hNM) t0 rfl kv_X10_readBox ml_X10_382 ⟨rfl, rfl, Nat.le_of_ble_eq_true rfl, Nat.le_of_ble_eq_true rfl⟩ rfl hl.1 rfl (Nat.le_of_ble_eq_true rfl) ⟨Nat.zero_le _, Nat.zero_le _⟩ dX10_reads_53) (fun Z H locs eZ pZ hG => ?_)
        obtain ⟨F63, rfl, pF63⟩ := pZ
        clear eZ
        have hn30 := pF63.2.1
        have hBg : LF F63 15 = LF (FM G) 15 ∧ F63 1 25 = FM G 1 25 := ⟨pF63.2.2.1.2.2.1.1.trans hex48.2.2.1, pF63.2.2.1.2.2.1.2.trans hex48.2.2.2⟩
        refine lv_aload_n hx hb dX10_reads_56 rfl (lv_at hl 0 rfl) ?_
        refine mc_geti E hG t0 mi_359 dX10_reads_57 (fun z64 lz64 uz64 qz64 => ?_)
        have wz64 := kq qz64 (PRd_27)
        have gz64 : z64.toInt = (F63 1 27).toInt := by rw [wz64]
        refine lv_if_ne (tgt := 74) hx hb dX10_reads_60 (by decide) (fun c65 => ?_) (fun c65 => ?_)
        · skip
          have ic65 := tn_ne rfl kI_0 c65
          refine lv_iconst (v := 0) hx hb dX10_reads_74 (by decide) ?_
          refine lv_istore_n (lv' := [(2, .int 0), (0, .ref h0), (1, .int x1)]) hx hb dX10_reads_75 rfl hl (by decide) rfl (fun ls hl => ?_)
          refine lv_goto (tgt := 48) hx hb dX10_reads_76 (by decide) ?_
          have k0 := kI_0
          have hQ0 : ¬ (F63 1 27).toInt = 0 := by rw [← wz64]; omega
          exact ih48 F63 H locs ls (0 : Int32) hG (lv_sub hl [1, 2, 0] rfl) (by omega) (by omega) (by decide) (by decide) (by exact ⟨Or.inr ⟨by omega, Or.inl hQ0, pF63.2.1, Or.inr (BAD_of hV hEV pF63.2.2 hQ0)⟩, hex48.2.1, hBg⟩) (by omega)
        · skip
          have ic65 := tn_eq rfl kI_0 c65
          have hb27 : (F63 1 27).toInt = 0 := by rw [← wz64]; omega
          have hRA2 := pF63.1.resolve_left (fun q => q hb27)
          have hRA := hRA2.1
          have hgr := hRA2.2
          have hAF : AFB (ta 3).toInt F63 := AFB_of hV hEV pF63.2.2 hb27 hRA2.2
          refine lv_aload_n hx hb dX10_reads_63 rfl (lv_at hl 0 rfl) ?_
          refine mc_calliX hG (mc_runV (As := []) (rest := []) E hG (x_X10_goesOn l G σ cu (qX (upA a cu ta)) F63 h0 t0 (ta 3).toInt hRA (by omega) hAF.1 hAF.2.2.2.1 (AFB_le hAF)) t0 rfl kv_X10_goesOn ml_X10_385 ⟨rfl, rfl, Nat.le_of_ble_eq_true rfl, Nat.le_of_ble_eq_true rfl⟩ rfl hl.1 rfl (Nat.le_of_ble_eq_true rfl) ⟨Nat.zero_le _, Nat.zero_le _⟩ dX10_reads_64) (fun r66 Z H locs eZ pZ hG => ?_)
          obtain ⟨F67, rfl, lr66, ur66, pF67⟩ := pZ
          clear eZ
          refine lv_if_eq (tgt := 74) hx hb dX10_reads_67 (by decide) (fun c68 => ?_) (fun c68 => ?_)
          · skip
            have ic68 := tn_eq rfl kI_0 c68
            refine lv_iconst (v := 0) hx hb dX10_reads_74 (by decide) ?_
            refine lv_istore_n (lv' := [(2, .int 0), (0, .ref h0), (1, .int x1)]) hx hb dX10_reads_75 rfl hl (by decide) rfl (fun ls hl => ?_)
            refine lv_goto (tgt := 48) hx hb dX10_reads_76 (by decide) ?_
            have k0 := kI_0
            have hQd := RK_RD hRA pF67.2.1
            have hGo := pF67.2.2
            rw [show r66.toInt = 0 by omega] at hGo
            exact ih48 F67 H locs ls (0 : Int32) hG (lv_sub hl [1, 2, 0] rfl) (by omega) (by omega) (by decide) (by decide) (by exact ⟨Or.inr ⟨by omega, Or.inr ⟨hQd.1, hQd.2.2⟩, by omega, GO_r0 hAF hGo⟩, hex48.2.1, GO_fr hGo hBg⟩) (by omega)
          · skip
            have ic68 := tn_ne rfl kI_0 c68
            refine lv_iconst (v := 1) hx hb dX10_reads_70 (by decide) ?_
            refine lv_goto (tgt := 75) hx hb dX10_reads_71 (by decide) ?_
            refine lv_istore_n (lv' := [(2, .int 1), (0, .ref h0), (1, .int x1)]) hx hb dX10_reads_75 rfl hl (by decide) rfl (fun ls hl => ?_)
            refine lv_goto (tgt := 48) hx hb dX10_reads_76 (by decide) ?_
            have hQ := pF67.1.resolve_left (by omega)
            have hk9 := pF67.2.1
            have hk8 : (F67 1 30).toInt = (F63 1 30).toInt := by rw [hk9.1]
            have k1 := kI_1
            have hn9 : (F 1 30).toInt < (F63 1 30).toInt := by have := hgr; omega
            have hGo := pF67.2.2
            rw [show r66.toInt = 1 by omega] at hGo
            exact ih48 F67 H locs ls (1 : Int32) hG (lv_sub hl [1, 2, 0] rfl) (by omega) (by omega) (by decide) (by decide) (by exact ⟨Or.inl ⟨by omega, hQ, GO_r1 hAF hGo⟩, hex48.2.1, GO_fr hGo hBg⟩) (by omega)
  refine lv_iload_n hx hb dX10_reads_0 rfl (lv_at hl 1 rfl) ?_
  refine lv_iconst (v := -1) hx hb dX10_reads_1 (by decide) ?_
  refine lv_icmp_eq (tgt := 15) hx hb dX10_reads_2 (by decide) (fun c69 => ?_) (fun c69 => ?_)
  · skip
    have ic69 := tn_eq rfl kI_m1 c69
    have hP : PAl ta x1.toInt := by unfold PAl; omega
    refine lv_aload_n hx hb dX10_reads_15 rfl (lv_at hl 0 rfl) ?_
    refine lv_iload_n hx hb dX10_reads_16 rfl (lv_at hl 1 rfl) ?_
    refine tc_callp (mc_runV (As := [.int x1]) (rest := []) E hG (x_X10_isRoom l G (σ, cu, kO PRd (qX (upA a cu ta)) Fa) h0 x1 t0 (by omega) (by omega) ta (kO_TI (PRd_tr hcu) (qX_TI hcu upA_at)) hI) t0 rfl kv_X10_isRoom ml_X10_136 ⟨rfl, rfl, Nat.le_of_ble_eq_true rfl, Nat.le_of_ble_eq_true rfl⟩ rfl hl.1 rfl (Nat.le_of_ble_eq_true rfl) ⟨Nat.zero_le _, Nat.zero_le _⟩ dX10_reads_17) (fun r70 pr70 => ?_)
    replace pr70 : (r70.toInt = 1 ∧ RMe ta x1.toInt) ∨ (r70.toInt = 0 ∧ ¬ RMe ta x1.toInt) := pr70
    refine lv_if_ne (tgt := 26) hx hb dX10_reads_20 (by decide) (fun c71 => ?_) (fun c71 => ?_)
    · skip
      have ic71 := tn_ne rfl kI_0 c71
      have hR : RMe ta x1.toInt := by
        rcases pr70 with ⟨-, w⟩ | ⟨w, -⟩
        · exact w
        · exact absurd w (by omega)
      have hR2 := hR
      unfold RMe at hR2
      have hP2 := hP
      unfold PAl at hP2
      refine lv_aload_n hx hb dX10_reads_26 rfl (lv_at hl 0 rfl) ?_
      refine lv_iconst (v := 0) hx hb dX10_reads_27 (by decide) ?_
      refine mc_putX E hG t0 mp_350 (by decide) (by decide) rfl rfl dX10_reads_28 (fun H locs hG => ?_)
      have hG := kO_set (PRd_26) hG
      obtain ⟨F72, eF72⟩ : ∃ Z : mF, Z = up2 Fa 1 26 (0 : Int32) := ⟨_, rfl⟩
      rw [← eF72] at hG
      have hLF72 : LF F72 15 = LF Fa 15 ∧ F72 1 25 = Fa 1 25 := by rw [eF72, LF_up (by decide), up2_ne (by omega)]; exact hLFa
      have hpF72 : (F72 1 26).toInt = 0 := by rw [eF72, up2_at]; decide
      have hbF72 : (F72 1 27).toInt = (Fa 1 27).toInt := by rw [eF72, up2_ne (by omega)]
      have hrF72 : mRN Fa F72 := mRN.refl.put (Or.inl rfl) eF72
      refine lv_aload_n hx hb dX10_reads_31 rfl (lv_at hl 0 rfl) ?_
      refine lv_iconst (v := 0) hx hb dX10_reads_32 (by decide) ?_
      refine mc_putX E hG t0 mp_370 (by decide) (by decide) rfl rfl dX10_reads_33 (fun H locs hG => ?_)
      have hG := kO_set (PRd_30) hG
      obtain ⟨F73, eF73⟩ : ∃ Z : mF, Z = up2 F72 1 30 (0 : Int32) := ⟨_, rfl⟩
      rw [← eF73] at hG
      have hLF73 : LF F73 15 = LF Fa 15 ∧ F73 1 25 = Fa 1 25 := by rw [eF73, LF_up (by decide), up2_ne (by omega)]; exact hLF72
      have hpF73 : (F73 1 26).toInt = (F72 1 26).toInt := by rw [eF73, up2_ne (by omega)]
      have hbF73 : (F73 1 27).toInt = (F72 1 27).toInt := by rw [eF73, up2_ne (by omega)]
      refine lv_aload_n hx hb dX10_reads_36 rfl (lv_at hl 0 rfl) ?_
      refine lv_iconst (v := 0) hx hb dX10_reads_37 (by decide) ?_
      refine mc_putX E hG t0 mp_367 (by decide) (by decide) rfl rfl dX10_reads_38 (fun H locs hG => ?_)
      have hG := kO_set (PRd_32) hG
      obtain ⟨F74, eF74⟩ : ∃ Z : mF, Z = up2 F73 1 32 (0 : Int32) := ⟨_, rfl⟩
      rw [← eF74] at hG
      have hLF74 : LF F74 15 = LF Fa 15 ∧ F74 1 25 = Fa 1 25 := by rw [eF74, LF_up (by decide), up2_ne (by omega)]; exact hLF73
      have hpF74 : (F74 1 26).toInt = (F73 1 26).toInt := by rw [eF74, up2_ne (by omega)]
      have hbF74 : (F74 1 27).toInt = (F73 1 27).toInt := by rw [eF74, up2_ne (by omega)]
      refine lv_aload_n hx hb dX10_reads_41 rfl (lv_at hl 0 rfl) ?_
      refine lv_iconst (v := 0) hx hb dX10_reads_42 (by decide) ?_
      refine mc_putX E hG t0 mp_359 (by decide) (by decide) (t_nz (by decide) (by decide)).1 (t_nz (by decide) (by decide)).2 dX10_reads_43 (fun H locs hG => ?_)
      have hG := kO_set (PRd_27) hG
      obtain ⟨F75, eF75⟩ : ∃ Z : mF, Z = up2 F74 1 27 (0 : Int32) := ⟨_, rfl⟩
      rw [← eF75] at hG
      have hLF75 : LF F75 15 = LF Fa 15 ∧ F75 1 25 = Fa 1 25 := by rw [eF75, LF_up (by decide), up2_ne (by omega)]; exact hLF74
      have hpF75 : (F75 1 26).toInt = (F74 1 26).toInt := by rw [eF75, up2_ne (by omega)]
      have hbF75 : (F75 1 27).toInt = 0 := by rw [eF75, up2_at]; decide
      have hrF75 : mRN F74 F75 := mRN.refl.put (Or.inr rfl) eF75
      refine lv_iconst (v := 1) hx hb dX10_reads_46 (by decide) ?_
      refine lv_istore_n (lv' := [(2, .int 1), (0, .ref h0), (1, .int x1)]) hx hb dX10_reads_47 rfl hl (by decide) rfl (fun ls hl => ?_)
      have g30 : (F75 1 30).toInt = 0 := by rw [eF75, up2_ne (by decide), eF74, up2_ne (by decide), eF73, up2_at]; decide
      have g32 : (F75 1 32).toInt = 0 := by rw [eF75, up2_ne (by decide), eF74, up2_at]; decide
      have g26 : (F75 1 26).toInt = 0 := by rw [eF75, up2_ne (by decide), eF74, up2_ne (by decide), eF73, up2_ne (by decide), eF72, up2_at]; decide
      have hQ : RV (ta 3).toInt F75 := ⟨by omega, by have := hIa.1; omega, by omega, by omega, Or.inl g30, fun i hi => by omega, RD_0 (by omega)⟩
      have k1 := kI_1
      have hQg : LF F75 15 = LF (FM G) 15 ∧ F75 1 25 = FM G 1 25 := ⟨hLF75.1.trans hLG.1, hLF75.2.trans hLG.2⟩
      exact J48 (((1 : Int32).toInt * 30 - (F75 1 30).toInt + 30).toNat + 1) F75 H locs ls (1 : Int32) hG (lv_sub hl [1, 2, 0] rfl) (by omega) (by omega) (by decide) (by decide) (by exact ⟨Or.inl ⟨by omega, hQ, EVI_0 g30 g32 g26⟩, ⟨by omega, hP, hR⟩, hQg⟩) (Nat.lt_succ_self _)
    · skip
      have ic71 := tn_eq rfl kI_0 c71
      have hR : ¬ RMe ta x1.toInt := by
        rcases pr70 with ⟨w, -⟩ | ⟨-, w⟩
        · exact absurd w (by omega)
        · exact w
      refine lv_bipush (v := -3) hx hb dX10_reads_23 (by decide) ?_
      have hG := kO_drop (PRd_qn h17u h1u) hG
      exact mc_kretM (G := G) (M := FM G) (post := fun r Z W => ∃ t : Nat → Int32, Z = (σ, cu, qX (upA a cu t)) ∧ RDx G ta x1.toInt r t W ∧ TInv t) E hr hlk hG rfl rfl ⟨ta, rfl, Or.inr (Or.inl ⟨rfl, rfl, rfl, hP, hR⟩), hIa⟩ dX10_reads_25
  · skip
    have ic69 := tn_ne rfl kI_m1 c69
    refine lv_aload_n hx hb dX10_reads_5 rfl (lv_at hl 0 rfl) ?_
    refine lv_iload_n hx hb dX10_reads_6 rfl (lv_at hl 1 rfl) ?_
    refine tc_callp (mc_runV (As := [.int x1]) (rest := []) E hG (c_X10_isBox l G (σ, cu, kO PRd (qX (upA a cu ta)) Fa) h0 x1 t0) t0 rfl kv_X10_isBox ml_X10_127 ⟨rfl, rfl, Nat.le_of_ble_eq_true rfl, Nat.le_of_ble_eq_true rfl⟩ rfl hl.1 rfl (Nat.le_of_ble_eq_true rfl) ⟨Nat.zero_le _, Nat.zero_le _⟩ dX10_reads_7) (fun r76 pr76 => ?_)
    replace pr76 : (r76.toInt = 1 ∧ 0 ≤ x1.toInt ∧ x1.toInt ≤ 23 ∧ mV (σ, cu, kO PRd (qX (upA a cu ta)) Fa) (ix x1.toInt 0) 1) ∨ (r76.toInt = 0 ∧ (x1.toInt < 0 ∨ 23 < x1.toInt ∨ ∃ v : Int32, ¬ v.toInt = 1 ∧ mV (σ, cu, kO PRd (qX (upA a cu ta)) Fa) (ix x1.toInt 0) v)) := pr76
    have cr76 := mB pr76 (kO_TI (PRd_tr hcu) (qX_TI hcu upA_at)) hI
    clear pr76
    refine lv_if_ne (tgt := 15) hx hb dX10_reads_10 (by decide) (fun c77 => ?_) (fun c77 => ?_)
    · skip
      have ic77 := tn_ne rfl kI_0 c77
      have hP : PAl ta x1.toInt := by unfold PAl; omega
      refine lv_aload_n hx hb dX10_reads_15 rfl (lv_at hl 0 rfl) ?_
      refine lv_iload_n hx hb dX10_reads_16 rfl (lv_at hl 1 rfl) ?_
      refine tc_callp (mc_runV (As := [.int x1]) (rest := []) E hG (x_X10_isRoom l G (σ, cu, kO PRd (qX (upA a cu ta)) Fa) h0 x1 t0 (by omega) (by omega) ta (kO_TI (PRd_tr hcu) (qX_TI hcu upA_at)) hI) t0 rfl kv_X10_isRoom ml_X10_136 ⟨rfl, rfl, Nat.le_of_ble_eq_true rfl, Nat.le_of_ble_eq_true rfl⟩ rfl hl.1 rfl (Nat.le_of_ble_eq_true rfl) ⟨Nat.zero_le _, Nat.zero_le _⟩ dX10_reads_17) (fun r78 pr78 => ?_)
      replace pr78 : (r78.toInt = 1 ∧ RMe ta x1.toInt) ∨ (r78.toInt = 0 ∧ ¬ RMe ta x1.toInt) := pr78
      refine lv_if_ne (tgt := 26) hx hb dX10_reads_20 (by decide) (fun c79 => ?_) (fun c79 => ?_)
      · skip
        have ic79 := tn_ne rfl kI_0 c79
        have hR : RMe ta x1.toInt := by
          rcases pr78 with ⟨-, w⟩ | ⟨w, -⟩
          · exact w
          · exact absurd w (by omega)
        have hR2 := hR
        unfold RMe at hR2
        have hP2 := hP
        unfold PAl at hP2
        refine lv_aload_n hx hb dX10_reads_26 rfl (lv_at hl 0 rfl) ?_
        refine lv_iconst (v := 0) hx hb dX10_reads_27 (by decide) ?_
        refine mc_putX E hG t0 mp_350 (by decide) (by decide) rfl rfl dX10_reads_28 (fun H locs hG => ?_)
        have hG := kO_set (PRd_26) hG
        obtain ⟨F80, eF80⟩ : ∃ Z : mF, Z = up2 Fa 1 26 (0 : Int32) := ⟨_, rfl⟩
        rw [← eF80] at hG
        have hLF80 : LF F80 15 = LF Fa 15 ∧ F80 1 25 = Fa 1 25 := by rw [eF80, LF_up (by decide), up2_ne (by omega)]; exact hLFa
        have hpF80 : (F80 1 26).toInt = 0 := by rw [eF80, up2_at]; decide
        have hbF80 : (F80 1 27).toInt = (Fa 1 27).toInt := by rw [eF80, up2_ne (by omega)]
        have hrF80 : mRN Fa F80 := mRN.refl.put (Or.inl rfl) eF80
        refine lv_aload_n hx hb dX10_reads_31 rfl (lv_at hl 0 rfl) ?_
        refine lv_iconst (v := 0) hx hb dX10_reads_32 (by decide) ?_
        refine mc_putX E hG t0 mp_370 (by decide) (by decide) rfl rfl dX10_reads_33 (fun H locs hG => ?_)
        have hG := kO_set (PRd_30) hG
        obtain ⟨F81, eF81⟩ : ∃ Z : mF, Z = up2 F80 1 30 (0 : Int32) := ⟨_, rfl⟩
        rw [← eF81] at hG
        have hLF81 : LF F81 15 = LF Fa 15 ∧ F81 1 25 = Fa 1 25 := by rw [eF81, LF_up (by decide), up2_ne (by omega)]; exact hLF80
        have hpF81 : (F81 1 26).toInt = (F80 1 26).toInt := by rw [eF81, up2_ne (by omega)]
        have hbF81 : (F81 1 27).toInt = (F80 1 27).toInt := by rw [eF81, up2_ne (by omega)]
        refine lv_aload_n hx hb dX10_reads_36 rfl (lv_at hl 0 rfl) ?_
        refine lv_iconst (v := 0) hx hb dX10_reads_37 (by decide) ?_
        refine mc_putX E hG t0 mp_367 (by decide) (by decide) rfl rfl dX10_reads_38 (fun H locs hG => ?_)
        have hG := kO_set (PRd_32) hG
        obtain ⟨F82, eF82⟩ : ∃ Z : mF, Z = up2 F81 1 32 (0 : Int32) := ⟨_, rfl⟩
        rw [← eF82] at hG
        have hLF82 : LF F82 15 = LF Fa 15 ∧ F82 1 25 = Fa 1 25 := by rw [eF82, LF_up (by decide), up2_ne (by omega)]; exact hLF81
        have hpF82 : (F82 1 26).toInt = (F81 1 26).toInt := by rw [eF82, up2_ne (by omega)]
        have hbF82 : (F82 1 27).toInt = (F81 1 27).toInt := by rw [eF82, up2_ne (by omega)]
        refine lv_aload_n hx hb dX10_reads_41 rfl (lv_at hl 0 rfl) ?_
        refine lv_iconst (v := 0) hx hb dX10_reads_42 (by decide) ?_
        refine mc_putX E hG t0 mp_359 (by decide) (by decide) (t_nz (by decide) (by decide)).1 (t_nz (by decide) (by decide)).2 dX10_reads_43 (fun H locs hG => ?_)
        have hG := kO_set (PRd_27) hG
        obtain ⟨F83, eF83⟩ : ∃ Z : mF, Z = up2 F82 1 27 (0 : Int32) := ⟨_, rfl⟩
        rw [← eF83] at hG
        have hLF83 : LF F83 15 = LF Fa 15 ∧ F83 1 25 = Fa 1 25 := by rw [eF83, LF_up (by decide), up2_ne (by omega)]; exact hLF82
        have hpF83 : (F83 1 26).toInt = (F82 1 26).toInt := by rw [eF83, up2_ne (by omega)]
        have hbF83 : (F83 1 27).toInt = 0 := by rw [eF83, up2_at]; decide
        have hrF83 : mRN F82 F83 := mRN.refl.put (Or.inr rfl) eF83
        refine lv_iconst (v := 1) hx hb dX10_reads_46 (by decide) ?_
        refine lv_istore_n (lv' := [(2, .int 1), (0, .ref h0), (1, .int x1)]) hx hb dX10_reads_47 rfl hl (by decide) rfl (fun ls hl => ?_)
        have g30 : (F83 1 30).toInt = 0 := by rw [eF83, up2_ne (by decide), eF82, up2_ne (by decide), eF81, up2_at]; decide
        have g32 : (F83 1 32).toInt = 0 := by rw [eF83, up2_ne (by decide), eF82, up2_at]; decide
        have g26 : (F83 1 26).toInt = 0 := by rw [eF83, up2_ne (by decide), eF82, up2_ne (by decide), eF81, up2_ne (by decide), eF80, up2_at]; decide
        have hQ : RV (ta 3).toInt F83 := ⟨by omega, by have := hIa.1; omega, by omega, by omega, Or.inl g30, fun i hi => by omega, RD_0 (by omega)⟩
        have k1 := kI_1
        have hQg : LF F83 15 = LF (FM G) 15 ∧ F83 1 25 = FM G 1 25 := ⟨hLF83.1.trans hLG.1, hLF83.2.trans hLG.2⟩
        exact J48 (((1 : Int32).toInt * 30 - (F83 1 30).toInt + 30).toNat + 1) F83 H locs ls (1 : Int32) hG (lv_sub hl [1, 2, 0] rfl) (by omega) (by omega) (by decide) (by decide) (by exact ⟨Or.inl ⟨by omega, hQ, EVI_0 g30 g32 g26⟩, ⟨by omega, hP, hR⟩, hQg⟩) (Nat.lt_succ_self _)
      · skip
        have ic79 := tn_eq rfl kI_0 c79
        have hR : ¬ RMe ta x1.toInt := by
          rcases pr78 with ⟨w, -⟩ | ⟨-, w⟩
          · exact absurd w (by omega)
          · exact w
        refine lv_bipush (v := -3) hx hb dX10_reads_23 (by decide) ?_
        have hG := kO_drop (PRd_qn h17u h1u) hG
        exact mc_kretM (G := G) (M := FM G) (post := fun r Z W => ∃ t : Nat → Int32, Z = (σ, cu, qX (upA a cu t)) ∧ RDx G ta x1.toInt r t W ∧ TInv t) E hr hlk hG rfl rfl ⟨ta, rfl, Or.inr (Or.inl ⟨rfl, rfl, rfl, hP, hR⟩), hIa⟩ dX10_reads_25
    · skip
      have ic77 := tn_eq rfl kI_0 c77
      have hP : ¬ PAl ta x1.toInt := by unfold PAl; omega
      refine lv_iconst (v := -1) hx hb dX10_reads_13 (by decide) ?_
      have hG := kO_drop (PRd_qn h17u h1u) hG
      exact mc_kretM (G := G) (M := FM G) (post := fun r Z W => ∃ t : Nat → Int32, Z = (σ, cu, qX (upA a cu t)) ∧ RDx G ta x1.toInt r t W ∧ TInv t) E hr hlk hG rfl rfl ⟨ta, rfl, Or.inl ⟨rfl, rfl, rfl, hP⟩, hIa⟩ dX10_reads_14

