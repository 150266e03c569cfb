/-! ===== the reference: boxes go, move ===== -/
def DR (ta t : Nat → Int32) (x p i l : Int) : Prop := ∃ r : Int, 0 ≤ r ∧ r ≤ i ∧ r ≤ l ∧ K ta p (11 + r) = x ∧ MS ta t p r i 1
theorem gone2 {t t1 t2 : Nat → Int32} {k x : Int} {v w : Int32} (hk : 0 ≤ k) (hx : 0 ≤ x) (e1 : t1 = upN t (ix k 0) v) (hv : v.toInt = 0) (e2 : t2 = upN t1 (ix k 20) w) : (k = x → ¬ K t2 x 0 = 1) ∧ (¬ K t x 0 = 1 → ¬ K t2 x 0 = 1) ∧ t2 3 = t 3 := by
  have m1 := (ix_mod hk (by decide : (0 : Int) ≤ 0) (by decide)).2
  have m2 := (ix_mod hk (by decide : (0 : Int) ≤ 20) (by decide)).2
  have e0 : t2 (ix x 0) = t1 (ix x 0) := by rw [e2, upN_ne (fun q => by have := (ix_inj hx (by decide) (by decide) hk (by decide) (by decide) q).2; omega)]
  refine ⟨fun z h => ?_, fun z h => ?_, by rw [e2, upN_ne (by omega), e1, upN_ne (by omega)]⟩
  · have h : (t2 (ix x 0)).toInt = 1 := h
    rw [e0, e1, z, upN_at] at h; omega
  · have h : (t2 (ix x 0)).toInt = 1 := h
    rw [e0, e1] at h
    by_cases q : ix x 0 = ix k 0
    · rw [q, upN_at] at h; omega
    · rw [upN_ne q] at h; exact z h
set_option maxHeartbeats 4000000 in
set_option maxRecDepth 100000 in
theorem c_X10_drops (l : Launch) (G : tG) (σ : Nat → Nat) (cu : Nat) (a : Nat → Option (Nat → Int32)) (ta : Nat → Int32) (h0 : Nat) (x1 : Int32) (t0 : σ h0 = 1) (hIa : TInv ta) : Met l yX10_drops (.code yX10_drops cX10_drops 6 (some .int) :: tWS) (tRm 3 67) (va_Pc [.ref h0, .int x1] (mPre G (σ, cu, qX (upA a cu ta)))) (mQiX G (σ, cu, qX (upA a cu ta)) (fun r Z => ∃ t : Nat → Int32, Z = (σ, cu, qX (upA a cu t)) ∧ True ∧ TInv t)) 0 0 (mA (σ, cu, qX (upA a cu ta))) := by
  refine mc_met (by decide) (Nat.le_of_ble_eq_true rfl) ?_
  intro p e s m below meth c E hr hlk hG ls hl
  have hl : lv_has ls 6 [(0, .ref h0), (1, .int x1)] := hl
  have hx := E.1
  have hb := E.2.1
  obtain ⟨H, eH⟩ : ∃ H, H = s.heap := ⟨_, rfl⟩
  obtain ⟨locs, eL⟩ : ∃ x : List Loc, x = [] := ⟨_, rfl⟩
  have hG : mGH G (σ, cu, qX (upA a cu ta)) s H locs := by rw [eH, eL]; exact hG
  suffices hW : W p l e (tRm 3 67) s m ([.ref h0, .int x1] : List Value).toArray below meth c H locs 0 0 (MQ below (mQiX G (σ, cu, qX (upA a cu ta)) (fun r Z => ∃ t : Nat → Int32, Z = (σ, cu, qX (upA a cu t)) ∧ True ∧ TInv t)) ([.ref h0, .int x1] : List Value).toArray s 0 0 (mA (σ, cu, qX (upA a cu ta)))) (F0 m 0 ls []) by subst eH; subst eL; exact hW
  clear eH eL
  have hcu : mCu cu := hG.2.2.1
  have hI := hIa
  have hW := hIa.W
  have J145 : ∀ (n145 : Nat) (t : Nat → Int32) (H : Heap) (locs : List Loc) (ls : Array Slot) (v2 : Int32) (v3 : Int32) (v4 : Int32) (v5 : Int32), mGH G (σ, cu, qX (upA a cu t)) s H locs → lv_has ls 6 [(0, .ref h0), (1, .int x1), (2, .int v2), (3, .int v3), (4, .int v4), (5, .int v5)] → 0 ≤ x1.toInt → x1.toInt ≤ 23 → -1 ≤ v2.toInt → v2.toInt ≤ 23 → 0 ≤ v5.toInt → v5.toInt ≤ 24 → (DQ t x1.toInt ∧ (v5.toInt ≤ x1.toInt ∨ ¬ K t x1.toInt 0 = 1) ∧ bS v4 x1 ∧ v2.toInt < (t 3).toInt) → (24 - v5.toInt).toNat < n145 → W p l e (tRm 3 67) s m ([.ref h0, .int x1] : List Value).toArray below meth c H locs 0 0 (MQ below (mQiX G (σ, cu, qX (upA a cu ta)) (fun r Z => ∃ t : Nat → Int32, Z = (σ, cu, qX (upA a cu t)) ∧ True ∧ TInv t)) ([.ref h0, .int x1] : List Value).toArray s 0 0 (mA (σ, cu, qX (upA a cu ta)))) (F0 m 145 ls []) := by
    intro n145
    induction n145 with
    | zero => intro t H locs ls v2 v3 v4 v5 hG hl bp1 cp1 b2 c2 b5 c5 hex145 hn145; exact absurd hn145 (Nat.not_lt_zero _)
    | succ n145 ih145 =>
      intro t H locs ls v2 v3 v4 v5 hG hl bp1 cp1 b2 c2 b5 c5 hex145 hn145
      refine lv_iload hx hb dX10_drops_145 (lv_at hl 5 rfl) ?_
      refine lv_bipush (v := 24) hx hb dX10_drops_147 (by decide) ?_
      refine lv_icmp_ge (tgt := 189) hx hb dX10_drops_149 (by decide) (fun c1 => ?_) (fun c1 => ?_)
      · skip
        have ic1 := tn_le kI_24 rfl c1
        have hI : TInv t := by
          obtain ⟨th, g1, g2⟩ := hex145.1
          exact g1.2 _ g2 (by omega)
        refine lv_aload_n hx hb dX10_drops_189 rfl (lv_at hl 0 rfl) ?_
        refine lv_iload_n hx hb dX10_drops_190 rfl (lv_at hl 2 rfl) ?_
        refine mc_callvX hG (mc_runV (As := [.int v2]) (rest := []) E hG (c_X10_marks l G σ cu a t h0 v2 t0 (by omega) (by omega) hI (by first | omega | (have k1 := kI_m1; have hI1 := hI.1; omega))) t0 rfl kv_X10_marks ml_X10_113 ⟨rfl, rfl, Nat.le_of_ble_eq_true rfl, Nat.le_of_ble_eq_true rfl⟩ rfl hl.1 rfl (Nat.le_of_ble_eq_true rfl) ⟨Nat.zero_le _, Nat.zero_le _⟩ dX10_drops_191) (fun Z H locs eZ pZ hG => ?_)
        obtain ⟨t3, rfl, pt3, hI⟩ := pZ
        clear eZ
        have h3n : (t3 3).toInt = (t 3).toInt := by rw [pt3.2.1]
        have h0n : (t3 0).toInt = (t 0).toInt := by rw [pt3.1]
        refine lv_iload_n hx hb dX10_drops_194 rfl (lv_at hl 3 rfl) ?_
        exact mc_iretX E hr hlk hG rfl rfl ⟨_, rfl, trivial, hI⟩ dX10_drops_195
      · skip
        have ic1 := tn_nle kI_24 rfl c1
        refine lv_iload hx hb dX10_drops_152 (lv_at hl 4 rfl) ?_
        refine lv_iload hx hb dX10_drops_154 (lv_at hl 5 rfl) ?_
        refine lv_ishr hx hb dX10_drops_156 ?_
        refine lv_topi (fun z4 ez4 => ?_)
        refine lv_iconst (v := 1) hx hb dX10_drops_157 (by decide) ?_
        refine lv_iand hx hb dX10_drops_158 ?_
        refine lv_topi (fun z5 ez5 => ?_)
        refine lv_iconst (v := 1) hx hb dX10_drops_159 (by decide) ?_
        refine lv_icmp_ne (tgt := 183) hx hb dX10_drops_160 (by decide) (fun c6 => ?_) (fun c6 => ?_)
        · skip
          have ic6 := tn_ne rfl kI_1 c6
          obtain ⟨z7, ez7⟩ : ∃ y : Int32, y = v5 + (1) := ⟨_, rfl⟩
          refine lv_iinc (v := z7) (lv' := [(5, .int z7), (0, .ref h0), (1, .int x1), (2, .int v2), (3, .int v3), (4, .int v4)]) hx hb dX10_drops_183 hl (k := 5) rfl (by rw [ez7]; rfl) (by decide) rfl (fun ls hl => ?_)
          have tz7 := tn_add ez7 rfl kI_1 (by omega) (by omega)
          refine lv_goto (tgt := 145) hx hb dX10_drops_186 (by decide) ?_
          have hno : ¬ v5.toInt = x1.toInt := fun q => ic6 (by rw [ez5, ez4, (Int32.toInt_inj.mp q : v5 = x1)]; exact hex145.2.2.1)
          have hQ : DQ t x1.toInt ∧ (z7.toInt ≤ x1.toInt ∨ ¬ K t x1.toInt 0 = 1) ∧ bS v4 x1 := ⟨hex145.1, by omega, hex145.2.2.1⟩
          exact ih145 t H locs ls v2 v3 v4 z7 hG (lv_sub hl [1, 2, 3, 4, 5, 0] rfl) (by omega) (by omega) (by omega) (by omega) (by omega) (by omega) (by exact ⟨hQ.1, hQ.2.1, hQ.2.2, by omega⟩) (by omega)
        · skip
          have ic6 := tn_eq rfl kI_1 c6
          refine lv_aload_n hx hb dX10_drops_163 rfl (lv_at hl 0 rfl) ?_
          refine lv_iload hx hb dX10_drops_164 (lv_at hl 5 rfl) ?_
          refine lv_iconst (v := 0) hx hb dX10_drops_166 (by decide) ?_
          refine lv_iconst (v := 0) hx hb dX10_drops_167 (by decide) ?_
          have k8 := kI_0
          refine mc_callvX hG (mc_runV (As := [.int v5, .int 0, .int 0]) (rest := []) E hG (c_X10_putX l G (σ, cu, qX (upA a cu t)) h0 v5 (0 : Int32) (0 : Int32) t0 (by omega) (by omega) (by decide) (by decide) (0) (1) rfl (by omega) (by omega)) t0 rfl kv_X10_put ml_X10_102 ⟨rfl, rfl, Nat.le_of_ble_eq_true rfl, Nat.le_of_ble_eq_true rfl⟩ rfl hl.1 rfl (Nat.le_of_ble_eq_true rfl) ⟨Nat.zero_le _, Nat.zero_le _⟩ dX10_drops_168) (fun Z H locs eZ pZ hG => ?_)
          rw [pZ] at hG
          clear eZ pZ Z
          rw [show (0 : Int32).toInt = 0 from kI_0] at hG
          have hG := qX_set hcu (tr_y (by omega) (by omega) (by decide) (by decide)) hG
          obtain ⟨t9, et9⟩ : ∃ Z : Nat → Int32, Z = upN t (ix v5.toInt 0) (0 : Int32) := ⟨_, rfl⟩
          rw [← et9] at hG
          refine lv_aload_n hx hb dX10_drops_171 rfl (lv_at hl 0 rfl) ?_
          refine lv_iload hx hb dX10_drops_172 (lv_at hl 5 rfl) ?_
          refine lv_bipush (v := 20) hx hb dX10_drops_174 (by decide) ?_
          refine lv_iconst (v := 0) hx hb dX10_drops_176 (by decide) ?_
          have k10 := kI_0
          refine mc_callvX hG (mc_runV (As := [.int v5, .int 20, .int 0]) (rest := []) E hG (c_X10_putX l G (σ, cu, qX (upA a cu t9)) h0 v5 (20 : Int32) (0 : Int32) t0 (by omega) (by omega) (by decide) (by decide) (0) (1) rfl (by omega) (by omega)) t0 rfl kv_X10_put ml_X10_102 ⟨rfl, rfl, Nat.le_of_ble_eq_true rfl, Nat.le_of_ble_eq_true rfl⟩ rfl hl.1 rfl (Nat.le_of_ble_eq_true rfl) ⟨Nat.zero_le _, Nat.zero_le _⟩ dX10_drops_177) (fun Z H locs eZ pZ hG => ?_)
          rw [pZ] at hG
          clear eZ pZ Z
          rw [show (20 : Int32).toInt = 20 from kI_20] at hG
          have hG := qX_set hcu (tr_y (by omega) (by omega) (by decide) (by decide)) hG
          obtain ⟨t11, et11⟩ : ∃ Z : Nat → Int32, Z = upN t9 (ix v5.toInt 20) (0 : Int32) := ⟨_, rfl⟩
          rw [← et11] at hG
          obtain ⟨z12, ez12⟩ : ∃ y : Int32, y = v3 + (1) := ⟨_, rfl⟩
          refine lv_iinc (v := z12) (lv' := [(3, .int z12), (0, .ref h0), (1, .int x1), (2, .int v2), (4, .int v4), (5, .int v5)]) hx hb dX10_drops_180 hl (k := 3) rfl (by rw [ez12]; rfl) (by decide) rfl (fun ls hl => ?_)
          obtain ⟨z13, ez13⟩ : ∃ y : Int32, y = v5 + (1) := ⟨_, rfl⟩
          refine lv_iinc (v := z13) (lv' := [(5, .int z13), (3, .int z12), (0, .ref h0), (1, .int x1), (2, .int v2), (4, .int v4)]) hx hb dX10_drops_183 hl (k := 5) rfl (by rw [ez13]; rfl) (by decide) rfl (fun ls hl => ?_)
          have tz13 := tn_add ez13 rfl kI_1 (by omega) (by omega)
          refine lv_goto (tgt := 145) hx hb dX10_drops_186 (by decide) ?_
          have hg := gone2 (x := x1.toInt) (by omega) (by omega) et9 kI_0 et11
          have h3g : (t11 3).toInt = (t 3).toInt := by rw [hg.2.2]
          have hQ : DQ t11 x1.toInt ∧ (z13.toInt ≤ x1.toInt ∨ ¬ K t11 x1.toInt 0 = 1) ∧ bS v4 x1 := by
            obtain ⟨th, g1, g2⟩ := hex145.1
            refine ⟨⟨th, g1, (g2.put (by omega) (Or.inl rfl) kI_0 et9).put (by omega) (Or.inr rfl) kI_0 et11⟩, ?_, hex145.2.2.1⟩
            by_cases q : v5.toInt = x1.toInt
            · exact Or.inr (hg.1 q)
            · rcases hex145.2.1 with w | w
              · exact Or.inl (by omega)
              · exact Or.inr (hg.2.1 w)
          exact ih145 t11 H locs ls v2 z12 v4 z13 hG (lv_sub hl [2, 3, 4, 1, 5, 0] rfl) (by omega) (by omega) (by omega) (by omega) (by omega) (by omega) (by exact ⟨hQ.1, hQ.2.1, hQ.2.2, by omega⟩) (by omega)
  have J97 : ∀ (n97 : Nat) (t : Nat → Int32) (H : Heap) (locs : List Loc) (ls : Array Slot) (v2 : Int32) (v3 : Int32) (v4 : Int32) (v5 : Int32), mGH G (σ, cu, qX (upA a cu t)) s H locs → lv_has ls 6 [(0, .ref h0), (1, .int x1), (2, .int v2), (3, .int v3), (4, .int v4), (5, .int v5)] → 0 ≤ x1.toInt → x1.toInt ≤ 23 → -1 ≤ v2.toInt → v2.toInt ≤ 23 → 0 ≤ v3.toInt → v3.toInt ≤ 0 → 0 ≤ v5.toInt → v5.toInt ≤ 24 → (HS t x1.toInt ∧ K t x1.toInt 0 = 1 ∧ x1.toInt < (t 3).toInt ∧ (v5.toInt ≤ x1.toInt ∨ bS v4 x1) ∧ v2.toInt < (t 3).toInt) → (24 - v5.toInt).toNat < n97 → W p l e (tRm 3 67) s m ([.ref h0, .int x1] : List Value).toArray below meth c H locs 0 0 (MQ below (mQiX G (σ, cu, qX (upA a cu ta)) (fun r Z => ∃ t : Nat → Int32, Z = (σ, cu, qX (upA a cu t)) ∧ True ∧ TInv t)) ([.ref h0, .int x1] : List Value).toArray s 0 0 (mA (σ, cu, qX (upA a cu ta)))) (F0 m 97 ls []) := by
    intro n97
    induction n97 with
    | zero => intro t H locs ls v2 v3 v4 v5 hG hl bp1 cp1 b2 c2 b3 c3 b5 c5 hex97 hn97; exact absurd hn97 (Nat.not_lt_zero _)
    | succ n97 ih97 =>
      intro t H locs ls v2 v3 v4 v5 hG hl bp1 cp1 b2 c2 b3 c3 b5 c5 hex97 hn97
      have hW := hex97.1.1
      refine lv_iload hx hb dX10_drops_97 (lv_at hl 5 rfl) ?_
      refine lv_bipush (v := 24) hx hb dX10_drops_99 (by decide) ?_
      refine lv_icmp_ge (tgt := 142) hx hb dX10_drops_101 (by decide) (fun c14 => ?_) (fun c14 => ?_)
      · skip
        have ic14 := tn_le kI_24 rfl c14
        refine lv_iconst (v := 0) hx hb dX10_drops_142 (by decide) ?_
        refine lv_istore (lv' := [(5, .int 0), (0, .ref h0), (1, .int x1), (2, .int v2), (3, .int v3), (4, .int v4)]) hx hb dX10_drops_143 hl (by decide) rfl (fun ls hl => ?_)
        have hQ : DQ t x1.toInt ∧ ((0 : Int32).toInt ≤ x1.toInt ∨ ¬ K t x1.toInt 0 = 1) ∧ bS v4 x1 := ⟨⟨t, hex97.1, dRM.refl⟩, Or.inl (by have k0 := kI_0; omega), by rcases hex97.2.2.2.1 with w | w; exact absurd w (by omega); exact w⟩
        exact J145 ((24 - (0 : Int32).toInt).toNat + 1) t H locs ls v2 v3 v4 (0 : Int32) hG (lv_sub hl [1, 2, 3, 4, 5, 0] rfl) (by omega) (by omega) (by omega) (by omega) (by decide) (by decide) (by exact ⟨hQ.1, hQ.2.1, hQ.2.2, by omega⟩) (Nat.lt_succ_self _)
      · skip
        have ic14 := tn_nle kI_24 rfl c14
        refine lv_iload hx hb dX10_drops_104 (lv_at hl 4 rfl) ?_
        refine lv_aload_n hx hb dX10_drops_106 rfl (lv_at hl 0 rfl) ?_
        refine lv_iload hx hb dX10_drops_107 (lv_at hl 5 rfl) ?_
        refine tc_callp (mc_runV (As := [.int v5]) (rest := [.int v4]) E hG (c_X10_isBox l G (σ, cu, qX (upA a cu t)) h0 v5 t0) t0 rfl kv_X10_isBox ml_X10_127 ⟨rfl, rfl, Nat.le_of_ble_eq_true rfl, Nat.le_of_ble_eq_true rfl⟩ rfl hl.1 rfl (Nat.le_of_ble_eq_true rfl) ⟨Nat.zero_le _, Nat.zero_le _⟩ dX10_drops_109) (fun r15 pr15 => ?_)
        replace pr15 : (r15.toInt = 1 ∧ 0 ≤ v5.toInt ∧ v5.toInt ≤ 23 ∧ mV (σ, cu, qX (upA a cu t)) (ix v5.toInt 0) 1) ∨ (r15.toInt = 0 ∧ (v5.toInt < 0 ∨ 23 < v5.toInt ∨ ∃ v : Int32, ¬ v.toInt = 1 ∧ mV (σ, cu, qX (upA a cu t)) (ix v5.toInt 0) v)) := pr15
        have cr15 := mBw pr15 (qX_TI hcu upA_at) hW
        clear pr15
        refine lv_if_eq (tgt := 132) hx hb dX10_drops_112 (by decide) (fun c16 => ?_) (fun c16 => ?_)
        · skip
          have ic16 := tn_eq rfl kI_0 c16
          refine lv_iconst (v := 0) hx hb dX10_drops_132 (by decide) ?_
          refine lv_ior hx hb dX10_drops_133 ?_
          refine lv_topi (fun z17 ez17 => ?_)
          refine lv_istore (lv' := [(4, .int z17), (0, .ref h0), (1, .int x1), (2, .int v2), (3, .int v3), (5, .int v5)]) hx hb dX10_drops_134 hl (by decide) rfl (fun ls hl => ?_)
          obtain ⟨z18, ez18⟩ : ∃ y : Int32, y = v5 + (1) := ⟨_, rfl⟩
          refine lv_iinc (v := z18) (lv' := [(5, .int z18), (4, .int z17), (0, .ref h0), (1, .int x1), (2, .int v2), (3, .int v3)]) hx hb dX10_drops_136 hl (k := 5) rfl (by rw [ez18]; rfl) (by decide) rfl (fun ls hl => ?_)
          have tz18 := tn_add ez18 rfl kI_1 (by omega) (by omega)
          refine lv_goto (tgt := 97) hx hb dX10_drops_139 (by decide) ?_
          have hQ : HS t x1.toInt ∧ (z18.toInt ≤ x1.toInt ∨ bS z17 x1) := by
            refine ⟨hex97.1, ?_⟩
            have hno : ¬ v5.toInt = x1.toInt := fun q => by rw [q] at cr15; omega
            by_cases q : v5.toInt = x1.toInt
            · exact absurd q hno
            · rcases hex97.2.2.2.1 with w | w
              · exact Or.inl (by omega)
              · rw [ez17]; exact Or.inr (b24_or (by omega) (by omega) w)
          exact ih97 t H locs ls v2 v3 z17 z18 hG (lv_sub hl [2, 3, 4, 5, 1, 0] rfl) (by omega) (by omega) (by omega) (by omega) (by omega) (by omega) (by omega) (by omega) (by exact ⟨hQ.1, by omega, by omega, hQ.2, by omega⟩) (by omega)
        · skip
          have ic16 := tn_ne rfl kI_0 c16
          refine lv_aload_n hx hb dX10_drops_115 rfl (lv_at hl 0 rfl) ?_
          refine lv_iload hx hb dX10_drops_116 (lv_at hl 5 rfl) ?_
          refine lv_iload_n hx hb dX10_drops_118 rfl (lv_at hl 1 rfl) ?_
          refine tc_callp (mc_runV (As := [.int v5, .int x1]) (rest := [.int v4]) E hG (c_X10_isInW l G (σ, cu, qX (upA a cu t)) h0 v5 x1 t0 (by omega) (by omega) t (qX_TI hcu upA_at) hW (by omega)) t0 rfl kv_X10_isIn ml_X10_159 ⟨rfl, rfl, Nat.le_of_ble_eq_true rfl, Nat.le_of_ble_eq_true rfl⟩ rfl hl.1 rfl (Nat.le_of_ble_eq_true rfl) ⟨Nat.zero_le _, Nat.zero_le _⟩ dX10_drops_119) (fun r19 pr19 => ?_)
          replace pr19 : (0 ≤ r19.toInt ∧ r19.toInt ≤ 1) ∧ (¬ v5.toInt = x1.toInt ∨ r19.toInt = 1) := pr19
          refine lv_if_eq (tgt := 132) hx hb dX10_drops_122 (by decide) (fun c20 => ?_) (fun c20 => ?_)
          · skip
            have ic20 := tn_eq rfl kI_0 c20
            refine lv_iconst (v := 0) hx hb dX10_drops_132 (by decide) ?_
            refine lv_ior hx hb dX10_drops_133 ?_
            refine lv_topi (fun z21 ez21 => ?_)
            refine lv_istore (lv' := [(4, .int z21), (0, .ref h0), (1, .int x1), (2, .int v2), (3, .int v3), (5, .int v5)]) hx hb dX10_drops_134 hl (by decide) rfl (fun ls hl => ?_)
            obtain ⟨z22, ez22⟩ : ∃ y : Int32, y = v5 + (1) := ⟨_, rfl⟩
            refine lv_iinc (v := z22) (lv' := [(5, .int z22), (4, .int z21), (0, .ref h0), (1, .int x1), (2, .int v2), (3, .int v3)]) hx hb dX10_drops_136 hl (k := 5) rfl (by rw [ez22]; rfl) (by decide) rfl (fun ls hl => ?_)
            have tz22 := tn_add ez22 rfl kI_1 (by omega) (by omega)
            refine lv_goto (tgt := 97) hx hb dX10_drops_139 (by decide) ?_
            have hQ : HS t x1.toInt ∧ (z22.toInt ≤ x1.toInt ∨ bS z21 x1) := by
              refine ⟨hex97.1, ?_⟩
              have hno : ¬ v5.toInt = x1.toInt := fun q => by omega
              by_cases q : v5.toInt = x1.toInt
              · exact absurd q hno
              · rcases hex97.2.2.2.1 with w | w
                · exact Or.inl (by omega)
                · rw [ez21]; exact Or.inr (b24_or (by omega) (by omega) w)
            exact ih97 t H locs ls v2 v3 z21 z22 hG (lv_sub hl [2, 3, 4, 5, 1, 0] rfl) (by omega) (by omega) (by omega) (by omega) (by omega) (by omega) (by omega) (by omega) (by exact ⟨hQ.1, by omega, by omega, hQ.2, by omega⟩) (by omega)
          · skip
            have ic20 := tn_ne rfl kI_0 c20
            refine lv_iconst (v := 1) hx hb dX10_drops_125 (by decide) ?_
            refine lv_iload hx hb dX10_drops_126 (lv_at hl 5 rfl) ?_
            refine lv_ishl hx hb dX10_drops_128 ?_
            refine lv_topi (fun z23 ez23 => ?_)
            refine lv_goto (tgt := 133) hx hb dX10_drops_129 (by decide) ?_
            refine lv_ior hx hb dX10_drops_133 ?_
            refine lv_topi (fun z24 ez24 => ?_)
            refine lv_istore (lv' := [(4, .int z24), (0, .ref h0), (1, .int x1), (2, .int v2), (3, .int v3), (5, .int v5)]) hx hb dX10_drops_134 hl (by decide) rfl (fun ls hl => ?_)
            obtain ⟨z25, ez25⟩ : ∃ y : Int32, y = v5 + (1) := ⟨_, rfl⟩
            refine lv_iinc (v := z25) (lv' := [(5, .int z25), (4, .int z24), (0, .ref h0), (1, .int x1), (2, .int v2), (3, .int v3)]) hx hb dX10_drops_136 hl (k := 5) rfl (by rw [ez25]; rfl) (by decide) rfl (fun ls hl => ?_)
            have tz25 := tn_add ez25 rfl kI_1 (by omega) (by omega)
            refine lv_goto (tgt := 97) hx hb dX10_drops_139 (by decide) ?_
            have hQ : HS t x1.toInt ∧ (z25.toInt ≤ x1.toInt ∨ bS z24 x1) := by
              refine ⟨hex97.1, ?_⟩
              by_cases q : v5.toInt = x1.toInt
              · rw [ez24, ez23, ← (Int32.toInt_inj.mp q : v5 = x1)]; exact Or.inr (b24_or1 (by omega) (by omega))
              · rcases hex97.2.2.2.1 with w | w
                · exact Or.inl (by omega)
                · rw [ez24]; exact Or.inr (b24_or (by omega) (by omega) w)
            exact ih97 t H locs ls v2 v3 z24 z25 hG (lv_sub hl [2, 3, 4, 5, 1, 0] rfl) (by omega) (by omega) (by omega) (by omega) (by omega) (by omega) (by omega) (by omega) (by exact ⟨hQ.1, by omega, by omega, hQ.2, by omega⟩) (by omega)
  have J40 : ∀ (n40 : Nat) (t : Nat → Int32) (H : Heap) (locs : List Loc) (ls : Array Slot) (v2 : Int32) (v3 : Int32) (v4 : Int32) (v5 : Int32), mGH G (σ, cu, qX (upA a cu t)) s H locs → lv_has ls 6 [(0, .ref h0), (1, .int x1), (2, .int v2), (3, .int v3), (4, .int v4), (5, .int v5)] → 0 ≤ x1.toInt → x1.toInt ≤ 23 → 0 ≤ v2.toInt → v2.toInt ≤ 23 → 0 ≤ v3.toInt → v3.toInt ≤ 0 → 0 ≤ v4.toInt → v4.toInt ≤ 7 → 0 ≤ v5.toInt → v5.toInt ≤ 7 → (DR ta t x1.toInt v2.toInt v5.toInt v4.toInt ∧ v4.toInt = K ta v2.toInt 10 - 1 ∧ v2.toInt = K ta x1.toInt 9 ∧ v5.toInt ≤ v4.toInt ∧ K ta x1.toInt 0 = 1 ∧ x1.toInt < (ta 3).toInt ∧ v2.toInt < x1.toInt) → (7 - v5.toInt).toNat < n40 → W p l e (tRm 3 67) s m ([.ref h0, .int x1] : List Value).toArray below meth c H locs 0 0 (MQ below (mQiX G (σ, cu, qX (upA a cu ta)) (fun r Z => ∃ t : Nat → Int32, Z = (σ, cu, qX (upA a cu t)) ∧ True ∧ TInv t)) ([.ref h0, .int x1] : List Value).toArray s 0 0 (mA (σ, cu, qX (upA a cu ta)))) (F0 m 40 ls []) := by
    intro n40
    induction n40 with
    | zero => intro t H locs ls v2 v3 v4 v5 hG hl bp1 cp1 b2 c2 b3 c3 b4 c4 b5 c5 hex40 hn40; exact absurd hn40 (Nat.not_lt_zero _)
    | succ n40 ih40 =>
      intro t H locs ls v2 v3 v4 v5 hG hl bp1 cp1 b2 c2 b3 c3 b4 c4 b5 c5 hex40 hn40
      refine lv_iload hx hb dX10_drops_40 (lv_at hl 5 rfl) ?_
      refine lv_iload hx hb dX10_drops_42 (lv_at hl 4 rfl) ?_
      refine lv_icmp_ge (tgt := 72) hx hb dX10_drops_44 (by decide) (fun c26 => ?_) (fun c26 => ?_)
      · skip
        have ic26 := tn_le rfl rfl c26
        refine lv_aload_n hx hb dX10_drops_72 rfl (lv_at hl 0 rfl) ?_
        refine lv_iload_n hx hb dX10_drops_73 rfl (lv_at hl 2 rfl) ?_
        refine lv_bipush (v := 10) hx hb dX10_drops_74 (by decide) ?_
        refine lv_iload hx hb dX10_drops_76 (lv_at hl 4 rfl) ?_
        refine mc_callvX hG (mc_runV (As := [.int v2, .int 10, .int v4]) (rest := []) E hG (c_X10_putX l G (σ, cu, qX (upA a cu t)) h0 v2 (10 : Int32) v4 t0 (by omega) (by omega) (by decide) (by decide) (0) (8) rfl (by omega) (by omega)) t0 rfl kv_X10_put ml_X10_102 ⟨rfl, rfl, Nat.le_of_ble_eq_true rfl, Nat.le_of_ble_eq_true rfl⟩ rfl hl.1 rfl (Nat.le_of_ble_eq_true rfl) ⟨Nat.zero_le _, Nat.zero_le _⟩ dX10_drops_78) (fun Z H locs eZ pZ hG => ?_)
        rw [pZ] at hG
        clear eZ pZ Z
        rw [show (10 : Int32).toInt = 10 from kI_10] at hG
        have hG := qX_set hcu (tr_y (by omega) (by omega) (by decide) (by decide)) hG
        obtain ⟨t27, et27⟩ : ∃ Z : Nat → Int32, Z = upN t (ix v2.toInt 10) v4 := ⟨_, rfl⟩
        rw [← et27] at hG
        refine lv_goto (tgt := 91) hx hb dX10_drops_81 (by decide) ?_
        have hH : HS t27 x1.toInt ∧ t27 3 = ta 3 ∧ (∀ b : Int, 0 ≤ b → b ≤ 23 → K t27 b 0 = K ta b 0) := by
          obtain ⟨r, r0, r1, r2, r3, r4⟩ := hex40.1
          rw [show v5.toInt = K ta v2.toInt 10 - 1 by omega] at r4
          exact HS_cut hIa r4 (by omega) (by omega) rfl r0 (by omega) r3 et27 (by omega)
        have h3h : (t27 3).toInt = (ta 3).toInt := by rw [hH.2.1]
        have hxh : K t27 x1.toInt 0 = 1 := by rw [hH.2.2 _ (by omega) (by omega)]; omega
        refine lv_iconst (v := 0) hx hb dX10_drops_91 (by decide) ?_
        refine lv_istore (lv' := [(4, .int 0), (0, .ref h0), (1, .int x1), (2, .int v2), (3, .int v3), (5, .int v5)]) hx hb dX10_drops_92 hl (by decide) rfl (fun ls hl => ?_)
        refine lv_iconst (v := 0) hx hb dX10_drops_94 (by decide) ?_
        refine lv_istore (lv' := [(5, .int 0), (4, .int 0), (0, .ref h0), (1, .int x1), (2, .int v2), (3, .int v3)]) hx hb dX10_drops_95 hl (by decide) rfl (fun ls hl => ?_)
        have hQ : HS t27 x1.toInt ∧ ((0 : Int32).toInt ≤ x1.toInt ∨ bS (0 : Int32) x1) := ⟨hH.1, Or.inl (by have k0 := kI_0; omega)⟩
        exact J97 ((24 - (0 : Int32).toInt).toNat + 1) t27 H locs ls v2 v3 (0 : Int32) (0 : Int32) hG (lv_sub hl [2, 3, 4, 5, 1, 0] rfl) (by omega) (by omega) (by omega) (by omega) (by omega) (by omega) (by decide) (by decide) (by exact ⟨hQ.1, by omega, by omega, hQ.2, by omega⟩) (Nat.lt_succ_self _)
      · skip
        have ic26 := tn_nle rfl rfl c26
        refine lv_aload_n hx hb dX10_drops_47 rfl (lv_at hl 0 rfl) ?_
        refine lv_iload_n hx hb dX10_drops_48 rfl (lv_at hl 2 rfl) ?_
        refine lv_bipush (v := 11) hx hb dX10_drops_49 (by decide) ?_
        refine lv_iload hx hb dX10_drops_51 (lv_at hl 5 rfl) ?_
        refine lv_iadd hx hb dX10_drops_53 ?_
        refine lv_topi (fun z28 ez28 => ?_)
        have tz28 := tn_add ez28 kI_11 rfl (by omega) (by omega)
        refine lv_aload_n hx hb dX10_drops_54 rfl (lv_at hl 0 rfl) ?_
        refine lv_iload_n hx hb dX10_drops_55 rfl (lv_at hl 2 rfl) ?_
        refine lv_iload hx hb dX10_drops_56 (lv_at hl 5 rfl) ?_
        refine lv_iconst (v := 1) hx hb dX10_drops_58 (by decide) ?_
        refine lv_iadd hx hb dX10_drops_59 ?_
        refine lv_topi (fun z29 ez29 => ?_)
        have tz29 := tn_add ez29 rfl kI_1 (by omega) (by omega)
        refine tc_callp (mc_runV (As := [.int v2, .int z29]) (rest := [.int z28, .int v2, .ref h0]) E hG (c_X10_childOf l G (σ, cu, qX (upA a cu t)) h0 v2 z29 t0 (by omega) (by omega) (by omega) (by omega)) t0 rfl kv_X10_childOf ml_X10_153 ⟨rfl, rfl, Nat.le_of_ble_eq_true rfl, Nat.le_of_ble_eq_true rfl⟩ rfl hl.1 rfl (Nat.le_of_ble_eq_true rfl) ⟨Nat.zero_le _, Nat.zero_le _⟩ dX10_drops_60) (fun r30 pr30 => ?_)
        replace pr30 : mV (σ, cu, qX (upA a cu t)) (ix v2.toInt (11 + z29.toInt)) r30 := pr30
        have br30 := mV_r 11 18 0 23 pr30 (by omega) (by omega) (by omega) (by decide) (by decide)
        have cr30 := mT pr30 (qX_TI hcu upA_at) (by omega) (by omega) (by omega) (by omega)
        have k31 : fR z28.toInt.toNat = (0, 23) := by rcases (show z28.toInt = 11 ∨ z28.toInt = 12 ∨ z28.toInt = 13 ∨ z28.toInt = 14 ∨ z28.toInt = 15 ∨ z28.toInt = 16 ∨ z28.toInt = 17 ∨ z28.toInt = 18 by omega) with h9 | h9 | h9 | h9 | h9 | h9 | h9 | h9 <;> rw [h9] <;> rfl
        refine mc_callvX hG (mc_runV (As := [.int v2, .int z28, .int r30]) (rest := []) E hG (c_X10_putX l G (σ, cu, qX (upA a cu t)) h0 v2 z28 r30 t0 (by omega) (by omega) (by omega) (by omega) _ _ k31 (by omega) (by omega)) t0 rfl kv_X10_put ml_X10_102 ⟨rfl, rfl, Nat.le_of_ble_eq_true rfl, Nat.le_of_ble_eq_true rfl⟩ rfl hl.1 rfl (Nat.le_of_ble_eq_true rfl) ⟨Nat.zero_le _, Nat.zero_le _⟩ dX10_drops_63) (fun Z H locs eZ pZ hG => ?_)
        rw [pZ] at hG
        clear eZ pZ Z
        have hG := qX_put hcu hG
        obtain ⟨t32, et32⟩ : ∃ Z : Nat → Int32, Z = upN t (ix v2.toInt z28.toInt) r30 := ⟨_, rfl⟩
        rw [← et32] at hG
        obtain ⟨z33, ez33⟩ : ∃ y : Int32, y = v5 + (1) := ⟨_, rfl⟩
        refine lv_iinc (v := z33) (lv' := [(5, .int z33), (0, .ref h0), (1, .int x1), (2, .int v2), (3, .int v3), (4, .int v4)]) hx hb dX10_drops_66 hl (k := 5) rfl (by rw [ez33]; rfl) (by decide) rfl (fun ls hl => ?_)
        have tz33 := tn_add ez33 rfl kI_1 (by omega) (by omega)
        refine lv_goto (tgt := 40) hx hb dX10_drops_69 (by decide) ?_
        have hQ : DR ta t32 x1.toInt v2.toInt z33.toInt v4.toInt := by
          obtain ⟨r, r0, r1, r2, r3, r4⟩ := hex40.1
          exact ⟨r, r0, by omega, r2, r3, MS_s r4 (by omega) (Or.inl ⟨rfl, r1⟩) (by omega) (by omega) (by omega) (by omega) (by omega) (by omega) (Int32.toInt_inj.mp (by rw [cr30, show 11 + z29.toInt = 11 + (v5.toInt + 1) by omega])) et32⟩
        exact ih40 t32 H locs ls v2 v3 v4 z33 hG (lv_sub hl [1, 2, 3, 4, 5, 0] rfl) (by omega) (by omega) (by omega) (by omega) (by omega) (by omega) (by omega) (by omega) (by omega) (by omega) (by exact ⟨hQ, by omega, by omega, by omega, by omega, by omega, by omega⟩) (by omega)
  refine lv_aload_n hx hb dX10_drops_0 rfl (lv_at hl 0 rfl) ?_
  refine lv_iload_n hx hb dX10_drops_1 rfl (lv_at hl 1 rfl) ?_
  refine tc_callp (mc_runV (As := [.int x1]) (rest := []) E hG (c_X10_isBox l G (σ, cu, qX (upA a cu ta)) h0 x1 t0) t0 rfl kv_X10_isBox ml_X10_127 ⟨rfl, rfl, Nat.le_of_ble_eq_true rfl, Nat.le_of_ble_eq_true rfl⟩ rfl hl.1 rfl (Nat.le_of_ble_eq_true rfl) ⟨Nat.zero_le _, Nat.zero_le _⟩ dX10_drops_2) (fun r34 pr34 => ?_)
  replace pr34 : (r34.toInt = 1 ∧ 0 ≤ x1.toInt ∧ x1.toInt ≤ 23 ∧ mV (σ, cu, qX (upA a cu ta)) (ix x1.toInt 0) 1) ∨ (r34.toInt = 0 ∧ (x1.toInt < 0 ∨ 23 < x1.toInt ∨ ∃ v : Int32, ¬ v.toInt = 1 ∧ mV (σ, cu, qX (upA a cu ta)) (ix x1.toInt 0) v)) := pr34
  have cr34 := mBw pr34 (qX_TI hcu upA_at) hW
  clear pr34
  refine lv_if_ne (tgt := 10) hx hb dX10_drops_5 (by decide) (fun c35 => ?_) (fun c35 => ?_)
  · skip
    have ic35 := tn_ne rfl kI_0 c35
    refine lv_aload_n hx hb dX10_drops_10 rfl (lv_at hl 0 rfl) ?_
    refine lv_iload_n hx hb dX10_drops_11 rfl (lv_at hl 1 rfl) ?_
    refine lv_bipush (v := 9) hx hb dX10_drops_12 (by decide) ?_
    refine tc_callp (mc_runV (As := [.int x1, .int 9]) (rest := []) E hG (c_X10_get l G (σ, cu, qX (upA a cu ta)) h0 x1 (9 : Int32) t0 (by omega) (by omega) (by decide) (by decide)) t0 rfl kv_X10_get ml_X10_91 ⟨rfl, rfl, Nat.le_of_ble_eq_true rfl, Nat.le_of_ble_eq_true rfl⟩ rfl hl.1 rfl (Nat.le_of_ble_eq_true rfl) ⟨Nat.zero_le _, Nat.zero_le _⟩ dX10_drops_14) (fun r36 pr36 => ?_)
    replace pr36 : mV (σ, cu, qX (upA a cu ta)) (ix x1.toInt (9 : Int32).toInt) r36 := pr36
    have pr36 := mV_l pr36 kI_9
    have br36 := mV_9 pr36 (by omega)
    have cr36 := mT pr36 (qX_TI hcu upA_at) (by omega) (by omega) (by decide) (by decide)
    have dr36 := mP9w cr36 hW (by omega)
    have k37 := kI_9
    refine lv_istore_n (lv' := [(2, .int r36), (0, .ref h0), (1, .int x1)]) hx hb dX10_drops_17 rfl hl (by decide) rfl (fun ls hl => ?_)
    refine lv_iconst (v := 0) hx hb dX10_drops_18 (by decide) ?_
    refine lv_istore_n (lv' := [(3, .int 0), (2, .int r36), (0, .ref h0), (1, .int x1)]) hx hb dX10_drops_19 rfl hl (by decide) rfl (fun ls hl => ?_)
    refine lv_iload_n hx hb dX10_drops_20 rfl (lv_at hl 1 rfl) ?_
    refine lv_if_lt (tgt := 84) hx hb dX10_drops_21 (by decide) (fun c38 => ?_) (fun c38 => ?_)
    · skip
      have ic38 := tn_lt rfl kI_0 c38
      refine lv_aload_n hx hb dX10_drops_84 rfl (lv_at hl 2 rfl) ?_
      refine mc_getn E hG t0 ff_X10_9 dX10_drops_85 (fun oa39 hoa39 => ?_)
      refine lv_iconst (v := 0) hx hb dX10_drops_88 (by decide) ?_
      refine lv_iconst (v := -1) hx hb dX10_drops_89 (by decide) ?_
      refine mc_nastX E hG hoa39 hG.2.2.1 (t_in (by decide) (by decide)) (lo := -1) (hi := 23) rfl (by decide) (by decide) dX10_drops_90 (fun H locs hG => ?_)
      have hG := qX_set (k := 0) hcu rfl hG
      obtain ⟨t40, et40⟩ : ∃ Z : Nat → Int32, Z = upN ta 0 (-1 : Int32) := ⟨_, rfl⟩
      rw [← et40] at hG
      have hH := HS_top (x := x1.toInt) hIa (by omega) (by omega) (by omega) (by omega) et40 kI_m1
      have h3h : (t40 3).toInt = (ta 3).toInt := by rw [hH.2.1]
      have hxh : K t40 x1.toInt 0 = 1 := by rw [hH.2.2 _ (by omega) (by omega)]; omega
      refine lv_iconst (v := 0) hx hb dX10_drops_91 (by decide) ?_
      refine lv_istore (lv' := [(4, .int 0), (3, .int 0), (2, .int r36), (0, .ref h0), (1, .int x1)]) hx hb dX10_drops_92 hl (by decide) rfl (fun ls hl => ?_)
      refine lv_iconst (v := 0) hx hb dX10_drops_94 (by decide) ?_
      refine lv_istore (lv' := [(5, .int 0), (4, .int 0), (3, .int 0), (2, .int r36), (0, .ref h0), (1, .int x1)]) hx hb dX10_drops_95 hl (by decide) rfl (fun ls hl => ?_)
      have hQ : HS t40 x1.toInt ∧ ((0 : Int32).toInt ≤ x1.toInt ∨ bS (0 : Int32) x1) := ⟨hH.1, Or.inl (by have k0 := kI_0; omega)⟩
      exact J97 ((24 - (0 : Int32).toInt).toNat + 1) t40 H locs ls r36 (0 : Int32) (0 : Int32) (0 : Int32) hG (lv_sub hl [4, 5, 3, 2, 1, 0] rfl) (by omega) (by omega) (by omega) (by omega) (by decide) (by decide) (by decide) (by decide) (by exact ⟨hQ.1, by omega, by omega, hQ.2, by omega⟩) (Nat.lt_succ_self _)
    · skip
      have ic38 := tn_nlt rfl kI_0 c38
      refine lv_aload_n hx hb dX10_drops_24 rfl (lv_at hl 2 rfl) ?_
      refine lv_iload_n hx hb dX10_drops_25 rfl (lv_at hl 1 rfl) ?_
      refine tc_callp (mc_runV (As := [.int r36]) (rest := []) E hG (c_X10_manyOf l G (σ, cu, qX (upA a cu ta)) h0 r36 t0 (by omega) (by omega)) t0 rfl kv_X10_manyOf ml_X10_117 ⟨rfl, rfl, Nat.le_of_ble_eq_true rfl, Nat.le_of_ble_eq_true rfl⟩ rfl hl.1 rfl (Nat.le_of_ble_eq_true rfl) ⟨Nat.zero_le _, Nat.zero_le _⟩ dX10_drops_26) (fun r41 pr41 => ?_)
      replace pr41 : mV (σ, cu, qX (upA a cu ta)) (ix r36.toInt 10) r41 := pr41
      have br41 := mV_10 pr41 (by omega)
      have cr41 := mT pr41 (qX_TI hcu upA_at) (by omega) (by omega) (by decide) (by decide)
      refine lv_iconst (v := 1) hx hb dX10_drops_29 (by decide) ?_
      refine lv_isub hx hb dX10_drops_30 ?_
      refine lv_topi (fun z42 ez42 => ?_)
      have tz42 := tn_sub ez42 rfl kI_1 (by omega) (by omega)
      refine lv_istore (lv' := [(4, .int z42), (3, .int 0), (2, .int r36), (0, .ref h0), (1, .int x1)]) hx hb dX10_drops_31 hl (by decide) rfl (fun ls hl => ?_)
      obtain ⟨i0, h00, h02, h03⟩ := hIa.2.2.2.2.2.1 x1.toInt (by omega) (by omega) (by omega) (by omega)
      have h8p := hIa.2.2.2.2.2.2.2.2 (K ta x1.toInt 9) (by omega) (by omega)
      refine lv_aload_n hx hb dX10_drops_33 rfl (lv_at hl 3 rfl) ?_
      refine lv_iload_n hx hb dX10_drops_34 rfl (lv_at hl 4 rfl) ?_
      refine tc_callp (mc_runV (As := [.int x1]) (rest := []) E hG (c_X10_placeOf l G (σ, cu, qX (upA a cu ta)) h0 x1 t0 (by omega) (by omega) ta (qX_TI hcu upA_at) hIa (by omega) i0 h00 (by omega) h03) t0 rfl kv_X10_placeOf ml_X10_156 ⟨rfl, rfl, Nat.le_of_ble_eq_true rfl, Nat.le_of_ble_eq_true rfl⟩ rfl hl.1 rfl (Nat.le_of_ble_eq_true rfl) ⟨Nat.zero_le _, Nat.zero_le _⟩ dX10_drops_35) (fun r43 pr43 => ?_)
      replace pr43 : 0 ≤ r43.toInt ∧ r43.toInt ≤ i0 ∧ K ta (K ta x1.toInt 9) (11 + r43.toInt) = x1.toInt := pr43
      refine lv_istore (lv' := [(5, .int r43), (4, .int z42), (3, .int 0), (2, .int r36), (0, .ref h0), (1, .int x1)]) hx hb dX10_drops_38 hl (by decide) rfl (fun ls hl => ?_)
      have h8q : r43.toInt < K ta r36.toInt 10 ∧ K ta r36.toInt 10 ≤ 8 := by rw [cr36]; omega
      have hQ : DR ta ta x1.toInt r36.toInt r43.toInt z42.toInt := ⟨r43.toInt, by omega, by omega, by omega, by rw [cr36]; exact pr43.2.2, MS_0⟩
      exact J40 ((7 - r43.toInt).toNat + 1) ta H locs ls r36 (0 : Int32) z42 r43 hG (lv_sub hl [4, 5, 3, 2, 1, 0] rfl) (by omega) (by omega) (by omega) (by omega) (by decide) (by decide) (by omega) (by omega) (by omega) (by omega) (by exact ⟨hQ, by omega, by omega, by omega, by omega, by omega, by omega⟩) (Nat.lt_succ_self _)
  · skip
    have ic35 := tn_eq rfl kI_0 c35
    refine lv_iconst (v := -1) hx hb dX10_drops_8 (by decide) ?_
    exact mc_iretX E hr hlk hG rfl rfl ⟨_, rfl, trivial, hI⟩ dX10_drops_9

set_option maxHeartbeats 4000000 in
set_option maxRecDepth 100000 in
theorem c_X10_moves (l : Launch) (G : tG) (σ : Nat → Nat) (cu : Nat) (a : Nat → Option (Nat → Int32)) (ta : Nat → Int32) (h0 : Nat) (x1 : Int32) (x2 : Int32) (t0 : σ h0 = 1) (hIa : TInv ta) : Met l yX10_moves (.code yX10_moves cX10_moves 7 (some .int) :: tWS) (tRm 3 67) (va_Pc [.ref h0, .int x1, .int x2] (mPre G (σ, cu, qX (upA a cu ta)))) (mQiX G (σ, cu, qX (upA a cu ta)) (fun r Z => ∃ t : Nat → Int32, Z = (σ, cu, qX (upA a cu t)) ∧ True ∧ TInv t)) 0 0 (mA (σ, cu, qX (upA a cu ta))) := by
  refine mc_met (by decide) (Nat.le_of_ble_eq_true rfl) ?_
  intro p e s m below meth c E hr hlk hG ls hl
  have hl : lv_has ls 7 [(0, .ref h0), (1, .int x1), (2, .int x2)] := hl
  have hx := E.1
  have hb := E.2.1
  obtain ⟨H, eH⟩ : ∃ H, H = s.heap := ⟨_, rfl⟩
  obtain ⟨locs, eL⟩ : ∃ x : List Loc, x = [] := ⟨_, rfl⟩
  have hG : mGH G (σ, cu, qX (upA a cu ta)) s H locs := by rw [eH, eL]; exact hG
  suffices hW : W p l e (tRm 3 67) s m ([.ref h0, .int x1, .int x2] : List Value).toArray below meth c H locs 0 0 (MQ below (mQiX G (σ, cu, qX (upA a cu ta)) (fun r Z => ∃ t : Nat → Int32, Z = (σ, cu, qX (upA a cu t)) ∧ True ∧ TInv t)) ([.ref h0, .int x1, .int x2] : List Value).toArray s 0 0 (mA (σ, cu, qX (upA a cu ta)))) (F0 m 0 ls []) by subst eH; subst eL; exact hW
  clear eH eL
  have hcu : mCu cu := hG.2.2.1
  have hI := hIa
  have hW := hIa.W
  have J72 : ∀ (n72 : Nat) (t : Nat → Int32) (H : Heap) (locs : List Loc) (ls : Array Slot) (v3 : Int32) (v4 : Int32) (v5 : Int32) (v6 : Int32), mGH G (σ, cu, qX (upA a cu t)) s H locs → lv_has ls 7 [(0, .ref h0), (1, .int x1), (2, .int x2), (3, .int v3), (4, .int v4), (5, .int v5), (6, .int v6)] → 0 ≤ x1.toInt → x1.toInt ≤ 23 → 0 ≤ x2.toInt → x2.toInt ≤ 7 → 0 ≤ v3.toInt → v3.toInt ≤ 23 → 0 ≤ v4.toInt → v4.toInt ≤ 7 → -1 ≤ v5.toInt → v5.toInt ≤ 1 → 0 ≤ v6.toInt → v6.toInt ≤ 7 → (((v5.toInt = 1 ∧ v4.toInt ≤ v6.toInt ∧ v6.toInt ≤ x2.toInt) ∨ (v5.toInt = -1 ∧ x2.toInt ≤ v6.toInt ∧ v6.toInt ≤ v4.toInt)) ∧ MS ta t v3.toInt v4.toInt v6.toInt v5.toInt ∧ v3.toInt = K ta x1.toInt 9 ∧ x2.toInt < K ta v3.toInt 10 ∧ v4.toInt < K ta v3.toInt 10 ∧ K ta v3.toInt (11 + v4.toInt) = x1.toInt ∧ K ta v3.toInt 10 ≤ 8 ∧ v3.toInt < (ta 3).toInt) → (x2.toInt - v6.toInt).toNat + (v6.toInt - x2.toInt).toNat < n72 → W p l e (tRm 3 67) s m ([.ref h0, .int x1, .int x2] : List Value).toArray below meth c H locs 0 0 (MQ below (mQiX G (σ, cu, qX (upA a cu ta)) (fun r Z => ∃ t : Nat → Int32, Z = (σ, cu, qX (upA a cu t)) ∧ True ∧ TInv t)) ([.ref h0, .int x1, .int x2] : List Value).toArray s 0 0 (mA (σ, cu, qX (upA a cu ta)))) (F0 m 72 ls []) := by
    intro n72
    induction n72 with
    | zero => intro t H locs ls v3 v4 v5 v6 hG hl bp1 cp1 bp2 cp2 b3 c3 b4 c4 b5 c5 b6 c6 hex72 hn72; exact absurd hn72 (Nat.not_lt_zero _)
    | succ n72 ih72 =>
      intro t H locs ls v3 v4 v5 v6 hG hl bp1 cp1 bp2 cp2 b3 c3 b4 c4 b5 c5 b6 c6 hex72 hn72
      refine lv_iload hx hb dX10_moves_72 (lv_at hl 6 rfl) ?_
      refine lv_iload_n hx hb dX10_moves_74 rfl (lv_at hl 2 rfl) ?_
      refine lv_icmp_eq (tgt := 108) hx hb dX10_moves_75 (by decide) (fun c1 => ?_) (fun c1 => ?_)
      · skip
        have ic1 := tn_eq rfl rfl c1
        refine lv_aload_n hx hb dX10_moves_108 rfl (lv_at hl 0 rfl) ?_
        refine lv_iload_n hx hb dX10_moves_109 rfl (lv_at hl 3 rfl) ?_
        refine lv_bipush (v := 11) hx hb dX10_moves_110 (by decide) ?_
        refine lv_iload_n hx hb dX10_moves_112 rfl (lv_at hl 2 rfl) ?_
        refine lv_iadd hx hb dX10_moves_113 ?_
        refine lv_topi (fun z2 ez2 => ?_)
        have tz2 := tn_add ez2 kI_11 rfl (by omega) (by omega)
        refine lv_iload_n hx hb dX10_moves_114 rfl (lv_at hl 1 rfl) ?_
        have k3 : fR z2.toInt.toNat = (0, 23) := by rcases (show z2.toInt = 11 ∨ z2.toInt = 12 ∨ z2.toInt = 13 ∨ z2.toInt = 14 ∨ z2.toInt = 15 ∨ z2.toInt = 16 ∨ z2.toInt = 17 ∨ z2.toInt = 18 by omega) with h9 | h9 | h9 | h9 | h9 | h9 | h9 | h9 <;> rw [h9] <;> rfl
        refine mc_callvX hG (mc_runV (As := [.int v3, .int z2, .int x1]) (rest := []) E hG (c_X10_putX l G (σ, cu, qX (upA a cu t)) h0 v3 z2 x1 t0 (by omega) (by omega) (by omega) (by omega) _ _ k3 (by omega) (by omega)) t0 rfl kv_X10_put ml_X10_102 ⟨rfl, rfl, Nat.le_of_ble_eq_true rfl, Nat.le_of_ble_eq_true rfl⟩ rfl hl.1 rfl (Nat.le_of_ble_eq_true rfl) ⟨Nat.zero_le _, Nat.zero_le _⟩ dX10_moves_115) (fun Z H locs eZ pZ hG => ?_)
        rw [pZ] at hG
        clear eZ pZ Z
        have hG := qX_put hcu hG
        obtain ⟨t4, et4⟩ : ∃ Z : Nat → Int32, Z = upN t (ix v3.toInt z2.toInt) x1 := ⟨_, rfl⟩
        rw [← et4] at hG
        have hM := hex72.2.1
        rw [show v6.toInt = x2.toInt by omega] at hM
        have hmv := MS_move hIa hM (by omega) (by omega) rfl (by omega) (by omega) (by omega) (by omega) (by omega) (by omega) (by omega) et4
        have hI := hmv.1
        have h3m : (t4 3).toInt = (ta 3).toInt := by rw [hmv.2]
        refine lv_aload_n hx hb dX10_moves_118 rfl (lv_at hl 0 rfl) ?_
        refine lv_iload_n hx hb dX10_moves_119 rfl (lv_at hl 3 rfl) ?_
        refine mc_callvX hG (mc_runV (As := [.int v3]) (rest := []) E hG (c_X10_marks l G σ cu a t4 h0 v3 t0 (by omega) (by omega) hI (by first | omega | (have k1 := kI_m1; have hI1 := hI.1; omega))) t0 rfl kv_X10_marks ml_X10_113 ⟨rfl, rfl, Nat.le_of_ble_eq_true rfl, Nat.le_of_ble_eq_true rfl⟩ rfl hl.1 rfl (Nat.le_of_ble_eq_true rfl) ⟨Nat.zero_le _, Nat.zero_le _⟩ dX10_moves_120) (fun Z H locs eZ pZ hG => ?_)
        obtain ⟨t6, rfl, pt6, hI⟩ := pZ
        clear eZ
        have h3n : (t6 3).toInt = (t4 3).toInt := by rw [pt6.2.1]
        have h0n : (t6 0).toInt = (t4 0).toInt := by rw [pt6.1]
        refine lv_iload hx hb dX10_moves_123 (lv_at hl 4 rfl) ?_
        exact mc_iretX E hr hlk hG rfl rfl ⟨_, rfl, trivial, hI⟩ dX10_moves_125
      · skip
        have ic1 := tn_ne rfl rfl c1
        refine lv_aload_n hx hb dX10_moves_78 rfl (lv_at hl 0 rfl) ?_
        refine lv_iload_n hx hb dX10_moves_79 rfl (lv_at hl 3 rfl) ?_
        refine lv_bipush (v := 11) hx hb dX10_moves_80 (by decide) ?_
        refine lv_iload hx hb dX10_moves_82 (lv_at hl 6 rfl) ?_
        refine lv_iadd hx hb dX10_moves_84 ?_
        refine lv_topi (fun z7 ez7 => ?_)
        have tz7 := tn_add ez7 kI_11 rfl (by omega) (by omega)
        refine lv_aload_n hx hb dX10_moves_85 rfl (lv_at hl 0 rfl) ?_
        refine lv_iload_n hx hb dX10_moves_86 rfl (lv_at hl 3 rfl) ?_
        refine lv_iload hx hb dX10_moves_87 (lv_at hl 6 rfl) ?_
        refine lv_iload hx hb dX10_moves_89 (lv_at hl 5 rfl) ?_
        refine lv_iadd hx hb dX10_moves_91 ?_
        refine lv_topi (fun z8 ez8 => ?_)
        have tz8 := tn_add ez8 rfl rfl (by omega) (by omega)
        refine tc_callp (mc_runV (As := [.int v3, .int z8]) (rest := [.int z7, .int v3, .ref h0]) E hG (c_X10_childOf l G (σ, cu, qX (upA a cu t)) h0 v3 z8 t0 (by omega) (by omega) (by omega) (by omega)) t0 rfl kv_X10_childOf ml_X10_153 ⟨rfl, rfl, Nat.le_of_ble_eq_true rfl, Nat.le_of_ble_eq_true rfl⟩ rfl hl.1 rfl (Nat.le_of_ble_eq_true rfl) ⟨Nat.zero_le _, Nat.zero_le _⟩ dX10_moves_92) (fun r9 pr9 => ?_)
        replace pr9 : mV (σ, cu, qX (upA a cu t)) (ix v3.toInt (11 + z8.toInt)) r9 := pr9
        have br9 := mV_r 11 18 0 23 pr9 (by omega) (by omega) (by omega) (by decide) (by decide)
        have cr9 := mT pr9 (qX_TI hcu upA_at) (by omega) (by omega) (by omega) (by omega)
        have k10 : fR z7.toInt.toNat = (0, 23) := by rcases (show z7.toInt = 11 ∨ z7.toInt = 12 ∨ z7.toInt = 13 ∨ z7.toInt = 14 ∨ z7.toInt = 15 ∨ z7.toInt = 16 ∨ z7.toInt = 17 ∨ z7.toInt = 18 by omega) with h9 | h9 | h9 | h9 | h9 | h9 | h9 | h9 <;> rw [h9] <;> rfl
        refine mc_callvX hG (mc_runV (As := [.int v3, .int z7, .int r9]) (rest := []) E hG (c_X10_putX l G (σ, cu, qX (upA a cu t)) h0 v3 z7 r9 t0 (by omega) (by omega) (by omega) (by omega) _ _ k10 (by omega) (by omega)) t0 rfl kv_X10_put ml_X10_102 ⟨rfl, rfl, Nat.le_of_ble_eq_true rfl, Nat.le_of_ble_eq_true rfl⟩ rfl hl.1 rfl (Nat.le_of_ble_eq_true rfl) ⟨Nat.zero_le _, Nat.zero_le _⟩ dX10_moves_95) (fun Z H locs eZ pZ hG => ?_)
        rw [pZ] at hG
        clear eZ pZ Z
        have hG := qX_put hcu hG
        obtain ⟨t11, et11⟩ : ∃ Z : Nat → Int32, Z = upN t (ix v3.toInt z7.toInt) r9 := ⟨_, rfl⟩
        rw [← et11] at hG
        refine lv_iload hx hb dX10_moves_98 (lv_at hl 6 rfl) ?_
        refine lv_iload hx hb dX10_moves_100 (lv_at hl 5 rfl) ?_
        refine lv_iadd hx hb dX10_moves_102 ?_
        refine lv_topi (fun z12 ez12 => ?_)
        have tz12 := tn_add ez12 rfl rfl (by omega) (by omega)
        refine lv_istore (lv' := [(6, .int z12), (0, .ref h0), (1, .int x1), (2, .int x2), (3, .int v3), (4, .int v4), (5, .int v5)]) hx hb dX10_moves_103 hl (by decide) rfl (fun ls hl => ?_)
        refine lv_goto (tgt := 72) hx hb dX10_moves_105 (by decide) ?_
        have hQ : MS ta t11 v3.toInt v4.toInt z12.toInt v5.toInt := MS_s hex72.2.1 (by omega) (by omega) (by omega) (by omega) (by omega) (by omega) (by omega) (by omega) (Int32.toInt_inj.mp (by rw [cr9, show 11 + z8.toInt = 11 + (v6.toInt + v5.toInt) by omega])) et11
        exact ih72 t11 H locs ls v3 v4 v5 z12 hG (lv_sub hl [1, 2, 3, 4, 5, 6, 0] rfl) (by omega) (by omega) (by omega) (by omega) (by omega) (by omega) (by omega) (by omega) (by omega) (by omega) (by omega) (by omega) (by exact ⟨by omega, hQ, by omega, by omega, by omega, by omega, by omega, by omega⟩) (by omega)
  refine lv_aload_n hx hb dX10_moves_0 rfl (lv_at hl 0 rfl) ?_
  refine lv_iload_n hx hb dX10_moves_1 rfl (lv_at hl 1 rfl) ?_
  refine tc_callp (mc_runV (As := [.int x1]) (rest := []) E hG (c_X10_isBox l G (σ, cu, qX (upA a cu ta)) h0 x1 t0) t0 rfl kv_X10_isBox ml_X10_127 ⟨rfl, rfl, Nat.le_of_ble_eq_true rfl, Nat.le_of_ble_eq_true rfl⟩ rfl hl.1 rfl (Nat.le_of_ble_eq_true rfl) ⟨Nat.zero_le _, Nat.zero_le _⟩ dX10_moves_2) (fun r13 pr13 => ?_)
  replace pr13 : (r13.toInt = 1 ∧ 0 ≤ x1.toInt ∧ x1.toInt ≤ 23 ∧ mV (σ, cu, qX (upA a cu ta)) (ix x1.toInt 0) 1) ∨ (r13.toInt = 0 ∧ (x1.toInt < 0 ∨ 23 < x1.toInt ∨ ∃ v : Int32, ¬ v.toInt = 1 ∧ mV (σ, cu, qX (upA a cu ta)) (ix x1.toInt 0) v)) := pr13
  have cr13 := mBw pr13 (qX_TI hcu upA_at) hW
  clear pr13
  refine lv_if_eq (tgt := 18) hx hb dX10_moves_5 (by decide) (fun c14 => ?_) (fun c14 => ?_)
  · skip
    have ic14 := tn_eq rfl kI_0 c14
    refine lv_iconst (v := -1) hx hb dX10_moves_18 (by decide) ?_
    exact mc_iretX E hr hlk hG rfl rfl ⟨_, rfl, trivial, hI⟩ dX10_moves_19
  · skip
    have ic14 := tn_ne rfl kI_0 c14
    refine lv_iload_n hx hb dX10_moves_8 rfl (lv_at hl 1 rfl) ?_
    refine lv_aload_n hx hb dX10_moves_9 rfl (lv_at hl 0 rfl) ?_
    refine mc_getn E hG t0 ff_X10_9 dX10_moves_10 (fun oa15 hoa15 => ?_)
    refine lv_iconst (v := 0) hx hb dX10_moves_13 (by decide) ?_
    refine mc_nald E hG hoa15 hG.2.2.1 (t_in (by decide) (by decide)) dX10_moves_14 (fun z16 lz16 uz16 qz16 => ?_)
    have lz16 : -1 ≤ z16.toInt := lz16
    have uz16 : z16.toInt ≤ 23 := uz16
    have wz16 : z16 = ta 0 := qz16 _ (qX_at hcu upA_at rfl)
    have cz16 : z16.toInt = (ta 0).toInt := by rw [wz16]
    refine lv_icmp_ne (tgt := 20) hx hb dX10_moves_15 (by decide) (fun c17 => ?_) (fun c17 => ?_)
    · skip
      have ic17 := tn_ne rfl rfl c17
      refine lv_aload_n hx hb dX10_moves_20 rfl (lv_at hl 0 rfl) ?_
      refine lv_iload_n hx hb dX10_moves_21 rfl (lv_at hl 1 rfl) ?_
      refine lv_bipush (v := 9) hx hb dX10_moves_22 (by decide) ?_
      refine tc_callp (mc_runV (As := [.int x1, .int 9]) (rest := []) E hG (c_X10_get l G (σ, cu, qX (upA a cu ta)) h0 x1 (9 : Int32) t0 (by omega) (by omega) (by decide) (by decide)) t0 rfl kv_X10_get ml_X10_91 ⟨rfl, rfl, Nat.le_of_ble_eq_true rfl, Nat.le_of_ble_eq_true rfl⟩ rfl hl.1 rfl (Nat.le_of_ble_eq_true rfl) ⟨Nat.zero_le _, Nat.zero_le _⟩ dX10_moves_24) (fun r18 pr18 => ?_)
      replace pr18 : mV (σ, cu, qX (upA a cu ta)) (ix x1.toInt (9 : Int32).toInt) r18 := pr18
      have pr18 := mV_l pr18 kI_9
      have br18 := mV_9 pr18 (by omega)
      have cr18 := mT pr18 (qX_TI hcu upA_at) (by omega) (by omega) (by decide) (by decide)
      have dr18 := mP9w cr18 hW (by omega)
      have k19 := kI_9
      refine lv_istore_n (lv' := [(3, .int r18), (0, .ref h0), (1, .int x1), (2, .int x2)]) hx hb dX10_moves_27 rfl hl (by decide) rfl (fun ls hl => ?_)
      have hpar : 0 ≤ r18.toInt := by
        by_cases q : 0 ≤ r18.toInt
        · exact q
        · have := hIa.2.2.2.2.2.2.1 x1.toInt (by omega) (by omega) (by omega) (by omega); omega
      refine lv_iload_n hx hb dX10_moves_28 rfl (lv_at hl 3 rfl) ?_
      refine lv_i2l hx hb dX10_moves_29 rfl ?_
      refine lv_topl (fun z20 ez20 => ?_)
      have tz20 := tl_i2l ez20
      refine lv_lconst (v := 0) hx hb dX10_moves_30 (by decide) ?_
      refine lv_topl (fun z21 ez21 => ?_)
      have tz21 : z21.toInt = 0 := by rw [ez21]; decide
      refine lv_aload_n hx hb dX10_moves_31 rfl (lv_at hl 1 rfl) ?_
      refine lv_iload_n hx hb dX10_moves_32 rfl (lv_at hl 0 rfl) ?_
      refine tc_callp (mc_runV (As := [.int r18]) (rest := [.long z21, .long z20]) E hG (c_X10_manyOf l G (σ, cu, qX (upA a cu ta)) h0 r18 t0 (by omega) (by omega)) t0 rfl kv_X10_manyOf ml_X10_117 ⟨rfl, rfl, Nat.le_of_ble_eq_true rfl, Nat.le_of_ble_eq_true rfl⟩ rfl hl.1 rfl (Nat.le_of_ble_eq_true rfl) ⟨Nat.zero_le _, Nat.zero_le _⟩ dX10_moves_33) (fun r22 pr22 => ?_)
      replace pr22 : mV (σ, cu, qX (upA a cu ta)) (ix r18.toInt 10) r22 := pr22
      have br22 := mV_10 pr22 (by omega)
      have cr22 := mT pr22 (qX_TI hcu upA_at) (by omega) (by omega) (by decide) (by decide)
      refine lv_iconst (v := 1) hx hb dX10_moves_36 (by decide) ?_
      refine lv_isub hx hb dX10_moves_37 ?_
      refine lv_topi (fun z23 ez23 => ?_)
      have tz23 := tn_sub ez23 rfl kI_1 (by omega) (by omega)
      refine lv_i2l hx hb dX10_moves_38 rfl ?_
      refine lv_topl (fun z24 ez24 => ?_)
      have tz24 := tl_i2l ez24
      refine tc_callp (mc_runS (As := [.long z20, .long z21, .long z24]) (rest := []) E hG (c_X10_in l G (σ, cu, qX (upA a cu ta)) z20 z21 z24) ks_X10_in ml_X10_87 ⟨rfl, rfl, Nat.le_of_ble_eq_true rfl, Nat.le_of_ble_eq_true rfl⟩ rfl hl.1 rfl (Nat.le_of_ble_eq_true rfl) ⟨Nat.zero_le _, Nat.zero_le _⟩ dX10_moves_39) (fun r25 pr25 => ?_)
      replace pr25 : ((r25.toInt = 1 ∧ z21.toInt ≤ z20.toInt ∧ z20.toInt ≤ z24.toInt) ∨ (r25.toInt = 0 ∧ (z20.toInt < z21.toInt ∨ z24.toInt < z20.toInt))) := pr25
      refine lv_if_ne (tgt := 48) hx hb dX10_moves_42 (by decide) (fun c26 => ?_) (fun c26 => ?_)
      · skip
        have ic26 := tn_ne rfl kI_0 c26
        obtain ⟨i0, h00, h02, h03⟩ := hIa.2.2.2.2.2.1 x1.toInt (by omega) (by omega) (by omega) (by omega)
        have h8p := hIa.2.2.2.2.2.2.2.2 (K ta x1.toInt 9) (by omega) (by omega)
        refine lv_aload_n hx hb dX10_moves_48 rfl (lv_at hl 1 rfl) ?_
        refine lv_iload_n hx hb dX10_moves_49 rfl (lv_at hl 2 rfl) ?_
        refine tc_callp (mc_runV (As := [.int x1]) (rest := []) E hG (c_X10_placeOf l G (σ, cu, qX (upA a cu ta)) h0 x1 t0 (by omega) (by omega) ta (qX_TI hcu upA_at) hIa (by omega) i0 h00 (by omega) h03) t0 rfl kv_X10_placeOf ml_X10_156 ⟨rfl, rfl, Nat.le_of_ble_eq_true rfl, Nat.le_of_ble_eq_true rfl⟩ rfl hl.1 rfl (Nat.le_of_ble_eq_true rfl) ⟨Nat.zero_le _, Nat.zero_le _⟩ dX10_moves_50) (fun r27 pr27 => ?_)
        replace pr27 : 0 ≤ r27.toInt ∧ r27.toInt ≤ i0 ∧ K ta (K ta x1.toInt 9) (11 + r27.toInt) = x1.toInt := pr27
        refine lv_istore (lv' := [(4, .int r27), (3, .int r18), (0, .ref h0), (1, .int x1), (2, .int x2)]) hx hb dX10_moves_53 hl (by decide) rfl (fun ls hl => ?_)
        refine lv_iload_n hx hb dX10_moves_55 rfl (lv_at hl 4 rfl) ?_
        refine lv_iload hx hb dX10_moves_56 (lv_at hl 0 rfl) ?_
        refine lv_icmp_ge (tgt := 65) hx hb dX10_moves_58 (by decide) (fun c28 => ?_) (fun c28 => ?_)
        · skip
          have ic28 := tn_le rfl rfl c28
          refine lv_iconst (v := 1) hx hb dX10_moves_65 (by decide) ?_
          refine lv_istore (lv' := [(5, .int 1), (4, .int r27), (3, .int r18), (0, .ref h0), (1, .int x1), (2, .int x2)]) hx hb dX10_moves_66 hl (by decide) rfl (fun ls hl => ?_)
          refine lv_iload hx hb dX10_moves_68 (lv_at hl 1 rfl) ?_
          refine lv_istore (lv' := [(6, .int r27), (5, .int 1), (4, .int r27), (3, .int r18), (0, .ref h0), (1, .int x1), (2, .int x2)]) hx hb dX10_moves_70 hl (by decide) rfl (fun ls hl => ?_)
          have k29 := kI_1
          have hQ : MS ta ta r18.toInt r27.toInt r27.toInt (1 : Int32).toInt := MS_0
          have hkw : K ta r18.toInt (11 + r27.toInt) = x1.toInt := by rw [cr18]; exact pr27.2.2
          have h8q : r27.toInt < K ta r18.toInt 10 ∧ K ta r18.toInt 10 ≤ 8 := by rw [cr18]; omega
          exact J72 ((x2.toInt - r27.toInt).toNat + (r27.toInt - x2.toInt).toNat + 1) ta H locs ls r18 r27 (1 : Int32) r27 hG (lv_sub hl [4, 5, 6, 3, 2, 1, 0] rfl) (by omega) (by omega) (by omega) (by omega) (by omega) (by omega) (by omega) (by omega) (by decide) (by decide) (by omega) (by omega) (by exact ⟨by omega, hQ, by omega, by omega, by omega, by omega, by omega, by omega⟩) (Nat.lt_succ_self _)
        · skip
          have ic28 := tn_nle rfl rfl c28
          refine lv_iconst (v := -1) hx hb dX10_moves_61 (by decide) ?_
          refine lv_goto (tgt := 66) hx hb dX10_moves_62 (by decide) ?_
          refine lv_istore (lv' := [(5, .int (-1)), (4, .int r27), (3, .int r18), (0, .ref h0), (1, .int x1), (2, .int x2)]) hx hb dX10_moves_66 hl (by decide) rfl (fun ls hl => ?_)
          refine lv_iload hx hb dX10_moves_68 (lv_at hl 1 rfl) ?_
          refine lv_istore (lv' := [(6, .int r27), (5, .int (-1)), (4, .int r27), (3, .int r18), (0, .ref h0), (1, .int x1), (2, .int x2)]) hx hb dX10_moves_70 hl (by decide) rfl (fun ls hl => ?_)
          have k30 := kI_m1
          have hQ : MS ta ta r18.toInt r27.toInt r27.toInt (-1 : Int32).toInt := MS_0
          have hkw : K ta r18.toInt (11 + r27.toInt) = x1.toInt := by rw [cr18]; exact pr27.2.2
          have h8q : r27.toInt < K ta r18.toInt 10 ∧ K ta r18.toInt 10 ≤ 8 := by rw [cr18]; omega
          exact J72 ((x2.toInt - r27.toInt).toNat + (r27.toInt - x2.toInt).toNat + 1) ta H locs ls r18 r27 (-1 : Int32) r27 hG (lv_sub hl [4, 5, 6, 3, 2, 1, 0] rfl) (by omega) (by omega) (by omega) (by omega) (by omega) (by omega) (by omega) (by omega) (by decide) (by decide) (by omega) (by omega) (by exact ⟨by omega, hQ, by omega, by omega, by omega, by omega, by omega, by omega⟩) (Nat.lt_succ_self _)
      · skip
        have ic26 := tn_eq rfl kI_0 c26
        refine lv_bipush (v := -2) hx hb dX10_moves_45 (by decide) ?_
        exact mc_iretX E hr hlk hG rfl rfl ⟨_, rfl, trivial, hI⟩ dX10_moves_47
    · skip
      have ic17 := tn_eq rfl rfl c17
      refine lv_iconst (v := -1) hx hb dX10_moves_18 (by decide) ?_
      exact mc_iretX E hr hlk hG rfl rfl ⟨_, rfl, trivial, hI⟩ dX10_moves_19

