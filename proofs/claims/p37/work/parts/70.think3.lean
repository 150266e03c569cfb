/-! ===== the reference: more thoughts ===== -/
set_option maxHeartbeats 4000000 in
set_option maxRecDepth 100000 in
theorem c_X10_agrees (l : Launch) (G : tG) (σ : Nat → Nat) (a : Nat → Option (Nat → Int32)) (ta : Nat → Int32) (h0 : Nat) (t0 : σ h0 = 1) (ha : a 2 = some ta) (hIa : TInv ta) : Met l yX10_agrees (.code yX10_agrees cX10_agrees 4 (some .int) :: tWS) (tRm 10 228) (va_Pc [.ref h0] (mPre G (σ, 2, qX a))) (mQiX G (σ, 2, qX a) (fun r Z => ∃ A : Nat → Option (Nat → Int32), Z = (σ, 2, qX A) ∧ A 2 = some ta ∧ A 3 = a 3)) 0 0 (mA (σ, 2, qX a)) := by
  refine mc_met (by decide) (Nat.le_of_ble_eq_true rfl) ?_
  intro p e s m below meth c E hr hlk hG ls hl
  have hl : lv_has ls 4 [(0, .ref h0)] := hl
  have hx := E.1
  have hb := E.2.1
  obtain ⟨H, eH⟩ : ∃ H, H = s.heap := ⟨_, rfl⟩
  obtain ⟨locs, eL⟩ : ∃ x : List Loc, x = [] := ⟨_, rfl⟩
  have hG : mGH G (σ, 2, qX a) s H locs := by rw [eH, eL]; exact hG
  suffices hW : W p l e (tRm 10 228) s m ([.ref h0] : List Value).toArray below meth c H locs 0 0 (MQ below (mQiX G (σ, 2, qX a) (fun r Z => ∃ A : Nat → Option (Nat → Int32), Z = (σ, 2, qX A) ∧ A 2 = some ta ∧ A 3 = a 3)) ([.ref h0] : List Value).toArray s 0 0 (mA (σ, 2, qX a))) (F0 m 0 ls []) by subst eH; subst eL; exact hW
  clear eH eL
  have hA2 := ha
  have hA3 : a 3 = a 3 := rfl
  have hI := hIa
  have hcu := mu_2
  have hT2 : A2 ta ta := A2.refl
  have J90 : ∀ (n90 : Nat) (A : Nat → Option (Nat → Int32)) (t : Nat → Int32) (H : Heap) (locs : List Loc) (ls : Array Slot) (v1 : Int32) (v2 : Int32), mGH G (σ, 4, qX (upA A 4 t)) s H locs → lv_has ls 4 [(0, .ref h0), (1, .int v1), (2, .int v2)] → 0 ≤ v1.toInt → v1.toInt ≤ 1 → 0 ≤ v2.toInt → v2.toInt ≤ 24 → (TInv t ∧ A2 ta t ∧ A 2 = some ta ∧ A 3 = a 3 ∧ True) → (24 - v2.toInt).toNat < n90 → W p l e (tRm 10 228) s m ([.ref h0] : List Value).toArray below meth c H locs 0 0 (MQ below (mQiX G (σ, 2, qX a) (fun r Z => ∃ A : Nat → Option (Nat → Int32), Z = (σ, 2, qX A) ∧ A 2 = some ta ∧ A 3 = a 3)) ([.ref h0] : List Value).toArray s 0 0 (mA (σ, 2, qX a))) (F0 m 90 ls []) := by
    intro n90
    induction n90 with
    | zero => intro A t H locs ls v1 v2 hG hl b1 c1 b2 c2 hex90 hn90; exact absurd hn90 (Nat.not_lt_zero _)
    | succ n90 ih90 =>
      intro A t H locs ls v1 v2 hG hl b1 c1 b2 c2 hex90 hn90
      have J99 : ∀ (n99 : Nat) (A : Nat → Option (Nat → Int32)) (t : Nat → Int32) (H : Heap) (locs : List Loc) (ls : Array Slot) (v1 : Int32) (v2 : Int32) (v3 : Int32), mGH G (σ, 4, qX (upA A 4 t)) s H locs → lv_has ls 4 [(0, .ref h0), (1, .int v1), (2, .int v2), (3, .int v3)] → 0 ≤ v1.toInt → v1.toInt ≤ 1 → 0 ≤ v2.toInt → v2.toInt ≤ 23 → 30 ≤ v3.toInt → v3.toInt ≤ 35 → (24 - v2.toInt).toNat < n90 + 1 → (TInv t ∧ A2 ta t ∧ A 2 = some ta ∧ A 3 = a 3 ∧ True) → (35 - v3.toInt).toNat < n99 → W p l e (tRm 10 228) s m ([.ref h0] : List Value).toArray below meth c H locs 0 0 (MQ below (mQiX G (σ, 2, qX a) (fun r Z => ∃ A : Nat → Option (Nat → Int32), Z = (σ, 2, qX A) ∧ A 2 = some ta ∧ A 3 = a 3)) ([.ref h0] : List Value).toArray s 0 0 (mA (σ, 2, qX a))) (F0 m 99 ls []) := by
        intro n99
        induction n99 with
        | zero => intro A t H locs ls v1 v2 v3 hG hl b1 c1 b2 c2 b3 c3 hm90 hex99 hn99; exact absurd hn99 (Nat.not_lt_zero _)
        | succ n99 ih99 =>
          intro A t H locs ls v1 v2 v3 hG hl b1 c1 b2 c2 b3 c3 hm90 hex99 hn99
          have hI := hex99.1
          have hT2 := hex99.2.1
          have hA2 := hex99.2.2.1
          have hA3 := hex99.2.2.2.1
          have hcu := mu_4
          have h0t : (t 0).toInt = (ta 0).toInt := by rw [hT2.1]
          have h3t : (t 3).toInt = (ta 3).toInt := by rw [hT2.2.1]
          refine lv_iload_n hx hb dX10_agrees_99 rfl (lv_at hl 3 rfl) ?_
          refine lv_bipush (v := 34) hx hb dX10_agrees_100 (by decide) ?_
          refine lv_icmp_gt (tgt := 152) hx hb dX10_agrees_102 (by decide) (fun c1 => ?_) (fun c1 => ?_)
          · skip
            have ic1 := tn_lt kI_34 rfl c1
            obtain ⟨z2, ez2⟩ : ∃ y : Int32, y = v2 + (1) := ⟨_, rfl⟩
            refine lv_iinc (v := z2) (lv' := [(2, .int z2), (0, .ref h0), (1, .int v1), (3, .int v3)]) hx hb dX10_agrees_152 hl (k := 2) rfl (by rw [ez2]; rfl) (by decide) rfl (fun ls hl => ?_)
            have tz2 := tn_add ez2 rfl kI_1 (by omega) (by omega)
            refine lv_goto (tgt := 90) hx hb dX10_agrees_155 (by decide) ?_
            exact ih90 A t H locs ls v1 z2 hG (lv_sub hl [1, 2, 0] rfl) (by omega) (by omega) (by omega) (by omega) (by exact ⟨hI, hT2, hA2, hA3, trivial⟩) (by omega)
          · skip
            have ic1 := tn_nlt kI_34 rfl c1
            refine lv_iload_n hx hb dX10_agrees_105 rfl (lv_at hl 1 rfl) ?_
            refine lv_if_eq (tgt := 144) hx hb dX10_agrees_106 (by decide) (fun c3 => ?_) (fun c3 => ?_)
            · skip
              have ic3 := tn_eq rfl kI_0 c3
              refine lv_iconst (v := 0) hx hb dX10_agrees_144 (by decide) ?_
              refine lv_istore_n (lv' := [(1, .int 0), (0, .ref h0), (2, .int v2), (3, .int v3)]) hx hb dX10_agrees_145 rfl hl (by decide) rfl (fun ls hl => ?_)
              obtain ⟨z4, ez4⟩ : ∃ y : Int32, y = v3 + (1) := ⟨_, rfl⟩
              refine lv_iinc (v := z4) (lv' := [(3, .int z4), (1, .int 0), (0, .ref h0), (2, .int v2)]) hx hb dX10_agrees_146 hl (k := 3) rfl (by rw [ez4]; rfl) (by decide) rfl (fun ls hl => ?_)
              have tz4 := tn_add ez4 rfl kI_1 (by omega) (by omega)
              refine lv_goto (tgt := 99) hx hb dX10_agrees_149 (by decide) ?_
              exact ih99 A t H locs ls (0 : Int32) v2 z4 hG (lv_sub hl [2, 1, 3, 0] rfl) (by decide) (by decide) (by omega) (by omega) (by omega) (by omega) (by omega) (by exact ⟨hI, hT2, hA2, hA3, trivial⟩) (by omega)
            · skip
              have ic3 := tn_ne rfl kI_0 c3
              refine lv_aload_n hx hb dX10_agrees_109 rfl (lv_at hl 0 rfl) ?_
              refine lv_iload_n hx hb dX10_agrees_110 rfl (lv_at hl 2 rfl) ?_
              refine tc_callp (mc_runV (As := [.int v2]) (rest := []) E hG (c_X10_isBox l G (σ, 4, qX (upA A 4 t)) h0 v2 t0) t0 rfl kv_X10_isBox ml_X10_127 ⟨rfl, rfl, Nat.le_of_ble_eq_true rfl, Nat.le_of_ble_eq_true rfl⟩ rfl hl.1 rfl (Nat.le_of_ble_eq_true rfl) ⟨Nat.zero_le _, Nat.zero_le _⟩ dX10_agrees_111) (fun r5 pr5 => ?_)
              replace pr5 : (r5.toInt = 1 ∧ 0 ≤ v2.toInt ∧ v2.toInt ≤ 23 ∧ mV (σ, 4, qX (upA A 4 t)) (ix v2.toInt 0) 1) ∨ (r5.toInt = 0 ∧ (v2.toInt < 0 ∨ 23 < v2.toInt ∨ ∃ v : Int32, ¬ v.toInt = 1 ∧ mV (σ, 4, qX (upA A 4 t)) (ix v2.toInt 0) v)) := pr5
              have cr5 := mB pr5 (qX_TI hcu upA_at) hI
              clear pr5
              refine lv_if_eq (tgt := 140) hx hb dX10_agrees_114 (by decide) (fun c6 => ?_) (fun c6 => ?_)
              · skip
                have ic6 := tn_eq rfl kI_0 c6
                refine lv_iconst (v := 1) hx hb dX10_agrees_140 (by decide) ?_
                refine lv_goto (tgt := 145) hx hb dX10_agrees_141 (by decide) ?_
                refine lv_istore_n (lv' := [(1, .int 1), (0, .ref h0), (2, .int v2), (3, .int v3)]) hx hb dX10_agrees_145 rfl hl (by decide) rfl (fun ls hl => ?_)
                obtain ⟨z7, ez7⟩ : ∃ y : Int32, y = v3 + (1) := ⟨_, rfl⟩
                refine lv_iinc (v := z7) (lv' := [(3, .int z7), (1, .int 1), (0, .ref h0), (2, .int v2)]) hx hb dX10_agrees_146 hl (k := 3) rfl (by rw [ez7]; rfl) (by decide) rfl (fun ls hl => ?_)
                have tz7 := tn_add ez7 rfl kI_1 (by omega) (by omega)
                refine lv_goto (tgt := 99) hx hb dX10_agrees_149 (by decide) ?_
                exact ih99 A t H locs ls (1 : Int32) v2 z7 hG (lv_sub hl [2, 1, 3, 0] rfl) (by decide) (by decide) (by omega) (by omega) (by omega) (by omega) (by omega) (by exact ⟨hI, hT2, hA2, hA3, trivial⟩) (by omega)
              · skip
                have ic6 := tn_ne rfl kI_0 c6
                refine lv_aload_n hx hb dX10_agrees_117 rfl (lv_at hl 0 rfl) ?_
                refine lv_iload_n hx hb dX10_agrees_118 rfl (lv_at hl 2 rfl) ?_
                refine lv_iload_n hx hb dX10_agrees_119 rfl (lv_at hl 3 rfl) ?_
                refine tc_callp (mc_runV (As := [.int v2, .int v3]) (rest := []) E hG (c_X10_get l G (σ, 4, qX (upA A 4 t)) h0 v2 v3 t0 (by omega) (by omega) (by omega) (by omega)) t0 rfl kv_X10_get ml_X10_91 ⟨rfl, rfl, Nat.le_of_ble_eq_true rfl, Nat.le_of_ble_eq_true rfl⟩ rfl hl.1 rfl (Nat.le_of_ble_eq_true rfl) ⟨Nat.zero_le _, Nat.zero_le _⟩ dX10_agrees_120) (fun r8 pr8 => ?_)
                replace pr8 : mV (σ, 4, qX (upA A 4 t)) (ix v2.toInt v3.toInt) r8 := pr8
                refine lv_aload_n hx hb dX10_agrees_123 rfl (lv_at hl 0 rfl) ?_
                refine mc_getr E hG t0 mr_24 dX10_agrees_124 (fun oa9 hoa9 => ?_)
                refine lv_bipush (v := 22) hx hb dX10_agrees_127 (by decide) ?_
                refine lv_bipush (v := 38) hx hb dX10_agrees_129 (by decide) ?_
                refine lv_iload_n hx hb dX10_agrees_131 rfl (lv_at hl 2 rfl) ?_
                refine lv_imul hx hb dX10_agrees_132 ?_
                refine lv_topi (fun z10 ez10 => ?_)
                have tz10 := tn_mul ez10 kI_38 rfl (by omega) (by omega)
                refine lv_iadd hx hb dX10_agrees_133 ?_
                refine lv_topi (fun z11 ez11 => ?_)
                have tz11 := tn_add ez11 kI_22 rfl (by omega) (by omega)
                refine lv_iload_n hx hb dX10_agrees_134 rfl (lv_at hl 3 rfl) ?_
                refine lv_iadd hx hb dX10_agrees_135 ?_
                refine lv_topi (fun z12 ez12 => ?_)
                have tz12 := tn_add ez12 rfl rfl (by omega) (by omega)
                refine mc_nald E hG hoa9 mu_5 (t_in (by omega) (by omega)) dX10_agrees_136 (fun z13 lz13 uz13 qz13 => ?_)
                clear lz13 uz13
                refine lv_icmp_ne (tgt := 144) hx hb dX10_agrees_137 (by decide) (fun c14 => ?_) (fun c14 => ?_)
                · skip
                  have ic14 := tn_ne rfl rfl c14
                  refine lv_iconst (v := 0) hx hb dX10_agrees_144 (by decide) ?_
                  refine lv_istore_n (lv' := [(1, .int 0), (0, .ref h0), (2, .int v2), (3, .int v3)]) hx hb dX10_agrees_145 rfl hl (by decide) rfl (fun ls hl => ?_)
                  obtain ⟨z15, ez15⟩ : ∃ y : Int32, y = v3 + (1) := ⟨_, rfl⟩
                  refine lv_iinc (v := z15) (lv' := [(3, .int z15), (1, .int 0), (0, .ref h0), (2, .int v2)]) hx hb dX10_agrees_146 hl (k := 3) rfl (by rw [ez15]; rfl) (by decide) rfl (fun ls hl => ?_)
                  have tz15 := tn_add ez15 rfl kI_1 (by omega) (by omega)
                  refine lv_goto (tgt := 99) hx hb dX10_agrees_149 (by decide) ?_
                  exact ih99 A t H locs ls (0 : Int32) v2 z15 hG (lv_sub hl [2, 1, 3, 0] rfl) (by decide) (by decide) (by omega) (by omega) (by omega) (by omega) (by omega) (by exact ⟨hI, hT2, hA2, hA3, trivial⟩) (by omega)
                · skip
                  have ic14 := tn_eq rfl rfl c14
                  refine lv_iconst (v := 1) hx hb dX10_agrees_140 (by decide) ?_
                  refine lv_goto (tgt := 145) hx hb dX10_agrees_141 (by decide) ?_
                  refine lv_istore_n (lv' := [(1, .int 1), (0, .ref h0), (2, .int v2), (3, .int v3)]) hx hb dX10_agrees_145 rfl hl (by decide) rfl (fun ls hl => ?_)
                  obtain ⟨z16, ez16⟩ : ∃ y : Int32, y = v3 + (1) := ⟨_, rfl⟩
                  refine lv_iinc (v := z16) (lv' := [(3, .int z16), (1, .int 1), (0, .ref h0), (2, .int v2)]) hx hb dX10_agrees_146 hl (k := 3) rfl (by rw [ez16]; rfl) (by decide) rfl (fun ls hl => ?_)
                  have tz16 := tn_add ez16 rfl kI_1 (by omega) (by omega)
                  refine lv_goto (tgt := 99) hx hb dX10_agrees_149 (by decide) ?_
                  exact ih99 A t H locs ls (1 : Int32) v2 z16 hG (lv_sub hl [2, 1, 3, 0] rfl) (by decide) (by decide) (by omega) (by omega) (by omega) (by omega) (by omega) (by exact ⟨hI, hT2, hA2, hA3, trivial⟩) (by omega)
      have hI := hex90.1
      have hT2 := hex90.2.1
      have hA2 := hex90.2.2.1
      have hA3 := hex90.2.2.2.1
      have hcu := mu_4
      have h0t : (t 0).toInt = (ta 0).toInt := by rw [hT2.1]
      have h3t : (t 3).toInt = (ta 3).toInt := by rw [hT2.2.1]
      refine lv_iload_n hx hb dX10_agrees_90 rfl (lv_at hl 2 rfl) ?_
      refine lv_bipush (v := 24) hx hb dX10_agrees_91 (by decide) ?_
      refine lv_icmp_ge (tgt := 158) hx hb dX10_agrees_93 (by decide) (fun c17 => ?_) (fun c17 => ?_)
      · skip
        have ic17 := tn_le kI_24 rfl c17
        refine lv_aload_n hx hb dX10_agrees_158 rfl (lv_at hl 0 rfl) ?_
        refine lv_aload_n hx hb dX10_agrees_159 rfl (lv_at hl 0 rfl) ?_
        refine mc_getr E hG t0 mr_15 dX10_agrees_160 (fun oa18 hoa18 => ?_)
        obtain ⟨A19, eA19⟩ : ∃ Z : Nat → Option (Nat → Int32), Z = upA A 4 t := ⟨_, rfl⟩
        rw [← eA19] at hG
        have hA2 : A19 2 = some ta := by rw [eA19]; exact (upA_ne (by decide)).trans hA2
        have hA3 : A19 3 = a 3 := by rw [eA19]; exact (upA_ne (by decide)).trans hA3
        refine mc_putn E hG t0 fq_X10_9 (show mCu (σ oa18) by rw [show σ oa18 = 2 from hoa18]; exact mu_2) dX10_agrees_163 (fun H locs hG => ?_)
        have hG : mGH G (σ, σ oa18, qX A19) s H locs := hG
        rw [show σ oa18 = 2 from hoa18] at hG
        have hcu := mu_2
        have hI := hIa
        refine lv_iload_n hx hb dX10_agrees_166 rfl (lv_at hl 1 rfl) ?_
        refine lv_if_eq (tgt := 174) hx hb dX10_agrees_167 (by decide) (fun c20 => ?_) (fun c20 => ?_)
        · skip
          have ic20 := tn_eq rfl kI_0 c20
          refine lv_iconst (v := 0) hx hb dX10_agrees_174 (by decide) ?_
          exact mc_iretX E hr hlk hG rfl rfl ⟨_, rfl, hA2, hA3⟩ dX10_agrees_175
        · skip
          have ic20 := tn_ne rfl kI_0 c20
          refine lv_iconst (v := 1) hx hb dX10_agrees_170 (by decide) ?_
          refine lv_goto (tgt := 175) hx hb dX10_agrees_171 (by decide) ?_
          exact mc_iretX E hr hlk hG rfl rfl ⟨_, rfl, hA2, hA3⟩ dX10_agrees_175
      · skip
        have ic17 := tn_nle kI_24 rfl c17
        refine lv_bipush (v := 30) hx hb dX10_agrees_96 (by decide) ?_
        refine lv_istore_n (lv' := [(3, .int 30), (0, .ref h0), (1, .int v1), (2, .int v2)]) hx hb dX10_agrees_98 rfl hl (by decide) rfl (fun ls hl => ?_)
        exact J99 ((35 - (30 : Int32).toInt).toNat + 1) A t H locs ls v1 v2 (30 : Int32) hG (lv_sub hl [1, 2, 3, 0] rfl) (by omega) (by omega) (by omega) (by omega) (by decide) (by decide) (by omega) (by exact ⟨hI, hT2, hA2, hA3, trivial⟩) (Nat.lt_succ_self _)
  have J20 : ∀ (n20 : Nat) (A : Nat → Option (Nat → Int32)) (t : Nat → Int32) (H : Heap) (locs : List Loc) (ls : Array Slot) (v1 : Int32), mGH G (σ, 5, qX (upA A 5 t)) s H locs → lv_has ls 4 [(0, .ref h0), (1, .int v1)] → 0 ≤ v1.toInt → v1.toInt ≤ 24 → (TInv t ∧ A2 ta t ∧ A 2 = some ta ∧ A 3 = a 3 ∧ True) → (24 - v1.toInt).toNat < n20 → W p l e (tRm 10 228) s m ([.ref h0] : List Value).toArray below meth c H locs 0 0 (MQ below (mQiX G (σ, 2, qX a) (fun r Z => ∃ A : Nat → Option (Nat → Int32), Z = (σ, 2, qX A) ∧ A 2 = some ta ∧ A 3 = a 3)) ([.ref h0] : List Value).toArray s 0 0 (mA (σ, 2, qX a))) (F0 m 20 ls []) := by
    intro n20
    induction n20 with
    | zero => intro A t H locs ls v1 hG hl b1 c1 hex20 hn20; exact absurd hn20 (Nat.not_lt_zero _)
    | succ n20 ih20 =>
      intro A t H locs ls v1 hG hl b1 c1 hex20 hn20
      have hI := hex20.1
      have hT2 := hex20.2.1
      have hA2 := hex20.2.2.1
      have hA3 := hex20.2.2.2.1
      have hcu := mu_5
      have h0t : (t 0).toInt = (ta 0).toInt := by rw [hT2.1]
      have h3t : (t 3).toInt = (ta 3).toInt := by rw [hT2.2.1]
      refine lv_iload_n hx hb dX10_agrees_20 rfl (lv_at hl 1 rfl) ?_
      refine lv_bipush (v := 24) hx hb dX10_agrees_21 (by decide) ?_
      refine lv_icmp_ge (tgt := 70) hx hb dX10_agrees_23 (by decide) (fun c21 => ?_) (fun c21 => ?_)
      · skip
        have ic21 := tn_le kI_24 rfl c21
        refine lv_aload_n hx hb dX10_agrees_70 rfl (lv_at hl 0 rfl) ?_
        refine mc_callvX hG (mc_runV (As := []) (rest := []) E hG (c_X10_laysInThought l G σ 5 A t h0 t0 hI) t0 rfl kv_X10_laysInThought ml_X10_416 ⟨rfl, rfl, Nat.le_of_ble_eq_true rfl, Nat.le_of_ble_eq_true rfl⟩ rfl hl.1 rfl (Nat.le_of_ble_eq_true rfl) ⟨Nat.zero_le _, Nat.zero_le _⟩ dX10_agrees_71) (fun Z H locs eZ pZ hG => ?_)
        obtain ⟨t23, rfl, pt23, hI⟩ := pZ
        clear eZ
        have h3n : (t23 3).toInt = (t 3).toInt := by rw [pt23.2.1]
        have h0n : (t23 0).toInt = (t 0).toInt := by rw [pt23.1]
        have hT2 := hT2.trans pt23.A2
        have h0t : (t23 0).toInt = (ta 0).toInt := by rw [hT2.1]
        have h3t : (t23 3).toInt = (ta 3).toInt := by rw [hT2.2.1]
        refine lv_aload_n hx hb dX10_agrees_74 rfl (lv_at hl 0 rfl) ?_
        refine lv_aload_n hx hb dX10_agrees_75 rfl (lv_at hl 0 rfl) ?_
        refine mc_getr E hG t0 mr_21 dX10_agrees_76 (fun oa24 hoa24 => ?_)
        obtain ⟨A25, eA25⟩ : ∃ Z : Nat → Option (Nat → Int32), Z = upA A 5 t23 := ⟨_, rfl⟩
        rw [← eA25] at hG
        have hA2 : A25 2 = some ta := by rw [eA25]; exact (upA_ne (by decide)).trans hA2
        have hA3 : A25 3 = a 3 := by rw [eA25]; exact (upA_ne (by decide)).trans hA3
        refine mc_callvX hG (mc_runV (As := [.ref oa24]) (rest := []) E hG (c_X10_thinks l G σ 5 A25 4 ta h0 oa24 t0 hoa24 mu_4 (by decide) hA2) t0 rfl kv_X10_thinks ml_X10_412 ⟨rfl, rfl, Nat.le_of_ble_eq_true rfl, Nat.le_of_ble_eq_true rfl⟩ rfl hl.1 rfl (Nat.le_of_ble_eq_true rfl) ⟨Nat.zero_le _, Nat.zero_le _⟩ dX10_agrees_79) (fun Z H locs eZ pZ hG => ?_)
        subst pZ
        clear eZ
        have hI := hIa
        have hT2 : A2 ta ta := A2.refl
        have hcu := mu_4
        refine lv_aload_n hx hb dX10_agrees_82 rfl (lv_at hl 0 rfl) ?_
        refine mc_callvX hG (mc_runV (As := []) (rest := []) E hG (c_X10_laysInThought l G σ 4 A25 ta h0 t0 hI) t0 rfl kv_X10_laysInThought ml_X10_416 ⟨rfl, rfl, Nat.le_of_ble_eq_true rfl, Nat.le_of_ble_eq_true rfl⟩ rfl hl.1 rfl (Nat.le_of_ble_eq_true rfl) ⟨Nat.zero_le _, Nat.zero_le _⟩ dX10_agrees_83) (fun Z H locs eZ pZ hG => ?_)
        obtain ⟨t27, rfl, pt27, hI⟩ := pZ
        clear eZ
        have h3n : (t27 3).toInt = (ta 3).toInt := by rw [pt27.2.1]
        have h0n : (t27 0).toInt = (ta 0).toInt := by rw [pt27.1]
        have hT2 := hT2.trans pt27.A2
        have h0t : (t27 0).toInt = (ta 0).toInt := by rw [hT2.1]
        have h3t : (t27 3).toInt = (ta 3).toInt := by rw [hT2.2.1]
        refine lv_iconst (v := 1) hx hb dX10_agrees_86 (by decide) ?_
        refine lv_istore_n (lv' := [(1, .int 1), (0, .ref h0)]) hx hb dX10_agrees_87 rfl hl (by decide) rfl (fun ls hl => ?_)
        refine lv_iconst (v := 0) hx hb dX10_agrees_88 (by decide) ?_
        refine lv_istore_n (lv' := [(2, .int 0), (1, .int 1), (0, .ref h0)]) hx hb dX10_agrees_89 rfl hl (by decide) rfl (fun ls hl => ?_)
        exact J90 ((24 - (0 : Int32).toInt).toNat + 1) A25 t27 H locs ls (1 : Int32) (0 : Int32) hG (lv_sub hl [2, 1, 0] rfl) (by decide) (by decide) (by decide) (by decide) (by exact ⟨hI, hT2, hA2, hA3, trivial⟩) (Nat.lt_succ_self _)
      · skip
        have ic21 := tn_nle kI_24 rfl c21
        refine lv_aload_n hx hb dX10_agrees_26 rfl (lv_at hl 0 rfl) ?_
        refine lv_iload_n hx hb dX10_agrees_27 rfl (lv_at hl 1 rfl) ?_
        refine lv_bipush (v := 19) hx hb dX10_agrees_28 (by decide) ?_
        refine lv_iconst (v := 1) hx hb dX10_agrees_30 (by decide) ?_
        have k28 := kI_1
        refine mc_callv hG (mc_runV (As := [.int v1, .int 19, .int 1]) (rest := []) E hG (c_X10_put l G (σ, 5, qX (upA A 5 t)) h0 v1 (19 : Int32) (1 : Int32) t0 (by omega) (by omega) (by decide) (by decide) (0) (1) rfl (by omega) (by omega) ((qX_AV hcu).2.2 _ _ (by omega) (by omega) (by decide) (by decide))) t0 rfl kv_X10_put ml_X10_102 ⟨rfl, rfl, Nat.le_of_ble_eq_true rfl, Nat.le_of_ble_eq_true rfl⟩ rfl hl.1 rfl (Nat.le_of_ble_eq_true rfl) ⟨Nat.zero_le _, Nat.zero_le _⟩ dX10_agrees_31) (fun H locs hG => ?_)
        refine lv_aload_n hx hb dX10_agrees_34 rfl (lv_at hl 0 rfl) ?_
        refine lv_iload_n hx hb dX10_agrees_35 rfl (lv_at hl 1 rfl) ?_
        refine lv_bipush (v := 21) hx hb dX10_agrees_36 (by decide) ?_
        refine lv_iconst (v := 0) hx hb dX10_agrees_38 (by decide) ?_
        have k29 := kI_0
        refine mc_callv hG (mc_runV (As := [.int v1, .int 21, .int 0]) (rest := []) E hG (c_X10_put l G (σ, 5, qX (upA A 5 t)) h0 v1 (21 : Int32) (0 : Int32) t0 (by omega) (by omega) (by decide) (by decide) (0) (3) rfl (by omega) (by omega) ((qX_AV hcu).2.2 _ _ (by omega) (by omega) (by decide) (by decide))) t0 rfl kv_X10_put ml_X10_102 ⟨rfl, rfl, Nat.le_of_ble_eq_true rfl, Nat.le_of_ble_eq_true rfl⟩ rfl hl.1 rfl (Nat.le_of_ble_eq_true rfl) ⟨Nat.zero_le _, Nat.zero_le _⟩ dX10_agrees_39) (fun H locs hG => ?_)
        refine lv_aload_n hx hb dX10_agrees_42 rfl (lv_at hl 0 rfl) ?_
        refine lv_iload_n hx hb dX10_agrees_43 rfl (lv_at hl 1 rfl) ?_
        refine lv_bipush (v := 20) hx hb dX10_agrees_44 (by decide) ?_
        refine lv_iload_n hx hb dX10_agrees_46 rfl (lv_at hl 1 rfl) ?_
        refine lv_aload_n hx hb dX10_agrees_47 rfl (lv_at hl 0 rfl) ?_
        refine mc_getn E hG t0 ff_X10_9 dX10_agrees_48 (fun oa30 hoa30 => ?_)
        refine lv_iconst (v := 0) hx hb dX10_agrees_51 (by decide) ?_
        refine mc_nald E hG hoa30 hG.2.2.1 (t_in (by decide) (by decide)) dX10_agrees_52 (fun z31 lz31 uz31 qz31 => ?_)
        have lz31 : -1 ≤ z31.toInt := lz31
        have uz31 : z31.toInt ≤ 23 := uz31
        have wz31 : z31 = t 0 := qz31 _ (qX_at (a := upA A 5 t) (k := 0) hcu upA_at rfl)
        have cz31 : z31.toInt = (t 0).toInt := by rw [wz31]
        refine lv_icmp_ne (tgt := 60) hx hb dX10_agrees_53 (by decide) (fun c32 => ?_) (fun c32 => ?_)
        · skip
          have ic32 := tn_ne rfl rfl c32
          refine lv_iconst (v := 0) hx hb dX10_agrees_60 (by decide) ?_
          have k33 := kI_0
          refine mc_callvX hG (mc_runV (As := [.int v1, .int 20, .int 0]) (rest := []) E hG (c_X10_putX l G (σ, 5, qX (upA A 5 t)) h0 v1 (20 : Int32) (0 : Int32) t0 (by omega) (by omega) (by decide) (by decide) (0) (1) rfl (by omega) (by omega)) t0 rfl kv_X10_put ml_X10_102 ⟨rfl, rfl, Nat.le_of_ble_eq_true rfl, Nat.le_of_ble_eq_true rfl⟩ rfl hl.1 rfl (Nat.le_of_ble_eq_true rfl) ⟨Nat.zero_le _, Nat.zero_le _⟩ dX10_agrees_61) (fun Z H locs eZ pZ hG => ?_)
          rw [pZ] at hG
          clear eZ pZ Z
          rw [show (20 : Int32).toInt = 20 from kI_20] at hG
          have hG := qX_set hcu (tr_y (by omega) (by omega) (by decide) (by decide)) hG
          obtain ⟨t34, et34⟩ : ∃ Z : Nat → Int32, Z = upN t (ix v1.toInt 20) (0 : Int32) := ⟨_, rfl⟩
          rw [← et34] at hG
          have hAGn : AG t t34 := by rw [et34]; exact AG.put (by omega) (by decide) (by decide)
          have hI := TInv_AG hAGn hI
          have h3n : (t34 3).toInt = (t 3).toInt := by rw [hAGn.2.1]
          have hT2 := hT2.trans hAGn.A2
          have h0t : (t34 0).toInt = (ta 0).toInt := by rw [hT2.1]
          have h3t : (t34 3).toInt = (ta 3).toInt := by rw [hT2.2.1]
          obtain ⟨z35, ez35⟩ : ∃ y : Int32, y = v1 + (1) := ⟨_, rfl⟩
          refine lv_iinc (v := z35) (lv' := [(1, .int z35), (0, .ref h0)]) hx hb dX10_agrees_64 hl (k := 1) rfl (by rw [ez35]; rfl) (by decide) rfl (fun ls hl => ?_)
          have tz35 := tn_add ez35 rfl kI_1 (by omega) (by omega)
          refine lv_goto (tgt := 20) hx hb dX10_agrees_67 (by decide) ?_
          exact ih20 A t34 H locs ls z35 hG (lv_sub hl [1, 0] rfl) (by omega) (by omega) (by exact ⟨hI, hT2, hA2, hA3, trivial⟩) (by omega)
        · skip
          have ic32 := tn_eq rfl rfl c32
          refine lv_iconst (v := 1) hx hb dX10_agrees_56 (by decide) ?_
          refine lv_goto (tgt := 61) hx hb dX10_agrees_57 (by decide) ?_
          have k36 := kI_1
          refine mc_callvX hG (mc_runV (As := [.int v1, .int 20, .int 1]) (rest := []) E hG (c_X10_putX l G (σ, 5, qX (upA A 5 t)) h0 v1 (20 : Int32) (1 : Int32) t0 (by omega) (by omega) (by decide) (by decide) (0) (1) rfl (by omega) (by omega)) t0 rfl kv_X10_put ml_X10_102 ⟨rfl, rfl, Nat.le_of_ble_eq_true rfl, Nat.le_of_ble_eq_true rfl⟩ rfl hl.1 rfl (Nat.le_of_ble_eq_true rfl) ⟨Nat.zero_le _, Nat.zero_le _⟩ dX10_agrees_61) (fun Z H locs eZ pZ hG => ?_)
          rw [pZ] at hG
          clear eZ pZ Z
          rw [show (20 : Int32).toInt = 20 from kI_20] at hG
          have hG := qX_set hcu (tr_y (by omega) (by omega) (by decide) (by decide)) hG
          obtain ⟨t37, et37⟩ : ∃ Z : Nat → Int32, Z = upN t (ix v1.toInt 20) (1 : Int32) := ⟨_, rfl⟩
          rw [← et37] at hG
          have hAGn : AG t t37 := by rw [et37]; exact AG.put (by omega) (by decide) (by decide)
          have hI := TInv_AG hAGn hI
          have h3n : (t37 3).toInt = (t 3).toInt := by rw [hAGn.2.1]
          have hT2 := hT2.trans hAGn.A2
          have h0t : (t37 0).toInt = (ta 0).toInt := by rw [hT2.1]
          have h3t : (t37 3).toInt = (ta 3).toInt := by rw [hT2.2.1]
          obtain ⟨z38, ez38⟩ : ∃ y : Int32, y = v1 + (1) := ⟨_, rfl⟩
          refine lv_iinc (v := z38) (lv' := [(1, .int z38), (0, .ref h0)]) hx hb dX10_agrees_64 hl (k := 1) rfl (by rw [ez38]; rfl) (by decide) rfl (fun ls hl => ?_)
          have tz38 := tn_add ez38 rfl kI_1 (by omega) (by omega)
          refine lv_goto (tgt := 20) hx hb dX10_agrees_67 (by decide) ?_
          exact ih20 A t37 H locs ls z38 hG (lv_sub hl [1, 0] rfl) (by omega) (by omega) (by exact ⟨hI, hT2, hA2, hA3, trivial⟩) (by omega)
  refine lv_aload_n hx hb dX10_agrees_0 rfl (lv_at hl 0 rfl) ?_
  refine tc_callp (mc_runV (As := []) (rest := []) E hG (c_X10_isFull l G (σ, 2, qX a) h0 t0) t0 rfl kv_X10_isFull ml_X10_409 ⟨rfl, rfl, Nat.le_of_ble_eq_true rfl, Nat.le_of_ble_eq_true rfl⟩ rfl hl.1 rfl (Nat.le_of_ble_eq_true rfl) ⟨Nat.zero_le _, Nat.zero_le _⟩ dX10_agrees_1) (fun r39 pr39 => ?_)
  replace pr39 : 0 ≤ r39.toInt ∧ r39.toInt ≤ 1 := pr39
  refine lv_if_eq (tgt := 10) hx hb dX10_agrees_4 (by decide) (fun c40 => ?_) (fun c40 => ?_)
  · skip
    have ic40 := tn_eq rfl kI_0 c40
    refine lv_aload_n hx hb dX10_agrees_10 rfl (lv_at hl 0 rfl) ?_
    refine lv_aload_n hx hb dX10_agrees_11 rfl (lv_at hl 0 rfl) ?_
    refine mc_getr E hG t0 mr_24 dX10_agrees_12 (fun oa41 hoa41 => ?_)
    refine mc_callvX hG (mc_runV (As := [.ref oa41]) (rest := []) E hG (c_X10_thinks l G σ 2 a 5 ta h0 oa41 t0 hoa41 mu_5 (by decide) hA2) t0 rfl kv_X10_thinks ml_X10_412 ⟨rfl, rfl, Nat.le_of_ble_eq_true rfl, Nat.le_of_ble_eq_true rfl⟩ rfl hl.1 rfl (Nat.le_of_ble_eq_true rfl) ⟨Nat.zero_le _, Nat.zero_le _⟩ dX10_agrees_15) (fun Z H locs eZ pZ hG => ?_)
    subst pZ
    clear eZ
    have hI := hIa
    have hT2 : A2 ta ta := A2.refl
    have hcu := mu_5
    refine lv_iconst (v := 0) hx hb dX10_agrees_18 (by decide) ?_
    refine lv_istore_n (lv' := [(1, .int 0), (0, .ref h0)]) hx hb dX10_agrees_19 rfl hl (by decide) rfl (fun ls hl => ?_)
    exact J20 ((24 - (0 : Int32).toInt).toNat + 1) a ta H locs ls (0 : Int32) hG (lv_sub hl [1, 0] rfl) (by decide) (by decide) (by exact ⟨hI, hT2, hA2, hA3, trivial⟩) (Nat.lt_succ_self _)
  · skip
    have ic40 := tn_ne rfl kI_0 c40
    refine lv_bipush (v := -4) hx hb dX10_agrees_7 (by decide) ?_
    exact mc_iretX E hr hlk hG rfl rfl ⟨_, rfl, hA2, hA3⟩ dX10_agrees_9

set_option maxHeartbeats 4000000 in
set_option maxRecDepth 100000 in
theorem c_X10_saved (l : Launch) (G : tG) (σ : Nat → Nat) (a : Nat → Option (Nat → Int32)) (ta : Nat → Int32) (h0 : Nat) (t0 : σ h0 = 1) (ha : a 2 = some ta) (hIa : TInv ta) : Met l yX10_saved (.code yX10_saved cX10_saved 3 (some .int) :: tWS) (tRm 10 228) (va_Pc [.ref h0] (mPre G (σ, 2, qX a))) (mQiX G (σ, 2, qX a) (fun r Z => ∃ A : Nat → Option (Nat → Int32), Z = (σ, 2, qX A) ∧ A 2 = some ta ∧ A 3 = a 3)) 0 0 (mA (σ, 2, qX a)) := by
  refine mc_met (by decide) (Nat.le_of_ble_eq_true rfl) ?_
  intro p e s m below meth c E hr hlk hG ls hl
  have hl : lv_has ls 3 [(0, .ref h0)] := hl
  have hx := E.1
  have hb := E.2.1
  obtain ⟨H, eH⟩ : ∃ H, H = s.heap := ⟨_, rfl⟩
  obtain ⟨locs, eL⟩ : ∃ x : List Loc, x = [] := ⟨_, rfl⟩
  have hG : mGH G (σ, 2, qX a) s H locs := by rw [eH, eL]; exact hG
  suffices hW : W p l e (tRm 10 228) s m ([.ref h0] : List Value).toArray below meth c H locs 0 0 (MQ below (mQiX G (σ, 2, qX a) (fun r Z => ∃ A : Nat → Option (Nat → Int32), Z = (σ, 2, qX A) ∧ A 2 = some ta ∧ A 3 = a 3)) ([.ref h0] : List Value).toArray s 0 0 (mA (σ, 2, qX a))) (F0 m 0 ls []) by subst eH; subst eL; exact hW
  clear eH eL
  have hA2 := ha
  have hA3 : a 3 = a 3 := rfl
  have hI := hIa
  have hcu := mu_2
  have hT2 : A2 ta ta := A2.refl
  have J75 : ∀ (n75 : Nat) (A : Nat → Option (Nat → Int32)) (t : Nat → Int32) (H : Heap) (locs : List Loc) (ls : Array Slot) (v1 : Int32) (v2 : Int32), mGH G (σ, 4, qX (upA A 4 t)) s H locs → lv_has ls 3 [(0, .ref h0), (1, .int v1), (2, .int v2)] → 0 ≤ v2.toInt → v2.toInt ≤ 8 → (TInv t ∧ A2 ta t ∧ A 2 = some ta ∧ A 3 = a 3 ∧ True) → (8 - v2.toInt).toNat < n75 → W p l e (tRm 10 228) s m ([.ref h0] : List Value).toArray below meth c H locs 0 0 (MQ below (mQiX G (σ, 2, qX a) (fun r Z => ∃ A : Nat → Option (Nat → Int32), Z = (σ, 2, qX A) ∧ A 2 = some ta ∧ A 3 = a 3)) ([.ref h0] : List Value).toArray s 0 0 (mA (σ, 2, qX a))) (F0 m 75 ls []) := by
    intro n75
    induction n75 with
    | zero => intro A t H locs ls v1 v2 hG hl b2 c2 hex75 hn75; exact absurd hn75 (Nat.not_lt_zero _)
    | succ n75 ih75 =>
      intro A t H locs ls v1 v2 hG hl b2 c2 hex75 hn75
      have hI := hex75.1
      have hT2 := hex75.2.1
      have hA2 := hex75.2.2.1
      have hA3 := hex75.2.2.2.1
      have hcu := mu_4
      have h0t : (t 0).toInt = (ta 0).toInt := by rw [hT2.1]
      have h3t : (t 3).toInt = (ta 3).toInt := by rw [hT2.2.1]
      refine lv_iload_n hx hb dX10_saved_75 rfl (lv_at hl 2 rfl) ?_
      refine lv_aload_n hx hb dX10_saved_76 rfl (lv_at hl 0 rfl) ?_
      refine mc_getn E hG t0 ff_X10_9 dX10_saved_77 (fun oa1 hoa1 => ?_)
      refine lv_iconst (v := 5) hx hb dX10_saved_80 (by decide) ?_
      refine mc_nald E hG hoa1 hG.2.2.1 (t_in (by decide) (by decide)) dX10_saved_81 (fun z2 lz2 uz2 qz2 => ?_)
      have lz2 : 0 ≤ z2.toInt := lz2
      have uz2 : z2.toInt ≤ 8 := uz2
      refine lv_icmp_ge (tgt := 97) hx hb dX10_saved_82 (by decide) (fun c3 => ?_) (fun c3 => ?_)
      · skip
        have ic3 := tn_le rfl rfl c3
        refine lv_aload_n hx hb dX10_saved_97 rfl (lv_at hl 0 rfl) ?_
        refine mc_callvX hG (mc_runV (As := []) (rest := []) E hG (c_X10_laysInThought l G σ 4 A t h0 t0 hI) t0 rfl kv_X10_laysInThought ml_X10_416 ⟨rfl, rfl, Nat.le_of_ble_eq_true rfl, Nat.le_of_ble_eq_true rfl⟩ rfl hl.1 rfl (Nat.le_of_ble_eq_true rfl) ⟨Nat.zero_le _, Nat.zero_le _⟩ dX10_saved_98) (fun Z H locs eZ pZ hG => ?_)
        obtain ⟨t5, rfl, pt5, hI⟩ := pZ
        clear eZ
        have h3n : (t5 3).toInt = (t 3).toInt := by rw [pt5.2.1]
        have h0n : (t5 0).toInt = (t 0).toInt := by rw [pt5.1]
        have hT2 := hT2.trans pt5.A2
        have h0t : (t5 0).toInt = (ta 0).toInt := by rw [hT2.1]
        have h3t : (t5 3).toInt = (ta 3).toInt := by rw [hT2.2.1]
        refine lv_aload_n hx hb dX10_saved_101 rfl (lv_at hl 0 rfl) ?_
        refine lv_aload_n hx hb dX10_saved_102 rfl (lv_at hl 0 rfl) ?_
        refine mc_getr E hG t0 mr_15 dX10_saved_103 (fun oa6 hoa6 => ?_)
        obtain ⟨A7, eA7⟩ : ∃ Z : Nat → Option (Nat → Int32), Z = upA A 4 t5 := ⟨_, rfl⟩
        rw [← eA7] at hG
        have hA2 : A7 2 = some ta := by rw [eA7]; exact (upA_ne (by decide)).trans hA2
        have hA3 : A7 3 = a 3 := by rw [eA7]; exact (upA_ne (by decide)).trans hA3
        refine mc_putn E hG t0 fq_X10_9 (show mCu (σ oa6) by rw [show σ oa6 = 2 from hoa6]; exact mu_2) dX10_saved_106 (fun H locs hG => ?_)
        have hG : mGH G (σ, σ oa6, qX A7) s H locs := hG
        rw [show σ oa6 = 2 from hoa6] at hG
        have hcu := mu_2
        have hI := hIa
        refine lv_iload_n hx hb dX10_saved_109 rfl (lv_at hl 1 rfl) ?_
        refine lv_aload_n hx hb dX10_saved_110 rfl (lv_at hl 0 rfl) ?_
        refine mc_geti E hG t0 mi_215 dX10_saved_111 (fun z8 lz8 uz8 qz8 => ?_)
        refine lv_isub hx hb dX10_saved_114 ?_
        refine lv_topi (fun z9 ez9 => ?_)
        exact mc_iretX E hr hlk hG rfl rfl ⟨_, rfl, hA2, hA3⟩ dX10_saved_115
      · skip
        have ic3 := tn_nle rfl rfl c3
        refine lv_aload_n hx hb dX10_saved_85 rfl (lv_at hl 0 rfl) ?_
        refine lv_iload_n hx hb dX10_saved_86 rfl (lv_at hl 2 rfl) ?_
        refine mc_calliX hG (mc_runV (As := [.int v2]) (rest := []) E hG (c_X10_goesBy l G σ 4 A t h0 v2 t0 (by omega) (by omega) hI) t0 rfl kv_X10_goesBy ml_X10_422 ⟨rfl, rfl, Nat.le_of_ble_eq_true rfl, Nat.le_of_ble_eq_true rfl⟩ rfl hl.1 rfl (Nat.le_of_ble_eq_true rfl) ⟨Nat.zero_le _, Nat.zero_le _⟩ dX10_saved_87) (fun r10 Z H locs eZ pZ hG => ?_)
        obtain ⟨t11, rfl, pt11, hI⟩ := pZ
        clear eZ
        have h3n : (t11 3).toInt = (t 3).toInt := by rw [pt11.2.1]
        have h0n : (t11 0).toInt = (t 0).toInt := by rw [pt11.1]
        have hT2 := hT2.trans pt11
        have h0t : (t11 0).toInt = (ta 0).toInt := by rw [hT2.1]
        have h3t : (t11 3).toInt = (ta 3).toInt := by rw [hT2.2.1]
        refine lv_pop hx hb dX10_saved_90 rfl ?_
        obtain ⟨z12, ez12⟩ : ∃ y : Int32, y = v2 + (1) := ⟨_, rfl⟩
        refine lv_iinc (v := z12) (lv' := [(2, .int z12), (0, .ref h0), (1, .int v1)]) hx hb dX10_saved_91 hl (k := 2) rfl (by rw [ez12]; rfl) (by decide) rfl (fun ls hl => ?_)
        have tz12 := tn_add ez12 rfl kI_1 (by omega) (by omega)
        refine lv_goto (tgt := 75) hx hb dX10_saved_94 (by decide) ?_
        exact ih75 A t11 H locs ls v1 z12 hG (lv_sub hl [1, 2, 0] rfl) (by omega) (by omega) (by exact ⟨hI, hT2, hA2, hA3, trivial⟩) (by omega)
  have J26 : ∀ (n26 : Nat) (A : Nat → Option (Nat → Int32)) (t : Nat → Int32) (H : Heap) (locs : List Loc) (ls : Array Slot) (v1 : Int32) (v2 : Int32), mGH G (σ, 4, qX (upA A 4 t)) s H locs → lv_has ls 3 [(0, .ref h0), (1, .int v1), (2, .int v2)] → 0 ≤ v2.toInt → v2.toInt ≤ 8 → (TInv t ∧ A2 ta t ∧ A 2 = some ta ∧ A 3 = a 3 ∧ True) → (8 - v2.toInt).toNat < n26 → W p l e (tRm 10 228) s m ([.ref h0] : List Value).toArray below meth c H locs 0 0 (MQ below (mQiX G (σ, 2, qX a) (fun r Z => ∃ A : Nat → Option (Nat → Int32), Z = (σ, 2, qX A) ∧ A 2 = some ta ∧ A 3 = a 3)) ([.ref h0] : List Value).toArray s 0 0 (mA (σ, 2, qX a))) (F0 m 26 ls []) := by
    intro n26
    induction n26 with
    | zero => intro A t H locs ls v1 v2 hG hl b2 c2 hex26 hn26; exact absurd hn26 (Nat.not_lt_zero _)
    | succ n26 ih26 =>
      intro A t H locs ls v1 v2 hG hl b2 c2 hex26 hn26
      have hI := hex26.1
      have hT2 := hex26.2.1
      have hA2 := hex26.2.2.1
      have hA3 := hex26.2.2.2.1
      have hcu := mu_4
      have h0t : (t 0).toInt = (ta 0).toInt := by rw [hT2.1]
      have h3t : (t 3).toInt = (ta 3).toInt := by rw [hT2.2.1]
      refine lv_iload_n hx hb dX10_saved_26 rfl (lv_at hl 2 rfl) ?_
      refine lv_aload_n hx hb dX10_saved_27 rfl (lv_at hl 0 rfl) ?_
      refine mc_getn E hG t0 ff_X10_9 dX10_saved_28 (fun oa13 hoa13 => ?_)
      refine lv_iconst (v := 5) hx hb dX10_saved_31 (by decide) ?_
      refine mc_nald E hG hoa13 hG.2.2.1 (t_in (by decide) (by decide)) dX10_saved_32 (fun z14 lz14 uz14 qz14 => ?_)
      have lz14 : 0 ≤ z14.toInt := lz14
      have uz14 : z14.toInt ≤ 8 := uz14
      refine lv_icmp_ge (tgt := 61) hx hb dX10_saved_33 (by decide) (fun c15 => ?_) (fun c15 => ?_)
      · skip
        have ic15 := tn_le rfl rfl c15
        refine lv_aload_n hx hb dX10_saved_61 rfl (lv_at hl 0 rfl) ?_
        refine lv_aload_n hx hb dX10_saved_62 rfl (lv_at hl 0 rfl) ?_
        refine mc_getr E hG t0 mr_21 dX10_saved_63 (fun oa16 hoa16 => ?_)
        obtain ⟨A17, eA17⟩ : ∃ Z : Nat → Option (Nat → Int32), Z = upA A 4 t := ⟨_, rfl⟩
        rw [← eA17] at hG
        have hA2 : A17 2 = some ta := by rw [eA17]; exact (upA_ne (by decide)).trans hA2
        have hA3 : A17 3 = a 3 := by rw [eA17]; exact (upA_ne (by decide)).trans hA3
        refine mc_callvX hG (mc_runV (As := [.ref oa16]) (rest := []) E hG (c_X10_thinks l G σ 4 A17 4 ta h0 oa16 t0 hoa16 mu_4 (by decide) hA2) t0 rfl kv_X10_thinks ml_X10_412 ⟨rfl, rfl, Nat.le_of_ble_eq_true rfl, Nat.le_of_ble_eq_true rfl⟩ rfl hl.1 rfl (Nat.le_of_ble_eq_true rfl) ⟨Nat.zero_le _, Nat.zero_le _⟩ dX10_saved_66) (fun Z H locs eZ pZ hG => ?_)
        subst pZ
        clear eZ
        have hI := hIa
        have hT2 : A2 ta ta := A2.refl
        have hcu := mu_4
        refine lv_aload_n hx hb dX10_saved_69 rfl (lv_at hl 0 rfl) ?_
        refine mc_callvX hG (mc_runV (As := []) (rest := []) E hG (c_X10_laysInThought l G σ 4 A17 ta h0 t0 hI) t0 rfl kv_X10_laysInThought ml_X10_416 ⟨rfl, rfl, Nat.le_of_ble_eq_true rfl, Nat.le_of_ble_eq_true rfl⟩ rfl hl.1 rfl (Nat.le_of_ble_eq_true rfl) ⟨Nat.zero_le _, Nat.zero_le _⟩ dX10_saved_70) (fun Z H locs eZ pZ hG => ?_)
        obtain ⟨t19, rfl, pt19, hI⟩ := pZ
        clear eZ
        have h3n : (t19 3).toInt = (ta 3).toInt := by rw [pt19.2.1]
        have h0n : (t19 0).toInt = (ta 0).toInt := by rw [pt19.1]
        have hT2 := hT2.trans pt19.A2
        have h0t : (t19 0).toInt = (ta 0).toInt := by rw [hT2.1]
        have h3t : (t19 3).toInt = (ta 3).toInt := by rw [hT2.2.1]
        refine lv_iconst (v := 0) hx hb dX10_saved_73 (by decide) ?_
        refine lv_istore_n (lv' := [(2, .int 0), (0, .ref h0), (1, .int v1)]) hx hb dX10_saved_74 rfl hl (by decide) rfl (fun ls hl => ?_)
        exact J75 ((8 - (0 : Int32).toInt).toNat + 1) A17 t19 H locs ls v1 (0 : Int32) hG (lv_sub hl [1, 2, 0] rfl) (by decide) (by decide) (by exact ⟨hI, hT2, hA2, hA3, trivial⟩) (Nat.lt_succ_self _)
      · skip
        have ic15 := tn_nle rfl rfl c15
        refine lv_aload_n hx hb dX10_saved_36 rfl (lv_at hl 0 rfl) ?_
        refine lv_iload_n hx hb dX10_saved_37 rfl (lv_at hl 2 rfl) ?_
        refine mc_calliX hG (mc_runV (As := [.int v2]) (rest := []) E hG (c_X10_goesBy l G σ 4 A t h0 v2 t0 (by omega) (by omega) hI) t0 rfl kv_X10_goesBy ml_X10_422 ⟨rfl, rfl, Nat.le_of_ble_eq_true rfl, Nat.le_of_ble_eq_true rfl⟩ rfl hl.1 rfl (Nat.le_of_ble_eq_true rfl) ⟨Nat.zero_le _, Nat.zero_le _⟩ dX10_saved_38) (fun r20 Z H locs eZ pZ hG => ?_)
        obtain ⟨t21, rfl, pt21, hI⟩ := pZ
        clear eZ
        have h3n : (t21 3).toInt = (t 3).toInt := by rw [pt21.2.1]
        have h0n : (t21 0).toInt = (t 0).toInt := by rw [pt21.1]
        have hT2 := hT2.trans pt21
        have h0t : (t21 0).toInt = (ta 0).toInt := by rw [hT2.1]
        have h3t : (t21 3).toInt = (ta 3).toInt := by rw [hT2.2.1]
        refine lv_if_eq (tgt := 55) hx hb dX10_saved_41 (by decide) (fun c22 => ?_) (fun c22 => ?_)
        · skip
          have ic22 := tn_eq rfl kI_0 c22
          obtain ⟨z23, ez23⟩ : ∃ y : Int32, y = v2 + (1) := ⟨_, rfl⟩
          refine lv_iinc (v := z23) (lv' := [(2, .int z23), (0, .ref h0), (1, .int v1)]) hx hb dX10_saved_55 hl (k := 2) rfl (by rw [ez23]; rfl) (by decide) rfl (fun ls hl => ?_)
          have tz23 := tn_add ez23 rfl kI_1 (by omega) (by omega)
          refine lv_goto (tgt := 26) hx hb dX10_saved_58 (by decide) ?_
          exact ih26 A t21 H locs ls v1 z23 hG (lv_sub hl [1, 2, 0] rfl) (by omega) (by omega) (by exact ⟨hI, hT2, hA2, hA3, trivial⟩) (by omega)
        · skip
          have ic22 := tn_ne rfl kI_0 c22
          refine lv_aload_n hx hb dX10_saved_44 rfl (lv_at hl 0 rfl) ?_
          refine mc_callvX hG (mc_runV (As := []) (rest := []) E hG (c_X10_laysInThought l G σ 4 A t21 h0 t0 hI) t0 rfl kv_X10_laysInThought ml_X10_416 ⟨rfl, rfl, Nat.le_of_ble_eq_true rfl, Nat.le_of_ble_eq_true rfl⟩ rfl hl.1 rfl (Nat.le_of_ble_eq_true rfl) ⟨Nat.zero_le _, Nat.zero_le _⟩ dX10_saved_45) (fun Z H locs eZ pZ hG => ?_)
          obtain ⟨t25, rfl, pt25, hI⟩ := pZ
          clear eZ
          have h3n : (t25 3).toInt = (t21 3).toInt := by rw [pt25.2.1]
          have h0n : (t25 0).toInt = (t21 0).toInt := by rw [pt25.1]
          have hT2 := hT2.trans pt25.A2
          have h0t : (t25 0).toInt = (ta 0).toInt := by rw [hT2.1]
          have h3t : (t25 3).toInt = (ta 3).toInt := by rw [hT2.2.1]
          refine lv_iload_n hx hb dX10_saved_48 rfl (lv_at hl 1 rfl) ?_
          refine lv_aload_n hx hb dX10_saved_49 rfl (lv_at hl 0 rfl) ?_
          refine mc_geti E hG t0 mi_215 dX10_saved_50 (fun z26 lz26 uz26 qz26 => ?_)
          refine lv_iadd hx hb dX10_saved_53 ?_
          refine lv_topi (fun z27 ez27 => ?_)
          refine lv_istore_n (lv' := [(1, .int z27), (0, .ref h0), (2, .int v2)]) hx hb dX10_saved_54 rfl hl (by decide) rfl (fun ls hl => ?_)
          obtain ⟨z28, ez28⟩ : ∃ y : Int32, y = v2 + (1) := ⟨_, rfl⟩
          refine lv_iinc (v := z28) (lv' := [(2, .int z28), (1, .int z27), (0, .ref h0)]) hx hb dX10_saved_55 hl (k := 2) rfl (by rw [ez28]; rfl) (by decide) rfl (fun ls hl => ?_)
          have tz28 := tn_add ez28 rfl kI_1 (by omega) (by omega)
          refine lv_goto (tgt := 26) hx hb dX10_saved_58 (by decide) ?_
          exact ih26 A t25 H locs ls z27 z28 hG (lv_sub hl [2, 1, 0] rfl) (by omega) (by omega) (by exact ⟨hI, hT2, hA2, hA3, trivial⟩) (by omega)
  refine lv_aload_n hx hb dX10_saved_0 rfl (lv_at hl 0 rfl) ?_
  refine tc_callp (mc_runV (As := []) (rest := []) E hG (c_X10_isFull l G (σ, 2, qX a) h0 t0) t0 rfl kv_X10_isFull ml_X10_409 ⟨rfl, rfl, Nat.le_of_ble_eq_true rfl, Nat.le_of_ble_eq_true rfl⟩ rfl hl.1 rfl (Nat.le_of_ble_eq_true rfl) ⟨Nat.zero_le _, Nat.zero_le _⟩ dX10_saved_1) (fun r29 pr29 => ?_)
  replace pr29 : 0 ≤ r29.toInt ∧ r29.toInt ≤ 1 := pr29
  refine lv_if_eq (tgt := 10) hx hb dX10_saved_4 (by decide) (fun c30 => ?_) (fun c30 => ?_)
  · skip
    have ic30 := tn_eq rfl kI_0 c30
    refine lv_iconst (v := 0) hx hb dX10_saved_10 (by decide) ?_
    refine lv_istore_n (lv' := [(1, .int 0), (0, .ref h0)]) hx hb dX10_saved_11 rfl hl (by decide) rfl (fun ls hl => ?_)
    refine lv_aload_n hx hb dX10_saved_12 rfl (lv_at hl 1 rfl) ?_
    refine lv_aload_n hx hb dX10_saved_13 rfl (lv_at hl 1 rfl) ?_
    refine mc_getr E hG t0 mr_21 dX10_saved_14 (fun oa31 hoa31 => ?_)
    refine mc_callvX hG (mc_runV (As := [.ref oa31]) (rest := []) E hG (c_X10_thinks l G σ 2 a 4 ta h0 oa31 t0 hoa31 mu_4 (by decide) hA2) t0 rfl kv_X10_thinks ml_X10_412 ⟨rfl, rfl, Nat.le_of_ble_eq_true rfl, Nat.le_of_ble_eq_true rfl⟩ rfl hl.1 rfl (Nat.le_of_ble_eq_true rfl) ⟨Nat.zero_le _, Nat.zero_le _⟩ dX10_saved_17) (fun Z H locs eZ pZ hG => ?_)
    subst pZ
    clear eZ
    have hI := hIa
    have hT2 : A2 ta ta := A2.refl
    have hcu := mu_4
    refine lv_aload_n hx hb dX10_saved_20 rfl (lv_at hl 1 rfl) ?_
    refine mc_callvX hG (mc_runV (As := []) (rest := []) E hG (c_X10_laysInThought l G σ 4 a ta h0 t0 hI) t0 rfl kv_X10_laysInThought ml_X10_416 ⟨rfl, rfl, Nat.le_of_ble_eq_true rfl, Nat.le_of_ble_eq_true rfl⟩ rfl hl.1 rfl (Nat.le_of_ble_eq_true rfl) ⟨Nat.zero_le _, Nat.zero_le _⟩ dX10_saved_21) (fun Z H locs eZ pZ hG => ?_)
    obtain ⟨t33, rfl, pt33, hI⟩ := pZ
    clear eZ
    have h3n : (t33 3).toInt = (ta 3).toInt := by rw [pt33.2.1]
    have h0n : (t33 0).toInt = (ta 0).toInt := by rw [pt33.1]
    have hT2 := hT2.trans pt33.A2
    have h0t : (t33 0).toInt = (ta 0).toInt := by rw [hT2.1]
    have h3t : (t33 3).toInt = (ta 3).toInt := by rw [hT2.2.1]
    refine lv_iconst (v := 0) hx hb dX10_saved_24 (by decide) ?_
    refine lv_istore_n (lv' := [(2, .int 0), (1, .int 0), (0, .ref h0)]) hx hb dX10_saved_25 rfl hl (by decide) rfl (fun ls hl => ?_)
    exact J26 ((8 - (0 : Int32).toInt).toNat + 1) a t33 H locs ls (0 : Int32) (0 : Int32) hG (lv_sub hl [2, 1, 0] rfl) (by decide) (by decide) (by exact ⟨hI, hT2, hA2, hA3, trivial⟩) (Nat.lt_succ_self _)
  · skip
    have ic30 := tn_ne rfl kI_0 c30
    refine lv_bipush (v := -4) hx hb dX10_saved_7 (by decide) ?_
    exact mc_iretX E hr hlk hG rfl rfl ⟨_, rfl, hA2, hA3⟩ dX10_saved_9

set_option maxHeartbeats 4000000 in
set_option maxRecDepth 100000 in
theorem c_X10_drawn (l : Launch) (G : tG) (σ : Nat → Nat) (a : Nat → Option (Nat → Int32)) (ta : Nat → Int32) (h0 : Nat) (x1 : Int32) (t0 : σ h0 = 1) (ha : a 2 = some ta) (hIa : TInv ta) : Met l yX10_drawn (.code yX10_drawn cX10_drawn 5 (some .int) :: tWS) (tRm 10 228) (va_Pc [.ref h0, .int x1] (mPre G (σ, 2, qX a))) (mQiX G (σ, 2, qX a) (fun r Z => ∃ A : Nat → Option (Nat → Int32), Z = (σ, 2, qX A) ∧ A 2 = some ta ∧ A 3 = a 3)) 0 0 (mA (σ, 2, qX a)) := by
  refine mc_met (by decide) (Nat.le_of_ble_eq_true rfl) ?_
  intro p e s m below meth c E hr hlk hG ls hl
  have hl : lv_has ls 5 [(0, .ref h0), (1, .int x1)] := hl
  have hx := E.1
  have hb := E.2.1
  obtain ⟨H, eH⟩ : ∃ H, H = s.heap := ⟨_, rfl⟩
  obtain ⟨locs, eL⟩ : ∃ x : List Loc, x = [] := ⟨_, rfl⟩
  have hG : mGH G (σ, 2, qX a) s H locs := by rw [eH, eL]; exact hG
  suffices hW : W p l e (tRm 10 228) s m ([.ref h0, .int x1] : List Value).toArray below meth c H locs 0 0 (MQ below (mQiX G (σ, 2, qX a) (fun r Z => ∃ A : Nat → Option (Nat → Int32), Z = (σ, 2, qX A) ∧ A 2 = some ta ∧ A 3 = a 3)) ([.ref h0, .int x1] : List Value).toArray s 0 0 (mA (σ, 2, qX a))) (F0 m 0 ls []) by subst eH; subst eL; exact hW
  clear eH eL
  have hA2 := ha
  have hA3 : a 3 = a 3 := rfl
  have hI := hIa
  have hcu := mu_2
  have hT2 : A2 ta ta := A2.refl
  have J29 : ∀ (n29 : Nat) (cu : Nat) (A : Nat → Option (Nat → Int32)) (H : Heap) (locs : List Loc) (ls : Array Slot) (v2 : Int32) (v3 : Int32), mGH G (σ, cu, qX A) s H locs → lv_has ls 5 [(0, .ref h0), (1, .int x1), (2, .int v2), (3, .int v3)] → 1 ≤ x1.toInt → x1.toInt ≤ 20 → 0 ≤ v3.toInt → v3.toInt ≤ 20 → (A 2 = some ta ∧ A 3 = a 3 ∧ True) → (20 - v3.toInt).toNat < n29 → W p l e (tRm 10 228) s m ([.ref h0, .int x1] : List Value).toArray below meth c H locs 0 0 (MQ below (mQiX G (σ, 2, qX a) (fun r Z => ∃ A : Nat → Option (Nat → Int32), Z = (σ, 2, qX A) ∧ A 2 = some ta ∧ A 3 = a 3)) ([.ref h0, .int x1] : List Value).toArray s 0 0 (mA (σ, 2, qX a))) (F0 m 29 ls []) := by
    intro n29
    induction n29 with
    | zero => intro cu A H locs ls v2 v3 hG hl bp1 cp1 b3 c3 hex29 hn29; exact absurd hn29 (Nat.not_lt_zero _)
    | succ n29 ih29 =>
      intro cu A H locs ls v2 v3 hG hl bp1 cp1 b3 c3 hex29 hn29
      have J91 : ∀ (n91 : Nat) (A : Nat → Option (Nat → Int32)) (t : Nat → Int32) (H : Heap) (locs : List Loc) (ls : Array Slot) (v2 : Int32) (v3 : Int32) (v4 : Int32), mGH G (σ, 4, qX (upA A 4 t)) s H locs → lv_has ls 5 [(0, .ref h0), (1, .int x1), (2, .int v2), (3, .int v3), (4, .int v4)] → 1 ≤ x1.toInt → x1.toInt ≤ 20 → 0 ≤ v3.toInt → v3.toInt ≤ 19 → 0 ≤ v4.toInt → v4.toInt ≤ 24 → (20 - v3.toInt).toNat < n29 + 1 → (TInv t ∧ A2 ta t ∧ A 2 = some ta ∧ A 3 = a 3 ∧ True) → (24 - v4.toInt).toNat < n91 → W p l e (tRm 10 228) s m ([.ref h0, .int x1] : List Value).toArray below meth c H locs 0 0 (MQ below (mQiX G (σ, 2, qX a) (fun r Z => ∃ A : Nat → Option (Nat → Int32), Z = (σ, 2, qX A) ∧ A 2 = some ta ∧ A 3 = a 3)) ([.ref h0, .int x1] : List Value).toArray s 0 0 (mA (σ, 2, qX a))) (F0 m 91 ls []) := by
        intro n91
        induction n91 with
        | zero => intro A t H locs ls v2 v3 v4 hG hl bp1 cp1 b3 c3 b4 c4 hm29 hex91 hn91; exact absurd hn91 (Nat.not_lt_zero _)
        | succ n91 ih91 =>
          intro A t H locs ls v2 v3 v4 hG hl bp1 cp1 b3 c3 b4 c4 hm29 hex91 hn91
          have hI := hex91.1
          have hT2 := hex91.2.1
          have hA2 := hex91.2.2.1
          have hA3 := hex91.2.2.2.1
          have hcu := mu_4
          have h0t : (t 0).toInt = (ta 0).toInt := by rw [hT2.1]
          have h3t : (t 3).toInt = (ta 3).toInt := by rw [hT2.2.1]
          refine lv_iload hx hb dX10_drawn_91 (lv_at hl 4 rfl) ?_
          refine lv_bipush (v := 24) hx hb dX10_drawn_93 (by decide) ?_
          refine lv_icmp_ge (tgt := 128) hx hb dX10_drawn_95 (by decide) (fun c1 => ?_) (fun c1 => ?_)
          · skip
            have ic1 := tn_le kI_24 rfl c1
            obtain ⟨z2, ez2⟩ : ∃ y : Int32, y = v3 + (1) := ⟨_, rfl⟩
            refine lv_iinc (v := z2) (lv' := [(3, .int z2), (0, .ref h0), (1, .int x1), (2, .int v2), (4, .int v4)]) hx hb dX10_drawn_128 hl (k := 3) rfl (by rw [ez2]; rfl) (by decide) rfl (fun ls hl => ?_)
            have tz2 := tn_add ez2 rfl kI_1 (by omega) (by omega)
            refine lv_goto (tgt := 29) hx hb dX10_drawn_131 (by decide) ?_
            exact ih29 4 (upA A 4 t) H locs ls v2 z2 hG (lv_sub hl [1, 2, 3, 0] rfl) (by omega) (by omega) (by omega) (by omega) (by exact ⟨(upA_ne (by decide)).trans hA2, (upA_ne (by decide)).trans hA3, trivial⟩) (by omega)
          · skip
            have ic1 := tn_nle kI_24 rfl c1
            refine lv_iload_n hx hb dX10_drawn_98 rfl (lv_at hl 2 rfl) ?_
            refine lv_aload_n hx hb dX10_drawn_99 rfl (lv_at hl 0 rfl) ?_
            refine lv_iload hx hb dX10_drawn_100 (lv_at hl 4 rfl) ?_
            refine tc_callp (mc_runV (As := [.int v4]) (rest := [.int v2]) E hG (c_X10_isBox l G (σ, 4, qX (upA A 4 t)) h0 v4 t0) t0 rfl kv_X10_isBox ml_X10_127 ⟨rfl, rfl, Nat.le_of_ble_eq_true rfl, Nat.le_of_ble_eq_true rfl⟩ rfl hl.1 rfl (Nat.le_of_ble_eq_true rfl) ⟨Nat.zero_le _, Nat.zero_le _⟩ dX10_drawn_102) (fun r3 pr3 => ?_)
            replace pr3 : (r3.toInt = 1 ∧ 0 ≤ v4.toInt ∧ v4.toInt ≤ 23 ∧ mV (σ, 4, qX (upA A 4 t)) (ix v4.toInt 0) 1) ∨ (r3.toInt = 0 ∧ (v4.toInt < 0 ∨ 23 < v4.toInt ∨ ∃ v : Int32, ¬ v.toInt = 1 ∧ mV (σ, 4, qX (upA A 4 t)) (ix v4.toInt 0) v)) := pr3
            have cr3 := mB pr3 (qX_TI hcu upA_at) hI
            clear pr3
            refine lv_if_eq (tgt := 119) hx hb dX10_drawn_105 (by decide) (fun c4 => ?_) (fun c4 => ?_)
            · skip
              have ic4 := tn_eq rfl kI_0 c4
              refine lv_iconst (v := 0) hx hb dX10_drawn_119 (by decide) ?_
              refine lv_iadd hx hb dX10_drawn_120 ?_
              refine lv_topi (fun z5 ez5 => ?_)
              refine lv_istore_n (lv' := [(2, .int z5), (0, .ref h0), (1, .int x1), (3, .int v3), (4, .int v4)]) hx hb dX10_drawn_121 rfl hl (by decide) rfl (fun ls hl => ?_)
              obtain ⟨z6, ez6⟩ : ∃ y : Int32, y = v4 + (1) := ⟨_, rfl⟩
              refine lv_iinc (v := z6) (lv' := [(4, .int z6), (2, .int z5), (0, .ref h0), (1, .int x1), (3, .int v3)]) hx hb dX10_drawn_122 hl (k := 4) rfl (by rw [ez6]; rfl) (by decide) rfl (fun ls hl => ?_)
              have tz6 := tn_add ez6 rfl kI_1 (by omega) (by omega)
              refine lv_goto (tgt := 91) hx hb dX10_drawn_125 (by decide) ?_
              exact ih91 A t H locs ls z5 v3 z6 hG (lv_sub hl [2, 3, 1, 4, 0] rfl) (by omega) (by omega) (by omega) (by omega) (by omega) (by omega) (by omega) (by exact ⟨hI, hT2, hA2, hA3, trivial⟩) (by omega)
            · skip
              have ic4 := tn_ne rfl kI_0 c4
              refine lv_aload_n hx hb dX10_drawn_108 rfl (lv_at hl 0 rfl) ?_
              refine lv_iload hx hb dX10_drawn_109 (lv_at hl 4 rfl) ?_
              refine lv_bipush (v := 34) hx hb dX10_drawn_111 (by decide) ?_
              refine tc_callp (mc_runV (As := [.int v4, .int 34]) (rest := [.int v2]) E hG (c_X10_get l G (σ, 4, qX (upA A 4 t)) h0 v4 (34 : Int32) t0 (by omega) (by omega) (by decide) (by decide)) t0 rfl kv_X10_get ml_X10_91 ⟨rfl, rfl, Nat.le_of_ble_eq_true rfl, Nat.le_of_ble_eq_true rfl⟩ rfl hl.1 rfl (Nat.le_of_ble_eq_true rfl) ⟨Nat.zero_le _, Nat.zero_le _⟩ dX10_drawn_113) (fun r7 pr7 => ?_)
              replace pr7 : mV (σ, 4, qX (upA A 4 t)) (ix v4.toInt (34 : Int32).toInt) r7 := pr7
              have pr7 := mV_l pr7 kI_34
              have k8 := kI_34
              refine lv_goto (tgt := 120) hx hb dX10_drawn_116 (by decide) ?_
              refine lv_iadd hx hb dX10_drawn_120 ?_
              refine lv_topi (fun z9 ez9 => ?_)
              refine lv_istore_n (lv' := [(2, .int z9), (0, .ref h0), (1, .int x1), (3, .int v3), (4, .int v4)]) hx hb dX10_drawn_121 rfl hl (by decide) rfl (fun ls hl => ?_)
              obtain ⟨z10, ez10⟩ : ∃ y : Int32, y = v4 + (1) := ⟨_, rfl⟩
              refine lv_iinc (v := z10) (lv' := [(4, .int z10), (2, .int z9), (0, .ref h0), (1, .int x1), (3, .int v3)]) hx hb dX10_drawn_122 hl (k := 4) rfl (by rw [ez10]; rfl) (by decide) rfl (fun ls hl => ?_)
              have tz10 := tn_add ez10 rfl kI_1 (by omega) (by omega)
              refine lv_goto (tgt := 91) hx hb dX10_drawn_125 (by decide) ?_
              exact ih91 A t H locs ls z9 v3 z10 hG (lv_sub hl [2, 3, 1, 4, 0] rfl) (by omega) (by omega) (by omega) (by omega) (by omega) (by omega) (by omega) (by exact ⟨hI, hT2, hA2, hA3, trivial⟩) (by omega)
      have hA2 := hex29.1
      have hA3 := hex29.2.1
      have hI := hIa
      have hcu : mCu cu := hG.2.2.1
      refine lv_iload_n hx hb dX10_drawn_29 rfl (lv_at hl 3 rfl) ?_
      refine lv_iload_n hx hb dX10_drawn_30 rfl (lv_at hl 1 rfl) ?_
      refine lv_icmp_ge (tgt := 134) hx hb dX10_drawn_31 (by decide) (fun c11 => ?_) (fun c11 => ?_)
      · skip
        have ic11 := tn_le rfl rfl c11
        refine lv_aload_n hx hb dX10_drawn_134 rfl (lv_at hl 0 rfl) ?_
        refine lv_aload_n hx hb dX10_drawn_135 rfl (lv_at hl 0 rfl) ?_
        refine mc_getr E hG t0 mr_15 dX10_drawn_136 (fun oa12 hoa12 => ?_)
        refine mc_putn E hG t0 fq_X10_9 (show mCu (σ oa12) by rw [show σ oa12 = 2 from hoa12]; exact mu_2) dX10_drawn_139 (fun H locs hG => ?_)
        have hG : mGH G (σ, σ oa12, qX A) s H locs := hG
        rw [show σ oa12 = 2 from hoa12] at hG
        have hcu := mu_2
        have hI := hIa
        refine lv_iload_n hx hb dX10_drawn_142 rfl (lv_at hl 2 rfl) ?_
        exact mc_iretX E hr hlk hG rfl rfl ⟨_, rfl, hA2, hA3⟩ dX10_drawn_143
      · skip
        have ic11 := tn_nle rfl rfl c11
        refine lv_aload_n hx hb dX10_drawn_34 rfl (lv_at hl 0 rfl) ?_
        refine mc_getr E hG t0 mr_15 dX10_drawn_35 (fun oa13 hoa13 => ?_)
        refine lv_iconst (v := 4) hx hb dX10_drawn_38 (by decide) ?_
        refine lv_aload_n hx hb dX10_drawn_39 rfl (lv_at hl 0 rfl) ?_
        refine mc_getr E hG t0 mr_15 dX10_drawn_40 (fun oa14 hoa14 => ?_)
        refine lv_iconst (v := 4) hx hb dX10_drawn_43 (by decide) ?_
        refine mc_nald E hG hoa14 mu_2 (t_in (by decide) (by decide)) dX10_drawn_44 (fun z15 lz15 uz15 qz15 => ?_)
        have lz15 : -2147483648 ≤ z15.toInt := lz15
        have uz15 : z15.toInt ≤ 2147483647 := uz15
        refine lv_ldcw (v := 1103515245) hx hb E.2.2.2.1 (E.2.2.2.2.1 _ (t_w8 122 rfl rfl)) dX10_drawn_45 ?_
        refine lv_topi (fun z16 ez16 => ?_)
        refine lv_imul hx hb dX10_drawn_48 ?_
        refine lv_topi (fun z17 ez17 => ?_)
        refine lv_sipush (v := 12345) hx hb dX10_drawn_49 (by decide) ?_
        refine lv_iadd hx hb dX10_drawn_52 ?_
        refine lv_topi (fun z18 ez18 => ?_)
        refine mc_nast E hG hoa13 mu_2 (qX_nk (by decide) rfl) (t_in (by decide) (by decide)) (lo := -2147483648) (hi := 2147483647) rfl (t_any1 _) (t_any2 _) dX10_drawn_53 (fun H locs hG => ?_)
        refine lv_aload_n hx hb dX10_drawn_54 rfl (lv_at hl 0 rfl) ?_
        refine lv_aload_n hx hb dX10_drawn_55 rfl (lv_at hl 0 rfl) ?_
        refine mc_getr E hG t0 mr_21 dX10_drawn_56 (fun oa19 hoa19 => ?_)
        refine mc_callvX hG (mc_runV (As := [.ref oa19]) (rest := []) E hG (c_X10_thinks l G σ cu A 4 ta h0 oa19 t0 hoa19 mu_4 (by decide) hA2) t0 rfl kv_X10_thinks ml_X10_412 ⟨rfl, rfl, Nat.le_of_ble_eq_true rfl, Nat.le_of_ble_eq_true rfl⟩ rfl hl.1 rfl (Nat.le_of_ble_eq_true rfl) ⟨Nat.zero_le _, Nat.zero_le _⟩ dX10_drawn_59) (fun Z H locs eZ pZ hG => ?_)
        subst pZ
        clear eZ
        have hI := hIa
        have hT2 : A2 ta ta := A2.refl
        have hcu := mu_4
        refine lv_aload_n hx hb dX10_drawn_62 rfl (lv_at hl 0 rfl) ?_
        refine lv_aload_n hx hb dX10_drawn_63 rfl (lv_at hl 0 rfl) ?_
        refine mc_getr E hG t0 mr_15 dX10_drawn_64 (fun oa20 hoa20 => ?_)
        refine lv_iconst (v := 4) hx hb dX10_drawn_67 (by decide) ?_
        refine mc_nald E hG hoa20 mu_2 (t_in (by decide) (by decide)) dX10_drawn_68 (fun z21 lz21 uz21 qz21 => ?_)
        have lz21 : -2147483648 ≤ z21.toInt := lz21
        have uz21 : z21.toInt ≤ 2147483647 := uz21
        refine lv_bipush (v := 16) hx hb dX10_drawn_69 (by decide) ?_
        refine lv_iushr hx hb dX10_drawn_71 rfl ?_
        refine lv_topi (fun z22 ez22 => ?_)
        have hus := ush16 ez22
        refine lv_bipush (v := 101) hx hb dX10_drawn_72 (by decide) ?_
        refine lv_irem hx hb dX10_drawn_74 (by decide) ?_
        refine lv_topi (fun z23 ez23 => ?_)
        have tz23 := tn_rem ez23 kI_101 (by omega) (by decide)
        refine lv_aload_n hx hb dX10_drawn_75 rfl (lv_at hl 0 rfl) ?_
        refine mc_getn E hG t0 ff_X10_9 dX10_drawn_76 (fun oa24 hoa24 => ?_)
        refine lv_iconst (v := 2) hx hb dX10_drawn_79 (by decide) ?_
        refine mc_nald E hG hoa24 hG.2.2.1 (t_in (by decide) (by decide)) dX10_drawn_80 (fun z25 lz25 uz25 qz25 => ?_)
        have lz25 : 0 ≤ z25.toInt := lz25
        have uz25 : z25.toInt ≤ 1000 := uz25
        refine mc_callvX hG (mc_runV (As := [.int z23, .int z25]) (rest := []) E hG (c_X10_screens l G σ 4 A ta h0 z23 z25 t0 (by omega) (by omega) (by omega) (by omega) hI) t0 rfl kv_X10_screens ml_X10_165 ⟨rfl, rfl, Nat.le_of_ble_eq_true rfl, Nat.le_of_ble_eq_true rfl⟩ rfl hl.1 rfl (Nat.le_of_ble_eq_true rfl) ⟨Nat.zero_le _, Nat.zero_le _⟩ dX10_drawn_81) (fun Z H locs eZ pZ hG => ?_)
        obtain ⟨t27, rfl, pt27, hI⟩ := pZ
        clear eZ
        have h3n : (t27 3).toInt = (ta 3).toInt := by rw [pt27.2.1]
        have h0n : (t27 0).toInt = (ta 0).toInt := by rw [pt27.1]
        have hT2 := hT2.trans pt27.A2
        have h0t : (t27 0).toInt = (ta 0).toInt := by rw [hT2.1]
        have h3t : (t27 3).toInt = (ta 3).toInt := by rw [hT2.2.1]
        refine lv_aload_n hx hb dX10_drawn_84 rfl (lv_at hl 0 rfl) ?_
        refine mc_callvX hG (mc_runV (As := []) (rest := []) E hG (c_X10_laysInThought l G σ 4 A t27 h0 t0 hI) t0 rfl kv_X10_laysInThought ml_X10_416 ⟨rfl, rfl, Nat.le_of_ble_eq_true rfl, Nat.le_of_ble_eq_true rfl⟩ rfl hl.1 rfl (Nat.le_of_ble_eq_true rfl) ⟨Nat.zero_le _, Nat.zero_le _⟩ dX10_drawn_85) (fun Z H locs eZ pZ hG => ?_)
        obtain ⟨t29, rfl, pt29, hI⟩ := pZ
        clear eZ
        have h3n : (t29 3).toInt = (t27 3).toInt := by rw [pt29.2.1]
        have h0n : (t29 0).toInt = (t27 0).toInt := by rw [pt29.1]
        have hT2 := hT2.trans pt29.A2
        have h0t : (t29 0).toInt = (ta 0).toInt := by rw [hT2.1]
        have h3t : (t29 3).toInt = (ta 3).toInt := by rw [hT2.2.1]
        refine lv_iconst (v := 0) hx hb dX10_drawn_88 (by decide) ?_
        refine lv_istore (lv' := [(4, .int 0), (0, .ref h0), (1, .int x1), (2, .int v2), (3, .int v3)]) hx hb dX10_drawn_89 hl (by decide) rfl (fun ls hl => ?_)
        exact J91 ((24 - (0 : Int32).toInt).toNat + 1) A t29 H locs ls v2 v3 (0 : Int32) hG (lv_sub hl [1, 2, 3, 4, 0] rfl) (by omega) (by omega) (by omega) (by omega) (by decide) (by decide) (by omega) (by exact ⟨hI, hT2, hA2, hA3, trivial⟩) (Nat.lt_succ_self _)
  refine lv_iload_n hx hb dX10_drawn_0 rfl (lv_at hl 1 rfl) ?_
  refine lv_i2l hx hb dX10_drawn_1 rfl ?_
  refine lv_topl (fun z30 ez30 => ?_)
  have tz30 := tl_i2l ez30
  refine lv_lconst (v := 1) hx hb dX10_drawn_2 (by decide) ?_
  refine lv_topl (fun z31 ez31 => ?_)
  have tz31 : z31.toInt = 1 := by rw [ez31]; decide
  refine lv_ldc2 (v := 20) hx hb E.2.2.2.1 (E.2.2.2.2.1 _ (t_w8 110 rfl rfl)) dX10_drawn_3 ?_
  refine lv_topl (fun z32 ez32 => ?_)
  have tz32 : z32.toInt = 20 := by rw [ez32]; decide
  refine tc_callp (mc_runS (As := [.long z30, .long z31, .long z32]) (rest := []) E hG (c_X10_in l G (σ, 2, qX a) z30 z31 z32) ks_X10_in ml_X10_87 ⟨rfl, rfl, Nat.le_of_ble_eq_true rfl, Nat.le_of_ble_eq_true rfl⟩ rfl hl.1 rfl (Nat.le_of_ble_eq_true rfl) ⟨Nat.zero_le _, Nat.zero_le _⟩ dX10_drawn_6) (fun r33 pr33 => ?_)
  replace pr33 : ((r33.toInt = 1 ∧ z31.toInt ≤ z30.toInt ∧ z30.toInt ≤ z32.toInt) ∨ (r33.toInt = 0 ∧ (z30.toInt < z31.toInt ∨ z32.toInt < z30.toInt))) := pr33
  refine lv_if_ne (tgt := 15) hx hb dX10_drawn_9 (by decide) (fun c34 => ?_) (fun c34 => ?_)
  · skip
    have ic34 := tn_ne rfl kI_0 c34
    refine lv_aload_n hx hb dX10_drawn_15 rfl (lv_at hl 0 rfl) ?_
    refine tc_callp (mc_runV (As := []) (rest := []) E hG (c_X10_isFull l G (σ, 2, qX a) h0 t0) t0 rfl kv_X10_isFull ml_X10_409 ⟨rfl, rfl, Nat.le_of_ble_eq_true rfl, Nat.le_of_ble_eq_true rfl⟩ rfl hl.1 rfl (Nat.le_of_ble_eq_true rfl) ⟨Nat.zero_le _, Nat.zero_le _⟩ dX10_drawn_16) (fun r35 pr35 => ?_)
    replace pr35 : 0 ≤ r35.toInt ∧ r35.toInt ≤ 1 := pr35
    refine lv_if_eq (tgt := 25) hx hb dX10_drawn_19 (by decide) (fun c36 => ?_) (fun c36 => ?_)
    · skip
      have ic36 := tn_eq rfl kI_0 c36
      refine lv_iconst (v := 0) hx hb dX10_drawn_25 (by decide) ?_
      refine lv_istore_n (lv' := [(2, .int 0), (0, .ref h0), (1, .int x1)]) hx hb dX10_drawn_26 rfl hl (by decide) rfl (fun ls hl => ?_)
      refine lv_iconst (v := 0) hx hb dX10_drawn_27 (by decide) ?_
      refine lv_istore_n (lv' := [(3, .int 0), (2, .int 0), (0, .ref h0), (1, .int x1)]) hx hb dX10_drawn_28 rfl hl (by decide) rfl (fun ls hl => ?_)
      exact J29 ((20 - (0 : Int32).toInt).toNat + 1) 2 a H locs ls (0 : Int32) (0 : Int32) hG (lv_sub hl [2, 3, 1, 0] rfl) (by omega) (by omega) (by decide) (by decide) (by exact ⟨hA2, hA3, trivial⟩) (Nat.lt_succ_self _)
    · skip
      have ic36 := tn_ne rfl kI_0 c36
      refine lv_bipush (v := -4) hx hb dX10_drawn_22 (by decide) ?_
      exact mc_iretX E hr hlk hG rfl rfl ⟨_, rfl, hA2, hA3⟩ dX10_drawn_24
  · skip
    have ic34 := tn_eq rfl kI_0 c34
    refine lv_bipush (v := -2) hx hb dX10_drawn_12 (by decide) ?_
    exact mc_iretX E hr hlk hG rfl rfl ⟨_, rfl, hA2, hA3⟩ dX10_drawn_14

set_option maxHeartbeats 4000000 in
set_option maxRecDepth 100000 in
theorem c_X10_seed (l : Launch) (G : tG) (σ : Nat → Nat) (a : Nat → Option (Nat → Int32)) (ta : Nat → Int32) (h0 : Nat) (x1 : Int32) (t0 : σ h0 = 1) (ha : a 2 = some ta) (hIa : TInv ta) : Met l yX10_seed (.code yX10_seed cX10_seed 3 (some .int) :: tWS) (tRm 0 0) (va_Pc [.ref h0, .int x1] (mPre G (σ, 2, qX a))) (mQiX G (σ, 2, qX a) (fun r Z => ∃ A : Nat → Option (Nat → Int32), Z = (σ, 2, qX A) ∧ A 2 = some ta ∧ A 3 = a 3)) 0 0 (mA (σ, 2, qX a)) := by
  refine mc_met (by decide) (Nat.le_of_ble_eq_true rfl) ?_
  intro p e s m below meth c E hr hlk hG ls hl
  have hl : lv_has ls 3 [(0, .ref h0), (1, .int x1)] := hl
  have hx := E.1
  have hb := E.2.1
  obtain ⟨H, eH⟩ : ∃ H, H = s.heap := ⟨_, rfl⟩
  obtain ⟨locs, eL⟩ : ∃ x : List Loc, x = [] := ⟨_, rfl⟩
  have hG : mGH G (σ, 2, qX a) s H locs := by rw [eH, eL]; exact hG
  suffices hW : W p l e (tRm 0 0) s m ([.ref h0, .int x1] : List Value).toArray below meth c H locs 0 0 (MQ below (mQiX G (σ, 2, qX a) (fun r Z => ∃ A : Nat → Option (Nat → Int32), Z = (σ, 2, qX A) ∧ A 2 = some ta ∧ A 3 = a 3)) ([.ref h0, .int x1] : List Value).toArray s 0 0 (mA (σ, 2, qX a))) (F0 m 0 ls []) by subst eH; subst eL; exact hW
  clear eH eL
  have hA2 := ha
  have hA3 : a 3 = a 3 := rfl
  have hI := hIa
  have hcu := mu_2
  have hT2 : A2 ta ta := A2.refl
  refine lv_aload_n hx hb dX10_seed_0 rfl (lv_at hl 0 rfl) ?_
  refine mc_getn E hG t0 ff_X10_9 dX10_seed_1 (fun oa1 hoa1 => ?_)
  refine lv_iconst (v := 4) hx hb dX10_seed_4 (by decide) ?_
  refine mc_nald E hG hoa1 hG.2.2.1 (t_in (by decide) (by decide)) dX10_seed_5 (fun z2 lz2 uz2 qz2 => ?_)
  have lz2 : -2147483648 ≤ z2.toInt := lz2
  have uz2 : z2.toInt ≤ 2147483647 := uz2
  refine lv_istore_n (lv' := [(2, .int z2), (0, .ref h0), (1, .int x1)]) hx hb dX10_seed_6 rfl hl (by decide) rfl (fun ls hl => ?_)
  refine lv_aload_n hx hb dX10_seed_7 rfl (lv_at hl 1 rfl) ?_
  refine mc_getn E hG t0 ff_X10_9 dX10_seed_8 (fun oa3 hoa3 => ?_)
  refine lv_iconst (v := 4) hx hb dX10_seed_11 (by decide) ?_
  refine lv_iload_n hx hb dX10_seed_12 rfl (lv_at hl 2 rfl) ?_
  refine mc_nast E hG hoa3 hG.2.2.1 (qX_nk (mCu_20 hcu) rfl) (t_in (by decide) (by decide)) (lo := -2147483648) (hi := 2147483647) rfl (t_any1 _) (t_any2 _) dX10_seed_13 (fun H locs hG => ?_)
  refine lv_iload_n hx hb dX10_seed_14 rfl (lv_at hl 0 rfl) ?_
  exact mc_iretX E hr hlk hG rfl rfl ⟨_, rfl, hA2, hA3⟩ dX10_seed_15

