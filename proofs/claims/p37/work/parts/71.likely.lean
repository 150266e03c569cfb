/-! ===== the reference: odds ===== -/
theorem g20 {G : tG} {σ : Nat → Nat} {cu : Nat} {a : Nat → Option (Nat → Int32)} {F : mF} {s : State} {H : Heap} {locs : List Loc} (hG : mGH G (σ, cu, kO (PD 20) (qX a) F) s H locs) : mGH G (σ, cu, qX (upA a 20 (F 20))) s H locs :=
  mGH.le (Y := (σ, cu, kO (PD 20) (qX a) F)) (Y' := (σ, cu, qX (upA a 20 (F 20)))) ⟨rfl, rfl, fun c k y e => by
    have e : qX (upA a 20 (F 20)) c k = some y := e
    show kO (PD 20) (qX a) F c k = some y
    by_cases z : c = 20
    · subst z
      rw [qX_20 upA_at] at e
      rw [kO_in PD_c]; exact e
    · rw [kO_out (PD_n z)]
      unfold qX at e ⊢
      rw [upA_ne z] at e
      exact e⟩ hG
theorem q20_set {G : tG} {σ : Nat → Nat} {cu : Nat} {a : Nat → Option (Nat → Int32)} {f : Nat → Int32} {s : State} {H : Heap} {locs : List Loc} {k : Nat} {v : Int32} (hG : mGH G (mSet (σ, cu, qX (upA a 20 f)) 20 k (some v)) s H locs) : mGH G (σ, cu, qX (upA a 20 (upN f k v))) s H locs := by
  have e : mSet (σ, cu, qX (upA a 20 f)) 20 k (some v) = (σ, cu, qX (upA a 20 (upN f k v))) := by
    unfold mSet
    refine Prod.ext rfl (Prod.ext rfl (funext fun c' => funext fun k' => ?_))
    show (if c' = 20 ∧ k' = k then some v else qX (upA a 20 f) c' k') = qX (upA a 20 (upN f k v)) c' k'
    by_cases z : c' = 20
    · subst z
      rw [qX_20 upA_at, qX_20 upA_at]
      by_cases y : k' = k
      · rw [if_pos ⟨rfl, y⟩, y, upN_at]
      · rw [if_neg (fun w => y w.2), upN_ne y]
    · rw [if_neg (fun w => z w.1)]
      unfold qX
      rw [upA_ne z, upA_ne z]
  rw [← e]
  exact hG
def BK (A : Nat → Option (Nat → Int32)) (ta : Nat → Int32) (n : Int) : Prop := ∃ f : Nat → Int32, A 20 = some f ∧ ∀ j : Nat, (j : Int) < n → K ta (f j).toInt 1 = 0 ∧ (f j).toInt < (ta 3).toInt
theorem BK_up {A : Nat → Option (Nat → Int32)} {ta t : Nat → Int32} {n : Int} {c : Nat} (h : BK A ta n) (hc : ¬ 20 = c) : BK (upA A c t) ta n := by
  obtain ⟨f, h1, h2⟩ := h
  exact ⟨f, (upA_ne hc).trans h1, h2⟩
theorem sh6 {v z : Int32} (e : z = 1 <<< (v &&& 31)) (h0 : 0 ≤ v.toInt) (h6 : v.toInt ≤ 6) : 1 ≤ z.toInt ∧ z.toInt ≤ 64 := by
  have aux : ∀ a : Nat, a < 8 → a ≤ 6 → 1 ≤ (1 <<< (Int32.ofNat a &&& 31) : Int32).toInt ∧ (1 <<< (Int32.ofNat a &&& 31) : Int32).toInt ≤ 64 := by decide
  obtain ⟨e2, h⟩ := i8 h0 (by omega : v.toInt ≤ 7)
  have := aux v.toInt.toNat h (by omega)
  rw [← e2] at this
  rw [e]; exact this
set_option maxHeartbeats 4000000 in
set_option maxRecDepth 100000 in
theorem c_X10_likely (l : Launch) (G : tG) (σ : Nat → Nat) (a : Nat → Option (Nat → Int32)) (ta : Nat → Int32) (h0 : Nat) (x1 : Int32) (x2 : Int32) (t0 : σ h0 = 1) (ha : a 2 = some ta) (hIa : TInv ta) : Met l yX10_likely (.code yX10_likely cX10_likely 13 (some .long) :: tWS) (tRm 10 228) (va_Pc [.ref h0, .int x1, .int x2] (mPre G (σ, 2, qX a))) (mQlX G (σ, 2, qX a) (fun r Z => ∃ A : Nat → Option (Nat → Int32), Z = (σ, 2, qX A) ∧ A 2 = some ta ∧ A 3 = a 3)) 0 0 (mA (σ, 2, qX a)) := by
  refine mc_met (by decide) (Nat.le_of_ble_eq_true rfl) ?_
  intro p e s m below meth c E hr hlk hG ls hl
  have hl : lv_has ls 13 [(0, .ref h0), (1, .int x1), (2, .int x2)] := hl
  have hx := E.1
  have hb := E.2.1
  obtain ⟨H, eH⟩ : ∃ H, H = s.heap := ⟨_, rfl⟩
  obtain ⟨locs, eL⟩ : ∃ x : List Loc, x = [] := ⟨_, rfl⟩
  have hG : mGH G (σ, 2, qX a) s H locs := by rw [eH, eL]; exact hG
  suffices hW : W p l e (tRm 10 228) s m ([.ref h0, .int x1, .int x2] : List Value).toArray below meth c H locs 0 0 (MQ below (mQlX G (σ, 2, qX a) (fun r Z => ∃ A : Nat → Option (Nat → Int32), Z = (σ, 2, qX A) ∧ A 2 = some ta ∧ A 3 = a 3)) ([.ref h0, .int x1, .int x2] : List Value).toArray s 0 0 (mA (σ, 2, qX a))) (F0 m 0 ls []) by subst eH; subst eL; exact hW
  clear eH eL
  obtain ⟨Fa, hG⟩ := mGain hG
  have hG : mGH G (σ, 2, kO (PD 20) (qX a) Fa) s H locs := hG (PD 20)
  have hG := g20 hG
  obtain ⟨A0, eA0⟩ : ∃ Z : Nat → Option (Nat → Int32), Z = upA a 20 (Fa 20) := ⟨_, rfl⟩
  rw [← eA0] at hG
  have hA2 : A0 2 = some ta := by rw [eA0]; exact (upA_ne (by decide)).trans ha
  have hA3 : A0 3 = a 3 := by rw [eA0]; exact upA_ne (by decide)
  have hK : BK A0 ta 0 := ⟨Fa 20, by rw [eA0]; exact upA_at, fun j hj => by omega⟩
  have hI := hIa
  have hcu := mu_2
  have hT2 : A2 ta ta := A2.refl
  have J105 : ∀ (n105 : Nat) (cu : Nat) (A : Nat → Option (Nat → Int32)) (H : Heap) (locs : List Loc) (ls : Array Slot) (v3 : Int32) (w4 : Int64) (w6 : Int64) (v8 : Int32), mGH G (σ, cu, qX A) s H locs → lv_has ls 13 [(0, .ref h0), (1, .int x1), (2, .int x2), (3, .int v3), (4, .long w4), (6, .long w6), (8, .int v8)] → 2 ≤ x1.toInt → x1.toInt ≤ 20 → 0 ≤ v3.toInt → v3.toInt ≤ 6 → 0 ≤ v8.toInt → v8.toInt ≤ 64 → (A 2 = some ta ∧ A 3 = a 3 ∧ BK A ta v3.toInt ∧ 1 ≤ w4.toInt) → (64 - v8.toInt).toNat < n105 → W p l e (tRm 10 228) s m ([.ref h0, .int x1, .int x2] : List Value).toArray below meth c H locs 0 0 (MQ below (mQlX G (σ, 2, qX a) (fun r Z => ∃ A : Nat → Option (Nat → Int32), Z = (σ, 2, qX A) ∧ A 2 = some ta ∧ A 3 = a 3)) ([.ref h0, .int x1, .int x2] : List Value).toArray s 0 0 (mA (σ, 2, qX a))) (F0 m 105 ls []) := by
    intro n105
    induction n105 with
    | zero => intro cu A H locs ls v3 w4 w6 v8 hG hl bp1 cp1 b3 c3 b8 c8 hex105 hn105; exact absurd hn105 (Nat.not_lt_zero _)
    | succ n105 ih105 =>
      intro cu A H locs ls v3 w4 w6 v8 hG hl bp1 cp1 b3 c3 b8 c8 hex105 hn105
      have J127 : ∀ (n127 : Nat) (A : Nat → Option (Nat → Int32)) (t : Nat → Int32) (H : Heap) (locs : List Loc) (ls : Array Slot) (v3 : Int32) (w4 : Int64) (w6 : Int64) (v8 : Int32) (w9 : Int64) (v11 : Int32), mGH G (σ, 4, qX (upA A 4 t)) s H locs → lv_has ls 13 [(0, .ref h0), (1, .int x1), (2, .int x2), (3, .int v3), (4, .long w4), (6, .long w6), (8, .int v8), (9, .long w9), (11, .int v11)] → 2 ≤ x1.toInt → x1.toInt ≤ 20 → 0 ≤ v3.toInt → v3.toInt ≤ 6 → 0 ≤ v8.toInt → v8.toInt ≤ 63 → 0 ≤ v11.toInt → v11.toInt ≤ 6 → (64 - v8.toInt).toNat < n105 + 1 → (TInv t ∧ A2 ta t ∧ A 2 = some ta ∧ A 3 = a 3 ∧ BK A ta v3.toInt ∧ 1 ≤ w4.toInt) → (6 - v11.toInt).toNat < n127 → W p l e (tRm 10 228) s m ([.ref h0, .int x1, .int x2] : List Value).toArray below meth c H locs 0 0 (MQ below (mQlX G (σ, 2, qX a) (fun r Z => ∃ A : Nat → Option (Nat → Int32), Z = (σ, 2, qX A) ∧ A 2 = some ta ∧ A 3 = a 3)) ([.ref h0, .int x1, .int x2] : List Value).toArray s 0 0 (mA (σ, 2, qX a))) (F0 m 127 ls []) := by
        intro n127
        induction n127 with
        | zero => intro A t H locs ls v3 w4 w6 v8 w9 v11 hG hl bp1 cp1 b3 c3 b8 c8 b11 c11 hm105 hex127 hn127; exact absurd hn127 (Nat.not_lt_zero _)
        | succ n127 ih127 =>
          intro A t H locs ls v3 w4 w6 v8 w9 v11 hG hl bp1 cp1 b3 c3 b8 c8 b11 c11 hm105 hex127 hn127
          have hI := hex127.1
          have hT2 := hex127.2.1
          have hA2 := hex127.2.2.1
          have hA3 := hex127.2.2.2.1
          have hcu := mu_4
          have h0t : (t 0).toInt = (ta 0).toInt := by rw [hT2.1]
          have h3t : (t 3).toInt = (ta 3).toInt := by rw [hT2.2.1]
          have hexK := hex127.2.2.2.2
          have hK := hexK.1
          refine lv_iload hx hb dX10_likely_127 (lv_at hl 8 rfl) ?_
          refine lv_iload_n hx hb dX10_likely_129 rfl (lv_at hl 3 rfl) ?_
          refine lv_icmp_ge (tgt := 206) hx hb dX10_likely_130 (by decide) (fun c1 => ?_) (fun c1 => ?_)
          · skip
            have ic1 := tn_le rfl rfl c1
            refine lv_aload_n hx hb dX10_likely_206 rfl (lv_at hl 0 rfl) ?_
            refine mc_callvX hG (mc_runV (As := []) (rest := []) E hG (c_X10_laysInThought l G σ 4 A t h0 t0 hI) t0 rfl kv_X10_laysInThought ml_X10_416 ⟨rfl, rfl, Nat.le_of_ble_eq_true rfl, Nat.le_of_ble_eq_true rfl⟩ rfl hl.1 rfl (Nat.le_of_ble_eq_true rfl) ⟨Nat.zero_le _, Nat.zero_le _⟩ dX10_likely_207) (fun Z H locs eZ pZ hG => ?_)
            obtain ⟨t3, rfl, pt3, hI⟩ := pZ
            clear eZ
            have h3n : (t3 3).toInt = (t 3).toInt := by rw [pt3.2.1]
            have h0n : (t3 0).toInt = (t 0).toInt := by rw [pt3.1]
            have hT2 := hT2.trans pt3.A2
            have h0t : (t3 0).toInt = (ta 0).toInt := by rw [hT2.1]
            have h3t : (t3 3).toInt = (ta 3).toInt := by rw [hT2.2.1]
            refine lv_lload hx hb dX10_likely_210 (lv_at hl 5 rfl) ?_
            refine lv_aload_n hx hb dX10_likely_212 rfl (lv_at hl 0 rfl) ?_
            refine tc_callp (mc_runV (As := []) (rest := [.long w6]) E hG (c_X10_isFitting l G (σ, 4, qX (upA A 4 t3)) h0 t0) t0 rfl kv_X10_isFitting ml_X10_419 ⟨rfl, rfl, Nat.le_of_ble_eq_true rfl, Nat.le_of_ble_eq_true rfl⟩ rfl hl.1 rfl (Nat.le_of_ble_eq_true rfl) ⟨Nat.zero_le _, Nat.zero_le _⟩ dX10_likely_213) (fun r4 pr4 => ?_)
            replace pr4 : 0 ≤ r4.toInt ∧ r4.toInt ≤ 1 := pr4
            refine lv_if_eq (tgt := 224) hx hb dX10_likely_216 (by decide) (fun c5 => ?_) (fun c5 => ?_)
            · skip
              have ic5 := tn_eq rfl kI_0 c5
              refine lv_lconst (v := 0) hx hb dX10_likely_224 (by decide) ?_
              refine lv_topl (fun z6 ez6 => ?_)
              have tz6 : z6.toInt = 0 := by rw [ez6]; decide
              refine lv_ladd hx hb dX10_likely_225 ?_
              refine lv_topl (fun z7 ez7 => ?_)
              refine lv_lstore (lv' := [(6, .long z7), (0, .ref h0), (1, .int x1), (2, .int x2), (3, .int v3), (4, .long w4), (8, .int v8), (9, .long w9), (11, .int v11)]) hx hb dX10_likely_226 hl (by decide) rfl (fun ls hl => ?_)
              obtain ⟨z8, ez8⟩ : ∃ y : Int32, y = v8 + (1) := ⟨_, rfl⟩
              refine lv_iinc (v := z8) (lv' := [(8, .int z8), (6, .long z7), (0, .ref h0), (1, .int x1), (2, .int x2), (3, .int v3), (4, .long w4), (9, .long w9), (11, .int v11)]) hx hb dX10_likely_228 hl (k := 6) rfl (by rw [ez8]; rfl) (by decide) rfl (fun ls hl => ?_)
              have tz8 := tn_add ez8 rfl kI_1 (by omega) (by omega)
              refine lv_goto (tgt := 105) hx hb dX10_likely_231 (by decide) ?_
              exact ih105 4 (upA A 4 t3) H locs ls v3 (w4) (z7) z8 hG (lv_sub hl [2, 3, 4, 5, 6, 1, 0] rfl) (by omega) (by omega) (by omega) (by omega) (by omega) (by omega) (by exact ⟨(upA_ne (by decide)).trans hA2, (upA_ne (by decide)).trans hA3, BK_up hexK.1 (by decide), by omega⟩) (by omega)
            · skip
              have ic5 := tn_ne rfl kI_0 c5
              refine lv_lload hx hb dX10_likely_219 (lv_at hl 7 rfl) ?_
              refine lv_goto (tgt := 225) hx hb dX10_likely_221 (by decide) ?_
              refine lv_ladd hx hb dX10_likely_225 ?_
              refine lv_topl (fun z9 ez9 => ?_)
              refine lv_lstore (lv' := [(6, .long z9), (0, .ref h0), (1, .int x1), (2, .int x2), (3, .int v3), (4, .long w4), (8, .int v8), (9, .long w9), (11, .int v11)]) hx hb dX10_likely_226 hl (by decide) rfl (fun ls hl => ?_)
              obtain ⟨z10, ez10⟩ : ∃ y : Int32, y = v8 + (1) := ⟨_, rfl⟩
              refine lv_iinc (v := z10) (lv' := [(8, .int z10), (6, .long z9), (0, .ref h0), (1, .int x1), (2, .int x2), (3, .int v3), (4, .long w4), (9, .long w9), (11, .int v11)]) hx hb dX10_likely_228 hl (k := 6) rfl (by rw [ez10]; rfl) (by decide) rfl (fun ls hl => ?_)
              have tz10 := tn_add ez10 rfl kI_1 (by omega) (by omega)
              refine lv_goto (tgt := 105) hx hb dX10_likely_231 (by decide) ?_
              exact ih105 4 (upA A 4 t3) H locs ls v3 (w4) (z9) z10 hG (lv_sub hl [2, 3, 4, 5, 6, 1, 0] rfl) (by omega) (by omega) (by omega) (by omega) (by omega) (by omega) (by exact ⟨(upA_ne (by decide)).trans hA2, (upA_ne (by decide)).trans hA3, BK_up hexK.1 (by decide), by omega⟩) (by omega)
          · skip
            have ic1 := tn_nle rfl rfl c1
            refine lv_iload hx hb dX10_likely_133 (lv_at hl 6 rfl) ?_
            refine lv_iload hx hb dX10_likely_135 (lv_at hl 8 rfl) ?_
            refine lv_ishr hx hb dX10_likely_137 ?_
            refine lv_topi (fun z11 ez11 => ?_)
            refine lv_iconst (v := 1) hx hb dX10_likely_138 (by decide) ?_
            refine lv_iand hx hb dX10_likely_139 ?_
            refine lv_topi (fun z12 ez12 => ?_)
            refine lv_iconst (v := 1) hx hb dX10_likely_140 (by decide) ?_
            refine lv_icmp_ne (tgt := 148) hx hb dX10_likely_141 (by decide) (fun c13 => ?_) (fun c13 => ?_)
            · skip
              have ic13 := tn_ne rfl kI_1 c13
              refine lv_iconst (v := 0) hx hb dX10_likely_148 (by decide) ?_
              refine lv_istore (lv' := [(12, .int 0), (0, .ref h0), (1, .int x1), (2, .int x2), (3, .int v3), (4, .long w4), (6, .long w6), (8, .int v8), (9, .long w9), (11, .int v11)]) hx hb dX10_likely_149 hl (by decide) rfl (fun ls hl => ?_)
              refine lv_lload hx hb dX10_likely_151 (lv_at hl 8 rfl) ?_
              refine lv_iload hx hb dX10_likely_153 (lv_at hl 0 rfl) ?_
              refine lv_if_eq (tgt := 162) hx hb dX10_likely_155 (by decide) (fun c14 => ?_) (fun c14 => ?_)
              · skip
                have ic14 := tn_eq kI_0 kI_0 c14
                refine lv_iload_n hx hb dX10_likely_162 rfl (lv_at hl 2 rfl) ?_
                refine lv_iconst (v := 1) hx hb dX10_likely_163 (by decide) ?_
                refine lv_isub hx hb dX10_likely_164 ?_
                refine lv_topi (fun z15 ez15 => ?_)
                have tz15 := tn_sub ez15 rfl kI_1 (by omega) (by omega)
                refine lv_i2l hx hb dX10_likely_165 rfl ?_
                refine lv_topl (fun z16 ez16 => ?_)
                have tz16 := tl_i2l ez16
                refine lv_lmul hx hb dX10_likely_166 ?_
                refine lv_topl (fun z17 ez17 => ?_)
                refine lv_lstore (lv' := [(9, .long z17), (12, .int 0), (0, .ref h0), (1, .int x1), (2, .int x2), (3, .int v3), (4, .long w4), (6, .long w6), (8, .int v8), (11, .int v11)]) hx hb dX10_likely_167 hl (by decide) rfl (fun ls hl => ?_)
                refine lv_iload hx hb dX10_likely_169 (lv_at hl 1 rfl) ?_
                refine lv_if_eq (tgt := 200) hx hb dX10_likely_171 (by decide) (fun c18 => ?_) (fun c18 => ?_)
                · skip
                  have ic18 := tn_eq kI_0 kI_0 c18
                  obtain ⟨z19, ez19⟩ : ∃ y : Int32, y = v11 + (1) := ⟨_, rfl⟩
                  refine lv_iinc (v := z19) (lv' := [(11, .int z19), (9, .long z17), (12, .int 0), (0, .ref h0), (1, .int x1), (2, .int x2), (3, .int v3), (4, .long w4), (6, .long w6), (8, .int v8)]) hx hb dX10_likely_200 hl (k := 9) rfl (by rw [ez19]; rfl) (by decide) rfl (fun ls hl => ?_)
                  have tz19 := tn_add ez19 rfl kI_1 (by omega) (by omega)
                  refine lv_goto (tgt := 127) hx hb dX10_likely_203 (by decide) ?_
                  exact ih127 A t H locs ls v3 (w4) (w6) v8 (z17) z19 hG (lv_sub hl [3, 4, 5, 6, 7, 8, 9, 1, 0] rfl) (by omega) (by omega) (by omega) (by omega) (by omega) (by omega) (by omega) (by omega) (by omega) (by exact ⟨hI, hT2, hA2, hA3, hexK.1, by omega⟩) (by omega)
                · exfalso
                  have ic18 := tn_ne kI_0 kI_0 c18
                  omega
              · exfalso
                have ic14 := tn_ne kI_0 kI_0 c14
                omega
            · skip
              have ic13 := tn_eq rfl kI_1 c13
              refine lv_iconst (v := 1) hx hb dX10_likely_144 (by decide) ?_
              refine lv_goto (tgt := 149) hx hb dX10_likely_145 (by decide) ?_
              refine lv_istore (lv' := [(12, .int 1), (0, .ref h0), (1, .int x1), (2, .int x2), (3, .int v3), (4, .long w4), (6, .long w6), (8, .int v8), (9, .long w9), (11, .int v11)]) hx hb dX10_likely_149 hl (by decide) rfl (fun ls hl => ?_)
              refine lv_lload hx hb dX10_likely_151 (lv_at hl 8 rfl) ?_
              refine lv_iload hx hb dX10_likely_153 (lv_at hl 0 rfl) ?_
              refine lv_if_eq (tgt := 162) hx hb dX10_likely_155 (by decide) (fun c20 => ?_) (fun c20 => ?_)
              · exfalso
                have ic20 := tn_eq kI_1 kI_0 c20
                omega
              · skip
                have ic20 := tn_ne kI_1 kI_0 c20
                refine lv_iconst (v := 1) hx hb dX10_likely_158 (by decide) ?_
                refine lv_goto (tgt := 165) hx hb dX10_likely_159 (by decide) ?_
                refine lv_i2l hx hb dX10_likely_165 rfl ?_
                refine lv_topl (fun z21 ez21 => ?_)
                have tz21 := tl_i2l ez21
                have k22 := kI_1
                refine lv_lmul hx hb dX10_likely_166 ?_
                refine lv_topl (fun z23 ez23 => ?_)
                refine lv_lstore (lv' := [(9, .long z23), (12, .int 1), (0, .ref h0), (1, .int x1), (2, .int x2), (3, .int v3), (4, .long w4), (6, .long w6), (8, .int v8), (11, .int v11)]) hx hb dX10_likely_167 hl (by decide) rfl (fun ls hl => ?_)
                refine lv_iload hx hb dX10_likely_169 (lv_at hl 1 rfl) ?_
                refine lv_if_eq (tgt := 200) hx hb dX10_likely_171 (by decide) (fun c24 => ?_) (fun c24 => ?_)
                · exfalso
                  have ic24 := tn_eq kI_1 kI_0 c24
                  omega
                · skip
                  have ic24 := tn_ne kI_1 kI_0 c24
                  refine lv_aload_n hx hb dX10_likely_174 rfl (lv_at hl 2 rfl) ?_
                  refine lv_aload_n hx hb dX10_likely_175 rfl (lv_at hl 2 rfl) ?_
                  refine mc_getr E hG t0 mr_69 dX10_likely_176 (fun oa25 hoa25 => ?_)
                  refine lv_iload hx hb dX10_likely_179 (lv_at hl 9 rfl) ?_
                  refine mc_iald E hG hoa25 ma_20 (t_in (by omega) (by omega)) dX10_likely_181 (fun z26 lz26 uz26 qz26 => ?_)
                  have hKc := hK
                  obtain ⟨f, hf1, hf2⟩ := hKc
                  have wq : z26 = f v11.toNatClampNeg := qz26 _ (qX_20 ((upA_ne (by decide)).trans hf1))
                  have hf3 := hf2 v11.toNatClampNeg (by show ((v11.toInt.toNat : Nat) : Int) < _; omega)
                  rw [← wq] at hf3
                  have hk1 : K t z26.toInt 1 = 0 := by rw [hT2.K (by omega) (by decide) (by decide) (by decide)]; exact hf3.1
                  clear wq hf2 hf1
                  refine lv_iconst (v := 0) hx hb dX10_likely_182 (by decide) ?_
                  refine lv_iconst (v := 0) hx hb dX10_likely_183 (by decide) ?_
                  refine mc_callvX hG (mc_runV (As := [.int z26, .int 0, .int 0]) (rest := []) E hG (c_X10_tellsIt l G σ 4 A t h0 z26 (0 : Int32) (0 : Int32) t0 (by omega) (by omega) (by decide) (by decide) hI (by have k2 := kI_0; have k3 := kI_0; omega) (by have k2 := kI_0; have k3 := kI_0; omega) (by have k2 := kI_0; have k3 := kI_0; omega) (by have k2 := kI_0; have k3 := kI_0; omega) (by have k2 := kI_0; have k3 := kI_0; omega)) t0 rfl kv_X10_tellsIt ml_X10_150 ⟨rfl, rfl, Nat.le_of_ble_eq_true rfl, Nat.le_of_ble_eq_true rfl⟩ rfl hl.1 rfl (Nat.le_of_ble_eq_true rfl) ⟨Nat.zero_le _, Nat.zero_le _⟩ dX10_likely_184) (fun Z H locs eZ pZ hG => ?_)
                  obtain ⟨t28, rfl, pt28, hI⟩ := pZ
                  clear eZ
                  have h3n : (t28 3).toInt = (t 3).toInt := by rw [pt28.2.1]
                  have h0n : (t28 0).toInt = (t 0).toInt := by rw [pt28.1]
                  have hT2 := hT2.trans pt28
                  have h0t : (t28 0).toInt = (ta 0).toInt := by rw [hT2.1]
                  have h3t : (t28 3).toInt = (ta 3).toInt := by rw [hT2.2.1]
                  refine lv_aload_n hx hb dX10_likely_187 rfl (lv_at hl 2 rfl) ?_
                  refine lv_aload_n hx hb dX10_likely_188 rfl (lv_at hl 2 rfl) ?_
                  refine mc_getr E hG t0 mr_69 dX10_likely_189 (fun oa29 hoa29 => ?_)
                  refine lv_iload hx hb dX10_likely_192 (lv_at hl 9 rfl) ?_
                  refine mc_iald E hG hoa29 ma_20 (t_in (by omega) (by omega)) dX10_likely_194 (fun z30 lz30 uz30 qz30 => ?_)
                  have hKc := hK
                  obtain ⟨f, hf1, hf2⟩ := hKc
                  have wq : z30 = f v11.toNatClampNeg := qz30 _ (qX_20 ((upA_ne (by decide)).trans hf1))
                  have hf3 := hf2 v11.toNatClampNeg (by show ((v11.toInt.toNat : Nat) : Int) < _; omega)
                  rw [← wq] at hf3
                  have hk1 : K t28 z30.toInt 1 = 0 := by rw [hT2.K (by omega) (by decide) (by decide) (by decide)]; exact hf3.1
                  clear wq hf2 hf1
                  refine lv_iconst (v := 1) hx hb dX10_likely_195 (by decide) ?_
                  refine lv_iconst (v := 0) hx hb dX10_likely_196 (by decide) ?_
                  refine mc_callvX hG (mc_runV (As := [.int z30, .int 1, .int 0]) (rest := []) E hG (c_X10_tellsIt l G σ 4 A t28 h0 z30 (1 : Int32) (0 : Int32) t0 (by omega) (by omega) (by decide) (by decide) hI (by have k2 := kI_1; have k3 := kI_0; omega) (by have k2 := kI_1; have k3 := kI_0; omega) (by have k2 := kI_1; have k3 := kI_0; omega) (by have k2 := kI_1; have k3 := kI_0; omega) (by have k2 := kI_1; have k3 := kI_0; omega)) t0 rfl kv_X10_tellsIt ml_X10_150 ⟨rfl, rfl, Nat.le_of_ble_eq_true rfl, Nat.le_of_ble_eq_true rfl⟩ rfl hl.1 rfl (Nat.le_of_ble_eq_true rfl) ⟨Nat.zero_le _, Nat.zero_le _⟩ dX10_likely_197) (fun Z H locs eZ pZ hG => ?_)
                  obtain ⟨t32, rfl, pt32, hI⟩ := pZ
                  clear eZ
                  have h3n : (t32 3).toInt = (t28 3).toInt := by rw [pt32.2.1]
                  have h0n : (t32 0).toInt = (t28 0).toInt := by rw [pt32.1]
                  have hT2 := hT2.trans pt32
                  have h0t : (t32 0).toInt = (ta 0).toInt := by rw [hT2.1]
                  have h3t : (t32 3).toInt = (ta 3).toInt := by rw [hT2.2.1]
                  obtain ⟨z33, ez33⟩ : ∃ y : Int32, y = v11 + (1) := ⟨_, rfl⟩
                  refine lv_iinc (v := z33) (lv' := [(11, .int z33), (9, .long z23), (12, .int 1), (0, .ref h0), (1, .int x1), (2, .int x2), (3, .int v3), (4, .long w4), (6, .long w6), (8, .int v8)]) hx hb dX10_likely_200 hl (k := 9) rfl (by rw [ez33]; rfl) (by decide) rfl (fun ls hl => ?_)
                  have tz33 := tn_add ez33 rfl kI_1 (by omega) (by omega)
                  refine lv_goto (tgt := 127) hx hb dX10_likely_203 (by decide) ?_
                  exact ih127 A t32 H locs ls v3 (w4) (w6) v8 (z23) z33 hG (lv_sub hl [3, 4, 5, 6, 7, 8, 9, 1, 0] rfl) (by omega) (by omega) (by omega) (by omega) (by omega) (by omega) (by omega) (by omega) (by omega) (by exact ⟨hI, hT2, hA2, hA3, hexK.1, by omega⟩) (by omega)
      have hA2 := hex105.1
      have hA3 := hex105.2.1
      have hI := hIa
      have hcu : mCu cu := hG.2.2.1
      have hexK := hex105.2.2
      have hK := hexK.1
      refine lv_iload hx hb dX10_likely_105 (lv_at hl 6 rfl) ?_
      refine lv_iconst (v := 1) hx hb dX10_likely_107 (by decide) ?_
      refine lv_iload_n hx hb dX10_likely_108 rfl (lv_at hl 3 rfl) ?_
      refine lv_ishl hx hb dX10_likely_109 ?_
      refine lv_topi (fun z34 ez34 => ?_)
      have hsh := sh6 ez34 (by omega) (by omega)
      refine lv_icmp_ge (tgt := 234) hx hb dX10_likely_110 (by decide) (fun c35 => ?_) (fun c35 => ?_)
      · skip
        have ic35 := tn_le rfl rfl c35
        refine lv_aload_n hx hb dX10_likely_234 rfl (lv_at hl 0 rfl) ?_
        refine lv_aload_n hx hb dX10_likely_235 rfl (lv_at hl 0 rfl) ?_
        refine mc_getr E hG t0 mr_15 dX10_likely_236 (fun oa36 hoa36 => ?_)
        refine mc_putn E hG t0 fq_X10_9 (show mCu (σ oa36) by rw [show σ oa36 = 2 from hoa36]; exact mu_2) dX10_likely_239 (fun H locs hG => ?_)
        have hG : mGH G (σ, σ oa36, qX A) s H locs := hG
        rw [show σ oa36 = 2 from hoa36] at hG
        have hcu := mu_2
        have hI := hIa
        refine lv_lload hx hb dX10_likely_242 (lv_at hl 5 rfl) ?_
        refine lv_lload hx hb dX10_likely_244 (lv_at hl 4 rfl) ?_
        refine lv_iload_n hx hb dX10_likely_246 rfl (lv_at hl 2 rfl) ?_
        have hnz : ¬ w4 = 0 := fun q => by
          have q2 : w4.toInt = 0 := by rw [q]; decide
          omega
        refine tc_callpl (mc_runS (As := [.long w6, .long w4, .int x2]) (rest := []) E hG (c_X10_partOf l G (σ, 2, qX A) w6 w4 x2 (by assumption)) ks_X10_partOf ml_X10_435 ⟨rfl, rfl, Nat.le_of_ble_eq_true rfl, Nat.le_of_ble_eq_true rfl⟩ rfl hl.1 rfl (Nat.le_of_ble_eq_true rfl) ⟨Nat.zero_le _, Nat.zero_le _⟩ dX10_likely_247) (fun r37 pr37 => ?_)
        exact mc_lretX E hr hlk hG rfl ⟨_, rfl, hA2, hA3⟩ dX10_likely_250
      · skip
        have ic35 := tn_nle rfl rfl c35
        refine lv_lconst (v := 1) hx hb dX10_likely_113 (by decide) ?_
        refine lv_topl (fun z38 ez38 => ?_)
        have tz38 : z38.toInt = 1 := by rw [ez38]; decide
        refine lv_lstore (lv' := [(9, .long z38), (0, .ref h0), (1, .int x1), (2, .int x2), (3, .int v3), (4, .long w4), (6, .long w6), (8, .int v8)]) hx hb dX10_likely_114 hl (by decide) rfl (fun ls hl => ?_)
        refine lv_aload_n hx hb dX10_likely_116 rfl (lv_at hl 1 rfl) ?_
        refine lv_aload_n hx hb dX10_likely_117 rfl (lv_at hl 1 rfl) ?_
        refine mc_getr E hG t0 mr_21 dX10_likely_118 (fun oa39 hoa39 => ?_)
        refine mc_callvX hG (mc_runV (As := [.ref oa39]) (rest := []) E hG (c_X10_thinks l G σ cu A 4 ta h0 oa39 t0 hoa39 mu_4 (by decide) hA2) t0 rfl kv_X10_thinks ml_X10_412 ⟨rfl, rfl, Nat.le_of_ble_eq_true rfl, Nat.le_of_ble_eq_true rfl⟩ rfl hl.1 rfl (Nat.le_of_ble_eq_true rfl) ⟨Nat.zero_le _, Nat.zero_le _⟩ dX10_likely_121) (fun Z H locs eZ pZ hG => ?_)
        subst pZ
        clear eZ
        have hI := hIa
        have hT2 : A2 ta ta := A2.refl
        have hcu := mu_4
        refine lv_iconst (v := 0) hx hb dX10_likely_124 (by decide) ?_
        refine lv_istore (lv' := [(11, .int 0), (9, .long z38), (0, .ref h0), (1, .int x1), (2, .int x2), (3, .int v3), (4, .long w4), (6, .long w6), (8, .int v8)]) hx hb dX10_likely_125 hl (by decide) rfl (fun ls hl => ?_)
        exact J127 ((6 - (0 : Int32).toInt).toNat + 1) A ta H locs ls v3 (w4) (w6) v8 (z38) (0 : Int32) hG (lv_sub hl [2, 3, 4, 5, 6, 7, 8, 1, 0] rfl) (by omega) (by omega) (by omega) (by omega) (by omega) (by omega) (by decide) (by decide) (by omega) (by exact ⟨hI, hT2, hA2, hA3, hexK.1, by omega⟩) (Nat.lt_succ_self _)
  have J43 : ∀ (n43 : Nat) (A : Nat → Option (Nat → Int32)) (H : Heap) (locs : List Loc) (ls : Array Slot) (v3 : Int32) (w4 : Int64) (v6 : Int32), mGH G (σ, 2, qX A) s H locs → lv_has ls 13 [(0, .ref h0), (1, .int x1), (2, .int x2), (3, .int v3), (4, .long w4), (6, .int v6)] → 2 ≤ x1.toInt → x1.toInt ≤ 20 → 0 ≤ v3.toInt → v3.toInt ≤ 6 → 0 ≤ v6.toInt → v6.toInt ≤ 24 → (A 2 = some ta ∧ A 3 = a 3 ∧ BK A ta v3.toInt ∧ 1 ≤ w4.toInt ∧ ((v3.toInt = 0 ∧ w4.toInt ≤ 1) ∨ (v3.toInt = 1 ∧ w4.toInt ≤ 20) ∨ (v3.toInt = 2 ∧ w4.toInt ≤ 400) ∨ (v3.toInt = 3 ∧ w4.toInt ≤ 8000) ∨ (v3.toInt = 4 ∧ w4.toInt ≤ 160000) ∨ (v3.toInt = 5 ∧ w4.toInt ≤ 3200000) ∨ (v3.toInt = 6 ∧ w4.toInt ≤ 64000000))) → (24 - v6.toInt).toNat < n43 → W p l e (tRm 10 228) s m ([.ref h0, .int x1, .int x2] : List Value).toArray below meth c H locs 0 0 (MQ below (mQlX G (σ, 2, qX a) (fun r Z => ∃ A : Nat → Option (Nat → Int32), Z = (σ, 2, qX A) ∧ A 2 = some ta ∧ A 3 = a 3)) ([.ref h0, .int x1, .int x2] : List Value).toArray s 0 0 (mA (σ, 2, qX a))) (F0 m 43 ls []) := by
    intro n43
    induction n43 with
    | zero => intro A H locs ls v3 w4 v6 hG hl bp1 cp1 b3 c3 b6 c6 hex43 hn43; exact absurd hn43 (Nat.not_lt_zero _)
    | succ n43 ih43 =>
      intro A H locs ls v3 w4 v6 hG hl bp1 cp1 b3 c3 b6 c6 hex43 hn43
      have hA2 := hex43.1
      have hA3 := hex43.2.1
      have hI := hIa
      have hcu := mu_2
      have hexK := hex43.2.2
      have hK := hexK.1
      refine lv_iload hx hb dX10_likely_43 (lv_at hl 5 rfl) ?_
      refine lv_bipush (v := 24) hx hb dX10_likely_45 (by decide) ?_
      refine lv_icmp_ge (tgt := 99) hx hb dX10_likely_47 (by decide) (fun c40 => ?_) (fun c40 => ?_)
      · skip
        have ic40 := tn_le kI_24 rfl c40
        refine lv_lconst (v := 0) hx hb dX10_likely_99 (by decide) ?_
        refine lv_topl (fun z41 ez41 => ?_)
        have tz41 : z41.toInt = 0 := by rw [ez41]; decide
        refine lv_lstore (lv' := [(6, .long z41), (0, .ref h0), (1, .int x1), (2, .int x2), (3, .int v3), (4, .long w4)]) hx hb dX10_likely_100 hl (by decide) rfl (fun ls hl => ?_)
        refine lv_iconst (v := 0) hx hb dX10_likely_102 (by decide) ?_
        refine lv_istore (lv' := [(8, .int 0), (6, .long z41), (0, .ref h0), (1, .int x1), (2, .int x2), (3, .int v3), (4, .long w4)]) hx hb dX10_likely_103 hl (by decide) rfl (fun ls hl => ?_)
        exact J105 ((64 - (0 : Int32).toInt).toNat + 1) 2 A H locs ls v3 (w4) (z41) (0 : Int32) hG (lv_sub hl [2, 3, 4, 5, 6, 1, 0] rfl) (by omega) (by omega) (by omega) (by omega) (by decide) (by decide) (by exact ⟨hA2, hA3, hexK.1, by omega⟩) (Nat.lt_succ_self _)
      · skip
        have ic40 := tn_nle kI_24 rfl c40
        refine lv_aload_n hx hb dX10_likely_50 rfl (lv_at hl 0 rfl) ?_
        refine lv_iload hx hb dX10_likely_51 (lv_at hl 5 rfl) ?_
        refine tc_callp (mc_runV (As := [.int v6]) (rest := []) E hG (c_X10_isBox l G (σ, 2, qX A) h0 v6 t0) t0 rfl kv_X10_isBox ml_X10_127 ⟨rfl, rfl, Nat.le_of_ble_eq_true rfl, Nat.le_of_ble_eq_true rfl⟩ rfl hl.1 rfl (Nat.le_of_ble_eq_true rfl) ⟨Nat.zero_le _, Nat.zero_le _⟩ dX10_likely_53) (fun r42 pr42 => ?_)
        replace pr42 : (r42.toInt = 1 ∧ 0 ≤ v6.toInt ∧ v6.toInt ≤ 23 ∧ mV (σ, 2, qX A) (ix v6.toInt 0) 1) ∨ (r42.toInt = 0 ∧ (v6.toInt < 0 ∨ 23 < v6.toInt ∨ ∃ v : Int32, ¬ v.toInt = 1 ∧ mV (σ, 2, qX A) (ix v6.toInt 0) v)) := pr42
        have cr42 := mB pr42 (qX_TI mu_2 hA2) hI
        clear pr42
        refine lv_if_eq (tgt := 93) hx hb dX10_likely_56 (by decide) (fun c43 => ?_) (fun c43 => ?_)
        · skip
          have ic43 := tn_eq rfl kI_0 c43
          obtain ⟨z44, ez44⟩ : ∃ y : Int32, y = v6 + (1) := ⟨_, rfl⟩
          refine lv_iinc (v := z44) (lv' := [(6, .int z44), (0, .ref h0), (1, .int x1), (2, .int x2), (3, .int v3), (4, .long w4)]) hx hb dX10_likely_93 hl (k := 5) rfl (by rw [ez44]; rfl) (by decide) rfl (fun ls hl => ?_)
          have tz44 := tn_add ez44 rfl kI_1 (by omega) (by omega)
          refine lv_goto (tgt := 43) hx hb dX10_likely_96 (by decide) ?_
          have hK3 := hK
          exact ih43 A H locs ls v3 (w4) z44 hG (lv_sub hl [1, 2, 3, 4, 5, 0] rfl) (by omega) (by omega) (by omega) (by omega) (by omega) (by omega) (by exact ⟨hA2, hA3, hK3, by omega, by omega⟩) (by omega)
        · skip
          have ic43 := tn_ne rfl kI_0 c43
          refine lv_aload_n hx hb dX10_likely_59 rfl (lv_at hl 0 rfl) ?_
          refine lv_iload hx hb dX10_likely_60 (lv_at hl 5 rfl) ?_
          refine lv_iconst (v := 1) hx hb dX10_likely_62 (by decide) ?_
          refine tc_callp (mc_runV (As := [.int v6, .int 1]) (rest := []) E hG (c_X10_get l G (σ, 2, qX A) h0 v6 (1 : Int32) t0 (by omega) (by omega) (by decide) (by decide)) t0 rfl kv_X10_get ml_X10_91 ⟨rfl, rfl, Nat.le_of_ble_eq_true rfl, Nat.le_of_ble_eq_true rfl⟩ rfl hl.1 rfl (Nat.le_of_ble_eq_true rfl) ⟨Nat.zero_le _, Nat.zero_le _⟩ dX10_likely_63) (fun r45 pr45 => ?_)
          replace pr45 : mV (σ, 2, qX A) (ix v6.toInt (1 : Int32).toInt) r45 := pr45
          have pr45 := mV_l pr45 kI_1
          have br45 := mV_1 pr45 (by omega)
          have cr45 := mT pr45 (qX_TI mu_2 hA2) (by omega) (by omega) (by decide) (by decide)
          have k46 := kI_1
          refine lv_if_ne (tgt := 93) hx hb dX10_likely_66 (by decide) (fun c47 => ?_) (fun c47 => ?_)
          · skip
            have ic47 := tn_ne rfl kI_0 c47
            obtain ⟨z48, ez48⟩ : ∃ y : Int32, y = v6 + (1) := ⟨_, rfl⟩
            refine lv_iinc (v := z48) (lv' := [(6, .int z48), (0, .ref h0), (1, .int x1), (2, .int x2), (3, .int v3), (4, .long w4)]) hx hb dX10_likely_93 hl (k := 5) rfl (by rw [ez48]; rfl) (by decide) rfl (fun ls hl => ?_)
            have tz48 := tn_add ez48 rfl kI_1 (by omega) (by omega)
            refine lv_goto (tgt := 43) hx hb dX10_likely_96 (by decide) ?_
            have hK3 := hK
            exact ih43 A H locs ls v3 (w4) z48 hG (lv_sub hl [1, 2, 3, 4, 5, 0] rfl) (by omega) (by omega) (by omega) (by omega) (by omega) (by omega) (by exact ⟨hA2, hA3, hK3, by omega, by omega⟩) (by omega)
          · skip
            have ic47 := tn_eq rfl kI_0 c47
            refine lv_iload_n hx hb dX10_likely_69 rfl (lv_at hl 3 rfl) ?_
            refine lv_bipush (v := 6) hx hb dX10_likely_70 (by decide) ?_
            refine lv_icmp_ge (tgt := 93) hx hb dX10_likely_72 (by decide) (fun c49 => ?_) (fun c49 => ?_)
            · skip
              have ic49 := tn_le kI_6 rfl c49
              obtain ⟨z50, ez50⟩ : ∃ y : Int32, y = v6 + (1) := ⟨_, rfl⟩
              refine lv_iinc (v := z50) (lv' := [(6, .int z50), (0, .ref h0), (1, .int x1), (2, .int x2), (3, .int v3), (4, .long w4)]) hx hb dX10_likely_93 hl (k := 5) rfl (by rw [ez50]; rfl) (by decide) rfl (fun ls hl => ?_)
              have tz50 := tn_add ez50 rfl kI_1 (by omega) (by omega)
              refine lv_goto (tgt := 43) hx hb dX10_likely_96 (by decide) ?_
              have hK3 := hK
              exact ih43 A H locs ls v3 (w4) z50 hG (lv_sub hl [1, 2, 3, 4, 5, 0] rfl) (by omega) (by omega) (by omega) (by omega) (by omega) (by omega) (by exact ⟨hA2, hA3, hK3, by omega, by omega⟩) (by omega)
            · skip
              have ic49 := tn_nle kI_6 rfl c49
              refine lv_aload_n hx hb dX10_likely_75 rfl (lv_at hl 0 rfl) ?_
              refine mc_getr E hG t0 mr_69 dX10_likely_76 (fun oa51 hoa51 => ?_)
              refine lv_iload_n hx hb dX10_likely_79 rfl (lv_at hl 3 rfl) ?_
              refine lv_iload hx hb dX10_likely_80 (lv_at hl 5 rfl) ?_
              obtain ⟨f, hf1, hf2⟩ := hK
              have hG : mGH G (σ, 2, qX (upA A 20 f)) s H locs := by rw [upA_self hf1]; exact hG
              refine mc_iastX E hG hoa51 ma_20.1 ma_20.2.1 (ma_20.2.2 _) (t_in (by omega) (by omega)) (by omega) (by omega) dX10_likely_82 (fun H locs hG => ?_)
              have hG := q20_set hG
              obtain ⟨A52, eA52⟩ : ∃ Z : Nat → Option (Nat → Int32), Z = upA A 20 (upN f v3.toNatClampNeg v6) := ⟨_, rfl⟩
              rw [← eA52] at hG
              have hA2 : A52 2 = some ta := by rw [eA52]; exact (upA_ne (by decide)).trans hA2
              have hA3 : A52 3 = a 3 := by rw [eA52]; exact (upA_ne (by decide)).trans hA3
              have hK : BK A52 ta (v3.toInt + 1) := ⟨upN f v3.toNatClampNeg v6, by rw [eA52]; exact upA_at, fun j hj => by
                have hi : v3.toNatClampNeg = v3.toInt.toNat := rfl
                by_cases q : j = v3.toNatClampNeg
                · rw [q, upN_at]; exact ⟨by omega, by omega⟩
                · rw [upN_ne q]; exact hf2 j (by omega)⟩
              obtain ⟨z53, ez53⟩ : ∃ y : Int32, y = v3 + (1) := ⟨_, rfl⟩
              refine lv_iinc (v := z53) (lv' := [(3, .int z53), (0, .ref h0), (1, .int x1), (2, .int x2), (4, .long w4), (6, .int v6)]) hx hb dX10_likely_83 hl (k := 3) rfl (by rw [ez53]; rfl) (by decide) rfl (fun ls hl => ?_)
              have tz53 := tn_add ez53 rfl kI_1 (by omega) (by omega)
              refine lv_lload hx hb dX10_likely_86 (lv_at hl 4 rfl) ?_
              refine lv_iload_n hx hb dX10_likely_88 rfl (lv_at hl 2 rfl) ?_
              refine lv_i2l hx hb dX10_likely_89 rfl ?_
              refine lv_topl (fun z54 ez54 => ?_)
              have tz54 := tl_i2l ez54
              refine lv_lmul hx hb dX10_likely_90 ?_
              refine lv_topl (fun z55 ez55 => ?_)
              have hml := tl_mul20 ez55 (by omega) (by omega) (by omega) (by omega)
              refine lv_lstore (lv' := [(4, .long z55), (3, .int z53), (0, .ref h0), (1, .int x1), (2, .int x2), (6, .int v6)]) hx hb dX10_likely_91 hl (by decide) rfl (fun ls hl => ?_)
              obtain ⟨z56, ez56⟩ : ∃ y : Int32, y = v6 + (1) := ⟨_, rfl⟩
              refine lv_iinc (v := z56) (lv' := [(6, .int z56), (4, .long z55), (3, .int z53), (0, .ref h0), (1, .int x1), (2, .int x2)]) hx hb dX10_likely_93 hl (k := 5) rfl (by rw [ez56]; rfl) (by decide) rfl (fun ls hl => ?_)
              have tz56 := tn_add ez56 rfl kI_1 (by omega) (by omega)
              refine lv_goto (tgt := 43) hx hb dX10_likely_96 (by decide) ?_
              have hK3 := hK
              rw [show v3.toInt + 1 = z53.toInt by omega] at hK3
              exact ih43 A52 H locs ls z53 (z55) z56 hG (lv_sub hl [3, 4, 5, 2, 1, 0] rfl) (by omega) (by omega) (by omega) (by omega) (by omega) (by omega) (by exact ⟨hA2, hA3, hK3, by omega, by omega⟩) (by omega)
  refine lv_iload_n hx hb dX10_likely_0 rfl (lv_at hl 1 rfl) ?_
  refine lv_i2l hx hb dX10_likely_1 rfl ?_
  refine lv_topl (fun z57 ez57 => ?_)
  have tz57 := tl_i2l ez57
  refine lv_ldc2 (v := 2) hx hb E.2.2.2.1 (E.2.2.2.2.1 _ (t_w8 109 rfl rfl)) dX10_likely_2 ?_
  refine lv_topl (fun z58 ez58 => ?_)
  have tz58 : z58.toInt = 2 := by rw [ez58]; decide
  refine lv_ldc2 (v := 20) hx hb E.2.2.2.1 (E.2.2.2.2.1 _ (t_w8 110 rfl rfl)) dX10_likely_5 ?_
  refine lv_topl (fun z59 ez59 => ?_)
  have tz59 : z59.toInt = 20 := by rw [ez59]; decide
  refine tc_callp (mc_runS (As := [.long z57, .long z58, .long z59]) (rest := []) E hG (c_X10_in l G (σ, 2, qX A0) z57 z58 z59) ks_X10_in ml_X10_87 ⟨rfl, rfl, Nat.le_of_ble_eq_true rfl, Nat.le_of_ble_eq_true rfl⟩ rfl hl.1 rfl (Nat.le_of_ble_eq_true rfl) ⟨Nat.zero_le _, Nat.zero_le _⟩ dX10_likely_8) (fun r60 pr60 => ?_)
  replace pr60 : ((r60.toInt = 1 ∧ z58.toInt ≤ z57.toInt ∧ z57.toInt ≤ z59.toInt) ∨ (r60.toInt = 0 ∧ (z57.toInt < z58.toInt ∨ z59.toInt < z57.toInt))) := pr60
  refine lv_if_eq (tgt := 31) hx hb dX10_likely_11 (by decide) (fun c61 => ?_) (fun c61 => ?_)
  · skip
    have ic61 := tn_eq rfl kI_0 c61
    refine lv_ldc2 (v := -9223372036854775808) hx hb E.2.2.2.1 (E.2.2.2.2.1 _ (t_w8 111 rfl rfl)) dX10_likely_31 ?_
    refine lv_topl (fun z62 ez62 => ?_)
    have tz62 : z62.toInt = -9223372036854775808 := by rw [ez62]; decide
    exact mc_lretX E hr hlk hG rfl ⟨_, rfl, hA2, hA3⟩ dX10_likely_34
  · skip
    have ic61 := tn_ne rfl kI_0 c61
    refine lv_iload_n hx hb dX10_likely_14 rfl (lv_at hl 2 rfl) ?_
    refine lv_i2l hx hb dX10_likely_15 rfl ?_
    refine lv_topl (fun z63 ez63 => ?_)
    have tz63 := tl_i2l ez63
    refine lv_lconst (v := 0) hx hb dX10_likely_16 (by decide) ?_
    refine lv_topl (fun z64 ez64 => ?_)
    have tz64 : z64.toInt = 0 := by rw [ez64]; decide
    refine lv_lconst (v := 1) hx hb dX10_likely_17 (by decide) ?_
    refine lv_topl (fun z65 ez65 => ?_)
    have tz65 : z65.toInt = 1 := by rw [ez65]; decide
    refine tc_callp (mc_runS (As := [.long z63, .long z64, .long z65]) (rest := []) E hG (c_X10_in l G (σ, 2, qX A0) z63 z64 z65) ks_X10_in ml_X10_87 ⟨rfl, rfl, Nat.le_of_ble_eq_true rfl, Nat.le_of_ble_eq_true rfl⟩ rfl hl.1 rfl (Nat.le_of_ble_eq_true rfl) ⟨Nat.zero_le _, Nat.zero_le _⟩ dX10_likely_18) (fun r66 pr66 => ?_)
    replace pr66 : ((r66.toInt = 1 ∧ z64.toInt ≤ z63.toInt ∧ z63.toInt ≤ z65.toInt) ∨ (r66.toInt = 0 ∧ (z63.toInt < z64.toInt ∨ z65.toInt < z63.toInt))) := pr66
    refine lv_if_eq (tgt := 31) hx hb dX10_likely_21 (by decide) (fun c67 => ?_) (fun c67 => ?_)
    · skip
      have ic67 := tn_eq rfl kI_0 c67
      refine lv_ldc2 (v := -9223372036854775808) hx hb E.2.2.2.1 (E.2.2.2.2.1 _ (t_w8 111 rfl rfl)) dX10_likely_31 ?_
      refine lv_topl (fun z68 ez68 => ?_)
      have tz68 : z68.toInt = -9223372036854775808 := by rw [ez68]; decide
      exact mc_lretX E hr hlk hG rfl ⟨_, rfl, hA2, hA3⟩ dX10_likely_34
    · skip
      have ic67 := tn_ne rfl kI_0 c67
      refine lv_aload_n hx hb dX10_likely_24 rfl (lv_at hl 0 rfl) ?_
      refine tc_callp (mc_runV (As := []) (rest := []) E hG (c_X10_isFull l G (σ, 2, qX A0) h0 t0) t0 rfl kv_X10_isFull ml_X10_409 ⟨rfl, rfl, Nat.le_of_ble_eq_true rfl, Nat.le_of_ble_eq_true rfl⟩ rfl hl.1 rfl (Nat.le_of_ble_eq_true rfl) ⟨Nat.zero_le _, Nat.zero_le _⟩ dX10_likely_25) (fun r69 pr69 => ?_)
      replace pr69 : 0 ≤ r69.toInt ∧ r69.toInt ≤ 1 := pr69
      refine lv_if_eq (tgt := 35) hx hb dX10_likely_28 (by decide) (fun c70 => ?_) (fun c70 => ?_)
      · skip
        have ic70 := tn_eq rfl kI_0 c70
        refine lv_iconst (v := 0) hx hb dX10_likely_35 (by decide) ?_
        refine lv_istore_n (lv' := [(3, .int 0), (0, .ref h0), (1, .int x1), (2, .int x2)]) hx hb dX10_likely_36 rfl hl (by decide) rfl (fun ls hl => ?_)
        refine lv_lconst (v := 1) hx hb dX10_likely_37 (by decide) ?_
        refine lv_topl (fun z71 ez71 => ?_)
        have tz71 : z71.toInt = 1 := by rw [ez71]; decide
        refine lv_lstore (lv' := [(4, .long z71), (3, .int 0), (0, .ref h0), (1, .int x1), (2, .int x2)]) hx hb dX10_likely_38 hl (by decide) rfl (fun ls hl => ?_)
        refine lv_iconst (v := 0) hx hb dX10_likely_40 (by decide) ?_
        refine lv_istore (lv' := [(6, .int 0), (4, .long z71), (3, .int 0), (0, .ref h0), (1, .int x1), (2, .int x2)]) hx hb dX10_likely_41 hl (by decide) rfl (fun ls hl => ?_)
        have hK3 : BK A0 ta (0 : Int32).toInt := by rw [kI_0]; exact hK
        have k0 := kI_0
        exact J43 ((24 - (0 : Int32).toInt).toNat + 1) A0 H locs ls (0 : Int32) (z71) (0 : Int32) hG (lv_sub hl [3, 4, 5, 2, 1, 0] rfl) (by omega) (by omega) (by decide) (by decide) (by decide) (by decide) (by exact ⟨hA2, hA3, hK3, by omega, by omega⟩) (Nat.lt_succ_self _)
      · skip
        have ic70 := tn_ne rfl kI_0 c70
        refine lv_ldc2 (v := -9223372036854775808) hx hb E.2.2.2.1 (E.2.2.2.2.1 _ (t_w8 111 rfl rfl)) dX10_likely_31 ?_
        refine lv_topl (fun z72 ez72 => ?_)
        have tz72 : z72.toInt = -9223372036854775808 := by rw [ez72]; decide
        exact mc_lretX E hr hlk hG rfl ⟨_, rfl, hA2, hA3⟩ dX10_likely_34

