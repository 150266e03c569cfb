def fg (L : Nat → Int) (len p : Int) : Prop := 48 ≤ nx L len p ∧ nx L len p ≤ 57
theorem fg_lt {L : Nat → Int} {len p : Int} (h : fg L len p) : p < len := by
  by_cases q : p < len
  · exact q
  · have h1 := h.1
    unfold nx at h1
    rw [if_neg q] at h1
    omega
/-- a number of one or two figures: its worth, and where it ends -/
def RN (L : Nat → Int) (len p v q : Int) : Prop := (¬ fg L len p ∧ v = 0 ∧ q = p) ∨ (fg L len p ∧ ¬ fg L len (p + 1) ∧ v = nx L len p - 48 ∧ q = p + 1) ∨ (fg L len p ∧ fg L len (p + 1) ∧ v = 10 * (nx L len p - 48) + (nx L len (p + 1) - 48) ∧ q = p + 2)

set_option maxHeartbeats 4000000 in
set_option maxRecDepth 100000 in
theorem x_X5_readNumber (l : Launch) (G : tG) (F : mF) (τ : Nat → Nat) (h0 : Nat) (t0 : τ h0 = 7) (hL : τ (G.2.2.1 16) = 18) (h9 : G.2.2.1 9 = 1) (hLr : G.2.2.1 16 < h0 ∨ h0 + 30 ≤ G.2.2.1 16) (h7 : (F h0 7).toInt ≤ 120) : Met l yX5_readNumber (.code yX5_readNumber cX5_readNumber 3 (some .int) :: tWS) (tRm 2 40) (va_Pc [.ref h0] (tPre (gF G F) τ)) (tQF G τ (fun r F9 => ∃ q : Int32, F9 = up2 F h0 9 q ∧ RN (LF F (G.2.2.1 16)) (F h0 7).toInt (F h0 9).toInt r.toInt q.toInt)) 0 0 (tA τ) := by
  refine tc_met (by decide) (Nat.le_of_ble_eq_true rfl) ?_
  intro p e s m below meth c E hSt hr hlk hG ls hl
  have hl : lv_has ls 3 [(0, .ref h0)] := hl
  have hx := E.1
  have hb := E.2.1
  obtain ⟨H, eH⟩ : ∃ H, H = s.heap := ⟨_, rfl⟩
  obtain ⟨locs, eL⟩ : ∃ x : List Loc, x = [] := ⟨_, rfl⟩
  have hG : tGH (gF G F) τ s H locs := by rw [eH, eL]; exact hG
  suffices hW : W p l e (tRm 2 40) s m ([.ref h0] : List Value).toArray below meth c H locs 0 0 (MQ below (tQF G τ (fun r F9 => ∃ q : Int32, F9 = up2 F h0 9 q ∧ RN (LF F (G.2.2.1 16)) (F h0 7).toInt (F h0 9).toInt r.toInt q.toInt)) ([.ref h0] : List Value).toArray s 0 0 (tA τ)) (F0 m 0 ls []) by subst eH; subst eL; exact hW
  clear eH eL
  have J4 : ∀ (n4 : Nat) (Fc : mF) (H : Heap) (locs : List Loc) (ls : Array Slot) (v1 : Int32) (v2 : Int32), tGH (gF G Fc) τ s H locs → lv_has ls 3 [(0, .ref h0), (1, .int v1), (2, .int v2)] → 0 ≤ v1.toInt → v1.toInt ≤ 99 → 0 ≤ v2.toInt → v2.toInt ≤ 2 → (∃ q : Int32, Fc = up2 F h0 9 q ∧ ((v2.toInt = 0 ∧ q.toInt = (F h0 9).toInt ∧ v1.toInt = 0) ∨ (v2.toInt = 1 ∧ (48 ≤ nx (LF F (G.2.2.1 16)) (F h0 7).toInt ((F h0 9).toInt) ∧ nx (LF F (G.2.2.1 16)) (F h0 7).toInt ((F h0 9).toInt) ≤ 57) ∧ q.toInt = (F h0 9).toInt + 1 ∧ v1.toInt = nx (LF F (G.2.2.1 16)) (F h0 7).toInt ((F h0 9).toInt) - 48) ∨ (v2.toInt = 2 ∧ (48 ≤ nx (LF F (G.2.2.1 16)) (F h0 7).toInt ((F h0 9).toInt) ∧ nx (LF F (G.2.2.1 16)) (F h0 7).toInt ((F h0 9).toInt) ≤ 57) ∧ (48 ≤ nx (LF F (G.2.2.1 16)) (F h0 7).toInt ((F h0 9).toInt + 1) ∧ nx (LF F (G.2.2.1 16)) (F h0 7).toInt ((F h0 9).toInt + 1) ≤ 57) ∧ q.toInt = (F h0 9).toInt + 2 ∧ v1.toInt = 10 * (nx (LF F (G.2.2.1 16)) (F h0 7).toInt ((F h0 9).toInt) - 48) + (nx (LF F (G.2.2.1 16)) (F h0 7).toInt ((F h0 9).toInt + 1) - 48)))) → (2 - v2.toInt).toNat < n4 → W p l e (tRm 2 40) s m ([.ref h0] : List Value).toArray below meth c H locs 0 0 (MQ below (tQF G τ (fun r F9 => ∃ q : Int32, F9 = up2 F h0 9 q ∧ RN (LF F (G.2.2.1 16)) (F h0 7).toInt (F h0 9).toInt r.toInt q.toInt)) ([.ref h0] : List Value).toArray s 0 0 (tA τ)) (F0 m 4 ls []) := by
    intro n4
    induction n4 with
    | zero => intro Fc H locs ls v1 v2 hG hl b1 c1 b2 c2 hex4 hn4; exact absurd hn4 (Nat.not_lt_zero _)
    | succ n4 ih4 =>
      intro Fc H locs ls v1 v2 hG hl b1 c1 b2 c2 hex4 hn4
      have E := E.f1 (F' := Fc)
      have hSt := hSt.f1 (F' := Fc)
      obtain ⟨q, eFc, hq⟩ := hex4
      refine lv_iload_n hx hb dX5_readNumber_4 rfl (lv_at hl 2 rfl) ?_
      refine lv_iconst (v := 2) hx hb dX5_readNumber_5 (by decide) ?_
      refine lv_icmp_ge (tgt := 45) hx hb dX5_readNumber_6 (by decide) (fun c1 => ?_) (fun c1 => ?_)
      · skip
        have ic1 := tn_le kI_2 rfl c1
        refine lv_iload_n hx hb dX5_readNumber_45 rfl (lv_at hl 1 rfl) ?_
        exact tc_iretF E hr hlk hG rfl ⟨q, eFc, (by unfold RN fg; grind)⟩ dX5_readNumber_46
      · skip
        have ic1 := tn_nle kI_2 rfl c1
        refine lv_aload_n hx hb dX5_readNumber_9 rfl (lv_at hl 0 rfl) ?_
        refine tc_callp (tc_runV (As := []) (rest := []) E hSt hG (x_X5_nextIsFigure l (gF G Fc) τ h0 t0 hL h9 hLr) t0 rv_7 kv_X5_nextIsFigure ml_X5_115 ⟨rfl, rfl, Nat.le_of_ble_eq_true rfl, Nat.le_of_ble_eq_true rfl⟩ rfl hl.1 rfl (Nat.le_of_ble_eq_true rfl) ⟨Nat.zero_le _, Nat.zero_le _⟩ dX5_readNumber_10) (fun r2 pr2 => ?_)
        have pr2 : (r2.toInt = 1 ∧ (48 ≤ nx (LF Fc (G.2.2.1 16)) (Fc h0 7).toInt (Fc h0 9).toInt ∧ nx (LF Fc (G.2.2.1 16)) (Fc h0 7).toInt (Fc h0 9).toInt ≤ 57)) ∨ (r2.toInt = 0 ∧ ¬ (48 ≤ nx (LF Fc (G.2.2.1 16)) (Fc h0 7).toInt (Fc h0 9).toInt ∧ nx (LF Fc (G.2.2.1 16)) (Fc h0 7).toInt (Fc h0 9).toInt ≤ 57)) := pr2
        rw [show LF Fc (G.2.2.1 16) = LF F (G.2.2.1 16) from (by rw [eFc, LF_up (by omega)]), show Fc h0 7 = (F h0 7) from (by rw [eFc, up2_ne (by omega)]), show Fc h0 9 = q from (by rw [eFc, up2_at])] at pr2
        refine lv_if_eq (tgt := 45) hx hb dX5_readNumber_13 (by decide) (fun c3 => ?_) (fun c3 => ?_)
        · skip
          have ic3 := tn_eq rfl kI_0 c3
          refine lv_iload_n hx hb dX5_readNumber_45 rfl (lv_at hl 1 rfl) ?_
          exact tc_iretF E hr hlk hG rfl ⟨q, eFc, (by unfold RN fg; grind)⟩ dX5_readNumber_46
        · skip
          have ic3 := tn_ne rfl kI_0 c3
          refine lv_bipush (v := 10) hx hb dX5_readNumber_16 (by decide) ?_
          refine lv_iload_n hx hb dX5_readNumber_18 rfl (lv_at hl 1 rfl) ?_
          refine lv_imul hx hb dX5_readNumber_19 ?_
          refine lv_topi (fun z4 ez4 => ?_)
          have tz4 := tn_mul ez4 kI_10 rfl (by omega) (by omega)
          refine lv_aload_n hx hb dX5_readNumber_20 rfl (lv_at hl 0 rfl) ?_
          refine tc_callp (tc_runV (As := []) (rest := [.int z4]) E hSt hG (x_X5_next l (gF G Fc) τ h0 t0 hL h9 hLr) t0 rv_7 kv_X5_next ml_X5_64 ⟨rfl, rfl, Nat.le_of_ble_eq_true rfl, Nat.le_of_ble_eq_true rfl⟩ rfl hl.1 rfl (Nat.le_of_ble_eq_true rfl) ⟨Nat.zero_le _, Nat.zero_le _⟩ dX5_readNumber_21) (fun r5 pr5 => ?_)
          have pr5 : r5.toInt = nx (LF Fc (G.2.2.1 16)) (Fc h0 7).toInt (Fc h0 9).toInt ∧ 0 ≤ r5.toInt ∧ r5.toInt ≤ 65535 := pr5
          rw [show LF Fc (G.2.2.1 16) = LF F (G.2.2.1 16) from (by rw [eFc, LF_up (by omega)]), show Fc h0 7 = (F h0 7) from (by rw [eFc, up2_ne (by omega)]), show Fc h0 9 = q from (by rw [eFc, up2_at])] at pr5
          have qr5 : 1 ≤ r5.toInt → q.toInt < (F h0 7).toInt := fun h => (by have h2 := pr5.1; unfold nx at h2; by_cases q9 : q.toInt < (F h0 7).toInt; exact q9; rw [if_neg q9] at h2; omega)
          refine lv_iadd hx hb dX5_readNumber_24 ?_
          refine lv_topi (fun z6 ez6 => ?_)
          have tz6 := tn_add ez6 rfl rfl (by omega) (by omega)
          refine lv_bipush (v := 48) hx hb dX5_readNumber_25 (by decide) ?_
          refine lv_isub hx hb dX5_readNumber_27 ?_
          refine lv_topi (fun z7 ez7 => ?_)
          have tz7 := tn_sub ez7 rfl kI_48 (by omega) (by omega)
          refine lv_istore_n (lv' := [(1, .int z7), (0, .ref h0), (2, .int v2)]) hx hb dX5_readNumber_28 rfl hl (by decide) rfl (fun ls hl => ?_)
          refine lv_aload_n hx hb dX5_readNumber_29 rfl (lv_at hl 1 rfl) ?_
          refine lv_dup hx hb dX5_readNumber_30 rfl ?_
          refine tc_getF E hG t0 fi_X5_46 rfl dX5_readNumber_31 (fun z8 lz8 uz8 wz8 => ?_)
          replace wz8 : z8 = Fc h0 9 := wz8
          replace wz8 : z8 = q := by rw [wz8, eFc, up2_at]
          have cz8 : z8.toInt = (q).toInt := by rw [wz8]
          refine lv_iconst (v := 1) hx hb dX5_readNumber_34 (by decide) ?_
          refine lv_iadd hx hb dX5_readNumber_35 ?_
          refine lv_topi (fun z9 ez9 => ?_)
          have tz9 := tn_add ez9 rfl kI_1 (by omega) (by omega)
          refine tc_putF (lo := 0) (hi := 120) E hG t0 (by decide) rfl rfl fq_X5_46 (by omega) (by omega) rfl rfl dX5_readNumber_36 (fun H locs hG => ?_)
          obtain ⟨F10, eF10⟩ : ∃ Z : mF, Z = up2 Fc h0 9 z9 := ⟨_, rfl⟩
          replace hG : tGH (gF G F10) τ s H locs := by rw [eF10]; exact hG
          have E := E.f1 (F' := F10)
          have hSt := hSt.f1 (F' := F10)
          obtain ⟨z11, ez11⟩ : ∃ y : Int32, y = v2 + (1) := ⟨_, rfl⟩
          refine lv_iinc (v := z11) (lv' := [(2, .int z11), (1, .int z7), (0, .ref h0)]) hx hb dX5_readNumber_39 hl (k := 2) rfl (by rw [ez11]; rfl) (by decide) rfl (fun ls hl => ?_)
          have tz11 := tn_add ez11 rfl kI_1 (by omega) (by omega)
          refine lv_goto (tgt := 4) hx hb dX5_readNumber_42 (by decide) ?_
          exact ih4 F10 H locs ls z7 z11 hG (lv_sub hl [2, 1, 0] rfl) (by omega) (by omega) (by omega) (by omega) (by refine ⟨z9, (by rw [eF10, eFc, up2_up2]), ?_⟩; grind) (by omega)
  refine lv_iconst (v := 0) hx hb dX5_readNumber_0 (by decide) ?_
  refine lv_istore_n (lv' := [(1, .int 0), (0, .ref h0)]) hx hb dX5_readNumber_1 rfl hl (by decide) rfl (fun ls hl => ?_)
  refine lv_iconst (v := 0) hx hb dX5_readNumber_2 (by decide) ?_
  refine lv_istore_n (lv' := [(2, .int 0), (1, .int 0), (0, .ref h0)]) hx hb dX5_readNumber_3 rfl hl (by decide) rfl (fun ls hl => ?_)
  exact J4 ((2 - (0 : Int32).toInt).toNat + 1) F H locs ls (0 : Int32) (0 : Int32) hG (lv_sub hl [2, 1, 0] rfl) (by decide) (by decide) (by decide) (by decide) (by exact ⟨F h0 9, up2_self.symm, Or.inl ⟨by decide, rfl, by decide⟩⟩) (Nat.lt_succ_self _)
