set_option maxHeartbeats 4000000 in
set_option maxRecDepth 100000 in
theorem x_X5_readName (l : Launch) (G : tG) (F : mF) (τ : Nat → Nat) (h0 : Nat) (t0 : τ h0 = 7) (hL : τ (G.2.2.1 16) = 18) (h9 : G.2.2.1 9 = 1) (hLr : G.2.2.1 16 < h0 ∨ h0 + 30 ≤ G.2.2.1 16) (h7 : (F h0 7).toInt ≤ 120) : Met l yX5_readName (.code yX5_readName cX5_readName 5 (some .int) :: tWS) (tRm 5 108) (va_Pc [.ref h0] (tPre (gF G F) τ)) (tQF G τ (fun r F9 => ∃ q : Int32, F9 = up2 F h0 9 q ∧ RM (LF F (G.2.2.1 16)) (F h0 7).toInt (F h0 9).toInt r.toInt q.toInt)) 0 0 (tA τ) := by
  refine tc_met (by decide) (Nat.le_of_ble_eq_true rfl) ?_
  intro p e s m below meth c E hSt hr hlk hG ls hl
  have hl : lv_has ls 5 [(0, .ref h0)] := hl
  have hx := E.1
  have hb := E.2.1
  obtain ⟨H, eH⟩ : ∃ H, H = s.heap := ⟨_, rfl⟩
  obtain ⟨locs, eL⟩ : ∃ x : List Loc, x = [] := ⟨_, rfl⟩
  have hG : tGH (gF G F) τ s H locs := by rw [eH, eL]; exact hG
  suffices hW : W p l e (tRm 5 108) s m ([.ref h0] : List Value).toArray below meth c H locs 0 0 (MQ below (tQF G τ (fun r F9 => ∃ q : Int32, F9 = up2 F h0 9 q ∧ RM (LF F (G.2.2.1 16)) (F h0 7).toInt (F h0 9).toInt r.toInt q.toInt)) ([.ref h0] : List Value).toArray s 0 0 (tA τ)) (F0 m 0 ls []) by subst eH; subst eL; exact hW
  clear eH eL
  have J4 : ∀ (n4 : Nat) (Fc : mF) (H : Heap) (locs : List Loc) (ls : Array Slot) (v1 : Int32) (v2 : Int32), tGH (gF G Fc) τ s H locs → lv_has ls 5 [(0, .ref h0), (1, .int v1), (2, .int v2)] → 0 ≤ v1.toInt → v1.toInt ≤ 6 → 0 ≤ v2.toInt → v2.toInt ≤ 10 → (Fc = F ∧ NMi (LF F (G.2.2.1 16)) (F h0 7).toInt (F h0 9).toInt v2.toInt.toNat v1.toInt) → (10 - v2.toInt).toNat < n4 → W p l e (tRm 5 108) s m ([.ref h0] : List Value).toArray below meth c H locs 0 0 (MQ below (tQF G τ (fun r F9 => ∃ q : Int32, F9 = up2 F h0 9 q ∧ RM (LF F (G.2.2.1 16)) (F h0 7).toInt (F h0 9).toInt r.toInt q.toInt)) ([.ref h0] : List Value).toArray s 0 0 (tA τ)) (F0 m 4 ls []) := by
    intro n4
    induction n4 with
    | zero => intro Fc H locs ls v1 v2 hG hl b1 c1 b2 c2 hex4 hn4; exact absurd hn4 (Nat.not_lt_zero _)
    | succ n4 ih4 =>
      intro Fc H locs ls v1 v2 hG hl b1 c1 b2 c2 hex4 hn4
      have E := E.f1 (F' := Fc)
      have hSt := hSt.f1 (F' := Fc)
      obtain ⟨eFc, hN⟩ := hex4
      rw [eFc] at hG
      have E := E.f1 (F' := F)
      have hSt := hSt.f1 (F' := F)
      have hNl := NMi_le (by omega) hN
      have hN0 := hN.1
      have hN1 := hN.2.1
      refine lv_iload_n hx hb dX5_readName_4 rfl (lv_at hl 2 rfl) ?_
      refine lv_bipush (v := 10) hx hb dX5_readName_5 (by decide) ?_
      refine lv_icmp_ge (tgt := 57) hx hb dX5_readName_7 (by decide) (fun c1 => ?_) (fun c1 => ?_)
      · skip
        have ic1 := tn_le kI_10 rfl c1
        refine lv_aload_n hx hb dX5_readName_57 rfl (lv_at hl 0 rfl) ?_
        refine lv_dup hx hb dX5_readName_58 rfl ?_
        refine tc_getF E hG t0 fi_X5_46 rfl dX5_readName_59 (fun z2 lz2 uz2 wz2 => ?_)
        replace wz2 : z2 = F h0 9 := wz2
        have cz2 : z2.toInt = (F h0 9).toInt := by rw [wz2]
        refine lv_iload_n hx hb dX5_readName_62 rfl (lv_at hl 1 rfl) ?_
        refine lv_iadd hx hb dX5_readName_63 ?_
        refine lv_topi (fun z3 ez3 => ?_)
        have tz3 := tn_add ez3 rfl rfl (by omega) (by omega)
        refine tc_putF (lo := 0) (hi := 120) E hG t0 (by decide) rfl rfl fq_X5_46 (by omega) (by omega) rfl rfl dX5_readName_64 (fun H locs hG => ?_)
        obtain ⟨F4, eF4⟩ : ∃ Z : mF, Z = up2 F h0 9 z3 := ⟨_, rfl⟩
        replace hG : tGH (gF G F4) τ s H locs := by rw [eF4]; exact hG
        have E := E.f1 (F' := F4)
        have hSt := hSt.f1 (F' := F4)
        refine lv_iconst (v := -1) hx hb dX5_readName_67 (by decide) ?_
        exact tc_iretF E hr hlk hG rfl ⟨z3, eF4, Or.inr ⟨by decide, v1.toInt, (by have e9 : v2.toInt.toNat = 10 := (by omega); rw [e9] at hN; exact hN), by omega⟩⟩ dX5_readName_68
      · skip
        have ic1 := tn_nle kI_10 rfl c1
        refine lv_iload_n hx hb dX5_readName_10 rfl (lv_at hl 2 rfl) ?_
        refine tc_callpr (tc_runS (As := [.int v2]) (rest := []) E hSt hG (x_X1_nameOf l (gF G F) τ v2 (by omega) (by omega)) ks_X1_nameOf ml_X5_87 ⟨rfl, rfl, Nat.le_of_ble_eq_true rfl, Nat.le_of_ble_eq_true rfl⟩ rfl hl.1 rfl (Nat.le_of_ble_eq_true rfl) ⟨Nat.zero_le _, Nat.zero_le _⟩ dX5_readName_11) (fun r5 pr5 => ?_)
        obtain ⟨kr5, hkr5, rfl⟩ := pr5
        obtain ⟨hkr5, nkr5⟩ := hkr5
        refine lv_astore_n (lv' := [(3, .ref (G.2.2.2.1 kr5)), (0, .ref h0), (1, .int v1), (2, .int v2)]) hx hb dX5_readName_14 rfl hl (by decide) rfl (fun ls hl => ?_)
        refine lv_aload_n hx hb dX5_readName_15 rfl (lv_at hl 1 rfl) ?_
        refine lv_aload_n hx hb dX5_readName_16 rfl (lv_at hl 0 rfl) ?_
        refine tc_callp (tc_runV (As := [.ref (G.2.2.2.1 kr5)]) (rest := []) E hSt hG (x_X5_lettersLike l (gF G F) τ h0 kr5 t0 hkr5 hL h9 hLr h7) t0 rv_7 kv_X5_lettersLike ml_X5_91 ⟨rfl, rfl, Nat.le_of_ble_eq_true rfl, Nat.le_of_ble_eq_true rfl⟩ rfl hl.1 rfl (Nat.le_of_ble_eq_true rfl) ⟨Nat.zero_le _, Nat.zero_le _⟩ dX5_readName_17) (fun r6 pr6 => ?_)
        have pr6 : (LK (LF F (G.2.2.1 16)) (F h0 7).toInt (F h0 9).toInt kr5 r6.toInt) ∧ 0 ≤ r6.toInt ∧ r6.toInt ≤ 6 := pr6
        have gr6 := LK_le hkr5 pr6.1
        refine lv_istore (lv' := [(4, .int r6), (3, .ref (G.2.2.2.1 kr5)), (0, .ref h0), (1, .int v1), (2, .int v2)]) hx hb dX5_readName_20 hl (by decide) rfl (fun ls hl => ?_)
        refine lv_iload_n hx hb dX5_readName_22 rfl (lv_at hl 3 rfl) ?_
        refine lv_iload hx hb dX5_readName_23 (lv_at hl 0 rfl) ?_
        refine tc_max (rest := []) E hl.1 ml_X5_95 kn_max1 kn_math kn_max2 ⟨Nat.le_of_ble_eq_true rfl, Nat.le_of_ble_eq_true rfl⟩ ⟨Nat.zero_le _, Nat.zero_le _⟩ dX5_readName_25 (fun z7 ez7 => ?_)
        have tz7 := tn_max ez7
        refine lv_istore_n (lv' := [(1, .int z7), (4, .int r6), (3, .ref (G.2.2.2.1 kr5)), (0, .ref h0), (2, .int v2)]) hx hb dX5_readName_28 rfl hl (by decide) rfl (fun ls hl => ?_)
        refine lv_iload hx hb dX5_readName_29 (lv_at hl 1 rfl) ?_
        refine lv_aload_n hx hb dX5_readName_31 rfl (lv_at hl 2 rfl) ?_
        refine tc_callp (ts_runV (As := []) (rest := [.int r6]) E hSt hG hkr5 (c_J0_length_8abf5 l (gF G F) τ kr5 hkr5) rfl kv_J0_length_8abf5 ml_X5_98 ⟨rfl, rfl, Nat.le_of_ble_eq_true rfl, Nat.le_of_ble_eq_true rfl⟩ rfl hl.1 rfl (Nat.le_of_ble_eq_true rfl) ⟨Nat.zero_le _, Nat.zero_le _⟩ dX5_readName_32) (fun r8 pr8 => ?_)
        have pr8 : r8.toInt = ((tXl.getD kr5 0 : Nat) : Int) ∧ 0 ≤ r8.toInt ∧ r8.toInt ≤ 6 := pr8
        refine lv_icmp_ne (tgt := 51) hx hb dX5_readName_35 (by decide) (fun c9 => ?_) (fun c9 => ?_)
        · skip
          have ic9 := tn_ne rfl rfl c9
          obtain ⟨z10, ez10⟩ : ∃ y : Int32, y = v2 + (1) := ⟨_, rfl⟩
          refine lv_iinc (v := z10) (lv' := [(2, .int z10), (1, .int z7), (4, .int r6), (3, .ref (G.2.2.2.1 kr5)), (0, .ref h0)]) hx hb dX5_readName_51 hl (k := 4) rfl (by rw [ez10]; rfl) (by decide) rfl (fun ls hl => ?_)
          have tz10 := tn_add ez10 rfl kI_1 (by omega) (by omega)
          refine lv_goto (tgt := 4) hx hb dX5_readName_54 (by decide) ?_
          exact ih4 F H locs ls z7 z10 hG (lv_sub hl [4, 1, 0] rfl) (by omega) (by omega) (by omega) (by omega) (by refine ⟨rfl, ?_⟩; rw [show z10.toInt.toNat = v2.toInt.toNat + 1 by omega]; rw [nkr5] at pr6; exact NMi_s hN (by omega) pr6.1 (by rw [← nkr5]; omega) (by omega) (by omega) (by omega)) (by omega)
        · skip
          have ic9 := tn_eq rfl rfl c9
          refine lv_aload_n hx hb dX5_readName_38 rfl (lv_at hl 3 rfl) ?_
          refine lv_dup hx hb dX5_readName_39 rfl ?_
          refine tc_getF E hG t0 fi_X5_46 rfl dX5_readName_40 (fun z11 lz11 uz11 wz11 => ?_)
          replace wz11 : z11 = F h0 9 := wz11
          have cz11 : z11.toInt = (F h0 9).toInt := by rw [wz11]
          refine lv_iload hx hb dX5_readName_43 (lv_at hl 1 rfl) ?_
          refine lv_iadd hx hb dX5_readName_45 ?_
          refine lv_topi (fun z12 ez12 => ?_)
          have tz12 := tn_add ez12 rfl rfl (by omega) (by omega)
          refine tc_putF (lo := 0) (hi := 120) E hG t0 (by decide) rfl rfl fq_X5_46 (by omega) (by omega) rfl rfl dX5_readName_46 (fun H locs hG => ?_)
          obtain ⟨F13, eF13⟩ : ∃ Z : mF, Z = up2 F h0 9 z12 := ⟨_, rfl⟩
          replace hG : tGH (gF G F13) τ s H locs := by rw [eF13]; exact hG
          have E := E.f1 (F' := F13)
          have hSt := hSt.f1 (F' := F13)
          refine lv_iload_n hx hb dX5_readName_49 rfl (lv_at hl 4 rfl) ?_
          exact tc_iretF E hr hlk hG rfl ⟨z12, eF13, Or.inl ⟨v2.toInt.toNat, by omega, by omega, (by rw [← nkr5, show ((tXl.getD kr5 0 : Nat) : Int) = r6.toInt by omega]; exact pr6.1), (by rw [← nkr5]; omega)⟩⟩ dX5_readName_50
  refine lv_iconst (v := 0) hx hb dX5_readName_0 (by decide) ?_
  refine lv_istore_n (lv' := [(1, .int 0), (0, .ref h0)]) hx hb dX5_readName_1 rfl hl (by decide) rfl (fun ls hl => ?_)
  refine lv_iconst (v := 0) hx hb dX5_readName_2 (by decide) ?_
  refine lv_istore_n (lv' := [(2, .int 0), (1, .int 0), (0, .ref h0)]) hx hb dX5_readName_3 rfl hl (by decide) rfl (fun ls hl => ?_)
  exact J4 ((10 - (0 : Int32).toInt).toNat + 1) F H locs ls (0 : Int32) (0 : Int32) hG (lv_sub hl [2, 1, 0] rfl) (by decide) (by decide) (by decide) (by decide) (by exact ⟨rfl, NMi_0⟩) (Nat.lt_succ_self _)
