set_option maxHeartbeats 4000000 in
set_option maxRecDepth 100000 in
theorem x_X4_write (l : Launch) (G : tG) (τ : Nat → Nat) : ∀ (d : Nat) (F : mF) (h0 : Nat) (h1 : Nat) (x2 : Int32) (t0 : τ h0 = 8) (t1 : τ h1 = 3) (l2 : 0 ≤ x2.toInt) (hd : (24 - x2.toInt).toNat < d) (hw9 : G.2.2.1 12 + 100 ≤ h0) (hb9 : ∃ n : Nat, n ≤ 23 ∧ tB (F (G.2.2.1 12) 4) n ∧ h1 = G.2.2.1 12 + 1 + (3 + 4 * n)) (hR9 : PRF F (G.2.2.1 12)) (hr9 : 0 ≤ (F h0 1).toInt ∧ (F h0 1).toInt ≤ 960), Met l yX4_write (.code yX4_write cX4_write 4 none :: tWS) (tRm (1 * d + 12) (60 * d + 400)) (va_Pc [.ref h0, .ref h1, .int x2] (tPre (gF G F) τ)) (tQG G τ (fun F9 => PRI h0 F F9 (pT (kF F (G.2.2.1 12)) (24 - x2.toInt).toNat (((h1 - (G.2.2.1 12 + 4)) / 4 : Nat) : Int)))) 0 0 (tA τ) := by
  intro d
  induction d with
  | zero => intro F h0 h1 x2 t0 t1 l2 hd hw9 hb9 hR9 hr9; exact absurd hd (Nat.not_lt_zero _)
  | succ d ih =>
  intro F h0 h1 x2 t0 t1 l2 hd hw9 hb9 hR9 hr9
  refine tc_met (by decide) (Nat.le_of_ble_eq_true rfl) ?_
  intro p e s m below meth c E hSt hr hlk hG ls hl
  have hl : lv_has ls 4 [(0, .ref h0), (1, .ref h1), (2, .int x2)] := hl
  have hx := E.1
  have hb := E.2.1
  obtain ⟨H, eH⟩ : ∃ H, H = s.heap := ⟨_, rfl⟩
  obtain ⟨locs, eL⟩ : ∃ x : List Loc, x = [] := ⟨_, rfl⟩
  have hG : tGH (gF G F) τ s H locs := by rw [eH, eL]; exact hG
  suffices hW : W p l e (tRm (1 * (d + 1) + 12) (60 * (d + 1) + 400)) s m ([.ref h0, .ref h1, .int x2] : List Value).toArray below meth c H locs 0 0 (MQ below (tQG G τ (fun F9 => PRI h0 F F9 (pT (kF F (G.2.2.1 12)) (24 - x2.toInt).toNat (((h1 - (G.2.2.1 12 + 4)) / 4 : Nat) : Int)))) ([.ref h0, .ref h1, .int x2] : List Value).toArray s 0 0 (tA τ)) (F0 m 0 ls []) by subst eH; subst eL; exact hW
  clear eH eL
  obtain ⟨n9, hn9, hA9, en9⟩ := hb9
  have eNB : (h1 - (G.2.2.1 12 + 4)) / 4 = n9 := by rw [show h1 - (G.2.2.1 12 + 4) = 4 * n9 by omega, Nat.mul_div_cancel_left _ (by decide)]
  obtain ⟨r1, r2, r3, r4, r5⟩ := hR9 n9 hn9 hA9
  rw [← en9] at r1 r2 r3 r4 r5
  obtain ⟨kq1, kq6, kq10, kq4, kq11⟩ := kF_at (F := F) hn9 en9
  rw [← eNB] at kq1 kq6 kq10 kq4 kq11
  have J76 : ∀ (n76 : Nat) (Fc : mF) (H : Heap) (locs : List Loc) (ls : Array Slot) (v3 : Int32), tGH (gF G Fc) τ s H locs → lv_has ls 4 [(0, .ref h0), (1, .ref h1), (2, .int x2), (3, .int v3)] → x2.toInt ≤ 23 → 0 ≤ v3.toInt → v3.toInt ≤ 8 → (PRI h0 F Fc (ownL (kF F (G.2.2.1 12)) (((h1 - (G.2.2.1 12 + 4)) / 4 : Nat) : Int) ++ kdL (kF F (G.2.2.1 12)) (pT (kF F (G.2.2.1 12)) ((24 - x2.toInt).toNat - 1)) (((h1 - (G.2.2.1 12 + 4)) / 4 : Nat) : Int) v3.toInt.toNat) ∧ v3.toInt ≤ (F h1 10).toInt) → (8 - v3.toInt).toNat < n76 → W p l e (tRm (1 * (d + 1) + 12) (60 * (d + 1) + 400)) s m ([.ref h0, .ref h1, .int x2] : List Value).toArray below meth c H locs 0 0 (MQ below (tQG G τ (fun F9 => PRI h0 F F9 (pT (kF F (G.2.2.1 12)) (24 - x2.toInt).toNat (((h1 - (G.2.2.1 12 + 4)) / 4 : Nat) : Int)))) ([.ref h0, .ref h1, .int x2] : List Value).toArray s 0 0 (tA τ)) (F0 m 76 ls []) := by
    intro n76
    induction n76 with
    | zero => intro Fc H locs ls v3 hG hl cp2 b3 c3 hex76 hn76; exact absurd hn76 (Nat.not_lt_zero _)
    | succ n76 ih76 =>
      intro Fc H locs ls v3 hG hl cp2 b3 c3 hex76 hn76
      have E := E.f1 (F' := Fc)
      have hSt := hSt.f1 (F' := Fc)
      refine lv_iload_n hx hb dX4_write_76 rfl (lv_at hl 3 rfl) ?_
      refine lv_aload_n hx hb dX4_write_77 rfl (lv_at hl 1 rfl) ?_
      refine tc_getF E hG t1 fi_X4_71 rfl dX4_write_78 (fun z1 lz1 uz1 wz1 => ?_)
      replace wz1 : z1 = Fc h1 10 := wz1
      replace wz1 : z1 = F h1 10 := by rw [wz1, hex76.1.2.2 _ _ (by omega)]
      have cz1 : z1.toInt = (F h1 10).toInt := by rw [wz1]
      refine lv_icmp_ge (tgt := 121) hx hb dX4_write_81 (by decide) (fun c2 => ?_) (fun c2 => ?_)
      · skip
        have ic2 := tn_le rfl rfl c2
        refine lv_aload_n hx hb dX4_write_121 rfl (lv_at hl 1 rfl) ?_
        refine tc_getF E hG t1 fi_X4_71 rfl dX4_write_122 (fun z3 lz3 uz3 wz3 => ?_)
        replace wz3 : z3 = Fc h1 10 := wz3
        replace wz3 : z3 = F h1 10 := by rw [wz3, hex76.1.2.2 _ _ (by omega)]
        have cz3 : z3.toInt = (F h1 10).toInt := by rw [wz3]
        refine lv_if_le (tgt := 134) hx hb dX4_write_125 (by decide) (fun c4 => ?_) (fun c4 => ?_)
        · skip
          have ic4 := tn_le rfl kI_0 c4
          exact tc_vretF E hr hlk hG (pT_end (n := ((24 - x2.toInt).toNat - 1)) (by omega) hex76.1 (by rw [kq10]; omega) (by rw [kq10]; omega)) dX4_write_134
        · skip
          have ic4 := tn_nle rfl kI_0 c4
          refine lv_aload_n hx hb dX4_write_128 rfl (lv_at hl 0 rfl) ?_
          refine lv_bipush (v := 41) hx hb dX4_write_129 (by decide) ?_
          refine tc_callvF hG (tc_runV (As := [.int 41]) (rest := []) E hSt hG (x_X4_put l G Fc τ h0 (41 : Int32) t0 (by decide) (by decide)) t0 rv_8 kv_X4_put ml_X4_56 (tRm_ok (by omega) (by omega)) rfl hl.1 rfl (Nat.le_of_ble_eq_true rfl) ⟨Nat.zero_le _, Nat.zero_le _⟩ dX4_write_131) (fun F6 H locs pr5 hG => ?_)
          have E := E.f1 (F' := F6)
          have hSt := hSt.f1 (F' := F6)
          replace pr5 : PRI h0 Fc F6 [(41 : Int32).toInt] := pr5
          have k7 := kI_41
          have ur5 := PRI.trans hex76.1 pr5
          exact tc_vretF E hr hlk hG (pT_end1 (n := ((24 - x2.toInt).toNat - 1)) (by omega) ur5 kI_41 (by rw [kq10]; omega) (by rw [kq10]; omega)) dX4_write_134
      · skip
        have ic2 := tn_nle rfl rfl c2
        refine lv_aload_n hx hb dX4_write_84 rfl (lv_at hl 0 rfl) ?_
        refine lv_iload_n hx hb dX4_write_85 rfl (lv_at hl 3 rfl) ?_
        refine lv_if_ne (tgt := 94) hx hb dX4_write_86 (by decide) (fun c8 => ?_) (fun c8 => ?_)
        · skip
          have ic8 := tn_ne rfl kI_0 c8
          refine lv_bipush (v := 44) hx hb dX4_write_94 (by decide) ?_
          refine tc_callvF hG (tc_runV (As := [.int 44]) (rest := []) E hSt hG (x_X4_put l G Fc τ h0 (44 : Int32) t0 (by decide) (by decide)) t0 rv_8 kv_X4_put ml_X4_56 (tRm_ok (by omega) (by omega)) rfl hl.1 rfl (Nat.le_of_ble_eq_true rfl) ⟨Nat.zero_le _, Nat.zero_le _⟩ dX4_write_96) (fun F10 H locs pr9 hG => ?_)
          have E := E.f1 (F' := F10)
          have hSt := hSt.f1 (F' := F10)
          replace pr9 : PRI h0 Fc F10 [(44 : Int32).toInt] := pr9
          have k11 := kI_44
          have ur9 := PRI.trans hex76.1 pr9
          refine lv_aload_n hx hb dX4_write_99 rfl (lv_at hl 0 rfl) ?_
          refine lv_aload_n hx hb dX4_write_100 rfl (lv_at hl 0 rfl) ?_
          refine tc_getrG E hG t0 fr_X4_15 rfl (fun _ => (by omega)) (fun z => by cases z) dX4_write_101 (fun ha12 => ?_)
          replace ha12 : τ (G.2.2.1 12) = 2 := ha12
          refine lv_aload_n hx hb dX4_write_104 rfl (lv_at hl 1 rfl) ?_
          refine lv_iload_n hx hb dX4_write_105 rfl (lv_at hl 3 rfl) ?_
          refine tc_callpr (tc_runV (As := [.ref h1, .int v3]) (rest := [.ref h0]) E hSt hG (x_X8_kidOf l (gF G F10) τ (G.2.2.1 12) h1 v3 ha12 t1 (by omega) (by omega)) ha12 rv_2 kv_X8_kidOf ml_X4_74 (tRm_ok (by omega) (by omega)) rfl hl.1 rfl (Nat.le_of_ble_eq_true rfl) ⟨Nat.zero_le _, Nat.zero_le _⟩ dX4_write_106) (fun r13 pr13 => ?_)
          replace pr13 : τ r13 = 3 ∧ r13 = ((G.2.2.1 12) + 1 + (3 + 4 * (F10 (h1 + 2) v3.toNatClampNeg).toNatClampNeg)) := pr13
          rw [pr9.2.2 _ _ (by omega), hex76.1.2.2 _ _ (by omega)] at pr13
          obtain ⟨pr13, er13⟩ := pr13
          subst er13
          refine lv_iload_n hx hb dX4_write_109 rfl (lv_at hl 2 rfl) ?_
          refine lv_iconst (v := 1) hx hb dX4_write_110 (by decide) ?_
          refine lv_iadd hx hb dX4_write_111 ?_
          refine lv_topi (fun z14 ez14 => ?_)
          have tz14 := tn_add ez14 rfl kI_1 (by omega) (by omega)
          obtain ⟨kn0, kn1, kn2⟩ := r5 v3.toNatClampNeg (by show ((v3.toInt.toNat : Nat) : Int) < _; omega)
          have kn9 : (((F (h1 + 2) v3.toNatClampNeg).toNatClampNeg : Nat) : Int) = (F (h1 + 2) v3.toNatClampNeg).toInt := by show (((F (h1 + 2) v3.toNatClampNeg).toInt.toNat : Nat) : Int) = _; omega
          have pk9 : v3.toNatClampNeg = v3.toInt.toNat := rfl
          refine tc_callvF hG (tc_runV (As := [.ref ((G.2.2.1 12) + 1 + (3 + 4 * (F (h1 + 2) v3.toNatClampNeg).toNatClampNeg)), .int z14]) (rest := []) E hSt hG (ih F10 h0 ((G.2.2.1 12) + 1 + (3 + 4 * (F (h1 + 2) v3.toNatClampNeg).toNatClampNeg)) z14 t0 pr13 (by omega) (by omega) hw9 ⟨_, (by omega), (by rw [ur9.2.2 (G.2.2.1 12) 4 (by omega)]; exact kn2), rfl⟩ (PRF_fr hw9 ur9.2.2 hR9) ur9.2.1) t0 rv_8 kv_X4_write ml_X4_33 (tRm_ok (by omega) (by omega)) rfl hl.1 rfl (Nat.le_of_ble_eq_true rfl) ⟨Nat.zero_le _, Nat.zero_le _⟩ dX4_write_112) (fun F16 H locs pr15 hG => ?_)
          have E := E.f1 (F' := F16)
          have hSt := hSt.f1 (F' := F16)
          replace pr15 : PRI h0 F10 F16 (pT (kF F10 (G.2.2.1 12)) (24 - z14.toInt).toNat (((((G.2.2.1 12) + 1 + (3 + 4 * (F (h1 + 2) v3.toNatClampNeg).toNatClampNeg)) - (G.2.2.1 12 + 4)) / 4 : Nat) : Int)) := pr15
          rw [show kF F10 (G.2.2.1 12) = kF F (G.2.2.1 12) from kF_fr hw9 ur9.2.2, show (24 - z14.toInt).toNat = ((24 - x2.toInt).toNat - 1) by omega, show ((((G.2.2.1 12) + 1 + (3 + 4 * (F (h1 + 2) v3.toNatClampNeg).toNatClampNeg) - (G.2.2.1 12 + 4)) / 4 : Nat) : Int) = (F (h1 + 2) v3.toNatClampNeg).toInt from (by rw [show (G.2.2.1 12) + 1 + (3 + 4 * (F (h1 + 2) v3.toNatClampNeg).toNatClampNeg) - (G.2.2.1 12 + 4) = 4 * (F (h1 + 2) v3.toNatClampNeg).toNatClampNeg by omega, Nat.mul_div_cancel_left _ (by decide)]; exact kn9)] at pr15
          have ur15 := PRI.trans ur9 pr15
          obtain ⟨z17, ez17⟩ : ∃ y : Int32, y = v3 + (1) := ⟨_, rfl⟩
          refine lv_iinc (v := z17) (lv' := [(3, .int z17), (0, .ref h0), (1, .ref h1), (2, .int x2)]) hx hb dX4_write_115 hl (k := 3) rfl (by rw [ez17]; rfl) (by decide) rfl (fun ls hl => ?_)
          have tz17 := tn_add ez17 rfl kI_1 (by omega) (by omega)
          refine lv_goto (tgt := 76) hx hb dX4_write_118 (by decide) ?_
          exact ih76 F16 H locs ls z17 hG (lv_sub hl [1, 2, 3, 0] rfl) (by omega) (by omega) (by omega) (by exact ⟨kd_s (v := (F (h1 + 2) v3.toInt.toNat).toInt) ur15 (by rw [if_neg (by omega)]; exact kI_44) (by omega) (kq11 v3.toInt.toNat).symm, (by omega)⟩) (by omega)
        · skip
          have ic8 := tn_eq rfl kI_0 c8
          refine lv_bipush (v := 40) hx hb dX4_write_89 (by decide) ?_
          refine lv_goto (tgt := 96) hx hb dX4_write_91 (by decide) ?_
          refine tc_callvF hG (tc_runV (As := [.int 40]) (rest := []) E hSt hG (x_X4_put l G Fc τ h0 (40 : Int32) t0 (by decide) (by decide)) t0 rv_8 kv_X4_put ml_X4_56 (tRm_ok (by omega) (by omega)) rfl hl.1 rfl (Nat.le_of_ble_eq_true rfl) ⟨Nat.zero_le _, Nat.zero_le _⟩ dX4_write_96) (fun F19 H locs pr18 hG => ?_)
          have E := E.f1 (F' := F19)
          have hSt := hSt.f1 (F' := F19)
          replace pr18 : PRI h0 Fc F19 [(40 : Int32).toInt] := pr18
          have k20 := kI_40
          have ur18 := PRI.trans hex76.1 pr18
          refine lv_aload_n hx hb dX4_write_99 rfl (lv_at hl 0 rfl) ?_
          refine lv_aload_n hx hb dX4_write_100 rfl (lv_at hl 0 rfl) ?_
          refine tc_getrG E hG t0 fr_X4_15 rfl (fun _ => (by omega)) (fun z => by cases z) dX4_write_101 (fun ha21 => ?_)
          replace ha21 : τ (G.2.2.1 12) = 2 := ha21
          refine lv_aload_n hx hb dX4_write_104 rfl (lv_at hl 1 rfl) ?_
          refine lv_iload_n hx hb dX4_write_105 rfl (lv_at hl 3 rfl) ?_
          refine tc_callpr (tc_runV (As := [.ref h1, .int v3]) (rest := [.ref h0]) E hSt hG (x_X8_kidOf l (gF G F19) τ (G.2.2.1 12) h1 v3 ha21 t1 (by omega) (by omega)) ha21 rv_2 kv_X8_kidOf ml_X4_74 (tRm_ok (by omega) (by omega)) rfl hl.1 rfl (Nat.le_of_ble_eq_true rfl) ⟨Nat.zero_le _, Nat.zero_le _⟩ dX4_write_106) (fun r22 pr22 => ?_)
          replace pr22 : τ r22 = 3 ∧ r22 = ((G.2.2.1 12) + 1 + (3 + 4 * (F19 (h1 + 2) v3.toNatClampNeg).toNatClampNeg)) := pr22
          rw [pr18.2.2 _ _ (by omega), hex76.1.2.2 _ _ (by omega)] at pr22
          obtain ⟨pr22, er22⟩ := pr22
          subst er22
          refine lv_iload_n hx hb dX4_write_109 rfl (lv_at hl 2 rfl) ?_
          refine lv_iconst (v := 1) hx hb dX4_write_110 (by decide) ?_
          refine lv_iadd hx hb dX4_write_111 ?_
          refine lv_topi (fun z23 ez23 => ?_)
          have tz23 := tn_add ez23 rfl kI_1 (by omega) (by omega)
          obtain ⟨kn0, kn1, kn2⟩ := r5 v3.toNatClampNeg (by show ((v3.toInt.toNat : Nat) : Int) < _; omega)
          have kn9 : (((F (h1 + 2) v3.toNatClampNeg).toNatClampNeg : Nat) : Int) = (F (h1 + 2) v3.toNatClampNeg).toInt := by show (((F (h1 + 2) v3.toNatClampNeg).toInt.toNat : Nat) : Int) = _; omega
          have pk9 : v3.toNatClampNeg = v3.toInt.toNat := rfl
          refine tc_callvF hG (tc_runV (As := [.ref ((G.2.2.1 12) + 1 + (3 + 4 * (F (h1 + 2) v3.toNatClampNeg).toNatClampNeg)), .int z23]) (rest := []) E hSt hG (ih F19 h0 ((G.2.2.1 12) + 1 + (3 + 4 * (F (h1 + 2) v3.toNatClampNeg).toNatClampNeg)) z23 t0 pr22 (by omega) (by omega) hw9 ⟨_, (by omega), (by rw [ur18.2.2 (G.2.2.1 12) 4 (by omega)]; exact kn2), rfl⟩ (PRF_fr hw9 ur18.2.2 hR9) ur18.2.1) t0 rv_8 kv_X4_write ml_X4_33 (tRm_ok (by omega) (by omega)) rfl hl.1 rfl (Nat.le_of_ble_eq_true rfl) ⟨Nat.zero_le _, Nat.zero_le _⟩ dX4_write_112) (fun F25 H locs pr24 hG => ?_)
          have E := E.f1 (F' := F25)
          have hSt := hSt.f1 (F' := F25)
          replace pr24 : PRI h0 F19 F25 (pT (kF F19 (G.2.2.1 12)) (24 - z23.toInt).toNat (((((G.2.2.1 12) + 1 + (3 + 4 * (F (h1 + 2) v3.toNatClampNeg).toNatClampNeg)) - (G.2.2.1 12 + 4)) / 4 : Nat) : Int)) := pr24
          rw [show kF F19 (G.2.2.1 12) = kF F (G.2.2.1 12) from kF_fr hw9 ur18.2.2, show (24 - z23.toInt).toNat = ((24 - x2.toInt).toNat - 1) by omega, show ((((G.2.2.1 12) + 1 + (3 + 4 * (F (h1 + 2) v3.toNatClampNeg).toNatClampNeg) - (G.2.2.1 12 + 4)) / 4 : Nat) : Int) = (F (h1 + 2) v3.toNatClampNeg).toInt from (by rw [show (G.2.2.1 12) + 1 + (3 + 4 * (F (h1 + 2) v3.toNatClampNeg).toNatClampNeg) - (G.2.2.1 12 + 4) = 4 * (F (h1 + 2) v3.toNatClampNeg).toNatClampNeg by omega, Nat.mul_div_cancel_left _ (by decide)]; exact kn9)] at pr24
          have ur24 := PRI.trans ur18 pr24
          obtain ⟨z26, ez26⟩ : ∃ y : Int32, y = v3 + (1) := ⟨_, rfl⟩
          refine lv_iinc (v := z26) (lv' := [(3, .int z26), (0, .ref h0), (1, .ref h1), (2, .int x2)]) hx hb dX4_write_115 hl (k := 3) rfl (by rw [ez26]; rfl) (by decide) rfl (fun ls hl => ?_)
          have tz26 := tn_add ez26 rfl kI_1 (by omega) (by omega)
          refine lv_goto (tgt := 76) hx hb dX4_write_118 (by decide) ?_
          exact ih76 F25 H locs ls z26 hG (lv_sub hl [1, 2, 3, 0] rfl) (by omega) (by omega) (by omega) (by exact ⟨kd_s (v := (F (h1 + 2) v3.toInt.toNat).toInt) ur24 (by rw [if_pos (by omega)]; exact kI_40) (by omega) (kq11 v3.toInt.toNat).symm, (by omega)⟩) (by omega)
  have J20 : ∀ (n20 : Nat) (Fc : mF) (H : Heap) (locs : List Loc) (ls : Array Slot) (v3 : Int32), tGH (gF G Fc) τ s H locs → lv_has ls 4 [(0, .ref h0), (1, .ref h1), (2, .int x2), (3, .int v3)] → x2.toInt ≤ 23 → 0 ≤ v3.toInt → v3.toInt ≤ 4 → (PRI h0 F Fc (nmU (F h1 4).toInt.toNat (tXl.getD (F h1 4).toInt.toNat 0) ++ nmsL (kF F (G.2.2.1 12)) (((h1 - (G.2.2.1 12 + 4)) / 4 : Nat) : Int) v3.toInt.toNat) ∧ v3.toInt ≤ nNum (F h1 4).toInt) → (4 - v3.toInt).toNat < n20 → W p l e (tRm (1 * (d + 1) + 12) (60 * (d + 1) + 400)) s m ([.ref h0, .ref h1, .int x2] : List Value).toArray below meth c H locs 0 0 (MQ below (tQG G τ (fun F9 => PRI h0 F F9 (pT (kF F (G.2.2.1 12)) (24 - x2.toInt).toNat (((h1 - (G.2.2.1 12 + 4)) / 4 : Nat) : Int)))) ([.ref h0, .ref h1, .int x2] : List Value).toArray s 0 0 (tA τ)) (F0 m 20 ls []) := by
    intro n20
    induction n20 with
    | zero => intro Fc H locs ls v3 hG hl cp2 b3 c3 hex20 hn20; exact absurd hn20 (Nat.not_lt_zero _)
    | succ n20 ih20 =>
      intro Fc H locs ls v3 hG hl cp2 b3 c3 hex20 hn20
      have E := E.f1 (F' := Fc)
      have hSt := hSt.f1 (F' := Fc)
      refine lv_iload_n hx hb dX4_write_20 rfl (lv_at hl 3 rfl) ?_
      refine lv_aload_n hx hb dX4_write_21 rfl (lv_at hl 1 rfl) ?_
      refine tc_getF E hG t1 fi_X4_37 rfl dX4_write_22 (fun z27 lz27 uz27 wz27 => ?_)
      replace wz27 : z27 = Fc h1 4 := wz27
      replace wz27 : z27 = F h1 4 := by rw [wz27, hex20.1.2.2 _ _ (by omega)]
      have cz27 : z27.toInt = (F h1 4).toInt := by rw [wz27]
      refine tc_callp (tc_runS (As := [.int z27]) (rest := [.int v3]) E hSt hG (x_X1_numbersOf l (gF G Fc) τ z27) ks_X1_numbersOf ml_X4_52 (tRm_ok (by omega) (by omega)) rfl hl.1 rfl (Nat.le_of_ble_eq_true rfl) ⟨Nat.zero_le _, Nat.zero_le _⟩ dX4_write_25) (fun r28 pr28 => ?_)
      have pr28 : r28.toInt = nNum z27.toInt ∧ (0 ≤ r28.toInt ∧ r28.toInt ≤ 4) ∧ (r28.toInt = 0 ∨ (0 ≤ z27.toInt ∧ z27.toInt ≤ 9)) := pr28
      rw [cz27] at pr28
      refine lv_icmp_ge (tgt := 53) hx hb dX4_write_28 (by decide) (fun c29 => ?_) (fun c29 => ?_)
      · skip
        have ic29 := tn_le rfl rfl c29
        refine lv_aload_n hx hb dX4_write_53 rfl (lv_at hl 1 rfl) ?_
        refine tc_getF E hG t1 fi_X4_68 rfl dX4_write_54 (fun z30 lz30 uz30 wz30 => ?_)
        replace wz30 : z30 = Fc h1 7 := wz30
        replace wz30 : z30 = F h1 7 := by rw [wz30, hex20.1.2.2 _ _ (by omega)]
        have cz30 : z30.toInt = (F h1 7).toInt := by rw [wz30]
        refine lv_if_le (tgt := 74) hx hb dX4_write_57 (by decide) (fun c31 => ?_) (fun c31 => ?_)
        · skip
          have ic31 := tn_le rfl kI_0 c31
          refine lv_iconst (v := 0) hx hb dX4_write_74 (by decide) ?_
          refine lv_istore_n (lv' := [(3, .int 0), (0, .ref h0), (1, .ref h1), (2, .int x2)]) hx hb dX4_write_75 rfl hl (by decide) rfl (fun ls hl => ?_)
          exact J76 ((8 - (0 : Int32).toInt).toNat + 1) Fc H locs ls (0 : Int32) hG (lv_sub hl [1, 2, 3, 0] rfl) (by omega) (by decide) (by decide) (by exact ⟨(by rw [show (0 : Int32).toInt.toNat = 0 from by decide]; exact own_n hex20.1 kq1 rfl (by omega) (by rw [kq6]; omega)), (by have k0 := kI_0; omega)⟩) (Nat.lt_succ_self _)
        · skip
          have ic31 := tn_nle rfl kI_0 c31
          refine lv_aload_n hx hb dX4_write_60 rfl (lv_at hl 0 rfl) ?_
          refine lv_bipush (v := 42) hx hb dX4_write_61 (by decide) ?_
          refine tc_callvF hG (tc_runV (As := [.int 42]) (rest := []) E hSt hG (x_X4_put l G Fc τ h0 (42 : Int32) t0 (by decide) (by decide)) t0 rv_8 kv_X4_put ml_X4_56 (tRm_ok (by omega) (by omega)) rfl hl.1 rfl (Nat.le_of_ble_eq_true rfl) ⟨Nat.zero_le _, Nat.zero_le _⟩ dX4_write_63) (fun F33 H locs pr32 hG => ?_)
          have E := E.f1 (F' := F33)
          have hSt := hSt.f1 (F' := F33)
          replace pr32 : PRI h0 Fc F33 [(42 : Int32).toInt] := pr32
          have k34 := kI_42
          have ur32 := PRI.trans hex20.1 pr32
          refine lv_aload_n hx hb dX4_write_66 rfl (lv_at hl 0 rfl) ?_
          refine lv_aload_n hx hb dX4_write_67 rfl (lv_at hl 1 rfl) ?_
          refine tc_getF E hG t1 fi_X4_68 rfl dX4_write_68 (fun z35 lz35 uz35 wz35 => ?_)
          replace wz35 : z35 = F33 h1 7 := wz35
          replace wz35 : z35 = F h1 7 := by rw [wz35, pr32.2.2 _ _ (by omega), hex20.1.2.2 _ _ (by omega)]
          have cz35 : z35.toInt = (F h1 7).toInt := by rw [wz35]
          refine tc_callvF hG (tc_runV (As := [.int z35]) (rest := []) E hSt hG (x_X4_putNumber l G F33 τ h0 z35 t0 (by omega) (by omega)) t0 rv_8 kv_X4_putNumber ml_X4_64 (tRm_ok (by omega) (by omega)) rfl hl.1 rfl (Nat.le_of_ble_eq_true rfl) ⟨Nat.zero_le _, Nat.zero_le _⟩ dX4_write_71) (fun F37 H locs pr36 hG => ?_)
          have E := E.f1 (F' := F37)
          have hSt := hSt.f1 (F' := F37)
          replace pr36 : PRI h0 F33 F37 (numL z35.toInt) := pr36
          have ur36 := PRI.trans ur32 pr36
          refine lv_iconst (v := 0) hx hb dX4_write_74 (by decide) ?_
          refine lv_istore_n (lv' := [(3, .int 0), (0, .ref h0), (1, .ref h1), (2, .int x2)]) hx hb dX4_write_75 rfl hl (by decide) rfl (fun ls hl => ?_)
          exact J76 ((8 - (0 : Int32).toInt).toNat + 1) F37 H locs ls (0 : Int32) hG (lv_sub hl [1, 2, 3, 0] rfl) (by omega) (by decide) (by decide) (by exact ⟨(by rw [show (0 : Int32).toInt.toNat = 0 from by decide]; exact own_s ur36 kq1 rfl (by omega) kI_42 (by rw [kq6]; exact cz35) (by rw [kq6]; omega)), (by have k0 := kI_0; omega)⟩) (Nat.lt_succ_self _)
      · skip
        have ic29 := tn_nle rfl rfl c29
        refine lv_aload_n hx hb dX4_write_31 rfl (lv_at hl 0 rfl) ?_
        refine lv_bipush (v := 32) hx hb dX4_write_32 (by decide) ?_
        refine tc_callvF hG (tc_runV (As := [.int 32]) (rest := []) E hSt hG (x_X4_put l G Fc τ h0 (32 : Int32) t0 (by decide) (by decide)) t0 rv_8 kv_X4_put ml_X4_56 (tRm_ok (by omega) (by omega)) rfl hl.1 rfl (Nat.le_of_ble_eq_true rfl) ⟨Nat.zero_le _, Nat.zero_le _⟩ dX4_write_34) (fun F39 H locs pr38 hG => ?_)
        have E := E.f1 (F' := F39)
        have hSt := hSt.f1 (F' := F39)
        replace pr38 : PRI h0 Fc F39 [(32 : Int32).toInt] := pr38
        have k40 := kI_32
        have ur38 := PRI.trans hex20.1 pr38
        refine lv_aload_n hx hb dX4_write_37 rfl (lv_at hl 0 rfl) ?_
        refine lv_aload_n hx hb dX4_write_38 rfl (lv_at hl 1 rfl) ?_
        refine tc_getrF (d := 1) E hG t1 fr_X4_60 rfl dX4_write_39 (fun ha41 => ?_)
        refine lv_iload_n hx hb dX4_write_42 rfl (lv_at hl 3 rfl) ?_
        refine tc_ialdF E hG ha41 ta_11 rfl (t_in (by omega) (by omega)) dX4_write_43 (fun z42 lz42 uz42 wz42 => ?_)
        replace wz42 : z42 = F39 (h1 + 1) v3.toNatClampNeg := wz42
        replace wz42 : z42 = F (h1 + 1) v3.toNatClampNeg := by rw [wz42, pr38.2.2 _ _ (by omega), hex20.1.2.2 _ _ (by omega)]
        have cz42 : z42.toInt = (F (h1 + 1) v3.toNatClampNeg).toInt := by rw [wz42]
        have qz42 := r4 v3.toNatClampNeg (by show v3.toInt.toNat < 4; omega)
        refine tc_callvF hG (tc_runV (As := [.int z42]) (rest := []) E hSt hG (x_X4_putNumber l G F39 τ h0 z42 t0 (by omega) (by omega)) t0 rv_8 kv_X4_putNumber ml_X4_64 (tRm_ok (by omega) (by omega)) rfl hl.1 rfl (Nat.le_of_ble_eq_true rfl) ⟨Nat.zero_le _, Nat.zero_le _⟩ dX4_write_44) (fun F44 H locs pr43 hG => ?_)
        have E := E.f1 (F' := F44)
        have hSt := hSt.f1 (F' := F44)
        replace pr43 : PRI h0 F39 F44 (numL z42.toInt) := pr43
        have ur43 := PRI.trans ur38 pr43
        obtain ⟨z45, ez45⟩ : ∃ y : Int32, y = v3 + (1) := ⟨_, rfl⟩
        refine lv_iinc (v := z45) (lv' := [(3, .int z45), (0, .ref h0), (1, .ref h1), (2, .int x2)]) hx hb dX4_write_47 hl (k := 3) rfl (by rw [ez45]; rfl) (by decide) rfl (fun ls hl => ?_)
        have tz45 := tn_add ez45 rfl kI_1 (by omega) (by omega)
        refine lv_goto (tgt := 20) hx hb dX4_write_50 (by decide) ?_
        exact ih20 F44 H locs ls z45 hG (lv_sub hl [1, 2, 3, 0] rfl) (by omega) (by omega) (by omega) (by exact ⟨nms_s ur43 kI_32 (by omega) (by rw [kq4 v3.toInt.toNat (by omega)]; exact cz42), (by omega)⟩) (by omega)
  refine lv_iload_n hx hb dX4_write_0 rfl (lv_at hl 2 rfl) ?_
  refine lv_bipush (v := 24) hx hb dX4_write_1 (by decide) ?_
  refine lv_icmp_lt (tgt := 7) hx hb dX4_write_3 (by decide) (fun c46 => ?_) (fun c46 => ?_)
  · skip
    have ic46 := tn_lt rfl kI_24 c46
    refine lv_aload_n hx hb dX4_write_7 rfl (lv_at hl 0 rfl) ?_
    refine lv_aload_n hx hb dX4_write_8 rfl (lv_at hl 1 rfl) ?_
    refine tc_getF E hG t1 fi_X4_37 rfl dX4_write_9 (fun z47 lz47 uz47 wz47 => ?_)
    replace wz47 : z47 = F h1 4 := wz47
    have cz47 : z47.toInt = (F h1 4).toInt := by rw [wz47]
    refine tc_callpr (tc_runS (As := [.int z47]) (rest := [.ref h0]) E hSt hG (x_X1_nameOf l (gF G F) τ z47 (by omega) (by omega)) ks_X1_nameOf ml_X4_42 (tRm_ok (by omega) (by omega)) rfl hl.1 rfl (Nat.le_of_ble_eq_true rfl) ⟨Nat.zero_le _, Nat.zero_le _⟩ dX4_write_12) (fun r48 pr48 => ?_)
    obtain ⟨kr48, hkr48, rfl⟩ := pr48
    obtain ⟨hkr48, nkr48⟩ := hkr48
    refine tc_callvF hG (tc_runV (As := [.ref (G.2.2.2.1 kr48)]) (rest := []) E hSt hG (x_X4_putWord l G F τ h0 kr48 t0 hkr48 hr9) t0 rv_8 kv_X4_putWord ml_X4_48 (tRm_ok (by omega) (by omega)) rfl hl.1 rfl (Nat.le_of_ble_eq_true rfl) ⟨Nat.zero_le _, Nat.zero_le _⟩ dX4_write_15) (fun F50 H locs pr49 hG => ?_)
    have E := E.f1 (F' := F50)
    have hSt := hSt.f1 (F' := F50)
    replace pr49 : PRI h0 F F50 (nmU kr48 (tXl.getD kr48 0)) := pr49
    have ur49 := pr49
    refine lv_iconst (v := 0) hx hb dX4_write_18 (by decide) ?_
    refine lv_istore_n (lv' := [(3, .int 0), (0, .ref h0), (1, .ref h1), (2, .int x2)]) hx hb dX4_write_19 rfl hl (by decide) rfl (fun ls hl => ?_)
    exact J20 ((4 - (0 : Int32).toInt).toNat + 1) F50 H locs ls (0 : Int32) hG (lv_sub hl [1, 2, 3, 0] rfl) (by omega) (by decide) (by decide) (by refine ⟨PRI_eq ur49 ?_, (by have := nNum_r (F h1 4).toInt; have k0 := kI_0; omega)⟩; rw [show kr48 = (F h1 4).toInt.toNat by omega, show (0 : Int32).toInt.toNat = 0 from by decide]; exact (List.append_nil _).symm) (Nat.lt_succ_self _)
  · skip
    have ic46 := tn_nlt rfl kI_24 c46
    exact tc_vretF E hr hlk hG (by rw [show (24 - x2.toInt).toNat = 0 by omega]; exact PRI.refl hr9) dX4_write_6
