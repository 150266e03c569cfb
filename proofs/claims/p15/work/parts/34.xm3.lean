def P_ask (d : Nat) (τ : Nat → Nat) (l : Launch) (G : tG) : Prop := ∀ (F : mF) (h0 : Nat) (h1 : Nat) (x2 : Int32) (x3 : Int32) (t0 : τ h0 = 5) (t1 : τ h1 = 3) (l2 : 0 ≤ x2.toInt) (u2 : x2.toInt ≤ 1) (l3 : 0 ≤ x3.toInt) (u3 : x3.toInt ≤ 23) (hd : (24 - x3.toInt).toNat < d) (hU : ∀ q, τ q = 2 → q = (G.2.2.1 10)) (hK : AKF F (G.2.2.1 10)) (hC : CINV F (G.2.2.1 10)) (hb9 : ∃ n : Nat, n ≤ 23 ∧ tB (F (G.2.2.1 10) 4) n ∧ h1 = (G.2.2.1 10) + 1 + (3 + 4 * n) ∧ x3.toInt ≤ ↑n), Met l yX3_askedOf (.code yX3_askedOf cX3_askedOf 5 (some .int) :: tWS) (tRm (3 * d + 4) (74 * d + 120)) (va_Pc [.ref h0, .ref h1, .int x2, .int x3] (tPre (gF G F) τ)) (tQF G τ (fun r F9 => ASK F F9 (G.2.2.1 10) h1 x2.toInt r.toInt)) 0 0 (tA τ)
set_option maxHeartbeats 4000000 in
set_option maxRecDepth 100000 in
theorem x_X3_greatestOfKids (l : Launch) (G : tG) (F : mF) (τ : Nat → Nat) (h0 : Nat) (h1 : Nat) (x2 : Int32) (x3 : Int32) (t0 : τ h0 = 5) (t1 : τ h1 = 3) (l2 : 0 ≤ x2.toInt) (u2 : x2.toInt ≤ 1) (l3 : 0 ≤ x3.toInt) (u3 : x3.toInt ≤ 23) (d : Nat) (ih : P_ask d τ l G) (hd : (24 - x3.toInt).toNat < d + 1) (hU : ∀ q, τ q = 2 → q = (G.2.2.1 10)) (hK : AKF F (G.2.2.1 10)) (hC : CINV F (G.2.2.1 10)) (hb9 : ∃ n : Nat, n ≤ 23 ∧ tB (F (G.2.2.1 10) 4) n ∧ h1 = (G.2.2.1 10) + 1 + (3 + 4 * n) ∧ x3.toInt ≤ ↑n) : Met l yX3_greatestOfKids (.code yX3_greatestOfKids cX3_greatestOfKids 6 (some .int) :: tWS) (tRm (3 * d + 5) (74 * d + 144)) (va_Pc [.ref h0, .ref h1, .int x2, .int x3] (tPre (gF G F) τ)) (tQF G τ (fun r F9 => GKq F F9 (G.2.2.1 10) h1 x2.toInt r.toInt)) 0 0 (tA τ) := by
  refine tc_met (by decide) (Nat.le_of_ble_eq_true rfl) ?_
  intro p e s m below meth c E hSt hr hlk hG ls hl
  have hl : lv_has ls 6 [(0, .ref h0), (1, .ref h1), (2, .int x2), (3, .int x3)] := hl
  have hx := E.1
  have hb := E.2.1
  obtain ⟨H, eH⟩ : ∃ H, H = s.heap := ⟨_, rfl⟩
  obtain ⟨locs, eL⟩ : ∃ x : List Loc, x = [] := ⟨_, rfl⟩
  have hG : tGH (gF G F) τ s H locs := by rw [eH, eL]; exact hG
  suffices hW : W p l e (tRm (3 * d + 5) (74 * d + 144)) s m ([.ref h0, .ref h1, .int x2, .int x3] : List Value).toArray below meth c H locs 0 0 (MQ below (tQF G τ (fun r F9 => GKq F F9 (G.2.2.1 10) h1 x2.toInt r.toInt)) ([.ref h0, .ref h1, .int x2, .int x3] : List Value).toArray s 0 0 (tA τ)) (F0 m 0 ls []) by subst eH; subst eL; exact hW
  clear eH eL
  obtain ⟨n9, hn9, hA9, en9, hd9⟩ := id hb9
  obtain ⟨r1, r2, r3, r4, r5, r6⟩ := hK n9 hn9 hA9
  rw [← en9] at r1 r2 r3 r4 r5 r6
  obtain ⟨kq1, kq7, kq8, kq9, kq10, kq4, kq11⟩ := kT_at (F := F) hn9 en9
  have ebn := bn_eq en9
  have ek : kT F (G.2.2.1 10) (bn (G.2.2.1 10) h1) 1 = (F h1 4).toInt := by rw [ebn]; exact kq1
  have ea : kT F (G.2.2.1 10) (bn (G.2.2.1 10) h1) 2 = (F (h1 + 1) 0).toInt := by rw [ebn]; exact kq4 0 (by decide)
  have eb : kT F (G.2.2.1 10) (bn (G.2.2.1 10) h1) 3 = (F (h1 + 1) 1).toInt := by rw [ebn]; exact kq4 1 (by decide)
  have J6 : ∀ (n6 : Nat) (Fc : mF) (H : Heap) (locs : List Loc) (ls : Array Slot) (v4 : Int32) (v5 : Int32), tGH (gF G Fc) τ s H locs → lv_has ls 6 [(0, .ref h0), (1, .ref h1), (2, .int x2), (3, .int x3), (4, .int v4), (5, .int v5)] → 0 ≤ v4.toInt → v4.toInt ≤ 13600 → 0 ≤ v5.toInt → v5.toInt ≤ 8 → (GKL F Fc (G.2.2.1 10) n9 x2.toInt v5.toInt.toNat ∧ v4.toInt = mxI (kdA F (G.2.2.1 10) n9 x2.toInt) v5.toInt.toNat ∧ v5.toInt ≤ (F h1 10).toInt) → (8 - v5.toInt).toNat < n6 → W p l e (tRm (3 * d + 5) (74 * d + 144)) s m ([.ref h0, .ref h1, .int x2, .int x3] : List Value).toArray below meth c H locs 0 0 (MQ below (tQF G τ (fun r F9 => GKq F F9 (G.2.2.1 10) h1 x2.toInt r.toInt)) ([.ref h0, .ref h1, .int x2, .int x3] : List Value).toArray s 0 0 (tA τ)) (F0 m 6 ls []) := by
    intro n6
    induction n6 with
    | zero => intro Fc H locs ls v4 v5 hG hl b4 c4 b5 c5 hex6 hn6; exact absurd hn6 (Nat.not_lt_zero _)
    | succ n6 ih6 =>
      intro Fc H locs ls v4 v5 hG hl b4 c4 b5 c5 hex6 hn6
      have E := E.f1 (F' := Fc)
      have hSt := hSt.f1 (F' := Fc)
      refine lv_iload hx hb dX3_greatestOfKids_6 (lv_at hl 5 rfl) ?_
      refine lv_aload_n hx hb dX3_greatestOfKids_8 rfl (lv_at hl 1 rfl) ?_
      refine tc_getF E hG t1 fi_X3_144 rfl dX3_greatestOfKids_9 (fun z1 lz1 uz1 wz1 => ?_)
      replace wz1 : z1 = Fc h1 10 := wz1
      replace wz1 : z1 = F h1 10 := by rw [wz1, hex6.1.1.1 _ _ (by omega)]
      have cz1 : z1.toInt = (F h1 10).toInt := by rw [wz1]
      refine lv_icmp_ge (tgt := 46) hx hb dX3_greatestOfKids_12 (by decide) (fun c2 => ?_) (fun c2 => ?_)
      · skip
        have ic2 := tn_le rfl rfl c2
        refine lv_iload hx hb dX3_greatestOfKids_46 (lv_at hl 4 rfl) ?_
        exact tc_iretF E hr hlk hG rfl (GKq_of en9 hex6.1 (by rw [kq10]; omega) hex6.2.1) dX3_greatestOfKids_48
      · skip
        have ic2 := tn_nle rfl rfl c2
        refine lv_iload hx hb dX3_greatestOfKids_15 (lv_at hl 4 rfl) ?_
        refine lv_aload_n hx hb dX3_greatestOfKids_17 rfl (lv_at hl 0 rfl) ?_
        refine lv_aload_n hx hb dX3_greatestOfKids_18 rfl (lv_at hl 0 rfl) ?_
        refine tc_getr E hG t0 fr_X3_9 dX3_greatestOfKids_19 (fun oa3 hoa3 => ?_)
        obtain rfl := hU _ hoa3
        refine lv_aload_n hx hb dX3_greatestOfKids_22 rfl (lv_at hl 1 rfl) ?_
        refine lv_iload hx hb dX3_greatestOfKids_23 (lv_at hl 5 rfl) ?_
        refine tc_callpr (tc_runV (As := [.ref h1, .int v5]) (rest := [.ref h0, .int v4]) E hSt hG (x_X8_kidOf l (gF G Fc) τ (G.2.2.1 10) h1 v5 hoa3 t1 (by omega) (by omega)) hoa3 rv_2 kv_X8_kidOf ml_X3_147 (tRm_ok (by omega) (by omega)) rfl hl.1 rfl (Nat.le_of_ble_eq_true rfl) ⟨Nat.zero_le _, Nat.zero_le _⟩ dX3_greatestOfKids_25) (fun r4 pr4 => ?_)
        replace pr4 : τ r4 = 3 ∧ r4 = ((G.2.2.1 10) + 1 + (3 + 4 * (Fc (h1 + 2) v5.toNatClampNeg).toNatClampNeg)) := pr4
        rw [hex6.1.1.1 _ _ (by omega)] at pr4
        obtain ⟨pr4, er4⟩ := pr4
        subst er4
        refine lv_iload_n hx hb dX3_greatestOfKids_28 rfl (lv_at hl 2 rfl) ?_
        refine lv_iload_n hx hb dX3_greatestOfKids_29 rfl (lv_at hl 3 rfl) ?_
        refine lv_iconst (v := 1) hx hb dX3_greatestOfKids_30 (by decide) ?_
        refine lv_iadd hx hb dX3_greatestOfKids_31 ?_
        refine lv_topi (fun z5 ez5 => ?_)
        have tz5 := tn_add ez5 rfl kI_1 (by omega) (by omega)
        obtain ⟨kn0, kn1, kn2⟩ := r6 v5.toNatClampNeg (by show ((v5.toInt.toNat : Nat) : Int) < _; omega)
        have kn9 : (((F (h1 + 2) v5.toNatClampNeg).toNatClampNeg : Nat) : Int) = (F (h1 + 2) v5.toNatClampNeg).toInt := by show (((F (h1 + 2) v5.toNatClampNeg).toInt.toNat : Nat) : Int) = _; omega
        have pk9 : v5.toNatClampNeg = v5.toInt.toNat := rfl
        refine tc_calliF hG (tc_runV (As := [.ref ((G.2.2.1 10) + 1 + (3 + 4 * (F (h1 + 2) v5.toNatClampNeg).toNatClampNeg)), .int x2, .int z5]) (rest := [.int v4]) E hSt hG (ih Fc h0 ((G.2.2.1 10) + 1 + (3 + 4 * (F (h1 + 2) v5.toNatClampNeg).toNatClampNeg)) x2 z5 t0 pr4 (by omega) (by omega) (by omega) (by omega) (by omega) hU (AKF_fr hex6.1.1.1 hK) hex6.1.2.1 ⟨_, (by omega), (by rw [hex6.1.1.1 (G.2.2.1 10) 4 (by omega)]; exact kn2), rfl, (by omega)⟩) t0 rv_5 kv_X3_askedOf ml_X3_191 (tRm_ok (by omega) (by omega)) rfl hl.1 rfl (Nat.le_of_ble_eq_true rfl) ⟨Nat.zero_le _, Nat.zero_le _⟩ dX3_greatestOfKids_32) (fun r6 F7 H locs pr6 hG => ?_)
        have E := E.f1 (F' := F7)
        have hSt := hSt.f1 (F' := F7)
        replace pr6 : ASK Fc F7 (G.2.2.1 10) ((G.2.2.1 10) + 1 + (3 + 4 * (F (h1 + 2) v5.toNatClampNeg).toNatClampNeg)) x2.toInt r6.toInt := pr6
        obtain ⟨gkr6, grr6⟩ := GKL_s (i := v5.toInt.toNat) (i' := v5.toInt.toNat + 1) hex6.1 hn9 en9 (k := F (h1 + 2) v5.toNatClampNeg) rfl (by omega) rfl rfl pr6
        have gbr6 := kdA_bd (wh := x2.toInt) (i := v5.toInt.toNat) hK hn9 hA9 (by rw [kq10]; omega)
        rw [← grr6] at gbr6
        refine tc_max (rest := []) E hl.1 ml_X3_155 kn_max1 kn_math kn_max2 ⟨tMx1 (by omega), tMx2 (k := 0) rfl (by omega)⟩ ⟨Nat.zero_le _, Nat.zero_le _⟩ dX3_greatestOfKids_35 (fun z8 ez8 => ?_)
        have tz8 := tn_max ez8
        refine lv_istore (lv' := [(4, .int z8), (0, .ref h0), (1, .ref h1), (2, .int x2), (3, .int x3), (5, .int v5)]) hx hb dX3_greatestOfKids_38 hl (by decide) rfl (fun ls hl => ?_)
        obtain ⟨z9, ez9⟩ : ∃ y : Int32, y = v5 + (1) := ⟨_, rfl⟩
        refine lv_iinc (v := z9) (lv' := [(5, .int z9), (4, .int z8), (0, .ref h0), (1, .ref h1), (2, .int x2), (3, .int x3)]) hx hb dX3_greatestOfKids_40 hl (k := 5) rfl (by rw [ez9]; rfl) (by decide) rfl (fun ls hl => ?_)
        have tz9 := tn_add ez9 rfl kI_1 (by omega) (by omega)
        refine lv_goto (tgt := 6) hx hb dX3_greatestOfKids_43 (by decide) ?_
        exact ih6 F7 H locs ls z8 z9 hG (lv_sub hl [2, 3, 4, 5, 1, 0] rfl) (by omega) (by omega) (by omega) (by omega) (by rw [show z9.toInt.toNat = v5.toInt.toNat + 1 by omega]; refine ⟨gkr6, ?_, by omega⟩; show _ = if mxI (kdA F (G.2.2.1 10) n9 x2.toInt) v5.toInt.toNat < kdA F (G.2.2.1 10) n9 x2.toInt v5.toInt.toNat then kdA F (G.2.2.1 10) n9 x2.toInt v5.toInt.toNat else mxI (kdA F (G.2.2.1 10) n9 x2.toInt) v5.toInt.toNat; rw [← grr6]; split <;> omega) (by omega)
  refine lv_iconst (v := 0) hx hb dX3_greatestOfKids_0 (by decide) ?_
  refine lv_istore (lv' := [(4, .int 0), (0, .ref h0), (1, .ref h1), (2, .int x2), (3, .int x3)]) hx hb dX3_greatestOfKids_1 hl (by decide) rfl (fun ls hl => ?_)
  refine lv_iconst (v := 0) hx hb dX3_greatestOfKids_3 (by decide) ?_
  refine lv_istore (lv' := [(5, .int 0), (4, .int 0), (0, .ref h0), (1, .ref h1), (2, .int x2), (3, .int x3)]) hx hb dX3_greatestOfKids_4 hl (by decide) rfl (fun ls hl => ?_)
  exact J6 ((8 - (0 : Int32).toInt).toNat + 1) F H locs ls (0 : Int32) (0 : Int32) hG (lv_sub hl [2, 3, 4, 5, 1, 0] rfl) (by decide) (by decide) (by decide) (by decide) (by have k0 := kI_0; refine ⟨GKL_0 hC, ?_, by omega⟩; rw [show (0 : Int32).toInt.toNat = 0 from by decide]; exact kI_0) (Nat.lt_succ_self _)

set_option maxHeartbeats 4000000 in
set_option maxRecDepth 100000 in
theorem x_X3_kidsTogether (l : Launch) (G : tG) (F : mF) (τ : Nat → Nat) (h0 : Nat) (h1 : Nat) (x2 : Int32) (x3 : Int32) (t0 : τ h0 = 5) (t1 : τ h1 = 3) (l2 : 0 ≤ x2.toInt) (u2 : x2.toInt ≤ 1) (l3 : 0 ≤ x3.toInt) (u3 : x3.toInt ≤ 23) (d : Nat) (ih : P_ask d τ l G) (hd : (24 - x3.toInt).toNat < d + 1) (hU : ∀ q, τ q = 2 → q = (G.2.2.1 10)) (hK : AKF F (G.2.2.1 10)) (hC : CINV F (G.2.2.1 10)) (hb9 : ∃ n : Nat, n ≤ 23 ∧ tB (F (G.2.2.1 10) 4) n ∧ h1 = (G.2.2.1 10) + 1 + (3 + 4 * n) ∧ x3.toInt ≤ ↑n) : Met l yX3_kidsTogether (.code yX3_kidsTogether cX3_kidsTogether 7 (some .int) :: tWS) (tRm (3 * d + 5) (74 * d + 144)) (va_Pc [.ref h0, .ref h1, .int x2, .int x3] (tPre (gF G F) τ)) (tQF G τ (fun r F9 => KTq F F9 (G.2.2.1 10) h1 x2.toInt r.toInt)) 0 0 (tA τ) := by
  refine tc_met (by decide) (Nat.le_of_ble_eq_true rfl) ?_
  intro p e s m below meth c E hSt hr hlk hG ls hl
  have hl : lv_has ls 7 [(0, .ref h0), (1, .ref h1), (2, .int x2), (3, .int x3)] := hl
  have hx := E.1
  have hb := E.2.1
  obtain ⟨H, eH⟩ : ∃ H, H = s.heap := ⟨_, rfl⟩
  obtain ⟨locs, eL⟩ : ∃ x : List Loc, x = [] := ⟨_, rfl⟩
  have hG : tGH (gF G F) τ s H locs := by rw [eH, eL]; exact hG
  suffices hW : W p l e (tRm (3 * d + 5) (74 * d + 144)) s m ([.ref h0, .ref h1, .int x2, .int x3] : List Value).toArray below meth c H locs 0 0 (MQ below (tQF G τ (fun r F9 => KTq F F9 (G.2.2.1 10) h1 x2.toInt r.toInt)) ([.ref h0, .ref h1, .int x2, .int x3] : List Value).toArray s 0 0 (tA τ)) (F0 m 0 ls []) by subst eH; subst eL; exact hW
  clear eH eL
  obtain ⟨n9, hn9, hA9, en9, hd9⟩ := id hb9
  obtain ⟨r1, r2, r3, r4, r5, r6⟩ := hK n9 hn9 hA9
  rw [← en9] at r1 r2 r3 r4 r5 r6
  obtain ⟨kq1, kq7, kq8, kq9, kq10, kq4, kq11⟩ := kT_at (F := F) hn9 en9
  have ebn := bn_eq en9
  have ek : kT F (G.2.2.1 10) (bn (G.2.2.1 10) h1) 1 = (F h1 4).toInt := by rw [ebn]; exact kq1
  have ea : kT F (G.2.2.1 10) (bn (G.2.2.1 10) h1) 2 = (F (h1 + 1) 0).toInt := by rw [ebn]; exact kq4 0 (by decide)
  have eb : kT F (G.2.2.1 10) (bn (G.2.2.1 10) h1) 3 = (F (h1 + 1) 1).toInt := by rw [ebn]; exact kq4 1 (by decide)
  have J22 : ∀ (n22 : Nat) (Fc : mF) (H : Heap) (locs : List Loc) (ls : Array Slot) (v4 : Int32) (v5 : Int32), tGH (gF G Fc) τ s H locs → lv_has ls 7 [(0, .ref h0), (1, .ref h1), (2, .int x2), (3, .int x3), (4, .int v4), (5, .int v5)] → 0 ≤ v4.toInt → v4.toInt ≤ 8693 → 0 ≤ v5.toInt → v5.toInt ≤ 8 → (GKL F Fc (G.2.2.1 10) n9 x2.toInt v5.toInt.toNat ∧ v4.toInt = gpI (kT F (G.2.2.1 10) (n9 : Int) 10) (kT F (G.2.2.1 10) (n9 : Int) 3) + sumI (kdH F (G.2.2.1 10) n9 x2.toInt) v5.toInt.toNat ∧ v5.toInt ≤ (F h1 10).toInt ∧ v4.toInt ≤ 693 + 1000 * v5.toInt) → (8 - v5.toInt).toNat < n22 → W p l e (tRm (3 * d + 5) (74 * d + 144)) s m ([.ref h0, .ref h1, .int x2, .int x3] : List Value).toArray below meth c H locs 0 0 (MQ below (tQF G τ (fun r F9 => KTq F F9 (G.2.2.1 10) h1 x2.toInt r.toInt)) ([.ref h0, .ref h1, .int x2, .int x3] : List Value).toArray s 0 0 (tA τ)) (F0 m 22 ls []) := by
    intro n22
    induction n22 with
    | zero => intro Fc H locs ls v4 v5 hG hl b4 c4 b5 c5 hex22 hn22; exact absurd hn22 (Nat.not_lt_zero _)
    | succ n22 ih22 =>
      intro Fc H locs ls v4 v5 hG hl b4 c4 b5 c5 hex22 hn22
      have E := E.f1 (F' := Fc)
      have hSt := hSt.f1 (F' := Fc)
      refine lv_iload hx hb dX3_kidsTogether_22 (lv_at hl 5 rfl) ?_
      refine lv_aload_n hx hb dX3_kidsTogether_24 rfl (lv_at hl 1 rfl) ?_
      refine tc_getF E hG t1 fi_X3_144 rfl dX3_kidsTogether_25 (fun z1 lz1 uz1 wz1 => ?_)
      replace wz1 : z1 = Fc h1 10 := wz1
      replace wz1 : z1 = F h1 10 := by rw [wz1, hex22.1.1.1 _ _ (by omega)]
      have cz1 : z1.toInt = (F h1 10).toInt := by rw [wz1]
      refine lv_icmp_ge (tgt := 80) hx hb dX3_kidsTogether_28 (by decide) (fun c2 => ?_) (fun c2 => ?_)
      · skip
        have ic2 := tn_le rfl rfl c2
        refine lv_iload hx hb dX3_kidsTogether_80 (lv_at hl 4 rfl) ?_
        exact tc_iretF E hr hlk hG rfl (KTq_of en9 hex22.1 (by rw [kq10]; omega) hex22.2.1) dX3_kidsTogether_82
      · skip
        have ic2 := tn_nle rfl rfl c2
        refine lv_aload_n hx hb dX3_kidsTogether_31 rfl (lv_at hl 0 rfl) ?_
        refine tc_getr E hG t0 fr_X3_9 dX3_kidsTogether_32 (fun oa3 hoa3 => ?_)
        obtain rfl := hU _ hoa3
        refine lv_aload_n hx hb dX3_kidsTogether_35 rfl (lv_at hl 1 rfl) ?_
        refine lv_iload hx hb dX3_kidsTogether_36 (lv_at hl 5 rfl) ?_
        refine tc_callpr (tc_runV (As := [.ref h1, .int v5]) (rest := []) E hSt hG (x_X8_kidOf l (gF G Fc) τ (G.2.2.1 10) h1 v5 hoa3 t1 (by omega) (by omega)) hoa3 rv_2 kv_X8_kidOf ml_X3_147 (tRm_ok (by omega) (by omega)) rfl hl.1 rfl (Nat.le_of_ble_eq_true rfl) ⟨Nat.zero_le _, Nat.zero_le _⟩ dX3_kidsTogether_38) (fun r4 pr4 => ?_)
        replace pr4 : τ r4 = 3 ∧ r4 = ((G.2.2.1 10) + 1 + (3 + 4 * (Fc (h1 + 2) v5.toNatClampNeg).toNatClampNeg)) := pr4
        rw [hex22.1.1.1 _ _ (by omega)] at pr4
        obtain ⟨pr4, er4⟩ := pr4
        subst er4
        refine lv_astore (lv' := [(6, .ref ((G.2.2.1 10) + 1 + (3 + 4 * (F (h1 + 2) v5.toNatClampNeg).toNatClampNeg))), (0, .ref h0), (1, .ref h1), (2, .int x2), (3, .int x3), (4, .int v4), (5, .int v5)]) hx hb dX3_kidsTogether_41 hl (by decide) rfl (fun ls hl => ?_)
        refine lv_iload hx hb dX3_kidsTogether_43 (lv_at hl 5 rfl) ?_
        refine lv_aload_n hx hb dX3_kidsTogether_45 rfl (lv_at hl 1 rfl) ?_
        refine lv_aload hx hb dX3_kidsTogether_46 (lv_at hl 0 rfl) ?_
        refine lv_iload_n hx hb dX3_kidsTogether_48 rfl (lv_at hl 3 rfl) ?_
        refine lv_iload_n hx hb dX3_kidsTogether_49 rfl (lv_at hl 4 rfl) ?_
        refine lv_iconst (v := 1) hx hb dX3_kidsTogether_50 (by decide) ?_
        refine lv_iadd hx hb dX3_kidsTogether_51 ?_
        refine lv_topi (fun z5 ez5 => ?_)
        have tz5 := tn_add ez5 rfl kI_1 (by omega) (by omega)
        obtain ⟨kn0, kn1, kn2⟩ := r6 v5.toNatClampNeg (by show ((v5.toInt.toNat : Nat) : Int) < _; omega)
        have kn9 : (((F (h1 + 2) v5.toNatClampNeg).toNatClampNeg : Nat) : Int) = (F (h1 + 2) v5.toNatClampNeg).toInt := by show (((F (h1 + 2) v5.toNatClampNeg).toInt.toNat : Nat) : Int) = _; omega
        have pk9 : v5.toNatClampNeg = v5.toInt.toNat := rfl
        refine tc_calliF hG (tc_runV (As := [.ref ((G.2.2.1 10) + 1 + (3 + 4 * (F (h1 + 2) v5.toNatClampNeg).toNatClampNeg)), .int x2, .int z5]) (rest := [.int v4]) E hSt hG (ih Fc h0 ((G.2.2.1 10) + 1 + (3 + 4 * (F (h1 + 2) v5.toNatClampNeg).toNatClampNeg)) x2 z5 t0 pr4 (by omega) (by omega) (by omega) (by omega) (by omega) hU (AKF_fr hex22.1.1.1 hK) hex22.1.2.1 ⟨_, (by omega), (by rw [hex22.1.1.1 (G.2.2.1 10) 4 (by omega)]; exact kn2), rfl, (by omega)⟩) t0 rv_5 kv_X3_askedOf ml_X3_191 (tRm_ok (by omega) (by omega)) rfl hl.1 rfl (Nat.le_of_ble_eq_true rfl) ⟨Nat.zero_le _, Nat.zero_le _⟩ dX3_kidsTogether_52) (fun r6 F7 H locs pr6 hG => ?_)
        have E := E.f1 (F' := F7)
        have hSt := hSt.f1 (F' := F7)
        replace pr6 : ASK Fc F7 (G.2.2.1 10) ((G.2.2.1 10) + 1 + (3 + 4 * (F (h1 + 2) v5.toNatClampNeg).toNatClampNeg)) x2.toInt r6.toInt := pr6
        obtain ⟨gkr6, grr6⟩ := GKL_s (i := v5.toInt.toNat) (i' := v5.toInt.toNat + 1) hex22.1 hn9 en9 (k := F (h1 + 2) v5.toNatClampNeg) rfl (by omega) rfl rfl pr6
        have gbr6 := kdA_bd (wh := x2.toInt) (i := v5.toInt.toNat) hK hn9 hA9 (by rw [kq10]; omega)
        rw [← grr6] at gbr6
        refine lv_aload hx hb dX3_kidsTogether_55 (lv_at hl 0 rfl) ?_
        obtain ⟨-, kr2, kr3, -⟩ := hK (F (h1 + 2) v5.toNatClampNeg).toNatClampNeg (by omega) kn2
        refine tc_getF E hG pr4 fi_X3_237 rfl dX3_kidsTogether_57 (fun z8 lz8 uz8 wz8 => ?_)
        replace wz8 : z8 = F7 ((G.2.2.1 10) + 1 + (3 + 4 * (F (h1 + 2) v5.toNatClampNeg).toNatClampNeg)) 8 := wz8
        replace wz8 : z8 = F ((G.2.2.1 10) + 1 + (3 + 4 * (F (h1 + 2) v5.toNatClampNeg).toNatClampNeg)) 8 := by rw [wz8, gkr6.1.1 _ _ (by omega)]
        have cz8 : z8.toInt = (F ((G.2.2.1 10) + 1 + (3 + 4 * (F (h1 + 2) v5.toNatClampNeg).toNatClampNeg)) 8).toInt := by rw [wz8]
        refine lv_aload hx hb dX3_kidsTogether_60 (lv_at hl 0 rfl) ?_
        refine tc_getF E hG pr4 fi_X3_240 rfl dX3_kidsTogether_62 (fun z9 lz9 uz9 wz9 => ?_)
        replace wz9 : z9 = F7 ((G.2.2.1 10) + 1 + (3 + 4 * (F (h1 + 2) v5.toNatClampNeg).toNatClampNeg)) 9 := wz9
        replace wz9 : z9 = F ((G.2.2.1 10) + 1 + (3 + 4 * (F (h1 + 2) v5.toNatClampNeg).toNatClampNeg)) 9 := by rw [wz9, gkr6.1.1 _ _ (by omega)]
        have cz9 : z9.toInt = (F ((G.2.2.1 10) + 1 + (3 + 4 * (F (h1 + 2) v5.toNatClampNeg).toNatClampNeg)) 9).toInt := by rw [wz9]
        refine tc_callp (tc_runS (As := [.int z9]) (rest := [.int z8, .int r6, .int v4]) E hSt hG (x_X0_orNoEnd l (gF G F7) τ z9 (by omega) (by omega)) ks_X0_orNoEnd ml_X3_183 (tRm_ok (by omega) (by omega)) rfl hl.1 rfl (Nat.le_of_ble_eq_true rfl) ⟨Nat.zero_le _, Nat.zero_le _⟩ dX3_kidsTogether_65) (fun r10 pr10 => ?_)
        have pr10 : r10.toInt = enI z9.toInt ∧ 0 ≤ r10.toInt ∧ r10.toInt ≤ 1000 := pr10
        refine tc_callp (tc_runN (As := [.int r6, .int z8, .int r10]) (rest := [.int v4]) E hSt hG (x_X9_held l (gF G F7) τ r6 z8 r10 (by omega) (by omega) (by omega) (by omega) (by omega) (by omega)) ks_X9_held (List.mem_of_getElem? (i := 2) rfl) (tRm_ok (by omega) (by omega)) rfl hl.1 rfl (Nat.le_of_ble_eq_true rfl) ⟨Nat.zero_le _, Nat.zero_le _⟩ dX3_kidsTogether_68) (fun r11 pr11 => ?_)
        have pr11 : r11.toInt = hdI r6.toInt z8.toInt r10.toInt ∧ 0 ≤ r11.toInt ∧ r11.toInt ≤ 1000 := pr11
        refine lv_iadd hx hb dX3_kidsTogether_71 ?_
        refine lv_topi (fun z12 ez12 => ?_)
        have tz12 := tn_add ez12 rfl rfl (by omega) (by omega)
        refine lv_istore (lv' := [(4, .int z12), (6, .ref ((G.2.2.1 10) + 1 + (3 + 4 * (F (h1 + 2) v5.toNatClampNeg).toNatClampNeg))), (0, .ref h0), (1, .ref h1), (2, .int x2), (3, .int x3), (5, .int v5)]) hx hb dX3_kidsTogether_72 hl (by decide) rfl (fun ls hl => ?_)
        obtain ⟨z13, ez13⟩ : ∃ y : Int32, y = v5 + (1) := ⟨_, rfl⟩
        refine lv_iinc (v := z13) (lv' := [(5, .int z13), (4, .int z12), (6, .ref ((G.2.2.1 10) + 1 + (3 + 4 * (F (h1 + 2) v5.toNatClampNeg).toNatClampNeg))), (0, .ref h0), (1, .ref h1), (2, .int x2), (3, .int x3)]) hx hb dX3_kidsTogether_74 hl (k := 6) rfl (by rw [ez13]; rfl) (by decide) rfl (fun ls hl => ?_)
        have tz13 := tn_add ez13 rfl kI_1 (by omega) (by omega)
        refine lv_goto (tgt := 22) hx hb dX3_kidsTogether_77 (by decide) ?_
        exact ih22 F7 H locs ls z12 z13 hG (lv_sub hl [3, 4, 5, 6, 1, 0] rfl) (by omega) (by omega) (by omega) (by omega) (by rw [show z13.toInt.toNat = v5.toInt.toNat + 1 by omega]; refine ⟨gkr6, ?_, by omega, by omega⟩; show _ = _ + (sumI (kdH F (G.2.2.1 10) n9 x2.toInt) v5.toInt.toNat + kdH F (G.2.2.1 10) n9 x2.toInt v5.toInt.toNat); rw [kdH_eq (i := v5.toInt.toNat) (k := F (h1 + 2) v5.toNatClampNeg) hn9 en9 rfl (by omega) (by omega) rfl, ← grr6, ← cz8, ← cz9, ← pr10.1, ← pr11.1]; omega) (by omega)
  refine lv_iconst (v := 0) hx hb dX3_kidsTogether_0 (by decide) ?_
  refine lv_aload_n hx hb dX3_kidsTogether_1 rfl (lv_at hl 1 rfl) ?_
  refine tc_getF E hG t1 fi_X3_144 rfl dX3_kidsTogether_2 (fun z14 lz14 uz14 wz14 => ?_)
  replace wz14 : z14 = F h1 10 := wz14
  have cz14 : z14.toInt = (F h1 10).toInt := by rw [wz14]
  refine lv_iconst (v := 1) hx hb dX3_kidsTogether_5 (by decide) ?_
  refine lv_isub hx hb dX3_kidsTogether_6 ?_
  refine lv_topi (fun z15 ez15 => ?_)
  have tz15 := tn_sub ez15 rfl kI_1 (by omega) (by omega)
  refine tc_max (rest := []) E hl.1 ml_X3_155 kn_max1 kn_math kn_max2 ⟨tMx1 (by omega), tMx2 (k := 0) rfl (by omega)⟩ ⟨Nat.zero_le _, Nat.zero_le _⟩ dX3_kidsTogether_7 (fun z16 ez16 => ?_)
  have tz16 := tn_max ez16
  have kk17_ := kI_0
  refine lv_aload_n hx hb dX3_kidsTogether_10 rfl (lv_at hl 1 rfl) ?_
  refine tc_getrF (d := 1) E hG t1 fr_X3_111 rfl dX3_kidsTogether_11 (fun ha18 => ?_)
  refine lv_iconst (v := 1) hx hb dX3_kidsTogether_14 (by decide) ?_
  refine tc_ialdF E hG ha18 ta_11 rfl (t_in (by decide) (by decide)) dX3_kidsTogether_15 (fun z19 lz19 uz19 wz19 => ?_)
  replace wz19 : z19 = F (h1 + 1) 1 := wz19
  have cz19 : z19.toInt = (F (h1 + 1) 1).toInt := by rw [wz19]
  have bz19 : 0 ≤ z19.toInt ∧ z19.toInt ≤ 99 := by rw [cz19]; exact r5 1 (by decide)
  refine lv_imul hx hb dX3_kidsTogether_16 ?_
  refine lv_topi (fun z20 ez20 => ?_)
  obtain ⟨tz20, lz20, uz20⟩ := tn_mulc (a := 7) (b := 99) ez20 (by omega) (by omega) (by omega) (by omega) (by decide)
  refine lv_istore (lv' := [(4, .int z20), (0, .ref h0), (1, .ref h1), (2, .int x2), (3, .int x3)]) hx hb dX3_kidsTogether_17 hl (by decide) rfl (fun ls hl => ?_)
  refine lv_iconst (v := 0) hx hb dX3_kidsTogether_19 (by decide) ?_
  refine lv_istore (lv' := [(5, .int 0), (4, .int z20), (0, .ref h0), (1, .ref h1), (2, .int x2), (3, .int x3)]) hx hb dX3_kidsTogether_20 hl (by decide) rfl (fun ls hl => ?_)
  exact J22 ((8 - (0 : Int32).toInt).toNat + 1) F H locs ls z20 (0 : Int32) hG (lv_sub hl [2, 3, 4, 5, 1, 0] rfl) (by omega) (by omega) (by decide) (by decide) (by have k0 := kI_0; refine ⟨GKL_0 hC, ?_, by omega, by omega⟩; rw [show (0 : Int32).toInt.toNat = 0 from by decide]; show _ = _ + (0 : Int); rw [Int.add_zero, kq10, show kT F (G.2.2.1 10) (n9 : Int) 3 = (F (h1 + 1) 1).toInt from kq4 1 (by decide), ← cz19]; exact gp_of tz20 (by omega) (by omega) (by omega)) (Nat.lt_succ_self _)

set_option maxHeartbeats 4000000 in
set_option maxRecDepth 100000 in
theorem x_X3_figured (l : Launch) (G : tG) (F : mF) (τ : Nat → Nat) (h0 : Nat) (h1 : Nat) (x2 : Int32) (x3 : Int32) (t0 : τ h0 = 5) (t1 : τ h1 = 3) (l2 : 0 ≤ x2.toInt) (u2 : x2.toInt ≤ 1) (l3 : 0 ≤ x3.toInt) (u3 : x3.toInt ≤ 23) (d : Nat) (ih : P_ask d τ l G) (hd : (24 - x3.toInt).toNat < d + 1) (hU : ∀ q, τ q = 2 → q = (G.2.2.1 10)) (hK : AKF F (G.2.2.1 10)) (hC : CINV F (G.2.2.1 10)) (hb9 : ∃ n : Nat, n ≤ 23 ∧ tB (F (G.2.2.1 10) 4) n ∧ h1 = (G.2.2.1 10) + 1 + (3 + 4 * n) ∧ x3.toInt ≤ ↑n) : Met l yX3_figured (.code yX3_figured cX3_figured 5 (some .int) :: tWS) (tRm (3 * d + 6) (74 * d + 170)) (va_Pc [.ref h0, .ref h1, .int x2, .int x3] (tPre (gF G F) τ)) (tQF G τ (fun r F9 => FGq F F9 (G.2.2.1 10) h1 x2.toInt r.toInt)) 0 0 (tA τ) := by
  refine tc_met (by decide) (Nat.le_of_ble_eq_true rfl) ?_
  intro p e s m below meth c E hSt hr hlk hG ls hl
  have hl : lv_has ls 5 [(0, .ref h0), (1, .ref h1), (2, .int x2), (3, .int x3)] := hl
  have hx := E.1
  have hb := E.2.1
  obtain ⟨H, eH⟩ : ∃ H, H = s.heap := ⟨_, rfl⟩
  obtain ⟨locs, eL⟩ : ∃ x : List Loc, x = [] := ⟨_, rfl⟩
  have hG : tGH (gF G F) τ s H locs := by rw [eH, eL]; exact hG
  suffices hW : W p l e (tRm (3 * d + 6) (74 * d + 170)) s m ([.ref h0, .ref h1, .int x2, .int x3] : List Value).toArray below meth c H locs 0 0 (MQ below (tQF G τ (fun r F9 => FGq F F9 (G.2.2.1 10) h1 x2.toInt r.toInt)) ([.ref h0, .ref h1, .int x2, .int x3] : List Value).toArray s 0 0 (tA τ)) (F0 m 0 ls []) by subst eH; subst eL; exact hW
  clear eH eL
  obtain ⟨n9, hn9, hA9, en9, hd9⟩ := id hb9
  obtain ⟨r1, r2, r3, r4, r5, r6⟩ := hK n9 hn9 hA9
  rw [← en9] at r1 r2 r3 r4 r5 r6
  obtain ⟨kq1, kq7, kq8, kq9, kq10, kq4, kq11⟩ := kT_at (F := F) hn9 en9
  have ebn := bn_eq en9
  have ek : kT F (G.2.2.1 10) (bn (G.2.2.1 10) h1) 1 = (F h1 4).toInt := by rw [ebn]; exact kq1
  have ea : kT F (G.2.2.1 10) (bn (G.2.2.1 10) h1) 2 = (F (h1 + 1) 0).toInt := by rw [ebn]; exact kq4 0 (by decide)
  have eb : kT F (G.2.2.1 10) (bn (G.2.2.1 10) h1) 3 = (F (h1 + 1) 1).toInt := by rw [ebn]; exact kq4 1 (by decide)
  refine lv_aload_n hx hb dX3_figured_0 rfl (lv_at hl 1 rfl) ?_
  refine tc_getrF (d := 1) E hG t1 fr_X3_111 rfl dX3_figured_1 (fun ha1 => ?_)
  refine lv_iconst (v := 0) hx hb dX3_figured_4 (by decide) ?_
  refine tc_ialdF E hG ha1 ta_11 rfl (t_in (by decide) (by decide)) dX3_figured_5 (fun z2 lz2 uz2 wz2 => ?_)
  replace wz2 : z2 = F (h1 + 1) 0 := wz2
  have cz2 : z2.toInt = (F (h1 + 1) 0).toInt := by rw [wz2]
  have bz2 : 0 ≤ z2.toInt ∧ z2.toInt ≤ 99 := by rw [cz2]; exact r5 0 (by decide)
  refine lv_istore (lv' := [(4, .int z2), (0, .ref h0), (1, .ref h1), (2, .int x2), (3, .int x3)]) hx hb dX3_figured_6 hl (by decide) rfl (fun ls hl => ?_)
  refine lv_aload_n hx hb dX3_figured_8 rfl (lv_at hl 2 rfl) ?_
  refine tc_getF E hG t1 fi_X3_108 rfl dX3_figured_9 (fun z3 lz3 uz3 wz3 => ?_)
  replace wz3 : z3 = F h1 4 := wz3
  have cz3 : z3.toInt = (F h1 4).toInt := by rw [wz3]
  rcases (show (z3.toInt < 0 ∨ 8 < z3.toInt) ∨ z3.toInt = 0 ∨ z3.toInt = 1 ∨ z3.toInt = 2 ∨ z3.toInt = 3 ∨ z3.toInt = 4 ∨ z3.toInt = 5 ∨ z3.toInt = 6 ∨ z3.toInt = 7 ∨ z3.toInt = 8 by omega) with k4 | k4 | k4 | k4 | k4 | k4 | k4 | k4 | k4 | k4
  · refine lv_tableOut (tgt := 149) hx hb dX3_figured_12 k4 (by decide) ?_
    refine lv_aload_n hx hb dX3_figured_149 rfl (lv_at hl 1 rfl) ?_
    refine lv_aload_n hx hb dX3_figured_150 rfl (lv_at hl 2 rfl) ?_
    refine lv_iload_n hx hb dX3_figured_151 rfl (lv_at hl 3 rfl) ?_
    refine lv_iload_n hx hb dX3_figured_152 rfl (lv_at hl 4 rfl) ?_
    refine tc_calliF hG (tc_runV (As := [.ref h1, .int x2, .int x3]) (rest := []) E hSt hG (x_X3_greatestOfKids l G F τ h0 h1 x2 x3 t0 t1 (by omega) (by omega) (by omega) (by omega) d ih (by omega) hU hK hC hb9) t0 rv_5 kv_X3_greatestOfKids ml_X3_291 (tRm_ok (by omega) (by omega)) rfl hl.1 rfl (Nat.le_of_ble_eq_true rfl) ⟨Nat.zero_le _, Nat.zero_le _⟩ dX3_figured_153) (fun r5 F6 H locs pr5 hG => ?_)
    have E := E.f1 (F' := F6)
    have hSt := hSt.f1 (F' := F6)
    replace pr5 : GKq F F6 (G.2.2.1 10) h1 x2.toInt r5.toInt := pr5
    have gbr5 := GKq_bd hK hn9 hA9 en9 pr5
    exact tc_iretF E hr hlk hG rfl (FGq_gk pr5 (by rw [whI_ne (by rw [ek]; omega)]) (by rw [ek]; omega) (by rw [if_neg (by rw [ek]; omega), if_neg (by rw [ek]; omega)])) dX3_figured_156
  · refine lv_tableIn (off := 52) (tgt := 64) hx hb dX3_figured_12 (by rw [k4]; decide) (by rw [k4]; decide) (by rw [k4]; rfl) (by decide) ?_
    refine lv_iload hx hb dX3_figured_64 (lv_at hl 0 rfl) ?_
    exact tc_iretF E hr hlk hG rfl (FGq_no hC (Or.inl (by rw [ek]; omega)) (by rw [if_pos (by rw [ek]; omega), ea]; omega)) dX3_figured_66
  · refine lv_tableIn (off := 55) (tgt := 67) hx hb dX3_figured_12 (by rw [k4]; decide) (by rw [k4]; decide) (by rw [k4]; rfl) (by decide) ?_
    refine lv_iload_n hx hb dX3_figured_67 rfl (lv_at hl 3 rfl) ?_
    refine lv_if_ne (tgt := 78) hx hb dX3_figured_68 (by decide) (fun c7 => ?_) (fun c7 => ?_)
    · skip
      have ic7 := tn_ne rfl kI_0 c7
      refine lv_aload_n hx hb dX3_figured_78 rfl (lv_at hl 2 rfl) ?_
      refine tc_callp (tc_runS (As := [.ref h1]) (rest := []) E hSt hG (x_X3_widestWord l (gF G F) τ h1 t1 (r5 0 (by decide)) (r5 1 (by decide))) ks_X3_widestWord ml_X3_288 (tRm_ok (by omega) (by omega)) rfl hl.1 rfl (Nat.le_of_ble_eq_true rfl) ⟨Nat.zero_le _, Nat.zero_le _⟩ dX3_figured_79) (fun r8 pr8 => ?_)
      have pr8 : r8.toInt = txI (F (h1 + 1) 0).toInt (F (h1 + 1) 1).toInt 1 ∧ 0 ≤ r8.toInt ∧ r8.toInt ≤ 9 := pr8
      exact tc_iretF E hr hlk hG rfl (FGq_no hC (Or.inr (Or.inl (by rw [ek]; omega))) (by rw [if_neg (by rw [ek]; omega), if_pos (by rw [ek]; omega), ea, eb, show x2.toInt = 1 by omega]; exact pr8.1)) dX3_figured_82
    · skip
      have ic7 := tn_eq rfl kI_0 c7
      refine lv_aload_n hx hb dX3_figured_71 rfl (lv_at hl 2 rfl) ?_
      refine tc_callp (tc_runS (As := [.ref h1]) (rest := []) E hSt hG (x_X3_wordsInALine l (gF G F) τ h1 t1 (r5 0 (by decide)) (r5 1 (by decide))) ks_X3_wordsInALine ml_X3_285 (tRm_ok (by omega) (by omega)) rfl hl.1 rfl (Nat.le_of_ble_eq_true rfl) ⟨Nat.zero_le _, Nat.zero_le _⟩ dX3_figured_72) (fun r9 pr9 => ?_)
      have pr9 : r9.toInt = txI (F (h1 + 1) 0).toInt (F (h1 + 1) 1).toInt 0 ∧ 0 ≤ r9.toInt ∧ r9.toInt ≤ 1000 := pr9
      refine lv_goto (tgt := 82) hx hb dX3_figured_75 (by decide) ?_
      exact tc_iretF E hr hlk hG rfl (FGq_no hC (Or.inr (Or.inl (by rw [ek]; omega))) (by rw [if_neg (by rw [ek]; omega), if_pos (by rw [ek]; omega), ea, eb, show x2.toInt = 0 by omega]; exact pr9.1)) dX3_figured_82
  · refine lv_tableIn (off := 71) (tgt := 83) hx hb dX3_figured_12 (by rw [k4]; decide) (by rw [k4]; decide) (by rw [k4]; rfl) (by decide) ?_
    refine lv_aload_n hx hb dX3_figured_83 rfl (lv_at hl 1 rfl) ?_
    refine lv_aload_n hx hb dX3_figured_84 rfl (lv_at hl 2 rfl) ?_
    refine lv_iload_n hx hb dX3_figured_85 rfl (lv_at hl 3 rfl) ?_
    refine lv_iload_n hx hb dX3_figured_86 rfl (lv_at hl 4 rfl) ?_
    refine tc_calliF hG (tc_runV (As := [.ref h1, .int x2, .int x3]) (rest := []) E hSt hG (x_X3_greatestOfKids l G F τ h0 h1 x2 x3 t0 t1 (by omega) (by omega) (by omega) (by omega) d ih (by omega) hU hK hC hb9) t0 rv_5 kv_X3_greatestOfKids ml_X3_291 (tRm_ok (by omega) (by omega)) rfl hl.1 rfl (Nat.le_of_ble_eq_true rfl) ⟨Nat.zero_le _, Nat.zero_le _⟩ dX3_figured_87) (fun r10 F11 H locs pr10 hG => ?_)
    have E := E.f1 (F' := F11)
    have hSt := hSt.f1 (F' := F11)
    replace pr10 : GKq F F11 (G.2.2.1 10) h1 x2.toInt r10.toInt := pr10
    have gbr10 := GKq_bd hK hn9 hA9 en9 pr10
    refine lv_iconst (v := 2) hx hb dX3_figured_90 (by decide) ?_
    refine lv_iload hx hb dX3_figured_91 (lv_at hl 0 rfl) ?_
    refine lv_imul hx hb dX3_figured_93 ?_
    refine lv_topi (fun z12 ez12 => ?_)
    have tz12 := tn_mul ez12 kI_2 rfl (by omega) (by omega)
    refine lv_iadd hx hb dX3_figured_94 ?_
    refine lv_topi (fun z13 ez13 => ?_)
    have tz13 := tn_add ez13 rfl rfl (by omega) (by omega)
    exact tc_iretF E hr hlk hG rfl (FGq_gk pr10 (by rw [whI_ne (by rw [ek]; omega)]) (by rw [ek]; omega) (by rw [if_pos (by rw [ek]; omega), ea]; omega)) dX3_figured_95
  · refine lv_tableIn (off := 84) (tgt := 96) hx hb dX3_figured_12 (by rw [k4]; decide) (by rw [k4]; decide) (by rw [k4]; rfl) (by decide) ?_
    refine lv_aload_n hx hb dX3_figured_96 rfl (lv_at hl 1 rfl) ?_
    refine lv_aload_n hx hb dX3_figured_97 rfl (lv_at hl 2 rfl) ?_
    refine lv_iload_n hx hb dX3_figured_98 rfl (lv_at hl 3 rfl) ?_
    refine lv_iload_n hx hb dX3_figured_99 rfl (lv_at hl 4 rfl) ?_
    refine tc_calliF hG (tc_runV (As := [.ref h1, .int x2, .int x3]) (rest := []) E hSt hG (x_X3_greatestOfKids l G F τ h0 h1 x2 x3 t0 t1 (by omega) (by omega) (by omega) (by omega) d ih (by omega) hU hK hC hb9) t0 rv_5 kv_X3_greatestOfKids ml_X3_291 (tRm_ok (by omega) (by omega)) rfl hl.1 rfl (Nat.le_of_ble_eq_true rfl) ⟨Nat.zero_le _, Nat.zero_le _⟩ dX3_figured_100) (fun r14 F15 H locs pr14 hG => ?_)
    have E := E.f1 (F' := F15)
    have hSt := hSt.f1 (F' := F15)
    replace pr14 : GKq F F15 (G.2.2.1 10) h1 x2.toInt r14.toInt := pr14
    have gbr14 := GKq_bd hK hn9 hA9 en9 pr14
    refine lv_iload hx hb dX3_figured_103 (lv_at hl 0 rfl) ?_
    refine lv_aload_n hx hb dX3_figured_105 rfl (lv_at hl 2 rfl) ?_
    refine tc_getrF (d := 1) E hG t1 fr_X3_111 rfl dX3_figured_106 (fun ha16 => ?_)
    refine lv_iconst (v := 1) hx hb dX3_figured_109 (by decide) ?_
    refine tc_ialdF E hG ha16 ta_11 rfl (t_in (by decide) (by decide)) dX3_figured_110 (fun z17 lz17 uz17 wz17 => ?_)
    replace wz17 : z17 = F15 (h1 + 1) 1 := wz17
    replace wz17 : z17 = F (h1 + 1) 1 := by rw [wz17, pr14.1.1 _ _ (by omega)]
    have cz17 : z17.toInt = (F (h1 + 1) 1).toInt := by rw [wz17]
    have bz17 : 0 ≤ z17.toInt ∧ z17.toInt ≤ 99 := by rw [cz17]; exact r5 1 (by decide)
    refine tc_callp (tc_runS (As := [.int z17]) (rest := [.int z2, .int r14]) E hSt hG (x_X0_orNoEnd l (gF G F15) τ z17 (by omega) (by omega)) ks_X0_orNoEnd ml_X3_183 (tRm_ok (by omega) (by omega)) rfl hl.1 rfl (Nat.le_of_ble_eq_true rfl) ⟨Nat.zero_le _, Nat.zero_le _⟩ dX3_figured_111) (fun r18 pr18 => ?_)
    have pr18 : r18.toInt = enI z17.toInt ∧ 0 ≤ r18.toInt ∧ r18.toInt ≤ 1000 := pr18
    refine tc_callp (tc_runN (As := [.int r14, .int z2, .int r18]) (rest := []) E hSt hG (x_X9_held l (gF G F15) τ r14 z2 r18 (by omega) (by omega) (by omega) (by omega) (by omega) (by omega)) ks_X9_held (List.mem_of_getElem? (i := 2) rfl) (tRm_ok (by omega) (by omega)) rfl hl.1 rfl (Nat.le_of_ble_eq_true rfl) ⟨Nat.zero_le _, Nat.zero_le _⟩ dX3_figured_114) (fun r19 pr19 => ?_)
    have pr19 : r19.toInt = hdI r14.toInt z2.toInt r18.toInt ∧ 0 ≤ r19.toInt ∧ r19.toInt ≤ 1000 := pr19
    exact tc_iretF E hr hlk hG rfl (FGq_gk pr14 (by rw [whI_ne (by rw [ek]; omega)]) (by rw [ek]; omega) (by rw [if_neg (by rw [ek]; omega), if_pos (by rw [ek]; omega), ea, eb, ← cz2, ← cz17, ← pr18.1]; exact pr19.1)) dX3_figured_117
  · refine lv_tableIn (off := 137) (tgt := 149) hx hb dX3_figured_12 (by rw [k4]; decide) (by rw [k4]; decide) (by rw [k4]; rfl) (by decide) ?_
    refine lv_aload_n hx hb dX3_figured_149 rfl (lv_at hl 1 rfl) ?_
    refine lv_aload_n hx hb dX3_figured_150 rfl (lv_at hl 2 rfl) ?_
    refine lv_iload_n hx hb dX3_figured_151 rfl (lv_at hl 3 rfl) ?_
    refine lv_iload_n hx hb dX3_figured_152 rfl (lv_at hl 4 rfl) ?_
    refine tc_calliF hG (tc_runV (As := [.ref h1, .int x2, .int x3]) (rest := []) E hSt hG (x_X3_greatestOfKids l G F τ h0 h1 x2 x3 t0 t1 (by omega) (by omega) (by omega) (by omega) d ih (by omega) hU hK hC hb9) t0 rv_5 kv_X3_greatestOfKids ml_X3_291 (tRm_ok (by omega) (by omega)) rfl hl.1 rfl (Nat.le_of_ble_eq_true rfl) ⟨Nat.zero_le _, Nat.zero_le _⟩ dX3_figured_153) (fun r20 F21 H locs pr20 hG => ?_)
    have E := E.f1 (F' := F21)
    have hSt := hSt.f1 (F' := F21)
    replace pr20 : GKq F F21 (G.2.2.1 10) h1 x2.toInt r20.toInt := pr20
    have gbr20 := GKq_bd hK hn9 hA9 en9 pr20
    exact tc_iretF E hr hlk hG rfl (FGq_gk pr20 (by rw [whI_ne (by rw [ek]; omega)]) (by rw [ek]; omega) (by rw [if_neg (by rw [ek]; omega), if_neg (by rw [ek]; omega)])) dX3_figured_156
  · refine lv_tableIn (off := 106) (tgt := 118) hx hb dX3_figured_12 (by rw [k4]; decide) (by rw [k4]; decide) (by rw [k4]; rfl) (by decide) ?_
    refine lv_aload_n hx hb dX3_figured_118 rfl (lv_at hl 1 rfl) ?_
    refine lv_aload_n hx hb dX3_figured_119 rfl (lv_at hl 2 rfl) ?_
    refine lv_iconst (v := 0) hx hb dX3_figured_120 (by decide) ?_
    refine lv_iload_n hx hb dX3_figured_121 rfl (lv_at hl 4 rfl) ?_
    refine tc_calliF hG (tc_runV (As := [.ref h1, .int 0, .int x3]) (rest := []) E hSt hG (x_X3_greatestOfKids l G F τ h0 h1 (0 : Int32) x3 t0 t1 (by decide) (by decide) (by omega) (by omega) d ih (by omega) hU hK hC hb9) t0 rv_5 kv_X3_greatestOfKids ml_X3_291 (tRm_ok (by omega) (by omega)) rfl hl.1 rfl (Nat.le_of_ble_eq_true rfl) ⟨Nat.zero_le _, Nat.zero_le _⟩ dX3_figured_122) (fun r22 F23 H locs pr22 hG => ?_)
    have E := E.f1 (F' := F23)
    have hSt := hSt.f1 (F' := F23)
    replace pr22 : GKq F F23 (G.2.2.1 10) h1 (0 : Int32).toInt r22.toInt := pr22
    have k24 := kI_0
    have gbr22 := GKq_bd hK hn9 hA9 en9 pr22
    exact tc_iretF E hr hlk hG rfl (FGq_gk pr22 (by unfold whI; rw [if_pos (by rw [ek]; omega)]; decide) (by rw [ek]; omega) (by rw [if_neg (by rw [ek]; omega), if_neg (by rw [ek]; omega)])) dX3_figured_125
  · refine lv_tableIn (off := 114) (tgt := 126) hx hb dX3_figured_12 (by rw [k4]; decide) (by rw [k4]; decide) (by rw [k4]; rfl) (by decide) ?_
    refine lv_iload_n hx hb dX3_figured_126 rfl (lv_at hl 3 rfl) ?_
    refine lv_if_ne (tgt := 138) hx hb dX3_figured_127 (by decide) (fun c25 => ?_) (fun c25 => ?_)
    · skip
      have ic25 := tn_ne rfl kI_0 c25
      refine lv_iload hx hb dX3_figured_138 (lv_at hl 0 rfl) ?_
      exact tc_iretF E hr hlk hG rfl (FGq_no hC (Or.inr (Or.inr (by rw [ek]; omega))) (by rw [if_neg (by rw [ek]; omega), if_neg (by rw [ek]; omega), ea]; first | (rw [if_pos (by omega)]; omega) | (rw [if_neg (by omega)]; omega))) dX3_figured_140
    · skip
      have ic25 := tn_eq rfl kI_0 c25
      refine lv_bipush (v := 10) hx hb dX3_figured_130 (by decide) ?_
      refine lv_iload hx hb dX3_figured_132 (lv_at hl 0 rfl) ?_
      refine lv_imul hx hb dX3_figured_134 ?_
      refine lv_topi (fun z26 ez26 => ?_)
      have tz26 := tn_mul ez26 kI_10 rfl (by omega) (by omega)
      refine lv_goto (tgt := 140) hx hb dX3_figured_135 (by decide) ?_
      exact tc_iretF E hr hlk hG rfl (FGq_no hC (Or.inr (Or.inr (by rw [ek]; omega))) (by rw [if_neg (by rw [ek]; omega), if_neg (by rw [ek]; omega), ea]; first | (rw [if_pos (by omega)]; omega) | (rw [if_neg (by omega)]; omega))) dX3_figured_140
  · refine lv_tableIn (off := 137) (tgt := 149) hx hb dX3_figured_12 (by rw [k4]; decide) (by rw [k4]; decide) (by rw [k4]; rfl) (by decide) ?_
    refine lv_aload_n hx hb dX3_figured_149 rfl (lv_at hl 1 rfl) ?_
    refine lv_aload_n hx hb dX3_figured_150 rfl (lv_at hl 2 rfl) ?_
    refine lv_iload_n hx hb dX3_figured_151 rfl (lv_at hl 3 rfl) ?_
    refine lv_iload_n hx hb dX3_figured_152 rfl (lv_at hl 4 rfl) ?_
    refine tc_calliF hG (tc_runV (As := [.ref h1, .int x2, .int x3]) (rest := []) E hSt hG (x_X3_greatestOfKids l G F τ h0 h1 x2 x3 t0 t1 (by omega) (by omega) (by omega) (by omega) d ih (by omega) hU hK hC hb9) t0 rv_5 kv_X3_greatestOfKids ml_X3_291 (tRm_ok (by omega) (by omega)) rfl hl.1 rfl (Nat.le_of_ble_eq_true rfl) ⟨Nat.zero_le _, Nat.zero_le _⟩ dX3_figured_153) (fun r27 F28 H locs pr27 hG => ?_)
    have E := E.f1 (F' := F28)
    have hSt := hSt.f1 (F' := F28)
    replace pr27 : GKq F F28 (G.2.2.1 10) h1 x2.toInt r27.toInt := pr27
    have gbr27 := GKq_bd hK hn9 hA9 en9 pr27
    exact tc_iretF E hr hlk hG rfl (FGq_gk pr27 (by rw [whI_ne (by rw [ek]; omega)]) (by rw [ek]; omega) (by rw [if_neg (by rw [ek]; omega), if_neg (by rw [ek]; omega)])) dX3_figured_156
  · refine lv_tableIn (off := 129) (tgt := 141) hx hb dX3_figured_12 (by rw [k4]; decide) (by rw [k4]; decide) (by rw [k4]; rfl) (by decide) ?_
    refine lv_aload_n hx hb dX3_figured_141 rfl (lv_at hl 1 rfl) ?_
    refine lv_aload_n hx hb dX3_figured_142 rfl (lv_at hl 2 rfl) ?_
    refine lv_iload_n hx hb dX3_figured_143 rfl (lv_at hl 3 rfl) ?_
    refine lv_iload_n hx hb dX3_figured_144 rfl (lv_at hl 4 rfl) ?_
    refine tc_calliF hG (tc_runV (As := [.ref h1, .int x2, .int x3]) (rest := []) E hSt hG (x_X3_kidsTogether l G F τ h0 h1 x2 x3 t0 t1 (by omega) (by omega) (by omega) (by omega) d ih (by omega) hU hK hC hb9) t0 rv_5 kv_X3_kidsTogether ml_X3_294 (tRm_ok (by omega) (by omega)) rfl hl.1 rfl (Nat.le_of_ble_eq_true rfl) ⟨Nat.zero_le _, Nat.zero_le _⟩ dX3_figured_145) (fun r29 F30 H locs pr29 hG => ?_)
    have E := E.f1 (F' := F30)
    have hSt := hSt.f1 (F' := F30)
    replace pr29 : KTq F F30 (G.2.2.1 10) h1 x2.toInt r29.toInt := pr29
    exact tc_iretF E hr hlk hG rfl (FGq_kt pr29 (by rw [ek]; omega)) dX3_figured_148

set_option maxHeartbeats 4000000 in
set_option maxRecDepth 100000 in
theorem x_X3_askedOf (l : Launch) (G : tG) (τ : Nat → Nat) : ∀ (d : Nat) (F : mF) (h0 : Nat) (h1 : Nat) (x2 : Int32) (x3 : Int32) (t0 : τ h0 = 5) (t1 : τ h1 = 3) (l2 : 0 ≤ x2.toInt) (u2 : x2.toInt ≤ 1) (l3 : 0 ≤ x3.toInt) (u3 : x3.toInt ≤ 23) (hd : (24 - x3.toInt).toNat < d) (hU : ∀ q, τ q = 2 → q = (G.2.2.1 10)) (hK : AKF F (G.2.2.1 10)) (hC : CINV F (G.2.2.1 10)) (hb9 : ∃ n : Nat, n ≤ 23 ∧ tB (F (G.2.2.1 10) 4) n ∧ h1 = (G.2.2.1 10) + 1 + (3 + 4 * n) ∧ x3.toInt ≤ ↑n), Met l yX3_askedOf (.code yX3_askedOf cX3_askedOf 5 (some .int) :: tWS) (tRm (3 * d + 4) (74 * d + 120)) (va_Pc [.ref h0, .ref h1, .int x2, .int x3] (tPre (gF G F) τ)) (tQF G τ (fun r F9 => ASK F F9 (G.2.2.1 10) h1 x2.toInt r.toInt)) 0 0 (tA τ) := by
  intro d
  induction d with
  | zero => intro F h0 h1 x2 x3 t0 t1 l2 u2 l3 u3 hd hU hK hC hb9; exact absurd hd (Nat.not_lt_zero _)
  | succ d ih =>
  intro F h0 h1 x2 x3 t0 t1 l2 u2 l3 u3 hd hU hK hC hb9
  refine tc_met (by decide) (Nat.le_of_ble_eq_true rfl) ?_
  intro p e s m below meth c E hSt hr hlk hG ls hl
  have hl : lv_has ls 5 [(0, .ref h0), (1, .ref h1), (2, .int x2), (3, .int x3)] := hl
  have hx := E.1
  have hb := E.2.1
  obtain ⟨H, eH⟩ : ∃ H, H = s.heap := ⟨_, rfl⟩
  obtain ⟨locs, eL⟩ : ∃ x : List Loc, x = [] := ⟨_, rfl⟩
  have hG : tGH (gF G F) τ s H locs := by rw [eH, eL]; exact hG
  suffices hW : W p l e (tRm (3 * (d + 1) + 4) (74 * (d + 1) + 120)) s m ([.ref h0, .ref h1, .int x2, .int x3] : List Value).toArray below meth c H locs 0 0 (MQ below (tQF G τ (fun r F9 => ASK F F9 (G.2.2.1 10) h1 x2.toInt r.toInt)) ([.ref h0, .ref h1, .int x2, .int x3] : List Value).toArray s 0 0 (tA τ)) (F0 m 0 ls []) by subst eH; subst eL; exact hW
  clear eH eL
  obtain ⟨n9, hn9, hA9, en9, hd9⟩ := id hb9
  obtain ⟨r1, r2, r3, r4, r5, r6⟩ := hK n9 hn9 hA9
  rw [← en9] at r1 r2 r3 r4 r5 r6
  obtain ⟨kq1, kq7, kq8, kq9, kq10, kq4, kq11⟩ := kT_at (F := F) hn9 en9
  have ebn := bn_eq en9
  have ek : kT F (G.2.2.1 10) (bn (G.2.2.1 10) h1) 1 = (F h1 4).toInt := by rw [ebn]; exact kq1
  have ea : kT F (G.2.2.1 10) (bn (G.2.2.1 10) h1) 2 = (F (h1 + 1) 0).toInt := by rw [ebn]; exact kq4 0 (by decide)
  have eb : kT F (G.2.2.1 10) (bn (G.2.2.1 10) h1) 3 = (F (h1 + 1) 1).toInt := by rw [ebn]; exact kq4 1 (by decide)
  refine lv_aload_n hx hb dX3_askedOf_0 rfl (lv_at hl 1 rfl) ?_
  refine lv_iload_n hx hb dX3_askedOf_1 rfl (lv_at hl 2 rfl) ?_
  refine tc_callp (tc_runV (As := [.int x2]) (rest := []) E hSt hG (x_X0_hasMemo l (gF G F) τ h1 x2 t1 (by omega) (by omega)) t1 rv_3 kv_X0_hasMemo ml_X3_270 (tRm_ok (by omega) (by omega)) rfl hl.1 rfl (Nat.le_of_ble_eq_true rfl) ⟨Nat.zero_le _, Nat.zero_le _⟩ dX3_askedOf_2) (fun r1 pr1 => ?_)
  have pr1 : (r1.toInt = 1 ∧ (tB (F h1 11) x2.toInt.toNat)) ∨ (r1.toInt = 0 ∧ ¬ (tB (F h1 11) x2.toInt.toNat)) := pr1
  refine lv_if_ne (tgt := 14) hx hb dX3_askedOf_5 (by decide) (fun c2 => ?_) (fun c2 => ?_)
  · skip
    have ic2 := tn_ne rfl kI_0 c2
    refine lv_aload_n hx hb dX3_askedOf_14 rfl (lv_at hl 1 rfl) ?_
    refine lv_iload_n hx hb dX3_askedOf_15 rfl (lv_at hl 2 rfl) ?_
    refine tc_callp (tc_runV (As := [.int x2]) (rest := []) E hSt hG (x_X0_memoOf l (gF G F) τ h1 x2 t1 (by omega) (by omega)) t1 rv_3 kv_X0_memoOf ml_X3_273 (tRm_ok (by omega) (by omega)) rfl hl.1 rfl (Nat.le_of_ble_eq_true rfl) ⟨Nat.zero_le _, Nat.zero_le _⟩ dX3_askedOf_16) (fun r3 pr3 => ?_)
    have pr3 : r3.toInt = if x2.toInt = 0 then (F h1 12).toInt else (F h1 13).toInt := pr3
    exact tc_iretF E hr hlk hG rfl (ASK_has hn9 hA9 en9 (by omega) (by omega) hC (by rcases pr1 with ⟨_, q9⟩ | ⟨q9, _⟩; exact q9; (exfalso; omega)) pr3) dX3_askedOf_19
  · skip
    have ic2 := tn_eq rfl kI_0 c2
    refine lv_iload_n hx hb dX3_askedOf_8 rfl (lv_at hl 3 rfl) ?_
    refine lv_bipush (v := 24) hx hb dX3_askedOf_9 (by decide) ?_
    refine lv_icmp_lt (tgt := 20) hx hb dX3_askedOf_11 (by decide) (fun c4 => ?_) (fun c4 => ?_)
    · skip
      have ic4 := tn_lt rfl kI_24 c4
      refine lv_aload_n hx hb dX3_askedOf_20 rfl (lv_at hl 0 rfl) ?_
      refine lv_aload_n hx hb dX3_askedOf_21 rfl (lv_at hl 1 rfl) ?_
      refine lv_iload_n hx hb dX3_askedOf_22 rfl (lv_at hl 2 rfl) ?_
      refine lv_iload_n hx hb dX3_askedOf_23 rfl (lv_at hl 3 rfl) ?_
      refine tc_calliF hG (tc_runV (As := [.ref h1, .int x2, .int x3]) (rest := []) E hSt hG (x_X3_figured l G F τ h0 h1 x2 x3 t0 t1 (by omega) (by omega) (by omega) (by omega) d ih (by omega) hU hK hC hb9) t0 rv_5 kv_X3_figured ml_X3_276 (tRm_ok (by omega) (by omega)) rfl hl.1 rfl (Nat.le_of_ble_eq_true rfl) ⟨Nat.zero_le _, Nat.zero_le _⟩ dX3_askedOf_24) (fun r5 F6 H locs pr5 hG => ?_)
      have E := E.f1 (F' := F6)
      have hSt := hSt.f1 (F' := F6)
      replace pr5 : FGq F F6 (G.2.2.1 10) h1 x2.toInt r5.toInt := pr5
      refine lv_istore (lv' := [(4, .int r5), (0, .ref h0), (1, .ref h1), (2, .int x2), (3, .int x3)]) hx hb dX3_askedOf_27 hl (by decide) rfl (fun ls hl => ?_)
      refine lv_aload_n hx hb dX3_askedOf_29 rfl (lv_at hl 2 rfl) ?_
      refine lv_iload_n hx hb dX3_askedOf_30 rfl (lv_at hl 3 rfl) ?_
      refine lv_iload hx hb dX3_askedOf_31 (lv_at hl 0 rfl) ?_
      refine tc_callvF hG (tc_runV (As := [.int x2, .int r5]) (rest := []) E hSt hG (x_X0_keepMemo l G F6 τ h1 x2 r5 t1 (by omega) (by omega)) t1 rv_3 kv_X0_keepMemo ml_X3_279 (tRm_ok (by omega) (by omega)) rfl hl.1 rfl (Nat.le_of_ble_eq_true rfl) ⟨Nat.zero_le _, Nat.zero_le _⟩ dX3_askedOf_33) (fun F8 H locs pr7 hG => ?_)
      have E := E.f1 (F' := F8)
      have hSt := hSt.f1 (F' := F8)
      replace pr7 : KPM F6 F8 h1 x2 r5 := pr7
      refine lv_aload_n hx hb dX3_askedOf_36 rfl (lv_at hl 1 rfl) ?_
      refine lv_dup hx hb dX3_askedOf_37 rfl ?_
      refine tc_geti E hG t0 fi_X3_282 dX3_askedOf_38 (fun z9 _ _ => ?_)
      refine lv_iconst (v := 1) hx hb dX3_askedOf_41 (by decide) ?_
      refine lv_iadd hx hb dX3_askedOf_42 ?_
      refine lv_topi (fun z10 ez10 => ?_)
      refine tc_puti E hG t0 fp_X3_282 (t_any1 _) (t_any2 _) dX3_askedOf_43 (fun H locs hG => ?_)
      refine lv_iload hx hb dX3_askedOf_46 (lv_at hl 0 rfl) ?_
      exact tc_iretF E hr hlk hG rfl (ASK_keep hK hn9 hA9 en9 (by omega) (by omega) pr5 pr7) dX3_askedOf_48
    · exfalso
      have ic4 := tn_nlt rfl kI_24 c4
      omega
