def PRO (P : Nat) (F F' : mF) (L : List Int) : Prop := TXT F' P = L.take 960 ∧ (0 ≤ (F' P 1).toInt ∧ (F' P 1).toInt ≤ 960) ∧ ∀ a k, ¬ (a = P ∨ a = P + 1) → F' a k = F a k
theorem PRO_of {F F1 F2 : mF} {P : Nat} {v : Int32} {L L' : List Int} (e1 : F1 = up2 F P 1 v) (hv : v.toInt = 0) (h : PRI P F1 F2 L') (eL : L' = L) : PRO P F F2 L := by
  subst eL
  refine ⟨?_, h.2.1, fun a k q => (h.2.2 a k q).trans (by rw [e1]; exact up2_ne (fun z => q (Or.inl z.1)))⟩
  have e0 : TXT F1 P = [] := by
    unfold TXT
    rw [e1, up2_at, hv]
    rfl
  rw [h.1, e0, List.nil_append]
theorem bx_no {w n : Nat} : (((w + 1 + (3 + 4 * n)) - (w + 4)) / 4 : Nat) = n := by
  rw [show w + 1 + (3 + 4 * n) - (w + 4) = 4 * n by omega, Nat.mul_div_cancel_left _ (by decide)]
/-- letter i of what is printed; -1: how many -/
def prA (L : List Int) (i : Int) : Int := if i = -1 then (L.length : Int) else if i < (L.length : Int) then L.getD i.toNat 0 else -1
theorem prA_1 {F : mF} {P : Nat} {i : Int} (hi : i = -1) (h0 : 0 ≤ (F P 1).toInt) : (F P 1).toInt = prA (TXT F P) i := by
  unfold prA
  rw [if_pos hi, TXT_len]; omega
theorem prA_in {F : mF} {P : Nat} {i : Int} (h0 : 0 ≤ i) (h1 : i < (F P 1).toInt) : (F (P + 1) i.toNat).toInt = prA (TXT F P) i := by
  unfold prA
  rw [if_neg (by omega), TXT_len, if_pos (by omega), List.getD_eq_getElem?_getD]
  unfold TXT
  rw [List.getElem?_map, List.getElem?_range (by omega)]
  rfl
theorem prA_out {F : mF} {P : Nat} {i : Int} (h0 : ¬ i = -1) (h1 : (F P 1).toInt ≤ i) (h2 : 0 ≤ (F P 1).toInt) : -1 = prA (TXT F P) i := by
  unfold prA
  rw [if_neg h0, TXT_len, if_neg (by omega)]

set_option maxHeartbeats 4000000 in
set_option maxRecDepth 100000 in
theorem x_X4_print (l : Launch) (G : tG) (F : mF) (τ : Nat → Nat) (h0 : Nat) (x1 : Int32) (t0 : τ h0 = 8) (hw9 : G.2.2.1 12 + 100 ≤ h0) (hA9 : 0 ≤ x1.toInt ∧ x1.toInt ≤ 23 ∧ tB (F (G.2.2.1 12) 4) x1.toInt.toNat) (hR9 : PRF F (G.2.2.1 12)) : Met l yX4_print (.code yX4_print cX4_print 2 none :: tWS) (tRm 38 1923) (va_Pc [.ref h0, .int x1] (tPre (gF G F) τ)) (tQG G τ (fun F9 => PRO h0 F F9 (pT (kF F (G.2.2.1 12)) 24 x1.toInt))) 0 0 (tA τ) := by
  refine tc_met (by decide) (Nat.le_of_ble_eq_true rfl) ?_
  intro p e s m below meth c E hSt hr hlk hG ls hl
  have hl : lv_has ls 2 [(0, .ref h0), (1, .int x1)] := hl
  have hx := E.1
  have hb := E.2.1
  obtain ⟨H, eH⟩ : ∃ H, H = s.heap := ⟨_, rfl⟩
  obtain ⟨locs, eL⟩ : ∃ x : List Loc, x = [] := ⟨_, rfl⟩
  have hG : tGH (gF G F) τ s H locs := by rw [eH, eL]; exact hG
  suffices hW : W p l e (tRm 38 1923) s m ([.ref h0, .int x1] : List Value).toArray below meth c H locs 0 0 (MQ below (tQG G τ (fun F9 => PRO h0 F F9 (pT (kF F (G.2.2.1 12)) 24 x1.toInt))) ([.ref h0, .int x1] : List Value).toArray s 0 0 (tA τ)) (F0 m 0 ls []) by subst eH; subst eL; exact hW
  clear eH eL
  have nx1 : x1.toNatClampNeg = x1.toInt.toNat := rfl
  refine lv_aload_n hx hb dX4_print_0 rfl (lv_at hl 0 rfl) ?_
  refine lv_iconst (v := 0) hx hb dX4_print_1 (by decide) ?_
  refine tc_putF (lo := 0) (hi := 960) E hG t0 (by decide) rfl rfl fq_X4_19 (by decide) (by decide) rfl rfl dX4_print_2 (fun H locs hG => ?_)
  obtain ⟨F1, eF1⟩ : ∃ Z : mF, Z = up2 F h0 1 (0 : Int32) := ⟨_, rfl⟩
  replace hG : tGH (gF G F1) τ s H locs := by rw [eF1]; exact hG
  have E := E.f1 (F' := F1)
  have hSt := hSt.f1 (F' := F1)
  refine lv_aload_n hx hb dX4_print_5 rfl (lv_at hl 0 rfl) ?_
  refine tc_getrG E hG t0 fr_X4_15 rfl (fun _ => (by omega)) (fun z => by cases z) dX4_print_6 (fun ha2 => ?_)
  replace ha2 : τ (G.2.2.1 12) = 2 := ha2
  refine lv_iload_n hx hb dX4_print_9 rfl (lv_at hl 1 rfl) ?_
  refine tc_callp (tc_runV (As := [.int x1]) (rest := []) E hSt hG (x_X8_has l (gF G F1) τ (G.2.2.1 12) x1 ha2) ha2 rv_2 kv_X8_has ml_X4_23 ⟨rfl, rfl, Nat.le_of_ble_eq_true rfl, Nat.le_of_ble_eq_true rfl⟩ rfl hl.1 rfl (Nat.le_of_ble_eq_true rfl) ⟨Nat.zero_le _, Nat.zero_le _⟩ dX4_print_10) (fun r3 pr3 => ?_)
  have pr3 : (r3.toInt = 1 ∧ (0 ≤ x1.toInt ∧ x1.toInt ≤ 23 ∧ tB (F1 (G.2.2.1 12) 4) x1.toInt.toNat)) ∨ (r3.toInt = 0 ∧ ¬ (0 ≤ x1.toInt ∧ x1.toInt ≤ 23 ∧ tB (F1 (G.2.2.1 12) 4) x1.toInt.toNat)) := pr3
  rw [show F1 (G.2.2.1 12) 4 = F (G.2.2.1 12) 4 from by rw [eF1, up2_ne (by omega)]] at pr3
  refine lv_if_eq (tgt := 30) hx hb dX4_print_13 (by decide) (fun c4 => ?_) (fun c4 => ?_)
  · skip
    have ic4 := tn_eq rfl kI_0 c4
    exact tc_vretF E hr hlk hG (by rcases pr3 with ⟨q9, _⟩ | ⟨_, q9⟩; (exfalso; omega); exact absurd hA9 q9) dX4_print_30
  · skip
    have ic4 := tn_ne rfl kI_0 c4
    refine lv_aload_n hx hb dX4_print_16 rfl (lv_at hl 0 rfl) ?_
    refine lv_aload_n hx hb dX4_print_17 rfl (lv_at hl 0 rfl) ?_
    refine tc_getrG E hG t0 fr_X4_15 rfl (fun _ => (by omega)) (fun z => by cases z) dX4_print_18 (fun ha5 => ?_)
    replace ha5 : τ (G.2.2.1 12) = 2 := ha5
    refine tc_getrF (d := 1) E hG ha5 fr_X4_29 rfl dX4_print_21 (fun ha6 => ?_)
    refine lv_iload_n hx hb dX4_print_24 rfl (lv_at hl 1 rfl) ?_
    refine tc_aald3F (d := 3 + 4 * x1.toNatClampNeg) E hG ha6 ta_10 rfl (t_in (by omega) (by omega)) dX4_print_25 (fun ha7 => ?_)
    have nx1 : x1.toNatClampNeg = x1.toInt.toNat := rfl
    refine lv_iconst (v := 0) hx hb dX4_print_26 (by decide) ?_
    refine tc_callvF hG (tc_runV (As := [.ref (((G.2.2.1 12) + 1) + (3 + 4 * x1.toNatClampNeg)), .int 0]) (rest := []) E hSt hG (x_X4_write l (gF G F1) τ 25 F1 h0 (((G.2.2.1 12) + 1) + (3 + 4 * x1.toNatClampNeg)) (0 : Int32) t0 ha7 (by decide) (by first | decide | omega) hw9 ⟨_, (by omega), (by rw [eF1, up2_ne (by omega)]; exact hA9.2.2), rfl⟩ (PRF_fr hw9 (fun a k q => by rw [eF1]; exact up2_ne (fun z => q (Or.inl z.1))) hR9) (by rw [eF1, up2_at]; exact ⟨by decide, by decide⟩)) t0 rv_8 kv_X4_write ml_X4_33 ⟨rfl, rfl, Nat.le_of_ble_eq_true rfl, Nat.le_of_ble_eq_true rfl⟩ rfl hl.1 rfl (Nat.le_of_ble_eq_true rfl) ⟨Nat.zero_le _, Nat.zero_le _⟩ dX4_print_27) (fun F9 H locs pr8 hG => ?_)
    have E := E.f1 (F' := F9)
    have hSt := hSt.f1 (F' := F9)
    replace pr8 : PRI h0 F1 F9 (pT (kF F1 (G.2.2.1 12)) (24 - (0 : Int32).toInt).toNat ((((((G.2.2.1 12) + 1) + (3 + 4 * x1.toNatClampNeg)) - (G.2.2.1 12 + 4)) / 4 : Nat) : Int)) := pr8
    have k10 := kI_0
    exact tc_vretF E hr hlk hG (PRO_of eF1 rfl pr8 (by rw [show kF F1 (G.2.2.1 12) = kF F (G.2.2.1 12) from kF_fr hw9 (fun a k q => by rw [eF1]; exact up2_ne (fun z => q (Or.inl z.1))), show (24 - (0 : Int32).toInt).toNat = 24 from by decide, bx_no, show ((x1.toNatClampNeg : Nat) : Int) = x1.toInt from (by show ((x1.toInt.toNat : Nat) : Int) = _; omega)])) dX4_print_30

set_option maxHeartbeats 4000000 in
set_option maxRecDepth 100000 in
theorem x_X9_printed (l : Launch) (G : tG) (F : mF) (τ : Nat → Nat) (h0 : Nat) (x1 : Int32) (x2 : Int32) (t0 : τ h0 = 1) (h8 : h0 = G.2.2.1 8) (hw12 : G.2.2.1 12 = G.2.2.1 10) (hw9 : G.2.2.1 12 + 100 ≤ G.2.2.1 15) (hR9 : PRF F (G.2.2.1 12)) : Met l yX9_printed (.code yX9_printed cX9_printed 3 (some .int) :: tWS) (tRm 39 1944) (va_Pc [.ref h0, .int x1, .int x2] (tPre (gF G F) τ)) (tQF G τ (fun r F9 => (¬ ((0 ≤ x1.toInt ∧ x1.toInt ≤ 23 ∧ tB (F (G.2.2.1 12) 4) x1.toInt.toNat) ∧ -1 ≤ x2.toInt) ∧ r = -1 ∧ F9 = F) ∨ (((0 ≤ x1.toInt ∧ x1.toInt ≤ 23 ∧ tB (F (G.2.2.1 12) 4) x1.toInt.toNat) ∧ -1 ≤ x2.toInt) ∧ PRO (G.2.2.1 15) F F9 (pT (kF F (G.2.2.1 12)) 24 x1.toInt) ∧ r.toInt = prA (TXT F9 (G.2.2.1 15)) x2.toInt))) 0 0 (tA τ) := by
  refine tc_met (by decide) (Nat.le_of_ble_eq_true rfl) ?_
  intro p e s m below meth c E hSt hr hlk hG ls hl
  have hl : lv_has ls 3 [(0, .ref h0), (1, .int x1), (2, .int x2)] := hl
  have hx := E.1
  have hb := E.2.1
  obtain ⟨H, eH⟩ : ∃ H, H = s.heap := ⟨_, rfl⟩
  obtain ⟨locs, eL⟩ : ∃ x : List Loc, x = [] := ⟨_, rfl⟩
  have hG : tGH (gF G F) τ s H locs := by rw [eH, eL]; exact hG
  suffices hW : W p l e (tRm 39 1944) s m ([.ref h0, .int x1, .int x2] : List Value).toArray below meth c H locs 0 0 (MQ below (tQF G τ (fun r F9 => (¬ ((0 ≤ x1.toInt ∧ x1.toInt ≤ 23 ∧ tB (F (G.2.2.1 12) 4) x1.toInt.toNat) ∧ -1 ≤ x2.toInt) ∧ r = -1 ∧ F9 = F) ∨ (((0 ≤ x1.toInt ∧ x1.toInt ≤ 23 ∧ tB (F (G.2.2.1 12) 4) x1.toInt.toNat) ∧ -1 ≤ x2.toInt) ∧ PRO (G.2.2.1 15) F F9 (pT (kF F (G.2.2.1 12)) 24 x1.toInt) ∧ r.toInt = prA (TXT F9 (G.2.2.1 15)) x2.toInt))) ([.ref h0, .int x1, .int x2] : List Value).toArray s 0 0 (tA τ)) (F0 m 0 ls []) by subst eH; subst eL; exact hW
  clear eH eL
  refine lv_aload_n hx hb dX9_printed_0 rfl (lv_at hl 0 rfl) ?_
  refine tc_getrG E hG t0 fr_X9_12 rfl (fun _ => h8) (fun z => by cases z) dX9_printed_1 (fun ha1 => ?_)
  replace ha1 : τ (G.2.2.1 10) = 2 := ha1
  refine lv_iload_n hx hb dX9_printed_4 rfl (lv_at hl 1 rfl) ?_
  refine tc_callp (tc_runV (As := [.int x1]) (rest := []) E hSt hG (x_X8_has l (gF G F) τ (G.2.2.1 10) x1 ha1) ha1 rv_2 kv_X8_has ml_X9_83 ⟨rfl, rfl, Nat.le_of_ble_eq_true rfl, Nat.le_of_ble_eq_true rfl⟩ rfl hl.1 rfl (Nat.le_of_ble_eq_true rfl) ⟨Nat.zero_le _, Nat.zero_le _⟩ dX9_printed_5) (fun r2 pr2 => ?_)
  have pr2 : (r2.toInt = 1 ∧ (0 ≤ x1.toInt ∧ x1.toInt ≤ 23 ∧ tB (F (G.2.2.1 10) 4) x1.toInt.toNat)) ∨ (r2.toInt = 0 ∧ ¬ (0 ≤ x1.toInt ∧ x1.toInt ≤ 23 ∧ tB (F (G.2.2.1 10) 4) x1.toInt.toNat)) := pr2
  rw [← hw12] at pr2
  refine lv_if_eq (tgt := 16) hx hb dX9_printed_8 (by decide) (fun c3 => ?_) (fun c3 => ?_)
  · skip
    have ic3 := tn_eq rfl kI_0 c3
    refine lv_iconst (v := -1) hx hb dX9_printed_16 (by decide) ?_
    exact tc_iretF E hr hlk hG rfl (Or.inl ⟨(by grind), rfl, rfl⟩) dX9_printed_17
  · skip
    have ic3 := tn_ne rfl kI_0 c3
    refine lv_iload_n hx hb dX9_printed_11 rfl (lv_at hl 2 rfl) ?_
    refine lv_iconst (v := -1) hx hb dX9_printed_12 (by decide) ?_
    refine lv_icmp_ge (tgt := 18) hx hb dX9_printed_13 (by decide) (fun c4 => ?_) (fun c4 => ?_)
    · skip
      have ic4 := tn_le kI_m1 rfl c4
      refine lv_aload_n hx hb dX9_printed_18 rfl (lv_at hl 0 rfl) ?_
      refine tc_getrG E hG t0 fr_X9_47 rfl (fun _ => h8) (fun z => by cases z) dX9_printed_19 (fun ha5 => ?_)
      replace ha5 : τ (G.2.2.1 15) = 8 := ha5
      refine lv_iload_n hx hb dX9_printed_22 rfl (lv_at hl 1 rfl) ?_
      refine tc_callvF hG (tc_runV (As := [.int x1]) (rest := []) E hSt hG (x_X4_print l G F τ (G.2.2.1 15) x1 ha5 hw9 (by rcases pr2 with ⟨_, q9⟩ | ⟨q9, _⟩; exact q9; (exfalso; omega)) hR9) ha5 rv_8 kv_X4_print ml_X9_186 ⟨rfl, rfl, Nat.le_of_ble_eq_true rfl, Nat.le_of_ble_eq_true rfl⟩ rfl hl.1 rfl (Nat.le_of_ble_eq_true rfl) ⟨Nat.zero_le _, Nat.zero_le _⟩ dX9_printed_23) (fun F7 H locs pr6 hG => ?_)
      have E := E.f1 (F' := F7)
      have hSt := hSt.f1 (F' := F7)
      replace pr6 : PRO (G.2.2.1 15) F F7 (pT (kF F (G.2.2.1 12)) 24 x1.toInt) := pr6
      refine lv_iload_n hx hb dX9_printed_26 rfl (lv_at hl 2 rfl) ?_
      refine lv_iconst (v := -1) hx hb dX9_printed_27 (by decide) ?_
      refine lv_icmp_ne (tgt := 39) hx hb dX9_printed_28 (by decide) (fun c8 => ?_) (fun c8 => ?_)
      · skip
        have ic8 := tn_ne rfl kI_m1 c8
        refine lv_iload_n hx hb dX9_printed_39 rfl (lv_at hl 2 rfl) ?_
        refine lv_aload_n hx hb dX9_printed_40 rfl (lv_at hl 0 rfl) ?_
        refine tc_getrG E hG t0 fr_X9_47 rfl (fun _ => h8) (fun z => by cases z) dX9_printed_41 (fun ha9 => ?_)
        replace ha9 : τ (G.2.2.1 15) = 8 := ha9
        refine tc_getF E hG ha9 fi_X9_190 rfl dX9_printed_44 (fun z10 lz10 uz10 wz10 => ?_)
        replace wz10 : z10 = F7 (G.2.2.1 15) 1 := wz10
        have cz10 : z10.toInt = (F7 (G.2.2.1 15) 1).toInt := by rw [wz10]
        refine lv_icmp_ge (tgt := 62) hx hb dX9_printed_47 (by decide) (fun c11 => ?_) (fun c11 => ?_)
        · skip
          have ic11 := tn_le rfl rfl c11
          refine lv_iconst (v := -1) hx hb dX9_printed_62 (by decide) ?_
          exact tc_iretF E hr hlk hG rfl (Or.inr ⟨⟨(by rcases pr2 with ⟨_, q9⟩ | ⟨q9, _⟩; exact q9; (exfalso; omega)), by omega⟩, pr6, prA_out (F := F7) (P := G.2.2.1 15) (by omega) (by omega) (by omega)⟩) dX9_printed_63
        · skip
          have ic11 := tn_nle rfl rfl c11
          refine lv_aload_n hx hb dX9_printed_50 rfl (lv_at hl 0 rfl) ?_
          refine tc_getrG E hG t0 fr_X9_47 rfl (fun _ => h8) (fun z => by cases z) dX9_printed_51 (fun ha12 => ?_)
          replace ha12 : τ (G.2.2.1 15) = 8 := ha12
          refine tc_getrF (d := 1) E hG ha12 fr_X9_193 rfl dX9_printed_54 (fun ha13 => ?_)
          refine lv_iload_n hx hb dX9_printed_57 rfl (lv_at hl 2 rfl) ?_
          refine tc_caldF E hG ha13 ta_19 rfl (t_in (by omega) (by omega)) dX9_printed_58 (fun z14 lz14 uz14 wz14 => ?_)
          replace wz14 : z14 = F7 ((G.2.2.1 15) + 1) x2.toNatClampNeg := wz14
          have cz14 : z14.toInt = (F7 ((G.2.2.1 15) + 1) x2.toNatClampNeg).toInt := by rw [wz14]
          refine lv_goto (tgt := 63) hx hb dX9_printed_59 (by decide) ?_
          exact tc_iretF E hr hlk hG rfl (Or.inr ⟨⟨(by rcases pr2 with ⟨_, q9⟩ | ⟨q9, _⟩; exact q9; (exfalso; omega)), by omega⟩, pr6, (by rw [wz14]; exact prA_in (by omega) (by omega))⟩) dX9_printed_63
      · skip
        have ic8 := tn_eq rfl kI_m1 c8
        refine lv_aload_n hx hb dX9_printed_31 rfl (lv_at hl 0 rfl) ?_
        refine tc_getrG E hG t0 fr_X9_47 rfl (fun _ => h8) (fun z => by cases z) dX9_printed_32 (fun ha15 => ?_)
        replace ha15 : τ (G.2.2.1 15) = 8 := ha15
        refine tc_getF E hG ha15 fi_X9_190 rfl dX9_printed_35 (fun z16 lz16 uz16 wz16 => ?_)
        replace wz16 : z16 = F7 (G.2.2.1 15) 1 := wz16
        have cz16 : z16.toInt = (F7 (G.2.2.1 15) 1).toInt := by rw [wz16]
        exact tc_iretF E hr hlk hG rfl (Or.inr ⟨⟨(by rcases pr2 with ⟨_, q9⟩ | ⟨q9, _⟩; exact q9; (exfalso; omega)), by omega⟩, pr6, (by rw [wz16]; exact prA_1 (by omega) (by omega))⟩) dX9_printed_38
    · skip
      have ic4 := tn_nle kI_m1 rfl c4
      refine lv_iconst (v := -1) hx hb dX9_printed_16 (by decide) ?_
      exact tc_iretF E hr hlk hG rfl (Or.inl ⟨(by grind), rfl, rfl⟩) dX9_printed_17
