set_option maxHeartbeats 4000000 in
set_option maxRecDepth 100000 in
theorem x_X0_placeOfKid (l : Launch) (G : tG) (τ : Nat → Nat) (h0 : Nat) (x1 : Int32) (t0 : τ h0 = 3) : Met l yX0_placeOfKid (.code yX0_placeOfKid cX0_placeOfKid 3 (some .int) :: tWS) (tRm 0 0) (va_Pc [.ref h0, .int x1] (tPre G τ)) (tQp (fun r => (r.toInt = -1 ∧ ∀ j : Nat, (j : Int) < ((FF G) h0 10).toInt → ¬ ((FF G) (h0 + 2) j).toInt = x1.toInt) ∨ (0 ≤ r.toInt ∧ r.toInt < ((FF G) h0 10).toInt ∧ r.toInt ≤ 7 ∧ ((FF G) (h0 + 2) r.toInt.toNat).toInt = x1.toInt ∧ ∀ j : Nat, (j : Int) < r.toInt → ¬ ((FF G) (h0 + 2) j).toInt = x1.toInt))) 0 0 tNo := by
  refine tc_met (by decide) (Nat.le_of_ble_eq_true rfl) ?_
  intro p e s m below meth c E hSt hr hlk hG ls hl
  have hl : lv_has ls 3 [(0, .ref h0), (1, .int x1)] := hl
  have hx := E.1
  have hb := E.2.1
  obtain ⟨H, eH⟩ : ∃ H, H = s.heap := ⟨_, rfl⟩
  obtain ⟨locs, eL⟩ : ∃ x : List Loc, x = [] := ⟨_, rfl⟩
  have hG : tGH G τ s H locs := by rw [eH, eL]; exact hG
  suffices hW : W p l e (tRm 0 0) s m ([.ref h0, .int x1] : List Value).toArray below meth c H locs 0 0 (MQ below (tQp (fun r => (r.toInt = -1 ∧ ∀ j : Nat, (j : Int) < ((FF G) h0 10).toInt → ¬ ((FF G) (h0 + 2) j).toInt = x1.toInt) ∨ (0 ≤ r.toInt ∧ r.toInt < ((FF G) h0 10).toInt ∧ r.toInt ≤ 7 ∧ ((FF G) (h0 + 2) r.toInt.toNat).toInt = x1.toInt ∧ ∀ j : Nat, (j : Int) < r.toInt → ¬ ((FF G) (h0 + 2) j).toInt = x1.toInt))) ([.ref h0, .int x1] : List Value).toArray s 0 0 tNo) (F0 m 0 ls []) by subst eH; subst eL; exact hW
  have J2 : ∀ (n2 : Nat) (ls : Array Slot) (v2 : Int32), lv_has ls 3 [(0, .ref h0), (1, .int x1), (2, .int v2)] → 0 ≤ v2.toInt → v2.toInt ≤ 8 → (∀ j : Nat, (j : Int) < v2.toInt → ¬ ((FF G) (h0 + 2) j).toInt = x1.toInt) → (8 - v2.toInt).toNat < n2 → W p l e (tRm 0 0) s m ([.ref h0, .int x1] : List Value).toArray below meth c H locs 0 0 (MQ below (tQp (fun r => (r.toInt = -1 ∧ ∀ j : Nat, (j : Int) < ((FF G) h0 10).toInt → ¬ ((FF G) (h0 + 2) j).toInt = x1.toInt) ∨ (0 ≤ r.toInt ∧ r.toInt < ((FF G) h0 10).toInt ∧ r.toInt ≤ 7 ∧ ((FF G) (h0 + 2) r.toInt.toNat).toInt = x1.toInt ∧ ∀ j : Nat, (j : Int) < r.toInt → ¬ ((FF G) (h0 + 2) j).toInt = x1.toInt))) ([.ref h0, .int x1] : List Value).toArray s 0 0 tNo) (F0 m 2 ls []) := by
    intro n2
    induction n2 with
    | zero => intro ls v2 hl b2 c2 hex2 hn2; exact absurd hn2 (Nat.not_lt_zero _)
    | succ n2 ih2 =>
      intro ls v2 hl b2 c2 hex2 hn2
      refine lv_iload_n hx hb dX0_placeOfKid_2 rfl (lv_at hl 2 rfl) ?_
      refine lv_aload_n hx hb dX0_placeOfKid_3 rfl (lv_at hl 0 rfl) ?_
      refine tc_getF E hG t0 fi_X0_47 rfl dX0_placeOfKid_4 (fun z1 lz1 uz1 wz1 => ?_)
      replace wz1 : z1 = (FF G) h0 10 := wz1
      have cz1 : z1.toInt = ((FF G) h0 10).toInt := by rw [wz1]
      refine lv_icmp_ge (tgt := 28) hx hb dX0_placeOfKid_7 (by decide) (fun c2 => ?_) (fun c2 => ?_)
      · skip
        have ic2 := tn_le rfl rfl c2
        refine lv_iconst (v := -1) hx hb dX0_placeOfKid_28 (by decide) ?_
        exact tc_pret E hr hlk eH eL rfl (show ((-1 : Int32).toInt = -1 ∧ ∀ j : Nat, (j : Int) < ((FF G) h0 10).toInt → ¬ ((FF G) (h0 + 2) j).toInt = x1.toInt) ∨ (0 ≤ (-1 : Int32).toInt ∧ (-1 : Int32).toInt < ((FF G) h0 10).toInt ∧ (-1 : Int32).toInt ≤ 7 ∧ ((FF G) (h0 + 2) (-1 : Int32).toInt.toNat).toInt = x1.toInt ∧ ∀ j : Nat, (j : Int) < (-1 : Int32).toInt → ¬ ((FF G) (h0 + 2) j).toInt = x1.toInt) by have kk := kI_m1; exact Or.inl ⟨by decide, fun j hj => hex2 j (by omega)⟩) dX0_placeOfKid_29
      · skip
        have ic2 := tn_nle rfl rfl c2
        refine lv_aload_n hx hb dX0_placeOfKid_10 rfl (lv_at hl 0 rfl) ?_
        refine tc_getrF (d := 2) E hG t0 fr_X0_15 rfl dX0_placeOfKid_11 (fun ha3 => ?_)
        refine lv_iload_n hx hb dX0_placeOfKid_14 rfl (lv_at hl 2 rfl) ?_
        refine tc_ialdF E hG ha3 ta_12 rfl (t_in (by omega) (by omega)) dX0_placeOfKid_15 (fun z4 lz4 uz4 wz4 => ?_)
        replace wz4 : z4 = (FF G) (h0 + 2) v2.toNatClampNeg := wz4
        have cz4 : z4.toInt = ((FF G) (h0 + 2) v2.toNatClampNeg).toInt := by rw [wz4]
        refine lv_iload_n hx hb dX0_placeOfKid_16 rfl (lv_at hl 1 rfl) ?_
        refine lv_icmp_ne (tgt := 22) hx hb dX0_placeOfKid_17 (by decide) (fun c5 => ?_) (fun c5 => ?_)
        · skip
          have ic5 := tn_ne rfl rfl c5
          obtain ⟨z6, ez6⟩ : ∃ y : Int32, y = v2 + (1) := ⟨_, rfl⟩
          refine lv_iinc (v := z6) (lv' := [(2, .int z6), (0, .ref h0), (1, .int x1)]) hx hb dX0_placeOfKid_22 hl (k := 2) rfl (by rw [ez6]; rfl) (by decide) rfl (fun ls hl => ?_)
          have tz6 := tn_add ez6 rfl kI_1 (by omega) (by omega)
          refine lv_goto (tgt := 2) hx hb dX0_placeOfKid_25 (by decide) ?_
          exact ih2 ls z6 (lv_sub hl [1, 2, 0] rfl) (by omega) (by omega) (by intro j hj; first | (have k0 := kI_0; omega) | (by_cases q9 : (j : Int) = v2.toInt; (have e9 : j = v2.toNatClampNeg := (by show j = v2.toInt.toNat; omega); rw [e9]; grind); exact hex2 j (by omega))) (by omega)
        · skip
          have ic5 := tn_eq rfl rfl c5
          refine lv_iload_n hx hb dX0_placeOfKid_20 rfl (lv_at hl 2 rfl) ?_
          exact tc_pret E hr hlk eH eL rfl (show (v2.toInt = -1 ∧ ∀ j : Nat, (j : Int) < ((FF G) h0 10).toInt → ¬ ((FF G) (h0 + 2) j).toInt = x1.toInt) ∨ (0 ≤ v2.toInt ∧ v2.toInt < ((FF G) h0 10).toInt ∧ v2.toInt ≤ 7 ∧ ((FF G) (h0 + 2) v2.toInt.toNat).toInt = x1.toInt ∧ ∀ j : Nat, (j : Int) < v2.toInt → ¬ ((FF G) (h0 + 2) j).toInt = x1.toInt) by (refine Or.inr ⟨by omega, by omega, by omega, ?_, fun j hj => hex2 j hj⟩; (show ((FF G) (h0 + 2) v2.toNatClampNeg).toInt = x1.toInt); omega)) dX0_placeOfKid_21
  refine lv_iconst (v := 0) hx hb dX0_placeOfKid_0 (by decide) ?_
  refine lv_istore_n (lv' := [(2, .int 0), (0, .ref h0), (1, .int x1)]) hx hb dX0_placeOfKid_1 rfl hl (by decide) rfl (fun ls hl => ?_)
  exact J2 ((8 - (0 : Int32).toInt).toNat + 1) ls (0 : Int32) (lv_sub hl [1, 2, 0] rfl) (by decide) (by decide) (by intro j hj; first | (have k0 := kI_0; omega) | (by_cases q9 : (j : Int) = v2.toInt; (have e9 : j = v2.toNatClampNeg := (by show j = v2.toInt.toNat; omega); rw [e9]; grind); exact hex2 j (by omega))) (Nat.lt_succ_self _)

set_option maxHeartbeats 4000000 in
set_option maxRecDepth 100000 in
theorem x_X0_hasTold (l : Launch) (G : tG) (τ : Nat → Nat) (h0 : Nat) (x1 : Int32) (t0 : τ h0 = 3) : Met l yX0_hasTold (.code yX0_hasTold cX0_hasTold 2 (some .boolean) :: tWS) (tRm 2 40) (va_Pc [.ref h0, .int x1] (tPre G τ)) (tQp (fun r => ((0 ≤ r.toInt ∧ r.toInt ≤ 1) ∧ (r.toInt = 0 ∨ (0 ≤ x1.toInt ∧ x1.toInt ≤ 6))) ∧ ((r.toInt = 1 ∧ (0 ≤ x1.toInt ∧ (x1.toInt < nNum ((FF G) h0 4).toInt ∨ (4 ≤ x1.toInt ∧ x1.toInt ≤ 6)))) ∨ (r.toInt = 0 ∧ ¬ (0 ≤ x1.toInt ∧ (x1.toInt < nNum ((FF G) h0 4).toInt ∨ (4 ≤ x1.toInt ∧ x1.toInt ≤ 6))))))) 0 0 tNo := by
  refine tc_met (by decide) (Nat.le_of_ble_eq_true rfl) ?_
  intro p e s m below meth c E hSt hr hlk hG ls hl
  have hl : lv_has ls 2 [(0, .ref h0), (1, .int x1)] := hl
  have hx := E.1
  have hb := E.2.1
  obtain ⟨H, eH⟩ : ∃ H, H = s.heap := ⟨_, rfl⟩
  obtain ⟨locs, eL⟩ : ∃ x : List Loc, x = [] := ⟨_, rfl⟩
  have hG : tGH G τ s H locs := by rw [eH, eL]; exact hG
  suffices hW : W p l e (tRm 2 40) s m ([.ref h0, .int x1] : List Value).toArray below meth c H locs 0 0 (MQ below (tQp (fun r => ((0 ≤ r.toInt ∧ r.toInt ≤ 1) ∧ (r.toInt = 0 ∨ (0 ≤ x1.toInt ∧ x1.toInt ≤ 6))) ∧ ((r.toInt = 1 ∧ (0 ≤ x1.toInt ∧ (x1.toInt < nNum ((FF G) h0 4).toInt ∨ (4 ≤ x1.toInt ∧ x1.toInt ≤ 6)))) ∨ (r.toInt = 0 ∧ ¬ (0 ≤ x1.toInt ∧ (x1.toInt < nNum ((FF G) h0 4).toInt ∨ (4 ≤ x1.toInt ∧ x1.toInt ≤ 6))))))) ([.ref h0, .int x1] : List Value).toArray s 0 0 tNo) (F0 m 0 ls []) by subst eH; subst eL; exact hW
  refine lv_iload_n hx hb dX0_hasTold_0 rfl (lv_at hl 1 rfl) ?_
  refine lv_if_lt (tgt := 30) hx hb dX0_hasTold_1 (by decide) (fun c1 => ?_) (fun c1 => ?_)
  · skip
    have ic1 := tn_lt rfl kI_0 c1
    refine lv_iconst (v := 0) hx hb dX0_hasTold_30 (by decide) ?_
    exact tc_pret E hr hlk eH eL (t_nz (by decide) (by decide)).1 (show ((0 ≤ (0 : Int32).toInt ∧ (0 : Int32).toInt ≤ 1) ∧ ((0 : Int32).toInt = 0 ∨ (0 ≤ x1.toInt ∧ x1.toInt ≤ 6))) ∧ (((0 : Int32).toInt = 1 ∧ (0 ≤ x1.toInt ∧ (x1.toInt < nNum ((FF G) h0 4).toInt ∨ (4 ≤ x1.toInt ∧ x1.toInt ≤ 6)))) ∨ ((0 : Int32).toInt = 0 ∧ ¬ (0 ≤ x1.toInt ∧ (x1.toInt < nNum ((FF G) h0 4).toInt ∨ (4 ≤ x1.toInt ∧ x1.toInt ≤ 6))))) by have kk := kI_0; grind) dX0_hasTold_31
  · skip
    have ic1 := tn_nlt rfl kI_0 c1
    refine lv_iload_n hx hb dX0_hasTold_4 rfl (lv_at hl 1 rfl) ?_
    refine lv_aload_n hx hb dX0_hasTold_5 rfl (lv_at hl 0 rfl) ?_
    refine tc_getF E hG t0 fi_X0_29 rfl dX0_hasTold_6 (fun z2 lz2 uz2 wz2 => ?_)
    replace wz2 : z2 = (FF G) h0 4 := wz2
    have cz2 : z2.toInt = ((FF G) h0 4).toInt := by rw [wz2]
    refine tc_callp (tc_runS (As := [.int z2]) (rest := [.int x1]) E hSt hG (x_X1_numbersOf l G τ z2) ks_X1_numbersOf ml_X0_56 ⟨rfl, rfl, Nat.le_of_ble_eq_true rfl, Nat.le_of_ble_eq_true rfl⟩ rfl hl.1 rfl (Nat.le_of_ble_eq_true rfl) ⟨Nat.zero_le _, Nat.zero_le _⟩ dX0_hasTold_9) (fun r3 pr3 => ?_)
    have pr3 : r3.toInt = nNum z2.toInt ∧ (0 ≤ r3.toInt ∧ r3.toInt ≤ 4) ∧ (r3.toInt = 0 ∨ (0 ≤ z2.toInt ∧ z2.toInt ≤ 9)) := pr3
    refine lv_icmp_lt (tgt := 26) hx hb dX0_hasTold_12 (by decide) (fun c4 => ?_) (fun c4 => ?_)
    · skip
      have ic4 := tn_lt rfl rfl c4
      refine lv_iconst (v := 1) hx hb dX0_hasTold_26 (by decide) ?_
      refine lv_goto (tgt := 31) hx hb dX0_hasTold_27 (by decide) ?_
      exact tc_pret E hr hlk eH eL (t_nz (by decide) (by decide)).1 (show ((0 ≤ (1 : Int32).toInt ∧ (1 : Int32).toInt ≤ 1) ∧ ((1 : Int32).toInt = 0 ∨ (0 ≤ x1.toInt ∧ x1.toInt ≤ 6))) ∧ (((1 : Int32).toInt = 1 ∧ (0 ≤ x1.toInt ∧ (x1.toInt < nNum ((FF G) h0 4).toInt ∨ (4 ≤ x1.toInt ∧ x1.toInt ≤ 6)))) ∨ ((1 : Int32).toInt = 0 ∧ ¬ (0 ≤ x1.toInt ∧ (x1.toInt < nNum ((FF G) h0 4).toInt ∨ (4 ≤ x1.toInt ∧ x1.toInt ≤ 6))))) by have kk := kI_1; grind) dX0_hasTold_31
    · skip
      have ic4 := tn_nlt rfl rfl c4
      refine lv_iload_n hx hb dX0_hasTold_15 rfl (lv_at hl 1 rfl) ?_
      refine lv_iconst (v := 4) hx hb dX0_hasTold_16 (by decide) ?_
      refine lv_icmp_lt (tgt := 30) hx hb dX0_hasTold_17 (by decide) (fun c5 => ?_) (fun c5 => ?_)
      · skip
        have ic5 := tn_lt rfl kI_4 c5
        refine lv_iconst (v := 0) hx hb dX0_hasTold_30 (by decide) ?_
        exact tc_pret E hr hlk eH eL (t_nz (by decide) (by decide)).1 (show ((0 ≤ (0 : Int32).toInt ∧ (0 : Int32).toInt ≤ 1) ∧ ((0 : Int32).toInt = 0 ∨ (0 ≤ x1.toInt ∧ x1.toInt ≤ 6))) ∧ (((0 : Int32).toInt = 1 ∧ (0 ≤ x1.toInt ∧ (x1.toInt < nNum ((FF G) h0 4).toInt ∨ (4 ≤ x1.toInt ∧ x1.toInt ≤ 6)))) ∨ ((0 : Int32).toInt = 0 ∧ ¬ (0 ≤ x1.toInt ∧ (x1.toInt < nNum ((FF G) h0 4).toInt ∨ (4 ≤ x1.toInt ∧ x1.toInt ≤ 6))))) by have kk := kI_0; grind) dX0_hasTold_31
      · skip
        have ic5 := tn_nlt rfl kI_4 c5
        refine lv_iload_n hx hb dX0_hasTold_20 rfl (lv_at hl 1 rfl) ?_
        refine lv_bipush (v := 6) hx hb dX0_hasTold_21 (by decide) ?_
        refine lv_icmp_gt (tgt := 30) hx hb dX0_hasTold_23 (by decide) (fun c6 => ?_) (fun c6 => ?_)
        · skip
          have ic6 := tn_lt kI_6 rfl c6
          refine lv_iconst (v := 0) hx hb dX0_hasTold_30 (by decide) ?_
          exact tc_pret E hr hlk eH eL (t_nz (by decide) (by decide)).1 (show ((0 ≤ (0 : Int32).toInt ∧ (0 : Int32).toInt ≤ 1) ∧ ((0 : Int32).toInt = 0 ∨ (0 ≤ x1.toInt ∧ x1.toInt ≤ 6))) ∧ (((0 : Int32).toInt = 1 ∧ (0 ≤ x1.toInt ∧ (x1.toInt < nNum ((FF G) h0 4).toInt ∨ (4 ≤ x1.toInt ∧ x1.toInt ≤ 6)))) ∨ ((0 : Int32).toInt = 0 ∧ ¬ (0 ≤ x1.toInt ∧ (x1.toInt < nNum ((FF G) h0 4).toInt ∨ (4 ≤ x1.toInt ∧ x1.toInt ≤ 6))))) by have kk := kI_0; grind) dX0_hasTold_31
        · skip
          have ic6 := tn_nlt kI_6 rfl c6
          refine lv_iconst (v := 1) hx hb dX0_hasTold_26 (by decide) ?_
          refine lv_goto (tgt := 31) hx hb dX0_hasTold_27 (by decide) ?_
          exact tc_pret E hr hlk eH eL (t_nz (by decide) (by decide)).1 (show ((0 ≤ (1 : Int32).toInt ∧ (1 : Int32).toInt ≤ 1) ∧ ((1 : Int32).toInt = 0 ∨ (0 ≤ x1.toInt ∧ x1.toInt ≤ 6))) ∧ (((1 : Int32).toInt = 1 ∧ (0 ≤ x1.toInt ∧ (x1.toInt < nNum ((FF G) h0 4).toInt ∨ (4 ≤ x1.toInt ∧ x1.toInt ≤ 6)))) ∨ ((1 : Int32).toInt = 0 ∧ ¬ (0 ≤ x1.toInt ∧ (x1.toInt < nNum ((FF G) h0 4).toInt ∨ (4 ≤ x1.toInt ∧ x1.toInt ≤ 6))))) by have kk := kI_1; grind) dX0_hasTold_31

set_option maxHeartbeats 4000000 in
set_option maxRecDepth 100000 in
theorem x_X0_keepsOrder (l : Launch) (G : tG) (τ : Nat → Nat) (h0 : Nat) (x1 : Int32) (x2 : Int32) (t0 : τ h0 = 3) (l1 : 0 ≤ x1.toInt) (u1 : x1.toInt ≤ 3) : Met l yX0_keepsOrder (.code yX0_keepsOrder cX0_keepsOrder 3 (some .boolean) :: tWS) (tRm 0 0) (va_Pc [.ref h0, .int x1, .int x2] (tPre G τ)) (tQp (fun r => (r.toInt = 1 ∧ (((FF G) h0 4).toInt = 3 → (x1.toInt % 2 = 0 → x2.toInt ≤ ((FF G) (h0 + 1) (x1.toInt.toNat + 1)).toInt) ∧ (x1.toInt % 2 = 1 → ((FF G) (h0 + 1) (x1.toInt.toNat - 1)).toInt ≤ x2.toInt))) ∨ (r.toInt = 0 ∧ ¬ (((FF G) h0 4).toInt = 3 → (x1.toInt % 2 = 0 → x2.toInt ≤ ((FF G) (h0 + 1) (x1.toInt.toNat + 1)).toInt) ∧ (x1.toInt % 2 = 1 → ((FF G) (h0 + 1) (x1.toInt.toNat - 1)).toInt ≤ x2.toInt))))) 0 0 tNo := by
  refine tc_met (by decide) (Nat.le_of_ble_eq_true rfl) ?_
  intro p e s m below meth c E hSt hr hlk hG ls hl
  have hl : lv_has ls 3 [(0, .ref h0), (1, .int x1), (2, .int x2)] := hl
  have hx := E.1
  have hb := E.2.1
  obtain ⟨H, eH⟩ : ∃ H, H = s.heap := ⟨_, rfl⟩
  obtain ⟨locs, eL⟩ : ∃ x : List Loc, x = [] := ⟨_, rfl⟩
  have hG : tGH G τ s H locs := by rw [eH, eL]; exact hG
  suffices hW : W p l e (tRm 0 0) s m ([.ref h0, .int x1, .int x2] : List Value).toArray below meth c H locs 0 0 (MQ below (tQp (fun r => (r.toInt = 1 ∧ (((FF G) h0 4).toInt = 3 → (x1.toInt % 2 = 0 → x2.toInt ≤ ((FF G) (h0 + 1) (x1.toInt.toNat + 1)).toInt) ∧ (x1.toInt % 2 = 1 → ((FF G) (h0 + 1) (x1.toInt.toNat - 1)).toInt ≤ x2.toInt))) ∨ (r.toInt = 0 ∧ ¬ (((FF G) h0 4).toInt = 3 → (x1.toInt % 2 = 0 → x2.toInt ≤ ((FF G) (h0 + 1) (x1.toInt.toNat + 1)).toInt) ∧ (x1.toInt % 2 = 1 → ((FF G) (h0 + 1) (x1.toInt.toNat - 1)).toInt ≤ x2.toInt))))) ([.ref h0, .int x1, .int x2] : List Value).toArray s 0 0 tNo) (F0 m 0 ls []) by subst eH; subst eL; exact hW
  refine lv_aload_n hx hb dX0_keepsOrder_0 rfl (lv_at hl 0 rfl) ?_
  refine tc_getF E hG t0 fi_X0_29 rfl dX0_keepsOrder_1 (fun z1 lz1 uz1 wz1 => ?_)
  replace wz1 : z1 = (FF G) h0 4 := wz1
  have cz1 : z1.toInt = ((FF G) h0 4).toInt := by rw [wz1]
  refine lv_iconst (v := 3) hx hb dX0_keepsOrder_4 (by decide) ?_
  refine lv_icmp_eq (tgt := 10) hx hb dX0_keepsOrder_5 (by decide) (fun c2 => ?_) (fun c2 => ?_)
  · skip
    have ic2 := tn_eq rfl kI_3 c2
    refine lv_iload_n hx hb dX0_keepsOrder_10 rfl (lv_at hl 1 rfl) ?_
    refine lv_iconst (v := 2) hx hb dX0_keepsOrder_11 (by decide) ?_
    refine lv_irem hx hb dX0_keepsOrder_12 (by decide) ?_
    refine lv_topi (fun z3 ez3 => ?_)
    have tz3 := tn_rem ez3 kI_2 (by omega) (by decide)
    refine lv_if_ne (tgt := 36) hx hb dX0_keepsOrder_13 (by decide) (fun c4 => ?_) (fun c4 => ?_)
    · skip
      have ic4 := tn_ne rfl kI_0 c4
      refine lv_iload_n hx hb dX0_keepsOrder_36 rfl (lv_at hl 2 rfl) ?_
      refine lv_aload_n hx hb dX0_keepsOrder_37 rfl (lv_at hl 0 rfl) ?_
      refine tc_getrF (d := 1) E hG t0 fr_X0_9 rfl dX0_keepsOrder_38 (fun ha5 => ?_)
      refine lv_iload_n hx hb dX0_keepsOrder_41 rfl (lv_at hl 1 rfl) ?_
      refine lv_iconst (v := 1) hx hb dX0_keepsOrder_42 (by decide) ?_
      refine lv_isub hx hb dX0_keepsOrder_43 ?_
      refine lv_topi (fun z6 ez6 => ?_)
      have tz6 := tn_sub ez6 rfl kI_1 (by omega) (by omega)
      refine tc_ialdF E hG ha5 ta_11 rfl (t_in (by omega) (by omega)) dX0_keepsOrder_44 (fun z7 lz7 uz7 wz7 => ?_)
      replace wz7 : z7 = (FF G) (h0 + 1) z6.toNatClampNeg := wz7
      have cz7 : z7.toInt = ((FF G) (h0 + 1) z6.toNatClampNeg).toInt := by rw [wz7]
      refine lv_icmp_lt (tgt := 52) hx hb dX0_keepsOrder_45 (by decide) (fun c8 => ?_) (fun c8 => ?_)
      · skip
        have ic8 := tn_lt rfl rfl c8
        refine lv_iconst (v := 0) hx hb dX0_keepsOrder_52 (by decide) ?_
        exact tc_pret E hr hlk eH eL (t_nz (by decide) (by decide)).1 (show ((0 : Int32).toInt = 1 ∧ (((FF G) h0 4).toInt = 3 → (x1.toInt % 2 = 0 → x2.toInt ≤ ((FF G) (h0 + 1) (x1.toInt.toNat + 1)).toInt) ∧ (x1.toInt % 2 = 1 → ((FF G) (h0 + 1) (x1.toInt.toNat - 1)).toInt ≤ x2.toInt))) ∨ ((0 : Int32).toInt = 0 ∧ ¬ (((FF G) h0 4).toInt = 3 → (x1.toInt % 2 = 0 → x2.toInt ≤ ((FF G) (h0 + 1) (x1.toInt.toNat + 1)).toInt) ∧ (x1.toInt % 2 = 1 → ((FF G) (h0 + 1) (x1.toInt.toNat - 1)).toInt ≤ x2.toInt))) by have kk := kI_0; (have n1 : ∀ z : Int32, z.toNatClampNeg = z.toInt.toNat := fun _ => rfl; simp only [n1] at *; grind)) dX0_keepsOrder_53
      · skip
        have ic8 := tn_nlt rfl rfl c8
        refine lv_iconst (v := 1) hx hb dX0_keepsOrder_48 (by decide) ?_
        refine lv_goto (tgt := 53) hx hb dX0_keepsOrder_49 (by decide) ?_
        exact tc_pret E hr hlk eH eL (t_nz (by decide) (by decide)).1 (show ((1 : Int32).toInt = 1 ∧ (((FF G) h0 4).toInt = 3 → (x1.toInt % 2 = 0 → x2.toInt ≤ ((FF G) (h0 + 1) (x1.toInt.toNat + 1)).toInt) ∧ (x1.toInt % 2 = 1 → ((FF G) (h0 + 1) (x1.toInt.toNat - 1)).toInt ≤ x2.toInt))) ∨ ((1 : Int32).toInt = 0 ∧ ¬ (((FF G) h0 4).toInt = 3 → (x1.toInt % 2 = 0 → x2.toInt ≤ ((FF G) (h0 + 1) (x1.toInt.toNat + 1)).toInt) ∧ (x1.toInt % 2 = 1 → ((FF G) (h0 + 1) (x1.toInt.toNat - 1)).toInt ≤ x2.toInt))) by have kk := kI_1; (have n1 : ∀ z : Int32, z.toNatClampNeg = z.toInt.toNat := fun _ => rfl; simp only [n1] at *; grind)) dX0_keepsOrder_53
    · skip
      have ic4 := tn_eq rfl kI_0 c4
      refine lv_iload_n hx hb dX0_keepsOrder_16 rfl (lv_at hl 2 rfl) ?_
      refine lv_aload_n hx hb dX0_keepsOrder_17 rfl (lv_at hl 0 rfl) ?_
      refine tc_getrF (d := 1) E hG t0 fr_X0_9 rfl dX0_keepsOrder_18 (fun ha9 => ?_)
      refine lv_iload_n hx hb dX0_keepsOrder_21 rfl (lv_at hl 1 rfl) ?_
      refine lv_iconst (v := 1) hx hb dX0_keepsOrder_22 (by decide) ?_
      refine lv_iadd hx hb dX0_keepsOrder_23 ?_
      refine lv_topi (fun z10 ez10 => ?_)
      have tz10 := tn_add ez10 rfl kI_1 (by omega) (by omega)
      refine tc_ialdF E hG ha9 ta_11 rfl (t_in (by omega) (by omega)) dX0_keepsOrder_24 (fun z11 lz11 uz11 wz11 => ?_)
      replace wz11 : z11 = (FF G) (h0 + 1) z10.toNatClampNeg := wz11
      have cz11 : z11.toInt = ((FF G) (h0 + 1) z10.toNatClampNeg).toInt := by rw [wz11]
      refine lv_icmp_gt (tgt := 32) hx hb dX0_keepsOrder_25 (by decide) (fun c12 => ?_) (fun c12 => ?_)
      · skip
        have ic12 := tn_lt rfl rfl c12
        refine lv_iconst (v := 0) hx hb dX0_keepsOrder_32 (by decide) ?_
        refine lv_goto (tgt := 53) hx hb dX0_keepsOrder_33 (by decide) ?_
        exact tc_pret E hr hlk eH eL (t_nz (by decide) (by decide)).1 (show ((0 : Int32).toInt = 1 ∧ (((FF G) h0 4).toInt = 3 → (x1.toInt % 2 = 0 → x2.toInt ≤ ((FF G) (h0 + 1) (x1.toInt.toNat + 1)).toInt) ∧ (x1.toInt % 2 = 1 → ((FF G) (h0 + 1) (x1.toInt.toNat - 1)).toInt ≤ x2.toInt))) ∨ ((0 : Int32).toInt = 0 ∧ ¬ (((FF G) h0 4).toInt = 3 → (x1.toInt % 2 = 0 → x2.toInt ≤ ((FF G) (h0 + 1) (x1.toInt.toNat + 1)).toInt) ∧ (x1.toInt % 2 = 1 → ((FF G) (h0 + 1) (x1.toInt.toNat - 1)).toInt ≤ x2.toInt))) by have kk := kI_0; (have n1 : ∀ z : Int32, z.toNatClampNeg = z.toInt.toNat := fun _ => rfl; simp only [n1] at *; grind)) dX0_keepsOrder_53
      · skip
        have ic12 := tn_nlt rfl rfl c12
        refine lv_iconst (v := 1) hx hb dX0_keepsOrder_28 (by decide) ?_
        refine lv_goto (tgt := 53) hx hb dX0_keepsOrder_29 (by decide) ?_
        exact tc_pret E hr hlk eH eL (t_nz (by decide) (by decide)).1 (show ((1 : Int32).toInt = 1 ∧ (((FF G) h0 4).toInt = 3 → (x1.toInt % 2 = 0 → x2.toInt ≤ ((FF G) (h0 + 1) (x1.toInt.toNat + 1)).toInt) ∧ (x1.toInt % 2 = 1 → ((FF G) (h0 + 1) (x1.toInt.toNat - 1)).toInt ≤ x2.toInt))) ∨ ((1 : Int32).toInt = 0 ∧ ¬ (((FF G) h0 4).toInt = 3 → (x1.toInt % 2 = 0 → x2.toInt ≤ ((FF G) (h0 + 1) (x1.toInt.toNat + 1)).toInt) ∧ (x1.toInt % 2 = 1 → ((FF G) (h0 + 1) (x1.toInt.toNat - 1)).toInt ≤ x2.toInt))) by have kk := kI_1; (have n1 : ∀ z : Int32, z.toNatClampNeg = z.toInt.toNat := fun _ => rfl; simp only [n1] at *; grind)) dX0_keepsOrder_53
  · skip
    have ic2 := tn_ne rfl kI_3 c2
    refine lv_iconst (v := 1) hx hb dX0_keepsOrder_8 (by decide) ?_
    exact tc_pret E hr hlk eH eL (t_nz (by decide) (by decide)).1 (show ((1 : Int32).toInt = 1 ∧ (((FF G) h0 4).toInt = 3 → (x1.toInt % 2 = 0 → x2.toInt ≤ ((FF G) (h0 + 1) (x1.toInt.toNat + 1)).toInt) ∧ (x1.toInt % 2 = 1 → ((FF G) (h0 + 1) (x1.toInt.toNat - 1)).toInt ≤ x2.toInt))) ∨ ((1 : Int32).toInt = 0 ∧ ¬ (((FF G) h0 4).toInt = 3 → (x1.toInt % 2 = 0 → x2.toInt ≤ ((FF G) (h0 + 1) (x1.toInt.toNat + 1)).toInt) ∧ (x1.toInt % 2 = 1 → ((FF G) (h0 + 1) (x1.toInt.toNat - 1)).toInt ≤ x2.toInt))) by have kk := kI_1; (have n1 : ∀ z : Int32, z.toNatClampNeg = z.toInt.toNat := fun _ => rfl; simp only [n1] at *; grind)) dX0_keepsOrder_9

/-- v may be told as number, share, least or most w -/
def mbT (F : mF) (b : Nat) (w v : Int) : Prop := (w = 4 → 0 ≤ v ∧ v ≤ 9) ∧ (w = 5 → 0 ≤ v ∧ v ≤ (F b 9).toInt) ∧ (w = 6 → (F b 8).toInt ≤ v ∧ v ≤ 99) ∧ (¬ (w = 4 ∨ w = 5 ∨ w = 6) → (0 ≤ w ∧ w < nNum (F b 4).toInt ∧ nLow (F b 4).toInt ≤ v ∧ ((w % 2 = 0 ∧ v ≤ nHA (F b 4).toInt) ∨ (w % 2 = 1 ∧ v ≤ nHB (F b 4).toInt))) ∧ ((F b 4).toInt = 3 → (w % 2 = 0 → v ≤ (F (b + 1) (w.toNat + 1)).toInt) ∧ (w % 2 = 1 → (F (b + 1) (w.toNat - 1)).toInt ≤ v)))
set_option maxHeartbeats 4000000 in
set_option maxRecDepth 100000 in
theorem x_X0_mayBeTold (l : Launch) (G : tG) (τ : Nat → Nat) (h0 : Nat) (x1 : Int32) (x2 : Int32) (t0 : τ h0 = 3) : Met l yX0_mayBeTold (.code yX0_mayBeTold cX0_mayBeTold 3 (some .boolean) :: tWS) (tRm 3 63) (va_Pc [.ref h0, .int x1, .int x2] (tPre G τ)) (tQp (fun r => (r.toInt = 1 ∧ (mbT (FF G) h0 x1.toInt x2.toInt)) ∨ (r.toInt = 0 ∧ ¬ (mbT (FF G) h0 x1.toInt x2.toInt)))) 0 0 tNo := by
  refine tc_met (by decide) (Nat.le_of_ble_eq_true rfl) ?_
  intro p e s m below meth c E hSt hr hlk hG ls hl
  have hl : lv_has ls 3 [(0, .ref h0), (1, .int x1), (2, .int x2)] := hl
  have hx := E.1
  have hb := E.2.1
  obtain ⟨H, eH⟩ : ∃ H, H = s.heap := ⟨_, rfl⟩
  obtain ⟨locs, eL⟩ : ∃ x : List Loc, x = [] := ⟨_, rfl⟩
  have hG : tGH G τ s H locs := by rw [eH, eL]; exact hG
  suffices hW : W p l e (tRm 3 63) s m ([.ref h0, .int x1, .int x2] : List Value).toArray below meth c H locs 0 0 (MQ below (tQp (fun r => (r.toInt = 1 ∧ (mbT (FF G) h0 x1.toInt x2.toInt)) ∨ (r.toInt = 0 ∧ ¬ (mbT (FF G) h0 x1.toInt x2.toInt)))) ([.ref h0, .int x1, .int x2] : List Value).toArray s 0 0 tNo) (F0 m 0 ls []) by subst eH; subst eL; exact hW
  refine lv_iload_n hx hb dX0_mayBeTold_0 rfl (lv_at hl 1 rfl) ?_
  rcases (show (x1.toInt < 4 ∨ 6 < x1.toInt) ∨ x1.toInt = 4 ∨ x1.toInt = 5 ∨ x1.toInt = 6 by omega) with k1 | k1 | k1 | k1
  · refine lv_tableOut (tgt := 82) hx hb dX0_mayBeTold_1 k1 (by decide) ?_
    refine lv_aload_n hx hb dX0_mayBeTold_82 rfl (lv_at hl 0 rfl) ?_
    refine tc_getF E hG t0 fi_X0_29 rfl dX0_mayBeTold_83 (fun z2 lz2 uz2 wz2 => ?_)
    replace wz2 : z2 = (FF G) h0 4 := wz2
    have cz2 : z2.toInt = ((FF G) h0 4).toInt := by rw [wz2]
    refine lv_iload_n hx hb dX0_mayBeTold_86 rfl (lv_at hl 1 rfl) ?_
    refine lv_iload_n hx hb dX0_mayBeTold_87 rfl (lv_at hl 2 rfl) ?_
    refine tc_callp (tc_runS (As := [.int z2, .int x1, .int x2]) (rest := []) E hSt hG (x_X1_isInRange l G τ z2 x1 x2) ks_X1_isInRange ml_X0_62 ⟨rfl, rfl, Nat.le_of_ble_eq_true rfl, Nat.le_of_ble_eq_true rfl⟩ rfl hl.1 rfl (Nat.le_of_ble_eq_true rfl) ⟨Nat.zero_le _, Nat.zero_le _⟩ dX0_mayBeTold_88) (fun r3 pr3 => ?_)
    have pr3 : ((r3.toInt = 1 ∧ ((0 ≤ x1.toInt ∧ x1.toInt < nNum z2.toInt ∧ nLow z2.toInt ≤ x2.toInt ∧ ((x1.toInt % 2 = 0 ∧ x2.toInt ≤ nHA z2.toInt) ∨ (x1.toInt % 2 = 1 ∧ x2.toInt ≤ nHB z2.toInt))))) ∨ (r3.toInt = 0 ∧ ¬ ((0 ≤ x1.toInt ∧ x1.toInt < nNum z2.toInt ∧ nLow z2.toInt ≤ x2.toInt ∧ ((x1.toInt % 2 = 0 ∧ x2.toInt ≤ nHA z2.toInt) ∨ (x1.toInt % 2 = 1 ∧ x2.toInt ≤ nHB z2.toInt)))))) ∧ (r3.toInt = 0 ∨ (0 ≤ x1.toInt ∧ x1.toInt ≤ 3)) := pr3
    refine lv_if_eq (tgt := 107) hx hb dX0_mayBeTold_91 (by decide) (fun c4 => ?_) (fun c4 => ?_)
    · skip
      have ic4 := tn_eq rfl kI_0 c4
      refine lv_iconst (v := 0) hx hb dX0_mayBeTold_107 (by decide) ?_
      exact tc_pret E hr hlk eH eL (t_nz (by decide) (by decide)).1 (show ((0 : Int32).toInt = 1 ∧ (mbT (FF G) h0 x1.toInt x2.toInt)) ∨ ((0 : Int32).toInt = 0 ∧ ¬ (mbT (FF G) h0 x1.toInt x2.toInt)) by have kk := kI_0; (unfold mbT; grind)) dX0_mayBeTold_108
    · skip
      have ic4 := tn_ne rfl kI_0 c4
      refine lv_aload_n hx hb dX0_mayBeTold_94 rfl (lv_at hl 0 rfl) ?_
      refine lv_iload_n hx hb dX0_mayBeTold_95 rfl (lv_at hl 1 rfl) ?_
      refine lv_iload_n hx hb dX0_mayBeTold_96 rfl (lv_at hl 2 rfl) ?_
      refine tc_callp (tc_runV (As := [.int x1, .int x2]) (rest := []) E hSt hG (x_X0_keepsOrder l G τ h0 x1 x2 t0 (by omega) (by omega)) t0 rv_3 kv_X0_keepsOrder ml_X0_66 ⟨rfl, rfl, Nat.le_of_ble_eq_true rfl, Nat.le_of_ble_eq_true rfl⟩ rfl hl.1 rfl (Nat.le_of_ble_eq_true rfl) ⟨Nat.zero_le _, Nat.zero_le _⟩ dX0_mayBeTold_97) (fun r5 pr5 => ?_)
      have pr5 : (r5.toInt = 1 ∧ (((FF G) h0 4).toInt = 3 → (x1.toInt % 2 = 0 → x2.toInt ≤ ((FF G) (h0 + 1) (x1.toInt.toNat + 1)).toInt) ∧ (x1.toInt % 2 = 1 → ((FF G) (h0 + 1) (x1.toInt.toNat - 1)).toInt ≤ x2.toInt))) ∨ (r5.toInt = 0 ∧ ¬ (((FF G) h0 4).toInt = 3 → (x1.toInt % 2 = 0 → x2.toInt ≤ ((FF G) (h0 + 1) (x1.toInt.toNat + 1)).toInt) ∧ (x1.toInt % 2 = 1 → ((FF G) (h0 + 1) (x1.toInt.toNat - 1)).toInt ≤ x2.toInt))) := pr5
      refine lv_if_eq (tgt := 107) hx hb dX0_mayBeTold_100 (by decide) (fun c6 => ?_) (fun c6 => ?_)
      · skip
        have ic6 := tn_eq rfl kI_0 c6
        refine lv_iconst (v := 0) hx hb dX0_mayBeTold_107 (by decide) ?_
        exact tc_pret E hr hlk eH eL (t_nz (by decide) (by decide)).1 (show ((0 : Int32).toInt = 1 ∧ (mbT (FF G) h0 x1.toInt x2.toInt)) ∨ ((0 : Int32).toInt = 0 ∧ ¬ (mbT (FF G) h0 x1.toInt x2.toInt)) by have kk := kI_0; (unfold mbT; grind)) dX0_mayBeTold_108
      · skip
        have ic6 := tn_ne rfl kI_0 c6
        refine lv_iconst (v := 1) hx hb dX0_mayBeTold_103 (by decide) ?_
        refine lv_goto (tgt := 108) hx hb dX0_mayBeTold_104 (by decide) ?_
        exact tc_pret E hr hlk eH eL (t_nz (by decide) (by decide)).1 (show ((1 : Int32).toInt = 1 ∧ (mbT (FF G) h0 x1.toInt x2.toInt)) ∨ ((1 : Int32).toInt = 0 ∧ ¬ (mbT (FF G) h0 x1.toInt x2.toInt)) by have kk := kI_1; (unfold mbT; grind)) dX0_mayBeTold_108
  · refine lv_tableIn (off := 27) (tgt := 28) hx hb dX0_mayBeTold_1 (by rw [k1]; decide) (by rw [k1]; decide) (by rw [k1]; rfl) (by decide) ?_
    refine lv_iload_n hx hb dX0_mayBeTold_28 rfl (lv_at hl 2 rfl) ?_
    refine lv_if_lt (tgt := 42) hx hb dX0_mayBeTold_29 (by decide) (fun c7 => ?_) (fun c7 => ?_)
    · skip
      have ic7 := tn_lt rfl kI_0 c7
      refine lv_iconst (v := 0) hx hb dX0_mayBeTold_42 (by decide) ?_
      exact tc_pret E hr hlk eH eL (t_nz (by decide) (by decide)).1 (show ((0 : Int32).toInt = 1 ∧ (mbT (FF G) h0 x1.toInt x2.toInt)) ∨ ((0 : Int32).toInt = 0 ∧ ¬ (mbT (FF G) h0 x1.toInt x2.toInt)) by have kk := kI_0; (unfold mbT; grind)) dX0_mayBeTold_43
    · skip
      have ic7 := tn_nlt rfl kI_0 c7
      refine lv_iload_n hx hb dX0_mayBeTold_32 rfl (lv_at hl 2 rfl) ?_
      refine lv_bipush (v := 9) hx hb dX0_mayBeTold_33 (by decide) ?_
      refine lv_icmp_gt (tgt := 42) hx hb dX0_mayBeTold_35 (by decide) (fun c8 => ?_) (fun c8 => ?_)
      · skip
        have ic8 := tn_lt kI_9 rfl c8
        refine lv_iconst (v := 0) hx hb dX0_mayBeTold_42 (by decide) ?_
        exact tc_pret E hr hlk eH eL (t_nz (by decide) (by decide)).1 (show ((0 : Int32).toInt = 1 ∧ (mbT (FF G) h0 x1.toInt x2.toInt)) ∨ ((0 : Int32).toInt = 0 ∧ ¬ (mbT (FF G) h0 x1.toInt x2.toInt)) by have kk := kI_0; (unfold mbT; grind)) dX0_mayBeTold_43
      · skip
        have ic8 := tn_nlt kI_9 rfl c8
        refine lv_iconst (v := 1) hx hb dX0_mayBeTold_38 (by decide) ?_
        refine lv_goto (tgt := 43) hx hb dX0_mayBeTold_39 (by decide) ?_
        exact tc_pret E hr hlk eH eL (t_nz (by decide) (by decide)).1 (show ((1 : Int32).toInt = 1 ∧ (mbT (FF G) h0 x1.toInt x2.toInt)) ∨ ((1 : Int32).toInt = 0 ∧ ¬ (mbT (FF G) h0 x1.toInt x2.toInt)) by have kk := kI_1; (unfold mbT; grind)) dX0_mayBeTold_43
  · refine lv_tableIn (off := 43) (tgt := 44) hx hb dX0_mayBeTold_1 (by rw [k1]; decide) (by rw [k1]; decide) (by rw [k1]; rfl) (by decide) ?_
    refine lv_iload_n hx hb dX0_mayBeTold_44 rfl (lv_at hl 2 rfl) ?_
    refine lv_if_lt (tgt := 60) hx hb dX0_mayBeTold_45 (by decide) (fun c9 => ?_) (fun c9 => ?_)
    · skip
      have ic9 := tn_lt rfl kI_0 c9
      refine lv_iconst (v := 0) hx hb dX0_mayBeTold_60 (by decide) ?_
      exact tc_pret E hr hlk eH eL (t_nz (by decide) (by decide)).1 (show ((0 : Int32).toInt = 1 ∧ (mbT (FF G) h0 x1.toInt x2.toInt)) ∨ ((0 : Int32).toInt = 0 ∧ ¬ (mbT (FF G) h0 x1.toInt x2.toInt)) by have kk := kI_0; (unfold mbT; grind)) dX0_mayBeTold_61
    · skip
      have ic9 := tn_nlt rfl kI_0 c9
      refine lv_iload_n hx hb dX0_mayBeTold_48 rfl (lv_at hl 2 rfl) ?_
      refine lv_aload_n hx hb dX0_mayBeTold_49 rfl (lv_at hl 0 rfl) ?_
      refine tc_getF E hG t0 fi_X0_44 rfl dX0_mayBeTold_50 (fun z10 lz10 uz10 wz10 => ?_)
      replace wz10 : z10 = (FF G) h0 9 := wz10
      have cz10 : z10.toInt = ((FF G) h0 9).toInt := by rw [wz10]
      refine lv_icmp_gt (tgt := 60) hx hb dX0_mayBeTold_53 (by decide) (fun c11 => ?_) (fun c11 => ?_)
      · skip
        have ic11 := tn_lt rfl rfl c11
        refine lv_iconst (v := 0) hx hb dX0_mayBeTold_60 (by decide) ?_
        exact tc_pret E hr hlk eH eL (t_nz (by decide) (by decide)).1 (show ((0 : Int32).toInt = 1 ∧ (mbT (FF G) h0 x1.toInt x2.toInt)) ∨ ((0 : Int32).toInt = 0 ∧ ¬ (mbT (FF G) h0 x1.toInt x2.toInt)) by have kk := kI_0; (unfold mbT; grind)) dX0_mayBeTold_61
      · skip
        have ic11 := tn_nlt rfl rfl c11
        refine lv_iconst (v := 1) hx hb dX0_mayBeTold_56 (by decide) ?_
        refine lv_goto (tgt := 61) hx hb dX0_mayBeTold_57 (by decide) ?_
        exact tc_pret E hr hlk eH eL (t_nz (by decide) (by decide)).1 (show ((1 : Int32).toInt = 1 ∧ (mbT (FF G) h0 x1.toInt x2.toInt)) ∨ ((1 : Int32).toInt = 0 ∧ ¬ (mbT (FF G) h0 x1.toInt x2.toInt)) by have kk := kI_1; (unfold mbT; grind)) dX0_mayBeTold_61
  · refine lv_tableIn (off := 61) (tgt := 62) hx hb dX0_mayBeTold_1 (by rw [k1]; decide) (by rw [k1]; decide) (by rw [k1]; rfl) (by decide) ?_
    refine lv_iload_n hx hb dX0_mayBeTold_62 rfl (lv_at hl 2 rfl) ?_
    refine lv_aload_n hx hb dX0_mayBeTold_63 rfl (lv_at hl 0 rfl) ?_
    refine tc_getF E hG t0 fi_X0_41 rfl dX0_mayBeTold_64 (fun z12 lz12 uz12 wz12 => ?_)
    replace wz12 : z12 = (FF G) h0 8 := wz12
    have cz12 : z12.toInt = ((FF G) h0 8).toInt := by rw [wz12]
    refine lv_icmp_lt (tgt := 80) hx hb dX0_mayBeTold_67 (by decide) (fun c13 => ?_) (fun c13 => ?_)
    · skip
      have ic13 := tn_lt rfl rfl c13
      refine lv_iconst (v := 0) hx hb dX0_mayBeTold_80 (by decide) ?_
      exact tc_pret E hr hlk eH eL (t_nz (by decide) (by decide)).1 (show ((0 : Int32).toInt = 1 ∧ (mbT (FF G) h0 x1.toInt x2.toInt)) ∨ ((0 : Int32).toInt = 0 ∧ ¬ (mbT (FF G) h0 x1.toInt x2.toInt)) by have kk := kI_0; (unfold mbT; grind)) dX0_mayBeTold_81
    · skip
      have ic13 := tn_nlt rfl rfl c13
      refine lv_iload_n hx hb dX0_mayBeTold_70 rfl (lv_at hl 2 rfl) ?_
      refine lv_bipush (v := 99) hx hb dX0_mayBeTold_71 (by decide) ?_
      refine lv_icmp_gt (tgt := 80) hx hb dX0_mayBeTold_73 (by decide) (fun c14 => ?_) (fun c14 => ?_)
      · skip
        have ic14 := tn_lt kI_99 rfl c14
        refine lv_iconst (v := 0) hx hb dX0_mayBeTold_80 (by decide) ?_
        exact tc_pret E hr hlk eH eL (t_nz (by decide) (by decide)).1 (show ((0 : Int32).toInt = 1 ∧ (mbT (FF G) h0 x1.toInt x2.toInt)) ∨ ((0 : Int32).toInt = 0 ∧ ¬ (mbT (FF G) h0 x1.toInt x2.toInt)) by have kk := kI_0; (unfold mbT; grind)) dX0_mayBeTold_81
      · skip
        have ic14 := tn_nlt kI_99 rfl c14
        refine lv_iconst (v := 1) hx hb dX0_mayBeTold_76 (by decide) ?_
        refine lv_goto (tgt := 81) hx hb dX0_mayBeTold_77 (by decide) ?_
        exact tc_pret E hr hlk eH eL (t_nz (by decide) (by decide)).1 (show ((1 : Int32).toInt = 1 ∧ (mbT (FF G) h0 x1.toInt x2.toInt)) ∨ ((1 : Int32).toInt = 0 ∧ ¬ (mbT (FF G) h0 x1.toInt x2.toInt)) by have kk := kI_1; (unfold mbT; grind)) dX0_mayBeTold_81

/-! what is written -/
def kdF (F : mF) (b : Nat) (kd pa sh : Int32) : mF := up2 (up2 (up2 (up2 (up2 (up2 F b 4 kd) b 5 pa) b 7 sh) b 8 0) b 9 99) b 10 0
def nuF (F : mF) (b : Nat) (v0 v1 v2 v3 : Int32) : mF := up2 (up2 (up2 (up2 F (b + 1) 0 v0) (b + 1) 1 v1) (b + 1) 2 v2) (b + 1) 3 v3
def adF (F : mF) (b : Nat) (kid pl : Int32) : mF := up2 (up2 (upR F (b + 2) (pl + 1).toNatClampNeg (F b 10 - pl).toNatClampNeg (fun j => F (b + 2) (pl.toNatClampNeg + (j - (pl + 1).toNatClampNeg)))) (b + 2) pl.toNatClampNeg kid) b 10 (F b 10 + 1)
def rmF (F : mF) (b : Nat) (pl : Int32) : mF := up2 (upR F (b + 2) pl.toNatClampNeg (F b 10 - pl - 1).toNatClampNeg (fun j => F (b + 2) ((pl + 1).toNatClampNeg + (j - pl.toNatClampNeg)))) b 10 (F b 10 - 1)

set_option maxHeartbeats 4000000 in
set_option maxRecDepth 100000 in
theorem x_X0_begin (l : Launch) (G : tG) (F : mF) (τ : Nat → Nat) (h0 : Nat) (x1 : Int32) (x2 : Int32) (x3 : Int32) (x4 : Int32) (t0 : τ h0 = 3) : Met l yX0_begin (.code yX0_begin cX0_begin 5 none :: tWS) (tRm 2 44) (va_Pc [.ref h0, .int x1, .int x2, .int x3, .int x4] (tPre (gF G F) τ)) (tQG G τ (fun F9 => F9 = kdF F h0 x1 x2 x4)) 0 0 (tA τ) := by
  refine tc_met (by decide) (Nat.le_of_ble_eq_true rfl) ?_
  intro p e s m below meth c E hSt hr hlk hG ls hl
  have hl : lv_has ls 5 [(0, .ref h0), (1, .int x1), (2, .int x2), (3, .int x3), (4, .int x4)] := hl
  have hx := E.1
  have hb := E.2.1
  obtain ⟨H, eH⟩ : ∃ H, H = s.heap := ⟨_, rfl⟩
  obtain ⟨locs, eL⟩ : ∃ x : List Loc, x = [] := ⟨_, rfl⟩
  have hG : tGH (gF G F) τ s H locs := by rw [eH, eL]; exact hG
  suffices hW : W p l e (tRm 2 44) s m ([.ref h0, .int x1, .int x2, .int x3, .int x4] : List Value).toArray below meth c H locs 0 0 (MQ below (tQG G τ (fun F9 => F9 = kdF F h0 x1 x2 x4)) ([.ref h0, .int x1, .int x2, .int x3, .int x4] : List Value).toArray s 0 0 (tA τ)) (F0 m 0 ls []) by subst eH; subst eL; exact hW
  clear eH eL
  refine lv_aload_n hx hb dX0_begin_0 rfl (lv_at hl 0 rfl) ?_
  refine lv_iload_n hx hb dX0_begin_1 rfl (lv_at hl 1 rfl) ?_
  refine tc_putF (lo := -2147483648) (hi := 2147483647) E hG t0 (by decide) rfl rfl fq_X0_29 (t_any1 _) (t_any2 _) rfl rfl dX0_begin_2 (fun H locs hG => ?_)
  obtain ⟨F1, eF1⟩ : ∃ Z : mF, Z = up2 F h0 4 x1 := ⟨_, rfl⟩
  replace hG : tGH (gF G F1) τ s H locs := by rw [eF1]; exact hG
  have E := E.f1 (F' := F1)
  have hSt := hSt.f1 (F' := F1)
  refine lv_aload_n hx hb dX0_begin_5 rfl (lv_at hl 0 rfl) ?_
  refine lv_iload_n hx hb dX0_begin_6 rfl (lv_at hl 2 rfl) ?_
  refine tc_putF (lo := -2147483648) (hi := 2147483647) E hG t0 (by decide) rfl rfl fq_X0_32 (t_any1 _) (t_any2 _) rfl rfl dX0_begin_7 (fun H locs hG => ?_)
  obtain ⟨F2, eF2⟩ : ∃ Z : mF, Z = up2 F1 h0 5 x2 := ⟨_, rfl⟩
  replace hG : tGH (gF G F2) τ s H locs := by rw [eF2]; exact hG
  have E := E.f1 (F' := F2)
  have hSt := hSt.f1 (F' := F2)
  refine lv_aload_n hx hb dX0_begin_10 rfl (lv_at hl 0 rfl) ?_
  refine lv_iload_n hx hb dX0_begin_11 rfl (lv_at hl 3 rfl) ?_
  refine tc_puti E hG t0 fp_X0_35 (t_any1 _) (t_any2 _) dX0_begin_12 (fun H locs hG => ?_)
  refine lv_aload_n hx hb dX0_begin_15 rfl (lv_at hl 0 rfl) ?_
  refine lv_iload hx hb dX0_begin_16 (lv_at hl 4 rfl) ?_
  refine tc_putF (lo := -2147483648) (hi := 2147483647) E hG t0 (by decide) rfl rfl fq_X0_38 (t_any1 _) (t_any2 _) rfl rfl dX0_begin_18 (fun H locs hG => ?_)
  obtain ⟨F3, eF3⟩ : ∃ Z : mF, Z = up2 F2 h0 7 x4 := ⟨_, rfl⟩
  replace hG : tGH (gF G F3) τ s H locs := by rw [eF3]; exact hG
  have E := E.f1 (F' := F3)
  have hSt := hSt.f1 (F' := F3)
  refine lv_aload_n hx hb dX0_begin_21 rfl (lv_at hl 0 rfl) ?_
  refine lv_iconst (v := 0) hx hb dX0_begin_22 (by decide) ?_
  refine tc_putF (lo := -2147483648) (hi := 2147483647) E hG t0 (by decide) rfl rfl fq_X0_41 (t_any1 _) (t_any2 _) rfl rfl dX0_begin_23 (fun H locs hG => ?_)
  obtain ⟨F4, eF4⟩ : ∃ Z : mF, Z = up2 F3 h0 8 (0 : Int32) := ⟨_, rfl⟩
  replace hG : tGH (gF G F4) τ s H locs := by rw [eF4]; exact hG
  have E := E.f1 (F' := F4)
  have hSt := hSt.f1 (F' := F4)
  refine lv_aload_n hx hb dX0_begin_26 rfl (lv_at hl 0 rfl) ?_
  refine lv_bipush (v := 99) hx hb dX0_begin_27 (by decide) ?_
  refine tc_putF (lo := -2147483648) (hi := 2147483647) E hG t0 (by decide) rfl rfl fq_X0_44 (t_any1 _) (t_any2 _) rfl rfl dX0_begin_29 (fun H locs hG => ?_)
  obtain ⟨F5, eF5⟩ : ∃ Z : mF, Z = up2 F4 h0 9 (99 : Int32) := ⟨_, rfl⟩
  replace hG : tGH (gF G F5) τ s H locs := by rw [eF5]; exact hG
  have E := E.f1 (F' := F5)
  have hSt := hSt.f1 (F' := F5)
  refine lv_aload_n hx hb dX0_begin_32 rfl (lv_at hl 0 rfl) ?_
  refine lv_iconst (v := 0) hx hb dX0_begin_33 (by decide) ?_
  refine tc_putF (lo := 0) (hi := 8) E hG t0 (by decide) rfl rfl fq_X0_47 (by decide) (by decide) rfl rfl dX0_begin_34 (fun H locs hG => ?_)
  obtain ⟨F6, eF6⟩ : ∃ Z : mF, Z = up2 F5 h0 10 (0 : Int32) := ⟨_, rfl⟩
  replace hG : tGH (gF G F6) τ s H locs := by rw [eF6]; exact hG
  have E := E.f1 (F' := F6)
  have hSt := hSt.f1 (F' := F6)
  refine lv_aload_n hx hb dX0_begin_37 rfl (lv_at hl 0 rfl) ?_
  refine lv_iconst (v := 0) hx hb dX0_begin_38 (by decide) ?_
  refine tc_puti E hG t0 fp_X0_50 (t_any1 _) (t_any2 _) dX0_begin_39 (fun H locs hG => ?_)
  refine lv_aload_n hx hb dX0_begin_42 rfl (lv_at hl 0 rfl) ?_
  refine tc_getrF (d := 3) E hG t0 fr_X0_21 rfl dX0_begin_43 (fun ha7 => ?_)
  refine tc_callv hG (tc_runV (As := []) (rest := []) E hSt hG (c_X2_forget l (gF G F6) τ (h0 + 3) ha7) ha7 rv_4 kv_X2_forget ml_X0_53 ⟨rfl, rfl, Nat.le_of_ble_eq_true rfl, Nat.le_of_ble_eq_true rfl⟩ rfl hl.1 rfl (Nat.le_of_ble_eq_true rfl) ⟨Nat.zero_le _, Nat.zero_le _⟩ dX0_begin_46) (fun H locs hG => ?_)
  exact tc_vretF E hr hlk hG (by rw [eF6, eF5, eF4, eF3, eF2, eF1]; rfl) dX0_begin_49

set_option maxHeartbeats 4000000 in
set_option maxRecDepth 100000 in
theorem x_X0_setNumbers (l : Launch) (G : tG) (F : mF) (τ : Nat → Nat) (h0 : Nat) (x1 : Int32) (x2 : Int32) (x3 : Int32) (x4 : Int32) (t0 : τ h0 = 3) : Met l yX0_setNumbers (.code yX0_setNumbers cX0_setNumbers 6 none :: tWS) (tRm 2 40) (va_Pc [.ref h0, .int x1, .int x2, .int x3, .int x4] (tPre (gF G F) τ)) (tQG G τ (fun F9 => ∃ v0 v1 v2 v3 : Int32, F9 = nuF F h0 v0 v1 v2 v3 ∧ (v0 = if 0 < nNum (F h0 4).toInt then x1 else 0) ∧ (v1 = if 1 < nNum (F h0 4).toInt then x2 else 0) ∧ (v2 = if 2 < nNum (F h0 4).toInt then x3 else 0) ∧ (v3 = if 3 < nNum (F h0 4).toInt then x4 else 0))) 0 0 (tA τ) := by
  refine tc_met (by decide) (Nat.le_of_ble_eq_true rfl) ?_
  intro p e s m below meth c E hSt hr hlk hG ls hl
  have hl : lv_has ls 6 [(0, .ref h0), (1, .int x1), (2, .int x2), (3, .int x3), (4, .int x4)] := hl
  have hx := E.1
  have hb := E.2.1
  obtain ⟨H, eH⟩ : ∃ H, H = s.heap := ⟨_, rfl⟩
  obtain ⟨locs, eL⟩ : ∃ x : List Loc, x = [] := ⟨_, rfl⟩
  have hG : tGH (gF G F) τ s H locs := by rw [eH, eL]; exact hG
  suffices hW : W p l e (tRm 2 40) s m ([.ref h0, .int x1, .int x2, .int x3, .int x4] : List Value).toArray below meth c H locs 0 0 (MQ below (tQG G τ (fun F9 => ∃ v0 v1 v2 v3 : Int32, F9 = nuF F h0 v0 v1 v2 v3 ∧ (v0 = if 0 < nNum (F h0 4).toInt then x1 else 0) ∧ (v1 = if 1 < nNum (F h0 4).toInt then x2 else 0) ∧ (v2 = if 2 < nNum (F h0 4).toInt then x3 else 0) ∧ (v3 = if 3 < nNum (F h0 4).toInt then x4 else 0))) ([.ref h0, .int x1, .int x2, .int x3, .int x4] : List Value).toArray s 0 0 (tA τ)) (F0 m 0 ls []) by subst eH; subst eL; exact hW
  clear eH eL
  refine lv_aload_n hx hb dX0_setNumbers_0 rfl (lv_at hl 0 rfl) ?_
  refine tc_getF E hG t0 fi_X0_29 rfl dX0_setNumbers_1 (fun z1 lz1 uz1 wz1 => ?_)
  replace wz1 : z1 = F h0 4 := wz1
  have cz1 : z1.toInt = (F h0 4).toInt := by rw [wz1]
  refine tc_callp (tc_runS (As := [.int z1]) (rest := []) E hSt hG (x_X1_numbersOf l (gF G F) τ z1) ks_X1_numbersOf ml_X0_56 ⟨rfl, rfl, Nat.le_of_ble_eq_true rfl, Nat.le_of_ble_eq_true rfl⟩ rfl hl.1 rfl (Nat.le_of_ble_eq_true rfl) ⟨Nat.zero_le _, Nat.zero_le _⟩ dX0_setNumbers_4) (fun r2 pr2 => ?_)
  have pr2 : r2.toInt = nNum z1.toInt ∧ (0 ≤ r2.toInt ∧ r2.toInt ≤ 4) ∧ (r2.toInt = 0 ∨ (0 ≤ z1.toInt ∧ z1.toInt ≤ 9)) := pr2
  refine lv_istore (lv' := [(5, .int r2), (0, .ref h0), (1, .int x1), (2, .int x2), (3, .int x3), (4, .int x4)]) hx hb dX0_setNumbers_7 hl (by decide) rfl (fun ls hl => ?_)
  refine lv_aload_n hx hb dX0_setNumbers_9 rfl (lv_at hl 1 rfl) ?_
  refine tc_getrF (d := 1) E hG t0 fr_X0_9 rfl dX0_setNumbers_10 (fun ha3 => ?_)
  refine lv_iconst (v := 0) hx hb dX0_setNumbers_13 (by decide) ?_
  refine lv_iload hx hb dX0_setNumbers_14 (lv_at hl 0 rfl) ?_
  refine lv_if_le (tgt := 23) hx hb dX0_setNumbers_16 (by decide) (fun c4 => ?_) (fun c4 => ?_)
  · skip
    have ic4 := tn_le rfl kI_0 c4
    refine lv_iconst (v := 0) hx hb dX0_setNumbers_23 (by decide) ?_
    refine tc_iastF E hG ha3 ta_11 (t_in (by decide) (by decide)) (t_any1 _) (t_any2 _) dX0_setNumbers_24 (fun H locs hG => ?_)
    obtain ⟨F5, eF5⟩ : ∃ Z : mF, Z = up2 F (h0 + 1) 0 (0 : Int32) := ⟨_, rfl⟩
    replace hG : tGH (gF G F5) τ s H locs := by rw [eF5]; exact hG
    have E := E.f1 (F' := F5)
    have hSt := hSt.f1 (F' := F5)
    refine lv_aload_n hx hb dX0_setNumbers_25 rfl (lv_at hl 1 rfl) ?_
    refine tc_getrF (d := 1) E hG t0 fr_X0_9 rfl dX0_setNumbers_26 (fun ha6 => ?_)
    refine lv_iconst (v := 1) hx hb dX0_setNumbers_29 (by decide) ?_
    refine lv_iload hx hb dX0_setNumbers_30 (lv_at hl 0 rfl) ?_
    refine lv_iconst (v := 1) hx hb dX0_setNumbers_32 (by decide) ?_
    refine lv_icmp_le (tgt := 40) hx hb dX0_setNumbers_33 (by decide) (fun c7 => ?_) (fun c7 => ?_)
    · skip
      have ic7 := tn_le rfl kI_1 c7
      refine lv_iconst (v := 0) hx hb dX0_setNumbers_40 (by decide) ?_
      refine tc_iastF E hG ha6 ta_11 (t_in (by decide) (by decide)) (t_any1 _) (t_any2 _) dX0_setNumbers_41 (fun H locs hG => ?_)
      obtain ⟨F8, eF8⟩ : ∃ Z : mF, Z = up2 F5 (h0 + 1) 1 (0 : Int32) := ⟨_, rfl⟩
      replace hG : tGH (gF G F8) τ s H locs := by rw [eF8]; exact hG
      have E := E.f1 (F' := F8)
      have hSt := hSt.f1 (F' := F8)
      refine lv_aload_n hx hb dX0_setNumbers_42 rfl (lv_at hl 1 rfl) ?_
      refine tc_getrF (d := 1) E hG t0 fr_X0_9 rfl dX0_setNumbers_43 (fun ha9 => ?_)
      refine lv_iconst (v := 2) hx hb dX0_setNumbers_46 (by decide) ?_
      refine lv_iload hx hb dX0_setNumbers_47 (lv_at hl 0 rfl) ?_
      refine lv_iconst (v := 2) hx hb dX0_setNumbers_49 (by decide) ?_
      refine lv_icmp_le (tgt := 57) hx hb dX0_setNumbers_50 (by decide) (fun c10 => ?_) (fun c10 => ?_)
      · skip
        have ic10 := tn_le rfl kI_2 c10
        refine lv_iconst (v := 0) hx hb dX0_setNumbers_57 (by decide) ?_
        refine tc_iastF E hG ha9 ta_11 (t_in (by decide) (by decide)) (t_any1 _) (t_any2 _) dX0_setNumbers_58 (fun H locs hG => ?_)
        obtain ⟨F11, eF11⟩ : ∃ Z : mF, Z = up2 F8 (h0 + 1) 2 (0 : Int32) := ⟨_, rfl⟩
        replace hG : tGH (gF G F11) τ s H locs := by rw [eF11]; exact hG
        have E := E.f1 (F' := F11)
        have hSt := hSt.f1 (F' := F11)
        refine lv_aload_n hx hb dX0_setNumbers_59 rfl (lv_at hl 1 rfl) ?_
        refine tc_getrF (d := 1) E hG t0 fr_X0_9 rfl dX0_setNumbers_60 (fun ha12 => ?_)
        refine lv_iconst (v := 3) hx hb dX0_setNumbers_63 (by decide) ?_
        refine lv_iload hx hb dX0_setNumbers_64 (lv_at hl 0 rfl) ?_
        refine lv_iconst (v := 3) hx hb dX0_setNumbers_66 (by decide) ?_
        refine lv_icmp_le (tgt := 75) hx hb dX0_setNumbers_67 (by decide) (fun c13 => ?_) (fun c13 => ?_)
        · skip
          have ic13 := tn_le rfl kI_3 c13
          refine lv_iconst (v := 0) hx hb dX0_setNumbers_75 (by decide) ?_
          refine tc_iastF E hG ha12 ta_11 (t_in (by decide) (by decide)) (t_any1 _) (t_any2 _) dX0_setNumbers_76 (fun H locs hG => ?_)
          obtain ⟨F14, eF14⟩ : ∃ Z : mF, Z = up2 F11 (h0 + 1) 3 (0 : Int32) := ⟨_, rfl⟩
          replace hG : tGH (gF G F14) τ s H locs := by rw [eF14]; exact hG
          have E := E.f1 (F' := F14)
          have hSt := hSt.f1 (F' := F14)
          exact tc_vretF E hr hlk hG ⟨_, _, _, _, (by rw [eF14, eF11, eF8, eF5]; rfl), by grind, by grind, by grind, by grind⟩ dX0_setNumbers_77
        · exfalso
          have ic13 := tn_nle rfl kI_3 c13
          omega
      · exfalso
        have ic10 := tn_nle rfl kI_2 c10
        omega
    · exfalso
      have ic7 := tn_nle rfl kI_1 c7
      omega
  · skip
    have ic4 := tn_nle rfl kI_0 c4
    refine lv_iload_n hx hb dX0_setNumbers_19 rfl (lv_at hl 2 rfl) ?_
    refine lv_goto (tgt := 24) hx hb dX0_setNumbers_20 (by decide) ?_
    refine tc_iastF E hG ha3 ta_11 (t_in (by decide) (by decide)) (t_any1 _) (t_any2 _) dX0_setNumbers_24 (fun H locs hG => ?_)
    obtain ⟨F15, eF15⟩ : ∃ Z : mF, Z = up2 F (h0 + 1) 0 x1 := ⟨_, rfl⟩
    replace hG : tGH (gF G F15) τ s H locs := by rw [eF15]; exact hG
    have E := E.f1 (F' := F15)
    have hSt := hSt.f1 (F' := F15)
    refine lv_aload_n hx hb dX0_setNumbers_25 rfl (lv_at hl 1 rfl) ?_
    refine tc_getrF (d := 1) E hG t0 fr_X0_9 rfl dX0_setNumbers_26 (fun ha16 => ?_)
    refine lv_iconst (v := 1) hx hb dX0_setNumbers_29 (by decide) ?_
    refine lv_iload hx hb dX0_setNumbers_30 (lv_at hl 0 rfl) ?_
    refine lv_iconst (v := 1) hx hb dX0_setNumbers_32 (by decide) ?_
    refine lv_icmp_le (tgt := 40) hx hb dX0_setNumbers_33 (by decide) (fun c17 => ?_) (fun c17 => ?_)
    · skip
      have ic17 := tn_le rfl kI_1 c17
      refine lv_iconst (v := 0) hx hb dX0_setNumbers_40 (by decide) ?_
      refine tc_iastF E hG ha16 ta_11 (t_in (by decide) (by decide)) (t_any1 _) (t_any2 _) dX0_setNumbers_41 (fun H locs hG => ?_)
      obtain ⟨F18, eF18⟩ : ∃ Z : mF, Z = up2 F15 (h0 + 1) 1 (0 : Int32) := ⟨_, rfl⟩
      replace hG : tGH (gF G F18) τ s H locs := by rw [eF18]; exact hG
      have E := E.f1 (F' := F18)
      have hSt := hSt.f1 (F' := F18)
      refine lv_aload_n hx hb dX0_setNumbers_42 rfl (lv_at hl 1 rfl) ?_
      refine tc_getrF (d := 1) E hG t0 fr_X0_9 rfl dX0_setNumbers_43 (fun ha19 => ?_)
      refine lv_iconst (v := 2) hx hb dX0_setNumbers_46 (by decide) ?_
      refine lv_iload hx hb dX0_setNumbers_47 (lv_at hl 0 rfl) ?_
      refine lv_iconst (v := 2) hx hb dX0_setNumbers_49 (by decide) ?_
      refine lv_icmp_le (tgt := 57) hx hb dX0_setNumbers_50 (by decide) (fun c20 => ?_) (fun c20 => ?_)
      · skip
        have ic20 := tn_le rfl kI_2 c20
        refine lv_iconst (v := 0) hx hb dX0_setNumbers_57 (by decide) ?_
        refine tc_iastF E hG ha19 ta_11 (t_in (by decide) (by decide)) (t_any1 _) (t_any2 _) dX0_setNumbers_58 (fun H locs hG => ?_)
        obtain ⟨F21, eF21⟩ : ∃ Z : mF, Z = up2 F18 (h0 + 1) 2 (0 : Int32) := ⟨_, rfl⟩
        replace hG : tGH (gF G F21) τ s H locs := by rw [eF21]; exact hG
        have E := E.f1 (F' := F21)
        have hSt := hSt.f1 (F' := F21)
        refine lv_aload_n hx hb dX0_setNumbers_59 rfl (lv_at hl 1 rfl) ?_
        refine tc_getrF (d := 1) E hG t0 fr_X0_9 rfl dX0_setNumbers_60 (fun ha22 => ?_)
        refine lv_iconst (v := 3) hx hb dX0_setNumbers_63 (by decide) ?_
        refine lv_iload hx hb dX0_setNumbers_64 (lv_at hl 0 rfl) ?_
        refine lv_iconst (v := 3) hx hb dX0_setNumbers_66 (by decide) ?_
        refine lv_icmp_le (tgt := 75) hx hb dX0_setNumbers_67 (by decide) (fun c23 => ?_) (fun c23 => ?_)
        · skip
          have ic23 := tn_le rfl kI_3 c23
          refine lv_iconst (v := 0) hx hb dX0_setNumbers_75 (by decide) ?_
          refine tc_iastF E hG ha22 ta_11 (t_in (by decide) (by decide)) (t_any1 _) (t_any2 _) dX0_setNumbers_76 (fun H locs hG => ?_)
          obtain ⟨F24, eF24⟩ : ∃ Z : mF, Z = up2 F21 (h0 + 1) 3 (0 : Int32) := ⟨_, rfl⟩
          replace hG : tGH (gF G F24) τ s H locs := by rw [eF24]; exact hG
          have E := E.f1 (F' := F24)
          have hSt := hSt.f1 (F' := F24)
          exact tc_vretF E hr hlk hG ⟨_, _, _, _, (by rw [eF24, eF21, eF18, eF15]; rfl), by grind, by grind, by grind, by grind⟩ dX0_setNumbers_77
        · exfalso
          have ic23 := tn_nle rfl kI_3 c23
          omega
      · exfalso
        have ic20 := tn_nle rfl kI_2 c20
        omega
    · skip
      have ic17 := tn_nle rfl kI_1 c17
      refine lv_iload_n hx hb dX0_setNumbers_36 rfl (lv_at hl 3 rfl) ?_
      refine lv_goto (tgt := 41) hx hb dX0_setNumbers_37 (by decide) ?_
      refine tc_iastF E hG ha16 ta_11 (t_in (by decide) (by decide)) (t_any1 _) (t_any2 _) dX0_setNumbers_41 (fun H locs hG => ?_)
      obtain ⟨F25, eF25⟩ : ∃ Z : mF, Z = up2 F15 (h0 + 1) 1 x2 := ⟨_, rfl⟩
      replace hG : tGH (gF G F25) τ s H locs := by rw [eF25]; exact hG
      have E := E.f1 (F' := F25)
      have hSt := hSt.f1 (F' := F25)
      refine lv_aload_n hx hb dX0_setNumbers_42 rfl (lv_at hl 1 rfl) ?_
      refine tc_getrF (d := 1) E hG t0 fr_X0_9 rfl dX0_setNumbers_43 (fun ha26 => ?_)
      refine lv_iconst (v := 2) hx hb dX0_setNumbers_46 (by decide) ?_
      refine lv_iload hx hb dX0_setNumbers_47 (lv_at hl 0 rfl) ?_
      refine lv_iconst (v := 2) hx hb dX0_setNumbers_49 (by decide) ?_
      refine lv_icmp_le (tgt := 57) hx hb dX0_setNumbers_50 (by decide) (fun c27 => ?_) (fun c27 => ?_)
      · skip
        have ic27 := tn_le rfl kI_2 c27
        refine lv_iconst (v := 0) hx hb dX0_setNumbers_57 (by decide) ?_
        refine tc_iastF E hG ha26 ta_11 (t_in (by decide) (by decide)) (t_any1 _) (t_any2 _) dX0_setNumbers_58 (fun H locs hG => ?_)
        obtain ⟨F28, eF28⟩ : ∃ Z : mF, Z = up2 F25 (h0 + 1) 2 (0 : Int32) := ⟨_, rfl⟩
        replace hG : tGH (gF G F28) τ s H locs := by rw [eF28]; exact hG
        have E := E.f1 (F' := F28)
        have hSt := hSt.f1 (F' := F28)
        refine lv_aload_n hx hb dX0_setNumbers_59 rfl (lv_at hl 1 rfl) ?_
        refine tc_getrF (d := 1) E hG t0 fr_X0_9 rfl dX0_setNumbers_60 (fun ha29 => ?_)
        refine lv_iconst (v := 3) hx hb dX0_setNumbers_63 (by decide) ?_
        refine lv_iload hx hb dX0_setNumbers_64 (lv_at hl 0 rfl) ?_
        refine lv_iconst (v := 3) hx hb dX0_setNumbers_66 (by decide) ?_
        refine lv_icmp_le (tgt := 75) hx hb dX0_setNumbers_67 (by decide) (fun c30 => ?_) (fun c30 => ?_)
        · skip
          have ic30 := tn_le rfl kI_3 c30
          refine lv_iconst (v := 0) hx hb dX0_setNumbers_75 (by decide) ?_
          refine tc_iastF E hG ha29 ta_11 (t_in (by decide) (by decide)) (t_any1 _) (t_any2 _) dX0_setNumbers_76 (fun H locs hG => ?_)
          obtain ⟨F31, eF31⟩ : ∃ Z : mF, Z = up2 F28 (h0 + 1) 3 (0 : Int32) := ⟨_, rfl⟩
          replace hG : tGH (gF G F31) τ s H locs := by rw [eF31]; exact hG
          have E := E.f1 (F' := F31)
          have hSt := hSt.f1 (F' := F31)
          exact tc_vretF E hr hlk hG ⟨_, _, _, _, (by rw [eF31, eF28, eF25, eF15]; rfl), by grind, by grind, by grind, by grind⟩ dX0_setNumbers_77
        · exfalso
          have ic30 := tn_nle rfl kI_3 c30
          omega
      · skip
        have ic27 := tn_nle rfl kI_2 c27
        refine lv_iload_n hx hb dX0_setNumbers_53 rfl (lv_at hl 4 rfl) ?_
        refine lv_goto (tgt := 58) hx hb dX0_setNumbers_54 (by decide) ?_
        refine tc_iastF E hG ha26 ta_11 (t_in (by decide) (by decide)) (t_any1 _) (t_any2 _) dX0_setNumbers_58 (fun H locs hG => ?_)
        obtain ⟨F32, eF32⟩ : ∃ Z : mF, Z = up2 F25 (h0 + 1) 2 x3 := ⟨_, rfl⟩
        replace hG : tGH (gF G F32) τ s H locs := by rw [eF32]; exact hG
        have E := E.f1 (F' := F32)
        have hSt := hSt.f1 (F' := F32)
        refine lv_aload_n hx hb dX0_setNumbers_59 rfl (lv_at hl 1 rfl) ?_
        refine tc_getrF (d := 1) E hG t0 fr_X0_9 rfl dX0_setNumbers_60 (fun ha33 => ?_)
        refine lv_iconst (v := 3) hx hb dX0_setNumbers_63 (by decide) ?_
        refine lv_iload hx hb dX0_setNumbers_64 (lv_at hl 0 rfl) ?_
        refine lv_iconst (v := 3) hx hb dX0_setNumbers_66 (by decide) ?_
        refine lv_icmp_le (tgt := 75) hx hb dX0_setNumbers_67 (by decide) (fun c34 => ?_) (fun c34 => ?_)
        · skip
          have ic34 := tn_le rfl kI_3 c34
          refine lv_iconst (v := 0) hx hb dX0_setNumbers_75 (by decide) ?_
          refine tc_iastF E hG ha33 ta_11 (t_in (by decide) (by decide)) (t_any1 _) (t_any2 _) dX0_setNumbers_76 (fun H locs hG => ?_)
          obtain ⟨F35, eF35⟩ : ∃ Z : mF, Z = up2 F32 (h0 + 1) 3 (0 : Int32) := ⟨_, rfl⟩
          replace hG : tGH (gF G F35) τ s H locs := by rw [eF35]; exact hG
          have E := E.f1 (F' := F35)
          have hSt := hSt.f1 (F' := F35)
          exact tc_vretF E hr hlk hG ⟨_, _, _, _, (by rw [eF35, eF32, eF25, eF15]; rfl), by grind, by grind, by grind, by grind⟩ dX0_setNumbers_77
        · skip
          have ic34 := tn_nle rfl kI_3 c34
          refine lv_iload hx hb dX0_setNumbers_70 (lv_at hl 5 rfl) ?_
          refine lv_goto (tgt := 76) hx hb dX0_setNumbers_72 (by decide) ?_
          refine tc_iastF E hG ha33 ta_11 (t_in (by decide) (by decide)) (t_any1 _) (t_any2 _) dX0_setNumbers_76 (fun H locs hG => ?_)
          obtain ⟨F36, eF36⟩ : ∃ Z : mF, Z = up2 F32 (h0 + 1) 3 x4 := ⟨_, rfl⟩
          replace hG : tGH (gF G F36) τ s H locs := by rw [eF36]; exact hG
          have E := E.f1 (F' := F36)
          have hSt := hSt.f1 (F' := F36)
          exact tc_vretF E hr hlk hG ⟨_, _, _, _, (by rw [eF36, eF32, eF25, eF15]; rfl), by grind, by grind, by grind, by grind⟩ dX0_setNumbers_77

set_option maxHeartbeats 4000000 in
set_option maxRecDepth 100000 in
theorem x_X0_addKid (l : Launch) (G : tG) (F : mF) (τ : Nat → Nat) (h0 : Nat) (x1 : Int32) (x2 : Int32) (t0 : τ h0 = 3) (l1 : 0 ≤ x1.toInt) (u1 : x1.toInt ≤ 23) : Met l yX0_addKid (.code yX0_addKid cX0_addKid 3 none :: tWS) (tRm 1 40) (va_Pc [.ref h0, .int x1, .int x2] (tPre (gF G F) τ)) (tQG G τ (fun F9 => (((F h0 10).toInt ≥ 8 ∨ x2.toInt < 0 ∨ (F h0 10).toInt < x2.toInt) ∧ F9 = F) ∨ ((F h0 10).toInt ≤ 7 ∧ 0 ≤ x2.toInt ∧ x2.toInt ≤ (F h0 10).toInt ∧ F9 = adF F h0 x1 x2))) 0 0 (tA τ) := by
  refine tc_met (by decide) (Nat.le_of_ble_eq_true rfl) ?_
  intro p e s m below meth c E hSt hr hlk hG ls hl
  have hl : lv_has ls 3 [(0, .ref h0), (1, .int x1), (2, .int x2)] := hl
  have hx := E.1
  have hb := E.2.1
  obtain ⟨H, eH⟩ : ∃ H, H = s.heap := ⟨_, rfl⟩
  obtain ⟨locs, eL⟩ : ∃ x : List Loc, x = [] := ⟨_, rfl⟩
  have hG : tGH (gF G F) τ s H locs := by rw [eH, eL]; exact hG
  suffices hW : W p l e (tRm 1 40) s m ([.ref h0, .int x1, .int x2] : List Value).toArray below meth c H locs 0 0 (MQ below (tQG G τ (fun F9 => (((F h0 10).toInt ≥ 8 ∨ x2.toInt < 0 ∨ (F h0 10).toInt < x2.toInt) ∧ F9 = F) ∨ ((F h0 10).toInt ≤ 7 ∧ 0 ≤ x2.toInt ∧ x2.toInt ≤ (F h0 10).toInt ∧ F9 = adF F h0 x1 x2))) ([.ref h0, .int x1, .int x2] : List Value).toArray s 0 0 (tA τ)) (F0 m 0 ls []) by subst eH; subst eL; exact hW
  clear eH eL
  refine lv_aload_n hx hb dX0_addKid_0 rfl (lv_at hl 0 rfl) ?_
  refine tc_getF E hG t0 fi_X0_47 rfl dX0_addKid_1 (fun z1 lz1 uz1 wz1 => ?_)
  replace wz1 : z1 = F h0 10 := wz1
  have cz1 : z1.toInt = (F h0 10).toInt := by rw [wz1]
  refine lv_bipush (v := 8) hx hb dX0_addKid_4 (by decide) ?_
  refine lv_icmp_ge (tgt := 21) hx hb dX0_addKid_6 (by decide) (fun c2 => ?_) (fun c2 => ?_)
  · skip
    have ic2 := tn_le kI_8 rfl c2
    exact tc_vretF E hr hlk hG (Or.inl ⟨by omega, rfl⟩) dX0_addKid_21
  · skip
    have ic2 := tn_nle kI_8 rfl c2
    refine lv_iload_n hx hb dX0_addKid_9 rfl (lv_at hl 2 rfl) ?_
    refine lv_if_lt (tgt := 21) hx hb dX0_addKid_10 (by decide) (fun c3 => ?_) (fun c3 => ?_)
    · skip
      have ic3 := tn_lt rfl kI_0 c3
      exact tc_vretF E hr hlk hG (Or.inl ⟨by omega, rfl⟩) dX0_addKid_21
    · skip
      have ic3 := tn_nlt rfl kI_0 c3
      refine lv_iload_n hx hb dX0_addKid_13 rfl (lv_at hl 2 rfl) ?_
      refine lv_aload_n hx hb dX0_addKid_14 rfl (lv_at hl 0 rfl) ?_
      refine tc_getF E hG t0 fi_X0_47 rfl dX0_addKid_15 (fun z4 lz4 uz4 wz4 => ?_)
      replace wz4 : z4 = F h0 10 := wz4
      have cz4 : z4.toInt = (F h0 10).toInt := by rw [wz4]
      refine lv_icmp_le (tgt := 22) hx hb dX0_addKid_18 (by decide) (fun c5 => ?_) (fun c5 => ?_)
      · skip
        have ic5 := tn_le rfl rfl c5
        refine lv_aload_n hx hb dX0_addKid_22 rfl (lv_at hl 0 rfl) ?_
        refine tc_getrF (d := 2) E hG t0 fr_X0_15 rfl dX0_addKid_23 (fun ha6 => ?_)
        refine lv_iload_n hx hb dX0_addKid_26 rfl (lv_at hl 2 rfl) ?_
        refine lv_aload_n hx hb dX0_addKid_27 rfl (lv_at hl 0 rfl) ?_
        refine tc_getrF (d := 2) E hG t0 fr_X0_15 rfl dX0_addKid_28 (fun ha7 => ?_)
        refine lv_iload_n hx hb dX0_addKid_31 rfl (lv_at hl 2 rfl) ?_
        refine lv_iconst (v := 1) hx hb dX0_addKid_32 (by decide) ?_
        refine lv_iadd hx hb dX0_addKid_33 ?_
        refine lv_topi (fun z8 ez8 => ?_)
        have tz8 := tn_add ez8 rfl kI_1 (by omega) (by omega)
        refine lv_aload_n hx hb dX0_addKid_34 rfl (lv_at hl 0 rfl) ?_
        refine tc_getF E hG t0 fi_X0_47 rfl dX0_addKid_35 (fun z9 lz9 uz9 wz9 => ?_)
        replace wz9 : z9 = F h0 10 := wz9
        have cz9 : z9.toInt = (F h0 10).toInt := by rw [wz9]
        refine lv_iload_n hx hb dX0_addKid_38 rfl (lv_at hl 2 rfl) ?_
        refine lv_isub hx hb dX0_addKid_39 ?_
        refine lv_topi (fun z10 ez10 => ?_)
        have tz10 := tn_sub ez10 rfl rfl (by omega) (by omega)
        refine tc_copyF (rest := []) E hl.1 hG ml_X0_76 kn_copy1 kn_copy2 kn_copy3 ha6 ha7 ta_12 ta_12 (fun _ => rfl) (fun _ => rfl) (by omega) (by omega) (by omega) (by omega) (by omega) ⟨Nat.le_of_ble_eq_true rfl, Nat.le_of_ble_eq_true rfl⟩ dX0_addKid_40 (fun H locs hG => ?_)
        have nn11 : z10.toNatClampNeg = z10.toInt.toNat := rfl
        have nn12 : z8.toNatClampNeg = z8.toInt.toNat := rfl
        have nn13 : x2.toNatClampNeg = x2.toInt.toNat := rfl
        obtain ⟨F14, eF14⟩ : ∃ Z : mF, Z = upR F (h0 + 2) z8.toNatClampNeg z10.toNatClampNeg (fun j => F (h0 + 2) (x2.toNatClampNeg + (j - z8.toNatClampNeg))) := ⟨_, rfl⟩
        replace hG : tGH (gF G F14) τ s H locs := by rw [eF14]; exact hG
        have E := E.f1 (F' := F14)
        have hSt := hSt.f1 (F' := F14)
        refine lv_aload_n hx hb dX0_addKid_43 rfl (lv_at hl 0 rfl) ?_
        refine tc_getrF (d := 2) E hG t0 fr_X0_15 rfl dX0_addKid_44 (fun ha15 => ?_)
        refine lv_iload_n hx hb dX0_addKid_47 rfl (lv_at hl 2 rfl) ?_
        refine lv_iload_n hx hb dX0_addKid_48 rfl (lv_at hl 1 rfl) ?_
        refine tc_iastF E hG ha15 ta_12 (t_in (by omega) (by omega)) (by omega) (by omega) dX0_addKid_49 (fun H locs hG => ?_)
        obtain ⟨F16, eF16⟩ : ∃ Z : mF, Z = up2 F14 (h0 + 2) x2.toNatClampNeg x1 := ⟨_, rfl⟩
        replace hG : tGH (gF G F16) τ s H locs := by rw [eF16]; exact hG
        have E := E.f1 (F' := F16)
        have hSt := hSt.f1 (F' := F16)
        refine lv_aload_n hx hb dX0_addKid_50 rfl (lv_at hl 0 rfl) ?_
        refine lv_dup hx hb dX0_addKid_51 rfl ?_
        refine tc_getF E hG t0 fi_X0_47 rfl dX0_addKid_52 (fun z17 lz17 uz17 wz17 => ?_)
        replace wz17 : z17 = F16 h0 10 := wz17
        replace wz17 : z17 = F h0 10 := by rw [wz17, eF16, up2_ne (by omega), eF14, upR_ne (by omega)]
        have cz17 : z17.toInt = (F h0 10).toInt := by rw [wz17]
        refine lv_iconst (v := 1) hx hb dX0_addKid_55 (by decide) ?_
        refine lv_iadd hx hb dX0_addKid_56 ?_
        refine lv_topi (fun z18 ez18 => ?_)
        have tz18 := tn_add ez18 rfl kI_1 (by omega) (by omega)
        refine tc_putF (lo := 0) (hi := 8) E hG t0 (by decide) rfl rfl fq_X0_47 (by omega) (by omega) rfl rfl dX0_addKid_57 (fun H locs hG => ?_)
        obtain ⟨F19, eF19⟩ : ∃ Z : mF, Z = up2 F16 h0 10 z18 := ⟨_, rfl⟩
        replace hG : tGH (gF G F19) τ s H locs := by rw [eF19]; exact hG
        have E := E.f1 (F' := F19)
        have hSt := hSt.f1 (F' := F19)
        exact tc_vretF E hr hlk hG (Or.inr ⟨by omega, by omega, by omega, (by rw [eF19, eF16, eF14]; unfold adF; simp only [ez18, wz17, ez10, wz9, ez8, wz4, wz1])⟩) dX0_addKid_60
      · skip
        have ic5 := tn_nle rfl rfl c5
        exact tc_vretF E hr hlk hG (Or.inl ⟨by omega, rfl⟩) dX0_addKid_21

set_option maxHeartbeats 4000000 in
set_option maxRecDepth 100000 in
theorem x_X0_removeKid (l : Launch) (G : tG) (F : mF) (τ : Nat → Nat) (h0 : Nat) (x1 : Int32) (t0 : τ h0 = 3) : Met l yX0_removeKid (.code yX0_removeKid cX0_removeKid 2 none :: tWS) (tRm 1 40) (va_Pc [.ref h0, .int x1] (tPre (gF G F) τ)) (tQG G τ (fun F9 => ((x1.toInt < 0 ∨ (F h0 10).toInt ≤ x1.toInt) ∧ F9 = F) ∨ (0 ≤ x1.toInt ∧ x1.toInt < (F h0 10).toInt ∧ (F h0 10).toInt ≤ 8 ∧ F9 = rmF F h0 x1))) 0 0 (tA τ) := by
  refine tc_met (by decide) (Nat.le_of_ble_eq_true rfl) ?_
  intro p e s m below meth c E hSt hr hlk hG ls hl
  have hl : lv_has ls 2 [(0, .ref h0), (1, .int x1)] := hl
  have hx := E.1
  have hb := E.2.1
  obtain ⟨H, eH⟩ : ∃ H, H = s.heap := ⟨_, rfl⟩
  obtain ⟨locs, eL⟩ : ∃ x : List Loc, x = [] := ⟨_, rfl⟩
  have hG : tGH (gF G F) τ s H locs := by rw [eH, eL]; exact hG
  suffices hW : W p l e (tRm 1 40) s m ([.ref h0, .int x1] : List Value).toArray below meth c H locs 0 0 (MQ below (tQG G τ (fun F9 => ((x1.toInt < 0 ∨ (F h0 10).toInt ≤ x1.toInt) ∧ F9 = F) ∨ (0 ≤ x1.toInt ∧ x1.toInt < (F h0 10).toInt ∧ (F h0 10).toInt ≤ 8 ∧ F9 = rmF F h0 x1))) ([.ref h0, .int x1] : List Value).toArray s 0 0 (tA τ)) (F0 m 0 ls []) by subst eH; subst eL; exact hW
  clear eH eL
  refine lv_iload_n hx hb dX0_removeKid_0 rfl (lv_at hl 1 rfl) ?_
  refine lv_if_lt (tgt := 12) hx hb dX0_removeKid_1 (by decide) (fun c1 => ?_) (fun c1 => ?_)
  · skip
    have ic1 := tn_lt rfl kI_0 c1
    exact tc_vretF E hr hlk hG (Or.inl ⟨by omega, rfl⟩) dX0_removeKid_12
  · skip
    have ic1 := tn_nlt rfl kI_0 c1
    refine lv_iload_n hx hb dX0_removeKid_4 rfl (lv_at hl 1 rfl) ?_
    refine lv_aload_n hx hb dX0_removeKid_5 rfl (lv_at hl 0 rfl) ?_
    refine tc_getF E hG t0 fi_X0_47 rfl dX0_removeKid_6 (fun z2 lz2 uz2 wz2 => ?_)
    replace wz2 : z2 = F h0 10 := wz2
    have cz2 : z2.toInt = (F h0 10).toInt := by rw [wz2]
    refine lv_icmp_lt (tgt := 13) hx hb dX0_removeKid_9 (by decide) (fun c3 => ?_) (fun c3 => ?_)
    · skip
      have ic3 := tn_lt rfl rfl c3
      refine lv_aload_n hx hb dX0_removeKid_13 rfl (lv_at hl 0 rfl) ?_
      refine tc_getrF (d := 2) E hG t0 fr_X0_15 rfl dX0_removeKid_14 (fun ha4 => ?_)
      refine lv_iload_n hx hb dX0_removeKid_17 rfl (lv_at hl 1 rfl) ?_
      refine lv_iconst (v := 1) hx hb dX0_removeKid_18 (by decide) ?_
      refine lv_iadd hx hb dX0_removeKid_19 ?_
      refine lv_topi (fun z5 ez5 => ?_)
      have tz5 := tn_add ez5 rfl kI_1 (by omega) (by omega)
      refine lv_aload_n hx hb dX0_removeKid_20 rfl (lv_at hl 0 rfl) ?_
      refine tc_getrF (d := 2) E hG t0 fr_X0_15 rfl dX0_removeKid_21 (fun ha6 => ?_)
      refine lv_iload_n hx hb dX0_removeKid_24 rfl (lv_at hl 1 rfl) ?_
      refine lv_aload_n hx hb dX0_removeKid_25 rfl (lv_at hl 0 rfl) ?_
      refine tc_getF E hG t0 fi_X0_47 rfl dX0_removeKid_26 (fun z7 lz7 uz7 wz7 => ?_)
      replace wz7 : z7 = F h0 10 := wz7
      have cz7 : z7.toInt = (F h0 10).toInt := by rw [wz7]
      refine lv_iload_n hx hb dX0_removeKid_29 rfl (lv_at hl 1 rfl) ?_
      refine lv_isub hx hb dX0_removeKid_30 ?_
      refine lv_topi (fun z8 ez8 => ?_)
      have tz8 := tn_sub ez8 rfl rfl (by omega) (by omega)
      refine lv_iconst (v := 1) hx hb dX0_removeKid_31 (by decide) ?_
      refine lv_isub hx hb dX0_removeKid_32 ?_
      refine lv_topi (fun z9 ez9 => ?_)
      have tz9 := tn_sub ez9 rfl kI_1 (by omega) (by omega)
      refine tc_copyF (rest := []) E hl.1 hG ml_X0_76 kn_copy1 kn_copy2 kn_copy3 ha4 ha6 ta_12 ta_12 (fun _ => rfl) (fun _ => rfl) (by omega) (by omega) (by omega) (by omega) (by omega) ⟨Nat.le_of_ble_eq_true rfl, Nat.le_of_ble_eq_true rfl⟩ dX0_removeKid_33 (fun H locs hG => ?_)
      have nn10 : z9.toNatClampNeg = z9.toInt.toNat := rfl
      have nn11 : x1.toNatClampNeg = x1.toInt.toNat := rfl
      have nn12 : z5.toNatClampNeg = z5.toInt.toNat := rfl
      obtain ⟨F13, eF13⟩ : ∃ Z : mF, Z = upR F (h0 + 2) x1.toNatClampNeg z9.toNatClampNeg (fun j => F (h0 + 2) (z5.toNatClampNeg + (j - x1.toNatClampNeg))) := ⟨_, rfl⟩
      replace hG : tGH (gF G F13) τ s H locs := by rw [eF13]; exact hG
      have E := E.f1 (F' := F13)
      have hSt := hSt.f1 (F' := F13)
      refine lv_aload_n hx hb dX0_removeKid_36 rfl (lv_at hl 0 rfl) ?_
      refine lv_dup hx hb dX0_removeKid_37 rfl ?_
      refine tc_getF E hG t0 fi_X0_47 rfl dX0_removeKid_38 (fun z14 lz14 uz14 wz14 => ?_)
      replace wz14 : z14 = F13 h0 10 := wz14
      replace wz14 : z14 = F h0 10 := by rw [wz14, eF13, upR_ne (by omega)]
      have cz14 : z14.toInt = (F h0 10).toInt := by rw [wz14]
      refine lv_iconst (v := 1) hx hb dX0_removeKid_41 (by decide) ?_
      refine lv_isub hx hb dX0_removeKid_42 ?_
      refine lv_topi (fun z15 ez15 => ?_)
      have tz15 := tn_sub ez15 rfl kI_1 (by omega) (by omega)
      refine tc_putF (lo := 0) (hi := 8) E hG t0 (by decide) rfl rfl fq_X0_47 (by omega) (by omega) rfl rfl dX0_removeKid_43 (fun H locs hG => ?_)
      obtain ⟨F16, eF16⟩ : ∃ Z : mF, Z = up2 F13 h0 10 z15 := ⟨_, rfl⟩
      replace hG : tGH (gF G F16) τ s H locs := by rw [eF16]; exact hG
      have E := E.f1 (F' := F16)
      have hSt := hSt.f1 (F' := F16)
      exact tc_vretF E hr hlk hG (Or.inr ⟨by omega, by omega, by omega, (by rw [eF16, eF13]; unfold rmF; simp only [ez15, wz14, ez9, ez8, wz7, ez5, wz2])⟩) dX0_removeKid_46
    · skip
      have ic3 := tn_nlt rfl rfl c3
      exact tc_vretF E hr hlk hG (Or.inl ⟨by omega, rfl⟩) dX0_removeKid_12
