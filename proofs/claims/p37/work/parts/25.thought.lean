set_option maxHeartbeats 4000000 in
set_option maxRecDepth 100000 in
theorem c_X4_put (l : Launch) (G : tG) (τ : Nat → Nat) (h0 : Nat) (x1 : Int32) (t0 : τ h0 = 8) (l1 : 0 ≤ x1.toInt) (u1 : x1.toInt ≤ 65535) : Met l yX4_put (.code yX4_put cX4_put 2 none :: tWS) (tRm 0 0) (va_Pc [.ref h0, .int x1] (tPre G τ)) (tQv G τ) 0 0 (tA τ) := by
  refine tc_met (by decide) (Nat.le_of_ble_eq_true rfl) ?_
  intro p e s m below meth c E hSt hr hlk hG ls hl
  have hl : lv_has ls 2 [(0, .ref h0), (1, .int x1)] := hl
  have hx := E.1
  have hb := E.2.1
  obtain ⟨H, eH⟩ : ∃ H, H = s.heap := ⟨_, rfl⟩
  obtain ⟨locs, eL⟩ : ∃ x : List Loc, x = [] := ⟨_, rfl⟩
  have hG : tGH G τ s H locs := by rw [eH, eL]; exact hG
  suffices hW : W p l e (tRm 0 0) s m ([.ref h0, .int x1] : List Value).toArray below meth c H locs 0 0 (MQ below (tQv G τ) ([.ref h0, .int x1] : List Value).toArray s 0 0 (tA τ)) (F0 m 0 ls []) by subst eH; subst eL; exact hW
  clear eH eL
  refine lv_aload_n hx hb dX4_put_0 rfl (lv_at hl 0 rfl) ?_
  refine tc_getiS E hG t0 fi_X4_19 dX4_put_1 (fun z1 lz1 uz1 fv2 => ?_)
  have fv2 := fv2 _ rfl
  refine lv_sipush (v := 960) hx hb dX4_put_4 (by decide) ?_
  refine lv_icmp_ge (tgt := 30) hx hb dX4_put_7 (by decide) (fun c3 => ?_) (fun c3 => ?_)
  · skip
    have ic3 := tn_le kI_960 rfl c3
    exact tc_vret E hr hlk hG dX4_put_30
  · skip
    have ic3 := tn_nle kI_960 rfl c3
    refine lv_aload_n hx hb dX4_put_10 rfl (lv_at hl 0 rfl) ?_
    refine tc_getrS E hG t0 fr_X4_11 dX4_put_11 (fun oa4 hoa4 fv5 => ?_)
    have fv5 := fv5 _ rfl
    refine lv_aload_n hx hb dX4_put_14 rfl (lv_at hl 0 rfl) ?_
    refine tc_seen E ff_X4_19 fv2 dX4_put_15 ?_
    refine lv_iload_n hx hb dX4_put_18 rfl (lv_at hl 1 rfl) ?_
    refine tc_castS E hG hoa4 ta_19 (t_in (by omega) (by omega)) (by omega) (by omega) (by omega) (by omega) dX4_put_19 (fun H locs hG oq6 => ?_)
    have fv7 := tSl.kept fv2 (oq6 _ (t_apart t0 hoa4 (by decide)))
    have fv8 := tSl.kept fv5 (oq6 _ (t_apart t0 hoa4 (by decide)))
    refine lv_aload_n hx hb dX4_put_20 rfl (lv_at hl 0 rfl) ?_
    refine lv_dup hx hb dX4_put_21 rfl ?_
    refine tc_seen E ff_X4_19 fv7 dX4_put_22 ?_
    refine lv_iconst (v := 1) hx hb dX4_put_25 (by decide) ?_
    refine lv_iadd hx hb dX4_put_26 ?_
    refine lv_topi (fun z9 ez9 => ?_)
    have tz9 := tn_add ez9 rfl kI_1 (by omega) (by omega)
    refine tc_putS E hG t0 fp_X4_19 (by omega) (by omega) rfl rfl dX4_put_27 (fun H locs hG oq11 sl10 => ?_)
    have fv12 := (sl10 _ rfl).2 _ _ _ _ ff_X4_11 (by decide) fv8
    have fv13 := (sl10 _ rfl).1
    exact tc_vret E hr hlk hG dX4_put_30

set_option maxHeartbeats 4000000 in
set_option maxRecDepth 100000 in
theorem c_X4_putWord (l : Launch) (G : tG) (τ : Nat → Nat) (h0 : Nat) (k1 : Nat) (t0 : τ h0 = 8) (hk1 : k1 < 10) : Met l yX4_putWord (.code yX4_putWord cX4_putWord 3 none :: tWS) (tRm 4 85) (va_Pc [.ref h0, .ref (G.2.2.2.1 k1)] (tPre G τ)) (tQv G τ) 0 0 (tA τ) := by
  refine tc_met (by decide) (Nat.le_of_ble_eq_true rfl) ?_
  intro p e s m below meth c E hSt hr hlk hG ls hl
  have hl : lv_has ls 3 [(0, .ref h0), (1, .ref (G.2.2.2.1 k1))] := hl
  have hx := E.1
  have hb := E.2.1
  obtain ⟨H, eH⟩ : ∃ H, H = s.heap := ⟨_, rfl⟩
  obtain ⟨locs, eL⟩ : ∃ x : List Loc, x = [] := ⟨_, rfl⟩
  have hG : tGH G τ s H locs := by rw [eH, eL]; exact hG
  suffices hW : W p l e (tRm 4 85) s m ([.ref h0, .ref (G.2.2.2.1 k1)] : List Value).toArray below meth c H locs 0 0 (MQ below (tQv G τ) ([.ref h0, .ref (G.2.2.2.1 k1)] : List Value).toArray s 0 0 (tA τ)) (F0 m 0 ls []) by subst eH; subst eL; exact hW
  clear eH eL
  have J2 : ∀ (n2 : Nat) (H : Heap) (locs : List Loc) (ls : Array Slot) (v2 : Int32), tGH G τ s H locs → lv_has ls 3 [(0, .ref h0), (1, .ref (G.2.2.2.1 k1)), (2, .int v2)] → 0 ≤ v2.toInt → v2.toInt ≤ 6 → (6 - v2.toInt).toNat < n2 → W p l e (tRm 4 85) s m ([.ref h0, .ref (G.2.2.2.1 k1)] : List Value).toArray below meth c H locs 0 0 (MQ below (tQv G τ) ([.ref h0, .ref (G.2.2.2.1 k1)] : List Value).toArray s 0 0 (tA τ)) (F0 m 2 ls []) := by
    intro n2
    induction n2 with
    | zero => intro H locs ls v2 hG hl b2 c2 hn2; exact absurd hn2 (Nat.not_lt_zero _)
    | succ n2 ih2 =>
      intro H locs ls v2 hG hl b2 c2 hn2
      refine lv_iload_n hx hb dX4_putWord_2 rfl (lv_at hl 2 rfl) ?_
      refine lv_aload_n hx hb dX4_putWord_3 rfl (lv_at hl 1 rfl) ?_
      refine tc_callp (ts_runV (As := []) (rest := [.int v2]) E hSt hG hk1 (c_J0_length_8abf5 l G τ k1 hk1) rfl kv_J0_length_8abf5 ml_X4_78 ⟨rfl, rfl, Nat.le_of_ble_eq_true rfl, Nat.le_of_ble_eq_true rfl⟩ rfl hl.1 rfl (Nat.le_of_ble_eq_true rfl) ⟨Nat.zero_le _, Nat.zero_le _⟩ dX4_putWord_4) (fun r1 pr1 => ?_)
      have pr1 : r1.toInt = ((tXl.getD k1 0 : Nat) : Int) ∧ 0 ≤ r1.toInt ∧ r1.toInt ≤ 6 := pr1
      refine lv_icmp_ge (tgt := 25) hx hb dX4_putWord_7 (by decide) (fun c2 => ?_) (fun c2 => ?_)
      · skip
        have ic2 := tn_le rfl rfl c2
        exact tc_vret E hr hlk hG dX4_putWord_25
      · skip
        have ic2 := tn_nle rfl rfl c2
        refine lv_aload_n hx hb dX4_putWord_10 rfl (lv_at hl 0 rfl) ?_
        refine lv_aload_n hx hb dX4_putWord_11 rfl (lv_at hl 1 rfl) ?_
        refine lv_iload_n hx hb dX4_putWord_12 rfl (lv_at hl 2 rfl) ?_
        refine tc_calli hG (ts_runV (As := [.int v2]) (rest := [.ref h0]) E hSt hG hk1 (c_J0_charAt_5068e l G τ k1 v2 hk1 (by omega) (by omega) (by omega)) rfl kv_J0_charAt_5068e ml_X4_83 ⟨rfl, rfl, Nat.le_of_ble_eq_true rfl, Nat.le_of_ble_eq_true rfl⟩ rfl hl.1 rfl (Nat.le_of_ble_eq_true rfl) ⟨Nat.zero_le _, Nat.zero_le _⟩ dX4_putWord_13) (fun r3 H locs pr3 hG => ?_)
        have pr3 : 0 ≤ r3.toInt ∧ r3.toInt ≤ 65535 := pr3
        refine tc_callv hG (tc_runV (As := [.int r3]) (rest := []) E hSt hG (c_X4_put l G τ h0 r3 t0 (by omega) (by omega)) t0 rv_8 kv_X4_put ml_X4_56 ⟨rfl, rfl, Nat.le_of_ble_eq_true rfl, Nat.le_of_ble_eq_true rfl⟩ rfl hl.1 rfl (Nat.le_of_ble_eq_true rfl) ⟨Nat.zero_le _, Nat.zero_le _⟩ dX4_putWord_16) (fun H locs hG => ?_)
        obtain ⟨z5, ez5⟩ : ∃ y : Int32, y = v2 + (1) := ⟨_, rfl⟩
        refine lv_iinc (v := z5) (lv' := [(2, .int z5), (0, .ref h0), (1, .ref (G.2.2.2.1 k1))]) hx hb dX4_putWord_19 hl (k := 2) rfl (by rw [ez5]; rfl) (by decide) rfl (fun ls hl => ?_)
        have tz5 := tn_add ez5 rfl kI_1 (by omega) (by omega)
        refine lv_goto (tgt := 2) hx hb dX4_putWord_22 (by decide) ?_
        exact ih2 H locs ls z5 hG (lv_sub hl [1, 2, 0] rfl) (by omega) (by omega) (by omega)
  refine lv_iconst (v := 0) hx hb dX4_putWord_0 (by decide) ?_
  refine lv_istore_n (lv' := [(2, .int 0), (0, .ref h0), (1, .ref (G.2.2.2.1 k1))]) hx hb dX4_putWord_1 rfl hl (by decide) rfl (fun ls hl => ?_)
  exact J2 ((6 - (0 : Int32).toInt).toNat + 1) H locs ls (0 : Int32) hG (lv_sub hl [1, 2, 0] rfl) (by decide) (by decide) (Nat.lt_succ_self _)

set_option maxHeartbeats 4000000 in
set_option maxRecDepth 100000 in
theorem c_X4_putNumber (l : Launch) (G : tG) (τ : Nat → Nat) (h0 : Nat) (x1 : Int32) (t0 : τ h0 = 8) : Met l yX4_putNumber (.code yX4_putNumber cX4_putNumber 2 none :: tWS) (tRm 1 21) (va_Pc [.ref h0, .int x1] (tPre G τ)) (tQv G τ) 0 0 (tA τ) := by
  refine tc_met (by decide) (Nat.le_of_ble_eq_true rfl) ?_
  intro p e s m below meth c E hSt hr hlk hG ls hl
  have hl : lv_has ls 2 [(0, .ref h0), (1, .int x1)] := hl
  have hx := E.1
  have hb := E.2.1
  obtain ⟨H, eH⟩ : ∃ H, H = s.heap := ⟨_, rfl⟩
  obtain ⟨locs, eL⟩ : ∃ x : List Loc, x = [] := ⟨_, rfl⟩
  have hG : tGH G τ s H locs := by rw [eH, eL]; exact hG
  suffices hW : W p l e (tRm 1 21) s m ([.ref h0, .int x1] : List Value).toArray below meth c H locs 0 0 (MQ below (tQv G τ) ([.ref h0, .int x1] : List Value).toArray s 0 0 (tA τ)) (F0 m 0 ls []) by subst eH; subst eL; exact hW
  clear eH eL
  have J18 : ∀ (H : Heap) (locs : List Loc) (ls : Array Slot), tGH G τ s H locs → lv_has ls 2 [(0, .ref h0), (1, .int x1)] → W p l e (tRm 1 21) s m ([.ref h0, .int x1] : List Value).toArray below meth c H locs 0 0 (MQ below (tQv G τ) ([.ref h0, .int x1] : List Value).toArray s 0 0 (tA τ)) (F0 m 18 ls []) := by
    intro H locs ls hG hl
    refine lv_aload_n hx hb dX4_putNumber_18 rfl (lv_at hl 0 rfl) ?_
    refine lv_bipush (v := 48) hx hb dX4_putNumber_19 (by decide) ?_
    refine lv_iload_n hx hb dX4_putNumber_21 rfl (lv_at hl 1 rfl) ?_
    refine lv_bipush (v := 10) hx hb dX4_putNumber_22 (by decide) ?_
    refine lv_irem hx hb dX4_putNumber_24 (by decide) ?_
    refine lv_topi (fun z1 ez1 => ?_)
    refine lv_iadd hx hb dX4_putNumber_25 ?_
    refine lv_topi (fun z2 ez2 => ?_)
    refine lv_i2c hx hb dX4_putNumber_26 rfl ?_
    refine lv_topi (fun z3 ez3 => ?_)
    have tz3 := tn_i2c ez3
    refine tc_callv hG (tc_runV (As := [.int z3]) (rest := []) E hSt hG (c_X4_put l G τ h0 z3 t0 (by omega) (by omega)) t0 rv_8 kv_X4_put ml_X4_56 ⟨rfl, rfl, Nat.le_of_ble_eq_true rfl, Nat.le_of_ble_eq_true rfl⟩ rfl hl.1 rfl (Nat.le_of_ble_eq_true rfl) ⟨Nat.zero_le _, Nat.zero_le _⟩ dX4_putNumber_27) (fun H locs hG => ?_)
    exact tc_vret E hr hlk hG dX4_putNumber_30
  refine lv_iload_n hx hb dX4_putNumber_0 rfl (lv_at hl 1 rfl) ?_
  refine lv_bipush (v := 10) hx hb dX4_putNumber_1 (by decide) ?_
  refine lv_icmp_lt (tgt := 18) hx hb dX4_putNumber_3 (by decide) (fun c5 => ?_) (fun c5 => ?_)
  · skip
    have ic5 := tn_lt rfl kI_10 c5
    exact J18 H locs ls hG (lv_sub hl [0, 1] rfl)
  · skip
    have ic5 := tn_nlt rfl kI_10 c5
    refine lv_aload_n hx hb dX4_putNumber_6 rfl (lv_at hl 0 rfl) ?_
    refine lv_bipush (v := 48) hx hb dX4_putNumber_7 (by decide) ?_
    refine lv_iload_n hx hb dX4_putNumber_9 rfl (lv_at hl 1 rfl) ?_
    refine lv_bipush (v := 10) hx hb dX4_putNumber_10 (by decide) ?_
    refine lv_idiv hx hb dX4_putNumber_12 (by decide) ?_
    refine lv_topi (fun z6 ez6 => ?_)
    refine lv_iadd hx hb dX4_putNumber_13 ?_
    refine lv_topi (fun z7 ez7 => ?_)
    refine lv_i2c hx hb dX4_putNumber_14 rfl ?_
    refine lv_topi (fun z8 ez8 => ?_)
    have tz8 := tn_i2c ez8
    refine tc_callv hG (tc_runV (As := [.int z8]) (rest := []) E hSt hG (c_X4_put l G τ h0 z8 t0 (by omega) (by omega)) t0 rv_8 kv_X4_put ml_X4_56 ⟨rfl, rfl, Nat.le_of_ble_eq_true rfl, Nat.le_of_ble_eq_true rfl⟩ rfl hl.1 rfl (Nat.le_of_ble_eq_true rfl) ⟨Nat.zero_le _, Nat.zero_le _⟩ dX4_putNumber_15) (fun H locs hG => ?_)
    exact J18 H locs ls hG (lv_sub hl [0, 1] rfl)

set_option maxHeartbeats 4000000 in
set_option maxRecDepth 100000 in
theorem c_X4_write (l : Launch) (G : tG) (τ : Nat → Nat) : ∀ (d : Nat) (h0 : Nat) (h1 : Nat) (x2 : Int32) (t0 : τ h0 = 8) (t1 : τ h1 = 3) (l2 : 0 ≤ x2.toInt) (hd : (24 - x2.toInt).toNat < d), Met l yX4_write (.code yX4_write cX4_write 4 none :: tWS) (tRm (1 * d + 12) (60 * d + 400)) (va_Pc [.ref h0, .ref h1, .int x2] (tPre G τ)) (tQv G τ) 0 0 (tA τ) := by
  intro d
  induction d with
  | zero => intro h0 h1 x2 t0 t1 l2 hd; exact absurd hd (Nat.not_lt_zero _)
  | succ d ih =>
  intro h0 h1 x2 t0 t1 l2 hd
  refine tc_met (by decide) (Nat.le_of_ble_eq_true rfl) ?_
  intro p e s m below meth c E hSt hr hlk hG ls hl
  have hl : lv_has ls 4 [(0, .ref h0), (1, .ref h1), (2, .int x2)] := hl
  have hx := E.1
  have hb := E.2.1
  obtain ⟨H, eH⟩ : ∃ H, H = s.heap := ⟨_, rfl⟩
  obtain ⟨locs, eL⟩ : ∃ x : List Loc, x = [] := ⟨_, rfl⟩
  have hG : tGH G τ s H locs := by rw [eH, eL]; exact hG
  suffices hW : W p l e (tRm (1 * (d + 1) + 12) (60 * (d + 1) + 400)) s m ([.ref h0, .ref h1, .int x2] : List Value).toArray below meth c H locs 0 0 (MQ below (tQv G τ) ([.ref h0, .ref h1, .int x2] : List Value).toArray s 0 0 (tA τ)) (F0 m 0 ls []) by subst eH; subst eL; exact hW
  clear eH eL
  have J76 : ∀ (n76 : Nat) (H : Heap) (locs : List Loc) (ls : Array Slot) (v3 : Int32), tGH G τ s H locs → lv_has ls 4 [(0, .ref h0), (1, .ref h1), (2, .int x2), (3, .int v3)] → x2.toInt ≤ 23 → 0 ≤ v3.toInt → v3.toInt ≤ 8 → (8 - v3.toInt).toNat < n76 → W p l e (tRm (1 * (d + 1) + 12) (60 * (d + 1) + 400)) s m ([.ref h0, .ref h1, .int x2] : List Value).toArray below meth c H locs 0 0 (MQ below (tQv G τ) ([.ref h0, .ref h1, .int x2] : List Value).toArray s 0 0 (tA τ)) (F0 m 76 ls []) := by
    intro n76
    induction n76 with
    | zero => intro H locs ls v3 hG hl cp2 b3 c3 hn76; exact absurd hn76 (Nat.not_lt_zero _)
    | succ n76 ih76 =>
      intro H locs ls v3 hG hl cp2 b3 c3 hn76
      have J96 : ∀ (H : Heap) (locs : List Loc) (ls : Array Slot) (v3 : Int32) (as0 : Nat) (vs1 : Int32), tGH G τ s H locs → lv_has ls 4 [(0, .ref h0), (1, .ref h1), (2, .int x2), (3, .int v3)] → x2.toInt ≤ 23 → 0 ≤ v3.toInt → v3.toInt ≤ 7 → τ as0 = 8 → 40 ≤ vs1.toInt → vs1.toInt ≤ 44 → (8 - v3.toInt).toNat < n76 + 1 → W p l e (tRm (1 * (d + 1) + 12) (60 * (d + 1) + 400)) s m ([.ref h0, .ref h1, .int x2] : List Value).toArray below meth c H locs 0 0 (MQ below (tQv G τ) ([.ref h0, .ref h1, .int x2] : List Value).toArray s 0 0 (tA τ)) (F0 m 96 ls [.int vs1, .ref as0]) := by
        intro H locs ls v3 as0 vs1 hG hl cp2 b3 c3 es0 bs1 cs1 hm76
        refine tc_callv hG (tc_runV (As := [.int vs1]) (rest := []) E hSt hG (c_X4_put l G τ as0 vs1 es0 (by omega) (by omega)) es0 rv_8 kv_X4_put ml_X4_56 (tRm_ok (by omega) (by omega)) rfl hl.1 rfl (Nat.le_of_ble_eq_true rfl) ⟨Nat.zero_le _, Nat.zero_le _⟩ dX4_write_96) (fun H locs hG => ?_)
        refine lv_aload_n hx hb dX4_write_99 rfl (lv_at hl 0 rfl) ?_
        refine lv_aload_n hx hb dX4_write_100 rfl (lv_at hl 0 rfl) ?_
        refine tc_getr E hG t0 fr_X4_15 dX4_write_101 (fun oa2 hoa2 => ?_)
        refine lv_aload_n hx hb dX4_write_104 rfl (lv_at hl 1 rfl) ?_
        refine lv_iload_n hx hb dX4_write_105 rfl (lv_at hl 3 rfl) ?_
        refine tc_callpr (tc_runV (As := [.ref h1, .int v3]) (rest := [.ref h0]) E hSt hG (c_X8_kidOf l G τ oa2 h1 v3 hoa2 t1 (by omega) (by omega)) hoa2 rv_2 kv_X8_kidOf ml_X4_74 (tRm_ok (by omega) (by omega)) rfl hl.1 rfl (Nat.le_of_ble_eq_true rfl) ⟨Nat.zero_le _, Nat.zero_le _⟩ dX4_write_106) (fun r3 pr3 => ?_)
        refine lv_iload_n hx hb dX4_write_109 rfl (lv_at hl 2 rfl) ?_
        refine lv_iconst (v := 1) hx hb dX4_write_110 (by decide) ?_
        refine lv_iadd hx hb dX4_write_111 ?_
        refine lv_topi (fun z4 ez4 => ?_)
        have tz4 := tn_add ez4 rfl kI_1 (by omega) (by omega)
        refine tc_callv hG (tc_runV (As := [.ref r3, .int z4]) (rest := []) E hSt hG (ih h0 r3 z4 t0 pr3 (by omega) (by omega)) t0 rv_8 kv_X4_write ml_X4_33 (tRm_ok (by omega) (by omega)) rfl hl.1 rfl (Nat.le_of_ble_eq_true rfl) ⟨Nat.zero_le _, Nat.zero_le _⟩ dX4_write_112) (fun H locs hG => ?_)
        obtain ⟨z6, ez6⟩ : ∃ y : Int32, y = v3 + (1) := ⟨_, rfl⟩
        refine lv_iinc (v := z6) (lv' := [(3, .int z6), (0, .ref h0), (1, .ref h1), (2, .int x2)]) hx hb dX4_write_115 hl (k := 3) rfl (by rw [ez6]; rfl) (by decide) rfl (fun ls hl => ?_)
        have tz6 := tn_add ez6 rfl kI_1 (by omega) (by omega)
        refine lv_goto (tgt := 76) hx hb dX4_write_118 (by decide) ?_
        exact ih76 H locs ls z6 hG (lv_sub hl [1, 2, 3, 0] rfl) (by omega) (by omega) (by omega) (by omega)
      refine lv_iload_n hx hb dX4_write_76 rfl (lv_at hl 3 rfl) ?_
      refine lv_aload_n hx hb dX4_write_77 rfl (lv_at hl 1 rfl) ?_
      refine tc_geti E hG t1 fi_X4_71 dX4_write_78 (fun z7 lz7 uz7 => ?_)
      refine lv_icmp_ge (tgt := 121) hx hb dX4_write_81 (by decide) (fun c8 => ?_) (fun c8 => ?_)
      · skip
        have ic8 := tn_le rfl rfl c8
        refine lv_aload_n hx hb dX4_write_121 rfl (lv_at hl 1 rfl) ?_
        refine tc_geti E hG t1 fi_X4_71 dX4_write_122 (fun z9 lz9 uz9 => ?_)
        refine lv_if_le (tgt := 134) hx hb dX4_write_125 (by decide) (fun c10 => ?_) (fun c10 => ?_)
        · skip
          have ic10 := tn_le rfl kI_0 c10
          exact tc_vret E hr hlk hG dX4_write_134
        · skip
          have ic10 := tn_nle rfl kI_0 c10
          refine lv_aload_n hx hb dX4_write_128 rfl (lv_at hl 0 rfl) ?_
          refine lv_bipush (v := 41) hx hb dX4_write_129 (by decide) ?_
          refine tc_callv hG (tc_runV (As := [.int 41]) (rest := []) E hSt hG (c_X4_put l G τ h0 (41 : Int32) t0 (by decide) (by decide)) t0 rv_8 kv_X4_put ml_X4_56 (tRm_ok (by omega) (by omega)) rfl hl.1 rfl (Nat.le_of_ble_eq_true rfl) ⟨Nat.zero_le _, Nat.zero_le _⟩ dX4_write_131) (fun H locs hG => ?_)
          exact tc_vret E hr hlk hG dX4_write_134
      · skip
        have ic8 := tn_nle rfl rfl c8
        refine lv_aload_n hx hb dX4_write_84 rfl (lv_at hl 0 rfl) ?_
        refine lv_iload_n hx hb dX4_write_85 rfl (lv_at hl 3 rfl) ?_
        refine lv_if_ne (tgt := 94) hx hb dX4_write_86 (by decide) (fun c12 => ?_) (fun c12 => ?_)
        · skip
          have ic12 := tn_ne rfl kI_0 c12
          refine lv_bipush (v := 44) hx hb dX4_write_94 (by decide) ?_
          exact J96 H locs ls v3 (h0) (44 : Int32) hG (lv_sub hl [0, 1, 2, 3] rfl) (by omega) (by omega) (by omega) t0 (by decide) (by decide) (by omega)
        · skip
          have ic12 := tn_eq rfl kI_0 c12
          refine lv_bipush (v := 40) hx hb dX4_write_89 (by decide) ?_
          refine lv_goto (tgt := 96) hx hb dX4_write_91 (by decide) ?_
          exact J96 H locs ls v3 (h0) (40 : Int32) hG (lv_sub hl [0, 1, 2, 3] rfl) (by omega) (by omega) (by omega) t0 (by decide) (by decide) (by omega)
  have J74 : ∀ (H : Heap) (locs : List Loc) (ls : Array Slot), tGH G τ s H locs → lv_has ls 4 [(0, .ref h0), (1, .ref h1), (2, .int x2)] → x2.toInt ≤ 23 → W p l e (tRm (1 * (d + 1) + 12) (60 * (d + 1) + 400)) s m ([.ref h0, .ref h1, .int x2] : List Value).toArray below meth c H locs 0 0 (MQ below (tQv G τ) ([.ref h0, .ref h1, .int x2] : List Value).toArray s 0 0 (tA τ)) (F0 m 74 ls []) := by
    intro H locs ls hG hl cp2
    refine lv_iconst (v := 0) hx hb dX4_write_74 (by decide) ?_
    refine lv_istore_n (lv' := [(3, .int 0), (0, .ref h0), (1, .ref h1), (2, .int x2)]) hx hb dX4_write_75 rfl hl (by decide) rfl (fun ls hl => ?_)
    exact J76 ((8 - (0 : Int32).toInt).toNat + 1) H locs ls (0 : Int32) hG (lv_sub hl [1, 2, 3, 0] rfl) (by omega) (by decide) (by decide) (Nat.lt_succ_self _)
  have J20 : ∀ (n20 : Nat) (H : Heap) (locs : List Loc) (ls : Array Slot) (v3 : Int32), tGH G τ s H locs → lv_has ls 4 [(0, .ref h0), (1, .ref h1), (2, .int x2), (3, .int v3)] → x2.toInt ≤ 23 → 0 ≤ v3.toInt → v3.toInt ≤ 4 → (4 - v3.toInt).toNat < n20 → W p l e (tRm (1 * (d + 1) + 12) (60 * (d + 1) + 400)) s m ([.ref h0, .ref h1, .int x2] : List Value).toArray below meth c H locs 0 0 (MQ below (tQv G τ) ([.ref h0, .ref h1, .int x2] : List Value).toArray s 0 0 (tA τ)) (F0 m 20 ls []) := by
    intro n20
    induction n20 with
    | zero => intro H locs ls v3 hG hl cp2 b3 c3 hn20; exact absurd hn20 (Nat.not_lt_zero _)
    | succ n20 ih20 =>
      intro H locs ls v3 hG hl cp2 b3 c3 hn20
      refine lv_iload_n hx hb dX4_write_20 rfl (lv_at hl 3 rfl) ?_
      refine lv_aload_n hx hb dX4_write_21 rfl (lv_at hl 1 rfl) ?_
      refine tc_geti E hG t1 fi_X4_37 dX4_write_22 (fun z13 _ _ => ?_)
      refine tc_callp (tc_runS (As := [.int z13]) (rest := [.int v3]) E hSt hG (c_X1_numbersOf l G τ z13) ks_X1_numbersOf ml_X4_52 (tRm_ok (by omega) (by omega)) rfl hl.1 rfl (Nat.le_of_ble_eq_true rfl) ⟨Nat.zero_le _, Nat.zero_le _⟩ dX4_write_25) (fun r14 pr14 => ?_)
      have pr14 : (0 ≤ r14.toInt ∧ r14.toInt ≤ 4) ∧ (r14.toInt = 0 ∨ (0 ≤ z13.toInt ∧ z13.toInt ≤ 9)) := pr14
      refine lv_icmp_ge (tgt := 53) hx hb dX4_write_28 (by decide) (fun c15 => ?_) (fun c15 => ?_)
      · skip
        have ic15 := tn_le rfl rfl c15
        refine lv_aload_n hx hb dX4_write_53 rfl (lv_at hl 1 rfl) ?_
        refine tc_geti E hG t1 fi_X4_68 dX4_write_54 (fun z16 _ _ => ?_)
        refine lv_if_le (tgt := 74) hx hb dX4_write_57 (by decide) (fun c17 => ?_) (fun c17 => ?_)
        · skip
          have ic17 := tn_le rfl kI_0 c17
          exact J74 H locs ls hG (lv_sub hl [0, 1, 2] rfl) (by omega)
        · skip
          have ic17 := tn_nle rfl kI_0 c17
          refine lv_aload_n hx hb dX4_write_60 rfl (lv_at hl 0 rfl) ?_
          refine lv_bipush (v := 42) hx hb dX4_write_61 (by decide) ?_
          refine tc_callv hG (tc_runV (As := [.int 42]) (rest := []) E hSt hG (c_X4_put l G τ h0 (42 : Int32) t0 (by decide) (by decide)) t0 rv_8 kv_X4_put ml_X4_56 (tRm_ok (by omega) (by omega)) rfl hl.1 rfl (Nat.le_of_ble_eq_true rfl) ⟨Nat.zero_le _, Nat.zero_le _⟩ dX4_write_63) (fun H locs hG => ?_)
          refine lv_aload_n hx hb dX4_write_66 rfl (lv_at hl 0 rfl) ?_
          refine lv_aload_n hx hb dX4_write_67 rfl (lv_at hl 1 rfl) ?_
          refine tc_geti E hG t1 fi_X4_68 dX4_write_68 (fun z19 _ _ => ?_)
          refine tc_callv hG (tc_runV (As := [.int z19]) (rest := []) E hSt hG (c_X4_putNumber l G τ h0 z19 t0) t0 rv_8 kv_X4_putNumber ml_X4_64 (tRm_ok (by omega) (by omega)) rfl hl.1 rfl (Nat.le_of_ble_eq_true rfl) ⟨Nat.zero_le _, Nat.zero_le _⟩ dX4_write_71) (fun H locs hG => ?_)
          exact J74 H locs ls hG (lv_sub hl [0, 1, 2] rfl) (by omega)
      · skip
        have ic15 := tn_nle rfl rfl c15
        refine lv_aload_n hx hb dX4_write_31 rfl (lv_at hl 0 rfl) ?_
        refine lv_bipush (v := 32) hx hb dX4_write_32 (by decide) ?_
        refine tc_callv hG (tc_runV (As := [.int 32]) (rest := []) E hSt hG (c_X4_put l G τ h0 (32 : Int32) t0 (by decide) (by decide)) t0 rv_8 kv_X4_put ml_X4_56 (tRm_ok (by omega) (by omega)) rfl hl.1 rfl (Nat.le_of_ble_eq_true rfl) ⟨Nat.zero_le _, Nat.zero_le _⟩ dX4_write_34) (fun H locs hG => ?_)
        refine lv_aload_n hx hb dX4_write_37 rfl (lv_at hl 0 rfl) ?_
        refine lv_aload_n hx hb dX4_write_38 rfl (lv_at hl 1 rfl) ?_
        refine tc_getr E hG t1 fr_X4_60 dX4_write_39 (fun oa22 hoa22 => ?_)
        refine lv_iload_n hx hb dX4_write_42 rfl (lv_at hl 3 rfl) ?_
        refine tc_iald E hG hoa22 ta_11 (t_in (by omega) (by omega)) dX4_write_43 (fun z23 _ _ => ?_)
        refine tc_callv hG (tc_runV (As := [.int z23]) (rest := []) E hSt hG (c_X4_putNumber l G τ h0 z23 t0) t0 rv_8 kv_X4_putNumber ml_X4_64 (tRm_ok (by omega) (by omega)) rfl hl.1 rfl (Nat.le_of_ble_eq_true rfl) ⟨Nat.zero_le _, Nat.zero_le _⟩ dX4_write_44) (fun H locs hG => ?_)
        obtain ⟨z25, ez25⟩ : ∃ y : Int32, y = v3 + (1) := ⟨_, rfl⟩
        refine lv_iinc (v := z25) (lv' := [(3, .int z25), (0, .ref h0), (1, .ref h1), (2, .int x2)]) hx hb dX4_write_47 hl (k := 3) rfl (by rw [ez25]; rfl) (by decide) rfl (fun ls hl => ?_)
        have tz25 := tn_add ez25 rfl kI_1 (by omega) (by omega)
        refine lv_goto (tgt := 20) hx hb dX4_write_50 (by decide) ?_
        exact ih20 H locs ls z25 hG (lv_sub hl [1, 2, 3, 0] rfl) (by omega) (by omega) (by omega) (by omega)
  refine lv_iload_n hx hb dX4_write_0 rfl (lv_at hl 2 rfl) ?_
  refine lv_bipush (v := 24) hx hb dX4_write_1 (by decide) ?_
  refine lv_icmp_lt (tgt := 7) hx hb dX4_write_3 (by decide) (fun c26 => ?_) (fun c26 => ?_)
  · skip
    have ic26 := tn_lt rfl kI_24 c26
    refine lv_aload_n hx hb dX4_write_7 rfl (lv_at hl 0 rfl) ?_
    refine lv_aload_n hx hb dX4_write_8 rfl (lv_at hl 1 rfl) ?_
    refine tc_geti E hG t1 fi_X4_37 dX4_write_9 (fun z27 _ _ => ?_)
    refine tc_callpr (tc_runS (As := [.int z27]) (rest := [.ref h0]) E hSt hG (c_X1_nameOf l G τ z27) ks_X1_nameOf ml_X4_42 (tRm_ok (by omega) (by omega)) rfl hl.1 rfl (Nat.le_of_ble_eq_true rfl) ⟨Nat.zero_le _, Nat.zero_le _⟩ dX4_write_12) (fun r28 pr28 => ?_)
    obtain ⟨kr28, hkr28, rfl⟩ := pr28
    refine tc_callv hG (tc_runV (As := [.ref (G.2.2.2.1 kr28)]) (rest := []) E hSt hG (c_X4_putWord l G τ h0 kr28 t0 hkr28) t0 rv_8 kv_X4_putWord ml_X4_48 (tRm_ok (by omega) (by omega)) rfl hl.1 rfl (Nat.le_of_ble_eq_true rfl) ⟨Nat.zero_le _, Nat.zero_le _⟩ dX4_write_15) (fun H locs hG => ?_)
    refine lv_iconst (v := 0) hx hb dX4_write_18 (by decide) ?_
    refine lv_istore_n (lv' := [(3, .int 0), (0, .ref h0), (1, .ref h1), (2, .int x2)]) hx hb dX4_write_19 rfl hl (by decide) rfl (fun ls hl => ?_)
    exact J20 ((4 - (0 : Int32).toInt).toNat + 1) H locs ls (0 : Int32) hG (lv_sub hl [1, 2, 3, 0] rfl) (by omega) (by decide) (by decide) (Nat.lt_succ_self _)
  · skip
    have ic26 := tn_nlt rfl kI_24 c26
    exact tc_vret E hr hlk hG dX4_write_6

set_option maxHeartbeats 4000000 in
set_option maxRecDepth 100000 in
theorem c_X4_print (l : Launch) (G : tG) (τ : Nat → Nat) (h0 : Nat) (x1 : Int32) (t0 : τ h0 = 8) : Met l yX4_print (.code yX4_print cX4_print 2 none :: tWS) (tRm 38 1923) (va_Pc [.ref h0, .int x1] (tPre G τ)) (tQv G τ) 0 0 (tA τ) := by
  refine tc_met (by decide) (Nat.le_of_ble_eq_true rfl) ?_
  intro p e s m below meth c E hSt hr hlk hG ls hl
  have hl : lv_has ls 2 [(0, .ref h0), (1, .int x1)] := hl
  have hx := E.1
  have hb := E.2.1
  obtain ⟨H, eH⟩ : ∃ H, H = s.heap := ⟨_, rfl⟩
  obtain ⟨locs, eL⟩ : ∃ x : List Loc, x = [] := ⟨_, rfl⟩
  have hG : tGH G τ s H locs := by rw [eH, eL]; exact hG
  suffices hW : W p l e (tRm 38 1923) s m ([.ref h0, .int x1] : List Value).toArray below meth c H locs 0 0 (MQ below (tQv G τ) ([.ref h0, .int x1] : List Value).toArray s 0 0 (tA τ)) (F0 m 0 ls []) by subst eH; subst eL; exact hW
  clear eH eL
  refine lv_aload_n hx hb dX4_print_0 rfl (lv_at hl 0 rfl) ?_
  refine lv_iconst (v := 0) hx hb dX4_print_1 (by decide) ?_
  refine tc_puti E hG t0 fp_X4_19 (by decide) (by decide) dX4_print_2 (fun H locs hG => ?_)
  refine lv_aload_n hx hb dX4_print_5 rfl (lv_at hl 0 rfl) ?_
  refine tc_getr E hG t0 fr_X4_15 dX4_print_6 (fun oa1 hoa1 => ?_)
  refine lv_iload_n hx hb dX4_print_9 rfl (lv_at hl 1 rfl) ?_
  refine tc_callp (tc_runV (As := [.int x1]) (rest := []) E hSt hG (c_X8_has l G τ oa1 x1 hoa1) hoa1 rv_2 kv_X8_has ml_X4_23 ⟨rfl, rfl, Nat.le_of_ble_eq_true rfl, Nat.le_of_ble_eq_true rfl⟩ rfl hl.1 rfl (Nat.le_of_ble_eq_true rfl) ⟨Nat.zero_le _, Nat.zero_le _⟩ dX4_print_10) (fun r2 pr2 => ?_)
  have pr2 : (0 ≤ r2.toInt ∧ r2.toInt ≤ 1) ∧ (r2.toInt = 0 ∨ (0 ≤ x1.toInt ∧ x1.toInt ≤ 23)) := pr2
  refine lv_if_eq (tgt := 30) hx hb dX4_print_13 (by decide) (fun c3 => ?_) (fun c3 => ?_)
  · skip
    have ic3 := tn_eq rfl kI_0 c3
    exact tc_vret E hr hlk hG dX4_print_30
  · skip
    have ic3 := tn_ne rfl kI_0 c3
    refine lv_aload_n hx hb dX4_print_16 rfl (lv_at hl 0 rfl) ?_
    refine lv_aload_n hx hb dX4_print_17 rfl (lv_at hl 0 rfl) ?_
    refine tc_getr E hG t0 fr_X4_15 dX4_print_18 (fun oa4 hoa4 => ?_)
    refine tc_getr E hG hoa4 fr_X4_29 dX4_print_21 (fun oa5 hoa5 => ?_)
    refine lv_iload_n hx hb dX4_print_24 rfl (lv_at hl 1 rfl) ?_
    refine tc_aald3 E hG hoa5 ta_10 (t_in (by omega) (by omega)) dX4_print_25 (fun oa6 hoa6 => ?_)
    refine lv_iconst (v := 0) hx hb dX4_print_26 (by decide) ?_
    refine tc_callv hG (tc_runV (As := [.ref oa6, .int 0]) (rest := []) E hSt hG (c_X4_write l G τ 25 h0 oa6 (0 : Int32) t0 hoa6 (by decide) (by first | decide | omega)) t0 rv_8 kv_X4_write ml_X4_33 ⟨rfl, rfl, Nat.le_of_ble_eq_true rfl, Nat.le_of_ble_eq_true rfl⟩ rfl hl.1 rfl (Nat.le_of_ble_eq_true rfl) ⟨Nat.zero_le _, Nat.zero_le _⟩ dX4_print_27) (fun H locs hG => ?_)
    exact tc_vret E hr hlk hG dX4_print_30

set_option maxHeartbeats 4000000 in
set_option maxRecDepth 100000 in
theorem c_X7_workDone (l : Launch) (G : tG) (τ : Nat → Nat) (h0 : Nat) (t0 : τ h0 = 6) : Met l yX7_workDone (.code yX7_workDone cX7_workDone 1 (some .int) :: tWS) (tRm 0 0) (va_Pc [.ref h0] (tPre G τ)) (tQp (fun r => True)) 0 0 tNo := by
  refine tc_met (by decide) (Nat.le_of_ble_eq_true rfl) ?_
  intro p e s m below meth c E hSt hr hlk hG ls hl
  have hl : lv_has ls 1 [(0, .ref h0)] := hl
  have hx := E.1
  have hb := E.2.1
  obtain ⟨H, eH⟩ : ∃ H, H = s.heap := ⟨_, rfl⟩
  obtain ⟨locs, eL⟩ : ∃ x : List Loc, x = [] := ⟨_, rfl⟩
  have hG : tGH G τ s H locs := by rw [eH, eL]; exact hG
  suffices hW : W p l e (tRm 0 0) s m ([.ref h0] : List Value).toArray below meth c H locs 0 0 (MQ below (tQp (fun r => True)) ([.ref h0] : List Value).toArray s 0 0 tNo) (F0 m 0 ls []) by subst eH; subst eL; exact hW
  refine lv_aload_n hx hb dX7_workDone_0 rfl (lv_at hl 0 rfl) ?_
  refine tc_geti E hG t0 fi_X7_40 dX7_workDone_1 (fun z1 _ _ => ?_)
  refine lv_aload_n hx hb dX7_workDone_4 rfl (lv_at hl 0 rfl) ?_
  refine tc_getr E hG t0 fr_X7_26 dX7_workDone_5 (fun oa2 hoa2 => ?_)
  refine tc_geti E hG hoa2 fic_X7_44 dX7_workDone_8 (fun z3 _ _ => ?_)
  refine lv_iadd hx hb dX7_workDone_11 ?_
  refine lv_topi (fun z4 ez4 => ?_)
  refine lv_aload_n hx hb dX7_workDone_12 rfl (lv_at hl 0 rfl) ?_
  refine tc_getr E hG t0 fr_X7_30 dX7_workDone_13 (fun oa5 hoa5 => ?_)
  refine tc_geti E hG hoa5 fic_X7_44 dX7_workDone_16 (fun z6 _ _ => ?_)
  refine lv_iadd hx hb dX7_workDone_19 ?_
  refine lv_topi (fun z7 ez7 => ?_)
  exact tc_pret E hr hlk eH eL rfl trivial dX7_workDone_20

set_option maxHeartbeats 4000000 in
set_option maxRecDepth 100000 in
theorem c_X7_isTired (l : Launch) (G : tG) (τ : Nat → Nat) (h0 : Nat) (t0 : τ h0 = 6) : Met l yX7_isTired (.code yX7_isTired cX7_isTired 1 (some .boolean) :: tWS) (tRm 1 20) (va_Pc [.ref h0] (tPre G τ)) (tQp (fun r => 0 ≤ r.toInt ∧ r.toInt ≤ 1)) 0 0 tNo := by
  refine tc_met (by decide) (Nat.le_of_ble_eq_true rfl) ?_
  intro p e s m below meth c E hSt hr hlk hG ls hl
  have hl : lv_has ls 1 [(0, .ref h0)] := hl
  have hx := E.1
  have hb := E.2.1
  obtain ⟨H, eH⟩ : ∃ H, H = s.heap := ⟨_, rfl⟩
  obtain ⟨locs, eL⟩ : ∃ x : List Loc, x = [] := ⟨_, rfl⟩
  have hG : tGH G τ s H locs := by rw [eH, eL]; exact hG
  suffices hW : W p l e (tRm 1 20) s m ([.ref h0] : List Value).toArray below meth c H locs 0 0 (MQ below (tQp (fun r => 0 ≤ r.toInt ∧ r.toInt ≤ 1)) ([.ref h0] : List Value).toArray s 0 0 tNo) (F0 m 0 ls []) by subst eH; subst eL; exact hW
  refine lv_aload_n hx hb dX7_isTired_0 rfl (lv_at hl 0 rfl) ?_
  refine tc_callp (tc_runV (As := []) (rest := []) E hSt hG (c_X7_workDone l G τ h0 t0) t0 rv_6 kv_X7_workDone ml_X7_47 ⟨rfl, rfl, Nat.le_of_ble_eq_true rfl, Nat.le_of_ble_eq_true rfl⟩ rfl hl.1 rfl (Nat.le_of_ble_eq_true rfl) ⟨Nat.zero_le _, Nat.zero_le _⟩ dX7_isTired_1) (fun r1 pr1 => ?_)
  refine lv_ldc (v := 40000) hx hb E.2.2.2.1 (E.2.2.2.2.1 _ (t_w5 51 rfl rfl)) dX7_isTired_4 ?_
  refine lv_topi (fun z2 ez2 => ?_)
  refine lv_icmp_lt (tgt := 13) hx hb dX7_isTired_6 (by decide) (fun c3 => ?_) (fun c3 => ?_)
  · skip
    have ic3 := tn_lt rfl rfl c3
    refine lv_iconst (v := 0) hx hb dX7_isTired_13 (by decide) ?_
    exact tc_pret E hr hlk eH eL (t_nz (by decide) (by decide)).1 (show 0 ≤ (0 : Int32).toInt ∧ (0 : Int32).toInt ≤ 1 by have kk := kI_0; omega) dX7_isTired_14
  · skip
    have ic3 := tn_nlt rfl rfl c3
    refine lv_iconst (v := 1) hx hb dX7_isTired_9 (by decide) ?_
    refine lv_goto (tgt := 14) hx hb dX7_isTired_10 (by decide) ?_
    exact tc_pret E hr hlk eH eL (t_nz (by decide) (by decide)).1 (show 0 ≤ (1 : Int32).toInt ∧ (1 : Int32).toInt ≤ 1 by have kk := kI_1; omega) dX7_isTired_14

set_option maxHeartbeats 4000000 in
set_option maxRecDepth 100000 in
theorem c_X7_beginAgain (l : Launch) (G : tG) (τ : Nat → Nat) (h0 : Nat) (h1 : Nat) (t0 : τ h0 = 6) (t1 : τ h1 = 26) : Met l yX7_beginAgain (.code yX7_beginAgain cX7_beginAgain 2 none :: tWS) (tRm 3 83) (va_Pc [.ref h0, .ref h1] (tPre G τ)) (tQv G τ) 0 0 (tA τ) := by
  refine tc_met (by decide) (Nat.le_of_ble_eq_true rfl) ?_
  intro p e s m below meth c E hSt hr hlk hG ls hl
  have hl : lv_has ls 2 [(0, .ref h0), (1, .ref h1)] := hl
  have hx := E.1
  have hb := E.2.1
  obtain ⟨H, eH⟩ : ∃ H, H = s.heap := ⟨_, rfl⟩
  obtain ⟨locs, eL⟩ : ∃ x : List Loc, x = [] := ⟨_, rfl⟩
  have hG : tGH G τ s H locs := by rw [eH, eL]; exact hG
  suffices hW : W p l e (tRm 3 83) s m ([.ref h0, .ref h1] : List Value).toArray below meth c H locs 0 0 (MQ below (tQv G τ) ([.ref h0, .ref h1] : List Value).toArray s 0 0 (tA τ)) (F0 m 0 ls []) by subst eH; subst eL; exact hW
  clear eH eL
  refine lv_aload_n hx hb dX7_beginAgain_0 rfl (lv_at hl 1 rfl) ?_
  refine lv_aload_n hx hb dX7_beginAgain_1 rfl (lv_at hl 0 rfl) ?_
  refine tc_getr E hG t0 fr_X7_37 dX7_beginAgain_2 (fun oa1 hoa1 => ?_)
  refine tc_callv hG (tc_runV (As := [.ref oa1]) (rest := []) E hSt hG (c_X8_copyFrom_c l G τ h1 oa1 t1 hoa1) t1 rv_26 kv_X8_copyFrom ml_X7_52 ⟨rfl, rfl, Nat.le_of_ble_eq_true rfl, Nat.le_of_ble_eq_true rfl⟩ rfl hl.1 rfl (Nat.le_of_ble_eq_true rfl) ⟨Nat.zero_le _, Nat.zero_le _⟩ dX7_beginAgain_5) (fun H locs hG => ?_)
  refine lv_aload_n hx hb dX7_beginAgain_8 rfl (lv_at hl 0 rfl) ?_
  refine lv_dup hx hb dX7_beginAgain_9 rfl ?_
  refine tc_geti E hG t0 fi_X7_40 dX7_beginAgain_10 (fun z3 _ _ => ?_)
  refine lv_aload_n hx hb dX7_beginAgain_13 rfl (lv_at hl 0 rfl) ?_
  refine tc_getr E hG t0 fr_X7_37 dX7_beginAgain_14 (fun oa4 hoa4 => ?_)
  refine tc_callp (tc_runV (As := []) (rest := [.int z3, .ref h0]) E hSt hG (c_X8_countBoxes l G τ oa4 hoa4) hoa4 rv_2 kv_X8_countBoxes ml_X7_55 ⟨rfl, rfl, Nat.le_of_ble_eq_true rfl, Nat.le_of_ble_eq_true rfl⟩ rfl hl.1 rfl (Nat.le_of_ble_eq_true rfl) ⟨Nat.zero_le _, Nat.zero_le _⟩ dX7_beginAgain_17) (fun r5 pr5 => ?_)
  refine lv_iadd hx hb dX7_beginAgain_20 ?_
  refine lv_topi (fun z6 ez6 => ?_)
  refine tc_puti E hG t0 fp_X7_40 (t_any1 _) (t_any2 _) dX7_beginAgain_21 (fun H locs hG => ?_)
  exact tc_vret E hr hlk hG dX7_beginAgain_24

set_option maxHeartbeats 4000000 in
set_option maxRecDepth 100000 in
theorem c_X7_agreesAnew (l : Launch) (G : tG) (τ : Nat → Nat) (h0 : Nat) (t0 : τ h0 = 6) : Met l yX7_agreesAnew (.code yX7_agreesAnew cX7_agreesAnew 1 (some .int) :: tWS) (tRm 1092 15076) (va_Pc [.ref h0] (tPre G τ)) (tQi G τ (fun r => True)) 0 0 (tA τ) := by
  refine tc_met (by decide) (Nat.le_of_ble_eq_true rfl) ?_
  intro p e s m below meth c E hSt hr hlk hG ls hl
  have hl : lv_has ls 1 [(0, .ref h0)] := hl
  have hx := E.1
  have hb := E.2.1
  obtain ⟨H, eH⟩ : ∃ H, H = s.heap := ⟨_, rfl⟩
  obtain ⟨locs, eL⟩ : ∃ x : List Loc, x = [] := ⟨_, rfl⟩
  have hG : tGH G τ s H locs := by rw [eH, eL]; exact hG
  suffices hW : W p l e (tRm 1092 15076) s m ([.ref h0] : List Value).toArray below meth c H locs 0 0 (MQ below (tQi G τ (fun r => True)) ([.ref h0] : List Value).toArray s 0 0 (tA τ)) (F0 m 0 ls []) by subst eH; subst eL; exact hW
  clear eH eL
  refine lv_aload_n hx hb dX7_agreesAnew_0 rfl (lv_at hl 0 rfl) ?_
  refine lv_aload_n hx hb dX7_agreesAnew_1 rfl (lv_at hl 0 rfl) ?_
  refine tc_getr E hG t0 fr_X7_12 dX7_agreesAnew_2 (fun oa1 hoa1 => ?_)
  refine tc_callv hG (tc_runV (As := [.ref oa1]) (rest := []) E hSt hG (c_X7_beginAgain l G τ h0 oa1 t0 hoa1) t0 rv_6 kv_X7_beginAgain ml_X7_58 ⟨rfl, rfl, Nat.le_of_ble_eq_true rfl, Nat.le_of_ble_eq_true rfl⟩ rfl hl.1 rfl (Nat.le_of_ble_eq_true rfl) ⟨Nat.zero_le _, Nat.zero_le _⟩ dX7_agreesAnew_5) (fun H locs hG => ?_)
  refine lv_aload_n hx hb dX7_agreesAnew_8 rfl (lv_at hl 0 rfl) ?_
  refine tc_getr E hG t0 fr_X7_26 dX7_agreesAnew_9 (fun oa3 hoa3 => ?_)
  refine tc_callv hG (tc_runV (As := []) (rest := []) E hSt hG (c_X3_layOut_c l G τ oa3 hoa3) hoa3 rv_27 kv_X3_layOut ml_X7_61 ⟨rfl, rfl, Nat.le_of_ble_eq_true rfl, Nat.le_of_ble_eq_true rfl⟩ rfl hl.1 rfl (Nat.le_of_ble_eq_true rfl) ⟨Nat.zero_le _, Nat.zero_le _⟩ dX7_agreesAnew_12) (fun H locs hG => ?_)
  refine lv_aload_n hx hb dX7_agreesAnew_15 rfl (lv_at hl 0 rfl) ?_
  refine lv_aload_n hx hb dX7_agreesAnew_16 rfl (lv_at hl 0 rfl) ?_
  refine tc_getr E hG t0 fr_X7_18 dX7_agreesAnew_17 (fun oa5 hoa5 => ?_)
  refine tc_callv hG (tc_runV (As := [.ref oa5]) (rest := []) E hSt hG (c_X7_beginAgain l G τ h0 oa5 t0 hoa5) t0 rv_6 kv_X7_beginAgain ml_X7_58 ⟨rfl, rfl, Nat.le_of_ble_eq_true rfl, Nat.le_of_ble_eq_true rfl⟩ rfl hl.1 rfl (Nat.le_of_ble_eq_true rfl) ⟨Nat.zero_le _, Nat.zero_le _⟩ dX7_agreesAnew_20) (fun H locs hG => ?_)
  refine lv_aload_n hx hb dX7_agreesAnew_23 rfl (lv_at hl 0 rfl) ?_
  refine tc_getr E hG t0 fr_X7_18 dX7_agreesAnew_24 (fun oa7 hoa7 => ?_)
  refine tc_callv hG (tc_runV (As := []) (rest := []) E hSt hG (c_X8_markAllAnew l G τ oa7 hoa7) hoa7 rv_26 kv_X8_markAllAnew ml_X7_64 ⟨rfl, rfl, Nat.le_of_ble_eq_true rfl, Nat.le_of_ble_eq_true rfl⟩ rfl hl.1 rfl (Nat.le_of_ble_eq_true rfl) ⟨Nat.zero_le _, Nat.zero_le _⟩ dX7_agreesAnew_27) (fun H locs hG => ?_)
  refine lv_aload_n hx hb dX7_agreesAnew_30 rfl (lv_at hl 0 rfl) ?_
  refine tc_getr E hG t0 fr_X7_30 dX7_agreesAnew_31 (fun oa9 hoa9 => ?_)
  refine tc_callv hG (tc_runV (As := []) (rest := []) E hSt hG (c_X3_layOut_c l G τ oa9 hoa9) hoa9 rv_27 kv_X3_layOut ml_X7_61 ⟨rfl, rfl, Nat.le_of_ble_eq_true rfl, Nat.le_of_ble_eq_true rfl⟩ rfl hl.1 rfl (Nat.le_of_ble_eq_true rfl) ⟨Nat.zero_le _, Nat.zero_le _⟩ dX7_agreesAnew_34) (fun H locs hG => ?_)
  refine lv_aload_n hx hb dX7_agreesAnew_37 rfl (lv_at hl 0 rfl) ?_
  refine tc_getr E hG t0 fr_X7_12 dX7_agreesAnew_38 (fun oa11 hoa11 => ?_)
  refine lv_aload_n hx hb dX7_agreesAnew_41 rfl (lv_at hl 0 rfl) ?_
  refine tc_getr E hG t0 fr_X7_18 dX7_agreesAnew_42 (fun oa12 hoa12 => ?_)
  refine tc_callp (tc_runV (As := [.ref oa12]) (rest := []) E hSt hG (c_X8_isLaidLike l G τ oa11 oa12 hoa11 hoa12) hoa11 rv_26 kv_X8_isLaidLike ml_X7_67 ⟨rfl, rfl, Nat.le_of_ble_eq_true rfl, Nat.le_of_ble_eq_true rfl⟩ rfl hl.1 rfl (Nat.le_of_ble_eq_true rfl) ⟨Nat.zero_le _, Nat.zero_le _⟩ dX7_agreesAnew_45) (fun r13 pr13 => ?_)
  have pr13 : 0 ≤ r13.toInt ∧ r13.toInt ≤ 1 := pr13
  refine lv_if_eq (tgt := 55) hx hb dX7_agreesAnew_48 (by decide) (fun c14 => ?_) (fun c14 => ?_)
  · skip
    have ic14 := tn_eq rfl kI_0 c14
    refine lv_iconst (v := 0) hx hb dX7_agreesAnew_55 (by decide) ?_
    exact tc_iret E hr hlk hG trivial dX7_agreesAnew_56
  · skip
    have ic14 := tn_ne rfl kI_0 c14
    refine lv_iconst (v := 1) hx hb dX7_agreesAnew_51 (by decide) ?_
    refine lv_goto (tgt := 56) hx hb dX7_agreesAnew_52 (by decide) ?_
    exact tc_iret E hr hlk hG trivial dX7_agreesAnew_56

set_option maxHeartbeats 4000000 in
set_option maxRecDepth 100000 in
theorem c_X7_tryScreen (l : Launch) (G : tG) (τ : Nat → Nat) (h0 : Nat) (x1 : Int32) (x2 : Int32) (t0 : τ h0 = 6) : Met l yX7_tryScreen (.code yX7_tryScreen cX7_tryScreen 3 none :: tWS) (tRm 1092 15076) (va_Pc [.ref h0, .int x1, .int x2] (tPre G τ)) (tQv G τ) 0 0 (tA τ) := by
  refine tc_met (by decide) (Nat.le_of_ble_eq_true rfl) ?_
  intro p e s m below meth c E hSt hr hlk hG ls hl
  have hl : lv_has ls 3 [(0, .ref h0), (1, .int x1), (2, .int x2)] := hl
  have hx := E.1
  have hb := E.2.1
  obtain ⟨H, eH⟩ : ∃ H, H = s.heap := ⟨_, rfl⟩
  obtain ⟨locs, eL⟩ : ∃ x : List Loc, x = [] := ⟨_, rfl⟩
  have hG : tGH G τ s H locs := by rw [eH, eL]; exact hG
  suffices hW : W p l e (tRm 1092 15076) s m ([.ref h0, .int x1, .int x2] : List Value).toArray below meth c H locs 0 0 (MQ below (tQv G τ) ([.ref h0, .int x1, .int x2] : List Value).toArray s 0 0 (tA τ)) (F0 m 0 ls []) by subst eH; subst eL; exact hW
  clear eH eL
  refine lv_aload_n hx hb dX7_tryScreen_0 rfl (lv_at hl 0 rfl) ?_
  refine lv_aload_n hx hb dX7_tryScreen_1 rfl (lv_at hl 0 rfl) ?_
  refine tc_getr E hG t0 fr_X7_12 dX7_tryScreen_2 (fun oa1 hoa1 => ?_)
  refine tc_callv hG (tc_runV (As := [.ref oa1]) (rest := []) E hSt hG (c_X7_beginAgain l G τ h0 oa1 t0 hoa1) t0 rv_6 kv_X7_beginAgain ml_X7_58 ⟨rfl, rfl, Nat.le_of_ble_eq_true rfl, Nat.le_of_ble_eq_true rfl⟩ rfl hl.1 rfl (Nat.le_of_ble_eq_true rfl) ⟨Nat.zero_le _, Nat.zero_le _⟩ dX7_tryScreen_5) (fun H locs hG => ?_)
  refine lv_aload_n hx hb dX7_tryScreen_8 rfl (lv_at hl 0 rfl) ?_
  refine tc_getr E hG t0 fr_X7_12 dX7_tryScreen_9 (fun oa3 hoa3 => ?_)
  refine lv_iload_n hx hb dX7_tryScreen_12 rfl (lv_at hl 1 rfl) ?_
  refine lv_iload_n hx hb dX7_tryScreen_13 rfl (lv_at hl 2 rfl) ?_
  refine tc_callv hG (tc_runV (As := [.int x1, .int x2]) (rest := []) E hSt hG (c_X8_tellScreen_c l G τ oa3 x1 x2 hoa3) hoa3 rv_26 kv_X8_tellScreen ml_X7_71 ⟨rfl, rfl, Nat.le_of_ble_eq_true rfl, Nat.le_of_ble_eq_true rfl⟩ rfl hl.1 rfl (Nat.le_of_ble_eq_true rfl) ⟨Nat.zero_le _, Nat.zero_le _⟩ dX7_tryScreen_14) (fun H locs hG => ?_)
  refine lv_aload_n hx hb dX7_tryScreen_17 rfl (lv_at hl 0 rfl) ?_
  refine tc_getr E hG t0 fr_X7_26 dX7_tryScreen_18 (fun oa5 hoa5 => ?_)
  refine tc_callv hG (tc_runV (As := []) (rest := []) E hSt hG (c_X3_layOut_c l G τ oa5 hoa5) hoa5 rv_27 kv_X3_layOut ml_X7_61 ⟨rfl, rfl, Nat.le_of_ble_eq_true rfl, Nat.le_of_ble_eq_true rfl⟩ rfl hl.1 rfl (Nat.le_of_ble_eq_true rfl) ⟨Nat.zero_le _, Nat.zero_le _⟩ dX7_tryScreen_21) (fun H locs hG => ?_)
  exact tc_vret E hr hlk hG dX7_tryScreen_24

set_option maxHeartbeats 4000000 in
set_option maxRecDepth 100000 in
theorem c_X7_narrowestScreen (l : Launch) (G : tG) (τ : Nat → Nat) (h0 : Nat) (t0 : τ h0 = 6) : Met l yX7_narrowestScreen (.code yX7_narrowestScreen cX7_narrowestScreen 2 (some .int) :: tWS) (tRm 1093 15098) (va_Pc [.ref h0] (tPre G τ)) (tQi G τ (fun r => True)) 0 0 (tA τ) := by
  refine tc_met (by decide) (Nat.le_of_ble_eq_true rfl) ?_
  intro p e s m below meth c E hSt hr hlk hG ls hl
  have hl : lv_has ls 2 [(0, .ref h0)] := hl
  have hx := E.1
  have hb := E.2.1
  obtain ⟨H, eH⟩ : ∃ H, H = s.heap := ⟨_, rfl⟩
  obtain ⟨locs, eL⟩ : ∃ x : List Loc, x = [] := ⟨_, rfl⟩
  have hG : tGH G τ s H locs := by rw [eH, eL]; exact hG
  suffices hW : W p l e (tRm 1093 15098) s m ([.ref h0] : List Value).toArray below meth c H locs 0 0 (MQ below (tQi G τ (fun r => True)) ([.ref h0] : List Value).toArray s 0 0 (tA τ)) (F0 m 0 ls []) by subst eH; subst eL; exact hW
  clear eH eL
  have J22 : ∀ (n22 : Nat) (H : Heap) (locs : List Loc) (ls : Array Slot) (v1 : Int32), tGH G τ s H locs → lv_has ls 2 [(0, .ref h0), (1, .int v1)] → 0 ≤ v1.toInt → v1.toInt ≤ 201 → (201 - v1.toInt).toNat < n22 → W p l e (tRm 1093 15098) s m ([.ref h0] : List Value).toArray below meth c H locs 0 0 (MQ below (tQi G τ (fun r => True)) ([.ref h0] : List Value).toArray s 0 0 (tA τ)) (F0 m 22 ls []) := by
    intro n22
    induction n22 with
    | zero => intro H locs ls v1 hG hl b1 c1 hn22; exact absurd hn22 (Nat.not_lt_zero _)
    | succ n22 ih22 =>
      intro H locs ls v1 hG hl b1 c1 hn22
      refine lv_iload_n hx hb dX7_narrowestScreen_22 rfl (lv_at hl 1 rfl) ?_
      refine lv_sipush (v := 200) hx hb dX7_narrowestScreen_23 (by decide) ?_
      refine lv_icmp_gt (tgt := 59) hx hb dX7_narrowestScreen_26 (by decide) (fun c1 => ?_) (fun c1 => ?_)
      · skip
        have ic1 := tn_lt kI_200 rfl c1
        refine lv_bipush (v := -5) hx hb dX7_narrowestScreen_59 (by decide) ?_
        exact tc_iret E hr hlk hG trivial dX7_narrowestScreen_61
      · skip
        have ic1 := tn_nlt kI_200 rfl c1
        refine lv_aload_n hx hb dX7_narrowestScreen_29 rfl (lv_at hl 0 rfl) ?_
        refine lv_iload_n hx hb dX7_narrowestScreen_30 rfl (lv_at hl 1 rfl) ?_
        refine lv_aload_n hx hb dX7_narrowestScreen_31 rfl (lv_at hl 0 rfl) ?_
        refine tc_getr E hG t0 fr_X7_37 dX7_narrowestScreen_32 (fun oa2 hoa2 => ?_)
        refine tc_geti E hG hoa2 fi_X7_82 dX7_narrowestScreen_35 (fun z3 _ _ => ?_)
        refine tc_callv hG (tc_runV (As := [.int v1, .int z3]) (rest := []) E hSt hG (c_X7_tryScreen l G τ h0 v1 z3 t0) t0 rv_6 kv_X7_tryScreen ml_X7_85 ⟨rfl, rfl, Nat.le_of_ble_eq_true rfl, Nat.le_of_ble_eq_true rfl⟩ rfl hl.1 rfl (Nat.le_of_ble_eq_true rfl) ⟨Nat.zero_le _, Nat.zero_le _⟩ dX7_narrowestScreen_38) (fun H locs hG => ?_)
        refine lv_aload_n hx hb dX7_narrowestScreen_41 rfl (lv_at hl 0 rfl) ?_
        refine tc_getr E hG t0 fr_X7_12 dX7_narrowestScreen_42 (fun oa5 hoa5 => ?_)
        refine tc_callp (tc_runV (As := []) (rest := []) E hSt hG (c_X8_overBits_c l G τ oa5 hoa5) hoa5 rv_26 kv_X8_overBits ml_X7_88 ⟨rfl, rfl, Nat.le_of_ble_eq_true rfl, Nat.le_of_ble_eq_true rfl⟩ rfl hl.1 rfl (Nat.le_of_ble_eq_true rfl) ⟨Nat.zero_le _, Nat.zero_le _⟩ dX7_narrowestScreen_45) (fun r6 pr6 => ?_)
        refine lv_if_ne (tgt := 53) hx hb dX7_narrowestScreen_48 (by decide) (fun c7 => ?_) (fun c7 => ?_)
        · skip
          have ic7 := tn_ne rfl kI_0 c7
          obtain ⟨z8, ez8⟩ : ∃ y : Int32, y = v1 + (1) := ⟨_, rfl⟩
          refine lv_iinc (v := z8) (lv' := [(1, .int z8), (0, .ref h0)]) hx hb dX7_narrowestScreen_53 hl (k := 1) rfl (by rw [ez8]; rfl) (by decide) rfl (fun ls hl => ?_)
          have tz8 := tn_add ez8 rfl kI_1 (by omega) (by omega)
          refine lv_goto (tgt := 22) hx hb dX7_narrowestScreen_56 (by decide) ?_
          exact ih22 H locs ls z8 hG (lv_sub hl [1, 0] rfl) (by omega) (by omega) (by omega)
        · skip
          have ic7 := tn_eq rfl kI_0 c7
          refine lv_iload_n hx hb dX7_narrowestScreen_51 rfl (lv_at hl 1 rfl) ?_
          exact tc_iret E hr hlk hG trivial dX7_narrowestScreen_52
  refine lv_aload_n hx hb dX7_narrowestScreen_0 rfl (lv_at hl 0 rfl) ?_
  refine tc_getr E hG t0 fr_X7_37 dX7_narrowestScreen_1 (fun oa9 hoa9 => ?_)
  refine lv_aload_n hx hb dX7_narrowestScreen_4 rfl (lv_at hl 0 rfl) ?_
  refine tc_getr E hG t0 fr_X7_37 dX7_narrowestScreen_5 (fun oa10 hoa10 => ?_)
  refine tc_geti E hG hoa10 fi_X7_75 dX7_narrowestScreen_8 (fun z11 _ _ => ?_)
  refine tc_callp (tc_runV (As := [.int z11]) (rest := []) E hSt hG (c_X8_has l G τ oa9 z11 hoa9) hoa9 rv_2 kv_X8_has ml_X7_78 ⟨rfl, rfl, Nat.le_of_ble_eq_true rfl, Nat.le_of_ble_eq_true rfl⟩ rfl hl.1 rfl (Nat.le_of_ble_eq_true rfl) ⟨Nat.zero_le _, Nat.zero_le _⟩ dX7_narrowestScreen_11) (fun r12 pr12 => ?_)
  have pr12 : (0 ≤ r12.toInt ∧ r12.toInt ≤ 1) ∧ (r12.toInt = 0 ∨ (0 ≤ z11.toInt ∧ z11.toInt ≤ 23)) := pr12
  refine lv_if_ne (tgt := 20) hx hb dX7_narrowestScreen_14 (by decide) (fun c13 => ?_) (fun c13 => ?_)
  · skip
    have ic13 := tn_ne rfl kI_0 c13
    refine lv_iconst (v := 0) hx hb dX7_narrowestScreen_20 (by decide) ?_
    refine lv_istore_n (lv' := [(1, .int 0), (0, .ref h0)]) hx hb dX7_narrowestScreen_21 rfl hl (by decide) rfl (fun ls hl => ?_)
    exact J22 ((201 - (0 : Int32).toInt).toNat + 1) H locs ls (0 : Int32) hG (lv_sub hl [1, 0] rfl) (by decide) (by decide) (Nat.lt_succ_self _)
  · skip
    have ic13 := tn_eq rfl kI_0 c13
    refine lv_bipush (v := -5) hx hb dX7_narrowestScreen_17 (by decide) ?_
    exact tc_iret E hr hlk hG trivial dX7_narrowestScreen_19

set_option maxHeartbeats 4000000 in
set_option maxRecDepth 100000 in
theorem c_X7_reachedFrom (l : Launch) (G : tG) (τ : Nat → Nat) (h0 : Nat) (x1 : Int32) (x2 : Int32) (t0 : τ h0 = 6) : Met l yX7_reachedFrom (.code yX7_reachedFrom cX7_reachedFrom 3 (some .int) :: tWS) (tRm 1092 15076) (va_Pc [.ref h0, .int x1, .int x2] (tPre G τ)) (tQi G τ (fun r => True)) 0 0 (tA τ) := by
  refine tc_met (by decide) (Nat.le_of_ble_eq_true rfl) ?_
  intro p e s m below meth c E hSt hr hlk hG ls hl
  have hl : lv_has ls 3 [(0, .ref h0), (1, .int x1), (2, .int x2)] := hl
  have hx := E.1
  have hb := E.2.1
  obtain ⟨H, eH⟩ : ∃ H, H = s.heap := ⟨_, rfl⟩
  obtain ⟨locs, eL⟩ : ∃ x : List Loc, x = [] := ⟨_, rfl⟩
  have hG : tGH G τ s H locs := by rw [eH, eL]; exact hG
  suffices hW : W p l e (tRm 1092 15076) s m ([.ref h0, .int x1, .int x2] : List Value).toArray below meth c H locs 0 0 (MQ below (tQi G τ (fun r => True)) ([.ref h0, .int x1, .int x2] : List Value).toArray s 0 0 (tA τ)) (F0 m 0 ls []) by subst eH; subst eL; exact hW
  clear eH eL
  refine lv_aload_n hx hb dX7_reachedFrom_0 rfl (lv_at hl 0 rfl) ?_
  refine lv_aload_n hx hb dX7_reachedFrom_1 rfl (lv_at hl 0 rfl) ?_
  refine tc_getr E hG t0 fr_X7_12 dX7_reachedFrom_2 (fun oa1 hoa1 => ?_)
  refine tc_callv hG (tc_runV (As := [.ref oa1]) (rest := []) E hSt hG (c_X7_beginAgain l G τ h0 oa1 t0 hoa1) t0 rv_6 kv_X7_beginAgain ml_X7_58 ⟨rfl, rfl, Nat.le_of_ble_eq_true rfl, Nat.le_of_ble_eq_true rfl⟩ rfl hl.1 rfl (Nat.le_of_ble_eq_true rfl) ⟨Nat.zero_le _, Nat.zero_le _⟩ dX7_reachedFrom_5) (fun H locs hG => ?_)
  refine lv_aload_n hx hb dX7_reachedFrom_8 rfl (lv_at hl 0 rfl) ?_
  refine tc_getr E hG t0 fr_X7_26 dX7_reachedFrom_9 (fun oa3 hoa3 => ?_)
  refine tc_callv hG (tc_runV (As := []) (rest := []) E hSt hG (c_X3_layOut_c l G τ oa3 hoa3) hoa3 rv_27 kv_X3_layOut ml_X7_61 ⟨rfl, rfl, Nat.le_of_ble_eq_true rfl, Nat.le_of_ble_eq_true rfl⟩ rfl hl.1 rfl (Nat.le_of_ble_eq_true rfl) ⟨Nat.zero_le _, Nat.zero_le _⟩ dX7_reachedFrom_12) (fun H locs hG => ?_)
  refine lv_aload_n hx hb dX7_reachedFrom_15 rfl (lv_at hl 0 rfl) ?_
  refine tc_getr E hG t0 fr_X7_12 dX7_reachedFrom_16 (fun oa5 hoa5 => ?_)
  refine lv_iload_n hx hb dX7_reachedFrom_19 rfl (lv_at hl 1 rfl) ?_
  refine tc_callv hG (tc_runV (As := [.int x1]) (rest := []) E hSt hG (c_X8_mark_c l G τ oa5 x1 hoa5) hoa5 rv_26 kv_X8_mark ml_X7_106 ⟨rfl, rfl, Nat.le_of_ble_eq_true rfl, Nat.le_of_ble_eq_true rfl⟩ rfl hl.1 rfl (Nat.le_of_ble_eq_true rfl) ⟨Nat.zero_le _, Nat.zero_le _⟩ dX7_reachedFrom_20) (fun H locs hG => ?_)
  refine lv_aload_n hx hb dX7_reachedFrom_23 rfl (lv_at hl 0 rfl) ?_
  refine tc_getr E hG t0 fr_X7_26 dX7_reachedFrom_24 (fun oa7 hoa7 => ?_)
  refine tc_callv hG (tc_runV (As := []) (rest := []) E hSt hG (c_X3_layOut_c l G τ oa7 hoa7) hoa7 rv_27 kv_X3_layOut ml_X7_61 ⟨rfl, rfl, Nat.le_of_ble_eq_true rfl, Nat.le_of_ble_eq_true rfl⟩ rfl hl.1 rfl (Nat.le_of_ble_eq_true rfl) ⟨Nat.zero_le _, Nat.zero_le _⟩ dX7_reachedFrom_27) (fun H locs hG => ?_)
  refine lv_iload_n hx hb dX7_reachedFrom_30 rfl (lv_at hl 2 rfl) ?_
  refine lv_if_ne (tgt := 44) hx hb dX7_reachedFrom_31 (by decide) (fun c9 => ?_) (fun c9 => ?_)
  · skip
    have ic9 := tn_ne rfl kI_0 c9
    refine lv_aload_n hx hb dX7_reachedFrom_44 rfl (lv_at hl 0 rfl) ?_
    refine tc_getr E hG t0 fr_X7_26 dX7_reachedFrom_45 (fun oa10 hoa10 => ?_)
    refine tc_geti E hG hoa10 fic_X7_113 dX7_reachedFrom_48 (fun z11 _ _ => ?_)
    exact tc_iret E hr hlk hG trivial dX7_reachedFrom_51
  · skip
    have ic9 := tn_eq rfl kI_0 c9
    refine lv_aload_n hx hb dX7_reachedFrom_34 rfl (lv_at hl 0 rfl) ?_
    refine tc_getr E hG t0 fr_X7_26 dX7_reachedFrom_35 (fun oa12 hoa12 => ?_)
    refine tc_geti E hG hoa12 fic_X7_110 dX7_reachedFrom_38 (fun z13 _ _ => ?_)
    refine lv_goto (tgt := 51) hx hb dX7_reachedFrom_41 (by decide) ?_
    exact tc_iret E hr hlk hG trivial dX7_reachedFrom_51

set_option maxHeartbeats 4000000 in
set_option maxRecDepth 100000 in
theorem c_X7_tryTold (l : Launch) (G : tG) (τ : Nat → Nat) (h0 : Nat) (x1 : Int32) (x2 : Int32) (x3 : Int32) (t0 : τ h0 = 6) (l1 : 0 ≤ x1.toInt) (u1 : x1.toInt ≤ 23) (l2 : 0 ≤ x2.toInt) (u2 : x2.toInt ≤ 6) : Met l yX7_tryTold (.code yX7_tryTold cX7_tryTold 4 none :: tWS) (tRm 1092 15076) (va_Pc [.ref h0, .int x1, .int x2, .int x3] (tPre G τ)) (tQv G τ) 0 0 (tA τ) := by
  refine tc_met (by decide) (Nat.le_of_ble_eq_true rfl) ?_
  intro p e s m below meth c E hSt hr hlk hG ls hl
  have hl : lv_has ls 4 [(0, .ref h0), (1, .int x1), (2, .int x2), (3, .int x3)] := hl
  have hx := E.1
  have hb := E.2.1
  obtain ⟨H, eH⟩ : ∃ H, H = s.heap := ⟨_, rfl⟩
  obtain ⟨locs, eL⟩ : ∃ x : List Loc, x = [] := ⟨_, rfl⟩
  have hG : tGH G τ s H locs := by rw [eH, eL]; exact hG
  suffices hW : W p l e (tRm 1092 15076) s m ([.ref h0, .int x1, .int x2, .int x3] : List Value).toArray below meth c H locs 0 0 (MQ below (tQv G τ) ([.ref h0, .int x1, .int x2, .int x3] : List Value).toArray s 0 0 (tA τ)) (F0 m 0 ls []) by subst eH; subst eL; exact hW
  clear eH eL
  refine lv_aload_n hx hb dX7_tryTold_0 rfl (lv_at hl 0 rfl) ?_
  refine lv_aload_n hx hb dX7_tryTold_1 rfl (lv_at hl 0 rfl) ?_
  refine tc_getr E hG t0 fr_X7_12 dX7_tryTold_2 (fun oa1 hoa1 => ?_)
  refine tc_callv hG (tc_runV (As := [.ref oa1]) (rest := []) E hSt hG (c_X7_beginAgain l G τ h0 oa1 t0 hoa1) t0 rv_6 kv_X7_beginAgain ml_X7_58 ⟨rfl, rfl, Nat.le_of_ble_eq_true rfl, Nat.le_of_ble_eq_true rfl⟩ rfl hl.1 rfl (Nat.le_of_ble_eq_true rfl) ⟨Nat.zero_le _, Nat.zero_le _⟩ dX7_tryTold_5) (fun H locs hG => ?_)
  refine lv_aload_n hx hb dX7_tryTold_8 rfl (lv_at hl 0 rfl) ?_
  refine tc_getr E hG t0 fr_X7_12 dX7_tryTold_9 (fun oa3 hoa3 => ?_)
  refine lv_iload_n hx hb dX7_tryTold_12 rfl (lv_at hl 1 rfl) ?_
  refine lv_iload_n hx hb dX7_tryTold_13 rfl (lv_at hl 2 rfl) ?_
  refine lv_iload_n hx hb dX7_tryTold_14 rfl (lv_at hl 3 rfl) ?_
  refine tc_calli hG (tc_runV (As := [.int x1, .int x2, .int x3]) (rest := []) E hSt hG (c_X8_tell_c l G τ oa3 x1 x2 x3 hoa3 (by omega) (by omega) (by omega) (by omega)) hoa3 rv_26 kv_X8_tell ml_X7_123 ⟨rfl, rfl, Nat.le_of_ble_eq_true rfl, Nat.le_of_ble_eq_true rfl⟩ rfl hl.1 rfl (Nat.le_of_ble_eq_true rfl) ⟨Nat.zero_le _, Nat.zero_le _⟩ dX7_tryTold_15) (fun r4 H locs pr4 hG => ?_)
  refine lv_pop hx hb dX7_tryTold_18 rfl ?_
  refine lv_aload_n hx hb dX7_tryTold_19 rfl (lv_at hl 0 rfl) ?_
  refine tc_getr E hG t0 fr_X7_26 dX7_tryTold_20 (fun oa5 hoa5 => ?_)
  refine tc_callv hG (tc_runV (As := []) (rest := []) E hSt hG (c_X3_layOut_c l G τ oa5 hoa5) hoa5 rv_27 kv_X3_layOut ml_X7_61 ⟨rfl, rfl, Nat.le_of_ble_eq_true rfl, Nat.le_of_ble_eq_true rfl⟩ rfl hl.1 rfl (Nat.le_of_ble_eq_true rfl) ⟨Nat.zero_le _, Nat.zero_le _⟩ dX7_tryTold_23) (fun H locs hG => ?_)
  exact tc_vret E hr hlk hG dX7_tryTold_26

set_option maxHeartbeats 4000000 in
set_option maxRecDepth 100000 in
theorem c_X7_widestShare (l : Launch) (G : tG) (τ : Nat → Nat) (h0 : Nat) (x1 : Int32) (x2 : Int32) (t0 : τ h0 = 6) (l1 : 0 ≤ x1.toInt) (u1 : x1.toInt ≤ 23) : Met l yX7_widestShare (.code yX7_widestShare cX7_widestShare 6 (some .int) :: tWS) (tRm 1093 15099) (va_Pc [.ref h0, .int x1, .int x2] (tPre G τ)) (tQi G τ (fun r => True)) 0 0 (tA τ) := by
  refine tc_met (by decide) (Nat.le_of_ble_eq_true rfl) ?_
  intro p e s m below meth c E hSt hr hlk hG ls hl
  have hl : lv_has ls 6 [(0, .ref h0), (1, .int x1), (2, .int x2)] := hl
  have hx := E.1
  have hb := E.2.1
  obtain ⟨H, eH⟩ : ∃ H, H = s.heap := ⟨_, rfl⟩
  obtain ⟨locs, eL⟩ : ∃ x : List Loc, x = [] := ⟨_, rfl⟩
  have hG : tGH G τ s H locs := by rw [eH, eL]; exact hG
  suffices hW : W p l e (tRm 1093 15099) s m ([.ref h0, .int x1, .int x2] : List Value).toArray below meth c H locs 0 0 (MQ below (tQi G τ (fun r => True)) ([.ref h0, .int x1, .int x2] : List Value).toArray s 0 0 (tA τ)) (F0 m 0 ls []) by subst eH; subst eL; exact hW
  clear eH eL
  have J8 : ∀ (n8 : Nat) (H : Heap) (locs : List Loc) (ls : Array Slot) (v3 : Int32) (v4 : Int32) (v5 : Int32), tGH G τ s H locs → lv_has ls 6 [(0, .ref h0), (1, .int x1), (2, .int x2), (3, .int v3), (4, .int v4), (5, .int v5)] → 0 ≤ v3.toInt → 0 ≤ v5.toInt → v5.toInt ≤ 10 → (10 - v5.toInt).toNat < n8 → W p l e (tRm 1093 15099) s m ([.ref h0, .int x1, .int x2] : List Value).toArray below meth c H locs 0 0 (MQ below (tQi G τ (fun r => True)) ([.ref h0, .int x1, .int x2] : List Value).toArray s 0 0 (tA τ)) (F0 m 8 ls []) := by
    intro n8
    induction n8 with
    | zero => intro H locs ls v3 v4 v5 hG hl b3 b5 c5 hn8; exact absurd hn8 (Nat.not_lt_zero _)
    | succ n8 ih8 =>
      intro H locs ls v3 v4 v5 hG hl b3 b5 c5 hn8
      have J63 : ∀ (H : Heap) (locs : List Loc) (ls : Array Slot) (v3 : Int32) (v4 : Int32) (v5 : Int32), tGH G τ s H locs → lv_has ls 6 [(0, .ref h0), (1, .int x1), (2, .int x2), (3, .int v3), (4, .int v4), (5, .int v5)] → 0 ≤ v3.toInt → 0 ≤ v5.toInt → v5.toInt ≤ 9 → (10 - v5.toInt).toNat < n8 + 1 → W p l e (tRm 1093 15099) s m ([.ref h0, .int x1, .int x2] : List Value).toArray below meth c H locs 0 0 (MQ below (tQi G τ (fun r => True)) ([.ref h0, .int x1, .int x2] : List Value).toArray s 0 0 (tA τ)) (F0 m 63 ls []) := by
        intro H locs ls v3 v4 v5 hG hl b3 b5 c5 hm8
        obtain ⟨z1, ez1⟩ : ∃ y : Int32, y = v5 + (1) := ⟨_, rfl⟩
        refine lv_iinc (v := z1) (lv' := [(5, .int z1), (0, .ref h0), (1, .int x1), (2, .int x2), (3, .int v3), (4, .int v4)]) hx hb dX7_widestShare_63 hl (k := 5) rfl (by rw [ez1]; rfl) (by decide) rfl (fun ls hl => ?_)
        have tz1 := tn_add ez1 rfl kI_1 (by omega) (by omega)
        refine lv_goto (tgt := 8) hx hb dX7_widestShare_66 (by decide) ?_
        exact ih8 H locs ls v3 v4 z1 hG (lv_sub hl [1, 2, 3, 4, 5, 0] rfl) (by omega) (by omega) (by omega) (by omega)
      refine lv_iload hx hb dX7_widestShare_8 (lv_at hl 5 rfl) ?_
      refine lv_bipush (v := 9) hx hb dX7_widestShare_10 (by decide) ?_
      refine lv_icmp_gt (tgt := 69) hx hb dX7_widestShare_12 (by decide) (fun c2 => ?_) (fun c2 => ?_)
      · skip
        have ic2 := tn_lt kI_9 rfl c2
        refine lv_iload_n hx hb dX7_widestShare_69 rfl (lv_at hl 2 rfl) ?_
        refine lv_if_ne (tgt := 77) hx hb dX7_widestShare_70 (by decide) (fun c3 => ?_) (fun c3 => ?_)
        · skip
          have ic3 := tn_ne rfl kI_0 c3
          refine lv_iload hx hb dX7_widestShare_77 (lv_at hl 4 rfl) ?_
          exact tc_iret E hr hlk hG trivial dX7_widestShare_79
        · skip
          have ic3 := tn_eq rfl kI_0 c3
          refine lv_iload_n hx hb dX7_widestShare_73 rfl (lv_at hl 3 rfl) ?_
          refine lv_goto (tgt := 79) hx hb dX7_widestShare_74 (by decide) ?_
          exact tc_iret E hr hlk hG trivial dX7_widestShare_79
      · skip
        have ic2 := tn_nlt kI_9 rfl c2
        refine lv_aload_n hx hb dX7_widestShare_15 rfl (lv_at hl 0 rfl) ?_
        refine lv_iload_n hx hb dX7_widestShare_16 rfl (lv_at hl 1 rfl) ?_
        refine lv_iconst (v := 4) hx hb dX7_widestShare_17 (by decide) ?_
        refine lv_iload hx hb dX7_widestShare_18 (lv_at hl 5 rfl) ?_
        refine tc_callv hG (tc_runV (As := [.int x1, .int 4, .int v5]) (rest := []) E hSt hG (c_X7_tryTold l G τ h0 x1 (4 : Int32) v5 t0 (by omega) (by omega) (by decide) (by decide)) t0 rv_6 kv_X7_tryTold ml_X7_116 ⟨rfl, rfl, Nat.le_of_ble_eq_true rfl, Nat.le_of_ble_eq_true rfl⟩ rfl hl.1 rfl (Nat.le_of_ble_eq_true rfl) ⟨Nat.zero_le _, Nat.zero_le _⟩ dX7_widestShare_20) (fun H locs hG => ?_)
        refine lv_aload_n hx hb dX7_widestShare_23 rfl (lv_at hl 0 rfl) ?_
        refine tc_getr E hG t0 fr_X7_12 dX7_widestShare_24 (fun oa5 hoa5 => ?_)
        refine tc_getr E hG hoa5 frc_X7_91 dX7_widestShare_27 (fun oa6 hoa6 => ?_)
        refine lv_iload_n hx hb dX7_widestShare_30 rfl (lv_at hl 1 rfl) ?_
        refine tc_aald3 E hG hoa6 ta_34 (t_in (by omega) (by omega)) dX7_widestShare_31 (fun oa7 hoa7 => ?_)
        refine tc_getr E hG hoa7 frk_X7_95 dX7_widestShare_32 (fun oa8 hoa8 => ?_)
        refine tc_geti E hG hoa8 fi_X7_120 dX7_widestShare_35 (fun z9 _ _ => ?_)
        refine lv_iload hx hb dX7_widestShare_38 (lv_at hl 4 rfl) ?_
        refine lv_icmp_le (tgt := 63) hx hb dX7_widestShare_40 (by decide) (fun c10 => ?_) (fun c10 => ?_)
        · skip
          have ic10 := tn_le rfl rfl c10
          exact J63 H locs ls v3 v4 v5 hG (lv_sub hl [0, 1, 2, 3, 4, 5] rfl) (by omega) (by omega) (by omega) (by omega)
        · skip
          have ic10 := tn_nle rfl rfl c10
          refine lv_aload_n hx hb dX7_widestShare_43 rfl (lv_at hl 0 rfl) ?_
          refine tc_getr E hG t0 fr_X7_12 dX7_widestShare_44 (fun oa11 hoa11 => ?_)
          refine tc_getr E hG hoa11 frc_X7_91 dX7_widestShare_47 (fun oa12 hoa12 => ?_)
          refine lv_iload_n hx hb dX7_widestShare_50 rfl (lv_at hl 1 rfl) ?_
          refine tc_aald3 E hG hoa12 ta_34 (t_in (by omega) (by omega)) dX7_widestShare_51 (fun oa13 hoa13 => ?_)
          refine tc_getr E hG hoa13 frk_X7_95 dX7_widestShare_52 (fun oa14 hoa14 => ?_)
          refine tc_geti E hG hoa14 fi_X7_120 dX7_widestShare_55 (fun z15 _ _ => ?_)
          refine lv_istore (lv' := [(4, .int z15), (0, .ref h0), (1, .int x1), (2, .int x2), (3, .int v3), (5, .int v5)]) hx hb dX7_widestShare_58 hl (by decide) rfl (fun ls hl => ?_)
          refine lv_iload hx hb dX7_widestShare_60 (lv_at hl 5 rfl) ?_
          refine lv_istore_n (lv' := [(3, .int v5), (4, .int z15), (0, .ref h0), (1, .int x1), (2, .int x2), (5, .int v5)]) hx hb dX7_widestShare_62 rfl hl (by decide) rfl (fun ls hl => ?_)
          exact J63 H locs ls v5 z15 v5 hG (lv_sub hl [2, 3, 4, 0, 1, 5] rfl) (by omega) (by omega) (by omega) (by omega)
  refine lv_iconst (v := 0) hx hb dX7_widestShare_0 (by decide) ?_
  refine lv_istore_n (lv' := [(3, .int 0), (0, .ref h0), (1, .int x1), (2, .int x2)]) hx hb dX7_widestShare_1 rfl hl (by decide) rfl (fun ls hl => ?_)
  refine lv_iconst (v := -1) hx hb dX7_widestShare_2 (by decide) ?_
  refine lv_istore (lv' := [(4, .int (-1)), (3, .int 0), (0, .ref h0), (1, .int x1), (2, .int x2)]) hx hb dX7_widestShare_3 hl (by decide) rfl (fun ls hl => ?_)
  refine lv_iconst (v := 0) hx hb dX7_widestShare_5 (by decide) ?_
  refine lv_istore (lv' := [(5, .int 0), (4, .int (-1)), (3, .int 0), (0, .ref h0), (1, .int x1), (2, .int x2)]) hx hb dX7_widestShare_6 hl (by decide) rfl (fun ls hl => ?_)
  exact J8 ((10 - (0 : Int32).toInt).toNat + 1) H locs ls (0 : Int32) (-1 : Int32) (0 : Int32) hG (lv_sub hl [3, 4, 5, 2, 1, 0] rfl) (by decide) (by decide) (by decide) (Nat.lt_succ_self _)

set_option maxHeartbeats 4000000 in
set_option maxRecDepth 100000 in
theorem c_X7_fittingNumbers (l : Launch) (G : tG) (τ : Nat → Nat) (h0 : Nat) (x1 : Int32) (x2 : Int32) (t0 : τ h0 = 6) (l1 : 0 ≤ x1.toInt) (u1 : x1.toInt ≤ 23) (l2 : 0 ≤ x2.toInt) (u2 : x2.toInt ≤ 3) : Met l yX7_fittingNumbers (.code yX7_fittingNumbers cX7_fittingNumbers 5 (some .int) :: tWS) (tRm 1093 15099) (va_Pc [.ref h0, .int x1, .int x2] (tPre G τ)) (tQi G τ (fun r => True)) 0 0 (tA τ) := by
  refine tc_met (by decide) (Nat.le_of_ble_eq_true rfl) ?_
  intro p e s m below meth c E hSt hr hlk hG ls hl
  have hl : lv_has ls 5 [(0, .ref h0), (1, .int x1), (2, .int x2)] := hl
  have hx := E.1
  have hb := E.2.1
  obtain ⟨H, eH⟩ : ∃ H, H = s.heap := ⟨_, rfl⟩
  obtain ⟨locs, eL⟩ : ∃ x : List Loc, x = [] := ⟨_, rfl⟩
  have hG : tGH G τ s H locs := by rw [eH, eL]; exact hG
  suffices hW : W p l e (tRm 1093 15099) s m ([.ref h0, .int x1, .int x2] : List Value).toArray below meth c H locs 0 0 (MQ below (tQi G τ (fun r => True)) ([.ref h0, .int x1, .int x2] : List Value).toArray s 0 0 (tA τ)) (F0 m 0 ls []) by subst eH; subst eL; exact hW
  clear eH eL
  have J5 : ∀ (n5 : Nat) (H : Heap) (locs : List Loc) (ls : Array Slot) (v3 : Int32) (v4 : Int32), tGH G τ s H locs → lv_has ls 5 [(0, .ref h0), (1, .int x1), (2, .int x2), (3, .int v3), (4, .int v4)] → 0 ≤ v4.toInt → v4.toInt ≤ 21 → (21 - v4.toInt).toNat < n5 → W p l e (tRm 1093 15099) s m ([.ref h0, .int x1, .int x2] : List Value).toArray below meth c H locs 0 0 (MQ below (tQi G τ (fun r => True)) ([.ref h0, .int x1, .int x2] : List Value).toArray s 0 0 (tA τ)) (F0 m 5 ls []) := by
    intro n5
    induction n5 with
    | zero => intro H locs ls v3 v4 hG hl b4 c4 hn5; exact absurd hn5 (Nat.not_lt_zero _)
    | succ n5 ih5 =>
      intro H locs ls v3 v4 hG hl b4 c4 hn5
      have J59 : ∀ (H : Heap) (locs : List Loc) (ls : Array Slot) (v3 : Int32) (v4 : Int32), tGH G τ s H locs → lv_has ls 5 [(0, .ref h0), (1, .int x1), (2, .int x2), (3, .int v3), (4, .int v4)] → 0 ≤ v4.toInt → v4.toInt ≤ 20 → (21 - v4.toInt).toNat < n5 + 1 → W p l e (tRm 1093 15099) s m ([.ref h0, .int x1, .int x2] : List Value).toArray below meth c H locs 0 0 (MQ below (tQi G τ (fun r => True)) ([.ref h0, .int x1, .int x2] : List Value).toArray s 0 0 (tA τ)) (F0 m 59 ls []) := by
        intro H locs ls v3 v4 hG hl b4 c4 hm5
        obtain ⟨z1, ez1⟩ : ∃ y : Int32, y = v4 + (1) := ⟨_, rfl⟩
        refine lv_iinc (v := z1) (lv' := [(4, .int z1), (0, .ref h0), (1, .int x1), (2, .int x2), (3, .int v3)]) hx hb dX7_fittingNumbers_59 hl (k := 4) rfl (by rw [ez1]; rfl) (by decide) rfl (fun ls hl => ?_)
        have tz1 := tn_add ez1 rfl kI_1 (by omega) (by omega)
        refine lv_goto (tgt := 5) hx hb dX7_fittingNumbers_62 (by decide) ?_
        exact ih5 H locs ls v3 z1 hG (lv_sub hl [1, 2, 3, 4, 0] rfl) (by omega) (by omega) (by omega)
      have J57 : ∀ (H : Heap) (locs : List Loc) (ls : Array Slot) (v4 : Int32) (vs0 : Int32) (vs1 : Int32), tGH G τ s H locs → lv_has ls 5 [(0, .ref h0), (1, .int x1), (2, .int x2), (4, .int v4)] → 0 ≤ v4.toInt → v4.toInt ≤ 20 → (21 - v4.toInt).toNat < n5 + 1 → W p l e (tRm 1093 15099) s m ([.ref h0, .int x1, .int x2] : List Value).toArray below meth c H locs 0 0 (MQ below (tQi G τ (fun r => True)) ([.ref h0, .int x1, .int x2] : List Value).toArray s 0 0 (tA τ)) (F0 m 57 ls [.int vs1, .int vs0]) := by
        intro H locs ls v4 vs0 vs1 hG hl b4 c4 hm5
        refine lv_ior hx hb dX7_fittingNumbers_57 ?_
        refine lv_topi (fun z2 ez2 => ?_)
        refine lv_istore_n (lv' := [(3, .int z2), (0, .ref h0), (1, .int x1), (2, .int x2), (4, .int v4)]) hx hb dX7_fittingNumbers_58 rfl hl (by decide) rfl (fun ls hl => ?_)
        exact J59 H locs ls z2 v4 hG (lv_sub hl [1, 2, 3, 0, 4] rfl) (by omega) (by omega) (by omega)
      refine lv_iload hx hb dX7_fittingNumbers_5 (lv_at hl 4 rfl) ?_
      refine lv_bipush (v := 20) hx hb dX7_fittingNumbers_7 (by decide) ?_
      refine lv_icmp_gt (tgt := 65) hx hb dX7_fittingNumbers_9 (by decide) (fun c3 => ?_) (fun c3 => ?_)
      · skip
        have ic3 := tn_lt kI_20 rfl c3
        refine lv_iload_n hx hb dX7_fittingNumbers_65 rfl (lv_at hl 3 rfl) ?_
        exact tc_iret E hr hlk hG trivial dX7_fittingNumbers_66
      · skip
        have ic3 := tn_nlt kI_20 rfl c3
        refine lv_aload_n hx hb dX7_fittingNumbers_12 rfl (lv_at hl 0 rfl) ?_
        refine tc_getr E hG t0 fr_X7_37 dX7_fittingNumbers_13 (fun oa4 hoa4 => ?_)
        refine tc_getr E hG hoa4 fr_X7_91 dX7_fittingNumbers_16 (fun oa5 hoa5 => ?_)
        refine lv_iload_n hx hb dX7_fittingNumbers_19 rfl (lv_at hl 1 rfl) ?_
        refine tc_aald3 E hG hoa5 ta_10 (t_in (by omega) (by omega)) dX7_fittingNumbers_20 (fun oa6 hoa6 => ?_)
        refine lv_iload_n hx hb dX7_fittingNumbers_21 rfl (lv_at hl 2 rfl) ?_
        refine lv_iload hx hb dX7_fittingNumbers_22 (lv_at hl 4 rfl) ?_
        refine tc_callp (tc_runV (As := [.int x2, .int v4]) (rest := []) E hSt hG (c_X0_mayBeTold l G τ oa6 x2 v4 hoa6) hoa6 rv_3 kv_X0_mayBeTold ml_X7_127 ⟨rfl, rfl, Nat.le_of_ble_eq_true rfl, Nat.le_of_ble_eq_true rfl⟩ rfl hl.1 rfl (Nat.le_of_ble_eq_true rfl) ⟨Nat.zero_le _, Nat.zero_le _⟩ dX7_fittingNumbers_24) (fun r7 pr7 => ?_)
        have pr7 : 0 ≤ r7.toInt ∧ r7.toInt ≤ 1 := pr7
        refine lv_if_eq (tgt := 59) hx hb dX7_fittingNumbers_27 (by decide) (fun c8 => ?_) (fun c8 => ?_)
        · skip
          have ic8 := tn_eq rfl kI_0 c8
          exact J59 H locs ls v3 v4 hG (lv_sub hl [0, 1, 2, 3, 4] rfl) (by omega) (by omega) (by omega)
        · skip
          have ic8 := tn_ne rfl kI_0 c8
          refine lv_aload_n hx hb dX7_fittingNumbers_30 rfl (lv_at hl 0 rfl) ?_
          refine lv_iload_n hx hb dX7_fittingNumbers_31 rfl (lv_at hl 1 rfl) ?_
          refine lv_iload_n hx hb dX7_fittingNumbers_32 rfl (lv_at hl 2 rfl) ?_
          refine lv_iload hx hb dX7_fittingNumbers_33 (lv_at hl 4 rfl) ?_
          refine tc_callv hG (tc_runV (As := [.int x1, .int x2, .int v4]) (rest := []) E hSt hG (c_X7_tryTold l G τ h0 x1 x2 v4 t0 (by omega) (by omega) (by omega) (by omega)) t0 rv_6 kv_X7_tryTold ml_X7_116 ⟨rfl, rfl, Nat.le_of_ble_eq_true rfl, Nat.le_of_ble_eq_true rfl⟩ rfl hl.1 rfl (Nat.le_of_ble_eq_true rfl) ⟨Nat.zero_le _, Nat.zero_le _⟩ dX7_fittingNumbers_35) (fun H locs hG => ?_)
          refine lv_iload_n hx hb dX7_fittingNumbers_38 rfl (lv_at hl 3 rfl) ?_
          refine lv_aload_n hx hb dX7_fittingNumbers_39 rfl (lv_at hl 0 rfl) ?_
          refine tc_getr E hG t0 fr_X7_12 dX7_fittingNumbers_40 (fun oa10 hoa10 => ?_)
          refine tc_callp (tc_runV (As := []) (rest := [.int v3]) E hSt hG (c_X8_overBits_c l G τ oa10 hoa10) hoa10 rv_26 kv_X8_overBits ml_X7_88 ⟨rfl, rfl, Nat.le_of_ble_eq_true rfl, Nat.le_of_ble_eq_true rfl⟩ rfl hl.1 rfl (Nat.le_of_ble_eq_true rfl) ⟨Nat.zero_le _, Nat.zero_le _⟩ dX7_fittingNumbers_43) (fun r11 pr11 => ?_)
          refine lv_if_ne (tgt := 56) hx hb dX7_fittingNumbers_46 (by decide) (fun c12 => ?_) (fun c12 => ?_)
          · skip
            have ic12 := tn_ne rfl kI_0 c12
            refine lv_iconst (v := 0) hx hb dX7_fittingNumbers_56 (by decide) ?_
            exact J57 H locs ls v4 v3 (0 : Int32) hG (lv_sub hl [0, 1, 2, 4] rfl) (by omega) (by omega) (by omega)
          · skip
            have ic12 := tn_eq rfl kI_0 c12
            refine lv_iconst (v := 1) hx hb dX7_fittingNumbers_49 (by decide) ?_
            refine lv_iload hx hb dX7_fittingNumbers_50 (lv_at hl 4 rfl) ?_
            refine lv_ishl hx hb dX7_fittingNumbers_52 ?_
            refine lv_topi (fun z13 ez13 => ?_)
            refine lv_goto (tgt := 57) hx hb dX7_fittingNumbers_53 (by decide) ?_
            exact J57 H locs ls v4 v3 z13 hG (lv_sub hl [0, 1, 2, 4] rfl) (by omega) (by omega) (by omega)
  refine lv_iconst (v := 0) hx hb dX7_fittingNumbers_0 (by decide) ?_
  refine lv_istore_n (lv' := [(3, .int 0), (0, .ref h0), (1, .int x1), (2, .int x2)]) hx hb dX7_fittingNumbers_1 rfl hl (by decide) rfl (fun ls hl => ?_)
  refine lv_iconst (v := 0) hx hb dX7_fittingNumbers_2 (by decide) ?_
  refine lv_istore (lv' := [(4, .int 0), (3, .int 0), (0, .ref h0), (1, .int x1), (2, .int x2)]) hx hb dX7_fittingNumbers_3 hl (by decide) rfl (fun ls hl => ?_)
  exact J5 ((21 - (0 : Int32).toInt).toNat + 1) H locs ls (0 : Int32) (0 : Int32) hG (lv_sub hl [2, 3, 4, 1, 0] rfl) (by decide) (by decide) (Nat.lt_succ_self _)

set_option maxHeartbeats 4000000 in
set_option maxRecDepth 100000 in
theorem c_X7_visitsSaved (l : Launch) (G : tG) (τ : Nat → Nat) (h0 : Nat) (t0 : τ h0 = 6) : Met l yX7_visitsSaved (.code yX7_visitsSaved cX7_visitsSaved 3 (some .int) :: tWS) (tRm 1092 15076) (va_Pc [.ref h0] (tPre G τ)) (tQi G τ (fun r => True)) 0 0 (tA τ) := by
  refine tc_met (by decide) (Nat.le_of_ble_eq_true rfl) ?_
  intro p e s m below meth c E hSt hr hlk hG ls hl
  have hl : lv_has ls 3 [(0, .ref h0)] := hl
  have hx := E.1
  have hb := E.2.1
  obtain ⟨H, eH⟩ : ∃ H, H = s.heap := ⟨_, rfl⟩
  obtain ⟨locs, eL⟩ : ∃ x : List Loc, x = [] := ⟨_, rfl⟩
  have hG : tGH G τ s H locs := by rw [eH, eL]; exact hG
  suffices hW : W p l e (tRm 1092 15076) s m ([.ref h0] : List Value).toArray below meth c H locs 0 0 (MQ below (tQi G τ (fun r => True)) ([.ref h0] : List Value).toArray s 0 0 (tA τ)) (F0 m 0 ls []) by subst eH; subst eL; exact hW
  clear eH eL
  have J34 : ∀ (n34 : Nat) (H : Heap) (locs : List Loc) (ls : Array Slot) (v1 : Int32) (v2 : Int32), tGH G τ s H locs → lv_has ls 3 [(0, .ref h0), (1, .int v1), (2, .int v2)] → 0 ≤ v2.toInt → v2.toInt ≤ 8 → (8 - v2.toInt).toNat < n34 → W p l e (tRm 1092 15076) s m ([.ref h0] : List Value).toArray below meth c H locs 0 0 (MQ below (tQi G τ (fun r => True)) ([.ref h0] : List Value).toArray s 0 0 (tA τ)) (F0 m 34 ls []) := by
    intro n34
    induction n34 with
    | zero => intro H locs ls v1 v2 hG hl b2 c2 hn34; exact absurd hn34 (Nat.not_lt_zero _)
    | succ n34 ih34 =>
      intro H locs ls v1 v2 hG hl b2 c2 hn34
      have J135 : ∀ (H : Heap) (locs : List Loc) (ls : Array Slot) (v1 : Int32) (v2 : Int32), tGH G τ s H locs → lv_has ls 3 [(0, .ref h0), (1, .int v1), (2, .int v2)] → 0 ≤ v2.toInt → v2.toInt ≤ 7 → (8 - v2.toInt).toNat < n34 + 1 → W p l e (tRm 1092 15076) s m ([.ref h0] : List Value).toArray below meth c H locs 0 0 (MQ below (tQi G τ (fun r => True)) ([.ref h0] : List Value).toArray s 0 0 (tA τ)) (F0 m 135 ls []) := by
        intro H locs ls v1 v2 hG hl b2 c2 hm34
        obtain ⟨z1, ez1⟩ : ∃ y : Int32, y = v2 + (1) := ⟨_, rfl⟩
        refine lv_iinc (v := z1) (lv' := [(2, .int z1), (0, .ref h0), (1, .int v1)]) hx hb dX7_visitsSaved_135 hl (k := 2) rfl (by rw [ez1]; rfl) (by decide) rfl (fun ls hl => ?_)
        have tz1 := tn_add ez1 rfl kI_1 (by omega) (by omega)
        refine lv_goto (tgt := 34) hx hb dX7_visitsSaved_138 (by decide) ?_
        exact ih34 H locs ls v1 z1 hG (lv_sub hl [1, 2, 0] rfl) (by omega) (by omega) (by omega)
      refine lv_iload_n hx hb dX7_visitsSaved_34 rfl (lv_at hl 2 rfl) ?_
      refine lv_aload_n hx hb dX7_visitsSaved_35 rfl (lv_at hl 0 rfl) ?_
      refine tc_getrS E hG t0 fr_X7_37 dX7_visitsSaved_36 (fun oa2 hoa2 fv3 => ?_)
      have fv3 := fv3 _ rfl
      refine tc_getiS E hG hoa2 fi_X7_131 dX7_visitsSaved_39 (fun z4 lz4 uz4 fv5 => ?_)
      have fv5 := fv5 _ rfl
      refine lv_icmp_ge (tgt := 141) hx hb dX7_visitsSaved_42 (by decide) (fun c6 => ?_) (fun c6 => ?_)
      · skip
        have ic6 := tn_le rfl rfl c6
        refine lv_aload_n hx hb dX7_visitsSaved_141 rfl (lv_at hl 0 rfl) ?_
        refine tc_getrS E hG t0 fr_X7_30 dX7_visitsSaved_142 (fun oa7 hoa7 fv8 => ?_)
        have fv8 := fv8 _ rfl
        refine tc_callv hG (tc_runV (As := []) (rest := []) E hSt hG (c_X3_layOut_c l G τ oa7 hoa7) hoa7 rv_27 kv_X3_layOut ml_X7_61 ⟨rfl, rfl, Nat.le_of_ble_eq_true rfl, Nat.le_of_ble_eq_true rfl⟩ rfl hl.1 rfl (Nat.le_of_ble_eq_true rfl) ⟨Nat.zero_le _, Nat.zero_le _⟩ dX7_visitsSaved_145) (fun H locs hG => ?_)
        refine lv_iload_n hx hb dX7_visitsSaved_148 rfl (lv_at hl 1 rfl) ?_
        refine lv_aload_n hx hb dX7_visitsSaved_149 rfl (lv_at hl 0 rfl) ?_
        refine tc_getrS E hG t0 fr_X7_30 dX7_visitsSaved_150 (fun oa10 hoa10 fv11 => ?_)
        have fv11 := fv11 _ rfl
        refine tc_getiS E hG hoa10 fic_X7_140 dX7_visitsSaved_153 (fun z12 lz12 uz12 fv13 => ?_)
        have fv13 := fv13 _ rfl
        refine lv_isub hx hb dX7_visitsSaved_156 ?_
        refine lv_topi (fun z14 ez14 => ?_)
        exact tc_iret E hr hlk hG trivial dX7_visitsSaved_157
      · skip
        have ic6 := tn_nle rfl rfl c6
        refine lv_aload_n hx hb dX7_visitsSaved_45 rfl (lv_at hl 0 rfl) ?_
        refine tc_seen E ff_X7_37 fv3 dX7_visitsSaved_46 ?_
        refine lv_aload_n hx hb dX7_visitsSaved_49 rfl (lv_at hl 0 rfl) ?_
        refine tc_seen E ff_X7_37 fv3 dX7_visitsSaved_50 ?_
        refine tc_getrS E hG hoa2 fr_X7_134 dX7_visitsSaved_53 (fun oa15 hoa15 fv16 => ?_)
        have fv16 := fv16 _ rfl
        refine lv_iload_n hx hb dX7_visitsSaved_56 rfl (lv_at hl 2 rfl) ?_
        refine tc_iald E hG hoa15 ta_36 (t_in (by omega) (by omega)) dX7_visitsSaved_57 (fun z17 lz17 uz17 => ?_)
        refine tc_callp (tc_runV (As := [.int z17]) (rest := []) E hSt hG (c_X8_has l G τ oa2 z17 hoa2) hoa2 rv_2 kv_X8_has ml_X7_78 ⟨rfl, rfl, Nat.le_of_ble_eq_true rfl, Nat.le_of_ble_eq_true rfl⟩ rfl hl.1 rfl (Nat.le_of_ble_eq_true rfl) ⟨Nat.zero_le _, Nat.zero_le _⟩ dX7_visitsSaved_58) (fun r18 pr18 => ?_)
        have pr18 : (0 ≤ r18.toInt ∧ r18.toInt ≤ 1) ∧ (r18.toInt = 0 ∨ (0 ≤ z17.toInt ∧ z17.toInt ≤ 23)) := pr18
        refine lv_if_eq (tgt := 135) hx hb dX7_visitsSaved_61 (by decide) (fun c19 => ?_) (fun c19 => ?_)
        · skip
          have ic19 := tn_eq rfl kI_0 c19
          exact J135 H locs ls v1 v2 hG (lv_sub hl [0, 1, 2] rfl) (by omega) (by omega) (by omega)
        · skip
          have ic19 := tn_ne rfl kI_0 c19
          refine lv_aload_n hx hb dX7_visitsSaved_64 rfl (lv_at hl 0 rfl) ?_
          refine tc_getrS E hG t0 fr_X7_12 dX7_visitsSaved_65 (fun oa20 hoa20 fv21 => ?_)
          have fv21 := fv21 _ rfl
          refine lv_aload_n hx hb dX7_visitsSaved_68 rfl (lv_at hl 0 rfl) ?_
          refine tc_seen E ff_X7_37 fv3 dX7_visitsSaved_69 ?_
          refine tc_seen E ff_X7_134 fv16 dX7_visitsSaved_72 ?_
          refine lv_iload_n hx hb dX7_visitsSaved_75 rfl (lv_at hl 2 rfl) ?_
          refine tc_iald E hG hoa15 ta_36 (t_in (by omega) (by omega)) dX7_visitsSaved_76 (fun z22 lz22 uz22 => ?_)
          refine lv_iconst (v := 4) hx hb dX7_visitsSaved_77 (by decide) ?_
          refine lv_aload_n hx hb dX7_visitsSaved_78 rfl (lv_at hl 0 rfl) ?_
          refine tc_seen E ff_X7_37 fv3 dX7_visitsSaved_79 ?_
          refine tc_getrS E hG hoa2 fr_X7_137 dX7_visitsSaved_82 (fun oa23 hoa23 fv24 => ?_)
          have fv24 := fv24 _ rfl
          refine lv_iload_n hx hb dX7_visitsSaved_85 rfl (lv_at hl 2 rfl) ?_
          refine tc_iald E hG hoa23 ta_13 (t_in (by omega) (by omega)) dX7_visitsSaved_86 (fun z25 _ _ => ?_)
          refine tc_calli hG (tc_runV (As := [.int z22, .int 4, .int z25]) (rest := []) E hSt hG (c_X8_tell_c l G τ oa20 z22 (4 : Int32) z25 hoa20 (by omega) (by omega) (by decide) (by decide)) hoa20 rv_26 kv_X8_tell ml_X7_123 ⟨rfl, rfl, Nat.le_of_ble_eq_true rfl, Nat.le_of_ble_eq_true rfl⟩ rfl hl.1 rfl (Nat.le_of_ble_eq_true rfl) ⟨Nat.zero_le _, Nat.zero_le _⟩ dX7_visitsSaved_87) (fun r26 H locs pr26 hG => ?_)
          refine lv_pop hx hb dX7_visitsSaved_90 rfl ?_
          refine lv_aload_n hx hb dX7_visitsSaved_91 rfl (lv_at hl 0 rfl) ?_
          refine tc_getrS E hG t0 fr_X7_26 dX7_visitsSaved_92 (fun oa27 hoa27 fv28 => ?_)
          have fv28 := fv28 _ rfl
          refine tc_callv hG (tc_runV (As := []) (rest := []) E hSt hG (c_X3_layOut_c l G τ oa27 hoa27) hoa27 rv_27 kv_X3_layOut ml_X7_61 ⟨rfl, rfl, Nat.le_of_ble_eq_true rfl, Nat.le_of_ble_eq_true rfl⟩ rfl hl.1 rfl (Nat.le_of_ble_eq_true rfl) ⟨Nat.zero_le _, Nat.zero_le _⟩ dX7_visitsSaved_95) (fun H locs hG => ?_)
          refine lv_iload_n hx hb dX7_visitsSaved_98 rfl (lv_at hl 1 rfl) ?_
          refine lv_aload_n hx hb dX7_visitsSaved_99 rfl (lv_at hl 0 rfl) ?_
          refine tc_getrS E hG t0 fr_X7_26 dX7_visitsSaved_100 (fun oa30 hoa30 fv31 => ?_)
          have fv31 := fv31 _ rfl
          refine tc_getiS E hG hoa30 fic_X7_140 dX7_visitsSaved_103 (fun z32 lz32 uz32 fv33 => ?_)
          have fv33 := fv33 _ rfl
          refine lv_iadd hx hb dX7_visitsSaved_106 ?_
          refine lv_topi (fun z34 ez34 => ?_)
          refine lv_istore_n (lv' := [(1, .int z34), (0, .ref h0), (2, .int v2)]) hx hb dX7_visitsSaved_107 rfl hl (by decide) rfl (fun ls hl => ?_)
          refine lv_aload_n hx hb dX7_visitsSaved_108 rfl (lv_at hl 1 rfl) ?_
          refine tc_getrS E hG t0 fr_X7_18 dX7_visitsSaved_109 (fun oa35 hoa35 fv36 => ?_)
          have fv36 := fv36 _ rfl
          refine lv_aload_n hx hb dX7_visitsSaved_112 rfl (lv_at hl 1 rfl) ?_
          refine tc_getrS E hG t0 fr_X7_37 dX7_visitsSaved_113 (fun oa37 hoa37 fv38 => ?_)
          have fv38 := fv38 _ rfl
          refine tc_getrS E hG hoa37 fr_X7_134 dX7_visitsSaved_116 (fun oa39 hoa39 fv40 => ?_)
          have fv40 := fv40 _ rfl
          refine lv_iload_n hx hb dX7_visitsSaved_119 rfl (lv_at hl 2 rfl) ?_
          refine tc_iald E hG hoa39 ta_36 (t_in (by omega) (by omega)) dX7_visitsSaved_120 (fun z41 lz41 uz41 => ?_)
          refine lv_iconst (v := 4) hx hb dX7_visitsSaved_121 (by decide) ?_
          refine lv_aload_n hx hb dX7_visitsSaved_122 rfl (lv_at hl 1 rfl) ?_
          refine tc_seen E ff_X7_37 fv38 dX7_visitsSaved_123 ?_
          refine tc_getrS E hG hoa37 fr_X7_137 dX7_visitsSaved_126 (fun oa42 hoa42 fv43 => ?_)
          have fv43 := fv43 _ rfl
          refine lv_iload_n hx hb dX7_visitsSaved_129 rfl (lv_at hl 2 rfl) ?_
          refine tc_iald E hG hoa42 ta_13 (t_in (by omega) (by omega)) dX7_visitsSaved_130 (fun z44 _ _ => ?_)
          refine tc_calli hG (tc_runV (As := [.int z41, .int 4, .int z44]) (rest := []) E hSt hG (c_X8_tell_c l G τ oa35 z41 (4 : Int32) z44 hoa35 (by omega) (by omega) (by decide) (by decide)) hoa35 rv_26 kv_X8_tell ml_X7_123 ⟨rfl, rfl, Nat.le_of_ble_eq_true rfl, Nat.le_of_ble_eq_true rfl⟩ rfl hl.1 rfl (Nat.le_of_ble_eq_true rfl) ⟨Nat.zero_le _, Nat.zero_le _⟩ dX7_visitsSaved_131) (fun r45 H locs pr45 hG => ?_)
          refine lv_pop hx hb dX7_visitsSaved_134 rfl ?_
          exact J135 H locs ls z34 v2 hG (lv_sub hl [1, 0, 2] rfl) (by omega) (by omega) (by omega)
  refine lv_iconst (v := 0) hx hb dX7_visitsSaved_0 (by decide) ?_
  refine lv_istore_n (lv' := [(1, .int 0), (0, .ref h0)]) hx hb dX7_visitsSaved_1 rfl hl (by decide) rfl (fun ls hl => ?_)
  refine lv_aload_n hx hb dX7_visitsSaved_2 rfl (lv_at hl 1 rfl) ?_
  refine lv_aload_n hx hb dX7_visitsSaved_3 rfl (lv_at hl 1 rfl) ?_
  refine tc_getrS E hG t0 fr_X7_12 dX7_visitsSaved_4 (fun oa46 hoa46 fv47 => ?_)
  have fv47 := fv47 _ rfl
  refine tc_callv hG (tc_runV (As := [.ref oa46]) (rest := []) E hSt hG (c_X7_beginAgain l G τ h0 oa46 t0 hoa46) t0 rv_6 kv_X7_beginAgain ml_X7_58 ⟨rfl, rfl, Nat.le_of_ble_eq_true rfl, Nat.le_of_ble_eq_true rfl⟩ rfl hl.1 rfl (Nat.le_of_ble_eq_true rfl) ⟨Nat.zero_le _, Nat.zero_le _⟩ dX7_visitsSaved_7) (fun H locs hG => ?_)
  refine lv_aload_n hx hb dX7_visitsSaved_10 rfl (lv_at hl 1 rfl) ?_
  refine tc_getrS E hG t0 fr_X7_26 dX7_visitsSaved_11 (fun oa49 hoa49 fv50 => ?_)
  have fv50 := fv50 _ rfl
  refine tc_callv hG (tc_runV (As := []) (rest := []) E hSt hG (c_X3_layOut_c l G τ oa49 hoa49) hoa49 rv_27 kv_X3_layOut ml_X7_61 ⟨rfl, rfl, Nat.le_of_ble_eq_true rfl, Nat.le_of_ble_eq_true rfl⟩ rfl hl.1 rfl (Nat.le_of_ble_eq_true rfl) ⟨Nat.zero_le _, Nat.zero_le _⟩ dX7_visitsSaved_14) (fun H locs hG => ?_)
  refine lv_aload_n hx hb dX7_visitsSaved_17 rfl (lv_at hl 1 rfl) ?_
  refine lv_aload_n hx hb dX7_visitsSaved_18 rfl (lv_at hl 1 rfl) ?_
  refine tc_getrS E hG t0 fr_X7_18 dX7_visitsSaved_19 (fun oa52 hoa52 fv53 => ?_)
  have fv53 := fv53 _ rfl
  refine tc_callv hG (tc_runV (As := [.ref oa52]) (rest := []) E hSt hG (c_X7_beginAgain l G τ h0 oa52 t0 hoa52) t0 rv_6 kv_X7_beginAgain ml_X7_58 ⟨rfl, rfl, Nat.le_of_ble_eq_true rfl, Nat.le_of_ble_eq_true rfl⟩ rfl hl.1 rfl (Nat.le_of_ble_eq_true rfl) ⟨Nat.zero_le _, Nat.zero_le _⟩ dX7_visitsSaved_22) (fun H locs hG => ?_)
  refine lv_aload_n hx hb dX7_visitsSaved_25 rfl (lv_at hl 1 rfl) ?_
  refine tc_getrS E hG t0 fr_X7_30 dX7_visitsSaved_26 (fun oa55 hoa55 fv56 => ?_)
  have fv56 := fv56 _ rfl
  refine tc_callv hG (tc_runV (As := []) (rest := []) E hSt hG (c_X3_layOut_c l G τ oa55 hoa55) hoa55 rv_27 kv_X3_layOut ml_X7_61 ⟨rfl, rfl, Nat.le_of_ble_eq_true rfl, Nat.le_of_ble_eq_true rfl⟩ rfl hl.1 rfl (Nat.le_of_ble_eq_true rfl) ⟨Nat.zero_le _, Nat.zero_le _⟩ dX7_visitsSaved_29) (fun H locs hG => ?_)
  refine lv_iconst (v := 0) hx hb dX7_visitsSaved_32 (by decide) ?_
  refine lv_istore_n (lv' := [(2, .int 0), (1, .int 0), (0, .ref h0)]) hx hb dX7_visitsSaved_33 rfl hl (by decide) rfl (fun ls hl => ?_)
  exact J34 ((8 - (0 : Int32).toInt).toNat + 1) H locs ls (0 : Int32) (0 : Int32) hG (lv_sub hl [2, 1, 0] rfl) (by decide) (by decide) (Nat.lt_succ_self _)

set_option maxHeartbeats 4000000 in
set_option maxRecDepth 100000 in
theorem c_X7_gatherBlocks (l : Launch) (G : tG) (τ : Nat → Nat) (h0 : Nat) (t0 : τ h0 = 6) : Met l yX7_gatherBlocks (.code yX7_gatherBlocks cX7_gatherBlocks 3 (some .int) :: tWS) (tRm 1 21) (va_Pc [.ref h0] (tPre G τ)) (tQi G τ (fun r => 0 ≤ r.toInt ∧ r.toInt ≤ 6)) 0 0 (tA τ) := by
  refine tc_met (by decide) (Nat.le_of_ble_eq_true rfl) ?_
  intro p e s m below meth c E hSt hr hlk hG ls hl
  have hl : lv_has ls 3 [(0, .ref h0)] := hl
  have hx := E.1
  have hb := E.2.1
  obtain ⟨H, eH⟩ : ∃ H, H = s.heap := ⟨_, rfl⟩
  obtain ⟨locs, eL⟩ : ∃ x : List Loc, x = [] := ⟨_, rfl⟩
  have hG : tGH G τ s H locs := by rw [eH, eL]; exact hG
  suffices hW : W p l e (tRm 1 21) s m ([.ref h0] : List Value).toArray below meth c H locs 0 0 (MQ below (tQi G τ (fun r => 0 ≤ r.toInt ∧ r.toInt ≤ 6)) ([.ref h0] : List Value).toArray s 0 0 (tA τ)) (F0 m 0 ls []) by subst eH; subst eL; exact hW
  clear eH eL
  have J4 : ∀ (n4 : Nat) (H : Heap) (locs : List Loc) (ls : Array Slot) (v1 : Int32) (v2 : Int32), tGH G τ s H locs → lv_has ls 3 [(0, .ref h0), (1, .int v1), (2, .int v2)] → 0 ≤ v1.toInt → v1.toInt ≤ 6 → 0 ≤ v2.toInt → v2.toInt ≤ 24 → (24 - v2.toInt).toNat < n4 → W p l e (tRm 1 21) s m ([.ref h0] : List Value).toArray below meth c H locs 0 0 (MQ below (tQi G τ (fun r => 0 ≤ r.toInt ∧ r.toInt ≤ 6)) ([.ref h0] : List Value).toArray s 0 0 (tA τ)) (F0 m 4 ls []) := by
    intro n4
    induction n4 with
    | zero => intro H locs ls v1 v2 hG hl b1 c1 b2 c2 hn4; exact absurd hn4 (Nat.not_lt_zero _)
    | succ n4 ih4 =>
      intro H locs ls v1 v2 hG hl b1 c1 b2 c2 hn4
      have J57 : ∀ (H : Heap) (locs : List Loc) (ls : Array Slot) (v1 : Int32) (v2 : Int32), tGH G τ s H locs → lv_has ls 3 [(0, .ref h0), (1, .int v1), (2, .int v2)] → 0 ≤ v1.toInt → v1.toInt ≤ 6 → 0 ≤ v2.toInt → v2.toInt ≤ 23 → (24 - v2.toInt).toNat < n4 + 1 → W p l e (tRm 1 21) s m ([.ref h0] : List Value).toArray below meth c H locs 0 0 (MQ below (tQi G τ (fun r => 0 ≤ r.toInt ∧ r.toInt ≤ 6)) ([.ref h0] : List Value).toArray s 0 0 (tA τ)) (F0 m 57 ls []) := by
        intro H locs ls v1 v2 hG hl b1 c1 b2 c2 hm4
        obtain ⟨z1, ez1⟩ : ∃ y : Int32, y = v2 + (1) := ⟨_, rfl⟩
        refine lv_iinc (v := z1) (lv' := [(2, .int z1), (0, .ref h0), (1, .int v1)]) hx hb dX7_gatherBlocks_57 hl (k := 2) rfl (by rw [ez1]; rfl) (by decide) rfl (fun ls hl => ?_)
        have tz1 := tn_add ez1 rfl kI_1 (by omega) (by omega)
        refine lv_goto (tgt := 4) hx hb dX7_gatherBlocks_60 (by decide) ?_
        exact ih4 H locs ls v1 z1 hG (lv_sub hl [1, 2, 0] rfl) (by omega) (by omega) (by omega) (by omega) (by omega)
      refine lv_iload_n hx hb dX7_gatherBlocks_4 rfl (lv_at hl 2 rfl) ?_
      refine lv_aload_n hx hb dX7_gatherBlocks_5 rfl (lv_at hl 0 rfl) ?_
      refine tc_getr E hG t0 fr_X7_37 dX7_gatherBlocks_6 (fun oa2 hoa2 => ?_)
      refine tc_geti E hG hoa2 fi_X7_143 dX7_gatherBlocks_9 (fun z3 lz3 uz3 => ?_)
      refine lv_icmp_ge (tgt := 63) hx hb dX7_gatherBlocks_12 (by decide) (fun c4 => ?_) (fun c4 => ?_)
      · skip
        have ic4 := tn_le rfl rfl c4
        refine lv_iload_n hx hb dX7_gatherBlocks_63 rfl (lv_at hl 1 rfl) ?_
        exact tc_iret E hr hlk hG (show 0 ≤ v1.toInt ∧ v1.toInt ≤ 6 by omega) dX7_gatherBlocks_64
      · skip
        have ic4 := tn_nle rfl rfl c4
        refine lv_iload_n hx hb dX7_gatherBlocks_15 rfl (lv_at hl 1 rfl) ?_
        refine lv_bipush (v := 6) hx hb dX7_gatherBlocks_16 (by decide) ?_
        refine lv_icmp_ge (tgt := 63) hx hb dX7_gatherBlocks_18 (by decide) (fun c5 => ?_) (fun c5 => ?_)
        · skip
          have ic5 := tn_le kI_6 rfl c5
          refine lv_iload_n hx hb dX7_gatherBlocks_63 rfl (lv_at hl 1 rfl) ?_
          exact tc_iret E hr hlk hG (show 0 ≤ v1.toInt ∧ v1.toInt ≤ 6 by omega) dX7_gatherBlocks_64
        · skip
          have ic5 := tn_nle kI_6 rfl c5
          refine lv_aload_n hx hb dX7_gatherBlocks_21 rfl (lv_at hl 0 rfl) ?_
          refine tc_getr E hG t0 fr_X7_37 dX7_gatherBlocks_22 (fun oa6 hoa6 => ?_)
          refine lv_iload_n hx hb dX7_gatherBlocks_25 rfl (lv_at hl 2 rfl) ?_
          refine tc_callp (tc_runV (As := [.int v2]) (rest := []) E hSt hG (c_X8_has l G τ oa6 v2 hoa6) hoa6 rv_2 kv_X8_has ml_X7_78 ⟨rfl, rfl, Nat.le_of_ble_eq_true rfl, Nat.le_of_ble_eq_true rfl⟩ rfl hl.1 rfl (Nat.le_of_ble_eq_true rfl) ⟨Nat.zero_le _, Nat.zero_le _⟩ dX7_gatherBlocks_26) (fun r7 pr7 => ?_)
          have pr7 : (0 ≤ r7.toInt ∧ r7.toInt ≤ 1) ∧ (r7.toInt = 0 ∨ (0 ≤ v2.toInt ∧ v2.toInt ≤ 23)) := pr7
          refine lv_if_eq (tgt := 57) hx hb dX7_gatherBlocks_29 (by decide) (fun c8 => ?_) (fun c8 => ?_)
          · skip
            have ic8 := tn_eq rfl kI_0 c8
            exact J57 H locs ls v1 v2 hG (lv_sub hl [0, 1, 2] rfl) (by omega) (by omega) (by omega) (by omega) (by omega)
          · skip
            have ic8 := tn_ne rfl kI_0 c8
            refine lv_aload_n hx hb dX7_gatherBlocks_32 rfl (lv_at hl 0 rfl) ?_
            refine tc_getr E hG t0 fr_X7_37 dX7_gatherBlocks_33 (fun oa9 hoa9 => ?_)
            refine tc_getr E hG hoa9 fr_X7_91 dX7_gatherBlocks_36 (fun oa10 hoa10 => ?_)
            refine lv_iload_n hx hb dX7_gatherBlocks_39 rfl (lv_at hl 2 rfl) ?_
            refine tc_aald3 E hG hoa10 ta_10 (t_in (by omega) (by omega)) dX7_gatherBlocks_40 (fun oa11 hoa11 => ?_)
            refine tc_geti E hG hoa11 fi_X7_146 dX7_gatherBlocks_41 (fun z12 _ _ => ?_)
            refine lv_if_ne (tgt := 57) hx hb dX7_gatherBlocks_44 (by decide) (fun c13 => ?_) (fun c13 => ?_)
            · skip
              have ic13 := tn_ne rfl kI_0 c13
              exact J57 H locs ls v1 v2 hG (lv_sub hl [0, 1, 2] rfl) (by omega) (by omega) (by omega) (by omega) (by omega)
            · skip
              have ic13 := tn_eq rfl kI_0 c13
              refine lv_aload_n hx hb dX7_gatherBlocks_47 rfl (lv_at hl 0 rfl) ?_
              refine tc_getr E hG t0 fr_X7_33 dX7_gatherBlocks_48 (fun oa14 hoa14 => ?_)
              refine lv_iload_n hx hb dX7_gatherBlocks_51 rfl (lv_at hl 1 rfl) ?_
              refine lv_iload_n hx hb dX7_gatherBlocks_52 rfl (lv_at hl 2 rfl) ?_
              refine tc_iast E hG hoa14 ta_14 (t_in (by omega) (by omega)) (by omega) (by omega) dX7_gatherBlocks_53 (fun H locs hG  => ?_)
              obtain ⟨z15, ez15⟩ : ∃ y : Int32, y = v1 + (1) := ⟨_, rfl⟩
              refine lv_iinc (v := z15) (lv' := [(1, .int z15), (0, .ref h0), (2, .int v2)]) hx hb dX7_gatherBlocks_54 hl (k := 1) rfl (by rw [ez15]; rfl) (by decide) rfl (fun ls hl => ?_)
              have tz15 := tn_add ez15 rfl kI_1 (by omega) (by omega)
              exact J57 H locs ls z15 v2 hG (lv_sub hl [1, 0, 2] rfl) (by omega) (by omega) (by omega) (by omega) (by omega)
  refine lv_iconst (v := 0) hx hb dX7_gatherBlocks_0 (by decide) ?_
  refine lv_istore_n (lv' := [(1, .int 0), (0, .ref h0)]) hx hb dX7_gatherBlocks_1 rfl hl (by decide) rfl (fun ls hl => ?_)
  refine lv_iconst (v := 0) hx hb dX7_gatherBlocks_2 (by decide) ?_
  refine lv_istore_n (lv' := [(2, .int 0), (1, .int 0), (0, .ref h0)]) hx hb dX7_gatherBlocks_3 rfl hl (by decide) rfl (fun ls hl => ?_)
  exact J4 ((24 - (0 : Int32).toInt).toNat + 1) H locs ls (0 : Int32) (0 : Int32) hG (lv_sub hl [2, 1, 0] rfl) (by decide) (by decide) (by decide) (by decide) (Nat.lt_succ_self _)

set_option maxHeartbeats 4000000 in
set_option maxRecDepth 100000 in
theorem c_X9_power (l : Launch) (G : tG) (τ : Nat → Nat) (x0 : Int64) (x2 : Int32)  : Met l yX9_power (.code yX9_power cX9_power 6 (some .long) :: tWS) (tRm 0 0) (va_Pc [.long x0, .int x2] (tPre G τ)) (tQpl (fun r => True)) 0 0 tNo := by
  refine tc_met (by decide) (Nat.le_of_ble_eq_true rfl) ?_
  intro p e s m below meth c E hSt hr hlk hG ls hl
  have hl : lv_has ls 6 [(0, .long x0), (2, .int x2)] := hl
  have hx := E.1
  have hb := E.2.1
  obtain ⟨H, eH⟩ : ∃ H, H = s.heap := ⟨_, rfl⟩
  obtain ⟨locs, eL⟩ : ∃ x : List Loc, x = [] := ⟨_, rfl⟩
  have hG : tGH G τ s H locs := by rw [eH, eL]; exact hG
  suffices hW : W p l e (tRm 0 0) s m ([.long x0, .int x2] : List Value).toArray below meth c H locs 0 0 (MQ below (tQpl (fun r => True)) ([.long x0, .int x2] : List Value).toArray s 0 0 tNo) (F0 m 0 ls []) by subst eH; subst eL; exact hW
  have J5 : ∀ (n5 : Nat) (ls : Array Slot) (w3 : Int64) (v5 : Int32), lv_has ls 6 [(0, .long x0), (2, .int x2), (3, .long w3), (5, .int v5)] → 0 ≤ v5.toInt → (2147483647 - v5.toInt).toNat < n5 → W p l e (tRm 0 0) s m ([.long x0, .int x2] : List Value).toArray below meth c H locs 0 0 (MQ below (tQpl (fun r => True)) ([.long x0, .int x2] : List Value).toArray s 0 0 tNo) (F0 m 5 ls []) := by
    intro n5
    induction n5 with
    | zero => intro ls w3 v5 hl b5 hn5; exact absurd hn5 (Nat.not_lt_zero _)
    | succ n5 ih5 =>
      intro ls w3 v5 hl b5 hn5
      refine lv_iload hx hb dX9_power_5 (lv_at hl 3 rfl) ?_
      refine lv_iload_n hx hb dX9_power_7 rfl (lv_at hl 1 rfl) ?_
      refine lv_icmp_ge (tgt := 21) hx hb dX9_power_8 (by decide) (fun c1 => ?_) (fun c1 => ?_)
      · skip
        have ic1 := tn_le rfl rfl c1
        have y2 := t_any2 v5
        have y3 := t_any1 x2
        have y4 := t_any2 x2
        refine lv_lload_n hx hb dX9_power_21 rfl (lv_at hl 2 rfl) ?_
        exact tc_plret E hr hlk eH eL trivial dX9_power_22
      · skip
        have ic1 := tn_nle rfl rfl c1
        have y5 := t_any2 v5
        have y6 := t_any1 x2
        have y7 := t_any2 x2
        refine lv_lload_n hx hb dX9_power_11 rfl (lv_at hl 2 rfl) ?_
        refine lv_lload_n hx hb dX9_power_12 rfl (lv_at hl 0 rfl) ?_
        refine lv_lmul hx hb dX9_power_13 ?_
        refine lv_topl (fun z8 ez8 => ?_)
        refine lv_lstore_n (lv' := [(3, .long z8), (0, .long x0), (2, .int x2), (5, .int v5)]) hx hb dX9_power_14 rfl hl (by decide) rfl (fun ls hl => ?_)
        obtain ⟨z9, ez9⟩ : ∃ y : Int32, y = v5 + (1) := ⟨_, rfl⟩
        refine lv_iinc (v := z9) (lv' := [(5, .int z9), (3, .long z8), (0, .long x0), (2, .int x2)]) hx hb dX9_power_15 hl (k := 3) rfl (by rw [ez9]; rfl) (by decide) rfl (fun ls hl => ?_)
        have tz9 := tn_add ez9 rfl kI_1 (by omega) (by omega)
        refine lv_goto (tgt := 5) hx hb dX9_power_18 (by decide) ?_
        exact ih5 ls (z8) z9 (lv_sub hl [2, 3, 1, 0] rfl) (by omega) (by omega)
  refine lv_lconst (v := 1) hx hb dX9_power_0 (by decide) ?_
  refine lv_lstore_n (lv' := [(3, .long 1), (0, .long x0), (2, .int x2)]) hx hb dX9_power_1 rfl hl (by decide) rfl (fun ls hl => ?_)
  refine lv_iconst (v := 0) hx hb dX9_power_2 (by decide) ?_
  refine lv_istore (lv' := [(5, .int 0), (3, .long 1), (0, .long x0), (2, .int x2)]) hx hb dX9_power_3 hl (by decide) rfl (fun ls hl => ?_)
  exact J5 ((2147483647 - (0 : Int32).toInt).toNat + 1) ls (1) (0 : Int32) (lv_sub hl [2, 3, 1, 0] rfl) (by decide) (Nat.lt_succ_self _)

set_option maxHeartbeats 4000000 in
set_option maxRecDepth 100000 in
theorem c_X7_waysWithoutOver (l : Launch) (G : tG) (τ : Nat → Nat) (h0 : Nat) (x1 : Int32) (x2 : Int32) (t0 : τ h0 = 6) (l1 : 0 ≤ x1.toInt) (u1 : x1.toInt ≤ 6) : Met l yX7_waysWithoutOver (.code yX7_waysWithoutOver cX7_waysWithoutOver 7 (some .long) :: tWS) (tRm 1092 15076) (va_Pc [.ref h0, .int x1, .int x2] (tPre G τ)) (tQl G τ (fun r => True)) 0 0 (tA τ) := by
  refine tc_met (by decide) (Nat.le_of_ble_eq_true rfl) ?_
  intro p e s m below meth c E hSt hr hlk hG ls hl
  have hl : lv_has ls 7 [(0, .ref h0), (1, .int x1), (2, .int x2)] := hl
  have hx := E.1
  have hb := E.2.1
  obtain ⟨H, eH⟩ : ∃ H, H = s.heap := ⟨_, rfl⟩
  obtain ⟨locs, eL⟩ : ∃ x : List Loc, x = [] := ⟨_, rfl⟩
  have hG : tGH G τ s H locs := by rw [eH, eL]; exact hG
  suffices hW : W p l e (tRm 1092 15076) s m ([.ref h0, .int x1, .int x2] : List Value).toArray below meth c H locs 0 0 (MQ below (tQl G τ (fun r => True)) ([.ref h0, .int x1, .int x2] : List Value).toArray s 0 0 (tA τ)) (F0 m 0 ls []) by subst eH; subst eL; exact hW
  clear eH eL
  have J5 : ∀ (n5 : Nat) (H : Heap) (locs : List Loc) (ls : Array Slot) (w3 : Int64) (v5 : Int32), tGH G τ s H locs → lv_has ls 7 [(0, .ref h0), (1, .int x1), (2, .int x2), (3, .long w3), (5, .int v5)] → 0 ≤ v5.toInt → (2147483647 - v5.toInt).toNat < n5 → W p l e (tRm 1092 15076) s m ([.ref h0, .int x1, .int x2] : List Value).toArray below meth c H locs 0 0 (MQ below (tQl G τ (fun r => True)) ([.ref h0, .int x1, .int x2] : List Value).toArray s 0 0 (tA τ)) (F0 m 5 ls []) := by
    intro n5
    induction n5 with
    | zero => intro H locs ls w3 v5 hG hl b5 hn5; exact absurd hn5 (Nat.not_lt_zero _)
    | succ n5 ih5 =>
      intro H locs ls w3 v5 hG hl b5 hn5
      have J115 : ∀ (H : Heap) (locs : List Loc) (ls : Array Slot) (w3 : Int64) (v5 : Int32), tGH G τ s H locs → lv_has ls 7 [(0, .ref h0), (1, .int x1), (2, .int x2), (3, .long w3), (5, .int v5)] → 0 ≤ v5.toInt → v5.toInt ≤ 2147483646 → (2147483647 - v5.toInt).toNat < n5 + 1 → W p l e (tRm 1092 15076) s m ([.ref h0, .int x1, .int x2] : List Value).toArray below meth c H locs 0 0 (MQ below (tQl G τ (fun r => True)) ([.ref h0, .int x1, .int x2] : List Value).toArray s 0 0 (tA τ)) (F0 m 115 ls []) := by
        intro H locs ls w3 v5 hG hl b5 c5 hm5
        obtain ⟨z1, ez1⟩ : ∃ y : Int32, y = v5 + (1) := ⟨_, rfl⟩
        refine lv_iinc (v := z1) (lv' := [(5, .int z1), (0, .ref h0), (1, .int x1), (2, .int x2), (3, .long w3)]) hx hb dX7_waysWithoutOver_115 hl (k := 4) rfl (by rw [ez1]; rfl) (by decide) rfl (fun ls hl => ?_)
        have tz1 := tn_add ez1 rfl kI_1 (by omega) (by omega)
        refine lv_goto (tgt := 5) hx hb dX7_waysWithoutOver_118 (by decide) ?_
        exact ih5 H locs ls (w3) z1 hG (lv_sub hl [1, 2, 3, 4, 0] rfl) (by omega) (by omega)
      have J24 : ∀ (n24 : Nat) (H : Heap) (locs : List Loc) (ls : Array Slot) (w3 : Int64) (v5 : Int32) (v6 : Int32), tGH G τ s H locs → lv_has ls 7 [(0, .ref h0), (1, .int x1), (2, .int x2), (3, .long w3), (5, .int v5), (6, .int v6)] → 0 ≤ v5.toInt → v5.toInt ≤ 2147483646 → 0 ≤ v6.toInt → v6.toInt ≤ 6 → (2147483647 - v5.toInt).toNat < n5 + 1 → (6 - v6.toInt).toNat < n24 → W p l e (tRm 1092 15076) s m ([.ref h0, .int x1, .int x2] : List Value).toArray below meth c H locs 0 0 (MQ below (tQl G τ (fun r => True)) ([.ref h0, .int x1, .int x2] : List Value).toArray s 0 0 (tA τ)) (F0 m 24 ls []) := by
        intro n24
        induction n24 with
        | zero => intro H locs ls w3 v5 v6 hG hl b5 c5 b6 c6 hm5 hn24; exact absurd hn24 (Nat.not_lt_zero _)
        | succ n24 ih24 =>
          intro H locs ls w3 v5 v6 hG hl b5 c5 b6 c6 hm5 hn24
          have J75 : ∀ (H : Heap) (locs : List Loc) (ls : Array Slot) (w3 : Int64) (v5 : Int32) (v6 : Int32), tGH G τ s H locs → lv_has ls 7 [(0, .ref h0), (1, .int x1), (2, .int x2), (3, .long w3), (5, .int v5), (6, .int v6)] → 1 ≤ x1.toInt → 0 ≤ v5.toInt → v5.toInt ≤ 2147483646 → 0 ≤ v6.toInt → v6.toInt ≤ 5 → (2147483647 - v5.toInt).toNat < n5 + 1 → (6 - v6.toInt).toNat < n24 + 1 → W p l e (tRm 1092 15076) s m ([.ref h0, .int x1, .int x2] : List Value).toArray below meth c H locs 0 0 (MQ below (tQl G τ (fun r => True)) ([.ref h0, .int x1, .int x2] : List Value).toArray s 0 0 (tA τ)) (F0 m 75 ls []) := by
            intro H locs ls w3 v5 v6 hG hl bp1 b5 c5 b6 c6 hm5 hm24
            obtain ⟨z2, ez2⟩ : ∃ y : Int32, y = v6 + (1) := ⟨_, rfl⟩
            refine lv_iinc (v := z2) (lv' := [(6, .int z2), (0, .ref h0), (1, .int x1), (2, .int x2), (3, .long w3), (5, .int v5)]) hx hb dX7_waysWithoutOver_75 hl (k := 5) rfl (by rw [ez2]; rfl) (by decide) rfl (fun ls hl => ?_)
            have tz2 := tn_add ez2 rfl kI_1 (by omega) (by omega)
            refine lv_goto (tgt := 24) hx hb dX7_waysWithoutOver_78 (by decide) ?_
            exact ih24 H locs ls (w3) v5 z2 hG (lv_sub hl [1, 2, 3, 4, 5, 0] rfl) (by omega) (by omega) (by omega) (by omega) (by omega) (by omega)
          refine lv_iload hx hb dX7_waysWithoutOver_24 (lv_at hl 5 rfl) ?_
          refine lv_iload_n hx hb dX7_waysWithoutOver_26 rfl (lv_at hl 1 rfl) ?_
          refine lv_icmp_ge (tgt := 81) hx hb dX7_waysWithoutOver_27 (by decide) (fun c3 => ?_) (fun c3 => ?_)
          · skip
            have ic3 := tn_le rfl rfl c3
            refine lv_aload_n hx hb dX7_waysWithoutOver_81 rfl (lv_at hl 0 rfl) ?_
            refine tc_getr E hG t0 fr_X7_26 dX7_waysWithoutOver_82 (fun oa4 hoa4 => ?_)
            refine tc_callv hG (tc_runV (As := []) (rest := []) E hSt hG (c_X3_layOut_c l G τ oa4 hoa4) hoa4 rv_27 kv_X3_layOut ml_X7_61 ⟨rfl, rfl, Nat.le_of_ble_eq_true rfl, Nat.le_of_ble_eq_true rfl⟩ rfl hl.1 rfl (Nat.le_of_ble_eq_true rfl) ⟨Nat.zero_le _, Nat.zero_le _⟩ dX7_waysWithoutOver_85) (fun H locs hG => ?_)
            refine lv_aload_n hx hb dX7_waysWithoutOver_88 rfl (lv_at hl 0 rfl) ?_
            refine tc_getr E hG t0 fr_X7_12 dX7_waysWithoutOver_89 (fun oa6 hoa6 => ?_)
            refine tc_callp (tc_runV (As := []) (rest := []) E hSt hG (c_X8_overBits_c l G τ oa6 hoa6) hoa6 rv_26 kv_X8_overBits ml_X7_88 ⟨rfl, rfl, Nat.le_of_ble_eq_true rfl, Nat.le_of_ble_eq_true rfl⟩ rfl hl.1 rfl (Nat.le_of_ble_eq_true rfl) ⟨Nat.zero_le _, Nat.zero_le _⟩ dX7_waysWithoutOver_92) (fun r7 pr7 => ?_)
            refine lv_if_ne (tgt := 115) hx hb dX7_waysWithoutOver_95 (by decide) (fun c8 => ?_) (fun c8 => ?_)
            · skip
              have ic8 := tn_ne rfl kI_0 c8
              have y9 := t_any1 r7
              have y10 := t_any2 r7
              exact J115 H locs ls (w3) v5 hG (lv_sub hl [0, 1, 2, 3, 4] rfl) (by omega) (by omega) (by omega)
            · skip
              have ic8 := tn_eq rfl kI_0 c8
              have y11 := t_any1 r7
              have y12 := t_any2 r7
              refine lv_lload_n hx hb dX7_waysWithoutOver_98 rfl (lv_at hl 3 rfl) ?_
              refine lv_iload_n hx hb dX7_waysWithoutOver_99 rfl (lv_at hl 2 rfl) ?_
              refine lv_iconst (v := 1) hx hb dX7_waysWithoutOver_100 (by decide) ?_
              refine lv_isub hx hb dX7_waysWithoutOver_101 ?_
              refine lv_topi (fun z13 ez13 => ?_)
              refine lv_i2l hx hb dX7_waysWithoutOver_102 rfl ?_
              refine lv_topl (fun z14 ez14 => ?_)
              refine lv_iload_n hx hb dX7_waysWithoutOver_103 rfl (lv_at hl 1 rfl) ?_
              refine lv_iload hx hb dX7_waysWithoutOver_104 (lv_at hl 4 rfl) ?_
              refine tc_callp (tc_runS (As := [.int v5]) (rest := [.int x1, .long z14, .long w3]) E hSt hG (c_J6_bitCount_0f7a4 l G τ v5) ks_J6_bitCount_0f7a4 ml_X7_149 ⟨rfl, rfl, Nat.le_of_ble_eq_true rfl, Nat.le_of_ble_eq_true rfl⟩ rfl hl.1 rfl (Nat.le_of_ble_eq_true rfl) ⟨Nat.zero_le _, Nat.zero_le _⟩ dX7_waysWithoutOver_106) (fun r15 pr15 => ?_)
              refine lv_isub hx hb dX7_waysWithoutOver_109 ?_
              refine lv_topi (fun z16 ez16 => ?_)
              refine tc_callpl (tc_runN (As := [.long z14, .int z16]) (rest := [.long w3]) E hSt hG (c_X9_power l G τ z14 z16) ks_X9_power (List.mem_of_getElem? (i := 4) rfl) ⟨rfl, rfl, Nat.le_of_ble_eq_true rfl, Nat.le_of_ble_eq_true rfl⟩ rfl hl.1 rfl (Nat.le_of_ble_eq_true rfl) ⟨Nat.zero_le _, Nat.zero_le _⟩ dX7_waysWithoutOver_110) (fun r17 pr17 => ?_)
              refine lv_ladd hx hb dX7_waysWithoutOver_113 ?_
              refine lv_topl (fun z18 ez18 => ?_)
              refine lv_lstore_n (lv' := [(3, .long z18), (0, .ref h0), (1, .int x1), (2, .int x2), (5, .int v5), (6, .int v6)]) hx hb dX7_waysWithoutOver_114 rfl hl (by decide) rfl (fun ls hl => ?_)
              exact J115 H locs ls (z18) v5 hG (lv_sub hl [1, 2, 3, 0, 4] rfl) (by omega) (by omega) (by omega)
          · skip
            have ic3 := tn_nle rfl rfl c3
            refine lv_iload hx hb dX7_waysWithoutOver_30 (lv_at hl 4 rfl) ?_
            refine lv_iload hx hb dX7_waysWithoutOver_32 (lv_at hl 5 rfl) ?_
            refine lv_iushr hx hb dX7_waysWithoutOver_34 rfl ?_
            refine lv_topi (fun z19 ez19 => ?_)
            refine lv_iconst (v := 1) hx hb dX7_waysWithoutOver_35 (by decide) ?_
            refine lv_iand hx hb dX7_waysWithoutOver_36 ?_
            refine lv_topi (fun z20 ez20 => ?_)
            refine lv_iconst (v := 1) hx hb dX7_waysWithoutOver_37 (by decide) ?_
            refine lv_icmp_ne (tgt := 75) hx hb dX7_waysWithoutOver_38 (by decide) (fun c21 => ?_) (fun c21 => ?_)
            · skip
              have ic21 := tn_ne rfl kI_1 c21
              have y22 := t_any1 z20
              have y23 := t_any2 z20
              exact J75 H locs ls (w3) v5 v6 hG (lv_sub hl [0, 1, 2, 3, 4, 5] rfl) (by omega) (by omega) (by omega) (by omega) (by omega) (by omega) (by omega)
            · skip
              have ic21 := tn_eq rfl kI_1 c21
              have y24 := t_any1 z20
              have y25 := t_any2 z20
              refine lv_aload_n hx hb dX7_waysWithoutOver_41 rfl (lv_at hl 0 rfl) ?_
              refine tc_getr E hG t0 fr_X7_12 dX7_waysWithoutOver_42 (fun oa26 hoa26 => ?_)
              refine lv_aload_n hx hb dX7_waysWithoutOver_45 rfl (lv_at hl 0 rfl) ?_
              refine tc_getr E hG t0 fr_X7_33 dX7_waysWithoutOver_46 (fun oa27 hoa27 => ?_)
              refine lv_iload hx hb dX7_waysWithoutOver_49 (lv_at hl 5 rfl) ?_
              refine tc_iald E hG hoa27 ta_14 (t_in (by omega) (by omega)) dX7_waysWithoutOver_51 (fun z28 lz28 uz28 => ?_)
              refine lv_iconst (v := 0) hx hb dX7_waysWithoutOver_52 (by decide) ?_
              refine lv_iconst (v := 0) hx hb dX7_waysWithoutOver_53 (by decide) ?_
              refine tc_calli hG (tc_runV (As := [.int z28, .int 0, .int 0]) (rest := []) E hSt hG (c_X8_tell_c l G τ oa26 z28 (0 : Int32) (0 : Int32) hoa26 (by omega) (by omega) (by decide) (by decide)) hoa26 rv_26 kv_X8_tell ml_X7_123 ⟨rfl, rfl, Nat.le_of_ble_eq_true rfl, Nat.le_of_ble_eq_true rfl⟩ rfl hl.1 rfl (Nat.le_of_ble_eq_true rfl) ⟨Nat.zero_le _, Nat.zero_le _⟩ dX7_waysWithoutOver_54) (fun r29 H locs pr29 hG => ?_)
              refine lv_pop hx hb dX7_waysWithoutOver_57 rfl ?_
              refine lv_aload_n hx hb dX7_waysWithoutOver_58 rfl (lv_at hl 0 rfl) ?_
              refine tc_getr E hG t0 fr_X7_12 dX7_waysWithoutOver_59 (fun oa30 hoa30 => ?_)
              refine lv_aload_n hx hb dX7_waysWithoutOver_62 rfl (lv_at hl 0 rfl) ?_
              refine tc_getr E hG t0 fr_X7_33 dX7_waysWithoutOver_63 (fun oa31 hoa31 => ?_)
              refine lv_iload hx hb dX7_waysWithoutOver_66 (lv_at hl 5 rfl) ?_
              refine tc_iald E hG hoa31 ta_14 (t_in (by omega) (by omega)) dX7_waysWithoutOver_68 (fun z32 lz32 uz32 => ?_)
              refine lv_iconst (v := 1) hx hb dX7_waysWithoutOver_69 (by decide) ?_
              refine lv_iconst (v := 0) hx hb dX7_waysWithoutOver_70 (by decide) ?_
              refine tc_calli hG (tc_runV (As := [.int z32, .int 1, .int 0]) (rest := []) E hSt hG (c_X8_tell_c l G τ oa30 z32 (1 : Int32) (0 : Int32) hoa30 (by omega) (by omega) (by decide) (by decide)) hoa30 rv_26 kv_X8_tell ml_X7_123 ⟨rfl, rfl, Nat.le_of_ble_eq_true rfl, Nat.le_of_ble_eq_true rfl⟩ rfl hl.1 rfl (Nat.le_of_ble_eq_true rfl) ⟨Nat.zero_le _, Nat.zero_le _⟩ dX7_waysWithoutOver_71) (fun r33 H locs pr33 hG => ?_)
              refine lv_pop hx hb dX7_waysWithoutOver_74 rfl ?_
              exact J75 H locs ls (w3) v5 v6 hG (lv_sub hl [0, 1, 2, 3, 4, 5] rfl) (by omega) (by omega) (by omega) (by omega) (by omega) (by omega) (by omega)
      refine lv_iload hx hb dX7_waysWithoutOver_5 (lv_at hl 4 rfl) ?_
      refine lv_iconst (v := 1) hx hb dX7_waysWithoutOver_7 (by decide) ?_
      refine lv_iload_n hx hb dX7_waysWithoutOver_8 rfl (lv_at hl 1 rfl) ?_
      refine lv_ishl hx hb dX7_waysWithoutOver_9 ?_
      refine lv_topi (fun z34 ez34 => ?_)
      refine lv_icmp_ge (tgt := 121) hx hb dX7_waysWithoutOver_10 (by decide) (fun c35 => ?_) (fun c35 => ?_)
      · skip
        have ic35 := tn_le rfl rfl c35
        have y36 := t_any2 v5
        have y37 := t_any1 z34
        have y38 := t_any2 z34
        refine lv_lload_n hx hb dX7_waysWithoutOver_121 rfl (lv_at hl 3 rfl) ?_
        exact tc_lret E hr hlk hG trivial dX7_waysWithoutOver_122
      · skip
        have ic35 := tn_nle rfl rfl c35
        have y39 := t_any2 v5
        have y40 := t_any1 z34
        have y41 := t_any2 z34
        refine lv_aload_n hx hb dX7_waysWithoutOver_13 rfl (lv_at hl 0 rfl) ?_
        refine lv_aload_n hx hb dX7_waysWithoutOver_14 rfl (lv_at hl 0 rfl) ?_
        refine tc_getr E hG t0 fr_X7_12 dX7_waysWithoutOver_15 (fun oa42 hoa42 => ?_)
        refine tc_callv hG (tc_runV (As := [.ref oa42]) (rest := []) E hSt hG (c_X7_beginAgain l G τ h0 oa42 t0 hoa42) t0 rv_6 kv_X7_beginAgain ml_X7_58 ⟨rfl, rfl, Nat.le_of_ble_eq_true rfl, Nat.le_of_ble_eq_true rfl⟩ rfl hl.1 rfl (Nat.le_of_ble_eq_true rfl) ⟨Nat.zero_le _, Nat.zero_le _⟩ dX7_waysWithoutOver_18) (fun H locs hG => ?_)
        refine lv_iconst (v := 0) hx hb dX7_waysWithoutOver_21 (by decide) ?_
        refine lv_istore (lv' := [(6, .int 0), (0, .ref h0), (1, .int x1), (2, .int x2), (3, .long w3), (5, .int v5)]) hx hb dX7_waysWithoutOver_22 hl (by decide) rfl (fun ls hl => ?_)
        exact J24 ((6 - (0 : Int32).toInt).toNat + 1) H locs ls (w3) v5 (0 : Int32) hG (lv_sub hl [1, 2, 3, 4, 5, 0] rfl) (by omega) (by omega) (by decide) (by decide) (by omega) (Nat.lt_succ_self _)
  refine lv_lconst (v := 0) hx hb dX7_waysWithoutOver_0 (by decide) ?_
  refine lv_lstore_n (lv' := [(3, .long 0), (0, .ref h0), (1, .int x1), (2, .int x2)]) hx hb dX7_waysWithoutOver_1 rfl hl (by decide) rfl (fun ls hl => ?_)
  refine lv_iconst (v := 0) hx hb dX7_waysWithoutOver_2 (by decide) ?_
  refine lv_istore (lv' := [(5, .int 0), (3, .long 0), (0, .ref h0), (1, .int x1), (2, .int x2)]) hx hb dX7_waysWithoutOver_3 hl (by decide) rfl (fun ls hl => ?_)
  exact J5 ((2147483647 - (0 : Int32).toInt).toNat + 1) H locs ls (0) (0 : Int32) hG (lv_sub hl [2, 3, 4, 1, 0] rfl) (by decide) (Nat.lt_succ_self _)

set_option maxHeartbeats 4000000 in
set_option maxRecDepth 100000 in
theorem c_X7_overOfDraws (l : Launch) (G : tG) (τ : Nat → Nat) (h0 : Nat) (x1 : Int32) (t0 : τ h0 = 6) : Met l yX7_overOfDraws (.code yX7_overOfDraws cX7_overOfDraws 4 (some .int) :: tWS) (tRm 1093 15098) (va_Pc [.ref h0, .int x1] (tPre G τ)) (tQi G τ (fun r => True)) 0 0 (tA τ) := by
  refine tc_met (by decide) (Nat.le_of_ble_eq_true rfl) ?_
  intro p e s m below meth c E hSt hr hlk hG ls hl
  have hl : lv_has ls 4 [(0, .ref h0), (1, .int x1)] := hl
  have hx := E.1
  have hb := E.2.1
  obtain ⟨H, eH⟩ : ∃ H, H = s.heap := ⟨_, rfl⟩
  obtain ⟨locs, eL⟩ : ∃ x : List Loc, x = [] := ⟨_, rfl⟩
  have hG : tGH G τ s H locs := by rw [eH, eL]; exact hG
  suffices hW : W p l e (tRm 1093 15098) s m ([.ref h0, .int x1] : List Value).toArray below meth c H locs 0 0 (MQ below (tQi G τ (fun r => True)) ([.ref h0, .int x1] : List Value).toArray s 0 0 (tA τ)) (F0 m 0 ls []) by subst eH; subst eL; exact hW
  clear eH eL
  have J4 : ∀ (n4 : Nat) (H : Heap) (locs : List Loc) (ls : Array Slot) (v2 : Int32) (v3 : Int32), tGH G τ s H locs → lv_has ls 4 [(0, .ref h0), (1, .int x1), (2, .int v2), (3, .int v3)] → 0 ≤ v3.toInt → (2147483647 - v3.toInt).toNat < n4 → W p l e (tRm 1093 15098) s m ([.ref h0, .int x1] : List Value).toArray below meth c H locs 0 0 (MQ below (tQi G τ (fun r => True)) ([.ref h0, .int x1] : List Value).toArray s 0 0 (tA τ)) (F0 m 4 ls []) := by
    intro n4
    induction n4 with
    | zero => intro H locs ls v2 v3 hG hl b3 hn4; exact absurd hn4 (Nat.not_lt_zero _)
    | succ n4 ih4 =>
      intro H locs ls v2 v3 hG hl b3 hn4
      refine lv_iload_n hx hb dX7_overOfDraws_4 rfl (lv_at hl 3 rfl) ?_
      refine lv_iload_n hx hb dX7_overOfDraws_5 rfl (lv_at hl 1 rfl) ?_
      refine lv_icmp_ge (tgt := 45) hx hb dX7_overOfDraws_6 (by decide) (fun c1 => ?_) (fun c1 => ?_)
      · skip
        have ic1 := tn_le rfl rfl c1
        have y2 := t_any2 v3
        have y3 := t_any1 x1
        have y4 := t_any2 x1
        refine lv_iload_n hx hb dX7_overOfDraws_45 rfl (lv_at hl 2 rfl) ?_
        exact tc_iret E hr hlk hG trivial dX7_overOfDraws_46
      · skip
        have ic1 := tn_nle rfl rfl c1
        have y5 := t_any2 v3
        have y6 := t_any1 x1
        have y7 := t_any2 x1
        refine lv_aload_n hx hb dX7_overOfDraws_9 rfl (lv_at hl 0 rfl) ?_
        refine lv_aload_n hx hb dX7_overOfDraws_10 rfl (lv_at hl 0 rfl) ?_
        refine tc_getr E hG t0 fr_X7_37 dX7_overOfDraws_11 (fun oa8 hoa8 => ?_)
        refine lv_bipush (v := 101) hx hb dX7_overOfDraws_14 (by decide) ?_
        refine tc_calli hG (tc_runV (As := [.int 101]) (rest := [.ref h0]) E hSt hG (c_X8_draw l G τ oa8 (101 : Int32) hoa8) hoa8 rv_2 kv_X8_draw ml_X7_159 ⟨rfl, rfl, Nat.le_of_ble_eq_true rfl, Nat.le_of_ble_eq_true rfl⟩ rfl hl.1 rfl (Nat.le_of_ble_eq_true rfl) ⟨Nat.zero_le _, Nat.zero_le _⟩ dX7_overOfDraws_16) (fun r9 H locs pr9 hG => ?_)
        refine lv_aload_n hx hb dX7_overOfDraws_19 rfl (lv_at hl 0 rfl) ?_
        refine tc_getr E hG t0 fr_X7_37 dX7_overOfDraws_20 (fun oa10 hoa10 => ?_)
        refine tc_geti E hG hoa10 fi_X7_82 dX7_overOfDraws_23 (fun z11 lz11 uz11 => ?_)
        refine tc_callv hG (tc_runV (As := [.int r9, .int z11]) (rest := []) E hSt hG (c_X7_tryScreen l G τ h0 r9 z11 t0) t0 rv_6 kv_X7_tryScreen ml_X7_85 ⟨rfl, rfl, Nat.le_of_ble_eq_true rfl, Nat.le_of_ble_eq_true rfl⟩ rfl hl.1 rfl (Nat.le_of_ble_eq_true rfl) ⟨Nat.zero_le _, Nat.zero_le _⟩ dX7_overOfDraws_26) (fun H locs hG => ?_)
        refine lv_iload_n hx hb dX7_overOfDraws_29 rfl (lv_at hl 2 rfl) ?_
        refine lv_aload_n hx hb dX7_overOfDraws_30 rfl (lv_at hl 0 rfl) ?_
        refine tc_getr E hG t0 fr_X7_12 dX7_overOfDraws_31 (fun oa13 hoa13 => ?_)
        refine tc_callp (tc_runV (As := []) (rest := [.int v2]) E hSt hG (c_X8_overTogether l G τ oa13 hoa13) hoa13 rv_26 kv_X8_overTogether ml_X7_162 ⟨rfl, rfl, Nat.le_of_ble_eq_true rfl, Nat.le_of_ble_eq_true rfl⟩ rfl hl.1 rfl (Nat.le_of_ble_eq_true rfl) ⟨Nat.zero_le _, Nat.zero_le _⟩ dX7_overOfDraws_34) (fun r14 pr14 => ?_)
        refine lv_iadd hx hb dX7_overOfDraws_37 ?_
        refine lv_topi (fun z15 ez15 => ?_)
        refine lv_istore_n (lv' := [(2, .int z15), (0, .ref h0), (1, .int x1), (3, .int v3)]) hx hb dX7_overOfDraws_38 rfl hl (by decide) rfl (fun ls hl => ?_)
        obtain ⟨z16, ez16⟩ : ∃ y : Int32, y = v3 + (1) := ⟨_, rfl⟩
        refine lv_iinc (v := z16) (lv' := [(3, .int z16), (2, .int z15), (0, .ref h0), (1, .int x1)]) hx hb dX7_overOfDraws_39 hl (k := 3) rfl (by rw [ez16]; rfl) (by decide) rfl (fun ls hl => ?_)
        have tz16 := tn_add ez16 rfl kI_1 (by omega) (by omega)
        refine lv_goto (tgt := 4) hx hb dX7_overOfDraws_42 (by decide) ?_
        exact ih4 H locs ls z15 z16 hG (lv_sub hl [2, 3, 1, 0] rfl) (by omega) (by omega)
  refine lv_iconst (v := 0) hx hb dX7_overOfDraws_0 (by decide) ?_
  refine lv_istore_n (lv' := [(2, .int 0), (0, .ref h0), (1, .int x1)]) hx hb dX7_overOfDraws_1 rfl hl (by decide) rfl (fun ls hl => ?_)
  refine lv_iconst (v := 0) hx hb dX7_overOfDraws_2 (by decide) ?_
  refine lv_istore_n (lv' := [(3, .int 0), (2, .int 0), (0, .ref h0), (1, .int x1)]) hx hb dX7_overOfDraws_3 rfl hl (by decide) rfl (fun ls hl => ?_)
  exact J4 ((2147483647 - (0 : Int32).toInt).toNat + 1) H locs ls (0 : Int32) (0 : Int32) hG (lv_sub hl [2, 3, 1, 0] rfl) (by decide) (Nat.lt_succ_self _)
