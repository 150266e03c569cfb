/-- i numbers of a BOX of kind kd are read from p0 on: they end at p -/
def RO (L : Nat → Int) (len kd p0 : Int) : Nat → Int → (Nat → Int) → Prop
  | 0, p, _ => p = p0
  | i + 1, p, row => ∃ p1, RO L len kd p0 i p1 row ∧ nx L len p1 = 32 ∧ fg L len (p1 + 1) ∧ RN L len (p1 + 1) (row i) p ∧ okN kd i (row i) ∧ ¬ (kd = 3 ∧ (i : Int) % 2 = 1 ∧ row i < row (i - 1))
/-- the numbers are at fault, at q -/
def RF (L : Nat → Int) (len kd p0 q : Int) : Prop := ∃ (i : Nat) (p1 : Int) (row : Nat → Int), (i : Int) < nNum kd ∧ RO L len kd p0 i p1 row ∧ ((¬ nx L len p1 = 32 ∧ q = p1) ∨ (nx L len p1 = 32 ∧ ¬ fg L len (p1 + 1) ∧ q = p1 + 1) ∨ (nx L len p1 = 32 ∧ fg L len (p1 + 1) ∧ q = p1 + 1 ∧ ∃ v e, RN L len (p1 + 1) v e ∧ ¬ (okN kd i v ∧ ¬ (kd = 3 ∧ (i : Int) % 2 = 1 ∧ v < row (i - 1)))))
theorem RO_row {L : Nat → Int} {len kd p0 : Int} {row row' : Nat → Int} : ∀ (i : Nat) (p : Int), (∀ j, j < i → row' j = row j) → RO L len kd p0 i p row → RO L len kd p0 i p row'
  | 0, _, _, h => h
  | i + 1, p, e, ⟨p1, h1, h2, h3, h4, h5, h6⟩ => by
    refine ⟨p1, RO_row i p1 (fun j hj => e j (by omega)) h1, h2, h3, ?_, ?_, ?_⟩
    · rw [e i (by omega)]; exact h4
    · rw [e i (by omega)]; exact h5
    · rw [e i (by omega)]
      by_cases z : i = 0
      · subst z
        exact fun q => absurd q.2.1 (by decide)
      · rw [e (i - 1) (by omega)]; exact h6
def upn (f : Nat → Int32) (i : Nat) (v : Int32) : Nat → Int32 := fun j => if j = i then v else f j
theorem up2_row {F : mF} {c d n i : Nat} {f : Nat → Int32} {v q : Int32} (h : ¬ c = d) (hi : i < n) : up2 (up2 (upR F c 0 n f) d 9 q) c i v = up2 (upR F c 0 n (upn f i v)) d 9 q := funext fun c9 => funext fun k9 => by
  unfold up2 upR upn
  by_cases e1 : c9 = d ∧ k9 = 9
  · rw [if_neg (fun z => h (z.1.symm.trans e1.1)), if_pos e1, if_pos e1]
  · rw [if_neg e1, if_neg e1]
    by_cases e2 : c9 = c ∧ k9 = i
    · rw [if_pos e2, if_pos (by omega), if_pos e2.2]
    · rw [if_neg e2]
      by_cases e3 : c9 = c ∧ 0 ≤ k9 ∧ k9 < 0 + n
      · rw [if_pos e3, if_pos e3, if_neg (fun z => e2 ⟨e3.1, z⟩)]
      · rw [if_neg e3, if_neg e3]

theorem up2_sfR {F : mF} {c d lo n j : Nat} {f : Nat → Int32} (h : ¬ c = d) : up2 (upR F c lo n f) d j (F d j) = upR F c lo n f := funext fun c9 => funext fun k9 => by
  unfold up2 upR
  by_cases e1 : c9 = d ∧ k9 = j
  · rw [if_pos e1, if_neg (fun z => h (z.1.symm.trans e1.1)), e1.1, e1.2]
  · rw [if_neg e1]

set_option maxHeartbeats 4000000 in
set_option maxRecDepth 100000 in
theorem x_X5_readNumbers (l : Launch) (G : tG) (F : mF) (τ : Nat → Nat) (h0 : Nat) (x1 : Int32) (t0 : τ h0 = 7) (l1 : 0 ≤ x1.toInt) (u1 : x1.toInt ≤ 23) (hL : τ (G.2.2.1 16) = 18) (h9 : G.2.2.1 9 = 1) (hLr : G.2.2.1 16 < h0 ∨ h0 + 30 ≤ G.2.2.1 16) (h7 : (F h0 7).toInt ≤ 120) : Met l yX5_readNumbers (.code yX5_readNumbers cX5_readNumbers 6 (some .boolean) :: tWS) (tRm 3 63) (va_Pc [.ref h0, .int x1] (tPre (gF G F) τ)) (tQF G τ (fun r F9 => ∃ (f : Nat → Int32) (q : Int32), F9 = up2 (upR F (h0 + 5 + (1 + x1.toNatClampNeg)) 0 4 f) h0 9 q ∧ ((r.toInt = 1 ∧ RO (LF F (G.2.2.1 16)) (F h0 7).toInt (F (h0 + 1) x1.toNatClampNeg).toInt (F h0 9).toInt (nNum (F (h0 + 1) x1.toNatClampNeg).toInt).toNat q.toInt (fun j => (f j).toInt)) ∨ (r.toInt = 0 ∧ RF (LF F (G.2.2.1 16)) (F h0 7).toInt (F (h0 + 1) x1.toNatClampNeg).toInt (F h0 9).toInt q.toInt)))) 0 0 (tA τ) := by
  refine tc_met (by decide) (Nat.le_of_ble_eq_true rfl) ?_
  intro p e s m below meth c E hSt hr hlk hG ls hl
  have hl : lv_has ls 6 [(0, .ref h0), (1, .int x1)] := hl
  have hx := E.1
  have hb := E.2.1
  obtain ⟨H, eH⟩ : ∃ H, H = s.heap := ⟨_, rfl⟩
  obtain ⟨locs, eL⟩ : ∃ x : List Loc, x = [] := ⟨_, rfl⟩
  have hG : tGH (gF G F) τ s H locs := by rw [eH, eL]; exact hG
  suffices hW : W p l e (tRm 3 63) s m ([.ref h0, .int x1] : List Value).toArray below meth c H locs 0 0 (MQ below (tQF G τ (fun r F9 => ∃ (f : Nat → Int32) (q : Int32), F9 = up2 (upR F (h0 + 5 + (1 + x1.toNatClampNeg)) 0 4 f) h0 9 q ∧ ((r.toInt = 1 ∧ RO (LF F (G.2.2.1 16)) (F h0 7).toInt (F (h0 + 1) x1.toNatClampNeg).toInt (F h0 9).toInt (nNum (F (h0 + 1) x1.toNatClampNeg).toInt).toNat q.toInt (fun j => (f j).toInt)) ∨ (r.toInt = 0 ∧ RF (LF F (G.2.2.1 16)) (F h0 7).toInt (F (h0 + 1) x1.toNatClampNeg).toInt (F h0 9).toInt q.toInt)))) ([.ref h0, .int x1] : List Value).toArray s 0 0 (tA τ)) (F0 m 0 ls []) by subst eH; subst eL; exact hW
  clear eH eL
  have nx1 : x1.toNatClampNeg = x1.toInt.toNat := rfl
  have J14 : ∀ (n14 : Nat) (Fc : mF) (H : Heap) (locs : List Loc) (ls : Array Slot) (a2 : Nat) (v3 : Int32), tGH (gF G Fc) τ s H locs → lv_has ls 6 [(0, .ref h0), (1, .int x1), (2, .ref a2), (3, .int v3)] → τ a2 = 11 → 0 ≤ v3.toInt → v3.toInt ≤ 4 → (a2 = (h0 + 5 + (1 + x1.toNatClampNeg)) ∧ ∃ (f : Nat → Int32) (q : Int32), Fc = up2 (upR F (h0 + 5 + (1 + x1.toNatClampNeg)) 0 4 f) h0 9 q ∧ v3.toInt ≤ nNum (F (h0 + 1) x1.toNatClampNeg).toInt ∧ RO (LF F (G.2.2.1 16)) (F h0 7).toInt (F (h0 + 1) x1.toNatClampNeg).toInt (F h0 9).toInt v3.toInt.toNat q.toInt (fun j => (f j).toInt)) → (4 - v3.toInt).toNat < n14 → W p l e (tRm 3 63) s m ([.ref h0, .int x1] : List Value).toArray below meth c H locs 0 0 (MQ below (tQF G τ (fun r F9 => ∃ (f : Nat → Int32) (q : Int32), F9 = up2 (upR F (h0 + 5 + (1 + x1.toNatClampNeg)) 0 4 f) h0 9 q ∧ ((r.toInt = 1 ∧ RO (LF F (G.2.2.1 16)) (F h0 7).toInt (F (h0 + 1) x1.toNatClampNeg).toInt (F h0 9).toInt (nNum (F (h0 + 1) x1.toNatClampNeg).toInt).toNat q.toInt (fun j => (f j).toInt)) ∨ (r.toInt = 0 ∧ RF (LF F (G.2.2.1 16)) (F h0 7).toInt (F (h0 + 1) x1.toNatClampNeg).toInt (F h0 9).toInt q.toInt)))) ([.ref h0, .int x1] : List Value).toArray s 0 0 (tA τ)) (F0 m 14 ls []) := by
    intro n14
    induction n14 with
    | zero => intro Fc H locs ls a2 v3 hG hl e2 b3 c3 hex14 hn14; exact absurd hn14 (Nat.not_lt_zero _)
    | succ n14 ih14 =>
      intro Fc H locs ls a2 v3 hG hl e2 b3 c3 hex14 hn14
      have E := E.f1 (F' := Fc)
      have hSt := hSt.f1 (F' := Fc)
      obtain ⟨rfl, f, q, eFc, hn3, hRO⟩ := hex14
      obtain ⟨F9, eF9⟩ : ∃ Z : mF, Z = upR F (h0 + 5 + (1 + x1.toNatClampNeg)) 0 4 f := ⟨_, rfl⟩
      rw [← eF9] at eFc
      have nv3 : v3.toNatClampNeg = v3.toInt.toNat := rfl
      refine lv_iload_n hx hb dX5_readNumbers_14 rfl (lv_at hl 3 rfl) ?_
      refine lv_aload_n hx hb dX5_readNumbers_15 rfl (lv_at hl 0 rfl) ?_
      refine tc_getrF (d := 1) E hG t0 fr_X5_9 rfl dX5_readNumbers_16 (fun ha1 => ?_)
      refine lv_iload_n hx hb dX5_readNumbers_19 rfl (lv_at hl 1 rfl) ?_
      refine tc_ialdF E hG ha1 ta_15 rfl (t_in (by omega) (by omega)) dX5_readNumbers_20 (fun z2 lz2 uz2 wz2 => ?_)
      replace wz2 : z2 = Fc (h0 + 1) x1.toNatClampNeg := wz2
      have nn3 : x1.toNatClampNeg = x1.toInt.toNat := rfl
      replace wz2 : z2 = F (h0 + 1) x1.toNatClampNeg := by rw [wz2, eFc, up2_ne (by omega), eF9, upR_ne (by omega)]
      have cz2 : z2.toInt = (F (h0 + 1) x1.toNatClampNeg).toInt := by rw [wz2]
      refine tc_callp (tc_runS (As := [.int z2]) (rest := [.int v3]) E hSt hG (x_X1_numbersOf l (gF G Fc) τ z2) ks_X1_numbersOf ml_X5_112 ⟨rfl, rfl, Nat.le_of_ble_eq_true rfl, Nat.le_of_ble_eq_true rfl⟩ rfl hl.1 rfl (Nat.le_of_ble_eq_true rfl) ⟨Nat.zero_le _, Nat.zero_le _⟩ dX5_readNumbers_21) (fun r4 pr4 => ?_)
      have pr4 : r4.toInt = nNum z2.toInt ∧ (0 ≤ r4.toInt ∧ r4.toInt ≤ 4) ∧ (r4.toInt = 0 ∨ (0 ≤ z2.toInt ∧ z2.toInt ≤ 9)) := pr4
      rw [cz2] at pr4
      refine lv_icmp_ge (tgt := 128) hx hb dX5_readNumbers_24 (by decide) (fun c5 => ?_) (fun c5 => ?_)
      · skip
        have ic5 := tn_le rfl rfl c5
        refine lv_iconst (v := 1) hx hb dX5_readNumbers_128 (by decide) ?_
        exact tc_iretF E hr hlk hG (t_nz (by decide) (by decide)).1 ⟨f, q, (by rw [eFc, eF9]), Or.inl ⟨by decide, (by rw [show (nNum (F (h0 + 1) x1.toNatClampNeg).toInt).toNat = v3.toInt.toNat by omega]; exact hRO)⟩⟩ dX5_readNumbers_129
      · skip
        have ic5 := tn_nle rfl rfl c5
        refine lv_aload_n hx hb dX5_readNumbers_27 rfl (lv_at hl 0 rfl) ?_
        refine lv_bipush (v := 32) hx hb dX5_readNumbers_28 (by decide) ?_
        refine tc_calliF hG (tc_runV (As := [.int 32]) (rest := []) E hSt hG (x_X5_passed l G Fc τ h0 (32 : Int32) t0 (by decide) (by decide) hL h9 hLr (by rw [eFc, up2_ne (by omega), eF9, upR_ne (by omega)]; exact h7)) t0 rv_7 kv_X5_passed ml_X5_68 ⟨rfl, rfl, Nat.le_of_ble_eq_true rfl, Nat.le_of_ble_eq_true rfl⟩ rfl hl.1 rfl (Nat.le_of_ble_eq_true rfl) ⟨Nat.zero_le _, Nat.zero_le _⟩ dX5_readNumbers_30) (fun r6 F7 H locs pr6 hG => ?_)
        have E := E.f1 (F' := F7)
        have hSt := hSt.f1 (F' := F7)
        replace pr6 : (r6.toInt = 1 ∧ nx (LF Fc (G.2.2.1 16)) (Fc h0 7).toInt (Fc h0 9).toInt = (32 : Int32).toInt ∧ (Fc h0 9).toInt < (Fc h0 7).toInt ∧ F7 = up2 Fc h0 9 (Fc h0 9 + 1)) ∨ (r6.toInt = 0 ∧ ¬ nx (LF Fc (G.2.2.1 16)) (Fc h0 7).toInt (Fc h0 9).toInt = (32 : Int32).toInt ∧ F7 = Fc) := pr6
        have k8 := kI_32
        refine lv_if_eq (tgt := 43) hx hb dX5_readNumbers_33 (by decide) (fun c9 => ?_) (fun c9 => ?_)
        · skip
          have ic9 := tn_eq rfl kI_0 c9
          rw [show LF Fc (G.2.2.1 16) = LF F (G.2.2.1 16) from (by rw [eFc, LF_up (by omega), eF9, LF_upR (by omega)]), show Fc h0 7 = (F h0 7) from (by rw [eFc, up2_ne (by omega), eF9, upR_ne (by omega)]), show Fc h0 9 = q from (by rw [eFc, up2_at])] at pr6
          obtain ⟨fr6, eF7⟩ : ¬ nx (LF F (G.2.2.1 16)) (F h0 7).toInt q.toInt = (32 : Int32).toInt ∧ F7 = Fc := by rcases pr6 with ⟨q9, _⟩ | ⟨_, a9, q9⟩; (exfalso; omega); exact ⟨a9, q9⟩
          rw [eF7] at hG
          have E := E.f1 (F' := Fc)
          have hSt := hSt.f1 (F' := Fc)
          refine lv_iconst (v := 0) hx hb dX5_readNumbers_43 (by decide) ?_
          exact tc_iretF E hr hlk hG (t_nz (by decide) (by decide)).1 ⟨f, q, (by rw [eFc, eF9]), Or.inr ⟨by decide, v3.toInt.toNat, q.toInt, (fun j => (f j).toInt), by omega, hRO, Or.inl ⟨(by have k32 := kI_32; omega), rfl⟩⟩⟩ dX5_readNumbers_44
        · skip
          have ic9 := tn_ne rfl kI_0 c9
          rw [show LF Fc (G.2.2.1 16) = LF F (G.2.2.1 16) from (by rw [eFc, LF_up (by omega), eF9, LF_upR (by omega)]), show Fc h0 7 = (F h0 7) from (by rw [eFc, up2_ne (by omega), eF9, upR_ne (by omega)]), show Fc h0 9 = q from (by rw [eFc, up2_at])] at pr6
          obtain ⟨fr6, gr6, eF7⟩ : nx (LF F (G.2.2.1 16)) (F h0 7).toInt q.toInt = (32 : Int32).toInt ∧ q.toInt < (F h0 7).toInt ∧ F7 = up2 Fc h0 9 (q + 1) := by rcases pr6 with ⟨_, a9, b9, q9⟩ | ⟨q9, _⟩; exact ⟨a9, b9, q9⟩; exfalso; omega
          obtain ⟨z10, ez10⟩ : ∃ y : Int32, y = q + 1 := ⟨_, rfl⟩
          rw [← ez10] at eF7
          have az10 := t_any1 q
          have tz10 := tn_add ez10 rfl kI_1 (by omega) (by omega)
          refine lv_aload_n hx hb dX5_readNumbers_36 rfl (lv_at hl 0 rfl) ?_
          refine tc_callp (tc_runV (As := []) (rest := []) E hSt hG (x_X5_nextIsFigure l (gF G F7) τ h0 t0 hL h9 hLr) t0 rv_7 kv_X5_nextIsFigure ml_X5_115 ⟨rfl, rfl, Nat.le_of_ble_eq_true rfl, Nat.le_of_ble_eq_true rfl⟩ rfl hl.1 rfl (Nat.le_of_ble_eq_true rfl) ⟨Nat.zero_le _, Nat.zero_le _⟩ dX5_readNumbers_37) (fun r11 pr11 => ?_)
          have pr11 : (r11.toInt = 1 ∧ (48 ≤ nx (LF F7 (G.2.2.1 16)) (F7 h0 7).toInt (F7 h0 9).toInt ∧ nx (LF F7 (G.2.2.1 16)) (F7 h0 7).toInt (F7 h0 9).toInt ≤ 57)) ∨ (r11.toInt = 0 ∧ ¬ (48 ≤ nx (LF F7 (G.2.2.1 16)) (F7 h0 7).toInt (F7 h0 9).toInt ∧ nx (LF F7 (G.2.2.1 16)) (F7 h0 7).toInt (F7 h0 9).toInt ≤ 57)) := pr11
          rw [show LF F7 (G.2.2.1 16) = LF F (G.2.2.1 16) from (by rw [eF7, LF_up (by omega), eFc, LF_up (by omega), eF9, LF_upR (by omega)]), show F7 h0 7 = (F h0 7) from (by rw [eF7, up2_ne (by omega), eFc, up2_ne (by omega), eF9, upR_ne (by omega)]), show F7 h0 9 = z10 from (by rw [eF7, up2_at])] at pr11
          refine lv_if_ne (tgt := 45) hx hb dX5_readNumbers_40 (by decide) (fun c12 => ?_) (fun c12 => ?_)
          · skip
            have ic12 := tn_ne rfl kI_0 c12
            refine lv_aload_n hx hb dX5_readNumbers_45 rfl (lv_at hl 0 rfl) ?_
            refine tc_getF E hG t0 fi_X5_46 rfl dX5_readNumbers_46 (fun z13 lz13 uz13 wz13 => ?_)
            replace wz13 : z13 = F7 h0 9 := wz13
            replace wz13 : z13 = z10 := by rw [wz13, eF7, up2_at]
            have cz13 : z13.toInt = (z10).toInt := by rw [wz13]
            refine lv_istore (lv' := [(4, .int z13), (0, .ref h0), (1, .int x1), (2, .ref (h0 + 5 + (1 + x1.toNatClampNeg))), (3, .int v3)]) hx hb dX5_readNumbers_49 hl (by decide) rfl (fun ls hl => ?_)
            refine lv_aload_n hx hb dX5_readNumbers_51 rfl (lv_at hl 3 rfl) ?_
            refine lv_iload_n hx hb dX5_readNumbers_52 rfl (lv_at hl 4 rfl) ?_
            refine lv_aload_n hx hb dX5_readNumbers_53 rfl (lv_at hl 1 rfl) ?_
            refine tc_calliF hG (tc_runV (As := []) (rest := [.int v3, .ref (h0 + 5 + (1 + x1.toNatClampNeg))]) E hSt hG (x_X5_readNumber l G F7 τ h0 t0 hL h9 hLr (by rw [eF7, up2_ne (by omega), eFc, up2_ne (by omega), eF9, upR_ne (by omega)]; exact h7)) t0 rv_7 kv_X5_readNumber ml_X5_119 ⟨rfl, rfl, Nat.le_of_ble_eq_true rfl, Nat.le_of_ble_eq_true rfl⟩ rfl hl.1 rfl (Nat.le_of_ble_eq_true rfl) ⟨Nat.zero_le _, Nat.zero_le _⟩ dX5_readNumbers_54) (fun r14 F15 H locs pr14 hG => ?_)
            have E := E.f1 (F' := F15)
            have hSt := hSt.f1 (F' := F15)
            replace pr14 : ∃ q : Int32, F15 = up2 F7 h0 9 q ∧ RN (LF F7 (G.2.2.1 16)) (F7 h0 7).toInt (F7 h0 9).toInt r14.toInt q.toInt := pr14
            obtain ⟨qr14, eF15, nr14⟩ := pr14
            rw [show LF F7 (G.2.2.1 16) = LF F (G.2.2.1 16) from (by rw [eF7, LF_up (by omega), eFc, LF_up (by omega), eF9, LF_upR (by omega)]), show F7 h0 7 = (F h0 7) from (by rw [eF7, up2_ne (by omega), eFc, up2_ne (by omega), eF9, upR_ne (by omega)]), show F7 h0 9 = z10 from (by rw [eF7, up2_at])] at nr14
            refine tc_iastF E hG e2 ta_11 (t_in (by omega) (by omega)) (t_any1 _) (t_any2 _) dX5_readNumbers_57 (fun H locs hG => ?_)
            obtain ⟨F16, eF16⟩ : ∃ Z : mF, Z = up2 F15 (h0 + 5 + (1 + x1.toNatClampNeg)) v3.toNatClampNeg r14 := ⟨_, rfl⟩
            replace hG : tGH (gF G F16) τ s H locs := by rw [eF16]; exact hG
            have E := E.f1 (F' := F16)
            have hSt := hSt.f1 (F' := F16)
            refine lv_aload_n hx hb dX5_readNumbers_58 rfl (lv_at hl 1 rfl) ?_
            refine tc_getrF (d := 1) E hG t0 fr_X5_9 rfl dX5_readNumbers_59 (fun ha17 => ?_)
            refine lv_iload_n hx hb dX5_readNumbers_62 rfl (lv_at hl 2 rfl) ?_
            refine tc_ialdF E hG ha17 ta_15 rfl (t_in (by omega) (by omega)) dX5_readNumbers_63 (fun z18 lz18 uz18 wz18 => ?_)
            replace wz18 : z18 = F16 (h0 + 1) x1.toNatClampNeg := wz18
            have nn19 : x1.toNatClampNeg = x1.toInt.toNat := rfl
            replace wz18 : z18 = F (h0 + 1) x1.toNatClampNeg := by rw [wz18, eF16, up2_ne (by omega), eF15, up2_ne (by omega), eF7, up2_ne (by omega), eFc, up2_ne (by omega), eF9, upR_ne (by omega)]
            have cz18 : z18.toInt = (F (h0 + 1) x1.toNatClampNeg).toInt := by rw [wz18]
            refine lv_iconst (v := 3) hx hb dX5_readNumbers_64 (by decide) ?_
            refine lv_icmp_ne (tgt := 90) hx hb dX5_readNumbers_65 (by decide) (fun c20 => ?_) (fun c20 => ?_)
            · skip
              have ic20 := tn_ne rfl kI_3 c20
              refine lv_iconst (v := 0) hx hb dX5_readNumbers_90 (by decide) ?_
              refine lv_istore (lv' := [(5, .int 0), (4, .int z13), (0, .ref h0), (1, .int x1), (2, .ref (h0 + 5 + (1 + x1.toNatClampNeg))), (3, .int v3)]) hx hb dX5_readNumbers_91 hl (by decide) rfl (fun ls hl => ?_)
              refine lv_iload hx hb dX5_readNumbers_93 (lv_at hl 0 rfl) ?_
              refine lv_if_ne (tgt := 114) hx hb dX5_readNumbers_95 (by decide) (fun c21 => ?_) (fun c21 => ?_)
              · exfalso
                have ic21 := tn_ne kI_0 kI_0 c21
                omega
              · skip
                have ic21 := tn_eq kI_0 kI_0 c21
                refine lv_aload_n hx hb dX5_readNumbers_98 rfl (lv_at hl 2 rfl) ?_
                refine tc_getrF (d := 1) E hG t0 fr_X5_9 rfl dX5_readNumbers_99 (fun ha22 => ?_)
                refine lv_iload_n hx hb dX5_readNumbers_102 rfl (lv_at hl 3 rfl) ?_
                refine tc_ialdF E hG ha22 ta_15 rfl (t_in (by omega) (by omega)) dX5_readNumbers_103 (fun z23 lz23 uz23 wz23 => ?_)
                replace wz23 : z23 = F16 (h0 + 1) x1.toNatClampNeg := wz23
                have nn24 : x1.toNatClampNeg = x1.toInt.toNat := rfl
                replace wz23 : z23 = F (h0 + 1) x1.toNatClampNeg := by rw [wz23, eF16, up2_ne (by omega), eF15, up2_ne (by omega), eF7, up2_ne (by omega), eFc, up2_ne (by omega), eF9, upR_ne (by omega)]
                have cz23 : z23.toInt = (F (h0 + 1) x1.toNatClampNeg).toInt := by rw [wz23]
                refine lv_iload_n hx hb dX5_readNumbers_104 rfl (lv_at hl 5 rfl) ?_
                refine lv_aload_n hx hb dX5_readNumbers_105 rfl (lv_at hl 4 rfl) ?_
                refine lv_iload_n hx hb dX5_readNumbers_106 rfl (lv_at hl 5 rfl) ?_
                refine tc_ialdF E hG e2 ta_11 rfl (t_in (by omega) (by omega)) dX5_readNumbers_107 (fun z25 lz25 uz25 wz25 => ?_)
                replace wz25 : z25 = F16 (h0 + 5 + (1 + x1.toNatClampNeg)) v3.toNatClampNeg := wz25
                have nn26 : v3.toNatClampNeg = v3.toInt.toNat := rfl
                replace wz25 : z25 = r14 := by rw [wz25, eF16, up2_at]
                have cz25 : z25.toInt = (r14).toInt := by rw [wz25]
                refine tc_callp (tc_runS (As := [.int z23, .int v3, .int z25]) (rest := []) E hSt hG (x_X1_isInRange l (gF G F16) τ z23 v3 z25) ks_X1_isInRange ml_X5_122 ⟨rfl, rfl, Nat.le_of_ble_eq_true rfl, Nat.le_of_ble_eq_true rfl⟩ rfl hl.1 rfl (Nat.le_of_ble_eq_true rfl) ⟨Nat.zero_le _, Nat.zero_le _⟩ dX5_readNumbers_108) (fun r27 pr27 => ?_)
                have pr27 : ((r27.toInt = 1 ∧ ((0 ≤ v3.toInt ∧ v3.toInt < nNum z23.toInt ∧ nLow z23.toInt ≤ z25.toInt ∧ ((v3.toInt % 2 = 0 ∧ z25.toInt ≤ nHA z23.toInt) ∨ (v3.toInt % 2 = 1 ∧ z25.toInt ≤ nHB z23.toInt))))) ∨ (r27.toInt = 0 ∧ ¬ ((0 ≤ v3.toInt ∧ v3.toInt < nNum z23.toInt ∧ nLow z23.toInt ≤ z25.toInt ∧ ((v3.toInt % 2 = 0 ∧ z25.toInt ≤ nHA z23.toInt) ∨ (v3.toInt % 2 = 1 ∧ z25.toInt ≤ nHB z23.toInt)))))) ∧ (r27.toInt = 0 ∨ (0 ≤ v3.toInt ∧ v3.toInt ≤ 3)) := pr27
                refine lv_if_ne (tgt := 122) hx hb dX5_readNumbers_111 (by decide) (fun c28 => ?_) (fun c28 => ?_)
                · skip
                  have ic28 := tn_ne rfl kI_0 c28
                  obtain ⟨z29, ez29⟩ : ∃ y : Int32, y = v3 + (1) := ⟨_, rfl⟩
                  refine lv_iinc (v := z29) (lv' := [(3, .int z29), (5, .int 0), (4, .int z13), (0, .ref h0), (1, .int x1), (2, .ref (h0 + 5 + (1 + x1.toNatClampNeg)))]) hx hb dX5_readNumbers_122 hl (k := 5) rfl (by rw [ez29]; rfl) (by decide) rfl (fun ls hl => ?_)
                  have tz29 := tn_add ez29 rfl kI_1 (by omega) (by omega)
                  refine lv_goto (tgt := 14) hx hb dX5_readNumbers_125 (by decide) ?_
                  exact ih14 F16 H locs ls ((h0 + 5 + (1 + x1.toNatClampNeg))) z29 hG (lv_sub hl [3, 4, 5, 0] rfl) e2 (by omega) (by omega) (by have ev : (upn f v3.toNatClampNeg r14) v3.toInt.toNat = r14 := (by unfold upn; exact if_pos rfl); refine ⟨rfl, upn f v3.toNatClampNeg r14, qr14, (by rw [eF16, eF15, eF7, eFc, eF9, up2_up2, up2_up2]; exact up2_row (by omega) (by omega)), by omega, ?_⟩; rw [show z29.toInt.toNat = v3.toInt.toNat + 1 by omega]; refine ⟨q.toInt, RO_row _ _ (fun j hj => (by show ((upn f v3.toNatClampNeg r14) j).toInt = (f j).toInt; unfold upn; rw [if_neg (by omega)])) hRO, by omega, ?_, ?_, ?_, ?_⟩; (unfold fg; rw [← tz10]; grind); (show RN _ _ _ ((upn f v3.toNatClampNeg r14) v3.toInt.toNat).toInt _; rw [ev, ← tz10]; exact nr14); (show okN _ _ ((upn f v3.toNatClampNeg r14) v3.toInt.toNat).toInt; rw [ev]; unfold okN; grind); (show ¬ (_ ∧ _ ∧ ((upn f v3.toNatClampNeg r14) v3.toInt.toNat).toInt < ((upn f v3.toNatClampNeg r14) (v3.toInt.toNat - 1)).toInt); rw [ev]; unfold upn; grind)) (by omega)
                · skip
                  have ic28 := tn_eq rfl kI_0 c28
                  refine lv_aload_n hx hb dX5_readNumbers_114 rfl (lv_at hl 2 rfl) ?_
                  refine lv_iload hx hb dX5_readNumbers_115 (lv_at hl 1 rfl) ?_
                  refine tc_putF (lo := 0) (hi := 120) E hG t0 (by decide) rfl rfl fq_X5_46 (by omega) (by omega) rfl rfl dX5_readNumbers_117 (fun H locs hG => ?_)
                  obtain ⟨F30, eF30⟩ : ∃ Z : mF, Z = up2 F16 h0 9 z13 := ⟨_, rfl⟩
                  replace hG : tGH (gF G F30) τ s H locs := by rw [eF30]; exact hG
                  have E := E.f1 (F' := F30)
                  have hSt := hSt.f1 (F' := F30)
                  refine lv_iconst (v := 0) hx hb dX5_readNumbers_120 (by decide) ?_
                  exact tc_iretF E hr hlk hG (t_nz (by decide) (by decide)).1 ⟨upn f v3.toNatClampNeg r14, z13, (by rw [eF30, eF16, eF15, eF7, eFc, eF9, up2_up2, up2_up2, up2_row (by omega) (by omega), up2_up2]), Or.inr ⟨by decide, v3.toInt.toNat, q.toInt, (fun j => (f j).toInt), by omega, hRO, Or.inr (Or.inr ⟨(by have k32 := kI_32; omega), (by unfold fg; rw [← tz10]; grind), (by omega), r14.toInt, qr14.toInt, (by rw [← tz10]; exact nr14), (by unfold okN; grind)⟩)⟩⟩ dX5_readNumbers_121
            · skip
              have ic20 := tn_eq rfl kI_3 c20
              refine lv_iload_n hx hb dX5_readNumbers_68 rfl (lv_at hl 4 rfl) ?_
              refine lv_iconst (v := 2) hx hb dX5_readNumbers_69 (by decide) ?_
              refine lv_irem hx hb dX5_readNumbers_70 (by decide) ?_
              refine lv_topi (fun z31 ez31 => ?_)
              have tz31 := tn_rem ez31 kI_2 (by omega) (by decide)
              refine lv_iconst (v := 1) hx hb dX5_readNumbers_71 (by decide) ?_
              refine lv_icmp_ne (tgt := 90) hx hb dX5_readNumbers_72 (by decide) (fun c32 => ?_) (fun c32 => ?_)
              · skip
                have ic32 := tn_ne rfl kI_1 c32
                refine lv_iconst (v := 0) hx hb dX5_readNumbers_90 (by decide) ?_
                refine lv_istore (lv' := [(5, .int 0), (4, .int z13), (0, .ref h0), (1, .int x1), (2, .ref (h0 + 5 + (1 + x1.toNatClampNeg))), (3, .int v3)]) hx hb dX5_readNumbers_91 hl (by decide) rfl (fun ls hl => ?_)
                refine lv_iload hx hb dX5_readNumbers_93 (lv_at hl 0 rfl) ?_
                refine lv_if_ne (tgt := 114) hx hb dX5_readNumbers_95 (by decide) (fun c33 => ?_) (fun c33 => ?_)
                · exfalso
                  have ic33 := tn_ne kI_0 kI_0 c33
                  omega
                · skip
                  have ic33 := tn_eq kI_0 kI_0 c33
                  refine lv_aload_n hx hb dX5_readNumbers_98 rfl (lv_at hl 2 rfl) ?_
                  refine tc_getrF (d := 1) E hG t0 fr_X5_9 rfl dX5_readNumbers_99 (fun ha34 => ?_)
                  refine lv_iload_n hx hb dX5_readNumbers_102 rfl (lv_at hl 3 rfl) ?_
                  refine tc_ialdF E hG ha34 ta_15 rfl (t_in (by omega) (by omega)) dX5_readNumbers_103 (fun z35 lz35 uz35 wz35 => ?_)
                  replace wz35 : z35 = F16 (h0 + 1) x1.toNatClampNeg := wz35
                  have nn36 : x1.toNatClampNeg = x1.toInt.toNat := rfl
                  replace wz35 : z35 = F (h0 + 1) x1.toNatClampNeg := by rw [wz35, eF16, up2_ne (by omega), eF15, up2_ne (by omega), eF7, up2_ne (by omega), eFc, up2_ne (by omega), eF9, upR_ne (by omega)]
                  have cz35 : z35.toInt = (F (h0 + 1) x1.toNatClampNeg).toInt := by rw [wz35]
                  refine lv_iload_n hx hb dX5_readNumbers_104 rfl (lv_at hl 5 rfl) ?_
                  refine lv_aload_n hx hb dX5_readNumbers_105 rfl (lv_at hl 4 rfl) ?_
                  refine lv_iload_n hx hb dX5_readNumbers_106 rfl (lv_at hl 5 rfl) ?_
                  refine tc_ialdF E hG e2 ta_11 rfl (t_in (by omega) (by omega)) dX5_readNumbers_107 (fun z37 lz37 uz37 wz37 => ?_)
                  replace wz37 : z37 = F16 (h0 + 5 + (1 + x1.toNatClampNeg)) v3.toNatClampNeg := wz37
                  have nn38 : v3.toNatClampNeg = v3.toInt.toNat := rfl
                  replace wz37 : z37 = r14 := by rw [wz37, eF16, up2_at]
                  have cz37 : z37.toInt = (r14).toInt := by rw [wz37]
                  refine tc_callp (tc_runS (As := [.int z35, .int v3, .int z37]) (rest := []) E hSt hG (x_X1_isInRange l (gF G F16) τ z35 v3 z37) ks_X1_isInRange ml_X5_122 ⟨rfl, rfl, Nat.le_of_ble_eq_true rfl, Nat.le_of_ble_eq_true rfl⟩ rfl hl.1 rfl (Nat.le_of_ble_eq_true rfl) ⟨Nat.zero_le _, Nat.zero_le _⟩ dX5_readNumbers_108) (fun r39 pr39 => ?_)
                  have pr39 : ((r39.toInt = 1 ∧ ((0 ≤ v3.toInt ∧ v3.toInt < nNum z35.toInt ∧ nLow z35.toInt ≤ z37.toInt ∧ ((v3.toInt % 2 = 0 ∧ z37.toInt ≤ nHA z35.toInt) ∨ (v3.toInt % 2 = 1 ∧ z37.toInt ≤ nHB z35.toInt))))) ∨ (r39.toInt = 0 ∧ ¬ ((0 ≤ v3.toInt ∧ v3.toInt < nNum z35.toInt ∧ nLow z35.toInt ≤ z37.toInt ∧ ((v3.toInt % 2 = 0 ∧ z37.toInt ≤ nHA z35.toInt) ∨ (v3.toInt % 2 = 1 ∧ z37.toInt ≤ nHB z35.toInt)))))) ∧ (r39.toInt = 0 ∨ (0 ≤ v3.toInt ∧ v3.toInt ≤ 3)) := pr39
                  refine lv_if_ne (tgt := 122) hx hb dX5_readNumbers_111 (by decide) (fun c40 => ?_) (fun c40 => ?_)
                  · skip
                    have ic40 := tn_ne rfl kI_0 c40
                    obtain ⟨z41, ez41⟩ : ∃ y : Int32, y = v3 + (1) := ⟨_, rfl⟩
                    refine lv_iinc (v := z41) (lv' := [(3, .int z41), (5, .int 0), (4, .int z13), (0, .ref h0), (1, .int x1), (2, .ref (h0 + 5 + (1 + x1.toNatClampNeg)))]) hx hb dX5_readNumbers_122 hl (k := 5) rfl (by rw [ez41]; rfl) (by decide) rfl (fun ls hl => ?_)
                    have tz41 := tn_add ez41 rfl kI_1 (by omega) (by omega)
                    refine lv_goto (tgt := 14) hx hb dX5_readNumbers_125 (by decide) ?_
                    exact ih14 F16 H locs ls ((h0 + 5 + (1 + x1.toNatClampNeg))) z41 hG (lv_sub hl [3, 4, 5, 0] rfl) e2 (by omega) (by omega) (by have ev : (upn f v3.toNatClampNeg r14) v3.toInt.toNat = r14 := (by unfold upn; exact if_pos rfl); refine ⟨rfl, upn f v3.toNatClampNeg r14, qr14, (by rw [eF16, eF15, eF7, eFc, eF9, up2_up2, up2_up2]; exact up2_row (by omega) (by omega)), by omega, ?_⟩; rw [show z41.toInt.toNat = v3.toInt.toNat + 1 by omega]; refine ⟨q.toInt, RO_row _ _ (fun j hj => (by show ((upn f v3.toNatClampNeg r14) j).toInt = (f j).toInt; unfold upn; rw [if_neg (by omega)])) hRO, by omega, ?_, ?_, ?_, ?_⟩; (unfold fg; rw [← tz10]; grind); (show RN _ _ _ ((upn f v3.toNatClampNeg r14) v3.toInt.toNat).toInt _; rw [ev, ← tz10]; exact nr14); (show okN _ _ ((upn f v3.toNatClampNeg r14) v3.toInt.toNat).toInt; rw [ev]; unfold okN; grind); (show ¬ (_ ∧ _ ∧ ((upn f v3.toNatClampNeg r14) v3.toInt.toNat).toInt < ((upn f v3.toNatClampNeg r14) (v3.toInt.toNat - 1)).toInt); rw [ev]; unfold upn; grind)) (by omega)
                  · skip
                    have ic40 := tn_eq rfl kI_0 c40
                    refine lv_aload_n hx hb dX5_readNumbers_114 rfl (lv_at hl 2 rfl) ?_
                    refine lv_iload hx hb dX5_readNumbers_115 (lv_at hl 1 rfl) ?_
                    refine tc_putF (lo := 0) (hi := 120) E hG t0 (by decide) rfl rfl fq_X5_46 (by omega) (by omega) rfl rfl dX5_readNumbers_117 (fun H locs hG => ?_)
                    obtain ⟨F42, eF42⟩ : ∃ Z : mF, Z = up2 F16 h0 9 z13 := ⟨_, rfl⟩
                    replace hG : tGH (gF G F42) τ s H locs := by rw [eF42]; exact hG
                    have E := E.f1 (F' := F42)
                    have hSt := hSt.f1 (F' := F42)
                    refine lv_iconst (v := 0) hx hb dX5_readNumbers_120 (by decide) ?_
                    exact tc_iretF E hr hlk hG (t_nz (by decide) (by decide)).1 ⟨upn f v3.toNatClampNeg r14, z13, (by rw [eF42, eF16, eF15, eF7, eFc, eF9, up2_up2, up2_up2, up2_row (by omega) (by omega), up2_up2]), Or.inr ⟨by decide, v3.toInt.toNat, q.toInt, (fun j => (f j).toInt), by omega, hRO, Or.inr (Or.inr ⟨(by have k32 := kI_32; omega), (by unfold fg; rw [← tz10]; grind), (by omega), r14.toInt, qr14.toInt, (by rw [← tz10]; exact nr14), (by unfold okN; grind)⟩)⟩⟩ dX5_readNumbers_121
              · skip
                have ic32 := tn_eq rfl kI_1 c32
                refine lv_aload_n hx hb dX5_readNumbers_75 rfl (lv_at hl 3 rfl) ?_
                refine lv_iload_n hx hb dX5_readNumbers_76 rfl (lv_at hl 4 rfl) ?_
                refine tc_ialdF E hG e2 ta_11 rfl (t_in (by omega) (by omega)) dX5_readNumbers_77 (fun z43 lz43 uz43 wz43 => ?_)
                replace wz43 : z43 = F16 (h0 + 5 + (1 + x1.toNatClampNeg)) v3.toNatClampNeg := wz43
                have nn44 : v3.toNatClampNeg = v3.toInt.toNat := rfl
                replace wz43 : z43 = r14 := by rw [wz43, eF16, up2_at]
                have cz43 : z43.toInt = (r14).toInt := by rw [wz43]
                refine lv_aload_n hx hb dX5_readNumbers_78 rfl (lv_at hl 3 rfl) ?_
                refine lv_iload_n hx hb dX5_readNumbers_79 rfl (lv_at hl 4 rfl) ?_
                refine lv_iconst (v := 1) hx hb dX5_readNumbers_80 (by decide) ?_
                refine lv_isub hx hb dX5_readNumbers_81 ?_
                refine lv_topi (fun z45 ez45 => ?_)
                have tz45 := tn_sub ez45 rfl kI_1 (by omega) (by omega)
                refine tc_ialdF E hG e2 ta_11 rfl (t_in (by omega) (by omega)) dX5_readNumbers_82 (fun z46 lz46 uz46 wz46 => ?_)
                replace wz46 : z46 = F16 (h0 + 5 + (1 + x1.toNatClampNeg)) z45.toNatClampNeg := wz46
                have nn47 : z45.toNatClampNeg = z45.toInt.toNat := rfl
                replace wz46 : z46 = (f z45.toNatClampNeg) := by rw [wz46, eF16, up2_ne (by omega), eF15, up2_ne (by omega), eF7, up2_ne (by omega), eFc, up2_ne (by omega), eF9, upR_in ⟨rfl, by omega, by omega⟩]
                have cz46 : z46.toInt = ((f z45.toNatClampNeg)).toInt := by rw [wz46]
                refine lv_icmp_ge (tgt := 90) hx hb dX5_readNumbers_83 (by decide) (fun c48 => ?_) (fun c48 => ?_)
                · skip
                  have ic48 := tn_le rfl rfl c48
                  refine lv_iconst (v := 0) hx hb dX5_readNumbers_90 (by decide) ?_
                  refine lv_istore (lv' := [(5, .int 0), (4, .int z13), (0, .ref h0), (1, .int x1), (2, .ref (h0 + 5 + (1 + x1.toNatClampNeg))), (3, .int v3)]) hx hb dX5_readNumbers_91 hl (by decide) rfl (fun ls hl => ?_)
                  refine lv_iload hx hb dX5_readNumbers_93 (lv_at hl 0 rfl) ?_
                  refine lv_if_ne (tgt := 114) hx hb dX5_readNumbers_95 (by decide) (fun c49 => ?_) (fun c49 => ?_)
                  · exfalso
                    have ic49 := tn_ne kI_0 kI_0 c49
                    omega
                  · skip
                    have ic49 := tn_eq kI_0 kI_0 c49
                    refine lv_aload_n hx hb dX5_readNumbers_98 rfl (lv_at hl 2 rfl) ?_
                    refine tc_getrF (d := 1) E hG t0 fr_X5_9 rfl dX5_readNumbers_99 (fun ha50 => ?_)
                    refine lv_iload_n hx hb dX5_readNumbers_102 rfl (lv_at hl 3 rfl) ?_
                    refine tc_ialdF E hG ha50 ta_15 rfl (t_in (by omega) (by omega)) dX5_readNumbers_103 (fun z51 lz51 uz51 wz51 => ?_)
                    replace wz51 : z51 = F16 (h0 + 1) x1.toNatClampNeg := wz51
                    have nn52 : x1.toNatClampNeg = x1.toInt.toNat := rfl
                    replace wz51 : z51 = F (h0 + 1) x1.toNatClampNeg := by rw [wz51, eF16, up2_ne (by omega), eF15, up2_ne (by omega), eF7, up2_ne (by omega), eFc, up2_ne (by omega), eF9, upR_ne (by omega)]
                    have cz51 : z51.toInt = (F (h0 + 1) x1.toNatClampNeg).toInt := by rw [wz51]
                    refine lv_iload_n hx hb dX5_readNumbers_104 rfl (lv_at hl 5 rfl) ?_
                    refine lv_aload_n hx hb dX5_readNumbers_105 rfl (lv_at hl 4 rfl) ?_
                    refine lv_iload_n hx hb dX5_readNumbers_106 rfl (lv_at hl 5 rfl) ?_
                    refine tc_ialdF E hG e2 ta_11 rfl (t_in (by omega) (by omega)) dX5_readNumbers_107 (fun z53 lz53 uz53 wz53 => ?_)
                    replace wz53 : z53 = F16 (h0 + 5 + (1 + x1.toNatClampNeg)) v3.toNatClampNeg := wz53
                    have nn54 : v3.toNatClampNeg = v3.toInt.toNat := rfl
                    replace wz53 : z53 = r14 := by rw [wz53, eF16, up2_at]
                    have cz53 : z53.toInt = (r14).toInt := by rw [wz53]
                    refine tc_callp (tc_runS (As := [.int z51, .int v3, .int z53]) (rest := []) E hSt hG (x_X1_isInRange l (gF G F16) τ z51 v3 z53) ks_X1_isInRange ml_X5_122 ⟨rfl, rfl, Nat.le_of_ble_eq_true rfl, Nat.le_of_ble_eq_true rfl⟩ rfl hl.1 rfl (Nat.le_of_ble_eq_true rfl) ⟨Nat.zero_le _, Nat.zero_le _⟩ dX5_readNumbers_108) (fun r55 pr55 => ?_)
                    have pr55 : ((r55.toInt = 1 ∧ ((0 ≤ v3.toInt ∧ v3.toInt < nNum z51.toInt ∧ nLow z51.toInt ≤ z53.toInt ∧ ((v3.toInt % 2 = 0 ∧ z53.toInt ≤ nHA z51.toInt) ∨ (v3.toInt % 2 = 1 ∧ z53.toInt ≤ nHB z51.toInt))))) ∨ (r55.toInt = 0 ∧ ¬ ((0 ≤ v3.toInt ∧ v3.toInt < nNum z51.toInt ∧ nLow z51.toInt ≤ z53.toInt ∧ ((v3.toInt % 2 = 0 ∧ z53.toInt ≤ nHA z51.toInt) ∨ (v3.toInt % 2 = 1 ∧ z53.toInt ≤ nHB z51.toInt)))))) ∧ (r55.toInt = 0 ∨ (0 ≤ v3.toInt ∧ v3.toInt ≤ 3)) := pr55
                    refine lv_if_ne (tgt := 122) hx hb dX5_readNumbers_111 (by decide) (fun c56 => ?_) (fun c56 => ?_)
                    · skip
                      have ic56 := tn_ne rfl kI_0 c56
                      obtain ⟨z57, ez57⟩ : ∃ y : Int32, y = v3 + (1) := ⟨_, rfl⟩
                      refine lv_iinc (v := z57) (lv' := [(3, .int z57), (5, .int 0), (4, .int z13), (0, .ref h0), (1, .int x1), (2, .ref (h0 + 5 + (1 + x1.toNatClampNeg)))]) hx hb dX5_readNumbers_122 hl (k := 5) rfl (by rw [ez57]; rfl) (by decide) rfl (fun ls hl => ?_)
                      have tz57 := tn_add ez57 rfl kI_1 (by omega) (by omega)
                      refine lv_goto (tgt := 14) hx hb dX5_readNumbers_125 (by decide) ?_
                      exact ih14 F16 H locs ls ((h0 + 5 + (1 + x1.toNatClampNeg))) z57 hG (lv_sub hl [3, 4, 5, 0] rfl) e2 (by omega) (by omega) (by have ev : (upn f v3.toNatClampNeg r14) v3.toInt.toNat = r14 := (by unfold upn; exact if_pos rfl); refine ⟨rfl, upn f v3.toNatClampNeg r14, qr14, (by rw [eF16, eF15, eF7, eFc, eF9, up2_up2, up2_up2]; exact up2_row (by omega) (by omega)), by omega, ?_⟩; rw [show z57.toInt.toNat = v3.toInt.toNat + 1 by omega]; refine ⟨q.toInt, RO_row _ _ (fun j hj => (by show ((upn f v3.toNatClampNeg r14) j).toInt = (f j).toInt; unfold upn; rw [if_neg (by omega)])) hRO, by omega, ?_, ?_, ?_, ?_⟩; (unfold fg; rw [← tz10]; grind); (show RN _ _ _ ((upn f v3.toNatClampNeg r14) v3.toInt.toNat).toInt _; rw [ev, ← tz10]; exact nr14); (show okN _ _ ((upn f v3.toNatClampNeg r14) v3.toInt.toNat).toInt; rw [ev]; unfold okN; grind); (show ¬ (_ ∧ _ ∧ ((upn f v3.toNatClampNeg r14) v3.toInt.toNat).toInt < ((upn f v3.toNatClampNeg r14) (v3.toInt.toNat - 1)).toInt); rw [ev]; unfold upn; grind)) (by omega)
                    · skip
                      have ic56 := tn_eq rfl kI_0 c56
                      refine lv_aload_n hx hb dX5_readNumbers_114 rfl (lv_at hl 2 rfl) ?_
                      refine lv_iload hx hb dX5_readNumbers_115 (lv_at hl 1 rfl) ?_
                      refine tc_putF (lo := 0) (hi := 120) E hG t0 (by decide) rfl rfl fq_X5_46 (by omega) (by omega) rfl rfl dX5_readNumbers_117 (fun H locs hG => ?_)
                      obtain ⟨F58, eF58⟩ : ∃ Z : mF, Z = up2 F16 h0 9 z13 := ⟨_, rfl⟩
                      replace hG : tGH (gF G F58) τ s H locs := by rw [eF58]; exact hG
                      have E := E.f1 (F' := F58)
                      have hSt := hSt.f1 (F' := F58)
                      refine lv_iconst (v := 0) hx hb dX5_readNumbers_120 (by decide) ?_
                      exact tc_iretF E hr hlk hG (t_nz (by decide) (by decide)).1 ⟨upn f v3.toNatClampNeg r14, z13, (by rw [eF58, eF16, eF15, eF7, eFc, eF9, up2_up2, up2_up2, up2_row (by omega) (by omega), up2_up2]), Or.inr ⟨by decide, v3.toInt.toNat, q.toInt, (fun j => (f j).toInt), by omega, hRO, Or.inr (Or.inr ⟨(by have k32 := kI_32; omega), (by unfold fg; rw [← tz10]; grind), (by omega), r14.toInt, qr14.toInt, (by rw [← tz10]; exact nr14), (by unfold okN; grind)⟩)⟩⟩ dX5_readNumbers_121
                · skip
                  have ic48 := tn_nle rfl rfl c48
                  refine lv_iconst (v := 1) hx hb dX5_readNumbers_86 (by decide) ?_
                  refine lv_goto (tgt := 91) hx hb dX5_readNumbers_87 (by decide) ?_
                  refine lv_istore (lv' := [(5, .int 1), (4, .int z13), (0, .ref h0), (1, .int x1), (2, .ref (h0 + 5 + (1 + x1.toNatClampNeg))), (3, .int v3)]) hx hb dX5_readNumbers_91 hl (by decide) rfl (fun ls hl => ?_)
                  refine lv_iload hx hb dX5_readNumbers_93 (lv_at hl 0 rfl) ?_
                  refine lv_if_ne (tgt := 114) hx hb dX5_readNumbers_95 (by decide) (fun c59 => ?_) (fun c59 => ?_)
                  · skip
                    have ic59 := tn_ne kI_1 kI_0 c59
                    refine lv_aload_n hx hb dX5_readNumbers_114 rfl (lv_at hl 2 rfl) ?_
                    refine lv_iload hx hb dX5_readNumbers_115 (lv_at hl 1 rfl) ?_
                    refine tc_putF (lo := 0) (hi := 120) E hG t0 (by decide) rfl rfl fq_X5_46 (by omega) (by omega) rfl rfl dX5_readNumbers_117 (fun H locs hG => ?_)
                    obtain ⟨F60, eF60⟩ : ∃ Z : mF, Z = up2 F16 h0 9 z13 := ⟨_, rfl⟩
                    replace hG : tGH (gF G F60) τ s H locs := by rw [eF60]; exact hG
                    have E := E.f1 (F' := F60)
                    have hSt := hSt.f1 (F' := F60)
                    refine lv_iconst (v := 0) hx hb dX5_readNumbers_120 (by decide) ?_
                    exact tc_iretF E hr hlk hG (t_nz (by decide) (by decide)).1 ⟨upn f v3.toNatClampNeg r14, z13, (by rw [eF60, eF16, eF15, eF7, eFc, eF9, up2_up2, up2_up2, up2_row (by omega) (by omega), up2_up2]), Or.inr ⟨by decide, v3.toInt.toNat, q.toInt, (fun j => (f j).toInt), by omega, hRO, Or.inr (Or.inr ⟨(by have k32 := kI_32; omega), (by unfold fg; rw [← tz10]; grind), (by omega), r14.toInt, qr14.toInt, (by rw [← tz10]; exact nr14), (by unfold okN; grind)⟩)⟩⟩ dX5_readNumbers_121
                  · exfalso
                    have ic59 := tn_eq kI_1 kI_0 c59
                    omega
          · skip
            have ic12 := tn_eq rfl kI_0 c12
            refine lv_iconst (v := 0) hx hb dX5_readNumbers_43 (by decide) ?_
            exact tc_iretF E hr hlk hG (t_nz (by decide) (by decide)).1 ⟨f, z10, (by rw [eF7, eFc, eF9, up2_up2]), Or.inr ⟨by decide, v3.toInt.toNat, q.toInt, (fun j => (f j).toInt), by omega, hRO, Or.inr (Or.inl ⟨(by have k32 := kI_32; omega), (by unfold fg; rw [← tz10]; grind), tz10⟩)⟩⟩ dX5_readNumbers_44
  refine lv_aload_n hx hb dX5_readNumbers_0 rfl (lv_at hl 0 rfl) ?_
  refine tc_getrF (d := 5) E hG t0 fr_X5_26 rfl dX5_readNumbers_1 (fun ha61 => ?_)
  refine lv_iload_n hx hb dX5_readNumbers_4 rfl (lv_at hl 1 rfl) ?_
  refine tc_aald5F (d := 1 + x1.toNatClampNeg) E hG ha61 ta_17 rfl (t_in (by omega) (by omega)) dX5_readNumbers_5 (fun ha62 => ?_)
  have nx1 : x1.toNatClampNeg = x1.toInt.toNat := rfl
  refine lv_astore_n (lv' := [(2, .ref ((h0 + 5) + (1 + x1.toNatClampNeg))), (0, .ref h0), (1, .int x1)]) hx hb dX5_readNumbers_6 rfl hl (by decide) rfl (fun ls hl => ?_)
  refine lv_aload_n hx hb dX5_readNumbers_7 rfl (lv_at hl 0 rfl) ?_
  refine lv_iconst (v := 0) hx hb dX5_readNumbers_8 (by decide) ?_
  refine tc_callvF hG (tc_runS (As := [.ref ((h0 + 5) + (1 + x1.toNatClampNeg)), .int 0]) (rest := []) E hSt hG (x_J7_fill_53178 l G F τ ((h0 + 5) + (1 + x1.toNatClampNeg)) (0 : Int32) ha62) ks_J7_fill_53178 ml_X5_106 ⟨rfl, rfl, Nat.le_of_ble_eq_true rfl, Nat.le_of_ble_eq_true rfl⟩ rfl hl.1 rfl (Nat.le_of_ble_eq_true rfl) ⟨Nat.zero_le _, Nat.zero_le _⟩ dX5_readNumbers_9) (fun F64 H locs pr63 hG => ?_)
  have E := E.f1 (F' := F64)
  have hSt := hSt.f1 (F' := F64)
  replace pr63 : F64 = upR F ((h0 + 5) + (1 + x1.toNatClampNeg)) 0 4 (fun _ => (0 : Int32)) := pr63
  have k65 := kI_0
  have eF64 := pr63
  refine lv_iconst (v := 0) hx hb dX5_readNumbers_12 (by decide) ?_
  refine lv_istore_n (lv' := [(3, .int 0), (2, .ref ((h0 + 5) + (1 + x1.toNatClampNeg))), (0, .ref h0), (1, .int x1)]) hx hb dX5_readNumbers_13 rfl hl (by decide) rfl (fun ls hl => ?_)
  exact J14 ((4 - (0 : Int32).toInt).toNat + 1) F64 H locs ls (((h0 + 5) + (1 + x1.toNatClampNeg))) (0 : Int32) hG (lv_sub hl [2, 3, 1, 0] rfl) ha62 (by decide) (by decide) (by exact ⟨rfl, _, F h0 9, (by rw [eF64]; exact (up2_sfR (by omega)).symm), (by have := nNum_r (F (h0 + 1) x1.toNatClampNeg).toInt; have k0 := kI_0; omega), (rfl : (F h0 9).toInt = (F h0 9).toInt)⟩) (Nat.lt_succ_self _)
