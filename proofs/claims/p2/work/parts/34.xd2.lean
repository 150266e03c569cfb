/-- i numbers of a BOX of kind kd are read from p0 on: they end at p -/
def RO (L : Nat → Int) (len kd p0 : Int) : Nat → Int → (Nat → Int) → Prop
  | 0, p, _ => p = p0
  | i + 1, p, row => ∃ p1, RO L len kd p0 i p1 row ∧ nx L len p1 = 32 ∧ fg L len (p1 + 1) ∧ RN L len (p1 + 1) (row i) p ∧ okN kd i (row i) ∧ ¬ (kd = 3 ∧ (i : Int) % 2 = 1 ∧ row i < row (i - 1))
/-- the numbers are at fault, at q -/
def RF (L : Nat → Int) (len kd p0 q : Int) : Prop := ∃ (i : Nat) (p1 : Int) (row : Nat → Int), (i : Int) < nNum kd ∧ RO L len kd p0 i p1 row ∧ ((¬ nx L len p1 = 32 ∧ q = p1) ∨ (nx L len p1 = 32 ∧ ¬ fg L len (p1 + 1) ∧ q = p1 + 1) ∨ (nx L len p1 = 32 ∧ fg L len (p1 + 1) ∧ q = p1 + 1 ∧ ∃ v e, RN L len (p1 + 1) v e ∧ ¬ (okN kd i v ∧ ¬ (kd = 3 ∧ (i : Int) % 2 = 1 ∧ v < row (i - 1)))))
theorem RO_row {L : Nat → Int} {len kd p0 : Int} {row row' : Nat → Int} : ∀ (i : Nat) (p : Int), (∀ j, j < i → row' j = row j) → RO L len kd p0 i p row → RO L len kd p0 i p row'
  | 0, _, _, h => h
  | i + 1, p, e, ⟨p1, h1, h2, h3, h4, h5, h6⟩ => by
    refine ⟨p1, RO_row i p1 (fun j hj => e j (by omega)) h1, h2, h3, ?_, ?_, ?_⟩
    · rw [e i (by omega)]; exact h4
    · rw [e i (by omega)]; exact h5
    · rw [e i (by omega)]
      by_cases z : i = 0
      · subst z
        exact fun q => absurd q.2.1 (by decide)
      · rw [e (i - 1) (by omega)]; exact h6
def upn (f : Nat → Int32) (i : Nat) (v : Int32) : Nat → Int32 := fun j => if j = i then v else f j
theorem up2_row {F : mF} {c d n i : Nat} {f : Nat → Int32} {v q : Int32} (h : ¬ c = d) (hi : i < n) : up2 (up2 (upR F c 0 n f) d 9 q) c i v = up2 (upR F c 0 n (upn f i v)) d 9 q := funext fun c9 => funext fun k9 => by
  unfold up2 upR upn
  by_cases e1 : c9 = d ∧ k9 = 9
  · rw [if_neg (fun z => h (z.1.symm.trans e1.1)), if_pos e1, if_pos e1]
  · rw [if_neg e1, if_neg e1]
    by_cases e2 : c9 = c ∧ k9 = i
    · rw [if_pos e2, if_pos (by omega), if_pos e2.2]
    · rw [if_neg e2]
      by_cases e3 : c9 = c ∧ 0 ≤ k9 ∧ k9 < 0 + n
      · rw [if_pos e3, if_pos e3, if_neg (fun z => e2 ⟨e3.1, z⟩)]
      · rw [if_neg e3, if_neg e3]

theorem up2_sfR {F : mF} {c d lo n j : Nat} {f : Nat → Int32} (h : ¬ c = d) : up2 (upR F c lo n f) d j (F d j) = upR F c lo n f := funext fun c9 => funext fun k9 => by
  unfold up2 upR
  by_cases e1 : c9 = d ∧ k9 = j
  · rw [if_pos e1, if_neg (fun z => h (z.1.symm.trans e1.1)), e1.1, e1.2]
  · rw [if_neg e1]

set_option maxHeartbeats 4000000 in
set_option maxRecDepth 100000 in
theorem x_X5_readNumbers (l : Launch) (G : tG) (F : mF) (τ : Nat → Nat) (h0 : Nat) (x1 : Int32) (t0 : τ h0 = 7) (l1 : 0 ≤ x1.toInt) (u1 : x1.toInt ≤ 23) (hL : τ (G.2.2.1 16) = 18) (h9 : G.2.2.1 9 = 1) (hLr : G.2.2.1 16 < h0 ∨ h0 + 30 ≤ G.2.2.1 16) (h7 : (F h0 7).toInt ≤ 120) : Met l yX5_readNumbers (.code yX5_readNumbers cX5_readNumbers 6 (some .boolean) :: tWS) (tRm 3 63) (va_Pc [.ref h0, .int x1] (tPre (gF G F) τ)) (tQF G τ (fun r F9 => ∃ (f : Nat → Int32) (q : Int32), F9 = up2 (upR F (h0 + 5 + (1 + x1.toNatClampNeg)) 0 4 f) h0 9 q ∧ ((r.toInt = 1 ∧ RO (LF F (G.2.2.1 16)) (F h0 7).toInt (F (h0 + 1) x1.toNatClampNeg).toInt (F h0 9).toInt (nNum (F (h0 + 1) x1.toNatClampNeg).toInt).toNat q.toInt (fun j => (f j).toInt)) ∨ (r.toInt = 0 ∧ RF (LF F (G.2.2.1 16)) (F h0 7).toInt (F (h0 + 1) x1.toNatClampNeg).toInt (F h0 9).toInt q.toInt)))) 0 0 (tA τ) := by
  refine tc_met (by decide) (Nat.le_of_ble_eq_true rfl) ?_
  intro p e s m below meth c E hSt hr hlk hG ls hl
  have hl : lv_has ls 6 [(0, .ref h0), (1, .int x1)] := hl
  have hx := E.1
  have hb := E.2.1
  obtain ⟨H, eH⟩ : ∃ H, H = s.heap := ⟨_, rfl⟩
  obtain ⟨locs, eL⟩ : ∃ x : List Loc, x = [] := ⟨_, rfl⟩
  have hG : tGH (gF G F) τ s H locs := by rw [eH, eL]; exact hG
  suffices hW : W p l e (tRm 3 63) s m ([.ref h0, .int x1] : List Value).toArray below meth c H locs 0 0 (MQ below (tQF G τ (fun r F9 => ∃ (f : Nat → Int32) (q : Int32), F9 = up2 (upR F (h0 + 5 + (1 + x1.toNatClampNeg)) 0 4 f) h0 9 q ∧ ((r.toInt = 1 ∧ RO (LF F (G.2.2.1 16)) (F h0 7).toInt (F (h0 + 1) x1.toNatClampNeg).toInt (F h0 9).toInt (nNum (F (h0 + 1) x1.toNatClampNeg).toInt).toNat q.toInt (fun j => (f j).toInt)) ∨ (r.toInt = 0 ∧ RF (LF F (G.2.2.1 16)) (F h0 7).toInt (F (h0 + 1) x1.toNatClampNeg).toInt (F h0 9).toInt q.toInt)))) ([.ref h0, .int x1] : List Value).toArray s 0 0 (tA τ)) (F0 m 0 ls []) by subst eH; subst eL; exact hW
  clear eH eL
  have nx1 : x1.toNatClampNeg = x1.toInt.toNat := rfl
  have J14 : ∀ (n14 : Nat) (Fc : mF) (H : Heap) (locs : List Loc) (ls : Array Slot) (a2 : Nat) (v3 : Int32), tGH (gF G Fc) τ s H locs → lv_has ls 6 [(0, .ref h0), (1, .int x1), (2, .ref a2), (3, .int v3)] → τ a2 = 11 → 0 ≤ v3.toInt → v3.toInt ≤ 4 → (a2 = (h0 + 5 + (1 + x1.toNatClampNeg)) ∧ ∃ (f : Nat → Int32) (q : Int32), Fc = up2 (upR F (h0 + 5 + (1 + x1.toNatClampNeg)) 0 4 f) h0 9 q ∧ v3.toInt ≤ nNum (F (h0 + 1) x1.toNatClampNeg).toInt ∧ RO (LF F (G.2.2.1 16)) (F h0 7).toInt (F (h0 + 1) x1.toNatClampNeg).toInt (F h0 9).toInt v3.toInt.toNat q.toInt (fun j => (f j).toInt)) → (4 - v3.toInt).toNat < n14 → W p l e (tRm 3 63) s m ([.ref h0, .int x1] : List Value).toArray below meth c H locs 0 0 (MQ below (tQF G τ (fun r F9 => ∃ (f : Nat → Int32) (q : Int32), F9 = up2 (upR F (h0 + 5 + (1 + x1.toNatClampNeg)) 0 4 f) h0 9 q ∧ ((r.toInt = 1 ∧ RO (LF F (G.2.2.1 16)) (F h0 7).toInt (F (h0 + 1) x1.toNatClampNeg).toInt (F h0 9).toInt (nNum (F (h0 + 1) x1.toNatClampNeg).toInt).toNat q.toInt (fun j => (f j).toInt)) ∨ (r.toInt = 0 ∧ RF (LF F (G.2.2.1 16)) (F h0 7).toInt (F (h0 + 1) x1.toNatClampNeg).toInt (F h0 9).toInt q.toInt)))) ([.ref h0, .int x1] : List Value).toArray s 0 0 (tA τ)) (F0 m 14 ls []) := by
    intro n14
    induction n14 with
    | zero => intro Fc H locs ls a2 v3 hG hl e2 b3 c3 hex14 hn14; exact absurd hn14 (Nat.not_lt_zero _)
    | succ n14 ih14 =>
      intro Fc H locs ls a2 v3 hG hl e2 b3 c3 hex14 hn14
      have E := E.f1 (F' := Fc)
      have hSt := hSt.f1 (F' := Fc)
      obtain ⟨rfl, f, q, eFc, hn3, hRO⟩ := hex14
      obtain ⟨F9, eF9⟩ : ∃ Z : mF, Z = upR F (h0 + 5 + (1 + x1.toNatClampNeg)) 0 4 f := ⟨_, rfl⟩
      rw [← eF9] at eFc
      have nv3 : v3.toNatClampNeg = v3.toInt.toNat := rfl
      refine lv_iload_n hx hb dX5_readNumbers_14 rfl (lv_at hl 3 rfl) ?_
      refine lv_aload_n hx hb dX5_readNumbers_15 rfl (lv_at hl 0 rfl) ?_
      refine tc_getrF (d := 1) E hG t0 fr_X5_9 rfl dX5_readNumbers_16 (fun ha1 => ?_)
      refine lv_iload_n hx hb dX5_readNumbers_19 rfl (lv_at hl 1 rfl) ?_
      refine tc_ialdF E hG ha1 ta_15 rfl (t_in (by omega) (by omega)) dX5_readNumbers_20 (fun z2 lz2 uz2 wz2 => ?_)
      replace wz2 : z2 = Fc (h0 + 1) x1.toNatClampNeg := wz2
      replace wz2 : z2 = F (h0 + 1) x1.toNatClampNeg := by rw [wz2, eFc, up2_ne (by omega), eF9, upR_ne (by omega)]
      have cz2 : z2.toInt = (F (h0 + 1) x1.toNatClampNeg).toInt := by rw [wz2]
      refine tc_callp (tc_runS (As := [.int z2]) (rest := [.int v3]) E hSt hG (x_X1_numbersOf l (gF G Fc) τ z2) ks_X1_numbersOf ml_X5_112 ⟨rfl, rfl, Nat.le_of_ble_eq_true rfl, Nat.le_of_ble_eq_true rfl⟩ rfl hl.1 rfl (Nat.le_of_ble_eq_true rfl) ⟨Nat.zero_le _, Nat.zero_le _⟩ dX5_readNumbers_21) (fun r3 pr3 => ?_)
      have pr3 : r3.toInt = nNum z2.toInt ∧ (0 ≤ r3.toInt ∧ r3.toInt ≤ 4) ∧ (r3.toInt = 0 ∨ (0 ≤ z2.toInt ∧ z2.toInt ≤ 9)) := pr3
      rw [cz2] at pr3
      refine lv_icmp_ge (tgt := 128) hx hb dX5_readNumbers_24 (by decide) (fun c4 => ?_) (fun c4 => ?_)
      · skip
        have ic4 := tn_le rfl rfl c4
        refine lv_iconst (v := 1) hx hb dX5_readNumbers_128 (by decide) ?_
        exact tc_iretF E hr hlk hG (t_nz (by decide) (by decide)).1 ⟨f, q, (by rw [eFc, eF9]), Or.inl ⟨by decide, (by rw [show (nNum (F (h0 + 1) x1.toNatClampNeg).toInt).toNat = v3.toInt.toNat by omega]; exact hRO)⟩⟩ dX5_readNumbers_129
      · skip
        have ic4 := tn_nle rfl rfl c4
        refine lv_aload_n hx hb dX5_readNumbers_27 rfl (lv_at hl 0 rfl) ?_
        refine lv_bipush (v := 32) hx hb dX5_readNumbers_28 (by decide) ?_
        refine tc_calliF hG (tc_runV (As := [.int 32]) (rest := []) E hSt hG (x_X5_passed l G Fc τ h0 (32 : Int32) t0 (by decide) (by decide) hL h9 hLr (by rw [eFc, up2_ne (by omega), eF9, upR_ne (by omega)]; exact h7)) t0 rv_7 kv_X5_passed ml_X5_68 ⟨rfl, rfl, Nat.le_of_ble_eq_true rfl, Nat.le_of_ble_eq_true rfl⟩ rfl hl.1 rfl (Nat.le_of_ble_eq_true rfl) ⟨Nat.zero_le _, Nat.zero_le _⟩ dX5_readNumbers_30) (fun r5 F6 H locs pr5 hG => ?_)
        have E := E.f1 (F' := F6)
        have hSt := hSt.f1 (F' := F6)
        replace pr5 : (r5.toInt = 1 ∧ nx (LF Fc (G.2.2.1 16)) (Fc h0 7).toInt (Fc h0 9).toInt = (32 : Int32).toInt ∧ (Fc h0 9).toInt < (Fc h0 7).toInt ∧ F6 = up2 Fc h0 9 (Fc h0 9 + 1)) ∨ (r5.toInt = 0 ∧ ¬ nx (LF Fc (G.2.2.1 16)) (Fc h0 7).toInt (Fc h0 9).toInt = (32 : Int32).toInt ∧ F6 = Fc) := pr5
        have k7 := kI_32
        refine lv_if_eq (tgt := 43) hx hb dX5_readNumbers_33 (by decide) (fun c8 => ?_) (fun c8 => ?_)
        · skip
          have ic8 := tn_eq rfl kI_0 c8
          rw [show LF Fc (G.2.2.1 16) = LF F (G.2.2.1 16) from (by rw [eFc, LF_up (by omega), eF9, LF_upR (by omega)]), show Fc h0 7 = (F h0 7) from (by rw [eFc, up2_ne (by omega), eF9, upR_ne (by omega)]), show Fc h0 9 = q from (by rw [eFc, up2_at])] at pr5
          obtain ⟨fr5, eF6⟩ : ¬ nx (LF F (G.2.2.1 16)) (F h0 7).toInt q.toInt = (32 : Int32).toInt ∧ F6 = Fc := by rcases pr5 with ⟨q9, _⟩ | ⟨_, a9, q9⟩; (exfalso; omega); exact ⟨a9, q9⟩
          rw [eF6] at hG
          have E := E.f1 (F' := Fc)
          have hSt := hSt.f1 (F' := Fc)
          refine lv_iconst (v := 0) hx hb dX5_readNumbers_43 (by decide) ?_
          exact tc_iretF E hr hlk hG (t_nz (by decide) (by decide)).1 ⟨f, q, (by rw [eFc, eF9]), Or.inr ⟨by decide, v3.toInt.toNat, q.toInt, (fun j => (f j).toInt), by omega, hRO, Or.inl ⟨(by have k32 := kI_32; omega), rfl⟩⟩⟩ dX5_readNumbers_44
        · skip
          have ic8 := tn_ne rfl kI_0 c8
          rw [show LF Fc (G.2.2.1 16) = LF F (G.2.2.1 16) from (by rw [eFc, LF_up (by omega), eF9, LF_upR (by omega)]), show Fc h0 7 = (F h0 7) from (by rw [eFc, up2_ne (by omega), eF9, upR_ne (by omega)]), show Fc h0 9 = q from (by rw [eFc, up2_at])] at pr5
          obtain ⟨fr5, gr5, eF6⟩ : nx (LF F (G.2.2.1 16)) (F h0 7).toInt q.toInt = (32 : Int32).toInt ∧ q.toInt < (F h0 7).toInt ∧ F6 = up2 Fc h0 9 (q + 1) := by rcases pr5 with ⟨_, a9, b9, q9⟩ | ⟨q9, _⟩; exact ⟨a9, b9, q9⟩; exfalso; omega
          obtain ⟨z9, ez9⟩ : ∃ y : Int32, y = q + 1 := ⟨_, rfl⟩
          rw [← ez9] at eF6
          have az9 := t_any1 q
          have tz9 := tn_add ez9 rfl kI_1 (by omega) (by omega)
          refine lv_aload_n hx hb dX5_readNumbers_36 rfl (lv_at hl 0 rfl) ?_
          refine tc_callp (tc_runV (As := []) (rest := []) E hSt hG (x_X5_nextIsFigure l (gF G F6) τ h0 t0 hL h9 hLr) t0 rv_7 kv_X5_nextIsFigure ml_X5_115 ⟨rfl, rfl, Nat.le_of_ble_eq_true rfl, Nat.le_of_ble_eq_true rfl⟩ rfl hl.1 rfl (Nat.le_of_ble_eq_true rfl) ⟨Nat.zero_le _, Nat.zero_le _⟩ dX5_readNumbers_37) (fun r10 pr10 => ?_)
          have pr10 : (r10.toInt = 1 ∧ (48 ≤ nx (LF F6 (G.2.2.1 16)) (F6 h0 7).toInt (F6 h0 9).toInt ∧ nx (LF F6 (G.2.2.1 16)) (F6 h0 7).toInt (F6 h0 9).toInt ≤ 57)) ∨ (r10.toInt = 0 ∧ ¬ (48 ≤ nx (LF F6 (G.2.2.1 16)) (F6 h0 7).toInt (F6 h0 9).toInt ∧ nx (LF F6 (G.2.2.1 16)) (F6 h0 7).toInt (F6 h0 9).toInt ≤ 57)) := pr10
          rw [show LF F6 (G.2.2.1 16) = LF F (G.2.2.1 16) from (by rw [eF6, LF_up (by omega), eFc, LF_up (by omega), eF9, LF_upR (by omega)]), show F6 h0 7 = (F h0 7) from (by rw [eF6, up2_ne (by omega), eFc, up2_ne (by omega), eF9, upR_ne (by omega)]), show F6 h0 9 = z9 from (by rw [eF6, up2_at])] at pr10
          refine lv_if_ne (tgt := 45) hx hb dX5_readNumbers_40 (by decide) (fun c11 => ?_) (fun c11 => ?_)
          · skip
            have ic11 := tn_ne rfl kI_0 c11
            refine lv_aload_n hx hb dX5_readNumbers_45 rfl (lv_at hl 0 rfl) ?_
            refine tc_getF E hG t0 fi_X5_46 rfl dX5_readNumbers_46 (fun z12 lz12 uz12 wz12 => ?_)
            replace wz12 : z12 = F6 h0 9 := wz12
            replace wz12 : z12 = z9 := by rw [wz12, eF6, up2_at]
            have cz12 : z12.toInt = (z9).toInt := by rw [wz12]
            refine lv_istore (lv' := [(4, .int z12), (0, .ref h0), (1, .int x1), (2, .ref (h0 + 5 + (1 + x1.toNatClampNeg))), (3, .int v3)]) hx hb dX5_readNumbers_49 hl (by decide) rfl (fun ls hl => ?_)
            refine lv_aload_n hx hb dX5_readNumbers_51 rfl (lv_at hl 3 rfl) ?_
            refine lv_iload_n hx hb dX5_readNumbers_52 rfl (lv_at hl 4 rfl) ?_
            refine lv_aload_n hx hb dX5_readNumbers_53 rfl (lv_at hl 1 rfl) ?_
            refine tc_calliF hG (tc_runV (As := []) (rest := [.int v3, .ref (h0 + 5 + (1 + x1.toNatClampNeg))]) E hSt hG (x_X5_readNumber l G F6 τ h0 t0 hL h9 hLr (by rw [eF6, up2_ne (by omega), eFc, up2_ne (by omega), eF9, upR_ne (by omega)]; exact h7)) t0 rv_7 kv_X5_readNumber ml_X5_119 ⟨rfl, rfl, Nat.le_of_ble_eq_true rfl, Nat.le_of_ble_eq_true rfl⟩ rfl hl.1 rfl (Nat.le_of_ble_eq_true rfl) ⟨Nat.zero_le _, Nat.zero_le _⟩ dX5_readNumbers_54) (fun r13 F14 H locs pr13 hG => ?_)
            have E := E.f1 (F' := F14)
            have hSt := hSt.f1 (F' := F14)
            replace pr13 : ∃ q : Int32, F14 = up2 F6 h0 9 q ∧ RN (LF F6 (G.2.2.1 16)) (F6 h0 7).toInt (F6 h0 9).toInt r13.toInt q.toInt := pr13
            obtain ⟨qr13, eF14, nr13⟩ := pr13
            rw [show LF F6 (G.2.2.1 16) = LF F (G.2.2.1 16) from (by rw [eF6, LF_up (by omega), eFc, LF_up (by omega), eF9, LF_upR (by omega)]), show F6 h0 7 = (F h0 7) from (by rw [eF6, up2_ne (by omega), eFc, up2_ne (by omega), eF9, upR_ne (by omega)]), show F6 h0 9 = z9 from (by rw [eF6, up2_at])] at nr13
            refine tc_iastF E hG e2 ta_11 (t_in (by omega) (by omega)) (t_any1 _) (t_any2 _) dX5_readNumbers_57 (fun H locs hG => ?_)
            obtain ⟨F15, eF15⟩ : ∃ Z : mF, Z = up2 F14 (h0 + 5 + (1 + x1.toNatClampNeg)) v3.toNatClampNeg r13 := ⟨_, rfl⟩
            replace hG : tGH (gF G F15) τ s H locs := by rw [eF15]; exact hG
            have E := E.f1 (F' := F15)
            have hSt := hSt.f1 (F' := F15)
            refine lv_aload_n hx hb dX5_readNumbers_58 rfl (lv_at hl 1 rfl) ?_
            refine tc_getrF (d := 1) E hG t0 fr_X5_9 rfl dX5_readNumbers_59 (fun ha16 => ?_)
            refine lv_iload_n hx hb dX5_readNumbers_62 rfl (lv_at hl 2 rfl) ?_
            refine tc_ialdF E hG ha16 ta_15 rfl (t_in (by omega) (by omega)) dX5_readNumbers_63 (fun z17 lz17 uz17 wz17 => ?_)
            replace wz17 : z17 = F15 (h0 + 1) x1.toNatClampNeg := wz17
            replace wz17 : z17 = F (h0 + 1) x1.toNatClampNeg := by rw [wz17, eF15, up2_ne (by omega), eF14, up2_ne (by omega), eF6, up2_ne (by omega), eFc, up2_ne (by omega), eF9, upR_ne (by omega)]
            have cz17 : z17.toInt = (F (h0 + 1) x1.toNatClampNeg).toInt := by rw [wz17]
            refine lv_iconst (v := 3) hx hb dX5_readNumbers_64 (by decide) ?_
            refine lv_icmp_ne (tgt := 90) hx hb dX5_readNumbers_65 (by decide) (fun c18 => ?_) (fun c18 => ?_)
            · skip
              have ic18 := tn_ne rfl kI_3 c18
              refine lv_iconst (v := 0) hx hb dX5_readNumbers_90 (by decide) ?_
              refine lv_istore (lv' := [(5, .int 0), (4, .int z12), (0, .ref h0), (1, .int x1), (2, .ref (h0 + 5 + (1 + x1.toNatClampNeg))), (3, .int v3)]) hx hb dX5_readNumbers_91 hl (by decide) rfl (fun ls hl => ?_)
              refine lv_iload hx hb dX5_readNumbers_93 (lv_at hl 0 rfl) ?_
              refine lv_if_ne (tgt := 114) hx hb dX5_readNumbers_95 (by decide) (fun c19 => ?_) (fun c19 => ?_)
              · exfalso
                have ic19 := tn_ne kI_0 kI_0 c19
                omega
              · skip
                have ic19 := tn_eq kI_0 kI_0 c19
                refine lv_aload_n hx hb dX5_readNumbers_98 rfl (lv_at hl 2 rfl) ?_
                refine tc_getrF (d := 1) E hG t0 fr_X5_9 rfl dX5_readNumbers_99 (fun ha20 => ?_)
                refine lv_iload_n hx hb dX5_readNumbers_102 rfl (lv_at hl 3 rfl) ?_
                refine tc_ialdF E hG ha20 ta_15 rfl (t_in (by omega) (by omega)) dX5_readNumbers_103 (fun z21 lz21 uz21 wz21 => ?_)
                replace wz21 : z21 = F15 (h0 + 1) x1.toNatClampNeg := wz21
                replace wz21 : z21 = F (h0 + 1) x1.toNatClampNeg := by rw [wz21, eF15, up2_ne (by omega), eF14, up2_ne (by omega), eF6, up2_ne (by omega), eFc, up2_ne (by omega), eF9, upR_ne (by omega)]
                have cz21 : z21.toInt = (F (h0 + 1) x1.toNatClampNeg).toInt := by rw [wz21]
                refine lv_iload_n hx hb dX5_readNumbers_104 rfl (lv_at hl 5 rfl) ?_
                refine lv_aload_n hx hb dX5_readNumbers_105 rfl (lv_at hl 4 rfl) ?_
                refine lv_iload_n hx hb dX5_readNumbers_106 rfl (lv_at hl 5 rfl) ?_
                refine tc_ialdF E hG e2 ta_11 rfl (t_in (by omega) (by omega)) dX5_readNumbers_107 (fun z22 lz22 uz22 wz22 => ?_)
                replace wz22 : z22 = F15 (h0 + 5 + (1 + x1.toNatClampNeg)) v3.toNatClampNeg := wz22
                replace wz22 : z22 = r13 := by rw [wz22, eF15, up2_at]
                have cz22 : z22.toInt = (r13).toInt := by rw [wz22]
                refine tc_callp (tc_runS (As := [.int z21, .int v3, .int z22]) (rest := []) E hSt hG (x_X1_isInRange l (gF G F15) τ z21 v3 z22) ks_X1_isInRange ml_X5_122 ⟨rfl, rfl, Nat.le_of_ble_eq_true rfl, Nat.le_of_ble_eq_true rfl⟩ rfl hl.1 rfl (Nat.le_of_ble_eq_true rfl) ⟨Nat.zero_le _, Nat.zero_le _⟩ dX5_readNumbers_108) (fun r23 pr23 => ?_)
                have pr23 : ((r23.toInt = 1 ∧ ((0 ≤ v3.toInt ∧ v3.toInt < nNum z21.toInt ∧ nLow z21.toInt ≤ z22.toInt ∧ ((v3.toInt % 2 = 0 ∧ z22.toInt ≤ nHA z21.toInt) ∨ (v3.toInt % 2 = 1 ∧ z22.toInt ≤ nHB z21.toInt))))) ∨ (r23.toInt = 0 ∧ ¬ ((0 ≤ v3.toInt ∧ v3.toInt < nNum z21.toInt ∧ nLow z21.toInt ≤ z22.toInt ∧ ((v3.toInt % 2 = 0 ∧ z22.toInt ≤ nHA z21.toInt) ∨ (v3.toInt % 2 = 1 ∧ z22.toInt ≤ nHB z21.toInt)))))) ∧ (r23.toInt = 0 ∨ (0 ≤ v3.toInt ∧ v3.toInt ≤ 3)) := pr23
                refine lv_if_ne (tgt := 122) hx hb dX5_readNumbers_111 (by decide) (fun c24 => ?_) (fun c24 => ?_)
                · skip
                  have ic24 := tn_ne rfl kI_0 c24
                  obtain ⟨z25, ez25⟩ : ∃ y : Int32, y = v3 + (1) := ⟨_, rfl⟩
                  refine lv_iinc (v := z25) (lv' := [(3, .int z25), (5, .int 0), (4, .int z12), (0, .ref h0), (1, .int x1), (2, .ref (h0 + 5 + (1 + x1.toNatClampNeg)))]) hx hb dX5_readNumbers_122 hl (k := 5) rfl (by rw [ez25]; rfl) (by decide) rfl (fun ls hl => ?_)
                  have tz25 := tn_add ez25 rfl kI_1 (by omega) (by omega)
                  refine lv_goto (tgt := 14) hx hb dX5_readNumbers_125 (by decide) ?_
                  exact ih14 F15 H locs ls ((h0 + 5 + (1 + x1.toNatClampNeg))) z25 hG (lv_sub hl [3, 4, 5, 0] rfl) e2 (by omega) (by omega) (by have ev : (upn f v3.toNatClampNeg r13) v3.toInt.toNat = r13 := (by unfold upn; exact if_pos rfl); refine ⟨rfl, upn f v3.toNatClampNeg r13, qr13, (by rw [eF15, eF14, eF6, eFc, eF9, up2_up2, up2_up2]; exact up2_row (by omega) (by omega)), by omega, ?_⟩; rw [show z25.toInt.toNat = v3.toInt.toNat + 1 by omega]; refine ⟨q.toInt, RO_row _ _ (fun j hj => (by show ((upn f v3.toNatClampNeg r13) j).toInt = (f j).toInt; unfold upn; rw [if_neg (by omega)])) hRO, by omega, ?_, ?_, ?_, ?_⟩; (unfold fg; rw [← tz9]; grind); (show RN _ _ _ ((upn f v3.toNatClampNeg r13) v3.toInt.toNat).toInt _; rw [ev, ← tz9]; exact nr13); (show okN _ _ ((upn f v3.toNatClampNeg r13) v3.toInt.toNat).toInt; rw [ev]; unfold okN; grind); (show ¬ (_ ∧ _ ∧ ((upn f v3.toNatClampNeg r13) v3.toInt.toNat).toInt < ((upn f v3.toNatClampNeg r13) (v3.toInt.toNat - 1)).toInt); rw [ev]; unfold upn; grind)) (by omega)
                · skip
                  have ic24 := tn_eq rfl kI_0 c24
                  refine lv_aload_n hx hb dX5_readNumbers_114 rfl (lv_at hl 2 rfl) ?_
                  refine lv_iload hx hb dX5_readNumbers_115 (lv_at hl 1 rfl) ?_
                  refine tc_putF (lo := 0) (hi := 120) E hG t0 (by decide) rfl rfl fq_X5_46 (by omega) (by omega) rfl rfl dX5_readNumbers_117 (fun H locs hG => ?_)
                  obtain ⟨F26, eF26⟩ : ∃ Z : mF, Z = up2 F15 h0 9 z12 := ⟨_, rfl⟩
                  replace hG : tGH (gF G F26) τ s H locs := by rw [eF26]; exact hG
                  have E := E.f1 (F' := F26)
                  have hSt := hSt.f1 (F' := F26)
                  refine lv_iconst (v := 0) hx hb dX5_readNumbers_120 (by decide) ?_
                  exact tc_iretF E hr hlk hG (t_nz (by decide) (by decide)).1 ⟨upn f v3.toNatClampNeg r13, z12, (by rw [eF26, eF15, eF14, eF6, eFc, eF9, up2_up2, up2_up2, up2_row (by omega) (by omega), up2_up2]), Or.inr ⟨by decide, v3.toInt.toNat, q.toInt, (fun j => (f j).toInt), by omega, hRO, Or.inr (Or.inr ⟨(by have k32 := kI_32; omega), (by unfold fg; rw [← tz9]; grind), (by omega), r13.toInt, qr13.toInt, (by rw [← tz9]; exact nr13), (by unfold okN; grind)⟩)⟩⟩ dX5_readNumbers_121
            · skip
              have ic18 := tn_eq rfl kI_3 c18
              refine lv_iload_n hx hb dX5_readNumbers_68 rfl (lv_at hl 4 rfl) ?_
              refine lv_iconst (v := 2) hx hb dX5_readNumbers_69 (by decide) ?_
              refine lv_irem hx hb dX5_readNumbers_70 (by decide) ?_
              refine lv_topi (fun z27 ez27 => ?_)
              have tz27 := tn_rem ez27 kI_2 (by omega) (by decide)
              refine lv_iconst (v := 1) hx hb dX5_readNumbers_71 (by decide) ?_
              refine lv_icmp_ne (tgt := 90) hx hb dX5_readNumbers_72 (by decide) (fun c28 => ?_) (fun c28 => ?_)
              · skip
                have ic28 := tn_ne rfl kI_1 c28
                refine lv_iconst (v := 0) hx hb dX5_readNumbers_90 (by decide) ?_
                refine lv_istore (lv' := [(5, .int 0), (4, .int z12), (0, .ref h0), (1, .int x1), (2, .ref (h0 + 5 + (1 + x1.toNatClampNeg))), (3, .int v3)]) hx hb dX5_readNumbers_91 hl (by decide) rfl (fun ls hl => ?_)
                refine lv_iload hx hb dX5_readNumbers_93 (lv_at hl 0 rfl) ?_
                refine lv_if_ne (tgt := 114) hx hb dX5_readNumbers_95 (by decide) (fun c29 => ?_) (fun c29 => ?_)
                · exfalso
                  have ic29 := tn_ne kI_0 kI_0 c29
                  omega
                · skip
                  have ic29 := tn_eq kI_0 kI_0 c29
                  refine lv_aload_n hx hb dX5_readNumbers_98 rfl (lv_at hl 2 rfl) ?_
                  refine tc_getrF (d := 1) E hG t0 fr_X5_9 rfl dX5_readNumbers_99 (fun ha30 => ?_)
                  refine lv_iload_n hx hb dX5_readNumbers_102 rfl (lv_at hl 3 rfl) ?_
                  refine tc_ialdF E hG ha30 ta_15 rfl (t_in (by omega) (by omega)) dX5_readNumbers_103 (fun z31 lz31 uz31 wz31 => ?_)
                  replace wz31 : z31 = F15 (h0 + 1) x1.toNatClampNeg := wz31
                  replace wz31 : z31 = F (h0 + 1) x1.toNatClampNeg := by rw [wz31, eF15, up2_ne (by omega), eF14, up2_ne (by omega), eF6, up2_ne (by omega), eFc, up2_ne (by omega), eF9, upR_ne (by omega)]
                  have cz31 : z31.toInt = (F (h0 + 1) x1.toNatClampNeg).toInt := by rw [wz31]
                  refine lv_iload_n hx hb dX5_readNumbers_104 rfl (lv_at hl 5 rfl) ?_
                  refine lv_aload_n hx hb dX5_readNumbers_105 rfl (lv_at hl 4 rfl) ?_
                  refine lv_iload_n hx hb dX5_readNumbers_106 rfl (lv_at hl 5 rfl) ?_
                  refine tc_ialdF E hG e2 ta_11 rfl (t_in (by omega) (by omega)) dX5_readNumbers_107 (fun z32 lz32 uz32 wz32 => ?_)
                  replace wz32 : z32 = F15 (h0 + 5 + (1 + x1.toNatClampNeg)) v3.toNatClampNeg := wz32
                  replace wz32 : z32 = r13 := by rw [wz32, eF15, up2_at]
                  have cz32 : z32.toInt = (r13).toInt := by rw [wz32]
                  refine tc_callp (tc_runS (As := [.int z31, .int v3, .int z32]) (rest := []) E hSt hG (x_X1_isInRange l (gF G F15) τ z31 v3 z32) ks_X1_isInRange ml_X5_122 ⟨rfl, rfl, Nat.le_of_ble_eq_true rfl, Nat.le_of_ble_eq_true rfl⟩ rfl hl.1 rfl (Nat.le_of_ble_eq_true rfl) ⟨Nat.zero_le _, Nat.zero_le _⟩ dX5_readNumbers_108) (fun r33 pr33 => ?_)
                  have pr33 : ((r33.toInt = 1 ∧ ((0 ≤ v3.toInt ∧ v3.toInt < nNum z31.toInt ∧ nLow z31.toInt ≤ z32.toInt ∧ ((v3.toInt % 2 = 0 ∧ z32.toInt ≤ nHA z31.toInt) ∨ (v3.toInt % 2 = 1 ∧ z32.toInt ≤ nHB z31.toInt))))) ∨ (r33.toInt = 0 ∧ ¬ ((0 ≤ v3.toInt ∧ v3.toInt < nNum z31.toInt ∧ nLow z31.toInt ≤ z32.toInt ∧ ((v3.toInt % 2 = 0 ∧ z32.toInt ≤ nHA z31.toInt) ∨ (v3.toInt % 2 = 1 ∧ z32.toInt ≤ nHB z31.toInt)))))) ∧ (r33.toInt = 0 ∨ (0 ≤ v3.toInt ∧ v3.toInt ≤ 3)) := pr33
                  refine lv_if_ne (tgt := 122) hx hb dX5_readNumbers_111 (by decide) (fun c34 => ?_) (fun c34 => ?_)
                  · skip
                    have ic34 := tn_ne rfl kI_0 c34
                    obtain ⟨z35, ez35⟩ : ∃ y : Int32, y = v3 + (1) := ⟨_, rfl⟩
                    refine lv_iinc (v := z35) (lv' := [(3, .int z35), (5, .int 0), (4, .int z12), (0, .ref h0), (1, .int x1), (2, .ref (h0 + 5 + (1 + x1.toNatClampNeg)))]) hx hb dX5_readNumbers_122 hl (k := 5) rfl (by rw [ez35]; rfl) (by decide) rfl (fun ls hl => ?_)
                    have tz35 := tn_add ez35 rfl kI_1 (by omega) (by omega)
                    refine lv_goto (tgt := 14) hx hb dX5_readNumbers_125 (by decide) ?_
                    exact ih14 F15 H locs ls ((h0 + 5 + (1 + x1.toNatClampNeg))) z35 hG (lv_sub hl [3, 4, 5, 0] rfl) e2 (by omega) (by omega) (by have ev : (upn f v3.toNatClampNeg r13) v3.toInt.toNat = r13 := (by unfold upn; exact if_pos rfl); refine ⟨rfl, upn f v3.toNatClampNeg r13, qr13, (by rw [eF15, eF14, eF6, eFc, eF9, up2_up2, up2_up2]; exact up2_row (by omega) (by omega)), by omega, ?_⟩; rw [show z35.toInt.toNat = v3.toInt.toNat + 1 by omega]; refine ⟨q.toInt, RO_row _ _ (fun j hj => (by show ((upn f v3.toNatClampNeg r13) j).toInt = (f j).toInt; unfold upn; rw [if_neg (by omega)])) hRO, by omega, ?_, ?_, ?_, ?_⟩; (unfold fg; rw [← tz9]; grind); (show RN _ _ _ ((upn f v3.toNatClampNeg r13) v3.toInt.toNat).toInt _; rw [ev, ← tz9]; exact nr13); (show okN _ _ ((upn f v3.toNatClampNeg r13) v3.toInt.toNat).toInt; rw [ev]; unfold okN; grind); (show ¬ (_ ∧ _ ∧ ((upn f v3.toNatClampNeg r13) v3.toInt.toNat).toInt < ((upn f v3.toNatClampNeg r13) (v3.toInt.toNat - 1)).toInt); rw [ev]; unfold upn; grind)) (by omega)
                  · skip
                    have ic34 := tn_eq rfl kI_0 c34
                    refine lv_aload_n hx hb dX5_readNumbers_114 rfl (lv_at hl 2 rfl) ?_
                    refine lv_iload hx hb dX5_readNumbers_115 (lv_at hl 1 rfl) ?_
                    refine tc_putF (lo := 0) (hi := 120) E hG t0 (by decide) rfl rfl fq_X5_46 (by omega) (by omega) rfl rfl dX5_readNumbers_117 (fun H locs hG => ?_)
                    obtain ⟨F36, eF36⟩ : ∃ Z : mF, Z = up2 F15 h0 9 z12 := ⟨_, rfl⟩
                    replace hG : tGH (gF G F36) τ s H locs := by rw [eF36]; exact hG
                    have E := E.f1 (F' := F36)
                    have hSt := hSt.f1 (F' := F36)
                    refine lv_iconst (v := 0) hx hb dX5_readNumbers_120 (by decide) ?_
                    exact tc_iretF E hr hlk hG (t_nz (by decide) (by decide)).1 ⟨upn f v3.toNatClampNeg r13, z12, (by rw [eF36, eF15, eF14, eF6, eFc, eF9, up2_up2, up2_up2, up2_row (by omega) (by omega), up2_up2]), Or.inr ⟨by decide, v3.toInt.toNat, q.toInt, (fun j => (f j).toInt), by omega, hRO, Or.inr (Or.inr ⟨(by have k32 := kI_32; omega), (by unfold fg; rw [← tz9]; grind), (by omega), r13.toInt, qr13.toInt, (by rw [← tz9]; exact nr13), (by unfold okN; grind)⟩)⟩⟩ dX5_readNumbers_121
              · skip
                have ic28 := tn_eq rfl kI_1 c28
                refine lv_aload_n hx hb dX5_readNumbers_75 rfl (lv_at hl 3 rfl) ?_
                refine lv_iload_n hx hb dX5_readNumbers_76 rfl (lv_at hl 4 rfl) ?_
                refine tc_ialdF E hG e2 ta_11 rfl (t_in (by omega) (by omega)) dX5_readNumbers_77 (fun z37 lz37 uz37 wz37 => ?_)
                replace wz37 : z37 = F15 (h0 + 5 + (1 + x1.toNatClampNeg)) v3.toNatClampNeg := wz37
                replace wz37 : z37 = r13 := by rw [wz37, eF15, up2_at]
                have cz37 : z37.toInt = (r13).toInt := by rw [wz37]
                refine lv_aload_n hx hb dX5_readNumbers_78 rfl (lv_at hl 3 rfl) ?_
                refine lv_iload_n hx hb dX5_readNumbers_79 rfl (lv_at hl 4 rfl) ?_
                refine lv_iconst (v := 1) hx hb dX5_readNumbers_80 (by decide) ?_
                refine lv_isub hx hb dX5_readNumbers_81 ?_
                refine lv_topi (fun z38 ez38 => ?_)
                have tz38 := tn_sub ez38 rfl kI_1 (by omega) (by omega)
                refine tc_ialdF E hG e2 ta_11 rfl (t_in (by omega) (by omega)) dX5_readNumbers_82 (fun z39 lz39 uz39 wz39 => ?_)
                replace wz39 : z39 = F15 (h0 + 5 + (1 + x1.toNatClampNeg)) z38.toNatClampNeg := wz39
                replace wz39 : z39 = (f z38.toNatClampNeg) := by rw [wz39, eF15, up2_ne (by omega), eF14, up2_ne (by omega), eF6, up2_ne (by omega), eFc, up2_ne (by omega), eF9, upR_in ⟨rfl, by omega, by omega⟩]
                have cz39 : z39.toInt = ((f z38.toNatClampNeg)).toInt := by rw [wz39]
                refine lv_icmp_ge (tgt := 90) hx hb dX5_readNumbers_83 (by decide) (fun c40 => ?_) (fun c40 => ?_)
                · skip
                  have ic40 := tn_le rfl rfl c40
                  refine lv_iconst (v := 0) hx hb dX5_readNumbers_90 (by decide) ?_
                  refine lv_istore (lv' := [(5, .int 0), (4, .int z12), (0, .ref h0), (1, .int x1), (2, .ref (h0 + 5 + (1 + x1.toNatClampNeg))), (3, .int v3)]) hx hb dX5_readNumbers_91 hl (by decide) rfl (fun ls hl => ?_)
                  refine lv_iload hx hb dX5_readNumbers_93 (lv_at hl 0 rfl) ?_
                  refine lv_if_ne (tgt := 114) hx hb dX5_readNumbers_95 (by decide) (fun c41 => ?_) (fun c41 => ?_)
                  · exfalso
                    have ic41 := tn_ne kI_0 kI_0 c41
                    omega
                  · skip
                    have ic41 := tn_eq kI_0 kI_0 c41
                    refine lv_aload_n hx hb dX5_readNumbers_98 rfl (lv_at hl 2 rfl) ?_
                    refine tc_getrF (d := 1) E hG t0 fr_X5_9 rfl dX5_readNumbers_99 (fun ha42 => ?_)
                    refine lv_iload_n hx hb dX5_readNumbers_102 rfl (lv_at hl 3 rfl) ?_
                    refine tc_ialdF E hG ha42 ta_15 rfl (t_in (by omega) (by omega)) dX5_readNumbers_103 (fun z43 lz43 uz43 wz43 => ?_)
                    replace wz43 : z43 = F15 (h0 + 1) x1.toNatClampNeg := wz43
                    replace wz43 : z43 = F (h0 + 1) x1.toNatClampNeg := by rw [wz43, eF15, up2_ne (by omega), eF14, up2_ne (by omega), eF6, up2_ne (by omega), eFc, up2_ne (by omega), eF9, upR_ne (by omega)]
                    have cz43 : z43.toInt = (F (h0 + 1) x1.toNatClampNeg).toInt := by rw [wz43]
                    refine lv_iload_n hx hb dX5_readNumbers_104 rfl (lv_at hl 5 rfl) ?_
                    refine lv_aload_n hx hb dX5_readNumbers_105 rfl (lv_at hl 4 rfl) ?_
                    refine lv_iload_n hx hb dX5_readNumbers_106 rfl (lv_at hl 5 rfl) ?_
                    refine tc_ialdF E hG e2 ta_11 rfl (t_in (by omega) (by omega)) dX5_readNumbers_107 (fun z44 lz44 uz44 wz44 => ?_)
                    replace wz44 : z44 = F15 (h0 + 5 + (1 + x1.toNatClampNeg)) v3.toNatClampNeg := wz44
                    replace wz44 : z44 = r13 := by rw [wz44, eF15, up2_at]
                    have cz44 : z44.toInt = (r13).toInt := by rw [wz44]
                    refine tc_callp (tc_runS (As := [.int z43, .int v3, .int z44]) (rest := []) E hSt hG (x_X1_isInRange l (gF G F15) τ z43 v3 z44) ks_X1_isInRange ml_X5_122 ⟨rfl, rfl, Nat.le_of_ble_eq_true rfl, Nat.le_of_ble_eq_true rfl⟩ rfl hl.1 rfl (Nat.le_of_ble_eq_true rfl) ⟨Nat.zero_le _, Nat.zero_le _⟩ dX5_readNumbers_108) (fun r45 pr45 => ?_)
                    have pr45 : ((r45.toInt = 1 ∧ ((0 ≤ v3.toInt ∧ v3.toInt < nNum z43.toInt ∧ nLow z43.toInt ≤ z44.toInt ∧ ((v3.toInt % 2 = 0 ∧ z44.toInt ≤ nHA z43.toInt) ∨ (v3.toInt % 2 = 1 ∧ z44.toInt ≤ nHB z43.toInt))))) ∨ (r45.toInt = 0 ∧ ¬ ((0 ≤ v3.toInt ∧ v3.toInt < nNum z43.toInt ∧ nLow z43.toInt ≤ z44.toInt ∧ ((v3.toInt % 2 = 0 ∧ z44.toInt ≤ nHA z43.toInt) ∨ (v3.toInt % 2 = 1 ∧ z44.toInt ≤ nHB z43.toInt)))))) ∧ (r45.toInt = 0 ∨ (0 ≤ v3.toInt ∧ v3.toInt ≤ 3)) := pr45
                    refine lv_if_ne (tgt := 122) hx hb dX5_readNumbers_111 (by decide) (fun c46 => ?_) (fun c46 => ?_)
                    · skip
                      have ic46 := tn_ne rfl kI_0 c46
                      obtain ⟨z47, ez47⟩ : ∃ y : Int32, y = v3 + (1) := ⟨_, rfl⟩
                      refine lv_iinc (v := z47) (lv' := [(3, .int z47), (5, .int 0), (4, .int z12), (0, .ref h0), (1, .int x1), (2, .ref (h0 + 5 + (1 + x1.toNatClampNeg)))]) hx hb dX5_readNumbers_122 hl (k := 5) rfl (by rw [ez47]; rfl) (by decide) rfl (fun ls hl => ?_)
                      have tz47 := tn_add ez47 rfl kI_1 (by omega) (by omega)
                      refine lv_goto (tgt := 14) hx hb dX5_readNumbers_125 (by decide) ?_
                      exact ih14 F15 H locs ls ((h0 + 5 + (1 + x1.toNatClampNeg))) z47 hG (lv_sub hl [3, 4, 5, 0] rfl) e2 (by omega) (by omega) (by have ev : (upn f v3.toNatClampNeg r13) v3.toInt.toNat = r13 := (by unfold upn; exact if_pos rfl); refine ⟨rfl, upn f v3.toNatClampNeg r13, qr13, (by rw [eF15, eF14, eF6, eFc, eF9, up2_up2, up2_up2]; exact up2_row (by omega) (by omega)), by omega, ?_⟩; rw [show z47.toInt.toNat = v3.toInt.toNat + 1 by omega]; refine ⟨q.toInt, RO_row _ _ (fun j hj => (by show ((upn f v3.toNatClampNeg r13) j).toInt = (f j).toInt; unfold upn; rw [if_neg (by omega)])) hRO, by omega, ?_, ?_, ?_, ?_⟩; (unfold fg; rw [← tz9]; grind); (show RN _ _ _ ((upn f v3.toNatClampNeg r13) v3.toInt.toNat).toInt _; rw [ev, ← tz9]; exact nr13); (show okN _ _ ((upn f v3.toNatClampNeg r13) v3.toInt.toNat).toInt; rw [ev]; unfold okN; grind); (show ¬ (_ ∧ _ ∧ ((upn f v3.toNatClampNeg r13) v3.toInt.toNat).toInt < ((upn f v3.toNatClampNeg r13) (v3.toInt.toNat - 1)).toInt); rw [ev]; unfold upn; grind)) (by omega)
                    · skip
                      have ic46 := tn_eq rfl kI_0 c46
                      refine lv_aload_n hx hb dX5_readNumbers_114 rfl (lv_at hl 2 rfl) ?_
                      refine lv_iload hx hb dX5_readNumbers_115 (lv_at hl 1 rfl) ?_
                      refine tc_putF (lo := 0) (hi := 120) E hG t0 (by decide) rfl rfl fq_X5_46 (by omega) (by omega) rfl rfl dX5_readNumbers_117 (fun H locs hG => ?_)
                      obtain ⟨F48, eF48⟩ : ∃ Z : mF, Z = up2 F15 h0 9 z12 := ⟨_, rfl⟩
                      replace hG : tGH (gF G F48) τ s H locs := by rw [eF48]; exact hG
                      have E := E.f1 (F' := F48)
                      have hSt := hSt.f1 (F' := F48)
                      refine lv_iconst (v := 0) hx hb dX5_readNumbers_120 (by decide) ?_
                      exact tc_iretF E hr hlk hG (t_nz (by decide) (by decide)).1 ⟨upn f v3.toNatClampNeg r13, z12, (by rw [eF48, eF15, eF14, eF6, eFc, eF9, up2_up2, up2_up2, up2_row (by omega) (by omega), up2_up2]), Or.inr ⟨by decide, v3.toInt.toNat, q.toInt, (fun j => (f j).toInt), by omega, hRO, Or.inr (Or.inr ⟨(by have k32 := kI_32; omega), (by unfold fg; rw [← tz9]; grind), (by omega), r13.toInt, qr13.toInt, (by rw [← tz9]; exact nr13), (by unfold okN; grind)⟩)⟩⟩ dX5_readNumbers_121
                · skip
                  have ic40 := tn_nle rfl rfl c40
                  refine lv_iconst (v := 1) hx hb dX5_readNumbers_86 (by decide) ?_
                  refine lv_goto (tgt := 91) hx hb dX5_readNumbers_87 (by decide) ?_
                  refine lv_istore (lv' := [(5, .int 1), (4, .int z12), (0, .ref h0), (1, .int x1), (2, .ref (h0 + 5 + (1 + x1.toNatClampNeg))), (3, .int v3)]) hx hb dX5_readNumbers_91 hl (by decide) rfl (fun ls hl => ?_)
                  refine lv_iload hx hb dX5_readNumbers_93 (lv_at hl 0 rfl) ?_
                  refine lv_if_ne (tgt := 114) hx hb dX5_readNumbers_95 (by decide) (fun c49 => ?_) (fun c49 => ?_)
                  · skip
                    have ic49 := tn_ne kI_1 kI_0 c49
                    refine lv_aload_n hx hb dX5_readNumbers_114 rfl (lv_at hl 2 rfl) ?_
                    refine lv_iload hx hb dX5_readNumbers_115 (lv_at hl 1 rfl) ?_
                    refine tc_putF (lo := 0) (hi := 120) E hG t0 (by decide) rfl rfl fq_X5_46 (by omega) (by omega) rfl rfl dX5_readNumbers_117 (fun H locs hG => ?_)
                    obtain ⟨F50, eF50⟩ : ∃ Z : mF, Z = up2 F15 h0 9 z12 := ⟨_, rfl⟩
                    replace hG : tGH (gF G F50) τ s H locs := by rw [eF50]; exact hG
                    have E := E.f1 (F' := F50)
                    have hSt := hSt.f1 (F' := F50)
                    refine lv_iconst (v := 0) hx hb dX5_readNumbers_120 (by decide) ?_
                    exact tc_iretF E hr hlk hG (t_nz (by decide) (by decide)).1 ⟨upn f v3.toNatClampNeg r13, z12, (by rw [eF50, eF15, eF14, eF6, eFc, eF9, up2_up2, up2_up2, up2_row (by omega) (by omega), up2_up2]), Or.inr ⟨by decide, v3.toInt.toNat, q.toInt, (fun j => (f j).toInt), by omega, hRO, Or.inr (Or.inr ⟨(by have k32 := kI_32; omega), (by unfold fg; rw [← tz9]; grind), (by omega), r13.toInt, qr13.toInt, (by rw [← tz9]; exact nr13), (by unfold okN; grind)⟩)⟩⟩ dX5_readNumbers_121
                  · exfalso
                    have ic49 := tn_eq kI_1 kI_0 c49
                    omega
          · skip
            have ic11 := tn_eq rfl kI_0 c11
            refine lv_iconst (v := 0) hx hb dX5_readNumbers_43 (by decide) ?_
            exact tc_iretF E hr hlk hG (t_nz (by decide) (by decide)).1 ⟨f, z9, (by rw [eF6, eFc, eF9, up2_up2]), Or.inr ⟨by decide, v3.toInt.toNat, q.toInt, (fun j => (f j).toInt), by omega, hRO, Or.inr (Or.inl ⟨(by have k32 := kI_32; omega), (by unfold fg; rw [← tz9]; grind), tz9⟩)⟩⟩ dX5_readNumbers_44
  refine lv_aload_n hx hb dX5_readNumbers_0 rfl (lv_at hl 0 rfl) ?_
  refine tc_getrF (d := 5) E hG t0 fr_X5_26 rfl dX5_readNumbers_1 (fun ha51 => ?_)
  refine lv_iload_n hx hb dX5_readNumbers_4 rfl (lv_at hl 1 rfl) ?_
  refine tc_aald5F (d := 1 + x1.toNatClampNeg) E hG ha51 ta_17 rfl (t_in (by omega) (by omega)) dX5_readNumbers_5 (fun ha52 => ?_)
  have nx1 : x1.toNatClampNeg = x1.toInt.toNat := rfl
  refine lv_astore_n (lv' := [(2, .ref ((h0 + 5) + (1 + x1.toNatClampNeg))), (0, .ref h0), (1, .int x1)]) hx hb dX5_readNumbers_6 rfl hl (by decide) rfl (fun ls hl => ?_)
  refine lv_aload_n hx hb dX5_readNumbers_7 rfl (lv_at hl 0 rfl) ?_
  refine lv_iconst (v := 0) hx hb dX5_readNumbers_8 (by decide) ?_
  refine tc_callvF hG (tc_runS (As := [.ref ((h0 + 5) + (1 + x1.toNatClampNeg)), .int 0]) (rest := []) E hSt hG (x_J7_fill_53178 l G F τ ((h0 + 5) + (1 + x1.toNatClampNeg)) (0 : Int32) ha52) ks_J7_fill_53178 ml_X5_106 ⟨rfl, rfl, Nat.le_of_ble_eq_true rfl, Nat.le_of_ble_eq_true rfl⟩ rfl hl.1 rfl (Nat.le_of_ble_eq_true rfl) ⟨Nat.zero_le _, Nat.zero_le _⟩ dX5_readNumbers_9) (fun F54 H locs pr53 hG => ?_)
  have E := E.f1 (F' := F54)
  have hSt := hSt.f1 (F' := F54)
  replace pr53 : F54 = upR F ((h0 + 5) + (1 + x1.toNatClampNeg)) 0 4 (fun _ => (0 : Int32)) := pr53
  have k55 := kI_0
  have eF54 := pr53
  refine lv_iconst (v := 0) hx hb dX5_readNumbers_12 (by decide) ?_
  refine lv_istore_n (lv' := [(3, .int 0), (2, .ref ((h0 + 5) + (1 + x1.toNatClampNeg))), (0, .ref h0), (1, .int x1)]) hx hb dX5_readNumbers_13 rfl hl (by decide) rfl (fun ls hl => ?_)
  exact J14 ((4 - (0 : Int32).toInt).toNat + 1) F54 H locs ls (((h0 + 5) + (1 + x1.toNatClampNeg))) (0 : Int32) hG (lv_sub hl [2, 3, 1, 0] rfl) ha52 (by decide) (by decide) (by exact ⟨rfl, _, F h0 9, (by rw [eF54]; exact (up2_sfR (by omega)).symm), (by have := nNum_r (F (h0 + 1) x1.toNatClampNeg).toInt; have k0 := kI_0; omega), (rfl : (F h0 9).toInt = (F h0 9).toInt)⟩) (Nat.lt_succ_self _)
