/-! ===== the reference: who writes nothing, the rest ===== -/
theorem un_fin {Y : mY} {t : Nat → Int32} {x1 x2 v4 r1 r2 me z1 z2 : Int32} {i : Int} (hex : (K t x1.toInt 1 = 5 ∧ v4.toInt = 0) ∨ (¬ K t x1.toInt 1 = 5 ∧ v4.toInt = x2.toInt)) (p1 : r1.toInt = K t x1.toInt (11 + i)) (p2 : r2.toInt = K t x1.toInt (11 + i)) (hme : mV Y (ix r1.toInt 21) me) (e1 : z1 = me >>> (v4 &&& 31)) (e2 : z2 = z1 &&& 1) (h : z2.toInt = 0) (hr : x1.toInt < r2.toInt ∧ r2.toInt < (t 3).toInt) (h23 : r2.toInt ≤ 23) : r2.toInt = -1 ∨ (x1.toInt < r2.toInt ∧ r2.toInt ≤ 23 ∧ r2.toInt < (t 3).toInt ∧ ∃ me : Int32, mV Y (ix r2.toInt 21) me ∧ ((K t x1.toInt 1 = 5 ∧ bU me 0) ∨ (¬ K t x1.toInt 1 = 5 ∧ bU me x2))) := by
  have e : r1.toInt = r2.toInt := by rw [p1, p2]
  rw [e] at hme
  refine Or.inr ⟨hr.1, h23, hr.2, me, hme, ?_⟩
  have hb : bU me v4 := by unfold bU; rw [← e1, ← e2]; exact h
  rcases hex with ⟨h1, h2⟩ | ⟨h1, h2⟩
  · have e4 : v4 = 0 := Int32.toInt_inj.mp (by rw [h2]; decide)
    rw [e4] at hb
    exact Or.inl ⟨h1, hb⟩
  · have e4 : v4 = x2 := Int32.toInt_inj.mp h2
    rw [e4] at hb
    exact Or.inr ⟨h1, hb⟩
def cB (t : Nat → Int32) : Nat → Int
  | 0 => 0
  | n + 1 => cB t n + if K t (n : Int) 0 = 1 then 1 else 0
theorem cB_1 {t : Nat → Int32} {b b' : Int} (h0 : 0 ≤ b) (e : b' = b + 1) (h : K t b 0 = 1) : cB t b'.toNat = cB t b.toNat + 1 := by
  rw [show b'.toNat = b.toNat + 1 by omega]
  show cB t b.toNat + (if K t (b.toNat : Int) 0 = 1 then 1 else 0) = _
  rw [show ((b.toNat : Nat) : Int) = b by omega, if_pos h]
theorem cB_0 {t : Nat → Int32} {b b' : Int} (h0 : 0 ≤ b) (e : b' = b + 1) (h : ¬ K t b 0 = 1) : cB t b'.toNat = cB t b.toNat := by
  rw [show b'.toNat = b.toNat + 1 by omega]
  show cB t b.toNat + (if K t (b.toNat : Int) 0 = 1 then 1 else 0) = _
  rw [show ((b.toNat : Nat) : Int) = b by omega, if_neg h]; omega
theorem isB_w {Y : mY} {b : Int} {r : Int32} (h : (r.toInt = 1 ∧ 0 ≤ b ∧ b ≤ 23 ∧ mV Y (ix b 0) 1) ∨ (r.toInt = 0 ∧ (b < 0 ∨ 23 < b ∨ ∃ v : Int32, ¬ v.toInt = 1 ∧ mV Y (ix b 0) v))) : (r.toInt = 1 ∧ 0 ≤ b ∧ b ≤ 23) ∨ r.toInt = 0 := by
  rcases h with h | h
  · exact Or.inl ⟨h.1, h.2.1, h.2.2.1⟩
  · exact Or.inr h.1
theorem tl_rem {x y z : Int64} (e : z = x - x / y * y) (h : ¬ y = 0) : z.toInt.natAbs < y.toInt.natAbs := by
  have h0 : y.toInt ≠ 0 := fun q => h (Int64.toInt_inj.mp (by rw [q]; decide))
  have h1 := Int64.le_toInt y
  have h2 := Int64.toInt_lt y
  have e2 : x.toInt - x.toInt.tdiv y.toInt * y.toInt = x.toInt.tmod y.toInt := by rw [Int.tmod_def, Int.mul_comm]
  have hm : (x.toInt.tmod y.toInt).natAbs < y.toInt.natAbs := by rw [Int.natAbs_tmod]; exact Nat.mod_lt _ (by omega)
  have ez : z.toInt = (x.toInt.tmod y.toInt).bmod (2 ^ 64) := by
    rw [e, Int64.toInt_sub, Int64.toInt_mul, Int64.toInt_div, ← e2]
    simp
  have eb : (x.toInt.tmod y.toInt).bmod (2 ^ 64) = x.toInt.tmod y.toInt := by
    apply Int.bmod_eq_of_le <;> omega
  rw [ez, eb]
  exact hm
theorem tl_nz {x y : Int64} {z : Int32} (e : z = lg_cmp x y) (ey : y = 0) (h : ¬ z.toInt = 0) : ¬ x = 0 := fun q => h (by
  rw [e, q, ey]; decide)
set_option maxHeartbeats 4000000 in
set_option maxRecDepth 100000 in
theorem c_X10_untold (l : Launch) (G : tG) (Y : mY) (h0 : Nat) (x1 : Int32) (x2 : Int32) (t0 : Y.1 h0 = 1) (l1 : 0 ≤ x1.toInt) (u1 : x1.toInt ≤ 23) (l2 : 0 ≤ x2.toInt) (u2 : x2.toInt ≤ 1) (t : Nat → Int32) (hT : TI Y t) (hI : TInv t) : Met l yX10_untold (.code yX10_untold cX10_untold 6 (some .int) :: tWS) (tRm 2 44) (va_Pc [.ref h0, .int x1, .int x2] (mPre G Y)) (tQp (fun r => r.toInt = -1 ∨ (x1.toInt < r.toInt ∧ r.toInt ≤ 23 ∧ r.toInt < (t 3).toInt ∧ ∃ me : Int32, mV Y (ix r.toInt 21) me ∧ ((K t x1.toInt 1 = 5 ∧ bU me 0) ∨ (¬ K t x1.toInt 1 = 5 ∧ bU me x2))))) 0 0 tNo := by
  refine mc_met (by decide) (Nat.le_of_ble_eq_true rfl) ?_
  intro p e s m below meth c E hr hlk hG ls hl
  have hl : lv_has ls 6 [(0, .ref h0), (1, .int x1), (2, .int x2)] := hl
  have hx := E.1
  have hb := E.2.1
  obtain ⟨H, eH⟩ : ∃ H, H = s.heap := ⟨_, rfl⟩
  obtain ⟨locs, eL⟩ : ∃ x : List Loc, x = [] := ⟨_, rfl⟩
  have hG : mGH G Y s H locs := by rw [eH, eL]; exact hG
  suffices hW : W p l e (tRm 2 44) s m ([.ref h0, .int x1, .int x2] : List Value).toArray below meth c H locs 0 0 (MQ below (tQp (fun r => r.toInt = -1 ∨ (x1.toInt < r.toInt ∧ r.toInt ≤ 23 ∧ r.toInt < (t 3).toInt ∧ ∃ me : Int32, mV Y (ix r.toInt 21) me ∧ ((K t x1.toInt 1 = 5 ∧ bU me 0) ∨ (¬ K t x1.toInt 1 = 5 ∧ bU me x2))))) ([.ref h0, .int x1, .int x2] : List Value).toArray s 0 0 tNo) (F0 m 0 ls []) by subst eH; subst eL; exact hW
  have J30 : ∀ (n30 : Nat) (ls : Array Slot) (v4 : Int32) (v5 : Int32), lv_has ls 6 [(0, .ref h0), (1, .int x1), (4, .int v4), (5, .int v5)] → 0 ≤ v4.toInt → v4.toInt ≤ 1 → 0 ≤ v5.toInt → v5.toInt ≤ 8 → ((K t x1.toInt 1 = 5 ∧ v4.toInt = 0) ∨ (¬ K t x1.toInt 1 = 5 ∧ v4.toInt = x2.toInt)) → (8 - v5.toInt).toNat < n30 → W p l e (tRm 2 44) s m ([.ref h0, .int x1, .int x2] : List Value).toArray below meth c H locs 0 0 (MQ below (tQp (fun r => r.toInt = -1 ∨ (x1.toInt < r.toInt ∧ r.toInt ≤ 23 ∧ r.toInt < (t 3).toInt ∧ ∃ me : Int32, mV Y (ix r.toInt 21) me ∧ ((K t x1.toInt 1 = 5 ∧ bU me 0) ∨ (¬ K t x1.toInt 1 = 5 ∧ bU me x2))))) ([.ref h0, .int x1, .int x2] : List Value).toArray s 0 0 tNo) (F0 m 30 ls []) := by
    intro n30
    induction n30 with
    | zero => intro ls v4 v5 hl b4 c4 b5 c5 hex30 hn30; exact absurd hn30 (Nat.not_lt_zero _)
    | succ n30 ih30 =>
      intro ls v4 v5 hl b4 c4 b5 c5 hex30 hn30
      refine lv_iload hx hb dX10_untold_30 (lv_at hl 3 rfl) ?_
      refine lv_aload_n hx hb dX10_untold_32 rfl (lv_at hl 0 rfl) ?_
      refine lv_iload_n hx hb dX10_untold_33 rfl (lv_at hl 1 rfl) ?_
      refine tc_callp (mc_runV (As := [.int x1]) (rest := [.int v5]) E hG (c_X10_manyOf l G Y h0 x1 t0 (by omega) (by omega)) t0 rfl kv_X10_manyOf ml_X10_117 ⟨rfl, rfl, Nat.le_of_ble_eq_true rfl, Nat.le_of_ble_eq_true rfl⟩ rfl hl.1 rfl (Nat.le_of_ble_eq_true rfl) ⟨Nat.zero_le _, Nat.zero_le _⟩ dX10_untold_34) (fun r1 pr1 => ?_)
      replace pr1 : mV Y (ix x1.toInt 10) r1 := pr1
      have br1 := mV_10 pr1 (by omega)
      have cr1 := mT pr1 hT (by omega) (by omega) (by decide) (by decide)
      refine lv_icmp_ge (tgt := 75) hx hb dX10_untold_37 (by decide) (fun c2 => ?_) (fun c2 => ?_)
      · skip
        have ic2 := tn_le rfl rfl c2
        refine lv_iconst (v := -1) hx hb dX10_untold_75 (by decide) ?_
        exact tc_pret E hr hlk eH eL rfl (show (-1 : Int32).toInt = -1 ∨ (x1.toInt < (-1 : Int32).toInt ∧ (-1 : Int32).toInt ≤ 23 ∧ (-1 : Int32).toInt < (t 3).toInt ∧ ∃ me : Int32, mV Y (ix (-1 : Int32).toInt 21) me ∧ ((K t x1.toInt 1 = 5 ∧ bU me 0) ∨ (¬ K t x1.toInt 1 = 5 ∧ bU me x2))) by have kk := kI_m1; exact Or.inl kk) dX10_untold_76
      · skip
        have ic2 := tn_nle rfl rfl c2
        refine lv_aload_n hx hb dX10_untold_40 rfl (lv_at hl 0 rfl) ?_
        refine lv_aload_n hx hb dX10_untold_41 rfl (lv_at hl 0 rfl) ?_
        refine lv_iload_n hx hb dX10_untold_42 rfl (lv_at hl 1 rfl) ?_
        refine lv_iload hx hb dX10_untold_43 (lv_at hl 3 rfl) ?_
        refine tc_callp (mc_runV (As := [.int x1, .int v5]) (rest := [.ref h0]) E hG (c_X10_childOf l G Y h0 x1 v5 t0 (by omega) (by omega) (by omega) (by omega)) t0 rfl kv_X10_childOf ml_X10_153 ⟨rfl, rfl, Nat.le_of_ble_eq_true rfl, Nat.le_of_ble_eq_true rfl⟩ rfl hl.1 rfl (Nat.le_of_ble_eq_true rfl) ⟨Nat.zero_le _, Nat.zero_le _⟩ dX10_untold_45) (fun r3 pr3 => ?_)
        replace pr3 : mV Y (ix x1.toInt (11 + v5.toInt)) r3 := pr3
        have br3 := mV_r 11 18 0 23 pr3 (by omega) (by omega) (by omega) (by decide) (by decide)
        have cr3 := mT pr3 hT (by omega) (by omega) (by omega) (by omega)
        have dr3 := mP11 cr3 hI (by omega) (by omega) (by omega)
        refine lv_bipush (v := 21) hx hb dX10_untold_48 (by decide) ?_
        refine tc_callp (mc_runV (As := [.int r3, .int 21]) (rest := []) E hG (c_X10_get l G Y h0 r3 (21 : Int32) t0 (by omega) (by omega) (by decide) (by decide)) t0 rfl kv_X10_get ml_X10_91 ⟨rfl, rfl, Nat.le_of_ble_eq_true rfl, Nat.le_of_ble_eq_true rfl⟩ rfl hl.1 rfl (Nat.le_of_ble_eq_true rfl) ⟨Nat.zero_le _, Nat.zero_le _⟩ dX10_untold_50) (fun r4 pr4 => ?_)
        replace pr4 : mV Y (ix r3.toInt (21 : Int32).toInt) r4 := pr4
        have pr4 := mV_l pr4 kI_21
        have br4 := mV_21 pr4 (by omega)
        have k5 := kI_21
        refine lv_iload hx hb dX10_untold_53 (lv_at hl 2 rfl) ?_
        refine lv_ishr hx hb dX10_untold_55 ?_
        refine lv_topi (fun z6 ez6 => ?_)
        refine lv_iconst (v := 1) hx hb dX10_untold_56 (by decide) ?_
        refine lv_iand hx hb dX10_untold_57 ?_
        refine lv_topi (fun z7 ez7 => ?_)
        refine lv_if_ne (tgt := 69) hx hb dX10_untold_58 (by decide) (fun c8 => ?_) (fun c8 => ?_)
        · skip
          have ic8 := tn_ne rfl kI_0 c8
          obtain ⟨z9, ez9⟩ : ∃ y : Int32, y = v5 + (1) := ⟨_, rfl⟩
          refine lv_iinc (v := z9) (lv' := [(5, .int z9), (0, .ref h0), (1, .int x1), (4, .int v4)]) hx hb dX10_untold_69 hl (k := 3) rfl (by rw [ez9]; rfl) (by decide) rfl (fun ls hl => ?_)
          have tz9 := tn_add ez9 rfl kI_1 (by omega) (by omega)
          refine lv_goto (tgt := 30) hx hb dX10_untold_72 (by decide) ?_
          exact ih30 ls v4 z9 (lv_sub hl [1, 2, 3, 0] rfl) (by omega) (by omega) (by omega) (by omega) (by have k0 := kI_0; have k1 := kI_1; omega) (by omega)
        · skip
          have ic8 := tn_eq rfl kI_0 c8
          refine lv_aload_n hx hb dX10_untold_61 rfl (lv_at hl 0 rfl) ?_
          refine lv_iload_n hx hb dX10_untold_62 rfl (lv_at hl 1 rfl) ?_
          refine lv_iload hx hb dX10_untold_63 (lv_at hl 3 rfl) ?_
          refine tc_callp (mc_runV (As := [.int x1, .int v5]) (rest := []) E hG (c_X10_childOf l G Y h0 x1 v5 t0 (by omega) (by omega) (by omega) (by omega)) t0 rfl kv_X10_childOf ml_X10_153 ⟨rfl, rfl, Nat.le_of_ble_eq_true rfl, Nat.le_of_ble_eq_true rfl⟩ rfl hl.1 rfl (Nat.le_of_ble_eq_true rfl) ⟨Nat.zero_le _, Nat.zero_le _⟩ dX10_untold_65) (fun r10 pr10 => ?_)
          replace pr10 : mV Y (ix x1.toInt (11 + v5.toInt)) r10 := pr10
          have br10 := mV_r 11 18 0 23 pr10 (by omega) (by omega) (by omega) (by decide) (by decide)
          have cr10 := mT pr10 hT (by omega) (by omega) (by omega) (by omega)
          have dr10 := mP11 cr10 hI (by omega) (by omega) (by omega)
          have hz : z7.toInt = 0 := by omega
          exact tc_pret E hr hlk eH eL rfl (un_fin hex30 cr3 cr10 pr4 ez6 ez7 hz (by omega) (by omega)) dX10_untold_68
  refine lv_aload_n hx hb dX10_untold_0 rfl (lv_at hl 0 rfl) ?_
  refine lv_iload_n hx hb dX10_untold_1 rfl (lv_at hl 1 rfl) ?_
  refine lv_iconst (v := 1) hx hb dX10_untold_2 (by decide) ?_
  refine tc_callp (mc_runV (As := [.int x1, .int 1]) (rest := []) E hG (c_X10_get l G Y h0 x1 (1 : Int32) t0 (by omega) (by omega) (by decide) (by decide)) t0 rfl kv_X10_get ml_X10_91 ⟨rfl, rfl, Nat.le_of_ble_eq_true rfl, Nat.le_of_ble_eq_true rfl⟩ rfl hl.1 rfl (Nat.le_of_ble_eq_true rfl) ⟨Nat.zero_le _, Nat.zero_le _⟩ dX10_untold_3) (fun r11 pr11 => ?_)
  replace pr11 : mV Y (ix x1.toInt (1 : Int32).toInt) r11 := pr11
  have pr11 := mV_l pr11 kI_1
  have br11 := mV_1 pr11 (by omega)
  have cr11 := mT pr11 hT (by omega) (by omega) (by decide) (by decide)
  have k12 := kI_1
  refine lv_istore_n (lv' := [(3, .int r11), (0, .ref h0), (1, .int x1), (2, .int x2)]) hx hb dX10_untold_6 rfl hl (by decide) rfl (fun ls hl => ?_)
  refine lv_iload_n hx hb dX10_untold_7 rfl (lv_at hl 0 rfl) ?_
  refine lv_iconst (v := 5) hx hb dX10_untold_8 (by decide) ?_
  refine lv_icmp_ne (tgt := 16) hx hb dX10_untold_9 (by decide) (fun c13 => ?_) (fun c13 => ?_)
  · skip
    have ic13 := tn_ne rfl kI_5 c13
    refine lv_iload_n hx hb dX10_untold_16 rfl (lv_at hl 3 rfl) ?_
    refine lv_istore (lv' := [(4, .int x2), (3, .int r11), (0, .ref h0), (1, .int x1), (2, .int x2)]) hx hb dX10_untold_17 hl (by decide) rfl (fun ls hl => ?_)
    refine lv_iload_n hx hb dX10_untold_19 rfl (lv_at hl 1 rfl) ?_
    refine lv_bipush (v := 6) hx hb dX10_untold_20 (by decide) ?_
    refine lv_icmp_ne (tgt := 27) hx hb dX10_untold_22 (by decide) (fun c14 => ?_) (fun c14 => ?_)
    · skip
      have ic14 := tn_ne rfl kI_6 c14
      refine lv_iconst (v := 0) hx hb dX10_untold_27 (by decide) ?_
      refine lv_istore (lv' := [(5, .int 0), (4, .int x2), (3, .int r11), (0, .ref h0), (1, .int x1), (2, .int x2)]) hx hb dX10_untold_28 hl (by decide) rfl (fun ls hl => ?_)
      exact J30 ((8 - (0 : Int32).toInt).toNat + 1) ls x2 (0 : Int32) (lv_sub hl [3, 4, 1, 0] rfl) (by omega) (by omega) (by decide) (by decide) (by have k0 := kI_0; have k1 := kI_1; omega) (Nat.lt_succ_self _)
    · skip
      have ic14 := tn_eq rfl kI_6 c14
      refine lv_iconst (v := -1) hx hb dX10_untold_25 (by decide) ?_
      exact tc_pret E hr hlk eH eL rfl (show (-1 : Int32).toInt = -1 ∨ (x1.toInt < (-1 : Int32).toInt ∧ (-1 : Int32).toInt ≤ 23 ∧ (-1 : Int32).toInt < (t 3).toInt ∧ ∃ me : Int32, mV Y (ix (-1 : Int32).toInt 21) me ∧ ((K t x1.toInt 1 = 5 ∧ bU me 0) ∨ (¬ K t x1.toInt 1 = 5 ∧ bU me x2))) by have kk := kI_m1; exact Or.inl kk) dX10_untold_26
  · skip
    have ic13 := tn_eq rfl kI_5 c13
    refine lv_iconst (v := 0) hx hb dX10_untold_12 (by decide) ?_
    refine lv_goto (tgt := 17) hx hb dX10_untold_13 (by decide) ?_
    refine lv_istore (lv' := [(4, .int 0), (3, .int r11), (0, .ref h0), (1, .int x1), (2, .int x2)]) hx hb dX10_untold_17 hl (by decide) rfl (fun ls hl => ?_)
    refine lv_iload_n hx hb dX10_untold_19 rfl (lv_at hl 1 rfl) ?_
    refine lv_bipush (v := 6) hx hb dX10_untold_20 (by decide) ?_
    refine lv_icmp_ne (tgt := 27) hx hb dX10_untold_22 (by decide) (fun c15 => ?_) (fun c15 => ?_)
    · skip
      have ic15 := tn_ne rfl kI_6 c15
      refine lv_iconst (v := 0) hx hb dX10_untold_27 (by decide) ?_
      refine lv_istore (lv' := [(5, .int 0), (4, .int 0), (3, .int r11), (0, .ref h0), (1, .int x1), (2, .int x2)]) hx hb dX10_untold_28 hl (by decide) rfl (fun ls hl => ?_)
      exact J30 ((8 - (0 : Int32).toInt).toNat + 1) ls (0 : Int32) (0 : Int32) (lv_sub hl [3, 4, 1, 0] rfl) (by decide) (by decide) (by decide) (by decide) (by have k0 := kI_0; have k1 := kI_1; omega) (Nat.lt_succ_self _)
    · exfalso
      have ic15 := tn_eq rfl kI_6 c15
      omega

set_option maxHeartbeats 4000000 in
set_option maxRecDepth 100000 in
theorem c_X10_placeOf (l : Launch) (G : tG) (Y : mY) (h0 : Nat) (x1 : Int32) (t0 : Y.1 h0 = 1) (l1 : 0 ≤ x1.toInt) (u1 : x1.toInt ≤ 23) (t : Nat → Int32) (hT : TI Y t) (hI : TInv t) (hp : 0 ≤ K t x1.toInt 9) (i0 : Int) (h00 : 0 ≤ i0) (h01 : i0 ≤ 7) (h03 : K t (K t x1.toInt 9) (11 + i0) = x1.toInt) : Met l yX10_placeOf (.code yX10_placeOf cX10_placeOf 4 (some .int) :: tWS) (tRm 2 44) (va_Pc [.ref h0, .int x1] (mPre G Y)) (tQp (fun r => 0 ≤ r.toInt ∧ r.toInt ≤ i0 ∧ K t (K t x1.toInt 9) (11 + r.toInt) = x1.toInt)) 0 0 tNo := by
  refine mc_met (by decide) (Nat.le_of_ble_eq_true rfl) ?_
  intro p e s m below meth c E hr hlk hG ls hl
  have hl : lv_has ls 4 [(0, .ref h0), (1, .int x1)] := hl
  have hx := E.1
  have hb := E.2.1
  obtain ⟨H, eH⟩ : ∃ H, H = s.heap := ⟨_, rfl⟩
  obtain ⟨locs, eL⟩ : ∃ x : List Loc, x = [] := ⟨_, rfl⟩
  have hG : mGH G Y s H locs := by rw [eH, eL]; exact hG
  suffices hW : W p l e (tRm 2 44) s m ([.ref h0, .int x1] : List Value).toArray below meth c H locs 0 0 (MQ below (tQp (fun r => 0 ≤ r.toInt ∧ r.toInt ≤ i0 ∧ K t (K t x1.toInt 9) (11 + r.toInt) = x1.toInt)) ([.ref h0, .int x1] : List Value).toArray s 0 0 tNo) (F0 m 0 ls []) by subst eH; subst eL; exact hW
  have J10 : ∀ (n10 : Nat) (ls : Array Slot) (v2 : Int32) (v3 : Int32), lv_has ls 4 [(0, .ref h0), (1, .int x1), (2, .int v2), (3, .int v3)] → 0 ≤ v2.toInt → v2.toInt ≤ 23 → 0 ≤ v3.toInt → v3.toInt ≤ 7 → (v2.toInt = K t x1.toInt 9 ∧ v3.toInt ≤ i0) → (7 - v3.toInt).toNat < n10 → W p l e (tRm 2 44) s m ([.ref h0, .int x1] : List Value).toArray below meth c H locs 0 0 (MQ below (tQp (fun r => 0 ≤ r.toInt ∧ r.toInt ≤ i0 ∧ K t (K t x1.toInt 9) (11 + r.toInt) = x1.toInt)) ([.ref h0, .int x1] : List Value).toArray s 0 0 tNo) (F0 m 10 ls []) := by
    intro n10
    induction n10 with
    | zero => intro ls v2 v3 hl b2 c2 b3 c3 hex10 hn10; exact absurd hn10 (Nat.not_lt_zero _)
    | succ n10 ih10 =>
      intro ls v2 v3 hl b2 c2 b3 c3 hex10 hn10
      refine lv_aload_n hx hb dX10_placeOf_10 rfl (lv_at hl 0 rfl) ?_
      refine lv_iload_n hx hb dX10_placeOf_11 rfl (lv_at hl 2 rfl) ?_
      refine lv_iload_n hx hb dX10_placeOf_12 rfl (lv_at hl 3 rfl) ?_
      refine tc_callp (mc_runV (As := [.int v2, .int v3]) (rest := []) E hG (c_X10_childOf l G Y h0 v2 v3 t0 (by omega) (by omega) (by omega) (by omega)) t0 rfl kv_X10_childOf ml_X10_153 ⟨rfl, rfl, Nat.le_of_ble_eq_true rfl, Nat.le_of_ble_eq_true rfl⟩ rfl hl.1 rfl (Nat.le_of_ble_eq_true rfl) ⟨Nat.zero_le _, Nat.zero_le _⟩ dX10_placeOf_13) (fun r1 pr1 => ?_)
      replace pr1 : mV Y (ix v2.toInt (11 + v3.toInt)) r1 := pr1
      have br1 := mV_r 11 18 0 23 pr1 (by omega) (by omega) (by omega) (by decide) (by decide)
      have cr1 := mT pr1 hT (by omega) (by omega) (by omega) (by omega)
      have dr1 := mP11 cr1 hI (by omega) (by omega) (by omega)
      refine lv_iload_n hx hb dX10_placeOf_16 rfl (lv_at hl 1 rfl) ?_
      refine lv_icmp_eq (tgt := 26) hx hb dX10_placeOf_17 (by decide) (fun c2 => ?_) (fun c2 => ?_)
      · skip
        have ic2 := tn_eq rfl rfl c2
        refine lv_iload_n hx hb dX10_placeOf_26 rfl (lv_at hl 3 rfl) ?_
        have hk : K t (K t x1.toInt 9) (11 + v3.toInt) = x1.toInt := by rw [hex10.1] at cr1; omega
        exact tc_pret E hr hlk eH eL rfl ⟨by omega, by omega, hk⟩ dX10_placeOf_27
      · skip
        have ic2 := tn_ne rfl rfl c2
        have hne : ¬ v3.toInt = i0 := fun z => by rw [z, hex10.1] at cr1; omega
        obtain ⟨z3, ez3⟩ : ∃ y : Int32, y = v3 + (1) := ⟨_, rfl⟩
        refine lv_iinc (v := z3) (lv' := [(3, .int z3), (0, .ref h0), (1, .int x1), (2, .int v2)]) hx hb dX10_placeOf_20 hl (k := 3) rfl (by rw [ez3]; rfl) (by decide) rfl (fun ls hl => ?_)
        have tz3 := tn_add ez3 rfl kI_1 (by omega) (by omega)
        refine lv_goto (tgt := 10) hx hb dX10_placeOf_23 (by decide) ?_
        exact ih10 ls v2 z3 (lv_sub hl [1, 2, 3, 0] rfl) (by omega) (by omega) (by omega) (by omega) (by have k0 := kI_0; have k1 := kI_1; omega) (by omega)
  refine lv_aload_n hx hb dX10_placeOf_0 rfl (lv_at hl 0 rfl) ?_
  refine lv_iload_n hx hb dX10_placeOf_1 rfl (lv_at hl 1 rfl) ?_
  refine lv_bipush (v := 9) hx hb dX10_placeOf_2 (by decide) ?_
  refine tc_callp (mc_runV (As := [.int x1, .int 9]) (rest := []) E hG (c_X10_get l G Y h0 x1 (9 : Int32) t0 (by omega) (by omega) (by decide) (by decide)) t0 rfl kv_X10_get ml_X10_91 ⟨rfl, rfl, Nat.le_of_ble_eq_true rfl, Nat.le_of_ble_eq_true rfl⟩ rfl hl.1 rfl (Nat.le_of_ble_eq_true rfl) ⟨Nat.zero_le _, Nat.zero_le _⟩ dX10_placeOf_4) (fun r4 pr4 => ?_)
  replace pr4 : mV Y (ix x1.toInt (9 : Int32).toInt) r4 := pr4
  have pr4 := mV_l pr4 kI_9
  have br4 := mV_9 pr4 (by omega)
  have cr4 := mT pr4 hT (by omega) (by omega) (by decide) (by decide)
  have dr4 := mP9 cr4 hI (by omega)
  have k5 := kI_9
  refine lv_istore_n (lv' := [(2, .int r4), (0, .ref h0), (1, .int x1)]) hx hb dX10_placeOf_7 rfl hl (by decide) rfl (fun ls hl => ?_)
  refine lv_iconst (v := 0) hx hb dX10_placeOf_8 (by decide) ?_
  refine lv_istore_n (lv' := [(3, .int 0), (2, .int r4), (0, .ref h0), (1, .int x1)]) hx hb dX10_placeOf_9 rfl hl (by decide) rfl (fun ls hl => ?_)
  exact J10 ((7 - (0 : Int32).toInt).toNat + 1) ls r4 (0 : Int32) (lv_sub hl [2, 3, 1, 0] rfl) (by omega) (by omega) (by decide) (by decide) (by have k0 := kI_0; have k1 := kI_1; omega) (Nat.lt_succ_self _)

set_option maxHeartbeats 4000000 in
set_option maxRecDepth 100000 in
theorem c_X10_nameLetter (l : Launch) (G : tG) (Y : mY) (h0 : Nat) (x1 : Int32) (x2 : Int32) (t0 : Y.1 h0 = 1) (l1 : 0 ≤ x1.toInt) (u1 : x1.toInt ≤ 9) (l2 : 0 ≤ x2.toInt) (u2 : x2.toInt ≤ 6) : Met l yX10_nameLetter (.code yX10_nameLetter cX10_nameLetter 3 (some .int) :: tWS) (tRm 0 0) (va_Pc [.ref h0, .int x1, .int x2] (mPre G Y)) (tQp (fun r => 0 ≤ r.toInt ∧ r.toInt ≤ 127)) 0 0 tNo := by
  refine mc_met (by decide) (Nat.le_of_ble_eq_true rfl) ?_
  intro p e s m below meth c E hr hlk hG ls hl
  have hl : lv_has ls 3 [(0, .ref h0), (1, .int x1), (2, .int x2)] := hl
  have hx := E.1
  have hb := E.2.1
  obtain ⟨H, eH⟩ : ∃ H, H = s.heap := ⟨_, rfl⟩
  obtain ⟨locs, eL⟩ : ∃ x : List Loc, x = [] := ⟨_, rfl⟩
  have hG : mGH G Y s H locs := by rw [eH, eL]; exact hG
  suffices hW : W p l e (tRm 0 0) s m ([.ref h0, .int x1, .int x2] : List Value).toArray below meth c H locs 0 0 (MQ below (tQp (fun r => 0 ≤ r.toInt ∧ r.toInt ≤ 127)) ([.ref h0, .int x1, .int x2] : List Value).toArray s 0 0 tNo) (F0 m 0 ls []) by subst eH; subst eL; exact hW
  refine lv_iload_n hx hb dX10_nameLetter_0 rfl (lv_at hl 2 rfl) ?_
  refine lv_bipush (v := 6) hx hb dX10_nameLetter_1 (by decide) ?_
  refine lv_icmp_ge (tgt := 20) hx hb dX10_nameLetter_3 (by decide) (fun c1 => ?_) (fun c1 => ?_)
  · skip
    have ic1 := tn_le kI_6 rfl c1
    refine lv_iconst (v := 0) hx hb dX10_nameLetter_20 (by decide) ?_
    exact tc_pret E hr hlk eH eL rfl (show 0 ≤ (0 : Int32).toInt ∧ (0 : Int32).toInt ≤ 127 by have kk := kI_0; omega) dX10_nameLetter_21
  · skip
    have ic1 := tn_nle kI_6 rfl c1
    refine lv_aload_n hx hb dX10_nameLetter_6 rfl (lv_at hl 0 rfl) ?_
    refine mc_getr E hG t0 mr_57 dX10_nameLetter_7 (fun oa2 hoa2 => ?_)
    refine lv_bipush (v := 6) hx hb dX10_nameLetter_10 (by decide) ?_
    refine lv_iload_n hx hb dX10_nameLetter_12 rfl (lv_at hl 1 rfl) ?_
    refine lv_imul hx hb dX10_nameLetter_13 ?_
    refine lv_topi (fun z3 ez3 => ?_)
    have tz3 := tn_mul ez3 kI_6 rfl (by omega) (by omega)
    refine lv_iload_n hx hb dX10_nameLetter_14 rfl (lv_at hl 2 rfl) ?_
    refine lv_iadd hx hb dX10_nameLetter_15 ?_
    refine lv_topi (fun z4 ez4 => ?_)
    have tz4 := tn_add ez4 rfl rfl (by omega) (by omega)
    refine mc_iald15 E hG hoa2 ma_16 (t_in (by omega) (by omega)) dX10_nameLetter_16 (fun z5 lz5 uz5 qz5 => ?_)
    refine lv_goto (tgt := 21) hx hb dX10_nameLetter_17 (by decide) ?_
    exact tc_pret E hr hlk eH eL rfl (show 0 ≤ z5.toInt ∧ z5.toInt ≤ 127 by omega) dX10_nameLetter_21

set_option maxHeartbeats 4000000 in
set_option maxRecDepth 100000 in
theorem c_X10_many2 (l : Launch) (G : tG) (Y : mY) (h0 : Nat) (t0 : Y.1 h0 = 1) (t : Nat → Int32) (hT : TI Y t) (hI : TInv t) : Met l yX10_many (.code yX10_many cX10_many 3 (some .int) :: tWS) (tRm 2 46) (va_Pc [.ref h0] (mPre G Y)) (tQp (fun r => r.toInt = cB t 24 ∧ 0 ≤ r.toInt ∧ r.toInt ≤ 24)) 0 0 tNo := by
  refine mc_met (by decide) (Nat.le_of_ble_eq_true rfl) ?_
  intro p e s m below meth c E hr hlk hG ls hl
  have hl : lv_has ls 3 [(0, .ref h0)] := hl
  have hx := E.1
  have hb := E.2.1
  obtain ⟨H, eH⟩ : ∃ H, H = s.heap := ⟨_, rfl⟩
  obtain ⟨locs, eL⟩ : ∃ x : List Loc, x = [] := ⟨_, rfl⟩
  have hG : mGH G Y s H locs := by rw [eH, eL]; exact hG
  suffices hW : W p l e (tRm 2 46) s m ([.ref h0] : List Value).toArray below meth c H locs 0 0 (MQ below (tQp (fun r => r.toInt = cB t 24 ∧ 0 ≤ r.toInt ∧ r.toInt ≤ 24)) ([.ref h0] : List Value).toArray s 0 0 tNo) (F0 m 0 ls []) by subst eH; subst eL; exact hW
  have J4 : ∀ (n4 : Nat) (ls : Array Slot) (v1 : Int32) (v2 : Int32), lv_has ls 3 [(0, .ref h0), (1, .int v1), (2, .int v2)] → 0 ≤ v1.toInt → v1.toInt ≤ 24 → 0 ≤ v2.toInt → v2.toInt ≤ 24 → (v1.toInt = cB t v2.toInt.toNat ∧ v1.toInt ≤ v2.toInt) → (24 - v2.toInt).toNat < n4 → W p l e (tRm 2 46) s m ([.ref h0] : List Value).toArray below meth c H locs 0 0 (MQ below (tQp (fun r => r.toInt = cB t 24 ∧ 0 ≤ r.toInt ∧ r.toInt ≤ 24)) ([.ref h0] : List Value).toArray s 0 0 tNo) (F0 m 4 ls []) := by
    intro n4
    induction n4 with
    | zero => intro ls v1 v2 hl b1 c1 b2 c2 hex4 hn4; exact absurd hn4 (Nat.not_lt_zero _)
    | succ n4 ih4 =>
      intro ls v1 v2 hl b1 c1 b2 c2 hex4 hn4
      refine lv_iload_n hx hb dX10_many_4 rfl (lv_at hl 2 rfl) ?_
      refine lv_bipush (v := 24) hx hb dX10_many_5 (by decide) ?_
      refine lv_icmp_ge (tgt := 32) hx hb dX10_many_7 (by decide) (fun c1 => ?_) (fun c1 => ?_)
      · skip
        have ic1 := tn_le kI_24 rfl c1
        refine lv_iload_n hx hb dX10_many_32 rfl (lv_at hl 1 rfl) ?_
        exact tc_pret E hr hlk eH eL rfl (show v1.toInt = cB t 24 ∧ 0 ≤ v1.toInt ∧ v1.toInt ≤ 24 by have e24 : v2.toInt.toNat = 24 := (by omega); have h4 := hex4.1; rw [e24] at h4; omega) dX10_many_33
      · skip
        have ic1 := tn_nle kI_24 rfl c1
        refine lv_iload_n hx hb dX10_many_10 rfl (lv_at hl 1 rfl) ?_
        refine lv_aload_n hx hb dX10_many_11 rfl (lv_at hl 0 rfl) ?_
        refine lv_iload_n hx hb dX10_many_12 rfl (lv_at hl 2 rfl) ?_
        refine tc_callp (mc_runV (As := [.int v2]) (rest := [.int v1]) E hG (c_X10_isBox l G Y h0 v2 t0) t0 rfl kv_X10_isBox ml_X10_127 ⟨rfl, rfl, Nat.le_of_ble_eq_true rfl, Nat.le_of_ble_eq_true rfl⟩ rfl hl.1 rfl (Nat.le_of_ble_eq_true rfl) ⟨Nat.zero_le _, Nat.zero_le _⟩ dX10_many_13) (fun r2 pr2 => ?_)
        replace pr2 : (r2.toInt = 1 ∧ 0 ≤ v2.toInt ∧ v2.toInt ≤ 23 ∧ mV Y (ix v2.toInt 0) 1) ∨ (r2.toInt = 0 ∧ (v2.toInt < 0 ∨ 23 < v2.toInt ∨ ∃ v : Int32, ¬ v.toInt = 1 ∧ mV Y (ix v2.toInt 0) v)) := pr2
        have cr2 := mB pr2 hT hI
        clear pr2
        refine lv_if_eq (tgt := 23) hx hb dX10_many_16 (by decide) (fun c3 => ?_) (fun c3 => ?_)
        · skip
          have ic3 := tn_eq rfl kI_0 c3
          refine lv_iconst (v := 0) hx hb dX10_many_23 (by decide) ?_
          refine lv_iadd hx hb dX10_many_24 ?_
          refine lv_topi (fun z4 ez4 => ?_)
          have tz4 := tn_add ez4 rfl kI_0 (by omega) (by omega)
          refine lv_istore_n (lv' := [(1, .int z4), (0, .ref h0), (2, .int v2)]) hx hb dX10_many_25 rfl hl (by decide) rfl (fun ls hl => ?_)
          obtain ⟨z5, ez5⟩ : ∃ y : Int32, y = v2 + (1) := ⟨_, rfl⟩
          refine lv_iinc (v := z5) (lv' := [(2, .int z5), (1, .int z4), (0, .ref h0)]) hx hb dX10_many_26 hl (k := 2) rfl (by rw [ez5]; rfl) (by decide) rfl (fun ls hl => ?_)
          have tz5 := tn_add ez5 rfl kI_1 (by omega) (by omega)
          refine lv_goto (tgt := 4) hx hb dX10_many_29 (by decide) ?_
          have hb1 : cB t z5.toInt.toNat = cB t v2.toInt.toNat + r2.toInt := by
            rcases cr2 with ⟨w1, w2, w3, w4, _⟩ | ⟨w1, w2⟩
            · rw [cB_1 (b := v2.toInt) (by omega) (by omega) w4, w1]
            · rw [cB_0 (b := v2.toInt) (by omega) (by omega) (by rcases w2 with w | w | w; exact absurd w (by omega); exact absurd w (by omega); exact w), w1]; omega
          exact ih4 ls z4 z5 (lv_sub hl [2, 1, 0] rfl) (by omega) (by omega) (by omega) (by omega) (by first | (have k0 := kI_0; omega) | (rw [kI_0]; exact ⟨rfl, by decide⟩)) (by omega)
        · skip
          have ic3 := tn_ne rfl kI_0 c3
          refine lv_iconst (v := 1) hx hb dX10_many_19 (by decide) ?_
          refine lv_goto (tgt := 24) hx hb dX10_many_20 (by decide) ?_
          refine lv_iadd hx hb dX10_many_24 ?_
          refine lv_topi (fun z6 ez6 => ?_)
          have tz6 := tn_add ez6 rfl kI_1 (by omega) (by omega)
          refine lv_istore_n (lv' := [(1, .int z6), (0, .ref h0), (2, .int v2)]) hx hb dX10_many_25 rfl hl (by decide) rfl (fun ls hl => ?_)
          obtain ⟨z7, ez7⟩ : ∃ y : Int32, y = v2 + (1) := ⟨_, rfl⟩
          refine lv_iinc (v := z7) (lv' := [(2, .int z7), (1, .int z6), (0, .ref h0)]) hx hb dX10_many_26 hl (k := 2) rfl (by rw [ez7]; rfl) (by decide) rfl (fun ls hl => ?_)
          have tz7 := tn_add ez7 rfl kI_1 (by omega) (by omega)
          refine lv_goto (tgt := 4) hx hb dX10_many_29 (by decide) ?_
          have hb1 : cB t z7.toInt.toNat = cB t v2.toInt.toNat + r2.toInt := by
            rcases cr2 with ⟨w1, w2, w3, w4, _⟩ | ⟨w1, w2⟩
            · rw [cB_1 (b := v2.toInt) (by omega) (by omega) w4, w1]
            · rw [cB_0 (b := v2.toInt) (by omega) (by omega) (by rcases w2 with w | w | w; exact absurd w (by omega); exact absurd w (by omega); exact w), w1]; omega
          exact ih4 ls z6 z7 (lv_sub hl [2, 1, 0] rfl) (by omega) (by omega) (by omega) (by omega) (by first | (have k0 := kI_0; omega) | (rw [kI_0]; exact ⟨rfl, by decide⟩)) (by omega)
  refine lv_iconst (v := 0) hx hb dX10_many_0 (by decide) ?_
  refine lv_istore_n (lv' := [(1, .int 0), (0, .ref h0)]) hx hb dX10_many_1 rfl hl (by decide) rfl (fun ls hl => ?_)
  refine lv_iconst (v := 0) hx hb dX10_many_2 (by decide) ?_
  refine lv_istore_n (lv' := [(2, .int 0), (1, .int 0), (0, .ref h0)]) hx hb dX10_many_3 rfl hl (by decide) rfl (fun ls hl => ?_)
  exact J4 ((24 - (0 : Int32).toInt).toNat + 1) ls (0 : Int32) (0 : Int32) (lv_sub hl [2, 1, 0] rfl) (by decide) (by decide) (by decide) (by decide) (by first | (have k0 := kI_0; omega) | (rw [kI_0]; exact ⟨rfl, by decide⟩)) (Nat.lt_succ_self _)

set_option maxHeartbeats 4000000 in
set_option maxRecDepth 100000 in
theorem c_X10_peek (l : Launch) (G : tG) (Y : mY) (h0 : Nat) (x1 : Int32) (x2 : Int32) (t0 : Y.1 h0 = 1) : Met l yX10_peek (.code yX10_peek cX10_peek 3 (some .long) :: tWS) (tRm 2 45) (va_Pc [.ref h0, .int x1, .int x2] (mPre G Y)) (tQpl (fun r => True)) 0 0 tNo := by
  refine mc_met (by decide) (Nat.le_of_ble_eq_true rfl) ?_
  intro p e s m below meth c E hr hlk hG ls hl
  have hl : lv_has ls 3 [(0, .ref h0), (1, .int x1), (2, .int x2)] := hl
  have hx := E.1
  have hb := E.2.1
  obtain ⟨H, eH⟩ : ∃ H, H = s.heap := ⟨_, rfl⟩
  obtain ⟨locs, eL⟩ : ∃ x : List Loc, x = [] := ⟨_, rfl⟩
  have hG : mGH G Y s H locs := by rw [eH, eL]; exact hG
  suffices hW : W p l e (tRm 2 45) s m ([.ref h0, .int x1, .int x2] : List Value).toArray below meth c H locs 0 0 (MQ below (tQpl (fun r => True)) ([.ref h0, .int x1, .int x2] : List Value).toArray s 0 0 tNo) (F0 m 0 ls []) by subst eH; subst eL; exact hW
  refine lv_iload_n hx hb dX10_peek_0 rfl (lv_at hl 1 rfl) ?_
  refine tc_callp (mc_runS (As := [.int x1]) (rest := []) E hG (c_X10_isTape l G Y x1) ks_X10_isTape ml_X10_440 ⟨rfl, rfl, Nat.le_of_ble_eq_true rfl, Nat.le_of_ble_eq_true rfl⟩ rfl hl.1 rfl (Nat.le_of_ble_eq_true rfl) ⟨Nat.zero_le _, Nat.zero_le _⟩ dX10_peek_1) (fun r1 pr1 => ?_)
  replace pr1 : (r1.toInt = 1 ∧ 0 ≤ x1.toInt ∧ x1.toInt ≤ 3) ∨ (r1.toInt = 0 ∧ (x1.toInt < 0 ∨ 3 < x1.toInt)) := pr1
  refine lv_if_eq (tgt := 39) hx hb dX10_peek_4 (by decide) (fun c2 => ?_) (fun c2 => ?_)
  · skip
    have ic2 := tn_eq rfl kI_0 c2
    refine lv_ldc2 (v := -9223372036854775808) hx hb E.2.2.2.1 (E.2.2.2.2.1 _ (t_w8 111 rfl rfl)) dX10_peek_39 ?_
    refine lv_topl (fun z3 ez3 => ?_)
    have tz3 : z3.toInt = -9223372036854775808 := by rw [ez3]; decide
    exact tc_plret E hr hlk eH eL trivial dX10_peek_42
  · skip
    have ic2 := tn_ne rfl kI_0 c2
    refine lv_iload_n hx hb dX10_peek_7 rfl (lv_at hl 2 rfl) ?_
    refine lv_i2l hx hb dX10_peek_8 rfl ?_
    refine lv_topl (fun z4 ez4 => ?_)
    have tz4 := tl_i2l ez4
    refine lv_lconst (v := 0) hx hb dX10_peek_9 (by decide) ?_
    refine lv_topl (fun z5 ez5 => ?_)
    have tz5 : z5.toInt = 0 := by rw [ez5]; decide
    refine lv_aload_n hx hb dX10_peek_10 rfl (lv_at hl 0 rfl) ?_
    refine mc_getr E hG t0 mr_75 dX10_peek_11 (fun oa6 hoa6 => ?_)
    refine lv_iload_n hx hb dX10_peek_14 rfl (lv_at hl 1 rfl) ?_
    refine mc_iald E hG hoa6 ma_22 (t_in (by omega) (by omega)) dX10_peek_15 (fun z7 lz7 uz7 qz7 => ?_)
    refine lv_iconst (v := 1) hx hb dX10_peek_16 (by decide) ?_
    refine lv_isub hx hb dX10_peek_17 ?_
    refine lv_topi (fun z8 ez8 => ?_)
    have tz8 := tn_sub ez8 rfl kI_1 (by omega) (by omega)
    refine lv_i2l hx hb dX10_peek_18 rfl ?_
    refine lv_topl (fun z9 ez9 => ?_)
    have tz9 := tl_i2l ez9
    refine tc_callp (mc_runS (As := [.long z4, .long z5, .long z9]) (rest := []) E hG (c_X10_in l G Y z4 z5 z9) ks_X10_in ml_X10_87 ⟨rfl, rfl, Nat.le_of_ble_eq_true rfl, Nat.le_of_ble_eq_true rfl⟩ rfl hl.1 rfl (Nat.le_of_ble_eq_true rfl) ⟨Nat.zero_le _, Nat.zero_le _⟩ dX10_peek_19) (fun r10 pr10 => ?_)
    replace pr10 : ((r10.toInt = 1 ∧ z5.toInt ≤ z4.toInt ∧ z4.toInt ≤ z9.toInt) ∨ (r10.toInt = 0 ∧ (z4.toInt < z5.toInt ∨ z9.toInt < z4.toInt))) := pr10
    refine lv_if_eq (tgt := 39) hx hb dX10_peek_22 (by decide) (fun c11 => ?_) (fun c11 => ?_)
    · skip
      have ic11 := tn_eq rfl kI_0 c11
      refine lv_ldc2 (v := -9223372036854775808) hx hb E.2.2.2.1 (E.2.2.2.2.1 _ (t_w8 111 rfl rfl)) dX10_peek_39 ?_
      refine lv_topl (fun z12 ez12 => ?_)
      have tz12 : z12.toInt = -9223372036854775808 := by rw [ez12]; decide
      exact tc_plret E hr hlk eH eL trivial dX10_peek_42
    · skip
      have ic11 := tn_ne rfl kI_0 c11
      refine lv_aload_n hx hb dX10_peek_25 rfl (lv_at hl 0 rfl) ?_
      refine mc_getr E hG t0 mr_78 dX10_peek_26 (fun oa13 hoa13 => ?_)
      refine lv_bipush (v := 60) hx hb dX10_peek_29 (by decide) ?_
      refine lv_iload_n hx hb dX10_peek_31 rfl (lv_at hl 1 rfl) ?_
      refine lv_imul hx hb dX10_peek_32 ?_
      refine lv_topi (fun z14 ez14 => ?_)
      have tz14 := tn_mul ez14 kI_60 rfl (by omega) (by omega)
      refine lv_iload_n hx hb dX10_peek_33 rfl (lv_at hl 2 rfl) ?_
      refine lv_iadd hx hb dX10_peek_34 ?_
      refine lv_topi (fun z15 ez15 => ?_)
      have tz15 := tn_add ez15 rfl rfl (by omega) (by omega)
      refine mc_lald E hG hoa13 mal_23 (t_in (by omega) (by omega)) dX10_peek_35 (fun z16 => ?_)
      refine lv_goto (tgt := 42) hx hb dX10_peek_36 (by decide) ?_
      exact tc_plret E hr hlk eH eL trivial dX10_peek_42

set_option maxHeartbeats 4000000 in
set_option maxRecDepth 100000 in
theorem c_X10_judge (l : Launch) (G : tG) (Y : mY) (h0 : Nat) (x1 : Int32) (x2 : Int32) (t0 : Y.1 h0 = 1) : Met l yX10_judge (.code yX10_judge cX10_judge 5 (some .int) :: tWS) (tRm 2 46) (va_Pc [.ref h0, .int x1, .int x2] (mPre G Y)) (tQp (fun r => True)) 0 0 tNo := by
  refine mc_met (by decide) (Nat.le_of_ble_eq_true rfl) ?_
  intro p e s m below meth c E hr hlk hG ls hl
  have hl : lv_has ls 5 [(0, .ref h0), (1, .int x1), (2, .int x2)] := hl
  have hx := E.1
  have hb := E.2.1
  obtain ⟨H, eH⟩ : ∃ H, H = s.heap := ⟨_, rfl⟩
  obtain ⟨locs, eL⟩ : ∃ x : List Loc, x = [] := ⟨_, rfl⟩
  have hG : mGH G Y s H locs := by rw [eH, eL]; exact hG
  suffices hW : W p l e (tRm 2 46) s m ([.ref h0, .int x1, .int x2] : List Value).toArray below meth c H locs 0 0 (MQ below (tQp (fun r => True)) ([.ref h0, .int x1, .int x2] : List Value).toArray s 0 0 tNo) (F0 m 0 ls []) by subst eH; subst eL; exact hW
  have J36 : ∀ (n36 : Nat) (ls : Array Slot) (v3 : Int32) (v4 : Int32), lv_has ls 5 [(0, .ref h0), (1, .int x1), (2, .int x2), (3, .int v3), (4, .int v4)] → 0 ≤ x1.toInt → x1.toInt ≤ 3 → 0 ≤ v3.toInt → v3.toInt ≤ 24 → 0 ≤ v4.toInt → v4.toInt ≤ 24 → v3.toInt ≤ v4.toInt → (24 - v4.toInt).toNat < n36 → W p l e (tRm 2 46) s m ([.ref h0, .int x1, .int x2] : List Value).toArray below meth c H locs 0 0 (MQ below (tQp (fun r => True)) ([.ref h0, .int x1, .int x2] : List Value).toArray s 0 0 tNo) (F0 m 36 ls []) := by
    intro n36
    induction n36 with
    | zero => intro ls v3 v4 hl bp1 cp1 b3 c3 b4 c4 hex36 hn36; exact absurd hn36 (Nat.not_lt_zero _)
    | succ n36 ih36 =>
      intro ls v3 v4 hl bp1 cp1 b3 c3 b4 c4 hex36 hn36
      refine lv_iload hx hb dX10_judge_36 (lv_at hl 4 rfl) ?_
      refine lv_bipush (v := 24) hx hb dX10_judge_38 (by decide) ?_
      refine lv_icmp_ge (tgt := 115) hx hb dX10_judge_40 (by decide) (fun c1 => ?_) (fun c1 => ?_)
      · skip
        have ic1 := tn_le kI_24 rfl c1
        refine lv_bipush (v := -5) hx hb dX10_judge_115 (by decide) ?_
        exact tc_pret E hr hlk eH eL rfl trivial dX10_judge_117
      · skip
        have ic1 := tn_nle kI_24 rfl c1
        refine lv_aload_n hx hb dX10_judge_43 rfl (lv_at hl 0 rfl) ?_
        refine lv_iload hx hb dX10_judge_44 (lv_at hl 4 rfl) ?_
        refine tc_callp (mc_runV (As := [.int v4]) (rest := []) E hG (c_X10_isBox l G Y h0 v4 t0) t0 rfl kv_X10_isBox ml_X10_127 ⟨rfl, rfl, Nat.le_of_ble_eq_true rfl, Nat.le_of_ble_eq_true rfl⟩ rfl hl.1 rfl (Nat.le_of_ble_eq_true rfl) ⟨Nat.zero_le _, Nat.zero_le _⟩ dX10_judge_46) (fun r2 pr2 => ?_)
        replace pr2 : (r2.toInt = 1 ∧ 0 ≤ v4.toInt ∧ v4.toInt ≤ 23 ∧ mV Y (ix v4.toInt 0) 1) ∨ (r2.toInt = 0 ∧ (v4.toInt < 0 ∨ 23 < v4.toInt ∨ ∃ v : Int32, ¬ v.toInt = 1 ∧ mV Y (ix v4.toInt 0) v)) := pr2
        replace pr2 := isB_w pr2
        refine lv_if_eq (tgt := 109) hx hb dX10_judge_49 (by decide) (fun c3 => ?_) (fun c3 => ?_)
        · skip
          have ic3 := tn_eq rfl kI_0 c3
          obtain ⟨z4, ez4⟩ : ∃ y : Int32, y = v4 + (1) := ⟨_, rfl⟩
          refine lv_iinc (v := z4) (lv' := [(4, .int z4), (0, .ref h0), (1, .int x1), (2, .int x2), (3, .int v3)]) hx hb dX10_judge_109 hl (k := 4) rfl (by rw [ez4]; rfl) (by decide) rfl (fun ls hl => ?_)
          have tz4 := tn_add ez4 rfl kI_1 (by omega) (by omega)
          refine lv_goto (tgt := 36) hx hb dX10_judge_112 (by decide) ?_
          exact ih36 ls v3 z4 (lv_sub hl [1, 2, 3, 4, 0] rfl) (by omega) (by omega) (by omega) (by omega) (by omega) (by omega) (by have k0 := kI_0; have k1 := kI_1; omega) (by omega)
        · skip
          have ic3 := tn_ne rfl kI_0 c3
          refine lv_iload_n hx hb dX10_judge_52 rfl (lv_at hl 2 rfl) ?_
          refine lv_if_lt (tgt := 72) hx hb dX10_judge_53 (by decide) (fun c5 => ?_) (fun c5 => ?_)
          · skip
            have ic5 := tn_lt rfl kI_0 c5
            refine lv_bipush (v := 100) hx hb dX10_judge_72 (by decide) ?_
            refine lv_iload_n hx hb dX10_judge_74 rfl (lv_at hl 3 rfl) ?_
            refine lv_iadd hx hb dX10_judge_75 ?_
            refine lv_topi (fun z6 ez6 => ?_)
            have tz6 := tn_add ez6 kI_100 rfl (by omega) (by omega)
            exact tc_pret E hr hlk eH eL rfl trivial dX10_judge_76
          · skip
            have ic5 := tn_nlt rfl kI_0 c5
            refine lv_iload_n hx hb dX10_judge_56 rfl (lv_at hl 2 rfl) ?_
            refine lv_i2l hx hb dX10_judge_57 rfl ?_
            refine lv_topl (fun z7 ez7 => ?_)
            have tz7 := tl_i2l ez7
            refine lv_iload_n hx hb dX10_judge_58 rfl (lv_at hl 3 rfl) ?_
            refine lv_i2l hx hb dX10_judge_59 rfl ?_
            refine lv_topl (fun z8 ez8 => ?_)
            have tz8 := tl_i2l ez8
            refine lv_ladd hx hb dX10_judge_60 ?_
            refine lv_topl (fun z9 ez9 => ?_)
            have y10 := t_any2 x2
            have tz9 := tl_add ez9 tz7 tz8 (by omega) (by omega)
            refine lv_aload_n hx hb dX10_judge_61 rfl (lv_at hl 0 rfl) ?_
            refine mc_getr E hG t0 mr_75 dX10_judge_62 (fun oa11 hoa11 => ?_)
            refine lv_iload_n hx hb dX10_judge_65 rfl (lv_at hl 1 rfl) ?_
            refine mc_iald E hG hoa11 ma_22 (t_in (by omega) (by omega)) dX10_judge_66 (fun z12 lz12 uz12 qz12 => ?_)
            refine lv_i2l hx hb dX10_judge_67 rfl ?_
            refine lv_topl (fun z13 ez13 => ?_)
            have tz13 := tl_i2l ez13
            refine W.lcmp hx hb dX10_judge_68 ?_
            refine lv_topi (fun z14 ez14 => ?_)
            have tz14 := tl_cmp ez14
            refine lv_if_lt (tgt := 77) hx hb dX10_judge_69 (by decide) (fun c15 => ?_) (fun c15 => ?_)
            · skip
              have ic15 := tn_lt rfl kI_0 c15
              refine lv_aload_n hx hb dX10_judge_77 rfl (lv_at hl 0 rfl) ?_
              refine mc_getr E hG t0 mr_78 dX10_judge_78 (fun oa16 hoa16 => ?_)
              refine lv_bipush (v := 60) hx hb dX10_judge_81 (by decide) ?_
              refine lv_iload_n hx hb dX10_judge_83 rfl (lv_at hl 1 rfl) ?_
              refine lv_imul hx hb dX10_judge_84 ?_
              refine lv_topi (fun z17 ez17 => ?_)
              have tz17 := tn_mul ez17 kI_60 rfl (by omega) (by omega)
              refine lv_iload_n hx hb dX10_judge_85 rfl (lv_at hl 2 rfl) ?_
              refine lv_iadd hx hb dX10_judge_86 ?_
              refine lv_topi (fun z18 ez18 => ?_)
              have tz18 := tn_add ez18 rfl rfl (by omega) (by omega)
              refine lv_iload_n hx hb dX10_judge_87 rfl (lv_at hl 3 rfl) ?_
              refine lv_iadd hx hb dX10_judge_88 ?_
              refine lv_topi (fun z19 ez19 => ?_)
              have tz19 := tn_add ez19 rfl rfl (by omega) (by omega)
              refine mc_lald E hG hoa16 mal_23 (t_in (by omega) (by omega)) dX10_judge_89 (fun z20 => ?_)
              refine lv_aload_n hx hb dX10_judge_90 rfl (lv_at hl 0 rfl) ?_
              refine lv_iload hx hb dX10_judge_91 (lv_at hl 4 rfl) ?_
              refine lv_bipush (v := 32) hx hb dX10_judge_93 (by decide) ?_
              refine tc_callp (mc_runV (As := [.int v4, .int 32]) (rest := [.long z20]) E hG (c_X10_get l G Y h0 v4 (32 : Int32) t0 (by omega) (by omega) (by decide) (by decide)) t0 rfl kv_X10_get ml_X10_91 ⟨rfl, rfl, Nat.le_of_ble_eq_true rfl, Nat.le_of_ble_eq_true rfl⟩ rfl hl.1 rfl (Nat.le_of_ble_eq_true rfl) ⟨Nat.zero_le _, Nat.zero_le _⟩ dX10_judge_95) (fun r21 pr21 => ?_)
              replace pr21 : mV Y (ix v4.toInt (32 : Int32).toInt) r21 := pr21
              have pr21 := mV_l pr21 kI_32
              have br21 := mV_32 pr21 (by omega)
              have k22 := kI_32
              refine lv_i2l hx hb dX10_judge_98 rfl ?_
              refine lv_topl (fun z23 ez23 => ?_)
              have tz23 := tl_i2l ez23
              refine W.lcmp hx hb dX10_judge_99 ?_
              refine lv_topi (fun z24 ez24 => ?_)
              have tz24 := tl_cmp ez24
              refine lv_if_eq (tgt := 106) hx hb dX10_judge_100 (by decide) (fun c25 => ?_) (fun c25 => ?_)
              · skip
                have ic25 := tn_eq rfl kI_0 c25
                obtain ⟨z26, ez26⟩ : ∃ y : Int32, y = v3 + (1) := ⟨_, rfl⟩
                refine lv_iinc (v := z26) (lv' := [(3, .int z26), (0, .ref h0), (1, .int x1), (2, .int x2), (4, .int v4)]) hx hb dX10_judge_106 hl (k := 3) rfl (by rw [ez26]; rfl) (by decide) rfl (fun ls hl => ?_)
                have tz26 := tn_add ez26 rfl kI_1 (by omega) (by omega)
                obtain ⟨z27, ez27⟩ : ∃ y : Int32, y = v4 + (1) := ⟨_, rfl⟩
                refine lv_iinc (v := z27) (lv' := [(4, .int z27), (3, .int z26), (0, .ref h0), (1, .int x1), (2, .int x2)]) hx hb dX10_judge_109 hl (k := 4) rfl (by rw [ez27]; rfl) (by decide) rfl (fun ls hl => ?_)
                have tz27 := tn_add ez27 rfl kI_1 (by omega) (by omega)
                refine lv_goto (tgt := 36) hx hb dX10_judge_112 (by decide) ?_
                exact ih36 ls z26 z27 (lv_sub hl [2, 3, 4, 1, 0] rfl) (by omega) (by omega) (by omega) (by omega) (by omega) (by omega) (by have k0 := kI_0; have k1 := kI_1; omega) (by omega)
              · skip
                have ic25 := tn_ne rfl kI_0 c25
                refine lv_iload hx hb dX10_judge_103 (lv_at hl 4 rfl) ?_
                exact tc_pret E hr hlk eH eL rfl trivial dX10_judge_105
            · skip
              have ic15 := tn_nlt rfl kI_0 c15
              refine lv_bipush (v := 100) hx hb dX10_judge_72 (by decide) ?_
              refine lv_iload_n hx hb dX10_judge_74 rfl (lv_at hl 3 rfl) ?_
              refine lv_iadd hx hb dX10_judge_75 ?_
              refine lv_topi (fun z28 ez28 => ?_)
              have tz28 := tn_add ez28 kI_100 rfl (by omega) (by omega)
              exact tc_pret E hr hlk eH eL rfl trivial dX10_judge_76
  refine lv_iload_n hx hb dX10_judge_0 rfl (lv_at hl 1 rfl) ?_
  refine tc_callp (mc_runS (As := [.int x1]) (rest := []) E hG (c_X10_isTape l G Y x1) ks_X10_isTape ml_X10_440 ⟨rfl, rfl, Nat.le_of_ble_eq_true rfl, Nat.le_of_ble_eq_true rfl⟩ rfl hl.1 rfl (Nat.le_of_ble_eq_true rfl) ⟨Nat.zero_le _, Nat.zero_le _⟩ dX10_judge_1) (fun r29 pr29 => ?_)
  replace pr29 : (r29.toInt = 1 ∧ 0 ≤ x1.toInt ∧ x1.toInt ≤ 3) ∨ (r29.toInt = 0 ∧ (x1.toInt < 0 ∨ 3 < x1.toInt)) := pr29
  refine lv_if_ne (tgt := 9) hx hb dX10_judge_4 (by decide) (fun c30 => ?_) (fun c30 => ?_)
  · skip
    have ic30 := tn_ne rfl kI_0 c30
    refine lv_aload_n hx hb dX10_judge_9 rfl (lv_at hl 0 rfl) ?_
    refine mc_getr E hG t0 mr_72 dX10_judge_10 (fun oa31 hoa31 => ?_)
    refine lv_iload_n hx hb dX10_judge_13 rfl (lv_at hl 1 rfl) ?_
    refine mc_iald E hG hoa31 ma_21 (t_in (by omega) (by omega)) dX10_judge_14 (fun z32 lz32 uz32 qz32 => ?_)
    refine lv_if_eq (tgt := 31) hx hb dX10_judge_15 (by decide) (fun c33 => ?_) (fun c33 => ?_)
    · skip
      have ic33 := tn_eq rfl kI_0 c33
      refine lv_iconst (v := 0) hx hb dX10_judge_31 (by decide) ?_
      refine lv_istore_n (lv' := [(3, .int 0), (0, .ref h0), (1, .int x1), (2, .int x2)]) hx hb dX10_judge_32 rfl hl (by decide) rfl (fun ls hl => ?_)
      refine lv_iconst (v := 0) hx hb dX10_judge_33 (by decide) ?_
      refine lv_istore (lv' := [(4, .int 0), (3, .int 0), (0, .ref h0), (1, .int x1), (2, .int x2)]) hx hb dX10_judge_34 hl (by decide) rfl (fun ls hl => ?_)
      exact J36 ((24 - (0 : Int32).toInt).toNat + 1) ls (0 : Int32) (0 : Int32) (lv_sub hl [2, 3, 4, 1, 0] rfl) (by omega) (by omega) (by decide) (by decide) (by decide) (by decide) (by have k0 := kI_0; have k1 := kI_1; omega) (Nat.lt_succ_self _)
    · skip
      have ic33 := tn_ne rfl kI_0 c33
      refine lv_aload_n hx hb dX10_judge_18 rfl (lv_at hl 0 rfl) ?_
      refine mc_getr E hG t0 mr_72 dX10_judge_19 (fun oa34 hoa34 => ?_)
      refine lv_iload_n hx hb dX10_judge_22 rfl (lv_at hl 1 rfl) ?_
      refine mc_iald E hG hoa34 ma_21 (t_in (by omega) (by omega)) dX10_judge_23 (fun z35 lz35 uz35 qz35 => ?_)
      refine lv_iconst (v := 3) hx hb dX10_judge_24 (by decide) ?_
      refine lv_icmp_eq (tgt := 31) hx hb dX10_judge_25 (by decide) (fun c36 => ?_) (fun c36 => ?_)
      · skip
        have ic36 := tn_eq rfl kI_3 c36
        refine lv_iconst (v := 0) hx hb dX10_judge_31 (by decide) ?_
        refine lv_istore_n (lv' := [(3, .int 0), (0, .ref h0), (1, .int x1), (2, .int x2)]) hx hb dX10_judge_32 rfl hl (by decide) rfl (fun ls hl => ?_)
        refine lv_iconst (v := 0) hx hb dX10_judge_33 (by decide) ?_
        refine lv_istore (lv' := [(4, .int 0), (3, .int 0), (0, .ref h0), (1, .int x1), (2, .int x2)]) hx hb dX10_judge_34 hl (by decide) rfl (fun ls hl => ?_)
        exact J36 ((24 - (0 : Int32).toInt).toNat + 1) ls (0 : Int32) (0 : Int32) (lv_sub hl [2, 3, 4, 1, 0] rfl) (by omega) (by omega) (by decide) (by decide) (by decide) (by decide) (by have k0 := kI_0; have k1 := kI_1; omega) (Nat.lt_succ_self _)
      · skip
        have ic36 := tn_ne rfl kI_3 c36
        refine lv_bipush (v := -12) hx hb dX10_judge_28 (by decide) ?_
        exact tc_pret E hr hlk eH eL rfl trivial dX10_judge_30
  · skip
    have ic30 := tn_eq rfl kI_0 c30
    refine lv_iconst (v := -1) hx hb dX10_judge_7 (by decide) ?_
    exact tc_pret E hr hlk eH eL rfl trivial dX10_judge_8

set_option maxHeartbeats 4000000 in
set_option maxRecDepth 100000 in
theorem c_X10_divisor (l : Launch) (G : tG) (Y : mY) (x0 : Int64) (x2 : Int64)  (hz : ¬ x2 = 0) : Met l yX10_divisor (.code yX10_divisor cX10_divisor 10 (some .long) :: tWS) (tRm 0 0) (va_Pc [.long x0, .long x2] (mPre G Y)) (tQpl (fun r => ¬ r = 0)) 0 0 tNo := by
  refine mc_met (by decide) (Nat.le_of_ble_eq_true rfl) ?_
  intro p e s m below meth c E hr hlk hG ls hl
  have hl : lv_has ls 10 [(0, .long x0), (2, .long x2)] := hl
  have hx := E.1
  have hb := E.2.1
  obtain ⟨H, eH⟩ : ∃ H, H = s.heap := ⟨_, rfl⟩
  obtain ⟨locs, eL⟩ : ∃ x : List Loc, x = [] := ⟨_, rfl⟩
  have hG : mGH G Y s H locs := by rw [eH, eL]; exact hG
  suffices hW : W p l e (tRm 0 0) s m ([.long x0, .long x2] : List Value).toArray below meth c H locs 0 0 (MQ below (tQpl (fun r => ¬ r = 0)) ([.long x0, .long x2] : List Value).toArray s 0 0 tNo) (F0 m 0 ls []) by subst eH; subst eL; exact hW
  have J6 : ∀ (n6 : Nat) (ls : Array Slot) (w4 : Int64) (w6 : Int64), lv_has ls 10 [(4, .long w4), (6, .long w6)] → (¬ w4 = 0 ∨ ¬ w6 = 0) → w6.toInt.natAbs < n6 → W p l e (tRm 0 0) s m ([.long x0, .long x2] : List Value).toArray below meth c H locs 0 0 (MQ below (tQpl (fun r => ¬ r = 0)) ([.long x0, .long x2] : List Value).toArray s 0 0 tNo) (F0 m 6 ls []) := by
    intro n6
    induction n6 with
    | zero => intro ls w4 w6 hl hex6 hn6; exact absurd hn6 (Nat.not_lt_zero _)
    | succ n6 ih6 =>
      intro ls w4 w6 hl hex6 hn6
      refine lv_lload hx hb dX10_divisor_6 (lv_at hl 1 rfl) ?_
      refine lv_lconst (v := 0) hx hb dX10_divisor_8 (by decide) ?_
      refine lv_topl (fun z1 ez1 => ?_)
      have tz1 : z1.toInt = 0 := by rw [ez1]; decide
      refine W.lcmp hx hb dX10_divisor_9 ?_
      refine lv_topi (fun z2 ez2 => ?_)
      have tz2 := tl_cmp ez2
      refine lv_if_eq (tgt := 31) hx hb dX10_divisor_10 (by decide) (fun c3 => ?_) (fun c3 => ?_)
      · skip
        have ic3 := tn_eq rfl kI_0 c3
        refine lv_lload hx hb dX10_divisor_31 (lv_at hl 0 rfl) ?_
        have hw : w6 = 0 := (Int64.toInt_inj.mp (by omega) : w6 = z1).trans ez1
        exact tc_plret E hr hlk eH eL (hex6.resolve_right (fun q => q hw)) dX10_divisor_33
      · skip
        have ic3 := tn_ne rfl kI_0 c3
        have h9 : ¬ w6 = 0 := fun q => ic3 (by rw [ez2, q, ez1]; decide)
        refine lv_lload hx hb dX10_divisor_13 (lv_at hl 0 rfl) ?_
        refine lv_lload hx hb dX10_divisor_15 (lv_at hl 1 rfl) ?_
        refine lv_lrem hx hb dX10_divisor_17 (by assumption) ?_
        refine lv_topl (fun z4 ez4 => ?_)
        refine lv_lstore (lv' := [(8, .long z4), (4, .long w4), (6, .long w6)]) hx hb dX10_divisor_18 hl (by decide) rfl (fun ls hl => ?_)
        refine lv_lload hx hb dX10_divisor_20 (lv_at hl 2 rfl) ?_
        refine lv_lstore (lv' := [(4, .long w6), (8, .long z4), (6, .long w6)]) hx hb dX10_divisor_22 hl (by decide) rfl (fun ls hl => ?_)
        refine lv_lload hx hb dX10_divisor_24 (lv_at hl 1 rfl) ?_
        refine lv_lstore (lv' := [(6, .long z4), (4, .long w6), (8, .long z4)]) hx hb dX10_divisor_26 hl (by decide) rfl (fun ls hl => ?_)
        refine lv_goto (tgt := 6) hx hb dX10_divisor_28 (by decide) ?_
        have hrem := tl_rem ez4 h9
        exact ih6 ls (w6) (z4) (lv_sub hl [1, 0] rfl) (by first | exact Or.inl h9 | exact Or.inr hz) (by omega)
  refine lv_lload_n hx hb dX10_divisor_0 rfl (lv_at hl 0 rfl) ?_
  refine lv_lstore (lv' := [(4, .long x0), (0, .long x0), (2, .long x2)]) hx hb dX10_divisor_1 hl (by decide) rfl (fun ls hl => ?_)
  refine lv_lload_n hx hb dX10_divisor_3 rfl (lv_at hl 2 rfl) ?_
  refine lv_lstore (lv' := [(6, .long x2), (4, .long x0), (0, .long x0), (2, .long x2)]) hx hb dX10_divisor_4 hl (by decide) rfl (fun ls hl => ?_)
  exact J6 (x2.toInt.natAbs + 1) ls (x0) (x2) (lv_sub hl [1, 0] rfl) (by first | exact Or.inl h9 | exact Or.inr hz) (Nat.lt_succ_self _)

set_option maxHeartbeats 4000000 in
set_option maxRecDepth 100000 in
theorem c_X10_partOf (l : Launch) (G : tG) (Y : mY) (x0 : Int64) (x2 : Int64) (x4 : Int32)  (hz : ¬ x2 = 0) : Met l yX10_partOf (.code yX10_partOf cX10_partOf 7 (some .long) :: tWS) (tRm 1 29) (va_Pc [.long x0, .long x2, .int x4] (mPre G Y)) (tQpl (fun r => True)) 0 0 tNo := by
  refine mc_met (by decide) (Nat.le_of_ble_eq_true rfl) ?_
  intro p e s m below meth c E hr hlk hG ls hl
  have hl : lv_has ls 7 [(0, .long x0), (2, .long x2), (4, .int x4)] := hl
  have hx := E.1
  have hb := E.2.1
  obtain ⟨H, eH⟩ : ∃ H, H = s.heap := ⟨_, rfl⟩
  obtain ⟨locs, eL⟩ : ∃ x : List Loc, x = [] := ⟨_, rfl⟩
  have hG : mGH G Y s H locs := by rw [eH, eL]; exact hG
  suffices hW : W p l e (tRm 1 29) s m ([.long x0, .long x2, .int x4] : List Value).toArray below meth c H locs 0 0 (MQ below (tQpl (fun r => True)) ([.long x0, .long x2, .int x4] : List Value).toArray s 0 0 tNo) (F0 m 0 ls []) by subst eH; subst eL; exact hW
  refine lv_lload_n hx hb dX10_partOf_0 rfl (lv_at hl 0 rfl) ?_
  refine lv_lload_n hx hb dX10_partOf_1 rfl (lv_at hl 1 rfl) ?_
  refine tc_callpl (mc_runS (As := [.long x0, .long x2]) (rest := []) E hG (c_X10_divisor l G Y x0 x2 (by assumption)) ks_X10_divisor ml_X10_425 ⟨rfl, rfl, Nat.le_of_ble_eq_true rfl, Nat.le_of_ble_eq_true rfl⟩ rfl hl.1 rfl (Nat.le_of_ble_eq_true rfl) ⟨Nat.zero_le _, Nat.zero_le _⟩ dX10_partOf_2) (fun r1 pr1 => ?_)
  replace pr1 : ¬ r1 = 0 := pr1
  refine lv_lstore (lv' := [(5, .long r1), (0, .long x0), (2, .long x2), (4, .int x4)]) hx hb dX10_partOf_5 hl (by decide) rfl (fun ls hl => ?_)
  refine lv_iload hx hb dX10_partOf_7 (lv_at hl 3 rfl) ?_
  refine lv_if_ne (tgt := 19) hx hb dX10_partOf_9 (by decide) (fun c2 => ?_) (fun c2 => ?_)
  · skip
    have ic2 := tn_ne rfl kI_0 c2
    refine lv_lload_n hx hb dX10_partOf_19 rfl (lv_at hl 2 rfl) ?_
    refine lv_lload hx hb dX10_partOf_20 (lv_at hl 0 rfl) ?_
    refine lv_ldiv hx hb dX10_partOf_22 (by assumption) ?_
    refine lv_topl (fun z3 ez3 => ?_)
    exact tc_plret E hr hlk eH eL trivial dX10_partOf_23
  · skip
    have ic2 := tn_eq rfl kI_0 c2
    refine lv_lload_n hx hb dX10_partOf_12 rfl (lv_at hl 1 rfl) ?_
    refine lv_lload hx hb dX10_partOf_13 (lv_at hl 0 rfl) ?_
    refine lv_ldiv hx hb dX10_partOf_15 (by assumption) ?_
    refine lv_topl (fun z4 ez4 => ?_)
    refine lv_goto (tgt := 23) hx hb dX10_partOf_16 (by decide) ?_
    exact tc_plret E hr hlk eH eL trivial dX10_partOf_23

set_option maxHeartbeats 4000000 in
set_option maxRecDepth 100000 in
theorem c_X10_mean (l : Launch) (G : tG) (Y : mY) (h0 : Nat) (x1 : Int32) (t0 : Y.1 h0 = 1) (t : Nat → Int32) (hT : TI Y t) (hI : TInv t) : Met l yX10_mean (.code yX10_mean cX10_mean 5 (some .long) :: tWS) (tRm 3 68) (va_Pc [.ref h0, .int x1] (mPre G Y)) (tQpl (fun r => True)) 0 0 tNo := by
  refine mc_met (by decide) (Nat.le_of_ble_eq_true rfl) ?_
  intro p e s m below meth c E hr hlk hG ls hl
  have hl : lv_has ls 5 [(0, .ref h0), (1, .int x1)] := hl
  have hx := E.1
  have hb := E.2.1
  obtain ⟨H, eH⟩ : ∃ H, H = s.heap := ⟨_, rfl⟩
  obtain ⟨locs, eL⟩ : ∃ x : List Loc, x = [] := ⟨_, rfl⟩
  have hG : mGH G Y s H locs := by rw [eH, eL]; exact hG
  suffices hW : W p l e (tRm 3 68) s m ([.ref h0, .int x1] : List Value).toArray below meth c H locs 0 0 (MQ below (tQpl (fun r => True)) ([.ref h0, .int x1] : List Value).toArray s 0 0 tNo) (F0 m 0 ls []) by subst eH; subst eL; exact hW
  have J26 : ∀ (n26 : Nat) (ls : Array Slot) (w2 : Int64) (v4 : Int32), lv_has ls 5 [(0, .ref h0), (1, .int x1), (2, .long w2), (4, .int v4)] → 0 ≤ v4.toInt → v4.toInt ≤ 24 → ¬ cB t 24 = 0 → (24 - v4.toInt).toNat < n26 → W p l e (tRm 3 68) s m ([.ref h0, .int x1] : List Value).toArray below meth c H locs 0 0 (MQ below (tQpl (fun r => True)) ([.ref h0, .int x1] : List Value).toArray s 0 0 tNo) (F0 m 26 ls []) := by
    intro n26
    induction n26 with
    | zero => intro ls w2 v4 hl b4 c4 hex26 hn26; exact absurd hn26 (Nat.not_lt_zero _)
    | succ n26 ih26 =>
      intro ls w2 v4 hl b4 c4 hex26 hn26
      have J56 : ∀ (ls : Array Slot) (v4 : Int32) (ws0 : Int64) (ws1 : Int64), lv_has ls 5 [(0, .ref h0), (1, .int x1), (4, .int v4)] → 0 ≤ v4.toInt → v4.toInt ≤ 23 → (24 - v4.toInt).toNat < n26 + 1 → W p l e (tRm 3 68) s m ([.ref h0, .int x1] : List Value).toArray below meth c H locs 0 0 (MQ below (tQpl (fun r => True)) ([.ref h0, .int x1] : List Value).toArray s 0 0 tNo) (F0 m 56 ls [.long ws1, .long ws0]) := by
        intro ls v4 ws0 ws1 hl b4 c4 hm26
        refine lv_ladd hx hb dX10_mean_56 ?_
        refine lv_topl (fun z1 ez1 => ?_)
        refine lv_lstore_n (lv' := [(2, .long z1), (0, .ref h0), (1, .int x1), (4, .int v4)]) hx hb dX10_mean_57 rfl hl (by decide) rfl (fun ls hl => ?_)
        obtain ⟨z2, ez2⟩ : ∃ y : Int32, y = v4 + (1) := ⟨_, rfl⟩
        refine lv_iinc (v := z2) (lv' := [(4, .int z2), (2, .long z1), (0, .ref h0), (1, .int x1)]) hx hb dX10_mean_58 hl (k := 3) rfl (by rw [ez2]; rfl) (by decide) rfl (fun ls hl => ?_)
        have tz2 := tn_add ez2 rfl kI_1 (by omega) (by omega)
        refine lv_goto (tgt := 26) hx hb dX10_mean_61 (by decide) ?_
        exact ih26 ls (z1) z2 (lv_sub hl [2, 3, 1, 0] rfl) (by omega) (by omega) (by have k0 := kI_0; have k1 := kI_1; omega) (by omega)
      refine lv_iload hx hb dX10_mean_26 (lv_at hl 3 rfl) ?_
      refine lv_bipush (v := 24) hx hb dX10_mean_28 (by decide) ?_
      refine lv_icmp_ge (tgt := 64) hx hb dX10_mean_30 (by decide) (fun c3 => ?_) (fun c3 => ?_)
      · skip
        have ic3 := tn_le kI_24 rfl c3
        refine lv_lload_n hx hb dX10_mean_64 rfl (lv_at hl 2 rfl) ?_
        refine lv_aload_n hx hb dX10_mean_65 rfl (lv_at hl 0 rfl) ?_
        refine tc_callp (mc_runV (As := []) (rest := [.long w2]) E hG (c_X10_many2 l G Y h0 t0 t hT hI) t0 rfl kv_X10_many ml_X10_405 ⟨rfl, rfl, Nat.le_of_ble_eq_true rfl, Nat.le_of_ble_eq_true rfl⟩ rfl hl.1 rfl (Nat.le_of_ble_eq_true rfl) ⟨Nat.zero_le _, Nat.zero_le _⟩ dX10_mean_66) (fun r4 pr4 => ?_)
        replace pr4 : r4.toInt = cB t 24 ∧ 0 ≤ r4.toInt ∧ r4.toInt ≤ 24 := pr4
        refine lv_i2l hx hb dX10_mean_69 rfl ?_
        refine lv_topl (fun z5 ez5 => ?_)
        have tz5 := tl_i2l ez5
        have hnz : ¬ z5 = 0 := fun q => by rw [q] at tz5; have k9 : (0 : Int64).toInt = 0 := (by decide); omega
        refine lv_iload_n hx hb dX10_mean_70 rfl (lv_at hl 1 rfl) ?_
        refine tc_callpl (mc_runS (As := [.long w2, .long z5, .int x1]) (rest := []) E hG (c_X10_partOf l G Y w2 z5 x1 (by assumption)) ks_X10_partOf ml_X10_435 ⟨rfl, rfl, Nat.le_of_ble_eq_true rfl, Nat.le_of_ble_eq_true rfl⟩ rfl hl.1 rfl (Nat.le_of_ble_eq_true rfl) ⟨Nat.zero_le _, Nat.zero_le _⟩ dX10_mean_71) (fun r6 pr6 => ?_)
        exact tc_plret E hr hlk eH eL trivial dX10_mean_74
      · skip
        have ic3 := tn_nle kI_24 rfl c3
        refine lv_lload_n hx hb dX10_mean_33 rfl (lv_at hl 2 rfl) ?_
        refine lv_aload_n hx hb dX10_mean_34 rfl (lv_at hl 0 rfl) ?_
        refine lv_iload hx hb dX10_mean_35 (lv_at hl 3 rfl) ?_
        refine tc_callp (mc_runV (As := [.int v4]) (rest := [.long w2]) E hG (c_X10_isBox l G Y h0 v4 t0) t0 rfl kv_X10_isBox ml_X10_127 ⟨rfl, rfl, Nat.le_of_ble_eq_true rfl, Nat.le_of_ble_eq_true rfl⟩ rfl hl.1 rfl (Nat.le_of_ble_eq_true rfl) ⟨Nat.zero_le _, Nat.zero_le _⟩ dX10_mean_37) (fun r7 pr7 => ?_)
        replace pr7 : (r7.toInt = 1 ∧ 0 ≤ v4.toInt ∧ v4.toInt ≤ 23 ∧ mV Y (ix v4.toInt 0) 1) ∨ (r7.toInt = 0 ∧ (v4.toInt < 0 ∨ 23 < v4.toInt ∨ ∃ v : Int32, ¬ v.toInt = 1 ∧ mV Y (ix v4.toInt 0) v)) := pr7
        have cr7 := mB pr7 hT hI
        clear pr7
        refine lv_if_eq (tgt := 55) hx hb dX10_mean_40 (by decide) (fun c8 => ?_) (fun c8 => ?_)
        · skip
          have ic8 := tn_eq rfl kI_0 c8
          refine lv_lconst (v := 0) hx hb dX10_mean_55 (by decide) ?_
          refine lv_topl (fun z9 ez9 => ?_)
          have tz9 : z9.toInt = 0 := by rw [ez9]; decide
          exact J56 ls v4 (w2) (z9) (lv_sub hl [0, 1, 3] rfl) (by omega) (by omega) (by omega)
        · skip
          have ic8 := tn_ne rfl kI_0 c8
          refine lv_aload_n hx hb dX10_mean_43 rfl (lv_at hl 0 rfl) ?_
          refine lv_iload hx hb dX10_mean_44 (lv_at hl 3 rfl) ?_
          refine lv_bipush (v := 32) hx hb dX10_mean_46 (by decide) ?_
          refine tc_callp (mc_runV (As := [.int v4, .int 32]) (rest := [.long w2]) E hG (c_X10_get l G Y h0 v4 (32 : Int32) t0 (by omega) (by omega) (by decide) (by decide)) t0 rfl kv_X10_get ml_X10_91 ⟨rfl, rfl, Nat.le_of_ble_eq_true rfl, Nat.le_of_ble_eq_true rfl⟩ rfl hl.1 rfl (Nat.le_of_ble_eq_true rfl) ⟨Nat.zero_le _, Nat.zero_le _⟩ dX10_mean_48) (fun r10 pr10 => ?_)
          replace pr10 : mV Y (ix v4.toInt (32 : Int32).toInt) r10 := pr10
          have pr10 := mV_l pr10 kI_32
          have br10 := mV_32 pr10 (by omega)
          have k11 := kI_32
          refine lv_i2l hx hb dX10_mean_51 rfl ?_
          refine lv_topl (fun z12 ez12 => ?_)
          have tz12 := tl_i2l ez12
          refine lv_goto (tgt := 56) hx hb dX10_mean_52 (by decide) ?_
          exact J56 ls v4 (w2) (z12) (lv_sub hl [0, 1, 3] rfl) (by omega) (by omega) (by omega)
  refine lv_iload_n hx hb dX10_mean_0 rfl (lv_at hl 1 rfl) ?_
  refine lv_i2l hx hb dX10_mean_1 rfl ?_
  refine lv_topl (fun z13 ez13 => ?_)
  have tz13 := tl_i2l ez13
  refine lv_lconst (v := 0) hx hb dX10_mean_2 (by decide) ?_
  refine lv_topl (fun z14 ez14 => ?_)
  have tz14 : z14.toInt = 0 := by rw [ez14]; decide
  refine lv_lconst (v := 1) hx hb dX10_mean_3 (by decide) ?_
  refine lv_topl (fun z15 ez15 => ?_)
  have tz15 : z15.toInt = 1 := by rw [ez15]; decide
  refine tc_callp (mc_runS (As := [.long z13, .long z14, .long z15]) (rest := []) E hG (c_X10_in l G Y z13 z14 z15) ks_X10_in ml_X10_87 ⟨rfl, rfl, Nat.le_of_ble_eq_true rfl, Nat.le_of_ble_eq_true rfl⟩ rfl hl.1 rfl (Nat.le_of_ble_eq_true rfl) ⟨Nat.zero_le _, Nat.zero_le _⟩ dX10_mean_4) (fun r16 pr16 => ?_)
  replace pr16 : ((r16.toInt = 1 ∧ z14.toInt ≤ z13.toInt ∧ z13.toInt ≤ z15.toInt) ∨ (r16.toInt = 0 ∧ (z13.toInt < z14.toInt ∨ z15.toInt < z13.toInt))) := pr16
  refine lv_if_eq (tgt := 17) hx hb dX10_mean_7 (by decide) (fun c17 => ?_) (fun c17 => ?_)
  · skip
    have ic17 := tn_eq rfl kI_0 c17
    refine lv_ldc2 (v := -9223372036854775808) hx hb E.2.2.2.1 (E.2.2.2.2.1 _ (t_w8 111 rfl rfl)) dX10_mean_17 ?_
    refine lv_topl (fun z18 ez18 => ?_)
    have tz18 : z18.toInt = -9223372036854775808 := by rw [ez18]; decide
    exact tc_plret E hr hlk eH eL trivial dX10_mean_20
  · skip
    have ic17 := tn_ne rfl kI_0 c17
    refine lv_aload_n hx hb dX10_mean_10 rfl (lv_at hl 0 rfl) ?_
    refine tc_callp (mc_runV (As := []) (rest := []) E hG (c_X10_many2 l G Y h0 t0 t hT hI) t0 rfl kv_X10_many ml_X10_405 ⟨rfl, rfl, Nat.le_of_ble_eq_true rfl, Nat.le_of_ble_eq_true rfl⟩ rfl hl.1 rfl (Nat.le_of_ble_eq_true rfl) ⟨Nat.zero_le _, Nat.zero_le _⟩ dX10_mean_11) (fun r19 pr19 => ?_)
    replace pr19 : r19.toInt = cB t 24 ∧ 0 ≤ r19.toInt ∧ r19.toInt ≤ 24 := pr19
    refine lv_if_ne (tgt := 21) hx hb dX10_mean_14 (by decide) (fun c20 => ?_) (fun c20 => ?_)
    · skip
      have ic20 := tn_ne rfl kI_0 c20
      refine lv_lconst (v := 0) hx hb dX10_mean_21 (by decide) ?_
      refine lv_topl (fun z21 ez21 => ?_)
      have tz21 : z21.toInt = 0 := by rw [ez21]; decide
      refine lv_lstore_n (lv' := [(2, .long z21), (0, .ref h0), (1, .int x1)]) hx hb dX10_mean_22 rfl hl (by decide) rfl (fun ls hl => ?_)
      refine lv_iconst (v := 0) hx hb dX10_mean_23 (by decide) ?_
      refine lv_istore (lv' := [(4, .int 0), (2, .long z21), (0, .ref h0), (1, .int x1)]) hx hb dX10_mean_24 hl (by decide) rfl (fun ls hl => ?_)
      exact J26 ((24 - (0 : Int32).toInt).toNat + 1) ls (z21) (0 : Int32) (lv_sub hl [2, 3, 1, 0] rfl) (by decide) (by decide) (by have k0 := kI_0; have k1 := kI_1; omega) (Nat.lt_succ_self _)
    · skip
      have ic20 := tn_eq rfl kI_0 c20
      refine lv_ldc2 (v := -9223372036854775808) hx hb E.2.2.2.1 (E.2.2.2.2.1 _ (t_w8 111 rfl rfl)) dX10_mean_17 ?_
      refine lv_topl (fun z22 ez22 => ?_)
      have tz22 : z22.toInt = -9223372036854775808 := by rw [ez22]; decide
      exact tc_plret E hr hlk eH eL trivial dX10_mean_20

