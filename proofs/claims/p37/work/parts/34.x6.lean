/-- number n is in the tree below the BOX at b (d deep) -/
def sbF (F : mF) (w : Nat) : Nat → Nat → Nat → Prop
  | 0, _, _ => False
  | d + 1, b, n => n = (F b 0).toInt.toNat ∨ ∃ j : Nat, (j : Int) < (F b 10).toInt ∧ sbF F w d (w + 1 + (3 + 4 * (F (b + 2) j).toNatClampNeg)) n
theorem sbF_up {F : mF} {w : Nat} {th : Int32} : ∀ (d b n : Nat), w < b → (sbF (up2 F w 4 th) w d b n ↔ sbF F w d b n)
  | 0, _, _, _ => Iff.rfl
  | d + 1, b, n, h => by
    have e0 : up2 F w 4 th b 0 = F b 0 := up2_ne (by omega)
    have e1 : up2 F w 4 th b 10 = F b 10 := up2_ne (by omega)
    have e2 : ∀ j, up2 F w 4 th (b + 2) j = F (b + 2) j := fun j => up2_ne (by omega)
    unfold sbF
    rw [e0, e1]
    constructor
    · rintro (q | ⟨j, q1, q2⟩)
      · exact Or.inl q
      · rw [e2] at q2
        exact Or.inr ⟨j, q1, (sbF_up d _ n (by omega)).mp q2⟩
    · rintro (q | ⟨j, q1, q2⟩)
      · exact Or.inl q
      · refine Or.inr ⟨j, q1, ?_⟩
        rw [e2]
        exact (sbF_up d _ n (by omega)).mpr q2

set_option maxHeartbeats 4000000 in
set_option maxRecDepth 100000 in
theorem x_X8_kidOf (l : Launch) (G : tG) (τ : Nat → Nat) (h0 : Nat) (h1 : Nat) (x2 : Int32) (t0 : τ h0 = 2) (t1 : τ h1 = 3) (l2 : 0 ≤ x2.toInt) (u2 : x2.toInt ≤ 7) : Met l yX8_kidOf (.code yX8_kidOf cX8_kidOf 3 (some (.object "LaidOutBoxes$Box")) :: tWS) (tRm 0 0) (va_Pc [.ref h0, .ref h1, .int x2] (tPre G τ)) (tQpr (fun r => τ r = 3 ∧ r = (h0 + 1 + (3 + 4 * ((FF G) (h1 + 2) x2.toNatClampNeg).toNatClampNeg)))) 0 0 tNo := by
  refine tc_met (by decide) (Nat.le_of_ble_eq_true rfl) ?_
  intro p e s m below meth c E hSt hr hlk hG ls hl
  have hl : lv_has ls 3 [(0, .ref h0), (1, .ref h1), (2, .int x2)] := hl
  have hx := E.1
  have hb := E.2.1
  obtain ⟨H, eH⟩ : ∃ H, H = s.heap := ⟨_, rfl⟩
  obtain ⟨locs, eL⟩ : ∃ x : List Loc, x = [] := ⟨_, rfl⟩
  have hG : tGH G τ s H locs := by rw [eH, eL]; exact hG
  suffices hW : W p l e (tRm 0 0) s m ([.ref h0, .ref h1, .int x2] : List Value).toArray below meth c H locs 0 0 (MQ below (tQpr (fun r => τ r = 3 ∧ r = (h0 + 1 + (3 + 4 * ((FF G) (h1 + 2) x2.toNatClampNeg).toNatClampNeg)))) ([.ref h0, .ref h1, .int x2] : List Value).toArray s 0 0 tNo) (F0 m 0 ls []) by subst eH; subst eL; exact hW
  refine lv_aload_n hx hb dX8_kidOf_0 rfl (lv_at hl 0 rfl) ?_
  refine tc_getrF (d := 1) E hG t0 fr_X8_11 rfl dX8_kidOf_1 (fun ha1 => ?_)
  refine lv_aload_n hx hb dX8_kidOf_4 rfl (lv_at hl 1 rfl) ?_
  refine tc_getrF (d := 2) E hG t1 fr_X8_52 rfl dX8_kidOf_5 (fun ha2 => ?_)
  refine lv_iload_n hx hb dX8_kidOf_8 rfl (lv_at hl 2 rfl) ?_
  refine tc_ialdF E hG ha2 ta_12 rfl (t_in (by omega) (by omega)) dX8_kidOf_9 (fun z3 lz3 uz3 wz3 => ?_)
  replace wz3 : z3 = (FF G) (h1 + 2) x2.toNatClampNeg := wz3
  have cz3 : z3.toInt = ((FF G) (h1 + 2) x2.toNatClampNeg).toInt := by rw [wz3]
  refine tc_aald3F (d := 3 + 4 * z3.toNatClampNeg) E hG ha1 ta_10 rfl (t_in (by omega) (by omega)) dX8_kidOf_10 (fun ha4 => ?_)
  have nz3 : z3.toNatClampNeg = z3.toInt.toNat := rfl
  exact tc_paret E hr hlk eH eL ⟨ha4, (by simp only [wz3])⟩ dX8_kidOf_11

theorem up2_up2 {F : mF} {c k : Nat} {v w : Int32} : up2 (up2 F c k v) c k w = up2 F c k w := funext fun c' => funext fun k' => by
  unfold up2
  by_cases z : c' = c ∧ k' = k
  · rw [if_pos z, if_pos z]
  · rw [if_neg z, if_neg z, if_neg z]
theorem up2_self {F : mF} {c k : Nat} : up2 F c k (F c k) = F := funext fun c' => funext fun k' => by
  unfold up2
  by_cases z : c' = c ∧ k' = k
  · rw [if_pos z, z.1, z.2]
  · rw [if_neg z]

set_option maxHeartbeats 4000000 in
set_option maxRecDepth 100000 in
theorem x_X8_forget (l : Launch) (G : tG) (τ : Nat → Nat) : ∀ (d : Nat) (F : mF) (h0 : Nat) (h1 : Nat) (x2 : Int32) (t0 : τ h0 = 2) (t1 : τ h1 = 3) (l2 : 0 ≤ x2.toInt) (hd : (24 - x2.toInt).toNat < d) (hb : h0 < h1), Met l yX8_forget (.code yX8_forget cX8_forget 5 none :: tWS) (tRm (1 * d + 4) (24 * d + 90)) (va_Pc [.ref h0, .ref h1, .int x2] (tPre (gF G F) τ)) (tQG G τ (fun F9 => ∃ th : Int32, F9 = up2 F h0 4 th ∧ ∀ n : Nat, tB th n ↔ tB (F h0 4) n ∧ ¬ sbF F h0 (24 - x2.toInt).toNat h1 n)) 0 0 (tA τ) := by
  intro d
  induction d with
  | zero => intro F h0 h1 x2 t0 t1 l2 hd hb; exact absurd hd (Nat.not_lt_zero _)
  | succ d ih =>
  intro F h0 h1 x2 t0 t1 l2 hd hb
  refine tc_met (by decide) (Nat.le_of_ble_eq_true rfl) ?_
  intro p e s m below meth c E hSt hr hlk hG ls hl
  have hl : lv_has ls 5 [(0, .ref h0), (1, .ref h1), (2, .int x2)] := hl
  have hx := E.1
  have hb := E.2.1
  obtain ⟨H, eH⟩ : ∃ H, H = s.heap := ⟨_, rfl⟩
  obtain ⟨locs, eL⟩ : ∃ x : List Loc, x = [] := ⟨_, rfl⟩
  have hG : tGH (gF G F) τ s H locs := by rw [eH, eL]; exact hG
  suffices hW : W p l e (tRm (1 * (d + 1) + 4) (24 * (d + 1) + 90)) s m ([.ref h0, .ref h1, .int x2] : List Value).toArray below meth c H locs 0 0 (MQ below (tQG G τ (fun F9 => ∃ th : Int32, F9 = up2 F h0 4 th ∧ ∀ n : Nat, tB th n ↔ tB (F h0 4) n ∧ ¬ sbF F h0 (24 - x2.toInt).toNat h1 n)) ([.ref h0, .ref h1, .int x2] : List Value).toArray s 0 0 (tA τ)) (F0 m 0 ls []) by subst eH; subst eL; exact hW
  clear eH eL
  have J59 : ∀ (n59 : Nat) (Fc : mF) (H : Heap) (locs : List Loc) (ls : Array Slot) (v4 : Int32), tGH (gF G Fc) τ s H locs → lv_has ls 5 [(0, .ref h0), (1, .ref h1), (2, .int x2), (4, .int v4)] → x2.toInt ≤ 23 → 0 ≤ v4.toInt → v4.toInt ≤ 8 → (∃ th : Int32, Fc = up2 F h0 4 th ∧ ∀ n : Nat, tB th n ↔ tB (F h0 4) n ∧ ¬ n = (F h1 0).toInt.toNat ∧ ∀ j : Nat, (j : Int) < v4.toInt → (j : Int) < (F h1 10).toInt → ¬ sbF F h0 ((24 - x2.toInt).toNat - 1) (h0 + 1 + (3 + 4 * (F (h1 + 2) j).toNatClampNeg)) n) → (8 - v4.toInt).toNat < n59 → W p l e (tRm (1 * (d + 1) + 4) (24 * (d + 1) + 90)) s m ([.ref h0, .ref h1, .int x2] : List Value).toArray below meth c H locs 0 0 (MQ below (tQG G τ (fun F9 => ∃ th : Int32, F9 = up2 F h0 4 th ∧ ∀ n : Nat, tB th n ↔ tB (F h0 4) n ∧ ¬ sbF F h0 (24 - x2.toInt).toNat h1 n)) ([.ref h0, .ref h1, .int x2] : List Value).toArray s 0 0 (tA τ)) (F0 m 59 ls []) := by
    intro n59
    induction n59 with
    | zero => intro Fc H locs ls v4 hG hl cp2 b4 c4 hex59 hn59; exact absurd hn59 (Nat.not_lt_zero _)
    | succ n59 ih59 =>
      intro Fc H locs ls v4 hG hl cp2 b4 c4 hex59 hn59
      have E := E.f1 (F' := Fc)
      have hSt := hSt.f1 (F' := Fc)
      obtain ⟨th, eFc, hth⟩ := hex59
      refine lv_iload hx hb dX8_forget_59 (lv_at hl 3 rfl) ?_
      refine lv_aload_n hx hb dX8_forget_61 rfl (lv_at hl 1 rfl) ?_
      refine tc_getF E hG t1 fi_X8_59 rfl dX8_forget_62 (fun z1 lz1 uz1 wz1 => ?_)
      replace wz1 : z1 = Fc h1 10 := wz1
      replace wz1 : z1 = F h1 10 := by rw [wz1, eFc, up2_ne (by omega)]
      have cz1 : z1.toInt = (F h1 10).toInt := by rw [wz1]
      refine lv_icmp_ge (tgt := 88) hx hb dX8_forget_65 (by decide) (fun c2 => ?_) (fun c2 => ?_)
      · skip
        have ic2 := tn_le rfl rfl c2
        exact tc_vretF E hr hlk hG ⟨th, eFc, fun n => (by rw [hth n, show (24 - x2.toInt).toNat = ((24 - x2.toInt).toNat - 1) + 1 by omega]; constructor; (rintro ⟨a1, a2, a3⟩; exact ⟨a1, fun q => q.elim a2 (fun ⟨j, q1, q2⟩ => a3 j (by omega) (by omega) q2)⟩); (rintro ⟨a1, a2⟩; exact ⟨a1, fun q => a2 (Or.inl q), fun j hj hk q => a2 (Or.inr ⟨j, hk, q⟩)⟩))⟩ dX8_forget_88
      · skip
        have ic2 := tn_nle rfl rfl c2
        refine lv_aload_n hx hb dX8_forget_68 rfl (lv_at hl 0 rfl) ?_
        refine lv_aload_n hx hb dX8_forget_69 rfl (lv_at hl 0 rfl) ?_
        refine lv_aload_n hx hb dX8_forget_70 rfl (lv_at hl 1 rfl) ?_
        refine lv_iload hx hb dX8_forget_71 (lv_at hl 3 rfl) ?_
        refine tc_callpr (tc_runV (As := [.ref h1, .int v4]) (rest := [.ref h0]) E hSt hG (x_X8_kidOf l (gF G Fc) τ h0 h1 v4 t0 t1 (by omega) (by omega)) t0 rv_2 kv_X8_kidOf ml_X8_128 (tRm_ok (by omega) (by omega)) rfl hl.1 rfl (Nat.le_of_ble_eq_true rfl) ⟨Nat.zero_le _, Nat.zero_le _⟩ dX8_forget_73) (fun r3 pr3 => ?_)
        replace pr3 : τ r3 = 3 ∧ r3 = (h0 + 1 + (3 + 4 * (Fc (h1 + 2) v4.toNatClampNeg).toNatClampNeg)) := pr3
        rw [eFc, up2_ne (by omega)] at pr3
        obtain ⟨pr3, er3⟩ := pr3
        subst er3
        refine lv_iload_n hx hb dX8_forget_76 rfl (lv_at hl 2 rfl) ?_
        refine lv_iconst (v := 1) hx hb dX8_forget_77 (by decide) ?_
        refine lv_iadd hx hb dX8_forget_78 ?_
        refine lv_topi (fun z4 ez4 => ?_)
        have tz4 := tn_add ez4 rfl kI_1 (by omega) (by omega)
        refine tc_callvF hG (tc_runV (As := [.ref (h0 + 1 + (3 + 4 * (F (h1 + 2) v4.toNatClampNeg).toNatClampNeg)), .int z4]) (rest := []) E hSt hG (ih Fc h0 (h0 + 1 + (3 + 4 * (F (h1 + 2) v4.toNatClampNeg).toNatClampNeg)) z4 t0 pr3 (by omega) (by omega) (by omega)) t0 rv_2 kv_X8_forget ml_X8_109 (tRm_ok (by omega) (by omega)) rfl hl.1 rfl (Nat.le_of_ble_eq_true rfl) ⟨Nat.zero_le _, Nat.zero_le _⟩ dX8_forget_79) (fun F6 H locs pr5 hG => ?_)
        have E := E.f1 (F' := F6)
        have hSt := hSt.f1 (F' := F6)
        replace pr5 : ∃ th : Int32, F6 = up2 Fc h0 4 th ∧ ∀ n : Nat, tB th n ↔ tB (Fc h0 4) n ∧ ¬ sbF Fc h0 (24 - z4.toInt).toNat (h0 + 1 + (3 + 4 * (F (h1 + 2) v4.toNatClampNeg).toNatClampNeg)) n := pr5
        obtain ⟨z7, ez7⟩ : ∃ y : Int32, y = v4 + (1) := ⟨_, rfl⟩
        refine lv_iinc (v := z7) (lv' := [(4, .int z7), (0, .ref h0), (1, .ref h1), (2, .int x2)]) hx hb dX8_forget_82 hl (k := 3) rfl (by rw [ez7]; rfl) (by decide) rfl (fun ls hl => ?_)
        have tz7 := tn_add ez7 rfl kI_1 (by omega) (by omega)
        refine lv_goto (tgt := 59) hx hb dX8_forget_85 (by decide) ?_
        exact ih59 F6 H locs ls z7 hG (lv_sub hl [1, 2, 3, 0] rfl) (by omega) (by omega) (by omega) (by obtain ⟨th2, e2, h2⟩ := pr5; refine ⟨th2, (by rw [e2, eFc, up2_up2]), fun n => ?_⟩; rw [h2 n, eFc, up2_at, sbF_up _ _ _ (by omega), hth n, show (24 - z4.toInt).toNat = (24 - x2.toInt).toNat - 1 by omega]; constructor; (rintro ⟨⟨a1, a2, a3⟩, a4⟩; refine ⟨a1, a2, fun j hj hk => ?_⟩; by_cases q9 : (j : Int) = v4.toInt; (have e9 : j = v4.toNatClampNeg := (by show j = v4.toInt.toNat; omega); rw [e9]; exact a4); exact a3 j (by omega) hk); (rintro ⟨a1, a2, a3⟩; exact ⟨⟨a1, a2, fun j hj hk => a3 j (by omega) hk⟩, (by have e9 : v4.toNatClampNeg = v4.toInt.toNat := rfl; exact a3 v4.toNatClampNeg (by omega) (by omega))⟩)) (by omega)
  refine lv_iload_n hx hb dX8_forget_0 rfl (lv_at hl 2 rfl) ?_
  refine lv_bipush (v := 24) hx hb dX8_forget_1 (by decide) ?_
  refine lv_icmp_lt (tgt := 7) hx hb dX8_forget_3 (by decide) (fun c8 => ?_) (fun c8 => ?_)
  · skip
    have ic8 := tn_lt rfl kI_24 c8
    refine lv_iconst (v := 1) hx hb dX8_forget_7 (by decide) ?_
    refine lv_aload_n hx hb dX8_forget_8 rfl (lv_at hl 1 rfl) ?_
    refine tc_getF E hG t1 fi_X8_119 rfl dX8_forget_9 (fun z9 lz9 uz9 wz9 => ?_)
    replace wz9 : z9 = F h1 0 := wz9
    have cz9 : z9.toInt = (F h1 0).toInt := by rw [wz9]
    refine lv_ishl hx hb dX8_forget_12 ?_
    refine lv_topi (fun z10 ez10 => ?_)
    refine lv_iconst (v := -1) hx hb dX8_forget_13 (by decide) ?_
    refine lv_ixor hx hb dX8_forget_14 ?_
    refine lv_topi (fun z11 ez11 => ?_)
    refine lv_istore_n (lv' := [(3, .int z11), (0, .ref h0), (1, .ref h1), (2, .int x2)]) hx hb dX8_forget_15 rfl hl (by decide) rfl (fun ls hl => ?_)
    refine lv_aload_n hx hb dX8_forget_16 rfl (lv_at hl 1 rfl) ?_
    refine lv_dup hx hb dX8_forget_17 rfl ?_
    refine tc_getF E hG t0 fi_X8_40 rfl dX8_forget_18 (fun z12 lz12 uz12 wz12 => ?_)
    replace wz12 : z12 = F h0 4 := wz12
    have cz12 : z12.toInt = (F h0 4).toInt := by rw [wz12]
    refine lv_iload_n hx hb dX8_forget_21 rfl (lv_at hl 0 rfl) ?_
    refine lv_iand hx hb dX8_forget_22 ?_
    refine lv_topi (fun z13 ez13 => ?_)
    refine tc_putF (lo := -2147483648) (hi := 2147483647) E hG t0 (by decide) rfl rfl fq_X8_40 (t_any1 _) (t_any2 _) rfl rfl dX8_forget_23 (fun H locs hG => ?_)
    obtain ⟨F14, eF14⟩ : ∃ Z : mF, Z = up2 F h0 4 z13 := ⟨_, rfl⟩
    replace hG : tGH (gF G F14) τ s H locs := by rw [eF14]; exact hG
    have E := E.f1 (F' := F14)
    have hSt := hSt.f1 (F' := F14)
    refine lv_aload_n hx hb dX8_forget_26 rfl (lv_at hl 1 rfl) ?_
    refine lv_dup hx hb dX8_forget_27 rfl ?_
    refine tc_geti E hG t0 fi_X8_43 dX8_forget_28 (fun z15 _ _ => ?_)
    refine lv_iload_n hx hb dX8_forget_31 rfl (lv_at hl 0 rfl) ?_
    refine lv_iand hx hb dX8_forget_32 ?_
    refine lv_topi (fun z16 ez16 => ?_)
    refine tc_puti E hG t0 fp_X8_43 (t_any1 _) (t_any2 _) dX8_forget_33 (fun H locs hG => ?_)
    refine lv_aload_n hx hb dX8_forget_36 rfl (lv_at hl 1 rfl) ?_
    refine lv_dup hx hb dX8_forget_37 rfl ?_
    refine tc_geti E hG t0 fi_X8_122 dX8_forget_38 (fun z17 _ _ => ?_)
    refine lv_iload_n hx hb dX8_forget_41 rfl (lv_at hl 0 rfl) ?_
    refine lv_iand hx hb dX8_forget_42 ?_
    refine lv_topi (fun z18 ez18 => ?_)
    refine tc_puti E hG t0 fp_X8_122 (t_any1 _) (t_any2 _) dX8_forget_43 (fun H locs hG => ?_)
    refine lv_aload_n hx hb dX8_forget_46 rfl (lv_at hl 1 rfl) ?_
    refine lv_dup hx hb dX8_forget_47 rfl ?_
    refine tc_geti E hG t0 fi_X8_125 dX8_forget_48 (fun z19 _ _ => ?_)
    refine lv_iload_n hx hb dX8_forget_51 rfl (lv_at hl 0 rfl) ?_
    refine lv_iand hx hb dX8_forget_52 ?_
    refine lv_topi (fun z20 ez20 => ?_)
    refine tc_puti E hG t0 fp_X8_125 (t_any1 _) (t_any2 _) dX8_forget_53 (fun H locs hG => ?_)
    refine lv_iconst (v := 0) hx hb dX8_forget_56 (by decide) ?_
    refine lv_istore (lv' := [(4, .int 0), (3, .int z11), (0, .ref h0), (1, .ref h1), (2, .int x2)]) hx hb dX8_forget_57 hl (by decide) rfl (fun ls hl => ?_)
    exact J59 ((8 - (0 : Int32).toInt).toNat + 1) F14 H locs ls (0 : Int32) hG (lv_sub hl [2, 3, 4, 0] rfl) (by omega) (by decide) (by decide) (by refine ⟨_, eF14, fun n => ?_⟩; simp only [ez20, ez18, ez16, ez13, wz12, ez11, ez10, wz9]; rw [tB_and (by omega) (by omega)]; exact ⟨fun q => ⟨q.1, q.2, fun j hj _ => (by have k0 := kI_0; omega)⟩, fun q => ⟨q.1, q.2.1⟩⟩) (Nat.lt_succ_self _)
  · skip
    have ic8 := tn_nlt rfl kI_24 c8
    exact tc_vretF E hr hlk hG ⟨F h0 4, up2_self.symm, fun n => (by rw [show (24 - x2.toInt).toNat = 0 by omega]; exact ⟨fun q => ⟨q, id⟩, fun q => q.1⟩)⟩ dX8_forget_6
