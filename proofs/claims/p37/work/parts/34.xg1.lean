/-! ===== who holds the BOX that is next ===== -/
/-- behind k ')' from p on, x holds -/
def UPk (L : Nat → Int) (len : Int) (P : Nat → Int) (p h : Int) : Nat → Int → Prop
  | 0, x => x = h
  | k + 1, x => ∃ y, UPk L len P p h k y ∧ 0 ≤ y ∧ nx L len (p + (k : Nat)) = 41 ∧ x = P y.toNat
def PNgo (L : Nat → Int) (len : Int) (P : Nat → Int) (n p par q : Int) : Prop := (nx L len p = 40 ∧ par = n - 1 ∧ q = p + 1) ∨ (¬ nx L len p = 40 ∧ ∃ k : Nat, UPk L len P p (P (n - 1).toNat) k par ∧ 0 ≤ par ∧ nx L len (p + (k : Nat)) = 44 ∧ q = p + (k : Nat) + 1)
def PNend (L : Nat → Int) (len : Int) (P : Nat → Int) (n p q : Int) : Prop := ¬ nx L len p = 40 ∧ ∃ k : Nat, UPk L len P p (P (n - 1).toNat) k (-1) ∧ q = p + (k : Nat)
def PNbad (L : Nat → Int) (len : Int) (P : Nat → Int) (n p q : Int) : Prop := ¬ nx L len p = 40 ∧ ∃ (k : Nat) (y : Int), UPk L len P p (P (n - 1).toNat) k y ∧ 0 ≤ y ∧ ¬ nx L len (p + (k : Nat)) = 44 ∧ ¬ nx L len (p + (k : Nat)) = 41 ∧ q = p + (k : Nat)
theorem up2_3 {F : mF} {c k j : Nat} {q : Int32} (h : ¬ k = j) : up2 (up2 F c k q) c j (F c j) = up2 F c k q := funext fun c9 => funext fun k9 => by
  unfold up2
  by_cases e1 : c9 = c ∧ k9 = j
  · rw [if_pos e1, if_neg (fun z => h (z.2.symm.trans e1.2)), e1.1, e1.2]
  · rw [if_neg e1]

set_option maxHeartbeats 4000000 in
set_option maxRecDepth 100000 in
theorem x_X5_parentOfNext (l : Launch) (G : tG) (F : mF) (τ : Nat → Nat) (h0 : Nat) (t0 : τ h0 = 7) (hL : τ (G.2.2.1 16) = 18) (h9 : G.2.2.1 9 = 1) (hLr : G.2.2.1 16 < h0 ∨ h0 + 30 ≤ G.2.2.1 16) (h7 : (F h0 7).toInt ≤ 120) (hn1 : 1 ≤ (F h0 5).toInt) (hn2 : (F h0 5).toInt ≤ 24) (hP : ∀ j : Nat, (j : Int) < (F h0 5).toInt → (F (h0 + 2) j).toInt < j) : Met l yX5_parentOfNext (.code yX5_parentOfNext cX5_parentOfNext 3 (some .int) :: tWS) (tRm 2 41) (va_Pc [.ref h0] (tPre (gF G F) τ)) (tQF G τ (fun r F9 => ∃ q w : Int32, F9 = up2 (up2 F h0 9 q) h0 10 w ∧ ((0 ≤ r.toInt ∧ w = F h0 10 ∧ PNgo (LF F (G.2.2.1 16)) (F h0 7).toInt (LF F (h0 + 2)) (F h0 5).toInt (F h0 9).toInt r.toInt q.toInt) ∨ (r.toInt = -1 ∧ ((w = 1 ∧ PNend (LF F (G.2.2.1 16)) (F h0 7).toInt (LF F (h0 + 2)) (F h0 5).toInt (F h0 9).toInt q.toInt) ∨ (w = F h0 10 ∧ PNbad (LF F (G.2.2.1 16)) (F h0 7).toInt (LF F (h0 + 2)) (F h0 5).toInt (F h0 9).toInt q.toInt)))))) 0 0 (tA τ) := by
  refine tc_met (by decide) (Nat.le_of_ble_eq_true rfl) ?_
  intro p e s m below meth c E hSt hr hlk hG ls hl
  have hl : lv_has ls 3 [(0, .ref h0)] := hl
  have hx := E.1
  have hb := E.2.1
  obtain ⟨H, eH⟩ : ∃ H, H = s.heap := ⟨_, rfl⟩
  obtain ⟨locs, eL⟩ : ∃ x : List Loc, x = [] := ⟨_, rfl⟩
  have hG : tGH (gF G F) τ s H locs := by rw [eH, eL]; exact hG
  suffices hW : W p l e (tRm 2 41) s m ([.ref h0] : List Value).toArray below meth c H locs 0 0 (MQ below (tQF G τ (fun r F9 => ∃ q w : Int32, F9 = up2 (up2 F h0 9 q) h0 10 w ∧ ((0 ≤ r.toInt ∧ w = F h0 10 ∧ PNgo (LF F (G.2.2.1 16)) (F h0 7).toInt (LF F (h0 + 2)) (F h0 5).toInt (F h0 9).toInt r.toInt q.toInt) ∨ (r.toInt = -1 ∧ ((w = 1 ∧ PNend (LF F (G.2.2.1 16)) (F h0 7).toInt (LF F (h0 + 2)) (F h0 5).toInt (F h0 9).toInt q.toInt) ∨ (w = F h0 10 ∧ PNbad (LF F (G.2.2.1 16)) (F h0 7).toInt (LF F (h0 + 2)) (F h0 5).toInt (F h0 9).toInt q.toInt)))))) ([.ref h0] : List Value).toArray s 0 0 (tA τ)) (F0 m 0 ls []) by subst eH; subst eL; exact hW
  clear eH eL
  have J27 : ∀ (n27 : Nat) (Fc : mF) (H : Heap) (locs : List Loc) (ls : Array Slot) (v1 : Int32) (v2 : Int32), tGH (gF G Fc) τ s H locs → lv_has ls 3 [(0, .ref h0), (1, .int v1), (2, .int v2)] → -1 ≤ v1.toInt → v1.toInt ≤ 23 → 0 ≤ v2.toInt → v2.toInt ≤ 24 → (∃ q : Int32, Fc = up2 F h0 9 q ∧ q.toInt = (F h0 9).toInt + v2.toInt ∧ UPk (LF F (G.2.2.1 16)) (F h0 7).toInt (LF F (h0 + 2)) (F h0 9).toInt ((LF F (h0 + 2)) ((F h0 5).toInt - 1).toNat) v2.toInt.toNat v1.toInt ∧ v1.toInt + v2.toInt ≤ (F h0 5).toInt - 2 ∧ ¬ nx (LF F (G.2.2.1 16)) (F h0 7).toInt (F h0 9).toInt = 40) → (24 - v2.toInt).toNat < n27 → W p l e (tRm 2 41) s m ([.ref h0] : List Value).toArray below meth c H locs 0 0 (MQ below (tQF G τ (fun r F9 => ∃ q w : Int32, F9 = up2 (up2 F h0 9 q) h0 10 w ∧ ((0 ≤ r.toInt ∧ w = F h0 10 ∧ PNgo (LF F (G.2.2.1 16)) (F h0 7).toInt (LF F (h0 + 2)) (F h0 5).toInt (F h0 9).toInt r.toInt q.toInt) ∨ (r.toInt = -1 ∧ ((w = 1 ∧ PNend (LF F (G.2.2.1 16)) (F h0 7).toInt (LF F (h0 + 2)) (F h0 5).toInt (F h0 9).toInt q.toInt) ∨ (w = F h0 10 ∧ PNbad (LF F (G.2.2.1 16)) (F h0 7).toInt (LF F (h0 + 2)) (F h0 5).toInt (F h0 9).toInt q.toInt)))))) ([.ref h0] : List Value).toArray s 0 0 (tA τ)) (F0 m 27 ls []) := by
    intro n27
    induction n27 with
    | zero => intro Fc H locs ls v1 v2 hG hl b1 c1 b2 c2 hex27 hn27; exact absurd hn27 (Nat.not_lt_zero _)
    | succ n27 ih27 =>
      intro Fc H locs ls v1 v2 hG hl b1 c1 b2 c2 hex27 hn27
      have E := E.f1 (F' := Fc)
      have hSt := hSt.f1 (F' := Fc)
      obtain ⟨q, eFc, hq, hU, hvv, h40⟩ := hex27
      have hqk : q.toInt = (F h0 9).toInt + ((v2.toInt.toNat : Nat) : Int) := by omega
      have nv1 : v1.toNatClampNeg = v1.toInt.toNat := rfl
      refine lv_iload_n hx hb dX5_parentOfNext_27 rfl (lv_at hl 2 rfl) ?_
      refine lv_bipush (v := 24) hx hb dX5_parentOfNext_28 (by decide) ?_
      refine lv_icmp_ge (tgt := 73) hx hb dX5_parentOfNext_30 (by decide) (fun c1 => ?_) (fun c1 => ?_)
      · skip
        have ic1 := tn_le kI_24 rfl c1
        refine lv_aload_n hx hb dX5_parentOfNext_73 rfl (lv_at hl 0 rfl) ?_
        refine lv_iload_n hx hb dX5_parentOfNext_74 rfl (lv_at hl 1 rfl) ?_
        refine lv_iconst (v := -1) hx hb dX5_parentOfNext_75 (by decide) ?_
        refine lv_icmp_ne (tgt := 83) hx hb dX5_parentOfNext_76 (by decide) (fun c2 => ?_) (fun c2 => ?_)
        · skip
          have ic2 := tn_ne rfl kI_m1 c2
          refine lv_iconst (v := 0) hx hb dX5_parentOfNext_83 (by decide) ?_
          refine tc_putF (lo := 0) (hi := 1) E hG t0 (by decide) rfl rfl fq_X5_52 (by decide) (by decide) (t_nz (by decide) (by decide)).1 (t_nz (by decide) (by decide)).2 dX5_parentOfNext_84 (fun H locs hG => ?_)
          obtain ⟨F3, eF3⟩ : ∃ Z : mF, Z = up2 Fc h0 10 (0 : Int32) := ⟨_, rfl⟩
          replace hG : tGH (gF G F3) τ s H locs := by rw [eF3]; exact hG
          have E := E.f1 (F' := F3)
          have hSt := hSt.f1 (F' := F3)
          refine lv_iconst (v := -1) hx hb dX5_parentOfNext_87 (by decide) ?_
          exact tc_iretF E hr hlk hG rfl (by exfalso; omega) dX5_parentOfNext_88
        · skip
          have ic2 := tn_eq rfl kI_m1 c2
          refine lv_iconst (v := 1) hx hb dX5_parentOfNext_79 (by decide) ?_
          refine lv_goto (tgt := 84) hx hb dX5_parentOfNext_80 (by decide) ?_
          refine tc_putF (lo := 0) (hi := 1) E hG t0 (by decide) rfl rfl fq_X5_52 (by decide) (by decide) (t_nz (by decide) (by decide)).1 (t_nz (by decide) (by decide)).2 dX5_parentOfNext_84 (fun H locs hG => ?_)
          obtain ⟨F4, eF4⟩ : ∃ Z : mF, Z = up2 Fc h0 10 (1 : Int32) := ⟨_, rfl⟩
          replace hG : tGH (gF G F4) τ s H locs := by rw [eF4]; exact hG
          have E := E.f1 (F' := F4)
          have hSt := hSt.f1 (F' := F4)
          refine lv_iconst (v := -1) hx hb dX5_parentOfNext_87 (by decide) ?_
          exact tc_iretF E hr hlk hG rfl ⟨q, 1, (by rw [eF4, eFc]), Or.inr ⟨by decide, Or.inl ⟨rfl, h40, v2.toInt.toNat, (by have e9 : v1.toInt = -1 := (by omega); rw [e9] at hU; exact hU), hqk⟩⟩⟩ dX5_parentOfNext_88
      · skip
        have ic1 := tn_nle kI_24 rfl c1
        refine lv_iload_n hx hb dX5_parentOfNext_33 rfl (lv_at hl 1 rfl) ?_
        refine lv_iconst (v := -1) hx hb dX5_parentOfNext_34 (by decide) ?_
        refine lv_icmp_eq (tgt := 73) hx hb dX5_parentOfNext_35 (by decide) (fun c5 => ?_) (fun c5 => ?_)
        · skip
          have ic5 := tn_eq rfl kI_m1 c5
          refine lv_aload_n hx hb dX5_parentOfNext_73 rfl (lv_at hl 0 rfl) ?_
          refine lv_iload_n hx hb dX5_parentOfNext_74 rfl (lv_at hl 1 rfl) ?_
          refine lv_iconst (v := -1) hx hb dX5_parentOfNext_75 (by decide) ?_
          refine lv_icmp_ne (tgt := 83) hx hb dX5_parentOfNext_76 (by decide) (fun c6 => ?_) (fun c6 => ?_)
          · exfalso
            have ic6 := tn_ne rfl kI_m1 c6
            omega
          · skip
            have ic6 := tn_eq rfl kI_m1 c6
            refine lv_iconst (v := 1) hx hb dX5_parentOfNext_79 (by decide) ?_
            refine lv_goto (tgt := 84) hx hb dX5_parentOfNext_80 (by decide) ?_
            refine tc_putF (lo := 0) (hi := 1) E hG t0 (by decide) rfl rfl fq_X5_52 (by decide) (by decide) (t_nz (by decide) (by decide)).1 (t_nz (by decide) (by decide)).2 dX5_parentOfNext_84 (fun H locs hG => ?_)
            obtain ⟨F7, eF7⟩ : ∃ Z : mF, Z = up2 Fc h0 10 (1 : Int32) := ⟨_, rfl⟩
            replace hG : tGH (gF G F7) τ s H locs := by rw [eF7]; exact hG
            have E := E.f1 (F' := F7)
            have hSt := hSt.f1 (F' := F7)
            refine lv_iconst (v := -1) hx hb dX5_parentOfNext_87 (by decide) ?_
            exact tc_iretF E hr hlk hG rfl ⟨q, 1, (by rw [eF7, eFc]), Or.inr ⟨by decide, Or.inl ⟨rfl, h40, v2.toInt.toNat, (by have e9 : v1.toInt = -1 := (by omega); rw [e9] at hU; exact hU), hqk⟩⟩⟩ dX5_parentOfNext_88
        · skip
          have ic5 := tn_ne rfl kI_m1 c5
          refine lv_aload_n hx hb dX5_parentOfNext_38 rfl (lv_at hl 0 rfl) ?_
          refine lv_bipush (v := 44) hx hb dX5_parentOfNext_39 (by decide) ?_
          refine tc_calliF hG (tc_runV (As := [.int 44]) (rest := []) E hSt hG (x_X5_passed l G Fc τ h0 (44 : Int32) t0 (by decide) (by decide) hL h9 hLr (by rw [eFc, up2_ne (by omega)]; exact h7)) t0 rv_7 kv_X5_passed ml_X5_68 ⟨rfl, rfl, Nat.le_of_ble_eq_true rfl, Nat.le_of_ble_eq_true rfl⟩ rfl hl.1 rfl (Nat.le_of_ble_eq_true rfl) ⟨Nat.zero_le _, Nat.zero_le _⟩ dX5_parentOfNext_41) (fun r8 F9 H locs pr8 hG => ?_)
          have E := E.f1 (F' := F9)
          have hSt := hSt.f1 (F' := F9)
          replace pr8 : (r8.toInt = 1 ∧ nx (LF Fc (G.2.2.1 16)) (Fc h0 7).toInt (Fc h0 9).toInt = (44 : Int32).toInt ∧ (Fc h0 9).toInt < (Fc h0 7).toInt ∧ F9 = up2 Fc h0 9 (Fc h0 9 + 1)) ∨ (r8.toInt = 0 ∧ ¬ nx (LF Fc (G.2.2.1 16)) (Fc h0 7).toInt (Fc h0 9).toInt = (44 : Int32).toInt ∧ F9 = Fc) := pr8
          have k10 := kI_44
          refine lv_if_eq (tgt := 49) hx hb dX5_parentOfNext_44 (by decide) (fun c11 => ?_) (fun c11 => ?_)
          · skip
            have ic11 := tn_eq rfl kI_0 c11
            rw [show LF Fc (G.2.2.1 16) = LF F (G.2.2.1 16) from (by rw [eFc, LF_up (by omega)]), show Fc h0 7 = (F h0 7) from (by rw [eFc, up2_ne (by omega)]), show Fc h0 9 = q from (by rw [eFc, up2_at])] at pr8
            obtain ⟨fr8, eF9⟩ : ¬ nx (LF F (G.2.2.1 16)) (F h0 7).toInt q.toInt = (44 : Int32).toInt ∧ F9 = Fc := by rcases pr8 with ⟨q9, _⟩ | ⟨_, a9, q9⟩; (exfalso; omega); exact ⟨a9, q9⟩
            rw [eF9] at hG
            have E := E.f1 (F' := Fc)
            have hSt := hSt.f1 (F' := Fc)
            refine lv_aload_n hx hb dX5_parentOfNext_49 rfl (lv_at hl 0 rfl) ?_
            refine lv_bipush (v := 41) hx hb dX5_parentOfNext_50 (by decide) ?_
            refine tc_calliF hG (tc_runV (As := [.int 41]) (rest := []) E hSt hG (x_X5_passed l G Fc τ h0 (41 : Int32) t0 (by decide) (by decide) hL h9 hLr (by rw [eFc, up2_ne (by omega)]; exact h7)) t0 rv_7 kv_X5_passed ml_X5_68 ⟨rfl, rfl, Nat.le_of_ble_eq_true rfl, Nat.le_of_ble_eq_true rfl⟩ rfl hl.1 rfl (Nat.le_of_ble_eq_true rfl) ⟨Nat.zero_le _, Nat.zero_le _⟩ dX5_parentOfNext_52) (fun r12 F13 H locs pr12 hG => ?_)
            have E := E.f1 (F' := F13)
            have hSt := hSt.f1 (F' := F13)
            replace pr12 : (r12.toInt = 1 ∧ nx (LF Fc (G.2.2.1 16)) (Fc h0 7).toInt (Fc h0 9).toInt = (41 : Int32).toInt ∧ (Fc h0 9).toInt < (Fc h0 7).toInt ∧ F13 = up2 Fc h0 9 (Fc h0 9 + 1)) ∨ (r12.toInt = 0 ∧ ¬ nx (LF Fc (G.2.2.1 16)) (Fc h0 7).toInt (Fc h0 9).toInt = (41 : Int32).toInt ∧ F13 = Fc) := pr12
            have k14 := kI_41
            refine lv_if_ne (tgt := 60) hx hb dX5_parentOfNext_55 (by decide) (fun c15 => ?_) (fun c15 => ?_)
            · skip
              have ic15 := tn_ne rfl kI_0 c15
              rw [show LF Fc (G.2.2.1 16) = LF F (G.2.2.1 16) from (by rw [eFc, LF_up (by omega)]), show Fc h0 7 = (F h0 7) from (by rw [eFc, up2_ne (by omega)]), show Fc h0 9 = q from (by rw [eFc, up2_at])] at pr12
              obtain ⟨fr12, gr12, eF13⟩ : nx (LF F (G.2.2.1 16)) (F h0 7).toInt q.toInt = (41 : Int32).toInt ∧ q.toInt < (F h0 7).toInt ∧ F13 = up2 Fc h0 9 (q + 1) := by rcases pr12 with ⟨_, a9, b9, q9⟩ | ⟨q9, _⟩; exact ⟨a9, b9, q9⟩; exfalso; omega
              obtain ⟨z16, ez16⟩ : ∃ y : Int32, y = q + 1 := ⟨_, rfl⟩
              rw [← ez16] at eF13
              have az16 := t_any1 q
              have tz16 := tn_add ez16 rfl kI_1 (by omega) (by omega)
              refine lv_aload_n hx hb dX5_parentOfNext_60 rfl (lv_at hl 0 rfl) ?_
              refine tc_getrF (d := 2) E hG t0 fr_X5_15 rfl dX5_parentOfNext_61 (fun ha17 => ?_)
              refine lv_iload_n hx hb dX5_parentOfNext_64 rfl (lv_at hl 1 rfl) ?_
              refine tc_ialdF E hG ha17 ta_16 rfl (t_in (by omega) (by omega)) dX5_parentOfNext_65 (fun z18 lz18 uz18 wz18 => ?_)
              replace wz18 : z18 = F13 (h0 + 2) v1.toNatClampNeg := wz18
              have nn19 : v1.toNatClampNeg = v1.toInt.toNat := rfl
              replace wz18 : z18 = F (h0 + 2) v1.toNatClampNeg := by rw [wz18, eF13, up2_ne (by omega), eFc, up2_ne (by omega)]
              have cz18 : z18.toInt = (F (h0 + 2) v1.toNatClampNeg).toInt := by rw [wz18]
              refine lv_istore_n (lv' := [(1, .int z18), (0, .ref h0), (2, .int v2)]) hx hb dX5_parentOfNext_66 rfl hl (by decide) rfl (fun ls hl => ?_)
              obtain ⟨z20, ez20⟩ : ∃ y : Int32, y = v2 + (1) := ⟨_, rfl⟩
              refine lv_iinc (v := z20) (lv' := [(2, .int z20), (1, .int z18), (0, .ref h0)]) hx hb dX5_parentOfNext_67 hl (k := 2) rfl (by rw [ez20]; rfl) (by decide) rfl (fun ls hl => ?_)
              have tz20 := tn_add ez20 rfl kI_1 (by omega) (by omega)
              refine lv_goto (tgt := 27) hx hb dX5_parentOfNext_70 (by decide) ?_
              exact ih27 F13 H locs ls z18 z20 hG (lv_sub hl [2, 1, 0] rfl) (by omega) (by omega) (by omega) (by omega) (by rw [hqk] at fr12; refine ⟨z16, (by rw [eF13, eFc, up2_up2]), by omega, ?_, ?_, h40⟩; (rw [show z20.toInt.toNat = v2.toInt.toNat + 1 by omega]; exact ⟨v1.toInt, hU, by omega, (by omega), (by unfold LF; rw [cz18, nv1])⟩); (have h9_ := hP v1.toNatClampNeg (by omega); rw [← cz18] at h9_; omega)) (by omega)
            · skip
              have ic15 := tn_eq rfl kI_0 c15
              rw [show LF Fc (G.2.2.1 16) = LF F (G.2.2.1 16) from (by rw [eFc, LF_up (by omega)]), show Fc h0 7 = (F h0 7) from (by rw [eFc, up2_ne (by omega)]), show Fc h0 9 = q from (by rw [eFc, up2_at])] at pr12
              obtain ⟨fr12, eF13⟩ : ¬ nx (LF F (G.2.2.1 16)) (F h0 7).toInt q.toInt = (41 : Int32).toInt ∧ F13 = Fc := by rcases pr12 with ⟨q9, _⟩ | ⟨_, a9, q9⟩; (exfalso; omega); exact ⟨a9, q9⟩
              rw [eF13] at hG
              have E := E.f1 (F' := Fc)
              have hSt := hSt.f1 (F' := Fc)
              refine lv_iconst (v := -1) hx hb dX5_parentOfNext_58 (by decide) ?_
              exact tc_iretF E hr hlk hG rfl (by rw [hqk] at fr8; rw [hqk] at fr12; exact ⟨q, F h0 10, (by rw [eFc, up2_3 (by decide)]), Or.inr ⟨by decide, Or.inr ⟨rfl, h40, v2.toInt.toNat, v1.toInt, hU, by omega, by omega, by omega, by omega⟩⟩⟩) dX5_parentOfNext_59
          · skip
            have ic11 := tn_ne rfl kI_0 c11
            rw [show LF Fc (G.2.2.1 16) = LF F (G.2.2.1 16) from (by rw [eFc, LF_up (by omega)]), show Fc h0 7 = (F h0 7) from (by rw [eFc, up2_ne (by omega)]), show Fc h0 9 = q from (by rw [eFc, up2_at])] at pr8
            obtain ⟨fr8, gr8, eF9⟩ : nx (LF F (G.2.2.1 16)) (F h0 7).toInt q.toInt = (44 : Int32).toInt ∧ q.toInt < (F h0 7).toInt ∧ F9 = up2 Fc h0 9 (q + 1) := by rcases pr8 with ⟨_, a9, b9, q9⟩ | ⟨q9, _⟩; exact ⟨a9, b9, q9⟩; exfalso; omega
            obtain ⟨z21, ez21⟩ : ∃ y : Int32, y = q + 1 := ⟨_, rfl⟩
            rw [← ez21] at eF9
            have az21 := t_any1 q
            have tz21 := tn_add ez21 rfl kI_1 (by omega) (by omega)
            refine lv_iload_n hx hb dX5_parentOfNext_47 rfl (lv_at hl 1 rfl) ?_
            exact tc_iretF E hr hlk hG rfl (by rw [hqk] at fr8; exact ⟨z21, F h0 10, (by rw [eF9, eFc, up2_up2, up2_3 (by decide)]), Or.inl ⟨by omega, rfl, Or.inr ⟨h40, v2.toInt.toNat, hU, by omega, by omega, by omega⟩⟩⟩) dX5_parentOfNext_48
  refine lv_aload_n hx hb dX5_parentOfNext_0 rfl (lv_at hl 0 rfl) ?_
  refine tc_getF E hG t0 fi_X5_49 rfl dX5_parentOfNext_1 (fun z22 lz22 uz22 wz22 => ?_)
  replace wz22 : z22 = F h0 5 := wz22
  have cz22 : z22.toInt = (F h0 5).toInt := by rw [wz22]
  refine lv_iconst (v := 1) hx hb dX5_parentOfNext_4 (by decide) ?_
  refine lv_isub hx hb dX5_parentOfNext_5 ?_
  refine lv_topi (fun z23 ez23 => ?_)
  have tz23 := tn_sub ez23 rfl kI_1 (by omega) (by omega)
  refine lv_istore_n (lv' := [(1, .int z23), (0, .ref h0)]) hx hb dX5_parentOfNext_6 rfl hl (by decide) rfl (fun ls hl => ?_)
  refine lv_aload_n hx hb dX5_parentOfNext_7 rfl (lv_at hl 1 rfl) ?_
  refine lv_bipush (v := 40) hx hb dX5_parentOfNext_8 (by decide) ?_
  refine tc_calliF hG (tc_runV (As := [.int 40]) (rest := []) E hSt hG (x_X5_passed l G F τ h0 (40 : Int32) t0 (by decide) (by decide) hL h9 hLr h7) t0 rv_7 kv_X5_passed ml_X5_68 ⟨rfl, rfl, Nat.le_of_ble_eq_true rfl, Nat.le_of_ble_eq_true rfl⟩ rfl hl.1 rfl (Nat.le_of_ble_eq_true rfl) ⟨Nat.zero_le _, Nat.zero_le _⟩ dX5_parentOfNext_10) (fun r24 F25 H locs pr24 hG => ?_)
  have E := E.f1 (F' := F25)
  have hSt := hSt.f1 (F' := F25)
  replace pr24 : (r24.toInt = 1 ∧ nx (LF F (G.2.2.1 16)) (F h0 7).toInt (F h0 9).toInt = (40 : Int32).toInt ∧ (F h0 9).toInt < (F h0 7).toInt ∧ F25 = up2 F h0 9 (F h0 9 + 1)) ∨ (r24.toInt = 0 ∧ ¬ nx (LF F (G.2.2.1 16)) (F h0 7).toInt (F h0 9).toInt = (40 : Int32).toInt ∧ F25 = F) := pr24
  have k26 := kI_40
  refine lv_if_eq (tgt := 18) hx hb dX5_parentOfNext_13 (by decide) (fun c27 => ?_) (fun c27 => ?_)
  · skip
    have ic27 := tn_eq rfl kI_0 c27
    obtain ⟨fr24, eF25⟩ : ¬ nx (LF F (G.2.2.1 16)) (F h0 7).toInt (F h0 9).toInt = (40 : Int32).toInt ∧ F25 = F := by rcases pr24 with ⟨q9, _⟩ | ⟨_, a9, q9⟩; (exfalso; omega); exact ⟨a9, q9⟩
    rw [eF25] at hG
    have E := E.f1 (F' := F)
    have hSt := hSt.f1 (F' := F)
    refine lv_aload_n hx hb dX5_parentOfNext_18 rfl (lv_at hl 1 rfl) ?_
    refine tc_getrF (d := 2) E hG t0 fr_X5_15 rfl dX5_parentOfNext_19 (fun ha28 => ?_)
    refine lv_iload_n hx hb dX5_parentOfNext_22 rfl (lv_at hl 0 rfl) ?_
    refine tc_ialdF E hG ha28 ta_16 rfl (t_in (by omega) (by omega)) dX5_parentOfNext_23 (fun z29 lz29 uz29 wz29 => ?_)
    replace wz29 : z29 = F (h0 + 2) z23.toNatClampNeg := wz29
    have nn30 : z23.toNatClampNeg = z23.toInt.toNat := rfl
    have cz29 : z29.toInt = (F (h0 + 2) z23.toNatClampNeg).toInt := by rw [wz29]
    refine lv_istore_n (lv' := [(1, .int z29), (0, .ref h0)]) hx hb dX5_parentOfNext_24 rfl hl (by decide) rfl (fun ls hl => ?_)
    refine lv_iconst (v := 0) hx hb dX5_parentOfNext_25 (by decide) ?_
    refine lv_istore_n (lv' := [(2, .int 0), (1, .int z29), (0, .ref h0)]) hx hb dX5_parentOfNext_26 rfl hl (by decide) rfl (fun ls hl => ?_)
    exact J27 ((24 - (0 : Int32).toInt).toNat + 1) F H locs ls z29 (0 : Int32) hG (lv_sub hl [2, 1, 0] rfl) (by omega) (by omega) (by decide) (by decide) (by have k0_ := kI_0; refine ⟨F h0 9, up2_self.symm, by omega, ?_, ?_, by omega⟩; (show _ = LF F (h0 + 2) _; unfold LF; rw [cz29, show ((F h0 5).toInt - 1).toNat = z23.toNatClampNeg by (show _ = z23.toInt.toNat; omega)]); (have h9_ := hP z23.toNatClampNeg (by show ((z23.toInt.toNat : Nat) : Int) < _; omega); rw [← cz29] at h9_; omega)) (Nat.lt_succ_self _)
  · skip
    have ic27 := tn_ne rfl kI_0 c27
    obtain ⟨fr24, gr24, eF25⟩ : nx (LF F (G.2.2.1 16)) (F h0 7).toInt (F h0 9).toInt = (40 : Int32).toInt ∧ (F h0 9).toInt < (F h0 7).toInt ∧ F25 = up2 F h0 9 ((F h0 9) + 1) := by rcases pr24 with ⟨_, a9, b9, q9⟩ | ⟨q9, _⟩; exact ⟨a9, b9, q9⟩; exfalso; omega
    obtain ⟨z31, ez31⟩ : ∃ y : Int32, y = (F h0 9) + 1 := ⟨_, rfl⟩
    rw [← ez31] at eF25
    have az31 := t_any1 (F h0 9)
    have tz31 := tn_add ez31 rfl kI_1 (by omega) (by omega)
    refine lv_iload_n hx hb dX5_parentOfNext_16 rfl (lv_at hl 0 rfl) ?_
    exact tc_iretF E hr hlk hG rfl ⟨z31, F h0 10, (by rw [eF25, up2_3 (by decide)]), Or.inl ⟨by omega, rfl, Or.inl ⟨by omega, by omega, by omega⟩⟩⟩ dX5_parentOfNext_17
