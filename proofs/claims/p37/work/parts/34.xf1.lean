/-! ===== a BOX is read ===== -/
/-- nothing but the Reader's own rows changes -/
def FRM (F F' : mF) (h : Nat) : Prop := ∀ c k, c < h ∨ h + 30 ≤ c → F' c k = F c k
def bxF (F : mF) (h n : Nat) (kd pr : Int32) (f : Nat → Int32) (sv q : Int32) : mF := fun c k =>
  if c = h then (if k = 9 then q else if k = 5 then F h 5 + 1 else F c k)
  else if c = h + 1 then (if k = n then kd else F c k)
  else if c = h + 2 then (if k = n then pr else F c k)
  else if c = h + 3 then (if k = n then sv else F c k)
  else if c = h + 4 then (if 0 ≤ pr.toInt ∧ k = pr.toInt.toNat then F c k + 1 else if k = n then 0 else F c k)
  else if c = h + 5 + (1 + n) then (if k < 4 then f k else F c k)
  else F c k
def BXr (left n par : Int) (K C : Nat → Int) : Prop := (par = -1 ∨ C par.toNat < nKid (K par.toNat)) ∧ n < left ∧ n < 24
/-- the n-th BOX is read from p on, held by par: its kind, numbers, share, and where it ends -/
def BXok (L : Nat → Int) (len left n p par : Int) (K C : Nat → Int) (kd : Int) (row : Nat → Int) (sh q : Int) : Prop := BXr left n par K C ∧ 0 ≤ kd ∧ ∃ q1 q2, RM L len p kd q1 ∧ RO L len kd q1 (nNum kd).toNat q2 row ∧ RS L len q2 sh q True
/-- it is at fault, at q -/
def BXbad (L : Nat → Int) (len left n p par : Int) (K C : Nat → Int) (q : Int) : Prop := (¬ BXr left n par K C ∧ q = p) ∨ (BXr left n par K C ∧ (RM L len p (-1) q ∨ ∃ kd q1, 0 ≤ kd ∧ RM L len p kd q1 ∧ (RF L len kd q1 q ∨ ∃ q2 row sh, RO L len kd q1 (nNum kd).toNat q2 row ∧ RS L len q2 sh q False)))
theorem RM_r {L : Nat → Int} {len p kd q : Int} (h : RM L len p kd q) : -1 ≤ kd ∧ kd ≤ 9 := by
  rcases h with ⟨k, h1, h2, _⟩ | ⟨h1, _⟩ <;> omega
theorem RS_t {L : Nat → Int} {len p s q : Int} {a b : Prop} (h : RS L len p s q a) (e : a ↔ b) : RS L len p s q b := by rw [← propext e]; exact h

theorem bx_eq1 {F : mF} {h n : Nat} {kd pr sv q q1 q2 c1 : Int32} {f : Nat → Int32} (hn : n < 24) (h1 : c1 = F h 5 + 1) (h2 : pr.toInt = -1) : up2 (up2 (up2 (upR (up2 (up2 (up2 (up2 (up2 F h 9 q1) h 5 c1) (h + 1) n kd) (h + 2) n pr) (h + 4) n 0) (h + 5 + (1 + n)) 0 4 f) h 9 q2) (h + 3) n sv) h 9 q = bxF F h n kd pr f sv q := funext fun c => funext fun k => by
  unfold bxF up2 upR
  subst h1
  by_cases e0 : c = h
  · subst e0
    grind
  · by_cases e1 : c = h + 1 <;> by_cases e2 : c = h + 2 <;> by_cases e3 : c = h + 3 <;> by_cases e4 : c = h + 4 <;> by_cases e5 : c = h + 5 + (1 + n) <;> grind
theorem bx_eq2 {F : mF} {h n j : Nat} {kd pr sv q q1 q2 c1 c2 : Int32} {f : Nat → Int32} (hn : n < 24) (h1 : c1 = F h 5 + 1) (h2 : 0 ≤ pr.toInt) (h3 : j = pr.toInt.toNat) (h4 : c2 = F (h + 4) j + 1) : up2 (up2 (up2 (upR (up2 (up2 (up2 (up2 (up2 (up2 F h 9 q1) h 5 c1) (h + 1) n kd) (h + 2) n pr) (h + 4) n 0) (h + 4) j c2) (h + 5 + (1 + n)) 0 4 f) h 9 q2) (h + 3) n sv) h 9 q = bxF F h n kd pr f sv q := funext fun c => funext fun k => by
  unfold bxF up2 upR
  subst h1
  by_cases e0 : c = h
  · subst e0
    grind
  · by_cases e1 : c = h + 1 <;> by_cases e2 : c = h + 2 <;> by_cases e3 : c = h + 3 <;> by_cases e4 : c = h + 4 <;> by_cases e5 : c = h + 5 + (1 + n) <;> grind

set_option maxHeartbeats 4000000 in
set_option maxRecDepth 100000 in
theorem x_X5_readBox (l : Launch) (G : tG) (F : mF) (τ : Nat → Nat) (h0 : Nat) (x1 : Int32) (t0 : τ h0 = 7) (l1 : -1 ≤ x1.toInt) (u1 : x1.toInt ≤ 23) (hL : τ (G.2.2.1 16) = 18) (h9 : G.2.2.1 9 = 1) (hLr : G.2.2.1 16 < h0 ∨ h0 + 30 ≤ G.2.2.1 16) (h7 : (F h0 7).toInt ≤ 120) (hpc : x1.toInt < (F h0 5).toInt) : Met l yX5_readBox (.code yX5_readBox cX5_readBox 5 (some .boolean) :: tWS) (tRm 6 132) (va_Pc [.ref h0, .int x1] (tPre (gF G F) τ)) (tQF G τ (fun r F9 => (r.toInt = 1 ∧ ∃ (kd : Int32) (f : Nat → Int32) (sv q : Int32), F9 = bxF F h0 (F h0 5).toInt.toNat kd x1 f sv q ∧ BXok (LF F (G.2.2.1 16)) (F h0 7).toInt (F h0 8).toInt (F h0 5).toInt (F h0 9).toInt x1.toInt (LF F (h0 + 1)) (LF F (h0 + 4)) kd.toInt (fun j => (f j).toInt) sv.toInt q.toInt) ∨ (r.toInt = 0 ∧ FRM F F9 h0 ∧ BXbad (LF F (G.2.2.1 16)) (F h0 7).toInt (F h0 8).toInt (F h0 5).toInt (F h0 9).toInt x1.toInt (LF F (h0 + 1)) (LF F (h0 + 4)) (F9 h0 9).toInt))) 0 0 (tA τ) := by
  refine tc_met (by decide) (Nat.le_of_ble_eq_true rfl) ?_
  intro p e s m below meth c E hSt hr hlk hG ls hl
  have hl : lv_has ls 5 [(0, .ref h0), (1, .int x1)] := hl
  have hx := E.1
  have hb := E.2.1
  obtain ⟨H, eH⟩ : ∃ H, H = s.heap := ⟨_, rfl⟩
  obtain ⟨locs, eL⟩ : ∃ x : List Loc, x = [] := ⟨_, rfl⟩
  have hG : tGH (gF G F) τ s H locs := by rw [eH, eL]; exact hG
  suffices hW : W p l e (tRm 6 132) s m ([.ref h0, .int x1] : List Value).toArray below meth c H locs 0 0 (MQ below (tQF G τ (fun r F9 => (r.toInt = 1 ∧ ∃ (kd : Int32) (f : Nat → Int32) (sv q : Int32), F9 = bxF F h0 (F h0 5).toInt.toNat kd x1 f sv q ∧ BXok (LF F (G.2.2.1 16)) (F h0 7).toInt (F h0 8).toInt (F h0 5).toInt (F h0 9).toInt x1.toInt (LF F (h0 + 1)) (LF F (h0 + 4)) kd.toInt (fun j => (f j).toInt) sv.toInt q.toInt) ∨ (r.toInt = 0 ∧ FRM F F9 h0 ∧ BXbad (LF F (G.2.2.1 16)) (F h0 7).toInt (F h0 8).toInt (F h0 5).toInt (F h0 9).toInt x1.toInt (LF F (h0 + 1)) (LF F (h0 + 4)) (F9 h0 9).toInt))) ([.ref h0, .int x1] : List Value).toArray s 0 0 (tA τ)) (F0 m 0 ls []) by subst eH; subst eL; exact hW
  clear eH eL
  have nx1 : x1.toNatClampNeg = x1.toInt.toNat := rfl
  refine lv_iload_n hx hb dX5_readBox_0 rfl (lv_at hl 1 rfl) ?_
  refine lv_iconst (v := -1) hx hb dX5_readBox_1 (by decide) ?_
  refine lv_icmp_eq (tgt := 23) hx hb dX5_readBox_2 (by decide) (fun c1 => ?_) (fun c1 => ?_)
  · skip
    have ic1 := tn_eq rfl kI_m1 c1
    refine lv_iconst (v := 1) hx hb dX5_readBox_23 (by decide) ?_
    refine lv_goto (tgt := 28) hx hb dX5_readBox_24 (by decide) ?_
    refine lv_istore_n (lv' := [(2, .int 1), (0, .ref h0), (1, .int x1)]) hx hb dX5_readBox_28 rfl hl (by decide) rfl (fun ls hl => ?_)
    refine lv_iload_n hx hb dX5_readBox_29 rfl (lv_at hl 0 rfl) ?_
    refine lv_if_eq (tgt := 53) hx hb dX5_readBox_30 (by decide) (fun c2 => ?_) (fun c2 => ?_)
    · exfalso
      have ic2 := tn_eq kI_1 kI_0 c2
      omega
    · skip
      have ic2 := tn_ne kI_1 kI_0 c2
      refine lv_aload_n hx hb dX5_readBox_33 rfl (lv_at hl 1 rfl) ?_
      refine tc_getF E hG t0 fi_X5_49 rfl dX5_readBox_34 (fun z3 lz3 uz3 wz3 => ?_)
      replace wz3 : z3 = F h0 5 := wz3
      have cz3 : z3.toInt = (F h0 5).toInt := by rw [wz3]
      refine lv_aload_n hx hb dX5_readBox_37 rfl (lv_at hl 1 rfl) ?_
      refine tc_getF E hG t0 fi_X5_43 rfl dX5_readBox_38 (fun z4 lz4 uz4 wz4 => ?_)
      replace wz4 : z4 = F h0 8 := wz4
      have cz4 : z4.toInt = (F h0 8).toInt := by rw [wz4]
      refine lv_icmp_ge (tgt := 53) hx hb dX5_readBox_41 (by decide) (fun c5 => ?_) (fun c5 => ?_)
      · skip
        have ic5 := tn_le rfl rfl c5
        refine lv_iconst (v := 0) hx hb dX5_readBox_53 (by decide) ?_
        exact tc_iretF E hr hlk hG (t_nz (by decide) (by decide)).1 (Or.inr ⟨by decide, (fun c k h => rfl), Or.inl ⟨(by unfold BXr LF; simp only [← nx1]; omega), rfl⟩⟩) dX5_readBox_54
      · skip
        have ic5 := tn_nle rfl rfl c5
        refine lv_aload_n hx hb dX5_readBox_44 rfl (lv_at hl 1 rfl) ?_
        refine tc_getF E hG t0 fi_X5_49 rfl dX5_readBox_45 (fun z6 lz6 uz6 wz6 => ?_)
        replace wz6 : z6 = F h0 5 := wz6
        have cz6 : z6.toInt = (F h0 5).toInt := by rw [wz6]
        refine lv_bipush (v := 24) hx hb dX5_readBox_48 (by decide) ?_
        refine lv_icmp_lt (tgt := 55) hx hb dX5_readBox_50 (by decide) (fun c7 => ?_) (fun c7 => ?_)
        · skip
          have ic7 := tn_lt rfl kI_24 c7
          refine lv_aload_n hx hb dX5_readBox_55 rfl (lv_at hl 1 rfl) ?_
          refine tc_calliF hG (tc_runV (As := []) (rest := []) E hSt hG (x_X5_readName l G F τ h0 t0 hL h9 hLr h7) t0 rv_7 kv_X5_readName ml_X5_78 ⟨rfl, rfl, Nat.le_of_ble_eq_true rfl, Nat.le_of_ble_eq_true rfl⟩ rfl hl.1 rfl (Nat.le_of_ble_eq_true rfl) ⟨Nat.zero_le _, Nat.zero_le _⟩ dX5_readBox_56) (fun r8 F9 H locs pr8 hG => ?_)
          have E := E.f1 (F' := F9)
          have hSt := hSt.f1 (F' := F9)
          replace pr8 : ∃ q : Int32, F9 = up2 F h0 9 q ∧ RM (LF F (G.2.2.1 16)) (F h0 7).toInt (F h0 9).toInt r8.toInt q.toInt := pr8
          obtain ⟨qr8, eF9, nr8⟩ := pr8
          have gr8 := RM_r nr8
          refine lv_istore_n (lv' := [(3, .int r8), (2, .int 1), (0, .ref h0), (1, .int x1)]) hx hb dX5_readBox_59 rfl hl (by decide) rfl (fun ls hl => ?_)
          refine lv_iload_n hx hb dX5_readBox_60 rfl (lv_at hl 0 rfl) ?_
          refine lv_iconst (v := -1) hx hb dX5_readBox_61 (by decide) ?_
          refine lv_icmp_ne (tgt := 67) hx hb dX5_readBox_62 (by decide) (fun c10 => ?_) (fun c10 => ?_)
          · skip
            have ic10 := tn_ne rfl kI_m1 c10
            refine lv_aload_n hx hb dX5_readBox_67 rfl (lv_at hl 2 rfl) ?_
            refine tc_getF E hG t0 fi_X5_49 rfl dX5_readBox_68 (fun z11 lz11 uz11 wz11 => ?_)
            replace wz11 : z11 = F9 h0 5 := wz11
            replace wz11 : z11 = F h0 5 := by rw [wz11, eF9, up2_ne (by omega)]
            have cz11 : z11.toInt = (F h0 5).toInt := by rw [wz11]
            refine lv_istore (lv' := [(4, .int z11), (3, .int r8), (2, .int 1), (0, .ref h0), (1, .int x1)]) hx hb dX5_readBox_71 hl (by decide) rfl (fun ls hl => ?_)
            refine lv_aload_n hx hb dX5_readBox_73 rfl (lv_at hl 3 rfl) ?_
            refine lv_dup hx hb dX5_readBox_74 rfl ?_
            refine tc_getF E hG t0 fi_X5_49 rfl dX5_readBox_75 (fun z12 lz12 uz12 wz12 => ?_)
            replace wz12 : z12 = F9 h0 5 := wz12
            replace wz12 : z12 = F h0 5 := by rw [wz12, eF9, up2_ne (by omega)]
            have cz12 : z12.toInt = (F h0 5).toInt := by rw [wz12]
            refine lv_iconst (v := 1) hx hb dX5_readBox_78 (by decide) ?_
            refine lv_iadd hx hb dX5_readBox_79 ?_
            refine lv_topi (fun z13 ez13 => ?_)
            have tz13 := tn_add ez13 rfl kI_1 (by omega) (by omega)
            refine tc_putF (lo := 0) (hi := 24) E hG t0 (by decide) rfl rfl fq_X5_49 (by omega) (by omega) rfl rfl dX5_readBox_80 (fun H locs hG => ?_)
            obtain ⟨F14, eF14⟩ : ∃ Z : mF, Z = up2 F9 h0 5 z13 := ⟨_, rfl⟩
            replace hG : tGH (gF G F14) τ s H locs := by rw [eF14]; exact hG
            have E := E.f1 (F' := F14)
            have hSt := hSt.f1 (F' := F14)
            refine lv_aload_n hx hb dX5_readBox_83 rfl (lv_at hl 3 rfl) ?_
            refine tc_getrF (d := 1) E hG t0 fr_X5_9 rfl dX5_readBox_84 (fun ha15 => ?_)
            refine lv_iload hx hb dX5_readBox_87 (lv_at hl 0 rfl) ?_
            refine lv_iload_n hx hb dX5_readBox_89 rfl (lv_at hl 1 rfl) ?_
            have nn16 : z11.toNatClampNeg = z11.toInt.toNat := rfl
            refine tc_iastF E hG ha15 ta_15 (t_in (by omega) (by omega)) (t_any1 _) (t_any2 _) dX5_readBox_90 (fun H locs hG => ?_)
            obtain ⟨F17, eF17⟩ : ∃ Z : mF, Z = up2 F14 (h0 + 1) z11.toNatClampNeg r8 := ⟨_, rfl⟩
            replace hG : tGH (gF G F17) τ s H locs := by rw [eF17]; exact hG
            have E := E.f1 (F' := F17)
            have hSt := hSt.f1 (F' := F17)
            refine lv_aload_n hx hb dX5_readBox_91 rfl (lv_at hl 3 rfl) ?_
            refine tc_getrF (d := 2) E hG t0 fr_X5_15 rfl dX5_readBox_92 (fun ha18 => ?_)
            refine lv_iload hx hb dX5_readBox_95 (lv_at hl 0 rfl) ?_
            refine lv_iload_n hx hb dX5_readBox_97 rfl (lv_at hl 4 rfl) ?_
            have nn19 : z11.toNatClampNeg = z11.toInt.toNat := rfl
            refine tc_iastF E hG ha18 ta_16 (t_in (by omega) (by omega)) (by omega) (by omega) dX5_readBox_98 (fun H locs hG => ?_)
            obtain ⟨F20, eF20⟩ : ∃ Z : mF, Z = up2 F17 (h0 + 2) z11.toNatClampNeg x1 := ⟨_, rfl⟩
            replace hG : tGH (gF G F20) τ s H locs := by rw [eF20]; exact hG
            have E := E.f1 (F' := F20)
            have hSt := hSt.f1 (F' := F20)
            refine lv_aload_n hx hb dX5_readBox_99 rfl (lv_at hl 3 rfl) ?_
            refine tc_getrF (d := 4) E hG t0 fr_X5_21 rfl dX5_readBox_100 (fun ha21 => ?_)
            refine lv_iload hx hb dX5_readBox_103 (lv_at hl 0 rfl) ?_
            refine lv_iconst (v := 0) hx hb dX5_readBox_105 (by decide) ?_
            have nn22 : z11.toNatClampNeg = z11.toInt.toNat := rfl
            refine tc_iastF E hG ha21 ta_15 (t_in (by omega) (by omega)) (t_any1 _) (t_any2 _) dX5_readBox_106 (fun H locs hG => ?_)
            obtain ⟨F23, eF23⟩ : ∃ Z : mF, Z = up2 F20 (h0 + 4) z11.toNatClampNeg (0 : Int32) := ⟨_, rfl⟩
            replace hG : tGH (gF G F23) τ s H locs := by rw [eF23]; exact hG
            have E := E.f1 (F' := F23)
            have hSt := hSt.f1 (F' := F23)
            refine lv_iload_n hx hb dX5_readBox_107 rfl (lv_at hl 4 rfl) ?_
            refine lv_iconst (v := -1) hx hb dX5_readBox_108 (by decide) ?_
            refine lv_icmp_eq (tgt := 122) hx hb dX5_readBox_109 (by decide) (fun c24 => ?_) (fun c24 => ?_)
            · skip
              have ic24 := tn_eq rfl kI_m1 c24
              refine lv_aload_n hx hb dX5_readBox_122 rfl (lv_at hl 3 rfl) ?_
              refine lv_iload hx hb dX5_readBox_123 (lv_at hl 0 rfl) ?_
              refine tc_calliF hG (tc_runV (As := [.int z11]) (rest := []) E hSt hG (x_X5_readNumbers l G F23 τ h0 z11 t0 (by omega) (by omega) hL h9 hLr (by rw [eF23, up2_ne (by omega), eF20, up2_ne (by omega), eF17, up2_ne (by omega), eF14, up2_ne (by omega), eF9, up2_ne (by omega)]; exact h7)) t0 rv_7 kv_X5_readNumbers ml_X5_81 ⟨rfl, rfl, Nat.le_of_ble_eq_true rfl, Nat.le_of_ble_eq_true rfl⟩ rfl hl.1 rfl (Nat.le_of_ble_eq_true rfl) ⟨Nat.zero_le _, Nat.zero_le _⟩ dX5_readBox_125) (fun r25 F26 H locs pr25 hG => ?_)
              have E := E.f1 (F' := F26)
              have hSt := hSt.f1 (F' := F26)
              replace pr25 : ∃ (f : Nat → Int32) (q : Int32), F26 = up2 (upR F23 (h0 + 5 + (1 + z11.toNatClampNeg)) 0 4 f) h0 9 q ∧ ((r25.toInt = 1 ∧ RO (LF F23 (G.2.2.1 16)) (F23 h0 7).toInt (F23 (h0 + 1) z11.toNatClampNeg).toInt (F23 h0 9).toInt (nNum (F23 (h0 + 1) z11.toNatClampNeg).toInt).toNat q.toInt (fun j => (f j).toInt)) ∨ (r25.toInt = 0 ∧ RF (LF F23 (G.2.2.1 16)) (F23 h0 7).toInt (F23 (h0 + 1) z11.toNatClampNeg).toInt (F23 h0 9).toInt q.toInt)) := pr25
              obtain ⟨fr25, qr25, eF26, nr25⟩ := pr25
              rw [show LF F23 (G.2.2.1 16) = LF F (G.2.2.1 16) from (by rw [eF23, LF_up (by omega), eF20, LF_up (by omega), eF17, LF_up (by omega), eF14, LF_up (by omega), eF9, LF_up (by omega)]), show F23 h0 7 = (F h0 7) from (by rw [eF23, up2_ne (by omega), eF20, up2_ne (by omega), eF17, up2_ne (by omega), eF14, up2_ne (by omega), eF9, up2_ne (by omega)]), show F23 h0 9 = qr8 from (by rw [eF23, up2_ne (by omega), eF20, up2_ne (by omega), eF17, up2_ne (by omega), eF14, up2_ne (by omega), eF9, up2_at]), show F23 (h0 + 1) z11.toNatClampNeg = r8 from (by rw [eF23, up2_ne (by omega), eF20, up2_ne (by omega), eF17, up2_at])] at nr25
              obtain ⟨F27, eF27⟩ : ∃ Z : mF, Z = upR F23 (h0 + 5 + (1 + z11.toNatClampNeg)) 0 4 fr25 := ⟨_, rfl⟩
              rw [← eF27] at eF26
              refine lv_if_eq (tgt := 144) hx hb dX5_readBox_128 (by decide) (fun c28 => ?_) (fun c28 => ?_)
              · skip
                have ic28 := tn_eq rfl kI_0 c28
                refine lv_iconst (v := 0) hx hb dX5_readBox_144 (by decide) ?_
                exact tc_iretF E hr hlk hG (t_nz (by decide) (by decide)).1 (Or.inr ⟨by decide, (fun c k h => by rw [eF26, up2_ne (by omega), eF27, upR_ne (by omega), eF23, up2_ne (by omega), eF20, up2_ne (by omega), eF17, up2_ne (by omega), eF14, up2_ne (by omega), eF9, up2_ne (by omega)]), (by rw [eF26, up2_at]; refine Or.inr ⟨(by unfold BXr LF; simp only [← nx1]; omega), Or.inr ⟨r8.toInt, qr8.toInt, by omega, nr8, Or.inl ?_⟩⟩; rcases nr25 with h9 | h9; (exfalso; omega); exact h9.2)⟩) dX5_readBox_145
              · skip
                have ic28 := tn_ne rfl kI_0 c28
                refine lv_aload_n hx hb dX5_readBox_131 rfl (lv_at hl 3 rfl) ?_
                refine lv_iload hx hb dX5_readBox_132 (lv_at hl 0 rfl) ?_
                refine tc_calliF hG (tc_runV (As := [.int z11]) (rest := []) E hSt hG (x_X5_readShare l G F26 τ h0 z11 t0 (by omega) (by omega) hL h9 hLr (by rw [eF26, up2_ne (by omega), eF27, upR_ne (by omega), eF23, up2_ne (by omega), eF20, up2_ne (by omega), eF17, up2_ne (by omega), eF14, up2_ne (by omega), eF9, up2_ne (by omega)]; exact h7)) t0 rv_7 kv_X5_readShare ml_X5_84 ⟨rfl, rfl, Nat.le_of_ble_eq_true rfl, Nat.le_of_ble_eq_true rfl⟩ rfl hl.1 rfl (Nat.le_of_ble_eq_true rfl) ⟨Nat.zero_le _, Nat.zero_le _⟩ dX5_readBox_134) (fun r29 F30 H locs pr29 hG => ?_)
                have E := E.f1 (F' := F30)
                have hSt := hSt.f1 (F' := F30)
                replace pr29 : ∃ sv q : Int32, F30 = up2 (up2 F26 (h0 + 3) z11.toNatClampNeg sv) h0 9 q ∧ RS (LF F26 (G.2.2.1 16)) (F26 h0 7).toInt (F26 h0 9).toInt sv.toInt q.toInt (r29.toInt = 1) ∧ 0 ≤ r29.toInt ∧ r29.toInt ≤ 1 := pr29
                obtain ⟨sr29, qr29, eF30, nr29, _, _⟩ := pr29
                rw [show LF F26 (G.2.2.1 16) = LF F (G.2.2.1 16) from (by rw [eF26, LF_up (by omega), eF27, LF_upR (by omega), eF23, LF_up (by omega), eF20, LF_up (by omega), eF17, LF_up (by omega), eF14, LF_up (by omega), eF9, LF_up (by omega)]), show F26 h0 7 = (F h0 7) from (by rw [eF26, up2_ne (by omega), eF27, upR_ne (by omega), eF23, up2_ne (by omega), eF20, up2_ne (by omega), eF17, up2_ne (by omega), eF14, up2_ne (by omega), eF9, up2_ne (by omega)]), show F26 h0 9 = qr25 from (by rw [eF26, up2_at])] at nr29
                obtain ⟨F31, eF31⟩ : ∃ Z : mF, Z = up2 F26 (h0 + 3) z11.toNatClampNeg sr29 := ⟨_, rfl⟩
                rw [← eF31] at eF30
                refine lv_if_eq (tgt := 144) hx hb dX5_readBox_137 (by decide) (fun c32 => ?_) (fun c32 => ?_)
                · skip
                  have ic32 := tn_eq rfl kI_0 c32
                  refine lv_iconst (v := 0) hx hb dX5_readBox_144 (by decide) ?_
                  exact tc_iretF E hr hlk hG (t_nz (by decide) (by decide)).1 (Or.inr ⟨by decide, (fun c k h => by rw [eF30, up2_ne (by omega), eF31, up2_ne (by omega), eF26, up2_ne (by omega), eF27, upR_ne (by omega), eF23, up2_ne (by omega), eF20, up2_ne (by omega), eF17, up2_ne (by omega), eF14, up2_ne (by omega), eF9, up2_ne (by omega)]), (by rw [eF30, up2_at]; refine Or.inr ⟨(by unfold BXr LF; simp only [← nx1]; omega), Or.inr ⟨r8.toInt, qr8.toInt, by omega, nr8, Or.inr ⟨qr25.toInt, (fun j => (fr25 j).toInt), sr29.toInt, (by rcases nr25 with h9 | h9; exact h9.2; exfalso; omega), RS_t nr29 ⟨fun h => (by omega), False.elim⟩⟩⟩⟩)⟩) dX5_readBox_145
                · skip
                  have ic32 := tn_ne rfl kI_0 c32
                  refine lv_iconst (v := 1) hx hb dX5_readBox_140 (by decide) ?_
                  refine lv_goto (tgt := 145) hx hb dX5_readBox_141 (by decide) ?_
                  exact tc_iretF E hr hlk hG (t_nz (by decide) (by decide)).1 (Or.inl ⟨by decide, r8, fr25, sr29, qr29, (by rw [eF30, eF31, eF26, eF27, eF23, eF20, eF17, eF14, eF9, ← wz11]; exact bx_eq1 (by omega) (by rw [ez13]; simp only [*]) (by omega)), ⟨(by unfold BXr LF; simp only [← nx1]; omega), by omega, qr8.toInt, qr25.toInt, nr8, (by rcases nr25 with h9 | h9; exact h9.2; exfalso; omega), RS_t nr29 ⟨fun _ => trivial, fun _ => (by omega)⟩⟩⟩) dX5_readBox_145
            · exfalso
              have ic24 := tn_ne rfl kI_m1 c24
              omega
          · skip
            have ic10 := tn_eq rfl kI_m1 c10
            refine lv_iconst (v := 0) hx hb dX5_readBox_65 (by decide) ?_
            exact tc_iretF E hr hlk hG (t_nz (by decide) (by decide)).1 (Or.inr ⟨by decide, (fun c k h => by rw [eF9, up2_ne (by omega)]), (by rw [eF9, up2_at]; refine Or.inr ⟨(by unfold BXr LF; simp only [← nx1]; omega), Or.inl ?_⟩; have e9 : r8.toInt = -1 := (by omega); rw [e9] at nr8; exact nr8)⟩) dX5_readBox_66
        · skip
          have ic7 := tn_nlt rfl kI_24 c7
          refine lv_iconst (v := 0) hx hb dX5_readBox_53 (by decide) ?_
          exact tc_iretF E hr hlk hG (t_nz (by decide) (by decide)).1 (Or.inr ⟨by decide, (fun c k h => rfl), Or.inl ⟨(by unfold BXr LF; simp only [← nx1]; omega), rfl⟩⟩) dX5_readBox_54
  · skip
    have ic1 := tn_ne rfl kI_m1 c1
    refine lv_aload_n hx hb dX5_readBox_5 rfl (lv_at hl 0 rfl) ?_
    refine tc_getrF (d := 4) E hG t0 fr_X5_21 rfl dX5_readBox_6 (fun ha33 => ?_)
    refine lv_iload_n hx hb dX5_readBox_9 rfl (lv_at hl 1 rfl) ?_
    refine tc_ialdF E hG ha33 ta_15 rfl (t_in (by omega) (by omega)) dX5_readBox_10 (fun z34 lz34 uz34 wz34 => ?_)
    replace wz34 : z34 = F (h0 + 4) x1.toNatClampNeg := wz34
    have nn35 : x1.toNatClampNeg = x1.toInt.toNat := rfl
    have cz34 : z34.toInt = (F (h0 + 4) x1.toNatClampNeg).toInt := by rw [wz34]
    refine lv_aload_n hx hb dX5_readBox_11 rfl (lv_at hl 0 rfl) ?_
    refine tc_getrF (d := 1) E hG t0 fr_X5_9 rfl dX5_readBox_12 (fun ha36 => ?_)
    refine lv_iload_n hx hb dX5_readBox_15 rfl (lv_at hl 1 rfl) ?_
    refine tc_ialdF E hG ha36 ta_15 rfl (t_in (by omega) (by omega)) dX5_readBox_16 (fun z37 lz37 uz37 wz37 => ?_)
    replace wz37 : z37 = F (h0 + 1) x1.toNatClampNeg := wz37
    have nn38 : x1.toNatClampNeg = x1.toInt.toNat := rfl
    have cz37 : z37.toInt = (F (h0 + 1) x1.toNatClampNeg).toInt := by rw [wz37]
    refine tc_callp (tc_runS (As := [.int z37]) (rest := [.int z34]) E hSt hG (x_X1_childrenOf l (gF G F) τ z37) ks_X1_childrenOf ml_X5_72 ⟨rfl, rfl, Nat.le_of_ble_eq_true rfl, Nat.le_of_ble_eq_true rfl⟩ rfl hl.1 rfl (Nat.le_of_ble_eq_true rfl) ⟨Nat.zero_le _, Nat.zero_le _⟩ dX5_readBox_17) (fun r39 pr39 => ?_)
    have pr39 : r39.toInt = nKid z37.toInt ∧ (0 ≤ r39.toInt ∧ r39.toInt ≤ 8) := pr39
    rw [cz37] at pr39
    refine lv_icmp_ge (tgt := 27) hx hb dX5_readBox_20 (by decide) (fun c40 => ?_) (fun c40 => ?_)
    · skip
      have ic40 := tn_le rfl rfl c40
      refine lv_iconst (v := 0) hx hb dX5_readBox_27 (by decide) ?_
      refine lv_istore_n (lv' := [(2, .int 0), (0, .ref h0), (1, .int x1)]) hx hb dX5_readBox_28 rfl hl (by decide) rfl (fun ls hl => ?_)
      refine lv_iload_n hx hb dX5_readBox_29 rfl (lv_at hl 0 rfl) ?_
      refine lv_if_eq (tgt := 53) hx hb dX5_readBox_30 (by decide) (fun c41 => ?_) (fun c41 => ?_)
      · skip
        have ic41 := tn_eq kI_0 kI_0 c41
        refine lv_iconst (v := 0) hx hb dX5_readBox_53 (by decide) ?_
        exact tc_iretF E hr hlk hG (t_nz (by decide) (by decide)).1 (Or.inr ⟨by decide, (fun c k h => rfl), Or.inl ⟨(by unfold BXr LF; simp only [← nx1]; omega), rfl⟩⟩) dX5_readBox_54
      · exfalso
        have ic41 := tn_ne kI_0 kI_0 c41
        omega
    · skip
      have ic40 := tn_nle rfl rfl c40
      refine lv_iconst (v := 1) hx hb dX5_readBox_23 (by decide) ?_
      refine lv_goto (tgt := 28) hx hb dX5_readBox_24 (by decide) ?_
      refine lv_istore_n (lv' := [(2, .int 1), (0, .ref h0), (1, .int x1)]) hx hb dX5_readBox_28 rfl hl (by decide) rfl (fun ls hl => ?_)
      refine lv_iload_n hx hb dX5_readBox_29 rfl (lv_at hl 0 rfl) ?_
      refine lv_if_eq (tgt := 53) hx hb dX5_readBox_30 (by decide) (fun c42 => ?_) (fun c42 => ?_)
      · exfalso
        have ic42 := tn_eq kI_1 kI_0 c42
        omega
      · skip
        have ic42 := tn_ne kI_1 kI_0 c42
        refine lv_aload_n hx hb dX5_readBox_33 rfl (lv_at hl 1 rfl) ?_
        refine tc_getF E hG t0 fi_X5_49 rfl dX5_readBox_34 (fun z43 lz43 uz43 wz43 => ?_)
        replace wz43 : z43 = F h0 5 := wz43
        have cz43 : z43.toInt = (F h0 5).toInt := by rw [wz43]
        refine lv_aload_n hx hb dX5_readBox_37 rfl (lv_at hl 1 rfl) ?_
        refine tc_getF E hG t0 fi_X5_43 rfl dX5_readBox_38 (fun z44 lz44 uz44 wz44 => ?_)
        replace wz44 : z44 = F h0 8 := wz44
        have cz44 : z44.toInt = (F h0 8).toInt := by rw [wz44]
        refine lv_icmp_ge (tgt := 53) hx hb dX5_readBox_41 (by decide) (fun c45 => ?_) (fun c45 => ?_)
        · skip
          have ic45 := tn_le rfl rfl c45
          refine lv_iconst (v := 0) hx hb dX5_readBox_53 (by decide) ?_
          exact tc_iretF E hr hlk hG (t_nz (by decide) (by decide)).1 (Or.inr ⟨by decide, (fun c k h => rfl), Or.inl ⟨(by unfold BXr LF; simp only [← nx1]; omega), rfl⟩⟩) dX5_readBox_54
        · skip
          have ic45 := tn_nle rfl rfl c45
          refine lv_aload_n hx hb dX5_readBox_44 rfl (lv_at hl 1 rfl) ?_
          refine tc_getF E hG t0 fi_X5_49 rfl dX5_readBox_45 (fun z46 lz46 uz46 wz46 => ?_)
          replace wz46 : z46 = F h0 5 := wz46
          have cz46 : z46.toInt = (F h0 5).toInt := by rw [wz46]
          refine lv_bipush (v := 24) hx hb dX5_readBox_48 (by decide) ?_
          refine lv_icmp_lt (tgt := 55) hx hb dX5_readBox_50 (by decide) (fun c47 => ?_) (fun c47 => ?_)
          · skip
            have ic47 := tn_lt rfl kI_24 c47
            refine lv_aload_n hx hb dX5_readBox_55 rfl (lv_at hl 1 rfl) ?_
            refine tc_calliF hG (tc_runV (As := []) (rest := []) E hSt hG (x_X5_readName l G F τ h0 t0 hL h9 hLr h7) t0 rv_7 kv_X5_readName ml_X5_78 ⟨rfl, rfl, Nat.le_of_ble_eq_true rfl, Nat.le_of_ble_eq_true rfl⟩ rfl hl.1 rfl (Nat.le_of_ble_eq_true rfl) ⟨Nat.zero_le _, Nat.zero_le _⟩ dX5_readBox_56) (fun r48 F49 H locs pr48 hG => ?_)
            have E := E.f1 (F' := F49)
            have hSt := hSt.f1 (F' := F49)
            replace pr48 : ∃ q : Int32, F49 = up2 F h0 9 q ∧ RM (LF F (G.2.2.1 16)) (F h0 7).toInt (F h0 9).toInt r48.toInt q.toInt := pr48
            obtain ⟨qr48, eF49, nr48⟩ := pr48
            have gr48 := RM_r nr48
            refine lv_istore_n (lv' := [(3, .int r48), (2, .int 1), (0, .ref h0), (1, .int x1)]) hx hb dX5_readBox_59 rfl hl (by decide) rfl (fun ls hl => ?_)
            refine lv_iload_n hx hb dX5_readBox_60 rfl (lv_at hl 0 rfl) ?_
            refine lv_iconst (v := -1) hx hb dX5_readBox_61 (by decide) ?_
            refine lv_icmp_ne (tgt := 67) hx hb dX5_readBox_62 (by decide) (fun c50 => ?_) (fun c50 => ?_)
            · skip
              have ic50 := tn_ne rfl kI_m1 c50
              refine lv_aload_n hx hb dX5_readBox_67 rfl (lv_at hl 2 rfl) ?_
              refine tc_getF E hG t0 fi_X5_49 rfl dX5_readBox_68 (fun z51 lz51 uz51 wz51 => ?_)
              replace wz51 : z51 = F49 h0 5 := wz51
              replace wz51 : z51 = F h0 5 := by rw [wz51, eF49, up2_ne (by omega)]
              have cz51 : z51.toInt = (F h0 5).toInt := by rw [wz51]
              refine lv_istore (lv' := [(4, .int z51), (3, .int r48), (2, .int 1), (0, .ref h0), (1, .int x1)]) hx hb dX5_readBox_71 hl (by decide) rfl (fun ls hl => ?_)
              refine lv_aload_n hx hb dX5_readBox_73 rfl (lv_at hl 3 rfl) ?_
              refine lv_dup hx hb dX5_readBox_74 rfl ?_
              refine tc_getF E hG t0 fi_X5_49 rfl dX5_readBox_75 (fun z52 lz52 uz52 wz52 => ?_)
              replace wz52 : z52 = F49 h0 5 := wz52
              replace wz52 : z52 = F h0 5 := by rw [wz52, eF49, up2_ne (by omega)]
              have cz52 : z52.toInt = (F h0 5).toInt := by rw [wz52]
              refine lv_iconst (v := 1) hx hb dX5_readBox_78 (by decide) ?_
              refine lv_iadd hx hb dX5_readBox_79 ?_
              refine lv_topi (fun z53 ez53 => ?_)
              have tz53 := tn_add ez53 rfl kI_1 (by omega) (by omega)
              refine tc_putF (lo := 0) (hi := 24) E hG t0 (by decide) rfl rfl fq_X5_49 (by omega) (by omega) rfl rfl dX5_readBox_80 (fun H locs hG => ?_)
              obtain ⟨F54, eF54⟩ : ∃ Z : mF, Z = up2 F49 h0 5 z53 := ⟨_, rfl⟩
              replace hG : tGH (gF G F54) τ s H locs := by rw [eF54]; exact hG
              have E := E.f1 (F' := F54)
              have hSt := hSt.f1 (F' := F54)
              refine lv_aload_n hx hb dX5_readBox_83 rfl (lv_at hl 3 rfl) ?_
              refine tc_getrF (d := 1) E hG t0 fr_X5_9 rfl dX5_readBox_84 (fun ha55 => ?_)
              refine lv_iload hx hb dX5_readBox_87 (lv_at hl 0 rfl) ?_
              refine lv_iload_n hx hb dX5_readBox_89 rfl (lv_at hl 1 rfl) ?_
              have nn56 : z51.toNatClampNeg = z51.toInt.toNat := rfl
              refine tc_iastF E hG ha55 ta_15 (t_in (by omega) (by omega)) (t_any1 _) (t_any2 _) dX5_readBox_90 (fun H locs hG => ?_)
              obtain ⟨F57, eF57⟩ : ∃ Z : mF, Z = up2 F54 (h0 + 1) z51.toNatClampNeg r48 := ⟨_, rfl⟩
              replace hG : tGH (gF G F57) τ s H locs := by rw [eF57]; exact hG
              have E := E.f1 (F' := F57)
              have hSt := hSt.f1 (F' := F57)
              refine lv_aload_n hx hb dX5_readBox_91 rfl (lv_at hl 3 rfl) ?_
              refine tc_getrF (d := 2) E hG t0 fr_X5_15 rfl dX5_readBox_92 (fun ha58 => ?_)
              refine lv_iload hx hb dX5_readBox_95 (lv_at hl 0 rfl) ?_
              refine lv_iload_n hx hb dX5_readBox_97 rfl (lv_at hl 4 rfl) ?_
              have nn59 : z51.toNatClampNeg = z51.toInt.toNat := rfl
              refine tc_iastF E hG ha58 ta_16 (t_in (by omega) (by omega)) (by omega) (by omega) dX5_readBox_98 (fun H locs hG => ?_)
              obtain ⟨F60, eF60⟩ : ∃ Z : mF, Z = up2 F57 (h0 + 2) z51.toNatClampNeg x1 := ⟨_, rfl⟩
              replace hG : tGH (gF G F60) τ s H locs := by rw [eF60]; exact hG
              have E := E.f1 (F' := F60)
              have hSt := hSt.f1 (F' := F60)
              refine lv_aload_n hx hb dX5_readBox_99 rfl (lv_at hl 3 rfl) ?_
              refine tc_getrF (d := 4) E hG t0 fr_X5_21 rfl dX5_readBox_100 (fun ha61 => ?_)
              refine lv_iload hx hb dX5_readBox_103 (lv_at hl 0 rfl) ?_
              refine lv_iconst (v := 0) hx hb dX5_readBox_105 (by decide) ?_
              have nn62 : z51.toNatClampNeg = z51.toInt.toNat := rfl
              refine tc_iastF E hG ha61 ta_15 (t_in (by omega) (by omega)) (t_any1 _) (t_any2 _) dX5_readBox_106 (fun H locs hG => ?_)
              obtain ⟨F63, eF63⟩ : ∃ Z : mF, Z = up2 F60 (h0 + 4) z51.toNatClampNeg (0 : Int32) := ⟨_, rfl⟩
              replace hG : tGH (gF G F63) τ s H locs := by rw [eF63]; exact hG
              have E := E.f1 (F' := F63)
              have hSt := hSt.f1 (F' := F63)
              refine lv_iload_n hx hb dX5_readBox_107 rfl (lv_at hl 4 rfl) ?_
              refine lv_iconst (v := -1) hx hb dX5_readBox_108 (by decide) ?_
              refine lv_icmp_eq (tgt := 122) hx hb dX5_readBox_109 (by decide) (fun c64 => ?_) (fun c64 => ?_)
              · exfalso
                have ic64 := tn_eq rfl kI_m1 c64
                omega
              · skip
                have ic64 := tn_ne rfl kI_m1 c64
                refine lv_aload_n hx hb dX5_readBox_112 rfl (lv_at hl 3 rfl) ?_
                refine tc_getrF (d := 4) E hG t0 fr_X5_21 rfl dX5_readBox_113 (fun ha65 => ?_)
                refine lv_iload_n hx hb dX5_readBox_116 rfl (lv_at hl 4 rfl) ?_
                refine lv_dup2_11 hx hb dX5_readBox_117 rfl rfl ?_
                refine tc_ialdF E hG ha65 ta_15 rfl (t_in (by omega) (by omega)) dX5_readBox_118 (fun z66 lz66 uz66 wz66 => ?_)
                replace wz66 : z66 = F63 (h0 + 4) x1.toNatClampNeg := wz66
                have nn67 : x1.toNatClampNeg = x1.toInt.toNat := rfl
                replace wz66 : z66 = F (h0 + 4) x1.toNatClampNeg := by rw [wz66, eF63, up2_ne (by omega), eF60, up2_ne (by omega), eF57, up2_ne (by omega), eF54, up2_ne (by omega), eF49, up2_ne (by omega)]
                have cz66 : z66.toInt = (F (h0 + 4) x1.toNatClampNeg).toInt := by rw [wz66]
                refine lv_iconst (v := 1) hx hb dX5_readBox_119 (by decide) ?_
                refine lv_iadd hx hb dX5_readBox_120 ?_
                refine lv_topi (fun z68 ez68 => ?_)
                have nn69 : x1.toNatClampNeg = x1.toInt.toNat := rfl
                refine tc_iastF E hG ha65 ta_15 (t_in (by omega) (by omega)) (t_any1 _) (t_any2 _) dX5_readBox_121 (fun H locs hG => ?_)
                obtain ⟨F70, eF70⟩ : ∃ Z : mF, Z = up2 F63 (h0 + 4) x1.toNatClampNeg z68 := ⟨_, rfl⟩
                replace hG : tGH (gF G F70) τ s H locs := by rw [eF70]; exact hG
                have E := E.f1 (F' := F70)
                have hSt := hSt.f1 (F' := F70)
                refine lv_aload_n hx hb dX5_readBox_122 rfl (lv_at hl 3 rfl) ?_
                refine lv_iload hx hb dX5_readBox_123 (lv_at hl 0 rfl) ?_
                refine tc_calliF hG (tc_runV (As := [.int z51]) (rest := []) E hSt hG (x_X5_readNumbers l G F70 τ h0 z51 t0 (by omega) (by omega) hL h9 hLr (by rw [eF70, up2_ne (by omega), eF63, up2_ne (by omega), eF60, up2_ne (by omega), eF57, up2_ne (by omega), eF54, up2_ne (by omega), eF49, up2_ne (by omega)]; exact h7)) t0 rv_7 kv_X5_readNumbers ml_X5_81 ⟨rfl, rfl, Nat.le_of_ble_eq_true rfl, Nat.le_of_ble_eq_true rfl⟩ rfl hl.1 rfl (Nat.le_of_ble_eq_true rfl) ⟨Nat.zero_le _, Nat.zero_le _⟩ dX5_readBox_125) (fun r71 F72 H locs pr71 hG => ?_)
                have E := E.f1 (F' := F72)
                have hSt := hSt.f1 (F' := F72)
                replace pr71 : ∃ (f : Nat → Int32) (q : Int32), F72 = up2 (upR F70 (h0 + 5 + (1 + z51.toNatClampNeg)) 0 4 f) h0 9 q ∧ ((r71.toInt = 1 ∧ RO (LF F70 (G.2.2.1 16)) (F70 h0 7).toInt (F70 (h0 + 1) z51.toNatClampNeg).toInt (F70 h0 9).toInt (nNum (F70 (h0 + 1) z51.toNatClampNeg).toInt).toNat q.toInt (fun j => (f j).toInt)) ∨ (r71.toInt = 0 ∧ RF (LF F70 (G.2.2.1 16)) (F70 h0 7).toInt (F70 (h0 + 1) z51.toNatClampNeg).toInt (F70 h0 9).toInt q.toInt)) := pr71
                obtain ⟨fr71, qr71, eF72, nr71⟩ := pr71
                rw [show LF F70 (G.2.2.1 16) = LF F (G.2.2.1 16) from (by rw [eF70, LF_up (by omega), eF63, LF_up (by omega), eF60, LF_up (by omega), eF57, LF_up (by omega), eF54, LF_up (by omega), eF49, LF_up (by omega)]), show F70 h0 7 = (F h0 7) from (by rw [eF70, up2_ne (by omega), eF63, up2_ne (by omega), eF60, up2_ne (by omega), eF57, up2_ne (by omega), eF54, up2_ne (by omega), eF49, up2_ne (by omega)]), show F70 h0 9 = qr48 from (by rw [eF70, up2_ne (by omega), eF63, up2_ne (by omega), eF60, up2_ne (by omega), eF57, up2_ne (by omega), eF54, up2_ne (by omega), eF49, up2_at]), show F70 (h0 + 1) z51.toNatClampNeg = r48 from (by rw [eF70, up2_ne (by omega), eF63, up2_ne (by omega), eF60, up2_ne (by omega), eF57, up2_at])] at nr71
                obtain ⟨F73, eF73⟩ : ∃ Z : mF, Z = upR F70 (h0 + 5 + (1 + z51.toNatClampNeg)) 0 4 fr71 := ⟨_, rfl⟩
                rw [← eF73] at eF72
                refine lv_if_eq (tgt := 144) hx hb dX5_readBox_128 (by decide) (fun c74 => ?_) (fun c74 => ?_)
                · skip
                  have ic74 := tn_eq rfl kI_0 c74
                  refine lv_iconst (v := 0) hx hb dX5_readBox_144 (by decide) ?_
                  exact tc_iretF E hr hlk hG (t_nz (by decide) (by decide)).1 (Or.inr ⟨by decide, (fun c k h => by rw [eF72, up2_ne (by omega), eF73, upR_ne (by omega), eF70, up2_ne (by omega), eF63, up2_ne (by omega), eF60, up2_ne (by omega), eF57, up2_ne (by omega), eF54, up2_ne (by omega), eF49, up2_ne (by omega)]), (by rw [eF72, up2_at]; refine Or.inr ⟨(by unfold BXr LF; simp only [← nx1]; omega), Or.inr ⟨r48.toInt, qr48.toInt, by omega, nr48, Or.inl ?_⟩⟩; rcases nr71 with h9 | h9; (exfalso; omega); exact h9.2)⟩) dX5_readBox_145
                · skip
                  have ic74 := tn_ne rfl kI_0 c74
                  refine lv_aload_n hx hb dX5_readBox_131 rfl (lv_at hl 3 rfl) ?_
                  refine lv_iload hx hb dX5_readBox_132 (lv_at hl 0 rfl) ?_
                  refine tc_calliF hG (tc_runV (As := [.int z51]) (rest := []) E hSt hG (x_X5_readShare l G F72 τ h0 z51 t0 (by omega) (by omega) hL h9 hLr (by rw [eF72, up2_ne (by omega), eF73, upR_ne (by omega), eF70, up2_ne (by omega), eF63, up2_ne (by omega), eF60, up2_ne (by omega), eF57, up2_ne (by omega), eF54, up2_ne (by omega), eF49, up2_ne (by omega)]; exact h7)) t0 rv_7 kv_X5_readShare ml_X5_84 ⟨rfl, rfl, Nat.le_of_ble_eq_true rfl, Nat.le_of_ble_eq_true rfl⟩ rfl hl.1 rfl (Nat.le_of_ble_eq_true rfl) ⟨Nat.zero_le _, Nat.zero_le _⟩ dX5_readBox_134) (fun r75 F76 H locs pr75 hG => ?_)
                  have E := E.f1 (F' := F76)
                  have hSt := hSt.f1 (F' := F76)
                  replace pr75 : ∃ sv q : Int32, F76 = up2 (up2 F72 (h0 + 3) z51.toNatClampNeg sv) h0 9 q ∧ RS (LF F72 (G.2.2.1 16)) (F72 h0 7).toInt (F72 h0 9).toInt sv.toInt q.toInt (r75.toInt = 1) ∧ 0 ≤ r75.toInt ∧ r75.toInt ≤ 1 := pr75
                  obtain ⟨sr75, qr75, eF76, nr75, _, _⟩ := pr75
                  rw [show LF F72 (G.2.2.1 16) = LF F (G.2.2.1 16) from (by rw [eF72, LF_up (by omega), eF73, LF_upR (by omega), eF70, LF_up (by omega), eF63, LF_up (by omega), eF60, LF_up (by omega), eF57, LF_up (by omega), eF54, LF_up (by omega), eF49, LF_up (by omega)]), show F72 h0 7 = (F h0 7) from (by rw [eF72, up2_ne (by omega), eF73, upR_ne (by omega), eF70, up2_ne (by omega), eF63, up2_ne (by omega), eF60, up2_ne (by omega), eF57, up2_ne (by omega), eF54, up2_ne (by omega), eF49, up2_ne (by omega)]), show F72 h0 9 = qr71 from (by rw [eF72, up2_at])] at nr75
                  obtain ⟨F77, eF77⟩ : ∃ Z : mF, Z = up2 F72 (h0 + 3) z51.toNatClampNeg sr75 := ⟨_, rfl⟩
                  rw [← eF77] at eF76
                  refine lv_if_eq (tgt := 144) hx hb dX5_readBox_137 (by decide) (fun c78 => ?_) (fun c78 => ?_)
                  · skip
                    have ic78 := tn_eq rfl kI_0 c78
                    refine lv_iconst (v := 0) hx hb dX5_readBox_144 (by decide) ?_
                    exact tc_iretF E hr hlk hG (t_nz (by decide) (by decide)).1 (Or.inr ⟨by decide, (fun c k h => by rw [eF76, up2_ne (by omega), eF77, up2_ne (by omega), eF72, up2_ne (by omega), eF73, upR_ne (by omega), eF70, up2_ne (by omega), eF63, up2_ne (by omega), eF60, up2_ne (by omega), eF57, up2_ne (by omega), eF54, up2_ne (by omega), eF49, up2_ne (by omega)]), (by rw [eF76, up2_at]; refine Or.inr ⟨(by unfold BXr LF; simp only [← nx1]; omega), Or.inr ⟨r48.toInt, qr48.toInt, by omega, nr48, Or.inr ⟨qr71.toInt, (fun j => (fr71 j).toInt), sr75.toInt, (by rcases nr71 with h9 | h9; exact h9.2; exfalso; omega), RS_t nr75 ⟨fun h => (by omega), False.elim⟩⟩⟩⟩)⟩) dX5_readBox_145
                  · skip
                    have ic78 := tn_ne rfl kI_0 c78
                    refine lv_iconst (v := 1) hx hb dX5_readBox_140 (by decide) ?_
                    refine lv_goto (tgt := 145) hx hb dX5_readBox_141 (by decide) ?_
                    exact tc_iretF E hr hlk hG (t_nz (by decide) (by decide)).1 (Or.inl ⟨by decide, r48, fr71, sr75, qr75, (by rw [eF76, eF77, eF72, eF73, eF70, eF63, eF60, eF57, eF54, eF49, ← wz51]; exact bx_eq2 (by omega) (by rw [ez53]; simp only [*]) (by omega) (by omega) (by simp only [*])), ⟨(by unfold BXr LF; simp only [← nx1]; omega), by omega, qr48.toInt, qr71.toInt, nr48, (by rcases nr71 with h9 | h9; exact h9.2; exfalso; omega), RS_t nr75 ⟨fun _ => trivial, fun _ => (by omega)⟩⟩⟩) dX5_readBox_145
            · skip
              have ic50 := tn_eq rfl kI_m1 c50
              refine lv_iconst (v := 0) hx hb dX5_readBox_65 (by decide) ?_
              exact tc_iretF E hr hlk hG (t_nz (by decide) (by decide)).1 (Or.inr ⟨by decide, (fun c k h => by rw [eF49, up2_ne (by omega)]), (by rw [eF49, up2_at]; refine Or.inr ⟨(by unfold BXr LF; simp only [← nx1]; omega), Or.inl ?_⟩; have e9 : r48.toInt = -1 := (by omega); rw [e9] at nr48; exact nr48)⟩) dX5_readBox_66
          · skip
            have ic47 := tn_nlt rfl kI_24 c47
            refine lv_iconst (v := 0) hx hb dX5_readBox_53 (by decide) ?_
            exact tc_iretF E hr hlk hG (t_nz (by decide) (by decide)).1 (Or.inr ⟨by decide, (fun c k h => rfl), Or.inl ⟨(by unfold BXr LF; simp only [← nx1]; omega), rfl⟩⟩) dX5_readBox_54
