/-! ===== reading, letter by letter ===== -/
/-- the letter at p; 0: none -/
def nx (L : Nat → Int) (len p : Int) : Int := if p < len then L p.toNat else 0
def LF (F : mF) (a : Nat) : Nat → Int := fun j => (F a j).toInt
theorem LF_up {F : mF} {a c k : Nat} {v : Int32} (h : ¬ a = c) : LF (up2 F c k v) a = LF F a := funext fun j => by
  unfold LF
  rw [up2_ne (fun z => h z.1)]
theorem LF_upR {F : mF} {a c lo n : Nat} {f : Nat → Int32} (h : ¬ a = c) : LF (upR F c lo n f) a = LF F a := funext fun j => by
  unfold LF
  rw [upR_ne (fun z => h z.1)]
section TXL
variable {p : Program} {l : Launch} {e : Env} {R : Room} {s : State} {m : MethodId} {args : Array Value} {below : List Frame} {meth : Method} {c : Code} {H : Heap} {locs : List Loc} {Q : State → Prop}
variable {cc : ByteArray} {pc : Nat} {ls : Array Slot} {rest : List Value} {a index : Nat} {G : tG} {own : String} {nL : Nat} {τ : Nat → Nat} {cells slots : Nat}
theorem tc_getL (E : tE G p s m c args own cc nL) (hG : tGH G τ s H locs) (ha : τ a = 7) (hf : tFf own index 4 6) (h9 : G.2.2.1 9 = 1) (hdg : decode cc pc = .ok (.getfield index, 3))
    (kk : W p l e R s m args below meth c H locs cells slots Q (F0 m (pc + 3) ls (.ref (G.2.2.1 16) :: rest))) : W p l e R s m args below meth c H locs cells slots Q (F0 m pc ls (.ref a :: rest)) := by
  have hΓ := tΓ_at (G := G) ha (by decide)
  refine tg_get E hG.1 hΓ hf hdg (fun v hv => ?_)
  obtain ⟨-, hk⟩ := hv
  have e9 := hk.2.2 rfl (fun z => by cases z) (fun _ => h9)
  rw [e9]
  exact kk
end TXL

set_option maxHeartbeats 4000000 in
set_option maxRecDepth 100000 in
theorem x_X5_next (l : Launch) (G : tG) (τ : Nat → Nat) (h0 : Nat) (t0 : τ h0 = 7) (hL : τ (G.2.2.1 16) = 18) (h9 : G.2.2.1 9 = 1) (hLr : G.2.2.1 16 < h0 ∨ h0 + 30 ≤ G.2.2.1 16) : Met l yX5_next (.code yX5_next cX5_next 1 (some .char) :: tWS) (tRm 0 0) (va_Pc [.ref h0] (tPre G τ)) (tQp (fun r => r.toInt = nx (LF (FF G) (G.2.2.1 16)) ((FF G) h0 7).toInt ((FF G) h0 9).toInt ∧ 0 ≤ r.toInt ∧ r.toInt ≤ 65535)) 0 0 tNo := by
  refine tc_met (by decide) (Nat.le_of_ble_eq_true rfl) ?_
  intro p e s m below meth c E hSt hr hlk hG ls hl
  have hl : lv_has ls 1 [(0, .ref h0)] := hl
  have hx := E.1
  have hb := E.2.1
  obtain ⟨H, eH⟩ : ∃ H, H = s.heap := ⟨_, rfl⟩
  obtain ⟨locs, eL⟩ : ∃ x : List Loc, x = [] := ⟨_, rfl⟩
  have hG : tGH G τ s H locs := by rw [eH, eL]; exact hG
  suffices hW : W p l e (tRm 0 0) s m ([.ref h0] : List Value).toArray below meth c H locs 0 0 (MQ below (tQp (fun r => r.toInt = nx (LF (FF G) (G.2.2.1 16)) ((FF G) h0 7).toInt ((FF G) h0 9).toInt ∧ 0 ≤ r.toInt ∧ r.toInt ≤ 65535)) ([.ref h0] : List Value).toArray s 0 0 tNo) (F0 m 0 ls []) by subst eH; subst eL; exact hW
  refine lv_aload_n hx hb dX5_next_0 rfl (lv_at hl 0 rfl) ?_
  refine tc_getF E hG t0 fi_X5_46 rfl dX5_next_1 (fun z1 lz1 uz1 wz1 => ?_)
  replace wz1 : z1 = (FF G) h0 9 := wz1
  have cz1 : z1.toInt = ((FF G) h0 9).toInt := by rw [wz1]
  refine lv_aload_n hx hb dX5_next_4 rfl (lv_at hl 0 rfl) ?_
  refine tc_getF E hG t0 fi_X5_39 rfl dX5_next_5 (fun z2 lz2 uz2 wz2 => ?_)
  replace wz2 : z2 = (FF G) h0 7 := wz2
  have cz2 : z2.toInt = ((FF G) h0 7).toInt := by rw [wz2]
  refine lv_icmp_ge (tgt := 23) hx hb dX5_next_8 (by decide) (fun c3 => ?_) (fun c3 => ?_)
  · skip
    have ic3 := tn_le rfl rfl c3
    refine lv_iconst (v := 0) hx hb dX5_next_23 (by decide) ?_
    exact tc_pret E hr hlk eH eL (t_nc (by decide) (by decide)).1 (show (0 : Int32).toInt = nx (LF (FF G) (G.2.2.1 16)) ((FF G) h0 7).toInt ((FF G) h0 9).toInt ∧ 0 ≤ (0 : Int32).toInt ∧ (0 : Int32).toInt ≤ 65535 by have kk := kI_0; (refine ⟨?_, by decide, by decide⟩; unfold nx; rw [if_neg (by omega)]; rfl)) dX5_next_24
  · skip
    have ic3 := tn_nle rfl rfl c3
    refine lv_aload_n hx hb dX5_next_11 rfl (lv_at hl 0 rfl) ?_
    refine tc_getL E hG t0 ff_X5_29 h9 dX5_next_12 ?_
    refine lv_aload_n hx hb dX5_next_15 rfl (lv_at hl 0 rfl) ?_
    refine tc_getF E hG t0 fi_X5_46 rfl dX5_next_16 (fun z4 lz4 uz4 wz4 => ?_)
    replace wz4 : z4 = (FF G) h0 9 := wz4
    have cz4 : z4.toInt = ((FF G) h0 9).toInt := by rw [wz4]
    refine tc_caldF E hG hL ta_18 rfl (t_in (by omega) (by omega)) dX5_next_19 (fun z5 lz5 uz5 wz5 => ?_)
    replace wz5 : z5 = (FF G) (G.2.2.1 16) z4.toNatClampNeg := wz5
    have cz5 : z5.toInt = ((FF G) (G.2.2.1 16) z4.toNatClampNeg).toInt := by rw [wz5]
    refine lv_goto (tgt := 24) hx hb dX5_next_20 (by decide) ?_
    exact tc_pret E hr hlk eH eL (t_nc (by omega) (by omega)).1 (show z5.toInt = nx (LF (FF G) (G.2.2.1 16)) ((FF G) h0 7).toInt ((FF G) h0 9).toInt ∧ 0 ≤ z5.toInt ∧ z5.toInt ≤ 65535 by (refine ⟨?_, by omega, by omega⟩; unfold nx LF; rw [if_pos (by omega)]; simp only [wz5, wz4, wz2, wz1]; rfl)) dX5_next_24

set_option maxHeartbeats 4000000 in
set_option maxRecDepth 100000 in
theorem x_X5_nextIsFigure (l : Launch) (G : tG) (τ : Nat → Nat) (h0 : Nat) (t0 : τ h0 = 7) (hL : τ (G.2.2.1 16) = 18) (h9 : G.2.2.1 9 = 1) (hLr : G.2.2.1 16 < h0 ∨ h0 + 30 ≤ G.2.2.1 16) : Met l yX5_nextIsFigure (.code yX5_nextIsFigure cX5_nextIsFigure 1 (some .boolean) :: tWS) (tRm 1 20) (va_Pc [.ref h0] (tPre G τ)) (tQp (fun r => (r.toInt = 1 ∧ (48 ≤ nx (LF (FF G) (G.2.2.1 16)) ((FF G) h0 7).toInt ((FF G) h0 9).toInt ∧ nx (LF (FF G) (G.2.2.1 16)) ((FF G) h0 7).toInt ((FF G) h0 9).toInt ≤ 57)) ∨ (r.toInt = 0 ∧ ¬ (48 ≤ nx (LF (FF G) (G.2.2.1 16)) ((FF G) h0 7).toInt ((FF G) h0 9).toInt ∧ nx (LF (FF G) (G.2.2.1 16)) ((FF G) h0 7).toInt ((FF G) h0 9).toInt ≤ 57)))) 0 0 tNo := by
  refine tc_met (by decide) (Nat.le_of_ble_eq_true rfl) ?_
  intro p e s m below meth c E hSt hr hlk hG ls hl
  have hl : lv_has ls 1 [(0, .ref h0)] := hl
  have hx := E.1
  have hb := E.2.1
  obtain ⟨H, eH⟩ : ∃ H, H = s.heap := ⟨_, rfl⟩
  obtain ⟨locs, eL⟩ : ∃ x : List Loc, x = [] := ⟨_, rfl⟩
  have hG : tGH G τ s H locs := by rw [eH, eL]; exact hG
  suffices hW : W p l e (tRm 1 20) s m ([.ref h0] : List Value).toArray below meth c H locs 0 0 (MQ below (tQp (fun r => (r.toInt = 1 ∧ (48 ≤ nx (LF (FF G) (G.2.2.1 16)) ((FF G) h0 7).toInt ((FF G) h0 9).toInt ∧ nx (LF (FF G) (G.2.2.1 16)) ((FF G) h0 7).toInt ((FF G) h0 9).toInt ≤ 57)) ∨ (r.toInt = 0 ∧ ¬ (48 ≤ nx (LF (FF G) (G.2.2.1 16)) ((FF G) h0 7).toInt ((FF G) h0 9).toInt ∧ nx (LF (FF G) (G.2.2.1 16)) ((FF G) h0 7).toInt ((FF G) h0 9).toInt ≤ 57)))) ([.ref h0] : List Value).toArray s 0 0 tNo) (F0 m 0 ls []) by subst eH; subst eL; exact hW
  refine lv_aload_n hx hb dX5_nextIsFigure_0 rfl (lv_at hl 0 rfl) ?_
  refine tc_callp (tc_runV (As := []) (rest := []) E hSt hG (x_X5_next l G τ h0 t0 hL h9 hLr) t0 rv_7 kv_X5_next ml_X5_64 ⟨rfl, rfl, Nat.le_of_ble_eq_true rfl, Nat.le_of_ble_eq_true rfl⟩ rfl hl.1 rfl (Nat.le_of_ble_eq_true rfl) ⟨Nat.zero_le _, Nat.zero_le _⟩ dX5_nextIsFigure_1) (fun r1 pr1 => ?_)
  have pr1 : r1.toInt = nx (LF (FF G) (G.2.2.1 16)) ((FF G) h0 7).toInt ((FF G) h0 9).toInt ∧ 0 ≤ r1.toInt ∧ r1.toInt ≤ 65535 := pr1
  refine lv_bipush (v := 48) hx hb dX5_nextIsFigure_4 (by decide) ?_
  refine lv_icmp_lt (tgt := 22) hx hb dX5_nextIsFigure_6 (by decide) (fun c2 => ?_) (fun c2 => ?_)
  · skip
    have ic2 := tn_lt rfl kI_48 c2
    refine lv_iconst (v := 0) hx hb dX5_nextIsFigure_22 (by decide) ?_
    exact tc_pret E hr hlk eH eL (t_nz (by decide) (by decide)).1 (show ((0 : Int32).toInt = 1 ∧ (48 ≤ nx (LF (FF G) (G.2.2.1 16)) ((FF G) h0 7).toInt ((FF G) h0 9).toInt ∧ nx (LF (FF G) (G.2.2.1 16)) ((FF G) h0 7).toInt ((FF G) h0 9).toInt ≤ 57)) ∨ ((0 : Int32).toInt = 0 ∧ ¬ (48 ≤ nx (LF (FF G) (G.2.2.1 16)) ((FF G) h0 7).toInt ((FF G) h0 9).toInt ∧ nx (LF (FF G) (G.2.2.1 16)) ((FF G) h0 7).toInt ((FF G) h0 9).toInt ≤ 57)) by have kk := kI_0; omega) dX5_nextIsFigure_23
  · skip
    have ic2 := tn_nlt rfl kI_48 c2
    refine lv_aload_n hx hb dX5_nextIsFigure_9 rfl (lv_at hl 0 rfl) ?_
    refine tc_callp (tc_runV (As := []) (rest := []) E hSt hG (x_X5_next l G τ h0 t0 hL h9 hLr) t0 rv_7 kv_X5_next ml_X5_64 ⟨rfl, rfl, Nat.le_of_ble_eq_true rfl, Nat.le_of_ble_eq_true rfl⟩ rfl hl.1 rfl (Nat.le_of_ble_eq_true rfl) ⟨Nat.zero_le _, Nat.zero_le _⟩ dX5_nextIsFigure_10) (fun r3 pr3 => ?_)
    have pr3 : r3.toInt = nx (LF (FF G) (G.2.2.1 16)) ((FF G) h0 7).toInt ((FF G) h0 9).toInt ∧ 0 ≤ r3.toInt ∧ r3.toInt ≤ 65535 := pr3
    refine lv_bipush (v := 57) hx hb dX5_nextIsFigure_13 (by decide) ?_
    refine lv_icmp_gt (tgt := 22) hx hb dX5_nextIsFigure_15 (by decide) (fun c4 => ?_) (fun c4 => ?_)
    · skip
      have ic4 := tn_lt kI_57 rfl c4
      refine lv_iconst (v := 0) hx hb dX5_nextIsFigure_22 (by decide) ?_
      exact tc_pret E hr hlk eH eL (t_nz (by decide) (by decide)).1 (show ((0 : Int32).toInt = 1 ∧ (48 ≤ nx (LF (FF G) (G.2.2.1 16)) ((FF G) h0 7).toInt ((FF G) h0 9).toInt ∧ nx (LF (FF G) (G.2.2.1 16)) ((FF G) h0 7).toInt ((FF G) h0 9).toInt ≤ 57)) ∨ ((0 : Int32).toInt = 0 ∧ ¬ (48 ≤ nx (LF (FF G) (G.2.2.1 16)) ((FF G) h0 7).toInt ((FF G) h0 9).toInt ∧ nx (LF (FF G) (G.2.2.1 16)) ((FF G) h0 7).toInt ((FF G) h0 9).toInt ≤ 57)) by have kk := kI_0; omega) dX5_nextIsFigure_23
    · skip
      have ic4 := tn_nlt kI_57 rfl c4
      refine lv_iconst (v := 1) hx hb dX5_nextIsFigure_18 (by decide) ?_
      refine lv_goto (tgt := 23) hx hb dX5_nextIsFigure_19 (by decide) ?_
      exact tc_pret E hr hlk eH eL (t_nz (by decide) (by decide)).1 (show ((1 : Int32).toInt = 1 ∧ (48 ≤ nx (LF (FF G) (G.2.2.1 16)) ((FF G) h0 7).toInt ((FF G) h0 9).toInt ∧ nx (LF (FF G) (G.2.2.1 16)) ((FF G) h0 7).toInt ((FF G) h0 9).toInt ≤ 57)) ∨ ((1 : Int32).toInt = 0 ∧ ¬ (48 ≤ nx (LF (FF G) (G.2.2.1 16)) ((FF G) h0 7).toInt ((FF G) h0 9).toInt ∧ nx (LF (FF G) (G.2.2.1 16)) ((FF G) h0 7).toInt ((FF G) h0 9).toInt ≤ 57)) by have kk := kI_1; omega) dX5_nextIsFigure_23

set_option maxHeartbeats 4000000 in
set_option maxRecDepth 100000 in
theorem x_X5_passed (l : Launch) (G : tG) (F : mF) (τ : Nat → Nat) (h0 : Nat) (x1 : Int32) (t0 : τ h0 = 7) (l1 : 1 ≤ x1.toInt) (u1 : x1.toInt ≤ 65535) (hL : τ (G.2.2.1 16) = 18) (h9 : G.2.2.1 9 = 1) (hLr : G.2.2.1 16 < h0 ∨ h0 + 30 ≤ G.2.2.1 16) (h7 : (F h0 7).toInt ≤ 120) : Met l yX5_passed (.code yX5_passed cX5_passed 2 (some .boolean) :: tWS) (tRm 1 20) (va_Pc [.ref h0, .int x1] (tPre (gF G F) τ)) (tQF G τ (fun r F9 => (r.toInt = 1 ∧ nx (LF F (G.2.2.1 16)) (F h0 7).toInt (F h0 9).toInt = x1.toInt ∧ (F h0 9).toInt < (F h0 7).toInt ∧ F9 = up2 F h0 9 (F h0 9 + 1)) ∨ (r.toInt = 0 ∧ ¬ nx (LF F (G.2.2.1 16)) (F h0 7).toInt (F h0 9).toInt = x1.toInt ∧ F9 = F))) 0 0 (tA τ) := by
  refine tc_met (by decide) (Nat.le_of_ble_eq_true rfl) ?_
  intro p e s m below meth c E hSt hr hlk hG ls hl
  have hl : lv_has ls 2 [(0, .ref h0), (1, .int x1)] := hl
  have hx := E.1
  have hb := E.2.1
  obtain ⟨H, eH⟩ : ∃ H, H = s.heap := ⟨_, rfl⟩
  obtain ⟨locs, eL⟩ : ∃ x : List Loc, x = [] := ⟨_, rfl⟩
  have hG : tGH (gF G F) τ s H locs := by rw [eH, eL]; exact hG
  suffices hW : W p l e (tRm 1 20) s m ([.ref h0, .int x1] : List Value).toArray below meth c H locs 0 0 (MQ below (tQF G τ (fun r F9 => (r.toInt = 1 ∧ nx (LF F (G.2.2.1 16)) (F h0 7).toInt (F h0 9).toInt = x1.toInt ∧ (F h0 9).toInt < (F h0 7).toInt ∧ F9 = up2 F h0 9 (F h0 9 + 1)) ∨ (r.toInt = 0 ∧ ¬ nx (LF F (G.2.2.1 16)) (F h0 7).toInt (F h0 9).toInt = x1.toInt ∧ F9 = F))) ([.ref h0, .int x1] : List Value).toArray s 0 0 (tA τ)) (F0 m 0 ls []) by subst eH; subst eL; exact hW
  clear eH eL
  refine lv_aload_n hx hb dX5_passed_0 rfl (lv_at hl 0 rfl) ?_
  refine tc_callp (tc_runV (As := []) (rest := []) E hSt hG (x_X5_next l (gF G F) τ h0 t0 hL h9 hLr) t0 rv_7 kv_X5_next ml_X5_64 ⟨rfl, rfl, Nat.le_of_ble_eq_true rfl, Nat.le_of_ble_eq_true rfl⟩ rfl hl.1 rfl (Nat.le_of_ble_eq_true rfl) ⟨Nat.zero_le _, Nat.zero_le _⟩ dX5_passed_1) (fun r1 pr1 => ?_)
  have pr1 : r1.toInt = nx (LF F (G.2.2.1 16)) (F h0 7).toInt (F h0 9).toInt ∧ 0 ≤ r1.toInt ∧ r1.toInt ≤ 65535 := pr1
  have qr1 : 1 ≤ r1.toInt → (F h0 9).toInt < (F h0 7).toInt := fun h => (by have h2 := pr1.1; unfold nx at h2; by_cases q : (F h0 9).toInt < (F h0 7).toInt; exact q; rw [if_neg q] at h2; omega)
  have gr1 : ¬ r1.toInt = 0 → (F h0 9).toInt < (F h0 7).toInt := fun h => qr1 (by omega)
  refine lv_iload_n hx hb dX5_passed_4 rfl (lv_at hl 1 rfl) ?_
  refine lv_icmp_eq (tgt := 10) hx hb dX5_passed_5 (by decide) (fun c2 => ?_) (fun c2 => ?_)
  · skip
    have ic2 := tn_eq rfl rfl c2
    refine lv_aload_n hx hb dX5_passed_10 rfl (lv_at hl 0 rfl) ?_
    refine lv_dup hx hb dX5_passed_11 rfl ?_
    refine tc_getF E hG t0 fi_X5_46 rfl dX5_passed_12 (fun z3 lz3 uz3 wz3 => ?_)
    replace wz3 : z3 = F h0 9 := wz3
    have cz3 : z3.toInt = (F h0 9).toInt := by rw [wz3]
    refine lv_iconst (v := 1) hx hb dX5_passed_15 (by decide) ?_
    refine lv_iadd hx hb dX5_passed_16 ?_
    refine lv_topi (fun z4 ez4 => ?_)
    have tz4 := tn_add ez4 rfl kI_1 (by omega) (by omega)
    refine tc_putF (lo := 0) (hi := 120) E hG t0 (by decide) rfl rfl fq_X5_46 (by omega) (by omega) rfl rfl dX5_passed_17 (fun H locs hG => ?_)
    obtain ⟨F5, eF5⟩ : ∃ Z : mF, Z = up2 F h0 9 z4 := ⟨_, rfl⟩
    replace hG : tGH (gF G F5) τ s H locs := by rw [eF5]; exact hG
    have E := E.f1 (F' := F5)
    have hSt := hSt.f1 (F' := F5)
    refine lv_iconst (v := 1) hx hb dX5_passed_20 (by decide) ?_
    exact tc_iretF E hr hlk hG (t_nz (by decide) (by decide)).1 (Or.inl ⟨by decide, by omega, by omega, (by rw [eF5]; simp only [ez4, wz3])⟩) dX5_passed_21
  · skip
    have ic2 := tn_ne rfl rfl c2
    refine lv_iconst (v := 0) hx hb dX5_passed_8 (by decide) ?_
    exact tc_iretF E hr hlk hG (t_nz (by decide) (by decide)).1 (Or.inr ⟨by decide, by omega, rfl⟩) dX5_passed_9
