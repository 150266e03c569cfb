/-! ===== the reference, exactly: who writes nothing ===== -/
/-- number w of a kind k may be v -/
def Lk (k : Int) : Int := if k = 6 then 1 else 0
def Hk (k w : Int) : Int := if k = 0 ∨ k = 3 then 99 else if k = 1 then (if w = 0 then 12 else 31) else if k = 2 then 20 else if k = 6 then 9 else if k = 7 then 2 else if w = 0 then 4 else 20
def iMB (k w v : Int) : Int := if Lk k ≤ v ∧ v ≤ Hk k w then 1 else 0
def MBe (k w v : Int) : Prop := iMB k w v = 1
theorem MBe_iff {k w v : Int} : MBe k w v ↔ Lk k ≤ v ∧ v ≤ Hk k w := by
  unfold MBe iMB
  split
  · rename_i h; exact ⟨fun _ => h, fun _ => rfl⟩
  · rename_i h; exact ⟨fun q => absurd q (by decide), fun q => absurd q h⟩
theorem iMB_b {k w v r : Int} (h : r = iMB k w v) : (r = 0 ∨ r = 1) ∧ (r = 1 → 0 ≤ v ∧ v ≤ 99 ∧ (k = 6 → 1 ≤ v)) := by
  unfold iMB at h
  split at h
  · rename_i q
    refine ⟨Or.inr h, fun _ => ?_⟩
    have h1 : 0 ≤ Lk k ∧ (k = 6 → Lk k = 1) := by unfold Lk; split <;> omega
    have h2 : Hk k w ≤ 99 := by unfold Hk; (repeat' split) <;> omega
    omega
  · exact ⟨Or.inl h, fun q => by omega⟩
def okG (k a b c d : Int) : Prop := (0 < nNum k → MBe k 0 a) ∧ (1 < nNum k → MBe k 1 b) ∧ (2 < nNum k → MBe k 2 c ∧ MBe k 3 d) ∧ (k = 3 → a ≤ b ∧ c ≤ d)
theorem k10 {k : Int} (hk : 0 ≤ k ∧ k ≤ 9) : k = 0 ∨ k = 1 ∨ k = 2 ∨ k = 3 ∨ k = 4 ∨ k = 5 ∨ k = 6 ∨ k = 7 ∨ k = 8 ∨ k = 9 := by omega
theorem MBe_ok {k w v : Int} (hk : 0 ≤ k ∧ k ≤ 9) (hw : 0 ≤ w ∧ w < nNum k) : MBe k w v ↔ okN k w v := by
  rw [MBe_iff]
  unfold okN
  obtain ⟨w0, hw2⟩ := hw
  rcases k10 hk with e | e | e | e | e | e | e | e | e | e <;> subst e <;> simp [nNum] at hw2 <;> simp [Lk, Hk, nNum, nLow, nHA, nHB] <;> first | omega | (split <;> omega)
theorem nNum_q (k : Int) : 0 ≤ nNum k ∧ nNum k ≤ 4 ∧ (3 ≤ nNum k → k = 3) ∧ (k = 3 → nNum k = 4) := by
  have h := nNum_r k
  refine ⟨h.1, h.2, fun h => ?_, fun h => ?_⟩
  · by_cases e : k = 3
    · exact e
    · exfalso
      unfold nNum at h
      rw [if_neg e] at h
      revert h
      split
      · omega
      · split
        · omega
        · split <;> omega
  · unfold nNum; rw [if_pos h]
theorem okG_ok {k a b c d : Int} (hk : 0 ≤ k ∧ k ≤ 9) : okG k a b c d ↔ okA k a b c d := by
  have hn := nNum_q k
  unfold okG okA
  constructor
  · rintro ⟨h1, h2, h3, h4⟩
    exact ⟨hk.1, hk.2, fun q => (MBe_ok hk ⟨by omega, q⟩).mp (h1 q), fun q => (MBe_ok hk ⟨by omega, q⟩).mp (h2 q), fun q => (MBe_ok hk ⟨by omega, q⟩).mp (h3 q).1, fun q => (MBe_ok hk ⟨by omega, q⟩).mp (h3 (by omega)).2, h4⟩
  · rintro ⟨-, -, h1, h2, h3, h4, h5⟩
    exact ⟨fun q => (MBe_ok hk ⟨by omega, q⟩).mpr (h1 q), fun q => (MBe_ok hk ⟨by omega, q⟩).mpr (h2 q), fun q => by
      have e3 := hn.2.2.1 (by omega)
      have e4 := hn.2.2.2 e3
      exact ⟨(MBe_ok hk ⟨by omega, by omega⟩).mpr (h3 (by omega)), (MBe_ok hk ⟨by omega, by omega⟩).mpr (h4 (by omega))⟩, h5⟩
set_option maxHeartbeats 4000000 in
set_option maxRecDepth 100000 in
theorem x_X10_takes (l : Launch) (G : tG) (Y : mY) (x0 : Int32)  : Met l yX10_takes (.code yX10_takes cX10_takes 1 (some .int) :: tWS) (tRm 0 0) (va_Pc [.int x0] (mPre G Y)) (tQp (fun r => (x0.toInt < 2 ∧ r.toInt = 0) ∨ (2 ≤ x0.toInt ∧ x0.toInt < 7 ∧ r.toInt = 1) ∨ (7 ≤ x0.toInt ∧ r.toInt = 8))) 0 0 tNo := by
  refine mc_met (by decide) (Nat.le_of_ble_eq_true rfl) ?_
  intro p e s m below meth c E hr hlk hG ls hl
  have hl : lv_has ls 1 [(0, .int x0)] := hl
  have hx := E.1
  have hb := E.2.1
  obtain ⟨H, eH⟩ : ∃ H, H = s.heap := ⟨_, rfl⟩
  obtain ⟨locs, eL⟩ : ∃ x : List Loc, x = [] := ⟨_, rfl⟩
  have hG : mGH G Y s H locs := by rw [eH, eL]; exact hG
  suffices hW : W p l e (tRm 0 0) s m ([.int x0] : List Value).toArray below meth c H locs 0 0 (MQ below (tQp (fun r => (x0.toInt < 2 ∧ r.toInt = 0) ∨ (2 ≤ x0.toInt ∧ x0.toInt < 7 ∧ r.toInt = 1) ∨ (7 ≤ x0.toInt ∧ r.toInt = 8))) ([.int x0] : List Value).toArray s 0 0 tNo) (F0 m 0 ls []) by subst eH; subst eL; exact hW
  refine lv_iload_n hx hb dX10_takes_0 rfl (lv_at hl 0 rfl) ?_
  refine lv_iconst (v := 2) hx hb dX10_takes_1 (by decide) ?_
  refine lv_icmp_ge (tgt := 9) hx hb dX10_takes_2 (by decide) (fun c1 => ?_) (fun c1 => ?_)
  · skip
    have ic1 := tn_le kI_2 rfl c1
    refine lv_iload_n hx hb dX10_takes_9 rfl (lv_at hl 0 rfl) ?_
    refine lv_bipush (v := 7) hx hb dX10_takes_10 (by decide) ?_
    refine lv_icmp_ge (tgt := 19) hx hb dX10_takes_12 (by decide) (fun c2 => ?_) (fun c2 => ?_)
    · skip
      have ic2 := tn_le kI_7 rfl c2
      refine lv_bipush (v := 8) hx hb dX10_takes_19 (by decide) ?_
      exact tc_pret E hr hlk eH eL rfl (show (x0.toInt < 2 ∧ (8 : Int32).toInt = 0) ∨ (2 ≤ x0.toInt ∧ x0.toInt < 7 ∧ (8 : Int32).toInt = 1) ∨ (7 ≤ x0.toInt ∧ (8 : Int32).toInt = 8) by have kk := kI_8; omega) dX10_takes_21
    · skip
      have ic2 := tn_nle kI_7 rfl c2
      refine lv_iconst (v := 1) hx hb dX10_takes_15 (by decide) ?_
      refine lv_goto (tgt := 21) hx hb dX10_takes_16 (by decide) ?_
      exact tc_pret E hr hlk eH eL rfl (show (x0.toInt < 2 ∧ (1 : Int32).toInt = 0) ∨ (2 ≤ x0.toInt ∧ x0.toInt < 7 ∧ (1 : Int32).toInt = 1) ∨ (7 ≤ x0.toInt ∧ (1 : Int32).toInt = 8) by have kk := kI_1; omega) dX10_takes_21
  · skip
    have ic1 := tn_nle kI_2 rfl c1
    refine lv_iconst (v := 0) hx hb dX10_takes_5 (by decide) ?_
    refine lv_goto (tgt := 21) hx hb dX10_takes_6 (by decide) ?_
    exact tc_pret E hr hlk eH eL rfl (show (x0.toInt < 2 ∧ (0 : Int32).toInt = 0) ∨ (2 ≤ x0.toInt ∧ x0.toInt < 7 ∧ (0 : Int32).toInt = 1) ∨ (7 ≤ x0.toInt ∧ (0 : Int32).toInt = 8) by have kk := kI_0; omega) dX10_takes_21

set_option maxHeartbeats 4000000 in
set_option maxRecDepth 100000 in
theorem x_X10_numbersOf (l : Launch) (G : tG) (Y : mY) (x0 : Int32) (l0 : 0 ≤ x0.toInt) (u0 : x0.toInt ≤ 9) : Met l yX10_numbersOf (.code yX10_numbersOf cX10_numbersOf 1 (some .int) :: tWS) (tRm 0 0) (va_Pc [.int x0] (mPre G Y)) (tQp (fun r => r.toInt = nNum x0.toInt ∧ ((x0.toInt = 3 ∧ r.toInt = 4) ∨ ((x0.toInt = 4 ∨ x0.toInt = 5) ∧ r.toInt = 0) ∨ (x0.toInt = 7 ∧ r.toInt = 1) ∨ (¬ x0.toInt = 3 ∧ ¬ x0.toInt = 4 ∧ ¬ x0.toInt = 5 ∧ ¬ x0.toInt = 7 ∧ r.toInt = 2)))) 0 0 tNo := by
  refine mc_met (by decide) (Nat.le_of_ble_eq_true rfl) ?_
  intro p e s m below meth c E hr hlk hG ls hl
  have hl : lv_has ls 1 [(0, .int x0)] := hl
  have hx := E.1
  have hb := E.2.1
  obtain ⟨H, eH⟩ : ∃ H, H = s.heap := ⟨_, rfl⟩
  obtain ⟨locs, eL⟩ : ∃ x : List Loc, x = [] := ⟨_, rfl⟩
  have hG : mGH G Y s H locs := by rw [eH, eL]; exact hG
  suffices hW : W p l e (tRm 0 0) s m ([.int x0] : List Value).toArray below meth c H locs 0 0 (MQ below (tQp (fun r => r.toInt = nNum x0.toInt ∧ ((x0.toInt = 3 ∧ r.toInt = 4) ∨ ((x0.toInt = 4 ∨ x0.toInt = 5) ∧ r.toInt = 0) ∨ (x0.toInt = 7 ∧ r.toInt = 1) ∨ (¬ x0.toInt = 3 ∧ ¬ x0.toInt = 4 ∧ ¬ x0.toInt = 5 ∧ ¬ x0.toInt = 7 ∧ r.toInt = 2)))) ([.int x0] : List Value).toArray s 0 0 tNo) (F0 m 0 ls []) by subst eH; subst eL; exact hW
  refine lv_iload_n hx hb dX10_numbersOf_0 rfl (lv_at hl 0 rfl) ?_
  rcases (show (x0.toInt < 3 ∨ 7 < x0.toInt) ∨ x0.toInt = 3 ∨ x0.toInt = 4 ∨ x0.toInt = 5 ∨ x0.toInt = 6 ∨ x0.toInt = 7 by omega) with k1 | k1 | k1 | k1 | k1 | k1
  · refine lv_tableOut (tgt := 42) hx hb dX10_numbersOf_1 k1 (by decide) ?_
    refine lv_iconst (v := 2) hx hb dX10_numbersOf_42 (by decide) ?_
    exact tc_pret E hr hlk eH eL rfl (show (2 : Int32).toInt = nNum x0.toInt ∧ ((x0.toInt = 3 ∧ (2 : Int32).toInt = 4) ∨ ((x0.toInt = 4 ∨ x0.toInt = 5) ∧ (2 : Int32).toInt = 0) ∨ (x0.toInt = 7 ∧ (2 : Int32).toInt = 1) ∨ (¬ x0.toInt = 3 ∧ ¬ x0.toInt = 4 ∧ ¬ x0.toInt = 5 ∧ ¬ x0.toInt = 7 ∧ (2 : Int32).toInt = 2)) by have kk := kI_2; unfold nNum; (repeat' split) <;> omega) dX10_numbersOf_43
  · refine lv_tableIn (off := 35) (tgt := 36) hx hb dX10_numbersOf_1 (by rw [k1]; decide) (by rw [k1]; decide) (by rw [k1]; rfl) (by decide) ?_
    refine lv_iconst (v := 4) hx hb dX10_numbersOf_36 (by decide) ?_
    exact tc_pret E hr hlk eH eL rfl (show (4 : Int32).toInt = nNum x0.toInt ∧ ((x0.toInt = 3 ∧ (4 : Int32).toInt = 4) ∨ ((x0.toInt = 4 ∨ x0.toInt = 5) ∧ (4 : Int32).toInt = 0) ∨ (x0.toInt = 7 ∧ (4 : Int32).toInt = 1) ∨ (¬ x0.toInt = 3 ∧ ¬ x0.toInt = 4 ∧ ¬ x0.toInt = 5 ∧ ¬ x0.toInt = 7 ∧ (4 : Int32).toInt = 2)) by have kk := kI_4; unfold nNum; (repeat' split) <;> omega) dX10_numbersOf_37
  · refine lv_tableIn (off := 37) (tgt := 38) hx hb dX10_numbersOf_1 (by rw [k1]; decide) (by rw [k1]; decide) (by rw [k1]; rfl) (by decide) ?_
    refine lv_iconst (v := 0) hx hb dX10_numbersOf_38 (by decide) ?_
    exact tc_pret E hr hlk eH eL rfl (show (0 : Int32).toInt = nNum x0.toInt ∧ ((x0.toInt = 3 ∧ (0 : Int32).toInt = 4) ∨ ((x0.toInt = 4 ∨ x0.toInt = 5) ∧ (0 : Int32).toInt = 0) ∨ (x0.toInt = 7 ∧ (0 : Int32).toInt = 1) ∨ (¬ x0.toInt = 3 ∧ ¬ x0.toInt = 4 ∧ ¬ x0.toInt = 5 ∧ ¬ x0.toInt = 7 ∧ (0 : Int32).toInt = 2)) by have kk := kI_0; unfold nNum; (repeat' split) <;> omega) dX10_numbersOf_39
  · refine lv_tableIn (off := 37) (tgt := 38) hx hb dX10_numbersOf_1 (by rw [k1]; decide) (by rw [k1]; decide) (by rw [k1]; rfl) (by decide) ?_
    refine lv_iconst (v := 0) hx hb dX10_numbersOf_38 (by decide) ?_
    exact tc_pret E hr hlk eH eL rfl (show (0 : Int32).toInt = nNum x0.toInt ∧ ((x0.toInt = 3 ∧ (0 : Int32).toInt = 4) ∨ ((x0.toInt = 4 ∨ x0.toInt = 5) ∧ (0 : Int32).toInt = 0) ∨ (x0.toInt = 7 ∧ (0 : Int32).toInt = 1) ∨ (¬ x0.toInt = 3 ∧ ¬ x0.toInt = 4 ∧ ¬ x0.toInt = 5 ∧ ¬ x0.toInt = 7 ∧ (0 : Int32).toInt = 2)) by have kk := kI_0; unfold nNum; (repeat' split) <;> omega) dX10_numbersOf_39
  · refine lv_tableIn (off := 41) (tgt := 42) hx hb dX10_numbersOf_1 (by rw [k1]; decide) (by rw [k1]; decide) (by rw [k1]; rfl) (by decide) ?_
    refine lv_iconst (v := 2) hx hb dX10_numbersOf_42 (by decide) ?_
    exact tc_pret E hr hlk eH eL rfl (show (2 : Int32).toInt = nNum x0.toInt ∧ ((x0.toInt = 3 ∧ (2 : Int32).toInt = 4) ∨ ((x0.toInt = 4 ∨ x0.toInt = 5) ∧ (2 : Int32).toInt = 0) ∨ (x0.toInt = 7 ∧ (2 : Int32).toInt = 1) ∨ (¬ x0.toInt = 3 ∧ ¬ x0.toInt = 4 ∧ ¬ x0.toInt = 5 ∧ ¬ x0.toInt = 7 ∧ (2 : Int32).toInt = 2)) by have kk := kI_2; unfold nNum; (repeat' split) <;> omega) dX10_numbersOf_43
  · refine lv_tableIn (off := 39) (tgt := 40) hx hb dX10_numbersOf_1 (by rw [k1]; decide) (by rw [k1]; decide) (by rw [k1]; rfl) (by decide) ?_
    refine lv_iconst (v := 1) hx hb dX10_numbersOf_40 (by decide) ?_
    exact tc_pret E hr hlk eH eL rfl (show (1 : Int32).toInt = nNum x0.toInt ∧ ((x0.toInt = 3 ∧ (1 : Int32).toInt = 4) ∨ ((x0.toInt = 4 ∨ x0.toInt = 5) ∧ (1 : Int32).toInt = 0) ∨ (x0.toInt = 7 ∧ (1 : Int32).toInt = 1) ∨ (¬ x0.toInt = 3 ∧ ¬ x0.toInt = 4 ∧ ¬ x0.toInt = 5 ∧ ¬ x0.toInt = 7 ∧ (1 : Int32).toInt = 2)) by have kk := kI_1; unfold nNum; (repeat' split) <;> omega) dX10_numbersOf_41

set_option maxHeartbeats 4000000 in
set_option maxRecDepth 100000 in
theorem x_X10_leastOf (l : Launch) (G : tG) (Y : mY) (x0 : Int32)  : Met l yX10_leastOf (.code yX10_leastOf cX10_leastOf 1 (some .int) :: tWS) (tRm 0 0) (va_Pc [.int x0] (mPre G Y)) (tQp (fun r => r.toInt = Lk x0.toInt)) 0 0 tNo := by
  refine mc_met (by decide) (Nat.le_of_ble_eq_true rfl) ?_
  intro p e s m below meth c E hr hlk hG ls hl
  have hl : lv_has ls 1 [(0, .int x0)] := hl
  have hx := E.1
  have hb := E.2.1
  obtain ⟨H, eH⟩ : ∃ H, H = s.heap := ⟨_, rfl⟩
  obtain ⟨locs, eL⟩ : ∃ x : List Loc, x = [] := ⟨_, rfl⟩
  have hG : mGH G Y s H locs := by rw [eH, eL]; exact hG
  suffices hW : W p l e (tRm 0 0) s m ([.int x0] : List Value).toArray below meth c H locs 0 0 (MQ below (tQp (fun r => r.toInt = Lk x0.toInt)) ([.int x0] : List Value).toArray s 0 0 tNo) (F0 m 0 ls []) by subst eH; subst eL; exact hW
  refine lv_iload_n hx hb dX10_leastOf_0 rfl (lv_at hl 0 rfl) ?_
  refine lv_bipush (v := 6) hx hb dX10_leastOf_1 (by decide) ?_
  refine lv_icmp_ne (tgt := 10) hx hb dX10_leastOf_3 (by decide) (fun c1 => ?_) (fun c1 => ?_)
  · skip
    have ic1 := tn_ne rfl kI_6 c1
    refine lv_iconst (v := 0) hx hb dX10_leastOf_10 (by decide) ?_
    exact tc_pret E hr hlk eH eL rfl (show (0 : Int32).toInt = Lk x0.toInt by have kk := kI_0; unfold Lk; split <;> omega) dX10_leastOf_11
  · skip
    have ic1 := tn_eq rfl kI_6 c1
    refine lv_iconst (v := 1) hx hb dX10_leastOf_6 (by decide) ?_
    refine lv_goto (tgt := 11) hx hb dX10_leastOf_7 (by decide) ?_
    exact tc_pret E hr hlk eH eL rfl (show (1 : Int32).toInt = Lk x0.toInt by have kk := kI_1; unfold Lk; split <;> omega) dX10_leastOf_11

set_option maxHeartbeats 4000000 in
set_option maxRecDepth 100000 in
theorem x_X10_mostOf (l : Launch) (G : tG) (Y : mY) (x0 : Int32) (x1 : Int32)  : Met l yX10_mostOf (.code yX10_mostOf cX10_mostOf 2 (some .int) :: tWS) (tRm 0 0) (va_Pc [.int x0, .int x1] (mPre G Y)) (tQp (fun r => r.toInt = Hk x0.toInt x1.toInt)) 0 0 tNo := by
  refine mc_met (by decide) (Nat.le_of_ble_eq_true rfl) ?_
  intro p e s m below meth c E hr hlk hG ls hl
  have hl : lv_has ls 2 [(0, .int x0), (1, .int x1)] := hl
  have hx := E.1
  have hb := E.2.1
  obtain ⟨H, eH⟩ : ∃ H, H = s.heap := ⟨_, rfl⟩
  obtain ⟨locs, eL⟩ : ∃ x : List Loc, x = [] := ⟨_, rfl⟩
  have hG : mGH G Y s H locs := by rw [eH, eL]; exact hG
  suffices hW : W p l e (tRm 0 0) s m ([.int x0, .int x1] : List Value).toArray below meth c H locs 0 0 (MQ below (tQp (fun r => r.toInt = Hk x0.toInt x1.toInt)) ([.int x0, .int x1] : List Value).toArray s 0 0 tNo) (F0 m 0 ls []) by subst eH; subst eL; exact hW
  refine lv_iload_n hx hb dX10_mostOf_0 rfl (lv_at hl 0 rfl) ?_
  rcases (show (x0.toInt < 0 ∨ 7 < x0.toInt) ∨ x0.toInt = 0 ∨ x0.toInt = 1 ∨ x0.toInt = 2 ∨ x0.toInt = 3 ∨ x0.toInt = 4 ∨ x0.toInt = 5 ∨ x0.toInt = 6 ∨ x0.toInt = 7 by omega) with k1 | k1 | k1 | k1 | k1 | k1 | k1 | k1 | k1
  · refine lv_tableOut (tgt := 71) hx hb dX10_mostOf_1 k1 (by decide) ?_
    refine lv_iload_n hx hb dX10_mostOf_71 rfl (lv_at hl 1 rfl) ?_
    refine lv_if_ne (tgt := 79) hx hb dX10_mostOf_72 (by decide) (fun c2 => ?_) (fun c2 => ?_)
    · skip
      have ic2 := tn_ne rfl kI_0 c2
      refine lv_bipush (v := 20) hx hb dX10_mostOf_79 (by decide) ?_
      exact tc_pret E hr hlk eH eL rfl (show (20 : Int32).toInt = Hk x0.toInt x1.toInt by have kk := kI_20; unfold Hk; (repeat' split) <;> omega) dX10_mostOf_81
    · skip
      have ic2 := tn_eq rfl kI_0 c2
      refine lv_iconst (v := 4) hx hb dX10_mostOf_75 (by decide) ?_
      refine lv_goto (tgt := 81) hx hb dX10_mostOf_76 (by decide) ?_
      exact tc_pret E hr hlk eH eL rfl (show (4 : Int32).toInt = Hk x0.toInt x1.toInt by have kk := kI_4; unfold Hk; (repeat' split) <;> omega) dX10_mostOf_81
  · refine lv_tableIn (off := 47) (tgt := 48) hx hb dX10_mostOf_1 (by rw [k1]; decide) (by rw [k1]; decide) (by rw [k1]; rfl) (by decide) ?_
    refine lv_bipush (v := 99) hx hb dX10_mostOf_48 (by decide) ?_
    exact tc_pret E hr hlk eH eL rfl (show (99 : Int32).toInt = Hk x0.toInt x1.toInt by have kk := kI_99; unfold Hk; (repeat' split) <;> omega) dX10_mostOf_50
  · refine lv_tableIn (off := 50) (tgt := 51) hx hb dX10_mostOf_1 (by rw [k1]; decide) (by rw [k1]; decide) (by rw [k1]; rfl) (by decide) ?_
    refine lv_iload_n hx hb dX10_mostOf_51 rfl (lv_at hl 1 rfl) ?_
    refine lv_if_ne (tgt := 60) hx hb dX10_mostOf_52 (by decide) (fun c3 => ?_) (fun c3 => ?_)
    · skip
      have ic3 := tn_ne rfl kI_0 c3
      refine lv_bipush (v := 31) hx hb dX10_mostOf_60 (by decide) ?_
      exact tc_pret E hr hlk eH eL rfl (show (31 : Int32).toInt = Hk x0.toInt x1.toInt by have kk := kI_31; unfold Hk; (repeat' split) <;> omega) dX10_mostOf_62
    · skip
      have ic3 := tn_eq rfl kI_0 c3
      refine lv_bipush (v := 12) hx hb dX10_mostOf_55 (by decide) ?_
      refine lv_goto (tgt := 62) hx hb dX10_mostOf_57 (by decide) ?_
      exact tc_pret E hr hlk eH eL rfl (show (12 : Int32).toInt = Hk x0.toInt x1.toInt by have kk := kI_12; unfold Hk; (repeat' split) <;> omega) dX10_mostOf_62
  · refine lv_tableIn (off := 62) (tgt := 63) hx hb dX10_mostOf_1 (by rw [k1]; decide) (by rw [k1]; decide) (by rw [k1]; rfl) (by decide) ?_
    refine lv_bipush (v := 20) hx hb dX10_mostOf_63 (by decide) ?_
    exact tc_pret E hr hlk eH eL rfl (show (20 : Int32).toInt = Hk x0.toInt x1.toInt by have kk := kI_20; unfold Hk; (repeat' split) <;> omega) dX10_mostOf_65
  · refine lv_tableIn (off := 47) (tgt := 48) hx hb dX10_mostOf_1 (by rw [k1]; decide) (by rw [k1]; decide) (by rw [k1]; rfl) (by decide) ?_
    refine lv_bipush (v := 99) hx hb dX10_mostOf_48 (by decide) ?_
    exact tc_pret E hr hlk eH eL rfl (show (99 : Int32).toInt = Hk x0.toInt x1.toInt by have kk := kI_99; unfold Hk; (repeat' split) <;> omega) dX10_mostOf_50
  · refine lv_tableIn (off := 70) (tgt := 71) hx hb dX10_mostOf_1 (by rw [k1]; decide) (by rw [k1]; decide) (by rw [k1]; rfl) (by decide) ?_
    refine lv_iload_n hx hb dX10_mostOf_71 rfl (lv_at hl 1 rfl) ?_
    refine lv_if_ne (tgt := 79) hx hb dX10_mostOf_72 (by decide) (fun c4 => ?_) (fun c4 => ?_)
    · skip
      have ic4 := tn_ne rfl kI_0 c4
      refine lv_bipush (v := 20) hx hb dX10_mostOf_79 (by decide) ?_
      exact tc_pret E hr hlk eH eL rfl (show (20 : Int32).toInt = Hk x0.toInt x1.toInt by have kk := kI_20; unfold Hk; (repeat' split) <;> omega) dX10_mostOf_81
    · skip
      have ic4 := tn_eq rfl kI_0 c4
      refine lv_iconst (v := 4) hx hb dX10_mostOf_75 (by decide) ?_
      refine lv_goto (tgt := 81) hx hb dX10_mostOf_76 (by decide) ?_
      exact tc_pret E hr hlk eH eL rfl (show (4 : Int32).toInt = Hk x0.toInt x1.toInt by have kk := kI_4; unfold Hk; (repeat' split) <;> omega) dX10_mostOf_81
  · refine lv_tableIn (off := 70) (tgt := 71) hx hb dX10_mostOf_1 (by rw [k1]; decide) (by rw [k1]; decide) (by rw [k1]; rfl) (by decide) ?_
    refine lv_iload_n hx hb dX10_mostOf_71 rfl (lv_at hl 1 rfl) ?_
    refine lv_if_ne (tgt := 79) hx hb dX10_mostOf_72 (by decide) (fun c5 => ?_) (fun c5 => ?_)
    · skip
      have ic5 := tn_ne rfl kI_0 c5
      refine lv_bipush (v := 20) hx hb dX10_mostOf_79 (by decide) ?_
      exact tc_pret E hr hlk eH eL rfl (show (20 : Int32).toInt = Hk x0.toInt x1.toInt by have kk := kI_20; unfold Hk; (repeat' split) <;> omega) dX10_mostOf_81
    · skip
      have ic5 := tn_eq rfl kI_0 c5
      refine lv_iconst (v := 4) hx hb dX10_mostOf_75 (by decide) ?_
      refine lv_goto (tgt := 81) hx hb dX10_mostOf_76 (by decide) ?_
      exact tc_pret E hr hlk eH eL rfl (show (4 : Int32).toInt = Hk x0.toInt x1.toInt by have kk := kI_4; unfold Hk; (repeat' split) <;> omega) dX10_mostOf_81
  · refine lv_tableIn (off := 65) (tgt := 66) hx hb dX10_mostOf_1 (by rw [k1]; decide) (by rw [k1]; decide) (by rw [k1]; rfl) (by decide) ?_
    refine lv_bipush (v := 9) hx hb dX10_mostOf_66 (by decide) ?_
    exact tc_pret E hr hlk eH eL rfl (show (9 : Int32).toInt = Hk x0.toInt x1.toInt by have kk := kI_9; unfold Hk; (repeat' split) <;> omega) dX10_mostOf_68
  · refine lv_tableIn (off := 68) (tgt := 69) hx hb dX10_mostOf_1 (by rw [k1]; decide) (by rw [k1]; decide) (by rw [k1]; rfl) (by decide) ?_
    refine lv_iconst (v := 2) hx hb dX10_mostOf_69 (by decide) ?_
    exact tc_pret E hr hlk eH eL rfl (show (2 : Int32).toInt = Hk x0.toInt x1.toInt by have kk := kI_2; unfold Hk; (repeat' split) <;> omega) dX10_mostOf_70

set_option maxHeartbeats 4000000 in
set_option maxRecDepth 100000 in
theorem x_X10_mayBe (l : Launch) (G : tG) (Y : mY) (x0 : Int32) (x1 : Int32) (x2 : Int32)  : Met l yX10_mayBe (.code yX10_mayBe cX10_mayBe 3 (some .boolean) :: tWS) (tRm 1 25) (va_Pc [.int x0, .int x1, .int x2] (mPre G Y)) (tQp (fun r => r.toInt = iMB x0.toInt x1.toInt x2.toInt)) 0 0 tNo := by
  refine mc_met (by decide) (Nat.le_of_ble_eq_true rfl) ?_
  intro p e s m below meth c E hr hlk hG ls hl
  have hl : lv_has ls 3 [(0, .int x0), (1, .int x1), (2, .int x2)] := hl
  have hx := E.1
  have hb := E.2.1
  obtain ⟨H, eH⟩ : ∃ H, H = s.heap := ⟨_, rfl⟩
  obtain ⟨locs, eL⟩ : ∃ x : List Loc, x = [] := ⟨_, rfl⟩
  have hG : mGH G Y s H locs := by rw [eH, eL]; exact hG
  suffices hW : W p l e (tRm 1 25) s m ([.int x0, .int x1, .int x2] : List Value).toArray below meth c H locs 0 0 (MQ below (tQp (fun r => r.toInt = iMB x0.toInt x1.toInt x2.toInt)) ([.int x0, .int x1, .int x2] : List Value).toArray s 0 0 tNo) (F0 m 0 ls []) by subst eH; subst eL; exact hW
  refine lv_iload_n hx hb dX10_mayBe_0 rfl (lv_at hl 2 rfl) ?_
  refine lv_i2l hx hb dX10_mayBe_1 rfl ?_
  refine lv_topl (fun z1 ez1 => ?_)
  have tz1 := tl_i2l ez1
  refine lv_iload_n hx hb dX10_mayBe_2 rfl (lv_at hl 0 rfl) ?_
  refine tc_callp (mc_runS (As := [.int x0]) (rest := [.long z1]) E hG (x_X10_leastOf l G Y x0) ks_X10_leastOf ml_X10_95 ⟨rfl, rfl, Nat.le_of_ble_eq_true rfl, Nat.le_of_ble_eq_true rfl⟩ rfl hl.1 rfl (Nat.le_of_ble_eq_true rfl) ⟨Nat.zero_le _, Nat.zero_le _⟩ dX10_mayBe_3) (fun r2 pr2 => ?_)
  replace pr2 : r2.toInt = Lk x0.toInt := pr2
  refine lv_i2l hx hb dX10_mayBe_6 rfl ?_
  refine lv_topl (fun z3 ez3 => ?_)
  have tz3 := tl_i2l ez3
  refine lv_iload_n hx hb dX10_mayBe_7 rfl (lv_at hl 0 rfl) ?_
  refine lv_iload_n hx hb dX10_mayBe_8 rfl (lv_at hl 1 rfl) ?_
  refine tc_callp (mc_runS (As := [.int x0, .int x1]) (rest := [.long z3, .long z1]) E hG (x_X10_mostOf l G Y x0 x1) ks_X10_mostOf ml_X10_99 ⟨rfl, rfl, Nat.le_of_ble_eq_true rfl, Nat.le_of_ble_eq_true rfl⟩ rfl hl.1 rfl (Nat.le_of_ble_eq_true rfl) ⟨Nat.zero_le _, Nat.zero_le _⟩ dX10_mayBe_9) (fun r4 pr4 => ?_)
  replace pr4 : r4.toInt = Hk x0.toInt x1.toInt := pr4
  refine lv_i2l hx hb dX10_mayBe_12 rfl ?_
  refine lv_topl (fun z5 ez5 => ?_)
  have tz5 := tl_i2l ez5
  refine tc_callp (mc_runS (As := [.long z1, .long z3, .long z5]) (rest := []) E hG (c_X10_in l G Y z1 z3 z5) ks_X10_in ml_X10_87 ⟨rfl, rfl, Nat.le_of_ble_eq_true rfl, Nat.le_of_ble_eq_true rfl⟩ rfl hl.1 rfl (Nat.le_of_ble_eq_true rfl) ⟨Nat.zero_le _, Nat.zero_le _⟩ dX10_mayBe_13) (fun r6 pr6 => ?_)
  replace pr6 : ((r6.toInt = 1 ∧ z3.toInt ≤ z1.toInt ∧ z1.toInt ≤ z5.toInt) ∨ (r6.toInt = 0 ∧ (z1.toInt < z3.toInt ∨ z5.toInt < z1.toInt))) := pr6
  exact tc_pret E hr hlk eH eL (t_nz (by omega) (by omega)).1 (show r6.toInt = iMB x0.toInt x1.toInt x2.toInt by unfold iMB; split <;> omega) dX10_mayBe_16

set_option maxHeartbeats 4000000 in
set_option maxRecDepth 100000 in
theorem x_X10_areGood (l : Launch) (G : tG) (Y : mY) (x0 : Int32) (x1 : Int32) (x2 : Int32) (x3 : Int32) (x4 : Int32) (l0 : 0 ≤ x0.toInt) (u0 : x0.toInt ≤ 9) : Met l yX10_areGood (.code yX10_areGood cX10_areGood 7 (some .boolean) :: tWS) (tRm 2 47) (va_Pc [.int x0, .int x1, .int x2, .int x3, .int x4] (mPre G Y)) (tQp (fun r => (r.toInt = 1 ∧ okG x0.toInt x1.toInt x2.toInt x3.toInt x4.toInt) ∨ (r.toInt = 0 ∧ ¬ okG x0.toInt x1.toInt x2.toInt x3.toInt x4.toInt))) 0 0 tNo := by
  refine mc_met (by decide) (Nat.le_of_ble_eq_true rfl) ?_
  intro p e s m below meth c E hr hlk hG ls hl
  have hl : lv_has ls 7 [(0, .int x0), (1, .int x1), (2, .int x2), (3, .int x3), (4, .int x4)] := hl
  have hx := E.1
  have hb := E.2.1
  obtain ⟨H, eH⟩ : ∃ H, H = s.heap := ⟨_, rfl⟩
  obtain ⟨locs, eL⟩ : ∃ x : List Loc, x = [] := ⟨_, rfl⟩
  have hG : mGH G Y s H locs := by rw [eH, eL]; exact hG
  suffices hW : W p l e (tRm 2 47) s m ([.int x0, .int x1, .int x2, .int x3, .int x4] : List Value).toArray below meth c H locs 0 0 (MQ below (tQp (fun r => (r.toInt = 1 ∧ okG x0.toInt x1.toInt x2.toInt x3.toInt x4.toInt) ∨ (r.toInt = 0 ∧ ¬ okG x0.toInt x1.toInt x2.toInt x3.toInt x4.toInt))) ([.int x0, .int x1, .int x2, .int x3, .int x4] : List Value).toArray s 0 0 tNo) (F0 m 0 ls []) by subst eH; subst eL; exact hW
  refine lv_iload_n hx hb dX10_areGood_0 rfl (lv_at hl 0 rfl) ?_
  refine tc_callp (mc_runS (As := [.int x0]) (rest := []) E hG (x_X10_numbersOf l G Y x0 (by omega) (by omega)) ks_X10_numbersOf ml_X10_110 ⟨rfl, rfl, Nat.le_of_ble_eq_true rfl, Nat.le_of_ble_eq_true rfl⟩ rfl hl.1 rfl (Nat.le_of_ble_eq_true rfl) ⟨Nat.zero_le _, Nat.zero_le _⟩ dX10_areGood_1) (fun r1 pr1 => ?_)
  replace pr1 : r1.toInt = nNum x0.toInt ∧ ((x0.toInt = 3 ∧ r1.toInt = 4) ∨ ((x0.toInt = 4 ∨ x0.toInt = 5) ∧ r1.toInt = 0) ∨ (x0.toInt = 7 ∧ r1.toInt = 1) ∨ (¬ x0.toInt = 3 ∧ ¬ x0.toInt = 4 ∧ ¬ x0.toInt = 5 ∧ ¬ x0.toInt = 7 ∧ r1.toInt = 2)) := pr1
  refine lv_istore (lv' := [(5, .int r1), (0, .int x0), (1, .int x1), (2, .int x2), (3, .int x3), (4, .int x4)]) hx hb dX10_areGood_4 hl (by decide) rfl (fun ls hl => ?_)
  refine lv_iload hx hb dX10_areGood_6 (lv_at hl 0 rfl) ?_
  refine lv_iconst (v := 1) hx hb dX10_areGood_8 (by decide) ?_
  refine lv_icmp_lt (tgt := 21) hx hb dX10_areGood_9 (by decide) (fun c2 => ?_) (fun c2 => ?_)
  · skip
    have ic2 := tn_lt rfl kI_1 c2
    refine lv_iload hx hb dX10_areGood_21 (lv_at hl 0 rfl) ?_
    refine lv_iconst (v := 2) hx hb dX10_areGood_23 (by decide) ?_
    refine lv_icmp_lt (tgt := 36) hx hb dX10_areGood_24 (by decide) (fun c3 => ?_) (fun c3 => ?_)
    · skip
      have ic3 := tn_lt rfl kI_2 c3
      refine lv_iload hx hb dX10_areGood_36 (lv_at hl 0 rfl) ?_
      refine lv_iconst (v := 3) hx hb dX10_areGood_38 (by decide) ?_
      refine lv_icmp_lt (tgt := 61) hx hb dX10_areGood_39 (by decide) (fun c4 => ?_) (fun c4 => ?_)
      · skip
        have ic4 := tn_lt rfl kI_3 c4
        refine lv_iconst (v := 1) hx hb dX10_areGood_61 (by decide) ?_
        refine lv_goto (tgt := 66) hx hb dX10_areGood_62 (by decide) ?_
        refine lv_istore (lv' := [(6, .int 1), (5, .int r1), (0, .int x0), (1, .int x1), (2, .int x2), (3, .int x3), (4, .int x4)]) hx hb dX10_areGood_66 hl (by decide) rfl (fun ls hl => ?_)
        refine lv_iload hx hb dX10_areGood_68 (lv_at hl 0 rfl) ?_
        refine lv_if_eq (tgt := 93) hx hb dX10_areGood_70 (by decide) (fun c5 => ?_) (fun c5 => ?_)
        · exfalso
          have ic5 := tn_eq kI_1 kI_0 c5
          omega
        · skip
          have ic5 := tn_ne kI_1 kI_0 c5
          refine lv_iload_n hx hb dX10_areGood_73 rfl (lv_at hl 2 rfl) ?_
          refine lv_iconst (v := 3) hx hb dX10_areGood_74 (by decide) ?_
          refine lv_icmp_ne (tgt := 89) hx hb dX10_areGood_75 (by decide) (fun c6 => ?_) (fun c6 => ?_)
          · skip
            have ic6 := tn_ne rfl kI_3 c6
            refine lv_iconst (v := 1) hx hb dX10_areGood_89 (by decide) ?_
            refine lv_goto (tgt := 94) hx hb dX10_areGood_90 (by decide) ?_
            exact tc_pret E hr hlk eH eL (t_nz (by decide) (by decide)).1 (show ((1 : Int32).toInt = 1 ∧ okG x0.toInt x1.toInt x2.toInt x3.toInt x4.toInt) ∨ ((1 : Int32).toInt = 0 ∧ ¬ okG x0.toInt x1.toInt x2.toInt x3.toInt x4.toInt) by have kk := kI_1; have hn := nNum_q x0.toInt; unfold okG MBe; omega) dX10_areGood_94
          · skip
            have ic6 := tn_eq rfl kI_3 c6
            refine lv_iload_n hx hb dX10_areGood_78 rfl (lv_at hl 3 rfl) ?_
            refine lv_iload_n hx hb dX10_areGood_79 rfl (lv_at hl 4 rfl) ?_
            refine lv_icmp_gt (tgt := 93) hx hb dX10_areGood_80 (by decide) (fun c7 => ?_) (fun c7 => ?_)
            · skip
              have ic7 := tn_lt rfl rfl c7
              refine lv_iconst (v := 0) hx hb dX10_areGood_93 (by decide) ?_
              exact tc_pret E hr hlk eH eL (t_nz (by decide) (by decide)).1 (show ((0 : Int32).toInt = 1 ∧ okG x0.toInt x1.toInt x2.toInt x3.toInt x4.toInt) ∨ ((0 : Int32).toInt = 0 ∧ ¬ okG x0.toInt x1.toInt x2.toInt x3.toInt x4.toInt) by have kk := kI_0; have hn := nNum_q x0.toInt; unfold okG MBe; omega) dX10_areGood_94
            · skip
              have ic7 := tn_nlt rfl rfl c7
              refine lv_iload_n hx hb dX10_areGood_83 rfl (lv_at hl 5 rfl) ?_
              refine lv_iload hx hb dX10_areGood_84 (lv_at hl 6 rfl) ?_
              refine lv_icmp_gt (tgt := 93) hx hb dX10_areGood_86 (by decide) (fun c8 => ?_) (fun c8 => ?_)
              · skip
                have ic8 := tn_lt rfl rfl c8
                refine lv_iconst (v := 0) hx hb dX10_areGood_93 (by decide) ?_
                exact tc_pret E hr hlk eH eL (t_nz (by decide) (by decide)).1 (show ((0 : Int32).toInt = 1 ∧ okG x0.toInt x1.toInt x2.toInt x3.toInt x4.toInt) ∨ ((0 : Int32).toInt = 0 ∧ ¬ okG x0.toInt x1.toInt x2.toInt x3.toInt x4.toInt) by have kk := kI_0; have hn := nNum_q x0.toInt; unfold okG MBe; omega) dX10_areGood_94
              · skip
                have ic8 := tn_nlt rfl rfl c8
                refine lv_iconst (v := 1) hx hb dX10_areGood_89 (by decide) ?_
                refine lv_goto (tgt := 94) hx hb dX10_areGood_90 (by decide) ?_
                exact tc_pret E hr hlk eH eL (t_nz (by decide) (by decide)).1 (show ((1 : Int32).toInt = 1 ∧ okG x0.toInt x1.toInt x2.toInt x3.toInt x4.toInt) ∨ ((1 : Int32).toInt = 0 ∧ ¬ okG x0.toInt x1.toInt x2.toInt x3.toInt x4.toInt) by have kk := kI_1; have hn := nNum_q x0.toInt; unfold okG MBe; omega) dX10_areGood_94
      · exfalso
        have ic4 := tn_nlt rfl kI_3 c4
        omega
    · exfalso
      have ic3 := tn_nlt rfl kI_2 c3
      omega
  · skip
    have ic2 := tn_nlt rfl kI_1 c2
    refine lv_iload_n hx hb dX10_areGood_12 rfl (lv_at hl 1 rfl) ?_
    refine lv_iconst (v := 0) hx hb dX10_areGood_13 (by decide) ?_
    refine lv_iload_n hx hb dX10_areGood_14 rfl (lv_at hl 2 rfl) ?_
    refine tc_callp (mc_runS (As := [.int x0, .int 0, .int x1]) (rest := []) E hG (x_X10_mayBe l G Y x0 (0 : Int32) x1) ks_X10_mayBe ml_X10_120 ⟨rfl, rfl, Nat.le_of_ble_eq_true rfl, Nat.le_of_ble_eq_true rfl⟩ rfl hl.1 rfl (Nat.le_of_ble_eq_true rfl) ⟨Nat.zero_le _, Nat.zero_le _⟩ dX10_areGood_15) (fun r9 pr9 => ?_)
    replace pr9 : r9.toInt = iMB x0.toInt (0 : Int32).toInt x1.toInt := pr9
    rw [kI_0] at pr9
    have br9 := iMB_b pr9
    have k10 := kI_0
    refine lv_if_eq (tgt := 65) hx hb dX10_areGood_18 (by decide) (fun c11 => ?_) (fun c11 => ?_)
    · skip
      have ic11 := tn_eq rfl kI_0 c11
      refine lv_iconst (v := 0) hx hb dX10_areGood_65 (by decide) ?_
      refine lv_istore (lv' := [(6, .int 0), (5, .int r1), (0, .int x0), (1, .int x1), (2, .int x2), (3, .int x3), (4, .int x4)]) hx hb dX10_areGood_66 hl (by decide) rfl (fun ls hl => ?_)
      refine lv_iload hx hb dX10_areGood_68 (lv_at hl 0 rfl) ?_
      refine lv_if_eq (tgt := 93) hx hb dX10_areGood_70 (by decide) (fun c12 => ?_) (fun c12 => ?_)
      · skip
        have ic12 := tn_eq kI_0 kI_0 c12
        refine lv_iconst (v := 0) hx hb dX10_areGood_93 (by decide) ?_
        exact tc_pret E hr hlk eH eL (t_nz (by decide) (by decide)).1 (show ((0 : Int32).toInt = 1 ∧ okG x0.toInt x1.toInt x2.toInt x3.toInt x4.toInt) ∨ ((0 : Int32).toInt = 0 ∧ ¬ okG x0.toInt x1.toInt x2.toInt x3.toInt x4.toInt) by have kk := kI_0; have hn := nNum_q x0.toInt; unfold okG MBe; omega) dX10_areGood_94
      · exfalso
        have ic12 := tn_ne kI_0 kI_0 c12
        omega
    · skip
      have ic11 := tn_ne rfl kI_0 c11
      refine lv_iload hx hb dX10_areGood_21 (lv_at hl 0 rfl) ?_
      refine lv_iconst (v := 2) hx hb dX10_areGood_23 (by decide) ?_
      refine lv_icmp_lt (tgt := 36) hx hb dX10_areGood_24 (by decide) (fun c13 => ?_) (fun c13 => ?_)
      · skip
        have ic13 := tn_lt rfl kI_2 c13
        refine lv_iload hx hb dX10_areGood_36 (lv_at hl 0 rfl) ?_
        refine lv_iconst (v := 3) hx hb dX10_areGood_38 (by decide) ?_
        refine lv_icmp_lt (tgt := 61) hx hb dX10_areGood_39 (by decide) (fun c14 => ?_) (fun c14 => ?_)
        · skip
          have ic14 := tn_lt rfl kI_3 c14
          refine lv_iconst (v := 1) hx hb dX10_areGood_61 (by decide) ?_
          refine lv_goto (tgt := 66) hx hb dX10_areGood_62 (by decide) ?_
          refine lv_istore (lv' := [(6, .int 1), (5, .int r1), (0, .int x0), (1, .int x1), (2, .int x2), (3, .int x3), (4, .int x4)]) hx hb dX10_areGood_66 hl (by decide) rfl (fun ls hl => ?_)
          refine lv_iload hx hb dX10_areGood_68 (lv_at hl 0 rfl) ?_
          refine lv_if_eq (tgt := 93) hx hb dX10_areGood_70 (by decide) (fun c15 => ?_) (fun c15 => ?_)
          · exfalso
            have ic15 := tn_eq kI_1 kI_0 c15
            omega
          · skip
            have ic15 := tn_ne kI_1 kI_0 c15
            refine lv_iload_n hx hb dX10_areGood_73 rfl (lv_at hl 2 rfl) ?_
            refine lv_iconst (v := 3) hx hb dX10_areGood_74 (by decide) ?_
            refine lv_icmp_ne (tgt := 89) hx hb dX10_areGood_75 (by decide) (fun c16 => ?_) (fun c16 => ?_)
            · skip
              have ic16 := tn_ne rfl kI_3 c16
              refine lv_iconst (v := 1) hx hb dX10_areGood_89 (by decide) ?_
              refine lv_goto (tgt := 94) hx hb dX10_areGood_90 (by decide) ?_
              exact tc_pret E hr hlk eH eL (t_nz (by decide) (by decide)).1 (show ((1 : Int32).toInt = 1 ∧ okG x0.toInt x1.toInt x2.toInt x3.toInt x4.toInt) ∨ ((1 : Int32).toInt = 0 ∧ ¬ okG x0.toInt x1.toInt x2.toInt x3.toInt x4.toInt) by have kk := kI_1; have hn := nNum_q x0.toInt; unfold okG MBe; omega) dX10_areGood_94
            · skip
              have ic16 := tn_eq rfl kI_3 c16
              refine lv_iload_n hx hb dX10_areGood_78 rfl (lv_at hl 3 rfl) ?_
              refine lv_iload_n hx hb dX10_areGood_79 rfl (lv_at hl 4 rfl) ?_
              refine lv_icmp_gt (tgt := 93) hx hb dX10_areGood_80 (by decide) (fun c17 => ?_) (fun c17 => ?_)
              · skip
                have ic17 := tn_lt rfl rfl c17
                refine lv_iconst (v := 0) hx hb dX10_areGood_93 (by decide) ?_
                exact tc_pret E hr hlk eH eL (t_nz (by decide) (by decide)).1 (show ((0 : Int32).toInt = 1 ∧ okG x0.toInt x1.toInt x2.toInt x3.toInt x4.toInt) ∨ ((0 : Int32).toInt = 0 ∧ ¬ okG x0.toInt x1.toInt x2.toInt x3.toInt x4.toInt) by have kk := kI_0; have hn := nNum_q x0.toInt; unfold okG MBe; omega) dX10_areGood_94
              · skip
                have ic17 := tn_nlt rfl rfl c17
                refine lv_iload_n hx hb dX10_areGood_83 rfl (lv_at hl 5 rfl) ?_
                refine lv_iload hx hb dX10_areGood_84 (lv_at hl 6 rfl) ?_
                refine lv_icmp_gt (tgt := 93) hx hb dX10_areGood_86 (by decide) (fun c18 => ?_) (fun c18 => ?_)
                · skip
                  have ic18 := tn_lt rfl rfl c18
                  refine lv_iconst (v := 0) hx hb dX10_areGood_93 (by decide) ?_
                  exact tc_pret E hr hlk eH eL (t_nz (by decide) (by decide)).1 (show ((0 : Int32).toInt = 1 ∧ okG x0.toInt x1.toInt x2.toInt x3.toInt x4.toInt) ∨ ((0 : Int32).toInt = 0 ∧ ¬ okG x0.toInt x1.toInt x2.toInt x3.toInt x4.toInt) by have kk := kI_0; have hn := nNum_q x0.toInt; unfold okG MBe; omega) dX10_areGood_94
                · skip
                  have ic18 := tn_nlt rfl rfl c18
                  refine lv_iconst (v := 1) hx hb dX10_areGood_89 (by decide) ?_
                  refine lv_goto (tgt := 94) hx hb dX10_areGood_90 (by decide) ?_
                  exact tc_pret E hr hlk eH eL (t_nz (by decide) (by decide)).1 (show ((1 : Int32).toInt = 1 ∧ okG x0.toInt x1.toInt x2.toInt x3.toInt x4.toInt) ∨ ((1 : Int32).toInt = 0 ∧ ¬ okG x0.toInt x1.toInt x2.toInt x3.toInt x4.toInt) by have kk := kI_1; have hn := nNum_q x0.toInt; unfold okG MBe; omega) dX10_areGood_94
        · exfalso
          have ic14 := tn_nlt rfl kI_3 c14
          omega
      · skip
        have ic13 := tn_nlt rfl kI_2 c13
        refine lv_iload_n hx hb dX10_areGood_27 rfl (lv_at hl 1 rfl) ?_
        refine lv_iconst (v := 1) hx hb dX10_areGood_28 (by decide) ?_
        refine lv_iload_n hx hb dX10_areGood_29 rfl (lv_at hl 3 rfl) ?_
        refine tc_callp (mc_runS (As := [.int x0, .int 1, .int x2]) (rest := []) E hG (x_X10_mayBe l G Y x0 (1 : Int32) x2) ks_X10_mayBe ml_X10_120 ⟨rfl, rfl, Nat.le_of_ble_eq_true rfl, Nat.le_of_ble_eq_true rfl⟩ rfl hl.1 rfl (Nat.le_of_ble_eq_true rfl) ⟨Nat.zero_le _, Nat.zero_le _⟩ dX10_areGood_30) (fun r19 pr19 => ?_)
        replace pr19 : r19.toInt = iMB x0.toInt (1 : Int32).toInt x2.toInt := pr19
        rw [kI_1] at pr19
        have br19 := iMB_b pr19
        have k20 := kI_1
        refine lv_if_eq (tgt := 65) hx hb dX10_areGood_33 (by decide) (fun c21 => ?_) (fun c21 => ?_)
        · skip
          have ic21 := tn_eq rfl kI_0 c21
          refine lv_iconst (v := 0) hx hb dX10_areGood_65 (by decide) ?_
          refine lv_istore (lv' := [(6, .int 0), (5, .int r1), (0, .int x0), (1, .int x1), (2, .int x2), (3, .int x3), (4, .int x4)]) hx hb dX10_areGood_66 hl (by decide) rfl (fun ls hl => ?_)
          refine lv_iload hx hb dX10_areGood_68 (lv_at hl 0 rfl) ?_
          refine lv_if_eq (tgt := 93) hx hb dX10_areGood_70 (by decide) (fun c22 => ?_) (fun c22 => ?_)
          · skip
            have ic22 := tn_eq kI_0 kI_0 c22
            refine lv_iconst (v := 0) hx hb dX10_areGood_93 (by decide) ?_
            exact tc_pret E hr hlk eH eL (t_nz (by decide) (by decide)).1 (show ((0 : Int32).toInt = 1 ∧ okG x0.toInt x1.toInt x2.toInt x3.toInt x4.toInt) ∨ ((0 : Int32).toInt = 0 ∧ ¬ okG x0.toInt x1.toInt x2.toInt x3.toInt x4.toInt) by have kk := kI_0; have hn := nNum_q x0.toInt; unfold okG MBe; omega) dX10_areGood_94
          · exfalso
            have ic22 := tn_ne kI_0 kI_0 c22
            omega
        · skip
          have ic21 := tn_ne rfl kI_0 c21
          refine lv_iload hx hb dX10_areGood_36 (lv_at hl 0 rfl) ?_
          refine lv_iconst (v := 3) hx hb dX10_areGood_38 (by decide) ?_
          refine lv_icmp_lt (tgt := 61) hx hb dX10_areGood_39 (by decide) (fun c23 => ?_) (fun c23 => ?_)
          · skip
            have ic23 := tn_lt rfl kI_3 c23
            refine lv_iconst (v := 1) hx hb dX10_areGood_61 (by decide) ?_
            refine lv_goto (tgt := 66) hx hb dX10_areGood_62 (by decide) ?_
            refine lv_istore (lv' := [(6, .int 1), (5, .int r1), (0, .int x0), (1, .int x1), (2, .int x2), (3, .int x3), (4, .int x4)]) hx hb dX10_areGood_66 hl (by decide) rfl (fun ls hl => ?_)
            refine lv_iload hx hb dX10_areGood_68 (lv_at hl 0 rfl) ?_
            refine lv_if_eq (tgt := 93) hx hb dX10_areGood_70 (by decide) (fun c24 => ?_) (fun c24 => ?_)
            · exfalso
              have ic24 := tn_eq kI_1 kI_0 c24
              omega
            · skip
              have ic24 := tn_ne kI_1 kI_0 c24
              refine lv_iload_n hx hb dX10_areGood_73 rfl (lv_at hl 2 rfl) ?_
              refine lv_iconst (v := 3) hx hb dX10_areGood_74 (by decide) ?_
              refine lv_icmp_ne (tgt := 89) hx hb dX10_areGood_75 (by decide) (fun c25 => ?_) (fun c25 => ?_)
              · skip
                have ic25 := tn_ne rfl kI_3 c25
                refine lv_iconst (v := 1) hx hb dX10_areGood_89 (by decide) ?_
                refine lv_goto (tgt := 94) hx hb dX10_areGood_90 (by decide) ?_
                exact tc_pret E hr hlk eH eL (t_nz (by decide) (by decide)).1 (show ((1 : Int32).toInt = 1 ∧ okG x0.toInt x1.toInt x2.toInt x3.toInt x4.toInt) ∨ ((1 : Int32).toInt = 0 ∧ ¬ okG x0.toInt x1.toInt x2.toInt x3.toInt x4.toInt) by have kk := kI_1; have hn := nNum_q x0.toInt; unfold okG MBe; omega) dX10_areGood_94
              · skip
                have ic25 := tn_eq rfl kI_3 c25
                refine lv_iload_n hx hb dX10_areGood_78 rfl (lv_at hl 3 rfl) ?_
                refine lv_iload_n hx hb dX10_areGood_79 rfl (lv_at hl 4 rfl) ?_
                refine lv_icmp_gt (tgt := 93) hx hb dX10_areGood_80 (by decide) (fun c26 => ?_) (fun c26 => ?_)
                · skip
                  have ic26 := tn_lt rfl rfl c26
                  refine lv_iconst (v := 0) hx hb dX10_areGood_93 (by decide) ?_
                  exact tc_pret E hr hlk eH eL (t_nz (by decide) (by decide)).1 (show ((0 : Int32).toInt = 1 ∧ okG x0.toInt x1.toInt x2.toInt x3.toInt x4.toInt) ∨ ((0 : Int32).toInt = 0 ∧ ¬ okG x0.toInt x1.toInt x2.toInt x3.toInt x4.toInt) by have kk := kI_0; have hn := nNum_q x0.toInt; unfold okG MBe; omega) dX10_areGood_94
                · skip
                  have ic26 := tn_nlt rfl rfl c26
                  refine lv_iload_n hx hb dX10_areGood_83 rfl (lv_at hl 5 rfl) ?_
                  refine lv_iload hx hb dX10_areGood_84 (lv_at hl 6 rfl) ?_
                  refine lv_icmp_gt (tgt := 93) hx hb dX10_areGood_86 (by decide) (fun c27 => ?_) (fun c27 => ?_)
                  · skip
                    have ic27 := tn_lt rfl rfl c27
                    refine lv_iconst (v := 0) hx hb dX10_areGood_93 (by decide) ?_
                    exact tc_pret E hr hlk eH eL (t_nz (by decide) (by decide)).1 (show ((0 : Int32).toInt = 1 ∧ okG x0.toInt x1.toInt x2.toInt x3.toInt x4.toInt) ∨ ((0 : Int32).toInt = 0 ∧ ¬ okG x0.toInt x1.toInt x2.toInt x3.toInt x4.toInt) by have kk := kI_0; have hn := nNum_q x0.toInt; unfold okG MBe; omega) dX10_areGood_94
                  · skip
                    have ic27 := tn_nlt rfl rfl c27
                    refine lv_iconst (v := 1) hx hb dX10_areGood_89 (by decide) ?_
                    refine lv_goto (tgt := 94) hx hb dX10_areGood_90 (by decide) ?_
                    exact tc_pret E hr hlk eH eL (t_nz (by decide) (by decide)).1 (show ((1 : Int32).toInt = 1 ∧ okG x0.toInt x1.toInt x2.toInt x3.toInt x4.toInt) ∨ ((1 : Int32).toInt = 0 ∧ ¬ okG x0.toInt x1.toInt x2.toInt x3.toInt x4.toInt) by have kk := kI_1; have hn := nNum_q x0.toInt; unfold okG MBe; omega) dX10_areGood_94
          · skip
            have ic23 := tn_nlt rfl kI_3 c23
            refine lv_iload_n hx hb dX10_areGood_42 rfl (lv_at hl 1 rfl) ?_
            refine lv_iconst (v := 2) hx hb dX10_areGood_43 (by decide) ?_
            refine lv_iload_n hx hb dX10_areGood_44 rfl (lv_at hl 4 rfl) ?_
            refine tc_callp (mc_runS (As := [.int x0, .int 2, .int x3]) (rest := []) E hG (x_X10_mayBe l G Y x0 (2 : Int32) x3) ks_X10_mayBe ml_X10_120 ⟨rfl, rfl, Nat.le_of_ble_eq_true rfl, Nat.le_of_ble_eq_true rfl⟩ rfl hl.1 rfl (Nat.le_of_ble_eq_true rfl) ⟨Nat.zero_le _, Nat.zero_le _⟩ dX10_areGood_45) (fun r28 pr28 => ?_)
            replace pr28 : r28.toInt = iMB x0.toInt (2 : Int32).toInt x3.toInt := pr28
            rw [kI_2] at pr28
            have br28 := iMB_b pr28
            have k29 := kI_2
            refine lv_if_eq (tgt := 65) hx hb dX10_areGood_48 (by decide) (fun c30 => ?_) (fun c30 => ?_)
            · skip
              have ic30 := tn_eq rfl kI_0 c30
              refine lv_iconst (v := 0) hx hb dX10_areGood_65 (by decide) ?_
              refine lv_istore (lv' := [(6, .int 0), (5, .int r1), (0, .int x0), (1, .int x1), (2, .int x2), (3, .int x3), (4, .int x4)]) hx hb dX10_areGood_66 hl (by decide) rfl (fun ls hl => ?_)
              refine lv_iload hx hb dX10_areGood_68 (lv_at hl 0 rfl) ?_
              refine lv_if_eq (tgt := 93) hx hb dX10_areGood_70 (by decide) (fun c31 => ?_) (fun c31 => ?_)
              · skip
                have ic31 := tn_eq kI_0 kI_0 c31
                refine lv_iconst (v := 0) hx hb dX10_areGood_93 (by decide) ?_
                exact tc_pret E hr hlk eH eL (t_nz (by decide) (by decide)).1 (show ((0 : Int32).toInt = 1 ∧ okG x0.toInt x1.toInt x2.toInt x3.toInt x4.toInt) ∨ ((0 : Int32).toInt = 0 ∧ ¬ okG x0.toInt x1.toInt x2.toInt x3.toInt x4.toInt) by have kk := kI_0; have hn := nNum_q x0.toInt; unfold okG MBe; omega) dX10_areGood_94
              · exfalso
                have ic31 := tn_ne kI_0 kI_0 c31
                omega
            · skip
              have ic30 := tn_ne rfl kI_0 c30
              refine lv_iload_n hx hb dX10_areGood_51 rfl (lv_at hl 1 rfl) ?_
              refine lv_iconst (v := 3) hx hb dX10_areGood_52 (by decide) ?_
              refine lv_iload hx hb dX10_areGood_53 (lv_at hl 5 rfl) ?_
              refine tc_callp (mc_runS (As := [.int x0, .int 3, .int x4]) (rest := []) E hG (x_X10_mayBe l G Y x0 (3 : Int32) x4) ks_X10_mayBe ml_X10_120 ⟨rfl, rfl, Nat.le_of_ble_eq_true rfl, Nat.le_of_ble_eq_true rfl⟩ rfl hl.1 rfl (Nat.le_of_ble_eq_true rfl) ⟨Nat.zero_le _, Nat.zero_le _⟩ dX10_areGood_55) (fun r32 pr32 => ?_)
              replace pr32 : r32.toInt = iMB x0.toInt (3 : Int32).toInt x4.toInt := pr32
              rw [kI_3] at pr32
              have br32 := iMB_b pr32
              have k33 := kI_3
              refine lv_if_eq (tgt := 65) hx hb dX10_areGood_58 (by decide) (fun c34 => ?_) (fun c34 => ?_)
              · skip
                have ic34 := tn_eq rfl kI_0 c34
                refine lv_iconst (v := 0) hx hb dX10_areGood_65 (by decide) ?_
                refine lv_istore (lv' := [(6, .int 0), (5, .int r1), (0, .int x0), (1, .int x1), (2, .int x2), (3, .int x3), (4, .int x4)]) hx hb dX10_areGood_66 hl (by decide) rfl (fun ls hl => ?_)
                refine lv_iload hx hb dX10_areGood_68 (lv_at hl 0 rfl) ?_
                refine lv_if_eq (tgt := 93) hx hb dX10_areGood_70 (by decide) (fun c35 => ?_) (fun c35 => ?_)
                · skip
                  have ic35 := tn_eq kI_0 kI_0 c35
                  refine lv_iconst (v := 0) hx hb dX10_areGood_93 (by decide) ?_
                  exact tc_pret E hr hlk eH eL (t_nz (by decide) (by decide)).1 (show ((0 : Int32).toInt = 1 ∧ okG x0.toInt x1.toInt x2.toInt x3.toInt x4.toInt) ∨ ((0 : Int32).toInt = 0 ∧ ¬ okG x0.toInt x1.toInt x2.toInt x3.toInt x4.toInt) by have kk := kI_0; have hn := nNum_q x0.toInt; unfold okG MBe; omega) dX10_areGood_94
                · exfalso
                  have ic35 := tn_ne kI_0 kI_0 c35
                  omega
              · skip
                have ic34 := tn_ne rfl kI_0 c34
                refine lv_iconst (v := 1) hx hb dX10_areGood_61 (by decide) ?_
                refine lv_goto (tgt := 66) hx hb dX10_areGood_62 (by decide) ?_
                refine lv_istore (lv' := [(6, .int 1), (5, .int r1), (0, .int x0), (1, .int x1), (2, .int x2), (3, .int x3), (4, .int x4)]) hx hb dX10_areGood_66 hl (by decide) rfl (fun ls hl => ?_)
                refine lv_iload hx hb dX10_areGood_68 (lv_at hl 0 rfl) ?_
                refine lv_if_eq (tgt := 93) hx hb dX10_areGood_70 (by decide) (fun c36 => ?_) (fun c36 => ?_)
                · exfalso
                  have ic36 := tn_eq kI_1 kI_0 c36
                  omega
                · skip
                  have ic36 := tn_ne kI_1 kI_0 c36
                  refine lv_iload_n hx hb dX10_areGood_73 rfl (lv_at hl 2 rfl) ?_
                  refine lv_iconst (v := 3) hx hb dX10_areGood_74 (by decide) ?_
                  refine lv_icmp_ne (tgt := 89) hx hb dX10_areGood_75 (by decide) (fun c37 => ?_) (fun c37 => ?_)
                  · skip
                    have ic37 := tn_ne rfl kI_3 c37
                    refine lv_iconst (v := 1) hx hb dX10_areGood_89 (by decide) ?_
                    refine lv_goto (tgt := 94) hx hb dX10_areGood_90 (by decide) ?_
                    exact tc_pret E hr hlk eH eL (t_nz (by decide) (by decide)).1 (show ((1 : Int32).toInt = 1 ∧ okG x0.toInt x1.toInt x2.toInt x3.toInt x4.toInt) ∨ ((1 : Int32).toInt = 0 ∧ ¬ okG x0.toInt x1.toInt x2.toInt x3.toInt x4.toInt) by have kk := kI_1; have hn := nNum_q x0.toInt; unfold okG MBe; omega) dX10_areGood_94
                  · skip
                    have ic37 := tn_eq rfl kI_3 c37
                    refine lv_iload_n hx hb dX10_areGood_78 rfl (lv_at hl 3 rfl) ?_
                    refine lv_iload_n hx hb dX10_areGood_79 rfl (lv_at hl 4 rfl) ?_
                    refine lv_icmp_gt (tgt := 93) hx hb dX10_areGood_80 (by decide) (fun c38 => ?_) (fun c38 => ?_)
                    · skip
                      have ic38 := tn_lt rfl rfl c38
                      refine lv_iconst (v := 0) hx hb dX10_areGood_93 (by decide) ?_
                      exact tc_pret E hr hlk eH eL (t_nz (by decide) (by decide)).1 (show ((0 : Int32).toInt = 1 ∧ okG x0.toInt x1.toInt x2.toInt x3.toInt x4.toInt) ∨ ((0 : Int32).toInt = 0 ∧ ¬ okG x0.toInt x1.toInt x2.toInt x3.toInt x4.toInt) by have kk := kI_0; have hn := nNum_q x0.toInt; unfold okG MBe; omega) dX10_areGood_94
                    · skip
                      have ic38 := tn_nlt rfl rfl c38
                      refine lv_iload_n hx hb dX10_areGood_83 rfl (lv_at hl 5 rfl) ?_
                      refine lv_iload hx hb dX10_areGood_84 (lv_at hl 6 rfl) ?_
                      refine lv_icmp_gt (tgt := 93) hx hb dX10_areGood_86 (by decide) (fun c39 => ?_) (fun c39 => ?_)
                      · skip
                        have ic39 := tn_lt rfl rfl c39
                        refine lv_iconst (v := 0) hx hb dX10_areGood_93 (by decide) ?_
                        exact tc_pret E hr hlk eH eL (t_nz (by decide) (by decide)).1 (show ((0 : Int32).toInt = 1 ∧ okG x0.toInt x1.toInt x2.toInt x3.toInt x4.toInt) ∨ ((0 : Int32).toInt = 0 ∧ ¬ okG x0.toInt x1.toInt x2.toInt x3.toInt x4.toInt) by have kk := kI_0; have hn := nNum_q x0.toInt; unfold okG MBe; omega) dX10_areGood_94
                      · skip
                        have ic39 := tn_nlt rfl rfl c39
                        refine lv_iconst (v := 1) hx hb dX10_areGood_89 (by decide) ?_
                        refine lv_goto (tgt := 94) hx hb dX10_areGood_90 (by decide) ?_
                        exact tc_pret E hr hlk eH eL (t_nz (by decide) (by decide)).1 (show ((1 : Int32).toInt = 1 ∧ okG x0.toInt x1.toInt x2.toInt x3.toInt x4.toInt) ∨ ((1 : Int32).toInt = 0 ∧ ¬ okG x0.toInt x1.toInt x2.toInt x3.toInt x4.toInt) by have kk := kI_1; have hn := nNum_q x0.toInt; unfold okG MBe; omega) dX10_areGood_94

/-- b takes one more -/
def RMe (t : Nat → Int32) (b : Int) : Prop := (b < 0 ∧ (t 0).toInt < 0) ∨ (0 ≤ b ∧ ((2 ≤ K t b 1 ∧ K t b 1 < 7 ∧ K t b 10 < 1) ∨ (7 ≤ K t b 1 ∧ K t b 10 < 8)))
/-- the chain of who holds whom -/
def ip (t : Nat → Int32) : Nat → Int → Int
  | 0, b => b
  | n + 1, b => K t (ip t n b) 9
def In (t : Nat → Int32) (b x : Int) : Prop := ∃ n : Nat, ip t n b = x ∧ ∀ m : Nat, m < n → 0 ≤ ip t m b
def InG (t : Nat → Int32) (b x y : Int) : Prop := ∃ n : Nat, ip t n b = y ∧ ∀ m : Nat, m < n → 0 ≤ ip t m b ∧ ¬ ip t m b = x
theorem InG_0 {t : Nat → Int32} {b x : Int} : InG t b x b := ⟨0, rfl, fun m h => by omega⟩
theorem InG_s {t : Nat → Int32} {b x y z : Int} (h : InG t b x y) (h0 : 0 ≤ y) (h1 : ¬ y = x) (e : z = K t y 9) : InG t b x z := by
  obtain ⟨n, e1, h2⟩ := h
  refine ⟨n + 1, by show K t (ip t n b) 9 = z; rw [e1, e], fun m hm => ?_⟩
  by_cases q : m = n
  · rw [q, e1]; exact ⟨h0, h1⟩
  · exact h2 m (by omega)
theorem InG_in {t : Nat → Int32} {b x : Int} (h : InG t b x x) : In t b x := by
  obtain ⟨n, e1, h2⟩ := h
  exact ⟨n, e1, fun m hm => (h2 m hm).1⟩
theorem In_ne {t : Nat → Int32} {b x : Int} (h : ¬ In t b x) : ¬ b = x := fun q => h ⟨0, q, fun m hm => by omega⟩
theorem InG_no {t : Nat → Int32} {b x y : Int} (h : InG t b x y) (hy : y < 0) (hx : 0 ≤ x) : ¬ In t b x := by
  obtain ⟨n, e1, h2⟩ := h
  rintro ⟨k, e2, h3⟩
  rcases Nat.lt_trichotomy k n with q | q | q
  · exact (h2 k q).2 e2
  · rw [q] at e2; omega
  · have := h3 n q; omega
set_option maxHeartbeats 4000000 in
set_option maxRecDepth 100000 in
theorem x_X10_isRoom (l : Launch) (G : tG) (Y : mY) (h0 : Nat) (x1 : Int32) (t0 : Y.1 h0 = 1) (l1 : -1 ≤ x1.toInt) (u1 : x1.toInt ≤ 23) (t : Nat → Int32) (hT : TI Y t) (hI : TInv t) : Met l yX10_isRoom (.code yX10_isRoom cX10_isRoom 2 (some .boolean) :: tWS) (tRm 2 43) (va_Pc [.ref h0, .int x1] (mPre G Y)) (tQp (fun r => (r.toInt = 1 ∧ RMe t x1.toInt) ∨ (r.toInt = 0 ∧ ¬ RMe t x1.toInt))) 0 0 tNo := by
  refine mc_met (by decide) (Nat.le_of_ble_eq_true rfl) ?_
  intro p e s m below meth c E hr hlk hG ls hl
  have hl : lv_has ls 2 [(0, .ref h0), (1, .int x1)] := hl
  have hx := E.1
  have hb := E.2.1
  obtain ⟨H, eH⟩ : ∃ H, H = s.heap := ⟨_, rfl⟩
  obtain ⟨locs, eL⟩ : ∃ x : List Loc, x = [] := ⟨_, rfl⟩
  have hG : mGH G Y s H locs := by rw [eH, eL]; exact hG
  suffices hW : W p l e (tRm 2 43) s m ([.ref h0, .int x1] : List Value).toArray below meth c H locs 0 0 (MQ below (tQp (fun r => (r.toInt = 1 ∧ RMe t x1.toInt) ∨ (r.toInt = 0 ∧ ¬ RMe t x1.toInt))) ([.ref h0, .int x1] : List Value).toArray s 0 0 tNo) (F0 m 0 ls []) by subst eH; subst eL; exact hW
  refine lv_iload_n hx hb dX10_isRoom_0 rfl (lv_at hl 1 rfl) ?_
  refine lv_if_ge (tgt := 21) hx hb dX10_isRoom_1 (by decide) (fun c1 => ?_) (fun c1 => ?_)
  · skip
    have ic1 := tn_le kI_0 rfl c1
    refine lv_aload_n hx hb dX10_isRoom_21 rfl (lv_at hl 0 rfl) ?_
    refine lv_iload_n hx hb dX10_isRoom_22 rfl (lv_at hl 1 rfl) ?_
    refine tc_callp (mc_runV (As := [.int x1]) (rest := []) E hG (c_X10_manyOf l G Y h0 x1 t0 (by omega) (by omega)) t0 rfl kv_X10_manyOf ml_X10_117 ⟨rfl, rfl, Nat.le_of_ble_eq_true rfl, Nat.le_of_ble_eq_true rfl⟩ rfl hl.1 rfl (Nat.le_of_ble_eq_true rfl) ⟨Nat.zero_le _, Nat.zero_le _⟩ dX10_isRoom_23) (fun r2 pr2 => ?_)
    replace pr2 : mV Y (ix x1.toInt 10) r2 := pr2
    have br2 := mV_10 pr2 (by omega)
    have cr2 := mT pr2 hT (by omega) (by omega) (by decide) (by decide)
    refine lv_aload_n hx hb dX10_isRoom_26 rfl (lv_at hl 0 rfl) ?_
    refine lv_iload_n hx hb dX10_isRoom_27 rfl (lv_at hl 1 rfl) ?_
    refine lv_iconst (v := 1) hx hb dX10_isRoom_28 (by decide) ?_
    refine tc_callp (mc_runV (As := [.int x1, .int 1]) (rest := [.int r2]) E hG (c_X10_get l G Y h0 x1 (1 : Int32) t0 (by omega) (by omega) (by decide) (by decide)) t0 rfl kv_X10_get ml_X10_91 ⟨rfl, rfl, Nat.le_of_ble_eq_true rfl, Nat.le_of_ble_eq_true rfl⟩ rfl hl.1 rfl (Nat.le_of_ble_eq_true rfl) ⟨Nat.zero_le _, Nat.zero_le _⟩ dX10_isRoom_29) (fun r3 pr3 => ?_)
    replace pr3 : mV Y (ix x1.toInt (1 : Int32).toInt) r3 := pr3
    have pr3 := mV_l pr3 kI_1
    have br3 := mV_1 pr3 (by omega)
    have cr3 := mT pr3 hT (by omega) (by omega) (by decide) (by decide)
    have k4 := kI_1
    refine tc_callp (mc_runS (As := [.int r3]) (rest := [.int r2]) E hG (x_X10_takes l G Y r3) ks_X10_takes ml_X10_124 ⟨rfl, rfl, Nat.le_of_ble_eq_true rfl, Nat.le_of_ble_eq_true rfl⟩ rfl hl.1 rfl (Nat.le_of_ble_eq_true rfl) ⟨Nat.zero_le _, Nat.zero_le _⟩ dX10_isRoom_32) (fun r5 pr5 => ?_)
    replace pr5 : (r3.toInt < 2 ∧ r5.toInt = 0) ∨ (2 ≤ r3.toInt ∧ r3.toInt < 7 ∧ r5.toInt = 1) ∨ (7 ≤ r3.toInt ∧ r5.toInt = 8) := pr5
    refine lv_icmp_ge (tgt := 42) hx hb dX10_isRoom_35 (by decide) (fun c6 => ?_) (fun c6 => ?_)
    · skip
      have ic6 := tn_le rfl rfl c6
      refine lv_iconst (v := 0) hx hb dX10_isRoom_42 (by decide) ?_
      exact tc_pret E hr hlk eH eL (t_nz (by decide) (by decide)).1 (show ((0 : Int32).toInt = 1 ∧ RMe t x1.toInt) ∨ ((0 : Int32).toInt = 0 ∧ ¬ RMe t x1.toInt) by have kk := kI_0; unfold RMe; omega) dX10_isRoom_43
    · skip
      have ic6 := tn_nle rfl rfl c6
      refine lv_iconst (v := 1) hx hb dX10_isRoom_38 (by decide) ?_
      refine lv_goto (tgt := 43) hx hb dX10_isRoom_39 (by decide) ?_
      exact tc_pret E hr hlk eH eL (t_nz (by decide) (by decide)).1 (show ((1 : Int32).toInt = 1 ∧ RMe t x1.toInt) ∨ ((1 : Int32).toInt = 0 ∧ ¬ RMe t x1.toInt) by have kk := kI_1; unfold RMe; omega) dX10_isRoom_43
  · skip
    have ic1 := tn_nle kI_0 rfl c1
    refine lv_aload_n hx hb dX10_isRoom_4 rfl (lv_at hl 0 rfl) ?_
    refine mc_getn E hG t0 ff_X10_9 dX10_isRoom_5 (fun oa7 hoa7 => ?_)
    refine lv_iconst (v := 0) hx hb dX10_isRoom_8 (by decide) ?_
    refine mc_nald E hG hoa7 hG.2.2.1 (t_in (by decide) (by decide)) dX10_isRoom_9 (fun z8 lz8 uz8 qz8 => ?_)
    have lz8 : -1 ≤ z8.toInt := lz8
    have uz8 : z8.toInt ≤ 23 := uz8
    have wz8 : z8.toInt = (t 0).toInt := by rw [qz8 _ hT.1]
    refine lv_if_ge (tgt := 17) hx hb dX10_isRoom_10 (by decide) (fun c9 => ?_) (fun c9 => ?_)
    · skip
      have ic9 := tn_le kI_0 rfl c9
      refine lv_iconst (v := 0) hx hb dX10_isRoom_17 (by decide) ?_
      refine lv_goto (tgt := 43) hx hb dX10_isRoom_18 (by decide) ?_
      exact tc_pret E hr hlk eH eL (t_nz (by decide) (by decide)).1 (show ((0 : Int32).toInt = 1 ∧ RMe t x1.toInt) ∨ ((0 : Int32).toInt = 0 ∧ ¬ RMe t x1.toInt) by have kk := kI_0; unfold RMe; omega) dX10_isRoom_43
    · skip
      have ic9 := tn_nle kI_0 rfl c9
      refine lv_iconst (v := 1) hx hb dX10_isRoom_13 (by decide) ?_
      refine lv_goto (tgt := 43) hx hb dX10_isRoom_14 (by decide) ?_
      exact tc_pret E hr hlk eH eL (t_nz (by decide) (by decide)).1 (show ((1 : Int32).toInt = 1 ∧ RMe t x1.toInt) ∨ ((1 : Int32).toInt = 0 ∧ ¬ RMe t x1.toInt) by have kk := kI_1; unfold RMe; omega) dX10_isRoom_43

set_option maxHeartbeats 4000000 in
set_option maxRecDepth 100000 in
theorem x_X10_isIn (l : Launch) (G : tG) (Y : mY) (h0 : Nat) (x1 : Int32) (x2 : Int32) (t0 : Y.1 h0 = 1) (l1 : 0 ≤ x1.toInt) (u1 : x1.toInt ≤ 23) (l2 : 0 ≤ x2.toInt) (u2 : x2.toInt ≤ 23) (t : Nat → Int32) (hT : TI Y t) (hI : TW t) (hc : x1.toInt < (t 3).toInt) : Met l yX10_isIn (.code yX10_isIn cX10_isIn 4 (some .boolean) :: tWS) (tRm 1 22) (va_Pc [.ref h0, .int x1, .int x2] (mPre G Y)) (tQp (fun r => (r.toInt = 1 ∧ In t x1.toInt x2.toInt) ∨ (r.toInt = 0 ∧ ¬ In t x1.toInt x2.toInt ∧ ¬ x1.toInt = x2.toInt))) 0 0 tNo := by
  refine mc_met (by decide) (Nat.le_of_ble_eq_true rfl) ?_
  intro p e s m below meth c E hr hlk hG ls hl
  have hl : lv_has ls 4 [(0, .ref h0), (1, .int x1), (2, .int x2)] := hl
  have hx := E.1
  have hb := E.2.1
  obtain ⟨H, eH⟩ : ∃ H, H = s.heap := ⟨_, rfl⟩
  obtain ⟨locs, eL⟩ : ∃ x : List Loc, x = [] := ⟨_, rfl⟩
  have hG : mGH G Y s H locs := by rw [eH, eL]; exact hG
  suffices hW : W p l e (tRm 1 22) s m ([.ref h0, .int x1, .int x2] : List Value).toArray below meth c H locs 0 0 (MQ below (tQp (fun r => (r.toInt = 1 ∧ In t x1.toInt x2.toInt) ∨ (r.toInt = 0 ∧ ¬ In t x1.toInt x2.toInt ∧ ¬ x1.toInt = x2.toInt))) ([.ref h0, .int x1, .int x2] : List Value).toArray s 0 0 tNo) (F0 m 0 ls []) by subst eH; subst eL; exact hW
  have J2 : ∀ (n2 : Nat) (ls : Array Slot) (v3 : Int32), lv_has ls 4 [(0, .ref h0), (2, .int x2), (3, .int v3)] → -1 ≤ v3.toInt → v3.toInt ≤ 23 → (v3.toInt < (t 3).toInt ∧ InG t x1.toInt x2.toInt v3.toInt) → (v3.toInt + 1).toNat < n2 → W p l e (tRm 1 22) s m ([.ref h0, .int x1, .int x2] : List Value).toArray below meth c H locs 0 0 (MQ below (tQp (fun r => (r.toInt = 1 ∧ In t x1.toInt x2.toInt) ∨ (r.toInt = 0 ∧ ¬ In t x1.toInt x2.toInt ∧ ¬ x1.toInt = x2.toInt))) ([.ref h0, .int x1, .int x2] : List Value).toArray s 0 0 tNo) (F0 m 2 ls []) := by
    intro n2
    induction n2 with
    | zero => intro ls v3 hl b3 c3 hex2 hn2; exact absurd hn2 (Nat.not_lt_zero _)
    | succ n2 ih2 =>
      intro ls v3 hl b3 c3 hex2 hn2
      refine lv_iload_n hx hb dX10_isIn_2 rfl (lv_at hl 2 rfl) ?_
      refine lv_if_lt (tgt := 22) hx hb dX10_isIn_3 (by decide) (fun c1 => ?_) (fun c1 => ?_)
      · skip
        have ic1 := tn_lt rfl kI_0 c1
        refine lv_iload_n hx hb dX10_isIn_22 rfl (lv_at hl 2 rfl) ?_
        refine lv_iload_n hx hb dX10_isIn_23 rfl (lv_at hl 1 rfl) ?_
        refine lv_icmp_ne (tgt := 31) hx hb dX10_isIn_24 (by decide) (fun c2 => ?_) (fun c2 => ?_)
        · skip
          have ic2 := tn_ne rfl rfl c2
          refine lv_iconst (v := 0) hx hb dX10_isIn_31 (by decide) ?_
          exact tc_pret E hr hlk eH eL (t_nz (by decide) (by decide)).1 (show ((0 : Int32).toInt = 1 ∧ In t x1.toInt x2.toInt) ∨ ((0 : Int32).toInt = 0 ∧ ¬ In t x1.toInt x2.toInt ∧ ¬ x1.toInt = x2.toInt) by have kk := kI_0; first | exact Or.inr ⟨kk, InG_no hex2.2 (by omega) (by omega), In_ne (InG_no hex2.2 (by omega) (by omega))⟩ | exact Or.inl ⟨kk, InG_in (by have h := hex2.2; rw [show v3.toInt = x2.toInt by omega] at h; exact h)⟩ | (exfalso; omega)) dX10_isIn_32
        · exfalso
          have ic2 := tn_eq rfl rfl c2
          omega
      · skip
        have ic1 := tn_nlt rfl kI_0 c1
        refine lv_iload_n hx hb dX10_isIn_6 rfl (lv_at hl 2 rfl) ?_
        refine lv_iload_n hx hb dX10_isIn_7 rfl (lv_at hl 1 rfl) ?_
        refine lv_icmp_eq (tgt := 22) hx hb dX10_isIn_8 (by decide) (fun c3 => ?_) (fun c3 => ?_)
        · skip
          have ic3 := tn_eq rfl rfl c3
          refine lv_iload_n hx hb dX10_isIn_22 rfl (lv_at hl 2 rfl) ?_
          refine lv_iload_n hx hb dX10_isIn_23 rfl (lv_at hl 1 rfl) ?_
          refine lv_icmp_ne (tgt := 31) hx hb dX10_isIn_24 (by decide) (fun c4 => ?_) (fun c4 => ?_)
          · skip
            have ic4 := tn_ne rfl rfl c4
            refine lv_iconst (v := 0) hx hb dX10_isIn_31 (by decide) ?_
            exact tc_pret E hr hlk eH eL (t_nz (by decide) (by decide)).1 (show ((0 : Int32).toInt = 1 ∧ In t x1.toInt x2.toInt) ∨ ((0 : Int32).toInt = 0 ∧ ¬ In t x1.toInt x2.toInt ∧ ¬ x1.toInt = x2.toInt) by have kk := kI_0; first | exact Or.inr ⟨kk, InG_no hex2.2 (by omega) (by omega), In_ne (InG_no hex2.2 (by omega) (by omega))⟩ | exact Or.inl ⟨kk, InG_in (by have h := hex2.2; rw [show v3.toInt = x2.toInt by omega] at h; exact h)⟩ | (exfalso; omega)) dX10_isIn_32
          · skip
            have ic4 := tn_eq rfl rfl c4
            refine lv_iconst (v := 1) hx hb dX10_isIn_27 (by decide) ?_
            refine lv_goto (tgt := 32) hx hb dX10_isIn_28 (by decide) ?_
            exact tc_pret E hr hlk eH eL (t_nz (by decide) (by decide)).1 (show ((1 : Int32).toInt = 1 ∧ In t x1.toInt x2.toInt) ∨ ((1 : Int32).toInt = 0 ∧ ¬ In t x1.toInt x2.toInt ∧ ¬ x1.toInt = x2.toInt) by have kk := kI_1; first | exact Or.inr ⟨kk, InG_no hex2.2 (by omega) (by omega), In_ne (InG_no hex2.2 (by omega) (by omega))⟩ | exact Or.inl ⟨kk, InG_in (by have h := hex2.2; rw [show v3.toInt = x2.toInt by omega] at h; exact h)⟩ | (exfalso; omega)) dX10_isIn_32
        · skip
          have ic3 := tn_ne rfl rfl c3
          refine lv_aload_n hx hb dX10_isIn_11 rfl (lv_at hl 0 rfl) ?_
          refine lv_iload_n hx hb dX10_isIn_12 rfl (lv_at hl 2 rfl) ?_
          refine lv_bipush (v := 9) hx hb dX10_isIn_13 (by decide) ?_
          refine tc_callp (mc_runV (As := [.int v3, .int 9]) (rest := []) E hG (c_X10_get l G Y h0 v3 (9 : Int32) t0 (by omega) (by omega) (by decide) (by decide)) t0 rfl kv_X10_get ml_X10_91 ⟨rfl, rfl, Nat.le_of_ble_eq_true rfl, Nat.le_of_ble_eq_true rfl⟩ rfl hl.1 rfl (Nat.le_of_ble_eq_true rfl) ⟨Nat.zero_le _, Nat.zero_le _⟩ dX10_isIn_15) (fun r5 pr5 => ?_)
          replace pr5 : mV Y (ix v3.toInt (9 : Int32).toInt) r5 := pr5
          have pr5 := mV_l pr5 kI_9
          have br5 := mV_9 pr5 (by omega)
          have cr5 := mT pr5 hT (by omega) (by omega) (by decide) (by decide)
          have dr5 := mP9w cr5 hI (by omega)
          have k6 := kI_9
          refine lv_istore_n (lv' := [(3, .int r5), (0, .ref h0), (2, .int x2)]) hx hb dX10_isIn_18 rfl hl (by decide) rfl (fun ls hl => ?_)
          refine lv_goto (tgt := 2) hx hb dX10_isIn_19 (by decide) ?_
          exact ih2 ls r5 (lv_sub hl [1, 2, 0] rfl) (by omega) (by omega) (by first | exact ⟨by omega, InG_0⟩ | exact ⟨by omega, InG_s hex2.2 (by omega) (by omega) (by assumption)⟩) (by omega)
  refine lv_iload_n hx hb dX10_isIn_0 rfl (lv_at hl 1 rfl) ?_
  refine lv_istore_n (lv' := [(3, .int x1), (0, .ref h0), (1, .int x1), (2, .int x2)]) hx hb dX10_isIn_1 rfl hl (by decide) rfl (fun ls hl => ?_)
  exact J2 ((x1.toInt + 1).toNat + 1) ls x1 (lv_sub hl [1, 3, 0] rfl) (by omega) (by omega) (by first | exact ⟨by omega, InG_0⟩ | exact ⟨by omega, InG_s hex2.2 (by omega) (by omega) (by assumption)⟩) (Nat.lt_succ_self _)

set_option maxHeartbeats 4000000 in
set_option maxRecDepth 100000 in
theorem x_X10_child (l : Launch) (G : tG) (Y : mY) (h0 : Nat) (x1 : Int32) (x2 : Int32) (t0 : Y.1 h0 = 1) (t : Nat → Int32) (hT : TI Y t) (hI : TInv t) : Met l yX10_child (.code yX10_child cX10_child 3 (some .int) :: tWS) (tRm 2 46) (va_Pc [.ref h0, .int x1, .int x2] (mPre G Y)) (tQp (fun r => (((0 ≤ x1.toInt ∧ x1.toInt ≤ 23 ∧ K t x1.toInt 0 = 1) ∧ 0 ≤ x2.toInt ∧ x2.toInt < K t x1.toInt 10) ∧ r.toInt = K t x1.toInt (11 + x2.toInt)) ∨ (¬ ((0 ≤ x1.toInt ∧ x1.toInt ≤ 23 ∧ K t x1.toInt 0 = 1) ∧ 0 ≤ x2.toInt ∧ x2.toInt < K t x1.toInt 10) ∧ r = -1))) 0 0 tNo := by
  refine mc_met (by decide) (Nat.le_of_ble_eq_true rfl) ?_
  intro p e s m below meth c E hr hlk hG ls hl
  have hl : lv_has ls 3 [(0, .ref h0), (1, .int x1), (2, .int x2)] := hl
  have hx := E.1
  have hb := E.2.1
  obtain ⟨H, eH⟩ : ∃ H, H = s.heap := ⟨_, rfl⟩
  obtain ⟨locs, eL⟩ : ∃ x : List Loc, x = [] := ⟨_, rfl⟩
  have hG : mGH G Y s H locs := by rw [eH, eL]; exact hG
  suffices hW : W p l e (tRm 2 46) s m ([.ref h0, .int x1, .int x2] : List Value).toArray below meth c H locs 0 0 (MQ below (tQp (fun r => (((0 ≤ x1.toInt ∧ x1.toInt ≤ 23 ∧ K t x1.toInt 0 = 1) ∧ 0 ≤ x2.toInt ∧ x2.toInt < K t x1.toInt 10) ∧ r.toInt = K t x1.toInt (11 + x2.toInt)) ∨ (¬ ((0 ≤ x1.toInt ∧ x1.toInt ≤ 23 ∧ K t x1.toInt 0 = 1) ∧ 0 ≤ x2.toInt ∧ x2.toInt < K t x1.toInt 10) ∧ r = -1))) ([.ref h0, .int x1, .int x2] : List Value).toArray s 0 0 tNo) (F0 m 0 ls []) by subst eH; subst eL; exact hW
  refine lv_aload_n hx hb dX10_child_0 rfl (lv_at hl 0 rfl) ?_
  refine lv_iload_n hx hb dX10_child_1 rfl (lv_at hl 1 rfl) ?_
  refine tc_callp (mc_runV (As := [.int x1]) (rest := []) E hG (c_X10_isBox l G Y h0 x1 t0) t0 rfl kv_X10_isBox ml_X10_127 ⟨rfl, rfl, Nat.le_of_ble_eq_true rfl, Nat.le_of_ble_eq_true rfl⟩ rfl hl.1 rfl (Nat.le_of_ble_eq_true rfl) ⟨Nat.zero_le _, Nat.zero_le _⟩ dX10_child_2) (fun r1 pr1 => ?_)
  replace pr1 : (r1.toInt = 1 ∧ 0 ≤ x1.toInt ∧ x1.toInt ≤ 23 ∧ mV Y (ix x1.toInt 0) 1) ∨ (r1.toInt = 0 ∧ (x1.toInt < 0 ∨ 23 < x1.toInt ∨ ∃ v : Int32, ¬ v.toInt = 1 ∧ mV Y (ix x1.toInt 0) v)) := pr1
  have cr1 := mB pr1 hT hI
  clear pr1
  refine lv_if_eq (tgt := 34) hx hb dX10_child_5 (by decide) (fun c2 => ?_) (fun c2 => ?_)
  · skip
    have ic2 := tn_eq rfl kI_0 c2
    refine lv_iconst (v := -1) hx hb dX10_child_34 (by decide) ?_
    exact tc_pret E hr hlk eH eL rfl (show (((0 ≤ x1.toInt ∧ x1.toInt ≤ 23 ∧ K t x1.toInt 0 = 1) ∧ 0 ≤ x2.toInt ∧ x2.toInt < K t x1.toInt 10) ∧ (-1 : Int32).toInt = K t x1.toInt (11 + x2.toInt)) ∨ (¬ ((0 ≤ x1.toInt ∧ x1.toInt ≤ 23 ∧ K t x1.toInt 0 = 1) ∧ 0 ≤ x2.toInt ∧ x2.toInt < K t x1.toInt 10) ∧ (-1 : Int32) = -1) by have kk := kI_m1; first | exact Or.inr ⟨by omega, rfl⟩ | exact Or.inl ⟨by omega, by assumption⟩) dX10_child_35
  · skip
    have ic2 := tn_ne rfl kI_0 c2
    refine lv_iload_n hx hb dX10_child_8 rfl (lv_at hl 2 rfl) ?_
    refine lv_i2l hx hb dX10_child_9 rfl ?_
    refine lv_topl (fun z3 ez3 => ?_)
    have tz3 := tl_i2l ez3
    refine lv_lconst (v := 0) hx hb dX10_child_10 (by decide) ?_
    refine lv_topl (fun z4 ez4 => ?_)
    have tz4 : z4.toInt = 0 := by rw [ez4]; decide
    refine lv_aload_n hx hb dX10_child_11 rfl (lv_at hl 0 rfl) ?_
    refine lv_iload_n hx hb dX10_child_12 rfl (lv_at hl 1 rfl) ?_
    refine tc_callp (mc_runV (As := [.int x1]) (rest := [.long z4, .long z3]) E hG (c_X10_manyOf l G Y h0 x1 t0 (by omega) (by omega)) t0 rfl kv_X10_manyOf ml_X10_117 ⟨rfl, rfl, Nat.le_of_ble_eq_true rfl, Nat.le_of_ble_eq_true rfl⟩ rfl hl.1 rfl (Nat.le_of_ble_eq_true rfl) ⟨Nat.zero_le _, Nat.zero_le _⟩ dX10_child_13) (fun r5 pr5 => ?_)
    replace pr5 : mV Y (ix x1.toInt 10) r5 := pr5
    have br5 := mV_10 pr5 (by omega)
    have cr5 := mT pr5 hT (by omega) (by omega) (by decide) (by decide)
    refine lv_iconst (v := 1) hx hb dX10_child_16 (by decide) ?_
    refine lv_isub hx hb dX10_child_17 ?_
    refine lv_topi (fun z6 ez6 => ?_)
    have tz6 := tn_sub ez6 rfl kI_1 (by omega) (by omega)
    refine lv_i2l hx hb dX10_child_18 rfl ?_
    refine lv_topl (fun z7 ez7 => ?_)
    have tz7 := tl_i2l ez7
    refine tc_callp (mc_runS (As := [.long z3, .long z4, .long z7]) (rest := []) E hG (c_X10_in l G Y z3 z4 z7) ks_X10_in ml_X10_87 ⟨rfl, rfl, Nat.le_of_ble_eq_true rfl, Nat.le_of_ble_eq_true rfl⟩ rfl hl.1 rfl (Nat.le_of_ble_eq_true rfl) ⟨Nat.zero_le _, Nat.zero_le _⟩ dX10_child_19) (fun r8 pr8 => ?_)
    replace pr8 : ((r8.toInt = 1 ∧ z4.toInt ≤ z3.toInt ∧ z3.toInt ≤ z7.toInt) ∨ (r8.toInt = 0 ∧ (z3.toInt < z4.toInt ∨ z7.toInt < z3.toInt))) := pr8
    refine lv_if_eq (tgt := 34) hx hb dX10_child_22 (by decide) (fun c9 => ?_) (fun c9 => ?_)
    · skip
      have ic9 := tn_eq rfl kI_0 c9
      refine lv_iconst (v := -1) hx hb dX10_child_34 (by decide) ?_
      exact tc_pret E hr hlk eH eL rfl (show (((0 ≤ x1.toInt ∧ x1.toInt ≤ 23 ∧ K t x1.toInt 0 = 1) ∧ 0 ≤ x2.toInt ∧ x2.toInt < K t x1.toInt 10) ∧ (-1 : Int32).toInt = K t x1.toInt (11 + x2.toInt)) ∨ (¬ ((0 ≤ x1.toInt ∧ x1.toInt ≤ 23 ∧ K t x1.toInt 0 = 1) ∧ 0 ≤ x2.toInt ∧ x2.toInt < K t x1.toInt 10) ∧ (-1 : Int32) = -1) by have kk := kI_m1; first | exact Or.inr ⟨by omega, rfl⟩ | exact Or.inl ⟨by omega, by assumption⟩) dX10_child_35
    · skip
      have ic9 := tn_ne rfl kI_0 c9
      refine lv_aload_n hx hb dX10_child_25 rfl (lv_at hl 0 rfl) ?_
      refine lv_iload_n hx hb dX10_child_26 rfl (lv_at hl 1 rfl) ?_
      refine lv_iload_n hx hb dX10_child_27 rfl (lv_at hl 2 rfl) ?_
      refine tc_callp (mc_runV (As := [.int x1, .int x2]) (rest := []) E hG (c_X10_childOf l G Y h0 x1 x2 t0 (by omega) (by omega) (by omega) (by omega)) t0 rfl kv_X10_childOf ml_X10_153 ⟨rfl, rfl, Nat.le_of_ble_eq_true rfl, Nat.le_of_ble_eq_true rfl⟩ rfl hl.1 rfl (Nat.le_of_ble_eq_true rfl) ⟨Nat.zero_le _, Nat.zero_le _⟩ dX10_child_28) (fun r10 pr10 => ?_)
      replace pr10 : mV Y (ix x1.toInt (11 + x2.toInt)) r10 := pr10
      have br10 := mV_r 11 18 0 23 pr10 (by omega) (by omega) (by omega) (by decide) (by decide)
      have cr10 := mT pr10 hT (by omega) (by omega) (by omega) (by omega)
      have dr10 := mP11 cr10 hI (by omega) (by omega) (by omega)
      refine lv_goto (tgt := 35) hx hb dX10_child_31 (by decide) ?_
      exact tc_pret E hr hlk eH eL rfl (show (((0 ≤ x1.toInt ∧ x1.toInt ≤ 23 ∧ K t x1.toInt 0 = 1) ∧ 0 ≤ x2.toInt ∧ x2.toInt < K t x1.toInt 10) ∧ r10.toInt = K t x1.toInt (11 + x2.toInt)) ∨ (¬ ((0 ≤ x1.toInt ∧ x1.toInt ≤ 23 ∧ K t x1.toInt 0 = 1) ∧ 0 ≤ x2.toInt ∧ x2.toInt < K t x1.toInt 10) ∧ r10 = -1) by first | exact Or.inr ⟨by omega, rfl⟩ | exact Or.inl ⟨by omega, by assumption⟩) dX10_child_35

set_option maxHeartbeats 4000000 in
set_option maxRecDepth 100000 in
theorem x_X10_taken (l : Launch) (G : tG) (Y : mY) (h0 : Nat) (x1 : Int32) (x2 : Int32) (t0 : Y.1 h0 = 1) (t : Nat → Int32) (hT : TI Y t) (hI : TInv t) : Met l yX10_taken (.code yX10_taken cX10_taken 5 (some .int) :: tWS) (tRm 2 46) (va_Pc [.ref h0, .int x1, .int x2] (mPre G Y)) (tQp (fun r => (¬ (0 ≤ x2.toInt ∧ x2.toInt ≤ 9) ∧ r.toInt = -2) ∨ ((0 ≤ x2.toInt ∧ x2.toInt ≤ 9) ∧ ¬ (0 ≤ x1.toInt ∧ x1.toInt ≤ 23 ∧ K t x1.toInt 0 = 1) ∧ r.toInt = -11) ∨ ((0 ≤ x2.toInt ∧ x2.toInt ≤ 9) ∧ (0 ≤ x1.toInt ∧ x1.toInt ≤ 23 ∧ K t x1.toInt 0 = 1) ∧ (K t x1.toInt 1 = x2.toInt ∨ (K t x1.toInt 1 = 9 ∧ x2.toInt = 8) ∨ (K t x1.toInt 1 = 5 ∧ x2.toInt = 4) ∨ (K t x1.toInt 1 = 3 ∧ x2.toInt = 2)) ∧ r.toInt = K t x1.toInt 1) ∨ ((0 ≤ x2.toInt ∧ x2.toInt ≤ 9) ∧ (0 ≤ x1.toInt ∧ x1.toInt ≤ 23 ∧ K t x1.toInt 0 = 1) ∧ ¬ (K t x1.toInt 1 = x2.toInt ∨ (K t x1.toInt 1 = 9 ∧ x2.toInt = 8) ∨ (K t x1.toInt 1 = 5 ∧ x2.toInt = 4) ∨ (K t x1.toInt 1 = 3 ∧ x2.toInt = 2)) ∧ r.toInt = -12))) 0 0 tNo := by
  refine mc_met (by decide) (Nat.le_of_ble_eq_true rfl) ?_
  intro p e s m below meth c E hr hlk hG ls hl
  have hl : lv_has ls 5 [(0, .ref h0), (1, .int x1), (2, .int x2)] := hl
  have hx := E.1
  have hb := E.2.1
  obtain ⟨H, eH⟩ : ∃ H, H = s.heap := ⟨_, rfl⟩
  obtain ⟨locs, eL⟩ : ∃ x : List Loc, x = [] := ⟨_, rfl⟩
  have hG : mGH G Y s H locs := by rw [eH, eL]; exact hG
  suffices hW : W p l e (tRm 2 46) s m ([.ref h0, .int x1, .int x2] : List Value).toArray below meth c H locs 0 0 (MQ below (tQp (fun r => (¬ (0 ≤ x2.toInt ∧ x2.toInt ≤ 9) ∧ r.toInt = -2) ∨ ((0 ≤ x2.toInt ∧ x2.toInt ≤ 9) ∧ ¬ (0 ≤ x1.toInt ∧ x1.toInt ≤ 23 ∧ K t x1.toInt 0 = 1) ∧ r.toInt = -11) ∨ ((0 ≤ x2.toInt ∧ x2.toInt ≤ 9) ∧ (0 ≤ x1.toInt ∧ x1.toInt ≤ 23 ∧ K t x1.toInt 0 = 1) ∧ (K t x1.toInt 1 = x2.toInt ∨ (K t x1.toInt 1 = 9 ∧ x2.toInt = 8) ∨ (K t x1.toInt 1 = 5 ∧ x2.toInt = 4) ∨ (K t x1.toInt 1 = 3 ∧ x2.toInt = 2)) ∧ r.toInt = K t x1.toInt 1) ∨ ((0 ≤ x2.toInt ∧ x2.toInt ≤ 9) ∧ (0 ≤ x1.toInt ∧ x1.toInt ≤ 23 ∧ K t x1.toInt 0 = 1) ∧ ¬ (K t x1.toInt 1 = x2.toInt ∨ (K t x1.toInt 1 = 9 ∧ x2.toInt = 8) ∨ (K t x1.toInt 1 = 5 ∧ x2.toInt = 4) ∨ (K t x1.toInt 1 = 3 ∧ x2.toInt = 2)) ∧ r.toInt = -12))) ([.ref h0, .int x1, .int x2] : List Value).toArray s 0 0 tNo) (F0 m 0 ls []) by subst eH; subst eL; exact hW
  refine lv_iload_n hx hb dX10_taken_0 rfl (lv_at hl 2 rfl) ?_
  refine lv_i2l hx hb dX10_taken_1 rfl ?_
  refine lv_topl (fun z1 ez1 => ?_)
  have tz1 := tl_i2l ez1
  refine lv_lconst (v := 0) hx hb dX10_taken_2 (by decide) ?_
  refine lv_topl (fun z2 ez2 => ?_)
  have tz2 : z2.toInt = 0 := by rw [ez2]; decide
  refine lv_ldc2 (v := 9) hx hb E.2.2.2.1 (E.2.2.2.2.1 _ (t_w6 174 rfl rfl)) dX10_taken_3 ?_
  refine lv_topl (fun z3 ez3 => ?_)
  have tz3 : z3.toInt = 9 := by rw [ez3]; decide
  refine tc_callp (mc_runS (As := [.long z1, .long z2, .long z3]) (rest := []) E hG (c_X10_in l G Y z1 z2 z3) ks_X10_in ml_X10_87 ⟨rfl, rfl, Nat.le_of_ble_eq_true rfl, Nat.le_of_ble_eq_true rfl⟩ rfl hl.1 rfl (Nat.le_of_ble_eq_true rfl) ⟨Nat.zero_le _, Nat.zero_le _⟩ dX10_taken_6) (fun r4 pr4 => ?_)
  replace pr4 : ((r4.toInt = 1 ∧ z2.toInt ≤ z1.toInt ∧ z1.toInt ≤ z3.toInt) ∨ (r4.toInt = 0 ∧ (z1.toInt < z2.toInt ∨ z3.toInt < z1.toInt))) := pr4
  refine lv_if_ne (tgt := 15) hx hb dX10_taken_9 (by decide) (fun c5 => ?_) (fun c5 => ?_)
  · skip
    have ic5 := tn_ne rfl kI_0 c5
    refine lv_aload_n hx hb dX10_taken_15 rfl (lv_at hl 0 rfl) ?_
    refine lv_iload_n hx hb dX10_taken_16 rfl (lv_at hl 1 rfl) ?_
    refine tc_callp (mc_runV (As := [.int x1]) (rest := []) E hG (c_X10_isBox l G Y h0 x1 t0) t0 rfl kv_X10_isBox ml_X10_127 ⟨rfl, rfl, Nat.le_of_ble_eq_true rfl, Nat.le_of_ble_eq_true rfl⟩ rfl hl.1 rfl (Nat.le_of_ble_eq_true rfl) ⟨Nat.zero_le _, Nat.zero_le _⟩ dX10_taken_17) (fun r6 pr6 => ?_)
    replace pr6 : (r6.toInt = 1 ∧ 0 ≤ x1.toInt ∧ x1.toInt ≤ 23 ∧ mV Y (ix x1.toInt 0) 1) ∨ (r6.toInt = 0 ∧ (x1.toInt < 0 ∨ 23 < x1.toInt ∨ ∃ v : Int32, ¬ v.toInt = 1 ∧ mV Y (ix x1.toInt 0) v)) := pr6
    have cr6 := mB pr6 hT hI
    clear pr6
    refine lv_if_ne (tgt := 26) hx hb dX10_taken_20 (by decide) (fun c7 => ?_) (fun c7 => ?_)
    · skip
      have ic7 := tn_ne rfl kI_0 c7
      refine lv_aload_n hx hb dX10_taken_26 rfl (lv_at hl 0 rfl) ?_
      refine lv_iload_n hx hb dX10_taken_27 rfl (lv_at hl 1 rfl) ?_
      refine lv_iconst (v := 1) hx hb dX10_taken_28 (by decide) ?_
      refine tc_callp (mc_runV (As := [.int x1, .int 1]) (rest := []) E hG (c_X10_get l G Y h0 x1 (1 : Int32) t0 (by omega) (by omega) (by decide) (by decide)) t0 rfl kv_X10_get ml_X10_91 ⟨rfl, rfl, Nat.le_of_ble_eq_true rfl, Nat.le_of_ble_eq_true rfl⟩ rfl hl.1 rfl (Nat.le_of_ble_eq_true rfl) ⟨Nat.zero_le _, Nat.zero_le _⟩ dX10_taken_29) (fun r8 pr8 => ?_)
      replace pr8 : mV Y (ix x1.toInt (1 : Int32).toInt) r8 := pr8
      have pr8 := mV_l pr8 kI_1
      have br8 := mV_1 pr8 (by omega)
      have cr8 := mT pr8 hT (by omega) (by omega) (by decide) (by decide)
      have k9 := kI_1
      refine lv_istore_n (lv' := [(3, .int r8), (0, .ref h0), (1, .int x1), (2, .int x2)]) hx hb dX10_taken_32 rfl hl (by decide) rfl (fun ls hl => ?_)
      refine lv_iload_n hx hb dX10_taken_33 rfl (lv_at hl 0 rfl) ?_
      refine lv_bipush (v := 9) hx hb dX10_taken_34 (by decide) ?_
      refine lv_icmp_ne (tgt := 45) hx hb dX10_taken_36 (by decide) (fun c10 => ?_) (fun c10 => ?_)
      · skip
        have ic10 := tn_ne rfl kI_9 c10
        refine lv_iload_n hx hb dX10_taken_45 rfl (lv_at hl 0 rfl) ?_
        refine lv_iconst (v := 5) hx hb dX10_taken_46 (by decide) ?_
        refine lv_icmp_ne (tgt := 55) hx hb dX10_taken_47 (by decide) (fun c11 => ?_) (fun c11 => ?_)
        · skip
          have ic11 := tn_ne rfl kI_5 c11
          refine lv_iload_n hx hb dX10_taken_55 rfl (lv_at hl 0 rfl) ?_
          refine lv_iconst (v := 3) hx hb dX10_taken_56 (by decide) ?_
          refine lv_icmp_ne (tgt := 69) hx hb dX10_taken_57 (by decide) (fun c12 => ?_) (fun c12 => ?_)
          · skip
            have ic12 := tn_ne rfl kI_3 c12
            refine lv_iconst (v := 0) hx hb dX10_taken_69 (by decide) ?_
            refine lv_istore (lv' := [(4, .int 0), (3, .int r8), (0, .ref h0), (1, .int x1), (2, .int x2)]) hx hb dX10_taken_70 hl (by decide) rfl (fun ls hl => ?_)
            refine lv_iload_n hx hb dX10_taken_72 rfl (lv_at hl 1 rfl) ?_
            refine lv_iload_n hx hb dX10_taken_73 rfl (lv_at hl 4 rfl) ?_
            refine lv_icmp_eq (tgt := 82) hx hb dX10_taken_74 (by decide) (fun c13 => ?_) (fun c13 => ?_)
            · skip
              have ic13 := tn_eq rfl rfl c13
              refine lv_iload_n hx hb dX10_taken_82 rfl (lv_at hl 1 rfl) ?_
              refine lv_goto (tgt := 88) hx hb dX10_taken_83 (by decide) ?_
              exact tc_pret E hr hlk eH eL rfl (show (¬ (0 ≤ x2.toInt ∧ x2.toInt ≤ 9) ∧ r8.toInt = -2) ∨ ((0 ≤ x2.toInt ∧ x2.toInt ≤ 9) ∧ ¬ (0 ≤ x1.toInt ∧ x1.toInt ≤ 23 ∧ K t x1.toInt 0 = 1) ∧ r8.toInt = -11) ∨ ((0 ≤ x2.toInt ∧ x2.toInt ≤ 9) ∧ (0 ≤ x1.toInt ∧ x1.toInt ≤ 23 ∧ K t x1.toInt 0 = 1) ∧ (K t x1.toInt 1 = x2.toInt ∨ (K t x1.toInt 1 = 9 ∧ x2.toInt = 8) ∨ (K t x1.toInt 1 = 5 ∧ x2.toInt = 4) ∨ (K t x1.toInt 1 = 3 ∧ x2.toInt = 2)) ∧ r8.toInt = K t x1.toInt 1) ∨ ((0 ≤ x2.toInt ∧ x2.toInt ≤ 9) ∧ (0 ≤ x1.toInt ∧ x1.toInt ≤ 23 ∧ K t x1.toInt 0 = 1) ∧ ¬ (K t x1.toInt 1 = x2.toInt ∨ (K t x1.toInt 1 = 9 ∧ x2.toInt = 8) ∨ (K t x1.toInt 1 = 5 ∧ x2.toInt = 4) ∨ (K t x1.toInt 1 = 3 ∧ x2.toInt = 2)) ∧ r8.toInt = -12) by omega) dX10_taken_88
            · skip
              have ic13 := tn_ne rfl rfl c13
              refine lv_iload hx hb dX10_taken_77 (lv_at hl 0 rfl) ?_
              refine lv_if_eq (tgt := 86) hx hb dX10_taken_79 (by decide) (fun c14 => ?_) (fun c14 => ?_)
              · skip
                have ic14 := tn_eq kI_0 kI_0 c14
                refine lv_bipush (v := -12) hx hb dX10_taken_86 (by decide) ?_
                exact tc_pret E hr hlk eH eL rfl (show (¬ (0 ≤ x2.toInt ∧ x2.toInt ≤ 9) ∧ (-12 : Int32).toInt = -2) ∨ ((0 ≤ x2.toInt ∧ x2.toInt ≤ 9) ∧ ¬ (0 ≤ x1.toInt ∧ x1.toInt ≤ 23 ∧ K t x1.toInt 0 = 1) ∧ (-12 : Int32).toInt = -11) ∨ ((0 ≤ x2.toInt ∧ x2.toInt ≤ 9) ∧ (0 ≤ x1.toInt ∧ x1.toInt ≤ 23 ∧ K t x1.toInt 0 = 1) ∧ (K t x1.toInt 1 = x2.toInt ∨ (K t x1.toInt 1 = 9 ∧ x2.toInt = 8) ∨ (K t x1.toInt 1 = 5 ∧ x2.toInt = 4) ∨ (K t x1.toInt 1 = 3 ∧ x2.toInt = 2)) ∧ (-12 : Int32).toInt = K t x1.toInt 1) ∨ ((0 ≤ x2.toInt ∧ x2.toInt ≤ 9) ∧ (0 ≤ x1.toInt ∧ x1.toInt ≤ 23 ∧ K t x1.toInt 0 = 1) ∧ ¬ (K t x1.toInt 1 = x2.toInt ∨ (K t x1.toInt 1 = 9 ∧ x2.toInt = 8) ∨ (K t x1.toInt 1 = 5 ∧ x2.toInt = 4) ∨ (K t x1.toInt 1 = 3 ∧ x2.toInt = 2)) ∧ (-12 : Int32).toInt = -12) by have kk := kI_m12; omega) dX10_taken_88
              · exfalso
                have ic14 := tn_ne kI_0 kI_0 c14
                omega
          · skip
            have ic12 := tn_eq rfl kI_3 c12
            refine lv_iload_n hx hb dX10_taken_60 rfl (lv_at hl 3 rfl) ?_
            refine lv_iconst (v := 2) hx hb dX10_taken_61 (by decide) ?_
            refine lv_icmp_ne (tgt := 69) hx hb dX10_taken_62 (by decide) (fun c15 => ?_) (fun c15 => ?_)
            · skip
              have ic15 := tn_ne rfl kI_2 c15
              refine lv_iconst (v := 0) hx hb dX10_taken_69 (by decide) ?_
              refine lv_istore (lv' := [(4, .int 0), (3, .int r8), (0, .ref h0), (1, .int x1), (2, .int x2)]) hx hb dX10_taken_70 hl (by decide) rfl (fun ls hl => ?_)
              refine lv_iload_n hx hb dX10_taken_72 rfl (lv_at hl 1 rfl) ?_
              refine lv_iload_n hx hb dX10_taken_73 rfl (lv_at hl 4 rfl) ?_
              refine lv_icmp_eq (tgt := 82) hx hb dX10_taken_74 (by decide) (fun c16 => ?_) (fun c16 => ?_)
              · skip
                have ic16 := tn_eq rfl rfl c16
                refine lv_iload_n hx hb dX10_taken_82 rfl (lv_at hl 1 rfl) ?_
                refine lv_goto (tgt := 88) hx hb dX10_taken_83 (by decide) ?_
                exact tc_pret E hr hlk eH eL rfl (show (¬ (0 ≤ x2.toInt ∧ x2.toInt ≤ 9) ∧ r8.toInt = -2) ∨ ((0 ≤ x2.toInt ∧ x2.toInt ≤ 9) ∧ ¬ (0 ≤ x1.toInt ∧ x1.toInt ≤ 23 ∧ K t x1.toInt 0 = 1) ∧ r8.toInt = -11) ∨ ((0 ≤ x2.toInt ∧ x2.toInt ≤ 9) ∧ (0 ≤ x1.toInt ∧ x1.toInt ≤ 23 ∧ K t x1.toInt 0 = 1) ∧ (K t x1.toInt 1 = x2.toInt ∨ (K t x1.toInt 1 = 9 ∧ x2.toInt = 8) ∨ (K t x1.toInt 1 = 5 ∧ x2.toInt = 4) ∨ (K t x1.toInt 1 = 3 ∧ x2.toInt = 2)) ∧ r8.toInt = K t x1.toInt 1) ∨ ((0 ≤ x2.toInt ∧ x2.toInt ≤ 9) ∧ (0 ≤ x1.toInt ∧ x1.toInt ≤ 23 ∧ K t x1.toInt 0 = 1) ∧ ¬ (K t x1.toInt 1 = x2.toInt ∨ (K t x1.toInt 1 = 9 ∧ x2.toInt = 8) ∨ (K t x1.toInt 1 = 5 ∧ x2.toInt = 4) ∨ (K t x1.toInt 1 = 3 ∧ x2.toInt = 2)) ∧ r8.toInt = -12) by omega) dX10_taken_88
              · skip
                have ic16 := tn_ne rfl rfl c16
                refine lv_iload hx hb dX10_taken_77 (lv_at hl 0 rfl) ?_
                refine lv_if_eq (tgt := 86) hx hb dX10_taken_79 (by decide) (fun c17 => ?_) (fun c17 => ?_)
                · skip
                  have ic17 := tn_eq kI_0 kI_0 c17
                  refine lv_bipush (v := -12) hx hb dX10_taken_86 (by decide) ?_
                  exact tc_pret E hr hlk eH eL rfl (show (¬ (0 ≤ x2.toInt ∧ x2.toInt ≤ 9) ∧ (-12 : Int32).toInt = -2) ∨ ((0 ≤ x2.toInt ∧ x2.toInt ≤ 9) ∧ ¬ (0 ≤ x1.toInt ∧ x1.toInt ≤ 23 ∧ K t x1.toInt 0 = 1) ∧ (-12 : Int32).toInt = -11) ∨ ((0 ≤ x2.toInt ∧ x2.toInt ≤ 9) ∧ (0 ≤ x1.toInt ∧ x1.toInt ≤ 23 ∧ K t x1.toInt 0 = 1) ∧ (K t x1.toInt 1 = x2.toInt ∨ (K t x1.toInt 1 = 9 ∧ x2.toInt = 8) ∨ (K t x1.toInt 1 = 5 ∧ x2.toInt = 4) ∨ (K t x1.toInt 1 = 3 ∧ x2.toInt = 2)) ∧ (-12 : Int32).toInt = K t x1.toInt 1) ∨ ((0 ≤ x2.toInt ∧ x2.toInt ≤ 9) ∧ (0 ≤ x1.toInt ∧ x1.toInt ≤ 23 ∧ K t x1.toInt 0 = 1) ∧ ¬ (K t x1.toInt 1 = x2.toInt ∨ (K t x1.toInt 1 = 9 ∧ x2.toInt = 8) ∨ (K t x1.toInt 1 = 5 ∧ x2.toInt = 4) ∨ (K t x1.toInt 1 = 3 ∧ x2.toInt = 2)) ∧ (-12 : Int32).toInt = -12) by have kk := kI_m12; omega) dX10_taken_88
                · exfalso
                  have ic17 := tn_ne kI_0 kI_0 c17
                  omega
            · skip
              have ic15 := tn_eq rfl kI_2 c15
              refine lv_iconst (v := 1) hx hb dX10_taken_65 (by decide) ?_
              refine lv_goto (tgt := 70) hx hb dX10_taken_66 (by decide) ?_
              refine lv_istore (lv' := [(4, .int 1), (3, .int r8), (0, .ref h0), (1, .int x1), (2, .int x2)]) hx hb dX10_taken_70 hl (by decide) rfl (fun ls hl => ?_)
              refine lv_iload_n hx hb dX10_taken_72 rfl (lv_at hl 1 rfl) ?_
              refine lv_iload_n hx hb dX10_taken_73 rfl (lv_at hl 4 rfl) ?_
              refine lv_icmp_eq (tgt := 82) hx hb dX10_taken_74 (by decide) (fun c18 => ?_) (fun c18 => ?_)
              · exfalso
                have ic18 := tn_eq rfl rfl c18
                omega
              · skip
                have ic18 := tn_ne rfl rfl c18
                refine lv_iload hx hb dX10_taken_77 (lv_at hl 0 rfl) ?_
                refine lv_if_eq (tgt := 86) hx hb dX10_taken_79 (by decide) (fun c19 => ?_) (fun c19 => ?_)
                · exfalso
                  have ic19 := tn_eq kI_1 kI_0 c19
                  omega
                · skip
                  have ic19 := tn_ne kI_1 kI_0 c19
                  refine lv_iload_n hx hb dX10_taken_82 rfl (lv_at hl 1 rfl) ?_
                  refine lv_goto (tgt := 88) hx hb dX10_taken_83 (by decide) ?_
                  exact tc_pret E hr hlk eH eL rfl (show (¬ (0 ≤ x2.toInt ∧ x2.toInt ≤ 9) ∧ r8.toInt = -2) ∨ ((0 ≤ x2.toInt ∧ x2.toInt ≤ 9) ∧ ¬ (0 ≤ x1.toInt ∧ x1.toInt ≤ 23 ∧ K t x1.toInt 0 = 1) ∧ r8.toInt = -11) ∨ ((0 ≤ x2.toInt ∧ x2.toInt ≤ 9) ∧ (0 ≤ x1.toInt ∧ x1.toInt ≤ 23 ∧ K t x1.toInt 0 = 1) ∧ (K t x1.toInt 1 = x2.toInt ∨ (K t x1.toInt 1 = 9 ∧ x2.toInt = 8) ∨ (K t x1.toInt 1 = 5 ∧ x2.toInt = 4) ∨ (K t x1.toInt 1 = 3 ∧ x2.toInt = 2)) ∧ r8.toInt = K t x1.toInt 1) ∨ ((0 ≤ x2.toInt ∧ x2.toInt ≤ 9) ∧ (0 ≤ x1.toInt ∧ x1.toInt ≤ 23 ∧ K t x1.toInt 0 = 1) ∧ ¬ (K t x1.toInt 1 = x2.toInt ∨ (K t x1.toInt 1 = 9 ∧ x2.toInt = 8) ∨ (K t x1.toInt 1 = 5 ∧ x2.toInt = 4) ∨ (K t x1.toInt 1 = 3 ∧ x2.toInt = 2)) ∧ r8.toInt = -12) by omega) dX10_taken_88
        · skip
          have ic11 := tn_eq rfl kI_5 c11
          refine lv_iload_n hx hb dX10_taken_50 rfl (lv_at hl 3 rfl) ?_
          refine lv_iconst (v := 4) hx hb dX10_taken_51 (by decide) ?_
          refine lv_icmp_eq (tgt := 65) hx hb dX10_taken_52 (by decide) (fun c20 => ?_) (fun c20 => ?_)
          · skip
            have ic20 := tn_eq rfl kI_4 c20
            refine lv_iconst (v := 1) hx hb dX10_taken_65 (by decide) ?_
            refine lv_goto (tgt := 70) hx hb dX10_taken_66 (by decide) ?_
            refine lv_istore (lv' := [(4, .int 1), (3, .int r8), (0, .ref h0), (1, .int x1), (2, .int x2)]) hx hb dX10_taken_70 hl (by decide) rfl (fun ls hl => ?_)
            refine lv_iload_n hx hb dX10_taken_72 rfl (lv_at hl 1 rfl) ?_
            refine lv_iload_n hx hb dX10_taken_73 rfl (lv_at hl 4 rfl) ?_
            refine lv_icmp_eq (tgt := 82) hx hb dX10_taken_74 (by decide) (fun c21 => ?_) (fun c21 => ?_)
            · exfalso
              have ic21 := tn_eq rfl rfl c21
              omega
            · skip
              have ic21 := tn_ne rfl rfl c21
              refine lv_iload hx hb dX10_taken_77 (lv_at hl 0 rfl) ?_
              refine lv_if_eq (tgt := 86) hx hb dX10_taken_79 (by decide) (fun c22 => ?_) (fun c22 => ?_)
              · exfalso
                have ic22 := tn_eq kI_1 kI_0 c22
                omega
              · skip
                have ic22 := tn_ne kI_1 kI_0 c22
                refine lv_iload_n hx hb dX10_taken_82 rfl (lv_at hl 1 rfl) ?_
                refine lv_goto (tgt := 88) hx hb dX10_taken_83 (by decide) ?_
                exact tc_pret E hr hlk eH eL rfl (show (¬ (0 ≤ x2.toInt ∧ x2.toInt ≤ 9) ∧ r8.toInt = -2) ∨ ((0 ≤ x2.toInt ∧ x2.toInt ≤ 9) ∧ ¬ (0 ≤ x1.toInt ∧ x1.toInt ≤ 23 ∧ K t x1.toInt 0 = 1) ∧ r8.toInt = -11) ∨ ((0 ≤ x2.toInt ∧ x2.toInt ≤ 9) ∧ (0 ≤ x1.toInt ∧ x1.toInt ≤ 23 ∧ K t x1.toInt 0 = 1) ∧ (K t x1.toInt 1 = x2.toInt ∨ (K t x1.toInt 1 = 9 ∧ x2.toInt = 8) ∨ (K t x1.toInt 1 = 5 ∧ x2.toInt = 4) ∨ (K t x1.toInt 1 = 3 ∧ x2.toInt = 2)) ∧ r8.toInt = K t x1.toInt 1) ∨ ((0 ≤ x2.toInt ∧ x2.toInt ≤ 9) ∧ (0 ≤ x1.toInt ∧ x1.toInt ≤ 23 ∧ K t x1.toInt 0 = 1) ∧ ¬ (K t x1.toInt 1 = x2.toInt ∨ (K t x1.toInt 1 = 9 ∧ x2.toInt = 8) ∨ (K t x1.toInt 1 = 5 ∧ x2.toInt = 4) ∨ (K t x1.toInt 1 = 3 ∧ x2.toInt = 2)) ∧ r8.toInt = -12) by omega) dX10_taken_88
          · skip
            have ic20 := tn_ne rfl kI_4 c20
            refine lv_iload_n hx hb dX10_taken_55 rfl (lv_at hl 0 rfl) ?_
            refine lv_iconst (v := 3) hx hb dX10_taken_56 (by decide) ?_
            refine lv_icmp_ne (tgt := 69) hx hb dX10_taken_57 (by decide) (fun c23 => ?_) (fun c23 => ?_)
            · skip
              have ic23 := tn_ne rfl kI_3 c23
              refine lv_iconst (v := 0) hx hb dX10_taken_69 (by decide) ?_
              refine lv_istore (lv' := [(4, .int 0), (3, .int r8), (0, .ref h0), (1, .int x1), (2, .int x2)]) hx hb dX10_taken_70 hl (by decide) rfl (fun ls hl => ?_)
              refine lv_iload_n hx hb dX10_taken_72 rfl (lv_at hl 1 rfl) ?_
              refine lv_iload_n hx hb dX10_taken_73 rfl (lv_at hl 4 rfl) ?_
              refine lv_icmp_eq (tgt := 82) hx hb dX10_taken_74 (by decide) (fun c24 => ?_) (fun c24 => ?_)
              · skip
                have ic24 := tn_eq rfl rfl c24
                refine lv_iload_n hx hb dX10_taken_82 rfl (lv_at hl 1 rfl) ?_
                refine lv_goto (tgt := 88) hx hb dX10_taken_83 (by decide) ?_
                exact tc_pret E hr hlk eH eL rfl (show (¬ (0 ≤ x2.toInt ∧ x2.toInt ≤ 9) ∧ r8.toInt = -2) ∨ ((0 ≤ x2.toInt ∧ x2.toInt ≤ 9) ∧ ¬ (0 ≤ x1.toInt ∧ x1.toInt ≤ 23 ∧ K t x1.toInt 0 = 1) ∧ r8.toInt = -11) ∨ ((0 ≤ x2.toInt ∧ x2.toInt ≤ 9) ∧ (0 ≤ x1.toInt ∧ x1.toInt ≤ 23 ∧ K t x1.toInt 0 = 1) ∧ (K t x1.toInt 1 = x2.toInt ∨ (K t x1.toInt 1 = 9 ∧ x2.toInt = 8) ∨ (K t x1.toInt 1 = 5 ∧ x2.toInt = 4) ∨ (K t x1.toInt 1 = 3 ∧ x2.toInt = 2)) ∧ r8.toInt = K t x1.toInt 1) ∨ ((0 ≤ x2.toInt ∧ x2.toInt ≤ 9) ∧ (0 ≤ x1.toInt ∧ x1.toInt ≤ 23 ∧ K t x1.toInt 0 = 1) ∧ ¬ (K t x1.toInt 1 = x2.toInt ∨ (K t x1.toInt 1 = 9 ∧ x2.toInt = 8) ∨ (K t x1.toInt 1 = 5 ∧ x2.toInt = 4) ∨ (K t x1.toInt 1 = 3 ∧ x2.toInt = 2)) ∧ r8.toInt = -12) by omega) dX10_taken_88
              · skip
                have ic24 := tn_ne rfl rfl c24
                refine lv_iload hx hb dX10_taken_77 (lv_at hl 0 rfl) ?_
                refine lv_if_eq (tgt := 86) hx hb dX10_taken_79 (by decide) (fun c25 => ?_) (fun c25 => ?_)
                · skip
                  have ic25 := tn_eq kI_0 kI_0 c25
                  refine lv_bipush (v := -12) hx hb dX10_taken_86 (by decide) ?_
                  exact tc_pret E hr hlk eH eL rfl (show (¬ (0 ≤ x2.toInt ∧ x2.toInt ≤ 9) ∧ (-12 : Int32).toInt = -2) ∨ ((0 ≤ x2.toInt ∧ x2.toInt ≤ 9) ∧ ¬ (0 ≤ x1.toInt ∧ x1.toInt ≤ 23 ∧ K t x1.toInt 0 = 1) ∧ (-12 : Int32).toInt = -11) ∨ ((0 ≤ x2.toInt ∧ x2.toInt ≤ 9) ∧ (0 ≤ x1.toInt ∧ x1.toInt ≤ 23 ∧ K t x1.toInt 0 = 1) ∧ (K t x1.toInt 1 = x2.toInt ∨ (K t x1.toInt 1 = 9 ∧ x2.toInt = 8) ∨ (K t x1.toInt 1 = 5 ∧ x2.toInt = 4) ∨ (K t x1.toInt 1 = 3 ∧ x2.toInt = 2)) ∧ (-12 : Int32).toInt = K t x1.toInt 1) ∨ ((0 ≤ x2.toInt ∧ x2.toInt ≤ 9) ∧ (0 ≤ x1.toInt ∧ x1.toInt ≤ 23 ∧ K t x1.toInt 0 = 1) ∧ ¬ (K t x1.toInt 1 = x2.toInt ∨ (K t x1.toInt 1 = 9 ∧ x2.toInt = 8) ∨ (K t x1.toInt 1 = 5 ∧ x2.toInt = 4) ∨ (K t x1.toInt 1 = 3 ∧ x2.toInt = 2)) ∧ (-12 : Int32).toInt = -12) by have kk := kI_m12; omega) dX10_taken_88
                · exfalso
                  have ic25 := tn_ne kI_0 kI_0 c25
                  omega
            · exfalso
              have ic23 := tn_eq rfl kI_3 c23
              omega
      · skip
        have ic10 := tn_eq rfl kI_9 c10
        refine lv_iload_n hx hb dX10_taken_39 rfl (lv_at hl 3 rfl) ?_
        refine lv_bipush (v := 8) hx hb dX10_taken_40 (by decide) ?_
        refine lv_icmp_eq (tgt := 65) hx hb dX10_taken_42 (by decide) (fun c26 => ?_) (fun c26 => ?_)
        · skip
          have ic26 := tn_eq rfl kI_8 c26
          refine lv_iconst (v := 1) hx hb dX10_taken_65 (by decide) ?_
          refine lv_goto (tgt := 70) hx hb dX10_taken_66 (by decide) ?_
          refine lv_istore (lv' := [(4, .int 1), (3, .int r8), (0, .ref h0), (1, .int x1), (2, .int x2)]) hx hb dX10_taken_70 hl (by decide) rfl (fun ls hl => ?_)
          refine lv_iload_n hx hb dX10_taken_72 rfl (lv_at hl 1 rfl) ?_
          refine lv_iload_n hx hb dX10_taken_73 rfl (lv_at hl 4 rfl) ?_
          refine lv_icmp_eq (tgt := 82) hx hb dX10_taken_74 (by decide) (fun c27 => ?_) (fun c27 => ?_)
          · exfalso
            have ic27 := tn_eq rfl rfl c27
            omega
          · skip
            have ic27 := tn_ne rfl rfl c27
            refine lv_iload hx hb dX10_taken_77 (lv_at hl 0 rfl) ?_
            refine lv_if_eq (tgt := 86) hx hb dX10_taken_79 (by decide) (fun c28 => ?_) (fun c28 => ?_)
            · exfalso
              have ic28 := tn_eq kI_1 kI_0 c28
              omega
            · skip
              have ic28 := tn_ne kI_1 kI_0 c28
              refine lv_iload_n hx hb dX10_taken_82 rfl (lv_at hl 1 rfl) ?_
              refine lv_goto (tgt := 88) hx hb dX10_taken_83 (by decide) ?_
              exact tc_pret E hr hlk eH eL rfl (show (¬ (0 ≤ x2.toInt ∧ x2.toInt ≤ 9) ∧ r8.toInt = -2) ∨ ((0 ≤ x2.toInt ∧ x2.toInt ≤ 9) ∧ ¬ (0 ≤ x1.toInt ∧ x1.toInt ≤ 23 ∧ K t x1.toInt 0 = 1) ∧ r8.toInt = -11) ∨ ((0 ≤ x2.toInt ∧ x2.toInt ≤ 9) ∧ (0 ≤ x1.toInt ∧ x1.toInt ≤ 23 ∧ K t x1.toInt 0 = 1) ∧ (K t x1.toInt 1 = x2.toInt ∨ (K t x1.toInt 1 = 9 ∧ x2.toInt = 8) ∨ (K t x1.toInt 1 = 5 ∧ x2.toInt = 4) ∨ (K t x1.toInt 1 = 3 ∧ x2.toInt = 2)) ∧ r8.toInt = K t x1.toInt 1) ∨ ((0 ≤ x2.toInt ∧ x2.toInt ≤ 9) ∧ (0 ≤ x1.toInt ∧ x1.toInt ≤ 23 ∧ K t x1.toInt 0 = 1) ∧ ¬ (K t x1.toInt 1 = x2.toInt ∨ (K t x1.toInt 1 = 9 ∧ x2.toInt = 8) ∨ (K t x1.toInt 1 = 5 ∧ x2.toInt = 4) ∨ (K t x1.toInt 1 = 3 ∧ x2.toInt = 2)) ∧ r8.toInt = -12) by omega) dX10_taken_88
        · skip
          have ic26 := tn_ne rfl kI_8 c26
          refine lv_iload_n hx hb dX10_taken_45 rfl (lv_at hl 0 rfl) ?_
          refine lv_iconst (v := 5) hx hb dX10_taken_46 (by decide) ?_
          refine lv_icmp_ne (tgt := 55) hx hb dX10_taken_47 (by decide) (fun c29 => ?_) (fun c29 => ?_)
          · skip
            have ic29 := tn_ne rfl kI_5 c29
            refine lv_iload_n hx hb dX10_taken_55 rfl (lv_at hl 0 rfl) ?_
            refine lv_iconst (v := 3) hx hb dX10_taken_56 (by decide) ?_
            refine lv_icmp_ne (tgt := 69) hx hb dX10_taken_57 (by decide) (fun c30 => ?_) (fun c30 => ?_)
            · skip
              have ic30 := tn_ne rfl kI_3 c30
              refine lv_iconst (v := 0) hx hb dX10_taken_69 (by decide) ?_
              refine lv_istore (lv' := [(4, .int 0), (3, .int r8), (0, .ref h0), (1, .int x1), (2, .int x2)]) hx hb dX10_taken_70 hl (by decide) rfl (fun ls hl => ?_)
              refine lv_iload_n hx hb dX10_taken_72 rfl (lv_at hl 1 rfl) ?_
              refine lv_iload_n hx hb dX10_taken_73 rfl (lv_at hl 4 rfl) ?_
              refine lv_icmp_eq (tgt := 82) hx hb dX10_taken_74 (by decide) (fun c31 => ?_) (fun c31 => ?_)
              · skip
                have ic31 := tn_eq rfl rfl c31
                refine lv_iload_n hx hb dX10_taken_82 rfl (lv_at hl 1 rfl) ?_
                refine lv_goto (tgt := 88) hx hb dX10_taken_83 (by decide) ?_
                exact tc_pret E hr hlk eH eL rfl (show (¬ (0 ≤ x2.toInt ∧ x2.toInt ≤ 9) ∧ r8.toInt = -2) ∨ ((0 ≤ x2.toInt ∧ x2.toInt ≤ 9) ∧ ¬ (0 ≤ x1.toInt ∧ x1.toInt ≤ 23 ∧ K t x1.toInt 0 = 1) ∧ r8.toInt = -11) ∨ ((0 ≤ x2.toInt ∧ x2.toInt ≤ 9) ∧ (0 ≤ x1.toInt ∧ x1.toInt ≤ 23 ∧ K t x1.toInt 0 = 1) ∧ (K t x1.toInt 1 = x2.toInt ∨ (K t x1.toInt 1 = 9 ∧ x2.toInt = 8) ∨ (K t x1.toInt 1 = 5 ∧ x2.toInt = 4) ∨ (K t x1.toInt 1 = 3 ∧ x2.toInt = 2)) ∧ r8.toInt = K t x1.toInt 1) ∨ ((0 ≤ x2.toInt ∧ x2.toInt ≤ 9) ∧ (0 ≤ x1.toInt ∧ x1.toInt ≤ 23 ∧ K t x1.toInt 0 = 1) ∧ ¬ (K t x1.toInt 1 = x2.toInt ∨ (K t x1.toInt 1 = 9 ∧ x2.toInt = 8) ∨ (K t x1.toInt 1 = 5 ∧ x2.toInt = 4) ∨ (K t x1.toInt 1 = 3 ∧ x2.toInt = 2)) ∧ r8.toInt = -12) by omega) dX10_taken_88
              · skip
                have ic31 := tn_ne rfl rfl c31
                refine lv_iload hx hb dX10_taken_77 (lv_at hl 0 rfl) ?_
                refine lv_if_eq (tgt := 86) hx hb dX10_taken_79 (by decide) (fun c32 => ?_) (fun c32 => ?_)
                · skip
                  have ic32 := tn_eq kI_0 kI_0 c32
                  refine lv_bipush (v := -12) hx hb dX10_taken_86 (by decide) ?_
                  exact tc_pret E hr hlk eH eL rfl (show (¬ (0 ≤ x2.toInt ∧ x2.toInt ≤ 9) ∧ (-12 : Int32).toInt = -2) ∨ ((0 ≤ x2.toInt ∧ x2.toInt ≤ 9) ∧ ¬ (0 ≤ x1.toInt ∧ x1.toInt ≤ 23 ∧ K t x1.toInt 0 = 1) ∧ (-12 : Int32).toInt = -11) ∨ ((0 ≤ x2.toInt ∧ x2.toInt ≤ 9) ∧ (0 ≤ x1.toInt ∧ x1.toInt ≤ 23 ∧ K t x1.toInt 0 = 1) ∧ (K t x1.toInt 1 = x2.toInt ∨ (K t x1.toInt 1 = 9 ∧ x2.toInt = 8) ∨ (K t x1.toInt 1 = 5 ∧ x2.toInt = 4) ∨ (K t x1.toInt 1 = 3 ∧ x2.toInt = 2)) ∧ (-12 : Int32).toInt = K t x1.toInt 1) ∨ ((0 ≤ x2.toInt ∧ x2.toInt ≤ 9) ∧ (0 ≤ x1.toInt ∧ x1.toInt ≤ 23 ∧ K t x1.toInt 0 = 1) ∧ ¬ (K t x1.toInt 1 = x2.toInt ∨ (K t x1.toInt 1 = 9 ∧ x2.toInt = 8) ∨ (K t x1.toInt 1 = 5 ∧ x2.toInt = 4) ∨ (K t x1.toInt 1 = 3 ∧ x2.toInt = 2)) ∧ (-12 : Int32).toInt = -12) by have kk := kI_m12; omega) dX10_taken_88
                · exfalso
                  have ic32 := tn_ne kI_0 kI_0 c32
                  omega
            · exfalso
              have ic30 := tn_eq rfl kI_3 c30
              omega
          · exfalso
            have ic29 := tn_eq rfl kI_5 c29
            omega
    · skip
      have ic7 := tn_eq rfl kI_0 c7
      refine lv_bipush (v := -11) hx hb dX10_taken_23 (by decide) ?_
      exact tc_pret E hr hlk eH eL rfl (show (¬ (0 ≤ x2.toInt ∧ x2.toInt ≤ 9) ∧ (-11 : Int32).toInt = -2) ∨ ((0 ≤ x2.toInt ∧ x2.toInt ≤ 9) ∧ ¬ (0 ≤ x1.toInt ∧ x1.toInt ≤ 23 ∧ K t x1.toInt 0 = 1) ∧ (-11 : Int32).toInt = -11) ∨ ((0 ≤ x2.toInt ∧ x2.toInt ≤ 9) ∧ (0 ≤ x1.toInt ∧ x1.toInt ≤ 23 ∧ K t x1.toInt 0 = 1) ∧ (K t x1.toInt 1 = x2.toInt ∨ (K t x1.toInt 1 = 9 ∧ x2.toInt = 8) ∨ (K t x1.toInt 1 = 5 ∧ x2.toInt = 4) ∨ (K t x1.toInt 1 = 3 ∧ x2.toInt = 2)) ∧ (-11 : Int32).toInt = K t x1.toInt 1) ∨ ((0 ≤ x2.toInt ∧ x2.toInt ≤ 9) ∧ (0 ≤ x1.toInt ∧ x1.toInt ≤ 23 ∧ K t x1.toInt 0 = 1) ∧ ¬ (K t x1.toInt 1 = x2.toInt ∨ (K t x1.toInt 1 = 9 ∧ x2.toInt = 8) ∨ (K t x1.toInt 1 = 5 ∧ x2.toInt = 4) ∨ (K t x1.toInt 1 = 3 ∧ x2.toInt = 2)) ∧ (-11 : Int32).toInt = -12) by have kk := kI_m11; omega) dX10_taken_25
  · skip
    have ic5 := tn_eq rfl kI_0 c5
    refine lv_bipush (v := -2) hx hb dX10_taken_12 (by decide) ?_
    exact tc_pret E hr hlk eH eL rfl (show (¬ (0 ≤ x2.toInt ∧ x2.toInt ≤ 9) ∧ (-2 : Int32).toInt = -2) ∨ ((0 ≤ x2.toInt ∧ x2.toInt ≤ 9) ∧ ¬ (0 ≤ x1.toInt ∧ x1.toInt ≤ 23 ∧ K t x1.toInt 0 = 1) ∧ (-2 : Int32).toInt = -11) ∨ ((0 ≤ x2.toInt ∧ x2.toInt ≤ 9) ∧ (0 ≤ x1.toInt ∧ x1.toInt ≤ 23 ∧ K t x1.toInt 0 = 1) ∧ (K t x1.toInt 1 = x2.toInt ∨ (K t x1.toInt 1 = 9 ∧ x2.toInt = 8) ∨ (K t x1.toInt 1 = 5 ∧ x2.toInt = 4) ∨ (K t x1.toInt 1 = 3 ∧ x2.toInt = 2)) ∧ (-2 : Int32).toInt = K t x1.toInt 1) ∨ ((0 ≤ x2.toInt ∧ x2.toInt ≤ 9) ∧ (0 ≤ x1.toInt ∧ x1.toInt ≤ 23 ∧ K t x1.toInt 0 = 1) ∧ ¬ (K t x1.toInt 1 = x2.toInt ∨ (K t x1.toInt 1 = 9 ∧ x2.toInt = 8) ∨ (K t x1.toInt 1 = 5 ∧ x2.toInt = 4) ∨ (K t x1.toInt 1 = 3 ∧ x2.toInt = 2)) ∧ (-2 : Int32).toInt = -12) by have kk := kI_m2; omega) dX10_taken_14

/-- number w of box b may be told to be v -/
def MTd (t : Nat → Int32) (b w v : Int) : Prop := (w = 4 → 0 ≤ v ∧ v ≤ 9) ∧ (w = 5 → 0 ≤ v ∧ v ≤ K t b 8) ∧ (w = 6 → K t b 7 ≤ v ∧ v ≤ 99) ∧ (w < 4 → MBe (K t b 1) w v ∧ (K t b 1 = 3 → (w % 2 = 0 → v ≤ K t b (2 + w + 1)) ∧ (w % 2 = 1 → K t b (2 + w - 1) ≤ v)))
set_option maxHeartbeats 4000000 in
set_option maxRecDepth 100000 in
theorem x_X10_isToldGood (l : Launch) (G : tG) (Y : mY) (h0 : Nat) (x1 : Int32) (x2 : Int32) (x3 : Int32) (t0 : Y.1 h0 = 1) (l1 : 0 ≤ x1.toInt) (u1 : x1.toInt ≤ 23) (l2 : 0 ≤ x2.toInt) (u2 : x2.toInt ≤ 6) (t : Nat → Int32) (hT : TI Y t) (hI : TInv t) (hn4 : x2.toInt < 4 → x2.toInt < nNum (K t x1.toInt 1)) : Met l yX10_isToldGood (.code yX10_isToldGood cX10_isToldGood 5 (some .boolean) :: tWS) (tRm 2 47) (va_Pc [.ref h0, .int x1, .int x2, .int x3] (mPre G Y)) (tQp (fun r => (r.toInt = 1 ∧ MTd t x1.toInt x2.toInt x3.toInt ∧ 0 ≤ x3.toInt ∧ x3.toInt ≤ 99 ∧ (¬ x2.toInt = 4 ∨ x3.toInt ≤ 9) ∧ (4 ≤ x2.toInt ∨ ¬ K t x1.toInt 1 = 6 ∨ 1 ≤ x3.toInt)) ∨ (r.toInt = 0 ∧ ¬ MTd t x1.toInt x2.toInt x3.toInt))) 0 0 tNo := by
  refine mc_met (by decide) (Nat.le_of_ble_eq_true rfl) ?_
  intro p e s m below meth c E hr hlk hG ls hl
  have hl : lv_has ls 5 [(0, .ref h0), (1, .int x1), (2, .int x2), (3, .int x3)] := hl
  have hx := E.1
  have hb := E.2.1
  obtain ⟨H, eH⟩ : ∃ H, H = s.heap := ⟨_, rfl⟩
  obtain ⟨locs, eL⟩ : ∃ x : List Loc, x = [] := ⟨_, rfl⟩
  have hG : mGH G Y s H locs := by rw [eH, eL]; exact hG
  suffices hW : W p l e (tRm 2 47) s m ([.ref h0, .int x1, .int x2, .int x3] : List Value).toArray below meth c H locs 0 0 (MQ below (tQp (fun r => (r.toInt = 1 ∧ MTd t x1.toInt x2.toInt x3.toInt ∧ 0 ≤ x3.toInt ∧ x3.toInt ≤ 99 ∧ (¬ x2.toInt = 4 ∨ x3.toInt ≤ 9) ∧ (4 ≤ x2.toInt ∨ ¬ K t x1.toInt 1 = 6 ∨ 1 ≤ x3.toInt)) ∨ (r.toInt = 0 ∧ ¬ MTd t x1.toInt x2.toInt x3.toInt))) ([.ref h0, .int x1, .int x2, .int x3] : List Value).toArray s 0 0 tNo) (F0 m 0 ls []) by subst eH; subst eL; exact hW
  refine lv_aload_n hx hb dX10_isToldGood_0 rfl (lv_at hl 0 rfl) ?_
  refine lv_iload_n hx hb dX10_isToldGood_1 rfl (lv_at hl 1 rfl) ?_
  refine lv_iconst (v := 1) hx hb dX10_isToldGood_2 (by decide) ?_
  refine tc_callp (mc_runV (As := [.int x1, .int 1]) (rest := []) E hG (c_X10_get l G Y h0 x1 (1 : Int32) t0 (by omega) (by omega) (by decide) (by decide)) t0 rfl kv_X10_get ml_X10_91 ⟨rfl, rfl, Nat.le_of_ble_eq_true rfl, Nat.le_of_ble_eq_true rfl⟩ rfl hl.1 rfl (Nat.le_of_ble_eq_true rfl) ⟨Nat.zero_le _, Nat.zero_le _⟩ dX10_isToldGood_3) (fun r1 pr1 => ?_)
  replace pr1 : mV Y (ix x1.toInt (1 : Int32).toInt) r1 := pr1
  have pr1 := mV_l pr1 kI_1
  have br1 := mV_1 pr1 (by omega)
  have cr1 := mT pr1 hT (by omega) (by omega) (by decide) (by decide)
  have k2 := kI_1
  refine lv_istore (lv' := [(4, .int r1), (0, .ref h0), (1, .int x1), (2, .int x2), (3, .int x3)]) hx hb dX10_isToldGood_6 hl (by decide) rfl (fun ls hl => ?_)
  refine lv_iload_n hx hb dX10_isToldGood_8 rfl (lv_at hl 3 rfl) ?_
  rcases (show (x2.toInt < 4 ∨ 6 < x2.toInt) ∨ x2.toInt = 4 ∨ x2.toInt = 5 ∨ x2.toInt = 6 by omega) with k3 | k3 | k3 | k3
  · refine lv_tableOut (tgt := 78) hx hb dX10_isToldGood_9 k3 (by decide) ?_
    refine lv_iload hx hb dX10_isToldGood_78 (lv_at hl 0 rfl) ?_
    refine lv_iload_n hx hb dX10_isToldGood_80 rfl (lv_at hl 3 rfl) ?_
    refine lv_iload_n hx hb dX10_isToldGood_81 rfl (lv_at hl 4 rfl) ?_
    refine tc_callp (mc_runS (As := [.int r1, .int x2, .int x3]) (rest := []) E hG (x_X10_mayBe l G Y r1 x2 x3) ks_X10_mayBe ml_X10_120 ⟨rfl, rfl, Nat.le_of_ble_eq_true rfl, Nat.le_of_ble_eq_true rfl⟩ rfl hl.1 rfl (Nat.le_of_ble_eq_true rfl) ⟨Nat.zero_le _, Nat.zero_le _⟩ dX10_isToldGood_82) (fun r4 pr4 => ?_)
    replace pr4 : r4.toInt = iMB r1.toInt x2.toInt x3.toInt := pr4
    rw [cr1] at pr4
    have br4 := iMB_b pr4
    refine lv_if_ne (tgt := 90) hx hb dX10_isToldGood_85 (by decide) (fun c5 => ?_) (fun c5 => ?_)
    · skip
      have ic5 := tn_ne rfl kI_0 c5
      refine lv_iload hx hb dX10_isToldGood_90 (lv_at hl 0 rfl) ?_
      refine lv_iconst (v := 3) hx hb dX10_isToldGood_92 (by decide) ?_
      refine lv_icmp_ne (tgt := 133) hx hb dX10_isToldGood_93 (by decide) (fun c6 => ?_) (fun c6 => ?_)
      · skip
        have ic6 := tn_ne rfl kI_3 c6
        refine lv_iconst (v := 1) hx hb dX10_isToldGood_133 (by decide) ?_
        refine lv_goto (tgt := 138) hx hb dX10_isToldGood_134 (by decide) ?_
        exact tc_pret E hr hlk eH eL (t_nz (by decide) (by decide)).1 (show ((1 : Int32).toInt = 1 ∧ MTd t x1.toInt x2.toInt x3.toInt ∧ 0 ≤ x3.toInt ∧ x3.toInt ≤ 99 ∧ (¬ x2.toInt = 4 ∨ x3.toInt ≤ 9) ∧ (4 ≤ x2.toInt ∨ ¬ K t x1.toInt 1 = 6 ∨ 1 ≤ x3.toInt)) ∨ ((1 : Int32).toInt = 0 ∧ ¬ MTd t x1.toInt x2.toInt x3.toInt) by have kk := kI_1; unfold MTd MBe; omega) dX10_isToldGood_138
      · skip
        have ic6 := tn_eq rfl kI_3 c6
        refine lv_iload_n hx hb dX10_isToldGood_96 rfl (lv_at hl 3 rfl) ?_
        refine lv_iconst (v := 2) hx hb dX10_isToldGood_97 (by decide) ?_
        refine lv_irem hx hb dX10_isToldGood_98 (by decide) ?_
        refine lv_topi (fun z7 ez7 => ?_)
        have tz7 := tn_rem ez7 kI_2 (by omega) (by decide)
        refine lv_if_ne (tgt := 119) hx hb dX10_isToldGood_99 (by decide) (fun c8 => ?_) (fun c8 => ?_)
        · skip
          have ic8 := tn_ne rfl kI_0 c8
          refine lv_iload_n hx hb dX10_isToldGood_119 rfl (lv_at hl 4 rfl) ?_
          refine lv_aload_n hx hb dX10_isToldGood_120 rfl (lv_at hl 1 rfl) ?_
          refine lv_iload_n hx hb dX10_isToldGood_121 rfl (lv_at hl 2 rfl) ?_
          refine lv_iconst (v := 2) hx hb dX10_isToldGood_122 (by decide) ?_
          refine lv_iload_n hx hb dX10_isToldGood_123 rfl (lv_at hl 3 rfl) ?_
          refine lv_iadd hx hb dX10_isToldGood_124 ?_
          refine lv_topi (fun z9 ez9 => ?_)
          have tz9 := tn_add ez9 kI_2 rfl (by omega) (by omega)
          refine lv_iconst (v := 1) hx hb dX10_isToldGood_125 (by decide) ?_
          refine lv_isub hx hb dX10_isToldGood_126 ?_
          refine lv_topi (fun z10 ez10 => ?_)
          have tz10 := tn_sub ez10 rfl kI_1 (by omega) (by omega)
          refine tc_callp (mc_runV (As := [.int x1, .int z10]) (rest := [.int x3]) E hG (c_X10_get l G Y h0 x1 z10 t0 (by omega) (by omega) (by omega) (by omega)) t0 rfl kv_X10_get ml_X10_91 ⟨rfl, rfl, Nat.le_of_ble_eq_true rfl, Nat.le_of_ble_eq_true rfl⟩ rfl hl.1 rfl (Nat.le_of_ble_eq_true rfl) ⟨Nat.zero_le _, Nat.zero_le _⟩ dX10_isToldGood_127) (fun r11 pr11 => ?_)
          replace pr11 : mV Y (ix x1.toInt z10.toInt) r11 := pr11
          have br11 := mV_r 1 7 (0) (99) pr11 (by omega) (by omega) (by omega) (by decide) (by decide)
          have cr11 : r11.toInt = K t x1.toInt (2 + x2.toInt - 1) := by rw [mT pr11 hT (by omega) (by omega) (by omega) (by omega), show z10.toInt = 2 + x2.toInt - 1 by omega]
          refine lv_icmp_lt (tgt := 137) hx hb dX10_isToldGood_130 (by decide) (fun c12 => ?_) (fun c12 => ?_)
          · skip
            have ic12 := tn_lt rfl rfl c12
            refine lv_iconst (v := 0) hx hb dX10_isToldGood_137 (by decide) ?_
            exact tc_pret E hr hlk eH eL (t_nz (by decide) (by decide)).1 (show ((0 : Int32).toInt = 1 ∧ MTd t x1.toInt x2.toInt x3.toInt ∧ 0 ≤ x3.toInt ∧ x3.toInt ≤ 99 ∧ (¬ x2.toInt = 4 ∨ x3.toInt ≤ 9) ∧ (4 ≤ x2.toInt ∨ ¬ K t x1.toInt 1 = 6 ∨ 1 ≤ x3.toInt)) ∨ ((0 : Int32).toInt = 0 ∧ ¬ MTd t x1.toInt x2.toInt x3.toInt) by have kk := kI_0; unfold MTd MBe; omega) dX10_isToldGood_138
          · skip
            have ic12 := tn_nlt rfl rfl c12
            refine lv_iconst (v := 1) hx hb dX10_isToldGood_133 (by decide) ?_
            refine lv_goto (tgt := 138) hx hb dX10_isToldGood_134 (by decide) ?_
            exact tc_pret E hr hlk eH eL (t_nz (by decide) (by decide)).1 (show ((1 : Int32).toInt = 1 ∧ MTd t x1.toInt x2.toInt x3.toInt ∧ 0 ≤ x3.toInt ∧ x3.toInt ≤ 99 ∧ (¬ x2.toInt = 4 ∨ x3.toInt ≤ 9) ∧ (4 ≤ x2.toInt ∨ ¬ K t x1.toInt 1 = 6 ∨ 1 ≤ x3.toInt)) ∨ ((1 : Int32).toInt = 0 ∧ ¬ MTd t x1.toInt x2.toInt x3.toInt) by have kk := kI_1; unfold MTd MBe; omega) dX10_isToldGood_138
        · skip
          have ic8 := tn_eq rfl kI_0 c8
          refine lv_iload_n hx hb dX10_isToldGood_102 rfl (lv_at hl 4 rfl) ?_
          refine lv_aload_n hx hb dX10_isToldGood_103 rfl (lv_at hl 1 rfl) ?_
          refine lv_iload_n hx hb dX10_isToldGood_104 rfl (lv_at hl 2 rfl) ?_
          refine lv_iconst (v := 2) hx hb dX10_isToldGood_105 (by decide) ?_
          refine lv_iload_n hx hb dX10_isToldGood_106 rfl (lv_at hl 3 rfl) ?_
          refine lv_iadd hx hb dX10_isToldGood_107 ?_
          refine lv_topi (fun z13 ez13 => ?_)
          have tz13 := tn_add ez13 kI_2 rfl (by omega) (by omega)
          refine lv_iconst (v := 1) hx hb dX10_isToldGood_108 (by decide) ?_
          refine lv_iadd hx hb dX10_isToldGood_109 ?_
          refine lv_topi (fun z14 ez14 => ?_)
          have tz14 := tn_add ez14 rfl kI_1 (by omega) (by omega)
          refine tc_callp (mc_runV (As := [.int x1, .int z14]) (rest := [.int x3]) E hG (c_X10_get l G Y h0 x1 z14 t0 (by omega) (by omega) (by omega) (by omega)) t0 rfl kv_X10_get ml_X10_91 ⟨rfl, rfl, Nat.le_of_ble_eq_true rfl, Nat.le_of_ble_eq_true rfl⟩ rfl hl.1 rfl (Nat.le_of_ble_eq_true rfl) ⟨Nat.zero_le _, Nat.zero_le _⟩ dX10_isToldGood_110) (fun r15 pr15 => ?_)
          replace pr15 : mV Y (ix x1.toInt z14.toInt) r15 := pr15
          have br15 := mV_r 3 9 (-1) (99) pr15 (by omega) (by omega) (by omega) (by decide) (by decide)
          have cr15 : r15.toInt = K t x1.toInt (2 + x2.toInt + 1) := by rw [mT pr15 hT (by omega) (by omega) (by omega) (by omega), show z14.toInt = 2 + x2.toInt + 1 by omega]
          refine lv_icmp_gt (tgt := 137) hx hb dX10_isToldGood_113 (by decide) (fun c16 => ?_) (fun c16 => ?_)
          · skip
            have ic16 := tn_lt rfl rfl c16
            refine lv_iconst (v := 0) hx hb dX10_isToldGood_137 (by decide) ?_
            exact tc_pret E hr hlk eH eL (t_nz (by decide) (by decide)).1 (show ((0 : Int32).toInt = 1 ∧ MTd t x1.toInt x2.toInt x3.toInt ∧ 0 ≤ x3.toInt ∧ x3.toInt ≤ 99 ∧ (¬ x2.toInt = 4 ∨ x3.toInt ≤ 9) ∧ (4 ≤ x2.toInt ∨ ¬ K t x1.toInt 1 = 6 ∨ 1 ≤ x3.toInt)) ∨ ((0 : Int32).toInt = 0 ∧ ¬ MTd t x1.toInt x2.toInt x3.toInt) by have kk := kI_0; unfold MTd MBe; omega) dX10_isToldGood_138
          · skip
            have ic16 := tn_nlt rfl rfl c16
            refine lv_goto (tgt := 133) hx hb dX10_isToldGood_116 (by decide) ?_
            refine lv_iconst (v := 1) hx hb dX10_isToldGood_133 (by decide) ?_
            refine lv_goto (tgt := 138) hx hb dX10_isToldGood_134 (by decide) ?_
            exact tc_pret E hr hlk eH eL (t_nz (by decide) (by decide)).1 (show ((1 : Int32).toInt = 1 ∧ MTd t x1.toInt x2.toInt x3.toInt ∧ 0 ≤ x3.toInt ∧ x3.toInt ≤ 99 ∧ (¬ x2.toInt = 4 ∨ x3.toInt ≤ 9) ∧ (4 ≤ x2.toInt ∨ ¬ K t x1.toInt 1 = 6 ∨ 1 ≤ x3.toInt)) ∨ ((1 : Int32).toInt = 0 ∧ ¬ MTd t x1.toInt x2.toInt x3.toInt) by have kk := kI_1; unfold MTd MBe; omega) dX10_isToldGood_138
    · skip
      have ic5 := tn_eq rfl kI_0 c5
      refine lv_iconst (v := 0) hx hb dX10_isToldGood_88 (by decide) ?_
      exact tc_pret E hr hlk eH eL (t_nz (by decide) (by decide)).1 (show ((0 : Int32).toInt = 1 ∧ MTd t x1.toInt x2.toInt x3.toInt ∧ 0 ≤ x3.toInt ∧ x3.toInt ≤ 99 ∧ (¬ x2.toInt = 4 ∨ x3.toInt ≤ 9) ∧ (4 ≤ x2.toInt ∨ ¬ K t x1.toInt 1 = 6 ∨ 1 ≤ x3.toInt)) ∨ ((0 : Int32).toInt = 0 ∧ ¬ MTd t x1.toInt x2.toInt x3.toInt) by have kk := kI_0; unfold MTd MBe; omega) dX10_isToldGood_89
  · refine lv_tableIn (off := 27) (tgt := 36) hx hb dX10_isToldGood_9 (by rw [k3]; decide) (by rw [k3]; decide) (by rw [k3]; rfl) (by decide) ?_
    refine lv_iload_n hx hb dX10_isToldGood_36 rfl (lv_at hl 4 rfl) ?_
    refine lv_i2l hx hb dX10_isToldGood_37 rfl ?_
    refine lv_topl (fun z17 ez17 => ?_)
    have tz17 := tl_i2l ez17
    refine lv_lconst (v := 0) hx hb dX10_isToldGood_38 (by decide) ?_
    refine lv_topl (fun z18 ez18 => ?_)
    have tz18 : z18.toInt = 0 := by rw [ez18]; decide
    refine lv_ldc2 (v := 9) hx hb E.2.2.2.1 (E.2.2.2.2.1 _ (t_w6 174 rfl rfl)) dX10_isToldGood_39 ?_
    refine lv_topl (fun z19 ez19 => ?_)
    have tz19 : z19.toInt = 9 := by rw [ez19]; decide
    refine tc_callp (mc_runS (As := [.long z17, .long z18, .long z19]) (rest := []) E hG (c_X10_in l G Y z17 z18 z19) ks_X10_in ml_X10_87 ⟨rfl, rfl, Nat.le_of_ble_eq_true rfl, Nat.le_of_ble_eq_true rfl⟩ rfl hl.1 rfl (Nat.le_of_ble_eq_true rfl) ⟨Nat.zero_le _, Nat.zero_le _⟩ dX10_isToldGood_42) (fun r20 pr20 => ?_)
    replace pr20 : ((r20.toInt = 1 ∧ z18.toInt ≤ z17.toInt ∧ z17.toInt ≤ z19.toInt) ∨ (r20.toInt = 0 ∧ (z17.toInt < z18.toInt ∨ z19.toInt < z17.toInt))) := pr20
    exact tc_pret E hr hlk eH eL (t_nz (by omega) (by omega)).1 (show (r20.toInt = 1 ∧ MTd t x1.toInt x2.toInt x3.toInt ∧ 0 ≤ x3.toInt ∧ x3.toInt ≤ 99 ∧ (¬ x2.toInt = 4 ∨ x3.toInt ≤ 9) ∧ (4 ≤ x2.toInt ∨ ¬ K t x1.toInt 1 = 6 ∨ 1 ≤ x3.toInt)) ∨ (r20.toInt = 0 ∧ ¬ MTd t x1.toInt x2.toInt x3.toInt) by unfold MTd MBe; omega) dX10_isToldGood_45
  · refine lv_tableIn (off := 37) (tgt := 46) hx hb dX10_isToldGood_9 (by rw [k3]; decide) (by rw [k3]; decide) (by rw [k3]; rfl) (by decide) ?_
    refine lv_iload_n hx hb dX10_isToldGood_46 rfl (lv_at hl 4 rfl) ?_
    refine lv_i2l hx hb dX10_isToldGood_47 rfl ?_
    refine lv_topl (fun z21 ez21 => ?_)
    have tz21 := tl_i2l ez21
    refine lv_lconst (v := 0) hx hb dX10_isToldGood_48 (by decide) ?_
    refine lv_topl (fun z22 ez22 => ?_)
    have tz22 : z22.toInt = 0 := by rw [ez22]; decide
    refine lv_aload_n hx hb dX10_isToldGood_49 rfl (lv_at hl 1 rfl) ?_
    refine lv_iload_n hx hb dX10_isToldGood_50 rfl (lv_at hl 2 rfl) ?_
    refine lv_bipush (v := 8) hx hb dX10_isToldGood_51 (by decide) ?_
    refine tc_callp (mc_runV (As := [.int x1, .int 8]) (rest := [.long z22, .long z21]) E hG (c_X10_get l G Y h0 x1 (8 : Int32) t0 (by omega) (by omega) (by decide) (by decide)) t0 rfl kv_X10_get ml_X10_91 ⟨rfl, rfl, Nat.le_of_ble_eq_true rfl, Nat.le_of_ble_eq_true rfl⟩ rfl hl.1 rfl (Nat.le_of_ble_eq_true rfl) ⟨Nat.zero_le _, Nat.zero_le _⟩ dX10_isToldGood_53) (fun r23 pr23 => ?_)
    replace pr23 : mV Y (ix x1.toInt (8 : Int32).toInt) r23 := pr23
    have pr23 := mV_l pr23 kI_8
    have br23 := mV_8 pr23 (by omega)
    have cr23 := mT pr23 hT (by omega) (by omega) (by decide) (by decide)
    have k24 := kI_8
    refine lv_i2l hx hb dX10_isToldGood_56 rfl ?_
    refine lv_topl (fun z25 ez25 => ?_)
    have tz25 := tl_i2l ez25
    refine tc_callp (mc_runS (As := [.long z21, .long z22, .long z25]) (rest := []) E hG (c_X10_in l G Y z21 z22 z25) ks_X10_in ml_X10_87 ⟨rfl, rfl, Nat.le_of_ble_eq_true rfl, Nat.le_of_ble_eq_true rfl⟩ rfl hl.1 rfl (Nat.le_of_ble_eq_true rfl) ⟨Nat.zero_le _, Nat.zero_le _⟩ dX10_isToldGood_57) (fun r26 pr26 => ?_)
    replace pr26 : ((r26.toInt = 1 ∧ z22.toInt ≤ z21.toInt ∧ z21.toInt ≤ z25.toInt) ∨ (r26.toInt = 0 ∧ (z21.toInt < z22.toInt ∨ z25.toInt < z21.toInt))) := pr26
    exact tc_pret E hr hlk eH eL (t_nz (by omega) (by omega)).1 (show (r26.toInt = 1 ∧ MTd t x1.toInt x2.toInt x3.toInt ∧ 0 ≤ x3.toInt ∧ x3.toInt ≤ 99 ∧ (¬ x2.toInt = 4 ∨ x3.toInt ≤ 9) ∧ (4 ≤ x2.toInt ∨ ¬ K t x1.toInt 1 = 6 ∨ 1 ≤ x3.toInt)) ∨ (r26.toInt = 0 ∧ ¬ MTd t x1.toInt x2.toInt x3.toInt) by unfold MTd MBe; omega) dX10_isToldGood_60
  · refine lv_tableIn (off := 52) (tgt := 61) hx hb dX10_isToldGood_9 (by rw [k3]; decide) (by rw [k3]; decide) (by rw [k3]; rfl) (by decide) ?_
    refine lv_iload_n hx hb dX10_isToldGood_61 rfl (lv_at hl 4 rfl) ?_
    refine lv_i2l hx hb dX10_isToldGood_62 rfl ?_
    refine lv_topl (fun z27 ez27 => ?_)
    have tz27 := tl_i2l ez27
    refine lv_aload_n hx hb dX10_isToldGood_63 rfl (lv_at hl 1 rfl) ?_
    refine lv_iload_n hx hb dX10_isToldGood_64 rfl (lv_at hl 2 rfl) ?_
    refine lv_bipush (v := 7) hx hb dX10_isToldGood_65 (by decide) ?_
    refine tc_callp (mc_runV (As := [.int x1, .int 7]) (rest := [.long z27]) E hG (c_X10_get l G Y h0 x1 (7 : Int32) t0 (by omega) (by omega) (by decide) (by decide)) t0 rfl kv_X10_get ml_X10_91 ⟨rfl, rfl, Nat.le_of_ble_eq_true rfl, Nat.le_of_ble_eq_true rfl⟩ rfl hl.1 rfl (Nat.le_of_ble_eq_true rfl) ⟨Nat.zero_le _, Nat.zero_le _⟩ dX10_isToldGood_67) (fun r28 pr28 => ?_)
    replace pr28 : mV Y (ix x1.toInt (7 : Int32).toInt) r28 := pr28
    have pr28 := mV_l pr28 kI_7
    have br28 := mV_7 pr28 (by omega)
    have cr28 := mT pr28 hT (by omega) (by omega) (by decide) (by decide)
    have k29 := kI_7
    refine lv_i2l hx hb dX10_isToldGood_70 rfl ?_
    refine lv_topl (fun z30 ez30 => ?_)
    have tz30 := tl_i2l ez30
    refine lv_ldc2 (v := 99) hx hb E.2.2.2.1 (E.2.2.2.2.1 _ (t_w6 226 rfl rfl)) dX10_isToldGood_71 ?_
    refine lv_topl (fun z31 ez31 => ?_)
    have tz31 : z31.toInt = 99 := by rw [ez31]; decide
    refine tc_callp (mc_runS (As := [.long z27, .long z30, .long z31]) (rest := []) E hG (c_X10_in l G Y z27 z30 z31) ks_X10_in ml_X10_87 ⟨rfl, rfl, Nat.le_of_ble_eq_true rfl, Nat.le_of_ble_eq_true rfl⟩ rfl hl.1 rfl (Nat.le_of_ble_eq_true rfl) ⟨Nat.zero_le _, Nat.zero_le _⟩ dX10_isToldGood_74) (fun r32 pr32 => ?_)
    replace pr32 : ((r32.toInt = 1 ∧ z30.toInt ≤ z27.toInt ∧ z27.toInt ≤ z31.toInt) ∨ (r32.toInt = 0 ∧ (z27.toInt < z30.toInt ∨ z31.toInt < z27.toInt))) := pr32
    exact tc_pret E hr hlk eH eL (t_nz (by omega) (by omega)).1 (show (r32.toInt = 1 ∧ MTd t x1.toInt x2.toInt x3.toInt ∧ 0 ≤ x3.toInt ∧ x3.toInt ≤ 99 ∧ (¬ x2.toInt = 4 ∨ x3.toInt ≤ 9) ∧ (4 ≤ x2.toInt ∨ ¬ K t x1.toInt 1 = 6 ∨ 1 ≤ x3.toInt)) ∨ (r32.toInt = 0 ∧ ¬ MTd t x1.toInt x2.toInt x3.toInt) by unfold MTd MBe; omega) dX10_isToldGood_77

