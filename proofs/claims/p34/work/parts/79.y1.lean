/-! ===== the reference's tapes ===== -/
def vX (X : mX) (T : wT) : mX := fun c k => if c = 21 then (if k < 4 then some (T.1 k + 1) else none) else if c = 22 then (if k < 4 then some (T.2 k) else none) else if c = 23 ∨ c = 24 then none else X c k
theorem vX_21 {X : mX} {T : wT} {k : Nat} (h : k < 4) : vX X T 21 k = some (T.1 k + 1) := by unfold vX; rw [if_pos rfl, if_pos h]
theorem vX_22 {X : mX} {T : wT} {k : Nat} (h : k < 4) : vX X T 22 k = some (T.2 k) := by unfold vX; rw [if_neg (by decide), if_pos rfl, if_pos h]
theorem vX_23 {X : mX} {T : wT} (k : Nat) : vX X T 23 k = none := by unfold vX; rw [if_neg (by decide), if_neg (by decide), if_pos (Or.inl rfl)]
theorem vX_24 {X : mX} {T : wT} (k : Nat) : vX X T 24 k = none := by unfold vX; rw [if_neg (by decide), if_neg (by decide), if_pos (Or.inr rfl)]
theorem vX_up1 {σ : Nat → Nat} {cu : Nat} {X : mX} {T : wT} {n : Nat} {s : Int32} (hn : n < 4) : mSet (σ, cu, vX X T) 21 n (some (s + 1)) = (σ, cu, vX X (up1 T.1 n s, T.2)) := by
  unfold mSet
  refine Prod.ext rfl (Prod.ext rfl (funext fun c => funext fun k => ?_))
  show (if c = 21 ∧ k = n then some (s + 1) else vX X T c k) = vX X (up1 T.1 n s, T.2) c k
  unfold vX
  by_cases e : c = 21
  · rw [if_pos e, if_pos e]
    by_cases ek : k = n
    · rw [if_pos ⟨e, ek⟩, if_pos (by omega), ek]
      show some (s + 1) = some (up1 T.1 n s n + 1)
      rw [up1_at]
    · rw [if_neg (fun z => ek z.2)]
      show _ = (if k < 4 then some (up1 T.1 n s k + 1) else none)
      rw [up1_ne ek]
  · rw [if_neg (fun z => e z.1), if_neg e, if_neg e]
theorem vX_up2 {σ : Nat → Nat} {cu : Nat} {X : mX} {T : wT} {n : Nat} {s : Int32} (hn : n < 4) : mSet (σ, cu, vX X T) 22 n (some s) = (σ, cu, vX X (T.1, up1 T.2 n s)) := by
  unfold mSet
  refine Prod.ext rfl (Prod.ext rfl (funext fun c => funext fun k => ?_))
  show (if c = 22 ∧ k = n then some s else vX X T c k) = vX X (T.1, up1 T.2 n s) c k
  unfold vX
  by_cases e1 : c = 21
  · rw [if_neg (fun z => by omega), if_pos e1, if_pos e1]
  · rw [if_neg e1, if_neg e1]
    by_cases e : c = 22
    · rw [if_pos e, if_pos e]
      by_cases ek : k = n
      · rw [if_pos ⟨e, ek⟩, if_pos (by omega), ek]
        show some s = some (up1 T.2 n s n)
        rw [up1_at]
      · rw [if_neg (fun z => ek z.2)]
        show _ = (if k < 4 then some (up1 T.2 n s k) else none)
        rw [up1_ne ek]
    · rw [if_neg (fun z => e z.1), if_neg e, if_neg e]
theorem mv_21 {σ : Nat → Nat} {cu : Nat} {X : mX} {T : wT} {i z : Int32} (hI : wIn T) (q : ∀ y, ((σ, cu, vX X T) : mY).2.2 21 i.toNatClampNeg = some y → z = y) (h1 : 0 ≤ i.toInt) (h2 : i.toInt ≤ 3) : z.toInt = (T.1 i.toInt.toNat).toInt + 1 := by
  have hn : i.toInt.toNat < 4 := by omega
  have e := q _ (vX_21 (X := X) (show i.toNatClampNeg < 4 from hn))
  have hI9 := hI _ hn
  exact tn_add e rfl kI_1 (by have k1 := kI_1; show _ ≤ (T.1 i.toInt.toNat).toInt + 1; omega) (by show (T.1 i.toInt.toNat).toInt + 1 ≤ _; omega)
theorem mv_22 {σ : Nat → Nat} {cu : Nat} {X : mX} {T : wT} {i z : Int32} (q : ∀ y, ((σ, cu, vX X T) : mY).2.2 22 i.toNatClampNeg = some y → z = y) (h1 : 0 ≤ i.toInt) (h2 : i.toInt ≤ 3) : z.toInt = (T.2 i.toInt.toNat).toInt := by
  have hn : i.toInt.toNat < 4 := by omega
  have e := q _ (vX_22 (X := X) (show i.toNatClampNeg < 4 from hn))
  rw [e]; rfl
section MV
variable {p : Program} {l : Launch} {e : Env} {R : Room} {s : State} {m : MethodId} {args : Array Value} {below : List Frame} {meth : Method} {c : Code} {H : Heap} {locs : List Loc} {Q : State → Prop}
variable {cc : ByteArray} {pc : Nat} {ls : Array Slot} {rest : List Value} {a b t k index n : Nat} {G : tG} {nL : Nat} {Y : mY} {i : Int32} {cells slots : Nat} {σ : Nat → Nat} {cu : Nat} {X : mX} {T : wT}
theorem mc_getT (E : tE G p s m c args RX10 cc nL) (hG : mGH G Y s H locs) (ha : Y.1 a = 1) {u j : Nat} (tb : Y.1 (G.2.2.1 u) = j) (hF : tFf RX10 index 9 k) (hd : mFD 1 k = (4, (u : Int), 0)) (hdg : decode cc pc = .ok (.getfield index, 3))
    (kk : ∀ b : Nat, Y.1 b = j → W p l e R s m args below meth c H locs cells slots Q (F0 m (pc + 3) ls (.ref b :: rest))) : W p l e R s m args below meth c H locs cells slots Q (F0 m pc ls (.ref a :: rest)) := by
  refine tg_get E hG.1 (mΓ_at ha (by decide)) hF hdg (fun v hv => ?_)
  unfold msv at hv
  rw [hd] at hv
  have hv : v = .ref (G.2.2.1 u) := hv
  rw [hv]
  exact kk _ tb
theorem mv_ast1 (E : tE G p s m c args RX10 cc nL) (hG : mGH G (σ, cu, vX X T) s H locs) (ha : σ a = 21) (hin : vp_in i 4) {x sx : Int32} (ex : x = sx + 1) (h1 : 0 ≤ x.toInt) (h2 : x.toInt ≤ 4) (hdg : decode cc pc = .ok (.iastore, 1))
    (kk : ∀ (H1 : Heap) (locs1 : List Loc), mGH G (σ, cu, vX X (up1 T.1 i.toInt.toNat sx, T.2)) s H1 locs1 → W p l e R s m args below meth c H1 locs1 cells slots Q (F0 m (pc + 1) ls rest)) : W p l e R s m args below meth c H locs cells slots Q (F0 m pc ls (.int x :: .int i :: .ref a :: rest)) := by
  refine mc_iastX E hG ha (by decide) rfl (lo := 0) (hi := 4) rfl hin h1 h2 hdg (fun H1 locs1 hG1 => kk H1 locs1 ?_)
  have e := vX_up1 (σ := σ) (cu := cu) (X := X) (T := T) (s := sx) (t_inL hin)
  rw [ex] at hG1
  rw [e] at hG1
  exact hG1
theorem mv_ast2 (E : tE G p s m c args RX10 cc nL) (hG : mGH G (σ, cu, vX X T) s H locs) (ha : σ a = 22) (hin : vp_in i 4) {x : Int32} (h1 : 0 ≤ x.toInt) (h2 : x.toInt ≤ 60) (hdg : decode cc pc = .ok (.iastore, 1))
    (kk : ∀ (H1 : Heap) (locs1 : List Loc), mGH G (σ, cu, vX X (T.1, up1 T.2 i.toInt.toNat x)) s H1 locs1 → W p l e R s m args below meth c H1 locs1 cells slots Q (F0 m (pc + 1) ls rest)) : W p l e R s m args below meth c H locs cells slots Q (F0 m pc ls (.int x :: .int i :: .ref a :: rest)) := by
  refine mc_iastX E hG ha (by decide) rfl (lo := 0) (hi := 60) rfl hin h1 h2 hdg (fun H1 locs1 hG1 => kk H1 locs1 ?_)
  have e := vX_up2 (σ := σ) (cu := cu) (X := X) (T := T) (s := x) (t_inL hin)
  rw [e] at hG1
  exact hG1
end MV
set_option maxHeartbeats 4000000 in
set_option maxRecDepth 100000 in
theorem c_X10_peek (l : Launch) (G : tG) (Y : mY) (h0 : Nat) (x1 : Int32) (x2 : Int32) (t0 : Y.1 h0 = 1) (tb1 : Y.1 (G.2.2.1 14) = 21) (tb2 : Y.1 (G.2.2.1 15) = 22) (tb3 : Y.1 (G.2.2.1 16) = 23) (tb4 : Y.1 (G.2.2.1 17) = 24) : Met l yX10_peek (.code yX10_peek cX10_peek 3 (some .long) :: tWS) (tRm 2 45) (va_Pc [.ref h0, .int x1, .int x2] (mPre G Y)) (tQpl (fun r => True)) 0 0 tNo := by
  refine mc_met (by decide) (Nat.le_of_ble_eq_true rfl) ?_
  intro p e s m below meth c E hr hlk hG ls hl
  have hl : lv_has ls 3 [(0, .ref h0), (1, .int x1), (2, .int x2)] := hl
  have hx := E.1
  have hb := E.2.1
  obtain ⟨H, eH⟩ : ∃ H, H = s.heap := ⟨_, rfl⟩
  obtain ⟨locs, eL⟩ : ∃ x : List Loc, x = [] := ⟨_, rfl⟩
  have hG : mGH G Y s H locs := by rw [eH, eL]; exact hG
  suffices hW : W p l e (tRm 2 45) s m ([.ref h0, .int x1, .int x2] : List Value).toArray below meth c H locs 0 0 (MQ below (tQpl (fun r => True)) ([.ref h0, .int x1, .int x2] : List Value).toArray s 0 0 tNo) (F0 m 0 ls []) by subst eH; subst eL; exact hW
  refine lv_iload_n hx hb dX10_peek_0 rfl (lv_at hl 1 rfl) ?_
  refine tc_callp (mc_runS (As := [.int x1]) (rest := []) E hG (c_X10_isTape l G Y x1) ks_X10_isTape ml_X10_440 ⟨rfl, rfl, Nat.le_of_ble_eq_true rfl, Nat.le_of_ble_eq_true rfl⟩ rfl hl.1 rfl (Nat.le_of_ble_eq_true rfl) ⟨Nat.zero_le _, Nat.zero_le _⟩ dX10_peek_1) (fun r1 pr1 => ?_)
  replace pr1 : (r1.toInt = 1 ∧ 0 ≤ x1.toInt ∧ x1.toInt ≤ 3) ∨ (r1.toInt = 0 ∧ (x1.toInt < 0 ∨ 3 < x1.toInt)) := pr1
  refine lv_if_eq (tgt := 39) hx hb dX10_peek_4 (by decide) (fun c2 => ?_) (fun c2 => ?_)
  · skip
    have ic2 := tn_eq rfl kI_0 c2
    refine lv_ldc2 (v := -9223372036854775808) hx hb E.2.2.2.1 (E.2.2.2.2.1 _ (t_w8 111 rfl rfl)) dX10_peek_39 ?_
    refine lv_topl (fun z3 ez3 => ?_)
    have tz3 : z3.toInt = -9223372036854775808 := by rw [ez3]; decide
    exact tc_plret E hr hlk eH eL trivial dX10_peek_42
  · skip
    have ic2 := tn_ne rfl kI_0 c2
    refine lv_iload_n hx hb dX10_peek_7 rfl (lv_at hl 2 rfl) ?_
    refine lv_i2l hx hb dX10_peek_8 rfl ?_
    refine lv_topl (fun z4 ez4 => ?_)
    have tz4 := tl_i2l ez4
    refine lv_lconst (v := 0) hx hb dX10_peek_9 (by decide) ?_
    refine lv_topl (fun z5 ez5 => ?_)
    have tz5 : z5.toInt = 0 := by rw [ez5]; decide
    refine lv_aload_n hx hb dX10_peek_10 rfl (lv_at hl 0 rfl) ?_
    refine mc_getT E hG t0 tb2 ff_X10_75 rfl dX10_peek_11 (fun oa6 hoa6 => ?_)
    refine lv_iload_n hx hb dX10_peek_14 rfl (lv_at hl 1 rfl) ?_
    refine mc_iald E hG hoa6 ma_22 (t_in (by omega) (by omega)) dX10_peek_15 (fun z7 lz7 uz7 qz7 => ?_)
    refine lv_iconst (v := 1) hx hb dX10_peek_16 (by decide) ?_
    refine lv_isub hx hb dX10_peek_17 ?_
    refine lv_topi (fun z8 ez8 => ?_)
    have tz8 := tn_sub ez8 rfl kI_1 (by omega) (by omega)
    refine lv_i2l hx hb dX10_peek_18 rfl ?_
    refine lv_topl (fun z9 ez9 => ?_)
    have tz9 := tl_i2l ez9
    refine tc_callp (mc_runS (As := [.long z4, .long z5, .long z9]) (rest := []) E hG (c_X10_in l G Y z4 z5 z9) ks_X10_in ml_X10_87 ⟨rfl, rfl, Nat.le_of_ble_eq_true rfl, Nat.le_of_ble_eq_true rfl⟩ rfl hl.1 rfl (Nat.le_of_ble_eq_true rfl) ⟨Nat.zero_le _, Nat.zero_le _⟩ dX10_peek_19) (fun r10 pr10 => ?_)
    replace pr10 : ((r10.toInt = 1 ∧ z5.toInt ≤ z4.toInt ∧ z4.toInt ≤ z9.toInt) ∨ (r10.toInt = 0 ∧ (z4.toInt < z5.toInt ∨ z9.toInt < z4.toInt))) := pr10
    refine lv_if_eq (tgt := 39) hx hb dX10_peek_22 (by decide) (fun c11 => ?_) (fun c11 => ?_)
    · skip
      have ic11 := tn_eq rfl kI_0 c11
      refine lv_ldc2 (v := -9223372036854775808) hx hb E.2.2.2.1 (E.2.2.2.2.1 _ (t_w8 111 rfl rfl)) dX10_peek_39 ?_
      refine lv_topl (fun z12 ez12 => ?_)
      have tz12 : z12.toInt = -9223372036854775808 := by rw [ez12]; decide
      exact tc_plret E hr hlk eH eL trivial dX10_peek_42
    · skip
      have ic11 := tn_ne rfl kI_0 c11
      refine lv_aload_n hx hb dX10_peek_25 rfl (lv_at hl 0 rfl) ?_
      refine mc_getT E hG t0 tb3 ff_X10_78 rfl dX10_peek_26 (fun oa13 hoa13 => ?_)
      refine lv_bipush (v := 60) hx hb dX10_peek_29 (by decide) ?_
      refine lv_iload_n hx hb dX10_peek_31 rfl (lv_at hl 1 rfl) ?_
      refine lv_imul hx hb dX10_peek_32 ?_
      refine lv_topi (fun z14 ez14 => ?_)
      have tz14 := tn_mul ez14 kI_60 rfl (by omega) (by omega)
      refine lv_iload_n hx hb dX10_peek_33 rfl (lv_at hl 2 rfl) ?_
      refine lv_iadd hx hb dX10_peek_34 ?_
      refine lv_topi (fun z15 ez15 => ?_)
      have tz15 := tn_add ez15 rfl rfl (by omega) (by omega)
      refine mc_lald E hG hoa13 mal_23 (t_in (by omega) (by omega)) dX10_peek_35 (fun z16 => ?_)
      refine lv_goto (tgt := 42) hx hb dX10_peek_36 (by decide) ?_
      exact tc_plret E hr hlk eH eL trivial dX10_peek_42

set_option maxHeartbeats 4000000 in
set_option maxRecDepth 100000 in
theorem c_X10_judge (l : Launch) (G : tG) (Y : mY) (h0 : Nat) (x1 : Int32) (x2 : Int32) (t0 : Y.1 h0 = 1) (tb1 : Y.1 (G.2.2.1 14) = 21) (tb2 : Y.1 (G.2.2.1 15) = 22) (tb3 : Y.1 (G.2.2.1 16) = 23) (tb4 : Y.1 (G.2.2.1 17) = 24) : Met l yX10_judge (.code yX10_judge cX10_judge 5 (some .int) :: tWS) (tRm 2 46) (va_Pc [.ref h0, .int x1, .int x2] (mPre G Y)) (tQp (fun r => True)) 0 0 tNo := by
  refine mc_met (by decide) (Nat.le_of_ble_eq_true rfl) ?_
  intro p e s m below meth c E hr hlk hG ls hl
  have hl : lv_has ls 5 [(0, .ref h0), (1, .int x1), (2, .int x2)] := hl
  have hx := E.1
  have hb := E.2.1
  obtain ⟨H, eH⟩ : ∃ H, H = s.heap := ⟨_, rfl⟩
  obtain ⟨locs, eL⟩ : ∃ x : List Loc, x = [] := ⟨_, rfl⟩
  have hG : mGH G Y s H locs := by rw [eH, eL]; exact hG
  suffices hW : W p l e (tRm 2 46) s m ([.ref h0, .int x1, .int x2] : List Value).toArray below meth c H locs 0 0 (MQ below (tQp (fun r => True)) ([.ref h0, .int x1, .int x2] : List Value).toArray s 0 0 tNo) (F0 m 0 ls []) by subst eH; subst eL; exact hW
  have J36 : ∀ (n36 : Nat) (ls : Array Slot) (v3 : Int32) (v4 : Int32), lv_has ls 5 [(0, .ref h0), (1, .int x1), (2, .int x2), (3, .int v3), (4, .int v4)] → 0 ≤ x1.toInt → x1.toInt ≤ 3 → 0 ≤ v3.toInt → v3.toInt ≤ 24 → 0 ≤ v4.toInt → v4.toInt ≤ 24 → v3.toInt ≤ v4.toInt → (24 - v4.toInt).toNat < n36 → W p l e (tRm 2 46) s m ([.ref h0, .int x1, .int x2] : List Value).toArray below meth c H locs 0 0 (MQ below (tQp (fun r => True)) ([.ref h0, .int x1, .int x2] : List Value).toArray s 0 0 tNo) (F0 m 36 ls []) := by
    intro n36
    induction n36 with
    | zero => intro ls v3 v4 hl bp1 cp1 b3 c3 b4 c4 hex36 hn36; exact absurd hn36 (Nat.not_lt_zero _)
    | succ n36 ih36 =>
      intro ls v3 v4 hl bp1 cp1 b3 c3 b4 c4 hex36 hn36
      refine lv_iload hx hb dX10_judge_36 (lv_at hl 4 rfl) ?_
      refine lv_bipush (v := 24) hx hb dX10_judge_38 (by decide) ?_
      refine lv_icmp_ge (tgt := 115) hx hb dX10_judge_40 (by decide) (fun c1 => ?_) (fun c1 => ?_)
      · skip
        have ic1 := tn_le kI_24 rfl c1
        refine lv_bipush (v := -5) hx hb dX10_judge_115 (by decide) ?_
        exact tc_pret E hr hlk eH eL rfl trivial dX10_judge_117
      · skip
        have ic1 := tn_nle kI_24 rfl c1
        refine lv_aload_n hx hb dX10_judge_43 rfl (lv_at hl 0 rfl) ?_
        refine lv_iload hx hb dX10_judge_44 (lv_at hl 4 rfl) ?_
        refine tc_callp (mc_runV (As := [.int v4]) (rest := []) E hG (c_X10_isBox l G Y h0 v4 t0) t0 rfl kv_X10_isBox ml_X10_127 ⟨rfl, rfl, Nat.le_of_ble_eq_true rfl, Nat.le_of_ble_eq_true rfl⟩ rfl hl.1 rfl (Nat.le_of_ble_eq_true rfl) ⟨Nat.zero_le _, Nat.zero_le _⟩ dX10_judge_46) (fun r2 pr2 => ?_)
        replace pr2 : (r2.toInt = 1 ∧ 0 ≤ v4.toInt ∧ v4.toInt ≤ 23 ∧ mV Y (ix v4.toInt 0) 1) ∨ (r2.toInt = 0 ∧ (v4.toInt < 0 ∨ 23 < v4.toInt ∨ ∃ v : Int32, ¬ v.toInt = 1 ∧ mV Y (ix v4.toInt 0) v)) := pr2
        replace pr2 := isB_w pr2
        refine lv_if_eq (tgt := 109) hx hb dX10_judge_49 (by decide) (fun c3 => ?_) (fun c3 => ?_)
        · skip
          have ic3 := tn_eq rfl kI_0 c3
          obtain ⟨z4, ez4⟩ : ∃ y : Int32, y = v4 + (1) := ⟨_, rfl⟩
          refine lv_iinc (v := z4) (lv' := [(4, .int z4), (0, .ref h0), (1, .int x1), (2, .int x2), (3, .int v3)]) hx hb dX10_judge_109 hl (k := 4) rfl (by rw [ez4]; rfl) (by decide) rfl (fun ls hl => ?_)
          have tz4 := tn_add ez4 rfl kI_1 (by omega) (by omega)
          refine lv_goto (tgt := 36) hx hb dX10_judge_112 (by decide) ?_
          exact ih36 ls v3 z4 (lv_sub hl [1, 2, 3, 4, 0] rfl) (by omega) (by omega) (by omega) (by omega) (by omega) (by omega) (by have k0 := kI_0; have k1 := kI_1; omega) (by omega)
        · skip
          have ic3 := tn_ne rfl kI_0 c3
          refine lv_iload_n hx hb dX10_judge_52 rfl (lv_at hl 2 rfl) ?_
          refine lv_if_lt (tgt := 72) hx hb dX10_judge_53 (by decide) (fun c5 => ?_) (fun c5 => ?_)
          · skip
            have ic5 := tn_lt rfl kI_0 c5
            refine lv_bipush (v := 100) hx hb dX10_judge_72 (by decide) ?_
            refine lv_iload_n hx hb dX10_judge_74 rfl (lv_at hl 3 rfl) ?_
            refine lv_iadd hx hb dX10_judge_75 ?_
            refine lv_topi (fun z6 ez6 => ?_)
            have tz6 := tn_add ez6 kI_100 rfl (by omega) (by omega)
            exact tc_pret E hr hlk eH eL rfl trivial dX10_judge_76
          · skip
            have ic5 := tn_nlt rfl kI_0 c5
            refine lv_iload_n hx hb dX10_judge_56 rfl (lv_at hl 2 rfl) ?_
            refine lv_i2l hx hb dX10_judge_57 rfl ?_
            refine lv_topl (fun z7 ez7 => ?_)
            have tz7 := tl_i2l ez7
            refine lv_iload_n hx hb dX10_judge_58 rfl (lv_at hl 3 rfl) ?_
            refine lv_i2l hx hb dX10_judge_59 rfl ?_
            refine lv_topl (fun z8 ez8 => ?_)
            have tz8 := tl_i2l ez8
            refine lv_ladd hx hb dX10_judge_60 ?_
            refine lv_topl (fun z9 ez9 => ?_)
            have y10 := t_any2 x2
            have tz9 := tl_add ez9 tz7 tz8 (by omega) (by omega)
            refine lv_aload_n hx hb dX10_judge_61 rfl (lv_at hl 0 rfl) ?_
            refine mc_getT E hG t0 tb2 ff_X10_75 rfl dX10_judge_62 (fun oa11 hoa11 => ?_)
            refine lv_iload_n hx hb dX10_judge_65 rfl (lv_at hl 1 rfl) ?_
            refine mc_iald E hG hoa11 ma_22 (t_in (by omega) (by omega)) dX10_judge_66 (fun z12 lz12 uz12 qz12 => ?_)
            refine lv_i2l hx hb dX10_judge_67 rfl ?_
            refine lv_topl (fun z13 ez13 => ?_)
            have tz13 := tl_i2l ez13
            refine W.lcmp hx hb dX10_judge_68 ?_
            refine lv_topi (fun z14 ez14 => ?_)
            have tz14 := tl_cmp ez14
            refine lv_if_lt (tgt := 77) hx hb dX10_judge_69 (by decide) (fun c15 => ?_) (fun c15 => ?_)
            · skip
              have ic15 := tn_lt rfl kI_0 c15
              refine lv_aload_n hx hb dX10_judge_77 rfl (lv_at hl 0 rfl) ?_
              refine mc_getT E hG t0 tb3 ff_X10_78 rfl dX10_judge_78 (fun oa16 hoa16 => ?_)
              refine lv_bipush (v := 60) hx hb dX10_judge_81 (by decide) ?_
              refine lv_iload_n hx hb dX10_judge_83 rfl (lv_at hl 1 rfl) ?_
              refine lv_imul hx hb dX10_judge_84 ?_
              refine lv_topi (fun z17 ez17 => ?_)
              have tz17 := tn_mul ez17 kI_60 rfl (by omega) (by omega)
              refine lv_iload_n hx hb dX10_judge_85 rfl (lv_at hl 2 rfl) ?_
              refine lv_iadd hx hb dX10_judge_86 ?_
              refine lv_topi (fun z18 ez18 => ?_)
              have tz18 := tn_add ez18 rfl rfl (by omega) (by omega)
              refine lv_iload_n hx hb dX10_judge_87 rfl (lv_at hl 3 rfl) ?_
              refine lv_iadd hx hb dX10_judge_88 ?_
              refine lv_topi (fun z19 ez19 => ?_)
              have tz19 := tn_add ez19 rfl rfl (by omega) (by omega)
              refine mc_lald E hG hoa16 mal_23 (t_in (by omega) (by omega)) dX10_judge_89 (fun z20 => ?_)
              refine lv_aload_n hx hb dX10_judge_90 rfl (lv_at hl 0 rfl) ?_
              refine lv_iload hx hb dX10_judge_91 (lv_at hl 4 rfl) ?_
              refine lv_bipush (v := 32) hx hb dX10_judge_93 (by decide) ?_
              refine tc_callp (mc_runV (As := [.int v4, .int 32]) (rest := [.long z20]) E hG (c_X10_get l G Y h0 v4 (32 : Int32) t0 (by omega) (by omega) (by decide) (by decide)) t0 rfl kv_X10_get ml_X10_91 ⟨rfl, rfl, Nat.le_of_ble_eq_true rfl, Nat.le_of_ble_eq_true rfl⟩ rfl hl.1 rfl (Nat.le_of_ble_eq_true rfl) ⟨Nat.zero_le _, Nat.zero_le _⟩ dX10_judge_95) (fun r21 pr21 => ?_)
              replace pr21 : mV Y (ix v4.toInt (32 : Int32).toInt) r21 := pr21
              have pr21 := mV_l pr21 kI_32
              have br21 := mV_32 pr21 (by omega)
              have k22 := kI_32
              refine lv_i2l hx hb dX10_judge_98 rfl ?_
              refine lv_topl (fun z23 ez23 => ?_)
              have tz23 := tl_i2l ez23
              refine W.lcmp hx hb dX10_judge_99 ?_
              refine lv_topi (fun z24 ez24 => ?_)
              have tz24 := tl_cmp ez24
              refine lv_if_eq (tgt := 106) hx hb dX10_judge_100 (by decide) (fun c25 => ?_) (fun c25 => ?_)
              · skip
                have ic25 := tn_eq rfl kI_0 c25
                obtain ⟨z26, ez26⟩ : ∃ y : Int32, y = v3 + (1) := ⟨_, rfl⟩
                refine lv_iinc (v := z26) (lv' := [(3, .int z26), (0, .ref h0), (1, .int x1), (2, .int x2), (4, .int v4)]) hx hb dX10_judge_106 hl (k := 3) rfl (by rw [ez26]; rfl) (by decide) rfl (fun ls hl => ?_)
                have tz26 := tn_add ez26 rfl kI_1 (by omega) (by omega)
                obtain ⟨z27, ez27⟩ : ∃ y : Int32, y = v4 + (1) := ⟨_, rfl⟩
                refine lv_iinc (v := z27) (lv' := [(4, .int z27), (3, .int z26), (0, .ref h0), (1, .int x1), (2, .int x2)]) hx hb dX10_judge_109 hl (k := 4) rfl (by rw [ez27]; rfl) (by decide) rfl (fun ls hl => ?_)
                have tz27 := tn_add ez27 rfl kI_1 (by omega) (by omega)
                refine lv_goto (tgt := 36) hx hb dX10_judge_112 (by decide) ?_
                exact ih36 ls z26 z27 (lv_sub hl [2, 3, 4, 1, 0] rfl) (by omega) (by omega) (by omega) (by omega) (by omega) (by omega) (by have k0 := kI_0; have k1 := kI_1; omega) (by omega)
              · skip
                have ic25 := tn_ne rfl kI_0 c25
                refine lv_iload hx hb dX10_judge_103 (lv_at hl 4 rfl) ?_
                exact tc_pret E hr hlk eH eL rfl trivial dX10_judge_105
            · skip
              have ic15 := tn_nlt rfl kI_0 c15
              refine lv_bipush (v := 100) hx hb dX10_judge_72 (by decide) ?_
              refine lv_iload_n hx hb dX10_judge_74 rfl (lv_at hl 3 rfl) ?_
              refine lv_iadd hx hb dX10_judge_75 ?_
              refine lv_topi (fun z28 ez28 => ?_)
              have tz28 := tn_add ez28 kI_100 rfl (by omega) (by omega)
              exact tc_pret E hr hlk eH eL rfl trivial dX10_judge_76
  refine lv_iload_n hx hb dX10_judge_0 rfl (lv_at hl 1 rfl) ?_
  refine tc_callp (mc_runS (As := [.int x1]) (rest := []) E hG (c_X10_isTape l G Y x1) ks_X10_isTape ml_X10_440 ⟨rfl, rfl, Nat.le_of_ble_eq_true rfl, Nat.le_of_ble_eq_true rfl⟩ rfl hl.1 rfl (Nat.le_of_ble_eq_true rfl) ⟨Nat.zero_le _, Nat.zero_le _⟩ dX10_judge_1) (fun r29 pr29 => ?_)
  replace pr29 : (r29.toInt = 1 ∧ 0 ≤ x1.toInt ∧ x1.toInt ≤ 3) ∨ (r29.toInt = 0 ∧ (x1.toInt < 0 ∨ 3 < x1.toInt)) := pr29
  refine lv_if_ne (tgt := 9) hx hb dX10_judge_4 (by decide) (fun c30 => ?_) (fun c30 => ?_)
  · skip
    have ic30 := tn_ne rfl kI_0 c30
    refine lv_aload_n hx hb dX10_judge_9 rfl (lv_at hl 0 rfl) ?_
    refine mc_getT E hG t0 tb1 ff_X10_72 rfl dX10_judge_10 (fun oa31 hoa31 => ?_)
    refine lv_iload_n hx hb dX10_judge_13 rfl (lv_at hl 1 rfl) ?_
    refine mc_iald E hG hoa31 ma_21 (t_in (by omega) (by omega)) dX10_judge_14 (fun z32 lz32 uz32 qz32 => ?_)
    refine lv_if_eq (tgt := 31) hx hb dX10_judge_15 (by decide) (fun c33 => ?_) (fun c33 => ?_)
    · skip
      have ic33 := tn_eq rfl kI_0 c33
      refine lv_iconst (v := 0) hx hb dX10_judge_31 (by decide) ?_
      refine lv_istore_n (lv' := [(3, .int 0), (0, .ref h0), (1, .int x1), (2, .int x2)]) hx hb dX10_judge_32 rfl hl (by decide) rfl (fun ls hl => ?_)
      refine lv_iconst (v := 0) hx hb dX10_judge_33 (by decide) ?_
      refine lv_istore (lv' := [(4, .int 0), (3, .int 0), (0, .ref h0), (1, .int x1), (2, .int x2)]) hx hb dX10_judge_34 hl (by decide) rfl (fun ls hl => ?_)
      exact J36 ((24 - (0 : Int32).toInt).toNat + 1) ls (0 : Int32) (0 : Int32) (lv_sub hl [2, 3, 4, 1, 0] rfl) (by omega) (by omega) (by decide) (by decide) (by decide) (by decide) (by have k0 := kI_0; have k1 := kI_1; omega) (Nat.lt_succ_self _)
    · skip
      have ic33 := tn_ne rfl kI_0 c33
      refine lv_aload_n hx hb dX10_judge_18 rfl (lv_at hl 0 rfl) ?_
      refine mc_getT E hG t0 tb1 ff_X10_72 rfl dX10_judge_19 (fun oa34 hoa34 => ?_)
      refine lv_iload_n hx hb dX10_judge_22 rfl (lv_at hl 1 rfl) ?_
      refine mc_iald E hG hoa34 ma_21 (t_in (by omega) (by omega)) dX10_judge_23 (fun z35 lz35 uz35 qz35 => ?_)
      refine lv_iconst (v := 3) hx hb dX10_judge_24 (by decide) ?_
      refine lv_icmp_eq (tgt := 31) hx hb dX10_judge_25 (by decide) (fun c36 => ?_) (fun c36 => ?_)
      · skip
        have ic36 := tn_eq rfl kI_3 c36
        refine lv_iconst (v := 0) hx hb dX10_judge_31 (by decide) ?_
        refine lv_istore_n (lv' := [(3, .int 0), (0, .ref h0), (1, .int x1), (2, .int x2)]) hx hb dX10_judge_32 rfl hl (by decide) rfl (fun ls hl => ?_)
        refine lv_iconst (v := 0) hx hb dX10_judge_33 (by decide) ?_
        refine lv_istore (lv' := [(4, .int 0), (3, .int 0), (0, .ref h0), (1, .int x1), (2, .int x2)]) hx hb dX10_judge_34 hl (by decide) rfl (fun ls hl => ?_)
        exact J36 ((24 - (0 : Int32).toInt).toNat + 1) ls (0 : Int32) (0 : Int32) (lv_sub hl [2, 3, 4, 1, 0] rfl) (by omega) (by omega) (by decide) (by decide) (by decide) (by decide) (by have k0 := kI_0; have k1 := kI_1; omega) (Nat.lt_succ_self _)
      · skip
        have ic36 := tn_ne rfl kI_3 c36
        refine lv_bipush (v := -12) hx hb dX10_judge_28 (by decide) ?_
        exact tc_pret E hr hlk eH eL rfl trivial dX10_judge_30
  · skip
    have ic30 := tn_eq rfl kI_0 c30
    refine lv_iconst (v := -1) hx hb dX10_judge_7 (by decide) ?_
    exact tc_pret E hr hlk eH eL rfl trivial dX10_judge_8

set_option maxHeartbeats 4000000 in
set_option maxRecDepth 100000 in
theorem v_X10_item (l : Launch) (G : tG) (σ : Nat → Nat) (cu : Nat) (X : mX) (T : wT) (h0 : Nat) (x1 : Int32) (x2 : Int32) (x3 : Int64) (t0 : σ h0 = 1) (tb1 : σ (G.2.2.1 14) = 21) (tb2 : σ (G.2.2.1 15) = 22) (tb3 : σ (G.2.2.1 16) = 23) (tb4 : σ (G.2.2.1 17) = 24) (hI : wIn T) : Met l yX10_item (.code yX10_item cX10_item 5 (some .int) :: tWS) (tRm 2 45) (va_Pc [.ref h0, .int x1, .int x2, .long x3] (mPre G (σ, cu, vX X T))) (mQiX G (σ, cu, vX X T) (fun r Z => r.toInt = wItem T x1.toInt x2.toInt ∧ Z = (σ, cu, vX X T))) 0 0 (mA (σ, cu, vX X T)) := by
  refine mc_met (by decide) (Nat.le_of_ble_eq_true rfl) ?_
  intro p e s m below meth c E hr hlk hG ls hl
  have hl : lv_has ls 5 [(0, .ref h0), (1, .int x1), (2, .int x2), (3, .long x3)] := hl
  have hx := E.1
  have hb := E.2.1
  obtain ⟨H, eH⟩ : ∃ H, H = s.heap := ⟨_, rfl⟩
  obtain ⟨locs, eL⟩ : ∃ x : List Loc, x = [] := ⟨_, rfl⟩
  have hG : mGH G (σ, cu, vX X T) s H locs := by rw [eH, eL]; exact hG
  suffices hW : W p l e (tRm 2 45) s m ([.ref h0, .int x1, .int x2, .long x3] : List Value).toArray below meth c H locs 0 0 (MQ below (mQiX G (σ, cu, vX X T) (fun r Z => r.toInt = wItem T x1.toInt x2.toInt ∧ Z = (σ, cu, vX X T))) ([.ref h0, .int x1, .int x2, .long x3] : List Value).toArray s 0 0 (mA (σ, cu, vX X T))) (F0 m 0 ls []) by subst eH; subst eL; exact hW
  clear eH eL
  have hcu : mCu cu := hG.2.2.1
  refine lv_iload_n hx hb dX10_item_0 rfl (lv_at hl 1 rfl) ?_
  refine tc_callp (mc_runS (As := [.int x1]) (rest := []) E hG (c_X10_isTape l G (σ, cu, vX X T) x1) ks_X10_isTape ml_X10_440 ⟨rfl, rfl, Nat.le_of_ble_eq_true rfl, Nat.le_of_ble_eq_true rfl⟩ rfl hl.1 rfl (Nat.le_of_ble_eq_true rfl) ⟨Nat.zero_le _, Nat.zero_le _⟩ dX10_item_1) (fun r1 pr1 => ?_)
  replace pr1 : (r1.toInt = 1 ∧ 0 ≤ x1.toInt ∧ x1.toInt ≤ 3) ∨ (r1.toInt = 0 ∧ (x1.toInt < 0 ∨ 3 < x1.toInt)) := pr1
  refine lv_if_ne (tgt := 9) hx hb dX10_item_4 (by decide) (fun c2 => ?_) (fun c2 => ?_)
  · skip
    have ic2 := tn_ne rfl kI_0 c2
    refine lv_aload_n hx hb dX10_item_9 rfl (lv_at hl 0 rfl) ?_
    refine mc_getT E hG t0 tb1 ff_X10_72 rfl dX10_item_10 (fun oa3 hoa3 => ?_)
    refine lv_iload_n hx hb dX10_item_13 rfl (lv_at hl 1 rfl) ?_
    refine mc_iald E hG hoa3 ma_21 (t_in (by omega) (by omega)) dX10_item_14 (fun z4 lz4 uz4 qz4 => ?_)
    have kz4 := mv_21 hI qz4 (by omega) (by omega)
    refine lv_if_ne (tgt := 21) hx hb dX10_item_15 (by decide) (fun c5 => ?_) (fun c5 => ?_)
    · skip
      have ic5 := tn_ne rfl kI_0 c5
      refine lv_iload_n hx hb dX10_item_21 rfl (lv_at hl 2 rfl) ?_
      refine lv_i2l hx hb dX10_item_22 rfl ?_
      refine lv_topl (fun z6 ez6 => ?_)
      have tz6 := tl_i2l ez6
      refine lv_lconst (v := 0) hx hb dX10_item_23 (by decide) ?_
      refine lv_topl (fun z7 ez7 => ?_)
      have tz7 : z7.toInt = 0 := by rw [ez7]; decide
      refine lv_aload_n hx hb dX10_item_24 rfl (lv_at hl 0 rfl) ?_
      refine mc_getT E hG t0 tb2 ff_X10_75 rfl dX10_item_25 (fun oa8 hoa8 => ?_)
      refine lv_iload_n hx hb dX10_item_28 rfl (lv_at hl 1 rfl) ?_
      refine mc_iald E hG hoa8 ma_22 (t_in (by omega) (by omega)) dX10_item_29 (fun z9 lz9 uz9 qz9 => ?_)
      have kz9 := mv_22 qz9 (by omega) (by omega)
      refine lv_iconst (v := 1) hx hb dX10_item_30 (by decide) ?_
      refine lv_isub hx hb dX10_item_31 ?_
      refine lv_topi (fun z10 ez10 => ?_)
      have tz10 := tn_sub ez10 rfl kI_1 (by omega) (by omega)
      refine lv_i2l hx hb dX10_item_32 rfl ?_
      refine lv_topl (fun z11 ez11 => ?_)
      have tz11 := tl_i2l ez11
      refine tc_callp (mc_runS (As := [.long z6, .long z7, .long z11]) (rest := []) E hG (c_X10_in l G (σ, cu, vX X T) z6 z7 z11) ks_X10_in ml_X10_87 ⟨rfl, rfl, Nat.le_of_ble_eq_true rfl, Nat.le_of_ble_eq_true rfl⟩ rfl hl.1 rfl (Nat.le_of_ble_eq_true rfl) ⟨Nat.zero_le _, Nat.zero_le _⟩ dX10_item_33) (fun r12 pr12 => ?_)
      replace pr12 : ((r12.toInt = 1 ∧ z7.toInt ≤ z6.toInt ∧ z6.toInt ≤ z11.toInt) ∨ (r12.toInt = 0 ∧ (z6.toInt < z7.toInt ∨ z11.toInt < z6.toInt))) := pr12
      refine lv_if_ne (tgt := 42) hx hb dX10_item_36 (by decide) (fun c13 => ?_) (fun c13 => ?_)
      · skip
        have ic13 := tn_ne rfl kI_0 c13
        refine lv_aload_n hx hb dX10_item_42 rfl (lv_at hl 0 rfl) ?_
        refine mc_getT E hG t0 tb3 ff_X10_78 rfl dX10_item_43 (fun oa14 hoa14 => ?_)
        refine lv_bipush (v := 60) hx hb dX10_item_46 (by decide) ?_
        refine lv_iload_n hx hb dX10_item_48 rfl (lv_at hl 1 rfl) ?_
        refine lv_imul hx hb dX10_item_49 ?_
        refine lv_topi (fun z15 ez15 => ?_)
        have tz15 := tn_mul ez15 kI_60 rfl (by omega) (by omega)
        refine lv_iload_n hx hb dX10_item_50 rfl (lv_at hl 2 rfl) ?_
        refine lv_iadd hx hb dX10_item_51 ?_
        refine lv_topi (fun z16 ez16 => ?_)
        have tz16 := tn_add ez16 rfl rfl (by omega) (by omega)
        refine lv_lload_n hx hb dX10_item_52 rfl (lv_at hl 3 rfl) ?_
        refine lv_aload_n hx hb dX10_item_53 rfl (lv_at hl 0 rfl) ?_
        refine mc_getT E hG t0 tb1 ff_X10_72 rfl dX10_item_54 (fun oa17 hoa17 => ?_)
        refine lv_iload_n hx hb dX10_item_57 rfl (lv_at hl 1 rfl) ?_
        refine mc_iald E hG hoa17 ma_21 (t_in (by omega) (by omega)) dX10_item_58 (fun z18 lz18 uz18 qz18 => ?_)
        have kz18 := mv_21 hI qz18 (by omega) (by omega)
        refine lv_iconst (v := 1) hx hb dX10_item_59 (by decide) ?_
        refine lv_isub hx hb dX10_item_60 ?_
        refine lv_topi (fun z19 ez19 => ?_)
        have tz19 := tn_sub ez19 rfl kI_1 (by omega) (by omega)
        refine tc_callpl (mc_runS (As := [.long x3, .int z19]) (rest := [.int z16, .ref oa14]) E hG (c_X10_narrowed l G (σ, cu, vX X T) x3 z19) ks_X10_narrowed ml_X10_445 ⟨rfl, rfl, Nat.le_of_ble_eq_true rfl, Nat.le_of_ble_eq_true rfl⟩ rfl hl.1 rfl (Nat.le_of_ble_eq_true rfl) ⟨Nat.zero_le _, Nat.zero_le _⟩ dX10_item_61) (fun r20 pr20 => ?_)
        refine mc_last E hG hoa14 mal_23 (vX_23 (X := X) (T := T)) (t_in (by omega) (by omega)) dX10_item_64 (fun H locs hG => ?_)
        refine lv_iconst (v := 1) hx hb dX10_item_65 (by decide) ?_
        exact mc_iretX E hr hlk hG rfl rfl (show (1 : Int32).toInt = wItem T x1.toInt x2.toInt ∧ (σ, cu, vX X T) = (σ, cu, vX X T) from ⟨by (have kk := kI_1; unfold wItem; (repeat first | rw [if_pos (by omega)] | rw [if_neg (by omega)]); first | done | omega), rfl⟩) dX10_item_66
      · skip
        have ic13 := tn_eq rfl kI_0 c13
        refine lv_bipush (v := -13) hx hb dX10_item_39 (by decide) ?_
        exact mc_iretX E hr hlk hG rfl rfl (show (-13 : Int32).toInt = wItem T x1.toInt x2.toInt ∧ (σ, cu, vX X T) = (σ, cu, vX X T) from ⟨by (have kk := kI_m13; unfold wItem; (repeat first | rw [if_pos (by omega)] | rw [if_neg (by omega)]); first | done | omega), rfl⟩) dX10_item_41
    · skip
      have ic5 := tn_eq rfl kI_0 c5
      refine lv_bipush (v := -11) hx hb dX10_item_18 (by decide) ?_
      exact mc_iretX E hr hlk hG rfl rfl (show (-11 : Int32).toInt = wItem T x1.toInt x2.toInt ∧ (σ, cu, vX X T) = (σ, cu, vX X T) from ⟨by (have kk := kI_m11; unfold wItem; (repeat first | rw [if_pos (by omega)] | rw [if_neg (by omega)]); first | done | omega), rfl⟩) dX10_item_20
  · skip
    have ic2 := tn_eq rfl kI_0 c2
    refine lv_iconst (v := -1) hx hb dX10_item_7 (by decide) ?_
    exact mc_iretX E hr hlk hG rfl rfl (show (-1 : Int32).toInt = wItem T x1.toInt x2.toInt ∧ (σ, cu, vX X T) = (σ, cu, vX X T) from ⟨by (have kk := kI_m1; unfold wItem; (repeat first | rw [if_pos (by omega)] | rw [if_neg (by omega)]); first | done | omega), rfl⟩) dX10_item_8

set_option maxHeartbeats 4000000 in
set_option maxRecDepth 100000 in
theorem v_X10_shift (l : Launch) (G : tG) (σ : Nat → Nat) (cu : Nat) (X : mX) (T : wT) (h0 : Nat) (x1 : Int32) (x2 : Int32) (x3 : Int32) (x4 : Int32) (x5 : Int32) (t0 : σ h0 = 1) (tb1 : σ (G.2.2.1 14) = 21) (tb2 : σ (G.2.2.1 15) = 22) (tb3 : σ (G.2.2.1 16) = 23) (tb4 : σ (G.2.2.1 17) = 24) (hI : wIn T) : Met l yX10_shift (.code yX10_shift cX10_shift 7 (some .int) :: tWS) (tRm 2 45) (va_Pc [.ref h0, .int x1, .int x2, .int x3, .int x4, .int x5] (mPre G (σ, cu, vX X T))) (mQiX G (σ, cu, vX X T) (fun r Z => r.toInt = wShift T x1.toInt x2.toInt x3.toInt x4.toInt x5.toInt ∧ Z = (σ, cu, vX X T))) 0 0 (mA (σ, cu, vX X T)) := by
  refine mc_met (by decide) (Nat.le_of_ble_eq_true rfl) ?_
  intro p e s m below meth c E hr hlk hG ls hl
  have hl : lv_has ls 7 [(0, .ref h0), (1, .int x1), (2, .int x2), (3, .int x3), (4, .int x4), (5, .int x5)] := hl
  have hx := E.1
  have hb := E.2.1
  obtain ⟨H, eH⟩ : ∃ H, H = s.heap := ⟨_, rfl⟩
  obtain ⟨locs, eL⟩ : ∃ x : List Loc, x = [] := ⟨_, rfl⟩
  have hG : mGH G (σ, cu, vX X T) s H locs := by rw [eH, eL]; exact hG
  suffices hW : W p l e (tRm 2 45) s m ([.ref h0, .int x1, .int x2, .int x3, .int x4, .int x5] : List Value).toArray below meth c H locs 0 0 (MQ below (mQiX G (σ, cu, vX X T) (fun r Z => r.toInt = wShift T x1.toInt x2.toInt x3.toInt x4.toInt x5.toInt ∧ Z = (σ, cu, vX X T))) ([.ref h0, .int x1, .int x2, .int x3, .int x4, .int x5] : List Value).toArray s 0 0 (mA (σ, cu, vX X T))) (F0 m 0 ls []) by subst eH; subst eL; exact hW
  clear eH eL
  have hcu : mCu cu := hG.2.2.1
  have J147 : ∀ (n147 : Nat) (H : Heap) (locs : List Loc) (ls : Array Slot) (v6 : Int32), mGH G (σ, cu, vX X T) s H locs → lv_has ls 7 [(0, .ref h0), (3, .int x3), (4, .int x4), (5, .int x5), (6, .int v6)] → 0 ≤ x3.toInt → x3.toInt ≤ 3 → 0 ≤ x4.toInt → 0 ≤ x5.toInt → 0 ≤ v6.toInt → v6.toInt ≤ 60 → (0 ≤ x2.toInt ∧ 0 ≤ x4.toInt ∧ 0 ≤ x5.toInt ∧ x2.toInt + x5.toInt ≤ 60 ∧ x4.toInt + x5.toInt ≤ 60 ∧ wShift T x1.toInt x2.toInt x3.toInt x4.toInt x5.toInt = x5.toInt) → (60 - v6.toInt).toNat < n147 → W p l e (tRm 2 45) s m ([.ref h0, .int x1, .int x2, .int x3, .int x4, .int x5] : List Value).toArray below meth c H locs 0 0 (MQ below (mQiX G (σ, cu, vX X T) (fun r Z => r.toInt = wShift T x1.toInt x2.toInt x3.toInt x4.toInt x5.toInt ∧ Z = (σ, cu, vX X T))) ([.ref h0, .int x1, .int x2, .int x3, .int x4, .int x5] : List Value).toArray s 0 0 (mA (σ, cu, vX X T))) (F0 m 147 ls []) := by
    intro n147
    induction n147 with
    | zero => intro H locs ls v6 hG hl bp3 cp3 bp4 bp5 b6 c6 hex147 hn147; exact absurd hn147 (Nat.not_lt_zero _)
    | succ n147 ih147 =>
      intro H locs ls v6 hG hl bp3 cp3 bp4 bp5 b6 c6 hex147 hn147
      refine lv_iload hx hb dX10_shift_147 (lv_at hl 4 rfl) ?_
      refine lv_iload hx hb dX10_shift_149 (lv_at hl 3 rfl) ?_
      refine lv_icmp_ge (tgt := 182) hx hb dX10_shift_151 (by decide) (fun c1 => ?_) (fun c1 => ?_)
      · skip
        have ic1 := tn_le rfl rfl c1
        refine lv_iload hx hb dX10_shift_182 (lv_at hl 3 rfl) ?_
        exact mc_iretX E hr hlk hG rfl rfl (show x5.toInt = wShift T x1.toInt x2.toInt x3.toInt x4.toInt x5.toInt ∧ (σ, cu, vX X T) = (σ, cu, vX X T) from ⟨by omega, rfl⟩) dX10_shift_184
      · skip
        have ic1 := tn_nle rfl rfl c1
        refine lv_aload_n hx hb dX10_shift_154 rfl (lv_at hl 0 rfl) ?_
        refine mc_getT E hG t0 tb3 ff_X10_78 rfl dX10_shift_155 (fun oa2 hoa2 => ?_)
        refine lv_bipush (v := 60) hx hb dX10_shift_158 (by decide) ?_
        refine lv_iload_n hx hb dX10_shift_160 rfl (lv_at hl 1 rfl) ?_
        refine lv_imul hx hb dX10_shift_161 ?_
        refine lv_topi (fun z3 ez3 => ?_)
        have tz3 := tn_mul ez3 kI_60 rfl (by omega) (by omega)
        refine lv_iload hx hb dX10_shift_162 (lv_at hl 2 rfl) ?_
        refine lv_iadd hx hb dX10_shift_164 ?_
        refine lv_topi (fun z4 ez4 => ?_)
        have tz4 := tn_add ez4 rfl rfl (by omega) (by omega)
        refine lv_iload hx hb dX10_shift_165 (lv_at hl 4 rfl) ?_
        refine lv_iadd hx hb dX10_shift_167 ?_
        refine lv_topi (fun z5 ez5 => ?_)
        have tz5 := tn_add ez5 rfl rfl (by omega) (by omega)
        refine lv_aload_n hx hb dX10_shift_168 rfl (lv_at hl 0 rfl) ?_
        refine mc_getT E hG t0 tb4 ff_X10_82 rfl dX10_shift_169 (fun oa6 hoa6 => ?_)
        refine lv_iload hx hb dX10_shift_172 (lv_at hl 4 rfl) ?_
        refine mc_lald E hG hoa6 mal_24 (t_in (by omega) (by omega)) dX10_shift_174 (fun z7 => ?_)
        refine mc_last E hG hoa2 mal_23 (vX_23 (X := X) (T := T)) (t_in (by omega) (by omega)) dX10_shift_175 (fun H locs hG => ?_)
        obtain ⟨z8, ez8⟩ : ∃ y : Int32, y = v6 + (1) := ⟨_, rfl⟩
        refine lv_iinc (v := z8) (lv' := [(6, .int z8), (0, .ref h0), (3, .int x3), (4, .int x4), (5, .int x5)]) hx hb dX10_shift_176 hl (k := 4) rfl (by rw [ez8]; rfl) (by decide) rfl (fun ls hl => ?_)
        have tz8 := tn_add ez8 rfl kI_1 (by omega) (by omega)
        refine lv_goto (tgt := 147) hx hb dX10_shift_179 (by decide) ?_
        exact ih147 H locs ls z8 hG (lv_sub hl [1, 2, 3, 4, 0] rfl) (by omega) (by omega) (by omega) (by omega) (by omega) (by omega) (by have k0 := kI_0; have k1 := kI_1; omega) (by omega)
  have J110 : ∀ (n110 : Nat) (H : Heap) (locs : List Loc) (ls : Array Slot) (v6 : Int32), mGH G (σ, cu, vX X T) s H locs → lv_has ls 7 [(0, .ref h0), (1, .int x1), (2, .int x2), (3, .int x3), (4, .int x4), (5, .int x5), (6, .int v6)] → 0 ≤ x1.toInt → x1.toInt ≤ 3 → 0 ≤ x2.toInt → 0 ≤ x3.toInt → x3.toInt ≤ 3 → 0 ≤ x4.toInt → 0 ≤ x5.toInt → 0 ≤ v6.toInt → v6.toInt ≤ 60 → (0 ≤ x2.toInt ∧ 0 ≤ x4.toInt ∧ 0 ≤ x5.toInt ∧ x2.toInt + x5.toInt ≤ 60 ∧ x4.toInt + x5.toInt ≤ 60 ∧ wShift T x1.toInt x2.toInt x3.toInt x4.toInt x5.toInt = x5.toInt) → (60 - v6.toInt).toNat < n110 → W p l e (tRm 2 45) s m ([.ref h0, .int x1, .int x2, .int x3, .int x4, .int x5] : List Value).toArray below meth c H locs 0 0 (MQ below (mQiX G (σ, cu, vX X T) (fun r Z => r.toInt = wShift T x1.toInt x2.toInt x3.toInt x4.toInt x5.toInt ∧ Z = (σ, cu, vX X T))) ([.ref h0, .int x1, .int x2, .int x3, .int x4, .int x5] : List Value).toArray s 0 0 (mA (σ, cu, vX X T))) (F0 m 110 ls []) := by
    intro n110
    induction n110 with
    | zero => intro H locs ls v6 hG hl bp1 cp1 bp2 bp3 cp3 bp4 bp5 b6 c6 hex110 hn110; exact absurd hn110 (Nat.not_lt_zero _)
    | succ n110 ih110 =>
      intro H locs ls v6 hG hl bp1 cp1 bp2 bp3 cp3 bp4 bp5 b6 c6 hex110 hn110
      refine lv_iload hx hb dX10_shift_110 (lv_at hl 6 rfl) ?_
      refine lv_iload hx hb dX10_shift_112 (lv_at hl 5 rfl) ?_
      refine lv_icmp_ge (tgt := 144) hx hb dX10_shift_114 (by decide) (fun c9 => ?_) (fun c9 => ?_)
      · skip
        have ic9 := tn_le rfl rfl c9
        refine lv_iconst (v := 0) hx hb dX10_shift_144 (by decide) ?_
        refine lv_istore (lv' := [(6, .int 0), (0, .ref h0), (1, .int x1), (2, .int x2), (3, .int x3), (4, .int x4), (5, .int x5)]) hx hb dX10_shift_145 hl (by decide) rfl (fun ls hl => ?_)
        exact J147 ((60 - (0 : Int32).toInt).toNat + 1) H locs ls (0 : Int32) hG (lv_sub hl [1, 4, 5, 6, 0] rfl) (by omega) (by omega) (by omega) (by omega) (by decide) (by decide) (by have k0 := kI_0; have k1 := kI_1; omega) (Nat.lt_succ_self _)
      · skip
        have ic9 := tn_nle rfl rfl c9
        refine lv_aload_n hx hb dX10_shift_117 rfl (lv_at hl 0 rfl) ?_
        refine mc_getT E hG t0 tb4 ff_X10_82 rfl dX10_shift_118 (fun oa10 hoa10 => ?_)
        refine lv_iload hx hb dX10_shift_121 (lv_at hl 6 rfl) ?_
        refine lv_aload_n hx hb dX10_shift_123 rfl (lv_at hl 0 rfl) ?_
        refine mc_getT E hG t0 tb3 ff_X10_78 rfl dX10_shift_124 (fun oa11 hoa11 => ?_)
        refine lv_bipush (v := 60) hx hb dX10_shift_127 (by decide) ?_
        refine lv_iload_n hx hb dX10_shift_129 rfl (lv_at hl 1 rfl) ?_
        refine lv_imul hx hb dX10_shift_130 ?_
        refine lv_topi (fun z12 ez12 => ?_)
        have tz12 := tn_mul ez12 kI_60 rfl (by omega) (by omega)
        refine lv_iload_n hx hb dX10_shift_131 rfl (lv_at hl 2 rfl) ?_
        refine lv_iadd hx hb dX10_shift_132 ?_
        refine lv_topi (fun z13 ez13 => ?_)
        have tz13 := tn_add ez13 rfl rfl (by omega) (by omega)
        refine lv_iload hx hb dX10_shift_133 (lv_at hl 6 rfl) ?_
        refine lv_iadd hx hb dX10_shift_135 ?_
        refine lv_topi (fun z14 ez14 => ?_)
        have tz14 := tn_add ez14 rfl rfl (by omega) (by omega)
        refine mc_lald E hG hoa11 mal_23 (t_in (by omega) (by omega)) dX10_shift_136 (fun z15 => ?_)
        refine mc_last E hG hoa10 mal_24 (vX_24 (X := X) (T := T)) (t_in (by omega) (by omega)) dX10_shift_137 (fun H locs hG => ?_)
        obtain ⟨z16, ez16⟩ : ∃ y : Int32, y = v6 + (1) := ⟨_, rfl⟩
        refine lv_iinc (v := z16) (lv' := [(6, .int z16), (0, .ref h0), (1, .int x1), (2, .int x2), (3, .int x3), (4, .int x4), (5, .int x5)]) hx hb dX10_shift_138 hl (k := 6) rfl (by rw [ez16]; rfl) (by decide) rfl (fun ls hl => ?_)
        have tz16 := tn_add ez16 rfl kI_1 (by omega) (by omega)
        refine lv_goto (tgt := 110) hx hb dX10_shift_141 (by decide) ?_
        exact ih110 H locs ls z16 hG (lv_sub hl [1, 2, 3, 4, 5, 6, 0] rfl) (by omega) (by omega) (by omega) (by omega) (by omega) (by omega) (by omega) (by omega) (by omega) (by have k0 := kI_0; have k1 := kI_1; omega) (by omega)
  refine lv_iload_n hx hb dX10_shift_0 rfl (lv_at hl 1 rfl) ?_
  refine tc_callp (mc_runS (As := [.int x1]) (rest := []) E hG (c_X10_isTape l G (σ, cu, vX X T) x1) ks_X10_isTape ml_X10_440 ⟨rfl, rfl, Nat.le_of_ble_eq_true rfl, Nat.le_of_ble_eq_true rfl⟩ rfl hl.1 rfl (Nat.le_of_ble_eq_true rfl) ⟨Nat.zero_le _, Nat.zero_le _⟩ dX10_shift_1) (fun r17 pr17 => ?_)
  replace pr17 : (r17.toInt = 1 ∧ 0 ≤ x1.toInt ∧ x1.toInt ≤ 3) ∨ (r17.toInt = 0 ∧ (x1.toInt < 0 ∨ 3 < x1.toInt)) := pr17
  refine lv_if_eq (tgt := 14) hx hb dX10_shift_4 (by decide) (fun c18 => ?_) (fun c18 => ?_)
  · skip
    have ic18 := tn_eq rfl kI_0 c18
    refine lv_iconst (v := -1) hx hb dX10_shift_14 (by decide) ?_
    exact mc_iretX E hr hlk hG rfl rfl (show (-1 : Int32).toInt = wShift T x1.toInt x2.toInt x3.toInt x4.toInt x5.toInt ∧ (σ, cu, vX X T) = (σ, cu, vX X T) from ⟨by (have kk := kI_m1; unfold wShift; (repeat first | rw [if_pos (by omega)] | rw [if_neg (by omega)]); first | done | omega), rfl⟩) dX10_shift_15
  · skip
    have ic18 := tn_ne rfl kI_0 c18
    refine lv_iload_n hx hb dX10_shift_7 rfl (lv_at hl 3 rfl) ?_
    refine tc_callp (mc_runS (As := [.int x3]) (rest := []) E hG (c_X10_isTape l G (σ, cu, vX X T) x3) ks_X10_isTape ml_X10_440 ⟨rfl, rfl, Nat.le_of_ble_eq_true rfl, Nat.le_of_ble_eq_true rfl⟩ rfl hl.1 rfl (Nat.le_of_ble_eq_true rfl) ⟨Nat.zero_le _, Nat.zero_le _⟩ dX10_shift_8) (fun r19 pr19 => ?_)
    replace pr19 : (r19.toInt = 1 ∧ 0 ≤ x3.toInt ∧ x3.toInt ≤ 3) ∨ (r19.toInt = 0 ∧ (x3.toInt < 0 ∨ 3 < x3.toInt)) := pr19
    refine lv_if_ne (tgt := 16) hx hb dX10_shift_11 (by decide) (fun c20 => ?_) (fun c20 => ?_)
    · skip
      have ic20 := tn_ne rfl kI_0 c20
      refine lv_aload_n hx hb dX10_shift_16 rfl (lv_at hl 0 rfl) ?_
      refine mc_getT E hG t0 tb1 ff_X10_72 rfl dX10_shift_17 (fun oa21 hoa21 => ?_)
      refine lv_iload_n hx hb dX10_shift_20 rfl (lv_at hl 1 rfl) ?_
      refine mc_iald E hG hoa21 ma_21 (t_in (by omega) (by omega)) dX10_shift_21 (fun z22 lz22 uz22 qz22 => ?_)
      have kz22 := mv_21 hI qz22 (by omega) (by omega)
      refine lv_if_eq (tgt := 34) hx hb dX10_shift_22 (by decide) (fun c23 => ?_) (fun c23 => ?_)
      · skip
        have ic23 := tn_eq rfl kI_0 c23
        refine lv_bipush (v := -11) hx hb dX10_shift_34 (by decide) ?_
        exact mc_iretX E hr hlk hG rfl rfl (show (-11 : Int32).toInt = wShift T x1.toInt x2.toInt x3.toInt x4.toInt x5.toInt ∧ (σ, cu, vX X T) = (σ, cu, vX X T) from ⟨by (have kk := kI_m11; unfold wShift; (repeat first | rw [if_pos (by omega)] | rw [if_neg (by omega)]); first | done | omega), rfl⟩) dX10_shift_36
      · skip
        have ic23 := tn_ne rfl kI_0 c23
        refine lv_aload_n hx hb dX10_shift_25 rfl (lv_at hl 0 rfl) ?_
        refine mc_getT E hG t0 tb1 ff_X10_72 rfl dX10_shift_26 (fun oa24 hoa24 => ?_)
        refine lv_iload_n hx hb dX10_shift_29 rfl (lv_at hl 3 rfl) ?_
        refine mc_iald E hG hoa24 ma_21 (t_in (by omega) (by omega)) dX10_shift_30 (fun z25 lz25 uz25 qz25 => ?_)
        have kz25 := mv_21 hI qz25 (by omega) (by omega)
        refine lv_if_ne (tgt := 37) hx hb dX10_shift_31 (by decide) (fun c26 => ?_) (fun c26 => ?_)
        · skip
          have ic26 := tn_ne rfl kI_0 c26
          refine lv_aload_n hx hb dX10_shift_37 rfl (lv_at hl 0 rfl) ?_
          refine mc_getT E hG t0 tb1 ff_X10_72 rfl dX10_shift_38 (fun oa27 hoa27 => ?_)
          refine lv_iload_n hx hb dX10_shift_41 rfl (lv_at hl 1 rfl) ?_
          refine mc_iald E hG hoa27 ma_21 (t_in (by omega) (by omega)) dX10_shift_42 (fun z28 lz28 uz28 qz28 => ?_)
          have kz28 := mv_21 hI qz28 (by omega) (by omega)
          refine lv_aload_n hx hb dX10_shift_43 rfl (lv_at hl 0 rfl) ?_
          refine mc_getT E hG t0 tb1 ff_X10_72 rfl dX10_shift_44 (fun oa29 hoa29 => ?_)
          refine lv_iload_n hx hb dX10_shift_47 rfl (lv_at hl 3 rfl) ?_
          refine mc_iald E hG hoa29 ma_21 (t_in (by omega) (by omega)) dX10_shift_48 (fun z30 lz30 uz30 qz30 => ?_)
          have kz30 := mv_21 hI qz30 (by omega) (by omega)
          refine lv_icmp_eq (tgt := 55) hx hb dX10_shift_49 (by decide) (fun c31 => ?_) (fun c31 => ?_)
          · skip
            have ic31 := tn_eq rfl rfl c31
            refine lv_iload hx hb dX10_shift_55 (lv_at hl 5 rfl) ?_
            refine lv_if_lt (tgt := 104) hx hb dX10_shift_57 (by decide) (fun c32 => ?_) (fun c32 => ?_)
            · skip
              have ic32 := tn_lt rfl kI_0 c32
              refine lv_bipush (v := -13) hx hb dX10_shift_104 (by decide) ?_
              exact mc_iretX E hr hlk hG rfl rfl (show (-13 : Int32).toInt = wShift T x1.toInt x2.toInt x3.toInt x4.toInt x5.toInt ∧ (σ, cu, vX X T) = (σ, cu, vX X T) from ⟨by (have kk := kI_m13; unfold wShift; (repeat first | rw [if_pos (by omega)] | rw [if_neg (by omega)]); first | done | omega), rfl⟩) dX10_shift_106
            · skip
              have ic32 := tn_nlt rfl kI_0 c32
              refine lv_iload_n hx hb dX10_shift_60 rfl (lv_at hl 2 rfl) ?_
              refine lv_if_lt (tgt := 104) hx hb dX10_shift_61 (by decide) (fun c33 => ?_) (fun c33 => ?_)
              · skip
                have ic33 := tn_lt rfl kI_0 c33
                refine lv_bipush (v := -13) hx hb dX10_shift_104 (by decide) ?_
                exact mc_iretX E hr hlk hG rfl rfl (show (-13 : Int32).toInt = wShift T x1.toInt x2.toInt x3.toInt x4.toInt x5.toInt ∧ (σ, cu, vX X T) = (σ, cu, vX X T) from ⟨by (have kk := kI_m13; unfold wShift; (repeat first | rw [if_pos (by omega)] | rw [if_neg (by omega)]); first | done | omega), rfl⟩) dX10_shift_106
              · skip
                have ic33 := tn_nlt rfl kI_0 c33
                refine lv_iload hx hb dX10_shift_64 (lv_at hl 4 rfl) ?_
                refine lv_if_lt (tgt := 104) hx hb dX10_shift_66 (by decide) (fun c34 => ?_) (fun c34 => ?_)
                · skip
                  have ic34 := tn_lt rfl kI_0 c34
                  refine lv_bipush (v := -13) hx hb dX10_shift_104 (by decide) ?_
                  exact mc_iretX E hr hlk hG rfl rfl (show (-13 : Int32).toInt = wShift T x1.toInt x2.toInt x3.toInt x4.toInt x5.toInt ∧ (σ, cu, vX X T) = (σ, cu, vX X T) from ⟨by (have kk := kI_m13; unfold wShift; (repeat first | rw [if_pos (by omega)] | rw [if_neg (by omega)]); first | done | omega), rfl⟩) dX10_shift_106
                · skip
                  have ic34 := tn_nlt rfl kI_0 c34
                  refine lv_iload_n hx hb dX10_shift_69 rfl (lv_at hl 2 rfl) ?_
                  refine lv_i2l hx hb dX10_shift_70 rfl ?_
                  refine lv_topl (fun z35 ez35 => ?_)
                  have tz35 := tl_i2l ez35
                  refine lv_iload hx hb dX10_shift_71 (lv_at hl 5 rfl) ?_
                  refine lv_i2l hx hb dX10_shift_73 rfl ?_
                  refine lv_topl (fun z36 ez36 => ?_)
                  have tz36 := tl_i2l ez36
                  refine lv_ladd hx hb dX10_shift_74 ?_
                  refine lv_topl (fun z37 ez37 => ?_)
                  have y38 := t_any2 x2
                  have y39 := t_any2 x5
                  have tz37 := tl_add ez37 tz35 tz36 (by omega) (by omega)
                  refine lv_aload_n hx hb dX10_shift_75 rfl (lv_at hl 0 rfl) ?_
                  refine mc_getT E hG t0 tb2 ff_X10_75 rfl dX10_shift_76 (fun oa40 hoa40 => ?_)
                  refine lv_iload_n hx hb dX10_shift_79 rfl (lv_at hl 1 rfl) ?_
                  refine mc_iald E hG hoa40 ma_22 (t_in (by omega) (by omega)) dX10_shift_80 (fun z41 lz41 uz41 qz41 => ?_)
                  have kz41 := mv_22 qz41 (by omega) (by omega)
                  refine lv_i2l hx hb dX10_shift_81 rfl ?_
                  refine lv_topl (fun z42 ez42 => ?_)
                  have tz42 := tl_i2l ez42
                  refine W.lcmp hx hb dX10_shift_82 ?_
                  refine lv_topi (fun z43 ez43 => ?_)
                  have tz43 := tl_cmp ez43
                  refine lv_if_gt (tgt := 104) hx hb dX10_shift_83 (by decide) (fun c44 => ?_) (fun c44 => ?_)
                  · skip
                    have ic44 := tn_lt kI_0 rfl c44
                    refine lv_bipush (v := -13) hx hb dX10_shift_104 (by decide) ?_
                    exact mc_iretX E hr hlk hG rfl rfl (show (-13 : Int32).toInt = wShift T x1.toInt x2.toInt x3.toInt x4.toInt x5.toInt ∧ (σ, cu, vX X T) = (σ, cu, vX X T) from ⟨by (have kk := kI_m13; unfold wShift; (repeat first | rw [if_pos (by omega)] | rw [if_neg (by omega)]); first | done | omega), rfl⟩) dX10_shift_106
                  · skip
                    have ic44 := tn_nlt kI_0 rfl c44
                    refine lv_iload hx hb dX10_shift_86 (lv_at hl 4 rfl) ?_
                    refine lv_i2l hx hb dX10_shift_88 rfl ?_
                    refine lv_topl (fun z45 ez45 => ?_)
                    have tz45 := tl_i2l ez45
                    refine lv_iload hx hb dX10_shift_89 (lv_at hl 5 rfl) ?_
                    refine lv_i2l hx hb dX10_shift_91 rfl ?_
                    refine lv_topl (fun z46 ez46 => ?_)
                    have tz46 := tl_i2l ez46
                    refine lv_ladd hx hb dX10_shift_92 ?_
                    refine lv_topl (fun z47 ez47 => ?_)
                    have y48 := t_any2 x4
                    have y49 := t_any2 x5
                    have tz47 := tl_add ez47 tz45 tz46 (by omega) (by omega)
                    refine lv_aload_n hx hb dX10_shift_93 rfl (lv_at hl 0 rfl) ?_
                    refine mc_getT E hG t0 tb2 ff_X10_75 rfl dX10_shift_94 (fun oa50 hoa50 => ?_)
                    refine lv_iload_n hx hb dX10_shift_97 rfl (lv_at hl 3 rfl) ?_
                    refine mc_iald E hG hoa50 ma_22 (t_in (by omega) (by omega)) dX10_shift_98 (fun z51 lz51 uz51 qz51 => ?_)
                    have kz51 := mv_22 qz51 (by omega) (by omega)
                    refine lv_i2l hx hb dX10_shift_99 rfl ?_
                    refine lv_topl (fun z52 ez52 => ?_)
                    have tz52 := tl_i2l ez52
                    refine W.lcmp hx hb dX10_shift_100 ?_
                    refine lv_topi (fun z53 ez53 => ?_)
                    have tz53 := tl_cmp ez53
                    refine lv_if_le (tgt := 107) hx hb dX10_shift_101 (by decide) (fun c54 => ?_) (fun c54 => ?_)
                    · skip
                      have ic54 := tn_le rfl kI_0 c54
                      refine lv_iconst (v := 0) hx hb dX10_shift_107 (by decide) ?_
                      refine lv_istore (lv' := [(6, .int 0), (0, .ref h0), (1, .int x1), (2, .int x2), (3, .int x3), (4, .int x4), (5, .int x5)]) hx hb dX10_shift_108 hl (by decide) rfl (fun ls hl => ?_)
                      have hw : wShift T x1.toInt x2.toInt x3.toInt x4.toInt x5.toInt = x5.toInt := by (unfold wShift; (repeat first | rw [if_pos (by omega)] | rw [if_neg (by omega)]); first | done | omega)
                      exact J110 ((60 - (0 : Int32).toInt).toNat + 1) H locs ls (0 : Int32) hG (lv_sub hl [1, 2, 3, 4, 5, 6, 0] rfl) (by omega) (by omega) (by omega) (by omega) (by omega) (by omega) (by omega) (by decide) (by decide) (by have k0 := kI_0; have k1 := kI_1; omega) (Nat.lt_succ_self _)
                    · skip
                      have ic54 := tn_nle rfl kI_0 c54
                      refine lv_bipush (v := -13) hx hb dX10_shift_104 (by decide) ?_
                      exact mc_iretX E hr hlk hG rfl rfl (show (-13 : Int32).toInt = wShift T x1.toInt x2.toInt x3.toInt x4.toInt x5.toInt ∧ (σ, cu, vX X T) = (σ, cu, vX X T) from ⟨by (have kk := kI_m13; unfold wShift; (repeat first | rw [if_pos (by omega)] | rw [if_neg (by omega)]); first | done | omega), rfl⟩) dX10_shift_106
          · skip
            have ic31 := tn_ne rfl rfl c31
            refine lv_bipush (v := -12) hx hb dX10_shift_52 (by decide) ?_
            exact mc_iretX E hr hlk hG rfl rfl (show (-12 : Int32).toInt = wShift T x1.toInt x2.toInt x3.toInt x4.toInt x5.toInt ∧ (σ, cu, vX X T) = (σ, cu, vX X T) from ⟨by (have kk := kI_m12; unfold wShift; (repeat first | rw [if_pos (by omega)] | rw [if_neg (by omega)]); first | done | omega), rfl⟩) dX10_shift_54
        · skip
          have ic26 := tn_eq rfl kI_0 c26
          refine lv_bipush (v := -11) hx hb dX10_shift_34 (by decide) ?_
          exact mc_iretX E hr hlk hG rfl rfl (show (-11 : Int32).toInt = wShift T x1.toInt x2.toInt x3.toInt x4.toInt x5.toInt ∧ (σ, cu, vX X T) = (σ, cu, vX X T) from ⟨by (have kk := kI_m11; unfold wShift; (repeat first | rw [if_pos (by omega)] | rw [if_neg (by omega)]); first | done | omega), rfl⟩) dX10_shift_36
    · skip
      have ic20 := tn_eq rfl kI_0 c20
      refine lv_iconst (v := -1) hx hb dX10_shift_14 (by decide) ?_
      exact mc_iretX E hr hlk hG rfl rfl (show (-1 : Int32).toInt = wShift T x1.toInt x2.toInt x3.toInt x4.toInt x5.toInt ∧ (σ, cu, vX X T) = (σ, cu, vX X T) from ⟨by (have kk := kI_m1; unfold wShift; (repeat first | rw [if_pos (by omega)] | rw [if_neg (by omega)]); first | done | omega), rfl⟩) dX10_shift_15

set_option maxHeartbeats 4000000 in
set_option maxRecDepth 100000 in
theorem v_X10_tape (l : Launch) (G : tG) (σ : Nat → Nat) (cu : Nat) (X : mX) (T : wT) (h0 : Nat) (x1 : Int32) (x2 : Int32) (x3 : Int32) (t0 : σ h0 = 1) (tb1 : σ (G.2.2.1 14) = 21) (tb2 : σ (G.2.2.1 15) = 22) (tb3 : σ (G.2.2.1 16) = 23) (tb4 : σ (G.2.2.1 17) = 24) (hI : wIn T) : Met l yX10_tape (.code yX10_tape cX10_tape 5 (some .int) :: tWS) (tRm 2 45) (va_Pc [.ref h0, .int x1, .int x2, .int x3] (mPre G (σ, cu, vX X T))) (mQiX G (σ, cu, vX X T) (fun r Z => r.toInt = tTape x1.toInt x2.toInt x3.toInt ∧ Z = (σ, cu, vX X (wTape T x1 x2 x3)))) 0 0 (mA (σ, cu, vX X T)) := by
  refine mc_met (by decide) (Nat.le_of_ble_eq_true rfl) ?_
  intro p e s m below meth c E hr hlk hG ls hl
  have hl : lv_has ls 5 [(0, .ref h0), (1, .int x1), (2, .int x2), (3, .int x3)] := hl
  have hx := E.1
  have hb := E.2.1
  obtain ⟨H, eH⟩ : ∃ H, H = s.heap := ⟨_, rfl⟩
  obtain ⟨locs, eL⟩ : ∃ x : List Loc, x = [] := ⟨_, rfl⟩
  have hG : mGH G (σ, cu, vX X T) s H locs := by rw [eH, eL]; exact hG
  suffices hW : W p l e (tRm 2 45) s m ([.ref h0, .int x1, .int x2, .int x3] : List Value).toArray below meth c H locs 0 0 (MQ below (mQiX G (σ, cu, vX X T) (fun r Z => r.toInt = tTape x1.toInt x2.toInt x3.toInt ∧ Z = (σ, cu, vX X (wTape T x1 x2 x3)))) ([.ref h0, .int x1, .int x2, .int x3] : List Value).toArray s 0 0 (mA (σ, cu, vX X T))) (F0 m 0 ls []) by subst eH; subst eL; exact hW
  clear eH eL
  have hcu : mCu cu := hG.2.2.1
  have J74 : ∀ (n74 : Nat) (H : Heap) (locs : List Loc) (ls : Array Slot) (v4 : Int32), mGH G (σ, cu, vX X (wTape T x1 x2 x3)) s H locs → lv_has ls 5 [(0, .ref h0), (1, .int x1), (4, .int v4)] → 0 ≤ x1.toInt → x1.toInt ≤ 3 → 0 ≤ v4.toInt → v4.toInt ≤ 60 → (x2.toInt = -1 ∨ (0 ≤ x2.toInt ∧ x2.toInt ≤ 3 ∧ 0 ≤ x3.toInt ∧ x3.toInt ≤ 60)) → (60 - v4.toInt).toNat < n74 → W p l e (tRm 2 45) s m ([.ref h0, .int x1, .int x2, .int x3] : List Value).toArray below meth c H locs 0 0 (MQ below (mQiX G (σ, cu, vX X T) (fun r Z => r.toInt = tTape x1.toInt x2.toInt x3.toInt ∧ Z = (σ, cu, vX X (wTape T x1 x2 x3)))) ([.ref h0, .int x1, .int x2, .int x3] : List Value).toArray s 0 0 (mA (σ, cu, vX X T))) (F0 m 74 ls []) := by
    intro n74
    induction n74 with
    | zero => intro H locs ls v4 hG hl bp1 cp1 b4 c4 hex74 hn74; exact absurd hn74 (Nat.not_lt_zero _)
    | succ n74 ih74 =>
      intro H locs ls v4 hG hl bp1 cp1 b4 c4 hex74 hn74
      refine lv_iload hx hb dX10_tape_74 (lv_at hl 2 rfl) ?_
      refine lv_bipush (v := 60) hx hb dX10_tape_76 (by decide) ?_
      refine lv_icmp_ge (tgt := 100) hx hb dX10_tape_78 (by decide) (fun c1 => ?_) (fun c1 => ?_)
      · skip
        have ic1 := tn_le kI_60 rfl c1
        refine lv_iconst (v := 1) hx hb dX10_tape_100 (by decide) ?_
        exact mc_iretX E hr hlk hG rfl rfl (show (1 : Int32).toInt = tTape x1.toInt x2.toInt x3.toInt ∧ (σ, cu, vX X (wTape T x1 x2 x3)) = (σ, cu, vX X (wTape T x1 x2 x3)) from ⟨by (have kk := kI_1; unfold tTape; split <;> (try split) <;> (try split) <;> (try split) <;> omega), rfl⟩) dX10_tape_101
      · skip
        have ic1 := tn_nle kI_60 rfl c1
        refine lv_aload_n hx hb dX10_tape_81 rfl (lv_at hl 0 rfl) ?_
        refine mc_getT E hG t0 tb3 ff_X10_78 rfl dX10_tape_82 (fun oa2 hoa2 => ?_)
        refine lv_bipush (v := 60) hx hb dX10_tape_85 (by decide) ?_
        refine lv_iload_n hx hb dX10_tape_87 rfl (lv_at hl 1 rfl) ?_
        refine lv_imul hx hb dX10_tape_88 ?_
        refine lv_topi (fun z3 ez3 => ?_)
        have tz3 := tn_mul ez3 kI_60 rfl (by omega) (by omega)
        refine lv_iload hx hb dX10_tape_89 (lv_at hl 2 rfl) ?_
        refine lv_iadd hx hb dX10_tape_91 ?_
        refine lv_topi (fun z4 ez4 => ?_)
        have tz4 := tn_add ez4 rfl rfl (by omega) (by omega)
        refine lv_lconst (v := 0) hx hb dX10_tape_92 (by decide) ?_
        refine lv_topl (fun z5 ez5 => ?_)
        have tz5 : z5.toInt = 0 := by rw [ez5]; decide
        refine mc_last E hG hoa2 mal_23 (vX_23 (X := X) (T := wTape T x1 x2 x3)) (t_in (by omega) (by omega)) dX10_tape_93 (fun H locs hG => ?_)
        obtain ⟨z6, ez6⟩ : ∃ y : Int32, y = v4 + (1) := ⟨_, rfl⟩
        refine lv_iinc (v := z6) (lv' := [(4, .int z6), (0, .ref h0), (1, .int x1)]) hx hb dX10_tape_94 hl (k := 2) rfl (by rw [ez6]; rfl) (by decide) rfl (fun ls hl => ?_)
        have tz6 := tn_add ez6 rfl kI_1 (by omega) (by omega)
        refine lv_goto (tgt := 74) hx hb dX10_tape_97 (by decide) ?_
        exact ih74 H locs ls z6 hG (lv_sub hl [1, 2, 0] rfl) (by omega) (by omega) (by omega) (by omega) (by have k0 := kI_0; have k1 := kI_1; omega) (by omega)
  refine lv_iload_n hx hb dX10_tape_0 rfl (lv_at hl 1 rfl) ?_
  refine tc_callp (mc_runS (As := [.int x1]) (rest := []) E hG (c_X10_isTape l G (σ, cu, vX X T) x1) ks_X10_isTape ml_X10_440 ⟨rfl, rfl, Nat.le_of_ble_eq_true rfl, Nat.le_of_ble_eq_true rfl⟩ rfl hl.1 rfl (Nat.le_of_ble_eq_true rfl) ⟨Nat.zero_le _, Nat.zero_le _⟩ dX10_tape_1) (fun r7 pr7 => ?_)
  replace pr7 : (r7.toInt = 1 ∧ 0 ≤ x1.toInt ∧ x1.toInt ≤ 3) ∨ (r7.toInt = 0 ∧ (x1.toInt < 0 ∨ 3 < x1.toInt)) := pr7
  refine lv_if_ne (tgt := 9) hx hb dX10_tape_4 (by decide) (fun c8 => ?_) (fun c8 => ?_)
  · skip
    have ic8 := tn_ne rfl kI_0 c8
    refine lv_iload_n hx hb dX10_tape_9 rfl (lv_at hl 2 rfl) ?_
    refine lv_i2l hx hb dX10_tape_10 rfl ?_
    refine lv_topl (fun z9 ez9 => ?_)
    have tz9 := tl_i2l ez9
    refine lv_ldc2 (v := -1) hx hb E.2.2.2.1 (E.2.2.2.2.1 _ (t_w8 146 rfl rfl)) dX10_tape_11 ?_
    refine lv_topl (fun z10 ez10 => ?_)
    have tz10 : z10.toInt = -1 := by rw [ez10]; decide
    refine lv_ldc2 (v := 3) hx hb E.2.2.2.1 (E.2.2.2.2.1 _ (t_w7 212 rfl rfl)) dX10_tape_14 ?_
    refine lv_topl (fun z11 ez11 => ?_)
    have tz11 : z11.toInt = 3 := by rw [ez11]; decide
    refine tc_callp (mc_runS (As := [.long z9, .long z10, .long z11]) (rest := []) E hG (c_X10_in l G (σ, cu, vX X T) z9 z10 z11) ks_X10_in ml_X10_87 ⟨rfl, rfl, Nat.le_of_ble_eq_true rfl, Nat.le_of_ble_eq_true rfl⟩ rfl hl.1 rfl (Nat.le_of_ble_eq_true rfl) ⟨Nat.zero_le _, Nat.zero_le _⟩ dX10_tape_17) (fun r12 pr12 => ?_)
    replace pr12 : ((r12.toInt = 1 ∧ z10.toInt ≤ z9.toInt ∧ z9.toInt ≤ z11.toInt) ∨ (r12.toInt = 0 ∧ (z9.toInt < z10.toInt ∨ z11.toInt < z9.toInt))) := pr12
    refine lv_if_eq (tgt := 33) hx hb dX10_tape_20 (by decide) (fun c13 => ?_) (fun c13 => ?_)
    · skip
      have ic13 := tn_eq rfl kI_0 c13
      refine lv_bipush (v := -2) hx hb dX10_tape_33 (by decide) ?_
      have et : tTape x1.toInt x2.toInt x3.toInt = -2 := by (unfold tTape; split <;> (try split) <;> (try split) <;> (try split) <;> omega)
      exact mc_iretX E hr hlk hG rfl rfl (show (-2 : Int32).toInt = tTape x1.toInt x2.toInt x3.toInt ∧ (σ, cu, vX X T) = (σ, cu, vX X (wTape T x1 x2 x3)) from ⟨by rw [et]; exact kI_m2, by unfold wTape; rw [if_neg (by rw [et]; decide)]⟩) dX10_tape_35
    · skip
      have ic13 := tn_ne rfl kI_0 c13
      refine lv_iload_n hx hb dX10_tape_23 rfl (lv_at hl 2 rfl) ?_
      refine lv_if_lt (tgt := 36) hx hb dX10_tape_24 (by decide) (fun c14 => ?_) (fun c14 => ?_)
      · skip
        have ic14 := tn_lt rfl kI_0 c14
        refine lv_iload_n hx hb dX10_tape_36 rfl (lv_at hl 2 rfl) ?_
        refine lv_if_lt (tgt := 47) hx hb dX10_tape_37 (by decide) (fun c15 => ?_) (fun c15 => ?_)
        · skip
          have ic15 := tn_lt rfl kI_0 c15
          refine lv_aload_n hx hb dX10_tape_47 rfl (lv_at hl 0 rfl) ?_
          refine mc_getT E hG t0 tb1 ff_X10_72 rfl dX10_tape_48 (fun oa16 hoa16 => ?_)
          refine lv_iload_n hx hb dX10_tape_51 rfl (lv_at hl 1 rfl) ?_
          refine lv_iload_n hx hb dX10_tape_52 rfl (lv_at hl 2 rfl) ?_
          refine lv_iconst (v := 1) hx hb dX10_tape_53 (by decide) ?_
          refine lv_iadd hx hb dX10_tape_54 ?_
          refine lv_topi (fun z17 ez17 => ?_)
          have tz17 := tn_add ez17 rfl kI_1 (by omega) (by omega)
          refine mv_ast1 E hG hoa16 (t_in (by omega) (by omega)) ez17 (by omega) (by omega) dX10_tape_55 (fun H locs hG => ?_)
          refine lv_aload_n hx hb dX10_tape_56 rfl (lv_at hl 0 rfl) ?_
          refine mc_getT E hG t0 tb2 ff_X10_75 rfl dX10_tape_57 (fun oa18 hoa18 => ?_)
          refine lv_iload_n hx hb dX10_tape_60 rfl (lv_at hl 1 rfl) ?_
          refine lv_iload_n hx hb dX10_tape_61 rfl (lv_at hl 2 rfl) ?_
          refine lv_if_ge (tgt := 69) hx hb dX10_tape_62 (by decide) (fun c19 => ?_) (fun c19 => ?_)
          · exfalso
            have ic19 := tn_le kI_0 rfl c19
            omega
          · skip
            have ic19 := tn_nle kI_0 rfl c19
            refine lv_iconst (v := 0) hx hb dX10_tape_65 (by decide) ?_
            refine lv_goto (tgt := 70) hx hb dX10_tape_66 (by decide) ?_
            refine mv_ast2 E hG hoa18 (t_in (by omega) (by omega)) (by decide) (by decide) dX10_tape_70 (fun H locs hG => ?_)
            refine lv_iconst (v := 0) hx hb dX10_tape_71 (by decide) ?_
            refine lv_istore (lv' := [(4, .int 0), (0, .ref h0), (1, .int x1), (2, .int x2), (3, .int x3)]) hx hb dX10_tape_72 hl (by decide) rfl (fun ls hl => ?_)
            have et : tTape x1.toInt x2.toInt x3.toInt = 1 := by (unfold tTape; split <;> (try split) <;> (try split) <;> (try split) <;> omega)
            have eT : wTape T x1 x2 x3 = (up1 T.1 x1.toInt.toNat x2, up1 T.2 x1.toInt.toNat 0) := by unfold wTape; rw [if_pos et, if_pos (by omega)]
            exact J74 ((60 - (0 : Int32).toInt).toNat + 1) H locs ls (0 : Int32) (by rw [eT]; exact hG) (lv_sub hl [1, 2, 0] rfl) (by omega) (by omega) (by decide) (by decide) (by have k0 := kI_0; have k1 := kI_1; omega) (Nat.lt_succ_self _)
        · exfalso
          have ic15 := tn_nlt rfl kI_0 c15
          omega
      · skip
        have ic14 := tn_nlt rfl kI_0 c14
        refine lv_iload_n hx hb dX10_tape_27 rfl (lv_at hl 3 rfl) ?_
        refine lv_bipush (v := 60) hx hb dX10_tape_28 (by decide) ?_
        refine lv_icmp_le (tgt := 36) hx hb dX10_tape_30 (by decide) (fun c20 => ?_) (fun c20 => ?_)
        · skip
          have ic20 := tn_le rfl kI_60 c20
          refine lv_iload_n hx hb dX10_tape_36 rfl (lv_at hl 2 rfl) ?_
          refine lv_if_lt (tgt := 47) hx hb dX10_tape_37 (by decide) (fun c21 => ?_) (fun c21 => ?_)
          · exfalso
            have ic21 := tn_lt rfl kI_0 c21
            omega
          · skip
            have ic21 := tn_nlt rfl kI_0 c21
            refine lv_iload_n hx hb dX10_tape_40 rfl (lv_at hl 3 rfl) ?_
            refine lv_if_ge (tgt := 47) hx hb dX10_tape_41 (by decide) (fun c22 => ?_) (fun c22 => ?_)
            · skip
              have ic22 := tn_le kI_0 rfl c22
              refine lv_aload_n hx hb dX10_tape_47 rfl (lv_at hl 0 rfl) ?_
              refine mc_getT E hG t0 tb1 ff_X10_72 rfl dX10_tape_48 (fun oa23 hoa23 => ?_)
              refine lv_iload_n hx hb dX10_tape_51 rfl (lv_at hl 1 rfl) ?_
              refine lv_iload_n hx hb dX10_tape_52 rfl (lv_at hl 2 rfl) ?_
              refine lv_iconst (v := 1) hx hb dX10_tape_53 (by decide) ?_
              refine lv_iadd hx hb dX10_tape_54 ?_
              refine lv_topi (fun z24 ez24 => ?_)
              have tz24 := tn_add ez24 rfl kI_1 (by omega) (by omega)
              refine mv_ast1 E hG hoa23 (t_in (by omega) (by omega)) ez24 (by omega) (by omega) dX10_tape_55 (fun H locs hG => ?_)
              refine lv_aload_n hx hb dX10_tape_56 rfl (lv_at hl 0 rfl) ?_
              refine mc_getT E hG t0 tb2 ff_X10_75 rfl dX10_tape_57 (fun oa25 hoa25 => ?_)
              refine lv_iload_n hx hb dX10_tape_60 rfl (lv_at hl 1 rfl) ?_
              refine lv_iload_n hx hb dX10_tape_61 rfl (lv_at hl 2 rfl) ?_
              refine lv_if_ge (tgt := 69) hx hb dX10_tape_62 (by decide) (fun c26 => ?_) (fun c26 => ?_)
              · skip
                have ic26 := tn_le kI_0 rfl c26
                refine lv_iload_n hx hb dX10_tape_69 rfl (lv_at hl 3 rfl) ?_
                refine mv_ast2 E hG hoa25 (t_in (by omega) (by omega)) (by omega) (by omega) dX10_tape_70 (fun H locs hG => ?_)
                refine lv_iconst (v := 0) hx hb dX10_tape_71 (by decide) ?_
                refine lv_istore (lv' := [(4, .int 0), (0, .ref h0), (1, .int x1), (2, .int x2), (3, .int x3)]) hx hb dX10_tape_72 hl (by decide) rfl (fun ls hl => ?_)
                have et : tTape x1.toInt x2.toInt x3.toInt = 1 := by (unfold tTape; split <;> (try split) <;> (try split) <;> (try split) <;> omega)
                have eT : wTape T x1 x2 x3 = (up1 T.1 x1.toInt.toNat x2, up1 T.2 x1.toInt.toNat x3) := by unfold wTape; rw [if_pos et, if_neg (by omega)]
                exact J74 ((60 - (0 : Int32).toInt).toNat + 1) H locs ls (0 : Int32) (by rw [eT]; exact hG) (lv_sub hl [1, 2, 0] rfl) (by omega) (by omega) (by decide) (by decide) (by have k0 := kI_0; have k1 := kI_1; omega) (Nat.lt_succ_self _)
              · exfalso
                have ic26 := tn_nle kI_0 rfl c26
                omega
            · skip
              have ic22 := tn_nle kI_0 rfl c22
              refine lv_bipush (v := -14) hx hb dX10_tape_44 (by decide) ?_
              have et : tTape x1.toInt x2.toInt x3.toInt = -14 := by (unfold tTape; split <;> (try split) <;> (try split) <;> (try split) <;> omega)
              exact mc_iretX E hr hlk hG rfl rfl (show (-14 : Int32).toInt = tTape x1.toInt x2.toInt x3.toInt ∧ (σ, cu, vX X T) = (σ, cu, vX X (wTape T x1 x2 x3)) from ⟨by rw [et]; exact kI_m14, by unfold wTape; rw [if_neg (by rw [et]; decide)]⟩) dX10_tape_46
        · skip
          have ic20 := tn_nle rfl kI_60 c20
          refine lv_bipush (v := -2) hx hb dX10_tape_33 (by decide) ?_
          have et : tTape x1.toInt x2.toInt x3.toInt = -2 := by (unfold tTape; split <;> (try split) <;> (try split) <;> (try split) <;> omega)
          exact mc_iretX E hr hlk hG rfl rfl (show (-2 : Int32).toInt = tTape x1.toInt x2.toInt x3.toInt ∧ (σ, cu, vX X T) = (σ, cu, vX X (wTape T x1 x2 x3)) from ⟨by rw [et]; exact kI_m2, by unfold wTape; rw [if_neg (by rw [et]; decide)]⟩) dX10_tape_35
  · skip
    have ic8 := tn_eq rfl kI_0 c8
    refine lv_iconst (v := -1) hx hb dX10_tape_7 (by decide) ?_
    have et : tTape x1.toInt x2.toInt x3.toInt = -1 := by (unfold tTape; split <;> (try split) <;> (try split) <;> (try split) <;> omega)
    exact mc_iretX E hr hlk hG rfl rfl (show (-1 : Int32).toInt = tTape x1.toInt x2.toInt x3.toInt ∧ (σ, cu, vX X T) = (σ, cu, vX X (wTape T x1 x2 x3)) from ⟨by rw [et]; exact kI_m1, by unfold wTape; rw [if_neg (by rw [et]; decide)]⟩) dX10_tape_8

