theorem upR_0 {F : mF} {c : Nat} {f : Nat → Int32} : upR F c 0 0 f = F := funext fun c9 => funext fun k9 => by
  unfold upR
  rw [if_neg (by omega)]
theorem upR_s {F : mF} {c n m : Nat} {v : Int32} (h : m = n) : up2 (upR F c 0 n (fun _ => v)) c m v = upR F c 0 (n + 1) (fun _ => v) := funext fun c9 => funext fun k9 => by
  unfold up2 upR
  by_cases e1 : c9 = c ∧ k9 = m
  · rw [if_pos e1, if_pos (by omega)]
  · rw [if_neg e1]
    by_cases e2 : c9 = c ∧ 0 ≤ k9 ∧ k9 < 0 + n
    · rw [if_pos e2, if_pos (by omega)]
    · rw [if_neg e2, if_neg (by omega)]

set_option maxHeartbeats 4000000 in
set_option maxRecDepth 100000 in
theorem x_J7_fill_53178 (l : Launch) (G : tG) (F : mF) (τ : Nat → Nat) (h0 : Nat) (x1 : Int32) (t0 : τ h0 = 11) : Met l yJ7_fill_53178 (.code yJ7_fill_53178 cJ7_fill_53178 4 none :: tWS) (tRm 0 0) (va_Pc [.ref h0, .int x1] (tPre (gF G F) τ)) (tQG G τ (fun F9 => F9 = upR F h0 0 4 (fun _ => x1))) 0 0 (tA τ) := by
  refine tc_met (by decide) (Nat.le_of_ble_eq_true rfl) ?_
  intro p e s m below meth c E hSt hr hlk hG ls hl
  have hl : lv_has ls 4 [(0, .ref h0), (1, .int x1)] := hl
  have hx := E.1
  have hb := E.2.1
  obtain ⟨H, eH⟩ : ∃ H, H = s.heap := ⟨_, rfl⟩
  obtain ⟨locs, eL⟩ : ∃ x : List Loc, x = [] := ⟨_, rfl⟩
  have hG : tGH (gF G F) τ s H locs := by rw [eH, eL]; exact hG
  suffices hW : W p l e (tRm 0 0) s m ([.ref h0, .int x1] : List Value).toArray below meth c H locs 0 0 (MQ below (tQG G τ (fun F9 => F9 = upR F h0 0 4 (fun _ => x1))) ([.ref h0, .int x1] : List Value).toArray s 0 0 (tA τ)) (F0 m 0 ls []) by subst eH; subst eL; exact hW
  clear eH eL
  have J5 : ∀ (n5 : Nat) (Fc : mF) (H : Heap) (locs : List Loc) (ls : Array Slot) (v2 : Int32) (v3 : Int32), tGH (gF G Fc) τ s H locs → lv_has ls 4 [(0, .ref h0), (1, .int x1), (2, .int v2), (3, .int v3)] → 0 ≤ v2.toInt → v2.toInt ≤ 4 → 4 ≤ v3.toInt → v3.toInt ≤ 4 → (∃ n9 : Nat, (n9 : Int) = v2.toInt ∧ Fc = upR F h0 0 n9 (fun _ => x1)) → (4 - v2.toInt).toNat < n5 → W p l e (tRm 0 0) s m ([.ref h0, .int x1] : List Value).toArray below meth c H locs 0 0 (MQ below (tQG G τ (fun F9 => F9 = upR F h0 0 4 (fun _ => x1))) ([.ref h0, .int x1] : List Value).toArray s 0 0 (tA τ)) (F0 m 5 ls []) := by
    intro n5
    induction n5 with
    | zero => intro Fc H locs ls v2 v3 hG hl b2 c2 b3 c3 hex5 hn5; exact absurd hn5 (Nat.not_lt_zero _)
    | succ n5 ih5 =>
      intro Fc H locs ls v2 v3 hG hl b2 c2 b3 c3 hex5 hn5
      have E := E.f1 (F' := Fc)
      have hSt := hSt.f1 (F' := Fc)
      obtain ⟨n9, en9, eFc⟩ := hex5
      refine lv_iload_n hx hb dJ7_fill_53178_5 rfl (lv_at hl 2 rfl) ?_
      refine lv_iload_n hx hb dJ7_fill_53178_6 rfl (lv_at hl 3 rfl) ?_
      refine lv_icmp_ge (tgt := 20) hx hb dJ7_fill_53178_7 (by decide) (fun c1 => ?_) (fun c1 => ?_)
      · skip
        have ic1 := tn_le rfl rfl c1
        exact tc_vretF E hr hlk hG (by rw [eFc, show n9 = 4 by omega]) dJ7_fill_53178_20
      · skip
        have ic1 := tn_nle rfl rfl c1
        refine lv_aload_n hx hb dJ7_fill_53178_10 rfl (lv_at hl 0 rfl) ?_
        refine lv_iload_n hx hb dJ7_fill_53178_11 rfl (lv_at hl 2 rfl) ?_
        refine lv_iload_n hx hb dJ7_fill_53178_12 rfl (lv_at hl 1 rfl) ?_
        refine tc_iastF E hG t0 ta_11 (t_in (by omega) (by omega)) (t_any1 _) (t_any2 _) dJ7_fill_53178_13 (fun H locs hG => ?_)
        obtain ⟨F2, eF2⟩ : ∃ Z : mF, Z = up2 Fc h0 v2.toNatClampNeg x1 := ⟨_, rfl⟩
        replace hG : tGH (gF G F2) τ s H locs := by rw [eF2]; exact hG
        have E := E.f1 (F' := F2)
        have hSt := hSt.f1 (F' := F2)
        obtain ⟨z3, ez3⟩ : ∃ y : Int32, y = v2 + (1) := ⟨_, rfl⟩
        refine lv_iinc (v := z3) (lv' := [(2, .int z3), (0, .ref h0), (1, .int x1), (3, .int v3)]) hx hb dJ7_fill_53178_14 hl (k := 2) rfl (by rw [ez3]; rfl) (by decide) rfl (fun ls hl => ?_)
        have tz3 := tn_add ez3 rfl kI_1 (by omega) (by omega)
        refine lv_goto (tgt := 5) hx hb dJ7_fill_53178_17 (by decide) ?_
        exact ih5 F2 H locs ls z3 v3 hG (lv_sub hl [1, 2, 0, 3] rfl) (by omega) (by omega) (by omega) (by omega) (by exact ⟨n9 + 1, by omega, (by rw [eF2, eFc]; exact upR_s (by show v2.toInt.toNat = n9; omega))⟩) (by omega)
  refine lv_iconst (v := 0) hx hb dJ7_fill_53178_0 (by decide) ?_
  refine lv_istore_n (lv' := [(2, .int 0), (0, .ref h0), (1, .int x1)]) hx hb dJ7_fill_53178_1 rfl hl (by decide) rfl (fun ls hl => ?_)
  refine lv_aload_n hx hb dJ7_fill_53178_2 rfl (lv_at hl 1 rfl) ?_
  refine tc_alen E hG t0 ta_11 rfl (v := 4) (by decide) dJ7_fill_53178_3 ?_
  refine lv_istore_n (lv' := [(3, .int 4), (2, .int 0), (0, .ref h0), (1, .int x1)]) hx hb dJ7_fill_53178_4 rfl hl (by decide) rfl (fun ls hl => ?_)
  exact J5 ((4 - (0 : Int32).toInt).toNat + 1) F H locs ls (0 : Int32) (4 : Int32) hG (lv_sub hl [2, 3, 1, 0] rfl) (by decide) (by decide) (by decide) (by decide) (by exact ⟨0, by decide, upR_0.symm⟩) (Nat.lt_succ_self _)
