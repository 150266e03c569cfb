set_option maxHeartbeats 4000000 in
set_option maxRecDepth 100000 in
theorem x_X9_reads (l : Launch) (G : tG) (F : mF) (τ : Nat → Nat) (h0 : Nat) (x1 : Int32) (t0 : τ h0 = 1) (h8 : h0 = G.2.2.1 8) (hT : ∀ n : Nat, tB (F (G.2.2.1 10) 4) n → (n : Int) < (F (G.2.2.1 10) 8).toInt) (hu : ∀ q, τ q = 7 → q = G.2.2.1 14) (hL : τ (G.2.2.1 16) = 18) (hLr : G.2.2.1 16 < G.2.2.1 14 ∨ G.2.2.1 14 + 30 ≤ G.2.2.1 16) (hWr : G.2.2.1 10 + 100 ≤ G.2.2.1 14 ∨ G.2.2.1 14 + 30 ≤ G.2.2.1 10) (hxr : h0 < G.2.2.1 14 ∨ G.2.2.1 14 + 30 ≤ h0) (hxw : ¬ (G.2.2.1 10 ≤ h0 ∧ h0 < G.2.2.1 10 + 100)) (hk0 : ∀ n : Nat, tB (F (G.2.2.1 10) 4) n → 0 ≤ (F (G.2.2.1 10 + 1 + (3 + 4 * n)) 10).toInt) : Met l yX9_reads (.code yX9_reads cX9_reads 7 (some .int) :: tWS) (tRm 8 181) (va_Pc [.ref h0, .int x1] (tPre (gF G F) τ)) (tQF G τ (fun r F9 => (r = -1 ∧ F9 = F ∧ ¬ (x1.toInt = -1 ∨ (0 ≤ x1.toInt ∧ x1.toInt ≤ 23 ∧ tB (F (G.2.2.1 10) 4) x1.toInt.toNat))) ∨ (r = -3 ∧ F9 = F ∧ (x1.toInt = -1 ∨ (0 ≤ x1.toInt ∧ x1.toInt ≤ 23 ∧ tB (F (G.2.2.1 10) 4) x1.toInt.toNat)) ∧ ¬ ((¬ (0 ≤ x1.toInt ∧ x1.toInt ≤ 23 ∧ tB (F (G.2.2.1 10) 4) x1.toInt.toNat) ∧ ¬ (0 ≤ (F (G.2.2.1 10) 9).toInt ∧ (F (G.2.2.1 10) 9).toInt ≤ 23 ∧ tB (F (G.2.2.1 10) 4) (F (G.2.2.1 10) 9).toInt.toNat)) ∨ ((0 ≤ x1.toInt ∧ x1.toInt ≤ 23 ∧ tB (F (G.2.2.1 10) 4) x1.toInt.toNat) ∧ (F ((G.2.2.1 10) + 1 + (3 + 4 * x1.toNatClampNeg)) 10).toInt < nKid (F ((G.2.2.1 10) + 1 + (3 + 4 * x1.toNatClampNeg)) 4).toInt))) ∨ ((x1.toInt = -1 ∨ (0 ≤ x1.toInt ∧ x1.toInt ≤ 23 ∧ tB (F (G.2.2.1 10) 4) x1.toInt.toNat)) ∧ ((¬ (0 ≤ x1.toInt ∧ x1.toInt ≤ 23 ∧ tB (F (G.2.2.1 10) 4) x1.toInt.toNat) ∧ ¬ (0 ≤ (F (G.2.2.1 10) 9).toInt ∧ (F (G.2.2.1 10) 9).toInt ≤ 23 ∧ tB (F (G.2.2.1 10) 4) (F (G.2.2.1 10) 9).toInt.toNat)) ∨ ((0 ≤ x1.toInt ∧ x1.toInt ≤ 23 ∧ tB (F (G.2.2.1 10) 4) x1.toInt.toNat) ∧ (F ((G.2.2.1 10) + 1 + (3 + 4 * x1.toNatClampNeg)) 10).toInt < nKid (F ((G.2.2.1 10) + 1 + (3 + 4 * x1.toNatClampNeg)) 4).toInt)) ∧ RDS F F9 (G.2.2.1 10) (G.2.2.1 14) (G.2.2.1 16) h0 x1 r))) 0 0 (tA τ) := by
  refine tc_met (by decide) (Nat.le_of_ble_eq_true rfl) ?_
  intro p e s m below meth c E hSt hr hlk hG ls hl
  have hl : lv_has ls 7 [(0, .ref h0), (1, .int x1)] := hl
  have hx := E.1
  have hb := E.2.1
  obtain ⟨H, eH⟩ : ∃ H, H = s.heap := ⟨_, rfl⟩
  obtain ⟨locs, eL⟩ : ∃ x : List Loc, x = [] := ⟨_, rfl⟩
  have hG : tGH (gF G F) τ s H locs := by rw [eH, eL]; exact hG
  suffices hW : W p l e (tRm 8 181) s m ([.ref h0, .int x1] : List Value).toArray below meth c H locs 0 0 (MQ below (tQF G τ (fun r F9 => (r = -1 ∧ F9 = F ∧ ¬ (x1.toInt = -1 ∨ (0 ≤ x1.toInt ∧ x1.toInt ≤ 23 ∧ tB (F (G.2.2.1 10) 4) x1.toInt.toNat))) ∨ (r = -3 ∧ F9 = F ∧ (x1.toInt = -1 ∨ (0 ≤ x1.toInt ∧ x1.toInt ≤ 23 ∧ tB (F (G.2.2.1 10) 4) x1.toInt.toNat)) ∧ ¬ ((¬ (0 ≤ x1.toInt ∧ x1.toInt ≤ 23 ∧ tB (F (G.2.2.1 10) 4) x1.toInt.toNat) ∧ ¬ (0 ≤ (F (G.2.2.1 10) 9).toInt ∧ (F (G.2.2.1 10) 9).toInt ≤ 23 ∧ tB (F (G.2.2.1 10) 4) (F (G.2.2.1 10) 9).toInt.toNat)) ∨ ((0 ≤ x1.toInt ∧ x1.toInt ≤ 23 ∧ tB (F (G.2.2.1 10) 4) x1.toInt.toNat) ∧ (F ((G.2.2.1 10) + 1 + (3 + 4 * x1.toNatClampNeg)) 10).toInt < nKid (F ((G.2.2.1 10) + 1 + (3 + 4 * x1.toNatClampNeg)) 4).toInt))) ∨ ((x1.toInt = -1 ∨ (0 ≤ x1.toInt ∧ x1.toInt ≤ 23 ∧ tB (F (G.2.2.1 10) 4) x1.toInt.toNat)) ∧ ((¬ (0 ≤ x1.toInt ∧ x1.toInt ≤ 23 ∧ tB (F (G.2.2.1 10) 4) x1.toInt.toNat) ∧ ¬ (0 ≤ (F (G.2.2.1 10) 9).toInt ∧ (F (G.2.2.1 10) 9).toInt ≤ 23 ∧ tB (F (G.2.2.1 10) 4) (F (G.2.2.1 10) 9).toInt.toNat)) ∨ ((0 ≤ x1.toInt ∧ x1.toInt ≤ 23 ∧ tB (F (G.2.2.1 10) 4) x1.toInt.toNat) ∧ (F ((G.2.2.1 10) + 1 + (3 + 4 * x1.toNatClampNeg)) 10).toInt < nKid (F ((G.2.2.1 10) + 1 + (3 + 4 * x1.toNatClampNeg)) 4).toInt)) ∧ RDS F F9 (G.2.2.1 10) (G.2.2.1 14) (G.2.2.1 16) h0 x1 r))) ([.ref h0, .int x1] : List Value).toArray s 0 0 (tA τ)) (F0 m 0 ls []) by subst eH; subst eL; exact hW
  clear eH eL
  have J76 : ∀ (n76 : Nat) (Fc : mF) (H : Heap) (locs : List Loc) (ls : Array Slot) (v3 : Int32) (v4 : Int32), tGH (gF G Fc) τ s H locs → lv_has ls 7 [(0, .ref h0), (1, .int x1), (3, .int v3), (4, .int v4)] → 0 ≤ v3.toInt → v3.toInt ≤ 24 → 0 ≤ v4.toInt → v4.toInt ≤ 24 → ((x1.toInt = -1 ∨ (0 ≤ x1.toInt ∧ x1.toInt ≤ 23 ∧ tB (F (G.2.2.1 10) 4) x1.toInt.toNat)) ∧ ((¬ (0 ≤ x1.toInt ∧ x1.toInt ≤ 23 ∧ tB (F (G.2.2.1 10) 4) x1.toInt.toNat) ∧ ¬ (0 ≤ (F (G.2.2.1 10) 9).toInt ∧ (F (G.2.2.1 10) 9).toInt ≤ 23 ∧ tB (F (G.2.2.1 10) 4) (F (G.2.2.1 10) 9).toInt.toNat)) ∨ ((0 ≤ x1.toInt ∧ x1.toInt ≤ 23 ∧ tB (F (G.2.2.1 10) 4) x1.toInt.toNat) ∧ (F ((G.2.2.1 10) + 1 + (3 + 4 * x1.toNatClampNeg)) 10).toInt < nKid (F ((G.2.2.1 10) + 1 + (3 + 4 * x1.toNatClampNeg)) 4).toInt)) ∧ (∃ (F1 : mF) (n : Nat), FRM (up2 F h0 8 0) F1 (G.2.2.1 14) ∧ FOk (LF F (G.2.2.1 16)) F1 (G.2.2.1 14) (F h0 8).toInt (24 - (F (G.2.2.1 10) 8).toInt) n ∧ v3 = F (G.2.2.1 10) 8 ∧ RIv F1 Fc (G.2.2.1 10) (G.2.2.1 14) x1 (F (G.2.2.1 10) 8).toInt v4.toInt.toNat ∧ v4.toInt ≤ n)) → (24 - v4.toInt).toNat < n76 → W p l e (tRm 8 181) s m ([.ref h0, .int x1] : List Value).toArray below meth c H locs 0 0 (MQ below (tQF G τ (fun r F9 => (r = -1 ∧ F9 = F ∧ ¬ (x1.toInt = -1 ∨ (0 ≤ x1.toInt ∧ x1.toInt ≤ 23 ∧ tB (F (G.2.2.1 10) 4) x1.toInt.toNat))) ∨ (r = -3 ∧ F9 = F ∧ (x1.toInt = -1 ∨ (0 ≤ x1.toInt ∧ x1.toInt ≤ 23 ∧ tB (F (G.2.2.1 10) 4) x1.toInt.toNat)) ∧ ¬ ((¬ (0 ≤ x1.toInt ∧ x1.toInt ≤ 23 ∧ tB (F (G.2.2.1 10) 4) x1.toInt.toNat) ∧ ¬ (0 ≤ (F (G.2.2.1 10) 9).toInt ∧ (F (G.2.2.1 10) 9).toInt ≤ 23 ∧ tB (F (G.2.2.1 10) 4) (F (G.2.2.1 10) 9).toInt.toNat)) ∨ ((0 ≤ x1.toInt ∧ x1.toInt ≤ 23 ∧ tB (F (G.2.2.1 10) 4) x1.toInt.toNat) ∧ (F ((G.2.2.1 10) + 1 + (3 + 4 * x1.toNatClampNeg)) 10).toInt < nKid (F ((G.2.2.1 10) + 1 + (3 + 4 * x1.toNatClampNeg)) 4).toInt))) ∨ ((x1.toInt = -1 ∨ (0 ≤ x1.toInt ∧ x1.toInt ≤ 23 ∧ tB (F (G.2.2.1 10) 4) x1.toInt.toNat)) ∧ ((¬ (0 ≤ x1.toInt ∧ x1.toInt ≤ 23 ∧ tB (F (G.2.2.1 10) 4) x1.toInt.toNat) ∧ ¬ (0 ≤ (F (G.2.2.1 10) 9).toInt ∧ (F (G.2.2.1 10) 9).toInt ≤ 23 ∧ tB (F (G.2.2.1 10) 4) (F (G.2.2.1 10) 9).toInt.toNat)) ∨ ((0 ≤ x1.toInt ∧ x1.toInt ≤ 23 ∧ tB (F (G.2.2.1 10) 4) x1.toInt.toNat) ∧ (F ((G.2.2.1 10) + 1 + (3 + 4 * x1.toNatClampNeg)) 10).toInt < nKid (F ((G.2.2.1 10) + 1 + (3 + 4 * x1.toNatClampNeg)) 4).toInt)) ∧ RDS F F9 (G.2.2.1 10) (G.2.2.1 14) (G.2.2.1 16) h0 x1 r))) ([.ref h0, .int x1] : List Value).toArray s 0 0 (tA τ)) (F0 m 76 ls []) := by
    intro n76
    induction n76 with
    | zero => intro Fc H locs ls v3 v4 hG hl b3 c3 b4 c4 hex76 hn76; exact absurd hn76 (Nat.not_lt_zero _)
    | succ n76 ih76 =>
      intro Fc H locs ls v3 v4 hG hl b3 c3 b4 c4 hex76 hn76
      have E := E.f1 (F' := Fc)
      have hSt := hSt.f1 (F' := Fc)
      obtain ⟨hAR, hCR, F1, n9, hFr, hO, ev3, hI, hle⟩ := hex76
      have h7x : (0 ≤ x1.toInt ∧ x1.toInt ≤ 23 ∧ tB (F (G.2.2.1 10) 4) x1.toInt.toNat) → (F ((G.2.2.1 10) + 1 + (3 + 4 * x1.toInt.toNat)) 10).toInt ≤ 7 := fun h => by rcases hCR with h9 | h9; exact absurd h h9.1; (have h6 := nKid_r (F ((G.2.2.1 10) + 1 + (3 + 4 * x1.toNatClampNeg)) 4).toInt; have h5 : (F ((G.2.2.1 10) + 1 + (3 + 4 * x1.toInt.toNat)) 10).toInt < nKid (F ((G.2.2.1 10) + 1 + (3 + 4 * x1.toNatClampNeg)) 4).toInt := h9.2; omega)
      have hO5 := hO.2.2.2.1
      have hPB := hO.2.2.2.2.2
      have hle2 := hO.2.2.1
      have hn24 := hO.2.1
      have hfrm : ∀ c k, c < (G.2.2.1 14) + 30 → (G.2.2.1 14) ≤ c → Fc c k = F1 c k := fun c k h1 h2 => hI.2.1 c k (by omega)
      have h5c : (Fc (G.2.2.1 14) 5).toInt = (F1 (G.2.2.1 14) 5).toInt := by rw [hfrm _ _ (by omega) (by omega)]
      have tv3 : v3.toInt = (F (G.2.2.1 10) 8).toInt := by rw [ev3]
      have hg0 : 0 ≤ (F (G.2.2.1 10) 8).toInt := by omega
      have eW : ∀ c k, ((G.2.2.1 10) ≤ c ∧ c < (G.2.2.1 10) + 100) → F1 c k = F c k := fun c k h1 => by rw [hFr c k (by omega), up2_ne (by omega)]
      have hpar : x1.toInt = -1 ∨ (0 ≤ x1.toInt ∧ x1.toInt < (F (G.2.2.1 10) 8).toInt ∧ tB (F1 (G.2.2.1 10) 4) x1.toInt.toNat ∧ 0 ≤ (F1 ((G.2.2.1 10) + 1 + (3 + 4 * x1.toInt.toNat)) 10).toInt ∧ (F1 ((G.2.2.1 10) + 1 + (3 + 4 * x1.toInt.toNat)) 10).toInt ≤ 7) := by rw [eW _ 4 (by omega)]; rcases hAR with h | h; exact Or.inl h; (rw [eW _ 10 (by omega)]; exact Or.inr ⟨h.1, (by have := hT _ h.2.2; omega), h.2.2, hk0 _ h.2.2, h7x h⟩)
      have h00 : LF F1 ((G.2.2.1 14) + 2) 0 = -1 := by rcases RDok_P hO.2.2.2.2.1 (i := 0) (by have := hO.1; omega) with h | h; exact h.2; (exfalso; omega)
      refine lv_iload hx hb dX9_reads_76 (lv_at hl 3 rfl) ?_
      refine lv_aload_n hx hb dX9_reads_78 rfl (lv_at hl 0 rfl) ?_
      refine tc_getrG E hG t0 fr_X9_40 rfl (fun _ => h8) (fun z => by cases z) dX9_reads_79 (fun ha1 => ?_)
      replace ha1 : τ (G.2.2.1 14) = 7 := ha1
      refine tc_getF E hG ha1 fi_X9_171 rfl dX9_reads_82 (fun z2 lz2 uz2 wz2 => ?_)
      replace wz2 : z2 = Fc (G.2.2.1 14) 5 := wz2
      have cz2 : z2.toInt = (Fc (G.2.2.1 14) 5).toInt := by rw [wz2]
      refine lv_icmp_ge (tgt := 175) hx hb dX9_reads_85 (by decide) (fun c3 => ?_) (fun c3 => ?_)
      · skip
        have ic3 := tn_le rfl rfl c3
        refine lv_aload_n hx hb dX9_reads_175 rfl (lv_at hl 0 rfl) ?_
        refine tc_getrG E hG t0 fr_X9_40 rfl (fun _ => h8) (fun z => by cases z) dX9_reads_176 (fun ha4 => ?_)
        replace ha4 : τ (G.2.2.1 14) = 7 := ha4
        refine tc_getF E hG ha4 fi_X9_171 rfl dX9_reads_179 (fun z5 lz5 uz5 wz5 => ?_)
        replace wz5 : z5 = Fc (G.2.2.1 14) 5 := wz5
        have cz5 : z5.toInt = (Fc (G.2.2.1 14) 5).toInt := by rw [wz5]
        exact tc_iretF E hr hlk hG rfl (Or.inr (Or.inr ⟨hAR, hCR, F1, hFr, Or.inr ⟨n9, hO, by omega, (by have h9 := hI.1; rw [show v4.toInt.toNat = n9 by omega] at h9; exact h9)⟩⟩)) dX9_reads_182
      · skip
        have ic3 := tn_nle rfl rfl c3
        refine lv_iload hx hb dX9_reads_88 (lv_at hl 3 rfl) ?_
        refine lv_if_ne (tgt := 97) hx hb dX9_reads_90 (by decide) (fun c6 => ?_) (fun c6 => ?_)
        · skip
          have ic6 := tn_ne rfl kI_0 c6
          refine lv_iload_n hx hb dX9_reads_97 rfl (lv_at hl 2 rfl) ?_
          refine lv_aload_n hx hb dX9_reads_98 rfl (lv_at hl 0 rfl) ?_
          refine tc_getrG E hG t0 fr_X9_40 rfl (fun _ => h8) (fun z => by cases z) dX9_reads_99 (fun ha7 => ?_)
          replace ha7 : τ (G.2.2.1 14) = 7 := ha7
          refine tc_getrF (d := 2) E hG ha7 fr_X9_174 rfl dX9_reads_102 (fun ha8 => ?_)
          refine lv_iload hx hb dX9_reads_105 (lv_at hl 3 rfl) ?_
          refine tc_ialdF E hG ha8 ta_16 rfl (t_in (by omega) (by omega)) dX9_reads_107 (fun z9 lz9 uz9 wz9 => ?_)
          replace wz9 : z9 = Fc ((G.2.2.1 14) + 2) v4.toNatClampNeg := wz9
          have nn10 : v4.toNatClampNeg = v4.toInt.toNat := rfl
          have cz9 : z9.toInt = (Fc ((G.2.2.1 14) + 2) v4.toNatClampNeg).toInt := by rw [wz9]
          refine lv_iadd hx hb dX9_reads_108 ?_
          refine lv_topi (fun z11 ez11 => ?_)
          have tz11 := tn_add ez11 rfl rfl (by omega) (by omega)
          have hPo := RIv_par (pa := z11) hI hO (by omega) hg0 (by rw [if_neg (by omega)]; show _ = _ + (F1 ((G.2.2.1 14) + 2) v4.toNatClampNeg).toInt; rw [← hfrm _ _ (by omega) (by omega), ← wz9]; omega) hpar
          refine lv_istore (lv' := [(5, .int z11), (0, .ref h0), (1, .int x1), (3, .int v3), (4, .int v4)]) hx hb dX9_reads_109 hl (by decide) rfl (fun ls hl => ?_)
          refine lv_aload_n hx hb dX9_reads_111 rfl (lv_at hl 1 rfl) ?_
          refine tc_getrG E hG t0 fr_X9_40 rfl (fun _ => h8) (fun z => by cases z) dX9_reads_112 (fun ha12 => ?_)
          replace ha12 : τ (G.2.2.1 14) = 7 := ha12
          refine tc_getrF (d := 5) E hG ha12 fr_X9_177 rfl dX9_reads_115 (fun ha13 => ?_)
          refine lv_iload hx hb dX9_reads_118 (lv_at hl 4 rfl) ?_
          refine tc_aald5F (d := 1 + v4.toNatClampNeg) E hG ha13 ta_17 rfl (t_in (by omega) (by omega)) dX9_reads_120 (fun ha14 => ?_)
          have nv4 : v4.toNatClampNeg = v4.toInt.toNat := rfl
          refine lv_astore (lv' := [(6, .ref (((G.2.2.1 14) + 5) + (1 + v4.toNatClampNeg))), (5, .int z11), (0, .ref h0), (1, .int x1), (3, .int v3), (4, .int v4)]) hx hb dX9_reads_121 hl (by decide) rfl (fun ls hl => ?_)
          refine lv_aload_n hx hb dX9_reads_123 rfl (lv_at hl 2 rfl) ?_
          refine tc_getrG E hG t0 fr_X9_12 rfl (fun _ => h8) (fun z => by cases z) dX9_reads_124 (fun ha15 => ?_)
          replace ha15 : τ (G.2.2.1 10) = 2 := ha15
          refine lv_aload_n hx hb dX9_reads_127 rfl (lv_at hl 2 rfl) ?_
          refine tc_getrG E hG t0 fr_X9_40 rfl (fun _ => h8) (fun z => by cases z) dX9_reads_128 (fun ha16 => ?_)
          replace ha16 : τ (G.2.2.1 14) = 7 := ha16
          refine tc_getrF (d := 1) E hG ha16 fr_X9_180 rfl dX9_reads_131 (fun ha17 => ?_)
          refine lv_iload hx hb dX9_reads_134 (lv_at hl 5 rfl) ?_
          refine tc_ialdF E hG ha17 ta_15 rfl (t_in (by omega) (by omega)) dX9_reads_136 (fun z18 lz18 uz18 wz18 => ?_)
          replace wz18 : z18 = Fc ((G.2.2.1 14) + 1) v4.toNatClampNeg := wz18
          have nn19 : v4.toNatClampNeg = v4.toInt.toNat := rfl
          have cz18 : z18.toInt = (Fc ((G.2.2.1 14) + 1) v4.toNatClampNeg).toInt := by rw [wz18]
          refine lv_iload hx hb dX9_reads_137 (lv_at hl 1 rfl) ?_
          refine lv_aload hx hb dX9_reads_139 (lv_at hl 0 rfl) ?_
          refine lv_iconst (v := 0) hx hb dX9_reads_141 (by decide) ?_
          refine tc_ialdF E hG ha14 ta_11 rfl (t_in (by decide) (by decide)) dX9_reads_142 (fun z20 lz20 uz20 wz20 => ?_)
          replace wz20 : z20 = Fc (((G.2.2.1 14) + 5) + (1 + v4.toNatClampNeg)) 0 := wz20
          have cz20 : z20.toInt = (Fc (((G.2.2.1 14) + 5) + (1 + v4.toNatClampNeg)) 0).toInt := by rw [wz20]
          refine lv_aload hx hb dX9_reads_143 (lv_at hl 0 rfl) ?_
          refine lv_iconst (v := 1) hx hb dX9_reads_145 (by decide) ?_
          refine tc_ialdF E hG ha14 ta_11 rfl (t_in (by decide) (by decide)) dX9_reads_146 (fun z21 lz21 uz21 wz21 => ?_)
          replace wz21 : z21 = Fc (((G.2.2.1 14) + 5) + (1 + v4.toNatClampNeg)) 1 := wz21
          have cz21 : z21.toInt = (Fc (((G.2.2.1 14) + 5) + (1 + v4.toNatClampNeg)) 1).toInt := by rw [wz21]
          refine lv_aload hx hb dX9_reads_147 (lv_at hl 0 rfl) ?_
          refine lv_iconst (v := 2) hx hb dX9_reads_149 (by decide) ?_
          refine tc_ialdF E hG ha14 ta_11 rfl (t_in (by decide) (by decide)) dX9_reads_150 (fun z22 lz22 uz22 wz22 => ?_)
          replace wz22 : z22 = Fc (((G.2.2.1 14) + 5) + (1 + v4.toNatClampNeg)) 2 := wz22
          have cz22 : z22.toInt = (Fc (((G.2.2.1 14) + 5) + (1 + v4.toNatClampNeg)) 2).toInt := by rw [wz22]
          refine lv_aload hx hb dX9_reads_151 (lv_at hl 0 rfl) ?_
          refine lv_iconst (v := 3) hx hb dX9_reads_153 (by decide) ?_
          refine tc_ialdF E hG ha14 ta_11 rfl (t_in (by decide) (by decide)) dX9_reads_154 (fun z23 lz23 uz23 wz23 => ?_)
          replace wz23 : z23 = Fc (((G.2.2.1 14) + 5) + (1 + v4.toNatClampNeg)) 3 := wz23
          have cz23 : z23.toInt = (Fc (((G.2.2.1 14) + 5) + (1 + v4.toNatClampNeg)) 3).toInt := by rw [wz23]
          refine lv_aload_n hx hb dX9_reads_155 rfl (lv_at hl 2 rfl) ?_
          refine tc_getrG E hG t0 fr_X9_40 rfl (fun _ => h8) (fun z => by cases z) dX9_reads_156 (fun ha24 => ?_)
          replace ha24 : τ (G.2.2.1 14) = 7 := ha24
          refine tc_getrF (d := 3) E hG ha24 fr_X9_183 rfl dX9_reads_159 (fun ha25 => ?_)
          refine lv_iload hx hb dX9_reads_162 (lv_at hl 5 rfl) ?_
          refine tc_ialdF E hG ha25 ta_15 rfl (t_in (by omega) (by omega)) dX9_reads_164 (fun z26 lz26 uz26 wz26 => ?_)
          replace wz26 : z26 = Fc ((G.2.2.1 14) + 3) v4.toNatClampNeg := wz26
          have nn27 : v4.toNatClampNeg = v4.toInt.toNat := rfl
          have cz26 : z26.toInt = (Fc ((G.2.2.1 14) + 3) v4.toNatClampNeg).toInt := by rw [wz26]
          refine tc_calliF hG (tc_runV (As := [.int z18, .int z11, .int z20, .int z21, .int z22, .int z23, .int z26]) (rest := []) E hSt hG (x_X8_bring l G Fc τ (G.2.2.1 10) z18 z11 z20 z21 z22 z23 z26 ha15 (by rcases hPo.2 with h | ⟨h1, h2, h3, _, _⟩; exact Or.inl h; exact Or.inr ⟨h1, h2, h3⟩) (fun h => by rcases hPo.2 with h9 | ⟨_, _, _, _, h5⟩; (exfalso; omega); exact h5)) ha15 rv_2 kv_X8_bring ml_X9_79 ⟨rfl, rfl, Nat.le_of_ble_eq_true rfl, Nat.le_of_ble_eq_true rfl⟩ rfl hl.1 rfl (Nat.le_of_ble_eq_true rfl) ⟨Nat.zero_le _, Nat.zero_le _⟩ dX9_reads_165) (fun r28 F29 H locs pr28 hG => ?_)
          have E := E.f1 (F' := F29)
          have hSt := hSt.f1 (F' := F29)
          replace pr28 : ((Fc (G.2.2.1 10) 8).toInt ≥ 24 ∧ r28 = -4 ∧ F29 = Fc) ∨ ((Fc (G.2.2.1 10) 8).toInt ≤ 23 ∧ r28 = Fc (G.2.2.1 10) 8 ∧ ∃ v0 v1 v2 v3 : Int32, F29 = brF Fc (G.2.2.1 10) z18 z11 v0 v1 v2 v3 z26 ∧ (v0 = if 0 < nNum z18.toInt then z20 else 0) ∧ (v1 = if 1 < nNum z18.toInt then z21 else 0) ∧ (v2 = if 2 < nNum z18.toInt then z22 else 0) ∧ (v3 = if 3 < nNum z18.toInt then z23 else 0)) := pr28
          rcases pr28 with h9_ | ⟨_, _, w0_, w1_, w2_, w3_, eB, g0_, g1_, g2_, g3_⟩
          · (exfalso; have h8_ := h9_.1; have h7_ := hI.2.2.1; omega)
          have eK := (show z18 = F1 ((G.2.2.1 14) + 1) v4.toNatClampNeg from (wz18.trans (hfrm _ _ (by omega) (by omega))))
          have eS := (show z26 = F1 ((G.2.2.1 14) + 3) v4.toNatClampNeg from (wz26.trans (hfrm _ _ (by omega) (by omega))))
          have eN0 := (show z20 = F1 ((G.2.2.1 14) + 5 + (1 + v4.toNatClampNeg)) 0 from (wz20.trans (hfrm _ _ (by omega) (by omega))))
          have eN1 := (show z21 = F1 ((G.2.2.1 14) + 5 + (1 + v4.toNatClampNeg)) 1 from (wz21.trans (hfrm _ _ (by omega) (by omega))))
          have eN2 := (show z22 = F1 ((G.2.2.1 14) + 5 + (1 + v4.toNatClampNeg)) 2 from (wz22.trans (hfrm _ _ (by omega) (by omega))))
          have eN3 := (show z23 = F1 ((G.2.2.1 14) + 5 + (1 + v4.toNatClampNeg)) 3 from (wz23.trans (hfrm _ _ (by omega) (by omega))))
          rw [eK, eS] at eB
          rw [eK, eN0] at g0_; rw [eK, eN1] at g1_; rw [eK, eN2] at g2_; rw [eK, eN3] at g3_
          have hI2 := RIv_s hI hg0 (by omega) hPo (fun j hj => hPB j (by omega)) h00 (by rcases hpar with h | h <;> omega) eB g0_ g1_ g2_ g3_
          refine lv_pop hx hb dX9_reads_168 rfl ?_
          obtain ⟨z30, ez30⟩ : ∃ y : Int32, y = v4 + (1) := ⟨_, rfl⟩
          refine lv_iinc (v := z30) (lv' := [(4, .int z30), (6, .ref (((G.2.2.1 14) + 5) + (1 + v4.toNatClampNeg))), (5, .int z11), (0, .ref h0), (1, .int x1), (3, .int v3)]) hx hb dX9_reads_169 hl (k := 5) rfl (by rw [ez30]; rfl) (by decide) rfl (fun ls hl => ?_)
          have tz30 := tn_add ez30 rfl kI_1 (by omega) (by omega)
          refine lv_goto (tgt := 76) hx hb dX9_reads_172 (by decide) ?_
          exact ih76 F29 H locs ls v3 z30 hG (lv_sub hl [3, 4, 5, 0] rfl) (by omega) (by omega) (by omega) (by omega) (by exact ⟨hAR, hCR, F1, n9, hFr, hO, ev3, (by rw [show z30.toInt.toNat = v4.toInt.toNat + 1 by omega]; exact hI2), by omega⟩) (by omega)
        · skip
          have ic6 := tn_eq rfl kI_0 c6
          refine lv_iload_n hx hb dX9_reads_93 rfl (lv_at hl 1 rfl) ?_
          refine lv_goto (tgt := 109) hx hb dX9_reads_94 (by decide) ?_
          have hPo := RIv_par (pa := x1) hI hO (by omega) hg0 (by rw [if_pos (by omega)]) hpar
          refine lv_istore (lv' := [(5, .int x1), (0, .ref h0), (1, .int x1), (3, .int v3), (4, .int v4)]) hx hb dX9_reads_109 hl (by decide) rfl (fun ls hl => ?_)
          refine lv_aload_n hx hb dX9_reads_111 rfl (lv_at hl 1 rfl) ?_
          refine tc_getrG E hG t0 fr_X9_40 rfl (fun _ => h8) (fun z => by cases z) dX9_reads_112 (fun ha31 => ?_)
          replace ha31 : τ (G.2.2.1 14) = 7 := ha31
          refine tc_getrF (d := 5) E hG ha31 fr_X9_177 rfl dX9_reads_115 (fun ha32 => ?_)
          refine lv_iload hx hb dX9_reads_118 (lv_at hl 4 rfl) ?_
          refine tc_aald5F (d := 1 + v4.toNatClampNeg) E hG ha32 ta_17 rfl (t_in (by omega) (by omega)) dX9_reads_120 (fun ha33 => ?_)
          have nv4 : v4.toNatClampNeg = v4.toInt.toNat := rfl
          refine lv_astore (lv' := [(6, .ref (((G.2.2.1 14) + 5) + (1 + v4.toNatClampNeg))), (5, .int x1), (0, .ref h0), (1, .int x1), (3, .int v3), (4, .int v4)]) hx hb dX9_reads_121 hl (by decide) rfl (fun ls hl => ?_)
          refine lv_aload_n hx hb dX9_reads_123 rfl (lv_at hl 2 rfl) ?_
          refine tc_getrG E hG t0 fr_X9_12 rfl (fun _ => h8) (fun z => by cases z) dX9_reads_124 (fun ha34 => ?_)
          replace ha34 : τ (G.2.2.1 10) = 2 := ha34
          refine lv_aload_n hx hb dX9_reads_127 rfl (lv_at hl 2 rfl) ?_
          refine tc_getrG E hG t0 fr_X9_40 rfl (fun _ => h8) (fun z => by cases z) dX9_reads_128 (fun ha35 => ?_)
          replace ha35 : τ (G.2.2.1 14) = 7 := ha35
          refine tc_getrF (d := 1) E hG ha35 fr_X9_180 rfl dX9_reads_131 (fun ha36 => ?_)
          refine lv_iload hx hb dX9_reads_134 (lv_at hl 5 rfl) ?_
          refine tc_ialdF E hG ha36 ta_15 rfl (t_in (by omega) (by omega)) dX9_reads_136 (fun z37 lz37 uz37 wz37 => ?_)
          replace wz37 : z37 = Fc ((G.2.2.1 14) + 1) v4.toNatClampNeg := wz37
          have nn38 : v4.toNatClampNeg = v4.toInt.toNat := rfl
          have cz37 : z37.toInt = (Fc ((G.2.2.1 14) + 1) v4.toNatClampNeg).toInt := by rw [wz37]
          refine lv_iload hx hb dX9_reads_137 (lv_at hl 1 rfl) ?_
          refine lv_aload hx hb dX9_reads_139 (lv_at hl 0 rfl) ?_
          refine lv_iconst (v := 0) hx hb dX9_reads_141 (by decide) ?_
          refine tc_ialdF E hG ha33 ta_11 rfl (t_in (by decide) (by decide)) dX9_reads_142 (fun z39 lz39 uz39 wz39 => ?_)
          replace wz39 : z39 = Fc (((G.2.2.1 14) + 5) + (1 + v4.toNatClampNeg)) 0 := wz39
          have cz39 : z39.toInt = (Fc (((G.2.2.1 14) + 5) + (1 + v4.toNatClampNeg)) 0).toInt := by rw [wz39]
          refine lv_aload hx hb dX9_reads_143 (lv_at hl 0 rfl) ?_
          refine lv_iconst (v := 1) hx hb dX9_reads_145 (by decide) ?_
          refine tc_ialdF E hG ha33 ta_11 rfl (t_in (by decide) (by decide)) dX9_reads_146 (fun z40 lz40 uz40 wz40 => ?_)
          replace wz40 : z40 = Fc (((G.2.2.1 14) + 5) + (1 + v4.toNatClampNeg)) 1 := wz40
          have cz40 : z40.toInt = (Fc (((G.2.2.1 14) + 5) + (1 + v4.toNatClampNeg)) 1).toInt := by rw [wz40]
          refine lv_aload hx hb dX9_reads_147 (lv_at hl 0 rfl) ?_
          refine lv_iconst (v := 2) hx hb dX9_reads_149 (by decide) ?_
          refine tc_ialdF E hG ha33 ta_11 rfl (t_in (by decide) (by decide)) dX9_reads_150 (fun z41 lz41 uz41 wz41 => ?_)
          replace wz41 : z41 = Fc (((G.2.2.1 14) + 5) + (1 + v4.toNatClampNeg)) 2 := wz41
          have cz41 : z41.toInt = (Fc (((G.2.2.1 14) + 5) + (1 + v4.toNatClampNeg)) 2).toInt := by rw [wz41]
          refine lv_aload hx hb dX9_reads_151 (lv_at hl 0 rfl) ?_
          refine lv_iconst (v := 3) hx hb dX9_reads_153 (by decide) ?_
          refine tc_ialdF E hG ha33 ta_11 rfl (t_in (by decide) (by decide)) dX9_reads_154 (fun z42 lz42 uz42 wz42 => ?_)
          replace wz42 : z42 = Fc (((G.2.2.1 14) + 5) + (1 + v4.toNatClampNeg)) 3 := wz42
          have cz42 : z42.toInt = (Fc (((G.2.2.1 14) + 5) + (1 + v4.toNatClampNeg)) 3).toInt := by rw [wz42]
          refine lv_aload_n hx hb dX9_reads_155 rfl (lv_at hl 2 rfl) ?_
          refine tc_getrG E hG t0 fr_X9_40 rfl (fun _ => h8) (fun z => by cases z) dX9_reads_156 (fun ha43 => ?_)
          replace ha43 : τ (G.2.2.1 14) = 7 := ha43
          refine tc_getrF (d := 3) E hG ha43 fr_X9_183 rfl dX9_reads_159 (fun ha44 => ?_)
          refine lv_iload hx hb dX9_reads_162 (lv_at hl 5 rfl) ?_
          refine tc_ialdF E hG ha44 ta_15 rfl (t_in (by omega) (by omega)) dX9_reads_164 (fun z45 lz45 uz45 wz45 => ?_)
          replace wz45 : z45 = Fc ((G.2.2.1 14) + 3) v4.toNatClampNeg := wz45
          have nn46 : v4.toNatClampNeg = v4.toInt.toNat := rfl
          have cz45 : z45.toInt = (Fc ((G.2.2.1 14) + 3) v4.toNatClampNeg).toInt := by rw [wz45]
          refine tc_calliF hG (tc_runV (As := [.int z37, .int x1, .int z39, .int z40, .int z41, .int z42, .int z45]) (rest := []) E hSt hG (x_X8_bring l G Fc τ (G.2.2.1 10) z37 x1 z39 z40 z41 z42 z45 ha34 (by rcases hPo.2 with h | ⟨h1, h2, h3, _, _⟩; exact Or.inl h; exact Or.inr ⟨h1, h2, h3⟩) (fun h => by rcases hPo.2 with h9 | ⟨_, _, _, _, h5⟩; (exfalso; omega); exact h5)) ha34 rv_2 kv_X8_bring ml_X9_79 ⟨rfl, rfl, Nat.le_of_ble_eq_true rfl, Nat.le_of_ble_eq_true rfl⟩ rfl hl.1 rfl (Nat.le_of_ble_eq_true rfl) ⟨Nat.zero_le _, Nat.zero_le _⟩ dX9_reads_165) (fun r47 F48 H locs pr47 hG => ?_)
          have E := E.f1 (F' := F48)
          have hSt := hSt.f1 (F' := F48)
          replace pr47 : ((Fc (G.2.2.1 10) 8).toInt ≥ 24 ∧ r47 = -4 ∧ F48 = Fc) ∨ ((Fc (G.2.2.1 10) 8).toInt ≤ 23 ∧ r47 = Fc (G.2.2.1 10) 8 ∧ ∃ v0 v1 v2 v3 : Int32, F48 = brF Fc (G.2.2.1 10) z37 x1 v0 v1 v2 v3 z45 ∧ (v0 = if 0 < nNum z37.toInt then z39 else 0) ∧ (v1 = if 1 < nNum z37.toInt then z40 else 0) ∧ (v2 = if 2 < nNum z37.toInt then z41 else 0) ∧ (v3 = if 3 < nNum z37.toInt then z42 else 0)) := pr47
          rcases pr47 with h9_ | ⟨_, _, w0_, w1_, w2_, w3_, eB, g0_, g1_, g2_, g3_⟩
          · (exfalso; have h8_ := h9_.1; have h7_ := hI.2.2.1; omega)
          have eK := (show z37 = F1 ((G.2.2.1 14) + 1) v4.toNatClampNeg from (wz37.trans (hfrm _ _ (by omega) (by omega))))
          have eS := (show z45 = F1 ((G.2.2.1 14) + 3) v4.toNatClampNeg from (wz45.trans (hfrm _ _ (by omega) (by omega))))
          have eN0 := (show z39 = F1 ((G.2.2.1 14) + 5 + (1 + v4.toNatClampNeg)) 0 from (wz39.trans (hfrm _ _ (by omega) (by omega))))
          have eN1 := (show z40 = F1 ((G.2.2.1 14) + 5 + (1 + v4.toNatClampNeg)) 1 from (wz40.trans (hfrm _ _ (by omega) (by omega))))
          have eN2 := (show z41 = F1 ((G.2.2.1 14) + 5 + (1 + v4.toNatClampNeg)) 2 from (wz41.trans (hfrm _ _ (by omega) (by omega))))
          have eN3 := (show z42 = F1 ((G.2.2.1 14) + 5 + (1 + v4.toNatClampNeg)) 3 from (wz42.trans (hfrm _ _ (by omega) (by omega))))
          rw [eK, eS] at eB
          rw [eK, eN0] at g0_; rw [eK, eN1] at g1_; rw [eK, eN2] at g2_; rw [eK, eN3] at g3_
          have hI2 := RIv_s hI hg0 (by omega) hPo (fun j hj => hPB j (by omega)) h00 (by rcases hpar with h | h <;> omega) eB g0_ g1_ g2_ g3_
          refine lv_pop hx hb dX9_reads_168 rfl ?_
          obtain ⟨z49, ez49⟩ : ∃ y : Int32, y = v4 + (1) := ⟨_, rfl⟩
          refine lv_iinc (v := z49) (lv' := [(4, .int z49), (6, .ref (((G.2.2.1 14) + 5) + (1 + v4.toNatClampNeg))), (5, .int x1), (0, .ref h0), (1, .int x1), (3, .int v3)]) hx hb dX9_reads_169 hl (k := 5) rfl (by rw [ez49]; rfl) (by decide) rfl (fun ls hl => ?_)
          have tz49 := tn_add ez49 rfl kI_1 (by omega) (by omega)
          refine lv_goto (tgt := 76) hx hb dX9_reads_172 (by decide) ?_
          exact ih76 F48 H locs ls v3 z49 hG (lv_sub hl [3, 4, 5, 0] rfl) (by omega) (by omega) (by omega) (by omega) (by exact ⟨hAR, hCR, F1, n9, hFr, hO, ev3, (by rw [show z49.toInt.toNat = v4.toInt.toNat + 1 by omega]; exact hI2), by omega⟩) (by omega)
  refine lv_aload_n hx hb dX9_reads_0 rfl (lv_at hl 0 rfl) ?_
  refine lv_iload_n hx hb dX9_reads_1 rfl (lv_at hl 1 rfl) ?_
  refine tc_callp (tc_runV (As := [.int x1]) (rest := []) E hSt hG (x_X9_mayHoldChildren l (gF G F) τ h0 x1 t0 h8) t0 rv_1 kv_X9_mayHoldChildren ml_X9_62 ⟨rfl, rfl, Nat.le_of_ble_eq_true rfl, Nat.le_of_ble_eq_true rfl⟩ rfl hl.1 rfl (Nat.le_of_ble_eq_true rfl) ⟨Nat.zero_le _, Nat.zero_le _⟩ dX9_reads_2) (fun r50 pr50 => ?_)
  have pr50 : (r50.toInt = 1 ∧ (x1.toInt = -1 ∨ (0 ≤ x1.toInt ∧ x1.toInt ≤ 23 ∧ tB (F (G.2.2.1 10) 4) x1.toInt.toNat))) ∨ (r50.toInt = 0 ∧ ¬ (x1.toInt = -1 ∨ (0 ≤ x1.toInt ∧ x1.toInt ≤ 23 ∧ tB (F (G.2.2.1 10) 4) x1.toInt.toNat))) := pr50
  refine lv_if_ne (tgt := 10) hx hb dX9_reads_5 (by decide) (fun c51 => ?_) (fun c51 => ?_)
  · skip
    have ic51 := tn_ne rfl kI_0 c51
    refine lv_aload_n hx hb dX9_reads_10 rfl (lv_at hl 0 rfl) ?_
    refine tc_getrG E hG t0 fr_X9_12 rfl (fun _ => h8) (fun z => by cases z) dX9_reads_11 (fun ha52 => ?_)
    replace ha52 : τ (G.2.2.1 10) = 2 := ha52
    refine lv_iload_n hx hb dX9_reads_14 rfl (lv_at hl 1 rfl) ?_
    refine tc_callp (tc_runV (As := [.int x1]) (rest := []) E hSt hG (x_X8_takesOneMore l (gF G F) τ (G.2.2.1 10) x1 ha52) ha52 rv_2 kv_X8_takesOneMore ml_X9_72 ⟨rfl, rfl, Nat.le_of_ble_eq_true rfl, Nat.le_of_ble_eq_true rfl⟩ rfl hl.1 rfl (Nat.le_of_ble_eq_true rfl) ⟨Nat.zero_le _, Nat.zero_le _⟩ dX9_reads_15) (fun r53 pr53 => ?_)
    have pr53 : (r53.toInt = 1 ∧ ((¬ (0 ≤ x1.toInt ∧ x1.toInt ≤ 23 ∧ tB (F (G.2.2.1 10) 4) x1.toInt.toNat) ∧ ¬ (0 ≤ (F (G.2.2.1 10) 9).toInt ∧ (F (G.2.2.1 10) 9).toInt ≤ 23 ∧ tB (F (G.2.2.1 10) 4) (F (G.2.2.1 10) 9).toInt.toNat)) ∨ ((0 ≤ x1.toInt ∧ x1.toInt ≤ 23 ∧ tB (F (G.2.2.1 10) 4) x1.toInt.toNat) ∧ (F ((G.2.2.1 10) + 1 + (3 + 4 * x1.toNatClampNeg)) 10).toInt < nKid (F ((G.2.2.1 10) + 1 + (3 + 4 * x1.toNatClampNeg)) 4).toInt))) ∨ (r53.toInt = 0 ∧ ¬ ((¬ (0 ≤ x1.toInt ∧ x1.toInt ≤ 23 ∧ tB (F (G.2.2.1 10) 4) x1.toInt.toNat) ∧ ¬ (0 ≤ (F (G.2.2.1 10) 9).toInt ∧ (F (G.2.2.1 10) 9).toInt ≤ 23 ∧ tB (F (G.2.2.1 10) 4) (F (G.2.2.1 10) 9).toInt.toNat)) ∨ ((0 ≤ x1.toInt ∧ x1.toInt ≤ 23 ∧ tB (F (G.2.2.1 10) 4) x1.toInt.toNat) ∧ (F ((G.2.2.1 10) + 1 + (3 + 4 * x1.toNatClampNeg)) 10).toInt < nKid (F ((G.2.2.1 10) + 1 + (3 + 4 * x1.toNatClampNeg)) 4).toInt))) := pr53
    refine lv_if_ne (tgt := 24) hx hb dX9_reads_18 (by decide) (fun c54 => ?_) (fun c54 => ?_)
    · skip
      have ic54 := tn_ne rfl kI_0 c54
      refine lv_aload_n hx hb dX9_reads_24 rfl (lv_at hl 0 rfl) ?_
      refine tc_getrG E hG t0 fr_X9_40 rfl (fun _ => h8) (fun z => by cases z) dX9_reads_25 (fun ha55 => ?_)
      replace ha55 : τ (G.2.2.1 14) = 7 := ha55
      refine lv_aload_n hx hb dX9_reads_28 rfl (lv_at hl 0 rfl) ?_
      refine tc_getrG E hG t0 fr_X9_51 rfl (fun _ => h8) (fun z => by cases z) dX9_reads_29 (fun ha56 => ?_)
      replace ha56 : τ (G.2.2.1 16) = 18 := ha56
      refine lv_aload_n hx hb dX9_reads_32 rfl (lv_at hl 0 rfl) ?_
      refine tc_getF E hG t0 fi_X9_164 rfl dX9_reads_33 (fun z57 lz57 uz57 wz57 => ?_)
      replace wz57 : z57 = F h0 8 := wz57
      have cz57 : z57.toInt = (F h0 8).toInt := by rw [wz57]
      refine lv_bipush (v := 24) hx hb dX9_reads_36 (by decide) ?_
      refine lv_aload_n hx hb dX9_reads_38 rfl (lv_at hl 0 rfl) ?_
      refine tc_getrG E hG t0 fr_X9_12 rfl (fun _ => h8) (fun z => by cases z) dX9_reads_39 (fun ha58 => ?_)
      replace ha58 : τ (G.2.2.1 10) = 2 := ha58
      refine tc_getF E hG ha58 fi_X9_75 rfl dX9_reads_42 (fun z59 lz59 uz59 wz59 => ?_)
      replace wz59 : z59 = F (G.2.2.1 10) 8 := wz59
      have cz59 : z59.toInt = (F (G.2.2.1 10) 8).toInt := by rw [wz59]
      refine lv_isub hx hb dX9_reads_45 ?_
      refine lv_topi (fun z60 ez60 => ?_)
      have tz60 := tn_sub ez60 kI_24 rfl (by omega) (by omega)
      refine tc_calliF hG (tc_runV (As := [.ref (G.2.2.1 16), .int z57, .int z60]) (rest := []) E hSt hG (x_X5_faultOf l G F τ (G.2.2.1 14) (G.2.2.1 16) z57 z60 ha55 ha56 (by omega) (by omega) hu hL rfl hLr) ha55 rv_7 kv_X5_faultOf ml_X9_167 ⟨rfl, rfl, Nat.le_of_ble_eq_true rfl, Nat.le_of_ble_eq_true rfl⟩ rfl hl.1 rfl (Nat.le_of_ble_eq_true rfl) ⟨Nat.zero_le _, Nat.zero_le _⟩ dX9_reads_46) (fun r61 F62 H locs pr61 hG => ?_)
      have E := E.f1 (F' := F62)
      have hSt := hSt.f1 (F' := F62)
      replace pr61 : ((r61.toInt = -1 ∧ FRM F F62 (G.2.2.1 14) ∧ ∃ n, FOk (LF F (G.2.2.1 16)) F62 (G.2.2.1 14) z57.toInt z60.toInt n) ∨ (0 ≤ r61.toInt ∧ r61.toInt ≤ 120 ∧ FRM F F62 (G.2.2.1 14) ∧ RDbd (LF F (G.2.2.1 16)) z57.toInt z60.toInt r61.toInt)) := pr61
      have qr61 : FRM F F62 (G.2.2.1 14) := by rcases pr61 with h9 | h9; exact h9.2.1; exact h9.2.2.1
      have ar61 : z57.toInt = (F h0 8).toInt := by omega
      have br61 : z60.toInt = 24 - (F (G.2.2.1 10) 8).toInt := by omega
      rw [ar61, br61] at pr61
      refine lv_istore_n (lv' := [(2, .int r61), (0, .ref h0), (1, .int x1)]) hx hb dX9_reads_49 rfl hl (by decide) rfl (fun ls hl => ?_)
      refine lv_aload_n hx hb dX9_reads_50 rfl (lv_at hl 1 rfl) ?_
      refine lv_iconst (v := 0) hx hb dX9_reads_51 (by decide) ?_
      refine tc_putF (lo := 0) (hi := 120) E hG t0 (by decide) rfl rfl fq_X9_164 (by decide) (by decide) rfl rfl dX9_reads_52 (fun H locs hG => ?_)
      obtain ⟨F63, eF63⟩ : ∃ Z : mF, Z = up2 F62 h0 8 (0 : Int32) := ⟨_, rfl⟩
      replace hG : tGH (gF G F63) τ s H locs := by rw [eF63]; exact hG
      have E := E.f1 (F' := F63)
      have hSt := hSt.f1 (F' := F63)
      have hF6 : FRM (up2 F h0 8 0) F63 (G.2.2.1 14) := fun c k hc => by rw [eF63]; unfold up2; rw [qr61 c k hc]
      refine lv_iload_n hx hb dX9_reads_55 rfl (lv_at hl 0 rfl) ?_
      refine lv_iconst (v := -1) hx hb dX9_reads_56 (by decide) ?_
      refine lv_icmp_eq (tgt := 65) hx hb dX9_reads_57 (by decide) (fun c64 => ?_) (fun c64 => ?_)
      · skip
        have ic64 := tn_eq rfl kI_m1 c64
        refine lv_aload_n hx hb dX9_reads_65 rfl (lv_at hl 1 rfl) ?_
        refine tc_getrG E hG t0 fr_X9_12 rfl (fun _ => h8) (fun z => by cases z) dX9_reads_66 (fun ha65 => ?_)
        replace ha65 : τ (G.2.2.1 10) = 2 := ha65
        refine tc_getF E hG ha65 fi_X9_75 rfl dX9_reads_69 (fun z66 lz66 uz66 wz66 => ?_)
        replace wz66 : z66 = F63 (G.2.2.1 10) 8 := wz66
        replace wz66 : z66 = F62 (G.2.2.1 10) 8 := by rw [wz66, eF63, up2_ne (by omega)]
        have cz66 : z66.toInt = (F62 (G.2.2.1 10) 8).toInt := by rw [wz66]
        refine lv_istore_n (lv' := [(3, .int z66), (2, .int r61), (0, .ref h0), (1, .int x1)]) hx hb dX9_reads_72 rfl hl (by decide) rfl (fun ls hl => ?_)
        refine lv_iconst (v := 0) hx hb dX9_reads_73 (by decide) ?_
        refine lv_istore (lv' := [(4, .int 0), (3, .int z66), (2, .int r61), (0, .ref h0), (1, .int x1)]) hx hb dX9_reads_74 hl (by decide) rfl (fun ls hl => ?_)
        exact J76 ((24 - (0 : Int32).toInt).toNat + 1) F63 H locs ls z66 (0 : Int32) hG (lv_sub hl [3, 4, 1, 0] rfl) (by omega) (by omega) (by decide) (by decide) (by obtain ⟨n9, hO⟩ : ∃ n, FOk (LF F (G.2.2.1 16)) F62 (G.2.2.1 14) (F h0 8).toInt (24 - (F (G.2.2.1 10) 8).toInt) n := (by rcases pr61 with h9 | h9; exact h9.2.2; (exfalso; omega)); exact ⟨(by grind), (by grind), F63, n9, hF6, (by have h := FOk_up (v := 0) hO hxr; rw [← eF63] at h; exact h), (by rw [wz66]; exact qr61 _ _ (by omega)), RIv_0 (by rw [hF6 _ _ (by omega), up2_ne (by omega)]), (by have := hO.1; have := kI_0; omega)⟩) (Nat.lt_succ_self _)
      · skip
        have ic64 := tn_ne rfl kI_m1 c64
        refine lv_bipush (v := -100) hx hb dX9_reads_60 (by decide) ?_
        refine lv_iload_n hx hb dX9_reads_62 rfl (lv_at hl 0 rfl) ?_
        refine lv_isub hx hb dX9_reads_63 ?_
        refine lv_topi (fun z67 ez67 => ?_)
        have tz67 := tn_sub ez67 kI_m100 rfl (by omega) (by omega)
        exact tc_iretF E hr hlk hG rfl (Or.inr (Or.inr ⟨(by grind), (by grind), _, hF6, Or.inl (by rcases pr61 with h9 | h9; (exfalso; omega); exact ⟨_, h9.1, h9.2.1, h9.2.2.2, by omega, rfl⟩)⟩)) dX9_reads_64
    · skip
      have ic54 := tn_eq rfl kI_0 c54
      refine lv_bipush (v := -3) hx hb dX9_reads_21 (by decide) ?_
      exact tc_iretF E hr hlk hG rfl (Or.inr (Or.inl ⟨rfl, rfl, (by grind), by grind⟩)) dX9_reads_23
  · skip
    have ic51 := tn_eq rfl kI_0 c51
    refine lv_iconst (v := -1) hx hb dX9_reads_8 (by decide) ?_
    exact tc_iretF E hr hlk hG rfl (Or.inl ⟨rfl, rfl, by grind⟩) dX9_reads_9
