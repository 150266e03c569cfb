/-! ===== the reference: the laying of one box, by kinds ===== -/
theorem t_ne0 {z : Int32} (h : 1 ≤ z.toInt) : ¬ z = 0 := fun q => by rw [q] at h; exact absurd h (by decide)
set_option maxHeartbeats 4000000 in
set_option maxRecDepth 100000 in
theorem c_X10_layText (l : Launch) (G : tG) (σ : Nat → Nat) (cu : Nat) (X : mX) (Fa : mF) (h0 : Nat) (x1 : Int32) (t0 : σ h0 = 1) (l1 : 0 ≤ x1.toInt) (u1 : x1.toInt ≤ 23) (t : Nat → Int32) (hT : TI (σ, cu, X) t) (hI : TInv t) (hA : mAV (σ, cu, X)) (hd1 : 1 ≤ (Fa 1 18).toInt) (hd2 : (Fa 1 18).toInt ≤ 24) : Met l yX10_layText (.code yX10_layText cX10_layText 9 none :: tWS) (tRm 3 67) (va_Pc [.ref h0, .int x1] (mPre G (σ, cu, kO PC X Fa))) (mQvX G (σ, cu, kO PC X Fa) (fun Z => ∃ F : mF, Z = (σ, cu, kO PC X F) ∧ SP (t 3).toInt x1 Fa F)) 0 0 (mA (σ, cu, kO PC X Fa)) := by
  refine mc_met (by decide) (Nat.le_of_ble_eq_true rfl) ?_
  intro p e s m below meth c E hr hlk hG ls hl
  have hl : lv_has ls 9 [(0, .ref h0), (1, .int x1)] := hl
  have hx := E.1
  have hb := E.2.1
  obtain ⟨H, eH⟩ : ∃ H, H = s.heap := ⟨_, rfl⟩
  obtain ⟨locs, eL⟩ : ∃ x : List Loc, x = [] := ⟨_, rfl⟩
  have hG : mGH G (σ, cu, kO PC X Fa) s H locs := by rw [eH, eL]; exact hG
  suffices hW : W p l e (tRm 3 67) s m ([.ref h0, .int x1] : List Value).toArray below meth c H locs 0 0 (MQ below (mQvX G (σ, cu, kO PC X Fa) (fun Z => ∃ F : mF, Z = (σ, cu, kO PC X F) ∧ SP (t 3).toInt x1 Fa F)) ([.ref h0, .int x1] : List Value).toArray s 0 0 (mA (σ, cu, kO PC X Fa))) (F0 m 0 ls []) by subst eH; subst eL; exact hW
  clear eH eL
  have hcu : mCu cu := hG.2.2.1
  have J18 : ∀ (n18 : Nat) (H : Heap) (locs : List Loc) (ls : Array Slot) (v2 : Int32) (v3 : Int32) (v4 : Int32) (v5 : Int32) (v6 : Int32), mGH G (σ, cu, kO PC X Fa) s H locs → lv_has ls 9 [(0, .ref h0), (1, .int x1), (2, .int v2), (3, .int v3), (4, .int v4), (5, .int v5), (6, .int v6)] → 0 ≤ v2.toInt → v2.toInt ≤ 99 → 0 ≤ v5.toInt → 0 ≤ v6.toInt → v6.toInt ≤ 99 → (99 - v6.toInt).toNat < n18 → W p l e (tRm 3 67) s m ([.ref h0, .int x1] : List Value).toArray below meth c H locs 0 0 (MQ below (mQvX G (σ, cu, kO PC X Fa) (fun Z => ∃ F : mF, Z = (σ, cu, kO PC X F) ∧ SP (t 3).toInt x1 Fa F)) ([.ref h0, .int x1] : List Value).toArray s 0 0 (mA (σ, cu, kO PC X Fa))) (F0 m 18 ls []) := by
    intro n18
    induction n18 with
    | zero => intro H locs ls v2 v3 v4 v5 v6 hG hl b2 c2 b5 b6 c6 hn18; exact absurd hn18 (Nat.not_lt_zero _)
    | succ n18 ih18 =>
      intro H locs ls v2 v3 v4 v5 v6 hG hl b2 c2 b5 b6 c6 hn18
      have J110 : ∀ (H : Heap) (locs : List Loc) (ls : Array Slot) (v2 : Int32) (v3 : Int32) (v4 : Int32) (v6 : Int32) (vs0 : Int32), mGH G (σ, cu, kO PC X Fa) s H locs → lv_has ls 9 [(0, .ref h0), (1, .int x1), (2, .int v2), (3, .int v3), (4, .int v4), (6, .int v6)] → 1 ≤ v2.toInt → v2.toInt ≤ 99 → 0 ≤ v6.toInt → v6.toInt ≤ 98 → 0 ≤ vs0.toInt → (99 - v6.toInt).toNat < n18 + 1 → W p l e (tRm 3 67) s m ([.ref h0, .int x1] : List Value).toArray below meth c H locs 0 0 (MQ below (mQvX G (σ, cu, kO PC X Fa) (fun Z => ∃ F : mF, Z = (σ, cu, kO PC X F) ∧ SP (t 3).toInt x1 Fa F)) ([.ref h0, .int x1] : List Value).toArray s 0 0 (mA (σ, cu, kO PC X Fa))) (F0 m 110 ls [.int vs0]) := by
        intro H locs ls v2 v3 v4 v6 vs0 hG hl b2 c2 b6 c6 bs0 hm18
        refine lv_istore (lv' := [(5, .int vs0), (0, .ref h0), (1, .int x1), (2, .int v2), (3, .int v3), (4, .int v4), (6, .int v6)]) hx hb dX10_layText_110 hl (by decide) rfl (fun ls hl => ?_)
        obtain ⟨z1, ez1⟩ : ∃ y : Int32, y = v6 + (1) := ⟨_, rfl⟩
        refine lv_iinc (v := z1) (lv' := [(6, .int z1), (5, .int vs0), (0, .ref h0), (1, .int x1), (2, .int v2), (3, .int v3), (4, .int v4)]) hx hb dX10_layText_112 hl (k := 6) rfl (by rw [ez1]; rfl) (by decide) rfl (fun ls hl => ?_)
        have tz1 := tn_add ez1 rfl kI_1 (by omega) (by omega)
        refine lv_goto (tgt := 18) hx hb dX10_layText_115 (by decide) ?_
        exact ih18 H locs ls v2 v3 v4 vs0 z1 hG (lv_sub hl [2, 3, 4, 5, 6, 1, 0] rfl) (by omega) (by omega) (by omega) (by omega) (by omega) (by omega)
      have J94 : ∀ (H : Heap) (locs : List Loc) (ls : Array Slot) (v2 : Int32) (v4 : Int32) (v5 : Int32) (v6 : Int32) (vs0 : Int32) (vs1 : Int32), mGH G (σ, cu, kO PC X Fa) s H locs → lv_has ls 9 [(0, .ref h0), (1, .int x1), (2, .int v2), (4, .int v4), (5, .int v5), (6, .int v6)] → 1 ≤ v2.toInt → v2.toInt ≤ 99 → 0 ≤ v5.toInt → 0 ≤ v6.toInt → v6.toInt ≤ 98 → 0 ≤ vs1.toInt → vs1.toInt ≤ 1 → (99 - v6.toInt).toNat < n18 + 1 → W p l e (tRm 3 67) s m ([.ref h0, .int x1] : List Value).toArray below meth c H locs 0 0 (MQ below (mQvX G (σ, cu, kO PC X Fa) (fun Z => ∃ F : mF, Z = (σ, cu, kO PC X F) ∧ SP (t 3).toInt x1 Fa F)) ([.ref h0, .int x1] : List Value).toArray s 0 0 (mA (σ, cu, kO PC X Fa))) (F0 m 94 ls [.int vs1, .int vs0]) := by
        intro H locs ls v2 v4 v5 v6 vs0 vs1 hG hl b2 c2 b5 b6 c6 bs1 cs1 hm18
        refine lv_iadd hx hb dX10_layText_94 ?_
        refine lv_topi (fun z2 ez2 => ?_)
        refine lv_istore_n (lv' := [(3, .int z2), (0, .ref h0), (1, .int x1), (2, .int v2), (4, .int v4), (5, .int v5), (6, .int v6)]) hx hb dX10_layText_95 rfl hl (by decide) rfl (fun ls hl => ?_)
        refine lv_iload hx hb dX10_layText_96 (lv_at hl 4 rfl) ?_
        refine lv_iload hx hb dX10_layText_98 (lv_at hl 5 rfl) ?_
        refine lv_icmp_le (tgt := 108) hx hb dX10_layText_100 (by decide) (fun c3 => ?_) (fun c3 => ?_)
        · skip
          have ic3 := tn_le rfl rfl c3
          refine lv_iload hx hb dX10_layText_108 (lv_at hl 5 rfl) ?_
          exact J110 H locs ls v2 z2 v4 v6 v5 hG (lv_sub hl [1, 2, 3, 0, 4, 6] rfl) (by omega) (by omega) (by omega) (by omega) (by omega) (by omega)
        · skip
          have ic3 := tn_nle rfl rfl c3
          refine lv_iload hx hb dX10_layText_103 (lv_at hl 4 rfl) ?_
          refine lv_goto (tgt := 110) hx hb dX10_layText_105 (by decide) ?_
          exact J110 H locs ls v2 z2 v4 v6 v4 hG (lv_sub hl [1, 2, 3, 0, 4, 6] rfl) (by omega) (by omega) (by omega) (by omega) (by omega) (by omega)
      have J81 : ∀ (H : Heap) (locs : List Loc) (ls : Array Slot) (v2 : Int32) (v3 : Int32) (v5 : Int32) (v6 : Int32) (v8 : Int32) (vs0 : Int32), mGH G (σ, cu, kO PC X Fa) s H locs → lv_has ls 9 [(0, .ref h0), (1, .int x1), (2, .int v2), (3, .int v3), (5, .int v5), (6, .int v6), (8, .int v8)] → 1 ≤ v2.toInt → v2.toInt ≤ 99 → 0 ≤ v5.toInt → 0 ≤ v6.toInt → v6.toInt ≤ 98 → 0 ≤ v8.toInt → v8.toInt ≤ 1 → (99 - v6.toInt).toNat < n18 + 1 → W p l e (tRm 3 67) s m ([.ref h0, .int x1] : List Value).toArray below meth c H locs 0 0 (MQ below (mQvX G (σ, cu, kO PC X Fa) (fun Z => ∃ F : mF, Z = (σ, cu, kO PC X F) ∧ SP (t 3).toInt x1 Fa F)) ([.ref h0, .int x1] : List Value).toArray s 0 0 (mA (σ, cu, kO PC X Fa))) (F0 m 81 ls [.int vs0]) := by
        intro H locs ls v2 v3 v5 v6 v8 vs0 hG hl b2 c2 b5 b6 c6 b8 c8 hm18
        refine lv_istore (lv' := [(4, .int vs0), (0, .ref h0), (1, .int x1), (2, .int v2), (3, .int v3), (5, .int v5), (6, .int v6), (8, .int v8)]) hx hb dX10_layText_81 hl (by decide) rfl (fun ls hl => ?_)
        refine lv_iload_n hx hb dX10_layText_83 rfl (lv_at hl 4 rfl) ?_
        refine lv_iload hx hb dX10_layText_84 (lv_at hl 7 rfl) ?_
        refine lv_if_eq (tgt := 93) hx hb dX10_layText_86 (by decide) (fun c4 => ?_) (fun c4 => ?_)
        · skip
          have ic4 := tn_eq rfl kI_0 c4
          refine lv_iconst (v := 1) hx hb dX10_layText_93 (by decide) ?_
          exact J94 H locs ls v2 vs0 v5 v6 v3 (1 : Int32) hG (lv_sub hl [1, 2, 3, 0, 5, 6] rfl) (by omega) (by omega) (by omega) (by omega) (by omega) (by decide) (by decide) (by omega)
        · skip
          have ic4 := tn_ne rfl kI_0 c4
          refine lv_iconst (v := 0) hx hb dX10_layText_89 (by decide) ?_
          refine lv_goto (tgt := 94) hx hb dX10_layText_90 (by decide) ?_
          exact J94 H locs ls v2 vs0 v5 v6 v3 (0 : Int32) hG (lv_sub hl [1, 2, 3, 0, 5, 6] rfl) (by omega) (by omega) (by omega) (by omega) (by omega) (by decide) (by decide) (by omega)
      have J62 : ∀ (H : Heap) (locs : List Loc) (ls : Array Slot) (v2 : Int32) (v3 : Int32) (v4 : Int32) (v5 : Int32) (v6 : Int32) (v7 : Int32) (vs0 : Int32), mGH G (σ, cu, kO PC X Fa) s H locs → lv_has ls 9 [(0, .ref h0), (1, .int x1), (2, .int v2), (3, .int v3), (4, .int v4), (5, .int v5), (6, .int v6), (7, .int v7)] → 1 ≤ v2.toInt → v2.toInt ≤ 99 → 0 ≤ v5.toInt → 0 ≤ v6.toInt → v6.toInt ≤ 98 → 0 ≤ vs0.toInt → vs0.toInt ≤ 1 → (99 - v6.toInt).toNat < n18 + 1 → W p l e (tRm 3 67) s m ([.ref h0, .int x1] : List Value).toArray below meth c H locs 0 0 (MQ below (mQvX G (σ, cu, kO PC X Fa) (fun Z => ∃ F : mF, Z = (σ, cu, kO PC X F) ∧ SP (t 3).toInt x1 Fa F)) ([.ref h0, .int x1] : List Value).toArray s 0 0 (mA (σ, cu, kO PC X Fa))) (F0 m 62 ls [.int vs0]) := by
        intro H locs ls v2 v3 v4 v5 v6 v7 vs0 hG hl b2 c2 b5 b6 c6 bs0 cs0 hm18
        refine lv_istore (lv' := [(8, .int vs0), (0, .ref h0), (1, .int x1), (2, .int v2), (3, .int v3), (4, .int v4), (5, .int v5), (6, .int v6), (7, .int v7)]) hx hb dX10_layText_62 hl (by decide) rfl (fun ls hl => ?_)
        refine lv_iload hx hb dX10_layText_64 (lv_at hl 0 rfl) ?_
        refine lv_if_eq (tgt := 79) hx hb dX10_layText_66 (by decide) (fun c5 => ?_) (fun c5 => ?_)
        · skip
          have ic5 := tn_eq rfl kI_0 c5
          refine lv_iload hx hb dX10_layText_79 (lv_at hl 8 rfl) ?_
          exact J81 H locs ls v2 v3 v5 v6 vs0 v7 hG (lv_sub hl [1, 2, 3, 4, 6, 7, 0] rfl) (by omega) (by omega) (by omega) (by omega) (by omega) (by omega) (by omega) (by omega)
        · skip
          have ic5 := tn_ne rfl kI_0 c5
          refine lv_iload hx hb dX10_layText_69 (lv_at hl 5 rfl) ?_
          refine lv_iconst (v := 1) hx hb dX10_layText_71 (by decide) ?_
          refine lv_iadd hx hb dX10_layText_72 ?_
          refine lv_topi (fun z6 ez6 => ?_)
          refine lv_iload hx hb dX10_layText_73 (lv_at hl 8 rfl) ?_
          refine lv_iadd hx hb dX10_layText_75 ?_
          refine lv_topi (fun z7 ez7 => ?_)
          refine lv_goto (tgt := 81) hx hb dX10_layText_76 (by decide) ?_
          exact J81 H locs ls v2 v3 v5 v6 vs0 z7 hG (lv_sub hl [1, 2, 3, 4, 6, 7, 0] rfl) (by omega) (by omega) (by omega) (by omega) (by omega) (by omega) (by omega) (by omega)
      have J61 : ∀ (H : Heap) (locs : List Loc) (ls : Array Slot) (v2 : Int32) (v3 : Int32) (v4 : Int32) (v5 : Int32) (v6 : Int32) (v7 : Int32), mGH G (σ, cu, kO PC X Fa) s H locs → lv_has ls 9 [(0, .ref h0), (1, .int x1), (2, .int v2), (3, .int v3), (4, .int v4), (5, .int v5), (6, .int v6), (7, .int v7)] → 1 ≤ v2.toInt → v2.toInt ≤ 99 → 0 ≤ v5.toInt → 0 ≤ v6.toInt → v6.toInt ≤ 98 → (99 - v6.toInt).toNat < n18 + 1 → W p l e (tRm 3 67) s m ([.ref h0, .int x1] : List Value).toArray below meth c H locs 0 0 (MQ below (mQvX G (σ, cu, kO PC X Fa) (fun Z => ∃ F : mF, Z = (σ, cu, kO PC X F) ∧ SP (t 3).toInt x1 Fa F)) ([.ref h0, .int x1] : List Value).toArray s 0 0 (mA (σ, cu, kO PC X Fa))) (F0 m 61 ls []) := by
        intro H locs ls v2 v3 v4 v5 v6 v7 hG hl b2 c2 b5 b6 c6 hm18
        refine lv_iconst (v := 0) hx hb dX10_layText_61 (by decide) ?_
        exact J62 H locs ls v2 v3 v4 v5 v6 v7 (0 : Int32) hG (lv_sub hl [0, 1, 2, 3, 4, 5, 6, 7] rfl) (by omega) (by omega) (by omega) (by omega) (by omega) (by decide) (by decide) (by omega)
      refine lv_iload hx hb dX10_layText_18 (lv_at hl 6 rfl) ?_
      refine lv_iload_n hx hb dX10_layText_20 rfl (lv_at hl 2 rfl) ?_
      refine lv_icmp_ge (tgt := 118) hx hb dX10_layText_21 (by decide) (fun c8 => ?_) (fun c8 => ?_)
      · skip
        have ic8 := tn_le rfl rfl c8
        refine lv_aload_n hx hb dX10_layText_118 rfl (lv_at hl 0 rfl) ?_
        refine lv_iload_n hx hb dX10_layText_119 rfl (lv_at hl 1 rfl) ?_
        refine lv_iload hx hb dX10_layText_120 (lv_at hl 5 rfl) ?_
        refine lv_iconst (v := 2) hx hb dX10_layText_122 (by decide) ?_
        refine lv_iload_n hx hb dX10_layText_123 rfl (lv_at hl 3 rfl) ?_
        refine lv_imul hx hb dX10_layText_124 ?_
        refine lv_topi (fun z9 ez9 => ?_)
        refine mc_callvX hG (mc_runV (As := [.int x1, .int v5, .int z9]) (rest := []) E hG (c_X10_ends l G σ cu X Fa h0 x1 v5 z9 t0 (by omega) (by omega) hA (by omega)) t0 rfl kv_X10_ends ml_X10_230 ⟨rfl, rfl, Nat.le_of_ble_eq_true rfl, Nat.le_of_ble_eq_true rfl⟩ rfl hl.1 rfl (Nat.le_of_ble_eq_true rfl) ⟨Nat.zero_le _, Nat.zero_le _⟩ dX10_layText_125) (fun Z H locs eZ pZ hG => ?_)
        obtain ⟨F11, rfl, pF11⟩ := pZ
        clear eZ
        refine lv_aload_n hx hb dX10_layText_128 rfl (lv_at hl 0 rfl) ?_
        refine lv_iload_n hx hb dX10_layText_129 rfl (lv_at hl 1 rfl) ?_
        refine lv_bipush (v := 36) hx hb dX10_layText_130 (by decide) ?_
        refine lv_iload_n hx hb dX10_layText_132 rfl (lv_at hl 2 rfl) ?_
        refine lv_if_le (tgt := 140) hx hb dX10_layText_133 (by decide) (fun c12 => ?_) (fun c12 => ?_)
        · skip
          have ic12 := tn_le rfl kI_0 c12
          refine lv_iconst (v := 2) hx hb dX10_layText_140 (by decide) ?_
          have k13 := kI_2
          refine mc_callv hG (mc_runV (As := [.int x1, .int 36, .int 2]) (rest := []) E hG (c_X10_put l G (σ, cu, kO PC X F11) h0 x1 (36 : Int32) (2 : Int32) t0 (by omega) (by omega) (by decide) (by decide) (0) (2) rfl (by omega) (by omega) ((PC_AV hA hcu).2.2 _ _ (by omega) (by omega) (by decide) (by decide))) t0 rfl kv_X10_put ml_X10_102 ⟨rfl, rfl, Nat.le_of_ble_eq_true rfl, Nat.le_of_ble_eq_true rfl⟩ rfl hl.1 rfl (Nat.le_of_ble_eq_true rfl) ⟨Nat.zero_le _, Nat.zero_le _⟩ dX10_layText_141) (fun H locs hG => ?_)
          refine lv_aload_n hx hb dX10_layText_144 rfl (lv_at hl 0 rfl) ?_
          refine lv_iload_n hx hb dX10_layText_145 rfl (lv_at hl 1 rfl) ?_
          refine lv_bipush (v := 37) hx hb dX10_layText_146 (by decide) ?_
          refine lv_iconst (v := 1) hx hb dX10_layText_148 (by decide) ?_
          have k14 := kI_1
          refine mc_callv hG (mc_runV (As := [.int x1, .int 37, .int 1]) (rest := []) E hG (c_X10_put l G (σ, cu, kO PC X F11) h0 x1 (37 : Int32) (1 : Int32) t0 (by omega) (by omega) (by decide) (by decide) (-2147483648) (2147483647) rfl (t_any1 _) (t_any2 _) ((PC_AV hA hcu).2.2 _ _ (by omega) (by omega) (by decide) (by decide))) t0 rfl kv_X10_put ml_X10_102 ⟨rfl, rfl, Nat.le_of_ble_eq_true rfl, Nat.le_of_ble_eq_true rfl⟩ rfl hl.1 rfl (Nat.le_of_ble_eq_true rfl) ⟨Nat.zero_le _, Nat.zero_le _⟩ dX10_layText_149) (fun H locs hG => ?_)
          exact mc_vretX E hr hlk hG rfl ⟨_, rfl, Or.inl pF11⟩ dX10_layText_152
        · skip
          have ic12 := tn_nle rfl kI_0 c12
          refine lv_iconst (v := 1) hx hb dX10_layText_136 (by decide) ?_
          refine lv_goto (tgt := 141) hx hb dX10_layText_137 (by decide) ?_
          have k15 := kI_1
          refine mc_callv hG (mc_runV (As := [.int x1, .int 36, .int 1]) (rest := []) E hG (c_X10_put l G (σ, cu, kO PC X F11) h0 x1 (36 : Int32) (1 : Int32) t0 (by omega) (by omega) (by decide) (by decide) (0) (2) rfl (by omega) (by omega) ((PC_AV hA hcu).2.2 _ _ (by omega) (by omega) (by decide) (by decide))) t0 rfl kv_X10_put ml_X10_102 ⟨rfl, rfl, Nat.le_of_ble_eq_true rfl, Nat.le_of_ble_eq_true rfl⟩ rfl hl.1 rfl (Nat.le_of_ble_eq_true rfl) ⟨Nat.zero_le _, Nat.zero_le _⟩ dX10_layText_141) (fun H locs hG => ?_)
          refine lv_aload_n hx hb dX10_layText_144 rfl (lv_at hl 0 rfl) ?_
          refine lv_iload_n hx hb dX10_layText_145 rfl (lv_at hl 1 rfl) ?_
          refine lv_bipush (v := 37) hx hb dX10_layText_146 (by decide) ?_
          refine lv_iconst (v := 1) hx hb dX10_layText_148 (by decide) ?_
          have k16 := kI_1
          refine mc_callv hG (mc_runV (As := [.int x1, .int 37, .int 1]) (rest := []) E hG (c_X10_put l G (σ, cu, kO PC X F11) h0 x1 (37 : Int32) (1 : Int32) t0 (by omega) (by omega) (by decide) (by decide) (-2147483648) (2147483647) rfl (t_any1 _) (t_any2 _) ((PC_AV hA hcu).2.2 _ _ (by omega) (by omega) (by decide) (by decide))) t0 rfl kv_X10_put ml_X10_102 ⟨rfl, rfl, Nat.le_of_ble_eq_true rfl, Nat.le_of_ble_eq_true rfl⟩ rfl hl.1 rfl (Nat.le_of_ble_eq_true rfl) ⟨Nat.zero_le _, Nat.zero_le _⟩ dX10_layText_149) (fun H locs hG => ?_)
          exact mc_vretX E hr hlk hG rfl ⟨_, rfl, Or.inl pF11⟩ dX10_layText_152
      · skip
        have ic8 := tn_nle rfl rfl c8
        refine lv_aload_n hx hb dX10_layText_24 rfl (lv_at hl 0 rfl) ?_
        refine lv_iload_n hx hb dX10_layText_25 rfl (lv_at hl 1 rfl) ?_
        refine lv_iconst (v := 3) hx hb dX10_layText_26 (by decide) ?_
        refine tc_callp (mc_runV (As := [.int x1, .int 3]) (rest := []) E hG (c_X10_get l G (σ, cu, kO PC X Fa) h0 x1 (3 : Int32) t0 (by omega) (by omega) (by decide) (by decide)) t0 rfl kv_X10_get ml_X10_91 ⟨rfl, rfl, Nat.le_of_ble_eq_true rfl, Nat.le_of_ble_eq_true rfl⟩ rfl hl.1 rfl (Nat.le_of_ble_eq_true rfl) ⟨Nat.zero_le _, Nat.zero_le _⟩ dX10_layText_27) (fun r17 pr17 => ?_)
        replace pr17 : mV (σ, cu, kO PC X Fa) (ix x1.toInt (3 : Int32).toInt) r17 := pr17
        have pr17 := mV_l pr17 kI_3
        have br17 := mV_3 pr17 (by omega)
        have cr17 := mT pr17 (kO_TI (PC_tr hcu) hT) (by omega) (by omega) (by decide) (by decide)
        have k18 := kI_3
        refine lv_iload hx hb dX10_layText_30 (lv_at hl 6 rfl) ?_
        refine tc_callp (mc_runS (As := [.int r17, .int v6]) (rest := []) E hG (c_X10_wordOf l G (σ, cu, kO PC X Fa) r17 v6) ks_X10_wordOf ml_X10_174 ⟨rfl, rfl, Nat.le_of_ble_eq_true rfl, Nat.le_of_ble_eq_true rfl⟩ rfl hl.1 rfl (Nat.le_of_ble_eq_true rfl) ⟨Nat.zero_le _, Nat.zero_le _⟩ dX10_layText_32) (fun r19 pr19 => ?_)
        refine lv_istore (lv' := [(7, .int r19), (0, .ref h0), (1, .int x1), (2, .int v2), (3, .int v3), (4, .int v4), (5, .int v5), (6, .int v6)]) hx hb dX10_layText_35 hl (by decide) rfl (fun ls hl => ?_)
        refine lv_iload_n hx hb dX10_layText_37 rfl (lv_at hl 4 rfl) ?_
        refine lv_if_le (tgt := 61) hx hb dX10_layText_38 (by decide) (fun c20 => ?_) (fun c20 => ?_)
        · skip
          have ic20 := tn_le rfl kI_0 c20
          exact J61 H locs ls v2 v3 v4 v5 v6 r19 hG (lv_sub hl [1, 2, 3, 4, 5, 6, 7, 0] rfl) (by omega) (by omega) (by omega) (by omega) (by omega) (by omega)
        · skip
          have ic20 := tn_nle rfl kI_0 c20
          refine lv_iload hx hb dX10_layText_41 (lv_at hl 5 rfl) ?_
          refine lv_iconst (v := 1) hx hb dX10_layText_43 (by decide) ?_
          refine lv_iadd hx hb dX10_layText_44 ?_
          refine lv_topi (fun z21 ez21 => ?_)
          refine lv_iload hx hb dX10_layText_45 (lv_at hl 0 rfl) ?_
          refine lv_iadd hx hb dX10_layText_47 ?_
          refine lv_topi (fun z22 ez22 => ?_)
          refine lv_aload_n hx hb dX10_layText_48 rfl (lv_at hl 1 rfl) ?_
          refine lv_iload_n hx hb dX10_layText_49 rfl (lv_at hl 2 rfl) ?_
          refine lv_iconst (v := 0) hx hb dX10_layText_50 (by decide) ?_
          refine tc_callp (mc_runV (As := [.int x1, .int 0]) (rest := [.int z22]) E hG (c_X10_most l G (σ, cu, kO PC X Fa) h0 x1 (0 : Int32) t0 (by omega) (by omega) (by decide) (by decide)) t0 rfl kv_X10_most ml_X10_227 ⟨rfl, rfl, Nat.le_of_ble_eq_true rfl, Nat.le_of_ble_eq_true rfl⟩ rfl hl.1 rfl (Nat.le_of_ble_eq_true rfl) ⟨Nat.zero_le _, Nat.zero_le _⟩ dX10_layText_51) (fun r23 pr23 => ?_)
          replace pr23 : 0 ≤ r23.toInt ∧ r23.toInt ≤ 1000 := pr23
          have k24 := kI_0
          refine lv_icmp_gt (tgt := 61) hx hb dX10_layText_54 (by decide) (fun c25 => ?_) (fun c25 => ?_)
          · skip
            have ic25 := tn_lt rfl rfl c25
            exact J61 H locs ls v2 v3 v4 v5 v6 r19 hG (lv_sub hl [1, 2, 3, 4, 5, 6, 7, 0] rfl) (by omega) (by omega) (by omega) (by omega) (by omega) (by omega)
          · skip
            have ic25 := tn_nlt rfl rfl c25
            refine lv_iconst (v := 1) hx hb dX10_layText_57 (by decide) ?_
            refine lv_goto (tgt := 62) hx hb dX10_layText_58 (by decide) ?_
            exact J62 H locs ls v2 v3 v4 v5 v6 r19 (1 : Int32) hG (lv_sub hl [1, 2, 3, 4, 5, 6, 7, 0] rfl) (by omega) (by omega) (by omega) (by omega) (by omega) (by decide) (by decide) (by omega)
  refine lv_aload_n hx hb dX10_layText_0 rfl (lv_at hl 0 rfl) ?_
  refine lv_iload_n hx hb dX10_layText_1 rfl (lv_at hl 1 rfl) ?_
  refine lv_iconst (v := 2) hx hb dX10_layText_2 (by decide) ?_
  refine tc_callp (mc_runV (As := [.int x1, .int 2]) (rest := []) E hG (c_X10_get l G (σ, cu, kO PC X Fa) h0 x1 (2 : Int32) t0 (by omega) (by omega) (by decide) (by decide)) t0 rfl kv_X10_get ml_X10_91 ⟨rfl, rfl, Nat.le_of_ble_eq_true rfl, Nat.le_of_ble_eq_true rfl⟩ rfl hl.1 rfl (Nat.le_of_ble_eq_true rfl) ⟨Nat.zero_le _, Nat.zero_le _⟩ dX10_layText_3) (fun r26 pr26 => ?_)
  replace pr26 : mV (σ, cu, kO PC X Fa) (ix x1.toInt (2 : Int32).toInt) r26 := pr26
  have pr26 := mV_l pr26 kI_2
  have br26 := mV_2 pr26 (by omega)
  have cr26 := mT pr26 (kO_TI (PC_tr hcu) hT) (by omega) (by omega) (by decide) (by decide)
  have k27 := kI_2
  refine lv_istore_n (lv' := [(2, .int r26), (0, .ref h0), (1, .int x1)]) hx hb dX10_layText_6 rfl hl (by decide) rfl (fun ls hl => ?_)
  refine lv_iconst (v := 0) hx hb dX10_layText_7 (by decide) ?_
  refine lv_istore_n (lv' := [(3, .int 0), (2, .int r26), (0, .ref h0), (1, .int x1)]) hx hb dX10_layText_8 rfl hl (by decide) rfl (fun ls hl => ?_)
  refine lv_iconst (v := 0) hx hb dX10_layText_9 (by decide) ?_
  refine lv_istore (lv' := [(4, .int 0), (3, .int 0), (2, .int r26), (0, .ref h0), (1, .int x1)]) hx hb dX10_layText_10 hl (by decide) rfl (fun ls hl => ?_)
  refine lv_iconst (v := 0) hx hb dX10_layText_12 (by decide) ?_
  refine lv_istore (lv' := [(5, .int 0), (4, .int 0), (3, .int 0), (2, .int r26), (0, .ref h0), (1, .int x1)]) hx hb dX10_layText_13 hl (by decide) rfl (fun ls hl => ?_)
  refine lv_iconst (v := 0) hx hb dX10_layText_15 (by decide) ?_
  refine lv_istore (lv' := [(6, .int 0), (5, .int 0), (4, .int 0), (3, .int 0), (2, .int r26), (0, .ref h0), (1, .int x1)]) hx hb dX10_layText_16 hl (by decide) rfl (fun ls hl => ?_)
  exact J18 ((99 - (0 : Int32).toInt).toNat + 1) H locs ls r26 (0 : Int32) (0 : Int32) (0 : Int32) (0 : Int32) hG (lv_sub hl [5, 6, 4, 3, 2, 1, 0] rfl) (by omega) (by omega) (by decide) (by decide) (by decide) (Nat.lt_succ_self _)

set_option maxHeartbeats 4000000 in
set_option maxRecDepth 100000 in
theorem c_X10_layPad (l : Launch) (G : tG) (σ : Nat → Nat) (cu : Nat) (X : mX) (Fa : mF) (h0 : Nat) (x1 : Int32) (x2 : Int32) (t0 : σ h0 = 1) (l1 : 0 ≤ x1.toInt) (u1 : x1.toInt ≤ 23) (l2 : -1 ≤ x2.toInt) (u2 : x2.toInt ≤ 23) (t : Nat → Int32) (hT : TI (σ, cu, X) t) (hI : TInv t) (hA : mAV (σ, cu, X)) (hd1 : 1 ≤ (Fa 1 18).toInt) (hd2 : (Fa 1 18).toInt ≤ 24) (hch : x2.toInt = -1 ∨ (x1.toInt < x2.toInt ∧ x2.toInt < (t 3).toInt)) : Met l yX10_layPad (.code yX10_layPad cX10_layPad 5 none :: tWS) (tRm 3 67) (va_Pc [.ref h0, .int x1, .int x2] (mPre G (σ, cu, kO PC X Fa))) (mQvX G (σ, cu, kO PC X Fa) (fun Z => ∃ F : mF, Z = (σ, cu, kO PC X F) ∧ SP (t 3).toInt x1 Fa F)) 0 0 (mA (σ, cu, kO PC X Fa)) := by
  refine mc_met (by decide) (Nat.le_of_ble_eq_true rfl) ?_
  intro p e s m below meth c E hr hlk hG ls hl
  have hl : lv_has ls 5 [(0, .ref h0), (1, .int x1), (2, .int x2)] := hl
  have hx := E.1
  have hb := E.2.1
  obtain ⟨H, eH⟩ : ∃ H, H = s.heap := ⟨_, rfl⟩
  obtain ⟨locs, eL⟩ : ∃ x : List Loc, x = [] := ⟨_, rfl⟩
  have hG : mGH G (σ, cu, kO PC X Fa) s H locs := by rw [eH, eL]; exact hG
  suffices hW : W p l e (tRm 3 67) s m ([.ref h0, .int x1, .int x2] : List Value).toArray below meth c H locs 0 0 (MQ below (mQvX G (σ, cu, kO PC X Fa) (fun Z => ∃ F : mF, Z = (σ, cu, kO PC X F) ∧ SP (t 3).toInt x1 Fa F)) ([.ref h0, .int x1, .int x2] : List Value).toArray s 0 0 (mA (σ, cu, kO PC X Fa))) (F0 m 0 ls []) by subst eH; subst eL; exact hW
  clear eH eL
  have hcu : mCu cu := hG.2.2.1
  have J137 : ∀ (H : Heap) (locs : List Loc) (ls : Array Slot) (v4 : Int32) (as0 : Nat) (vs1 : Int32) (vs2 : Int32) (vs3 : Int32), mGH G (σ, cu, kO PC X Fa) s H locs → lv_has ls 5 [(4, .int v4)] → 0 ≤ v4.toInt → v4.toInt ≤ 99 → σ as0 = 1 → 0 ≤ vs1.toInt → vs1.toInt ≤ 23 → 0 ≤ vs2.toInt → vs2.toInt ≤ 1198 → 0 ≤ vs3.toInt → vs3.toInt ≤ 1000 → W p l e (tRm 3 67) s m ([.ref h0, .int x1, .int x2] : List Value).toArray below meth c H locs 0 0 (MQ below (mQvX G (σ, cu, kO PC X Fa) (fun Z => ∃ F : mF, Z = (σ, cu, kO PC X F) ∧ SP (t 3).toInt x1 Fa F)) ([.ref h0, .int x1, .int x2] : List Value).toArray s 0 0 (mA (σ, cu, kO PC X Fa))) (F0 m 137 ls [.int vs3, .int vs2, .int vs1, .ref as0]) := by
    intro H locs ls v4 as0 vs1 vs2 vs3 hG hl b4 c4 es0 bs1 cs1 bs2 cs2 bs3 cs3
    refine lv_iconst (v := 2) hx hb dX10_layPad_137 (by decide) ?_
    refine lv_iload hx hb dX10_layPad_138 (lv_at hl 0 rfl) ?_
    refine lv_imul hx hb dX10_layPad_140 ?_
    refine lv_topi (fun z1 ez1 => ?_)
    have tz1 := tn_mul ez1 kI_2 rfl (by omega) (by omega)
    refine lv_iadd hx hb dX10_layPad_141 ?_
    refine lv_topi (fun z2 ez2 => ?_)
    have tz2 := tn_add ez2 rfl rfl (by omega) (by omega)
    refine mc_callvX hG (mc_runV (As := [.int vs1, .int vs2, .int z2]) (rest := []) E hG (c_X10_ends l G σ cu X Fa as0 vs1 vs2 z2 es0 (by omega) (by omega) hA (by omega)) es0 rfl kv_X10_ends ml_X10_230 ⟨rfl, rfl, Nat.le_of_ble_eq_true rfl, Nat.le_of_ble_eq_true rfl⟩ rfl hl.1 rfl (Nat.le_of_ble_eq_true rfl) ⟨Nat.zero_le _, Nat.zero_le _⟩ dX10_layPad_142) (fun Z H locs eZ pZ hG => ?_)
    obtain ⟨F4, rfl, pF4⟩ := pZ
    clear eZ
    exact mc_vretX E hr hlk hG rfl ⟨_, rfl, Or.inl pF4⟩ dX10_layPad_145
  have J119 : ∀ (H : Heap) (locs : List Loc) (ls : Array Slot) (v3 : Int32) (v4 : Int32) (as0 : Nat) (vs1 : Int32) (vs2 : Int32), mGH G (σ, cu, kO PC X Fa) s H locs → lv_has ls 5 [(0, .ref h0), (2, .int x2), (3, .int v3), (4, .int v4)] → 0 ≤ v3.toInt → v3.toInt ≤ 99 → 0 ≤ v4.toInt → v4.toInt ≤ 99 → σ as0 = 1 → 0 ≤ vs1.toInt → vs1.toInt ≤ 23 → 0 ≤ vs2.toInt → vs2.toInt ≤ 1000 → W p l e (tRm 3 67) s m ([.ref h0, .int x1, .int x2] : List Value).toArray below meth c H locs 0 0 (MQ below (mQvX G (σ, cu, kO PC X Fa) (fun Z => ∃ F : mF, Z = (σ, cu, kO PC X F) ∧ SP (t 3).toInt x1 Fa F)) ([.ref h0, .int x1, .int x2] : List Value).toArray s 0 0 (mA (σ, cu, kO PC X Fa))) (F0 m 119 ls [.int vs2, .int vs1, .ref as0]) := by
    intro H locs ls v3 v4 as0 vs1 vs2 hG hl b3 c3 b4 c4 es0 bs1 cs1 bs2 cs2
    refine lv_iconst (v := 2) hx hb dX10_layPad_119 (by decide) ?_
    refine lv_iload_n hx hb dX10_layPad_120 rfl (lv_at hl 2 rfl) ?_
    refine lv_imul hx hb dX10_layPad_121 ?_
    refine lv_topi (fun z5 ez5 => ?_)
    have tz5 := tn_mul ez5 kI_2 rfl (by omega) (by omega)
    refine lv_iadd hx hb dX10_layPad_122 ?_
    refine lv_topi (fun z6 ez6 => ?_)
    have tz6 := tn_add ez6 rfl rfl (by omega) (by omega)
    refine lv_iload_n hx hb dX10_layPad_123 rfl (lv_at hl 1 rfl) ?_
    refine lv_if_ge (tgt := 131) hx hb dX10_layPad_124 (by decide) (fun c7 => ?_) (fun c7 => ?_)
    · skip
      have ic7 := tn_le kI_0 rfl c7
      refine lv_aload_n hx hb dX10_layPad_131 rfl (lv_at hl 0 rfl) ?_
      refine lv_iload_n hx hb dX10_layPad_132 rfl (lv_at hl 1 rfl) ?_
      refine lv_iconst (v := 1) hx hb dX10_layPad_133 (by decide) ?_
      refine tc_callp (mc_runV (As := [.int x2, .int 1]) (rest := [.int z6, .int vs1, .ref as0]) E hG (c_X10_sizeOf l G (σ, cu, kO PC X Fa) h0 x2 (1 : Int32) t0 (by omega) (by omega) (by decide) (by decide)) t0 rfl kv_X10_sizeOf ml_X10_243 ⟨rfl, rfl, Nat.le_of_ble_eq_true rfl, Nat.le_of_ble_eq_true rfl⟩ rfl hl.1 rfl (Nat.le_of_ble_eq_true rfl) ⟨Nat.zero_le _, Nat.zero_le _⟩ dX10_layPad_134) (fun r8 pr8 => ?_)
      replace pr8 : 0 ≤ r8.toInt ∧ r8.toInt ≤ 1000 := pr8
      have k9 := kI_1
      exact J137 H locs ls v4 (as0) vs1 z6 r8 hG (lv_sub hl [3] rfl) (by omega) (by omega) es0 (by omega) (by omega) (by omega) (by omega) (by omega) (by omega)
    · skip
      have ic7 := tn_nle kI_0 rfl c7
      refine lv_iconst (v := 0) hx hb dX10_layPad_127 (by decide) ?_
      refine lv_goto (tgt := 137) hx hb dX10_layPad_128 (by decide) ?_
      exact J137 H locs ls v4 (as0) vs1 z6 (0 : Int32) hG (lv_sub hl [3] rfl) (by omega) (by omega) es0 (by omega) (by omega) (by omega) (by omega) (by decide) (by decide)
  have J103 : ∀ (H : Heap) (locs : List Loc) (ls : Array Slot) (v3 : Int32) (v4 : Int32), mGH G (σ, cu, kO PC X Fa) s H locs → lv_has ls 5 [(0, .ref h0), (1, .int x1), (2, .int x2), (3, .int v3), (4, .int v4)] → 0 ≤ v3.toInt → v3.toInt ≤ 99 → 0 ≤ v4.toInt → v4.toInt ≤ 99 → W p l e (tRm 3 67) s m ([.ref h0, .int x1, .int x2] : List Value).toArray below meth c H locs 0 0 (MQ below (mQvX G (σ, cu, kO PC X Fa) (fun Z => ∃ F : mF, Z = (σ, cu, kO PC X F) ∧ SP (t 3).toInt x1 Fa F)) ([.ref h0, .int x1, .int x2] : List Value).toArray s 0 0 (mA (σ, cu, kO PC X Fa))) (F0 m 103 ls []) := by
    intro H locs ls v3 v4 hG hl b3 c3 b4 c4
    refine lv_aload_n hx hb dX10_layPad_103 rfl (lv_at hl 0 rfl) ?_
    refine lv_iload_n hx hb dX10_layPad_104 rfl (lv_at hl 1 rfl) ?_
    refine lv_iload_n hx hb dX10_layPad_105 rfl (lv_at hl 2 rfl) ?_
    refine lv_if_ge (tgt := 113) hx hb dX10_layPad_106 (by decide) (fun c10 => ?_) (fun c10 => ?_)
    · skip
      have ic10 := tn_le kI_0 rfl c10
      refine lv_aload_n hx hb dX10_layPad_113 rfl (lv_at hl 0 rfl) ?_
      refine lv_iload_n hx hb dX10_layPad_114 rfl (lv_at hl 2 rfl) ?_
      refine lv_iconst (v := 0) hx hb dX10_layPad_115 (by decide) ?_
      refine tc_callp (mc_runV (As := [.int x2, .int 0]) (rest := [.int x1, .ref h0]) E hG (c_X10_sizeOf l G (σ, cu, kO PC X Fa) h0 x2 (0 : Int32) t0 (by omega) (by omega) (by decide) (by decide)) t0 rfl kv_X10_sizeOf ml_X10_243 ⟨rfl, rfl, Nat.le_of_ble_eq_true rfl, Nat.le_of_ble_eq_true rfl⟩ rfl hl.1 rfl (Nat.le_of_ble_eq_true rfl) ⟨Nat.zero_le _, Nat.zero_le _⟩ dX10_layPad_116) (fun r11 pr11 => ?_)
      replace pr11 : 0 ≤ r11.toInt ∧ r11.toInt ≤ 1000 := pr11
      have k12 := kI_0
      exact J119 H locs ls v3 v4 (h0) x1 r11 hG (lv_sub hl [0, 2, 3, 4] rfl) (by omega) (by omega) (by omega) (by omega) t0 (by omega) (by omega) (by omega) (by omega)
    · skip
      have ic10 := tn_nle kI_0 rfl c10
      refine lv_iconst (v := 0) hx hb dX10_layPad_109 (by decide) ?_
      refine lv_goto (tgt := 119) hx hb dX10_layPad_110 (by decide) ?_
      exact J119 H locs ls v3 v4 (h0) x1 (0 : Int32) hG (lv_sub hl [0, 2, 3, 4] rfl) (by omega) (by omega) (by omega) (by omega) t0 (by omega) (by omega) (by decide) (by decide)
  have J91 : ∀ (H : Heap) (locs : List Loc) (ls : Array Slot) (v3 : Int32) (v4 : Int32), mGH G (σ, cu, kO PC X Fa) s H locs → lv_has ls 5 [(0, .ref h0), (1, .int x1), (2, .int x2), (3, .int v3), (4, .int v4)] → 0 ≤ v3.toInt → v3.toInt ≤ 99 → 0 ≤ v4.toInt → v4.toInt ≤ 99 → W p l e (tRm 3 67) s m ([.ref h0, .int x1, .int x2] : List Value).toArray below meth c H locs 0 0 (MQ below (mQvX G (σ, cu, kO PC X Fa) (fun Z => ∃ F : mF, Z = (σ, cu, kO PC X F) ∧ SP (t 3).toInt x1 Fa F)) ([.ref h0, .int x1, .int x2] : List Value).toArray s 0 0 (mA (σ, cu, kO PC X Fa))) (F0 m 91 ls []) := by
    intro H locs ls v3 v4 hG hl b3 c3 b4 c4
    refine lv_iload_n hx hb dX10_layPad_91 rfl (lv_at hl 2 rfl) ?_
    refine lv_if_lt (tgt := 103) hx hb dX10_layPad_92 (by decide) (fun c13 => ?_) (fun c13 => ?_)
    · skip
      have ic13 := tn_lt rfl kI_0 c13
      exact J103 H locs ls v3 v4 hG (lv_sub hl [0, 1, 2, 3, 4] rfl) (by omega) (by omega) (by omega) (by omega)
    · skip
      have ic13 := tn_nlt rfl kI_0 c13
      refine lv_aload_n hx hb dX10_layPad_95 rfl (lv_at hl 0 rfl) ?_
      refine lv_iload_n hx hb dX10_layPad_96 rfl (lv_at hl 2 rfl) ?_
      refine lv_iload_n hx hb dX10_layPad_97 rfl (lv_at hl 3 rfl) ?_
      refine lv_iload hx hb dX10_layPad_98 (lv_at hl 4 rfl) ?_
      refine mc_callv hG (mc_runV (As := [.int x2, .int v3, .int v4]) (rest := []) E hG (c_X10_sets l G σ cu (kO PC X Fa) h0 x2 v3 v4 t0 (by omega) (by omega) (PC_AV hA hcu)) t0 rfl kv_X10_sets ml_X10_240 ⟨rfl, rfl, Nat.le_of_ble_eq_true rfl, Nat.le_of_ble_eq_true rfl⟩ rfl hl.1 rfl (Nat.le_of_ble_eq_true rfl) ⟨Nat.zero_le _, Nat.zero_le _⟩ dX10_layPad_100) (fun H locs hG => ?_)
      exact J103 H locs ls v3 v4 hG (lv_sub hl [0, 1, 2, 3, 4] rfl) (by omega) (by omega) (by omega) (by omega)
  refine lv_aload_n hx hb dX10_layPad_0 rfl (lv_at hl 0 rfl) ?_
  refine lv_iload_n hx hb dX10_layPad_1 rfl (lv_at hl 1 rfl) ?_
  refine lv_iconst (v := 2) hx hb dX10_layPad_2 (by decide) ?_
  refine tc_callp (mc_runV (As := [.int x1, .int 2]) (rest := []) E hG (c_X10_get l G (σ, cu, kO PC X Fa) h0 x1 (2 : Int32) t0 (by omega) (by omega) (by decide) (by decide)) t0 rfl kv_X10_get ml_X10_91 ⟨rfl, rfl, Nat.le_of_ble_eq_true rfl, Nat.le_of_ble_eq_true rfl⟩ rfl hl.1 rfl (Nat.le_of_ble_eq_true rfl) ⟨Nat.zero_le _, Nat.zero_le _⟩ dX10_layPad_3) (fun r15 pr15 => ?_)
  replace pr15 : mV (σ, cu, kO PC X Fa) (ix x1.toInt (2 : Int32).toInt) r15 := pr15
  have pr15 := mV_l pr15 kI_2
  have br15 := mV_2 pr15 (by omega)
  have cr15 := mT pr15 (kO_TI (PC_tr hcu) hT) (by omega) (by omega) (by decide) (by decide)
  have k16 := kI_2
  refine lv_istore_n (lv' := [(3, .int r15), (0, .ref h0), (1, .int x1), (2, .int x2)]) hx hb dX10_layPad_6 rfl hl (by decide) rfl (fun ls hl => ?_)
  refine lv_aload_n hx hb dX10_layPad_7 rfl (lv_at hl 1 rfl) ?_
  refine lv_iload_n hx hb dX10_layPad_8 rfl (lv_at hl 2 rfl) ?_
  refine lv_iconst (v := 3) hx hb dX10_layPad_9 (by decide) ?_
  refine tc_callp (mc_runV (As := [.int x1, .int 3]) (rest := []) E hG (c_X10_get l G (σ, cu, kO PC X Fa) h0 x1 (3 : Int32) t0 (by omega) (by omega) (by decide) (by decide)) t0 rfl kv_X10_get ml_X10_91 ⟨rfl, rfl, Nat.le_of_ble_eq_true rfl, Nat.le_of_ble_eq_true rfl⟩ rfl hl.1 rfl (Nat.le_of_ble_eq_true rfl) ⟨Nat.zero_le _, Nat.zero_le _⟩ dX10_layPad_10) (fun r17 pr17 => ?_)
  replace pr17 : mV (σ, cu, kO PC X Fa) (ix x1.toInt (3 : Int32).toInt) r17 := pr17
  have pr17 := mV_l pr17 kI_3
  have br17 := mV_3 pr17 (by omega)
  have cr17 := mT pr17 (kO_TI (PC_tr hcu) hT) (by omega) (by omega) (by decide) (by decide)
  have k18 := kI_3
  refine lv_istore (lv' := [(4, .int r17), (3, .int r15), (0, .ref h0), (1, .int x1), (2, .int x2)]) hx hb dX10_layPad_13 hl (by decide) rfl (fun ls hl => ?_)
  refine lv_iload_n hx hb dX10_layPad_15 rfl (lv_at hl 4 rfl) ?_
  refine lv_if_lt (tgt := 91) hx hb dX10_layPad_16 (by decide) (fun c19 => ?_) (fun c19 => ?_)
  · skip
    have ic19 := tn_lt rfl kI_0 c19
    exact J91 H locs ls r15 r17 hG (lv_sub hl [2, 3, 4, 1, 0] rfl) (by omega) (by omega) (by omega) (by omega)
  · skip
    have ic19 := tn_nlt rfl kI_0 c19
    refine lv_aload_n hx hb dX10_layPad_19 rfl (lv_at hl 2 rfl) ?_
    refine mc_getr E hG t0 mr_42 dX10_layPad_20 (fun oa20 hoa20 => ?_)
    refine lv_iload_n hx hb dX10_layPad_23 rfl (lv_at hl 3 rfl) ?_
    refine mc_iald E hG hoa20 ma_11 (t_in (by omega) (by omega)) dX10_layPad_24 (fun z21 lz21 uz21 qz21 => ?_)
    have wz21 := kq qz21 (PC_11)
    refine lv_if_ne (tgt := 91) hx hb dX10_layPad_25 (by decide) (fun c22 => ?_) (fun c22 => ?_)
    · skip
      have ic22 := tn_ne rfl kI_0 c22
      exact J91 H locs ls r15 r17 hG (lv_sub hl [2, 3, 4, 1, 0] rfl) (by omega) (by omega) (by omega) (by omega)
    · skip
      have ic22 := tn_eq rfl kI_0 c22
      refine lv_aload_n hx hb dX10_layPad_28 rfl (lv_at hl 2 rfl) ?_
      refine mc_getr E hG t0 mr_42 dX10_layPad_29 (fun oa23 hoa23 => ?_)
      refine lv_iload_n hx hb dX10_layPad_32 rfl (lv_at hl 3 rfl) ?_
      refine lv_iconst (v := 1) hx hb dX10_layPad_33 (by decide) ?_
      refine mc_iastX E hG hoa23 ma_11.1 ma_11.2.1 (ma_11.2.2 _) (t_in (by omega) (by omega)) (by decide) (by decide) dX10_layPad_34 (fun H locs hG => ?_)
      have hG := kO_set (PC_11) hG
      obtain ⟨F24, eF24⟩ : ∃ Z : mF, Z = up2 Fa 11 (x1).toNatClampNeg (1 : Int32) := ⟨_, rfl⟩
      rw [← eF24] at hG
      refine lv_aload_n hx hb dX10_layPad_35 rfl (lv_at hl 2 rfl) ?_
      refine lv_iload_n hx hb dX10_layPad_36 rfl (lv_at hl 4 rfl) ?_
      refine lv_aload_n hx hb dX10_layPad_37 rfl (lv_at hl 2 rfl) ?_
      refine lv_iload_n hx hb dX10_layPad_38 rfl (lv_at hl 3 rfl) ?_
      refine lv_iconst (v := 0) hx hb dX10_layPad_39 (by decide) ?_
      refine tc_callp (mc_runV (As := [.int x1, .int 0]) (rest := [.int x2, .ref h0]) E hG (c_X10_low l G (σ, cu, kO PC X F24) h0 x1 (0 : Int32) t0 (by omega) (by omega) (by decide) (by decide)) t0 rfl kv_X10_low ml_X10_224 ⟨rfl, rfl, Nat.le_of_ble_eq_true rfl, Nat.le_of_ble_eq_true rfl⟩ rfl hl.1 rfl (Nat.le_of_ble_eq_true rfl) ⟨Nat.zero_le _, Nat.zero_le _⟩ dX10_layPad_40) (fun r25 pr25 => ?_)
      replace pr25 : 0 ≤ r25.toInt ∧ r25.toInt ≤ 1000 := pr25
      have k26 := kI_0
      refine lv_iconst (v := 2) hx hb dX10_layPad_43 (by decide) ?_
      refine lv_iload_n hx hb dX10_layPad_44 rfl (lv_at hl 1 rfl) ?_
      refine lv_imul hx hb dX10_layPad_45 ?_
      refine lv_topi (fun z27 ez27 => ?_)
      have tz27 := tn_mul ez27 kI_2 rfl (by omega) (by omega)
      refine tc_callp (mc_runS (As := [.int r25, .int z27]) (rest := [.int x2, .ref h0]) E hG (c_X10_less l G (σ, cu, kO PC X F24) r25 z27 (by omega) (by omega) (by omega) (by omega)) ks_X10_less ml_X10_233 ⟨rfl, rfl, Nat.le_of_ble_eq_true rfl, Nat.le_of_ble_eq_true rfl⟩ rfl hl.1 rfl (Nat.le_of_ble_eq_true rfl) ⟨Nat.zero_le _, Nat.zero_le _⟩ dX10_layPad_46) (fun r28 pr28 => ?_)
      replace pr28 : 0 ≤ r28.toInt ∧ r28.toInt ≤ 1000 := pr28
      refine lv_aload_n hx hb dX10_layPad_49 rfl (lv_at hl 2 rfl) ?_
      refine lv_iload_n hx hb dX10_layPad_50 rfl (lv_at hl 3 rfl) ?_
      refine lv_iconst (v := 0) hx hb dX10_layPad_51 (by decide) ?_
      refine tc_callp (mc_runV (As := [.int x1, .int 0]) (rest := [.int r28, .int x2, .ref h0]) E hG (c_X10_most l G (σ, cu, kO PC X F24) h0 x1 (0 : Int32) t0 (by omega) (by omega) (by decide) (by decide)) t0 rfl kv_X10_most ml_X10_227 ⟨rfl, rfl, Nat.le_of_ble_eq_true rfl, Nat.le_of_ble_eq_true rfl⟩ rfl hl.1 rfl (Nat.le_of_ble_eq_true rfl) ⟨Nat.zero_le _, Nat.zero_le _⟩ dX10_layPad_52) (fun r29 pr29 => ?_)
      replace pr29 : 0 ≤ r29.toInt ∧ r29.toInt ≤ 1000 := pr29
      have k30 := kI_0
      refine lv_iconst (v := 2) hx hb dX10_layPad_55 (by decide) ?_
      refine lv_iload_n hx hb dX10_layPad_56 rfl (lv_at hl 1 rfl) ?_
      refine lv_imul hx hb dX10_layPad_57 ?_
      refine lv_topi (fun z31 ez31 => ?_)
      have tz31 := tn_mul ez31 kI_2 rfl (by omega) (by omega)
      refine tc_callp (mc_runS (As := [.int r29, .int z31]) (rest := [.int r28, .int x2, .ref h0]) E hG (c_X10_less l G (σ, cu, kO PC X F24) r29 z31 (by omega) (by omega) (by omega) (by omega)) ks_X10_less ml_X10_233 ⟨rfl, rfl, Nat.le_of_ble_eq_true rfl, Nat.le_of_ble_eq_true rfl⟩ rfl hl.1 rfl (Nat.le_of_ble_eq_true rfl) ⟨Nat.zero_le _, Nat.zero_le _⟩ dX10_layPad_58) (fun r32 pr32 => ?_)
      replace pr32 : 0 ≤ r32.toInt ∧ r32.toInt ≤ 1000 := pr32
      refine lv_aload_n hx hb dX10_layPad_61 rfl (lv_at hl 2 rfl) ?_
      refine lv_iload_n hx hb dX10_layPad_62 rfl (lv_at hl 3 rfl) ?_
      refine lv_iconst (v := 1) hx hb dX10_layPad_63 (by decide) ?_
      refine tc_callp (mc_runV (As := [.int x1, .int 1]) (rest := [.int r32, .int r28, .int x2, .ref h0]) E hG (c_X10_low l G (σ, cu, kO PC X F24) h0 x1 (1 : Int32) t0 (by omega) (by omega) (by decide) (by decide)) t0 rfl kv_X10_low ml_X10_224 ⟨rfl, rfl, Nat.le_of_ble_eq_true rfl, Nat.le_of_ble_eq_true rfl⟩ rfl hl.1 rfl (Nat.le_of_ble_eq_true rfl) ⟨Nat.zero_le _, Nat.zero_le _⟩ dX10_layPad_64) (fun r33 pr33 => ?_)
      replace pr33 : 0 ≤ r33.toInt ∧ r33.toInt ≤ 1000 := pr33
      have k34 := kI_1
      refine lv_iconst (v := 2) hx hb dX10_layPad_67 (by decide) ?_
      refine lv_iload hx hb dX10_layPad_68 (lv_at hl 0 rfl) ?_
      refine lv_imul hx hb dX10_layPad_70 ?_
      refine lv_topi (fun z35 ez35 => ?_)
      have tz35 := tn_mul ez35 kI_2 rfl (by omega) (by omega)
      refine tc_callp (mc_runS (As := [.int r33, .int z35]) (rest := [.int r32, .int r28, .int x2, .ref h0]) E hG (c_X10_less l G (σ, cu, kO PC X F24) r33 z35 (by omega) (by omega) (by omega) (by omega)) ks_X10_less ml_X10_233 ⟨rfl, rfl, Nat.le_of_ble_eq_true rfl, Nat.le_of_ble_eq_true rfl⟩ rfl hl.1 rfl (Nat.le_of_ble_eq_true rfl) ⟨Nat.zero_le _, Nat.zero_le _⟩ dX10_layPad_71) (fun r36 pr36 => ?_)
      replace pr36 : 0 ≤ r36.toInt ∧ r36.toInt ≤ 1000 := pr36
      refine lv_aload_n hx hb dX10_layPad_74 rfl (lv_at hl 2 rfl) ?_
      refine lv_iload_n hx hb dX10_layPad_75 rfl (lv_at hl 3 rfl) ?_
      refine lv_iconst (v := 1) hx hb dX10_layPad_76 (by decide) ?_
      refine tc_callp (mc_runV (As := [.int x1, .int 1]) (rest := [.int r36, .int r32, .int r28, .int x2, .ref h0]) E hG (c_X10_most l G (σ, cu, kO PC X F24) h0 x1 (1 : Int32) t0 (by omega) (by omega) (by decide) (by decide)) t0 rfl kv_X10_most ml_X10_227 ⟨rfl, rfl, Nat.le_of_ble_eq_true rfl, Nat.le_of_ble_eq_true rfl⟩ rfl hl.1 rfl (Nat.le_of_ble_eq_true rfl) ⟨Nat.zero_le _, Nat.zero_le _⟩ dX10_layPad_77) (fun r37 pr37 => ?_)
      replace pr37 : 0 ≤ r37.toInt ∧ r37.toInt ≤ 1000 := pr37
      have k38 := kI_1
      refine lv_iconst (v := 2) hx hb dX10_layPad_80 (by decide) ?_
      refine lv_iload hx hb dX10_layPad_81 (lv_at hl 0 rfl) ?_
      refine lv_imul hx hb dX10_layPad_83 ?_
      refine lv_topi (fun z39 ez39 => ?_)
      have tz39 := tn_mul ez39 kI_2 rfl (by omega) (by omega)
      refine tc_callp (mc_runS (As := [.int r37, .int z39]) (rest := [.int r36, .int r32, .int r28, .int x2, .ref h0]) E hG (c_X10_less l G (σ, cu, kO PC X F24) r37 z39 (by omega) (by omega) (by omega) (by omega)) ks_X10_less ml_X10_233 ⟨rfl, rfl, Nat.le_of_ble_eq_true rfl, Nat.le_of_ble_eq_true rfl⟩ rfl hl.1 rfl (Nat.le_of_ble_eq_true rfl) ⟨Nat.zero_le _, Nat.zero_le _⟩ dX10_layPad_84) (fun r40 pr40 => ?_)
      replace pr40 : 0 ≤ r40.toInt ∧ r40.toInt ≤ 1000 := pr40
      refine mc_callvX hG (mc_runV (As := [.int x2, .int r28, .int r32, .int r36, .int r40]) (rest := []) E hG (c_X10_lay l G σ cu X F24 h0 x2 r28 r32 r36 r40 t0 (by omega) (by omega) (by omega) (by omega) (by omega) (by omega) (by omega) (by omega) (by omega) (by omega) hA (by rw [eF24, up2_ne (by omega)]; omega)) t0 rfl kv_X10_lay ml_X10_236 ⟨rfl, rfl, Nat.le_of_ble_eq_true rfl, Nat.le_of_ble_eq_true rfl⟩ rfl hl.1 rfl (Nat.le_of_ble_eq_true rfl) ⟨Nat.zero_le _, Nat.zero_le _⟩ dX10_layPad_87) (fun Z H locs eZ pZ hG => ?_)
      obtain ⟨F42, rfl, pF42⟩ := pZ
      clear eZ
      have k43 := kI_1
      exact mc_vretX E hr hlk hG rfl ⟨_, rfl, Or.inr ⟨F24, (1 : Int32), x2, eF24, (by rw [← wz21]; omega), by omega, pF42, by omega, by omega, by omega⟩⟩ dX10_layPad_90

set_option maxHeartbeats 4000000 in
set_option maxRecDepth 100000 in
theorem c_X10_layLimit (l : Launch) (G : tG) (σ : Nat → Nat) (cu : Nat) (X : mX) (Fa : mF) (h0 : Nat) (x1 : Int32) (x2 : Int32) (t0 : σ h0 = 1) (l1 : 0 ≤ x1.toInt) (u1 : x1.toInt ≤ 23) (l2 : -1 ≤ x2.toInt) (u2 : x2.toInt ≤ 23) (t : Nat → Int32) (hT : TI (σ, cu, X) t) (hI : TInv t) (hA : mAV (σ, cu, X)) (hd1 : 1 ≤ (Fa 1 18).toInt) (hd2 : (Fa 1 18).toInt ≤ 24) (hch : x2.toInt = -1 ∨ (x1.toInt < x2.toInt ∧ x2.toInt < (t 3).toInt)) : Met l yX10_layLimit (.code yX10_layLimit cX10_layLimit 3 none :: tWS) (tRm 3 68) (va_Pc [.ref h0, .int x1, .int x2] (mPre G (σ, cu, kO PC X Fa))) (mQvX G (σ, cu, kO PC X Fa) (fun Z => ∃ F : mF, Z = (σ, cu, kO PC X F) ∧ SP (t 3).toInt x1 Fa F)) 0 0 (mA (σ, cu, kO PC X Fa)) := by
  refine mc_met (by decide) (Nat.le_of_ble_eq_true rfl) ?_
  intro p e s m below meth c E hr hlk hG ls hl
  have hl : lv_has ls 3 [(0, .ref h0), (1, .int x1), (2, .int x2)] := hl
  have hx := E.1
  have hb := E.2.1
  obtain ⟨H, eH⟩ : ∃ H, H = s.heap := ⟨_, rfl⟩
  obtain ⟨locs, eL⟩ : ∃ x : List Loc, x = [] := ⟨_, rfl⟩
  have hG : mGH G (σ, cu, kO PC X Fa) s H locs := by rw [eH, eL]; exact hG
  suffices hW : W p l e (tRm 3 68) s m ([.ref h0, .int x1, .int x2] : List Value).toArray below meth c H locs 0 0 (MQ below (mQvX G (σ, cu, kO PC X Fa) (fun Z => ∃ F : mF, Z = (σ, cu, kO PC X F) ∧ SP (t 3).toInt x1 Fa F)) ([.ref h0, .int x1, .int x2] : List Value).toArray s 0 0 (mA (σ, cu, kO PC X Fa))) (F0 m 0 ls []) by subst eH; subst eL; exact hW
  clear eH eL
  have hcu : mCu cu := hG.2.2.1
  have J87 : ∀ (H : Heap) (locs : List Loc) (ls : Array Slot) (as0 : Nat) (vs1 : Int32) (vs2 : Int32), mGH G (σ, cu, kO PC X Fa) s H locs → lv_has ls 3 [(0, .ref h0), (1, .int x1), (2, .int x2)] → σ as0 = 1 → 0 ≤ vs1.toInt → vs1.toInt ≤ 23 → 0 ≤ vs2.toInt → vs2.toInt ≤ 1000 → W p l e (tRm 3 68) s m ([.ref h0, .int x1, .int x2] : List Value).toArray below meth c H locs 0 0 (MQ below (mQvX G (σ, cu, kO PC X Fa) (fun Z => ∃ F : mF, Z = (σ, cu, kO PC X F) ∧ SP (t 3).toInt x1 Fa F)) ([.ref h0, .int x1, .int x2] : List Value).toArray s 0 0 (mA (σ, cu, kO PC X Fa))) (F0 m 87 ls [.int vs2, .int vs1, .ref as0]) := by
    intro H locs ls as0 vs1 vs2 hG hl es0 bs1 cs1 bs2 cs2
    refine lv_iload_n hx hb dX10_layLimit_87 rfl (lv_at hl 2 rfl) ?_
    refine lv_if_ge (tgt := 101) hx hb dX10_layLimit_88 (by decide) (fun c1 => ?_) (fun c1 => ?_)
    · skip
      have ic1 := tn_le kI_0 rfl c1
      refine lv_aload_n hx hb dX10_layLimit_101 rfl (lv_at hl 0 rfl) ?_
      refine lv_iload_n hx hb dX10_layLimit_102 rfl (lv_at hl 2 rfl) ?_
      refine lv_iconst (v := 1) hx hb dX10_layLimit_103 (by decide) ?_
      refine tc_callp (mc_runV (As := [.int x2, .int 1]) (rest := [.int vs2, .int vs1, .ref as0]) E hG (c_X10_sizeOf l G (σ, cu, kO PC X Fa) h0 x2 (1 : Int32) t0 (by omega) (by omega) (by decide) (by decide)) t0 rfl kv_X10_sizeOf ml_X10_243 ⟨rfl, rfl, Nat.le_of_ble_eq_true rfl, Nat.le_of_ble_eq_true rfl⟩ rfl hl.1 rfl (Nat.le_of_ble_eq_true rfl) ⟨Nat.zero_le _, Nat.zero_le _⟩ dX10_layLimit_104) (fun r2 pr2 => ?_)
      replace pr2 : 0 ≤ r2.toInt ∧ r2.toInt ≤ 1000 := pr2
      have k3 := kI_1
      refine mc_callvX hG (mc_runV (As := [.int vs1, .int vs2, .int r2]) (rest := []) E hG (c_X10_ends l G σ cu X Fa as0 vs1 vs2 r2 es0 (by omega) (by omega) hA (by omega)) es0 rfl kv_X10_ends ml_X10_230 ⟨rfl, rfl, Nat.le_of_ble_eq_true rfl, Nat.le_of_ble_eq_true rfl⟩ rfl hl.1 rfl (Nat.le_of_ble_eq_true rfl) ⟨Nat.zero_le _, Nat.zero_le _⟩ dX10_layLimit_107) (fun Z H locs eZ pZ hG => ?_)
      obtain ⟨F5, rfl, pF5⟩ := pZ
      clear eZ
      exact mc_vretX E hr hlk hG rfl ⟨_, rfl, Or.inl pF5⟩ dX10_layLimit_110
    · skip
      have ic1 := tn_nle kI_0 rfl c1
      refine lv_aload_n hx hb dX10_layLimit_91 rfl (lv_at hl 0 rfl) ?_
      refine lv_iload_n hx hb dX10_layLimit_92 rfl (lv_at hl 1 rfl) ?_
      refine lv_iconst (v := 2) hx hb dX10_layLimit_93 (by decide) ?_
      refine lv_iconst (v := 1) hx hb dX10_layLimit_94 (by decide) ?_
      refine tc_callp (mc_runV (As := [.int x1, .int 2, .int 1]) (rest := [.int vs2, .int vs1, .ref as0]) E hG (c_X10_limited l G (σ, cu, kO PC X Fa) h0 x1 (2 : Int32) (1 : Int32) t0 (by omega) (by omega) (by decide) (by decide) (by decide) (by decide)) t0 rfl kv_X10_limited ml_X10_246 ⟨rfl, rfl, Nat.le_of_ble_eq_true rfl, Nat.le_of_ble_eq_true rfl⟩ rfl hl.1 rfl (Nat.le_of_ble_eq_true rfl) ⟨Nat.zero_le _, Nat.zero_le _⟩ dX10_layLimit_95) (fun r6 pr6 => ?_)
      replace pr6 : 0 ≤ r6.toInt ∧ r6.toInt ≤ 1000 := pr6
      have k7 := kI_2
      have k8 := kI_1
      refine lv_goto (tgt := 107) hx hb dX10_layLimit_98 (by decide) ?_
      refine mc_callvX hG (mc_runV (As := [.int vs1, .int vs2, .int r6]) (rest := []) E hG (c_X10_ends l G σ cu X Fa as0 vs1 vs2 r6 es0 (by omega) (by omega) hA (by omega)) es0 rfl kv_X10_ends ml_X10_230 ⟨rfl, rfl, Nat.le_of_ble_eq_true rfl, Nat.le_of_ble_eq_true rfl⟩ rfl hl.1 rfl (Nat.le_of_ble_eq_true rfl) ⟨Nat.zero_le _, Nat.zero_le _⟩ dX10_layLimit_107) (fun Z H locs eZ pZ hG => ?_)
      obtain ⟨F10, rfl, pF10⟩ := pZ
      clear eZ
      exact mc_vretX E hr hlk hG rfl ⟨_, rfl, Or.inl pF10⟩ dX10_layLimit_110
  have J65 : ∀ (H : Heap) (locs : List Loc) (ls : Array Slot), mGH G (σ, cu, kO PC X Fa) s H locs → lv_has ls 3 [(0, .ref h0), (1, .int x1), (2, .int x2)] → W p l e (tRm 3 68) s m ([.ref h0, .int x1, .int x2] : List Value).toArray below meth c H locs 0 0 (MQ below (mQvX G (σ, cu, kO PC X Fa) (fun Z => ∃ F : mF, Z = (σ, cu, kO PC X F) ∧ SP (t 3).toInt x1 Fa F)) ([.ref h0, .int x1, .int x2] : List Value).toArray s 0 0 (mA (σ, cu, kO PC X Fa))) (F0 m 65 ls []) := by
    intro H locs ls hG hl
    refine lv_aload_n hx hb dX10_layLimit_65 rfl (lv_at hl 0 rfl) ?_
    refine lv_iload_n hx hb dX10_layLimit_66 rfl (lv_at hl 1 rfl) ?_
    refine lv_iload_n hx hb dX10_layLimit_67 rfl (lv_at hl 2 rfl) ?_
    refine lv_if_ge (tgt := 81) hx hb dX10_layLimit_68 (by decide) (fun c11 => ?_) (fun c11 => ?_)
    · skip
      have ic11 := tn_le kI_0 rfl c11
      refine lv_aload_n hx hb dX10_layLimit_81 rfl (lv_at hl 0 rfl) ?_
      refine lv_iload_n hx hb dX10_layLimit_82 rfl (lv_at hl 2 rfl) ?_
      refine lv_iconst (v := 0) hx hb dX10_layLimit_83 (by decide) ?_
      refine tc_callp (mc_runV (As := [.int x2, .int 0]) (rest := [.int x1, .ref h0]) E hG (c_X10_sizeOf l G (σ, cu, kO PC X Fa) h0 x2 (0 : Int32) t0 (by omega) (by omega) (by decide) (by decide)) t0 rfl kv_X10_sizeOf ml_X10_243 ⟨rfl, rfl, Nat.le_of_ble_eq_true rfl, Nat.le_of_ble_eq_true rfl⟩ rfl hl.1 rfl (Nat.le_of_ble_eq_true rfl) ⟨Nat.zero_le _, Nat.zero_le _⟩ dX10_layLimit_84) (fun r12 pr12 => ?_)
      replace pr12 : 0 ≤ r12.toInt ∧ r12.toInt ≤ 1000 := pr12
      have k13 := kI_0
      exact J87 H locs ls (h0) x1 r12 hG (lv_sub hl [0, 1, 2] rfl) t0 (by omega) (by omega) (by omega) (by omega)
    · skip
      have ic11 := tn_nle kI_0 rfl c11
      refine lv_aload_n hx hb dX10_layLimit_71 rfl (lv_at hl 0 rfl) ?_
      refine lv_iload_n hx hb dX10_layLimit_72 rfl (lv_at hl 1 rfl) ?_
      refine lv_iconst (v := 0) hx hb dX10_layLimit_73 (by decide) ?_
      refine lv_iconst (v := 0) hx hb dX10_layLimit_74 (by decide) ?_
      refine tc_callp (mc_runV (As := [.int x1, .int 0, .int 0]) (rest := [.int x1, .ref h0]) E hG (c_X10_limited l G (σ, cu, kO PC X Fa) h0 x1 (0 : Int32) (0 : Int32) t0 (by omega) (by omega) (by decide) (by decide) (by decide) (by decide)) t0 rfl kv_X10_limited ml_X10_246 ⟨rfl, rfl, Nat.le_of_ble_eq_true rfl, Nat.le_of_ble_eq_true rfl⟩ rfl hl.1 rfl (Nat.le_of_ble_eq_true rfl) ⟨Nat.zero_le _, Nat.zero_le _⟩ dX10_layLimit_75) (fun r14 pr14 => ?_)
      replace pr14 : 0 ≤ r14.toInt ∧ r14.toInt ≤ 1000 := pr14
      have k15 := kI_0
      have k16 := kI_0
      refine lv_goto (tgt := 87) hx hb dX10_layLimit_78 (by decide) ?_
      exact J87 H locs ls (h0) x1 r14 hG (lv_sub hl [0, 1, 2] rfl) t0 (by omega) (by omega) (by omega) (by omega)
  have J54 : ∀ (H : Heap) (locs : List Loc) (ls : Array Slot), mGH G (σ, cu, kO PC X Fa) s H locs → lv_has ls 3 [(0, .ref h0), (1, .int x1), (2, .int x2)] → W p l e (tRm 3 68) s m ([.ref h0, .int x1, .int x2] : List Value).toArray below meth c H locs 0 0 (MQ below (mQvX G (σ, cu, kO PC X Fa) (fun Z => ∃ F : mF, Z = (σ, cu, kO PC X F) ∧ SP (t 3).toInt x1 Fa F)) ([.ref h0, .int x1, .int x2] : List Value).toArray s 0 0 (mA (σ, cu, kO PC X Fa))) (F0 m 54 ls []) := by
    intro H locs ls hG hl
    refine lv_iload_n hx hb dX10_layLimit_54 rfl (lv_at hl 2 rfl) ?_
    refine lv_if_lt (tgt := 65) hx hb dX10_layLimit_55 (by decide) (fun c17 => ?_) (fun c17 => ?_)
    · skip
      have ic17 := tn_lt rfl kI_0 c17
      exact J65 H locs ls hG (lv_sub hl [0, 1, 2] rfl)
    · skip
      have ic17 := tn_nlt rfl kI_0 c17
      refine lv_aload_n hx hb dX10_layLimit_58 rfl (lv_at hl 0 rfl) ?_
      refine lv_iload_n hx hb dX10_layLimit_59 rfl (lv_at hl 2 rfl) ?_
      refine lv_iconst (v := 0) hx hb dX10_layLimit_60 (by decide) ?_
      refine lv_iconst (v := 0) hx hb dX10_layLimit_61 (by decide) ?_
      refine mc_callv hG (mc_runV (As := [.int x2, .int 0, .int 0]) (rest := []) E hG (c_X10_sets l G σ cu (kO PC X Fa) h0 x2 (0 : Int32) (0 : Int32) t0 (by omega) (by omega) (PC_AV hA hcu)) t0 rfl kv_X10_sets ml_X10_240 ⟨rfl, rfl, Nat.le_of_ble_eq_true rfl, Nat.le_of_ble_eq_true rfl⟩ rfl hl.1 rfl (Nat.le_of_ble_eq_true rfl) ⟨Nat.zero_le _, Nat.zero_le _⟩ dX10_layLimit_62) (fun H locs hG => ?_)
      exact J65 H locs ls hG (lv_sub hl [0, 1, 2] rfl)
  refine lv_iload_n hx hb dX10_layLimit_0 rfl (lv_at hl 2 rfl) ?_
  refine lv_if_lt (tgt := 54) hx hb dX10_layLimit_1 (by decide) (fun c19 => ?_) (fun c19 => ?_)
  · skip
    have ic19 := tn_lt rfl kI_0 c19
    exact J54 H locs ls hG (lv_sub hl [0, 1, 2] rfl)
  · skip
    have ic19 := tn_nlt rfl kI_0 c19
    refine lv_aload_n hx hb dX10_layLimit_4 rfl (lv_at hl 0 rfl) ?_
    refine mc_getr E hG t0 mr_42 dX10_layLimit_5 (fun oa20 hoa20 => ?_)
    refine lv_iload_n hx hb dX10_layLimit_8 rfl (lv_at hl 1 rfl) ?_
    refine mc_iald E hG hoa20 ma_11 (t_in (by omega) (by omega)) dX10_layLimit_9 (fun z21 lz21 uz21 qz21 => ?_)
    have wz21 := kq qz21 (PC_11)
    refine lv_if_ne (tgt := 54) hx hb dX10_layLimit_10 (by decide) (fun c22 => ?_) (fun c22 => ?_)
    · skip
      have ic22 := tn_ne rfl kI_0 c22
      exact J54 H locs ls hG (lv_sub hl [0, 1, 2] rfl)
    · skip
      have ic22 := tn_eq rfl kI_0 c22
      refine lv_aload_n hx hb dX10_layLimit_13 rfl (lv_at hl 0 rfl) ?_
      refine mc_getr E hG t0 mr_42 dX10_layLimit_14 (fun oa23 hoa23 => ?_)
      refine lv_iload_n hx hb dX10_layLimit_17 rfl (lv_at hl 1 rfl) ?_
      refine lv_iconst (v := 1) hx hb dX10_layLimit_18 (by decide) ?_
      refine mc_iastX E hG hoa23 ma_11.1 ma_11.2.1 (ma_11.2.2 _) (t_in (by omega) (by omega)) (by decide) (by decide) dX10_layLimit_19 (fun H locs hG => ?_)
      have hG := kO_set (PC_11) hG
      obtain ⟨F24, eF24⟩ : ∃ Z : mF, Z = up2 Fa 11 (x1).toNatClampNeg (1 : Int32) := ⟨_, rfl⟩
      rw [← eF24] at hG
      refine lv_aload_n hx hb dX10_layLimit_20 rfl (lv_at hl 0 rfl) ?_
      refine lv_iload_n hx hb dX10_layLimit_21 rfl (lv_at hl 2 rfl) ?_
      refine lv_aload_n hx hb dX10_layLimit_22 rfl (lv_at hl 0 rfl) ?_
      refine lv_iload_n hx hb dX10_layLimit_23 rfl (lv_at hl 1 rfl) ?_
      refine lv_iconst (v := 0) hx hb dX10_layLimit_24 (by decide) ?_
      refine lv_iconst (v := 0) hx hb dX10_layLimit_25 (by decide) ?_
      refine tc_callp (mc_runV (As := [.int x1, .int 0, .int 0]) (rest := [.int x2, .ref h0]) E hG (c_X10_limited l G (σ, cu, kO PC X F24) h0 x1 (0 : Int32) (0 : Int32) t0 (by omega) (by omega) (by decide) (by decide) (by decide) (by decide)) t0 rfl kv_X10_limited ml_X10_246 ⟨rfl, rfl, Nat.le_of_ble_eq_true rfl, Nat.le_of_ble_eq_true rfl⟩ rfl hl.1 rfl (Nat.le_of_ble_eq_true rfl) ⟨Nat.zero_le _, Nat.zero_le _⟩ dX10_layLimit_26) (fun r25 pr25 => ?_)
      replace pr25 : 0 ≤ r25.toInt ∧ r25.toInt ≤ 1000 := pr25
      have k26 := kI_0
      have k27 := kI_0
      refine lv_aload_n hx hb dX10_layLimit_29 rfl (lv_at hl 0 rfl) ?_
      refine lv_iload_n hx hb dX10_layLimit_30 rfl (lv_at hl 1 rfl) ?_
      refine lv_iconst (v := 1) hx hb dX10_layLimit_31 (by decide) ?_
      refine lv_iconst (v := 0) hx hb dX10_layLimit_32 (by decide) ?_
      refine tc_callp (mc_runV (As := [.int x1, .int 1, .int 0]) (rest := [.int r25, .int x2, .ref h0]) E hG (c_X10_limited l G (σ, cu, kO PC X F24) h0 x1 (1 : Int32) (0 : Int32) t0 (by omega) (by omega) (by decide) (by decide) (by decide) (by decide)) t0 rfl kv_X10_limited ml_X10_246 ⟨rfl, rfl, Nat.le_of_ble_eq_true rfl, Nat.le_of_ble_eq_true rfl⟩ rfl hl.1 rfl (Nat.le_of_ble_eq_true rfl) ⟨Nat.zero_le _, Nat.zero_le _⟩ dX10_layLimit_33) (fun r28 pr28 => ?_)
      replace pr28 : 0 ≤ r28.toInt ∧ r28.toInt ≤ 1000 := pr28
      have k29 := kI_1
      have k30 := kI_0
      refine lv_aload_n hx hb dX10_layLimit_36 rfl (lv_at hl 0 rfl) ?_
      refine lv_iload_n hx hb dX10_layLimit_37 rfl (lv_at hl 1 rfl) ?_
      refine lv_iconst (v := 2) hx hb dX10_layLimit_38 (by decide) ?_
      refine lv_iconst (v := 1) hx hb dX10_layLimit_39 (by decide) ?_
      refine tc_callp (mc_runV (As := [.int x1, .int 2, .int 1]) (rest := [.int r28, .int r25, .int x2, .ref h0]) E hG (c_X10_limited l G (σ, cu, kO PC X F24) h0 x1 (2 : Int32) (1 : Int32) t0 (by omega) (by omega) (by decide) (by decide) (by decide) (by decide)) t0 rfl kv_X10_limited ml_X10_246 ⟨rfl, rfl, Nat.le_of_ble_eq_true rfl, Nat.le_of_ble_eq_true rfl⟩ rfl hl.1 rfl (Nat.le_of_ble_eq_true rfl) ⟨Nat.zero_le _, Nat.zero_le _⟩ dX10_layLimit_40) (fun r31 pr31 => ?_)
      replace pr31 : 0 ≤ r31.toInt ∧ r31.toInt ≤ 1000 := pr31
      have k32 := kI_2
      have k33 := kI_1
      refine lv_aload_n hx hb dX10_layLimit_43 rfl (lv_at hl 0 rfl) ?_
      refine lv_iload_n hx hb dX10_layLimit_44 rfl (lv_at hl 1 rfl) ?_
      refine lv_iconst (v := 3) hx hb dX10_layLimit_45 (by decide) ?_
      refine lv_iconst (v := 1) hx hb dX10_layLimit_46 (by decide) ?_
      refine tc_callp (mc_runV (As := [.int x1, .int 3, .int 1]) (rest := [.int r31, .int r28, .int r25, .int x2, .ref h0]) E hG (c_X10_limited l G (σ, cu, kO PC X F24) h0 x1 (3 : Int32) (1 : Int32) t0 (by omega) (by omega) (by decide) (by decide) (by decide) (by decide)) t0 rfl kv_X10_limited ml_X10_246 ⟨rfl, rfl, Nat.le_of_ble_eq_true rfl, Nat.le_of_ble_eq_true rfl⟩ rfl hl.1 rfl (Nat.le_of_ble_eq_true rfl) ⟨Nat.zero_le _, Nat.zero_le _⟩ dX10_layLimit_47) (fun r34 pr34 => ?_)
      replace pr34 : 0 ≤ r34.toInt ∧ r34.toInt ≤ 1000 := pr34
      have k35 := kI_3
      have k36 := kI_1
      refine mc_callvX hG (mc_runV (As := [.int x2, .int r25, .int r28, .int r31, .int r34]) (rest := []) E hG (c_X10_lay l G σ cu X F24 h0 x2 r25 r28 r31 r34 t0 (by omega) (by omega) (by omega) (by omega) (by omega) (by omega) (by omega) (by omega) (by omega) (by omega) hA (by rw [eF24, up2_ne (by omega)]; omega)) t0 rfl kv_X10_lay ml_X10_236 ⟨rfl, rfl, Nat.le_of_ble_eq_true rfl, Nat.le_of_ble_eq_true rfl⟩ rfl hl.1 rfl (Nat.le_of_ble_eq_true rfl) ⟨Nat.zero_le _, Nat.zero_le _⟩ dX10_layLimit_50) (fun Z H locs eZ pZ hG => ?_)
      obtain ⟨F38, rfl, pF38⟩ := pZ
      clear eZ
      have k39 := kI_1
      exact mc_vretX E hr hlk hG rfl ⟨_, rfl, Or.inr ⟨F24, (1 : Int32), x2, eF24, (by rw [← wz21]; omega), by omega, pF38, by omega, by omega, by omega⟩⟩ dX10_layLimit_53

set_option maxHeartbeats 4000000 in
set_option maxRecDepth 100000 in
theorem c_X10_layCentre (l : Launch) (G : tG) (σ : Nat → Nat) (cu : Nat) (X : mX) (Fa : mF) (h0 : Nat) (x1 : Int32) (x2 : Int32) (t0 : σ h0 = 1) (l1 : 0 ≤ x1.toInt) (u1 : x1.toInt ≤ 23) (l2 : -1 ≤ x2.toInt) (u2 : x2.toInt ≤ 23) (t : Nat → Int32) (hT : TI (σ, cu, X) t) (hI : TInv t) (hA : mAV (σ, cu, X)) (hd1 : 1 ≤ (Fa 1 18).toInt) (hd2 : (Fa 1 18).toInt ≤ 24) (hch : x2.toInt = -1 ∨ (x1.toInt < x2.toInt ∧ x2.toInt < (t 3).toInt)) : Met l yX10_layCentre (.code yX10_layCentre cX10_layCentre 5 none :: tWS) (tRm 3 67) (va_Pc [.ref h0, .int x1, .int x2] (mPre G (σ, cu, kO PC X Fa))) (mQvX G (σ, cu, kO PC X Fa) (fun Z => ∃ F : mF, Z = (σ, cu, kO PC X F) ∧ SP (t 3).toInt x1 Fa F)) 0 0 (mA (σ, cu, kO PC X Fa)) := by
  refine mc_met (by decide) (Nat.le_of_ble_eq_true rfl) ?_
  intro p e s m below meth c E hr hlk hG ls hl
  have hl : lv_has ls 5 [(0, .ref h0), (1, .int x1), (2, .int x2)] := hl
  have hx := E.1
  have hb := E.2.1
  obtain ⟨H, eH⟩ : ∃ H, H = s.heap := ⟨_, rfl⟩
  obtain ⟨locs, eL⟩ : ∃ x : List Loc, x = [] := ⟨_, rfl⟩
  have hG : mGH G (σ, cu, kO PC X Fa) s H locs := by rw [eH, eL]; exact hG
  suffices hW : W p l e (tRm 3 67) s m ([.ref h0, .int x1, .int x2] : List Value).toArray below meth c H locs 0 0 (MQ below (mQvX G (σ, cu, kO PC X Fa) (fun Z => ∃ F : mF, Z = (σ, cu, kO PC X F) ∧ SP (t 3).toInt x1 Fa F)) ([.ref h0, .int x1, .int x2] : List Value).toArray s 0 0 (mA (σ, cu, kO PC X Fa))) (F0 m 0 ls []) by subst eH; subst eL; exact hW
  clear eH eL
  have hcu : mCu cu := hG.2.2.1
  have J118 : ∀ (H : Heap) (locs : List Loc) (ls : Array Slot) (v3 : Int32) (v4 : Int32) (as0 : Nat) (vs1 : Int32) (vs2 : Int32) (vs3 : Int32), mGH G (σ, cu, kO PC X Fa) s H locs → lv_has ls 5 [(0, .ref h0), (1, .int x1), (2, .int x2), (3, .int v3), (4, .int v4)] → 0 ≤ v3.toInt → v3.toInt ≤ 1000 → 0 ≤ v4.toInt → v4.toInt ≤ 1000 → σ as0 = 1 → 0 ≤ vs1.toInt → vs1.toInt ≤ 23 → 0 ≤ vs2.toInt → vs2.toInt ≤ 1000 → 0 ≤ vs3.toInt → vs3.toInt ≤ 1000 → W p l e (tRm 3 67) s m ([.ref h0, .int x1, .int x2] : List Value).toArray below meth c H locs 0 0 (MQ below (mQvX G (σ, cu, kO PC X Fa) (fun Z => ∃ F : mF, Z = (σ, cu, kO PC X F) ∧ SP (t 3).toInt x1 Fa F)) ([.ref h0, .int x1, .int x2] : List Value).toArray s 0 0 (mA (σ, cu, kO PC X Fa))) (F0 m 118 ls [.int vs3, .int vs2, .int vs1, .ref as0]) := by
    intro H locs ls v3 v4 as0 vs1 vs2 vs3 hG hl b3 c3 b4 c4 es0 bs1 cs1 bs2 cs2 bs3 cs3
    refine mc_callvX hG (mc_runV (As := [.int vs1, .int vs2, .int vs3]) (rest := []) E hG (c_X10_ends l G σ cu X Fa as0 vs1 vs2 vs3 es0 (by omega) (by omega) hA (by omega)) es0 rfl kv_X10_ends ml_X10_230 ⟨rfl, rfl, Nat.le_of_ble_eq_true rfl, Nat.le_of_ble_eq_true rfl⟩ rfl hl.1 rfl (Nat.le_of_ble_eq_true rfl) ⟨Nat.zero_le _, Nat.zero_le _⟩ dX10_layCentre_118) (fun Z H locs eZ pZ hG => ?_)
    obtain ⟨F2, rfl, pF2⟩ := pZ
    clear eZ
    refine lv_iload_n hx hb dX10_layCentre_121 rfl (lv_at hl 2 rfl) ?_
    refine lv_if_lt (tgt := 151) hx hb dX10_layCentre_122 (by decide) (fun c3 => ?_) (fun c3 => ?_)
    · skip
      have ic3 := tn_lt rfl kI_0 c3
      exact mc_vretX E hr hlk hG rfl ⟨_, rfl, Or.inl pF2⟩ dX10_layCentre_151
    · skip
      have ic3 := tn_nlt rfl kI_0 c3
      refine lv_aload_n hx hb dX10_layCentre_125 rfl (lv_at hl 0 rfl) ?_
      refine lv_iload_n hx hb dX10_layCentre_126 rfl (lv_at hl 2 rfl) ?_
      refine lv_aload_n hx hb dX10_layCentre_127 rfl (lv_at hl 0 rfl) ?_
      refine lv_iload_n hx hb dX10_layCentre_128 rfl (lv_at hl 1 rfl) ?_
      refine lv_iconst (v := 0) hx hb dX10_layCentre_129 (by decide) ?_
      refine tc_callp (mc_runV (As := [.int x1, .int 0]) (rest := [.int x2, .ref h0]) E hG (c_X10_sizeOf l G (σ, cu, kO PC X F2) h0 x1 (0 : Int32) t0 (by omega) (by omega) (by decide) (by decide)) t0 rfl kv_X10_sizeOf ml_X10_243 ⟨rfl, rfl, Nat.le_of_ble_eq_true rfl, Nat.le_of_ble_eq_true rfl⟩ rfl hl.1 rfl (Nat.le_of_ble_eq_true rfl) ⟨Nat.zero_le _, Nat.zero_le _⟩ dX10_layCentre_130) (fun r4 pr4 => ?_)
      replace pr4 : 0 ≤ r4.toInt ∧ r4.toInt ≤ 1000 := pr4
      have k5 := kI_0
      refine lv_iload_n hx hb dX10_layCentre_133 rfl (lv_at hl 3 rfl) ?_
      refine lv_isub hx hb dX10_layCentre_134 ?_
      refine lv_topi (fun z6 ez6 => ?_)
      have tz6 := tn_sub ez6 rfl rfl (by omega) (by omega)
      refine lv_iconst (v := 2) hx hb dX10_layCentre_135 (by decide) ?_
      refine lv_idiv hx hb dX10_layCentre_136 (by decide) ?_
      refine lv_topi (fun z7 ez7 => ?_)
      refine lv_aload_n hx hb dX10_layCentre_137 rfl (lv_at hl 0 rfl) ?_
      refine lv_iload_n hx hb dX10_layCentre_138 rfl (lv_at hl 1 rfl) ?_
      refine lv_iconst (v := 1) hx hb dX10_layCentre_139 (by decide) ?_
      refine tc_callp (mc_runV (As := [.int x1, .int 1]) (rest := [.int z7, .int x2, .ref h0]) E hG (c_X10_sizeOf l G (σ, cu, kO PC X F2) h0 x1 (1 : Int32) t0 (by omega) (by omega) (by decide) (by decide)) t0 rfl kv_X10_sizeOf ml_X10_243 ⟨rfl, rfl, Nat.le_of_ble_eq_true rfl, Nat.le_of_ble_eq_true rfl⟩ rfl hl.1 rfl (Nat.le_of_ble_eq_true rfl) ⟨Nat.zero_le _, Nat.zero_le _⟩ dX10_layCentre_140) (fun r8 pr8 => ?_)
      replace pr8 : 0 ≤ r8.toInt ∧ r8.toInt ≤ 1000 := pr8
      have k9 := kI_1
      refine lv_iload hx hb dX10_layCentre_143 (lv_at hl 4 rfl) ?_
      refine lv_isub hx hb dX10_layCentre_145 ?_
      refine lv_topi (fun z10 ez10 => ?_)
      have tz10 := tn_sub ez10 rfl rfl (by omega) (by omega)
      refine lv_iconst (v := 2) hx hb dX10_layCentre_146 (by decide) ?_
      refine lv_idiv hx hb dX10_layCentre_147 (by decide) ?_
      refine lv_topi (fun z11 ez11 => ?_)
      refine mc_callv hG (mc_runV (As := [.int x2, .int z7, .int z11]) (rest := []) E hG (c_X10_sets l G σ cu (kO PC X F2) h0 x2 z7 z11 t0 (by omega) (by omega) (PC_AV hA hcu)) t0 rfl kv_X10_sets ml_X10_240 ⟨rfl, rfl, Nat.le_of_ble_eq_true rfl, Nat.le_of_ble_eq_true rfl⟩ rfl hl.1 rfl (Nat.le_of_ble_eq_true rfl) ⟨Nat.zero_le _, Nat.zero_le _⟩ dX10_layCentre_148) (fun H locs hG => ?_)
      exact mc_vretX E hr hlk hG rfl ⟨_, rfl, Or.inl pF2⟩ dX10_layCentre_151
  have J95 : ∀ (H : Heap) (locs : List Loc) (ls : Array Slot) (v3 : Int32) (v4 : Int32) (as0 : Nat) (vs1 : Int32) (vs2 : Int32), mGH G (σ, cu, kO PC X Fa) s H locs → lv_has ls 5 [(0, .ref h0), (1, .int x1), (2, .int x2), (3, .int v3), (4, .int v4)] → 0 ≤ v3.toInt → v3.toInt ≤ 1000 → 0 ≤ v4.toInt → v4.toInt ≤ 1000 → σ as0 = 1 → 0 ≤ vs1.toInt → vs1.toInt ≤ 23 → 0 ≤ vs2.toInt → vs2.toInt ≤ 1000 → W p l e (tRm 3 67) s m ([.ref h0, .int x1, .int x2] : List Value).toArray below meth c H locs 0 0 (MQ below (mQvX G (σ, cu, kO PC X Fa) (fun Z => ∃ F : mF, Z = (σ, cu, kO PC X F) ∧ SP (t 3).toInt x1 Fa F)) ([.ref h0, .int x1, .int x2] : List Value).toArray s 0 0 (mA (σ, cu, kO PC X Fa))) (F0 m 95 ls [.int vs2, .int vs1, .ref as0]) := by
    intro H locs ls v3 v4 as0 vs1 vs2 hG hl b3 c3 b4 c4 es0 bs1 cs1 bs2 cs2
    refine lv_aload_n hx hb dX10_layCentre_95 rfl (lv_at hl 0 rfl) ?_
    refine lv_iload_n hx hb dX10_layCentre_96 rfl (lv_at hl 1 rfl) ?_
    refine lv_iconst (v := 1) hx hb dX10_layCentre_97 (by decide) ?_
    refine tc_callp (mc_runV (As := [.int x1, .int 1]) (rest := [.int vs2, .int vs1, .ref as0]) E hG (c_X10_most l G (σ, cu, kO PC X Fa) h0 x1 (1 : Int32) t0 (by omega) (by omega) (by decide) (by decide)) t0 rfl kv_X10_most ml_X10_227 ⟨rfl, rfl, Nat.le_of_ble_eq_true rfl, Nat.le_of_ble_eq_true rfl⟩ rfl hl.1 rfl (Nat.le_of_ble_eq_true rfl) ⟨Nat.zero_le _, Nat.zero_le _⟩ dX10_layCentre_98) (fun r13 pr13 => ?_)
    replace pr13 : 0 ≤ r13.toInt ∧ r13.toInt ≤ 1000 := pr13
    have k14 := kI_1
    refine lv_sipush (v := 1000) hx hb dX10_layCentre_101 (by decide) ?_
    refine lv_icmp_ne (tgt := 112) hx hb dX10_layCentre_104 (by decide) (fun c15 => ?_) (fun c15 => ?_)
    · skip
      have ic15 := tn_ne rfl kI_1000 c15
      refine lv_aload_n hx hb dX10_layCentre_112 rfl (lv_at hl 0 rfl) ?_
      refine lv_iload_n hx hb dX10_layCentre_113 rfl (lv_at hl 1 rfl) ?_
      refine lv_iconst (v := 1) hx hb dX10_layCentre_114 (by decide) ?_
      refine tc_callp (mc_runV (As := [.int x1, .int 1]) (rest := [.int vs2, .int vs1, .ref as0]) E hG (c_X10_most l G (σ, cu, kO PC X Fa) h0 x1 (1 : Int32) t0 (by omega) (by omega) (by decide) (by decide)) t0 rfl kv_X10_most ml_X10_227 ⟨rfl, rfl, Nat.le_of_ble_eq_true rfl, Nat.le_of_ble_eq_true rfl⟩ rfl hl.1 rfl (Nat.le_of_ble_eq_true rfl) ⟨Nat.zero_le _, Nat.zero_le _⟩ dX10_layCentre_115) (fun r16 pr16 => ?_)
      replace pr16 : 0 ≤ r16.toInt ∧ r16.toInt ≤ 1000 := pr16
      have k17 := kI_1
      exact J118 H locs ls v3 v4 (as0) vs1 vs2 r16 hG (lv_sub hl [0, 1, 2, 3, 4] rfl) (by omega) (by omega) (by omega) (by omega) es0 (by omega) (by omega) (by omega) (by omega) (by omega) (by omega)
    · skip
      have ic15 := tn_eq rfl kI_1000 c15
      refine lv_iload hx hb dX10_layCentre_107 (lv_at hl 4 rfl) ?_
      refine lv_goto (tgt := 118) hx hb dX10_layCentre_109 (by decide) ?_
      exact J118 H locs ls v3 v4 (as0) vs1 vs2 v4 hG (lv_sub hl [0, 1, 2, 3, 4] rfl) (by omega) (by omega) (by omega) (by omega) es0 (by omega) (by omega) (by omega) (by omega) (by omega) (by omega)
  have J69 : ∀ (H : Heap) (locs : List Loc) (ls : Array Slot) (v3 : Int32) (vs0 : Int32), mGH G (σ, cu, kO PC X Fa) s H locs → lv_has ls 5 [(0, .ref h0), (1, .int x1), (2, .int x2), (3, .int v3)] → 0 ≤ v3.toInt → v3.toInt ≤ 1000 → 0 ≤ vs0.toInt → vs0.toInt ≤ 1000 → W p l e (tRm 3 67) s m ([.ref h0, .int x1, .int x2] : List Value).toArray below meth c H locs 0 0 (MQ below (mQvX G (σ, cu, kO PC X Fa) (fun Z => ∃ F : mF, Z = (σ, cu, kO PC X F) ∧ SP (t 3).toInt x1 Fa F)) ([.ref h0, .int x1, .int x2] : List Value).toArray s 0 0 (mA (σ, cu, kO PC X Fa))) (F0 m 69 ls [.int vs0]) := by
    intro H locs ls v3 vs0 hG hl b3 c3 bs0 cs0
    refine lv_istore (lv' := [(4, .int vs0), (0, .ref h0), (1, .int x1), (2, .int x2), (3, .int v3)]) hx hb dX10_layCentre_69 hl (by decide) rfl (fun ls hl => ?_)
    refine lv_aload_n hx hb dX10_layCentre_71 rfl (lv_at hl 1 rfl) ?_
    refine lv_iload_n hx hb dX10_layCentre_72 rfl (lv_at hl 2 rfl) ?_
    refine lv_aload_n hx hb dX10_layCentre_73 rfl (lv_at hl 1 rfl) ?_
    refine lv_iload_n hx hb dX10_layCentre_74 rfl (lv_at hl 2 rfl) ?_
    refine lv_iconst (v := 0) hx hb dX10_layCentre_75 (by decide) ?_
    refine tc_callp (mc_runV (As := [.int x1, .int 0]) (rest := [.int x1, .ref h0]) E hG (c_X10_most l G (σ, cu, kO PC X Fa) h0 x1 (0 : Int32) t0 (by omega) (by omega) (by decide) (by decide)) t0 rfl kv_X10_most ml_X10_227 ⟨rfl, rfl, Nat.le_of_ble_eq_true rfl, Nat.le_of_ble_eq_true rfl⟩ rfl hl.1 rfl (Nat.le_of_ble_eq_true rfl) ⟨Nat.zero_le _, Nat.zero_le _⟩ dX10_layCentre_76) (fun r18 pr18 => ?_)
    replace pr18 : 0 ≤ r18.toInt ∧ r18.toInt ≤ 1000 := pr18
    have k19 := kI_0
    refine lv_sipush (v := 1000) hx hb dX10_layCentre_79 (by decide) ?_
    refine lv_icmp_ne (tgt := 89) hx hb dX10_layCentre_82 (by decide) (fun c20 => ?_) (fun c20 => ?_)
    · skip
      have ic20 := tn_ne rfl kI_1000 c20
      refine lv_aload_n hx hb dX10_layCentre_89 rfl (lv_at hl 1 rfl) ?_
      refine lv_iload_n hx hb dX10_layCentre_90 rfl (lv_at hl 2 rfl) ?_
      refine lv_iconst (v := 0) hx hb dX10_layCentre_91 (by decide) ?_
      refine tc_callp (mc_runV (As := [.int x1, .int 0]) (rest := [.int x1, .ref h0]) E hG (c_X10_most l G (σ, cu, kO PC X Fa) h0 x1 (0 : Int32) t0 (by omega) (by omega) (by decide) (by decide)) t0 rfl kv_X10_most ml_X10_227 ⟨rfl, rfl, Nat.le_of_ble_eq_true rfl, Nat.le_of_ble_eq_true rfl⟩ rfl hl.1 rfl (Nat.le_of_ble_eq_true rfl) ⟨Nat.zero_le _, Nat.zero_le _⟩ dX10_layCentre_92) (fun r21 pr21 => ?_)
      replace pr21 : 0 ≤ r21.toInt ∧ r21.toInt ≤ 1000 := pr21
      have k22 := kI_0
      exact J95 H locs ls v3 vs0 (h0) x1 r21 hG (lv_sub hl [1, 2, 3, 4, 0] rfl) (by omega) (by omega) (by omega) (by omega) t0 (by omega) (by omega) (by omega) (by omega)
    · skip
      have ic20 := tn_eq rfl kI_1000 c20
      refine lv_iload_n hx hb dX10_layCentre_85 rfl (lv_at hl 4 rfl) ?_
      refine lv_goto (tgt := 95) hx hb dX10_layCentre_86 (by decide) ?_
      exact J95 H locs ls v3 vs0 (h0) x1 v3 hG (lv_sub hl [1, 2, 3, 4, 0] rfl) (by omega) (by omega) (by omega) (by omega) t0 (by omega) (by omega) (by omega) (by omega)
  have J54 : ∀ (H : Heap) (locs : List Loc) (ls : Array Slot) (vs0 : Int32), mGH G (σ, cu, kO PC X Fa) s H locs → lv_has ls 5 [(0, .ref h0), (1, .int x1), (2, .int x2)] → 0 ≤ vs0.toInt → vs0.toInt ≤ 1000 → W p l e (tRm 3 67) s m ([.ref h0, .int x1, .int x2] : List Value).toArray below meth c H locs 0 0 (MQ below (mQvX G (σ, cu, kO PC X Fa) (fun Z => ∃ F : mF, Z = (σ, cu, kO PC X F) ∧ SP (t 3).toInt x1 Fa F)) ([.ref h0, .int x1, .int x2] : List Value).toArray s 0 0 (mA (σ, cu, kO PC X Fa))) (F0 m 54 ls [.int vs0]) := by
    intro H locs ls vs0 hG hl bs0 cs0
    refine lv_istore_n (lv' := [(3, .int vs0), (0, .ref h0), (1, .int x1), (2, .int x2)]) hx hb dX10_layCentre_54 rfl hl (by decide) rfl (fun ls hl => ?_)
    refine lv_iload_n hx hb dX10_layCentre_55 rfl (lv_at hl 3 rfl) ?_
    refine lv_if_ge (tgt := 63) hx hb dX10_layCentre_56 (by decide) (fun c23 => ?_) (fun c23 => ?_)
    · skip
      have ic23 := tn_le kI_0 rfl c23
      refine lv_aload_n hx hb dX10_layCentre_63 rfl (lv_at hl 1 rfl) ?_
      refine lv_iload_n hx hb dX10_layCentre_64 rfl (lv_at hl 3 rfl) ?_
      refine lv_iconst (v := 1) hx hb dX10_layCentre_65 (by decide) ?_
      refine tc_callp (mc_runV (As := [.int x2, .int 1]) (rest := []) E hG (c_X10_sizeOf l G (σ, cu, kO PC X Fa) h0 x2 (1 : Int32) t0 (by omega) (by omega) (by decide) (by decide)) t0 rfl kv_X10_sizeOf ml_X10_243 ⟨rfl, rfl, Nat.le_of_ble_eq_true rfl, Nat.le_of_ble_eq_true rfl⟩ rfl hl.1 rfl (Nat.le_of_ble_eq_true rfl) ⟨Nat.zero_le _, Nat.zero_le _⟩ dX10_layCentre_66) (fun r24 pr24 => ?_)
      replace pr24 : 0 ≤ r24.toInt ∧ r24.toInt ≤ 1000 := pr24
      have k25 := kI_1
      exact J69 H locs ls vs0 r24 hG (lv_sub hl [1, 2, 3, 0] rfl) (by omega) (by omega) (by omega) (by omega)
    · skip
      have ic23 := tn_nle kI_0 rfl c23
      refine lv_iconst (v := 0) hx hb dX10_layCentre_59 (by decide) ?_
      refine lv_goto (tgt := 69) hx hb dX10_layCentre_60 (by decide) ?_
      exact J69 H locs ls vs0 (0 : Int32) hG (lv_sub hl [1, 2, 3, 0] rfl) (by omega) (by omega) (by decide) (by decide)
  have J40 : ∀ (H : Heap) (locs : List Loc) (ls : Array Slot), mGH G (σ, cu, kO PC X Fa) s H locs → lv_has ls 5 [(0, .ref h0), (1, .int x1), (2, .int x2)] → W p l e (tRm 3 67) s m ([.ref h0, .int x1, .int x2] : List Value).toArray below meth c H locs 0 0 (MQ below (mQvX G (σ, cu, kO PC X Fa) (fun Z => ∃ F : mF, Z = (σ, cu, kO PC X F) ∧ SP (t 3).toInt x1 Fa F)) ([.ref h0, .int x1, .int x2] : List Value).toArray s 0 0 (mA (σ, cu, kO PC X Fa))) (F0 m 40 ls []) := by
    intro H locs ls hG hl
    refine lv_iload_n hx hb dX10_layCentre_40 rfl (lv_at hl 2 rfl) ?_
    refine lv_if_ge (tgt := 48) hx hb dX10_layCentre_41 (by decide) (fun c26 => ?_) (fun c26 => ?_)
    · skip
      have ic26 := tn_le kI_0 rfl c26
      refine lv_aload_n hx hb dX10_layCentre_48 rfl (lv_at hl 0 rfl) ?_
      refine lv_iload_n hx hb dX10_layCentre_49 rfl (lv_at hl 2 rfl) ?_
      refine lv_iconst (v := 0) hx hb dX10_layCentre_50 (by decide) ?_
      refine tc_callp (mc_runV (As := [.int x2, .int 0]) (rest := []) E hG (c_X10_sizeOf l G (σ, cu, kO PC X Fa) h0 x2 (0 : Int32) t0 (by omega) (by omega) (by decide) (by decide)) t0 rfl kv_X10_sizeOf ml_X10_243 ⟨rfl, rfl, Nat.le_of_ble_eq_true rfl, Nat.le_of_ble_eq_true rfl⟩ rfl hl.1 rfl (Nat.le_of_ble_eq_true rfl) ⟨Nat.zero_le _, Nat.zero_le _⟩ dX10_layCentre_51) (fun r27 pr27 => ?_)
      replace pr27 : 0 ≤ r27.toInt ∧ r27.toInt ≤ 1000 := pr27
      have k28 := kI_0
      exact J54 H locs ls r27 hG (lv_sub hl [0, 1, 2] rfl) (by omega) (by omega)
    · skip
      have ic26 := tn_nle kI_0 rfl c26
      refine lv_iconst (v := 0) hx hb dX10_layCentre_44 (by decide) ?_
      refine lv_goto (tgt := 54) hx hb dX10_layCentre_45 (by decide) ?_
      exact J54 H locs ls (0 : Int32) hG (lv_sub hl [0, 1, 2] rfl) (by decide) (by decide)
  refine lv_iload_n hx hb dX10_layCentre_0 rfl (lv_at hl 2 rfl) ?_
  refine lv_if_lt (tgt := 40) hx hb dX10_layCentre_1 (by decide) (fun c29 => ?_) (fun c29 => ?_)
  · skip
    have ic29 := tn_lt rfl kI_0 c29
    exact J40 H locs ls hG (lv_sub hl [0, 1, 2] rfl)
  · skip
    have ic29 := tn_nlt rfl kI_0 c29
    refine lv_aload_n hx hb dX10_layCentre_4 rfl (lv_at hl 0 rfl) ?_
    refine mc_getr E hG t0 mr_42 dX10_layCentre_5 (fun oa30 hoa30 => ?_)
    refine lv_iload_n hx hb dX10_layCentre_8 rfl (lv_at hl 1 rfl) ?_
    refine mc_iald E hG hoa30 ma_11 (t_in (by omega) (by omega)) dX10_layCentre_9 (fun z31 lz31 uz31 qz31 => ?_)
    have wz31 := kq qz31 (PC_11)
    refine lv_if_ne (tgt := 40) hx hb dX10_layCentre_10 (by decide) (fun c32 => ?_) (fun c32 => ?_)
    · skip
      have ic32 := tn_ne rfl kI_0 c32
      exact J40 H locs ls hG (lv_sub hl [0, 1, 2] rfl)
    · skip
      have ic32 := tn_eq rfl kI_0 c32
      refine lv_aload_n hx hb dX10_layCentre_13 rfl (lv_at hl 0 rfl) ?_
      refine mc_getr E hG t0 mr_42 dX10_layCentre_14 (fun oa33 hoa33 => ?_)
      refine lv_iload_n hx hb dX10_layCentre_17 rfl (lv_at hl 1 rfl) ?_
      refine lv_iconst (v := 1) hx hb dX10_layCentre_18 (by decide) ?_
      refine mc_iastX E hG hoa33 ma_11.1 ma_11.2.1 (ma_11.2.2 _) (t_in (by omega) (by omega)) (by decide) (by decide) dX10_layCentre_19 (fun H locs hG => ?_)
      have hG := kO_set (PC_11) hG
      obtain ⟨F34, eF34⟩ : ∃ Z : mF, Z = up2 Fa 11 (x1).toNatClampNeg (1 : Int32) := ⟨_, rfl⟩
      rw [← eF34] at hG
      refine lv_aload_n hx hb dX10_layCentre_20 rfl (lv_at hl 0 rfl) ?_
      refine lv_iload_n hx hb dX10_layCentre_21 rfl (lv_at hl 2 rfl) ?_
      refine lv_iconst (v := 0) hx hb dX10_layCentre_22 (by decide) ?_
      refine lv_aload_n hx hb dX10_layCentre_23 rfl (lv_at hl 0 rfl) ?_
      refine lv_iload_n hx hb dX10_layCentre_24 rfl (lv_at hl 1 rfl) ?_
      refine lv_iconst (v := 0) hx hb dX10_layCentre_25 (by decide) ?_
      refine tc_callp (mc_runV (As := [.int x1, .int 0]) (rest := [.int 0, .int x2, .ref h0]) E hG (c_X10_most l G (σ, cu, kO PC X F34) h0 x1 (0 : Int32) t0 (by omega) (by omega) (by decide) (by decide)) t0 rfl kv_X10_most ml_X10_227 ⟨rfl, rfl, Nat.le_of_ble_eq_true rfl, Nat.le_of_ble_eq_true rfl⟩ rfl hl.1 rfl (Nat.le_of_ble_eq_true rfl) ⟨Nat.zero_le _, Nat.zero_le _⟩ dX10_layCentre_26) (fun r35 pr35 => ?_)
      replace pr35 : 0 ≤ r35.toInt ∧ r35.toInt ≤ 1000 := pr35
      have k36 := kI_0
      refine lv_iconst (v := 0) hx hb dX10_layCentre_29 (by decide) ?_
      refine lv_aload_n hx hb dX10_layCentre_30 rfl (lv_at hl 0 rfl) ?_
      refine lv_iload_n hx hb dX10_layCentre_31 rfl (lv_at hl 1 rfl) ?_
      refine lv_iconst (v := 1) hx hb dX10_layCentre_32 (by decide) ?_
      refine tc_callp (mc_runV (As := [.int x1, .int 1]) (rest := [.int 0, .int r35, .int 0, .int x2, .ref h0]) E hG (c_X10_most l G (σ, cu, kO PC X F34) h0 x1 (1 : Int32) t0 (by omega) (by omega) (by decide) (by decide)) t0 rfl kv_X10_most ml_X10_227 ⟨rfl, rfl, Nat.le_of_ble_eq_true rfl, Nat.le_of_ble_eq_true rfl⟩ rfl hl.1 rfl (Nat.le_of_ble_eq_true rfl) ⟨Nat.zero_le _, Nat.zero_le _⟩ dX10_layCentre_33) (fun r37 pr37 => ?_)
      replace pr37 : 0 ≤ r37.toInt ∧ r37.toInt ≤ 1000 := pr37
      have k38 := kI_1
      refine mc_callvX hG (mc_runV (As := [.int x2, .int 0, .int r35, .int 0, .int r37]) (rest := []) E hG (c_X10_lay l G σ cu X F34 h0 x2 (0 : Int32) r35 (0 : Int32) r37 t0 (by omega) (by omega) (by decide) (by decide) (by omega) (by omega) (by decide) (by decide) (by omega) (by omega) hA (by rw [eF34, up2_ne (by omega)]; omega)) t0 rfl kv_X10_lay ml_X10_236 ⟨rfl, rfl, Nat.le_of_ble_eq_true rfl, Nat.le_of_ble_eq_true rfl⟩ rfl hl.1 rfl (Nat.le_of_ble_eq_true rfl) ⟨Nat.zero_le _, Nat.zero_le _⟩ dX10_layCentre_36) (fun Z H locs eZ pZ hG => ?_)
      obtain ⟨F40, rfl, pF40⟩ := pZ
      clear eZ
      have k41 := kI_1
      exact mc_vretX E hr hlk hG rfl ⟨_, rfl, Or.inr ⟨F34, (1 : Int32), x2, eF34, (by rw [← wz31]; omega), by omega, pF40, by omega, by omega, by omega⟩⟩ dX10_layCentre_39

set_option maxHeartbeats 4000000 in
set_option maxRecDepth 100000 in
theorem c_X10_layFit (l : Launch) (G : tG) (σ : Nat → Nat) (cu : Nat) (X : mX) (Fa : mF) (h0 : Nat) (x1 : Int32) (x2 : Int32) (t0 : σ h0 = 1) (l1 : 0 ≤ x1.toInt) (u1 : x1.toInt ≤ 23) (l2 : -1 ≤ x2.toInt) (u2 : x2.toInt ≤ 23) (t : Nat → Int32) (hT : TI (σ, cu, X) t) (hI : TInv t) (hA : mAV (σ, cu, X)) (hd1 : 1 ≤ (Fa 1 18).toInt) (hd2 : (Fa 1 18).toInt ≤ 24) (hch : x2.toInt = -1 ∨ (x1.toInt < x2.toInt ∧ x2.toInt < (t 3).toInt)) : Met l yX10_layFit (.code yX10_layFit cX10_layFit 4 none :: tWS) (tRm 6 142) (va_Pc [.ref h0, .int x1, .int x2] (mPre G (σ, cu, kO PC X Fa))) (mQvX G (σ, cu, kO PC X Fa) (fun Z => ∃ F : mF, Z = (σ, cu, kO PC X F) ∧ SP (t 3).toInt x1 Fa F)) 0 0 (mA (σ, cu, kO PC X Fa)) := by
  refine mc_met (by decide) (Nat.le_of_ble_eq_true rfl) ?_
  intro p e s m below meth c E hr hlk hG ls hl
  have hl : lv_has ls 4 [(0, .ref h0), (1, .int x1), (2, .int x2)] := hl
  have hx := E.1
  have hb := E.2.1
  obtain ⟨H, eH⟩ : ∃ H, H = s.heap := ⟨_, rfl⟩
  obtain ⟨locs, eL⟩ : ∃ x : List Loc, x = [] := ⟨_, rfl⟩
  have hG : mGH G (σ, cu, kO PC X Fa) s H locs := by rw [eH, eL]; exact hG
  suffices hW : W p l e (tRm 6 142) s m ([.ref h0, .int x1, .int x2] : List Value).toArray below meth c H locs 0 0 (MQ below (mQvX G (σ, cu, kO PC X Fa) (fun Z => ∃ F : mF, Z = (σ, cu, kO PC X F) ∧ SP (t 3).toInt x1 Fa F)) ([.ref h0, .int x1, .int x2] : List Value).toArray s 0 0 (mA (σ, cu, kO PC X Fa))) (F0 m 0 ls []) by subst eH; subst eL; exact hW
  clear eH eL
  have hcu : mCu cu := hG.2.2.1
  have J97 : ∀ (H : Heap) (locs : List Loc) (ls : Array Slot) (as0 : Nat) (vs1 : Int32) (vs2 : Int32), mGH G (σ, cu, kO PC X Fa) s H locs → lv_has ls 4 [(0, .ref h0), (1, .int x1), (2, .int x2)] → σ as0 = 1 → 0 ≤ vs1.toInt → vs1.toInt ≤ 23 → 0 ≤ vs2.toInt → vs2.toInt ≤ 1000 → W p l e (tRm 6 142) s m ([.ref h0, .int x1, .int x2] : List Value).toArray below meth c H locs 0 0 (MQ below (mQvX G (σ, cu, kO PC X Fa) (fun Z => ∃ F : mF, Z = (σ, cu, kO PC X F) ∧ SP (t 3).toInt x1 Fa F)) ([.ref h0, .int x1, .int x2] : List Value).toArray s 0 0 (mA (σ, cu, kO PC X Fa))) (F0 m 97 ls [.int vs2, .int vs1, .ref as0]) := by
    intro H locs ls as0 vs1 vs2 hG hl es0 bs1 cs1 bs2 cs2
    refine lv_iload_n hx hb dX10_layFit_97 rfl (lv_at hl 2 rfl) ?_
    refine lv_if_ge (tgt := 110) hx hb dX10_layFit_98 (by decide) (fun c1 => ?_) (fun c1 => ?_)
    · skip
      have ic1 := tn_le kI_0 rfl c1
      refine lv_aload_n hx hb dX10_layFit_110 rfl (lv_at hl 0 rfl) ?_
      refine lv_iload_n hx hb dX10_layFit_111 rfl (lv_at hl 2 rfl) ?_
      refine lv_iconst (v := 1) hx hb dX10_layFit_112 (by decide) ?_
      refine tc_callp (mc_runV (As := [.int x2, .int 1]) (rest := [.int vs2, .int vs1, .ref as0]) E hG (c_X10_sizeOf l G (σ, cu, kO PC X Fa) h0 x2 (1 : Int32) t0 (by omega) (by omega) (by decide) (by decide)) t0 rfl kv_X10_sizeOf ml_X10_243 ⟨rfl, rfl, Nat.le_of_ble_eq_true rfl, Nat.le_of_ble_eq_true rfl⟩ rfl hl.1 rfl (Nat.le_of_ble_eq_true rfl) ⟨Nat.zero_le _, Nat.zero_le _⟩ dX10_layFit_113) (fun r2 pr2 => ?_)
      replace pr2 : 0 ≤ r2.toInt ∧ r2.toInt ≤ 1000 := pr2
      have k3 := kI_1
      refine mc_callvX hG (mc_runV (As := [.int vs1, .int vs2, .int r2]) (rest := []) E hG (c_X10_ends l G σ cu X Fa as0 vs1 vs2 r2 es0 (by omega) (by omega) hA (by omega)) es0 rfl kv_X10_ends ml_X10_230 ⟨rfl, rfl, Nat.le_of_ble_eq_true rfl, Nat.le_of_ble_eq_true rfl⟩ rfl hl.1 rfl (Nat.le_of_ble_eq_true rfl) ⟨Nat.zero_le _, Nat.zero_le _⟩ dX10_layFit_116) (fun Z H locs eZ pZ hG => ?_)
      obtain ⟨F5, rfl, pF5⟩ := pZ
      clear eZ
      exact mc_vretX E hr hlk hG rfl ⟨_, rfl, Or.inl pF5⟩ dX10_layFit_119
    · skip
      have ic1 := tn_nle kI_0 rfl c1
      refine lv_aload_n hx hb dX10_layFit_101 rfl (lv_at hl 0 rfl) ?_
      refine lv_iload_n hx hb dX10_layFit_102 rfl (lv_at hl 1 rfl) ?_
      refine lv_iconst (v := 1) hx hb dX10_layFit_103 (by decide) ?_
      refine tc_callp (mc_runV (As := [.int x1, .int 1]) (rest := [.int vs2, .int vs1, .ref as0]) E hG (c_X10_low l G (σ, cu, kO PC X Fa) h0 x1 (1 : Int32) t0 (by omega) (by omega) (by decide) (by decide)) t0 rfl kv_X10_low ml_X10_224 ⟨rfl, rfl, Nat.le_of_ble_eq_true rfl, Nat.le_of_ble_eq_true rfl⟩ rfl hl.1 rfl (Nat.le_of_ble_eq_true rfl) ⟨Nat.zero_le _, Nat.zero_le _⟩ dX10_layFit_104) (fun r6 pr6 => ?_)
      replace pr6 : 0 ≤ r6.toInt ∧ r6.toInt ≤ 1000 := pr6
      have k7 := kI_1
      refine lv_goto (tgt := 116) hx hb dX10_layFit_107 (by decide) ?_
      refine mc_callvX hG (mc_runV (As := [.int vs1, .int vs2, .int r6]) (rest := []) E hG (c_X10_ends l G σ cu X Fa as0 vs1 vs2 r6 es0 (by omega) (by omega) hA (by omega)) es0 rfl kv_X10_ends ml_X10_230 ⟨rfl, rfl, Nat.le_of_ble_eq_true rfl, Nat.le_of_ble_eq_true rfl⟩ rfl hl.1 rfl (Nat.le_of_ble_eq_true rfl) ⟨Nat.zero_le _, Nat.zero_le _⟩ dX10_layFit_116) (fun Z H locs eZ pZ hG => ?_)
      obtain ⟨F9, rfl, pF9⟩ := pZ
      clear eZ
      exact mc_vretX E hr hlk hG rfl ⟨_, rfl, Or.inl pF9⟩ dX10_layFit_119
  have J81 : ∀ (H : Heap) (locs : List Loc) (ls : Array Slot) (v3 : Int32), mGH G (σ, cu, kO PC X Fa) s H locs → lv_has ls 4 [(0, .ref h0), (1, .int x1), (2, .int x2), (3, .int v3)] → 0 ≤ v3.toInt → v3.toInt ≤ 1000 → W p l e (tRm 6 142) s m ([.ref h0, .int x1, .int x2] : List Value).toArray below meth c H locs 0 0 (MQ below (mQvX G (σ, cu, kO PC X Fa) (fun Z => ∃ F : mF, Z = (σ, cu, kO PC X F) ∧ SP (t 3).toInt x1 Fa F)) ([.ref h0, .int x1, .int x2] : List Value).toArray s 0 0 (mA (σ, cu, kO PC X Fa))) (F0 m 81 ls []) := by
    intro H locs ls v3 hG hl b3 c3
    refine lv_aload_n hx hb dX10_layFit_81 rfl (lv_at hl 0 rfl) ?_
    refine lv_iload_n hx hb dX10_layFit_82 rfl (lv_at hl 1 rfl) ?_
    refine lv_iload_n hx hb dX10_layFit_83 rfl (lv_at hl 2 rfl) ?_
    refine lv_if_ge (tgt := 91) hx hb dX10_layFit_84 (by decide) (fun c10 => ?_) (fun c10 => ?_)
    · skip
      have ic10 := tn_le kI_0 rfl c10
      refine lv_aload_n hx hb dX10_layFit_91 rfl (lv_at hl 0 rfl) ?_
      refine lv_iload_n hx hb dX10_layFit_92 rfl (lv_at hl 2 rfl) ?_
      refine lv_iconst (v := 0) hx hb dX10_layFit_93 (by decide) ?_
      refine tc_callp (mc_runV (As := [.int x2, .int 0]) (rest := [.int x1, .ref h0]) E hG (c_X10_sizeOf l G (σ, cu, kO PC X Fa) h0 x2 (0 : Int32) t0 (by omega) (by omega) (by decide) (by decide)) t0 rfl kv_X10_sizeOf ml_X10_243 ⟨rfl, rfl, Nat.le_of_ble_eq_true rfl, Nat.le_of_ble_eq_true rfl⟩ rfl hl.1 rfl (Nat.le_of_ble_eq_true rfl) ⟨Nat.zero_le _, Nat.zero_le _⟩ dX10_layFit_94) (fun r11 pr11 => ?_)
      replace pr11 : 0 ≤ r11.toInt ∧ r11.toInt ≤ 1000 := pr11
      have k12 := kI_0
      exact J97 H locs ls (h0) x1 r11 hG (lv_sub hl [0, 1, 2] rfl) t0 (by omega) (by omega) (by omega) (by omega)
    · skip
      have ic10 := tn_nle kI_0 rfl c10
      refine lv_iload_n hx hb dX10_layFit_87 rfl (lv_at hl 3 rfl) ?_
      refine lv_goto (tgt := 97) hx hb dX10_layFit_88 (by decide) ?_
      exact J97 H locs ls (h0) x1 v3 hG (lv_sub hl [0, 1, 2] rfl) t0 (by omega) (by omega) (by omega) (by omega)
  have J70 : ∀ (H : Heap) (locs : List Loc) (ls : Array Slot) (v3 : Int32), mGH G (σ, cu, kO PC X Fa) s H locs → lv_has ls 4 [(0, .ref h0), (1, .int x1), (2, .int x2), (3, .int v3)] → 0 ≤ v3.toInt → v3.toInt ≤ 1000 → W p l e (tRm 6 142) s m ([.ref h0, .int x1, .int x2] : List Value).toArray below meth c H locs 0 0 (MQ below (mQvX G (σ, cu, kO PC X Fa) (fun Z => ∃ F : mF, Z = (σ, cu, kO PC X F) ∧ SP (t 3).toInt x1 Fa F)) ([.ref h0, .int x1, .int x2] : List Value).toArray s 0 0 (mA (σ, cu, kO PC X Fa))) (F0 m 70 ls []) := by
    intro H locs ls v3 hG hl b3 c3
    refine lv_iload_n hx hb dX10_layFit_70 rfl (lv_at hl 2 rfl) ?_
    refine lv_if_lt (tgt := 81) hx hb dX10_layFit_71 (by decide) (fun c13 => ?_) (fun c13 => ?_)
    · skip
      have ic13 := tn_lt rfl kI_0 c13
      exact J81 H locs ls v3 hG (lv_sub hl [0, 1, 2, 3] rfl) (by omega) (by omega)
    · skip
      have ic13 := tn_nlt rfl kI_0 c13
      refine lv_aload_n hx hb dX10_layFit_74 rfl (lv_at hl 0 rfl) ?_
      refine lv_iload_n hx hb dX10_layFit_75 rfl (lv_at hl 2 rfl) ?_
      refine lv_iconst (v := 0) hx hb dX10_layFit_76 (by decide) ?_
      refine lv_iconst (v := 0) hx hb dX10_layFit_77 (by decide) ?_
      refine mc_callv hG (mc_runV (As := [.int x2, .int 0, .int 0]) (rest := []) E hG (c_X10_sets l G σ cu (kO PC X Fa) h0 x2 (0 : Int32) (0 : Int32) t0 (by omega) (by omega) (PC_AV hA hcu)) t0 rfl kv_X10_sets ml_X10_240 ⟨rfl, rfl, Nat.le_of_ble_eq_true rfl, Nat.le_of_ble_eq_true rfl⟩ rfl hl.1 rfl (Nat.le_of_ble_eq_true rfl) ⟨Nat.zero_le _, Nat.zero_le _⟩ dX10_layFit_78) (fun H locs hG => ?_)
      exact J81 H locs ls v3 hG (lv_sub hl [0, 1, 2, 3] rfl) (by omega) (by omega)
  have J14 : ∀ (H : Heap) (locs : List Loc) (ls : Array Slot) (vs0 : Int32), mGH G (σ, cu, kO PC X Fa) s H locs → lv_has ls 4 [(0, .ref h0), (1, .int x1), (2, .int x2)] → W p l e (tRm 6 142) s m ([.ref h0, .int x1, .int x2] : List Value).toArray below meth c H locs 0 0 (MQ below (mQvX G (σ, cu, kO PC X Fa) (fun Z => ∃ F : mF, Z = (σ, cu, kO PC X F) ∧ SP (t 3).toInt x1 Fa F)) ([.ref h0, .int x1, .int x2] : List Value).toArray s 0 0 (mA (σ, cu, kO PC X Fa))) (F0 m 14 ls [.int vs0]) := by
    intro H locs ls vs0 hG hl
    refine lv_aload_n hx hb dX10_layFit_14 rfl (lv_at hl 0 rfl) ?_
    refine lv_iload_n hx hb dX10_layFit_15 rfl (lv_at hl 1 rfl) ?_
    refine lv_iconst (v := 0) hx hb dX10_layFit_16 (by decide) ?_
    refine tc_callp (mc_runV (As := [.int x1, .int 0]) (rest := [.int vs0]) E hG (c_X10_low l G (σ, cu, kO PC X Fa) h0 x1 (0 : Int32) t0 (by omega) (by omega) (by decide) (by decide)) t0 rfl kv_X10_low ml_X10_224 ⟨rfl, rfl, Nat.le_of_ble_eq_true rfl, Nat.le_of_ble_eq_true rfl⟩ rfl hl.1 rfl (Nat.le_of_ble_eq_true rfl) ⟨Nat.zero_le _, Nat.zero_le _⟩ dX10_layFit_17) (fun r15 pr15 => ?_)
    replace pr15 : 0 ≤ r15.toInt ∧ r15.toInt ≤ 1000 := pr15
    have k16 := kI_0
    refine lv_aload_n hx hb dX10_layFit_20 rfl (lv_at hl 0 rfl) ?_
    refine lv_iload_n hx hb dX10_layFit_21 rfl (lv_at hl 1 rfl) ?_
    refine lv_iconst (v := 0) hx hb dX10_layFit_22 (by decide) ?_
    refine tc_callp (mc_runV (As := [.int x1, .int 0]) (rest := [.int r15, .int vs0]) E hG (c_X10_most l G (σ, cu, kO PC X Fa) h0 x1 (0 : Int32) t0 (by omega) (by omega) (by decide) (by decide)) t0 rfl kv_X10_most ml_X10_227 ⟨rfl, rfl, Nat.le_of_ble_eq_true rfl, Nat.le_of_ble_eq_true rfl⟩ rfl hl.1 rfl (Nat.le_of_ble_eq_true rfl) ⟨Nat.zero_le _, Nat.zero_le _⟩ dX10_layFit_23) (fun r17 pr17 => ?_)
    replace pr17 : 0 ≤ r17.toInt ∧ r17.toInt ≤ 1000 := pr17
    have k18 := kI_0
    refine tc_callp (mc_runS (As := [.int vs0, .int r15, .int r17]) (rest := []) E hG (c_X10_held l G (σ, cu, kO PC X Fa) vs0 r15 r17) ks_X10_held ml_X10_184 ⟨rfl, rfl, Nat.le_of_ble_eq_true rfl, Nat.le_of_ble_eq_true rfl⟩ rfl hl.1 rfl (Nat.le_of_ble_eq_true rfl) ⟨Nat.zero_le _, Nat.zero_le _⟩ dX10_layFit_26) (fun r19 pr19 => ?_)
    replace pr19 : (r19 = vs0 ∧ r15.toInt ≤ vs0.toInt ∧ vs0.toInt ≤ r17.toInt) ∨ (r19 = r15 ∧ vs0.toInt < r15.toInt) ∨ (r19 = r17 ∧ r17.toInt < vs0.toInt) := pr19
    have br19 : 0 ≤ r19.toInt ∧ r19.toInt ≤ 1000 := by rcases pr19 with ⟨w, _⟩ | ⟨w, _⟩ | ⟨w, _⟩ <;> rw [w] <;> omega
    refine lv_istore_n (lv' := [(3, .int r19), (0, .ref h0), (1, .int x1), (2, .int x2)]) hx hb dX10_layFit_29 rfl hl (by decide) rfl (fun ls hl => ?_)
    refine lv_iload_n hx hb dX10_layFit_30 rfl (lv_at hl 3 rfl) ?_
    refine lv_if_lt (tgt := 70) hx hb dX10_layFit_31 (by decide) (fun c20 => ?_) (fun c20 => ?_)
    · skip
      have ic20 := tn_lt rfl kI_0 c20
      exact J70 H locs ls r19 hG (lv_sub hl [1, 2, 3, 0] rfl) (by omega) (by omega)
    · skip
      have ic20 := tn_nlt rfl kI_0 c20
      refine lv_aload_n hx hb dX10_layFit_34 rfl (lv_at hl 1 rfl) ?_
      refine mc_getr E hG t0 mr_42 dX10_layFit_35 (fun oa21 hoa21 => ?_)
      refine lv_iload_n hx hb dX10_layFit_38 rfl (lv_at hl 2 rfl) ?_
      refine mc_iald E hG hoa21 ma_11 (t_in (by omega) (by omega)) dX10_layFit_39 (fun z22 lz22 uz22 qz22 => ?_)
      have wz22 := kq qz22 (PC_11)
      refine lv_if_ne (tgt := 70) hx hb dX10_layFit_40 (by decide) (fun c23 => ?_) (fun c23 => ?_)
      · skip
        have ic23 := tn_ne rfl kI_0 c23
        exact J70 H locs ls r19 hG (lv_sub hl [1, 2, 3, 0] rfl) (by omega) (by omega)
      · skip
        have ic23 := tn_eq rfl kI_0 c23
        refine lv_aload_n hx hb dX10_layFit_43 rfl (lv_at hl 1 rfl) ?_
        refine mc_getr E hG t0 mr_42 dX10_layFit_44 (fun oa24 hoa24 => ?_)
        refine lv_iload_n hx hb dX10_layFit_47 rfl (lv_at hl 2 rfl) ?_
        refine lv_iconst (v := 1) hx hb dX10_layFit_48 (by decide) ?_
        refine mc_iastX E hG hoa24 ma_11.1 ma_11.2.1 (ma_11.2.2 _) (t_in (by omega) (by omega)) (by decide) (by decide) dX10_layFit_49 (fun H locs hG => ?_)
        have hG := kO_set (PC_11) hG
        obtain ⟨F25, eF25⟩ : ∃ Z : mF, Z = up2 Fa 11 (x1).toNatClampNeg (1 : Int32) := ⟨_, rfl⟩
        rw [← eF25] at hG
        refine lv_aload_n hx hb dX10_layFit_50 rfl (lv_at hl 1 rfl) ?_
        refine lv_iload_n hx hb dX10_layFit_51 rfl (lv_at hl 3 rfl) ?_
        refine lv_iload_n hx hb dX10_layFit_52 rfl (lv_at hl 0 rfl) ?_
        refine lv_iload_n hx hb dX10_layFit_53 rfl (lv_at hl 0 rfl) ?_
        refine lv_aload_n hx hb dX10_layFit_54 rfl (lv_at hl 1 rfl) ?_
        refine lv_iload_n hx hb dX10_layFit_55 rfl (lv_at hl 2 rfl) ?_
        refine lv_iconst (v := 1) hx hb dX10_layFit_56 (by decide) ?_
        refine tc_callp (mc_runV (As := [.int x1, .int 1]) (rest := [.int r19, .int r19, .int x2, .ref h0]) E hG (c_X10_low l G (σ, cu, kO PC X F25) h0 x1 (1 : Int32) t0 (by omega) (by omega) (by decide) (by decide)) t0 rfl kv_X10_low ml_X10_224 ⟨rfl, rfl, Nat.le_of_ble_eq_true rfl, Nat.le_of_ble_eq_true rfl⟩ rfl hl.1 rfl (Nat.le_of_ble_eq_true rfl) ⟨Nat.zero_le _, Nat.zero_le _⟩ dX10_layFit_57) (fun r26 pr26 => ?_)
        replace pr26 : 0 ≤ r26.toInt ∧ r26.toInt ≤ 1000 := pr26
        have k27 := kI_1
        refine lv_aload_n hx hb dX10_layFit_60 rfl (lv_at hl 1 rfl) ?_
        refine lv_iload_n hx hb dX10_layFit_61 rfl (lv_at hl 2 rfl) ?_
        refine lv_iconst (v := 1) hx hb dX10_layFit_62 (by decide) ?_
        refine tc_callp (mc_runV (As := [.int x1, .int 1]) (rest := [.int r26, .int r19, .int r19, .int x2, .ref h0]) E hG (c_X10_most l G (σ, cu, kO PC X F25) h0 x1 (1 : Int32) t0 (by omega) (by omega) (by decide) (by decide)) t0 rfl kv_X10_most ml_X10_227 ⟨rfl, rfl, Nat.le_of_ble_eq_true rfl, Nat.le_of_ble_eq_true rfl⟩ rfl hl.1 rfl (Nat.le_of_ble_eq_true rfl) ⟨Nat.zero_le _, Nat.zero_le _⟩ dX10_layFit_63) (fun r28 pr28 => ?_)
        replace pr28 : 0 ≤ r28.toInt ∧ r28.toInt ≤ 1000 := pr28
        have k29 := kI_1
        refine mc_callvX hG (mc_runV (As := [.int x2, .int r19, .int r19, .int r26, .int r28]) (rest := []) E hG (c_X10_lay l G σ cu X F25 h0 x2 r19 r19 r26 r28 t0 (by omega) (by omega) (by omega) (by omega) (by omega) (by omega) (by omega) (by omega) (by omega) (by omega) hA (by rw [eF25, up2_ne (by omega)]; omega)) t0 rfl kv_X10_lay ml_X10_236 ⟨rfl, rfl, Nat.le_of_ble_eq_true rfl, Nat.le_of_ble_eq_true rfl⟩ rfl hl.1 rfl (Nat.le_of_ble_eq_true rfl) ⟨Nat.zero_le _, Nat.zero_le _⟩ dX10_layFit_66) (fun Z H locs eZ pZ hG => ?_)
        obtain ⟨F31, rfl, pF31⟩ := pZ
        clear eZ
        have k32 := kI_1
        exact mc_vretX E hr hlk hG rfl ⟨_, rfl, Or.inr ⟨F25, (1 : Int32), x2, eF25, (by rw [← wz22]; omega), by omega, pF31, by omega, by omega, by omega⟩⟩ dX10_layFit_69
  refine lv_iload_n hx hb dX10_layFit_0 rfl (lv_at hl 2 rfl) ?_
  refine lv_if_ge (tgt := 8) hx hb dX10_layFit_1 (by decide) (fun c33 => ?_) (fun c33 => ?_)
  · skip
    have ic33 := tn_le kI_0 rfl c33
    refine lv_aload_n hx hb dX10_layFit_8 rfl (lv_at hl 0 rfl) ?_
    refine lv_iload_n hx hb dX10_layFit_9 rfl (lv_at hl 2 rfl) ?_
    refine lv_iconst (v := 0) hx hb dX10_layFit_10 (by decide) ?_
    refine mc_calli hG (mc_runV (As := [.int x2, .int 0]) (rest := []) E hG (c_X10_asksIt l G σ cu (kO PC X Fa) h0 x2 (0 : Int32) t0 (by omega) (by omega) (by decide) (by decide) t (kO_TI (PC_tr hcu) hT) hI (PC_AV hA hcu) (by omega)) t0 rfl kv_X10_asksIt ml_X10_206 ⟨rfl, rfl, Nat.le_of_ble_eq_true rfl, Nat.le_of_ble_eq_true rfl⟩ rfl hl.1 rfl (Nat.le_of_ble_eq_true rfl) ⟨Nat.zero_le _, Nat.zero_le _⟩ dX10_layFit_11) (fun r34 H locs pr34 hG => ?_)
    exact J14 H locs ls r34 hG (lv_sub hl [0, 1, 2] rfl)
  · skip
    have ic33 := tn_nle kI_0 rfl c33
    refine lv_iconst (v := 0) hx hb dX10_layFit_4 (by decide) ?_
    refine lv_goto (tgt := 14) hx hb dX10_layFit_5 (by decide) ?_
    exact J14 H locs ls (0 : Int32) hG (lv_sub hl [0, 1, 2] rfl)

set_option maxHeartbeats 4000000 in
set_option maxRecDepth 100000 in
theorem c_X10_layRatio (l : Launch) (G : tG) (σ : Nat → Nat) (cu : Nat) (X : mX) (Fa : mF) (h0 : Nat) (x1 : Int32) (x2 : Int32) (t0 : σ h0 = 1) (l1 : 0 ≤ x1.toInt) (u1 : x1.toInt ≤ 23) (l2 : -1 ≤ x2.toInt) (u2 : x2.toInt ≤ 23) (t : Nat → Int32) (hT : TI (σ, cu, X) t) (hI : TInv t) (hA : mAV (σ, cu, X)) (hd1 : 1 ≤ (Fa 1 18).toInt) (hd2 : (Fa 1 18).toInt ≤ 24) (hch : x2.toInt = -1 ∨ (x1.toInt < x2.toInt ∧ x2.toInt < (t 3).toInt)) (h6 : 1 ≤ K t x1.toInt 2 ∧ 1 ≤ K t x1.toInt 3) : Met l yX10_layRatio (.code yX10_layRatio cX10_layRatio 8 none :: tWS) (tRm 3 67) (va_Pc [.ref h0, .int x1, .int x2] (mPre G (σ, cu, kO PC X Fa))) (mQvX G (σ, cu, kO PC X Fa) (fun Z => ∃ F : mF, Z = (σ, cu, kO PC X F) ∧ SP (t 3).toInt x1 Fa F)) 0 0 (mA (σ, cu, kO PC X Fa)) := by
  refine mc_met (by decide) (Nat.le_of_ble_eq_true rfl) ?_
  intro p e s m below meth c E hr hlk hG ls hl
  have hl : lv_has ls 8 [(0, .ref h0), (1, .int x1), (2, .int x2)] := hl
  have hx := E.1
  have hb := E.2.1
  obtain ⟨H, eH⟩ : ∃ H, H = s.heap := ⟨_, rfl⟩
  obtain ⟨locs, eL⟩ : ∃ x : List Loc, x = [] := ⟨_, rfl⟩
  have hG : mGH G (σ, cu, kO PC X Fa) s H locs := by rw [eH, eL]; exact hG
  suffices hW : W p l e (tRm 3 67) s m ([.ref h0, .int x1, .int x2] : List Value).toArray below meth c H locs 0 0 (MQ below (mQvX G (σ, cu, kO PC X Fa) (fun Z => ∃ F : mF, Z = (σ, cu, kO PC X F) ∧ SP (t 3).toInt x1 Fa F)) ([.ref h0, .int x1, .int x2] : List Value).toArray s 0 0 (mA (σ, cu, kO PC X Fa))) (F0 m 0 ls []) by subst eH; subst eL; exact hW
  clear eH eL
  have hcu : mCu cu := hG.2.2.1
  have J171 : ∀ (H : Heap) (locs : List Loc) (ls : Array Slot) (v6 : Int32) (v7 : Int32), mGH G (σ, cu, kO PC X Fa) s H locs → lv_has ls 8 [(0, .ref h0), (1, .int x1), (6, .int v6), (7, .int v7)] → 0 ≤ v6.toInt → v6.toInt ≤ 1000 → 0 ≤ v7.toInt → v7.toInt ≤ 1000 → W p l e (tRm 3 67) s m ([.ref h0, .int x1, .int x2] : List Value).toArray below meth c H locs 0 0 (MQ below (mQvX G (σ, cu, kO PC X Fa) (fun Z => ∃ F : mF, Z = (σ, cu, kO PC X F) ∧ SP (t 3).toInt x1 Fa F)) ([.ref h0, .int x1, .int x2] : List Value).toArray s 0 0 (mA (σ, cu, kO PC X Fa))) (F0 m 171 ls []) := by
    intro H locs ls v6 v7 hG hl b6 c6 b7 c7
    refine lv_aload_n hx hb dX10_layRatio_171 rfl (lv_at hl 0 rfl) ?_
    refine lv_iload_n hx hb dX10_layRatio_172 rfl (lv_at hl 1 rfl) ?_
    refine lv_iload hx hb dX10_layRatio_173 (lv_at hl 2 rfl) ?_
    refine lv_iload hx hb dX10_layRatio_175 (lv_at hl 3 rfl) ?_
    refine mc_callvX hG (mc_runV (As := [.int x1, .int v6, .int v7]) (rest := []) E hG (c_X10_ends l G σ cu X Fa h0 x1 v6 v7 t0 (by omega) (by omega) hA (by omega)) t0 rfl kv_X10_ends ml_X10_230 ⟨rfl, rfl, Nat.le_of_ble_eq_true rfl, Nat.le_of_ble_eq_true rfl⟩ rfl hl.1 rfl (Nat.le_of_ble_eq_true rfl) ⟨Nat.zero_le _, Nat.zero_le _⟩ dX10_layRatio_177) (fun Z H locs eZ pZ hG => ?_)
    obtain ⟨F2, rfl, pF2⟩ := pZ
    clear eZ
    exact mc_vretX E hr hlk hG rfl ⟨_, rfl, Or.inl pF2⟩ dX10_layRatio_180
  have J160 : ∀ (H : Heap) (locs : List Loc) (ls : Array Slot) (v6 : Int32) (v7 : Int32), mGH G (σ, cu, kO PC X Fa) s H locs → lv_has ls 8 [(0, .ref h0), (1, .int x1), (2, .int x2), (6, .int v6), (7, .int v7)] → 0 ≤ v6.toInt → v6.toInt ≤ 1000 → 0 ≤ v7.toInt → v7.toInt ≤ 1000 → W p l e (tRm 3 67) s m ([.ref h0, .int x1, .int x2] : List Value).toArray below meth c H locs 0 0 (MQ below (mQvX G (σ, cu, kO PC X Fa) (fun Z => ∃ F : mF, Z = (σ, cu, kO PC X F) ∧ SP (t 3).toInt x1 Fa F)) ([.ref h0, .int x1, .int x2] : List Value).toArray s 0 0 (mA (σ, cu, kO PC X Fa))) (F0 m 160 ls []) := by
    intro H locs ls v6 v7 hG hl b6 c6 b7 c7
    refine lv_iload_n hx hb dX10_layRatio_160 rfl (lv_at hl 2 rfl) ?_
    refine lv_if_lt (tgt := 171) hx hb dX10_layRatio_161 (by decide) (fun c3 => ?_) (fun c3 => ?_)
    · skip
      have ic3 := tn_lt rfl kI_0 c3
      exact J171 H locs ls v6 v7 hG (lv_sub hl [0, 1, 3, 4] rfl) (by omega) (by omega) (by omega) (by omega)
    · skip
      have ic3 := tn_nlt rfl kI_0 c3
      refine lv_aload_n hx hb dX10_layRatio_164 rfl (lv_at hl 0 rfl) ?_
      refine lv_iload_n hx hb dX10_layRatio_165 rfl (lv_at hl 2 rfl) ?_
      refine lv_iconst (v := 0) hx hb dX10_layRatio_166 (by decide) ?_
      refine lv_iconst (v := 0) hx hb dX10_layRatio_167 (by decide) ?_
      refine mc_callv hG (mc_runV (As := [.int x2, .int 0, .int 0]) (rest := []) E hG (c_X10_sets l G σ cu (kO PC X Fa) h0 x2 (0 : Int32) (0 : Int32) t0 (by omega) (by omega) (PC_AV hA hcu)) t0 rfl kv_X10_sets ml_X10_240 ⟨rfl, rfl, Nat.le_of_ble_eq_true rfl, Nat.le_of_ble_eq_true rfl⟩ rfl hl.1 rfl (Nat.le_of_ble_eq_true rfl) ⟨Nat.zero_le _, Nat.zero_le _⟩ dX10_layRatio_168) (fun H locs hG => ?_)
      exact J171 H locs ls v6 v7 hG (lv_sub hl [0, 1, 3, 4] rfl) (by omega) (by omega) (by omega) (by omega)
  have J92 : ∀ (H : Heap) (locs : List Loc) (ls : Array Slot) (v5 : Int32) (v6 : Int32) (v7 : Int32), mGH G (σ, cu, kO PC X Fa) s H locs → lv_has ls 8 [(0, .ref h0), (1, .int x1), (2, .int x2), (5, .int v5), (6, .int v6), (7, .int v7)] → 0 ≤ v5.toInt → v5.toInt ≤ 1000 → v7.toInt ≤ 1000 → W p l e (tRm 3 67) s m ([.ref h0, .int x1, .int x2] : List Value).toArray below meth c H locs 0 0 (MQ below (mQvX G (σ, cu, kO PC X Fa) (fun Z => ∃ F : mF, Z = (σ, cu, kO PC X F) ∧ SP (t 3).toInt x1 Fa F)) ([.ref h0, .int x1, .int x2] : List Value).toArray s 0 0 (mA (σ, cu, kO PC X Fa))) (F0 m 92 ls []) := by
    intro H locs ls v5 v6 v7 hG hl b5 c5 c7
    refine lv_iload hx hb dX10_layRatio_92 (lv_at hl 4 rfl) ?_
    refine lv_aload_n hx hb dX10_layRatio_94 rfl (lv_at hl 0 rfl) ?_
    refine lv_iload_n hx hb dX10_layRatio_95 rfl (lv_at hl 1 rfl) ?_
    refine lv_iconst (v := 0) hx hb dX10_layRatio_96 (by decide) ?_
    refine tc_callp (mc_runV (As := [.int x1, .int 0]) (rest := [.int v6]) E hG (c_X10_low l G (σ, cu, kO PC X Fa) h0 x1 (0 : Int32) t0 (by omega) (by omega) (by decide) (by decide)) t0 rfl kv_X10_low ml_X10_224 ⟨rfl, rfl, Nat.le_of_ble_eq_true rfl, Nat.le_of_ble_eq_true rfl⟩ rfl hl.1 rfl (Nat.le_of_ble_eq_true rfl) ⟨Nat.zero_le _, Nat.zero_le _⟩ dX10_layRatio_97) (fun r5 pr5 => ?_)
    replace pr5 : 0 ≤ r5.toInt ∧ r5.toInt ≤ 1000 := pr5
    have k6 := kI_0
    refine lv_aload_n hx hb dX10_layRatio_100 rfl (lv_at hl 0 rfl) ?_
    refine lv_iload_n hx hb dX10_layRatio_101 rfl (lv_at hl 1 rfl) ?_
    refine lv_iconst (v := 0) hx hb dX10_layRatio_102 (by decide) ?_
    refine tc_callp (mc_runV (As := [.int x1, .int 0]) (rest := [.int r5, .int v6]) E hG (c_X10_most l G (σ, cu, kO PC X Fa) h0 x1 (0 : Int32) t0 (by omega) (by omega) (by decide) (by decide)) t0 rfl kv_X10_most ml_X10_227 ⟨rfl, rfl, Nat.le_of_ble_eq_true rfl, Nat.le_of_ble_eq_true rfl⟩ rfl hl.1 rfl (Nat.le_of_ble_eq_true rfl) ⟨Nat.zero_le _, Nat.zero_le _⟩ dX10_layRatio_103) (fun r7 pr7 => ?_)
    replace pr7 : 0 ≤ r7.toInt ∧ r7.toInt ≤ 1000 := pr7
    have k8 := kI_0
    refine tc_callp (mc_runS (As := [.int v6, .int r5, .int r7]) (rest := []) E hG (c_X10_held l G (σ, cu, kO PC X Fa) v6 r5 r7) ks_X10_held ml_X10_184 ⟨rfl, rfl, Nat.le_of_ble_eq_true rfl, Nat.le_of_ble_eq_true rfl⟩ rfl hl.1 rfl (Nat.le_of_ble_eq_true rfl) ⟨Nat.zero_le _, Nat.zero_le _⟩ dX10_layRatio_106) (fun r9 pr9 => ?_)
    replace pr9 : (r9 = v6 ∧ r5.toInt ≤ v6.toInt ∧ v6.toInt ≤ r7.toInt) ∨ (r9 = r5 ∧ v6.toInt < r5.toInt) ∨ (r9 = r7 ∧ r7.toInt < v6.toInt) := pr9
    have br9 : 0 ≤ r9.toInt ∧ r9.toInt ≤ 1000 := by rcases pr9 with ⟨w, _⟩ | ⟨w, _⟩ | ⟨w, _⟩ <;> rw [w] <;> omega
    refine lv_istore (lv' := [(6, .int r9), (0, .ref h0), (1, .int x1), (2, .int x2), (5, .int v5), (7, .int v7)]) hx hb dX10_layRatio_109 hl (by decide) rfl (fun ls hl => ?_)
    refine lv_iload hx hb dX10_layRatio_111 (lv_at hl 5 rfl) ?_
    refine lv_aload_n hx hb dX10_layRatio_113 rfl (lv_at hl 1 rfl) ?_
    refine lv_iload_n hx hb dX10_layRatio_114 rfl (lv_at hl 2 rfl) ?_
    refine lv_iconst (v := 1) hx hb dX10_layRatio_115 (by decide) ?_
    refine tc_callp (mc_runV (As := [.int x1, .int 1]) (rest := [.int v7]) E hG (c_X10_low l G (σ, cu, kO PC X Fa) h0 x1 (1 : Int32) t0 (by omega) (by omega) (by decide) (by decide)) t0 rfl kv_X10_low ml_X10_224 ⟨rfl, rfl, Nat.le_of_ble_eq_true rfl, Nat.le_of_ble_eq_true rfl⟩ rfl hl.1 rfl (Nat.le_of_ble_eq_true rfl) ⟨Nat.zero_le _, Nat.zero_le _⟩ dX10_layRatio_116) (fun r10 pr10 => ?_)
    replace pr10 : 0 ≤ r10.toInt ∧ r10.toInt ≤ 1000 := pr10
    have k11 := kI_1
    refine lv_iload hx hb dX10_layRatio_119 (lv_at hl 4 rfl) ?_
    refine tc_callp (mc_runS (As := [.int v7, .int r10, .int v5]) (rest := []) E hG (c_X10_held l G (σ, cu, kO PC X Fa) v7 r10 v5) ks_X10_held ml_X10_184 ⟨rfl, rfl, Nat.le_of_ble_eq_true rfl, Nat.le_of_ble_eq_true rfl⟩ rfl hl.1 rfl (Nat.le_of_ble_eq_true rfl) ⟨Nat.zero_le _, Nat.zero_le _⟩ dX10_layRatio_121) (fun r12 pr12 => ?_)
    replace pr12 : (r12 = v7 ∧ r10.toInt ≤ v7.toInt ∧ v7.toInt ≤ v5.toInt) ∨ (r12 = r10 ∧ v7.toInt < r10.toInt) ∨ (r12 = v5 ∧ v5.toInt < v7.toInt) := pr12
    have br12 : 0 ≤ r12.toInt ∧ r12.toInt ≤ 1000 := by rcases pr12 with ⟨w, _⟩ | ⟨w, _⟩ | ⟨w, _⟩ <;> rw [w] <;> omega
    refine lv_istore (lv' := [(7, .int r12), (6, .int r9), (0, .ref h0), (1, .int x1), (2, .int x2), (5, .int v5)]) hx hb dX10_layRatio_124 hl (by decide) rfl (fun ls hl => ?_)
    refine lv_iload_n hx hb dX10_layRatio_126 rfl (lv_at hl 4 rfl) ?_
    refine lv_if_lt (tgt := 160) hx hb dX10_layRatio_127 (by decide) (fun c13 => ?_) (fun c13 => ?_)
    · skip
      have ic13 := tn_lt rfl kI_0 c13
      exact J160 H locs ls r9 r12 hG (lv_sub hl [2, 3, 4, 1, 0] rfl) (by omega) (by omega) (by omega) (by omega)
    · skip
      have ic13 := tn_nlt rfl kI_0 c13
      refine lv_aload_n hx hb dX10_layRatio_130 rfl (lv_at hl 2 rfl) ?_
      refine mc_getr E hG t0 mr_42 dX10_layRatio_131 (fun oa14 hoa14 => ?_)
      refine lv_iload_n hx hb dX10_layRatio_134 rfl (lv_at hl 3 rfl) ?_
      refine mc_iald E hG hoa14 ma_11 (t_in (by omega) (by omega)) dX10_layRatio_135 (fun z15 lz15 uz15 qz15 => ?_)
      have wz15 := kq qz15 (PC_11)
      refine lv_if_ne (tgt := 160) hx hb dX10_layRatio_136 (by decide) (fun c16 => ?_) (fun c16 => ?_)
      · skip
        have ic16 := tn_ne rfl kI_0 c16
        exact J160 H locs ls r9 r12 hG (lv_sub hl [2, 3, 4, 1, 0] rfl) (by omega) (by omega) (by omega) (by omega)
      · skip
        have ic16 := tn_eq rfl kI_0 c16
        refine lv_aload_n hx hb dX10_layRatio_139 rfl (lv_at hl 2 rfl) ?_
        refine mc_getr E hG t0 mr_42 dX10_layRatio_140 (fun oa17 hoa17 => ?_)
        refine lv_iload_n hx hb dX10_layRatio_143 rfl (lv_at hl 3 rfl) ?_
        refine lv_iconst (v := 1) hx hb dX10_layRatio_144 (by decide) ?_
        refine mc_iastX E hG hoa17 ma_11.1 ma_11.2.1 (ma_11.2.2 _) (t_in (by omega) (by omega)) (by decide) (by decide) dX10_layRatio_145 (fun H locs hG => ?_)
        have hG := kO_set (PC_11) hG
        obtain ⟨F18, eF18⟩ : ∃ Z : mF, Z = up2 Fa 11 (x1).toNatClampNeg (1 : Int32) := ⟨_, rfl⟩
        rw [← eF18] at hG
        refine lv_aload_n hx hb dX10_layRatio_146 rfl (lv_at hl 2 rfl) ?_
        refine lv_iload_n hx hb dX10_layRatio_147 rfl (lv_at hl 4 rfl) ?_
        refine lv_iload hx hb dX10_layRatio_148 (lv_at hl 1 rfl) ?_
        refine lv_iload hx hb dX10_layRatio_150 (lv_at hl 1 rfl) ?_
        refine lv_iload hx hb dX10_layRatio_152 (lv_at hl 0 rfl) ?_
        refine lv_iload hx hb dX10_layRatio_154 (lv_at hl 0 rfl) ?_
        refine mc_callvX hG (mc_runV (As := [.int x2, .int r9, .int r9, .int r12, .int r12]) (rest := []) E hG (c_X10_lay l G σ cu X F18 h0 x2 r9 r9 r12 r12 t0 (by omega) (by omega) (by omega) (by omega) (by omega) (by omega) (by omega) (by omega) (by omega) (by omega) hA (by rw [eF18, up2_ne (by omega)]; omega)) t0 rfl kv_X10_lay ml_X10_236 ⟨rfl, rfl, Nat.le_of_ble_eq_true rfl, Nat.le_of_ble_eq_true rfl⟩ rfl hl.1 rfl (Nat.le_of_ble_eq_true rfl) ⟨Nat.zero_le _, Nat.zero_le _⟩ dX10_layRatio_156) (fun Z H locs eZ pZ hG => ?_)
        obtain ⟨F20, rfl, pF20⟩ := pZ
        clear eZ
        have k21 := kI_1
        exact mc_vretX E hr hlk hG rfl ⟨_, rfl, Or.inr ⟨F18, (1 : Int32), x2, eF18, (by rw [← wz15]; omega), by omega, pF20, by omega, by omega, by omega⟩⟩ dX10_layRatio_159
  have J63 : ∀ (H : Heap) (locs : List Loc) (ls : Array Slot) (v3 : Int32) (v4 : Int32) (v5 : Int32) (v6 : Int32), mGH G (σ, cu, kO PC X Fa) s H locs → lv_has ls 8 [(0, .ref h0), (1, .int x1), (2, .int x2), (3, .int v3), (4, .int v4), (5, .int v5), (6, .int v6)] → 1 ≤ v3.toInt → v3.toInt ≤ 99 → 1 ≤ v4.toInt → v4.toInt ≤ 99 → 0 ≤ v5.toInt → v5.toInt ≤ 1000 → W p l e (tRm 3 67) s m ([.ref h0, .int x1, .int x2] : List Value).toArray below meth c H locs 0 0 (MQ below (mQvX G (σ, cu, kO PC X Fa) (fun Z => ∃ F : mF, Z = (σ, cu, kO PC X F) ∧ SP (t 3).toInt x1 Fa F)) ([.ref h0, .int x1, .int x2] : List Value).toArray s 0 0 (mA (σ, cu, kO PC X Fa))) (F0 m 63 ls []) := by
    intro H locs ls v3 v4 v5 v6 hG hl b3 c3 b4 c4 b5 c5
    refine lv_iload hx hb dX10_layRatio_63 (lv_at hl 6 rfl) ?_
    refine lv_iload hx hb dX10_layRatio_65 (lv_at hl 4 rfl) ?_
    refine lv_imul hx hb dX10_layRatio_67 ?_
    refine lv_topi (fun z22 ez22 => ?_)
    refine lv_iload_n hx hb dX10_layRatio_68 rfl (lv_at hl 3 rfl) ?_
    refine lv_idiv hx hb dX10_layRatio_69 (t_ne0 (by omega)) ?_
    refine lv_topi (fun z23 ez23 => ?_)
    refine lv_istore (lv' := [(7, .int z23), (0, .ref h0), (1, .int x1), (2, .int x2), (3, .int v3), (4, .int v4), (5, .int v5), (6, .int v6)]) hx hb dX10_layRatio_70 hl (by decide) rfl (fun ls hl => ?_)
    refine lv_iload hx hb dX10_layRatio_72 (lv_at hl 0 rfl) ?_
    refine lv_iload hx hb dX10_layRatio_74 (lv_at hl 6 rfl) ?_
    refine lv_icmp_le (tgt := 92) hx hb dX10_layRatio_76 (by decide) (fun c24 => ?_) (fun c24 => ?_)
    · skip
      have ic24 := tn_le rfl rfl c24
      exact J92 H locs ls v5 v6 z23 hG (lv_sub hl [1, 2, 3, 6, 7, 0] rfl) (by omega) (by omega) (by omega)
    · skip
      have ic24 := tn_nle rfl rfl c24
      refine lv_iload hx hb dX10_layRatio_79 (lv_at hl 6 rfl) ?_
      refine lv_istore (lv' := [(7, .int v5), (0, .ref h0), (1, .int x1), (2, .int x2), (3, .int v3), (4, .int v4), (5, .int v5), (6, .int v6)]) hx hb dX10_layRatio_81 hl (by decide) rfl (fun ls hl => ?_)
      refine lv_iload hx hb dX10_layRatio_83 (lv_at hl 0 rfl) ?_
      refine lv_iload_n hx hb dX10_layRatio_85 rfl (lv_at hl 4 rfl) ?_
      refine lv_imul hx hb dX10_layRatio_86 ?_
      refine lv_topi (fun z25 ez25 => ?_)
      have tz25 := tn_mulb (a := 1000) (b := 99) ez25 (by omega) (by omega) (by omega) (by omega) (by decide)
      refine lv_iload hx hb dX10_layRatio_87 (lv_at hl 5 rfl) ?_
      refine lv_idiv hx hb dX10_layRatio_89 (t_ne0 (by omega)) ?_
      refine lv_topi (fun z26 ez26 => ?_)
      refine lv_istore (lv' := [(6, .int z26), (7, .int v5), (0, .ref h0), (1, .int x1), (2, .int x2), (3, .int v3), (4, .int v4), (5, .int v5)]) hx hb dX10_layRatio_90 hl (by decide) rfl (fun ls hl => ?_)
      exact J92 H locs ls v5 z26 v5 hG (lv_sub hl [2, 3, 4, 7, 0, 1] rfl) (by omega) (by omega) (by omega)
  have J61 : ∀ (H : Heap) (locs : List Loc) (ls : Array Slot) (v3 : Int32) (v4 : Int32) (v5 : Int32) (vs0 : Int32), mGH G (σ, cu, kO PC X Fa) s H locs → lv_has ls 8 [(0, .ref h0), (1, .int x1), (2, .int x2), (3, .int v3), (4, .int v4), (5, .int v5)] → 1 ≤ v3.toInt → v3.toInt ≤ 99 → 1 ≤ v4.toInt → v4.toInt ≤ 99 → 0 ≤ v5.toInt → v5.toInt ≤ 1000 → W p l e (tRm 3 67) s m ([.ref h0, .int x1, .int x2] : List Value).toArray below meth c H locs 0 0 (MQ below (mQvX G (σ, cu, kO PC X Fa) (fun Z => ∃ F : mF, Z = (σ, cu, kO PC X F) ∧ SP (t 3).toInt x1 Fa F)) ([.ref h0, .int x1, .int x2] : List Value).toArray s 0 0 (mA (σ, cu, kO PC X Fa))) (F0 m 61 ls [.int vs0]) := by
    intro H locs ls v3 v4 v5 vs0 hG hl b3 c3 b4 c4 b5 c5
    refine lv_istore (lv' := [(6, .int vs0), (0, .ref h0), (1, .int x1), (2, .int x2), (3, .int v3), (4, .int v4), (5, .int v5)]) hx hb dX10_layRatio_61 hl (by decide) rfl (fun ls hl => ?_)
    exact J63 H locs ls v3 v4 v5 vs0 hG (lv_sub hl [1, 2, 3, 4, 5, 6, 0] rfl) (by omega) (by omega) (by omega) (by omega) (by omega) (by omega)
  refine lv_aload_n hx hb dX10_layRatio_0 rfl (lv_at hl 0 rfl) ?_
  refine lv_iload_n hx hb dX10_layRatio_1 rfl (lv_at hl 1 rfl) ?_
  refine lv_iconst (v := 2) hx hb dX10_layRatio_2 (by decide) ?_
  refine tc_callp (mc_runV (As := [.int x1, .int 2]) (rest := []) E hG (c_X10_get l G (σ, cu, kO PC X Fa) h0 x1 (2 : Int32) t0 (by omega) (by omega) (by decide) (by decide)) t0 rfl kv_X10_get ml_X10_91 ⟨rfl, rfl, Nat.le_of_ble_eq_true rfl, Nat.le_of_ble_eq_true rfl⟩ rfl hl.1 rfl (Nat.le_of_ble_eq_true rfl) ⟨Nat.zero_le _, Nat.zero_le _⟩ dX10_layRatio_3) (fun r27 pr27 => ?_)
  replace pr27 : mV (σ, cu, kO PC X Fa) (ix x1.toInt (2 : Int32).toInt) r27 := pr27
  have pr27 := mV_l pr27 kI_2
  have br27 := mV_2 pr27 (by omega)
  have cr27 := mT pr27 (kO_TI (PC_tr hcu) hT) (by omega) (by omega) (by decide) (by decide)
  have k28 := kI_2
  refine lv_istore_n (lv' := [(3, .int r27), (0, .ref h0), (1, .int x1), (2, .int x2)]) hx hb dX10_layRatio_6 rfl hl (by decide) rfl (fun ls hl => ?_)
  refine lv_aload_n hx hb dX10_layRatio_7 rfl (lv_at hl 1 rfl) ?_
  refine lv_iload_n hx hb dX10_layRatio_8 rfl (lv_at hl 2 rfl) ?_
  refine lv_iconst (v := 3) hx hb dX10_layRatio_9 (by decide) ?_
  refine tc_callp (mc_runV (As := [.int x1, .int 3]) (rest := []) E hG (c_X10_get l G (σ, cu, kO PC X Fa) h0 x1 (3 : Int32) t0 (by omega) (by omega) (by decide) (by decide)) t0 rfl kv_X10_get ml_X10_91 ⟨rfl, rfl, Nat.le_of_ble_eq_true rfl, Nat.le_of_ble_eq_true rfl⟩ rfl hl.1 rfl (Nat.le_of_ble_eq_true rfl) ⟨Nat.zero_le _, Nat.zero_le _⟩ dX10_layRatio_10) (fun r29 pr29 => ?_)
  replace pr29 : mV (σ, cu, kO PC X Fa) (ix x1.toInt (3 : Int32).toInt) r29 := pr29
  have pr29 := mV_l pr29 kI_3
  have br29 := mV_3 pr29 (by omega)
  have cr29 := mT pr29 (kO_TI (PC_tr hcu) hT) (by omega) (by omega) (by decide) (by decide)
  have k30 := kI_3
  refine lv_istore (lv' := [(4, .int r29), (3, .int r27), (0, .ref h0), (1, .int x1), (2, .int x2)]) hx hb dX10_layRatio_13 hl (by decide) rfl (fun ls hl => ?_)
  refine lv_aload_n hx hb dX10_layRatio_15 rfl (lv_at hl 2 rfl) ?_
  refine lv_iload_n hx hb dX10_layRatio_16 rfl (lv_at hl 3 rfl) ?_
  refine lv_iconst (v := 1) hx hb dX10_layRatio_17 (by decide) ?_
  refine tc_callp (mc_runV (As := [.int x1, .int 1]) (rest := []) E hG (c_X10_most l G (σ, cu, kO PC X Fa) h0 x1 (1 : Int32) t0 (by omega) (by omega) (by decide) (by decide)) t0 rfl kv_X10_most ml_X10_227 ⟨rfl, rfl, Nat.le_of_ble_eq_true rfl, Nat.le_of_ble_eq_true rfl⟩ rfl hl.1 rfl (Nat.le_of_ble_eq_true rfl) ⟨Nat.zero_le _, Nat.zero_le _⟩ dX10_layRatio_18) (fun r31 pr31 => ?_)
  replace pr31 : 0 ≤ r31.toInt ∧ r31.toInt ≤ 1000 := pr31
  have k32 := kI_1
  refine lv_istore (lv' := [(5, .int r31), (4, .int r29), (3, .int r27), (0, .ref h0), (1, .int x1), (2, .int x2)]) hx hb dX10_layRatio_21 hl (by decide) rfl (fun ls hl => ?_)
  refine lv_aload_n hx hb dX10_layRatio_23 rfl (lv_at hl 3 rfl) ?_
  refine lv_iload_n hx hb dX10_layRatio_24 rfl (lv_at hl 4 rfl) ?_
  refine lv_iconst (v := 0) hx hb dX10_layRatio_25 (by decide) ?_
  refine tc_callp (mc_runV (As := [.int x1, .int 0]) (rest := []) E hG (c_X10_most l G (σ, cu, kO PC X Fa) h0 x1 (0 : Int32) t0 (by omega) (by omega) (by decide) (by decide)) t0 rfl kv_X10_most ml_X10_227 ⟨rfl, rfl, Nat.le_of_ble_eq_true rfl, Nat.le_of_ble_eq_true rfl⟩ rfl hl.1 rfl (Nat.le_of_ble_eq_true rfl) ⟨Nat.zero_le _, Nat.zero_le _⟩ dX10_layRatio_26) (fun r33 pr33 => ?_)
  replace pr33 : 0 ≤ r33.toInt ∧ r33.toInt ≤ 1000 := pr33
  have k34 := kI_0
  refine lv_istore (lv' := [(6, .int r33), (5, .int r31), (4, .int r29), (3, .int r27), (0, .ref h0), (1, .int x1), (2, .int x2)]) hx hb dX10_layRatio_29 hl (by decide) rfl (fun ls hl => ?_)
  refine lv_iload hx hb dX10_layRatio_31 (lv_at hl 0 rfl) ?_
  refine lv_sipush (v := 1000) hx hb dX10_layRatio_33 (by decide) ?_
  refine lv_icmp_ne (tgt := 63) hx hb dX10_layRatio_36 (by decide) (fun c35 => ?_) (fun c35 => ?_)
  · skip
    have ic35 := tn_ne rfl kI_1000 c35
    exact J63 H locs ls r27 r29 r31 r33 hG (lv_sub hl [4, 5, 6, 3, 2, 1, 0] rfl) (by omega) (by omega) (by omega) (by omega) (by omega) (by omega)
  · skip
    have ic35 := tn_eq rfl kI_1000 c35
    refine lv_iload hx hb dX10_layRatio_39 (lv_at hl 1 rfl) ?_
    refine lv_sipush (v := 1000) hx hb dX10_layRatio_41 (by decide) ?_
    refine lv_icmp_ne (tgt := 54) hx hb dX10_layRatio_44 (by decide) (fun c36 => ?_) (fun c36 => ?_)
    · skip
      have ic36 := tn_ne rfl kI_1000 c36
      refine lv_iload hx hb dX10_layRatio_54 (lv_at hl 1 rfl) ?_
      refine lv_iload_n hx hb dX10_layRatio_56 rfl (lv_at hl 3 rfl) ?_
      refine lv_imul hx hb dX10_layRatio_57 ?_
      refine lv_topi (fun z37 ez37 => ?_)
      have tz37 := tn_mulb (a := 999) (b := 99) ez37 (by omega) (by omega) (by omega) (by omega) (by decide)
      refine lv_iload hx hb dX10_layRatio_58 (lv_at hl 2 rfl) ?_
      refine lv_idiv hx hb dX10_layRatio_60 (t_ne0 (by omega)) ?_
      refine lv_topi (fun z38 ez38 => ?_)
      exact J61 H locs ls r27 r29 r31 z38 hG (lv_sub hl [4, 5, 6, 3, 2, 1] rfl) (by omega) (by omega) (by omega) (by omega) (by omega) (by omega)
    · skip
      have ic36 := tn_eq rfl kI_1000 c36
      refine lv_bipush (v := 10) hx hb dX10_layRatio_47 (by decide) ?_
      refine lv_iload_n hx hb dX10_layRatio_49 rfl (lv_at hl 3 rfl) ?_
      refine lv_imul hx hb dX10_layRatio_50 ?_
      refine lv_topi (fun z39 ez39 => ?_)
      have tz39 := tn_mul ez39 kI_10 rfl (by omega) (by omega)
      refine lv_goto (tgt := 61) hx hb dX10_layRatio_51 (by decide) ?_
      exact J61 H locs ls r27 r29 r31 z39 hG (lv_sub hl [4, 5, 6, 3, 2, 1] rfl) (by omega) (by omega) (by omega) (by omega) (by omega) (by omega)

