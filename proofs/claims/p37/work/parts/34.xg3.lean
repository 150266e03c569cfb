/-! ===== the Reader gets its letters ===== -/
def gL (G : tG) : tG := (G.1, G.2.1, (fun i => if i = 9 then 1 else G.2.2.1 i), G.2.2.2)
theorem gL_9 {G : tG} : (gL G).2.2.1 9 = 1 := rfl
theorem gL_n {G : tG} {i : Nat} (h : ¬ i = 9) : (gL G).2.2.1 i = G.2.2.1 i := if_neg h
theorem tAt_gL {G : tG} {sh : tSH} {q : Nat} {H : Heap} : tAt (gL G) sh q H = tAt G sh q H := by
  obtain ⟨z, P⟩ := sh
  cases z <;> rfl
theorem TH_gL {G : tG} {Γ : Nat → Option tSH} {H : Heap} : TH (gL G) Γ H = TH G Γ H := by
  unfold TH
  simp only [tAt_gL]
theorem tE.gl {G : tG} {p : Program} {s : State} {m : MethodId} {c : Code} {args : Array Value} {own : String} {cc : ByteArray} {nL : Nat} (E : tE G p s m c args own cc nL) : tE (gL G) p s m c args own cc nL := E
theorem tSt.gl {G : tG} {A : Nat → Prop} {V : State} (h : tSt G A V) : tSt (gL G) A V := by
  obtain ⟨h1, h2, h3, h4, h5, h6⟩ := h
  refine ⟨fun i hi => ?_, h2, h3, h4, h5, h6⟩
  rw [gL_n (by omega)]
  exact h1 i hi
theorem tKn_gl {G : tG} {t a k : Nat} {v : Value} (h : tKn (gL G) t a k v) : tKn G t a k v := ⟨h.1, h.2.1, fun h1 h2 h3 => by
  have h4 := h.2.2 h1 (fun e => by rw [h2 e]; rfl) (fun e => rfl)
  rw [h4, gL_n (show ¬ 10 + k = 9 by omega)]⟩
theorem tGH.unl {G : tG} {τ : Nat → Nat} {s : State} {H : Heap} {locs : List Loc} (h : tGH (gL G) τ s H locs) : tGH G τ s H locs := by
  refine ⟨?_, h.2⟩
  have h1 := h.1
  rw [TH_gL] at h1
  exact TH.mk (fun q hq => (h1.at hq).to (fun j v hv => ⟨hv.1, tKn_gl hv.2⟩))
section TXM
variable {p : Program} {l : Launch} {e : Env} {R : Room} {s : State} {m : MethodId} {args : Array Value} {below : List Frame} {meth : Method} {c : Code} {H : Heap} {locs : List Loc} {Q : State → Prop}
variable {cc : ByteArray} {pc : Nat} {ls : Array Slot} {rest : List Value} {a index : Nat} {G : tG} {own : String} {nL : Nat} {τ : Nat → Nat} {cells slots : Nat}
theorem tc_putL (E : tE G p s m c args own cc nL) (hG : tGH G τ s H locs) (ha : τ a = 7) (hu : ∀ q, τ q = 7 → q = a) (hL : τ (G.2.2.1 16) = 18) {b : Nat} (hbe : b = G.2.2.1 16) (hf : tFp own index 4 6 (.array .char)) (hdg : decode cc pc = .ok (.putfield index, 3))
    (kk : ∀ (H1 : Heap) (locs1 : List Loc), tGH (gL G) τ s H1 locs1 → W p l e R s m args below meth c H1 locs1 cells slots Q (F0 m (pc + 3) ls rest)) : W p l e R s m args below meth c H locs cells slots Q (F0 m pc ls (.ref b :: .ref a :: rest)) := by
  subst hbe
  have hΓ := tΓ_at (G := G) ha (by decide)
  refine tg_put E hG.1 hΓ hf rfl rfl hdg (fun H1 i z oq hat => kk H1 _ ⟨?_, hG.2.put z oq (show τ a ≠ 0 by rw [ha]; decide)⟩)
  rw [TH_gL]
  refine TH.mk (fun q hq => ?_)
  by_cases e9 : q = a
  · subst e9
    rw [ha]
    refine hat _ ⟨Or.inr ⟨_, rfl, hL⟩, (show tKn (gL G) 7 q 6 _ from ⟨fun h => absurd h (by decide), fun d h => (by simp [tMr] at h), fun _ _ _ => rfl⟩)⟩ (fun j w hj hw => ⟨hw.1, (show tKn (gL G) 7 q j _ from ⟨hw.2.1, hw.2.2.1, fun h1 h2 h3 => ?_⟩)⟩)
    exfalso
    have h1 : (((7 : Nat) == 1 && (j == 0 || j == 1 || j == 4 || j == 6)) || ((7 : Nat) == 7 && j == 6)) = true := h1
    simp at h1
    exact hj h1
  · refine ((hG.1.at hq).kept (oq q e9)).to (fun j v hv => ⟨hv.1, (show tKn (gL G) _ q j _ from ⟨hv.2.1, hv.2.2.1, fun h1 h2 h3 => ?_⟩)⟩)
    have h7 : ¬ τ q = 7 := fun e => e9 (hu q e)
    rw [hv.2.2.2 h1 (fun e => by rw [h2 e]; rfl) (fun e => absurd e h7), gL_n (show ¬ 10 + j = 9 by omega)]
end TXM
theorem FIv_0 {L : Nat → Int} {F F1 : mF} {h : Nat} {len left : Int32} (e : F1 = up2 (up2 (up2 (up2 (up2 F h 7 len) h 8 left) h 9 0) h 5 0) h 10 0) : FIv L F F1 h len left 0 (-1) := by
  have k : ∀ c k, ¬ c = h → F1 c k = F c k := fun c k hc => by rw [e, up2_ne (by omega), up2_ne (by omega), up2_ne (by omega), up2_ne (by omega), up2_ne (by omega)]
  refine ⟨fun c j hc => k c j (by omega), ?_, ?_, ?_, ?_, ⟨?_, rfl⟩, fun j hj => by omega, fun j hj => by omega, by omega, by omega⟩
  · rw [e, up2_ne (by omega), up2_ne (by omega), up2_ne (by omega), up2_ne (by omega), up2_at]
  · rw [e, up2_ne (by omega), up2_ne (by omega), up2_ne (by omega), up2_at]
  · rw [e, up2_at]
  · rw [e, up2_ne (by omega), up2_at]; rfl
  · rw [e, up2_ne (by omega), up2_ne (by omega), up2_at]; rfl

set_option maxHeartbeats 4000000 in
set_option maxRecDepth 100000 in
theorem x_X5_faultOf (l : Launch) (G0 : tG) (F : mF) (τ : Nat → Nat) (h0 : Nat) (h1 : Nat) (x2 : Int32) (x3 : Int32) (t0 : τ h0 = 7) (t1 : τ h1 = 18) (l2 : 0 ≤ x2.toInt) (u2 : x2.toInt ≤ 120)  (hu : ∀ q, τ q = 7 → q = h0) (hL : τ (G0.2.2.1 16) = 18) (hrow : h1 = G0.2.2.1 16) (hLr : G0.2.2.1 16 < h0 ∨ h0 + 30 ≤ G0.2.2.1 16) : Met l yX5_faultOf (.code yX5_faultOf cX5_faultOf 6 (some .int) :: tWS) (tRm 7 156) (va_Pc [.ref h0, .ref h1, .int x2, .int x3] (tPre (gF G0 F) τ)) (tQF G0 τ (fun r F9 => ((r.toInt = -1 ∧ FRM F F9 h0 ∧ ∃ n, FOk (LF F (G0.2.2.1 16)) F9 h0 x2.toInt x3.toInt n) ∨ (0 ≤ r.toInt ∧ r.toInt ≤ 120 ∧ FRM F F9 h0 ∧ RDbd (LF F (G0.2.2.1 16)) x2.toInt x3.toInt r.toInt)))) 0 0 (tA τ) := by
  refine tc_met (by decide) (Nat.le_of_ble_eq_true rfl) ?_
  intro p e s m below meth c E hSt hr hlk hG ls hl
  have hl : lv_has ls 6 [(0, .ref h0), (1, .ref h1), (2, .int x2), (3, .int x3)] := hl
  have hx := E.1
  have hb := E.2.1
  obtain ⟨H, eH⟩ : ∃ H, H = s.heap := ⟨_, rfl⟩
  obtain ⟨locs, eL⟩ : ∃ x : List Loc, x = [] := ⟨_, rfl⟩
  have hG : tGH (gF G0 F) τ s H locs := by rw [eH, eL]; exact hG
  suffices hW : W p l e (tRm 7 156) s m ([.ref h0, .ref h1, .int x2, .int x3] : List Value).toArray below meth c H locs 0 0 (MQ below (tQF G0 τ (fun r F9 => ((r.toInt = -1 ∧ FRM F F9 h0 ∧ ∃ n, FOk (LF F (G0.2.2.1 16)) F9 h0 x2.toInt x3.toInt n) ∨ (0 ≤ r.toInt ∧ r.toInt ≤ 120 ∧ FRM F F9 h0 ∧ RDbd (LF F (G0.2.2.1 16)) x2.toInt x3.toInt r.toInt)))) ([.ref h0, .ref h1, .int x2, .int x3] : List Value).toArray s 0 0 (tA τ)) (F0 m 0 ls []) by subst eH; subst eL; exact hW
  clear eH eL
  have E0 := E
  obtain ⟨G, eG⟩ : ∃ g : tG, g = gL G0 := ⟨_, rfl⟩
  have hgf : gF G F = gL (gF G0 F) := by rw [eG]; rfl
  have E := E.gl
  have hSt := tSt.gl hSt
  rw [← hgf] at E hSt
  have hL0 := hL
  have e16 : G0.2.2.1 16 = G.2.2.1 16 := by rw [eG]; rfl
  have h9 : G.2.2.1 9 = 1 := by rw [eG]; rfl
  rw [e16] at hL hLr
  rw [e16]
  have J41 : ∀ (n41 : Nat) (Fc : mF) (H : Heap) (locs : List Loc) (ls : Array Slot) (v4 : Int32) (v5 : Int32), tGH (gF G Fc) τ s H locs → lv_has ls 6 [(0, .ref h0), (4, .int v4), (5, .int v5)] → -1 ≤ v4.toInt → v4.toInt ≤ 23 → 0 ≤ v5.toInt → v5.toInt ≤ 24 → (FIv (LF F (G.2.2.1 16)) F Fc h0 x2 x3 v5.toInt.toNat v4.toInt) → (24 - v5.toInt).toNat < n41 → W p l e (tRm 7 156) s m ([.ref h0, .ref h1, .int x2, .int x3] : List Value).toArray below meth c H locs 0 0 (MQ below (tQF G0 τ (fun r F9 => ((r.toInt = -1 ∧ FRM F F9 h0 ∧ ∃ n, FOk (LF F (G.2.2.1 16)) F9 h0 x2.toInt x3.toInt n) ∨ (0 ≤ r.toInt ∧ r.toInt ≤ 120 ∧ FRM F F9 h0 ∧ RDbd (LF F (G.2.2.1 16)) x2.toInt x3.toInt r.toInt)))) ([.ref h0, .ref h1, .int x2, .int x3] : List Value).toArray s 0 0 (tA τ)) (F0 m 41 ls []) := by
    intro n41
    induction n41 with
    | zero => intro Fc H locs ls v4 v5 hG hl b4 c4 b5 c5 hex41 hn41; exact absurd hn41 (Nat.not_lt_zero _)
    | succ n41 ih41 =>
      intro Fc H locs ls v4 v5 hG hl b4 c4 b5 c5 hex41 hn41
      have E := E.f1 (F' := Fc)
      have hSt := hSt.f1 (F' := Fc)
      have hI := hex41
      have f7 : Fc h0 7 = x2 := hI.2.1
      have f8 : Fc h0 8 = x3 := hI.2.2.1
      have f10 : Fc h0 10 = 0 := hI.2.2.2.1
      have f5 := hI.2.2.2.2.1
      have h7 : (Fc h0 7).toInt ≤ 120 := by rw [f7]; omega
      have gp := hI.2.2.2.2.2.2.2.2.2
      have fL : LF Fc (G.2.2.1 16) = LF F (G.2.2.1 16) := funext fun j => (by unfold LF; rw [hI.1 _ _ (by omega)])
      refine lv_iload hx hb dX5_faultOf_41 (lv_at hl 2 rfl) ?_
      refine lv_bipush (v := 24) hx hb dX5_faultOf_43 (by decide) ?_
      refine lv_icmp_ge (tgt := 107) hx hb dX5_faultOf_45 (by decide) (fun c1 => ?_) (fun c1 => ?_)
      · skip
        have ic1 := tn_le kI_24 rfl c1
        refine lv_aload_n hx hb dX5_faultOf_107 rfl (lv_at hl 0 rfl) ?_
        refine tc_getF E hG t0 fi_X5_46 rfl dX5_faultOf_108 (fun z2 lz2 uz2 wz2 => ?_)
        replace wz2 : z2 = Fc h0 9 := wz2
        have cz2 : z2.toInt = (Fc h0 9).toInt := by rw [wz2]
        replace hG : tGH (gF G0 Fc) τ s H locs := by rw [eG] at hG; exact tGH.unl hG
        have E := E0.f1 (F' := Fc)
        exact tc_iretF (G := G0) E hr hlk hG rfl (Or.inr ⟨by omega, by omega, hI.1, (by rw [cz2]; exact FIv_bad hI (Or.inl ⟨fun h9_ => (by have := h9_.2.2; omega), rfl⟩))⟩) dX5_faultOf_111
      · skip
        have ic1 := tn_nle kI_24 rfl c1
        refine lv_aload_n hx hb dX5_faultOf_48 rfl (lv_at hl 0 rfl) ?_
        refine lv_iload hx hb dX5_faultOf_49 (lv_at hl 1 rfl) ?_
        refine tc_calliF hG (tc_runV (As := [.int v4]) (rest := []) E hSt hG (x_X5_readBox l G Fc τ h0 v4 t0 (by omega) (by omega) hL h9 hLr h7 (by omega)) t0 rv_7 kv_X5_readBox ml_X5_56 ⟨rfl, rfl, Nat.le_of_ble_eq_true rfl, Nat.le_of_ble_eq_true rfl⟩ rfl hl.1 rfl (Nat.le_of_ble_eq_true rfl) ⟨Nat.zero_le _, Nat.zero_le _⟩ dX5_faultOf_51) (fun r3 F4 H locs pr3 hG => ?_)
        have E := E.f1 (F' := F4)
        have hSt := hSt.f1 (F' := F4)
        replace pr3 : (r3.toInt = 1 ∧ ∃ (kd : Int32) (f : Nat → Int32) (sv q : Int32), F4 = bxF Fc h0 (Fc h0 5).toInt.toNat kd v4 f sv q ∧ BXok (LF Fc (G.2.2.1 16)) (Fc h0 7).toInt (Fc h0 8).toInt (Fc h0 5).toInt (Fc h0 9).toInt v4.toInt (LF Fc (h0 + 1)) (LF Fc (h0 + 4)) kd.toInt (fun j => (f j).toInt) sv.toInt q.toInt) ∨ (r3.toInt = 0 ∧ FRM Fc F4 h0 ∧ BXbad (LF Fc (G.2.2.1 16)) (Fc h0 7).toInt (Fc h0 8).toInt (Fc h0 5).toInt (Fc h0 9).toInt v4.toInt (LF Fc (h0 + 1)) (LF Fc (h0 + 4)) (F4 h0 9).toInt) := pr3
        refine lv_if_ne (tgt := 62) hx hb dX5_faultOf_54 (by decide) (fun c5 => ?_) (fun c5 => ?_)
        · skip
          have ic5 := tn_ne rfl kI_0 c5
          have h9_ := pr3.resolve_right (fun h8_ => absurd h8_.1 (by omega))
          obtain ⟨_, kd, f, sv, q, eF4, hBX⟩ := h9_
          rw [f7, f8, fL, f5] at hBX
          rw [f5, show ((v5.toInt.toNat : Nat) : Int).toNat = v5.toInt.toNat from Int.toNat_natCast _] at eF4
          have hB : FBx (LF F (G.2.2.1 16)) F F4 h0 x2 x3 v5.toInt.toNat v4.toInt := FIv_box hI (by omega) rfl eF4 hBX
          have f7 : F4 h0 7 = x2 := hB.2.1
          have f10 : F4 h0 10 = 0 := hB.2.2.2.1
          have f5 := hB.2.2.2.2.1
          have h7 : (F4 h0 7).toInt ≤ 120 := by rw [f7]; omega
          have hPB := hB.2.2.2.2.2.2.2.1
          have fL : LF F4 (G.2.2.1 16) = LF F (G.2.2.1 16) := funext fun j => (by unfold LF; rw [hB.1 _ _ (by omega)])
          have hPQ : ∀ j : Nat, (j : Int) < (F4 h0 5).toInt → (F4 (h0 + 2) j).toInt < j := fun j hj => (hPB j (by omega)).2
          refine lv_aload_n hx hb dX5_faultOf_62 rfl (lv_at hl 0 rfl) ?_
          refine tc_calliF hG (tc_runV (As := []) (rest := []) E hSt hG (x_X5_parentOfNext l G F4 τ h0 t0 hL h9 hLr h7 (by omega) (by omega) hPQ) t0 rv_7 kv_X5_parentOfNext ml_X5_60 ⟨rfl, rfl, Nat.le_of_ble_eq_true rfl, Nat.le_of_ble_eq_true rfl⟩ rfl hl.1 rfl (Nat.le_of_ble_eq_true rfl) ⟨Nat.zero_le _, Nat.zero_le _⟩ dX5_faultOf_63) (fun r6 F7 H locs pr6 hG => ?_)
          have E := E.f1 (F' := F7)
          have hSt := hSt.f1 (F' := F7)
          replace pr6 : ∃ q w : Int32, F7 = up2 (up2 F4 h0 9 q) h0 10 w ∧ ((0 ≤ r6.toInt ∧ w = F4 h0 10 ∧ PNgo (LF F4 (G.2.2.1 16)) (F4 h0 7).toInt (LF F4 (h0 + 2)) (F4 h0 5).toInt (F4 h0 9).toInt r6.toInt q.toInt) ∨ (r6.toInt = -1 ∧ ((w = 1 ∧ PNend (LF F4 (G.2.2.1 16)) (F4 h0 7).toInt (LF F4 (h0 + 2)) (F4 h0 5).toInt (F4 h0 9).toInt q.toInt) ∨ (w = F4 h0 10 ∧ PNbad (LF F4 (G.2.2.1 16)) (F4 h0 7).toInt (LF F4 (h0 + 2)) (F4 h0 5).toInt (F4 h0 9).toInt q.toInt)))) := pr6
          obtain ⟨qr6, wr6, eF7, nr6⟩ := pr6
          rw [fL, f7, f5] at nr6
          have u9r6 : r6.toInt ≤ 23 := by rcases nr6 with n9 | n9; (have h9_ := (FBx_go hB eF7 n9.2.1 n9.1 n9.2.2).2.2.2.2.2.2.2.2.2; omega); omega
          have i9r6 : F7 h0 9 = qr6 := by rw [eF7, up2_ne (by omega), up2_at]
          have i10r6 : F7 h0 10 = wr6 := by rw [eF7, up2_at]
          have i7r6 : F7 h0 7 = x2 := by rw [eF7, up2_ne (by omega), up2_ne (by omega), f7]
          refine lv_istore (lv' := [(4, .int r6), (0, .ref h0), (5, .int v5)]) hx hb dX5_faultOf_66 hl (by decide) rfl (fun ls hl => ?_)
          refine lv_iload hx hb dX5_faultOf_68 (lv_at hl 0 rfl) ?_
          refine lv_iconst (v := -1) hx hb dX5_faultOf_70 (by decide) ?_
          refine lv_icmp_ne (tgt := 101) hx hb dX5_faultOf_71 (by decide) (fun c8 => ?_) (fun c8 => ?_)
          · skip
            have ic8 := tn_ne rfl kI_m1 c8
            obtain ⟨z9, ez9⟩ : ∃ y : Int32, y = v5 + (1) := ⟨_, rfl⟩
            refine lv_iinc (v := z9) (lv' := [(5, .int z9), (4, .int r6), (0, .ref h0)]) hx hb dX5_faultOf_101 hl (k := 2) rfl (by rw [ez9]; rfl) (by decide) rfl (fun ls hl => ?_)
            have tz9 := tn_add ez9 rfl kI_1 (by omega) (by omega)
            refine lv_goto (tgt := 41) hx hb dX5_faultOf_104 (by decide) ?_
            exact ih41 F7 H locs ls r6 z9 hG (lv_sub hl [2, 1, 0] rfl) (by omega) (by omega) (by omega) (by omega) (by rw [show z9.toInt.toNat = v5.toInt.toNat + 1 by omega]; rcases nr6 with n9 | n9; exact FBx_go hB eF7 n9.2.1 n9.1 n9.2.2; exfalso; omega) (by omega)
          · skip
            have ic8 := tn_eq rfl kI_m1 c8
            refine lv_aload_n hx hb dX5_faultOf_74 rfl (lv_at hl 1 rfl) ?_
            refine tc_getF E hG t0 fi_X5_52 rfl dX5_faultOf_75 (fun z10 lz10 uz10 wz10 => ?_)
            replace wz10 : z10 = F7 h0 10 := wz10
            have cz10 : z10.toInt = (F7 h0 10).toInt := by rw [wz10]
            refine lv_if_eq (tgt := 96) hx hb dX5_faultOf_78 (by decide) (fun c11 => ?_) (fun c11 => ?_)
            · skip
              have ic11 := tn_eq rfl kI_0 c11
              refine lv_aload_n hx hb dX5_faultOf_96 rfl (lv_at hl 1 rfl) ?_
              refine tc_getF E hG t0 fi_X5_46 rfl dX5_faultOf_97 (fun z12 lz12 uz12 wz12 => ?_)
              replace wz12 : z12 = F7 h0 9 := wz12
              have cz12 : z12.toInt = (F7 h0 9).toInt := by rw [wz12]
              replace hG : tGH (gF G0 F7) τ s H locs := by rw [eG] at hG; exact tGH.unl hG
              have E := E0.f1 (F' := F7)
              exact tc_iretF (G := G0) E hr hlk hG rfl (by have e9_ : z12.toInt = qr6.toInt := (by grind); refine Or.inr ⟨by omega, by omega, (fun c k hc => (by rw [eF7, up2_ne (by omega), up2_ne (by omega)]; exact hB.1 c k hc)), ?_⟩; rw [e9_]; refine FBx_bad hB ?_; rcases nr6 with n9 | ⟨_, ⟨nw, n9⟩ | ⟨nw, n9⟩⟩; (exfalso; omega); exact Or.inr ⟨n9, (by grind)⟩; exact Or.inl n9) dX5_faultOf_100
            · skip
              have ic11 := tn_ne rfl kI_0 c11
              refine lv_aload_n hx hb dX5_faultOf_81 rfl (lv_at hl 1 rfl) ?_
              refine tc_getF E hG t0 fi_X5_46 rfl dX5_faultOf_82 (fun z13 lz13 uz13 wz13 => ?_)
              replace wz13 : z13 = F7 h0 9 := wz13
              have cz13 : z13.toInt = (F7 h0 9).toInt := by rw [wz13]
              refine lv_aload_n hx hb dX5_faultOf_85 rfl (lv_at hl 1 rfl) ?_
              refine tc_getF E hG t0 fi_X5_39 rfl dX5_faultOf_86 (fun z14 lz14 uz14 wz14 => ?_)
              replace wz14 : z14 = F7 h0 7 := wz14
              have cz14 : z14.toInt = (F7 h0 7).toInt := by rw [wz14]
              refine lv_icmp_ne (tgt := 96) hx hb dX5_faultOf_89 (by decide) (fun c15 => ?_) (fun c15 => ?_)
              · skip
                have ic15 := tn_ne rfl rfl c15
                refine lv_aload_n hx hb dX5_faultOf_96 rfl (lv_at hl 1 rfl) ?_
                refine tc_getF E hG t0 fi_X5_46 rfl dX5_faultOf_97 (fun z16 lz16 uz16 wz16 => ?_)
                replace wz16 : z16 = F7 h0 9 := wz16
                have cz16 : z16.toInt = (F7 h0 9).toInt := by rw [wz16]
                replace hG : tGH (gF G0 F7) τ s H locs := by rw [eG] at hG; exact tGH.unl hG
                have E := E0.f1 (F' := F7)
                exact tc_iretF (G := G0) E hr hlk hG rfl (by have e9_ : z16.toInt = qr6.toInt := (by grind); refine Or.inr ⟨by omega, by omega, (fun c k hc => (by rw [eF7, up2_ne (by omega), up2_ne (by omega)]; exact hB.1 c k hc)), ?_⟩; rw [e9_]; refine FBx_bad hB ?_; rcases nr6 with n9 | ⟨_, ⟨nw, n9⟩ | ⟨nw, n9⟩⟩; (exfalso; omega); exact Or.inr ⟨n9, (by grind)⟩; exact Or.inl n9) dX5_faultOf_100
              · skip
                have ic15 := tn_eq rfl rfl c15
                refine lv_iconst (v := -1) hx hb dX5_faultOf_92 (by decide) ?_
                refine lv_goto (tgt := 100) hx hb dX5_faultOf_93 (by decide) ?_
                replace hG : tGH (gF G0 F7) τ s H locs := by rw [eG] at hG; exact tGH.unl hG
                have E := E0.f1 (F' := F7)
                exact tc_iretF (G := G0) E hr hlk hG rfl (by rcases nr6 with n9 | ⟨_, ⟨nw, n9⟩ | ⟨nw, _⟩⟩; (exfalso; omega); (have e9_ : qr6.toInt = x2.toInt := (by grind); rw [e9_] at n9; have h9_ := FBx_ok hB eF7 n9; exact Or.inl ⟨by decide, h9_.1, _, h9_.2⟩); (exfalso; grind)) dX5_faultOf_100
        · skip
          have ic5 := tn_eq rfl kI_0 c5
          have h9_ := pr3.resolve_left (fun h8_ => absurd h8_.1 (by omega))
          obtain ⟨_, hfr, hbd⟩ := h9_
          rw [f7, f8, fL, f5] at hbd
          refine lv_aload_n hx hb dX5_faultOf_57 rfl (lv_at hl 0 rfl) ?_
          refine tc_getF E hG t0 fi_X5_46 rfl dX5_faultOf_58 (fun z17 lz17 uz17 wz17 => ?_)
          replace wz17 : z17 = F4 h0 9 := wz17
          have cz17 : z17.toInt = (F4 h0 9).toInt := by rw [wz17]
          replace hG : tGH (gF G0 F4) τ s H locs := by rw [eG] at hG; exact tGH.unl hG
          have E := E0.f1 (F' := F4)
          exact tc_iretF (G := G0) E hr hlk hG rfl (Or.inr ⟨by omega, by omega, (fun c k hc => (hfr c k hc).trans (hI.1 c k hc)), (by rw [cz17]; exact FIv_bad hI hbd)⟩) dX5_faultOf_61
  refine lv_aload_n hx hb dX5_faultOf_0 rfl (lv_at hl 0 rfl) ?_
  refine lv_aload_n hx hb dX5_faultOf_1 rfl (lv_at hl 1 rfl) ?_
  refine tc_putL (G := gF G0 F) E0 hG t0 hu hL0 hrow fq_X5_29 dX5_faultOf_2 (fun H locs hG => ?_)
  replace hG : tGH (gF G F) τ s H locs := by rw [eG]; exact hG
  refine lv_aload_n hx hb dX5_faultOf_5 rfl (lv_at hl 0 rfl) ?_
  refine lv_iload_n hx hb dX5_faultOf_6 rfl (lv_at hl 2 rfl) ?_
  refine lv_aload_n hx hb dX5_faultOf_7 rfl (lv_at hl 1 rfl) ?_
  refine tc_alen E hG t1 ta_18 rfl (v := 120) (by decide) dX5_faultOf_8 ?_
  refine tc_min (rest := [.ref h0]) E hl.1 ml_X5_33 kn_min1 kn_math kn_min2 ⟨Nat.le_of_ble_eq_true rfl, Nat.le_of_ble_eq_true rfl⟩ ⟨Nat.zero_le _, Nat.zero_le _⟩ dX5_faultOf_9 (fun z18 ez18 => ?_)
  have tz18 := tn_min ez18
  have kk19_ := kI_120
  refine tc_putF (lo := 0) (hi := 120) E hG t0 (by decide) rfl rfl fq_X5_39 (by omega) (by omega) rfl rfl dX5_faultOf_12 (fun H locs hG => ?_)
  obtain ⟨F20, eF20⟩ : ∃ Z : mF, Z = up2 F h0 7 z18 := ⟨_, rfl⟩
  replace hG : tGH (gF G F20) τ s H locs := by rw [eF20]; exact hG
  have E := E.f1 (F' := F20)
  have hSt := hSt.f1 (F' := F20)
  refine lv_aload_n hx hb dX5_faultOf_15 rfl (lv_at hl 0 rfl) ?_
  refine lv_iload_n hx hb dX5_faultOf_16 rfl (lv_at hl 3 rfl) ?_
  refine tc_putF (lo := -2147483648) (hi := 2147483647) E hG t0 (by decide) rfl rfl fq_X5_43 (t_any1 _) (t_any2 _) rfl rfl dX5_faultOf_17 (fun H locs hG => ?_)
  obtain ⟨F21, eF21⟩ : ∃ Z : mF, Z = up2 F20 h0 8 x3 := ⟨_, rfl⟩
  replace hG : tGH (gF G F21) τ s H locs := by rw [eF21]; exact hG
  have E := E.f1 (F' := F21)
  have hSt := hSt.f1 (F' := F21)
  refine lv_aload_n hx hb dX5_faultOf_20 rfl (lv_at hl 0 rfl) ?_
  refine lv_iconst (v := 0) hx hb dX5_faultOf_21 (by decide) ?_
  refine tc_putF (lo := 0) (hi := 120) E hG t0 (by decide) rfl rfl fq_X5_46 (by decide) (by decide) rfl rfl dX5_faultOf_22 (fun H locs hG => ?_)
  obtain ⟨F22, eF22⟩ : ∃ Z : mF, Z = up2 F21 h0 9 (0 : Int32) := ⟨_, rfl⟩
  replace hG : tGH (gF G F22) τ s H locs := by rw [eF22]; exact hG
  have E := E.f1 (F' := F22)
  have hSt := hSt.f1 (F' := F22)
  refine lv_aload_n hx hb dX5_faultOf_25 rfl (lv_at hl 0 rfl) ?_
  refine lv_iconst (v := 0) hx hb dX5_faultOf_26 (by decide) ?_
  refine tc_putF (lo := 0) (hi := 24) E hG t0 (by decide) rfl rfl fq_X5_49 (by decide) (by decide) rfl rfl dX5_faultOf_27 (fun H locs hG => ?_)
  obtain ⟨F23, eF23⟩ : ∃ Z : mF, Z = up2 F22 h0 5 (0 : Int32) := ⟨_, rfl⟩
  replace hG : tGH (gF G F23) τ s H locs := by rw [eF23]; exact hG
  have E := E.f1 (F' := F23)
  have hSt := hSt.f1 (F' := F23)
  refine lv_aload_n hx hb dX5_faultOf_30 rfl (lv_at hl 0 rfl) ?_
  refine lv_iconst (v := 0) hx hb dX5_faultOf_31 (by decide) ?_
  refine tc_putF (lo := 0) (hi := 1) E hG t0 (by decide) rfl rfl fq_X5_52 (by decide) (by decide) (t_nz (by decide) (by decide)).1 (t_nz (by decide) (by decide)).2 dX5_faultOf_32 (fun H locs hG => ?_)
  obtain ⟨F24, eF24⟩ : ∃ Z : mF, Z = up2 F23 h0 10 (0 : Int32) := ⟨_, rfl⟩
  replace hG : tGH (gF G F24) τ s H locs := by rw [eF24]; exact hG
  have E := E.f1 (F' := F24)
  have hSt := hSt.f1 (F' := F24)
  refine lv_iconst (v := -1) hx hb dX5_faultOf_35 (by decide) ?_
  refine lv_istore (lv' := [(4, .int (-1)), (0, .ref h0), (1, .ref h1), (2, .int x2), (3, .int x3)]) hx hb dX5_faultOf_36 hl (by decide) rfl (fun ls hl => ?_)
  refine lv_iconst (v := 0) hx hb dX5_faultOf_38 (by decide) ?_
  refine lv_istore (lv' := [(5, .int 0), (4, .int (-1)), (0, .ref h0), (1, .ref h1), (2, .int x2), (3, .int x3)]) hx hb dX5_faultOf_39 hl (by decide) rfl (fun ls hl => ?_)
  exact J41 ((24 - (0 : Int32).toInt).toNat + 1) F24 H locs ls (-1 : Int32) (0 : Int32) hG (lv_sub hl [2, 1, 0] rfl) (by decide) (by decide) (by decide) (by decide) (by exact FIv_0 (by rw [eF24, eF23, eF22, eF21, eF20, show z18 = x2 from Int32.toInt_inj.mp (by omega)])) (Nat.lt_succ_self _)
