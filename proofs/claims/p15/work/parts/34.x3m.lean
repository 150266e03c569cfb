/-! ===== MEMOS: what marking clears ===== -/
/-- slots of the MEMOS and of how deep, in the BOXES of the World at w -/
def MSm (w a k : Nat) : Prop := (k = 6 ∨ k = 11 ∨ k = 12 ∨ k = 13) ∧ w + 4 ≤ a ∧ a < w + 100 ∧ (a - w) % 4 = 0
def EQM (w : Nat) (F F' : mF) : Prop := ∀ a k, ¬ MSm w a k → F' a k = F a k
theorem EQM.refl {w : Nat} {F : mF} : EQM w F F := fun _ _ _ => rfl
theorem EQM.trans {w : Nat} {F F' F'' : mF} (h : EQM w F F') (h' : EQM w F' F'') : EQM w F F'' := fun a k q => (h' a k q).trans (h a k q)
theorem MS_k {w a k : Nat} (h : ¬ (k = 6 ∨ k = 11 ∨ k = 12 ∨ k = 13)) : ¬ MSm w a k := fun q => h q.1
theorem MS_a {w a k : Nat} (h : ¬ (w + 4 ≤ a ∧ a < w + 100 ∧ (a - w) % 4 = 0)) : ¬ MSm w a k := fun q => h q.2
/-- number x is there -/
def AT (F : mF) (w : Nat) (x : Int32) : Prop := 0 ≤ x.toInt ∧ x.toInt ≤ 23 ∧ tB (F w 4) x.toInt.toNat
/-- PARENTS come first -/
def PARF (F : mF) (w : Nat) : Prop := ∀ n : Nat, n ≤ 23 → tB (F w 4) n → (F (w + 1 + (3 + 4 * n)) 5).toInt < (n : Int)
theorem PARF_fr {F F' : mF} {w : Nat} (h : PARF F w) (h4 : ∀ n, tB (F' w 4) n → tB (F w 4) n) (h5 : ∀ n, n ≤ 23 → tB (F' w 4) n → F' (w + 1 + (3 + 4 * n)) 5 = F (w + 1 + (3 + 4 * n)) 5) : PARF F' w := fun n hn ha => by
  rw [h5 n hn ha]; exact h n hn (h4 n ha)
theorem PARF_up2 {F : mF} {w a k : Nat} {v : Int32} (h : PARF F w) (h1 : ¬ (a = w ∧ k = 4)) (h2 : ¬ (k = 5 ∧ w + 4 ≤ a ∧ a < w + 100 ∧ (a - w) % 4 = 0)) : PARF (up2 F a k v) w :=
  PARF_fr h (fun n hn => by rw [up2_ne (by omega)] at hn; exact hn) (fun n hn _ => up2_ne (by omega))
theorem PARF_eqm {F F' : mF} {w : Nat} (h : PARF F w) (he : EQM w F F') : PARF F' w :=
  PARF_fr h (fun n hn => by rw [he w 4 (MS_k (by decide))] at hn; exact hn) (fun n _ _ => he _ 5 (MS_k (by decide)))
/-- x is MARKED: MEMOS go along a way upwards -/
def MKR (F F' : mF) (w : Nat) (x : Int32) : Prop :=
  (∀ a k, ¬ (k = 11 ∧ w + 4 ≤ a ∧ a < w + 100 ∧ (a - w) % 4 = 0) → F' a k = F a k)
  ∧ (∀ n : Nat, n ≤ 23 → F' (w + 1 + (3 + 4 * n)) 11 = F (w + 1 + (3 + 4 * n)) 11 ∨ F' (w + 1 + (3 + 4 * n)) 11 = 0)
  ∧ (AT F w x → F' (w + 1 + (3 + 4 * x.toNatClampNeg)) 11 = 0)
  ∧ ∀ n : Nat, n ≤ 23 → tB (F w 4) n → F' (w + 1 + (3 + 4 * n)) 11 = F (w + 1 + (3 + 4 * n)) 11 ∨ (n : Int) = (F w 9).toInt ∨ F (w + 1 + (3 + 4 * n)) 11 = 0 ∨ (AT F w (F (w + 1 + (3 + 4 * n)) 5) → F' (w + 1 + (3 + 4 * (F (w + 1 + (3 + 4 * n)) 5).toNatClampNeg)) 11 = 0)
theorem MKR.eqm {F F' : mF} {w : Nat} {x : Int32} (h : MKR F F' w x) : EQM w F F' := fun a k q => h.1 a k (fun z => q ⟨Or.inr (Or.inl z.1), z.2⟩)
/-- on the way, v is next -/
def MKL (F F' : mF) (w : Nat) (x v : Int32) : Prop :=
  (∀ a k, ¬ (k = 11 ∧ w + 4 ≤ a ∧ a < w + 100 ∧ (a - w) % 4 = 0) → F' a k = F a k)
  ∧ (∀ n : Nat, n ≤ 23 → F' (w + 1 + (3 + 4 * n)) 11 = F (w + 1 + (3 + 4 * n)) 11 ∨ F' (w + 1 + (3 + 4 * n)) 11 = 0)
  ∧ (AT F w x → F' (w + 1 + (3 + 4 * x.toNatClampNeg)) 11 = 0 ∨ v = x)
  ∧ ∀ n : Nat, n ≤ 23 → tB (F w 4) n → F' (w + 1 + (3 + 4 * n)) 11 = F (w + 1 + (3 + 4 * n)) 11 ∨ (n : Int) = (F w 9).toInt ∨ F (w + 1 + (3 + 4 * n)) 11 = 0 ∨ (AT F w (F (w + 1 + (3 + 4 * n)) 5) → F' (w + 1 + (3 + 4 * (F (w + 1 + (3 + 4 * n)) 5).toNatClampNeg)) 11 = 0 ∨ v = F (w + 1 + (3 + 4 * n)) 5)
theorem MKL_0 {F : mF} {w : Nat} {x : Int32} : MKL F F w x x := ⟨fun _ _ _ => rfl, fun _ _ => Or.inl rfl, fun _ => Or.inr rfl, fun _ _ _ => Or.inl rfl⟩
theorem MKL_clr {F Fc Fn : mF} {w : Nat} {v : Int32} (hv : AT F w v) (e : Fn = up2 Fc (w + 1 + (3 + 4 * v.toNatClampNeg)) 11 0) : Fn (w + 1 + (3 + 4 * v.toNatClampNeg)) 11 = 0 ∧ (∀ n : Nat, ¬ n = v.toNatClampNeg → Fn (w + 1 + (3 + 4 * n)) 11 = Fc (w + 1 + (3 + 4 * n)) 11) ∧ ∀ a k, ¬ (k = 11 ∧ w + 4 ≤ a ∧ a < w + 100 ∧ (a - w) % 4 = 0) → Fn a k = Fc a k := by
  have hc : v.toNatClampNeg = v.toInt.toNat := rfl
  have h23 := hv.2.1
  refine ⟨by rw [e, up2_at], fun n hn => by rw [e, up2_ne (by omega)], fun a k q => by rw [e, up2_ne (fun z => q ⟨z.2, by omega, by omega, by omega⟩)]⟩
theorem MKL_step {F Fc Fn : mF} {w : Nat} {x v : Int32} (h : MKL F Fc w x v) (hv : AT F w v) (e : Fn = up2 Fc (w + 1 + (3 + 4 * v.toNatClampNeg)) 11 0) : MKL F Fn w x (F (w + 1 + (3 + 4 * v.toNatClampNeg)) 5) := by
  obtain ⟨g1, g2, g3⟩ := MKL_clr hv e
  obtain ⟨h1, h2, h3, h4⟩ := h
  have z : ∀ n : Nat, Fc (w + 1 + (3 + 4 * n)) 11 = 0 → Fn (w + 1 + (3 + 4 * n)) 11 = 0 := fun n q => by
    by_cases y : n = v.toNatClampNeg
    · rw [y]; exact g1
    · rw [g2 n y]; exact q
  refine ⟨fun a k q => (g3 a k q).trans (h1 a k q), fun n hn => ?_, fun q => Or.inl ?_, fun n hn ha => ?_⟩
  · by_cases y : n = v.toNatClampNeg
    · exact Or.inr (by rw [y]; exact g1)
    · rw [g2 n y]; exact h2 n hn
  · rcases h3 q with y | y
    · exact z _ y
    · rw [← y]; exact g1
  · by_cases y : n = v.toNatClampNeg
    · rw [y]
      exact Or.inr (Or.inr (Or.inr (fun _ => Or.inr rfl)))
    · rcases h4 n hn ha with q | q | q | q
      · exact Or.inl (by rw [g2 n y]; exact q)
      · exact Or.inr (Or.inl q)
      · exact Or.inr (Or.inr (Or.inl q))
      · refine Or.inr (Or.inr (Or.inr (fun hp => Or.inl ?_)))
        rcases q hp with q2 | q2
        · exact z _ q2
        · rw [← q2]; exact g1
theorem MKL_end {F Fc Fn : mF} {w : Nat} {x v : Int32} (hP : PARF F w) (h : MKL F Fc w x v) (hv : AT F w v) (e : Fn = up2 Fc (w + 1 + (3 + 4 * v.toNatClampNeg)) 11 0) (ht : v.toInt = (F w 9).toInt ∨ (Fc (w + 1 + (3 + 4 * v.toNatClampNeg)) 11).toInt = 0) : MKR F Fn w x := by
  obtain ⟨g1, g2, g3⟩ := MKL_clr hv e
  obtain ⟨h1, h2, h3, h4⟩ := h
  have hc : v.toNatClampNeg = v.toInt.toNat := rfl
  have h23 := hv.2.1
  have h00 := hv.1
  have z : ∀ n : Nat, Fc (w + 1 + (3 + 4 * n)) 11 = 0 → Fn (w + 1 + (3 + 4 * n)) 11 = 0 := fun n q => by
    by_cases y : n = v.toNatClampNeg
    · rw [y]; exact g1
    · rw [g2 n y]; exact q
  refine ⟨fun a k q => (g3 a k q).trans (h1 a k q), fun n hn => ?_, fun q => ?_, fun n hn ha => ?_⟩
  · by_cases y : n = v.toNatClampNeg
    · exact Or.inr (by rw [y]; exact g1)
    · rw [g2 n y]; exact h2 n hn
  · rcases h3 q with y | y
    · exact z _ y
    · rw [← y]; exact g1
  · by_cases y : n = v.toNatClampNeg
    · subst y
      rcases ht with ht | ht
      · exact Or.inr (Or.inl (by omega))
      · have h0 : Fc (w + 1 + (3 + 4 * v.toNatClampNeg)) 11 = 0 := Int32.toInt_inj.mp (by rw [ht]; rfl)
        rcases h4 _ hn ha with q | q | q | q
        · exact Or.inr (Or.inr (Or.inl (by rw [← q]; exact h0)))
        · exact Or.inr (Or.inl q)
        · exact Or.inr (Or.inr (Or.inl q))
        · refine Or.inr (Or.inr (Or.inr (fun hp => ?_)))
          rcases q hp with q2 | q2
          · exact z _ q2
          · exfalso
            have := hP _ hn ha
            rw [← q2] at this
            omega
    · rcases h4 n hn ha with q | q | q | q
      · exact Or.inl (by rw [g2 n y]; exact q)
      · exact Or.inr (Or.inl q)
      · exact Or.inr (Or.inr (Or.inl q))
      · refine Or.inr (Or.inr (Or.inr (fun hp => ?_)))
        rcases q hp with q2 | q2
        · exact z _ q2
        · rw [← q2]; exact g1
theorem MKL_out {F Fc : mF} {w : Nat} {x v : Int32} (h : MKL F Fc w x v) (hv : ¬ AT F w v) : MKR F Fc w x := by
  obtain ⟨h1, h2, h3, h4⟩ := h
  refine ⟨h1, h2, fun q => ?_, fun n hn ha => ?_⟩
  · rcases h3 q with y | y
    · exact y
    · rw [y] at hv; exact absurd q hv
  · rcases h4 n hn ha with q | q | q | q
    · exact Or.inl q
    · exact Or.inr (Or.inl q)
    · exact Or.inr (Or.inr (Or.inl q))
    · refine Or.inr (Or.inr (Or.inr (fun hp => ?_)))
      rcases q hp with q2 | q2
      · exact q2
      · rw [q2] at hv; exact absurd hp hv

set_option maxHeartbeats 4000000 in
set_option maxRecDepth 100000 in
theorem x_X8_mark (l : Launch) (G : tG) (F : mF) (τ : Nat → Nat) (h0 : Nat) (x1 : Int32) (t0 : τ h0 = 2) (hPA : PARF F h0) : Met l yX8_mark (.code yX8_mark cX8_mark 7 none :: tWS) (tRm 1 21) (va_Pc [.ref h0, .int x1] (tPre (gF G F) τ)) (tQG G τ (fun F9 => MKR F F9 h0 x1)) 0 0 (tA τ) := by
  refine tc_met (by decide) (Nat.le_of_ble_eq_true rfl) ?_
  intro p e s m below meth c E hSt hr hlk hG ls hl
  have hl : lv_has ls 7 [(0, .ref h0), (1, .int x1)] := hl
  have hx := E.1
  have hb := E.2.1
  obtain ⟨H, eH⟩ : ∃ H, H = s.heap := ⟨_, rfl⟩
  obtain ⟨locs, eL⟩ : ∃ x : List Loc, x = [] := ⟨_, rfl⟩
  have hG : tGH (gF G F) τ s H locs := by rw [eH, eL]; exact hG
  suffices hW : W p l e (tRm 1 21) s m ([.ref h0, .int x1] : List Value).toArray below meth c H locs 0 0 (MQ below (tQG G τ (fun F9 => MKR F F9 h0 x1)) ([.ref h0, .int x1] : List Value).toArray s 0 0 (tA τ)) (F0 m 0 ls []) by subst eH; subst eL; exact hW
  clear eH eL
  have J4 : ∀ (n4 : Nat) (Fc : mF) (H : Heap) (locs : List Loc) (ls : Array Slot) (v2 : Int32) (v3 : Int32), tGH (gF G Fc) τ s H locs → lv_has ls 7 [(0, .ref h0), (2, .int v2), (3, .int v3)] → 0 ≤ v3.toInt → v3.toInt ≤ 24 → (MKL F Fc h0 x1 v2 ∧ (v3.toInt = 0 ∨ v2.toInt + v3.toInt ≤ 23)) → (24 - v3.toInt).toNat < n4 → W p l e (tRm 1 21) s m ([.ref h0, .int x1] : List Value).toArray below meth c H locs 0 0 (MQ below (tQG G τ (fun F9 => MKR F F9 h0 x1)) ([.ref h0, .int x1] : List Value).toArray s 0 0 (tA τ)) (F0 m 4 ls []) := by
    intro n4
    induction n4 with
    | zero => intro Fc H locs ls v2 v3 hG hl b3 c3 hex4 hn4; exact absurd hn4 (Nat.not_lt_zero _)
    | succ n4 ih4 =>
      intro Fc H locs ls v2 v3 hG hl b3 c3 hex4 hn4
      have E := E.f1 (F' := Fc)
      have hSt := hSt.f1 (F' := Fc)
      refine lv_iload_n hx hb dX8_mark_4 rfl (lv_at hl 2 rfl) ?_
      refine lv_bipush (v := 24) hx hb dX8_mark_5 (by decide) ?_
      refine lv_icmp_ge (tgt := 121) hx hb dX8_mark_7 (by decide) (fun c1 => ?_) (fun c1 => ?_)
      · skip
        have ic1 := tn_le kI_24 rfl c1
        exact tc_vretF E hr hlk hG (MKL_out hex4.1 (fun q => by have := q.1; omega)) dX8_mark_121
      · skip
        have ic1 := tn_nle kI_24 rfl c1
        refine lv_aload_n hx hb dX8_mark_10 rfl (lv_at hl 0 rfl) ?_
        refine lv_iload_n hx hb dX8_mark_11 rfl (lv_at hl 1 rfl) ?_
        refine tc_callp (tc_runV (As := [.int v2]) (rest := []) E hSt hG (x_X8_has l (gF G Fc) τ h0 v2 t0) t0 rv_2 kv_X8_has ml_X8_55 ⟨rfl, rfl, Nat.le_of_ble_eq_true rfl, Nat.le_of_ble_eq_true rfl⟩ rfl hl.1 rfl (Nat.le_of_ble_eq_true rfl) ⟨Nat.zero_le _, Nat.zero_le _⟩ dX8_mark_12) (fun r2 pr2 => ?_)
        have pr2 : (r2.toInt = 1 ∧ (0 ≤ v2.toInt ∧ v2.toInt ≤ 23 ∧ tB (Fc h0 4) v2.toInt.toNat)) ∨ (r2.toInt = 0 ∧ ¬ (0 ≤ v2.toInt ∧ v2.toInt ≤ 23 ∧ tB (Fc h0 4) v2.toInt.toNat)) := pr2
        rw [show Fc h0 4 = F h0 4 from hex4.1.1 _ _ (by omega)] at pr2
        have hAT : r2.toInt = 1 → AT F h0 v2 := fun h => by rcases pr2 with ⟨_, q9⟩ | ⟨q9, _⟩; exact q9; (exfalso; omega)
        refine lv_if_eq (tgt := 121) hx hb dX8_mark_15 (by decide) (fun c3 => ?_) (fun c3 => ?_)
        · skip
          have ic3 := tn_eq rfl kI_0 c3
          exact tc_vretF E hr hlk hG (MKL_out hex4.1 (by rcases pr2 with ⟨q9, _⟩ | ⟨_, q9⟩; (exfalso; omega); exact q9)) dX8_mark_121
        · skip
          have ic3 := tn_ne rfl kI_0 c3
          refine lv_aload_n hx hb dX8_mark_18 rfl (lv_at hl 0 rfl) ?_
          refine tc_getrF (d := 1) E hG t0 fr_X8_11 rfl dX8_mark_19 (fun ha4 => ?_)
          refine lv_iload_n hx hb dX8_mark_22 rfl (lv_at hl 1 rfl) ?_
          refine tc_aald3F (d := 3 + 4 * v2.toNatClampNeg) E hG ha4 ta_10 rfl (t_in (by omega) (by omega)) dX8_mark_23 (fun ha5 => ?_)
          have nv2 : v2.toNatClampNeg = v2.toInt.toNat := rfl
          refine lv_astore (lv' := [(4, .ref ((h0 + 1) + (3 + 4 * v2.toNatClampNeg))), (0, .ref h0), (2, .int v2), (3, .int v3)]) hx hb dX8_mark_24 hl (by decide) rfl (fun ls hl => ?_)
          refine lv_iconst (v := 1) hx hb dX8_mark_26 (by decide) ?_
          refine lv_iload_n hx hb dX8_mark_27 rfl (lv_at hl 2 rfl) ?_
          refine lv_ishl hx hb dX8_mark_28 ?_
          refine lv_topi (fun z6 ez6 => ?_)
          refine lv_istore (lv' := [(5, .int z6), (4, .ref ((h0 + 1) + (3 + 4 * v2.toNatClampNeg))), (0, .ref h0), (2, .int v2), (3, .int v3)]) hx hb dX8_mark_29 hl (by decide) rfl (fun ls hl => ?_)
          refine lv_iload_n hx hb dX8_mark_31 rfl (lv_at hl 3 rfl) ?_
          refine lv_aload_n hx hb dX8_mark_32 rfl (lv_at hl 2 rfl) ?_
          refine tc_getF E hG t0 fi_X8_24 rfl dX8_mark_33 (fun z7 lz7 uz7 wz7 => ?_)
          replace wz7 : z7 = Fc h0 9 := wz7
          replace wz7 : z7 = F h0 9 := by rw [wz7, hex4.1.1 _ _ (by omega)]
          have cz7 : z7.toInt = (F h0 9).toInt := by rw [wz7]
          refine lv_icmp_eq (tgt := 68) hx hb dX8_mark_36 (by decide) (fun c8 => ?_) (fun c8 => ?_)
          · skip
            have ic8 := tn_eq rfl rfl c8
            refine lv_iconst (v := 1) hx hb dX8_mark_68 (by decide) ?_
            refine lv_goto (tgt := 73) hx hb dX8_mark_69 (by decide) ?_
            refine lv_istore (lv' := [(6, .int 1), (5, .int z6), (4, .ref ((h0 + 1) + (3 + 4 * v2.toNatClampNeg))), (0, .ref h0), (2, .int v2), (3, .int v3)]) hx hb dX8_mark_73 hl (by decide) rfl (fun ls hl => ?_)
            refine lv_aload_n hx hb dX8_mark_75 rfl (lv_at hl 3 rfl) ?_
            refine lv_dup hx hb dX8_mark_76 rfl ?_
            refine tc_geti E hG t0 fi_X8_43 dX8_mark_77 (fun z9 _ _ => ?_)
            refine lv_iload hx hb dX8_mark_80 (lv_at hl 1 rfl) ?_
            refine lv_ior hx hb dX8_mark_82 ?_
            refine lv_topi (fun z10 ez10 => ?_)
            refine tc_puti E hG t0 fp_X8_43 (t_any1 _) (t_any2 _) dX8_mark_83 (fun H locs hG => ?_)
            refine lv_aload hx hb dX8_mark_86 (lv_at hl 2 rfl) ?_
            refine lv_iconst (v := 0) hx hb dX8_mark_88 (by decide) ?_
            refine tc_putF (lo := -2147483648) (hi := 2147483647) E hG ha5 (by decide) rfl rfl fq_X8_142 (t_any1 _) (t_any2 _) rfl rfl dX8_mark_89 (fun H locs hG => ?_)
            obtain ⟨F11, eF11⟩ : ∃ Z : mF, Z = up2 Fc ((h0 + 1) + (3 + 4 * v2.toNatClampNeg)) 11 (0 : Int32) := ⟨_, rfl⟩
            replace hG : tGH (gF G F11) τ s H locs := by rw [eF11]; exact hG
            have E := E.f1 (F' := F11)
            have hSt := hSt.f1 (F' := F11)
            refine lv_iload hx hb dX8_mark_92 (lv_at hl 0 rfl) ?_
            refine lv_if_eq (tgt := 109) hx hb dX8_mark_94 (by decide) (fun c12 => ?_) (fun c12 => ?_)
            · exfalso
              have ic12 := tn_eq kI_1 kI_0 c12
              omega
            · skip
              have ic12 := tn_ne kI_1 kI_0 c12
              refine lv_aload_n hx hb dX8_mark_97 rfl (lv_at hl 3 rfl) ?_
              refine lv_dup hx hb dX8_mark_98 rfl ?_
              refine tc_geti E hG t0 fi_X8_122 dX8_mark_99 (fun z13 _ _ => ?_)
              refine lv_iload hx hb dX8_mark_102 (lv_at hl 1 rfl) ?_
              refine lv_ior hx hb dX8_mark_104 ?_
              refine lv_topi (fun z14 ez14 => ?_)
              refine tc_puti E hG t0 fp_X8_122 (t_any1 _) (t_any2 _) dX8_mark_105 (fun H locs hG => ?_)
              exact tc_vretF E hr hlk hG (MKL_end hPA hex4.1 (hAT (by omega)) eF11 (Or.inl (by omega))) dX8_mark_108
          · skip
            have ic8 := tn_ne rfl rfl c8
            refine lv_aload hx hb dX8_mark_39 (lv_at hl 1 rfl) ?_
            refine tc_getrF (d := 3) E hG ha5 fr_X8_132 rfl dX8_mark_41 (fun ha15 => ?_)
            refine tc_callp (tc_runV (As := []) (rest := []) E hSt hG (c_X2_wasJust l (gF G Fc) τ (((h0 + 1) + (3 + 4 * v2.toNatClampNeg)) + 3) ha15) ha15 rv_4 kv_X2_wasJust ml_X8_136 ⟨rfl, rfl, Nat.le_of_ble_eq_true rfl, Nat.le_of_ble_eq_true rfl⟩ rfl hl.1 rfl (Nat.le_of_ble_eq_true rfl) ⟨Nat.zero_le _, Nat.zero_le _⟩ dX8_mark_44) (fun r16 pr16 => ?_)
            have pr16 : 0 ≤ r16.toInt ∧ r16.toInt ≤ 1 := pr16
            refine lv_if_eq (tgt := 72) hx hb dX8_mark_47 (by decide) (fun c17 => ?_) (fun c17 => ?_)
            · skip
              have ic17 := tn_eq rfl kI_0 c17
              refine lv_iconst (v := 0) hx hb dX8_mark_72 (by decide) ?_
              refine lv_istore (lv' := [(6, .int 0), (5, .int z6), (4, .ref ((h0 + 1) + (3 + 4 * v2.toNatClampNeg))), (0, .ref h0), (2, .int v2), (3, .int v3)]) hx hb dX8_mark_73 hl (by decide) rfl (fun ls hl => ?_)
              refine lv_aload_n hx hb dX8_mark_75 rfl (lv_at hl 3 rfl) ?_
              refine lv_dup hx hb dX8_mark_76 rfl ?_
              refine tc_geti E hG t0 fi_X8_43 dX8_mark_77 (fun z18 _ _ => ?_)
              refine lv_iload hx hb dX8_mark_80 (lv_at hl 1 rfl) ?_
              refine lv_ior hx hb dX8_mark_82 ?_
              refine lv_topi (fun z19 ez19 => ?_)
              refine tc_puti E hG t0 fp_X8_43 (t_any1 _) (t_any2 _) dX8_mark_83 (fun H locs hG => ?_)
              refine lv_aload hx hb dX8_mark_86 (lv_at hl 2 rfl) ?_
              refine lv_iconst (v := 0) hx hb dX8_mark_88 (by decide) ?_
              refine tc_putF (lo := -2147483648) (hi := 2147483647) E hG ha5 (by decide) rfl rfl fq_X8_142 (t_any1 _) (t_any2 _) rfl rfl dX8_mark_89 (fun H locs hG => ?_)
              obtain ⟨F20, eF20⟩ : ∃ Z : mF, Z = up2 Fc ((h0 + 1) + (3 + 4 * v2.toNatClampNeg)) 11 (0 : Int32) := ⟨_, rfl⟩
              replace hG : tGH (gF G F20) τ s H locs := by rw [eF20]; exact hG
              have E := E.f1 (F' := F20)
              have hSt := hSt.f1 (F' := F20)
              refine lv_iload hx hb dX8_mark_92 (lv_at hl 0 rfl) ?_
              refine lv_if_eq (tgt := 109) hx hb dX8_mark_94 (by decide) (fun c21 => ?_) (fun c21 => ?_)
              · skip
                have ic21 := tn_eq kI_0 kI_0 c21
                refine lv_aload hx hb dX8_mark_109 (lv_at hl 2 rfl) ?_
                refine tc_getF E hG ha5 fi_X8_102 rfl dX8_mark_111 (fun z22 lz22 uz22 wz22 => ?_)
                replace wz22 : z22 = F20 ((h0 + 1) + (3 + 4 * v2.toNatClampNeg)) 5 := wz22
                replace wz22 : z22 = F ((h0 + 1) + (3 + 4 * v2.toNatClampNeg)) 5 := by rw [wz22, eF20, up2_ne (by omega), hex4.1.1 _ _ (by omega)]
                have cz22 : z22.toInt = (F ((h0 + 1) + (3 + 4 * v2.toNatClampNeg)) 5).toInt := by rw [wz22]
                refine lv_istore_n (lv' := [(2, .int z22), (6, .int 0), (5, .int z6), (4, .ref ((h0 + 1) + (3 + 4 * v2.toNatClampNeg))), (0, .ref h0), (3, .int v3)]) hx hb dX8_mark_114 rfl hl (by decide) rfl (fun ls hl => ?_)
                obtain ⟨z23, ez23⟩ : ∃ y : Int32, y = v3 + (1) := ⟨_, rfl⟩
                refine lv_iinc (v := z23) (lv' := [(3, .int z23), (2, .int z22), (6, .int 0), (5, .int z6), (4, .ref ((h0 + 1) + (3 + 4 * v2.toNatClampNeg))), (0, .ref h0)]) hx hb dX8_mark_115 hl (k := 5) rfl (by rw [ez23]; rfl) (by decide) rfl (fun ls hl => ?_)
                have tz23 := tn_add ez23 rfl kI_1 (by omega) (by omega)
                refine lv_goto (tgt := 4) hx hb dX8_mark_118 (by decide) ?_
                exact ih4 F20 H locs ls z22 z23 hG (lv_sub hl [5, 1, 0] rfl) (by omega) (by omega) (by exact ⟨(by rw [wz22]; exact MKL_step hex4.1 (hAT (by omega)) eF20), Or.inr (by have := hPA _ (by omega) (hAT (by omega)).2.2; rw [wz22]; have k9 : v2.toNatClampNeg = v2.toInt.toNat := rfl; rw [k9] at *; omega)⟩) (by omega)
              · exfalso
                have ic21 := tn_ne kI_0 kI_0 c21
                omega
            · skip
              have ic17 := tn_ne rfl kI_0 c17
              refine lv_aload hx hb dX8_mark_50 (lv_at hl 1 rfl) ?_
              refine tc_getF E hG ha5 fi_X8_142 rfl dX8_mark_52 (fun z24 lz24 uz24 wz24 => ?_)
              replace wz24 : z24 = Fc ((h0 + 1) + (3 + 4 * v2.toNatClampNeg)) 11 := wz24
              have cz24 : z24.toInt = (Fc ((h0 + 1) + (3 + 4 * v2.toNatClampNeg)) 11).toInt := by rw [wz24]
              refine lv_if_ne (tgt := 72) hx hb dX8_mark_55 (by decide) (fun c25 => ?_) (fun c25 => ?_)
              · skip
                have ic25 := tn_ne rfl kI_0 c25
                refine lv_iconst (v := 0) hx hb dX8_mark_72 (by decide) ?_
                refine lv_istore (lv' := [(6, .int 0), (5, .int z6), (4, .ref ((h0 + 1) + (3 + 4 * v2.toNatClampNeg))), (0, .ref h0), (2, .int v2), (3, .int v3)]) hx hb dX8_mark_73 hl (by decide) rfl (fun ls hl => ?_)
                refine lv_aload_n hx hb dX8_mark_75 rfl (lv_at hl 3 rfl) ?_
                refine lv_dup hx hb dX8_mark_76 rfl ?_
                refine tc_geti E hG t0 fi_X8_43 dX8_mark_77 (fun z26 _ _ => ?_)
                refine lv_iload hx hb dX8_mark_80 (lv_at hl 1 rfl) ?_
                refine lv_ior hx hb dX8_mark_82 ?_
                refine lv_topi (fun z27 ez27 => ?_)
                refine tc_puti E hG t0 fp_X8_43 (t_any1 _) (t_any2 _) dX8_mark_83 (fun H locs hG => ?_)
                refine lv_aload hx hb dX8_mark_86 (lv_at hl 2 rfl) ?_
                refine lv_iconst (v := 0) hx hb dX8_mark_88 (by decide) ?_
                refine tc_putF (lo := -2147483648) (hi := 2147483647) E hG ha5 (by decide) rfl rfl fq_X8_142 (t_any1 _) (t_any2 _) rfl rfl dX8_mark_89 (fun H locs hG => ?_)
                obtain ⟨F28, eF28⟩ : ∃ Z : mF, Z = up2 Fc ((h0 + 1) + (3 + 4 * v2.toNatClampNeg)) 11 (0 : Int32) := ⟨_, rfl⟩
                replace hG : tGH (gF G F28) τ s H locs := by rw [eF28]; exact hG
                have E := E.f1 (F' := F28)
                have hSt := hSt.f1 (F' := F28)
                refine lv_iload hx hb dX8_mark_92 (lv_at hl 0 rfl) ?_
                refine lv_if_eq (tgt := 109) hx hb dX8_mark_94 (by decide) (fun c29 => ?_) (fun c29 => ?_)
                · skip
                  have ic29 := tn_eq kI_0 kI_0 c29
                  refine lv_aload hx hb dX8_mark_109 (lv_at hl 2 rfl) ?_
                  refine tc_getF E hG ha5 fi_X8_102 rfl dX8_mark_111 (fun z30 lz30 uz30 wz30 => ?_)
                  replace wz30 : z30 = F28 ((h0 + 1) + (3 + 4 * v2.toNatClampNeg)) 5 := wz30
                  replace wz30 : z30 = F ((h0 + 1) + (3 + 4 * v2.toNatClampNeg)) 5 := by rw [wz30, eF28, up2_ne (by omega), hex4.1.1 _ _ (by omega)]
                  have cz30 : z30.toInt = (F ((h0 + 1) + (3 + 4 * v2.toNatClampNeg)) 5).toInt := by rw [wz30]
                  refine lv_istore_n (lv' := [(2, .int z30), (6, .int 0), (5, .int z6), (4, .ref ((h0 + 1) + (3 + 4 * v2.toNatClampNeg))), (0, .ref h0), (3, .int v3)]) hx hb dX8_mark_114 rfl hl (by decide) rfl (fun ls hl => ?_)
                  obtain ⟨z31, ez31⟩ : ∃ y : Int32, y = v3 + (1) := ⟨_, rfl⟩
                  refine lv_iinc (v := z31) (lv' := [(3, .int z31), (2, .int z30), (6, .int 0), (5, .int z6), (4, .ref ((h0 + 1) + (3 + 4 * v2.toNatClampNeg))), (0, .ref h0)]) hx hb dX8_mark_115 hl (k := 5) rfl (by rw [ez31]; rfl) (by decide) rfl (fun ls hl => ?_)
                  have tz31 := tn_add ez31 rfl kI_1 (by omega) (by omega)
                  refine lv_goto (tgt := 4) hx hb dX8_mark_118 (by decide) ?_
                  exact ih4 F28 H locs ls z30 z31 hG (lv_sub hl [5, 1, 0] rfl) (by omega) (by omega) (by exact ⟨(by rw [wz30]; exact MKL_step hex4.1 (hAT (by omega)) eF28), Or.inr (by have := hPA _ (by omega) (hAT (by omega)).2.2; rw [wz30]; have k9 : v2.toNatClampNeg = v2.toInt.toNat := rfl; rw [k9] at *; omega)⟩) (by omega)
                · exfalso
                  have ic29 := tn_ne kI_0 kI_0 c29
                  omega
              · skip
                have ic25 := tn_eq rfl kI_0 c25
                refine lv_aload_n hx hb dX8_mark_58 rfl (lv_at hl 2 rfl) ?_
                refine tc_geti E hG t0 fi_X8_125 dX8_mark_59 (fun z32 _ _ => ?_)
                refine lv_iload hx hb dX8_mark_62 (lv_at hl 0 rfl) ?_
                refine lv_iand hx hb dX8_mark_64 ?_
                refine lv_topi (fun z33 ez33 => ?_)
                refine lv_if_ne (tgt := 72) hx hb dX8_mark_65 (by decide) (fun c34 => ?_) (fun c34 => ?_)
                · skip
                  have ic34 := tn_ne rfl kI_0 c34
                  refine lv_iconst (v := 0) hx hb dX8_mark_72 (by decide) ?_
                  refine lv_istore (lv' := [(6, .int 0), (5, .int z6), (4, .ref ((h0 + 1) + (3 + 4 * v2.toNatClampNeg))), (0, .ref h0), (2, .int v2), (3, .int v3)]) hx hb dX8_mark_73 hl (by decide) rfl (fun ls hl => ?_)
                  refine lv_aload_n hx hb dX8_mark_75 rfl (lv_at hl 3 rfl) ?_
                  refine lv_dup hx hb dX8_mark_76 rfl ?_
                  refine tc_geti E hG t0 fi_X8_43 dX8_mark_77 (fun z35 _ _ => ?_)
                  refine lv_iload hx hb dX8_mark_80 (lv_at hl 1 rfl) ?_
                  refine lv_ior hx hb dX8_mark_82 ?_
                  refine lv_topi (fun z36 ez36 => ?_)
                  refine tc_puti E hG t0 fp_X8_43 (t_any1 _) (t_any2 _) dX8_mark_83 (fun H locs hG => ?_)
                  refine lv_aload hx hb dX8_mark_86 (lv_at hl 2 rfl) ?_
                  refine lv_iconst (v := 0) hx hb dX8_mark_88 (by decide) ?_
                  refine tc_putF (lo := -2147483648) (hi := 2147483647) E hG ha5 (by decide) rfl rfl fq_X8_142 (t_any1 _) (t_any2 _) rfl rfl dX8_mark_89 (fun H locs hG => ?_)
                  obtain ⟨F37, eF37⟩ : ∃ Z : mF, Z = up2 Fc ((h0 + 1) + (3 + 4 * v2.toNatClampNeg)) 11 (0 : Int32) := ⟨_, rfl⟩
                  replace hG : tGH (gF G F37) τ s H locs := by rw [eF37]; exact hG
                  have E := E.f1 (F' := F37)
                  have hSt := hSt.f1 (F' := F37)
                  refine lv_iload hx hb dX8_mark_92 (lv_at hl 0 rfl) ?_
                  refine lv_if_eq (tgt := 109) hx hb dX8_mark_94 (by decide) (fun c38 => ?_) (fun c38 => ?_)
                  · skip
                    have ic38 := tn_eq kI_0 kI_0 c38
                    refine lv_aload hx hb dX8_mark_109 (lv_at hl 2 rfl) ?_
                    refine tc_getF E hG ha5 fi_X8_102 rfl dX8_mark_111 (fun z39 lz39 uz39 wz39 => ?_)
                    replace wz39 : z39 = F37 ((h0 + 1) + (3 + 4 * v2.toNatClampNeg)) 5 := wz39
                    replace wz39 : z39 = F ((h0 + 1) + (3 + 4 * v2.toNatClampNeg)) 5 := by rw [wz39, eF37, up2_ne (by omega), hex4.1.1 _ _ (by omega)]
                    have cz39 : z39.toInt = (F ((h0 + 1) + (3 + 4 * v2.toNatClampNeg)) 5).toInt := by rw [wz39]
                    refine lv_istore_n (lv' := [(2, .int z39), (6, .int 0), (5, .int z6), (4, .ref ((h0 + 1) + (3 + 4 * v2.toNatClampNeg))), (0, .ref h0), (3, .int v3)]) hx hb dX8_mark_114 rfl hl (by decide) rfl (fun ls hl => ?_)
                    obtain ⟨z40, ez40⟩ : ∃ y : Int32, y = v3 + (1) := ⟨_, rfl⟩
                    refine lv_iinc (v := z40) (lv' := [(3, .int z40), (2, .int z39), (6, .int 0), (5, .int z6), (4, .ref ((h0 + 1) + (3 + 4 * v2.toNatClampNeg))), (0, .ref h0)]) hx hb dX8_mark_115 hl (k := 5) rfl (by rw [ez40]; rfl) (by decide) rfl (fun ls hl => ?_)
                    have tz40 := tn_add ez40 rfl kI_1 (by omega) (by omega)
                    refine lv_goto (tgt := 4) hx hb dX8_mark_118 (by decide) ?_
                    exact ih4 F37 H locs ls z39 z40 hG (lv_sub hl [5, 1, 0] rfl) (by omega) (by omega) (by exact ⟨(by rw [wz39]; exact MKL_step hex4.1 (hAT (by omega)) eF37), Or.inr (by have := hPA _ (by omega) (hAT (by omega)).2.2; rw [wz39]; have k9 : v2.toNatClampNeg = v2.toInt.toNat := rfl; rw [k9] at *; omega)⟩) (by omega)
                  · exfalso
                    have ic38 := tn_ne kI_0 kI_0 c38
                    omega
                · skip
                  have ic34 := tn_eq rfl kI_0 c34
                  refine lv_iconst (v := 1) hx hb dX8_mark_68 (by decide) ?_
                  refine lv_goto (tgt := 73) hx hb dX8_mark_69 (by decide) ?_
                  refine lv_istore (lv' := [(6, .int 1), (5, .int z6), (4, .ref ((h0 + 1) + (3 + 4 * v2.toNatClampNeg))), (0, .ref h0), (2, .int v2), (3, .int v3)]) hx hb dX8_mark_73 hl (by decide) rfl (fun ls hl => ?_)
                  refine lv_aload_n hx hb dX8_mark_75 rfl (lv_at hl 3 rfl) ?_
                  refine lv_dup hx hb dX8_mark_76 rfl ?_
                  refine tc_geti E hG t0 fi_X8_43 dX8_mark_77 (fun z41 _ _ => ?_)
                  refine lv_iload hx hb dX8_mark_80 (lv_at hl 1 rfl) ?_
                  refine lv_ior hx hb dX8_mark_82 ?_
                  refine lv_topi (fun z42 ez42 => ?_)
                  refine tc_puti E hG t0 fp_X8_43 (t_any1 _) (t_any2 _) dX8_mark_83 (fun H locs hG => ?_)
                  refine lv_aload hx hb dX8_mark_86 (lv_at hl 2 rfl) ?_
                  refine lv_iconst (v := 0) hx hb dX8_mark_88 (by decide) ?_
                  refine tc_putF (lo := -2147483648) (hi := 2147483647) E hG ha5 (by decide) rfl rfl fq_X8_142 (t_any1 _) (t_any2 _) rfl rfl dX8_mark_89 (fun H locs hG => ?_)
                  obtain ⟨F43, eF43⟩ : ∃ Z : mF, Z = up2 Fc ((h0 + 1) + (3 + 4 * v2.toNatClampNeg)) 11 (0 : Int32) := ⟨_, rfl⟩
                  replace hG : tGH (gF G F43) τ s H locs := by rw [eF43]; exact hG
                  have E := E.f1 (F' := F43)
                  have hSt := hSt.f1 (F' := F43)
                  refine lv_iload hx hb dX8_mark_92 (lv_at hl 0 rfl) ?_
                  refine lv_if_eq (tgt := 109) hx hb dX8_mark_94 (by decide) (fun c44 => ?_) (fun c44 => ?_)
                  · exfalso
                    have ic44 := tn_eq kI_1 kI_0 c44
                    omega
                  · skip
                    have ic44 := tn_ne kI_1 kI_0 c44
                    refine lv_aload_n hx hb dX8_mark_97 rfl (lv_at hl 3 rfl) ?_
                    refine lv_dup hx hb dX8_mark_98 rfl ?_
                    refine tc_geti E hG t0 fi_X8_122 dX8_mark_99 (fun z45 _ _ => ?_)
                    refine lv_iload hx hb dX8_mark_102 (lv_at hl 1 rfl) ?_
                    refine lv_ior hx hb dX8_mark_104 ?_
                    refine lv_topi (fun z46 ez46 => ?_)
                    refine tc_puti E hG t0 fp_X8_122 (t_any1 _) (t_any2 _) dX8_mark_105 (fun H locs hG => ?_)
                    exact tc_vretF E hr hlk hG (MKL_end hPA hex4.1 (hAT (by omega)) eF43 (Or.inr (by rw [← wz24]; omega))) dX8_mark_108
  refine lv_iload_n hx hb dX8_mark_0 rfl (lv_at hl 1 rfl) ?_
  refine lv_istore_n (lv' := [(2, .int x1), (0, .ref h0), (1, .int x1)]) hx hb dX8_mark_1 rfl hl (by decide) rfl (fun ls hl => ?_)
  refine lv_iconst (v := 0) hx hb dX8_mark_2 (by decide) ?_
  refine lv_istore_n (lv' := [(3, .int 0), (2, .int x1), (0, .ref h0), (1, .int x1)]) hx hb dX8_mark_3 rfl hl (by decide) rfl (fun ls hl => ?_)
  exact J4 ((24 - (0 : Int32).toInt).toNat + 1) F H locs ls x1 (0 : Int32) hG (lv_sub hl [2, 1, 0] rfl) (by decide) (by decide) (by exact ⟨MKL_0, Or.inl (by decide)⟩) (Nat.lt_succ_self _)
