/-! ===== MEMOS of the class, held against the reference's tree ===== -/
theorem LOC.symm {T T' : Int → Int → Int} {b : Int} (h : LOC T T' b) : LOC T' T b := by
  obtain ⟨h1, h2, h3, h10, hk⟩ := h
  refine ⟨h1.symm, h2.symm, h3.symm, h10.symm, fun i i0 i1 => ?_⟩
  rw [h10] at i1
  obtain ⟨q1, q2, q3⟩ := hk i i0 i1
  rw [q1]
  exact ⟨rfl, q2.symm, q3.symm⟩
theorem AL_tka {t : Nat → Int32} (hI : TInv0 t) (hJ : TJ t) : TKA (AL t) (K t) := fun b hb => ⟨⟨hb.1, hb.2.1⟩, fun i i0 i1 => by
  have h := hI.2.2.2.1 b i hb.1 hb.2.1 i0 i1
  have h2 := hJ.2.1 b i hb i0 i1
  exact ⟨h.1, h2.2.1, h2⟩⟩
theorem ALF_eq {F : mF} {w : Nat} {t : Nat → Int32} (h : RT F w t) : ALF F w = AL t := funext fun b => propext (by
  constructor
  · rintro ⟨⟨q1, q2⟩, q3⟩
    have := (h.bit _).mp q3
    rw [show ((b.toNat : Nat) : Int) = b by omega] at this
    exact this
  · intro q
    have q0 := q.1
    refine ⟨⟨q.1, q.2.1⟩, (h.bit _).mpr ?_⟩
    rw [show ((b.toNat : Nat) : Int) = b by omega]
    exact q)
theorem kT_K {F : mF} {w : Nat} {t : Nat → Int32} (h : RT F w t) {b : Int} (hb : AL t b) : kT F w b 1 = K t b 1 ∧ kT F w b 7 = K t b 7 ∧ kT F w b 8 = K t b 8 ∧ kT F w b 9 = K t b 9 ∧ kT F w b 10 = K t b 10 ∧ (∀ j : Nat, j < 4 → kT F w b (2 + (j : Int)) = K t b (2 + (j : Int))) ∧ ∀ j : Nat, (j : Int) < K t b 10 → kT F w b (11 + (j : Int)) = K t b (11 + (j : Int)) := by
  obtain ⟨n, en⟩ : ∃ n : Nat, b = (n : Int) := ⟨b.toNat, by have := hb.1; omega⟩
  subst en
  have hn : n ≤ 23 := by have := hb.2.1; omega
  obtain ⟨b1, b2, b3, b4, b5, b6, b7, b8⟩ : BXR F (bA w n) t (n : Int) := h.box hb
  obtain ⟨k1, k7, k8, k9, k10, kn, kk⟩ := kT_at (F := F) (w := w) (a := bA w n) hn rfl
  exact ⟨k1.trans b1, k7.trans b4, k8.trans b5, k9.trans b2, k10.trans b6, fun j hj => (kn j hj).trans (b7 j hj), fun j hj => (kk j).trans (b8 j hj)⟩
theorem kT_LOC {F : mF} {w : Nat} {t : Nat → Int32} (h : RT F w t) (hJ : TJ t) {b : Int} (hb : AL t b) : LOC (K t) (kT F w) b := by
  obtain ⟨k1, k7, k8, k9, k10, kn, kk⟩ := kT_K h hb
  refine ⟨k1, kn 0 (by decide), kn 1 (by decide), k10, fun i i0 i1 => ?_⟩
  have e := kk i.toNat (by omega)
  rw [show ((i.toNat : Nat) : Int) = i by omega] at e
  obtain ⟨-, c7, c8, -, -, -, -⟩ := kT_K h (hJ.2.1 b i hb i0 i1)
  exact ⟨e, c7, c8⟩
/-- the MEMOS are right, by the reference's tree -/
def CK (F : mF) (w : Nat) (t : Nat → Int32) : Prop := MINV (AL t) (K t) (cmb F w) (cmv F w)
theorem CK_C {F : mF} {w : Nat} {t : Nat → Int32} (h : RT F w t) (hI : TInv0 t) (hJ : TJ t) (hc : CK F w t) : CINV F w := by
  unfold CINV
  rw [ALF_eq h]
  exact MINV_cg (AL_tka hI hJ) (fun b hb => kT_LOC h hJ hb) hc (fun _ _ _ _ => Iff.rfl) (fun _ _ _ _ => rfl)
theorem C_CK {F : mF} {w : Nat} {t : Nat → Int32} (h : RT F w t) (hI : TInv0 t) (hJ : TJ t) (hc : CINV F w) : CK F w t := by
  unfold CINV at hc
  rw [ALF_eq h] at hc
  exact MINV_cg (TKA_cg (AL_tka hI hJ) (fun b hb => kT_LOC h hJ hb)) (fun b hb => (kT_LOC h hJ hb).symm) hc (fun _ _ _ _ => Iff.rfl) (fun _ _ _ _ => rfl)
theorem asT_kT {F : mF} {w : Nat} {t : Nat → Int32} (h : RT F w t) (hI : TInv0 t) (hJ : TJ t) {b wh : Int} (hb : AL t b) : asT (kT F w) 24 b wh = asT (K t) 24 b wh :=
  asT_cg (AL_tka hI hJ) (fun b hb => kT_LOC h hJ hb) 24 b wh (by have := hb.1; omega) hb
theorem cmb_0 {F : mF} {w : Nat} {b wh : Int} (h : F (bM w b) 11 = 0) : ¬ cmb F w b wh := by
  unfold cmb
  rw [h]
  unfold tB
  simp
/-- a way was MARKED -/
theorem CK_mark {F F1 F9 : mF} {w : Nat} {t t' : Nat → Int32} {x : Int32} (hI : TInv0 t) (hJ : TJ t) (hI' : TInv0 t') (hJ' : TJ t') (hR' : RT F1 w t') (hc : CK F w t) (hM : MKR F1 F9 w x)
    (hm : ∀ n : Nat, n ≤ 23 → AL t' (n : Int) → (AL t (n : Int) → F1 (bA w n) 11 = F (bA w n) 11 ∧ F1 (bA w n) 12 = F (bA w n) 12 ∧ F1 (bA w n) 13 = F (bA w n) 13) ∧ (¬ AL t (n : Int) → F1 (bA w n) 11 = 0))
    (hL : ∀ b : Int, AL t' b → AL t b → ¬ b = x.toInt → LOC (K t) (K t') b) : CK F9 w t' := by
  obtain ⟨m1, m2, m3, m4⟩ := hM
  have e12 : ∀ n : Nat, F9 (bA w n) 12 = F1 (bA w n) 12 ∧ F9 (bA w n) 13 = F1 (bA w n) 13 := fun n => ⟨m1 _ 12 (by omega), m1 _ 13 (by omega)⟩
  have hin : ∀ b wh : Int, AL t' b → (wh = 0 ∨ wh = 1) → cmb F9 w b wh → AL t b ∧ cmb F w b wh ∧ cmv F9 w b wh = cmv F w b wh := by
    intro b wh hb hw hcm
    obtain ⟨n, en⟩ : ∃ n : Nat, b = (n : Int) := ⟨b.toNat, by have := hb.1; omega⟩
    subst en
    have hn : n ≤ 23 := by have := hb.2.1; omega
    have ea : bM w (n : Int) = bA w n := bM_at hn rfl
    obtain ⟨g1, g2⟩ := hm n hn hb
    have e9 : F9 (bA w n) 11 = F1 (bA w n) 11 := (m2 n hn).resolve_right (fun q => cmb_0 (by rw [ea]; exact q) hcm)
    by_cases ha : AL t (n : Int)
    · obtain ⟨q1, q2, q3⟩ := g1 ha
      refine ⟨ha, ?_, ?_⟩
      · unfold cmb at hcm ⊢
        rw [ea] at hcm ⊢
        rw [← q1, ← e9]; exact hcm
      · unfold cmv
        rw [ea, (e12 n).1, (e12 n).2, q2, q3]
    · exact absurd hcm (cmb_0 (by rw [ea, e9]; exact g2 ha))
  have hx : ∀ wh : Int, AL t' x.toInt → ¬ cmb F9 w x.toInt wh := fun wh hb => by
    have hx := m3 ⟨hb.1, hb.2.1, ((hR'.al x).mpr hb).2.2⟩
    exact cmb_0 (by rw [bM_i hb.1 hb.2.1]; exact hx)
  refine MINV_mark (n0 := x.toInt) (AL_tka hI hJ) (AL_tka hI' hJ') hc hin (fun wh _ hb => hx wh hb) (fun b wh i wh' hb hw hcm i0 i1 hw' hcc => ?_) (fun b hb ha hne => hL b hb ha hne)
  have hbx : ¬ b = x.toInt := fun e => hx wh (by rw [← e]; exact hb) (by rw [← e]; exact hcm)
  obtain ⟨ha, -, -⟩ := hin b wh hb hw hcm
  have hl := hL b hb ha hbx
  have i1' : i < K t b 10 := by rw [← hl.2.2.2.1]; exact i1
  have ech := (hl.2.2.2.2 i i0 i1').1
  have hca := hJ.2.1 b i ha i0 i1'
  rw [← ech] at hca
  have hca' := hJ'.2.1 b i hb i0 i1
  have hc9 := (hI'.2.2.2.1 b i hb.1 hb.2.1 i0 i1).2.2
  obtain ⟨c, ec⟩ : ∃ c : Nat, K t' b (11 + i) = (c : Int) := ⟨(K t' b (11 + i)).toNat, by have := hca'.1; omega⟩
  rw [ec] at hcc hca hca' hc9 ⊢
  have hc23 : c ≤ 23 := by have := hca'.2.1; omega
  have ea : bM w (c : Int) = bA w c := bM_at hc23 rfl
  obtain ⟨q1, q2, q3⟩ := (hm c hc23 hca').1 hca
  have hb0 := hb.1
  have e9 : F9 (bA w c) 11 = F1 (bA w c) 11 := by
    rcases m4 c hc23 ((hR'.bit c).mpr hca') with z | z | z | z
    · exact z
    · exfalso
      rw [hR'.2.1] at z
      have h9 := (hJ'.2.2.1 (by omega)).2
      rw [← z] at h9
      omega
    · exact absurd hcc (cmb_0 (by rw [ea, ← q1]; exact z))
    · exfalso
      have hbx5 : (F1 (bA w c) 5).toInt = K t' (c : Int) 9 := (hR'.box hca').2.1
      have e5 : (F1 (bA w c) 5).toInt = b := hbx5.trans hc9
      have e0 := z ((hR'.al _).mpr (by rw [e5]; exact hb))
      exact cmb_0 (F := F9) (by rw [bM_i hb.1 hb.2.1, ← e5]; exact e0) hcm
  unfold cmb at hcc ⊢
  rw [ea] at hcc ⊢
  rw [e9, q1]; exact hcc
/-- nothing that is told has changed; some may be gone; maybe a copy -/
theorem CK_sub {F F9 : mF} {w w9 : Nat} {t t' : Nat → Int32} (hI' : TInv0 t') (hJ' : TJ t') (hc : CK F w t) (hs : ∀ b : Int, AL t' b → AL t b) (hL : ∀ b : Int, AL t' b → LOC (K t) (K t') b) (hm : ∀ n : Nat, n ≤ 23 → AL t' (n : Int) → F9 (bA w9 n) 11 = F (bA w n) 11 ∧ F9 (bA w9 n) 12 = F (bA w n) 12 ∧ F9 (bA w9 n) 13 = F (bA w n) 13) : CK F9 w9 t' := by
  have hk0 : TKA (AL t') (K t) := TKA_cg (AL_tka hI' hJ') (fun b hb => (hL b hb).symm)
  refine MINV_cg hk0 hL (fun b wh hb hw hcm => hc b wh (hs b hb) hw hcm) (fun b wh hb hw => ?_) (fun b wh hb hw => ?_)
  · obtain ⟨n, en⟩ : ∃ n : Nat, b = (n : Int) := ⟨b.toNat, by have := hb.1; omega⟩
    subst en
    have hn : n ≤ 23 := by have := hb.2.1; omega
    unfold cmb
    rw [bM_at (w := w9) (a := bA w9 n) hn rfl, bM_at (w := w) (a := bA w n) hn rfl, (hm n hn hb).1]
  · obtain ⟨n, en⟩ : ∃ n : Nat, b = (n : Int) := ⟨b.toNat, by have := hb.1; omega⟩
    subst en
    have hn : n ≤ 23 := by have := hb.2.1; omega
    unfold cmv
    rw [bM_at (w := w9) (a := bA w9 n) hn rfl, bM_at (w := w) (a := bA w n) hn rfl, (hm n hn hb).2.1, (hm n hn hb).2.2]
theorem CK_ag {F : mF} {w : Nat} {t t' : Nat → Int32} (hI : TInv0 t) (hI' : TInv0 t') (hJ' : TJ t') (hc : CK F w t) (hg : AG t t') : CK F w t' := by
  have hK : ∀ b j : Int, 0 ≤ b → 0 ≤ j → j ≤ 18 → K t' b j = K t b j := fun b j q1 q2 q3 => hg.K q1 q2 q3
  have hs : ∀ b : Int, AL t' b → AL t b := fun b hb => ⟨hb.1, hb.2.1, by rw [← hK b 0 hb.1 (by decide) (by decide)]; exact hb.2.2⟩
  refine CK_sub hI' hJ' hc hs (fun b hb => ?_) (fun _ _ _ => ⟨rfl, rfl, rfl⟩)
  have h8 := TI10 hI hb.1 hb.2.1
  refine ⟨hK b 1 hb.1 (by decide) (by decide), hK b 2 hb.1 (by decide) (by decide), hK b 3 hb.1 (by decide) (by decide), hK b 10 hb.1 (by decide) (by decide), fun i i0 i1 => ?_⟩
  have hc := hI.2.2.2.1 b i hb.1 hb.2.1 i0 i1
  have hb0 := hb.1
  exact ⟨hK b (11 + i) hb.1 (by omega) (by omega), hK _ 7 (by omega) (by decide) (by decide), hK _ 8 (by omega) (by decide) (by decide)⟩
theorem DEPF_of {F F9 : mF} {w w9 : Nat} (h : DEPF F w) (h4 : ∀ n : Nat, n ≤ 23 → tB (F9 w9 4) n → tB (F w 4) n ∧ F9 (bA w9 n) 6 = F (bA w n) 6) : DEPF F9 w9 := fun n hn ha => by
  obtain ⟨q1, q2⟩ := h4 n hn ha
  have := h n hn q1
  show (F9 (bA w9 n) 6).toInt ≤ (n : Int)
  rw [q2]; exact this
theorem RT_eqm {F F' : mF} {w : Nat} {t : Nat → Int32} (h : RT F w t) (he : EQM w F F') : RT F' w t := by
  obtain ⟨h1, h2, h3, h4, h5⟩ := h
  have g : ∀ a k, ¬ (k = 6 ∨ k = 11 ∨ k = 12 ∨ k = 13) → F' a k = F a k := fun a k q => he a k (MS_k q)
  refine ⟨by rw [g w 8 (by decide)]; exact h1, by rw [g w 9 (by decide)]; exact h2, fun n => by rw [g w 4 (by decide)]; exact h3 n, fun n hn => by rw [g _ 0 (by decide)]; exact h4 n hn, fun n hn ha => ?_⟩
  obtain ⟨b1, b2, b3, b4, b5, b6, b7, b8⟩ := h5 n hn ha
  have ga : ∀ c k, c = bA w n + 1 ∨ c = bA w n + 2 → F' c k = F c k := fun c k q => he c k (MS_a (by unfold bA at q; omega))
  exact ⟨by rw [g _ 4 (by decide)]; exact b1, by rw [g _ 5 (by decide)]; exact b2, by rw [g _ 7 (by decide)]; exact b3, by rw [g _ 8 (by decide)]; exact b4, by rw [g _ 9 (by decide)]; exact b5, by rw [g _ 10 (by decide)]; exact b6, fun j hj => by rw [ga _ j (Or.inl rfl)]; exact b7 j hj, fun j hj => by rw [ga _ j (Or.inr rfl)]; exact b8 j hj⟩
theorem EQM.symm {w : Nat} {F F' : mF} (h : EQM w F F') : EQM w F' F := fun a k q => (h a k q).symm
theorem FRX.eqm {F F' : mF} {w : Nat} (h : FRX F F' w) : EQM w F F' := fun a k q => h a k (fun z => q ⟨Or.inr z.1, z.2⟩)
theorem PARF_of {F : mF} {w : Nat} {t : Nat → Int32} (h : RT F w t) (hI : TInv0 t) : PARF F w := fun n hn ha => by
  have hal := (h.bit n).mp ha
  have h5 : (F (w + 1 + (3 + 4 * n)) 5).toInt = K t (n : Int) 9 := (h.box hal).2.1
  rw [h5]
  exact (hI.2.2.1 (n : Int) hal.1 (hI.2.1 _ hal.1 hal.2.1 hal.2.2)).2
def NRh (t : Nat → Int32) : Prop := ∀ b k : Int, 0 ≤ b → b ≤ 23 → 2 ≤ k → k ≤ 8 → 0 ≤ K t b k ∧ K t b k ≤ 99
theorem NRh_of {G : tG} {Y : mY} {t : Nat → Int32} {s : State} {H : Heap} {locs : List Loc} {a : Nat} (hG : mGH G Y s H locs) (ha : Y.1 a = 1) (hT : TI Y t) : NRh t := fun b k h1 h2 h3 h4 => by
  have h := TI_rng hG ha hT h1 h2 (by omega : 0 ≤ k) (by omega)
  rcases (show k = 2 ∨ k = 3 ∨ k = 4 ∨ k = 5 ∨ k = 6 ∨ k = 7 ∨ k = 8 by omega) with e | e | e | e | e | e | e <;> subst e
  · exact h
  · exact h
  · exact h
  · exact h
  · have h : (0 : Int) ≤ K t b 6 ∧ K t b 6 ≤ (9 : Int) := h
    omega
  · exact h
  · exact h
theorem AKF_of {F : mF} {w : Nat} {t : Nat → Int32} (h : RT F w t) (hI : TInv0 t) (hJ : TJ t) (hN : NRh t) : AKF F w := fun n hn ha => by
  have hal := (h.bit n).mp ha
  obtain ⟨b1, b2, b3, b4, b5, b6, b7, b8⟩ : BXR F (bA w n) t (n : Int) := h.box hal
  have k := hJ.2.2.2 _ hal
  have t10 := TI10 hI hal.1 hal.2.1
  have n7 := hN (n : Int) 7 hal.1 hal.2.1 (by decide) (by decide)
  have n8 := hN (n : Int) 8 hal.1 hal.2.1 (by decide) (by decide)
  refine ⟨by rw [b1]; exact k, by rw [b4]; exact n7, by rw [b5]; exact n8, by rw [b6]; exact t10, fun j hj => by rw [b7 j hj]; exact hN (n : Int) _ hal.1 hal.2.1 (by omega) (by omega), fun j hj => ?_⟩
  rw [b6] at hj
  have e := b8 j hj
  have h1 := hI.2.2.2.1 (n : Int) (j : Int) hal.1 hal.2.1 (by omega) hj
  have h2 := hJ.2.1 (n : Int) (j : Int) hal (by omega) hj
  have e2 : (F (w + 1 + (3 + 4 * n) + 2) j).toInt = K t (n : Int) (11 + (j : Int)) := e
  rw [← e2] at h1 h2
  exact ⟨h1.1, h2.2.1, ((h.al _).mpr h2).2.2⟩
theorem LOC_of {t t' : Nat → Int32} {p : Int} (hI : TInv0 t) (hJ : TJ t) (hK : ∀ b j : Int, AL t b → 1 ≤ j → j ≤ 18 → ¬ (b = p ∧ 10 ≤ j) → K t' b j = K t b j) {b : Int} (hb : AL t b) (hn : ¬ b = p) : LOC (K t) (K t') b := by
  have h8 := TI10 hI hb.1 hb.2.1
  refine ⟨hK b 1 hb (by decide) (by decide) (by omega), hK b 2 hb (by decide) (by decide) (by omega), hK b 3 hb (by decide) (by decide) (by omega), hK b 10 hb (by decide) (by decide) (fun z => hn z.1), fun i i0 i1 => ?_⟩
  have hc := hJ.2.1 b i hb i0 i1
  exact ⟨hK b (11 + i) hb (by omega) (by omega) (fun z => hn z.1), hK _ 7 hc (by decide) (by decide) (by omega), hK _ 8 hc (by decide) (by decide) (by omega)⟩
theorem LOC_tell {t t' : Nat → Int32} {x k p : Int} (hI : TInv0 t) (hJ : TJ t) (hK : ∀ b j : Int, AL t b → 1 ≤ j → j ≤ 18 → ¬ (b = x ∧ j = k) → K t' b j = K t b j) (h2 : 2 ≤ k) (h8 : k ≤ 8) (hp : (k ≤ 5 ∧ p = x) ∨ (6 ≤ k ∧ p = K t x 9)) {b : Int} (hb : AL t b) (hn : ¬ b = p) : LOC (K t) (K t') b := by
  have h10 := TI10 hI hb.1 hb.2.1
  refine ⟨hK b 1 hb (by decide) (by decide) (by omega), hK b 2 hb (by decide) (by decide) (by omega), hK b 3 hb (by decide) (by decide) (by omega), hK b 10 hb (by decide) (by decide) (by omega), fun i i0 i1 => ?_⟩
  have hc := hJ.2.1 b i hb i0 i1
  have h9 := (hI.2.2.2.1 b i hb.1 hb.2.1 i0 i1).2.2
  have h7 : ¬ (K t b (11 + i) = x ∧ 6 ≤ k) := fun z => by
    rw [z.1] at h9; omega
  exact ⟨hK b (11 + i) hb (by omega) (by omega) (by omega), hK _ 7 hc (by decide) (by decide) (by omega), hK _ 8 hc (by decide) (by decide) (by omega)⟩
theorem MKR.fr {F F1 F9 : mF} {w : Nat} {x : Int32} (h : MKR F1 F9 w x) (hf : FRW F F1 w) : FRW F F9 w := ⟨fun c k q => (h.1 c k (by omega)).trans (hf.1 c k q), (h.1 w 3 (by omega)).trans hf.2⟩
/-! ===== tells, MEMOS too ===== -/
def TLd (F F9 : mF) (w : Nat) (x1 x2 x3 r : Int32) : Prop := (r = -1 ∧ F9 = F ∧ ¬ HTc F w x1 x2) ∨ (r = -2 ∧ F9 = F ∧ HTc F w x1 x2 ∧ ¬ mbT F (w + 1 + (3 + 4 * x1.toNatClampNeg)) x2.toInt x3.toInt) ∨ (HTc F w x1 x2 ∧ mbT F (w + 1 + (3 + 4 * x1.toNatClampNeg)) x2.toInt x3.toInt ∧ ∃ Fz : mF, ((x2.toInt = 4 → r = F (w + 1 + (3 + 4 * x1.toNatClampNeg)) 7 ∧ Fz = up2 F (w + 1 + (3 + 4 * x1.toNatClampNeg)) 7 x3) ∧ (x2.toInt = 5 → r = F (w + 1 + (3 + 4 * x1.toNatClampNeg)) 8 ∧ Fz = up2 F (w + 1 + (3 + 4 * x1.toNatClampNeg)) 8 x3) ∧ (x2.toInt = 6 → r = F (w + 1 + (3 + 4 * x1.toNatClampNeg)) 9 ∧ Fz = up2 F (w + 1 + (3 + 4 * x1.toNatClampNeg)) 9 x3) ∧ (x2.toInt < 4 → r = F (w + 1 + (3 + 4 * x1.toNatClampNeg) + 1) x2.toNatClampNeg ∧ Fz = up2 F (w + 1 + (3 + 4 * x1.toNatClampNeg) + 1) x2.toNatClampNeg x3)) ∧ MKR Fz F9 w (if x2.toInt < 4 then x1 else F (w + 1 + (3 + 4 * x1.toNatClampNeg)) 5))
theorem TLd_of {F F9 : mF} {w : Nat} {x1 x2 x3 r : Int32} (h : TLd F F9 w x1 x2 x3 r) : ∃ Fz : mF, TLc F Fz w x1 x2 x3 r ∧ ((Fz = F ∧ F9 = F ∧ ¬ (HTc F w x1 x2 ∧ mbT F (w + 1 + (3 + 4 * x1.toNatClampNeg)) x2.toInt x3.toInt)) ∨ (HTc F w x1 x2 ∧ mbT F (w + 1 + (3 + 4 * x1.toNatClampNeg)) x2.toInt x3.toInt ∧ (∃ c k : Nat, ((c = bA w x1.toNatClampNeg ∧ 7 ≤ k ∧ k ≤ 9) ∨ c = bA w x1.toNatClampNeg + 1) ∧ Fz = up2 F c k x3) ∧ MKR Fz F9 w (if x2.toInt < 4 then x1 else F (w + 1 + (3 + 4 * x1.toNatClampNeg)) 5))) := by
  rcases h with h | h | ⟨h1, h2, Fz, ⟨c4, c5, c6, c0⟩, hM⟩
  · exact ⟨F, Or.inl ⟨h.1, rfl, h.2.2⟩, Or.inl ⟨rfl, h.2.1, fun z => h.2.2 z.1⟩⟩
  · exact ⟨F, Or.inr (Or.inl ⟨h.1, rfl, h.2.2.1, h.2.2.2⟩), Or.inl ⟨rfl, h.2.1, fun z => h.2.2.2 z.2⟩⟩
  · refine ⟨Fz, Or.inr (Or.inr ⟨h1, h2, c4, c5, c6, c0⟩), Or.inr ⟨h1, h2, ?_, hM⟩⟩
    by_cases z4 : x2.toInt = 4
    · exact ⟨_, _, Or.inl ⟨rfl, by decide, by decide⟩, (c4 z4).2⟩
    · by_cases z5 : x2.toInt = 5
      · exact ⟨_, _, Or.inl ⟨rfl, by decide, by decide⟩, (c5 z5).2⟩
      · by_cases z6 : x2.toInt = 6
        · exact ⟨_, _, Or.inl ⟨rfl, by decide, by decide⟩, (c6 z6).2⟩
        · have := nNum_4 (F (w + 1 + (3 + 4 * x1.toNatClampNeg)) 4).toInt
          have h3 := h1.2
          exact ⟨_, _, Or.inr rfl, (c0 (by omega)).2⟩
theorem CK_tells {F F9 : mF} {w : Nat} {t t' : Nat → Int32} {x1 x2 x3 r r' : Int32} (h : RT F w t) (hI : TInv0 t) (hJ : TJ t) (hc : CK F w t) (hd : DEPF F w) (hT : TLd F F9 w x1 x2 x3 r) (hr : TLp t t' x1.toInt x2.toInt x3 r') (hI' : TInv0 t') : r = r' ∧ RT F9 w t' ∧ TJ t' ∧ CK F9 w t' ∧ DEPF F9 w ∧ FRW F F9 w := by
  obtain ⟨Fz, h1, h2⟩ := TLd_of hT
  obtain ⟨e, hR, hJ'⟩ := RL_tells h hI hJ h1 hr
  have hf := FR_tells h1
  rcases h2 with ⟨ez, e9, hno⟩ | ⟨c1, c2, ⟨c, k, hck, eF⟩, hM⟩
  · have et : t' = t := by
      rcases hr with d | d | d
      · exact d.2.1
      · exact d.2.1
      · exact absurd ⟨h.ht.mpr d.1, (h.mt hJ d.1).mpr d.2.1⟩ hno
    rw [et, e9]
    exact ⟨e, h, hJ, hc, hd, FRW.refl⟩
  · have p := h.ht.mp c1
    have q := (h.mt hJ p).mp c2
    have d := (hr.resolve_left (fun z => z.2.2 p)).resolve_left (fun z => z.2.2.2 q)
    obtain ⟨p0, p1, p2, p3, p4, p5⟩ := p
    have hK : ∀ b j : Int, AL t b → 1 ≤ j → j ≤ 18 → ¬ (b = x1.toInt ∧ j = 2 + x2.toInt) → K t' b j = K t b j := fun b j hb j1 j2 hn => by
      rw [d.2.2.2.K hb.1 (by omega) j2]; exact up_K p0 (by omega) hb.1 ⟨by omega, j2⟩ hn
    have hK0 : ∀ b : Int, 0 ≤ b → K t' b 0 = K t b 0 := fun b hb => by
      rw [d.2.2.2.K hb (by decide) (by decide)]; exact up_K p0 (by omega) hb ⟨by decide, by decide⟩ (by omega)
    have hal : ∀ b : Int, AL t' b → AL t b := fun b hb => ⟨hb.1, hb.2.1, by rw [← hK0 b hb.1]; exact hb.2.2⟩
    have hFz : ∀ (n k' : Nat), (k' = 6 ∨ 11 ≤ k') → Fz (bA w n) k' = F (bA w n) k' := fun n k' hk' => by
      rw [eF, up2_ne (by unfold bA at hck ⊢; omega)]
    have e5 := (h.bx ⟨p0, p1, p2⟩).2.1
    refine ⟨e, RT_eqm hR hM.eqm, hJ', CK_mark hI hJ hI' hJ' hR hc hM (fun n hn ha => ⟨fun _ => ⟨hFz n 11 (by omega), hFz n 12 (by omega), hFz n 13 (by omega)⟩, fun q => absurd (hal _ ha) q⟩) (fun b _ ha hne => LOC_tell hI hJ hK (by omega) (by omega) ?_ ha hne), DEPF_of hd (fun n hn ha => ⟨?_, ?_⟩), hM.fr hf⟩
    · by_cases z : x2.toInt < 4
      · rw [if_pos z]; exact Or.inl ⟨by omega, rfl⟩
      · rw [if_neg z]; exact Or.inr ⟨by omega, e5⟩
    · rw [hM.1 w 4 (by omega), eF, up2_ne (by unfold bA at hck; omega)] at ha
      exact ha
    · rw [hM.1 _ 6 (by omega)]; exact hFz n 6 (by omega)
theorem CK_fr {F F9 : mF} {w : Nat} {t : Nat → Int32} (hI : TInv0 t) (hJ : TJ t) (hc : CK F w t) (hf : ∀ c k : Nat, w + 1 ≤ c → c < w + 100 → F9 c k = F c k) : CK F9 w t :=
  CK_sub hI hJ hc (fun _ h => h) (fun _ _ => LOC.refl) (fun n hn _ => ⟨hf _ 11 (by unfold bA; omega) (by unfold bA; omega), hf _ 12 (by unfold bA; omega) (by unfold bA; omega), hf _ 13 (by unfold bA; omega) (by unfold bA; omega)⟩)
theorem DEPF_fr {F F9 : mF} {w : Nat} (h : DEPF F w) (h4 : F9 w 4 = F w 4) (hf : ∀ c k : Nat, w + 1 ≤ c → c < w + 100 → F9 c k = F c k) : DEPF F9 w :=
  DEPF_of h (fun n hn ha => ⟨by rw [h4] at ha; exact ha, hf _ 6 (by unfold bA; omega) (by unfold bA; omega)⟩)
/-! ===== comes, MEMOS too ===== -/
theorem brG_m {F : mF} {w m k : Nat} {kd pa dp v0 v1 v2 v3 sh : Int32} (hm : ¬ m = (F w 8).toNatClampNeg) (hk : ¬ k = 10) : brG F w kd pa dp v0 v1 v2 v3 sh (w + 1 + (3 + 4 * m)) k = F (w + 1 + (3 + 4 * m)) k := by
  unfold brG
  by_cases z : pa.toInt = -1
  · rw [if_pos z, up2_ne (by omega), nuF_ne (by omega), kdM_ne (by omega), up2_ne (by omega), up2_ne (by omega)]
  · rw [if_neg z, adF_o (by omega) (by omega), nuF_ne (by omega), kdM_ne (by omega), up2_ne (by omega), up2_ne (by omega)]
theorem CK_br {F F9 : mF} {w : Nat} {t t' : Nat → Int32} {kd pa v0 v1 v2 v3 sh : Int32} {u0 u1 u2 u3 kd' sh' : Int} (h : RT F w t) (hI : TInv0 t) (hJ : TJ t) (hc : CK F w t) (hd : DEPF F w) (h23 : (t 3).toInt ≤ 23) (hpa : pa.toInt = -1 ∨ (AL t pa.toInt ∧ K t pa.toInt 10 ≤ 7)) (e : brX F F9 w kd pa v0 v1 v2 v3 sh) (hx : PX t t' kd' pa.toInt u0 u1 u2 u3 sh') (hR : RT F9 w t') (hI' : TInv0 t') (hJ' : TJ t') : CK F9 w t' ∧ DEPF F9 w := by
  obtain ⟨F1, dp, e1, edp, hM⟩ := e
  have hn0 := hI.1.1
  have h8 := h.1
  have e8 : (F w 8).toNatClampNeg = (F w 8).toInt.toNat := rfl
  obtain ⟨n, en⟩ : ∃ n : Nat, n = (F w 8).toNatClampNeg := ⟨_, rfl⟩
  have en2 : (n : Int) = (t 3).toInt := by omega
  have hp2 : pa.toInt = -1 ∨ (0 ≤ pa.toInt ∧ pa.toInt < (F w 8).toInt) := by
    rcases hpa with q | ⟨q, -⟩
    · exact Or.inl q
    · have := hI.2.1 _ q.1 q.2.1 q.2.2
      exact Or.inr ⟨q.1, by omega⟩
  have hR1 : RT F1 w t' := RT_eqm hR hM.eqm.symm
  obtain ⟨x1, x2, x3, y, z, u⟩ := hx
  have hp10 : ∀ b : Int, 0 ≤ b → b = pa.toInt → 0 ≤ K t pa.toInt 10 := fun b q1 q2 => by
    rcases hpa with q | ⟨q, -⟩
    · omega
    · exact (TI10 hI q.1 q.2.1).1
  have hK : ∀ b j : Int, 0 ≤ b → ¬ b = (t 3).toInt → 0 ≤ j → j ≤ 18 → ¬ (b = pa.toInt ∧ 10 ≤ j) → K t' b j = K t b j := fun b j hb hbn j0 j1 hn => z b j hb hbn j0 j1 (fun q => by
    have := hp10 b hb q.1
    exact hn ⟨q.1, by omega⟩)
  have hlt : ∀ b : Int, AL t b → ¬ b = (t 3).toInt := fun b hb => by have := hI.2.1 b hb.1 hb.2.1 hb.2.2; omega
  have hal : ∀ m : Nat, AL t' (m : Int) → AL t (m : Int) ∨ m = n := fun m hm => by
    by_cases q : m = n
    · exact Or.inr q
    · refine Or.inl ⟨hm.1, hm.2.1, ?_⟩
      rw [← hK (m : Int) 0 hm.1 (by omega) (by decide) (by decide) (by omega)]
      exact hm.2.2
  have hb : ∀ m : Nat, ¬ m = n → ∀ k, ¬ k = 10 → F1 (bA w m) k = F (bA w m) k := fun m hm k hk => by
    rw [e1]; exact brG_m (by rw [← en]; exact hm) hk
  have h11 : F1 (bA w n) 11 = 0 := by
    rw [e1, en, brG_at hp2, kdM_k, if_neg (by decide), if_pos rfl]
  have h6 : F1 (bA w n) 6 = dp := by
    rw [e1, en, brG_at hp2, kdM_k, if_pos rfl]
  refine ⟨CK_mark hI hJ hI' hJ' hR1 hc hM (fun m hm ha => ⟨fun hat => ?_, fun hnat => ?_⟩) (fun b hbb ha hne => ?_), fun m hm ha => ?_⟩
  · have hmn : ¬ m = n := fun q => hlt _ hat (by omega)
    exact ⟨hb m hmn 11 (by decide), hb m hmn 12 (by decide), hb m hmn 13 (by decide)⟩
  · have q := (hal m ha).resolve_left hnat
    rw [q]; exact h11
  · refine LOC_of (p := pa.toInt) hI hJ (fun b j hb j1 j2 hn => hK b j hb.1 (hlt b hb) (by omega) j2 hn) ha ?_
    by_cases q : pa.toInt = -1
    · have := ha.1; omega
    · rw [if_neg q] at hne; exact hne
  · show (F9 (bA w m) 6).toInt ≤ (m : Int)
    have ha' := (hR.bit m).mp ha
    rw [hM.1 _ 6 (by omega)]
    by_cases q : m = n
    · rw [q, h6, edp]
      by_cases q2 : pa.toInt = -1
      · rw [if_pos q2, kI_0]; omega
      · rw [if_neg q2]
        have hpl := (hpa.resolve_left q2).1
        have hpl2 := hI.2.1 _ hpl.1 hpl.2.1 hpl.2.2
        have ep : pa.toNatClampNeg = pa.toInt.toNat := rfl
        have hdp := hd pa.toInt.toNat (by have := hpl.2.1; omega) ((h.al pa).mpr hpl).2.2
        have hpl0 := hpl.1
        rw [ep, i32_add1 (by omega)]
        omega
    · rw [hb m q 6 (by decide)]
      have hat := (hal m ha').resolve_right q
      exact hd m hm ((h.bit m).mpr hat)
theorem CK_comes {F F9 : mF} {w : Nat} {t t' : Nat → Int32} {x1 x2 x3 x4 x5 x6 r r' : Int32} (h : RT F w t) (hI : TInv0 t) (hJ : TJ t) (hc : CK F w t) (hd : DEPF F w) (hT : CMc F F9 w x1 x2 x3 x4 x5 x6 r) (hr : CMp t t' x1.toInt x2.toInt x3.toInt x4.toInt x5.toInt x6.toInt r') (hI' : TInv0 t') : r = r' ∧ RT F9 w t' ∧ TJ t' ∧ CK F9 w t' ∧ DEPF F9 w ∧ FRW F F9 w := by
  obtain ⟨e, hR, hJ'⟩ := RL_comes h hI hJ hT hr
  have hf := FR_comes h hI hJ hT
  have hn0 := hI.1.1
  have key : F9 = F → (r = -1 ∨ r = -2 ∨ r = -3 ∨ r = -4) → CK F9 w t' ∧ DEPF F9 w := fun e9 er => by
    have et : t' = t := by
      rcases hr with d | d | d | d | d
      · exact d.2.1
      · exact d.2.1
      · exact d.2.1
      · exact d.2.1
      · exfalso
        have e5 := d.2.2.2.2.1
        rw [← e] at e5
        rcases er with q | q | q | q <;> rw [q] at e5
        · rw [kI_m1] at e5; omega
        · rw [kI_m2] at e5; omega
        · rw [kI_m3] at e5; omega
        · rw [kI_m4] at e5; omega
    rw [et, e9]; exact ⟨hc, hd⟩
  refine ⟨e, hR, hJ', ?_⟩
  suffices hs : CK F9 w t' ∧ DEPF F9 w from ⟨hs.1, hs.2, hf⟩
  rcases hT with c | c | c | c | c
  · exact key c.2.1 (Or.inl c.1)
  · exact key c.2.1 (Or.inr (Or.inl c.1))
  · exact key c.2.1 (Or.inr (Or.inr (Or.inl c.1)))
  · exact key c.2.1 (Or.inr (Or.inr (Or.inr c.1)))
  · obtain ⟨c1, c2, c3, c4, c5, v0, v1, v2, v3, c6, -⟩ := c
    have h1 := h.1
    have e5 : 0 ≤ r'.toInt := by rw [← e, c5]; omega
    have p := (h.pa x2).mp c1
    have q := (h.rm hI hJ p).mp c3
    rcases hr with d | d | d | d | d
    · exfalso; rw [d.1, kI_m1] at e5; omega
    · exfalso; rw [d.1, kI_m2] at e5; omega
    · exfalso; rw [d.1, kI_m3] at e5; omega
    · exfalso; rw [d.1, kI_m4] at e5; omega
    · obtain ⟨-, -, -, d4, -, u0, u1, u2, u3, -, hx⟩ := d
      refine CK_br h hI hJ hc hd d4 ?_ c6 hx hR hI' hJ'
      rcases p with p | p
      · exact Or.inl p
      · exact Or.inr ⟨p, RM_7 q p.1⟩
/-! ===== moves, MEMOS too ===== -/
def MVd (F F9 : mF) (w : Nat) (x1 x2 r : Int32) : Prop := (r = -1 ∧ F9 = F ∧ ¬ mvH F w x1) ∨ (r = -2 ∧ F9 = F ∧ mvH F w x1 ∧ ¬ (0 ≤ x2.toInt ∧ x2.toInt < (F (w + 1 + (3 + 4 * (F (w + 1 + (3 + 4 * x1.toNatClampNeg)) 5).toNatClampNeg)) 10).toInt)) ∨ (mvH F w x1 ∧ (0 ≤ x2.toInt ∧ x2.toInt < (F (w + 1 + (3 + 4 * (F (w + 1 + (3 + 4 * x1.toNatClampNeg)) 5).toNatClampNeg)) 10).toInt) ∧ (0 ≤ r.toInt ∧ r.toInt < (F (w + 1 + (3 + 4 * (F (w + 1 + (3 + 4 * x1.toNatClampNeg)) 5).toNatClampNeg)) 10).toInt ∧ (F ((w + 1 + (3 + 4 * (F (w + 1 + (3 + 4 * x1.toNatClampNeg)) 5).toNatClampNeg)) + 2) r.toInt.toNat).toInt = x1.toInt ∧ ∀ j : Nat, (j : Int) < r.toInt → ¬ (F ((w + 1 + (3 + 4 * (F (w + 1 + (3 + 4 * x1.toNatClampNeg)) 5).toNatClampNeg)) + 2) j).toInt = x1.toInt) ∧ ((r.toInt = x2.toInt ∧ F9 = F) ∨ (¬ r.toInt = x2.toInt ∧ ∃ Fz : mF, Fz = adF (rmF F (w + 1 + (3 + 4 * (F (w + 1 + (3 + 4 * x1.toNatClampNeg)) 5).toNatClampNeg)) r) (w + 1 + (3 + 4 * (F (w + 1 + (3 + 4 * x1.toNatClampNeg)) 5).toNatClampNeg)) x1 x2 ∧ MKR Fz F9 w (F (w + 1 + (3 + 4 * (F (w + 1 + (3 + 4 * x1.toNatClampNeg)) 5).toNatClampNeg)) 0))))
theorem MVd_of {F F9 : mF} {w : Nat} {x1 x2 r : Int32} (h : MVd F F9 w x1 x2 r) : ∃ Fz : mF, MVc F Fz w x1 x2 r ∧ ((Fz = F ∧ F9 = F ∧ (r = -1 ∨ r = -2 ∨ r.toInt = x2.toInt)) ∨ (mvH F w x1 ∧ 0 ≤ r.toInt ∧ Fz = adF (rmF F (w + 1 + (3 + 4 * (F (w + 1 + (3 + 4 * x1.toNatClampNeg)) 5).toNatClampNeg)) r) (w + 1 + (3 + 4 * (F (w + 1 + (3 + 4 * x1.toNatClampNeg)) 5).toNatClampNeg)) x1 x2 ∧ MKR Fz F9 w (F (w + 1 + (3 + 4 * (F (w + 1 + (3 + 4 * x1.toNatClampNeg)) 5).toNatClampNeg)) 0))) := by
  rcases h with h | h | ⟨h1, h2, h3, h4 | ⟨h4, Fz, h5, h6⟩⟩
  · exact ⟨F, Or.inl ⟨h.1, rfl, h.2.2⟩, Or.inl ⟨rfl, h.2.1, Or.inl h.1⟩⟩
  · exact ⟨F, Or.inr (Or.inl ⟨h.1, rfl, h.2.2⟩), Or.inl ⟨rfl, h.2.1, Or.inr (Or.inl h.1)⟩⟩
  · exact ⟨F, Or.inr (Or.inr ⟨h1, h2, h3, Or.inl ⟨h4.1, rfl⟩⟩), Or.inl ⟨rfl, h4.2, Or.inr (Or.inr h4.1)⟩⟩
  · exact ⟨Fz, Or.inr (Or.inr ⟨h1, h2, h3, Or.inr ⟨h4, h5⟩⟩), Or.inr ⟨h1, h3.1, h5, h6⟩⟩
theorem CK_moves {F F9 : mF} {w : Nat} {t t' : Nat → Int32} {x1 x2 r r' : Int32} (h : RT F w t) (hI : TInv0 t) (hJ : TJ t) (hc : CK F w t) (hd : DEPF F w) (hT : MVd F F9 w x1 x2 r) (hr : MVp t t' x1.toInt x2.toInt r') (hI' : TInv0 t') : r = r' ∧ RT F9 w t' ∧ TJ t' ∧ CK F9 w t' ∧ DEPF F9 w ∧ FRW F F9 w := by
  obtain ⟨Fz, h1, h2⟩ := MVd_of hT
  obtain ⟨e, hR, hJ'⟩ := RL_moves h hI hJ h1 hr
  have hf := FR_moves h1
  rcases h2 with ⟨ez, e9, er⟩ | ⟨c1, c2, eF, hM⟩
  · rw [e9]
    rw [ez] at hR
    refine ⟨e, hR, hJ', ?_, hd, FRW.refl⟩
    rcases hr with d | d | ⟨⟨d1, d2⟩, d3, ⟨d4, d5, d6⟩, m0, m3, mK, mi, mj⟩
    · rw [d.2.1]; exact hc
    · rw [d.2.1]; exact hc
    · have hri : r'.toInt = x2.toInt := by
        rcases er with q | q | q
        · exfalso; rw [← e, q, kI_m1] at d4; omega
        · exfalso; rw [← e, q, kI_m2] at d4; omega
        · rw [← e]; exact q
      have hs : ∀ b : Int, AL t' b → AL t b := fun b hb => ⟨hb.1, hb.2.1, by rw [← mK b 0 hb.1 (by decide) (by decide) (by omega)]; exact hb.2.2⟩
      refine CK_sub hI' hJ' hc hs (fun b hb => ?_) (fun _ _ _ => ⟨rfl, rfl, rfl⟩)
      have hb := hs b hb
      have h8 := TI10 hI hb.1 hb.2.1
      refine ⟨mK b 1 hb.1 (by decide) (by decide) (by omega), mK b 2 hb.1 (by decide) (by decide) (by omega), mK b 3 hb.1 (by decide) (by decide) (by omega), mK b 10 hb.1 (by decide) (by decide) (by omega), fun i i0 i1 => ?_⟩
      have hcc := hJ.2.1 b i hb i0 i1
      refine ⟨?_, mK _ 7 hcc.1 (by decide) (by decide) (by omega), mK _ 8 hcc.1 (by decide) (by decide) (by omega)⟩
      by_cases z : b = K t x1.toInt 9
      · rw [z] at i1 ⊢
        by_cases y : i = x2.toInt
        · rw [y, mi, ← hri]; exact d6.symm
        · exact (mj i i0 i1 y).2.2 ⟨by omega, by omega⟩
      · exact mK b (11 + i) hb.1 (by omega) (by omega) (fun q => z q.1)
  · rcases hr with d | d | ⟨⟨d1, d2⟩, d3, ⟨d4, d5, d6⟩, m0, m3, mK, mi, mj⟩
    · exfalso; rw [e, d.1, kI_m1] at c2; omega
    · exfalso; rw [e, d.1, kI_m2] at c2; omega
    · have ha : AL t x1.toInt := d1
      have hpa := hJ.1 _ ha d2
      have e5 := (h.bx ha).2.1
      obtain ⟨p, ep⟩ : ∃ p, p = (F (w + 1 + (3 + 4 * x1.toNatClampNeg)) 5).toNatClampNeg := ⟨_, rfl⟩
      have ep2 : (p : Int) = K t x1.toInt 9 := by
        have e6 : (F (w + 1 + (3 + 4 * x1.toNatClampNeg)) 5).toNatClampNeg = (F (w + 1 + (3 + 4 * x1.toNatClampNeg)) 5).toInt.toNat := rfl
        omega
      have hp23 : p ≤ 23 := by have := hpa.2.1; omega
      rw [← ep] at eF hM
      have e0 : (F (w + 1 + (3 + 4 * p)) 0).toInt = (p : Int) := h.2.2.2.1 p hp23
      have hs : ∀ b : Int, AL t' b → AL t b := fun b hb => ⟨hb.1, hb.2.1, by rw [← mK b 0 hb.1 (by decide) (by decide) (by omega)]; exact hb.2.2⟩
      have hFz : ∀ (n k' : Nat), (k' = 6 ∨ 11 ≤ k') → Fz (bA w n) k' = F (bA w n) k' := fun n k' hk' => by
        rw [eF, adF_o (by omega) (by unfold bA; omega), rmF_o (by omega) (by unfold bA; omega)]
      refine ⟨e, RT_eqm hR hM.eqm, hJ', CK_mark hI hJ hI' hJ' hR hc hM (fun n hn ha => ⟨fun _ => ⟨hFz n 11 (by omega), hFz n 12 (by omega), hFz n 13 (by omega)⟩, fun q => absurd (hs _ ha) q⟩) (fun b _ ha hne => LOC_of (p := K t x1.toInt 9) hI hJ (fun b j hb j1 j2 hn => mK b j hb.1 (by omega) j2 (by omega)) ha (by rw [e0, ep2] at hne; exact hne)), DEPF_of hd (fun n hn ha => ⟨?_, ?_⟩), hM.fr hf⟩
      · rw [hM.1 w 4 (by omega), eF, adF_o (by omega) (by omega), rmF_o (by omega) (by omega)] at ha
        exact ha
      · rw [hM.1 _ 6 (by omega)]; exact hFz n 6 (by omega)
/-! ===== drops, MEMOS too ===== -/
def DPd (F F9 : mF) (w : Nat) (x1 r : Int32) : Prop := (r = -1 ∧ F9 = F ∧ ¬ (0 ≤ x1.toInt ∧ x1.toInt ≤ 23 ∧ tB (F w 4) x1.toInt.toNat)) ∨ ((0 ≤ x1.toInt ∧ x1.toInt ≤ 23 ∧ tB (F w 4) x1.toInt.toNat) ∧ ∃ th : Int32, (∀ n : Nat, tB th n ↔ tB (F w 4) n ∧ ¬ sbF F w 24 (w + 1 + (3 + 4 * x1.toNatClampNeg)) n) ∧ r = bcE (F w 4) - bcE th ∧ (((0 ≤ (F (w + 1 + (3 + 4 * x1.toNatClampNeg)) 5).toInt ∧ (F (w + 1 + (3 + 4 * x1.toNatClampNeg)) 5).toInt ≤ 23 ∧ tB th (F (w + 1 + (3 + 4 * x1.toNatClampNeg)) 5).toInt.toNat) ∧ ∃ pl : Int32, (0 ≤ pl.toInt ∧ pl.toInt < (F (w + 1 + (3 + 4 * (F (w + 1 + (3 + 4 * x1.toNatClampNeg)) 5).toNatClampNeg)) 10).toInt ∧ (F ((w + 1 + (3 + 4 * (F (w + 1 + (3 + 4 * x1.toNatClampNeg)) 5).toNatClampNeg)) + 2) pl.toInt.toNat).toInt = x1.toInt ∧ ∀ j : Nat, (j : Int) < pl.toInt → ¬ (F ((w + 1 + (3 + 4 * (F (w + 1 + (3 + 4 * x1.toNatClampNeg)) 5).toNatClampNeg)) + 2) j).toInt = x1.toInt) ∧ ∃ Fz : mF, Fz = rmF (up2 F w 4 th) (w + 1 + (3 + 4 * (F (w + 1 + (3 + 4 * x1.toNatClampNeg)) 5).toNatClampNeg)) pl ∧ MKR Fz F9 w (F (w + 1 + (3 + 4 * x1.toNatClampNeg)) 5)) ∨ (¬ (0 ≤ (F (w + 1 + (3 + 4 * x1.toNatClampNeg)) 5).toInt ∧ (F (w + 1 + (3 + 4 * x1.toNatClampNeg)) 5).toInt ≤ 23 ∧ tB th (F (w + 1 + (3 + 4 * x1.toNatClampNeg)) 5).toInt.toNat) ∧ F9 = up2 (up2 F w 4 th) w 9 (-1))))
theorem DPd_of {F F9 : mF} {w : Nat} {x1 r : Int32} (h : DPd F F9 w x1 r) : ∃ Fz : mF, DPc F Fz w x1 r ∧ ((F9 = F ∧ Fz = F ∧ ¬ (0 ≤ x1.toInt ∧ x1.toInt ≤ 23 ∧ tB (F w 4) x1.toInt.toNat)) ∨ ((0 ≤ x1.toInt ∧ x1.toInt ≤ 23 ∧ tB (F w 4) x1.toInt.toNat) ∧ (∀ n k : Nat, (k = 6 ∨ 11 ≤ k) → Fz (bA w n) k = F (bA w n) k) ∧ ((F9 = Fz ∧ ¬ (0 ≤ (F (w + 1 + (3 + 4 * x1.toNatClampNeg)) 5).toInt ∧ (F (w + 1 + (3 + 4 * x1.toNatClampNeg)) 5).toInt ≤ 23 ∧ tB (Fz w 4) (F (w + 1 + (3 + 4 * x1.toNatClampNeg)) 5).toInt.toNat)) ∨ MKR Fz F9 w (F (w + 1 + (3 + 4 * x1.toNatClampNeg)) 5)))) := by
  rcases h with h | ⟨h1, th, h2, h3, ⟨h4, pl, h5, Fz, h6, h7⟩ | ⟨h4, h5⟩⟩
  · exact ⟨F, Or.inl ⟨h.1, rfl, h.2.2⟩, Or.inl ⟨h.2.1, rfl, h.2.2⟩⟩
  · refine ⟨Fz, Or.inr ⟨h1, th, h2, h3, Or.inl ⟨h4, pl, h5, h6⟩⟩, Or.inr ⟨h1, fun n k hk => ?_, Or.inr h7⟩⟩
    rw [h6, rmF_o (by omega) (by unfold bA; omega), up2_ne (by unfold bA; omega)]
  · refine ⟨F9, Or.inr ⟨h1, th, h2, h3, Or.inr ⟨h4, h5⟩⟩, Or.inr ⟨h1, fun n k hk => ?_, Or.inl ⟨rfl, ?_⟩⟩⟩
    · rw [h5, up2_ne (by unfold bA; omega), up2_ne (by unfold bA; omega)]
    · rw [show F9 w 4 = th by rw [h5, up2_ne (by omega), up2_at]]; exact h4
theorem CK_drops {F F9 : mF} {w : Nat} {t t' : Nat → Int32} {x1 r r' : Int32} (h : RT F w t) (hI : TInv0 t) (hJ : TJ t) (hc : CK F w t) (hd : DEPF F w) (hT : DPd F F9 w x1 r) (hr : DPx t t' x1.toInt r') (hI' : TInv0 t') : RT F9 w t' ∧ TJ t' ∧ CK F9 w t' ∧ DEPF F9 w ∧ FRW F F9 w := by
  obtain ⟨Fz, h1, h2⟩ := DPd_of hT
  obtain ⟨-, hR, hJ'⟩ := RL_drops h hI hJ h1 hr
  have hf := FR_drops h1
  rcases h2 with ⟨e9, ez, hno⟩ | ⟨hal, hFz, h3⟩
  · have ha : ¬ AL t x1.toInt := fun q => hno ((h.al x1).mpr q)
    have d := hr.resolve_right (fun z => ha z.1)
    rw [d.2.1, e9]
    exact ⟨h, hJ, hc, hd, FRW.refl⟩
  · have ha : AL t x1.toInt := (h.al x1).mp hal
    obtain ⟨th, t1, o, hcu, hbt, hgn, hag⟩ := (hr.resolve_left (fun z => z.2.2 ha)).2
    obtain ⟨u1, u2, u3, u4, u5⟩ := hcu
    obtain ⟨g1, g2, g3, g4, -⟩ := hgn
    have e5 := (h.bx ha).2.1
    have hK : ∀ b j : Int, AL t b → 1 ≤ j → j ≤ 18 → ¬ (b = K t x1.toInt 9 ∧ 10 ≤ j) → K t' b j = K t b j := fun b j hb j1 j2 hn => by
      rw [hag.K hb.1 (by omega) j2]
      show (t1 (ix b j)).toInt = (t (ix b j)).toInt
      rw [g3 b j hb.1 hb.2.1 j1 j2, u4 b j hb.1 (by omega) (by omega) (by omega)]
    have hs : ∀ b : Int, AL t' b → AL t b := fun b hb => by
      have hb0 := hb.1
      have hb2 := hb.2.1
      have h0 : K t1 b 0 = 1 := by rw [← hag.K hb.1 (by decide) (by decide)]; exact hb.2.2
      obtain ⟨k1, k2⟩ := g4 b.toNat (by omega)
      rw [show ((b.toNat : Nat) : Int) = b by omega] at k1 k2
      have hu : K th b 0 = K t b 0 := congrArg Int32.toInt (u4 b 0 hb.1 (by decide) (by decide) (by omega))
      by_cases z : b < 24 ∧ tB o b.toNat
      · rw [k1 z] at h0; omega
      · exact ⟨hb.1, hb.2.1, by rw [← hu, ← k2 z]; exact h0⟩
    rcases h3 with ⟨e9, hno⟩ | hM
    · subst e9
      refine ⟨hR, hJ', CK_sub hI' hJ' hc hs (fun b hb => LOC_of hI hJ hK (hs b hb) (fun q => hno ?_)) (fun n _ _ => ⟨hFz n 11 (by omega), hFz n 12 (by omega), hFz n 13 (by omega)⟩), DEPF_of hd (fun n hn hna => ⟨(h.bit n).mpr (hs _ ((hR.bit n).mp hna)), hFz n 6 (by omega)⟩), hf⟩
      exact (hR.al _).mpr (by rw [e5, ← q]; exact hb)
    · have hR9 := RT_eqm hR hM.eqm
      refine ⟨hR9, hJ', CK_mark hI hJ hI' hJ' hR hc hM (fun n hn hna => ⟨fun _ => ⟨hFz n 11 (by omega), hFz n 12 (by omega), hFz n 13 (by omega)⟩, fun q => absurd (hs _ hna) q⟩) (fun b _ hb hne => LOC_of hI hJ hK hb (by rw [e5] at hne; exact hne)), DEPF_of hd (fun n hn hna => ⟨(h.bit n).mpr (hs _ ((hR9.bit n).mp hna)), ?_⟩), hM.fr hf⟩
      rw [hM.1 _ 6 (by omega)]; exact hFz n 6 (by omega)
