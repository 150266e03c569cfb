/-! ===== asks, lays ===== -/
def ASc (F F9 : mF) (w : Nat) (x1 x2 r : Int32) : Prop := (¬ (0 ≤ x1.toInt ∧ x1.toInt ≤ 23 ∧ tB (F w 4) x1.toInt.toNat ∧ (x2.toInt = 0 ∨ x2.toInt = 1)) ∧ r = -1 ∧ F9 = F) ∨ ((0 ≤ x1.toInt ∧ x1.toInt ≤ 23 ∧ tB (F w 4) x1.toInt.toNat ∧ (x2.toInt = 0 ∨ x2.toInt = 1)) ∧ MMx F F9 w ∧ CINV F9 w ∧ r.toInt = asT (kT F w) 24 x1.toInt x2.toInt)
def ASx (t : Nat → Int32) (x1 x2 : Int) (r : Int32) : Prop := ((0 ≤ x1 ∧ x1 ≤ 23 ∧ K t x1 0 = 1 ∧ 0 ≤ x2 ∧ x2 ≤ 1) ∧ r.toInt = asT (K t) 24 x1 x2) ∨ (¬ (0 ≤ x1 ∧ x1 ≤ 23 ∧ K t x1 0 = 1 ∧ 0 ≤ x2 ∧ x2 ≤ 1) ∧ r = -1)
theorem FRX.frw {F F9 : mF} {w : Nat} (h : FRX F F9 w) : FRW F F9 w := ⟨fun c k q => h c k (by omega), h w 3 (by omega)⟩
theorem CK_frx {F F9 : mF} {w : Nat} {t : Nat → Int32} (h : RT F w t) (hI : TInv0 t) (hJ : TJ t) (hd : DEPF F w) (hf : FRX F F9 w) (hC : CINV F9 w) : RT F9 w t ∧ CK F9 w t ∧ DEPF F9 w ∧ FRW F F9 w := by
  have hR := RT_eqm h hf.eqm
  refine ⟨hR, C_CK hR hI hJ hC, DEPF_of hd (fun n hn ha => ⟨?_, ?_⟩), hf.frw⟩
  · rw [hf w 4 (by omega)] at ha; exact ha
  · rw [hf _ 6 (by omega)]
theorem RL_asks {F F9 : mF} {w : Nat} {t : Nat → Int32} {x1 x2 r r' : Int32} (h : RT F w t) (hI : TInv0 t) (hJ : TJ t) (hc : CK F w t) (hd : DEPF F w) (hT : ASc F F9 w x1 x2 r) (hr : ASx t x1.toInt x2.toInt r') : r = r' ∧ RT F9 w t ∧ CK F9 w t ∧ DEPF F9 w ∧ FRW F F9 w := by
  have hal := h.al x1
  by_cases z : AL t x1.toInt ∧ (x2.toInt = 0 ∨ x2.toInt = 1)
  · have hz := hal.mpr z.1
    have c := hT.resolve_left (fun q => q.1 ⟨hz.1, hz.2.1, hz.2.2, z.2⟩)
    have d := hr.resolve_right (fun q => q.1 ⟨z.1.1, z.1.2.1, z.1.2.2, by have := z.2; omega, by have := z.2; omega⟩)
    obtain ⟨-, hM, hC, er⟩ := c
    obtain ⟨g1, g2, g3, g4⟩ := CK_frx h hI hJ hd hM.1 hC
    exact ⟨Int32.toInt_inj.mp (by rw [er, d.2]; exact asT_kT h hI hJ z.1), g1, g2, g3, g4⟩
  · have c := hT.resolve_right (fun q => z ⟨hal.mp ⟨q.1.1, q.1.2.1, q.1.2.2.1⟩, q.1.2.2.2⟩)
    have d := hr.resolve_left (fun q => z ⟨⟨q.1.1, q.1.2.1, q.1.2.2.1⟩, by have := q.1.2.2.2; omega⟩)
    rw [c.2.2]
    exact ⟨c.2.1.trans d.2.symm, h, hc, hd, FRW.refl⟩
