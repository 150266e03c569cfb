/-! ===== the reference reads: the whole tree ===== -/
theorem cn_cnt {F : mF} {j : Int} : ∀ n : Nat, cn F j n = cnt (qP F) n j
  | 0 => rfl
  | n + 1 => by
    show cn F j n + (if (F 17 (8 * n + 6)).toInt = j then 1 else 0) = cnt (qP F) n j + (if qP F n = j then 1 else 0)
    rw [cn_cnt n]; rfl
/-- before a box -/
def EVI (cm : Int) (F : mF) : Prop := STK F ∧ PB (qP F) (F 1 30).toInt.toNat ∧ (-1 ≤ wT F ∧ wT F < (F 1 30).toInt) ∧ RDn (LF F 15) (F 1 25).toInt (24 - cm) (qK F) (qP F) (qS F) (qN F) (F 1 30).toInt.toNat (F 1 26).toInt (wT F)
theorem EVI_0 {cm : Int} {F : mF} (h30 : (F 1 30).toInt = 0) (h32 : (F 1 32).toInt = 0) (h26 : (F 1 26).toInt = 0) : EVI cm F := by
  have e : (F 1 30).toInt.toNat = 0 := by omega
  have w := wT_no (F := F) (by omega)
  refine ⟨fun i hi => by omega, fun j hj => by omega, by omega, ?_⟩
  rw [e]
  exact ⟨h26, w⟩
/-- behind a box -/
def AFB (cm : Int) (F : mF) : Prop := STK F ∧ PB (qP F) (F 1 30).toInt.toNat ∧ 1 ≤ (F 1 30).toInt ∧ qP F ((F 1 30).toInt - 1).toNat = wT F ∧ (-1 ≤ wT F ∧ wT F < (F 1 30).toInt - 1) ∧ ∃ p, RDn (LF F 15) (F 1 25).toInt (24 - cm) (qK F) (qP F) (qS F) (qN F) ((F 1 30).toInt - 1).toNat p (wT F) ∧ BXok (LF F 15) (F 1 25).toInt (24 - cm) ((((F 1 30).toInt - 1).toNat : Nat) : Int) p (wT F) (qK F) (fun j => cnt (qP F) ((F 1 30).toInt - 1).toNat j) (qK F ((F 1 30).toInt - 1).toNat) (qN F ((F 1 30).toInt - 1).toNat) (qS F ((F 1 30).toInt - 1).toNat) (F 1 26).toInt
theorem AFB_le {cm : Int} {F : mF} (h : AFB cm F) : (F 1 26).toInt ≤ (F 1 25).toInt := by
  obtain ⟨-, -, -, -, -, p, -, h2⟩ := h
  exact BXok_le h2
theorem qC_cnt {cm : Int} {F : mF} (hV : RV cm F) {par : Int} (h : par < (F 1 30).toInt) (h0 : 0 ≤ par) : cnt (qP F) (F 1 30).toInt.toNat (par.toNat : Nat) = qC F par.toNat := by
  have := (hV.2.2.2.2.2.2 par.toNat (by omega)).2.2.1
  unfold qC
  rw [this, cn_cnt]
theorem AFB_of {cm : Int} {Fa F : mF} (hV : RV cm Fa) (hE : EVI cm Fa) (hX : BXx cm Fa F) (hb : (F 1 27).toInt = 0) (h30 : (F 1 30).toInt = (Fa 1 30).toInt + 1) : AFB cm F := by
  obtain ⟨e1, e2, e3, e4⟩ := hE
  obtain ⟨⟨f1, f2, ⟨f3, f4⟩, f5⟩, x2, x3⟩ := hX
  have x2 := x2 hb
  have x3 := (x3.resolve_right (fun q => by omega)).2
  have hV0 := hV.1
  obtain ⟨n, en⟩ : ∃ n, n = (Fa 1 30).toInt.toNat := ⟨_, rfl⟩
  have en1 : ((F 1 30).toInt - 1).toNat = n := by omega
  have en2 : (F 1 30).toInt.toNat = n + 1 := by omega
  have eni : (Fa 1 30).toInt = (n : Int) := by omega
  have hw : wT F = wT Fa := wT_of f1 f2
  rw [← en] at f5 x2 x3 e2 e4
  have oK : ∀ j, j < n → qK F j = qK Fa j := fun j hj => by
    have := f5 j 0 hj (by decide)
    unfold qK
    rw [Nat.add_zero] at this
    rw [this]
  have oP : ∀ j, j < n → qP F j = qP Fa j := fun j hj => by unfold qP; rw [f5 j 6 hj (by decide)]
  have oS : ∀ j, j < n → qS F j = qS Fa j := fun j hj => by unfold qS; rw [f5 j 5 hj (by decide)]
  have oN : ∀ j, j < n → ∀ i, i < 4 → qN F j i = qN Fa j i := fun j hj i hi => by unfold qN; rw [Nat.add_assoc, f5 j (1 + i) hj (by omega)]
  have hB : PB (qP F) (n + 1) := fun j hj => by
    by_cases z : j = n
    · rw [z, x2]; omega
    · rw [oP j (by omega)]; exact e2 j (by omega)
  unfold AFB
  rw [en1, en2, h30, hw, f3, f4]
  refine ⟨fun i hi => ?_, hB, by omega, x2, by omega, (Fa 1 26).toInt, ?_, ?_⟩
  · rw [f2] at hi
    rw [f1]
    have hr := hV.2.2.2.2.2.1 i hi
    rw [oP _ (by omega)]
    exact e1 i hi
  · exact RDn_eq n _ _ e2 (fun j hj => ⟨oK j hj, oP j hj, oS j hj, oN j hj⟩) e4
  · rw [eni] at x3
    refine BXok_eq (fun q => oK _ (by omega)) (fun q => ?_) e3.1 (fun j _ => rfl) x3
    have := qC_cnt hV e3.2 q
    rw [← en] at this
    rw [← this]
    show cnt (qP F) n _ = cnt (qP Fa) n _
    exact cnt_eq n oP
theorem BAD_of {cm : Int} {Fa F : mF} (hV : RV cm Fa) (hE : EVI cm Fa) (hX : BXx cm Fa F) (hb : ¬ (F 1 27).toInt = 0) : (F 1 27).toInt = 1 ∧ RDbd (LF F 15) (F 1 25).toInt (24 - cm) (F 1 26).toInt := by
  obtain ⟨e1, e2, e3, e4⟩ := hE
  obtain ⟨⟨f1, f2, ⟨f3, f4⟩, f5⟩, x2, x3⟩ := hX
  have x3 := x3.resolve_left (fun q => hb q.1)
  have hV0 := hV.1
  rw [f3, f4]
  refine ⟨x3.1, qK Fa, qP Fa, qS Fa, qN Fa, (Fa 1 30).toInt.toNat, (Fa 1 26).toInt, wT Fa, e2, e3.1, by omega, e4, Or.inl ?_⟩
  have eni : (((Fa 1 30).toInt.toNat : Nat) : Int) = (Fa 1 30).toInt := by omega
  rw [eni]
  have hC : ∀ q : 0 ≤ wT Fa, cnt (qP Fa) (Fa 1 30).toInt.toNat ((wT Fa).toNat : Nat) = qC Fa (wT Fa).toNat := fun q => qC_cnt hV e3.2 q
  have hr : BXr (24 - cm) (Fa 1 30).toInt (wT Fa) (qK Fa) (fun j => cnt (qP Fa) (Fa 1 30).toInt.toNat (j : Nat)) ↔ BXr (24 - cm) (Fa 1 30).toInt (wT Fa) (qK Fa) (qC Fa) := ⟨BXr_eq (fun _ => rfl) (fun q => (hC q).symm) e3.1, BXr_eq (fun _ => rfl) (fun q => hC q) e3.1⟩
  rcases x3.2 with ⟨y1, y2⟩ | ⟨y1, y2⟩
  · exact Or.inl ⟨fun q => y1 (hr.mp q), y2⟩
  · exact Or.inr ⟨hr.mpr y1, y2⟩
/-- all is read -/
def DON (cm : Int) (F : mF) : Prop := RDok (LF F 15) (F 1 25).toInt (24 - cm) (qK F) (qP F) (qS F) (qN F) (F 1 30).toInt.toNat ∧ PB (qP F) (F 1 30).toInt.toNat
theorem q_17 {F F' : mF} (h : F' 17 = F 17) : qK F' = qK F ∧ qP F' = qP F ∧ qS F' = qS F ∧ qN F' = qN F := by
  unfold qK qP qS qN
  rw [h]
  exact ⟨rfl, rfl, rfl, rfl⟩
theorem GO_r1 {cm : Int} {F F' : mF} (hA : AFB cm F) (hG : GOx F F' 1) : EVI cm F' := by
  obtain ⟨⟨g1, g2, g3, g4⟩, hG⟩ := hG
  obtain ⟨-, -, hS, hP⟩ := hG.resolve_right (fun q => by rcases q with q | q <;> exact absurd q.1 (by decide))
  obtain ⟨a1, a2, a3, a4, a5, p, a6, a7⟩ := hA
  obtain ⟨k1, k2, k3, k4⟩ := q_17 g2
  obtain ⟨n, en⟩ : ∃ n, n = ((F 1 30).toInt - 1).toNat := ⟨_, rfl⟩
  have en2 : (F 1 30).toInt.toNat = n + 1 := by omega
  have en3 : (F 1 30).toInt = ((n + 1 : Nat) : Int) := by omega
  rw [← en] at a4 a6 a7
  rw [en2] at a2
  unfold EVI
  rw [g1, g3, g4, k1, k2, k3, k4, en2]
  have hw : -1 ≤ wT F' ∧ wT F' < ((n + 1 : Nat) : Int) := by
    rcases hP with ⟨-, q, -⟩ | ⟨-, k, q1, q2, -⟩
    · omega
    · rw [← en, a4] at q1
      have := UPk_lt (n := n + 1) a2 (by omega) k _ q1
      omega
  refine ⟨hS, a2, by omega, p, (F 1 26).toInt, by rw [a4]; exact a6, by rw [a4]; exact a7, ?_⟩
  rw [← en3]; exact hP
theorem GO_r0 {cm : Int} {F F' : mF} (hA : AFB cm F) (hG : GOx F F' 0) : ((F' 1 27).toInt = 0 ∧ DON cm F') ∨ ((F' 1 27).toInt = 1 ∧ RDbd (LF F' 15) (F' 1 25).toInt (24 - cm) (F' 1 26).toInt) := by
  obtain ⟨⟨g1, g2, g3, g4⟩, hG⟩ := hG
  have hG := hG.resolve_left (fun q => absurd q.1 (by decide))
  obtain ⟨a1, a2, a3, a4, a5, p, a6, a7⟩ := hA
  obtain ⟨k1, k2, k3, k4⟩ := q_17 g2
  obtain ⟨n, en⟩ : ∃ n, n = ((F 1 30).toInt - 1).toNat := ⟨_, rfl⟩
  have en2 : (F 1 30).toInt.toNat = n + 1 := by omega
  have en3 : (F 1 30).toInt = ((n + 1 : Nat) : Int) := by omega
  rw [← en] at a4 a6 a7
  rw [en2] at a2
  have hBn : PB (qP F) n := fun j hj => a2 j (by omega)
  unfold DON
  rw [g1, g3, g4, k1, k2, k3, k4, en2]
  rcases hG with ⟨-, h1, h2⟩ | ⟨-, h1, h2⟩
  · rw [en3] at h2
    rcases h1 with ⟨h1, h3⟩ | ⟨h1, h3⟩
    · refine Or.inl ⟨h1, ⟨n, p, (F 1 26).toInt, rfl, by rw [a4]; exact a6, by rw [a4]; exact a7, ?_⟩, a2⟩
      rw [h3] at h2; exact h2
    · exact Or.inr ⟨h1, qK F, qP F, qS F, qN F, n, p, wT F, hBn, a5.1, by omega, a6, Or.inr ⟨(F 1 26).toInt, a4, a7, Or.inr ⟨h2, h3⟩⟩⟩
  · rw [en3] at h2
    exact Or.inr ⟨h1, qK F, qP F, qS F, qN F, n, p, wT F, hBn, a5.1, by omega, a6, Or.inr ⟨(F 1 26).toInt, a4, a7, Or.inl h2⟩⟩
theorem GO_fr {F F' : mF} {r : Int} (hG : GOx F F' r) {A : Nat → Int} {B : Int32} (h : LF F 15 = A ∧ F 1 25 = B) : LF F' 15 = A ∧ F' 1 25 = B := ⟨hG.1.2.2.1.trans h.1, hG.1.2.2.2.trans h.2⟩
/-- the boxes that are read come, one by one -/
def RQ (ta : Nat → Int32) (F : mF) (par fr : Int) : Nat → (Nat → Int32) → Prop
  | 0, t => t = ta
  | i + 1, t => ∃ (t0 : Nat → Int32) (v0 v1 v2 v3 : Int), RQ ta F par fr i t0 ∧ MK (qK F i) (qN F i 0) (qN F i 1) (qN F i 2) (qN F i 3) v0 v1 v2 v3 ∧ PX t0 t (qK F i) (if i = 0 then par else fr + qP F i) v0 v1 v2 v3 (qS F i)
theorem PX.br {ta t : Nat → Int32} {kd p v0 v1 v2 v3 sh : Int} (h : PX ta t kd p v0 v1 v2 v3 sh) (hp : p < 0 ∨ 0 ≤ K ta p 10) : PBr ta t kd p := by
  obtain ⟨h1, h2, h2', ⟨g0, g1, g2, g3, g4, g5, g6, g7, g8, g9, g10⟩, h4, h5⟩ := h
  refine ⟨h1, g0, g10, g1, fun b q1 q2 q3 => ⟨h4 b 0 q1 q3 (by decide) (by decide) (by omega), h4 b 1 q1 q3 (by decide) (by decide) (by omega), ?_⟩⟩
  by_cases z : b = p
  · rw [z]; exact Or.inl ⟨rfl, (h5 (by omega)).1⟩
  · exact Or.inr ⟨z, h4 b 10 q1 q3 (by decide) (by decide) (fun y => z y.1)⟩
theorem TI_p {t : Nat → Int32} {p : Int} (hI : TInv t) (hp : p ≤ 23) : p < 0 ∨ 0 ≤ K t p 10 := by
  by_cases z : p < 0
  · exact Or.inl z
  · exact Or.inr (hI.2.2.2.2.2.2.2.2 p (by omega) hp).1
/-- what reads() does -/
def RDx (G : tG) (ta : Nat → Int32) (x1 : Int) (r : Int32) (t : Nat → Int32) (W : mF) : Prop := (r = -1 ∧ t = ta ∧ W = FM G ∧ ¬ PAl ta x1) ∨ (r = -3 ∧ t = ta ∧ W = FM G ∧ PAl ta x1 ∧ ¬ RMe ta x1) ∨ (PAl ta x1 ∧ RMe ta x1 ∧ W = up2 (FM G) 1 25 0 ∧ ((∃ q : Int, 0 ≤ q ∧ q ≤ 120 ∧ RDbd (LF (FM G) 15) (FM G 1 25).toInt (24 - (ta 3).toInt) q ∧ r.toInt = -100 - q ∧ t = ta) ∨ ∃ (F : mF) (n : Nat), RDok (LF (FM G) 15) (FM G 1 25).toInt (24 - (ta 3).toInt) (qK F) (qP F) (qS F) (qN F) n ∧ PB (qP F) n ∧ r.toInt = n ∧ RQ ta F x1 (ta 3).toInt n t))
section MKS
variable {p : Program} {l : Launch} {e : Env} {R : Room} {s : State} {m : MethodId} {args : Array Value} {below : List Frame} {meth : Method} {c : Code} {H : Heap} {locs : List Loc} {Q : State → Prop}
variable {cc : ByteArray} {pc : Nat} {ls : Array Slot} {rest : List Value} {a k index : Nat} {G : tG} {nL : Nat} {Y : mY} {lo hi : Int} {cells slots : Nat}
theorem mc_putXM (E : tE G p s m c args RX10 cc nL) (hG : mGH G Y s H locs) (ha : Y.1 a = 1) {ty : FieldType} (hf : tFp RX10 index 9 k ty) (hd : mFD 1 k = (0, lo, hi)) {x : Int32} (h1 : lo ≤ x.toInt) (h2 : x.toInt ≤ hi) (hn : narrow ty (.int x) = .int x) (hfit : fits ty (.int x) = true) (hdg : decode cc pc = .ok (.putfield index, 3))
    (kk : ∀ (H1 : Heap) (locs1 : List Loc), mGH (kM G (up2 (FM G) 1 k x)) (mSet Y 1 k (some x)) s H1 locs1 → W p l e R s m args below meth c H1 locs1 cells slots Q (F0 m (pc + 3) ls rest)) : W p l e R s m args below meth c H locs cells slots Q (F0 m pc ls (.int x :: .ref a :: rest)) := by
  obtain ⟨g1, g2, g3⟩ := hG
  refine tg_put E g1 (mΓ_at ha (by decide)) hf hn hfit hdg (fun H1 i z oq hat => kk H1 _ ⟨?_, g2.put z oq (show Y.1 a ≠ 0 by rw [ha]; decide), g3⟩)
  rw [TH_kM]
  refine mTH.mk (fun q hq => ?_)
  show tAt G (mShp (Y.1 q), fun j v => msv (mSet Y 1 k (some x)) (Y.1 q) j v ∧ mKn (kM G (up2 (FM G) 1 k x)) (Y.1 q) j v) q H1
  have hq : Y.1 q ≠ 0 := hq
  by_cases e : q = a
  · rw [e, ha]
    refine hat _ ⟨?_, mKn_a⟩ (fun j w hj hw => ⟨msv.set (fun z => hj z.2) hw.1, mKn_u (fun z => hj z.2) hw.2⟩)
    show msv _ 1 k _
    unfold msv
    rw [hd]
    exact ⟨x, rfl, h1, h2, fun y hy => by rw [mSet_at] at hy; cases hy; rfl⟩
  · have hne : Y.1 q ≠ 1 := fun z => e (g3.2 q a (by rw [z, ha]) hq)
    exact ((mTH.at g1 hq).kept (oq q e)).to (fun j v hv => ⟨msv.set (fun z => hne z.1) hv.1, mKn_u (fun z => hne z.1) hv.2⟩)
end MKS
