/-! ===== what is read is told by the letters alone ===== -/
section DET
variable {L : Nat → Int} {len p q q' kd kd' v v' s s' r r' : Int} {k : Nat} {row row' : Nat → Int}
theorem LK_det (h : LK L len p k r) (h' : LK L len p k r') : r = r' := by
  have key : ∀ a b : Int, LK L len p k a → LK L len p k b → ¬ a < b := fun a b ha hb z => by
    have e : ((a.toNat : Nat) : Int) = a := by have := ha.1; omega
    have h1 := hb.2.2.1 a.toNat (by omega)
    rw [e] at h1
    exact ha.2.2.2 (by have := hb.2.1; omega) h1
  have h1 := key r r' h h'
  have h2 := key r' r h' h
  omega
theorem RM_det (h : RM L len p kd q) (h' : RM L len p kd' q') : kd = kd' ∧ q = q' := by
  have no : ∀ k : Nat, k < 10 → LK L len p k ((tXl.getD k 0 : Nat) : Int) → ∀ m, ¬ NMi L len p 10 m := fun k hk hl m hm => by
    obtain ⟨x, h1, h2, -⟩ := hm.2.2.1 k hk
    have := LK_det hl h1
    omega
  rcases h with ⟨k, h1, h2, h3, h4⟩ | ⟨h1, m, h2, h3⟩
  · rcases h' with ⟨k', g1, g2, g3, g4⟩ | ⟨g1, m', g2, g3⟩
    · have e := nm_free k h1 k' g1 (fun j j1 j2 => by rw [← h3.2.2.1 j (by omega), ← g3.2.2.1 j (by omega)])
      subst e
      exact ⟨by omega, by omega⟩
    · exact absurd g2 (no k h1 h3 m')
  · rcases h' with ⟨k', g1, g2, g3, g4⟩ | ⟨g1, m', g2, g3⟩
    · exact absurd h2 (no k' g1 g3 m)
    · have key : ∀ a b : Int, NMi L len p 10 a → NMi L len p 10 b → ¬ a < b := fun a b ha hb z => by
        rcases hb.2.2.2 with w | ⟨k, w1, w2⟩
        · have := ha.1; omega
        · obtain ⟨x, y1, -, y3⟩ := ha.2.2.1 k w1
          have := LK_det w2 y1
          omega
      have y1 := key m m' h2 g2
      have y2 := key m' m g2 h2
      exact ⟨by omega, by omega⟩
theorem RN_det (h : RN L len p v q) (h' : RN L len p v' q') : v = v' ∧ q = q' := by
  rcases h with ⟨h1, h2, h3⟩ | ⟨h1, h2, h3, h4⟩ | ⟨h1, h2, h3, h4⟩ <;> rcases h' with ⟨g1, g2, g3⟩ | ⟨g1, g2, g3, g4⟩ | ⟨g1, g2, g3, g4⟩
  · exact ⟨by omega, by omega⟩
  · exact absurd g1 h1
  · exact absurd g1 h1
  · exact absurd h1 g1
  · exact ⟨by omega, by omega⟩
  · exact absurd g2 h2
  · exact absurd h1 g1
  · exact absurd h2 g2
  · exact ⟨by omega, by omega⟩
theorem RO_det {p0 : Int} : ∀ (i : Nat) (p p' : Int), RO L len kd p0 i p row → RO L len kd p0 i p' row' → p = p' ∧ ∀ j : Nat, j < i → row j = row' j
  | 0, p, p', h, h' => ⟨by have h : p = p0 := h; have h' : p' = p0 := h'; omega, fun j hj => by omega⟩
  | i + 1, p, p', ⟨p1, h1, h2, h3, h4, h5⟩, ⟨p1', g1, g2, g3, g4, g5⟩ => by
    obtain ⟨e1, e2⟩ := RO_det i p1 p1' h1 g1
    subst e1
    obtain ⟨e3, e4⟩ := RN_det h4 g4
    refine ⟨e4, fun j hj => ?_⟩
    by_cases z : j = i
    · rw [z]; exact e3
    · exact e2 j (by omega)
/-- the number i fails -/
def FA (L : Nat → Int) (len kd : Int) (i : Nat) (p1 : Int) (row : Nat → Int) (q : Int) : Prop := (¬ nx L len p1 = 32 ∧ q = p1) ∨ (nx L len p1 = 32 ∧ ¬ fg L len (p1 + 1) ∧ q = p1 + 1) ∨ (nx L len p1 = 32 ∧ fg L len (p1 + 1) ∧ q = p1 + 1 ∧ ∃ v e, RN L len (p1 + 1) v e ∧ ¬ (okN kd i v ∧ ¬ (kd = 3 ∧ (i : Int) % 2 = 1 ∧ v < row (i - 1))))
theorem RO_at {p0 : Int} {i : Nat} : ∀ (i' : Nat) (p' : Int), i < i' → RO L len kd p0 i' p' row → ∃ p1 p2, RO L len kd p0 i p1 row ∧ nx L len p1 = 32 ∧ fg L len (p1 + 1) ∧ RN L len (p1 + 1) (row i) p2 ∧ okN kd i (row i) ∧ ¬ (kd = 3 ∧ (i : Int) % 2 = 1 ∧ row i < row (i - 1))
  | 0, _, hi, _ => by omega
  | i' + 1, p', hi, ⟨p1, h1, h2, h3, h4, h5, h6⟩ => by
    by_cases z : i = i'
    · subst z; exact ⟨p1, p', h1, h2, h3, h4, h5, h6⟩
    · exact RO_at i' p1 (by omega) h1
theorem FA_no {p0 p1 : Int} {i i' : Nat} (h : RO L len kd p0 i p1 row) (hf : FA L len kd i p1 row q) {p' : Int} (h' : RO L len kd p0 i' p' row') (hi : i < i') : False := by
  obtain ⟨x1, x2, g1, g2, g3, g4, g5, g6⟩ := RO_at i' p' hi h'
  obtain ⟨e1, e2⟩ := RO_det i _ _ h g1
  subst e1
  rcases hf with w | w | ⟨-, -, -, v, e, w1, w2⟩
  · exact w.1 g2
  · exact w.2.1 g3
  · obtain ⟨y1, -⟩ := RN_det w1 g4
    subst y1
    refine w2 ⟨g5, fun y => g6 ⟨y.1, y.2.1, ?_⟩⟩
    rw [← e2 (i - 1) (by omega)]
    exact y.2.2
theorem RF_det {p0 : Int} (h : RF L len kd p0 q) (h' : RF L len kd p0 q') : q = q' := by
  obtain ⟨i, p1, row, h1, h2, h3⟩ := h
  obtain ⟨i', p1', row', g1, g2, g3⟩ := h'
  by_cases z : i < i'
  · exact (FA_no h2 h3 g2 z).elim
  · by_cases y : i' < i
    · exact (FA_no g2 g3 h2 y).elim
    · have e : i = i' := by omega
      subst e
      obtain ⟨e1, -⟩ := RO_det i _ _ h2 g2
      subst e1
      rcases h3 with w | w | w <;> rcases g3 with u | u | u
      · omega
      · exact absurd u.1 w.1
      · exact absurd u.1 w.1
      · exact absurd w.1 u.1
      · omega
      · exact absurd u.2.1 w.2.1
      · exact absurd w.1 u.1
      · exact absurd w.2.1 u.2.1
      · have := w.2.2.1; have := u.2.2.1; omega
theorem RF_no {p0 p' : Int} (h : RF L len kd p0 q) (h' : RO L len kd p0 (nNum kd).toNat p' row') : False := by
  obtain ⟨i, p1, row, h1, h2, h3⟩ := h
  exact FA_no h2 h3 h' (by omega)
theorem RS_det {a b : Prop} (h : RS L len p s q a) (h' : RS L len p s' q' b) : s = s' ∧ q = q' ∧ (a ↔ b) := by
  rcases h with ⟨h1, h2, h3, h4⟩ | ⟨h1, h5, h2, h3, h4⟩ | ⟨h1, h5, h2, h3, h4⟩ <;> rcases h' with ⟨g1, g2, g3, g4⟩ | ⟨g1, g5, g2, g3, g4⟩ | ⟨g1, g5, g2, g3, g4⟩
  · exact ⟨by omega, by omega, ⟨fun _ => g4, fun _ => h4⟩⟩
  · exact absurd g1 h1
  · exact absurd g1 h1
  · exact absurd h1 g1
  · exact ⟨by omega, by omega, ⟨fun w => absurd w h4, fun w => absurd w g4⟩⟩
  · exact absurd g5 h5
  · exact absurd h1 g1
  · exact absurd h5 g5
  · exact ⟨by omega, by omega, ⟨fun _ => g4, fun _ => h4⟩⟩
variable {left n par : Int} {K K' C C' P P' S S' : Nat → Int} {N N' : Nat → Nat → Int} {sh sh' : Int}
theorem BXok_det (h : BXok L len left n p par K C kd row sh q) (h' : BXok L len left n p par K' C' kd' row' sh' q') : kd = kd' ∧ sh = sh' ∧ q = q' ∧ ∀ j : Nat, (j : Int) < nNum kd → row j = row' j := by
  obtain ⟨-, -, q1, q2, h1, h2, h3⟩ := h
  obtain ⟨-, -, y1, y2, g1, g2, g3⟩ := h'
  obtain ⟨e1, e2⟩ := RM_det h1 g1
  subst e1; subst e2
  obtain ⟨e1, e2⟩ := RO_det _ _ _ h2 g2
  subst e1
  obtain ⟨e3, e4, -⟩ := RS_det h3 g3
  exact ⟨rfl, e3, e4, fun j hj => e2 j (by omega)⟩
theorem BXbad_no (hr : BXr left n par K C ↔ BXr left n par K' C') (h : BXbad L len left n p par K C q) (h' : BXok L len left n p par K' C' kd' row' sh' q') : False := by
  obtain ⟨g0, g5, y1, y2, g1, g2, g3⟩ := h'
  rcases h with ⟨w, -⟩ | ⟨-, w | ⟨kd, q1, h0, h1, h2 | ⟨q2, row, sh, h2, h3⟩⟩⟩
  · exact w (hr.mpr g0)
  · have := (RM_det w g1).1; omega
  · obtain ⟨e1, e2⟩ := RM_det h1 g1
    subst e1; subst e2
    exact RF_no h2 g2
  · obtain ⟨e1, e2⟩ := RM_det h1 g1
    subst e1; subst e2
    obtain ⟨e1, e2⟩ := RO_det _ _ _ h2 g2
    subst e1
    exact (RS_det h3 g3).2.2.mpr trivial
theorem BXbad_det (hr : BXr left n par K C ↔ BXr left n par K' C') (h : BXbad L len left n p par K C q) (h' : BXbad L len left n p par K' C' q') : q = q' := by
  rcases h with ⟨w, w2⟩ | ⟨hb, h⟩
  · rcases h' with ⟨-, u2⟩ | ⟨u, -⟩
    · omega
    · exact absurd (hr.mpr u) w
  · rcases h' with ⟨u, -⟩ | ⟨-, h'⟩
    · exact absurd (hr.mp hb) u
    · rcases h with w | ⟨kd, q1, h0, h1, h2⟩ <;> rcases h' with u | ⟨kd', y1, g0, g1, g2⟩
      · exact (RM_det w u).2
      · have := (RM_det w g1).1; omega
      · have := (RM_det u h1).1; omega
      · obtain ⟨e1, e2⟩ := RM_det h1 g1
        subst e1; subst e2
        rcases h2 with h2 | ⟨q2, row, sh, h2, h3⟩ <;> rcases g2 with g2 | ⟨y2, row', sh', g2, g3⟩
        · exact RF_det h2 g2
        · exact (RF_no h2 g2).elim
        · exact (RF_no g2 h2).elim
        · obtain ⟨e1, e2⟩ := RO_det _ _ _ h2 g2
          subst e1
          exact (RS_det h3 g3).2.1
theorem UPk_fn {h0 : Int} : ∀ (k : Nat) (x x' : Int), UPk L len P p h0 k x → UPk L len P p h0 k x' → x = x'
  | 0, x, x', h, h' => by have h : x = h0 := h; have h' : x' = h0 := h'; omega
  | k + 1, x, x', ⟨y, h1, h2, h3, h4⟩, ⟨y', g1, g2, g3, g4⟩ => by
    have := UPk_fn k y y' h1 g1
    subst this
    omega
theorem UPk_at {h0 : Int} {k : Nat} : ∀ (k' : Nat) (x' : Int), k < k' → UPk L len P p h0 k' x' → ∃ x, UPk L len P p h0 k x ∧ 0 ≤ x ∧ nx L len (p + (k : Nat)) = 41
  | 0, _, hk, _ => by omega
  | k' + 1, x', hk, ⟨y, h1, h2, h3, h4⟩ => by
    by_cases z : k = k'
    · subst z; exact ⟨y, h1, h2, h3⟩
    · exact UPk_at k' y (by omega) h1
theorem UPk_st {h0 x x' : Int} {k k' : Nat} (h : UPk L len P p h0 k x) (hs : x < 0 ∨ ¬ nx L len (p + (k : Nat)) = 41) (h' : UPk L len P p h0 k' x') (hs' : x' < 0 ∨ ¬ nx L len (p + (k' : Nat)) = 41) : k = k' ∧ x = x' := by
  have key : ∀ (a b : Nat) (u w : Int), UPk L len P p h0 a u → (u < 0 ∨ ¬ nx L len (p + (a : Nat)) = 41) → UPk L len P p h0 b w → ¬ a < b := fun a b u w hu hs hw z => by
    obtain ⟨y, y1, y2, y3⟩ := UPk_at b w z hw
    have := UPk_fn a u y hu y1
    subst this
    rcases hs with q | q
    · omega
    · exact q y3
  have e1 := key k k' x x' h hs h'
  have e2 := key k' k x' x h' hs' h
  have e : k = k' := by omega
  subst e
  exact ⟨rfl, UPk_fn k x x' h h'⟩
theorem PNgo_det {par' : Int} (h : PNgo L len P n p par q) (h' : PNgo L len P n p par' q') : par = par' ∧ q = q' := by
  rcases h with ⟨h1, h2, h3⟩ | ⟨h1, k, h2, h3, h4, h5⟩
  · rcases h' with ⟨g1, g2, g3⟩ | ⟨g1, -⟩
    · exact ⟨by omega, by omega⟩
    · exact absurd h1 g1
  · rcases h' with ⟨g1, g2, g3⟩ | ⟨g1, k', g2, g3, g4, g5⟩
    · exact absurd g1 h1
    · obtain ⟨e1, e2⟩ := UPk_st h2 (Or.inr (by omega)) g2 (Or.inr (by omega))
      subst e1
      exact ⟨e2, by omega⟩
theorem PN_ge (h : PNgo L len P n p par q) (h' : PNend L len P n p q') : False := by
  obtain ⟨g1, k', g2, g3⟩ := h'
  rcases h with ⟨h1, h2, h3⟩ | ⟨h1, k, h2, h3, h4, h5⟩
  · exact g1 h1
  · obtain ⟨e1, e2⟩ := UPk_st h2 (Or.inr (by omega)) g2 (Or.inl (by omega))
    omega
theorem PN_gb (h : PNgo L len P n p par q) (h' : PNbad L len P n p q') : False := by
  obtain ⟨g1, k', y, g2, g3, g4, g5, g6⟩ := h'
  rcases h with ⟨h1, h2, h3⟩ | ⟨h1, k, h2, h3, h4, h5⟩
  · exact g1 h1
  · obtain ⟨e1, e2⟩ := UPk_st h2 (Or.inr (by omega)) g2 (Or.inr g5)
    subst e1
    exact g4 h4
theorem PN_eb (h : PNend L len P n p q) (h' : PNbad L len P n p q') : False := by
  obtain ⟨g1, k', y, g2, g3, g4, g5, g6⟩ := h'
  obtain ⟨h1, k, h2, h3⟩ := h
  obtain ⟨e1, e2⟩ := UPk_st h2 (Or.inl (by omega)) g2 (Or.inr g5)
  omega
theorem PN_ee (h : PNend L len P n p q) (h' : PNend L len P n p q') : q = q' := by
  obtain ⟨g1, k', g2, g3⟩ := h'
  obtain ⟨h1, k, h2, h3⟩ := h
  obtain ⟨e1, e2⟩ := UPk_st h2 (Or.inl (by omega)) g2 (Or.inl (by omega))
  omega
theorem PN_bb (h : PNbad L len P n p q) (h' : PNbad L len P n p q') : q = q' := by
  obtain ⟨g1, k', y, g2, g3, g4, g5, g6⟩ := h'
  obtain ⟨h1, k, x, h2, h3, h4, h5, h6⟩ := h
  obtain ⟨e1, e2⟩ := UPk_st h2 (Or.inr h5) g2 (Or.inr g5)
  omega
theorem PNend_eq {m : Nat} (h1 : 1 ≤ m) (hB : PB P m) (e : ∀ j, j < m → P' j = P j) (h : PNend L len P m p q) : PNend L len P' m p q := by
  obtain ⟨g1, k, g2, g3⟩ := h
  refine ⟨g1, k, ?_, g3⟩
  have hm : ((m : Int) - 1).toNat < m := by omega
  rw [e _ hm]
  exact UPk_eq hB (by have := hB _ hm; omega) e k _ g2
theorem PNbad_eq {m : Nat} (h1 : 1 ≤ m) (hB : PB P m) (e : ∀ j, j < m → P' j = P j) (h : PNbad L len P m p q) : PNbad L len P' m p q := by
  obtain ⟨g1, k, y, g2, g3⟩ := h
  refine ⟨g1, k, y, ?_, g3⟩
  have hm : ((m : Int) - 1).toNat < m := by omega
  rw [e _ hm]
  exact UPk_eq hB (by have := hB _ hm; omega) e k _ g2
/-- the same is read of the first n -/
def AGR (K P S K' P' S' : Nat → Int) (N N' : Nat → Nat → Int) (n : Nat) : Prop := ∀ i : Nat, i < n → K i = K' i ∧ P i = P' i ∧ S i = S' i ∧ ∀ j : Nat, (j : Int) < nNum (K i) → N i j = N' i j
theorem RDn_at {n : Nat} : ∀ (n' : Nat) (p' par' : Int), n < n' → RDn L len left K P S N n' p' par' → ∃ p0 q par p, RDn L len left K P S N n p0 (P n) ∧ BXok L len left n p0 (P n) K (fun j => cnt P n j) (K n) (N n) (S n) q ∧ PNgo L len P ((n + 1 : Nat) : Int) q par p
  | 0, _, _, h, _ => by omega
  | n' + 1, p', par', h, ⟨p0, q, h1, h2, h3⟩ => by
    by_cases z : n = n'
    · subst z; exact ⟨p0, q, par', p', h1, h2, h3⟩
    · exact RDn_at n' p0 _ (by omega) h1
theorem RDn_det : ∀ (n : Nat) (p par p' par' : Int), PB P n → PB P' n → RDn L len left K P S N n p par → RDn L len left K' P' S' N' n p' par' → p = p' ∧ par = par' ∧ AGR K P S K' P' S' N N' n
  | 0, _, _, _, _, _, _, ⟨h1, h2⟩, ⟨g1, g2⟩ => ⟨by omega, by omega, fun i hi => by omega⟩
  | n + 1, p, par, p', par', hB, hB', ⟨p0, q, h1, h2, h3⟩, ⟨p0', q', g1, g2, g3⟩ => by
    obtain ⟨e1, e2, e3⟩ := RDn_det n _ _ _ _ (fun j hj => hB j (by omega)) (fun j hj => hB' j (by omega)) h1 g1
    subst e1
    rw [← e2] at g2
    obtain ⟨e4, e5, e6, e7⟩ := BXok_det h2 g2
    subst e6
    have hA : AGR K P S K' P' S' N N' (n + 1) := fun i hi => by
      by_cases z : i = n
      · subst z; exact ⟨e4, e2, e5, e7⟩
      · exact e3 i (by omega)
    have g3 := PNgo_eq (P' := P) (by omega) hB' (fun j hj => (hA j hj).2.1) g3
    obtain ⟨e8, e9⟩ := PNgo_det h3 g3
    exact ⟨e9, e8, hA⟩
/-- where the reading stops: e = 1 where the tree is at its end -/
def STO (L : Nat → Int) (len left : Int) (K P S : Nat → Int) (N : Nat → Nat → Int) (n : Nat) (r : Int) (e : Nat) : Prop := ∃ p par : Int, PB P n ∧ -1 ≤ par ∧ par < n ∧ RDn L len left K P S N n p par ∧ ((e = 0 ∧ BXbad L len left n p par K (fun j => cnt P n j) r) ∨ ∃ q, P n = par ∧ BXok L len left n p par K (fun j => cnt P n j) (K n) (N n) (S n) q ∧ ((e = 0 ∧ PNbad L len P ((n + 1 : Nat) : Int) q r) ∨ (e = 1 ∧ PNend L len P ((n + 1 : Nat) : Int) q r)))
theorem BXr_agr {m : Nat} (hA : AGR K P S K' P' S' N N' m) (h1 : -1 ≤ par) (h2 : par < m) : BXr left n par K (fun j => cnt P m j) ↔ BXr left n par K' (fun j => cnt P' m j) := by
  have hc : ∀ j : Int, cnt P m j = cnt P' m j := fun j => cnt_eq m (fun i hi => (hA i hi).2.1)
  constructor
  · intro w
    exact BXr_eq (fun q => ((hA _ (by omega)).1).symm) (fun _ => (hc _).symm) h1 w
  · intro w
    exact BXr_eq (fun q => (hA _ (by omega)).1) (fun _ => hc _) h1 w
theorem PB_s {n : Nat} {par : Int} (hB : PB P n) (e : P n = par) (h1 : -1 ≤ par) (h2 : par < n) : PB P (n + 1) := fun j hj => by
  by_cases z : j = n
  · rw [z, e]; exact ⟨h1, h2⟩
  · exact hB j (by omega)
theorem STO_no {n n' e : Nat} {r p' par' : Int} (h : STO L len left K P S N n r e) (hn : n < n') (hB' : PB P' n') (h' : RDn L len left K' P' S' N' n' p' par') : False := by
  obtain ⟨p, par, hB, h1, h2, h3, h4⟩ := h
  obtain ⟨p0, q, par2, p2, g1, g2, g3⟩ := RDn_at n' p' par' hn h'
  obtain ⟨e1, e2, e3⟩ := RDn_det n _ _ _ _ hB (fun j hj => hB' j (by omega)) h3 g1
  subst e1
  rw [← e2] at g2
  rcases h4 with ⟨-, h4⟩ | ⟨q', h5, h6, h7⟩
  · exact BXbad_no (BXr_agr e3 h1 h2) h4 g2
  · obtain ⟨-, -, e6, -⟩ := BXok_det h6 g2
    subst e6
    have g3 := PNgo_eq (P' := P) (n := n + 1) (by omega) (fun j hj => hB' j (by omega)) (fun j hj => by
      by_cases z : j = n
      · rw [z, h5]; exact e2
      · exact (e3 j (by omega)).2.1) g3
    rcases h7 with ⟨-, h7⟩ | ⟨-, h7⟩
    · exact PN_gb g3 h7
    · exact PN_ge g3 h7
theorem STO_det {n n' e e' : Nat} {r r' : Int} (h : STO L len left K P S N n r e) (h' : STO L len left K' P' S' N' n' r' e') : n = n' ∧ r = r' ∧ e = e' ∧ (e = 1 → AGR K P S K' P' S' N N' (n + 1)) := by
  by_cases z : n < n'
  · obtain ⟨p', par', hB', -, -, g3, -⟩ := h'
    exact (STO_no h z hB' g3).elim
  · by_cases y : n' < n
    · obtain ⟨p, par, hB, -, -, h3, -⟩ := h
      exact (STO_no h' y hB h3).elim
    · have en : n = n' := by omega
      subst en
      obtain ⟨p, par, hB, h1, h2, h3, h4⟩ := h
      obtain ⟨p', par', hB', g1, g2, g3, g4⟩ := h'
      obtain ⟨e1, e2, e3⟩ := RDn_det n _ _ _ _ hB hB' h3 g3
      subst e1; subst e2
      have hr : BXr left n par K (fun j => cnt P n j) ↔ BXr left n par K' (fun j => cnt P' n j) := BXr_agr e3 h1 h2
      rcases h4 with ⟨w1, h4⟩ | ⟨q, h5, h6, h7⟩
      · rcases g4 with ⟨u1, g4⟩ | ⟨q', g5, g6, g7⟩
        · exact ⟨rfl, BXbad_det hr h4 g4, by omega, fun q => by omega⟩
        · exact (BXbad_no hr h4 g6).elim
      · rcases g4 with ⟨u1, g4⟩ | ⟨q', g5, g6, g7⟩
        · exact (BXbad_no hr.symm g4 h6).elim
        · obtain ⟨e4, e5, e6, e7⟩ := BXok_det h6 g6
          subst e6
          have hA : AGR K P S K' P' S' N N' (n + 1) := fun i hi => by
            by_cases z : i = n
            · subst z; exact ⟨e4, h5.trans g5.symm, e5, e7⟩
            · exact e3 i (by omega)
          have hB2 := PB_s hB' g5 g1 g2
          rcases h7 with ⟨w, h7⟩ | ⟨w, h7⟩ <;> rcases g7 with ⟨u, g7⟩ | ⟨u, g7⟩
          · exact ⟨rfl, PN_bb h7 (PNbad_eq (by omega) hB2 (fun j hj => (hA j hj).2.1) g7), by omega, fun _ => hA⟩
          · exact (PN_eb (PNend_eq (by omega) hB2 (fun j hj => (hA j hj).2.1) g7) h7).elim
          · exact (PN_eb h7 (PNbad_eq (by omega) hB2 (fun j hj => (hA j hj).2.1) g7)).elim
          · exact ⟨rfl, PN_ee h7 (PNend_eq (by omega) hB2 (fun j hj => (hA j hj).2.1) g7), by omega, fun _ => hA⟩
theorem RDok_st {n : Nat} (h : RDok L len left K P S N n) (hB : PB P n) : ∃ m, n = m + 1 ∧ STO L len left K P S N m len 1 := by
  obtain ⟨m, p0, q, e, h1, h2, h3⟩ := h
  subst e
  have := hB m (by omega)
  exact ⟨m, rfl, p0, P m, fun j hj => hB j (by omega), this.1, this.2, h1, Or.inr ⟨q, rfl, h2, Or.inr ⟨rfl, h3⟩⟩⟩
theorem RDbd_st {r : Int} (h : RDbd L len left r) : ∃ (K P S : Nat → Int) (N : Nat → Nat → Int) (n e : Nat), STO L len left K P S N n r e ∧ (e = 1 → ¬ r = len) := by
  obtain ⟨K, P, S, N, n, p, par, h1, h2, h3, h4, h5⟩ := h
  rcases h5 with h5 | ⟨q, h5, h6, h7 | ⟨h7, h8⟩⟩
  · exact ⟨K, P, S, N, n, 0, ⟨p, par, h1, h2, h3, h4, Or.inl ⟨rfl, h5⟩⟩, fun z => by omega⟩
  · exact ⟨K, P, S, N, n, 0, ⟨p, par, h1, h2, h3, h4, Or.inr ⟨q, h5, h6, Or.inl ⟨rfl, h7⟩⟩⟩, fun z => by omega⟩
  · exact ⟨K, P, S, N, n, 1, ⟨p, par, h1, h2, h3, h4, Or.inr ⟨q, h5, h6, Or.inr ⟨rfl, h7⟩⟩⟩, fun _ => h8⟩
theorem RDbd_det {r r' : Int} (h : RDbd L len left r) (h' : RDbd L len left r') : r = r' := by
  obtain ⟨K, P, S, N, n, e, h1, -⟩ := RDbd_st h
  obtain ⟨K', P', S', N', n', e', g1, -⟩ := RDbd_st h'
  exact (STO_det h1 g1).2.1
theorem RDok_det {n n' : Nat} (h : RDok L len left K P S N n) (hB : PB P n) (h' : RDok L len left K' P' S' N' n') (hB' : PB P' n') : n = n' ∧ AGR K P S K' P' S' N N' n := by
  obtain ⟨m, e, h1⟩ := RDok_st h hB
  obtain ⟨m', e', g1⟩ := RDok_st h' hB'
  obtain ⟨z1, -, -, z2⟩ := STO_det h1 g1
  subst z1; subst e; subst e'
  exact ⟨rfl, z2 rfl⟩
theorem RD_no {n : Nat} {r : Int} (h : RDok L len left K P S N n) (hB : PB P n) (h' : RDbd L len left r) : False := by
  obtain ⟨m, e, h1⟩ := RDok_st h hB
  obtain ⟨K', P', S', N', n', e', g1, g2⟩ := RDbd_st h'
  obtain ⟨-, z2, z3, -⟩ := STO_det h1 g1
  exact g2 z3.symm z2.symm
end DET
