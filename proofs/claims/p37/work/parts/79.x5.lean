/-! ===== the reference reads: names, figures, shares held against the letters ===== -/
def nml (k j : Nat) : Int := if j < tXl.getD k 0 then nmc k j else 0
theorem nml_6 {k j : Nat} (hk : k < 10) (hj : 6 ≤ j) : nml k j = 0 := by
  have := nm_len k hk
  unfold nml
  rw [if_neg (by omega)]
theorem nml_pos {k j : Nat} (h : ¬ nml k j = 0) : j < tXl.getD k 0 ∧ nml k j = nmc k j := by
  unfold nml at h ⊢
  by_cases e : j < tXl.getD k 0
  · rw [if_pos e]; exact ⟨e, rfl⟩
  · rw [if_neg e] at h; exact absurd rfl h
theorem nml_z {k j : Nat} (hk : k < 10) (h : nml k j = 0) : tXl.getD k 0 ≤ j := by
  by_cases e : j < tXl.getD k 0
  · unfold nml at h
    rw [if_pos e] at h
    have := nm_pos k hk j e
    omega
  · omega
theorem nml_0 {k j : Nat} (hk : k < 10) : 0 ≤ nml k j := by
  by_cases e : nml k j = 0
  · omega
  · have h := nml_pos e
    have := nm_pos k hk j h.1
    omega
/-- the reference's row of names -/
def NMS (M : mF) : Prop := ∀ k j : Nat, k < 10 → j < 6 → (M 16 (6 * k + j)).toInt = nml k j
/-- who is open behind k letters -/
def NOp (L : Nat → Int) (len p : Int) (o : Int32) (k : Nat) : Prop := ∀ kd : Nat, kd < 10 → (tB o kd → k ≤ tXl.getD kd 0 ∧ ∀ j : Nat, j < k → nx L len (p + (j : Int)) = nmc kd j) ∧ (¬ tB o kd → ∃ r : Nat, r < k ∧ r < tXl.getD kd 0 ∧ LK L len p kd (r : Int))
/-- who goes on, of those below n -/
def NXp (L : Nat → Int) (len p : Int) (o x : Int32) (k n : Nat) : Prop := (∀ kd : Nat, kd < 10 → (tB x kd ↔ kd < n ∧ tB o kd ∧ nml kd k = nx L len (p + (k : Int))) ∧ (kd < n → tB o kd → ¬ nml kd k = 0)) ∧ ∀ m : Nat, tB x m → m < 10
theorem NOp_0 {L : Nat → Int} {len p : Int} : NOp L len p (1023 : Int32) (0 : Int32).toInt.toNat := fun kd hk => by
  have aux : ∀ kd, kd < 10 → (1023 : Int32).toBitVec.getLsbD kd = true := by decide
  have h0 : (0 : Int32).toInt.toNat = 0 := rfl
  rw [h0]
  exact ⟨fun _ => ⟨Nat.zero_le _, fun j hj => by omega⟩, fun h => absurd (aux kd hk) h⟩
theorem tB_0 {n : Nat} : ¬ tB 0 n := fun h => by unfold tB at h; simp at h
theorem NXp_0 {L : Nat → Int} {len p : Int} {o : Int32} {k : Nat} : NXp L len p o (0 : Int32) k (0 : Int32).toInt.toNat := by
  have h0 : (0 : Int32).toInt.toNat = 0 := rfl
  rw [h0]
  exact ⟨fun kd _ => ⟨⟨fun h => absurd h tB_0, fun h => by omega⟩, fun h => by omega⟩, fun m h => absurd h tB_0⟩
theorem NXp_c {L : Nat → Int} {len p : Int} {o x x' : Int32} {k n : Nat} (h : NXp L len p o x k n) (hno : ¬ tB o n) (e : x' = x ||| 0) : NXp L len p o x' k (n + 1) := by
  rw [e, Int32.or_zero]
  refine ⟨fun kd hk => ?_, h.2⟩
  have := h.1 kd hk
  by_cases q : kd = n
  · subst q
    exact ⟨⟨fun w => absurd (this.1.mp w).2.1 hno, fun w => absurd w.2.1 hno⟩, fun _ w => absurd w hno⟩
  · exact ⟨⟨fun w => ⟨by have := (this.1.mp w).1; omega, (this.1.mp w).2⟩, fun w => this.1.mpr ⟨by have := w.1; omega, w.2⟩⟩, fun w => this.2 (by omega)⟩
theorem NXp_b {L : Nat → Int} {len p : Int} {o x x' : Int32} {k n : Nat} (h : NXp L len p o x k n) (hne : ¬ nml n k = nx L len (p + (k : Int))) (hnz : ¬ nml n k = 0) (e : x' = x ||| 0) : NXp L len p o x' k (n + 1) := by
  rw [e, Int32.or_zero]
  refine ⟨fun kd hk => ?_, h.2⟩
  have := h.1 kd hk
  by_cases q : kd = n
  · subst q
    exact ⟨⟨fun w => absurd (this.1.mp w).1 (by omega), fun w => absurd w.2.2 hne⟩, fun _ _ => hnz⟩
  · exact ⟨⟨fun w => ⟨by have := (this.1.mp w).1; omega, (this.1.mp w).2⟩, fun w => this.1.mpr ⟨by have := w.1; omega, w.2⟩⟩, fun w => this.2 (by omega)⟩
theorem NXp_a {L : Nat → Int} {len p : Int} {o x x' v : Int32} {k : Nat} (h : NXp L len p o x k v.toInt.toNat) (h0 : 0 ≤ v.toInt) (h9 : v.toInt ≤ 9) (hop : tB o v.toInt.toNat) (hnz : ¬ nml v.toInt.toNat k = 0) (heq : nml v.toInt.toNat k = nx L len (p + (k : Int))) (e : x' = x ||| (1 <<< (v &&& 31))) : NXp L len p o x' k (v.toInt.toNat + 1) := by
  rw [e]
  refine ⟨fun kd hk => ?_, fun m hm => ?_⟩
  · have := h.1 kd hk
    rw [tB_or h0 (by omega)]
    by_cases q : kd = v.toInt.toNat
    · rw [q]
      exact ⟨⟨fun _ => ⟨by omega, hop, heq⟩, fun _ => Or.inr rfl⟩, fun _ _ => hnz⟩
    · exact ⟨⟨fun w => by
        rcases w with w | w
        · exact ⟨by have := (this.1.mp w).1; omega, (this.1.mp w).2⟩
        · exact absurd w q, fun w => Or.inl (this.1.mpr ⟨by have := w.1; omega, w.2⟩)⟩, fun w => this.2 (by omega)⟩
  · rw [tB_or h0 (by omega)] at hm
    rcases hm with hm | hm
    · exact h.2 m hm
    · omega
theorem NOp_s {L : Nat → Int} {len p : Int} {o x : Int32} {k : Nat} (h : NOp L len p o k) (hx : NXp L len p o x k 10) : NOp L len p x (k + 1) := fun kd hk => by
  have h1 := h kd hk
  have h2 := hx.1 kd hk
  refine ⟨fun w => ?_, fun w => ?_⟩
  · obtain ⟨-, w2, w3⟩ := h2.1.mp w
    have h3 := nml_pos (h2.2 hk w2)
    refine ⟨by omega, fun j hj => ?_⟩
    by_cases q : j = k
    · subst q; rw [← w3]; exact h3.2
    · exact (h1.1 w2).2 j (by omega)
  · by_cases q : tB o kd
    · have h3 := nml_pos (h2.2 hk q)
      have h4 : ¬ nml kd k = nx L len (p + (k : Int)) := fun y => w (h2.1.mpr ⟨hk, q, y⟩)
      refine ⟨k, by omega, h3.1, by omega, by omega, fun j hj => (h1.1 q).2 j (by omega), fun _ y => h4 ?_⟩
      rw [h3.2, y]; rfl
    · obtain ⟨r, r1, r2, r3⟩ := h1.2 q
      exact ⟨r, by omega, r2, r3⟩
/-- some name is still possible -/
def EXb (o : Int32) : Prop := ∃ kd : Nat, kd < 10 ∧ tB o kd
theorem NXp_ex {L : Nat → Int} {len p : Int} {o x : Int32} {k n : Nat} (h : NXp L len p o x k n) (hz : ¬ x.toInt = 0) : EXb x := by
  apply Classical.byContradiction
  intro hn
  apply hz
  have e : x = 0 := by
    apply Int32.toBitVec_inj.mp
    apply BitVec.eq_of_getLsbD_eq
    intro i hi
    have e0 : (0 : Int32).toBitVec.getLsbD i = false := by simp
    rw [e0]
    cases q : x.toBitVec.getLsbD i with
    | false => rfl
    | true => exact absurd ⟨i, h.2 i q, q⟩ hn
  rw [e]; rfl
theorem NOp_7 {L : Nat → Int} {len p : Int} {o v : Int32} (h : NOp L len p o v.toInt.toNat) (he : v.toInt = 0 ∨ EXb o) (h7 : 7 ≤ v.toInt) : False := by
  rcases he with he | ⟨kd, h1, h2⟩
  · omega
  · have := ((h kd h1).1 h2).1
    have := nm_len kd h1
    omega
theorem RM_yes {L : Nat → Int} {len p q : Int} {o v : Int32} {k : Nat} (h : NOp L len p o k) (hop : tB o v.toInt.toNat) (h0 : 0 ≤ v.toInt) (h9 : v.toInt ≤ 9) (hz : nml v.toInt.toNat k = 0) (hq : q = p + (k : Int)) : RM L len p v.toInt q := by
  have h1 := nml_z (by omega) hz
  obtain ⟨h2, h3⟩ := (h v.toInt.toNat (by omega)).1 hop
  have e : tXl.getD v.toInt.toNat 0 = k := by omega
  refine Or.inl ⟨v.toInt.toNat, by omega, by omega, ?_, by rw [e]; exact hq⟩
  rw [e]
  exact ⟨by omega, by rw [e]; exact Int.le_refl _, fun j hj => h3 j (by omega), fun y => by rw [e] at y; omega⟩
theorem RM_no {L : Nat → Int} {len p q : Int} {o x v : Int32} (h : NOp L len p o v.toInt.toNat) (he : v.toInt = 0 ∨ EXb o) (hx : NXp L len p o x v.toInt.toNat 10) (hz : x.toInt = 0) (h6 : 0 ≤ v.toInt ∧ v.toInt ≤ 6) (hq : q = p + v.toInt) : RM L len p (-1) q := by
  have ex : x = 0 := Int32.toInt_inj.mp (by rw [hz]; rfl)
  have hop : ∀ kd : Nat, kd < 10 → tB o kd → v.toInt.toNat < tXl.getD kd 0 ∧ LK L len p kd v.toInt := fun kd hk ho => by
    have h2 := hx.1 kd hk
    have h3 := nml_pos (h2.2 hk ho)
    have h4 : ¬ nml kd v.toInt.toNat = nx L len (p + (v.toInt.toNat : Int)) := fun y => by
      have := h2.1.mpr ⟨hk, ho, y⟩
      rw [ex] at this
      exact tB_0 this
    have h5 := (h kd hk).1 ho
    refine ⟨h3.1, by omega, by omega, fun j hj => h5.2 j (by omega), fun _ y => h4 ?_⟩
    rw [h3.2, show ((v.toInt.toNat : Nat) : Int) = v.toInt by omega, y]
  refine Or.inr ⟨rfl, v.toInt, ⟨h6.1, h6.2, fun kd hk => ?_, ?_⟩, hq⟩
  · by_cases w : tB o kd
    · have := hop kd hk w
      exact ⟨v.toInt, this.2, by omega, Int.le_refl _⟩
    · obtain ⟨r, r1, r2, r3⟩ := (h kd hk).2 w
      exact ⟨(r : Int), r3, by omega, by omega⟩
  · rcases he with he | ⟨kd, h1, h2⟩
    · exact Or.inl he
    · exact Or.inr ⟨kd, h1, (hop kd h1 h2).2⟩
/-- k figures from q on are v -/
def DGn (L : Nat → Int) (len q k v : Int) : Prop := (k = 0 ∧ v = 0) ∨ (k = 1 ∧ fg L len q ∧ v = nx L len q - 48) ∨ (k = 2 ∧ fg L len q ∧ fg L len (q + 1) ∧ v = 10 * (nx L len q - 48) + (nx L len (q + 1) - 48))
theorem DGn_s {L : Nat → Int} {len q k v k' v' : Int} (h : DGn L len q k v) (hk : k ≤ 1) (hf : fg L len (q + k)) (ek : k' = k + 1) (ev : v' = 10 * v + nx L len (q + k) - 48) : DGn L len q k' v' := by
  rcases h with ⟨h1, h2⟩ | ⟨h1, h2, h3⟩ | ⟨h1, -⟩
  · subst h1
    rw [Int.add_zero] at hf ev
    exact Or.inr (Or.inl ⟨by omega, hf, by omega⟩)
  · subst h1
    exact Or.inr (Or.inr ⟨by omega, h2, hf, by omega⟩)
  · omega
theorem RNf_of {L : Nat → Int} {len q k v : Int} (h : DGn L len q k v) (hs : k = 2 ∨ ¬ fg L len (q + k)) : RN L len q v (q + k) ∧ (k = 0 → ¬ fg L len q) ∧ (1 ≤ k → fg L len q) := by
  rcases h with ⟨h1, h2⟩ | ⟨h1, h2, h3⟩ | ⟨h1, h2, h3, h4⟩
  · subst h1
    have hs := hs.resolve_left (by decide)
    rw [Int.add_zero] at hs ⊢
    exact ⟨Or.inl ⟨hs, h2, rfl⟩, fun _ => hs, fun y => by omega⟩
  · subst h1
    have hs := hs.resolve_left (by decide)
    exact ⟨Or.inr (Or.inl ⟨h2, hs, h3, rfl⟩), fun y => by omega, fun _ => h2⟩
  · subst h1
    exact ⟨Or.inr (Or.inr ⟨h2, h3, h4, rfl⟩), fun y => by omega, fun _ => h2⟩
/-- a number is read, or at fault -/
def NRx (L : Nat → Int) (len kd w ah p r q b : Int) : Prop := (b = 0 ∧ nx L len p = 32 ∧ fg L len (p + 1) ∧ RN L len (p + 1) r q ∧ MBe kd w r ∧ ¬ (kd = 3 ∧ w % 2 = 1 ∧ r < ah)) ∨ (b = 1 ∧ ((¬ nx L len p = 32 ∧ q = p) ∨ (nx L len p = 32 ∧ ¬ fg L len (p + 1) ∧ q = p + 1) ∨ (nx L len p = 32 ∧ fg L len (p + 1) ∧ q = p + 1 ∧ ∃ e, RN L len (p + 1) r e ∧ ¬ (MBe kd w r ∧ ¬ (kd = 3 ∧ w % 2 = 1 ∧ r < ah)))))
/-- a share is read, or at fault -/
def SHx (L : Nat → Int) (len p b0 : Int) (s0 : Int32) (q b : Int) (s : Int32) : Prop := (¬ nx L len p = 42 ∧ q = p ∧ b = b0 ∧ s = s0) ∨ (nx L len p = 42 ∧ ¬ fg L len (p + 1) ∧ q = p + 1 ∧ b = 1 ∧ s = s0) ∨ (nx L len p = 42 ∧ fg L len (p + 1) ∧ q = p + 2 ∧ b = b0 ∧ s.toInt = nx L len (p + 1) - 48)
theorem mRN.hl {F F' : mF} {A : Nat → Int} {B : Int32} (h : mRN F F') (hL : LF F 15 = A ∧ F 1 25 = B) : LF F' 15 = A ∧ F' 1 25 = B := by
  have e : LF F' 15 = LF F 15 := funext fun j => by
    unfold LF
    rw [h 15 j (by omega)]
  exact ⟨e.trans hL.1, (h 1 25 (by omega)).trans hL.2⟩
section MKL
variable {p : Program} {l : Launch} {e : Env} {R : Room} {s : State} {m : MethodId} {args : Array Value} {below : List Frame} {meth : Method} {c : Code} {H : Heap} {locs : List Loc} {Q : State → Prop}
variable {cc : ByteArray} {pc : Nat} {ls : Array Slot} {rest : List Value} {a t n : Nat} {G : tG} {own : String} {nL : Nat} {Y : mY} {lo hi : Int} {i : Int32} {cells slots : Nat}
theorem mc_ialdK (E : tE G p s m c args own cc nL) (hG : mGH G Y s H locs) (ha : Y.1 a = t) (hF : mAl t n lo hi) (hM : mMk t i.toNatClampNeg = true) (hin : vp_in i n) (hdg : decode cc pc = .ok (.iaload, 1))
    (kk : ∀ x : Int32, lo ≤ x.toInt → x.toInt ≤ hi → (∀ y, Y.2.2 t i.toNatClampNeg = some y → x = y) → x = FM G t i.toNatClampNeg → W p l e R s m args below meth c H locs cells slots Q (F0 m (pc + 1) ls (.int x :: rest))) : W p l e R s m args below meth c H locs cells slots Q (F0 m pc ls (.int i :: .ref a :: rest)) := by
  obtain ⟨h0, hs, hd⟩ := hF
  have hΓ := mΓ_at (G := G) ha h0
  rw [hs] at hΓ
  refine tg_iald E hG.1 hΓ hin hdg (fun v hv => ?_)
  obtain ⟨hv, hk⟩ := hv
  unfold msv at hv
  rw [hd] at hv
  obtain ⟨x, rfl, h1, h2, h3⟩ := hv
  exact kk x h1 h2 h3 (Value.int.inj (hk hM))
theorem msv_kX {X X' : mX} {τ : Nat → Nat} {cu u k : Nat} {v : Value} (h : msv (τ, cu, X) u k v) (hx : ∀ y, X' u k = some y → v = .int y ∨ X u k = some y) : msv (τ, cu, X') u k v := by
  unfold msv at h ⊢
  generalize mFD u k = d at h ⊢
  split at h
  · obtain ⟨x, e, g1, g2, g3⟩ := h
    refine ⟨x, e, g1, g2, fun y hy => ?_⟩
    rcases hx y hy with z | z
    · rw [e] at z; exact Value.int.inj z
    · exact g3 y z
  · exact h
  · exact h
  · exact h
/-- whatever may be known, and what is known by code -/
theorem mGainM (hG : mGH G Y s H locs) : ∃ F : mF, (∀ P : Nat → Nat → Bool, mGH G (Y.1, Y.2.1, kO P Y.2.2 F) s H locs) ∧ ∀ c k, mMk c k = true → F c k = FM G c k := by
  obtain ⟨F, hF⟩ := mGain hG
  refine ⟨fun c k => if mMk c k = true then FM G c k else F c k, fun P => ?_, fun c k h => if_pos h⟩
  obtain ⟨h1, h2, h3⟩ := hF P
  refine ⟨mTH.mk (fun q hq => (mTH.at h1 hq).to (fun k v hv => ⟨msv_kX hv.1 (fun y hy => ?_), hv.2⟩)), h2, h3⟩
  cases hp : P (Y.1 q) k with
  | true =>
    have e1 := kO_in (X := Y.2.2) (F := fun c k => if mMk c k = true then FM G c k else F c k) hp
    rw [e1] at hy
    by_cases hm : mMk (Y.1 q) k = true
    · rw [if_pos hm] at hy
      exact Or.inl ((hv.2 hm).trans (congrArg Value.int (Option.some.inj hy)))
    · rw [if_neg hm] at hy
      exact Or.inr ((kO_in hp).trans hy)
  | false =>
    have e1 := kO_out (X := Y.2.2) (F := fun c k => if mMk c k = true then FM G c k else F c k) hp
    rw [e1] at hy
    exact Or.inr ((kO_out hp).trans hy)
end MKL
