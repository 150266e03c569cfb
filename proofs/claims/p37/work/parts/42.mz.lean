/-! ===== every cell of the reference holds something: all of it may be known ===== -/
def mCn (G : tG) (H : Heap) (a c k : Nat) : Option Value := match mShp c with
  | .inl ci => H[a]?.bind fun cell => cell.slots[G.1.2 ci k]?
  | .inr _ => H[a]?.bind fun cell => cell.slots[k]?
noncomputable def mFl (G : tG) (Y : mY) (H : Heap) (c k : Nat) : Int32 := Classical.epsilon fun x : Int32 => ∃ a, Y.1 a = c ∧ c ≠ 0 ∧ mCn G H a c k = some (.int x)
theorem mFl_is {G : tG} {Y : mY} {H : Heap} {a c k : Nat} {x : Int32} (hU : mOK Y) (ha : Y.1 a = c) (hc : c ≠ 0) (h : mCn G H a c k = some (.int x)) : mFl G Y H c k = x := by
  have hex : ∃ x : Int32, ∃ a, Y.1 a = c ∧ c ≠ 0 ∧ mCn G H a c k = some (.int x) := ⟨x, a, ha, hc, h⟩
  obtain ⟨a', e1, e2, e3⟩ : ∃ a, Y.1 a = c ∧ c ≠ 0 ∧ mCn G H a c k = some (.int (mFl G Y H c k)) := Classical.epsilon_spec (p := fun x : Int32 => ∃ a, Y.1 a = c ∧ c ≠ 0 ∧ mCn G H a c k = some (.int x)) hex
  have ea : a' = a := hU.2 a' a (by rw [e1, ha]) (by rw [e1]; exact hc)
  rw [ea, h] at e3
  exact (Value.int.inj (Option.some.inj e3)).symm
theorem mFull {G : tG} {Y : mY} {s : State} {H : Heap} {locs : List Loc} (hG : mGH G Y s H locs) : ∃ F : Nat → Nat → Int32, mGH G (Y.1, Y.2.1, fun c k => some (F c k)) s H locs ∧ ∀ c k y a, Y.1 a = c → c ≠ 0 → (∃ lo hi, mFD c k = (0, lo, hi)) → (match mShp c with | .inl _ => k < 40 | .inr q => k < q.2) → Y.2.2 c k = some y → F c k = y := by
  obtain ⟨h1, h2, h3⟩ := hG
  have key : ∀ a, Y.1 a ≠ 0 → ∀ V : Nat → Value, ∀ k, mCn G H a (Y.1 a) k = some (V k) → msv Y (Y.1 a) k (V k) → msv (Y.1, Y.2.1, fun c k => some (mFl G Y H c k)) (Y.1 a) k (V k) := by
    intro a ha V k hc hv
    unfold msv at hv ⊢
    split at hv
    · obtain ⟨x, e, g1, g2, g3⟩ := hv
      refine ⟨x, e, g1, g2, fun y hy => ?_⟩
      have hy2 : some (mFl G Y H (Y.1 a) k) = some y := hy
      cases hy2
      exact (mFl_is h3 rfl ha (by rw [hc, e])).symm
    · exact hv
    · exact hv
    · exact hv
  have cont : ∀ a, Y.1 a ≠ 0 → ∃ V : Nat → Value, (∀ k, (match mShp (Y.1 a) with | .inl _ => k < 40 | .inr q => k < q.2) → mCn G H a (Y.1 a) k = some (V k) ∧ msv Y (Y.1 a) k (V k)) ∧ ∀ Y' : mY, (∀ k, (match mShp (Y.1 a) with | .inl _ => k < 40 | .inr q => k < q.2) → msv Y' (Y.1 a) k (V k)) → tAt G (mShp (Y.1 a), fun k v => msv Y' (Y.1 a) k v ∧ mKn G (Y.1 a) k v) a H := by
    intro a ha
    have hat := mTH.at h1 ha
    have hci : ∀ ci, mShp (Y.1 a) = .inl ci → ci = 9 := fun ci hs => by
      unfold mShp at hs
      split at hs <;> first | (cases hs; rfl) | (exact absurd hs (by simp))
    cases hs : mShp (Y.1 a) with
    | inl ci =>
      rw [hs] at hat
      have e9 := hci ci hs
      subst e9
      obtain ⟨r, V, g1, ⟨cell, q1, q2, q3, q4⟩, g3⟩ := hat
      have hr : r = (RX10, TX10, 40) := Option.some.inj (g1.symm.trans fc_X10.1)
      subst hr
      refine ⟨V, fun k hk => ⟨?_, (g3 k hk).1⟩, fun Y' hY' => ⟨_, V, g1, ⟨cell, q1, q2, q3, q4⟩, fun k hk => ⟨hY' k hk, (g3 k hk).2⟩⟩⟩
      unfold mCn
      rw [hs]
      show (H[a]?.bind fun cell => cell.slots[G.1.2 9 k]?) = _
      rw [q1, Option.bind_some, q4 k hk]
    | inr q =>
      rw [hs] at hat
      obtain ⟨ak, n⟩ := q
      obtain ⟨V, g1, g2⟩ := hat
      refine ⟨V, fun k hk => ⟨?_, (g2 k hk).1⟩, fun Y' hY' => ⟨V, g1, fun k hk => ⟨hY' k hk, (g2 k hk).2⟩⟩⟩
      unfold mCn
      rw [hs]
      show (H[a]?.bind fun cell => cell.slots[k]?) = _
      rw [g1, Option.bind_some, arrV_read _ _ hk]
  refine ⟨mFl G Y H, ⟨mTH.mk (fun a ha => ?_), h2, h3⟩, fun c k y a ha hc0 hd hk hy => ?_⟩
  · obtain ⟨V, hV, hT⟩ := cont a ha
    exact hT _ (fun k hk => key a ha V k (hV k hk).1 (hV k hk).2)
  · subst ha
    obtain ⟨V, hV, -⟩ := cont a hc0
    obtain ⟨g1, g2⟩ := hV k hk
    obtain ⟨lo, hi, hd⟩ := hd
    unfold msv at g2
    rw [hd] at g2
    obtain ⟨x, e, -, -, g3⟩ := g2
    rw [← g3 y hy]
    exact mFl_is h3 rfl hc0 (by rw [g1, e])
