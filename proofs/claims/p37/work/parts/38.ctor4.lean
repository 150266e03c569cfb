/-! ===== constructors: int[24][4] ===== -/
section CGM
variable {p : Program} {l : Launch} {e : Env} {R : Room} {s : State} {m : MethodId} {args : Array Value} {below : List Frame} {meth : Method} {c : Code} {H : Heap} {locs : List Loc} {Q : State → Prop}
variable {cc : ByteArray} {pc : Nat} {ls : Array Slot} {rest st0 As : List Value} {a b h t k ci cj index n N q : Nat} {G : tG} {own : String} {nL : Nat} {τ τ0 : Nat → Nat} {fs : List Value} {cells slots mc ms : Nat}
def tMu (τ : Nat → Nat) (sz : Nat) : Nat → Nat := fun x => if x < sz then τ x else if x = sz then 17 else if x < sz + 25 then 11 else 0
theorem tMu_old {sz x : Nat} (h : x < sz) : tMu τ sz x = τ x := by simp [tMu, h]
theorem tMu_out {sz : Nat} : tMu τ sz sz = 17 := by simp [tMu]
theorem tMu_in {sz j : Nat} (h : j < 24) : tMu τ sz (sz + 1 + j) = 11 := by
  unfold tMu
  rw [if_neg (by omega), if_neg (by omega), if_pos (by omega)]
theorem tMu_of {sz x : Nat} (h : sz ≤ x) (h2 : tMu τ sz x ≠ 0) : x = sz ∨ ∃ j, j < 24 ∧ x = sz + 1 + j := by
  unfold tMu at h2
  rw [if_neg (by omega)] at h2
  by_cases e : x = sz
  · exact Or.inl e
  · rw [if_neg e] at h2
    by_cases e2 : x < sz + 25
    · exact Or.inr ⟨x - sz - 1, by omega, by omega⟩
    · rw [if_neg e2] at h2; exact absurd rfl h2
theorem cg_multi (E : tE G p s m c args own cc nL) (hAOA : tAOA s) (hC : tCG G τ0 τ s h ci fs H locs) (hl : Cond.classLink own index "[[I" ∈ tWS) (ha : Cond.arrayClass .int ∈ tWS) (hcl : cells + (1 + 24) ≤ R.cells) (hsl : slots + (24 + 24 * 4) ≤ R.slots) (hkn : ∀ j, j < 24 → ∀ i, FF G (H.size + 1 + j) i = 0) (hdg : decode cc pc = .ok (.multianewarray index 2, 4))
    (kk : ∀ (q : Nat) (H1 : Heap) (τ' : Nat → Nat), q = H.size → H1.size = H.size + 25 → tCG G τ0 τ' s h ci fs H1 locs → τ' q = 17 → (∀ x, τ x ≠ 0 → τ' x = τ x) → (∀ x : Nat, x < H.size → H1[x]? = H[x]?) → W p l e R s m args below meth c H1 locs (cells + 1 + 24) (slots + 24 + 24 * 4) Q (F0 m (pc + 4) ls (.ref q :: rest))) : W p l e R s m args below meth c H locs cells slots Q (F0 m pc ls (.int 4 :: .int 24 :: rest)) := by
  obtain ⟨hx, hb, hml, hown, hts, hK⟩ := E
  intro T hT Xs
  have hl2 : Cond.classLink own index ("[" ++ (FieldType.array .int).toString) ∈ tWS := by
    have e : "[" ++ (FieldType.array .int).toString = "[[I" := by decide +kernel
    rw [e]
    exact hl
  obtain ⟨vm₁, cA, comp, -, fA, fC, hO, -, X', step⟩ := Xs.multianewarray2F (ty := .int) hx hown (hts _ hl2) hAOA (hts _ ha) (g := F0 m pc ls (.int 4 :: .int 24 :: rest)) rfl (by rw [hb]; exact hdg) rfl (by decide) (by decide) (by decide) (by decide) (by decide) rfl rfl hcl hsl
  have eA : cA = G.2.1 5 := Option.some.inj (fA.symm.trans (hK.2 5 (G.2.1 5, .array .int) rfl).2)
  have eC : comp = G.2.1 0 := by
    have e : (FieldType.array .int).toString = "[I" := by decide +kernel
    rw [e] at fC
    exact Option.some.inj (fC.symm.trans (va_nm_int (hK.2 0 (G.2.1 0, .int) rfl).2))
  subst eA
  subst eC
  have n24 : (24 : Int32).toNatClampNeg = 24 := by decide
  have n4 : (4 : Int32).toNatClampNeg = 4 := by decide
  rw [n24, n4] at X' step
  generalize hF : Jvm.Free.Multi.fill (T.setVm vm₁) (G.2.1 5) (G.2.1 0) 24 4 (defaultValue .int) 24 = F at X' step
  have hTh : (T.setVm vm₁).heap = H := hT
  obtain ⟨f1, f2, -, -⟩ := Jvm.Free.Multi.fill_facts (T.setVm vm₁) (G.2.1 5) (G.2.1 0) 24 4 (defaultValue .int) 24
  rw [hF, hTh] at f1 f2
  have hold : ∀ x : Nat, x < H.size → F.heap[x]? = H[x]? := fun x hx => by
    have := Jvm.Free.Multi.fill_old (T.setVm vm₁) (G.2.1 5) (G.2.1 0) 24 4 (defaultValue .int) (a := x) (by rw [hTh]; exact hx) 24
    rw [hF, hTh] at this
    exact this
  have hrow : ∀ j : Nat, j < 24 → F.heap[H.size + 1 + j]? = some (arrV (G.2.1 0) 4 (fun _ => .int 0)) := fun j hj => by
    have := Jvm.Free.Multi.fill_inner (T.setVm vm₁) (G.2.1 5) (G.2.1 0) 24 4 (defaultValue .int) 24 j hj
    rw [hF, hTh] at this
    rw [this]
    rw [← arrV_new]
    rfl
  rw [vq_outer] at f2
  obtain ⟨h1, h2, h3, h4, h5, h6, h7⟩ := hC
  have hlt := h4.lt
  have hsz := h5.1
  have hτ0 : ∀ x, H.size ≤ x → τ x = 0 := fun x hx => Classical.byContradiction fun z9 => by have := h2 x z9; omega
  have hup : ∀ x, τ x ≠ 0 → tMu τ H.size x = τ x := fun x hx => tMu_old (h2 x hx)
  have hCG : tCG G τ0 (tMu τ H.size) s h ci fs F.heap locs := by
    refine ⟨TH.ext h1 (fun x hx => hold x (h2 x hx)) hup (fun x hx0 hx1 => ?_), fun x hx => ?_, (tMu_old hlt).trans h3, h4.kept (hold h hlt), ⟨by rw [f1]; omega, fun x e1 e2 => (hold x (Nat.lt_of_lt_of_le e1 hsz)).trans (h5.2.1 x e1 e2), h5.2.2⟩, h6, ⟨fun x hx => (hup x (by rw [h7.1 x hx]; exact hx)).trans (h7.1 x hx), fun x e1 e2 e3 => (tMu_old (by omega)).trans (h7.2.1 x e1 e2 e3), fun x e3 => ?_⟩⟩
    · by_cases hx : x < H.size
      · exact absurd ((tMu_old hx).trans hx0) hx1
      · rcases tMu_of (by omega) hx1 with e | ⟨j, hj, e⟩
        · subst e
          rw [tMu_out]
          exact ⟨_, f2, fun i hi => by
            show tsv _ (1, 11, 0) (if i < 24 then .ref (H.size + 1 + i) else .null) ∧ tKn G 17 H.size i (if i < 24 then .ref (H.size + 1 + i) else .null)
            rw [if_pos hi]
            exact ⟨⟨_, rfl, tMu_in hi⟩, tKn_r (d := 1 + i) rfl rfl rfl (by rw [Nat.add_assoc])⟩⟩
        · subst e
          rw [tMu_in hj]
          exact ⟨_, hrow j hj, fun i hi => ⟨⟨0, rfl, by decide, by decide⟩, tKn_z rfl (hkn j hj i)⟩⟩
    · rw [f1]
      by_cases e : x < H.size
      · omega
      · rcases tMu_of (by omega) hx with e | ⟨j, hj, e⟩ <;> omega
    · by_cases e : x < H.size
      · rw [tMu_old e]; exact h7.2.2 x e3
      · by_cases hz : tMu τ H.size x = 0
        · rw [hz]; exact ⟨by decide, by decide, fun z => by cases z⟩
        · rcases tMu_of (by omega) hz with e | ⟨j, hj, e⟩
          · rw [e, tMu_out]; exact ⟨by decide, by decide, fun z => by cases z⟩
          · rw [e, tMu_in hj]; exact ⟨by decide, by decide, fun z => by cases z⟩
  obtain ⟨t, a1, b1⟩ := kk H.size F.heap (tMu τ H.size) rfl (by rw [f1]) hCG tMu_out hup hold F rfl X'
  refine ⟨t, step t ?_, b1⟩
  have e : T.heap.size = H.size := by rw [hT]
  rw [e]
  exact a1
end CGM
