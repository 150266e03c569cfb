section TLK
variable {s : State} {H : Heap} {locs : List Loc} {a b t t' k index n : Nat} {G : tG} {own : String} {τ : Nat → Nat} {i : Int32}
theorem tS_ref (hG : tGH G τ s H locs) (ha : τ a = t) (hF : tFr own index t k t') {ci : Nat} (hs : tSl G H a ci k (.ref b)) (hci : tShp t = .inl ci := by rfl) : τ b = t' := by
  obtain ⟨ht, ⟨cj, hs2, hf⟩, hd⟩ := hF
  cases hci.symm.trans hs2
  have hΓ := tΓ_at (G := G) ha ht
  rw [hs2] at hΓ
  obtain ⟨v, hv, hsl⟩ := tg_look hG.1 hΓ hf
  replace hv := hv.1
  rw [hd] at hv
  obtain ⟨x, rfl, h1⟩ := hv
  have e := hs.uniq hsl
  cases e
  exact h1
theorem tE_ref {ak : Nat} (hG : tGH G τ s H locs) (ha : τ a = t) (hF : tArr t ak n (1, (t' : Int), 0)) (hin : vp_in i n) (hel : tEl G H a i.toNatClampNeg (.ref b)) : τ b = t' := by
  obtain ⟨ht, hs, hd⟩ := hF
  have hΓ := tΓ_at (G := G) ha ht
  rw [hs] at hΓ
  obtain ⟨V, h1, h2⟩ := hG.1 a _ hΓ
  obtain ⟨ak2, n2, V2, q1, q2, q3⟩ := hel
  have hv := h2 _ (t_inL hin)
  dsimp only at hv
  replace hv := hv.1
  rw [hd] at hv
  obtain ⟨x, hx9, h3⟩ := hv
  have e9 := congrArg (fun c : Cell => c.slots[i.toNatClampNeg]?) (Option.some.inj (h1.symm.trans q1))
  rw [arrV_read _ _ (t_inL hin), arrV_read _ _ q2, q3, hx9] at e9
  cases e9
  exact h3
end TLK
