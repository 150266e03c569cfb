/-! ===== System.arraycopy over typed cells ===== -/
section TCP
variable {p : Program} {l : Launch} {e : Env} {R : Room} {s : State} {m : MethodId} {args : Array Value} {below : List Frame} {meth : Method} {c : Code} {H : Heap} {locs : List Loc} {Q : State → Prop}
variable {cc : ByteArray} {pc : Nat} {ls : Array Slot} {rest : List Value} {a a0 t t0 n0 n1 index : Nat} {G : tG} {own : String} {nL : Nat} {τ : Nat → Nat} {lo hi : Int} {cells slots : Nat}
theorem tn_clamp {z : Int32} (h : ¬ z < 0) : z.toInt = (z.toNatClampNeg : Int) := by
  have h0 : 0 ≤ z.toInt := tn_nlt rfl (rfl : (0 : Int32).toInt = 0) h
  show z.toInt = ((z.toInt.toNat : Nat) : Int)
  omega
theorem tc_copyi (E : tE G p s m c args own cc nL) (hsz : ls.size = nL) (hG : tGH G τ s H locs) (hlink : Cond.methodLink own index arraycopyName ∈ tWS) (hnat : Cond.native arraycopyName ∈ tWS) (hstat : Cond.static arraycopyName ∈ tWS) (hini : Cond.initialized "java/lang/System" ∈ tWS)
    (ha0 : τ a0 = t0) (ha : τ a = t) (hF0 : tArr t0 0 n0 (0, lo, hi)) (hF : tArr t 0 n1 (0, lo, hi)) {sp dp n : Int32} (h1 : 0 ≤ sp.toInt) (h2 : 0 ≤ dp.toInt) (h3 : 0 ≤ n.toInt) (h4 : sp.toInt + n.toInt ≤ n0) (h5 : dp.toInt + n.toInt ≤ n1)
    (hR : 1 ≤ R.frames ∧ (rest.map fun v => v.category).sum + (nativeFrameWords "java/lang/System" "arraycopy" 5 + 11) ≤ R.locals) (hdg : decode cc pc = .ok (.invokestatic index, 3))
    (kk : ∀ (H1 : Heap) (locs1 : List Loc), tGH G τ s H1 locs1 → (∀ q : Nat, q ≠ a → H1[q]? = H[q]?) → W p l e R s m args below meth c H1 locs1 cells slots Q (F0 m (pc + 3) ls rest)) (hM : tMt t = false := by rfl) (hQ : tMq t = false := by rfl) : W p l e R s m args below meth c H locs cells slots Q (F0 m pc ls (.int n :: .int dp :: .ref a :: .int sp :: .ref a0 :: rest)) := by
  obtain ⟨hx, hb, hml, hown, hts, hK⟩ := E
  obtain ⟨ht0, hs0, hd0⟩ := hF0
  obtain ⟨ht, hs, hd⟩ := hF
  have hΓ0 := tΓ_at (G := G) ha0 ht0
  rw [hs0] at hΓ0
  have hΓ := tΓ_at (G := G) ha ht
  rw [hs] at hΓ
  obtain ⟨V0, hc0, hp0⟩ := hG.1 a0 _ hΓ0
  obtain ⟨V1, hc1, hp1⟩ := hG.1 a _ hΓ
  have e0 : (0 : Int32).toInt = 0 := rfl
  have s1 : ¬ sp < 0 := fun q => by have := Int32.lt_iff_toInt_lt.mp q; omega
  have s2 : ¬ dp < 0 := fun q => by have := Int32.lt_iff_toInt_lt.mp q; omega
  have s3 : ¬ n < 0 := fun q => by have := Int32.lt_iff_toInt_lt.mp q; omega
  have k1 := tn_clamp s1
  have k2 := tn_clamp s2
  have k3 := tn_clamp s3
  intro T hT X
  obtain ⟨-, kA, hkA, cmA, hkkA⟩ := (hK.2 0 (G.2.1 0, .int) rfl).1 n0 V0
  obtain ⟨-, kB, hkB, cmB, hkkB⟩ := (hK.2 0 (G.2.1 0, .int) rfl).1 n1 V1
  obtain ⟨vm', X', step⟩ := X.arraycopy hx hown (hts _ hlink) (hts _ hnat) (hts _ hstat) (hts _ hini) (src := a0) (dst := a) (cs := arrV (G.2.1 0) n0 V0) (cd := arrV (G.2.1 0) n1 V1) (srcPos := sp) (destPos := dp) (n := n) (by rw [hT]; exact hc0) (by rw [hT]; exact hc1)
    (fun _ h => by cases h) (fun _ h => by cases h) (fun h => by cases h) (fun h => by cases h) hkA hkB hkkA hkkB (by simp [refKind]) s1 s2 s3
    (by rw [arrV_size]; omega)
    (by rw [arrV_size]; omega)
    (fun vm₁ _ i hi => by
      have e : (arrV (G.2.1 0) n0 V0).slots.getD (sp.toNatClampNeg + i) .null = V0 (sp.toNatClampNeg + i) := by
        rw [Array.getD_eq_getD_getElem?, arrV_read _ _ (by omega)]
        rfl
      have hv := hp0 (sp.toNatClampNeg + i) (by omega)
      dsimp only at hv
      replace hv := hv.1
      rw [hd0] at hv
      obtain ⟨x, hx9, -⟩ := hv
      rw [e, hx9]
      exact ⟨rfl, trivial⟩)
    (g := F0 m pc ls (.int n :: .int dp :: .ref a :: .int sp :: .ref a0 :: rest)) rfl (by rw [hml]; exact hsz) (rest := rest) rfl (by rw [hb]; exact hdg) hR.1 (by show 2 * 0 + _ + _ ≤ _; have := hR.2; omega)
  have e1 : copied (arrV (G.2.1 0) n0 V0) (arrV (G.2.1 0) n1 V1) sp dp n = arrV (G.2.1 0) n1 (va_cpy V0 V1 sp.toNatClampNeg dp.toNatClampNeg n.toNatClampNeg) := va_copied (fun z : Value => z) (G.2.1 0) (G.2.1 0) V0 V1 (by omega)
  rw [e1] at X' step
  have hl : a < H.size := (Array.getElem?_eq_some_iff.mp hc1).1
  have hheap : ((T.setVm vm').setCell a (arrV (G.2.1 0) n1 (va_cpy V0 V1 sp.toNatClampNeg dp.toNatClampNeg n.toNatClampNeg))).heap = H.setIfInBounds a (arrV (G.2.1 0) n1 (va_cpy V0 V1 sp.toNatClampNeg dp.toNatClampNeg n.toNatClampNeg)) := by rw [← hT]; rfl
  have oq : ∀ q : Nat, q ≠ a → (H.setIfInBounds a (arrV (G.2.1 0) n1 (va_cpy V0 V1 sp.toNatClampNeg dp.toNatClampNeg n.toNatClampNeg)))[q]? = H[q]? := fun q hq => by simp [Array.getElem?_setIfInBounds, Ne.symm hq]
  have hta : tA τ a := show τ a ≠ 0 by rw [ha]; exact ht
  obtain ⟨t2, a1, b1⟩ := kk _ _ ⟨hG.1.set oq (fun _ _ => rfl) (fun sh hsh => by
      rw [hΓ] at hsh
      cases hsh
      refine ⟨va_cpy V0 V1 sp.toNatClampNeg dp.toNatClampNeg n.toNatClampNeg, by simp [Array.getElem?_setIfInBounds, hl], fun j hj => ?_⟩
      by_cases hjj : dp.toNatClampNeg ≤ j ∧ j < dp.toNatClampNeg + n.toNatClampNeg
      · refine ⟨?_, tKn_q hM hQ⟩
        rw [pk_cpy_in hjj.1 hjj.2, hd]
        have := (hp0 (sp.toNatClampNeg + (j - dp.toNatClampNeg)) (by omega)).1
        rwa [hd0] at this
      · show tsv τ (tFD t j) _ ∧ tKn G t a j _
        rw [pk_cpy_out (by omega)]
        exact hp1 j hj), ⟨by simp; exact hG.2.1, fun q g1 g2 => by
      rw [oq q (fun e => g2 (by rw [e]; exact hta))]
      exact hG.2.2.1 q g1 g2, fun q hq => by
      rcases List.mem_append.mp hq with h | h
      · exact hG.2.2.2 q h
      · obtain ⟨z, -, hz⟩ := List.mem_map.mp h
        rw [← hz]
        exact hta⟩⟩ oq _ hheap X'
  exact ⟨t2, step t2 a1, b1⟩
theorem tc_copyl (E : tE G p s m c args own cc nL) (hsz : ls.size = nL) (hG : tGH G τ s H locs) (hlink : Cond.methodLink own index arraycopyName ∈ tWS) (hnat : Cond.native arraycopyName ∈ tWS) (hstat : Cond.static arraycopyName ∈ tWS) (hini : Cond.initialized "java/lang/System" ∈ tWS)
    (ha0 : τ a0 = t0) (ha : τ a = t) (hF0 : tArr t0 2 n0 (3, 0, 0)) (hF : tArr t 2 n1 (3, 0, 0)) {sp dp n : Int32} (h1 : 0 ≤ sp.toInt) (h2 : 0 ≤ dp.toInt) (h3 : 0 ≤ n.toInt) (h4 : sp.toInt + n.toInt ≤ n0) (h5 : dp.toInt + n.toInt ≤ n1)
    (hR : 1 ≤ R.frames ∧ (rest.map fun v => v.category).sum + (nativeFrameWords "java/lang/System" "arraycopy" 5 + 11) ≤ R.locals) (hdg : decode cc pc = .ok (.invokestatic index, 3))
    (kk : ∀ (H1 : Heap) (locs1 : List Loc), tGH G τ s H1 locs1 → (∀ q : Nat, q ≠ a → H1[q]? = H[q]?) → W p l e R s m args below meth c H1 locs1 cells slots Q (F0 m (pc + 3) ls rest)) (hM : tMt t = false := by rfl) (hQ : tMq t = false := by rfl) : W p l e R s m args below meth c H locs cells slots Q (F0 m pc ls (.int n :: .int dp :: .ref a :: .int sp :: .ref a0 :: rest)) := by
  obtain ⟨hx, hb, hml, hown, hts, hK⟩ := E
  obtain ⟨ht0, hs0, hd0⟩ := hF0
  obtain ⟨ht, hs, hd⟩ := hF
  have hΓ0 := tΓ_at (G := G) ha0 ht0
  rw [hs0] at hΓ0
  have hΓ := tΓ_at (G := G) ha ht
  rw [hs] at hΓ
  obtain ⟨V0, hc0, hp0⟩ := hG.1 a0 _ hΓ0
  obtain ⟨V1, hc1, hp1⟩ := hG.1 a _ hΓ
  have e0 : (0 : Int32).toInt = 0 := rfl
  have s1 : ¬ sp < 0 := fun q => by have := Int32.lt_iff_toInt_lt.mp q; omega
  have s2 : ¬ dp < 0 := fun q => by have := Int32.lt_iff_toInt_lt.mp q; omega
  have s3 : ¬ n < 0 := fun q => by have := Int32.lt_iff_toInt_lt.mp q; omega
  have k1 := tn_clamp s1
  have k2 := tn_clamp s2
  have k3 := tn_clamp s3
  intro T hT X
  obtain ⟨-, kA, hkA, cmA, hkkA⟩ := (hK.2 2 (G.2.1 2, .long) rfl).1 n0 V0
  obtain ⟨-, kB, hkB, cmB, hkkB⟩ := (hK.2 2 (G.2.1 2, .long) rfl).1 n1 V1
  obtain ⟨vm', X', step⟩ := X.arraycopy hx hown (hts _ hlink) (hts _ hnat) (hts _ hstat) (hts _ hini) (src := a0) (dst := a) (cs := arrV (G.2.1 2) n0 V0) (cd := arrV (G.2.1 2) n1 V1) (srcPos := sp) (destPos := dp) (n := n) (by rw [hT]; exact hc0) (by rw [hT]; exact hc1)
    (fun _ h => by cases h) (fun _ h => by cases h) (fun h => by cases h) (fun h => by cases h) hkA hkB hkkA hkkB (by simp [refKind]) s1 s2 s3
    (by rw [arrV_size]; omega)
    (by rw [arrV_size]; omega)
    (fun vm₁ _ i hi => by
      have e : (arrV (G.2.1 2) n0 V0).slots.getD (sp.toNatClampNeg + i) .null = V0 (sp.toNatClampNeg + i) := by
        rw [Array.getD_eq_getD_getElem?, arrV_read _ _ (by omega)]
        rfl
      have hv := hp0 (sp.toNatClampNeg + i) (by omega)
      dsimp only at hv
      replace hv := hv.1
      rw [hd0] at hv
      obtain ⟨x, hx9⟩ := hv
      rw [e, hx9]
      exact ⟨rfl, trivial⟩)
    (g := F0 m pc ls (.int n :: .int dp :: .ref a :: .int sp :: .ref a0 :: rest)) rfl (by rw [hml]; exact hsz) (rest := rest) rfl (by rw [hb]; exact hdg) hR.1 (by show 2 * 0 + _ + _ ≤ _; have := hR.2; omega)
  have e1 : copied (arrV (G.2.1 2) n0 V0) (arrV (G.2.1 2) n1 V1) sp dp n = arrV (G.2.1 2) n1 (va_cpy V0 V1 sp.toNatClampNeg dp.toNatClampNeg n.toNatClampNeg) := va_copied (fun z : Value => z) (G.2.1 2) (G.2.1 2) V0 V1 (by omega)
  rw [e1] at X' step
  have hl : a < H.size := (Array.getElem?_eq_some_iff.mp hc1).1
  have hheap : ((T.setVm vm').setCell a (arrV (G.2.1 2) n1 (va_cpy V0 V1 sp.toNatClampNeg dp.toNatClampNeg n.toNatClampNeg))).heap = H.setIfInBounds a (arrV (G.2.1 2) n1 (va_cpy V0 V1 sp.toNatClampNeg dp.toNatClampNeg n.toNatClampNeg)) := by rw [← hT]; rfl
  have oq : ∀ q : Nat, q ≠ a → (H.setIfInBounds a (arrV (G.2.1 2) n1 (va_cpy V0 V1 sp.toNatClampNeg dp.toNatClampNeg n.toNatClampNeg)))[q]? = H[q]? := fun q hq => by simp [Array.getElem?_setIfInBounds, Ne.symm hq]
  have hta : tA τ a := show τ a ≠ 0 by rw [ha]; exact ht
  obtain ⟨t2, a1, b1⟩ := kk _ _ ⟨hG.1.set oq (fun _ _ => rfl) (fun sh hsh => by
      rw [hΓ] at hsh
      cases hsh
      refine ⟨va_cpy V0 V1 sp.toNatClampNeg dp.toNatClampNeg n.toNatClampNeg, by simp [Array.getElem?_setIfInBounds, hl], fun j hj => ?_⟩
      by_cases hjj : dp.toNatClampNeg ≤ j ∧ j < dp.toNatClampNeg + n.toNatClampNeg
      · refine ⟨?_, tKn_q hM hQ⟩
        rw [pk_cpy_in hjj.1 hjj.2, hd]
        have := (hp0 (sp.toNatClampNeg + (j - dp.toNatClampNeg)) (by omega)).1
        rwa [hd0] at this
      · show tsv τ (tFD t j) _ ∧ tKn G t a j _
        rw [pk_cpy_out (by omega)]
        exact hp1 j hj), ⟨by simp; exact hG.2.1, fun q g1 g2 => by
      rw [oq q (fun e => g2 (by rw [e]; exact hta))]
      exact hG.2.2.1 q g1 g2, fun q hq => by
      rcases List.mem_append.mp hq with h | h
      · exact hG.2.2.2 q h
      · obtain ⟨z, -, hz⟩ := List.mem_map.mp h
        rw [← hz]
        exact hta⟩⟩ oq _ hheap X'
  exact ⟨t2, step t2 a1, b1⟩
end TCP
