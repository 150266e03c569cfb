/-! ===== the names of the kinds, as Strings ===== -/
section TST
variable {p : Program} {l : Launch} {e : Env} {R : Room} {s : State} {m : MethodId} {args : Array Value} {below : List Frame} {meth : Method} {c : Code} {H : Heap} {locs : List Loc} {Q : State → Prop}
variable {cc : ByteArray} {pc : Nat} {ls : Array Slot} {rest : List Value} {k index : Nat} {G : tG} {own : String} {nL : Nat} {τ : Nat → Nat} {i : Int32} {cells slots : Nat}
theorem ts_alen (E : tE G p s m c args own cc nL) (hSt : tSt G (tA τ) s) (hG : tGH G τ s H locs) (hk : k < 10) (hdg : decode cc pc = .ok (.arraylength, 1))
    (kk : ∀ z : Int32, z = nI (tXl.getD k 0) → W p l e R s m args below meth c H locs cells slots Q (F0 m (pc + 1) ls (.int z :: rest))) : W p l e R s m args below meth c H locs cells slots Q (F0 m pc ls (.ref (G.2.2.2.2.1 k) :: rest)) := by
  obtain ⟨cell, h1, h2, h3, h4, h5, h6, h7⟩ := ((hSt.2.1.1 k hk).2.2.2).kept hG.2.2.1
  exact W.alen E.1 E.2.1 h1 h2 h5 rfl rfl hdg (kk _ rfl)
theorem ts_bald (E : tE G p s m c args own cc nL) (hSt : tSt G (tA τ) s) (hG : tGH G τ s H locs) (hk : k < 10) (hin : vp_in i (tXl.getD k 0)) (hdg : decode cc pc = .ok (.baload, 1))
    (kk : ∀ z : Int32, W p l e R s m args below meth c H locs cells slots Q (F0 m (pc + 1) ls (.int z :: rest))) : W p l e R s m args below meth c H locs cells slots Q (F0 m pc ls (.int i :: .ref (G.2.2.2.2.1 k) :: rest)) := by
  obtain ⟨cell, h1, h2, h3, h4, h5, h6, h7⟩ := ((hSt.2.1.1 k hk).2.2.2).kept hG.2.2.1
  exact W.bald (v := .int _) E.1 E.2.1 h1 h2 h3 (fun q => q.elim (fun z => hin (Or.inl z)) (fun z => hin (Or.inr (Nat.le_trans h4 z)))) (h6 _ (t_inL hin)) rfl rfl hdg (kk _)
theorem ts_runV {n maxL : Nat} {y : MethodName} {bytes : ByteArray} {ret : Option FieldType} {rm : Room} {Qc : Array Value → State → Outcome → State → Prop} {fr : Addr → Prop} {As st0 : List Value} (E : tE G p s m c args own cc nL) (hSt : tSt G (tA τ) s) (hG : tGH G τ s H locs) (hk : k < 10) (hM : Met l y (.code y bytes maxL ret :: tWS) rm (va_Pc (.ref (G.2.2.2.1 k) :: As) (tPre G τ)) Qc 0 0 fr) (hv : y.cls = "java/lang/String") (hc : tCv y bytes maxL ret n) (hl : Cond.methodLink own index y ∈ tWS) (hR : rm.cells = 0 ∧ rm.slots = 0 ∧ rm.frames + 1 ≤ R.frames ∧ 8 + (maxL + 11) + rm.locals ≤ R.locals) (hn : As.length = n) (hsz : ls.size = nL) (hst : st0 = As.reverse ++ .ref (G.2.2.2.1 k) :: rest) (hW : (rest.map fun v => v.category).sum ≤ 8) (hcs : cells ≤ R.cells ∧ slots ≤ R.slots) (hdg : decode cc pc = .ok (.invokevirtual index, 3)) :
    va_Run p l e R s m args below meth c H locs cells slots 0 0 (F0 m pc ls st0) rest (Qc (Value.ref (G.2.2.2.1 k) :: As).toArray) fr := by
  obtain ⟨hx, hbb, hml, hown, hts, hK⟩ := id E
  exact va_runV (C := y.cls) ⟨hx, hbb, hml, hown, hts⟩ hM ⟨tc_callB E hc.1 hl hR, hts _ hc.2.1, hts _ hc.2.2⟩ ⟨tPre.blind, by rw [hv]; exact vk_recv hSt.2.1 hk hG.2, fun U hU hWm => ⟨rfl, tPre.of hG hK hSt hU hWm⟩⟩ rfl hn hsz hst (lv_room hW) hdg hcs
end TST
theorem ts_le : ∀ k, k < 10 → tXl.getD k 0 ≤ 6 := by decide
theorem ts_len0 {k : Nat} {x r z : Int32} (hk : k < 10) (ex : x = nI (tXl.getD k 0)) (er : r.toInt = 0) (ez : z = x >>> (r &&& 31)) : z.toInt = ((tXl.getD k 0 : Nat) : Int) := by
  have er : r = 0 := Int32.toInt_inj.mp (by rw [er]; rfl)
  subst er; subst ex; subst ez
  have h := ts_le k hk
  generalize tXl.getD k 0 = n at h ⊢
  rcases (show n = 0 ∨ n = 1 ∨ n = 2 ∨ n = 3 ∨ n = 4 ∨ n = 5 ∨ n = 6 by omega) with h | h | h | h | h | h | h <;> subst h <;> decide
