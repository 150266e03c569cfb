/-! THE CLAIM OUT OF ONE WALK OF THE LAW'S BODY. Your part is whole_start (and what it stands on); all else here is the same for every law, but numbers. -/
def R_law : String := "LaidOutBoxesLaw"
def lw_P (b : Addr) (xs : List Int32) (args : Array Value) (s : State) : Prop := args = #[.ref b] ∧ s.IntsAt b xs ∧ xs.length ≤ 3584 ∧ (Jvm.Cond.and given_1 narrow_1).before args s = true
def lw_Q (_ : Array Value) (s : State) (o : Outcome) (t : State) : Prop := o = .returned (some (.int 1)) ∧ Framed s o t [] 600000 7302250
def lw_Z (below : List Frame) (a : Array Value) (s : State) : State → Prop := fun t => ∃ o, t.status = .running ∧ Ended t below o ∧ lw_Q a s o t
/-- the law's own end, with 1 on the stack, nothing written that was there before, its room as the claim has it -/
theorem lw_ret {p : Program} {l : Launch} {e : Env} {s : State} {m : MethodId} {below : List Frame} {meth : Method} {c : Code} {b : Nat} (hx : p.tables.exec = Jvm.exec) (hb : c.code = code) (hr : meth.sig.returnType = ret) (hlocks : meth.locks = false) {pc : Nat} {H : Heap} {ls : Array Slot} (hdg : decode code pc = .ok (.ireturn, 1)) : W p l e room_1 s m #[Value.ref b] below meth c H [] 600000 7302250 (lw_Z below #[Value.ref b] s) (F0 m pc ls [.int 1]) := by
  intro T hT X
  obtain ⟨fs, hret, hrun, hended, hW, hframe⟩ := X.leave (v := some (.int 1)) (hlocks := hlocks) (fun h => by rw [hr] at h; cases h)
  have hmeth' : T.vm.method? m = some meth := X.method'
  refine ⟨T.setFrames fs, ?_, .returned (some (.int 1)), hrun, hended, rfl, ⟨_, rfl⟩, hW, hframe⟩
  jvm_step X.here [X.here.top, hx, hb, hdg, hmeth', hr, ret, narrow_b1]
  (try refine ⟨rfl, ?_⟩); (try refine ⟨rfl, ?_⟩)
  first | (intro acts; rw [hret _ acts rfl rfl rfl]) | rw [hret _ _ rfl rfl rfl]
  exact Steps.refl _
/-- what holds at the law's entry: the machine, the code, the tables' words (any of lw_tbl by 'hts w (by decide +kernel)'), the script of L ints xs at the cell b, what the Statement gives of the start (any of its parts by flat_of_before) -/
def lw_At (p : Program) (s : State) (m : MethodId) (meth : Method) (c : Code) (b L : Nat) (xs : Nat → Int32) : Prop :=
  p.tables.exec = Jvm.exec ∧ c.code = code ∧ meth.sig.returnType = ret ∧ c.maxLocals = 4 ∧ s.vm.findClass R_law = some m.cls ∧ (∀ w ∈ lw_tbl, w.before #[Value.ref b] s = true) ∧ va_X b L xs s s.heap ∧ b < s.heap.size ∧ meth.locks = false ∧ (Jvm.Cond.and given_1 narrow_1).before #[Value.ref b] s = true

set_option maxHeartbeats 4000000 in
set_option maxRecDepth 100000 in
theorem lw_loop {p : Program} {l : Launch} {e : Env} {s : State} {m : MethodId} {below : List Frame} {meth : Method} {c : Code} {b L x1 x2 : Nat} {xs : Nat → Int32} {τ σ : Nat → Nat} (hX : va_X b L xs s s.heap) (hbl : b < s.heap.size) (hx1 : τ x1 = 1) (hx2 : σ x2 = 1) (h28 : ∀ q, τ q ≠ 28) (h29 : ∀ q, τ q ≠ 29) (h7 : ∀ q, τ q = 7 → q = x1 + 406) (h18 : τ (x1 + 438) = 18) (hL0 : L ≤ 3584) (hr : meth.sig.returnType = ret) (hlk : meth.locks = false) : ∀ (n : Nat) (G : tG) (i : Int32) (a : Nat → Option (Nat → Int32)) (H : Heap) (ls : Array Slot), tE G p s m c #[Value.ref b] RL cL_law 4 → tSt G (tA τ) s → lK G x1 a → (4000 - i.toInt).toNat < n → 0 ≤ i.toInt → i.toInt ≤ 3600 → lv_has ls 4 [(0, .ref b), (1, .ref x1), (2, .ref x2), (3, .int i)] → lS G τ σ a s H → W p l e room_1 s m #[Value.ref b] below meth c H [] 472 11431 (lw_Z below #[Value.ref b] s) (F0 m 18 ls []) := by
  intro n
  induction n with
  | zero => intro G i a H ls E hSt hK h; omega
  | succ n ih =>
    intro G i a H ls E hSt hK hn hi0 hi1 hl hL
    have hx := E.1
    have hb := E.2.1
    refine lv_iload_n hx hb dL_law_18 rfl (lv_at hl 3 rfl) ?_
    refine lv_aload_n hx hb dL_law_19 rfl (lv_at hl 0 rfl) ?_
    refine va_slen hx hb hX hbl (by show ¬ s.heap.size ≤ b; omega) hL.2.2.2.2.2.2.2 dL_law_20 ?_
    refine lv_topi (fun z1 ez1 => ?_)
    have tz1 : z1.toInt = (L : Int) := by rw [ez1]; exact nI_toInt (by omega)
    refine lv_bipush (v := 7) hx hb dL_law_21 (by decide) ?_
    refine lv_isub hx hb dL_law_23 ?_
    refine lv_topi (fun z2 ez2 => ?_)
    have tz2 := tn_sub ez2 tz1 kI_7 (by omega) (by omega)
    refine lv_icmp_gt (tgt := 1318) hx hb dL_law_24 (by decide) (fun c3 => ?_) (fun c3 => ?_)
    · refine lv_iconst (v := 1) hx hb dL_law_1318 (by decide) ?_
      refine W.widen (k := 600000) (n := 7302250) (Nat.le_of_ble_eq_true rfl) (Nat.le_of_ble_eq_true rfl) ?_
      exact lw_ret hx hb hr hlk dL_law_1319
    have t3 : ¬ z2.toInt < i.toInt := fun q => c3 (Int32.lt_iff_toInt_lt.mpr q)
    have hiL : i.toInt + 7 ≤ (L : Int) := by omega
    have kk : ∀ (G : tG) (a : Nat → Option (Nat → Int32)) (H : Heap), tE G p s m c #[Value.ref b] RL cL_law 4 → tSt G (tA τ) s → lK G x1 a → lS G τ σ a s H → W p l e room_1 s m #[Value.ref b] below meth c H [] 472 11431 (lw_Z below #[Value.ref b] s) (F0 m 1312 ls []) := by
      intro G a H E hSt hK hL
      obtain ⟨z9, ez9⟩ : ∃ y : Int32, y = i + (7) := ⟨_, rfl⟩
      refine lv_iinc (v := z9) (lv' := [(3, .int z9), (0, .ref b), (1, .ref x1), (2, .ref x2)]) hx hb dL_law_1312 hl (k := 3) rfl (by rw [ez9]; rfl) (by decide) rfl (fun ls hl => ?_)
      have tz9 := tn_add ez9 rfl kI_7 (by omega) (by omega)
      refine lv_goto (tgt := 18) hx hb dL_law_1315 (by decide) ?_
      exact ih G z9 a H ls E hSt hK (by omega) (by omega) (by omega) (lv_sub hl [1, 2, 3, 0] rfl) hL
    refine lv_aload_n hx hb dL_law_27 rfl (lv_at hl 0 rfl) ?_
    refine lv_iload_n hx hb dL_law_28 rfl (lv_at hl 3 rfl) ?_
    refine va_sld hx hb hX hbl (by show ¬ s.heap.size ≤ b; omega) hL.2.2.2.2.2.2.2 (t_in (by omega) (by omega)) dL_law_29 ?_
    refine lv_topi (fun v4 ev4 => ?_)
    refine lv_bipush (v := 63) hx hb dL_law_30 (by decide) ?_
    refine lv_iand hx hb dL_law_32 ?_
    refine lv_topi (fun v5 ev5 => ?_)
    rcases (show (v5.toInt < 0 ∨ 35 < v5.toInt) ∨ v5.toInt = 0 ∨ v5.toInt = 1 ∨ v5.toInt = 2 ∨ v5.toInt = 3 ∨ v5.toInt = 4 ∨ v5.toInt = 5 ∨ v5.toInt = 6 ∨ v5.toInt = 7 ∨ v5.toInt = 8 ∨ v5.toInt = 9 ∨ v5.toInt = 10 ∨ v5.toInt = 11 ∨ v5.toInt = 12 ∨ v5.toInt = 13 ∨ v5.toInt = 14 ∨ v5.toInt = 15 ∨ v5.toInt = 16 ∨ v5.toInt = 17 ∨ v5.toInt = 18 ∨ v5.toInt = 19 ∨ v5.toInt = 20 ∨ v5.toInt = 21 ∨ v5.toInt = 22 ∨ v5.toInt = 23 ∨ v5.toInt = 24 ∨ v5.toInt = 25 ∨ v5.toInt = 26 ∨ v5.toInt = 27 ∨ v5.toInt = 28 ∨ v5.toInt = 29 ∨ v5.toInt = 30 ∨ v5.toInt = 31 ∨ v5.toInt = 32 ∨ v5.toInt = 33 ∨ v5.toInt = 34 ∨ v5.toInt = 35 by omega) with k6 | k6 | k6 | k6 | k6 | k6 | k6 | k6 | k6 | k6 | k6 | k6 | k6 | k6 | k6 | k6 | k6 | k6 | k6 | k6 | k6 | k6 | k6 | k6 | k6 | k6 | k6 | k6 | k6 | k6 | k6 | k6 | k6 | k6 | k6 | k6 | k6
    · refine lv_tableOut (tgt := 1312) hx hb dL_law_33 k6 (by decide) ?_
      exact kk G a H E hSt hK hL
    · refine lv_tableIn (off := 159) (tgt := 192) hx hb dL_law_33 (by rw [k6]; decide) (by rw [k6]; decide) (by rw [k6]; rfl) (by decide) ?_
      exact lw_c0 E hSt hX hbl hx1 hx2 h28 h29 h7 h18 hi0 hiL hL0 hl hK hL kk
    · refine lv_tableIn (off := 234) (tgt := 267) hx hb dL_law_33 (by rw [k6]; decide) (by rw [k6]; decide) (by rw [k6]; rfl) (by decide) ?_
      exact lw_c1 E hSt hX hbl hx1 hx2 h28 h29 h7 h18 hi0 hiL hL0 hl hK hL kk
    · refine lv_tableIn (off := 277) (tgt := 310) hx hb dL_law_33 (by rw [k6]; decide) (by rw [k6]; decide) (by rw [k6]; rfl) (by decide) ?_
      exact lw_c2 E hSt hX hbl hx1 hx2 h28 h29 h7 h18 hi0 hiL hL0 hl hK hL kk
    · refine lv_tableIn (off := 300) (tgt := 333) hx hb dL_law_33 (by rw [k6]; decide) (by rw [k6]; decide) (by rw [k6]; rfl) (by decide) ?_
      exact lw_c3 E hSt hX hbl hx1 hx2 h28 h29 h7 h18 hi0 hiL hL0 hl hK hL kk
    · refine lv_tableIn (off := 333) (tgt := 366) hx hb dL_law_33 (by rw [k6]; decide) (by rw [k6]; decide) (by rw [k6]; rfl) (by decide) ?_
      exact lw_c4 E hSt hX hbl hx1 hx2 h28 h29 h7 h18 hi0 hiL hL0 hl hK hL kk
    · refine lv_tableIn (off := 366) (tgt := 399) hx hb dL_law_33 (by rw [k6]; decide) (by rw [k6]; decide) (by rw [k6]; rfl) (by decide) ?_
      exact lw_c5 E hSt hX hbl hx1 hx2 h28 h29 h7 h18 hi0 hiL hL0 hl hK hL kk
    · refine lv_tableIn (off := 399) (tgt := 432) hx hb dL_law_33 (by rw [k6]; decide) (by rw [k6]; decide) (by rw [k6]; rfl) (by decide) ?_
      exact lw_c6 E hSt hX hbl hx1 hx2 h28 h29 h7 h18 hi0 hiL hL0 hl hK hL kk
    · refine lv_tableIn (off := 432) (tgt := 465) hx hb dL_law_33 (by rw [k6]; decide) (by rw [k6]; decide) (by rw [k6]; rfl) (by decide) ?_
      exact lw_c7 E hSt hX hbl hx1 hx2 h28 h29 h7 h18 hi0 hiL hL0 hl hK hL kk
    · refine lv_tableIn (off := 455) (tgt := 488) hx hb dL_law_33 (by rw [k6]; decide) (by rw [k6]; decide) (by rw [k6]; rfl) (by decide) ?_
      exact lw_c8 E hSt hX hbl hx1 hx2 h28 h29 h7 h18 hi0 hiL hL0 hl hK hL kk
    · refine lv_tableIn (off := 478) (tgt := 511) hx hb dL_law_33 (by rw [k6]; decide) (by rw [k6]; decide) (by rw [k6]; rfl) (by decide) ?_
      exact lw_c9 E hSt hX hbl hx1 hx2 h28 h29 h7 h18 hi0 hiL hL0 hl hK hL kk
    · refine lv_tableIn (off := 511) (tgt := 544) hx hb dL_law_33 (by rw [k6]; decide) (by rw [k6]; decide) (by rw [k6]; rfl) (by decide) ?_
      exact lw_c10 E hSt hX hbl hx1 hx2 h28 h29 h7 h18 hi0 hiL hL0 hl hK hL kk
    · refine lv_tableIn (off := 524) (tgt := 557) hx hb dL_law_33 (by rw [k6]; decide) (by rw [k6]; decide) (by rw [k6]; rfl) (by decide) ?_
      exact lw_c11 E hSt hX hbl hx1 hx2 h28 h29 h7 h18 hi0 hiL hL0 hl hK hL kk
    · refine lv_tableIn (off := 557) (tgt := 590) hx hb dL_law_33 (by rw [k6]; decide) (by rw [k6]; decide) (by rw [k6]; rfl) (by decide) ?_
      exact lw_c12 E hSt hX hbl hx1 hx2 h28 h29 h7 h18 hi0 hiL hL0 hl hK hL kk
    · refine lv_tableIn (off := 590) (tgt := 623) hx hb dL_law_33 (by rw [k6]; decide) (by rw [k6]; decide) (by rw [k6]; rfl) (by decide) ?_
      exact lw_c13 E hSt hX hbl hx1 hx2 h28 h29 h7 h18 hi0 hiL hL0 hl hK hL kk
    · refine lv_tableIn (off := 623) (tgt := 656) hx hb dL_law_33 (by rw [k6]; decide) (by rw [k6]; decide) (by rw [k6]; rfl) (by decide) ?_
      exact lw_c14 E hSt hX hbl hx1 hx2 h28 h29 h7 h18 hi0 hiL hL0 hl hK hL kk
    · refine lv_tableIn (off := 656) (tgt := 689) hx hb dL_law_33 (by rw [k6]; decide) (by rw [k6]; decide) (by rw [k6]; rfl) (by decide) ?_
      exact lw_c15 E hSt hX hbl hx1 hx2 h28 h29 h7 h18 hi0 hiL hL0 hl hK hL kk
    · refine lv_tableIn (off := 679) (tgt := 712) hx hb dL_law_33 (by rw [k6]; decide) (by rw [k6]; decide) (by rw [k6]; rfl) (by decide) ?_
      exact lw_c16 E hSt hX hbl hx1 hx2 h28 h29 h7 h18 hi0 hiL hL0 hl hK hL kk
    · refine lv_tableIn (off := 692) (tgt := 725) hx hb dL_law_33 (by rw [k6]; decide) (by rw [k6]; decide) (by rw [k6]; rfl) (by decide) ?_
      exact lw_c17 E hSt hX hbl hx1 hx2 h28 h29 h7 h18 hi0 hiL hL0 hl hK hL kk
    · refine lv_tableIn (off := 705) (tgt := 738) hx hb dL_law_33 (by rw [k6]; decide) (by rw [k6]; decide) (by rw [k6]; rfl) (by decide) ?_
      exact lw_c18 E hSt hX hbl hx1 hx2 h28 h29 h7 h18 hi0 hiL hL0 hl hK hL kk
    · refine lv_tableIn (off := 728) (tgt := 761) hx hb dL_law_33 (by rw [k6]; decide) (by rw [k6]; decide) (by rw [k6]; rfl) (by decide) ?_
      exact lw_c19 E hSt hX hbl hx1 hx2 h28 h29 h7 h18 hi0 hiL hL0 hl hK hL kk
    · refine lv_tableIn (off := 761) (tgt := 794) hx hb dL_law_33 (by rw [k6]; decide) (by rw [k6]; decide) (by rw [k6]; rfl) (by decide) ?_
      exact lw_c20 E hSt hX hbl hx1 hx2 h28 h29 h7 h18 hi0 hiL hL0 hl hK hL kk
    · refine lv_tableIn (off := 794) (tgt := 827) hx hb dL_law_33 (by rw [k6]; decide) (by rw [k6]; decide) (by rw [k6]; rfl) (by decide) ?_
      exact lw_c21 E hSt hX hbl hx1 hx2 h28 h29 h7 h18 hi0 hiL hL0 hl hK hL kk
    · refine lv_tableIn (off := 827) (tgt := 860) hx hb dL_law_33 (by rw [k6]; decide) (by rw [k6]; decide) (by rw [k6]; rfl) (by decide) ?_
      exact lw_c22 E hSt hX hbl hx1 hx2 h28 h29 h7 h18 hi0 hiL hL0 hl hK hL kk
    · refine lv_tableIn (off := 860) (tgt := 893) hx hb dL_law_33 (by rw [k6]; decide) (by rw [k6]; decide) (by rw [k6]; rfl) (by decide) ?_
      exact lw_c23 E hSt hX hbl hx1 hx2 h28 h29 h7 h18 hi0 hiL hL0 hl hK hL kk
    · refine lv_tableIn (off := 873) (tgt := 906) hx hb dL_law_33 (by rw [k6]; decide) (by rw [k6]; decide) (by rw [k6]; rfl) (by decide) ?_
      exact lw_c24 E hSt hX hbl hx1 hx2 h28 h29 h7 h18 hi0 hiL hL0 hl hK hL kk
    · refine lv_tableIn (off := 906) (tgt := 939) hx hb dL_law_33 (by rw [k6]; decide) (by rw [k6]; decide) (by rw [k6]; rfl) (by decide) ?_
      exact lw_c25 E hSt hX hbl hx1 hx2 h28 h29 h7 h18 hi0 hiL hL0 hl hK hL kk
    · refine lv_tableIn (off := 929) (tgt := 962) hx hb dL_law_33 (by rw [k6]; decide) (by rw [k6]; decide) (by rw [k6]; rfl) (by decide) ?_
      exact lw_c26 E hSt hX hbl hx1 hx2 h28 h29 h7 h18 hi0 hiL hL0 hl hK hL kk
    · refine lv_tableIn (off := 952) (tgt := 985) hx hb dL_law_33 (by rw [k6]; decide) (by rw [k6]; decide) (by rw [k6]; rfl) (by decide) ?_
      exact lw_c27 E hSt hX hbl hx1 hx2 h28 h29 h7 h18 hi0 hiL hL0 hl hK hL kk
    · refine lv_tableIn (off := 975) (tgt := 1008) hx hb dL_law_33 (by rw [k6]; decide) (by rw [k6]; decide) (by rw [k6]; rfl) (by decide) ?_
      exact lw_c28 E hSt hX hbl hx1 hx2 h28 h29 h7 h18 hi0 hiL hL0 hl hK hL kk
    · refine lv_tableIn (off := 1008) (tgt := 1041) hx hb dL_law_33 (by rw [k6]; decide) (by rw [k6]; decide) (by rw [k6]; rfl) (by decide) ?_
      exact lw_c29 E hSt hX hbl hx1 hx2 h28 h29 h7 h18 hi0 hiL hL0 hl hK hL kk
    · refine lv_tableIn (off := 1041) (tgt := 1074) hx hb dL_law_33 (by rw [k6]; decide) (by rw [k6]; decide) (by rw [k6]; rfl) (by decide) ?_
      exact lw_c30 E hSt hX hbl hx1 hx2 h28 h29 h7 h18 hi0 hiL hL0 hl hK hL kk
    · refine lv_tableIn (off := 1084) (tgt := 1117) hx hb dL_law_33 (by rw [k6]; decide) (by rw [k6]; decide) (by rw [k6]; rfl) (by decide) ?_
      exact lw_c31 E hSt hX hbl hx1 hx2 h28 h29 h7 h18 hi0 hiL hL0 hl hK hL kk
    · refine lv_tableIn (off := 1157) (tgt := 1190) hx hb dL_law_33 (by rw [k6]; decide) (by rw [k6]; decide) (by rw [k6]; rfl) (by decide) ?_
      exact lw_c32 E hSt hX hbl hx1 hx2 h28 h29 h7 h18 hi0 hiL hL0 hl hK hL kk
    · refine lv_tableIn (off := 1190) (tgt := 1223) hx hb dL_law_33 (by rw [k6]; decide) (by rw [k6]; decide) (by rw [k6]; rfl) (by decide) ?_
      exact lw_c33 E hSt hX hbl hx1 hx2 h28 h29 h7 h18 hi0 hiL hL0 hl hK hL kk
    · refine lv_tableIn (off := 1253) (tgt := 1286) hx hb dL_law_33 (by rw [k6]; decide) (by rw [k6]; decide) (by rw [k6]; rfl) (by decide) ?_
      exact lw_c34 E hSt hX hbl hx1 hx2 h28 h29 h7 h18 hi0 hiL hL0 hl hK hL kk
    · refine lv_tableIn (off := 1266) (tgt := 1299) hx hb dL_law_33 (by rw [k6]; decide) (by rw [k6]; decide) (by rw [k6]; rfl) (by decide) ?_
      exact lw_c35 E hSt hX hbl hx1 hx2 h28 h29 h7 h18 hi0 hiL hL0 hl hK hL kk
