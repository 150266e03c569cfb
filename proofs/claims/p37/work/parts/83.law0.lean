/-! ===== what stands at the law's entry ===== -/
theorem u_w {w : Cond} (h : w ∈ tables_1) : w ∈ lw_tbl := List.mem_append_right _ h
theorem u_w1 {w : Cond} (i : Nat) (h : tables_1_1[i]? = some w) : w ∈ lw_tbl := u_w (List.mem_append_left _ (List.mem_of_getElem? h))
theorem u_w2 {w : Cond} (i : Nat) (h : tables_1_2[i]? = some w) : w ∈ lw_tbl := u_w (List.mem_append_right _ (List.mem_append_left _ (List.mem_of_getElem? h)))
theorem u_w3 {w : Cond} (i : Nat) (h : tables_1_3[i]? = some w) : w ∈ lw_tbl := u_w (List.mem_append_right _ (List.mem_append_right _ (List.mem_append_left _ (List.mem_of_getElem? h))))
theorem u_w4 {w : Cond} (i : Nat) (h : tables_1_4[i]? = some w) : w ∈ lw_tbl := u_w (List.mem_append_right _ (List.mem_append_right _ (List.mem_append_right _ (List.mem_append_left _ (List.mem_of_getElem? h)))))
theorem u_w5 {w : Cond} (i : Nat) (h : tables_1_5[i]? = some w) : w ∈ lw_tbl := u_w (List.mem_append_right _ (List.mem_append_right _ (List.mem_append_right _ (List.mem_append_right _ (List.mem_append_left _ (List.mem_of_getElem? h))))))
theorem u_w6 {w : Cond} (i : Nat) (h : tables_1_6[i]? = some w) : w ∈ lw_tbl := u_w (List.mem_append_right _ (List.mem_append_right _ (List.mem_append_right _ (List.mem_append_right _ (List.mem_append_right _ (List.mem_append_left _ (List.mem_of_getElem? h)))))))
theorem lw_ws {s : State} {args : Array Value} (hts : ∀ w ∈ lw_tbl, w.before args s = true) : ∀ w ∈ tWS, w.before args s = true := fun w h => hts w (List.mem_filter.mp h).1
theorem lw_arr {s : State} {args : Array Value} {ty : FieldType} (h : (Cond.arrayClass ty).before args s = true) : ∃ cA : ClassId, ArrOfT s cA ty ∧ s.vm.findClass ("[" ++ ty.toString) = some cA := by
  obtain ⟨cA, kA, comp, h1, h2, h3⟩ := Cond.arrayClass_spec h
  exact ⟨cA, fun n z => ⟨fun k h => (by cases h), kA, h2, comp, h3⟩, h1⟩
theorem lw_arrO {s : State} {C : String} (h : va_AO C s) : ∃ cA : ClassId, ArrOfT s cA (.object C) ∧ va_RA s cA (.object C) := by
  obtain ⟨comp, cA, kA, h1, h2, h3, h4, h5⟩ := Cond.arrayOver_spec h
  exact ⟨cA, fun n z => ⟨fun k h => (by cases h), kA, h3, comp, h4⟩, kA, comp, h3, h4, h1, h5⟩
theorem lw_arrA {s : State} (h : tAOA s) : ∃ cA : ClassId, ArrOfT s cA (.array .int) ∧ va_RA s cA (.array .int) := by
  obtain ⟨comp, cA, kA, h1, h2, h3, h4, h5⟩ := arrayOverA_spec h
  exact ⟨cA, fun n z => ⟨fun k h => (by cases h), kA, h3, comp, h4⟩, h5⟩
theorem lw_ns {s : State} {args : Array Value} (hts : ∀ w ∈ lw_tbl, w.before args s = true) : tNs s := by
  refine ⟨fun q hq => ?_, va_AO.of (A := args) (hts _ (u_w1 35 rfl)), va_AO.of (A := args) (hts _ (u_w2 159 rfl)), hts _ (u_w2 99 rfl)⟩
  simp only [tNst, List.mem_cons, List.not_mem_nil, or_false] at hq
  rcases hq with e | e | e | e | e | e | e <;> subst e
  · exact va_Nw.of rfl (hts _ (u_w1 43 rfl))
  · exact va_Nw.of rfl (hts _ (u_w4 90 rfl))
  · exact va_Nw.of rfl (hts _ (u_w4 118 rfl))
  · exact va_Nw.of rfl (hts _ (u_w4 172 rfl))
  · exact va_Nw.of rfl (hts _ (u_w5 171 rfl))
  · exact va_Nw.of rfl (hts _ (u_w2 94 rfl))
  · exact va_Nw.of rfl (hts _ (u_w2 161 rfl))
theorem lw_G {s : State} {args : Array Value} (hts : ∀ w ∈ lw_tbl, w.before args s = true) : ∃ (X : va_G) (Y : Nat → ClassId), ∀ T K V (F M : mF), va_K X vwCl (tTy (X, Y, T, K, V, F, M)) s := by
  have hw := lw_ws hts
  have hn := lw_ns hts
  obtain ⟨c0, i0, k0⟩ := u_known (n := 16) hw fc_X0.2.1 (hts _ (u_w1 36 rfl))
  obtain ⟨c1, i1, k1⟩ := u_known (n := 12) hw fc_X2.2.1 (hts _ (u_w1 42 rfl))
  obtain ⟨c2, i2, k2⟩ := u_known (n := 6) hw fc_X3.2.1 (hts _ (u_w2 29 rfl))
  obtain ⟨c3, i3, k3⟩ := u_known (n := 3) hw fc_X4.2.1 (hts _ (u_w2 140 rfl))
  obtain ⟨c4, i4, k4⟩ := u_known (n := 11) hw fc_X5.2.1 (hts _ (u_w2 93 rfl))
  obtain ⟨c5, i5, k5⟩ := u_known (n := 3) hw fc_X6.2.1 (hts _ (u_w2 160 rfl))
  obtain ⟨c6, i6, k6⟩ := u_known (n := 7) hw fc_X7.2.1 (hts _ (u_w2 61 rfl))
  obtain ⟨c7, i7, k7⟩ := u_known (n := 13) hw fc_X8.2.1 (hts _ (u_w1 29 rfl))
  obtain ⟨c8, i8, k8⟩ := u_known (n := 12) hw fc_X9.2.1 (hts _ (u_w1 21 rfl))
  obtain ⟨c9, i9, k9⟩ := u_known (n := 40) hw fc_X10.2.1 (hts _ (u_w6 32 rfl))
  obtain ⟨a0, p0, q0⟩ := lw_arr (hts (.arrayClass .int) (u_w1 113 rfl))
  obtain ⟨a1, p1, q1⟩ := lw_arr (hts (.arrayClass .char) (u_w2 157 rfl))
  obtain ⟨a2, p2, q2⟩ := lw_arr (hts (.arrayClass .long) (u_w2 178 rfl))
  obtain ⟨a3, p3, q3⟩ := lw_arrO hn.2.1
  obtain ⟨a4, p4, q4⟩ := lw_arrO hn.2.2.1
  obtain ⟨a5, p5, q5⟩ := lw_arrA hn.2.2.2
  refine ⟨(fun k => [c0, c1, c2, c3, c4, c5, c6, c7, c8, c9].getD k c0, fun k => [i0, i1, i2, i3, i4, i5, i6, i7, i8, i9].getD k i0), fun k => [a0, a1, a2, a3, a4, a5].getD k a0, fun T K V F M => ⟨fun k q hq => ?_, fun k q hq => ?_⟩⟩
  · match k, hq with
    | 0, hq => cases hq; exact k0
    | 1, hq => cases hq; exact k1
    | 2, hq => cases hq; exact k2
    | 3, hq => cases hq; exact k3
    | 4, hq => cases hq; exact k4
    | 5, hq => cases hq; exact k5
    | 6, hq => cases hq; exact k6
    | 7, hq => cases hq; exact k7
    | 8, hq => cases hq; exact k8
    | 9, hq => cases hq; exact k9
    | k + 10, hq => simp [vwCl] at hq
  · match k, hq with
    | 0, hq => cases hq; exact ⟨p0, q0⟩
    | 1, hq => cases hq; exact ⟨p1, q1⟩
    | 2, hq => cases hq; exact ⟨p2, q2⟩
    | 3, hq => cases hq; exact ⟨p3, q3⟩
    | 4, hq => cases hq; exact ⟨p4, q4⟩
    | 5, hq => cases hq; exact ⟨p5, q5⟩
    | k + 6, hq => simp [tTy] at hq
theorem lw_st {s : State} {b : Nat} (hgv : (Jvm.Cond.and given_1 narrow_1).before #[Value.ref b] s = true) (hts : ∀ w ∈ lw_tbl, w.before #[Value.ref b] s = true) : ∃ (T K V : Nat → Nat), ∀ (X : va_G) (Y : Nat → ClassId) (F M : mF), tSt (X, Y, T, K, V, F, M) (fun q => s.heap.size ≤ q) s := by
  have hs := flat_of_before _ hgv
  have hA : ∀ a : Nat, a < s.heap.size → ¬ (fun q : Nat => s.heap.size ≤ q) a := fun a h => by show ¬ s.heap.size ≤ a; omega
  have m1 : ∀ i, i < 5 → Cond.arrayOf (.static "LaidOutBoxes$Kinds" (tSn i) "[I") .int ∈ flatC (Jvm.Cond.and given_1 narrow_1) := by decide +kernel
  have m2 : ∀ i, i < 5 → Cond.eq (.length (.static "LaidOutBoxes$Kinds" (tSn i) "[I")) (.int (Int32.ofNat 10)) ∈ flatC (Jvm.Cond.and given_1 narrow_1) := by decide +kernel
  have m3 : ∀ i, i < 5 → ∀ j, j < 10 → Cond.eq (.elem (.static "LaidOutBoxes$Kinds" (tSn i) "[I") (.int (Int32.ofNat j))) (.int (tSw i j)) ∈ flatC (Jvm.Cond.and given_1 narrow_1) := by decide +kernel
  have l1 : ∀ i, i < 5 → (Cond.laysStatic "LaidOutBoxes$Kinds" (tSn i) "[I").before #[Value.ref b] s = true := by
    intro i hi
    match i, hi with
    | 0, _ => exact hts _ (u_w2 235 rfl)
    | 1, _ => exact hts _ (u_w3 17 rfl)
    | 2, _ => exact hts _ (u_w3 7 rfl)
    | 3, _ => exact hts _ (u_w3 3 rfl)
    | 4, _ => exact hts _ (u_w3 5 rfl)
    | i + 5, h => omega
  have iK : (Cond.initialized "LaidOutBoxes$Kinds").before #[Value.ref b] s = true := hts _ (u_w (by decide +kernel))
  have iS : (Cond.initialized "java/lang/String").before #[Value.ref b] s = true := hts _ (u_w (by decide +kernel))
  have iP : (Cond.initialized "jdk/internal/util/Preconditions").before #[Value.ref b] s = true := hts _ (u_w (by decide +kernel))
  have hT : ∀ i, ∃ t : Nat, i < 5 → va_Z "LaidOutBoxes$Kinds" (tSn i) "[I" (.ref t) (fun q => s.heap.size ≤ q) s s.heap ∧ va_T .int t 10 (fun j => .int (tSw i j)) (fun q => s.heap.size ≤ q) s s.heap := by
    intro i
    by_cases hi : i < 5
    · obtain ⟨t, ht, hT⟩ := va_Tof (f := fun j => .int (tSw i j)) (A := fun q : Nat => s.heap.size ≤ q) (by decide) (hs _ (m1 i hi)) (va_eqt (hs _ (m2 i hi))) (fun j hj => va_eqt (hs _ (m3 i hi j hj))) hA
      exact ⟨t, fun _ => ⟨va_Zof (l1 i hi) iK ht hA, hT⟩⟩
    · exact ⟨0, fun h => absurd h hi⟩
  have n1 : ∀ i, i < 10 → Cond.exactly (.string "LaidOutBoxes$Kinds" (tXi.getD i 0)) "java/lang/String" ∈ flatC (Jvm.Cond.and given_1 narrow_1) := by decide +kernel
  have n2 : ∀ i, i < 10 → Cond.eq (.field (.string "LaidOutBoxes$Kinds" (tXi.getD i 0)) "java/lang/String" "coder" "B") (.int 0) ∈ flatC (Jvm.Cond.and given_1 narrow_1) := by decide +kernel
  have n3 : ∀ i, i < 10 → Cond.arrayOf (.field (.string "LaidOutBoxes$Kinds" (tXi.getD i 0)) "java/lang/String" "value" "[B") .byte ∈ flatC (Jvm.Cond.and given_1 narrow_1) := by decide +kernel
  have n4 : ∀ i, i < 10 → Cond.eq (.length (.field (.string "LaidOutBoxes$Kinds" (tXi.getD i 0)) "java/lang/String" "value" "[B")) (.int (Int32.ofNat (tXl.getD i 0))) ∈ flatC (Jvm.Cond.and given_1 narrow_1) := by decide +kernel
  have n5 : ∀ i, i < 10 → ∀ j, j < tXl.getD i 0 → Cond.eq (.elem (.field (.string "LaidOutBoxes$Kinds" (tXi.getD i 0)) "java/lang/String" "value" "[B") (.int (Int32.ofNat j))) (.int ((tXb.getD i []).getD j 0)) ∈ flatC (Jvm.Cond.and given_1 narrow_1) := by decide +kernel
  have n6 : ∀ i, i < 10 → ∀ j, j < 10 → i ≠ j → Cond.not (Cond.eq (.string "LaidOutBoxes$Kinds" (tXi.getD i 0)) (.string "LaidOutBoxes$Kinds" (tXi.getD j 0))) ∈ flatC (Jvm.Cond.and given_1 narrow_1) ∨ Cond.not (Cond.eq (.string "LaidOutBoxes$Kinds" (tXi.getD j 0)) (.string "LaidOutBoxes$Kinds" (tXi.getD i 0))) ∈ flatC (Jvm.Cond.and given_1 narrow_1) := by decide +kernel
  have n7 : ∀ i, i < 10 → tXl.getD i 0 < 2 ^ 31 := by decide +kernel
  obtain ⟨K, V, hS, hE⟩ := vk_Sof (N := 10) (tm := fun i => .string "LaidOutBoxes$Kinds" (tXi.getD i 0)) (len := tXl) (byt := tXb) (A := fun q : Nat => s.heap.size ≤ q) n7 (fun i hi => hs _ (n1 i hi)) (fun i hi => hs _ (n2 i hi)) (fun i hi => hs _ (n3 i hi)) (fun i hi => hs _ (n4 i hi)) (fun i hi j hj => hs _ (n5 i hi j hj)) (fun i j hi hj hij => (n6 i hi j hj hij).imp (fun h => hs _ h) (fun h => hs _ h)) hA
  have r1 : ∀ i, i < 10 → Cond.stringRef "LaidOutBoxes$Kinds" (tXi.getD i 0) (tXn.getD i "") ∈ tables_1 := by decide +kernel
  refine ⟨fun i => (hT i).choose, K, V, fun X Y F M => ⟨fun i hi => (hT i).choose_spec hi, hS, fun i hi => vk_R.of (A := #[Value.ref b]) (hts _ (u_w (r1 i hi))) (hE i hi), ?_, ?_, (lw_ns hts).1⟩⟩
  · exact va_Zof (hts _ (u_w3 190 rfl)) iS (va_eqt (hs _ (by decide +kernel))) hA
  · exact va_Zqof (hts _ (u_w3 206 rfl)) iP (hs _ (by decide +kernel)) hA
