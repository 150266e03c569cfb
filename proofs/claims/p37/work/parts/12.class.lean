/-! ===== the class's types ===== -/
abbrev tAny : tSD := (0, -2147483648, 2147483647)
abbrev tBool : tSD := (0, 0, 1)
/-- shapes: 1 LaidOutBoxes, 2 World, 3 Box, 4 Laid, 5 Layout, 6 Thought, 7 Reader, 8 Printer, 9 Tape, 10 Box[24], 11 int[4], 12 kids, 13 int[8], 14 blocks, 15 int[24], 16 parents, 17 int[24][], 18 char[120], 19 char[960], 20 Tape[4], 21 long[60]; 22: a Reader that has letters; 26 a World that is a copy, 27 its Layout, 28 a World that has a TOP, 29 a Thought of such a one -/
def tShp (t : Nat) : Nat ⊕ (Nat × Nat) := match t with
  | 1 => .inl 8
  | 2 => .inl 7
  | 3 => .inl 0
  | 4 => .inl 1
  | 5 => .inl 2
  | 6 => .inl 6
  | 7 => .inl 4
  | 8 => .inl 3
  | 9 => .inl 5
  | 10 => .inr (3, 24)
  | 11 => .inr (0, 4)
  | 12 => .inr (0, 8)
  | 13 => .inr (0, 8)
  | 14 => .inr (0, 6)
  | 15 => .inr (0, 24)
  | 16 => .inr (0, 24)
  | 17 => .inr (5, 24)
  | 18 => .inr (1, 120)
  | 19 => .inr (1, 960)
  | 20 => .inr (4, 4)
  | 21 => .inr (2, 60)
  | 26 => .inl 7
  | 27 => .inl 2
  | 28 => .inl 7
  | 30 => .inl 7
  | 31 => .inl 0
  | 37 => .inl 0
  | 32 => .inr (0, 4)
  | 33 => .inr (0, 8)
  | 34 => .inr (3, 24)
  | 36 => .inr (0, 8)
  | 38 => .inr (0, 4)
  | 39 => .inr (0, 8)
  | 40 => .inr (3, 24)
  | 29 => .inl 6
  | _ => .inl 4
def tFD (t k : Nat) : tSD := match t with
  | 1 => [(1, 2, 0), (1, 30, 0), (1, 5, 0), (1, 6, 0), (1, 7, 0), (1, 8, 0), (1, 18, 0), (1, 20, 0), (0, 0, 120), tAny, tAny, tBool].getD k tAny
  | 2 => [(1, 10, 0), (1, 36, 0), (1, 13, 0), (0, 0, 8), tAny, tAny, tAny, tAny, (0, 0, 24), tAny, tAny, tAny, tAny].getD k tAny
  | 26 => [(1, 34, 0), (1, 36, 0), (1, 13, 0), (0, 0, 8), tAny, tAny, tAny, tAny, (0, 0, 24), tAny, tAny, tAny, tAny].getD k tAny
  | 28 => [(1, 10, 0), (1, 36, 0), (1, 13, 0), (0, 0, 8), tAny, tAny, tAny, tAny, (0, 0, 24), (0, 0, 23), tAny, tAny, tAny].getD k tAny
  | 30 => [(1, 40, 0), (1, 36, 0), (1, 13, 0), (0, 0, 8), tAny, tAny, tAny, tAny, (0, 0, 24), tAny, tAny, tAny, tAny].getD k tAny
  | 31 => [(0, 0, 23), (1, 32, 0), (1, 33, 0), (1, 4, 0), tAny, tAny, tAny, tAny, tAny, tAny, (0, 0, 8), tAny, tAny, tAny, tAny, tBool].getD k tAny
  | 37 => [(0, 0, 23), (1, 38, 0), (1, 39, 0), (1, 4, 0), tAny, tAny, tAny, tAny, tAny, tAny, (0, 0, 8), tAny, tAny, tAny, tAny, tBool].getD k tAny
  | 32 => tAny
  | 33 => (0, 0, 23)
  | 34 => (1, 31, 0)
  | 36 => (0, 0, 23)
  | 38 => tAny
  | 39 => (0, 0, 23)
  | 40 => (1, 37, 0)
  | 27 => [(1, 26, 0), tAny, tAny, tAny, tAny, tAny].getD k tAny
  | 29 => [(1, 28, 0), (1, 26, 0), (1, 26, 0), (1, 27, 0), (1, 27, 0), (1, 14, 0), tAny].getD k tAny
  | 3 => [(0, 0, 23), (1, 11, 0), (1, 12, 0), (1, 4, 0), tAny, tAny, tAny, tAny, tAny, tAny, (0, 0, 8), tAny, tAny, tAny, tAny, tBool].getD k tAny
  | 4 => [tBool, tAny, tAny, tAny, tAny, tAny, tAny, tAny, tAny, tAny, tAny, tAny].getD k tAny
  | 5 => [(1, 2, 0), tAny, tAny, tAny, tAny, tAny].getD k tAny
  | 6 => [(1, 2, 0), (1, 26, 0), (1, 26, 0), (1, 27, 0), (1, 27, 0), (1, 14, 0), tAny].getD k tAny
  | 7 => [(1, 15, 0), (1, 16, 0), (1, 15, 0), (1, 15, 0), (1, 17, 0), (0, 0, 24), (2, 18, 0), (0, 0, 120), tAny, (0, 0, 120), tBool].getD k tAny
  | 8 => [(1, 19, 0), (0, 0, 960), (1, 2, 0)].getD k tAny
  | 9 => [(1, 21, 0), tAny, (0, 0, 60)].getD k tAny
  | 10 => (1, 3, 0)
  | 11 => tAny
  | 12 => (0, 0, 23)
  | 13 => tAny
  | 14 => (0, 0, 23)
  | 15 => tAny
  | 16 => (0, -1, 23)
  | 17 => (1, 11, 0)
  | 18 => (0, 0, 65535)
  | 19 => (0, 0, 65535)
  | 20 => (1, 9, 0)
  | 21 => (3, 0, 0)
  | _ => [(1, 15, 0), (1, 16, 0), (1, 15, 0), (1, 15, 0), (1, 17, 0), (0, 0, 24), (1, 18, 0), (0, 0, 120), tAny, (0, 0, 120), tBool].getD k tAny
/-- the int slots that are known: there, came, top, planRows of the World and of the image, kind, parent, share, least, most, kidCount of their Boxes, their numbers and kids; letterCount, imageTaken; the letters; all of the Reader -/
def tMk (t k : Nat) : Bool := match t with
  | 1 => k == 8 || k == 11
  | 2 => k == 3 || k == 4 || k == 8 || k == 9
  | 28 => k == 3 || k == 4 || k == 8 || k == 9
  | 30 => k == 3 || k == 4 || k == 8 || k == 9
  | 3 => k == 0 || k == 4 || k == 5 || k == 7 || k == 8 || k == 9 || k == 10
  | 37 => k == 0 || k == 4 || k == 5 || k == 7 || k == 8 || k == 9 || k == 10
  | 7 => k == 5 || k == 7 || k == 8 || k == 9 || k == 10
  | 11 => true
  | 12 => true
  | 15 => true
  | 16 => true
  | 18 => true
  | 38 => true
  | 39 => true
  | _ => false
def tMt (t : Nat) : Bool := t == 1 || t == 2 || t == 28 || t == 30 || t == 3 || t == 37 || t == 7 || t == 11 || t == 12 || t == 15 || t == 16 || t == 18 || t == 38 || t == 39
theorem tMk_t {t k : Nat} (h : tMt t = false) : tMk t k = false := by
  unfold tMt at h
  simp only [Bool.or_eq_false_iff, beq_eq_false_iff_ne] at h
  unfold tMk
  split <;> first | rfl | (exfalso; omega)
/-- where a ref leads, from its holder -/
def tMr (t k : Nat) : Option Nat := match t with
  | 2 => if k = 0 then some 1 else none
  | 28 => if k = 0 then some 1 else none
  | 30 => if k = 0 then some 1 else none
  | 3 => if k = 1 then some 1 else if k = 2 then some 2 else if k = 3 then some 3 else none
  | 37 => if k = 1 then some 1 else if k = 2 then some 2 else if k = 3 then some 3 else none
  | 10 => some (3 + 4 * k)
  | 40 => some (3 + 4 * k)
  | 7 => if k < 5 then some (k + 1) else none
  | 17 => some (1 + k)
  | _ => none
def tMf (t k : Nat) : Bool := (t == 1 && (k == 0 || k == 1 || k == 4 || k == 6)) || (t == 7 && k == 6)
def tKn (G : tG) (t a k : Nat) (v : Value) : Prop := (tMk t k = true → v = .int (FF G a k)) ∧ (∀ d, tMr t k = some d → v = .ref (a + d)) ∧ (tMf t k = true → (t = 1 → a = G.2.2.1 8) → (t = 7 → G.2.2.1 9 = 1) → v = .ref (G.2.2.1 (10 + k)))
theorem tKn_no {G : tG} {t a k : Nat} {v : Value} (h : tMk t k = false) (hr : tMr t k = none) (hf : tMf t k = false) : tKn G t a k v := ⟨fun h2 => (by rw [h] at h2; cases h2), fun d h2 => (by rw [hr] at h2; cases h2), fun h2 => (by rw [hf] at h2; cases h2)⟩
/-- no refs at fixed places -/
def tMq (t : Nat) : Bool := t == 2 || t == 28 || t == 30 || t == 3 || t == 37 || t == 10 || t == 40 || t == 7 || t == 17 || t == 1
theorem tMr_q {t k : Nat} (h : tMq t = false) : tMr t k = none := by
  unfold tMq at h
  simp only [Bool.or_eq_false_iff, beq_eq_false_iff_ne] at h
  unfold tMr
  split <;> first | rfl | (exfalso; omega)
theorem tMf_q {t k : Nat} (h : tMq t = false) : tMf t k = false := by
  unfold tMq at h
  simp only [Bool.or_eq_false_iff] at h
  unfold tMf
  simp [h.2, h.1.1.2]
theorem tKn_q {G : tG} {t a k : Nat} {v : Value} (h : tMt t = false) (hq : tMq t = false) : tKn G t a k v := tKn_no (tMk_t h) (tMr_q hq) (tMf_q hq)
/-- a slot of an int -/
theorem tMr_i {t k : Nat} {lo hi : Int} (h : tFD t k = (0, lo, hi)) : tMr t k = none ∧ tMf t k = false := by
  cases e : tMr t k with
  | some d =>
    exfalso
    unfold tMr at e
    split at e
    · split at e
      · rename_i z; subst z; cases h
      · cases e
    · split at e
      · rename_i z; subst z; cases h
      · cases e
    · split at e
      · rename_i z; subst z; cases h
      · cases e
    · split at e
      · rename_i z; subst z; cases h
      · split at e
        · rename_i z; subst z; cases h
        · split at e
          · rename_i z; subst z; cases h
          · cases e
    · split at e
      · rename_i z; subst z; cases h
      · split at e
        · rename_i z; subst z; cases h
        · split at e
          · rename_i z; subst z; cases h
          · cases e
    · cases h
    · cases h
    · split at e
      · rename_i z
        rcases (show k = 0 ∨ k = 1 ∨ k = 2 ∨ k = 3 ∨ k = 4 by omega) with y | y | y | y | y <;> subst y <;> cases h
      · cases e
    · cases h
    · cases e
  | none =>
    refine ⟨rfl, ?_⟩
    cases f : tMf t k with
    | false => rfl
    | true =>
      exfalso
      unfold tMf at f
      simp only [Bool.or_eq_true, Bool.and_eq_true, beq_iff_eq] at f
      rcases f with ⟨z, y⟩ | ⟨z, y⟩
      · subst z
        rcases y with ((y | y) | y) | y <;> subst y <;> cases h
      · subst z; subst y; cases h
def tΓ (G : tG) (τ : Nat → Nat) : Nat → Option tSH := fun a => if τ a = 0 then none else some (tShp (τ a), fun k v => tsv τ (tFD (τ a) k) v ∧ tKn G (τ a) a k v)
def tA (τ : Nat → Nat) : Nat → Prop := fun q => τ q ≠ 0
theorem tΓ_at {G : tG} {τ : Nat → Nat} {a t : Nat} (h : τ a = t) (ht : t ≠ 0) : tΓ G τ a = some (tShp t, fun k v => tsv τ (tFD t k) v ∧ tKn G t a k v) := by
  subst h
  simp [tΓ, ht]
theorem tΓ_no {G : tG} {τ : Nat → Nat} {a : Nat} (h : tΓ G τ a ≠ none) : τ a ≠ 0 := fun z => h (by simp [tΓ, z])
/-! ===== what stands still: static tables, names, nest mates ===== -/
def tSn (i : Nat) : String := ["NUMBERS", "CHILDREN", "LOWEST", "HIGHEST_A", "HIGHEST_B"].getD i ""
def tSw (i j : Nat) : Int32 := (([[2, 2, 2, 4, 0, 0, 2, 1, 2, 2], [0, 0, 1, 1, 1, 1, 1, 8, 8, 8], [0, 0, 0, 0, 0, 0, 1, 0, 0, 0], [99, 12, 20, 99, 0, 0, 9, 2, 4, 4], [99, 31, 20, 99, 0, 0, 9, 0, 20, 20]] : List (List Int32)).getD i []).getD j 0
def tXn : List String := ["block", "text", "pad", "limit", "centre", "fit", "ratio", "layers", "row", "column"]
def tXl : List Nat := [5, 4, 3, 5, 6, 3, 5, 6, 3, 6]
def tXi : List Nat := [39, 41, 43, 45, 47, 49, 51, 53, 55, 57]
def tXb : List (List Int32) := [[98, 108, 111, 99, 107], [116, 101, 120, 116], [112, 97, 100], [108, 105, 109, 105, 116], [99, 101, 110, 116, 114, 101], [102, 105, 116], [114, 97, 116, 105, 111], [108, 97, 121, 101, 114, 115], [114, 111, 119], [99, 111, 108, 117, 109, 110]]
def tNst : List (String × Nat × MethodName) := [(RX0, 20, yX2_init), (RX2, 51, yX9_held), (RX3, 179, yX9_held), (RX3, 195, yX9_timesBy), (RX7, 155, yX9_power), (RX9, 39, yX5_init), (RX9, 61, yX6_init)]
def tSt (G : tG) (A : Nat → Prop) (U : State) : Prop :=
  (∀ i, i < 5 → va_Z "LaidOutBoxes$Kinds" (tSn i) "[I" (.ref (G.2.2.1 i)) A U U.heap ∧ va_T .int (G.2.2.1 i) 10 (fun j => .int (tSw i j)) A U U.heap)
  ∧ vk_S 10 tXl tXb G.2.2.2.1 G.2.2.2.2.1 A U U.heap
  ∧ (∀ i, i < 10 → vk_R "LaidOutBoxes$Kinds" (tXi.getD i 0) (tXn.getD i "") (G.2.2.2.1 i) U)
  ∧ va_Z "java/lang/String" "COMPACT_STRINGS" "Z" (.int 1) A U U.heap
  ∧ va_Zq "jdk/internal/util/Preconditions" "SIOOBE_FORMATTER" "Ljava/util/function/BiFunction;" A U U.heap
  ∧ ∀ q ∈ tNst, va_Nw (.methodLinkNest q.1 q.2.1 q.2.2 "LaidOutBoxes") U
theorem tSt.move {G : tG} {A : Nat → Prop} {s U : State} (h : tSt G A s) (hW : s.WarmedH U.vm) (hk : ∀ a : Nat, a < s.heap.size → ¬ A a → U.heap[a]? = s.heap[a]?) : tSt G A U := by
  obtain ⟨h1, h2, h3, h4, h5, h6⟩ := h
  have ha := hW.alike
  exact ⟨fun i hi => ⟨((h1 i hi).1.kept hk).moved ha, ((h1 i hi).2.kept hk).moved ha⟩, (h2.kept hk).moved ha, fun i hi => (h3 i hi).warm hW, (h4.kept hk).moved ha, (h5.kept hk).moved ha, fun q hq => va_Nw.warmM hW (h6 q hq)⟩
theorem tSt.same {G : tG} {A : Nat → Prop} {u U : State} (h : tSt G A u) (hv : U.vm = u.vm) (hh : U.heap = u.heap) : tSt G A U := by
  obtain ⟨h1, h2, h3, h4, h5, h6⟩ := h
  have ha : u.vm.Alike U.vm := by rw [hv]; exact Vm.Alike.refl _
  have hk : ∀ a : Nat, a < u.heap.size → ¬ A a → U.heap[a]? = u.heap[a]? := fun a _ _ => by rw [hh]
  exact ⟨fun i hi => ⟨((h1 i hi).1.kept hk).moved ha, ((h1 i hi).2.kept hk).moved ha⟩, (h2.kept hk).moved ha, fun i hi => (h3 i hi).same hv, (h4.kept hk).moved ha, (h5.kept hk).moved ha, fun q hq => va_Nw.same rfl hv.symm (h6 q hq)⟩
theorem tSt.narrow {G : tG} {A B : Nat → Prop} {U : State} (h : tSt G A U) (hAB : ∀ q, B q → A q) : tSt G B U := by
  obtain ⟨h1, h2, h3, h4, h5, h6⟩ := h
  exact ⟨fun i hi => ⟨(h1 i hi).1.narrow hAB, (h1 i hi).2.narrow hAB⟩, h2.narrow hAB, h3, h4.narrow hAB, h5.elim (fun q => Or.inl (q.narrow hAB)) (fun ⟨t, q⟩ => Or.inr ⟨t, q.narrow hAB⟩), h6⟩
/-! ===== a method's start, end and middle ===== -/
def tPre (G : tG) (τ : Nat → Nat) (U : State) : Prop := TH G (tΓ G τ) U.heap ∧ va_K G.1 vwCl (tTy G) U ∧ tSt G (tA τ) U
def tGH (G : tG) (τ : Nat → Nat) (s : State) (H : Heap) (locs : List Loc) : Prop := TH G (tΓ G τ) H ∧ va_S (tA τ) s.heap H locs
abbrev tQi (G : tG) (τ : Nat → Nat) (post : Int32 → Prop) : Array Value → State → Outcome → State → Prop := va_Qi (S := Unit) (fun r _ => post r) (fun _ t => TH G (tΓ G τ) t.heap) (tA τ)
abbrev tQl (G : tG) (τ : Nat → Nat) (post : Int64 → Prop) : Array Value → State → Outcome → State → Prop := va_Ql (S := Unit) (fun r _ => post r) (fun _ t => TH G (tΓ G τ) t.heap) (tA τ)
abbrev tQv (G : tG) (τ : Nat → Nat) : Array Value → State → Outcome → State → Prop := va_Qv (S := Unit) (fun _ => True) (fun _ t => TH G (tΓ G τ) t.heap) (tA τ)
abbrev tQr (G : tG) (τ : Nat → Nat) (post : Nat → Prop) : Array Value → State → Outcome → State → Prop := va_Qr (S := Unit) (fun _ => True) (fun _ a t => post a ∧ TH G (tΓ G τ) t.heap) (tA τ)
abbrev tQq (G : tG) (τ : Nat → Nat) (post : Option Nat → Prop) : Array Value → State → Outcome → State → Prop := va_Qq (S := Unit) (fun r _ => post r) (fun _ t => TH G (tΓ G τ) t.heap) (tA τ)
def tQp (post : Int32 → Prop) : Array Value → State → Outcome → State → Prop := fun _ st oc t => ∃ r : Int32, oc = .returned (some (.int r)) ∧ post r ∧ t.heap = st.heap
def tQpl (post : Int64 → Prop) : Array Value → State → Outcome → State → Prop := fun _ st oc t => ∃ r : Int64, oc = .returned (some (.long r)) ∧ post r ∧ t.heap = st.heap
def tQpr (post : Nat → Prop) : Array Value → State → Outcome → State → Prop := fun _ st oc t => ∃ r : Nat, oc = .returned (some (.ref r)) ∧ post r ∧ t.heap = st.heap
def tQpq (post : Option Nat → Prop) : Array Value → State → Outcome → State → Prop := fun _ st oc t => ∃ r : Option Nat, oc = .returned (some (va_rf r)) ∧ post r ∧ t.heap = st.heap
def tNo : Addr → Prop := fun _ => False
abbrev tRm (f lo : Nat) : Room := { frames := f, cells := 0, slots := 0, locals := lo }
theorem tPre.blind {G : tG} {τ : Nat → Nat} {av : List Value} : FrameBlind (va_Pc av (tPre G τ)) := fun a U g mk q => by
  obtain ⟨q0, q1, q2, q3⟩ := q
  exact ⟨q0, q1, va_K.moved (u := U) (U := U.calling g mk a) (Vm.Alike.refl U.vm) q2, q3.same rfl rfl⟩
theorem tPre.of {G : tG} {τ : Nat → Nat} {s U : State} {H : Heap} {locs : List Loc} (hG : tGH G τ s H locs) (hK : va_K G.1 vwCl (tTy G) s) (hSt : tSt G (tA τ) s) (hU : U.heap = H) (hW : s.WarmedH U.vm) : tPre G τ U :=
  ⟨by rw [hU]; exact hG.1, va_K.moved hW.alike hK, hSt.move hW (fun a h1 h2 => by rw [hU]; exact hG.2.2.1 a h1 h2)⟩
def tCm (y : MethodName) (bytes : ByteArray) (maxL : Nat) (ret : Option FieldType) (n : Nat) : Prop := Cond.code y bytes maxL ret ∈ tWS ∧ Cond.initialized y.cls ∈ tWS ∧ y.cls ≠ "java/lang/invoke/MethodHandle" ∧ y.cls ≠ "java/lang/invoke/VarHandle" ∧ (parseMethodDescriptor y.desc).map (fun d => d.parameters.length) = some n
def tCv (y : MethodName) (bytes : ByteArray) (maxL : Nat) (ret : Option FieldType) (n : Nat) : Prop := tCm y bytes maxL ret n ∧ Cond.instanceMethod y ∈ tWS ∧ Cond.selects y.cls y y ∈ tWS
def tCs (y : MethodName) (bytes : ByteArray) (maxL : Nat) (ret : Option FieldType) (n : Nat) : Prop := tCm y bytes maxL ret n ∧ Cond.static y ∈ tWS
section TC
variable {p : Program} {l : Launch} {e : Env} {R : Room} {s : State} {m : MethodId} {args : Array Value} {below : List Frame} {meth : Method} {c : Code} {H : Heap} {locs : List Loc} {Q : State → Prop}
variable {cc : ByteArray} {pc : Nat} {ls : Array Slot} {rest : List Value} {a : Nat} {G : tG} {own : String} {nL : Nat} {τ : Nat → Nat}
theorem tc_met {y : MethodName} {bytes : ByteArray} {maxL : Nat} {ret : Option FieldType} {rm : Room} {Qc : Array Value → State → Outcome → State → Prop} {av : List Value} {fr : Addr → Prop} (hy : plainName y.cls = true) (hsl : (lg_sl av).length ≤ maxL)
    (body : ∀ p e s m below meth c, tE G p s m c av.toArray y.cls bytes maxL → tSt G (tA τ) s → meth.sig.returnType = ret → meth.locks = false → tGH G τ s s.heap [] → ∀ ls, lv_has ls maxL (lv_args 0 av) → W p l e rm s m av.toArray below meth c s.heap [] 0 0 (MQ below Qc av.toArray s 0 0 fr) (F0 m 0 ls [])) :
    Met l y (.code y bytes maxL ret :: tWS) rm (va_Pc av (tPre G τ)) Qc 0 0 fr := by
  refine Met.ofW (cc := bytes) (maxL := maxL) (ret := ret) hy rfl ?_
  intro p e s m args below meth c s₁ B hml hv
  obtain ⟨rfl, hT, hK, hSt⟩ := hv
  have hl := lv_entry av (n := maxL) hsl
  rw [lg_entry_eq]
  exact body p e s m below meth c ⟨B.exec, B.bytes, hml, findClass_of_methodNamed B.named, fun w h => atoms_spec (ws := Cond.code y bytes maxL ret :: tWS) B.pre w (List.mem_cons_of_mem _ h), hK⟩ hSt B.returns B.notSynchronized ⟨hT, va_S.rf⟩ _ hl
theorem tc_iret (E : tE G p s m c args own cc nL) (hr : meth.sig.returnType = some .int) (hlk : meth.locks = false) (hG : tGH G τ s H locs) {post : Int32 → Prop} {v : Int32} (hq : post v) (hdg : decode cc pc = .ok (.ireturn, 1)) : W p l e R s m args below meth c H locs 0 0 (MQ below (tQi G τ post) args s 0 0 (tA τ)) (F0 m pc ls [.int v]) :=
  W.iret E.1 E.2.1 hr (fun t ht _ => ⟨⟨v, (), rfl, hq, (show TH G (tΓ G τ) t.heap by rw [ht]; exact hG.1)⟩, hG.2.F ht⟩) hG.2.2.2 hdg hlk
theorem tc_lret (E : tE G p s m c args own cc nL) (hr : meth.sig.returnType = some .long) (hlk : meth.locks = false) (hG : tGH G τ s H locs) {post : Int64 → Prop} {v : Int64} (hq : post v) (hdg : decode cc pc = .ok (.lreturn, 1)) : W p l e R s m args below meth c H locs 0 0 (MQ below (tQl G τ post) args s 0 0 (tA τ)) (F0 m pc ls [.long v]) :=
  W.lret E.1 E.2.1 hr (fun t ht _ => ⟨⟨v, (), rfl, hq, (show TH G (tΓ G τ) t.heap by rw [ht]; exact hG.1)⟩, hG.2.F ht⟩) hG.2.2.2 hdg hlk
theorem tc_vret (E : tE G p s m c args own cc nL) (hr : meth.sig.returnType = none) (hlk : meth.locks = false) (hG : tGH G τ s H locs) (hdg : decode cc pc = .ok (.return_, 1)) : W p l e R s m args below meth c H locs 0 0 (MQ below (tQv G τ) args s 0 0 (tA τ)) (F0 m pc ls []) :=
  W.vret E.1 E.2.1 hr (fun t ht _ => ⟨⟨(), rfl, trivial, (show TH G (tΓ G τ) t.heap by rw [ht]; exact hG.1)⟩, hG.2.F ht⟩) hG.2.2.2 hdg hlk
theorem tc_aret {nm : String} (E : tE G p s m c args own cc nL) (hr : meth.sig.returnType = some (.object nm)) (hlk : meth.locks = false) (hG : tGH G τ s H locs) {post : Nat → Prop} {b : Nat} (hq : post b) (hdg : decode cc pc = .ok (.areturn, 1)) : W p l e R s m args below meth c H locs 0 0 (MQ below (tQr G τ post) args s 0 0 (tA τ)) (F0 m pc ls [.ref b]) :=
  W.aret E.1 E.2.1 hr (Or.inl ⟨_, rfl⟩) (Or.inr ⟨_, rfl⟩) (fun t ht _ => ⟨⟨(), b, rfl, trivial, hq, (show TH G (tΓ G τ) t.heap by rw [ht]; exact hG.1)⟩, hG.2.F ht⟩) hG.2.2.2 hdg hlk
theorem tc_qret {nm : String} (E : tE G p s m c args own cc nL) (hr : meth.sig.returnType = some (.object nm)) (hlk : meth.locks = false) (hG : tGH G τ s H locs) {post : Option Nat → Prop} {b : Nat} (hq : post (some b)) (hdg : decode cc pc = .ok (.areturn, 1)) : W p l e R s m args below meth c H locs 0 0 (MQ below (tQq G τ post) args s 0 0 (tA τ)) (F0 m pc ls [.ref b]) :=
  W.aret E.1 E.2.1 hr (Or.inl ⟨_, rfl⟩) (Or.inr ⟨_, rfl⟩) (fun t ht _ => ⟨⟨some b, (), rfl, hq, (show TH G (tΓ G τ) t.heap by rw [ht]; exact hG.1)⟩, hG.2.F ht⟩) hG.2.2.2 hdg hlk
theorem tc_nret {nm : String} (E : tE G p s m c args own cc nL) (hr : meth.sig.returnType = some (.object nm)) (hlk : meth.locks = false) (hG : tGH G τ s H locs) {post : Option Nat → Prop} (hq : post none) (hdg : decode cc pc = .ok (.areturn, 1)) : W p l e R s m args below meth c H locs 0 0 (MQ below (tQq G τ post) args s 0 0 (tA τ)) (F0 m pc ls [.null]) :=
  W.aret E.1 E.2.1 hr (Or.inl ⟨_, rfl⟩) (Or.inl rfl) (fun t ht _ => ⟨⟨none, (), rfl, hq, (show TH G (tΓ G τ) t.heap by rw [ht]; exact hG.1)⟩, hG.2.F ht⟩) hG.2.2.2 hdg hlk
theorem tc_zret {ty : FieldType} (E : tE G p s m c args own cc nL) (hr : meth.sig.returnType = some ty) (hlk : meth.locks = false) (hG : tGH G τ s H locs) {post : Int32 → Prop} {v : Int32} (hn : narrow ty (.int v) = .int v) (hq : post v) (hdg : decode cc pc = .ok (.ireturn, 1)) : W p l e R s m args below meth c H locs 0 0 (MQ below (tQi G τ post) args s 0 0 (tA τ)) (F0 m pc ls [.int v]) :=
  W.zret E.1 E.2.1 hr hn (fun t ht _ => ⟨⟨v, (), rfl, hq, (show TH G (tΓ G τ) t.heap by rw [ht]; exact hG.1)⟩, hG.2.F ht⟩) hG.2.2.2 hdg hlk
theorem tc_pret {ty : FieldType} (E : tE G p s m c args own cc nL) (hr : meth.sig.returnType = some ty) (hlk : meth.locks = false) (eH : H = s.heap) (eL : locs = []) {post : Int32 → Prop} {v : Int32} (hn : narrow ty (.int v) = .int v) (hq : post v) (hdg : decode cc pc = .ok (.ireturn, 1)) : W p l e R s m args below meth c H locs 0 0 (MQ below (tQp post) args s 0 0 tNo) (F0 m pc ls [.int v]) :=
  W.zret E.1 E.2.1 hr hn (fun t ht _ => ⟨v, rfl, hq, ht.trans eH⟩) (by subst eL; intro q h; cases h) hdg hlk
theorem tc_plret (E : tE G p s m c args own cc nL) (hr : meth.sig.returnType = some .long) (hlk : meth.locks = false) (eH : H = s.heap) (eL : locs = []) {post : Int64 → Prop} {v : Int64} (hq : post v) (hdg : decode cc pc = .ok (.lreturn, 1)) : W p l e R s m args below meth c H locs 0 0 (MQ below (tQpl post) args s 0 0 tNo) (F0 m pc ls [.long v]) :=
  W.lret E.1 E.2.1 hr (fun t ht _ => ⟨v, rfl, hq, ht.trans eH⟩) (by subst eL; intro q h; cases h) hdg hlk
theorem tc_paret {nm : String} (E : tE G p s m c args own cc nL) (hr : meth.sig.returnType = some (.object nm)) (hlk : meth.locks = false) (eH : H = s.heap) (eL : locs = []) {post : Nat → Prop} {b : Nat} (hq : post b) (hdg : decode cc pc = .ok (.areturn, 1)) : W p l e R s m args below meth c H locs 0 0 (MQ below (tQpr post) args s 0 0 tNo) (F0 m pc ls [.ref b]) :=
  W.aret E.1 E.2.1 hr (Or.inl ⟨_, rfl⟩) (Or.inr ⟨_, rfl⟩) (fun t ht _ => ⟨b, rfl, hq, ht.trans eH⟩) (by subst eL; intro q h; cases h) hdg hlk
theorem tc_pqret {nm : String} (E : tE G p s m c args own cc nL) (hr : meth.sig.returnType = some (.object nm)) (hlk : meth.locks = false) (eH : H = s.heap) (eL : locs = []) {post : Option Nat → Prop} {b : Nat} (hq : post (some b)) (hdg : decode cc pc = .ok (.areturn, 1)) : W p l e R s m args below meth c H locs 0 0 (MQ below (tQpq post) args s 0 0 tNo) (F0 m pc ls [.ref b]) :=
  W.aret E.1 E.2.1 hr (Or.inl ⟨_, rfl⟩) (Or.inr ⟨_, rfl⟩) (fun t ht _ => ⟨some b, rfl, hq, ht.trans eH⟩) (by subst eL; intro q h; cases h) hdg hlk
theorem tc_pnret {nm : String} (E : tE G p s m c args own cc nL) (hr : meth.sig.returnType = some (.object nm)) (hlk : meth.locks = false) (eH : H = s.heap) (eL : locs = []) {post : Option Nat → Prop} (hq : post none) (hdg : decode cc pc = .ok (.areturn, 1)) : W p l e R s m args below meth c H locs 0 0 (MQ below (tQpq post) args s 0 0 tNo) (F0 m pc ls [.null]) :=
  W.aret E.1 E.2.1 hr (Or.inl ⟨_, rfl⟩) (Or.inl rfl) (fun t ht _ => ⟨none, rfl, hq, ht.trans eH⟩) (by subst eL; intro q h; cases h) hdg hlk
end TC
