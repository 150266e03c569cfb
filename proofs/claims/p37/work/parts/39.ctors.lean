/-! ===== the constructors of the class ===== -/
section CGW
variable {p : Program} {l : Launch} {e : Env} {R : Room} {s : State} {m : MethodId} {args : Array Value} {below : List Frame} {meth : Method} {c : Code} {H : Heap} {locs : List Loc} {Q : State → Prop}
variable {cc : ByteArray} {pc : Nat} {ls : Array Slot} {rest st0 As : List Value} {a b h t k ci cj index n N q : Nat} {G : tG} {own : String} {nL : Nat} {τ τ0 : Nat → Nat} {fs : List Value} {cells slots mc ms : Nat}
theorem cg_newi (E : tE G p s m c args own cc nL) (hC : tCG G τ0 τ s h ci fs H locs) {t9 : Nat} {d : tSD} {nn : Int32} (hF : tArr t9 0 N d) (h28 : t9 ≠ 28) (h29 : t9 ≠ 29 ∧ t9 ≠ 7) (hkn : ∀ i, i < N → tKn G t9 H.size i (.int 0)) (hdv : ∀ τ9, tsv τ9 d (.int 0)) (hnn : ¬ nn < 0) (hN : nn.toNatClampNeg = N) (hby : N * 4 ≤ 536870912) (hcl : cells + 1 ≤ R.cells) (hsl : slots + N ≤ R.slots) (hdg : decode cc pc = .ok (.newarray .int, 2))
    (kk : ∀ (q : Nat) (H1 : Heap) (τ1 : Nat → Nat), q = H.size → H1.size = H.size + 1 → tCG G τ0 τ1 s h ci fs H1 locs → τ1 q = t9 → (∀ x, τ x ≠ 0 → τ1 x = τ x) → (∀ x, x < H.size → τ x = 0 → τ1 x = 0) → (∀ x : Nat, x < H.size → H1[x]? = H[x]?) → W p l e R s m args below meth c H1 locs (cells + 1) (slots + N) Q (F0 m (pc + 2) ls (.ref q :: rest))) : W p l e R s m args below meth c H locs cells slots Q (F0 m pc ls (.int nn :: rest)) :=
  cg_newa E hC (atype := .int) (ak := 0) (t_w1 113 rfl rfl) rfl hF h28 h29 hkn hdv hnn hN hby hcl hsl (fun cA hc => Option.some.inj (hc.symm.trans (E.2.2.2.2.2.2 0 (G.2.1 0, .int) rfl).2)) hdg (fun q H1 eq9 z9 hC1 ho hq => kk q H1 _ eq9 z9 hC1 tUp_at (fun x hx => tUp_ne (fun e => by have := hC.2.1 x hx; omega)) (fun x hx h0 => (tUp_ne (by omega)).trans h0) ho)
theorem cg_newc (E : tE G p s m c args own cc nL) (hC : tCG G τ0 τ s h ci fs H locs) {t9 : Nat} {d : tSD} {nn : Int32} (hF : tArr t9 1 N d) (h28 : t9 ≠ 28) (h29 : t9 ≠ 29 ∧ t9 ≠ 7) (hkn : ∀ i, i < N → tKn G t9 H.size i (.int 0)) (hdv : ∀ τ9, tsv τ9 d (.int 0)) (hnn : ¬ nn < 0) (hN : nn.toNatClampNeg = N) (hby : N * 2 ≤ 536870912) (hcl : cells + 1 ≤ R.cells) (hsl : slots + N ≤ R.slots) (hdg : decode cc pc = .ok (.newarray .char, 2))
    (kk : ∀ (q : Nat) (H1 : Heap) (τ1 : Nat → Nat), q = H.size → H1.size = H.size + 1 → tCG G τ0 τ1 s h ci fs H1 locs → τ1 q = t9 → (∀ x, τ x ≠ 0 → τ1 x = τ x) → (∀ x, x < H.size → τ x = 0 → τ1 x = 0) → (∀ x : Nat, x < H.size → H1[x]? = H[x]?) → W p l e R s m args below meth c H1 locs (cells + 1) (slots + N) Q (F0 m (pc + 2) ls (.ref q :: rest))) : W p l e R s m args below meth c H locs cells slots Q (F0 m pc ls (.int nn :: rest)) :=
  cg_newa E hC (atype := .char) (ak := 1) (t_w2 157 rfl rfl) rfl hF h28 h29 hkn hdv hnn hN hby hcl hsl (fun cA hc => Option.some.inj (hc.symm.trans (E.2.2.2.2.2.2 1 (G.2.1 1, .char) rfl).2)) hdg (fun q H1 eq9 z9 hC1 ho hq => kk q H1 _ eq9 z9 hC1 tUp_at (fun x hx => tUp_ne (fun e => by have := hC.2.1 x hx; omega)) (fun x hx h0 => (tUp_ne (by omega)).trans h0) ho)
theorem cg_newl (E : tE G p s m c args own cc nL) (hC : tCG G τ0 τ s h ci fs H locs) {t9 : Nat} {d : tSD} {nn : Int32} (hF : tArr t9 2 N d) (h28 : t9 ≠ 28) (h29 : t9 ≠ 29 ∧ t9 ≠ 7) (hkn : ∀ i, i < N → tKn G t9 H.size i (.long 0)) (hdv : ∀ τ9, tsv τ9 d (.long 0)) (hnn : ¬ nn < 0) (hN : nn.toNatClampNeg = N) (hby : N * 8 ≤ 536870912) (hcl : cells + 1 ≤ R.cells) (hsl : slots + N ≤ R.slots) (hdg : decode cc pc = .ok (.newarray .long, 2))
    (kk : ∀ (q : Nat) (H1 : Heap) (τ1 : Nat → Nat), q = H.size → H1.size = H.size + 1 → tCG G τ0 τ1 s h ci fs H1 locs → τ1 q = t9 → (∀ x, τ x ≠ 0 → τ1 x = τ x) → (∀ x, x < H.size → τ x = 0 → τ1 x = 0) → (∀ x : Nat, x < H.size → H1[x]? = H[x]?) → W p l e R s m args below meth c H1 locs (cells + 1) (slots + N) Q (F0 m (pc + 2) ls (.ref q :: rest))) : W p l e R s m args below meth c H locs cells slots Q (F0 m pc ls (.int nn :: rest)) :=
  cg_newa E hC (atype := .long) (ak := 2) (t_w2 178 rfl rfl) rfl hF h28 h29 hkn hdv hnn hN hby hcl hsl (fun cA hc => Option.some.inj (hc.symm.trans (E.2.2.2.2.2.2 2 (G.2.1 2, .long) rfl).2)) hdg (fun q H1 eq9 z9 hC1 ho hq => kk q H1 _ eq9 z9 hC1 tUp_at (fun x hx => tUp_ne (fun e => by have := hC.2.1 x hx; omega)) (fun x hx h0 => (tUp_ne (by omega)).trans h0) ho)
end CGW
def tFo (τ : Nat → Nat) (t9 : Nat) : Nat → List Value → Prop
  | _, [] => True
  | k, v :: vs => tsv τ (tFD t9 k) v ∧ tFo τ t9 (k + 1) vs
theorem tFo.get {τ : Nat → Nat} {t9 : Nat} : ∀ {fs : List Value} {k0 : Nat}, tFo τ t9 k0 fs → ∀ k v, fs[k]? = some v → tsv τ (tFD t9 (k0 + k)) v
  | [], _, _, k, v, h => by simp at h
  | w :: ws, k0, h, 0, v, e => by
    have e2 : w = v := by simpa using e
    rw [← e2]
    exact h.1
  | w :: ws, k0, h, k + 1, v, e => by
    have := tFo.get h.2 k v (by simpa using e)
    rw [show k0 + (k + 1) = k0 + 1 + k by omega]
    exact this
theorem tFo.all {τ : Nat → Nat} {t9 : Nat} {fs : List Value} (h : tFo τ t9 0 fs) (k : Nat) (v : Value) (e : fs[k]? = some v) : tsv τ (tFD t9 k) v := by
  have := h.get k v e
  rwa [Nat.zero_add] at this
def tKo (G : tG) (t9 h : Nat) : Nat → List Value → Prop
  | _, [] => True
  | k, v :: vs => tKn G t9 h k v ∧ tKo G t9 h (k + 1) vs
theorem tKo.get {G : tG} {t9 h : Nat} : ∀ {fs : List Value} {k0 : Nat}, tKo G t9 h k0 fs → ∀ k v, fs[k]? = some v → tKn G t9 h (k0 + k) v
  | [], _, _, k, v, e => by simp at e
  | w :: ws, k0, hh, 0, v, e => by
    have e2 : w = v := by simpa using e
    rw [← e2]
    exact hh.1
  | w :: ws, k0, hh, k + 1, v, e => by
    have := tKo.get hh.2 k v (by simpa using e)
    rw [show k0 + (k + 1) = k0 + 1 + k by omega]
    exact this
theorem tKo.all {G : tG} {t9 h : Nat} {fs : List Value} (hh : tKo G t9 h 0 fs) (k : Nat) (v : Value) (e : fs[k]? = some v) : tKn G t9 h k v := by
  have := hh.get k v e
  rwa [Nat.zero_add] at this
theorem vr_e {a b : Nat} (h : a = b) : Value.ref a = Value.ref b := by rw [h]
theorem ffe {G : tG} {a b i : Nat} {v : Int32} (h : FF G b i = v) (e : a = b) : FF G a i = v := e ▸ h
theorem i_of {x : Int32} {i : Nat} (h : x.toInt = (i : Int)) (hi : i < 24) : x = Int32.ofNat i := (i32k (by omega) (by omega)).1.trans (by rw [show x.toInt.toNat = i by omega])
/-- what the new cells hold at first: the face at h -/
def iF (h a k : Nat) : Int32 := if k = 9 ∧ (a = h + 1 ∨ a = h + 101) then -1 else if k = 0 ∧ h + 5 ≤ a ∧ a < h + 101 ∧ (a - h - 5) % 4 = 0 then Int32.ofNat ((a - h - 5) / 4) else if k = 0 ∧ h + 105 ≤ a ∧ a < h + 201 ∧ (a - h - 105) % 4 = 0 then Int32.ofNat ((a - h - 105) / 4) else 0
def PRG (G : tG) (h : Nat) : Prop := (G.2.2.1 8 = h ∧ G.2.2.1 9 = 0 ∧ G.2.2.1 10 = h + 1 ∧ G.2.2.1 11 = h + 101 ∧ G.2.2.1 14 = h + 406 ∧ G.2.2.1 16 = h + 438) ∧ ∀ a k, h ≤ a → a < h + 448 → FF G a k = iF h a k
theorem iF_0 {h a k : Nat} (h1 : ¬ (k = 9 ∧ (a = h + 1 ∨ a = h + 101))) (h2 : ¬ (k = 0 ∧ h + 5 ≤ a ∧ a < h + 101 ∧ (a - h - 5) % 4 = 0)) (h3 : ¬ (k = 0 ∧ h + 105 ≤ a ∧ a < h + 201 ∧ (a - h - 105) % 4 = 0)) : iF h a k = 0 := by
  unfold iF
  rw [if_neg h1, if_neg h2, if_neg h3]
/-- the cells of a World at w -/
def WRG (G : tG) (w : Nat) : Prop := (FF G w 3 = 0 ∧ FF G w 4 = 0 ∧ FF G w 8 = 0 ∧ FF G w 9 = -1) ∧ ∀ i, i < 24 → FF G (w + 1 + (3 + 4 * i)) 0 = Int32.ofNat i ∧ (∀ k, ¬ k = 0 → FF G (w + 1 + (3 + 4 * i)) k = 0) ∧ (∀ k, FF G (w + 1 + (3 + 4 * i) + 1) k = 0) ∧ ∀ k, FF G (w + 1 + (3 + 4 * i) + 2) k = 0
theorem PRG.w {G : tG} {h w : Nat} (hP : PRG G h) (hw : w = h + 1 ∨ w = h + 101) : WRG G w := by
  have z : ∀ a k, h ≤ a → a < h + 448 → ¬ (k = 9 ∧ (a = h + 1 ∨ a = h + 101)) → ¬ (k = 0 ∧ h + 5 ≤ a ∧ a < h + 101 ∧ (a - h - 5) % 4 = 0) → ¬ (k = 0 ∧ h + 105 ≤ a ∧ a < h + 201 ∧ (a - h - 105) % 4 = 0) → FF G a k = 0 := fun a k h1 h2 h3 h4 h5 => (hP.2 a k h1 h2).trans (iF_0 h3 h4 h5)
  refine ⟨⟨z _ _ (by omega) (by omega) (by omega) (by omega) (by omega), z _ _ (by omega) (by omega) (by omega) (by omega) (by omega), z _ _ (by omega) (by omega) (by omega) (by omega) (by omega), ?_⟩, fun i hi => ⟨?_, fun k hk => z _ _ (by omega) (by omega) (by omega) (by omega) (by omega), fun k => z _ _ (by omega) (by omega) (by omega) (by omega) (by omega), fun k => z _ _ (by omega) (by omega) (by omega) (by omega) (by omega)⟩⟩
  · rw [hP.2 w 9 (by omega) (by omega)]
    unfold iF
    rw [if_pos (by omega)]
  · rw [hP.2 _ 0 (by omega) (by omega)]
    unfold iF
    rw [if_neg (by omega)]
    rcases hw with e | e
    · rw [if_pos (by omega), show (w + 1 + (3 + 4 * i) - h - 5) / 4 = i by omega]
    · rw [if_neg (by omega), if_pos (by omega), show (w + 1 + (3 + 4 * i) - h - 105) / 4 = i by omega]
theorem PRG.z {G : tG} {h a k : Nat} (hP : PRG G h) (h1 : a = h ∨ (h + 201 ≤ a ∧ a < h + 448)) : FF G a k = 0 := (hP.2 a k (by omega) (by omega)).trans (iF_0 (by omega) (by omega) (by omega))
def fsX0 : List Value := [.int 0, .null, .null, .null, .int 0, .int 0, .int 0, .int 0, .int 0, .int 0, .int 0, .int 0, .int 0, .int 0, .int 0, .int 0]
theorem fv_X0 : ∀ j, j < 16 → defaultValue (tyX0 j) = vp_V fsX0 j := by decide
def fsX2 : List Value := [.int 0, .int 0, .int 0, .int 0, .int 0, .int 0, .int 0, .int 0, .int 0, .int 0, .int 0, .int 0]
theorem fv_X2 : ∀ j, j < 12 → defaultValue (tyX2 j) = vp_V fsX2 j := by decide
def fsX3 : List Value := [.null, .int 0, .int 0, .int 0, .int 0, .int 0]
theorem fv_X3 : ∀ j, j < 6 → defaultValue (tyX3 j) = vp_V fsX3 j := by decide
def fsX4 : List Value := [.null, .int 0, .null]
theorem fv_X4 : ∀ j, j < 3 → defaultValue (tyX4 j) = vp_V fsX4 j := by decide
def fsX5 : List Value := [.null, .null, .null, .null, .null, .int 0, .null, .int 0, .int 0, .int 0, .int 0]
theorem fv_X5 : ∀ j, j < 11 → defaultValue (tyX5 j) = vp_V fsX5 j := by decide
def fsX6 : List Value := [.null, .int 0, .int 0]
theorem fv_X6 : ∀ j, j < 3 → defaultValue (tyX6 j) = vp_V fsX6 j := by decide
def fsX7 : List Value := [.null, .null, .null, .null, .null, .null, .int 0]
theorem fv_X7 : ∀ j, j < 7 → defaultValue (tyX7 j) = vp_V fsX7 j := by decide
def fsX8 : List Value := [.null, .null, .null, .int 0, .int 0, .int 0, .int 0, .int 0, .int 0, .int 0, .int 0, .int 0, .int 0]
theorem fv_X8 : ∀ j, j < 13 → defaultValue (tyX8 j) = vp_V fsX8 j := by decide
def fsX9 : List Value := [.null, .null, .null, .null, .null, .null, .null, .null, .int 0, .int 0, .int 0, .int 0]
theorem fv_X9 : ∀ j, j < 12 → defaultValue (tyX9 j) = vp_V fsX9 j := by decide
theorem ck_X2_init : tCm yX2_init cX2_init 1 none 0 ∧ Cond.instanceMethod yX2_init ∈ tWS := ⟨⟨t_w1 45 rfl rfl, t_w1 4 rfl rfl, by decide, by decide, by decide⟩, t_w1 44 rfl rfl⟩
theorem fz_X0_9 : tFz RX0 9 0 1 (.array .int) := ⟨_, _, _, _, fc_X0, Nat.le_of_ble_eq_true rfl, t_w1 117 rfl rfl, rfl, rfl, rfl⟩
theorem fz_X0_15 : tFz RX0 15 0 2 (.array .int) := ⟨_, _, _, _, fc_X0, Nat.le_of_ble_eq_true rfl, t_w1 122 rfl rfl, rfl, rfl, rfl⟩
theorem fz_X0_21 : tFz RX0 21 0 3 (.object "LaidOutBoxes$Laid") := ⟨_, _, _, _, fc_X0, Nat.le_of_ble_eq_true rfl, t_w1 125 rfl rfl, rfl, rfl, rfl⟩
theorem fz_X0_25 : tFz RX0 25 0 0 .int := ⟨_, _, _, _, fc_X0, Nat.le_of_ble_eq_true rfl, t_w1 114 rfl rfl, rfl, rfl, rfl⟩
theorem ck_X0_init : tCm yX0_init cX0_init 2 none 1 ∧ Cond.instanceMethod yX0_init ∈ tWS := ⟨⟨t_w1 39 rfl rfl, t_w1 3 rfl rfl, by decide, by decide, by decide⟩, t_w1 38 rfl rfl⟩
theorem fz_X8_11 : tFz RX8 11 7 0 (.array (.object "LaidOutBoxes$Box")) := ⟨_, _, _, _, fc_X8, Nat.le_of_ble_eq_true rfl, t_w1 201 rfl rfl, rfl, rfl, rfl⟩
theorem fz_X8_17 : tFz RX8 17 7 1 (.array .int) := ⟨_, _, _, _, fc_X8, Nat.le_of_ble_eq_true rfl, t_w1 206 rfl rfl, rfl, rfl, rfl⟩
theorem fz_X8_21 : tFz RX8 21 7 2 (.array .int) := ⟨_, _, _, _, fc_X8, Nat.le_of_ble_eq_true rfl, t_w1 208 rfl rfl, rfl, rfl, rfl⟩
theorem ck_X8_init : tCm yX8_init cX8_init 2 none 0 ∧ Cond.instanceMethod yX8_init ∈ tWS := ⟨⟨t_w1 32 rfl rfl, t_w1 2 rfl rfl, by decide, by decide, by decide⟩, t_w1 31 rfl rfl⟩
theorem fz_X3_9 : tFz RX3 9 2 0 (.object "LaidOutBoxes$World") := ⟨_, _, _, _, fc_X3, Nat.le_of_ble_eq_true rfl, t_w2 34 rfl rfl, rfl, rfl, rfl⟩
theorem ck_X3_init : tCm yX3_init cX3_init 2 none 1 ∧ Cond.instanceMethod yX3_init ∈ tWS := ⟨⟨t_w2 32 rfl rfl, t_w1 5 rfl rfl, by decide, by decide, by decide⟩, t_w2 31 rfl rfl⟩
theorem fz_X7_12 : tFz RX7 12 6 1 (.object "LaidOutBoxes$World") := ⟨_, _, _, _, fc_X7, Nat.le_of_ble_eq_true rfl, t_w2 71 rfl rfl, rfl, rfl, rfl⟩
theorem fz_X7_18 : tFz RX7 18 6 2 (.object "LaidOutBoxes$World") := ⟨_, _, _, _, fc_X7, Nat.le_of_ble_eq_true rfl, t_w2 72 rfl rfl, rfl, rfl, rfl⟩
theorem fz_X7_26 : tFz RX7 26 6 3 (.object "LaidOutBoxes$Layout") := ⟨_, _, _, _, fc_X7, Nat.le_of_ble_eq_true rfl, t_w2 73 rfl rfl, rfl, rfl, rfl⟩
theorem fz_X7_30 : tFz RX7 30 6 4 (.object "LaidOutBoxes$Layout") := ⟨_, _, _, _, fc_X7, Nat.le_of_ble_eq_true rfl, t_w2 74 rfl rfl, rfl, rfl, rfl⟩
theorem fz_X7_33 : tFz RX7 33 6 5 (.array .int) := ⟨_, _, _, _, fc_X7, Nat.le_of_ble_eq_true rfl, t_w2 75 rfl rfl, rfl, rfl, rfl⟩
theorem fz_X7_37 : tFz RX7 37 6 0 (.object "LaidOutBoxes$World") := ⟨_, _, _, _, fc_X7, Nat.le_of_ble_eq_true rfl, t_w2 70 rfl rfl, rfl, rfl, rfl⟩
theorem ck_X7_init : tCm yX7_init cX7_init 2 none 1 ∧ Cond.instanceMethod yX7_init ∈ tWS := ⟨⟨t_w2 64 rfl rfl, t_w1 6 rfl rfl, by decide, by decide, by decide⟩, t_w2 63 rfl rfl⟩
theorem fz_X5_9 : tFz RX5 9 4 0 (.array .int) := ⟨_, _, _, _, fc_X5, Nat.le_of_ble_eq_true rfl, t_w2 100 rfl rfl, rfl, rfl, rfl⟩
theorem fz_X5_15 : tFz RX5 15 4 1 (.array .int) := ⟨_, _, _, _, fc_X5, Nat.le_of_ble_eq_true rfl, t_w2 102 rfl rfl, rfl, rfl, rfl⟩
theorem fz_X5_18 : tFz RX5 18 4 2 (.array .int) := ⟨_, _, _, _, fc_X5, Nat.le_of_ble_eq_true rfl, t_w2 104 rfl rfl, rfl, rfl, rfl⟩
theorem fz_X5_21 : tFz RX5 21 4 3 (.array .int) := ⟨_, _, _, _, fc_X5, Nat.le_of_ble_eq_true rfl, t_w2 106 rfl rfl, rfl, rfl, rfl⟩
theorem fz_X5_26 : tFz RX5 26 4 4 (.array (.array .int)) := ⟨_, _, _, _, fc_X5, Nat.le_of_ble_eq_true rfl, t_w2 107 rfl rfl, rfl, rfl, rfl⟩
theorem ck_X5_init : tCm yX5_init cX5_init 1 none 0 ∧ Cond.instanceMethod yX5_init ∈ tWS := ⟨⟨t_w2 96 rfl rfl, t_w1 7 rfl rfl, by decide, by decide, by decide⟩, t_w2 95 rfl rfl⟩
theorem fz_X4_11 : tFz RX4 11 3 0 (.array .char) := ⟨_, _, _, _, fc_X4, Nat.le_of_ble_eq_true rfl, t_w2 145 rfl rfl, rfl, rfl, rfl⟩
theorem fz_X4_15 : tFz RX4 15 3 2 (.object "LaidOutBoxes$World") := ⟨_, _, _, _, fc_X4, Nat.le_of_ble_eq_true rfl, t_w2 149 rfl rfl, rfl, rfl, rfl⟩
theorem ck_X4_init : tCm yX4_init cX4_init 2 none 1 ∧ Cond.instanceMethod yX4_init ∈ tWS := ⟨⟨t_w2 143 rfl rfl, t_w1 8 rfl rfl, by decide, by decide, by decide⟩, t_w2 142 rfl rfl⟩
theorem fz_X6_9 : tFz RX6 9 5 0 (.array .long) := ⟨_, _, _, _, fc_X6, Nat.le_of_ble_eq_true rfl, t_w2 165 rfl rfl, rfl, rfl, rfl⟩
theorem ck_X6_init : tCm yX6_init cX6_init 1 none 0 ∧ Cond.instanceMethod yX6_init ∈ tWS := ⟨⟨t_w2 163 rfl rfl, t_w1 9 rfl rfl, by decide, by decide, by decide⟩, t_w2 162 rfl rfl⟩
theorem fz_X9_12 : tFz RX9 12 8 0 (.object "LaidOutBoxes$World") := ⟨_, _, _, _, fc_X9, Nat.le_of_ble_eq_true rfl, t_w2 179 rfl rfl, rfl, rfl, rfl⟩
theorem fz_X9_18 : tFz RX9 18 8 1 (.object "LaidOutBoxes$World") := ⟨_, _, _, _, fc_X9, Nat.le_of_ble_eq_true rfl, t_w2 180 rfl rfl, rfl, rfl, rfl⟩
theorem fz_X9_26 : tFz RX9 26 8 2 (.object "LaidOutBoxes$Layout") := ⟨_, _, _, _, fc_X9, Nat.le_of_ble_eq_true rfl, t_w2 181 rfl rfl, rfl, rfl, rfl⟩
theorem fz_X9_33 : tFz RX9 33 8 3 (.object "LaidOutBoxes$Thought") := ⟨_, _, _, _, fc_X9, Nat.le_of_ble_eq_true rfl, t_w2 182 rfl rfl, rfl, rfl, rfl⟩
theorem fz_X9_40 : tFz RX9 40 8 4 (.object "LaidOutBoxes$Reader") := ⟨_, _, _, _, fc_X9, Nat.le_of_ble_eq_true rfl, t_w2 183 rfl rfl, rfl, rfl, rfl⟩
theorem fz_X9_47 : tFz RX9 47 8 5 (.object "LaidOutBoxes$Printer") := ⟨_, _, _, _, fc_X9, Nat.le_of_ble_eq_true rfl, t_w2 184 rfl rfl, rfl, rfl, rfl⟩
theorem fz_X9_51 : tFz RX9 51 8 6 (.array .char) := ⟨_, _, _, _, fc_X9, Nat.le_of_ble_eq_true rfl, t_w2 185 rfl rfl, rfl, rfl, rfl⟩
theorem fz_X9_57 : tFz RX9 57 8 7 (.array (.object "LaidOutBoxes$Tape")) := ⟨_, _, _, _, fc_X9, Nat.le_of_ble_eq_true rfl, t_w2 186 rfl rfl, rfl, rfl, rfl⟩
theorem ck_X9_init : tCm yX9_init cX9_init 2 none 0 ∧ Cond.instanceMethod yX9_init ∈ tWS := ⟨⟨t_w1 24 rfl rfl, t_w1 1 rfl rfl, by decide, by decide, by decide⟩, t_w1 23 rfl rfl⟩
theorem ko_1 : Cond.instanceMethod objectInit ∈ tWS := t_w1 26 rfl rfl
theorem ko_2 : Cond.code objectInit ⟨#[0xb1]⟩ 1 none ∈ tWS := t_w1 27 rfl rfl
theorem k_X2_init {l : Launch} {G : tG} {τ : Nat → Nat} {h sz : Nat} : Met l yX2_init (.code yX2_init cX2_init 1 none :: tWS) { frames := 1, cells := 0, slots := 0, locals := 12 } (va_Pc (.ref h :: []) (tCP G τ h sz 1 fsX2)) (tCQ G τ h sz 4 0) 0 0 (tCA h sz) := by
  refine cg_met rfl rfl (Nat.le_of_ble_eq_true rfl) ?_
  intro p e s m below meth c E hNs hin hr hlk hsz hC ls hl
  have hx := E.1
  have hb := E.2.1
  generalize hH : s.heap = H at hC ⊢
  have hZ : H.size = sz + 0 := by rw [← hH]; exact hsz
  generalize hL : ([] : List Loc) = locs at hC ⊢
  refine lv_aload_n hx hb dX2_init_0 rfl (lv_at hl 0 rfl) ?_
  refine cg_obj E hl.1 (t_w1 46 rfl rfl) ko_1 ko_2 ⟨Nat.le_of_ble_eq_true rfl, Nat.le_of_ble_eq_true rfl⟩ dX2_init_1 ?_
  refine lv_aload_n hx hb dX2_init_4 rfl (lv_at hl 0 rfl) ?_
  refine lv_bipush (v := -5) hx hb dX2_init_5 (by decide) ?_
  refine cg_put E hC fq_X2_9 rfl rfl dX2_init_7 (fun H1 locs hC ho hzs => ?_)
  have hZ : H1.size = sz + (0) := by omega
  exact cg_ret hr hlk E hC hsz (by decide) (by decide) ⟨by decide, fun z => absurd z (by decide)⟩ rfl (tFo.all (⟨⟨_, rfl, by decide, by decide⟩, ⟨_, rfl, by decide, by decide⟩, ⟨_, rfl, by decide, by decide⟩, ⟨_, rfl, by decide, by decide⟩, ⟨_, rfl, by decide, by decide⟩, ⟨_, rfl, by decide, by decide⟩, ⟨_, rfl, by decide, by decide⟩, ⟨_, rfl, by decide, by decide⟩, ⟨_, rfl, by decide, by decide⟩, ⟨_, rfl, by decide, by decide⟩, ⟨_, rfl, by decide, by decide⟩, ⟨_, rfl, by decide, by decide⟩, trivial⟩ : tFo _ 4 0 [.int 0, .int 0, .int 0, .int 0, .int 0, .int 0, .int 0, .int 0, .int 0, .int 0, .int 0, .int (-5)])) (tKo.all (⟨tKn_no rfl rfl rfl, tKn_no rfl rfl rfl, tKn_no rfl rfl rfl, tKn_no rfl rfl rfl, tKn_no rfl rfl rfl, tKn_no rfl rfl rfl, tKn_no rfl rfl rfl, tKn_no rfl rfl rfl, tKn_no rfl rfl rfl, tKn_no rfl rfl rfl, tKn_no rfl rfl rfl, tKn_no rfl rfl rfl, trivial⟩ : tKo G 4 h 0 [.int 0, .int 0, .int 0, .int 0, .int 0, .int 0, .int 0, .int 0, .int 0, .int 0, .int 0, .int (-5)])) (by omega) dX2_init_10
theorem k_X0_init {l : Launch} {G : tG} {τ : Nat → Nat} {h sz : Nat} (x1 : Int32) (b1 : 0 ≤ x1.toInt) (c1 : x1.toInt ≤ 23) (hs9 : sz = h + 1) (f0 : FF G h 0 = x1) (fz : ∀ k, ¬ k = 0 → FF G h k = 0) (f1 : ∀ k, FF G (h + 1) k = 0) (f2 : ∀ k, FF G (h + 2) k = 0) : Met l yX0_init (.code yX0_init cX0_init 2 none :: tWS) { frames := 2, cells := 3, slots := 24, locals := 40 } (va_Pc (.ref h :: [.int x1]) (tCP G τ h sz 0 fsX0)) (tCQ G τ h sz 3 3) 3 24 (tCA h sz) := by
  refine cg_met rfl rfl (Nat.le_of_ble_eq_true rfl) ?_
  intro p e s m below meth c E hNs hin hr hlk hsz hC ls hl
  have hx := E.1
  have hb := E.2.1
  generalize hH : s.heap = H at hC ⊢
  have hZ : H.size = sz + 0 := by rw [← hH]; exact hsz
  generalize hL : ([] : List Loc) = locs at hC ⊢
  refine lv_aload_n hx hb dX0_init_0 rfl (lv_at hl 0 rfl) ?_
  refine cg_obj E hl.1 (t_w1 40 rfl rfl) ko_1 ko_2 ⟨Nat.le_of_ble_eq_true rfl, Nat.le_of_ble_eq_true rfl⟩ dX0_init_1 ?_
  refine lv_aload_n hx hb dX0_init_4 rfl (lv_at hl 0 rfl) ?_
  refine lv_iconst (v := 4) hx hb dX0_init_5 (by decide) ?_
  refine cg_newi E hC ta_11 (by decide) ⟨by decide, by decide⟩ (fun i _ => tKn_z rfl (ffe (f1 i) (by omega))) (fun _ => ⟨0, rfl, by decide, by decide⟩) (by decide) (by decide) (by decide) (Nat.le_of_ble_eq_true rfl) (Nat.le_of_ble_eq_true rfl) dX0_init_6 (fun q1 H1 τ2 eq9 zz9 hC hq1 hup hzz ho => ?_)
  have eq1 : q1 = sz + (0) := by omega
  have hZ : H1.size = sz + (1) := by omega
  clear hup hzz ho
  skip
  refine cg_putF E hin hC fz_X0_9 rfl rfl dX0_init_8 (fun H1 locs hC ho hzs => ?_)
  have hZ : H1.size = sz + (1) := by omega
  refine lv_aload_n hx hb dX0_init_11 rfl (lv_at hl 0 rfl) ?_
  refine lv_bipush (v := 8) hx hb dX0_init_12 (by decide) ?_
  refine cg_newi E hC ta_12 (by decide) ⟨by decide, by decide⟩ (fun i _ => tKn_z rfl (ffe (f2 i) (by omega))) (fun _ => ⟨0, rfl, by decide, by decide⟩) (by decide) (by decide) (by decide) (Nat.le_of_ble_eq_true rfl) (Nat.le_of_ble_eq_true rfl) dX0_init_14 (fun q3 H1 τ4 eq9 zz9 hC hq3 hup hzz ho => ?_)
  have eq3 : q3 = sz + (1) := by omega
  have hZ : H1.size = sz + (2) := by omega
  have g5 := (hup _ (by rw [hq1]; decide)).trans hq1
  clear hup hzz ho
  skip
  refine cg_putF E hin hC fz_X0_15 rfl rfl dX0_init_16 (fun H1 locs hC ho hzs => ?_)
  have hZ : H1.size = sz + (2) := by omega
  refine lv_aload_n hx hb dX0_init_19 rfl (lv_at hl 0 rfl) ?_
  refine cg_new E hC fc_X2 fv_X2 rfl (t_w1 41 rfl rfl) (t_w1 42 rfl rfl) (t_w1 4 rfl rfl) (Nat.le_of_ble_eq_true rfl) (Nat.le_of_ble_eq_true rfl) dX0_init_20 (fun b6 H1 eq9 zz9 hC hOb6 hrb6 hnb6 hsb6 hqb6 ho => ?_)
  have eb6 : b6 = sz + (2) := by omega
  have hZ : H1.size = sz + (3) := by omega
  refine lv_dup hx hb dX0_init_23 rfl ?_
  refine cg_back (b := b6) hC hrb6 hnb6 hsb6 (cg_runN (As := []) (rest := [.ref b6, .ref h]) E hNs hC hOb6 hrb6 (k_X2_init) ck_X2_init rfl (by decide) ⟨rfl, rfl, Nat.le_of_ble_eq_true rfl, Nat.le_of_ble_eq_true rfl⟩ rfl hl.1 rfl (Nat.le_of_ble_eq_true rfl) ⟨(Nat.le_of_ble_eq_true rfl), (Nat.le_of_ble_eq_true rfl)⟩ dX0_init_24) (fun τ7 H1 locs zz9 hb6 hup hzz hC ho => ?_)
  have g8 := (hup _ (by rw [g5]; decide)).trans g5
  have g9 := (hup _ (by rw [hq3]; decide)).trans hq3
  have hZ : H1.size = sz + (3) := by omega
  refine cg_putF E hin hC fz_X0_21 rfl rfl dX0_init_27 (fun H1 locs hC ho hzs => ?_)
  have hZ : H1.size = sz + (3) := by omega
  refine lv_aload_n hx hb dX0_init_30 rfl (lv_at hl 0 rfl) ?_
  refine lv_iload_n hx hb dX0_init_31 rfl (lv_at hl 1 rfl) ?_
  refine cg_putF E hin hC fz_X0_25 rfl rfl dX0_init_32 (fun H1 locs hC ho hzs => ?_)
  have hZ : H1.size = sz + (3) := by omega
  exact cg_ret hr hlk E hC hsz (by decide) (by decide) ⟨by decide, fun z => absurd z (by decide)⟩ rfl (tFo.all (⟨⟨_, rfl, (by omega), (by omega)⟩, ⟨_, rfl, g8⟩, ⟨_, rfl, g9⟩, ⟨_, rfl, hb6⟩, ⟨_, rfl, by decide, by decide⟩, ⟨_, rfl, by decide, by decide⟩, ⟨_, rfl, by decide, by decide⟩, ⟨_, rfl, by decide, by decide⟩, ⟨_, rfl, by decide, by decide⟩, ⟨_, rfl, by decide, by decide⟩, ⟨_, rfl, by decide, by decide⟩, ⟨_, rfl, by decide, by decide⟩, ⟨_, rfl, by decide, by decide⟩, ⟨_, rfl, by decide, by decide⟩, ⟨_, rfl, by decide, by decide⟩, ⟨_, rfl, by decide, by decide⟩, trivial⟩ : tFo _ 3 0 [.int x1, .ref q1, .ref q3, .ref b6, .int 0, .int 0, .int 0, .int 0, .int 0, .int 0, .int 0, .int 0, .int 0, .int 0, .int 0, .int 0])) (tKo.all (⟨tKn_i rfl rfl (by rw [f0]), tKn_r (d := 1) rfl rfl rfl (vr_e (by omega)), tKn_r (d := 2) rfl rfl rfl (vr_e (by omega)), tKn_r (d := 3) rfl rfl rfl (vr_e (by omega)), tKn_i rfl rfl (by rw [fz 4 (by decide)]), tKn_i rfl rfl (by rw [fz 5 (by decide)]), tKn_no rfl rfl rfl, tKn_i rfl rfl (by rw [fz 7 (by decide)]), tKn_i rfl rfl (by rw [fz 8 (by decide)]), tKn_i rfl rfl (by rw [fz 9 (by decide)]), tKn_i rfl rfl (by rw [fz 10 (by decide)]), tKn_no rfl rfl rfl, tKn_no rfl rfl rfl, tKn_no rfl rfl rfl, tKn_no rfl rfl rfl, tKn_no rfl rfl rfl, trivial⟩ : tKo G 3 h 0 [.int x1, .ref q1, .ref q3, .ref b6, .int 0, .int 0, .int 0, .int 0, .int 0, .int 0, .int 0, .int 0, .int 0, .int 0, .int 0, .int 0])) (by omega) dX0_init_35
theorem k_X0_initc {l : Launch} {G : tG} {τ : Nat → Nat} {h sz : Nat} (x1 : Int32) (b1 : 0 ≤ x1.toInt) (c1 : x1.toInt ≤ 23) : Met l yX0_init (.code yX0_init cX0_init 2 none :: tWS) { frames := 2, cells := 3, slots := 24, locals := 40 } (va_Pc (.ref h :: [.int x1]) (tCP G τ h sz 0 fsX0)) (tCQ G τ h sz 31 3) 3 24 (tCA h sz) := by
  refine cg_met rfl rfl (Nat.le_of_ble_eq_true rfl) ?_
  intro p e s m below meth c E hNs hin hr hlk hsz hC ls hl
  have hx := E.1
  have hb := E.2.1
  generalize hH : s.heap = H at hC ⊢
  have hZ : H.size = sz + 0 := by rw [← hH]; exact hsz
  generalize hL : ([] : List Loc) = locs at hC ⊢
  refine lv_aload_n hx hb dX0_init_0 rfl (lv_at hl 0 rfl) ?_
  refine cg_obj E hl.1 (t_w1 40 rfl rfl) ko_1 ko_2 ⟨Nat.le_of_ble_eq_true rfl, Nat.le_of_ble_eq_true rfl⟩ dX0_init_1 ?_
  refine lv_aload_n hx hb dX0_init_4 rfl (lv_at hl 0 rfl) ?_
  refine lv_iconst (v := 4) hx hb dX0_init_5 (by decide) ?_
  refine cg_newi E hC ta_32 (by decide) ⟨by decide, by decide⟩ (fun i _ => tKn_q rfl rfl) (fun _ => ⟨0, rfl, by decide, by decide⟩) (by decide) (by decide) (by decide) (Nat.le_of_ble_eq_true rfl) (Nat.le_of_ble_eq_true rfl) dX0_init_6 (fun q1 H1 τ2 eq9 zz9 hC hq1 hup hzz ho => ?_)
  have eq1 : q1 = sz + (0) := by omega
  have hZ : H1.size = sz + (1) := by omega
  clear hup hzz ho
  skip
  refine cg_putF E hin hC fz_X0_9 rfl rfl dX0_init_8 (fun H1 locs hC ho hzs => ?_)
  have hZ : H1.size = sz + (1) := by omega
  refine lv_aload_n hx hb dX0_init_11 rfl (lv_at hl 0 rfl) ?_
  refine lv_bipush (v := 8) hx hb dX0_init_12 (by decide) ?_
  refine cg_newi E hC ta_33 (by decide) ⟨by decide, by decide⟩ (fun i _ => tKn_q rfl rfl) (fun _ => ⟨0, rfl, by decide, by decide⟩) (by decide) (by decide) (by decide) (Nat.le_of_ble_eq_true rfl) (Nat.le_of_ble_eq_true rfl) dX0_init_14 (fun q3 H1 τ4 eq9 zz9 hC hq3 hup hzz ho => ?_)
  have eq3 : q3 = sz + (1) := by omega
  have hZ : H1.size = sz + (2) := by omega
  have g5 := (hup _ (by rw [hq1]; decide)).trans hq1
  clear hup hzz ho
  skip
  refine cg_putF E hin hC fz_X0_15 rfl rfl dX0_init_16 (fun H1 locs hC ho hzs => ?_)
  have hZ : H1.size = sz + (2) := by omega
  refine lv_aload_n hx hb dX0_init_19 rfl (lv_at hl 0 rfl) ?_
  refine cg_new E hC fc_X2 fv_X2 rfl (t_w1 41 rfl rfl) (t_w1 42 rfl rfl) (t_w1 4 rfl rfl) (Nat.le_of_ble_eq_true rfl) (Nat.le_of_ble_eq_true rfl) dX0_init_20 (fun b6 H1 eq9 zz9 hC hOb6 hrb6 hnb6 hsb6 hqb6 ho => ?_)
  have eb6 : b6 = sz + (2) := by omega
  have hZ : H1.size = sz + (3) := by omega
  refine lv_dup hx hb dX0_init_23 rfl ?_
  refine cg_back (b := b6) hC hrb6 hnb6 hsb6 (cg_runN (As := []) (rest := [.ref b6, .ref h]) E hNs hC hOb6 hrb6 (k_X2_init) ck_X2_init rfl (by decide) ⟨rfl, rfl, Nat.le_of_ble_eq_true rfl, Nat.le_of_ble_eq_true rfl⟩ rfl hl.1 rfl (Nat.le_of_ble_eq_true rfl) ⟨(Nat.le_of_ble_eq_true rfl), (Nat.le_of_ble_eq_true rfl)⟩ dX0_init_24) (fun τ7 H1 locs zz9 hb6 hup hzz hC ho => ?_)
  have g8 := (hup _ (by rw [g5]; decide)).trans g5
  have g9 := (hup _ (by rw [hq3]; decide)).trans hq3
  have hZ : H1.size = sz + (3) := by omega
  refine cg_putF E hin hC fz_X0_21 rfl rfl dX0_init_27 (fun H1 locs hC ho hzs => ?_)
  have hZ : H1.size = sz + (3) := by omega
  refine lv_aload_n hx hb dX0_init_30 rfl (lv_at hl 0 rfl) ?_
  refine lv_iload_n hx hb dX0_init_31 rfl (lv_at hl 1 rfl) ?_
  refine cg_putF E hin hC fz_X0_25 rfl rfl dX0_init_32 (fun H1 locs hC ho hzs => ?_)
  have hZ : H1.size = sz + (3) := by omega
  exact cg_ret hr hlk E hC hsz (by decide) (by decide) ⟨by decide, fun z => absurd z (by decide)⟩ rfl (tFo.all (⟨⟨_, rfl, (by omega), (by omega)⟩, ⟨_, rfl, g8⟩, ⟨_, rfl, g9⟩, ⟨_, rfl, hb6⟩, ⟨_, rfl, by decide, by decide⟩, ⟨_, rfl, by decide, by decide⟩, ⟨_, rfl, by decide, by decide⟩, ⟨_, rfl, by decide, by decide⟩, ⟨_, rfl, by decide, by decide⟩, ⟨_, rfl, by decide, by decide⟩, ⟨_, rfl, by decide, by decide⟩, ⟨_, rfl, by decide, by decide⟩, ⟨_, rfl, by decide, by decide⟩, ⟨_, rfl, by decide, by decide⟩, ⟨_, rfl, by decide, by decide⟩, ⟨_, rfl, by decide, by decide⟩, trivial⟩ : tFo _ 31 0 [.int x1, .ref q1, .ref q3, .ref b6, .int 0, .int 0, .int 0, .int 0, .int 0, .int 0, .int 0, .int 0, .int 0, .int 0, .int 0, .int 0])) (tKo.all (⟨tKn_no rfl rfl rfl, tKn_no rfl rfl rfl, tKn_no rfl rfl rfl, tKn_no rfl rfl rfl, tKn_no rfl rfl rfl, tKn_no rfl rfl rfl, tKn_no rfl rfl rfl, tKn_no rfl rfl rfl, tKn_no rfl rfl rfl, tKn_no rfl rfl rfl, tKn_no rfl rfl rfl, tKn_no rfl rfl rfl, tKn_no rfl rfl rfl, tKn_no rfl rfl rfl, tKn_no rfl rfl rfl, tKn_no rfl rfl rfl, trivial⟩ : tKo G 31 h 0 [.int x1, .ref q1, .ref q3, .ref b6, .int 0, .int 0, .int 0, .int 0, .int 0, .int 0, .int 0, .int 0, .int 0, .int 0, .int 0, .int 0])) (by omega) dX0_init_35
theorem k_X0_initm {l : Launch} {G : tG} {τ : Nat → Nat} {h sz : Nat} (x1 : Int32) (b1 : 0 ≤ x1.toInt) (c1 : x1.toInt ≤ 23) (hs9 : sz = h + 1) (f0 : FF G h 0 = x1) (fz : ∀ k, ¬ k = 0 → FF G h k = 0) (f1 : ∀ k, FF G (h + 1) k = 0) (f2 : ∀ k, FF G (h + 2) k = 0) : Met l yX0_init (.code yX0_init cX0_init 2 none :: tWS) { frames := 2, cells := 3, slots := 24, locals := 40 } (va_Pc (.ref h :: [.int x1]) (tCP G τ h sz 0 fsX0)) (tCQ G τ h sz 37 3) 3 24 (tCA h sz) := by
  refine cg_met rfl rfl (Nat.le_of_ble_eq_true rfl) ?_
  intro p e s m below meth c E hNs hin hr hlk hsz hC ls hl
  have hx := E.1
  have hb := E.2.1
  generalize hH : s.heap = H at hC ⊢
  have hZ : H.size = sz + 0 := by rw [← hH]; exact hsz
  generalize hL : ([] : List Loc) = locs at hC ⊢
  refine lv_aload_n hx hb dX0_init_0 rfl (lv_at hl 0 rfl) ?_
  refine cg_obj E hl.1 (t_w1 40 rfl rfl) ko_1 ko_2 ⟨Nat.le_of_ble_eq_true rfl, Nat.le_of_ble_eq_true rfl⟩ dX0_init_1 ?_
  refine lv_aload_n hx hb dX0_init_4 rfl (lv_at hl 0 rfl) ?_
  refine lv_iconst (v := 4) hx hb dX0_init_5 (by decide) ?_
  refine cg_newi E hC ta_38 (by decide) ⟨by decide, by decide⟩ (fun i _ => tKn_z rfl (ffe (f1 i) (by omega))) (fun _ => ⟨0, rfl, by decide, by decide⟩) (by decide) (by decide) (by decide) (Nat.le_of_ble_eq_true rfl) (Nat.le_of_ble_eq_true rfl) dX0_init_6 (fun q1 H1 τ2 eq9 zz9 hC hq1 hup hzz ho => ?_)
  have eq1 : q1 = sz + (0) := by omega
  have hZ : H1.size = sz + (1) := by omega
  clear hup hzz ho
  skip
  refine cg_putF E hin hC fz_X0_9 rfl rfl dX0_init_8 (fun H1 locs hC ho hzs => ?_)
  have hZ : H1.size = sz + (1) := by omega
  refine lv_aload_n hx hb dX0_init_11 rfl (lv_at hl 0 rfl) ?_
  refine lv_bipush (v := 8) hx hb dX0_init_12 (by decide) ?_
  refine cg_newi E hC ta_39 (by decide) ⟨by decide, by decide⟩ (fun i _ => tKn_z rfl (ffe (f2 i) (by omega))) (fun _ => ⟨0, rfl, by decide, by decide⟩) (by decide) (by decide) (by decide) (Nat.le_of_ble_eq_true rfl) (Nat.le_of_ble_eq_true rfl) dX0_init_14 (fun q3 H1 τ4 eq9 zz9 hC hq3 hup hzz ho => ?_)
  have eq3 : q3 = sz + (1) := by omega
  have hZ : H1.size = sz + (2) := by omega
  have g5 := (hup _ (by rw [hq1]; decide)).trans hq1
  clear hup hzz ho
  skip
  refine cg_putF E hin hC fz_X0_15 rfl rfl dX0_init_16 (fun H1 locs hC ho hzs => ?_)
  have hZ : H1.size = sz + (2) := by omega
  refine lv_aload_n hx hb dX0_init_19 rfl (lv_at hl 0 rfl) ?_
  refine cg_new E hC fc_X2 fv_X2 rfl (t_w1 41 rfl rfl) (t_w1 42 rfl rfl) (t_w1 4 rfl rfl) (Nat.le_of_ble_eq_true rfl) (Nat.le_of_ble_eq_true rfl) dX0_init_20 (fun b6 H1 eq9 zz9 hC hOb6 hrb6 hnb6 hsb6 hqb6 ho => ?_)
  have eb6 : b6 = sz + (2) := by omega
  have hZ : H1.size = sz + (3) := by omega
  refine lv_dup hx hb dX0_init_23 rfl ?_
  refine cg_back (b := b6) hC hrb6 hnb6 hsb6 (cg_runN (As := []) (rest := [.ref b6, .ref h]) E hNs hC hOb6 hrb6 (k_X2_init) ck_X2_init rfl (by decide) ⟨rfl, rfl, Nat.le_of_ble_eq_true rfl, Nat.le_of_ble_eq_true rfl⟩ rfl hl.1 rfl (Nat.le_of_ble_eq_true rfl) ⟨(Nat.le_of_ble_eq_true rfl), (Nat.le_of_ble_eq_true rfl)⟩ dX0_init_24) (fun τ7 H1 locs zz9 hb6 hup hzz hC ho => ?_)
  have g8 := (hup _ (by rw [g5]; decide)).trans g5
  have g9 := (hup _ (by rw [hq3]; decide)).trans hq3
  have hZ : H1.size = sz + (3) := by omega
  refine cg_putF E hin hC fz_X0_21 rfl rfl dX0_init_27 (fun H1 locs hC ho hzs => ?_)
  have hZ : H1.size = sz + (3) := by omega
  refine lv_aload_n hx hb dX0_init_30 rfl (lv_at hl 0 rfl) ?_
  refine lv_iload_n hx hb dX0_init_31 rfl (lv_at hl 1 rfl) ?_
  refine cg_putF E hin hC fz_X0_25 rfl rfl dX0_init_32 (fun H1 locs hC ho hzs => ?_)
  have hZ : H1.size = sz + (3) := by omega
  exact cg_ret hr hlk E hC hsz (by decide) (by decide) ⟨by decide, fun z => absurd z (by decide)⟩ rfl (tFo.all (⟨⟨_, rfl, (by omega), (by omega)⟩, ⟨_, rfl, g8⟩, ⟨_, rfl, g9⟩, ⟨_, rfl, hb6⟩, ⟨_, rfl, by decide, by decide⟩, ⟨_, rfl, by decide, by decide⟩, ⟨_, rfl, by decide, by decide⟩, ⟨_, rfl, by decide, by decide⟩, ⟨_, rfl, by decide, by decide⟩, ⟨_, rfl, by decide, by decide⟩, ⟨_, rfl, by decide, by decide⟩, ⟨_, rfl, by decide, by decide⟩, ⟨_, rfl, by decide, by decide⟩, ⟨_, rfl, by decide, by decide⟩, ⟨_, rfl, by decide, by decide⟩, ⟨_, rfl, by decide, by decide⟩, trivial⟩ : tFo _ 37 0 [.int x1, .ref q1, .ref q3, .ref b6, .int 0, .int 0, .int 0, .int 0, .int 0, .int 0, .int 0, .int 0, .int 0, .int 0, .int 0, .int 0])) (tKo.all (⟨tKn_i rfl rfl (by rw [f0]), tKn_r (d := 1) rfl rfl rfl (vr_e (by omega)), tKn_r (d := 2) rfl rfl rfl (vr_e (by omega)), tKn_r (d := 3) rfl rfl rfl (vr_e (by omega)), tKn_i rfl rfl (by rw [fz 4 (by decide)]), tKn_i rfl rfl (by rw [fz 5 (by decide)]), tKn_no rfl rfl rfl, tKn_i rfl rfl (by rw [fz 7 (by decide)]), tKn_i rfl rfl (by rw [fz 8 (by decide)]), tKn_i rfl rfl (by rw [fz 9 (by decide)]), tKn_i rfl rfl (by rw [fz 10 (by decide)]), tKn_no rfl rfl rfl, tKn_no rfl rfl rfl, tKn_no rfl rfl rfl, tKn_no rfl rfl rfl, tKn_no rfl rfl rfl, trivial⟩ : tKo G 37 h 0 [.int x1, .ref q1, .ref q3, .ref b6, .int 0, .int 0, .int 0, .int 0, .int 0, .int 0, .int 0, .int 0, .int 0, .int 0, .int 0, .int 0])) (by omega) dX0_init_35
theorem k_X3_init {l : Launch} {G : tG} {τ : Nat → Nat} {h sz : Nat} (x1 : Nat) (e1 : τ x1 = 2) : Met l yX3_init (.code yX3_init cX3_init 2 none :: tWS) { frames := 1, cells := 0, slots := 0, locals := 12 } (va_Pc (.ref h :: [.ref x1]) (tCP G τ h sz 2 fsX3)) (tCQ G τ h sz 5 0) 0 0 (tCA h sz) := by
  refine cg_met rfl rfl (Nat.le_of_ble_eq_true rfl) ?_
  intro p e s m below meth c E hNs hin hr hlk hsz hC ls hl
  have hx := E.1
  have hb := E.2.1
  generalize hH : s.heap = H at hC ⊢
  have hZ : H.size = sz + 0 := by rw [← hH]; exact hsz
  generalize hL : ([] : List Loc) = locs at hC ⊢
  refine lv_aload_n hx hb dX3_init_0 rfl (lv_at hl 0 rfl) ?_
  refine cg_obj E hl.1 (t_w2 33 rfl rfl) ko_1 ko_2 ⟨Nat.le_of_ble_eq_true rfl, Nat.le_of_ble_eq_true rfl⟩ dX3_init_1 ?_
  refine lv_aload_n hx hb dX3_init_4 rfl (lv_at hl 0 rfl) ?_
  refine lv_aload_n hx hb dX3_init_5 rfl (lv_at hl 1 rfl) ?_
  refine cg_putF E hin hC fz_X3_9 rfl rfl dX3_init_6 (fun H1 locs hC ho hzs => ?_)
  have hZ : H1.size = sz + (0) := by omega
  exact cg_ret hr hlk E hC hsz (by decide) (by decide) ⟨by decide, fun z => absurd z (by decide)⟩ rfl (tFo.all (⟨⟨_, rfl, e1⟩, ⟨_, rfl, by decide, by decide⟩, ⟨_, rfl, by decide, by decide⟩, ⟨_, rfl, by decide, by decide⟩, ⟨_, rfl, by decide, by decide⟩, ⟨_, rfl, by decide, by decide⟩, trivial⟩ : tFo _ 5 0 [.ref x1, .int 0, .int 0, .int 0, .int 0, .int 0])) (tKo.all (⟨tKn_no rfl rfl rfl, tKn_no rfl rfl rfl, tKn_no rfl rfl rfl, tKn_no rfl rfl rfl, tKn_no rfl rfl rfl, tKn_no rfl rfl rfl, trivial⟩ : tKo G 5 h 0 [.ref x1, .int 0, .int 0, .int 0, .int 0, .int 0])) (by omega) dX3_init_9
theorem k_X3_initc {l : Launch} {G : tG} {τ : Nat → Nat} {h sz : Nat} (x1 : Nat) (e1 : τ x1 = 26) : Met l yX3_init (.code yX3_init cX3_init 2 none :: tWS) { frames := 1, cells := 0, slots := 0, locals := 12 } (va_Pc (.ref h :: [.ref x1]) (tCP G τ h sz 2 fsX3)) (tCQ G τ h sz 27 0) 0 0 (tCA h sz) := by
  refine cg_met rfl rfl (Nat.le_of_ble_eq_true rfl) ?_
  intro p e s m below meth c E hNs hin hr hlk hsz hC ls hl
  have hx := E.1
  have hb := E.2.1
  generalize hH : s.heap = H at hC ⊢
  have hZ : H.size = sz + 0 := by rw [← hH]; exact hsz
  generalize hL : ([] : List Loc) = locs at hC ⊢
  refine lv_aload_n hx hb dX3_init_0 rfl (lv_at hl 0 rfl) ?_
  refine cg_obj E hl.1 (t_w2 33 rfl rfl) ko_1 ko_2 ⟨Nat.le_of_ble_eq_true rfl, Nat.le_of_ble_eq_true rfl⟩ dX3_init_1 ?_
  refine lv_aload_n hx hb dX3_init_4 rfl (lv_at hl 0 rfl) ?_
  refine lv_aload_n hx hb dX3_init_5 rfl (lv_at hl 1 rfl) ?_
  refine cg_putF E hin hC fz_X3_9 rfl rfl dX3_init_6 (fun H1 locs hC ho hzs => ?_)
  have hZ : H1.size = sz + (0) := by omega
  exact cg_ret hr hlk E hC hsz (by decide) (by decide) ⟨by decide, fun z => absurd z (by decide)⟩ rfl (tFo.all (⟨⟨_, rfl, e1⟩, ⟨_, rfl, by decide, by decide⟩, ⟨_, rfl, by decide, by decide⟩, ⟨_, rfl, by decide, by decide⟩, ⟨_, rfl, by decide, by decide⟩, ⟨_, rfl, by decide, by decide⟩, trivial⟩ : tFo _ 27 0 [.ref x1, .int 0, .int 0, .int 0, .int 0, .int 0])) (tKo.all (⟨tKn_no rfl rfl rfl, tKn_no rfl rfl rfl, tKn_no rfl rfl rfl, tKn_no rfl rfl rfl, tKn_no rfl rfl rfl, tKn_no rfl rfl rfl, trivial⟩ : tKo G 27 h 0 [.ref x1, .int 0, .int 0, .int 0, .int 0, .int 0])) (by omega) dX3_init_9
theorem k_X5_init {l : Launch} {G : tG} {τ : Nat → Nat} {h sz : Nat} (hs9 : sz = h + 1) (h14 : h = G.2.2.1 14) (h9 : ¬ G.2.2.1 9 = 1) (fz : ∀ k, FF G h k = 0) (fr : ∀ j, 1 ≤ j → j < 30 → ∀ k, FF G (h + j) k = 0) : Met l yX5_init (.code yX5_init cX5_init 1 none :: tWS) { frames := 1, cells := 29, slots := 216, locals := 12 } (va_Pc (.ref h :: []) (tCP G τ h sz 4 fsX5)) (tCQ G τ h sz 7 29) 29 216 (tCA h sz) := by
  refine cg_met rfl rfl (Nat.le_of_ble_eq_true rfl) ?_
  intro p e s m below meth c E hNs hin hr hlk hsz hC ls hl
  have hx := E.1
  have hb := E.2.1
  generalize hH : s.heap = H at hC ⊢
  have hZ : H.size = sz + 0 := by rw [← hH]; exact hsz
  generalize hL : ([] : List Loc) = locs at hC ⊢
  refine lv_aload_n hx hb dX5_init_0 rfl (lv_at hl 0 rfl) ?_
  refine cg_obj E hl.1 (t_w2 97 rfl rfl) ko_1 ko_2 ⟨Nat.le_of_ble_eq_true rfl, Nat.le_of_ble_eq_true rfl⟩ dX5_init_1 ?_
  refine lv_aload_n hx hb dX5_init_4 rfl (lv_at hl 0 rfl) ?_
  refine lv_bipush (v := 24) hx hb dX5_init_5 (by decide) ?_
  refine cg_newi E hC ta_15 (by decide) ⟨by decide, by decide⟩ (fun i _ => tKn_z rfl (ffe (fr 1 (by decide) (by decide) i) (by omega))) (fun _ => ⟨0, rfl, by decide, by decide⟩) (by decide) (by decide) (by decide) (Nat.le_of_ble_eq_true rfl) (Nat.le_of_ble_eq_true rfl) dX5_init_7 (fun q1 H1 τ2 eq9 zz9 hC hq1 hup hzz ho => ?_)
  have eq1 : q1 = sz + (0) := by omega
  have hZ : H1.size = sz + (1) := by omega
  clear hup hzz ho
  skip
  refine cg_putF E hin hC fz_X5_9 rfl rfl dX5_init_9 (fun H1 locs hC ho hzs => ?_)
  have hZ : H1.size = sz + (1) := by omega
  refine lv_aload_n hx hb dX5_init_12 rfl (lv_at hl 0 rfl) ?_
  refine lv_bipush (v := 24) hx hb dX5_init_13 (by decide) ?_
  refine cg_newi E hC ta_16 (by decide) ⟨by decide, by decide⟩ (fun i _ => tKn_z rfl (ffe (fr 2 (by decide) (by decide) i) (by omega))) (fun _ => ⟨0, rfl, by decide, by decide⟩) (by decide) (by decide) (by decide) (Nat.le_of_ble_eq_true rfl) (Nat.le_of_ble_eq_true rfl) dX5_init_15 (fun q3 H1 τ4 eq9 zz9 hC hq3 hup hzz ho => ?_)
  have eq3 : q3 = sz + (1) := by omega
  have hZ : H1.size = sz + (2) := by omega
  have g5 := (hup _ (by rw [hq1]; decide)).trans hq1
  clear hup hzz ho
  skip
  refine cg_putF E hin hC fz_X5_15 rfl rfl dX5_init_17 (fun H1 locs hC ho hzs => ?_)
  have hZ : H1.size = sz + (2) := by omega
  refine lv_aload_n hx hb dX5_init_20 rfl (lv_at hl 0 rfl) ?_
  refine lv_bipush (v := 24) hx hb dX5_init_21 (by decide) ?_
  refine cg_newi E hC ta_15 (by decide) ⟨by decide, by decide⟩ (fun i _ => tKn_z rfl (ffe (fr 3 (by decide) (by decide) i) (by omega))) (fun _ => ⟨0, rfl, by decide, by decide⟩) (by decide) (by decide) (by decide) (Nat.le_of_ble_eq_true rfl) (Nat.le_of_ble_eq_true rfl) dX5_init_23 (fun q6 H1 τ7 eq9 zz9 hC hq6 hup hzz ho => ?_)
  have eq6 : q6 = sz + (2) := by omega
  have hZ : H1.size = sz + (3) := by omega
  have g8 := (hup _ (by rw [g5]; decide)).trans g5
  have g9 := (hup _ (by rw [hq3]; decide)).trans hq3
  clear hup hzz ho
  skip
  refine cg_putF E hin hC fz_X5_18 rfl rfl dX5_init_25 (fun H1 locs hC ho hzs => ?_)
  have hZ : H1.size = sz + (3) := by omega
  refine lv_aload_n hx hb dX5_init_28 rfl (lv_at hl 0 rfl) ?_
  refine lv_bipush (v := 24) hx hb dX5_init_29 (by decide) ?_
  refine cg_newi E hC ta_15 (by decide) ⟨by decide, by decide⟩ (fun i _ => tKn_z rfl (ffe (fr 4 (by decide) (by decide) i) (by omega))) (fun _ => ⟨0, rfl, by decide, by decide⟩) (by decide) (by decide) (by decide) (Nat.le_of_ble_eq_true rfl) (Nat.le_of_ble_eq_true rfl) dX5_init_31 (fun q10 H1 τ11 eq9 zz9 hC hq10 hup hzz ho => ?_)
  have eq10 : q10 = sz + (3) := by omega
  have hZ : H1.size = sz + (4) := by omega
  have g12 := (hup _ (by rw [g8]; decide)).trans g8
  have g13 := (hup _ (by rw [g9]; decide)).trans g9
  have g14 := (hup _ (by rw [hq6]; decide)).trans hq6
  clear hup hzz ho
  skip
  refine cg_putF E hin hC fz_X5_21 rfl rfl dX5_init_33 (fun H1 locs hC ho hzs => ?_)
  have hZ : H1.size = sz + (4) := by omega
  refine lv_aload_n hx hb dX5_init_36 rfl (lv_at hl 0 rfl) ?_
  refine lv_bipush (v := 24) hx hb dX5_init_37 (by decide) ?_
  refine lv_iconst (v := 4) hx hb dX5_init_39 (by decide) ?_
  refine cg_multi E hNs.2.2.2 hC (t_w2 98 rfl rfl) (t_w1 113 rfl rfl) (Nat.le_of_ble_eq_true rfl) (Nat.le_of_ble_eq_true rfl) (fun j hj i => ffe (fr (6 + j) (by omega) (by omega) i) (by omega)) dX5_init_40 (fun q15 H1 τ16 eq9 zz9 hC hq15 hup ho => ?_)
  have eq15 : q15 = sz + (4) := by omega
  have hZ : H1.size = sz + (29) := by omega
  have g17 := (hup _ (by rw [g12]; decide)).trans g12
  have g18 := (hup _ (by rw [g13]; decide)).trans g13
  have g19 := (hup _ (by rw [g14]; decide)).trans g14
  have g20 := (hup _ (by rw [hq10]; decide)).trans hq10
  refine cg_putF E hin hC fz_X5_26 rfl rfl dX5_init_44 (fun H1 locs hC ho hzs => ?_)
  have hZ : H1.size = sz + (29) := by omega
  exact cg_ret hr hlk E hC hsz (by decide) (by decide) ⟨by decide, fun _ => h14⟩ rfl (tFo.all (⟨⟨_, rfl, g17⟩, ⟨_, rfl, g18⟩, ⟨_, rfl, g19⟩, ⟨_, rfl, g20⟩, ⟨_, rfl, hq15⟩, ⟨_, rfl, by decide, by decide⟩, Or.inl rfl, ⟨_, rfl, by decide, by decide⟩, ⟨_, rfl, by decide, by decide⟩, ⟨_, rfl, by decide, by decide⟩, ⟨_, rfl, by decide, by decide⟩, trivial⟩ : tFo _ 7 0 [.ref q1, .ref q3, .ref q6, .ref q10, .ref q15, .int 0, .null, .int 0, .int 0, .int 0, .int 0])) (tKo.all (⟨tKn_r (d := 1) rfl rfl rfl (vr_e (by omega)), tKn_r (d := 2) rfl rfl rfl (vr_e (by omega)), tKn_r (d := 3) rfl rfl rfl (vr_e (by omega)), tKn_r (d := 4) rfl rfl rfl (vr_e (by omega)), tKn_r (d := 5) rfl rfl rfl (vr_e (by omega)), tKn_i rfl rfl (by rw [fz 5]), tKn_l h9, tKn_i rfl rfl (by rw [fz 7]), tKn_i rfl rfl (by rw [fz 8]), tKn_i rfl rfl (by rw [fz 9]), tKn_i rfl rfl (by rw [fz 10]), trivial⟩ : tKo G 7 h 0 [.ref q1, .ref q3, .ref q6, .ref q10, .ref q15, .int 0, .null, .int 0, .int 0, .int 0, .int 0])) (by omega) dX5_init_47
theorem k_X4_init {l : Launch} {G : tG} {τ : Nat → Nat} {h sz : Nat} (x1 : Nat) (e1 : τ x1 = 2) : Met l yX4_init (.code yX4_init cX4_init 2 none :: tWS) { frames := 1, cells := 1, slots := 960, locals := 12 } (va_Pc (.ref h :: [.ref x1]) (tCP G τ h sz 3 fsX4)) (tCQ G τ h sz 8 1) 1 960 (tCA h sz) := by
  refine cg_met rfl rfl (Nat.le_of_ble_eq_true rfl) ?_
  intro p e s m below meth c E hNs hin hr hlk hsz hC ls hl
  have hx := E.1
  have hb := E.2.1
  generalize hH : s.heap = H at hC ⊢
  have hZ : H.size = sz + 0 := by rw [← hH]; exact hsz
  generalize hL : ([] : List Loc) = locs at hC ⊢
  refine lv_aload_n hx hb dX4_init_0 rfl (lv_at hl 0 rfl) ?_
  refine cg_obj E hl.1 (t_w2 144 rfl rfl) ko_1 ko_2 ⟨Nat.le_of_ble_eq_true rfl, Nat.le_of_ble_eq_true rfl⟩ dX4_init_1 ?_
  refine lv_aload_n hx hb dX4_init_4 rfl (lv_at hl 0 rfl) ?_
  refine lv_sipush (v := 960) hx hb dX4_init_5 (by decide) ?_
  refine cg_newc E hC ta_19 (by decide) ⟨by decide, by decide⟩ (fun i _ => tKn_q rfl rfl) (fun _ => ⟨0, rfl, by decide, by decide⟩) (by decide) (by decide) (by decide) (Nat.le_of_ble_eq_true rfl) (Nat.le_of_ble_eq_true rfl) dX4_init_8 (fun q1 H1 τ2 eq9 zz9 hC hq1 hup hzz ho => ?_)
  have eq1 : q1 = sz + (0) := by omega
  have hZ : H1.size = sz + (1) := by omega
  have g3 := (hup _ (by rw [e1]; decide)).trans e1
  clear hup hzz ho
  skip
  refine cg_putF E hin hC fz_X4_11 rfl rfl dX4_init_10 (fun H1 locs hC ho hzs => ?_)
  have hZ : H1.size = sz + (1) := by omega
  refine lv_aload_n hx hb dX4_init_13 rfl (lv_at hl 0 rfl) ?_
  refine lv_aload_n hx hb dX4_init_14 rfl (lv_at hl 1 rfl) ?_
  refine cg_putF E hin hC fz_X4_15 rfl rfl dX4_init_15 (fun H1 locs hC ho hzs => ?_)
  have hZ : H1.size = sz + (1) := by omega
  exact cg_ret hr hlk E hC hsz (by decide) (by decide) ⟨by decide, fun z => absurd z (by decide)⟩ rfl (tFo.all (⟨⟨_, rfl, hq1⟩, ⟨_, rfl, by decide, by decide⟩, ⟨_, rfl, g3⟩, trivial⟩ : tFo _ 8 0 [.ref q1, .int 0, .ref x1])) (tKo.all (⟨tKn_no rfl rfl rfl, tKn_no rfl rfl rfl, tKn_no rfl rfl rfl, trivial⟩ : tKo G 8 h 0 [.ref q1, .int 0, .ref x1])) (by omega) dX4_init_18
theorem k_X6_init {l : Launch} {G : tG} {τ : Nat → Nat} {h sz : Nat} : Met l yX6_init (.code yX6_init cX6_init 1 none :: tWS) { frames := 1, cells := 1, slots := 60, locals := 12 } (va_Pc (.ref h :: []) (tCP G τ h sz 5 fsX6)) (tCQ G τ h sz 9 1) 1 60 (tCA h sz) := by
  refine cg_met rfl rfl (Nat.le_of_ble_eq_true rfl) ?_
  intro p e s m below meth c E hNs hin hr hlk hsz hC ls hl
  have hx := E.1
  have hb := E.2.1
  generalize hH : s.heap = H at hC ⊢
  have hZ : H.size = sz + 0 := by rw [← hH]; exact hsz
  generalize hL : ([] : List Loc) = locs at hC ⊢
  refine lv_aload_n hx hb dX6_init_0 rfl (lv_at hl 0 rfl) ?_
  refine cg_obj E hl.1 (t_w2 164 rfl rfl) ko_1 ko_2 ⟨Nat.le_of_ble_eq_true rfl, Nat.le_of_ble_eq_true rfl⟩ dX6_init_1 ?_
  refine lv_aload_n hx hb dX6_init_4 rfl (lv_at hl 0 rfl) ?_
  refine lv_bipush (v := 60) hx hb dX6_init_5 (by decide) ?_
  refine cg_newl E hC ta_21 (by decide) ⟨by decide, by decide⟩ (fun i _ => tKn_q rfl rfl) (fun _ => ⟨0, rfl⟩) (by decide) (by decide) (by decide) (Nat.le_of_ble_eq_true rfl) (Nat.le_of_ble_eq_true rfl) dX6_init_7 (fun q1 H1 τ2 eq9 zz9 hC hq1 hup hzz ho => ?_)
  have eq1 : q1 = sz + (0) := by omega
  have hZ : H1.size = sz + (1) := by omega
  clear hup hzz ho
  skip
  refine cg_putF E hin hC fz_X6_9 rfl rfl dX6_init_9 (fun H1 locs hC ho hzs => ?_)
  have hZ : H1.size = sz + (1) := by omega
  refine lv_aload_n hx hb dX6_init_12 rfl (lv_at hl 0 rfl) ?_
  refine lv_iconst (v := -1) hx hb dX6_init_13 (by decide) ?_
  refine cg_put E hC fq_X6_15 rfl rfl dX6_init_14 (fun H1 locs hC ho hzs => ?_)
  have hZ : H1.size = sz + (1) := by omega
  exact cg_ret hr hlk E hC hsz (by decide) (by decide) ⟨by decide, fun z => absurd z (by decide)⟩ rfl (tFo.all (⟨⟨_, rfl, hq1⟩, ⟨_, rfl, by decide, by decide⟩, ⟨_, rfl, by decide, by decide⟩, trivial⟩ : tFo _ 9 0 [.ref q1, .int (-1), .int 0])) (tKo.all (⟨tKn_no rfl rfl rfl, tKn_no rfl rfl rfl, tKn_no rfl rfl rfl, trivial⟩ : tKo G 9 h 0 [.ref q1, .int (-1), .int 0])) (by omega) dX6_init_17
theorem t_nat {x : Int32} {i : Nat} (h : x.toInt = i) : x.toNatClampNeg = i := by
  have e : x.toNatClampNeg = x.toInt.toNat := rfl
  rw [e, h]
  rfl
theorem rv_Box : tRv 3 "LaidOutBoxes$Box" := ⟨by decide, _, _, _, rfl, rfl⟩
theorem rv_Tape : tRv 9 "LaidOutBoxes$Tape" := ⟨by decide, _, _, _, rfl, rfl⟩
theorem rv_Boxc : tRv 31 "LaidOutBoxes$Box" := ⟨by decide, _, _, _, rfl, rfl⟩
theorem rv_Boxm : tRv 37 "LaidOutBoxes$Box" := ⟨by decide, _, _, _, rfl, rfl⟩
theorem k_X8_init {l : Launch} {G : tG} {τ : Nat → Nat} {h sz : Nat} (hs9 : sz = h + 1) (hw : WRG G h) : Met l yX8_init (.code yX8_init cX8_init 2 none :: tWS) { frames := 3, cells := 99, slots := 1000, locals := 70 } (va_Pc (.ref h :: []) (tCP G τ h sz 7 fsX8)) (tCQ G τ h sz 2 99) 99 1000 (tCA h sz) := by
  refine cg_met rfl rfl (Nat.le_of_ble_eq_true rfl) ?_
  intro p e s m below meth c E hNs hin hr hlk hsz hC ls hl
  have hx := E.1
  have hb := E.2.1
  generalize hH : s.heap = H at hC ⊢
  have hZ : H.size = sz + 0 := by rw [← hH]; exact hsz
  generalize hL : ([] : List Loc) = locs at hC ⊢
  refine lv_aload_n hx hb dX8_init_0 rfl (lv_at hl 0 rfl) ?_
  refine cg_obj E hl.1 (t_w1 33 rfl rfl) ko_1 ko_2 ⟨Nat.le_of_ble_eq_true rfl, Nat.le_of_ble_eq_true rfl⟩ dX8_init_1 ?_
  refine lv_aload_n hx hb dX8_init_4 rfl (lv_at hl 0 rfl) ?_
  refine lv_bipush (v := 24) hx hb dX8_init_5 (by decide) ?_
  refine cg_anew (C := "LaidOutBoxes$Box") (N := 24) E hNs.2.1 hC (ak := 3) rfl (t_w1 34 rfl rfl) (by decide) (by decide) (by decide) (Nat.le_of_ble_eq_true rfl) (Nat.le_of_ble_eq_true rfl) dX8_init_7 (fun q1 H1 eq9 zz9 hC hAq1 hrq1 hnq1 hsq1 ho => ?_)
  have eq1 : q1 = sz + (0) := by omega
  have hZ : H1.size = sz + (1) := by omega
  refine cg_putF E hin hC fz_X8_11 rfl rfl dX8_init_10 (fun H1 locs hC ho hzs => ?_)
  have hAq1 := (ho _ hnq1).trans hAq1
  have hZ : H1.size = sz + (1) := by omega
  refine lv_aload_n hx hb dX8_init_13 rfl (lv_at hl 0 rfl) ?_
  refine lv_bipush (v := 8) hx hb dX8_init_14 (by decide) ?_
  refine cg_newi E hC ta_36 (by decide) ⟨by decide, by decide⟩ (fun i _ => tKn_q rfl rfl) (fun _ => ⟨0, rfl, by decide, by decide⟩) (by decide) (by decide) (by decide) (Nat.le_of_ble_eq_true rfl) (Nat.le_of_ble_eq_true rfl) dX8_init_16 (fun q2 H1 τ3 eq9 zz9 hC hq2 hup hzz ho => ?_)
  have eq2 : q2 = sz + (1) := by omega
  have hZ : H1.size = sz + (2) := by omega
  have hrq1 := hzz _ (Array.getElem?_eq_some_iff.mp hAq1).1 hrq1
  have hAq1 := (ho _ (Array.getElem?_eq_some_iff.mp hAq1).1).trans hAq1
  clear hup hzz ho
  skip
  refine cg_putF E hin hC fz_X8_17 rfl rfl dX8_init_18 (fun H1 locs hC ho hzs => ?_)
  have hAq1 := (ho _ hnq1).trans hAq1
  have hZ : H1.size = sz + (2) := by omega
  refine lv_aload_n hx hb dX8_init_21 rfl (lv_at hl 0 rfl) ?_
  refine lv_bipush (v := 8) hx hb dX8_init_22 (by decide) ?_
  refine cg_newi E hC ta_13 (by decide) ⟨by decide, by decide⟩ (fun i _ => tKn_q rfl rfl) (fun _ => ⟨0, rfl, by decide, by decide⟩) (by decide) (by decide) (by decide) (Nat.le_of_ble_eq_true rfl) (Nat.le_of_ble_eq_true rfl) dX8_init_24 (fun q4 H1 τ5 eq9 zz9 hC hq4 hup hzz ho => ?_)
  have eq4 : q4 = sz + (2) := by omega
  have hZ : H1.size = sz + (3) := by omega
  have g6 := (hup _ (by rw [hq2]; decide)).trans hq2
  have hrq1 := hzz _ (Array.getElem?_eq_some_iff.mp hAq1).1 hrq1
  have hAq1 := (ho _ (Array.getElem?_eq_some_iff.mp hAq1).1).trans hAq1
  clear hup hzz ho
  skip
  refine cg_putF E hin hC fz_X8_21 rfl rfl dX8_init_26 (fun H1 locs hC ho hzs => ?_)
  have hAq1 := (ho _ hnq1).trans hAq1
  have hZ : H1.size = sz + (3) := by omega
  refine lv_aload_n hx hb dX8_init_29 rfl (lv_at hl 0 rfl) ?_
  refine lv_iconst (v := -1) hx hb dX8_init_30 (by decide) ?_
  refine cg_put E hC fq_X8_24 rfl rfl dX8_init_31 (fun H1 locs hC ho hzs => ?_)
  have hAq1 := (ho _ hnq1).trans hAq1
  have hZ : H1.size = sz + (3) := by omega
  refine lv_aload_n hx hb dX8_init_34 rfl (lv_at hl 0 rfl) ?_
  refine lv_bipush (v := 100) hx hb dX8_init_35 (by decide) ?_
  refine cg_put E hC fq_X8_28 rfl rfl dX8_init_37 (fun H1 locs hC ho hzs => ?_)
  have hAq1 := (ho _ hnq1).trans hAq1
  have hZ : H1.size = sz + (3) := by omega
  refine lv_aload_n hx hb dX8_init_40 rfl (lv_at hl 0 rfl) ?_
  refine lv_bipush (v := 100) hx hb dX8_init_41 (by decide) ?_
  refine cg_put E hC fq_X8_31 rfl rfl dX8_init_43 (fun H1 locs hC ho hzs => ?_)
  have hAq1 := (ho _ hnq1).trans hAq1
  have hZ : H1.size = sz + (3) := by omega
  refine lv_aload_n hx hb dX8_init_46 rfl (lv_at hl 0 rfl) ?_
  refine lv_iconst (v := 1) hx hb dX8_init_47 (by decide) ?_
  refine cg_put E hC fq_X8_34 rfl rfl dX8_init_48 (fun H1 locs hC ho hzs => ?_)
  have hAq1 := (ho _ hnq1).trans hAq1
  have hZ : H1.size = sz + (3) := by omega
  refine lv_iconst (v := 0) hx hb dX8_init_51 (by decide) ?_
  refine lv_istore_n (lv' := [(1, .int 0), (0, .ref h)]) hx hb dX8_init_52 rfl hl (by decide) rfl (fun ls hl => ?_)
  have J : ∀ (n i : Nat) (x : Int32) (H : Heap) (locs : List Loc) (ls : Array Slot) (τ1 : Nat → Nat) (V : Nat → Value), n + i = 24 → x.toInt = i → H.size = sz + (3 + 4 * i) → tCG G τ τ1 s h 7 [.ref q1, .ref q2, .ref q4, .int 0, .int 0, .int 0, .int 0, .int 0, .int 0, .int (-1), .int 100, .int 100, .int 1] H locs → τ1 q2 = 36 → τ1 q4 = 13 → H[q1]? = some (arrV (G.2.1 3) 24 V) → τ1 q1 = 0 → (∀ j, j < i → V j = .ref (sz + (3 + 4 * j)) ∧ τ1 (sz + (3 + 4 * j)) = 3) → lv_has ls 2 [(1, .int x), (0, .ref h)] → W p l e { frames := 3, cells := 99, slots := 1000, locals := 70 } s m ((.ref h :: [] : List Value).toArray) below meth c H locs (3 + 4 * i) (40 + 40 * i) (MQ below (tCQ G τ h sz 2 99) ((.ref h :: [] : List Value).toArray) s 99 1000 (tCA h sz)) (F0 m 53 ls []) := by
    intro n
    induction n with
    | zero =>
      intro i x H1 locs ls τ1 V hni hxi hZ hC fq2 fq4 hAq1 hrq1 hV hl
      refine lv_iload_n hx hb dX8_init_53 rfl (lv_at hl 0 rfl) ?_
      refine lv_bipush (v := 24) hx hb dX8_init_54 (by decide) ?_
      refine lv_icmp_ge (tgt := 79) hx hb dX8_init_56 (by decide) (fun hc => ?_) (fun hc => ?_)
      · have ic := tn_le kI_24 rfl hc
        have ei : i = 24 := by omega
        subst ei
        have hC := hC.type (c9 := 10) hrq1 hnq1 hsq1 (Array.getElem?_eq_some_iff.mp hAq1).1 (by decide) ⟨by decide, fun z => absurd z (by decide)⟩ ⟨_, hAq1, fun j hj => by obtain ⟨e1, e2⟩ := hV j hj; rw [e1]; exact ⟨⟨_, rfl, (tUp_ne (fun z => by rw [z, hrq1] at e2; cases e2)).trans e2⟩, tKn_r (d := 3 + 4 * j) rfl rfl rfl (vr_e (by omega))⟩⟩
        have fq2 : tUp τ1 q1 10 q2 = 36 := (tUp_ne (fun z => by rw [z, hrq1] at fq2; cases fq2)).trans fq2
        have fq4 : tUp τ1 q1 10 q4 = 13 := (tUp_ne (fun z => by rw [z, hrq1] at fq4; cases fq4)).trans fq4
        exact cg_ret hr hlk E hC hsz (by decide) (by decide) ⟨by decide, fun z => absurd z (by decide)⟩ rfl (tFo.all (⟨⟨_, rfl, tUp_at⟩, ⟨_, rfl, fq2⟩, ⟨_, rfl, fq4⟩, ⟨_, rfl, by decide, by decide⟩, ⟨_, rfl, by decide, by decide⟩, ⟨_, rfl, by decide, by decide⟩, ⟨_, rfl, by decide, by decide⟩, ⟨_, rfl, by decide, by decide⟩, ⟨_, rfl, by decide, by decide⟩, ⟨_, rfl, by decide, by decide⟩, ⟨_, rfl, by decide, by decide⟩, ⟨_, rfl, by decide, by decide⟩, ⟨_, rfl, by decide, by decide⟩, trivial⟩ : tFo _ 2 0 [.ref q1, .ref q2, .ref q4, .int 0, .int 0, .int 0, .int 0, .int 0, .int 0, .int (-1), .int 100, .int 100, .int 1])) (tKo.all (⟨tKn_r (d := 1) rfl rfl rfl (vr_e (by omega)), tKn_no rfl rfl rfl, tKn_no rfl rfl rfl, tKn_i rfl rfl (by rw [hw.1.1]), tKn_i rfl rfl (by rw [hw.1.2.1]), tKn_no rfl rfl rfl, tKn_no rfl rfl rfl, tKn_no rfl rfl rfl, tKn_i rfl rfl (by rw [hw.1.2.2.1]), tKn_i rfl rfl (by rw [hw.1.2.2.2]), tKn_no rfl rfl rfl, tKn_no rfl rfl rfl, tKn_no rfl rfl rfl, trivial⟩ : tKo G 2 h 0 [.ref q1, .ref q2, .ref q4, .int 0, .int 0, .int 0, .int 0, .int 0, .int 0, .int (-1), .int 100, .int 100, .int 1])) (by omega) dX8_init_79
      · have ic := tn_nle kI_24 rfl hc
        exfalso; omega
    | succ n ih =>
      intro i x H1 locs ls τ1 V hni hxi hZ hC fq2 fq4 hAq1 hrq1 hV hl
      refine lv_iload_n hx hb dX8_init_53 rfl (lv_at hl 0 rfl) ?_
      refine lv_bipush (v := 24) hx hb dX8_init_54 (by decide) ?_
      refine lv_icmp_ge (tgt := 79) hx hb dX8_init_56 (by decide) (fun hc => ?_) (fun hc => ?_)
      · have ic := tn_le kI_24 rfl hc
        exfalso; omega
      · have ic := tn_nle kI_24 rfl hc
        refine lv_aload_n hx hb dX8_init_59 rfl (lv_at hl 1 rfl) ?_
        refine cg_get E hC ff_X8_11 (v := .ref q1) rfl dX8_init_60 ?_
        refine lv_iload_n hx hb dX8_init_63 rfl (lv_at hl 0 rfl) ?_
        have hltq1 := (Array.getElem?_eq_some_iff.mp hAq1).1
        refine cg_new E hC fc_X0 fv_X0 rfl (t_w1 34 rfl rfl) (t_w1 36 rfl rfl) (t_w1 3 rfl rfl) (by show 3 + 4 * i + 1 ≤ 99; omega) (by show 40 + 40 * i + 16 ≤ 1000; omega) dX8_init_64 (fun b7 H1 eq9 zz9 hC hOb7 hrb7 hnb7 hsb7 hqb7 ho => ?_)
        have hAq1 := (ho _ hltq1).trans hAq1
        have hdb7_q1 : q1 ≠ b7 := by omega
        have eb7 : b7 = sz + (3 + 4 * i) := by omega
        have hZ : H1.size = sz + (3 + 4 * i + 1) := by omega
        refine lv_dup hx hb dX8_init_67 rfl ?_
        refine lv_iload_n hx hb dX8_init_68 rfl (lv_at hl 0 rfl) ?_
        refine cg_back (b := b7) hC hrb7 hnb7 hsb7 (cg_runI (As := [.int x]) (rest := [.ref b7, .int x, .ref q1]) E hNs hC hOb7 hrb7 (k_X0_init x (by omega) (by omega) (by omega) (ffe ((hw.2 i (by omega)).1.trans (i_of hxi (by omega)).symm) (by omega)) (fun k hk => ffe ((hw.2 i (by omega)).2.1 k hk) (by omega)) (fun k => ffe ((hw.2 i (by omega)).2.2.1 k) (by omega)) (fun k => ffe ((hw.2 i (by omega)).2.2.2 k) (by omega))) ck_X0_init rfl (t_w1 37 rfl rfl) ⟨rfl, rfl, Nat.le_of_ble_eq_true rfl, Nat.le_of_ble_eq_true rfl⟩ rfl hl.1 rfl (Nat.le_of_ble_eq_true rfl) ⟨(by show 3 + 4 * i + 1 + 3 ≤ 99; omega), (by show 40 + 40 * i + 16 + 24 ≤ 1000; omega)⟩ dX8_init_69) (fun τ8 H1 locs zz9 hb7 hup hzz hC ho => ?_)
        have g9 := (hup _ (by rw [fq2]; decide)).trans fq2
        have g10 := (hup _ (by rw [fq4]; decide)).trans fq4
        have hltq1 := (Array.getElem?_eq_some_iff.mp hAq1).1
        have hrq1 := hzz _ hdb7_q1 hltq1 hrq1
        have hAq1 := (ho _ hltq1 hdb7_q1).trans hAq1
        have hZ : H1.size = sz + (3 + 4 * i + 1 + 3) := by omega
        refine cg_aast (C := "LaidOutBoxes$Box") (t9 := 3) E hC hAq1 hrq1 hnq1 hsq1 rfl hb7 rv_Box (t_in (by omega) (by omega)) dX8_init_72 (fun H1 locs hC hAq1 ho zz9 => ?_)
        obtain ⟨y, ey⟩ : ∃ y : Int32, y = x + (1) := ⟨_, rfl⟩
        refine lv_iinc (v := y) (lv' := [(1, .int y), (0, .ref h)]) hx hb dX8_init_73 hl (k := 0) rfl (by rw [ey]; rfl) (by decide) rfl (fun ls hl => ?_)
        have ty := tn_add ey rfl kI_1 (by omega) (by omega)
        refine lv_goto (tgt := 53) hx hb dX8_init_76 (by decide) ?_
        rw [show 3 + 4 * i + 1 + 3 = 3 + 4 * (i + 1) by omega, show 40 + 40 * i + 16 + 24 = 40 + 40 * (i + 1) by omega]
        have hxn : x.toNatClampNeg = i := t_nat hxi
        rw [hxn] at hAq1
        refine ih (i + 1) y _ _ ls _ _ (by omega) (by omega) (by omega) hC g9 g10 hAq1 hrq1 (fun j hj => ?_) hl
        by_cases ej : j = i
        · subst ej; refine ⟨?_, ?_⟩; (rw [← eb7]; simp [updV]); (rw [← eb7]; exact hb7)
        · obtain ⟨e1, e2⟩ := hV j (by omega); exact ⟨by simp [updV, ej, e1], (hup _ (by rw [e2]; decide)).trans e2⟩
  exact J 24 0 0 _ _ ls _ _ rfl rfl (by omega) hC g6 hq4 hAq1 hrq1 (fun j hj => absurd hj (Nat.not_lt_zero _)) hl
theorem k_X8_initc {l : Launch} {G : tG} {τ : Nat → Nat} {h sz : Nat} : Met l yX8_init (.code yX8_init cX8_init 2 none :: tWS) { frames := 3, cells := 99, slots := 1000, locals := 70 } (va_Pc (.ref h :: []) (tCP G τ h sz 7 fsX8)) (tCQ G τ h sz 26 99) 99 1000 (tCA h sz) := by
  refine cg_met rfl rfl (Nat.le_of_ble_eq_true rfl) ?_
  intro p e s m below meth c E hNs hin hr hlk hsz hC ls hl
  have hx := E.1
  have hb := E.2.1
  generalize hH : s.heap = H at hC ⊢
  have hZ : H.size = sz + 0 := by rw [← hH]; exact hsz
  generalize hL : ([] : List Loc) = locs at hC ⊢
  refine lv_aload_n hx hb dX8_init_0 rfl (lv_at hl 0 rfl) ?_
  refine cg_obj E hl.1 (t_w1 33 rfl rfl) ko_1 ko_2 ⟨Nat.le_of_ble_eq_true rfl, Nat.le_of_ble_eq_true rfl⟩ dX8_init_1 ?_
  refine lv_aload_n hx hb dX8_init_4 rfl (lv_at hl 0 rfl) ?_
  refine lv_bipush (v := 24) hx hb dX8_init_5 (by decide) ?_
  refine cg_anew (C := "LaidOutBoxes$Box") (N := 24) E hNs.2.1 hC (ak := 3) rfl (t_w1 34 rfl rfl) (by decide) (by decide) (by decide) (Nat.le_of_ble_eq_true rfl) (Nat.le_of_ble_eq_true rfl) dX8_init_7 (fun q1 H1 eq9 zz9 hC hAq1 hrq1 hnq1 hsq1 ho => ?_)
  have eq1 : q1 = sz + (0) := by omega
  have hZ : H1.size = sz + (1) := by omega
  refine cg_putF E hin hC fz_X8_11 rfl rfl dX8_init_10 (fun H1 locs hC ho hzs => ?_)
  have hAq1 := (ho _ hnq1).trans hAq1
  have hZ : H1.size = sz + (1) := by omega
  refine lv_aload_n hx hb dX8_init_13 rfl (lv_at hl 0 rfl) ?_
  refine lv_bipush (v := 8) hx hb dX8_init_14 (by decide) ?_
  refine cg_newi E hC ta_36 (by decide) ⟨by decide, by decide⟩ (fun i _ => tKn_q rfl rfl) (fun _ => ⟨0, rfl, by decide, by decide⟩) (by decide) (by decide) (by decide) (Nat.le_of_ble_eq_true rfl) (Nat.le_of_ble_eq_true rfl) dX8_init_16 (fun q2 H1 τ3 eq9 zz9 hC hq2 hup hzz ho => ?_)
  have eq2 : q2 = sz + (1) := by omega
  have hZ : H1.size = sz + (2) := by omega
  have hrq1 := hzz _ (Array.getElem?_eq_some_iff.mp hAq1).1 hrq1
  have hAq1 := (ho _ (Array.getElem?_eq_some_iff.mp hAq1).1).trans hAq1
  clear hup hzz ho
  skip
  refine cg_putF E hin hC fz_X8_17 rfl rfl dX8_init_18 (fun H1 locs hC ho hzs => ?_)
  have hAq1 := (ho _ hnq1).trans hAq1
  have hZ : H1.size = sz + (2) := by omega
  refine lv_aload_n hx hb dX8_init_21 rfl (lv_at hl 0 rfl) ?_
  refine lv_bipush (v := 8) hx hb dX8_init_22 (by decide) ?_
  refine cg_newi E hC ta_13 (by decide) ⟨by decide, by decide⟩ (fun i _ => tKn_q rfl rfl) (fun _ => ⟨0, rfl, by decide, by decide⟩) (by decide) (by decide) (by decide) (Nat.le_of_ble_eq_true rfl) (Nat.le_of_ble_eq_true rfl) dX8_init_24 (fun q4 H1 τ5 eq9 zz9 hC hq4 hup hzz ho => ?_)
  have eq4 : q4 = sz + (2) := by omega
  have hZ : H1.size = sz + (3) := by omega
  have g6 := (hup _ (by rw [hq2]; decide)).trans hq2
  have hrq1 := hzz _ (Array.getElem?_eq_some_iff.mp hAq1).1 hrq1
  have hAq1 := (ho _ (Array.getElem?_eq_some_iff.mp hAq1).1).trans hAq1
  clear hup hzz ho
  skip
  refine cg_putF E hin hC fz_X8_21 rfl rfl dX8_init_26 (fun H1 locs hC ho hzs => ?_)
  have hAq1 := (ho _ hnq1).trans hAq1
  have hZ : H1.size = sz + (3) := by omega
  refine lv_aload_n hx hb dX8_init_29 rfl (lv_at hl 0 rfl) ?_
  refine lv_iconst (v := -1) hx hb dX8_init_30 (by decide) ?_
  refine cg_put E hC fq_X8_24 rfl rfl dX8_init_31 (fun H1 locs hC ho hzs => ?_)
  have hAq1 := (ho _ hnq1).trans hAq1
  have hZ : H1.size = sz + (3) := by omega
  refine lv_aload_n hx hb dX8_init_34 rfl (lv_at hl 0 rfl) ?_
  refine lv_bipush (v := 100) hx hb dX8_init_35 (by decide) ?_
  refine cg_put E hC fq_X8_28 rfl rfl dX8_init_37 (fun H1 locs hC ho hzs => ?_)
  have hAq1 := (ho _ hnq1).trans hAq1
  have hZ : H1.size = sz + (3) := by omega
  refine lv_aload_n hx hb dX8_init_40 rfl (lv_at hl 0 rfl) ?_
  refine lv_bipush (v := 100) hx hb dX8_init_41 (by decide) ?_
  refine cg_put E hC fq_X8_31 rfl rfl dX8_init_43 (fun H1 locs hC ho hzs => ?_)
  have hAq1 := (ho _ hnq1).trans hAq1
  have hZ : H1.size = sz + (3) := by omega
  refine lv_aload_n hx hb dX8_init_46 rfl (lv_at hl 0 rfl) ?_
  refine lv_iconst (v := 1) hx hb dX8_init_47 (by decide) ?_
  refine cg_put E hC fq_X8_34 rfl rfl dX8_init_48 (fun H1 locs hC ho hzs => ?_)
  have hAq1 := (ho _ hnq1).trans hAq1
  have hZ : H1.size = sz + (3) := by omega
  refine lv_iconst (v := 0) hx hb dX8_init_51 (by decide) ?_
  refine lv_istore_n (lv' := [(1, .int 0), (0, .ref h)]) hx hb dX8_init_52 rfl hl (by decide) rfl (fun ls hl => ?_)
  have J : ∀ (n i : Nat) (x : Int32) (H : Heap) (locs : List Loc) (ls : Array Slot) (τ1 : Nat → Nat) (V : Nat → Value), n + i = 24 → x.toInt = i → H.size = sz + (3 + 4 * i) → tCG G τ τ1 s h 7 [.ref q1, .ref q2, .ref q4, .int 0, .int 0, .int 0, .int 0, .int 0, .int 0, .int (-1), .int 100, .int 100, .int 1] H locs → τ1 q2 = 36 → τ1 q4 = 13 → H[q1]? = some (arrV (G.2.1 3) 24 V) → τ1 q1 = 0 → (∀ j, j < i → V j = .ref (sz + (3 + 4 * j)) ∧ τ1 (sz + (3 + 4 * j)) = 31) → lv_has ls 2 [(1, .int x), (0, .ref h)] → W p l e { frames := 3, cells := 99, slots := 1000, locals := 70 } s m ((.ref h :: [] : List Value).toArray) below meth c H locs (3 + 4 * i) (40 + 40 * i) (MQ below (tCQ G τ h sz 26 99) ((.ref h :: [] : List Value).toArray) s 99 1000 (tCA h sz)) (F0 m 53 ls []) := by
    intro n
    induction n with
    | zero =>
      intro i x H1 locs ls τ1 V hni hxi hZ hC fq2 fq4 hAq1 hrq1 hV hl
      refine lv_iload_n hx hb dX8_init_53 rfl (lv_at hl 0 rfl) ?_
      refine lv_bipush (v := 24) hx hb dX8_init_54 (by decide) ?_
      refine lv_icmp_ge (tgt := 79) hx hb dX8_init_56 (by decide) (fun hc => ?_) (fun hc => ?_)
      · have ic := tn_le kI_24 rfl hc
        have ei : i = 24 := by omega
        subst ei
        have hC := hC.type (c9 := 34) hrq1 hnq1 hsq1 (Array.getElem?_eq_some_iff.mp hAq1).1 (by decide) ⟨by decide, fun z => absurd z (by decide)⟩ ⟨_, hAq1, fun j hj => by obtain ⟨e1, e2⟩ := hV j hj; rw [e1]; exact ⟨⟨_, rfl, (tUp_ne (fun z => by rw [z, hrq1] at e2; cases e2)).trans e2⟩, tKn_q rfl rfl⟩⟩
        have fq2 : tUp τ1 q1 34 q2 = 36 := (tUp_ne (fun z => by rw [z, hrq1] at fq2; cases fq2)).trans fq2
        have fq4 : tUp τ1 q1 34 q4 = 13 := (tUp_ne (fun z => by rw [z, hrq1] at fq4; cases fq4)).trans fq4
        exact cg_ret hr hlk E hC hsz (by decide) (by decide) ⟨by decide, fun z => absurd z (by decide)⟩ rfl (tFo.all (⟨⟨_, rfl, tUp_at⟩, ⟨_, rfl, fq2⟩, ⟨_, rfl, fq4⟩, ⟨_, rfl, by decide, by decide⟩, ⟨_, rfl, by decide, by decide⟩, ⟨_, rfl, by decide, by decide⟩, ⟨_, rfl, by decide, by decide⟩, ⟨_, rfl, by decide, by decide⟩, ⟨_, rfl, by decide, by decide⟩, ⟨_, rfl, by decide, by decide⟩, ⟨_, rfl, by decide, by decide⟩, ⟨_, rfl, by decide, by decide⟩, ⟨_, rfl, by decide, by decide⟩, trivial⟩ : tFo _ 26 0 [.ref q1, .ref q2, .ref q4, .int 0, .int 0, .int 0, .int 0, .int 0, .int 0, .int (-1), .int 100, .int 100, .int 1])) (tKo.all (⟨tKn_no rfl rfl rfl, tKn_no rfl rfl rfl, tKn_no rfl rfl rfl, tKn_no rfl rfl rfl, tKn_no rfl rfl rfl, tKn_no rfl rfl rfl, tKn_no rfl rfl rfl, tKn_no rfl rfl rfl, tKn_no rfl rfl rfl, tKn_no rfl rfl rfl, tKn_no rfl rfl rfl, tKn_no rfl rfl rfl, tKn_no rfl rfl rfl, trivial⟩ : tKo G 26 h 0 [.ref q1, .ref q2, .ref q4, .int 0, .int 0, .int 0, .int 0, .int 0, .int 0, .int (-1), .int 100, .int 100, .int 1])) (by omega) dX8_init_79
      · have ic := tn_nle kI_24 rfl hc
        exfalso; omega
    | succ n ih =>
      intro i x H1 locs ls τ1 V hni hxi hZ hC fq2 fq4 hAq1 hrq1 hV hl
      refine lv_iload_n hx hb dX8_init_53 rfl (lv_at hl 0 rfl) ?_
      refine lv_bipush (v := 24) hx hb dX8_init_54 (by decide) ?_
      refine lv_icmp_ge (tgt := 79) hx hb dX8_init_56 (by decide) (fun hc => ?_) (fun hc => ?_)
      · have ic := tn_le kI_24 rfl hc
        exfalso; omega
      · have ic := tn_nle kI_24 rfl hc
        refine lv_aload_n hx hb dX8_init_59 rfl (lv_at hl 1 rfl) ?_
        refine cg_get E hC ff_X8_11 (v := .ref q1) rfl dX8_init_60 ?_
        refine lv_iload_n hx hb dX8_init_63 rfl (lv_at hl 0 rfl) ?_
        have hltq1 := (Array.getElem?_eq_some_iff.mp hAq1).1
        refine cg_new E hC fc_X0 fv_X0 rfl (t_w1 34 rfl rfl) (t_w1 36 rfl rfl) (t_w1 3 rfl rfl) (by show 3 + 4 * i + 1 ≤ 99; omega) (by show 40 + 40 * i + 16 ≤ 1000; omega) dX8_init_64 (fun b7 H1 eq9 zz9 hC hOb7 hrb7 hnb7 hsb7 hqb7 ho => ?_)
        have hAq1 := (ho _ hltq1).trans hAq1
        have hdb7_q1 : q1 ≠ b7 := by omega
        have eb7 : b7 = sz + (3 + 4 * i) := by omega
        have hZ : H1.size = sz + (3 + 4 * i + 1) := by omega
        refine lv_dup hx hb dX8_init_67 rfl ?_
        refine lv_iload_n hx hb dX8_init_68 rfl (lv_at hl 0 rfl) ?_
        refine cg_back (b := b7) hC hrb7 hnb7 hsb7 (cg_runI (As := [.int x]) (rest := [.ref b7, .int x, .ref q1]) E hNs hC hOb7 hrb7 (k_X0_initc x (by omega) (by omega)) ck_X0_init rfl (t_w1 37 rfl rfl) ⟨rfl, rfl, Nat.le_of_ble_eq_true rfl, Nat.le_of_ble_eq_true rfl⟩ rfl hl.1 rfl (Nat.le_of_ble_eq_true rfl) ⟨(by show 3 + 4 * i + 1 + 3 ≤ 99; omega), (by show 40 + 40 * i + 16 + 24 ≤ 1000; omega)⟩ dX8_init_69) (fun τ8 H1 locs zz9 hb7 hup hzz hC ho => ?_)
        have g9 := (hup _ (by rw [fq2]; decide)).trans fq2
        have g10 := (hup _ (by rw [fq4]; decide)).trans fq4
        have hltq1 := (Array.getElem?_eq_some_iff.mp hAq1).1
        have hrq1 := hzz _ hdb7_q1 hltq1 hrq1
        have hAq1 := (ho _ hltq1 hdb7_q1).trans hAq1
        have hZ : H1.size = sz + (3 + 4 * i + 1 + 3) := by omega
        refine cg_aast (C := "LaidOutBoxes$Box") (t9 := 31) E hC hAq1 hrq1 hnq1 hsq1 rfl hb7 rv_Boxc (t_in (by omega) (by omega)) dX8_init_72 (fun H1 locs hC hAq1 ho zz9 => ?_)
        obtain ⟨y, ey⟩ : ∃ y : Int32, y = x + (1) := ⟨_, rfl⟩
        refine lv_iinc (v := y) (lv' := [(1, .int y), (0, .ref h)]) hx hb dX8_init_73 hl (k := 0) rfl (by rw [ey]; rfl) (by decide) rfl (fun ls hl => ?_)
        have ty := tn_add ey rfl kI_1 (by omega) (by omega)
        refine lv_goto (tgt := 53) hx hb dX8_init_76 (by decide) ?_
        rw [show 3 + 4 * i + 1 + 3 = 3 + 4 * (i + 1) by omega, show 40 + 40 * i + 16 + 24 = 40 + 40 * (i + 1) by omega]
        have hxn : x.toNatClampNeg = i := t_nat hxi
        rw [hxn] at hAq1
        refine ih (i + 1) y _ _ ls _ _ (by omega) (by omega) (by omega) hC g9 g10 hAq1 hrq1 (fun j hj => ?_) hl
        by_cases ej : j = i
        · subst ej; refine ⟨?_, ?_⟩; (rw [← eb7]; simp [updV]); (rw [← eb7]; exact hb7)
        · obtain ⟨e1, e2⟩ := hV j (by omega); exact ⟨by simp [updV, ej, e1], (hup _ (by rw [e2]; decide)).trans e2⟩
  exact J 24 0 0 _ _ ls _ _ rfl rfl (by omega) hC g6 hq4 hAq1 hrq1 (fun j hj => absurd hj (Nat.not_lt_zero _)) hl
theorem k_X8_initm {l : Launch} {G : tG} {τ : Nat → Nat} {h sz : Nat} (hs9 : sz = h + 1) (hw : WRG G h) : Met l yX8_init (.code yX8_init cX8_init 2 none :: tWS) { frames := 3, cells := 99, slots := 1000, locals := 70 } (va_Pc (.ref h :: []) (tCP G τ h sz 7 fsX8)) (tCQ G τ h sz 30 99) 99 1000 (tCA h sz) := by
  refine cg_met rfl rfl (Nat.le_of_ble_eq_true rfl) ?_
  intro p e s m below meth c E hNs hin hr hlk hsz hC ls hl
  have hx := E.1
  have hb := E.2.1
  generalize hH : s.heap = H at hC ⊢
  have hZ : H.size = sz + 0 := by rw [← hH]; exact hsz
  generalize hL : ([] : List Loc) = locs at hC ⊢
  refine lv_aload_n hx hb dX8_init_0 rfl (lv_at hl 0 rfl) ?_
  refine cg_obj E hl.1 (t_w1 33 rfl rfl) ko_1 ko_2 ⟨Nat.le_of_ble_eq_true rfl, Nat.le_of_ble_eq_true rfl⟩ dX8_init_1 ?_
  refine lv_aload_n hx hb dX8_init_4 rfl (lv_at hl 0 rfl) ?_
  refine lv_bipush (v := 24) hx hb dX8_init_5 (by decide) ?_
  refine cg_anew (C := "LaidOutBoxes$Box") (N := 24) E hNs.2.1 hC (ak := 3) rfl (t_w1 34 rfl rfl) (by decide) (by decide) (by decide) (Nat.le_of_ble_eq_true rfl) (Nat.le_of_ble_eq_true rfl) dX8_init_7 (fun q1 H1 eq9 zz9 hC hAq1 hrq1 hnq1 hsq1 ho => ?_)
  have eq1 : q1 = sz + (0) := by omega
  have hZ : H1.size = sz + (1) := by omega
  refine cg_putF E hin hC fz_X8_11 rfl rfl dX8_init_10 (fun H1 locs hC ho hzs => ?_)
  have hAq1 := (ho _ hnq1).trans hAq1
  have hZ : H1.size = sz + (1) := by omega
  refine lv_aload_n hx hb dX8_init_13 rfl (lv_at hl 0 rfl) ?_
  refine lv_bipush (v := 8) hx hb dX8_init_14 (by decide) ?_
  refine cg_newi E hC ta_36 (by decide) ⟨by decide, by decide⟩ (fun i _ => tKn_q rfl rfl) (fun _ => ⟨0, rfl, by decide, by decide⟩) (by decide) (by decide) (by decide) (Nat.le_of_ble_eq_true rfl) (Nat.le_of_ble_eq_true rfl) dX8_init_16 (fun q2 H1 τ3 eq9 zz9 hC hq2 hup hzz ho => ?_)
  have eq2 : q2 = sz + (1) := by omega
  have hZ : H1.size = sz + (2) := by omega
  have hrq1 := hzz _ (Array.getElem?_eq_some_iff.mp hAq1).1 hrq1
  have hAq1 := (ho _ (Array.getElem?_eq_some_iff.mp hAq1).1).trans hAq1
  clear hup hzz ho
  skip
  refine cg_putF E hin hC fz_X8_17 rfl rfl dX8_init_18 (fun H1 locs hC ho hzs => ?_)
  have hAq1 := (ho _ hnq1).trans hAq1
  have hZ : H1.size = sz + (2) := by omega
  refine lv_aload_n hx hb dX8_init_21 rfl (lv_at hl 0 rfl) ?_
  refine lv_bipush (v := 8) hx hb dX8_init_22 (by decide) ?_
  refine cg_newi E hC ta_13 (by decide) ⟨by decide, by decide⟩ (fun i _ => tKn_q rfl rfl) (fun _ => ⟨0, rfl, by decide, by decide⟩) (by decide) (by decide) (by decide) (Nat.le_of_ble_eq_true rfl) (Nat.le_of_ble_eq_true rfl) dX8_init_24 (fun q4 H1 τ5 eq9 zz9 hC hq4 hup hzz ho => ?_)
  have eq4 : q4 = sz + (2) := by omega
  have hZ : H1.size = sz + (3) := by omega
  have g6 := (hup _ (by rw [hq2]; decide)).trans hq2
  have hrq1 := hzz _ (Array.getElem?_eq_some_iff.mp hAq1).1 hrq1
  have hAq1 := (ho _ (Array.getElem?_eq_some_iff.mp hAq1).1).trans hAq1
  clear hup hzz ho
  skip
  refine cg_putF E hin hC fz_X8_21 rfl rfl dX8_init_26 (fun H1 locs hC ho hzs => ?_)
  have hAq1 := (ho _ hnq1).trans hAq1
  have hZ : H1.size = sz + (3) := by omega
  refine lv_aload_n hx hb dX8_init_29 rfl (lv_at hl 0 rfl) ?_
  refine lv_iconst (v := -1) hx hb dX8_init_30 (by decide) ?_
  refine cg_put E hC fq_X8_24 rfl rfl dX8_init_31 (fun H1 locs hC ho hzs => ?_)
  have hAq1 := (ho _ hnq1).trans hAq1
  have hZ : H1.size = sz + (3) := by omega
  refine lv_aload_n hx hb dX8_init_34 rfl (lv_at hl 0 rfl) ?_
  refine lv_bipush (v := 100) hx hb dX8_init_35 (by decide) ?_
  refine cg_put E hC fq_X8_28 rfl rfl dX8_init_37 (fun H1 locs hC ho hzs => ?_)
  have hAq1 := (ho _ hnq1).trans hAq1
  have hZ : H1.size = sz + (3) := by omega
  refine lv_aload_n hx hb dX8_init_40 rfl (lv_at hl 0 rfl) ?_
  refine lv_bipush (v := 100) hx hb dX8_init_41 (by decide) ?_
  refine cg_put E hC fq_X8_31 rfl rfl dX8_init_43 (fun H1 locs hC ho hzs => ?_)
  have hAq1 := (ho _ hnq1).trans hAq1
  have hZ : H1.size = sz + (3) := by omega
  refine lv_aload_n hx hb dX8_init_46 rfl (lv_at hl 0 rfl) ?_
  refine lv_iconst (v := 1) hx hb dX8_init_47 (by decide) ?_
  refine cg_put E hC fq_X8_34 rfl rfl dX8_init_48 (fun H1 locs hC ho hzs => ?_)
  have hAq1 := (ho _ hnq1).trans hAq1
  have hZ : H1.size = sz + (3) := by omega
  refine lv_iconst (v := 0) hx hb dX8_init_51 (by decide) ?_
  refine lv_istore_n (lv' := [(1, .int 0), (0, .ref h)]) hx hb dX8_init_52 rfl hl (by decide) rfl (fun ls hl => ?_)
  have J : ∀ (n i : Nat) (x : Int32) (H : Heap) (locs : List Loc) (ls : Array Slot) (τ1 : Nat → Nat) (V : Nat → Value), n + i = 24 → x.toInt = i → H.size = sz + (3 + 4 * i) → tCG G τ τ1 s h 7 [.ref q1, .ref q2, .ref q4, .int 0, .int 0, .int 0, .int 0, .int 0, .int 0, .int (-1), .int 100, .int 100, .int 1] H locs → τ1 q2 = 36 → τ1 q4 = 13 → H[q1]? = some (arrV (G.2.1 3) 24 V) → τ1 q1 = 0 → (∀ j, j < i → V j = .ref (sz + (3 + 4 * j)) ∧ τ1 (sz + (3 + 4 * j)) = 37) → lv_has ls 2 [(1, .int x), (0, .ref h)] → W p l e { frames := 3, cells := 99, slots := 1000, locals := 70 } s m ((.ref h :: [] : List Value).toArray) below meth c H locs (3 + 4 * i) (40 + 40 * i) (MQ below (tCQ G τ h sz 30 99) ((.ref h :: [] : List Value).toArray) s 99 1000 (tCA h sz)) (F0 m 53 ls []) := by
    intro n
    induction n with
    | zero =>
      intro i x H1 locs ls τ1 V hni hxi hZ hC fq2 fq4 hAq1 hrq1 hV hl
      refine lv_iload_n hx hb dX8_init_53 rfl (lv_at hl 0 rfl) ?_
      refine lv_bipush (v := 24) hx hb dX8_init_54 (by decide) ?_
      refine lv_icmp_ge (tgt := 79) hx hb dX8_init_56 (by decide) (fun hc => ?_) (fun hc => ?_)
      · have ic := tn_le kI_24 rfl hc
        have ei : i = 24 := by omega
        subst ei
        have hC := hC.type (c9 := 40) hrq1 hnq1 hsq1 (Array.getElem?_eq_some_iff.mp hAq1).1 (by decide) ⟨by decide, fun z => absurd z (by decide)⟩ ⟨_, hAq1, fun j hj => by obtain ⟨e1, e2⟩ := hV j hj; rw [e1]; exact ⟨⟨_, rfl, (tUp_ne (fun z => by rw [z, hrq1] at e2; cases e2)).trans e2⟩, tKn_r (d := 3 + 4 * j) rfl rfl rfl (vr_e (by omega))⟩⟩
        have fq2 : tUp τ1 q1 40 q2 = 36 := (tUp_ne (fun z => by rw [z, hrq1] at fq2; cases fq2)).trans fq2
        have fq4 : tUp τ1 q1 40 q4 = 13 := (tUp_ne (fun z => by rw [z, hrq1] at fq4; cases fq4)).trans fq4
        exact cg_ret hr hlk E hC hsz (by decide) (by decide) ⟨by decide, fun z => absurd z (by decide)⟩ rfl (tFo.all (⟨⟨_, rfl, tUp_at⟩, ⟨_, rfl, fq2⟩, ⟨_, rfl, fq4⟩, ⟨_, rfl, by decide, by decide⟩, ⟨_, rfl, by decide, by decide⟩, ⟨_, rfl, by decide, by decide⟩, ⟨_, rfl, by decide, by decide⟩, ⟨_, rfl, by decide, by decide⟩, ⟨_, rfl, by decide, by decide⟩, ⟨_, rfl, by decide, by decide⟩, ⟨_, rfl, by decide, by decide⟩, ⟨_, rfl, by decide, by decide⟩, ⟨_, rfl, by decide, by decide⟩, trivial⟩ : tFo _ 30 0 [.ref q1, .ref q2, .ref q4, .int 0, .int 0, .int 0, .int 0, .int 0, .int 0, .int (-1), .int 100, .int 100, .int 1])) (tKo.all (⟨tKn_r (d := 1) rfl rfl rfl (vr_e (by omega)), tKn_no rfl rfl rfl, tKn_no rfl rfl rfl, tKn_i rfl rfl (by rw [hw.1.1]), tKn_i rfl rfl (by rw [hw.1.2.1]), tKn_no rfl rfl rfl, tKn_no rfl rfl rfl, tKn_no rfl rfl rfl, tKn_i rfl rfl (by rw [hw.1.2.2.1]), tKn_i rfl rfl (by rw [hw.1.2.2.2]), tKn_no rfl rfl rfl, tKn_no rfl rfl rfl, tKn_no rfl rfl rfl, trivial⟩ : tKo G 30 h 0 [.ref q1, .ref q2, .ref q4, .int 0, .int 0, .int 0, .int 0, .int 0, .int 0, .int (-1), .int 100, .int 100, .int 1])) (by omega) dX8_init_79
      · have ic := tn_nle kI_24 rfl hc
        exfalso; omega
    | succ n ih =>
      intro i x H1 locs ls τ1 V hni hxi hZ hC fq2 fq4 hAq1 hrq1 hV hl
      refine lv_iload_n hx hb dX8_init_53 rfl (lv_at hl 0 rfl) ?_
      refine lv_bipush (v := 24) hx hb dX8_init_54 (by decide) ?_
      refine lv_icmp_ge (tgt := 79) hx hb dX8_init_56 (by decide) (fun hc => ?_) (fun hc => ?_)
      · have ic := tn_le kI_24 rfl hc
        exfalso; omega
      · have ic := tn_nle kI_24 rfl hc
        refine lv_aload_n hx hb dX8_init_59 rfl (lv_at hl 1 rfl) ?_
        refine cg_get E hC ff_X8_11 (v := .ref q1) rfl dX8_init_60 ?_
        refine lv_iload_n hx hb dX8_init_63 rfl (lv_at hl 0 rfl) ?_
        have hltq1 := (Array.getElem?_eq_some_iff.mp hAq1).1
        refine cg_new E hC fc_X0 fv_X0 rfl (t_w1 34 rfl rfl) (t_w1 36 rfl rfl) (t_w1 3 rfl rfl) (by show 3 + 4 * i + 1 ≤ 99; omega) (by show 40 + 40 * i + 16 ≤ 1000; omega) dX8_init_64 (fun b7 H1 eq9 zz9 hC hOb7 hrb7 hnb7 hsb7 hqb7 ho => ?_)
        have hAq1 := (ho _ hltq1).trans hAq1
        have hdb7_q1 : q1 ≠ b7 := by omega
        have eb7 : b7 = sz + (3 + 4 * i) := by omega
        have hZ : H1.size = sz + (3 + 4 * i + 1) := by omega
        refine lv_dup hx hb dX8_init_67 rfl ?_
        refine lv_iload_n hx hb dX8_init_68 rfl (lv_at hl 0 rfl) ?_
        refine cg_back (b := b7) hC hrb7 hnb7 hsb7 (cg_runI (As := [.int x]) (rest := [.ref b7, .int x, .ref q1]) E hNs hC hOb7 hrb7 (k_X0_initm x (by omega) (by omega) (by omega) (ffe ((hw.2 i (by omega)).1.trans (i_of hxi (by omega)).symm) (by omega)) (fun k hk => ffe ((hw.2 i (by omega)).2.1 k hk) (by omega)) (fun k => ffe ((hw.2 i (by omega)).2.2.1 k) (by omega)) (fun k => ffe ((hw.2 i (by omega)).2.2.2 k) (by omega))) ck_X0_init rfl (t_w1 37 rfl rfl) ⟨rfl, rfl, Nat.le_of_ble_eq_true rfl, Nat.le_of_ble_eq_true rfl⟩ rfl hl.1 rfl (Nat.le_of_ble_eq_true rfl) ⟨(by show 3 + 4 * i + 1 + 3 ≤ 99; omega), (by show 40 + 40 * i + 16 + 24 ≤ 1000; omega)⟩ dX8_init_69) (fun τ8 H1 locs zz9 hb7 hup hzz hC ho => ?_)
        have g9 := (hup _ (by rw [fq2]; decide)).trans fq2
        have g10 := (hup _ (by rw [fq4]; decide)).trans fq4
        have hltq1 := (Array.getElem?_eq_some_iff.mp hAq1).1
        have hrq1 := hzz _ hdb7_q1 hltq1 hrq1
        have hAq1 := (ho _ hltq1 hdb7_q1).trans hAq1
        have hZ : H1.size = sz + (3 + 4 * i + 1 + 3) := by omega
        refine cg_aast (C := "LaidOutBoxes$Box") (t9 := 37) E hC hAq1 hrq1 hnq1 hsq1 rfl hb7 rv_Boxm (t_in (by omega) (by omega)) dX8_init_72 (fun H1 locs hC hAq1 ho zz9 => ?_)
        obtain ⟨y, ey⟩ : ∃ y : Int32, y = x + (1) := ⟨_, rfl⟩
        refine lv_iinc (v := y) (lv' := [(1, .int y), (0, .ref h)]) hx hb dX8_init_73 hl (k := 0) rfl (by rw [ey]; rfl) (by decide) rfl (fun ls hl => ?_)
        have ty := tn_add ey rfl kI_1 (by omega) (by omega)
        refine lv_goto (tgt := 53) hx hb dX8_init_76 (by decide) ?_
        rw [show 3 + 4 * i + 1 + 3 = 3 + 4 * (i + 1) by omega, show 40 + 40 * i + 16 + 24 = 40 + 40 * (i + 1) by omega]
        have hxn : x.toNatClampNeg = i := t_nat hxi
        rw [hxn] at hAq1
        refine ih (i + 1) y _ _ ls _ _ (by omega) (by omega) (by omega) hC g9 g10 hAq1 hrq1 (fun j hj => ?_) hl
        by_cases ej : j = i
        · subst ej; refine ⟨?_, ?_⟩; (rw [← eb7]; simp [updV]); (rw [← eb7]; exact hb7)
        · obtain ⟨e1, e2⟩ := hV j (by omega); exact ⟨by simp [updV, ej, e1], (hup _ (by rw [e2]; decide)).trans e2⟩
  exact J 24 0 0 _ _ ls _ _ rfl rfl (by omega) hC g6 hq4 hAq1 hrq1 (fun j hj => absurd hj (Nat.not_lt_zero _)) hl
theorem k_X7_init {l : Launch} {G : tG} {τ : Nat → Nat} {h sz : Nat} (x1 : Nat) (e1 : τ x1 = 2) : Met l yX7_init (.code yX7_init cX7_init 2 none :: tWS) { frames := 4, cells := 203, slots := 2044, locals := 100 } (va_Pc (.ref h :: [.ref x1]) (tCP G τ h sz 6 fsX7)) (tCQ G τ h sz 6 203) 203 2044 (tCA h sz) := by
  refine cg_met rfl rfl (Nat.le_of_ble_eq_true rfl) ?_
  intro p e s m below meth c E hNs hin hr hlk hsz hC ls hl
  have hx := E.1
  have hb := E.2.1
  generalize hH : s.heap = H at hC ⊢
  have hZ : H.size = sz + 0 := by rw [← hH]; exact hsz
  generalize hL : ([] : List Loc) = locs at hC ⊢
  refine lv_aload_n hx hb dX7_init_0 rfl (lv_at hl 0 rfl) ?_
  refine cg_obj E hl.1 (t_w2 65 rfl rfl) ko_1 ko_2 ⟨Nat.le_of_ble_eq_true rfl, Nat.le_of_ble_eq_true rfl⟩ dX7_init_1 ?_
  refine lv_aload_n hx hb dX7_init_4 rfl (lv_at hl 0 rfl) ?_
  refine cg_new E hC fc_X8 fv_X8 rfl (t_w2 66 rfl rfl) (t_w1 29 rfl rfl) (t_w1 2 rfl rfl) (Nat.le_of_ble_eq_true rfl) (Nat.le_of_ble_eq_true rfl) dX7_init_5 (fun b1 H1 eq9 zz9 hC hOb1 hrb1 hnb1 hsb1 hqb1 ho => ?_)
  have eb1 : b1 = sz + (0) := by omega
  have hZ : H1.size = sz + (1) := by omega
  refine lv_dup hx hb dX7_init_8 rfl ?_
  refine cg_back (b := b1) hC hrb1 hnb1 hsb1 (cg_runI (As := []) (rest := [.ref b1, .ref h]) E hNs hC hOb1 hrb1 (k_X8_initc) ck_X8_init rfl (t_w2 67 rfl rfl) ⟨rfl, rfl, Nat.le_of_ble_eq_true rfl, Nat.le_of_ble_eq_true rfl⟩ rfl hl.1 rfl (Nat.le_of_ble_eq_true rfl) ⟨(Nat.le_of_ble_eq_true rfl), (Nat.le_of_ble_eq_true rfl)⟩ dX7_init_9) (fun τ2 H1 locs zz9 hb1 hup hzz hC ho => ?_)
  have g3 := (hup _ (by rw [e1]; decide)).trans e1
  have hZ : H1.size = sz + (100) := by omega
  refine cg_putF E hin hC fz_X7_12 rfl rfl dX7_init_12 (fun H1 locs hC ho hzs => ?_)
  have hZ : H1.size = sz + (100) := by omega
  refine lv_aload_n hx hb dX7_init_15 rfl (lv_at hl 0 rfl) ?_
  refine cg_new E hC fc_X8 fv_X8 rfl (t_w2 66 rfl rfl) (t_w1 29 rfl rfl) (t_w1 2 rfl rfl) (Nat.le_of_ble_eq_true rfl) (Nat.le_of_ble_eq_true rfl) dX7_init_16 (fun b4 H1 eq9 zz9 hC hOb4 hrb4 hnb4 hsb4 hqb4 ho => ?_)
  have eb4 : b4 = sz + (100) := by omega
  have hZ : H1.size = sz + (101) := by omega
  refine lv_dup hx hb dX7_init_19 rfl ?_
  refine cg_back (b := b4) hC hrb4 hnb4 hsb4 (cg_runI (As := []) (rest := [.ref b4, .ref h]) E hNs hC hOb4 hrb4 (k_X8_initc) ck_X8_init rfl (t_w2 67 rfl rfl) ⟨rfl, rfl, Nat.le_of_ble_eq_true rfl, Nat.le_of_ble_eq_true rfl⟩ rfl hl.1 rfl (Nat.le_of_ble_eq_true rfl) ⟨(Nat.le_of_ble_eq_true rfl), (Nat.le_of_ble_eq_true rfl)⟩ dX7_init_20) (fun τ5 H1 locs zz9 hb4 hup hzz hC ho => ?_)
  have g6 := (hup _ (by rw [g3]; decide)).trans g3
  have g7 := (hup _ (by rw [hb1]; decide)).trans hb1
  have hZ : H1.size = sz + (200) := by omega
  refine cg_putF E hin hC fz_X7_18 rfl rfl dX7_init_23 (fun H1 locs hC ho hzs => ?_)
  have hZ : H1.size = sz + (200) := by omega
  refine lv_aload_n hx hb dX7_init_26 rfl (lv_at hl 0 rfl) ?_
  refine cg_new E hC fc_X3 fv_X3 rfl (t_w2 68 rfl rfl) (t_w2 29 rfl rfl) (t_w1 5 rfl rfl) (Nat.le_of_ble_eq_true rfl) (Nat.le_of_ble_eq_true rfl) dX7_init_27 (fun b8 H1 eq9 zz9 hC hOb8 hrb8 hnb8 hsb8 hqb8 ho => ?_)
  have eb8 : b8 = sz + (200) := by omega
  have hZ : H1.size = sz + (201) := by omega
  refine lv_dup hx hb dX7_init_30 rfl ?_
  refine lv_aload_n hx hb dX7_init_31 rfl (lv_at hl 0 rfl) ?_
  refine cg_get E hC ff_X7_12 (v := .ref b1) rfl dX7_init_32 ?_
  refine cg_back (b := b8) hC hrb8 hnb8 hsb8 (cg_runI (As := [.ref b1]) (rest := [.ref b8, .ref h]) E hNs hC hOb8 hrb8 (k_X3_initc _ g7) ck_X3_init rfl (t_w2 69 rfl rfl) ⟨rfl, rfl, Nat.le_of_ble_eq_true rfl, Nat.le_of_ble_eq_true rfl⟩ rfl hl.1 rfl (Nat.le_of_ble_eq_true rfl) ⟨(Nat.le_of_ble_eq_true rfl), (Nat.le_of_ble_eq_true rfl)⟩ dX7_init_35) (fun τ9 H1 locs zz9 hb8 hup hzz hC ho => ?_)
  have g10 := (hup _ (by rw [g6]; decide)).trans g6
  have g11 := (hup _ (by rw [g7]; decide)).trans g7
  have g12 := (hup _ (by rw [hb4]; decide)).trans hb4
  have hZ : H1.size = sz + (201) := by omega
  refine cg_putF E hin hC fz_X7_26 rfl rfl dX7_init_38 (fun H1 locs hC ho hzs => ?_)
  have hZ : H1.size = sz + (201) := by omega
  refine lv_aload_n hx hb dX7_init_41 rfl (lv_at hl 0 rfl) ?_
  refine cg_new E hC fc_X3 fv_X3 rfl (t_w2 68 rfl rfl) (t_w2 29 rfl rfl) (t_w1 5 rfl rfl) (Nat.le_of_ble_eq_true rfl) (Nat.le_of_ble_eq_true rfl) dX7_init_42 (fun b13 H1 eq9 zz9 hC hOb13 hrb13 hnb13 hsb13 hqb13 ho => ?_)
  have eb13 : b13 = sz + (201) := by omega
  have hZ : H1.size = sz + (202) := by omega
  refine lv_dup hx hb dX7_init_45 rfl ?_
  refine lv_aload_n hx hb dX7_init_46 rfl (lv_at hl 0 rfl) ?_
  refine cg_get E hC ff_X7_18 (v := .ref b4) rfl dX7_init_47 ?_
  refine cg_back (b := b13) hC hrb13 hnb13 hsb13 (cg_runI (As := [.ref b4]) (rest := [.ref b13, .ref h]) E hNs hC hOb13 hrb13 (k_X3_initc _ g12) ck_X3_init rfl (t_w2 69 rfl rfl) ⟨rfl, rfl, Nat.le_of_ble_eq_true rfl, Nat.le_of_ble_eq_true rfl⟩ rfl hl.1 rfl (Nat.le_of_ble_eq_true rfl) ⟨(Nat.le_of_ble_eq_true rfl), (Nat.le_of_ble_eq_true rfl)⟩ dX7_init_50) (fun τ14 H1 locs zz9 hb13 hup hzz hC ho => ?_)
  have g15 := (hup _ (by rw [g10]; decide)).trans g10
  have g16 := (hup _ (by rw [g11]; decide)).trans g11
  have g17 := (hup _ (by rw [g12]; decide)).trans g12
  have g18 := (hup _ (by rw [hb8]; decide)).trans hb8
  have hZ : H1.size = sz + (202) := by omega
  refine cg_putF E hin hC fz_X7_30 rfl rfl dX7_init_53 (fun H1 locs hC ho hzs => ?_)
  have hZ : H1.size = sz + (202) := by omega
  refine lv_aload_n hx hb dX7_init_56 rfl (lv_at hl 0 rfl) ?_
  refine lv_bipush (v := 6) hx hb dX7_init_57 (by decide) ?_
  refine cg_newi E hC ta_14 (by decide) ⟨by decide, by decide⟩ (fun i _ => tKn_q rfl rfl) (fun _ => ⟨0, rfl, by decide, by decide⟩) (by decide) (by decide) (by decide) (Nat.le_of_ble_eq_true rfl) (Nat.le_of_ble_eq_true rfl) dX7_init_59 (fun q19 H1 τ20 eq9 zz9 hC hq19 hup hzz ho => ?_)
  have eq19 : q19 = sz + (202) := by omega
  have hZ : H1.size = sz + (203) := by omega
  have g21 := (hup _ (by rw [g15]; decide)).trans g15
  have g22 := (hup _ (by rw [g16]; decide)).trans g16
  have g23 := (hup _ (by rw [g17]; decide)).trans g17
  have g24 := (hup _ (by rw [g18]; decide)).trans g18
  have g25 := (hup _ (by rw [hb13]; decide)).trans hb13
  clear hup hzz ho
  skip
  refine cg_putF E hin hC fz_X7_33 rfl rfl dX7_init_61 (fun H1 locs hC ho hzs => ?_)
  have hZ : H1.size = sz + (203) := by omega
  refine lv_aload_n hx hb dX7_init_64 rfl (lv_at hl 0 rfl) ?_
  refine lv_aload_n hx hb dX7_init_65 rfl (lv_at hl 1 rfl) ?_
  refine cg_putF E hin hC fz_X7_37 rfl rfl dX7_init_66 (fun H1 locs hC ho hzs => ?_)
  have hZ : H1.size = sz + (203) := by omega
  exact cg_ret hr hlk E hC hsz (by decide) (by decide) ⟨by decide, fun z => absurd z (by decide)⟩ rfl (tFo.all (⟨⟨_, rfl, g21⟩, ⟨_, rfl, g22⟩, ⟨_, rfl, g23⟩, ⟨_, rfl, g24⟩, ⟨_, rfl, g25⟩, ⟨_, rfl, hq19⟩, ⟨_, rfl, by decide, by decide⟩, trivial⟩ : tFo _ 6 0 [.ref x1, .ref b1, .ref b4, .ref b8, .ref b13, .ref q19, .int 0])) (tKo.all (⟨tKn_no rfl rfl rfl, tKn_no rfl rfl rfl, tKn_no rfl rfl rfl, tKn_no rfl rfl rfl, tKn_no rfl rfl rfl, tKn_no rfl rfl rfl, tKn_no rfl rfl rfl, trivial⟩ : tKo G 6 h 0 [.ref x1, .ref b1, .ref b4, .ref b8, .ref b13, .ref q19, .int 0])) (by omega) dX7_init_69
theorem k_X9_init {l : Launch} {G : tG} {τ : Nat → Nat} {h sz : Nat} (hs9 : sz = h + 1) (hP : PRG G h) : Met l yX9_init (.code yX9_init cX9_init 2 none :: tWS) { frames := 5, cells := 447, slots := 5649, locals := 130 } (va_Pc (.ref h :: []) (tCP G τ h sz 8 fsX9)) (tCQ G τ h sz 1 447) 447 5649 (tCA h sz) := by
  refine cg_met rfl rfl (Nat.le_of_ble_eq_true rfl) ?_
  intro p e s m below meth c E hNs hin hr hlk hsz hC ls hl
  have hx := E.1
  have hb := E.2.1
  generalize hH : s.heap = H at hC ⊢
  have hZ : H.size = sz + 0 := by rw [← hH]; exact hsz
  obtain ⟨⟨p8, p9, p10, p11, p14, p16⟩, -⟩ := id hP
  generalize hL : ([] : List Loc) = locs at hC ⊢
  refine lv_aload_n hx hb dX9_init_0 rfl (lv_at hl 0 rfl) ?_
  refine cg_obj E hl.1 (t_w1 25 rfl rfl) ko_1 ko_2 ⟨Nat.le_of_ble_eq_true rfl, Nat.le_of_ble_eq_true rfl⟩ dX9_init_1 ?_
  refine lv_aload_n hx hb dX9_init_4 rfl (lv_at hl 0 rfl) ?_
  refine cg_new E hC fc_X8 fv_X8 rfl (t_w1 28 rfl rfl) (t_w1 29 rfl rfl) (t_w1 2 rfl rfl) (Nat.le_of_ble_eq_true rfl) (Nat.le_of_ble_eq_true rfl) dX9_init_5 (fun b1 H1 eq9 zz9 hC hOb1 hrb1 hnb1 hsb1 hqb1 ho => ?_)
  have eb1 : b1 = sz + (0) := by omega
  have hZ : H1.size = sz + (1) := by omega
  refine lv_dup hx hb dX9_init_8 rfl ?_
  refine cg_back (b := b1) hC hrb1 hnb1 hsb1 (cg_runI (As := []) (rest := [.ref b1, .ref h]) E hNs hC hOb1 hrb1 (k_X8_init (by omega) (hP.w (by omega))) ck_X8_init rfl (t_w1 30 rfl rfl) ⟨rfl, rfl, Nat.le_of_ble_eq_true rfl, Nat.le_of_ble_eq_true rfl⟩ rfl hl.1 rfl (Nat.le_of_ble_eq_true rfl) ⟨(Nat.le_of_ble_eq_true rfl), (Nat.le_of_ble_eq_true rfl)⟩ dX9_init_9) (fun τ2 H1 locs zz9 hb1 hup hzz hC ho => ?_)
  have hZ : H1.size = sz + (100) := by omega
  refine cg_putF E hin hC fz_X9_12 rfl rfl dX9_init_12 (fun H1 locs hC ho hzs => ?_)
  have hZ : H1.size = sz + (100) := by omega
  refine lv_aload_n hx hb dX9_init_15 rfl (lv_at hl 0 rfl) ?_
  refine cg_new E hC fc_X8 fv_X8 rfl (t_w1 28 rfl rfl) (t_w1 29 rfl rfl) (t_w1 2 rfl rfl) (Nat.le_of_ble_eq_true rfl) (Nat.le_of_ble_eq_true rfl) dX9_init_16 (fun b3 H1 eq9 zz9 hC hOb3 hrb3 hnb3 hsb3 hqb3 ho => ?_)
  have eb3 : b3 = sz + (100) := by omega
  have hZ : H1.size = sz + (101) := by omega
  refine lv_dup hx hb dX9_init_19 rfl ?_
  refine cg_back (b := b3) hC hrb3 hnb3 hsb3 (cg_runI (As := []) (rest := [.ref b3, .ref h]) E hNs hC hOb3 hrb3 (k_X8_initm (by omega) (hP.w (by omega))) ck_X8_init rfl (t_w1 30 rfl rfl) ⟨rfl, rfl, Nat.le_of_ble_eq_true rfl, Nat.le_of_ble_eq_true rfl⟩ rfl hl.1 rfl (Nat.le_of_ble_eq_true rfl) ⟨(Nat.le_of_ble_eq_true rfl), (Nat.le_of_ble_eq_true rfl)⟩ dX9_init_20) (fun τ4 H1 locs zz9 hb3 hup hzz hC ho => ?_)
  have g5 := (hup _ (by rw [hb1]; decide)).trans hb1
  have hZ : H1.size = sz + (200) := by omega
  refine cg_putF E hin hC fz_X9_18 rfl rfl dX9_init_23 (fun H1 locs hC ho hzs => ?_)
  have hZ : H1.size = sz + (200) := by omega
  refine lv_aload_n hx hb dX9_init_26 rfl (lv_at hl 0 rfl) ?_
  refine cg_new E hC fc_X3 fv_X3 rfl (t_w2 28 rfl rfl) (t_w2 29 rfl rfl) (t_w1 5 rfl rfl) (Nat.le_of_ble_eq_true rfl) (Nat.le_of_ble_eq_true rfl) dX9_init_27 (fun b6 H1 eq9 zz9 hC hOb6 hrb6 hnb6 hsb6 hqb6 ho => ?_)
  have eb6 : b6 = sz + (200) := by omega
  have hZ : H1.size = sz + (201) := by omega
  refine lv_dup hx hb dX9_init_30 rfl ?_
  refine lv_aload_n hx hb dX9_init_31 rfl (lv_at hl 0 rfl) ?_
  refine cg_get E hC ff_X9_12 (v := .ref b1) rfl dX9_init_32 ?_
  refine cg_back (b := b6) hC hrb6 hnb6 hsb6 (cg_runI (As := [.ref b1]) (rest := [.ref b6, .ref h]) E hNs hC hOb6 hrb6 (k_X3_init _ g5) ck_X3_init rfl (t_w2 30 rfl rfl) ⟨rfl, rfl, Nat.le_of_ble_eq_true rfl, Nat.le_of_ble_eq_true rfl⟩ rfl hl.1 rfl (Nat.le_of_ble_eq_true rfl) ⟨(Nat.le_of_ble_eq_true rfl), (Nat.le_of_ble_eq_true rfl)⟩ dX9_init_35) (fun τ7 H1 locs zz9 hb6 hup hzz hC ho => ?_)
  have g8 := (hup _ (by rw [g5]; decide)).trans g5
  have g9 := (hup _ (by rw [hb3]; decide)).trans hb3
  have hZ : H1.size = sz + (201) := by omega
  refine cg_putF E hin hC fz_X9_26 rfl rfl dX9_init_38 (fun H1 locs hC ho hzs => ?_)
  have hZ : H1.size = sz + (201) := by omega
  refine lv_aload_n hx hb dX9_init_41 rfl (lv_at hl 0 rfl) ?_
  refine cg_new E hC fc_X7 fv_X7 rfl (t_w2 60 rfl rfl) (t_w2 61 rfl rfl) (t_w1 6 rfl rfl) (Nat.le_of_ble_eq_true rfl) (Nat.le_of_ble_eq_true rfl) dX9_init_42 (fun b10 H1 eq9 zz9 hC hOb10 hrb10 hnb10 hsb10 hqb10 ho => ?_)
  have eb10 : b10 = sz + (201) := by omega
  have hZ : H1.size = sz + (202) := by omega
  refine lv_dup hx hb dX9_init_45 rfl ?_
  refine lv_aload_n hx hb dX9_init_46 rfl (lv_at hl 0 rfl) ?_
  refine cg_get E hC ff_X9_12 (v := .ref b1) rfl dX9_init_47 ?_
  refine cg_back (b := b10) hC hrb10 hnb10 hsb10 (cg_runI (As := [.ref b1]) (rest := [.ref b10, .ref h]) E hNs hC hOb10 hrb10 (k_X7_init _ g8) ck_X7_init rfl (t_w2 62 rfl rfl) ⟨rfl, rfl, Nat.le_of_ble_eq_true rfl, Nat.le_of_ble_eq_true rfl⟩ rfl hl.1 rfl (Nat.le_of_ble_eq_true rfl) ⟨(Nat.le_of_ble_eq_true rfl), (Nat.le_of_ble_eq_true rfl)⟩ dX9_init_50) (fun τ11 H1 locs zz9 hb10 hup hzz hC ho => ?_)
  have g12 := (hup _ (by rw [g8]; decide)).trans g8
  have g13 := (hup _ (by rw [g9]; decide)).trans g9
  have g14 := (hup _ (by rw [hb6]; decide)).trans hb6
  have hZ : H1.size = sz + (405) := by omega
  refine cg_putF E hin hC fz_X9_33 rfl rfl dX9_init_53 (fun H1 locs hC ho hzs => ?_)
  have hZ : H1.size = sz + (405) := by omega
  refine lv_aload_n hx hb dX9_init_56 rfl (lv_at hl 0 rfl) ?_
  refine cg_new E hC fc_X5 fv_X5 rfl (t_w2 92 rfl rfl) (t_w2 93 rfl rfl) (t_w1 7 rfl rfl) (Nat.le_of_ble_eq_true rfl) (Nat.le_of_ble_eq_true rfl) dX9_init_57 (fun b15 H1 eq9 zz9 hC hOb15 hrb15 hnb15 hsb15 hqb15 ho => ?_)
  have eb15 : b15 = sz + (405) := by omega
  have hZ : H1.size = sz + (406) := by omega
  refine lv_dup hx hb dX9_init_60 rfl ?_
  refine cg_back (b := b15) hC hrb15 hnb15 hsb15 (cg_runN (As := []) (rest := [.ref b15, .ref h]) E hNs hC hOb15 hrb15 (k_X5_init (by omega) (by omega) (by omega) (fun k => hP.z (by omega)) (fun j h1 h2 k => hP.z (by omega))) ck_X5_init rfl (by decide) ⟨rfl, rfl, Nat.le_of_ble_eq_true rfl, Nat.le_of_ble_eq_true rfl⟩ rfl hl.1 rfl (Nat.le_of_ble_eq_true rfl) ⟨(Nat.le_of_ble_eq_true rfl), (Nat.le_of_ble_eq_true rfl)⟩ dX9_init_61) (fun τ16 H1 locs zz9 hb15 hup hzz hC ho => ?_)
  have g17 := (hup _ (by rw [g12]; decide)).trans g12
  have g18 := (hup _ (by rw [g13]; decide)).trans g13
  have g19 := (hup _ (by rw [g14]; decide)).trans g14
  have g20 := (hup _ (by rw [hb10]; decide)).trans hb10
  have hZ : H1.size = sz + (435) := by omega
  refine cg_putF E hin hC fz_X9_40 rfl rfl dX9_init_64 (fun H1 locs hC ho hzs => ?_)
  have hZ : H1.size = sz + (435) := by omega
  refine lv_aload_n hx hb dX9_init_67 rfl (lv_at hl 0 rfl) ?_
  refine cg_new E hC fc_X4 fv_X4 rfl (t_w2 139 rfl rfl) (t_w2 140 rfl rfl) (t_w1 8 rfl rfl) (Nat.le_of_ble_eq_true rfl) (Nat.le_of_ble_eq_true rfl) dX9_init_68 (fun b21 H1 eq9 zz9 hC hOb21 hrb21 hnb21 hsb21 hqb21 ho => ?_)
  have eb21 : b21 = sz + (435) := by omega
  have hZ : H1.size = sz + (436) := by omega
  refine lv_dup hx hb dX9_init_71 rfl ?_
  refine lv_aload_n hx hb dX9_init_72 rfl (lv_at hl 0 rfl) ?_
  refine cg_get E hC ff_X9_12 (v := .ref b1) rfl dX9_init_73 ?_
  refine cg_back (b := b21) hC hrb21 hnb21 hsb21 (cg_runI (As := [.ref b1]) (rest := [.ref b21, .ref h]) E hNs hC hOb21 hrb21 (k_X4_init _ g17) ck_X4_init rfl (t_w2 141 rfl rfl) ⟨rfl, rfl, Nat.le_of_ble_eq_true rfl, Nat.le_of_ble_eq_true rfl⟩ rfl hl.1 rfl (Nat.le_of_ble_eq_true rfl) ⟨(Nat.le_of_ble_eq_true rfl), (Nat.le_of_ble_eq_true rfl)⟩ dX9_init_76) (fun τ22 H1 locs zz9 hb21 hup hzz hC ho => ?_)
  have g23 := (hup _ (by rw [g17]; decide)).trans g17
  have g24 := (hup _ (by rw [g18]; decide)).trans g18
  have g25 := (hup _ (by rw [g19]; decide)).trans g19
  have g26 := (hup _ (by rw [g20]; decide)).trans g20
  have g27 := (hup _ (by rw [hb15]; decide)).trans hb15
  have hZ : H1.size = sz + (437) := by omega
  refine cg_putF E hin hC fz_X9_47 rfl rfl dX9_init_79 (fun H1 locs hC ho hzs => ?_)
  have hZ : H1.size = sz + (437) := by omega
  refine lv_aload_n hx hb dX9_init_82 rfl (lv_at hl 0 rfl) ?_
  refine lv_bipush (v := 120) hx hb dX9_init_83 (by decide) ?_
  refine cg_newc E hC ta_18 (by decide) ⟨by decide, by decide⟩ (fun i _ => tKn_z rfl (ffe (hP.z (a := h + 438) (k := i) (by omega)) (by omega))) (fun _ => ⟨0, rfl, by decide, by decide⟩) (by decide) (by decide) (by decide) (Nat.le_of_ble_eq_true rfl) (Nat.le_of_ble_eq_true rfl) dX9_init_85 (fun q28 H1 τ29 eq9 zz9 hC hq28 hup hzz ho => ?_)
  have eq28 : q28 = sz + (437) := by omega
  have hZ : H1.size = sz + (438) := by omega
  have g30 := (hup _ (by rw [g23]; decide)).trans g23
  have g31 := (hup _ (by rw [g24]; decide)).trans g24
  have g32 := (hup _ (by rw [g25]; decide)).trans g25
  have g33 := (hup _ (by rw [g26]; decide)).trans g26
  have g34 := (hup _ (by rw [g27]; decide)).trans g27
  have g35 := (hup _ (by rw [hb21]; decide)).trans hb21
  clear hup hzz ho
  skip
  refine cg_putF E hin hC fz_X9_51 rfl rfl dX9_init_87 (fun H1 locs hC ho hzs => ?_)
  have hZ : H1.size = sz + (438) := by omega
  refine lv_aload_n hx hb dX9_init_90 rfl (lv_at hl 0 rfl) ?_
  refine lv_iconst (v := 4) hx hb dX9_init_91 (by decide) ?_
  refine cg_anew (C := "LaidOutBoxes$Tape") (N := 4) E hNs.2.2.1 hC (ak := 4) rfl (t_w2 158 rfl rfl) (by decide) (by decide) (by decide) (Nat.le_of_ble_eq_true rfl) (Nat.le_of_ble_eq_true rfl) dX9_init_92 (fun q36 H1 eq9 zz9 hC hAq36 hrq36 hnq36 hsq36 ho => ?_)
  have eq36 : q36 = sz + (438) := by omega
  have hZ : H1.size = sz + (439) := by omega
  refine cg_putF E hin hC fz_X9_57 rfl rfl dX9_init_95 (fun H1 locs hC ho hzs => ?_)
  have hAq36 := (ho _ hnq36).trans hAq36
  have hZ : H1.size = sz + (439) := by omega
  refine lv_iconst (v := 0) hx hb dX9_init_98 (by decide) ?_
  refine lv_istore_n (lv' := [(1, .int 0), (0, .ref h)]) hx hb dX9_init_99 rfl hl (by decide) rfl (fun ls hl => ?_)
  have J : ∀ (n i : Nat) (x : Int32) (H : Heap) (locs : List Loc) (ls : Array Slot) (τ1 : Nat → Nat) (V : Nat → Value), n + i = 4 → x.toInt = i → H.size = sz + (439 + 2 * i) → tCG G τ τ1 s h 8 [.ref b1, .ref b3, .ref b6, .ref b10, .ref b15, .ref b21, .ref q28, .ref q36, .int 0, .int 0, .int 0, .int 0] H locs → τ1 b1 = 2 → τ1 b3 = 30 → τ1 b6 = 5 → τ1 b10 = 6 → τ1 b15 = 7 → τ1 b21 = 8 → τ1 q28 = 18 → H[q36]? = some (arrV (G.2.1 4) 4 V) → τ1 q36 = 0 → (∀ j, j < i → V j = .ref (sz + (439 + 2 * j)) ∧ τ1 (sz + (439 + 2 * j)) = 9) → lv_has ls 2 [(1, .int x), (0, .ref h)] → W p l e { frames := 5, cells := 447, slots := 5649, locals := 130 } s m ((.ref h :: [] : List Value).toArray) below meth c H locs (439 + 2 * i) (5397 + 63 * i) (MQ below (tCQ G τ h sz 1 447) ((.ref h :: [] : List Value).toArray) s 447 5649 (tCA h sz)) (F0 m 100 ls []) := by
    intro n
    induction n with
    | zero =>
      intro i x H1 locs ls τ1 V hni hxi hZ hC fb1 fb3 fb6 fb10 fb15 fb21 fq28 hAq36 hrq36 hV hl
      refine lv_iload_n hx hb dX9_init_100 rfl (lv_at hl 0 rfl) ?_
      refine lv_iconst (v := 4) hx hb dX9_init_101 (by decide) ?_
      refine lv_icmp_ge (tgt := 124) hx hb dX9_init_102 (by decide) (fun hc => ?_) (fun hc => ?_)
      · have ic := tn_le kI_4 rfl hc
        have ei : i = 4 := by omega
        subst ei
        have hC := hC.type (c9 := 20) hrq36 hnq36 hsq36 (Array.getElem?_eq_some_iff.mp hAq36).1 (by decide) ⟨by decide, fun z => absurd z (by decide)⟩ ⟨_, hAq36, fun j hj => by obtain ⟨e1, e2⟩ := hV j hj; rw [e1]; exact ⟨⟨_, rfl, (tUp_ne (fun z => by rw [z, hrq36] at e2; cases e2)).trans e2⟩, tKn_q rfl rfl⟩⟩
        have fb1 : tUp τ1 q36 20 b1 = 2 := (tUp_ne (fun z => by rw [z, hrq36] at fb1; cases fb1)).trans fb1
        have fb3 : tUp τ1 q36 20 b3 = 30 := (tUp_ne (fun z => by rw [z, hrq36] at fb3; cases fb3)).trans fb3
        have fb6 : tUp τ1 q36 20 b6 = 5 := (tUp_ne (fun z => by rw [z, hrq36] at fb6; cases fb6)).trans fb6
        have fb10 : tUp τ1 q36 20 b10 = 6 := (tUp_ne (fun z => by rw [z, hrq36] at fb10; cases fb10)).trans fb10
        have fb15 : tUp τ1 q36 20 b15 = 7 := (tUp_ne (fun z => by rw [z, hrq36] at fb15; cases fb15)).trans fb15
        have fb21 : tUp τ1 q36 20 b21 = 8 := (tUp_ne (fun z => by rw [z, hrq36] at fb21; cases fb21)).trans fb21
        have fq28 : tUp τ1 q36 20 q28 = 18 := (tUp_ne (fun z => by rw [z, hrq36] at fq28; cases fq28)).trans fq28
        exact cg_ret hr hlk E hC hsz (by decide) (by decide) ⟨by decide, fun z => absurd z (by decide)⟩ rfl (tFo.all (⟨⟨_, rfl, fb1⟩, ⟨_, rfl, fb3⟩, ⟨_, rfl, fb6⟩, ⟨_, rfl, fb10⟩, ⟨_, rfl, fb15⟩, ⟨_, rfl, fb21⟩, ⟨_, rfl, fq28⟩, ⟨_, rfl, tUp_at⟩, ⟨_, rfl, by decide, by decide⟩, ⟨_, rfl, by decide, by decide⟩, ⟨_, rfl, by decide, by decide⟩, ⟨_, rfl, by decide, by decide⟩, trivial⟩ : tFo _ 1 0 [.ref b1, .ref b3, .ref b6, .ref b10, .ref b15, .ref b21, .ref q28, .ref q36, .int 0, .int 0, .int 0, .int 0])) (tKo.all (⟨tKn_f rfl rfl (vr_e (show b1 = G.2.2.1 10 by omega)), tKn_f rfl rfl (vr_e (show b3 = G.2.2.1 11 by omega)), tKn_no rfl rfl rfl, tKn_no rfl rfl rfl, tKn_f rfl rfl (vr_e (show b15 = G.2.2.1 14 by omega)), tKn_no rfl rfl rfl, tKn_f rfl rfl (vr_e (show q28 = G.2.2.1 16 by omega)), tKn_no rfl rfl rfl, tKn_i rfl rfl (by rw [hP.z (Or.inl rfl)]), tKn_no rfl rfl rfl, tKn_no rfl rfl rfl, tKn_i rfl rfl (by rw [hP.z (Or.inl rfl)]), trivial⟩ : tKo G 1 h 0 [.ref b1, .ref b3, .ref b6, .ref b10, .ref b15, .ref b21, .ref q28, .ref q36, .int 0, .int 0, .int 0, .int 0])) (by omega) dX9_init_124
      · have ic := tn_nle kI_4 rfl hc
        exfalso; omega
    | succ n ih =>
      intro i x H1 locs ls τ1 V hni hxi hZ hC fb1 fb3 fb6 fb10 fb15 fb21 fq28 hAq36 hrq36 hV hl
      refine lv_iload_n hx hb dX9_init_100 rfl (lv_at hl 0 rfl) ?_
      refine lv_iconst (v := 4) hx hb dX9_init_101 (by decide) ?_
      refine lv_icmp_ge (tgt := 124) hx hb dX9_init_102 (by decide) (fun hc => ?_) (fun hc => ?_)
      · have ic := tn_le kI_4 rfl hc
        exfalso; omega
      · have ic := tn_nle kI_4 rfl hc
        refine lv_aload_n hx hb dX9_init_105 rfl (lv_at hl 1 rfl) ?_
        refine cg_get E hC ff_X9_57 (v := .ref q36) rfl dX9_init_106 ?_
        refine lv_iload_n hx hb dX9_init_109 rfl (lv_at hl 0 rfl) ?_
        have hltq36 := (Array.getElem?_eq_some_iff.mp hAq36).1
        refine cg_new E hC fc_X6 fv_X6 rfl (t_w2 158 rfl rfl) (t_w2 160 rfl rfl) (t_w1 9 rfl rfl) (by show 439 + 2 * i + 1 ≤ 447; omega) (by show 5397 + 63 * i + 3 ≤ 5649; omega) dX9_init_110 (fun b37 H1 eq9 zz9 hC hOb37 hrb37 hnb37 hsb37 hqb37 ho => ?_)
        have hAq36 := (ho _ hltq36).trans hAq36
        have hdb37_q36 : q36 ≠ b37 := by omega
        have eb37 : b37 = sz + (439 + 2 * i) := by omega
        have hZ : H1.size = sz + (439 + 2 * i + 1) := by omega
        refine lv_dup hx hb dX9_init_113 rfl ?_
        refine cg_back (b := b37) hC hrb37 hnb37 hsb37 (cg_runN (As := []) (rest := [.ref b37, .int x, .ref q36]) E hNs hC hOb37 hrb37 (k_X6_init) ck_X6_init rfl (by decide) ⟨rfl, rfl, Nat.le_of_ble_eq_true rfl, Nat.le_of_ble_eq_true rfl⟩ rfl hl.1 rfl (Nat.le_of_ble_eq_true rfl) ⟨(by show 439 + 2 * i + 1 + 1 ≤ 447; omega), (by show 5397 + 63 * i + 3 + 60 ≤ 5649; omega)⟩ dX9_init_114) (fun τ38 H1 locs zz9 hb37 hup hzz hC ho => ?_)
        have g39 := (hup _ (by rw [fb1]; decide)).trans fb1
        have g40 := (hup _ (by rw [fb3]; decide)).trans fb3
        have g41 := (hup _ (by rw [fb6]; decide)).trans fb6
        have g42 := (hup _ (by rw [fb10]; decide)).trans fb10
        have g43 := (hup _ (by rw [fb15]; decide)).trans fb15
        have g44 := (hup _ (by rw [fb21]; decide)).trans fb21
        have g45 := (hup _ (by rw [fq28]; decide)).trans fq28
        have hltq36 := (Array.getElem?_eq_some_iff.mp hAq36).1
        have hrq36 := hzz _ hdb37_q36 hltq36 hrq36
        have hAq36 := (ho _ hltq36 hdb37_q36).trans hAq36
        have hZ : H1.size = sz + (439 + 2 * i + 1 + 1) := by omega
        refine cg_aast (C := "LaidOutBoxes$Tape") (t9 := 9) E hC hAq36 hrq36 hnq36 hsq36 rfl hb37 rv_Tape (t_in (by omega) (by omega)) dX9_init_117 (fun H1 locs hC hAq36 ho zz9 => ?_)
        obtain ⟨y, ey⟩ : ∃ y : Int32, y = x + (1) := ⟨_, rfl⟩
        refine lv_iinc (v := y) (lv' := [(1, .int y), (0, .ref h)]) hx hb dX9_init_118 hl (k := 0) rfl (by rw [ey]; rfl) (by decide) rfl (fun ls hl => ?_)
        have ty := tn_add ey rfl kI_1 (by omega) (by omega)
        refine lv_goto (tgt := 100) hx hb dX9_init_121 (by decide) ?_
        rw [show 439 + 2 * i + 1 + 1 = 439 + 2 * (i + 1) by omega, show 5397 + 63 * i + 3 + 60 = 5397 + 63 * (i + 1) by omega]
        have hxn : x.toNatClampNeg = i := t_nat hxi
        rw [hxn] at hAq36
        refine ih (i + 1) y _ _ ls _ _ (by omega) (by omega) (by omega) hC g39 g40 g41 g42 g43 g44 g45 hAq36 hrq36 (fun j hj => ?_) hl
        by_cases ej : j = i
        · subst ej; refine ⟨?_, ?_⟩; (rw [← eb37]; simp [updV]); (rw [← eb37]; exact hb37)
        · obtain ⟨e1, e2⟩ := hV j (by omega); exact ⟨by simp [updV, ej, e1], (hup _ (by rw [e2]; decide)).trans e2⟩
  exact J 4 0 0 _ _ ls _ _ rfl rfl (by omega) hC g30 g31 g32 g33 g34 g35 hq28 hAq36 hrq36 (fun j hj => absurd hj (Nat.not_lt_zero _)) hl
