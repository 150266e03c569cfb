/-! ===== names ===== -/
/-- the letters of a kind's name; 0 behind them -/
def nmc (k j : Nat) : Int := ((tXb.getD k []).getD j 0).toInt
theorem nm_byte : ∀ k, k < 10 → ∀ j, j < 7 → (((((tXb.getD k []).getD j 0) &&& 255).toUInt32 % 65536).toInt32).toInt = nmc k j := by decide
theorem nm_pos : ∀ k, k < 10 → ∀ j, j < tXl.getD k 0 → 97 ≤ nmc k j ∧ nmc k j ≤ 122 := by decide
theorem nm_len : ∀ k, k < 10 → 3 ≤ tXl.getD k 0 ∧ tXl.getD k 0 ≤ 6 := by decide
theorem nm_free : ∀ k, k < 10 → ∀ k', k' < 10 → (∀ j, j < tXl.getD k 0 → j < tXl.getD k' 0 → nmc k j = nmc k' j) → k = k' := by decide
theorem nm_get {k : Nat} {j : Nat} {z w x : Int32} (hk : k < 10) (hj : j < 7) (e1 : z = (tXb.getD k []).getD j 0) (e2 : w = z &&& 255) (e3 : x = (w.toUInt32 % 65536).toInt32) : x.toInt = nmc k j := by
  rw [e3, e2, e1]; exact nm_byte k hk j hj
section TSX
variable {p : Program} {l : Launch} {e : Env} {R : Room} {s : State} {m : MethodId} {args : Array Value} {below : List Frame} {meth : Method} {c : Code} {H : Heap} {locs : List Loc} {Q : State → Prop}
variable {cc : ByteArray} {pc : Nat} {ls : Array Slot} {rest : List Value} {k index : Nat} {G : tG} {own : String} {nL : Nat} {τ : Nat → Nat} {i : Int32} {cells slots : Nat}
theorem ts_baldX (E : tE G p s m c args own cc nL) (hSt : tSt G (tA τ) s) (hG : tGH G τ s H locs) (hk : k < 10) (hin : vp_in i (tXl.getD k 0)) (hdg : decode cc pc = .ok (.baload, 1))
    (kk : ∀ z : Int32, z = (tXb.getD k []).getD i.toNatClampNeg 0 → W p l e R s m args below meth c H locs cells slots Q (F0 m (pc + 1) ls (.int z :: rest))) : W p l e R s m args below meth c H locs cells slots Q (F0 m pc ls (.int i :: .ref (G.2.2.2.2.1 k) :: rest)) := by
  obtain ⟨cell, h1, h2, h3, h4, h5, h6, h7⟩ := ((hSt.2.1.1 k hk).2.2.2).kept hG.2.2.1
  exact W.bald (v := .int _) E.1 E.2.1 h1 h2 h3 (fun q => q.elim (fun z => hin (Or.inl z)) (fun z => hin (Or.inr (Nat.le_trans h4 z)))) (h6 _ (t_inL hin)) rfl rfl hdg (kk _ rfl)
end TSX
/-- r letters from p on are as in the name of k, and no more -/
def LK (L : Nat → Int) (len p : Int) (k : Nat) (r : Int) : Prop := 0 ≤ r ∧ r ≤ tXl.getD k 0 ∧ (∀ j : Nat, (j : Int) < r → nx L len (p + j) = nmc k j) ∧ (r < tXl.getD k 0 → ¬ nx L len (p + r) = nmc k r.toNat)
/-- as far as some name among the first n goes -/
def NMi (L : Nat → Int) (len p : Int) (n : Nat) (m : Int) : Prop := 0 ≤ m ∧ m ≤ 6 ∧ (∀ k, k < n → ∃ r, LK L len p k r ∧ r < tXl.getD k 0 ∧ r ≤ m) ∧ (m = 0 ∨ ∃ k, k < n ∧ LK L len p k m)
/-- a name is read: the kind, or -1, and where it ends -/
def RM (L : Nat → Int) (len p kd q : Int) : Prop := (∃ k : Nat, k < 10 ∧ kd = (k : Int) ∧ LK L len p k ((tXl.getD k 0 : Nat) : Int) ∧ q = p + (tXl.getD k 0 : Nat)) ∨ (kd = -1 ∧ ∃ m, NMi L len p 10 m ∧ q = p + m)
theorem NMi_0 {L : Nat → Int} {len p : Int} : NMi L len p 0 0 := ⟨by omega, by omega, fun k h => by omega, Or.inl rfl⟩
theorem NMi_s {L : Nat → Int} {len p m r m' : Int} {n : Nat} (h : NMi L len p n m) (hn : n < 10) (hr : LK L len p n r) (hl : ¬ r = (tXl.getD n 0 : Nat)) (h1 : m ≤ m') (h2 : r ≤ m') (h3 : m' = m ∨ m' = r) : NMi L len p (n + 1) m' := by
  have hl2 := hr.2.1
  have h6 := nm_len n hn
  refine ⟨by have := h.1; omega, by have := h.2.1; omega, fun k hk => ?_, ?_⟩
  · by_cases e : k = n
    · subst e; exact ⟨r, hr, by omega, h2⟩
    · obtain ⟨r1, a1, a2, a3⟩ := h.2.2.1 k (by omega)
      exact ⟨r1, a1, a2, by omega⟩
  · rcases h3 with h3 | h3
    · subst h3
      rcases h.2.2.2 with h4 | ⟨k, h4, h5⟩
      · exact Or.inl h4
      · exact Or.inr ⟨k, by omega, h5⟩
    · subst h3; exact Or.inr ⟨n, by omega, hr⟩
theorem LK_le {L : Nat → Int} {len p r : Int} {k : Nat} (hk : k < 10) (h : LK L len p k r) : p + r ≤ len ∨ r = 0 := by
  by_cases h0 : r = 0
  · exact Or.inr h0
  · have h1 := h.1
    have h2 := h.2.2.1 (r - 1).toNat (by omega)
    have h3 := nm_pos k hk (r - 1).toNat (by have := h.2.1; omega)
    by_cases q : p + ((r - 1).toNat : Int) < len
    · left; omega
    · unfold nx at h2
      rw [if_neg q] at h2
      omega
theorem NMi_le {L : Nat → Int} {len p m : Int} {n : Nat} (hn : n ≤ 10) (h : NMi L len p n m) : p + m ≤ len ∨ m = 0 := by
  rcases h.2.2.2 with h1 | ⟨k, h1, h2⟩
  · exact Or.inr h1
  · exact LK_le (by omega) h2

set_option maxHeartbeats 4000000 in
set_option maxRecDepth 100000 in
theorem x_J1_charAt_3b067 (l : Launch) (G : tG) (τ : Nat → Nat) (k0 : Nat) (x1 : Int32) (hk0 : k0 < 10) (l1 : 0 ≤ x1.toInt) (u1 : x1.toInt ≤ 6) (hlt : x1.toInt < ((tXl.getD k0 0 : Nat) : Int)) : Met l yJ1_charAt_3b067 (.code yJ1_charAt_3b067 cJ1_charAt_3b067 2 (some .char) :: tWS) (tRm 2 43) (va_Pc [.ref (G.2.2.2.2.1 k0), .int x1] (tPre G τ)) (tQp (fun r => r.toInt = nmc k0 x1.toInt.toNat ∧ 0 ≤ r.toInt ∧ r.toInt ≤ 65535)) 0 0 tNo := by
  refine tc_met (by decide) (Nat.le_of_ble_eq_true rfl) ?_
  intro p e s m below meth c E hSt hr hlk hG ls hl
  have hl : lv_has ls 2 [(0, .ref (G.2.2.2.2.1 k0)), (1, .int x1)] := hl
  have hx := E.1
  have hb := E.2.1
  obtain ⟨H, eH⟩ : ∃ H, H = s.heap := ⟨_, rfl⟩
  obtain ⟨locs, eL⟩ : ∃ x : List Loc, x = [] := ⟨_, rfl⟩
  have hG : tGH G τ s H locs := by rw [eH, eL]; exact hG
  suffices hW : W p l e (tRm 2 43) s m ([.ref (G.2.2.2.2.1 k0), .int x1] : List Value).toArray below meth c H locs 0 0 (MQ below (tQp (fun r => r.toInt = nmc k0 x1.toInt.toNat ∧ 0 ≤ r.toInt ∧ r.toInt ≤ 65535)) ([.ref (G.2.2.2.2.1 k0), .int x1] : List Value).toArray s 0 0 tNo) (F0 m 0 ls []) by subst eH; subst eL; exact hW
  refine lv_iload_n hx hb dJ1_charAt_3b067_0 rfl (lv_at hl 1 rfl) ?_
  refine lv_aload_n hx hb dJ1_charAt_3b067_1 rfl (lv_at hl 0 rfl) ?_
  refine ts_alen E hSt hG hk0 dJ1_charAt_3b067_2 (fun z1 ez1 => ?_)
  have tz1 : z1.toInt = ((tXl.getD k0 0 : Nat) : Int) := by have q := ts_le k0 hk0; rw [ez1]; exact nI_toInt (by omega)
  have qz1 := ts_le k0 hk0
  refine tc_callpv (tc_runS (As := [.int x1, .int z1]) (rest := []) E hSt hG (c_J0_checkIndex_df160_p l G τ x1 z1 (by omega) (by omega)) ks_J0_checkIndex_df160 ml_J1_9 ⟨rfl, rfl, Nat.le_of_ble_eq_true rfl, Nat.le_of_ble_eq_true rfl⟩ rfl hl.1 rfl (Nat.le_of_ble_eq_true rfl) ⟨Nat.zero_le _, Nat.zero_le _⟩ dJ1_charAt_3b067_3) ?_
  refine lv_aload_n hx hb dJ1_charAt_3b067_6 rfl (lv_at hl 0 rfl) ?_
  refine lv_iload_n hx hb dJ1_charAt_3b067_7 rfl (lv_at hl 1 rfl) ?_
  refine ts_baldX E hSt hG hk0 (t_in (by omega) (by omega)) dJ1_charAt_3b067_8 (fun z3 ez3 => ?_)
  refine lv_sipush (v := 255) hx hb dJ1_charAt_3b067_9 (by decide) ?_
  refine lv_iand hx hb dJ1_charAt_3b067_12 ?_
  refine lv_topi (fun z4 ez4 => ?_)
  refine lv_i2c hx hb dJ1_charAt_3b067_13 rfl ?_
  refine lv_topi (fun z5 ez5 => ?_)
  have tz5 := tn_i2c ez5
  exact tc_pret E hr hlk eH eL (t_nc (by omega) (by omega)).1 (show z5.toInt = nmc k0 x1.toInt.toNat ∧ 0 ≤ z5.toInt ∧ z5.toInt ≤ 65535 by (exact ⟨nm_get hk0 (by omega) ez3 ez4 ez5, by omega, by omega⟩)) dJ1_charAt_3b067_14

set_option maxHeartbeats 4000000 in
set_option maxRecDepth 100000 in
theorem x_J0_charAt_5068e (l : Launch) (G : tG) (τ : Nat → Nat) (k0 : Nat) (x1 : Int32) (hk0 : k0 < 10) (l1 : 0 ≤ x1.toInt) (u1 : x1.toInt ≤ 6) (hlt : x1.toInt < ((tXl.getD k0 0 : Nat) : Int)) : Met l yJ0_charAt_5068e (.code yJ0_charAt_5068e cJ0_charAt_5068e 2 (some .char) :: tWS) (tRm 3 64) (va_Pc [.ref (G.2.2.2.1 k0), .int x1] (tPre G τ)) (tQp (fun r => r.toInt = nmc k0 x1.toInt.toNat ∧ 0 ≤ r.toInt ∧ r.toInt ≤ 65535)) 0 0 tNo := by
  refine tc_met (by decide) (Nat.le_of_ble_eq_true rfl) ?_
  intro p e s m below meth c E hSt hr hlk hG ls hl
  have hl : lv_has ls 2 [(0, .ref (G.2.2.2.1 k0)), (1, .int x1)] := hl
  have hx := E.1
  have hb := E.2.1
  obtain ⟨H, eH⟩ : ∃ H, H = s.heap := ⟨_, rfl⟩
  obtain ⟨locs, eL⟩ : ∃ x : List Loc, x = [] := ⟨_, rfl⟩
  have hG : tGH G τ s H locs := by rw [eH, eL]; exact hG
  suffices hW : W p l e (tRm 3 64) s m ([.ref (G.2.2.2.1 k0), .int x1] : List Value).toArray below meth c H locs 0 0 (MQ below (tQp (fun r => r.toInt = nmc k0 x1.toInt.toNat ∧ 0 ≤ r.toInt ∧ r.toInt ≤ 65535)) ([.ref (G.2.2.2.1 k0), .int x1] : List Value).toArray s 0 0 tNo) (F0 m 0 ls []) by subst eH; subst eL; exact hW
  refine lv_aload_n hx hb dJ0_charAt_5068e_0 rfl (lv_at hl 0 rfl) ?_
  refine tc_callp (ts_runV (As := []) (rest := []) E hSt hG hk0 (c_J0_isLatin1_aae02 l G τ k0 hk0) rfl kv_J0_isLatin1_aae02 ml_J0_492 ⟨rfl, rfl, Nat.le_of_ble_eq_true rfl, Nat.le_of_ble_eq_true rfl⟩ rfl hl.1 rfl (Nat.le_of_ble_eq_true rfl) ⟨Nat.zero_le _, Nat.zero_le _⟩ dJ0_charAt_5068e_1) (fun r1 pr1 => ?_)
  have pr1 : r1.toInt = 1 := pr1
  refine lv_if_eq (tgt := 16) hx hb dJ0_charAt_5068e_4 (by decide) (fun c2 => ?_) (fun c2 => ?_)
  · exfalso
    have ic2 := tn_eq rfl kI_0 c2
    omega
  · skip
    have ic2 := tn_ne rfl kI_0 c2
    refine lv_aload_n hx hb dJ0_charAt_5068e_7 rfl (lv_at hl 0 rfl) ?_
    refine vk_getf hx hb (hSt.2.1.1 k0 hk0).2.2.1 hG.2 E.2.2.2.1 (E.2.2.2.2.1 _ (t_w8 171 rfl rfl)) (fun _ h => h) dJ0_charAt_5068e_8 ?_
    refine lv_iload_n hx hb dJ0_charAt_5068e_11 rfl (lv_at hl 1 rfl) ?_
    refine tc_callp (tc_runS (As := [.ref (G.2.2.2.2.1 k0), .int x1]) (rest := []) E hSt hG (x_J1_charAt_3b067 l G τ k0 x1 hk0 (by omega) (by omega) (by omega)) ks_J1_charAt_3b067 ml_J0_495 ⟨rfl, rfl, Nat.le_of_ble_eq_true rfl, Nat.le_of_ble_eq_true rfl⟩ rfl hl.1 rfl (Nat.le_of_ble_eq_true rfl) ⟨Nat.zero_le _, Nat.zero_le _⟩ dJ0_charAt_5068e_12) (fun r3 pr3 => ?_)
    have pr3 : r3.toInt = nmc k0 x1.toInt.toNat ∧ 0 ≤ r3.toInt ∧ r3.toInt ≤ 65535 := pr3
    exact tc_pret E hr hlk eH eL (t_nc (by omega) (by omega)).1 (show r3.toInt = nmc k0 x1.toInt.toNat ∧ 0 ≤ r3.toInt ∧ r3.toInt ≤ 65535 by omega) dJ0_charAt_5068e_15

set_option maxHeartbeats 4000000 in
set_option maxRecDepth 100000 in
theorem x_X1_nameOf (l : Launch) (G : tG) (τ : Nat → Nat) (x0 : Int32) (l0 : 0 ≤ x0.toInt) (u0 : x0.toInt ≤ 9) : Met l yX1_nameOf (.code yX1_nameOf cX1_nameOf 1 (some (.object "java/lang/String")) :: tWS) (tRm 0 0) (va_Pc [.int x0] (tPre G τ)) (tQpr (fun r => ∃ k, (k < 10 ∧ k = x0.toInt.toNat) ∧ r = G.2.2.2.1 k)) 0 0 tNo := by
  refine tc_met (by decide) (Nat.le_of_ble_eq_true rfl) ?_
  intro p e s m below meth c E hSt hr hlk hG ls hl
  have hl : lv_has ls 1 [(0, .int x0)] := hl
  have hx := E.1
  have hb := E.2.1
  obtain ⟨H, eH⟩ : ∃ H, H = s.heap := ⟨_, rfl⟩
  obtain ⟨locs, eL⟩ : ∃ x : List Loc, x = [] := ⟨_, rfl⟩
  have hG : tGH G τ s H locs := by rw [eH, eL]; exact hG
  suffices hW : W p l e (tRm 0 0) s m ([.int x0] : List Value).toArray below meth c H locs 0 0 (MQ below (tQpr (fun r => ∃ k, (k < 10 ∧ k = x0.toInt.toNat) ∧ r = G.2.2.2.1 k)) ([.int x0] : List Value).toArray s 0 0 tNo) (F0 m 0 ls []) by subst eH; subst eL; exact hW
  refine lv_iload_n hx hb dX1_nameOf_0 rfl (lv_at hl 0 rfl) ?_
  rcases (show (x0.toInt < 0 ∨ 8 < x0.toInt) ∨ x0.toInt = 0 ∨ x0.toInt = 1 ∨ x0.toInt = 2 ∨ x0.toInt = 3 ∨ x0.toInt = 4 ∨ x0.toInt = 5 ∨ x0.toInt = 6 ∨ x0.toInt = 7 ∨ x0.toInt = 8 by omega) with k1 | k1 | k1 | k1 | k1 | k1 | k1 | k1 | k1 | k1
  · refine lv_tableOut (tgt := 79) hx hb dX1_nameOf_1 k1 (by decide) ?_
    refine va_ldcS hx hb E.2.2.2.1 (hSt.2.2.1 9 (by decide)) dX1_nameOf_79 ?_
    exact tc_paret E hr hlk eH eL ⟨9, ⟨by decide, by omega⟩, rfl⟩ dX1_nameOf_81
  · refine lv_tableIn (off := 51) (tgt := 52) hx hb dX1_nameOf_1 (by rw [k1]; decide) (by rw [k1]; decide) (by rw [k1]; rfl) (by decide) ?_
    refine va_ldcS hx hb E.2.2.2.1 (hSt.2.2.1 0 (by decide)) dX1_nameOf_52 ?_
    exact tc_paret E hr hlk eH eL ⟨0, ⟨by decide, by omega⟩, rfl⟩ dX1_nameOf_54
  · refine lv_tableIn (off := 54) (tgt := 55) hx hb dX1_nameOf_1 (by rw [k1]; decide) (by rw [k1]; decide) (by rw [k1]; rfl) (by decide) ?_
    refine va_ldcS hx hb E.2.2.2.1 (hSt.2.2.1 1 (by decide)) dX1_nameOf_55 ?_
    exact tc_paret E hr hlk eH eL ⟨1, ⟨by decide, by omega⟩, rfl⟩ dX1_nameOf_57
  · refine lv_tableIn (off := 57) (tgt := 58) hx hb dX1_nameOf_1 (by rw [k1]; decide) (by rw [k1]; decide) (by rw [k1]; rfl) (by decide) ?_
    refine va_ldcS hx hb E.2.2.2.1 (hSt.2.2.1 2 (by decide)) dX1_nameOf_58 ?_
    exact tc_paret E hr hlk eH eL ⟨2, ⟨by decide, by omega⟩, rfl⟩ dX1_nameOf_60
  · refine lv_tableIn (off := 60) (tgt := 61) hx hb dX1_nameOf_1 (by rw [k1]; decide) (by rw [k1]; decide) (by rw [k1]; rfl) (by decide) ?_
    refine va_ldcS hx hb E.2.2.2.1 (hSt.2.2.1 3 (by decide)) dX1_nameOf_61 ?_
    exact tc_paret E hr hlk eH eL ⟨3, ⟨by decide, by omega⟩, rfl⟩ dX1_nameOf_63
  · refine lv_tableIn (off := 63) (tgt := 64) hx hb dX1_nameOf_1 (by rw [k1]; decide) (by rw [k1]; decide) (by rw [k1]; rfl) (by decide) ?_
    refine va_ldcS hx hb E.2.2.2.1 (hSt.2.2.1 4 (by decide)) dX1_nameOf_64 ?_
    exact tc_paret E hr hlk eH eL ⟨4, ⟨by decide, by omega⟩, rfl⟩ dX1_nameOf_66
  · refine lv_tableIn (off := 66) (tgt := 67) hx hb dX1_nameOf_1 (by rw [k1]; decide) (by rw [k1]; decide) (by rw [k1]; rfl) (by decide) ?_
    refine va_ldcS hx hb E.2.2.2.1 (hSt.2.2.1 5 (by decide)) dX1_nameOf_67 ?_
    exact tc_paret E hr hlk eH eL ⟨5, ⟨by decide, by omega⟩, rfl⟩ dX1_nameOf_69
  · refine lv_tableIn (off := 69) (tgt := 70) hx hb dX1_nameOf_1 (by rw [k1]; decide) (by rw [k1]; decide) (by rw [k1]; rfl) (by decide) ?_
    refine va_ldcS hx hb E.2.2.2.1 (hSt.2.2.1 6 (by decide)) dX1_nameOf_70 ?_
    exact tc_paret E hr hlk eH eL ⟨6, ⟨by decide, by omega⟩, rfl⟩ dX1_nameOf_72
  · refine lv_tableIn (off := 72) (tgt := 73) hx hb dX1_nameOf_1 (by rw [k1]; decide) (by rw [k1]; decide) (by rw [k1]; rfl) (by decide) ?_
    refine va_ldcS hx hb E.2.2.2.1 (hSt.2.2.1 7 (by decide)) dX1_nameOf_73 ?_
    exact tc_paret E hr hlk eH eL ⟨7, ⟨by decide, by omega⟩, rfl⟩ dX1_nameOf_75
  · refine lv_tableIn (off := 75) (tgt := 76) hx hb dX1_nameOf_1 (by rw [k1]; decide) (by rw [k1]; decide) (by rw [k1]; rfl) (by decide) ?_
    refine va_ldcS hx hb E.2.2.2.1 (hSt.2.2.1 8 (by decide)) dX1_nameOf_76 ?_
    exact tc_paret E hr hlk eH eL ⟨8, ⟨by decide, by omega⟩, rfl⟩ dX1_nameOf_78

set_option maxHeartbeats 4000000 in
set_option maxRecDepth 100000 in
theorem x_X5_lettersLike (l : Launch) (G : tG) (τ : Nat → Nat) (h0 : Nat) (k1 : Nat) (t0 : τ h0 = 7) (hk1 : k1 < 10) (hL : τ (G.2.2.1 16) = 18) (h9 : G.2.2.1 9 = 1) (hLr : G.2.2.1 16 < h0 ∨ h0 + 30 ≤ G.2.2.1 16) (h7 : ((FF G) h0 7).toInt ≤ 120) : Met l yX5_lettersLike (.code yX5_lettersLike cX5_lettersLike 4 (some .int) :: tWS) (tRm 4 85) (va_Pc [.ref h0, .ref (G.2.2.2.1 k1)] (tPre G τ)) (tQp (fun r => (LK (LF (FF G) (G.2.2.1 16)) ((FF G) h0 7).toInt ((FF G) h0 9).toInt k1 r.toInt) ∧ 0 ≤ r.toInt ∧ r.toInt ≤ 6)) 0 0 tNo := by
  refine tc_met (by decide) (Nat.le_of_ble_eq_true rfl) ?_
  intro p e s m below meth c E hSt hr hlk hG ls hl
  have hl : lv_has ls 4 [(0, .ref h0), (1, .ref (G.2.2.2.1 k1))] := hl
  have hx := E.1
  have hb := E.2.1
  obtain ⟨H, eH⟩ : ∃ H, H = s.heap := ⟨_, rfl⟩
  obtain ⟨locs, eL⟩ : ∃ x : List Loc, x = [] := ⟨_, rfl⟩
  have hG : tGH G τ s H locs := by rw [eH, eL]; exact hG
  suffices hW : W p l e (tRm 4 85) s m ([.ref h0, .ref (G.2.2.2.1 k1)] : List Value).toArray below meth c H locs 0 0 (MQ below (tQp (fun r => (LK (LF (FF G) (G.2.2.1 16)) ((FF G) h0 7).toInt ((FF G) h0 9).toInt k1 r.toInt) ∧ 0 ≤ r.toInt ∧ r.toInt ≤ 6)) ([.ref h0, .ref (G.2.2.2.1 k1)] : List Value).toArray s 0 0 tNo) (F0 m 0 ls []) by subst eH; subst eL; exact hW
  have hnl := nm_len k1 hk1
  have J19 : ∀ (n19 : Nat) (ls : Array Slot) (v2 : Int32) (v3 : Int32), lv_has ls 4 [(0, .ref h0), (1, .ref (G.2.2.2.1 k1)), (2, .int v2), (3, .int v3)] → -120 ≤ v2.toInt → v2.toInt ≤ 6 → 0 ≤ v3.toInt → v3.toInt ≤ 6 → (v2.toInt ≤ tXl.getD k1 0 ∧ (v2.toInt ≤ ((FF G) h0 7).toInt - ((FF G) h0 9).toInt ∧ (v2.toInt = tXl.getD k1 0 ∨ v2.toInt = ((FF G) h0 7).toInt - ((FF G) h0 9).toInt) ∧ (v3.toInt = 0 ∨ v3.toInt ≤ v2.toInt)) ∧ ∀ j : Nat, (j : Int) < v3.toInt → nx (LF (FF G) (G.2.2.1 16)) ((FF G) h0 7).toInt (((FF G) h0 9).toInt + j) = nmc k1 j) → (6 - v3.toInt).toNat < n19 → W p l e (tRm 4 85) s m ([.ref h0, .ref (G.2.2.2.1 k1)] : List Value).toArray below meth c H locs 0 0 (MQ below (tQp (fun r => (LK (LF (FF G) (G.2.2.1 16)) ((FF G) h0 7).toInt ((FF G) h0 9).toInt k1 r.toInt) ∧ 0 ≤ r.toInt ∧ r.toInt ≤ 6)) ([.ref h0, .ref (G.2.2.2.1 k1)] : List Value).toArray s 0 0 tNo) (F0 m 19 ls []) := by
    intro n19
    induction n19 with
    | zero => intro ls v2 v3 hl b2 c2 b3 c3 hex19 hn19; exact absurd hn19 (Nat.not_lt_zero _)
    | succ n19 ih19 =>
      intro ls v2 v3 hl b2 c2 b3 c3 hex19 hn19
      refine lv_iload_n hx hb dX5_lettersLike_19 rfl (lv_at hl 3 rfl) ?_
      refine lv_iload_n hx hb dX5_lettersLike_20 rfl (lv_at hl 2 rfl) ?_
      refine lv_icmp_ge (tgt := 51) hx hb dX5_lettersLike_21 (by decide) (fun c1 => ?_) (fun c1 => ?_)
      · skip
        have ic1 := tn_le rfl rfl c1
        refine lv_iconst (v := 0) hx hb dX5_lettersLike_51 (by decide) ?_
        refine lv_iload_n hx hb dX5_lettersLike_52 rfl (lv_at hl 2 rfl) ?_
        refine tc_max (rest := []) E hl.1 ml_X5_95 kn_max1 kn_math kn_max2 ⟨Nat.le_of_ble_eq_true rfl, Nat.le_of_ble_eq_true rfl⟩ ⟨Nat.zero_le _, Nat.zero_le _⟩ dX5_lettersLike_53 (fun z2 ez2 => ?_)
        have tz2 := tn_max ez2
        have kk3_ := kI_0
        exact tc_pret E hr hlk eH eL rfl (show (LK (LF (FF G) (G.2.2.1 16)) ((FF G) h0 7).toInt ((FF G) h0 9).toInt k1 z2.toInt) ∧ 0 ≤ z2.toInt ∧ z2.toInt ≤ 6 by (refine ⟨⟨by omega, by omega, fun j hj => hex19.2.2 j (by omega), fun hh => ?_⟩, by omega, by omega⟩; (have q9 := nm_pos k1 hk1 z2.toInt.toNat (by omega)); unfold nx; rw [if_neg (by omega)]; omega)) dX5_lettersLike_56
      · skip
        have ic1 := tn_nle rfl rfl c1
        refine lv_aload_n hx hb dX5_lettersLike_24 rfl (lv_at hl 0 rfl) ?_
        refine tc_getL E hG t0 ff_X5_29 h9 dX5_lettersLike_25 ?_
        refine lv_aload_n hx hb dX5_lettersLike_28 rfl (lv_at hl 0 rfl) ?_
        refine tc_getF E hG t0 fi_X5_46 rfl dX5_lettersLike_29 (fun z4 lz4 uz4 wz4 => ?_)
        replace wz4 : z4 = (FF G) h0 9 := wz4
        have cz4 : z4.toInt = ((FF G) h0 9).toInt := by rw [wz4]
        refine lv_iload_n hx hb dX5_lettersLike_32 rfl (lv_at hl 3 rfl) ?_
        refine lv_iadd hx hb dX5_lettersLike_33 ?_
        refine lv_topi (fun z5 ez5 => ?_)
        have tz5 := tn_add ez5 rfl rfl (by omega) (by omega)
        refine tc_caldF E hG hL ta_18 rfl (t_in (by omega) (by omega)) dX5_lettersLike_34 (fun z6 lz6 uz6 wz6 => ?_)
        replace wz6 : z6 = (FF G) (G.2.2.1 16) z5.toNatClampNeg := wz6
        have cz6 : z6.toInt = ((FF G) (G.2.2.1 16) z5.toNatClampNeg).toInt := by rw [wz6]
        refine lv_aload_n hx hb dX5_lettersLike_35 rfl (lv_at hl 1 rfl) ?_
        refine lv_iload_n hx hb dX5_lettersLike_36 rfl (lv_at hl 3 rfl) ?_
        refine tc_callp (ts_runV (As := [.int v3]) (rest := [.int z6]) E hSt hG hk1 (x_J0_charAt_5068e l G τ k1 v3 hk1 (by omega) (by omega) (by omega)) rfl kv_J0_charAt_5068e ml_X5_102 ⟨rfl, rfl, Nat.le_of_ble_eq_true rfl, Nat.le_of_ble_eq_true rfl⟩ rfl hl.1 rfl (Nat.le_of_ble_eq_true rfl) ⟨Nat.zero_le _, Nat.zero_le _⟩ dX5_lettersLike_37) (fun r7 pr7 => ?_)
        have pr7 : r7.toInt = nmc k1 v3.toInt.toNat ∧ 0 ≤ r7.toInt ∧ r7.toInt ≤ 65535 := pr7
        refine lv_icmp_eq (tgt := 45) hx hb dX5_lettersLike_40 (by decide) (fun c8 => ?_) (fun c8 => ?_)
        · skip
          have ic8 := tn_eq rfl rfl c8
          obtain ⟨z9, ez9⟩ : ∃ y : Int32, y = v3 + (1) := ⟨_, rfl⟩
          refine lv_iinc (v := z9) (lv' := [(3, .int z9), (0, .ref h0), (1, .ref (G.2.2.2.1 k1)), (2, .int v2)]) hx hb dX5_lettersLike_45 hl (k := 3) rfl (by rw [ez9]; rfl) (by decide) rfl (fun ls hl => ?_)
          have tz9 := tn_add ez9 rfl kI_1 (by omega) (by omega)
          refine lv_goto (tgt := 19) hx hb dX5_lettersLike_48 (by decide) ?_
          exact ih19 ls v2 z9 (lv_sub hl [1, 2, 3, 0] rfl) (by omega) (by omega) (by omega) (by omega) (by refine ⟨by omega, by omega, fun j hj => ?_⟩; by_cases e9 : (j : Int) < v3.toInt; exact hex19.2.2 j e9; unfold nx LF; rw [if_pos (by omega), show (((FF G) h0 9).toInt + (j : Int)).toNat = z5.toNatClampNeg by (show _ = z5.toInt.toNat; omega), show j = v3.toInt.toNat by omega]; omega) (by omega)
        · skip
          have ic8 := tn_ne rfl rfl c8
          refine lv_iload_n hx hb dX5_lettersLike_43 rfl (lv_at hl 3 rfl) ?_
          exact tc_pret E hr hlk eH eL rfl (show (LK (LF (FF G) (G.2.2.1 16)) ((FF G) h0 7).toInt ((FF G) h0 9).toInt k1 v3.toInt) ∧ 0 ≤ v3.toInt ∧ v3.toInt ≤ 6 by (refine ⟨⟨by omega, by omega, fun j hj => hex19.2.2 j hj, fun _ => ?_⟩, by omega, by omega⟩; unfold nx LF; rw [if_pos (by omega), show (((FF G) h0 9).toInt + v3.toInt).toNat = z5.toNatClampNeg by (show _ = z5.toInt.toNat; omega)]; omega)) dX5_lettersLike_44
  refine lv_aload_n hx hb dX5_lettersLike_0 rfl (lv_at hl 1 rfl) ?_
  refine tc_callp (ts_runV (As := []) (rest := []) E hSt hG hk1 (c_J0_length_8abf5 l G τ k1 hk1) rfl kv_J0_length_8abf5 ml_X5_98 ⟨rfl, rfl, Nat.le_of_ble_eq_true rfl, Nat.le_of_ble_eq_true rfl⟩ rfl hl.1 rfl (Nat.le_of_ble_eq_true rfl) ⟨Nat.zero_le _, Nat.zero_le _⟩ dX5_lettersLike_1) (fun r10 pr10 => ?_)
  have pr10 : r10.toInt = ((tXl.getD k1 0 : Nat) : Int) ∧ 0 ≤ r10.toInt ∧ r10.toInt ≤ 6 := pr10
  refine lv_aload_n hx hb dX5_lettersLike_4 rfl (lv_at hl 0 rfl) ?_
  refine tc_getF E hG t0 fi_X5_39 rfl dX5_lettersLike_5 (fun z11 lz11 uz11 wz11 => ?_)
  replace wz11 : z11 = (FF G) h0 7 := wz11
  have cz11 : z11.toInt = ((FF G) h0 7).toInt := by rw [wz11]
  refine lv_aload_n hx hb dX5_lettersLike_8 rfl (lv_at hl 0 rfl) ?_
  refine tc_getF E hG t0 fi_X5_46 rfl dX5_lettersLike_9 (fun z12 lz12 uz12 wz12 => ?_)
  replace wz12 : z12 = (FF G) h0 9 := wz12
  have cz12 : z12.toInt = ((FF G) h0 9).toInt := by rw [wz12]
  refine lv_isub hx hb dX5_lettersLike_12 ?_
  refine lv_topi (fun z13 ez13 => ?_)
  have tz13 := tn_sub ez13 rfl rfl (by omega) (by omega)
  refine tc_min (rest := []) E hl.1 ml_X5_33 kn_min1 kn_math kn_min2 ⟨Nat.le_of_ble_eq_true rfl, Nat.le_of_ble_eq_true rfl⟩ ⟨Nat.zero_le _, Nat.zero_le _⟩ dX5_lettersLike_13 (fun z14 ez14 => ?_)
  have tz14 := tn_min ez14
  refine lv_istore_n (lv' := [(2, .int z14), (0, .ref h0), (1, .ref (G.2.2.2.1 k1))]) hx hb dX5_lettersLike_16 rfl hl (by decide) rfl (fun ls hl => ?_)
  refine lv_iconst (v := 0) hx hb dX5_lettersLike_17 (by decide) ?_
  refine lv_istore_n (lv' := [(3, .int 0), (2, .int z14), (0, .ref h0), (1, .ref (G.2.2.2.1 k1))]) hx hb dX5_lettersLike_18 rfl hl (by decide) rfl (fun ls hl => ?_)
  exact J19 ((6 - (0 : Int32).toInt).toNat + 1) ls z14 (0 : Int32) (lv_sub hl [2, 3, 1, 0] rfl) (by omega) (by omega) (by decide) (by decide) (by have k0_ := kI_0; exact ⟨by omega, by omega, fun j hj => by omega⟩) (Nat.lt_succ_self _)
