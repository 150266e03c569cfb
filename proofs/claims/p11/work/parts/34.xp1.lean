/-! ===== printing, exactly ===== -/
def TXT (F : mF) (P : Nat) : List Int := (List.range (F P 1).toInt.toNat).map (fun k => (F (P + 1) k).toInt)
theorem TXT_len {F : mF} {P : Nat} : (TXT F P).length = (F P 1).toInt.toNat := by simp [TXT]
/-- from F to F' the Printer at P has put L, and nothing else has changed -/
def PRI (P : Nat) (F F' : mF) (L : List Int) : Prop := TXT F' P = (TXT F P ++ L).take 960 ∧ (0 ≤ (F' P 1).toInt ∧ (F' P 1).toInt ≤ 960) ∧ ∀ a k, ¬ (a = P ∨ a = P + 1) → F' a k = F a k
theorem take_cut {xs ys : List Int} {n : Nat} : (xs.take n ++ ys).take n = (xs ++ ys).take n := by
  rw [List.take_append, List.take_append, List.take_take, Nat.min_self, List.length_take]
  by_cases h : n ≤ xs.length
  · rw [Nat.min_eq_left h, Nat.sub_self, Nat.sub_eq_zero_of_le h]
  · rw [Nat.min_eq_right (by omega)]
theorem PRI.refl {P : Nat} {F : mF} (h : 0 ≤ (F P 1).toInt ∧ (F P 1).toInt ≤ 960) : PRI P F F [] := by
  refine ⟨?_, h, fun _ _ _ => rfl⟩
  rw [List.append_nil, List.take_of_length_le (by rw [TXT_len]; omega)]
theorem PRI.trans {P : Nat} {F F' F'' : mF} {L L' : List Int} (h : PRI P F F' L) (h' : PRI P F' F'' L') : PRI P F F'' (L ++ L') := by
  refine ⟨?_, h'.2.1, fun a k q => (h'.2.2 a k q).trans (h.2.2 a k q)⟩
  rw [h'.1, h.1, take_cut, List.append_assoc]
theorem PRI_eq {P : Nat} {F F' : mF} {L L' : List Int} (h : PRI P F F' L) (e : L = L') : PRI P F F' L' := e ▸ h
theorem PRI_put {F : mF} {P i : Nat} {c v : Int32} (h : (F P 1).toInt < 960) (h0 : 0 ≤ (F P 1).toInt) (hi : i = (F P 1).toInt.toNat) (hv : v.toInt = (F P 1).toInt + 1) : PRI P F (up2 (up2 F (P + 1) i c) P 1 v) [c.toInt] := by
  refine ⟨?_, ?_, fun a k q => ?_⟩
  · rw [List.take_of_length_le (by rw [List.length_append, TXT_len]; simp only [List.length_cons, List.length_nil]; omega)]
    unfold TXT
    rw [up2_at, show v.toInt.toNat = i + 1 by omega, List.range_succ, List.map_append, hi]
    have e1 : List.map (fun k => ((up2 (up2 F (P + 1) (F P 1).toInt.toNat c) P 1 v) (P + 1) k).toInt) (List.range (F P 1).toInt.toNat) = List.map (fun k => (F (P + 1) k).toInt) (List.range (F P 1).toInt.toNat) := List.map_congr_left (fun k hk => by
      have := List.mem_range.mp hk
      rw [up2_ne (by omega), up2_ne (by omega)])
    rw [e1]
    have e2 : (up2 (up2 F (P + 1) (F P 1).toInt.toNat c) P 1 v) (P + 1) (F P 1).toInt.toNat = c := by rw [up2_ne (by omega), up2_at]
    show _ ++ [((up2 (up2 F (P + 1) (F P 1).toInt.toNat c) P 1 v) (P + 1) (F P 1).toInt.toNat).toInt] = _
    rw [e2]
  · rw [up2_at]; omega
  · rw [up2_ne (fun z => q (Or.inl z.1)), up2_ne (fun z => q (Or.inr z.1))]
theorem PRI_full {F : mF} {P : Nat} {L : List Int} (h : 960 ≤ (F P 1).toInt) (h9 : (F P 1).toInt ≤ 960) : PRI P F F L := by
  refine ⟨?_, ⟨by omega, h9⟩, fun _ _ _ => rfl⟩
  rw [List.take_left' (by rw [TXT_len]; omega)]
theorem i100 {j : Int32} (h0 : 0 ≤ j.toInt) (h7 : j.toInt ≤ 99) : j = Int32.ofNat j.toInt.toNat ∧ j.toInt.toNat < 100 := by
  have h : ∀ k, k < 100 → (Int32.ofNat k).toInt = (k : Int) := by decide
  refine ⟨Int32.toInt_inj.mp ?_, by omega⟩
  rw [h _ (by omega)]; omega
theorem tn_div10 {x z : Int32} (ez : z = x / 10) (h0 : 0 ≤ x.toInt) (h9 : x.toInt ≤ 99) : z.toInt = x.toInt / 10 := by
  obtain ⟨e, hk⟩ := i100 h0 h9
  have h : ∀ k, k < 100 → (Int32.ofNat k / 10).toInt = ((k / 10 : Nat) : Int) := by decide
  rw [ez]
  have h1 := h _ hk
  rw [← e] at h1
  rw [h1]; omega
/-- the tree in the class's words -/
abbrev bM (w : Nat) (b : Int) : Nat := w + 1 + (3 + 4 * min b.toNat 23)
def kF (F : mF) (w : Nat) (b f : Int) : Int := if f = 1 then (F (bM w b) 4).toInt else if f = 6 then (F (bM w b) 7).toInt else if f = 10 then (F (bM w b) 10).toInt else if f < 6 then (F (bM w b + 1) (f - 2).toNat).toInt else (F (bM w b + 2) (f - 11).toNat).toInt
theorem kF_fr {F F' : mF} {w P : Nat} (hP : w + 100 ≤ P) (h : ∀ a k, ¬ (a = P ∨ a = P + 1) → F' a k = F a k) : kF F' w = kF F w := funext fun b => funext fun f => by
  have hm : min b.toNat 23 ≤ 23 := Nat.min_le_right _ _
  have g0 : ∀ k, F' (bM w b) k = F (bM w b) k := fun k => h _ k (by unfold bM; omega)
  have g1 : ∀ k, F' (bM w b + 1) k = F (bM w b + 1) k := fun k => h _ k (by unfold bM; omega)
  have g2 : ∀ k, F' (bM w b + 2) k = F (bM w b + 2) k := fun k => h _ k (by unfold bM; omega)
  unfold kF
  rw [g0, g0, g0, g1, g2]
theorem kF_at {F : mF} {w n a : Nat} (hn : n ≤ 23) (e : a = w + 1 + (3 + 4 * n)) : kF F w (n : Int) 1 = (F a 4).toInt ∧ kF F w (n : Int) 6 = (F a 7).toInt ∧ kF F w (n : Int) 10 = (F a 10).toInt ∧ (∀ j : Nat, j < 4 → kF F w (n : Int) (2 + (j : Int)) = (F (a + 1) j).toInt) ∧ ∀ j : Nat, kF F w (n : Int) (11 + (j : Int)) = (F (a + 2) j).toInt := by
  have hb : bM w (n : Int) = a := by
    unfold bM
    rw [Int.toNat_natCast, Nat.min_eq_left hn, e]
  refine ⟨?_, ?_, ?_, fun j hj => ?_, fun j => ?_⟩
  · unfold kF; rw [if_pos rfl, hb]
  · unfold kF; rw [if_neg (by decide), if_pos rfl, hb]
  · unfold kF; rw [if_neg (by decide), if_neg (by decide), if_pos rfl, hb]
  · unfold kF; rw [if_neg (by omega), if_neg (by omega), if_neg (by omega), if_pos (by omega), hb, show (2 + (j : Int) - 2).toNat = j by omega]
  · unfold kF; rw [if_neg (by omega), if_neg (by omega), if_neg (by omega), if_neg (by omega), hb, show (11 + (j : Int) - 11).toNat = j by omega]
/-- what stands of a BOX -/
def nmU (k : Nat) : Nat → List Int
  | 0 => []
  | j + 1 => nmU k j ++ [nmc k j]
def numL (v : Int) : List Int := if 10 ≤ v then [48 + v / 10, 48 + v % 10] else [48 + v]
def nmsL (T : Int → Int → Int) (b : Int) : Nat → List Int
  | 0 => []
  | i + 1 => nmsL T b i ++ (32 :: numL (T b (2 + (i : Int))))
def shL (v : Int) : List Int := if 0 < v then 42 :: numL v else []
def ownL (T : Int → Int → Int) (b : Int) : List Int := (nmU (T b 1).toNat (tXl.getD (T b 1).toNat 0) ++ nmsL T b (nNum (T b 1)).toNat) ++ shL (T b 6)
def kdL (T : Int → Int → Int) (f : Int → List Int) (b : Int) : Nat → List Int
  | 0 => []
  | i + 1 => kdL T f b i ++ ((if i = 0 then 40 else 44) :: f (T b (11 + (i : Int))))
def clL (m : Int) : List Int := if 0 < m then [41] else []
/-- a BOX printed, d deep -/
def pT (T : Int → Int → Int) : Nat → Int → List Int
  | 0, _ => []
  | d + 1, b => (ownL T b ++ kdL T (pT T d) b (T b 10).toNat) ++ clL (T b 10)
theorem pT_end {P n d : Nat} {F F' : mF} {T : Int → Int → Int} {b : Int} {i : Nat} (hd : d = n + 1) (h : PRI P F F' (ownL T b ++ kdL T (pT T n) b i)) (hi : (i : Int) = T b 10) (h0 : ¬ 0 < T b 10) : PRI P F F' (pT T d b) := by
  subst hd
  refine PRI_eq h ?_
  unfold pT clL
  rw [if_neg h0, List.append_nil, ← hi, Int.toNat_natCast]
theorem pT_end1 {P n d : Nat} {F F' : mF} {T : Int → Int → Int} {b x : Int} {i : Nat} (hd : d = n + 1) (h : PRI P F F' ((ownL T b ++ kdL T (pT T n) b i) ++ [x])) (hx : x = 41) (hi : (i : Int) = T b 10) (h0 : 0 < T b 10) : PRI P F F' (pT T d b) := by
  subst hd; subst hx
  refine PRI_eq h ?_
  unfold pT clL
  rw [if_pos h0, ← hi, Int.toNat_natCast]
theorem nms_s {P : Nat} {F F' : mF} {T : Int → Int → Int} {b x v : Int} {i j : Nat} {L : List Int} (h : PRI P F F' (((L ++ nmsL T b i) ++ [x]) ++ numL v)) (hx : x = 32) (hj : j = i + 1) (hv : v = T b (2 + (i : Int))) : PRI P F F' (L ++ nmsL T b j) := by
  subst hx; subst hj; subst hv
  refine PRI_eq h ?_
  show _ = L ++ (nmsL T b i ++ (32 :: numL (T b (2 + (i : Int)))))
  simp only [List.append_assoc, List.cons_append, List.nil_append]
theorem kd_s {P : Nat} {F F' : mF} {T : Int → Int → Int} {f : Int → List Int} {b x v : Int} {i j : Nat} {L : List Int} (h : PRI P F F' (((L ++ kdL T f b i) ++ [x]) ++ f v)) (hx : x = if i = 0 then 40 else 44) (hj : j = i + 1) (hv : v = T b (11 + (i : Int))) : PRI P F F' (L ++ kdL T f b j) := by
  subst hx; subst hj; subst hv
  refine PRI_eq h ?_
  show _ = L ++ (kdL T f b i ++ ((if i = 0 then 40 else 44) :: f (T b (11 + (i : Int)))))
  simp only [List.append_assoc, List.cons_append, List.nil_append]
theorem own_n {P : Nat} {F F' : mF} {T : Int → Int → Int} {b k : Int} {kl i : Nat} (h : PRI P F F' (nmU k.toNat kl ++ nmsL T b i)) (hk : T b 1 = k) (hkl : kl = tXl.getD k.toNat 0) (hi : i = (nNum k).toNat) (h0 : ¬ 0 < T b 6) {f : Int → List Int} : PRI P F F' (ownL T b ++ kdL T f b 0) := by
  refine PRI_eq h ?_
  unfold ownL shL
  rw [if_neg h0, hk, hi, hkl]
  simp only [kdL, List.append_nil]
theorem own_s {P : Nat} {F F' : mF} {T : Int → Int → Int} {b k x v : Int} {kl i : Nat} (h : PRI P F F' (((nmU k.toNat kl ++ nmsL T b i) ++ [x]) ++ numL v)) (hk : T b 1 = k) (hkl : kl = tXl.getD k.toNat 0) (hi : i = (nNum k).toNat) (hx : x = 42) (hv : v = T b 6) (h0 : 0 < T b 6) {f : Int → List Int} : PRI P F F' (ownL T b ++ kdL T f b 0) := by
  subst hx; subst hv
  refine PRI_eq h ?_
  unfold ownL shL
  rw [if_pos h0, hk, hi, hkl]
  simp only [kdL, List.append_nil, List.append_assoc, List.cons_append, List.nil_append]
/-- kinds, numbers and CHILDREN of who is there -/
def PRF (F : mF) (w : Nat) : Prop := ∀ n : Nat, n ≤ 23 → tB (F w 4) n → (0 ≤ (F (w + 1 + (3 + 4 * n)) 4).toInt ∧ (F (w + 1 + (3 + 4 * n)) 4).toInt ≤ 9) ∧ (0 ≤ (F (w + 1 + (3 + 4 * n)) 7).toInt ∧ (F (w + 1 + (3 + 4 * n)) 7).toInt ≤ 9) ∧ (0 ≤ (F (w + 1 + (3 + 4 * n)) 10).toInt ∧ (F (w + 1 + (3 + 4 * n)) 10).toInt ≤ 8) ∧ (∀ j : Nat, j < 4 → 0 ≤ (F (w + 1 + (3 + 4 * n) + 1) j).toInt ∧ (F (w + 1 + (3 + 4 * n) + 1) j).toInt ≤ 99) ∧ ∀ j : Nat, (j : Int) < (F (w + 1 + (3 + 4 * n)) 10).toInt → 0 ≤ (F (w + 1 + (3 + 4 * n) + 2) j).toInt ∧ (F (w + 1 + (3 + 4 * n) + 2) j).toInt ≤ 23 ∧ tB (F w 4) (F (w + 1 + (3 + 4 * n) + 2) j).toNatClampNeg
theorem PRF_fr {F F' : mF} {w P : Nat} (hP : w + 100 ≤ P) (h : ∀ a k, ¬ (a = P ∨ a = P + 1) → F' a k = F a k) (hF : PRF F w) : PRF F' w := by
  intro n hn hA
  have gw : F' w 4 = F w 4 := h w 4 (by omega)
  have g0 : ∀ k, F' (w + 1 + (3 + 4 * n)) k = F (w + 1 + (3 + 4 * n)) k := fun k => h _ k (by omega)
  have g1 : ∀ k, F' (w + 1 + (3 + 4 * n) + 1) k = F (w + 1 + (3 + 4 * n) + 1) k := fun k => h _ k (by omega)
  have g2 : ∀ k, F' (w + 1 + (3 + 4 * n) + 2) k = F (w + 1 + (3 + 4 * n) + 2) k := fun k => h _ k (by omega)
  rw [gw] at hA
  obtain ⟨r1, r2, r3, r4, r5⟩ := hF n hn hA
  rw [g0, g0, g0, gw]
  exact ⟨r1, r2, r3, fun j hj => by rw [g1]; exact r4 j hj, fun j hj => by rw [g2]; exact r5 j hj⟩

set_option maxHeartbeats 4000000 in
set_option maxRecDepth 100000 in
theorem x_X4_put (l : Launch) (G : tG) (F : mF) (τ : Nat → Nat) (h0 : Nat) (x1 : Int32) (t0 : τ h0 = 8) (l1 : 0 ≤ x1.toInt) (u1 : x1.toInt ≤ 65535) : Met l yX4_put (.code yX4_put cX4_put 2 none :: tWS) (tRm 0 0) (va_Pc [.ref h0, .int x1] (tPre (gF G F) τ)) (tQG G τ (fun F9 => PRI h0 F F9 [x1.toInt])) 0 0 (tA τ) := by
  refine tc_met (by decide) (Nat.le_of_ble_eq_true rfl) ?_
  intro p e s m below meth c E hSt hr hlk hG ls hl
  have hl : lv_has ls 2 [(0, .ref h0), (1, .int x1)] := hl
  have hx := E.1
  have hb := E.2.1
  obtain ⟨H, eH⟩ : ∃ H, H = s.heap := ⟨_, rfl⟩
  obtain ⟨locs, eL⟩ : ∃ x : List Loc, x = [] := ⟨_, rfl⟩
  have hG : tGH (gF G F) τ s H locs := by rw [eH, eL]; exact hG
  suffices hW : W p l e (tRm 0 0) s m ([.ref h0, .int x1] : List Value).toArray below meth c H locs 0 0 (MQ below (tQG G τ (fun F9 => PRI h0 F F9 [x1.toInt])) ([.ref h0, .int x1] : List Value).toArray s 0 0 (tA τ)) (F0 m 0 ls []) by subst eH; subst eL; exact hW
  clear eH eL
  refine lv_aload_n hx hb dX4_put_0 rfl (lv_at hl 0 rfl) ?_
  refine tc_getF E hG t0 fi_X4_19 rfl dX4_put_1 (fun z1 lz1 uz1 wz1 => ?_)
  replace wz1 : z1 = F h0 1 := wz1
  have cz1 : z1.toInt = (F h0 1).toInt := by rw [wz1]
  refine lv_sipush (v := 960) hx hb dX4_put_4 (by decide) ?_
  refine lv_icmp_ge (tgt := 30) hx hb dX4_put_7 (by decide) (fun c2 => ?_) (fun c2 => ?_)
  · skip
    have ic2 := tn_le kI_960 rfl c2
    exact tc_vretF E hr hlk hG (PRI_full (by omega) (by omega)) dX4_put_30
  · skip
    have ic2 := tn_nle kI_960 rfl c2
    refine lv_aload_n hx hb dX4_put_10 rfl (lv_at hl 0 rfl) ?_
    refine tc_getrF (d := 1) E hG t0 fr_X4_11 rfl dX4_put_11 (fun ha3 => ?_)
    refine lv_aload_n hx hb dX4_put_14 rfl (lv_at hl 0 rfl) ?_
    refine tc_getF E hG t0 fi_X4_19 rfl dX4_put_15 (fun z4 lz4 uz4 wz4 => ?_)
    replace wz4 : z4 = F h0 1 := wz4
    have cz4 : z4.toInt = (F h0 1).toInt := by rw [wz4]
    refine lv_iload_n hx hb dX4_put_18 rfl (lv_at hl 1 rfl) ?_
    refine tc_castF E hG ha3 ta_19 (t_in (by omega) (by omega)) (by omega) (by omega) (by omega) (by omega) dX4_put_19 (fun H locs hG => ?_)
    obtain ⟨F5, eF5⟩ : ∃ Z : mF, Z = up2 F (h0 + 1) z4.toNatClampNeg x1 := ⟨_, rfl⟩
    replace hG : tGH (gF G F5) τ s H locs := by rw [eF5]; exact hG
    have E := E.f1 (F' := F5)
    have hSt := hSt.f1 (F' := F5)
    refine lv_aload_n hx hb dX4_put_20 rfl (lv_at hl 0 rfl) ?_
    refine lv_dup hx hb dX4_put_21 rfl ?_
    refine tc_getF E hG t0 fi_X4_19 rfl dX4_put_22 (fun z6 lz6 uz6 wz6 => ?_)
    replace wz6 : z6 = F5 h0 1 := wz6
    replace wz6 : z6 = F h0 1 := by rw [wz6, eF5, up2_ne (by omega)]
    have cz6 : z6.toInt = (F h0 1).toInt := by rw [wz6]
    refine lv_iconst (v := 1) hx hb dX4_put_25 (by decide) ?_
    refine lv_iadd hx hb dX4_put_26 ?_
    refine lv_topi (fun z7 ez7 => ?_)
    have tz7 := tn_add ez7 rfl kI_1 (by omega) (by omega)
    refine tc_putF (lo := 0) (hi := 960) E hG t0 (by decide) rfl rfl fq_X4_19 (by omega) (by omega) rfl rfl dX4_put_27 (fun H locs hG => ?_)
    obtain ⟨F8, eF8⟩ : ∃ Z : mF, Z = up2 F5 h0 1 z7 := ⟨_, rfl⟩
    replace hG : tGH (gF G F8) τ s H locs := by rw [eF8]; exact hG
    have E := E.f1 (F' := F8)
    have hSt := hSt.f1 (F' := F8)
    exact tc_vretF E hr hlk hG (by rw [eF8, eF5]; exact PRI_put (by omega) (by omega) (by show z4.toInt.toNat = _; omega) (by omega)) dX4_put_30

set_option maxHeartbeats 4000000 in
set_option maxRecDepth 100000 in
theorem x_X4_putWord (l : Launch) (G : tG) (F : mF) (τ : Nat → Nat) (h0 : Nat) (k1 : Nat) (t0 : τ h0 = 8) (hk1 : k1 < 10) (hr9 : 0 ≤ (F h0 1).toInt ∧ (F h0 1).toInt ≤ 960) : Met l yX4_putWord (.code yX4_putWord cX4_putWord 3 none :: tWS) (tRm 4 85) (va_Pc [.ref h0, .ref (G.2.2.2.1 k1)] (tPre (gF G F) τ)) (tQG G τ (fun F9 => PRI h0 F F9 (nmU k1 (tXl.getD k1 0)))) 0 0 (tA τ) := by
  refine tc_met (by decide) (Nat.le_of_ble_eq_true rfl) ?_
  intro p e s m below meth c E hSt hr hlk hG ls hl
  have hl : lv_has ls 3 [(0, .ref h0), (1, .ref (G.2.2.2.1 k1))] := hl
  have hx := E.1
  have hb := E.2.1
  obtain ⟨H, eH⟩ : ∃ H, H = s.heap := ⟨_, rfl⟩
  obtain ⟨locs, eL⟩ : ∃ x : List Loc, x = [] := ⟨_, rfl⟩
  have hG : tGH (gF G F) τ s H locs := by rw [eH, eL]; exact hG
  suffices hW : W p l e (tRm 4 85) s m ([.ref h0, .ref (G.2.2.2.1 k1)] : List Value).toArray below meth c H locs 0 0 (MQ below (tQG G τ (fun F9 => PRI h0 F F9 (nmU k1 (tXl.getD k1 0)))) ([.ref h0, .ref (G.2.2.2.1 k1)] : List Value).toArray s 0 0 (tA τ)) (F0 m 0 ls []) by subst eH; subst eL; exact hW
  clear eH eL
  have hnl := nm_len k1 hk1
  have J2 : ∀ (n2 : Nat) (Fc : mF) (H : Heap) (locs : List Loc) (ls : Array Slot) (v2 : Int32), tGH (gF G Fc) τ s H locs → lv_has ls 3 [(0, .ref h0), (1, .ref (G.2.2.2.1 k1)), (2, .int v2)] → 0 ≤ v2.toInt → v2.toInt ≤ 6 → (PRI h0 F Fc (nmU k1 v2.toInt.toNat) ∧ v2.toInt ≤ tXl.getD k1 0) → (6 - v2.toInt).toNat < n2 → W p l e (tRm 4 85) s m ([.ref h0, .ref (G.2.2.2.1 k1)] : List Value).toArray below meth c H locs 0 0 (MQ below (tQG G τ (fun F9 => PRI h0 F F9 (nmU k1 (tXl.getD k1 0)))) ([.ref h0, .ref (G.2.2.2.1 k1)] : List Value).toArray s 0 0 (tA τ)) (F0 m 2 ls []) := by
    intro n2
    induction n2 with
    | zero => intro Fc H locs ls v2 hG hl b2 c2 hex2 hn2; exact absurd hn2 (Nat.not_lt_zero _)
    | succ n2 ih2 =>
      intro Fc H locs ls v2 hG hl b2 c2 hex2 hn2
      have E := E.f1 (F' := Fc)
      have hSt := hSt.f1 (F' := Fc)
      refine lv_iload_n hx hb dX4_putWord_2 rfl (lv_at hl 2 rfl) ?_
      refine lv_aload_n hx hb dX4_putWord_3 rfl (lv_at hl 1 rfl) ?_
      refine tc_callp (ts_runV (As := []) (rest := [.int v2]) E hSt hG hk1 (c_J0_length_8abf5 l (gF G Fc) τ k1 hk1) rfl kv_J0_length_8abf5 ml_X4_78 ⟨rfl, rfl, Nat.le_of_ble_eq_true rfl, Nat.le_of_ble_eq_true rfl⟩ rfl hl.1 rfl (Nat.le_of_ble_eq_true rfl) ⟨Nat.zero_le _, Nat.zero_le _⟩ dX4_putWord_4) (fun r1 pr1 => ?_)
      have pr1 : r1.toInt = ((tXl.getD k1 0 : Nat) : Int) ∧ 0 ≤ r1.toInt ∧ r1.toInt ≤ 6 := pr1
      refine lv_icmp_ge (tgt := 25) hx hb dX4_putWord_7 (by decide) (fun c2 => ?_) (fun c2 => ?_)
      · skip
        have ic2 := tn_le rfl rfl c2
        exact tc_vretF E hr hlk hG (PRI_eq hex2.1 (by rw [show v2.toInt.toNat = tXl.getD k1 0 by omega])) dX4_putWord_25
      · skip
        have ic2 := tn_nle rfl rfl c2
        refine lv_aload_n hx hb dX4_putWord_10 rfl (lv_at hl 0 rfl) ?_
        refine lv_aload_n hx hb dX4_putWord_11 rfl (lv_at hl 1 rfl) ?_
        refine lv_iload_n hx hb dX4_putWord_12 rfl (lv_at hl 2 rfl) ?_
        refine tc_callp (ts_runV (As := [.int v2]) (rest := [.ref h0]) E hSt hG hk1 (x_J0_charAt_5068e l (gF G Fc) τ k1 v2 hk1 (by omega) (by omega) (by omega)) rfl kv_J0_charAt_5068e ml_X4_83 ⟨rfl, rfl, Nat.le_of_ble_eq_true rfl, Nat.le_of_ble_eq_true rfl⟩ rfl hl.1 rfl (Nat.le_of_ble_eq_true rfl) ⟨Nat.zero_le _, Nat.zero_le _⟩ dX4_putWord_13) (fun r3 pr3 => ?_)
        have pr3 : r3.toInt = nmc k1 v2.toInt.toNat ∧ 0 ≤ r3.toInt ∧ r3.toInt ≤ 65535 := pr3
        refine tc_callvF hG (tc_runV (As := [.int r3]) (rest := []) E hSt hG (x_X4_put l G Fc τ h0 r3 t0 (by omega) (by omega)) t0 rv_8 kv_X4_put ml_X4_56 ⟨rfl, rfl, Nat.le_of_ble_eq_true rfl, Nat.le_of_ble_eq_true rfl⟩ rfl hl.1 rfl (Nat.le_of_ble_eq_true rfl) ⟨Nat.zero_le _, Nat.zero_le _⟩ dX4_putWord_16) (fun F5 H locs pr4 hG => ?_)
        have E := E.f1 (F' := F5)
        have hSt := hSt.f1 (F' := F5)
        replace pr4 : PRI h0 Fc F5 [r3.toInt] := pr4
        have ur4 := PRI.trans hex2.1 pr4
        obtain ⟨z6, ez6⟩ : ∃ y : Int32, y = v2 + (1) := ⟨_, rfl⟩
        refine lv_iinc (v := z6) (lv' := [(2, .int z6), (0, .ref h0), (1, .ref (G.2.2.2.1 k1))]) hx hb dX4_putWord_19 hl (k := 2) rfl (by rw [ez6]; rfl) (by decide) rfl (fun ls hl => ?_)
        have tz6 := tn_add ez6 rfl kI_1 (by omega) (by omega)
        refine lv_goto (tgt := 2) hx hb dX4_putWord_22 (by decide) ?_
        exact ih2 F5 H locs ls z6 hG (lv_sub hl [1, 2, 0] rfl) (by omega) (by omega) (by refine ⟨PRI_eq ur4 ?_, (by omega)⟩; rw [show z6.toInt.toNat = v2.toInt.toNat + 1 by omega]; show _ = nmU k1 v2.toInt.toNat ++ [nmc k1 v2.toInt.toNat]; rw [pr3.1]) (by omega)
  refine lv_iconst (v := 0) hx hb dX4_putWord_0 (by decide) ?_
  refine lv_istore_n (lv' := [(2, .int 0), (0, .ref h0), (1, .ref (G.2.2.2.1 k1))]) hx hb dX4_putWord_1 rfl hl (by decide) rfl (fun ls hl => ?_)
  exact J2 ((6 - (0 : Int32).toInt).toNat + 1) F H locs ls (0 : Int32) hG (lv_sub hl [1, 2, 0] rfl) (by decide) (by decide) (by exact ⟨(by rw [show (0 : Int32).toInt.toNat = 0 from by decide]; exact PRI.refl hr9), (by have k0 := kI_0; omega)⟩) (Nat.lt_succ_self _)

set_option maxHeartbeats 4000000 in
set_option maxRecDepth 100000 in
theorem x_X4_putNumber (l : Launch) (G : tG) (F : mF) (τ : Nat → Nat) (h0 : Nat) (x1 : Int32) (t0 : τ h0 = 8) (l1 : 0 ≤ x1.toInt) (u1 : x1.toInt ≤ 99) : Met l yX4_putNumber (.code yX4_putNumber cX4_putNumber 2 none :: tWS) (tRm 1 21) (va_Pc [.ref h0, .int x1] (tPre (gF G F) τ)) (tQG G τ (fun F9 => PRI h0 F F9 (numL x1.toInt))) 0 0 (tA τ) := by
  refine tc_met (by decide) (Nat.le_of_ble_eq_true rfl) ?_
  intro p e s m below meth c E hSt hr hlk hG ls hl
  have hl : lv_has ls 2 [(0, .ref h0), (1, .int x1)] := hl
  have hx := E.1
  have hb := E.2.1
  obtain ⟨H, eH⟩ : ∃ H, H = s.heap := ⟨_, rfl⟩
  obtain ⟨locs, eL⟩ : ∃ x : List Loc, x = [] := ⟨_, rfl⟩
  have hG : tGH (gF G F) τ s H locs := by rw [eH, eL]; exact hG
  suffices hW : W p l e (tRm 1 21) s m ([.ref h0, .int x1] : List Value).toArray below meth c H locs 0 0 (MQ below (tQG G τ (fun F9 => PRI h0 F F9 (numL x1.toInt))) ([.ref h0, .int x1] : List Value).toArray s 0 0 (tA τ)) (F0 m 0 ls []) by subst eH; subst eL; exact hW
  clear eH eL
  refine lv_iload_n hx hb dX4_putNumber_0 rfl (lv_at hl 1 rfl) ?_
  refine lv_bipush (v := 10) hx hb dX4_putNumber_1 (by decide) ?_
  refine lv_icmp_lt (tgt := 18) hx hb dX4_putNumber_3 (by decide) (fun c1 => ?_) (fun c1 => ?_)
  · skip
    have ic1 := tn_lt rfl kI_10 c1
    refine lv_aload_n hx hb dX4_putNumber_18 rfl (lv_at hl 0 rfl) ?_
    refine lv_bipush (v := 48) hx hb dX4_putNumber_19 (by decide) ?_
    refine lv_iload_n hx hb dX4_putNumber_21 rfl (lv_at hl 1 rfl) ?_
    refine lv_bipush (v := 10) hx hb dX4_putNumber_22 (by decide) ?_
    refine lv_irem hx hb dX4_putNumber_24 (by decide) ?_
    refine lv_topi (fun z2 ez2 => ?_)
    have tz2 := tn_rem ez2 kI_10 (by omega) (by decide)
    refine lv_iadd hx hb dX4_putNumber_25 ?_
    refine lv_topi (fun z3 ez3 => ?_)
    have tz3 := tn_add ez3 kI_48 rfl (by omega) (by omega)
    refine lv_i2c hx hb dX4_putNumber_26 rfl ?_
    refine lv_topi (fun z4 ez4 => ?_)
    have tz4 : z4.toInt = z3.toInt := by rw [ez4, i2c_id (by omega) (by omega)]
    refine tc_callvF hG (tc_runV (As := [.int z4]) (rest := []) E hSt hG (x_X4_put l G F τ h0 z4 t0 (by omega) (by omega)) t0 rv_8 kv_X4_put ml_X4_56 ⟨rfl, rfl, Nat.le_of_ble_eq_true rfl, Nat.le_of_ble_eq_true rfl⟩ rfl hl.1 rfl (Nat.le_of_ble_eq_true rfl) ⟨Nat.zero_le _, Nat.zero_le _⟩ dX4_putNumber_27) (fun F6 H locs pr5 hG => ?_)
    have E := E.f1 (F' := F6)
    have hSt := hSt.f1 (F' := F6)
    replace pr5 : PRI h0 F F6 [z4.toInt] := pr5
    have ur5 := pr5
    exact tc_vretF E hr hlk hG (PRI_eq ur5 (by unfold numL; rw [if_neg (by omega), show z4.toInt = 48 + x1.toInt by omega])) dX4_putNumber_30
  · skip
    have ic1 := tn_nlt rfl kI_10 c1
    refine lv_aload_n hx hb dX4_putNumber_6 rfl (lv_at hl 0 rfl) ?_
    refine lv_bipush (v := 48) hx hb dX4_putNumber_7 (by decide) ?_
    refine lv_iload_n hx hb dX4_putNumber_9 rfl (lv_at hl 1 rfl) ?_
    refine lv_bipush (v := 10) hx hb dX4_putNumber_10 (by decide) ?_
    refine lv_idiv hx hb dX4_putNumber_12 (by decide) ?_
    refine lv_topi (fun z7 ez7 => ?_)
    have tz7 := tn_div10 ez7 (by omega) (by omega)
    refine lv_iadd hx hb dX4_putNumber_13 ?_
    refine lv_topi (fun z8 ez8 => ?_)
    have tz8 := tn_add ez8 kI_48 rfl (by omega) (by omega)
    refine lv_i2c hx hb dX4_putNumber_14 rfl ?_
    refine lv_topi (fun z9 ez9 => ?_)
    have tz9 : z9.toInt = z8.toInt := by rw [ez9, i2c_id (by omega) (by omega)]
    refine tc_callvF hG (tc_runV (As := [.int z9]) (rest := []) E hSt hG (x_X4_put l G F τ h0 z9 t0 (by omega) (by omega)) t0 rv_8 kv_X4_put ml_X4_56 ⟨rfl, rfl, Nat.le_of_ble_eq_true rfl, Nat.le_of_ble_eq_true rfl⟩ rfl hl.1 rfl (Nat.le_of_ble_eq_true rfl) ⟨Nat.zero_le _, Nat.zero_le _⟩ dX4_putNumber_15) (fun F11 H locs pr10 hG => ?_)
    have E := E.f1 (F' := F11)
    have hSt := hSt.f1 (F' := F11)
    replace pr10 : PRI h0 F F11 [z9.toInt] := pr10
    have ur10 := pr10
    refine lv_aload_n hx hb dX4_putNumber_18 rfl (lv_at hl 0 rfl) ?_
    refine lv_bipush (v := 48) hx hb dX4_putNumber_19 (by decide) ?_
    refine lv_iload_n hx hb dX4_putNumber_21 rfl (lv_at hl 1 rfl) ?_
    refine lv_bipush (v := 10) hx hb dX4_putNumber_22 (by decide) ?_
    refine lv_irem hx hb dX4_putNumber_24 (by decide) ?_
    refine lv_topi (fun z12 ez12 => ?_)
    have tz12 := tn_rem ez12 kI_10 (by omega) (by decide)
    refine lv_iadd hx hb dX4_putNumber_25 ?_
    refine lv_topi (fun z13 ez13 => ?_)
    have tz13 := tn_add ez13 kI_48 rfl (by omega) (by omega)
    refine lv_i2c hx hb dX4_putNumber_26 rfl ?_
    refine lv_topi (fun z14 ez14 => ?_)
    have tz14 : z14.toInt = z13.toInt := by rw [ez14, i2c_id (by omega) (by omega)]
    refine tc_callvF hG (tc_runV (As := [.int z14]) (rest := []) E hSt hG (x_X4_put l G F11 τ h0 z14 t0 (by omega) (by omega)) t0 rv_8 kv_X4_put ml_X4_56 ⟨rfl, rfl, Nat.le_of_ble_eq_true rfl, Nat.le_of_ble_eq_true rfl⟩ rfl hl.1 rfl (Nat.le_of_ble_eq_true rfl) ⟨Nat.zero_le _, Nat.zero_le _⟩ dX4_putNumber_27) (fun F16 H locs pr15 hG => ?_)
    have E := E.f1 (F' := F16)
    have hSt := hSt.f1 (F' := F16)
    replace pr15 : PRI h0 F11 F16 [z14.toInt] := pr15
    have ur15 := PRI.trans ur10 pr15
    exact tc_vretF E hr hlk hG (PRI_eq ur15 (by unfold numL; rw [if_pos (by omega)]; show [_, _] = [_, _]; rw [show z9.toInt = 48 + x1.toInt / 10 by omega, show z14.toInt = 48 + x1.toInt % 10 by omega])) dX4_putNumber_30
