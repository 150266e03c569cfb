/-! ===== the reference, exactly: printing ===== -/
def PPx (c k : Nat) : Bool := PP c k || c == 19
theorem PPx_cu {cu : Nat} (h : mCu cu) (k : Nat) : PPx cu k = false := by
  unfold PPx
  rw [PP_cu h k]
  rcases h with e | e | e | e <;> subst e <;> rfl
theorem PPx_tr {cu : Nat} (h : mCu cu) : ∀ k, tr k = true → PPx cu k = false := fun k _ => PPx_cu h k
theorem PPx_d : PPx 1 18 = true := rfl
theorem PPx_p : PPx 1 34 = true := rfl
theorem PPx_10 {k : Nat} : PPx 10 k = true := rfl
theorem PPx_11 {k : Nat} : PPx 11 k = true := rfl
theorem PPx_19 {k : Nat} : PPx 19 k = true := by unfold PPx; simp
theorem PPx_qn {a : Nat → Option (Nat → Int32)} (c k : Nat) (h : PPx c k = true) : qX a c k = none := by
  by_cases e : c = 19
  · exact qX_nc (by unfold mCu; omega) (by omega)
  · unfold PPx at h
    rw [show (c == 19) = false from by simp [e], Bool.or_false] at h
    exact PP_qn c k h
/-- what is printed -/
def POt (F : mF) : List Int := (List.range (F 1 34).toInt.toNat).map (fun k => (F 19 k).toInt)
theorem POt_len {F : mF} : (POt F).length = (F 1 34).toInt.toNat := by simp [POt]
def PSx (F F' : mF) (n : Int) (L : List Int) : Prop := PQ F F' n ∧ POt F' = POt F ++ L
theorem PSx.refl {F : mF} {n : Int} (h : 0 ≤ n) (h0 : 0 ≤ (F 1 34).toInt) : PSx F F n [] := ⟨PQ.refl h h0, (List.append_nil _).symm⟩
theorem PSx.trans {F F' F'' : mF} {n m k : Int} {L L' : List Int} (h : PSx F F' n L) (h' : PSx F' F'' m L') (hk : n + m ≤ k) : PSx F F'' k (L ++ L') := ⟨h.1.trans h'.1 hk, by rw [h'.2, h.2, List.append_assoc]⟩
theorem PSx.le {F F' : mF} {n m : Int} {L : List Int} (h : PSx F F' n L) (hk : n ≤ m) : PSx F F' m L := ⟨h.1.le hk, h.2⟩
theorem PSx.eq {F F' : mF} {n m : Int} {L L' : List Int} (h : PSx F F' n L) (hk : n ≤ m) (e : L = L') : PSx F F' m L' := e ▸ h.le hk
theorem PSx_1 {F F1 F2 : mF} {i : Nat} {c v : Int32} (e1 : F1 = up2 F 19 i c) (e2 : F2 = up2 F1 1 34 v) (hi : i = (F 1 34).toInt.toNat) (h0 : 0 ≤ (F 1 34).toInt) (hv : v.toInt = (F 1 34).toInt + 1) : PSx F F2 1 [c.toInt] := by
  refine ⟨⟨by rw [e2, up2_at]; omega, by rw [e2, up2_at]; omega, by rw [e2, up2_ne (by decide), e1, up2_ne (by omega)], by rw [e2, up2_nc (by decide), e1, up2_nc (by decide)], by rw [e2, up2_nc (by decide), e1, up2_nc (by decide)]⟩, ?_⟩
  unfold POt
  rw [show (F2 1 34).toInt.toNat = i + 1 by rw [e2, up2_at]; omega, List.range_succ, List.map_append, ← hi]
  have g : ∀ k, ¬ k = i → F2 19 k = F 19 k := fun k hk => by rw [e2, up2_ne (by omega), e1, up2_ne (by omega)]
  have g1 : F2 19 i = c := by rw [e2, up2_ne (by omega), e1, up2_at]
  rw [List.map_congr_left (g := fun k => (F 19 k).toInt) (fun k hk => by
    have := List.mem_range.mp hk
    rw [g k (by omega)])]
  show _ ++ [(F2 19 i).toInt] = _
  rw [g1]
theorem nmR_s {F F' : mF} {n m : Int} {k i j : Nat} {x : Int} (h : PSx F F' n (nmU k i ++ [x])) (hk : n ≤ m) (hj : j = i + 1) (hx : x = nmc k i) : PSx F F' m (nmU k j) := by
  subst hj; subst hx
  exact h.eq hk rfl
theorem nmsR_1 {F F' : mF} {T : Int → Int → Int} {b x y v n m : Int} {i j : Nat} {L : List Int} (h : PSx F F' n (((L ++ nmsL T b i) ++ [x]) ++ [y])) (hk : n ≤ m) (hx : x = 32) (hj : j = i + 1) (hv : v = T b (2 + (i : Int))) (hy : y = 48 + v) (h9 : v < 10) : PSx F F' m (L ++ nmsL T b j) := by
  subst hx; subst hj; subst hv; subst hy
  refine h.eq hk ?_
  show _ = L ++ (nmsL T b i ++ (32 :: numL (T b (2 + (i : Int)))))
  unfold numL
  rw [if_neg (by omega)]
  simp only [List.append_assoc, List.cons_append, List.nil_append]
theorem nmsR_2 {F F' : mF} {T : Int → Int → Int} {b x y z v n m : Int} {i j : Nat} {L : List Int} (h : PSx F F' n ((((L ++ nmsL T b i) ++ [x]) ++ [y]) ++ [z])) (hk : n ≤ m) (hx : x = 32) (hj : j = i + 1) (hv : v = T b (2 + (i : Int))) (hy : y = 48 + v / 10) (hz : z = 48 + v % 10) (h9 : 10 ≤ v) : PSx F F' m (L ++ nmsL T b j) := by
  subst hx; subst hj; subst hv; subst hy; subst hz
  refine h.eq hk ?_
  show _ = L ++ (nmsL T b i ++ (32 :: numL (T b (2 + (i : Int)))))
  unfold numL
  rw [if_pos h9]
  simp only [List.append_assoc, List.cons_append, List.nil_append]
theorem ownR_n {F F' : mF} {T : Int → Int → Int} {b k n : Int} {kl i : Nat} (h : PSx F F' n (nmU k.toNat kl ++ nmsL T b i)) (hn : n ≤ 20) (hk : T b 1 = k) (hkl : kl = tXl.getD k.toNat 0) (hi : i = (nNum k).toNat) (h0 : ¬ 0 < T b 6) : PSx F F' 20 (ownL T b) := by
  refine h.eq hn ?_
  unfold ownL shL
  rw [if_neg h0, hk, hi, hkl, List.append_nil]
theorem ownR_s {F F' : mF} {T : Int → Int → Int} {b k n x y : Int} {kl i : Nat} (h : PSx F F' n (((nmU k.toNat kl ++ nmsL T b i) ++ [x]) ++ [y])) (hn : n ≤ 20) (hk : T b 1 = k) (hkl : kl = tXl.getD k.toNat 0) (hi : i = (nNum k).toNat) (hx : x = 42) (hy : y = 48 + T b 6) (h0 : 0 < T b 6) (h9 : T b 6 ≤ 9) : PSx F F' 20 (ownL T b) := by
  subst hx; subst hy
  refine h.eq hn ?_
  unfold ownL shL numL
  rw [if_pos h0, if_neg (by omega), hk, hi, hkl]
  simp only [List.append_assoc, List.cons_append, List.nil_append]
/-- the kids from i on -/
def kdZ (T : Int → Int → Int) (f : Int → List Int) (b : Int) : Nat → Nat → List Int
  | _, 0 => []
  | i, n + 1 => ((if i = 0 then 40 else 44) :: f (T b (11 + (i : Int)))) ++ kdZ T f b (i + 1) n
theorem kdL_F {T : Int → Int → Int} {f : Int → List Int} {b : Int} : ∀ (n i : Nat), kdL T f b i ++ kdZ T f b i n = kdL T f b (i + n)
  | 0, i => List.append_nil _
  | n + 1, i => by
    show kdL T f b i ++ (((if i = 0 then 40 else 44) :: f (T b (11 + (i : Int)))) ++ kdZ T f b (i + 1) n) = _
    rw [← List.append_assoc]
    show kdL T f b (i + 1) ++ kdZ T f b (i + 1) n = _
    rw [kdL_F n (i + 1), show i + 1 + n = i + (n + 1) by omega]
theorem kdL_eq {T : Int → Int → Int} {f g : Int → List Int} {b : Int} : ∀ n : Nat, (∀ i : Nat, i < n → f (T b (11 + (i : Int))) = g (T b (11 + (i : Int)))) → kdL T f b n = kdL T g b n
  | 0, _ => rfl
  | n + 1, h => by
    show kdL T f b n ++ ((if n = 0 then 40 else 44) :: f (T b (11 + (n : Int)))) = kdL T g b n ++ ((if n = 0 then 40 else 44) :: g (T b (11 + (n : Int))))
    rw [kdL_eq n (fun i hi => h i (by omega)), h n (by omega)]
/-- who holds whom -/
def TKd (T : Int → Int → Int) : Prop := ∀ b i : Int, 0 ≤ b → b ≤ 23 → 0 ≤ i → i < T b 10 → b < T b (11 + i) ∧ T b (11 + i) ≤ 23
theorem pT_fuel {T : Int → Int → Int} (hk : TKd T) : ∀ (n d d' : Nat) (b : Int), 0 ≤ b → b ≤ 23 → (24 - b).toNat ≤ n → (24 - b).toNat ≤ d → (24 - b).toNat ≤ d' → pT T d b = pT T d' b
  | 0, _, _, b, _, h2, h3, _, _ => by omega
  | n + 1, d, d', b, h1, h2, h3, h4, h5 => by
    obtain ⟨e, he⟩ : ∃ e, d = e + 1 := ⟨d - 1, by omega⟩
    obtain ⟨e', he'⟩ : ∃ e, d' = e + 1 := ⟨d' - 1, by omega⟩
    subst he; subst he'
    show (ownL T b ++ kdL T (pT T e) b (T b 10).toNat) ++ clL (T b 10) = (ownL T b ++ kdL T (pT T e') b (T b 10).toNat) ++ clL (T b 10)
    rw [kdL_eq (f := pT T e) (g := pT T e') _ (fun i hi => by
      have h6 := hk b (i : Int) h1 h2 (by omega) (by omega)
      exact pT_fuel hk n e e' _ (by omega) h6.2 (by omega) (by omega) (by omega))]
theorem pT_24 {T : Int → Int → Int} (hk : TKd T) {b : Int} (h1 : 0 ≤ b) (h2 : b ≤ 23) : pT T 24 b = (ownL T b ++ kdL T (pT T 24) b (T b 10).toNat) ++ clL (T b 10) := by
  show (ownL T b ++ kdL T (pT T 23) b (T b 10).toNat) ++ clL (T b 10) = _
  rw [kdL_eq (f := pT T 23) (g := pT T 24) _ (fun i hi => by
    have h6 := hk b (i : Int) h1 h2 (by omega) (by omega)
    exact pT_fuel hk 24 23 24 _ (by omega) h6.2 (by omega) (by omega) (by omega))]
/-- what is still to be printed of b, at its child i -/
def hdL (T : Int → Int → Int) (b i : Int) : List Int := if i = 0 then ownL T b else []
def rsL (T : Int → Int → Int) (b i : Int) : List Int := hdL T b i ++ (kdZ T (pT T 24) b i.toNat ((T b 10).toNat - i.toNat) ++ clL (T b 10))
theorem rsL_0 {T : Int → Int → Int} (hk : TKd T) {b : Int} (h1 : 0 ≤ b) (h2 : b ≤ 23) : rsL T b 0 = pT T 24 b := by
  rw [pT_24 hk h1 h2]
  unfold rsL hdL
  rw [if_pos rfl, ← List.append_assoc]
  have := kdL_F (T := T) (f := pT T 24) (b := b) (T b 10).toNat 0
  rw [show kdL T (pT T 24) b 0 = [] from rfl, List.nil_append, Nat.zero_add] at this
  rw [show (0 : Int).toNat = 0 from rfl, Nat.sub_zero, this]
theorem rsL_end {T : Int → Int → Int} {b i : Int} (h : T b 10 ≤ i) : rsL T b i = hdL T b i ++ clL (T b 10) := by
  unfold rsL
  rw [show (T b 10).toNat - i.toNat = 0 by omega]
  rfl
theorem rsL_s {T : Int → Int → Int} (hk : TKd T) {b i j c : Int} (h1 : 0 ≤ b) (h2 : b ≤ 23) (h0 : 0 ≤ i) (h : i < T b 10) (hj : j = i + 1) (hc : c = T b (11 + i)) : rsL T b i = (hdL T b i ++ [if i = 0 then 40 else 44]) ++ (rsL T c 0 ++ rsL T b j) := by
  have h6 := hk b i h1 h2 h0 h
  rw [← hc] at h6
  rw [rsL_0 hk (by omega) h6.2]
  unfold rsL
  have e1 : hdL T b j = [] := by unfold hdL; rw [if_neg (by omega)]
  rw [e1, List.nil_append]
  obtain ⟨n, hn⟩ : ∃ n, (T b 10).toNat - i.toNat = n + 1 := ⟨(T b 10).toNat - i.toNat - 1, by omega⟩
  rw [hn, show (T b 10).toNat - j.toNat = n by omega, show j.toNat = i.toNat + 1 by omega]
  show hdL T b i ++ ((((if i.toNat = 0 then 40 else 44) :: pT T 24 (T b (11 + ((i.toNat : Nat) : Int)))) ++ kdZ T (pT T 24) b (i.toNat + 1) n) ++ clL (T b 10)) = _
  rw [show ((i.toNat : Nat) : Int) = i by omega, ← hc]
  by_cases z : i = 0
  · rw [if_pos z, if_pos (by omega)]
    simp only [List.append_assoc, List.cons_append, List.nil_append]
  · rw [if_neg z, if_neg (by omega)]
    simp only [List.append_assoc, List.cons_append, List.nil_append]
/-- of all on the stack -/
def rmS (T : Int → Int → Int) (F : mF) : Nat → List Int
  | 0 => []
  | i + 1 => rsL T (F 10 i).toInt (F 11 (F 10 i).toNatClampNeg).toInt ++ rmS T F i
theorem rmS_eq {T : Int → Int → Int} {F F' : mF} : ∀ n : Nat, (∀ i : Nat, i < n → F' 10 i = F 10 i ∧ F' 11 (F 10 i).toNatClampNeg = F 11 (F 10 i).toNatClampNeg) → rmS T F' n = rmS T F n
  | 0, _ => rfl
  | n + 1, h => by
    show rsL T (F' 10 n).toInt (F' 11 (F' 10 n).toNatClampNeg).toInt ++ rmS T F' n = rsL T (F 10 n).toInt (F 11 (F 10 n).toNatClampNeg).toInt ++ rmS T F n
    have h1 := h n (by omega)
    rw [rmS_eq n (fun i hi => h i (by omega)), h1.1, h1.2]
/-- what is printed and what is to be printed make up all -/
def PCx (T : Int → Int → Int) (x : Int) (F : mF) : Prop := POt F ++ rmS T F (F 1 18).toInt.toNat = pT T 24 x
theorem POt_eq {F F' : mF} (h1 : F' 1 34 = F 1 34) (h2 : F' 19 = F 19) : POt F' = POt F := by unfold POt; rw [h1, h2]
theorem PCx_0 {T : Int → Int → Int} {x : Int} {F F1 F2 F3 F4} {c v w u : Int32} (hk : TKd T) (e1 : F1 = up2 F 1 34 v) (hv : v.toInt = 0) (e2 : F2 = up2 F1 1 18 w) (hw : w.toInt = 1) (e3 : F3 = up2 F2 10 0 c) (e4 : F4 = up2 F3 11 c.toNatClampNeg u) (hu : u.toInt = 0) (hx : c.toInt = x) (h0 : 0 ≤ x) (h23 : x ≤ 23) : PCx T x F4 := by
  have g18 : F4 1 18 = w := by rw [e4, up2_ne (by omega), e3, up2_ne (by omega), e2, up2_at]
  have g34 : F4 1 34 = v := by rw [e4, up2_ne (by omega), e3, up2_ne (by omega), e2, up2_ne (by decide), e1, up2_at]
  have g10 : F4 10 0 = c := by rw [e4, up2_ne (by omega), e3, up2_at]
  have g11 : F4 11 c.toNatClampNeg = u := by rw [e4, up2_at]
  unfold PCx
  rw [g18, hw]
  have e0 : POt F4 = [] := by unfold POt; rw [g34, hv]; rfl
  rw [e0, List.nil_append]
  show rsL T (F4 10 0).toInt (F4 11 (F4 10 0).toNatClampNeg).toInt ++ [] = _
  rw [g10, g11, hu, hx, List.append_nil, rsL_0 hk h0 h23]
theorem PCx_pop {T : Int → Int → Int} {x : Int} {F F2 F3 : mF} {n : Nat} {b i v : Int32} {p : Int} {L : List Int} (h : PCx T x F) (hd : 1 ≤ (F 1 18).toInt) (hn : (n : Int) = (F 1 18).toInt - 1) (hb : b = F 10 n) (hi : i = F 11 b.toNatClampNeg) (hq : PSx F F2 p L) (hge : T b.toInt 10 ≤ i.toInt) (hL : L = hdL T b.toInt i.toInt ++ clL (T b.toInt 10)) (e3 : F3 = up2 F2 1 18 v) (hv : v.toInt = (F2 1 18).toInt - 1) : PCx T x F3 := by
  obtain ⟨⟨q1, q2, q3, q4, q5⟩, q6⟩ := hq
  have g18 : (F3 1 18).toInt = (F 1 18).toInt - 1 := by rw [e3, up2_at, hv, q3]
  have g10 : F3 10 = F 10 := by rw [e3, up2_nc (by decide), q4]
  have g11 : F3 11 = F 11 := by rw [e3, up2_nc (by decide), q5]
  unfold PCx at h ⊢
  rw [show (F 1 18).toInt.toNat = n + 1 by omega] at h
  rw [show (F3 1 18).toInt.toNat = n by omega]
  have eP : POt F3 = POt F2 := POt_eq (by rw [e3, up2_ne (by decide)]) (by rw [e3, up2_nc (by decide)])
  rw [eP, q6, hL, ← h, rmS_eq n (fun j _ => ⟨by rw [g10], by rw [g11]⟩)]
  show _ = POt F ++ (rsL T (F 10 n).toInt (F 11 (F 10 n).toNatClampNeg).toInt ++ rmS T F n)
  rw [← hb, ← hi, rsL_end hge, List.append_assoc, List.append_assoc]
theorem PCx_push {T : Int → Int → Int} {t : Nat → Int32} {x : Int} {F F2 F3 F4 F5 F6 : mF} {n : Nat} {b i c s' d u v : Int32} {p : Int} {L : List Int} (hk : TKd T) (hI : TInv t) (hJ : PJ t x F) (h : PCx T x F) (hd : 1 ≤ (F 1 18).toInt) (hn : (n : Int) = (F 1 18).toInt - 1) (hb : b = F 10 n) (hi : i = F 11 b.toNatClampNeg) (hq : PSx F F2 p L) (hlt : i.toInt < T b.toInt 10) (hL : L = hdL T b.toInt i.toInt ++ [if i.toInt = 0 then 40 else 44]) (hc : c.toInt = T b.toInt (11 + i.toInt))
    (e3 : F3 = up2 F2 11 b.toNatClampNeg s') (hs' : s'.toInt = i.toInt + 1) (e4 : F4 = up2 F3 10 d.toNatClampNeg c) (ed : d = F 1 18) (e5 : F5 = up2 F4 11 c.toNatClampNeg u) (hu : u = 0) (e6 : F6 = up2 F5 1 18 v) (hv : v.toInt = (F 1 18).toInt + 1) : PCx T x F6 := by
  obtain ⟨V, h1, h2, h3, h4, h5, h6, h7⟩ := hJ
  obtain ⟨⟨q1, q2, q3, q4, q5⟩, q6⟩ := hq
  have hS := h1.2.1
  have hbn := hS n (by omega)
  rw [← hb] at hbn
  have hR := h1.2.2 n (by omega)
  rw [← hb, ← hi] at hR
  have hle := hS.le
  have hch := hk b.toInt i.toInt (by omega) (by omega) hR.1 hlt
  rw [← hc] at hch
  have hcb : ¬ c.toNatClampNeg = b.toNatClampNeg := by show ¬ c.toInt.toNat = b.toInt.toNat; omega
  have n18 : d.toNatClampNeg = n + 1 := by rw [ed]; show (F 1 18).toInt.toNat = n + 1; omega
  have g18 : (F6 1 18).toInt = (F 1 18).toInt + 1 := by rw [e6, up2_at]; exact hv
  have g10 : F6 10 = upN (F 10) (n + 1) c := by rw [e6, up2_nc (by decide), e5, up2_nc (by decide), e4, up2_c, e3, up2_nc (by decide), q4, n18]
  have g11 : F6 11 = upN (upN (F 11) b.toNatClampNeg s') c.toNatClampNeg u := by rw [e6, up2_nc (by decide), e5, up2_c, e4, up2_nc (by decide), e3, up2_c, q5]
  have eP : POt F6 = POt F2 := POt_eq (by rw [e6, up2_ne (by decide), e5, up2_ne (by omega), e4, up2_ne (by omega), e3, up2_ne (by omega)]) (by rw [e6, up2_nc (by decide), e5, up2_nc (by decide), e4, up2_nc (by decide), e3, up2_nc (by decide)])
  have gb : F6 10 n = b := by rw [g10, upN_ne (by omega), ← hb]
  have gc : F6 10 (n + 1) = c := by rw [g10, upN_at]
  have gs : F6 11 b.toNatClampNeg = s' := by rw [g11, upN_ne (fun y => hcb y.symm), upN_at]
  have gu : F6 11 c.toNatClampNeg = u := by rw [g11, upN_at]
  unfold PCx at h ⊢
  rw [show (F 1 18).toInt.toNat = n + 1 by omega] at h
  rw [show (F6 1 18).toInt.toNat = n + 2 by omega, eP, q6, hL, ← h]
  show _ ++ (rsL T (F6 10 (n + 1)).toInt (F6 11 (F6 10 (n + 1)).toNatClampNeg).toInt ++ (rsL T (F6 10 n).toInt (F6 11 (F6 10 n).toNatClampNeg).toInt ++ rmS T F6 n)) = POt F ++ (rsL T (F 10 n).toInt (F 11 (F 10 n).toNatClampNeg).toInt ++ rmS T F n)
  rw [gc, gu, gb, gs, ← hb, ← hi, rmS_eq (F := F) (F' := F6) n (fun j hj => by
    have hjn := hbn.2.2 j hj
    have hj0 := hS j (by omega)
    have a1 : ¬ (F 10 j).toNatClampNeg = c.toNatClampNeg := by show ¬ (F 10 j).toInt.toNat = c.toInt.toNat; omega
    have a2 : ¬ (F 10 j).toNatClampNeg = b.toNatClampNeg := by show ¬ (F 10 j).toInt.toNat = b.toInt.toNat; omega
    exact ⟨by rw [g10, upN_ne (by omega)], by rw [g11, upN_ne a1, upN_ne a2]⟩)]
  rw [rsL_s hk (by omega) (by omega) hR.1 hlt hs' hc, show u.toInt = 0 by rw [hu]; rfl]
  simp only [List.append_assoc]
theorem TInv.kd {t : Nat → Int32} (hI : TInv t) : TKd (K t) := fun b i h1 h2 h3 h4 => by
  have := hI.2.2.2.1 b i h1 h2 h3 h4
  have := hI.1
  omega
set_option maxHeartbeats 4000000 in
set_option maxRecDepth 100000 in
theorem x_X10_prints (l : Launch) (G : tG) (σ : Nat → Nat) (cu : Nat) (X : mX) (Fa : mF) (h0 : Nat) (x1 : Int32) (t0 : σ h0 = 1) (hr0 : (Fa 1 34).toInt ≤ 699) : Met l yX10_prints (.code yX10_prints cX10_prints 2 none :: tWS) (tRm 0 0) (va_Pc [.ref h0, .int x1] (mPre G (σ, cu, kO PPx X Fa))) (mQvX G (σ, cu, kO PPx X Fa) (fun Z => ∃ F : mF, Z = (σ, cu, kO PPx X F) ∧ PSx Fa F 1 [x1.toInt])) 0 0 (mA (σ, cu, kO PPx X Fa)) := by
  refine mc_met (by decide) (Nat.le_of_ble_eq_true rfl) ?_
  intro p e s m below meth c E hr hlk hG ls hl
  have hl : lv_has ls 2 [(0, .ref h0), (1, .int x1)] := hl
  have hx := E.1
  have hb := E.2.1
  obtain ⟨H, eH⟩ : ∃ H, H = s.heap := ⟨_, rfl⟩
  obtain ⟨locs, eL⟩ : ∃ x : List Loc, x = [] := ⟨_, rfl⟩
  have hG : mGH G (σ, cu, kO PPx X Fa) s H locs := by rw [eH, eL]; exact hG
  suffices hW : W p l e (tRm 0 0) s m ([.ref h0, .int x1] : List Value).toArray below meth c H locs 0 0 (MQ below (mQvX G (σ, cu, kO PPx X Fa) (fun Z => ∃ F : mF, Z = (σ, cu, kO PPx X F) ∧ PSx Fa F 1 [x1.toInt])) ([.ref h0, .int x1] : List Value).toArray s 0 0 (mA (σ, cu, kO PPx X Fa))) (F0 m 0 ls []) by subst eH; subst eL; exact hW
  clear eH eL
  have hcu : mCu cu := hG.2.2.1
  refine lv_aload_n hx hb dX10_prints_0 rfl (lv_at hl 0 rfl) ?_
  refine mc_getr E hG t0 mr_66 dX10_prints_1 (fun oa1 hoa1 => ?_)
  refine lv_aload_n hx hb dX10_prints_4 rfl (lv_at hl 0 rfl) ?_
  refine mc_geti E hG t0 mi_389 dX10_prints_5 (fun z2 lz2 uz2 qz2 => ?_)
  have wz2 := kq qz2 (PPx_p)
  have hz9 : z2.toInt ≤ 699 := by rw [wz2]; exact hr0
  have hz6 : z2.toInt = (Fa 1 34).toInt := by rw [wz2]
  refine lv_iload_n hx hb dX10_prints_8 rfl (lv_at hl 1 rfl) ?_
  refine mc_iastX E hG hoa1 ma_19.1 ma_19.2.1 (ma_19.2.2 _) (t_in (by omega) (by omega)) (t_any1 _) (t_any2 _) dX10_prints_9 (fun H locs hG => ?_)
  have hG := kO_set (PPx_19) hG
  obtain ⟨F3, eF3⟩ : ∃ Z : mF, Z = up2 Fa 19 (z2).toNatClampNeg x1 := ⟨_, rfl⟩
  rw [← eF3] at hG
  refine lv_aload_n hx hb dX10_prints_10 rfl (lv_at hl 0 rfl) ?_
  refine lv_dup hx hb dX10_prints_11 rfl ?_
  refine mc_geti E hG t0 mi_389 dX10_prints_12 (fun z4 lz4 uz4 qz4 => ?_)
  have wz4 := kq qz4 (PPx_p)
  have hz8 : z4.toInt = (Fa 1 34).toInt := by rw [wz4, eF3, up2_ne (by omega)]
  refine lv_iconst (v := 1) hx hb dX10_prints_15 (by decide) ?_
  refine lv_iadd hx hb dX10_prints_16 ?_
  refine lv_topi (fun z5 ez5 => ?_)
  have tz5 := tn_add ez5 rfl kI_1 (by omega) (by omega)
  have hz7 : z5.toInt = (Fa 1 34).toInt + 1 := by rw [tz5, hz8]
  refine mc_putX E hG t0 mp_389 (by omega) (by omega) rfl rfl dX10_prints_17 (fun H locs hG => ?_)
  have hG := kO_set (PPx_p) hG
  obtain ⟨F6, eF6⟩ : ∃ Z : mF, Z = up2 F3 1 34 z5 := ⟨_, rfl⟩
  rw [← eF6] at hG
  exact mc_vretX E hr hlk hG rfl ⟨_, rfl, PSx_1 eF3 eF6 (by show z2.toInt.toNat = _; omega) (by omega) (by omega)⟩ dX10_prints_20

set_option maxHeartbeats 4000000 in
set_option maxRecDepth 100000 in
theorem x_X10_printsBox (l : Launch) (G : tG) (σ : Nat → Nat) (cu : Nat) (a : Nat → Option (Nat → Int32)) (ta : Nat → Int32) (Fa : mF) (h0 : Nat) (x1 : Int32) (t0 : σ h0 = 1) (l1 : 0 ≤ x1.toInt) (u1 : x1.toInt ≤ 23) (hIa : TInv ta) (hNM : NMS (FM G)) (hp0 : 0 ≤ (Fa 1 34).toInt) (hr0 : (Fa 1 34).toInt ≤ 670) : Met l yX10_printsBox (.code yX10_printsBox cX10_printsBox 5 none :: tWS) (tRm 1 22) (va_Pc [.ref h0, .int x1] (mPre G (σ, cu, kO PPx (qX (upA a cu ta)) Fa))) (mQvX G (σ, cu, kO PPx (qX (upA a cu ta)) Fa) (fun Z => ∃ F : mF, Z = (σ, cu, kO PPx (qX (upA a cu ta)) F) ∧ PSx Fa F 20 (ownL (K ta) x1.toInt))) 0 0 (mA (σ, cu, kO PPx (qX (upA a cu ta)) Fa)) := by
  refine mc_met (by decide) (Nat.le_of_ble_eq_true rfl) ?_
  intro p e s m below meth c E hr hlk hG ls hl
  have hl : lv_has ls 5 [(0, .ref h0), (1, .int x1)] := hl
  have hx := E.1
  have hb := E.2.1
  obtain ⟨H, eH⟩ : ∃ H, H = s.heap := ⟨_, rfl⟩
  obtain ⟨locs, eL⟩ : ∃ x : List Loc, x = [] := ⟨_, rfl⟩
  have hG : mGH G (σ, cu, kO PPx (qX (upA a cu ta)) Fa) s H locs := by rw [eH, eL]; exact hG
  suffices hW : W p l e (tRm 1 22) s m ([.ref h0, .int x1] : List Value).toArray below meth c H locs 0 0 (MQ below (mQvX G (σ, cu, kO PPx (qX (upA a cu ta)) Fa) (fun Z => ∃ F : mF, Z = (σ, cu, kO PPx (qX (upA a cu ta)) F) ∧ PSx Fa F 20 (ownL (K ta) x1.toInt))) ([.ref h0, .int x1] : List Value).toArray s 0 0 (mA (σ, cu, kO PPx (qX (upA a cu ta)) Fa))) (F0 m 0 ls []) by subst eH; subst eL; exact hW
  clear eH eL
  have hcu : mCu cu := hG.2.2.1
  have hI := hIa
  have J42 : ∀ (n42 : Nat) (F : mF) (H : Heap) (locs : List Loc) (ls : Array Slot) (v2 : Int32) (v3 : Int32), mGH G (σ, cu, kO PPx (qX (upA a cu ta)) F) s H locs → lv_has ls 5 [(0, .ref h0), (1, .int x1), (2, .int v2), (3, .int v3)] → 0 ≤ v2.toInt → v2.toInt ≤ 9 → 0 ≤ v3.toInt → v3.toInt ≤ 4 → (PSx Fa F (6 + 3 * v3.toInt) (nmU v2.toInt.toNat (tXl.getD v2.toInt.toNat 0) ++ nmsL (K ta) x1.toInt v3.toInt.toNat) ∧ v3.toInt ≤ nNum v2.toInt ∧ v2.toInt = K ta x1.toInt 1) → (4 - v3.toInt).toNat < n42 → W p l e (tRm 1 22) s m ([.ref h0, .int x1] : List Value).toArray below meth c H locs 0 0 (MQ below (mQvX G (σ, cu, kO PPx (qX (upA a cu ta)) Fa) (fun Z => ∃ F : mF, Z = (σ, cu, kO PPx (qX (upA a cu ta)) F) ∧ PSx Fa F 20 (ownL (K ta) x1.toInt))) ([.ref h0, .int x1] : List Value).toArray s 0 0 (mA (σ, cu, kO PPx (qX (upA a cu ta)) Fa))) (F0 m 42 ls []) := by
    intro n42
    induction n42 with
    | zero => intro F H locs ls v2 v3 hG hl b2 c2 b3 c3 hex42 hn42; exact absurd hn42 (Nat.not_lt_zero _)
    | succ n42 ih42 =>
      intro F H locs ls v2 v3 hG hl b2 c2 b3 c3 hex42 hn42
      have hb9 := hex42.1.1.1
      refine lv_iload_n hx hb dX10_printsBox_42 rfl (lv_at hl 3 rfl) ?_
      refine lv_iload_n hx hb dX10_printsBox_43 rfl (lv_at hl 2 rfl) ?_
      refine tc_callp (mc_runS (As := [.int v2]) (rest := [.int v3]) E hG (x_X10_numbersOf l G (σ, cu, kO PPx (qX (upA a cu ta)) F) v2 (by omega) (by omega)) ks_X10_numbersOf ml_X10_110 ⟨rfl, rfl, Nat.le_of_ble_eq_true rfl, Nat.le_of_ble_eq_true rfl⟩ rfl hl.1 rfl (Nat.le_of_ble_eq_true rfl) ⟨Nat.zero_le _, Nat.zero_le _⟩ dX10_printsBox_44) (fun r1 pr1 => ?_)
      replace pr1 : r1.toInt = nNum v2.toInt ∧ ((v2.toInt = 3 ∧ r1.toInt = 4) ∨ ((v2.toInt = 4 ∨ v2.toInt = 5) ∧ r1.toInt = 0) ∨ (v2.toInt = 7 ∧ r1.toInt = 1) ∨ (¬ v2.toInt = 3 ∧ ¬ v2.toInt = 4 ∧ ¬ v2.toInt = 5 ∧ ¬ v2.toInt = 7 ∧ r1.toInt = 2)) := pr1
      refine lv_icmp_ge (tgt := 103) hx hb dX10_printsBox_47 (by decide) (fun c2 => ?_) (fun c2 => ?_)
      · skip
        have ic2 := tn_le rfl rfl c2
        have hsz : v3.toInt.toNat = (nNum v2.toInt).toNat := by omega
        refine lv_aload_n hx hb dX10_printsBox_103 rfl (lv_at hl 0 rfl) ?_
        refine lv_iload_n hx hb dX10_printsBox_104 rfl (lv_at hl 1 rfl) ?_
        refine lv_bipush (v := 6) hx hb dX10_printsBox_105 (by decide) ?_
        refine tc_callp (mc_runV (As := [.int x1, .int 6]) (rest := []) E hG (c_X10_get l G (σ, cu, kO PPx (qX (upA a cu ta)) F) h0 x1 (6 : Int32) t0 (by omega) (by omega) (by decide) (by decide)) t0 rfl kv_X10_get ml_X10_91 ⟨rfl, rfl, Nat.le_of_ble_eq_true rfl, Nat.le_of_ble_eq_true rfl⟩ rfl hl.1 rfl (Nat.le_of_ble_eq_true rfl) ⟨Nat.zero_le _, Nat.zero_le _⟩ dX10_printsBox_107) (fun r3 pr3 => ?_)
        replace pr3 : mV (σ, cu, kO PPx (qX (upA a cu ta)) F) (ix x1.toInt (6 : Int32).toInt) r3 := pr3
        have pr3 := mV_l pr3 kI_6
        have br3 := mV_6 pr3 (by omega)
        have cr3 := mT pr3 (kO_TI (PPx_tr hcu) (qX_TI hcu upA_at)) (by omega) (by omega) (by decide) (by decide)
        have k4 := kI_6
        refine lv_if_le (tgt := 133) hx hb dX10_printsBox_110 (by decide) (fun c5 => ?_) (fun c5 => ?_)
        · skip
          have ic5 := tn_le rfl kI_0 c5
          exact mc_vretX E hr hlk hG rfl ⟨_, rfl, ownR_n hex42.1 (by omega) hex42.2.2.symm rfl hsz (by rw [← cr3]; omega)⟩ dX10_printsBox_133
        · skip
          have ic5 := tn_nle rfl kI_0 c5
          refine lv_aload_n hx hb dX10_printsBox_113 rfl (lv_at hl 0 rfl) ?_
          refine lv_bipush (v := 42) hx hb dX10_printsBox_114 (by decide) ?_
          refine mc_callvX hG (mc_runV (As := [.int 42]) (rest := []) E hG (x_X10_prints l G σ cu (qX (upA a cu ta)) F h0 (42 : Int32) t0 (by omega)) t0 rfl kv_X10_prints ml_X10_392 ⟨rfl, rfl, Nat.le_of_ble_eq_true rfl, Nat.le_of_ble_eq_true rfl⟩ rfl hl.1 rfl (Nat.le_of_ble_eq_true rfl) ⟨Nat.zero_le _, Nat.zero_le _⟩ dX10_printsBox_116) (fun Z H locs eZ pZ hG => ?_)
          obtain ⟨F7, rfl, pF7⟩ := pZ
          clear eZ
          have hbF7 := pF7.1.1
          have hcF7 := pF7.1.2.1
          refine lv_aload_n hx hb dX10_printsBox_119 rfl (lv_at hl 0 rfl) ?_
          refine lv_bipush (v := 48) hx hb dX10_printsBox_120 (by decide) ?_
          refine lv_aload_n hx hb dX10_printsBox_122 rfl (lv_at hl 0 rfl) ?_
          refine lv_iload_n hx hb dX10_printsBox_123 rfl (lv_at hl 1 rfl) ?_
          refine lv_bipush (v := 6) hx hb dX10_printsBox_124 (by decide) ?_
          refine tc_callp (mc_runV (As := [.int x1, .int 6]) (rest := [.int 48, .ref h0]) E hG (c_X10_get l G (σ, cu, kO PPx (qX (upA a cu ta)) F7) h0 x1 (6 : Int32) t0 (by omega) (by omega) (by decide) (by decide)) t0 rfl kv_X10_get ml_X10_91 ⟨rfl, rfl, Nat.le_of_ble_eq_true rfl, Nat.le_of_ble_eq_true rfl⟩ rfl hl.1 rfl (Nat.le_of_ble_eq_true rfl) ⟨Nat.zero_le _, Nat.zero_le _⟩ dX10_printsBox_126) (fun r8 pr8 => ?_)
          replace pr8 : mV (σ, cu, kO PPx (qX (upA a cu ta)) F7) (ix x1.toInt (6 : Int32).toInt) r8 := pr8
          have pr8 := mV_l pr8 kI_6
          have br8 := mV_6 pr8 (by omega)
          have cr8 := mT pr8 (kO_TI (PPx_tr hcu) (qX_TI hcu upA_at)) (by omega) (by omega) (by decide) (by decide)
          have k9 := kI_6
          refine lv_iadd hx hb dX10_printsBox_129 ?_
          refine lv_topi (fun z10 ez10 => ?_)
          have tz10 := tn_add ez10 kI_48 rfl (by omega) (by omega)
          refine mc_callvX hG (mc_runV (As := [.int z10]) (rest := []) E hG (x_X10_prints l G σ cu (qX (upA a cu ta)) F7 h0 z10 t0 (by omega)) t0 rfl kv_X10_prints ml_X10_392 ⟨rfl, rfl, Nat.le_of_ble_eq_true rfl, Nat.le_of_ble_eq_true rfl⟩ rfl hl.1 rfl (Nat.le_of_ble_eq_true rfl) ⟨Nat.zero_le _, Nat.zero_le _⟩ dX10_printsBox_130) (fun Z H locs eZ pZ hG => ?_)
          obtain ⟨F12, rfl, pF12⟩ := pZ
          clear eZ
          have hbF12 := pF12.1.1
          have hcF12 := pF12.1.2.1
          exact mc_vretX E hr hlk hG rfl ⟨_, rfl, ownR_s ((hex42.1.trans pF7 (Int.le_refl _)).trans pF12 (Int.le_refl _)) (by omega) hex42.2.2.symm rfl hsz kI_42 (by rw [← cr8]; omega) (by rw [← cr8]; omega) (by rw [← cr8]; omega)⟩ dX10_printsBox_133
      · skip
        have ic2 := tn_nle rfl rfl c2
        refine lv_aload_n hx hb dX10_printsBox_50 rfl (lv_at hl 0 rfl) ?_
        refine lv_iload_n hx hb dX10_printsBox_51 rfl (lv_at hl 1 rfl) ?_
        refine lv_iconst (v := 2) hx hb dX10_printsBox_52 (by decide) ?_
        refine lv_iload_n hx hb dX10_printsBox_53 rfl (lv_at hl 3 rfl) ?_
        refine lv_iadd hx hb dX10_printsBox_54 ?_
        refine lv_topi (fun z13 ez13 => ?_)
        have tz13 := tn_add ez13 kI_2 rfl (by omega) (by omega)
        refine tc_callp (mc_runV (As := [.int x1, .int z13]) (rest := []) E hG (c_X10_get l G (σ, cu, kO PPx (qX (upA a cu ta)) F) h0 x1 z13 t0 (by omega) (by omega) (by omega) (by omega)) t0 rfl kv_X10_get ml_X10_91 ⟨rfl, rfl, Nat.le_of_ble_eq_true rfl, Nat.le_of_ble_eq_true rfl⟩ rfl hl.1 rfl (Nat.le_of_ble_eq_true rfl) ⟨Nat.zero_le _, Nat.zero_le _⟩ dX10_printsBox_55) (fun r14 pr14 => ?_)
        replace pr14 : mV (σ, cu, kO PPx (qX (upA a cu ta)) F) (ix x1.toInt z13.toInt) r14 := pr14
        have br14 := mV_r 2 5 (0) (99) pr14 (by omega) (by omega) (by omega) (by decide) (by decide)
        have cr14 := mT pr14 (kO_TI (PPx_tr hcu) (qX_TI hcu upA_at)) (by omega) (by omega) (by omega) (Or.inl (by omega))
        refine lv_istore (lv' := [(4, .int r14), (0, .ref h0), (1, .int x1), (2, .int v2), (3, .int v3)]) hx hb dX10_printsBox_58 hl (by decide) rfl (fun ls hl => ?_)
        refine lv_aload_n hx hb dX10_printsBox_60 rfl (lv_at hl 1 rfl) ?_
        refine lv_bipush (v := 32) hx hb dX10_printsBox_61 (by decide) ?_
        refine mc_callvX hG (mc_runV (As := [.int 32]) (rest := []) E hG (x_X10_prints l G σ cu (qX (upA a cu ta)) F h0 (32 : Int32) t0 (by omega)) t0 rfl kv_X10_prints ml_X10_392 ⟨rfl, rfl, Nat.le_of_ble_eq_true rfl, Nat.le_of_ble_eq_true rfl⟩ rfl hl.1 rfl (Nat.le_of_ble_eq_true rfl) ⟨Nat.zero_le _, Nat.zero_le _⟩ dX10_printsBox_63) (fun Z H locs eZ pZ hG => ?_)
        obtain ⟨F16, rfl, pF16⟩ := pZ
        clear eZ
        have hbF16 := pF16.1.1
        have hcF16 := pF16.1.2.1
        refine lv_iload hx hb dX10_printsBox_66 (lv_at hl 0 rfl) ?_
        refine lv_bipush (v := 9) hx hb dX10_printsBox_68 (by decide) ?_
        refine lv_icmp_le (tgt := 85) hx hb dX10_printsBox_70 (by decide) (fun c17 => ?_) (fun c17 => ?_)
        · skip
          have ic17 := tn_le rfl kI_9 c17
          refine lv_aload_n hx hb dX10_printsBox_85 rfl (lv_at hl 1 rfl) ?_
          refine lv_bipush (v := 48) hx hb dX10_printsBox_86 (by decide) ?_
          refine lv_iload hx hb dX10_printsBox_88 (lv_at hl 0 rfl) ?_
          refine lv_bipush (v := 10) hx hb dX10_printsBox_90 (by decide) ?_
          refine lv_irem hx hb dX10_printsBox_92 (by decide) ?_
          refine lv_topi (fun z18 ez18 => ?_)
          have tz18 := tn_rem ez18 kI_10 (by omega) (by decide)
          refine lv_iadd hx hb dX10_printsBox_93 ?_
          refine lv_topi (fun z19 ez19 => ?_)
          have tz19 := tn_add ez19 kI_48 rfl (by omega) (by omega)
          refine mc_callvX hG (mc_runV (As := [.int z19]) (rest := []) E hG (x_X10_prints l G σ cu (qX (upA a cu ta)) F16 h0 z19 t0 (by omega)) t0 rfl kv_X10_prints ml_X10_392 ⟨rfl, rfl, Nat.le_of_ble_eq_true rfl, Nat.le_of_ble_eq_true rfl⟩ rfl hl.1 rfl (Nat.le_of_ble_eq_true rfl) ⟨Nat.zero_le _, Nat.zero_le _⟩ dX10_printsBox_94) (fun Z H locs eZ pZ hG => ?_)
          obtain ⟨F21, rfl, pF21⟩ := pZ
          clear eZ
          have hbF21 := pF21.1.1
          have hcF21 := pF21.1.2.1
          obtain ⟨z22, ez22⟩ : ∃ y : Int32, y = v3 + (1) := ⟨_, rfl⟩
          refine lv_iinc (v := z22) (lv' := [(3, .int z22), (4, .int r14), (0, .ref h0), (1, .int x1), (2, .int v2)]) hx hb dX10_printsBox_97 hl (k := 4) rfl (by rw [ez22]; rfl) (by decide) rfl (fun ls hl => ?_)
          have tz22 := tn_add ez22 rfl kI_1 (by omega) (by omega)
          refine lv_goto (tgt := 42) hx hb dX10_printsBox_100 (by decide) ?_
          have hQ : PSx Fa F21 (6 + 3 * z22.toInt) (nmU v2.toInt.toNat (tXl.getD v2.toInt.toNat 0) ++ nmsL (K ta) x1.toInt z22.toInt.toNat) := nmsR_1 (v := r14.toInt) ((hex42.1.trans pF16 (Int.le_refl _)).trans pF21 (Int.le_refl _)) (by omega) kI_32 (by omega) (by rw [cr14, show z13.toInt = 2 + ((v3.toInt.toNat : Nat) : Int) by omega]) (by omega) (by omega)
          have hQ2 : z22.toInt ≤ nNum v2.toInt := by omega
          have hQ3 := hex42.2.2
          exact ih42 F21 H locs ls v2 z22 hG (lv_sub hl [2, 3, 4, 0] rfl) (by omega) (by omega) (by omega) (by omega) (by exact ⟨hQ, hQ2, hQ3⟩) (by omega)
        · skip
          have ic17 := tn_nle rfl kI_9 c17
          refine lv_aload_n hx hb dX10_printsBox_73 rfl (lv_at hl 1 rfl) ?_
          refine lv_bipush (v := 48) hx hb dX10_printsBox_74 (by decide) ?_
          refine lv_iload hx hb dX10_printsBox_76 (lv_at hl 0 rfl) ?_
          refine lv_bipush (v := 10) hx hb dX10_printsBox_78 (by decide) ?_
          refine lv_idiv hx hb dX10_printsBox_80 (by decide) ?_
          refine lv_topi (fun z23 ez23 => ?_)
          have tz23 := tn_div10 ez23 (by omega) (by omega)
          refine lv_iadd hx hb dX10_printsBox_81 ?_
          refine lv_topi (fun z24 ez24 => ?_)
          have tz24 := tn_add ez24 kI_48 rfl (by omega) (by omega)
          refine mc_callvX hG (mc_runV (As := [.int z24]) (rest := []) E hG (x_X10_prints l G σ cu (qX (upA a cu ta)) F16 h0 z24 t0 (by omega)) t0 rfl kv_X10_prints ml_X10_392 ⟨rfl, rfl, Nat.le_of_ble_eq_true rfl, Nat.le_of_ble_eq_true rfl⟩ rfl hl.1 rfl (Nat.le_of_ble_eq_true rfl) ⟨Nat.zero_le _, Nat.zero_le _⟩ dX10_printsBox_82) (fun Z H locs eZ pZ hG => ?_)
          obtain ⟨F26, rfl, pF26⟩ := pZ
          clear eZ
          have hbF26 := pF26.1.1
          have hcF26 := pF26.1.2.1
          refine lv_aload_n hx hb dX10_printsBox_85 rfl (lv_at hl 1 rfl) ?_
          refine lv_bipush (v := 48) hx hb dX10_printsBox_86 (by decide) ?_
          refine lv_iload hx hb dX10_printsBox_88 (lv_at hl 0 rfl) ?_
          refine lv_bipush (v := 10) hx hb dX10_printsBox_90 (by decide) ?_
          refine lv_irem hx hb dX10_printsBox_92 (by decide) ?_
          refine lv_topi (fun z27 ez27 => ?_)
          have tz27 := tn_rem ez27 kI_10 (by omega) (by decide)
          refine lv_iadd hx hb dX10_printsBox_93 ?_
          refine lv_topi (fun z28 ez28 => ?_)
          have tz28 := tn_add ez28 kI_48 rfl (by omega) (by omega)
          refine mc_callvX hG (mc_runV (As := [.int z28]) (rest := []) E hG (x_X10_prints l G σ cu (qX (upA a cu ta)) F26 h0 z28 t0 (by omega)) t0 rfl kv_X10_prints ml_X10_392 ⟨rfl, rfl, Nat.le_of_ble_eq_true rfl, Nat.le_of_ble_eq_true rfl⟩ rfl hl.1 rfl (Nat.le_of_ble_eq_true rfl) ⟨Nat.zero_le _, Nat.zero_le _⟩ dX10_printsBox_94) (fun Z H locs eZ pZ hG => ?_)
          obtain ⟨F30, rfl, pF30⟩ := pZ
          clear eZ
          have hbF30 := pF30.1.1
          have hcF30 := pF30.1.2.1
          obtain ⟨z31, ez31⟩ : ∃ y : Int32, y = v3 + (1) := ⟨_, rfl⟩
          refine lv_iinc (v := z31) (lv' := [(3, .int z31), (4, .int r14), (0, .ref h0), (1, .int x1), (2, .int v2)]) hx hb dX10_printsBox_97 hl (k := 4) rfl (by rw [ez31]; rfl) (by decide) rfl (fun ls hl => ?_)
          have tz31 := tn_add ez31 rfl kI_1 (by omega) (by omega)
          refine lv_goto (tgt := 42) hx hb dX10_printsBox_100 (by decide) ?_
          have hQ : PSx Fa F30 (6 + 3 * z31.toInt) (nmU v2.toInt.toNat (tXl.getD v2.toInt.toNat 0) ++ nmsL (K ta) x1.toInt z31.toInt.toNat) := nmsR_2 (v := r14.toInt) (((hex42.1.trans pF16 (Int.le_refl _)).trans pF26 (Int.le_refl _)).trans pF30 (Int.le_refl _)) (by omega) kI_32 (by omega) (by rw [cr14, show z13.toInt = 2 + ((v3.toInt.toNat : Nat) : Int) by omega]) (by omega) (by omega) (by omega)
          have hQ2 : z31.toInt ≤ nNum v2.toInt := by omega
          have hQ3 := hex42.2.2
          exact ih42 F30 H locs ls v2 z31 hG (lv_sub hl [2, 3, 4, 0] rfl) (by omega) (by omega) (by omega) (by omega) (by exact ⟨hQ, hQ2, hQ3⟩) (by omega)
  have J9 : ∀ (n9 : Nat) (F : mF) (H : Heap) (locs : List Loc) (ls : Array Slot) (v2 : Int32) (v3 : Int32), mGH G (σ, cu, kO PPx (qX (upA a cu ta)) F) s H locs → lv_has ls 5 [(0, .ref h0), (1, .int x1), (2, .int v2), (3, .int v3)] → 0 ≤ v2.toInt → v2.toInt ≤ 9 → 0 ≤ v3.toInt → v3.toInt ≤ 6 → (PSx Fa F v3.toInt (nmU v2.toInt.toNat v3.toInt.toNat) ∧ v3.toInt ≤ ((tXl.getD v2.toInt.toNat 0 : Nat) : Int) ∧ v2.toInt = K ta x1.toInt 1) → (6 - v3.toInt).toNat < n9 → W p l e (tRm 1 22) s m ([.ref h0, .int x1] : List Value).toArray below meth c H locs 0 0 (MQ below (mQvX G (σ, cu, kO PPx (qX (upA a cu ta)) Fa) (fun Z => ∃ F : mF, Z = (σ, cu, kO PPx (qX (upA a cu ta)) F) ∧ PSx Fa F 20 (ownL (K ta) x1.toInt))) ([.ref h0, .int x1] : List Value).toArray s 0 0 (mA (σ, cu, kO PPx (qX (upA a cu ta)) Fa))) (F0 m 9 ls []) := by
    intro n9
    induction n9 with
    | zero => intro F H locs ls v2 v3 hG hl b2 c2 b3 c3 hex9 hn9; exact absurd hn9 (Nat.not_lt_zero _)
    | succ n9 ih9 =>
      intro F H locs ls v2 v3 hG hl b2 c2 b3 c3 hex9 hn9
      have hb9 := hex9.1.1.1
      have hl9 := nm_len v2.toInt.toNat (by omega)
      refine lv_iload_n hx hb dX10_printsBox_9 rfl (lv_at hl 3 rfl) ?_
      refine lv_bipush (v := 6) hx hb dX10_printsBox_10 (by decide) ?_
      refine lv_icmp_ge (tgt := 40) hx hb dX10_printsBox_12 (by decide) (fun c32 => ?_) (fun c32 => ?_)
      · skip
        have ic32 := tn_le kI_6 rfl c32
        refine lv_iconst (v := 0) hx hb dX10_printsBox_40 (by decide) ?_
        refine lv_istore_n (lv' := [(3, .int 0), (0, .ref h0), (1, .int x1), (2, .int v2)]) hx hb dX10_printsBox_41 rfl hl (by decide) rfl (fun ls hl => ?_)
        have he9 : v3.toInt.toNat = tXl.getD v2.toInt.toNat 0 := by omega
        have hQ : PSx Fa F (6 + 3 * (0 : Int32).toInt) (nmU v2.toInt.toNat (tXl.getD v2.toInt.toNat 0) ++ nmsL (K ta) x1.toInt (0 : Int32).toInt.toNat) := by rw [show (0 : Int32).toInt.toNat = 0 from by decide, ← he9]; exact hex9.1.eq (by have k0 := kI_0; omega) (List.append_nil _).symm
        have hQ2 : (0 : Int32).toInt ≤ nNum v2.toInt := by have := nNum_r v2.toInt; have k0 := kI_0; omega
        have hQ3 := hex9.2.2
        exact J42 ((4 - (0 : Int32).toInt).toNat + 1) F H locs ls v2 (0 : Int32) hG (lv_sub hl [1, 2, 3, 0] rfl) (by omega) (by omega) (by decide) (by decide) (by exact ⟨hQ, hQ2, hQ3⟩) (Nat.lt_succ_self _)
      · skip
        have ic32 := tn_nle kI_6 rfl c32
        refine lv_aload_n hx hb dX10_printsBox_15 rfl (lv_at hl 0 rfl) ?_
        refine lv_iload_n hx hb dX10_printsBox_16 rfl (lv_at hl 2 rfl) ?_
        refine lv_iload_n hx hb dX10_printsBox_17 rfl (lv_at hl 3 rfl) ?_
        refine tc_callp (mc_runV (As := [.int v2, .int v3]) (rest := []) E hG (x_X10_nameLetter l G (σ, cu, kO PPx (qX (upA a cu ta)) F) h0 v2 v3 t0 (by omega) (by omega) (by omega) (by omega) hNM) t0 rfl kv_X10_nameLetter ml_X10_353 ⟨rfl, rfl, Nat.le_of_ble_eq_true rfl, Nat.le_of_ble_eq_true rfl⟩ rfl hl.1 rfl (Nat.le_of_ble_eq_true rfl) ⟨Nat.zero_le _, Nat.zero_le _⟩ dX10_printsBox_18) (fun r33 pr33 => ?_)
        replace pr33 : r33.toInt = nml v2.toInt.toNat v3.toInt.toNat := pr33
        refine lv_if_eq (tgt := 40) hx hb dX10_printsBox_21 (by decide) (fun c34 => ?_) (fun c34 => ?_)
        · skip
          have ic34 := tn_eq rfl kI_0 c34
          refine lv_iconst (v := 0) hx hb dX10_printsBox_40 (by decide) ?_
          refine lv_istore_n (lv' := [(3, .int 0), (0, .ref h0), (1, .int x1), (2, .int v2)]) hx hb dX10_printsBox_41 rfl hl (by decide) rfl (fun ls hl => ?_)
          have he9 : v3.toInt.toNat = tXl.getD v2.toInt.toNat 0 := by (have hj9 := nml_z (k := v2.toInt.toNat) (j := v3.toInt.toNat) (by omega) (by omega)); omega
          have hQ : PSx Fa F (6 + 3 * (0 : Int32).toInt) (nmU v2.toInt.toNat (tXl.getD v2.toInt.toNat 0) ++ nmsL (K ta) x1.toInt (0 : Int32).toInt.toNat) := by rw [show (0 : Int32).toInt.toNat = 0 from by decide, ← he9]; exact hex9.1.eq (by have k0 := kI_0; omega) (List.append_nil _).symm
          have hQ2 : (0 : Int32).toInt ≤ nNum v2.toInt := by have := nNum_r v2.toInt; have k0 := kI_0; omega
          have hQ3 := hex9.2.2
          exact J42 ((4 - (0 : Int32).toInt).toNat + 1) F H locs ls v2 (0 : Int32) hG (lv_sub hl [1, 2, 3, 0] rfl) (by omega) (by omega) (by decide) (by decide) (by exact ⟨hQ, hQ2, hQ3⟩) (Nat.lt_succ_self _)
        · skip
          have ic34 := tn_ne rfl kI_0 c34
          refine lv_aload_n hx hb dX10_printsBox_24 rfl (lv_at hl 0 rfl) ?_
          refine lv_aload_n hx hb dX10_printsBox_25 rfl (lv_at hl 0 rfl) ?_
          refine lv_iload_n hx hb dX10_printsBox_26 rfl (lv_at hl 2 rfl) ?_
          refine lv_iload_n hx hb dX10_printsBox_27 rfl (lv_at hl 3 rfl) ?_
          refine tc_callp (mc_runV (As := [.int v2, .int v3]) (rest := [.ref h0]) E hG (x_X10_nameLetter l G (σ, cu, kO PPx (qX (upA a cu ta)) F) h0 v2 v3 t0 (by omega) (by omega) (by omega) (by omega) hNM) t0 rfl kv_X10_nameLetter ml_X10_353 ⟨rfl, rfl, Nat.le_of_ble_eq_true rfl, Nat.le_of_ble_eq_true rfl⟩ rfl hl.1 rfl (Nat.le_of_ble_eq_true rfl) ⟨Nat.zero_le _, Nat.zero_le _⟩ dX10_printsBox_28) (fun r35 pr35 => ?_)
          replace pr35 : r35.toInt = nml v2.toInt.toNat v3.toInt.toNat := pr35
          refine mc_callvX hG (mc_runV (As := [.int r35]) (rest := []) E hG (x_X10_prints l G σ cu (qX (upA a cu ta)) F h0 r35 t0 (by omega)) t0 rfl kv_X10_prints ml_X10_392 ⟨rfl, rfl, Nat.le_of_ble_eq_true rfl, Nat.le_of_ble_eq_true rfl⟩ rfl hl.1 rfl (Nat.le_of_ble_eq_true rfl) ⟨Nat.zero_le _, Nat.zero_le _⟩ dX10_printsBox_31) (fun Z H locs eZ pZ hG => ?_)
          obtain ⟨F37, rfl, pF37⟩ := pZ
          clear eZ
          have hbF37 := pF37.1.1
          have hcF37 := pF37.1.2.1
          obtain ⟨z38, ez38⟩ : ∃ y : Int32, y = v3 + (1) := ⟨_, rfl⟩
          refine lv_iinc (v := z38) (lv' := [(3, .int z38), (0, .ref h0), (1, .int x1), (2, .int v2)]) hx hb dX10_printsBox_34 hl (k := 3) rfl (by rw [ez38]; rfl) (by decide) rfl (fun ls hl => ?_)
          have tz38 := tn_add ez38 rfl kI_1 (by omega) (by omega)
          refine lv_goto (tgt := 9) hx hb dX10_printsBox_37 (by decide) ?_
          have hj9 := nml_pos (k := v2.toInt.toNat) (j := v3.toInt.toNat) (by omega)
          have hQ : PSx Fa F37 z38.toInt (nmU v2.toInt.toNat z38.toInt.toNat) := nmR_s (hex9.1.trans pF37 (Int.le_refl _)) (by omega) (by omega) (by rw [pr35]; exact hj9.2)
          have hQ2 : z38.toInt ≤ ((tXl.getD v2.toInt.toNat 0 : Nat) : Int) := by omega
          have hQ3 := hex9.2.2
          exact ih9 F37 H locs ls v2 z38 hG (lv_sub hl [1, 2, 3, 0] rfl) (by omega) (by omega) (by omega) (by omega) (by exact ⟨hQ, hQ2, hQ3⟩) (by omega)
  refine lv_aload_n hx hb dX10_printsBox_0 rfl (lv_at hl 0 rfl) ?_
  refine lv_iload_n hx hb dX10_printsBox_1 rfl (lv_at hl 1 rfl) ?_
  refine lv_iconst (v := 1) hx hb dX10_printsBox_2 (by decide) ?_
  refine tc_callp (mc_runV (As := [.int x1, .int 1]) (rest := []) E hG (c_X10_get l G (σ, cu, kO PPx (qX (upA a cu ta)) Fa) h0 x1 (1 : Int32) t0 (by omega) (by omega) (by decide) (by decide)) t0 rfl kv_X10_get ml_X10_91 ⟨rfl, rfl, Nat.le_of_ble_eq_true rfl, Nat.le_of_ble_eq_true rfl⟩ rfl hl.1 rfl (Nat.le_of_ble_eq_true rfl) ⟨Nat.zero_le _, Nat.zero_le _⟩ dX10_printsBox_3) (fun r39 pr39 => ?_)
  replace pr39 : mV (σ, cu, kO PPx (qX (upA a cu ta)) Fa) (ix x1.toInt (1 : Int32).toInt) r39 := pr39
  have pr39 := mV_l pr39 kI_1
  have br39 := mV_1 pr39 (by omega)
  have cr39 := mT pr39 (kO_TI (PPx_tr hcu) (qX_TI hcu upA_at)) (by omega) (by omega) (by decide) (by decide)
  have k40 := kI_1
  refine lv_istore_n (lv' := [(2, .int r39), (0, .ref h0), (1, .int x1)]) hx hb dX10_printsBox_6 rfl hl (by decide) rfl (fun ls hl => ?_)
  refine lv_iconst (v := 0) hx hb dX10_printsBox_7 (by decide) ?_
  refine lv_istore_n (lv' := [(3, .int 0), (2, .int r39), (0, .ref h0), (1, .int x1)]) hx hb dX10_printsBox_8 rfl hl (by decide) rfl (fun ls hl => ?_)
  have hQ : PSx Fa Fa (0 : Int32).toInt (nmU r39.toInt.toNat (0 : Int32).toInt.toNat) := by rw [show (0 : Int32).toInt.toNat = 0 from by decide]; exact PSx.refl (by decide) hp0
  have hQ2 : (0 : Int32).toInt ≤ ((tXl.getD r39.toInt.toNat 0 : Nat) : Int) := by have k0 := kI_0; omega
  have hQ3 := cr39
  exact J9 ((6 - (0 : Int32).toInt).toNat + 1) Fa H locs ls r39 (0 : Int32) hG (lv_sub hl [2, 3, 1, 0] rfl) (by omega) (by omega) (by decide) (by decide) (by exact ⟨hQ, hQ2, hQ3⟩) (Nat.lt_succ_self _)

