/-! ===== the law: each kind of call ===== -/
set_option maxHeartbeats 4000000 in
set_option maxRecDepth 100000 in
theorem lw_c0 {p : Program} {l : Launch} {e : Env} {s : State} {m : MethodId} {below : List Frame} {meth : Method} {c : Code} {b L x1 x2 : Nat} {xs : Nat → Int32} {G : tG} {τ σ : Nat → Nat} {a : Nat → Option (Nat → Int32)} {H : Heap} {ls : Array Slot} {i : Int32} {Q : State → Prop} (E : tE G p s m c #[Value.ref b] RL cL_law 4) (hSt : tSt G (tA τ) s) (hX : va_X b L xs s s.heap) (hbl : b < s.heap.size) (hx1 : τ x1 = 1) (hx2 : σ x2 = 1) (h28 : ∀ q, τ q ≠ 28) (h29 : ∀ q, τ q ≠ 29) (h7 : ∀ q, τ q = 7 → q = x1 + 406) (h18 : τ (x1 + 438) = 18) (hi0 : 0 ≤ i.toInt) (hiL : i.toInt + 7 ≤ (L : Int)) (hL0 : L ≤ 3584) (hl : lv_has ls 4 [(0, .ref b), (1, .ref x1), (2, .ref x2), (3, .int i)]) (hK : lK G x1 a) (hL : lS G τ σ a s H) (kk : ∀ (G : tG) (a : Nat → Option (Nat → Int32)) (H : Heap), tE G p s m c #[Value.ref b] RL cL_law 4 → tSt G (tA τ) s → lK G x1 a → lS G τ σ a s H → W p l e room_1 s m #[Value.ref b] below meth c H [] 472 11431 Q (F0 m 1312 ls [])) : W p l e room_1 s m #[Value.ref b] below meth c H [] 472 11431 Q (F0 m 192 ls []) := by
  have hx := E.1
  have hb := E.2.1
  obtain ⟨hA, ta, tu, ha, hu, hT⟩ := hK
  obtain ⟨hA8, hA10, hA11, hA14, hA16⟩ := id hA
  have hT9 := hT
  obtain ⟨hTs, hR, hIa, hJ, hIu, -⟩ := hT9
  refine lv_aload_n hx hb dL_law_192 rfl (lv_at hl 1 rfl) ?_
  refine lv_aload_n hx hb dL_law_193 rfl (lv_at hl 0 rfl) ?_
  refine lv_iload_n hx hb dL_law_194 rfl (lv_at hl 3 rfl) ?_
  refine lv_iconst (v := 1) hx hb dL_law_195 (by decide) ?_
  refine lv_iadd hx hb dL_law_196 ?_
  refine lv_topi (fun z1 ez1 => ?_)
  have tz1 := tn_add ez1 rfl kI_1 (by omega) (by omega)
  refine va_sld hx hb hX hbl (by show ¬ s.heap.size ≤ b; omega) hL.2.2.2.2.2.2.2 (t_in (by omega) (by omega)) dL_law_197 ?_
  refine lv_topi (fun v2 ev2 => ?_)
  refine lv_aload_n hx hb dL_law_198 rfl (lv_at hl 0 rfl) ?_
  refine lv_iload_n hx hb dL_law_199 rfl (lv_at hl 3 rfl) ?_
  refine lv_iconst (v := 2) hx hb dL_law_200 (by decide) ?_
  refine lv_iadd hx hb dL_law_201 ?_
  refine lv_topi (fun z3 ez3 => ?_)
  have tz3 := tn_add ez3 rfl kI_2 (by omega) (by omega)
  refine va_sld hx hb hX hbl (by show ¬ s.heap.size ≤ b; omega) hL.2.2.2.2.2.2.2 (t_in (by omega) (by omega)) dL_law_202 ?_
  refine lv_topi (fun v4 ev4 => ?_)
  refine lv_aload_n hx hb dL_law_203 rfl (lv_at hl 0 rfl) ?_
  refine lv_iload_n hx hb dL_law_204 rfl (lv_at hl 3 rfl) ?_
  refine lv_iconst (v := 3) hx hb dL_law_205 (by decide) ?_
  refine lv_iadd hx hb dL_law_206 ?_
  refine lv_topi (fun z5 ez5 => ?_)
  have tz5 := tn_add ez5 rfl kI_3 (by omega) (by omega)
  refine va_sld hx hb hX hbl (by show ¬ s.heap.size ≤ b; omega) hL.2.2.2.2.2.2.2 (t_in (by omega) (by omega)) dL_law_207 ?_
  refine lv_topi (fun v6 ev6 => ?_)
  refine lv_aload_n hx hb dL_law_208 rfl (lv_at hl 0 rfl) ?_
  refine lv_iload_n hx hb dL_law_209 rfl (lv_at hl 3 rfl) ?_
  refine lv_iconst (v := 4) hx hb dL_law_210 (by decide) ?_
  refine lv_iadd hx hb dL_law_211 ?_
  refine lv_topi (fun z7 ez7 => ?_)
  have tz7 := tn_add ez7 rfl kI_4 (by omega) (by omega)
  refine va_sld hx hb hX hbl (by show ¬ s.heap.size ≤ b; omega) hL.2.2.2.2.2.2.2 (t_in (by omega) (by omega)) dL_law_212 ?_
  refine lv_topi (fun v8 ev8 => ?_)
  refine lv_aload_n hx hb dL_law_213 rfl (lv_at hl 0 rfl) ?_
  refine lv_iload_n hx hb dL_law_214 rfl (lv_at hl 3 rfl) ?_
  refine lv_iconst (v := 5) hx hb dL_law_215 (by decide) ?_
  refine lv_iadd hx hb dL_law_216 ?_
  refine lv_topi (fun z9 ez9 => ?_)
  have tz9 := tn_add ez9 rfl kI_5 (by omega) (by omega)
  refine va_sld hx hb hX hbl (by show ¬ s.heap.size ≤ b; omega) hL.2.2.2.2.2.2.2 (t_in (by omega) (by omega)) dL_law_217 ?_
  refine lv_topi (fun v10 ev10 => ?_)
  refine lv_aload_n hx hb dL_law_218 rfl (lv_at hl 0 rfl) ?_
  refine lv_iload_n hx hb dL_law_219 rfl (lv_at hl 3 rfl) ?_
  refine lv_bipush (v := 6) hx hb dL_law_220 (by decide) ?_
  refine lv_iadd hx hb dL_law_222 ?_
  refine lv_topi (fun z11 ez11 => ?_)
  have tz11 := tn_add ez11 rfl kI_6 (by omega) (by omega)
  refine va_sld hx hb hX hbl (by show ¬ s.heap.size ≤ b; omega) hL.2.2.2.2.2.2.2 (t_in (by omega) (by omega)) dL_law_223 ?_
  refine lv_topi (fun v12 ev12 => ?_)
  refine lf_c hL (tc_runV (As := [.int v2, .int v4, .int v6, .int v8, .int v10, .int v12]) (rest := []) E hSt hL.G (x_X9_comes l G (FF G) τ x1 v2 v4 v6 v8 v10 v12 hx1 hA8.symm (hR.lt hIa)) hx1 rv_1 kv_X9_comes ml_L_13 ⟨rfl, rfl, Nat.le_of_ble_eq_true rfl, Nat.le_of_ble_eq_true rfl⟩ rfl hl.1 rfl (Nat.le_of_ble_eq_true rfl) ⟨Nat.le_of_ble_eq_true rfl, Nat.le_of_ble_eq_true rfl⟩ dL_law_224) (fun r13 F9 H pr13 hL => ?_)
  have pc9 : CMc (FF G) F9 (G.2.2.1 10) v2 v4 v6 v8 v10 v12 r13 := pr13
  clear pr13
  obtain ⟨G1, eG1⟩ : ∃ Z : tG, Z = gF G F9 := ⟨_, rfl⟩
  rw [← eG1] at hL
  have E1 : tE G1 p s m c #[Value.ref b] RL cL_law 4 := by rw [eG1]; exact E
  have hSt1 : tSt G1 (tA τ) s := by rw [eG1]; exact hSt
  have eM1 : FM G1 = FM G := by rw [eG1]; rfl
  have eF1 : FF G1 = F9 := by rw [eG1]; rfl
  have hA1 : lA G1 x1 := by rw [eG1]; exact hA
  have eT1 : G1.2.2.1 = G.2.2.1 := by rw [eG1]; rfl
  refine lv_pop hx hb dL_law_227 rfl ?_
  refine lv_aload_n hx hb dL_law_228 rfl (lv_at hl 2 rfl) ?_
  refine lv_aload_n hx hb dL_law_229 rfl (lv_at hl 0 rfl) ?_
  refine lv_iload_n hx hb dL_law_230 rfl (lv_at hl 3 rfl) ?_
  refine lv_iconst (v := 1) hx hb dL_law_231 (by decide) ?_
  refine lv_iadd hx hb dL_law_232 ?_
  refine lv_topi (fun z14 ez14 => ?_)
  have tz14 := tn_add ez14 rfl kI_1 (by omega) (by omega)
  refine va_sld hx hb hX hbl (by show ¬ s.heap.size ≤ b; omega) hL.2.2.2.2.2.2.2 (t_in (by omega) (by omega)) dL_law_233 ?_
  refine lv_topi (fun v15 ev15 => ?_)
  refine lv_aload_n hx hb dL_law_234 rfl (lv_at hl 0 rfl) ?_
  refine lv_iload_n hx hb dL_law_235 rfl (lv_at hl 3 rfl) ?_
  refine lv_iconst (v := 2) hx hb dL_law_236 (by decide) ?_
  refine lv_iadd hx hb dL_law_237 ?_
  refine lv_topi (fun z16 ez16 => ?_)
  have tz16 := tn_add ez16 rfl kI_2 (by omega) (by omega)
  refine va_sld hx hb hX hbl (by show ¬ s.heap.size ≤ b; omega) hL.2.2.2.2.2.2.2 (t_in (by omega) (by omega)) dL_law_238 ?_
  refine lv_topi (fun v17 ev17 => ?_)
  refine lv_aload_n hx hb dL_law_239 rfl (lv_at hl 0 rfl) ?_
  refine lv_iload_n hx hb dL_law_240 rfl (lv_at hl 3 rfl) ?_
  refine lv_iconst (v := 3) hx hb dL_law_241 (by decide) ?_
  refine lv_iadd hx hb dL_law_242 ?_
  refine lv_topi (fun z18 ez18 => ?_)
  have tz18 := tn_add ez18 rfl kI_3 (by omega) (by omega)
  refine va_sld hx hb hX hbl (by show ¬ s.heap.size ≤ b; omega) hL.2.2.2.2.2.2.2 (t_in (by omega) (by omega)) dL_law_243 ?_
  refine lv_topi (fun v19 ev19 => ?_)
  refine lv_aload_n hx hb dL_law_244 rfl (lv_at hl 0 rfl) ?_
  refine lv_iload_n hx hb dL_law_245 rfl (lv_at hl 3 rfl) ?_
  refine lv_iconst (v := 4) hx hb dL_law_246 (by decide) ?_
  refine lv_iadd hx hb dL_law_247 ?_
  refine lv_topi (fun z20 ez20 => ?_)
  have tz20 := tn_add ez20 rfl kI_4 (by omega) (by omega)
  refine va_sld hx hb hX hbl (by show ¬ s.heap.size ≤ b; omega) hL.2.2.2.2.2.2.2 (t_in (by omega) (by omega)) dL_law_248 ?_
  refine lv_topi (fun v21 ev21 => ?_)
  refine lv_aload_n hx hb dL_law_249 rfl (lv_at hl 0 rfl) ?_
  refine lv_iload_n hx hb dL_law_250 rfl (lv_at hl 3 rfl) ?_
  refine lv_iconst (v := 5) hx hb dL_law_251 (by decide) ?_
  refine lv_iadd hx hb dL_law_252 ?_
  refine lv_topi (fun z22 ez22 => ?_)
  have tz22 := tn_add ez22 rfl kI_5 (by omega) (by omega)
  refine va_sld hx hb hX hbl (by show ¬ s.heap.size ≤ b; omega) hL.2.2.2.2.2.2.2 (t_in (by omega) (by omega)) dL_law_253 ?_
  refine lv_topi (fun v23 ev23 => ?_)
  refine lv_aload_n hx hb dL_law_254 rfl (lv_at hl 0 rfl) ?_
  refine lv_iload_n hx hb dL_law_255 rfl (lv_at hl 3 rfl) ?_
  refine lv_bipush (v := 6) hx hb dL_law_256 (by decide) ?_
  refine lv_iadd hx hb dL_law_258 ?_
  refine lv_topi (fun z24 ez24 => ?_)
  have tz24 := tn_add ez24 rfl kI_6 (by omega) (by omega)
  refine va_sld hx hb hX hbl (by show ¬ s.heap.size ≤ b; omega) hL.2.2.2.2.2.2.2 (t_in (by omega) (by omega)) dL_law_259 ?_
  refine lv_topi (fun v25 ev25 => ?_)
  have hL9 := hL
  have hL : lS G1 τ σ (upA a 2 ta) s H := by rw [upA_self ha]; exact hL9
  refine lx_i (P := fun r9 a9 => ∃ t, a9 = upA a 2 t ∧ CMp ta t v15.toInt v17.toInt v19.toInt v21.toInt v23.toInt v25.toInt r9 ∧ TInv t) hL (mc_runV (As := [.int v15, .int v17, .int v19, .int v21, .int v23, .int v25]) (rest := []) E1 hL.M (x_X10_comes l G1 σ 2 a ta x2 v15 v17 v19 v21 v23 v25 hx2 hIa) hx2 rfl kv_X10_comes ml_L_17 ⟨rfl, rfl, Nat.le_of_ble_eq_true rfl, Nat.le_of_ble_eq_true rfl⟩ rfl hl.1 rfl (Nat.le_of_ble_eq_true rfl) ⟨Nat.le_of_ble_eq_true rfl, Nat.le_of_ble_eq_true rfl⟩ dL_law_260) (fun _ Z _ hp => by obtain ⟨t, e, hg, ht⟩ := hp; exact ⟨_, hL9.2.2.2.2.2.1.up ht, by rw [e]; exact mLe.refl, t, rfl, hg, ht⟩) (fun r26 a9 H pr26 hL => ?_)
  obtain ⟨t9, e9, hg9, hI9⟩ := pr26
  have q0 : v15 = v2 := by rw [ev15, ev2, ez14, ez1]
  have q1 : v17 = v4 := by rw [ev17, ev4, ez16, ez3]
  have q2 : v19 = v6 := by rw [ev19, ev6, ez18, ez5]
  have q3 : v21 = v8 := by rw [ev21, ev8, ez20, ez7]
  have q4 : v23 = v10 := by rw [ev23, ev10, ez22, ez9]
  have q5 : v25 = v12 := by rw [ev25, ev12, ez24, ez11]
  rw [q0, q1, q2, q3, q4, q5] at hg9
  have hRL := RL_comes hR hIa hJ pc9 hg9
  have hK : lK G1 x1 a9 := by rw [e9]; exact ⟨hA1, t9, tu, upA_at, (upA_ne (by decide)).trans hu, by rw [eF1, eM1, eT1]; exact hT.fr (FR_comes hR hIa hJ pc9) hRL.2.1 hI9 hRL.2.2⟩
  have hrr : r13 = r26 := hRL.1
  refine lv_pop hx hb dL_law_263 rfl ?_
  refine lv_goto (tgt := 1312) hx hb dL_law_264 (by decide) ?_
  exact kk G1 _ _ E1 hSt1 hK hL
set_option maxHeartbeats 4000000 in
set_option maxRecDepth 100000 in
theorem lw_c1 {p : Program} {l : Launch} {e : Env} {s : State} {m : MethodId} {below : List Frame} {meth : Method} {c : Code} {b L x1 x2 : Nat} {xs : Nat → Int32} {G : tG} {τ σ : Nat → Nat} {a : Nat → Option (Nat → Int32)} {H : Heap} {ls : Array Slot} {i : Int32} {Q : State → Prop} (E : tE G p s m c #[Value.ref b] RL cL_law 4) (hSt : tSt G (tA τ) s) (hX : va_X b L xs s s.heap) (hbl : b < s.heap.size) (hx1 : τ x1 = 1) (hx2 : σ x2 = 1) (h28 : ∀ q, τ q ≠ 28) (h29 : ∀ q, τ q ≠ 29) (h7 : ∀ q, τ q = 7 → q = x1 + 406) (h18 : τ (x1 + 438) = 18) (hi0 : 0 ≤ i.toInt) (hiL : i.toInt + 7 ≤ (L : Int)) (hL0 : L ≤ 3584) (hl : lv_has ls 4 [(0, .ref b), (1, .ref x1), (2, .ref x2), (3, .int i)]) (hK : lK G x1 a) (hL : lS G τ σ a s H) (kk : ∀ (G : tG) (a : Nat → Option (Nat → Int32)) (H : Heap), tE G p s m c #[Value.ref b] RL cL_law 4 → tSt G (tA τ) s → lK G x1 a → lS G τ σ a s H → W p l e room_1 s m #[Value.ref b] below meth c H [] 472 11431 Q (F0 m 1312 ls [])) : W p l e room_1 s m #[Value.ref b] below meth c H [] 472 11431 Q (F0 m 267 ls []) := by
  have hx := E.1
  have hb := E.2.1
  obtain ⟨hA, ta, tu, ha, hu, hT⟩ := hK
  obtain ⟨hA8, hA10, hA11, hA14, hA16⟩ := id hA
  have hT9 := hT
  obtain ⟨hTs, hR, hIa, hJ, hIu, -⟩ := hT9
  refine lv_aload_n hx hb dL_law_267 rfl (lv_at hl 1 rfl) ?_
  refine lv_aload_n hx hb dL_law_268 rfl (lv_at hl 0 rfl) ?_
  refine lv_iload_n hx hb dL_law_269 rfl (lv_at hl 3 rfl) ?_
  refine lv_iconst (v := 1) hx hb dL_law_270 (by decide) ?_
  refine lv_iadd hx hb dL_law_271 ?_
  refine lv_topi (fun z1 ez1 => ?_)
  have tz1 := tn_add ez1 rfl kI_1 (by omega) (by omega)
  refine va_sld hx hb hX hbl (by show ¬ s.heap.size ≤ b; omega) hL.2.2.2.2.2.2.2 (t_in (by omega) (by omega)) dL_law_272 ?_
  refine lv_topi (fun v2 ev2 => ?_)
  refine lv_aload_n hx hb dL_law_273 rfl (lv_at hl 0 rfl) ?_
  refine lv_iload_n hx hb dL_law_274 rfl (lv_at hl 3 rfl) ?_
  refine lv_iconst (v := 2) hx hb dL_law_275 (by decide) ?_
  refine lv_iadd hx hb dL_law_276 ?_
  refine lv_topi (fun z3 ez3 => ?_)
  have tz3 := tn_add ez3 rfl kI_2 (by omega) (by omega)
  refine va_sld hx hb hX hbl (by show ¬ s.heap.size ≤ b; omega) hL.2.2.2.2.2.2.2 (t_in (by omega) (by omega)) dL_law_277 ?_
  refine lv_topi (fun v4 ev4 => ?_)
  refine lv_aload_n hx hb dL_law_278 rfl (lv_at hl 0 rfl) ?_
  refine lv_iload_n hx hb dL_law_279 rfl (lv_at hl 3 rfl) ?_
  refine lv_iconst (v := 3) hx hb dL_law_280 (by decide) ?_
  refine lv_iadd hx hb dL_law_281 ?_
  refine lv_topi (fun z5 ez5 => ?_)
  have tz5 := tn_add ez5 rfl kI_3 (by omega) (by omega)
  refine va_sld hx hb hX hbl (by show ¬ s.heap.size ≤ b; omega) hL.2.2.2.2.2.2.2 (t_in (by omega) (by omega)) dL_law_282 ?_
  refine lv_topi (fun v6 ev6 => ?_)
  refine lf_c hL (tc_runV (As := [.int v2, .int v4, .int v6]) (rest := []) E hSt hL.G (x_X9_tells l G (FF G) τ x1 v2 v4 v6 hx1 hA8.symm) hx1 rv_1 kv_X9_tells ml_L_18 ⟨rfl, rfl, Nat.le_of_ble_eq_true rfl, Nat.le_of_ble_eq_true rfl⟩ rfl hl.1 rfl (Nat.le_of_ble_eq_true rfl) ⟨Nat.le_of_ble_eq_true rfl, Nat.le_of_ble_eq_true rfl⟩ dL_law_283) (fun r7 F9 H pr7 hL => ?_)
  have pc9 : TLc (FF G) F9 (G.2.2.1 10) v2 v4 v6 r7 := pr7
  clear pr7
  obtain ⟨G1, eG1⟩ : ∃ Z : tG, Z = gF G F9 := ⟨_, rfl⟩
  rw [← eG1] at hL
  have E1 : tE G1 p s m c #[Value.ref b] RL cL_law 4 := by rw [eG1]; exact E
  have hSt1 : tSt G1 (tA τ) s := by rw [eG1]; exact hSt
  have eM1 : FM G1 = FM G := by rw [eG1]; rfl
  have eF1 : FF G1 = F9 := by rw [eG1]; rfl
  have hA1 : lA G1 x1 := by rw [eG1]; exact hA
  have eT1 : G1.2.2.1 = G.2.2.1 := by rw [eG1]; rfl
  refine lv_pop hx hb dL_law_286 rfl ?_
  refine lv_aload_n hx hb dL_law_287 rfl (lv_at hl 2 rfl) ?_
  refine lv_aload_n hx hb dL_law_288 rfl (lv_at hl 0 rfl) ?_
  refine lv_iload_n hx hb dL_law_289 rfl (lv_at hl 3 rfl) ?_
  refine lv_iconst (v := 1) hx hb dL_law_290 (by decide) ?_
  refine lv_iadd hx hb dL_law_291 ?_
  refine lv_topi (fun z8 ez8 => ?_)
  have tz8 := tn_add ez8 rfl kI_1 (by omega) (by omega)
  refine va_sld hx hb hX hbl (by show ¬ s.heap.size ≤ b; omega) hL.2.2.2.2.2.2.2 (t_in (by omega) (by omega)) dL_law_292 ?_
  refine lv_topi (fun v9 ev9 => ?_)
  refine lv_aload_n hx hb dL_law_293 rfl (lv_at hl 0 rfl) ?_
  refine lv_iload_n hx hb dL_law_294 rfl (lv_at hl 3 rfl) ?_
  refine lv_iconst (v := 2) hx hb dL_law_295 (by decide) ?_
  refine lv_iadd hx hb dL_law_296 ?_
  refine lv_topi (fun z10 ez10 => ?_)
  have tz10 := tn_add ez10 rfl kI_2 (by omega) (by omega)
  refine va_sld hx hb hX hbl (by show ¬ s.heap.size ≤ b; omega) hL.2.2.2.2.2.2.2 (t_in (by omega) (by omega)) dL_law_297 ?_
  refine lv_topi (fun v11 ev11 => ?_)
  refine lv_aload_n hx hb dL_law_298 rfl (lv_at hl 0 rfl) ?_
  refine lv_iload_n hx hb dL_law_299 rfl (lv_at hl 3 rfl) ?_
  refine lv_iconst (v := 3) hx hb dL_law_300 (by decide) ?_
  refine lv_iadd hx hb dL_law_301 ?_
  refine lv_topi (fun z12 ez12 => ?_)
  have tz12 := tn_add ez12 rfl kI_3 (by omega) (by omega)
  refine va_sld hx hb hX hbl (by show ¬ s.heap.size ≤ b; omega) hL.2.2.2.2.2.2.2 (t_in (by omega) (by omega)) dL_law_302 ?_
  refine lv_topi (fun v13 ev13 => ?_)
  have hL9 := hL
  have hL : lS G1 τ σ (upA a 2 ta) s H := by rw [upA_self ha]; exact hL9
  refine lx_i (P := fun r9 a9 => ∃ t, a9 = upA a 2 t ∧ TLp ta t v9.toInt v11.toInt v13 r9 ∧ TInv t) hL (mc_runV (As := [.int v9, .int v11, .int v13]) (rest := []) E1 hL.M (x_X10_tells l G1 σ 2 a ta x2 v9 v11 v13 hx2 hIa) hx2 rfl kv_X10_tells ml_L_22 ⟨rfl, rfl, Nat.le_of_ble_eq_true rfl, Nat.le_of_ble_eq_true rfl⟩ rfl hl.1 rfl (Nat.le_of_ble_eq_true rfl) ⟨Nat.le_of_ble_eq_true rfl, Nat.le_of_ble_eq_true rfl⟩ dL_law_303) (fun _ Z _ hp => by obtain ⟨t, e, hg, ht⟩ := hp; exact ⟨_, hL9.2.2.2.2.2.1.up ht, by rw [e]; exact mLe.refl, t, rfl, hg, ht⟩) (fun r14 a9 H pr14 hL => ?_)
  obtain ⟨t9, e9, hg9, hI9⟩ := pr14
  have q0 : v9 = v2 := by rw [ev9, ev2, ez8, ez1]
  have q1 : v11 = v4 := by rw [ev11, ev4, ez10, ez3]
  have q2 : v13 = v6 := by rw [ev13, ev6, ez12, ez5]
  rw [q0, q1, q2] at hg9
  have hRL := RL_tells hR hIa hJ pc9 hg9
  have hK : lK G1 x1 a9 := by rw [e9]; exact ⟨hA1, t9, tu, upA_at, (upA_ne (by decide)).trans hu, by rw [eF1, eM1, eT1]; exact hT.fr (FR_tells pc9) hRL.2.1 hI9 hRL.2.2⟩
  have hrr : r7 = r14 := hRL.1
  refine lv_pop hx hb dL_law_306 rfl ?_
  refine lv_goto (tgt := 1312) hx hb dL_law_307 (by decide) ?_
  exact kk G1 _ _ E1 hSt1 hK hL
set_option maxHeartbeats 4000000 in
set_option maxRecDepth 100000 in
theorem lw_c2 {p : Program} {l : Launch} {e : Env} {s : State} {m : MethodId} {below : List Frame} {meth : Method} {c : Code} {b L x1 x2 : Nat} {xs : Nat → Int32} {G : tG} {τ σ : Nat → Nat} {a : Nat → Option (Nat → Int32)} {H : Heap} {ls : Array Slot} {i : Int32} {Q : State → Prop} (E : tE G p s m c #[Value.ref b] RL cL_law 4) (hSt : tSt G (tA τ) s) (hX : va_X b L xs s s.heap) (hbl : b < s.heap.size) (hx1 : τ x1 = 1) (hx2 : σ x2 = 1) (h28 : ∀ q, τ q ≠ 28) (h29 : ∀ q, τ q ≠ 29) (h7 : ∀ q, τ q = 7 → q = x1 + 406) (h18 : τ (x1 + 438) = 18) (hi0 : 0 ≤ i.toInt) (hiL : i.toInt + 7 ≤ (L : Int)) (hL0 : L ≤ 3584) (hl : lv_has ls 4 [(0, .ref b), (1, .ref x1), (2, .ref x2), (3, .int i)]) (hK : lK G x1 a) (hL : lS G τ σ a s H) (kk : ∀ (G : tG) (a : Nat → Option (Nat → Int32)) (H : Heap), tE G p s m c #[Value.ref b] RL cL_law 4 → tSt G (tA τ) s → lK G x1 a → lS G τ σ a s H → W p l e room_1 s m #[Value.ref b] below meth c H [] 472 11431 Q (F0 m 1312 ls [])) : W p l e room_1 s m #[Value.ref b] below meth c H [] 472 11431 Q (F0 m 310 ls []) := by
  have hx := E.1
  have hb := E.2.1
  obtain ⟨hA, ta, tu, ha, hu, hT⟩ := hK
  obtain ⟨hA8, hA10, hA11, hA14, hA16⟩ := id hA
  have hT9 := hT
  obtain ⟨hTs, hR, hIa, hJ, hIu, -⟩ := hT9
  refine lv_aload_n hx hb dL_law_310 rfl (lv_at hl 1 rfl) ?_
  refine lv_aload_n hx hb dL_law_311 rfl (lv_at hl 0 rfl) ?_
  refine lv_iload_n hx hb dL_law_312 rfl (lv_at hl 3 rfl) ?_
  refine lv_iconst (v := 1) hx hb dL_law_313 (by decide) ?_
  refine lv_iadd hx hb dL_law_314 ?_
  refine lv_topi (fun z1 ez1 => ?_)
  have tz1 := tn_add ez1 rfl kI_1 (by omega) (by omega)
  refine va_sld hx hb hX hbl (by show ¬ s.heap.size ≤ b; omega) hL.2.2.2.2.2.2.2 (t_in (by omega) (by omega)) dL_law_315 ?_
  refine lv_topi (fun v2 ev2 => ?_)
  refine lf_c hL (tc_runV (As := [.int v2]) (rest := []) E hSt hL.G (x_X9_drops l G (FF G) τ x1 v2 hx1 hA8.symm (fun q => hR.in hIa hJ ((hR.al _).mp q)) (fun q => hR.ne5 hIa ((hR.al _).mp q))) hx1 rv_1 kv_X9_drops ml_L_23 ⟨rfl, rfl, Nat.le_of_ble_eq_true rfl, Nat.le_of_ble_eq_true rfl⟩ rfl hl.1 rfl (Nat.le_of_ble_eq_true rfl) ⟨Nat.le_of_ble_eq_true rfl, Nat.le_of_ble_eq_true rfl⟩ dL_law_316) (fun r3 F9 H pr3 hL => ?_)
  have pc9 : DPc (FF G) F9 (G.2.2.1 10) v2 r3 := pr3
  clear pr3
  obtain ⟨G1, eG1⟩ : ∃ Z : tG, Z = gF G F9 := ⟨_, rfl⟩
  rw [← eG1] at hL
  have E1 : tE G1 p s m c #[Value.ref b] RL cL_law 4 := by rw [eG1]; exact E
  have hSt1 : tSt G1 (tA τ) s := by rw [eG1]; exact hSt
  have eM1 : FM G1 = FM G := by rw [eG1]; rfl
  have eF1 : FF G1 = F9 := by rw [eG1]; rfl
  have hA1 : lA G1 x1 := by rw [eG1]; exact hA
  have eT1 : G1.2.2.1 = G.2.2.1 := by rw [eG1]; rfl
  refine lv_pop hx hb dL_law_319 rfl ?_
  refine lv_aload_n hx hb dL_law_320 rfl (lv_at hl 2 rfl) ?_
  refine lv_aload_n hx hb dL_law_321 rfl (lv_at hl 0 rfl) ?_
  refine lv_iload_n hx hb dL_law_322 rfl (lv_at hl 3 rfl) ?_
  refine lv_iconst (v := 1) hx hb dL_law_323 (by decide) ?_
  refine lv_iadd hx hb dL_law_324 ?_
  refine lv_topi (fun z4 ez4 => ?_)
  have tz4 := tn_add ez4 rfl kI_1 (by omega) (by omega)
  refine va_sld hx hb hX hbl (by show ¬ s.heap.size ≤ b; omega) hL.2.2.2.2.2.2.2 (t_in (by omega) (by omega)) dL_law_325 ?_
  refine lv_topi (fun v5 ev5 => ?_)
  have hL9 := hL
  have hL : lS G1 τ σ (upA a 2 ta) s H := by rw [upA_self ha]; exact hL9
  refine lx_i (P := fun r9 a9 => ∃ t, a9 = upA a 2 t ∧ DPx ta t v5.toInt r9 ∧ TInv t) hL (mc_runV (As := [.int v5]) (rest := []) E1 hL.M (x_X10_drops l G1 σ 2 a ta x2 v5 hx2 hIa) hx2 rfl kv_X10_drops ml_L_27 ⟨rfl, rfl, Nat.le_of_ble_eq_true rfl, Nat.le_of_ble_eq_true rfl⟩ rfl hl.1 rfl (Nat.le_of_ble_eq_true rfl) ⟨Nat.le_of_ble_eq_true rfl, Nat.le_of_ble_eq_true rfl⟩ dL_law_326) (fun _ Z _ hp => by obtain ⟨t, e, hg, ht⟩ := hp; exact ⟨_, hL9.2.2.2.2.2.1.up ht, by rw [e]; exact mLe.refl, t, rfl, hg, ht⟩) (fun r6 a9 H pr6 hL => ?_)
  obtain ⟨t9, e9, hg9, hI9⟩ := pr6
  have q0 : v5 = v2 := by rw [ev5, ev2, ez4, ez1]
  rw [q0] at hg9
  have hRL := RL_drops hR hIa hJ pc9 hg9
  have hK : lK G1 x1 a9 := by rw [e9]; exact ⟨hA1, t9, tu, upA_at, (upA_ne (by decide)).trans hu, by rw [eF1, eM1, eT1]; exact hT.fr (FR_drops pc9) hRL.2.1 hI9 hRL.2.2⟩
  have hrr : r3 = r6 := RL_dropsR hR hIa hJ pc9 hg9
  refine lv_pop hx hb dL_law_329 rfl ?_
  refine lv_goto (tgt := 1312) hx hb dL_law_330 (by decide) ?_
  exact kk G1 _ _ E1 hSt1 hK hL
set_option maxHeartbeats 4000000 in
set_option maxRecDepth 100000 in
theorem lw_c3 {p : Program} {l : Launch} {e : Env} {s : State} {m : MethodId} {below : List Frame} {meth : Method} {c : Code} {b L x1 x2 : Nat} {xs : Nat → Int32} {G : tG} {τ σ : Nat → Nat} {a : Nat → Option (Nat → Int32)} {H : Heap} {ls : Array Slot} {i : Int32} {Q : State → Prop} (E : tE G p s m c #[Value.ref b] RL cL_law 4) (hSt : tSt G (tA τ) s) (hX : va_X b L xs s s.heap) (hbl : b < s.heap.size) (hx1 : τ x1 = 1) (hx2 : σ x2 = 1) (h28 : ∀ q, τ q ≠ 28) (h29 : ∀ q, τ q ≠ 29) (h7 : ∀ q, τ q = 7 → q = x1 + 406) (h18 : τ (x1 + 438) = 18) (hi0 : 0 ≤ i.toInt) (hiL : i.toInt + 7 ≤ (L : Int)) (hL0 : L ≤ 3584) (hl : lv_has ls 4 [(0, .ref b), (1, .ref x1), (2, .ref x2), (3, .int i)]) (hK : lK G x1 a) (hL : lS G τ σ a s H) (kk : ∀ (G : tG) (a : Nat → Option (Nat → Int32)) (H : Heap), tE G p s m c #[Value.ref b] RL cL_law 4 → tSt G (tA τ) s → lK G x1 a → lS G τ σ a s H → W p l e room_1 s m #[Value.ref b] below meth c H [] 472 11431 Q (F0 m 1312 ls [])) : W p l e room_1 s m #[Value.ref b] below meth c H [] 472 11431 Q (F0 m 333 ls []) := by
  have hx := E.1
  have hb := E.2.1
  obtain ⟨hA, ta, tu, ha, hu, hT⟩ := hK
  obtain ⟨hA8, hA10, hA11, hA14, hA16⟩ := id hA
  have hT9 := hT
  obtain ⟨hTs, hR, hIa, hJ, hIu, -⟩ := hT9
  refine lv_aload_n hx hb dL_law_333 rfl (lv_at hl 1 rfl) ?_
  refine lv_aload_n hx hb dL_law_334 rfl (lv_at hl 0 rfl) ?_
  refine lv_iload_n hx hb dL_law_335 rfl (lv_at hl 3 rfl) ?_
  refine lv_iconst (v := 1) hx hb dL_law_336 (by decide) ?_
  refine lv_iadd hx hb dL_law_337 ?_
  refine lv_topi (fun z1 ez1 => ?_)
  have tz1 := tn_add ez1 rfl kI_1 (by omega) (by omega)
  refine va_sld hx hb hX hbl (by show ¬ s.heap.size ≤ b; omega) hL.2.2.2.2.2.2.2 (t_in (by omega) (by omega)) dL_law_338 ?_
  refine lv_topi (fun v2 ev2 => ?_)
  refine lv_aload_n hx hb dL_law_339 rfl (lv_at hl 0 rfl) ?_
  refine lv_iload_n hx hb dL_law_340 rfl (lv_at hl 3 rfl) ?_
  refine lv_iconst (v := 2) hx hb dL_law_341 (by decide) ?_
  refine lv_iadd hx hb dL_law_342 ?_
  refine lv_topi (fun z3 ez3 => ?_)
  have tz3 := tn_add ez3 rfl kI_2 (by omega) (by omega)
  refine va_sld hx hb hX hbl (by show ¬ s.heap.size ≤ b; omega) hL.2.2.2.2.2.2.2 (t_in (by omega) (by omega)) dL_law_343 ?_
  refine lv_topi (fun v4 ev4 => ?_)
  refine lf_c hL (tc_runV (As := [.int v2, .int v4]) (rest := []) E hSt hL.G (x_X9_moves l G (FF G) τ x1 v2 v4 hx1 hA8.symm (fun q => hR.in hIa hJ ((hR.al _).mp q.1) q.2.1)) hx1 rv_1 kv_X9_moves ml_L_28 ⟨rfl, rfl, Nat.le_of_ble_eq_true rfl, Nat.le_of_ble_eq_true rfl⟩ rfl hl.1 rfl (Nat.le_of_ble_eq_true rfl) ⟨Nat.le_of_ble_eq_true rfl, Nat.le_of_ble_eq_true rfl⟩ dL_law_344) (fun r5 F9 H pr5 hL => ?_)
  have pc9 : MVc (FF G) F9 (G.2.2.1 10) v2 v4 r5 := pr5
  clear pr5
  obtain ⟨G1, eG1⟩ : ∃ Z : tG, Z = gF G F9 := ⟨_, rfl⟩
  rw [← eG1] at hL
  have E1 : tE G1 p s m c #[Value.ref b] RL cL_law 4 := by rw [eG1]; exact E
  have hSt1 : tSt G1 (tA τ) s := by rw [eG1]; exact hSt
  have eM1 : FM G1 = FM G := by rw [eG1]; rfl
  have eF1 : FF G1 = F9 := by rw [eG1]; rfl
  have hA1 : lA G1 x1 := by rw [eG1]; exact hA
  have eT1 : G1.2.2.1 = G.2.2.1 := by rw [eG1]; rfl
  refine lv_pop hx hb dL_law_347 rfl ?_
  refine lv_aload_n hx hb dL_law_348 rfl (lv_at hl 2 rfl) ?_
  refine lv_aload_n hx hb dL_law_349 rfl (lv_at hl 0 rfl) ?_
  refine lv_iload_n hx hb dL_law_350 rfl (lv_at hl 3 rfl) ?_
  refine lv_iconst (v := 1) hx hb dL_law_351 (by decide) ?_
  refine lv_iadd hx hb dL_law_352 ?_
  refine lv_topi (fun z6 ez6 => ?_)
  have tz6 := tn_add ez6 rfl kI_1 (by omega) (by omega)
  refine va_sld hx hb hX hbl (by show ¬ s.heap.size ≤ b; omega) hL.2.2.2.2.2.2.2 (t_in (by omega) (by omega)) dL_law_353 ?_
  refine lv_topi (fun v7 ev7 => ?_)
  refine lv_aload_n hx hb dL_law_354 rfl (lv_at hl 0 rfl) ?_
  refine lv_iload_n hx hb dL_law_355 rfl (lv_at hl 3 rfl) ?_
  refine lv_iconst (v := 2) hx hb dL_law_356 (by decide) ?_
  refine lv_iadd hx hb dL_law_357 ?_
  refine lv_topi (fun z8 ez8 => ?_)
  have tz8 := tn_add ez8 rfl kI_2 (by omega) (by omega)
  refine va_sld hx hb hX hbl (by show ¬ s.heap.size ≤ b; omega) hL.2.2.2.2.2.2.2 (t_in (by omega) (by omega)) dL_law_358 ?_
  refine lv_topi (fun v9 ev9 => ?_)
  have hL9 := hL
  have hL : lS G1 τ σ (upA a 2 ta) s H := by rw [upA_self ha]; exact hL9
  refine lx_i (P := fun r9 a9 => ∃ t, a9 = upA a 2 t ∧ MVp ta t v7.toInt v9.toInt r9 ∧ TInv t) hL (mc_runV (As := [.int v7, .int v9]) (rest := []) E1 hL.M (x_X10_moves l G1 σ 2 a ta x2 v7 v9 hx2 hIa (fun b9 e9 h9 => by have := hJ.2.2.1 (by omega); rw [e9]; exact this.2)) hx2 rfl kv_X10_moves ml_L_32 ⟨rfl, rfl, Nat.le_of_ble_eq_true rfl, Nat.le_of_ble_eq_true rfl⟩ rfl hl.1 rfl (Nat.le_of_ble_eq_true rfl) ⟨Nat.le_of_ble_eq_true rfl, Nat.le_of_ble_eq_true rfl⟩ dL_law_359) (fun _ Z _ hp => by obtain ⟨t, e, hg, ht⟩ := hp; exact ⟨_, hL9.2.2.2.2.2.1.up ht, by rw [e]; exact mLe.refl, t, rfl, hg, ht⟩) (fun r10 a9 H pr10 hL => ?_)
  obtain ⟨t9, e9, hg9, hI9⟩ := pr10
  have q0 : v7 = v2 := by rw [ev7, ev2, ez6, ez1]
  have q1 : v9 = v4 := by rw [ev9, ev4, ez8, ez3]
  rw [q0, q1] at hg9
  have hRL := RL_moves hR hIa hJ pc9 hg9
  have hK : lK G1 x1 a9 := by rw [e9]; exact ⟨hA1, t9, tu, upA_at, (upA_ne (by decide)).trans hu, by rw [eF1, eM1, eT1]; exact hT.fr (FR_moves pc9) hRL.2.1 hI9 hRL.2.2⟩
  have hrr : r5 = r10 := hRL.1
  refine lv_pop hx hb dL_law_362 rfl ?_
  refine lv_goto (tgt := 1312) hx hb dL_law_363 (by decide) ?_
  exact kk G1 _ _ E1 hSt1 hK hL
set_option maxHeartbeats 4000000 in
set_option maxRecDepth 100000 in
theorem lw_c4 {p : Program} {l : Launch} {e : Env} {s : State} {m : MethodId} {below : List Frame} {meth : Method} {c : Code} {b L x1 x2 : Nat} {xs : Nat → Int32} {G : tG} {τ σ : Nat → Nat} {a : Nat → Option (Nat → Int32)} {H : Heap} {ls : Array Slot} {i : Int32} {Q : State → Prop} (E : tE G p s m c #[Value.ref b] RL cL_law 4) (hSt : tSt G (tA τ) s) (hX : va_X b L xs s s.heap) (hbl : b < s.heap.size) (hx1 : τ x1 = 1) (hx2 : σ x2 = 1) (h28 : ∀ q, τ q ≠ 28) (h29 : ∀ q, τ q ≠ 29) (h7 : ∀ q, τ q = 7 → q = x1 + 406) (h18 : τ (x1 + 438) = 18) (hi0 : 0 ≤ i.toInt) (hiL : i.toInt + 7 ≤ (L : Int)) (hL0 : L ≤ 3584) (hl : lv_has ls 4 [(0, .ref b), (1, .ref x1), (2, .ref x2), (3, .int i)]) (hK : lK G x1 a) (hL : lS G τ σ a s H) (kk : ∀ (G : tG) (a : Nat → Option (Nat → Int32)) (H : Heap), tE G p s m c #[Value.ref b] RL cL_law 4 → tSt G (tA τ) s → lK G x1 a → lS G τ σ a s H → W p l e room_1 s m #[Value.ref b] below meth c H [] 472 11431 Q (F0 m 1312 ls [])) : W p l e room_1 s m #[Value.ref b] below meth c H [] 472 11431 Q (F0 m 366 ls []) := by
  have hx := E.1
  have hb := E.2.1
  obtain ⟨hA, ta, tu, ha, hu, hT⟩ := hK
  obtain ⟨hA8, hA10, hA11, hA14, hA16⟩ := id hA
  have hT9 := hT
  obtain ⟨hTs, hR, hIa, hJ, hIu, -⟩ := hT9
  refine lv_aload_n hx hb dL_law_366 rfl (lv_at hl 1 rfl) ?_
  refine lv_aload_n hx hb dL_law_367 rfl (lv_at hl 0 rfl) ?_
  refine lv_iload_n hx hb dL_law_368 rfl (lv_at hl 3 rfl) ?_
  refine lv_iconst (v := 1) hx hb dL_law_369 (by decide) ?_
  refine lv_iadd hx hb dL_law_370 ?_
  refine lv_topi (fun z1 ez1 => ?_)
  have tz1 := tn_add ez1 rfl kI_1 (by omega) (by omega)
  refine va_sld hx hb hX hbl (by show ¬ s.heap.size ≤ b; omega) hL.2.2.2.2.2.2.2 (t_in (by omega) (by omega)) dL_law_371 ?_
  refine lv_topi (fun v2 ev2 => ?_)
  refine lv_aload_n hx hb dL_law_372 rfl (lv_at hl 0 rfl) ?_
  refine lv_iload_n hx hb dL_law_373 rfl (lv_at hl 3 rfl) ?_
  refine lv_iconst (v := 2) hx hb dL_law_374 (by decide) ?_
  refine lv_iadd hx hb dL_law_375 ?_
  refine lv_topi (fun z3 ez3 => ?_)
  have tz3 := tn_add ez3 rfl kI_2 (by omega) (by omega)
  refine va_sld hx hb hX hbl (by show ¬ s.heap.size ≤ b; omega) hL.2.2.2.2.2.2.2 (t_in (by omega) (by omega)) dL_law_376 ?_
  refine lv_topi (fun v4 ev4 => ?_)
  refine lc_i hL (tc_runV (As := [.int v2, .int v4]) (rest := []) E hSt hL.G (c_X9_screen l G τ x1 v2 v4 hx1) hx1 rv_1 kv_X9_screen ml_L_33 ⟨rfl, rfl, Nat.le_of_ble_eq_true rfl, Nat.le_of_ble_eq_true rfl⟩ rfl hl.1 rfl (Nat.le_of_ble_eq_true rfl) ⟨Nat.le_of_ble_eq_true rfl, Nat.le_of_ble_eq_true rfl⟩ dL_law_377) (fun r5 H hL pr5 => ?_)
  refine lv_pop hx hb dL_law_380 rfl ?_
  refine lv_aload_n hx hb dL_law_381 rfl (lv_at hl 2 rfl) ?_
  refine lv_aload_n hx hb dL_law_382 rfl (lv_at hl 0 rfl) ?_
  refine lv_iload_n hx hb dL_law_383 rfl (lv_at hl 3 rfl) ?_
  refine lv_iconst (v := 1) hx hb dL_law_384 (by decide) ?_
  refine lv_iadd hx hb dL_law_385 ?_
  refine lv_topi (fun z6 ez6 => ?_)
  have tz6 := tn_add ez6 rfl kI_1 (by omega) (by omega)
  refine va_sld hx hb hX hbl (by show ¬ s.heap.size ≤ b; omega) hL.2.2.2.2.2.2.2 (t_in (by omega) (by omega)) dL_law_386 ?_
  refine lv_topi (fun v7 ev7 => ?_)
  refine lv_aload_n hx hb dL_law_387 rfl (lv_at hl 0 rfl) ?_
  refine lv_iload_n hx hb dL_law_388 rfl (lv_at hl 3 rfl) ?_
  refine lv_iconst (v := 2) hx hb dL_law_389 (by decide) ?_
  refine lv_iadd hx hb dL_law_390 ?_
  refine lv_topi (fun z8 ez8 => ?_)
  have tz8 := tn_add ez8 rfl kI_2 (by omega) (by omega)
  refine va_sld hx hb hX hbl (by show ¬ s.heap.size ≤ b; omega) hL.2.2.2.2.2.2.2 (t_in (by omega) (by omega)) dL_law_391 ?_
  refine lv_topi (fun v9 ev9 => ?_)
  have hL9 := hL
  have hL : lS G τ σ (upA a 2 ta) s H := by rw [upA_self ha]; exact hL9
  refine lx_i (P := fun _ a9 => ∃ t, a9 = upA a 2 t ∧ AG ta t ∧ TInv t) hL (mc_runV (As := [.int v7, .int v9]) (rest := []) E hL.M (c_X10_screen l G σ 2 a ta x2 v7 v9 hx2 hIa) hx2 rfl kv_X10_screen ml_L_36 ⟨rfl, rfl, Nat.le_of_ble_eq_true rfl, Nat.le_of_ble_eq_true rfl⟩ rfl hl.1 rfl (Nat.le_of_ble_eq_true rfl) ⟨Nat.le_of_ble_eq_true rfl, Nat.le_of_ble_eq_true rfl⟩ dL_law_392) (fun _ Z _ hp => by obtain ⟨t, e, hg, ht⟩ := hp; exact ⟨_, hL9.2.2.2.2.2.1.up ht, by rw [e]; exact mLe.refl, t, rfl, hg, ht⟩) (fun r10 a9 H pr10 hL => ?_)
  obtain ⟨t9, e9, hg9, hI9⟩ := pr10
  have hK : lK G x1 a9 := by rw [e9]; exact ⟨hA, t9, tu, upA_at, (upA_ne (by decide)).trans hu, hT.ag hg9 hI9⟩
  refine lv_pop hx hb dL_law_395 rfl ?_
  refine lv_goto (tgt := 1312) hx hb dL_law_396 (by decide) ?_
  exact kk G _ _ E hSt hK hL
set_option maxHeartbeats 4000000 in
set_option maxRecDepth 100000 in
theorem lw_c5 {p : Program} {l : Launch} {e : Env} {s : State} {m : MethodId} {below : List Frame} {meth : Method} {c : Code} {b L x1 x2 : Nat} {xs : Nat → Int32} {G : tG} {τ σ : Nat → Nat} {a : Nat → Option (Nat → Int32)} {H : Heap} {ls : Array Slot} {i : Int32} {Q : State → Prop} (E : tE G p s m c #[Value.ref b] RL cL_law 4) (hSt : tSt G (tA τ) s) (hX : va_X b L xs s s.heap) (hbl : b < s.heap.size) (hx1 : τ x1 = 1) (hx2 : σ x2 = 1) (h28 : ∀ q, τ q ≠ 28) (h29 : ∀ q, τ q ≠ 29) (h7 : ∀ q, τ q = 7 → q = x1 + 406) (h18 : τ (x1 + 438) = 18) (hi0 : 0 ≤ i.toInt) (hiL : i.toInt + 7 ≤ (L : Int)) (hL0 : L ≤ 3584) (hl : lv_has ls 4 [(0, .ref b), (1, .ref x1), (2, .ref x2), (3, .int i)]) (hK : lK G x1 a) (hL : lS G τ σ a s H) (kk : ∀ (G : tG) (a : Nat → Option (Nat → Int32)) (H : Heap), tE G p s m c #[Value.ref b] RL cL_law 4 → tSt G (tA τ) s → lK G x1 a → lS G τ σ a s H → W p l e room_1 s m #[Value.ref b] below meth c H [] 472 11431 Q (F0 m 1312 ls [])) : W p l e room_1 s m #[Value.ref b] below meth c H [] 472 11431 Q (F0 m 399 ls []) := by
  have hx := E.1
  have hb := E.2.1
  obtain ⟨hA, ta, tu, ha, hu, hT⟩ := hK
  obtain ⟨hA8, hA10, hA11, hA14, hA16⟩ := id hA
  have hT9 := hT
  obtain ⟨hTs, hR, hIa, hJ, hIu, -⟩ := hT9
  refine lv_aload_n hx hb dL_law_399 rfl (lv_at hl 1 rfl) ?_
  refine lv_aload_n hx hb dL_law_400 rfl (lv_at hl 0 rfl) ?_
  refine lv_iload_n hx hb dL_law_401 rfl (lv_at hl 3 rfl) ?_
  refine lv_iconst (v := 1) hx hb dL_law_402 (by decide) ?_
  refine lv_iadd hx hb dL_law_403 ?_
  refine lv_topi (fun z1 ez1 => ?_)
  have tz1 := tn_add ez1 rfl kI_1 (by omega) (by omega)
  refine va_sld hx hb hX hbl (by show ¬ s.heap.size ≤ b; omega) hL.2.2.2.2.2.2.2 (t_in (by omega) (by omega)) dL_law_404 ?_
  refine lv_topi (fun v2 ev2 => ?_)
  refine lv_aload_n hx hb dL_law_405 rfl (lv_at hl 0 rfl) ?_
  refine lv_iload_n hx hb dL_law_406 rfl (lv_at hl 3 rfl) ?_
  refine lv_iconst (v := 2) hx hb dL_law_407 (by decide) ?_
  refine lv_iadd hx hb dL_law_408 ?_
  refine lv_topi (fun z3 ez3 => ?_)
  have tz3 := tn_add ez3 rfl kI_2 (by omega) (by omega)
  refine va_sld hx hb hX hbl (by show ¬ s.heap.size ≤ b; omega) hL.2.2.2.2.2.2.2 (t_in (by omega) (by omega)) dL_law_409 ?_
  refine lv_topi (fun v4 ev4 => ?_)
  refine lc_i hL (tc_runV (As := [.int v2, .int v4]) (rest := []) E hSt hL.G (c_X9_of l G τ x1 v2 v4 hx1) hx1 rv_1 kv_X9_of ml_L_37 ⟨rfl, rfl, Nat.le_of_ble_eq_true rfl, Nat.le_of_ble_eq_true rfl⟩ rfl hl.1 rfl (Nat.le_of_ble_eq_true rfl) ⟨Nat.le_of_ble_eq_true rfl, Nat.le_of_ble_eq_true rfl⟩ dL_law_410) (fun r5 H hL pr5 => ?_)
  refine lv_pop hx hb dL_law_413 rfl ?_
  refine lv_aload_n hx hb dL_law_414 rfl (lv_at hl 2 rfl) ?_
  refine lv_aload_n hx hb dL_law_415 rfl (lv_at hl 0 rfl) ?_
  refine lv_iload_n hx hb dL_law_416 rfl (lv_at hl 3 rfl) ?_
  refine lv_iconst (v := 1) hx hb dL_law_417 (by decide) ?_
  refine lv_iadd hx hb dL_law_418 ?_
  refine lv_topi (fun z6 ez6 => ?_)
  have tz6 := tn_add ez6 rfl kI_1 (by omega) (by omega)
  refine va_sld hx hb hX hbl (by show ¬ s.heap.size ≤ b; omega) hL.2.2.2.2.2.2.2 (t_in (by omega) (by omega)) dL_law_419 ?_
  refine lv_topi (fun v7 ev7 => ?_)
  refine lv_aload_n hx hb dL_law_420 rfl (lv_at hl 0 rfl) ?_
  refine lv_iload_n hx hb dL_law_421 rfl (lv_at hl 3 rfl) ?_
  refine lv_iconst (v := 2) hx hb dL_law_422 (by decide) ?_
  refine lv_iadd hx hb dL_law_423 ?_
  refine lv_topi (fun z8 ez8 => ?_)
  have tz8 := tn_add ez8 rfl kI_2 (by omega) (by omega)
  refine va_sld hx hb hX hbl (by show ¬ s.heap.size ≤ b; omega) hL.2.2.2.2.2.2.2 (t_in (by omega) (by omega)) dL_law_424 ?_
  refine lv_topi (fun v9 ev9 => ?_)
  have hL : lS G τ σ (upA a 2 ta) s H := by rw [upA_self ha]; exact hL
  refine tc_callp (mc_runV (As := [.int v7, .int v9]) (rest := []) E hL.M (c_X10_of l G (σ, 2, qX (upA a 2 ta)) x2 v7 v9 hx2 ta (qX_TI mu_2 upA_at) hIa) hx2 rfl kv_X10_of ml_L_40 ⟨rfl, rfl, Nat.le_of_ble_eq_true rfl, Nat.le_of_ble_eq_true rfl⟩ rfl hl.1 rfl (Nat.le_of_ble_eq_true rfl) ⟨Nat.le_of_ble_eq_true rfl, Nat.le_of_ble_eq_true rfl⟩ dL_law_425) (fun r10 _ => ?_)
  rw [upA_self ha] at hL
  have hK : lK G x1 a := ⟨hA, ta, tu, ha, hu, hT⟩
  refine lv_pop hx hb dL_law_428 rfl ?_
  refine lv_goto (tgt := 1312) hx hb dL_law_429 (by decide) ?_
  exact kk G _ _ E hSt hK hL
set_option maxHeartbeats 4000000 in
set_option maxRecDepth 100000 in
theorem lw_c6 {p : Program} {l : Launch} {e : Env} {s : State} {m : MethodId} {below : List Frame} {meth : Method} {c : Code} {b L x1 x2 : Nat} {xs : Nat → Int32} {G : tG} {τ σ : Nat → Nat} {a : Nat → Option (Nat → Int32)} {H : Heap} {ls : Array Slot} {i : Int32} {Q : State → Prop} (E : tE G p s m c #[Value.ref b] RL cL_law 4) (hSt : tSt G (tA τ) s) (hX : va_X b L xs s s.heap) (hbl : b < s.heap.size) (hx1 : τ x1 = 1) (hx2 : σ x2 = 1) (h28 : ∀ q, τ q ≠ 28) (h29 : ∀ q, τ q ≠ 29) (h7 : ∀ q, τ q = 7 → q = x1 + 406) (h18 : τ (x1 + 438) = 18) (hi0 : 0 ≤ i.toInt) (hiL : i.toInt + 7 ≤ (L : Int)) (hL0 : L ≤ 3584) (hl : lv_has ls 4 [(0, .ref b), (1, .ref x1), (2, .ref x2), (3, .int i)]) (hK : lK G x1 a) (hL : lS G τ σ a s H) (kk : ∀ (G : tG) (a : Nat → Option (Nat → Int32)) (H : Heap), tE G p s m c #[Value.ref b] RL cL_law 4 → tSt G (tA τ) s → lK G x1 a → lS G τ σ a s H → W p l e room_1 s m #[Value.ref b] below meth c H [] 472 11431 Q (F0 m 1312 ls [])) : W p l e room_1 s m #[Value.ref b] below meth c H [] 472 11431 Q (F0 m 432 ls []) := by
  have hx := E.1
  have hb := E.2.1
  obtain ⟨hA, ta, tu, ha, hu, hT⟩ := hK
  obtain ⟨hA8, hA10, hA11, hA14, hA16⟩ := id hA
  have hT9 := hT
  obtain ⟨hTs, hR, hIa, hJ, hIu, -⟩ := hT9
  refine lv_aload_n hx hb dL_law_432 rfl (lv_at hl 1 rfl) ?_
  refine lv_aload_n hx hb dL_law_433 rfl (lv_at hl 0 rfl) ?_
  refine lv_iload_n hx hb dL_law_434 rfl (lv_at hl 3 rfl) ?_
  refine lv_iconst (v := 1) hx hb dL_law_435 (by decide) ?_
  refine lv_iadd hx hb dL_law_436 ?_
  refine lv_topi (fun z1 ez1 => ?_)
  have tz1 := tn_add ez1 rfl kI_1 (by omega) (by omega)
  refine va_sld hx hb hX hbl (by show ¬ s.heap.size ≤ b; omega) hL.2.2.2.2.2.2.2 (t_in (by omega) (by omega)) dL_law_437 ?_
  refine lv_topi (fun v2 ev2 => ?_)
  refine lv_aload_n hx hb dL_law_438 rfl (lv_at hl 0 rfl) ?_
  refine lv_iload_n hx hb dL_law_439 rfl (lv_at hl 3 rfl) ?_
  refine lv_iconst (v := 2) hx hb dL_law_440 (by decide) ?_
  refine lv_iadd hx hb dL_law_441 ?_
  refine lv_topi (fun z3 ez3 => ?_)
  have tz3 := tn_add ez3 rfl kI_2 (by omega) (by omega)
  refine va_sld hx hb hX hbl (by show ¬ s.heap.size ≤ b; omega) hL.2.2.2.2.2.2.2 (t_in (by omega) (by omega)) dL_law_442 ?_
  refine lv_topi (fun v4 ev4 => ?_)
  refine tc_callp (tc_runV (As := [.int v2, .int v4]) (rest := []) E hSt hL.G (x_X9_child l G τ x1 v2 v4 hx1 hA8.symm) hx1 rv_1 kv_X9_child ml_L_41 ⟨rfl, rfl, Nat.le_of_ble_eq_true rfl, Nat.le_of_ble_eq_true rfl⟩ rfl hl.1 rfl (Nat.le_of_ble_eq_true rfl) ⟨Nat.le_of_ble_eq_true rfl, Nat.le_of_ble_eq_true rfl⟩ dL_law_443) (fun r5 pr5 => ?_)
  refine lv_pop hx hb dL_law_446 rfl ?_
  refine lv_aload_n hx hb dL_law_447 rfl (lv_at hl 2 rfl) ?_
  refine lv_aload_n hx hb dL_law_448 rfl (lv_at hl 0 rfl) ?_
  refine lv_iload_n hx hb dL_law_449 rfl (lv_at hl 3 rfl) ?_
  refine lv_iconst (v := 1) hx hb dL_law_450 (by decide) ?_
  refine lv_iadd hx hb dL_law_451 ?_
  refine lv_topi (fun z6 ez6 => ?_)
  have tz6 := tn_add ez6 rfl kI_1 (by omega) (by omega)
  refine va_sld hx hb hX hbl (by show ¬ s.heap.size ≤ b; omega) hL.2.2.2.2.2.2.2 (t_in (by omega) (by omega)) dL_law_452 ?_
  refine lv_topi (fun v7 ev7 => ?_)
  refine lv_aload_n hx hb dL_law_453 rfl (lv_at hl 0 rfl) ?_
  refine lv_iload_n hx hb dL_law_454 rfl (lv_at hl 3 rfl) ?_
  refine lv_iconst (v := 2) hx hb dL_law_455 (by decide) ?_
  refine lv_iadd hx hb dL_law_456 ?_
  refine lv_topi (fun z8 ez8 => ?_)
  have tz8 := tn_add ez8 rfl kI_2 (by omega) (by omega)
  refine va_sld hx hb hX hbl (by show ¬ s.heap.size ≤ b; omega) hL.2.2.2.2.2.2.2 (t_in (by omega) (by omega)) dL_law_457 ?_
  refine lv_topi (fun v9 ev9 => ?_)
  have hL : lS G τ σ (upA a 2 ta) s H := by rw [upA_self ha]; exact hL
  refine tc_callp (mc_runV (As := [.int v7, .int v9]) (rest := []) E hL.M (x_X10_child l G (σ, 2, qX (upA a 2 ta)) x2 v7 v9 hx2 ta (qX_TI mu_2 upA_at) hIa) hx2 rfl kv_X10_child ml_L_44 ⟨rfl, rfl, Nat.le_of_ble_eq_true rfl, Nat.le_of_ble_eq_true rfl⟩ rfl hl.1 rfl (Nat.le_of_ble_eq_true rfl) ⟨Nat.le_of_ble_eq_true rfl, Nat.le_of_ble_eq_true rfl⟩ dL_law_458) (fun r10 pr10 => ?_)
  rw [upA_self ha] at hL
  have hK : lK G x1 a := ⟨hA, ta, tu, ha, hu, hT⟩
  have q0 : v7 = v2 := by rw [ev7, ev2, ez6, ez1]
  have q1 : v9 = v4 := by rw [ev9, ev4, ez8, ez3]
  rw [q0, q1] at pr10
  have hrr : r5 = r10 := RL_child hR pr5 pr10
  refine lv_pop hx hb dL_law_461 rfl ?_
  refine lv_goto (tgt := 1312) hx hb dL_law_462 (by decide) ?_
  exact kk G _ _ E hSt hK hL
set_option maxHeartbeats 4000000 in
set_option maxRecDepth 100000 in
theorem lw_c7 {p : Program} {l : Launch} {e : Env} {s : State} {m : MethodId} {below : List Frame} {meth : Method} {c : Code} {b L x1 x2 : Nat} {xs : Nat → Int32} {G : tG} {τ σ : Nat → Nat} {a : Nat → Option (Nat → Int32)} {H : Heap} {ls : Array Slot} {i : Int32} {Q : State → Prop} (E : tE G p s m c #[Value.ref b] RL cL_law 4) (hSt : tSt G (tA τ) s) (hX : va_X b L xs s s.heap) (hbl : b < s.heap.size) (hx1 : τ x1 = 1) (hx2 : σ x2 = 1) (h28 : ∀ q, τ q ≠ 28) (h29 : ∀ q, τ q ≠ 29) (h7 : ∀ q, τ q = 7 → q = x1 + 406) (h18 : τ (x1 + 438) = 18) (hi0 : 0 ≤ i.toInt) (hiL : i.toInt + 7 ≤ (L : Int)) (hL0 : L ≤ 3584) (hl : lv_has ls 4 [(0, .ref b), (1, .ref x1), (2, .ref x2), (3, .int i)]) (hK : lK G x1 a) (hL : lS G τ σ a s H) (kk : ∀ (G : tG) (a : Nat → Option (Nat → Int32)) (H : Heap), tE G p s m c #[Value.ref b] RL cL_law 4 → tSt G (tA τ) s → lK G x1 a → lS G τ σ a s H → W p l e room_1 s m #[Value.ref b] below meth c H [] 472 11431 Q (F0 m 1312 ls [])) : W p l e room_1 s m #[Value.ref b] below meth c H [] 472 11431 Q (F0 m 465 ls []) := by
  have hx := E.1
  have hb := E.2.1
  obtain ⟨hA, ta, tu, ha, hu, hT⟩ := hK
  obtain ⟨hA8, hA10, hA11, hA14, hA16⟩ := id hA
  have hT9 := hT
  obtain ⟨hTs, hR, hIa, hJ, hIu, -⟩ := hT9
  refine lv_aload_n hx hb dL_law_465 rfl (lv_at hl 1 rfl) ?_
  refine lv_aload_n hx hb dL_law_466 rfl (lv_at hl 0 rfl) ?_
  refine lv_iload_n hx hb dL_law_467 rfl (lv_at hl 3 rfl) ?_
  refine lv_iconst (v := 1) hx hb dL_law_468 (by decide) ?_
  refine lv_iadd hx hb dL_law_469 ?_
  refine lv_topi (fun z1 ez1 => ?_)
  have tz1 := tn_add ez1 rfl kI_1 (by omega) (by omega)
  refine va_sld hx hb hX hbl (by show ¬ s.heap.size ≤ b; omega) hL.2.2.2.2.2.2.2 (t_in (by omega) (by omega)) dL_law_470 ?_
  refine lv_topi (fun v2 ev2 => ?_)
  refine lf_c hL (tc_runV (As := [.int v2]) (rest := []) E hSt hL.G (x_X9_letter l G (FF G) τ x1 v2 hx1 hA8.symm (by omega)) hx1 rv_1 kv_X9_letter ml_L_45 ⟨rfl, rfl, Nat.le_of_ble_eq_true rfl, Nat.le_of_ble_eq_true rfl⟩ rfl hl.1 rfl (Nat.le_of_ble_eq_true rfl) ⟨Nat.le_of_ble_eq_true rfl, Nat.le_of_ble_eq_true rfl⟩ dL_law_471) (fun r3 F9 H pr3 hL => ?_)
  have pc9 : LEc (FF G) F9 x1 (G.2.2.1 16) v2 r3 := pr3
  clear pr3
  obtain ⟨G1, eG1⟩ : ∃ Z : tG, Z = gF G F9 := ⟨_, rfl⟩
  rw [← eG1] at hL
  have E1 : tE G1 p s m c #[Value.ref b] RL cL_law 4 := by rw [eG1]; exact E
  have hSt1 : tSt G1 (tA τ) s := by rw [eG1]; exact hSt
  have eM1 : FM G1 = FM G := by rw [eG1]; rfl
  have eF1 : FF G1 = F9 := by rw [eG1]; rfl
  have hA1 : lA G1 x1 := by rw [eG1]; exact hA
  have eT1 : G1.2.2.1 = G.2.2.1 := by rw [eG1]; rfl
  refine lv_pop hx hb dL_law_474 rfl ?_
  refine lv_aload_n hx hb dL_law_475 rfl (lv_at hl 2 rfl) ?_
  refine lv_aload_n hx hb dL_law_476 rfl (lv_at hl 0 rfl) ?_
  refine lv_iload_n hx hb dL_law_477 rfl (lv_at hl 3 rfl) ?_
  refine lv_iconst (v := 1) hx hb dL_law_478 (by decide) ?_
  refine lv_iadd hx hb dL_law_479 ?_
  refine lv_topi (fun z4 ez4 => ?_)
  have tz4 := tn_add ez4 rfl kI_1 (by omega) (by omega)
  refine va_sld hx hb hX hbl (by show ¬ s.heap.size ≤ b; omega) hL.2.2.2.2.2.2.2 (t_in (by omega) (by omega)) dL_law_480 ?_
  refine lv_topi (fun v5 ev5 => ?_)
  have hL9 := hL
  have hL : lS G1 τ σ (upA a 2 ta) s H := by rw [upA_self ha]; exact hL9
  refine lf_m (P := fun r9 a9 W => ∃ t, a9 = upA a 2 t ∧ LTx G1 ta v5 r9 t W) hL (mc_runV (As := [.int v5]) (rest := []) E1 hL.M (x_X10_letter l G1 σ a ta x2 v5 hx2 hIa) hx2 rfl kv_X10_letter ml_L_48 ⟨rfl, rfl, Nat.le_of_ble_eq_true rfl, Nat.le_of_ble_eq_true rfl⟩ rfl hl.1 rfl (Nat.le_of_ble_eq_true rfl) ⟨Nat.le_of_ble_eq_true rfl, Nat.le_of_ble_eq_true rfl⟩ dL_law_481) (fun _ Z _ _ hp => by obtain ⟨t, e, hg⟩ := hp; exact ⟨_, hL9.2.2.2.2.2.1.up (by rw [hg.1]; exact hIa), by rw [e]; exact mLe.refl, t, rfl, hg⟩) (fun r6 W a9 H pr6 hL => ?_)
  obtain ⟨t9, e9, hg9⟩ := pr6
  have q0 : v5 = v2 := by rw [ev5, ev2, ez4, ez1]
  rw [q0] at hg9
  unfold LTx at hg9
  obtain ⟨et, hg9⟩ := hg9
  rw [et] at e9
  rw [eM1] at hg9
  have hRL := RL_letter hT pc9 hg9
  have hK : lK (kM G1 W) x1 a9 := by rw [e9]; exact ⟨hA1, ta, tu, upA_at, (upA_ne (by decide)).trans hu, by show lT (FF G1) W x1 (G1.2.2.1 10) (G1.2.2.1 11) (G1.2.2.1 16) ta tu; rw [eF1, eT1]; exact hRL.2⟩
  have hrr : r3 = r6 := hRL.1
  refine lv_pop hx hb dL_law_484 rfl ?_
  refine lv_goto (tgt := 1312) hx hb dL_law_485 (by decide) ?_
  exact kk (kM G1 W) _ _ E1 hSt1 hK hL
set_option maxHeartbeats 4000000 in
set_option maxRecDepth 100000 in
theorem lw_c8 {p : Program} {l : Launch} {e : Env} {s : State} {m : MethodId} {below : List Frame} {meth : Method} {c : Code} {b L x1 x2 : Nat} {xs : Nat → Int32} {G : tG} {τ σ : Nat → Nat} {a : Nat → Option (Nat → Int32)} {H : Heap} {ls : Array Slot} {i : Int32} {Q : State → Prop} (E : tE G p s m c #[Value.ref b] RL cL_law 4) (hSt : tSt G (tA τ) s) (hX : va_X b L xs s s.heap) (hbl : b < s.heap.size) (hx1 : τ x1 = 1) (hx2 : σ x2 = 1) (h28 : ∀ q, τ q ≠ 28) (h29 : ∀ q, τ q ≠ 29) (h7 : ∀ q, τ q = 7 → q = x1 + 406) (h18 : τ (x1 + 438) = 18) (hi0 : 0 ≤ i.toInt) (hiL : i.toInt + 7 ≤ (L : Int)) (hL0 : L ≤ 3584) (hl : lv_has ls 4 [(0, .ref b), (1, .ref x1), (2, .ref x2), (3, .int i)]) (hK : lK G x1 a) (hL : lS G τ σ a s H) (kk : ∀ (G : tG) (a : Nat → Option (Nat → Int32)) (H : Heap), tE G p s m c #[Value.ref b] RL cL_law 4 → tSt G (tA τ) s → lK G x1 a → lS G τ σ a s H → W p l e room_1 s m #[Value.ref b] below meth c H [] 472 11431 Q (F0 m 1312 ls [])) : W p l e room_1 s m #[Value.ref b] below meth c H [] 472 11431 Q (F0 m 488 ls []) := by
  have hx := E.1
  have hb := E.2.1
  obtain ⟨hA, ta, tu, ha, hu, hT⟩ := hK
  obtain ⟨hA8, hA10, hA11, hA14, hA16⟩ := id hA
  have hT9 := hT
  obtain ⟨hTs, hR, hIa, hJ, hIu, -⟩ := hT9
  refine lv_aload_n hx hb dL_law_488 rfl (lv_at hl 1 rfl) ?_
  refine lv_aload_n hx hb dL_law_489 rfl (lv_at hl 0 rfl) ?_
  refine lv_iload_n hx hb dL_law_490 rfl (lv_at hl 3 rfl) ?_
  refine lv_iconst (v := 1) hx hb dL_law_491 (by decide) ?_
  refine lv_iadd hx hb dL_law_492 ?_
  refine lv_topi (fun z1 ez1 => ?_)
  have tz1 := tn_add ez1 rfl kI_1 (by omega) (by omega)
  refine va_sld hx hb hX hbl (by show ¬ s.heap.size ≤ b; omega) hL.2.2.2.2.2.2.2 (t_in (by omega) (by omega)) dL_law_493 ?_
  refine lv_topi (fun v2 ev2 => ?_)
  refine lf_c hL (tc_runV (As := [.int v2]) (rest := []) E hSt hL.G (x_X9_reads l G (FF G) τ x1 v2 hx1 hA8.symm (hR.lt hIa) (fun q hq => by rw [hA14]; exact h7 q hq) (by rw [hA16]; exact h18) (by omega) (by omega) (by omega) (by omega) (hR.k0 hIa)) hx1 rv_1 kv_X9_reads ml_L_49 ⟨rfl, rfl, Nat.le_of_ble_eq_true rfl, Nat.le_of_ble_eq_true rfl⟩ rfl hl.1 rfl (Nat.le_of_ble_eq_true rfl) ⟨Nat.le_of_ble_eq_true rfl, Nat.le_of_ble_eq_true rfl⟩ dL_law_494) (fun r3 F9 H pr3 hL => ?_)
  have pc9 : RDc (FF G) F9 (G.2.2.1 10) (G.2.2.1 14) (G.2.2.1 16) x1 v2 r3 := pr3
  clear pr3
  obtain ⟨G1, eG1⟩ : ∃ Z : tG, Z = gF G F9 := ⟨_, rfl⟩
  rw [← eG1] at hL
  have E1 : tE G1 p s m c #[Value.ref b] RL cL_law 4 := by rw [eG1]; exact E
  have hSt1 : tSt G1 (tA τ) s := by rw [eG1]; exact hSt
  have eM1 : FM G1 = FM G := by rw [eG1]; rfl
  have eF1 : FF G1 = F9 := by rw [eG1]; rfl
  have hA1 : lA G1 x1 := by rw [eG1]; exact hA
  have eT1 : G1.2.2.1 = G.2.2.1 := by rw [eG1]; rfl
  refine lv_pop hx hb dL_law_497 rfl ?_
  refine lv_aload_n hx hb dL_law_498 rfl (lv_at hl 2 rfl) ?_
  refine lv_aload_n hx hb dL_law_499 rfl (lv_at hl 0 rfl) ?_
  refine lv_iload_n hx hb dL_law_500 rfl (lv_at hl 3 rfl) ?_
  refine lv_iconst (v := 1) hx hb dL_law_501 (by decide) ?_
  refine lv_iadd hx hb dL_law_502 ?_
  refine lv_topi (fun z4 ez4 => ?_)
  have tz4 := tn_add ez4 rfl kI_1 (by omega) (by omega)
  refine va_sld hx hb hX hbl (by show ¬ s.heap.size ≤ b; omega) hL.2.2.2.2.2.2.2 (t_in (by omega) (by omega)) dL_law_503 ?_
  refine lv_topi (fun v5 ev5 => ?_)
  have hL0a := hL.2.2.2.2.2.1
  have hL9 := hL
  have hL : lS G1 τ σ (upA a 2 ta) s H := by rw [upA_self ha]; exact hL9
  refine lf_m (P := fun r9 a9 W => ∃ t, a9 = upA a 2 t ∧ RDx G1 ta v5.toInt r9 t W ∧ TInv t) hL (mc_runV (As := [.int v5]) (rest := []) E1 hL.M (x_X10_reads l G1 σ 2 a ta x2 v5 hx2 hIa hL0a.1 hL0a.2.1 (by rw [eM1]; exact hT.2.2.2.2.2.2.2.2.2.2.2)) hx2 rfl kv_X10_reads ml_L_52 ⟨rfl, rfl, Nat.le_of_ble_eq_true rfl, Nat.le_of_ble_eq_true rfl⟩ rfl hl.1 rfl (Nat.le_of_ble_eq_true rfl) ⟨Nat.le_of_ble_eq_true rfl, Nat.le_of_ble_eq_true rfl⟩ dL_law_504) (fun _ Z _ _ hp => by obtain ⟨t, e, hg, ht⟩ := hp; exact ⟨_, hL9.2.2.2.2.2.1.up ht, by rw [e]; exact mLe.refl, t, rfl, hg, ht⟩) (fun r6 W a9 H pr6 hL => ?_)
  obtain ⟨t9, e9, hg9, hI9⟩ := pr6
  have q0 : v5 = v2 := by rw [ev5, ev2, ez4, ez1]
  rw [q0] at hg9
  have hg9 : RDx G ta v2.toInt r6 t9 W := by have hg := hg9; unfold RDx at hg ⊢; rw [eM1] at hg; exact hg
  have hRL := RL_reads hR hIa hJ hT.2.2.2.2.2.2.1.1 hT.2.2.2.2.2.2.1.2.2 hT.2.2.2.2.2.2.2.1 (by omega) (by omega) (by omega) pc9 hg9 hI9
  have hK : lK (kM G1 W) x1 a9 := by rw [e9]; exact ⟨hA1, t9, tu, upA_at, (upA_ne (by decide)).trans hu, by show lT (FF G1) W x1 (G1.2.2.1 10) (G1.2.2.1 11) (G1.2.2.1 16) t9 tu; rw [eF1, eT1]; exact hT.rd hA14 hRL.2.1 hI9 hRL.2.2.1 hRL.2.2.2.1 hRL.2.2.2.2.1 hRL.2.2.2.2.2⟩
  have hrr : r3 = r6 := hRL.1
  refine lv_pop hx hb dL_law_507 rfl ?_
  refine lv_goto (tgt := 1312) hx hb dL_law_508 (by decide) ?_
  exact kk (kM G1 W) _ _ E1 hSt1 hK hL
set_option maxHeartbeats 4000000 in
set_option maxRecDepth 100000 in
theorem lw_c9 {p : Program} {l : Launch} {e : Env} {s : State} {m : MethodId} {below : List Frame} {meth : Method} {c : Code} {b L x1 x2 : Nat} {xs : Nat → Int32} {G : tG} {τ σ : Nat → Nat} {a : Nat → Option (Nat → Int32)} {H : Heap} {ls : Array Slot} {i : Int32} {Q : State → Prop} (E : tE G p s m c #[Value.ref b] RL cL_law 4) (hSt : tSt G (tA τ) s) (hX : va_X b L xs s s.heap) (hbl : b < s.heap.size) (hx1 : τ x1 = 1) (hx2 : σ x2 = 1) (h28 : ∀ q, τ q ≠ 28) (h29 : ∀ q, τ q ≠ 29) (h7 : ∀ q, τ q = 7 → q = x1 + 406) (h18 : τ (x1 + 438) = 18) (hi0 : 0 ≤ i.toInt) (hiL : i.toInt + 7 ≤ (L : Int)) (hL0 : L ≤ 3584) (hl : lv_has ls 4 [(0, .ref b), (1, .ref x1), (2, .ref x2), (3, .int i)]) (hK : lK G x1 a) (hL : lS G τ σ a s H) (kk : ∀ (G : tG) (a : Nat → Option (Nat → Int32)) (H : Heap), tE G p s m c #[Value.ref b] RL cL_law 4 → tSt G (tA τ) s → lK G x1 a → lS G τ σ a s H → W p l e room_1 s m #[Value.ref b] below meth c H [] 472 11431 Q (F0 m 1312 ls [])) : W p l e room_1 s m #[Value.ref b] below meth c H [] 472 11431 Q (F0 m 511 ls []) := by
  have hx := E.1
  have hb := E.2.1
  obtain ⟨hA, ta, tu, ha, hu, hT⟩ := hK
  obtain ⟨hA8, hA10, hA11, hA14, hA16⟩ := id hA
  have hT9 := hT
  obtain ⟨hTs, hR, hIa, hJ, hIu, -⟩ := hT9
  refine lv_aload_n hx hb dL_law_511 rfl (lv_at hl 1 rfl) ?_
  refine lv_aload_n hx hb dL_law_512 rfl (lv_at hl 0 rfl) ?_
  refine lv_iload_n hx hb dL_law_513 rfl (lv_at hl 3 rfl) ?_
  refine lv_iconst (v := 1) hx hb dL_law_514 (by decide) ?_
  refine lv_iadd hx hb dL_law_515 ?_
  refine lv_topi (fun z1 ez1 => ?_)
  have tz1 := tn_add ez1 rfl kI_1 (by omega) (by omega)
  refine va_sld hx hb hX hbl (by show ¬ s.heap.size ≤ b; omega) hL.2.2.2.2.2.2.2 (t_in (by omega) (by omega)) dL_law_516 ?_
  refine lv_topi (fun v2 ev2 => ?_)
  refine lv_aload_n hx hb dL_law_517 rfl (lv_at hl 0 rfl) ?_
  refine lv_iload_n hx hb dL_law_518 rfl (lv_at hl 3 rfl) ?_
  refine lv_iconst (v := 2) hx hb dL_law_519 (by decide) ?_
  refine lv_iadd hx hb dL_law_520 ?_
  refine lv_topi (fun z3 ez3 => ?_)
  have tz3 := tn_add ez3 rfl kI_2 (by omega) (by omega)
  refine va_sld hx hb hX hbl (by show ¬ s.heap.size ≤ b; omega) hL.2.2.2.2.2.2.2 (t_in (by omega) (by omega)) dL_law_521 ?_
  refine lv_topi (fun v4 ev4 => ?_)
  refine lc_i hL (tc_runV (As := [.int v2, .int v4]) (rest := []) E hSt hL.G (c_X9_printed l G τ x1 v2 v4 hx1) hx1 rv_1 kv_X9_printed ml_L_53 ⟨rfl, rfl, Nat.le_of_ble_eq_true rfl, Nat.le_of_ble_eq_true rfl⟩ rfl hl.1 rfl (Nat.le_of_ble_eq_true rfl) ⟨Nat.le_of_ble_eq_true rfl, Nat.le_of_ble_eq_true rfl⟩ dL_law_522) (fun r5 H hL pr5 => ?_)
  refine lv_pop hx hb dL_law_525 rfl ?_
  refine lv_aload_n hx hb dL_law_526 rfl (lv_at hl 2 rfl) ?_
  refine lv_aload_n hx hb dL_law_527 rfl (lv_at hl 0 rfl) ?_
  refine lv_iload_n hx hb dL_law_528 rfl (lv_at hl 3 rfl) ?_
  refine lv_iconst (v := 1) hx hb dL_law_529 (by decide) ?_
  refine lv_iadd hx hb dL_law_530 ?_
  refine lv_topi (fun z6 ez6 => ?_)
  have tz6 := tn_add ez6 rfl kI_1 (by omega) (by omega)
  refine va_sld hx hb hX hbl (by show ¬ s.heap.size ≤ b; omega) hL.2.2.2.2.2.2.2 (t_in (by omega) (by omega)) dL_law_531 ?_
  refine lv_topi (fun v7 ev7 => ?_)
  refine lv_aload_n hx hb dL_law_532 rfl (lv_at hl 0 rfl) ?_
  refine lv_iload_n hx hb dL_law_533 rfl (lv_at hl 3 rfl) ?_
  refine lv_iconst (v := 2) hx hb dL_law_534 (by decide) ?_
  refine lv_iadd hx hb dL_law_535 ?_
  refine lv_topi (fun z8 ez8 => ?_)
  have tz8 := tn_add ez8 rfl kI_2 (by omega) (by omega)
  refine va_sld hx hb hX hbl (by show ¬ s.heap.size ≤ b; omega) hL.2.2.2.2.2.2.2 (t_in (by omega) (by omega)) dL_law_536 ?_
  refine lv_topi (fun v9 ev9 => ?_)
  have hL9 := hL
  have hL : lS G τ σ (upA a 2 ta) s H := by rw [upA_self ha]; exact hL9
  refine lx_i (P := fun _ a9 => ∃ t, a9 = upA a 2 t ∧ AG ta t ∧ TInv t) hL (mc_runV (As := [.int v7, .int v9]) (rest := []) E hL.M (c_X10_printed l G σ 2 a ta x2 v7 v9 hx2 hIa) hx2 rfl kv_X10_printed ml_L_56 ⟨rfl, rfl, Nat.le_of_ble_eq_true rfl, Nat.le_of_ble_eq_true rfl⟩ rfl hl.1 rfl (Nat.le_of_ble_eq_true rfl) ⟨Nat.le_of_ble_eq_true rfl, Nat.le_of_ble_eq_true rfl⟩ dL_law_537) (fun _ Z _ hp => by obtain ⟨t, e, hg, ht⟩ := hp; exact ⟨_, hL9.2.2.2.2.2.1.up ht, by rw [e]; exact mLe.refl, t, rfl, hg, ht⟩) (fun r10 a9 H pr10 hL => ?_)
  obtain ⟨t9, e9, hg9, hI9⟩ := pr10
  have hK : lK G x1 a9 := by rw [e9]; exact ⟨hA, t9, tu, upA_at, (upA_ne (by decide)).trans hu, hT.ag hg9 hI9⟩
  refine lv_pop hx hb dL_law_540 rfl ?_
  refine lv_goto (tgt := 1312) hx hb dL_law_541 (by decide) ?_
  exact kk G _ _ E hSt hK hL
set_option maxHeartbeats 4000000 in
set_option maxRecDepth 100000 in
theorem lw_c10 {p : Program} {l : Launch} {e : Env} {s : State} {m : MethodId} {below : List Frame} {meth : Method} {c : Code} {b L x1 x2 : Nat} {xs : Nat → Int32} {G : tG} {τ σ : Nat → Nat} {a : Nat → Option (Nat → Int32)} {H : Heap} {ls : Array Slot} {i : Int32} {Q : State → Prop} (E : tE G p s m c #[Value.ref b] RL cL_law 4) (hSt : tSt G (tA τ) s) (hX : va_X b L xs s s.heap) (hbl : b < s.heap.size) (hx1 : τ x1 = 1) (hx2 : σ x2 = 1) (h28 : ∀ q, τ q ≠ 28) (h29 : ∀ q, τ q ≠ 29) (h7 : ∀ q, τ q = 7 → q = x1 + 406) (h18 : τ (x1 + 438) = 18) (hi0 : 0 ≤ i.toInt) (hiL : i.toInt + 7 ≤ (L : Int)) (hL0 : L ≤ 3584) (hl : lv_has ls 4 [(0, .ref b), (1, .ref x1), (2, .ref x2), (3, .int i)]) (hK : lK G x1 a) (hL : lS G τ σ a s H) (kk : ∀ (G : tG) (a : Nat → Option (Nat → Int32)) (H : Heap), tE G p s m c #[Value.ref b] RL cL_law 4 → tSt G (tA τ) s → lK G x1 a → lS G τ σ a s H → W p l e room_1 s m #[Value.ref b] below meth c H [] 472 11431 Q (F0 m 1312 ls [])) : W p l e room_1 s m #[Value.ref b] below meth c H [] 472 11431 Q (F0 m 544 ls []) := by
  have hx := E.1
  have hb := E.2.1
  obtain ⟨hA, ta, tu, ha, hu, hT⟩ := hK
  obtain ⟨hA8, hA10, hA11, hA14, hA16⟩ := id hA
  have hT9 := hT
  obtain ⟨hTs, hR, hIa, hJ, hIu, -⟩ := hT9
  refine lv_aload_n hx hb dL_law_544 rfl (lv_at hl 1 rfl) ?_
  refine lc_i hL (tc_runV (As := []) (rest := []) E hSt hL.G (c_X9_lays l G τ x1 hx1) hx1 rv_1 kv_X9_lays ml_L_57 ⟨rfl, rfl, Nat.le_of_ble_eq_true rfl, Nat.le_of_ble_eq_true rfl⟩ rfl hl.1 rfl (Nat.le_of_ble_eq_true rfl) ⟨Nat.le_of_ble_eq_true rfl, Nat.le_of_ble_eq_true rfl⟩ dL_law_545) (fun r1 H hL pr1 => ?_)
  refine lv_pop hx hb dL_law_548 rfl ?_
  refine lv_aload_n hx hb dL_law_549 rfl (lv_at hl 2 rfl) ?_
  have hL9 := hL
  have hL : lS G τ σ (upA a 2 ta) s H := by rw [upA_self ha]; exact hL9
  refine lx_i (P := fun _ a9 => ∃ t, a9 = upA a 2 t ∧ AG ta t ∧ TInv t) hL (mc_runV (As := []) (rest := []) E hL.M (c_X10_lays l G σ 2 a ta x2 hx2 hIa) hx2 rfl kv_X10_lays ml_L_61 ⟨rfl, rfl, Nat.le_of_ble_eq_true rfl, Nat.le_of_ble_eq_true rfl⟩ rfl hl.1 rfl (Nat.le_of_ble_eq_true rfl) ⟨Nat.le_of_ble_eq_true rfl, Nat.le_of_ble_eq_true rfl⟩ dL_law_550) (fun _ Z _ hp => by obtain ⟨t, e, hg, ht⟩ := hp; exact ⟨_, hL9.2.2.2.2.2.1.up ht, by rw [e]; exact mLe.refl, t, rfl, hg, ht⟩) (fun r2 a9 H pr2 hL => ?_)
  obtain ⟨t9, e9, hg9, hI9⟩ := pr2
  have hK : lK G x1 a9 := by rw [e9]; exact ⟨hA, t9, tu, upA_at, (upA_ne (by decide)).trans hu, hT.ag hg9 hI9⟩
  refine lv_pop hx hb dL_law_553 rfl ?_
  refine lv_goto (tgt := 1312) hx hb dL_law_554 (by decide) ?_
  exact kk G _ _ E hSt hK hL
set_option maxHeartbeats 4000000 in
set_option maxRecDepth 100000 in
theorem lw_c11 {p : Program} {l : Launch} {e : Env} {s : State} {m : MethodId} {below : List Frame} {meth : Method} {c : Code} {b L x1 x2 : Nat} {xs : Nat → Int32} {G : tG} {τ σ : Nat → Nat} {a : Nat → Option (Nat → Int32)} {H : Heap} {ls : Array Slot} {i : Int32} {Q : State → Prop} (E : tE G p s m c #[Value.ref b] RL cL_law 4) (hSt : tSt G (tA τ) s) (hX : va_X b L xs s s.heap) (hbl : b < s.heap.size) (hx1 : τ x1 = 1) (hx2 : σ x2 = 1) (h28 : ∀ q, τ q ≠ 28) (h29 : ∀ q, τ q ≠ 29) (h7 : ∀ q, τ q = 7 → q = x1 + 406) (h18 : τ (x1 + 438) = 18) (hi0 : 0 ≤ i.toInt) (hiL : i.toInt + 7 ≤ (L : Int)) (hL0 : L ≤ 3584) (hl : lv_has ls 4 [(0, .ref b), (1, .ref x1), (2, .ref x2), (3, .int i)]) (hK : lK G x1 a) (hL : lS G τ σ a s H) (kk : ∀ (G : tG) (a : Nat → Option (Nat → Int32)) (H : Heap), tE G p s m c #[Value.ref b] RL cL_law 4 → tSt G (tA τ) s → lK G x1 a → lS G τ σ a s H → W p l e room_1 s m #[Value.ref b] below meth c H [] 472 11431 Q (F0 m 1312 ls [])) : W p l e room_1 s m #[Value.ref b] below meth c H [] 472 11431 Q (F0 m 557 ls []) := by
  have hx := E.1
  have hb := E.2.1
  obtain ⟨hA, ta, tu, ha, hu, hT⟩ := hK
  obtain ⟨hA8, hA10, hA11, hA14, hA16⟩ := id hA
  have hT9 := hT
  obtain ⟨hTs, hR, hIa, hJ, hIu, -⟩ := hT9
  refine lv_aload_n hx hb dL_law_557 rfl (lv_at hl 1 rfl) ?_
  refine lv_aload_n hx hb dL_law_558 rfl (lv_at hl 0 rfl) ?_
  refine lv_iload_n hx hb dL_law_559 rfl (lv_at hl 3 rfl) ?_
  refine lv_iconst (v := 1) hx hb dL_law_560 (by decide) ?_
  refine lv_iadd hx hb dL_law_561 ?_
  refine lv_topi (fun z1 ez1 => ?_)
  have tz1 := tn_add ez1 rfl kI_1 (by omega) (by omega)
  refine va_sld hx hb hX hbl (by show ¬ s.heap.size ≤ b; omega) hL.2.2.2.2.2.2.2 (t_in (by omega) (by omega)) dL_law_562 ?_
  refine lv_topi (fun v2 ev2 => ?_)
  refine lv_aload_n hx hb dL_law_563 rfl (lv_at hl 0 rfl) ?_
  refine lv_iload_n hx hb dL_law_564 rfl (lv_at hl 3 rfl) ?_
  refine lv_iconst (v := 2) hx hb dL_law_565 (by decide) ?_
  refine lv_iadd hx hb dL_law_566 ?_
  refine lv_topi (fun z3 ez3 => ?_)
  have tz3 := tn_add ez3 rfl kI_2 (by omega) (by omega)
  refine va_sld hx hb hX hbl (by show ¬ s.heap.size ≤ b; omega) hL.2.2.2.2.2.2.2 (t_in (by omega) (by omega)) dL_law_567 ?_
  refine lv_topi (fun v4 ev4 => ?_)
  refine lc_i hL (tc_runV (As := [.int v2, .int v4]) (rest := []) E hSt hL.G (c_X9_at l G τ x1 v2 v4 hx1) hx1 rv_1 kv_X9_at ml_L_62 ⟨rfl, rfl, Nat.le_of_ble_eq_true rfl, Nat.le_of_ble_eq_true rfl⟩ rfl hl.1 rfl (Nat.le_of_ble_eq_true rfl) ⟨Nat.le_of_ble_eq_true rfl, Nat.le_of_ble_eq_true rfl⟩ dL_law_568) (fun r5 H hL pr5 => ?_)
  refine lv_pop hx hb dL_law_571 rfl ?_
  refine lv_aload_n hx hb dL_law_572 rfl (lv_at hl 2 rfl) ?_
  refine lv_aload_n hx hb dL_law_573 rfl (lv_at hl 0 rfl) ?_
  refine lv_iload_n hx hb dL_law_574 rfl (lv_at hl 3 rfl) ?_
  refine lv_iconst (v := 1) hx hb dL_law_575 (by decide) ?_
  refine lv_iadd hx hb dL_law_576 ?_
  refine lv_topi (fun z6 ez6 => ?_)
  have tz6 := tn_add ez6 rfl kI_1 (by omega) (by omega)
  refine va_sld hx hb hX hbl (by show ¬ s.heap.size ≤ b; omega) hL.2.2.2.2.2.2.2 (t_in (by omega) (by omega)) dL_law_577 ?_
  refine lv_topi (fun v7 ev7 => ?_)
  refine lv_aload_n hx hb dL_law_578 rfl (lv_at hl 0 rfl) ?_
  refine lv_iload_n hx hb dL_law_579 rfl (lv_at hl 3 rfl) ?_
  refine lv_iconst (v := 2) hx hb dL_law_580 (by decide) ?_
  refine lv_iadd hx hb dL_law_581 ?_
  refine lv_topi (fun z8 ez8 => ?_)
  have tz8 := tn_add ez8 rfl kI_2 (by omega) (by omega)
  refine va_sld hx hb hX hbl (by show ¬ s.heap.size ≤ b; omega) hL.2.2.2.2.2.2.2 (t_in (by omega) (by omega)) dL_law_582 ?_
  refine lv_topi (fun v9 ev9 => ?_)
  have hL9 := hL
  have hL : lS G τ σ (upA a 2 ta) s H := by rw [upA_self ha]; exact hL9
  refine lx_i (P := fun _ a9 => ∃ t, a9 = upA a 2 t ∧ AG ta t ∧ TInv t) hL (mc_runV (As := [.int v7, .int v9]) (rest := []) E hL.M (c_X10_at l G σ 2 a ta x2 v7 v9 hx2 hIa) hx2 rfl kv_X10_at ml_L_65 ⟨rfl, rfl, Nat.le_of_ble_eq_true rfl, Nat.le_of_ble_eq_true rfl⟩ rfl hl.1 rfl (Nat.le_of_ble_eq_true rfl) ⟨Nat.le_of_ble_eq_true rfl, Nat.le_of_ble_eq_true rfl⟩ dL_law_583) (fun _ Z _ hp => by obtain ⟨t, e, hg, ht⟩ := hp; exact ⟨_, hL9.2.2.2.2.2.1.up ht, by rw [e]; exact mLe.refl, t, rfl, hg, ht⟩) (fun r10 a9 H pr10 hL => ?_)
  obtain ⟨t9, e9, hg9, hI9⟩ := pr10
  have hK : lK G x1 a9 := by rw [e9]; exact ⟨hA, t9, tu, upA_at, (upA_ne (by decide)).trans hu, hT.ag hg9 hI9⟩
  refine lv_pop hx hb dL_law_586 rfl ?_
  refine lv_goto (tgt := 1312) hx hb dL_law_587 (by decide) ?_
  exact kk G _ _ E hSt hK hL
set_option maxHeartbeats 4000000 in
set_option maxRecDepth 100000 in
theorem lw_c12 {p : Program} {l : Launch} {e : Env} {s : State} {m : MethodId} {below : List Frame} {meth : Method} {c : Code} {b L x1 x2 : Nat} {xs : Nat → Int32} {G : tG} {τ σ : Nat → Nat} {a : Nat → Option (Nat → Int32)} {H : Heap} {ls : Array Slot} {i : Int32} {Q : State → Prop} (E : tE G p s m c #[Value.ref b] RL cL_law 4) (hSt : tSt G (tA τ) s) (hX : va_X b L xs s s.heap) (hbl : b < s.heap.size) (hx1 : τ x1 = 1) (hx2 : σ x2 = 1) (h28 : ∀ q, τ q ≠ 28) (h29 : ∀ q, τ q ≠ 29) (h7 : ∀ q, τ q = 7 → q = x1 + 406) (h18 : τ (x1 + 438) = 18) (hi0 : 0 ≤ i.toInt) (hiL : i.toInt + 7 ≤ (L : Int)) (hL0 : L ≤ 3584) (hl : lv_has ls 4 [(0, .ref b), (1, .ref x1), (2, .ref x2), (3, .int i)]) (hK : lK G x1 a) (hL : lS G τ σ a s H) (kk : ∀ (G : tG) (a : Nat → Option (Nat → Int32)) (H : Heap), tE G p s m c #[Value.ref b] RL cL_law 4 → tSt G (tA τ) s → lK G x1 a → lS G τ σ a s H → W p l e room_1 s m #[Value.ref b] below meth c H [] 472 11431 Q (F0 m 1312 ls [])) : W p l e room_1 s m #[Value.ref b] below meth c H [] 472 11431 Q (F0 m 590 ls []) := by
  have hx := E.1
  have hb := E.2.1
  obtain ⟨hA, ta, tu, ha, hu, hT⟩ := hK
  obtain ⟨hA8, hA10, hA11, hA14, hA16⟩ := id hA
  have hT9 := hT
  obtain ⟨hTs, hR, hIa, hJ, hIu, -⟩ := hT9
  refine lv_aload_n hx hb dL_law_590 rfl (lv_at hl 1 rfl) ?_
  refine lv_aload_n hx hb dL_law_591 rfl (lv_at hl 0 rfl) ?_
  refine lv_iload_n hx hb dL_law_592 rfl (lv_at hl 3 rfl) ?_
  refine lv_iconst (v := 1) hx hb dL_law_593 (by decide) ?_
  refine lv_iadd hx hb dL_law_594 ?_
  refine lv_topi (fun z1 ez1 => ?_)
  have tz1 := tn_add ez1 rfl kI_1 (by omega) (by omega)
  refine va_sld hx hb hX hbl (by show ¬ s.heap.size ≤ b; omega) hL.2.2.2.2.2.2.2 (t_in (by omega) (by omega)) dL_law_595 ?_
  refine lv_topi (fun v2 ev2 => ?_)
  refine lv_aload_n hx hb dL_law_596 rfl (lv_at hl 0 rfl) ?_
  refine lv_iload_n hx hb dL_law_597 rfl (lv_at hl 3 rfl) ?_
  refine lv_iconst (v := 2) hx hb dL_law_598 (by decide) ?_
  refine lv_iadd hx hb dL_law_599 ?_
  refine lv_topi (fun z3 ez3 => ?_)
  have tz3 := tn_add ez3 rfl kI_2 (by omega) (by omega)
  refine va_sld hx hb hX hbl (by show ¬ s.heap.size ≤ b; omega) hL.2.2.2.2.2.2.2 (t_in (by omega) (by omega)) dL_law_600 ?_
  refine lv_topi (fun v4 ev4 => ?_)
  refine lc_i hL (tc_runV (As := [.int v2, .int v4]) (rest := []) E hSt hL.G (c_X9_bounds l G τ x1 v2 v4 hx1) hx1 rv_1 kv_X9_bounds ml_L_66 ⟨rfl, rfl, Nat.le_of_ble_eq_true rfl, Nat.le_of_ble_eq_true rfl⟩ rfl hl.1 rfl (Nat.le_of_ble_eq_true rfl) ⟨Nat.le_of_ble_eq_true rfl, Nat.le_of_ble_eq_true rfl⟩ dL_law_601) (fun r5 H hL pr5 => ?_)
  refine lv_pop hx hb dL_law_604 rfl ?_
  refine lv_aload_n hx hb dL_law_605 rfl (lv_at hl 2 rfl) ?_
  refine lv_aload_n hx hb dL_law_606 rfl (lv_at hl 0 rfl) ?_
  refine lv_iload_n hx hb dL_law_607 rfl (lv_at hl 3 rfl) ?_
  refine lv_iconst (v := 1) hx hb dL_law_608 (by decide) ?_
  refine lv_iadd hx hb dL_law_609 ?_
  refine lv_topi (fun z6 ez6 => ?_)
  have tz6 := tn_add ez6 rfl kI_1 (by omega) (by omega)
  refine va_sld hx hb hX hbl (by show ¬ s.heap.size ≤ b; omega) hL.2.2.2.2.2.2.2 (t_in (by omega) (by omega)) dL_law_610 ?_
  refine lv_topi (fun v7 ev7 => ?_)
  refine lv_aload_n hx hb dL_law_611 rfl (lv_at hl 0 rfl) ?_
  refine lv_iload_n hx hb dL_law_612 rfl (lv_at hl 3 rfl) ?_
  refine lv_iconst (v := 2) hx hb dL_law_613 (by decide) ?_
  refine lv_iadd hx hb dL_law_614 ?_
  refine lv_topi (fun z8 ez8 => ?_)
  have tz8 := tn_add ez8 rfl kI_2 (by omega) (by omega)
  refine va_sld hx hb hX hbl (by show ¬ s.heap.size ≤ b; omega) hL.2.2.2.2.2.2.2 (t_in (by omega) (by omega)) dL_law_615 ?_
  refine lv_topi (fun v9 ev9 => ?_)
  have hL : lS G τ σ (upA a 2 ta) s H := by rw [upA_self ha]; exact hL
  refine tc_callp (mc_runV (As := [.int v7, .int v9]) (rest := []) E hL.M (c_X10_bounds l G (σ, 2, qX (upA a 2 ta)) x2 v7 v9 hx2) hx2 rfl kv_X10_bounds ml_L_69 ⟨rfl, rfl, Nat.le_of_ble_eq_true rfl, Nat.le_of_ble_eq_true rfl⟩ rfl hl.1 rfl (Nat.le_of_ble_eq_true rfl) ⟨Nat.le_of_ble_eq_true rfl, Nat.le_of_ble_eq_true rfl⟩ dL_law_616) (fun r10 _ => ?_)
  rw [upA_self ha] at hL
  have hK : lK G x1 a := ⟨hA, ta, tu, ha, hu, hT⟩
  refine lv_pop hx hb dL_law_619 rfl ?_
  refine lv_goto (tgt := 1312) hx hb dL_law_620 (by decide) ?_
  exact kk G _ _ E hSt hK hL
set_option maxHeartbeats 4000000 in
set_option maxRecDepth 100000 in
theorem lw_c13 {p : Program} {l : Launch} {e : Env} {s : State} {m : MethodId} {below : List Frame} {meth : Method} {c : Code} {b L x1 x2 : Nat} {xs : Nat → Int32} {G : tG} {τ σ : Nat → Nat} {a : Nat → Option (Nat → Int32)} {H : Heap} {ls : Array Slot} {i : Int32} {Q : State → Prop} (E : tE G p s m c #[Value.ref b] RL cL_law 4) (hSt : tSt G (tA τ) s) (hX : va_X b L xs s s.heap) (hbl : b < s.heap.size) (hx1 : τ x1 = 1) (hx2 : σ x2 = 1) (h28 : ∀ q, τ q ≠ 28) (h29 : ∀ q, τ q ≠ 29) (h7 : ∀ q, τ q = 7 → q = x1 + 406) (h18 : τ (x1 + 438) = 18) (hi0 : 0 ≤ i.toInt) (hiL : i.toInt + 7 ≤ (L : Int)) (hL0 : L ≤ 3584) (hl : lv_has ls 4 [(0, .ref b), (1, .ref x1), (2, .ref x2), (3, .int i)]) (hK : lK G x1 a) (hL : lS G τ σ a s H) (kk : ∀ (G : tG) (a : Nat → Option (Nat → Int32)) (H : Heap), tE G p s m c #[Value.ref b] RL cL_law 4 → tSt G (tA τ) s → lK G x1 a → lS G τ σ a s H → W p l e room_1 s m #[Value.ref b] below meth c H [] 472 11431 Q (F0 m 1312 ls [])) : W p l e room_1 s m #[Value.ref b] below meth c H [] 472 11431 Q (F0 m 623 ls []) := by
  have hx := E.1
  have hb := E.2.1
  obtain ⟨hA, ta, tu, ha, hu, hT⟩ := hK
  obtain ⟨hA8, hA10, hA11, hA14, hA16⟩ := id hA
  have hT9 := hT
  obtain ⟨hTs, hR, hIa, hJ, hIu, -⟩ := hT9
  refine lv_aload_n hx hb dL_law_623 rfl (lv_at hl 1 rfl) ?_
  refine lv_aload_n hx hb dL_law_624 rfl (lv_at hl 0 rfl) ?_
  refine lv_iload_n hx hb dL_law_625 rfl (lv_at hl 3 rfl) ?_
  refine lv_iconst (v := 1) hx hb dL_law_626 (by decide) ?_
  refine lv_iadd hx hb dL_law_627 ?_
  refine lv_topi (fun z1 ez1 => ?_)
  have tz1 := tn_add ez1 rfl kI_1 (by omega) (by omega)
  refine va_sld hx hb hX hbl (by show ¬ s.heap.size ≤ b; omega) hL.2.2.2.2.2.2.2 (t_in (by omega) (by omega)) dL_law_628 ?_
  refine lv_topi (fun v2 ev2 => ?_)
  refine lv_aload_n hx hb dL_law_629 rfl (lv_at hl 0 rfl) ?_
  refine lv_iload_n hx hb dL_law_630 rfl (lv_at hl 3 rfl) ?_
  refine lv_iconst (v := 2) hx hb dL_law_631 (by decide) ?_
  refine lv_iadd hx hb dL_law_632 ?_
  refine lv_topi (fun z3 ez3 => ?_)
  have tz3 := tn_add ez3 rfl kI_2 (by omega) (by omega)
  refine va_sld hx hb hX hbl (by show ¬ s.heap.size ≤ b; omega) hL.2.2.2.2.2.2.2 (t_in (by omega) (by omega)) dL_law_633 ?_
  refine lv_topi (fun v4 ev4 => ?_)
  refine lc_i hL (tc_runV (As := [.int v2, .int v4]) (rest := []) E hSt hL.G (c_X9_asks l G τ x1 v2 v4 hx1) hx1 rv_1 kv_X9_asks ml_L_70 ⟨rfl, rfl, Nat.le_of_ble_eq_true rfl, Nat.le_of_ble_eq_true rfl⟩ rfl hl.1 rfl (Nat.le_of_ble_eq_true rfl) ⟨Nat.le_of_ble_eq_true rfl, Nat.le_of_ble_eq_true rfl⟩ dL_law_634) (fun r5 H hL pr5 => ?_)
  refine lv_pop hx hb dL_law_637 rfl ?_
  refine lv_aload_n hx hb dL_law_638 rfl (lv_at hl 2 rfl) ?_
  refine lv_aload_n hx hb dL_law_639 rfl (lv_at hl 0 rfl) ?_
  refine lv_iload_n hx hb dL_law_640 rfl (lv_at hl 3 rfl) ?_
  refine lv_iconst (v := 1) hx hb dL_law_641 (by decide) ?_
  refine lv_iadd hx hb dL_law_642 ?_
  refine lv_topi (fun z6 ez6 => ?_)
  have tz6 := tn_add ez6 rfl kI_1 (by omega) (by omega)
  refine va_sld hx hb hX hbl (by show ¬ s.heap.size ≤ b; omega) hL.2.2.2.2.2.2.2 (t_in (by omega) (by omega)) dL_law_643 ?_
  refine lv_topi (fun v7 ev7 => ?_)
  refine lv_aload_n hx hb dL_law_644 rfl (lv_at hl 0 rfl) ?_
  refine lv_iload_n hx hb dL_law_645 rfl (lv_at hl 3 rfl) ?_
  refine lv_iconst (v := 2) hx hb dL_law_646 (by decide) ?_
  refine lv_iadd hx hb dL_law_647 ?_
  refine lv_topi (fun z8 ez8 => ?_)
  have tz8 := tn_add ez8 rfl kI_2 (by omega) (by omega)
  refine va_sld hx hb hX hbl (by show ¬ s.heap.size ≤ b; omega) hL.2.2.2.2.2.2.2 (t_in (by omega) (by omega)) dL_law_648 ?_
  refine lv_topi (fun v9 ev9 => ?_)
  have hL9 := hL
  have hL : lS G τ σ (upA a 2 ta) s H := by rw [upA_self ha]; exact hL9
  refine lx_i (P := fun _ a9 => ∃ t, a9 = upA a 2 t ∧ AG ta t ∧ TInv t) hL (mc_runV (As := [.int v7, .int v9]) (rest := []) E hL.M (c_X10_asks l G σ 2 a ta x2 v7 v9 hx2 hIa) hx2 rfl kv_X10_asks ml_L_73 ⟨rfl, rfl, Nat.le_of_ble_eq_true rfl, Nat.le_of_ble_eq_true rfl⟩ rfl hl.1 rfl (Nat.le_of_ble_eq_true rfl) ⟨Nat.le_of_ble_eq_true rfl, Nat.le_of_ble_eq_true rfl⟩ dL_law_649) (fun _ Z _ hp => by obtain ⟨t, e, hg, ht⟩ := hp; exact ⟨_, hL9.2.2.2.2.2.1.up ht, by rw [e]; exact mLe.refl, t, rfl, hg, ht⟩) (fun r10 a9 H pr10 hL => ?_)
  obtain ⟨t9, e9, hg9, hI9⟩ := pr10
  have hK : lK G x1 a9 := by rw [e9]; exact ⟨hA, t9, tu, upA_at, (upA_ne (by decide)).trans hu, hT.ag hg9 hI9⟩
  refine lv_pop hx hb dL_law_652 rfl ?_
  refine lv_goto (tgt := 1312) hx hb dL_law_653 (by decide) ?_
  exact kk G _ _ E hSt hK hL
set_option maxHeartbeats 4000000 in
set_option maxRecDepth 100000 in
theorem lw_c14 {p : Program} {l : Launch} {e : Env} {s : State} {m : MethodId} {below : List Frame} {meth : Method} {c : Code} {b L x1 x2 : Nat} {xs : Nat → Int32} {G : tG} {τ σ : Nat → Nat} {a : Nat → Option (Nat → Int32)} {H : Heap} {ls : Array Slot} {i : Int32} {Q : State → Prop} (E : tE G p s m c #[Value.ref b] RL cL_law 4) (hSt : tSt G (tA τ) s) (hX : va_X b L xs s s.heap) (hbl : b < s.heap.size) (hx1 : τ x1 = 1) (hx2 : σ x2 = 1) (h28 : ∀ q, τ q ≠ 28) (h29 : ∀ q, τ q ≠ 29) (h7 : ∀ q, τ q = 7 → q = x1 + 406) (h18 : τ (x1 + 438) = 18) (hi0 : 0 ≤ i.toInt) (hiL : i.toInt + 7 ≤ (L : Int)) (hL0 : L ≤ 3584) (hl : lv_has ls 4 [(0, .ref b), (1, .ref x1), (2, .ref x2), (3, .int i)]) (hK : lK G x1 a) (hL : lS G τ σ a s H) (kk : ∀ (G : tG) (a : Nat → Option (Nat → Int32)) (H : Heap), tE G p s m c #[Value.ref b] RL cL_law 4 → tSt G (tA τ) s → lK G x1 a → lS G τ σ a s H → W p l e room_1 s m #[Value.ref b] below meth c H [] 472 11431 Q (F0 m 1312 ls [])) : W p l e room_1 s m #[Value.ref b] below meth c H [] 472 11431 Q (F0 m 656 ls []) := by
  have hx := E.1
  have hb := E.2.1
  obtain ⟨hA, ta, tu, ha, hu, hT⟩ := hK
  obtain ⟨hA8, hA10, hA11, hA14, hA16⟩ := id hA
  have hT9 := hT
  obtain ⟨hTs, hR, hIa, hJ, hIu, -⟩ := hT9
  refine lv_aload_n hx hb dL_law_656 rfl (lv_at hl 1 rfl) ?_
  refine lv_aload_n hx hb dL_law_657 rfl (lv_at hl 0 rfl) ?_
  refine lv_iload_n hx hb dL_law_658 rfl (lv_at hl 3 rfl) ?_
  refine lv_iconst (v := 1) hx hb dL_law_659 (by decide) ?_
  refine lv_iadd hx hb dL_law_660 ?_
  refine lv_topi (fun z1 ez1 => ?_)
  have tz1 := tn_add ez1 rfl kI_1 (by omega) (by omega)
  refine va_sld hx hb hX hbl (by show ¬ s.heap.size ≤ b; omega) hL.2.2.2.2.2.2.2 (t_in (by omega) (by omega)) dL_law_661 ?_
  refine lv_topi (fun v2 ev2 => ?_)
  refine lv_aload_n hx hb dL_law_662 rfl (lv_at hl 0 rfl) ?_
  refine lv_iload_n hx hb dL_law_663 rfl (lv_at hl 3 rfl) ?_
  refine lv_iconst (v := 2) hx hb dL_law_664 (by decide) ?_
  refine lv_iadd hx hb dL_law_665 ?_
  refine lv_topi (fun z3 ez3 => ?_)
  have tz3 := tn_add ez3 rfl kI_2 (by omega) (by omega)
  refine va_sld hx hb hX hbl (by show ¬ s.heap.size ≤ b; omega) hL.2.2.2.2.2.2.2 (t_in (by omega) (by omega)) dL_law_666 ?_
  refine lv_topi (fun v4 ev4 => ?_)
  refine lc_i hL (tc_runV (As := [.int v2, .int v4]) (rest := []) E hSt hL.G (c_X9_hit l G τ x1 v2 v4 hx1) hx1 rv_1 kv_X9_hit ml_L_74 ⟨rfl, rfl, Nat.le_of_ble_eq_true rfl, Nat.le_of_ble_eq_true rfl⟩ rfl hl.1 rfl (Nat.le_of_ble_eq_true rfl) ⟨Nat.le_of_ble_eq_true rfl, Nat.le_of_ble_eq_true rfl⟩ dL_law_667) (fun r5 H hL pr5 => ?_)
  refine lv_pop hx hb dL_law_670 rfl ?_
  refine lv_aload_n hx hb dL_law_671 rfl (lv_at hl 2 rfl) ?_
  refine lv_aload_n hx hb dL_law_672 rfl (lv_at hl 0 rfl) ?_
  refine lv_iload_n hx hb dL_law_673 rfl (lv_at hl 3 rfl) ?_
  refine lv_iconst (v := 1) hx hb dL_law_674 (by decide) ?_
  refine lv_iadd hx hb dL_law_675 ?_
  refine lv_topi (fun z6 ez6 => ?_)
  have tz6 := tn_add ez6 rfl kI_1 (by omega) (by omega)
  refine va_sld hx hb hX hbl (by show ¬ s.heap.size ≤ b; omega) hL.2.2.2.2.2.2.2 (t_in (by omega) (by omega)) dL_law_676 ?_
  refine lv_topi (fun v7 ev7 => ?_)
  refine lv_aload_n hx hb dL_law_677 rfl (lv_at hl 0 rfl) ?_
  refine lv_iload_n hx hb dL_law_678 rfl (lv_at hl 3 rfl) ?_
  refine lv_iconst (v := 2) hx hb dL_law_679 (by decide) ?_
  refine lv_iadd hx hb dL_law_680 ?_
  refine lv_topi (fun z8 ez8 => ?_)
  have tz8 := tn_add ez8 rfl kI_2 (by omega) (by omega)
  refine va_sld hx hb hX hbl (by show ¬ s.heap.size ≤ b; omega) hL.2.2.2.2.2.2.2 (t_in (by omega) (by omega)) dL_law_681 ?_
  refine lv_topi (fun v9 ev9 => ?_)
  have hL : lS G τ σ (upA a 2 ta) s H := by rw [upA_self ha]; exact hL
  refine tc_callp (mc_runV (As := [.int v7, .int v9]) (rest := []) E hL.M (c_X10_hit l G (σ, 2, qX (upA a 2 ta)) x2 v7 v9 hx2 ta (qX_TI mu_2 upA_at) hIa) hx2 rfl kv_X10_hit ml_L_77 ⟨rfl, rfl, Nat.le_of_ble_eq_true rfl, Nat.le_of_ble_eq_true rfl⟩ rfl hl.1 rfl (Nat.le_of_ble_eq_true rfl) ⟨Nat.le_of_ble_eq_true rfl, Nat.le_of_ble_eq_true rfl⟩ dL_law_682) (fun r10 _ => ?_)
  rw [upA_self ha] at hL
  have hK : lK G x1 a := ⟨hA, ta, tu, ha, hu, hT⟩
  refine lv_pop hx hb dL_law_685 rfl ?_
  refine lv_goto (tgt := 1312) hx hb dL_law_686 (by decide) ?_
  exact kk G _ _ E hSt hK hL
set_option maxHeartbeats 4000000 in
set_option maxRecDepth 100000 in
theorem lw_c15 {p : Program} {l : Launch} {e : Env} {s : State} {m : MethodId} {below : List Frame} {meth : Method} {c : Code} {b L x1 x2 : Nat} {xs : Nat → Int32} {G : tG} {τ σ : Nat → Nat} {a : Nat → Option (Nat → Int32)} {H : Heap} {ls : Array Slot} {i : Int32} {Q : State → Prop} (E : tE G p s m c #[Value.ref b] RL cL_law 4) (hSt : tSt G (tA τ) s) (hX : va_X b L xs s s.heap) (hbl : b < s.heap.size) (hx1 : τ x1 = 1) (hx2 : σ x2 = 1) (h28 : ∀ q, τ q ≠ 28) (h29 : ∀ q, τ q ≠ 29) (h7 : ∀ q, τ q = 7 → q = x1 + 406) (h18 : τ (x1 + 438) = 18) (hi0 : 0 ≤ i.toInt) (hiL : i.toInt + 7 ≤ (L : Int)) (hL0 : L ≤ 3584) (hl : lv_has ls 4 [(0, .ref b), (1, .ref x1), (2, .ref x2), (3, .int i)]) (hK : lK G x1 a) (hL : lS G τ σ a s H) (kk : ∀ (G : tG) (a : Nat → Option (Nat → Int32)) (H : Heap), tE G p s m c #[Value.ref b] RL cL_law 4 → tSt G (tA τ) s → lK G x1 a → lS G τ σ a s H → W p l e room_1 s m #[Value.ref b] below meth c H [] 472 11431 Q (F0 m 1312 ls [])) : W p l e room_1 s m #[Value.ref b] below meth c H [] 472 11431 Q (F0 m 689 ls []) := by
  have hx := E.1
  have hb := E.2.1
  obtain ⟨hA, ta, tu, ha, hu, hT⟩ := hK
  obtain ⟨hA8, hA10, hA11, hA14, hA16⟩ := id hA
  have hT9 := hT
  obtain ⟨hTs, hR, hIa, hJ, hIu, -⟩ := hT9
  refine lv_aload_n hx hb dL_law_689 rfl (lv_at hl 1 rfl) ?_
  refine lv_aload_n hx hb dL_law_690 rfl (lv_at hl 0 rfl) ?_
  refine lv_iload_n hx hb dL_law_691 rfl (lv_at hl 3 rfl) ?_
  refine lv_iconst (v := 1) hx hb dL_law_692 (by decide) ?_
  refine lv_iadd hx hb dL_law_693 ?_
  refine lv_topi (fun z1 ez1 => ?_)
  have tz1 := tn_add ez1 rfl kI_1 (by omega) (by omega)
  refine va_sld hx hb hX hbl (by show ¬ s.heap.size ≤ b; omega) hL.2.2.2.2.2.2.2 (t_in (by omega) (by omega)) dL_law_694 ?_
  refine lv_topi (fun v2 ev2 => ?_)
  refine lc_i hL (tc_runV (As := [.int v2]) (rest := []) E hSt hL.G (c_X9_told l G τ x1 v2 hx1) hx1 rv_1 kv_X9_told ml_L_78 ⟨rfl, rfl, Nat.le_of_ble_eq_true rfl, Nat.le_of_ble_eq_true rfl⟩ rfl hl.1 rfl (Nat.le_of_ble_eq_true rfl) ⟨Nat.le_of_ble_eq_true rfl, Nat.le_of_ble_eq_true rfl⟩ dL_law_695) (fun r3 H hL pr3 => ?_)
  refine lv_pop hx hb dL_law_698 rfl ?_
  refine lv_aload_n hx hb dL_law_699 rfl (lv_at hl 2 rfl) ?_
  refine lv_aload_n hx hb dL_law_700 rfl (lv_at hl 0 rfl) ?_
  refine lv_iload_n hx hb dL_law_701 rfl (lv_at hl 3 rfl) ?_
  refine lv_iconst (v := 1) hx hb dL_law_702 (by decide) ?_
  refine lv_iadd hx hb dL_law_703 ?_
  refine lv_topi (fun z4 ez4 => ?_)
  have tz4 := tn_add ez4 rfl kI_1 (by omega) (by omega)
  refine va_sld hx hb hX hbl (by show ¬ s.heap.size ≤ b; omega) hL.2.2.2.2.2.2.2 (t_in (by omega) (by omega)) dL_law_704 ?_
  refine lv_topi (fun v5 ev5 => ?_)
  have hL : lS G τ σ (upA a 2 ta) s H := by rw [upA_self ha]; exact hL
  refine tc_callp (mc_runV (As := [.int v5]) (rest := []) E hL.M (c_X10_told l G (σ, 2, qX (upA a 2 ta)) x2 v5 hx2) hx2 rfl kv_X10_told ml_L_81 ⟨rfl, rfl, Nat.le_of_ble_eq_true rfl, Nat.le_of_ble_eq_true rfl⟩ rfl hl.1 rfl (Nat.le_of_ble_eq_true rfl) ⟨Nat.le_of_ble_eq_true rfl, Nat.le_of_ble_eq_true rfl⟩ dL_law_705) (fun r6 _ => ?_)
  rw [upA_self ha] at hL
  have hK : lK G x1 a := ⟨hA, ta, tu, ha, hu, hT⟩
  refine lv_pop hx hb dL_law_708 rfl ?_
  refine lv_goto (tgt := 1312) hx hb dL_law_709 (by decide) ?_
  exact kk G _ _ E hSt hK hL
set_option maxHeartbeats 4000000 in
set_option maxRecDepth 100000 in
theorem lw_c16 {p : Program} {l : Launch} {e : Env} {s : State} {m : MethodId} {below : List Frame} {meth : Method} {c : Code} {b L x1 x2 : Nat} {xs : Nat → Int32} {G : tG} {τ σ : Nat → Nat} {a : Nat → Option (Nat → Int32)} {H : Heap} {ls : Array Slot} {i : Int32} {Q : State → Prop} (E : tE G p s m c #[Value.ref b] RL cL_law 4) (hSt : tSt G (tA τ) s) (hX : va_X b L xs s s.heap) (hbl : b < s.heap.size) (hx1 : τ x1 = 1) (hx2 : σ x2 = 1) (h28 : ∀ q, τ q ≠ 28) (h29 : ∀ q, τ q ≠ 29) (h7 : ∀ q, τ q = 7 → q = x1 + 406) (h18 : τ (x1 + 438) = 18) (hi0 : 0 ≤ i.toInt) (hiL : i.toInt + 7 ≤ (L : Int)) (hL0 : L ≤ 3584) (hl : lv_has ls 4 [(0, .ref b), (1, .ref x1), (2, .ref x2), (3, .int i)]) (hK : lK G x1 a) (hL : lS G τ σ a s H) (kk : ∀ (G : tG) (a : Nat → Option (Nat → Int32)) (H : Heap), tE G p s m c #[Value.ref b] RL cL_law 4 → tSt G (tA τ) s → lK G x1 a → lS G τ σ a s H → W p l e room_1 s m #[Value.ref b] below meth c H [] 472 11431 Q (F0 m 1312 ls [])) : W p l e room_1 s m #[Value.ref b] below meth c H [] 472 11431 Q (F0 m 712 ls []) := by
  have hx := E.1
  have hb := E.2.1
  obtain ⟨hA, ta, tu, ha, hu, hT⟩ := hK
  obtain ⟨hA8, hA10, hA11, hA14, hA16⟩ := id hA
  have hT9 := hT
  obtain ⟨hTs, hR, hIa, hJ, hIu, -⟩ := hT9
  refine lv_aload_n hx hb dL_law_712 rfl (lv_at hl 1 rfl) ?_
  refine lc_i hL (tc_runV (As := []) (rest := []) E hSt hL.G (c_X9_agrees l G τ x1 hx1) hx1 rv_1 kv_X9_agrees ml_L_82 ⟨rfl, rfl, Nat.le_of_ble_eq_true rfl, Nat.le_of_ble_eq_true rfl⟩ rfl hl.1 rfl (Nat.le_of_ble_eq_true rfl) ⟨Nat.le_of_ble_eq_true rfl, Nat.le_of_ble_eq_true rfl⟩ dL_law_713) (fun r1 H hL pr1 => ?_)
  refine lv_pop hx hb dL_law_716 rfl ?_
  refine lv_aload_n hx hb dL_law_717 rfl (lv_at hl 2 rfl) ?_
  refine lx_i (P := fun _ a9 => a9 2 = some ta ∧ a9 3 = a 3) hL (mc_runV (As := []) (rest := []) E hL.M (c_X10_agrees l G σ a ta x2 hx2 ha hIa) hx2 rfl kv_X10_agrees ml_L_85 ⟨rfl, rfl, Nat.le_of_ble_eq_true rfl, Nat.le_of_ble_eq_true rfl⟩ rfl hl.1 rfl (Nat.le_of_ble_eq_true rfl) ⟨Nat.le_of_ble_eq_true rfl, Nat.le_of_ble_eq_true rfl⟩ dL_law_718) (fun _ Z _ hp => by obtain ⟨A, e, h2, h3⟩ := hp; exact ⟨pb A, pb_PI hL.2.2.2.2.2.1 hIa h2 h3, by rw [e]; exact pb_le, h2, h3⟩) (fun r2 a H pr2 hL => ?_)
  have hK : lK G x1 a := ⟨hA, ta, tu, pr2.1, pr2.2.trans hu, hT⟩
  refine lv_pop hx hb dL_law_721 rfl ?_
  refine lv_goto (tgt := 1312) hx hb dL_law_722 (by decide) ?_
  exact kk G _ _ E hSt hK hL
set_option maxHeartbeats 4000000 in
set_option maxRecDepth 100000 in
theorem lw_c17 {p : Program} {l : Launch} {e : Env} {s : State} {m : MethodId} {below : List Frame} {meth : Method} {c : Code} {b L x1 x2 : Nat} {xs : Nat → Int32} {G : tG} {τ σ : Nat → Nat} {a : Nat → Option (Nat → Int32)} {H : Heap} {ls : Array Slot} {i : Int32} {Q : State → Prop} (E : tE G p s m c #[Value.ref b] RL cL_law 4) (hSt : tSt G (tA τ) s) (hX : va_X b L xs s s.heap) (hbl : b < s.heap.size) (hx1 : τ x1 = 1) (hx2 : σ x2 = 1) (h28 : ∀ q, τ q ≠ 28) (h29 : ∀ q, τ q ≠ 29) (h7 : ∀ q, τ q = 7 → q = x1 + 406) (h18 : τ (x1 + 438) = 18) (hi0 : 0 ≤ i.toInt) (hiL : i.toInt + 7 ≤ (L : Int)) (hL0 : L ≤ 3584) (hl : lv_has ls 4 [(0, .ref b), (1, .ref x1), (2, .ref x2), (3, .int i)]) (hK : lK G x1 a) (hL : lS G τ σ a s H) (kk : ∀ (G : tG) (a : Nat → Option (Nat → Int32)) (H : Heap), tE G p s m c #[Value.ref b] RL cL_law 4 → tSt G (tA τ) s → lK G x1 a → lS G τ σ a s H → W p l e room_1 s m #[Value.ref b] below meth c H [] 472 11431 Q (F0 m 1312 ls [])) : W p l e room_1 s m #[Value.ref b] below meth c H [] 472 11431 Q (F0 m 725 ls []) := by
  have hx := E.1
  have hb := E.2.1
  obtain ⟨hA, ta, tu, ha, hu, hT⟩ := hK
  obtain ⟨hA8, hA10, hA11, hA14, hA16⟩ := id hA
  have hT9 := hT
  obtain ⟨hTs, hR, hIa, hJ, hIu, -⟩ := hT9
  refine lv_aload_n hx hb dL_law_725 rfl (lv_at hl 1 rfl) ?_
  refine lc_i hL (tc_runV (As := []) (rest := []) E hSt hL.G (c_X9_narrowest l G τ x1 hx1) hx1 rv_1 kv_X9_narrowest ml_L_86 ⟨rfl, rfl, Nat.le_of_ble_eq_true rfl, Nat.le_of_ble_eq_true rfl⟩ rfl hl.1 rfl (Nat.le_of_ble_eq_true rfl) ⟨Nat.le_of_ble_eq_true rfl, Nat.le_of_ble_eq_true rfl⟩ dL_law_726) (fun r1 H hL pr1 => ?_)
  refine lv_pop hx hb dL_law_729 rfl ?_
  refine lv_aload_n hx hb dL_law_730 rfl (lv_at hl 2 rfl) ?_
  refine lx_i (P := fun _ a9 => a9 2 = some ta ∧ a9 3 = a 3) hL (mc_runV (As := []) (rest := []) E hL.M (c_X10_narrowest l G σ a ta x2 hx2 ha hIa) hx2 rfl kv_X10_narrowest ml_L_89 ⟨rfl, rfl, Nat.le_of_ble_eq_true rfl, Nat.le_of_ble_eq_true rfl⟩ rfl hl.1 rfl (Nat.le_of_ble_eq_true rfl) ⟨Nat.le_of_ble_eq_true rfl, Nat.le_of_ble_eq_true rfl⟩ dL_law_731) (fun _ Z _ hp => by obtain ⟨A, e, h2, h3⟩ := hp; exact ⟨pb A, pb_PI hL.2.2.2.2.2.1 hIa h2 h3, by rw [e]; exact pb_le, h2, h3⟩) (fun r2 a H pr2 hL => ?_)
  have hK : lK G x1 a := ⟨hA, ta, tu, pr2.1, pr2.2.trans hu, hT⟩
  refine lv_pop hx hb dL_law_734 rfl ?_
  refine lv_goto (tgt := 1312) hx hb dL_law_735 (by decide) ?_
  exact kk G _ _ E hSt hK hL
set_option maxHeartbeats 4000000 in
set_option maxRecDepth 100000 in
theorem lw_c18 {p : Program} {l : Launch} {e : Env} {s : State} {m : MethodId} {below : List Frame} {meth : Method} {c : Code} {b L x1 x2 : Nat} {xs : Nat → Int32} {G : tG} {τ σ : Nat → Nat} {a : Nat → Option (Nat → Int32)} {H : Heap} {ls : Array Slot} {i : Int32} {Q : State → Prop} (E : tE G p s m c #[Value.ref b] RL cL_law 4) (hSt : tSt G (tA τ) s) (hX : va_X b L xs s s.heap) (hbl : b < s.heap.size) (hx1 : τ x1 = 1) (hx2 : σ x2 = 1) (h28 : ∀ q, τ q ≠ 28) (h29 : ∀ q, τ q ≠ 29) (h7 : ∀ q, τ q = 7 → q = x1 + 406) (h18 : τ (x1 + 438) = 18) (hi0 : 0 ≤ i.toInt) (hiL : i.toInt + 7 ≤ (L : Int)) (hL0 : L ≤ 3584) (hl : lv_has ls 4 [(0, .ref b), (1, .ref x1), (2, .ref x2), (3, .int i)]) (hK : lK G x1 a) (hL : lS G τ σ a s H) (kk : ∀ (G : tG) (a : Nat → Option (Nat → Int32)) (H : Heap), tE G p s m c #[Value.ref b] RL cL_law 4 → tSt G (tA τ) s → lK G x1 a → lS G τ σ a s H → W p l e room_1 s m #[Value.ref b] below meth c H [] 472 11431 Q (F0 m 1312 ls [])) : W p l e room_1 s m #[Value.ref b] below meth c H [] 472 11431 Q (F0 m 738 ls []) := by
  have hx := E.1
  have hb := E.2.1
  obtain ⟨hA, ta, tu, ha, hu, hT⟩ := hK
  obtain ⟨hA8, hA10, hA11, hA14, hA16⟩ := id hA
  have hT9 := hT
  obtain ⟨hTs, hR, hIa, hJ, hIu, -⟩ := hT9
  refine lv_aload_n hx hb dL_law_738 rfl (lv_at hl 1 rfl) ?_
  refine lv_aload_n hx hb dL_law_739 rfl (lv_at hl 0 rfl) ?_
  refine lv_iload_n hx hb dL_law_740 rfl (lv_at hl 3 rfl) ?_
  refine lv_iconst (v := 1) hx hb dL_law_741 (by decide) ?_
  refine lv_iadd hx hb dL_law_742 ?_
  refine lv_topi (fun z1 ez1 => ?_)
  have tz1 := tn_add ez1 rfl kI_1 (by omega) (by omega)
  refine va_sld hx hb hX hbl (by show ¬ s.heap.size ≤ b; omega) hL.2.2.2.2.2.2.2 (t_in (by omega) (by omega)) dL_law_743 ?_
  refine lv_topi (fun v2 ev2 => ?_)
  refine lc_i hL (tc_runV (As := [.int v2]) (rest := []) E hSt hL.G (c_X9_tall l G τ x1 v2 hx1 h28 h29) hx1 rv_1 kv_X9_tall ml_L_90 ⟨rfl, rfl, Nat.le_of_ble_eq_true rfl, Nat.le_of_ble_eq_true rfl⟩ rfl hl.1 rfl (Nat.le_of_ble_eq_true rfl) ⟨Nat.le_of_ble_eq_true rfl, Nat.le_of_ble_eq_true rfl⟩ dL_law_744) (fun r3 H hL pr3 => ?_)
  refine lv_pop hx hb dL_law_747 rfl ?_
  refine lv_aload_n hx hb dL_law_748 rfl (lv_at hl 2 rfl) ?_
  refine lv_aload_n hx hb dL_law_749 rfl (lv_at hl 0 rfl) ?_
  refine lv_iload_n hx hb dL_law_750 rfl (lv_at hl 3 rfl) ?_
  refine lv_iconst (v := 1) hx hb dL_law_751 (by decide) ?_
  refine lv_iadd hx hb dL_law_752 ?_
  refine lv_topi (fun z4 ez4 => ?_)
  have tz4 := tn_add ez4 rfl kI_1 (by omega) (by omega)
  refine va_sld hx hb hX hbl (by show ¬ s.heap.size ≤ b; omega) hL.2.2.2.2.2.2.2 (t_in (by omega) (by omega)) dL_law_753 ?_
  refine lv_topi (fun v5 ev5 => ?_)
  refine lx_i (P := fun _ a9 => a9 2 = some ta ∧ a9 3 = a 3) hL (mc_runV (As := [.int v5]) (rest := []) E hL.M (c_X10_tall l G σ a ta x2 v5 hx2 ha hIa) hx2 rfl kv_X10_tall ml_L_93 ⟨rfl, rfl, Nat.le_of_ble_eq_true rfl, Nat.le_of_ble_eq_true rfl⟩ rfl hl.1 rfl (Nat.le_of_ble_eq_true rfl) ⟨Nat.le_of_ble_eq_true rfl, Nat.le_of_ble_eq_true rfl⟩ dL_law_754) (fun _ Z _ hp => by obtain ⟨A, e, h2, h3⟩ := hp; exact ⟨pb A, pb_PI hL.2.2.2.2.2.1 hIa h2 h3, by rw [e]; exact pb_le, h2, h3⟩) (fun r6 a H pr6 hL => ?_)
  have hK : lK G x1 a := ⟨hA, ta, tu, pr6.1, pr6.2.trans hu, hT⟩
  refine lv_pop hx hb dL_law_757 rfl ?_
  refine lv_goto (tgt := 1312) hx hb dL_law_758 (by decide) ?_
  exact kk G _ _ E hSt hK hL
set_option maxHeartbeats 4000000 in
set_option maxRecDepth 100000 in
theorem lw_c19 {p : Program} {l : Launch} {e : Env} {s : State} {m : MethodId} {below : List Frame} {meth : Method} {c : Code} {b L x1 x2 : Nat} {xs : Nat → Int32} {G : tG} {τ σ : Nat → Nat} {a : Nat → Option (Nat → Int32)} {H : Heap} {ls : Array Slot} {i : Int32} {Q : State → Prop} (E : tE G p s m c #[Value.ref b] RL cL_law 4) (hSt : tSt G (tA τ) s) (hX : va_X b L xs s s.heap) (hbl : b < s.heap.size) (hx1 : τ x1 = 1) (hx2 : σ x2 = 1) (h28 : ∀ q, τ q ≠ 28) (h29 : ∀ q, τ q ≠ 29) (h7 : ∀ q, τ q = 7 → q = x1 + 406) (h18 : τ (x1 + 438) = 18) (hi0 : 0 ≤ i.toInt) (hiL : i.toInt + 7 ≤ (L : Int)) (hL0 : L ≤ 3584) (hl : lv_has ls 4 [(0, .ref b), (1, .ref x1), (2, .ref x2), (3, .int i)]) (hK : lK G x1 a) (hL : lS G τ σ a s H) (kk : ∀ (G : tG) (a : Nat → Option (Nat → Int32)) (H : Heap), tE G p s m c #[Value.ref b] RL cL_law 4 → tSt G (tA τ) s → lK G x1 a → lS G τ σ a s H → W p l e room_1 s m #[Value.ref b] below meth c H [] 472 11431 Q (F0 m 1312 ls [])) : W p l e room_1 s m #[Value.ref b] below meth c H [] 472 11431 Q (F0 m 761 ls []) := by
  have hx := E.1
  have hb := E.2.1
  obtain ⟨hA, ta, tu, ha, hu, hT⟩ := hK
  obtain ⟨hA8, hA10, hA11, hA14, hA16⟩ := id hA
  have hT9 := hT
  obtain ⟨hTs, hR, hIa, hJ, hIu, -⟩ := hT9
  refine lv_aload_n hx hb dL_law_761 rfl (lv_at hl 1 rfl) ?_
  refine lv_aload_n hx hb dL_law_762 rfl (lv_at hl 0 rfl) ?_
  refine lv_iload_n hx hb dL_law_763 rfl (lv_at hl 3 rfl) ?_
  refine lv_iconst (v := 1) hx hb dL_law_764 (by decide) ?_
  refine lv_iadd hx hb dL_law_765 ?_
  refine lv_topi (fun z1 ez1 => ?_)
  have tz1 := tn_add ez1 rfl kI_1 (by omega) (by omega)
  refine va_sld hx hb hX hbl (by show ¬ s.heap.size ≤ b; omega) hL.2.2.2.2.2.2.2 (t_in (by omega) (by omega)) dL_law_766 ?_
  refine lv_topi (fun v2 ev2 => ?_)
  refine lv_aload_n hx hb dL_law_767 rfl (lv_at hl 0 rfl) ?_
  refine lv_iload_n hx hb dL_law_768 rfl (lv_at hl 3 rfl) ?_
  refine lv_iconst (v := 2) hx hb dL_law_769 (by decide) ?_
  refine lv_iadd hx hb dL_law_770 ?_
  refine lv_topi (fun z3 ez3 => ?_)
  have tz3 := tn_add ez3 rfl kI_2 (by omega) (by omega)
  refine va_sld hx hb hX hbl (by show ¬ s.heap.size ≤ b; omega) hL.2.2.2.2.2.2.2 (t_in (by omega) (by omega)) dL_law_771 ?_
  refine lv_topi (fun v4 ev4 => ?_)
  refine lc_i hL (tc_runV (As := [.int v2, .int v4]) (rest := []) E hSt hL.G (c_X9_reached l G τ x1 v2 v4 hx1) hx1 rv_1 kv_X9_reached ml_L_94 ⟨rfl, rfl, Nat.le_of_ble_eq_true rfl, Nat.le_of_ble_eq_true rfl⟩ rfl hl.1 rfl (Nat.le_of_ble_eq_true rfl) ⟨Nat.le_of_ble_eq_true rfl, Nat.le_of_ble_eq_true rfl⟩ dL_law_772) (fun r5 H hL pr5 => ?_)
  refine lv_pop hx hb dL_law_775 rfl ?_
  refine lv_aload_n hx hb dL_law_776 rfl (lv_at hl 2 rfl) ?_
  refine lv_aload_n hx hb dL_law_777 rfl (lv_at hl 0 rfl) ?_
  refine lv_iload_n hx hb dL_law_778 rfl (lv_at hl 3 rfl) ?_
  refine lv_iconst (v := 1) hx hb dL_law_779 (by decide) ?_
  refine lv_iadd hx hb dL_law_780 ?_
  refine lv_topi (fun z6 ez6 => ?_)
  have tz6 := tn_add ez6 rfl kI_1 (by omega) (by omega)
  refine va_sld hx hb hX hbl (by show ¬ s.heap.size ≤ b; omega) hL.2.2.2.2.2.2.2 (t_in (by omega) (by omega)) dL_law_781 ?_
  refine lv_topi (fun v7 ev7 => ?_)
  refine lv_aload_n hx hb dL_law_782 rfl (lv_at hl 0 rfl) ?_
  refine lv_iload_n hx hb dL_law_783 rfl (lv_at hl 3 rfl) ?_
  refine lv_iconst (v := 2) hx hb dL_law_784 (by decide) ?_
  refine lv_iadd hx hb dL_law_785 ?_
  refine lv_topi (fun z8 ez8 => ?_)
  have tz8 := tn_add ez8 rfl kI_2 (by omega) (by omega)
  refine va_sld hx hb hX hbl (by show ¬ s.heap.size ≤ b; omega) hL.2.2.2.2.2.2.2 (t_in (by omega) (by omega)) dL_law_786 ?_
  refine lv_topi (fun v9 ev9 => ?_)
  refine lx_i (P := fun _ a9 => a9 2 = some ta ∧ a9 3 = a 3) hL (mc_runV (As := [.int v7, .int v9]) (rest := []) E hL.M (c_X10_reached l G σ a ta x2 v7 v9 hx2 ha hIa) hx2 rfl kv_X10_reached ml_L_97 ⟨rfl, rfl, Nat.le_of_ble_eq_true rfl, Nat.le_of_ble_eq_true rfl⟩ rfl hl.1 rfl (Nat.le_of_ble_eq_true rfl) ⟨Nat.le_of_ble_eq_true rfl, Nat.le_of_ble_eq_true rfl⟩ dL_law_787) (fun _ Z _ hp => by obtain ⟨A, e, h2, h3⟩ := hp; exact ⟨pb A, pb_PI hL.2.2.2.2.2.1 hIa h2 h3, by rw [e]; exact pb_le, h2, h3⟩) (fun r10 a H pr10 hL => ?_)
  have hK : lK G x1 a := ⟨hA, ta, tu, pr10.1, pr10.2.trans hu, hT⟩
  refine lv_pop hx hb dL_law_790 rfl ?_
  refine lv_goto (tgt := 1312) hx hb dL_law_791 (by decide) ?_
  exact kk G _ _ E hSt hK hL
set_option maxHeartbeats 4000000 in
set_option maxRecDepth 100000 in
theorem lw_c20 {p : Program} {l : Launch} {e : Env} {s : State} {m : MethodId} {below : List Frame} {meth : Method} {c : Code} {b L x1 x2 : Nat} {xs : Nat → Int32} {G : tG} {τ σ : Nat → Nat} {a : Nat → Option (Nat → Int32)} {H : Heap} {ls : Array Slot} {i : Int32} {Q : State → Prop} (E : tE G p s m c #[Value.ref b] RL cL_law 4) (hSt : tSt G (tA τ) s) (hX : va_X b L xs s s.heap) (hbl : b < s.heap.size) (hx1 : τ x1 = 1) (hx2 : σ x2 = 1) (h28 : ∀ q, τ q ≠ 28) (h29 : ∀ q, τ q ≠ 29) (h7 : ∀ q, τ q = 7 → q = x1 + 406) (h18 : τ (x1 + 438) = 18) (hi0 : 0 ≤ i.toInt) (hiL : i.toInt + 7 ≤ (L : Int)) (hL0 : L ≤ 3584) (hl : lv_has ls 4 [(0, .ref b), (1, .ref x1), (2, .ref x2), (3, .int i)]) (hK : lK G x1 a) (hL : lS G τ σ a s H) (kk : ∀ (G : tG) (a : Nat → Option (Nat → Int32)) (H : Heap), tE G p s m c #[Value.ref b] RL cL_law 4 → tSt G (tA τ) s → lK G x1 a → lS G τ σ a s H → W p l e room_1 s m #[Value.ref b] below meth c H [] 472 11431 Q (F0 m 1312 ls [])) : W p l e room_1 s m #[Value.ref b] below meth c H [] 472 11431 Q (F0 m 794 ls []) := by
  have hx := E.1
  have hb := E.2.1
  obtain ⟨hA, ta, tu, ha, hu, hT⟩ := hK
  obtain ⟨hA8, hA10, hA11, hA14, hA16⟩ := id hA
  have hT9 := hT
  obtain ⟨hTs, hR, hIa, hJ, hIu, -⟩ := hT9
  refine lv_aload_n hx hb dL_law_794 rfl (lv_at hl 1 rfl) ?_
  refine lv_aload_n hx hb dL_law_795 rfl (lv_at hl 0 rfl) ?_
  refine lv_iload_n hx hb dL_law_796 rfl (lv_at hl 3 rfl) ?_
  refine lv_iconst (v := 1) hx hb dL_law_797 (by decide) ?_
  refine lv_iadd hx hb dL_law_798 ?_
  refine lv_topi (fun z1 ez1 => ?_)
  have tz1 := tn_add ez1 rfl kI_1 (by omega) (by omega)
  refine va_sld hx hb hX hbl (by show ¬ s.heap.size ≤ b; omega) hL.2.2.2.2.2.2.2 (t_in (by omega) (by omega)) dL_law_799 ?_
  refine lv_topi (fun v2 ev2 => ?_)
  refine lv_aload_n hx hb dL_law_800 rfl (lv_at hl 0 rfl) ?_
  refine lv_iload_n hx hb dL_law_801 rfl (lv_at hl 3 rfl) ?_
  refine lv_iconst (v := 2) hx hb dL_law_802 (by decide) ?_
  refine lv_iadd hx hb dL_law_803 ?_
  refine lv_topi (fun z3 ez3 => ?_)
  have tz3 := tn_add ez3 rfl kI_2 (by omega) (by omega)
  refine va_sld hx hb hX hbl (by show ¬ s.heap.size ≤ b; omega) hL.2.2.2.2.2.2.2 (t_in (by omega) (by omega)) dL_law_804 ?_
  refine lv_topi (fun v4 ev4 => ?_)
  refine lc_i hL (tc_runV (As := [.int v2, .int v4]) (rest := []) E hSt hL.G (c_X9_bestShare l G τ x1 v2 v4 hx1) hx1 rv_1 kv_X9_bestShare ml_L_98 ⟨rfl, rfl, Nat.le_of_ble_eq_true rfl, Nat.le_of_ble_eq_true rfl⟩ rfl hl.1 rfl (Nat.le_of_ble_eq_true rfl) ⟨Nat.le_of_ble_eq_true rfl, Nat.le_of_ble_eq_true rfl⟩ dL_law_805) (fun r5 H hL pr5 => ?_)
  refine lv_pop hx hb dL_law_808 rfl ?_
  refine lv_aload_n hx hb dL_law_809 rfl (lv_at hl 2 rfl) ?_
  refine lv_aload_n hx hb dL_law_810 rfl (lv_at hl 0 rfl) ?_
  refine lv_iload_n hx hb dL_law_811 rfl (lv_at hl 3 rfl) ?_
  refine lv_iconst (v := 1) hx hb dL_law_812 (by decide) ?_
  refine lv_iadd hx hb dL_law_813 ?_
  refine lv_topi (fun z6 ez6 => ?_)
  have tz6 := tn_add ez6 rfl kI_1 (by omega) (by omega)
  refine va_sld hx hb hX hbl (by show ¬ s.heap.size ≤ b; omega) hL.2.2.2.2.2.2.2 (t_in (by omega) (by omega)) dL_law_814 ?_
  refine lv_topi (fun v7 ev7 => ?_)
  refine lv_aload_n hx hb dL_law_815 rfl (lv_at hl 0 rfl) ?_
  refine lv_iload_n hx hb dL_law_816 rfl (lv_at hl 3 rfl) ?_
  refine lv_iconst (v := 2) hx hb dL_law_817 (by decide) ?_
  refine lv_iadd hx hb dL_law_818 ?_
  refine lv_topi (fun z8 ez8 => ?_)
  have tz8 := tn_add ez8 rfl kI_2 (by omega) (by omega)
  refine va_sld hx hb hX hbl (by show ¬ s.heap.size ≤ b; omega) hL.2.2.2.2.2.2.2 (t_in (by omega) (by omega)) dL_law_819 ?_
  refine lv_topi (fun v9 ev9 => ?_)
  refine lx_i (P := fun _ a9 => a9 2 = some ta ∧ a9 3 = a 3) hL (mc_runV (As := [.int v7, .int v9]) (rest := []) E hL.M (c_X10_bestShare l G σ a ta x2 v7 v9 hx2 ha hIa) hx2 rfl kv_X10_bestShare ml_L_101 ⟨rfl, rfl, Nat.le_of_ble_eq_true rfl, Nat.le_of_ble_eq_true rfl⟩ rfl hl.1 rfl (Nat.le_of_ble_eq_true rfl) ⟨Nat.le_of_ble_eq_true rfl, Nat.le_of_ble_eq_true rfl⟩ dL_law_820) (fun _ Z _ hp => by obtain ⟨A, e, h2, h3⟩ := hp; exact ⟨pb A, pb_PI hL.2.2.2.2.2.1 hIa h2 h3, by rw [e]; exact pb_le, h2, h3⟩) (fun r10 a H pr10 hL => ?_)
  have hK : lK G x1 a := ⟨hA, ta, tu, pr10.1, pr10.2.trans hu, hT⟩
  refine lv_pop hx hb dL_law_823 rfl ?_
  refine lv_goto (tgt := 1312) hx hb dL_law_824 (by decide) ?_
  exact kk G _ _ E hSt hK hL
set_option maxHeartbeats 4000000 in
set_option maxRecDepth 100000 in
theorem lw_c21 {p : Program} {l : Launch} {e : Env} {s : State} {m : MethodId} {below : List Frame} {meth : Method} {c : Code} {b L x1 x2 : Nat} {xs : Nat → Int32} {G : tG} {τ σ : Nat → Nat} {a : Nat → Option (Nat → Int32)} {H : Heap} {ls : Array Slot} {i : Int32} {Q : State → Prop} (E : tE G p s m c #[Value.ref b] RL cL_law 4) (hSt : tSt G (tA τ) s) (hX : va_X b L xs s s.heap) (hbl : b < s.heap.size) (hx1 : τ x1 = 1) (hx2 : σ x2 = 1) (h28 : ∀ q, τ q ≠ 28) (h29 : ∀ q, τ q ≠ 29) (h7 : ∀ q, τ q = 7 → q = x1 + 406) (h18 : τ (x1 + 438) = 18) (hi0 : 0 ≤ i.toInt) (hiL : i.toInt + 7 ≤ (L : Int)) (hL0 : L ≤ 3584) (hl : lv_has ls 4 [(0, .ref b), (1, .ref x1), (2, .ref x2), (3, .int i)]) (hK : lK G x1 a) (hL : lS G τ σ a s H) (kk : ∀ (G : tG) (a : Nat → Option (Nat → Int32)) (H : Heap), tE G p s m c #[Value.ref b] RL cL_law 4 → tSt G (tA τ) s → lK G x1 a → lS G τ σ a s H → W p l e room_1 s m #[Value.ref b] below meth c H [] 472 11431 Q (F0 m 1312 ls [])) : W p l e room_1 s m #[Value.ref b] below meth c H [] 472 11431 Q (F0 m 827 ls []) := by
  have hx := E.1
  have hb := E.2.1
  obtain ⟨hA, ta, tu, ha, hu, hT⟩ := hK
  obtain ⟨hA8, hA10, hA11, hA14, hA16⟩ := id hA
  have hT9 := hT
  obtain ⟨hTs, hR, hIa, hJ, hIu, -⟩ := hT9
  refine lv_aload_n hx hb dL_law_827 rfl (lv_at hl 1 rfl) ?_
  refine lv_aload_n hx hb dL_law_828 rfl (lv_at hl 0 rfl) ?_
  refine lv_iload_n hx hb dL_law_829 rfl (lv_at hl 3 rfl) ?_
  refine lv_iconst (v := 1) hx hb dL_law_830 (by decide) ?_
  refine lv_iadd hx hb dL_law_831 ?_
  refine lv_topi (fun z1 ez1 => ?_)
  have tz1 := tn_add ez1 rfl kI_1 (by omega) (by omega)
  refine va_sld hx hb hX hbl (by show ¬ s.heap.size ≤ b; omega) hL.2.2.2.2.2.2.2 (t_in (by omega) (by omega)) dL_law_832 ?_
  refine lv_topi (fun v2 ev2 => ?_)
  refine lv_aload_n hx hb dL_law_833 rfl (lv_at hl 0 rfl) ?_
  refine lv_iload_n hx hb dL_law_834 rfl (lv_at hl 3 rfl) ?_
  refine lv_iconst (v := 2) hx hb dL_law_835 (by decide) ?_
  refine lv_iadd hx hb dL_law_836 ?_
  refine lv_topi (fun z3 ez3 => ?_)
  have tz3 := tn_add ez3 rfl kI_2 (by omega) (by omega)
  refine va_sld hx hb hX hbl (by show ¬ s.heap.size ≤ b; omega) hL.2.2.2.2.2.2.2 (t_in (by omega) (by omega)) dL_law_837 ?_
  refine lv_topi (fun v4 ev4 => ?_)
  refine lc_i hL (tc_runV (As := [.int v2, .int v4]) (rest := []) E hSt hL.G (c_X9_fits l G τ x1 v2 v4 hx1) hx1 rv_1 kv_X9_fits ml_L_102 ⟨rfl, rfl, Nat.le_of_ble_eq_true rfl, Nat.le_of_ble_eq_true rfl⟩ rfl hl.1 rfl (Nat.le_of_ble_eq_true rfl) ⟨Nat.le_of_ble_eq_true rfl, Nat.le_of_ble_eq_true rfl⟩ dL_law_838) (fun r5 H hL pr5 => ?_)
  refine lv_pop hx hb dL_law_841 rfl ?_
  refine lv_aload_n hx hb dL_law_842 rfl (lv_at hl 2 rfl) ?_
  refine lv_aload_n hx hb dL_law_843 rfl (lv_at hl 0 rfl) ?_
  refine lv_iload_n hx hb dL_law_844 rfl (lv_at hl 3 rfl) ?_
  refine lv_iconst (v := 1) hx hb dL_law_845 (by decide) ?_
  refine lv_iadd hx hb dL_law_846 ?_
  refine lv_topi (fun z6 ez6 => ?_)
  have tz6 := tn_add ez6 rfl kI_1 (by omega) (by omega)
  refine va_sld hx hb hX hbl (by show ¬ s.heap.size ≤ b; omega) hL.2.2.2.2.2.2.2 (t_in (by omega) (by omega)) dL_law_847 ?_
  refine lv_topi (fun v7 ev7 => ?_)
  refine lv_aload_n hx hb dL_law_848 rfl (lv_at hl 0 rfl) ?_
  refine lv_iload_n hx hb dL_law_849 rfl (lv_at hl 3 rfl) ?_
  refine lv_iconst (v := 2) hx hb dL_law_850 (by decide) ?_
  refine lv_iadd hx hb dL_law_851 ?_
  refine lv_topi (fun z8 ez8 => ?_)
  have tz8 := tn_add ez8 rfl kI_2 (by omega) (by omega)
  refine va_sld hx hb hX hbl (by show ¬ s.heap.size ≤ b; omega) hL.2.2.2.2.2.2.2 (t_in (by omega) (by omega)) dL_law_852 ?_
  refine lv_topi (fun v9 ev9 => ?_)
  refine lx_i (P := fun _ a9 => a9 2 = some ta ∧ a9 3 = a 3) hL (mc_runV (As := [.int v7, .int v9]) (rest := []) E hL.M (c_X10_fits l G σ a ta x2 v7 v9 hx2 ha hIa) hx2 rfl kv_X10_fits ml_L_105 ⟨rfl, rfl, Nat.le_of_ble_eq_true rfl, Nat.le_of_ble_eq_true rfl⟩ rfl hl.1 rfl (Nat.le_of_ble_eq_true rfl) ⟨Nat.le_of_ble_eq_true rfl, Nat.le_of_ble_eq_true rfl⟩ dL_law_853) (fun _ Z _ hp => by obtain ⟨A, e, h2, h3⟩ := hp; exact ⟨pb A, pb_PI hL.2.2.2.2.2.1 hIa h2 h3, by rw [e]; exact pb_le, h2, h3⟩) (fun r10 a H pr10 hL => ?_)
  have hK : lK G x1 a := ⟨hA, ta, tu, pr10.1, pr10.2.trans hu, hT⟩
  refine lv_pop hx hb dL_law_856 rfl ?_
  refine lv_goto (tgt := 1312) hx hb dL_law_857 (by decide) ?_
  exact kk G _ _ E hSt hK hL
set_option maxHeartbeats 4000000 in
set_option maxRecDepth 100000 in
theorem lw_c22 {p : Program} {l : Launch} {e : Env} {s : State} {m : MethodId} {below : List Frame} {meth : Method} {c : Code} {b L x1 x2 : Nat} {xs : Nat → Int32} {G : tG} {τ σ : Nat → Nat} {a : Nat → Option (Nat → Int32)} {H : Heap} {ls : Array Slot} {i : Int32} {Q : State → Prop} (E : tE G p s m c #[Value.ref b] RL cL_law 4) (hSt : tSt G (tA τ) s) (hX : va_X b L xs s s.heap) (hbl : b < s.heap.size) (hx1 : τ x1 = 1) (hx2 : σ x2 = 1) (h28 : ∀ q, τ q ≠ 28) (h29 : ∀ q, τ q ≠ 29) (h7 : ∀ q, τ q = 7 → q = x1 + 406) (h18 : τ (x1 + 438) = 18) (hi0 : 0 ≤ i.toInt) (hiL : i.toInt + 7 ≤ (L : Int)) (hL0 : L ≤ 3584) (hl : lv_has ls 4 [(0, .ref b), (1, .ref x1), (2, .ref x2), (3, .int i)]) (hK : lK G x1 a) (hL : lS G τ σ a s H) (kk : ∀ (G : tG) (a : Nat → Option (Nat → Int32)) (H : Heap), tE G p s m c #[Value.ref b] RL cL_law 4 → tSt G (tA τ) s → lK G x1 a → lS G τ σ a s H → W p l e room_1 s m #[Value.ref b] below meth c H [] 472 11431 Q (F0 m 1312 ls [])) : W p l e room_1 s m #[Value.ref b] below meth c H [] 472 11431 Q (F0 m 860 ls []) := by
  have hx := E.1
  have hb := E.2.1
  obtain ⟨hA, ta, tu, ha, hu, hT⟩ := hK
  obtain ⟨hA8, hA10, hA11, hA14, hA16⟩ := id hA
  have hT9 := hT
  obtain ⟨hTs, hR, hIa, hJ, hIu, -⟩ := hT9
  refine lv_aload_n hx hb dL_law_860 rfl (lv_at hl 1 rfl) ?_
  refine lv_aload_n hx hb dL_law_861 rfl (lv_at hl 0 rfl) ?_
  refine lv_iload_n hx hb dL_law_862 rfl (lv_at hl 3 rfl) ?_
  refine lv_iconst (v := 1) hx hb dL_law_863 (by decide) ?_
  refine lv_iadd hx hb dL_law_864 ?_
  refine lv_topi (fun z1 ez1 => ?_)
  have tz1 := tn_add ez1 rfl kI_1 (by omega) (by omega)
  refine va_sld hx hb hX hbl (by show ¬ s.heap.size ≤ b; omega) hL.2.2.2.2.2.2.2 (t_in (by omega) (by omega)) dL_law_865 ?_
  refine lv_topi (fun v2 ev2 => ?_)
  refine lv_aload_n hx hb dL_law_866 rfl (lv_at hl 0 rfl) ?_
  refine lv_iload_n hx hb dL_law_867 rfl (lv_at hl 3 rfl) ?_
  refine lv_iconst (v := 2) hx hb dL_law_868 (by decide) ?_
  refine lv_iadd hx hb dL_law_869 ?_
  refine lv_topi (fun z3 ez3 => ?_)
  have tz3 := tn_add ez3 rfl kI_2 (by omega) (by omega)
  refine va_sld hx hb hX hbl (by show ¬ s.heap.size ≤ b; omega) hL.2.2.2.2.2.2.2 (t_in (by omega) (by omega)) dL_law_870 ?_
  refine lv_topi (fun v4 ev4 => ?_)
  refine lf_c hL (tc_runV (As := [.int v2, .int v4]) (rest := []) E hSt hL.G (x_X9_plan l G (FF G) τ x1 v2 v4 hx1 hA8.symm) hx1 rv_1 kv_X9_plan ml_L_106 ⟨rfl, rfl, Nat.le_of_ble_eq_true rfl, Nat.le_of_ble_eq_true rfl⟩ rfl hl.1 rfl (Nat.le_of_ble_eq_true rfl) ⟨Nat.le_of_ble_eq_true rfl, Nat.le_of_ble_eq_true rfl⟩ dL_law_871) (fun r5 F9 H pr5 hL => ?_)
  have pc9 : PLc (FF G) F9 (G.2.2.1 10) v2 v4 r5 := pr5
  clear pr5
  obtain ⟨G1, eG1⟩ : ∃ Z : tG, Z = gF G F9 := ⟨_, rfl⟩
  rw [← eG1] at hL
  have E1 : tE G1 p s m c #[Value.ref b] RL cL_law 4 := by rw [eG1]; exact E
  have hSt1 : tSt G1 (tA τ) s := by rw [eG1]; exact hSt
  have eM1 : FM G1 = FM G := by rw [eG1]; rfl
  have eF1 : FF G1 = F9 := by rw [eG1]; rfl
  have hA1 : lA G1 x1 := by rw [eG1]; exact hA
  have eT1 : G1.2.2.1 = G.2.2.1 := by rw [eG1]; rfl
  refine lv_pop hx hb dL_law_874 rfl ?_
  refine lv_aload_n hx hb dL_law_875 rfl (lv_at hl 2 rfl) ?_
  refine lv_aload_n hx hb dL_law_876 rfl (lv_at hl 0 rfl) ?_
  refine lv_iload_n hx hb dL_law_877 rfl (lv_at hl 3 rfl) ?_
  refine lv_iconst (v := 1) hx hb dL_law_878 (by decide) ?_
  refine lv_iadd hx hb dL_law_879 ?_
  refine lv_topi (fun z6 ez6 => ?_)
  have tz6 := tn_add ez6 rfl kI_1 (by omega) (by omega)
  refine va_sld hx hb hX hbl (by show ¬ s.heap.size ≤ b; omega) hL.2.2.2.2.2.2.2 (t_in (by omega) (by omega)) dL_law_880 ?_
  refine lv_topi (fun v7 ev7 => ?_)
  refine lv_aload_n hx hb dL_law_881 rfl (lv_at hl 0 rfl) ?_
  refine lv_iload_n hx hb dL_law_882 rfl (lv_at hl 3 rfl) ?_
  refine lv_iconst (v := 2) hx hb dL_law_883 (by decide) ?_
  refine lv_iadd hx hb dL_law_884 ?_
  refine lv_topi (fun z8 ez8 => ?_)
  have tz8 := tn_add ez8 rfl kI_2 (by omega) (by omega)
  refine va_sld hx hb hX hbl (by show ¬ s.heap.size ≤ b; omega) hL.2.2.2.2.2.2.2 (t_in (by omega) (by omega)) dL_law_885 ?_
  refine lv_topi (fun v9 ev9 => ?_)
  have hL9 := hL
  have hL : lS G1 τ σ (upA a 2 ta) s H := by rw [upA_self ha]; exact hL9
  refine lf_m (P := fun r9 a9 W => ∃ t, a9 = upA a 2 t ∧ PLx G1 ta v7.toInt v9.toInt r9 t W) hL (mc_runV (As := [.int v7, .int v9]) (rest := []) E1 hL.M (x_X10_plan l G1 σ a ta x2 v7 v9 hx2 hIa) hx2 rfl kv_X10_plan ml_L_109 ⟨rfl, rfl, Nat.le_of_ble_eq_true rfl, Nat.le_of_ble_eq_true rfl⟩ rfl hl.1 rfl (Nat.le_of_ble_eq_true rfl) ⟨Nat.le_of_ble_eq_true rfl, Nat.le_of_ble_eq_true rfl⟩ dL_law_886) (fun _ Z _ _ hp => by obtain ⟨t, e, hg⟩ := hp; exact ⟨_, hL9.2.2.2.2.2.1.up (by rw [hg.1]; exact hIa), by rw [e]; exact mLe.refl, t, rfl, hg⟩) (fun r10 W a9 H pr10 hL => ?_)
  obtain ⟨t9, e9, hg9⟩ := pr10
  have q0 : v7 = v2 := by rw [ev7, ev2, ez6, ez1]
  have q1 : v9 = v4 := by rw [ev9, ev4, ez8, ez3]
  rw [q0, q1] at hg9
  unfold PLx at hg9
  obtain ⟨et, hg9⟩ := hg9
  rw [et] at e9
  rw [eM1] at hg9
  have hRL := RL_plan hT pc9 hg9
  have hK : lK (kM G1 W) x1 a9 := by rw [e9]; exact ⟨hA1, ta, tu, upA_at, (upA_ne (by decide)).trans hu, by show lT (FF G1) W x1 (G1.2.2.1 10) (G1.2.2.1 11) (G1.2.2.1 16) ta tu; rw [eF1, eT1]; exact hRL.2⟩
  have hrr : r5 = r10 := hRL.1
  refine lv_pop hx hb dL_law_889 rfl ?_
  refine lv_goto (tgt := 1312) hx hb dL_law_890 (by decide) ?_
  exact kk (kM G1 W) _ _ E1 hSt1 hK hL
set_option maxHeartbeats 4000000 in
set_option maxRecDepth 100000 in
theorem lw_c23 {p : Program} {l : Launch} {e : Env} {s : State} {m : MethodId} {below : List Frame} {meth : Method} {c : Code} {b L x1 x2 : Nat} {xs : Nat → Int32} {G : tG} {τ σ : Nat → Nat} {a : Nat → Option (Nat → Int32)} {H : Heap} {ls : Array Slot} {i : Int32} {Q : State → Prop} (E : tE G p s m c #[Value.ref b] RL cL_law 4) (hSt : tSt G (tA τ) s) (hX : va_X b L xs s s.heap) (hbl : b < s.heap.size) (hx1 : τ x1 = 1) (hx2 : σ x2 = 1) (h28 : ∀ q, τ q ≠ 28) (h29 : ∀ q, τ q ≠ 29) (h7 : ∀ q, τ q = 7 → q = x1 + 406) (h18 : τ (x1 + 438) = 18) (hi0 : 0 ≤ i.toInt) (hiL : i.toInt + 7 ≤ (L : Int)) (hL0 : L ≤ 3584) (hl : lv_has ls 4 [(0, .ref b), (1, .ref x1), (2, .ref x2), (3, .int i)]) (hK : lK G x1 a) (hL : lS G τ σ a s H) (kk : ∀ (G : tG) (a : Nat → Option (Nat → Int32)) (H : Heap), tE G p s m c #[Value.ref b] RL cL_law 4 → tSt G (tA τ) s → lK G x1 a → lS G τ σ a s H → W p l e room_1 s m #[Value.ref b] below meth c H [] 472 11431 Q (F0 m 1312 ls [])) : W p l e room_1 s m #[Value.ref b] below meth c H [] 472 11431 Q (F0 m 893 ls []) := by
  have hx := E.1
  have hb := E.2.1
  obtain ⟨hA, ta, tu, ha, hu, hT⟩ := hK
  obtain ⟨hA8, hA10, hA11, hA14, hA16⟩ := id hA
  have hT9 := hT
  obtain ⟨hTs, hR, hIa, hJ, hIu, -⟩ := hT9
  refine lv_aload_n hx hb dL_law_893 rfl (lv_at hl 1 rfl) ?_
  refine lc_i hL (tc_runV (As := []) (rest := []) E hSt hL.G (c_X9_saved l G τ x1 hx1) hx1 rv_1 kv_X9_saved ml_L_110 ⟨rfl, rfl, Nat.le_of_ble_eq_true rfl, Nat.le_of_ble_eq_true rfl⟩ rfl hl.1 rfl (Nat.le_of_ble_eq_true rfl) ⟨Nat.le_of_ble_eq_true rfl, Nat.le_of_ble_eq_true rfl⟩ dL_law_894) (fun r1 H hL pr1 => ?_)
  refine lv_pop hx hb dL_law_897 rfl ?_
  refine lv_aload_n hx hb dL_law_898 rfl (lv_at hl 2 rfl) ?_
  refine lx_i (P := fun _ a9 => a9 2 = some ta ∧ a9 3 = a 3) hL (mc_runV (As := []) (rest := []) E hL.M (c_X10_saved l G σ a ta x2 hx2 ha hIa) hx2 rfl kv_X10_saved ml_L_113 ⟨rfl, rfl, Nat.le_of_ble_eq_true rfl, Nat.le_of_ble_eq_true rfl⟩ rfl hl.1 rfl (Nat.le_of_ble_eq_true rfl) ⟨Nat.le_of_ble_eq_true rfl, Nat.le_of_ble_eq_true rfl⟩ dL_law_899) (fun _ Z _ hp => by obtain ⟨A, e, h2, h3⟩ := hp; exact ⟨pb A, pb_PI hL.2.2.2.2.2.1 hIa h2 h3, by rw [e]; exact pb_le, h2, h3⟩) (fun r2 a H pr2 hL => ?_)
  have hK : lK G x1 a := ⟨hA, ta, tu, pr2.1, pr2.2.trans hu, hT⟩
  refine lv_pop hx hb dL_law_902 rfl ?_
  refine lv_goto (tgt := 1312) hx hb dL_law_903 (by decide) ?_
  exact kk G _ _ E hSt hK hL
set_option maxHeartbeats 4000000 in
set_option maxRecDepth 100000 in
theorem lw_c24 {p : Program} {l : Launch} {e : Env} {s : State} {m : MethodId} {below : List Frame} {meth : Method} {c : Code} {b L x1 x2 : Nat} {xs : Nat → Int32} {G : tG} {τ σ : Nat → Nat} {a : Nat → Option (Nat → Int32)} {H : Heap} {ls : Array Slot} {i : Int32} {Q : State → Prop} (E : tE G p s m c #[Value.ref b] RL cL_law 4) (hSt : tSt G (tA τ) s) (hX : va_X b L xs s s.heap) (hbl : b < s.heap.size) (hx1 : τ x1 = 1) (hx2 : σ x2 = 1) (h28 : ∀ q, τ q ≠ 28) (h29 : ∀ q, τ q ≠ 29) (h7 : ∀ q, τ q = 7 → q = x1 + 406) (h18 : τ (x1 + 438) = 18) (hi0 : 0 ≤ i.toInt) (hiL : i.toInt + 7 ≤ (L : Int)) (hL0 : L ≤ 3584) (hl : lv_has ls 4 [(0, .ref b), (1, .ref x1), (2, .ref x2), (3, .int i)]) (hK : lK G x1 a) (hL : lS G τ σ a s H) (kk : ∀ (G : tG) (a : Nat → Option (Nat → Int32)) (H : Heap), tE G p s m c #[Value.ref b] RL cL_law 4 → tSt G (tA τ) s → lK G x1 a → lS G τ σ a s H → W p l e room_1 s m #[Value.ref b] below meth c H [] 472 11431 Q (F0 m 1312 ls [])) : W p l e room_1 s m #[Value.ref b] below meth c H [] 472 11431 Q (F0 m 906 ls []) := by
  have hx := E.1
  have hb := E.2.1
  obtain ⟨hA, ta, tu, ha, hu, hT⟩ := hK
  obtain ⟨hA8, hA10, hA11, hA14, hA16⟩ := id hA
  have hT9 := hT
  obtain ⟨hTs, hR, hIa, hJ, hIu, -⟩ := hT9
  refine lv_aload_n hx hb dL_law_906 rfl (lv_at hl 1 rfl) ?_
  refine lv_aload_n hx hb dL_law_907 rfl (lv_at hl 0 rfl) ?_
  refine lv_iload_n hx hb dL_law_908 rfl (lv_at hl 3 rfl) ?_
  refine lv_iconst (v := 1) hx hb dL_law_909 (by decide) ?_
  refine lv_iadd hx hb dL_law_910 ?_
  refine lv_topi (fun z1 ez1 => ?_)
  have tz1 := tn_add ez1 rfl kI_1 (by omega) (by omega)
  refine va_sld hx hb hX hbl (by show ¬ s.heap.size ≤ b; omega) hL.2.2.2.2.2.2.2 (t_in (by omega) (by omega)) dL_law_911 ?_
  refine lv_topi (fun v2 ev2 => ?_)
  refine lv_aload_n hx hb dL_law_912 rfl (lv_at hl 0 rfl) ?_
  refine lv_iload_n hx hb dL_law_913 rfl (lv_at hl 3 rfl) ?_
  refine lv_iconst (v := 2) hx hb dL_law_914 (by decide) ?_
  refine lv_iadd hx hb dL_law_915 ?_
  refine lv_topi (fun z3 ez3 => ?_)
  have tz3 := tn_add ez3 rfl kI_2 (by omega) (by omega)
  refine va_sld hx hb hX hbl (by show ¬ s.heap.size ≤ b; omega) hL.2.2.2.2.2.2.2 (t_in (by omega) (by omega)) dL_law_916 ?_
  refine lv_topi (fun v4 ev4 => ?_)
  refine lc_l hL (tc_runV (As := [.int v2, .int v4]) (rest := []) E hSt hL.G (c_X9_likely l G τ x1 v2 v4 hx1) hx1 rv_1 kv_X9_likely ml_L_114 ⟨rfl, rfl, Nat.le_of_ble_eq_true rfl, Nat.le_of_ble_eq_true rfl⟩ rfl hl.1 rfl (Nat.le_of_ble_eq_true rfl) ⟨Nat.le_of_ble_eq_true rfl, Nat.le_of_ble_eq_true rfl⟩ dL_law_917) (fun r5 H hL => ?_)
  refine lv_pop2_2 hx hb dL_law_920 rfl ?_
  refine lv_aload_n hx hb dL_law_921 rfl (lv_at hl 2 rfl) ?_
  refine lv_aload_n hx hb dL_law_922 rfl (lv_at hl 0 rfl) ?_
  refine lv_iload_n hx hb dL_law_923 rfl (lv_at hl 3 rfl) ?_
  refine lv_iconst (v := 1) hx hb dL_law_924 (by decide) ?_
  refine lv_iadd hx hb dL_law_925 ?_
  refine lv_topi (fun z6 ez6 => ?_)
  have tz6 := tn_add ez6 rfl kI_1 (by omega) (by omega)
  refine va_sld hx hb hX hbl (by show ¬ s.heap.size ≤ b; omega) hL.2.2.2.2.2.2.2 (t_in (by omega) (by omega)) dL_law_926 ?_
  refine lv_topi (fun v7 ev7 => ?_)
  refine lv_aload_n hx hb dL_law_927 rfl (lv_at hl 0 rfl) ?_
  refine lv_iload_n hx hb dL_law_928 rfl (lv_at hl 3 rfl) ?_
  refine lv_iconst (v := 2) hx hb dL_law_929 (by decide) ?_
  refine lv_iadd hx hb dL_law_930 ?_
  refine lv_topi (fun z8 ez8 => ?_)
  have tz8 := tn_add ez8 rfl kI_2 (by omega) (by omega)
  refine va_sld hx hb hX hbl (by show ¬ s.heap.size ≤ b; omega) hL.2.2.2.2.2.2.2 (t_in (by omega) (by omega)) dL_law_931 ?_
  refine lv_topi (fun v9 ev9 => ?_)
  refine lx_l (P := fun a9 => a9 2 = some ta ∧ a9 3 = a 3) hL (mc_runV (As := [.int v7, .int v9]) (rest := []) E hL.M (c_X10_likely l G σ a ta x2 v7 v9 hx2 ha hIa) hx2 rfl kv_X10_likely ml_L_118 ⟨rfl, rfl, Nat.le_of_ble_eq_true rfl, Nat.le_of_ble_eq_true rfl⟩ rfl hl.1 rfl (Nat.le_of_ble_eq_true rfl) ⟨Nat.le_of_ble_eq_true rfl, Nat.le_of_ble_eq_true rfl⟩ dL_law_932) (fun _ Z _ hp => by obtain ⟨A, e, h2, h3⟩ := hp; exact ⟨pb A, pb_PI hL.2.2.2.2.2.1 hIa h2 h3, by rw [e]; exact pb_le, h2, h3⟩) (fun r10 a H pr10 hL => ?_)
  have hK : lK G x1 a := ⟨hA, ta, tu, pr10.1, pr10.2.trans hu, hT⟩
  refine lv_pop2_2 hx hb dL_law_935 rfl ?_
  refine lv_goto (tgt := 1312) hx hb dL_law_936 (by decide) ?_
  exact kk G _ _ E hSt hK hL
set_option maxHeartbeats 4000000 in
set_option maxRecDepth 100000 in
theorem lw_c25 {p : Program} {l : Launch} {e : Env} {s : State} {m : MethodId} {below : List Frame} {meth : Method} {c : Code} {b L x1 x2 : Nat} {xs : Nat → Int32} {G : tG} {τ σ : Nat → Nat} {a : Nat → Option (Nat → Int32)} {H : Heap} {ls : Array Slot} {i : Int32} {Q : State → Prop} (E : tE G p s m c #[Value.ref b] RL cL_law 4) (hSt : tSt G (tA τ) s) (hX : va_X b L xs s s.heap) (hbl : b < s.heap.size) (hx1 : τ x1 = 1) (hx2 : σ x2 = 1) (h28 : ∀ q, τ q ≠ 28) (h29 : ∀ q, τ q ≠ 29) (h7 : ∀ q, τ q = 7 → q = x1 + 406) (h18 : τ (x1 + 438) = 18) (hi0 : 0 ≤ i.toInt) (hiL : i.toInt + 7 ≤ (L : Int)) (hL0 : L ≤ 3584) (hl : lv_has ls 4 [(0, .ref b), (1, .ref x1), (2, .ref x2), (3, .int i)]) (hK : lK G x1 a) (hL : lS G τ σ a s H) (kk : ∀ (G : tG) (a : Nat → Option (Nat → Int32)) (H : Heap), tE G p s m c #[Value.ref b] RL cL_law 4 → tSt G (tA τ) s → lK G x1 a → lS G τ σ a s H → W p l e room_1 s m #[Value.ref b] below meth c H [] 472 11431 Q (F0 m 1312 ls [])) : W p l e room_1 s m #[Value.ref b] below meth c H [] 472 11431 Q (F0 m 939 ls []) := by
  have hx := E.1
  have hb := E.2.1
  obtain ⟨hA, ta, tu, ha, hu, hT⟩ := hK
  obtain ⟨hA8, hA10, hA11, hA14, hA16⟩ := id hA
  have hT9 := hT
  obtain ⟨hTs, hR, hIa, hJ, hIu, -⟩ := hT9
  refine lv_aload_n hx hb dL_law_939 rfl (lv_at hl 1 rfl) ?_
  refine lv_aload_n hx hb dL_law_940 rfl (lv_at hl 0 rfl) ?_
  refine lv_iload_n hx hb dL_law_941 rfl (lv_at hl 3 rfl) ?_
  refine lv_iconst (v := 1) hx hb dL_law_942 (by decide) ?_
  refine lv_iadd hx hb dL_law_943 ?_
  refine lv_topi (fun z1 ez1 => ?_)
  have tz1 := tn_add ez1 rfl kI_1 (by omega) (by omega)
  refine va_sld hx hb hX hbl (by show ¬ s.heap.size ≤ b; omega) hL.2.2.2.2.2.2.2 (t_in (by omega) (by omega)) dL_law_944 ?_
  refine lv_topi (fun v2 ev2 => ?_)
  refine lc_i hL (tc_runV (As := [.int v2]) (rest := []) E hSt hL.G (c_X9_drawn l G τ x1 v2 hx1) hx1 rv_1 kv_X9_drawn ml_L_119 ⟨rfl, rfl, Nat.le_of_ble_eq_true rfl, Nat.le_of_ble_eq_true rfl⟩ rfl hl.1 rfl (Nat.le_of_ble_eq_true rfl) ⟨Nat.le_of_ble_eq_true rfl, Nat.le_of_ble_eq_true rfl⟩ dL_law_945) (fun r3 H hL pr3 => ?_)
  refine lv_pop hx hb dL_law_948 rfl ?_
  refine lv_aload_n hx hb dL_law_949 rfl (lv_at hl 2 rfl) ?_
  refine lv_aload_n hx hb dL_law_950 rfl (lv_at hl 0 rfl) ?_
  refine lv_iload_n hx hb dL_law_951 rfl (lv_at hl 3 rfl) ?_
  refine lv_iconst (v := 1) hx hb dL_law_952 (by decide) ?_
  refine lv_iadd hx hb dL_law_953 ?_
  refine lv_topi (fun z4 ez4 => ?_)
  have tz4 := tn_add ez4 rfl kI_1 (by omega) (by omega)
  refine va_sld hx hb hX hbl (by show ¬ s.heap.size ≤ b; omega) hL.2.2.2.2.2.2.2 (t_in (by omega) (by omega)) dL_law_954 ?_
  refine lv_topi (fun v5 ev5 => ?_)
  refine lx_i (P := fun _ a9 => a9 2 = some ta ∧ a9 3 = a 3) hL (mc_runV (As := [.int v5]) (rest := []) E hL.M (c_X10_drawn l G σ a ta x2 v5 hx2 ha hIa) hx2 rfl kv_X10_drawn ml_L_122 ⟨rfl, rfl, Nat.le_of_ble_eq_true rfl, Nat.le_of_ble_eq_true rfl⟩ rfl hl.1 rfl (Nat.le_of_ble_eq_true rfl) ⟨Nat.le_of_ble_eq_true rfl, Nat.le_of_ble_eq_true rfl⟩ dL_law_955) (fun _ Z _ hp => by obtain ⟨A, e, h2, h3⟩ := hp; exact ⟨pb A, pb_PI hL.2.2.2.2.2.1 hIa h2 h3, by rw [e]; exact pb_le, h2, h3⟩) (fun r6 a H pr6 hL => ?_)
  have hK : lK G x1 a := ⟨hA, ta, tu, pr6.1, pr6.2.trans hu, hT⟩
  refine lv_pop hx hb dL_law_958 rfl ?_
  refine lv_goto (tgt := 1312) hx hb dL_law_959 (by decide) ?_
  exact kk G _ _ E hSt hK hL
set_option maxHeartbeats 4000000 in
set_option maxRecDepth 100000 in
theorem lw_c26 {p : Program} {l : Launch} {e : Env} {s : State} {m : MethodId} {below : List Frame} {meth : Method} {c : Code} {b L x1 x2 : Nat} {xs : Nat → Int32} {G : tG} {τ σ : Nat → Nat} {a : Nat → Option (Nat → Int32)} {H : Heap} {ls : Array Slot} {i : Int32} {Q : State → Prop} (E : tE G p s m c #[Value.ref b] RL cL_law 4) (hSt : tSt G (tA τ) s) (hX : va_X b L xs s s.heap) (hbl : b < s.heap.size) (hx1 : τ x1 = 1) (hx2 : σ x2 = 1) (h28 : ∀ q, τ q ≠ 28) (h29 : ∀ q, τ q ≠ 29) (h7 : ∀ q, τ q = 7 → q = x1 + 406) (h18 : τ (x1 + 438) = 18) (hi0 : 0 ≤ i.toInt) (hiL : i.toInt + 7 ≤ (L : Int)) (hL0 : L ≤ 3584) (hl : lv_has ls 4 [(0, .ref b), (1, .ref x1), (2, .ref x2), (3, .int i)]) (hK : lK G x1 a) (hL : lS G τ σ a s H) (kk : ∀ (G : tG) (a : Nat → Option (Nat → Int32)) (H : Heap), tE G p s m c #[Value.ref b] RL cL_law 4 → tSt G (tA τ) s → lK G x1 a → lS G τ σ a s H → W p l e room_1 s m #[Value.ref b] below meth c H [] 472 11431 Q (F0 m 1312 ls [])) : W p l e room_1 s m #[Value.ref b] below meth c H [] 472 11431 Q (F0 m 962 ls []) := by
  have hx := E.1
  have hb := E.2.1
  obtain ⟨hA, ta, tu, ha, hu, hT⟩ := hK
  obtain ⟨hA8, hA10, hA11, hA14, hA16⟩ := id hA
  have hT9 := hT
  obtain ⟨hTs, hR, hIa, hJ, hIu, -⟩ := hT9
  refine lv_aload_n hx hb dL_law_962 rfl (lv_at hl 1 rfl) ?_
  refine lv_aload_n hx hb dL_law_963 rfl (lv_at hl 0 rfl) ?_
  refine lv_iload_n hx hb dL_law_964 rfl (lv_at hl 3 rfl) ?_
  refine lv_iconst (v := 1) hx hb dL_law_965 (by decide) ?_
  refine lv_iadd hx hb dL_law_966 ?_
  refine lv_topi (fun z1 ez1 => ?_)
  have tz1 := tn_add ez1 rfl kI_1 (by omega) (by omega)
  refine va_sld hx hb hX hbl (by show ¬ s.heap.size ≤ b; omega) hL.2.2.2.2.2.2.2 (t_in (by omega) (by omega)) dL_law_967 ?_
  refine lv_topi (fun v2 ev2 => ?_)
  refine lc_i hL (tc_runV (As := [.int v2]) (rest := []) E hSt hL.G (c_X9_seed l G τ x1 v2 hx1) hx1 rv_1 kv_X9_seed ml_L_123 ⟨rfl, rfl, Nat.le_of_ble_eq_true rfl, Nat.le_of_ble_eq_true rfl⟩ rfl hl.1 rfl (Nat.le_of_ble_eq_true rfl) ⟨Nat.le_of_ble_eq_true rfl, Nat.le_of_ble_eq_true rfl⟩ dL_law_968) (fun r3 H hL pr3 => ?_)
  refine lv_pop hx hb dL_law_971 rfl ?_
  refine lv_aload_n hx hb dL_law_972 rfl (lv_at hl 2 rfl) ?_
  refine lv_aload_n hx hb dL_law_973 rfl (lv_at hl 0 rfl) ?_
  refine lv_iload_n hx hb dL_law_974 rfl (lv_at hl 3 rfl) ?_
  refine lv_iconst (v := 1) hx hb dL_law_975 (by decide) ?_
  refine lv_iadd hx hb dL_law_976 ?_
  refine lv_topi (fun z4 ez4 => ?_)
  have tz4 := tn_add ez4 rfl kI_1 (by omega) (by omega)
  refine va_sld hx hb hX hbl (by show ¬ s.heap.size ≤ b; omega) hL.2.2.2.2.2.2.2 (t_in (by omega) (by omega)) dL_law_977 ?_
  refine lv_topi (fun v5 ev5 => ?_)
  refine lx_i (P := fun _ a9 => a9 2 = some ta ∧ a9 3 = a 3) hL (mc_runV (As := [.int v5]) (rest := []) E hL.M (c_X10_seed l G σ a ta x2 v5 hx2 ha hIa) hx2 rfl kv_X10_seed ml_L_126 ⟨rfl, rfl, Nat.le_of_ble_eq_true rfl, Nat.le_of_ble_eq_true rfl⟩ rfl hl.1 rfl (Nat.le_of_ble_eq_true rfl) ⟨Nat.le_of_ble_eq_true rfl, Nat.le_of_ble_eq_true rfl⟩ dL_law_978) (fun _ Z _ hp => by obtain ⟨A, e, h2, h3⟩ := hp; exact ⟨pb A, pb_PI hL.2.2.2.2.2.1 hIa h2 h3, by rw [e]; exact pb_le, h2, h3⟩) (fun r6 a H pr6 hL => ?_)
  have hK : lK G x1 a := ⟨hA, ta, tu, pr6.1, pr6.2.trans hu, hT⟩
  refine lv_pop hx hb dL_law_981 rfl ?_
  refine lv_goto (tgt := 1312) hx hb dL_law_982 (by decide) ?_
  exact kk G _ _ E hSt hK hL
set_option maxHeartbeats 4000000 in
set_option maxRecDepth 100000 in
theorem lw_c27 {p : Program} {l : Launch} {e : Env} {s : State} {m : MethodId} {below : List Frame} {meth : Method} {c : Code} {b L x1 x2 : Nat} {xs : Nat → Int32} {G : tG} {τ σ : Nat → Nat} {a : Nat → Option (Nat → Int32)} {H : Heap} {ls : Array Slot} {i : Int32} {Q : State → Prop} (E : tE G p s m c #[Value.ref b] RL cL_law 4) (hSt : tSt G (tA τ) s) (hX : va_X b L xs s s.heap) (hbl : b < s.heap.size) (hx1 : τ x1 = 1) (hx2 : σ x2 = 1) (h28 : ∀ q, τ q ≠ 28) (h29 : ∀ q, τ q ≠ 29) (h7 : ∀ q, τ q = 7 → q = x1 + 406) (h18 : τ (x1 + 438) = 18) (hi0 : 0 ≤ i.toInt) (hiL : i.toInt + 7 ≤ (L : Int)) (hL0 : L ≤ 3584) (hl : lv_has ls 4 [(0, .ref b), (1, .ref x1), (2, .ref x2), (3, .int i)]) (hK : lK G x1 a) (hL : lS G τ σ a s H) (kk : ∀ (G : tG) (a : Nat → Option (Nat → Int32)) (H : Heap), tE G p s m c #[Value.ref b] RL cL_law 4 → tSt G (tA τ) s → lK G x1 a → lS G τ σ a s H → W p l e room_1 s m #[Value.ref b] below meth c H [] 472 11431 Q (F0 m 1312 ls [])) : W p l e room_1 s m #[Value.ref b] below meth c H [] 472 11431 Q (F0 m 985 ls []) := by
  have hx := E.1
  have hb := E.2.1
  obtain ⟨hA, ta, tu, ha, hu, hT⟩ := hK
  obtain ⟨hA8, hA10, hA11, hA14, hA16⟩ := id hA
  have hT9 := hT
  obtain ⟨hTs, hR, hIa, hJ, hIu, -⟩ := hT9
  refine lv_aload_n hx hb dL_law_985 rfl (lv_at hl 1 rfl) ?_
  refine lv_aload_n hx hb dL_law_986 rfl (lv_at hl 0 rfl) ?_
  refine lv_iload_n hx hb dL_law_987 rfl (lv_at hl 3 rfl) ?_
  refine lv_iconst (v := 1) hx hb dL_law_988 (by decide) ?_
  refine lv_iadd hx hb dL_law_989 ?_
  refine lv_topi (fun z1 ez1 => ?_)
  have tz1 := tn_add ez1 rfl kI_1 (by omega) (by omega)
  refine va_sld hx hb hX hbl (by show ¬ s.heap.size ≤ b; omega) hL.2.2.2.2.2.2.2 (t_in (by omega) (by omega)) dL_law_990 ?_
  refine lv_topi (fun v2 ev2 => ?_)
  refine lc_l hL (tc_runV (As := [.int v2]) (rest := []) E hSt hL.G (c_X9_mean l G τ x1 v2 hx1) hx1 rv_1 kv_X9_mean ml_L_127 ⟨rfl, rfl, Nat.le_of_ble_eq_true rfl, Nat.le_of_ble_eq_true rfl⟩ rfl hl.1 rfl (Nat.le_of_ble_eq_true rfl) ⟨Nat.le_of_ble_eq_true rfl, Nat.le_of_ble_eq_true rfl⟩ dL_law_991) (fun r3 H hL => ?_)
  refine lv_pop2_2 hx hb dL_law_994 rfl ?_
  refine lv_aload_n hx hb dL_law_995 rfl (lv_at hl 2 rfl) ?_
  refine lv_aload_n hx hb dL_law_996 rfl (lv_at hl 0 rfl) ?_
  refine lv_iload_n hx hb dL_law_997 rfl (lv_at hl 3 rfl) ?_
  refine lv_iconst (v := 1) hx hb dL_law_998 (by decide) ?_
  refine lv_iadd hx hb dL_law_999 ?_
  refine lv_topi (fun z4 ez4 => ?_)
  have tz4 := tn_add ez4 rfl kI_1 (by omega) (by omega)
  refine va_sld hx hb hX hbl (by show ¬ s.heap.size ≤ b; omega) hL.2.2.2.2.2.2.2 (t_in (by omega) (by omega)) dL_law_1000 ?_
  refine lv_topi (fun v5 ev5 => ?_)
  have hL : lS G τ σ (upA a 2 ta) s H := by rw [upA_self ha]; exact hL
  refine tc_callpl (mc_runV (As := [.int v5]) (rest := []) E hL.M (c_X10_mean l G (σ, 2, qX (upA a 2 ta)) x2 v5 hx2 ta (qX_TI mu_2 upA_at) hIa) hx2 rfl kv_X10_mean ml_L_131 ⟨rfl, rfl, Nat.le_of_ble_eq_true rfl, Nat.le_of_ble_eq_true rfl⟩ rfl hl.1 rfl (Nat.le_of_ble_eq_true rfl) ⟨Nat.le_of_ble_eq_true rfl, Nat.le_of_ble_eq_true rfl⟩ dL_law_1001) (fun r6 _ => ?_)
  rw [upA_self ha] at hL
  have hK : lK G x1 a := ⟨hA, ta, tu, ha, hu, hT⟩
  refine lv_pop2_2 hx hb dL_law_1004 rfl ?_
  refine lv_goto (tgt := 1312) hx hb dL_law_1005 (by decide) ?_
  exact kk G _ _ E hSt hK hL
set_option maxHeartbeats 4000000 in
set_option maxRecDepth 100000 in
theorem lw_c28 {p : Program} {l : Launch} {e : Env} {s : State} {m : MethodId} {below : List Frame} {meth : Method} {c : Code} {b L x1 x2 : Nat} {xs : Nat → Int32} {G : tG} {τ σ : Nat → Nat} {a : Nat → Option (Nat → Int32)} {H : Heap} {ls : Array Slot} {i : Int32} {Q : State → Prop} (E : tE G p s m c #[Value.ref b] RL cL_law 4) (hSt : tSt G (tA τ) s) (hX : va_X b L xs s s.heap) (hbl : b < s.heap.size) (hx1 : τ x1 = 1) (hx2 : σ x2 = 1) (h28 : ∀ q, τ q ≠ 28) (h29 : ∀ q, τ q ≠ 29) (h7 : ∀ q, τ q = 7 → q = x1 + 406) (h18 : τ (x1 + 438) = 18) (hi0 : 0 ≤ i.toInt) (hiL : i.toInt + 7 ≤ (L : Int)) (hL0 : L ≤ 3584) (hl : lv_has ls 4 [(0, .ref b), (1, .ref x1), (2, .ref x2), (3, .int i)]) (hK : lK G x1 a) (hL : lS G τ σ a s H) (kk : ∀ (G : tG) (a : Nat → Option (Nat → Int32)) (H : Heap), tE G p s m c #[Value.ref b] RL cL_law 4 → tSt G (tA τ) s → lK G x1 a → lS G τ σ a s H → W p l e room_1 s m #[Value.ref b] below meth c H [] 472 11431 Q (F0 m 1312 ls [])) : W p l e room_1 s m #[Value.ref b] below meth c H [] 472 11431 Q (F0 m 1008 ls []) := by
  have hx := E.1
  have hb := E.2.1
  obtain ⟨hA, ta, tu, ha, hu, hT⟩ := hK
  obtain ⟨hA8, hA10, hA11, hA14, hA16⟩ := id hA
  have hT9 := hT
  obtain ⟨hTs, hR, hIa, hJ, hIu, -⟩ := hT9
  refine lv_aload_n hx hb dL_law_1008 rfl (lv_at hl 1 rfl) ?_
  refine lv_aload_n hx hb dL_law_1009 rfl (lv_at hl 0 rfl) ?_
  refine lv_iload_n hx hb dL_law_1010 rfl (lv_at hl 3 rfl) ?_
  refine lv_iconst (v := 1) hx hb dL_law_1011 (by decide) ?_
  refine lv_iadd hx hb dL_law_1012 ?_
  refine lv_topi (fun z1 ez1 => ?_)
  have tz1 := tn_add ez1 rfl kI_1 (by omega) (by omega)
  refine va_sld hx hb hX hbl (by show ¬ s.heap.size ≤ b; omega) hL.2.2.2.2.2.2.2 (t_in (by omega) (by omega)) dL_law_1013 ?_
  refine lv_topi (fun v2 ev2 => ?_)
  refine lv_aload_n hx hb dL_law_1014 rfl (lv_at hl 0 rfl) ?_
  refine lv_iload_n hx hb dL_law_1015 rfl (lv_at hl 3 rfl) ?_
  refine lv_iconst (v := 2) hx hb dL_law_1016 (by decide) ?_
  refine lv_iadd hx hb dL_law_1017 ?_
  refine lv_topi (fun z3 ez3 => ?_)
  have tz3 := tn_add ez3 rfl kI_2 (by omega) (by omega)
  refine va_sld hx hb hX hbl (by show ¬ s.heap.size ≤ b; omega) hL.2.2.2.2.2.2.2 (t_in (by omega) (by omega)) dL_law_1018 ?_
  refine lv_topi (fun v4 ev4 => ?_)
  refine tc_callp (tc_runV (As := [.int v2, .int v4]) (rest := []) E hSt hL.G (x_X9_taken l G τ x1 v2 v4 hx1 hA8.symm) hx1 rv_1 kv_X9_taken ml_L_132 ⟨rfl, rfl, Nat.le_of_ble_eq_true rfl, Nat.le_of_ble_eq_true rfl⟩ rfl hl.1 rfl (Nat.le_of_ble_eq_true rfl) ⟨Nat.le_of_ble_eq_true rfl, Nat.le_of_ble_eq_true rfl⟩ dL_law_1019) (fun r5 pr5 => ?_)
  refine lv_pop hx hb dL_law_1022 rfl ?_
  refine lv_aload_n hx hb dL_law_1023 rfl (lv_at hl 2 rfl) ?_
  refine lv_aload_n hx hb dL_law_1024 rfl (lv_at hl 0 rfl) ?_
  refine lv_iload_n hx hb dL_law_1025 rfl (lv_at hl 3 rfl) ?_
  refine lv_iconst (v := 1) hx hb dL_law_1026 (by decide) ?_
  refine lv_iadd hx hb dL_law_1027 ?_
  refine lv_topi (fun z6 ez6 => ?_)
  have tz6 := tn_add ez6 rfl kI_1 (by omega) (by omega)
  refine va_sld hx hb hX hbl (by show ¬ s.heap.size ≤ b; omega) hL.2.2.2.2.2.2.2 (t_in (by omega) (by omega)) dL_law_1028 ?_
  refine lv_topi (fun v7 ev7 => ?_)
  refine lv_aload_n hx hb dL_law_1029 rfl (lv_at hl 0 rfl) ?_
  refine lv_iload_n hx hb dL_law_1030 rfl (lv_at hl 3 rfl) ?_
  refine lv_iconst (v := 2) hx hb dL_law_1031 (by decide) ?_
  refine lv_iadd hx hb dL_law_1032 ?_
  refine lv_topi (fun z8 ez8 => ?_)
  have tz8 := tn_add ez8 rfl kI_2 (by omega) (by omega)
  refine va_sld hx hb hX hbl (by show ¬ s.heap.size ≤ b; omega) hL.2.2.2.2.2.2.2 (t_in (by omega) (by omega)) dL_law_1033 ?_
  refine lv_topi (fun v9 ev9 => ?_)
  have hL : lS G τ σ (upA a 2 ta) s H := by rw [upA_self ha]; exact hL
  refine tc_callp (mc_runV (As := [.int v7, .int v9]) (rest := []) E hL.M (x_X10_taken l G (σ, 2, qX (upA a 2 ta)) x2 v7 v9 hx2 ta (qX_TI mu_2 upA_at) hIa) hx2 rfl kv_X10_taken ml_L_135 ⟨rfl, rfl, Nat.le_of_ble_eq_true rfl, Nat.le_of_ble_eq_true rfl⟩ rfl hl.1 rfl (Nat.le_of_ble_eq_true rfl) ⟨Nat.le_of_ble_eq_true rfl, Nat.le_of_ble_eq_true rfl⟩ dL_law_1034) (fun r10 pr10 => ?_)
  rw [upA_self ha] at hL
  have hK : lK G x1 a := ⟨hA, ta, tu, ha, hu, hT⟩
  have q0 : v7 = v2 := by rw [ev7, ev2, ez6, ez1]
  have q1 : v9 = v4 := by rw [ev9, ev4, ez8, ez3]
  rw [q0, q1] at pr10
  have hrr : r5 = r10 := RL_taken hR pr5 pr10
  refine lv_pop hx hb dL_law_1037 rfl ?_
  refine lv_goto (tgt := 1312) hx hb dL_law_1038 (by decide) ?_
  exact kk G _ _ E hSt hK hL
set_option maxHeartbeats 4000000 in
set_option maxRecDepth 100000 in
theorem lw_c29 {p : Program} {l : Launch} {e : Env} {s : State} {m : MethodId} {below : List Frame} {meth : Method} {c : Code} {b L x1 x2 : Nat} {xs : Nat → Int32} {G : tG} {τ σ : Nat → Nat} {a : Nat → Option (Nat → Int32)} {H : Heap} {ls : Array Slot} {i : Int32} {Q : State → Prop} (E : tE G p s m c #[Value.ref b] RL cL_law 4) (hSt : tSt G (tA τ) s) (hX : va_X b L xs s s.heap) (hbl : b < s.heap.size) (hx1 : τ x1 = 1) (hx2 : σ x2 = 1) (h28 : ∀ q, τ q ≠ 28) (h29 : ∀ q, τ q ≠ 29) (h7 : ∀ q, τ q = 7 → q = x1 + 406) (h18 : τ (x1 + 438) = 18) (hi0 : 0 ≤ i.toInt) (hiL : i.toInt + 7 ≤ (L : Int)) (hL0 : L ≤ 3584) (hl : lv_has ls 4 [(0, .ref b), (1, .ref x1), (2, .ref x2), (3, .int i)]) (hK : lK G x1 a) (hL : lS G τ σ a s H) (kk : ∀ (G : tG) (a : Nat → Option (Nat → Int32)) (H : Heap), tE G p s m c #[Value.ref b] RL cL_law 4 → tSt G (tA τ) s → lK G x1 a → lS G τ σ a s H → W p l e room_1 s m #[Value.ref b] below meth c H [] 472 11431 Q (F0 m 1312 ls [])) : W p l e room_1 s m #[Value.ref b] below meth c H [] 472 11431 Q (F0 m 1041 ls []) := by
  have hx := E.1
  have hb := E.2.1
  obtain ⟨hA, ta, tu, ha, hu, hT⟩ := hK
  obtain ⟨hA8, hA10, hA11, hA14, hA16⟩ := id hA
  have hT9 := hT
  obtain ⟨hTs, hR, hIa, hJ, hIu, -⟩ := hT9
  refine lv_aload_n hx hb dL_law_1041 rfl (lv_at hl 1 rfl) ?_
  refine lv_aload_n hx hb dL_law_1042 rfl (lv_at hl 0 rfl) ?_
  refine lv_iload_n hx hb dL_law_1043 rfl (lv_at hl 3 rfl) ?_
  refine lv_iconst (v := 1) hx hb dL_law_1044 (by decide) ?_
  refine lv_iadd hx hb dL_law_1045 ?_
  refine lv_topi (fun z1 ez1 => ?_)
  have tz1 := tn_add ez1 rfl kI_1 (by omega) (by omega)
  refine va_sld hx hb hX hbl (by show ¬ s.heap.size ≤ b; omega) hL.2.2.2.2.2.2.2 (t_in (by omega) (by omega)) dL_law_1046 ?_
  refine lv_topi (fun v2 ev2 => ?_)
  refine lv_aload_n hx hb dL_law_1047 rfl (lv_at hl 0 rfl) ?_
  refine lv_iload_n hx hb dL_law_1048 rfl (lv_at hl 3 rfl) ?_
  refine lv_iconst (v := 2) hx hb dL_law_1049 (by decide) ?_
  refine lv_iadd hx hb dL_law_1050 ?_
  refine lv_topi (fun z3 ez3 => ?_)
  have tz3 := tn_add ez3 rfl kI_2 (by omega) (by omega)
  refine va_sld hx hb hX hbl (by show ¬ s.heap.size ≤ b; omega) hL.2.2.2.2.2.2.2 (t_in (by omega) (by omega)) dL_law_1051 ?_
  refine lv_topi (fun v4 ev4 => ?_)
  refine lc_i hL (tc_runV (As := [.int v2, .int v4]) (rest := []) E hSt hL.G (c_X9_judge l G τ x1 v2 v4 hx1) hx1 rv_1 kv_X9_judge ml_L_136 ⟨rfl, rfl, Nat.le_of_ble_eq_true rfl, Nat.le_of_ble_eq_true rfl⟩ rfl hl.1 rfl (Nat.le_of_ble_eq_true rfl) ⟨Nat.le_of_ble_eq_true rfl, Nat.le_of_ble_eq_true rfl⟩ dL_law_1052) (fun r5 H hL pr5 => ?_)
  refine lv_pop hx hb dL_law_1055 rfl ?_
  refine lv_aload_n hx hb dL_law_1056 rfl (lv_at hl 2 rfl) ?_
  refine lv_aload_n hx hb dL_law_1057 rfl (lv_at hl 0 rfl) ?_
  refine lv_iload_n hx hb dL_law_1058 rfl (lv_at hl 3 rfl) ?_
  refine lv_iconst (v := 1) hx hb dL_law_1059 (by decide) ?_
  refine lv_iadd hx hb dL_law_1060 ?_
  refine lv_topi (fun z6 ez6 => ?_)
  have tz6 := tn_add ez6 rfl kI_1 (by omega) (by omega)
  refine va_sld hx hb hX hbl (by show ¬ s.heap.size ≤ b; omega) hL.2.2.2.2.2.2.2 (t_in (by omega) (by omega)) dL_law_1061 ?_
  refine lv_topi (fun v7 ev7 => ?_)
  refine lv_aload_n hx hb dL_law_1062 rfl (lv_at hl 0 rfl) ?_
  refine lv_iload_n hx hb dL_law_1063 rfl (lv_at hl 3 rfl) ?_
  refine lv_iconst (v := 2) hx hb dL_law_1064 (by decide) ?_
  refine lv_iadd hx hb dL_law_1065 ?_
  refine lv_topi (fun z8 ez8 => ?_)
  have tz8 := tn_add ez8 rfl kI_2 (by omega) (by omega)
  refine va_sld hx hb hX hbl (by show ¬ s.heap.size ≤ b; omega) hL.2.2.2.2.2.2.2 (t_in (by omega) (by omega)) dL_law_1066 ?_
  refine lv_topi (fun v9 ev9 => ?_)
  have hL : lS G τ σ (upA a 2 ta) s H := by rw [upA_self ha]; exact hL
  refine tc_callp (mc_runV (As := [.int v7, .int v9]) (rest := []) E hL.M (c_X10_judge l G (σ, 2, qX (upA a 2 ta)) x2 v7 v9 hx2) hx2 rfl kv_X10_judge ml_L_139 ⟨rfl, rfl, Nat.le_of_ble_eq_true rfl, Nat.le_of_ble_eq_true rfl⟩ rfl hl.1 rfl (Nat.le_of_ble_eq_true rfl) ⟨Nat.le_of_ble_eq_true rfl, Nat.le_of_ble_eq_true rfl⟩ dL_law_1067) (fun r10 _ => ?_)
  rw [upA_self ha] at hL
  have hK : lK G x1 a := ⟨hA, ta, tu, ha, hu, hT⟩
  refine lv_pop hx hb dL_law_1070 rfl ?_
  refine lv_goto (tgt := 1312) hx hb dL_law_1071 (by decide) ?_
  exact kk G _ _ E hSt hK hL
set_option maxHeartbeats 4000000 in
set_option maxRecDepth 100000 in
theorem lw_c30 {p : Program} {l : Launch} {e : Env} {s : State} {m : MethodId} {below : List Frame} {meth : Method} {c : Code} {b L x1 x2 : Nat} {xs : Nat → Int32} {G : tG} {τ σ : Nat → Nat} {a : Nat → Option (Nat → Int32)} {H : Heap} {ls : Array Slot} {i : Int32} {Q : State → Prop} (E : tE G p s m c #[Value.ref b] RL cL_law 4) (hSt : tSt G (tA τ) s) (hX : va_X b L xs s s.heap) (hbl : b < s.heap.size) (hx1 : τ x1 = 1) (hx2 : σ x2 = 1) (h28 : ∀ q, τ q ≠ 28) (h29 : ∀ q, τ q ≠ 29) (h7 : ∀ q, τ q = 7 → q = x1 + 406) (h18 : τ (x1 + 438) = 18) (hi0 : 0 ≤ i.toInt) (hiL : i.toInt + 7 ≤ (L : Int)) (hL0 : L ≤ 3584) (hl : lv_has ls 4 [(0, .ref b), (1, .ref x1), (2, .ref x2), (3, .int i)]) (hK : lK G x1 a) (hL : lS G τ σ a s H) (kk : ∀ (G : tG) (a : Nat → Option (Nat → Int32)) (H : Heap), tE G p s m c #[Value.ref b] RL cL_law 4 → tSt G (tA τ) s → lK G x1 a → lS G τ σ a s H → W p l e room_1 s m #[Value.ref b] below meth c H [] 472 11431 Q (F0 m 1312 ls [])) : W p l e room_1 s m #[Value.ref b] below meth c H [] 472 11431 Q (F0 m 1074 ls []) := by
  have hx := E.1
  have hb := E.2.1
  obtain ⟨hA, ta, tu, ha, hu, hT⟩ := hK
  obtain ⟨hA8, hA10, hA11, hA14, hA16⟩ := id hA
  have hT9 := hT
  obtain ⟨hTs, hR, hIa, hJ, hIu, -⟩ := hT9
  refine lv_aload_n hx hb dL_law_1074 rfl (lv_at hl 1 rfl) ?_
  refine lv_aload_n hx hb dL_law_1075 rfl (lv_at hl 0 rfl) ?_
  refine lv_iload_n hx hb dL_law_1076 rfl (lv_at hl 3 rfl) ?_
  refine lv_iconst (v := 1) hx hb dL_law_1077 (by decide) ?_
  refine lv_iadd hx hb dL_law_1078 ?_
  refine lv_topi (fun z1 ez1 => ?_)
  have tz1 := tn_add ez1 rfl kI_1 (by omega) (by omega)
  refine va_sld hx hb hX hbl (by show ¬ s.heap.size ≤ b; omega) hL.2.2.2.2.2.2.2 (t_in (by omega) (by omega)) dL_law_1079 ?_
  refine lv_topi (fun v2 ev2 => ?_)
  refine lv_aload_n hx hb dL_law_1080 rfl (lv_at hl 0 rfl) ?_
  refine lv_iload_n hx hb dL_law_1081 rfl (lv_at hl 3 rfl) ?_
  refine lv_iconst (v := 2) hx hb dL_law_1082 (by decide) ?_
  refine lv_iadd hx hb dL_law_1083 ?_
  refine lv_topi (fun z3 ez3 => ?_)
  have tz3 := tn_add ez3 rfl kI_2 (by omega) (by omega)
  refine va_sld hx hb hX hbl (by show ¬ s.heap.size ≤ b; omega) hL.2.2.2.2.2.2.2 (t_in (by omega) (by omega)) dL_law_1084 ?_
  refine lv_topi (fun v4 ev4 => ?_)
  refine lv_aload_n hx hb dL_law_1085 rfl (lv_at hl 0 rfl) ?_
  refine lv_iload_n hx hb dL_law_1086 rfl (lv_at hl 3 rfl) ?_
  refine lv_iconst (v := 3) hx hb dL_law_1087 (by decide) ?_
  refine lv_iadd hx hb dL_law_1088 ?_
  refine lv_topi (fun z5 ez5 => ?_)
  have tz5 := tn_add ez5 rfl kI_3 (by omega) (by omega)
  refine va_sld hx hb hX hbl (by show ¬ s.heap.size ≤ b; omega) hL.2.2.2.2.2.2.2 (t_in (by omega) (by omega)) dL_law_1089 ?_
  refine lv_topi (fun v6 ev6 => ?_)
  refine lc_i hL (tc_runV (As := [.int v2, .int v4, .int v6]) (rest := []) E hSt hL.G (c_X9_tape l G τ x1 v2 v4 v6 hx1) hx1 rv_1 kv_X9_tape ml_L_140 ⟨rfl, rfl, Nat.le_of_ble_eq_true rfl, Nat.le_of_ble_eq_true rfl⟩ rfl hl.1 rfl (Nat.le_of_ble_eq_true rfl) ⟨Nat.le_of_ble_eq_true rfl, Nat.le_of_ble_eq_true rfl⟩ dL_law_1090) (fun r7 H hL pr7 => ?_)
  refine lv_pop hx hb dL_law_1093 rfl ?_
  refine lv_aload_n hx hb dL_law_1094 rfl (lv_at hl 2 rfl) ?_
  refine lv_aload_n hx hb dL_law_1095 rfl (lv_at hl 0 rfl) ?_
  refine lv_iload_n hx hb dL_law_1096 rfl (lv_at hl 3 rfl) ?_
  refine lv_iconst (v := 1) hx hb dL_law_1097 (by decide) ?_
  refine lv_iadd hx hb dL_law_1098 ?_
  refine lv_topi (fun z8 ez8 => ?_)
  have tz8 := tn_add ez8 rfl kI_1 (by omega) (by omega)
  refine va_sld hx hb hX hbl (by show ¬ s.heap.size ≤ b; omega) hL.2.2.2.2.2.2.2 (t_in (by omega) (by omega)) dL_law_1099 ?_
  refine lv_topi (fun v9 ev9 => ?_)
  refine lv_aload_n hx hb dL_law_1100 rfl (lv_at hl 0 rfl) ?_
  refine lv_iload_n hx hb dL_law_1101 rfl (lv_at hl 3 rfl) ?_
  refine lv_iconst (v := 2) hx hb dL_law_1102 (by decide) ?_
  refine lv_iadd hx hb dL_law_1103 ?_
  refine lv_topi (fun z10 ez10 => ?_)
  have tz10 := tn_add ez10 rfl kI_2 (by omega) (by omega)
  refine va_sld hx hb hX hbl (by show ¬ s.heap.size ≤ b; omega) hL.2.2.2.2.2.2.2 (t_in (by omega) (by omega)) dL_law_1104 ?_
  refine lv_topi (fun v11 ev11 => ?_)
  refine lv_aload_n hx hb dL_law_1105 rfl (lv_at hl 0 rfl) ?_
  refine lv_iload_n hx hb dL_law_1106 rfl (lv_at hl 3 rfl) ?_
  refine lv_iconst (v := 3) hx hb dL_law_1107 (by decide) ?_
  refine lv_iadd hx hb dL_law_1108 ?_
  refine lv_topi (fun z12 ez12 => ?_)
  have tz12 := tn_add ez12 rfl kI_3 (by omega) (by omega)
  refine va_sld hx hb hX hbl (by show ¬ s.heap.size ≤ b; omega) hL.2.2.2.2.2.2.2 (t_in (by omega) (by omega)) dL_law_1109 ?_
  refine lv_topi (fun v13 ev13 => ?_)
  have hL9 := hL
  have hL : lS G τ σ (upA a 2 ta) s H := by rw [upA_self ha]; exact hL9
  refine lx_i (P := fun _ a9 => ∃ t, a9 = upA a 2 t ∧ AG ta t ∧ TInv t) hL (mc_runV (As := [.int v9, .int v11, .int v13]) (rest := []) E hL.M (c_X10_tape l G σ 2 a ta x2 v9 v11 v13 hx2 hIa) hx2 rfl kv_X10_tape ml_L_143 ⟨rfl, rfl, Nat.le_of_ble_eq_true rfl, Nat.le_of_ble_eq_true rfl⟩ rfl hl.1 rfl (Nat.le_of_ble_eq_true rfl) ⟨Nat.le_of_ble_eq_true rfl, Nat.le_of_ble_eq_true rfl⟩ dL_law_1110) (fun _ Z _ hp => by obtain ⟨t, e, hg, ht⟩ := hp; exact ⟨_, hL9.2.2.2.2.2.1.up ht, by rw [e]; exact mLe.refl, t, rfl, hg, ht⟩) (fun r14 a9 H pr14 hL => ?_)
  obtain ⟨t9, e9, hg9, hI9⟩ := pr14
  have hK : lK G x1 a9 := by rw [e9]; exact ⟨hA, t9, tu, upA_at, (upA_ne (by decide)).trans hu, hT.ag hg9 hI9⟩
  refine lv_pop hx hb dL_law_1113 rfl ?_
  refine lv_goto (tgt := 1312) hx hb dL_law_1114 (by decide) ?_
  exact kk G _ _ E hSt hK hL
set_option maxHeartbeats 4000000 in
set_option maxRecDepth 100000 in
theorem lw_c31 {p : Program} {l : Launch} {e : Env} {s : State} {m : MethodId} {below : List Frame} {meth : Method} {c : Code} {b L x1 x2 : Nat} {xs : Nat → Int32} {G : tG} {τ σ : Nat → Nat} {a : Nat → Option (Nat → Int32)} {H : Heap} {ls : Array Slot} {i : Int32} {Q : State → Prop} (E : tE G p s m c #[Value.ref b] RL cL_law 4) (hSt : tSt G (tA τ) s) (hX : va_X b L xs s s.heap) (hbl : b < s.heap.size) (hx1 : τ x1 = 1) (hx2 : σ x2 = 1) (h28 : ∀ q, τ q ≠ 28) (h29 : ∀ q, τ q ≠ 29) (h7 : ∀ q, τ q = 7 → q = x1 + 406) (h18 : τ (x1 + 438) = 18) (hi0 : 0 ≤ i.toInt) (hiL : i.toInt + 7 ≤ (L : Int)) (hL0 : L ≤ 3584) (hl : lv_has ls 4 [(0, .ref b), (1, .ref x1), (2, .ref x2), (3, .int i)]) (hK : lK G x1 a) (hL : lS G τ σ a s H) (kk : ∀ (G : tG) (a : Nat → Option (Nat → Int32)) (H : Heap), tE G p s m c #[Value.ref b] RL cL_law 4 → tSt G (tA τ) s → lK G x1 a → lS G τ σ a s H → W p l e room_1 s m #[Value.ref b] below meth c H [] 472 11431 Q (F0 m 1312 ls [])) : W p l e room_1 s m #[Value.ref b] below meth c H [] 472 11431 Q (F0 m 1117 ls []) := by
  have hx := E.1
  have hb := E.2.1
  obtain ⟨hA, ta, tu, ha, hu, hT⟩ := hK
  obtain ⟨hA8, hA10, hA11, hA14, hA16⟩ := id hA
  have hT9 := hT
  obtain ⟨hTs, hR, hIa, hJ, hIu, -⟩ := hT9
  refine lv_aload_n hx hb dL_law_1117 rfl (lv_at hl 1 rfl) ?_
  refine lv_aload_n hx hb dL_law_1118 rfl (lv_at hl 0 rfl) ?_
  refine lv_iload_n hx hb dL_law_1119 rfl (lv_at hl 3 rfl) ?_
  refine lv_iconst (v := 1) hx hb dL_law_1120 (by decide) ?_
  refine lv_iadd hx hb dL_law_1121 ?_
  refine lv_topi (fun z1 ez1 => ?_)
  have tz1 := tn_add ez1 rfl kI_1 (by omega) (by omega)
  refine va_sld hx hb hX hbl (by show ¬ s.heap.size ≤ b; omega) hL.2.2.2.2.2.2.2 (t_in (by omega) (by omega)) dL_law_1122 ?_
  refine lv_topi (fun v2 ev2 => ?_)
  refine lv_aload_n hx hb dL_law_1123 rfl (lv_at hl 0 rfl) ?_
  refine lv_iload_n hx hb dL_law_1124 rfl (lv_at hl 3 rfl) ?_
  refine lv_iconst (v := 2) hx hb dL_law_1125 (by decide) ?_
  refine lv_iadd hx hb dL_law_1126 ?_
  refine lv_topi (fun z3 ez3 => ?_)
  have tz3 := tn_add ez3 rfl kI_2 (by omega) (by omega)
  refine va_sld hx hb hX hbl (by show ¬ s.heap.size ≤ b; omega) hL.2.2.2.2.2.2.2 (t_in (by omega) (by omega)) dL_law_1127 ?_
  refine lv_topi (fun v4 ev4 => ?_)
  refine lv_aload_n hx hb dL_law_1128 rfl (lv_at hl 0 rfl) ?_
  refine lv_iload_n hx hb dL_law_1129 rfl (lv_at hl 3 rfl) ?_
  refine lv_iconst (v := 3) hx hb dL_law_1130 (by decide) ?_
  refine lv_iadd hx hb dL_law_1131 ?_
  refine lv_topi (fun z5 ez5 => ?_)
  have tz5 := tn_add ez5 rfl kI_3 (by omega) (by omega)
  refine va_sld hx hb hX hbl (by show ¬ s.heap.size ≤ b; omega) hL.2.2.2.2.2.2.2 (t_in (by omega) (by omega)) dL_law_1132 ?_
  refine lv_topi (fun v6 ev6 => ?_)
  refine lv_i2l hx hb dL_law_1133 rfl ?_
  refine lv_topl (fun z7 _ => ?_)
  refine lv_bipush (v := 32) hx hb dL_law_1134 (by decide) ?_
  refine lv_lshl hx hb dL_law_1136 rfl ?_
  refine lv_topl (fun z8 _ => ?_)
  refine lv_aload_n hx hb dL_law_1137 rfl (lv_at hl 0 rfl) ?_
  refine lv_iload_n hx hb dL_law_1138 rfl (lv_at hl 3 rfl) ?_
  refine lv_iconst (v := 4) hx hb dL_law_1139 (by decide) ?_
  refine lv_iadd hx hb dL_law_1140 ?_
  refine lv_topi (fun z9 ez9 => ?_)
  have tz9 := tn_add ez9 rfl kI_4 (by omega) (by omega)
  refine va_sld hx hb hX hbl (by show ¬ s.heap.size ≤ b; omega) hL.2.2.2.2.2.2.2 (t_in (by omega) (by omega)) dL_law_1141 ?_
  refine lv_topi (fun v10 ev10 => ?_)
  refine lv_i2l hx hb dL_law_1142 rfl ?_
  refine lv_topl (fun z11 _ => ?_)
  refine lv_ldc2 (v := 4294967295) hx hb E.2.2.2.1 (E.2.2.2.2.1 _ (t_w8 170 rfl rfl)) dL_law_1143 ?_
  refine lv_topl (fun z12 _ => ?_)
  refine lv_land hx hb dL_law_1146 ?_
  refine lv_topl (fun z13 _ => ?_)
  refine lv_lor hx hb dL_law_1147 ?_
  refine lv_topl (fun z14 _ => ?_)
  refine lc_i hL (tc_runV (As := [.int v2, .int v4, .long z14]) (rest := []) E hSt hL.G (c_X9_item l G τ x1 v2 v4 z14 hx1) hx1 rv_1 kv_X9_item ml_L_146 ⟨rfl, rfl, Nat.le_of_ble_eq_true rfl, Nat.le_of_ble_eq_true rfl⟩ rfl hl.1 rfl (Nat.le_of_ble_eq_true rfl) ⟨Nat.le_of_ble_eq_true rfl, Nat.le_of_ble_eq_true rfl⟩ dL_law_1148) (fun r15 H hL pr15 => ?_)
  refine lv_pop hx hb dL_law_1151 rfl ?_
  refine lv_aload_n hx hb dL_law_1152 rfl (lv_at hl 2 rfl) ?_
  refine lv_aload_n hx hb dL_law_1153 rfl (lv_at hl 0 rfl) ?_
  refine lv_iload_n hx hb dL_law_1154 rfl (lv_at hl 3 rfl) ?_
  refine lv_iconst (v := 1) hx hb dL_law_1155 (by decide) ?_
  refine lv_iadd hx hb dL_law_1156 ?_
  refine lv_topi (fun z16 ez16 => ?_)
  have tz16 := tn_add ez16 rfl kI_1 (by omega) (by omega)
  refine va_sld hx hb hX hbl (by show ¬ s.heap.size ≤ b; omega) hL.2.2.2.2.2.2.2 (t_in (by omega) (by omega)) dL_law_1157 ?_
  refine lv_topi (fun v17 ev17 => ?_)
  refine lv_aload_n hx hb dL_law_1158 rfl (lv_at hl 0 rfl) ?_
  refine lv_iload_n hx hb dL_law_1159 rfl (lv_at hl 3 rfl) ?_
  refine lv_iconst (v := 2) hx hb dL_law_1160 (by decide) ?_
  refine lv_iadd hx hb dL_law_1161 ?_
  refine lv_topi (fun z18 ez18 => ?_)
  have tz18 := tn_add ez18 rfl kI_2 (by omega) (by omega)
  refine va_sld hx hb hX hbl (by show ¬ s.heap.size ≤ b; omega) hL.2.2.2.2.2.2.2 (t_in (by omega) (by omega)) dL_law_1162 ?_
  refine lv_topi (fun v19 ev19 => ?_)
  refine lv_aload_n hx hb dL_law_1163 rfl (lv_at hl 0 rfl) ?_
  refine lv_iload_n hx hb dL_law_1164 rfl (lv_at hl 3 rfl) ?_
  refine lv_iconst (v := 3) hx hb dL_law_1165 (by decide) ?_
  refine lv_iadd hx hb dL_law_1166 ?_
  refine lv_topi (fun z20 ez20 => ?_)
  have tz20 := tn_add ez20 rfl kI_3 (by omega) (by omega)
  refine va_sld hx hb hX hbl (by show ¬ s.heap.size ≤ b; omega) hL.2.2.2.2.2.2.2 (t_in (by omega) (by omega)) dL_law_1167 ?_
  refine lv_topi (fun v21 ev21 => ?_)
  refine lv_i2l hx hb dL_law_1168 rfl ?_
  refine lv_topl (fun z22 _ => ?_)
  refine lv_bipush (v := 32) hx hb dL_law_1169 (by decide) ?_
  refine lv_lshl hx hb dL_law_1171 rfl ?_
  refine lv_topl (fun z23 _ => ?_)
  refine lv_aload_n hx hb dL_law_1172 rfl (lv_at hl 0 rfl) ?_
  refine lv_iload_n hx hb dL_law_1173 rfl (lv_at hl 3 rfl) ?_
  refine lv_iconst (v := 4) hx hb dL_law_1174 (by decide) ?_
  refine lv_iadd hx hb dL_law_1175 ?_
  refine lv_topi (fun z24 ez24 => ?_)
  have tz24 := tn_add ez24 rfl kI_4 (by omega) (by omega)
  refine va_sld hx hb hX hbl (by show ¬ s.heap.size ≤ b; omega) hL.2.2.2.2.2.2.2 (t_in (by omega) (by omega)) dL_law_1176 ?_
  refine lv_topi (fun v25 ev25 => ?_)
  refine lv_i2l hx hb dL_law_1177 rfl ?_
  refine lv_topl (fun z26 _ => ?_)
  refine lv_ldc2 (v := 4294967295) hx hb E.2.2.2.1 (E.2.2.2.2.1 _ (t_w8 170 rfl rfl)) dL_law_1178 ?_
  refine lv_topl (fun z27 _ => ?_)
  refine lv_land hx hb dL_law_1181 ?_
  refine lv_topl (fun z28 _ => ?_)
  refine lv_lor hx hb dL_law_1182 ?_
  refine lv_topl (fun z29 _ => ?_)
  have hL9 := hL
  have hL : lS G τ σ (upA a 2 ta) s H := by rw [upA_self ha]; exact hL9
  refine lx_i (P := fun _ a9 => ∃ t, a9 = upA a 2 t ∧ AG ta t ∧ TInv t) hL (mc_runV (As := [.int v17, .int v19, .long z29]) (rest := []) E hL.M (c_X10_item l G σ 2 a ta x2 v17 v19 z29 hx2 hIa) hx2 rfl kv_X10_item ml_L_150 ⟨rfl, rfl, Nat.le_of_ble_eq_true rfl, Nat.le_of_ble_eq_true rfl⟩ rfl hl.1 rfl (Nat.le_of_ble_eq_true rfl) ⟨Nat.le_of_ble_eq_true rfl, Nat.le_of_ble_eq_true rfl⟩ dL_law_1183) (fun _ Z _ hp => by obtain ⟨t, e, hg, ht⟩ := hp; exact ⟨_, hL9.2.2.2.2.2.1.up ht, by rw [e]; exact mLe.refl, t, rfl, hg, ht⟩) (fun r30 a9 H pr30 hL => ?_)
  obtain ⟨t9, e9, hg9, hI9⟩ := pr30
  have hK : lK G x1 a9 := by rw [e9]; exact ⟨hA, t9, tu, upA_at, (upA_ne (by decide)).trans hu, hT.ag hg9 hI9⟩
  refine lv_pop hx hb dL_law_1186 rfl ?_
  refine lv_goto (tgt := 1312) hx hb dL_law_1187 (by decide) ?_
  exact kk G _ _ E hSt hK hL
set_option maxHeartbeats 4000000 in
set_option maxRecDepth 100000 in
theorem lw_c32 {p : Program} {l : Launch} {e : Env} {s : State} {m : MethodId} {below : List Frame} {meth : Method} {c : Code} {b L x1 x2 : Nat} {xs : Nat → Int32} {G : tG} {τ σ : Nat → Nat} {a : Nat → Option (Nat → Int32)} {H : Heap} {ls : Array Slot} {i : Int32} {Q : State → Prop} (E : tE G p s m c #[Value.ref b] RL cL_law 4) (hSt : tSt G (tA τ) s) (hX : va_X b L xs s s.heap) (hbl : b < s.heap.size) (hx1 : τ x1 = 1) (hx2 : σ x2 = 1) (h28 : ∀ q, τ q ≠ 28) (h29 : ∀ q, τ q ≠ 29) (h7 : ∀ q, τ q = 7 → q = x1 + 406) (h18 : τ (x1 + 438) = 18) (hi0 : 0 ≤ i.toInt) (hiL : i.toInt + 7 ≤ (L : Int)) (hL0 : L ≤ 3584) (hl : lv_has ls 4 [(0, .ref b), (1, .ref x1), (2, .ref x2), (3, .int i)]) (hK : lK G x1 a) (hL : lS G τ σ a s H) (kk : ∀ (G : tG) (a : Nat → Option (Nat → Int32)) (H : Heap), tE G p s m c #[Value.ref b] RL cL_law 4 → tSt G (tA τ) s → lK G x1 a → lS G τ σ a s H → W p l e room_1 s m #[Value.ref b] below meth c H [] 472 11431 Q (F0 m 1312 ls [])) : W p l e room_1 s m #[Value.ref b] below meth c H [] 472 11431 Q (F0 m 1190 ls []) := by
  have hx := E.1
  have hb := E.2.1
  obtain ⟨hA, ta, tu, ha, hu, hT⟩ := hK
  obtain ⟨hA8, hA10, hA11, hA14, hA16⟩ := id hA
  have hT9 := hT
  obtain ⟨hTs, hR, hIa, hJ, hIu, -⟩ := hT9
  refine lv_aload_n hx hb dL_law_1190 rfl (lv_at hl 1 rfl) ?_
  refine lv_aload_n hx hb dL_law_1191 rfl (lv_at hl 0 rfl) ?_
  refine lv_iload_n hx hb dL_law_1192 rfl (lv_at hl 3 rfl) ?_
  refine lv_iconst (v := 1) hx hb dL_law_1193 (by decide) ?_
  refine lv_iadd hx hb dL_law_1194 ?_
  refine lv_topi (fun z1 ez1 => ?_)
  have tz1 := tn_add ez1 rfl kI_1 (by omega) (by omega)
  refine va_sld hx hb hX hbl (by show ¬ s.heap.size ≤ b; omega) hL.2.2.2.2.2.2.2 (t_in (by omega) (by omega)) dL_law_1195 ?_
  refine lv_topi (fun v2 ev2 => ?_)
  refine lv_aload_n hx hb dL_law_1196 rfl (lv_at hl 0 rfl) ?_
  refine lv_iload_n hx hb dL_law_1197 rfl (lv_at hl 3 rfl) ?_
  refine lv_iconst (v := 2) hx hb dL_law_1198 (by decide) ?_
  refine lv_iadd hx hb dL_law_1199 ?_
  refine lv_topi (fun z3 ez3 => ?_)
  have tz3 := tn_add ez3 rfl kI_2 (by omega) (by omega)
  refine va_sld hx hb hX hbl (by show ¬ s.heap.size ≤ b; omega) hL.2.2.2.2.2.2.2 (t_in (by omega) (by omega)) dL_law_1200 ?_
  refine lv_topi (fun v4 ev4 => ?_)
  refine lc_l hL (tc_runV (As := [.int v2, .int v4]) (rest := []) E hSt hL.G (c_X9_peek l G τ x1 v2 v4 hx1) hx1 rv_1 kv_X9_peek ml_L_151 ⟨rfl, rfl, Nat.le_of_ble_eq_true rfl, Nat.le_of_ble_eq_true rfl⟩ rfl hl.1 rfl (Nat.le_of_ble_eq_true rfl) ⟨Nat.le_of_ble_eq_true rfl, Nat.le_of_ble_eq_true rfl⟩ dL_law_1201) (fun r5 H hL => ?_)
  refine lv_pop2_2 hx hb dL_law_1204 rfl ?_
  refine lv_aload_n hx hb dL_law_1205 rfl (lv_at hl 2 rfl) ?_
  refine lv_aload_n hx hb dL_law_1206 rfl (lv_at hl 0 rfl) ?_
  refine lv_iload_n hx hb dL_law_1207 rfl (lv_at hl 3 rfl) ?_
  refine lv_iconst (v := 1) hx hb dL_law_1208 (by decide) ?_
  refine lv_iadd hx hb dL_law_1209 ?_
  refine lv_topi (fun z6 ez6 => ?_)
  have tz6 := tn_add ez6 rfl kI_1 (by omega) (by omega)
  refine va_sld hx hb hX hbl (by show ¬ s.heap.size ≤ b; omega) hL.2.2.2.2.2.2.2 (t_in (by omega) (by omega)) dL_law_1210 ?_
  refine lv_topi (fun v7 ev7 => ?_)
  refine lv_aload_n hx hb dL_law_1211 rfl (lv_at hl 0 rfl) ?_
  refine lv_iload_n hx hb dL_law_1212 rfl (lv_at hl 3 rfl) ?_
  refine lv_iconst (v := 2) hx hb dL_law_1213 (by decide) ?_
  refine lv_iadd hx hb dL_law_1214 ?_
  refine lv_topi (fun z8 ez8 => ?_)
  have tz8 := tn_add ez8 rfl kI_2 (by omega) (by omega)
  refine va_sld hx hb hX hbl (by show ¬ s.heap.size ≤ b; omega) hL.2.2.2.2.2.2.2 (t_in (by omega) (by omega)) dL_law_1215 ?_
  refine lv_topi (fun v9 ev9 => ?_)
  have hL : lS G τ σ (upA a 2 ta) s H := by rw [upA_self ha]; exact hL
  refine tc_callpl (mc_runV (As := [.int v7, .int v9]) (rest := []) E hL.M (c_X10_peek l G (σ, 2, qX (upA a 2 ta)) x2 v7 v9 hx2) hx2 rfl kv_X10_peek ml_L_154 ⟨rfl, rfl, Nat.le_of_ble_eq_true rfl, Nat.le_of_ble_eq_true rfl⟩ rfl hl.1 rfl (Nat.le_of_ble_eq_true rfl) ⟨Nat.le_of_ble_eq_true rfl, Nat.le_of_ble_eq_true rfl⟩ dL_law_1216) (fun r10 _ => ?_)
  rw [upA_self ha] at hL
  have hK : lK G x1 a := ⟨hA, ta, tu, ha, hu, hT⟩
  refine lv_pop2_2 hx hb dL_law_1219 rfl ?_
  refine lv_goto (tgt := 1312) hx hb dL_law_1220 (by decide) ?_
  exact kk G _ _ E hSt hK hL
set_option maxHeartbeats 4000000 in
set_option maxRecDepth 100000 in
theorem lw_c33 {p : Program} {l : Launch} {e : Env} {s : State} {m : MethodId} {below : List Frame} {meth : Method} {c : Code} {b L x1 x2 : Nat} {xs : Nat → Int32} {G : tG} {τ σ : Nat → Nat} {a : Nat → Option (Nat → Int32)} {H : Heap} {ls : Array Slot} {i : Int32} {Q : State → Prop} (E : tE G p s m c #[Value.ref b] RL cL_law 4) (hSt : tSt G (tA τ) s) (hX : va_X b L xs s s.heap) (hbl : b < s.heap.size) (hx1 : τ x1 = 1) (hx2 : σ x2 = 1) (h28 : ∀ q, τ q ≠ 28) (h29 : ∀ q, τ q ≠ 29) (h7 : ∀ q, τ q = 7 → q = x1 + 406) (h18 : τ (x1 + 438) = 18) (hi0 : 0 ≤ i.toInt) (hiL : i.toInt + 7 ≤ (L : Int)) (hL0 : L ≤ 3584) (hl : lv_has ls 4 [(0, .ref b), (1, .ref x1), (2, .ref x2), (3, .int i)]) (hK : lK G x1 a) (hL : lS G τ σ a s H) (kk : ∀ (G : tG) (a : Nat → Option (Nat → Int32)) (H : Heap), tE G p s m c #[Value.ref b] RL cL_law 4 → tSt G (tA τ) s → lK G x1 a → lS G τ σ a s H → W p l e room_1 s m #[Value.ref b] below meth c H [] 472 11431 Q (F0 m 1312 ls [])) : W p l e room_1 s m #[Value.ref b] below meth c H [] 472 11431 Q (F0 m 1223 ls []) := by
  have hx := E.1
  have hb := E.2.1
  obtain ⟨hA, ta, tu, ha, hu, hT⟩ := hK
  obtain ⟨hA8, hA10, hA11, hA14, hA16⟩ := id hA
  have hT9 := hT
  obtain ⟨hTs, hR, hIa, hJ, hIu, -⟩ := hT9
  refine lv_aload_n hx hb dL_law_1223 rfl (lv_at hl 1 rfl) ?_
  refine lv_aload_n hx hb dL_law_1224 rfl (lv_at hl 0 rfl) ?_
  refine lv_iload_n hx hb dL_law_1225 rfl (lv_at hl 3 rfl) ?_
  refine lv_iconst (v := 1) hx hb dL_law_1226 (by decide) ?_
  refine lv_iadd hx hb dL_law_1227 ?_
  refine lv_topi (fun z1 ez1 => ?_)
  have tz1 := tn_add ez1 rfl kI_1 (by omega) (by omega)
  refine va_sld hx hb hX hbl (by show ¬ s.heap.size ≤ b; omega) hL.2.2.2.2.2.2.2 (t_in (by omega) (by omega)) dL_law_1228 ?_
  refine lv_topi (fun v2 ev2 => ?_)
  refine lv_aload_n hx hb dL_law_1229 rfl (lv_at hl 0 rfl) ?_
  refine lv_iload_n hx hb dL_law_1230 rfl (lv_at hl 3 rfl) ?_
  refine lv_iconst (v := 2) hx hb dL_law_1231 (by decide) ?_
  refine lv_iadd hx hb dL_law_1232 ?_
  refine lv_topi (fun z3 ez3 => ?_)
  have tz3 := tn_add ez3 rfl kI_2 (by omega) (by omega)
  refine va_sld hx hb hX hbl (by show ¬ s.heap.size ≤ b; omega) hL.2.2.2.2.2.2.2 (t_in (by omega) (by omega)) dL_law_1233 ?_
  refine lv_topi (fun v4 ev4 => ?_)
  refine lv_aload_n hx hb dL_law_1234 rfl (lv_at hl 0 rfl) ?_
  refine lv_iload_n hx hb dL_law_1235 rfl (lv_at hl 3 rfl) ?_
  refine lv_iconst (v := 3) hx hb dL_law_1236 (by decide) ?_
  refine lv_iadd hx hb dL_law_1237 ?_
  refine lv_topi (fun z5 ez5 => ?_)
  have tz5 := tn_add ez5 rfl kI_3 (by omega) (by omega)
  refine va_sld hx hb hX hbl (by show ¬ s.heap.size ≤ b; omega) hL.2.2.2.2.2.2.2 (t_in (by omega) (by omega)) dL_law_1238 ?_
  refine lv_topi (fun v6 ev6 => ?_)
  refine lv_aload_n hx hb dL_law_1239 rfl (lv_at hl 0 rfl) ?_
  refine lv_iload_n hx hb dL_law_1240 rfl (lv_at hl 3 rfl) ?_
  refine lv_iconst (v := 4) hx hb dL_law_1241 (by decide) ?_
  refine lv_iadd hx hb dL_law_1242 ?_
  refine lv_topi (fun z7 ez7 => ?_)
  have tz7 := tn_add ez7 rfl kI_4 (by omega) (by omega)
  refine va_sld hx hb hX hbl (by show ¬ s.heap.size ≤ b; omega) hL.2.2.2.2.2.2.2 (t_in (by omega) (by omega)) dL_law_1243 ?_
  refine lv_topi (fun v8 ev8 => ?_)
  refine lv_aload_n hx hb dL_law_1244 rfl (lv_at hl 0 rfl) ?_
  refine lv_iload_n hx hb dL_law_1245 rfl (lv_at hl 3 rfl) ?_
  refine lv_iconst (v := 5) hx hb dL_law_1246 (by decide) ?_
  refine lv_iadd hx hb dL_law_1247 ?_
  refine lv_topi (fun z9 ez9 => ?_)
  have tz9 := tn_add ez9 rfl kI_5 (by omega) (by omega)
  refine va_sld hx hb hX hbl (by show ¬ s.heap.size ≤ b; omega) hL.2.2.2.2.2.2.2 (t_in (by omega) (by omega)) dL_law_1248 ?_
  refine lv_topi (fun v10 ev10 => ?_)
  refine lc_i hL (tc_runV (As := [.int v2, .int v4, .int v6, .int v8, .int v10]) (rest := []) E hSt hL.G (c_X9_shift l G τ x1 v2 v4 v6 v8 v10 hx1) hx1 rv_1 kv_X9_shift ml_L_155 ⟨rfl, rfl, Nat.le_of_ble_eq_true rfl, Nat.le_of_ble_eq_true rfl⟩ rfl hl.1 rfl (Nat.le_of_ble_eq_true rfl) ⟨Nat.le_of_ble_eq_true rfl, Nat.le_of_ble_eq_true rfl⟩ dL_law_1249) (fun r11 H hL pr11 => ?_)
  refine lv_pop hx hb dL_law_1252 rfl ?_
  refine lv_aload_n hx hb dL_law_1253 rfl (lv_at hl 2 rfl) ?_
  refine lv_aload_n hx hb dL_law_1254 rfl (lv_at hl 0 rfl) ?_
  refine lv_iload_n hx hb dL_law_1255 rfl (lv_at hl 3 rfl) ?_
  refine lv_iconst (v := 1) hx hb dL_law_1256 (by decide) ?_
  refine lv_iadd hx hb dL_law_1257 ?_
  refine lv_topi (fun z12 ez12 => ?_)
  have tz12 := tn_add ez12 rfl kI_1 (by omega) (by omega)
  refine va_sld hx hb hX hbl (by show ¬ s.heap.size ≤ b; omega) hL.2.2.2.2.2.2.2 (t_in (by omega) (by omega)) dL_law_1258 ?_
  refine lv_topi (fun v13 ev13 => ?_)
  refine lv_aload_n hx hb dL_law_1259 rfl (lv_at hl 0 rfl) ?_
  refine lv_iload_n hx hb dL_law_1260 rfl (lv_at hl 3 rfl) ?_
  refine lv_iconst (v := 2) hx hb dL_law_1261 (by decide) ?_
  refine lv_iadd hx hb dL_law_1262 ?_
  refine lv_topi (fun z14 ez14 => ?_)
  have tz14 := tn_add ez14 rfl kI_2 (by omega) (by omega)
  refine va_sld hx hb hX hbl (by show ¬ s.heap.size ≤ b; omega) hL.2.2.2.2.2.2.2 (t_in (by omega) (by omega)) dL_law_1263 ?_
  refine lv_topi (fun v15 ev15 => ?_)
  refine lv_aload_n hx hb dL_law_1264 rfl (lv_at hl 0 rfl) ?_
  refine lv_iload_n hx hb dL_law_1265 rfl (lv_at hl 3 rfl) ?_
  refine lv_iconst (v := 3) hx hb dL_law_1266 (by decide) ?_
  refine lv_iadd hx hb dL_law_1267 ?_
  refine lv_topi (fun z16 ez16 => ?_)
  have tz16 := tn_add ez16 rfl kI_3 (by omega) (by omega)
  refine va_sld hx hb hX hbl (by show ¬ s.heap.size ≤ b; omega) hL.2.2.2.2.2.2.2 (t_in (by omega) (by omega)) dL_law_1268 ?_
  refine lv_topi (fun v17 ev17 => ?_)
  refine lv_aload_n hx hb dL_law_1269 rfl (lv_at hl 0 rfl) ?_
  refine lv_iload_n hx hb dL_law_1270 rfl (lv_at hl 3 rfl) ?_
  refine lv_iconst (v := 4) hx hb dL_law_1271 (by decide) ?_
  refine lv_iadd hx hb dL_law_1272 ?_
  refine lv_topi (fun z18 ez18 => ?_)
  have tz18 := tn_add ez18 rfl kI_4 (by omega) (by omega)
  refine va_sld hx hb hX hbl (by show ¬ s.heap.size ≤ b; omega) hL.2.2.2.2.2.2.2 (t_in (by omega) (by omega)) dL_law_1273 ?_
  refine lv_topi (fun v19 ev19 => ?_)
  refine lv_aload_n hx hb dL_law_1274 rfl (lv_at hl 0 rfl) ?_
  refine lv_iload_n hx hb dL_law_1275 rfl (lv_at hl 3 rfl) ?_
  refine lv_iconst (v := 5) hx hb dL_law_1276 (by decide) ?_
  refine lv_iadd hx hb dL_law_1277 ?_
  refine lv_topi (fun z20 ez20 => ?_)
  have tz20 := tn_add ez20 rfl kI_5 (by omega) (by omega)
  refine va_sld hx hb hX hbl (by show ¬ s.heap.size ≤ b; omega) hL.2.2.2.2.2.2.2 (t_in (by omega) (by omega)) dL_law_1278 ?_
  refine lv_topi (fun v21 ev21 => ?_)
  have hL9 := hL
  have hL : lS G τ σ (upA a 2 ta) s H := by rw [upA_self ha]; exact hL9
  refine lx_i (P := fun _ a9 => ∃ t, a9 = upA a 2 t ∧ AG ta t ∧ TInv t) hL (mc_runV (As := [.int v13, .int v15, .int v17, .int v19, .int v21]) (rest := []) E hL.M (c_X10_shift l G σ 2 a ta x2 v13 v15 v17 v19 v21 hx2 hIa) hx2 rfl kv_X10_shift ml_L_159 ⟨rfl, rfl, Nat.le_of_ble_eq_true rfl, Nat.le_of_ble_eq_true rfl⟩ rfl hl.1 rfl (Nat.le_of_ble_eq_true rfl) ⟨Nat.le_of_ble_eq_true rfl, Nat.le_of_ble_eq_true rfl⟩ dL_law_1279) (fun _ Z _ hp => by obtain ⟨t, e, hg, ht⟩ := hp; exact ⟨_, hL9.2.2.2.2.2.1.up ht, by rw [e]; exact mLe.refl, t, rfl, hg, ht⟩) (fun r22 a9 H pr22 hL => ?_)
  obtain ⟨t9, e9, hg9, hI9⟩ := pr22
  have hK : lK G x1 a9 := by rw [e9]; exact ⟨hA, t9, tu, upA_at, (upA_ne (by decide)).trans hu, hT.ag hg9 hI9⟩
  refine lv_pop hx hb dL_law_1282 rfl ?_
  refine lv_goto (tgt := 1312) hx hb dL_law_1283 (by decide) ?_
  exact kk G _ _ E hSt hK hL
set_option maxHeartbeats 4000000 in
set_option maxRecDepth 100000 in
theorem lw_c34 {p : Program} {l : Launch} {e : Env} {s : State} {m : MethodId} {below : List Frame} {meth : Method} {c : Code} {b L x1 x2 : Nat} {xs : Nat → Int32} {G : tG} {τ σ : Nat → Nat} {a : Nat → Option (Nat → Int32)} {H : Heap} {ls : Array Slot} {i : Int32} {Q : State → Prop} (E : tE G p s m c #[Value.ref b] RL cL_law 4) (hSt : tSt G (tA τ) s) (hX : va_X b L xs s s.heap) (hbl : b < s.heap.size) (hx1 : τ x1 = 1) (hx2 : σ x2 = 1) (h28 : ∀ q, τ q ≠ 28) (h29 : ∀ q, τ q ≠ 29) (h7 : ∀ q, τ q = 7 → q = x1 + 406) (h18 : τ (x1 + 438) = 18) (hi0 : 0 ≤ i.toInt) (hiL : i.toInt + 7 ≤ (L : Int)) (hL0 : L ≤ 3584) (hl : lv_has ls 4 [(0, .ref b), (1, .ref x1), (2, .ref x2), (3, .int i)]) (hK : lK G x1 a) (hL : lS G τ σ a s H) (kk : ∀ (G : tG) (a : Nat → Option (Nat → Int32)) (H : Heap), tE G p s m c #[Value.ref b] RL cL_law 4 → tSt G (tA τ) s → lK G x1 a → lS G τ σ a s H → W p l e room_1 s m #[Value.ref b] below meth c H [] 472 11431 Q (F0 m 1312 ls [])) : W p l e room_1 s m #[Value.ref b] below meth c H [] 472 11431 Q (F0 m 1286 ls []) := by
  have hx := E.1
  have hb := E.2.1
  obtain ⟨hA, ta, tu, ha, hu, hT⟩ := hK
  obtain ⟨hA8, hA10, hA11, hA14, hA16⟩ := id hA
  have hT9 := hT
  obtain ⟨hTs, hR, hIa, hJ, hIu, -⟩ := hT9
  refine lv_aload_n hx hb dL_law_1286 rfl (lv_at hl 1 rfl) ?_
  refine lf_c hL (tc_runV (As := []) (rest := []) E hSt hL.G (x_X9_image l G (FF G) τ x1 hx1 hA8.symm (by omega) (by omega) (by rw [hR.1]; exact hIa.1.2.1)) hx1 rv_1 kv_X9_image ml_L_160 ⟨rfl, rfl, Nat.le_of_ble_eq_true rfl, Nat.le_of_ble_eq_true rfl⟩ rfl hl.1 rfl (Nat.le_of_ble_eq_true rfl) ⟨Nat.le_of_ble_eq_true rfl, Nat.le_of_ble_eq_true rfl⟩ dL_law_1287) (fun r1 F9 H pr1 hL => ?_)
  have pc9 : IMc (FF G) F9 x1 (G.2.2.1 10) (G.2.2.1 11) r1 := pr1
  clear pr1
  obtain ⟨G1, eG1⟩ : ∃ Z : tG, Z = gF G F9 := ⟨_, rfl⟩
  rw [← eG1] at hL
  have E1 : tE G1 p s m c #[Value.ref b] RL cL_law 4 := by rw [eG1]; exact E
  have hSt1 : tSt G1 (tA τ) s := by rw [eG1]; exact hSt
  have eM1 : FM G1 = FM G := by rw [eG1]; rfl
  have eF1 : FF G1 = F9 := by rw [eG1]; rfl
  have hA1 : lA G1 x1 := by rw [eG1]; exact hA
  have eT1 : G1.2.2.1 = G.2.2.1 := by rw [eG1]; rfl
  refine lv_pop hx hb dL_law_1290 rfl ?_
  refine lv_aload_n hx hb dL_law_1291 rfl (lv_at hl 2 rfl) ?_
  refine lf_m (P := fun r9 a9 W => a9 = upA a 3 ta ∧ W = up2 (up2 (FM G1) 1 5 1) 3 5 (FM G1 2 5) ∧ r9.toInt = cB ta 24) hL (mc_runV (As := []) (rest := []) E1 hL.M (x_X10_image l G1 σ a ta x2 hx2 ha hIa) hx2 rfl kv_X10_image ml_L_163 ⟨rfl, rfl, Nat.le_of_ble_eq_true rfl, Nat.le_of_ble_eq_true rfl⟩ rfl hl.1 rfl (Nat.le_of_ble_eq_true rfl) ⟨Nat.le_of_ble_eq_true rfl, Nat.le_of_ble_eq_true rfl⟩ dL_law_1292) (fun _ Z _ _ hp => ⟨_, hL.2.2.2.2.2.1.im hIa, by rw [hp.1]; exact mLe.refl, rfl, hp.2⟩) (fun r2 W a9 H pr2 hL => ?_)
  obtain ⟨e9, eW, er⟩ := pr2
  rw [eM1] at eW
  obtain ⟨F1, hcp, eF9, er9⟩ := pc9
  have hrr : r1 = r2 := Int32.toInt_inj.mp (by rw [er9, er]; exact bcE_cB hR.2.2.1)
  have hK : lK (kM G1 W) x1 a9 := by rw [e9]; exact ⟨hA1, ta, ta, (upA_ne (by decide)).trans ha, upA_at, by show lT (FF G1) W x1 (G1.2.2.1 10) (G1.2.2.1 11) (G1.2.2.1 16) ta ta; rw [eF1, eT1]; exact hT.ig hcp eF9 eW⟩
  refine lv_pop hx hb dL_law_1295 rfl ?_
  refine lv_goto (tgt := 1312) hx hb dL_law_1296 (by decide) ?_
  exact kk (kM G1 W) _ _ E1 hSt1 hK hL
set_option maxHeartbeats 4000000 in
set_option maxRecDepth 100000 in
theorem lw_c35 {p : Program} {l : Launch} {e : Env} {s : State} {m : MethodId} {below : List Frame} {meth : Method} {c : Code} {b L x1 x2 : Nat} {xs : Nat → Int32} {G : tG} {τ σ : Nat → Nat} {a : Nat → Option (Nat → Int32)} {H : Heap} {ls : Array Slot} {i : Int32} {Q : State → Prop} (E : tE G p s m c #[Value.ref b] RL cL_law 4) (hSt : tSt G (tA τ) s) (hX : va_X b L xs s s.heap) (hbl : b < s.heap.size) (hx1 : τ x1 = 1) (hx2 : σ x2 = 1) (h28 : ∀ q, τ q ≠ 28) (h29 : ∀ q, τ q ≠ 29) (h7 : ∀ q, τ q = 7 → q = x1 + 406) (h18 : τ (x1 + 438) = 18) (hi0 : 0 ≤ i.toInt) (hiL : i.toInt + 7 ≤ (L : Int)) (hL0 : L ≤ 3584) (hl : lv_has ls 4 [(0, .ref b), (1, .ref x1), (2, .ref x2), (3, .int i)]) (hK : lK G x1 a) (hL : lS G τ σ a s H) (kk : ∀ (G : tG) (a : Nat → Option (Nat → Int32)) (H : Heap), tE G p s m c #[Value.ref b] RL cL_law 4 → tSt G (tA τ) s → lK G x1 a → lS G τ σ a s H → W p l e room_1 s m #[Value.ref b] below meth c H [] 472 11431 Q (F0 m 1312 ls [])) : W p l e room_1 s m #[Value.ref b] below meth c H [] 472 11431 Q (F0 m 1299 ls []) := by
  have hx := E.1
  have hb := E.2.1
  obtain ⟨hA, ta, tu, ha, hu, hT⟩ := hK
  obtain ⟨hA8, hA10, hA11, hA14, hA16⟩ := id hA
  have hT9 := hT
  obtain ⟨hTs, hR, hIa, hJ, hIu, -⟩ := hT9
  refine lv_aload_n hx hb dL_law_1299 rfl (lv_at hl 1 rfl) ?_
  refine lf_c hL (tc_runV (As := []) (rest := []) E hSt hL.G (x_X9_undo l G (FF G) τ x1 hx1 hA8.symm (by omega) (by omega) hT.im24) hx1 rv_1 kv_X9_undo ml_L_164 ⟨rfl, rfl, Nat.le_of_ble_eq_true rfl, Nat.le_of_ble_eq_true rfl⟩ rfl hl.1 rfl (Nat.le_of_ble_eq_true rfl) ⟨Nat.le_of_ble_eq_true rfl, Nat.le_of_ble_eq_true rfl⟩ dL_law_1300) (fun r1 F9 H pr1 hL => ?_)
  have pc9 : UNc (FF G) F9 x1 (G.2.2.1 10) (G.2.2.1 11) r1 := pr1
  clear pr1
  obtain ⟨G1, eG1⟩ : ∃ Z : tG, Z = gF G F9 := ⟨_, rfl⟩
  rw [← eG1] at hL
  have E1 : tE G1 p s m c #[Value.ref b] RL cL_law 4 := by rw [eG1]; exact E
  have hSt1 : tSt G1 (tA τ) s := by rw [eG1]; exact hSt
  have eM1 : FM G1 = FM G := by rw [eG1]; rfl
  have eF1 : FF G1 = F9 := by rw [eG1]; rfl
  have hA1 : lA G1 x1 := by rw [eG1]; exact hA
  have eT1 : G1.2.2.1 = G.2.2.1 := by rw [eG1]; rfl
  refine lv_aload_n hx hb dL_law_1303 rfl (lv_at hl 2 rfl) ?_
  refine lf_m (P := fun r9 a9 W => ((FM G1 1 5).toInt = 0 ∧ r9 = -3 ∧ a9 = a ∧ W = FM G1) ∨ (¬ (FM G1 1 5).toInt = 0 ∧ a9 = upA a 2 tu ∧ W = up2 (FM G1) 2 5 (FM G1 3 5) ∧ r9.toInt = cB tu 24)) hL (mc_runV (As := []) (rest := [.int r1]) E1 hL.M (x_X10_undo l G1 σ a tu x2 hx2 hu hIu) hx2 rfl kv_X10_undo ml_L_167 ⟨rfl, rfl, Nat.le_of_ble_eq_true rfl, Nat.le_of_ble_eq_true rfl⟩ rfl hl.1 rfl (Nat.le_of_ble_eq_true rfl) ⟨Nat.le_of_ble_eq_true rfl, Nat.le_of_ble_eq_true rfl⟩ dL_law_1304) (fun _ Z _ _ hp => by rcases hp with ⟨q1, q2, q3, q4⟩ | ⟨q1, q2, q3, q4⟩; exact ⟨a, hL.2.2.2.2.2.1, by rw [q3]; exact mLe.refl, Or.inl ⟨q1, q2, rfl, q4⟩⟩; exact ⟨_, hL.2.2.2.2.2.1.up hIu, by rw [q2]; exact mLe.refl, Or.inr ⟨q1, rfl, q3, q4⟩⟩) (fun r2 W a9 H pr2 hL => ?_)
  rw [eM1] at pr2
  have hRL := RL_undo hT pc9 pr2
  have hrr : r1 = r2 := RL_undoR hT pc9 pr2
  have hK : lK (kM G1 W) x1 a9 := by
    obtain ⟨t9, g1, g2, g3⟩ := hRL ha hu
    exact ⟨hA1, t9, tu, g1, g2, by show lT (FF G1) W x1 (G1.2.2.1 10) (G1.2.2.1 11) (G1.2.2.1 16) t9 tu; rw [eF1, eT1]; exact g3⟩
  refine lv_icmp_eq (tgt := 1312) hx hb dL_law_1307 (by decide) (fun _ => ?_) (fun hne => ?_)
  · exact kk (kM G1 W) _ _ E1 hSt1 hK hL
  · exact absurd hrr hne
