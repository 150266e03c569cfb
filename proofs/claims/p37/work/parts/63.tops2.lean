/-! ===== the reference: marks, told numbers, screens, plans ===== -/
set_option maxHeartbeats 4000000 in
set_option maxRecDepth 100000 in
theorem c_X10_marks (l : Launch) (G : tG) (σ : Nat → Nat) (cu : Nat) (a : Nat → Option (Nat → Int32)) (ta : Nat → Int32) (h0 : Nat) (x1 : Int32) (t0 : σ h0 = 1) (l1 : -1 ≤ x1.toInt) (u1 : x1.toInt ≤ 23) (hIa : TInv ta) (hc : x1.toInt < (ta 3).toInt) : Met l yX10_marks (.code yX10_marks cX10_marks 4 none :: tWS) (tRm 2 43) (va_Pc [.ref h0, .int x1] (mPre G (σ, cu, qX (upA a cu ta)))) (mQvX G (σ, cu, qX (upA a cu ta)) (fun Z => ∃ t : Nat → Int32, Z = (σ, cu, qX (upA a cu t)) ∧ AG ta t ∧ TInv t)) 0 0 (mA (σ, cu, qX (upA a cu ta))) := by
  refine mc_met (by decide) (Nat.le_of_ble_eq_true rfl) ?_
  intro p e s m below meth c E hr hlk hG ls hl
  have hl : lv_has ls 4 [(0, .ref h0), (1, .int x1)] := hl
  have hx := E.1
  have hb := E.2.1
  obtain ⟨H, eH⟩ : ∃ H, H = s.heap := ⟨_, rfl⟩
  obtain ⟨locs, eL⟩ : ∃ x : List Loc, x = [] := ⟨_, rfl⟩
  have hG : mGH G (σ, cu, qX (upA a cu ta)) s H locs := by rw [eH, eL]; exact hG
  suffices hW : W p l e (tRm 2 43) s m ([.ref h0, .int x1] : List Value).toArray below meth c H locs 0 0 (MQ below (mQvX G (σ, cu, qX (upA a cu ta)) (fun Z => ∃ t : Nat → Int32, Z = (σ, cu, qX (upA a cu t)) ∧ AG ta t ∧ TInv t)) ([.ref h0, .int x1] : List Value).toArray s 0 0 (mA (σ, cu, qX (upA a cu ta)))) (F0 m 0 ls []) by subst eH; subst eL; exact hW
  clear eH eL
  have hcu : mCu cu := hG.2.2.1
  have hI := hIa
  have J2 : ∀ (n2 : Nat) (t : Nat → Int32) (H : Heap) (locs : List Loc) (ls : Array Slot) (v2 : Int32), mGH G (σ, cu, qX (upA a cu t)) s H locs → lv_has ls 4 [(0, .ref h0), (2, .int v2)] → -1 ≤ v2.toInt → v2.toInt ≤ 23 → (TInv t ∧ AG ta t ∧ v2.toInt < (t 3).toInt) → (v2.toInt + 1).toNat < n2 → W p l e (tRm 2 43) s m ([.ref h0, .int x1] : List Value).toArray below meth c H locs 0 0 (MQ below (mQvX G (σ, cu, qX (upA a cu ta)) (fun Z => ∃ t : Nat → Int32, Z = (σ, cu, qX (upA a cu t)) ∧ AG ta t ∧ TInv t)) ([.ref h0, .int x1] : List Value).toArray s 0 0 (mA (σ, cu, qX (upA a cu ta)))) (F0 m 2 ls []) := by
    intro n2
    induction n2 with
    | zero => intro t H locs ls v2 hG hl b2 c2 hex2 hn2; exact absurd hn2 (Nat.not_lt_zero _)
    | succ n2 ih2 =>
      intro t H locs ls v2 hG hl b2 c2 hex2 hn2
      have hI := hex2.1
      refine lv_iload_n hx hb dX10_marks_2 rfl (lv_at hl 1 rfl) ?_
      refine lv_if_lt (tgt := 97) hx hb dX10_marks_3 (by decide) (fun c1 => ?_) (fun c1 => ?_)
      · skip
        have ic1 := tn_lt rfl kI_0 c1
        exact mc_vretX E hr hlk hG rfl ⟨_, rfl, hex2.2.1, hI⟩ dX10_marks_97
      · skip
        have ic1 := tn_nlt rfl kI_0 c1
        refine lv_aload_n hx hb dX10_marks_6 rfl (lv_at hl 0 rfl) ?_
        refine lv_iload_n hx hb dX10_marks_7 rfl (lv_at hl 1 rfl) ?_
        refine lv_bipush (v := 19) hx hb dX10_marks_8 (by decide) ?_
        refine lv_iconst (v := 1) hx hb dX10_marks_10 (by decide) ?_
        have k2 := kI_1
        refine mc_callv hG (mc_runV (As := [.int v2, .int 19, .int 1]) (rest := []) E hG (c_X10_put l G (σ, cu, qX (upA a cu t)) h0 v2 (19 : Int32) (1 : Int32) t0 (by omega) (by omega) (by decide) (by decide) (0) (1) rfl (by omega) (by omega) ((qX_AV hcu).2.2 _ _ (by omega) (by omega) (by decide) (by decide))) t0 rfl kv_X10_put ml_X10_102 ⟨rfl, rfl, Nat.le_of_ble_eq_true rfl, Nat.le_of_ble_eq_true rfl⟩ rfl hl.1 rfl (Nat.le_of_ble_eq_true rfl) ⟨Nat.zero_le _, Nat.zero_le _⟩ dX10_marks_11) (fun H locs hG => ?_)
        refine lv_iload_n hx hb dX10_marks_14 rfl (lv_at hl 1 rfl) ?_
        refine lv_aload_n hx hb dX10_marks_15 rfl (lv_at hl 0 rfl) ?_
        refine mc_getn E hG t0 ff_X10_9 dX10_marks_16 (fun oa3 hoa3 => ?_)
        refine lv_iconst (v := 0) hx hb dX10_marks_19 (by decide) ?_
        refine mc_nald E hG hoa3 hG.2.2.1 (t_in (by decide) (by decide)) dX10_marks_20 (fun z4 lz4 uz4 qz4 => ?_)
        have lz4 : -1 ≤ z4.toInt := lz4
        have uz4 : z4.toInt ≤ 23 := uz4
        have wz4 : z4 = t 0 := qz4 _ (qX_at hcu upA_at rfl)
        have cz4 : z4.toInt = (t 0).toInt := by rw [wz4]
        refine lv_icmp_eq (tgt := 52) hx hb dX10_marks_21 (by decide) (fun c5 => ?_) (fun c5 => ?_)
        · skip
          have ic5 := tn_eq rfl rfl c5
          refine lv_iconst (v := 1) hx hb dX10_marks_52 (by decide) ?_
          refine lv_goto (tgt := 57) hx hb dX10_marks_53 (by decide) ?_
          refine lv_istore_n (lv' := [(3, .int 1), (0, .ref h0), (2, .int v2)]) hx hb dX10_marks_57 rfl hl (by decide) rfl (fun ls hl => ?_)
          refine lv_aload_n hx hb dX10_marks_58 rfl (lv_at hl 1 rfl) ?_
          refine lv_iload_n hx hb dX10_marks_59 rfl (lv_at hl 2 rfl) ?_
          refine lv_bipush (v := 21) hx hb dX10_marks_60 (by decide) ?_
          refine lv_iconst (v := 0) hx hb dX10_marks_62 (by decide) ?_
          have k6 := kI_0
          refine mc_callv hG (mc_runV (As := [.int v2, .int 21, .int 0]) (rest := []) E hG (c_X10_put l G (σ, cu, qX (upA a cu t)) h0 v2 (21 : Int32) (0 : Int32) t0 (by omega) (by omega) (by decide) (by decide) (0) (3) rfl (by omega) (by omega) ((qX_AV hcu).2.2 _ _ (by omega) (by omega) (by decide) (by decide))) t0 rfl kv_X10_put ml_X10_102 ⟨rfl, rfl, Nat.le_of_ble_eq_true rfl, Nat.le_of_ble_eq_true rfl⟩ rfl hl.1 rfl (Nat.le_of_ble_eq_true rfl) ⟨Nat.zero_le _, Nat.zero_le _⟩ dX10_marks_63) (fun H locs hG => ?_)
          refine lv_iload_n hx hb dX10_marks_66 rfl (lv_at hl 0 rfl) ?_
          refine lv_if_eq (tgt := 78) hx hb dX10_marks_67 (by decide) (fun c7 => ?_) (fun c7 => ?_)
          · exfalso
            have ic7 := tn_eq kI_1 kI_0 c7
            omega
          · skip
            have ic7 := tn_ne kI_1 kI_0 c7
            refine lv_aload_n hx hb dX10_marks_70 rfl (lv_at hl 1 rfl) ?_
            refine lv_iload_n hx hb dX10_marks_71 rfl (lv_at hl 2 rfl) ?_
            refine lv_bipush (v := 20) hx hb dX10_marks_72 (by decide) ?_
            refine lv_iconst (v := 1) hx hb dX10_marks_74 (by decide) ?_
            have k8 := kI_1
            refine mc_callvX hG (mc_runV (As := [.int v2, .int 20, .int 1]) (rest := []) E hG (c_X10_putX l G (σ, cu, qX (upA a cu t)) h0 v2 (20 : Int32) (1 : Int32) t0 (by omega) (by omega) (by decide) (by decide) (0) (1) rfl (by omega) (by omega)) t0 rfl kv_X10_put ml_X10_102 ⟨rfl, rfl, Nat.le_of_ble_eq_true rfl, Nat.le_of_ble_eq_true rfl⟩ rfl hl.1 rfl (Nat.le_of_ble_eq_true rfl) ⟨Nat.zero_le _, Nat.zero_le _⟩ dX10_marks_75) (fun Z H locs eZ pZ hG => ?_)
            rw [pZ] at hG
            clear eZ pZ Z
            rw [show (20 : Int32).toInt = 20 from kI_20] at hG
            have hG := qX_set hcu (tr_y (by omega) (by omega) (by decide) (by decide)) hG
            obtain ⟨t9, et9⟩ : ∃ Z : Nat → Int32, Z = upN t (ix v2.toInt 20) (1 : Int32) := ⟨_, rfl⟩
            rw [← et9] at hG
            have hAGn : AG t t9 := by rw [et9]; exact AG.put (by omega) (by decide) (by decide)
            have hI := TInv_AG hAGn hI
            have h3n : (t9 3).toInt = (t 3).toInt := by rw [hAGn.2.1]
            refine lv_iload_n hx hb dX10_marks_78 rfl (lv_at hl 0 rfl) ?_
            refine lv_if_eq (tgt := 86) hx hb dX10_marks_79 (by decide) (fun c10 => ?_) (fun c10 => ?_)
            · exfalso
              have ic10 := tn_eq kI_1 kI_0 c10
              omega
            · skip
              have ic10 := tn_ne kI_1 kI_0 c10
              refine lv_iconst (v := -1) hx hb dX10_marks_82 (by decide) ?_
              refine lv_goto (tgt := 93) hx hb dX10_marks_83 (by decide) ?_
              refine lv_istore_n (lv' := [(2, .int (-1)), (3, .int 1), (0, .ref h0)]) hx hb dX10_marks_93 rfl hl (by decide) rfl (fun ls hl => ?_)
              refine lv_goto (tgt := 2) hx hb dX10_marks_94 (by decide) ?_
              have hQ : TInv t9 ∧ AG ta t9 := ⟨hI, hex2.2.1.trans hAGn⟩
              have k11 := kI_m1
              have hI1 := hI.1
              exact ih2 t9 H locs ls (-1 : Int32) hG (lv_sub hl [2, 0] rfl) (by decide) (by decide) (by exact ⟨hQ.1, hQ.2, by omega⟩) (by omega)
        · skip
          have ic5 := tn_ne rfl rfl c5
          refine lv_aload_n hx hb dX10_marks_24 rfl (lv_at hl 0 rfl) ?_
          refine lv_iload_n hx hb dX10_marks_25 rfl (lv_at hl 1 rfl) ?_
          refine tc_callp (mc_runV (As := [.int v2]) (rest := []) E hG (c_X10_isFixed l G (σ, cu, qX (upA a cu t)) h0 v2 t0 (by omega) (by omega)) t0 rfl kv_X10_isFixed ml_X10_106 ⟨rfl, rfl, Nat.le_of_ble_eq_true rfl, Nat.le_of_ble_eq_true rfl⟩ rfl hl.1 rfl (Nat.le_of_ble_eq_true rfl) ⟨Nat.zero_le _, Nat.zero_le _⟩ dX10_marks_26) (fun r12 pr12 => ?_)
          replace pr12 : 0 ≤ r12.toInt ∧ r12.toInt ≤ 1 := pr12
          refine lv_if_eq (tgt := 56) hx hb dX10_marks_29 (by decide) (fun c13 => ?_) (fun c13 => ?_)
          · skip
            have ic13 := tn_eq rfl kI_0 c13
            refine lv_iconst (v := 0) hx hb dX10_marks_56 (by decide) ?_
            refine lv_istore_n (lv' := [(3, .int 0), (0, .ref h0), (2, .int v2)]) hx hb dX10_marks_57 rfl hl (by decide) rfl (fun ls hl => ?_)
            refine lv_aload_n hx hb dX10_marks_58 rfl (lv_at hl 1 rfl) ?_
            refine lv_iload_n hx hb dX10_marks_59 rfl (lv_at hl 2 rfl) ?_
            refine lv_bipush (v := 21) hx hb dX10_marks_60 (by decide) ?_
            refine lv_iconst (v := 0) hx hb dX10_marks_62 (by decide) ?_
            have k14 := kI_0
            refine mc_callv hG (mc_runV (As := [.int v2, .int 21, .int 0]) (rest := []) E hG (c_X10_put l G (σ, cu, qX (upA a cu t)) h0 v2 (21 : Int32) (0 : Int32) t0 (by omega) (by omega) (by decide) (by decide) (0) (3) rfl (by omega) (by omega) ((qX_AV hcu).2.2 _ _ (by omega) (by omega) (by decide) (by decide))) t0 rfl kv_X10_put ml_X10_102 ⟨rfl, rfl, Nat.le_of_ble_eq_true rfl, Nat.le_of_ble_eq_true rfl⟩ rfl hl.1 rfl (Nat.le_of_ble_eq_true rfl) ⟨Nat.zero_le _, Nat.zero_le _⟩ dX10_marks_63) (fun H locs hG => ?_)
            refine lv_iload_n hx hb dX10_marks_66 rfl (lv_at hl 0 rfl) ?_
            refine lv_if_eq (tgt := 78) hx hb dX10_marks_67 (by decide) (fun c15 => ?_) (fun c15 => ?_)
            · skip
              have ic15 := tn_eq kI_0 kI_0 c15
              refine lv_iload_n hx hb dX10_marks_78 rfl (lv_at hl 0 rfl) ?_
              refine lv_if_eq (tgt := 86) hx hb dX10_marks_79 (by decide) (fun c16 => ?_) (fun c16 => ?_)
              · skip
                have ic16 := tn_eq kI_0 kI_0 c16
                refine lv_aload_n hx hb dX10_marks_86 rfl (lv_at hl 1 rfl) ?_
                refine lv_iload_n hx hb dX10_marks_87 rfl (lv_at hl 2 rfl) ?_
                refine lv_bipush (v := 9) hx hb dX10_marks_88 (by decide) ?_
                refine tc_callp (mc_runV (As := [.int v2, .int 9]) (rest := []) E hG (c_X10_get l G (σ, cu, qX (upA a cu t)) h0 v2 (9 : Int32) t0 (by omega) (by omega) (by decide) (by decide)) t0 rfl kv_X10_get ml_X10_91 ⟨rfl, rfl, Nat.le_of_ble_eq_true rfl, Nat.le_of_ble_eq_true rfl⟩ rfl hl.1 rfl (Nat.le_of_ble_eq_true rfl) ⟨Nat.zero_le _, Nat.zero_le _⟩ dX10_marks_90) (fun r17 pr17 => ?_)
                replace pr17 : mV (σ, cu, qX (upA a cu t)) (ix v2.toInt (9 : Int32).toInt) r17 := pr17
                have pr17 := mV_l pr17 kI_9
                have br17 := mV_9 pr17 (by omega)
                have cr17 := mT pr17 (qX_TI hcu upA_at) (by omega) (by omega) (by decide) (by decide)
                have dr17 := mP9 cr17 hI (by omega)
                have k18 := kI_9
                refine lv_istore_n (lv' := [(2, .int r17), (3, .int 0), (0, .ref h0)]) hx hb dX10_marks_93 rfl hl (by decide) rfl (fun ls hl => ?_)
                refine lv_goto (tgt := 2) hx hb dX10_marks_94 (by decide) ?_
                have hQ : TInv t ∧ AG ta t := ⟨hI, hex2.2.1⟩
                exact ih2 t H locs ls r17 hG (lv_sub hl [2, 0] rfl) (by omega) (by omega) (by exact ⟨hQ.1, hQ.2, by omega⟩) (by omega)
              · exfalso
                have ic16 := tn_ne kI_0 kI_0 c16
                omega
            · exfalso
              have ic15 := tn_ne kI_0 kI_0 c15
              omega
          · skip
            have ic13 := tn_ne rfl kI_0 c13
            refine lv_aload_n hx hb dX10_marks_32 rfl (lv_at hl 0 rfl) ?_
            refine lv_iload_n hx hb dX10_marks_33 rfl (lv_at hl 1 rfl) ?_
            refine lv_bipush (v := 21) hx hb dX10_marks_34 (by decide) ?_
            refine tc_callp (mc_runV (As := [.int v2, .int 21]) (rest := []) E hG (c_X10_get l G (σ, cu, qX (upA a cu t)) h0 v2 (21 : Int32) t0 (by omega) (by omega) (by decide) (by decide)) t0 rfl kv_X10_get ml_X10_91 ⟨rfl, rfl, Nat.le_of_ble_eq_true rfl, Nat.le_of_ble_eq_true rfl⟩ rfl hl.1 rfl (Nat.le_of_ble_eq_true rfl) ⟨Nat.zero_le _, Nat.zero_le _⟩ dX10_marks_36) (fun r19 pr19 => ?_)
            replace pr19 : mV (σ, cu, qX (upA a cu t)) (ix v2.toInt (21 : Int32).toInt) r19 := pr19
            have pr19 := mV_l pr19 kI_21
            have br19 := mV_21 pr19 (by omega)
            have k20 := kI_21
            refine lv_if_ne (tgt := 56) hx hb dX10_marks_39 (by decide) (fun c21 => ?_) (fun c21 => ?_)
            · skip
              have ic21 := tn_ne rfl kI_0 c21
              refine lv_iconst (v := 0) hx hb dX10_marks_56 (by decide) ?_
              refine lv_istore_n (lv' := [(3, .int 0), (0, .ref h0), (2, .int v2)]) hx hb dX10_marks_57 rfl hl (by decide) rfl (fun ls hl => ?_)
              refine lv_aload_n hx hb dX10_marks_58 rfl (lv_at hl 1 rfl) ?_
              refine lv_iload_n hx hb dX10_marks_59 rfl (lv_at hl 2 rfl) ?_
              refine lv_bipush (v := 21) hx hb dX10_marks_60 (by decide) ?_
              refine lv_iconst (v := 0) hx hb dX10_marks_62 (by decide) ?_
              have k22 := kI_0
              refine mc_callv hG (mc_runV (As := [.int v2, .int 21, .int 0]) (rest := []) E hG (c_X10_put l G (σ, cu, qX (upA a cu t)) h0 v2 (21 : Int32) (0 : Int32) t0 (by omega) (by omega) (by decide) (by decide) (0) (3) rfl (by omega) (by omega) ((qX_AV hcu).2.2 _ _ (by omega) (by omega) (by decide) (by decide))) t0 rfl kv_X10_put ml_X10_102 ⟨rfl, rfl, Nat.le_of_ble_eq_true rfl, Nat.le_of_ble_eq_true rfl⟩ rfl hl.1 rfl (Nat.le_of_ble_eq_true rfl) ⟨Nat.zero_le _, Nat.zero_le _⟩ dX10_marks_63) (fun H locs hG => ?_)
              refine lv_iload_n hx hb dX10_marks_66 rfl (lv_at hl 0 rfl) ?_
              refine lv_if_eq (tgt := 78) hx hb dX10_marks_67 (by decide) (fun c23 => ?_) (fun c23 => ?_)
              · skip
                have ic23 := tn_eq kI_0 kI_0 c23
                refine lv_iload_n hx hb dX10_marks_78 rfl (lv_at hl 0 rfl) ?_
                refine lv_if_eq (tgt := 86) hx hb dX10_marks_79 (by decide) (fun c24 => ?_) (fun c24 => ?_)
                · skip
                  have ic24 := tn_eq kI_0 kI_0 c24
                  refine lv_aload_n hx hb dX10_marks_86 rfl (lv_at hl 1 rfl) ?_
                  refine lv_iload_n hx hb dX10_marks_87 rfl (lv_at hl 2 rfl) ?_
                  refine lv_bipush (v := 9) hx hb dX10_marks_88 (by decide) ?_
                  refine tc_callp (mc_runV (As := [.int v2, .int 9]) (rest := []) E hG (c_X10_get l G (σ, cu, qX (upA a cu t)) h0 v2 (9 : Int32) t0 (by omega) (by omega) (by decide) (by decide)) t0 rfl kv_X10_get ml_X10_91 ⟨rfl, rfl, Nat.le_of_ble_eq_true rfl, Nat.le_of_ble_eq_true rfl⟩ rfl hl.1 rfl (Nat.le_of_ble_eq_true rfl) ⟨Nat.zero_le _, Nat.zero_le _⟩ dX10_marks_90) (fun r25 pr25 => ?_)
                  replace pr25 : mV (σ, cu, qX (upA a cu t)) (ix v2.toInt (9 : Int32).toInt) r25 := pr25
                  have pr25 := mV_l pr25 kI_9
                  have br25 := mV_9 pr25 (by omega)
                  have cr25 := mT pr25 (qX_TI hcu upA_at) (by omega) (by omega) (by decide) (by decide)
                  have dr25 := mP9 cr25 hI (by omega)
                  have k26 := kI_9
                  refine lv_istore_n (lv' := [(2, .int r25), (3, .int 0), (0, .ref h0)]) hx hb dX10_marks_93 rfl hl (by decide) rfl (fun ls hl => ?_)
                  refine lv_goto (tgt := 2) hx hb dX10_marks_94 (by decide) ?_
                  have hQ : TInv t ∧ AG ta t := ⟨hI, hex2.2.1⟩
                  exact ih2 t H locs ls r25 hG (lv_sub hl [2, 0] rfl) (by omega) (by omega) (by exact ⟨hQ.1, hQ.2, by omega⟩) (by omega)
                · exfalso
                  have ic24 := tn_ne kI_0 kI_0 c24
                  omega
              · exfalso
                have ic23 := tn_ne kI_0 kI_0 c23
                omega
            · skip
              have ic21 := tn_eq rfl kI_0 c21
              refine lv_aload_n hx hb dX10_marks_42 rfl (lv_at hl 0 rfl) ?_
              refine lv_iload_n hx hb dX10_marks_43 rfl (lv_at hl 1 rfl) ?_
              refine lv_bipush (v := 24) hx hb dX10_marks_44 (by decide) ?_
              refine tc_callp (mc_runV (As := [.int v2, .int 24]) (rest := []) E hG (c_X10_get l G (σ, cu, qX (upA a cu t)) h0 v2 (24 : Int32) t0 (by omega) (by omega) (by decide) (by decide)) t0 rfl kv_X10_get ml_X10_91 ⟨rfl, rfl, Nat.le_of_ble_eq_true rfl, Nat.le_of_ble_eq_true rfl⟩ rfl hl.1 rfl (Nat.le_of_ble_eq_true rfl) ⟨Nat.zero_le _, Nat.zero_le _⟩ dX10_marks_46) (fun r27 pr27 => ?_)
              replace pr27 : mV (σ, cu, qX (upA a cu t)) (ix v2.toInt (24 : Int32).toInt) r27 := pr27
              have pr27 := mV_l pr27 kI_24
              have br27 := mV_24 pr27 (by omega)
              have k28 := kI_24
              refine lv_if_ne (tgt := 56) hx hb dX10_marks_49 (by decide) (fun c29 => ?_) (fun c29 => ?_)
              · skip
                have ic29 := tn_ne rfl kI_0 c29
                refine lv_iconst (v := 0) hx hb dX10_marks_56 (by decide) ?_
                refine lv_istore_n (lv' := [(3, .int 0), (0, .ref h0), (2, .int v2)]) hx hb dX10_marks_57 rfl hl (by decide) rfl (fun ls hl => ?_)
                refine lv_aload_n hx hb dX10_marks_58 rfl (lv_at hl 1 rfl) ?_
                refine lv_iload_n hx hb dX10_marks_59 rfl (lv_at hl 2 rfl) ?_
                refine lv_bipush (v := 21) hx hb dX10_marks_60 (by decide) ?_
                refine lv_iconst (v := 0) hx hb dX10_marks_62 (by decide) ?_
                have k30 := kI_0
                refine mc_callv hG (mc_runV (As := [.int v2, .int 21, .int 0]) (rest := []) E hG (c_X10_put l G (σ, cu, qX (upA a cu t)) h0 v2 (21 : Int32) (0 : Int32) t0 (by omega) (by omega) (by decide) (by decide) (0) (3) rfl (by omega) (by omega) ((qX_AV hcu).2.2 _ _ (by omega) (by omega) (by decide) (by decide))) t0 rfl kv_X10_put ml_X10_102 ⟨rfl, rfl, Nat.le_of_ble_eq_true rfl, Nat.le_of_ble_eq_true rfl⟩ rfl hl.1 rfl (Nat.le_of_ble_eq_true rfl) ⟨Nat.zero_le _, Nat.zero_le _⟩ dX10_marks_63) (fun H locs hG => ?_)
                refine lv_iload_n hx hb dX10_marks_66 rfl (lv_at hl 0 rfl) ?_
                refine lv_if_eq (tgt := 78) hx hb dX10_marks_67 (by decide) (fun c31 => ?_) (fun c31 => ?_)
                · skip
                  have ic31 := tn_eq kI_0 kI_0 c31
                  refine lv_iload_n hx hb dX10_marks_78 rfl (lv_at hl 0 rfl) ?_
                  refine lv_if_eq (tgt := 86) hx hb dX10_marks_79 (by decide) (fun c32 => ?_) (fun c32 => ?_)
                  · skip
                    have ic32 := tn_eq kI_0 kI_0 c32
                    refine lv_aload_n hx hb dX10_marks_86 rfl (lv_at hl 1 rfl) ?_
                    refine lv_iload_n hx hb dX10_marks_87 rfl (lv_at hl 2 rfl) ?_
                    refine lv_bipush (v := 9) hx hb dX10_marks_88 (by decide) ?_
                    refine tc_callp (mc_runV (As := [.int v2, .int 9]) (rest := []) E hG (c_X10_get l G (σ, cu, qX (upA a cu t)) h0 v2 (9 : Int32) t0 (by omega) (by omega) (by decide) (by decide)) t0 rfl kv_X10_get ml_X10_91 ⟨rfl, rfl, Nat.le_of_ble_eq_true rfl, Nat.le_of_ble_eq_true rfl⟩ rfl hl.1 rfl (Nat.le_of_ble_eq_true rfl) ⟨Nat.zero_le _, Nat.zero_le _⟩ dX10_marks_90) (fun r33 pr33 => ?_)
                    replace pr33 : mV (σ, cu, qX (upA a cu t)) (ix v2.toInt (9 : Int32).toInt) r33 := pr33
                    have pr33 := mV_l pr33 kI_9
                    have br33 := mV_9 pr33 (by omega)
                    have cr33 := mT pr33 (qX_TI hcu upA_at) (by omega) (by omega) (by decide) (by decide)
                    have dr33 := mP9 cr33 hI (by omega)
                    have k34 := kI_9
                    refine lv_istore_n (lv' := [(2, .int r33), (3, .int 0), (0, .ref h0)]) hx hb dX10_marks_93 rfl hl (by decide) rfl (fun ls hl => ?_)
                    refine lv_goto (tgt := 2) hx hb dX10_marks_94 (by decide) ?_
                    have hQ : TInv t ∧ AG ta t := ⟨hI, hex2.2.1⟩
                    exact ih2 t H locs ls r33 hG (lv_sub hl [2, 0] rfl) (by omega) (by omega) (by exact ⟨hQ.1, hQ.2, by omega⟩) (by omega)
                  · exfalso
                    have ic32 := tn_ne kI_0 kI_0 c32
                    omega
                · exfalso
                  have ic31 := tn_ne kI_0 kI_0 c31
                  omega
              · skip
                have ic29 := tn_eq rfl kI_0 c29
                refine lv_iconst (v := 1) hx hb dX10_marks_52 (by decide) ?_
                refine lv_goto (tgt := 57) hx hb dX10_marks_53 (by decide) ?_
                refine lv_istore_n (lv' := [(3, .int 1), (0, .ref h0), (2, .int v2)]) hx hb dX10_marks_57 rfl hl (by decide) rfl (fun ls hl => ?_)
                refine lv_aload_n hx hb dX10_marks_58 rfl (lv_at hl 1 rfl) ?_
                refine lv_iload_n hx hb dX10_marks_59 rfl (lv_at hl 2 rfl) ?_
                refine lv_bipush (v := 21) hx hb dX10_marks_60 (by decide) ?_
                refine lv_iconst (v := 0) hx hb dX10_marks_62 (by decide) ?_
                have k35 := kI_0
                refine mc_callv hG (mc_runV (As := [.int v2, .int 21, .int 0]) (rest := []) E hG (c_X10_put l G (σ, cu, qX (upA a cu t)) h0 v2 (21 : Int32) (0 : Int32) t0 (by omega) (by omega) (by decide) (by decide) (0) (3) rfl (by omega) (by omega) ((qX_AV hcu).2.2 _ _ (by omega) (by omega) (by decide) (by decide))) t0 rfl kv_X10_put ml_X10_102 ⟨rfl, rfl, Nat.le_of_ble_eq_true rfl, Nat.le_of_ble_eq_true rfl⟩ rfl hl.1 rfl (Nat.le_of_ble_eq_true rfl) ⟨Nat.zero_le _, Nat.zero_le _⟩ dX10_marks_63) (fun H locs hG => ?_)
                refine lv_iload_n hx hb dX10_marks_66 rfl (lv_at hl 0 rfl) ?_
                refine lv_if_eq (tgt := 78) hx hb dX10_marks_67 (by decide) (fun c36 => ?_) (fun c36 => ?_)
                · exfalso
                  have ic36 := tn_eq kI_1 kI_0 c36
                  omega
                · skip
                  have ic36 := tn_ne kI_1 kI_0 c36
                  refine lv_aload_n hx hb dX10_marks_70 rfl (lv_at hl 1 rfl) ?_
                  refine lv_iload_n hx hb dX10_marks_71 rfl (lv_at hl 2 rfl) ?_
                  refine lv_bipush (v := 20) hx hb dX10_marks_72 (by decide) ?_
                  refine lv_iconst (v := 1) hx hb dX10_marks_74 (by decide) ?_
                  have k37 := kI_1
                  refine mc_callvX hG (mc_runV (As := [.int v2, .int 20, .int 1]) (rest := []) E hG (c_X10_putX l G (σ, cu, qX (upA a cu t)) h0 v2 (20 : Int32) (1 : Int32) t0 (by omega) (by omega) (by decide) (by decide) (0) (1) rfl (by omega) (by omega)) t0 rfl kv_X10_put ml_X10_102 ⟨rfl, rfl, Nat.le_of_ble_eq_true rfl, Nat.le_of_ble_eq_true rfl⟩ rfl hl.1 rfl (Nat.le_of_ble_eq_true rfl) ⟨Nat.zero_le _, Nat.zero_le _⟩ dX10_marks_75) (fun Z H locs eZ pZ hG => ?_)
                  rw [pZ] at hG
                  clear eZ pZ Z
                  rw [show (20 : Int32).toInt = 20 from kI_20] at hG
                  have hG := qX_set hcu (tr_y (by omega) (by omega) (by decide) (by decide)) hG
                  obtain ⟨t38, et38⟩ : ∃ Z : Nat → Int32, Z = upN t (ix v2.toInt 20) (1 : Int32) := ⟨_, rfl⟩
                  rw [← et38] at hG
                  have hAGn : AG t t38 := by rw [et38]; exact AG.put (by omega) (by decide) (by decide)
                  have hI := TInv_AG hAGn hI
                  have h3n : (t38 3).toInt = (t 3).toInt := by rw [hAGn.2.1]
                  refine lv_iload_n hx hb dX10_marks_78 rfl (lv_at hl 0 rfl) ?_
                  refine lv_if_eq (tgt := 86) hx hb dX10_marks_79 (by decide) (fun c39 => ?_) (fun c39 => ?_)
                  · exfalso
                    have ic39 := tn_eq kI_1 kI_0 c39
                    omega
                  · skip
                    have ic39 := tn_ne kI_1 kI_0 c39
                    refine lv_iconst (v := -1) hx hb dX10_marks_82 (by decide) ?_
                    refine lv_goto (tgt := 93) hx hb dX10_marks_83 (by decide) ?_
                    refine lv_istore_n (lv' := [(2, .int (-1)), (3, .int 1), (0, .ref h0)]) hx hb dX10_marks_93 rfl hl (by decide) rfl (fun ls hl => ?_)
                    refine lv_goto (tgt := 2) hx hb dX10_marks_94 (by decide) ?_
                    have hQ : TInv t38 ∧ AG ta t38 := ⟨hI, hex2.2.1.trans hAGn⟩
                    have k40 := kI_m1
                    have hI1 := hI.1
                    exact ih2 t38 H locs ls (-1 : Int32) hG (lv_sub hl [2, 0] rfl) (by decide) (by decide) (by exact ⟨hQ.1, hQ.2, by omega⟩) (by omega)
  refine lv_iload_n hx hb dX10_marks_0 rfl (lv_at hl 1 rfl) ?_
  refine lv_istore_n (lv' := [(2, .int x1), (0, .ref h0), (1, .int x1)]) hx hb dX10_marks_1 rfl hl (by decide) rfl (fun ls hl => ?_)
  have hQ : TInv ta ∧ AG ta ta := ⟨hI, AG.refl⟩
  exact J2 ((x1.toInt + 1).toNat + 1) ta H locs ls x1 hG (lv_sub hl [1, 0] rfl) (by omega) (by omega) (by exact ⟨hQ.1, hQ.2, by omega⟩) (Nat.lt_succ_self _)

set_option maxHeartbeats 4000000 in
set_option maxRecDepth 100000 in
theorem c_X10_screens (l : Launch) (G : tG) (σ : Nat → Nat) (cu : Nat) (a : Nat → Option (Nat → Int32)) (ta : Nat → Int32) (h0 : Nat) (x1 : Int32) (x2 : Int32) (t0 : σ h0 = 1) (l1 : 0 ≤ x1.toInt) (u1 : x1.toInt ≤ 200) (l2 : 0 ≤ x2.toInt) (u2 : x2.toInt ≤ 1000) (hIa : TInv ta) : Met l yX10_screens (.code yX10_screens cX10_screens 3 none :: tWS) (tRm 1 23) (va_Pc [.ref h0, .int x1, .int x2] (mPre G (σ, cu, qX (upA a cu ta)))) (mQvX G (σ, cu, qX (upA a cu ta)) (fun Z => ∃ t : Nat → Int32, Z = (σ, cu, qX (upA a cu t)) ∧ AG ta t ∧ TInv t)) 0 0 (mA (σ, cu, qX (upA a cu ta))) := by
  refine mc_met (by decide) (Nat.le_of_ble_eq_true rfl) ?_
  intro p e s m below meth c E hr hlk hG ls hl
  have hl : lv_has ls 3 [(0, .ref h0), (1, .int x1), (2, .int x2)] := hl
  have hx := E.1
  have hb := E.2.1
  obtain ⟨H, eH⟩ : ∃ H, H = s.heap := ⟨_, rfl⟩
  obtain ⟨locs, eL⟩ : ∃ x : List Loc, x = [] := ⟨_, rfl⟩
  have hG : mGH G (σ, cu, qX (upA a cu ta)) s H locs := by rw [eH, eL]; exact hG
  suffices hW : W p l e (tRm 1 23) s m ([.ref h0, .int x1, .int x2] : List Value).toArray below meth c H locs 0 0 (MQ below (mQvX G (σ, cu, qX (upA a cu ta)) (fun Z => ∃ t : Nat → Int32, Z = (σ, cu, qX (upA a cu t)) ∧ AG ta t ∧ TInv t)) ([.ref h0, .int x1, .int x2] : List Value).toArray s 0 0 (mA (σ, cu, qX (upA a cu ta)))) (F0 m 0 ls []) by subst eH; subst eL; exact hW
  clear eH eL
  have hcu : mCu cu := hG.2.2.1
  have hI := hIa
  refine lv_aload_n hx hb dX10_screens_0 rfl (lv_at hl 0 rfl) ?_
  refine mc_getn E hG t0 ff_X10_9 dX10_screens_1 (fun oa1 hoa1 => ?_)
  refine lv_iconst (v := 1) hx hb dX10_screens_4 (by decide) ?_
  refine lv_iload_n hx hb dX10_screens_5 rfl (lv_at hl 1 rfl) ?_
  refine mc_nast E hG hoa1 hG.2.2.1 (qX_nk (mCu_20 hcu) rfl) (t_in (by decide) (by decide)) (lo := 0) (hi := 200) rfl (by omega) (by omega) dX10_screens_6 (fun H locs hG => ?_)
  refine lv_aload_n hx hb dX10_screens_7 rfl (lv_at hl 0 rfl) ?_
  refine mc_getn E hG t0 ff_X10_9 dX10_screens_8 (fun oa2 hoa2 => ?_)
  refine lv_iconst (v := 2) hx hb dX10_screens_11 (by decide) ?_
  refine lv_iload_n hx hb dX10_screens_12 rfl (lv_at hl 2 rfl) ?_
  refine mc_nast E hG hoa2 hG.2.2.1 (qX_nk (mCu_20 hcu) rfl) (t_in (by decide) (by decide)) (lo := 0) (hi := 1000) rfl (by omega) (by omega) dX10_screens_13 (fun H locs hG => ?_)
  refine lv_aload_n hx hb dX10_screens_14 rfl (lv_at hl 0 rfl) ?_
  refine mc_getn E hG t0 ff_X10_9 dX10_screens_15 (fun oa3 hoa3 => ?_)
  refine lv_iconst (v := 0) hx hb dX10_screens_18 (by decide) ?_
  refine mc_nald E hG hoa3 hG.2.2.1 (t_in (by decide) (by decide)) dX10_screens_19 (fun z4 lz4 uz4 qz4 => ?_)
  have lz4 : -1 ≤ z4.toInt := lz4
  have uz4 : z4.toInt ≤ 23 := uz4
  have wz4 : z4 = ta 0 := qz4 _ (qX_at hcu upA_at rfl)
  have cz4 : z4.toInt = (ta 0).toInt := by rw [wz4]
  refine lv_if_lt (tgt := 49) hx hb dX10_screens_20 (by decide) (fun c5 => ?_) (fun c5 => ?_)
  · skip
    have ic5 := tn_lt rfl kI_0 c5
    exact mc_vretX E hr hlk hG rfl ⟨_, rfl, AG.refl, hI⟩ dX10_screens_49
  · skip
    have ic5 := tn_nlt rfl kI_0 c5
    refine lv_aload_n hx hb dX10_screens_23 rfl (lv_at hl 0 rfl) ?_
    refine lv_aload_n hx hb dX10_screens_24 rfl (lv_at hl 0 rfl) ?_
    refine mc_getn E hG t0 ff_X10_9 dX10_screens_25 (fun oa6 hoa6 => ?_)
    refine lv_iconst (v := 0) hx hb dX10_screens_28 (by decide) ?_
    refine mc_nald E hG hoa6 hG.2.2.1 (t_in (by decide) (by decide)) dX10_screens_29 (fun z7 lz7 uz7 qz7 => ?_)
    have lz7 : -1 ≤ z7.toInt := lz7
    have uz7 : z7.toInt ≤ 23 := uz7
    have wz7 : z7 = ta 0 := qz7 _ (qX_at hcu upA_at rfl)
    have cz7 : z7.toInt = (ta 0).toInt := by rw [wz7]
    refine lv_bipush (v := 19) hx hb dX10_screens_30 (by decide) ?_
    refine lv_iconst (v := 1) hx hb dX10_screens_32 (by decide) ?_
    have k8 := kI_1
    refine mc_callv hG (mc_runV (As := [.int z7, .int 19, .int 1]) (rest := []) E hG (c_X10_put l G (σ, cu, qX (upA a cu ta)) h0 z7 (19 : Int32) (1 : Int32) t0 (by omega) (by omega) (by decide) (by decide) (0) (1) rfl (by omega) (by omega) ((qX_AV hcu).2.2 _ _ (by omega) (by omega) (by decide) (by decide))) t0 rfl kv_X10_put ml_X10_102 ⟨rfl, rfl, Nat.le_of_ble_eq_true rfl, Nat.le_of_ble_eq_true rfl⟩ rfl hl.1 rfl (Nat.le_of_ble_eq_true rfl) ⟨Nat.zero_le _, Nat.zero_le _⟩ dX10_screens_33) (fun H locs hG => ?_)
    refine lv_aload_n hx hb dX10_screens_36 rfl (lv_at hl 0 rfl) ?_
    refine lv_aload_n hx hb dX10_screens_37 rfl (lv_at hl 0 rfl) ?_
    refine mc_getn E hG t0 ff_X10_9 dX10_screens_38 (fun oa9 hoa9 => ?_)
    refine lv_iconst (v := 0) hx hb dX10_screens_41 (by decide) ?_
    refine mc_nald E hG hoa9 hG.2.2.1 (t_in (by decide) (by decide)) dX10_screens_42 (fun z10 lz10 uz10 qz10 => ?_)
    have lz10 : -1 ≤ z10.toInt := lz10
    have uz10 : z10.toInt ≤ 23 := uz10
    have wz10 : z10 = ta 0 := qz10 _ (qX_at hcu upA_at rfl)
    have cz10 : z10.toInt = (ta 0).toInt := by rw [wz10]
    refine lv_bipush (v := 20) hx hb dX10_screens_43 (by decide) ?_
    refine lv_iconst (v := 1) hx hb dX10_screens_45 (by decide) ?_
    have k11 := kI_1
    refine mc_callvX hG (mc_runV (As := [.int z10, .int 20, .int 1]) (rest := []) E hG (c_X10_putX l G (σ, cu, qX (upA a cu ta)) h0 z10 (20 : Int32) (1 : Int32) t0 (by omega) (by omega) (by decide) (by decide) (0) (1) rfl (by omega) (by omega)) t0 rfl kv_X10_put ml_X10_102 ⟨rfl, rfl, Nat.le_of_ble_eq_true rfl, Nat.le_of_ble_eq_true rfl⟩ rfl hl.1 rfl (Nat.le_of_ble_eq_true rfl) ⟨Nat.zero_le _, Nat.zero_le _⟩ dX10_screens_46) (fun Z H locs eZ pZ hG => ?_)
    rw [pZ] at hG
    clear eZ pZ Z
    rw [show (20 : Int32).toInt = 20 from kI_20] at hG
    have hG := qX_set hcu (tr_y (by omega) (by omega) (by decide) (by decide)) hG
    obtain ⟨t12, et12⟩ : ∃ Z : Nat → Int32, Z = upN ta (ix z10.toInt 20) (1 : Int32) := ⟨_, rfl⟩
    rw [← et12] at hG
    have hAGn : AG ta t12 := by rw [et12]; exact AG.put (by omega) (by decide) (by decide)
    have hI := TInv_AG hAGn hI
    have h3n : (t12 3).toInt = (ta 3).toInt := by rw [hAGn.2.1]
    exact mc_vretX E hr hlk hG rfl ⟨_, rfl, hAGn, hI⟩ dX10_screens_49

set_option maxHeartbeats 4000000 in
set_option maxRecDepth 100000 in
theorem c_X10_tellsIt (l : Launch) (G : tG) (σ : Nat → Nat) (cu : Nat) (a : Nat → Option (Nat → Int32)) (ta : Nat → Int32) (h0 : Nat) (x1 : Int32) (x2 : Int32) (x3 : Int32) (t0 : σ h0 = 1) (l1 : 0 ≤ x1.toInt) (u1 : x1.toInt ≤ 23) (l2 : 0 ≤ x2.toInt) (u2 : x2.toInt ≤ 6) (hIa : TInv ta) (hc : x1.toInt < (ta 3).toInt) (hv0 : 0 ≤ x3.toInt) (hv9 : x3.toInt ≤ 99) (hv4 : ¬ x2.toInt = 4 ∨ x3.toInt ≤ 9) (hv6 : 2 ≤ x2.toInt ∨ ¬ K ta x1.toInt 1 = 6 ∨ 1 ≤ x3.toInt) : Met l yX10_tellsIt (.code yX10_tellsIt cX10_tellsIt 4 none :: tWS) (tRm 3 66) (va_Pc [.ref h0, .int x1, .int x2, .int x3] (mPre G (σ, cu, qX (upA a cu ta)))) (mQvX G (σ, cu, qX (upA a cu ta)) (fun Z => ∃ t : Nat → Int32, Z = (σ, cu, qX (upA a cu t)) ∧ A2 ta t ∧ TInv t)) 0 0 (mA (σ, cu, qX (upA a cu ta))) := by
  refine mc_met (by decide) (Nat.le_of_ble_eq_true rfl) ?_
  intro p e s m below meth c E hr hlk hG ls hl
  have hl : lv_has ls 4 [(0, .ref h0), (1, .int x1), (2, .int x2), (3, .int x3)] := hl
  have hx := E.1
  have hb := E.2.1
  obtain ⟨H, eH⟩ : ∃ H, H = s.heap := ⟨_, rfl⟩
  obtain ⟨locs, eL⟩ : ∃ x : List Loc, x = [] := ⟨_, rfl⟩
  have hG : mGH G (σ, cu, qX (upA a cu ta)) s H locs := by rw [eH, eL]; exact hG
  suffices hW : W p l e (tRm 3 66) s m ([.ref h0, .int x1, .int x2, .int x3] : List Value).toArray below meth c H locs 0 0 (MQ below (mQvX G (σ, cu, qX (upA a cu ta)) (fun Z => ∃ t : Nat → Int32, Z = (σ, cu, qX (upA a cu t)) ∧ A2 ta t ∧ TInv t)) ([.ref h0, .int x1, .int x2, .int x3] : List Value).toArray s 0 0 (mA (σ, cu, qX (upA a cu ta)))) (F0 m 0 ls []) by subst eH; subst eL; exact hW
  clear eH eL
  have hcu : mCu cu := hG.2.2.1
  have hI := hIa
  refine lv_aload_n hx hb dX10_tellsIt_0 rfl (lv_at hl 0 rfl) ?_
  refine lv_iload_n hx hb dX10_tellsIt_1 rfl (lv_at hl 1 rfl) ?_
  refine lv_iconst (v := 2) hx hb dX10_tellsIt_2 (by decide) ?_
  refine lv_iload_n hx hb dX10_tellsIt_3 rfl (lv_at hl 2 rfl) ?_
  refine lv_iadd hx hb dX10_tellsIt_4 ?_
  refine lv_topi (fun z1 ez1 => ?_)
  have tz1 := tn_add ez1 kI_2 rfl (by omega) (by omega)
  refine lv_iload_n hx hb dX10_tellsIt_5 rfl (lv_at hl 3 rfl) ?_
  have k2 : (fR z1.toInt.toNat).1 ≤ x3.toInt ∧ x3.toInt ≤ (fR z1.toInt.toNat).2 := by
    rcases (show z1.toInt = 2 ∨ z1.toInt = 3 ∨ z1.toInt = 4 ∨ z1.toInt = 5 ∨ z1.toInt = 6 ∨ z1.toInt = 7 ∨ z1.toInt = 8 by omega) with h9 | h9 | h9 | h9 | h9 | h9 | h9 <;> rw [h9]
    · show (0 : Int) ≤ _ ∧ _ ≤ (99 : Int); omega
    · show (0 : Int) ≤ _ ∧ _ ≤ (99 : Int); omega
    · show (0 : Int) ≤ _ ∧ _ ≤ (99 : Int); omega
    · show (0 : Int) ≤ _ ∧ _ ≤ (99 : Int); omega
    · show (0 : Int) ≤ _ ∧ _ ≤ (9 : Int); omega
    · show (0 : Int) ≤ _ ∧ _ ≤ (99 : Int); omega
    · show (0 : Int) ≤ _ ∧ _ ≤ (99 : Int); omega
  refine mc_callvX hG (mc_runV (As := [.int x1, .int z1, .int x3]) (rest := []) E hG (c_X10_putX l G (σ, cu, qX (upA a cu ta)) h0 x1 z1 x3 t0 (by omega) (by omega) (by omega) (by omega) _ _ rfl k2.1 k2.2) t0 rfl kv_X10_put ml_X10_102 ⟨rfl, rfl, Nat.le_of_ble_eq_true rfl, Nat.le_of_ble_eq_true rfl⟩ rfl hl.1 rfl (Nat.le_of_ble_eq_true rfl) ⟨Nat.zero_le _, Nat.zero_le _⟩ dX10_tellsIt_6) (fun Z H locs eZ pZ hG => ?_)
  rw [pZ] at hG
  clear eZ pZ Z
  have hG := qX_set hcu (tr_y (by omega) (by omega) (by omega) (by omega)) hG
  obtain ⟨t3, et3⟩ : ∃ Z : Nat → Int32, Z = upN ta (ix x1.toInt z1.toInt) x3 := ⟨_, rfl⟩
  rw [← et3] at hG
  have hA2 : A2 ta t3 := by rw [et3]; exact A2.put (by omega) (by omega) (by omega)
  have hI := TInv_tell hI (by omega) (by omega) (by omega) et3 (by omega)
  have h3t : (t3 3).toInt = (ta 3).toInt := by rw [hA2.2.1]
  refine lv_aload_n hx hb dX10_tellsIt_9 rfl (lv_at hl 0 rfl) ?_
  refine lv_iload_n hx hb dX10_tellsIt_10 rfl (lv_at hl 2 rfl) ?_
  refine lv_iconst (v := 4) hx hb dX10_tellsIt_11 (by decide) ?_
  refine lv_icmp_ge (tgt := 19) hx hb dX10_tellsIt_12 (by decide) (fun c4 => ?_) (fun c4 => ?_)
  · skip
    have ic4 := tn_le kI_4 rfl c4
    refine lv_aload_n hx hb dX10_tellsIt_19 rfl (lv_at hl 0 rfl) ?_
    refine lv_iload_n hx hb dX10_tellsIt_20 rfl (lv_at hl 1 rfl) ?_
    refine lv_bipush (v := 9) hx hb dX10_tellsIt_21 (by decide) ?_
    refine tc_callp (mc_runV (As := [.int x1, .int 9]) (rest := [.ref h0]) E hG (c_X10_get l G (σ, cu, qX (upA a cu t3)) h0 x1 (9 : Int32) t0 (by omega) (by omega) (by decide) (by decide)) t0 rfl kv_X10_get ml_X10_91 ⟨rfl, rfl, Nat.le_of_ble_eq_true rfl, Nat.le_of_ble_eq_true rfl⟩ rfl hl.1 rfl (Nat.le_of_ble_eq_true rfl) ⟨Nat.zero_le _, Nat.zero_le _⟩ dX10_tellsIt_23) (fun r5 pr5 => ?_)
    replace pr5 : mV (σ, cu, qX (upA a cu t3)) (ix x1.toInt (9 : Int32).toInt) r5 := pr5
    have pr5 := mV_l pr5 kI_9
    have br5 := mV_9 pr5 (by omega)
    have cr5 := mT pr5 (qX_TI hcu upA_at) (by omega) (by omega) (by decide) (by decide)
    have dr5 := mP9 cr5 hI (by omega)
    have k6 := kI_9
    refine mc_callvX hG (mc_runV (As := [.int r5]) (rest := []) E hG (c_X10_marks l G σ cu a t3 h0 r5 t0 (by omega) (by omega) hI (by first | omega | (have k1 := kI_m1; have hI1 := hI.1; omega))) t0 rfl kv_X10_marks ml_X10_113 ⟨rfl, rfl, Nat.le_of_ble_eq_true rfl, Nat.le_of_ble_eq_true rfl⟩ rfl hl.1 rfl (Nat.le_of_ble_eq_true rfl) ⟨Nat.zero_le _, Nat.zero_le _⟩ dX10_tellsIt_26) (fun Z H locs eZ pZ hG => ?_)
    obtain ⟨t8, rfl, pt8, hI⟩ := pZ
    clear eZ
    have h3n : (t8 3).toInt = (t3 3).toInt := by rw [pt8.2.1]
    have h0n : (t8 0).toInt = (t3 0).toInt := by rw [pt8.1]
    exact mc_vretX E hr hlk hG rfl ⟨_, rfl, hA2.trans pt8.A2, hI⟩ dX10_tellsIt_29
  · skip
    have ic4 := tn_nle kI_4 rfl c4
    refine lv_iload_n hx hb dX10_tellsIt_15 rfl (lv_at hl 1 rfl) ?_
    refine lv_goto (tgt := 26) hx hb dX10_tellsIt_16 (by decide) ?_
    refine mc_callvX hG (mc_runV (As := [.int x1]) (rest := []) E hG (c_X10_marks l G σ cu a t3 h0 x1 t0 (by omega) (by omega) hI (by first | omega | (have k1 := kI_m1; have hI1 := hI.1; omega))) t0 rfl kv_X10_marks ml_X10_113 ⟨rfl, rfl, Nat.le_of_ble_eq_true rfl, Nat.le_of_ble_eq_true rfl⟩ rfl hl.1 rfl (Nat.le_of_ble_eq_true rfl) ⟨Nat.zero_le _, Nat.zero_le _⟩ dX10_tellsIt_26) (fun Z H locs eZ pZ hG => ?_)
    obtain ⟨t10, rfl, pt10, hI⟩ := pZ
    clear eZ
    have h3n : (t10 3).toInt = (t3 3).toInt := by rw [pt10.2.1]
    have h0n : (t10 0).toInt = (t3 0).toInt := by rw [pt10.1]
    exact mc_vretX E hr hlk hG rfl ⟨_, rfl, hA2.trans pt10.A2, hI⟩ dX10_tellsIt_29

set_option maxHeartbeats 4000000 in
set_option maxRecDepth 100000 in
theorem c_X10_tells (l : Launch) (G : tG) (σ : Nat → Nat) (cu : Nat) (a : Nat → Option (Nat → Int32)) (ta : Nat → Int32) (h0 : Nat) (x1 : Int32) (x2 : Int32) (x3 : Int32) (t0 : σ h0 = 1) (hIa : TInv ta) : Met l yX10_tells (.code yX10_tells cX10_tells 5 (some .int) :: tWS) (tRm 4 89) (va_Pc [.ref h0, .int x1, .int x2, .int x3] (mPre G (σ, cu, qX (upA a cu ta)))) (mQiX G (σ, cu, qX (upA a cu ta)) (fun r Z => ∃ t : Nat → Int32, Z = (σ, cu, qX (upA a cu t)) ∧ True ∧ TInv t)) 0 0 (mA (σ, cu, qX (upA a cu ta))) := by
  refine mc_met (by decide) (Nat.le_of_ble_eq_true rfl) ?_
  intro p e s m below meth c E hr hlk hG ls hl
  have hl : lv_has ls 5 [(0, .ref h0), (1, .int x1), (2, .int x2), (3, .int x3)] := hl
  have hx := E.1
  have hb := E.2.1
  obtain ⟨H, eH⟩ : ∃ H, H = s.heap := ⟨_, rfl⟩
  obtain ⟨locs, eL⟩ : ∃ x : List Loc, x = [] := ⟨_, rfl⟩
  have hG : mGH G (σ, cu, qX (upA a cu ta)) s H locs := by rw [eH, eL]; exact hG
  suffices hW : W p l e (tRm 4 89) s m ([.ref h0, .int x1, .int x2, .int x3] : List Value).toArray below meth c H locs 0 0 (MQ below (mQiX G (σ, cu, qX (upA a cu ta)) (fun r Z => ∃ t : Nat → Int32, Z = (σ, cu, qX (upA a cu t)) ∧ True ∧ TInv t)) ([.ref h0, .int x1, .int x2, .int x3] : List Value).toArray s 0 0 (mA (σ, cu, qX (upA a cu ta)))) (F0 m 0 ls []) by subst eH; subst eL; exact hW
  clear eH eL
  have hcu : mCu cu := hG.2.2.1
  have hI := hIa
  refine lv_aload_n hx hb dX10_tells_0 rfl (lv_at hl 0 rfl) ?_
  refine lv_iload_n hx hb dX10_tells_1 rfl (lv_at hl 1 rfl) ?_
  refine tc_callp (mc_runV (As := [.int x1]) (rest := []) E hG (c_X10_isBox l G (σ, cu, qX (upA a cu ta)) h0 x1 t0) t0 rfl kv_X10_isBox ml_X10_127 ⟨rfl, rfl, Nat.le_of_ble_eq_true rfl, Nat.le_of_ble_eq_true rfl⟩ rfl hl.1 rfl (Nat.le_of_ble_eq_true rfl) ⟨Nat.zero_le _, Nat.zero_le _⟩ dX10_tells_2) (fun r1 pr1 => ?_)
  replace pr1 : (r1.toInt = 1 ∧ 0 ≤ x1.toInt ∧ x1.toInt ≤ 23 ∧ mV (σ, cu, qX (upA a cu ta)) (ix x1.toInt 0) 1) ∨ (r1.toInt = 0 ∧ (x1.toInt < 0 ∨ 23 < x1.toInt ∨ ∃ v : Int32, ¬ v.toInt = 1 ∧ mV (σ, cu, qX (upA a cu ta)) (ix x1.toInt 0) v)) := pr1
  have cr1 := mB pr1 (qX_TI hcu upA_at) hI
  clear pr1
  refine lv_if_eq (tgt := 38) hx hb dX10_tells_5 (by decide) (fun c2 => ?_) (fun c2 => ?_)
  · skip
    have ic2 := tn_eq rfl kI_0 c2
    refine lv_iconst (v := -1) hx hb dX10_tells_38 (by decide) ?_
    exact mc_iretX E hr hlk hG rfl rfl ⟨_, rfl, trivial, hI⟩ dX10_tells_39
  · skip
    have ic2 := tn_ne rfl kI_0 c2
    refine lv_iload_n hx hb dX10_tells_8 rfl (lv_at hl 2 rfl) ?_
    refine lv_i2l hx hb dX10_tells_9 rfl ?_
    refine lv_topl (fun z3 ez3 => ?_)
    have tz3 := tl_i2l ez3
    refine lv_lconst (v := 0) hx hb dX10_tells_10 (by decide) ?_
    refine lv_topl (fun z4 ez4 => ?_)
    have tz4 : z4.toInt = 0 := by rw [ez4]; decide
    refine lv_ldc2 (v := 6) hx hb E.2.2.2.1 (E.2.2.2.2.1 _ (t_w6 221 rfl rfl)) dX10_tells_11 ?_
    refine lv_topl (fun z5 ez5 => ?_)
    have tz5 : z5.toInt = 6 := by rw [ez5]; decide
    refine tc_callp (mc_runS (As := [.long z3, .long z4, .long z5]) (rest := []) E hG (c_X10_in l G (σ, cu, qX (upA a cu ta)) z3 z4 z5) ks_X10_in ml_X10_87 ⟨rfl, rfl, Nat.le_of_ble_eq_true rfl, Nat.le_of_ble_eq_true rfl⟩ rfl hl.1 rfl (Nat.le_of_ble_eq_true rfl) ⟨Nat.zero_le _, Nat.zero_le _⟩ dX10_tells_14) (fun r6 pr6 => ?_)
    replace pr6 : ((r6.toInt = 1 ∧ z4.toInt ≤ z3.toInt ∧ z3.toInt ≤ z5.toInt) ∨ (r6.toInt = 0 ∧ (z3.toInt < z4.toInt ∨ z5.toInt < z3.toInt))) := pr6
    refine lv_if_eq (tgt := 38) hx hb dX10_tells_17 (by decide) (fun c7 => ?_) (fun c7 => ?_)
    · skip
      have ic7 := tn_eq rfl kI_0 c7
      refine lv_iconst (v := -1) hx hb dX10_tells_38 (by decide) ?_
      exact mc_iretX E hr hlk hG rfl rfl ⟨_, rfl, trivial, hI⟩ dX10_tells_39
    · skip
      have ic7 := tn_ne rfl kI_0 c7
      refine lv_iload_n hx hb dX10_tells_20 rfl (lv_at hl 2 rfl) ?_
      refine lv_iconst (v := 4) hx hb dX10_tells_21 (by decide) ?_
      refine lv_icmp_ge (tgt := 40) hx hb dX10_tells_22 (by decide) (fun c8 => ?_) (fun c8 => ?_)
      · skip
        have ic8 := tn_le kI_4 rfl c8
        refine lv_aload_n hx hb dX10_tells_40 rfl (lv_at hl 0 rfl) ?_
        refine lv_iload_n hx hb dX10_tells_41 rfl (lv_at hl 1 rfl) ?_
        refine lv_iload_n hx hb dX10_tells_42 rfl (lv_at hl 2 rfl) ?_
        refine lv_iload_n hx hb dX10_tells_43 rfl (lv_at hl 3 rfl) ?_
        refine tc_callp (mc_runV (As := [.int x1, .int x2, .int x3]) (rest := []) E hG (c_X10_isToldGood l G (σ, cu, qX (upA a cu ta)) h0 x1 x2 x3 t0 (by omega) (by omega) (by omega) (by omega) ta (qX_TI hcu upA_at) hI) t0 rfl kv_X10_isToldGood ml_X10_147 ⟨rfl, rfl, Nat.le_of_ble_eq_true rfl, Nat.le_of_ble_eq_true rfl⟩ rfl hl.1 rfl (Nat.le_of_ble_eq_true rfl) ⟨Nat.zero_le _, Nat.zero_le _⟩ dX10_tells_44) (fun r9 pr9 => ?_)
        replace pr9 : r9.toInt = 0 ∨ (r9.toInt = 1 ∧ 0 ≤ x3.toInt ∧ x3.toInt ≤ 99 ∧ (¬ x2.toInt = 4 ∨ x3.toInt ≤ 9) ∧ (4 ≤ x2.toInt ∨ ¬ K ta x1.toInt 1 = 6 ∨ 1 ≤ x3.toInt)) := pr9
        refine lv_if_ne (tgt := 53) hx hb dX10_tells_47 (by decide) (fun c10 => ?_) (fun c10 => ?_)
        · skip
          have ic10 := tn_ne rfl kI_0 c10
          refine lv_aload_n hx hb dX10_tells_53 rfl (lv_at hl 0 rfl) ?_
          refine lv_iload_n hx hb dX10_tells_54 rfl (lv_at hl 1 rfl) ?_
          refine lv_iconst (v := 2) hx hb dX10_tells_55 (by decide) ?_
          refine lv_iload_n hx hb dX10_tells_56 rfl (lv_at hl 2 rfl) ?_
          refine lv_iadd hx hb dX10_tells_57 ?_
          refine lv_topi (fun z11 ez11 => ?_)
          have tz11 := tn_add ez11 kI_2 rfl (by omega) (by omega)
          refine tc_callp (mc_runV (As := [.int x1, .int z11]) (rest := []) E hG (c_X10_get l G (σ, cu, qX (upA a cu ta)) h0 x1 z11 t0 (by omega) (by omega) (by omega) (by omega)) t0 rfl kv_X10_get ml_X10_91 ⟨rfl, rfl, Nat.le_of_ble_eq_true rfl, Nat.le_of_ble_eq_true rfl⟩ rfl hl.1 rfl (Nat.le_of_ble_eq_true rfl) ⟨Nat.zero_le _, Nat.zero_le _⟩ dX10_tells_58) (fun r12 pr12 => ?_)
          replace pr12 : mV (σ, cu, qX (upA a cu ta)) (ix x1.toInt z11.toInt) r12 := pr12
          have br12 := mV_r 6 8 (0) (99) pr12 (by omega) (by omega) (by omega) (by decide) (by decide)
          refine lv_istore (lv' := [(4, .int r12), (0, .ref h0), (1, .int x1), (2, .int x2), (3, .int x3)]) hx hb dX10_tells_61 hl (by decide) rfl (fun ls hl => ?_)
          refine lv_aload_n hx hb dX10_tells_63 rfl (lv_at hl 1 rfl) ?_
          refine lv_iload_n hx hb dX10_tells_64 rfl (lv_at hl 2 rfl) ?_
          refine lv_iload_n hx hb dX10_tells_65 rfl (lv_at hl 3 rfl) ?_
          refine lv_iload_n hx hb dX10_tells_66 rfl (lv_at hl 4 rfl) ?_
          refine mc_callvX hG (mc_runV (As := [.int x1, .int x2, .int x3]) (rest := []) E hG (c_X10_tellsIt l G σ cu a ta h0 x1 x2 x3 t0 (by omega) (by omega) (by omega) (by omega) hI (by omega) (by omega) (by omega) (by omega) (by omega)) t0 rfl kv_X10_tellsIt ml_X10_150 ⟨rfl, rfl, Nat.le_of_ble_eq_true rfl, Nat.le_of_ble_eq_true rfl⟩ rfl hl.1 rfl (Nat.le_of_ble_eq_true rfl) ⟨Nat.zero_le _, Nat.zero_le _⟩ dX10_tells_67) (fun Z H locs eZ pZ hG => ?_)
          obtain ⟨t14, rfl, pt14, hI⟩ := pZ
          clear eZ
          have h3n : (t14 3).toInt = (ta 3).toInt := by rw [pt14.2.1]
          have h0n : (t14 0).toInt = (ta 0).toInt := by rw [pt14.1]
          refine lv_iload hx hb dX10_tells_70 (lv_at hl 0 rfl) ?_
          exact mc_iretX E hr hlk hG rfl rfl ⟨_, rfl, trivial, hI⟩ dX10_tells_72
        · skip
          have ic10 := tn_eq rfl kI_0 c10
          refine lv_bipush (v := -2) hx hb dX10_tells_50 (by decide) ?_
          exact mc_iretX E hr hlk hG rfl rfl ⟨_, rfl, trivial, hI⟩ dX10_tells_52
      · skip
        have ic8 := tn_nle kI_4 rfl c8
        refine lv_iload_n hx hb dX10_tells_25 rfl (lv_at hl 2 rfl) ?_
        refine lv_aload_n hx hb dX10_tells_26 rfl (lv_at hl 0 rfl) ?_
        refine lv_iload_n hx hb dX10_tells_27 rfl (lv_at hl 1 rfl) ?_
        refine lv_iconst (v := 1) hx hb dX10_tells_28 (by decide) ?_
        refine tc_callp (mc_runV (As := [.int x1, .int 1]) (rest := [.int x2]) E hG (c_X10_get l G (σ, cu, qX (upA a cu ta)) h0 x1 (1 : Int32) t0 (by omega) (by omega) (by decide) (by decide)) t0 rfl kv_X10_get ml_X10_91 ⟨rfl, rfl, Nat.le_of_ble_eq_true rfl, Nat.le_of_ble_eq_true rfl⟩ rfl hl.1 rfl (Nat.le_of_ble_eq_true rfl) ⟨Nat.zero_le _, Nat.zero_le _⟩ dX10_tells_29) (fun r15 pr15 => ?_)
        replace pr15 : mV (σ, cu, qX (upA a cu ta)) (ix x1.toInt (1 : Int32).toInt) r15 := pr15
        have pr15 := mV_l pr15 kI_1
        have br15 := mV_1 pr15 (by omega)
        have cr15 := mT pr15 (qX_TI hcu upA_at) (by omega) (by omega) (by decide) (by decide)
        have k16 := kI_1
        refine tc_callp (mc_runS (As := [.int r15]) (rest := [.int x2]) E hG (c_X10_numbersOf l G (σ, cu, qX (upA a cu ta)) r15) ks_X10_numbersOf ml_X10_110 ⟨rfl, rfl, Nat.le_of_ble_eq_true rfl, Nat.le_of_ble_eq_true rfl⟩ rfl hl.1 rfl (Nat.le_of_ble_eq_true rfl) ⟨Nat.zero_le _, Nat.zero_le _⟩ dX10_tells_32) (fun r17 pr17 => ?_)
        replace pr17 : (r15.toInt = 3 ∧ r17.toInt = 4) ∨ ((r15.toInt = 4 ∨ r15.toInt = 5) ∧ r17.toInt = 0) ∨ (r15.toInt = 7 ∧ r17.toInt = 1) ∨ (¬ r15.toInt = 3 ∧ ¬ r15.toInt = 4 ∧ ¬ r15.toInt = 5 ∧ ¬ r15.toInt = 7 ∧ r17.toInt = 2) := pr17
        refine lv_icmp_lt (tgt := 40) hx hb dX10_tells_35 (by decide) (fun c18 => ?_) (fun c18 => ?_)
        · skip
          have ic18 := tn_lt rfl rfl c18
          refine lv_aload_n hx hb dX10_tells_40 rfl (lv_at hl 0 rfl) ?_
          refine lv_iload_n hx hb dX10_tells_41 rfl (lv_at hl 1 rfl) ?_
          refine lv_iload_n hx hb dX10_tells_42 rfl (lv_at hl 2 rfl) ?_
          refine lv_iload_n hx hb dX10_tells_43 rfl (lv_at hl 3 rfl) ?_
          refine tc_callp (mc_runV (As := [.int x1, .int x2, .int x3]) (rest := []) E hG (c_X10_isToldGood l G (σ, cu, qX (upA a cu ta)) h0 x1 x2 x3 t0 (by omega) (by omega) (by omega) (by omega) ta (qX_TI hcu upA_at) hI) t0 rfl kv_X10_isToldGood ml_X10_147 ⟨rfl, rfl, Nat.le_of_ble_eq_true rfl, Nat.le_of_ble_eq_true rfl⟩ rfl hl.1 rfl (Nat.le_of_ble_eq_true rfl) ⟨Nat.zero_le _, Nat.zero_le _⟩ dX10_tells_44) (fun r19 pr19 => ?_)
          replace pr19 : r19.toInt = 0 ∨ (r19.toInt = 1 ∧ 0 ≤ x3.toInt ∧ x3.toInt ≤ 99 ∧ (¬ x2.toInt = 4 ∨ x3.toInt ≤ 9) ∧ (4 ≤ x2.toInt ∨ ¬ K ta x1.toInt 1 = 6 ∨ 1 ≤ x3.toInt)) := pr19
          refine lv_if_ne (tgt := 53) hx hb dX10_tells_47 (by decide) (fun c20 => ?_) (fun c20 => ?_)
          · skip
            have ic20 := tn_ne rfl kI_0 c20
            refine lv_aload_n hx hb dX10_tells_53 rfl (lv_at hl 0 rfl) ?_
            refine lv_iload_n hx hb dX10_tells_54 rfl (lv_at hl 1 rfl) ?_
            refine lv_iconst (v := 2) hx hb dX10_tells_55 (by decide) ?_
            refine lv_iload_n hx hb dX10_tells_56 rfl (lv_at hl 2 rfl) ?_
            refine lv_iadd hx hb dX10_tells_57 ?_
            refine lv_topi (fun z21 ez21 => ?_)
            have tz21 := tn_add ez21 kI_2 rfl (by omega) (by omega)
            refine tc_callp (mc_runV (As := [.int x1, .int z21]) (rest := []) E hG (c_X10_get l G (σ, cu, qX (upA a cu ta)) h0 x1 z21 t0 (by omega) (by omega) (by omega) (by omega)) t0 rfl kv_X10_get ml_X10_91 ⟨rfl, rfl, Nat.le_of_ble_eq_true rfl, Nat.le_of_ble_eq_true rfl⟩ rfl hl.1 rfl (Nat.le_of_ble_eq_true rfl) ⟨Nat.zero_le _, Nat.zero_le _⟩ dX10_tells_58) (fun r22 pr22 => ?_)
            replace pr22 : mV (σ, cu, qX (upA a cu ta)) (ix x1.toInt z21.toInt) r22 := pr22
            have br22 := mV_r 2 5 (0) (99) pr22 (by omega) (by omega) (by omega) (by decide) (by decide)
            refine lv_istore (lv' := [(4, .int r22), (0, .ref h0), (1, .int x1), (2, .int x2), (3, .int x3)]) hx hb dX10_tells_61 hl (by decide) rfl (fun ls hl => ?_)
            refine lv_aload_n hx hb dX10_tells_63 rfl (lv_at hl 1 rfl) ?_
            refine lv_iload_n hx hb dX10_tells_64 rfl (lv_at hl 2 rfl) ?_
            refine lv_iload_n hx hb dX10_tells_65 rfl (lv_at hl 3 rfl) ?_
            refine lv_iload_n hx hb dX10_tells_66 rfl (lv_at hl 4 rfl) ?_
            refine mc_callvX hG (mc_runV (As := [.int x1, .int x2, .int x3]) (rest := []) E hG (c_X10_tellsIt l G σ cu a ta h0 x1 x2 x3 t0 (by omega) (by omega) (by omega) (by omega) hI (by omega) (by omega) (by omega) (by omega) (by omega)) t0 rfl kv_X10_tellsIt ml_X10_150 ⟨rfl, rfl, Nat.le_of_ble_eq_true rfl, Nat.le_of_ble_eq_true rfl⟩ rfl hl.1 rfl (Nat.le_of_ble_eq_true rfl) ⟨Nat.zero_le _, Nat.zero_le _⟩ dX10_tells_67) (fun Z H locs eZ pZ hG => ?_)
            obtain ⟨t24, rfl, pt24, hI⟩ := pZ
            clear eZ
            have h3n : (t24 3).toInt = (ta 3).toInt := by rw [pt24.2.1]
            have h0n : (t24 0).toInt = (ta 0).toInt := by rw [pt24.1]
            refine lv_iload hx hb dX10_tells_70 (lv_at hl 0 rfl) ?_
            exact mc_iretX E hr hlk hG rfl rfl ⟨_, rfl, trivial, hI⟩ dX10_tells_72
          · skip
            have ic20 := tn_eq rfl kI_0 c20
            refine lv_bipush (v := -2) hx hb dX10_tells_50 (by decide) ?_
            exact mc_iretX E hr hlk hG rfl rfl ⟨_, rfl, trivial, hI⟩ dX10_tells_52
        · skip
          have ic18 := tn_nlt rfl rfl c18
          refine lv_iconst (v := -1) hx hb dX10_tells_38 (by decide) ?_
          exact mc_iretX E hr hlk hG rfl rfl ⟨_, rfl, trivial, hI⟩ dX10_tells_39

set_option maxHeartbeats 4000000 in
set_option maxRecDepth 100000 in
theorem c_X10_screen (l : Launch) (G : tG) (σ : Nat → Nat) (cu : Nat) (a : Nat → Option (Nat → Int32)) (ta : Nat → Int32) (h0 : Nat) (x1 : Int32) (x2 : Int32) (t0 : σ h0 = 1) (hIa : TInv ta) : Met l yX10_screen (.code yX10_screen cX10_screen 4 (some .int) :: tWS) (tRm 2 45) (va_Pc [.ref h0, .int x1, .int x2] (mPre G (σ, cu, qX (upA a cu ta)))) (mQiX G (σ, cu, qX (upA a cu ta)) (fun r Z => ∃ t : Nat → Int32, Z = (σ, cu, qX (upA a cu t)) ∧ AG ta t ∧ TInv t)) 0 0 (mA (σ, cu, qX (upA a cu ta))) := by
  refine mc_met (by decide) (Nat.le_of_ble_eq_true rfl) ?_
  intro p e s m below meth c E hr hlk hG ls hl
  have hl : lv_has ls 4 [(0, .ref h0), (1, .int x1), (2, .int x2)] := hl
  have hx := E.1
  have hb := E.2.1
  obtain ⟨H, eH⟩ : ∃ H, H = s.heap := ⟨_, rfl⟩
  obtain ⟨locs, eL⟩ : ∃ x : List Loc, x = [] := ⟨_, rfl⟩
  have hG : mGH G (σ, cu, qX (upA a cu ta)) s H locs := by rw [eH, eL]; exact hG
  suffices hW : W p l e (tRm 2 45) s m ([.ref h0, .int x1, .int x2] : List Value).toArray below meth c H locs 0 0 (MQ below (mQiX G (σ, cu, qX (upA a cu ta)) (fun r Z => ∃ t : Nat → Int32, Z = (σ, cu, qX (upA a cu t)) ∧ AG ta t ∧ TInv t)) ([.ref h0, .int x1, .int x2] : List Value).toArray s 0 0 (mA (σ, cu, qX (upA a cu ta)))) (F0 m 0 ls []) by subst eH; subst eL; exact hW
  clear eH eL
  have hcu : mCu cu := hG.2.2.1
  have hI := hIa
  refine lv_iload_n hx hb dX10_screen_0 rfl (lv_at hl 1 rfl) ?_
  refine lv_i2l hx hb dX10_screen_1 rfl ?_
  refine lv_topl (fun z1 ez1 => ?_)
  have tz1 := tl_i2l ez1
  refine lv_lconst (v := 0) hx hb dX10_screen_2 (by decide) ?_
  refine lv_topl (fun z2 ez2 => ?_)
  have tz2 : z2.toInt = 0 := by rw [ez2]; decide
  refine lv_ldc2 (v := 200) hx hb E.2.2.2.1 (E.2.2.2.2.1 _ (t_w7 15 rfl rfl)) dX10_screen_3 ?_
  refine lv_topl (fun z3 ez3 => ?_)
  have tz3 : z3.toInt = 200 := by rw [ez3]; decide
  refine tc_callp (mc_runS (As := [.long z1, .long z2, .long z3]) (rest := []) E hG (c_X10_in l G (σ, cu, qX (upA a cu ta)) z1 z2 z3) ks_X10_in ml_X10_87 ⟨rfl, rfl, Nat.le_of_ble_eq_true rfl, Nat.le_of_ble_eq_true rfl⟩ rfl hl.1 rfl (Nat.le_of_ble_eq_true rfl) ⟨Nat.zero_le _, Nat.zero_le _⟩ dX10_screen_6) (fun r4 pr4 => ?_)
  replace pr4 : ((r4.toInt = 1 ∧ z2.toInt ≤ z1.toInt ∧ z1.toInt ≤ z3.toInt) ∨ (r4.toInt = 0 ∧ (z1.toInt < z2.toInt ∨ z3.toInt < z1.toInt))) := pr4
  refine lv_if_eq (tgt := 31) hx hb dX10_screen_9 (by decide) (fun c5 => ?_) (fun c5 => ?_)
  · skip
    have ic5 := tn_eq rfl kI_0 c5
    refine lv_bipush (v := -2) hx hb dX10_screen_31 (by decide) ?_
    exact mc_iretX E hr hlk hG rfl rfl ⟨_, rfl, (by first | assumption | exact ⟨rfl, rfl, fun _ _ _ _ _ => rfl⟩), hI⟩ dX10_screen_33
  · skip
    have ic5 := tn_ne rfl kI_0 c5
    refine lv_iload_n hx hb dX10_screen_12 rfl (lv_at hl 2 rfl) ?_
    refine lv_i2l hx hb dX10_screen_13 rfl ?_
    refine lv_topl (fun z6 ez6 => ?_)
    have tz6 := tl_i2l ez6
    refine lv_lconst (v := 0) hx hb dX10_screen_14 (by decide) ?_
    refine lv_topl (fun z7 ez7 => ?_)
    have tz7 : z7.toInt = 0 := by rw [ez7]; decide
    refine lv_ldc2 (v := 200) hx hb E.2.2.2.1 (E.2.2.2.2.1 _ (t_w7 15 rfl rfl)) dX10_screen_15 ?_
    refine lv_topl (fun z8 ez8 => ?_)
    have tz8 : z8.toInt = 200 := by rw [ez8]; decide
    refine tc_callp (mc_runS (As := [.long z6, .long z7, .long z8]) (rest := []) E hG (c_X10_in l G (σ, cu, qX (upA a cu ta)) z6 z7 z8) ks_X10_in ml_X10_87 ⟨rfl, rfl, Nat.le_of_ble_eq_true rfl, Nat.le_of_ble_eq_true rfl⟩ rfl hl.1 rfl (Nat.le_of_ble_eq_true rfl) ⟨Nat.zero_le _, Nat.zero_le _⟩ dX10_screen_18) (fun r9 pr9 => ?_)
    replace pr9 : ((r9.toInt = 1 ∧ z7.toInt ≤ z6.toInt ∧ z6.toInt ≤ z8.toInt) ∨ (r9.toInt = 0 ∧ (z6.toInt < z7.toInt ∨ z8.toInt < z6.toInt))) := pr9
    refine lv_if_ne (tgt := 34) hx hb dX10_screen_21 (by decide) (fun c10 => ?_) (fun c10 => ?_)
    · skip
      have ic10 := tn_ne rfl kI_0 c10
      refine lv_sipush (v := 1000) hx hb dX10_screen_34 (by decide) ?_
      refine lv_aload_n hx hb dX10_screen_37 rfl (lv_at hl 0 rfl) ?_
      refine mc_getn E hG t0 ff_X10_9 dX10_screen_38 (fun oa11 hoa11 => ?_)
      refine lv_iconst (v := 1) hx hb dX10_screen_41 (by decide) ?_
      refine mc_nald E hG hoa11 hG.2.2.1 (t_in (by decide) (by decide)) dX10_screen_42 (fun z12 lz12 uz12 qz12 => ?_)
      have lz12 : 0 ≤ z12.toInt := lz12
      have uz12 : z12.toInt ≤ 200 := uz12
      refine lv_imul hx hb dX10_screen_43 ?_
      refine lv_topi (fun z13 ez13 => ?_)
      have tz13 := tn_mul ez13 kI_1000 rfl (by omega) (by omega)
      refine lv_aload_n hx hb dX10_screen_44 rfl (lv_at hl 0 rfl) ?_
      refine mc_getn E hG t0 ff_X10_9 dX10_screen_45 (fun oa14 hoa14 => ?_)
      refine lv_iconst (v := 2) hx hb dX10_screen_48 (by decide) ?_
      refine mc_nald E hG hoa14 hG.2.2.1 (t_in (by decide) (by decide)) dX10_screen_49 (fun z15 lz15 uz15 qz15 => ?_)
      have lz15 : 0 ≤ z15.toInt := lz15
      have uz15 : z15.toInt ≤ 1000 := uz15
      refine lv_iadd hx hb dX10_screen_50 ?_
      refine lv_topi (fun z16 ez16 => ?_)
      have tz16 := tn_add ez16 rfl rfl (by omega) (by omega)
      refine lv_istore_n (lv' := [(3, .int z16), (0, .ref h0), (1, .int x1), (2, .int x2)]) hx hb dX10_screen_51 rfl hl (by decide) rfl (fun ls hl => ?_)
      refine lv_aload_n hx hb dX10_screen_52 rfl (lv_at hl 1 rfl) ?_
      refine lv_iload_n hx hb dX10_screen_53 rfl (lv_at hl 2 rfl) ?_
      refine lv_iload_n hx hb dX10_screen_54 rfl (lv_at hl 3 rfl) ?_
      refine mc_callvX hG (mc_runV (As := [.int x1, .int x2]) (rest := []) E hG (c_X10_screens l G σ cu a ta h0 x1 x2 t0 (by omega) (by omega) (by omega) (by omega) hI) t0 rfl kv_X10_screens ml_X10_165 ⟨rfl, rfl, Nat.le_of_ble_eq_true rfl, Nat.le_of_ble_eq_true rfl⟩ rfl hl.1 rfl (Nat.le_of_ble_eq_true rfl) ⟨Nat.zero_le _, Nat.zero_le _⟩ dX10_screen_55) (fun Z H locs eZ pZ hG => ?_)
      obtain ⟨t18, rfl, pt18, hI⟩ := pZ
      clear eZ
      have h3n : (t18 3).toInt = (ta 3).toInt := by rw [pt18.2.1]
      have h0n : (t18 0).toInt = (ta 0).toInt := by rw [pt18.1]
      refine lv_iload_n hx hb dX10_screen_58 rfl (lv_at hl 0 rfl) ?_
      exact mc_iretX E hr hlk hG rfl rfl ⟨_, rfl, (by first | assumption | exact ⟨rfl, rfl, fun _ _ _ _ _ => rfl⟩), hI⟩ dX10_screen_59
    · skip
      have ic10 := tn_eq rfl kI_0 c10
      refine lv_iload_n hx hb dX10_screen_24 rfl (lv_at hl 2 rfl) ?_
      refine lv_sipush (v := 1000) hx hb dX10_screen_25 (by decide) ?_
      refine lv_icmp_eq (tgt := 34) hx hb dX10_screen_28 (by decide) (fun c19 => ?_) (fun c19 => ?_)
      · skip
        have ic19 := tn_eq rfl kI_1000 c19
        refine lv_sipush (v := 1000) hx hb dX10_screen_34 (by decide) ?_
        refine lv_aload_n hx hb dX10_screen_37 rfl (lv_at hl 0 rfl) ?_
        refine mc_getn E hG t0 ff_X10_9 dX10_screen_38 (fun oa20 hoa20 => ?_)
        refine lv_iconst (v := 1) hx hb dX10_screen_41 (by decide) ?_
        refine mc_nald E hG hoa20 hG.2.2.1 (t_in (by decide) (by decide)) dX10_screen_42 (fun z21 lz21 uz21 qz21 => ?_)
        have lz21 : 0 ≤ z21.toInt := lz21
        have uz21 : z21.toInt ≤ 200 := uz21
        refine lv_imul hx hb dX10_screen_43 ?_
        refine lv_topi (fun z22 ez22 => ?_)
        have tz22 := tn_mul ez22 kI_1000 rfl (by omega) (by omega)
        refine lv_aload_n hx hb dX10_screen_44 rfl (lv_at hl 0 rfl) ?_
        refine mc_getn E hG t0 ff_X10_9 dX10_screen_45 (fun oa23 hoa23 => ?_)
        refine lv_iconst (v := 2) hx hb dX10_screen_48 (by decide) ?_
        refine mc_nald E hG hoa23 hG.2.2.1 (t_in (by decide) (by decide)) dX10_screen_49 (fun z24 lz24 uz24 qz24 => ?_)
        have lz24 : 0 ≤ z24.toInt := lz24
        have uz24 : z24.toInt ≤ 1000 := uz24
        refine lv_iadd hx hb dX10_screen_50 ?_
        refine lv_topi (fun z25 ez25 => ?_)
        have tz25 := tn_add ez25 rfl rfl (by omega) (by omega)
        refine lv_istore_n (lv' := [(3, .int z25), (0, .ref h0), (1, .int x1), (2, .int x2)]) hx hb dX10_screen_51 rfl hl (by decide) rfl (fun ls hl => ?_)
        refine lv_aload_n hx hb dX10_screen_52 rfl (lv_at hl 1 rfl) ?_
        refine lv_iload_n hx hb dX10_screen_53 rfl (lv_at hl 2 rfl) ?_
        refine lv_iload_n hx hb dX10_screen_54 rfl (lv_at hl 3 rfl) ?_
        refine mc_callvX hG (mc_runV (As := [.int x1, .int x2]) (rest := []) E hG (c_X10_screens l G σ cu a ta h0 x1 x2 t0 (by omega) (by omega) (by omega) (by omega) hI) t0 rfl kv_X10_screens ml_X10_165 ⟨rfl, rfl, Nat.le_of_ble_eq_true rfl, Nat.le_of_ble_eq_true rfl⟩ rfl hl.1 rfl (Nat.le_of_ble_eq_true rfl) ⟨Nat.zero_le _, Nat.zero_le _⟩ dX10_screen_55) (fun Z H locs eZ pZ hG => ?_)
        obtain ⟨t27, rfl, pt27, hI⟩ := pZ
        clear eZ
        have h3n : (t27 3).toInt = (ta 3).toInt := by rw [pt27.2.1]
        have h0n : (t27 0).toInt = (ta 0).toInt := by rw [pt27.1]
        refine lv_iload_n hx hb dX10_screen_58 rfl (lv_at hl 0 rfl) ?_
        exact mc_iretX E hr hlk hG rfl rfl ⟨_, rfl, (by first | assumption | exact ⟨rfl, rfl, fun _ _ _ _ _ => rfl⟩), hI⟩ dX10_screen_59
      · skip
        have ic19 := tn_ne rfl kI_1000 c19
        refine lv_bipush (v := -2) hx hb dX10_screen_31 (by decide) ?_
        exact mc_iretX E hr hlk hG rfl rfl ⟨_, rfl, (by first | assumption | exact ⟨rfl, rfl, fun _ _ _ _ _ => rfl⟩), hI⟩ dX10_screen_33

theorem nR_ev {i : Int32} {j : Int} (h : i.toInt = 6 + 2 * j) (h0 : 0 ≤ j) (h7 : j ≤ 7) : nR i.toNatClampNeg = (-2147483648, 2147483647) := by
  show nR i.toInt.toNat = _
  rcases (show j = 0 ∨ j = 1 ∨ j = 2 ∨ j = 3 ∨ j = 4 ∨ j = 5 ∨ j = 6 ∨ j = 7 by omega) with e | e | e | e | e | e | e | e <;> rw [h, e] <;> rfl
theorem nR_od {i : Int32} {j : Int} (h : i.toInt = 7 + 2 * j) (h0 : 0 ≤ j) (h7 : j ≤ 7) : nR i.toNatClampNeg = (0, 9) := by
  show nR i.toInt.toNat = _
  rcases (show j = 0 ∨ j = 1 ∨ j = 2 ∨ j = 3 ∨ j = 4 ∨ j = 5 ∨ j = 6 ∨ j = 7 by omega) with e | e | e | e | e | e | e | e <;> rw [h, e] <;> rfl
theorem tr_pl {i : Int32} (h : 6 ≤ i.toInt) (h2 : i.toInt ≤ 21) : tr i.toNatClampNeg = false := by
  show tr i.toInt.toNat = false
  have aux : ∀ k, k < 22 → 6 ≤ k → tr k = false := by decide
  exact aux _ (by omega) (by omega)
def P5 (cu c k : Nat) : Bool := c == cu && k == 5
theorem P5_5 {cu : Nat} : P5 cu cu 5 = true := by unfold P5; simp
theorem P5_k {cu c k : Nat} (h : ¬ k = 5) : P5 cu c k = false := by unfold P5; simp [h]
theorem P5_tr {cu : Nat} : ∀ k, tr k = true → P5 cu cu k = false := fun k hk => P5_k (fun z => by rw [z] at hk; exact absurd hk (by decide))
theorem P5_qn {cu : Nat} (hcu : mCu cu) {a : Nat → Option (Nat → Int32)} (c k : Nat) (h : P5 cu c k = true) : qX a c k = none := by
  unfold P5 at h
  simp at h
  rw [h.2]; exact qX_nk (by rw [h.1]; exact mCu_20 hcu) rfl
set_option maxHeartbeats 4000000 in
set_option maxRecDepth 100000 in
theorem c_X10_goesBy (l : Launch) (G : tG) (σ : Nat → Nat) (cu : Nat) (a : Nat → Option (Nat → Int32)) (ta : Nat → Int32) (h0 : Nat) (x1 : Int32) (t0 : σ h0 = 1) (l1 : 0 ≤ x1.toInt) (u1 : x1.toInt ≤ 7) (hIa : TInv ta) : Met l yX10_goesBy (.code yX10_goesBy cX10_goesBy 4 (some .boolean) :: tWS) (tRm 4 89) (va_Pc [.ref h0, .int x1] (mPre G (σ, cu, qX (upA a cu ta)))) (mQiX G (σ, cu, qX (upA a cu ta)) (fun r Z => ∃ t : Nat → Int32, Z = (σ, cu, qX (upA a cu t)) ∧ A2 ta t ∧ TInv t)) 0 0 (mA (σ, cu, qX (upA a cu ta))) := by
  refine mc_met (by decide) (Nat.le_of_ble_eq_true rfl) ?_
  intro p e s m below meth c E hr hlk hG ls hl
  have hl : lv_has ls 4 [(0, .ref h0), (1, .int x1)] := hl
  have hx := E.1
  have hb := E.2.1
  obtain ⟨H, eH⟩ : ∃ H, H = s.heap := ⟨_, rfl⟩
  obtain ⟨locs, eL⟩ : ∃ x : List Loc, x = [] := ⟨_, rfl⟩
  have hG : mGH G (σ, cu, qX (upA a cu ta)) s H locs := by rw [eH, eL]; exact hG
  suffices hW : W p l e (tRm 4 89) s m ([.ref h0, .int x1] : List Value).toArray below meth c H locs 0 0 (MQ below (mQiX G (σ, cu, qX (upA a cu ta)) (fun r Z => ∃ t : Nat → Int32, Z = (σ, cu, qX (upA a cu t)) ∧ A2 ta t ∧ TInv t)) ([.ref h0, .int x1] : List Value).toArray s 0 0 (mA (σ, cu, qX (upA a cu ta)))) (F0 m 0 ls []) by subst eH; subst eL; exact hW
  clear eH eL
  have hcu : mCu cu := hG.2.2.1
  have hI := hIa
  refine lv_aload_n hx hb dX10_goesBy_0 rfl (lv_at hl 0 rfl) ?_
  refine mc_getn E hG t0 ff_X10_9 dX10_goesBy_1 (fun oa1 hoa1 => ?_)
  refine lv_bipush (v := 6) hx hb dX10_goesBy_4 (by decide) ?_
  refine lv_iconst (v := 2) hx hb dX10_goesBy_6 (by decide) ?_
  refine lv_iload_n hx hb dX10_goesBy_7 rfl (lv_at hl 1 rfl) ?_
  refine lv_imul hx hb dX10_goesBy_8 ?_
  refine lv_topi (fun z2 ez2 => ?_)
  have tz2 := tn_mul ez2 kI_2 rfl (by omega) (by omega)
  refine lv_iadd hx hb dX10_goesBy_9 ?_
  refine lv_topi (fun z3 ez3 => ?_)
  have tz3 := tn_add ez3 kI_6 rfl (by omega) (by omega)
  refine mc_nald E hG hoa1 hG.2.2.1 (t_in (by omega) (by omega)) dX10_goesBy_10 (fun z4 lz4 uz4 qz4 => ?_)
  clear lz4 uz4
  refine lv_istore_n (lv' := [(2, .int z4), (0, .ref h0), (1, .int x1)]) hx hb dX10_goesBy_11 rfl hl (by decide) rfl (fun ls hl => ?_)
  refine lv_aload_n hx hb dX10_goesBy_12 rfl (lv_at hl 1 rfl) ?_
  refine lv_iload_n hx hb dX10_goesBy_13 rfl (lv_at hl 0 rfl) ?_
  refine tc_callp (mc_runV (As := [.int z4]) (rest := []) E hG (c_X10_isBox l G (σ, cu, qX (upA a cu ta)) h0 z4 t0) t0 rfl kv_X10_isBox ml_X10_127 ⟨rfl, rfl, Nat.le_of_ble_eq_true rfl, Nat.le_of_ble_eq_true rfl⟩ rfl hl.1 rfl (Nat.le_of_ble_eq_true rfl) ⟨Nat.zero_le _, Nat.zero_le _⟩ dX10_goesBy_14) (fun r5 pr5 => ?_)
  replace pr5 : (r5.toInt = 1 ∧ 0 ≤ z4.toInt ∧ z4.toInt ≤ 23 ∧ mV (σ, cu, qX (upA a cu ta)) (ix z4.toInt 0) 1) ∨ (r5.toInt = 0 ∧ (z4.toInt < 0 ∨ 23 < z4.toInt ∨ ∃ v : Int32, ¬ v.toInt = 1 ∧ mV (σ, cu, qX (upA a cu ta)) (ix z4.toInt 0) v)) := pr5
  have cr5 := mB pr5 (qX_TI hcu upA_at) hI
  clear pr5
  refine lv_istore_n (lv' := [(3, .int r5), (2, .int z4), (0, .ref h0), (1, .int x1)]) hx hb dX10_goesBy_17 rfl hl (by decide) rfl (fun ls hl => ?_)
  refine lv_iload_n hx hb dX10_goesBy_18 rfl (lv_at hl 0 rfl) ?_
  refine lv_if_eq (tgt := 39) hx hb dX10_goesBy_19 (by decide) (fun c6 => ?_) (fun c6 => ?_)
  · skip
    have ic6 := tn_eq rfl kI_0 c6
    refine lv_iload_n hx hb dX10_goesBy_39 rfl (lv_at hl 0 rfl) ?_
    exact mc_iretX E hr hlk hG rfl (t_nz (by omega) (by omega)).1 ⟨_, rfl, A2.refl, hI⟩ dX10_goesBy_40
  · skip
    have ic6 := tn_ne rfl kI_0 c6
    refine lv_aload_n hx hb dX10_goesBy_22 rfl (lv_at hl 2 rfl) ?_
    refine lv_iload_n hx hb dX10_goesBy_23 rfl (lv_at hl 1 rfl) ?_
    refine lv_iconst (v := 4) hx hb dX10_goesBy_24 (by decide) ?_
    refine lv_aload_n hx hb dX10_goesBy_25 rfl (lv_at hl 2 rfl) ?_
    refine mc_getn E hG t0 ff_X10_9 dX10_goesBy_26 (fun oa7 hoa7 => ?_)
    refine lv_bipush (v := 7) hx hb dX10_goesBy_29 (by decide) ?_
    refine lv_iconst (v := 2) hx hb dX10_goesBy_31 (by decide) ?_
    refine lv_iload_n hx hb dX10_goesBy_32 rfl (lv_at hl 3 rfl) ?_
    refine lv_imul hx hb dX10_goesBy_33 ?_
    refine lv_topi (fun z8 ez8 => ?_)
    have tz8 := tn_mul ez8 kI_2 rfl (by omega) (by omega)
    refine lv_iadd hx hb dX10_goesBy_34 ?_
    refine lv_topi (fun z9 ez9 => ?_)
    have tz9 := tn_add ez9 kI_7 rfl (by omega) (by omega)
    refine mc_nald E hG hoa7 hG.2.2.1 (t_in (by omega) (by omega)) dX10_goesBy_35 (fun z10 lz10 uz10 qz10 => ?_)
    rw [nR_od (j := x1.toInt) (by omega) (by omega) (by omega)] at lz10 uz10
    have lz10 : 0 ≤ z10.toInt := lz10
    have uz10 : z10.toInt ≤ 9 := uz10
    refine mc_callvX hG (mc_runV (As := [.int z4, .int 4, .int z10]) (rest := []) E hG (c_X10_tellsIt l G σ cu a ta h0 z4 (4 : Int32) z10 t0 (by omega) (by omega) (by decide) (by decide) hI (by have k2 := kI_4; omega) (by have k2 := kI_4; omega) (by have k2 := kI_4; omega) (by have k2 := kI_4; omega) (by have k2 := kI_4; omega)) t0 rfl kv_X10_tellsIt ml_X10_150 ⟨rfl, rfl, Nat.le_of_ble_eq_true rfl, Nat.le_of_ble_eq_true rfl⟩ rfl hl.1 rfl (Nat.le_of_ble_eq_true rfl) ⟨Nat.zero_le _, Nat.zero_le _⟩ dX10_goesBy_36) (fun Z H locs eZ pZ hG => ?_)
    obtain ⟨t12, rfl, pt12, hI⟩ := pZ
    clear eZ
    have h3n : (t12 3).toInt = (ta 3).toInt := by rw [pt12.2.1]
    have h0n : (t12 0).toInt = (ta 0).toInt := by rw [pt12.1]
    refine lv_iload_n hx hb dX10_goesBy_39 rfl (lv_at hl 0 rfl) ?_
    exact mc_iretX E hr hlk hG rfl (t_nz (by omega) (by omega)).1 ⟨_, rfl, pt12, hI⟩ dX10_goesBy_40

