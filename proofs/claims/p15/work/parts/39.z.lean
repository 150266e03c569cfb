set_option maxHeartbeats 4000000 in
theorem k_X9_init {l : Launch} {G : tG} {τ : Nat → Nat} {h sz : Nat} (hs9 : sz = h + 1) (hP : PRG G h) : Met l yX9_init (.code yX9_init cX9_init 2 none :: tWS) { frames := 5, cells := 447, slots := 5649, locals := 130 } (va_Pc (.ref h :: []) (tCP G τ h sz 8 fsX9)) (tCQ G τ h sz 1 447) 447 5649 (tCA h sz) := by
  refine cg_met rfl rfl (Nat.le_of_ble_eq_true rfl) ?_
  intro p e s m below meth c E hNs hin hr hlk hsz hC ls hl
  have hx := E.1
  have hb := E.2.1
  generalize hH : s.heap = H at hC ⊢
  have hZ : H.size = sz + 0 := by rw [← hH]; exact hsz
  obtain ⟨⟨p8, p9, p10, p11, p14, p16⟩, -⟩ := id hP
  generalize hL : ([] : List Loc) = locs at hC ⊢
  refine lv_aload_n hx hb dX9_init_0 rfl (lv_at hl 0 rfl) ?_
  refine cg_obj E hl.1 (t_w1 25 rfl rfl) ko_1 ko_2 ⟨Nat.le_of_ble_eq_true rfl, Nat.le_of_ble_eq_true rfl⟩ dX9_init_1 ?_
  refine lv_aload_n hx hb dX9_init_4 rfl (lv_at hl 0 rfl) ?_
  refine cg_new E hC fc_X8 fv_X8 rfl (t_w1 28 rfl rfl) (t_w1 29 rfl rfl) (t_w1 2 rfl rfl) (Nat.le_of_ble_eq_true rfl) (Nat.le_of_ble_eq_true rfl) dX9_init_5 (fun b1 H1 eq9 zz9 hC hOb1 hrb1 hnb1 hsb1 hqb1 ho => ?_)
  have eb1 : b1 = sz + (0) := by omega
  have hZ : H1.size = sz + (1) := by omega
  refine lv_dup hx hb dX9_init_8 rfl ?_
  refine cg_back (b := b1) hC hrb1 hnb1 hsb1 (cg_runI (As := []) (rest := [.ref b1, .ref h]) E hNs hC hOb1 hrb1 (k_X8_init (by omega) (hP.w (by omega)) (by omega)) ck_X8_init rfl (t_w1 30 rfl rfl) ⟨rfl, rfl, Nat.le_of_ble_eq_true rfl, Nat.le_of_ble_eq_true rfl⟩ rfl hl.1 rfl (Nat.le_of_ble_eq_true rfl) ⟨(Nat.le_of_ble_eq_true rfl), (Nat.le_of_ble_eq_true rfl)⟩ dX9_init_9) (fun τ2 H1 locs zz9 hb1 hup hzz hC ho => ?_)
  have hZ : H1.size = sz + (100) := by omega
  refine cg_putF E hin hC fz_X9_12 rfl rfl dX9_init_12 (fun H1 locs hC ho hzs => ?_)
  have hZ : H1.size = sz + (100) := by omega
  refine lv_aload_n hx hb dX9_init_15 rfl (lv_at hl 0 rfl) ?_
  refine cg_new E hC fc_X8 fv_X8 rfl (t_w1 28 rfl rfl) (t_w1 29 rfl rfl) (t_w1 2 rfl rfl) (Nat.le_of_ble_eq_true rfl) (Nat.le_of_ble_eq_true rfl) dX9_init_16 (fun b3 H1 eq9 zz9 hC hOb3 hrb3 hnb3 hsb3 hqb3 ho => ?_)
  have eb3 : b3 = sz + (100) := by omega
  have hZ : H1.size = sz + (101) := by omega
  refine lv_dup hx hb dX9_init_19 rfl ?_
  refine cg_back (b := b3) hC hrb3 hnb3 hsb3 (cg_runI (As := []) (rest := [.ref b3, .ref h]) E hNs hC hOb3 hrb3 (k_X8_initm (by omega) (hP.w (by omega))) ck_X8_init rfl (t_w1 30 rfl rfl) ⟨rfl, rfl, Nat.le_of_ble_eq_true rfl, Nat.le_of_ble_eq_true rfl⟩ rfl hl.1 rfl (Nat.le_of_ble_eq_true rfl) ⟨(Nat.le_of_ble_eq_true rfl), (Nat.le_of_ble_eq_true rfl)⟩ dX9_init_20) (fun τ4 H1 locs zz9 hb3 hup hzz hC ho => ?_)
  have g5 := (hup _ (by rw [hb1]; decide)).trans hb1
  have hZ : H1.size = sz + (200) := by omega
  refine cg_putF E hin hC fz_X9_18 rfl rfl dX9_init_23 (fun H1 locs hC ho hzs => ?_)
  have hZ : H1.size = sz + (200) := by omega
  refine lv_aload_n hx hb dX9_init_26 rfl (lv_at hl 0 rfl) ?_
  refine cg_new E hC fc_X3 fv_X3 rfl (t_w2 28 rfl rfl) (t_w2 29 rfl rfl) (t_w1 5 rfl rfl) (Nat.le_of_ble_eq_true rfl) (Nat.le_of_ble_eq_true rfl) dX9_init_27 (fun b6 H1 eq9 zz9 hC hOb6 hrb6 hnb6 hsb6 hqb6 ho => ?_)
  have eb6 : b6 = sz + (200) := by omega
  have hZ : H1.size = sz + (201) := by omega
  refine lv_dup hx hb dX9_init_30 rfl ?_
  refine lv_aload_n hx hb dX9_init_31 rfl (lv_at hl 0 rfl) ?_
  refine cg_get E hC ff_X9_12 (v := .ref b1) rfl dX9_init_32 ?_
  refine cg_back (b := b6) hC hrb6 hnb6 hsb6 (cg_runI (As := [.ref b1]) (rest := [.ref b6, .ref h]) E hNs hC hOb6 hrb6 (k_X3_init _ g5) ck_X3_init rfl (t_w2 30 rfl rfl) ⟨rfl, rfl, Nat.le_of_ble_eq_true rfl, Nat.le_of_ble_eq_true rfl⟩ rfl hl.1 rfl (Nat.le_of_ble_eq_true rfl) ⟨(Nat.le_of_ble_eq_true rfl), (Nat.le_of_ble_eq_true rfl)⟩ dX9_init_35) (fun τ7 H1 locs zz9 hb6 hup hzz hC ho => ?_)
  have g8 := (hup _ (by rw [g5]; decide)).trans g5
  have g9 := (hup _ (by rw [hb3]; decide)).trans hb3
  have hZ : H1.size = sz + (201) := by omega
  refine cg_putF E hin hC fz_X9_26 rfl rfl dX9_init_38 (fun H1 locs hC ho hzs => ?_)
  have hZ : H1.size = sz + (201) := by omega
  refine lv_aload_n hx hb dX9_init_41 rfl (lv_at hl 0 rfl) ?_
  refine cg_new E hC fc_X7 fv_X7 rfl (t_w2 60 rfl rfl) (t_w2 61 rfl rfl) (t_w1 6 rfl rfl) (Nat.le_of_ble_eq_true rfl) (Nat.le_of_ble_eq_true rfl) dX9_init_42 (fun b10 H1 eq9 zz9 hC hOb10 hrb10 hnb10 hsb10 hqb10 ho => ?_)
  have eb10 : b10 = sz + (201) := by omega
  have hZ : H1.size = sz + (202) := by omega
  refine lv_dup hx hb dX9_init_45 rfl ?_
  refine lv_aload_n hx hb dX9_init_46 rfl (lv_at hl 0 rfl) ?_
  refine cg_get E hC ff_X9_12 (v := .ref b1) rfl dX9_init_47 ?_
  refine cg_back (b := b10) hC hrb10 hnb10 hsb10 (cg_runI (As := [.ref b1]) (rest := [.ref b10, .ref h]) E hNs hC hOb10 hrb10 (k_X7_init _ g8) ck_X7_init rfl (t_w2 62 rfl rfl) ⟨rfl, rfl, Nat.le_of_ble_eq_true rfl, Nat.le_of_ble_eq_true rfl⟩ rfl hl.1 rfl (Nat.le_of_ble_eq_true rfl) ⟨(Nat.le_of_ble_eq_true rfl), (Nat.le_of_ble_eq_true rfl)⟩ dX9_init_50) (fun τ11 H1 locs zz9 hb10 hup hzz hC ho => ?_)
  have g12 := (hup _ (by rw [g8]; decide)).trans g8
  have g13 := (hup _ (by rw [g9]; decide)).trans g9
  have g14 := (hup _ (by rw [hb6]; decide)).trans hb6
  have hZ : H1.size = sz + (405) := by omega
  refine cg_putF E hin hC fz_X9_33 rfl rfl dX9_init_53 (fun H1 locs hC ho hzs => ?_)
  have hZ : H1.size = sz + (405) := by omega
  refine lv_aload_n hx hb dX9_init_56 rfl (lv_at hl 0 rfl) ?_
  refine cg_new E hC fc_X5 fv_X5 rfl (t_w2 92 rfl rfl) (t_w2 93 rfl rfl) (t_w1 7 rfl rfl) (Nat.le_of_ble_eq_true rfl) (Nat.le_of_ble_eq_true rfl) dX9_init_57 (fun b15 H1 eq9 zz9 hC hOb15 hrb15 hnb15 hsb15 hqb15 ho => ?_)
  have eb15 : b15 = sz + (405) := by omega
  have hZ : H1.size = sz + (406) := by omega
  refine lv_dup hx hb dX9_init_60 rfl ?_
  refine cg_back (b := b15) hC hrb15 hnb15 hsb15 (cg_runN (As := []) (rest := [.ref b15, .ref h]) E hNs hC hOb15 hrb15 (k_X5_init (by omega) (by omega) (by omega) (fun k => hP.z (by omega)) (fun j h1 h2 k => hP.z (by omega))) ck_X5_init rfl (by decide) ⟨rfl, rfl, Nat.le_of_ble_eq_true rfl, Nat.le_of_ble_eq_true rfl⟩ rfl hl.1 rfl (Nat.le_of_ble_eq_true rfl) ⟨(Nat.le_of_ble_eq_true rfl), (Nat.le_of_ble_eq_true rfl)⟩ dX9_init_61) (fun τ16 H1 locs zz9 hb15 hup hzz hC ho => ?_)
  have g17 := (hup _ (by rw [g12]; decide)).trans g12
  have g18 := (hup _ (by rw [g13]; decide)).trans g13
  have g19 := (hup _ (by rw [g14]; decide)).trans g14
  have g20 := (hup _ (by rw [hb10]; decide)).trans hb10
  have hZ : H1.size = sz + (435) := by omega
  refine cg_putF E hin hC fz_X9_40 rfl rfl dX9_init_64 (fun H1 locs hC ho hzs => ?_)
  have hZ : H1.size = sz + (435) := by omega
  refine lv_aload_n hx hb dX9_init_67 rfl (lv_at hl 0 rfl) ?_
  refine cg_new E hC fc_X4 fv_X4 rfl (t_w2 139 rfl rfl) (t_w2 140 rfl rfl) (t_w1 8 rfl rfl) (Nat.le_of_ble_eq_true rfl) (Nat.le_of_ble_eq_true rfl) dX9_init_68 (fun b21 H1 eq9 zz9 hC hOb21 hrb21 hnb21 hsb21 hqb21 ho => ?_)
  have eb21 : b21 = sz + (435) := by omega
  have hZ : H1.size = sz + (436) := by omega
  refine lv_dup hx hb dX9_init_71 rfl ?_
  refine lv_aload_n hx hb dX9_init_72 rfl (lv_at hl 0 rfl) ?_
  refine cg_get E hC ff_X9_12 (v := .ref b1) rfl dX9_init_73 ?_
  refine cg_back (b := b21) hC hrb21 hnb21 hsb21 (cg_runI (As := [.ref b1]) (rest := [.ref b21, .ref h]) E hNs hC hOb21 hrb21 (k_X4_init _ g17) ck_X4_init rfl (t_w2 141 rfl rfl) ⟨rfl, rfl, Nat.le_of_ble_eq_true rfl, Nat.le_of_ble_eq_true rfl⟩ rfl hl.1 rfl (Nat.le_of_ble_eq_true rfl) ⟨(Nat.le_of_ble_eq_true rfl), (Nat.le_of_ble_eq_true rfl)⟩ dX9_init_76) (fun τ22 H1 locs zz9 hb21 hup hzz hC ho => ?_)
  have g23 := (hup _ (by rw [g17]; decide)).trans g17
  have g24 := (hup _ (by rw [g18]; decide)).trans g18
  have g25 := (hup _ (by rw [g19]; decide)).trans g19
  have g26 := (hup _ (by rw [g20]; decide)).trans g20
  have g27 := (hup _ (by rw [hb15]; decide)).trans hb15
  have hZ : H1.size = sz + (437) := by omega
  refine cg_putF E hin hC fz_X9_47 rfl rfl dX9_init_79 (fun H1 locs hC ho hzs => ?_)
  have hZ : H1.size = sz + (437) := by omega
  refine lv_aload_n hx hb dX9_init_82 rfl (lv_at hl 0 rfl) ?_
  refine lv_bipush (v := 120) hx hb dX9_init_83 (by decide) ?_
  refine cg_newc E hC ta_18 (by decide) ⟨by decide, by decide, by decide⟩ (fun i _ => tKn_z rfl (ffe (hP.z (a := h + 438) (k := i) (by omega)) (by omega))) (fun _ => ⟨0, rfl, by decide, by decide⟩) (by decide) (by decide) (by decide) (Nat.le_of_ble_eq_true rfl) (Nat.le_of_ble_eq_true rfl) dX9_init_85 (fun q28 H1 τ29 eq9 zz9 hC hq28 hup hzz ho => ?_)
  have eq28 : q28 = sz + (437) := by omega
  have hZ : H1.size = sz + (438) := by omega
  have g30 := (hup _ (by rw [g23]; decide)).trans g23
  have g31 := (hup _ (by rw [g24]; decide)).trans g24
  have g32 := (hup _ (by rw [g25]; decide)).trans g25
  have g33 := (hup _ (by rw [g26]; decide)).trans g26
  have g34 := (hup _ (by rw [g27]; decide)).trans g27
  have g35 := (hup _ (by rw [hb21]; decide)).trans hb21
  clear hup hzz ho
  skip
  refine cg_putF E hin hC fz_X9_51 rfl rfl dX9_init_87 (fun H1 locs hC ho hzs => ?_)
  have hZ : H1.size = sz + (438) := by omega
  refine lv_aload_n hx hb dX9_init_90 rfl (lv_at hl 0 rfl) ?_
  refine lv_iconst (v := 4) hx hb dX9_init_91 (by decide) ?_
  refine cg_anew (C := "LaidOutBoxes$Tape") (N := 4) E hNs.2.2.1 hC (ak := 4) rfl (t_w2 158 rfl rfl) (by decide) (by decide) (by decide) (Nat.le_of_ble_eq_true rfl) (Nat.le_of_ble_eq_true rfl) dX9_init_92 (fun q36 H1 eq9 zz9 hC hAq36 hrq36 hnq36 hsq36 ho => ?_)
  have eq36 : q36 = sz + (438) := by omega
  have hZ : H1.size = sz + (439) := by omega
  refine cg_putF E hin hC fz_X9_57 rfl rfl dX9_init_95 (fun H1 locs hC ho hzs => ?_)
  have hAq36 := (ho _ hnq36).trans hAq36
  have hZ : H1.size = sz + (439) := by omega
  refine lv_iconst (v := 0) hx hb dX9_init_98 (by decide) ?_
  refine lv_istore_n (lv' := [(1, .int 0), (0, .ref h)]) hx hb dX9_init_99 rfl hl (by decide) rfl (fun ls hl => ?_)
  have J : ∀ (n i : Nat) (x : Int32) (H : Heap) (locs : List Loc) (ls : Array Slot) (τ1 : Nat → Nat) (V : Nat → Value), n + i = 4 → x.toInt = i → H.size = sz + (439 + 2 * i) → tCG G τ τ1 s h 8 [.ref b1, .ref b3, .ref b6, .ref b10, .ref b15, .ref b21, .ref q28, .ref q36, .int 0, .int 0, .int 0, .int 0] H locs → τ1 b1 = 2 → τ1 b3 = 30 → τ1 b6 = 5 → τ1 b10 = 6 → τ1 b15 = 7 → τ1 b21 = 8 → τ1 q28 = 18 → H[q36]? = some (arrV (G.2.1 4) 4 V) → τ1 q36 = 0 → (∀ j, j < i → V j = .ref (sz + (439 + 2 * j)) ∧ τ1 (sz + (439 + 2 * j)) = 9) → lv_has ls 2 [(1, .int x), (0, .ref h)] → W p l e { frames := 5, cells := 447, slots := 5649, locals := 130 } s m ((.ref h :: [] : List Value).toArray) below meth c H locs (439 + 2 * i) (5397 + 63 * i) (MQ below (tCQ G τ h sz 1 447) ((.ref h :: [] : List Value).toArray) s 447 5649 (tCA h sz)) (F0 m 100 ls []) := by
    intro n
    induction n with
    | zero =>
      intro i x H1 locs ls τ1 V hni hxi hZ hC fb1 fb3 fb6 fb10 fb15 fb21 fq28 hAq36 hrq36 hV hl
      refine lv_iload_n hx hb dX9_init_100 rfl (lv_at hl 0 rfl) ?_
      refine lv_iconst (v := 4) hx hb dX9_init_101 (by decide) ?_
      refine lv_icmp_ge (tgt := 124) hx hb dX9_init_102 (by decide) (fun hc => ?_) (fun hc => ?_)
      · have ic := tn_le kI_4 rfl hc
        have ei : i = 4 := by omega
        subst ei
        have hC := hC.type (c9 := 20) hrq36 hnq36 hsq36 (Array.getElem?_eq_some_iff.mp hAq36).1 (by decide) ⟨by decide, fun z => absurd z (by decide), fun z => absurd z (by decide)⟩ ⟨_, hAq36, fun j hj => by obtain ⟨e1, e2⟩ := hV j hj; rw [e1]; exact ⟨⟨_, rfl, (tUp_ne (fun z => by rw [z, hrq36] at e2; cases e2)).trans e2⟩, tKn_q rfl rfl⟩⟩
        have fb1 : tUp τ1 q36 20 b1 = 2 := (tUp_ne (fun z => by rw [z, hrq36] at fb1; cases fb1)).trans fb1
        have fb3 : tUp τ1 q36 20 b3 = 30 := (tUp_ne (fun z => by rw [z, hrq36] at fb3; cases fb3)).trans fb3
        have fb6 : tUp τ1 q36 20 b6 = 5 := (tUp_ne (fun z => by rw [z, hrq36] at fb6; cases fb6)).trans fb6
        have fb10 : tUp τ1 q36 20 b10 = 6 := (tUp_ne (fun z => by rw [z, hrq36] at fb10; cases fb10)).trans fb10
        have fb15 : tUp τ1 q36 20 b15 = 7 := (tUp_ne (fun z => by rw [z, hrq36] at fb15; cases fb15)).trans fb15
        have fb21 : tUp τ1 q36 20 b21 = 8 := (tUp_ne (fun z => by rw [z, hrq36] at fb21; cases fb21)).trans fb21
        have fq28 : tUp τ1 q36 20 q28 = 18 := (tUp_ne (fun z => by rw [z, hrq36] at fq28; cases fq28)).trans fq28
        exact cg_ret hr hlk E hC hsz (by decide) (by decide) ⟨by decide, fun z => absurd z (by decide), fun z => absurd z (by decide)⟩ rfl (tFo.all (⟨⟨_, rfl, fb1⟩, ⟨_, rfl, fb3⟩, ⟨_, rfl, fb6⟩, ⟨_, rfl, fb10⟩, ⟨_, rfl, fb15⟩, ⟨_, rfl, fb21⟩, ⟨_, rfl, fq28⟩, ⟨_, rfl, tUp_at⟩, ⟨_, rfl, by decide, by decide⟩, ⟨_, rfl, by decide, by decide⟩, ⟨_, rfl, by decide, by decide⟩, ⟨_, rfl, by decide, by decide⟩, trivial⟩ : tFo _ 1 0 [.ref b1, .ref b3, .ref b6, .ref b10, .ref b15, .ref b21, .ref q28, .ref q36, .int 0, .int 0, .int 0, .int 0])) (tKo.all (⟨tKn_f rfl rfl (vr_e (show b1 = G.2.2.1 10 by omega)), tKn_f rfl rfl (vr_e (show b3 = G.2.2.1 11 by omega)), tKn_no rfl rfl rfl, tKn_no rfl rfl rfl, tKn_f rfl rfl (vr_e (show b15 = G.2.2.1 14 by omega)), tKn_no rfl rfl rfl, tKn_f rfl rfl (vr_e (show q28 = G.2.2.1 16 by omega)), tKn_no rfl rfl rfl, tKn_i rfl rfl (by rw [hP.z (Or.inl rfl)]), tKn_no rfl rfl rfl, tKn_no rfl rfl rfl, tKn_i rfl rfl (by rw [hP.z (Or.inl rfl)]), trivial⟩ : tKo G 1 h 0 [.ref b1, .ref b3, .ref b6, .ref b10, .ref b15, .ref b21, .ref q28, .ref q36, .int 0, .int 0, .int 0, .int 0])) (by omega) dX9_init_124
      · have ic := tn_nle kI_4 rfl hc
        exfalso; omega
    | succ n ih =>
      intro i x H1 locs ls τ1 V hni hxi hZ hC fb1 fb3 fb6 fb10 fb15 fb21 fq28 hAq36 hrq36 hV hl
      refine lv_iload_n hx hb dX9_init_100 rfl (lv_at hl 0 rfl) ?_
      refine lv_iconst (v := 4) hx hb dX9_init_101 (by decide) ?_
      refine lv_icmp_ge (tgt := 124) hx hb dX9_init_102 (by decide) (fun hc => ?_) (fun hc => ?_)
      · have ic := tn_le kI_4 rfl hc
        exfalso; omega
      · have ic := tn_nle kI_4 rfl hc
        refine lv_aload_n hx hb dX9_init_105 rfl (lv_at hl 1 rfl) ?_
        refine cg_get E hC ff_X9_57 (v := .ref q36) rfl dX9_init_106 ?_
        refine lv_iload_n hx hb dX9_init_109 rfl (lv_at hl 0 rfl) ?_
        have hltq36 := (Array.getElem?_eq_some_iff.mp hAq36).1
        refine cg_new E hC fc_X6 fv_X6 rfl (t_w2 158 rfl rfl) (t_w2 160 rfl rfl) (t_w1 9 rfl rfl) (by show 439 + 2 * i + 1 ≤ 447; omega) (by show 5397 + 63 * i + 3 ≤ 5649; omega) dX9_init_110 (fun b37 H1 eq9 zz9 hC hOb37 hrb37 hnb37 hsb37 hqb37 ho => ?_)
        have hAq36 := (ho _ hltq36).trans hAq36
        have hdb37_q36 : q36 ≠ b37 := by omega
        have eb37 : b37 = sz + (439 + 2 * i) := by omega
        have hZ : H1.size = sz + (439 + 2 * i + 1) := by omega
        refine lv_dup hx hb dX9_init_113 rfl ?_
        refine cg_back (b := b37) hC hrb37 hnb37 hsb37 (cg_runN (As := []) (rest := [.ref b37, .int x, .ref q36]) E hNs hC hOb37 hrb37 (k_X6_init) ck_X6_init rfl (by decide) ⟨rfl, rfl, Nat.le_of_ble_eq_true rfl, Nat.le_of_ble_eq_true rfl⟩ rfl hl.1 rfl (Nat.le_of_ble_eq_true rfl) ⟨(by show 439 + 2 * i + 1 + 1 ≤ 447; omega), (by show 5397 + 63 * i + 3 + 60 ≤ 5649; omega)⟩ dX9_init_114) (fun τ38 H1 locs zz9 hb37 hup hzz hC ho => ?_)
        have g39 := (hup _ (by rw [fb1]; decide)).trans fb1
        have g40 := (hup _ (by rw [fb3]; decide)).trans fb3
        have g41 := (hup _ (by rw [fb6]; decide)).trans fb6
        have g42 := (hup _ (by rw [fb10]; decide)).trans fb10
        have g43 := (hup _ (by rw [fb15]; decide)).trans fb15
        have g44 := (hup _ (by rw [fb21]; decide)).trans fb21
        have g45 := (hup _ (by rw [fq28]; decide)).trans fq28
        have hltq36 := (Array.getElem?_eq_some_iff.mp hAq36).1
        have hrq36 := hzz _ hdb37_q36 hltq36 hrq36
        have hAq36 := (ho _ hltq36 hdb37_q36).trans hAq36
        have hZ : H1.size = sz + (439 + 2 * i + 1 + 1) := by omega
        refine cg_aast (C := "LaidOutBoxes$Tape") (t9 := 9) E hC hAq36 hrq36 hnq36 hsq36 rfl hb37 rv_Tape (t_in (by omega) (by omega)) dX9_init_117 (fun H1 locs hC hAq36 ho zz9 => ?_)
        obtain ⟨y, ey⟩ : ∃ y : Int32, y = x + (1) := ⟨_, rfl⟩
        refine lv_iinc (v := y) (lv' := [(1, .int y), (0, .ref h)]) hx hb dX9_init_118 hl (k := 0) rfl (by rw [ey]; rfl) (by decide) rfl (fun ls hl => ?_)
        have ty := tn_add ey rfl kI_1 (by omega) (by omega)
        refine lv_goto (tgt := 100) hx hb dX9_init_121 (by decide) ?_
        rw [show 439 + 2 * i + 1 + 1 = 439 + 2 * (i + 1) by omega, show 5397 + 63 * i + 3 + 60 = 5397 + 63 * (i + 1) by omega]
        have hxn : x.toNatClampNeg = i := t_nat hxi
        rw [hxn] at hAq36
        refine ih (i + 1) y _ _ ls _ _ (by omega) (by omega) (by omega) hC g39 g40 g41 g42 g43 g44 g45 hAq36 hrq36 (fun j hj => ?_) hl
        by_cases ej : j = i
        · subst ej; refine ⟨?_, ?_⟩; (rw [← eb37]; simp [updV]); (rw [← eb37]; exact hb37)
        · obtain ⟨e1, e2⟩ := hV j (by omega); exact ⟨by simp [updV, ej, e1], (hup _ (by rw [e2]; decide)).trans e2⟩
  exact J 4 0 0 _ _ ls _ _ rfl rfl (by omega) hC g30 g31 g32 g33 g34 g35 hq28 hAq36 hrq36 (fun j hj => absurd hj (Nat.not_lt_zero _)) hl
