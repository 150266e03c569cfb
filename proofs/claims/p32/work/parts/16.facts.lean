/-! ===== facts of the tables, by their places ===== -/
theorem fu_X0 : ∀ w ∈ u_ws RX0 TX0 16, w ∈ tWS := by
  intro w h
  obtain ⟨k, hk, rfl⟩ := List.mem_map.mp h
  have hk := List.mem_range.mp hk
  match k, hk with
  | 0, _ => exact t_w1 168 rfl rfl
  | 1, _ => exact t_w1 170 rfl rfl
  | 2, _ => exact t_w1 172 rfl rfl
  | 3, _ => exact t_w1 174 rfl rfl
  | 4, _ => exact t_w1 176 rfl rfl
  | 5, _ => exact t_w1 178 rfl rfl
  | 6, _ => exact t_w1 180 rfl rfl
  | 7, _ => exact t_w1 182 rfl rfl
  | 8, _ => exact t_w1 184 rfl rfl
  | 9, _ => exact t_w1 186 rfl rfl
  | 10, _ => exact t_w1 188 rfl rfl
  | 11, _ => exact t_w1 190 rfl rfl
  | 12, _ => exact t_w1 192 rfl rfl
  | 13, _ => exact t_w1 194 rfl rfl
  | 14, _ => exact t_w1 196 rfl rfl
  | 15, _ => exact t_w1 198 rfl rfl
  | k + 16, hk => exact absurd hk (by omega)
theorem fc_X0 : tFc 0 RX0 TX0 16 tyX0 := ⟨rfl, fu_X0, tyX0_ok, nmX0⟩
theorem fu_X2 : ∀ w ∈ u_ws RX2 TX2 12, w ∈ tWS := by
  intro w h
  obtain ⟨k, hk, rfl⟩ := List.mem_map.mp h
  have hk := List.mem_range.mp hk
  match k, hk with
  | 0, _ => exact t_w1 88 rfl rfl
  | 1, _ => exact t_w1 90 rfl rfl
  | 2, _ => exact t_w1 92 rfl rfl
  | 3, _ => exact t_w1 94 rfl rfl
  | 4, _ => exact t_w1 96 rfl rfl
  | 5, _ => exact t_w1 98 rfl rfl
  | 6, _ => exact t_w1 100 rfl rfl
  | 7, _ => exact t_w1 102 rfl rfl
  | 8, _ => exact t_w1 104 rfl rfl
  | 9, _ => exact t_w1 106 rfl rfl
  | 10, _ => exact t_w1 108 rfl rfl
  | 11, _ => exact t_w1 110 rfl rfl
  | k + 12, hk => exact absurd hk (by omega)
theorem fc_X2 : tFc 1 RX2 TX2 12 tyX2 := ⟨rfl, fu_X2, tyX2_ok, nmX2⟩
theorem fu_X3 : ∀ w ∈ u_ws RX3 TX3 6, w ∈ tWS := by
  intro w h
  obtain ⟨k, hk, rfl⟩ := List.mem_map.mp h
  have hk := List.mem_range.mp hk
  match k, hk with
  | 0, _ => exact t_w2 47 rfl rfl
  | 1, _ => exact t_w2 49 rfl rfl
  | 2, _ => exact t_w2 51 rfl rfl
  | 3, _ => exact t_w2 53 rfl rfl
  | 4, _ => exact t_w2 55 rfl rfl
  | 5, _ => exact t_w2 57 rfl rfl
  | k + 6, hk => exact absurd hk (by omega)
theorem fc_X3 : tFc 2 RX3 TX3 6 tyX3 := ⟨rfl, fu_X3, tyX3_ok, nmX3⟩
theorem fu_X4 : ∀ w ∈ u_ws RX4 TX4 3, w ∈ tWS := by
  intro w h
  obtain ⟨k, hk, rfl⟩ := List.mem_map.mp h
  have hk := List.mem_range.mp hk
  match k, hk with
  | 0, _ => exact t_w2 150 rfl rfl
  | 1, _ => exact t_w2 152 rfl rfl
  | 2, _ => exact t_w2 154 rfl rfl
  | k + 3, hk => exact absurd hk (by omega)
theorem fc_X4 : tFc 3 RX4 TX4 3 tyX4 := ⟨rfl, fu_X4, tyX4_ok, nmX4⟩
theorem fu_X5 : ∀ w ∈ u_ws RX5 TX5 11, w ∈ tWS := by
  intro w h
  obtain ⟨k, hk, rfl⟩ := List.mem_map.mp h
  have hk := List.mem_range.mp hk
  match k, hk with
  | 0, _ => exact t_w2 116 rfl rfl
  | 1, _ => exact t_w2 118 rfl rfl
  | 2, _ => exact t_w2 120 rfl rfl
  | 3, _ => exact t_w2 122 rfl rfl
  | 4, _ => exact t_w2 124 rfl rfl
  | 5, _ => exact t_w2 126 rfl rfl
  | 6, _ => exact t_w2 128 rfl rfl
  | 7, _ => exact t_w2 130 rfl rfl
  | 8, _ => exact t_w2 132 rfl rfl
  | 9, _ => exact t_w2 134 rfl rfl
  | 10, _ => exact t_w2 136 rfl rfl
  | k + 11, hk => exact absurd hk (by omega)
theorem fc_X5 : tFc 4 RX5 TX5 11 tyX5 := ⟨rfl, fu_X5, tyX5_ok, nmX5⟩
theorem fu_X6 : ∀ w ∈ u_ws RX6 TX6 3, w ∈ tWS := by
  intro w h
  obtain ⟨k, hk, rfl⟩ := List.mem_map.mp h
  have hk := List.mem_range.mp hk
  match k, hk with
  | 0, _ => exact t_w2 171 rfl rfl
  | 1, _ => exact t_w2 173 rfl rfl
  | 2, _ => exact t_w2 175 rfl rfl
  | k + 3, hk => exact absurd hk (by omega)
theorem fc_X6 : tFc 5 RX6 TX6 3 tyX6 := ⟨rfl, fu_X6, tyX6_ok, nmX6⟩
theorem fu_X7 : ∀ w ∈ u_ws RX7 TX7 7, w ∈ tWS := by
  intro w h
  obtain ⟨k, hk, rfl⟩ := List.mem_map.mp h
  have hk := List.mem_range.mp hk
  match k, hk with
  | 0, _ => exact t_w2 77 rfl rfl
  | 1, _ => exact t_w2 79 rfl rfl
  | 2, _ => exact t_w2 81 rfl rfl
  | 3, _ => exact t_w2 83 rfl rfl
  | 4, _ => exact t_w2 85 rfl rfl
  | 5, _ => exact t_w2 87 rfl rfl
  | 6, _ => exact t_w2 89 rfl rfl
  | k + 7, hk => exact absurd hk (by omega)
theorem fc_X7 : tFc 6 RX7 TX7 7 tyX7 := ⟨rfl, fu_X7, tyX7_ok, nmX7⟩
theorem fu_X8 : ∀ w ∈ u_ws RX8 TX8 13, w ∈ tWS := by
  intro w h
  obtain ⟨k, hk, rfl⟩ := List.mem_map.mp h
  have hk := List.mem_range.mp hk
  match k, hk with
  | 0, _ => exact t_w2 1 rfl rfl
  | 1, _ => exact t_w2 3 rfl rfl
  | 2, _ => exact t_w2 5 rfl rfl
  | 3, _ => exact t_w2 7 rfl rfl
  | 4, _ => exact t_w2 9 rfl rfl
  | 5, _ => exact t_w2 11 rfl rfl
  | 6, _ => exact t_w2 13 rfl rfl
  | 7, _ => exact t_w2 15 rfl rfl
  | 8, _ => exact t_w2 17 rfl rfl
  | 9, _ => exact t_w2 19 rfl rfl
  | 10, _ => exact t_w2 21 rfl rfl
  | 11, _ => exact t_w2 23 rfl rfl
  | 12, _ => exact t_w2 25 rfl rfl
  | k + 13, hk => exact absurd hk (by omega)
theorem fc_X8 : tFc 7 RX8 TX8 13 tyX8 := ⟨rfl, fu_X8, tyX8_ok, nmX8⟩
theorem fu_X9 : ∀ w ∈ u_ws RX9 TX9 12, w ∈ tWS := by
  intro w h
  obtain ⟨k, hk, rfl⟩ := List.mem_map.mp h
  have hk := List.mem_range.mp hk
  match k, hk with
  | 0, _ => exact t_w2 191 rfl rfl
  | 1, _ => exact t_w2 193 rfl rfl
  | 2, _ => exact t_w2 195 rfl rfl
  | 3, _ => exact t_w2 197 rfl rfl
  | 4, _ => exact t_w2 199 rfl rfl
  | 5, _ => exact t_w2 201 rfl rfl
  | 6, _ => exact t_w2 203 rfl rfl
  | 7, _ => exact t_w2 205 rfl rfl
  | 8, _ => exact t_w2 207 rfl rfl
  | 9, _ => exact t_w2 209 rfl rfl
  | 10, _ => exact t_w2 211 rfl rfl
  | 11, _ => exact t_w2 213 rfl rfl
  | k + 12, hk => exact absurd hk (by omega)
theorem fc_X9 : tFc 8 RX9 TX9 12 tyX9 := ⟨rfl, fu_X9, tyX9_ok, nmX9⟩
theorem fu_X10 : ∀ w ∈ u_ws RX10 TX10 40, w ∈ tWS := by
  intro w h
  obtain ⟨k, hk, rfl⟩ := List.mem_map.mp h
  have hk := List.mem_range.mp hk
  match k, hk with
  | 0, _ => exact t_w6 77 rfl rfl
  | 1, _ => exact t_w6 79 rfl rfl
  | 2, _ => exact t_w6 81 rfl rfl
  | 3, _ => exact t_w6 83 rfl rfl
  | 4, _ => exact t_w6 85 rfl rfl
  | 5, _ => exact t_w6 87 rfl rfl
  | 6, _ => exact t_w6 89 rfl rfl
  | 7, _ => exact t_w6 91 rfl rfl
  | 8, _ => exact t_w6 93 rfl rfl
  | 9, _ => exact t_w6 95 rfl rfl
  | 10, _ => exact t_w6 97 rfl rfl
  | 11, _ => exact t_w6 99 rfl rfl
  | 12, _ => exact t_w6 101 rfl rfl
  | 13, _ => exact t_w6 103 rfl rfl
  | 14, _ => exact t_w6 105 rfl rfl
  | 15, _ => exact t_w6 107 rfl rfl
  | 16, _ => exact t_w6 109 rfl rfl
  | 17, _ => exact t_w6 111 rfl rfl
  | 18, _ => exact t_w6 113 rfl rfl
  | 19, _ => exact t_w6 115 rfl rfl
  | 20, _ => exact t_w6 117 rfl rfl
  | 21, _ => exact t_w6 119 rfl rfl
  | 22, _ => exact t_w6 121 rfl rfl
  | 23, _ => exact t_w6 123 rfl rfl
  | 24, _ => exact t_w6 125 rfl rfl
  | 25, _ => exact t_w6 127 rfl rfl
  | 26, _ => exact t_w6 129 rfl rfl
  | 27, _ => exact t_w6 131 rfl rfl
  | 28, _ => exact t_w6 133 rfl rfl
  | 29, _ => exact t_w6 135 rfl rfl
  | 30, _ => exact t_w6 137 rfl rfl
  | 31, _ => exact t_w6 139 rfl rfl
  | 32, _ => exact t_w6 141 rfl rfl
  | 33, _ => exact t_w6 143 rfl rfl
  | 34, _ => exact t_w6 145 rfl rfl
  | 35, _ => exact t_w6 147 rfl rfl
  | 36, _ => exact t_w6 149 rfl rfl
  | 37, _ => exact t_w6 151 rfl rfl
  | 38, _ => exact t_w6 153 rfl rfl
  | 39, _ => exact t_w6 155 rfl rfl
  | k + 40, hk => exact absurd hk (by omega)
theorem fc_X10 : tFc 9 RX10 TX10 40 tyX10 := ⟨rfl, fu_X10, tyX10_ok, nmX10⟩
theorem ml_X9_11 : Cond.methodLink RX9 11 yX8_init ∈ tWS := t_w1 30 rfl rfl
theorem ff_X9_12 : tFf RX9 12 8 0 := ⟨_, _, _, _, fc_X9, Nat.le_of_ble_eq_true rfl, t_w2 179 rfl rfl⟩
theorem fr_X9_12 : tFr RX9 12 1 0 2 := ⟨by decide, ⟨_, rfl, ff_X9_12⟩, rfl⟩
theorem ff_X9_18 : tFf RX9 18 8 1 := ⟨_, _, _, _, fc_X9, Nat.le_of_ble_eq_true rfl, t_w2 180 rfl rfl⟩
theorem fr_X9_18 : tFr RX9 18 1 1 2 := ⟨by decide, ⟨_, rfl, ff_X9_18⟩, rfl⟩
theorem ml_X9_23 : Cond.methodLink RX9 23 yX3_init ∈ tWS := t_w2 30 rfl rfl
theorem ff_X9_26 : tFf RX9 26 8 2 := ⟨_, _, _, _, fc_X9, Nat.le_of_ble_eq_true rfl, t_w2 181 rfl rfl⟩
theorem fr_X9_26 : tFr RX9 26 1 2 5 := ⟨by decide, ⟨_, rfl, ff_X9_26⟩, rfl⟩
theorem ml_X9_32 : Cond.methodLink RX9 32 yX7_init ∈ tWS := t_w2 62 rfl rfl
theorem ff_X9_33 : tFf RX9 33 8 3 := ⟨_, _, _, _, fc_X9, Nat.le_of_ble_eq_true rfl, t_w2 182 rfl rfl⟩
theorem fr_X9_33 : tFr RX9 33 1 3 6 := ⟨by decide, ⟨_, rfl, ff_X9_33⟩, rfl⟩
theorem ff_X9_40 : tFf RX9 40 8 4 := ⟨_, _, _, _, fc_X9, Nat.le_of_ble_eq_true rfl, t_w2 183 rfl rfl⟩
theorem fr_X9_40 : tFr RX9 40 1 4 7 := ⟨by decide, ⟨_, rfl, ff_X9_40⟩, rfl⟩
theorem ml_X9_46 : Cond.methodLink RX9 46 yX4_init ∈ tWS := t_w2 141 rfl rfl
theorem ff_X9_47 : tFf RX9 47 8 5 := ⟨_, _, _, _, fc_X9, Nat.le_of_ble_eq_true rfl, t_w2 184 rfl rfl⟩
theorem fr_X9_47 : tFr RX9 47 1 5 8 := ⟨by decide, ⟨_, rfl, ff_X9_47⟩, rfl⟩
theorem ff_X9_51 : tFf RX9 51 8 6 := ⟨_, _, _, _, fc_X9, Nat.le_of_ble_eq_true rfl, t_w2 185 rfl rfl⟩
theorem fr_X9_51 : tFr RX9 51 1 6 18 := ⟨by decide, ⟨_, rfl, ff_X9_51⟩, rfl⟩
theorem ff_X9_57 : tFf RX9 57 8 7 := ⟨_, _, _, _, fc_X9, Nat.le_of_ble_eq_true rfl, t_w2 186 rfl rfl⟩
theorem fr_X9_57 : tFr RX9 57 1 7 20 := ⟨by decide, ⟨_, rfl, ff_X9_57⟩, rfl⟩
theorem ml_X9_62 : Cond.methodLink RX9 62 yX9_mayHoldChildren ∈ tWS := t_w2 220 rfl rfl
theorem ml_X9_66 : Cond.methodLink RX9 66 yX1_mayHave ∈ tWS := t_w2 228 rfl rfl
theorem ml_X9_72 : Cond.methodLink RX9 72 yX8_takesOneMore ∈ tWS := t_w3 8 rfl rfl
theorem ff_X9_75 : tFf RX9 75 7 8 := ⟨_, _, _, _, fc_X8, Nat.le_of_ble_eq_true rfl, t_w1 224 rfl rfl⟩
theorem fq_X9_75 : tFp RX9 75 7 8 .int := ⟨_, _, _, _, fc_X8, Nat.le_of_ble_eq_true rfl, t_w1 224 rfl rfl, rfl, rfl⟩
theorem fi_X9_75 : tFi RX9 75 2 8 (0) (24) := ⟨by decide, ⟨_, rfl, ff_X9_75⟩, rfl⟩
theorem fp_X9_75 : tPi RX9 75 2 8 (0) (24) .int := ⟨by decide, ⟨_, rfl, fq_X9_75⟩, rfl⟩
theorem ml_X9_79 : Cond.methodLink RX9 79 yX8_bring ∈ tWS := t_w3 18 rfl rfl
theorem ml_X9_83 : Cond.methodLink RX9 83 yX8_has ∈ tWS := t_w2 224 rfl rfl
theorem ff_X9_86 : tFf RX9 86 7 0 := ⟨_, _, _, _, fc_X8, Nat.le_of_ble_eq_true rfl, t_w1 204 rfl rfl⟩
theorem fr_X9_86 : tFr RX9 86 2 0 10 := ⟨by decide, ⟨_, rfl, ff_X9_86⟩, rfl⟩
theorem ml_X9_90 : Cond.methodLink RX9 90 yX0_hasTold ∈ tWS := t_w3 62 rfl rfl
theorem ml_X9_95 : Cond.methodLink RX9 95 yX0_mayBeTold ∈ tWS := t_w3 66 rfl rfl
theorem ml_X9_99 : Cond.methodLink RX9 99 yX8_tell ∈ tWS := t_w3 75 rfl rfl
theorem ml_X9_103 : Cond.methodLink RX9 103 yX8_drop ∈ tWS := t_w3 83 rfl rfl
theorem ff_X9_107 : tFf RX9 107 0 5 := ⟨_, _, _, _, fc_X0, Nat.le_of_ble_eq_true rfl, t_w1 137 rfl rfl⟩
theorem fq_X9_107 : tFp RX9 107 0 5 .int := ⟨_, _, _, _, fc_X0, Nat.le_of_ble_eq_true rfl, t_w1 137 rfl rfl, rfl, rfl⟩
theorem fi_X9_107 : tFi RX9 107 3 5 (-2147483648) (2147483647) := ⟨by decide, ⟨_, rfl, ff_X9_107⟩, rfl⟩
theorem fp_X9_107 : tPi RX9 107 3 5 (-2147483648) (2147483647) .int := ⟨by decide, ⟨_, rfl, fq_X9_107⟩, rfl⟩
theorem ff_X9_110 : tFf RX9 110 0 10 := ⟨_, _, _, _, fc_X0, Nat.le_of_ble_eq_true rfl, t_w1 158 rfl rfl⟩
theorem fq_X9_110 : tFp RX9 110 0 10 .int := ⟨_, _, _, _, fc_X0, Nat.le_of_ble_eq_true rfl, t_w1 158 rfl rfl, rfl, rfl⟩
theorem fi_X9_110 : tFi RX9 110 3 10 (0) (8) := ⟨by decide, ⟨_, rfl, ff_X9_110⟩, rfl⟩
theorem fp_X9_110 : tPi RX9 110 3 10 (0) (8) .int := ⟨by decide, ⟨_, rfl, fq_X9_110⟩, rfl⟩
theorem ml_X9_113 : Cond.methodLink RX9 113 yX8_move ∈ tWS := t_w3 117 rfl rfl
theorem ff_X9_117 : tFf RX9 117 7 10 := ⟨_, _, _, _, fc_X8, Nat.le_of_ble_eq_true rfl, t_w1 234 rfl rfl⟩
theorem fq_X9_117 : tFp RX9 117 7 10 .int := ⟨_, _, _, _, fc_X8, Nat.le_of_ble_eq_true rfl, t_w1 234 rfl rfl, rfl, rfl⟩
theorem fi_X9_117 : tFi RX9 117 2 10 (-2147483648) (2147483647) := ⟨by decide, ⟨_, rfl, ff_X9_117⟩, rfl⟩
theorem fp_X9_117 : tPi RX9 117 2 10 (-2147483648) (2147483647) .int := ⟨by decide, ⟨_, rfl, fq_X9_117⟩, rfl⟩
theorem ff_X9_120 : tFf RX9 120 7 11 := ⟨_, _, _, _, fc_X8, Nat.le_of_ble_eq_true rfl, t_w1 237 rfl rfl⟩
theorem fq_X9_120 : tFp RX9 120 7 11 .int := ⟨_, _, _, _, fc_X8, Nat.le_of_ble_eq_true rfl, t_w1 237 rfl rfl, rfl, rfl⟩
theorem fi_X9_120 : tFi RX9 120 2 11 (-2147483648) (2147483647) := ⟨by decide, ⟨_, rfl, ff_X9_120⟩, rfl⟩
theorem fp_X9_120 : tPi RX9 120 2 11 (-2147483648) (2147483647) .int := ⟨by decide, ⟨_, rfl, fq_X9_120⟩, rfl⟩
theorem ml_X9_123 : Cond.methodLink RX9 123 yX8_tellScreen ∈ tWS := t_w3 125 rfl rfl
theorem ff_X9_127 : tFf RX9 127 0 4 := ⟨_, _, _, _, fc_X0, Nat.le_of_ble_eq_true rfl, t_w1 134 rfl rfl⟩
theorem fq_X9_127 : tFp RX9 127 0 4 .int := ⟨_, _, _, _, fc_X0, Nat.le_of_ble_eq_true rfl, t_w1 134 rfl rfl, rfl, rfl⟩
theorem fi_X9_127 : tFi RX9 127 3 4 (-2147483648) (2147483647) := ⟨by decide, ⟨_, rfl, ff_X9_127⟩, rfl⟩
theorem fp_X9_127 : tPi RX9 127 3 4 (-2147483648) (2147483647) .int := ⟨by decide, ⟨_, rfl, fq_X9_127⟩, rfl⟩
theorem ff_X9_130 : tFf RX9 130 0 1 := ⟨_, _, _, _, fc_X0, Nat.le_of_ble_eq_true rfl, t_w1 120 rfl rfl⟩
theorem fr_X9_130 : tFr RX9 130 3 1 11 := ⟨by decide, ⟨_, rfl, ff_X9_130⟩, rfl⟩
theorem ff_X9_134 : tFf RX9 134 0 7 := ⟨_, _, _, _, fc_X0, Nat.le_of_ble_eq_true rfl, t_w1 145 rfl rfl⟩
theorem fq_X9_134 : tFp RX9 134 0 7 .int := ⟨_, _, _, _, fc_X0, Nat.le_of_ble_eq_true rfl, t_w1 145 rfl rfl, rfl, rfl⟩
theorem fi_X9_134 : tFi RX9 134 3 7 (-2147483648) (2147483647) := ⟨by decide, ⟨_, rfl, ff_X9_134⟩, rfl⟩
theorem fp_X9_134 : tPi RX9 134 3 7 (-2147483648) (2147483647) .int := ⟨by decide, ⟨_, rfl, fq_X9_134⟩, rfl⟩
theorem ff_X9_137 : tFf RX9 137 0 8 := ⟨_, _, _, _, fc_X0, Nat.le_of_ble_eq_true rfl, t_w1 149 rfl rfl⟩
theorem fq_X9_137 : tFp RX9 137 0 8 .int := ⟨_, _, _, _, fc_X0, Nat.le_of_ble_eq_true rfl, t_w1 149 rfl rfl, rfl, rfl⟩
theorem fi_X9_137 : tFi RX9 137 3 8 (-2147483648) (2147483647) := ⟨by decide, ⟨_, rfl, ff_X9_137⟩, rfl⟩
theorem fp_X9_137 : tPi RX9 137 3 8 (-2147483648) (2147483647) .int := ⟨by decide, ⟨_, rfl, fq_X9_137⟩, rfl⟩
theorem ff_X9_140 : tFf RX9 140 0 9 := ⟨_, _, _, _, fc_X0, Nat.le_of_ble_eq_true rfl, t_w1 153 rfl rfl⟩
theorem fq_X9_140 : tFp RX9 140 0 9 .int := ⟨_, _, _, _, fc_X0, Nat.le_of_ble_eq_true rfl, t_w1 153 rfl rfl, rfl, rfl⟩
theorem fi_X9_140 : tFi RX9 140 3 9 (-2147483648) (2147483647) := ⟨by decide, ⟨_, rfl, ff_X9_140⟩, rfl⟩
theorem fp_X9_140 : tPi RX9 140 3 9 (-2147483648) (2147483647) .int := ⟨by decide, ⟨_, rfl, fq_X9_140⟩, rfl⟩
theorem ff_X9_143 : tFf RX9 143 7 5 := ⟨_, _, _, _, fc_X8, Nat.le_of_ble_eq_true rfl, t_w1 217 rfl rfl⟩
theorem fq_X9_143 : tFp RX9 143 7 5 .int := ⟨_, _, _, _, fc_X8, Nat.le_of_ble_eq_true rfl, t_w1 217 rfl rfl, rfl, rfl⟩
theorem fi_X9_143 : tFi RX9 143 2 5 (-2147483648) (2147483647) := ⟨by decide, ⟨_, rfl, ff_X9_143⟩, rfl⟩
theorem fp_X9_143 : tPi RX9 143 2 5 (-2147483648) (2147483647) .int := ⟨by decide, ⟨_, rfl, fq_X9_143⟩, rfl⟩
theorem ml_X9_146 : Cond.methodLink RX9 146 yX9_bitOf ∈ tWS := t_w3 133 rfl rfl
theorem ff_X9_149 : tFf RX9 149 7 6 := ⟨_, _, _, _, fc_X8, Nat.le_of_ble_eq_true rfl, t_w1 219 rfl rfl⟩
theorem fq_X9_149 : tFp RX9 149 7 6 .int := ⟨_, _, _, _, fc_X8, Nat.le_of_ble_eq_true rfl, t_w1 219 rfl rfl, rfl, rfl⟩
theorem fi_X9_149 : tFi RX9 149 2 6 (-2147483648) (2147483647) := ⟨by decide, ⟨_, rfl, ff_X9_149⟩, rfl⟩
theorem fp_X9_149 : tPi RX9 149 2 6 (-2147483648) (2147483647) .int := ⟨by decide, ⟨_, rfl, fq_X9_149⟩, rfl⟩
theorem ff_X9_152 : tFf RX9 152 0 11 := ⟨_, _, _, _, fc_X0, Nat.le_of_ble_eq_true rfl, t_w1 162 rfl rfl⟩
theorem fq_X9_152 : tFp RX9 152 0 11 .int := ⟨_, _, _, _, fc_X0, Nat.le_of_ble_eq_true rfl, t_w1 162 rfl rfl, rfl, rfl⟩
theorem fi_X9_152 : tFi RX9 152 3 11 (-2147483648) (2147483647) := ⟨by decide, ⟨_, rfl, ff_X9_152⟩, rfl⟩
theorem fp_X9_152 : tPi RX9 152 3 11 (-2147483648) (2147483647) .int := ⟨by decide, ⟨_, rfl, fq_X9_152⟩, rfl⟩
theorem ff_X9_155 : tFf RX9 155 7 7 := ⟨_, _, _, _, fc_X8, Nat.le_of_ble_eq_true rfl, t_w1 222 rfl rfl⟩
theorem fq_X9_155 : tFp RX9 155 7 7 .int := ⟨_, _, _, _, fc_X8, Nat.le_of_ble_eq_true rfl, t_w1 222 rfl rfl, rfl, rfl⟩
theorem fi_X9_155 : tFi RX9 155 2 7 (-2147483648) (2147483647) := ⟨by decide, ⟨_, rfl, ff_X9_155⟩, rfl⟩
theorem fp_X9_155 : tPi RX9 155 2 7 (-2147483648) (2147483647) .int := ⟨by decide, ⟨_, rfl, fq_X9_155⟩, rfl⟩
theorem ff_X9_158 : tFf RX9 158 0 6 := ⟨_, _, _, _, fc_X0, Nat.le_of_ble_eq_true rfl, t_w1 142 rfl rfl⟩
theorem fq_X9_158 : tFp RX9 158 0 6 .int := ⟨_, _, _, _, fc_X0, Nat.le_of_ble_eq_true rfl, t_w1 142 rfl rfl, rfl, rfl⟩
theorem fi_X9_158 : tFi RX9 158 3 6 (-2147483648) (2147483647) := ⟨by decide, ⟨_, rfl, ff_X9_158⟩, rfl⟩
theorem fp_X9_158 : tPi RX9 158 3 6 (-2147483648) (2147483647) .int := ⟨by decide, ⟨_, rfl, fq_X9_158⟩, rfl⟩
theorem ff_X9_161 : tFf RX9 161 0 2 := ⟨_, _, _, _, fc_X0, Nat.le_of_ble_eq_true rfl, t_w1 124 rfl rfl⟩
theorem fr_X9_161 : tFr RX9 161 3 2 12 := ⟨by decide, ⟨_, rfl, ff_X9_161⟩, rfl⟩
theorem ff_X9_164 : tFf RX9 164 8 8 := ⟨_, _, _, _, fc_X9, Nat.le_of_ble_eq_true rfl, t_w2 187 rfl rfl⟩
theorem fq_X9_164 : tFp RX9 164 8 8 .int := ⟨_, _, _, _, fc_X9, Nat.le_of_ble_eq_true rfl, t_w2 187 rfl rfl, rfl, rfl⟩
theorem fi_X9_164 : tFi RX9 164 1 8 (0) (120) := ⟨by decide, ⟨_, rfl, ff_X9_164⟩, rfl⟩
theorem fp_X9_164 : tPi RX9 164 1 8 (0) (120) .int := ⟨by decide, ⟨_, rfl, fq_X9_164⟩, rfl⟩
theorem ml_X9_167 : Cond.methodLink RX9 167 yX5_faultOf ∈ tWS := t_w3 148 rfl rfl
theorem ff_X9_171 : tFf RX9 171 4 5 := ⟨_, _, _, _, fc_X5, Nat.le_of_ble_eq_true rfl, t_w2 110 rfl rfl⟩
theorem fq_X9_171 : tFp RX9 171 4 5 .int := ⟨_, _, _, _, fc_X5, Nat.le_of_ble_eq_true rfl, t_w2 110 rfl rfl, rfl, rfl⟩
theorem fi_X9_171 : tFi RX9 171 7 5 (0) (24) := ⟨by decide, ⟨_, rfl, ff_X9_171⟩, rfl⟩
theorem fp_X9_171 : tPi RX9 171 7 5 (0) (24) .int := ⟨by decide, ⟨_, rfl, fq_X9_171⟩, rfl⟩
theorem fiw_X9_171 : tFi RX9 171 22 5 (0) (24) := ⟨by decide, ⟨_, rfl, ff_X9_171⟩, rfl⟩
theorem fpw_X9_171 : tPi RX9 171 22 5 (0) (24) .int := ⟨by decide, ⟨_, rfl, fq_X9_171⟩, rfl⟩
theorem ff_X9_174 : tFf RX9 174 4 1 := ⟨_, _, _, _, fc_X5, Nat.le_of_ble_eq_true rfl, t_w2 103 rfl rfl⟩
theorem fr_X9_174 : tFr RX9 174 7 1 16 := ⟨by decide, ⟨_, rfl, ff_X9_174⟩, rfl⟩
theorem frw_X9_174 : tFr RX9 174 22 1 16 := ⟨by decide, ⟨_, rfl, ff_X9_174⟩, rfl⟩
theorem ff_X9_177 : tFf RX9 177 4 4 := ⟨_, _, _, _, fc_X5, Nat.le_of_ble_eq_true rfl, t_w2 108 rfl rfl⟩
theorem fr_X9_177 : tFr RX9 177 7 4 17 := ⟨by decide, ⟨_, rfl, ff_X9_177⟩, rfl⟩
theorem frw_X9_177 : tFr RX9 177 22 4 17 := ⟨by decide, ⟨_, rfl, ff_X9_177⟩, rfl⟩
theorem ff_X9_180 : tFf RX9 180 4 0 := ⟨_, _, _, _, fc_X5, Nat.le_of_ble_eq_true rfl, t_w2 101 rfl rfl⟩
theorem fr_X9_180 : tFr RX9 180 7 0 15 := ⟨by decide, ⟨_, rfl, ff_X9_180⟩, rfl⟩
theorem frw_X9_180 : tFr RX9 180 22 0 15 := ⟨by decide, ⟨_, rfl, ff_X9_180⟩, rfl⟩
theorem ff_X9_183 : tFf RX9 183 4 2 := ⟨_, _, _, _, fc_X5, Nat.le_of_ble_eq_true rfl, t_w2 105 rfl rfl⟩
theorem fr_X9_183 : tFr RX9 183 7 2 15 := ⟨by decide, ⟨_, rfl, ff_X9_183⟩, rfl⟩
theorem frw_X9_183 : tFr RX9 183 22 2 15 := ⟨by decide, ⟨_, rfl, ff_X9_183⟩, rfl⟩
theorem ml_X9_186 : Cond.methodLink RX9 186 yX4_print ∈ tWS := t_w4 30 rfl rfl
theorem ff_X9_190 : tFf RX9 190 3 1 := ⟨_, _, _, _, fc_X4, Nat.le_of_ble_eq_true rfl, t_w2 148 rfl rfl⟩
theorem fq_X9_190 : tFp RX9 190 3 1 .int := ⟨_, _, _, _, fc_X4, Nat.le_of_ble_eq_true rfl, t_w2 148 rfl rfl, rfl, rfl⟩
theorem fi_X9_190 : tFi RX9 190 8 1 (0) (960) := ⟨by decide, ⟨_, rfl, ff_X9_190⟩, rfl⟩
theorem fp_X9_190 : tPi RX9 190 8 1 (0) (960) .int := ⟨by decide, ⟨_, rfl, fq_X9_190⟩, rfl⟩
theorem ff_X9_193 : tFf RX9 193 3 0 := ⟨_, _, _, _, fc_X4, Nat.le_of_ble_eq_true rfl, t_w2 146 rfl rfl⟩
theorem fr_X9_193 : tFr RX9 193 8 0 19 := ⟨by decide, ⟨_, rfl, ff_X9_193⟩, rfl⟩
theorem ml_X9_196 : Cond.methodLink RX9 196 yX3_layOut ∈ tWS := t_w4 60 rfl rfl
theorem ff_X9_199 : tFf RX9 199 2 1 := ⟨_, _, _, _, fc_X3, Nat.le_of_ble_eq_true rfl, t_w2 36 rfl rfl⟩
theorem fq_X9_199 : tFp RX9 199 2 1 .int := ⟨_, _, _, _, fc_X3, Nat.le_of_ble_eq_true rfl, t_w2 36 rfl rfl, rfl, rfl⟩
theorem fi_X9_199 : tFi RX9 199 5 1 (-2147483648) (2147483647) := ⟨by decide, ⟨_, rfl, ff_X9_199⟩, rfl⟩
theorem fp_X9_199 : tPi RX9 199 5 1 (-2147483648) (2147483647) .int := ⟨by decide, ⟨_, rfl, fq_X9_199⟩, rfl⟩
theorem ff_X9_202 : tFf RX9 202 8 9 := ⟨_, _, _, _, fc_X9, Nat.le_of_ble_eq_true rfl, t_w2 188 rfl rfl⟩
theorem fq_X9_202 : tFp RX9 202 8 9 .int := ⟨_, _, _, _, fc_X9, Nat.le_of_ble_eq_true rfl, t_w2 188 rfl rfl, rfl, rfl⟩
theorem fi_X9_202 : tFi RX9 202 1 9 (-2147483648) (2147483647) := ⟨by decide, ⟨_, rfl, ff_X9_202⟩, rfl⟩
theorem fp_X9_202 : tPi RX9 202 1 9 (-2147483648) (2147483647) .int := ⟨by decide, ⟨_, rfl, fq_X9_202⟩, rfl⟩
theorem ff_X9_205 : tFf RX9 205 2 2 := ⟨_, _, _, _, fc_X3, Nat.le_of_ble_eq_true rfl, t_w2 40 rfl rfl⟩
theorem fq_X9_205 : tFp RX9 205 2 2 .int := ⟨_, _, _, _, fc_X3, Nat.le_of_ble_eq_true rfl, t_w2 40 rfl rfl, rfl, rfl⟩
theorem fi_X9_205 : tFi RX9 205 5 2 (-2147483648) (2147483647) := ⟨by decide, ⟨_, rfl, ff_X9_205⟩, rfl⟩
theorem fp_X9_205 : tPi RX9 205 5 2 (-2147483648) (2147483647) .int := ⟨by decide, ⟨_, rfl, fq_X9_205⟩, rfl⟩
theorem ff_X9_208 : tFf RX9 208 8 10 := ⟨_, _, _, _, fc_X9, Nat.le_of_ble_eq_true rfl, t_w2 189 rfl rfl⟩
theorem fq_X9_208 : tFp RX9 208 8 10 .int := ⟨_, _, _, _, fc_X9, Nat.le_of_ble_eq_true rfl, t_w2 189 rfl rfl, rfl, rfl⟩
theorem fi_X9_208 : tFi RX9 208 1 10 (-2147483648) (2147483647) := ⟨by decide, ⟨_, rfl, ff_X9_208⟩, rfl⟩
theorem fp_X9_208 : tPi RX9 208 1 10 (-2147483648) (2147483647) .int := ⟨by decide, ⟨_, rfl, fq_X9_208⟩, rfl⟩
theorem ff_X9_211 : tFf RX9 211 0 3 := ⟨_, _, _, _, fc_X0, Nat.le_of_ble_eq_true rfl, t_w1 128 rfl rfl⟩
theorem fr_X9_211 : tFr RX9 211 3 3 4 := ⟨by decide, ⟨_, rfl, ff_X9_211⟩, rfl⟩
theorem ff_X9_215 : tFf RX9 215 1 5 := ⟨_, _, _, _, fc_X2, Nat.le_of_ble_eq_true rfl, t_w1 63 rfl rfl⟩
theorem fq_X9_215 : tFp RX9 215 1 5 .int := ⟨_, _, _, _, fc_X2, Nat.le_of_ble_eq_true rfl, t_w1 63 rfl rfl, rfl, rfl⟩
theorem fi_X9_215 : tFi RX9 215 4 5 (-2147483648) (2147483647) := ⟨by decide, ⟨_, rfl, ff_X9_215⟩, rfl⟩
theorem fp_X9_215 : tPi RX9 215 4 5 (-2147483648) (2147483647) .int := ⟨by decide, ⟨_, rfl, fq_X9_215⟩, rfl⟩
theorem ff_X9_220 : tFf RX9 220 1 6 := ⟨_, _, _, _, fc_X2, Nat.le_of_ble_eq_true rfl, t_w1 66 rfl rfl⟩
theorem fq_X9_220 : tFp RX9 220 1 6 .int := ⟨_, _, _, _, fc_X2, Nat.le_of_ble_eq_true rfl, t_w1 66 rfl rfl, rfl, rfl⟩
theorem fi_X9_220 : tFi RX9 220 4 6 (-2147483648) (2147483647) := ⟨by decide, ⟨_, rfl, ff_X9_220⟩, rfl⟩
theorem fp_X9_220 : tPi RX9 220 4 6 (-2147483648) (2147483647) .int := ⟨by decide, ⟨_, rfl, fq_X9_220⟩, rfl⟩
theorem ff_X9_223 : tFf RX9 223 1 0 := ⟨_, _, _, _, fc_X2, Nat.le_of_ble_eq_true rfl, t_w1 48 rfl rfl⟩
theorem fq_X9_223 : tFp RX9 223 1 0 .boolean := ⟨_, _, _, _, fc_X2, Nat.le_of_ble_eq_true rfl, t_w1 48 rfl rfl, rfl, rfl⟩
theorem fi_X9_223 : tFi RX9 223 4 0 (0) (1) := ⟨by decide, ⟨_, rfl, ff_X9_223⟩, rfl⟩
theorem fp_X9_223 : tPi RX9 223 4 0 (0) (1) .boolean := ⟨by decide, ⟨_, rfl, fq_X9_223⟩, rfl⟩
theorem ml_X9_227 : Cond.methodLink RX9 227 yX8_leftInTop ∈ tWS := t_w4 234 rfl rfl
theorem ml_X9_230 : Cond.methodLink RX9 230 yX8_upperInTop ∈ tWS := t_w4 238 rfl rfl
theorem ff_X9_233 : tFf RX9 233 1 7 := ⟨_, _, _, _, fc_X2, Nat.le_of_ble_eq_true rfl, t_w1 72 rfl rfl⟩
theorem fq_X9_233 : tFp RX9 233 1 7 .int := ⟨_, _, _, _, fc_X2, Nat.le_of_ble_eq_true rfl, t_w1 72 rfl rfl, rfl, rfl⟩
theorem fi_X9_233 : tFi RX9 233 4 7 (-2147483648) (2147483647) := ⟨by decide, ⟨_, rfl, ff_X9_233⟩, rfl⟩
theorem fp_X9_233 : tPi RX9 233 4 7 (-2147483648) (2147483647) .int := ⟨by decide, ⟨_, rfl, fq_X9_233⟩, rfl⟩
theorem ff_X9_236 : tFf RX9 236 1 8 := ⟨_, _, _, _, fc_X2, Nat.le_of_ble_eq_true rfl, t_w1 77 rfl rfl⟩
theorem fq_X9_236 : tFp RX9 236 1 8 .int := ⟨_, _, _, _, fc_X2, Nat.le_of_ble_eq_true rfl, t_w1 77 rfl rfl, rfl, rfl⟩
theorem fi_X9_236 : tFi RX9 236 4 8 (-2147483648) (2147483647) := ⟨by decide, ⟨_, rfl, ff_X9_236⟩, rfl⟩
theorem fp_X9_236 : tPi RX9 236 4 8 (-2147483648) (2147483647) .int := ⟨by decide, ⟨_, rfl, fq_X9_236⟩, rfl⟩
theorem ff_X9_239 : tFf RX9 239 1 9 := ⟨_, _, _, _, fc_X2, Nat.le_of_ble_eq_true rfl, t_w1 80 rfl rfl⟩
theorem fq_X9_239 : tFp RX9 239 1 9 .int := ⟨_, _, _, _, fc_X2, Nat.le_of_ble_eq_true rfl, t_w1 80 rfl rfl, rfl, rfl⟩
theorem fi_X9_239 : tFi RX9 239 4 9 (-2147483648) (2147483647) := ⟨by decide, ⟨_, rfl, ff_X9_239⟩, rfl⟩
theorem fp_X9_239 : tPi RX9 239 4 9 (-2147483648) (2147483647) .int := ⟨by decide, ⟨_, rfl, fq_X9_239⟩, rfl⟩
theorem ff_X9_242 : tFf RX9 242 1 10 := ⟨_, _, _, _, fc_X2, Nat.le_of_ble_eq_true rfl, t_w1 84 rfl rfl⟩
theorem fq_X9_242 : tFp RX9 242 1 10 .int := ⟨_, _, _, _, fc_X2, Nat.le_of_ble_eq_true rfl, t_w1 84 rfl rfl, rfl, rfl⟩
theorem fi_X9_242 : tFi RX9 242 4 10 (-2147483648) (2147483647) := ⟨by decide, ⟨_, rfl, ff_X9_242⟩, rfl⟩
theorem fp_X9_242 : tPi RX9 242 4 10 (-2147483648) (2147483647) .int := ⟨by decide, ⟨_, rfl, fq_X9_242⟩, rfl⟩
theorem ml_X9_245 : Cond.methodLink RX9 245 yX3_baseAsLaid ∈ tWS := t_w5 2 rfl rfl
theorem ff_X9_249 : tFf RX9 249 1 1 := ⟨_, _, _, _, fc_X2, Nat.le_of_ble_eq_true rfl, t_w1 52 rfl rfl⟩
theorem fq_X9_249 : tFp RX9 249 1 1 .int := ⟨_, _, _, _, fc_X2, Nat.le_of_ble_eq_true rfl, t_w1 52 rfl rfl, rfl, rfl⟩
theorem fi_X9_249 : tFi RX9 249 4 1 (-2147483648) (2147483647) := ⟨by decide, ⟨_, rfl, ff_X9_249⟩, rfl⟩
theorem fp_X9_249 : tPi RX9 249 4 1 (-2147483648) (2147483647) .int := ⟨by decide, ⟨_, rfl, fq_X9_249⟩, rfl⟩
theorem ff_X9_252 : tFf RX9 252 1 2 := ⟨_, _, _, _, fc_X2, Nat.le_of_ble_eq_true rfl, t_w1 55 rfl rfl⟩
theorem fq_X9_252 : tFp RX9 252 1 2 .int := ⟨_, _, _, _, fc_X2, Nat.le_of_ble_eq_true rfl, t_w1 55 rfl rfl, rfl, rfl⟩
theorem fi_X9_252 : tFi RX9 252 4 2 (-2147483648) (2147483647) := ⟨by decide, ⟨_, rfl, ff_X9_252⟩, rfl⟩
theorem fp_X9_252 : tPi RX9 252 4 2 (-2147483648) (2147483647) .int := ⟨by decide, ⟨_, rfl, fq_X9_252⟩, rfl⟩
theorem ff_X9_255 : tFf RX9 255 1 3 := ⟨_, _, _, _, fc_X2, Nat.le_of_ble_eq_true rfl, t_w1 58 rfl rfl⟩
theorem fq_X9_255 : tFp RX9 255 1 3 .int := ⟨_, _, _, _, fc_X2, Nat.le_of_ble_eq_true rfl, t_w1 58 rfl rfl, rfl, rfl⟩
theorem fi_X9_255 : tFi RX9 255 4 3 (-2147483648) (2147483647) := ⟨by decide, ⟨_, rfl, ff_X9_255⟩, rfl⟩
theorem fp_X9_255 : tPi RX9 255 4 3 (-2147483648) (2147483647) .int := ⟨by decide, ⟨_, rfl, fq_X9_255⟩, rfl⟩
theorem ff_X9_258 : tFf RX9 258 1 4 := ⟨_, _, _, _, fc_X2, Nat.le_of_ble_eq_true rfl, t_w1 61 rfl rfl⟩
theorem fq_X9_258 : tFp RX9 258 1 4 .int := ⟨_, _, _, _, fc_X2, Nat.le_of_ble_eq_true rfl, t_w1 61 rfl rfl, rfl, rfl⟩
theorem fi_X9_258 : tFi RX9 258 4 4 (-2147483648) (2147483647) := ⟨by decide, ⟨_, rfl, ff_X9_258⟩, rfl⟩
theorem fp_X9_258 : tPi RX9 258 4 4 (-2147483648) (2147483647) .int := ⟨by decide, ⟨_, rfl, fq_X9_258⟩, rfl⟩
theorem ml_X9_261 : Cond.methodLink RX9 261 yX3_ask ∈ tWS := t_w5 14 rfl rfl
theorem ml_X9_265 : Cond.methodLink RX9 265 yX8_whoIsAtPoint ∈ tWS := t_w5 22 rfl rfl
theorem ff_X9_268 : tFf RX9 268 7 9 := ⟨_, _, _, _, fc_X8, Nat.le_of_ble_eq_true rfl, t_w1 231 rfl rfl⟩
theorem fq_X9_268 : tFp RX9 268 7 9 .int := ⟨_, _, _, _, fc_X8, Nat.le_of_ble_eq_true rfl, t_w1 231 rfl rfl, rfl, rfl⟩
theorem fi_X9_268 : tFi RX9 268 2 9 (-2147483648) (2147483647) := ⟨by decide, ⟨_, rfl, ff_X9_268⟩, rfl⟩
theorem fp_X9_268 : tPi RX9 268 2 9 (-2147483648) (2147483647) .int := ⟨by decide, ⟨_, rfl, fq_X9_268⟩, rfl⟩
theorem ff_X9_271 : tFf RX9 271 7 4 := ⟨_, _, _, _, fc_X8, Nat.le_of_ble_eq_true rfl, t_w1 214 rfl rfl⟩
theorem fq_X9_271 : tFp RX9 271 7 4 .int := ⟨_, _, _, _, fc_X8, Nat.le_of_ble_eq_true rfl, t_w1 214 rfl rfl, rfl, rfl⟩
theorem fi_X9_271 : tFi RX9 271 2 4 (-2147483648) (2147483647) := ⟨by decide, ⟨_, rfl, ff_X9_271⟩, rfl⟩
theorem fp_X9_271 : tPi RX9 271 2 4 (-2147483648) (2147483647) .int := ⟨by decide, ⟨_, rfl, fq_X9_271⟩, rfl⟩
theorem ml_X9_274 : Cond.methodLink RX9 274 yX8_overBits ∈ tWS := t_w5 34 rfl rfl
theorem ff_X9_278 : tFf RX9 278 7 3 := ⟨_, _, _, _, fc_X8, Nat.le_of_ble_eq_true rfl, t_w1 212 rfl rfl⟩
theorem fq_X9_278 : tFp RX9 278 7 3 .int := ⟨_, _, _, _, fc_X8, Nat.le_of_ble_eq_true rfl, t_w1 212 rfl rfl, rfl, rfl⟩
theorem fi_X9_278 : tFi RX9 278 2 3 (0) (8) := ⟨by decide, ⟨_, rfl, ff_X9_278⟩, rfl⟩
theorem fp_X9_278 : tPi RX9 278 2 3 (0) (8) .int := ⟨by decide, ⟨_, rfl, fq_X9_278⟩, rfl⟩
theorem ml_X9_281 : Cond.methodLink RX9 281 yX7_workDone ∈ tWS := t_w5 38 rfl rfl
theorem ff_X9_284 : tFf RX9 284 2 5 := ⟨_, _, _, _, fc_X3, Nat.le_of_ble_eq_true rfl, t_w2 45 rfl rfl⟩
theorem fq_X9_284 : tFp RX9 284 2 5 .int := ⟨_, _, _, _, fc_X3, Nat.le_of_ble_eq_true rfl, t_w2 45 rfl rfl, rfl, rfl⟩
theorem fi_X9_284 : tFi RX9 284 5 5 (-2147483648) (2147483647) := ⟨by decide, ⟨_, rfl, ff_X9_284⟩, rfl⟩
theorem fp_X9_284 : tPi RX9 284 5 5 (-2147483648) (2147483647) .int := ⟨by decide, ⟨_, rfl, fq_X9_284⟩, rfl⟩
theorem ml_X9_287 : Cond.methodLink RX9 287 yX7_isTired ∈ tWS := t_w5 46 rfl rfl
theorem ml_X9_291 : Cond.methodLink RX9 291 yX7_agreesAnew ∈ tWS := t_w5 52 rfl rfl
theorem ml_X9_294 : Cond.methodLink RX9 294 yX7_narrowestScreen ∈ tWS := t_w5 91 rfl rfl
theorem ml_X9_297 : Cond.methodLink RX9 297 yX7_highOfTop ∈ tWS := t_w5 106 rfl rfl
theorem ml_X9_300 : Cond.methodLink RX9 300 yX7_reachedFrom ∈ tWS := t_w5 114 rfl rfl
theorem ml_X9_303 : Cond.methodLink RX9 303 yX7_widestShare ∈ tWS := t_w5 123 rfl rfl
theorem ml_X9_306 : Cond.methodLink RX9 306 yX7_fittingNumbers ∈ tWS := t_w5 136 rfl rfl
theorem ml_X9_309 : Cond.methodLink RX9 309 yX8_addPlanRow ∈ tWS := t_w5 145 rfl rfl
theorem ml_X9_312 : Cond.methodLink RX9 312 yX7_visitsSaved ∈ tWS := t_w5 153 rfl rfl
theorem ml_X9_317 : Cond.methodLink RX9 317 yX7_gatherBlocks ∈ tWS := t_w5 162 rfl rfl
theorem ml_X9_320 : Cond.methodLink RX9 320 yX7_waysWithoutOver ∈ tWS := t_w5 166 rfl rfl
theorem ml_X9_324 : Cond.methodLink RX9 324 yX9_power ∈ tWS := t_w5 174 rfl rfl
theorem ml_X9_328 : Cond.methodLink RX9 328 yX9_partOfFraction ∈ tWS := t_w5 175 rfl rfl
theorem ml_X9_332 : Cond.methodLink RX9 332 yX7_overOfDraws ∈ tWS := t_w5 185 rfl rfl
theorem ff_X9_335 : tFf RX9 335 7 12 := ⟨_, _, _, _, fc_X8, Nat.le_of_ble_eq_true rfl, t_w2 0 rfl rfl⟩
theorem fq_X9_335 : tFp RX9 335 7 12 .int := ⟨_, _, _, _, fc_X8, Nat.le_of_ble_eq_true rfl, t_w2 0 rfl rfl, rfl, rfl⟩
theorem fi_X9_335 : tFi RX9 335 2 12 (-2147483648) (2147483647) := ⟨by decide, ⟨_, rfl, ff_X9_335⟩, rfl⟩
theorem fp_X9_335 : tPi RX9 335 2 12 (-2147483648) (2147483647) .int := ⟨by decide, ⟨_, rfl, fq_X9_335⟩, rfl⟩
theorem ml_X9_338 : Cond.methodLink RX9 338 yX8_countBoxes ∈ tWS := t_w5 206 rfl rfl
theorem ml_X9_341 : Cond.methodLink RX9 341 yX1_isKind ∈ tWS := t_w5 211 rfl rfl
theorem ml_X9_344 : Cond.methodLink RX9 344 yX1_passesFor ∈ tWS := t_w5 212 rfl rfl
theorem ml_X9_347 : Cond.methodLink RX9 347 yX9_isTape ∈ tWS := t_w5 219 rfl rfl
theorem ff_X9_350 : tFf RX9 350 5 1 := ⟨_, _, _, _, fc_X6, Nat.le_of_ble_eq_true rfl, t_w2 168 rfl rfl⟩
theorem fq_X9_350 : tFp RX9 350 5 1 .int := ⟨_, _, _, _, fc_X6, Nat.le_of_ble_eq_true rfl, t_w2 168 rfl rfl, rfl, rfl⟩
theorem fi_X9_350 : tFi RX9 350 9 1 (-2147483648) (2147483647) := ⟨by decide, ⟨_, rfl, ff_X9_350⟩, rfl⟩
theorem fp_X9_350 : tPi RX9 350 9 1 (-2147483648) (2147483647) .int := ⟨by decide, ⟨_, rfl, fq_X9_350⟩, rfl⟩
theorem ml_X9_353 : Cond.methodLink RX9 353 yX9_firstOtherwise ∈ tWS := t_w5 222 rfl rfl
theorem ml_X9_357 : Cond.methodLink RX9 357 yX6_clearTo ∈ tWS := t_w5 230 rfl rfl
theorem ml_X9_360 : Cond.methodLink RX9 360 yX6_hasPlace ∈ tWS := t_w6 1 rfl rfl
theorem ff_X9_363 : tFf RX9 363 5 0 := ⟨_, _, _, _, fc_X6, Nat.le_of_ble_eq_true rfl, t_w2 166 rfl rfl⟩
theorem fr_X9_363 : tFr RX9 363 9 0 21 := ⟨by decide, ⟨_, rfl, ff_X9_363⟩, rfl⟩
theorem ml_X9_367 : Cond.methodLink RX9 367 yX6_cutToSort ∈ tWS := t_w6 5 rfl rfl
theorem ml_X9_371 : Cond.methodLink RX9 371 yX6_hasRun ∈ tWS := t_w6 17 rfl rfl
theorem ml_X9_380 : Cond.methodLink RX9 380 yX8_copyFrom ∈ tWS := t_w6 26 rfl rfl
theorem ff_X9_383 : tFf RX9 383 8 11 := ⟨_, _, _, _, fc_X9, Nat.le_of_ble_eq_true rfl, t_w2 190 rfl rfl⟩
theorem fq_X9_383 : tFp RX9 383 8 11 .boolean := ⟨_, _, _, _, fc_X9, Nat.le_of_ble_eq_true rfl, t_w2 190 rfl rfl, rfl, rfl⟩
theorem fi_X9_383 : tFi RX9 383 1 11 (0) (1) := ⟨by decide, ⟨_, rfl, ff_X9_383⟩, rfl⟩
theorem fp_X9_383 : tPi RX9 383 1 11 (0) (1) .boolean := ⟨by decide, ⟨_, rfl, fq_X9_383⟩, rfl⟩
theorem ff_X9_386 : tFf RX9 386 5 2 := ⟨_, _, _, _, fc_X6, Nat.le_of_ble_eq_true rfl, t_w2 170 rfl rfl⟩
theorem fq_X9_386 : tFp RX9 386 5 2 .int := ⟨_, _, _, _, fc_X6, Nat.le_of_ble_eq_true rfl, t_w2 170 rfl rfl, rfl, rfl⟩
theorem fi_X9_386 : tFi RX9 386 9 2 (0) (60) := ⟨by decide, ⟨_, rfl, ff_X9_386⟩, rfl⟩
theorem fp_X9_386 : tPi RX9 386 9 2 (0) (60) .int := ⟨by decide, ⟨_, rfl, fq_X9_386⟩, rfl⟩
theorem ml_X9_387 : Cond.methodLink RX9 387 yX9_commonDivisor ∈ tWS := t_w5 178 rfl rfl
theorem ff_X0_9 : tFf RX0 9 0 1 := ⟨_, _, _, _, fc_X0, Nat.le_of_ble_eq_true rfl, t_w1 117 rfl rfl⟩
theorem fr_X0_9 : tFr RX0 9 3 1 11 := ⟨by decide, ⟨_, rfl, ff_X0_9⟩, rfl⟩
theorem ff_X0_15 : tFf RX0 15 0 2 := ⟨_, _, _, _, fc_X0, Nat.le_of_ble_eq_true rfl, t_w1 122 rfl rfl⟩
theorem fr_X0_15 : tFr RX0 15 3 2 12 := ⟨by decide, ⟨_, rfl, ff_X0_15⟩, rfl⟩
theorem ff_X0_21 : tFf RX0 21 0 3 := ⟨_, _, _, _, fc_X0, Nat.le_of_ble_eq_true rfl, t_w1 125 rfl rfl⟩
theorem fr_X0_21 : tFr RX0 21 3 3 4 := ⟨by decide, ⟨_, rfl, ff_X0_21⟩, rfl⟩
theorem ff_X0_25 : tFf RX0 25 0 0 := ⟨_, _, _, _, fc_X0, Nat.le_of_ble_eq_true rfl, t_w1 114 rfl rfl⟩
theorem fi_X0_25 : tFi RX0 25 3 0 (0) (23) := ⟨by decide, ⟨_, rfl, ff_X0_25⟩, rfl⟩
theorem ff_X0_29 : tFf RX0 29 0 4 := ⟨_, _, _, _, fc_X0, Nat.le_of_ble_eq_true rfl, t_w1 130 rfl rfl⟩
theorem fq_X0_29 : tFp RX0 29 0 4 .int := ⟨_, _, _, _, fc_X0, Nat.le_of_ble_eq_true rfl, t_w1 130 rfl rfl, rfl, rfl⟩
theorem fi_X0_29 : tFi RX0 29 3 4 (-2147483648) (2147483647) := ⟨by decide, ⟨_, rfl, ff_X0_29⟩, rfl⟩
theorem fp_X0_29 : tPi RX0 29 3 4 (-2147483648) (2147483647) .int := ⟨by decide, ⟨_, rfl, fq_X0_29⟩, rfl⟩
theorem ff_X0_32 : tFf RX0 32 0 5 := ⟨_, _, _, _, fc_X0, Nat.le_of_ble_eq_true rfl, t_w1 136 rfl rfl⟩
theorem fq_X0_32 : tFp RX0 32 0 5 .int := ⟨_, _, _, _, fc_X0, Nat.le_of_ble_eq_true rfl, t_w1 136 rfl rfl, rfl, rfl⟩
theorem fi_X0_32 : tFi RX0 32 3 5 (-2147483648) (2147483647) := ⟨by decide, ⟨_, rfl, ff_X0_32⟩, rfl⟩
theorem fp_X0_32 : tPi RX0 32 3 5 (-2147483648) (2147483647) .int := ⟨by decide, ⟨_, rfl, fq_X0_32⟩, rfl⟩
theorem ff_X0_35 : tFf RX0 35 0 6 := ⟨_, _, _, _, fc_X0, Nat.le_of_ble_eq_true rfl, t_w1 139 rfl rfl⟩
theorem fq_X0_35 : tFp RX0 35 0 6 .int := ⟨_, _, _, _, fc_X0, Nat.le_of_ble_eq_true rfl, t_w1 139 rfl rfl, rfl, rfl⟩
theorem fi_X0_35 : tFi RX0 35 3 6 (-2147483648) (2147483647) := ⟨by decide, ⟨_, rfl, ff_X0_35⟩, rfl⟩
theorem fp_X0_35 : tPi RX0 35 3 6 (-2147483648) (2147483647) .int := ⟨by decide, ⟨_, rfl, fq_X0_35⟩, rfl⟩
theorem ff_X0_38 : tFf RX0 38 0 7 := ⟨_, _, _, _, fc_X0, Nat.le_of_ble_eq_true rfl, t_w1 143 rfl rfl⟩
theorem fq_X0_38 : tFp RX0 38 0 7 .int := ⟨_, _, _, _, fc_X0, Nat.le_of_ble_eq_true rfl, t_w1 143 rfl rfl, rfl, rfl⟩
theorem fi_X0_38 : tFi RX0 38 3 7 (-2147483648) (2147483647) := ⟨by decide, ⟨_, rfl, ff_X0_38⟩, rfl⟩
theorem fp_X0_38 : tPi RX0 38 3 7 (-2147483648) (2147483647) .int := ⟨by decide, ⟨_, rfl, fq_X0_38⟩, rfl⟩
theorem ff_X0_41 : tFf RX0 41 0 8 := ⟨_, _, _, _, fc_X0, Nat.le_of_ble_eq_true rfl, t_w1 148 rfl rfl⟩
theorem fq_X0_41 : tFp RX0 41 0 8 .int := ⟨_, _, _, _, fc_X0, Nat.le_of_ble_eq_true rfl, t_w1 148 rfl rfl, rfl, rfl⟩
theorem fi_X0_41 : tFi RX0 41 3 8 (-2147483648) (2147483647) := ⟨by decide, ⟨_, rfl, ff_X0_41⟩, rfl⟩
theorem fp_X0_41 : tPi RX0 41 3 8 (-2147483648) (2147483647) .int := ⟨by decide, ⟨_, rfl, fq_X0_41⟩, rfl⟩
theorem ff_X0_44 : tFf RX0 44 0 9 := ⟨_, _, _, _, fc_X0, Nat.le_of_ble_eq_true rfl, t_w1 152 rfl rfl⟩
theorem fq_X0_44 : tFp RX0 44 0 9 .int := ⟨_, _, _, _, fc_X0, Nat.le_of_ble_eq_true rfl, t_w1 152 rfl rfl, rfl, rfl⟩
theorem fi_X0_44 : tFi RX0 44 3 9 (-2147483648) (2147483647) := ⟨by decide, ⟨_, rfl, ff_X0_44⟩, rfl⟩
theorem fp_X0_44 : tPi RX0 44 3 9 (-2147483648) (2147483647) .int := ⟨by decide, ⟨_, rfl, fq_X0_44⟩, rfl⟩
theorem ff_X0_47 : tFf RX0 47 0 10 := ⟨_, _, _, _, fc_X0, Nat.le_of_ble_eq_true rfl, t_w1 156 rfl rfl⟩
theorem fq_X0_47 : tFp RX0 47 0 10 .int := ⟨_, _, _, _, fc_X0, Nat.le_of_ble_eq_true rfl, t_w1 156 rfl rfl, rfl, rfl⟩
theorem fi_X0_47 : tFi RX0 47 3 10 (0) (8) := ⟨by decide, ⟨_, rfl, ff_X0_47⟩, rfl⟩
theorem fp_X0_47 : tPi RX0 47 3 10 (0) (8) .int := ⟨by decide, ⟨_, rfl, fq_X0_47⟩, rfl⟩
theorem ff_X0_50 : tFf RX0 50 0 11 := ⟨_, _, _, _, fc_X0, Nat.le_of_ble_eq_true rfl, t_w1 161 rfl rfl⟩
theorem fq_X0_50 : tFp RX0 50 0 11 .int := ⟨_, _, _, _, fc_X0, Nat.le_of_ble_eq_true rfl, t_w1 161 rfl rfl, rfl, rfl⟩
theorem fi_X0_50 : tFi RX0 50 3 11 (-2147483648) (2147483647) := ⟨by decide, ⟨_, rfl, ff_X0_50⟩, rfl⟩
theorem fp_X0_50 : tPi RX0 50 3 11 (-2147483648) (2147483647) .int := ⟨by decide, ⟨_, rfl, fq_X0_50⟩, rfl⟩
theorem ml_X0_53 : Cond.methodLink RX0 53 yX2_forget ∈ tWS := t_w3 26 rfl rfl
theorem ml_X0_56 : Cond.methodLink RX0 56 yX1_numbersOf ∈ tWS := t_w3 42 rfl rfl
theorem ml_X0_62 : Cond.methodLink RX0 62 yX1_isInRange ∈ tWS := t_w3 70 rfl rfl
theorem ml_X0_66 : Cond.methodLink RX0 66 yX0_keepsOrder ∈ tWS := t_w3 71 rfl rfl
theorem ff_X0_70 : tFf RX0 70 0 12 := ⟨_, _, _, _, fc_X0, Nat.le_of_ble_eq_true rfl, t_w1 164 rfl rfl⟩
theorem fq_X0_70 : tFp RX0 70 0 12 .int := ⟨_, _, _, _, fc_X0, Nat.le_of_ble_eq_true rfl, t_w1 164 rfl rfl, rfl, rfl⟩
theorem fi_X0_70 : tFi RX0 70 3 12 (-2147483648) (2147483647) := ⟨by decide, ⟨_, rfl, ff_X0_70⟩, rfl⟩
theorem fp_X0_70 : tPi RX0 70 3 12 (-2147483648) (2147483647) .int := ⟨by decide, ⟨_, rfl, fq_X0_70⟩, rfl⟩
theorem ff_X0_73 : tFf RX0 73 0 13 := ⟨_, _, _, _, fc_X0, Nat.le_of_ble_eq_true rfl, t_w1 165 rfl rfl⟩
theorem fq_X0_73 : tFp RX0 73 0 13 .int := ⟨_, _, _, _, fc_X0, Nat.le_of_ble_eq_true rfl, t_w1 165 rfl rfl, rfl, rfl⟩
theorem fi_X0_73 : tFi RX0 73 3 13 (-2147483648) (2147483647) := ⟨by decide, ⟨_, rfl, ff_X0_73⟩, rfl⟩
theorem fp_X0_73 : tPi RX0 73 3 13 (-2147483648) (2147483647) .int := ⟨by decide, ⟨_, rfl, fq_X0_73⟩, rfl⟩
theorem ml_X0_82 : Cond.methodLink RX0 82 yX2_copyFrom ∈ tWS := t_w5 68 rfl rfl
theorem ml_X1_9 : Cond.methodLink RX1 9 yX1_isKind ∈ tWS := t_w2 231 rfl rfl
theorem fs_X1_15 : Cond.fieldLink RX1 15 "LaidOutBoxes$Kinds" (tSn 0) "[I" ∈ tWS := t_w2 234 rfl rfl
theorem fs_X1_19 : Cond.fieldLink RX1 19 "LaidOutBoxes$Kinds" (tSn 1) "[I" ∈ tWS := t_w3 16 rfl rfl
theorem ml_X1_22 : Cond.methodLink RX1 22 yX1_numbersOf ∈ tWS := t_w2 239 rfl rfl
theorem fs_X1_26 : Cond.fieldLink RX1 26 "LaidOutBoxes$Kinds" (tSn 3) "[I" ∈ tWS := t_w3 2 rfl rfl
theorem fs_X1_29 : Cond.fieldLink RX1 29 "LaidOutBoxes$Kinds" (tSn 4) "[I" ∈ tWS := t_w3 4 rfl rfl
theorem fs_X1_32 : Cond.fieldLink RX1 32 "LaidOutBoxes$Kinds" (tSn 2) "[I" ∈ tWS := t_w3 6 rfl rfl
theorem ml_X1_35 : Cond.methodLink RX1 35 yX1_isInRange ∈ tWS := t_w2 236 rfl rfl
theorem ff_X2_9 : tFf RX2 9 1 11 := ⟨_, _, _, _, fc_X2, Nat.le_of_ble_eq_true rfl, t_w1 86 rfl rfl⟩
theorem fq_X2_9 : tFp RX2 9 1 11 .int := ⟨_, _, _, _, fc_X2, Nat.le_of_ble_eq_true rfl, t_w1 86 rfl rfl, rfl, rfl⟩
theorem fi_X2_9 : tFi RX2 9 4 11 (-2147483648) (2147483647) := ⟨by decide, ⟨_, rfl, ff_X2_9⟩, rfl⟩
theorem fp_X2_9 : tPi RX2 9 4 11 (-2147483648) (2147483647) .int := ⟨by decide, ⟨_, rfl, fq_X2_9⟩, rfl⟩
theorem ml_X2_15 : Cond.methodLink RX2 15 yX2_begin ∈ tWS := t_w3 30 rfl rfl
theorem ff_X2_19 : tFf RX2 19 1 0 := ⟨_, _, _, _, fc_X2, Nat.le_of_ble_eq_true rfl, t_w1 47 rfl rfl⟩
theorem fq_X2_19 : tFp RX2 19 1 0 .boolean := ⟨_, _, _, _, fc_X2, Nat.le_of_ble_eq_true rfl, t_w1 47 rfl rfl, rfl, rfl⟩
theorem fi_X2_19 : tFi RX2 19 4 0 (0) (1) := ⟨by decide, ⟨_, rfl, ff_X2_19⟩, rfl⟩
theorem fp_X2_19 : tPi RX2 19 4 0 (0) (1) .boolean := ⟨by decide, ⟨_, rfl, fq_X2_19⟩, rfl⟩
theorem ml_X2_23 : Cond.methodLink RX2 23 yX2_placeAt ∈ tWS := t_w3 34 rfl rfl
theorem ff_X2_27 : tFf RX2 27 1 7 := ⟨_, _, _, _, fc_X2, Nat.le_of_ble_eq_true rfl, t_w1 69 rfl rfl⟩
theorem fq_X2_27 : tFp RX2 27 1 7 .int := ⟨_, _, _, _, fc_X2, Nat.le_of_ble_eq_true rfl, t_w1 69 rfl rfl, rfl, rfl⟩
theorem fi_X2_27 : tFi RX2 27 4 7 (-2147483648) (2147483647) := ⟨by decide, ⟨_, rfl, ff_X2_27⟩, rfl⟩
theorem fp_X2_27 : tPi RX2 27 4 7 (-2147483648) (2147483647) .int := ⟨by decide, ⟨_, rfl, fq_X2_27⟩, rfl⟩
theorem ff_X2_30 : tFf RX2 30 1 8 := ⟨_, _, _, _, fc_X2, Nat.le_of_ble_eq_true rfl, t_w1 74 rfl rfl⟩
theorem fq_X2_30 : tFp RX2 30 1 8 .int := ⟨_, _, _, _, fc_X2, Nat.le_of_ble_eq_true rfl, t_w1 74 rfl rfl, rfl, rfl⟩
theorem fi_X2_30 : tFi RX2 30 4 8 (-2147483648) (2147483647) := ⟨by decide, ⟨_, rfl, ff_X2_30⟩, rfl⟩
theorem fp_X2_30 : tPi RX2 30 4 8 (-2147483648) (2147483647) .int := ⟨by decide, ⟨_, rfl, fq_X2_30⟩, rfl⟩
theorem ff_X2_33 : tFf RX2 33 1 1 := ⟨_, _, _, _, fc_X2, Nat.le_of_ble_eq_true rfl, t_w1 51 rfl rfl⟩
theorem fq_X2_33 : tFp RX2 33 1 1 .int := ⟨_, _, _, _, fc_X2, Nat.le_of_ble_eq_true rfl, t_w1 51 rfl rfl, rfl, rfl⟩
theorem fi_X2_33 : tFi RX2 33 4 1 (-2147483648) (2147483647) := ⟨by decide, ⟨_, rfl, ff_X2_33⟩, rfl⟩
theorem fp_X2_33 : tPi RX2 33 4 1 (-2147483648) (2147483647) .int := ⟨by decide, ⟨_, rfl, fq_X2_33⟩, rfl⟩
theorem ff_X2_36 : tFf RX2 36 1 2 := ⟨_, _, _, _, fc_X2, Nat.le_of_ble_eq_true rfl, t_w1 54 rfl rfl⟩
theorem fq_X2_36 : tFp RX2 36 1 2 .int := ⟨_, _, _, _, fc_X2, Nat.le_of_ble_eq_true rfl, t_w1 54 rfl rfl, rfl, rfl⟩
theorem fi_X2_36 : tFi RX2 36 4 2 (-2147483648) (2147483647) := ⟨by decide, ⟨_, rfl, ff_X2_36⟩, rfl⟩
theorem fp_X2_36 : tPi RX2 36 4 2 (-2147483648) (2147483647) .int := ⟨by decide, ⟨_, rfl, fq_X2_36⟩, rfl⟩
theorem ff_X2_39 : tFf RX2 39 1 3 := ⟨_, _, _, _, fc_X2, Nat.le_of_ble_eq_true rfl, t_w1 57 rfl rfl⟩
theorem fq_X2_39 : tFp RX2 39 1 3 .int := ⟨_, _, _, _, fc_X2, Nat.le_of_ble_eq_true rfl, t_w1 57 rfl rfl, rfl, rfl⟩
theorem fi_X2_39 : tFi RX2 39 4 3 (-2147483648) (2147483647) := ⟨by decide, ⟨_, rfl, ff_X2_39⟩, rfl⟩
theorem fp_X2_39 : tPi RX2 39 4 3 (-2147483648) (2147483647) .int := ⟨by decide, ⟨_, rfl, fq_X2_39⟩, rfl⟩
theorem ff_X2_42 : tFf RX2 42 1 4 := ⟨_, _, _, _, fc_X2, Nat.le_of_ble_eq_true rfl, t_w1 60 rfl rfl⟩
theorem fq_X2_42 : tFp RX2 42 1 4 .int := ⟨_, _, _, _, fc_X2, Nat.le_of_ble_eq_true rfl, t_w1 60 rfl rfl, rfl, rfl⟩
theorem fi_X2_42 : tFi RX2 42 4 4 (-2147483648) (2147483647) := ⟨by decide, ⟨_, rfl, ff_X2_42⟩, rfl⟩
theorem fp_X2_42 : tPi RX2 42 4 4 (-2147483648) (2147483647) .int := ⟨by decide, ⟨_, rfl, fq_X2_42⟩, rfl⟩
theorem ff_X2_45 : tFf RX2 45 1 9 := ⟨_, _, _, _, fc_X2, Nat.le_of_ble_eq_true rfl, t_w1 79 rfl rfl⟩
theorem fq_X2_45 : tFp RX2 45 1 9 .int := ⟨_, _, _, _, fc_X2, Nat.le_of_ble_eq_true rfl, t_w1 79 rfl rfl, rfl, rfl⟩
theorem fi_X2_45 : tFi RX2 45 4 9 (-2147483648) (2147483647) := ⟨by decide, ⟨_, rfl, ff_X2_45⟩, rfl⟩
theorem fp_X2_45 : tPi RX2 45 4 9 (-2147483648) (2147483647) .int := ⟨by decide, ⟨_, rfl, fq_X2_45⟩, rfl⟩
theorem ff_X2_48 : tFf RX2 48 1 10 := ⟨_, _, _, _, fc_X2, Nat.le_of_ble_eq_true rfl, t_w1 83 rfl rfl⟩
theorem fq_X2_48 : tFp RX2 48 1 10 .int := ⟨_, _, _, _, fc_X2, Nat.le_of_ble_eq_true rfl, t_w1 83 rfl rfl, rfl, rfl⟩
theorem fi_X2_48 : tFi RX2 48 4 10 (-2147483648) (2147483647) := ⟨by decide, ⟨_, rfl, ff_X2_48⟩, rfl⟩
theorem fp_X2_48 : tPi RX2 48 4 10 (-2147483648) (2147483647) .int := ⟨by decide, ⟨_, rfl, fq_X2_48⟩, rfl⟩
theorem ff_X2_55 : tFf RX2 55 1 5 := ⟨_, _, _, _, fc_X2, Nat.le_of_ble_eq_true rfl, t_w1 62 rfl rfl⟩
theorem fq_X2_55 : tFp RX2 55 1 5 .int := ⟨_, _, _, _, fc_X2, Nat.le_of_ble_eq_true rfl, t_w1 62 rfl rfl, rfl, rfl⟩
theorem fi_X2_55 : tFi RX2 55 4 5 (-2147483648) (2147483647) := ⟨by decide, ⟨_, rfl, ff_X2_55⟩, rfl⟩
theorem fp_X2_55 : tPi RX2 55 4 5 (-2147483648) (2147483647) .int := ⟨by decide, ⟨_, rfl, fq_X2_55⟩, rfl⟩
theorem ff_X2_58 : tFf RX2 58 1 6 := ⟨_, _, _, _, fc_X2, Nat.le_of_ble_eq_true rfl, t_w1 65 rfl rfl⟩
theorem fq_X2_58 : tFp RX2 58 1 6 .int := ⟨_, _, _, _, fc_X2, Nat.le_of_ble_eq_true rfl, t_w1 65 rfl rfl, rfl, rfl⟩
theorem fi_X2_58 : tFi RX2 58 4 6 (-2147483648) (2147483647) := ⟨by decide, ⟨_, rfl, ff_X2_58⟩, rfl⟩
theorem fp_X2_58 : tPi RX2 58 4 6 (-2147483648) (2147483647) .int := ⟨by decide, ⟨_, rfl, fq_X2_58⟩, rfl⟩
theorem ff_X3_9 : tFf RX3 9 2 0 := ⟨_, _, _, _, fc_X3, Nat.le_of_ble_eq_true rfl, t_w2 34 rfl rfl⟩
theorem fr_X3_9 : tFr RX3 9 5 0 2 := ⟨by decide, ⟨_, rfl, ff_X3_9⟩, rfl⟩
theorem ff_X3_15 : tFf RX3 15 2 1 := ⟨_, _, _, _, fc_X3, Nat.le_of_ble_eq_true rfl, t_w2 35 rfl rfl⟩
theorem fq_X3_15 : tFp RX3 15 2 1 .int := ⟨_, _, _, _, fc_X3, Nat.le_of_ble_eq_true rfl, t_w2 35 rfl rfl, rfl, rfl⟩
theorem fi_X3_15 : tFi RX3 15 5 1 (-2147483648) (2147483647) := ⟨by decide, ⟨_, rfl, ff_X3_15⟩, rfl⟩
theorem fp_X3_15 : tPi RX3 15 5 1 (-2147483648) (2147483647) .int := ⟨by decide, ⟨_, rfl, fq_X3_15⟩, rfl⟩
theorem ff_X3_19 : tFf RX3 19 2 2 := ⟨_, _, _, _, fc_X3, Nat.le_of_ble_eq_true rfl, t_w2 38 rfl rfl⟩
theorem fq_X3_19 : tFp RX3 19 2 2 .int := ⟨_, _, _, _, fc_X3, Nat.le_of_ble_eq_true rfl, t_w2 38 rfl rfl, rfl, rfl⟩
theorem fi_X3_19 : tFi RX3 19 5 2 (-2147483648) (2147483647) := ⟨by decide, ⟨_, rfl, ff_X3_19⟩, rfl⟩
theorem fp_X3_19 : tPi RX3 19 5 2 (-2147483648) (2147483647) .int := ⟨by decide, ⟨_, rfl, fq_X3_19⟩, rfl⟩
theorem ff_X3_22 : tFf RX3 22 2 3 := ⟨_, _, _, _, fc_X3, Nat.le_of_ble_eq_true rfl, t_w2 41 rfl rfl⟩
theorem fq_X3_22 : tFp RX3 22 2 3 .int := ⟨_, _, _, _, fc_X3, Nat.le_of_ble_eq_true rfl, t_w2 41 rfl rfl, rfl, rfl⟩
theorem fi_X3_22 : tFi RX3 22 5 3 (-2147483648) (2147483647) := ⟨by decide, ⟨_, rfl, ff_X3_22⟩, rfl⟩
theorem fp_X3_22 : tPi RX3 22 5 3 (-2147483648) (2147483647) .int := ⟨by decide, ⟨_, rfl, fq_X3_22⟩, rfl⟩
theorem ff_X3_25 : tFf RX3 25 7 9 := ⟨_, _, _, _, fc_X8, Nat.le_of_ble_eq_true rfl, t_w1 229 rfl rfl⟩
theorem fq_X3_25 : tFp RX3 25 7 9 .int := ⟨_, _, _, _, fc_X8, Nat.le_of_ble_eq_true rfl, t_w1 229 rfl rfl, rfl, rfl⟩
theorem fi_X3_25 : tFi RX3 25 2 9 (-2147483648) (2147483647) := ⟨by decide, ⟨_, rfl, ff_X3_25⟩, rfl⟩
theorem fp_X3_25 : tPi RX3 25 2 9 (-2147483648) (2147483647) .int := ⟨by decide, ⟨_, rfl, fq_X3_25⟩, rfl⟩
theorem ml_X3_30 : Cond.methodLink RX3 30 yX3_isDue ∈ tWS := t_w4 64 rfl rfl
theorem ff_X3_34 : tFf RX3 34 7 0 := ⟨_, _, _, _, fc_X8, Nat.le_of_ble_eq_true rfl, t_w1 203 rfl rfl⟩
theorem fr_X3_34 : tFr RX3 34 2 0 10 := ⟨by decide, ⟨_, rfl, ff_X3_34⟩, rfl⟩
theorem ff_X3_38 : tFf RX3 38 7 10 := ⟨_, _, _, _, fc_X8, Nat.le_of_ble_eq_true rfl, t_w1 233 rfl rfl⟩
theorem fq_X3_38 : tFp RX3 38 7 10 .int := ⟨_, _, _, _, fc_X8, Nat.le_of_ble_eq_true rfl, t_w1 233 rfl rfl, rfl, rfl⟩
theorem fi_X3_38 : tFi RX3 38 2 10 (-2147483648) (2147483647) := ⟨by decide, ⟨_, rfl, ff_X3_38⟩, rfl⟩
theorem fp_X3_38 : tPi RX3 38 2 10 (-2147483648) (2147483647) .int := ⟨by decide, ⟨_, rfl, fq_X3_38⟩, rfl⟩
theorem ff_X3_41 : tFf RX3 41 7 11 := ⟨_, _, _, _, fc_X8, Nat.le_of_ble_eq_true rfl, t_w1 236 rfl rfl⟩
theorem fq_X3_41 : tFp RX3 41 7 11 .int := ⟨_, _, _, _, fc_X8, Nat.le_of_ble_eq_true rfl, t_w1 236 rfl rfl, rfl, rfl⟩
theorem fi_X3_41 : tFi RX3 41 2 11 (-2147483648) (2147483647) := ⟨by decide, ⟨_, rfl, ff_X3_41⟩, rfl⟩
theorem fp_X3_41 : tPi RX3 41 2 11 (-2147483648) (2147483647) .int := ⟨by decide, ⟨_, rfl, fq_X3_41⟩, rfl⟩
theorem ml_X3_44 : Cond.methodLink RX3 44 yX3_lay ∈ tWS := t_w4 69 rfl rfl
theorem ff_X3_48 : tFf RX3 48 7 6 := ⟨_, _, _, _, fc_X8, Nat.le_of_ble_eq_true rfl, t_w1 218 rfl rfl⟩
theorem fq_X3_48 : tFp RX3 48 7 6 .int := ⟨_, _, _, _, fc_X8, Nat.le_of_ble_eq_true rfl, t_w1 218 rfl rfl, rfl, rfl⟩
theorem fi_X3_48 : tFi RX3 48 2 6 (-2147483648) (2147483647) := ⟨by decide, ⟨_, rfl, ff_X3_48⟩, rfl⟩
theorem fp_X3_48 : tPi RX3 48 2 6 (-2147483648) (2147483647) .int := ⟨by decide, ⟨_, rfl, fq_X3_48⟩, rfl⟩
theorem ff_X3_51 : tFf RX3 51 7 5 := ⟨_, _, _, _, fc_X8, Nat.le_of_ble_eq_true rfl, t_w1 215 rfl rfl⟩
theorem fq_X3_51 : tFp RX3 51 7 5 .int := ⟨_, _, _, _, fc_X8, Nat.le_of_ble_eq_true rfl, t_w1 215 rfl rfl, rfl, rfl⟩
theorem fi_X3_51 : tFi RX3 51 2 5 (-2147483648) (2147483647) := ⟨by decide, ⟨_, rfl, ff_X3_51⟩, rfl⟩
theorem fp_X3_51 : tPi RX3 51 2 5 (-2147483648) (2147483647) .int := ⟨by decide, ⟨_, rfl, fq_X3_51⟩, rfl⟩
theorem ff_X3_54 : tFf RX3 54 7 8 := ⟨_, _, _, _, fc_X8, Nat.le_of_ble_eq_true rfl, t_w1 225 rfl rfl⟩
theorem fq_X3_54 : tFp RX3 54 7 8 .int := ⟨_, _, _, _, fc_X8, Nat.le_of_ble_eq_true rfl, t_w1 225 rfl rfl, rfl, rfl⟩
theorem fi_X3_54 : tFi RX3 54 2 8 (0) (24) := ⟨by decide, ⟨_, rfl, ff_X3_54⟩, rfl⟩
theorem fp_X3_54 : tPi RX3 54 2 8 (0) (24) .int := ⟨by decide, ⟨_, rfl, fq_X3_54⟩, rfl⟩
theorem ff_X3_57 : tFf RX3 57 0 3 := ⟨_, _, _, _, fc_X0, Nat.le_of_ble_eq_true rfl, t_w1 126 rfl rfl⟩
theorem fr_X3_57 : tFr RX3 57 3 3 4 := ⟨by decide, ⟨_, rfl, ff_X3_57⟩, rfl⟩
theorem ff_X3_63 : tFf RX3 63 1 1 := ⟨_, _, _, _, fc_X2, Nat.le_of_ble_eq_true rfl, t_w1 50 rfl rfl⟩
theorem fq_X3_63 : tFp RX3 63 1 1 .int := ⟨_, _, _, _, fc_X2, Nat.le_of_ble_eq_true rfl, t_w1 50 rfl rfl, rfl, rfl⟩
theorem fi_X3_63 : tFi RX3 63 4 1 (-2147483648) (2147483647) := ⟨by decide, ⟨_, rfl, ff_X3_63⟩, rfl⟩
theorem fp_X3_63 : tPi RX3 63 4 1 (-2147483648) (2147483647) .int := ⟨by decide, ⟨_, rfl, fq_X3_63⟩, rfl⟩
theorem ff_X3_68 : tFf RX3 68 1 2 := ⟨_, _, _, _, fc_X2, Nat.le_of_ble_eq_true rfl, t_w1 53 rfl rfl⟩
theorem fq_X3_68 : tFp RX3 68 1 2 .int := ⟨_, _, _, _, fc_X2, Nat.le_of_ble_eq_true rfl, t_w1 53 rfl rfl, rfl, rfl⟩
theorem fi_X3_68 : tFi RX3 68 4 2 (-2147483648) (2147483647) := ⟨by decide, ⟨_, rfl, ff_X3_68⟩, rfl⟩
theorem fp_X3_68 : tPi RX3 68 4 2 (-2147483648) (2147483647) .int := ⟨by decide, ⟨_, rfl, fq_X3_68⟩, rfl⟩
theorem ff_X3_71 : tFf RX3 71 1 3 := ⟨_, _, _, _, fc_X2, Nat.le_of_ble_eq_true rfl, t_w1 56 rfl rfl⟩
theorem fq_X3_71 : tFp RX3 71 1 3 .int := ⟨_, _, _, _, fc_X2, Nat.le_of_ble_eq_true rfl, t_w1 56 rfl rfl, rfl, rfl⟩
theorem fi_X3_71 : tFi RX3 71 4 3 (-2147483648) (2147483647) := ⟨by decide, ⟨_, rfl, ff_X3_71⟩, rfl⟩
theorem fp_X3_71 : tPi RX3 71 4 3 (-2147483648) (2147483647) .int := ⟨by decide, ⟨_, rfl, fq_X3_71⟩, rfl⟩
theorem ff_X3_74 : tFf RX3 74 1 4 := ⟨_, _, _, _, fc_X2, Nat.le_of_ble_eq_true rfl, t_w1 59 rfl rfl⟩
theorem fq_X3_74 : tFp RX3 74 1 4 .int := ⟨_, _, _, _, fc_X2, Nat.le_of_ble_eq_true rfl, t_w1 59 rfl rfl, rfl, rfl⟩
theorem fi_X3_74 : tFi RX3 74 4 4 (-2147483648) (2147483647) := ⟨by decide, ⟨_, rfl, ff_X3_74⟩, rfl⟩
theorem fp_X3_74 : tPi RX3 74 4 4 (-2147483648) (2147483647) .int := ⟨by decide, ⟨_, rfl, fq_X3_74⟩, rfl⟩
theorem ff_X3_77 : tFf RX3 77 2 4 := ⟨_, _, _, _, fc_X3, Nat.le_of_ble_eq_true rfl, t_w2 44 rfl rfl⟩
theorem fq_X3_77 : tFp RX3 77 2 4 .int := ⟨_, _, _, _, fc_X3, Nat.le_of_ble_eq_true rfl, t_w2 44 rfl rfl, rfl, rfl⟩
theorem fi_X3_77 : tFi RX3 77 5 4 (-2147483648) (2147483647) := ⟨by decide, ⟨_, rfl, ff_X3_77⟩, rfl⟩
theorem fp_X3_77 : tPi RX3 77 5 4 (-2147483648) (2147483647) .int := ⟨by decide, ⟨_, rfl, fq_X3_77⟩, rfl⟩
theorem ml_X3_80 : Cond.methodLink RX3 80 yX8_has ∈ tWS := t_w4 68 rfl rfl
theorem ff_X3_84 : tFf RX3 84 0 6 := ⟨_, _, _, _, fc_X0, Nat.le_of_ble_eq_true rfl, t_w1 140 rfl rfl⟩
theorem fq_X3_84 : tFp RX3 84 0 6 .int := ⟨_, _, _, _, fc_X0, Nat.le_of_ble_eq_true rfl, t_w1 140 rfl rfl, rfl, rfl⟩
theorem fi_X3_84 : tFi RX3 84 3 6 (-2147483648) (2147483647) := ⟨by decide, ⟨_, rfl, ff_X3_84⟩, rfl⟩
theorem fp_X3_84 : tPi RX3 84 3 6 (-2147483648) (2147483647) .int := ⟨by decide, ⟨_, rfl, fq_X3_84⟩, rfl⟩
theorem ff_X3_87 : tFf RX3 87 0 0 := ⟨_, _, _, _, fc_X0, Nat.le_of_ble_eq_true rfl, t_w1 115 rfl rfl⟩
theorem fi_X3_87 : tFi RX3 87 3 0 (0) (23) := ⟨by decide, ⟨_, rfl, ff_X3_87⟩, rfl⟩
theorem ml_X3_90 : Cond.methodLink RX3 90 yX8_isDirty ∈ tWS := t_w4 73 rfl rfl
theorem ml_X3_93 : Cond.methodLink RX3 93 yX2_wasLaidBy ∈ tWS := t_w4 77 rfl rfl
theorem ml_X3_97 : Cond.methodLink RX3 97 yX2_begin ∈ tWS := t_w4 81 rfl rfl
theorem ml_X3_101 : Cond.methodLink RX3 101 yX3_layByKind ∈ tWS := t_w4 82 rfl rfl
theorem ff_X3_105 : tFf RX3 105 7 7 := ⟨_, _, _, _, fc_X8, Nat.le_of_ble_eq_true rfl, t_w1 221 rfl rfl⟩
theorem fq_X3_105 : tFp RX3 105 7 7 .int := ⟨_, _, _, _, fc_X8, Nat.le_of_ble_eq_true rfl, t_w1 221 rfl rfl, rfl, rfl⟩
theorem fi_X3_105 : tFi RX3 105 2 7 (-2147483648) (2147483647) := ⟨by decide, ⟨_, rfl, ff_X3_105⟩, rfl⟩
theorem fp_X3_105 : tPi RX3 105 2 7 (-2147483648) (2147483647) .int := ⟨by decide, ⟨_, rfl, fq_X3_105⟩, rfl⟩
theorem ff_X3_108 : tFf RX3 108 0 4 := ⟨_, _, _, _, fc_X0, Nat.le_of_ble_eq_true rfl, t_w1 132 rfl rfl⟩
theorem fq_X3_108 : tFp RX3 108 0 4 .int := ⟨_, _, _, _, fc_X0, Nat.le_of_ble_eq_true rfl, t_w1 132 rfl rfl, rfl, rfl⟩
theorem fi_X3_108 : tFi RX3 108 3 4 (-2147483648) (2147483647) := ⟨by decide, ⟨_, rfl, ff_X3_108⟩, rfl⟩
theorem fp_X3_108 : tPi RX3 108 3 4 (-2147483648) (2147483647) .int := ⟨by decide, ⟨_, rfl, fq_X3_108⟩, rfl⟩
theorem ff_X3_111 : tFf RX3 111 0 1 := ⟨_, _, _, _, fc_X0, Nat.le_of_ble_eq_true rfl, t_w1 119 rfl rfl⟩
theorem fr_X3_111 : tFr RX3 111 3 1 11 := ⟨by decide, ⟨_, rfl, ff_X3_111⟩, rfl⟩
theorem ml_X3_115 : Cond.methodLink RX3 115 yX2_sizeTo ∈ tWS := t_w4 86 rfl rfl
theorem ml_X3_119 : Cond.methodLink RX3 119 yX3_layText ∈ tWS := t_w4 93 rfl rfl
theorem ml_X3_123 : Cond.methodLink RX3 123 yX3_layPad ∈ tWS := t_w4 101 rfl rfl
theorem ml_X3_126 : Cond.methodLink RX3 126 yX3_layLimit ∈ tWS := t_w4 114 rfl rfl
theorem ml_X3_129 : Cond.methodLink RX3 129 yX3_layCentre ∈ tWS := t_w4 122 rfl rfl
theorem ml_X3_132 : Cond.methodLink RX3 132 yX3_layFit ∈ tWS := t_w4 130 rfl rfl
theorem ml_X3_135 : Cond.methodLink RX3 135 yX3_layRatio ∈ tWS := t_w4 168 rfl rfl
theorem ml_X3_138 : Cond.methodLink RX3 138 yX3_layLayers ∈ tWS := t_w4 175 rfl rfl
theorem ml_X3_141 : Cond.methodLink RX3 141 yX3_layLine ∈ tWS := t_w4 182 rfl rfl
theorem ff_X3_144 : tFf RX3 144 0 10 := ⟨_, _, _, _, fc_X0, Nat.le_of_ble_eq_true rfl, t_w1 159 rfl rfl⟩
theorem fq_X3_144 : tFp RX3 144 0 10 .int := ⟨_, _, _, _, fc_X0, Nat.le_of_ble_eq_true rfl, t_w1 159 rfl rfl, rfl, rfl⟩
theorem fi_X3_144 : tFi RX3 144 3 10 (0) (8) := ⟨by decide, ⟨_, rfl, ff_X3_144⟩, rfl⟩
theorem fp_X3_144 : tPi RX3 144 3 10 (0) (8) .int := ⟨by decide, ⟨_, rfl, fq_X3_144⟩, rfl⟩
theorem ml_X3_147 : Cond.methodLink RX3 147 yX8_kidOf ∈ tWS := t_w4 109 rfl rfl
theorem ml_X3_151 : Cond.methodLink RX3 151 yX3_wordWide ∈ tWS := t_w4 97 rfl rfl
theorem ml_X3_155 : Cond.methodLink RX3 155 Lib.Math.max.name ∈ tWS := t_w4 100 rfl rfl
theorem ff_X3_160 : tFf RX3 160 1 11 := ⟨_, _, _, _, fc_X2, Nat.le_of_ble_eq_true rfl, t_w1 87 rfl rfl⟩
theorem fq_X3_160 : tFp RX3 160 1 11 .int := ⟨_, _, _, _, fc_X2, Nat.le_of_ble_eq_true rfl, t_w1 87 rfl rfl, rfl, rfl⟩
theorem fi_X3_160 : tFi RX3 160 4 11 (-2147483648) (2147483647) := ⟨by decide, ⟨_, rfl, ff_X3_160⟩, rfl⟩
theorem fp_X3_160 : tPi RX3 160 4 11 (-2147483648) (2147483647) .int := ⟨by decide, ⟨_, rfl, fq_X3_160⟩, rfl⟩
theorem ml_X3_163 : Cond.methodLink RX3 163 yX3_onlyKid ∈ tWS := t_w4 105 rfl rfl
theorem ml_X3_167 : Cond.methodLink RX3 167 yX3_lessBy ∈ tWS := t_w4 110 rfl rfl
theorem ml_X3_170 : Cond.methodLink RX3 170 yX2_placeAt ∈ tWS := t_w4 113 rfl rfl
theorem ff_X3_173 : tFf RX3 173 1 7 := ⟨_, _, _, _, fc_X2, Nat.le_of_ble_eq_true rfl, t_w1 71 rfl rfl⟩
theorem fq_X3_173 : tFp RX3 173 1 7 .int := ⟨_, _, _, _, fc_X2, Nat.le_of_ble_eq_true rfl, t_w1 71 rfl rfl, rfl, rfl⟩
theorem fi_X3_173 : tFi RX3 173 4 7 (-2147483648) (2147483647) := ⟨by decide, ⟨_, rfl, ff_X3_173⟩, rfl⟩
theorem fp_X3_173 : tPi RX3 173 4 7 (-2147483648) (2147483647) .int := ⟨by decide, ⟨_, rfl, fq_X3_173⟩, rfl⟩
theorem ff_X3_176 : tFf RX3 176 1 8 := ⟨_, _, _, _, fc_X2, Nat.le_of_ble_eq_true rfl, t_w1 76 rfl rfl⟩
theorem fq_X3_176 : tFp RX3 176 1 8 .int := ⟨_, _, _, _, fc_X2, Nat.le_of_ble_eq_true rfl, t_w1 76 rfl rfl, rfl, rfl⟩
theorem fi_X3_176 : tFi RX3 176 4 8 (-2147483648) (2147483647) := ⟨by decide, ⟨_, rfl, ff_X3_176⟩, rfl⟩
theorem fp_X3_176 : tPi RX3 176 4 8 (-2147483648) (2147483647) .int := ⟨by decide, ⟨_, rfl, fq_X3_176⟩, rfl⟩
theorem ml_X3_183 : Cond.methodLink RX3 183 yX0_orNoEnd ∈ tWS := t_w4 119 rfl rfl
theorem ml_X3_187 : Cond.methodLink RX3 187 yX3_layLoose ∈ tWS := t_w4 126 rfl rfl
theorem ml_X3_191 : Cond.methodLink RX3 191 yX3_askedOf ∈ tWS := t_w4 134 rfl rfl
theorem ml_X3_198 : Cond.methodLink RX3 198 yX3_aligned ∈ tWS := t_w4 179 rfl rfl
theorem ml_X3_201 : Cond.methodLink RX3 201 yX3_hasSharers ∈ tWS := t_w4 186 rfl rfl
theorem ml_X3_205 : Cond.methodLink RX3 205 yX3_layWithoutShare ∈ tWS := t_w4 190 rfl rfl
theorem ml_X3_209 : Cond.methodLink RX3 209 yX3_roundsOf ∈ tWS := t_w4 198 rfl rfl
theorem ff_X3_213 : tFf RX3 213 1 10 := ⟨_, _, _, _, fc_X2, Nat.le_of_ble_eq_true rfl, t_w1 85 rfl rfl⟩
theorem fq_X3_213 : tFp RX3 213 1 10 .int := ⟨_, _, _, _, fc_X2, Nat.le_of_ble_eq_true rfl, t_w1 85 rfl rfl, rfl, rfl⟩
theorem fi_X3_213 : tFi RX3 213 4 10 (-2147483648) (2147483647) := ⟨by decide, ⟨_, rfl, ff_X3_213⟩, rfl⟩
theorem fp_X3_213 : tPi RX3 213 4 10 (-2147483648) (2147483647) .int := ⟨by decide, ⟨_, rfl, fq_X3_213⟩, rfl⟩
theorem ml_X3_216 : Cond.methodLink RX3 216 yX3_layByShare ∈ tWS := t_w4 210 rfl rfl
theorem ff_X3_219 : tFf RX3 219 1 9 := ⟨_, _, _, _, fc_X2, Nat.le_of_ble_eq_true rfl, t_w1 82 rfl rfl⟩
theorem fq_X3_219 : tFp RX3 219 1 9 .int := ⟨_, _, _, _, fc_X2, Nat.le_of_ble_eq_true rfl, t_w1 82 rfl rfl, rfl, rfl⟩
theorem fi_X3_219 : tFi RX3 219 4 9 (-2147483648) (2147483647) := ⟨by decide, ⟨_, rfl, ff_X3_219⟩, rfl⟩
theorem fp_X3_219 : tPi RX3 219 4 9 (-2147483648) (2147483647) .int := ⟨by decide, ⟨_, rfl, fq_X3_219⟩, rfl⟩
theorem ml_X3_222 : Cond.methodLink RX3 222 yX3_standOnBase ∈ tWS := t_w4 214 rfl rfl
theorem ml_X3_226 : Cond.methodLink RX3 226 yX3_greatestAcross ∈ tWS := t_w4 222 rfl rfl
theorem ml_X3_230 : Cond.methodLink RX3 230 yX3_placeInLine ∈ tWS := t_w4 226 rfl rfl
theorem ff_X3_234 : tFf RX3 234 0 7 := ⟨_, _, _, _, fc_X0, Nat.le_of_ble_eq_true rfl, t_w1 147 rfl rfl⟩
theorem fq_X3_234 : tFp RX3 234 0 7 .int := ⟨_, _, _, _, fc_X0, Nat.le_of_ble_eq_true rfl, t_w1 147 rfl rfl, rfl, rfl⟩
theorem fi_X3_234 : tFi RX3 234 3 7 (-2147483648) (2147483647) := ⟨by decide, ⟨_, rfl, ff_X3_234⟩, rfl⟩
theorem fp_X3_234 : tPi RX3 234 3 7 (-2147483648) (2147483647) .int := ⟨by decide, ⟨_, rfl, fq_X3_234⟩, rfl⟩
theorem ff_X3_237 : tFf RX3 237 0 8 := ⟨_, _, _, _, fc_X0, Nat.le_of_ble_eq_true rfl, t_w1 151 rfl rfl⟩
theorem fq_X3_237 : tFp RX3 237 0 8 .int := ⟨_, _, _, _, fc_X0, Nat.le_of_ble_eq_true rfl, t_w1 151 rfl rfl, rfl, rfl⟩
theorem fi_X3_237 : tFi RX3 237 3 8 (-2147483648) (2147483647) := ⟨by decide, ⟨_, rfl, ff_X3_237⟩, rfl⟩
theorem fp_X3_237 : tPi RX3 237 3 8 (-2147483648) (2147483647) .int := ⟨by decide, ⟨_, rfl, fq_X3_237⟩, rfl⟩
theorem ff_X3_240 : tFf RX3 240 0 9 := ⟨_, _, _, _, fc_X0, Nat.le_of_ble_eq_true rfl, t_w1 155 rfl rfl⟩
theorem fq_X3_240 : tFp RX3 240 0 9 .int := ⟨_, _, _, _, fc_X0, Nat.le_of_ble_eq_true rfl, t_w1 155 rfl rfl, rfl, rfl⟩
theorem fi_X3_240 : tFi RX3 240 3 9 (-2147483648) (2147483647) := ⟨by decide, ⟨_, rfl, ff_X3_240⟩, rfl⟩
theorem fp_X3_240 : tPi RX3 240 3 9 (-2147483648) (2147483647) .int := ⟨by decide, ⟨_, rfl, fq_X3_240⟩, rfl⟩
theorem ml_X3_243 : Cond.methodLink RX3 243 yX3_layAlong ∈ tWS := t_w4 194 rfl rfl
theorem ff_X3_247 : tFf RX3 247 0 14 := ⟨_, _, _, _, fc_X0, Nat.le_of_ble_eq_true rfl, t_w1 166 rfl rfl⟩
theorem fq_X3_247 : tFp RX3 247 0 14 .int := ⟨_, _, _, _, fc_X0, Nat.le_of_ble_eq_true rfl, t_w1 166 rfl rfl, rfl, rfl⟩
theorem fi_X3_247 : tFi RX3 247 3 14 (-2147483648) (2147483647) := ⟨by decide, ⟨_, rfl, ff_X3_247⟩, rfl⟩
theorem fp_X3_247 : tPi RX3 247 3 14 (-2147483648) (2147483647) .int := ⟨by decide, ⟨_, rfl, fq_X3_247⟩, rfl⟩
theorem ff_X3_250 : tFf RX3 250 0 15 := ⟨_, _, _, _, fc_X0, Nat.le_of_ble_eq_true rfl, t_w1 167 rfl rfl⟩
theorem fq_X3_250 : tFp RX3 250 0 15 .boolean := ⟨_, _, _, _, fc_X0, Nat.le_of_ble_eq_true rfl, t_w1 167 rfl rfl, rfl, rfl⟩
theorem fi_X3_250 : tFi RX3 250 3 15 (0) (1) := ⟨by decide, ⟨_, rfl, ff_X3_250⟩, rfl⟩
theorem fp_X3_250 : tPi RX3 250 3 15 (0) (1) .boolean := ⟨by decide, ⟨_, rfl, fq_X3_250⟩, rfl⟩
theorem ml_X3_254 : Cond.methodLink RX3 254 yX3_shareOut ∈ tWS := t_w4 202 rfl rfl
theorem ml_X3_257 : Cond.methodLink RX3 257 yX3_freeze ∈ tWS := t_w4 206 rfl rfl
theorem ml_X3_261 : Cond.methodLink RX3 261 yX3_baseOf ∈ tWS := t_w4 218 rfl rfl
theorem ff_X3_264 : tFf RX3 264 1 0 := ⟨_, _, _, _, fc_X2, Nat.le_of_ble_eq_true rfl, t_w1 49 rfl rfl⟩
theorem fq_X3_264 : tFp RX3 264 1 0 .boolean := ⟨_, _, _, _, fc_X2, Nat.le_of_ble_eq_true rfl, t_w1 49 rfl rfl, rfl, rfl⟩
theorem fi_X3_264 : tFi RX3 264 4 0 (0) (1) := ⟨by decide, ⟨_, rfl, ff_X3_264⟩, rfl⟩
theorem fp_X3_264 : tPi RX3 264 4 0 (0) (1) .boolean := ⟨by decide, ⟨_, rfl, fq_X3_264⟩, rfl⟩
theorem ff_X3_267 : tFf RX3 267 1 6 := ⟨_, _, _, _, fc_X2, Nat.le_of_ble_eq_true rfl, t_w1 68 rfl rfl⟩
theorem fq_X3_267 : tFp RX3 267 1 6 .int := ⟨_, _, _, _, fc_X2, Nat.le_of_ble_eq_true rfl, t_w1 68 rfl rfl, rfl, rfl⟩
theorem fi_X3_267 : tFi RX3 267 4 6 (-2147483648) (2147483647) := ⟨by decide, ⟨_, rfl, ff_X3_267⟩, rfl⟩
theorem fp_X3_267 : tPi RX3 267 4 6 (-2147483648) (2147483647) .int := ⟨by decide, ⟨_, rfl, fq_X3_267⟩, rfl⟩
theorem ml_X3_270 : Cond.methodLink RX3 270 yX0_hasMemo ∈ tWS := t_w4 138 rfl rfl
theorem ml_X3_273 : Cond.methodLink RX3 273 yX0_memoOf ∈ tWS := t_w4 142 rfl rfl
theorem ml_X3_276 : Cond.methodLink RX3 276 yX3_figured ∈ tWS := t_w4 146 rfl rfl
theorem ml_X3_279 : Cond.methodLink RX3 279 yX0_keepMemo ∈ tWS := t_w4 164 rfl rfl
theorem ff_X3_282 : tFf RX3 282 2 5 := ⟨_, _, _, _, fc_X3, Nat.le_of_ble_eq_true rfl, t_w2 46 rfl rfl⟩
theorem fq_X3_282 : tFp RX3 282 2 5 .int := ⟨_, _, _, _, fc_X3, Nat.le_of_ble_eq_true rfl, t_w2 46 rfl rfl, rfl, rfl⟩
theorem fi_X3_282 : tFi RX3 282 5 5 (-2147483648) (2147483647) := ⟨by decide, ⟨_, rfl, ff_X3_282⟩, rfl⟩
theorem fp_X3_282 : tPi RX3 282 5 5 (-2147483648) (2147483647) .int := ⟨by decide, ⟨_, rfl, fq_X3_282⟩, rfl⟩
theorem ml_X3_285 : Cond.methodLink RX3 285 yX3_wordsInALine ∈ tWS := t_w4 150 rfl rfl
theorem ml_X3_288 : Cond.methodLink RX3 288 yX3_widestWord ∈ tWS := t_w4 153 rfl rfl
theorem ml_X3_291 : Cond.methodLink RX3 291 yX3_greatestOfKids ∈ tWS := t_w4 156 rfl rfl
theorem ml_X3_294 : Cond.methodLink RX3 294 yX3_kidsTogether ∈ tWS := t_w4 160 rfl rfl
theorem ff_X4_11 : tFf RX4 11 3 0 := ⟨_, _, _, _, fc_X4, Nat.le_of_ble_eq_true rfl, t_w2 145 rfl rfl⟩
theorem fr_X4_11 : tFr RX4 11 8 0 19 := ⟨by decide, ⟨_, rfl, ff_X4_11⟩, rfl⟩
theorem ff_X4_15 : tFf RX4 15 3 2 := ⟨_, _, _, _, fc_X4, Nat.le_of_ble_eq_true rfl, t_w2 149 rfl rfl⟩
theorem fr_X4_15 : tFr RX4 15 8 2 2 := ⟨by decide, ⟨_, rfl, ff_X4_15⟩, rfl⟩
theorem ff_X4_19 : tFf RX4 19 3 1 := ⟨_, _, _, _, fc_X4, Nat.le_of_ble_eq_true rfl, t_w2 147 rfl rfl⟩
theorem fq_X4_19 : tFp RX4 19 3 1 .int := ⟨_, _, _, _, fc_X4, Nat.le_of_ble_eq_true rfl, t_w2 147 rfl rfl, rfl, rfl⟩
theorem fi_X4_19 : tFi RX4 19 8 1 (0) (960) := ⟨by decide, ⟨_, rfl, ff_X4_19⟩, rfl⟩
theorem fp_X4_19 : tPi RX4 19 8 1 (0) (960) .int := ⟨by decide, ⟨_, rfl, fq_X4_19⟩, rfl⟩
theorem ml_X4_23 : Cond.methodLink RX4 23 yX8_has ∈ tWS := t_w4 34 rfl rfl
theorem ff_X4_29 : tFf RX4 29 7 0 := ⟨_, _, _, _, fc_X8, Nat.le_of_ble_eq_true rfl, t_w1 202 rfl rfl⟩
theorem fr_X4_29 : tFr RX4 29 2 0 10 := ⟨by decide, ⟨_, rfl, ff_X4_29⟩, rfl⟩
theorem ml_X4_33 : Cond.methodLink RX4 33 yX4_write ∈ tWS := t_w4 35 rfl rfl
theorem ff_X4_37 : tFf RX4 37 0 4 := ⟨_, _, _, _, fc_X0, Nat.le_of_ble_eq_true rfl, t_w1 131 rfl rfl⟩
theorem fq_X4_37 : tFp RX4 37 0 4 .int := ⟨_, _, _, _, fc_X0, Nat.le_of_ble_eq_true rfl, t_w1 131 rfl rfl, rfl, rfl⟩
theorem fi_X4_37 : tFi RX4 37 3 4 (-2147483648) (2147483647) := ⟨by decide, ⟨_, rfl, ff_X4_37⟩, rfl⟩
theorem fp_X4_37 : tPi RX4 37 3 4 (-2147483648) (2147483647) .int := ⟨by decide, ⟨_, rfl, fq_X4_37⟩, rfl⟩
theorem ml_X4_42 : Cond.methodLink RX4 42 yX1_nameOf ∈ tWS := t_w4 39 rfl rfl
theorem ml_X4_48 : Cond.methodLink RX4 48 yX4_putWord ∈ tWS := t_w4 40 rfl rfl
theorem ml_X4_52 : Cond.methodLink RX4 52 yX1_numbersOf ∈ tWS := t_w4 50 rfl rfl
theorem ml_X4_56 : Cond.methodLink RX4 56 yX4_put ∈ tWS := t_w4 46 rfl rfl
theorem ff_X4_60 : tFf RX4 60 0 1 := ⟨_, _, _, _, fc_X0, Nat.le_of_ble_eq_true rfl, t_w1 118 rfl rfl⟩
theorem fr_X4_60 : tFr RX4 60 3 1 11 := ⟨by decide, ⟨_, rfl, ff_X4_60⟩, rfl⟩
theorem ml_X4_64 : Cond.methodLink RX4 64 yX4_putNumber ∈ tWS := t_w4 51 rfl rfl
theorem ff_X4_68 : tFf RX4 68 0 7 := ⟨_, _, _, _, fc_X0, Nat.le_of_ble_eq_true rfl, t_w1 144 rfl rfl⟩
theorem fq_X4_68 : tFp RX4 68 0 7 .int := ⟨_, _, _, _, fc_X0, Nat.le_of_ble_eq_true rfl, t_w1 144 rfl rfl, rfl, rfl⟩
theorem fi_X4_68 : tFi RX4 68 3 7 (-2147483648) (2147483647) := ⟨by decide, ⟨_, rfl, ff_X4_68⟩, rfl⟩
theorem fp_X4_68 : tPi RX4 68 3 7 (-2147483648) (2147483647) .int := ⟨by decide, ⟨_, rfl, fq_X4_68⟩, rfl⟩
theorem ff_X4_71 : tFf RX4 71 0 10 := ⟨_, _, _, _, fc_X0, Nat.le_of_ble_eq_true rfl, t_w1 157 rfl rfl⟩
theorem fq_X4_71 : tFp RX4 71 0 10 .int := ⟨_, _, _, _, fc_X0, Nat.le_of_ble_eq_true rfl, t_w1 157 rfl rfl, rfl, rfl⟩
theorem fi_X4_71 : tFi RX4 71 3 10 (0) (8) := ⟨by decide, ⟨_, rfl, ff_X4_71⟩, rfl⟩
theorem fp_X4_71 : tPi RX4 71 3 10 (0) (8) .int := ⟨by decide, ⟨_, rfl, fq_X4_71⟩, rfl⟩
theorem ml_X4_74 : Cond.methodLink RX4 74 yX8_kidOf ∈ tWS := t_w4 55 rfl rfl
theorem ml_X4_78 : Cond.methodLink RX4 78 yJ0_length_8abf5 ∈ tWS := t_w4 44 rfl rfl
theorem ml_X4_83 : Cond.methodLink RX4 83 yJ0_charAt_5068e ∈ tWS := t_w4 45 rfl rfl
theorem ff_X5_9 : tFf RX5 9 4 0 := ⟨_, _, _, _, fc_X5, Nat.le_of_ble_eq_true rfl, t_w2 100 rfl rfl⟩
theorem fr_X5_9 : tFr RX5 9 7 0 15 := ⟨by decide, ⟨_, rfl, ff_X5_9⟩, rfl⟩
theorem frw_X5_9 : tFr RX5 9 22 0 15 := ⟨by decide, ⟨_, rfl, ff_X5_9⟩, rfl⟩
theorem ff_X5_15 : tFf RX5 15 4 1 := ⟨_, _, _, _, fc_X5, Nat.le_of_ble_eq_true rfl, t_w2 102 rfl rfl⟩
theorem fr_X5_15 : tFr RX5 15 7 1 16 := ⟨by decide, ⟨_, rfl, ff_X5_15⟩, rfl⟩
theorem frw_X5_15 : tFr RX5 15 22 1 16 := ⟨by decide, ⟨_, rfl, ff_X5_15⟩, rfl⟩
theorem ff_X5_18 : tFf RX5 18 4 2 := ⟨_, _, _, _, fc_X5, Nat.le_of_ble_eq_true rfl, t_w2 104 rfl rfl⟩
theorem fr_X5_18 : tFr RX5 18 7 2 15 := ⟨by decide, ⟨_, rfl, ff_X5_18⟩, rfl⟩
theorem frw_X5_18 : tFr RX5 18 22 2 15 := ⟨by decide, ⟨_, rfl, ff_X5_18⟩, rfl⟩
theorem ff_X5_21 : tFf RX5 21 4 3 := ⟨_, _, _, _, fc_X5, Nat.le_of_ble_eq_true rfl, t_w2 106 rfl rfl⟩
theorem fr_X5_21 : tFr RX5 21 7 3 15 := ⟨by decide, ⟨_, rfl, ff_X5_21⟩, rfl⟩
theorem frw_X5_21 : tFr RX5 21 22 3 15 := ⟨by decide, ⟨_, rfl, ff_X5_21⟩, rfl⟩
theorem ff_X5_26 : tFf RX5 26 4 4 := ⟨_, _, _, _, fc_X5, Nat.le_of_ble_eq_true rfl, t_w2 107 rfl rfl⟩
theorem fr_X5_26 : tFr RX5 26 7 4 17 := ⟨by decide, ⟨_, rfl, ff_X5_26⟩, rfl⟩
theorem frw_X5_26 : tFr RX5 26 22 4 17 := ⟨by decide, ⟨_, rfl, ff_X5_26⟩, rfl⟩
theorem ff_X5_29 : tFf RX5 29 4 6 := ⟨_, _, _, _, fc_X5, Nat.le_of_ble_eq_true rfl, t_w2 111 rfl rfl⟩
theorem fq_X5_29 : tFp RX5 29 4 6 (.array .char) := ⟨_, _, _, _, fc_X5, Nat.le_of_ble_eq_true rfl, t_w2 111 rfl rfl, rfl, rfl⟩
theorem frw_X5_29 : tFr RX5 29 22 6 18 := ⟨by decide, ⟨_, rfl, ff_X5_29⟩, rfl⟩
theorem ml_X5_33 : Cond.methodLink RX5 33 Lib.Math.min.name ∈ tWS := t_w3 152 rfl rfl
theorem ff_X5_39 : tFf RX5 39 4 7 := ⟨_, _, _, _, fc_X5, Nat.le_of_ble_eq_true rfl, t_w2 112 rfl rfl⟩
theorem fq_X5_39 : tFp RX5 39 4 7 .int := ⟨_, _, _, _, fc_X5, Nat.le_of_ble_eq_true rfl, t_w2 112 rfl rfl, rfl, rfl⟩
theorem fi_X5_39 : tFi RX5 39 7 7 (0) (120) := ⟨by decide, ⟨_, rfl, ff_X5_39⟩, rfl⟩
theorem fp_X5_39 : tPi RX5 39 7 7 (0) (120) .int := ⟨by decide, ⟨_, rfl, fq_X5_39⟩, rfl⟩
theorem fiw_X5_39 : tFi RX5 39 22 7 (0) (120) := ⟨by decide, ⟨_, rfl, ff_X5_39⟩, rfl⟩
theorem fpw_X5_39 : tPi RX5 39 22 7 (0) (120) .int := ⟨by decide, ⟨_, rfl, fq_X5_39⟩, rfl⟩
theorem ff_X5_43 : tFf RX5 43 4 8 := ⟨_, _, _, _, fc_X5, Nat.le_of_ble_eq_true rfl, t_w2 113 rfl rfl⟩
theorem fq_X5_43 : tFp RX5 43 4 8 .int := ⟨_, _, _, _, fc_X5, Nat.le_of_ble_eq_true rfl, t_w2 113 rfl rfl, rfl, rfl⟩
theorem fi_X5_43 : tFi RX5 43 7 8 (-2147483648) (2147483647) := ⟨by decide, ⟨_, rfl, ff_X5_43⟩, rfl⟩
theorem fp_X5_43 : tPi RX5 43 7 8 (-2147483648) (2147483647) .int := ⟨by decide, ⟨_, rfl, fq_X5_43⟩, rfl⟩
theorem fiw_X5_43 : tFi RX5 43 22 8 (-2147483648) (2147483647) := ⟨by decide, ⟨_, rfl, ff_X5_43⟩, rfl⟩
theorem fpw_X5_43 : tPi RX5 43 22 8 (-2147483648) (2147483647) .int := ⟨by decide, ⟨_, rfl, fq_X5_43⟩, rfl⟩
theorem ff_X5_46 : tFf RX5 46 4 9 := ⟨_, _, _, _, fc_X5, Nat.le_of_ble_eq_true rfl, t_w2 114 rfl rfl⟩
theorem fq_X5_46 : tFp RX5 46 4 9 .int := ⟨_, _, _, _, fc_X5, Nat.le_of_ble_eq_true rfl, t_w2 114 rfl rfl, rfl, rfl⟩
theorem fi_X5_46 : tFi RX5 46 7 9 (0) (120) := ⟨by decide, ⟨_, rfl, ff_X5_46⟩, rfl⟩
theorem fp_X5_46 : tPi RX5 46 7 9 (0) (120) .int := ⟨by decide, ⟨_, rfl, fq_X5_46⟩, rfl⟩
theorem fiw_X5_46 : tFi RX5 46 22 9 (0) (120) := ⟨by decide, ⟨_, rfl, ff_X5_46⟩, rfl⟩
theorem fpw_X5_46 : tPi RX5 46 22 9 (0) (120) .int := ⟨by decide, ⟨_, rfl, fq_X5_46⟩, rfl⟩
theorem ff_X5_49 : tFf RX5 49 4 5 := ⟨_, _, _, _, fc_X5, Nat.le_of_ble_eq_true rfl, t_w2 109 rfl rfl⟩
theorem fq_X5_49 : tFp RX5 49 4 5 .int := ⟨_, _, _, _, fc_X5, Nat.le_of_ble_eq_true rfl, t_w2 109 rfl rfl, rfl, rfl⟩
theorem fi_X5_49 : tFi RX5 49 7 5 (0) (24) := ⟨by decide, ⟨_, rfl, ff_X5_49⟩, rfl⟩
theorem fp_X5_49 : tPi RX5 49 7 5 (0) (24) .int := ⟨by decide, ⟨_, rfl, fq_X5_49⟩, rfl⟩
theorem fiw_X5_49 : tFi RX5 49 22 5 (0) (24) := ⟨by decide, ⟨_, rfl, ff_X5_49⟩, rfl⟩
theorem fpw_X5_49 : tPi RX5 49 22 5 (0) (24) .int := ⟨by decide, ⟨_, rfl, fq_X5_49⟩, rfl⟩
theorem ff_X5_52 : tFf RX5 52 4 10 := ⟨_, _, _, _, fc_X5, Nat.le_of_ble_eq_true rfl, t_w2 115 rfl rfl⟩
theorem fq_X5_52 : tFp RX5 52 4 10 .boolean := ⟨_, _, _, _, fc_X5, Nat.le_of_ble_eq_true rfl, t_w2 115 rfl rfl, rfl, rfl⟩
theorem fi_X5_52 : tFi RX5 52 7 10 (0) (1) := ⟨by decide, ⟨_, rfl, ff_X5_52⟩, rfl⟩
theorem fp_X5_52 : tPi RX5 52 7 10 (0) (1) .boolean := ⟨by decide, ⟨_, rfl, fq_X5_52⟩, rfl⟩
theorem fiw_X5_52 : tFi RX5 52 22 10 (0) (1) := ⟨by decide, ⟨_, rfl, ff_X5_52⟩, rfl⟩
theorem fpw_X5_52 : tPi RX5 52 22 10 (0) (1) .boolean := ⟨by decide, ⟨_, rfl, fq_X5_52⟩, rfl⟩
theorem ml_X5_56 : Cond.methodLink RX5 56 yX5_readBox ∈ tWS := t_w3 155 rfl rfl
theorem ml_X5_60 : Cond.methodLink RX5 60 yX5_parentOfNext ∈ tWS := t_w4 21 rfl rfl
theorem ml_X5_64 : Cond.methodLink RX5 64 yX5_next ∈ tWS := t_w4 4 rfl rfl
theorem ml_X5_68 : Cond.methodLink RX5 68 yX5_passed ∈ tWS := t_w4 0 rfl rfl
theorem ml_X5_72 : Cond.methodLink RX5 72 yX1_childrenOf ∈ tWS := t_w3 159 rfl rfl
theorem ml_X5_78 : Cond.methodLink RX5 78 yX5_readName ∈ tWS := t_w3 160 rfl rfl
theorem ml_X5_81 : Cond.methodLink RX5 81 yX5_readNumbers ∈ tWS := t_w3 232 rfl rfl
theorem ml_X5_84 : Cond.methodLink RX5 84 yX5_readShare ∈ tWS := t_w4 17 rfl rfl
theorem ml_X5_87 : Cond.methodLink RX5 87 yX1_nameOf ∈ tWS := t_w3 164 rfl rfl
theorem ml_X5_91 : Cond.methodLink RX5 91 yX5_lettersLike ∈ tWS := t_w3 177 rfl rfl
theorem ml_X5_95 : Cond.methodLink RX5 95 Lib.Math.max.name ∈ tWS := t_w3 229 rfl rfl
theorem ml_X5_98 : Cond.methodLink RX5 98 yJ0_length_8abf5 ∈ tWS := t_w3 181 rfl rfl
theorem ml_X5_102 : Cond.methodLink RX5 102 yJ0_charAt_5068e ∈ tWS := t_w3 191 rfl rfl
theorem ml_X5_106 : Cond.methodLink RX5 106 yJ7_fill_53178 ∈ tWS := t_w3 236 rfl rfl
theorem ml_X5_112 : Cond.methodLink RX5 112 yX1_numbersOf ∈ tWS := t_w3 239 rfl rfl
theorem ml_X5_115 : Cond.methodLink RX5 115 yX5_nextIsFigure ∈ tWS := t_w4 8 rfl rfl
theorem ml_X5_119 : Cond.methodLink RX5 119 yX5_readNumber ∈ tWS := t_w4 12 rfl rfl
theorem ml_X5_122 : Cond.methodLink RX5 122 yX1_isInRange ∈ tWS := t_w4 16 rfl rfl
theorem ff_X6_9 : tFf RX6 9 5 0 := ⟨_, _, _, _, fc_X6, Nat.le_of_ble_eq_true rfl, t_w2 165 rfl rfl⟩
theorem fr_X6_9 : tFr RX6 9 9 0 21 := ⟨by decide, ⟨_, rfl, ff_X6_9⟩, rfl⟩
theorem ff_X6_15 : tFf RX6 15 5 1 := ⟨_, _, _, _, fc_X6, Nat.le_of_ble_eq_true rfl, t_w2 167 rfl rfl⟩
theorem fq_X6_15 : tFp RX6 15 5 1 .int := ⟨_, _, _, _, fc_X6, Nat.le_of_ble_eq_true rfl, t_w2 167 rfl rfl, rfl, rfl⟩
theorem fi_X6_15 : tFi RX6 15 9 1 (-2147483648) (2147483647) := ⟨by decide, ⟨_, rfl, ff_X6_15⟩, rfl⟩
theorem fp_X6_15 : tPi RX6 15 9 1 (-2147483648) (2147483647) .int := ⟨by decide, ⟨_, rfl, fq_X6_15⟩, rfl⟩
theorem ff_X6_19 : tFf RX6 19 5 2 := ⟨_, _, _, _, fc_X6, Nat.le_of_ble_eq_true rfl, t_w2 169 rfl rfl⟩
theorem fq_X6_19 : tFp RX6 19 5 2 .int := ⟨_, _, _, _, fc_X6, Nat.le_of_ble_eq_true rfl, t_w2 169 rfl rfl, rfl, rfl⟩
theorem fi_X6_19 : tFi RX6 19 9 2 (0) (60) := ⟨by decide, ⟨_, rfl, ff_X6_19⟩, rfl⟩
theorem fp_X6_19 : tPi RX6 19 9 2 (0) (60) .int := ⟨by decide, ⟨_, rfl, fq_X6_19⟩, rfl⟩
theorem ml_X6_22 : Cond.methodLink RX6 22 yJ7_fill_d0a16 ∈ tWS := t_w5 234 rfl rfl
theorem ml_X7_11 : Cond.methodLink RX7 11 yX8_init ∈ tWS := t_w2 67 rfl rfl
theorem ff_X7_12 : tFf RX7 12 6 1 := ⟨_, _, _, _, fc_X7, Nat.le_of_ble_eq_true rfl, t_w2 71 rfl rfl⟩
theorem fr_X7_12 : tFr RX7 12 6 1 2 := ⟨by decide, ⟨_, rfl, ff_X7_12⟩, rfl⟩
theorem ff_X7_18 : tFf RX7 18 6 2 := ⟨_, _, _, _, fc_X7, Nat.le_of_ble_eq_true rfl, t_w2 72 rfl rfl⟩
theorem fr_X7_18 : tFr RX7 18 6 2 2 := ⟨by decide, ⟨_, rfl, ff_X7_18⟩, rfl⟩
theorem ml_X7_23 : Cond.methodLink RX7 23 yX3_init ∈ tWS := t_w2 69 rfl rfl
theorem ff_X7_26 : tFf RX7 26 6 3 := ⟨_, _, _, _, fc_X7, Nat.le_of_ble_eq_true rfl, t_w2 73 rfl rfl⟩
theorem fr_X7_26 : tFr RX7 26 6 3 5 := ⟨by decide, ⟨_, rfl, ff_X7_26⟩, rfl⟩
theorem ff_X7_30 : tFf RX7 30 6 4 := ⟨_, _, _, _, fc_X7, Nat.le_of_ble_eq_true rfl, t_w2 74 rfl rfl⟩
theorem fr_X7_30 : tFr RX7 30 6 4 5 := ⟨by decide, ⟨_, rfl, ff_X7_30⟩, rfl⟩
theorem ff_X7_33 : tFf RX7 33 6 5 := ⟨_, _, _, _, fc_X7, Nat.le_of_ble_eq_true rfl, t_w2 75 rfl rfl⟩
theorem fr_X7_33 : tFr RX7 33 6 5 14 := ⟨by decide, ⟨_, rfl, ff_X7_33⟩, rfl⟩
theorem ff_X7_37 : tFf RX7 37 6 0 := ⟨_, _, _, _, fc_X7, Nat.le_of_ble_eq_true rfl, t_w2 70 rfl rfl⟩
theorem fr_X7_37 : tFr RX7 37 6 0 2 := ⟨by decide, ⟨_, rfl, ff_X7_37⟩, rfl⟩
theorem ff_X7_40 : tFf RX7 40 6 6 := ⟨_, _, _, _, fc_X7, Nat.le_of_ble_eq_true rfl, t_w2 76 rfl rfl⟩
theorem fq_X7_40 : tFp RX7 40 6 6 .int := ⟨_, _, _, _, fc_X7, Nat.le_of_ble_eq_true rfl, t_w2 76 rfl rfl, rfl, rfl⟩
theorem fi_X7_40 : tFi RX7 40 6 6 (-2147483648) (2147483647) := ⟨by decide, ⟨_, rfl, ff_X7_40⟩, rfl⟩
theorem fp_X7_40 : tPi RX7 40 6 6 (-2147483648) (2147483647) .int := ⟨by decide, ⟨_, rfl, fq_X7_40⟩, rfl⟩
theorem ff_X7_44 : tFf RX7 44 2 4 := ⟨_, _, _, _, fc_X3, Nat.le_of_ble_eq_true rfl, t_w2 43 rfl rfl⟩
theorem fq_X7_44 : tFp RX7 44 2 4 .int := ⟨_, _, _, _, fc_X3, Nat.le_of_ble_eq_true rfl, t_w2 43 rfl rfl, rfl, rfl⟩
theorem fi_X7_44 : tFi RX7 44 5 4 (-2147483648) (2147483647) := ⟨by decide, ⟨_, rfl, ff_X7_44⟩, rfl⟩
theorem fp_X7_44 : tPi RX7 44 5 4 (-2147483648) (2147483647) .int := ⟨by decide, ⟨_, rfl, fq_X7_44⟩, rfl⟩
theorem ml_X7_47 : Cond.methodLink RX7 47 yX7_workDone ∈ tWS := t_w5 50 rfl rfl
theorem ml_X7_52 : Cond.methodLink RX7 52 yX8_copyFrom ∈ tWS := t_w5 60 rfl rfl
theorem ml_X7_55 : Cond.methodLink RX7 55 yX8_countBoxes ∈ tWS := t_w5 73 rfl rfl
theorem ml_X7_58 : Cond.methodLink RX7 58 yX7_beginAgain ∈ tWS := t_w5 56 rfl rfl
theorem ml_X7_61 : Cond.methodLink RX7 61 yX3_layOut ∈ tWS := t_w5 74 rfl rfl
theorem ml_X7_64 : Cond.methodLink RX7 64 yX8_markAllAnew ∈ tWS := t_w5 75 rfl rfl
theorem ml_X7_67 : Cond.methodLink RX7 67 yX8_isLaidLike ∈ tWS := t_w5 79 rfl rfl
theorem ml_X7_71 : Cond.methodLink RX7 71 yX8_tellScreen ∈ tWS := t_w5 100 rfl rfl
theorem ff_X7_75 : tFf RX7 75 7 9 := ⟨_, _, _, _, fc_X8, Nat.le_of_ble_eq_true rfl, t_w1 230 rfl rfl⟩
theorem fq_X7_75 : tFp RX7 75 7 9 .int := ⟨_, _, _, _, fc_X8, Nat.le_of_ble_eq_true rfl, t_w1 230 rfl rfl, rfl, rfl⟩
theorem fi_X7_75 : tFi RX7 75 2 9 (-2147483648) (2147483647) := ⟨by decide, ⟨_, rfl, ff_X7_75⟩, rfl⟩
theorem fp_X7_75 : tPi RX7 75 2 9 (-2147483648) (2147483647) .int := ⟨by decide, ⟨_, rfl, fq_X7_75⟩, rfl⟩
theorem ml_X7_78 : Cond.methodLink RX7 78 yX8_has ∈ tWS := t_w5 95 rfl rfl
theorem ff_X7_82 : tFf RX7 82 7 11 := ⟨_, _, _, _, fc_X8, Nat.le_of_ble_eq_true rfl, t_w1 238 rfl rfl⟩
theorem fq_X7_82 : tFp RX7 82 7 11 .int := ⟨_, _, _, _, fc_X8, Nat.le_of_ble_eq_true rfl, t_w1 238 rfl rfl, rfl, rfl⟩
theorem fi_X7_82 : tFi RX7 82 2 11 (-2147483648) (2147483647) := ⟨by decide, ⟨_, rfl, ff_X7_82⟩, rfl⟩
theorem fp_X7_82 : tPi RX7 82 2 11 (-2147483648) (2147483647) .int := ⟨by decide, ⟨_, rfl, fq_X7_82⟩, rfl⟩
theorem ml_X7_85 : Cond.methodLink RX7 85 yX7_tryScreen ∈ tWS := t_w5 96 rfl rfl
theorem ml_X7_88 : Cond.methodLink RX7 88 yX8_overBits ∈ tWS := t_w5 101 rfl rfl
theorem ff_X7_91 : tFf RX7 91 7 0 := ⟨_, _, _, _, fc_X8, Nat.le_of_ble_eq_true rfl, t_w1 205 rfl rfl⟩
theorem fr_X7_91 : tFr RX7 91 2 0 10 := ⟨by decide, ⟨_, rfl, ff_X7_91⟩, rfl⟩
theorem ff_X7_95 : tFf RX7 95 0 3 := ⟨_, _, _, _, fc_X0, Nat.le_of_ble_eq_true rfl, t_w1 127 rfl rfl⟩
theorem fr_X7_95 : tFr RX7 95 3 3 4 := ⟨by decide, ⟨_, rfl, ff_X7_95⟩, rfl⟩
theorem ff_X7_101 : tFf RX7 101 1 8 := ⟨_, _, _, _, fc_X2, Nat.le_of_ble_eq_true rfl, t_w1 75 rfl rfl⟩
theorem fq_X7_101 : tFp RX7 101 1 8 .int := ⟨_, _, _, _, fc_X2, Nat.le_of_ble_eq_true rfl, t_w1 75 rfl rfl, rfl, rfl⟩
theorem fi_X7_101 : tFi RX7 101 4 8 (-2147483648) (2147483647) := ⟨by decide, ⟨_, rfl, ff_X7_101⟩, rfl⟩
theorem fp_X7_101 : tPi RX7 101 4 8 (-2147483648) (2147483647) .int := ⟨by decide, ⟨_, rfl, fq_X7_101⟩, rfl⟩
theorem ml_X7_106 : Cond.methodLink RX7 106 yX8_mark ∈ tWS := t_w5 118 rfl rfl
theorem ff_X7_110 : tFf RX7 110 2 3 := ⟨_, _, _, _, fc_X3, Nat.le_of_ble_eq_true rfl, t_w2 42 rfl rfl⟩
theorem fq_X7_110 : tFp RX7 110 2 3 .int := ⟨_, _, _, _, fc_X3, Nat.le_of_ble_eq_true rfl, t_w2 42 rfl rfl, rfl, rfl⟩
theorem fi_X7_110 : tFi RX7 110 5 3 (-2147483648) (2147483647) := ⟨by decide, ⟨_, rfl, ff_X7_110⟩, rfl⟩
theorem fp_X7_110 : tPi RX7 110 5 3 (-2147483648) (2147483647) .int := ⟨by decide, ⟨_, rfl, fq_X7_110⟩, rfl⟩
theorem ff_X7_113 : tFf RX7 113 2 2 := ⟨_, _, _, _, fc_X3, Nat.le_of_ble_eq_true rfl, t_w2 39 rfl rfl⟩
theorem fq_X7_113 : tFp RX7 113 2 2 .int := ⟨_, _, _, _, fc_X3, Nat.le_of_ble_eq_true rfl, t_w2 39 rfl rfl, rfl, rfl⟩
theorem fi_X7_113 : tFi RX7 113 5 2 (-2147483648) (2147483647) := ⟨by decide, ⟨_, rfl, ff_X7_113⟩, rfl⟩
theorem fp_X7_113 : tPi RX7 113 5 2 (-2147483648) (2147483647) .int := ⟨by decide, ⟨_, rfl, fq_X7_113⟩, rfl⟩
theorem ml_X7_116 : Cond.methodLink RX7 116 yX7_tryTold ∈ tWS := t_w5 127 rfl rfl
theorem ff_X7_120 : tFf RX7 120 1 7 := ⟨_, _, _, _, fc_X2, Nat.le_of_ble_eq_true rfl, t_w1 70 rfl rfl⟩
theorem fq_X7_120 : tFp RX7 120 1 7 .int := ⟨_, _, _, _, fc_X2, Nat.le_of_ble_eq_true rfl, t_w1 70 rfl rfl, rfl, rfl⟩
theorem fi_X7_120 : tFi RX7 120 4 7 (-2147483648) (2147483647) := ⟨by decide, ⟨_, rfl, ff_X7_120⟩, rfl⟩
theorem fp_X7_120 : tPi RX7 120 4 7 (-2147483648) (2147483647) .int := ⟨by decide, ⟨_, rfl, fq_X7_120⟩, rfl⟩
theorem ml_X7_123 : Cond.methodLink RX7 123 yX8_tell ∈ tWS := t_w5 131 rfl rfl
theorem ml_X7_127 : Cond.methodLink RX7 127 yX0_mayBeTold ∈ tWS := t_w5 140 rfl rfl
theorem ff_X7_131 : tFf RX7 131 7 3 := ⟨_, _, _, _, fc_X8, Nat.le_of_ble_eq_true rfl, t_w1 210 rfl rfl⟩
theorem fq_X7_131 : tFp RX7 131 7 3 .int := ⟨_, _, _, _, fc_X8, Nat.le_of_ble_eq_true rfl, t_w1 210 rfl rfl, rfl, rfl⟩
theorem fi_X7_131 : tFi RX7 131 2 3 (0) (8) := ⟨by decide, ⟨_, rfl, ff_X7_131⟩, rfl⟩
theorem fp_X7_131 : tPi RX7 131 2 3 (0) (8) .int := ⟨by decide, ⟨_, rfl, fq_X7_131⟩, rfl⟩
theorem ff_X7_134 : tFf RX7 134 7 1 := ⟨_, _, _, _, fc_X8, Nat.le_of_ble_eq_true rfl, t_w1 207 rfl rfl⟩
theorem fr_X7_134 : tFr RX7 134 2 1 13 := ⟨by decide, ⟨_, rfl, ff_X7_134⟩, rfl⟩
theorem ff_X7_137 : tFf RX7 137 7 2 := ⟨_, _, _, _, fc_X8, Nat.le_of_ble_eq_true rfl, t_w1 209 rfl rfl⟩
theorem fr_X7_137 : tFr RX7 137 2 2 13 := ⟨by decide, ⟨_, rfl, ff_X7_137⟩, rfl⟩
theorem ff_X7_140 : tFf RX7 140 2 1 := ⟨_, _, _, _, fc_X3, Nat.le_of_ble_eq_true rfl, t_w2 37 rfl rfl⟩
theorem fq_X7_140 : tFp RX7 140 2 1 .int := ⟨_, _, _, _, fc_X3, Nat.le_of_ble_eq_true rfl, t_w2 37 rfl rfl, rfl, rfl⟩
theorem fi_X7_140 : tFi RX7 140 5 1 (-2147483648) (2147483647) := ⟨by decide, ⟨_, rfl, ff_X7_140⟩, rfl⟩
theorem fp_X7_140 : tPi RX7 140 5 1 (-2147483648) (2147483647) .int := ⟨by decide, ⟨_, rfl, fq_X7_140⟩, rfl⟩
theorem ff_X7_143 : tFf RX7 143 7 8 := ⟨_, _, _, _, fc_X8, Nat.le_of_ble_eq_true rfl, t_w1 227 rfl rfl⟩
theorem fq_X7_143 : tFp RX7 143 7 8 .int := ⟨_, _, _, _, fc_X8, Nat.le_of_ble_eq_true rfl, t_w1 227 rfl rfl, rfl, rfl⟩
theorem fi_X7_143 : tFi RX7 143 2 8 (0) (24) := ⟨by decide, ⟨_, rfl, ff_X7_143⟩, rfl⟩
theorem fp_X7_143 : tPi RX7 143 2 8 (0) (24) .int := ⟨by decide, ⟨_, rfl, fq_X7_143⟩, rfl⟩
theorem ff_X7_146 : tFf RX7 146 0 4 := ⟨_, _, _, _, fc_X0, Nat.le_of_ble_eq_true rfl, t_w1 135 rfl rfl⟩
theorem fq_X7_146 : tFp RX7 146 0 4 .int := ⟨_, _, _, _, fc_X0, Nat.le_of_ble_eq_true rfl, t_w1 135 rfl rfl, rfl, rfl⟩
theorem fi_X7_146 : tFi RX7 146 3 4 (-2147483648) (2147483647) := ⟨by decide, ⟨_, rfl, ff_X7_146⟩, rfl⟩
theorem fp_X7_146 : tPi RX7 146 3 4 (-2147483648) (2147483647) .int := ⟨by decide, ⟨_, rfl, fq_X7_146⟩, rfl⟩
theorem ml_X7_149 : Cond.methodLink RX7 149 yJ6_bitCount_0f7a4 ∈ tWS := t_w5 170 rfl rfl
theorem ml_X7_159 : Cond.methodLink RX7 159 yX8_draw ∈ tWS := t_w5 189 rfl rfl
theorem ml_X7_162 : Cond.methodLink RX7 162 yX8_overTogether ∈ tWS := t_w5 194 rfl rfl
theorem ff_X8_11 : tFf RX8 11 7 0 := ⟨_, _, _, _, fc_X8, Nat.le_of_ble_eq_true rfl, t_w1 201 rfl rfl⟩
theorem fr_X8_11 : tFr RX8 11 2 0 10 := ⟨by decide, ⟨_, rfl, ff_X8_11⟩, rfl⟩
theorem ff_X8_17 : tFf RX8 17 7 1 := ⟨_, _, _, _, fc_X8, Nat.le_of_ble_eq_true rfl, t_w1 206 rfl rfl⟩
theorem fr_X8_17 : tFr RX8 17 2 1 13 := ⟨by decide, ⟨_, rfl, ff_X8_17⟩, rfl⟩
theorem ff_X8_21 : tFf RX8 21 7 2 := ⟨_, _, _, _, fc_X8, Nat.le_of_ble_eq_true rfl, t_w1 208 rfl rfl⟩
theorem fr_X8_21 : tFr RX8 21 2 2 13 := ⟨by decide, ⟨_, rfl, ff_X8_21⟩, rfl⟩
theorem ff_X8_24 : tFf RX8 24 7 9 := ⟨_, _, _, _, fc_X8, Nat.le_of_ble_eq_true rfl, t_w1 228 rfl rfl⟩
theorem fq_X8_24 : tFp RX8 24 7 9 .int := ⟨_, _, _, _, fc_X8, Nat.le_of_ble_eq_true rfl, t_w1 228 rfl rfl, rfl, rfl⟩
theorem fi_X8_24 : tFi RX8 24 2 9 (-2147483648) (2147483647) := ⟨by decide, ⟨_, rfl, ff_X8_24⟩, rfl⟩
theorem fp_X8_24 : tPi RX8 24 2 9 (-2147483648) (2147483647) .int := ⟨by decide, ⟨_, rfl, fq_X8_24⟩, rfl⟩
theorem ff_X8_28 : tFf RX8 28 7 10 := ⟨_, _, _, _, fc_X8, Nat.le_of_ble_eq_true rfl, t_w1 232 rfl rfl⟩
theorem fq_X8_28 : tFp RX8 28 7 10 .int := ⟨_, _, _, _, fc_X8, Nat.le_of_ble_eq_true rfl, t_w1 232 rfl rfl, rfl, rfl⟩
theorem fi_X8_28 : tFi RX8 28 2 10 (-2147483648) (2147483647) := ⟨by decide, ⟨_, rfl, ff_X8_28⟩, rfl⟩
theorem fp_X8_28 : tPi RX8 28 2 10 (-2147483648) (2147483647) .int := ⟨by decide, ⟨_, rfl, fq_X8_28⟩, rfl⟩
theorem ff_X8_31 : tFf RX8 31 7 11 := ⟨_, _, _, _, fc_X8, Nat.le_of_ble_eq_true rfl, t_w1 235 rfl rfl⟩
theorem fq_X8_31 : tFp RX8 31 7 11 .int := ⟨_, _, _, _, fc_X8, Nat.le_of_ble_eq_true rfl, t_w1 235 rfl rfl, rfl, rfl⟩
theorem fi_X8_31 : tFi RX8 31 2 11 (-2147483648) (2147483647) := ⟨by decide, ⟨_, rfl, ff_X8_31⟩, rfl⟩
theorem fp_X8_31 : tPi RX8 31 2 11 (-2147483648) (2147483647) .int := ⟨by decide, ⟨_, rfl, fq_X8_31⟩, rfl⟩
theorem ff_X8_34 : tFf RX8 34 7 12 := ⟨_, _, _, _, fc_X8, Nat.le_of_ble_eq_true rfl, t_w1 239 rfl rfl⟩
theorem fq_X8_34 : tFp RX8 34 7 12 .int := ⟨_, _, _, _, fc_X8, Nat.le_of_ble_eq_true rfl, t_w1 239 rfl rfl, rfl, rfl⟩
theorem fi_X8_34 : tFi RX8 34 2 12 (-2147483648) (2147483647) := ⟨by decide, ⟨_, rfl, ff_X8_34⟩, rfl⟩
theorem fp_X8_34 : tPi RX8 34 2 12 (-2147483648) (2147483647) .int := ⟨by decide, ⟨_, rfl, fq_X8_34⟩, rfl⟩
theorem ml_X8_37 : Cond.methodLink RX8 37 yX0_init ∈ tWS := t_w1 37 rfl rfl
theorem ff_X8_40 : tFf RX8 40 7 4 := ⟨_, _, _, _, fc_X8, Nat.le_of_ble_eq_true rfl, t_w1 213 rfl rfl⟩
theorem fq_X8_40 : tFp RX8 40 7 4 .int := ⟨_, _, _, _, fc_X8, Nat.le_of_ble_eq_true rfl, t_w1 213 rfl rfl, rfl, rfl⟩
theorem fi_X8_40 : tFi RX8 40 2 4 (-2147483648) (2147483647) := ⟨by decide, ⟨_, rfl, ff_X8_40⟩, rfl⟩
theorem fp_X8_40 : tPi RX8 40 2 4 (-2147483648) (2147483647) .int := ⟨by decide, ⟨_, rfl, fq_X8_40⟩, rfl⟩
theorem ff_X8_43 : tFf RX8 43 7 5 := ⟨_, _, _, _, fc_X8, Nat.le_of_ble_eq_true rfl, t_w1 216 rfl rfl⟩
theorem fq_X8_43 : tFp RX8 43 7 5 .int := ⟨_, _, _, _, fc_X8, Nat.le_of_ble_eq_true rfl, t_w1 216 rfl rfl, rfl, rfl⟩
theorem fi_X8_43 : tFi RX8 43 2 5 (-2147483648) (2147483647) := ⟨by decide, ⟨_, rfl, ff_X8_43⟩, rfl⟩
theorem fp_X8_43 : tPi RX8 43 2 5 (-2147483648) (2147483647) .int := ⟨by decide, ⟨_, rfl, fq_X8_43⟩, rfl⟩
theorem ml_X8_46 : Cond.methodLink RX8 46 yJ6_bitCount_0f7a4 ∈ tWS := t_w3 91 rfl rfl
theorem ff_X8_52 : tFf RX8 52 0 2 := ⟨_, _, _, _, fc_X0, Nat.le_of_ble_eq_true rfl, t_w1 123 rfl rfl⟩
theorem fr_X8_52 : tFr RX8 52 3 2 12 := ⟨by decide, ⟨_, rfl, ff_X8_52⟩, rfl⟩
theorem ml_X8_55 : Cond.methodLink RX8 55 yX8_has ∈ tWS := t_w3 12 rfl rfl
theorem ff_X8_59 : tFf RX8 59 0 10 := ⟨_, _, _, _, fc_X0, Nat.le_of_ble_eq_true rfl, t_w1 160 rfl rfl⟩
theorem fq_X8_59 : tFp RX8 59 0 10 .int := ⟨_, _, _, _, fc_X0, Nat.le_of_ble_eq_true rfl, t_w1 160 rfl rfl, rfl, rfl⟩
theorem fi_X8_59 : tFi RX8 59 3 10 (0) (8) := ⟨by decide, ⟨_, rfl, ff_X8_59⟩, rfl⟩
theorem fp_X8_59 : tPi RX8 59 3 10 (0) (8) .int := ⟨by decide, ⟨_, rfl, fq_X8_59⟩, rfl⟩
theorem ff_X8_62 : tFf RX8 62 0 4 := ⟨_, _, _, _, fc_X0, Nat.le_of_ble_eq_true rfl, t_w1 133 rfl rfl⟩
theorem fq_X8_62 : tFp RX8 62 0 4 .int := ⟨_, _, _, _, fc_X0, Nat.le_of_ble_eq_true rfl, t_w1 133 rfl rfl, rfl, rfl⟩
theorem fi_X8_62 : tFi RX8 62 3 4 (-2147483648) (2147483647) := ⟨by decide, ⟨_, rfl, ff_X8_62⟩, rfl⟩
theorem fp_X8_62 : tPi RX8 62 3 4 (-2147483648) (2147483647) .int := ⟨by decide, ⟨_, rfl, fq_X8_62⟩, rfl⟩
theorem ml_X8_65 : Cond.methodLink RX8 65 yX1_childrenOf ∈ tWS := t_w3 13 rfl rfl
theorem ff_X8_70 : tFf RX8 70 7 8 := ⟨_, _, _, _, fc_X8, Nat.le_of_ble_eq_true rfl, t_w1 226 rfl rfl⟩
theorem fq_X8_70 : tFp RX8 70 7 8 .int := ⟨_, _, _, _, fc_X8, Nat.le_of_ble_eq_true rfl, t_w1 226 rfl rfl, rfl, rfl⟩
theorem fi_X8_70 : tFi RX8 70 2 8 (0) (24) := ⟨by decide, ⟨_, rfl, ff_X8_70⟩, rfl⟩
theorem fp_X8_70 : tPi RX8 70 2 8 (0) (24) .int := ⟨by decide, ⟨_, rfl, fq_X8_70⟩, rfl⟩
theorem ff_X8_73 : tFf RX8 73 0 6 := ⟨_, _, _, _, fc_X0, Nat.le_of_ble_eq_true rfl, t_w1 141 rfl rfl⟩
theorem fq_X8_73 : tFp RX8 73 0 6 .int := ⟨_, _, _, _, fc_X0, Nat.le_of_ble_eq_true rfl, t_w1 141 rfl rfl, rfl, rfl⟩
theorem fi_X8_73 : tFi RX8 73 3 6 (-2147483648) (2147483647) := ⟨by decide, ⟨_, rfl, ff_X8_73⟩, rfl⟩
theorem fp_X8_73 : tPi RX8 73 3 6 (-2147483648) (2147483647) .int := ⟨by decide, ⟨_, rfl, fq_X8_73⟩, rfl⟩
theorem ml_X8_76 : Cond.methodLink RX8 76 yX0_begin ∈ tWS := t_w3 22 rfl rfl
theorem ml_X8_80 : Cond.methodLink RX8 80 yX0_setNumbers ∈ tWS := t_w3 38 rfl rfl
theorem ml_X8_83 : Cond.methodLink RX8 83 yX0_addKid ∈ tWS := t_w3 43 rfl rfl
theorem ml_X8_87 : Cond.methodLink RX8 87 yX8_mark ∈ tWS := t_w3 50 rfl rfl
theorem ff_X8_90 : tFf RX8 90 0 7 := ⟨_, _, _, _, fc_X0, Nat.le_of_ble_eq_true rfl, t_w1 146 rfl rfl⟩
theorem fq_X8_90 : tFp RX8 90 0 7 .int := ⟨_, _, _, _, fc_X0, Nat.le_of_ble_eq_true rfl, t_w1 146 rfl rfl, rfl, rfl⟩
theorem fi_X8_90 : tFi RX8 90 3 7 (-2147483648) (2147483647) := ⟨by decide, ⟨_, rfl, ff_X8_90⟩, rfl⟩
theorem fp_X8_90 : tPi RX8 90 3 7 (-2147483648) (2147483647) .int := ⟨by decide, ⟨_, rfl, fq_X8_90⟩, rfl⟩
theorem ff_X8_93 : tFf RX8 93 0 8 := ⟨_, _, _, _, fc_X0, Nat.le_of_ble_eq_true rfl, t_w1 150 rfl rfl⟩
theorem fq_X8_93 : tFp RX8 93 0 8 .int := ⟨_, _, _, _, fc_X0, Nat.le_of_ble_eq_true rfl, t_w1 150 rfl rfl, rfl, rfl⟩
theorem fi_X8_93 : tFi RX8 93 3 8 (-2147483648) (2147483647) := ⟨by decide, ⟨_, rfl, ff_X8_93⟩, rfl⟩
theorem fp_X8_93 : tPi RX8 93 3 8 (-2147483648) (2147483647) .int := ⟨by decide, ⟨_, rfl, fq_X8_93⟩, rfl⟩
theorem ff_X8_96 : tFf RX8 96 0 9 := ⟨_, _, _, _, fc_X0, Nat.le_of_ble_eq_true rfl, t_w1 154 rfl rfl⟩
theorem fq_X8_96 : tFp RX8 96 0 9 .int := ⟨_, _, _, _, fc_X0, Nat.le_of_ble_eq_true rfl, t_w1 154 rfl rfl, rfl, rfl⟩
theorem fi_X8_96 : tFi RX8 96 3 9 (-2147483648) (2147483647) := ⟨by decide, ⟨_, rfl, ff_X8_96⟩, rfl⟩
theorem fp_X8_96 : tPi RX8 96 3 9 (-2147483648) (2147483647) .int := ⟨by decide, ⟨_, rfl, fq_X8_96⟩, rfl⟩
theorem ff_X8_99 : tFf RX8 99 0 1 := ⟨_, _, _, _, fc_X0, Nat.le_of_ble_eq_true rfl, t_w1 121 rfl rfl⟩
theorem fr_X8_99 : tFr RX8 99 3 1 11 := ⟨by decide, ⟨_, rfl, ff_X8_99⟩, rfl⟩
theorem ff_X8_102 : tFf RX8 102 0 5 := ⟨_, _, _, _, fc_X0, Nat.le_of_ble_eq_true rfl, t_w1 138 rfl rfl⟩
theorem fq_X8_102 : tFp RX8 102 0 5 .int := ⟨_, _, _, _, fc_X0, Nat.le_of_ble_eq_true rfl, t_w1 138 rfl rfl, rfl, rfl⟩
theorem fi_X8_102 : tFi RX8 102 3 5 (-2147483648) (2147483647) := ⟨by decide, ⟨_, rfl, ff_X8_102⟩, rfl⟩
theorem fp_X8_102 : tPi RX8 102 3 5 (-2147483648) (2147483647) .int := ⟨by decide, ⟨_, rfl, fq_X8_102⟩, rfl⟩
theorem ml_X8_105 : Cond.methodLink RX8 105 yX8_countBoxes ∈ tWS := t_w3 87 rfl rfl
theorem ml_X8_109 : Cond.methodLink RX8 109 yX8_forget ∈ tWS := t_w3 97 rfl rfl
theorem ml_X8_113 : Cond.methodLink RX8 113 yX0_placeOfKid ∈ tWS := t_w3 105 rfl rfl
theorem ml_X8_116 : Cond.methodLink RX8 116 yX0_removeKid ∈ tWS := t_w3 109 rfl rfl
theorem ff_X8_119 : tFf RX8 119 0 0 := ⟨_, _, _, _, fc_X0, Nat.le_of_ble_eq_true rfl, t_w1 116 rfl rfl⟩
theorem fi_X8_119 : tFi RX8 119 3 0 (0) (23) := ⟨by decide, ⟨_, rfl, ff_X8_119⟩, rfl⟩
theorem ff_X8_122 : tFf RX8 122 7 6 := ⟨_, _, _, _, fc_X8, Nat.le_of_ble_eq_true rfl, t_w1 220 rfl rfl⟩
theorem fq_X8_122 : tFp RX8 122 7 6 .int := ⟨_, _, _, _, fc_X8, Nat.le_of_ble_eq_true rfl, t_w1 220 rfl rfl, rfl, rfl⟩
theorem fi_X8_122 : tFi RX8 122 2 6 (-2147483648) (2147483647) := ⟨by decide, ⟨_, rfl, ff_X8_122⟩, rfl⟩
theorem fp_X8_122 : tPi RX8 122 2 6 (-2147483648) (2147483647) .int := ⟨by decide, ⟨_, rfl, fq_X8_122⟩, rfl⟩
theorem ff_X8_125 : tFf RX8 125 7 7 := ⟨_, _, _, _, fc_X8, Nat.le_of_ble_eq_true rfl, t_w1 223 rfl rfl⟩
theorem fq_X8_125 : tFp RX8 125 7 7 .int := ⟨_, _, _, _, fc_X8, Nat.le_of_ble_eq_true rfl, t_w1 223 rfl rfl, rfl, rfl⟩
theorem fi_X8_125 : tFi RX8 125 2 7 (-2147483648) (2147483647) := ⟨by decide, ⟨_, rfl, ff_X8_125⟩, rfl⟩
theorem fp_X8_125 : tPi RX8 125 2 7 (-2147483648) (2147483647) .int := ⟨by decide, ⟨_, rfl, fq_X8_125⟩, rfl⟩
theorem ml_X8_128 : Cond.methodLink RX8 128 yX8_kidOf ∈ tWS := t_w3 101 rfl rfl
theorem ff_X8_132 : tFf RX8 132 0 3 := ⟨_, _, _, _, fc_X0, Nat.le_of_ble_eq_true rfl, t_w1 129 rfl rfl⟩
theorem fr_X8_132 : tFr RX8 132 3 3 4 := ⟨by decide, ⟨_, rfl, ff_X8_132⟩, rfl⟩
theorem ml_X8_136 : Cond.methodLink RX8 136 yX2_wasJust ∈ tWS := t_w3 54 rfl rfl
theorem ff_X8_142 : tFf RX8 142 0 11 := ⟨_, _, _, _, fc_X0, Nat.le_of_ble_eq_true rfl, t_w1 163 rfl rfl⟩
theorem fq_X8_142 : tFp RX8 142 0 11 .int := ⟨_, _, _, _, fc_X0, Nat.le_of_ble_eq_true rfl, t_w1 163 rfl rfl, rfl, rfl⟩
theorem fi_X8_142 : tFi RX8 142 3 11 (-2147483648) (2147483647) := ⟨by decide, ⟨_, rfl, ff_X8_142⟩, rfl⟩
theorem fp_X8_142 : tPi RX8 142 3 11 (-2147483648) (2147483647) .int := ⟨by decide, ⟨_, rfl, fq_X8_142⟩, rfl⟩
theorem ff_X8_145 : tFf RX8 145 7 3 := ⟨_, _, _, _, fc_X8, Nat.le_of_ble_eq_true rfl, t_w1 211 rfl rfl⟩
theorem fq_X8_145 : tFp RX8 145 7 3 .int := ⟨_, _, _, _, fc_X8, Nat.le_of_ble_eq_true rfl, t_w1 211 rfl rfl, rfl, rfl⟩
theorem fi_X8_145 : tFi RX8 145 2 3 (0) (8) := ⟨by decide, ⟨_, rfl, ff_X8_145⟩, rfl⟩
theorem fp_X8_145 : tPi RX8 145 2 3 (0) (8) .int := ⟨by decide, ⟨_, rfl, fq_X8_145⟩, rfl⟩
theorem ff_X8_149 : tFf RX8 149 1 9 := ⟨_, _, _, _, fc_X2, Nat.le_of_ble_eq_true rfl, t_w1 81 rfl rfl⟩
theorem fq_X8_149 : tFp RX8 149 1 9 .int := ⟨_, _, _, _, fc_X2, Nat.le_of_ble_eq_true rfl, t_w1 81 rfl rfl, rfl, rfl⟩
theorem fi_X8_149 : tFi RX8 149 4 9 (-2147483648) (2147483647) := ⟨by decide, ⟨_, rfl, ff_X8_149⟩, rfl⟩
theorem fp_X8_149 : tPi RX8 149 4 9 (-2147483648) (2147483647) .int := ⟨by decide, ⟨_, rfl, fq_X8_149⟩, rfl⟩
theorem ff_X8_152 : tFf RX8 152 1 5 := ⟨_, _, _, _, fc_X2, Nat.le_of_ble_eq_true rfl, t_w1 64 rfl rfl⟩
theorem fq_X8_152 : tFp RX8 152 1 5 .int := ⟨_, _, _, _, fc_X2, Nat.le_of_ble_eq_true rfl, t_w1 64 rfl rfl, rfl, rfl⟩
theorem fi_X8_152 : tFi RX8 152 4 5 (-2147483648) (2147483647) := ⟨by decide, ⟨_, rfl, ff_X8_152⟩, rfl⟩
theorem fp_X8_152 : tPi RX8 152 4 5 (-2147483648) (2147483647) .int := ⟨by decide, ⟨_, rfl, fq_X8_152⟩, rfl⟩
theorem ff_X8_155 : tFf RX8 155 1 6 := ⟨_, _, _, _, fc_X2, Nat.le_of_ble_eq_true rfl, t_w1 67 rfl rfl⟩
theorem fq_X8_155 : tFp RX8 155 1 6 .int := ⟨_, _, _, _, fc_X2, Nat.le_of_ble_eq_true rfl, t_w1 67 rfl rfl, rfl, rfl⟩
theorem fi_X8_155 : tFi RX8 155 4 6 (-2147483648) (2147483647) := ⟨by decide, ⟨_, rfl, ff_X8_155⟩, rfl⟩
theorem fp_X8_155 : tPi RX8 155 4 6 (-2147483648) (2147483647) .int := ⟨by decide, ⟨_, rfl, fq_X8_155⟩, rfl⟩
theorem ml_X8_158 : Cond.methodLink RX8 158 yX8_whoIsAt ∈ tWS := t_w5 26 rfl rfl
theorem ff_X8_162 : tFf RX8 162 1 7 := ⟨_, _, _, _, fc_X2, Nat.le_of_ble_eq_true rfl, t_w1 73 rfl rfl⟩
theorem fq_X8_162 : tFp RX8 162 1 7 .int := ⟨_, _, _, _, fc_X2, Nat.le_of_ble_eq_true rfl, t_w1 73 rfl rfl, rfl, rfl⟩
theorem fi_X8_162 : tFi RX8 162 4 7 (-2147483648) (2147483647) := ⟨by decide, ⟨_, rfl, ff_X8_162⟩, rfl⟩
theorem fp_X8_162 : tPi RX8 162 4 7 (-2147483648) (2147483647) .int := ⟨by decide, ⟨_, rfl, fq_X8_162⟩, rfl⟩
theorem ff_X8_165 : tFf RX8 165 1 8 := ⟨_, _, _, _, fc_X2, Nat.le_of_ble_eq_true rfl, t_w1 78 rfl rfl⟩
theorem fq_X8_165 : tFp RX8 165 1 8 .int := ⟨_, _, _, _, fc_X2, Nat.le_of_ble_eq_true rfl, t_w1 78 rfl rfl, rfl, rfl⟩
theorem fi_X8_165 : tFi RX8 165 4 8 (-2147483648) (2147483647) := ⟨by decide, ⟨_, rfl, ff_X8_165⟩, rfl⟩
theorem fp_X8_165 : tPi RX8 165 4 8 (-2147483648) (2147483647) .int := ⟨by decide, ⟨_, rfl, fq_X8_165⟩, rfl⟩
theorem ml_X8_168 : Cond.methodLink RX8 168 yX2_isLike ∈ tWS := t_w5 83 rfl rfl
theorem ml_X8_172 : Cond.methodLink RX8 172 yX0_copyFrom ∈ tWS := t_w5 64 rfl rfl
theorem ml_L_9 : Cond.methodLink RL 9 yX9_init ∈ tWS := t_w1 22 rfl rfl
theorem ml_L_12 : Cond.methodLink RL 12 yX10_init ∈ tWS := t_w6 33 rfl rfl
theorem ml_L_13 : Cond.methodLink RL 13 yX9_comes ∈ tWS := t_w2 216 rfl rfl
theorem ml_L_17 : Cond.methodLink RL 17 yX10_comes ∈ tWS := t_w6 158 rfl rfl
theorem ml_L_18 : Cond.methodLink RL 18 yX9_tells ∈ tWS := t_w3 58 rfl rfl
theorem ml_L_22 : Cond.methodLink RL 22 yX10_tells ∈ tWS := t_w6 217 rfl rfl
theorem ml_L_23 : Cond.methodLink RL 23 yX9_drops ∈ tWS := t_w3 79 rfl rfl
theorem ml_L_27 : Cond.methodLink RL 27 yX10_drops ∈ tWS := t_w6 231 rfl rfl
theorem ml_L_28 : Cond.methodLink RL 28 yX9_moves ∈ tWS := t_w3 113 rfl rfl
theorem ml_L_32 : Cond.methodLink RL 32 yX10_moves ∈ tWS := t_w7 7 rfl rfl
theorem ml_L_33 : Cond.methodLink RL 33 yX9_screen ∈ tWS := t_w3 121 rfl rfl
theorem ml_L_36 : Cond.methodLink RL 36 yX10_screen ∈ tWS := t_w7 11 rfl rfl
theorem ml_L_37 : Cond.methodLink RL 37 yX9_of ∈ tWS := t_w3 129 rfl rfl
theorem ml_L_40 : Cond.methodLink RL 40 yX10_of ∈ tWS := t_w7 20 rfl rfl
theorem ml_L_41 : Cond.methodLink RL 41 yX9_child ∈ tWS := t_w3 136 rfl rfl
theorem ml_L_44 : Cond.methodLink RL 44 yX10_child ∈ tWS := t_w7 29 rfl rfl
theorem ml_L_45 : Cond.methodLink RL 45 yX9_letter ∈ tWS := t_w3 140 rfl rfl
theorem ml_L_48 : Cond.methodLink RL 48 yX10_letter ∈ tWS := t_w7 229 rfl rfl
theorem ml_L_49 : Cond.methodLink RL 49 yX9_reads ∈ tWS := t_w3 144 rfl rfl
theorem ml_L_52 : Cond.methodLink RL 52 yX10_reads ∈ tWS := t_w7 235 rfl rfl
theorem ml_L_53 : Cond.methodLink RL 53 yX9_printed ∈ tWS := t_w4 26 rfl rfl
theorem ml_L_56 : Cond.methodLink RL 56 yX10_printed ∈ tWS := t_w8 29 rfl rfl
theorem ml_L_57 : Cond.methodLink RL 57 yX9_lays ∈ tWS := t_w4 56 rfl rfl
theorem ml_L_61 : Cond.methodLink RL 61 yX10_lays ∈ tWS := t_w7 74 rfl rfl
theorem ml_L_62 : Cond.methodLink RL 62 yX9_at ∈ tWS := t_w4 230 rfl rfl
theorem ml_L_65 : Cond.methodLink RL 65 yX10_at ∈ tWS := t_w7 199 rfl rfl
theorem ml_L_66 : Cond.methodLink RL 66 yX9_bounds ∈ tWS := t_w5 6 rfl rfl
theorem ml_L_69 : Cond.methodLink RL 69 yX10_bounds ∈ tWS := t_w7 208 rfl rfl
theorem ml_L_70 : Cond.methodLink RL 70 yX9_asks ∈ tWS := t_w5 10 rfl rfl
theorem ml_L_73 : Cond.methodLink RL 73 yX10_asks ∈ tWS := t_w7 33 rfl rfl
theorem ml_L_74 : Cond.methodLink RL 74 yX9_hit ∈ tWS := t_w5 18 rfl rfl
theorem ml_L_77 : Cond.methodLink RL 77 yX10_hit ∈ tWS := t_w7 213 rfl rfl
theorem ml_L_78 : Cond.methodLink RL 78 yX9_told ∈ tWS := t_w5 30 rfl rfl
theorem ml_L_81 : Cond.methodLink RL 81 yX10_told ∈ tWS := t_w7 221 rfl rfl
theorem ml_L_82 : Cond.methodLink RL 82 yX9_agrees ∈ tWS := t_w5 42 rfl rfl
theorem ml_L_85 : Cond.methodLink RL 85 yX10_agrees ∈ tWS := t_w8 45 rfl rfl
theorem ml_L_86 : Cond.methodLink RL 86 yX9_narrowest ∈ tWS := t_w5 87 rfl rfl
theorem ml_L_89 : Cond.methodLink RL 89 yX10_narrowest ∈ tWS := t_w8 69 rfl rfl
theorem ml_L_90 : Cond.methodLink RL 90 yX9_tall ∈ tWS := t_w5 102 rfl rfl
theorem ml_L_93 : Cond.methodLink RL 93 yX10_tall ∈ tWS := t_w8 77 rfl rfl
theorem ml_L_94 : Cond.methodLink RL 94 yX9_reached ∈ tWS := t_w5 110 rfl rfl
theorem ml_L_97 : Cond.methodLink RL 97 yX10_reached ∈ tWS := t_w8 81 rfl rfl
theorem ml_L_98 : Cond.methodLink RL 98 yX9_bestShare ∈ tWS := t_w5 119 rfl rfl
theorem ml_L_101 : Cond.methodLink RL 101 yX10_bestShare ∈ tWS := t_w8 85 rfl rfl
theorem ml_L_102 : Cond.methodLink RL 102 yX9_fits ∈ tWS := t_w5 132 rfl rfl
theorem ml_L_105 : Cond.methodLink RL 105 yX10_fits ∈ tWS := t_w8 89 rfl rfl
theorem ml_L_106 : Cond.methodLink RL 106 yX9_plan ∈ tWS := t_w5 141 rfl rfl
theorem ml_L_109 : Cond.methodLink RL 109 yX10_plan ∈ tWS := t_w8 93 rfl rfl
theorem ml_L_110 : Cond.methodLink RL 110 yX9_saved ∈ tWS := t_w5 149 rfl rfl
theorem ml_L_113 : Cond.methodLink RL 113 yX10_saved ∈ tWS := t_w8 97 rfl rfl
theorem ml_L_114 : Cond.methodLink RL 114 yX9_likely ∈ tWS := t_w5 157 rfl rfl
theorem ml_L_118 : Cond.methodLink RL 118 yX10_likely ∈ tWS := t_w8 105 rfl rfl
theorem ml_L_119 : Cond.methodLink RL 119 yX9_drawn ∈ tWS := t_w5 181 rfl rfl
theorem ml_L_122 : Cond.methodLink RL 122 yX10_drawn ∈ tWS := t_w8 118 rfl rfl
theorem ml_L_123 : Cond.methodLink RL 123 yX9_seed ∈ tWS := t_w5 198 rfl rfl
theorem ml_L_126 : Cond.methodLink RL 126 yX10_seed ∈ tWS := t_w8 123 rfl rfl
theorem ml_L_127 : Cond.methodLink RL 127 yX9_mean ∈ tWS := t_w5 202 rfl rfl
theorem ml_L_131 : Cond.methodLink RL 131 yX10_mean ∈ tWS := t_w8 127 rfl rfl
theorem ml_L_132 : Cond.methodLink RL 132 yX9_taken ∈ tWS := t_w5 207 rfl rfl
theorem ml_L_135 : Cond.methodLink RL 135 yX10_taken ∈ tWS := t_w8 131 rfl rfl
theorem ml_L_136 : Cond.methodLink RL 136 yX9_judge ∈ tWS := t_w5 215 rfl rfl
theorem ml_L_139 : Cond.methodLink RL 139 yX10_judge ∈ tWS := t_w8 135 rfl rfl
theorem ml_L_140 : Cond.methodLink RL 140 yX9_tape ∈ tWS := t_w5 226 rfl rfl
theorem ml_L_143 : Cond.methodLink RL 143 yX10_tape ∈ tWS := t_w8 142 rfl rfl
theorem ml_L_146 : Cond.methodLink RL 146 yX9_item ∈ tWS := t_w5 237 rfl rfl
theorem ml_L_150 : Cond.methodLink RL 150 yX10_item ∈ tWS := t_w8 147 rfl rfl
theorem ml_L_151 : Cond.methodLink RL 151 yX9_peek ∈ tWS := t_w6 9 rfl rfl
theorem ml_L_154 : Cond.methodLink RL 154 yX10_peek ∈ tWS := t_w8 154 rfl rfl
theorem ml_L_155 : Cond.methodLink RL 155 yX9_shift ∈ tWS := t_w6 13 rfl rfl
theorem ml_L_159 : Cond.methodLink RL 159 yX10_shift ∈ tWS := t_w8 158 rfl rfl
theorem ml_L_160 : Cond.methodLink RL 160 yX9_image ∈ tWS := t_w6 22 rfl rfl
theorem ml_L_163 : Cond.methodLink RL 163 yX10_image ∈ tWS := t_w8 162 rfl rfl
theorem ml_L_164 : Cond.methodLink RL 164 yX9_undo ∈ tWS := t_w6 27 rfl rfl
theorem ml_L_167 : Cond.methodLink RL 167 yX10_undo ∈ tWS := t_w8 166 rfl rfl
theorem ff_X10_9 : tFf RX10 9 9 0 := ⟨_, _, _, _, fc_X10, Nat.le_of_ble_eq_true rfl, t_w6 37 rfl rfl⟩
theorem fq_X10_9 : tFp RX10 9 9 0 (.array .int) := ⟨_, _, _, _, fc_X10, Nat.le_of_ble_eq_true rfl, t_w6 37 rfl rfl, rfl, rfl⟩
theorem ff_X10_15 : tFf RX10 15 9 1 := ⟨_, _, _, _, fc_X10, Nat.le_of_ble_eq_true rfl, t_w6 38 rfl rfl⟩
theorem ff_X10_18 : tFf RX10 18 9 2 := ⟨_, _, _, _, fc_X10, Nat.le_of_ble_eq_true rfl, t_w6 39 rfl rfl⟩
theorem ff_X10_21 : tFf RX10 21 9 3 := ⟨_, _, _, _, fc_X10, Nat.le_of_ble_eq_true rfl, t_w6 40 rfl rfl⟩
theorem ff_X10_24 : tFf RX10 24 9 4 := ⟨_, _, _, _, fc_X10, Nat.le_of_ble_eq_true rfl, t_w6 41 rfl rfl⟩
theorem ff_X10_27 : tFf RX10 27 9 12 := ⟨_, _, _, _, fc_X10, Nat.le_of_ble_eq_true rfl, t_w6 49 rfl rfl⟩
theorem ff_X10_30 : tFf RX10 30 9 13 := ⟨_, _, _, _, fc_X10, Nat.le_of_ble_eq_true rfl, t_w6 50 rfl rfl⟩
theorem ff_X10_33 : tFf RX10 33 9 14 := ⟨_, _, _, _, fc_X10, Nat.le_of_ble_eq_true rfl, t_w6 51 rfl rfl⟩
theorem ff_X10_36 : tFf RX10 36 9 15 := ⟨_, _, _, _, fc_X10, Nat.le_of_ble_eq_true rfl, t_w6 52 rfl rfl⟩
theorem ff_X10_39 : tFf RX10 39 9 16 := ⟨_, _, _, _, fc_X10, Nat.le_of_ble_eq_true rfl, t_w6 53 rfl rfl⟩
theorem ff_X10_42 : tFf RX10 42 9 17 := ⟨_, _, _, _, fc_X10, Nat.le_of_ble_eq_true rfl, t_w6 54 rfl rfl⟩
theorem ff_X10_45 : tFf RX10 45 9 19 := ⟨_, _, _, _, fc_X10, Nat.le_of_ble_eq_true rfl, t_w6 56 rfl rfl⟩
theorem ff_X10_48 : tFf RX10 48 9 22 := ⟨_, _, _, _, fc_X10, Nat.le_of_ble_eq_true rfl, t_w6 59 rfl rfl⟩
theorem ff_X10_51 : tFf RX10 51 9 23 := ⟨_, _, _, _, fc_X10, Nat.le_of_ble_eq_true rfl, t_w6 60 rfl rfl⟩
theorem ff_X10_54 : tFf RX10 54 9 24 := ⟨_, _, _, _, fc_X10, Nat.le_of_ble_eq_true rfl, t_w6 61 rfl rfl⟩
theorem ff_X10_57 : tFf RX10 57 9 28 := ⟨_, _, _, _, fc_X10, Nat.le_of_ble_eq_true rfl, t_w6 65 rfl rfl⟩
theorem ff_X10_60 : tFf RX10 60 9 29 := ⟨_, _, _, _, fc_X10, Nat.le_of_ble_eq_true rfl, t_w6 66 rfl rfl⟩
theorem ff_X10_63 : tFf RX10 63 9 31 := ⟨_, _, _, _, fc_X10, Nat.le_of_ble_eq_true rfl, t_w6 68 rfl rfl⟩
theorem ff_X10_66 : tFf RX10 66 9 33 := ⟨_, _, _, _, fc_X10, Nat.le_of_ble_eq_true rfl, t_w6 70 rfl rfl⟩
theorem ff_X10_69 : tFf RX10 69 9 35 := ⟨_, _, _, _, fc_X10, Nat.le_of_ble_eq_true rfl, t_w6 72 rfl rfl⟩
theorem ff_X10_72 : tFf RX10 72 9 36 := ⟨_, _, _, _, fc_X10, Nat.le_of_ble_eq_true rfl, t_w6 73 rfl rfl⟩
theorem ff_X10_75 : tFf RX10 75 9 37 := ⟨_, _, _, _, fc_X10, Nat.le_of_ble_eq_true rfl, t_w6 74 rfl rfl⟩
theorem ff_X10_78 : tFf RX10 78 9 38 := ⟨_, _, _, _, fc_X10, Nat.le_of_ble_eq_true rfl, t_w6 75 rfl rfl⟩
theorem ff_X10_82 : tFf RX10 82 9 39 := ⟨_, _, _, _, fc_X10, Nat.le_of_ble_eq_true rfl, t_w6 76 rfl rfl⟩
theorem ml_X10_87 : Cond.methodLink RX10 87 yX10_in ∈ tWS := t_w6 167 rfl rfl
theorem ml_X10_91 : Cond.methodLink RX10 91 yX10_get ∈ tWS := t_w6 170 rfl rfl
theorem ml_X10_95 : Cond.methodLink RX10 95 yX10_leastOf ∈ tWS := t_w6 184 rfl rfl
theorem ml_X10_99 : Cond.methodLink RX10 99 yX10_mostOf ∈ tWS := t_w6 187 rfl rfl
theorem ml_X10_102 : Cond.methodLink RX10 102 yX10_put ∈ tWS := t_w6 205 rfl rfl
theorem ml_X10_106 : Cond.methodLink RX10 106 yX10_isFixed ∈ tWS := t_w6 213 rfl rfl
theorem ml_X10_110 : Cond.methodLink RX10 110 yX10_numbersOf ∈ tWS := t_w6 178 rfl rfl
theorem ml_X10_113 : Cond.methodLink RX10 113 yX10_marks ∈ tWS := t_w6 209 rfl rfl
theorem ml_X10_117 : Cond.methodLink RX10 117 yX10_manyOf ∈ tWS := t_w6 194 rfl rfl
theorem ml_X10_120 : Cond.methodLink RX10 120 yX10_mayBe ∈ tWS := t_w6 181 rfl rfl
theorem ml_X10_124 : Cond.methodLink RX10 124 yX10_takes ∈ tWS := t_w6 198 rfl rfl
theorem ml_X10_127 : Cond.methodLink RX10 127 yX10_isBox ∈ tWS := t_w6 162 rfl rfl
theorem ml_X10_132 : Cond.methodLink RX10 132 yX10_areGood ∈ tWS := t_w6 175 rfl rfl
theorem ml_X10_136 : Cond.methodLink RX10 136 yX10_isRoom ∈ tWS := t_w6 190 rfl rfl
theorem ml_X10_139 : Cond.methodLink RX10 139 yX10_putBox ∈ tWS := t_w6 201 rfl rfl
theorem ml_X10_147 : Cond.methodLink RX10 147 yX10_isToldGood ∈ tWS := t_w6 222 rfl rfl
theorem ml_X10_150 : Cond.methodLink RX10 150 yX10_tellsIt ∈ tWS := t_w6 227 rfl rfl
theorem ml_X10_153 : Cond.methodLink RX10 153 yX10_childOf ∈ tWS := t_w6 239 rfl rfl
theorem ml_X10_156 : Cond.methodLink RX10 156 yX10_placeOf ∈ tWS := t_w6 235 rfl rfl
theorem ml_X10_159 : Cond.methodLink RX10 159 yX10_isIn ∈ tWS := t_w7 3 rfl rfl
theorem ml_X10_165 : Cond.methodLink RX10 165 yX10_screens ∈ tWS := t_w7 16 rfl rfl
theorem ml_X10_171 : Cond.methodLink RX10 171 yX10_depthOf ∈ tWS := t_w7 25 rfl rfl
theorem ml_X10_174 : Cond.methodLink RX10 174 yX10_wordOf ∈ tWS := t_w7 53 rfl rfl
theorem ml_X10_177 : Cond.methodLink RX10 177 yX10_toldBy ∈ tWS := t_w7 60 rfl rfl
theorem ml_X10_181 : Cond.methodLink RX10 181 yX10_ended ∈ tWS := t_w7 64 rfl rfl
theorem ml_X10_184 : Cond.methodLink RX10 184 yX10_held ∈ tWS := t_w7 67 rfl rfl
theorem ml_X10_187 : Cond.methodLink RX10 187 yX10_textOf ∈ tWS := t_w7 49 rfl rfl
theorem ml_X10_190 : Cond.methodLink RX10 190 yX10_mostTold ∈ tWS := t_w7 56 rfl rfl
theorem ml_X10_193 : Cond.methodLink RX10 193 yX10_allTold ∈ tWS := t_w7 70 rfl rfl
theorem ml_X10_196 : Cond.methodLink RX10 196 yX10_untold ∈ tWS := t_w7 41 rfl rfl
theorem ml_X10_199 : Cond.methodLink RX10 199 yX10_answerOf ∈ tWS := t_w7 45 rfl rfl
theorem ff_X10_202 : tFf RX10 202 9 7 := ⟨_, _, _, _, fc_X10, Nat.le_of_ble_eq_true rfl, t_w6 44 rfl rfl⟩
theorem fq_X10_202 : tFp RX10 202 9 7 .int := ⟨_, _, _, _, fc_X10, Nat.le_of_ble_eq_true rfl, t_w6 44 rfl rfl, rfl, rfl⟩
theorem ml_X10_206 : Cond.methodLink RX10 206 yX10_asksIt ∈ tWS := t_w7 37 rfl rfl
theorem ml_X10_209 : Cond.methodLink RX10 209 yX10_ownBase ∈ tWS := t_w7 191 rfl rfl
theorem ff_X10_212 : tFf RX10 212 9 9 := ⟨_, _, _, _, fc_X10, Nat.le_of_ble_eq_true rfl, t_w6 46 rfl rfl⟩
theorem fq_X10_212 : tFp RX10 212 9 9 .int := ⟨_, _, _, _, fc_X10, Nat.le_of_ble_eq_true rfl, t_w6 46 rfl rfl, rfl, rfl⟩
theorem ff_X10_215 : tFf RX10 215 9 8 := ⟨_, _, _, _, fc_X10, Nat.le_of_ble_eq_true rfl, t_w6 45 rfl rfl⟩
theorem fq_X10_215 : tFp RX10 215 9 8 .int := ⟨_, _, _, _, fc_X10, Nat.le_of_ble_eq_true rfl, t_w6 45 rfl rfl, rfl, rfl⟩
theorem ff_X10_218 : tFf RX10 218 9 20 := ⟨_, _, _, _, fc_X10, Nat.le_of_ble_eq_true rfl, t_w6 57 rfl rfl⟩
theorem fq_X10_218 : tFp RX10 218 9 20 .int := ⟨_, _, _, _, fc_X10, Nat.le_of_ble_eq_true rfl, t_w6 57 rfl rfl, rfl, rfl⟩
theorem ff_X10_221 : tFf RX10 221 9 18 := ⟨_, _, _, _, fc_X10, Nat.le_of_ble_eq_true rfl, t_w6 55 rfl rfl⟩
theorem fq_X10_221 : tFp RX10 221 9 18 .int := ⟨_, _, _, _, fc_X10, Nat.le_of_ble_eq_true rfl, t_w6 55 rfl rfl, rfl, rfl⟩
theorem ml_X10_224 : Cond.methodLink RX10 224 yX10_low ∈ tWS := t_w7 98 rfl rfl
theorem ml_X10_227 : Cond.methodLink RX10 227 yX10_most ∈ tWS := t_w7 102 rfl rfl
theorem ml_X10_230 : Cond.methodLink RX10 230 yX10_ends ∈ tWS := t_w7 94 rfl rfl
theorem ml_X10_233 : Cond.methodLink RX10 233 yX10_less ∈ tWS := t_w7 114 rfl rfl
theorem ml_X10_236 : Cond.methodLink RX10 236 yX10_lay ∈ tWS := t_w7 86 rfl rfl
theorem ml_X10_240 : Cond.methodLink RX10 240 yX10_sets ∈ tWS := t_w7 117 rfl rfl
theorem ml_X10_243 : Cond.methodLink RX10 243 yX10_sizeOf ∈ tWS := t_w7 121 rfl rfl
theorem ml_X10_246 : Cond.methodLink RX10 246 yX10_limited ∈ tWS := t_w7 129 rfl rfl
theorem ml_X10_249 : Cond.methodLink RX10 249 yX10_beside ∈ tWS := t_w7 149 rfl rfl
theorem ml_X10_252 : Cond.methodLink RX10 252 yX10_alongOf ∈ tWS := t_w7 160 rfl rfl
theorem ml_X10_255 : Cond.methodLink RX10 255 yX10_gapsOf ∈ tWS := t_w7 171 rfl rfl
theorem ml_X10_258 : Cond.methodLink RX10 258 yX10_hasPart ∈ tWS := t_w7 156 rfl rfl
theorem ff_X10_261 : tFf RX10 261 9 21 := ⟨_, _, _, _, fc_X10, Nat.le_of_ble_eq_true rfl, t_w6 58 rfl rfl⟩
theorem fq_X10_261 : tFp RX10 261 9 21 .int := ⟨_, _, _, _, fc_X10, Nat.le_of_ble_eq_true rfl, t_w6 58 rfl rfl, rfl, rfl⟩
theorem ml_X10_264 : Cond.methodLink RX10 264 yX10_roundOf ∈ tWS := t_w7 175 rfl rfl
theorem ml_X10_267 : Cond.methodLink RX10 267 yX10_layAlong ∈ tWS := t_w7 163 rfl rfl
theorem ml_X10_271 : Cond.methodLink RX10 271 yX10_parts ∈ tWS := t_w7 167 rfl rfl
theorem ml_X10_274 : Cond.methodLink RX10 274 yX10_endsRow ∈ tWS := t_w7 179 rfl rfl
theorem ml_X10_277 : Cond.methodLink RX10 277 yX10_lineOf ∈ tWS := t_w7 183 rfl rfl
theorem ml_X10_280 : Cond.methodLink RX10 280 yX10_belowOf ∈ tWS := t_w7 195 rfl rfl
theorem ml_X10_283 : Cond.methodLink RX10 283 yX10_baseOf ∈ tWS := t_w7 187 rfl rfl
theorem ml_X10_287 : Cond.methodLink RX10 287 yX10_layText ∈ tWS := t_w7 106 rfl rfl
theorem ml_X10_290 : Cond.methodLink RX10 290 yX10_layPad ∈ tWS := t_w7 110 rfl rfl
theorem ml_X10_293 : Cond.methodLink RX10 293 yX10_layLimit ∈ tWS := t_w7 125 rfl rfl
theorem ml_X10_296 : Cond.methodLink RX10 296 yX10_layCentre ∈ tWS := t_w7 133 rfl rfl
theorem ml_X10_299 : Cond.methodLink RX10 299 yX10_layFit ∈ tWS := t_w7 137 rfl rfl
theorem ml_X10_302 : Cond.methodLink RX10 302 yX10_layRatio ∈ tWS := t_w7 141 rfl rfl
theorem ml_X10_305 : Cond.methodLink RX10 305 yX10_layLayers ∈ tWS := t_w7 145 rfl rfl
theorem ml_X10_308 : Cond.methodLink RX10 308 yX10_layRow ∈ tWS := t_w7 152 rfl rfl
theorem ml_X10_311 : Cond.methodLink RX10 311 yX10_nextListed ∈ tWS := t_w7 82 rfl rfl
theorem ml_X10_315 : Cond.methodLink RX10 315 yX10_stepsOn ∈ tWS := t_w7 90 rfl rfl
theorem ml_X10_318 : Cond.methodLink RX10 318 yX10_layOut ∈ tWS := t_w7 78 rfl rfl
theorem ff_X10_321 : tFf RX10 321 9 10 := ⟨_, _, _, _, fc_X10, Nat.le_of_ble_eq_true rfl, t_w6 47 rfl rfl⟩
theorem fq_X10_321 : tFp RX10 321 9 10 .int := ⟨_, _, _, _, fc_X10, Nat.le_of_ble_eq_true rfl, t_w6 47 rfl rfl, rfl, rfl⟩
theorem ff_X10_324 : tFf RX10 324 9 11 := ⟨_, _, _, _, fc_X10, Nat.le_of_ble_eq_true rfl, t_w6 48 rfl rfl⟩
theorem fq_X10_324 : tFp RX10 324 9 11 .int := ⟨_, _, _, _, fc_X10, Nat.le_of_ble_eq_true rfl, t_w6 48 rfl rfl, rfl, rfl⟩
theorem ml_X10_329 : Cond.methodLink RX10 329 yX10_inTop ∈ tWS := t_w7 204 rfl rfl
theorem ml_X10_334 : Cond.methodLink RX10 334 yX10_isAt ∈ tWS := t_w7 217 rfl rfl
theorem ml_X10_337 : Cond.methodLink RX10 337 yX10_bitsOf ∈ tWS := t_w7 225 rfl rfl
theorem ff_X10_340 : tFf RX10 340 9 25 := ⟨_, _, _, _, fc_X10, Nat.le_of_ble_eq_true rfl, t_w6 62 rfl rfl⟩
theorem fq_X10_340 : tFp RX10 340 9 25 .int := ⟨_, _, _, _, fc_X10, Nat.le_of_ble_eq_true rfl, t_w6 62 rfl rfl, rfl, rfl⟩
theorem ff_X10_343 : tFf RX10 343 9 6 := ⟨_, _, _, _, fc_X10, Nat.le_of_ble_eq_true rfl, t_w6 43 rfl rfl⟩
theorem fq_X10_343 : tFp RX10 343 9 6 .int := ⟨_, _, _, _, fc_X10, Nat.le_of_ble_eq_true rfl, t_w6 43 rfl rfl, rfl, rfl⟩
theorem ff_X10_350 : tFf RX10 350 9 26 := ⟨_, _, _, _, fc_X10, Nat.le_of_ble_eq_true rfl, t_w6 63 rfl rfl⟩
theorem fq_X10_350 : tFp RX10 350 9 26 .int := ⟨_, _, _, _, fc_X10, Nat.le_of_ble_eq_true rfl, t_w6 63 rfl rfl, rfl, rfl⟩
theorem ml_X10_353 : Cond.methodLink RX10 353 yX10_nameLetter ∈ tWS := t_w8 7 rfl rfl
theorem ml_X10_356 : Cond.methodLink RX10 356 yX10_here ∈ tWS := t_w8 11 rfl rfl
theorem ff_X10_359 : tFf RX10 359 9 27 := ⟨_, _, _, _, fc_X10, Nat.le_of_ble_eq_true rfl, t_w6 64 rfl rfl⟩
theorem fq_X10_359 : tFp RX10 359 9 27 .boolean := ⟨_, _, _, _, fc_X10, Nat.le_of_ble_eq_true rfl, t_w6 64 rfl rfl, rfl, rfl⟩
theorem ff_X10_367 : tFf RX10 367 9 32 := ⟨_, _, _, _, fc_X10, Nat.le_of_ble_eq_true rfl, t_w6 69 rfl rfl⟩
theorem fq_X10_367 : tFp RX10 367 9 32 .int := ⟨_, _, _, _, fc_X10, Nat.le_of_ble_eq_true rfl, t_w6 69 rfl rfl, rfl, rfl⟩
theorem ff_X10_370 : tFf RX10 370 9 30 := ⟨_, _, _, _, fc_X10, Nat.le_of_ble_eq_true rfl, t_w6 67 rfl rfl⟩
theorem fq_X10_370 : tFp RX10 370 9 30 .int := ⟨_, _, _, _, fc_X10, Nat.le_of_ble_eq_true rfl, t_w6 67 rfl rfl, rfl, rfl⟩
theorem ml_X10_373 : Cond.methodLink RX10 373 yX10_readName ∈ tWS := t_w8 3 rfl rfl
theorem ml_X10_376 : Cond.methodLink RX10 376 yX10_readNumber ∈ tWS := t_w8 15 rfl rfl
theorem ml_X10_379 : Cond.methodLink RX10 379 yX10_readShare ∈ tWS := t_w8 21 rfl rfl
theorem ml_X10_382 : Cond.methodLink RX10 382 yX10_readBox ∈ tWS := t_w7 239 rfl rfl
theorem ml_X10_385 : Cond.methodLink RX10 385 yX10_goesOn ∈ tWS := t_w8 25 rfl rfl
theorem ff_X10_389 : tFf RX10 389 9 34 := ⟨_, _, _, _, fc_X10, Nat.le_of_ble_eq_true rfl, t_w6 71 rfl rfl⟩
theorem fq_X10_389 : tFp RX10 389 9 34 .int := ⟨_, _, _, _, fc_X10, Nat.le_of_ble_eq_true rfl, t_w6 71 rfl rfl, rfl, rfl⟩
theorem ml_X10_392 : Cond.methodLink RX10 392 yX10_prints ∈ tWS := t_w8 41 rfl rfl
theorem ml_X10_395 : Cond.methodLink RX10 395 yX10_printsBox ∈ tWS := t_w8 37 rfl rfl
theorem ml_X10_398 : Cond.methodLink RX10 398 yX10_printsAll ∈ tWS := t_w8 33 rfl rfl
theorem ml_X10_401 : Cond.methodLink RX10 401 yX10_copies ∈ tWS := t_w8 58 rfl rfl
theorem ml_X10_405 : Cond.methodLink RX10 405 yX10_many ∈ tWS := t_w8 61 rfl rfl
theorem ml_X10_409 : Cond.methodLink RX10 409 yX10_isFull ∈ tWS := t_w8 49 rfl rfl
theorem ml_X10_412 : Cond.methodLink RX10 412 yX10_thinks ∈ tWS := t_w8 54 rfl rfl
theorem ml_X10_416 : Cond.methodLink RX10 416 yX10_laysInThought ∈ tWS := t_w8 65 rfl rfl
theorem ml_X10_419 : Cond.methodLink RX10 419 yX10_isFitting ∈ tWS := t_w8 73 rfl rfl
theorem ml_X10_422 : Cond.methodLink RX10 422 yX10_goesBy ∈ tWS := t_w8 101 rfl rfl
theorem ml_X10_425 : Cond.methodLink RX10 425 yX10_divisor ∈ tWS := t_w8 115 rfl rfl
theorem ml_X10_435 : Cond.methodLink RX10 435 yX10_partOf ∈ tWS := t_w8 112 rfl rfl
theorem ml_X10_440 : Cond.methodLink RX10 440 yX10_isTape ∈ tWS := t_w8 139 rfl rfl
theorem ml_X10_445 : Cond.methodLink RX10 445 yX10_narrowed ∈ tWS := t_w8 151 rfl rfl
theorem ff_X10_449 : tFf RX10 449 9 5 := ⟨_, _, _, _, fc_X10, Nat.le_of_ble_eq_true rfl, t_w6 42 rfl rfl⟩
theorem fq_X10_449 : tFp RX10 449 9 5 .boolean := ⟨_, _, _, _, fc_X10, Nat.le_of_ble_eq_true rfl, t_w6 42 rfl rfl, rfl, rfl⟩
theorem ml_J0_335 : Cond.methodLink RJ0 335 yJ0_coder_7d493 ∈ tWS := t_w3 185 rfl rfl
theorem ml_J0_492 : Cond.methodLink RJ0 492 yJ0_isLatin1_aae02 ∈ tWS := t_w3 195 rfl rfl
theorem ml_J0_495 : Cond.methodLink RJ0 495 yJ1_charAt_3b067 ∈ tWS := t_w3 199 rfl rfl
theorem ml_J0_498 : Cond.methodLink RJ0 498 yJ2_charAt_3b067 ∈ tWS := t_w3 210 rfl rfl
theorem ml_J0_1059 : Cond.methodLink RJ0 1059 yJ3_checkIndex_8e157 ∈ tWS := t_w3 207 rfl rfl
theorem ml_J1_9 : Cond.methodLink RJ1 9 yJ0_checkIndex_df160 ∈ tWS := t_w3 202 rfl rfl
theorem ml_J2_48 : Cond.methodLink RJ2 48 yJ2_length_9d52b ∈ tWS := t_w3 216 rfl rfl
theorem ml_J2_67 : Cond.methodLink RJ2 67 yJ2_checkIndex_2214a ∈ tWS := t_w3 213 rfl rfl
theorem ml_J2_71 : Cond.methodLink RJ2 71 yJ2_getChar_3b067 ∈ tWS := t_w3 220 rfl rfl
theorem ml_J2_414 : Cond.methodLink RJ2 414 yJ0_checkIndex_df160 ∈ tWS := t_w3 219 rfl rfl
theorem ki_X0_init : tCm yX0_init cX0_init 2 none 1 ∧ Cond.instanceMethod yX0_init ∈ tWS := ⟨⟨t_w1 39 rfl rfl, t_w1 3 rfl rfl, by decide, by decide, by decide +kernel⟩, t_w1 38 rfl rfl⟩
theorem kv_X0_begin : tCv yX0_begin cX0_begin 5 none 4 := ⟨⟨t_w3 25 rfl rfl, t_w1 3 rfl rfl, by decide, by decide, by decide +kernel⟩, t_w3 23 rfl rfl, t_w3 24 rfl rfl⟩
theorem kv_X0_setNumbers : tCv yX0_setNumbers cX0_setNumbers 6 none 4 := ⟨⟨t_w3 41 rfl rfl, t_w1 3 rfl rfl, by decide, by decide, by decide +kernel⟩, t_w3 39 rfl rfl, t_w3 40 rfl rfl⟩
theorem kv_X0_hasTold : tCv yX0_hasTold cX0_hasTold 2 (some .boolean) 1 := ⟨⟨t_w3 65 rfl rfl, t_w1 3 rfl rfl, by decide, by decide, by decide +kernel⟩, t_w3 63 rfl rfl, t_w3 64 rfl rfl⟩
theorem kv_X0_mayBeTold : tCv yX0_mayBeTold cX0_mayBeTold 3 (some .boolean) 2 := ⟨⟨t_w3 69 rfl rfl, t_w1 3 rfl rfl, by decide, by decide, by decide +kernel⟩, t_w3 67 rfl rfl, t_w3 68 rfl rfl⟩
theorem kv_X0_keepsOrder : tCv yX0_keepsOrder cX0_keepsOrder 3 (some .boolean) 2 := ⟨⟨t_w3 74 rfl rfl, t_w1 3 rfl rfl, by decide, by decide, by decide +kernel⟩, t_w3 73 rfl rfl, t_s1 1 rfl⟩
theorem ks_X0_orNoEnd : tCs yX0_orNoEnd cX0_orNoEnd 1 (some .int) 1 := ⟨⟨t_w4 121 rfl rfl, t_w1 3 rfl rfl, by decide, by decide, by decide +kernel⟩, t_w4 120 rfl rfl⟩
theorem kv_X0_hasMemo : tCv yX0_hasMemo cX0_hasMemo 2 (some .boolean) 1 := ⟨⟨t_w4 141 rfl rfl, t_w1 3 rfl rfl, by decide, by decide, by decide +kernel⟩, t_w4 139 rfl rfl, t_w4 140 rfl rfl⟩
theorem kv_X0_memoOf : tCv yX0_memoOf cX0_memoOf 2 (some .int) 1 := ⟨⟨t_w4 145 rfl rfl, t_w1 3 rfl rfl, by decide, by decide, by decide +kernel⟩, t_w4 143 rfl rfl, t_w4 144 rfl rfl⟩
theorem kv_X0_keepMemo : tCv yX0_keepMemo cX0_keepMemo 3 none 2 := ⟨⟨t_w4 167 rfl rfl, t_w1 3 rfl rfl, by decide, by decide, by decide +kernel⟩, t_w4 165 rfl rfl, t_w4 166 rfl rfl⟩
theorem kv_X0_placeOfKid : tCv yX0_placeOfKid cX0_placeOfKid 3 (some .int) 1 := ⟨⟨t_w3 108 rfl rfl, t_w1 3 rfl rfl, by decide, by decide, by decide +kernel⟩, t_w3 106 rfl rfl, t_w3 107 rfl rfl⟩
theorem kv_X0_addKid : tCv yX0_addKid cX0_addKid 3 none 2 := ⟨⟨t_w3 46 rfl rfl, t_w1 3 rfl rfl, by decide, by decide, by decide +kernel⟩, t_w3 44 rfl rfl, t_w3 45 rfl rfl⟩
theorem kv_X0_removeKid : tCv yX0_removeKid cX0_removeKid 2 none 1 := ⟨⟨t_w3 112 rfl rfl, t_w1 3 rfl rfl, by decide, by decide, by decide +kernel⟩, t_w3 110 rfl rfl, t_w3 111 rfl rfl⟩
theorem kv_X0_copyFrom : tCv yX0_copyFrom cX0_copyFrom 2 none 1 := ⟨⟨t_w5 67 rfl rfl, t_w1 3 rfl rfl, by decide, by decide, by decide +kernel⟩, t_w5 65 rfl rfl, t_w5 66 rfl rfl⟩
theorem ks_X1_isKind : tCs yX1_isKind cX1_isKind 1 (some .boolean) 1 := ⟨⟨t_w2 233 rfl rfl, t_w1 11 rfl rfl, by decide, by decide, by decide +kernel⟩, t_w2 232 rfl rfl⟩
theorem ks_X1_numbersOf : tCs yX1_numbersOf cX1_numbersOf 1 (some .int) 1 := ⟨⟨t_w3 1 rfl rfl, t_w1 11 rfl rfl, by decide, by decide, by decide +kernel⟩, t_w3 0 rfl rfl⟩
theorem ks_X1_childrenOf : tCs yX1_childrenOf cX1_childrenOf 1 (some .int) 1 := ⟨⟨t_w3 15 rfl rfl, t_w1 11 rfl rfl, by decide, by decide, by decide +kernel⟩, t_w3 14 rfl rfl⟩
theorem ks_X1_isInRange : tCs yX1_isInRange cX1_isInRange 4 (some .boolean) 3 := ⟨⟨t_w2 238 rfl rfl, t_w1 11 rfl rfl, by decide, by decide, by decide +kernel⟩, t_w2 237 rfl rfl⟩
theorem ks_X1_mayHave : tCs yX1_mayHave cX1_mayHave 6 (some .boolean) 5 := ⟨⟨t_w2 230 rfl rfl, t_w1 11 rfl rfl, by decide, by decide, by decide +kernel⟩, t_w2 229 rfl rfl⟩
theorem ks_X1_passesFor : tCs yX1_passesFor cX1_passesFor 2 (some .boolean) 2 := ⟨⟨t_w5 214 rfl rfl, t_w1 11 rfl rfl, by decide, by decide, by decide +kernel⟩, t_w5 213 rfl rfl⟩
theorem ks_X1_nameOf : tCs yX1_nameOf cX1_nameOf 1 (some (.object "java/lang/String")) 1 := ⟨⟨t_w3 166 rfl rfl, t_w1 11 rfl rfl, by decide, by decide, by decide +kernel⟩, t_w3 165 rfl rfl⟩
theorem ki_X2_init : tCm yX2_init cX2_init 1 none 0 ∧ Cond.instanceMethod yX2_init ∈ tWS := ⟨⟨t_w1 45 rfl rfl, t_w1 4 rfl rfl, by decide, by decide, by decide +kernel⟩, t_w1 44 rfl rfl⟩
theorem kv_X2_forget : tCv yX2_forget cX2_forget 1 none 0 := ⟨⟨t_w3 29 rfl rfl, t_w1 4 rfl rfl, by decide, by decide, by decide +kernel⟩, t_w3 27 rfl rfl, t_w3 28 rfl rfl⟩
theorem kv_X2_begin : tCv yX2_begin cX2_begin 5 none 4 := ⟨⟨t_w3 33 rfl rfl, t_w1 4 rfl rfl, by decide, by decide, by decide +kernel⟩, t_w3 31 rfl rfl, t_w3 32 rfl rfl⟩
theorem kv_X2_wasLaidBy : tCv yX2_wasLaidBy cX2_wasLaidBy 5 (some .boolean) 4 := ⟨⟨t_w4 80 rfl rfl, t_w1 4 rfl rfl, by decide, by decide, by decide +kernel⟩, t_w4 78 rfl rfl, t_w4 79 rfl rfl⟩
theorem kv_X2_wasJust : tCv yX2_wasJust cX2_wasJust 1 (some .boolean) 0 := ⟨⟨t_w3 57 rfl rfl, t_w1 4 rfl rfl, by decide, by decide, by decide +kernel⟩, t_w3 55 rfl rfl, t_w3 56 rfl rfl⟩
theorem kv_X2_sizeTo : tCv yX2_sizeTo cX2_sizeTo 3 none 2 := ⟨⟨t_w4 89 rfl rfl, t_w1 4 rfl rfl, by decide, by decide, by decide +kernel⟩, t_w4 87 rfl rfl, t_w4 88 rfl rfl⟩
theorem kv_X2_placeAt : tCv yX2_placeAt cX2_placeAt 3 none 2 := ⟨⟨t_w3 37 rfl rfl, t_w1 4 rfl rfl, by decide, by decide, by decide +kernel⟩, t_w3 35 rfl rfl, t_w3 36 rfl rfl⟩
theorem kv_X2_isLike : tCv yX2_isLike cX2_isLike 2 (some .boolean) 1 := ⟨⟨t_w5 86 rfl rfl, t_w1 4 rfl rfl, by decide, by decide, by decide +kernel⟩, t_w5 84 rfl rfl, t_w5 85 rfl rfl⟩
theorem kv_X2_copyFrom : tCv yX2_copyFrom cX2_copyFrom 2 none 1 := ⟨⟨t_w5 71 rfl rfl, t_w1 4 rfl rfl, by decide, by decide, by decide +kernel⟩, t_w5 69 rfl rfl, t_w5 70 rfl rfl⟩
theorem ki_X3_init : tCm yX3_init cX3_init 2 none 1 ∧ Cond.instanceMethod yX3_init ∈ tWS := ⟨⟨t_w2 32 rfl rfl, t_w1 5 rfl rfl, by decide, by decide, by decide +kernel⟩, t_w2 31 rfl rfl⟩
theorem kv_X3_layOut : tCv yX3_layOut cX3_layOut 5 none 0 := ⟨⟨t_w4 63 rfl rfl, t_w1 5 rfl rfl, by decide, by decide, by decide +kernel⟩, t_w4 61 rfl rfl, t_w4 62 rfl rfl⟩
theorem kv_X3_isDue : tCv yX3_isDue cX3_isDue 3 (some .boolean) 2 := ⟨⟨t_w4 67 rfl rfl, t_w1 5 rfl rfl, by decide, by decide, by decide +kernel⟩, t_w4 66 rfl rfl, t_s2 1 rfl⟩
theorem kv_X3_lay : tCv yX3_lay cX3_lay 8 none 6 := ⟨⟨t_w4 72 rfl rfl, t_w1 5 rfl rfl, by decide, by decide, by decide +kernel⟩, t_w4 71 rfl rfl, t_s2 2 rfl⟩
theorem kv_X3_layByKind : tCv yX3_layByKind cX3_layByKind 3 none 2 := ⟨⟨t_w4 85 rfl rfl, t_w1 5 rfl rfl, by decide, by decide, by decide +kernel⟩, t_w4 84 rfl rfl, t_s2 3 rfl⟩
theorem kv_X3_onlyKid : tCv yX3_onlyKid cX3_onlyKid 2 (some (.object "LaidOutBoxes$Box")) 1 := ⟨⟨t_w4 108 rfl rfl, t_w1 5 rfl rfl, by decide, by decide, by decide +kernel⟩, t_w4 107 rfl rfl, t_s2 6 rfl⟩
theorem ks_X3_wordWide : tCs yX3_wordWide cX3_wordWide 3 (some .int) 2 := ⟨⟨t_w4 99 rfl rfl, t_w1 5 rfl rfl, by decide, by decide, by decide +kernel⟩, t_w4 98 rfl rfl⟩
theorem kv_X3_layText : tCv yX3_layText cX3_layText 7 none 1 := ⟨⟨t_w4 96 rfl rfl, t_w1 5 rfl rfl, by decide, by decide, by decide +kernel⟩, t_w4 95 rfl rfl, t_s2 4 rfl⟩
theorem ks_X3_lessBy : tCs yX3_lessBy cX3_lessBy 2 (some .int) 2 := ⟨⟨t_w4 112 rfl rfl, t_w1 5 rfl rfl, by decide, by decide, by decide +kernel⟩, t_w4 111 rfl rfl⟩
theorem kv_X3_layPad : tCv yX3_layPad cX3_layPad 7 none 2 := ⟨⟨t_w4 104 rfl rfl, t_w1 5 rfl rfl, by decide, by decide, by decide +kernel⟩, t_w4 103 rfl rfl, t_s2 5 rfl⟩
theorem kv_X3_layLimit : tCv yX3_layLimit cX3_layLimit 9 none 2 := ⟨⟨t_w4 117 rfl rfl, t_w1 5 rfl rfl, by decide, by decide, by decide +kernel⟩, t_w4 116 rfl rfl, t_s2 7 rfl⟩
theorem kv_X3_layLoose : tCv yX3_layLoose cX3_layLoose 4 none 3 := ⟨⟨t_w4 129 rfl rfl, t_w1 5 rfl rfl, by decide, by decide, by decide +kernel⟩, t_w4 128 rfl rfl, t_s2 9 rfl⟩
theorem kv_X3_layCentre : tCv yX3_layCentre cX3_layCentre 7 none 2 := ⟨⟨t_w4 125 rfl rfl, t_w1 5 rfl rfl, by decide, by decide, by decide +kernel⟩, t_w4 124 rfl rfl, t_s2 8 rfl⟩
theorem kv_X3_layFit : tCv yX3_layFit cX3_layFit 6 none 2 := ⟨⟨t_w4 133 rfl rfl, t_w1 5 rfl rfl, by decide, by decide, by decide +kernel⟩, t_w4 132 rfl rfl, t_s2 10 rfl⟩
theorem kv_X3_layRatio : tCv yX3_layRatio cX3_layRatio 9 none 2 := ⟨⟨t_w4 171 rfl rfl, t_w1 5 rfl rfl, by decide, by decide, by decide +kernel⟩, t_w4 170 rfl rfl, t_s2 15 rfl⟩
theorem kv_X3_layLayers : tCv yX3_layLayers cX3_layLayers 9 none 2 := ⟨⟨t_w4 178 rfl rfl, t_w1 5 rfl rfl, by decide, by decide, by decide +kernel⟩, t_w4 177 rfl rfl, t_s3 0 rfl⟩
theorem ks_X3_aligned : tCs yX3_aligned cX3_aligned 2 (some .int) 2 := ⟨⟨t_w4 181 rfl rfl, t_w1 5 rfl rfl, by decide, by decide, by decide +kernel⟩, t_w4 180 rfl rfl⟩
theorem kv_X3_layLine : tCv yX3_layLine cX3_layLine 10 none 2 := ⟨⟨t_w4 185 rfl rfl, t_w1 5 rfl rfl, by decide, by decide, by decide +kernel⟩, t_w4 184 rfl rfl, t_s3 1 rfl⟩
theorem kv_X3_hasSharers : tCv yX3_hasSharers cX3_hasSharers 3 (some .boolean) 1 := ⟨⟨t_w4 189 rfl rfl, t_w1 5 rfl rfl, by decide, by decide, by decide +kernel⟩, t_w4 188 rfl rfl, t_s3 2 rfl⟩
theorem kv_X3_layAlong : tCv yX3_layAlong cX3_layAlong 9 (some .int) 5 := ⟨⟨t_w4 197 rfl rfl, t_w1 5 rfl rfl, by decide, by decide, by decide +kernel⟩, t_w4 196 rfl rfl, t_s3 4 rfl⟩
theorem kv_X3_layWithoutShare : tCv yX3_layWithoutShare cX3_layWithoutShare 7 (some .int) 3 := ⟨⟨t_w4 193 rfl rfl, t_w1 5 rfl rfl, by decide, by decide, by decide +kernel⟩, t_w4 192 rfl rfl, t_s3 3 rfl⟩
theorem kv_X3_layByShare : tCv yX3_layByShare cX3_layByShare 6 (some .int) 2 := ⟨⟨t_w4 213 rfl rfl, t_w1 5 rfl rfl, by decide, by decide, by decide +kernel⟩, t_w4 212 rfl rfl, t_s3 8 rfl⟩
theorem kv_X3_roundsOf : tCv yX3_roundsOf cX3_roundsOf 6 (some .int) 2 := ⟨⟨t_w4 201 rfl rfl, t_w1 5 rfl rfl, by decide, by decide, by decide +kernel⟩, t_w4 200 rfl rfl, t_s3 5 rfl⟩
theorem kv_X3_shareOut : tCv yX3_shareOut cX3_shareOut 8 none 2 := ⟨⟨t_w4 205 rfl rfl, t_w1 5 rfl rfl, by decide, by decide, by decide +kernel⟩, t_w4 204 rfl rfl, t_s3 6 rfl⟩
theorem kv_X3_freeze : tCv yX3_freeze cX3_freeze 7 (some .int) 1 := ⟨⟨t_w4 209 rfl rfl, t_w1 5 rfl rfl, by decide, by decide, by decide +kernel⟩, t_w4 208 rfl rfl, t_s3 7 rfl⟩
theorem kv_X3_greatestAcross : tCv yX3_greatestAcross cX3_greatestAcross 6 (some .int) 2 := ⟨⟨t_w4 225 rfl rfl, t_w1 5 rfl rfl, by decide, by decide, by decide +kernel⟩, t_w4 224 rfl rfl, t_s3 11 rfl⟩
theorem kv_X3_placeInLine : tCv yX3_placeInLine cX3_placeInLine 7 none 2 := ⟨⟨t_w4 229 rfl rfl, t_w1 5 rfl rfl, by decide, by decide, by decide +kernel⟩, t_w4 228 rfl rfl, t_s3 12 rfl⟩
theorem kv_X3_standOnBase : tCv yX3_standOnBase cX3_standOnBase 9 none 3 := ⟨⟨t_w4 217 rfl rfl, t_w1 5 rfl rfl, by decide, by decide, by decide +kernel⟩, t_w4 216 rfl rfl, t_s3 9 rfl⟩
theorem kv_X3_baseAsLaid : tCv yX3_baseAsLaid cX3_baseAsLaid 2 (some .int) 1 := ⟨⟨t_w5 5 rfl rfl, t_w1 5 rfl rfl, by decide, by decide, by decide +kernel⟩, t_w5 3 rfl rfl, t_w5 4 rfl rfl⟩
theorem kv_X3_baseOf : tCv yX3_baseOf cX3_baseOf 7 (some .int) 3 := ⟨⟨t_w4 221 rfl rfl, t_w1 5 rfl rfl, by decide, by decide, by decide +kernel⟩, t_w4 220 rfl rfl, t_s3 10 rfl⟩
theorem kv_X3_ask : tCv yX3_ask cX3_ask 3 (some .int) 2 := ⟨⟨t_w5 17 rfl rfl, t_w1 5 rfl rfl, by decide, by decide, by decide +kernel⟩, t_w5 15 rfl rfl, t_w5 16 rfl rfl⟩
theorem kv_X3_askedOf : tCv yX3_askedOf cX3_askedOf 5 (some .int) 3 := ⟨⟨t_w4 137 rfl rfl, t_w1 5 rfl rfl, by decide, by decide, by decide +kernel⟩, t_w4 136 rfl rfl, t_s2 11 rfl⟩
theorem kv_X3_figured : tCv yX3_figured cX3_figured 5 (some .int) 3 := ⟨⟨t_w4 149 rfl rfl, t_w1 5 rfl rfl, by decide, by decide, by decide +kernel⟩, t_w4 148 rfl rfl, t_s2 12 rfl⟩
theorem ks_X3_wordsInALine : tCs yX3_wordsInALine cX3_wordsInALine 3 (some .int) 1 := ⟨⟨t_w4 152 rfl rfl, t_w1 5 rfl rfl, by decide, by decide, by decide +kernel⟩, t_w4 151 rfl rfl⟩
theorem ks_X3_widestWord : tCs yX3_widestWord cX3_widestWord 3 (some .int) 1 := ⟨⟨t_w4 155 rfl rfl, t_w1 5 rfl rfl, by decide, by decide, by decide +kernel⟩, t_w4 154 rfl rfl⟩
theorem kv_X3_greatestOfKids : tCv yX3_greatestOfKids cX3_greatestOfKids 6 (some .int) 3 := ⟨⟨t_w4 159 rfl rfl, t_w1 5 rfl rfl, by decide, by decide, by decide +kernel⟩, t_w4 158 rfl rfl, t_s2 13 rfl⟩
theorem kv_X3_kidsTogether : tCv yX3_kidsTogether cX3_kidsTogether 7 (some .int) 3 := ⟨⟨t_w4 163 rfl rfl, t_w1 5 rfl rfl, by decide, by decide, by decide +kernel⟩, t_w4 162 rfl rfl, t_s2 14 rfl⟩
theorem ki_X4_init : tCm yX4_init cX4_init 2 none 1 ∧ Cond.instanceMethod yX4_init ∈ tWS := ⟨⟨t_w2 143 rfl rfl, t_w1 8 rfl rfl, by decide, by decide, by decide +kernel⟩, t_w2 142 rfl rfl⟩
theorem kv_X4_print : tCv yX4_print cX4_print 2 none 1 := ⟨⟨t_w4 33 rfl rfl, t_w1 8 rfl rfl, by decide, by decide, by decide +kernel⟩, t_w4 31 rfl rfl, t_w4 32 rfl rfl⟩
theorem kv_X4_write : tCv yX4_write cX4_write 4 none 2 := ⟨⟨t_w4 38 rfl rfl, t_w1 8 rfl rfl, by decide, by decide, by decide +kernel⟩, t_w4 37 rfl rfl, t_s1 13 rfl⟩
theorem kv_X4_put : tCv yX4_put cX4_put 2 none 1 := ⟨⟨t_w4 49 rfl rfl, t_w1 8 rfl rfl, by decide, by decide, by decide +kernel⟩, t_w4 48 rfl rfl, t_s1 15 rfl⟩
theorem kv_X4_putWord : tCv yX4_putWord cX4_putWord 3 none 1 := ⟨⟨t_w4 43 rfl rfl, t_w1 8 rfl rfl, by decide, by decide, by decide +kernel⟩, t_w4 42 rfl rfl, t_s1 14 rfl⟩
theorem kv_X4_putNumber : tCv yX4_putNumber cX4_putNumber 2 none 1 := ⟨⟨t_w4 54 rfl rfl, t_w1 8 rfl rfl, by decide, by decide, by decide +kernel⟩, t_w4 53 rfl rfl, t_s2 0 rfl⟩
theorem ki_X5_init : tCm yX5_init cX5_init 1 none 0 ∧ Cond.instanceMethod yX5_init ∈ tWS := ⟨⟨t_w2 96 rfl rfl, t_w1 7 rfl rfl, by decide, by decide, by decide +kernel⟩, t_w2 95 rfl rfl⟩
theorem kv_X5_faultOf : tCv yX5_faultOf cX5_faultOf 6 (some .int) 3 := ⟨⟨t_w3 151 rfl rfl, t_w1 7 rfl rfl, by decide, by decide, by decide +kernel⟩, t_w3 149 rfl rfl, t_w3 150 rfl rfl⟩
theorem kv_X5_next : tCv yX5_next cX5_next 1 (some .char) 0 := ⟨⟨t_w4 7 rfl rfl, t_w1 7 rfl rfl, by decide, by decide, by decide +kernel⟩, t_w4 6 rfl rfl, t_s1 8 rfl⟩
theorem kv_X5_passed : tCv yX5_passed cX5_passed 2 (some .boolean) 1 := ⟨⟨t_w4 3 rfl rfl, t_w1 7 rfl rfl, by decide, by decide, by decide +kernel⟩, t_w4 2 rfl rfl, t_s1 7 rfl⟩
theorem kv_X5_parentOfNext : tCv yX5_parentOfNext cX5_parentOfNext 3 (some .int) 0 := ⟨⟨t_w4 24 rfl rfl, t_w1 7 rfl rfl, by decide, by decide, by decide +kernel⟩, t_w4 23 rfl rfl, t_s1 12 rfl⟩
theorem kv_X5_readBox : tCv yX5_readBox cX5_readBox 5 (some .boolean) 1 := ⟨⟨t_w3 158 rfl rfl, t_w1 7 rfl rfl, by decide, by decide, by decide +kernel⟩, t_w3 157 rfl rfl, t_s1 3 rfl⟩
theorem kv_X5_readName : tCv yX5_readName cX5_readName 5 (some .int) 0 := ⟨⟨t_w3 163 rfl rfl, t_w1 7 rfl rfl, by decide, by decide, by decide +kernel⟩, t_w3 162 rfl rfl, t_s1 4 rfl⟩
theorem kv_X5_lettersLike : tCv yX5_lettersLike cX5_lettersLike 4 (some .int) 1 := ⟨⟨t_w3 180 rfl rfl, t_w1 7 rfl rfl, by decide, by decide, by decide +kernel⟩, t_w3 179 rfl rfl, t_s1 5 rfl⟩
theorem kv_X5_nextIsFigure : tCv yX5_nextIsFigure cX5_nextIsFigure 1 (some .boolean) 0 := ⟨⟨t_w4 11 rfl rfl, t_w1 7 rfl rfl, by decide, by decide, by decide +kernel⟩, t_w4 10 rfl rfl, t_s1 9 rfl⟩
theorem kv_X5_readNumbers : tCv yX5_readNumbers cX5_readNumbers 6 (some .boolean) 1 := ⟨⟨t_w3 235 rfl rfl, t_w1 7 rfl rfl, by decide, by decide, by decide +kernel⟩, t_w3 234 rfl rfl, t_s1 6 rfl⟩
theorem kv_X5_readNumber : tCv yX5_readNumber cX5_readNumber 3 (some .int) 0 := ⟨⟨t_w4 15 rfl rfl, t_w1 7 rfl rfl, by decide, by decide, by decide +kernel⟩, t_w4 14 rfl rfl, t_s1 10 rfl⟩
theorem kv_X5_readShare : tCv yX5_readShare cX5_readShare 2 (some .boolean) 1 := ⟨⟨t_w4 20 rfl rfl, t_w1 7 rfl rfl, by decide, by decide, by decide +kernel⟩, t_w4 19 rfl rfl, t_s1 11 rfl⟩
theorem ki_X6_init : tCm yX6_init cX6_init 1 none 0 ∧ Cond.instanceMethod yX6_init ∈ tWS := ⟨⟨t_w2 163 rfl rfl, t_w1 9 rfl rfl, by decide, by decide, by decide +kernel⟩, t_w2 162 rfl rfl⟩
theorem kv_X6_clearTo : tCv yX6_clearTo cX6_clearTo 3 none 2 := ⟨⟨t_w5 233 rfl rfl, t_w1 9 rfl rfl, by decide, by decide, by decide +kernel⟩, t_w5 231 rfl rfl, t_w5 232 rfl rfl⟩
theorem kv_X6_hasPlace : tCv yX6_hasPlace cX6_hasPlace 2 (some .boolean) 1 := ⟨⟨t_w6 4 rfl rfl, t_w1 9 rfl rfl, by decide, by decide, by decide +kernel⟩, t_w6 2 rfl rfl, t_w6 3 rfl rfl⟩
theorem kv_X6_hasRun : tCv yX6_hasRun cX6_hasRun 3 (some .boolean) 2 := ⟨⟨t_w6 20 rfl rfl, t_w1 9 rfl rfl, by decide, by decide, by decide +kernel⟩, t_w6 18 rfl rfl, t_w6 19 rfl rfl⟩
theorem kv_X6_cutToSort : tCv yX6_cutToSort cX6_cutToSort 3 (some .long) 1 := ⟨⟨t_w6 8 rfl rfl, t_w1 9 rfl rfl, by decide, by decide, by decide +kernel⟩, t_w6 6 rfl rfl, t_w6 7 rfl rfl⟩
theorem ki_X7_init : tCm yX7_init cX7_init 2 none 1 ∧ Cond.instanceMethod yX7_init ∈ tWS := ⟨⟨t_w2 64 rfl rfl, t_w1 6 rfl rfl, by decide, by decide, by decide +kernel⟩, t_w2 63 rfl rfl⟩
theorem kv_X7_workDone : tCv yX7_workDone cX7_workDone 1 (some .int) 0 := ⟨⟨t_w5 41 rfl rfl, t_w1 6 rfl rfl, by decide, by decide, by decide +kernel⟩, t_w5 39 rfl rfl, t_w5 40 rfl rfl⟩
theorem kv_X7_isTired : tCv yX7_isTired cX7_isTired 1 (some .boolean) 0 := ⟨⟨t_w5 49 rfl rfl, t_w1 6 rfl rfl, by decide, by decide, by decide +kernel⟩, t_w5 47 rfl rfl, t_w5 48 rfl rfl⟩
theorem kv_X7_beginAgain : tCv yX7_beginAgain cX7_beginAgain 2 none 1 := ⟨⟨t_w5 59 rfl rfl, t_w1 6 rfl rfl, by decide, by decide, by decide +kernel⟩, t_w5 58 rfl rfl, t_s3 14 rfl⟩
theorem kv_X7_agreesAnew : tCv yX7_agreesAnew cX7_agreesAnew 1 (some .int) 0 := ⟨⟨t_w5 55 rfl rfl, t_w1 6 rfl rfl, by decide, by decide, by decide +kernel⟩, t_w5 53 rfl rfl, t_w5 54 rfl rfl⟩
theorem kv_X7_tryScreen : tCv yX7_tryScreen cX7_tryScreen 3 none 2 := ⟨⟨t_w5 99 rfl rfl, t_w1 6 rfl rfl, by decide, by decide, by decide +kernel⟩, t_w5 98 rfl rfl, t_s3 15 rfl⟩
theorem kv_X7_narrowestScreen : tCv yX7_narrowestScreen cX7_narrowestScreen 2 (some .int) 0 := ⟨⟨t_w5 94 rfl rfl, t_w1 6 rfl rfl, by decide, by decide, by decide +kernel⟩, t_w5 92 rfl rfl, t_w5 93 rfl rfl⟩
theorem kv_X7_highOfTop : tCv yX7_highOfTop cX7_highOfTop 2 (some .int) 1 := ⟨⟨t_w5 109 rfl rfl, t_w1 6 rfl rfl, by decide, by decide, by decide +kernel⟩, t_w5 107 rfl rfl, t_w5 108 rfl rfl⟩
theorem kv_X7_reachedFrom : tCv yX7_reachedFrom cX7_reachedFrom 3 (some .int) 2 := ⟨⟨t_w5 117 rfl rfl, t_w1 6 rfl rfl, by decide, by decide, by decide +kernel⟩, t_w5 115 rfl rfl, t_w5 116 rfl rfl⟩
theorem kv_X7_widestShare : tCv yX7_widestShare cX7_widestShare 6 (some .int) 2 := ⟨⟨t_w5 126 rfl rfl, t_w1 6 rfl rfl, by decide, by decide, by decide +kernel⟩, t_w5 124 rfl rfl, t_w5 125 rfl rfl⟩
theorem kv_X7_tryTold : tCv yX7_tryTold cX7_tryTold 4 none 3 := ⟨⟨t_w5 130 rfl rfl, t_w1 6 rfl rfl, by decide, by decide, by decide +kernel⟩, t_w5 129 rfl rfl, t_s4 0 rfl⟩
theorem kv_X7_fittingNumbers : tCv yX7_fittingNumbers cX7_fittingNumbers 5 (some .int) 2 := ⟨⟨t_w5 139 rfl rfl, t_w1 6 rfl rfl, by decide, by decide, by decide +kernel⟩, t_w5 137 rfl rfl, t_w5 138 rfl rfl⟩
theorem kv_X7_visitsSaved : tCv yX7_visitsSaved cX7_visitsSaved 3 (some .int) 0 := ⟨⟨t_w5 156 rfl rfl, t_w1 6 rfl rfl, by decide, by decide, by decide +kernel⟩, t_w5 154 rfl rfl, t_w5 155 rfl rfl⟩
theorem kv_X7_gatherBlocks : tCv yX7_gatherBlocks cX7_gatherBlocks 3 (some .int) 0 := ⟨⟨t_w5 165 rfl rfl, t_w1 6 rfl rfl, by decide, by decide, by decide +kernel⟩, t_w5 163 rfl rfl, t_w5 164 rfl rfl⟩
theorem kv_X7_waysWithoutOver : tCv yX7_waysWithoutOver cX7_waysWithoutOver 7 (some .long) 2 := ⟨⟨t_w5 169 rfl rfl, t_w1 6 rfl rfl, by decide, by decide, by decide +kernel⟩, t_w5 167 rfl rfl, t_w5 168 rfl rfl⟩
theorem kv_X7_overOfDraws : tCv yX7_overOfDraws cX7_overOfDraws 4 (some .int) 1 := ⟨⟨t_w5 188 rfl rfl, t_w1 6 rfl rfl, by decide, by decide, by decide +kernel⟩, t_w5 186 rfl rfl, t_w5 187 rfl rfl⟩
theorem ki_X8_init : tCm yX8_init cX8_init 2 none 0 ∧ Cond.instanceMethod yX8_init ∈ tWS := ⟨⟨t_w1 32 rfl rfl, t_w1 2 rfl rfl, by decide, by decide, by decide +kernel⟩, t_w1 31 rfl rfl⟩
theorem kv_X8_has : tCv yX8_has cX8_has 2 (some .boolean) 1 := ⟨⟨t_w2 227 rfl rfl, t_w1 2 rfl rfl, by decide, by decide, by decide +kernel⟩, t_w2 225 rfl rfl, t_w2 226 rfl rfl⟩
theorem kv_X8_isDirty : tCv yX8_isDirty cX8_isDirty 2 (some .boolean) 1 := ⟨⟨t_w4 76 rfl rfl, t_w1 2 rfl rfl, by decide, by decide, by decide +kernel⟩, t_w4 74 rfl rfl, t_w4 75 rfl rfl⟩
theorem kv_X8_countBoxes : tCv yX8_countBoxes cX8_countBoxes 1 (some .int) 0 := ⟨⟨t_w3 90 rfl rfl, t_w1 2 rfl rfl, by decide, by decide, by decide +kernel⟩, t_w3 88 rfl rfl, t_w3 89 rfl rfl⟩
theorem kv_X8_kidOf : tCv yX8_kidOf cX8_kidOf 3 (some (.object "LaidOutBoxes$Box")) 2 := ⟨⟨t_w3 104 rfl rfl, t_w1 2 rfl rfl, by decide, by decide, by decide +kernel⟩, t_w3 102 rfl rfl, t_w3 103 rfl rfl⟩
theorem kv_X8_takesOneMore : tCv yX8_takesOneMore cX8_takesOneMore 2 (some .boolean) 1 := ⟨⟨t_w3 11 rfl rfl, t_w1 2 rfl rfl, by decide, by decide, by decide +kernel⟩, t_w3 9 rfl rfl, t_w3 10 rfl rfl⟩
theorem kv_X8_bring : tCv yX8_bring cX8_bring 10 (some .int) 7 := ⟨⟨t_w3 21 rfl rfl, t_w1 2 rfl rfl, by decide, by decide, by decide +kernel⟩, t_w3 19 rfl rfl, t_w3 20 rfl rfl⟩
theorem kv_X8_tell : tCv yX8_tell cX8_tell 6 (some .int) 3 := ⟨⟨t_w3 78 rfl rfl, t_w1 2 rfl rfl, by decide, by decide, by decide +kernel⟩, t_w3 76 rfl rfl, t_w3 77 rfl rfl⟩
theorem kv_X8_drop : tCv yX8_drop cX8_drop 4 (some .int) 1 := ⟨⟨t_w3 86 rfl rfl, t_w1 2 rfl rfl, by decide, by decide, by decide +kernel⟩, t_w3 84 rfl rfl, t_w3 85 rfl rfl⟩
theorem kv_X8_forget : tCv yX8_forget cX8_forget 5 none 2 := ⟨⟨t_w3 100 rfl rfl, t_w1 2 rfl rfl, by decide, by decide, by decide +kernel⟩, t_w3 99 rfl rfl, t_s1 2 rfl⟩
theorem kv_X8_move : tCv yX8_move cX8_move 5 (some .int) 2 := ⟨⟨t_w3 120 rfl rfl, t_w1 2 rfl rfl, by decide, by decide, by decide +kernel⟩, t_w3 118 rfl rfl, t_w3 119 rfl rfl⟩
theorem kv_X8_tellScreen : tCv yX8_tellScreen cX8_tellScreen 3 none 2 := ⟨⟨t_w3 128 rfl rfl, t_w1 2 rfl rfl, by decide, by decide, by decide +kernel⟩, t_w3 126 rfl rfl, t_w3 127 rfl rfl⟩
theorem kv_X8_mark : tCv yX8_mark cX8_mark 7 none 1 := ⟨⟨t_w3 53 rfl rfl, t_w1 2 rfl rfl, by decide, by decide, by decide +kernel⟩, t_w3 51 rfl rfl, t_w3 52 rfl rfl⟩
theorem kv_X8_markAllAnew : tCv yX8_markAllAnew cX8_markAllAnew 2 none 0 := ⟨⟨t_w5 78 rfl rfl, t_w1 2 rfl rfl, by decide, by decide, by decide +kernel⟩, t_w5 76 rfl rfl, t_w5 77 rfl rfl⟩
theorem kv_X8_addPlanRow : tCv yX8_addPlanRow cX8_addPlanRow 3 (some .int) 2 := ⟨⟨t_w5 148 rfl rfl, t_w1 2 rfl rfl, by decide, by decide, by decide +kernel⟩, t_w5 146 rfl rfl, t_w5 147 rfl rfl⟩
theorem kv_X8_draw : tCv yX8_draw cX8_draw 2 (some .int) 1 := ⟨⟨t_w5 192 rfl rfl, t_w1 2 rfl rfl, by decide, by decide, by decide +kernel⟩, t_w5 190 rfl rfl, t_w5 191 rfl rfl⟩
theorem kv_X8_overBits : tCv yX8_overBits cX8_overBits 3 (some .int) 0 := ⟨⟨t_w5 37 rfl rfl, t_w1 2 rfl rfl, by decide, by decide, by decide +kernel⟩, t_w5 35 rfl rfl, t_w5 36 rfl rfl⟩
theorem kv_X8_overTogether : tCv yX8_overTogether cX8_overTogether 3 (some .int) 0 := ⟨⟨t_w5 197 rfl rfl, t_w1 2 rfl rfl, by decide, by decide, by decide +kernel⟩, t_w5 195 rfl rfl, t_w5 196 rfl rfl⟩
theorem kv_X8_leftInTop : tCv yX8_leftInTop cX8_leftInTop 5 (some .int) 1 := ⟨⟨t_w4 237 rfl rfl, t_w1 2 rfl rfl, by decide, by decide, by decide +kernel⟩, t_w4 235 rfl rfl, t_w4 236 rfl rfl⟩
theorem kv_X8_upperInTop : tCv yX8_upperInTop cX8_upperInTop 5 (some .int) 1 := ⟨⟨t_w5 1 rfl rfl, t_w1 2 rfl rfl, by decide, by decide, by decide +kernel⟩, t_w4 239 rfl rfl, t_w5 0 rfl rfl⟩
theorem kv_X8_whoIsAtPoint : tCv yX8_whoIsAtPoint cX8_whoIsAtPoint 3 (some .int) 2 := ⟨⟨t_w5 25 rfl rfl, t_w1 2 rfl rfl, by decide, by decide, by decide +kernel⟩, t_w5 23 rfl rfl, t_w5 24 rfl rfl⟩
theorem kv_X8_whoIsAt : tCv yX8_whoIsAt cX8_whoIsAt 11 (some .int) 6 := ⟨⟨t_w5 29 rfl rfl, t_w1 2 rfl rfl, by decide, by decide, by decide +kernel⟩, t_w5 28 rfl rfl, t_s3 13 rfl⟩
theorem kv_X8_isLaidLike : tCv yX8_isLaidLike cX8_isLaidLike 3 (some .boolean) 1 := ⟨⟨t_w5 82 rfl rfl, t_w1 2 rfl rfl, by decide, by decide, by decide +kernel⟩, t_w5 80 rfl rfl, t_w5 81 rfl rfl⟩
theorem kv_X8_copyFrom : tCv yX8_copyFrom cX8_copyFrom 3 none 1 := ⟨⟨t_w5 63 rfl rfl, t_w1 2 rfl rfl, by decide, by decide, by decide +kernel⟩, t_w5 61 rfl rfl, t_w5 62 rfl rfl⟩
theorem ki_X9_init : tCm yX9_init cX9_init 2 none 0 ∧ Cond.instanceMethod yX9_init ∈ tWS := ⟨⟨t_w1 24 rfl rfl, t_w1 1 rfl rfl, by decide, by decide, by decide +kernel⟩, t_w1 23 rfl rfl⟩
theorem kv_X9_comes : tCv yX9_comes cX9_comes 7 (some .int) 6 := ⟨⟨t_w2 219 rfl rfl, t_w1 1 rfl rfl, by decide, by decide, by decide +kernel⟩, t_w2 217 rfl rfl, t_w2 218 rfl rfl⟩
theorem kv_X9_tells : tCv yX9_tells cX9_tells 4 (some .int) 3 := ⟨⟨t_w3 61 rfl rfl, t_w1 1 rfl rfl, by decide, by decide, by decide +kernel⟩, t_w3 59 rfl rfl, t_w3 60 rfl rfl⟩
theorem kv_X9_drops : tCv yX9_drops cX9_drops 2 (some .int) 1 := ⟨⟨t_w3 82 rfl rfl, t_w1 1 rfl rfl, by decide, by decide, by decide +kernel⟩, t_w3 80 rfl rfl, t_w3 81 rfl rfl⟩
theorem kv_X9_moves : tCv yX9_moves cX9_moves 3 (some .int) 2 := ⟨⟨t_w3 116 rfl rfl, t_w1 1 rfl rfl, by decide, by decide, by decide +kernel⟩, t_w3 114 rfl rfl, t_w3 115 rfl rfl⟩
theorem kv_X9_screen : tCv yX9_screen cX9_screen 4 (some .int) 2 := ⟨⟨t_w3 124 rfl rfl, t_w1 1 rfl rfl, by decide, by decide, by decide +kernel⟩, t_w3 122 rfl rfl, t_w3 123 rfl rfl⟩
theorem kv_X9_of : tCv yX9_of cX9_of 4 (some .int) 2 := ⟨⟨t_w3 132 rfl rfl, t_w1 1 rfl rfl, by decide, by decide, by decide +kernel⟩, t_w3 130 rfl rfl, t_w3 131 rfl rfl⟩
theorem kv_X9_child : tCv yX9_child cX9_child 3 (some .int) 2 := ⟨⟨t_w3 139 rfl rfl, t_w1 1 rfl rfl, by decide, by decide, by decide +kernel⟩, t_w3 137 rfl rfl, t_w3 138 rfl rfl⟩
theorem kv_X9_letter : tCv yX9_letter cX9_letter 2 (some .int) 1 := ⟨⟨t_w3 143 rfl rfl, t_w1 1 rfl rfl, by decide, by decide, by decide +kernel⟩, t_w3 141 rfl rfl, t_w3 142 rfl rfl⟩
theorem kv_X9_reads : tCv yX9_reads cX9_reads 7 (some .int) 1 := ⟨⟨t_w3 147 rfl rfl, t_w1 1 rfl rfl, by decide, by decide, by decide +kernel⟩, t_w3 145 rfl rfl, t_w3 146 rfl rfl⟩
theorem kv_X9_printed : tCv yX9_printed cX9_printed 3 (some .int) 2 := ⟨⟨t_w4 29 rfl rfl, t_w1 1 rfl rfl, by decide, by decide, by decide +kernel⟩, t_w4 27 rfl rfl, t_w4 28 rfl rfl⟩
theorem kv_X9_lays : tCv yX9_lays cX9_lays 1 (some .int) 0 := ⟨⟨t_w4 59 rfl rfl, t_w1 1 rfl rfl, by decide, by decide, by decide +kernel⟩, t_w4 57 rfl rfl, t_w4 58 rfl rfl⟩
theorem kv_X9_at : tCv yX9_at cX9_at 4 (some .int) 2 := ⟨⟨t_w4 233 rfl rfl, t_w1 1 rfl rfl, by decide, by decide, by decide +kernel⟩, t_w4 231 rfl rfl, t_w4 232 rfl rfl⟩
theorem kv_X9_bounds : tCv yX9_bounds cX9_bounds 4 (some .int) 2 := ⟨⟨t_w5 9 rfl rfl, t_w1 1 rfl rfl, by decide, by decide, by decide +kernel⟩, t_w5 7 rfl rfl, t_w5 8 rfl rfl⟩
theorem kv_X9_asks : tCv yX9_asks cX9_asks 3 (some .int) 2 := ⟨⟨t_w5 13 rfl rfl, t_w1 1 rfl rfl, by decide, by decide, by decide +kernel⟩, t_w5 11 rfl rfl, t_w5 12 rfl rfl⟩
theorem kv_X9_hit : tCv yX9_hit cX9_hit 3 (some .int) 2 := ⟨⟨t_w5 21 rfl rfl, t_w1 1 rfl rfl, by decide, by decide, by decide +kernel⟩, t_w5 19 rfl rfl, t_w5 20 rfl rfl⟩
theorem kv_X9_told : tCv yX9_told cX9_told 2 (some .int) 1 := ⟨⟨t_w5 33 rfl rfl, t_w1 1 rfl rfl, by decide, by decide, by decide +kernel⟩, t_w5 31 rfl rfl, t_w5 32 rfl rfl⟩
theorem kv_X9_agrees : tCv yX9_agrees cX9_agrees 1 (some .int) 0 := ⟨⟨t_w5 45 rfl rfl, t_w1 1 rfl rfl, by decide, by decide, by decide +kernel⟩, t_w5 43 rfl rfl, t_w5 44 rfl rfl⟩
theorem kv_X9_narrowest : tCv yX9_narrowest cX9_narrowest 1 (some .int) 0 := ⟨⟨t_w5 90 rfl rfl, t_w1 1 rfl rfl, by decide, by decide, by decide +kernel⟩, t_w5 88 rfl rfl, t_w5 89 rfl rfl⟩
theorem kv_X9_tall : tCv yX9_tall cX9_tall 2 (some .int) 1 := ⟨⟨t_w5 105 rfl rfl, t_w1 1 rfl rfl, by decide, by decide, by decide +kernel⟩, t_w5 103 rfl rfl, t_w5 104 rfl rfl⟩
theorem kv_X9_reached : tCv yX9_reached cX9_reached 3 (some .int) 2 := ⟨⟨t_w5 113 rfl rfl, t_w1 1 rfl rfl, by decide, by decide, by decide +kernel⟩, t_w5 111 rfl rfl, t_w5 112 rfl rfl⟩
theorem kv_X9_bestShare : tCv yX9_bestShare cX9_bestShare 3 (some .int) 2 := ⟨⟨t_w5 122 rfl rfl, t_w1 1 rfl rfl, by decide, by decide, by decide +kernel⟩, t_w5 120 rfl rfl, t_w5 121 rfl rfl⟩
theorem kv_X9_fits : tCv yX9_fits cX9_fits 3 (some .int) 2 := ⟨⟨t_w5 135 rfl rfl, t_w1 1 rfl rfl, by decide, by decide, by decide +kernel⟩, t_w5 133 rfl rfl, t_w5 134 rfl rfl⟩
theorem kv_X9_plan : tCv yX9_plan cX9_plan 3 (some .int) 2 := ⟨⟨t_w5 144 rfl rfl, t_w1 1 rfl rfl, by decide, by decide, by decide +kernel⟩, t_w5 142 rfl rfl, t_w5 143 rfl rfl⟩
theorem kv_X9_saved : tCv yX9_saved cX9_saved 1 (some .int) 0 := ⟨⟨t_w5 152 rfl rfl, t_w1 1 rfl rfl, by decide, by decide, by decide +kernel⟩, t_w5 150 rfl rfl, t_w5 151 rfl rfl⟩
theorem kv_X9_likely : tCv yX9_likely cX9_likely 4 (some .long) 2 := ⟨⟨t_w5 160 rfl rfl, t_w1 1 rfl rfl, by decide, by decide, by decide +kernel⟩, t_w5 158 rfl rfl, t_w5 159 rfl rfl⟩
theorem kv_X9_drawn : tCv yX9_drawn cX9_drawn 2 (some .int) 1 := ⟨⟨t_w5 184 rfl rfl, t_w1 1 rfl rfl, by decide, by decide, by decide +kernel⟩, t_w5 182 rfl rfl, t_w5 183 rfl rfl⟩
theorem kv_X9_seed : tCv yX9_seed cX9_seed 3 (some .int) 1 := ⟨⟨t_w5 201 rfl rfl, t_w1 1 rfl rfl, by decide, by decide, by decide +kernel⟩, t_w5 199 rfl rfl, t_w5 200 rfl rfl⟩
theorem kv_X9_mean : tCv yX9_mean cX9_mean 5 (some .long) 1 := ⟨⟨t_w5 205 rfl rfl, t_w1 1 rfl rfl, by decide, by decide, by decide +kernel⟩, t_w5 203 rfl rfl, t_w5 204 rfl rfl⟩
theorem kv_X9_taken : tCv yX9_taken cX9_taken 4 (some .int) 2 := ⟨⟨t_w5 210 rfl rfl, t_w1 1 rfl rfl, by decide, by decide, by decide +kernel⟩, t_w5 208 rfl rfl, t_w5 209 rfl rfl⟩
theorem kv_X9_judge : tCv yX9_judge cX9_judge 4 (some .int) 2 := ⟨⟨t_w5 218 rfl rfl, t_w1 1 rfl rfl, by decide, by decide, by decide +kernel⟩, t_w5 216 rfl rfl, t_w5 217 rfl rfl⟩
theorem kv_X9_tape : tCv yX9_tape cX9_tape 4 (some .int) 3 := ⟨⟨t_w5 229 rfl rfl, t_w1 1 rfl rfl, by decide, by decide, by decide +kernel⟩, t_w5 227 rfl rfl, t_w5 228 rfl rfl⟩
theorem kv_X9_item : tCv yX9_item cX9_item 6 (some .int) 3 := ⟨⟨t_w6 0 rfl rfl, t_w1 1 rfl rfl, by decide, by decide, by decide +kernel⟩, t_w5 238 rfl rfl, t_w5 239 rfl rfl⟩
theorem kv_X9_peek : tCv yX9_peek cX9_peek 3 (some .long) 2 := ⟨⟨t_w6 12 rfl rfl, t_w1 1 rfl rfl, by decide, by decide, by decide +kernel⟩, t_w6 10 rfl rfl, t_w6 11 rfl rfl⟩
theorem kv_X9_shift : tCv yX9_shift cX9_shift 8 (some .int) 5 := ⟨⟨t_w6 16 rfl rfl, t_w1 1 rfl rfl, by decide, by decide, by decide +kernel⟩, t_w6 14 rfl rfl, t_w6 15 rfl rfl⟩
theorem kv_X9_image : tCv yX9_image cX9_image 1 (some .int) 0 := ⟨⟨t_w6 25 rfl rfl, t_w1 1 rfl rfl, by decide, by decide, by decide +kernel⟩, t_w6 23 rfl rfl, t_w6 24 rfl rfl⟩
theorem kv_X9_undo : tCv yX9_undo cX9_undo 1 (some .int) 0 := ⟨⟨t_w6 30 rfl rfl, t_w1 1 rfl rfl, by decide, by decide, by decide +kernel⟩, t_w6 28 rfl rfl, t_w6 29 rfl rfl⟩
theorem kv_X9_mayHoldChildren : tCv yX9_mayHoldChildren cX9_mayHoldChildren 2 (some .boolean) 1 := ⟨⟨t_w2 223 rfl rfl, t_w1 1 rfl rfl, by decide, by decide, by decide +kernel⟩, t_w2 222 rfl rfl, t_s1 0 rfl⟩
theorem ks_X9_isTape : tCs yX9_isTape cX9_isTape 1 (some .boolean) 1 := ⟨⟨t_w5 221 rfl rfl, t_w1 1 rfl rfl, by decide, by decide, by decide +kernel⟩, t_w5 220 rfl rfl⟩
theorem ks_X9_bitOf : tCs yX9_bitOf cX9_bitOf 2 (some .int) 2 := ⟨⟨t_w3 135 rfl rfl, t_w1 1 rfl rfl, by decide, by decide, by decide +kernel⟩, t_w3 134 rfl rfl⟩
theorem kv_X9_firstOtherwise : tCv yX9_firstOtherwise cX9_firstOtherwise 5 (some .int) 2 := ⟨⟨t_w5 225 rfl rfl, t_w1 1 rfl rfl, by decide, by decide, by decide +kernel⟩, t_w5 224 rfl rfl, t_s4 1 rfl⟩
theorem ks_X9_held : tCs yX9_held cX9_held 3 (some .int) 3 := ⟨⟨t_w4 92 rfl rfl, t_w1 1 rfl rfl, by decide, by decide, by decide +kernel⟩, t_w4 91 rfl rfl⟩
theorem ks_X9_timesBy : tCs yX9_timesBy cX9_timesBy 3 (some .int) 3 := ⟨⟨t_w4 174 rfl rfl, t_w1 1 rfl rfl, by decide, by decide, by decide +kernel⟩, t_w4 173 rfl rfl⟩
theorem ks_X9_power : tCs yX9_power cX9_power 6 (some .long) 2 := ⟨⟨t_w5 173 rfl rfl, t_w1 1 rfl rfl, by decide, by decide, by decide +kernel⟩, t_w5 172 rfl rfl⟩
theorem ks_X9_partOfFraction : tCs yX9_partOfFraction cX9_partOfFraction 7 (some .long) 3 := ⟨⟨t_w5 177 rfl rfl, t_w1 1 rfl rfl, by decide, by decide, by decide +kernel⟩, t_w5 176 rfl rfl⟩
theorem ks_X9_commonDivisor : tCs yX9_commonDivisor cX9_commonDivisor 11 (some .long) 2 := ⟨⟨t_w5 180 rfl rfl, t_w1 1 rfl rfl, by decide, by decide, by decide +kernel⟩, t_w5 179 rfl rfl⟩
theorem ki_X10_init : tCm yX10_init cX10_init 1 none 0 ∧ Cond.instanceMethod yX10_init ∈ tWS := ⟨⟨t_w6 35 rfl rfl, t_w1 10 rfl rfl, by decide, by decide, by decide +kernel⟩, t_w6 34 rfl rfl⟩
theorem ks_X10_in : tCs yX10_in cX10_in 6 (some .boolean) 3 := ⟨⟨t_w6 169 rfl rfl, t_w1 10 rfl rfl, by decide, by decide, by decide +kernel⟩, t_w6 168 rfl rfl⟩
theorem ks_X10_held : tCs yX10_held cX10_held 3 (some .int) 3 := ⟨⟨t_w7 69 rfl rfl, t_w1 10 rfl rfl, by decide, by decide, by decide +kernel⟩, t_w7 68 rfl rfl⟩
theorem ks_X10_ended : tCs yX10_ended cX10_ended 1 (some .int) 1 := ⟨⟨t_w7 66 rfl rfl, t_w1 10 rfl rfl, by decide, by decide, by decide +kernel⟩, t_w7 65 rfl rfl⟩
theorem kv_X10_get : tCv yX10_get cX10_get 3 (some .int) 2 := ⟨⟨t_w6 173 rfl rfl, t_w1 10 rfl rfl, by decide, by decide, by decide +kernel⟩, t_w6 172 rfl rfl, t_s4 3 rfl⟩
theorem kv_X10_put : tCv yX10_put cX10_put 4 none 3 := ⟨⟨t_w6 208 rfl rfl, t_w1 10 rfl rfl, by decide, by decide, by decide +kernel⟩, t_w6 207 rfl rfl, t_s4 7 rfl⟩
theorem kv_X10_isBox : tCv yX10_isBox cX10_isBox 2 (some .boolean) 1 := ⟨⟨t_w6 165 rfl rfl, t_w1 10 rfl rfl, by decide, by decide, by decide +kernel⟩, t_w6 164 rfl rfl, t_s4 2 rfl⟩
theorem kv_X10_childOf : tCv yX10_childOf cX10_childOf 3 (some .int) 2 := ⟨⟨t_w7 2 rfl rfl, t_w1 10 rfl rfl, by decide, by decide, by decide +kernel⟩, t_w7 1 rfl rfl, t_s4 13 rfl⟩
theorem kv_X10_manyOf : tCv yX10_manyOf cX10_manyOf 2 (some .int) 1 := ⟨⟨t_w6 197 rfl rfl, t_w1 10 rfl rfl, by decide, by decide, by decide +kernel⟩, t_w6 196 rfl rfl, t_s4 5 rfl⟩
theorem ks_X10_copies : tCs yX10_copies cX10_copies 3 none 2 := ⟨⟨t_w8 60 rfl rfl, t_w1 10 rfl rfl, by decide, by decide, by decide +kernel⟩, t_w8 59 rfl rfl⟩
theorem ks_X10_takes : tCs yX10_takes cX10_takes 1 (some .int) 1 := ⟨⟨t_w6 200 rfl rfl, t_w1 10 rfl rfl, by decide, by decide, by decide +kernel⟩, t_w6 199 rfl rfl⟩
theorem ks_X10_numbersOf : tCs yX10_numbersOf cX10_numbersOf 1 (some .int) 1 := ⟨⟨t_w6 180 rfl rfl, t_w1 10 rfl rfl, by decide, by decide, by decide +kernel⟩, t_w6 179 rfl rfl⟩
theorem ks_X10_leastOf : tCs yX10_leastOf cX10_leastOf 1 (some .int) 1 := ⟨⟨t_w6 186 rfl rfl, t_w1 10 rfl rfl, by decide, by decide, by decide +kernel⟩, t_w6 185 rfl rfl⟩
theorem ks_X10_mostOf : tCs yX10_mostOf cX10_mostOf 2 (some .int) 2 := ⟨⟨t_w6 189 rfl rfl, t_w1 10 rfl rfl, by decide, by decide, by decide +kernel⟩, t_w6 188 rfl rfl⟩
theorem ks_X10_mayBe : tCs yX10_mayBe cX10_mayBe 3 (some .boolean) 3 := ⟨⟨t_w6 183 rfl rfl, t_w1 10 rfl rfl, by decide, by decide, by decide +kernel⟩, t_w6 182 rfl rfl⟩
theorem kv_X10_isFixed : tCv yX10_isFixed cX10_isFixed 2 (some .boolean) 1 := ⟨⟨t_w6 216 rfl rfl, t_w1 10 rfl rfl, by decide, by decide, by decide +kernel⟩, t_w6 215 rfl rfl, t_s4 9 rfl⟩
theorem kv_X10_marks : tCv yX10_marks cX10_marks 4 none 1 := ⟨⟨t_w6 212 rfl rfl, t_w1 10 rfl rfl, by decide, by decide, by decide +kernel⟩, t_w6 211 rfl rfl, t_s4 8 rfl⟩
theorem kv_X10_putBox : tCv yX10_putBox cX10_putBox 10 (some .int) 7 := ⟨⟨t_w6 204 rfl rfl, t_w1 10 rfl rfl, by decide, by decide, by decide +kernel⟩, t_w6 203 rfl rfl, t_s4 6 rfl⟩
theorem ks_X10_areGood : tCs yX10_areGood cX10_areGood 7 (some .boolean) 5 := ⟨⟨t_w6 177 rfl rfl, t_w1 10 rfl rfl, by decide, by decide, by decide +kernel⟩, t_w6 176 rfl rfl⟩
theorem kv_X10_isRoom : tCv yX10_isRoom cX10_isRoom 2 (some .boolean) 1 := ⟨⟨t_w6 193 rfl rfl, t_w1 10 rfl rfl, by decide, by decide, by decide +kernel⟩, t_w6 192 rfl rfl, t_s4 4 rfl⟩
theorem kv_X10_comes : tCv yX10_comes cX10_comes 7 (some .int) 6 := ⟨⟨t_w6 161 rfl rfl, t_w1 10 rfl rfl, by decide, by decide, by decide +kernel⟩, t_w6 159 rfl rfl, t_w6 160 rfl rfl⟩
theorem kv_X10_isToldGood : tCv yX10_isToldGood cX10_isToldGood 5 (some .boolean) 3 := ⟨⟨t_w6 225 rfl rfl, t_w1 10 rfl rfl, by decide, by decide, by decide +kernel⟩, t_w6 224 rfl rfl, t_s4 10 rfl⟩
theorem kv_X10_tellsIt : tCv yX10_tellsIt cX10_tellsIt 4 none 3 := ⟨⟨t_w6 230 rfl rfl, t_w1 10 rfl rfl, by decide, by decide, by decide +kernel⟩, t_w6 229 rfl rfl, t_s4 11 rfl⟩
theorem kv_X10_tells : tCv yX10_tells cX10_tells 5 (some .int) 3 := ⟨⟨t_w6 220 rfl rfl, t_w1 10 rfl rfl, by decide, by decide, by decide +kernel⟩, t_w6 218 rfl rfl, t_w6 219 rfl rfl⟩
theorem kv_X10_placeOf : tCv yX10_placeOf cX10_placeOf 4 (some .int) 1 := ⟨⟨t_w6 238 rfl rfl, t_w1 10 rfl rfl, by decide, by decide, by decide +kernel⟩, t_w6 237 rfl rfl, t_s4 12 rfl⟩
theorem kv_X10_isIn : tCv yX10_isIn cX10_isIn 4 (some .boolean) 2 := ⟨⟨t_w7 6 rfl rfl, t_w1 10 rfl rfl, by decide, by decide, by decide +kernel⟩, t_w7 5 rfl rfl, t_s4 14 rfl⟩
theorem kv_X10_drops : tCv yX10_drops cX10_drops 6 (some .int) 1 := ⟨⟨t_w6 234 rfl rfl, t_w1 10 rfl rfl, by decide, by decide, by decide +kernel⟩, t_w6 232 rfl rfl, t_w6 233 rfl rfl⟩
theorem kv_X10_moves : tCv yX10_moves cX10_moves 7 (some .int) 2 := ⟨⟨t_w7 10 rfl rfl, t_w1 10 rfl rfl, by decide, by decide, by decide +kernel⟩, t_w7 8 rfl rfl, t_w7 9 rfl rfl⟩
theorem kv_X10_screens : tCv yX10_screens cX10_screens 3 none 2 := ⟨⟨t_w7 19 rfl rfl, t_w1 10 rfl rfl, by decide, by decide, by decide +kernel⟩, t_w7 18 rfl rfl, t_s4 15 rfl⟩
theorem kv_X10_screen : tCv yX10_screen cX10_screen 4 (some .int) 2 := ⟨⟨t_w7 14 rfl rfl, t_w1 10 rfl rfl, by decide, by decide, by decide +kernel⟩, t_w7 12 rfl rfl, t_w7 13 rfl rfl⟩
theorem kv_X10_depthOf : tCv yX10_depthOf cX10_depthOf 4 (some .int) 1 := ⟨⟨t_w7 28 rfl rfl, t_w1 10 rfl rfl, by decide, by decide, by decide +kernel⟩, t_w7 27 rfl rfl, t_s5 0 rfl⟩
theorem kv_X10_of : tCv yX10_of cX10_of 3 (some .int) 2 := ⟨⟨t_w7 23 rfl rfl, t_w1 10 rfl rfl, by decide, by decide, by decide +kernel⟩, t_w7 21 rfl rfl, t_w7 22 rfl rfl⟩
theorem kv_X10_child : tCv yX10_child cX10_child 3 (some .int) 2 := ⟨⟨t_w7 32 rfl rfl, t_w1 10 rfl rfl, by decide, by decide, by decide +kernel⟩, t_w7 30 rfl rfl, t_w7 31 rfl rfl⟩
theorem ks_X10_wordOf : tCs yX10_wordOf cX10_wordOf 3 (some .int) 2 := ⟨⟨t_w7 55 rfl rfl, t_w1 10 rfl rfl, by decide, by decide, by decide +kernel⟩, t_w7 54 rfl rfl⟩
theorem kv_X10_textOf : tCv yX10_textOf cX10_textOf 7 (some .int) 2 := ⟨⟨t_w7 52 rfl rfl, t_w1 10 rfl rfl, by decide, by decide, by decide +kernel⟩, t_w7 51 rfl rfl, t_s5 4 rfl⟩
theorem kv_X10_toldBy : tCv yX10_toldBy cX10_toldBy 5 (some .int) 3 := ⟨⟨t_w7 63 rfl rfl, t_w1 10 rfl rfl, by decide, by decide, by decide +kernel⟩, t_w7 62 rfl rfl, t_s5 6 rfl⟩
theorem kv_X10_mostTold : tCv yX10_mostTold cX10_mostTold 6 (some .int) 2 := ⟨⟨t_w7 59 rfl rfl, t_w1 10 rfl rfl, by decide, by decide, by decide +kernel⟩, t_w7 58 rfl rfl, t_s5 5 rfl⟩
theorem kv_X10_allTold : tCv yX10_allTold cX10_allTold 7 (some .int) 2 := ⟨⟨t_w7 73 rfl rfl, t_w1 10 rfl rfl, by decide, by decide, by decide +kernel⟩, t_w7 72 rfl rfl, t_s5 7 rfl⟩
theorem kv_X10_answerOf : tCv yX10_answerOf cX10_answerOf 3 (some .int) 2 := ⟨⟨t_w7 48 rfl rfl, t_w1 10 rfl rfl, by decide, by decide, by decide +kernel⟩, t_w7 47 rfl rfl, t_s5 3 rfl⟩
theorem kv_X10_untold : tCv yX10_untold cX10_untold 6 (some .int) 2 := ⟨⟨t_w7 44 rfl rfl, t_w1 10 rfl rfl, by decide, by decide, by decide +kernel⟩, t_w7 43 rfl rfl, t_s5 2 rfl⟩
theorem kv_X10_asksIt : tCv yX10_asksIt cX10_asksIt 7 (some .int) 2 := ⟨⟨t_w7 40 rfl rfl, t_w1 10 rfl rfl, by decide, by decide, by decide +kernel⟩, t_w7 39 rfl rfl, t_s5 1 rfl⟩
theorem kv_X10_asks : tCv yX10_asks cX10_asks 3 (some .int) 2 := ⟨⟨t_w7 36 rfl rfl, t_w1 10 rfl rfl, by decide, by decide, by decide +kernel⟩, t_w7 34 rfl rfl, t_w7 35 rfl rfl⟩
theorem kv_X10_ownBase : tCv yX10_ownBase cX10_ownBase 3 (some .int) 1 := ⟨⟨t_w7 194 rfl rfl, t_w1 10 rfl rfl, by decide, by decide, by decide +kernel⟩, t_w7 193 rfl rfl, t_s7 2 rfl⟩
theorem kv_X10_baseOf : tCv yX10_baseOf cX10_baseOf 7 (some .int) 2 := ⟨⟨t_w7 190 rfl rfl, t_w1 10 rfl rfl, by decide, by decide, by decide +kernel⟩, t_w7 189 rfl rfl, t_s7 1 rfl⟩
theorem ks_X10_less : tCs yX10_less cX10_less 2 (some .int) 2 := ⟨⟨t_w7 116 rfl rfl, t_w1 10 rfl rfl, by decide, by decide, by decide +kernel⟩, t_w7 115 rfl rfl⟩
theorem kv_X10_lay : tCv yX10_lay cX10_lay 7 none 5 := ⟨⟨t_w7 89 rfl rfl, t_w1 10 rfl rfl, by decide, by decide, by decide +kernel⟩, t_w7 88 rfl rfl, t_s5 10 rfl⟩
theorem kv_X10_low : tCv yX10_low cX10_low 3 (some .int) 2 := ⟨⟨t_w7 101 rfl rfl, t_w1 10 rfl rfl, by decide, by decide, by decide +kernel⟩, t_w7 100 rfl rfl, t_s5 13 rfl⟩
theorem kv_X10_most : tCv yX10_most cX10_most 3 (some .int) 2 := ⟨⟨t_w7 105 rfl rfl, t_w1 10 rfl rfl, by decide, by decide, by decide +kernel⟩, t_w7 104 rfl rfl, t_s5 14 rfl⟩
theorem kv_X10_ends : tCv yX10_ends cX10_ends 4 none 3 := ⟨⟨t_w7 97 rfl rfl, t_w1 10 rfl rfl, by decide, by decide, by decide +kernel⟩, t_w7 96 rfl rfl, t_s5 12 rfl⟩
theorem kv_X10_sets : tCv yX10_sets cX10_sets 4 none 3 := ⟨⟨t_w7 120 rfl rfl, t_w1 10 rfl rfl, by decide, by decide, by decide +kernel⟩, t_w7 119 rfl rfl, t_s6 1 rfl⟩
theorem kv_X10_sizeOf : tCv yX10_sizeOf cX10_sizeOf 3 (some .int) 2 := ⟨⟨t_w7 124 rfl rfl, t_w1 10 rfl rfl, by decide, by decide, by decide +kernel⟩, t_w7 123 rfl rfl, t_s6 2 rfl⟩
theorem kv_X10_layText : tCv yX10_layText cX10_layText 9 none 1 := ⟨⟨t_w7 109 rfl rfl, t_w1 10 rfl rfl, by decide, by decide, by decide +kernel⟩, t_w7 108 rfl rfl, t_s5 15 rfl⟩
theorem kv_X10_layPad : tCv yX10_layPad cX10_layPad 5 none 2 := ⟨⟨t_w7 113 rfl rfl, t_w1 10 rfl rfl, by decide, by decide, by decide +kernel⟩, t_w7 112 rfl rfl, t_s6 0 rfl⟩
theorem kv_X10_limited : tCv yX10_limited cX10_limited 5 (some .int) 3 := ⟨⟨t_w7 132 rfl rfl, t_w1 10 rfl rfl, by decide, by decide, by decide +kernel⟩, t_w7 131 rfl rfl, t_s6 4 rfl⟩
theorem kv_X10_layLimit : tCv yX10_layLimit cX10_layLimit 3 none 2 := ⟨⟨t_w7 128 rfl rfl, t_w1 10 rfl rfl, by decide, by decide, by decide +kernel⟩, t_w7 127 rfl rfl, t_s6 3 rfl⟩
theorem kv_X10_layCentre : tCv yX10_layCentre cX10_layCentre 5 none 2 := ⟨⟨t_w7 136 rfl rfl, t_w1 10 rfl rfl, by decide, by decide, by decide +kernel⟩, t_w7 135 rfl rfl, t_s6 5 rfl⟩
theorem kv_X10_layFit : tCv yX10_layFit cX10_layFit 4 none 2 := ⟨⟨t_w7 140 rfl rfl, t_w1 10 rfl rfl, by decide, by decide, by decide +kernel⟩, t_w7 139 rfl rfl, t_s6 6 rfl⟩
theorem kv_X10_layRatio : tCv yX10_layRatio cX10_layRatio 8 none 2 := ⟨⟨t_w7 144 rfl rfl, t_w1 10 rfl rfl, by decide, by decide, by decide +kernel⟩, t_w7 143 rfl rfl, t_s6 7 rfl⟩
theorem ks_X10_beside : tCs yX10_beside cX10_beside 2 (some .int) 2 := ⟨⟨t_w7 151 rfl rfl, t_w1 10 rfl rfl, by decide, by decide, by decide +kernel⟩, t_w7 150 rfl rfl⟩
theorem kv_X10_layLayers : tCv yX10_layLayers cX10_layLayers 9 none 1 := ⟨⟨t_w7 148 rfl rfl, t_w1 10 rfl rfl, by decide, by decide, by decide +kernel⟩, t_w7 147 rfl rfl, t_s6 8 rfl⟩
theorem ks_X10_alongOf : tCs yX10_alongOf cX10_alongOf 1 (some .int) 1 := ⟨⟨t_w7 162 rfl rfl, t_w1 10 rfl rfl, by decide, by decide, by decide +kernel⟩, t_w7 161 rfl rfl⟩
theorem kv_X10_hasPart : tCv yX10_hasPart cX10_hasPart 3 (some .boolean) 2 := ⟨⟨t_w7 159 rfl rfl, t_w1 10 rfl rfl, by decide, by decide, by decide +kernel⟩, t_w7 158 rfl rfl, t_s6 10 rfl⟩
theorem kv_X10_gapsOf : tCv yX10_gapsOf cX10_gapsOf 3 (some .int) 1 := ⟨⟨t_w7 174 rfl rfl, t_w1 10 rfl rfl, by decide, by decide, by decide +kernel⟩, t_w7 173 rfl rfl, t_s6 13 rfl⟩
theorem kv_X10_layAlong : tCv yX10_layAlong cX10_layAlong 8 none 4 := ⟨⟨t_w7 166 rfl rfl, t_w1 10 rfl rfl, by decide, by decide, by decide +kernel⟩, t_w7 165 rfl rfl, t_s6 11 rfl⟩
theorem kv_X10_parts : tCv yX10_parts cX10_parts 9 none 1 := ⟨⟨t_w7 170 rfl rfl, t_w1 10 rfl rfl, by decide, by decide, by decide +kernel⟩, t_w7 169 rfl rfl, t_s6 12 rfl⟩
theorem kv_X10_roundOf : tCv yX10_roundOf cX10_roundOf 14 (some .int) 3 := ⟨⟨t_w7 178 rfl rfl, t_w1 10 rfl rfl, by decide, by decide, by decide +kernel⟩, t_w7 177 rfl rfl, t_s6 14 rfl⟩
theorem kv_X10_layRow : tCv yX10_layRow cX10_layRow 5 none 1 := ⟨⟨t_w7 155 rfl rfl, t_w1 10 rfl rfl, by decide, by decide, by decide +kernel⟩, t_w7 154 rfl rfl, t_s6 9 rfl⟩
theorem kv_X10_endsRow : tCv yX10_endsRow cX10_endsRow 15 none 1 := ⟨⟨t_w7 182 rfl rfl, t_w1 10 rfl rfl, by decide, by decide, by decide +kernel⟩, t_w7 181 rfl rfl, t_s6 15 rfl⟩
theorem kv_X10_lineOf : tCv yX10_lineOf cX10_lineOf 6 (some .int) 1 := ⟨⟨t_w7 186 rfl rfl, t_w1 10 rfl rfl, by decide, by decide, by decide +kernel⟩, t_w7 185 rfl rfl, t_s7 0 rfl⟩
theorem kv_X10_belowOf : tCv yX10_belowOf cX10_belowOf 5 (some .int) 1 := ⟨⟨t_w7 198 rfl rfl, t_w1 10 rfl rfl, by decide, by decide, by decide +kernel⟩, t_w7 197 rfl rfl, t_s7 3 rfl⟩
theorem kv_X10_stepsOn : tCv yX10_stepsOn cX10_stepsOn 3 none 1 := ⟨⟨t_w7 93 rfl rfl, t_w1 10 rfl rfl, by decide, by decide, by decide +kernel⟩, t_w7 92 rfl rfl, t_s5 11 rfl⟩
theorem kv_X10_nextListed : tCv yX10_nextListed cX10_nextListed 4 (some .int) 0 := ⟨⟨t_w7 85 rfl rfl, t_w1 10 rfl rfl, by decide, by decide, by decide +kernel⟩, t_w7 84 rfl rfl, t_s5 9 rfl⟩
theorem kv_X10_layOut : tCv yX10_layOut cX10_layOut 2 none 0 := ⟨⟨t_w7 81 rfl rfl, t_w1 10 rfl rfl, by decide, by decide, by decide +kernel⟩, t_w7 80 rfl rfl, t_s5 8 rfl⟩
theorem kv_X10_lays : tCv yX10_lays cX10_lays 1 (some .int) 0 := ⟨⟨t_w7 77 rfl rfl, t_w1 10 rfl rfl, by decide, by decide, by decide +kernel⟩, t_w7 75 rfl rfl, t_w7 76 rfl rfl⟩
theorem kv_X10_inTop : tCv yX10_inTop cX10_inTop 5 (some .int) 2 := ⟨⟨t_w7 207 rfl rfl, t_w1 10 rfl rfl, by decide, by decide, by decide +kernel⟩, t_w7 206 rfl rfl, t_s7 4 rfl⟩
theorem kv_X10_at : tCv yX10_at cX10_at 3 (some .int) 2 := ⟨⟨t_w7 202 rfl rfl, t_w1 10 rfl rfl, by decide, by decide, by decide +kernel⟩, t_w7 200 rfl rfl, t_w7 201 rfl rfl⟩
theorem kv_X10_bounds : tCv yX10_bounds cX10_bounds 3 (some .int) 2 := ⟨⟨t_w7 211 rfl rfl, t_w1 10 rfl rfl, by decide, by decide, by decide +kernel⟩, t_w7 209 rfl rfl, t_w7 210 rfl rfl⟩
theorem kv_X10_isAt : tCv yX10_isAt cX10_isAt 4 (some .boolean) 3 := ⟨⟨t_w7 220 rfl rfl, t_w1 10 rfl rfl, by decide, by decide, by decide +kernel⟩, t_w7 219 rfl rfl, t_s7 5 rfl⟩
theorem kv_X10_hit : tCv yX10_hit cX10_hit 8 (some .int) 2 := ⟨⟨t_w7 216 rfl rfl, t_w1 10 rfl rfl, by decide, by decide, by decide +kernel⟩, t_w7 214 rfl rfl, t_w7 215 rfl rfl⟩
theorem kv_X10_bitsOf : tCv yX10_bitsOf cX10_bitsOf 4 (some .int) 1 := ⟨⟨t_w7 228 rfl rfl, t_w1 10 rfl rfl, by decide, by decide, by decide +kernel⟩, t_w7 227 rfl rfl, t_s7 6 rfl⟩
theorem kv_X10_many : tCv yX10_many cX10_many 3 (some .int) 0 := ⟨⟨t_w8 64 rfl rfl, t_w1 10 rfl rfl, by decide, by decide, by decide +kernel⟩, t_w8 63 rfl rfl, t_s8 3 rfl⟩
theorem kv_X10_told : tCv yX10_told cX10_told 2 (some .int) 1 := ⟨⟨t_w7 224 rfl rfl, t_w1 10 rfl rfl, by decide, by decide, by decide +kernel⟩, t_w7 222 rfl rfl, t_w7 223 rfl rfl⟩
theorem kv_X10_letter : tCv yX10_letter cX10_letter 2 (some .int) 1 := ⟨⟨t_w7 232 rfl rfl, t_w1 10 rfl rfl, by decide, by decide, by decide +kernel⟩, t_w7 230 rfl rfl, t_w7 231 rfl rfl⟩
theorem kv_X10_here : tCv yX10_here cX10_here 1 (some .int) 0 := ⟨⟨t_w8 14 rfl rfl, t_w1 10 rfl rfl, by decide, by decide, by decide +kernel⟩, t_w8 13 rfl rfl, t_s7 10 rfl⟩
theorem kv_X10_nameLetter : tCv yX10_nameLetter cX10_nameLetter 3 (some .int) 2 := ⟨⟨t_w8 10 rfl rfl, t_w1 10 rfl rfl, by decide, by decide, by decide +kernel⟩, t_w8 9 rfl rfl, t_s7 9 rfl⟩
theorem kv_X10_readName : tCv yX10_readName cX10_readName 6 (some .int) 0 := ⟨⟨t_w8 6 rfl rfl, t_w1 10 rfl rfl, by decide, by decide, by decide +kernel⟩, t_w8 5 rfl rfl, t_s7 8 rfl⟩
theorem kv_X10_readNumber : tCv yX10_readNumber cX10_readNumber 7 (some .int) 3 := ⟨⟨t_w8 18 rfl rfl, t_w1 10 rfl rfl, by decide, by decide, by decide +kernel⟩, t_w8 17 rfl rfl, t_s7 11 rfl⟩
theorem kv_X10_readShare : tCv yX10_readShare cX10_readShare 2 none 1 := ⟨⟨t_w8 24 rfl rfl, t_w1 10 rfl rfl, by decide, by decide, by decide +kernel⟩, t_w8 23 rfl rfl, t_s7 12 rfl⟩
theorem kv_X10_readBox : tCv yX10_readBox cX10_readBox 5 none 0 := ⟨⟨t_w8 2 rfl rfl, t_w1 10 rfl rfl, by decide, by decide, by decide +kernel⟩, t_w8 1 rfl rfl, t_s7 7 rfl⟩
theorem kv_X10_goesOn : tCv yX10_goesOn cX10_goesOn 1 (some .boolean) 0 := ⟨⟨t_w8 28 rfl rfl, t_w1 10 rfl rfl, by decide, by decide, by decide +kernel⟩, t_w8 27 rfl rfl, t_s7 13 rfl⟩
theorem kv_X10_reads : tCv yX10_reads cX10_reads 7 (some .int) 1 := ⟨⟨t_w7 238 rfl rfl, t_w1 10 rfl rfl, by decide, by decide, by decide +kernel⟩, t_w7 236 rfl rfl, t_w7 237 rfl rfl⟩
theorem kv_X10_prints : tCv yX10_prints cX10_prints 2 none 1 := ⟨⟨t_w8 44 rfl rfl, t_w1 10 rfl rfl, by decide, by decide, by decide +kernel⟩, t_w8 43 rfl rfl, t_s8 0 rfl⟩
theorem kv_X10_printsBox : tCv yX10_printsBox cX10_printsBox 5 none 1 := ⟨⟨t_w8 40 rfl rfl, t_w1 10 rfl rfl, by decide, by decide, by decide +kernel⟩, t_w8 39 rfl rfl, t_s7 15 rfl⟩
theorem kv_X10_printsAll : tCv yX10_printsAll cX10_printsAll 4 none 1 := ⟨⟨t_w8 36 rfl rfl, t_w1 10 rfl rfl, by decide, by decide, by decide +kernel⟩, t_w8 35 rfl rfl, t_s7 14 rfl⟩
theorem kv_X10_printed : tCv yX10_printed cX10_printed 3 (some .int) 2 := ⟨⟨t_w8 32 rfl rfl, t_w1 10 rfl rfl, by decide, by decide, by decide +kernel⟩, t_w8 30 rfl rfl, t_w8 31 rfl rfl⟩
theorem kv_X10_thinks : tCv yX10_thinks cX10_thinks 2 none 1 := ⟨⟨t_w8 57 rfl rfl, t_w1 10 rfl rfl, by decide, by decide, by decide +kernel⟩, t_w8 56 rfl rfl, t_s8 2 rfl⟩
theorem kv_X10_laysInThought : tCv yX10_laysInThought cX10_laysInThought 1 none 0 := ⟨⟨t_w8 68 rfl rfl, t_w1 10 rfl rfl, by decide, by decide, by decide +kernel⟩, t_w8 67 rfl rfl, t_s8 4 rfl⟩
theorem kv_X10_isFull : tCv yX10_isFull cX10_isFull 1 (some .boolean) 0 := ⟨⟨t_w8 52 rfl rfl, t_w1 10 rfl rfl, by decide, by decide, by decide +kernel⟩, t_w8 51 rfl rfl, t_s8 1 rfl⟩
theorem kv_X10_agrees : tCv yX10_agrees cX10_agrees 4 (some .int) 0 := ⟨⟨t_w8 48 rfl rfl, t_w1 10 rfl rfl, by decide, by decide, by decide +kernel⟩, t_w8 46 rfl rfl, t_w8 47 rfl rfl⟩
theorem kv_X10_isFitting : tCv yX10_isFitting cX10_isFitting 1 (some .boolean) 0 := ⟨⟨t_w8 76 rfl rfl, t_w1 10 rfl rfl, by decide, by decide, by decide +kernel⟩, t_w8 75 rfl rfl, t_s8 5 rfl⟩
theorem kv_X10_narrowest : tCv yX10_narrowest cX10_narrowest 3 (some .int) 0 := ⟨⟨t_w8 72 rfl rfl, t_w1 10 rfl rfl, by decide, by decide, by decide +kernel⟩, t_w8 70 rfl rfl, t_w8 71 rfl rfl⟩
theorem kv_X10_tall : tCv yX10_tall cX10_tall 3 (some .int) 1 := ⟨⟨t_w8 80 rfl rfl, t_w1 10 rfl rfl, by decide, by decide, by decide +kernel⟩, t_w8 78 rfl rfl, t_w8 79 rfl rfl⟩
theorem kv_X10_reached : tCv yX10_reached cX10_reached 3 (some .int) 2 := ⟨⟨t_w8 84 rfl rfl, t_w1 10 rfl rfl, by decide, by decide, by decide +kernel⟩, t_w8 82 rfl rfl, t_w8 83 rfl rfl⟩
theorem kv_X10_bestShare : tCv yX10_bestShare cX10_bestShare 7 (some .int) 2 := ⟨⟨t_w8 88 rfl rfl, t_w1 10 rfl rfl, by decide, by decide, by decide +kernel⟩, t_w8 86 rfl rfl, t_w8 87 rfl rfl⟩
theorem kv_X10_fits : tCv yX10_fits cX10_fits 5 (some .int) 2 := ⟨⟨t_w8 92 rfl rfl, t_w1 10 rfl rfl, by decide, by decide, by decide +kernel⟩, t_w8 90 rfl rfl, t_w8 91 rfl rfl⟩
theorem kv_X10_plan : tCv yX10_plan cX10_plan 3 (some .int) 2 := ⟨⟨t_w8 96 rfl rfl, t_w1 10 rfl rfl, by decide, by decide, by decide +kernel⟩, t_w8 94 rfl rfl, t_w8 95 rfl rfl⟩
theorem kv_X10_goesBy : tCv yX10_goesBy cX10_goesBy 4 (some .boolean) 1 := ⟨⟨t_w8 104 rfl rfl, t_w1 10 rfl rfl, by decide, by decide, by decide +kernel⟩, t_w8 103 rfl rfl, t_s8 6 rfl⟩
theorem kv_X10_saved : tCv yX10_saved cX10_saved 3 (some .int) 0 := ⟨⟨t_w8 100 rfl rfl, t_w1 10 rfl rfl, by decide, by decide, by decide +kernel⟩, t_w8 98 rfl rfl, t_w8 99 rfl rfl⟩
theorem ks_X10_divisor : tCs yX10_divisor cX10_divisor 10 (some .long) 2 := ⟨⟨t_w8 117 rfl rfl, t_w1 10 rfl rfl, by decide, by decide, by decide +kernel⟩, t_w8 116 rfl rfl⟩
theorem ks_X10_partOf : tCs yX10_partOf cX10_partOf 7 (some .long) 3 := ⟨⟨t_w8 114 rfl rfl, t_w1 10 rfl rfl, by decide, by decide, by decide +kernel⟩, t_w8 113 rfl rfl⟩
theorem kv_X10_likely : tCv yX10_likely cX10_likely 13 (some .long) 2 := ⟨⟨t_w8 108 rfl rfl, t_w1 10 rfl rfl, by decide, by decide, by decide +kernel⟩, t_w8 106 rfl rfl, t_w8 107 rfl rfl⟩
theorem kv_X10_drawn : tCv yX10_drawn cX10_drawn 5 (some .int) 1 := ⟨⟨t_w8 121 rfl rfl, t_w1 10 rfl rfl, by decide, by decide, by decide +kernel⟩, t_w8 119 rfl rfl, t_w8 120 rfl rfl⟩
theorem kv_X10_seed : tCv yX10_seed cX10_seed 3 (some .int) 1 := ⟨⟨t_w8 126 rfl rfl, t_w1 10 rfl rfl, by decide, by decide, by decide +kernel⟩, t_w8 124 rfl rfl, t_w8 125 rfl rfl⟩
theorem kv_X10_mean : tCv yX10_mean cX10_mean 5 (some .long) 1 := ⟨⟨t_w8 130 rfl rfl, t_w1 10 rfl rfl, by decide, by decide, by decide +kernel⟩, t_w8 128 rfl rfl, t_w8 129 rfl rfl⟩
theorem kv_X10_taken : tCv yX10_taken cX10_taken 5 (some .int) 2 := ⟨⟨t_w8 134 rfl rfl, t_w1 10 rfl rfl, by decide, by decide, by decide +kernel⟩, t_w8 132 rfl rfl, t_w8 133 rfl rfl⟩
theorem ks_X10_isTape : tCs yX10_isTape cX10_isTape 1 (some .boolean) 1 := ⟨⟨t_w8 141 rfl rfl, t_w1 10 rfl rfl, by decide, by decide, by decide +kernel⟩, t_w8 140 rfl rfl⟩
theorem ks_X10_narrowed : tCs yX10_narrowed cX10_narrowed 3 (some .long) 2 := ⟨⟨t_w8 153 rfl rfl, t_w1 10 rfl rfl, by decide, by decide, by decide +kernel⟩, t_w8 152 rfl rfl⟩
theorem kv_X10_judge : tCv yX10_judge cX10_judge 5 (some .int) 2 := ⟨⟨t_w8 138 rfl rfl, t_w1 10 rfl rfl, by decide, by decide, by decide +kernel⟩, t_w8 136 rfl rfl, t_w8 137 rfl rfl⟩
theorem kv_X10_tape : tCv yX10_tape cX10_tape 5 (some .int) 3 := ⟨⟨t_w8 145 rfl rfl, t_w1 10 rfl rfl, by decide, by decide, by decide +kernel⟩, t_w8 143 rfl rfl, t_w8 144 rfl rfl⟩
theorem kv_X10_item : tCv yX10_item cX10_item 5 (some .int) 3 := ⟨⟨t_w8 150 rfl rfl, t_w1 10 rfl rfl, by decide, by decide, by decide +kernel⟩, t_w8 148 rfl rfl, t_w8 149 rfl rfl⟩
theorem kv_X10_peek : tCv yX10_peek cX10_peek 3 (some .long) 2 := ⟨⟨t_w8 157 rfl rfl, t_w1 10 rfl rfl, by decide, by decide, by decide +kernel⟩, t_w8 155 rfl rfl, t_w8 156 rfl rfl⟩
theorem kv_X10_shift : tCv yX10_shift cX10_shift 7 (some .int) 5 := ⟨⟨t_w8 161 rfl rfl, t_w1 10 rfl rfl, by decide, by decide, by decide +kernel⟩, t_w8 159 rfl rfl, t_w8 160 rfl rfl⟩
theorem kv_X10_image : tCv yX10_image cX10_image 1 (some .int) 0 := ⟨⟨t_w8 165 rfl rfl, t_w1 10 rfl rfl, by decide, by decide, by decide +kernel⟩, t_w8 163 rfl rfl, t_w8 164 rfl rfl⟩
theorem kv_X10_undo : tCv yX10_undo cX10_undo 1 (some .int) 0 := ⟨⟨t_w8 169 rfl rfl, t_w1 10 rfl rfl, by decide, by decide, by decide +kernel⟩, t_w8 167 rfl rfl, t_w8 168 rfl rfl⟩
theorem ks_J6_bitCount_0f7a4 : tCs yJ6_bitCount_0f7a4 cJ6_bitCount_0f7a4 1 (some .int) 1 := ⟨⟨t_w3 93 rfl rfl, t_w1 13 rfl rfl, by decide, by decide, by decide +kernel⟩, t_w3 92 rfl rfl⟩
theorem ks_J9_max_7cf53 : tCs yJ9_max_7cf53 cJ9_max_7cf53 2 (some .int) 2 := ⟨⟨t_w3 231 rfl rfl, t_w1 14 rfl rfl, by decide, by decide, by decide +kernel⟩, t_w3 230 rfl rfl⟩
theorem ks_J9_min_7cf53 : tCs yJ9_min_7cf53 cJ9_min_7cf53 2 (some .int) 2 := ⟨⟨t_w3 154 rfl rfl, t_w1 14 rfl rfl, by decide, by decide, by decide +kernel⟩, t_w3 153 rfl rfl⟩
theorem kv_J0_length_8abf5 : tCv yJ0_length_8abf5 cJ0_length_8abf5 1 (some .int) 0 := ⟨⟨t_w3 184 rfl rfl, t_w1 15 rfl rfl, by decide, by decide, by decide +kernel⟩, t_w3 182 rfl rfl, t_w3 183 rfl rfl⟩
theorem kv_J0_charAt_5068e : tCv yJ0_charAt_5068e cJ0_charAt_5068e 2 (some .char) 1 := ⟨⟨t_w3 194 rfl rfl, t_w1 15 rfl rfl, by decide, by decide, by decide +kernel⟩, t_w3 192 rfl rfl, t_w3 193 rfl rfl⟩
theorem kv_J0_coder_7d493 : tCv yJ0_coder_7d493 cJ0_coder_7d493 1 (some .byte) 0 := ⟨⟨t_w3 188 rfl rfl, t_w1 15 rfl rfl, by decide, by decide, by decide +kernel⟩, t_w3 186 rfl rfl, t_w3 187 rfl rfl⟩
theorem kv_J0_isLatin1_aae02 : tCv yJ0_isLatin1_aae02 cJ0_isLatin1_aae02 1 (some .boolean) 0 := ⟨⟨t_w3 198 rfl rfl, t_w1 15 rfl rfl, by decide, by decide, by decide +kernel⟩, t_w3 196 rfl rfl, t_w3 197 rfl rfl⟩
theorem ks_J0_checkIndex_df160 : tCs yJ0_checkIndex_df160 cJ0_checkIndex_df160 2 none 2 := ⟨⟨t_w3 204 rfl rfl, t_w1 15 rfl rfl, by decide, by decide, by decide +kernel⟩, t_w3 203 rfl rfl⟩
theorem ks_J1_charAt_3b067 : tCs yJ1_charAt_3b067 cJ1_charAt_3b067 2 (some .char) 2 := ⟨⟨t_w3 201 rfl rfl, t_w1 16 rfl rfl, by decide, by decide, by decide +kernel⟩, t_w3 200 rfl rfl⟩
theorem ks_J2_getChar_3b067 : tCs yJ2_getChar_3b067 cJ2_getChar_3b067 2 (some .char) 2 := ⟨⟨t_w3 222 rfl rfl, t_w1 18 rfl rfl, by decide, by decide, by decide +kernel⟩, t_w3 221 rfl rfl⟩
theorem ks_J2_length_9d52b : tCs yJ2_length_9d52b cJ2_length_9d52b 1 (some .int) 1 := ⟨⟨t_w3 218 rfl rfl, t_w1 18 rfl rfl, by decide, by decide, by decide +kernel⟩, t_w3 217 rfl rfl⟩
theorem ks_J2_charAt_3b067 : tCs yJ2_charAt_3b067 cJ2_charAt_3b067 2 (some .char) 2 := ⟨⟨t_w3 212 rfl rfl, t_w1 18 rfl rfl, by decide, by decide, by decide +kernel⟩, t_w3 211 rfl rfl⟩
theorem ks_J2_checkIndex_2214a : tCs yJ2_checkIndex_2214a cJ2_checkIndex_2214a 2 none 2 := ⟨⟨t_w3 215 rfl rfl, t_w1 18 rfl rfl, by decide, by decide, by decide +kernel⟩, t_w3 214 rfl rfl⟩
theorem ks_J7_fill_d0a16 : tCs yJ7_fill_d0a16 cJ7_fill_d0a16 5 none 2 := ⟨⟨t_w5 236 rfl rfl, t_w1 19 rfl rfl, by decide, by decide, by decide +kernel⟩, t_w5 235 rfl rfl⟩
theorem ks_J7_fill_53178 : tCs yJ7_fill_53178 cJ7_fill_53178 4 none 2 := ⟨⟨t_w3 238 rfl rfl, t_w1 19 rfl rfl, by decide, by decide, by decide +kernel⟩, t_w3 237 rfl rfl⟩
theorem ks_J3_checkIndex_8e157 : tCs yJ3_checkIndex_8e157 cJ3_checkIndex_8e157 3 (some .int) 3 := ⟨⟨t_w3 209 rfl rfl, t_w1 17 rfl rfl, by decide, by decide, by decide +kernel⟩, t_w3 208 rfl rfl⟩
theorem rv_1 : tRv 1 RX9 := ⟨by decide, 8, _, _, rfl, rfl⟩
theorem rv_2 : tRv 2 RX8 := ⟨by decide, 7, _, _, rfl, rfl⟩
theorem rv_3 : tRv 3 RX0 := ⟨by decide, 0, _, _, rfl, rfl⟩
theorem rv_4 : tRv 4 RX2 := ⟨by decide, 1, _, _, rfl, rfl⟩
theorem rv_5 : tRv 5 RX3 := ⟨by decide, 2, _, _, rfl, rfl⟩
theorem rv_6 : tRv 6 RX7 := ⟨by decide, 6, _, _, rfl, rfl⟩
theorem rv_7 : tRv 7 RX5 := ⟨by decide, 4, _, _, rfl, rfl⟩
theorem rv_8 : tRv 8 RX4 := ⟨by decide, 3, _, _, rfl, rfl⟩
theorem rv_9 : tRv 9 RX6 := ⟨by decide, 5, _, _, rfl, rfl⟩
theorem rv_22 : tRv 22 RX5 := ⟨by decide, 4, _, _, rfl, rfl⟩
theorem ta_10 : tArr 10 3 24 (1, ((3 : Nat) : Int), 0) := ⟨by decide, rfl, fun _ => rfl⟩
theorem ta_11 : tArr 11 0 4 (0, (-2147483648), (2147483647)) := ⟨by decide, rfl, fun _ => rfl⟩
theorem ta_12 : tArr 12 0 8 (0, (0), (23)) := ⟨by decide, rfl, fun _ => rfl⟩
theorem ta_13 : tArr 13 0 8 (0, (-2147483648), (2147483647)) := ⟨by decide, rfl, fun _ => rfl⟩
theorem ta_14 : tArr 14 0 6 (0, (0), (23)) := ⟨by decide, rfl, fun _ => rfl⟩
theorem ta_15 : tArr 15 0 24 (0, (-2147483648), (2147483647)) := ⟨by decide, rfl, fun _ => rfl⟩
theorem ta_16 : tArr 16 0 24 (0, (-1), (23)) := ⟨by decide, rfl, fun _ => rfl⟩
theorem ta_17 : tArr 17 5 24 (1, ((11 : Nat) : Int), 0) := ⟨by decide, rfl, fun _ => rfl⟩
theorem ta_18 : tArr 18 1 120 (0, (0), (65535)) := ⟨by decide, rfl, fun _ => rfl⟩
theorem ta_19 : tArr 19 1 960 (0, (0), (65535)) := ⟨by decide, rfl, fun _ => rfl⟩
theorem ta_20 : tArr 20 4 4 (1, ((9 : Nat) : Int), 0) := ⟨by decide, rfl, fun _ => rfl⟩
theorem ta_21 : tArr 21 2 60 (3, 0, 0) := ⟨by decide, rfl, fun _ => rfl⟩
theorem kI_m100 : (-100 : Int32).toInt = -100 := by decide
theorem kI_m20 : (-20 : Int32).toInt = -20 := by decide
theorem kI_m19 : (-19 : Int32).toInt = -19 := by decide
theorem kI_m18 : (-18 : Int32).toInt = -18 := by decide
theorem kI_m17 : (-17 : Int32).toInt = -17 := by decide
theorem kI_m16 : (-16 : Int32).toInt = -16 := by decide
theorem kI_m15 : (-15 : Int32).toInt = -15 := by decide
theorem kI_m14 : (-14 : Int32).toInt = -14 := by decide
theorem kI_m13 : (-13 : Int32).toInt = -13 := by decide
theorem kI_m12 : (-12 : Int32).toInt = -12 := by decide
theorem kI_m11 : (-11 : Int32).toInt = -11 := by decide
theorem kI_m10 : (-10 : Int32).toInt = -10 := by decide
theorem kI_m9 : (-9 : Int32).toInt = -9 := by decide
theorem kI_m8 : (-8 : Int32).toInt = -8 := by decide
theorem kI_m7 : (-7 : Int32).toInt = -7 := by decide
theorem kI_m6 : (-6 : Int32).toInt = -6 := by decide
theorem kI_m5 : (-5 : Int32).toInt = -5 := by decide
theorem kI_m4 : (-4 : Int32).toInt = -4 := by decide
theorem kI_m3 : (-3 : Int32).toInt = -3 := by decide
theorem kI_m2 : (-2 : Int32).toInt = -2 := by decide
theorem kI_m1 : (-1 : Int32).toInt = -1 := by decide
theorem kI_0 : (0 : Int32).toInt = 0 := by decide
theorem kI_1 : (1 : Int32).toInt = 1 := by decide
theorem kI_2 : (2 : Int32).toInt = 2 := by decide
theorem kI_3 : (3 : Int32).toInt = 3 := by decide
theorem kI_4 : (4 : Int32).toInt = 4 := by decide
theorem kI_5 : (5 : Int32).toInt = 5 := by decide
theorem kI_6 : (6 : Int32).toInt = 6 := by decide
theorem kI_7 : (7 : Int32).toInt = 7 := by decide
theorem kI_8 : (8 : Int32).toInt = 8 := by decide
theorem kI_9 : (9 : Int32).toInt = 9 := by decide
theorem kI_10 : (10 : Int32).toInt = 10 := by decide
theorem kI_11 : (11 : Int32).toInt = 11 := by decide
theorem kI_12 : (12 : Int32).toInt = 12 := by decide
theorem kI_13 : (13 : Int32).toInt = 13 := by decide
theorem kI_14 : (14 : Int32).toInt = 14 := by decide
theorem kI_15 : (15 : Int32).toInt = 15 := by decide
theorem kI_16 : (16 : Int32).toInt = 16 := by decide
theorem kI_17 : (17 : Int32).toInt = 17 := by decide
theorem kI_18 : (18 : Int32).toInt = 18 := by decide
theorem kI_19 : (19 : Int32).toInt = 19 := by decide
theorem kI_20 : (20 : Int32).toInt = 20 := by decide
theorem kI_21 : (21 : Int32).toInt = 21 := by decide
theorem kI_22 : (22 : Int32).toInt = 22 := by decide
theorem kI_23 : (23 : Int32).toInt = 23 := by decide
theorem kI_24 : (24 : Int32).toInt = 24 := by decide
theorem kI_25 : (25 : Int32).toInt = 25 := by decide
theorem kI_26 : (26 : Int32).toInt = 26 := by decide
theorem kI_27 : (27 : Int32).toInt = 27 := by decide
theorem kI_28 : (28 : Int32).toInt = 28 := by decide
theorem kI_29 : (29 : Int32).toInt = 29 := by decide
theorem kI_30 : (30 : Int32).toInt = 30 := by decide
theorem kI_31 : (31 : Int32).toInt = 31 := by decide
theorem kI_32 : (32 : Int32).toInt = 32 := by decide
theorem kI_33 : (33 : Int32).toInt = 33 := by decide
theorem kI_34 : (34 : Int32).toInt = 34 := by decide
theorem kI_35 : (35 : Int32).toInt = 35 := by decide
theorem kI_36 : (36 : Int32).toInt = 36 := by decide
theorem kI_37 : (37 : Int32).toInt = 37 := by decide
theorem kI_38 : (38 : Int32).toInt = 38 := by decide
theorem kI_39 : (39 : Int32).toInt = 39 := by decide
theorem kI_40 : (40 : Int32).toInt = 40 := by decide
theorem kI_41 : (41 : Int32).toInt = 41 := by decide
theorem kI_42 : (42 : Int32).toInt = 42 := by decide
theorem kI_43 : (43 : Int32).toInt = 43 := by decide
theorem kI_44 : (44 : Int32).toInt = 44 := by decide
theorem kI_45 : (45 : Int32).toInt = 45 := by decide
theorem kI_46 : (46 : Int32).toInt = 46 := by decide
theorem kI_47 : (47 : Int32).toInt = 47 := by decide
theorem kI_48 : (48 : Int32).toInt = 48 := by decide
theorem kI_49 : (49 : Int32).toInt = 49 := by decide
theorem kI_50 : (50 : Int32).toInt = 50 := by decide
theorem kI_51 : (51 : Int32).toInt = 51 := by decide
theorem kI_52 : (52 : Int32).toInt = 52 := by decide
theorem kI_53 : (53 : Int32).toInt = 53 := by decide
theorem kI_54 : (54 : Int32).toInt = 54 := by decide
theorem kI_55 : (55 : Int32).toInt = 55 := by decide
theorem kI_56 : (56 : Int32).toInt = 56 := by decide
theorem kI_57 : (57 : Int32).toInt = 57 := by decide
theorem kI_58 : (58 : Int32).toInt = 58 := by decide
theorem kI_59 : (59 : Int32).toInt = 59 := by decide
theorem kI_60 : (60 : Int32).toInt = 60 := by decide
theorem kI_61 : (61 : Int32).toInt = 61 := by decide
theorem kI_62 : (62 : Int32).toInt = 62 := by decide
theorem kI_63 : (63 : Int32).toInt = 63 := by decide
theorem kI_64 : (64 : Int32).toInt = 64 := by decide
theorem kI_65 : (65 : Int32).toInt = 65 := by decide
theorem kI_66 : (66 : Int32).toInt = 66 := by decide
theorem kI_67 : (67 : Int32).toInt = 67 := by decide
theorem kI_68 : (68 : Int32).toInt = 68 := by decide
theorem kI_69 : (69 : Int32).toInt = 69 := by decide
theorem kI_70 : (70 : Int32).toInt = 70 := by decide
theorem kI_71 : (71 : Int32).toInt = 71 := by decide
theorem kI_72 : (72 : Int32).toInt = 72 := by decide
theorem kI_73 : (73 : Int32).toInt = 73 := by decide
theorem kI_74 : (74 : Int32).toInt = 74 := by decide
theorem kI_75 : (75 : Int32).toInt = 75 := by decide
theorem kI_76 : (76 : Int32).toInt = 76 := by decide
theorem kI_77 : (77 : Int32).toInt = 77 := by decide
theorem kI_78 : (78 : Int32).toInt = 78 := by decide
theorem kI_79 : (79 : Int32).toInt = 79 := by decide
theorem kI_80 : (80 : Int32).toInt = 80 := by decide
theorem kI_81 : (81 : Int32).toInt = 81 := by decide
theorem kI_82 : (82 : Int32).toInt = 82 := by decide
theorem kI_83 : (83 : Int32).toInt = 83 := by decide
theorem kI_84 : (84 : Int32).toInt = 84 := by decide
theorem kI_85 : (85 : Int32).toInt = 85 := by decide
theorem kI_86 : (86 : Int32).toInt = 86 := by decide
theorem kI_87 : (87 : Int32).toInt = 87 := by decide
theorem kI_88 : (88 : Int32).toInt = 88 := by decide
theorem kI_89 : (89 : Int32).toInt = 89 := by decide
theorem kI_90 : (90 : Int32).toInt = 90 := by decide
theorem kI_91 : (91 : Int32).toInt = 91 := by decide
theorem kI_92 : (92 : Int32).toInt = 92 := by decide
theorem kI_93 : (93 : Int32).toInt = 93 := by decide
theorem kI_94 : (94 : Int32).toInt = 94 := by decide
theorem kI_95 : (95 : Int32).toInt = 95 := by decide
theorem kI_96 : (96 : Int32).toInt = 96 := by decide
theorem kI_97 : (97 : Int32).toInt = 97 := by decide
theorem kI_98 : (98 : Int32).toInt = 98 := by decide
theorem kI_99 : (99 : Int32).toInt = 99 := by decide
theorem kI_100 : (100 : Int32).toInt = 100 := by decide
theorem kI_101 : (101 : Int32).toInt = 101 := by decide
theorem kI_102 : (102 : Int32).toInt = 102 := by decide
theorem kI_103 : (103 : Int32).toInt = 103 := by decide
theorem kI_104 : (104 : Int32).toInt = 104 := by decide
theorem kI_105 : (105 : Int32).toInt = 105 := by decide
theorem kI_106 : (106 : Int32).toInt = 106 := by decide
theorem kI_107 : (107 : Int32).toInt = 107 := by decide
theorem kI_108 : (108 : Int32).toInt = 108 := by decide
theorem kI_109 : (109 : Int32).toInt = 109 := by decide
theorem kI_110 : (110 : Int32).toInt = 110 := by decide
theorem kI_111 : (111 : Int32).toInt = 111 := by decide
theorem kI_112 : (112 : Int32).toInt = 112 := by decide
theorem kI_113 : (113 : Int32).toInt = 113 := by decide
theorem kI_114 : (114 : Int32).toInt = 114 := by decide
theorem kI_115 : (115 : Int32).toInt = 115 := by decide
theorem kI_116 : (116 : Int32).toInt = 116 := by decide
theorem kI_117 : (117 : Int32).toInt = 117 := by decide
theorem kI_118 : (118 : Int32).toInt = 118 := by decide
theorem kI_119 : (119 : Int32).toInt = 119 := by decide
theorem kI_120 : (120 : Int32).toInt = 120 := by decide
theorem kI_121 : (121 : Int32).toInt = 121 := by decide
theorem kI_122 : (122 : Int32).toInt = 122 := by decide
theorem kI_123 : (123 : Int32).toInt = 123 := by decide
theorem kI_124 : (124 : Int32).toInt = 124 := by decide
theorem kI_125 : (125 : Int32).toInt = 125 := by decide
theorem kI_126 : (126 : Int32).toInt = 126 := by decide
theorem kI_127 : (127 : Int32).toInt = 127 := by decide
theorem kI_128 : (128 : Int32).toInt = 128 := by decide
theorem kI_129 : (129 : Int32).toInt = 129 := by decide
theorem kI_200 : (200 : Int32).toInt = 200 := by decide
theorem kI_255 : (255 : Int32).toInt = 255 := by decide
theorem kI_700 : (700 : Int32).toInt = 700 := by decide
theorem kI_934 : (934 : Int32).toInt = 934 := by decide
theorem kI_960 : (960 : Int32).toInt = 960 := by decide
theorem kI_1000 : (1000 : Int32).toInt = 1000 := by decide
theorem kI_1023 : (1023 : Int32).toInt = 1023 := by decide
theorem kI_12345 : (12345 : Int32).toInt = 12345 := by decide
theorem kI_40000 : (40000 : Int32).toInt = 40000 := by decide
theorem kI_65535 : (65535 : Int32).toInt = 65535 := by decide
theorem kI_1103515245 : (1103515245 : Int32).toInt = 1103515245 := by decide
theorem kn_copy1 : Cond.native arraycopyName ∈ tWS := t_w3 49 rfl rfl
theorem kn_copy2 : Cond.static arraycopyName ∈ tWS := t_w3 48 rfl rfl
theorem kn_copy3 : Cond.initialized "java/lang/System" ∈ tWS := t_w1 12 rfl rfl
theorem kn_max1 : Cond.static Lib.Math.max.name ∈ tWS := t_w3 230 rfl rfl
theorem kn_max2 : Cond.code Lib.Math.max.name Lib.Math.max.code 2 (some .int) ∈ tWS := t_w3 231 rfl rfl
theorem kn_min1 : Cond.static Lib.Math.min.name ∈ tWS := t_w3 153 rfl rfl
theorem kn_min2 : Cond.code Lib.Math.min.name Lib.Math.min.code 2 (some .int) ∈ tWS := t_w3 154 rfl rfl
theorem kn_math : Cond.initialized "java/lang/Math" ∈ tWS := t_w1 14 rfl rfl
theorem ml_X9_374 : Cond.methodLink RX9 374 arraycopyName ∈ tWS := t_w6 21 rfl rfl
theorem ml_X0_76 : Cond.methodLink RX0 76 arraycopyName ∈ tWS := t_w3 47 rfl rfl
theorem ml_X8_176 : Cond.methodLink RX8 176 arraycopyName ∈ tWS := t_w5 72 rfl rfl
