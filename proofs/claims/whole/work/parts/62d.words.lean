theorem inX1_0 : u_lay RX1 TX1 0 ∈ lw_g := lw_gm (List.mem_append_right _ (lw_t1 (i := 40) rfl)) rfl
theorem inX1_1 : u_lay RX1 TX1 1 ∈ lw_g := lw_gm (List.mem_append_right _ (lw_t1 (i := 42) rfl)) rfl
theorem inX1_2 : u_lay RX1 TX1 2 ∈ lw_g := lw_gm (List.mem_append_right _ (lw_t1 (i := 44) rfl)) rfl
theorem inX1_3 : u_lay RX1 TX1 3 ∈ lw_g := lw_gm (List.mem_append_right _ (lw_t1 (i := 46) rfl)) rfl
theorem inX1_4 : u_lay RX1 TX1 4 ∈ lw_g := lw_gm (List.mem_append_right _ (lw_t1 (i := 48) rfl)) rfl
theorem inX1_5 : u_lay RX1 TX1 5 ∈ lw_g := lw_gm (List.mem_append_right _ (lw_t1 (i := 50) rfl)) rfl
theorem inX1_6 : u_lay RX1 TX1 6 ∈ lw_g := lw_gm (List.mem_append_right _ (lw_t1 (i := 52) rfl)) rfl
theorem inX1_7 : u_lay RX1 TX1 7 ∈ lw_g := lw_gm (List.mem_append_right _ (lw_t1 (i := 54) rfl)) rfl
theorem inX1_8 : u_lay RX1 TX1 8 ∈ lw_g := lw_gm (List.mem_append_right _ (lw_t1 (i := 56) rfl)) rfl
theorem inX1_9 : u_lay RX1 TX1 9 ∈ lw_g := lw_gm (List.mem_append_right _ (lw_t1 (i := 58) rfl)) rfl
theorem inX1_10 : u_lay RX1 TX1 10 ∈ lw_g := lw_gm (List.mem_append_right _ (lw_t1 (i := 60) rfl)) rfl
theorem inX1 : ∀ w ∈ u_ws RX1 TX1 11, w ∈ lw_g := by
  intro w hw
  obtain ⟨i, hi, rfl⟩ := List.mem_map.mp hw
  have hi := List.mem_range.mp hi
  match i, hi with
  | 0, _ => exact inX1_0
  | 1, _ => exact inX1_1
  | 2, _ => exact inX1_2
  | 3, _ => exact inX1_3
  | 4, _ => exact inX1_4
  | 5, _ => exact inX1_5
  | 6, _ => exact inX1_6
  | 7, _ => exact inX1_7
  | 8, _ => exact inX1_8
  | 9, _ => exact inX1_9
  | 10, _ => exact inX1_10
  | i + 11, hi => omega
theorem inX3_0 : u_lay RX3 TX3 0 ∈ lw_g := lw_gm (List.mem_append_right _ (lw_t1 (i := 117) rfl)) rfl
theorem inX3_1 : u_lay RX3 TX3 1 ∈ lw_g := lw_gm (List.mem_append_right _ (lw_t1 (i := 119) rfl)) rfl
theorem inX3 : ∀ w ∈ u_ws RX3 TX3 2, w ∈ lw_g := by
  intro w hw
  obtain ⟨i, hi, rfl⟩ := List.mem_map.mp hw
  have hi := List.mem_range.mp hi
  match i, hi with
  | 0, _ => exact inX3_0
  | 1, _ => exact inX3_1
  | i + 2, hi => omega
theorem inX4_0 : u_lay RX4 TX4 0 ∈ lw_g := lw_gm (List.mem_append_right _ (lw_t1 (i := 132) rfl)) rfl
theorem inX4_1 : u_lay RX4 TX4 1 ∈ lw_g := lw_gm (List.mem_append_right _ (lw_t1 (i := 134) rfl)) rfl
theorem inX4 : ∀ w ∈ u_ws RX4 TX4 2, w ∈ lw_g := by
  intro w hw
  obtain ⟨i, hi, rfl⟩ := List.mem_map.mp hw
  have hi := List.mem_range.mp hi
  match i, hi with
  | 0, _ => exact inX4_0
  | 1, _ => exact inX4_1
  | i + 2, hi => omega
theorem inX5_0 : u_lay RX5 TX5 0 ∈ lw_g := lw_gm (List.mem_append_right _ (lw_t1 (i := 76) rfl)) rfl
theorem inX5_1 : u_lay RX5 TX5 1 ∈ lw_g := lw_gm (List.mem_append_right _ (lw_t1 (i := 78) rfl)) rfl
theorem inX5_2 : u_lay RX5 TX5 2 ∈ lw_g := lw_gm (List.mem_append_right _ (lw_t1 (i := 80) rfl)) rfl
theorem inX5 : ∀ w ∈ u_ws RX5 TX5 3, w ∈ lw_g := by
  intro w hw
  obtain ⟨i, hi, rfl⟩ := List.mem_map.mp hw
  have hi := List.mem_range.mp hi
  match i, hi with
  | 0, _ => exact inX5_0
  | 1, _ => exact inX5_1
  | 2, _ => exact inX5_2
  | i + 3, hi => omega
theorem inX6_0 : u_lay RX6 TX6 0 ∈ lw_g := lw_gm (List.mem_append_right _ (lw_t1 (i := 104) rfl)) rfl
theorem inX6_1 : u_lay RX6 TX6 1 ∈ lw_g := lw_gm (List.mem_append_right _ (lw_t1 (i := 106) rfl)) rfl
theorem inX6 : ∀ w ∈ u_ws RX6 TX6 2, w ∈ lw_g := by
  intro w hw
  obtain ⟨i, hi, rfl⟩ := List.mem_map.mp hw
  have hi := List.mem_range.mp hi
  match i, hi with
  | 0, _ => exact inX6_0
  | 1, _ => exact inX6_1
  | i + 2, hi => omega
theorem inX7_0 : u_lay RX7 TX7 0 ∈ lw_g := lw_gm (List.mem_append_right _ (lw_t1 (i := 91) rfl)) rfl
theorem inX7_1 : u_lay RX7 TX7 1 ∈ lw_g := lw_gm (List.mem_append_right _ (lw_t1 (i := 93) rfl)) rfl
theorem inX7 : ∀ w ∈ u_ws RX7 TX7 2, w ∈ lw_g := by
  intro w hw
  obtain ⟨i, hi, rfl⟩ := List.mem_map.mp hw
  have hi := List.mem_range.mp hi
  match i, hi with
  | 0, _ => exact inX7_0
  | 1, _ => exact inX7_1
  | i + 2, hi => omega
theorem inX8_0 : u_lay RX8 TX8 0 ∈ lw_g := lw_gm (List.mem_append_right _ (lw_t1 (i := 147) rfl)) rfl
theorem inX8_1 : u_lay RX8 TX8 1 ∈ lw_g := lw_gm (List.mem_append_right _ (lw_t1 (i := 149) rfl)) rfl
theorem inX8_2 : u_lay RX8 TX8 2 ∈ lw_g := lw_gm (List.mem_append_right _ (lw_t1 (i := 151) rfl)) rfl
theorem inX8_3 : u_lay RX8 TX8 3 ∈ lw_g := lw_gm (List.mem_append_right _ (lw_t1 (i := 153) rfl)) rfl
theorem inX8_4 : u_lay RX8 TX8 4 ∈ lw_g := lw_gm (List.mem_append_right _ (lw_t1 (i := 155) rfl)) rfl
theorem inX8_5 : u_lay RX8 TX8 5 ∈ lw_g := lw_gm (List.mem_append_right _ (lw_t1 (i := 157) rfl)) rfl
theorem inX8_6 : u_lay RX8 TX8 6 ∈ lw_g := lw_gm (List.mem_append_right _ (lw_t1 (i := 159) rfl)) rfl
theorem inX8_7 : u_lay RX8 TX8 7 ∈ lw_g := lw_gm (List.mem_append_right _ (lw_t1 (i := 161) rfl)) rfl
theorem inX8_8 : u_lay RX8 TX8 8 ∈ lw_g := lw_gm (List.mem_append_right _ (lw_t1 (i := 163) rfl)) rfl
theorem inX8_9 : u_lay RX8 TX8 9 ∈ lw_g := lw_gm (List.mem_append_right _ (lw_t1 (i := 165) rfl)) rfl
theorem inX8 : ∀ w ∈ u_ws RX8 TX8 10, w ∈ lw_g := by
  intro w hw
  obtain ⟨i, hi, rfl⟩ := List.mem_map.mp hw
  have hi := List.mem_range.mp hi
  match i, hi with
  | 0, _ => exact inX8_0
  | 1, _ => exact inX8_1
  | 2, _ => exact inX8_2
  | 3, _ => exact inX8_3
  | 4, _ => exact inX8_4
  | 5, _ => exact inX8_5
  | 6, _ => exact inX8_6
  | 7, _ => exact inX8_7
  | 8, _ => exact inX8_8
  | 9, _ => exact inX8_9
  | i + 10, hi => omega
theorem inX9_0 : u_lay RX9 TX9 0 ∈ lw_g := lw_gm (List.mem_append_right _ (lw_t5 (i := 8) rfl)) rfl
theorem inX9_1 : u_lay RX9 TX9 1 ∈ lw_g := lw_gm (List.mem_append_right _ (lw_t5 (i := 10) rfl)) rfl
theorem inX9_2 : u_lay RX9 TX9 2 ∈ lw_g := lw_gm (List.mem_append_right _ (lw_t5 (i := 12) rfl)) rfl
theorem inX9_3 : u_lay RX9 TX9 3 ∈ lw_g := lw_gm (List.mem_append_right _ (lw_t5 (i := 14) rfl)) rfl
theorem inX9_4 : u_lay RX9 TX9 4 ∈ lw_g := lw_gm (List.mem_append_right _ (lw_t5 (i := 16) rfl)) rfl
theorem inX9_5 : u_lay RX9 TX9 5 ∈ lw_g := lw_gm (List.mem_append_right _ (lw_t5 (i := 18) rfl)) rfl
theorem inX9_6 : u_lay RX9 TX9 6 ∈ lw_g := lw_gm (List.mem_append_right _ (lw_t5 (i := 20) rfl)) rfl
theorem inX9_7 : u_lay RX9 TX9 7 ∈ lw_g := lw_gm (List.mem_append_right _ (lw_t5 (i := 22) rfl)) rfl
theorem inX9_8 : u_lay RX9 TX9 8 ∈ lw_g := lw_gm (List.mem_append_right _ (lw_t5 (i := 24) rfl)) rfl
theorem inX9_9 : u_lay RX9 TX9 9 ∈ lw_g := lw_gm (List.mem_append_right _ (lw_t5 (i := 26) rfl)) rfl
theorem inX9_10 : u_lay RX9 TX9 10 ∈ lw_g := lw_gm (List.mem_append_right _ (lw_t5 (i := 28) rfl)) rfl
theorem inX9_11 : u_lay RX9 TX9 11 ∈ lw_g := lw_gm (List.mem_append_right _ (lw_t5 (i := 30) rfl)) rfl
theorem inX9_12 : u_lay RX9 TX9 12 ∈ lw_g := lw_gm (List.mem_append_right _ (lw_t5 (i := 32) rfl)) rfl
theorem inX9_13 : u_lay RX9 TX9 13 ∈ lw_g := lw_gm (List.mem_append_right _ (lw_t5 (i := 34) rfl)) rfl
theorem inX9_14 : u_lay RX9 TX9 14 ∈ lw_g := lw_gm (List.mem_append_right _ (lw_t5 (i := 36) rfl)) rfl
theorem inX9_15 : u_lay RX9 TX9 15 ∈ lw_g := lw_gm (List.mem_append_right _ (lw_t5 (i := 38) rfl)) rfl
theorem inX9_16 : u_lay RX9 TX9 16 ∈ lw_g := lw_gm (List.mem_append_right _ (lw_t5 (i := 40) rfl)) rfl
theorem inX9_17 : u_lay RX9 TX9 17 ∈ lw_g := lw_gm (List.mem_append_right _ (lw_t5 (i := 42) rfl)) rfl
theorem inX9_18 : u_lay RX9 TX9 18 ∈ lw_g := lw_gm (List.mem_append_right _ (lw_t5 (i := 44) rfl)) rfl
theorem inX9_19 : u_lay RX9 TX9 19 ∈ lw_g := lw_gm (List.mem_append_right _ (lw_t5 (i := 46) rfl)) rfl
theorem inX9_20 : u_lay RX9 TX9 20 ∈ lw_g := lw_gm (List.mem_append_right _ (lw_t5 (i := 48) rfl)) rfl
theorem inX9_21 : u_lay RX9 TX9 21 ∈ lw_g := lw_gm (List.mem_append_right _ (lw_t5 (i := 50) rfl)) rfl
theorem inX9_22 : u_lay RX9 TX9 22 ∈ lw_g := lw_gm (List.mem_append_right _ (lw_t5 (i := 52) rfl)) rfl
theorem inX9_23 : u_lay RX9 TX9 23 ∈ lw_g := lw_gm (List.mem_append_right _ (lw_t5 (i := 54) rfl)) rfl
theorem inX9_24 : u_lay RX9 TX9 24 ∈ lw_g := lw_gm (List.mem_append_right _ (lw_t5 (i := 56) rfl)) rfl
theorem inX9_25 : u_lay RX9 TX9 25 ∈ lw_g := lw_gm (List.mem_append_right _ (lw_t5 (i := 58) rfl)) rfl
theorem inX9_26 : u_lay RX9 TX9 26 ∈ lw_g := lw_gm (List.mem_append_right _ (lw_t5 (i := 60) rfl)) rfl
theorem inX9_27 : u_lay RX9 TX9 27 ∈ lw_g := lw_gm (List.mem_append_right _ (lw_t5 (i := 62) rfl)) rfl
theorem inX9_28 : u_lay RX9 TX9 28 ∈ lw_g := lw_gm (List.mem_append_right _ (lw_t5 (i := 64) rfl)) rfl
theorem inX9_29 : u_lay RX9 TX9 29 ∈ lw_g := lw_gm (List.mem_append_right _ (lw_t5 (i := 66) rfl)) rfl
theorem inX9_30 : u_lay RX9 TX9 30 ∈ lw_g := lw_gm (List.mem_append_right _ (lw_t5 (i := 68) rfl)) rfl
theorem inX9 : ∀ w ∈ u_ws RX9 TX9 31, w ∈ lw_g := by
  intro w hw
  obtain ⟨i, hi, rfl⟩ := List.mem_map.mp hw
  have hi := List.mem_range.mp hi
  match i, hi with
  | 0, _ => exact inX9_0
  | 1, _ => exact inX9_1
  | 2, _ => exact inX9_2
  | 3, _ => exact inX9_3
  | 4, _ => exact inX9_4
  | 5, _ => exact inX9_5
  | 6, _ => exact inX9_6
  | 7, _ => exact inX9_7
  | 8, _ => exact inX9_8
  | 9, _ => exact inX9_9
  | 10, _ => exact inX9_10
  | 11, _ => exact inX9_11
  | 12, _ => exact inX9_12
  | 13, _ => exact inX9_13
  | 14, _ => exact inX9_14
  | 15, _ => exact inX9_15
  | 16, _ => exact inX9_16
  | 17, _ => exact inX9_17
  | 18, _ => exact inX9_18
  | 19, _ => exact inX9_19
  | 20, _ => exact inX9_20
  | 21, _ => exact inX9_21
  | 22, _ => exact inX9_22
  | 23, _ => exact inX9_23
  | 24, _ => exact inX9_24
  | 25, _ => exact inX9_25
  | 26, _ => exact inX9_26
  | 27, _ => exact inX9_27
  | 28, _ => exact inX9_28
  | 29, _ => exact inX9_29
  | 30, _ => exact inX9_30
  | i + 31, hi => omega
