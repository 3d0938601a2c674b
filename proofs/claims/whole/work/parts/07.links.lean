theorem cw_0_at : ∀ k, k < 5 → tin (u_lay RX0 TX0 k) := fun k hk => match k, hk with
  | 0, _ => tin.of 71 (by decide +kernel) rfl
  | 1, _ => tin.of 73 (by decide +kernel) rfl
  | 2, _ => tin.of 75 (by decide +kernel) rfl
  | 3, _ => tin.of 77 (by decide +kernel) rfl
  | 4, _ => tin.of 79 (by decide +kernel) rfl
  | _ + 5, h => absurd h (by omega)
theorem cw_0 : ∀ w ∈ u_ws RX0 TX0 5, tin w := by
  intro w hw
  obtain ⟨k, hk, rfl⟩ := List.mem_map.mp hw
  exact cw_0_at k (List.mem_range.mp hk)
theorem ft_0_2 : FT 0 2 .int := ⟨RX0, TX0, 5, rfl, rfl, by decide +kernel⟩
theorem ft_0_3 : FT 0 3 .int := ⟨RX0, TX0, 5, rfl, rfl, by decide +kernel⟩
theorem ft_0_4 : FT 0 4 .int := ⟨RX0, TX0, 5, rfl, rfl, by decide +kernel⟩
theorem cw_1_at : ∀ k, k < 4 → tin (u_lay RX1 TX1 k) := fun k hk => match k, hk with
  | 0, _ => tin.of 120 (by decide +kernel) rfl
  | 1, _ => tin.of 122 (by decide +kernel) rfl
  | 2, _ => tin.of 124 (by decide +kernel) rfl
  | 3, _ => tin.of 126 (by decide +kernel) rfl
  | _ + 4, h => absurd h (by omega)
theorem cw_1 : ∀ w ∈ u_ws RX1 TX1 4, tin w := by
  intro w hw
  obtain ⟨k, hk, rfl⟩ := List.mem_map.mp hw
  exact cw_1_at k (List.mem_range.mp hk)
theorem ft_1_0 : FT 1 0 .int := ⟨RX1, TX1, 4, rfl, rfl, by decide +kernel⟩
theorem cw_2_at : ∀ k, k < 9 → tin (u_lay RX2 TX2 k) := fun k hk => match k, hk with
  | 0, _ => tin.of 237 (by decide +kernel) rfl
  | 1, _ => tin.of 239 (by decide +kernel) rfl
  | 2, _ => tin.of 241 (by decide +kernel) rfl
  | 3, _ => tin.of 243 (by decide +kernel) rfl
  | 4, _ => tin.of 245 (by decide +kernel) rfl
  | 5, _ => tin.of 247 (by decide +kernel) rfl
  | 6, _ => tin.of 249 (by decide +kernel) rfl
  | 7, _ => tin.of 251 (by decide +kernel) rfl
  | 8, _ => tin.of 253 (by decide +kernel) rfl
  | _ + 9, h => absurd h (by omega)
theorem cw_2 : ∀ w ∈ u_ws RX2 TX2 9, tin w := by
  intro w hw
  obtain ⟨k, hk, rfl⟩ := List.mem_map.mp hw
  exact cw_2_at k (List.mem_range.mp hk)
theorem ft_2_6 : FT 2 6 .int := ⟨RX2, TX2, 9, rfl, rfl, by decide +kernel⟩
theorem ft_2_7 : FT 2 7 .int := ⟨RX2, TX2, 9, rfl, rfl, by decide +kernel⟩
theorem ft_2_8 : FT 2 8 .int := ⟨RX2, TX2, 9, rfl, rfl, by decide +kernel⟩
theorem cw_3_at : ∀ k, k < 2 → tin (u_lay RX3 TX3 k) := fun k hk => match k, hk with
  | 0, _ => tin.of 92 (by decide +kernel) rfl
  | 1, _ => tin.of 94 (by decide +kernel) rfl
  | _ + 2, h => absurd h (by omega)
theorem cw_3 : ∀ w ∈ u_ws RX3 TX3 2, tin w := by
  intro w hw
  obtain ⟨k, hk, rfl⟩ := List.mem_map.mp hw
  exact cw_3_at k (List.mem_range.mp hk)
theorem ft_3_1 : FT 3 1 .int := ⟨RX3, TX3, 2, rfl, rfl, by decide +kernel⟩
theorem cw_4_at : ∀ k, k < 4 → tin (u_lay RX4 TX4 k) := fun k hk => match k, hk with
  | 0, _ => tin.of 147 (by decide +kernel) rfl
  | 1, _ => tin.of 149 (by decide +kernel) rfl
  | 2, _ => tin.of 151 (by decide +kernel) rfl
  | 3, _ => tin.of 153 (by decide +kernel) rfl
  | _ + 4, h => absurd h (by omega)
theorem cw_4 : ∀ w ∈ u_ws RX4 TX4 4, tin w := by
  intro w hw
  obtain ⟨k, hk, rfl⟩ := List.mem_map.mp hw
  exact cw_4_at k (List.mem_range.mp hk)
theorem ft_4_0 : FT 4 0 .int := ⟨RX4, TX4, 4, rfl, rfl, by decide +kernel⟩
theorem ft_4_1 : FT 4 1 .int := ⟨RX4, TX4, 4, rfl, rfl, by decide +kernel⟩
theorem cw_5_at : ∀ k, k < 6 → tin (u_lay RX5 TX5 k) := fun k hk => match k, hk with
  | 0, _ => tin.of 178 (by decide +kernel) rfl
  | 1, _ => tin.of 180 (by decide +kernel) rfl
  | 2, _ => tin.of 182 (by decide +kernel) rfl
  | 3, _ => tin.of 184 (by decide +kernel) rfl
  | 4, _ => tin.of 186 (by decide +kernel) rfl
  | 5, _ => tin.of 188 (by decide +kernel) rfl
  | _ + 6, h => absurd h (by omega)
theorem cw_5 : ∀ w ∈ u_ws RX5 TX5 6, tin w := by
  intro w hw
  obtain ⟨k, hk, rfl⟩ := List.mem_map.mp hw
  exact cw_5_at k (List.mem_range.mp hk)
theorem ft_5_0 : FT 5 0 .int := ⟨RX5, TX5, 6, rfl, rfl, by decide +kernel⟩
theorem ft_5_1 : FT 5 1 .int := ⟨RX5, TX5, 6, rfl, rfl, by decide +kernel⟩
theorem cw_6_at : ∀ k, k < 2 → tin (u_lay RX6 TX6 k) := fun k hk => match k, hk with
  | 0, _ => tin.of 266 (by decide +kernel) rfl
  | 1, _ => tin.of 268 (by decide +kernel) rfl
  | _ + 2, h => absurd h (by omega)
theorem cw_6 : ∀ w ∈ u_ws RX6 TX6 2, tin w := by
  intro w hw
  obtain ⟨k, hk, rfl⟩ := List.mem_map.mp hw
  exact cw_6_at k (List.mem_range.mp hk)
theorem cw_7_at : ∀ k, k < 5 → tin (u_lay RX7 TX7 k) := fun k hk => match k, hk with
  | 0, _ => tin.of 203 (by decide +kernel) rfl
  | 1, _ => tin.of 205 (by decide +kernel) rfl
  | 2, _ => tin.of 207 (by decide +kernel) rfl
  | 3, _ => tin.of 209 (by decide +kernel) rfl
  | 4, _ => tin.of 211 (by decide +kernel) rfl
  | _ + 5, h => absurd h (by omega)
theorem cw_7 : ∀ w ∈ u_ws RX7 TX7 5, tin w := by
  intro w hw
  obtain ⟨k, hk, rfl⟩ := List.mem_map.mp hw
  exact cw_7_at k (List.mem_range.mp hk)
theorem ft_7_3 : FT 7 3 .int := ⟨RX7, TX7, 5, rfl, rfl, by decide +kernel⟩
theorem ft_7_4 : FT 7 4 .int := ⟨RX7, TX7, 5, rfl, rfl, by decide +kernel⟩
theorem cw_8_at : ∀ k, k < 7 → tin (u_lay RX8 TX8 k) := fun k hk => match k, hk with
  | 0, _ => tin.of 42 (by decide +kernel) rfl
  | 1, _ => tin.of 44 (by decide +kernel) rfl
  | 2, _ => tin.of 46 (by decide +kernel) rfl
  | 3, _ => tin.of 48 (by decide +kernel) rfl
  | 4, _ => tin.of 50 (by decide +kernel) rfl
  | 5, _ => tin.of 52 (by decide +kernel) rfl
  | 6, _ => tin.of 54 (by decide +kernel) rfl
  | _ + 7, h => absurd h (by omega)
theorem cw_8 : ∀ w ∈ u_ws RX8 TX8 7, tin w := by
  intro w hw
  obtain ⟨k, hk, rfl⟩ := List.mem_map.mp hw
  exact cw_8_at k (List.mem_range.mp hk)
theorem ft_8_1 : FT 8 1 .int := ⟨RX8, TX8, 7, rfl, rfl, by decide +kernel⟩
theorem ft_8_2 : FT 8 2 .int := ⟨RX8, TX8, 7, rfl, rfl, by decide +kernel⟩
theorem ft_8_3 : FT 8 3 .int := ⟨RX8, TX8, 7, rfl, rfl, by decide +kernel⟩
theorem ft_8_4 : FT 8 4 .int := ⟨RX8, TX8, 7, rfl, rfl, by decide +kernel⟩
theorem ft_8_5 : FT 8 5 .int := ⟨RX8, TX8, 7, rfl, rfl, by decide +kernel⟩
theorem ft_8_6 : FT 8 6 .int := ⟨RX8, TX8, 7, rfl, rfl, by decide +kernel⟩
theorem cw_9_at : ∀ k, k < 9 → tin (u_lay RX9 TX9 k) := fun k hk => match k, hk with
  | 0, _ => tin.of 320 (by decide +kernel) rfl
  | 1, _ => tin.of 322 (by decide +kernel) rfl
  | 2, _ => tin.of 324 (by decide +kernel) rfl
  | 3, _ => tin.of 326 (by decide +kernel) rfl
  | 4, _ => tin.of 328 (by decide +kernel) rfl
  | 5, _ => tin.of 330 (by decide +kernel) rfl
  | 6, _ => tin.of 332 (by decide +kernel) rfl
  | 7, _ => tin.of 334 (by decide +kernel) rfl
  | 8, _ => tin.of 336 (by decide +kernel) rfl
  | _ + 9, h => absurd h (by omega)
theorem cw_9 : ∀ w ∈ u_ws RX9 TX9 9, tin w := by
  intro w hw
  obtain ⟨k, hk, rfl⟩ := List.mem_map.mp hw
  exact cw_9_at k (List.mem_range.mp hk)
theorem cw_10_at : ∀ k, k < 45 → tin (u_lay RX10 TX10 k) := fun k hk => match k, hk with
  | 0, _ => tin.of 867 (by decide +kernel) rfl
  | 1, _ => tin.of 869 (by decide +kernel) rfl
  | 2, _ => tin.of 871 (by decide +kernel) rfl
  | 3, _ => tin.of 873 (by decide +kernel) rfl
  | 4, _ => tin.of 875 (by decide +kernel) rfl
  | 5, _ => tin.of 877 (by decide +kernel) rfl
  | 6, _ => tin.of 879 (by decide +kernel) rfl
  | 7, _ => tin.of 881 (by decide +kernel) rfl
  | 8, _ => tin.of 883 (by decide +kernel) rfl
  | 9, _ => tin.of 885 (by decide +kernel) rfl
  | 10, _ => tin.of 887 (by decide +kernel) rfl
  | 11, _ => tin.of 889 (by decide +kernel) rfl
  | 12, _ => tin.of 891 (by decide +kernel) rfl
  | 13, _ => tin.of 893 (by decide +kernel) rfl
  | 14, _ => tin.of 895 (by decide +kernel) rfl
  | 15, _ => tin.of 897 (by decide +kernel) rfl
  | 16, _ => tin.of 899 (by decide +kernel) rfl
  | 17, _ => tin.of 901 (by decide +kernel) rfl
  | 18, _ => tin.of 903 (by decide +kernel) rfl
  | 19, _ => tin.of 905 (by decide +kernel) rfl
  | 20, _ => tin.of 907 (by decide +kernel) rfl
  | 21, _ => tin.of 909 (by decide +kernel) rfl
  | 22, _ => tin.of 911 (by decide +kernel) rfl
  | 23, _ => tin.of 913 (by decide +kernel) rfl
  | 24, _ => tin.of 915 (by decide +kernel) rfl
  | 25, _ => tin.of 917 (by decide +kernel) rfl
  | 26, _ => tin.of 919 (by decide +kernel) rfl
  | 27, _ => tin.of 921 (by decide +kernel) rfl
  | 28, _ => tin.of 923 (by decide +kernel) rfl
  | 29, _ => tin.of 925 (by decide +kernel) rfl
  | 30, _ => tin.of 927 (by decide +kernel) rfl
  | 31, _ => tin.of 929 (by decide +kernel) rfl
  | 32, _ => tin.of 931 (by decide +kernel) rfl
  | 33, _ => tin.of 933 (by decide +kernel) rfl
  | 34, _ => tin.of 935 (by decide +kernel) rfl
  | 35, _ => tin.of 937 (by decide +kernel) rfl
  | 36, _ => tin.of 939 (by decide +kernel) rfl
  | 37, _ => tin.of 941 (by decide +kernel) rfl
  | 38, _ => tin.of 943 (by decide +kernel) rfl
  | 39, _ => tin.of 945 (by decide +kernel) rfl
  | 40, _ => tin.of 947 (by decide +kernel) rfl
  | 41, _ => tin.of 949 (by decide +kernel) rfl
  | 42, _ => tin.of 951 (by decide +kernel) rfl
  | 43, _ => tin.of 953 (by decide +kernel) rfl
  | 44, _ => tin.of 955 (by decide +kernel) rfl
  | _ + 45, h => absurd h (by omega)
theorem cw_10 : ∀ w ∈ u_ws RX10 TX10 45, tin w := by
  intro w hw
  obtain ⟨k, hk, rfl⟩ := List.mem_map.mp hw
  exact cw_10_at k (List.mem_range.mp hk)
theorem ft_10_17 : FT 10 17 .boolean := ⟨RX10, TX10, 45, rfl, rfl, by decide +kernel⟩
theorem ft_10_25 : FT 10 25 .int := ⟨RX10, TX10, 45, rfl, rfl, by decide +kernel⟩
theorem ft_10_26 : FT 10 26 .int := ⟨RX10, TX10, 45, rfl, rfl, by decide +kernel⟩
theorem ft_10_27 : FT 10 27 .int := ⟨RX10, TX10, 45, rfl, rfl, by decide +kernel⟩
theorem ft_10_28 : FT 10 28 .int := ⟨RX10, TX10, 45, rfl, rfl, by decide +kernel⟩
theorem ft_10_29 : FT 10 29 .int := ⟨RX10, TX10, 45, rfl, rfl, by decide +kernel⟩
theorem ft_10_30 : FT 10 30 .int := ⟨RX10, TX10, 45, rfl, rfl, by decide +kernel⟩
theorem ft_10_32 : FT 10 32 .int := ⟨RX10, TX10, 45, rfl, rfl, by decide +kernel⟩
theorem ft_10_33 : FT 10 33 .int := ⟨RX10, TX10, 45, rfl, rfl, by decide +kernel⟩
theorem ft_10_35 : FT 10 35 .int := ⟨RX10, TX10, 45, rfl, rfl, by decide +kernel⟩
theorem ft_10_36 : FT 10 36 .int := ⟨RX10, TX10, 45, rfl, rfl, by decide +kernel⟩
theorem ft_10_37 : FT 10 37 .int := ⟨RX10, TX10, 45, rfl, rfl, by decide +kernel⟩
theorem ft_10_39 : FT 10 39 .int := ⟨RX10, TX10, 45, rfl, rfl, by decide +kernel⟩
theorem ft_10_43 : FT 10 43 .int := ⟨RX10, TX10, 45, rfl, rfl, by decide +kernel⟩
theorem ft_10_44 : FT 10 44 .int := ⟨RX10, TX10, 45, rfl, rfl, by decide +kernel⟩
theorem fl_X9_10 : FL RX9 10 9 0 := ⟨RX9, TX9, 9, rfl, by decide, cw_9, ⟨tyX9, tyX9_ok, nmX9⟩, Or.inl (tin.of 311 (by decide +kernel) rfl)⟩
theorem fl_X9_19 : FL RX9 19 9 1 := ⟨RX9, TX9, 9, rfl, by decide, cw_9, ⟨tyX9, tyX9_ok, nmX9⟩, Or.inl (tin.of 312 (by decide +kernel) rfl)⟩
theorem fl_X9_26 : FL RX9 26 9 2 := ⟨RX9, TX9, 9, rfl, by decide, cw_9, ⟨tyX9, tyX9_ok, nmX9⟩, Or.inl (tin.of 313 (by decide +kernel) rfl)⟩
theorem fl_X9_33 : FL RX9 33 9 3 := ⟨RX9, TX9, 9, rfl, by decide, cw_9, ⟨tyX9, tyX9_ok, nmX9⟩, Or.inl (tin.of 314 (by decide +kernel) rfl)⟩
theorem fl_X9_40 : FL RX9 40 9 4 := ⟨RX9, TX9, 9, rfl, by decide, cw_9, ⟨tyX9, tyX9_ok, nmX9⟩, Or.inl (tin.of 315 (by decide +kernel) rfl)⟩
theorem fl_X9_44 : FL RX9 44 9 5 := ⟨RX9, TX9, 9, rfl, by decide, cw_9, ⟨tyX9, tyX9_ok, nmX9⟩, Or.inl (tin.of 316 (by decide +kernel) rfl)⟩
theorem fl_X9_50 : FL RX9 50 9 6 := ⟨RX9, TX9, 9, rfl, by decide, cw_9, ⟨tyX9, tyX9_ok, nmX9⟩, Or.inl (tin.of 317 (by decide +kernel) rfl)⟩
theorem fl_X9_54 : FL RX9 54 9 7 := ⟨RX9, TX9, 9, rfl, by decide, cw_9, ⟨tyX9, tyX9_ok, nmX9⟩, Or.inl (tin.of 318 (by decide +kernel) rfl)⟩
theorem fl_X9_58 : FL RX9 58 9 8 := ⟨RX9, TX9, 9, rfl, by decide, cw_9, ⟨tyX9, tyX9_ok, nmX9⟩, Or.inl (tin.of 319 (by decide +kernel) rfl)⟩
theorem fl_X0_9 : FL RX0 9 0 0 := ⟨RX0, TX0, 5, rfl, by decide, cw_0, ⟨tyX0, tyX0_ok, nmX0⟩, Or.inl (tin.of 64 (by decide +kernel) rfl)⟩
theorem fl_X0_15 : FL RX0 15 0 1 := ⟨RX0, TX0, 5, rfl, by decide, cw_0, ⟨tyX0, tyX0_ok, nmX0⟩, Or.inl (tin.of 65 (by decide +kernel) rfl)⟩
theorem fl_X0_19 : FL RX0 19 0 2 := ⟨RX0, TX0, 5, rfl, by decide, cw_0, ⟨tyX0, tyX0_ok, nmX0⟩, Or.inl (tin.of 66 (by decide +kernel) rfl)⟩
theorem fl_X0_23 : FL RX0 23 0 4 := ⟨RX0, TX0, 5, rfl, by decide, cw_0, ⟨tyX0, tyX0_ok, nmX0⟩, Or.inl (tin.of 69 (by decide +kernel) rfl)⟩
theorem fl_X0_51 : FL RX0 51 0 3 := ⟨RX0, TX0, 5, rfl, by decide, cw_0, ⟨tyX0, tyX0_ok, nmX0⟩, Or.inl (tin.of 68 (by decide +kernel) rfl)⟩
theorem fl_X1_9 : FL RX1 9 1 1 := ⟨RX1, TX1, 4, rfl, by decide, cw_1, ⟨tyX1, tyX1_ok, nmX1⟩, Or.inl (tin.of 114 (by decide +kernel) rfl)⟩
theorem fl_X1_15 : FL RX1 15 1 2 := ⟨RX1, TX1, 4, rfl, by decide, cw_1, ⟨tyX1, tyX1_ok, nmX1⟩, Or.inl (tin.of 117 (by decide +kernel) rfl)⟩
theorem fl_X1_20 : FL RX1 20 1 3 := ⟨RX1, TX1, 4, rfl, by decide, cw_1, ⟨tyX1, tyX1_ok, nmX1⟩, Or.inl (tin.of 119 (by decide +kernel) rfl)⟩
theorem fl_X1_23 : FL RX1 23 1 0 := ⟨RX1, TX1, 4, rfl, by decide, cw_1, ⟨tyX1, tyX1_ok, nmX1⟩, Or.inl (tin.of 111 (by decide +kernel) rfl)⟩
theorem fl_X2_9 : FL RX2 9 2 0 := ⟨RX2, TX2, 9, rfl, by decide, cw_2, ⟨tyX2, tyX2_ok, nmX2⟩, Or.inl (tin.of 220 (by decide +kernel) rfl)⟩
theorem fl_X2_15 : FL RX2 15 2 1 := ⟨RX2, TX2, 9, rfl, by decide, cw_2, ⟨tyX2, tyX2_ok, nmX2⟩, Or.inl (tin.of 222 (by decide +kernel) rfl)⟩
theorem fl_X2_18 : FL RX2 18 2 2 := ⟨RX2, TX2, 9, rfl, by decide, cw_2, ⟨tyX2, tyX2_ok, nmX2⟩, Or.inl (tin.of 224 (by decide +kernel) rfl)⟩
theorem fl_X2_21 : FL RX2 21 2 3 := ⟨RX2, TX2, 9, rfl, by decide, cw_2, ⟨tyX2, tyX2_ok, nmX2⟩, Or.inl (tin.of 226 (by decide +kernel) rfl)⟩
theorem fl_X2_24 : FL RX2 24 2 4 := ⟨RX2, TX2, 9, rfl, by decide, cw_2, ⟨tyX2, tyX2_ok, nmX2⟩, Or.inl (tin.of 228 (by decide +kernel) rfl)⟩
theorem fl_X2_27 : FL RX2 27 2 5 := ⟨RX2, TX2, 9, rfl, by decide, cw_2, ⟨tyX2, tyX2_ok, nmX2⟩, Or.inl (tin.of 230 (by decide +kernel) rfl)⟩
theorem fl_X2_76 : FL RX2 76 2 6 := ⟨RX2, TX2, 9, rfl, by decide, cw_2, ⟨tyX2, tyX2_ok, nmX2⟩, Or.inl (tin.of 233 (by decide +kernel) rfl)⟩
theorem fl_X2_79 : FL RX2 79 2 7 := ⟨RX2, TX2, 9, rfl, by decide, cw_2, ⟨tyX2, tyX2_ok, nmX2⟩, Or.inl (tin.of 235 (by decide +kernel) rfl)⟩
theorem fl_X2_82 : FL RX2 82 2 8 := ⟨RX2, TX2, 9, rfl, by decide, cw_2, ⟨tyX2, tyX2_ok, nmX2⟩, Or.inl (tin.of 236 (by decide +kernel) rfl)⟩
theorem fl_X3_9 : FL RX3 9 3 0 := ⟨RX3, TX3, 2, rfl, by decide, cw_3, ⟨tyX3, tyX3_ok, nmX3⟩, Or.inl (tin.of 89 (by decide +kernel) rfl)⟩
theorem fl_X3_15 : FL RX3 15 3 1 := ⟨RX3, TX3, 2, rfl, by decide, cw_3, ⟨tyX3, tyX3_ok, nmX3⟩, Or.inl (tin.of 91 (by decide +kernel) rfl)⟩
theorem fl_X4_9 : FL RX4 9 4 2 := ⟨RX4, TX4, 4, rfl, by decide, cw_4, ⟨tyX4, tyX4_ok, nmX4⟩, Or.inl (tin.of 143 (by decide +kernel) rfl)⟩
theorem fl_X4_17 : FL RX4 17 4 3 := ⟨RX4, TX4, 4, rfl, by decide, cw_4, ⟨tyX4, tyX4_ok, nmX4⟩, Or.inl (tin.of 145 (by decide +kernel) rfl)⟩
theorem fl_X4_20 : FL RX4 20 4 0 := ⟨RX4, TX4, 4, rfl, by decide, cw_4, ⟨tyX4, tyX4_ok, nmX4⟩, Or.inl (tin.of 137 (by decide +kernel) rfl)⟩
theorem fl_X4_29 : FL RX4 29 4 1 := ⟨RX4, TX4, 4, rfl, by decide, cw_4, ⟨tyX4, tyX4_ok, nmX4⟩, Or.inl (tin.of 141 (by decide +kernel) rfl)⟩
theorem fl_X5_9 : FL RX5 9 5 2 := ⟨RX5, TX5, 6, rfl, by decide, cw_5, ⟨tyX5, tyX5_ok, nmX5⟩, Or.inl (tin.of 167 (by decide +kernel) rfl)⟩
theorem fl_X5_15 : FL RX5 15 5 3 := ⟨RX5, TX5, 6, rfl, by decide, cw_5, ⟨tyX5, tyX5_ok, nmX5⟩, Or.inl (tin.of 170 (by decide +kernel) rfl)⟩
theorem fl_X5_18 : FL RX5 18 5 4 := ⟨RX5, TX5, 6, rfl, by decide, cw_5, ⟨tyX5, tyX5_ok, nmX5⟩, Or.inl (tin.of 173 (by decide +kernel) rfl)⟩
theorem fl_X5_21 : FL RX5 21 5 5 := ⟨RX5, TX5, 6, rfl, by decide, cw_5, ⟨tyX5, tyX5_ok, nmX5⟩, Or.inl (tin.of 176 (by decide +kernel) rfl)⟩
theorem fl_X5_24 : FL RX5 24 5 0 := ⟨RX5, TX5, 6, rfl, by decide, cw_5, ⟨tyX5, tyX5_ok, nmX5⟩, Or.inl (tin.of 162 (by decide +kernel) rfl)⟩
theorem fl_X5_29 : FL RX5 29 5 1 := ⟨RX5, TX5, 6, rfl, by decide, cw_5, ⟨tyX5, tyX5_ok, nmX5⟩, Or.inl (tin.of 165 (by decide +kernel) rfl)⟩
theorem fl_X6_9 : FL RX6 9 6 0 := ⟨RX6, TX6, 2, rfl, by decide, cw_6, ⟨tyX6, tyX6_ok, nmX6⟩, Or.inl (tin.of 262 (by decide +kernel) rfl)⟩
theorem fl_X6_15 : FL RX6 15 6 1 := ⟨RX6, TX6, 2, rfl, by decide, cw_6, ⟨tyX6, tyX6_ok, nmX6⟩, Or.inl (tin.of 264 (by decide +kernel) rfl)⟩
theorem fl_X7_12 : FL RX7 12 7 0 := ⟨RX7, TX7, 5, rfl, by decide, cw_7, ⟨tyX7, tyX7_ok, nmX7⟩, Or.inl (tin.of 191 (by decide +kernel) rfl)⟩
theorem fl_X7_21 : FL RX7 21 7 1 := ⟨RX7, TX7, 5, rfl, by decide, cw_7, ⟨tyX7, tyX7_ok, nmX7⟩, Or.inl (tin.of 194 (by decide +kernel) rfl)⟩
theorem fl_X7_28 : FL RX7 28 7 2 := ⟨RX7, TX7, 5, rfl, by decide, cw_7, ⟨tyX7, tyX7_ok, nmX7⟩, Or.inl (tin.of 196 (by decide +kernel) rfl)⟩
theorem fl_X7_32 : FL RX7 32 7 3 := ⟨RX7, TX7, 5, rfl, by decide, cw_7, ⟨tyX7, tyX7_ok, nmX7⟩, Or.inl (tin.of 199 (by decide +kernel) rfl)⟩
theorem fl_X7_36 : FL RX7 36 7 4 := ⟨RX7, TX7, 5, rfl, by decide, cw_7, ⟨tyX7, tyX7_ok, nmX7⟩, Or.inl (tin.of 201 (by decide +kernel) rfl)⟩
theorem fl_X8_9 : FL RX8 9 8 0 := ⟨RX8, TX8, 7, rfl, by decide, cw_8, ⟨tyX8, tyX8_ok, nmX8⟩, Or.inl (tin.of 32 (by decide +kernel) rfl)⟩
theorem fl_X8_15 : FL RX8 15 8 6 := ⟨RX8, TX8, 7, rfl, by decide, cw_8, ⟨tyX8, tyX8_ok, nmX8⟩, Or.inl (tin.of 40 (by decide +kernel) rfl)⟩
theorem fl_X8_19 : FL RX8 19 8 1 := ⟨RX8, TX8, 7, rfl, by decide, cw_8, ⟨tyX8, tyX8_ok, nmX8⟩, Or.inl (tin.of 33 (by decide +kernel) rfl)⟩
theorem fl_X8_22 : FL RX8 22 8 5 := ⟨RX8, TX8, 7, rfl, by decide, cw_8, ⟨tyX8, tyX8_ok, nmX8⟩, Or.inl (tin.of 38 (by decide +kernel) rfl)⟩
theorem fl_X8_25 : FL RX8 25 8 4 := ⟨RX8, TX8, 7, rfl, by decide, cw_8, ⟨tyX8, tyX8_ok, nmX8⟩, Or.inl (tin.of 37 (by decide +kernel) rfl)⟩
theorem fl_X8_31 : FL RX8 31 8 3 := ⟨RX8, TX8, 7, rfl, by decide, cw_8, ⟨tyX8, tyX8_ok, nmX8⟩, Or.inl (tin.of 36 (by decide +kernel) rfl)⟩
theorem fl_X8_34 : FL RX8 34 8 2 := ⟨RX8, TX8, 7, rfl, by decide, cw_8, ⟨tyX8, tyX8_ok, nmX8⟩, Or.inl (tin.of 35 (by decide +kernel) rfl)⟩
theorem fl_X10_7 : FL RX10 7 10 0 := ⟨RX10, TX10, 45, rfl, by decide, cw_10, ⟨tyX10, tyX10_ok, nmX10⟩, Or.inl (tin.of 822 (by decide +kernel) rfl)⟩
theorem fl_X10_13 : FL RX10 13 10 1 := ⟨RX10, TX10, 45, rfl, by decide, cw_10, ⟨tyX10, tyX10_ok, nmX10⟩, Or.inl (tin.of 823 (by decide +kernel) rfl)⟩
theorem fl_X10_16 : FL RX10 16 10 2 := ⟨RX10, TX10, 45, rfl, by decide, cw_10, ⟨tyX10, tyX10_ok, nmX10⟩, Or.inl (tin.of 824 (by decide +kernel) rfl)⟩
theorem fl_X10_19 : FL RX10 19 10 3 := ⟨RX10, TX10, 45, rfl, by decide, cw_10, ⟨tyX10, tyX10_ok, nmX10⟩, Or.inl (tin.of 825 (by decide +kernel) rfl)⟩
theorem fl_X10_22 : FL RX10 22 10 4 := ⟨RX10, TX10, 45, rfl, by decide, cw_10, ⟨tyX10, tyX10_ok, nmX10⟩, Or.inl (tin.of 826 (by decide +kernel) rfl)⟩
theorem fl_X10_25 : FL RX10 25 10 5 := ⟨RX10, TX10, 45, rfl, by decide, cw_10, ⟨tyX10, tyX10_ok, nmX10⟩, Or.inl (tin.of 827 (by decide +kernel) rfl)⟩
theorem fl_X10_28 : FL RX10 28 10 6 := ⟨RX10, TX10, 45, rfl, by decide, cw_10, ⟨tyX10, tyX10_ok, nmX10⟩, Or.inl (tin.of 828 (by decide +kernel) rfl)⟩
theorem fl_X10_32 : FL RX10 32 10 7 := ⟨RX10, TX10, 45, rfl, by decide, cw_10, ⟨tyX10, tyX10_ok, nmX10⟩, Or.inl (tin.of 829 (by decide +kernel) rfl)⟩
theorem fl_X10_35 : FL RX10 35 10 8 := ⟨RX10, TX10, 45, rfl, by decide, cw_10, ⟨tyX10, tyX10_ok, nmX10⟩, Or.inl (tin.of 830 (by decide +kernel) rfl)⟩
theorem fl_X10_38 : FL RX10 38 10 9 := ⟨RX10, TX10, 45, rfl, by decide, cw_10, ⟨tyX10, tyX10_ok, nmX10⟩, Or.inl (tin.of 831 (by decide +kernel) rfl)⟩
theorem fl_X10_41 : FL RX10 41 10 10 := ⟨RX10, TX10, 45, rfl, by decide, cw_10, ⟨tyX10, tyX10_ok, nmX10⟩, Or.inl (tin.of 832 (by decide +kernel) rfl)⟩
theorem fl_X10_44 : FL RX10 44 10 11 := ⟨RX10, TX10, 45, rfl, by decide, cw_10, ⟨tyX10, tyX10_ok, nmX10⟩, Or.inl (tin.of 833 (by decide +kernel) rfl)⟩
theorem fl_X10_47 : FL RX10 47 10 12 := ⟨RX10, TX10, 45, rfl, by decide, cw_10, ⟨tyX10, tyX10_ok, nmX10⟩, Or.inl (tin.of 834 (by decide +kernel) rfl)⟩
theorem fl_X10_50 : FL RX10 50 10 13 := ⟨RX10, TX10, 45, rfl, by decide, cw_10, ⟨tyX10, tyX10_ok, nmX10⟩, Or.inl (tin.of 835 (by decide +kernel) rfl)⟩
theorem fl_X10_53 : FL RX10 53 10 14 := ⟨RX10, TX10, 45, rfl, by decide, cw_10, ⟨tyX10, tyX10_ok, nmX10⟩, Or.inl (tin.of 836 (by decide +kernel) rfl)⟩
theorem fl_X10_56 : FL RX10 56 10 15 := ⟨RX10, TX10, 45, rfl, by decide, cw_10, ⟨tyX10, tyX10_ok, nmX10⟩, Or.inl (tin.of 837 (by decide +kernel) rfl)⟩
theorem fl_X10_59 : FL RX10 59 10 16 := ⟨RX10, TX10, 45, rfl, by decide, cw_10, ⟨tyX10, tyX10_ok, nmX10⟩, Or.inl (tin.of 838 (by decide +kernel) rfl)⟩
theorem fl_X10_62 : FL RX10 62 10 18 := ⟨RX10, TX10, 45, rfl, by decide, cw_10, ⟨tyX10, tyX10_ok, nmX10⟩, Or.inl (tin.of 840 (by decide +kernel) rfl)⟩
theorem fl_X10_65 : FL RX10 65 10 19 := ⟨RX10, TX10, 45, rfl, by decide, cw_10, ⟨tyX10, tyX10_ok, nmX10⟩, Or.inl (tin.of 841 (by decide +kernel) rfl)⟩
theorem fl_X10_68 : FL RX10 68 10 20 := ⟨RX10, TX10, 45, rfl, by decide, cw_10, ⟨tyX10, tyX10_ok, nmX10⟩, Or.inl (tin.of 842 (by decide +kernel) rfl)⟩
theorem fl_X10_71 : FL RX10 71 10 21 := ⟨RX10, TX10, 45, rfl, by decide, cw_10, ⟨tyX10, tyX10_ok, nmX10⟩, Or.inl (tin.of 843 (by decide +kernel) rfl)⟩
theorem fl_X10_74 : FL RX10 74 10 22 := ⟨RX10, TX10, 45, rfl, by decide, cw_10, ⟨tyX10, tyX10_ok, nmX10⟩, Or.inl (tin.of 844 (by decide +kernel) rfl)⟩
theorem fl_X10_77 : FL RX10 77 10 23 := ⟨RX10, TX10, 45, rfl, by decide, cw_10, ⟨tyX10, tyX10_ok, nmX10⟩, Or.inl (tin.of 845 (by decide +kernel) rfl)⟩
theorem fl_X10_80 : FL RX10 80 10 24 := ⟨RX10, TX10, 45, rfl, by decide, cw_10, ⟨tyX10, tyX10_ok, nmX10⟩, Or.inl (tin.of 846 (by decide +kernel) rfl)⟩
theorem fl_X10_83 : FL RX10 83 10 30 := ⟨RX10, TX10, 45, rfl, by decide, cw_10, ⟨tyX10, tyX10_ok, nmX10⟩, Or.inl (tin.of 852 (by decide +kernel) rfl)⟩
theorem fl_X10_87 : FL RX10 87 10 31 := ⟨RX10, TX10, 45, rfl, by decide, cw_10, ⟨tyX10, tyX10_ok, nmX10⟩, Or.inl (tin.of 853 (by decide +kernel) rfl)⟩
theorem fl_X10_90 : FL RX10 90 10 34 := ⟨RX10, TX10, 45, rfl, by decide, cw_10, ⟨tyX10, tyX10_ok, nmX10⟩, Or.inl (tin.of 856 (by decide +kernel) rfl)⟩
theorem fl_X10_93 : FL RX10 93 10 38 := ⟨RX10, TX10, 45, rfl, by decide, cw_10, ⟨tyX10, tyX10_ok, nmX10⟩, Or.inl (tin.of 860 (by decide +kernel) rfl)⟩
theorem fl_X10_96 : FL RX10 96 10 40 := ⟨RX10, TX10, 45, rfl, by decide, cw_10, ⟨tyX10, tyX10_ok, nmX10⟩, Or.inl (tin.of 862 (by decide +kernel) rfl)⟩
theorem fl_X10_99 : FL RX10 99 10 41 := ⟨RX10, TX10, 45, rfl, by decide, cw_10, ⟨tyX10, tyX10_ok, nmX10⟩, Or.inl (tin.of 863 (by decide +kernel) rfl)⟩
theorem fl_X10_102 : FL RX10 102 10 42 := ⟨RX10, TX10, 45, rfl, by decide, cw_10, ⟨tyX10, tyX10_ok, nmX10⟩, Or.inl (tin.of 864 (by decide +kernel) rfl)⟩
theorem fl_X10_105 : FL RX10 105 10 17 := ⟨RX10, TX10, 45, rfl, by decide, cw_10, ⟨tyX10, tyX10_ok, nmX10⟩, Or.inl (tin.of 839 (by decide +kernel) rfl)⟩
theorem fl_X10_136 : FL RX10 136 10 25 := ⟨RX10, TX10, 45, rfl, by decide, cw_10, ⟨tyX10, tyX10_ok, nmX10⟩, Or.inl (tin.of 847 (by decide +kernel) rfl)⟩
theorem fl_X10_142 : FL RX10 142 10 26 := ⟨RX10, TX10, 45, rfl, by decide, cw_10, ⟨tyX10, tyX10_ok, nmX10⟩, Or.inl (tin.of 848 (by decide +kernel) rfl)⟩
theorem fl_X10_145 : FL RX10 145 10 29 := ⟨RX10, TX10, 45, rfl, by decide, cw_10, ⟨tyX10, tyX10_ok, nmX10⟩, Or.inl (tin.of 851 (by decide +kernel) rfl)⟩
theorem fl_X10_152 : FL RX10 152 10 27 := ⟨RX10, TX10, 45, rfl, by decide, cw_10, ⟨tyX10, tyX10_ok, nmX10⟩, Or.inl (tin.of 849 (by decide +kernel) rfl)⟩
theorem fl_X10_159 : FL RX10 159 10 28 := ⟨RX10, TX10, 45, rfl, by decide, cw_10, ⟨tyX10, tyX10_ok, nmX10⟩, Or.inl (tin.of 850 (by decide +kernel) rfl)⟩
theorem fl_X10_178 : FL RX10 178 10 35 := ⟨RX10, TX10, 45, rfl, by decide, cw_10, ⟨tyX10, tyX10_ok, nmX10⟩, Or.inl (tin.of 857 (by decide +kernel) rfl)⟩
theorem fl_X10_181 : FL RX10 181 10 32 := ⟨RX10, TX10, 45, rfl, by decide, cw_10, ⟨tyX10, tyX10_ok, nmX10⟩, Or.inl (tin.of 854 (by decide +kernel) rfl)⟩
theorem fl_X10_194 : FL RX10 194 10 33 := ⟨RX10, TX10, 45, rfl, by decide, cw_10, ⟨tyX10, tyX10_ok, nmX10⟩, Or.inl (tin.of 855 (by decide +kernel) rfl)⟩
theorem fl_X10_228 : FL RX10 228 10 37 := ⟨RX10, TX10, 45, rfl, by decide, cw_10, ⟨tyX10, tyX10_ok, nmX10⟩, Or.inl (tin.of 859 (by decide +kernel) rfl)⟩
theorem fl_X10_238 : FL RX10 238 10 36 := ⟨RX10, TX10, 45, rfl, by decide, cw_10, ⟨tyX10, tyX10_ok, nmX10⟩, Or.inl (tin.of 858 (by decide +kernel) rfl)⟩
theorem fl_X10_265 : FL RX10 265 10 39 := ⟨RX10, TX10, 45, rfl, by decide, cw_10, ⟨tyX10, tyX10_ok, nmX10⟩, Or.inl (tin.of 861 (by decide +kernel) rfl)⟩
theorem fl_X10_330 : FL RX10 330 10 43 := ⟨RX10, TX10, 45, rfl, by decide, cw_10, ⟨tyX10, tyX10_ok, nmX10⟩, Or.inl (tin.of 865 (by decide +kernel) rfl)⟩
theorem fl_X10_346 : FL RX10 346 10 44 := ⟨RX10, TX10, 45, rfl, by decide, cw_10, ⟨tyX10, tyX10_ok, nmX10⟩, Or.inl (tin.of 866 (by decide +kernel) rfl)⟩
theorem fl_X9_62 : FL RX9 62 7 1 := ⟨RX7, TX7, 5, rfl, by decide, cw_7, ⟨tyX7, tyX7_ok, nmX7⟩, Or.inr ⟨_, tin.of (w := .fieldLinkNest _ _ _ _ _ "PleaPapers") 195 (by decide +kernel) rfl⟩⟩
theorem fl_X9_71 : FL RX9 71 8 1 := ⟨RX8, TX8, 7, rfl, by decide, cw_8, ⟨tyX8, tyX8_ok, nmX8⟩, Or.inr ⟨_, tin.of (w := .fieldLinkNest _ _ _ _ _ "PleaPapers") 34 (by decide +kernel) rfl⟩⟩
theorem fl_X9_81 : FL RX9 81 7 0 := ⟨RX7, TX7, 5, rfl, by decide, cw_7, ⟨tyX7, tyX7_ok, nmX7⟩, Or.inr ⟨_, tin.of (w := .fieldLinkNest _ _ _ _ _ "PleaPapers") 192 (by decide +kernel) rfl⟩⟩
theorem fl_X9_85 : FL RX9 85 1 0 := ⟨RX1, TX1, 4, rfl, by decide, cw_1, ⟨tyX1, tyX1_ok, nmX1⟩, Or.inr ⟨_, tin.of (w := .fieldLinkNest _ _ _ _ _ "PleaPapers") 112 (by decide +kernel) rfl⟩⟩
theorem fl_X9_98 : FL RX9 98 8 5 := ⟨RX8, TX8, 7, rfl, by decide, cw_8, ⟨tyX8, tyX8_ok, nmX8⟩, Or.inr ⟨_, tin.of (w := .fieldLinkNest _ _ _ _ _ "PleaPapers") 39 (by decide +kernel) rfl⟩⟩
theorem fl_X9_111 : FL RX9 111 4 0 := ⟨RX4, TX4, 4, rfl, by decide, cw_4, ⟨tyX4, tyX4_ok, nmX4⟩, Or.inr ⟨_, tin.of (w := .fieldLinkNest _ _ _ _ _ "PleaPapers") 139 (by decide +kernel) rfl⟩⟩
theorem fl_X9_115 : FL RX9 115 7 3 := ⟨RX7, TX7, 5, rfl, by decide, cw_7, ⟨tyX7, tyX7_ok, nmX7⟩, Or.inr ⟨_, tin.of (w := .fieldLinkNest _ _ _ _ _ "PleaPapers") 200 (by decide +kernel) rfl⟩⟩
theorem fl_X9_118 : FL RX9 118 3 0 := ⟨RX3, TX3, 2, rfl, by decide, cw_3, ⟨tyX3, tyX3_ok, nmX3⟩, Or.inr ⟨_, tin.of (w := .fieldLinkNest _ _ _ _ _ "PleaPapers") 90 (by decide +kernel) rfl⟩⟩
theorem fl_X9_125 : FL RX9 125 8 6 := ⟨RX8, TX8, 7, rfl, by decide, cw_8, ⟨tyX8, tyX8_ok, nmX8⟩, Or.inr ⟨_, tin.of (w := .fieldLinkNest _ _ _ _ _ "PleaPapers") 41 (by decide +kernel) rfl⟩⟩
theorem fl_X9_128 : FL RX9 128 7 2 := ⟨RX7, TX7, 5, rfl, by decide, cw_7, ⟨tyX7, tyX7_ok, nmX7⟩, Or.inr ⟨_, tin.of (w := .fieldLinkNest _ _ _ _ _ "PleaPapers") 198 (by decide +kernel) rfl⟩⟩
theorem fl_X9_132 : FL RX9 132 5 0 := ⟨RX5, TX5, 6, rfl, by decide, cw_5, ⟨tyX5, tyX5_ok, nmX5⟩, Or.inr ⟨_, tin.of (w := .fieldLinkNest _ _ _ _ _ "PleaPapers") 164 (by decide +kernel) rfl⟩⟩
theorem fl_X9_144 : FL RX9 144 2 0 := ⟨RX2, TX2, 9, rfl, by decide, cw_2, ⟨tyX2, tyX2_ok, nmX2⟩, Or.inr ⟨_, tin.of (w := .fieldLinkNest _ _ _ _ _ "PleaPapers") 221 (by decide +kernel) rfl⟩⟩
theorem fl_X9_147 : FL RX9 147 2 1 := ⟨RX2, TX2, 9, rfl, by decide, cw_2, ⟨tyX2, tyX2_ok, nmX2⟩, Or.inr ⟨_, tin.of (w := .fieldLinkNest _ _ _ _ _ "PleaPapers") 223 (by decide +kernel) rfl⟩⟩
theorem fl_X9_150 : FL RX9 150 2 2 := ⟨RX2, TX2, 9, rfl, by decide, cw_2, ⟨tyX2, tyX2_ok, nmX2⟩, Or.inr ⟨_, tin.of (w := .fieldLinkNest _ _ _ _ _ "PleaPapers") 225 (by decide +kernel) rfl⟩⟩
theorem fl_X9_153 : FL RX9 153 2 3 := ⟨RX2, TX2, 9, rfl, by decide, cw_2, ⟨tyX2, tyX2_ok, nmX2⟩, Or.inr ⟨_, tin.of (w := .fieldLinkNest _ _ _ _ _ "PleaPapers") 227 (by decide +kernel) rfl⟩⟩
theorem fl_X9_156 : FL RX9 156 2 4 := ⟨RX2, TX2, 9, rfl, by decide, cw_2, ⟨tyX2, tyX2_ok, nmX2⟩, Or.inr ⟨_, tin.of (w := .fieldLinkNest _ _ _ _ _ "PleaPapers") 229 (by decide +kernel) rfl⟩⟩
theorem fl_X9_162 : FL RX9 162 1 1 := ⟨RX1, TX1, 4, rfl, by decide, cw_1, ⟨tyX1, tyX1_ok, nmX1⟩, Or.inr ⟨_, tin.of (w := .fieldLinkNest _ _ _ _ _ "PleaPapers") 116 (by decide +kernel) rfl⟩⟩
theorem fl_X9_165 : FL RX9 165 1 2 := ⟨RX1, TX1, 4, rfl, by decide, cw_1, ⟨tyX1, tyX1_ok, nmX1⟩, Or.inr ⟨_, tin.of (w := .fieldLinkNest _ _ _ _ _ "PleaPapers") 118 (by decide +kernel) rfl⟩⟩
theorem fl_X9_174 : FL RX9 174 4 2 := ⟨RX4, TX4, 4, rfl, by decide, cw_4, ⟨tyX4, tyX4_ok, nmX4⟩, Or.inr ⟨_, tin.of (w := .fieldLinkNest _ _ _ _ _ "PleaPapers") 144 (by decide +kernel) rfl⟩⟩
theorem fl_X9_177 : FL RX9 177 4 1 := ⟨RX4, TX4, 4, rfl, by decide, cw_4, ⟨tyX4, tyX4_ok, nmX4⟩, Or.inr ⟨_, tin.of (w := .fieldLinkNest _ _ _ _ _ "PleaPapers") 142 (by decide +kernel) rfl⟩⟩
theorem fl_X9_187 : FL RX9 187 2 5 := ⟨RX2, TX2, 9, rfl, by decide, cw_2, ⟨tyX2, tyX2_ok, nmX2⟩, Or.inr ⟨_, tin.of (w := .fieldLinkNest _ _ _ _ _ "PleaPapers") 231 (by decide +kernel) rfl⟩⟩
theorem fl_X9_190 : FL RX9 190 2 6 := ⟨RX2, TX2, 9, rfl, by decide, cw_2, ⟨tyX2, tyX2_ok, nmX2⟩, Or.inr ⟨_, tin.of (w := .fieldLinkNest _ _ _ _ _ "PleaPapers") 234 (by decide +kernel) rfl⟩⟩
theorem fl_X9_236 : FL RX9 236 5 1 := ⟨RX5, TX5, 6, rfl, by decide, cw_5, ⟨tyX5, tyX5_ok, nmX5⟩, Or.inr ⟨_, tin.of (w := .fieldLinkNest _ _ _ _ _ "PleaPapers") 166 (by decide +kernel) rfl⟩⟩
theorem fl_X9_239 : FL RX9 239 5 2 := ⟨RX5, TX5, 6, rfl, by decide, cw_5, ⟨tyX5, tyX5_ok, nmX5⟩, Or.inr ⟨_, tin.of (w := .fieldLinkNest _ _ _ _ _ "PleaPapers") 169 (by decide +kernel) rfl⟩⟩
theorem fl_X9_242 : FL RX9 242 5 3 := ⟨RX5, TX5, 6, rfl, by decide, cw_5, ⟨tyX5, tyX5_ok, nmX5⟩, Or.inr ⟨_, tin.of (w := .fieldLinkNest _ _ _ _ _ "PleaPapers") 172 (by decide +kernel) rfl⟩⟩
theorem fl_X9_245 : FL RX9 245 5 4 := ⟨RX5, TX5, 6, rfl, by decide, cw_5, ⟨tyX5, tyX5_ok, nmX5⟩, Or.inr ⟨_, tin.of (w := .fieldLinkNest _ _ _ _ _ "PleaPapers") 175 (by decide +kernel) rfl⟩⟩
theorem fl_X9_248 : FL RX9 248 5 5 := ⟨RX5, TX5, 6, rfl, by decide, cw_5, ⟨tyX5, tyX5_ok, nmX5⟩, Or.inr ⟨_, tin.of (w := .fieldLinkNest _ _ _ _ _ "PleaPapers") 177 (by decide +kernel) rfl⟩⟩
theorem fl_X9_258 : FL RX9 258 6 0 := ⟨RX6, TX6, 2, rfl, by decide, cw_6, ⟨tyX6, tyX6_ok, nmX6⟩, Or.inr ⟨_, tin.of (w := .fieldLinkNest _ _ _ _ _ "PleaPapers") 263 (by decide +kernel) rfl⟩⟩
theorem fl_X9_265 : FL RX9 265 6 1 := ⟨RX6, TX6, 2, rfl, by decide, cw_6, ⟨tyX6, tyX6_ok, nmX6⟩, Or.inr ⟨_, tin.of (w := .fieldLinkNest _ _ _ _ _ "PleaPapers") 265 (by decide +kernel) rfl⟩⟩
theorem fl_X9_284 : FL RX9 284 7 4 := ⟨RX7, TX7, 5, rfl, by decide, cw_7, ⟨tyX7, tyX7_ok, nmX7⟩, Or.inr ⟨_, tin.of (w := .fieldLinkNest _ _ _ _ _ "PleaPapers") 202 (by decide +kernel) rfl⟩⟩
theorem fl_X1_28 : FL RX1 28 0 3 := ⟨RX0, TX0, 5, rfl, by decide, cw_0, ⟨tyX0, tyX0_ok, nmX0⟩, Or.inr ⟨_, tin.of (w := .fieldLinkNest _ _ _ _ _ "PleaPapers") 67 (by decide +kernel) rfl⟩⟩
theorem fl_X1_32 : FL RX1 32 0 4 := ⟨RX0, TX0, 5, rfl, by decide, cw_0, ⟨tyX0, tyX0_ok, nmX0⟩, Or.inr ⟨_, tin.of (w := .fieldLinkNest _ _ _ _ _ "PleaPapers") 70 (by decide +kernel) rfl⟩⟩
theorem fl_X2_34 : FL RX2 34 4 0 := ⟨RX4, TX4, 4, rfl, by decide, cw_4, ⟨tyX4, tyX4_ok, nmX4⟩, Or.inr ⟨_, tin.of (w := .fieldLinkNest _ _ _ _ _ "PleaPapers") 138 (by decide +kernel) rfl⟩⟩
theorem fl_X2_40 : FL RX2 40 4 1 := ⟨RX4, TX4, 4, rfl, by decide, cw_4, ⟨tyX4, tyX4_ok, nmX4⟩, Or.inr ⟨_, tin.of (w := .fieldLinkNest _ _ _ _ _ "PleaPapers") 140 (by decide +kernel) rfl⟩⟩
theorem fl_X2_47 : FL RX2 47 4 3 := ⟨RX4, TX4, 4, rfl, by decide, cw_4, ⟨tyX4, tyX4_ok, nmX4⟩, Or.inr ⟨_, tin.of (w := .fieldLinkNest _ _ _ _ _ "PleaPapers") 146 (by decide +kernel) rfl⟩⟩
theorem fl_X6_22 : FL RX6 22 5 0 := ⟨RX5, TX5, 6, rfl, by decide, cw_5, ⟨tyX5, tyX5_ok, nmX5⟩, Or.inr ⟨_, tin.of (w := .fieldLinkNest _ _ _ _ _ "PleaPapers") 163 (by decide +kernel) rfl⟩⟩
theorem fl_X6_28 : FL RX6 28 5 3 := ⟨RX5, TX5, 6, rfl, by decide, cw_5, ⟨tyX5, tyX5_ok, nmX5⟩, Or.inr ⟨_, tin.of (w := .fieldLinkNest _ _ _ _ _ "PleaPapers") 171 (by decide +kernel) rfl⟩⟩
theorem fl_X6_39 : FL RX6 39 5 2 := ⟨RX5, TX5, 6, rfl, by decide, cw_5, ⟨tyX5, tyX5_ok, nmX5⟩, Or.inr ⟨_, tin.of (w := .fieldLinkNest _ _ _ _ _ "PleaPapers") 168 (by decide +kernel) rfl⟩⟩
theorem fl_X6_48 : FL RX6 48 5 4 := ⟨RX5, TX5, 6, rfl, by decide, cw_5, ⟨tyX5, tyX5_ok, nmX5⟩, Or.inr ⟨_, tin.of (w := .fieldLinkNest _ _ _ _ _ "PleaPapers") 174 (by decide +kernel) rfl⟩⟩
theorem fl_X6_51 : FL RX6 51 7 2 := ⟨RX7, TX7, 5, rfl, by decide, cw_7, ⟨tyX7, tyX7_ok, nmX7⟩, Or.inr ⟨_, tin.of (w := .fieldLinkNest _ _ _ _ _ "PleaPapers") 197 (by decide +kernel) rfl⟩⟩
theorem fl_X6_61 : FL RX6 61 7 0 := ⟨RX7, TX7, 5, rfl, by decide, cw_7, ⟨tyX7, tyX7_ok, nmX7⟩, Or.inr ⟨_, tin.of (w := .fieldLinkNest _ _ _ _ _ "PleaPapers") 193 (by decide +kernel) rfl⟩⟩
theorem fl_X6_70 : FL RX6 70 1 0 := ⟨RX1, TX1, 4, rfl, by decide, cw_1, ⟨tyX1, tyX1_ok, nmX1⟩, Or.inr ⟨_, tin.of (w := .fieldLinkNest _ _ _ _ _ "PleaPapers") 113 (by decide +kernel) rfl⟩⟩
theorem fl_X6_73 : FL RX6 73 1 1 := ⟨RX1, TX1, 4, rfl, by decide, cw_1, ⟨tyX1, tyX1_ok, nmX1⟩, Or.inr ⟨_, tin.of (w := .fieldLinkNest _ _ _ _ _ "PleaPapers") 115 (by decide +kernel) rfl⟩⟩
theorem fl_X6_76 : FL RX6 76 2 6 := ⟨RX2, TX2, 9, rfl, by decide, cw_2, ⟨tyX2, tyX2_ok, nmX2⟩, Or.inr ⟨_, tin.of (w := .fieldLinkNest _ _ _ _ _ "PleaPapers") 232 (by decide +kernel) rfl⟩⟩
theorem mi_X9_isFact : tin (.initialized yX9_isFact.cls) ∧ tin (.code yX9_isFact cX9_isFact 1 (some .boolean)) ∧ (yX9_isFact.cls ≠ "java/lang/invoke/MethodHandle" ∧ yX9_isFact.cls ≠ "java/lang/invoke/VarHandle" ∧ (parseMethodDescriptor yX9_isFact.desc).map (fun d => d.parameters.length) = some 1) := ⟨tin.of 1 (by decide +kernel) rfl, tin.of 545 (by decide +kernel) rfl, by decide +kernel⟩
theorem st_X9_isFact : tin (.static yX9_isFact) := tin.of 544 (by decide +kernel) rfl
theorem cl_X9_139 : CL RX9 139 yX9_isFact cX9_isFact 1 (some .boolean) 1 := ⟨Or.inl (tin.of 577 (by decide +kernel) rfl), mi_X9_isFact⟩
theorem mi_X9_isClaim : tin (.initialized yX9_isClaim.cls) ∧ tin (.code yX9_isClaim cX9_isClaim 2 (some .boolean)) ∧ (yX9_isClaim.cls ≠ "java/lang/invoke/MethodHandle" ∧ yX9_isClaim.cls ≠ "java/lang/invoke/VarHandle" ∧ (parseMethodDescriptor yX9_isClaim.desc).map (fun d => d.parameters.length) = some 1) := ⟨tin.of 1 (by decide +kernel) rfl, tin.of 586 (by decide +kernel) rfl, by decide +kernel⟩
theorem ci_X9_isClaim : CI yX9_isClaim 9 := ⟨tin.of 585 (by decide +kernel) rfl, tin.ofP 34 (by decide +kernel) rfl, TX9, 9, rfl⟩
theorem cl_X9_159 : CL RX9 159 yX9_isClaim cX9_isClaim 2 (some .boolean) 1 := ⟨Or.inl (tin.of 583 (by decide +kernel) rfl), mi_X9_isClaim⟩
theorem mi_X9_sureness : tin (.initialized yX9_sureness.cls) ∧ tin (.code yX9_sureness cX9_sureness 7 (some .int)) ∧ (yX9_sureness.cls ≠ "java/lang/invoke/MethodHandle" ∧ yX9_sureness.cls ≠ "java/lang/invoke/VarHandle" ∧ (parseMethodDescriptor yX9_sureness.desc).map (fun d => d.parameters.length) = some 1) := ⟨tin.of 1 (by decide +kernel) rfl, tin.of 590 (by decide +kernel) rfl, by decide +kernel⟩
theorem ci_X9_sureness : CI yX9_sureness 9 := ⟨tin.of 589 (by decide +kernel) rfl, tin.ofP 35 (by decide +kernel) rfl, TX9, 9, rfl⟩
theorem cl_X9_168 : CL RX9 168 yX9_sureness cX9_sureness 7 (some .int) 1 := ⟨Or.inl (tin.of 587 (by decide +kernel) rfl), mi_X9_sureness⟩
theorem mi_X9_isPaper : tin (.initialized yX9_isPaper.cls) ∧ tin (.code yX9_isPaper cX9_isPaper 2 (some .boolean)) ∧ (yX9_isPaper.cls ≠ "java/lang/invoke/MethodHandle" ∧ yX9_isPaper.cls ≠ "java/lang/invoke/VarHandle" ∧ (parseMethodDescriptor yX9_isPaper.desc).map (fun d => d.parameters.length) = some 1) := ⟨tin.of 1 (by decide +kernel) rfl, tin.of 618 (by decide +kernel) rfl, by decide +kernel⟩
theorem ci_X9_isPaper : CI yX9_isPaper 9 := ⟨tin.of 617 (by decide +kernel) rfl, tin.ofP 38 (by decide +kernel) rfl, TX9, 9, rfl⟩
theorem cl_X9_171 : CL RX9 171 yX9_isPaper cX9_isPaper 2 (some .boolean) 1 := ⟨Or.inl (tin.of 615 (by decide +kernel) rfl), mi_X9_isPaper⟩
theorem mi_X9_has : tin (.initialized yX9_has.cls) ∧ tin (.code yX9_has cX9_has 2 (some .boolean)) ∧ (yX9_has.cls ≠ "java/lang/invoke/MethodHandle" ∧ yX9_has.cls ≠ "java/lang/invoke/VarHandle" ∧ (parseMethodDescriptor yX9_has.desc).map (fun d => d.parameters.length) = some 2) := ⟨tin.of 1 (by decide +kernel) rfl, tin.of 282 (by decide +kernel) rfl, by decide +kernel⟩
theorem st_X9_has : tin (.static yX9_has) := tin.of 281 (by decide +kernel) rfl
theorem cl_X9_180 : CL RX9 180 yX9_has cX9_has 2 (some .boolean) 2 := ⟨Or.inl (tin.of 619 (by decide +kernel) rfl), mi_X9_has⟩
theorem mi_X9_turnsOn : tin (.initialized yX9_turnsOn.cls) ∧ tin (.code yX9_turnsOn cX9_turnsOn 8 (some .boolean)) ∧ (yX9_turnsOn.cls ≠ "java/lang/invoke/MethodHandle" ∧ yX9_turnsOn.cls ≠ "java/lang/invoke/VarHandle" ∧ (parseMethodDescriptor yX9_turnsOn.desc).map (fun d => d.parameters.length) = some 2) := ⟨tin.of 1 (by decide +kernel) rfl, tin.of 643 (by decide +kernel) rfl, by decide +kernel⟩
theorem ci_X9_turnsOn : CI yX9_turnsOn 9 := ⟨tin.of 642 (by decide +kernel) rfl, tin.ofP 40 (by decide +kernel) rfl, TX9, 9, rfl⟩
theorem cl_X9_199 : CL RX9 199 yX9_turnsOn cX9_turnsOn 8 (some .boolean) 2 := ⟨Or.inl (tin.of 640 (by decide +kernel) rfl), mi_X9_turnsOn⟩
theorem mi_J6_bitCount_0f7a4 : tin (.initialized yJ6_bitCount_0f7a4.cls) ∧ tin (.code yJ6_bitCount_0f7a4 cJ6_bitCount_0f7a4 1 (some .int)) ∧ (yJ6_bitCount_0f7a4.cls ≠ "java/lang/invoke/MethodHandle" ∧ yJ6_bitCount_0f7a4.cls ≠ "java/lang/invoke/VarHandle" ∧ (parseMethodDescriptor yJ6_bitCount_0f7a4.desc).map (fun d => d.parameters.length) = some 1) := ⟨tin.of 17 (by decide +kernel) rfl, tin.of 596 (by decide +kernel) rfl, by decide +kernel⟩
theorem st_J6_bitCount_0f7a4 : tin (.static yJ6_bitCount_0f7a4) := tin.of 595 (by decide +kernel) rfl
theorem cl_X9_202 : CL RX9 202 yJ6_bitCount_0f7a4 cJ6_bitCount_0f7a4 1 (some .int) 1 := ⟨Or.inl (tin.of 594 (by decide +kernel) rfl), mi_J6_bitCount_0f7a4⟩
theorem mi_X9_setsWithin : tin (.initialized yX9_setsWithin.cls) ∧ tin (.code yX9_setsWithin cX9_setsWithin 1 (some .int)) ∧ (yX9_setsWithin.cls ≠ "java/lang/invoke/MethodHandle" ∧ yX9_setsWithin.cls ≠ "java/lang/invoke/VarHandle" ∧ (parseMethodDescriptor yX9_setsWithin.desc).map (fun d => d.parameters.length) = some 1) := ⟨tin.of 1 (by decide +kernel) rfl, tin.of 593 (by decide +kernel) rfl, by decide +kernel⟩
theorem st_X9_setsWithin : tin (.static yX9_setsWithin) := tin.of 592 (by decide +kernel) rfl
theorem cl_X9_207 : CL RX9 207 yX9_setsWithin cX9_setsWithin 1 (some .int) 1 := ⟨Or.inl (tin.of 591 (by decide +kernel) rfl), mi_X9_setsWithin⟩
theorem mi_X9_isFewer : tin (.initialized yX9_isFewer.cls) ∧ tin (.code yX9_isFewer cX9_isFewer 2 (some .boolean)) ∧ (yX9_isFewer.cls ≠ "java/lang/invoke/MethodHandle" ∧ yX9_isFewer.cls ≠ "java/lang/invoke/VarHandle" ∧ (parseMethodDescriptor yX9_isFewer.desc).map (fun d => d.parameters.length) = some 2) := ⟨tin.of 1 (by decide +kernel) rfl, tin.of 650 (by decide +kernel) rfl, by decide +kernel⟩
theorem st_X9_isFewer : tin (.static yX9_isFewer) := tin.of 649 (by decide +kernel) rfl
theorem cl_X9_210 : CL RX9 210 yX9_isFewer cX9_isFewer 2 (some .boolean) 2 := ⟨Or.inl (tin.of 648 (by decide +kernel) rfl), mi_X9_isFewer⟩
theorem mi_X9_isEnough : tin (.initialized yX9_isEnough.cls) ∧ tin (.code yX9_isEnough cX9_isEnough 7 (some .boolean)) ∧ (yX9_isEnough.cls ≠ "java/lang/invoke/MethodHandle" ∧ yX9_isEnough.cls ≠ "java/lang/invoke/VarHandle" ∧ (parseMethodDescriptor yX9_isEnough.desc).map (fun d => d.parameters.length) = some 2) := ⟨tin.of 1 (by decide +kernel) rfl, tin.of 654 (by decide +kernel) rfl, by decide +kernel⟩
theorem ci_X9_isEnough : CI yX9_isEnough 9 := ⟨tin.of 653 (by decide +kernel) rfl, tin.ofP 41 (by decide +kernel) rfl, TX9, 9, rfl⟩
theorem cl_X9_213 : CL RX9 213 yX9_isEnough cX9_isEnough 7 (some .boolean) 2 := ⟨Or.inl (tin.of 651 (by decide +kernel) rfl), mi_X9_isEnough⟩
theorem mi_X9_nextSet : tin (.initialized yX9_nextSet.cls) ∧ tin (.code yX9_nextSet cX9_nextSet 2 (some .int)) ∧ (yX9_nextSet.cls ≠ "java/lang/invoke/MethodHandle" ∧ yX9_nextSet.cls ≠ "java/lang/invoke/VarHandle" ∧ (parseMethodDescriptor yX9_nextSet.desc).map (fun d => d.parameters.length) = some 2) := ⟨tin.of 1 (by decide +kernel) rfl, tin.of 610 (by decide +kernel) rfl, by decide +kernel⟩
theorem st_X9_nextSet : tin (.static yX9_nextSet) := tin.of 609 (by decide +kernel) rfl
theorem cl_X9_216 : CL RX9 216 yX9_nextSet cX9_nextSet 2 (some .int) 2 := ⟨Or.inl (tin.of 608 (by decide +kernel) rfl), mi_X9_nextSet⟩
theorem mi_X9_isSide : tin (.initialized yX9_isSide.cls) ∧ tin (.code yX9_isSide cX9_isSide 1 (some .boolean)) ∧ (yX9_isSide.cls ≠ "java/lang/invoke/MethodHandle" ∧ yX9_isSide.cls ≠ "java/lang/invoke/VarHandle" ∧ (parseMethodDescriptor yX9_isSide.desc).map (fun d => d.parameters.length) = some 1) := ⟨tin.of 1 (by decide +kernel) rfl, tin.of 661 (by decide +kernel) rfl, by decide +kernel⟩
theorem st_X9_isSide : tin (.static yX9_isSide) := tin.of 660 (by decide +kernel) rfl
theorem cl_X9_220 : CL RX9 220 yX9_isSide cX9_isSide 1 (some .boolean) 1 := ⟨Or.inl (tin.of 659 (by decide +kernel) rfl), mi_X9_isSide⟩
theorem mi_X9_changesIfTurned : tin (.initialized yX9_changesIfTurned.cls) ∧ tin (.code yX9_changesIfTurned cX9_changesIfTurned 8 (some .boolean)) ∧ (yX9_changesIfTurned.cls ≠ "java/lang/invoke/MethodHandle" ∧ yX9_changesIfTurned.cls ≠ "java/lang/invoke/VarHandle" ∧ (parseMethodDescriptor yX9_changesIfTurned.desc).map (fun d => d.parameters.length) = some 3) := ⟨tin.of 1 (by decide +kernel) rfl, tin.of 669 (by decide +kernel) rfl, by decide +kernel⟩
theorem ci_X9_changesIfTurned : CI yX9_changesIfTurned 9 := ⟨tin.of 668 (by decide +kernel) rfl, tin.ofP 43 (by decide +kernel) rfl, TX9, 9, rfl⟩
theorem cl_X9_226 : CL RX9 226 yX9_changesIfTurned cX9_changesIfTurned 8 (some .boolean) 3 := ⟨Or.inl (tin.of 666 (by decide +kernel) rfl), mi_X9_changesIfTurned⟩
theorem mi_X9_isProof : tin (.initialized yX9_isProof.cls) ∧ tin (.code yX9_isProof cX9_isProof 2 (some .boolean)) ∧ (yX9_isProof.cls ≠ "java/lang/invoke/MethodHandle" ∧ yX9_isProof.cls ≠ "java/lang/invoke/VarHandle" ∧ (parseMethodDescriptor yX9_isProof.desc).map (fun d => d.parameters.length) = some 1) := ⟨tin.of 1 (by decide +kernel) rfl, tin.of 686 (by decide +kernel) rfl, by decide +kernel⟩
theorem ci_X9_isProof : CI yX9_isProof 9 := ⟨tin.of 685 (by decide +kernel) rfl, tin.ofP 45 (by decide +kernel) rfl, TX9, 9, rfl⟩
theorem cl_X9_233 : CL RX9 233 yX9_isProof cX9_isProof 2 (some .boolean) 1 := ⟨Or.inl (tin.of 683 (by decide +kernel) rfl), mi_X9_isProof⟩
theorem mi_X9_gain : tin (.initialized yX9_gain.cls) ∧ tin (.code yX9_gain cX9_gain 5 (some .int)) ∧ (yX9_gain.cls ≠ "java/lang/invoke/MethodHandle" ∧ yX9_gain.cls ≠ "java/lang/invoke/VarHandle" ∧ (parseMethodDescriptor yX9_gain.desc).map (fun d => d.parameters.length) = some 3) := ⟨tin.of 1 (by decide +kernel) rfl, tin.of 732 (by decide +kernel) rfl, by decide +kernel⟩
theorem ci_X9_gain : CI yX9_gain 9 := ⟨tin.of 731 (by decide +kernel) rfl, tin.ofP 50 (by decide +kernel) rfl, TX9, 9, rfl⟩
theorem cl_X9_268 : CL RX9 268 yX9_gain cX9_gain 5 (some .int) 3 := ⟨Or.inl (tin.of 729 (by decide +kernel) rfl), mi_X9_gain⟩
theorem mi_X9_bestSet : tin (.initialized yX9_bestSet.cls) ∧ tin (.code yX9_bestSet cX9_bestSet 12 (some .int)) ∧ (yX9_bestSet.cls ≠ "java/lang/invoke/MethodHandle" ∧ yX9_bestSet.cls ≠ "java/lang/invoke/VarHandle" ∧ (parseMethodDescriptor yX9_bestSet.desc).map (fun d => d.parameters.length) = some 2) := ⟨tin.of 1 (by decide +kernel) rfl, tin.of 745 (by decide +kernel) rfl, by decide +kernel⟩
theorem ci_X9_bestSet : CI yX9_bestSet 9 := ⟨tin.of 744 (by decide +kernel) rfl, tin.ofP 52 (by decide +kernel) rfl, TX9, 9, rfl⟩
theorem cl_X9_272 : CL RX9 272 yX9_bestSet cX9_bestSet 12 (some .int) 2 := ⟨Or.inl (tin.of 742 (by decide +kernel) rfl), mi_X9_bestSet⟩
theorem mi_X9_leadSet : tin (.initialized yX9_leadSet.cls) ∧ tin (.code yX9_leadSet cX9_leadSet 9 (some .int)) ∧ (yX9_leadSet.cls ≠ "java/lang/invoke/MethodHandle" ∧ yX9_leadSet.cls ≠ "java/lang/invoke/VarHandle" ∧ (parseMethodDescriptor yX9_leadSet.desc).map (fun d => d.parameters.length) = some 1) := ⟨tin.of 1 (by decide +kernel) rfl, tin.of 757 (by decide +kernel) rfl, by decide +kernel⟩
theorem ci_X9_leadSet : CI yX9_leadSet 9 := ⟨tin.of 756 (by decide +kernel) rfl, tin.ofP 54 (by decide +kernel) rfl, TX9, 9, rfl⟩
theorem cl_X9_278 : CL RX9 278 yX9_leadSet cX9_leadSet 9 (some .int) 1 := ⟨Or.inl (tin.of 754 (by decide +kernel) rfl), mi_X9_leadSet⟩
theorem mi_X9_replySet : tin (.initialized yX9_replySet.cls) ∧ tin (.code yX9_replySet cX9_replySet 10 (some .int)) ∧ (yX9_replySet.cls ≠ "java/lang/invoke/MethodHandle" ∧ yX9_replySet.cls ≠ "java/lang/invoke/VarHandle" ∧ (parseMethodDescriptor yX9_replySet.desc).map (fun d => d.parameters.length) = some 2) := ⟨tin.of 1 (by decide +kernel) rfl, tin.of 761 (by decide +kernel) rfl, by decide +kernel⟩
theorem ci_X9_replySet : CI yX9_replySet 9 := ⟨tin.of 760 (by decide +kernel) rfl, tin.ofP 55 (by decide +kernel) rfl, TX9, 9, rfl⟩
theorem cl_X9_281 : CL RX9 281 yX9_replySet cX9_replySet 10 (some .int) 2 := ⟨Or.inl (tin.of 758 (by decide +kernel) rfl), mi_X9_replySet⟩
theorem mi_X9_isImage : tin (.initialized yX9_isImage.cls) ∧ tin (.code yX9_isImage cX9_isImage 1 (some .boolean)) ∧ (yX9_isImage.cls ≠ "java/lang/invoke/MethodHandle" ∧ yX9_isImage.cls ≠ "java/lang/invoke/VarHandle" ∧ (parseMethodDescriptor yX9_isImage.desc).map (fun d => d.parameters.length) = some 1) := ⟨tin.of 1 (by decide +kernel) rfl, tin.of 793 (by decide +kernel) rfl, by decide +kernel⟩
theorem st_X9_isImage : tin (.static yX9_isImage) := tin.of 792 (by decide +kernel) rfl
theorem cl_X9_293 : CL RX9 293 yX9_isImage cX9_isImage 1 (some .boolean) 1 := ⟨Or.inl (tin.of 791 (by decide +kernel) rfl), mi_X9_isImage⟩
theorem mi_X0_readAny : tin (.initialized yX0_readAny.cls) ∧ tin (.code yX0_readAny cX0_readAny 4 none) ∧ (yX0_readAny.cls ≠ "java/lang/invoke/MethodHandle" ∧ yX0_readAny.cls ≠ "java/lang/invoke/VarHandle" ∧ (parseMethodDescriptor yX0_readAny.desc).map (fun d => d.parameters.length) = some 3) := ⟨tin.of 3 (by decide +kernel) rfl, tin.of 451 (by decide +kernel) rfl, by decide +kernel⟩
theorem st_X0_readAny : tin (.static yX0_readAny) := tin.of 450 (by decide +kernel) rfl
theorem cl_X0_59 : CL RX0 59 yX0_readAny cX0_readAny 4 none 3 := ⟨Or.inl (tin.of 449 (by decide +kernel) rfl), mi_X0_readAny⟩
theorem mi_X0_readAll : tin (.initialized yX0_readAll.cls) ∧ tin (.code yX0_readAll cX0_readAll 4 none) ∧ (yX0_readAll.cls ≠ "java/lang/invoke/MethodHandle" ∧ yX0_readAll.cls ≠ "java/lang/invoke/VarHandle" ∧ (parseMethodDescriptor yX0_readAll.desc).map (fun d => d.parameters.length) = some 3) := ⟨tin.of 3 (by decide +kernel) rfl, tin.of 454 (by decide +kernel) rfl, by decide +kernel⟩
theorem st_X0_readAll : tin (.static yX0_readAll) := tin.of 453 (by decide +kernel) rfl
theorem cl_X0_66 : CL RX0 66 yX0_readAll cX0_readAll 4 none 3 := ⟨Or.inl (tin.of 452 (by decide +kernel) rfl), mi_X0_readAll⟩
theorem mi_X0_emit : tin (.initialized yX0_emit.cls) ∧ tin (.code yX0_emit cX0_emit 2 none) ∧ (yX0_emit.cls ≠ "java/lang/invoke/MethodHandle" ∧ yX0_emit.cls ≠ "java/lang/invoke/VarHandle" ∧ (parseMethodDescriptor yX0_emit.desc).map (fun d => d.parameters.length) = some 1) := ⟨tin.of 3 (by decide +kernel) rfl, tin.of 471 (by decide +kernel) rfl, by decide +kernel⟩
theorem ci_X0_emit : CI yX0_emit 0 := ⟨tin.of 470 (by decide +kernel) rfl, tin.ofP 22 (by decide +kernel) rfl, TX0, 5, rfl⟩
theorem cl_X0_71 : CL RX0 71 yX0_emit cX0_emit 2 none 1 := ⟨Or.inl (tin.of 468 (by decide +kernel) rfl), mi_X0_emit⟩
theorem mi_X0_readOne : tin (.initialized yX0_readOne.cls) ∧ tin (.code yX0_readOne cX0_readOne 4 none) ∧ (yX0_readOne.cls ≠ "java/lang/invoke/MethodHandle" ∧ yX0_readOne.cls ≠ "java/lang/invoke/VarHandle" ∧ (parseMethodDescriptor yX0_readOne.desc).map (fun d => d.parameters.length) = some 3) := ⟨tin.of 3 (by decide +kernel) rfl, tin.of 457 (by decide +kernel) rfl, by decide +kernel⟩
theorem st_X0_readOne : tin (.static yX0_readOne) := tin.of 456 (by decide +kernel) rfl
theorem cl_X0_74 : CL RX0 74 yX0_readOne cX0_readOne 4 none 3 := ⟨Or.inl (tin.of 455 (by decide +kernel) rfl), mi_X0_readOne⟩
theorem mi_X0_readFact : tin (.initialized yX0_readFact.cls) ∧ tin (.code yX0_readFact cX0_readFact 3 none) ∧ (yX0_readFact.cls ≠ "java/lang/invoke/MethodHandle" ∧ yX0_readFact.cls ≠ "java/lang/invoke/VarHandle" ∧ (parseMethodDescriptor yX0_readFact.desc).map (fun d => d.parameters.length) = some 1) := ⟨tin.of 3 (by decide +kernel) rfl, tin.of 467 (by decide +kernel) rfl, by decide +kernel⟩
theorem ci_X0_readFact : CI yX0_readFact 0 := ⟨tin.of 466 (by decide +kernel) rfl, tin.ofP 21 (by decide +kernel) rfl, TX0, 5, rfl⟩
theorem cl_X0_88 : CL RX0 88 yX0_readFact cX0_readFact 3 none 1 := ⟨Or.inl (tin.of 464 (by decide +kernel) rfl), mi_X0_readFact⟩
theorem mi_X0_wordOf : tin (.initialized yX0_wordOf.cls) ∧ tin (.code yX0_wordOf cX0_wordOf 7 (some .long)) ∧ (yX0_wordOf.cls ≠ "java/lang/invoke/MethodHandle" ∧ yX0_wordOf.cls ≠ "java/lang/invoke/VarHandle" ∧ (parseMethodDescriptor yX0_wordOf.desc).map (fun d => d.parameters.length) = some 1) := ⟨tin.of 3 (by decide +kernel) rfl, tin.of 496 (by decide +kernel) rfl, by decide +kernel⟩
theorem ci_X0_wordOf : CI yX0_wordOf 0 := ⟨tin.of 495 (by decide +kernel) rfl, tin.ofP 27 (by decide +kernel) rfl, TX0, 5, rfl⟩
theorem cl_X0_95 : CL RX0 95 yX0_wordOf cX0_wordOf 7 (some .long) 1 := ⟨Or.inl (tin.of 493 (by decide +kernel) rfl), mi_X0_wordOf⟩
theorem mi_X0_factWord : tin (.initialized yX0_factWord.cls) ∧ tin (.code yX0_factWord cX0_factWord 2 (some .long)) ∧ (yX0_factWord.cls ≠ "java/lang/invoke/MethodHandle" ∧ yX0_factWord.cls ≠ "java/lang/invoke/VarHandle" ∧ (parseMethodDescriptor yX0_factWord.desc).map (fun d => d.parameters.length) = some 2) := ⟨tin.of 3 (by decide +kernel) rfl, tin.of 499 (by decide +kernel) rfl, by decide +kernel⟩
theorem st_X0_factWord : tin (.static yX0_factWord) := tin.of 498 (by decide +kernel) rfl
theorem cl_X0_99 : CL RX0 99 yX0_factWord cX0_factWord 2 (some .long) 2 := ⟨Or.inl (tin.of 497 (by decide +kernel) rfl), mi_X0_factWord⟩
theorem mi_X1_isOwed : tin (.initialized yX1_isOwed.cls) ∧ tin (.code yX1_isOwed cX1_isOwed 3 (some .boolean)) ∧ (yX1_isOwed.cls ≠ "java/lang/invoke/MethodHandle" ∧ yX1_isOwed.cls ≠ "java/lang/invoke/VarHandle" ∧ (parseMethodDescriptor yX1_isOwed.desc).map (fun d => d.parameters.length) = some 2) := ⟨tin.of 6 (by decide +kernel) rfl, tin.of 607 (by decide +kernel) rfl, by decide +kernel⟩
theorem ci_X1_isOwed : CI yX1_isOwed 1 := ⟨tin.of 606 (by decide +kernel) rfl, tin.ofP 37 (by decide +kernel) rfl, TX1, 4, rfl⟩
theorem cl_X1_39 : CL RX1 39 yX1_isOwed cX1_isOwed 3 (some .boolean) 2 := ⟨Or.inl (tin.of 786 (by decide +kernel) rfl), mi_X1_isOwed⟩
theorem mi_X2_free : tin (.initialized yX2_free.cls) ∧ tin (.code yX2_free cX2_free 2 none) ∧ (yX2_free.cls ≠ "java/lang/invoke/MethodHandle" ∧ yX2_free.cls ≠ "java/lang/invoke/VarHandle" ∧ (parseMethodDescriptor yX2_free.desc).map (fun d => d.parameters.length) = some 1) := ⟨tin.of 9 (by decide +kernel) rfl, tin.of 279 (by decide +kernel) rfl, by decide +kernel⟩
theorem ci_X2_free : CI yX2_free 2 := ⟨tin.of 278 (by decide +kernel) rfl, tin.ofP 1 (by decide +kernel) rfl, TX2, 9, rfl⟩
theorem cl_X2_30 : CL RX2 30 yX2_free cX2_free 2 none 1 := ⟨Or.inl (tin.of 276 (by decide +kernel) rfl), mi_X2_free⟩
theorem mi_X2_hear : tin (.initialized yX2_hear.cls) ∧ tin (.code yX2_hear cX2_hear 4 none) ∧ (yX2_hear.cls ≠ "java/lang/invoke/MethodHandle" ∧ yX2_hear.cls ≠ "java/lang/invoke/VarHandle" ∧ (parseMethodDescriptor yX2_hear.desc).map (fun d => d.parameters.length) = some 2) := ⟨tin.of 9 (by decide +kernel) rfl, tin.of 286 (by decide +kernel) rfl, by decide +kernel⟩
theorem ci_X2_hear : CI yX2_hear 2 := ⟨tin.of 285 (by decide +kernel) rfl, tin.ofP 2 (by decide +kernel) rfl, TX2, 9, rfl⟩
theorem cl_X2_51 : CL RX2 51 yX2_hear cX2_hear 4 none 2 := ⟨Or.inl (tin.of 283 (by decide +kernel) rfl), mi_X2_hear⟩
theorem mi_X2_admitSilently : tin (.initialized yX2_admitSilently.cls) ∧ tin (.code yX2_admitSilently cX2_admitSilently 4 (some .int)) ∧ (yX2_admitSilently.cls ≠ "java/lang/invoke/MethodHandle" ∧ yX2_admitSilently.cls ≠ "java/lang/invoke/VarHandle" ∧ (parseMethodDescriptor yX2_admitSilently.desc).map (fun d => d.parameters.length) = some 1) := ⟨tin.of 9 (by decide +kernel) rfl, tin.of 306 (by decide +kernel) rfl, by decide +kernel⟩
theorem ci_X2_admitSilently : CI yX2_admitSilently 2 := ⟨tin.of 305 (by decide +kernel) rfl, tin.ofP 7 (by decide +kernel) rfl, TX2, 9, rfl⟩
theorem cl_X2_55 : CL RX2 55 yX2_admitSilently cX2_admitSilently 4 (some .int) 1 := ⟨Or.inl (tin.of 303 (by decide +kernel) rfl), mi_X2_admitSilently⟩
theorem mi_X2_sumUp : tin (.initialized yX2_sumUp.cls) ∧ tin (.code yX2_sumUp cX2_sumUp 2 none) ∧ (yX2_sumUp.cls ≠ "java/lang/invoke/MethodHandle" ∧ yX2_sumUp.cls ≠ "java/lang/invoke/VarHandle" ∧ (parseMethodDescriptor yX2_sumUp.desc).map (fun d => d.parameters.length) = some 0) := ⟨tin.of 9 (by decide +kernel) rfl, tin.of 310 (by decide +kernel) rfl, by decide +kernel⟩
theorem ci_X2_sumUp : CI yX2_sumUp 2 := ⟨tin.of 309 (by decide +kernel) rfl, tin.ofP 8 (by decide +kernel) rfl, TX2, 9, rfl⟩
theorem cl_X2_59 : CL RX2 59 yX2_sumUp cX2_sumUp 2 none 0 := ⟨Or.inl (tin.of 307 (by decide +kernel) rfl), mi_X2_sumUp⟩
theorem mi_X2_allow : tin (.initialized yX2_allow.cls) ∧ tin (.code yX2_allow cX2_allow 4 (some .boolean)) ∧ (yX2_allow.cls ≠ "java/lang/invoke/MethodHandle" ∧ yX2_allow.cls ≠ "java/lang/invoke/VarHandle" ∧ (parseMethodDescriptor yX2_allow.desc).map (fun d => d.parameters.length) = some 3) := ⟨tin.of 9 (by decide +kernel) rfl, tin.of 290 (by decide +kernel) rfl, by decide +kernel⟩
theorem ci_X2_allow : CI yX2_allow 2 := ⟨tin.of 289 (by decide +kernel) rfl, tin.ofP 3 (by decide +kernel) rfl, TX2, 9, rfl⟩
theorem cl_X2_62 : CL RX2 62 yX2_allow cX2_allow 4 (some .boolean) 3 := ⟨Or.inl (tin.of 287 (by decide +kernel) rfl), mi_X2_allow⟩
theorem mi_X2_apply : tin (.initialized yX2_apply.cls) ∧ tin (.code yX2_apply cX2_apply 4 none) ∧ (yX2_apply.cls ≠ "java/lang/invoke/MethodHandle" ∧ yX2_apply.cls ≠ "java/lang/invoke/VarHandle" ∧ (parseMethodDescriptor yX2_apply.desc).map (fun d => d.parameters.length) = some 3) := ⟨tin.of 9 (by decide +kernel) rfl, tin.of 298 (by decide +kernel) rfl, by decide +kernel⟩
theorem ci_X2_apply : CI yX2_apply 2 := ⟨tin.of 297 (by decide +kernel) rfl, tin.ofP 5 (by decide +kernel) rfl, TX2, 9, rfl⟩
theorem cl_X2_66 : CL RX2 66 yX2_apply cX2_apply 4 none 3 := ⟨Or.inl (tin.of 295 (by decide +kernel) rfl), mi_X2_apply⟩
theorem mi_X2_awaitsAnswerOf : tin (.initialized yX2_awaitsAnswerOf.cls) ∧ tin (.code yX2_awaitsAnswerOf cX2_awaitsAnswerOf 3 (some .boolean)) ∧ (yX2_awaitsAnswerOf.cls ≠ "java/lang/invoke/MethodHandle" ∧ yX2_awaitsAnswerOf.cls ≠ "java/lang/invoke/VarHandle" ∧ (parseMethodDescriptor yX2_awaitsAnswerOf.desc).map (fun d => d.parameters.length) = some 2) := ⟨tin.of 9 (by decide +kernel) rfl, tin.of 294 (by decide +kernel) rfl, by decide +kernel⟩
theorem ci_X2_awaitsAnswerOf : CI yX2_awaitsAnswerOf 2 := ⟨tin.of 293 (by decide +kernel) rfl, tin.ofP 4 (by decide +kernel) rfl, TX2, 9, rfl⟩
theorem cl_X2_70 : CL RX2 70 yX2_awaitsAnswerOf cX2_awaitsAnswerOf 3 (some .boolean) 2 := ⟨Or.inl (tin.of 291 (by decide +kernel) rfl), mi_X2_awaitsAnswerOf⟩
theorem mi_X2_answer : tin (.initialized yX2_answer.cls) ∧ tin (.code yX2_answer cX2_answer 4 none) ∧ (yX2_answer.cls ≠ "java/lang/invoke/MethodHandle" ∧ yX2_answer.cls ≠ "java/lang/invoke/VarHandle" ∧ (parseMethodDescriptor yX2_answer.desc).map (fun d => d.parameters.length) = some 3) := ⟨tin.of 9 (by decide +kernel) rfl, tin.of 302 (by decide +kernel) rfl, by decide +kernel⟩
theorem ci_X2_answer : CI yX2_answer 2 := ⟨tin.of 301 (by decide +kernel) rfl, tin.ofP 6 (by decide +kernel) rfl, TX2, 9, rfl⟩
theorem cl_X2_73 : CL RX2 73 yX2_answer cX2_answer 4 none 3 := ⟨Or.inl (tin.of 299 (by decide +kernel) rfl), mi_X2_answer⟩
theorem mi_X3_readClause : tin (.initialized yX3_readClause.cls) ∧ tin (.code yX3_readClause cX3_readClause 6 none) ∧ (yX3_readClause.cls ≠ "java/lang/invoke/MethodHandle" ∧ yX3_readClause.cls ≠ "java/lang/invoke/VarHandle" ∧ (parseMethodDescriptor yX3_readClause.desc).map (fun d => d.parameters.length) = some 3) := ⟨tin.of 4 (by decide +kernel) rfl, tin.of 523 (by decide +kernel) rfl, by decide +kernel⟩
theorem ci_X3_readClause : CI yX3_readClause 3 := ⟨tin.of 522 (by decide +kernel) rfl, tin.ofP 30 (by decide +kernel) rfl, TX3, 2, rfl⟩
theorem cl_X3_31 : CL RX3 31 yX3_readClause cX3_readClause 6 none 3 := ⟨Or.inl (tin.of 520 (by decide +kernel) rfl), mi_X3_readClause⟩
theorem mi_X3_kindHere : tin (.initialized yX3_kindHere.cls) ∧ tin (.code yX3_kindHere cX3_kindHere 1 (some .int)) ∧ (yX3_kindHere.cls ≠ "java/lang/invoke/MethodHandle" ∧ yX3_kindHere.cls ≠ "java/lang/invoke/VarHandle" ∧ (parseMethodDescriptor yX3_kindHere.desc).map (fun d => d.parameters.length) = some 1) := ⟨tin.of 4 (by decide +kernel) rfl, tin.of 526 (by decide +kernel) rfl, by decide +kernel⟩
theorem st_X3_kindHere : tin (.static yX3_kindHere) := tin.of 525 (by decide +kernel) rfl
theorem cl_X3_35 : CL RX3 35 yX3_kindHere cX3_kindHere 1 (some .int) 1 := ⟨Or.inl (tin.of 524 (by decide +kernel) rfl), mi_X3_kindHere⟩
theorem mi_X3_readItem : tin (.initialized yX3_readItem.cls) ∧ tin (.code yX3_readItem cX3_readItem 7 none) ∧ (yX3_readItem.cls ≠ "java/lang/invoke/MethodHandle" ∧ yX3_readItem.cls ≠ "java/lang/invoke/VarHandle" ∧ (parseMethodDescriptor yX3_readItem.desc).map (fun d => d.parameters.length) = some 4) := ⟨tin.of 4 (by decide +kernel) rfl, tin.of 539 (by decide +kernel) rfl, by decide +kernel⟩
theorem ci_X3_readItem : CI yX3_readItem 3 := ⟨tin.of 538 (by decide +kernel) rfl, tin.ofP 31 (by decide +kernel) rfl, TX3, 2, rfl⟩
theorem cl_X3_50 : CL RX3 50 yX3_readItem cX3_readItem 7 none 4 := ⟨Or.inl (tin.of 536 (by decide +kernel) rfl), mi_X3_readItem⟩
theorem mi_X4_lastDay : tin (.initialized yX4_lastDay.cls) ∧ tin (.code yX4_lastDay cX4_lastDay 1 (some .int)) ∧ (yX4_lastDay.cls ≠ "java/lang/invoke/MethodHandle" ∧ yX4_lastDay.cls ≠ "java/lang/invoke/VarHandle" ∧ (parseMethodDescriptor yX4_lastDay.desc).map (fun d => d.parameters.length) = some 0) := ⟨tin.of 7 (by decide +kernel) rfl, tin.of 512 (by decide +kernel) rfl, by decide +kernel⟩
theorem ci_X4_lastDay : CI yX4_lastDay 4 := ⟨tin.of 511 (by decide +kernel) rfl, tin.ofP 28 (by decide +kernel) rfl, TX4, 4, rfl⟩
theorem cl_X4_25 : CL RX4 25 yX4_lastDay cX4_lastDay 1 (some .int) 0 := ⟨Or.inl (tin.of 553 (by decide +kernel) rfl), mi_X4_lastDay⟩
theorem mi_X6_cutBy : tin (.initialized yX6_cutBy.cls) ∧ tin (.code yX6_cutBy cX6_cutBy 7 none) ∧ (yX6_cutBy.cls ≠ "java/lang/invoke/MethodHandle" ∧ yX6_cutBy.cls ≠ "java/lang/invoke/VarHandle" ∧ (parseMethodDescriptor yX6_cutBy.desc).map (fun d => d.parameters.length) = some 4) := ⟨tin.of 10 (by decide +kernel) rfl, tin.of 706 (by decide +kernel) rfl, by decide +kernel⟩
theorem ci_X6_cutBy : CI yX6_cutBy 6 := ⟨tin.of 705 (by decide +kernel) rfl, tin.ofP 48 (by decide +kernel) rfl, TX6, 2, rfl⟩
theorem cl_X6_18 : CL RX6 18 yX6_cutBy cX6_cutBy 7 none 4 := ⟨Or.inl (tin.of 703 (by decide +kernel) rfl), mi_X6_cutBy⟩
theorem mi_X6_weighFacts : tin (.initialized yX6_weighFacts.cls) ∧ tin (.code yX6_weighFacts cX6_weighFacts 5 none) ∧ (yX6_weighFacts.cls ≠ "java/lang/invoke/MethodHandle" ∧ yX6_weighFacts.cls ≠ "java/lang/invoke/VarHandle" ∧ (parseMethodDescriptor yX6_weighFacts.desc).map (fun d => d.parameters.length) = some 3) := ⟨tin.of 10 (by decide +kernel) rfl, tin.of 702 (by decide +kernel) rfl, by decide +kernel⟩
theorem ci_X6_weighFacts : CI yX6_weighFacts 6 := ⟨tin.of 701 (by decide +kernel) rfl, tin.ofP 47 (by decide +kernel) rfl, TX6, 2, rfl⟩
theorem cl_X6_57 : CL RX6 57 yX6_weighFacts cX6_weighFacts 5 none 3 := ⟨Or.inl (tin.of 718 (by decide +kernel) rfl), mi_X6_weighFacts⟩
theorem mi_X6_spread : tin (.initialized yX6_spread.cls) ∧ tin (.code yX6_spread cX6_spread 9 none) ∧ (yX6_spread.cls ≠ "java/lang/invoke/MethodHandle" ∧ yX6_spread.cls ≠ "java/lang/invoke/VarHandle" ∧ (parseMethodDescriptor yX6_spread.desc).map (fun d => d.parameters.length) = some 6) := ⟨tin.of 10 (by decide +kernel) rfl, tin.of 722 (by decide +kernel) rfl, by decide +kernel⟩
theorem st_X6_spread : tin (.static yX6_spread) := tin.of 721 (by decide +kernel) rfl
theorem cl_X6_66 : CL RX6 66 yX6_spread cX6_spread 9 none 6 := ⟨Or.inl (tin.of 720 (by decide +kernel) rfl), mi_X6_spread⟩
theorem mi_X8_next : tin (.initialized yX8_next.cls) ∧ tin (.code yX8_next cX8_next 1 none) ∧ (yX8_next.cls ≠ "java/lang/invoke/MethodHandle" ∧ yX8_next.cls ≠ "java/lang/invoke/VarHandle" ∧ (parseMethodDescriptor yX8_next.desc).map (fun d => d.parameters.length) = some 0) := ⟨tin.of 2 (by decide +kernel) rfl, tin.of 366 (by decide +kernel) rfl, by decide +kernel⟩
theorem ci_X8_next : CI yX8_next 8 := ⟨tin.of 365 (by decide +kernel) rfl, tin.ofP 12 (by decide +kernel) rfl, TX8, 7, rfl⟩
theorem cl_X8_28 : CL RX8 28 yX8_next cX8_next 1 none 0 := ⟨Or.inl (tin.of 363 (by decide +kernel) rfl), mi_X8_next⟩
theorem mi_X8_isLetterAt : tin (.initialized yX8_isLetterAt.cls) ∧ tin (.code yX8_isLetterAt cX8_isLetterAt 2 (some .boolean)) ∧ (yX8_isLetterAt.cls ≠ "java/lang/invoke/MethodHandle" ∧ yX8_isLetterAt.cls ≠ "java/lang/invoke/VarHandle" ∧ (parseMethodDescriptor yX8_isLetterAt.desc).map (fun d => d.parameters.length) = some 1) := ⟨tin.of 2 (by decide +kernel) rfl, tin.of 370 (by decide +kernel) rfl, by decide +kernel⟩
theorem ci_X8_isLetterAt : CI yX8_isLetterAt 8 := ⟨tin.of 369 (by decide +kernel) rfl, tin.ofP 13 (by decide +kernel) rfl, TX8, 7, rfl⟩
theorem cl_X8_37 : CL RX8 37 yX8_isLetterAt cX8_isLetterAt 2 (some .boolean) 1 := ⟨Or.inl (tin.of 367 (by decide +kernel) rfl), mi_X8_isLetterAt⟩
theorem mi_X8_isFigureAt : tin (.initialized yX8_isFigureAt.cls) ∧ tin (.code yX8_isFigureAt cX8_isFigureAt 2 (some .boolean)) ∧ (yX8_isFigureAt.cls ≠ "java/lang/invoke/MethodHandle" ∧ yX8_isFigureAt.cls ≠ "java/lang/invoke/VarHandle" ∧ (parseMethodDescriptor yX8_isFigureAt.desc).map (fun d => d.parameters.length) = some 1) := ⟨tin.of 2 (by decide +kernel) rfl, tin.of 374 (by decide +kernel) rfl, by decide +kernel⟩
theorem ci_X8_isFigureAt : CI yX8_isFigureAt 8 := ⟨tin.of 373 (by decide +kernel) rfl, tin.ofP 14 (by decide +kernel) rfl, TX8, 7, rfl⟩
theorem cl_X8_41 : CL RX8 41 yX8_isFigureAt cX8_isFigureAt 2 (some .boolean) 1 := ⟨Or.inl (tin.of 371 (by decide +kernel) rfl), mi_X8_isFigureAt⟩
theorem mi_J0_length_8abf5 : tin (.initialized yJ0_length_8abf5.cls) ∧ tin (.code yJ0_length_8abf5 cJ0_length_8abf5 1 (some .int)) ∧ (yJ0_length_8abf5.cls ≠ "java/lang/invoke/MethodHandle" ∧ yJ0_length_8abf5.cls ≠ "java/lang/invoke/VarHandle" ∧ (parseMethodDescriptor yJ0_length_8abf5.desc).map (fun d => d.parameters.length) = some 0) := ⟨tin.of 12 (by decide +kernel) rfl, tin.of 391 (by decide +kernel) rfl, by decide +kernel⟩
theorem ji_J0_length_8abf5 : tin (.instanceMethod yJ0_length_8abf5) ∧ tin (.selects yJ0_length_8abf5.cls yJ0_length_8abf5 yJ0_length_8abf5) := ⟨tin.of 389 (by decide +kernel) rfl, tin.of 390 (by decide +kernel) rfl⟩
theorem cl_X8_44 : CL RX8 44 yJ0_length_8abf5 cJ0_length_8abf5 1 (some .int) 0 := ⟨Or.inl (tin.of 388 (by decide +kernel) rfl), mi_J0_length_8abf5⟩
theorem mi_J0_charAt_5068e : tin (.initialized yJ0_charAt_5068e.cls) ∧ tin (.code yJ0_charAt_5068e cJ0_charAt_5068e 2 (some .char)) ∧ (yJ0_charAt_5068e.cls ≠ "java/lang/invoke/MethodHandle" ∧ yJ0_charAt_5068e.cls ≠ "java/lang/invoke/VarHandle" ∧ (parseMethodDescriptor yJ0_charAt_5068e.desc).map (fun d => d.parameters.length) = some 1) := ⟨tin.of 12 (by decide +kernel) rfl, tin.of 401 (by decide +kernel) rfl, by decide +kernel⟩
theorem ji_J0_charAt_5068e : tin (.instanceMethod yJ0_charAt_5068e) ∧ tin (.selects yJ0_charAt_5068e.cls yJ0_charAt_5068e yJ0_charAt_5068e) := ⟨tin.of 399 (by decide +kernel) rfl, tin.of 400 (by decide +kernel) rfl⟩
theorem cl_X8_49 : CL RX8 49 yJ0_charAt_5068e cJ0_charAt_5068e 2 (some .char) 1 := ⟨Or.inl (tin.of 398 (by decide +kernel) rfl), mi_J0_charAt_5068e⟩
theorem mi_X8_isSound : tin (.initialized yX8_isSound.cls) ∧ tin (.code yX8_isSound cX8_isSound 1 (some .boolean)) ∧ (yX8_isSound.cls ≠ "java/lang/invoke/MethodHandle" ∧ yX8_isSound.cls ≠ "java/lang/invoke/VarHandle" ∧ (parseMethodDescriptor yX8_isSound.desc).map (fun d => d.parameters.length) = some 0) := ⟨tin.of 2 (by decide +kernel) rfl, tin.of 383 (by decide +kernel) rfl, by decide +kernel⟩
theorem ci_X8_isSound : CI yX8_isSound 8 := ⟨tin.of 382 (by decide +kernel) rfl, tin.ofP 16 (by decide +kernel) rfl, TX8, 7, rfl⟩
theorem cl_X8_53 : CL RX8 53 yX8_isSound cX8_isSound 1 (some .boolean) 0 := ⟨Or.inl (tin.of 380 (by decide +kernel) rfl), mi_X8_isSound⟩
theorem mi_X8_isWord : tin (.initialized yX8_isWord.cls) ∧ tin (.code yX8_isWord cX8_isWord 3 (some .boolean)) ∧ (yX8_isWord.cls ≠ "java/lang/invoke/MethodHandle" ∧ yX8_isWord.cls ≠ "java/lang/invoke/VarHandle" ∧ (parseMethodDescriptor yX8_isWord.desc).map (fun d => d.parameters.length) = some 1) := ⟨tin.of 2 (by decide +kernel) rfl, tin.of 387 (by decide +kernel) rfl, by decide +kernel⟩
theorem ci_X8_isWord : CI yX8_isWord 8 := ⟨tin.of 386 (by decide +kernel) rfl, tin.ofP 17 (by decide +kernel) rfl, TX8, 7, rfl⟩
theorem cl_X8_57 : CL RX8 57 yX8_isWord cX8_isWord 3 (some .boolean) 1 := ⟨Or.inl (tin.of 384 (by decide +kernel) rfl), mi_X8_isWord⟩
theorem mi_X8_isSign : tin (.initialized yX8_isSign.cls) ∧ tin (.code yX8_isSign cX8_isSign 2 (some .boolean)) ∧ (yX8_isSign.cls ≠ "java/lang/invoke/MethodHandle" ∧ yX8_isSign.cls ≠ "java/lang/invoke/VarHandle" ∧ (parseMethodDescriptor yX8_isSign.desc).map (fun d => d.parameters.length) = some 1) := ⟨tin.of 2 (by decide +kernel) rfl, tin.of 463 (by decide +kernel) rfl, by decide +kernel⟩
theorem ci_X8_isSign : CI yX8_isSign 8 := ⟨tin.of 462 (by decide +kernel) rfl, tin.ofP 20 (by decide +kernel) rfl, TX8, 7, rfl⟩
theorem cl_X8_61 : CL RX8 61 yX8_isSign cX8_isSign 2 (some .boolean) 1 := ⟨Or.inl (tin.of 476 (by decide +kernel) rfl), mi_X8_isSign⟩
theorem mi_X8_fail : tin (.initialized yX8_fail.cls) ∧ tin (.code yX8_fail cX8_fail 2 none) ∧ (yX8_fail.cls ≠ "java/lang/invoke/MethodHandle" ∧ yX8_fail.cls ≠ "java/lang/invoke/VarHandle" ∧ (parseMethodDescriptor yX8_fail.desc).map (fun d => d.parameters.length) = some 1) := ⟨tin.of 2 (by decide +kernel) rfl, tin.of 440 (by decide +kernel) rfl, by decide +kernel⟩
theorem ci_X8_fail : CI yX8_fail 8 := ⟨tin.of 439 (by decide +kernel) rfl, tin.ofP 18 (by decide +kernel) rfl, TX8, 7, rfl⟩
theorem cl_X8_65 : CL RX8 65 yX8_fail cX8_fail 2 none 1 := ⟨Or.inl (tin.of 445 (by decide +kernel) rfl), mi_X8_fail⟩
theorem mi_X9_init : tin (.initialized yX9_init.cls) ∧ tin (.code yX9_init cX9_init 1 none) ∧ (yX9_init.cls ≠ "java/lang/invoke/MethodHandle" ∧ yX9_init.cls ≠ "java/lang/invoke/VarHandle" ∧ (parseMethodDescriptor yX9_init.desc).map (fun d => d.parameters.length) = some 0) := ⟨tin.of 1 (by decide +kernel) rfl, tin.of 22 (by decide +kernel) rfl, by decide +kernel⟩
theorem ii_X9_init : tin (.instanceMethod yX9_init) := tin.of 21 (by decide +kernel) rfl
theorem cl_L_9 : CL RL 9 yX9_init cX9_init 1 none 0 := ⟨Or.inl (tin.of 20 (by decide +kernel) rfl), mi_X9_init⟩
theorem mi_X10_init : tin (.initialized yX10_init.cls) ∧ tin (.code yX10_init cX10_init 1 none) ∧ (yX10_init.cls ≠ "java/lang/invoke/MethodHandle" ∧ yX10_init.cls ≠ "java/lang/invoke/VarHandle" ∧ (parseMethodDescriptor yX10_init.desc).map (fun d => d.parameters.length) = some 0) := ⟨tin.of 11 (by decide +kernel) rfl, tin.of 820 (by decide +kernel) rfl, by decide +kernel⟩
theorem ii_X10_init : tin (.instanceMethod yX10_init) := tin.of 819 (by decide +kernel) rfl
theorem cl_L_12 : CL RL 12 yX10_init cX10_init 1 none 0 := ⟨Or.inl (tin.of 818 (by decide +kernel) rfl), mi_X10_init⟩
theorem mi_X9_feed : tin (.initialized yX9_feed.cls) ∧ tin (.code yX9_feed cX9_feed 5 (some .int)) ∧ (yX9_feed.cls ≠ "java/lang/invoke/MethodHandle" ∧ yX9_feed.cls ≠ "java/lang/invoke/VarHandle" ∧ (parseMethodDescriptor yX9_feed.desc).map (fun d => d.parameters.length) = some 2) := ⟨tin.of 1 (by decide +kernel) rfl, tin.of 343 (by decide +kernel) rfl, by decide +kernel⟩
theorem ci_X9_feed : CI yX9_feed 9 := ⟨tin.of 341 (by decide +kernel) rfl, tin.of 342 (by decide +kernel) rfl, TX9, 9, rfl⟩
theorem cl_L_15 : CL RL 15 yX9_feed cX9_feed 5 (some .int) 2 := ⟨Or.inl (tin.of 340 (by decide +kernel) rfl), mi_X9_feed⟩
theorem mi_X10_feed : tin (.initialized yX10_feed.cls) ∧ tin (.code yX10_feed cX10_feed 5 (some .int)) ∧ (yX10_feed.cls ≠ "java/lang/invoke/MethodHandle" ∧ yX10_feed.cls ≠ "java/lang/invoke/VarHandle" ∧ (parseMethodDescriptor yX10_feed.desc).map (fun d => d.parameters.length) = some 2) := ⟨tin.of 11 (by decide +kernel) rfl, tin.of 961 (by decide +kernel) rfl, by decide +kernel⟩
theorem ci_X10_feed : CI yX10_feed 10 := ⟨tin.of 959 (by decide +kernel) rfl, tin.of 960 (by decide +kernel) rfl, TX10, 45, rfl⟩
theorem cl_L_19 : CL RL 19 yX10_feed cX10_feed 5 (some .int) 2 := ⟨Or.inl (tin.of 958 (by decide +kernel) rfl), mi_X10_feed⟩
theorem mi_X9_claim : tin (.initialized yX9_claim.cls) ∧ tin (.code yX9_claim cX9_claim 1 (some .int)) ∧ (yX9_claim.cls ≠ "java/lang/invoke/MethodHandle" ∧ yX9_claim.cls ≠ "java/lang/invoke/VarHandle" ∧ (parseMethodDescriptor yX9_claim.desc).map (fun d => d.parameters.length) = some 0) := ⟨tin.of 1 (by decide +kernel) rfl, tin.of 353 (by decide +kernel) rfl, by decide +kernel⟩
theorem ci_X9_claim : CI yX9_claim 9 := ⟨tin.of 351 (by decide +kernel) rfl, tin.of 352 (by decide +kernel) rfl, TX9, 9, rfl⟩
theorem cl_L_20 : CL RL 20 yX9_claim cX9_claim 1 (some .int) 0 := ⟨Or.inl (tin.of 350 (by decide +kernel) rfl), mi_X9_claim⟩
theorem mi_X10_claim : tin (.initialized yX10_claim.cls) ∧ tin (.code yX10_claim cX10_claim 5 (some .int)) ∧ (yX10_claim.cls ≠ "java/lang/invoke/MethodHandle" ∧ yX10_claim.cls ≠ "java/lang/invoke/VarHandle" ∧ (parseMethodDescriptor yX10_claim.desc).map (fun d => d.parameters.length) = some 0) := ⟨tin.of 11 (by decide +kernel) rfl, tin.of 972 (by decide +kernel) rfl, by decide +kernel⟩
theorem ci_X10_claim : CI yX10_claim 10 := ⟨tin.of 970 (by decide +kernel) rfl, tin.of 971 (by decide +kernel) rfl, TX10, 45, rfl⟩
theorem cl_L_24 : CL RL 24 yX10_claim cX10_claim 5 (some .int) 0 := ⟨Or.inl (tin.of 969 (by decide +kernel) rfl), mi_X10_claim⟩
theorem mi_X9_paper : tin (.initialized yX9_paper.cls) ∧ tin (.code yX9_paper cX9_paper 4 (some .int)) ∧ (yX9_paper.cls ≠ "java/lang/invoke/MethodHandle" ∧ yX9_paper.cls ≠ "java/lang/invoke/VarHandle" ∧ (parseMethodDescriptor yX9_paper.desc).map (fun d => d.parameters.length) = some 1) := ⟨tin.of 1 (by decide +kernel) rfl, tin.of 508 (by decide +kernel) rfl, by decide +kernel⟩
theorem ci_X9_paper : CI yX9_paper 9 := ⟨tin.of 506 (by decide +kernel) rfl, tin.of 507 (by decide +kernel) rfl, TX9, 9, rfl⟩
theorem cl_L_25 : CL RL 25 yX9_paper cX9_paper 4 (some .int) 1 := ⟨Or.inl (tin.of 505 (by decide +kernel) rfl), mi_X9_paper⟩
theorem mi_X10_paper : tin (.initialized yX10_paper.cls) ∧ tin (.code yX10_paper cX10_paper 4 (some .int)) ∧ (yX10_paper.cls ≠ "java/lang/invoke/MethodHandle" ∧ yX10_paper.cls ≠ "java/lang/invoke/VarHandle" ∧ (parseMethodDescriptor yX10_paper.desc).map (fun d => d.parameters.length) = some 1) := ⟨tin.of 11 (by decide +kernel) rfl, tin.of 1046 (by decide +kernel) rfl, by decide +kernel⟩
theorem ci_X10_paper : CI yX10_paper 10 := ⟨tin.of 1044 (by decide +kernel) rfl, tin.of 1045 (by decide +kernel) rfl, TX10, 45, rfl⟩
theorem cl_L_29 : CL RL 29 yX10_paper cX10_paper 4 (some .int) 1 := ⟨Or.inl (tin.of 1043 (by decide +kernel) rfl), mi_X10_paper⟩
theorem mi_X9_fault : tin (.initialized yX9_fault.cls) ∧ tin (.code yX9_fault cX9_fault 1 (some .int)) ∧ (yX9_fault.cls ≠ "java/lang/invoke/MethodHandle" ∧ yX9_fault.cls ≠ "java/lang/invoke/VarHandle" ∧ (parseMethodDescriptor yX9_fault.desc).map (fun d => d.parameters.length) = some 0) := ⟨tin.of 1 (by decide +kernel) rfl, tin.of 560 (by decide +kernel) rfl, by decide +kernel⟩
theorem ci_X9_fault : CI yX9_fault 9 := ⟨tin.of 558 (by decide +kernel) rfl, tin.of 559 (by decide +kernel) rfl, TX9, 9, rfl⟩
theorem cl_L_30 : CL RL 30 yX9_fault cX9_fault 1 (some .int) 0 := ⟨Or.inl (tin.of 557 (by decide +kernel) rfl), mi_X9_fault⟩
theorem mi_X10_fault : tin (.initialized yX10_fault.cls) ∧ tin (.code yX10_fault cX10_fault 1 (some .int)) ∧ (yX10_fault.cls ≠ "java/lang/invoke/MethodHandle" ∧ yX10_fault.cls ≠ "java/lang/invoke/VarHandle" ∧ (parseMethodDescriptor yX10_fault.desc).map (fun d => d.parameters.length) = some 0) := ⟨tin.of 11 (by decide +kernel) rfl, tin.of 1089 (by decide +kernel) rfl, by decide +kernel⟩
theorem ci_X10_fault : CI yX10_fault 10 := ⟨tin.of 1087 (by decide +kernel) rfl, tin.of 1088 (by decide +kernel) rfl, TX10, 45, rfl⟩
theorem cl_L_33 : CL RL 33 yX10_fault cX10_fault 1 (some .int) 0 := ⟨Or.inl (tin.of 1086 (by decide +kernel) rfl), mi_X10_fault⟩
theorem mi_X9_due : tin (.initialized yX9_due.cls) ∧ tin (.code yX9_due cX9_due 3 (some .int)) ∧ (yX9_due.cls ≠ "java/lang/invoke/MethodHandle" ∧ yX9_due.cls ≠ "java/lang/invoke/VarHandle" ∧ (parseMethodDescriptor yX9_due.desc).map (fun d => d.parameters.length) = some 1) := ⟨tin.of 1 (by decide +kernel) rfl, tin.of 564 (by decide +kernel) rfl, by decide +kernel⟩
theorem ci_X9_due : CI yX9_due 9 := ⟨tin.of 562 (by decide +kernel) rfl, tin.of 563 (by decide +kernel) rfl, TX9, 9, rfl⟩
theorem cl_L_34 : CL RL 34 yX9_due cX9_due 3 (some .int) 1 := ⟨Or.inl (tin.of 561 (by decide +kernel) rfl), mi_X9_due⟩
theorem mi_X10_due : tin (.initialized yX10_due.cls) ∧ tin (.code yX10_due cX10_due 3 (some .int)) ∧ (yX10_due.cls ≠ "java/lang/invoke/MethodHandle" ∧ yX10_due.cls ≠ "java/lang/invoke/VarHandle" ∧ (parseMethodDescriptor yX10_due.desc).map (fun d => d.parameters.length) = some 1) := ⟨tin.of 11 (by decide +kernel) rfl, tin.of 1093 (by decide +kernel) rfl, by decide +kernel⟩
theorem ci_X10_due : CI yX10_due 10 := ⟨tin.of 1091 (by decide +kernel) rfl, tin.of 1092 (by decide +kernel) rfl, TX10, 45, rfl⟩
theorem cl_L_37 : CL RL 37 yX10_due cX10_due 3 (some .int) 1 := ⟨Or.inl (tin.of 1090 (by decide +kernel) rfl), mi_X10_due⟩
theorem mi_X9_count : tin (.initialized yX9_count.cls) ∧ tin (.code yX9_count cX9_count 2 (some .int)) ∧ (yX9_count.cls ≠ "java/lang/invoke/MethodHandle" ∧ yX9_count.cls ≠ "java/lang/invoke/VarHandle" ∧ (parseMethodDescriptor yX9_count.desc).map (fun d => d.parameters.length) = some 1) := ⟨tin.of 1 (by decide +kernel) rfl, tin.of 568 (by decide +kernel) rfl, by decide +kernel⟩
theorem ci_X9_count : CI yX9_count 9 := ⟨tin.of 566 (by decide +kernel) rfl, tin.of 567 (by decide +kernel) rfl, TX9, 9, rfl⟩
theorem cl_L_38 : CL RL 38 yX9_count cX9_count 2 (some .int) 1 := ⟨Or.inl (tin.of 565 (by decide +kernel) rfl), mi_X9_count⟩
theorem mi_X10_count : tin (.initialized yX10_count.cls) ∧ tin (.code yX10_count cX10_count 2 (some .int)) ∧ (yX10_count.cls ≠ "java/lang/invoke/MethodHandle" ∧ yX10_count.cls ≠ "java/lang/invoke/VarHandle" ∧ (parseMethodDescriptor yX10_count.desc).map (fun d => d.parameters.length) = some 1) := ⟨tin.of 11 (by decide +kernel) rfl, tin.of 1098 (by decide +kernel) rfl, by decide +kernel⟩
theorem ci_X10_count : CI yX10_count 10 := ⟨tin.of 1096 (by decide +kernel) rfl, tin.of 1097 (by decide +kernel) rfl, TX10, 45, rfl⟩
theorem cl_L_41 : CL RL 41 yX10_count cX10_count 2 (some .int) 1 := ⟨Or.inl (tin.of 1095 (by decide +kernel) rfl), mi_X10_count⟩
theorem mi_X9_fact : tin (.initialized yX9_fact.cls) ∧ tin (.code yX9_fact cX9_fact 3 (some .int)) ∧ (yX9_fact.cls ≠ "java/lang/invoke/MethodHandle" ∧ yX9_fact.cls ≠ "java/lang/invoke/VarHandle" ∧ (parseMethodDescriptor yX9_fact.desc).map (fun d => d.parameters.length) = some 2) := ⟨tin.of 1 (by decide +kernel) rfl, tin.of 576 (by decide +kernel) rfl, by decide +kernel⟩
theorem ci_X9_fact : CI yX9_fact 9 := ⟨tin.of 574 (by decide +kernel) rfl, tin.of 575 (by decide +kernel) rfl, TX9, 9, rfl⟩
theorem cl_L_42 : CL RL 42 yX9_fact cX9_fact 3 (some .int) 2 := ⟨Or.inl (tin.of 573 (by decide +kernel) rfl), mi_X9_fact⟩
theorem mi_X10_fact : tin (.initialized yX10_fact.cls) ∧ tin (.code yX10_fact cX10_fact 3 (some .int)) ∧ (yX10_fact.cls ≠ "java/lang/invoke/MethodHandle" ∧ yX10_fact.cls ≠ "java/lang/invoke/VarHandle" ∧ (parseMethodDescriptor yX10_fact.desc).map (fun d => d.parameters.length) = some 2) := ⟨tin.of 11 (by decide +kernel) rfl, tin.of 1106 (by decide +kernel) rfl, by decide +kernel⟩
theorem ci_X10_fact : CI yX10_fact 10 := ⟨tin.of 1104 (by decide +kernel) rfl, tin.of 1105 (by decide +kernel) rfl, TX10, 45, rfl⟩
theorem cl_L_46 : CL RL 46 yX10_fact cX10_fact 3 (some .int) 2 := ⟨Or.inl (tin.of 1103 (by decide +kernel) rfl), mi_X10_fact⟩
theorem mi_X9_told : tin (.initialized yX9_told.cls) ∧ tin (.code yX9_told cX9_told 3 (some .int)) ∧ (yX9_told.cls ≠ "java/lang/invoke/MethodHandle" ∧ yX9_told.cls ≠ "java/lang/invoke/VarHandle" ∧ (parseMethodDescriptor yX9_told.desc).map (fun d => d.parameters.length) = some 2) := ⟨tin.of 1 (by decide +kernel) rfl, tin.of 582 (by decide +kernel) rfl, by decide +kernel⟩
theorem ci_X9_told : CI yX9_told 9 := ⟨tin.of 580 (by decide +kernel) rfl, tin.of 581 (by decide +kernel) rfl, TX9, 9, rfl⟩
theorem cl_L_47 : CL RL 47 yX9_told cX9_told 3 (some .int) 2 := ⟨Or.inl (tin.of 579 (by decide +kernel) rfl), mi_X9_told⟩
theorem mi_X10_told : tin (.initialized yX10_told.cls) ∧ tin (.code yX10_told cX10_told 3 (some .int)) ∧ (yX10_told.cls ≠ "java/lang/invoke/MethodHandle" ∧ yX10_told.cls ≠ "java/lang/invoke/VarHandle" ∧ (parseMethodDescriptor yX10_told.desc).map (fun d => d.parameters.length) = some 2) := ⟨tin.of 11 (by decide +kernel) rfl, tin.of 1115 (by decide +kernel) rfl, by decide +kernel⟩
theorem ci_X10_told : CI yX10_told 10 := ⟨tin.of 1113 (by decide +kernel) rfl, tin.of 1114 (by decide +kernel) rfl, TX10, 45, rfl⟩
theorem cl_L_50 : CL RL 50 yX10_told cX10_told 3 (some .int) 2 := ⟨Or.inl (tin.of 1112 (by decide +kernel) rfl), mi_X10_told⟩
theorem mi_X9_heard : tin (.initialized yX9_heard.cls) ∧ tin (.code yX9_heard cX9_heard 3 (some .int)) ∧ (yX9_heard.cls ≠ "java/lang/invoke/MethodHandle" ∧ yX9_heard.cls ≠ "java/lang/invoke/VarHandle" ∧ (parseMethodDescriptor yX9_heard.desc).map (fun d => d.parameters.length) = some 2) := ⟨tin.of 1 (by decide +kernel) rfl, tin.of 614 (by decide +kernel) rfl, by decide +kernel⟩
theorem ci_X9_heard : CI yX9_heard 9 := ⟨tin.of 612 (by decide +kernel) rfl, tin.of 613 (by decide +kernel) rfl, TX9, 9, rfl⟩
theorem cl_L_51 : CL RL 51 yX9_heard cX9_heard 3 (some .int) 2 := ⟨Or.inl (tin.of 611 (by decide +kernel) rfl), mi_X9_heard⟩
theorem mi_X10_heard : tin (.initialized yX10_heard.cls) ∧ tin (.code yX10_heard cX10_heard 5 (some .int)) ∧ (yX10_heard.cls ≠ "java/lang/invoke/MethodHandle" ∧ yX10_heard.cls ≠ "java/lang/invoke/VarHandle" ∧ (parseMethodDescriptor yX10_heard.desc).map (fun d => d.parameters.length) = some 2) := ⟨tin.of 11 (by decide +kernel) rfl, tin.of 1155 (by decide +kernel) rfl, by decide +kernel⟩
theorem ci_X10_heard : CI yX10_heard 10 := ⟨tin.of 1153 (by decide +kernel) rfl, tin.of 1154 (by decide +kernel) rfl, TX10, 45, rfl⟩
theorem cl_L_54 : CL RL 54 yX10_heard cX10_heard 5 (some .int) 2 := ⟨Or.inl (tin.of 1152 (by decide +kernel) rfl), mi_X10_heard⟩
theorem mi_X9_strike : tin (.initialized yX9_strike.cls) ∧ tin (.code yX9_strike cX9_strike 1 (some .int)) ∧ (yX9_strike.cls ≠ "java/lang/invoke/MethodHandle" ∧ yX9_strike.cls ≠ "java/lang/invoke/VarHandle" ∧ (parseMethodDescriptor yX9_strike.desc).map (fun d => d.parameters.length) = some 0) := ⟨tin.of 1 (by decide +kernel) rfl, tin.of 627 (by decide +kernel) rfl, by decide +kernel⟩
theorem ci_X9_strike : CI yX9_strike 9 := ⟨tin.of 625 (by decide +kernel) rfl, tin.of 626 (by decide +kernel) rfl, TX9, 9, rfl⟩
theorem cl_L_55 : CL RL 55 yX9_strike cX9_strike 1 (some .int) 0 := ⟨Or.inl (tin.of 624 (by decide +kernel) rfl), mi_X9_strike⟩
theorem mi_X10_strike : tin (.initialized yX10_strike.cls) ∧ tin (.code yX10_strike cX10_strike 1 (some .int)) ∧ (yX10_strike.cls ≠ "java/lang/invoke/MethodHandle" ∧ yX10_strike.cls ≠ "java/lang/invoke/VarHandle" ∧ (parseMethodDescriptor yX10_strike.desc).map (fun d => d.parameters.length) = some 0) := ⟨tin.of 11 (by decide +kernel) rfl, tin.of 1159 (by decide +kernel) rfl, by decide +kernel⟩
theorem ci_X10_strike : CI yX10_strike 10 := ⟨tin.of 1157 (by decide +kernel) rfl, tin.of 1158 (by decide +kernel) rfl, TX10, 45, rfl⟩
theorem cl_L_58 : CL RL 58 yX10_strike cX10_strike 1 (some .int) 0 := ⟨Or.inl (tin.of 1156 (by decide +kernel) rfl), mi_X10_strike⟩
theorem mi_X9_open : tin (.initialized yX9_open.cls) ∧ tin (.code yX9_open cX9_open 1 (some .int)) ∧ (yX9_open.cls ≠ "java/lang/invoke/MethodHandle" ∧ yX9_open.cls ≠ "java/lang/invoke/VarHandle" ∧ (parseMethodDescriptor yX9_open.desc).map (fun d => d.parameters.length) = some 0) := ⟨tin.of 1 (by decide +kernel) rfl, tin.of 631 (by decide +kernel) rfl, by decide +kernel⟩
theorem ci_X9_open : CI yX9_open 9 := ⟨tin.of 629 (by decide +kernel) rfl, tin.of 630 (by decide +kernel) rfl, TX9, 9, rfl⟩
theorem cl_L_59 : CL RL 59 yX9_open cX9_open 1 (some .int) 0 := ⟨Or.inl (tin.of 628 (by decide +kernel) rfl), mi_X9_open⟩
theorem mi_X10_open : tin (.initialized yX10_open.cls) ∧ tin (.code yX10_open cX10_open 1 (some .int)) ∧ (yX10_open.cls ≠ "java/lang/invoke/MethodHandle" ∧ yX10_open.cls ≠ "java/lang/invoke/VarHandle" ∧ (parseMethodDescriptor yX10_open.desc).map (fun d => d.parameters.length) = some 0) := ⟨tin.of 11 (by decide +kernel) rfl, tin.of 1163 (by decide +kernel) rfl, by decide +kernel⟩
theorem ci_X10_open : CI yX10_open 10 := ⟨tin.of 1161 (by decide +kernel) rfl, tin.of 1162 (by decide +kernel) rfl, TX10, 45, rfl⟩
theorem cl_L_62 : CL RL 62 yX10_open cX10_open 1 (some .int) 0 := ⟨Or.inl (tin.of 1160 (by decide +kernel) rfl), mi_X10_open⟩
theorem mi_X9_holds : tin (.initialized yX9_holds.cls) ∧ tin (.code yX9_holds cX9_holds 3 (some .int)) ∧ (yX9_holds.cls ≠ "java/lang/invoke/MethodHandle" ∧ yX9_holds.cls ≠ "java/lang/invoke/VarHandle" ∧ (parseMethodDescriptor yX9_holds.desc).map (fun d => d.parameters.length) = some 2) := ⟨tin.of 1 (by decide +kernel) rfl, tin.of 635 (by decide +kernel) rfl, by decide +kernel⟩
theorem ci_X9_holds : CI yX9_holds 9 := ⟨tin.of 633 (by decide +kernel) rfl, tin.of 634 (by decide +kernel) rfl, TX9, 9, rfl⟩
theorem cl_L_63 : CL RL 63 yX9_holds cX9_holds 3 (some .int) 2 := ⟨Or.inl (tin.of 632 (by decide +kernel) rfl), mi_X9_holds⟩
theorem mi_X10_holds : tin (.initialized yX10_holds.cls) ∧ tin (.code yX10_holds cX10_holds 3 (some .int)) ∧ (yX10_holds.cls ≠ "java/lang/invoke/MethodHandle" ∧ yX10_holds.cls ≠ "java/lang/invoke/VarHandle" ∧ (parseMethodDescriptor yX10_holds.desc).map (fun d => d.parameters.length) = some 2) := ⟨tin.of 11 (by decide +kernel) rfl, tin.of 1167 (by decide +kernel) rfl, by decide +kernel⟩
theorem ci_X10_holds : CI yX10_holds 10 := ⟨tin.of 1165 (by decide +kernel) rfl, tin.of 1166 (by decide +kernel) rfl, TX10, 45, rfl⟩
theorem cl_L_66 : CL RL 66 yX10_holds cX10_holds 3 (some .int) 2 := ⟨Or.inl (tin.of 1164 (by decide +kernel) rfl), mi_X10_holds⟩
theorem mi_X9_turns : tin (.initialized yX9_turns.cls) ∧ tin (.code yX9_turns cX9_turns 4 (some .int)) ∧ (yX9_turns.cls ≠ "java/lang/invoke/MethodHandle" ∧ yX9_turns.cls ≠ "java/lang/invoke/VarHandle" ∧ (parseMethodDescriptor yX9_turns.desc).map (fun d => d.parameters.length) = some 1) := ⟨tin.of 1 (by decide +kernel) rfl, tin.of 639 (by decide +kernel) rfl, by decide +kernel⟩
theorem ci_X9_turns : CI yX9_turns 9 := ⟨tin.of 637 (by decide +kernel) rfl, tin.of 638 (by decide +kernel) rfl, TX9, 9, rfl⟩
theorem cl_L_67 : CL RL 67 yX9_turns cX9_turns 4 (some .int) 1 := ⟨Or.inl (tin.of 636 (by decide +kernel) rfl), mi_X9_turns⟩
theorem mi_X10_turns : tin (.initialized yX10_turns.cls) ∧ tin (.code yX10_turns cX10_turns 6 (some .int)) ∧ (yX10_turns.cls ≠ "java/lang/invoke/MethodHandle" ∧ yX10_turns.cls ≠ "java/lang/invoke/VarHandle" ∧ (parseMethodDescriptor yX10_turns.desc).map (fun d => d.parameters.length) = some 1) := ⟨tin.of 11 (by decide +kernel) rfl, tin.of 1171 (by decide +kernel) rfl, by decide +kernel⟩
theorem ci_X10_turns : CI yX10_turns 10 := ⟨tin.of 1169 (by decide +kernel) rfl, tin.of 1170 (by decide +kernel) rfl, TX10, 45, rfl⟩
theorem cl_L_70 : CL RL 70 yX10_turns cX10_turns 6 (some .int) 1 := ⟨Or.inl (tin.of 1168 (by decide +kernel) rfl), mi_X10_turns⟩
theorem mi_X9_enough : tin (.initialized yX9_enough.cls) ∧ tin (.code yX9_enough cX9_enough 7 (some .int)) ∧ (yX9_enough.cls ≠ "java/lang/invoke/MethodHandle" ∧ yX9_enough.cls ≠ "java/lang/invoke/VarHandle" ∧ (parseMethodDescriptor yX9_enough.desc).map (fun d => d.parameters.length) = some 1) := ⟨tin.of 1 (by decide +kernel) rfl, tin.of 647 (by decide +kernel) rfl, by decide +kernel⟩
theorem ci_X9_enough : CI yX9_enough 9 := ⟨tin.of 645 (by decide +kernel) rfl, tin.of 646 (by decide +kernel) rfl, TX9, 9, rfl⟩
theorem cl_L_71 : CL RL 71 yX9_enough cX9_enough 7 (some .int) 1 := ⟨Or.inl (tin.of 644 (by decide +kernel) rfl), mi_X9_enough⟩
theorem mi_X10_enough : tin (.initialized yX10_enough.cls) ∧ tin (.code yX10_enough cX10_enough 5 (some .int)) ∧ (yX10_enough.cls ≠ "java/lang/invoke/MethodHandle" ∧ yX10_enough.cls ≠ "java/lang/invoke/VarHandle" ∧ (parseMethodDescriptor yX10_enough.desc).map (fun d => d.parameters.length) = some 1) := ⟨tin.of 11 (by decide +kernel) rfl, tin.of 1175 (by decide +kernel) rfl, by decide +kernel⟩
theorem ci_X10_enough : CI yX10_enough 10 := ⟨tin.of 1173 (by decide +kernel) rfl, tin.of 1174 (by decide +kernel) rfl, TX10, 45, rfl⟩
theorem cl_L_74 : CL RL 74 yX10_enough cX10_enough 5 (some .int) 1 := ⟨Or.inl (tin.of 1172 (by decide +kernel) rfl), mi_X10_enough⟩
theorem mi_X9_silence : tin (.initialized yX9_silence.cls) ∧ tin (.code yX9_silence cX9_silence 9 (some .int)) ∧ (yX9_silence.cls ≠ "java/lang/invoke/MethodHandle" ∧ yX9_silence.cls ≠ "java/lang/invoke/VarHandle" ∧ (parseMethodDescriptor yX9_silence.desc).map (fun d => d.parameters.length) = some 2) := ⟨tin.of 1 (by decide +kernel) rfl, tin.of 658 (by decide +kernel) rfl, by decide +kernel⟩
theorem ci_X9_silence : CI yX9_silence 9 := ⟨tin.of 656 (by decide +kernel) rfl, tin.of 657 (by decide +kernel) rfl, TX9, 9, rfl⟩
theorem cl_L_75 : CL RL 75 yX9_silence cX9_silence 9 (some .int) 2 := ⟨Or.inl (tin.of 655 (by decide +kernel) rfl), mi_X9_silence⟩
theorem mi_X10_silence : tin (.initialized yX10_silence.cls) ∧ tin (.code yX10_silence cX10_silence 7 (some .int)) ∧ (yX10_silence.cls ≠ "java/lang/invoke/MethodHandle" ∧ yX10_silence.cls ≠ "java/lang/invoke/VarHandle" ∧ (parseMethodDescriptor yX10_silence.desc).map (fun d => d.parameters.length) = some 2) := ⟨tin.of 11 (by decide +kernel) rfl, tin.of 1186 (by decide +kernel) rfl, by decide +kernel⟩
theorem ci_X10_silence : CI yX10_silence 10 := ⟨tin.of 1184 (by decide +kernel) rfl, tin.of 1185 (by decide +kernel) rfl, TX10, 45, rfl⟩
theorem cl_L_78 : CL RL 78 yX10_silence cX10_silence 7 (some .int) 2 := ⟨Or.inl (tin.of 1183 (by decide +kernel) rfl), mi_X10_silence⟩
theorem mi_X9_proof : tin (.initialized yX9_proof.cls) ∧ tin (.code yX9_proof cX9_proof 5 (some .int)) ∧ (yX9_proof.cls ≠ "java/lang/invoke/MethodHandle" ∧ yX9_proof.cls ≠ "java/lang/invoke/VarHandle" ∧ (parseMethodDescriptor yX9_proof.desc).map (fun d => d.parameters.length) = some 4) := ⟨tin.of 1 (by decide +kernel) rfl, tin.of 673 (by decide +kernel) rfl, by decide +kernel⟩
theorem ci_X9_proof : CI yX9_proof 9 := ⟨tin.of 671 (by decide +kernel) rfl, tin.of 672 (by decide +kernel) rfl, TX9, 9, rfl⟩
theorem cl_L_79 : CL RL 79 yX9_proof cX9_proof 5 (some .int) 4 := ⟨Or.inl (tin.of 670 (by decide +kernel) rfl), mi_X9_proof⟩
theorem mi_X10_proof : tin (.initialized yX10_proof.cls) ∧ tin (.code yX10_proof cX10_proof 6 (some .int)) ∧ (yX10_proof.cls ≠ "java/lang/invoke/MethodHandle" ∧ yX10_proof.cls ≠ "java/lang/invoke/VarHandle" ∧ (parseMethodDescriptor yX10_proof.desc).map (fun d => d.parameters.length) = some 4) := ⟨tin.of 11 (by decide +kernel) rfl, tin.of 1193 (by decide +kernel) rfl, by decide +kernel⟩
theorem ci_X10_proof : CI yX10_proof 10 := ⟨tin.of 1191 (by decide +kernel) rfl, tin.of 1192 (by decide +kernel) rfl, TX10, 45, rfl⟩
theorem cl_L_83 : CL RL 83 yX10_proof cX10_proof 6 (some .int) 4 := ⟨Or.inl (tin.of 1190 (by decide +kernel) rfl), mi_X10_proof⟩
theorem mi_X9_bring : tin (.initialized yX9_bring.cls) ∧ tin (.code yX9_bring cX9_bring 5 (some .int)) ∧ (yX9_bring.cls ≠ "java/lang/invoke/MethodHandle" ∧ yX9_bring.cls ≠ "java/lang/invoke/VarHandle" ∧ (parseMethodDescriptor yX9_bring.desc).map (fun d => d.parameters.length) = some 2) := ⟨tin.of 1 (by decide +kernel) rfl, tin.of 682 (by decide +kernel) rfl, by decide +kernel⟩
theorem ci_X9_bring : CI yX9_bring 9 := ⟨tin.of 680 (by decide +kernel) rfl, tin.of 681 (by decide +kernel) rfl, TX9, 9, rfl⟩
theorem cl_L_84 : CL RL 84 yX9_bring cX9_bring 5 (some .int) 2 := ⟨Or.inl (tin.of 679 (by decide +kernel) rfl), mi_X9_bring⟩
theorem mi_X10_bring : tin (.initialized yX10_bring.cls) ∧ tin (.code yX10_bring cX10_bring 4 (some .int)) ∧ (yX10_bring.cls ≠ "java/lang/invoke/MethodHandle" ∧ yX10_bring.cls ≠ "java/lang/invoke/VarHandle" ∧ (parseMethodDescriptor yX10_bring.desc).map (fun d => d.parameters.length) = some 2) := ⟨tin.of 11 (by decide +kernel) rfl, tin.of 1198 (by decide +kernel) rfl, by decide +kernel⟩
theorem ci_X10_bring : CI yX10_bring 10 := ⟨tin.of 1196 (by decide +kernel) rfl, tin.of 1197 (by decide +kernel) rfl, TX10, 45, rfl⟩
theorem cl_L_88 : CL RL 88 yX10_bring cX10_bring 4 (some .int) 2 := ⟨Or.inl (tin.of 1195 (by decide +kernel) rfl), mi_X10_bring⟩
theorem mi_X9_proved : tin (.initialized yX9_proved.cls) ∧ tin (.code yX9_proved cX9_proved 4 (some .int)) ∧ (yX9_proved.cls ≠ "java/lang/invoke/MethodHandle" ∧ yX9_proved.cls ≠ "java/lang/invoke/VarHandle" ∧ (parseMethodDescriptor yX9_proved.desc).map (fun d => d.parameters.length) = some 2) := ⟨tin.of 1 (by decide +kernel) rfl, tin.of 690 (by decide +kernel) rfl, by decide +kernel⟩
theorem ci_X9_proved : CI yX9_proved 9 := ⟨tin.of 688 (by decide +kernel) rfl, tin.of 689 (by decide +kernel) rfl, TX9, 9, rfl⟩
theorem cl_L_89 : CL RL 89 yX9_proved cX9_proved 4 (some .int) 2 := ⟨Or.inl (tin.of 687 (by decide +kernel) rfl), mi_X9_proved⟩
theorem mi_X10_proved : tin (.initialized yX10_proved.cls) ∧ tin (.code yX10_proved cX10_proved 3 (some .int)) ∧ (yX10_proved.cls ≠ "java/lang/invoke/MethodHandle" ∧ yX10_proved.cls ≠ "java/lang/invoke/VarHandle" ∧ (parseMethodDescriptor yX10_proved.desc).map (fun d => d.parameters.length) = some 2) := ⟨tin.of 11 (by decide +kernel) rfl, tin.of 1206 (by decide +kernel) rfl, by decide +kernel⟩
theorem ci_X10_proved : CI yX10_proved 10 := ⟨tin.of 1204 (by decide +kernel) rfl, tin.of 1205 (by decide +kernel) rfl, TX10, 45, rfl⟩
theorem cl_L_92 : CL RL 92 yX10_proved cX10_proved 3 (some .int) 2 := ⟨Or.inl (tin.of 1203 (by decide +kernel) rfl), mi_X10_proved⟩
theorem mi_X9_likely : tin (.initialized yX9_likely.cls) ∧ tin (.code yX9_likely cX9_likely 2 (some .int)) ∧ (yX9_likely.cls ≠ "java/lang/invoke/MethodHandle" ∧ yX9_likely.cls ≠ "java/lang/invoke/VarHandle" ∧ (parseMethodDescriptor yX9_likely.desc).map (fun d => d.parameters.length) = some 1) := ⟨tin.of 1 (by decide +kernel) rfl, tin.of 698 (by decide +kernel) rfl, by decide +kernel⟩
theorem ci_X9_likely : CI yX9_likely 9 := ⟨tin.of 696 (by decide +kernel) rfl, tin.of 697 (by decide +kernel) rfl, TX9, 9, rfl⟩
theorem cl_L_93 : CL RL 93 yX9_likely cX9_likely 2 (some .int) 1 := ⟨Or.inl (tin.of 695 (by decide +kernel) rfl), mi_X9_likely⟩
theorem mi_X10_likely : tin (.initialized yX10_likely.cls) ∧ tin (.code yX10_likely cX10_likely 2 (some .int)) ∧ (yX10_likely.cls ≠ "java/lang/invoke/MethodHandle" ∧ yX10_likely.cls ≠ "java/lang/invoke/VarHandle" ∧ (parseMethodDescriptor yX10_likely.desc).map (fun d => d.parameters.length) = some 1) := ⟨tin.of 11 (by decide +kernel) rfl, tin.of 1214 (by decide +kernel) rfl, by decide +kernel⟩
theorem ci_X10_likely : CI yX10_likely 10 := ⟨tin.of 1212 (by decide +kernel) rfl, tin.of 1213 (by decide +kernel) rfl, TX10, 45, rfl⟩
theorem cl_L_96 : CL RL 96 yX10_likely cX10_likely 2 (some .int) 1 := ⟨Or.inl (tin.of 1211 (by decide +kernel) rfl), mi_X10_likely⟩
theorem mi_X9_chance : tin (.initialized yX9_chance.cls) ∧ tin (.code yX9_chance cX9_chance 2 (some .int)) ∧ (yX9_chance.cls ≠ "java/lang/invoke/MethodHandle" ∧ yX9_chance.cls ≠ "java/lang/invoke/VarHandle" ∧ (parseMethodDescriptor yX9_chance.desc).map (fun d => d.parameters.length) = some 1) := ⟨tin.of 1 (by decide +kernel) rfl, tin.of 713 (by decide +kernel) rfl, by decide +kernel⟩
theorem ci_X9_chance : CI yX9_chance 9 := ⟨tin.of 711 (by decide +kernel) rfl, tin.of 712 (by decide +kernel) rfl, TX9, 9, rfl⟩
theorem cl_L_97 : CL RL 97 yX9_chance cX9_chance 2 (some .int) 1 := ⟨Or.inl (tin.of 710 (by decide +kernel) rfl), mi_X9_chance⟩
theorem mi_X10_chance : tin (.initialized yX10_chance.cls) ∧ tin (.code yX10_chance cX10_chance 2 (some .int)) ∧ (yX10_chance.cls ≠ "java/lang/invoke/MethodHandle" ∧ yX10_chance.cls ≠ "java/lang/invoke/VarHandle" ∧ (parseMethodDescriptor yX10_chance.desc).map (fun d => d.parameters.length) = some 1) := ⟨tin.of 11 (by decide +kernel) rfl, tin.of 1222 (by decide +kernel) rfl, by decide +kernel⟩
theorem ci_X10_chance : CI yX10_chance 10 := ⟨tin.of 1220 (by decide +kernel) rfl, tin.of 1221 (by decide +kernel) rfl, TX10, 45, rfl⟩
theorem cl_L_100 : CL RL 100 yX10_chance cX10_chance 2 (some .int) 1 := ⟨Or.inl (tin.of 1219 (by decide +kernel) rfl), mi_X10_chance⟩
theorem mi_X9_worth : tin (.initialized yX9_worth.cls) ∧ tin (.code yX9_worth cX9_worth 2 (some .int)) ∧ (yX9_worth.cls ≠ "java/lang/invoke/MethodHandle" ∧ yX9_worth.cls ≠ "java/lang/invoke/VarHandle" ∧ (parseMethodDescriptor yX9_worth.desc).map (fun d => d.parameters.length) = some 1) := ⟨tin.of 1 (by decide +kernel) rfl, tin.of 728 (by decide +kernel) rfl, by decide +kernel⟩
theorem ci_X9_worth : CI yX9_worth 9 := ⟨tin.of 726 (by decide +kernel) rfl, tin.of 727 (by decide +kernel) rfl, TX9, 9, rfl⟩
theorem cl_L_101 : CL RL 101 yX9_worth cX9_worth 2 (some .int) 1 := ⟨Or.inl (tin.of 725 (by decide +kernel) rfl), mi_X9_worth⟩
theorem mi_X10_worth : tin (.initialized yX10_worth.cls) ∧ tin (.code yX10_worth cX10_worth 2 (some .int)) ∧ (yX10_worth.cls ≠ "java/lang/invoke/MethodHandle" ∧ yX10_worth.cls ≠ "java/lang/invoke/VarHandle" ∧ (parseMethodDescriptor yX10_worth.desc).map (fun d => d.parameters.length) = some 1) := ⟨tin.of 11 (by decide +kernel) rfl, tin.of 1235 (by decide +kernel) rfl, by decide +kernel⟩
theorem ci_X10_worth : CI yX10_worth 10 := ⟨tin.of 1233 (by decide +kernel) rfl, tin.of 1234 (by decide +kernel) rfl, TX10, 45, rfl⟩
theorem cl_L_104 : CL RL 104 yX10_worth cX10_worth 2 (some .int) 1 := ⟨Or.inl (tin.of 1232 (by decide +kernel) rfl), mi_X10_worth⟩
theorem mi_X9_best : tin (.initialized yX9_best.cls) ∧ tin (.code yX9_best cX9_best 5 (some .int)) ∧ (yX9_best.cls ≠ "java/lang/invoke/MethodHandle" ∧ yX9_best.cls ≠ "java/lang/invoke/VarHandle" ∧ (parseMethodDescriptor yX9_best.desc).map (fun d => d.parameters.length) = some 3) := ⟨tin.of 1 (by decide +kernel) rfl, tin.of 741 (by decide +kernel) rfl, by decide +kernel⟩
theorem ci_X9_best : CI yX9_best 9 := ⟨tin.of 739 (by decide +kernel) rfl, tin.of 740 (by decide +kernel) rfl, TX9, 9, rfl⟩
theorem cl_L_105 : CL RL 105 yX9_best cX9_best 5 (some .int) 3 := ⟨Or.inl (tin.of 738 (by decide +kernel) rfl), mi_X9_best⟩
theorem mi_X10_best : tin (.initialized yX10_best.cls) ∧ tin (.code yX10_best cX10_best 11 (some .int)) ∧ (yX10_best.cls ≠ "java/lang/invoke/MethodHandle" ∧ yX10_best.cls ≠ "java/lang/invoke/VarHandle" ∧ (parseMethodDescriptor yX10_best.desc).map (fun d => d.parameters.length) = some 3) := ⟨tin.of 11 (by decide +kernel) rfl, tin.of 1247 (by decide +kernel) rfl, by decide +kernel⟩
theorem ci_X10_best : CI yX10_best 10 := ⟨tin.of 1245 (by decide +kernel) rfl, tin.of 1246 (by decide +kernel) rfl, TX10, 45, rfl⟩
theorem cl_L_109 : CL RL 109 yX10_best cX10_best 11 (some .int) 3 := ⟨Or.inl (tin.of 1244 (by decide +kernel) rfl), mi_X10_best⟩
theorem mi_X9_game : tin (.initialized yX9_game.cls) ∧ tin (.code yX9_game cX9_game 5 (some .int)) ∧ (yX9_game.cls ≠ "java/lang/invoke/MethodHandle" ∧ yX9_game.cls ≠ "java/lang/invoke/VarHandle" ∧ (parseMethodDescriptor yX9_game.desc).map (fun d => d.parameters.length) = some 2) := ⟨tin.of 1 (by decide +kernel) rfl, tin.of 753 (by decide +kernel) rfl, by decide +kernel⟩
theorem ci_X9_game : CI yX9_game 9 := ⟨tin.of 751 (by decide +kernel) rfl, tin.of 752 (by decide +kernel) rfl, TX9, 9, rfl⟩
theorem cl_L_110 : CL RL 110 yX9_game cX9_game 5 (some .int) 2 := ⟨Or.inl (tin.of 750 (by decide +kernel) rfl), mi_X9_game⟩
theorem mi_X10_game : tin (.initialized yX10_game.cls) ∧ tin (.code yX10_game cX10_game 10 (some .int)) ∧ (yX10_game.cls ≠ "java/lang/invoke/MethodHandle" ∧ yX10_game.cls ≠ "java/lang/invoke/VarHandle" ∧ (parseMethodDescriptor yX10_game.desc).map (fun d => d.parameters.length) = some 2) := ⟨tin.of 11 (by decide +kernel) rfl, tin.of 1265 (by decide +kernel) rfl, by decide +kernel⟩
theorem ci_X10_game : CI yX10_game 10 := ⟨tin.of 1263 (by decide +kernel) rfl, tin.of 1264 (by decide +kernel) rfl, TX10, 45, rfl⟩
theorem cl_L_113 : CL RL 113 yX10_game cX10_game 10 (some .int) 2 := ⟨Or.inl (tin.of 1262 (by decide +kernel) rfl), mi_X10_game⟩
theorem mi_X9_without : tin (.initialized yX9_without.cls) ∧ tin (.code yX9_without cX9_without 2 (some .int)) ∧ (yX9_without.cls ≠ "java/lang/invoke/MethodHandle" ∧ yX9_without.cls ≠ "java/lang/invoke/VarHandle" ∧ (parseMethodDescriptor yX9_without.desc).map (fun d => d.parameters.length) = some 1) := ⟨tin.of 1 (by decide +kernel) rfl, tin.of 765 (by decide +kernel) rfl, by decide +kernel⟩
theorem ci_X9_without : CI yX9_without 9 := ⟨tin.of 763 (by decide +kernel) rfl, tin.of 764 (by decide +kernel) rfl, TX9, 9, rfl⟩
theorem cl_L_114 : CL RL 114 yX9_without cX9_without 2 (some .int) 1 := ⟨Or.inl (tin.of 762 (by decide +kernel) rfl), mi_X9_without⟩
theorem mi_X10_without : tin (.initialized yX10_without.cls) ∧ tin (.code yX10_without cX10_without 2 (some .int)) ∧ (yX10_without.cls ≠ "java/lang/invoke/MethodHandle" ∧ yX10_without.cls ≠ "java/lang/invoke/VarHandle" ∧ (parseMethodDescriptor yX10_without.desc).map (fun d => d.parameters.length) = some 1) := ⟨tin.of 11 (by decide +kernel) rfl, tin.of 1273 (by decide +kernel) rfl, by decide +kernel⟩
theorem ci_X10_without : CI yX10_without 10 := ⟨tin.of 1271 (by decide +kernel) rfl, tin.of 1272 (by decide +kernel) rfl, TX10, 45, rfl⟩
theorem cl_L_117 : CL RL 117 yX10_without cX10_without 2 (some .int) 1 := ⟨Or.inl (tin.of 1270 (by decide +kernel) rfl), mi_X10_without⟩
theorem mi_X9_seed : tin (.initialized yX9_seed.cls) ∧ tin (.code yX9_seed cX9_seed 3 (some .int)) ∧ (yX9_seed.cls ≠ "java/lang/invoke/MethodHandle" ∧ yX9_seed.cls ≠ "java/lang/invoke/VarHandle" ∧ (parseMethodDescriptor yX9_seed.desc).map (fun d => d.parameters.length) = some 1) := ⟨tin.of 1 (by decide +kernel) rfl, tin.of 769 (by decide +kernel) rfl, by decide +kernel⟩
theorem ci_X9_seed : CI yX9_seed 9 := ⟨tin.of 767 (by decide +kernel) rfl, tin.of 768 (by decide +kernel) rfl, TX9, 9, rfl⟩
theorem cl_L_118 : CL RL 118 yX9_seed cX9_seed 3 (some .int) 1 := ⟨Or.inl (tin.of 766 (by decide +kernel) rfl), mi_X9_seed⟩
theorem mi_X10_seed : tin (.initialized yX10_seed.cls) ∧ tin (.code yX10_seed cX10_seed 3 (some .int)) ∧ (yX10_seed.cls ≠ "java/lang/invoke/MethodHandle" ∧ yX10_seed.cls ≠ "java/lang/invoke/VarHandle" ∧ (parseMethodDescriptor yX10_seed.desc).map (fun d => d.parameters.length) = some 1) := ⟨tin.of 11 (by decide +kernel) rfl, tin.of 1277 (by decide +kernel) rfl, by decide +kernel⟩
theorem ci_X10_seed : CI yX10_seed 10 := ⟨tin.of 1275 (by decide +kernel) rfl, tin.of 1276 (by decide +kernel) rfl, TX10, 45, rfl⟩
theorem cl_L_121 : CL RL 121 yX10_seed cX10_seed 3 (some .int) 1 := ⟨Or.inl (tin.of 1274 (by decide +kernel) rfl), mi_X10_seed⟩
theorem mi_X9_trial : tin (.initialized yX9_trial.cls) ∧ tin (.code yX9_trial cX9_trial 3 (some .int)) ∧ (yX9_trial.cls ≠ "java/lang/invoke/MethodHandle" ∧ yX9_trial.cls ≠ "java/lang/invoke/VarHandle" ∧ (parseMethodDescriptor yX9_trial.desc).map (fun d => d.parameters.length) = some 0) := ⟨tin.of 1 (by decide +kernel) rfl, tin.of 773 (by decide +kernel) rfl, by decide +kernel⟩
theorem ci_X9_trial : CI yX9_trial 9 := ⟨tin.of 771 (by decide +kernel) rfl, tin.of 772 (by decide +kernel) rfl, TX9, 9, rfl⟩
theorem cl_L_122 : CL RL 122 yX9_trial cX9_trial 3 (some .int) 0 := ⟨Or.inl (tin.of 770 (by decide +kernel) rfl), mi_X9_trial⟩
theorem mi_X10_trial : tin (.initialized yX10_trial.cls) ∧ tin (.code yX10_trial cX10_trial 6 (some .int)) ∧ (yX10_trial.cls ≠ "java/lang/invoke/MethodHandle" ∧ yX10_trial.cls ≠ "java/lang/invoke/VarHandle" ∧ (parseMethodDescriptor yX10_trial.desc).map (fun d => d.parameters.length) = some 0) := ⟨tin.of 11 (by decide +kernel) rfl, tin.of 1281 (by decide +kernel) rfl, by decide +kernel⟩
theorem ci_X10_trial : CI yX10_trial 10 := ⟨tin.of 1279 (by decide +kernel) rfl, tin.of 1280 (by decide +kernel) rfl, TX10, 45, rfl⟩
theorem cl_L_125 : CL RL 125 yX10_trial cX10_trial 6 (some .int) 0 := ⟨Or.inl (tin.of 1278 (by decide +kernel) rfl), mi_X10_trial⟩
theorem mi_X9_keep : tin (.initialized yX9_keep.cls) ∧ tin (.code yX9_keep cX9_keep 2 (some .int)) ∧ (yX9_keep.cls ≠ "java/lang/invoke/MethodHandle" ∧ yX9_keep.cls ≠ "java/lang/invoke/VarHandle" ∧ (parseMethodDescriptor yX9_keep.desc).map (fun d => d.parameters.length) = some 1) := ⟨tin.of 1 (by decide +kernel) rfl, tin.of 790 (by decide +kernel) rfl, by decide +kernel⟩
theorem ci_X9_keep : CI yX9_keep 9 := ⟨tin.of 788 (by decide +kernel) rfl, tin.of 789 (by decide +kernel) rfl, TX9, 9, rfl⟩
theorem cl_L_126 : CL RL 126 yX9_keep cX9_keep 2 (some .int) 1 := ⟨Or.inl (tin.of 787 (by decide +kernel) rfl), mi_X9_keep⟩
theorem mi_X10_keep : tin (.initialized yX10_keep.cls) ∧ tin (.code yX10_keep cX10_keep 2 (some .int)) ∧ (yX10_keep.cls ≠ "java/lang/invoke/MethodHandle" ∧ yX10_keep.cls ≠ "java/lang/invoke/VarHandle" ∧ (parseMethodDescriptor yX10_keep.desc).map (fun d => d.parameters.length) = some 1) := ⟨tin.of 11 (by decide +kernel) rfl, tin.of 1293 (by decide +kernel) rfl, by decide +kernel⟩
theorem ci_X10_keep : CI yX10_keep 10 := ⟨tin.of 1291 (by decide +kernel) rfl, tin.of 1292 (by decide +kernel) rfl, TX10, 45, rfl⟩
theorem cl_L_129 : CL RL 129 yX10_keep cX10_keep 2 (some .int) 1 := ⟨Or.inl (tin.of 1290 (by decide +kernel) rfl), mi_X10_keep⟩
theorem mi_X9_goBack : tin (.initialized yX9_goBack.cls) ∧ tin (.code yX9_goBack cX9_goBack 2 (some .int)) ∧ (yX9_goBack.cls ≠ "java/lang/invoke/MethodHandle" ∧ yX9_goBack.cls ≠ "java/lang/invoke/VarHandle" ∧ (parseMethodDescriptor yX9_goBack.desc).map (fun d => d.parameters.length) = some 1) := ⟨tin.of 1 (by decide +kernel) rfl, tin.of 815 (by decide +kernel) rfl, by decide +kernel⟩
theorem ci_X9_goBack : CI yX9_goBack 9 := ⟨tin.of 813 (by decide +kernel) rfl, tin.of 814 (by decide +kernel) rfl, TX9, 9, rfl⟩
theorem cl_L_130 : CL RL 130 yX9_goBack cX9_goBack 2 (some .int) 1 := ⟨Or.inl (tin.of 812 (by decide +kernel) rfl), mi_X9_goBack⟩
theorem mi_X10_goBack : tin (.initialized yX10_goBack.cls) ∧ tin (.code yX10_goBack cX10_goBack 2 (some .int)) ∧ (yX10_goBack.cls ≠ "java/lang/invoke/MethodHandle" ∧ yX10_goBack.cls ≠ "java/lang/invoke/VarHandle" ∧ (parseMethodDescriptor yX10_goBack.desc).map (fun d => d.parameters.length) = some 1) := ⟨tin.of 11 (by decide +kernel) rfl, tin.of 1301 (by decide +kernel) rfl, by decide +kernel⟩
theorem ci_X10_goBack : CI yX10_goBack 10 := ⟨tin.of 1299 (by decide +kernel) rfl, tin.of 1300 (by decide +kernel) rfl, TX10, 45, rfl⟩
theorem cl_L_133 : CL RL 133 yX10_goBack cX10_goBack 2 (some .int) 1 := ⟨Or.inl (tin.of 1298 (by decide +kernel) rfl), mi_X10_goBack⟩
theorem mi_X10_one : tin (.initialized yX10_one.cls) ∧ tin (.code yX10_one cX10_one 1 (some .int)) ∧ (yX10_one.cls ≠ "java/lang/invoke/MethodHandle" ∧ yX10_one.cls ≠ "java/lang/invoke/VarHandle" ∧ (parseMethodDescriptor yX10_one.desc).map (fun d => d.parameters.length) = some 1) := ⟨tin.of 11 (by decide +kernel) rfl, tin.of 1070 (by decide +kernel) rfl, by decide +kernel⟩
theorem st_X10_one : tin (.static yX10_one) := tin.of 1069 (by decide +kernel) rfl
theorem cl_X10_109 : CL RX10 109 yX10_one cX10_one 1 (some .int) 1 := ⟨Or.inl (tin.of 1068 (by decide +kernel) rfl), mi_X10_one⟩
theorem mi_X10_free : tin (.initialized yX10_free.cls) ∧ tin (.code yX10_free cX10_free 2 none) ∧ (yX10_free.cls ≠ "java/lang/invoke/MethodHandle" ∧ yX10_free.cls ≠ "java/lang/invoke/VarHandle" ∧ (parseMethodDescriptor yX10_free.desc).map (fun d => d.parameters.length) = some 1) := ⟨tin.of 11 (by decide +kernel) rfl, tin.of 1055 (by decide +kernel) rfl, by decide +kernel⟩
theorem ci_X10_free : CI yX10_free 10 := ⟨tin.of 1054 (by decide +kernel) rfl, tin.ofP 79 (by decide +kernel) rfl, TX10, 45, rfl⟩
theorem cl_X10_113 : CL RX10 113 yX10_free cX10_free 2 none 1 := ⟨Or.inl (tin.of 1052 (by decide +kernel) rfl), mi_X10_free⟩
theorem mi_X10_mayBe : tin (.initialized yX10_mayBe.cls) ∧ tin (.code yX10_mayBe cX10_mayBe 4 (some .boolean)) ∧ (yX10_mayBe.cls ≠ "java/lang/invoke/MethodHandle" ∧ yX10_mayBe.cls ≠ "java/lang/invoke/VarHandle" ∧ (parseMethodDescriptor yX10_mayBe.desc).map (fun d => d.parameters.length) = some 3) := ⟨tin.of 11 (by decide +kernel) rfl, tin.of 1063 (by decide +kernel) rfl, by decide +kernel⟩
theorem ci_X10_mayBe : CI yX10_mayBe 10 := ⟨tin.of 1062 (by decide +kernel) rfl, tin.ofP 81 (by decide +kernel) rfl, TX10, 45, rfl⟩
theorem cl_X10_117 : CL RX10 117 yX10_mayBe cX10_mayBe 4 (some .boolean) 3 := ⟨Or.inl (tin.of 1060 (by decide +kernel) rfl), mi_X10_mayBe⟩
theorem mi_X10_act : tin (.initialized yX10_act.cls) ∧ tin (.code yX10_act cX10_act 4 none) ∧ (yX10_act.cls ≠ "java/lang/invoke/MethodHandle" ∧ yX10_act.cls ≠ "java/lang/invoke/VarHandle" ∧ (parseMethodDescriptor yX10_act.desc).map (fun d => d.parameters.length) = some 3) := ⟨tin.of 11 (by decide +kernel) rfl, tin.of 1067 (by decide +kernel) rfl, by decide +kernel⟩
theorem ci_X10_act : CI yX10_act 10 := ⟨tin.of 1066 (by decide +kernel) rfl, tin.ofP 82 (by decide +kernel) rfl, TX10, 45, rfl⟩
theorem cl_X10_121 : CL RX10 121 yX10_act cX10_act 4 none 3 := ⟨Or.inl (tin.of 1064 (by decide +kernel) rfl), mi_X10_act⟩
theorem mi_X10_hear : tin (.initialized yX10_hear.cls) ∧ tin (.code yX10_hear cX10_hear 5 none) ∧ (yX10_hear.cls ≠ "java/lang/invoke/MethodHandle" ∧ yX10_hear.cls ≠ "java/lang/invoke/VarHandle" ∧ (parseMethodDescriptor yX10_hear.desc).map (fun d => d.parameters.length) = some 2) := ⟨tin.of 11 (by decide +kernel) rfl, tin.of 1059 (by decide +kernel) rfl, by decide +kernel⟩
theorem ci_X10_hear : CI yX10_hear 10 := ⟨tin.of 1058 (by decide +kernel) rfl, tin.ofP 80 (by decide +kernel) rfl, TX10, 45, rfl⟩
theorem cl_X10_125 : CL RX10 125 yX10_hear cX10_hear 5 none 2 := ⟨Or.inl (tin.of 1056 (by decide +kernel) rfl), mi_X10_hear⟩
theorem mi_X10_in : tin (.initialized yX10_in.cls) ∧ tin (.code yX10_in cX10_in 6 (some .boolean)) ∧ (yX10_in.cls ≠ "java/lang/invoke/MethodHandle" ∧ yX10_in.cls ≠ "java/lang/invoke/VarHandle" ∧ (parseMethodDescriptor yX10_in.desc).map (fun d => d.parameters.length) = some 3) := ⟨tin.of 11 (by decide +kernel) rfl, tin.of 965 (by decide +kernel) rfl, by decide +kernel⟩
theorem st_X10_in : tin (.static yX10_in) := tin.of 964 (by decide +kernel) rfl
theorem cl_X10_131 : CL RX10 131 yX10_in cX10_in 6 (some .boolean) 3 := ⟨Or.inl (tin.of 963 (by decide +kernel) rfl), mi_X10_in⟩
theorem mi_X10_here : tin (.initialized yX10_here.cls) ∧ tin (.code yX10_here cX10_here 1 (some .int)) ∧ (yX10_here.cls ≠ "java/lang/invoke/MethodHandle" ∧ yX10_here.cls ≠ "java/lang/invoke/VarHandle" ∧ (parseMethodDescriptor yX10_here.desc).map (fun d => d.parameters.length) = some 0) := ⟨tin.of 11 (by decide +kernel) rfl, tin.of 989 (by decide +kernel) rfl, by decide +kernel⟩
theorem ci_X10_here : CI yX10_here 10 := ⟨tin.of 988 (by decide +kernel) rfl, tin.ofP 65 (by decide +kernel) rfl, TX10, 45, rfl⟩
theorem cl_X10_148 : CL RX10 148 yX10_here cX10_here 1 (some .int) 0 := ⟨Or.inl (tin.of 986 (by decide +kernel) rfl), mi_X10_here⟩
theorem mi_X10_takeWord : tin (.initialized yX10_takeWord.cls) ∧ tin (.code yX10_takeWord cX10_takeWord 2 none) ∧ (yX10_takeWord.cls ≠ "java/lang/invoke/MethodHandle" ∧ yX10_takeWord.cls ≠ "java/lang/invoke/VarHandle" ∧ (parseMethodDescriptor yX10_takeWord.desc).map (fun d => d.parameters.length) = some 0) := ⟨tin.of 11 (by decide +kernel) rfl, tin.of 985 (by decide +kernel) rfl, by decide +kernel⟩
theorem ci_X10_takeWord : CI yX10_takeWord 10 := ⟨tin.of 984 (by decide +kernel) rfl, tin.ofP 64 (by decide +kernel) rfl, TX10, 45, rfl⟩
theorem cl_X10_162 : CL RX10 162 yX10_takeWord cX10_takeWord 2 none 0 := ⟨Or.inl (tin.of 982 (by decide +kernel) rfl), mi_X10_takeWord⟩
theorem mi_X10_isWord : tin (.initialized yX10_isWord.cls) ∧ tin (.code yX10_isWord cX10_isWord 9 (some .boolean)) ∧ (yX10_isWord.cls ≠ "java/lang/invoke/MethodHandle" ∧ yX10_isWord.cls ≠ "java/lang/invoke/VarHandle" ∧ (parseMethodDescriptor yX10_isWord.desc).map (fun d => d.parameters.length) = some 6) := ⟨tin.of 11 (by decide +kernel) rfl, tin.of 995 (by decide +kernel) rfl, by decide +kernel⟩
theorem ci_X10_isWord : CI yX10_isWord 10 := ⟨tin.of 994 (by decide +kernel) rfl, tin.ofP 66 (by decide +kernel) rfl, TX10, 45, rfl⟩
theorem cl_X10_165 : CL RX10 165 yX10_isWord cX10_isWord 9 (some .boolean) 6 := ⟨Or.inl (tin.of 992 (by decide +kernel) rfl), mi_X10_isWord⟩
theorem mi_X10_want : tin (.initialized yX10_want.cls) ∧ tin (.code yX10_want cX10_want 4 (some .boolean)) ∧ (yX10_want.cls ≠ "java/lang/invoke/MethodHandle" ∧ yX10_want.cls ≠ "java/lang/invoke/VarHandle" ∧ (parseMethodDescriptor yX10_want.desc).map (fun d => d.parameters.length) = some 3) := ⟨tin.of 11 (by decide +kernel) rfl, tin.of 999 (by decide +kernel) rfl, by decide +kernel⟩
theorem ci_X10_want : CI yX10_want 10 := ⟨tin.of 998 (by decide +kernel) rfl, tin.ofP 67 (by decide +kernel) rfl, TX10, 45, rfl⟩
theorem cl_X10_173 : CL RX10 173 yX10_want cX10_want 4 (some .boolean) 3 := ⟨Or.inl (tin.of 996 (by decide +kernel) rfl), mi_X10_want⟩
theorem mi_X10_say : tin (.initialized yX10_say.cls) ∧ tin (.code yX10_say cX10_say 2 none) ∧ (yX10_say.cls ≠ "java/lang/invoke/MethodHandle" ∧ yX10_say.cls ≠ "java/lang/invoke/VarHandle" ∧ (parseMethodDescriptor yX10_say.desc).map (fun d => d.parameters.length) = some 1) := ⟨tin.of 11 (by decide +kernel) rfl, tin.of 1026 (by decide +kernel) rfl, by decide +kernel⟩
theorem ci_X10_say : CI yX10_say 10 := ⟨tin.of 1025 (by decide +kernel) rfl, tin.ofP 73 (by decide +kernel) rfl, TX10, 45, rfl⟩
theorem cl_X10_184 : CL RX10 184 yX10_say cX10_say 2 none 1 := ⟨Or.inl (tin.of 1023 (by decide +kernel) rfl), mi_X10_say⟩
theorem mi_X10_isTop : tin (.initialized yX10_isTop.cls) ∧ tin (.code yX10_isTop cX10_isTop 2 (some .boolean)) ∧ (yX10_isTop.cls ≠ "java/lang/invoke/MethodHandle" ∧ yX10_isTop.cls ≠ "java/lang/invoke/VarHandle" ∧ (parseMethodDescriptor yX10_isTop.desc).map (fun d => d.parameters.length) = some 1) := ⟨tin.of 11 (by decide +kernel) rfl, tin.of 1034 (by decide +kernel) rfl, by decide +kernel⟩
theorem ci_X10_isTop : CI yX10_isTop 10 := ⟨tin.of 1033 (by decide +kernel) rfl, tin.ofP 75 (by decide +kernel) rfl, TX10, 45, rfl⟩
theorem cl_X10_187 : CL RX10 187 yX10_isTop cX10_isTop 2 (some .boolean) 1 := ⟨Or.inl (tin.of 1031 (by decide +kernel) rfl), mi_X10_isTop⟩
theorem mi_X10_sayTop : tin (.initialized yX10_sayTop.cls) ∧ tin (.code yX10_sayTop cX10_sayTop 1 none) ∧ (yX10_sayTop.cls ≠ "java/lang/invoke/MethodHandle" ∧ yX10_sayTop.cls ≠ "java/lang/invoke/VarHandle" ∧ (parseMethodDescriptor yX10_sayTop.desc).map (fun d => d.parameters.length) = some 0) := ⟨tin.of 11 (by decide +kernel) rfl, tin.of 1038 (by decide +kernel) rfl, by decide +kernel⟩
theorem ci_X10_sayTop : CI yX10_sayTop 10 := ⟨tin.of 1037 (by decide +kernel) rfl, tin.ofP 76 (by decide +kernel) rfl, TX10, 45, rfl⟩
theorem cl_X10_191 : CL RX10 191 yX10_sayTop cX10_sayTop 1 none 0 := ⟨Or.inl (tin.of 1035 (by decide +kernel) rfl), mi_X10_sayTop⟩
theorem mi_X10_push : tin (.initialized yX10_push.cls) ∧ tin (.code yX10_push cX10_push 2 none) ∧ (yX10_push.cls ≠ "java/lang/invoke/MethodHandle" ∧ yX10_push.cls ≠ "java/lang/invoke/VarHandle" ∧ (parseMethodDescriptor yX10_push.desc).map (fun d => d.parameters.length) = some 1) := ⟨tin.of 11 (by decide +kernel) rfl, tin.of 1018 (by decide +kernel) rfl, by decide +kernel⟩
theorem ci_X10_push : CI yX10_push 10 := ⟨tin.of 1017 (by decide +kernel) rfl, tin.ofP 71 (by decide +kernel) rfl, TX10, 45, rfl⟩
theorem cl_X10_197 : CL RX10 197 yX10_push cX10_push 2 none 1 := ⟨Or.inl (tin.of 1015 (by decide +kernel) rfl), mi_X10_push⟩
theorem mi_X10_isNext : tin (.initialized yX10_isNext.cls) ∧ tin (.code yX10_isNext cX10_isNext 6 (some .boolean)) ∧ (yX10_isNext.cls ≠ "java/lang/invoke/MethodHandle" ∧ yX10_isNext.cls ≠ "java/lang/invoke/VarHandle" ∧ (parseMethodDescriptor yX10_isNext.desc).map (fun d => d.parameters.length) = some 4) := ⟨tin.of 11 (by decide +kernel) rfl, tin.of 1022 (by decide +kernel) rfl, by decide +kernel⟩
theorem ci_X10_isNext : CI yX10_isNext 10 := ⟨tin.of 1021 (by decide +kernel) rfl, tin.ofP 72 (by decide +kernel) rfl, TX10, 45, rfl⟩
theorem cl_X10_200 : CL RX10 200 yX10_isNext cX10_isNext 6 (some .boolean) 4 := ⟨Or.inl (tin.of 1019 (by decide +kernel) rfl), mi_X10_isNext⟩
theorem mi_X10_takeNumber : tin (.initialized yX10_takeNumber.cls) ∧ tin (.code yX10_takeNumber cX10_takeNumber 6 (some .int)) ∧ (yX10_takeNumber.cls ≠ "java/lang/invoke/MethodHandle" ∧ yX10_takeNumber.cls ≠ "java/lang/invoke/VarHandle" ∧ (parseMethodDescriptor yX10_takeNumber.desc).map (fun d => d.parameters.length) = some 2) := ⟨tin.of 11 (by decide +kernel) rfl, tin.of 1003 (by decide +kernel) rfl, by decide +kernel⟩
theorem ci_X10_takeNumber : CI yX10_takeNumber 10 := ⟨tin.of 1002 (by decide +kernel) rfl, tin.ofP 68 (by decide +kernel) rfl, TX10, 45, rfl⟩
theorem cl_X10_204 : CL RX10 204 yX10_takeNumber cX10_takeNumber 6 (some .int) 2 := ⟨Or.inl (tin.of 1000 (by decide +kernel) rfl), mi_X10_takeNumber⟩
theorem mi_X10_closeNots : tin (.initialized yX10_closeNots.cls) ∧ tin (.code yX10_closeNots cX10_closeNots 1 none) ∧ (yX10_closeNots.cls ≠ "java/lang/invoke/MethodHandle" ∧ yX10_closeNots.cls ≠ "java/lang/invoke/VarHandle" ∧ (parseMethodDescriptor yX10_closeNots.desc).map (fun d => d.parameters.length) = some 0) := ⟨tin.of 11 (by decide +kernel) rfl, tin.of 1030 (by decide +kernel) rfl, by decide +kernel⟩
theorem ci_X10_closeNots : CI yX10_closeNots 10 := ⟨tin.of 1029 (by decide +kernel) rfl, tin.ofP 74 (by decide +kernel) rfl, TX10, 45, rfl⟩
theorem cl_X10_208 : CL RX10 208 yX10_closeNots cX10_closeNots 1 none 0 := ⟨Or.inl (tin.of 1027 (by decide +kernel) rfl), mi_X10_closeNots⟩
theorem mi_X10_takeOperand : tin (.initialized yX10_takeOperand.cls) ∧ tin (.code yX10_takeOperand cX10_takeOperand 3 none) ∧ (yX10_takeOperand.cls ≠ "java/lang/invoke/MethodHandle" ∧ yX10_takeOperand.cls ≠ "java/lang/invoke/VarHandle" ∧ (parseMethodDescriptor yX10_takeOperand.desc).map (fun d => d.parameters.length) = some 0) := ⟨tin.of 11 (by decide +kernel) rfl, tin.of 1014 (by decide +kernel) rfl, by decide +kernel⟩
theorem ci_X10_takeOperand : CI yX10_takeOperand 10 := ⟨tin.of 1013 (by decide +kernel) rfl, tin.ofP 70 (by decide +kernel) rfl, TX10, 45, rfl⟩
theorem cl_X10_211 : CL RX10 211 yX10_takeOperand cX10_takeOperand 3 none 0 := ⟨Or.inl (tin.of 1011 (by decide +kernel) rfl), mi_X10_takeOperand⟩
theorem mi_X10_takeJoin : tin (.initialized yX10_takeJoin.cls) ∧ tin (.code yX10_takeJoin cX10_takeJoin 1 (some .boolean)) ∧ (yX10_takeJoin.cls ≠ "java/lang/invoke/MethodHandle" ∧ yX10_takeJoin.cls ≠ "java/lang/invoke/VarHandle" ∧ (parseMethodDescriptor yX10_takeJoin.desc).map (fun d => d.parameters.length) = some 0) := ⟨tin.of 11 (by decide +kernel) rfl, tin.of 1042 (by decide +kernel) rfl, by decide +kernel⟩
theorem ci_X10_takeJoin : CI yX10_takeJoin 10 := ⟨tin.of 1041 (by decide +kernel) rfl, tin.ofP 77 (by decide +kernel) rfl, TX10, 45, rfl⟩
theorem cl_X10_214 : CL RX10 214 yX10_takeJoin cX10_takeJoin 1 (some .boolean) 0 := ⟨Or.inl (tin.of 1039 (by decide +kernel) rfl), mi_X10_takeJoin⟩
theorem mi_X10_begin : tin (.initialized yX10_begin.cls) ∧ tin (.code yX10_begin cX10_begin 1 none) ∧ (yX10_begin.cls ≠ "java/lang/invoke/MethodHandle" ∧ yX10_begin.cls ≠ "java/lang/invoke/VarHandle" ∧ (parseMethodDescriptor yX10_begin.desc).map (fun d => d.parameters.length) = some 0) := ⟨tin.of 11 (by decide +kernel) rfl, tin.of 976 (by decide +kernel) rfl, by decide +kernel⟩
theorem ci_X10_begin : CI yX10_begin 10 := ⟨tin.of 975 (by decide +kernel) rfl, tin.ofP 62 (by decide +kernel) rfl, TX10, 45, rfl⟩
theorem cl_X10_218 : CL RX10 218 yX10_begin cX10_begin 1 none 0 := ⟨Or.inl (tin.of 973 (by decide +kernel) rfl), mi_X10_begin⟩
theorem mi_X10_beginReading : tin (.initialized yX10_beginReading.cls) ∧ tin (.code yX10_beginReading cX10_beginReading 1 none) ∧ (yX10_beginReading.cls ≠ "java/lang/invoke/MethodHandle" ∧ yX10_beginReading.cls ≠ "java/lang/invoke/VarHandle" ∧ (parseMethodDescriptor yX10_beginReading.desc).map (fun d => d.parameters.length) = some 0) := ⟨tin.of 11 (by decide +kernel) rfl, tin.of 981 (by decide +kernel) rfl, by decide +kernel⟩
theorem ci_X10_beginReading : CI yX10_beginReading 10 := ⟨tin.of 980 (by decide +kernel) rfl, tin.ofP 63 (by decide +kernel) rfl, TX10, 45, rfl⟩
theorem cl_X10_222 : CL RX10 222 yX10_beginReading cX10_beginReading 1 none 0 := ⟨Or.inl (tin.of 978 (by decide +kernel) rfl), mi_X10_beginReading⟩
theorem mi_X10_takeCase : tin (.initialized yX10_takeCase.cls) ∧ tin (.code yX10_takeCase cX10_takeCase 3 none) ∧ (yX10_takeCase.cls ≠ "java/lang/invoke/MethodHandle" ∧ yX10_takeCase.cls ≠ "java/lang/invoke/VarHandle" ∧ (parseMethodDescriptor yX10_takeCase.desc).map (fun d => d.parameters.length) = some 0) := ⟨tin.of 11 (by decide +kernel) rfl, tin.of 1010 (by decide +kernel) rfl, by decide +kernel⟩
theorem ci_X10_takeCase : CI yX10_takeCase 10 := ⟨tin.of 1009 (by decide +kernel) rfl, tin.ofP 69 (by decide +kernel) rfl, TX10, 45, rfl⟩
theorem cl_X10_225 : CL RX10 225 yX10_takeCase cX10_takeCase 3 none 0 := ⟨Or.inl (tin.of 1007 (by decide +kernel) rfl), mi_X10_takeCase⟩
theorem mi_X10_has : tin (.initialized yX10_has.cls) ∧ tin (.code yX10_has cX10_has 2 (some .boolean)) ∧ (yX10_has.cls ≠ "java/lang/invoke/MethodHandle" ∧ yX10_has.cls ≠ "java/lang/invoke/VarHandle" ∧ (parseMethodDescriptor yX10_has.desc).map (fun d => d.parameters.length) = some 2) := ⟨tin.of 11 (by decide +kernel) rfl, tin.of 1081 (by decide +kernel) rfl, by decide +kernel⟩
theorem st_X10_has : tin (.static yX10_has) := tin.of 1080 (by decide +kernel) rfl
theorem cl_X10_231 : CL RX10 231 yX10_has cX10_has 2 (some .boolean) 2 := ⟨Or.inl (tin.of 1079 (by decide +kernel) rfl), mi_X10_has⟩
theorem mi_X10_kindHere : tin (.initialized yX10_kindHere.cls) ∧ tin (.code yX10_kindHere cX10_kindHere 1 (some .int)) ∧ (yX10_kindHere.cls ≠ "java/lang/invoke/MethodHandle" ∧ yX10_kindHere.cls ≠ "java/lang/invoke/VarHandle" ∧ (parseMethodDescriptor yX10_kindHere.desc).map (fun d => d.parameters.length) = some 0) := ⟨tin.of 11 (by decide +kernel) rfl, tin.of 1078 (by decide +kernel) rfl, by decide +kernel⟩
theorem ci_X10_kindHere : CI yX10_kindHere 10 := ⟨tin.of 1077 (by decide +kernel) rfl, tin.ofP 84 (by decide +kernel) rfl, TX10, 45, rfl⟩
theorem cl_X10_235 : CL RX10 235 yX10_kindHere cX10_kindHere 1 (some .int) 0 := ⟨Or.inl (tin.of 1075 (by decide +kernel) rfl), mi_X10_kindHere⟩
theorem mi_X10_takeItem : tin (.initialized yX10_takeItem.cls) ∧ tin (.code yX10_takeItem cX10_takeItem 5 none) ∧ (yX10_takeItem.cls ≠ "java/lang/invoke/MethodHandle" ∧ yX10_takeItem.cls ≠ "java/lang/invoke/VarHandle" ∧ (parseMethodDescriptor yX10_takeItem.desc).map (fun d => d.parameters.length) = some 2) := ⟨tin.of 11 (by decide +kernel) rfl, tin.of 1085 (by decide +kernel) rfl, by decide +kernel⟩
theorem ci_X10_takeItem : CI yX10_takeItem 10 := ⟨tin.of 1084 (by decide +kernel) rfl, tin.ofP 85 (by decide +kernel) rfl, TX10, 45, rfl⟩
theorem cl_X10_241 : CL RX10 241 yX10_takeItem cX10_takeItem 5 none 2 := ⟨Or.inl (tin.of 1082 (by decide +kernel) rfl), mi_X10_takeItem⟩
theorem mi_X10_hearAll : tin (.initialized yX10_hearAll.cls) ∧ tin (.code yX10_hearAll cX10_hearAll 3 none) ∧ (yX10_hearAll.cls ≠ "java/lang/invoke/MethodHandle" ∧ yX10_hearAll.cls ≠ "java/lang/invoke/VarHandle" ∧ (parseMethodDescriptor yX10_hearAll.desc).map (fun d => d.parameters.length) = some 1) := ⟨tin.of 11 (by decide +kernel) rfl, tin.of 1051 (by decide +kernel) rfl, by decide +kernel⟩
theorem ci_X10_hearAll : CI yX10_hearAll 10 := ⟨tin.of 1050 (by decide +kernel) rfl, tin.ofP 78 (by decide +kernel) rfl, TX10, 45, rfl⟩
theorem cl_X10_247 : CL RX10 247 yX10_hearAll cX10_hearAll 3 none 1 := ⟨Or.inl (tin.of 1048 (by decide +kernel) rfl), mi_X10_hearAll⟩
theorem mi_X10_takeClause : tin (.initialized yX10_takeClause.cls) ∧ tin (.code yX10_takeClause cX10_takeClause 4 none) ∧ (yX10_takeClause.cls ≠ "java/lang/invoke/MethodHandle" ∧ yX10_takeClause.cls ≠ "java/lang/invoke/VarHandle" ∧ (parseMethodDescriptor yX10_takeClause.desc).map (fun d => d.parameters.length) = some 1) := ⟨tin.of 11 (by decide +kernel) rfl, tin.of 1074 (by decide +kernel) rfl, by decide +kernel⟩
theorem ci_X10_takeClause : CI yX10_takeClause 10 := ⟨tin.of 1073 (by decide +kernel) rfl, tin.ofP 83 (by decide +kernel) rfl, TX10, 45, rfl⟩
theorem cl_X10_250 : CL RX10 250 yX10_takeClause cX10_takeClause 4 none 1 := ⟨Or.inl (tin.of 1071 (by decide +kernel) rfl), mi_X10_takeClause⟩
theorem mi_X10_standing : tin (.initialized yX10_standing.cls) ∧ tin (.code yX10_standing cX10_standing 4 (some .int)) ∧ (yX10_standing.cls ≠ "java/lang/invoke/MethodHandle" ∧ yX10_standing.cls ≠ "java/lang/invoke/VarHandle" ∧ (parseMethodDescriptor yX10_standing.desc).map (fun d => d.parameters.length) = some 1) := ⟨tin.of 11 (by decide +kernel) rfl, tin.of 1102 (by decide +kernel) rfl, by decide +kernel⟩
theorem ci_X10_standing : CI yX10_standing 10 := ⟨tin.of 1101 (by decide +kernel) rfl, tin.ofP 86 (by decide +kernel) rfl, TX10, 45, rfl⟩
theorem cl_X10_255 : CL RX10 255 yX10_standing cX10_standing 4 (some .int) 1 := ⟨Or.inl (tin.of 1099 (by decide +kernel) rfl), mi_X10_standing⟩
theorem mi_X10_isFact : tin (.initialized yX10_isFact.cls) ∧ tin (.code yX10_isFact cX10_isFact 1 (some .boolean)) ∧ (yX10_isFact.cls ≠ "java/lang/invoke/MethodHandle" ∧ yX10_isFact.cls ≠ "java/lang/invoke/VarHandle" ∧ (parseMethodDescriptor yX10_isFact.desc).map (fun d => d.parameters.length) = some 1) := ⟨tin.of 11 (by decide +kernel) rfl, tin.of 1109 (by decide +kernel) rfl, by decide +kernel⟩
theorem st_X10_isFact : tin (.static yX10_isFact) := tin.of 1108 (by decide +kernel) rfl
theorem cl_X10_261 : CL RX10 261 yX10_isFact cX10_isFact 1 (some .boolean) 1 := ⟨Or.inl (tin.of 1107 (by decide +kernel) rfl), mi_X10_isFact⟩
theorem mi_X10_lay : tin (.initialized yX10_lay.cls) ∧ tin (.code yX10_lay cX10_lay 2 none) ∧ (yX10_lay.cls ≠ "java/lang/invoke/MethodHandle" ∧ yX10_lay.cls ≠ "java/lang/invoke/VarHandle" ∧ (parseMethodDescriptor yX10_lay.desc).map (fun d => d.parameters.length) = some 1) := ⟨tin.of 11 (by decide +kernel) rfl, tin.of 1135 (by decide +kernel) rfl, by decide +kernel⟩
theorem ci_X10_lay : CI yX10_lay 10 := ⟨tin.of 1134 (by decide +kernel) rfl, tin.ofP 91 (by decide +kernel) rfl, TX10, 45, rfl⟩
theorem cl_X10_268 : CL RX10 268 yX10_lay cX10_lay 2 none 1 := ⟨Or.inl (tin.of 1132 (by decide +kernel) rfl), mi_X10_lay⟩
theorem mi_X10_pop : tin (.initialized yX10_pop.cls) ∧ tin (.code yX10_pop cX10_pop 2 (some .boolean)) ∧ (yX10_pop.cls ≠ "java/lang/invoke/MethodHandle" ∧ yX10_pop.cls ≠ "java/lang/invoke/VarHandle" ∧ (parseMethodDescriptor yX10_pop.desc).map (fun d => d.parameters.length) = some 0) := ⟨tin.of 11 (by decide +kernel) rfl, tin.of 1139 (by decide +kernel) rfl, by decide +kernel⟩
theorem ci_X10_pop : CI yX10_pop 10 := ⟨tin.of 1138 (by decide +kernel) rfl, tin.ofP 92 (by decide +kernel) rfl, TX10, 45, rfl⟩
theorem cl_X10_272 : CL RX10 272 yX10_pop cX10_pop 2 (some .boolean) 0 := ⟨Or.inl (tin.of 1136 (by decide +kernel) rfl), mi_X10_pop⟩
theorem mi_X10_asks : tin (.initialized yX10_asks.cls) ∧ tin (.code yX10_asks cX10_asks 7 (some .boolean)) ∧ (yX10_asks.cls ≠ "java/lang/invoke/MethodHandle" ∧ yX10_asks.cls ≠ "java/lang/invoke/VarHandle" ∧ (parseMethodDescriptor yX10_asks.desc).map (fun d => d.parameters.length) = some 2) := ⟨tin.of 11 (by decide +kernel) rfl, tin.of 1131 (by decide +kernel) rfl, by decide +kernel⟩
theorem ci_X10_asks : CI yX10_asks 10 := ⟨tin.of 1130 (by decide +kernel) rfl, tin.ofP 90 (by decide +kernel) rfl, TX10, 45, rfl⟩
theorem cl_X10_275 : CL RX10 275 yX10_asks cX10_asks 7 (some .boolean) 2 := ⟨Or.inl (tin.of 1128 (by decide +kernel) rfl), mi_X10_asks⟩
theorem mi_X10_openFacts : tin (.initialized yX10_openFacts.cls) ∧ tin (.code yX10_openFacts cX10_openFacts 3 (some .int)) ∧ (yX10_openFacts.cls ≠ "java/lang/invoke/MethodHandle" ∧ yX10_openFacts.cls ≠ "java/lang/invoke/VarHandle" ∧ (parseMethodDescriptor yX10_openFacts.desc).map (fun d => d.parameters.length) = some 0) := ⟨tin.of 11 (by decide +kernel) rfl, tin.of 1147 (by decide +kernel) rfl, by decide +kernel⟩
theorem ci_X10_openFacts : CI yX10_openFacts 10 := ⟨tin.of 1146 (by decide +kernel) rfl, tin.ofP 94 (by decide +kernel) rfl, TX10, 45, rfl⟩
theorem cl_X10_278 : CL RX10 278 yX10_openFacts cX10_openFacts 3 (some .int) 0 := ⟨Or.inl (tin.of 1144 (by decide +kernel) rfl), mi_X10_openFacts⟩
theorem mi_X10_soBy : tin (.initialized yX10_soBy.cls) ∧ tin (.code yX10_soBy cX10_soBy 7 (some .int)) ∧ (yX10_soBy.cls ≠ "java/lang/invoke/MethodHandle" ∧ yX10_soBy.cls ≠ "java/lang/invoke/VarHandle" ∧ (parseMethodDescriptor yX10_soBy.desc).map (fun d => d.parameters.length) = some 2) := ⟨tin.of 11 (by decide +kernel) rfl, tin.of 1151 (by decide +kernel) rfl, by decide +kernel⟩
theorem ci_X10_soBy : CI yX10_soBy 10 := ⟨tin.of 1150 (by decide +kernel) rfl, tin.ofP 95 (by decide +kernel) rfl, TX10, 45, rfl⟩
theorem cl_X10_281 : CL RX10 281 yX10_soBy cX10_soBy 7 (some .int) 2 := ⟨Or.inl (tin.of 1148 (by decide +kernel) rfl), mi_X10_soBy⟩
theorem mi_X10_isClaim : tin (.initialized yX10_isClaim.cls) ∧ tin (.code yX10_isClaim cX10_isClaim 2 (some .boolean)) ∧ (yX10_isClaim.cls ≠ "java/lang/invoke/MethodHandle" ∧ yX10_isClaim.cls ≠ "java/lang/invoke/VarHandle" ∧ (parseMethodDescriptor yX10_isClaim.desc).map (fun d => d.parameters.length) = some 1) := ⟨tin.of 11 (by decide +kernel) rfl, tin.of 1119 (by decide +kernel) rfl, by decide +kernel⟩
theorem ci_X10_isClaim : CI yX10_isClaim 10 := ⟨tin.of 1118 (by decide +kernel) rfl, tin.ofP 87 (by decide +kernel) rfl, TX10, 45, rfl⟩
theorem cl_X10_284 : CL RX10 284 yX10_isClaim cX10_isClaim 2 (some .boolean) 1 := ⟨Or.inl (tin.of 1116 (by decide +kernel) rfl), mi_X10_isClaim⟩
theorem mi_X10_factsOf : tin (.initialized yX10_factsOf.cls) ∧ tin (.code yX10_factsOf cX10_factsOf 4 (some .int)) ∧ (yX10_factsOf.cls ≠ "java/lang/invoke/MethodHandle" ∧ yX10_factsOf.cls ≠ "java/lang/invoke/VarHandle" ∧ (parseMethodDescriptor yX10_factsOf.desc).map (fun d => d.parameters.length) = some 1) := ⟨tin.of 11 (by decide +kernel) rfl, tin.of 1123 (by decide +kernel) rfl, by decide +kernel⟩
theorem ci_X10_factsOf : CI yX10_factsOf 10 := ⟨tin.of 1122 (by decide +kernel) rfl, tin.ofP 88 (by decide +kernel) rfl, TX10, 45, rfl⟩
theorem cl_X10_287 : CL RX10 287 yX10_factsOf cX10_factsOf 4 (some .int) 1 := ⟨Or.inl (tin.of 1120 (by decide +kernel) rfl), mi_X10_factsOf⟩
theorem mi_X10_findCases : tin (.initialized yX10_findCases.cls) ∧ tin (.code yX10_findCases cX10_findCases 3 none) ∧ (yX10_findCases.cls ≠ "java/lang/invoke/MethodHandle" ∧ yX10_findCases.cls ≠ "java/lang/invoke/VarHandle" ∧ (parseMethodDescriptor yX10_findCases.desc).map (fun d => d.parameters.length) = some 1) := ⟨tin.of 11 (by decide +kernel) rfl, tin.of 1127 (by decide +kernel) rfl, by decide +kernel⟩
theorem ci_X10_findCases : CI yX10_findCases 10 := ⟨tin.of 1126 (by decide +kernel) rfl, tin.ofP 89 (by decide +kernel) rfl, TX10, 45, rfl⟩
theorem cl_X10_290 : CL RX10 290 yX10_findCases cX10_findCases 3 none 1 := ⟨Or.inl (tin.of 1124 (by decide +kernel) rfl), mi_X10_findCases⟩
theorem mi_X10_sureBy : tin (.initialized yX10_sureBy.cls) ∧ tin (.code yX10_sureBy cX10_sureBy 7 (some .int)) ∧ (yX10_sureBy.cls ≠ "java/lang/invoke/MethodHandle" ∧ yX10_sureBy.cls ≠ "java/lang/invoke/VarHandle" ∧ (parseMethodDescriptor yX10_sureBy.desc).map (fun d => d.parameters.length) = some 1) := ⟨tin.of 11 (by decide +kernel) rfl, tin.of 1143 (by decide +kernel) rfl, by decide +kernel⟩
theorem ci_X10_sureBy : CI yX10_sureBy 10 := ⟨tin.of 1142 (by decide +kernel) rfl, tin.ofP 93 (by decide +kernel) rfl, TX10, 45, rfl⟩
theorem cl_X10_293 : CL RX10 293 yX10_sureBy cX10_sureBy 7 (some .int) 1 := ⟨Or.inl (tin.of 1140 (by decide +kernel) rfl), mi_X10_sureBy⟩
theorem mi_X10_ones : tin (.initialized yX10_ones.cls) ∧ tin (.code yX10_ones cX10_ones 3 (some .int)) ∧ (yX10_ones.cls ≠ "java/lang/invoke/MethodHandle" ∧ yX10_ones.cls ≠ "java/lang/invoke/VarHandle" ∧ (parseMethodDescriptor yX10_ones.desc).map (fun d => d.parameters.length) = some 1) := ⟨tin.of 11 (by decide +kernel) rfl, tin.of 1178 (by decide +kernel) rfl, by decide +kernel⟩
theorem st_X10_ones : tin (.static yX10_ones) := tin.of 1177 (by decide +kernel) rfl
theorem cl_X10_296 : CL RX10 296 yX10_ones cX10_ones 3 (some .int) 1 := ⟨Or.inl (tin.of 1176 (by decide +kernel) rfl), mi_X10_ones⟩
theorem mi_X10_isEnough : tin (.initialized yX10_isEnough.cls) ∧ tin (.code yX10_isEnough cX10_isEnough 4 (some .boolean)) ∧ (yX10_isEnough.cls ≠ "java/lang/invoke/MethodHandle" ∧ yX10_isEnough.cls ≠ "java/lang/invoke/VarHandle" ∧ (parseMethodDescriptor yX10_isEnough.desc).map (fun d => d.parameters.length) = some 2) := ⟨tin.of 11 (by decide +kernel) rfl, tin.of 1182 (by decide +kernel) rfl, by decide +kernel⟩
theorem ci_X10_isEnough : CI yX10_isEnough 10 := ⟨tin.of 1181 (by decide +kernel) rfl, tin.ofP 96 (by decide +kernel) rfl, TX10, 45, rfl⟩
theorem cl_X10_299 : CL RX10 299 yX10_isEnough cX10_isEnough 4 (some .boolean) 2 := ⟨Or.inl (tin.of 1179 (by decide +kernel) rfl), mi_X10_isEnough⟩
theorem mi_X10_isSide : tin (.initialized yX10_isSide.cls) ∧ tin (.code yX10_isSide cX10_isSide 1 (some .boolean)) ∧ (yX10_isSide.cls ≠ "java/lang/invoke/MethodHandle" ∧ yX10_isSide.cls ≠ "java/lang/invoke/VarHandle" ∧ (parseMethodDescriptor yX10_isSide.desc).map (fun d => d.parameters.length) = some 1) := ⟨tin.of 11 (by decide +kernel) rfl, tin.of 1189 (by decide +kernel) rfl, by decide +kernel⟩
theorem st_X10_isSide : tin (.static yX10_isSide) := tin.of 1188 (by decide +kernel) rfl
theorem cl_X10_302 : CL RX10 302 yX10_isSide cX10_isSide 1 (some .boolean) 1 := ⟨Or.inl (tin.of 1187 (by decide +kernel) rfl), mi_X10_isSide⟩
theorem mi_X10_isProof : tin (.initialized yX10_isProof.cls) ∧ tin (.code yX10_isProof cX10_isProof 2 (some .boolean)) ∧ (yX10_isProof.cls ≠ "java/lang/invoke/MethodHandle" ∧ yX10_isProof.cls ≠ "java/lang/invoke/VarHandle" ∧ (parseMethodDescriptor yX10_isProof.desc).map (fun d => d.parameters.length) = some 1) := ⟨tin.of 11 (by decide +kernel) rfl, tin.of 1202 (by decide +kernel) rfl, by decide +kernel⟩
theorem ci_X10_isProof : CI yX10_isProof 10 := ⟨tin.of 1201 (by decide +kernel) rfl, tin.ofP 97 (by decide +kernel) rfl, TX10, 45, rfl⟩
theorem cl_X10_307 : CL RX10 307 yX10_isProof cX10_isProof 2 (some .boolean) 1 := ⟨Or.inl (tin.of 1199 (by decide +kernel) rfl), mi_X10_isProof⟩
theorem mi_X10_counts : tin (.initialized yX10_counts.cls) ∧ tin (.code yX10_counts cX10_counts 3 (some .int)) ∧ (yX10_counts.cls ≠ "java/lang/invoke/MethodHandle" ∧ yX10_counts.cls ≠ "java/lang/invoke/VarHandle" ∧ (parseMethodDescriptor yX10_counts.desc).map (fun d => d.parameters.length) = some 1) := ⟨tin.of 11 (by decide +kernel) rfl, tin.of 1210 (by decide +kernel) rfl, by decide +kernel⟩
theorem ci_X10_counts : CI yX10_counts 10 := ⟨tin.of 1209 (by decide +kernel) rfl, tin.ofP 98 (by decide +kernel) rfl, TX10, 45, rfl⟩
theorem cl_X10_310 : CL RX10 310 yX10_counts cX10_counts 3 (some .int) 1 := ⟨Or.inl (tin.of 1207 (by decide +kernel) rfl), mi_X10_counts⟩
theorem mi_X10_likelyBy : tin (.initialized yX10_likelyBy.cls) ∧ tin (.code yX10_likelyBy cX10_likelyBy 6 (some .int)) ∧ (yX10_likelyBy.cls ≠ "java/lang/invoke/MethodHandle" ∧ yX10_likelyBy.cls ≠ "java/lang/invoke/VarHandle" ∧ (parseMethodDescriptor yX10_likelyBy.desc).map (fun d => d.parameters.length) = some 2) := ⟨tin.of 11 (by decide +kernel) rfl, tin.of 1218 (by decide +kernel) rfl, by decide +kernel⟩
theorem ci_X10_likelyBy : CI yX10_likelyBy 10 := ⟨tin.of 1217 (by decide +kernel) rfl, tin.ofP 99 (by decide +kernel) rfl, TX10, 45, rfl⟩
theorem cl_X10_313 : CL RX10 313 yX10_likelyBy cX10_likelyBy 6 (some .int) 2 := ⟨Or.inl (tin.of 1215 (by decide +kernel) rfl), mi_X10_likelyBy⟩
theorem mi_X10_findWays : tin (.initialized yX10_findWays.cls) ∧ tin (.code yX10_findWays cX10_findWays 7 none) ∧ (yX10_findWays.cls ≠ "java/lang/invoke/MethodHandle" ∧ yX10_findWays.cls ≠ "java/lang/invoke/VarHandle" ∧ (parseMethodDescriptor yX10_findWays.desc).map (fun d => d.parameters.length) = some 1) := ⟨tin.of 11 (by decide +kernel) rfl, tin.of 1226 (by decide +kernel) rfl, by decide +kernel⟩
theorem ci_X10_findWays : CI yX10_findWays 10 := ⟨tin.of 1225 (by decide +kernel) rfl, tin.ofP 100 (by decide +kernel) rfl, TX10, 45, rfl⟩
theorem cl_X10_318 : CL RX10 318 yX10_findWays cX10_findWays 7 none 1 := ⟨Or.inl (tin.of 1223 (by decide +kernel) rfl), mi_X10_findWays⟩
theorem mi_X10_chanceOf : tin (.initialized yX10_chanceOf.cls) ∧ tin (.code yX10_chanceOf cX10_chanceOf 4 (some .int)) ∧ (yX10_chanceOf.cls ≠ "java/lang/invoke/MethodHandle" ∧ yX10_chanceOf.cls ≠ "java/lang/invoke/VarHandle" ∧ (parseMethodDescriptor yX10_chanceOf.desc).map (fun d => d.parameters.length) = some 1) := ⟨tin.of 11 (by decide +kernel) rfl, tin.of 1231 (by decide +kernel) rfl, by decide +kernel⟩
theorem ci_X10_chanceOf : CI yX10_chanceOf 10 := ⟨tin.of 1230 (by decide +kernel) rfl, tin.ofP 101 (by decide +kernel) rfl, TX10, 45, rfl⟩
theorem cl_X10_321 : CL RX10 321 yX10_chanceOf cX10_chanceOf 4 (some .int) 1 := ⟨Or.inl (tin.of 1228 (by decide +kernel) rfl), mi_X10_chanceOf⟩
theorem mi_X10_worthBy : tin (.initialized yX10_worthBy.cls) ∧ tin (.code yX10_worthBy cX10_worthBy 6 (some .int)) ∧ (yX10_worthBy.cls ≠ "java/lang/invoke/MethodHandle" ∧ yX10_worthBy.cls ≠ "java/lang/invoke/VarHandle" ∧ (parseMethodDescriptor yX10_worthBy.desc).map (fun d => d.parameters.length) = some 1) := ⟨tin.of 11 (by decide +kernel) rfl, tin.of 1243 (by decide +kernel) rfl, by decide +kernel⟩
theorem ci_X10_worthBy : CI yX10_worthBy 10 := ⟨tin.of 1242 (by decide +kernel) rfl, tin.ofP 103 (by decide +kernel) rfl, TX10, 45, rfl⟩
theorem cl_X10_324 : CL RX10 324 yX10_worthBy cX10_worthBy 6 (some .int) 1 := ⟨Or.inl (tin.of 1240 (by decide +kernel) rfl), mi_X10_worthBy⟩
theorem mi_X10_worthTo : tin (.initialized yX10_worthTo.cls) ∧ tin (.code yX10_worthTo cX10_worthTo 4 (some .int)) ∧ (yX10_worthTo.cls ≠ "java/lang/invoke/MethodHandle" ∧ yX10_worthTo.cls ≠ "java/lang/invoke/VarHandle" ∧ (parseMethodDescriptor yX10_worthTo.desc).map (fun d => d.parameters.length) = some 2) := ⟨tin.of 11 (by decide +kernel) rfl, tin.of 1239 (by decide +kernel) rfl, by decide +kernel⟩
theorem ci_X10_worthTo : CI yX10_worthTo 10 := ⟨tin.of 1238 (by decide +kernel) rfl, tin.ofP 102 (by decide +kernel) rfl, TX10, 45, rfl⟩
theorem cl_X10_327 : CL RX10 327 yX10_worthTo cX10_worthTo 4 (some .int) 2 := ⟨Or.inl (tin.of 1236 (by decide +kernel) rfl), mi_X10_worthTo⟩
theorem mi_X10_choose : tin (.initialized yX10_choose.cls) ∧ tin (.code yX10_choose cX10_choose 4 none) ∧ (yX10_choose.cls ≠ "java/lang/invoke/MethodHandle" ∧ yX10_choose.cls ≠ "java/lang/invoke/VarHandle" ∧ (parseMethodDescriptor yX10_choose.desc).map (fun d => d.parameters.length) = some 2) := ⟨tin.of 11 (by decide +kernel) rfl, tin.of 1253 (by decide +kernel) rfl, by decide +kernel⟩
theorem ci_X10_choose : CI yX10_choose 10 := ⟨tin.of 1252 (by decide +kernel) rfl, tin.ofP 104 (by decide +kernel) rfl, TX10, 45, rfl⟩
theorem cl_X10_337 : CL RX10 337 yX10_choose cX10_choose 4 none 2 := ⟨Or.inl (tin.of 1250 (by decide +kernel) rfl), mi_X10_choose⟩
theorem mi_X10_setOf : tin (.initialized yX10_setOf.cls) ∧ tin (.code yX10_setOf cX10_setOf 4 (some .int)) ∧ (yX10_setOf.cls ≠ "java/lang/invoke/MethodHandle" ∧ yX10_setOf.cls ≠ "java/lang/invoke/VarHandle" ∧ (parseMethodDescriptor yX10_setOf.desc).map (fun d => d.parameters.length) = some 1) := ⟨tin.of 11 (by decide +kernel) rfl, tin.of 1257 (by decide +kernel) rfl, by decide +kernel⟩
theorem ci_X10_setOf : CI yX10_setOf 10 := ⟨tin.of 1256 (by decide +kernel) rfl, tin.ofP 105 (by decide +kernel) rfl, TX10, 45, rfl⟩
theorem cl_X10_340 : CL RX10 340 yX10_setOf cX10_setOf 4 (some .int) 1 := ⟨Or.inl (tin.of 1254 (by decide +kernel) rfl), mi_X10_setOf⟩
theorem mi_X10_costOf : tin (.initialized yX10_costOf.cls) ∧ tin (.code yX10_costOf cX10_costOf 4 (some .int)) ∧ (yX10_costOf.cls ≠ "java/lang/invoke/MethodHandle" ∧ yX10_costOf.cls ≠ "java/lang/invoke/VarHandle" ∧ (parseMethodDescriptor yX10_costOf.desc).map (fun d => d.parameters.length) = some 1) := ⟨tin.of 11 (by decide +kernel) rfl, tin.of 1261 (by decide +kernel) rfl, by decide +kernel⟩
theorem ci_X10_costOf : CI yX10_costOf 10 := ⟨tin.of 1260 (by decide +kernel) rfl, tin.ofP 106 (by decide +kernel) rfl, TX10, 45, rfl⟩
theorem cl_X10_343 : CL RX10 343 yX10_costOf cX10_costOf 4 (some .int) 1 := ⟨Or.inl (tin.of 1258 (by decide +kernel) rfl), mi_X10_costOf⟩
theorem mi_X10_findAnswer : tin (.initialized yX10_findAnswer.cls) ∧ tin (.code yX10_findAnswer cX10_findAnswer 7 none) ∧ (yX10_findAnswer.cls ≠ "java/lang/invoke/MethodHandle" ∧ yX10_findAnswer.cls ≠ "java/lang/invoke/VarHandle" ∧ (parseMethodDescriptor yX10_findAnswer.desc).map (fun d => d.parameters.length) = some 2) := ⟨tin.of 11 (by decide +kernel) rfl, tin.of 1269 (by decide +kernel) rfl, by decide +kernel⟩
theorem ci_X10_findAnswer : CI yX10_findAnswer 10 := ⟨tin.of 1268 (by decide +kernel) rfl, tin.ofP 107 (by decide +kernel) rfl, TX10, 45, rfl⟩
theorem cl_X10_349 : CL RX10 349 yX10_findAnswer cX10_findAnswer 7 none 2 := ⟨Or.inl (tin.of 1266 (by decide +kernel) rfl), mi_X10_findAnswer⟩
theorem mi_X10_draw : tin (.initialized yX10_draw.cls) ∧ tin (.code yX10_draw cX10_draw 2 (some .int)) ∧ (yX10_draw.cls ≠ "java/lang/invoke/MethodHandle" ∧ yX10_draw.cls ≠ "java/lang/invoke/VarHandle" ∧ (parseMethodDescriptor yX10_draw.desc).map (fun d => d.parameters.length) = some 1) := ⟨tin.of 11 (by decide +kernel) rfl, tin.of 1285 (by decide +kernel) rfl, by decide +kernel⟩
theorem ci_X10_draw : CI yX10_draw 10 := ⟨tin.of 1284 (by decide +kernel) rfl, tin.ofP 108 (by decide +kernel) rfl, TX10, 45, rfl⟩
theorem cl_X10_359 : CL RX10 359 yX10_draw cX10_draw 2 (some .int) 1 := ⟨Or.inl (tin.of 1282 (by decide +kernel) rfl), mi_X10_draw⟩
theorem mi_X10_copy : tin (.initialized yX10_copy.cls) ∧ tin (.code yX10_copy cX10_copy 4 none) ∧ (yX10_copy.cls ≠ "java/lang/invoke/MethodHandle" ∧ yX10_copy.cls ≠ "java/lang/invoke/VarHandle" ∧ (parseMethodDescriptor yX10_copy.desc).map (fun d => d.parameters.length) = some 2) := ⟨tin.of 11 (by decide +kernel) rfl, tin.of 1297 (by decide +kernel) rfl, by decide +kernel⟩
theorem ci_X10_copy : CI yX10_copy 10 := ⟨tin.of 1296 (by decide +kernel) rfl, tin.ofP 109 (by decide +kernel) rfl, TX10, 45, rfl⟩
theorem cl_X10_362 : CL RX10 362 yX10_copy cX10_copy 4 none 2 := ⟨Or.inl (tin.of 1294 (by decide +kernel) rfl), mi_X10_copy⟩
theorem mi_J0_coder_7d493 : tin (.initialized yJ0_coder_7d493.cls) ∧ tin (.code yJ0_coder_7d493 cJ0_coder_7d493 1 (some .byte)) ∧ (yJ0_coder_7d493.cls ≠ "java/lang/invoke/MethodHandle" ∧ yJ0_coder_7d493.cls ≠ "java/lang/invoke/VarHandle" ∧ (parseMethodDescriptor yJ0_coder_7d493.desc).map (fun d => d.parameters.length) = some 0) := ⟨tin.of 12 (by decide +kernel) rfl, tin.of 395 (by decide +kernel) rfl, by decide +kernel⟩
theorem ji_J0_coder_7d493 : tin (.instanceMethod yJ0_coder_7d493) ∧ tin (.selects yJ0_coder_7d493.cls yJ0_coder_7d493 yJ0_coder_7d493) := ⟨tin.of 393 (by decide +kernel) rfl, tin.of 394 (by decide +kernel) rfl⟩
theorem cl_J0_335 : CL RJ0 335 yJ0_coder_7d493 cJ0_coder_7d493 1 (some .byte) 0 := ⟨Or.inl (tin.of 392 (by decide +kernel) rfl), mi_J0_coder_7d493⟩
theorem mi_J0_isLatin1_aae02 : tin (.initialized yJ0_isLatin1_aae02.cls) ∧ tin (.code yJ0_isLatin1_aae02 cJ0_isLatin1_aae02 1 (some .boolean)) ∧ (yJ0_isLatin1_aae02.cls ≠ "java/lang/invoke/MethodHandle" ∧ yJ0_isLatin1_aae02.cls ≠ "java/lang/invoke/VarHandle" ∧ (parseMethodDescriptor yJ0_isLatin1_aae02.desc).map (fun d => d.parameters.length) = some 0) := ⟨tin.of 12 (by decide +kernel) rfl, tin.of 405 (by decide +kernel) rfl, by decide +kernel⟩
theorem ji_J0_isLatin1_aae02 : tin (.instanceMethod yJ0_isLatin1_aae02) ∧ tin (.selects yJ0_isLatin1_aae02.cls yJ0_isLatin1_aae02 yJ0_isLatin1_aae02) := ⟨tin.of 403 (by decide +kernel) rfl, tin.of 404 (by decide +kernel) rfl⟩
theorem cl_J0_492 : CL RJ0 492 yJ0_isLatin1_aae02 cJ0_isLatin1_aae02 1 (some .boolean) 0 := ⟨Or.inl (tin.of 402 (by decide +kernel) rfl), mi_J0_isLatin1_aae02⟩
theorem mi_J1_charAt_3b067 : tin (.initialized yJ1_charAt_3b067.cls) ∧ tin (.code yJ1_charAt_3b067 cJ1_charAt_3b067 2 (some .char)) ∧ (yJ1_charAt_3b067.cls ≠ "java/lang/invoke/MethodHandle" ∧ yJ1_charAt_3b067.cls ≠ "java/lang/invoke/VarHandle" ∧ (parseMethodDescriptor yJ1_charAt_3b067.desc).map (fun d => d.parameters.length) = some 2) := ⟨tin.of 13 (by decide +kernel) rfl, tin.of 408 (by decide +kernel) rfl, by decide +kernel⟩
theorem st_J1_charAt_3b067 : tin (.static yJ1_charAt_3b067) := tin.of 407 (by decide +kernel) rfl
theorem cl_J0_495 : CL RJ0 495 yJ1_charAt_3b067 cJ1_charAt_3b067 2 (some .char) 2 := ⟨Or.inl (tin.of 406 (by decide +kernel) rfl), mi_J1_charAt_3b067⟩
theorem mi_J2_charAt_3b067 : tin (.initialized yJ2_charAt_3b067.cls) ∧ tin (.code yJ2_charAt_3b067 cJ2_charAt_3b067 2 (some .char)) ∧ (yJ2_charAt_3b067.cls ≠ "java/lang/invoke/MethodHandle" ∧ yJ2_charAt_3b067.cls ≠ "java/lang/invoke/VarHandle" ∧ (parseMethodDescriptor yJ2_charAt_3b067.desc).map (fun d => d.parameters.length) = some 2) := ⟨tin.of 15 (by decide +kernel) rfl, tin.of 419 (by decide +kernel) rfl, by decide +kernel⟩
theorem st_J2_charAt_3b067 : tin (.static yJ2_charAt_3b067) := tin.of 418 (by decide +kernel) rfl
theorem cl_J0_498 : CL RJ0 498 yJ2_charAt_3b067 cJ2_charAt_3b067 2 (some .char) 2 := ⟨Or.inl (tin.of 417 (by decide +kernel) rfl), mi_J2_charAt_3b067⟩
theorem mi_J3_checkIndex_8e157 : tin (.initialized yJ3_checkIndex_8e157.cls) ∧ tin (.code yJ3_checkIndex_8e157 cJ3_checkIndex_8e157 3 (some .int)) ∧ (yJ3_checkIndex_8e157.cls ≠ "java/lang/invoke/MethodHandle" ∧ yJ3_checkIndex_8e157.cls ≠ "java/lang/invoke/VarHandle" ∧ (parseMethodDescriptor yJ3_checkIndex_8e157.desc).map (fun d => d.parameters.length) = some 3) := ⟨tin.of 14 (by decide +kernel) rfl, tin.of 416 (by decide +kernel) rfl, by decide +kernel⟩
theorem st_J3_checkIndex_8e157 : tin (.static yJ3_checkIndex_8e157) := tin.of 415 (by decide +kernel) rfl
theorem cl_J0_1059 : CL RJ0 1059 yJ3_checkIndex_8e157 cJ3_checkIndex_8e157 3 (some .int) 3 := ⟨Or.inl (tin.of 414 (by decide +kernel) rfl), mi_J3_checkIndex_8e157⟩
theorem mi_J0_checkIndex_df160 : tin (.initialized yJ0_checkIndex_df160.cls) ∧ tin (.code yJ0_checkIndex_df160 cJ0_checkIndex_df160 2 none) ∧ (yJ0_checkIndex_df160.cls ≠ "java/lang/invoke/MethodHandle" ∧ yJ0_checkIndex_df160.cls ≠ "java/lang/invoke/VarHandle" ∧ (parseMethodDescriptor yJ0_checkIndex_df160.desc).map (fun d => d.parameters.length) = some 2) := ⟨tin.of 12 (by decide +kernel) rfl, tin.of 411 (by decide +kernel) rfl, by decide +kernel⟩
theorem st_J0_checkIndex_df160 : tin (.static yJ0_checkIndex_df160) := tin.of 410 (by decide +kernel) rfl
theorem cl_J1_9 : CL RJ1 9 yJ0_checkIndex_df160 cJ0_checkIndex_df160 2 none 2 := ⟨Or.inl (tin.of 409 (by decide +kernel) rfl), mi_J0_checkIndex_df160⟩
theorem mi_J2_length_9d52b : tin (.initialized yJ2_length_9d52b.cls) ∧ tin (.code yJ2_length_9d52b cJ2_length_9d52b 1 (some .int)) ∧ (yJ2_length_9d52b.cls ≠ "java/lang/invoke/MethodHandle" ∧ yJ2_length_9d52b.cls ≠ "java/lang/invoke/VarHandle" ∧ (parseMethodDescriptor yJ2_length_9d52b.desc).map (fun d => d.parameters.length) = some 1) := ⟨tin.of 15 (by decide +kernel) rfl, tin.of 425 (by decide +kernel) rfl, by decide +kernel⟩
theorem st_J2_length_9d52b : tin (.static yJ2_length_9d52b) := tin.of 424 (by decide +kernel) rfl
theorem cl_J2_48 : CL RJ2 48 yJ2_length_9d52b cJ2_length_9d52b 1 (some .int) 1 := ⟨Or.inl (tin.of 423 (by decide +kernel) rfl), mi_J2_length_9d52b⟩
theorem mi_J2_checkIndex_2214a : tin (.initialized yJ2_checkIndex_2214a.cls) ∧ tin (.code yJ2_checkIndex_2214a cJ2_checkIndex_2214a 2 none) ∧ (yJ2_checkIndex_2214a.cls ≠ "java/lang/invoke/MethodHandle" ∧ yJ2_checkIndex_2214a.cls ≠ "java/lang/invoke/VarHandle" ∧ (parseMethodDescriptor yJ2_checkIndex_2214a.desc).map (fun d => d.parameters.length) = some 2) := ⟨tin.of 15 (by decide +kernel) rfl, tin.of 422 (by decide +kernel) rfl, by decide +kernel⟩
theorem st_J2_checkIndex_2214a : tin (.static yJ2_checkIndex_2214a) := tin.of 421 (by decide +kernel) rfl
theorem cl_J2_67 : CL RJ2 67 yJ2_checkIndex_2214a cJ2_checkIndex_2214a 2 none 2 := ⟨Or.inl (tin.of 420 (by decide +kernel) rfl), mi_J2_checkIndex_2214a⟩
theorem mi_J2_getChar_3b067 : tin (.initialized yJ2_getChar_3b067.cls) ∧ tin (.code yJ2_getChar_3b067 cJ2_getChar_3b067 2 (some .char)) ∧ (yJ2_getChar_3b067.cls ≠ "java/lang/invoke/MethodHandle" ∧ yJ2_getChar_3b067.cls ≠ "java/lang/invoke/VarHandle" ∧ (parseMethodDescriptor yJ2_getChar_3b067.desc).map (fun d => d.parameters.length) = some 2) := ⟨tin.of 15 (by decide +kernel) rfl, tin.of 429 (by decide +kernel) rfl, by decide +kernel⟩
theorem st_J2_getChar_3b067 : tin (.static yJ2_getChar_3b067) := tin.of 428 (by decide +kernel) rfl
theorem cl_J2_71 : CL RJ2 71 yJ2_getChar_3b067 cJ2_getChar_3b067 2 (some .char) 2 := ⟨Or.inl (tin.of 427 (by decide +kernel) rfl), mi_J2_getChar_3b067⟩
theorem cl_J2_414 : CL RJ2 414 yJ0_checkIndex_df160 cJ0_checkIndex_df160 2 none 2 := ⟨Or.inl (tin.of 426 (by decide +kernel) rfl), mi_J0_checkIndex_df160⟩
theorem mi_X8_init : tin (.initialized yX8_init.cls) ∧ tin (.code yX8_init cX8_init 1 none) ∧ (yX8_init.cls ≠ "java/lang/invoke/MethodHandle" ∧ yX8_init.cls ≠ "java/lang/invoke/VarHandle" ∧ (parseMethodDescriptor yX8_init.desc).map (fun d => d.parameters.length) = some 0) := ⟨tin.of 2 (by decide +kernel) rfl, tin.of 30 (by decide +kernel) rfl, by decide +kernel⟩
theorem ii_X8_init : tin (.instanceMethod yX8_init) := tin.of 29 (by decide +kernel) rfl
theorem cl_X9_9 : CL RX9 9 yX8_init cX8_init 1 none 0 := ⟨Or.inr ⟨_, tin.of (w := .methodLinkNest _ _ _ "PleaPapers") 28 (by decide +kernel) rfl⟩, mi_X8_init⟩
theorem mi_X0_init : tin (.initialized yX0_init.cls) ∧ tin (.code yX0_init cX0_init 1 none) ∧ (yX0_init.cls ≠ "java/lang/invoke/MethodHandle" ∧ yX0_init.cls ≠ "java/lang/invoke/VarHandle" ∧ (parseMethodDescriptor yX0_init.desc).map (fun d => d.parameters.length) = some 0) := ⟨tin.of 3 (by decide +kernel) rfl, tin.of 62 (by decide +kernel) rfl, by decide +kernel⟩
theorem ii_X0_init : tin (.instanceMethod yX0_init) := tin.of 61 (by decide +kernel) rfl
theorem cl_X9_18 : CL RX9 18 yX0_init cX0_init 1 none 0 := ⟨Or.inr ⟨_, tin.of (w := .methodLinkNest _ _ _ "PleaPapers") 60 (by decide +kernel) rfl⟩, mi_X0_init⟩
theorem mi_X3_init : tin (.initialized yX3_init.cls) ∧ tin (.code yX3_init cX3_init 1 none) ∧ (yX3_init.cls ≠ "java/lang/invoke/MethodHandle" ∧ yX3_init.cls ≠ "java/lang/invoke/VarHandle" ∧ (parseMethodDescriptor yX3_init.desc).map (fun d => d.parameters.length) = some 0) := ⟨tin.of 4 (by decide +kernel) rfl, tin.of 87 (by decide +kernel) rfl, by decide +kernel⟩
theorem ii_X3_init : tin (.instanceMethod yX3_init) := tin.of 86 (by decide +kernel) rfl
theorem cl_X9_25 : CL RX9 25 yX3_init cX3_init 1 none 0 := ⟨Or.inr ⟨_, tin.of (w := .methodLinkNest _ _ _ "PleaPapers") 85 (by decide +kernel) rfl⟩, mi_X3_init⟩
theorem mi_X7_init : tin (.initialized yX7_init.cls) ∧ tin (.code yX7_init cX7_init 1 none) ∧ (yX7_init.cls ≠ "java/lang/invoke/MethodHandle" ∧ yX7_init.cls ≠ "java/lang/invoke/VarHandle" ∧ (parseMethodDescriptor yX7_init.desc).map (fun d => d.parameters.length) = some 0) := ⟨tin.of 5 (by decide +kernel) rfl, tin.of 101 (by decide +kernel) rfl, by decide +kernel⟩
theorem ii_X7_init : tin (.instanceMethod yX7_init) := tin.of 100 (by decide +kernel) rfl
theorem cl_X9_32 : CL RX9 32 yX7_init cX7_init 1 none 0 := ⟨Or.inr ⟨_, tin.of (w := .methodLinkNest _ _ _ "PleaPapers") 99 (by decide +kernel) rfl⟩, mi_X7_init⟩
theorem mi_X2_init : tin (.initialized yX2_init.cls) ∧ tin (.code yX2_init cX2_init 1 none) ∧ (yX2_init.cls ≠ "java/lang/invoke/MethodHandle" ∧ yX2_init.cls ≠ "java/lang/invoke/VarHandle" ∧ (parseMethodDescriptor yX2_init.desc).map (fun d => d.parameters.length) = some 0) := ⟨tin.of 9 (by decide +kernel) rfl, tin.of 218 (by decide +kernel) rfl, by decide +kernel⟩
theorem ii_X2_init : tin (.instanceMethod yX2_init) := tin.of 217 (by decide +kernel) rfl
theorem cl_X9_39 : CL RX9 39 yX2_init cX2_init 1 none 0 := ⟨Or.inr ⟨_, tin.of (w := .methodLinkNest _ _ _ "PleaPapers") 216 (by decide +kernel) rfl⟩, mi_X2_init⟩
theorem mi_X6_init : tin (.initialized yX6_init.cls) ∧ tin (.code yX6_init cX6_init 1 none) ∧ (yX6_init.cls ≠ "java/lang/invoke/MethodHandle" ∧ yX6_init.cls ≠ "java/lang/invoke/VarHandle" ∧ (parseMethodDescriptor yX6_init.desc).map (fun d => d.parameters.length) = some 0) := ⟨tin.of 10 (by decide +kernel) rfl, tin.of 260 (by decide +kernel) rfl, by decide +kernel⟩
theorem ii_X6_init : tin (.instanceMethod yX6_init) := tin.of 259 (by decide +kernel) rfl
theorem cl_X9_49 : CL RX9 49 yX6_init cX6_init 1 none 0 := ⟨Or.inr ⟨_, tin.of (w := .methodLinkNest _ _ _ "PleaPapers") 258 (by decide +kernel) rfl⟩, mi_X6_init⟩
theorem mi_X2_replay : tin (.initialized yX2_replay.cls) ∧ tin (.code yX2_replay cX2_replay 4 none) ∧ (yX2_replay.cls ≠ "java/lang/invoke/MethodHandle" ∧ yX2_replay.cls ≠ "java/lang/invoke/VarHandle" ∧ (parseMethodDescriptor yX2_replay.desc).map (fun d => d.parameters.length) = some 2) := ⟨tin.of 9 (by decide +kernel) rfl, tin.of 275 (by decide +kernel) rfl, by decide +kernel⟩
theorem ci_X2_replay : CI yX2_replay 2 := ⟨tin.of 274 (by decide +kernel) rfl, tin.ofP 0 (by decide +kernel) rfl, TX2, 9, rfl⟩
theorem cl_X9_66 : CL RX9 66 yX2_replay cX2_replay 4 none 2 := ⟨Or.inr ⟨_, tin.of (w := .methodLinkNest _ _ _ "PleaPapers") 272 (by decide +kernel) rfl⟩, mi_X2_replay⟩
theorem mi_X8_append : tin (.initialized yX8_append.cls) ∧ tin (.code yX8_append cX8_append 2 none) ∧ (yX8_append.cls ≠ "java/lang/invoke/MethodHandle" ∧ yX8_append.cls ≠ "java/lang/invoke/VarHandle" ∧ (parseMethodDescriptor yX8_append.desc).map (fun d => d.parameters.length) = some 1) := ⟨tin.of 2 (by decide +kernel) rfl, tin.of 349 (by decide +kernel) rfl, by decide +kernel⟩
theorem ci_X8_append : CI yX8_append 8 := ⟨tin.of 348 (by decide +kernel) rfl, tin.ofP 9 (by decide +kernel) rfl, TX8, 7, rfl⟩
theorem cl_X9_76 : CL RX9 76 yX8_append cX8_append 2 none 1 := ⟨Or.inr ⟨_, tin.of (w := .methodLinkNest _ _ _ "PleaPapers") 346 (by decide +kernel) rfl⟩, mi_X8_append⟩
theorem mi_X0_read : tin (.initialized yX0_read.cls) ∧ tin (.code yX0_read cX0_read 4 none) ∧ (yX0_read.cls ≠ "java/lang/invoke/MethodHandle" ∧ yX0_read.cls ≠ "java/lang/invoke/VarHandle" ∧ (parseMethodDescriptor yX0_read.desc).map (fun d => d.parameters.length) = some 1) := ⟨tin.of 3 (by decide +kernel) rfl, tin.of 358 (by decide +kernel) rfl, by decide +kernel⟩
theorem ci_X0_read : CI yX0_read 0 := ⟨tin.of 357 (by decide +kernel) rfl, tin.ofP 10 (by decide +kernel) rfl, TX0, 5, rfl⟩
theorem cl_X9_90 : CL RX9 90 yX0_read cX0_read 4 none 1 := ⟨Or.inr ⟨_, tin.of (w := .methodLinkNest _ _ _ "PleaPapers") 355 (by decide +kernel) rfl⟩, mi_X0_read⟩
theorem cl_X9_94 : CL RX9 94 yX8_isSound cX8_isSound 1 (some .boolean) 0 := ⟨Or.inr ⟨_, tin.of (w := .methodLinkNest _ _ _ "PleaPapers") 483 (by decide +kernel) rfl⟩, mi_X8_isSound⟩
theorem mi_X1_add : tin (.initialized yX1_add.cls) ∧ tin (.code yX1_add cX1_add 2 (some .int)) ∧ (yX1_add.cls ≠ "java/lang/invoke/MethodHandle" ∧ yX1_add.cls ≠ "java/lang/invoke/VarHandle" ∧ (parseMethodDescriptor yX1_add.desc).map (fun d => d.parameters.length) = some 1) := ⟨tin.of 6 (by decide +kernel) rfl, tin.of 487 (by decide +kernel) rfl, by decide +kernel⟩
theorem ci_X1_add : CI yX1_add 1 := ⟨tin.of 486 (by decide +kernel) rfl, tin.ofP 25 (by decide +kernel) rfl, TX1, 4, rfl⟩
theorem cl_X9_101 : CL RX9 101 yX1_add cX1_add 2 (some .int) 1 := ⟨Or.inr ⟨_, tin.of (w := .methodLinkNest _ _ _ "PleaPapers") 484 (by decide +kernel) rfl⟩, mi_X1_add⟩
theorem cl_X9_105 : CL RX9 105 yX4_lastDay cX4_lastDay 1 (some .int) 0 := ⟨Or.inr ⟨_, tin.of (w := .methodLinkNest _ _ _ "PleaPapers") 509 (by decide +kernel) rfl⟩, mi_X4_lastDay⟩
theorem mi_X3_read : tin (.initialized yX3_read.cls) ∧ tin (.code yX3_read cX3_read 5 none) ∧ (yX3_read.cls ≠ "java/lang/invoke/MethodHandle" ∧ yX3_read.cls ≠ "java/lang/invoke/VarHandle" ∧ (parseMethodDescriptor yX3_read.desc).map (fun d => d.parameters.length) = some 3) := ⟨tin.of 4 (by decide +kernel) rfl, tin.of 516 (by decide +kernel) rfl, by decide +kernel⟩
theorem ci_X3_read : CI yX3_read 3 := ⟨tin.of 515 (by decide +kernel) rfl, tin.ofP 29 (by decide +kernel) rfl, TX3, 2, rfl⟩
theorem cl_X9_112 : CL RX9 112 yX3_read cX3_read 5 none 3 := ⟨Or.inr ⟨_, tin.of (w := .methodLinkNest _ _ _ "PleaPapers") 513 (by decide +kernel) rfl⟩, mi_X3_read⟩
theorem mi_X4_add : tin (.initialized yX4_add.cls) ∧ tin (.code yX4_add cX4_add 5 (some .int)) ∧ (yX4_add.cls ≠ "java/lang/invoke/MethodHandle" ∧ yX4_add.cls ≠ "java/lang/invoke/VarHandle" ∧ (parseMethodDescriptor yX4_add.desc).map (fun d => d.parameters.length) = some 3) := ⟨tin.of 7 (by decide +kernel) rfl, tin.of 551 (by decide +kernel) rfl, by decide +kernel⟩
theorem ci_X4_add : CI yX4_add 4 := ⟨tin.of 550 (by decide +kernel) rfl, tin.ofP 32 (by decide +kernel) rfl, TX4, 4, rfl⟩
theorem cl_X9_122 : CL RX9 122 yX4_add cX4_add 5 (some .int) 3 := ⟨Or.inr ⟨_, tin.of (w := .methodLinkNest _ _ _ "PleaPapers") 548 (by decide +kernel) rfl⟩, mi_X4_add⟩
theorem mi_X2_howMany : tin (.initialized yX2_howMany.cls) ∧ tin (.code yX2_howMany cX2_howMany 4 (some .int)) ∧ (yX2_howMany.cls ≠ "java/lang/invoke/MethodHandle" ∧ yX2_howMany.cls ≠ "java/lang/invoke/VarHandle" ∧ (parseMethodDescriptor yX2_howMany.desc).map (fun d => d.parameters.length) = some 1) := ⟨tin.of 9 (by decide +kernel) rfl, tin.of 572 (by decide +kernel) rfl, by decide +kernel⟩
theorem ci_X2_howMany : CI yX2_howMany 2 := ⟨tin.of 571 (by decide +kernel) rfl, tin.ofP 33 (by decide +kernel) rfl, TX2, 9, rfl⟩
theorem cl_X9_135 : CL RX9 135 yX2_howMany cX2_howMany 4 (some .int) 1 := ⟨Or.inr ⟨_, tin.of (w := .methodLinkNest _ _ _ "PleaPapers") 569 (by decide +kernel) rfl⟩, mi_X2_howMany⟩
theorem mi_X4_factSet : tin (.initialized yX4_factSet.cls) ∧ tin (.code yX4_factSet cX4_factSet 4 (some .int)) ∧ (yX4_factSet.cls ≠ "java/lang/invoke/MethodHandle" ∧ yX4_factSet.cls ≠ "java/lang/invoke/VarHandle" ∧ (parseMethodDescriptor yX4_factSet.desc).map (fun d => d.parameters.length) = some 1) := ⟨tin.of 7 (by decide +kernel) rfl, tin.of 623 (by decide +kernel) rfl, by decide +kernel⟩
theorem ci_X4_factSet : CI yX4_factSet 4 := ⟨tin.of 622 (by decide +kernel) rfl, tin.ofP 39 (by decide +kernel) rfl, TX4, 4, rfl⟩
theorem cl_X9_184 : CL RX9 184 yX4_factSet cX4_factSet 4 (some .int) 1 := ⟨Or.inr ⟨_, tin.of (w := .methodLinkNest _ _ _ "PleaPapers") 620 (by decide +kernel) rfl⟩, mi_X4_factSet⟩
theorem mi_X2_soBy : tin (.initialized yX2_soBy.cls) ∧ tin (.code yX2_soBy cX2_soBy 2 (some .int)) ∧ (yX2_soBy.cls ≠ "java/lang/invoke/MethodHandle" ∧ yX2_soBy.cls ≠ "java/lang/invoke/VarHandle" ∧ (parseMethodDescriptor yX2_soBy.desc).map (fun d => d.parameters.length) = some 1) := ⟨tin.of 9 (by decide +kernel) rfl, tin.of 603 (by decide +kernel) rfl, by decide +kernel⟩
theorem ci_X2_soBy : CI yX2_soBy 2 := ⟨tin.of 602 (by decide +kernel) rfl, tin.ofP 36 (by decide +kernel) rfl, TX2, 9, rfl⟩
theorem cl_X9_193 : CL RX9 193 yX2_soBy cX2_soBy 2 (some .int) 1 := ⟨Or.inr ⟨_, tin.of (w := .methodLinkNest _ _ _ "PleaPapers") 600 (by decide +kernel) rfl⟩, mi_X2_soBy⟩
theorem cl_X9_196 : CL RX9 196 yX1_isOwed cX1_isOwed 3 (some .boolean) 2 := ⟨Or.inr ⟨_, tin.of (w := .methodLinkNest _ _ _ "PleaPapers") 604 (by decide +kernel) rfl⟩, mi_X1_isOwed⟩
theorem mi_X2_admittedBy : tin (.initialized yX2_admittedBy.cls) ∧ tin (.code yX2_admittedBy cX2_admittedBy 4 (some .int)) ∧ (yX2_admittedBy.cls ≠ "java/lang/invoke/MethodHandle" ∧ yX2_admittedBy.cls ≠ "java/lang/invoke/VarHandle" ∧ (parseMethodDescriptor yX2_admittedBy.desc).map (fun d => d.parameters.length) = some 1) := ⟨tin.of 9 (by decide +kernel) rfl, tin.of 665 (by decide +kernel) rfl, by decide +kernel⟩
theorem ci_X2_admittedBy : CI yX2_admittedBy 2 := ⟨tin.of 664 (by decide +kernel) rfl, tin.ofP 42 (by decide +kernel) rfl, TX2, 9, rfl⟩
theorem cl_X9_223 : CL RX9 223 yX2_admittedBy cX2_admittedBy 4 (some .int) 1 := ⟨Or.inr ⟨_, tin.of (w := .methodLinkNest _ _ _ "PleaPapers") 662 (by decide +kernel) rfl⟩, mi_X2_admittedBy⟩
theorem mi_X5_add : tin (.initialized yX5_add.cls) ∧ tin (.code yX5_add cX5_add 5 (some .int)) ∧ (yX5_add.cls ≠ "java/lang/invoke/MethodHandle" ∧ yX5_add.cls ≠ "java/lang/invoke/VarHandle" ∧ (parseMethodDescriptor yX5_add.desc).map (fun d => d.parameters.length) = some 4) := ⟨tin.of 8 (by decide +kernel) rfl, tin.of 677 (by decide +kernel) rfl, by decide +kernel⟩
theorem ci_X5_add : CI yX5_add 5 := ⟨tin.of 676 (by decide +kernel) rfl, tin.ofP 44 (by decide +kernel) rfl, TX5, 6, rfl⟩
theorem cl_X9_230 : CL RX9 230 yX5_add cX5_add 5 (some .int) 4 := ⟨Or.inr ⟨_, tin.of (w := .methodLinkNest _ _ _ "PleaPapers") 674 (by decide +kernel) rfl⟩, mi_X5_add⟩
theorem mi_X2_bearing : tin (.initialized yX2_bearing.cls) ∧ tin (.code yX2_bearing cX2_bearing 3 (some .int)) ∧ (yX2_bearing.cls ≠ "java/lang/invoke/MethodHandle" ∧ yX2_bearing.cls ≠ "java/lang/invoke/VarHandle" ∧ (parseMethodDescriptor yX2_bearing.desc).map (fun d => d.parameters.length) = some 2) := ⟨tin.of 9 (by decide +kernel) rfl, tin.of 694 (by decide +kernel) rfl, by decide +kernel⟩
theorem ci_X2_bearing : CI yX2_bearing 2 := ⟨tin.of 693 (by decide +kernel) rfl, tin.ofP 46 (by decide +kernel) rfl, TX2, 9, rfl⟩
theorem cl_X9_251 : CL RX9 251 yX2_bearing cX2_bearing 3 (some .int) 2 := ⟨Or.inr ⟨_, tin.of (w := .methodLinkNest _ _ _ "PleaPapers") 691 (by decide +kernel) rfl⟩, mi_X2_bearing⟩
theorem cl_X9_254 : CL RX9 254 yX6_weighFacts cX6_weighFacts 5 none 3 := ⟨Or.inr ⟨_, tin.of (w := .methodLinkNest _ _ _ "PleaPapers") 699 (by decide +kernel) rfl⟩, mi_X6_weighFacts⟩
theorem mi_X6_weighClaims : tin (.initialized yX6_weighClaims.cls) ∧ tin (.code yX6_weighClaims cX6_weighClaims 6 (some .int)) ∧ (yX6_weighClaims.cls ≠ "java/lang/invoke/MethodHandle" ∧ yX6_weighClaims.cls ≠ "java/lang/invoke/VarHandle" ∧ (parseMethodDescriptor yX6_weighClaims.desc).map (fun d => d.parameters.length) = some 3) := ⟨tin.of 10 (by decide +kernel) rfl, tin.of 717 (by decide +kernel) rfl, by decide +kernel⟩
theorem ci_X6_weighClaims : CI yX6_weighClaims 6 := ⟨tin.of 716 (by decide +kernel) rfl, tin.ofP 49 (by decide +kernel) rfl, TX6, 2, rfl⟩
theorem cl_X9_261 : CL RX9 261 yX6_weighClaims cX6_weighClaims 6 (some .int) 3 := ⟨Or.inr ⟨_, tin.of (w := .methodLinkNest _ _ _ "PleaPapers") 714 (by decide +kernel) rfl⟩, mi_X6_weighClaims⟩
theorem mi_X5_costOf : tin (.initialized yX5_costOf.cls) ∧ tin (.code yX5_costOf cX5_costOf 4 (some .int)) ∧ (yX5_costOf.cls ≠ "java/lang/invoke/MethodHandle" ∧ yX5_costOf.cls ≠ "java/lang/invoke/VarHandle" ∧ (parseMethodDescriptor yX5_costOf.desc).map (fun d => d.parameters.length) = some 1) := ⟨tin.of 8 (by decide +kernel) rfl, tin.of 736 (by decide +kernel) rfl, by decide +kernel⟩
theorem ci_X5_costOf : CI yX5_costOf 5 := ⟨tin.of 735 (by decide +kernel) rfl, tin.ofP 51 (by decide +kernel) rfl, TX5, 6, rfl⟩
theorem cl_X9_275 : CL RX9 275 yX5_costOf cX5_costOf 4 (some .int) 1 := ⟨Or.inr ⟨_, tin.of (w := .methodLinkNest _ _ _ "PleaPapers") 733 (by decide +kernel) rfl⟩, mi_X5_costOf⟩
theorem mi_X7_draw : tin (.initialized yX7_draw.cls) ∧ tin (.code yX7_draw cX7_draw 2 (some .int)) ∧ (yX7_draw.cls ≠ "java/lang/invoke/MethodHandle" ∧ yX7_draw.cls ≠ "java/lang/invoke/VarHandle" ∧ (parseMethodDescriptor yX7_draw.desc).map (fun d => d.parameters.length) = some 1) := ⟨tin.of 5 (by decide +kernel) rfl, tin.of 777 (by decide +kernel) rfl, by decide +kernel⟩
theorem ci_X7_draw : CI yX7_draw 7 := ⟨tin.of 776 (by decide +kernel) rfl, tin.ofP 56 (by decide +kernel) rfl, TX7, 5, rfl⟩
theorem cl_X9_287 : CL RX9 287 yX7_draw cX7_draw 2 (some .int) 1 := ⟨Or.inr ⟨_, tin.of (w := .methodLinkNest _ _ _ "PleaPapers") 774 (by decide +kernel) rfl⟩, mi_X7_draw⟩
theorem mi_X1_coinsOwed : tin (.initialized yX1_coinsOwed.cls) ∧ tin (.code yX1_coinsOwed cX1_coinsOwed 4 (some .int)) ∧ (yX1_coinsOwed.cls ≠ "java/lang/invoke/MethodHandle" ∧ yX1_coinsOwed.cls ≠ "java/lang/invoke/VarHandle" ∧ (parseMethodDescriptor yX1_coinsOwed.desc).map (fun d => d.parameters.length) = some 1) := ⟨tin.of 6 (by decide +kernel) rfl, tin.of 785 (by decide +kernel) rfl, by decide +kernel⟩
theorem ci_X1_coinsOwed : CI yX1_coinsOwed 1 := ⟨tin.of 784 (by decide +kernel) rfl, tin.ofP 57 (by decide +kernel) rfl, TX1, 4, rfl⟩
theorem cl_X9_290 : CL RX9 290 yX1_coinsOwed cX1_coinsOwed 4 (some .int) 1 := ⟨Or.inr ⟨_, tin.of (w := .methodLinkNest _ _ _ "PleaPapers") 782 (by decide +kernel) rfl⟩, mi_X1_coinsOwed⟩
theorem mi_X7_copyFrom : tin (.initialized yX7_copyFrom.cls) ∧ tin (.code yX7_copyFrom cX7_copyFrom 2 none) ∧ (yX7_copyFrom.cls ≠ "java/lang/invoke/MethodHandle" ∧ yX7_copyFrom.cls ≠ "java/lang/invoke/VarHandle" ∧ (parseMethodDescriptor yX7_copyFrom.desc).map (fun d => d.parameters.length) = some 1) := ⟨tin.of 5 (by decide +kernel) rfl, tin.of 797 (by decide +kernel) rfl, by decide +kernel⟩
theorem ci_X7_copyFrom : CI yX7_copyFrom 7 := ⟨tin.of 796 (by decide +kernel) rfl, tin.ofP 58 (by decide +kernel) rfl, TX7, 5, rfl⟩
theorem cl_X9_296 : CL RX9 296 yX7_copyFrom cX7_copyFrom 2 none 1 := ⟨Or.inr ⟨_, tin.of (w := .methodLinkNest _ _ _ "PleaPapers") 794 (by decide +kernel) rfl⟩, mi_X7_copyFrom⟩
theorem mi_X5_notBrought : tin (.initialized yX5_notBrought.cls) ∧ tin (.code yX5_notBrought cX5_notBrought 6 (some .int)) ∧ (yX5_notBrought.cls ≠ "java/lang/invoke/MethodHandle" ∧ yX5_notBrought.cls ≠ "java/lang/invoke/VarHandle" ∧ (parseMethodDescriptor yX5_notBrought.desc).map (fun d => d.parameters.length) = some 2) := ⟨tin.of 8 (by decide +kernel) rfl, tin.of 749 (by decide +kernel) rfl, by decide +kernel⟩
theorem ci_X5_notBrought : CI yX5_notBrought 5 := ⟨tin.of 748 (by decide +kernel) rfl, tin.ofP 53 (by decide +kernel) rfl, TX5, 6, rfl⟩
theorem cl_X9_300 : CL RX9 300 yX5_notBrought cX5_notBrought 6 (some .int) 2 := ⟨Or.inr ⟨_, tin.of (w := .methodLinkNest _ _ _ "PleaPapers") 746 (by decide +kernel) rfl⟩, mi_X5_notBrought⟩
theorem mi_X8_begin : tin (.initialized yX8_begin.cls) ∧ tin (.code yX8_begin cX8_begin 1 none) ∧ (yX8_begin.cls ≠ "java/lang/invoke/MethodHandle" ∧ yX8_begin.cls ≠ "java/lang/invoke/VarHandle" ∧ (parseMethodDescriptor yX8_begin.desc).map (fun d => d.parameters.length) = some 0) := ⟨tin.of 2 (by decide +kernel) rfl, tin.of 362 (by decide +kernel) rfl, by decide +kernel⟩
theorem ci_X8_begin : CI yX8_begin 8 := ⟨tin.of 361 (by decide +kernel) rfl, tin.ofP 11 (by decide +kernel) rfl, TX8, 7, rfl⟩
theorem cl_X0_26 : CL RX0 26 yX8_begin cX8_begin 1 none 0 := ⟨Or.inr ⟨_, tin.of (w := .methodLinkNest _ _ _ "PleaPapers") 359 (by decide +kernel) rfl⟩, mi_X8_begin⟩
theorem mi_X8_takesWord : tin (.initialized yX8_takesWord.cls) ∧ tin (.code yX8_takesWord cX8_takesWord 3 (some .boolean)) ∧ (yX8_takesWord.cls ≠ "java/lang/invoke/MethodHandle" ∧ yX8_takesWord.cls ≠ "java/lang/invoke/VarHandle" ∧ (parseMethodDescriptor yX8_takesWord.desc).map (fun d => d.parameters.length) = some 1) := ⟨tin.of 2 (by decide +kernel) rfl, tin.of 379 (by decide +kernel) rfl, by decide +kernel⟩
theorem ci_X8_takesWord : CI yX8_takesWord 8 := ⟨tin.of 378 (by decide +kernel) rfl, tin.ofP 15 (by decide +kernel) rfl, TX8, 7, rfl⟩
theorem cl_X0_33 : CL RX0 33 yX8_takesWord cX8_takesWord 3 (some .boolean) 1 := ⟨Or.inr ⟨_, tin.of (w := .methodLinkNest _ _ _ "PleaPapers") 376 (by decide +kernel) rfl⟩, mi_X8_takesWord⟩
theorem cl_X0_39 : CL RX0 39 yX8_fail cX8_fail 2 none 1 := ⟨Or.inr ⟨_, tin.of (w := .methodLinkNest _ _ _ "PleaPapers") 437 (by decide +kernel) rfl⟩, mi_X8_fail⟩
theorem mi_X8_numberHere : tin (.initialized yX8_numberHere.cls) ∧ tin (.code yX8_numberHere cX8_numberHere 5 (some .int)) ∧ (yX8_numberHere.cls ≠ "java/lang/invoke/MethodHandle" ∧ yX8_numberHere.cls ≠ "java/lang/invoke/VarHandle" ∧ (parseMethodDescriptor yX8_numberHere.desc).map (fun d => d.parameters.length) = some 2) := ⟨tin.of 2 (by decide +kernel) rfl, tin.of 444 (by decide +kernel) rfl, by decide +kernel⟩
theorem ci_X8_numberHere : CI yX8_numberHere 8 := ⟨tin.of 443 (by decide +kernel) rfl, tin.ofP 19 (by decide +kernel) rfl, TX8, 7, rfl⟩
theorem cl_X0_43 : CL RX0 43 yX8_numberHere cX8_numberHere 5 (some .int) 2 := ⟨Or.inr ⟨_, tin.of (w := .methodLinkNest _ _ _ "PleaPapers") 441 (by decide +kernel) rfl⟩, mi_X8_numberHere⟩
theorem cl_X0_47 : CL RX0 47 yX8_isSound cX8_isSound 1 (some .boolean) 0 := ⟨Or.inr ⟨_, tin.of (w := .methodLinkNest _ _ _ "PleaPapers") 446 (by decide +kernel) rfl⟩, mi_X8_isSound⟩
theorem cl_X0_54 : CL RX0 54 yX8_next cX8_next 1 none 0 := ⟨Or.inr ⟨_, tin.of (w := .methodLinkNest _ _ _ "PleaPapers") 447 (by decide +kernel) rfl⟩, mi_X8_next⟩
theorem mi_X8_isAtEnd : tin (.initialized yX8_isAtEnd.cls) ∧ tin (.code yX8_isAtEnd cX8_isAtEnd 1 (some .boolean)) ∧ (yX8_isAtEnd.cls ≠ "java/lang/invoke/MethodHandle" ∧ yX8_isAtEnd.cls ≠ "java/lang/invoke/VarHandle" ∧ (parseMethodDescriptor yX8_isAtEnd.desc).map (fun d => d.parameters.length) = some 0) := ⟨tin.of 2 (by decide +kernel) rfl, tin.of 482 (by decide +kernel) rfl, by decide +kernel⟩
theorem ci_X8_isAtEnd : CI yX8_isAtEnd 8 := ⟨tin.of 481 (by decide +kernel) rfl, tin.ofP 24 (by decide +kernel) rfl, TX8, 7, rfl⟩
theorem cl_X0_63 : CL RX0 63 yX8_isAtEnd cX8_isAtEnd 1 (some .boolean) 0 := ⟨Or.inr ⟨_, tin.of (w := .methodLinkNest _ _ _ "PleaPapers") 479 (by decide +kernel) rfl⟩, mi_X8_isAtEnd⟩
theorem cl_X0_81 : CL RX0 81 yX8_isWord cX8_isWord 3 (some .boolean) 1 := ⟨Or.inr ⟨_, tin.of (w := .methodLinkNest _ _ _ "PleaPapers") 459 (by decide +kernel) rfl⟩, mi_X8_isWord⟩
theorem cl_X0_84 : CL RX0 84 yX8_isSign cX8_isSign 2 (some .boolean) 1 := ⟨Or.inr ⟨_, tin.of (w := .methodLinkNest _ _ _ "PleaPapers") 460 (by decide +kernel) rfl⟩, mi_X8_isSign⟩
theorem mi_X8_takesSign : tin (.initialized yX8_takesSign.cls) ∧ tin (.code yX8_takesSign cX8_takesSign 3 (some .boolean)) ∧ (yX8_takesSign.cls ≠ "java/lang/invoke/MethodHandle" ∧ yX8_takesSign.cls ≠ "java/lang/invoke/VarHandle" ∧ (parseMethodDescriptor yX8_takesSign.desc).map (fun d => d.parameters.length) = some 1) := ⟨tin.of 2 (by decide +kernel) rfl, tin.of 475 (by decide +kernel) rfl, by decide +kernel⟩
theorem ci_X8_takesSign : CI yX8_takesSign 8 := ⟨tin.of 474 (by decide +kernel) rfl, tin.ofP 23 (by decide +kernel) rfl, TX8, 7, rfl⟩
theorem cl_X0_92 : CL RX0 92 yX8_takesSign cX8_takesSign 3 (some .boolean) 1 := ⟨Or.inr ⟨_, tin.of (w := .methodLinkNest _ _ _ "PleaPapers") 472 (by decide +kernel) rfl⟩, mi_X8_takesSign⟩
theorem cl_X0_108 : CL RX0 108 yX9_has cX9_has 2 (some .boolean) 2 := ⟨Or.inr ⟨_, tin.of (w := .methodLinkNest _ _ _ "PleaPapers") 502 (by decide +kernel) rfl⟩, mi_X9_has⟩
theorem mi_X0_fillTable : tin (.initialized yX0_fillTable.cls) ∧ tin (.code yX0_fillTable cX0_fillTable 3 none) ∧ (yX0_fillTable.cls ≠ "java/lang/invoke/MethodHandle" ∧ yX0_fillTable.cls ≠ "java/lang/invoke/VarHandle" ∧ (parseMethodDescriptor yX0_fillTable.desc).map (fun d => d.parameters.length) = some 1) := ⟨tin.of 3 (by decide +kernel) rfl, tin.of 492 (by decide +kernel) rfl, by decide +kernel⟩
theorem ci_X0_fillTable : CI yX0_fillTable 0 := ⟨tin.of 491 (by decide +kernel) rfl, tin.ofP 26 (by decide +kernel) rfl, TX0, 5, rfl⟩
theorem cl_X1_35 : CL RX1 35 yX0_fillTable cX0_fillTable 3 none 1 := ⟨Or.inr ⟨_, tin.of (w := .methodLinkNest _ _ _ "PleaPapers") 489 (by decide +kernel) rfl⟩, mi_X0_fillTable⟩
theorem cl_X2_43 : CL RX2 43 yX9_has cX9_has 2 (some .boolean) 2 := ⟨Or.inr ⟨_, tin.of (w := .methodLinkNest _ _ _ "PleaPapers") 280 (by decide +kernel) rfl⟩, mi_X9_has⟩
theorem cl_X3_19 : CL RX3 19 yX8_begin cX8_begin 1 none 0 := ⟨Or.inr ⟨_, tin.of (w := .methodLinkNest _ _ _ "PleaPapers") 517 (by decide +kernel) rfl⟩, mi_X8_begin⟩
theorem cl_X3_24 : CL RX3 24 yX8_isSound cX8_isSound 1 (some .boolean) 0 := ⟨Or.inr ⟨_, tin.of (w := .methodLinkNest _ _ _ "PleaPapers") 518 (by decide +kernel) rfl⟩, mi_X8_isSound⟩
theorem cl_X3_28 : CL RX3 28 yX8_isAtEnd cX8_isAtEnd 1 (some .boolean) 0 := ⟨Or.inr ⟨_, tin.of (w := .methodLinkNest _ _ _ "PleaPapers") 519 (by decide +kernel) rfl⟩, mi_X8_isAtEnd⟩
theorem cl_X3_39 : CL RX3 39 yX8_fail cX8_fail 2 none 1 := ⟨Or.inr ⟨_, tin.of (w := .methodLinkNest _ _ _ "PleaPapers") 533 (by decide +kernel) rfl⟩, mi_X8_fail⟩
theorem cl_X3_43 : CL RX3 43 yX9_has cX9_has 2 (some .boolean) 2 := ⟨Or.inr ⟨_, tin.of (w := .methodLinkNest _ _ _ "PleaPapers") 534 (by decide +kernel) rfl⟩, mi_X9_has⟩
theorem cl_X3_47 : CL RX3 47 yX8_next cX8_next 1 none 0 := ⟨Or.inr ⟨_, tin.of (w := .methodLinkNest _ _ _ "PleaPapers") 535 (by decide +kernel) rfl⟩, mi_X8_next⟩
theorem cl_X3_54 : CL RX3 54 yX8_takesSign cX8_takesSign 3 (some .boolean) 1 := ⟨Or.inr ⟨_, tin.of (w := .methodLinkNest _ _ _ "PleaPapers") 547 (by decide +kernel) rfl⟩, mi_X8_takesSign⟩
theorem cl_X3_60 : CL RX3 60 yX8_isWord cX8_isWord 3 (some .boolean) 1 := ⟨Or.inr ⟨_, tin.of (w := .methodLinkNest _ _ _ "PleaPapers") 528 (by decide +kernel) rfl⟩, mi_X8_isWord⟩
theorem cl_X3_74 : CL RX3 74 yX8_takesWord cX8_takesWord 3 (some .boolean) 1 := ⟨Or.inr ⟨_, tin.of (w := .methodLinkNest _ _ _ "PleaPapers") 541 (by decide +kernel) rfl⟩, mi_X8_takesWord⟩
theorem cl_X3_77 : CL RX3 77 yX8_numberHere cX8_numberHere 5 (some .int) 2 := ⟨Or.inr ⟨_, tin.of (w := .methodLinkNest _ _ _ "PleaPapers") 542 (by decide +kernel) rfl⟩, mi_X8_numberHere⟩
theorem cl_X3_81 : CL RX3 81 yX9_isFact cX9_isFact 1 (some .boolean) 1 := ⟨Or.inr ⟨_, tin.of (w := .methodLinkNest _ _ _ "PleaPapers") 543 (by decide +kernel) rfl⟩, mi_X9_isFact⟩
theorem cl_X3_85 : CL RX3 85 yX2_allow cX2_allow 4 (some .boolean) 3 := ⟨Or.inr ⟨_, tin.of (w := .methodLinkNest _ _ _ "PleaPapers") 546 (by decide +kernel) rfl⟩, mi_X2_allow⟩
theorem cl_X5_32 : CL RX5 32 yX9_has cX9_has 2 (some .boolean) 2 := ⟨Or.inr ⟨_, tin.of (w := .methodLinkNest _ _ _ "PleaPapers") 737 (by decide +kernel) rfl⟩, mi_X9_has⟩
theorem cl_X6_31 : CL RX6 31 yX9_has cX9_has 2 (some .boolean) 2 := ⟨Or.inr ⟨_, tin.of (w := .methodLinkNest _ _ _ "PleaPapers") 707 (by decide +kernel) rfl⟩, mi_X9_has⟩
theorem cl_X6_35 : CL RX6 35 yX9_isFact cX9_isFact 1 (some .boolean) 1 := ⟨Or.inr ⟨_, tin.of (w := .methodLinkNest _ _ _ "PleaPapers") 708 (by decide +kernel) rfl⟩, mi_X9_isFact⟩
theorem cl_X6_42 : CL RX6 42 yX2_bearing cX2_bearing 3 (some .int) 2 := ⟨Or.inr ⟨_, tin.of (w := .methodLinkNest _ _ _ "PleaPapers") 709 (by decide +kernel) rfl⟩, mi_X2_bearing⟩
theorem cl_X6_79 : CL RX6 79 yX2_soBy cX2_soBy 2 (some .int) 1 := ⟨Or.inr ⟨_, tin.of (w := .methodLinkNest _ _ _ "PleaPapers") 723 (by decide +kernel) rfl⟩, mi_X2_soBy⟩
theorem cl_X6_83 : CL RX6 83 yX1_isOwed cX1_isOwed 3 (some .boolean) 2 := ⟨Or.inr ⟨_, tin.of (w := .methodLinkNest _ _ _ "PleaPapers") 724 (by decide +kernel) rfl⟩, mi_X1_isOwed⟩
theorem mi_X1_init : tin (.initialized yX1_init.cls) ∧ tin (.code yX1_init cX1_init 1 none) ∧ (yX1_init.cls ≠ "java/lang/invoke/MethodHandle" ∧ yX1_init.cls ≠ "java/lang/invoke/VarHandle" ∧ (parseMethodDescriptor yX1_init.desc).map (fun d => d.parameters.length) = some 0) := ⟨tin.of 6 (by decide +kernel) rfl, tin.of 107 (by decide +kernel) rfl, by decide +kernel⟩
theorem ii_X1_init : tin (.instanceMethod yX1_init) := tin.of 106 (by decide +kernel) rfl
theorem cl_X7_11 : CL RX7 11 yX1_init cX1_init 1 none 0 := ⟨Or.inr ⟨_, tin.of (w := .methodLinkNest _ _ _ "PleaPapers") 105 (by decide +kernel) rfl⟩, mi_X1_init⟩
theorem mi_X4_init : tin (.initialized yX4_init.cls) ∧ tin (.code yX4_init cX4_init 1 none) ∧ (yX4_init.cls ≠ "java/lang/invoke/MethodHandle" ∧ yX4_init.cls ≠ "java/lang/invoke/VarHandle" ∧ (parseMethodDescriptor yX4_init.desc).map (fun d => d.parameters.length) = some 0) := ⟨tin.of 7 (by decide +kernel) rfl, tin.of 133 (by decide +kernel) rfl, by decide +kernel⟩
theorem ii_X4_init : tin (.instanceMethod yX4_init) := tin.of 132 (by decide +kernel) rfl
theorem cl_X7_20 : CL RX7 20 yX4_init cX4_init 1 none 0 := ⟨Or.inr ⟨_, tin.of (w := .methodLinkNest _ _ _ "PleaPapers") 131 (by decide +kernel) rfl⟩, mi_X4_init⟩
theorem mi_X5_init : tin (.initialized yX5_init.cls) ∧ tin (.code yX5_init cX5_init 1 none) ∧ (yX5_init.cls ≠ "java/lang/invoke/MethodHandle" ∧ yX5_init.cls ≠ "java/lang/invoke/VarHandle" ∧ (parseMethodDescriptor yX5_init.desc).map (fun d => d.parameters.length) = some 0) := ⟨tin.of 8 (by decide +kernel) rfl, tin.of 160 (by decide +kernel) rfl, by decide +kernel⟩
theorem ii_X5_init : tin (.instanceMethod yX5_init) := tin.of 159 (by decide +kernel) rfl
theorem cl_X7_27 : CL RX7 27 yX5_init cX5_init 1 none 0 := ⟨Or.inr ⟨_, tin.of (w := .methodLinkNest _ _ _ "PleaPapers") 158 (by decide +kernel) rfl⟩, mi_X5_init⟩
theorem mi_X1_copyFrom : tin (.initialized yX1_copyFrom.cls) ∧ tin (.code yX1_copyFrom cX1_copyFrom 3 none) ∧ (yX1_copyFrom.cls ≠ "java/lang/invoke/MethodHandle" ∧ yX1_copyFrom.cls ≠ "java/lang/invoke/VarHandle" ∧ (parseMethodDescriptor yX1_copyFrom.desc).map (fun d => d.parameters.length) = some 1) := ⟨tin.of 6 (by decide +kernel) rfl, tin.of 801 (by decide +kernel) rfl, by decide +kernel⟩
theorem ci_X1_copyFrom : CI yX1_copyFrom 1 := ⟨tin.of 800 (by decide +kernel) rfl, tin.ofP 59 (by decide +kernel) rfl, TX1, 4, rfl⟩
theorem cl_X7_46 : CL RX7 46 yX1_copyFrom cX1_copyFrom 3 none 1 := ⟨Or.inr ⟨_, tin.of (w := .methodLinkNest _ _ _ "PleaPapers") 798 (by decide +kernel) rfl⟩, mi_X1_copyFrom⟩
theorem mi_X4_copyFrom : tin (.initialized yX4_copyFrom.cls) ∧ tin (.code yX4_copyFrom cX4_copyFrom 3 none) ∧ (yX4_copyFrom.cls ≠ "java/lang/invoke/MethodHandle" ∧ yX4_copyFrom.cls ≠ "java/lang/invoke/VarHandle" ∧ (parseMethodDescriptor yX4_copyFrom.desc).map (fun d => d.parameters.length) = some 1) := ⟨tin.of 7 (by decide +kernel) rfl, tin.of 806 (by decide +kernel) rfl, by decide +kernel⟩
theorem ci_X4_copyFrom : CI yX4_copyFrom 4 := ⟨tin.of 805 (by decide +kernel) rfl, tin.ofP 60 (by decide +kernel) rfl, TX4, 4, rfl⟩
theorem cl_X7_50 : CL RX7 50 yX4_copyFrom cX4_copyFrom 3 none 1 := ⟨Or.inr ⟨_, tin.of (w := .methodLinkNest _ _ _ "PleaPapers") 803 (by decide +kernel) rfl⟩, mi_X4_copyFrom⟩
theorem mi_X5_copyFrom : tin (.initialized yX5_copyFrom.cls) ∧ tin (.code yX5_copyFrom cX5_copyFrom 2 none) ∧ (yX5_copyFrom.cls ≠ "java/lang/invoke/MethodHandle" ∧ yX5_copyFrom.cls ≠ "java/lang/invoke/VarHandle" ∧ (parseMethodDescriptor yX5_copyFrom.desc).map (fun d => d.parameters.length) = some 1) := ⟨tin.of 8 (by decide +kernel) rfl, tin.of 810 (by decide +kernel) rfl, by decide +kernel⟩
theorem ci_X5_copyFrom : CI yX5_copyFrom 5 := ⟨tin.of 809 (by decide +kernel) rfl, tin.ofP 61 (by decide +kernel) rfl, TX5, 6, rfl⟩
theorem cl_X7_53 : CL RX7 53 yX5_copyFrom cX5_copyFrom 2 none 1 := ⟨Or.inr ⟨_, tin.of (w := .methodLinkNest _ _ _ "PleaPapers") 807 (by decide +kernel) rfl⟩, mi_X5_copyFrom⟩
theorem kn_X9_70 : tin (.constant RX9 70 (-100000002)) := tin.of 344 (by decide +kernel) rfl
theorem kn_X9_75 : tin (.constant RX9 75 (-100000004)) := tin.of 345 (by decide +kernel) rfl
theorem kn_X9_80 : tin (.constant RX9 80 (-100000003)) := tin.of 354 (by decide +kernel) rfl
theorem kn_X9_143 : tin (.constant RX9 143 (-100000001)) := tin.of 578 (by decide +kernel) rfl
theorem kn_X1_27 : tin (.constant RX1 27 (-100000004)) := tin.of 488 (by decide +kernel) rfl
theorem kn_X4_24 : tin (.constant RX4 24 (-100000004)) := tin.of 552 (by decide +kernel) rfl
theorem kn_X5_28 : tin (.constant RX5 28 (-100000004)) := tin.of 678 (by decide +kernel) rfl
theorem kn_X6_65 : tin (.constant RX6 65 (1000000)) := tin.of 719 (by decide +kernel) rfl
theorem kn_X7_45 : tin (.constant RX7 45 (65536)) := tin.of 781 (by decide +kernel) rfl
theorem kn_X10_135 : tin (.constant RX10 135 (-100000002)) := tin.of 966 (by decide +kernel) rfl
theorem kn_X10_139 : tin (.constant RX10 139 (-100000004)) := tin.of 967 (by decide +kernel) rfl
theorem kn_X10_177 : tin (.constant RX10 177 (99999)) := tin.of 1006 (by decide +kernel) rfl
theorem kn_X10_221 : tin (.constant RX10 221 (-100000003)) := tin.of 977 (by decide +kernel) rfl
theorem kn_X10_264 : tin (.constant RX10 264 (-100000001)) := tin.of 1111 (by decide +kernel) rfl
theorem kn_X10_358 : tin (.constant RX10 358 (65536)) := tin.of 1289 (by decide +kernel) rfl
theorem kn_J6_265 : tin (.constant RJ6 265 (1431655765)) := tin.of 597 (by decide +kernel) rfl
theorem kn_J6_266 : tin (.constant RJ6 266 (858993459)) := tin.of 598 (by decide +kernel) rfl
theorem kn_J6_267 : tin (.constant RJ6 267 (252645135)) := tin.of 599 (by decide +kernel) rfl
theorem kn_X0_103 : tin (.constantLong RX0 103 (-1)) := tin.of 503 (by decide +kernel) rfl
theorem kn_X7_39 : tin (.constantLong RX7 39 (1103515245)) := tin.of 778 (by decide +kernel) rfl
theorem kn_X7_41 : tin (.constantLong RX7 41 (12345)) := tin.of 779 (by decide +kernel) rfl
theorem kn_X7_43 : tin (.constantLong RX7 43 (2147483647)) := tin.of 780 (by decide +kernel) rfl
theorem kn_L_13 : tin (.constantLong RL 13 (4294967295)) := tin.of 1302 (by decide +kernel) rfl
theorem kn_X10_129 : tin (.constantLong RX10 129 (8)) := tin.of 962 (by decide +kernel) rfl
theorem kn_X10_140 : tin (.constantLong RX10 140 (255)) := tin.of 968 (by decide +kernel) rfl
theorem kn_X10_155 : tin (.constantLong RX10 155 (97)) := tin.of 990 (by decide +kernel) rfl
theorem kn_X10_157 : tin (.constantLong RX10 157 (122)) := tin.of 991 (by decide +kernel) rfl
theorem kn_X10_169 : tin (.constantLong RX10 169 (48)) := tin.of 1004 (by decide +kernel) rfl
theorem kn_X10_171 : tin (.constantLong RX10 171 (57)) := tin.of 1005 (by decide +kernel) rfl
theorem kn_X10_245 : tin (.constantLong RX10 245 (999)) := tin.of 1047 (by decide +kernel) rfl
theorem kn_X10_253 : tin (.constantLong RX10 253 (99)) := tin.of 1094 (by decide +kernel) rfl
theorem kn_X10_259 : tin (.constantLong RX10 259 (11)) := tin.of 1110 (by decide +kernel) rfl
theorem kn_X10_305 : tin (.constantLong RX10 305 (1000)) := tin.of 1194 (by decide +kernel) rfl
theorem kn_X10_316 : tin (.constantLong RX10 316 (1000000)) := tin.of 1227 (by decide +kernel) rfl
theorem kn_X10_333 : tin (.constantLong RX10 333 (9999)) := tin.of 1248 (by decide +kernel) rfl
theorem kn_X10_335 : tin (.constantLong RX10 335 (2)) := tin.of 1249 (by decide +kernel) rfl
theorem kn_X10_352 : tin (.constantLong RX10 352 (1103515245)) := tin.of 1286 (by decide +kernel) rfl
theorem kn_X10_354 : tin (.constantLong RX10 354 (12345)) := tin.of 1287 (by decide +kernel) rfl
theorem kn_X10_356 : tin (.constantLong RX10 356 (2147483648)) := tin.of 1288 (by decide +kernel) rfl
theorem kc_X9_7 : tin (.classLink RX9 7 RX8) := tin.of 26 (by decide +kernel) rfl
theorem kc_X9_16 : tin (.classLink RX9 16 RX0) := tin.of 58 (by decide +kernel) rfl
theorem kc_X9_23 : tin (.classLink RX9 23 RX3) := tin.of 83 (by decide +kernel) rfl
theorem kc_X9_30 : tin (.classLink RX9 30 RX7) := tin.of 97 (by decide +kernel) rfl
theorem kc_X9_37 : tin (.classLink RX9 37 RX2) := tin.of 214 (by decide +kernel) rfl
theorem kc_X9_47 : tin (.classLink RX9 47 RX6) := tin.of 256 (by decide +kernel) rfl
theorem kc_X1_18 : tin (.classLink RX1 18 "[[J") := tin.of 109 (by decide +kernel) rfl
theorem kc_X4_15 : tin (.classLink RX4 15 "[[I") := tin.of 135 (by decide +kernel) rfl
theorem kc_X7_9 : tin (.classLink RX7 9 RX1) := tin.of 103 (by decide +kernel) rfl
theorem kc_X7_18 : tin (.classLink RX7 18 RX4) := tin.of 129 (by decide +kernel) rfl
theorem kc_X7_25 : tin (.classLink RX7 25 RX5) := tin.of 156 (by decide +kernel) rfl
theorem kc_L_7 : tin (.classLink RL 7 RX9) := tin.of 18 (by decide +kernel) rfl
theorem kc_L_10 : tin (.classLink RL 10 RX10) := tin.of 816 (by decide +kernel) rfl
theorem kp_X9 : tin (.instantiable RX9 9) ∧ tin (.initialized RX9) := ⟨tin.of 19 (by decide +kernel) rfl, tin.of 1 (by decide +kernel) rfl⟩
theorem kp_X0 : tin (.instantiable RX0 5) ∧ tin (.initialized RX0) := ⟨tin.of 59 (by decide +kernel) rfl, tin.of 3 (by decide +kernel) rfl⟩
theorem kp_X1 : tin (.instantiable RX1 4) ∧ tin (.initialized RX1) := ⟨tin.of 104 (by decide +kernel) rfl, tin.of 6 (by decide +kernel) rfl⟩
theorem kp_X2 : tin (.instantiable RX2 9) ∧ tin (.initialized RX2) := ⟨tin.of 215 (by decide +kernel) rfl, tin.of 9 (by decide +kernel) rfl⟩
theorem kp_X3 : tin (.instantiable RX3 2) ∧ tin (.initialized RX3) := ⟨tin.of 84 (by decide +kernel) rfl, tin.of 4 (by decide +kernel) rfl⟩
theorem kp_X4 : tin (.instantiable RX4 4) ∧ tin (.initialized RX4) := ⟨tin.of 130 (by decide +kernel) rfl, tin.of 7 (by decide +kernel) rfl⟩
theorem kp_X5 : tin (.instantiable RX5 6) ∧ tin (.initialized RX5) := ⟨tin.of 157 (by decide +kernel) rfl, tin.of 8 (by decide +kernel) rfl⟩
theorem kp_X6 : tin (.instantiable RX6 2) ∧ tin (.initialized RX6) := ⟨tin.of 257 (by decide +kernel) rfl, tin.of 10 (by decide +kernel) rfl⟩
theorem kp_X7 : tin (.instantiable RX7 5) ∧ tin (.initialized RX7) := ⟨tin.of 98 (by decide +kernel) rfl, tin.of 5 (by decide +kernel) rfl⟩
theorem kp_X8 : tin (.instantiable RX8 7) ∧ tin (.initialized RX8) := ⟨tin.of 27 (by decide +kernel) rfl, tin.of 2 (by decide +kernel) rfl⟩
theorem kp_X10 : tin (.instantiable RX10 45) ∧ tin (.initialized RX10) := ⟨tin.of 817 (by decide +kernel) rfl, tin.of 11 (by decide +kernel) rfl⟩
