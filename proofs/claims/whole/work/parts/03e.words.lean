/-! ===== the words that the walks need, by their places ===== -/
theorem uwX0_0 : u_lay RX0 TX0 0 ∈ TT := TT_at 145 (by decide +kernel) (by decide +kernel)
theorem uwX0_1 : u_lay RX0 TX0 1 ∈ TT := TT_at 147 (by decide +kernel) (by decide +kernel)
theorem uwX0_2 : u_lay RX0 TX0 2 ∈ TT := TT_at 149 (by decide +kernel) (by decide +kernel)
theorem uwX0_3 : u_lay RX0 TX0 3 ∈ TT := TT_at 151 (by decide +kernel) (by decide +kernel)
theorem uwX0 : ∀ w ∈ u_ws RX0 TX0 4, w ∈ TT := by
  intro w hw
  obtain ⟨k, hk, rfl⟩ := List.mem_map.mp hw
  have hk := List.mem_range.mp hk
  rcases (by omega : k = 0 ∨ k = 1 ∨ k = 2 ∨ k = 3) with rfl | rfl | rfl | rfl
  · exact uwX0_0
  · exact uwX0_1
  · exact uwX0_2
  · exact uwX0_3
theorem uwX1_0 : u_lay RX1 TX1 0 ∈ TT := TT_at 172 (by decide +kernel) (by decide +kernel)
theorem uwX1_1 : u_lay RX1 TX1 1 ∈ TT := TT_at 174 (by decide +kernel) (by decide +kernel)
theorem uwX1 : ∀ w ∈ u_ws RX1 TX1 2, w ∈ TT := by
  intro w hw
  obtain ⟨k, hk, rfl⟩ := List.mem_map.mp hw
  have hk := List.mem_range.mp hk
  rcases (by omega : k = 0 ∨ k = 1) with rfl | rfl
  · exact uwX1_0
  · exact uwX1_1
theorem uwX2_0 : u_lay RX2 TX2 0 ∈ TT := TT_at 53 (by decide +kernel) (by decide +kernel)
theorem uwX2_1 : u_lay RX2 TX2 1 ∈ TT := TT_at 55 (by decide +kernel) (by decide +kernel)
theorem uwX2_2 : u_lay RX2 TX2 2 ∈ TT := TT_at 57 (by decide +kernel) (by decide +kernel)
theorem uwX2_3 : u_lay RX2 TX2 3 ∈ TT := TT_at 59 (by decide +kernel) (by decide +kernel)
theorem uwX2_4 : u_lay RX2 TX2 4 ∈ TT := TT_at 61 (by decide +kernel) (by decide +kernel)
theorem uwX2_5 : u_lay RX2 TX2 5 ∈ TT := TT_at 63 (by decide +kernel) (by decide +kernel)
theorem uwX2_6 : u_lay RX2 TX2 6 ∈ TT := TT_at 65 (by decide +kernel) (by decide +kernel)
theorem uwX2_7 : u_lay RX2 TX2 7 ∈ TT := TT_at 67 (by decide +kernel) (by decide +kernel)
theorem uwX2_8 : u_lay RX2 TX2 8 ∈ TT := TT_at 69 (by decide +kernel) (by decide +kernel)
theorem uwX2_9 : u_lay RX2 TX2 9 ∈ TT := TT_at 71 (by decide +kernel) (by decide +kernel)
theorem uwX2 : ∀ w ∈ u_ws RX2 TX2 10, w ∈ TT := by
  intro w hw
  obtain ⟨k, hk, rfl⟩ := List.mem_map.mp hw
  have hk := List.mem_range.mp hk
  rcases (by omega : k = 0 ∨ k = 1 ∨ k = 2 ∨ k = 3 ∨ k = 4 ∨ k = 5 ∨ k = 6 ∨ k = 7 ∨ k = 8 ∨ k = 9) with rfl | rfl | rfl | rfl | rfl | rfl | rfl | rfl | rfl | rfl
  · exact uwX2_0
  · exact uwX2_1
  · exact uwX2_2
  · exact uwX2_3
  · exact uwX2_4
  · exact uwX2_5
  · exact uwX2_6
  · exact uwX2_7
  · exact uwX2_8
  · exact uwX2_9
theorem uwX3_0 : u_lay RX3 TX3 0 ∈ TT := TT_at 89 (by decide +kernel) (by decide +kernel)
theorem uwX3_1 : u_lay RX3 TX3 1 ∈ TT := TT_at 91 (by decide +kernel) (by decide +kernel)
theorem uwX3_2 : u_lay RX3 TX3 2 ∈ TT := TT_at 93 (by decide +kernel) (by decide +kernel)
theorem uwX3_3 : u_lay RX3 TX3 3 ∈ TT := TT_at 95 (by decide +kernel) (by decide +kernel)
theorem uwX3_4 : u_lay RX3 TX3 4 ∈ TT := TT_at 97 (by decide +kernel) (by decide +kernel)
theorem uwX3_5 : u_lay RX3 TX3 5 ∈ TT := TT_at 99 (by decide +kernel) (by decide +kernel)
theorem uwX3 : ∀ w ∈ u_ws RX3 TX3 6, w ∈ TT := by
  intro w hw
  obtain ⟨k, hk, rfl⟩ := List.mem_map.mp hw
  have hk := List.mem_range.mp hk
  rcases (by omega : k = 0 ∨ k = 1 ∨ k = 2 ∨ k = 3 ∨ k = 4 ∨ k = 5) with rfl | rfl | rfl | rfl | rfl | rfl
  · exact uwX3_0
  · exact uwX3_1
  · exact uwX3_2
  · exact uwX3_3
  · exact uwX3_4
  · exact uwX3_5
theorem uwX4_0 : u_lay RX4 TX4 0 ∈ TT := TT_at 194 (by decide +kernel) (by decide +kernel)
theorem uwX4_1 : u_lay RX4 TX4 1 ∈ TT := TT_at 196 (by decide +kernel) (by decide +kernel)
theorem uwX4_2 : u_lay RX4 TX4 2 ∈ TT := TT_at 198 (by decide +kernel) (by decide +kernel)
theorem uwX4_3 : u_lay RX4 TX4 3 ∈ TT := TT_at 200 (by decide +kernel) (by decide +kernel)
theorem uwX4_4 : u_lay RX4 TX4 4 ∈ TT := TT_at 202 (by decide +kernel) (by decide +kernel)
theorem uwX4 : ∀ w ∈ u_ws RX4 TX4 5, w ∈ TT := by
  intro w hw
  obtain ⟨k, hk, rfl⟩ := List.mem_map.mp hw
  have hk := List.mem_range.mp hk
  rcases (by omega : k = 0 ∨ k = 1 ∨ k = 2 ∨ k = 3 ∨ k = 4) with rfl | rfl | rfl | rfl | rfl
  · exact uwX4_0
  · exact uwX4_1
  · exact uwX4_2
  · exact uwX4_3
  · exact uwX4_4
theorem uwX5_0 : u_lay RX5 TX5 0 ∈ TT := TT_at 132 (by decide +kernel) (by decide +kernel)
theorem uwX5 : ∀ w ∈ u_ws RX5 TX5 1, w ∈ TT := by
  intro w hw
  obtain ⟨k, hk, rfl⟩ := List.mem_map.mp hw
  have hk := List.mem_range.mp hk
  rcases (by omega : k = 0) with rfl
  · exact uwX5_0
theorem uwX6_0 : u_lay RX6 TX6 0 ∈ TT := TT_at 161 (by decide +kernel) (by decide +kernel)
theorem uwX6 : ∀ w ∈ u_ws RX6 TX6 1, w ∈ TT := by
  intro w hw
  obtain ⟨k, hk, rfl⟩ := List.mem_map.mp hw
  have hk := List.mem_range.mp hk
  rcases (by omega : k = 0) with rfl
  · exact uwX6_0
theorem uwX7_0 : u_lay RX7 TX7 0 ∈ TT := TT_at 114 (by decide +kernel) (by decide +kernel)
theorem uwX7_1 : u_lay RX7 TX7 1 ∈ TT := TT_at 116 (by decide +kernel) (by decide +kernel)
theorem uwX7_2 : u_lay RX7 TX7 2 ∈ TT := TT_at 118 (by decide +kernel) (by decide +kernel)
theorem uwX7_3 : u_lay RX7 TX7 3 ∈ TT := TT_at 120 (by decide +kernel) (by decide +kernel)
theorem uwX7_4 : u_lay RX7 TX7 4 ∈ TT := TT_at 122 (by decide +kernel) (by decide +kernel)
theorem uwX7 : ∀ w ∈ u_ws RX7 TX7 5, w ∈ TT := by
  intro w hw
  obtain ⟨k, hk, rfl⟩ := List.mem_map.mp hw
  have hk := List.mem_range.mp hk
  rcases (by omega : k = 0 ∨ k = 1 ∨ k = 2 ∨ k = 3 ∨ k = 4) with rfl | rfl | rfl | rfl | rfl
  · exact uwX7_0
  · exact uwX7_1
  · exact uwX7_2
  · exact uwX7_3
  · exact uwX7_4
theorem uwX8_0 : u_lay RX8 TX8 0 ∈ TT := TT_at 217 (by decide +kernel) (by decide +kernel)
theorem uwX8_1 : u_lay RX8 TX8 1 ∈ TT := TT_at 219 (by decide +kernel) (by decide +kernel)
theorem uwX8_2 : u_lay RX8 TX8 2 ∈ TT := TT_at 221 (by decide +kernel) (by decide +kernel)
theorem uwX8_3 : u_lay RX8 TX8 3 ∈ TT := TT_at 223 (by decide +kernel) (by decide +kernel)
theorem uwX8_4 : u_lay RX8 TX8 4 ∈ TT := TT_at 225 (by decide +kernel) (by decide +kernel)
theorem uwX8 : ∀ w ∈ u_ws RX8 TX8 5, w ∈ TT := by
  intro w hw
  obtain ⟨k, hk, rfl⟩ := List.mem_map.mp hw
  have hk := List.mem_range.mp hk
  rcases (by omega : k = 0 ∨ k = 1 ∨ k = 2 ∨ k = 3 ∨ k = 4) with rfl | rfl | rfl | rfl | rfl
  · exact uwX8_0
  · exact uwX8_1
  · exact uwX8_2
  · exact uwX8_3
  · exact uwX8_4
theorem uwX9_0 : u_lay RX9 TX9 0 ∈ TT := TT_at 239 (by decide +kernel) (by decide +kernel)
theorem uwX9_1 : u_lay RX9 TX9 1 ∈ TT := TT_at 241 (by decide +kernel) (by decide +kernel)
theorem uwX9_2 : u_lay RX9 TX9 2 ∈ TT := TT_at 243 (by decide +kernel) (by decide +kernel)
theorem uwX9_3 : u_lay RX9 TX9 3 ∈ TT := TT_at 245 (by decide +kernel) (by decide +kernel)
theorem uwX9_4 : u_lay RX9 TX9 4 ∈ TT := TT_at 247 (by decide +kernel) (by decide +kernel)
theorem uwX9_5 : u_lay RX9 TX9 5 ∈ TT := TT_at 249 (by decide +kernel) (by decide +kernel)
theorem uwX9_6 : u_lay RX9 TX9 6 ∈ TT := TT_at 251 (by decide +kernel) (by decide +kernel)
theorem uwX9_7 : u_lay RX9 TX9 7 ∈ TT := TT_at 253 (by decide +kernel) (by decide +kernel)
theorem uwX9_8 : u_lay RX9 TX9 8 ∈ TT := TT_at 255 (by decide +kernel) (by decide +kernel)
theorem uwX9_9 : u_lay RX9 TX9 9 ∈ TT := TT_at 257 (by decide +kernel) (by decide +kernel)
theorem uwX9_10 : u_lay RX9 TX9 10 ∈ TT := TT_at 259 (by decide +kernel) (by decide +kernel)
theorem uwX9 : ∀ w ∈ u_ws RX9 TX9 11, w ∈ TT := by
  intro w hw
  obtain ⟨k, hk, rfl⟩ := List.mem_map.mp hw
  have hk := List.mem_range.mp hk
  rcases (by omega : k = 0 ∨ k = 1 ∨ k = 2 ∨ k = 3 ∨ k = 4 ∨ k = 5 ∨ k = 6 ∨ k = 7 ∨ k = 8 ∨ k = 9 ∨ k = 10) with rfl | rfl | rfl | rfl | rfl | rfl | rfl | rfl | rfl | rfl | rfl
  · exact uwX9_0
  · exact uwX9_1
  · exact uwX9_2
  · exact uwX9_3
  · exact uwX9_4
  · exact uwX9_5
  · exact uwX9_6
  · exact uwX9_7
  · exact uwX9_8
  · exact uwX9_9
  · exact uwX9_10
theorem uwX10_0 : u_lay RX10 TX10 0 ∈ TT := TT_at 1019 (by decide +kernel) (by decide +kernel)
theorem uwX10_1 : u_lay RX10 TX10 1 ∈ TT := TT_at 1021 (by decide +kernel) (by decide +kernel)
theorem uwX10_2 : u_lay RX10 TX10 2 ∈ TT := TT_at 1023 (by decide +kernel) (by decide +kernel)
theorem uwX10_3 : u_lay RX10 TX10 3 ∈ TT := TT_at 1025 (by decide +kernel) (by decide +kernel)
theorem uwX10_4 : u_lay RX10 TX10 4 ∈ TT := TT_at 1027 (by decide +kernel) (by decide +kernel)
theorem uwX10_5 : u_lay RX10 TX10 5 ∈ TT := TT_at 1029 (by decide +kernel) (by decide +kernel)
theorem uwX10_6 : u_lay RX10 TX10 6 ∈ TT := TT_at 1031 (by decide +kernel) (by decide +kernel)
theorem uwX10_7 : u_lay RX10 TX10 7 ∈ TT := TT_at 1033 (by decide +kernel) (by decide +kernel)
theorem uwX10_8 : u_lay RX10 TX10 8 ∈ TT := TT_at 1035 (by decide +kernel) (by decide +kernel)
theorem uwX10_9 : u_lay RX10 TX10 9 ∈ TT := TT_at 1037 (by decide +kernel) (by decide +kernel)
theorem uwX10_10 : u_lay RX10 TX10 10 ∈ TT := TT_at 1039 (by decide +kernel) (by decide +kernel)
theorem uwX10_11 : u_lay RX10 TX10 11 ∈ TT := TT_at 1041 (by decide +kernel) (by decide +kernel)
theorem uwX10_12 : u_lay RX10 TX10 12 ∈ TT := TT_at 1043 (by decide +kernel) (by decide +kernel)
theorem uwX10_13 : u_lay RX10 TX10 13 ∈ TT := TT_at 1045 (by decide +kernel) (by decide +kernel)
theorem uwX10_14 : u_lay RX10 TX10 14 ∈ TT := TT_at 1047 (by decide +kernel) (by decide +kernel)
theorem uwX10_15 : u_lay RX10 TX10 15 ∈ TT := TT_at 1049 (by decide +kernel) (by decide +kernel)
theorem uwX10_16 : u_lay RX10 TX10 16 ∈ TT := TT_at 1051 (by decide +kernel) (by decide +kernel)
theorem uwX10_17 : u_lay RX10 TX10 17 ∈ TT := TT_at 1053 (by decide +kernel) (by decide +kernel)
theorem uwX10_18 : u_lay RX10 TX10 18 ∈ TT := TT_at 1055 (by decide +kernel) (by decide +kernel)
theorem uwX10_19 : u_lay RX10 TX10 19 ∈ TT := TT_at 1057 (by decide +kernel) (by decide +kernel)
theorem uwX10_20 : u_lay RX10 TX10 20 ∈ TT := TT_at 1059 (by decide +kernel) (by decide +kernel)
theorem uwX10_21 : u_lay RX10 TX10 21 ∈ TT := TT_at 1061 (by decide +kernel) (by decide +kernel)
theorem uwX10_22 : u_lay RX10 TX10 22 ∈ TT := TT_at 1063 (by decide +kernel) (by decide +kernel)
theorem uwX10_23 : u_lay RX10 TX10 23 ∈ TT := TT_at 1065 (by decide +kernel) (by decide +kernel)
theorem uwX10_24 : u_lay RX10 TX10 24 ∈ TT := TT_at 1067 (by decide +kernel) (by decide +kernel)
theorem uwX10_25 : u_lay RX10 TX10 25 ∈ TT := TT_at 1069 (by decide +kernel) (by decide +kernel)
theorem uwX10_26 : u_lay RX10 TX10 26 ∈ TT := TT_at 1071 (by decide +kernel) (by decide +kernel)
theorem uwX10_27 : u_lay RX10 TX10 27 ∈ TT := TT_at 1073 (by decide +kernel) (by decide +kernel)
theorem uwX10_28 : u_lay RX10 TX10 28 ∈ TT := TT_at 1075 (by decide +kernel) (by decide +kernel)
theorem uwX10_29 : u_lay RX10 TX10 29 ∈ TT := TT_at 1077 (by decide +kernel) (by decide +kernel)
theorem uwX10_30 : u_lay RX10 TX10 30 ∈ TT := TT_at 1079 (by decide +kernel) (by decide +kernel)
theorem uwX10_31 : u_lay RX10 TX10 31 ∈ TT := TT_at 1081 (by decide +kernel) (by decide +kernel)
theorem uwX10_32 : u_lay RX10 TX10 32 ∈ TT := TT_at 1083 (by decide +kernel) (by decide +kernel)
theorem uwX10_33 : u_lay RX10 TX10 33 ∈ TT := TT_at 1085 (by decide +kernel) (by decide +kernel)
theorem uwX10_34 : u_lay RX10 TX10 34 ∈ TT := TT_at 1087 (by decide +kernel) (by decide +kernel)
theorem uwX10_35 : u_lay RX10 TX10 35 ∈ TT := TT_at 1089 (by decide +kernel) (by decide +kernel)
theorem uwX10_36 : u_lay RX10 TX10 36 ∈ TT := TT_at 1091 (by decide +kernel) (by decide +kernel)
theorem uwX10_37 : u_lay RX10 TX10 37 ∈ TT := TT_at 1093 (by decide +kernel) (by decide +kernel)
theorem uwX10_38 : u_lay RX10 TX10 38 ∈ TT := TT_at 1095 (by decide +kernel) (by decide +kernel)
theorem uwX10_39 : u_lay RX10 TX10 39 ∈ TT := TT_at 1097 (by decide +kernel) (by decide +kernel)
theorem uwX10_40 : u_lay RX10 TX10 40 ∈ TT := TT_at 1099 (by decide +kernel) (by decide +kernel)
theorem uwX10_41 : u_lay RX10 TX10 41 ∈ TT := TT_at 1101 (by decide +kernel) (by decide +kernel)
theorem uwX10_42 : u_lay RX10 TX10 42 ∈ TT := TT_at 1103 (by decide +kernel) (by decide +kernel)
theorem uwX10_43 : u_lay RX10 TX10 43 ∈ TT := TT_at 1105 (by decide +kernel) (by decide +kernel)
theorem uwX10_44 : u_lay RX10 TX10 44 ∈ TT := TT_at 1107 (by decide +kernel) (by decide +kernel)
theorem uwX10_45 : u_lay RX10 TX10 45 ∈ TT := TT_at 1109 (by decide +kernel) (by decide +kernel)
theorem uwX10_46 : u_lay RX10 TX10 46 ∈ TT := TT_at 1111 (by decide +kernel) (by decide +kernel)
theorem uwX10_47 : u_lay RX10 TX10 47 ∈ TT := TT_at 1113 (by decide +kernel) (by decide +kernel)
theorem uwX10_48 : u_lay RX10 TX10 48 ∈ TT := TT_at 1115 (by decide +kernel) (by decide +kernel)
theorem uwX10 : ∀ w ∈ u_ws RX10 TX10 49, w ∈ TT := by
  intro w hw
  obtain ⟨k, hk, rfl⟩ := List.mem_map.mp hw
  have hk := List.mem_range.mp hk
  rcases (by omega : k = 0 ∨ k = 1 ∨ k = 2 ∨ k = 3 ∨ k = 4 ∨ k = 5 ∨ k = 6 ∨ k = 7 ∨ k = 8 ∨ k = 9 ∨ k = 10 ∨ k = 11 ∨ k = 12 ∨ k = 13 ∨ k = 14 ∨ k = 15 ∨ k = 16 ∨ k = 17 ∨ k = 18 ∨ k = 19 ∨ k = 20 ∨ k = 21 ∨ k = 22 ∨ k = 23 ∨ k = 24 ∨ k = 25 ∨ k = 26 ∨ k = 27 ∨ k = 28 ∨ k = 29 ∨ k = 30 ∨ k = 31 ∨ k = 32 ∨ k = 33 ∨ k = 34 ∨ k = 35 ∨ k = 36 ∨ k = 37 ∨ k = 38 ∨ k = 39 ∨ k = 40 ∨ k = 41 ∨ k = 42 ∨ k = 43 ∨ k = 44 ∨ k = 45 ∨ k = 46 ∨ k = 47 ∨ k = 48) with rfl | rfl | rfl | rfl | rfl | rfl | rfl | rfl | rfl | rfl | rfl | rfl | rfl | rfl | rfl | rfl | rfl | rfl | rfl | rfl | rfl | rfl | rfl | rfl | rfl | rfl | rfl | rfl | rfl | rfl | rfl | rfl | rfl | rfl | rfl | rfl | rfl | rfl | rfl | rfl | rfl | rfl | rfl | rfl | rfl | rfl | rfl | rfl | rfl
  · exact uwX10_0
  · exact uwX10_1
  · exact uwX10_2
  · exact uwX10_3
  · exact uwX10_4
  · exact uwX10_5
  · exact uwX10_6
  · exact uwX10_7
  · exact uwX10_8
  · exact uwX10_9
  · exact uwX10_10
  · exact uwX10_11
  · exact uwX10_12
  · exact uwX10_13
  · exact uwX10_14
  · exact uwX10_15
  · exact uwX10_16
  · exact uwX10_17
  · exact uwX10_18
  · exact uwX10_19
  · exact uwX10_20
  · exact uwX10_21
  · exact uwX10_22
  · exact uwX10_23
  · exact uwX10_24
  · exact uwX10_25
  · exact uwX10_26
  · exact uwX10_27
  · exact uwX10_28
  · exact uwX10_29
  · exact uwX10_30
  · exact uwX10_31
  · exact uwX10_32
  · exact uwX10_33
  · exact uwX10_34
  · exact uwX10_35
  · exact uwX10_36
  · exact uwX10_37
  · exact uwX10_38
  · exact uwX10_39
  · exact uwX10_40
  · exact uwX10_41
  · exact uwX10_42
  · exact uwX10_43
  · exact uwX10_44
  · exact uwX10_45
  · exact uwX10_46
  · exact uwX10_47
  · exact uwX10_48
theorem fkX0_11 : fOK RX0 11 0 0 := ⟨RX0, TX0, 4, tyX0, rfl, by decide, TT_at 141 (by decide +kernel) (by decide +kernel), uwX0, tyX0_ok, nmX0⟩
theorem fkX0_15 : fOK RX0 15 0 1 := ⟨RX0, TX0, 4, tyX0, rfl, by decide, TT_at 142 (by decide +kernel) (by decide +kernel), uwX0, tyX0_ok, nmX0⟩
theorem fkX0_18 : fOK RX0 18 0 2 := ⟨RX0, TX0, 4, tyX0, rfl, by decide, TT_at 143 (by decide +kernel) (by decide +kernel), uwX0, tyX0_ok, nmX0⟩
theorem fkX0_22 : fOK RX0 22 0 3 := ⟨RX0, TX0, 4, tyX0, rfl, by decide, TT_at 144 (by decide +kernel) (by decide +kernel), uwX0, tyX0_ok, nmX0⟩
theorem fkX0_60 : fOK RX0 60 2 0 := ⟨RX2, TX2, 10, tyX2, rfl, by decide, TT_at 36 (by decide +kernel) (by decide +kernel), uwX2, tyX2_ok, nmX2⟩
theorem fkX1_9 : fOK RX1 9 1 0 := ⟨RX1, TX1, 2, tyX1, rfl, by decide, TT_at 170 (by decide +kernel) (by decide +kernel), uwX1, tyX1_ok, nmX1⟩
theorem fkX1_15 : fOK RX1 15 1 1 := ⟨RX1, TX1, 2, tyX1, rfl, by decide, TT_at 171 (by decide +kernel) (by decide +kernel), uwX1, tyX1_ok, nmX1⟩
theorem fkX1_19 : fOK RX1 19 8 2 := ⟨RX8, TX8, 5, tyX8, rfl, by decide, TT_at 210 (by decide +kernel) (by decide +kernel), uwX8, tyX8_ok, nmX8⟩
theorem fkX2_9 : fOK RX2 9 2 0 := ⟨RX2, TX2, 10, tyX2, rfl, by decide, TT_at 35 (by decide +kernel) (by decide +kernel), uwX2, tyX2_ok, nmX2⟩
theorem fkX2_15 : fOK RX2 15 2 1 := ⟨RX2, TX2, 10, tyX2, rfl, by decide, TT_at 40 (by decide +kernel) (by decide +kernel), uwX2, tyX2_ok, nmX2⟩
theorem fkX2_18 : fOK RX2 18 2 2 := ⟨RX2, TX2, 10, tyX2, rfl, by decide, TT_at 43 (by decide +kernel) (by decide +kernel), uwX2, tyX2_ok, nmX2⟩
theorem fkX2_22 : fOK RX2 22 2 3 := ⟨RX2, TX2, 10, tyX2, rfl, by decide, TT_at 45 (by decide +kernel) (by decide +kernel), uwX2, tyX2_ok, nmX2⟩
theorem fkX2_25 : fOK RX2 25 2 4 := ⟨RX2, TX2, 10, tyX2, rfl, by decide, TT_at 47 (by decide +kernel) (by decide +kernel), uwX2, tyX2_ok, nmX2⟩
theorem fkX2_29 : fOK RX2 29 2 5 := ⟨RX2, TX2, 10, tyX2, rfl, by decide, TT_at 48 (by decide +kernel) (by decide +kernel), uwX2, tyX2_ok, nmX2⟩
theorem fkX2_32 : fOK RX2 32 2 6 := ⟨RX2, TX2, 10, tyX2, rfl, by decide, TT_at 49 (by decide +kernel) (by decide +kernel), uwX2, tyX2_ok, nmX2⟩
theorem fkX2_35 : fOK RX2 35 2 7 := ⟨RX2, TX2, 10, tyX2, rfl, by decide, TT_at 50 (by decide +kernel) (by decide +kernel), uwX2, tyX2_ok, nmX2⟩
theorem fkX2_38 : fOK RX2 38 2 8 := ⟨RX2, TX2, 10, tyX2, rfl, by decide, TT_at 51 (by decide +kernel) (by decide +kernel), uwX2, tyX2_ok, nmX2⟩
theorem fkX2_41 : fOK RX2 41 2 9 := ⟨RX2, TX2, 10, tyX2, rfl, by decide, TT_at 52 (by decide +kernel) (by decide +kernel), uwX2, tyX2_ok, nmX2⟩
theorem fkX3_9 : fOK RX3 9 3 0 := ⟨RX3, TX3, 6, tyX3, rfl, by decide, TT_at 83 (by decide +kernel) (by decide +kernel), uwX3, tyX3_ok, nmX3⟩
theorem fkX3_15 : fOK RX3 15 3 1 := ⟨RX3, TX3, 6, tyX3, rfl, by decide, TT_at 84 (by decide +kernel) (by decide +kernel), uwX3, tyX3_ok, nmX3⟩
theorem fkX3_18 : fOK RX3 18 3 2 := ⟨RX3, TX3, 6, tyX3, rfl, by decide, TT_at 85 (by decide +kernel) (by decide +kernel), uwX3, tyX3_ok, nmX3⟩
theorem fkX3_21 : fOK RX3 21 3 3 := ⟨RX3, TX3, 6, tyX3, rfl, by decide, TT_at 86 (by decide +kernel) (by decide +kernel), uwX3, tyX3_ok, nmX3⟩
theorem fkX3_24 : fOK RX3 24 3 4 := ⟨RX3, TX3, 6, tyX3, rfl, by decide, TT_at 87 (by decide +kernel) (by decide +kernel), uwX3, tyX3_ok, nmX3⟩
theorem fkX3_27 : fOK RX3 27 3 5 := ⟨RX3, TX3, 6, tyX3, rfl, by decide, TT_at 88 (by decide +kernel) (by decide +kernel), uwX3, tyX3_ok, nmX3⟩
theorem fkX3_31 : fOK RX3 31 8 2 := ⟨RX8, TX8, 5, tyX8, rfl, by decide, TT_at 211 (by decide +kernel) (by decide +kernel), uwX8, tyX8_ok, nmX8⟩
theorem fkX4_9 : fOK RX4 9 4 0 := ⟨RX4, TX4, 5, tyX4, rfl, by decide, TT_at 188 (by decide +kernel) (by decide +kernel), uwX4, tyX4_ok, nmX4⟩
theorem fkX4_15 : fOK RX4 15 4 1 := ⟨RX4, TX4, 5, tyX4, rfl, by decide, TT_at 190 (by decide +kernel) (by decide +kernel), uwX4, tyX4_ok, nmX4⟩
theorem fkX4_18 : fOK RX4 18 4 2 := ⟨RX4, TX4, 5, tyX4, rfl, by decide, TT_at 191 (by decide +kernel) (by decide +kernel), uwX4, tyX4_ok, nmX4⟩
theorem fkX4_21 : fOK RX4 21 4 3 := ⟨RX4, TX4, 5, tyX4, rfl, by decide, TT_at 192 (by decide +kernel) (by decide +kernel), uwX4, tyX4_ok, nmX4⟩
theorem fkX4_24 : fOK RX4 24 4 4 := ⟨RX4, TX4, 5, tyX4, rfl, by decide, TT_at 193 (by decide +kernel) (by decide +kernel), uwX4, tyX4_ok, nmX4⟩
theorem fkX5_9 : fOK RX5 9 5 0 := ⟨RX5, TX5, 1, tyX5, rfl, by decide, TT_at 131 (by decide +kernel) (by decide +kernel), uwX5, tyX5_ok, nmX5⟩
theorem fkX5_19 : fOK RX5 19 2 0 := ⟨RX2, TX2, 10, tyX2, rfl, by decide, TT_at 37 (by decide +kernel) (by decide +kernel), uwX2, tyX2_ok, nmX2⟩
theorem fkX6_9 : fOK RX6 9 6 0 := ⟨RX6, TX6, 1, tyX6, rfl, by decide, TT_at 160 (by decide +kernel) (by decide +kernel), uwX6, tyX6_ok, nmX6⟩
theorem fkX7_9 : fOK RX7 9 7 0 := ⟨RX7, TX7, 5, tyX7, rfl, by decide, TT_at 108 (by decide +kernel) (by decide +kernel), uwX7, tyX7_ok, nmX7⟩
theorem fkX7_15 : fOK RX7 15 7 1 := ⟨RX7, TX7, 5, tyX7, rfl, by decide, TT_at 110 (by decide +kernel) (by decide +kernel), uwX7, tyX7_ok, nmX7⟩
theorem fkX7_19 : fOK RX7 19 7 2 := ⟨RX7, TX7, 5, tyX7, rfl, by decide, TT_at 111 (by decide +kernel) (by decide +kernel), uwX7, tyX7_ok, nmX7⟩
theorem fkX7_23 : fOK RX7 23 7 3 := ⟨RX7, TX7, 5, tyX7, rfl, by decide, TT_at 112 (by decide +kernel) (by decide +kernel), uwX7, tyX7_ok, nmX7⟩
theorem fkX7_26 : fOK RX7 26 7 4 := ⟨RX7, TX7, 5, tyX7, rfl, by decide, TT_at 113 (by decide +kernel) (by decide +kernel), uwX7, tyX7_ok, nmX7⟩
theorem fkX7_39 : fOK RX7 39 2 0 := ⟨RX2, TX2, 10, tyX2, rfl, by decide, TT_at 38 (by decide +kernel) (by decide +kernel), uwX2, tyX2_ok, nmX2⟩
theorem fkX7_46 : fOK RX7 46 2 1 := ⟨RX2, TX2, 10, tyX2, rfl, by decide, TT_at 41 (by decide +kernel) (by decide +kernel), uwX2, tyX2_ok, nmX2⟩
theorem fkX8_9 : fOK RX8 9 8 0 := ⟨RX8, TX8, 5, tyX8, rfl, by decide, TT_at 205 (by decide +kernel) (by decide +kernel), uwX8, tyX8_ok, nmX8⟩
theorem fkX8_15 : fOK RX8 15 8 1 := ⟨RX8, TX8, 5, tyX8, rfl, by decide, TT_at 207 (by decide +kernel) (by decide +kernel), uwX8, tyX8_ok, nmX8⟩
theorem fkX8_18 : fOK RX8 18 8 2 := ⟨RX8, TX8, 5, tyX8, rfl, by decide, TT_at 209 (by decide +kernel) (by decide +kernel), uwX8, tyX8_ok, nmX8⟩
theorem fkX8_28 : fOK RX8 28 8 4 := ⟨RX8, TX8, 5, tyX8, rfl, by decide, TT_at 215 (by decide +kernel) (by decide +kernel), uwX8, tyX8_ok, nmX8⟩
theorem fkX9_10 : fOK RX9 10 9 0 := ⟨RX9, TX9, 11, tyX9, rfl, by decide, TT_at 228 (by decide +kernel) (by decide +kernel), uwX9, tyX9_ok, nmX9⟩
theorem fkX9_16 : fOK RX9 16 9 1 := ⟨RX9, TX9, 11, tyX9, rfl, by decide, TT_at 229 (by decide +kernel) (by decide +kernel), uwX9, tyX9_ok, nmX9⟩
theorem fkX9_19 : fOK RX9 19 9 2 := ⟨RX9, TX9, 11, tyX9, rfl, by decide, TT_at 230 (by decide +kernel) (by decide +kernel), uwX9, tyX9_ok, nmX9⟩
theorem fkX9_22 : fOK RX9 22 9 3 := ⟨RX9, TX9, 11, tyX9, rfl, by decide, TT_at 231 (by decide +kernel) (by decide +kernel), uwX9, tyX9_ok, nmX9⟩
theorem fkX9_28 : fOK RX9 28 9 4 := ⟨RX9, TX9, 11, tyX9, rfl, by decide, TT_at 232 (by decide +kernel) (by decide +kernel), uwX9, tyX9_ok, nmX9⟩
theorem fkX9_35 : fOK RX9 35 9 5 := ⟨RX9, TX9, 11, tyX9, rfl, by decide, TT_at 233 (by decide +kernel) (by decide +kernel), uwX9, tyX9_ok, nmX9⟩
theorem fkX9_42 : fOK RX9 42 9 6 := ⟨RX9, TX9, 11, tyX9, rfl, by decide, TT_at 234 (by decide +kernel) (by decide +kernel), uwX9, tyX9_ok, nmX9⟩
theorem fkX9_49 : fOK RX9 49 9 7 := ⟨RX9, TX9, 11, tyX9, rfl, by decide, TT_at 235 (by decide +kernel) (by decide +kernel), uwX9, tyX9_ok, nmX9⟩
theorem fkX9_56 : fOK RX9 56 9 8 := ⟨RX9, TX9, 11, tyX9, rfl, by decide, TT_at 236 (by decide +kernel) (by decide +kernel), uwX9, tyX9_ok, nmX9⟩
theorem fkX9_63 : fOK RX9 63 9 9 := ⟨RX9, TX9, 11, tyX9, rfl, by decide, TT_at 237 (by decide +kernel) (by decide +kernel), uwX9, tyX9_ok, nmX9⟩
theorem fkX9_70 : fOK RX9 70 9 10 := ⟨RX9, TX9, 11, tyX9, rfl, by decide, TT_at 238 (by decide +kernel) (by decide +kernel), uwX9, tyX9_ok, nmX9⟩
theorem fkX9_138 : fOK RX9 138 2 2 := ⟨RX2, TX2, 10, tyX2, rfl, by decide, TT_at 44 (by decide +kernel) (by decide +kernel), uwX2, tyX2_ok, nmX2⟩
theorem fkX9_141 : fOK RX9 141 2 3 := ⟨RX2, TX2, 10, tyX2, rfl, by decide, TT_at 46 (by decide +kernel) (by decide +kernel), uwX2, tyX2_ok, nmX2⟩
theorem fkX9_164 : fOK RX9 164 8 3 := ⟨RX8, TX8, 5, tyX8, rfl, by decide, TT_at 214 (by decide +kernel) (by decide +kernel), uwX8, tyX8_ok, nmX8⟩
theorem fkX9_175 : fOK RX9 175 2 0 := ⟨RX2, TX2, 10, tyX2, rfl, by decide, TT_at 39 (by decide +kernel) (by decide +kernel), uwX2, tyX2_ok, nmX2⟩
theorem fkX9_179 : fOK RX9 179 8 2 := ⟨RX8, TX8, 5, tyX8, rfl, by decide, TT_at 212 (by decide +kernel) (by decide +kernel), uwX8, tyX8_ok, nmX8⟩
theorem fkX9_202 : fOK RX9 202 7 0 := ⟨RX7, TX7, 5, tyX7, rfl, by decide, TT_at 109 (by decide +kernel) (by decide +kernel), uwX7, tyX7_ok, nmX7⟩
theorem fkX9_228 : fOK RX9 228 2 1 := ⟨RX2, TX2, 10, tyX2, rfl, by decide, TT_at 42 (by decide +kernel) (by decide +kernel), uwX2, tyX2_ok, nmX2⟩
theorem fkX9_270 : fOK RX9 270 8 0 := ⟨RX8, TX8, 5, tyX8, rfl, by decide, TT_at 206 (by decide +kernel) (by decide +kernel), uwX8, tyX8_ok, nmX8⟩
theorem fkX9_304 : fOK RX9 304 8 1 := ⟨RX8, TX8, 5, tyX8, rfl, by decide, TT_at 208 (by decide +kernel) (by decide +kernel), uwX8, tyX8_ok, nmX8⟩
theorem fkX9_310 : fOK RX9 310 8 4 := ⟨RX8, TX8, 5, tyX8, rfl, by decide, TT_at 216 (by decide +kernel) (by decide +kernel), uwX8, tyX8_ok, nmX8⟩
theorem fkX9_340 : fOK RX9 340 4 0 := ⟨RX4, TX4, 5, tyX4, rfl, by decide, TT_at 189 (by decide +kernel) (by decide +kernel), uwX4, tyX4_ok, nmX4⟩
theorem fkX10_7 : fOK RX10 7 10 1 := ⟨RX10, TX10, 49, tyX10, rfl, by decide, TT_at 971 (by decide +kernel) (by decide +kernel), uwX10, tyX10_ok, nmX10⟩
theorem fkX10_13 : fOK RX10 13 10 2 := ⟨RX10, TX10, 49, tyX10, rfl, by decide, TT_at 972 (by decide +kernel) (by decide +kernel), uwX10, tyX10_ok, nmX10⟩
theorem fkX10_16 : fOK RX10 16 10 6 := ⟨RX10, TX10, 49, tyX10, rfl, by decide, TT_at 976 (by decide +kernel) (by decide +kernel), uwX10, tyX10_ok, nmX10⟩
theorem fkX10_19 : fOK RX10 19 10 7 := ⟨RX10, TX10, 49, tyX10, rfl, by decide, TT_at 977 (by decide +kernel) (by decide +kernel), uwX10, tyX10_ok, nmX10⟩
theorem fkX10_22 : fOK RX10 22 10 8 := ⟨RX10, TX10, 49, tyX10, rfl, by decide, TT_at 978 (by decide +kernel) (by decide +kernel), uwX10, tyX10_ok, nmX10⟩
theorem fkX10_25 : fOK RX10 25 10 9 := ⟨RX10, TX10, 49, tyX10, rfl, by decide, TT_at 979 (by decide +kernel) (by decide +kernel), uwX10, tyX10_ok, nmX10⟩
theorem fkX10_28 : fOK RX10 28 10 11 := ⟨RX10, TX10, 49, tyX10, rfl, by decide, TT_at 981 (by decide +kernel) (by decide +kernel), uwX10, tyX10_ok, nmX10⟩
theorem fkX10_31 : fOK RX10 31 10 17 := ⟨RX10, TX10, 49, tyX10, rfl, by decide, TT_at 987 (by decide +kernel) (by decide +kernel), uwX10, tyX10_ok, nmX10⟩
theorem fkX10_34 : fOK RX10 34 10 18 := ⟨RX10, TX10, 49, tyX10, rfl, by decide, TT_at 988 (by decide +kernel) (by decide +kernel), uwX10, tyX10_ok, nmX10⟩
theorem fkX10_37 : fOK RX10 37 10 19 := ⟨RX10, TX10, 49, tyX10, rfl, by decide, TT_at 989 (by decide +kernel) (by decide +kernel), uwX10, tyX10_ok, nmX10⟩
theorem fkX10_40 : fOK RX10 40 10 20 := ⟨RX10, TX10, 49, tyX10, rfl, by decide, TT_at 990 (by decide +kernel) (by decide +kernel), uwX10, tyX10_ok, nmX10⟩
theorem fkX10_43 : fOK RX10 43 10 21 := ⟨RX10, TX10, 49, tyX10, rfl, by decide, TT_at 991 (by decide +kernel) (by decide +kernel), uwX10, tyX10_ok, nmX10⟩
theorem fkX10_46 : fOK RX10 46 10 27 := ⟨RX10, TX10, 49, tyX10, rfl, by decide, TT_at 997 (by decide +kernel) (by decide +kernel), uwX10, tyX10_ok, nmX10⟩
theorem fkX10_49 : fOK RX10 49 10 28 := ⟨RX10, TX10, 49, tyX10, rfl, by decide, TT_at 998 (by decide +kernel) (by decide +kernel), uwX10, tyX10_ok, nmX10⟩
theorem fkX10_52 : fOK RX10 52 10 31 := ⟨RX10, TX10, 49, tyX10, rfl, by decide, TT_at 1001 (by decide +kernel) (by decide +kernel), uwX10, tyX10_ok, nmX10⟩
theorem fkX10_55 : fOK RX10 55 10 32 := ⟨RX10, TX10, 49, tyX10, rfl, by decide, TT_at 1002 (by decide +kernel) (by decide +kernel), uwX10, tyX10_ok, nmX10⟩
theorem fkX10_58 : fOK RX10 58 10 33 := ⟨RX10, TX10, 49, tyX10, rfl, by decide, TT_at 1003 (by decide +kernel) (by decide +kernel), uwX10, tyX10_ok, nmX10⟩
theorem fkX10_62 : fOK RX10 62 10 34 := ⟨RX10, TX10, 49, tyX10, rfl, by decide, TT_at 1004 (by decide +kernel) (by decide +kernel), uwX10, tyX10_ok, nmX10⟩
theorem fkX10_65 : fOK RX10 65 10 35 := ⟨RX10, TX10, 49, tyX10, rfl, by decide, TT_at 1005 (by decide +kernel) (by decide +kernel), uwX10, tyX10_ok, nmX10⟩
theorem fkX10_68 : fOK RX10 68 10 36 := ⟨RX10, TX10, 49, tyX10, rfl, by decide, TT_at 1006 (by decide +kernel) (by decide +kernel), uwX10, tyX10_ok, nmX10⟩
theorem fkX10_71 : fOK RX10 71 10 38 := ⟨RX10, TX10, 49, tyX10, rfl, by decide, TT_at 1008 (by decide +kernel) (by decide +kernel), uwX10, tyX10_ok, nmX10⟩
theorem fkX10_74 : fOK RX10 74 10 39 := ⟨RX10, TX10, 49, tyX10, rfl, by decide, TT_at 1009 (by decide +kernel) (by decide +kernel), uwX10, tyX10_ok, nmX10⟩
theorem fkX10_77 : fOK RX10 77 10 42 := ⟨RX10, TX10, 49, tyX10, rfl, by decide, TT_at 1012 (by decide +kernel) (by decide +kernel), uwX10, tyX10_ok, nmX10⟩
theorem fkX10_80 : fOK RX10 80 10 43 := ⟨RX10, TX10, 49, tyX10, rfl, by decide, TT_at 1013 (by decide +kernel) (by decide +kernel), uwX10, tyX10_ok, nmX10⟩
theorem fkX10_83 : fOK RX10 83 10 44 := ⟨RX10, TX10, 49, tyX10, rfl, by decide, TT_at 1014 (by decide +kernel) (by decide +kernel), uwX10, tyX10_ok, nmX10⟩
theorem fkX10_86 : fOK RX10 86 10 45 := ⟨RX10, TX10, 49, tyX10, rfl, by decide, TT_at 1015 (by decide +kernel) (by decide +kernel), uwX10, tyX10_ok, nmX10⟩
theorem fkX10_89 : fOK RX10 89 10 46 := ⟨RX10, TX10, 49, tyX10, rfl, by decide, TT_at 1016 (by decide +kernel) (by decide +kernel), uwX10, tyX10_ok, nmX10⟩
theorem fkX10_92 : fOK RX10 92 10 47 := ⟨RX10, TX10, 49, tyX10, rfl, by decide, TT_at 1017 (by decide +kernel) (by decide +kernel), uwX10, tyX10_ok, nmX10⟩
theorem fkX10_96 : fOK RX10 96 10 48 := ⟨RX10, TX10, 49, tyX10, rfl, by decide, TT_at 1018 (by decide +kernel) (by decide +kernel), uwX10, tyX10_ok, nmX10⟩
theorem fkX10_99 : fOK RX10 99 10 10 := ⟨RX10, TX10, 49, tyX10, rfl, by decide, TT_at 980 (by decide +kernel) (by decide +kernel), uwX10, tyX10_ok, nmX10⟩
theorem fkX10_103 : fOK RX10 103 10 0 := ⟨RX10, TX10, 49, tyX10, rfl, by decide, TT_at 970 (by decide +kernel) (by decide +kernel), uwX10, tyX10_ok, nmX10⟩
theorem fkX10_110 : fOK RX10 110 10 5 := ⟨RX10, TX10, 49, tyX10, rfl, by decide, TT_at 975 (by decide +kernel) (by decide +kernel), uwX10, tyX10_ok, nmX10⟩
theorem fkX10_113 : fOK RX10 113 10 3 := ⟨RX10, TX10, 49, tyX10, rfl, by decide, TT_at 973 (by decide +kernel) (by decide +kernel), uwX10, tyX10_ok, nmX10⟩
theorem fkX10_116 : fOK RX10 116 10 4 := ⟨RX10, TX10, 49, tyX10, rfl, by decide, TT_at 974 (by decide +kernel) (by decide +kernel), uwX10, tyX10_ok, nmX10⟩
theorem fkX10_133 : fOK RX10 133 10 14 := ⟨RX10, TX10, 49, tyX10, rfl, by decide, TT_at 984 (by decide +kernel) (by decide +kernel), uwX10, tyX10_ok, nmX10⟩
theorem fkX10_136 : fOK RX10 136 10 13 := ⟨RX10, TX10, 49, tyX10, rfl, by decide, TT_at 983 (by decide +kernel) (by decide +kernel), uwX10, tyX10_ok, nmX10⟩
theorem fkX10_139 : fOK RX10 139 10 12 := ⟨RX10, TX10, 49, tyX10, rfl, by decide, TT_at 982 (by decide +kernel) (by decide +kernel), uwX10, tyX10_ok, nmX10⟩
theorem fkX10_142 : fOK RX10 142 10 15 := ⟨RX10, TX10, 49, tyX10, rfl, by decide, TT_at 985 (by decide +kernel) (by decide +kernel), uwX10, tyX10_ok, nmX10⟩
theorem fkX10_164 : fOK RX10 164 10 16 := ⟨RX10, TX10, 49, tyX10, rfl, by decide, TT_at 986 (by decide +kernel) (by decide +kernel), uwX10, tyX10_ok, nmX10⟩
theorem fkX10_216 : fOK RX10 216 10 26 := ⟨RX10, TX10, 49, tyX10, rfl, by decide, TT_at 996 (by decide +kernel) (by decide +kernel), uwX10, tyX10_ok, nmX10⟩
theorem fkX10_219 : fOK RX10 219 10 22 := ⟨RX10, TX10, 49, tyX10, rfl, by decide, TT_at 992 (by decide +kernel) (by decide +kernel), uwX10, tyX10_ok, nmX10⟩
theorem fkX10_222 : fOK RX10 222 10 23 := ⟨RX10, TX10, 49, tyX10, rfl, by decide, TT_at 993 (by decide +kernel) (by decide +kernel), uwX10, tyX10_ok, nmX10⟩
theorem fkX10_225 : fOK RX10 225 10 24 := ⟨RX10, TX10, 49, tyX10, rfl, by decide, TT_at 994 (by decide +kernel) (by decide +kernel), uwX10, tyX10_ok, nmX10⟩
theorem fkX10_228 : fOK RX10 228 10 25 := ⟨RX10, TX10, 49, tyX10, rfl, by decide, TT_at 995 (by decide +kernel) (by decide +kernel), uwX10, tyX10_ok, nmX10⟩
theorem fkX10_267 : fOK RX10 267 10 29 := ⟨RX10, TX10, 49, tyX10, rfl, by decide, TT_at 999 (by decide +kernel) (by decide +kernel), uwX10, tyX10_ok, nmX10⟩
theorem fkX10_270 : fOK RX10 270 10 30 := ⟨RX10, TX10, 49, tyX10, rfl, by decide, TT_at 1000 (by decide +kernel) (by decide +kernel), uwX10, tyX10_ok, nmX10⟩
theorem fkX10_312 : fOK RX10 312 10 41 := ⟨RX10, TX10, 49, tyX10, rfl, by decide, TT_at 1011 (by decide +kernel) (by decide +kernel), uwX10, tyX10_ok, nmX10⟩
theorem fkX10_315 : fOK RX10 315 10 40 := ⟨RX10, TX10, 49, tyX10, rfl, by decide, TT_at 1010 (by decide +kernel) (by decide +kernel), uwX10, tyX10_ok, nmX10⟩
theorem fkX10_322 : fOK RX10 322 10 37 := ⟨RX10, TX10, 49, tyX10, rfl, by decide, TT_at 1007 (by decide +kernel) (by decide +kernel), uwX10, tyX10_ok, nmX10⟩
theorem ftX0_2 : fTy 0 2 .int := ⟨RX0, TX0, 4, rfl, rfl, by decide +kernel⟩
theorem ftX1_0 : fTy 1 0 .int := ⟨RX1, TX1, 2, rfl, rfl, by decide +kernel⟩
theorem ftX2_0 : fTy 2 0 .int := ⟨RX2, TX2, 10, rfl, rfl, by decide +kernel⟩
theorem ftX2_1 : fTy 2 1 .int := ⟨RX2, TX2, 10, rfl, rfl, by decide +kernel⟩
theorem ftX2_2 : fTy 2 2 .boolean := ⟨RX2, TX2, 10, rfl, rfl, by decide +kernel⟩
theorem ftX2_3 : fTy 2 3 .boolean := ⟨RX2, TX2, 10, rfl, rfl, by decide +kernel⟩
theorem ftX3_0 : fTy 3 0 .int := ⟨RX3, TX3, 6, rfl, rfl, by decide +kernel⟩
theorem ftX3_1 : fTy 3 1 .int := ⟨RX3, TX3, 6, rfl, rfl, by decide +kernel⟩
theorem ftX3_2 : fTy 3 2 .int := ⟨RX3, TX3, 6, rfl, rfl, by decide +kernel⟩
theorem ftX3_3 : fTy 3 3 .int := ⟨RX3, TX3, 6, rfl, rfl, by decide +kernel⟩
theorem ftX3_4 : fTy 3 4 .int := ⟨RX3, TX3, 6, rfl, rfl, by decide +kernel⟩
theorem ftX3_5 : fTy 3 5 .boolean := ⟨RX3, TX3, 6, rfl, rfl, by decide +kernel⟩
theorem ftX4_0 : fTy 4 0 .int := ⟨RX4, TX4, 5, rfl, rfl, by decide +kernel⟩
theorem ftX4_1 : fTy 4 1 .int := ⟨RX4, TX4, 5, rfl, rfl, by decide +kernel⟩
theorem ftX4_2 : fTy 4 2 .int := ⟨RX4, TX4, 5, rfl, rfl, by decide +kernel⟩
theorem ftX4_3 : fTy 4 3 .int := ⟨RX4, TX4, 5, rfl, rfl, by decide +kernel⟩
theorem ftX4_4 : fTy 4 4 .int := ⟨RX4, TX4, 5, rfl, rfl, by decide +kernel⟩
theorem ftX7_0 : fTy 7 0 .int := ⟨RX7, TX7, 5, rfl, rfl, by decide +kernel⟩
theorem ftX7_1 : fTy 7 1 .boolean := ⟨RX7, TX7, 5, rfl, rfl, by decide +kernel⟩
theorem ftX8_0 : fTy 8 0 .int := ⟨RX8, TX8, 5, rfl, rfl, by decide +kernel⟩
theorem ftX8_1 : fTy 8 1 .int := ⟨RX8, TX8, 5, rfl, rfl, by decide +kernel⟩
theorem ftX8_2 : fTy 8 2 .int := ⟨RX8, TX8, 5, rfl, rfl, by decide +kernel⟩
theorem ftX9_3 : fTy 9 3 .boolean := ⟨RX9, TX9, 11, rfl, rfl, by decide +kernel⟩
theorem ftX10_0 : fTy 10 0 .int := ⟨RX10, TX10, 49, rfl, rfl, by decide +kernel⟩
theorem ftX10_3 : fTy 10 3 .int := ⟨RX10, TX10, 49, rfl, rfl, by decide +kernel⟩
theorem ftX10_4 : fTy 10 4 .int := ⟨RX10, TX10, 49, rfl, rfl, by decide +kernel⟩
theorem ftX10_5 : fTy 10 5 .int := ⟨RX10, TX10, 49, rfl, rfl, by decide +kernel⟩
theorem ftX10_10 : fTy 10 10 .int := ⟨RX10, TX10, 49, rfl, rfl, by decide +kernel⟩
theorem ftX10_12 : fTy 10 12 .int := ⟨RX10, TX10, 49, rfl, rfl, by decide +kernel⟩
theorem ftX10_13 : fTy 10 13 .int := ⟨RX10, TX10, 49, rfl, rfl, by decide +kernel⟩
theorem ftX10_14 : fTy 10 14 .int := ⟨RX10, TX10, 49, rfl, rfl, by decide +kernel⟩
theorem ftX10_15 : fTy 10 15 .boolean := ⟨RX10, TX10, 49, rfl, rfl, by decide +kernel⟩
theorem ftX10_16 : fTy 10 16 .int := ⟨RX10, TX10, 49, rfl, rfl, by decide +kernel⟩
theorem ftX10_22 : fTy 10 22 .int := ⟨RX10, TX10, 49, rfl, rfl, by decide +kernel⟩
theorem ftX10_23 : fTy 10 23 .int := ⟨RX10, TX10, 49, rfl, rfl, by decide +kernel⟩
theorem ftX10_24 : fTy 10 24 .int := ⟨RX10, TX10, 49, rfl, rfl, by decide +kernel⟩
theorem ftX10_25 : fTy 10 25 .int := ⟨RX10, TX10, 49, rfl, rfl, by decide +kernel⟩
theorem ftX10_26 : fTy 10 26 .int := ⟨RX10, TX10, 49, rfl, rfl, by decide +kernel⟩
theorem ftX10_29 : fTy 10 29 .int := ⟨RX10, TX10, 49, rfl, rfl, by decide +kernel⟩
theorem ftX10_30 : fTy 10 30 .int := ⟨RX10, TX10, 49, rfl, rfl, by decide +kernel⟩
theorem ftX10_37 : fTy 10 37 .boolean := ⟨RX10, TX10, 49, rfl, rfl, by decide +kernel⟩
theorem ftX10_40 : fTy 10 40 .int := ⟨RX10, TX10, 49, rfl, rfl, by decide +kernel⟩
theorem ftX10_41 : fTy 10 41 .boolean := ⟨RX10, TX10, 49, rfl, rfl, by decide +kernel⟩
theorem lkX0_25 : Cond.methodLink RX0 25 yX0_codeOf ∈ TT := TT_at 643 (by decide +kernel) (by decide +kernel)
theorem lkX0_29 : Cond.methodLink RX0 29 yX2_writeBars ∈ TT := TT_at 647 (by decide +kernel) (by decide +kernel)
theorem lkX0_35 : Cond.methodLink RX0 35 yX0_isLawful ∈ TT := TT_at 651 (by decide +kernel) (by decide +kernel)
theorem lkX0_45 : Cond.methodLink RX0 45 yX0_markSeen ∈ TT := TT_at 659 (by decide +kernel) (by decide +kernel)
theorem lkX0_49 : Cond.methodLink RX0 49 yX0_reach ∈ TT := TT_at 663 (by decide +kernel) (by decide +kernel)
theorem lkX0_52 : Cond.methodLink RX0 52 yX0_widenFrom ∈ TT := TT_at 667 (by decide +kernel) (by decide +kernel)
theorem lkX0_56 : Cond.methodLink RX0 56 yX0_isSeen ∈ TT := TT_at 675 (by decide +kernel) (by decide +kernel)
theorem lkX0_63 : Cond.methodLink RX0 63 yX0_look ∈ TT := TT_at 671 (by decide +kernel) (by decide +kernel)
theorem lkX0_67 : Cond.methodLink RX0 67 yX2_asOne ∈ TT := TT_at 655 (by decide +kernel) (by decide +kernel)
theorem lkX0_71 : Cond.methodLink RX0 71 yX2_ownerOf ∈ TT := TT_at 646 (by decide +kernel) (by decide +kernel)
theorem lkX1_24 : Cond.methodLink RX1 24 yX1_isAsTold ∈ TT := TT_at 735 (by decide +kernel) (by decide +kernel)
theorem lkX1_28 : Cond.methodLink RX1 28 yX1_clashesOf ∈ TT := TT_at 741 (by decide +kernel) (by decide +kernel)
theorem lkX1_32 : Cond.methodLink RX1 32 yX8_at ∈ TT := TT_at 738 (by decide +kernel) (by decide +kernel)
theorem lkX1_36 : Cond.methodLink RX1 36 yX2_isPerson ∈ TT := TT_at 739 (by decide +kernel) (by decide +kernel)
theorem lkX1_42 : Cond.methodLink RX1 42 yX2_isField ∈ TT := TT_at 740 (by decide +kernel) (by decide +kernel)
theorem lkX1_45 : Cond.methodLink RX1 45 yX1_clash ∈ TT := TT_at 745 (by decide +kernel) (by decide +kernel)
theorem lkX1_49 : Cond.methodLink RX1 49 yX2_bars ∈ TT := TT_at 748 (by decide +kernel) (by decide +kernel)
theorem lkX1_58 : Cond.methodLink RX1 58 yX1_canStandWithout ∈ TT := TT_at 759 (by decide +kernel) (by decide +kernel)
theorem lkX2_50 : Cond.methodLink RX2 50 yX2_isPerson ∈ TT := TT_at 344 (by decide +kernel) (by decide +kernel)
theorem lkX2_54 : Cond.methodLink RX2 54 yX2_isField ∈ TT := TT_at 348 (by decide +kernel) (by decide +kernel)
theorem lkX2_57 : Cond.methodLink RX2 57 yX2_setWorth ∈ TT := TT_at 340 (by decide +kernel) (by decide +kernel)
theorem lkX2_61 : Cond.methodLink RX2 61 yX2_isOwner ∈ TT := TT_at 376 (by decide +kernel) (by decide +kernel)
theorem lkX2_64 : Cond.methodLink RX2 64 yX2_acresOf ∈ TT := TT_at 380 (by decide +kernel) (by decide +kernel)
theorem lkX2_68 : Cond.methodLink RX2 68 yX2_areTwo ∈ TT := TT_at 356 (by decide +kernel) (by decide +kernel)
theorem lkX2_72 : Cond.methodLink RX2 72 yX2_touchOf ∈ TT := TT_at 360 (by decide +kernel) (by decide +kernel)
theorem lkX2_76 : Cond.methodLink RX2 76 yX2_setTouch ∈ TT := TT_at 364 (by decide +kernel) (by decide +kernel)
theorem lkX2_85 : Cond.methodLink RX2 85 yX2_coinsOf ∈ TT := TT_at 548 (by decide +kernel) (by decide +kernel)
theorem lkX2_88 : Cond.methodLink RX2 88 yX2_bars ∈ TT := TT_at 415 (by decide +kernel) (by decide +kernel)
theorem lkX2_91 : Cond.methodLink RX2 91 yX2_barBits ∈ TT := TT_at 595 (by decide +kernel) (by decide +kernel)
theorem lkX2_94 : Cond.methodLink RX2 94 yX2_firstOffence ∈ TT := TT_at 480 (by decide +kernel) (by decide +kernel)
theorem lkX2_97 : Cond.methodLink RX2 97 yX2_ownerOf ∈ TT := TT_at 442 (by decide +kernel) (by decide +kernel)
theorem lkX2_100 : Cond.methodLink RX2 100 yX2_asOne ∈ TT := TT_at 484 (by decide +kernel) (by decide +kernel)
theorem lkX2_103 : Cond.methodLink RX2 103 yX2_worthTo ∈ TT := TT_at 452 (by decide +kernel) (by decide +kernel)
theorem lkX2_106 : Cond.methodLink RX2 106 yX2_fieldBits ∈ TT := TT_at 447 (by decide +kernel) (by decide +kernel)
theorem lkX2_109 : Cond.methodLink RX2 109 yX2_worthOfBits ∈ TT := TT_at 448 (by decide +kernel) (by decide +kernel)
theorem lkX3_36 : Cond.methodLink RX3 36 yX3_takeStatement ∈ TT := TT_at 282 (by decide +kernel) (by decide +kernel)
theorem lkX3_40 : Cond.methodLink RX3 40 yX3_carryOutOne ∈ TT := TT_at 332 (by decide +kernel) (by decide +kernel)
theorem lkX3_44 : Cond.methodLink RX3 44 yX8_at ∈ TT := TT_at 286 (by decide +kernel) (by decide +kernel)
theorem lkX3_47 : Cond.methodLink RX3 47 yX3_isLetter ∈ TT := TT_at 290 (by decide +kernel) (by decide +kernel)
theorem lkX3_51 : Cond.methodLink RX3 51 yX3_takeBehindLetter ∈ TT := TT_at 294 (by decide +kernel) (by decide +kernel)
theorem lkX3_54 : Cond.methodLink RX3 54 yX3_takeSign ∈ TT := TT_at 309 (by decide +kernel) (by decide +kernel)
theorem lkX3_58 : Cond.methodLink RX3 58 yX3_takeDigits ∈ TT := TT_at 298 (by decide +kernel) (by decide +kernel)
theorem lkX3_61 : Cond.methodLink RX3 61 yX3_takeLane ∈ TT := TT_at 305 (by decide +kernel) (by decide +kernel)
theorem lkX3_64 : Cond.methodLink RX3 64 yX3_takeFigure ∈ TT := TT_at 313 (by decide +kernel) (by decide +kernel)
theorem lkX3_67 : Cond.methodLink RX3 67 yX3_takeKin ∈ TT := TT_at 317 (by decide +kernel) (by decide +kernel)
theorem lkX3_70 : Cond.methodLink RX3 70 yX3_isDigit ∈ TT := TT_at 302 (by decide +kernel) (by decide +kernel)
theorem lkX3_74 : Cond.methodLink RX3 74 yX2_addField ∈ TT := TT_at 336 (by decide +kernel) (by decide +kernel)
theorem lkX3_79 : Cond.methodLink RX3 79 yX2_join ∈ TT := TT_at 352 (by decide +kernel) (by decide +kernel)
theorem lkX3_83 : Cond.methodLink RX3 83 yX3_carryOutPerson ∈ TT := TT_at 368 (by decide +kernel) (by decide +kernel)
theorem lkX3_86 : Cond.methodLink RX3 86 yX2_setWorth ∈ TT := TT_at 385 (by decide +kernel) (by decide +kernel)
theorem lkX3_89 : Cond.methodLink RX3 89 yX2_isPerson ∈ TT := TT_at 384 (by decide +kernel) (by decide +kernel)
theorem lkX3_92 : Cond.methodLink RX3 92 yX2_give ∈ TT := TT_at 386 (by decide +kernel) (by decide +kernel)
theorem lkX3_96 : Cond.methodLink RX3 96 yX3_carryOutLaw ∈ TT := TT_at 390 (by decide +kernel) (by decide +kernel)
theorem lkX3_99 : Cond.methodLink RX3 99 yX2_addPerson ∈ TT := TT_at 372 (by decide +kernel) (by decide +kernel)
theorem lkX3_102 : Cond.methodLink RX3 102 yX2_setLaw ∈ TT := TT_at 394 (by decide +kernel) (by decide +kernel)
theorem lkX4_27 : Cond.methodLink RX4 27 yX2_isPerson ∈ TT := TT_at 506 (by decide +kernel) (by decide +kernel)
theorem lkX4_33 : Cond.methodLink RX4 33 yX2_isField ∈ TT := TT_at 507 (by decide +kernel) (by decide +kernel)
theorem lkX4_36 : Cond.methodLink RX4 36 yX2_ownerOf ∈ TT := TT_at 516 (by decide +kernel) (by decide +kernel)
theorem lkX4_40 : Cond.methodLink RX4 40 yX2_touchOf ∈ TT := TT_at 517 (by decide +kernel) (by decide +kernel)
theorem lkX4_44 : Cond.methodLink RX4 44 yX2_acresOf ∈ TT := TT_at 526 (by decide +kernel) (by decide +kernel)
theorem lkX4_47 : Cond.methodLink RX4 47 yX4_priceIn ∈ TT := TT_at 522 (by decide +kernel) (by decide +kernel)
theorem lkX4_51 : Cond.methodLink RX4 51 yX4_buyFor ∈ TT := TT_at 527 (by decide +kernel) (by decide +kernel)
theorem lkX4_55 : Cond.methodLink RX4 55 yX4_goRound ∈ TT := TT_at 539 (by decide +kernel) (by decide +kernel)
theorem lkX4_58 : Cond.methodLink RX4 58 yX2_setTouch ∈ TT := TT_at 543 (by decide +kernel) (by decide +kernel)
theorem lkX4_62 : Cond.methodLink RX4 62 yX2_earn ∈ TT := TT_at 531 (by decide +kernel) (by decide +kernel)
theorem lkX4_66 : Cond.methodLink RX4 66 yX2_give ∈ TT := TT_at 538 (by decide +kernel) (by decide +kernel)
theorem lkX4_77 : Cond.methodLink RX4 77 yX4_feeAsked ∈ TT := TT_at 934 (by decide +kernel) (by decide +kernel)
theorem lkX5_15 : Cond.methodLink RX5 15 yX5_numberFrom ∈ TT := TT_at 570 (by decide +kernel) (by decide +kernel)
theorem lkX5_25 : Cond.methodLink RX5 25 yX5_canHave ∈ TT := TT_at 573 (by decide +kernel) (by decide +kernel)
theorem lkX5_29 : Cond.methodLink RX5 29 yX2_bars ∈ TT := TT_at 577 (by decide +kernel) (by decide +kernel)
theorem lkX6_15 : Cond.methodLink RX6 15 yX2_writeBars ∈ TT := TT_at 706 (by decide +kernel) (by decide +kernel)
theorem lkX6_21 : Cond.methodLink RX6 21 yX2_fieldBits ∈ TT := TT_at 707 (by decide +kernel) (by decide +kernel)
theorem lkX6_25 : Cond.methodLink RX6 25 yX6_winningFrom ∈ TT := TT_at 708 (by decide +kernel) (by decide +kernel)
theorem lkX6_29 : Cond.methodLink RX6 29 yX6_leadFrom ∈ TT := TT_at 720 (by decide +kernel) (by decide +kernel)
theorem lkX6_32 : Cond.methodLink RX6 32 yX6_canTake ∈ TT := TT_at 723 (by decide +kernel) (by decide +kernel)
theorem lkX7_29 : Cond.methodLink RX7 29 yX2_greatestWorth ∈ TT := TT_at 604 (by decide +kernel) (by decide +kernel)
theorem lkX7_35 : Cond.methodLink RX7 35 yX7_tryFrom ∈ TT := TT_at 611 (by decide +kernel) (by decide +kernel)
theorem lkX7_42 : Cond.methodLink RX7 42 yX7_keepIfBetter ∈ TT := TT_at 614 (by decide +kernel) (by decide +kernel)
theorem lkX7_49 : Cond.methodLink RX7 49 yX7_canHave ∈ TT := TT_at 619 (by decide +kernel) (by decide +kernel)
theorem lkX7_53 : Cond.methodLink RX7 53 yX2_worthTo ∈ TT := TT_at 626 (by decide +kernel) (by decide +kernel)
theorem lkX7_63 : Cond.methodLink RX7 63 yX2_ownerOf ∈ TT := TT_at 623 (by decide +kernel) (by decide +kernel)
theorem lkX7_66 : Cond.methodLink RX7 66 yX2_asOne ∈ TT := TT_at 624 (by decide +kernel) (by decide +kernel)
theorem lkX7_70 : Cond.methodLink RX7 70 yX2_bars ∈ TT := TT_at 625 (by decide +kernel) (by decide +kernel)
theorem lkX8_32 : Cond.methodLink RX8 32 yX8_refusalUnless ∈ TT := TT_at 274 (by decide +kernel) (by decide +kernel)
theorem lkX8_42 : Cond.methodLink RX8 42 yX8_isPlace ∈ TT := TT_at 830 (by decide +kernel) (by decide +kernel)
theorem lkX9_75 : Cond.methodLink RX9 75 yX9_shelfAt ∈ TT := TT_at 266 (by decide +kernel) (by decide +kernel)
theorem lkX9_79 : Cond.methodLink RX9 79 yX8_bytesRefusal ∈ TT := TT_at 270 (by decide +kernel) (by decide +kernel)
theorem lkX9_83 : Cond.methodLink RX9 83 yX3_countStatements ∈ TT := TT_at 278 (by decide +kernel) (by decide +kernel)
theorem lkX9_87 : Cond.methodLink RX9 87 yX2_copyFrom ∈ TT := TT_at 321 (by decide +kernel) (by decide +kernel)
theorem lkX9_91 : Cond.methodLink RX9 91 yX3_carryOut ∈ TT := TT_at 328 (by decide +kernel) (by decide +kernel)
theorem lkX9_95 : Cond.methodLink RX9 95 yX2_isField ∈ TT := TT_at 402 (by decide +kernel) (by decide +kernel)
theorem lkX9_99 : Cond.methodLink RX9 99 yX2_acresOf ∈ TT := TT_at 403 (by decide +kernel) (by decide +kernel)
theorem lkX9_103 : Cond.methodLink RX9 103 yX2_ownerOf ∈ TT := TT_at 404 (by decide +kernel) (by decide +kernel)
theorem lkX9_106 : Cond.methodLink RX9 106 yX9_orNone ∈ TT := TT_at 408 (by decide +kernel) (by decide +kernel)
theorem lkX9_109 : Cond.methodLink RX9 109 yX2_barBits ∈ TT := TT_at 411 (by decide +kernel) (by decide +kernel)
theorem lkX9_112 : Cond.methodLink RX9 112 yX2_areTwo ∈ TT := TT_at 423 (by decide +kernel) (by decide +kernel)
theorem lkX9_116 : Cond.methodLink RX9 116 yX2_touchOf ∈ TT := TT_at 424 (by decide +kernel) (by decide +kernel)
theorem lkX9_120 : Cond.methodLink RX9 120 yX2_isPerson ∈ TT := TT_at 429 (by decide +kernel) (by decide +kernel)
theorem lkX9_123 : Cond.methodLink RX9 123 yX2_coinsOf ∈ TT := TT_at 430 (by decide +kernel) (by decide +kernel)
theorem lkX9_126 : Cond.methodLink RX9 126 yX2_kinOf ∈ TT := TT_at 434 (by decide +kernel) (by decide +kernel)
theorem lkX9_129 : Cond.methodLink RX9 129 yX2_fieldBits ∈ TT := TT_at 438 (by decide +kernel) (by decide +kernel)
theorem lkX9_132 : Cond.methodLink RX9 132 yX2_worthOwned ∈ TT := TT_at 443 (by decide +kernel) (by decide +kernel)
theorem lkX9_135 : Cond.methodLink RX9 135 yX2_worthTo ∈ TT := TT_at 460 (by decide +kernel) (by decide +kernel)
theorem lkX9_144 : Cond.methodLink RX9 144 yX2_setLaw ∈ TT := TT_at 465 (by decide +kernel) (by decide +kernel)
theorem lkX9_148 : Cond.methodLink RX9 148 yX2_isOwner ∈ TT := TT_at 470 (by decide +kernel) (by decide +kernel)
theorem lkX9_151 : Cond.methodLink RX9 151 yX2_give ∈ TT := TT_at 471 (by decide +kernel) (by decide +kernel)
theorem lkX9_154 : Cond.methodLink RX9 154 yX2_isLawful ∈ TT := TT_at 476 (by decide +kernel) (by decide +kernel)
theorem lkX9_158 : Cond.methodLink RX9 158 yX2_firstOffence ∈ TT := TT_at 492 (by decide +kernel) (by decide +kernel)
theorem lkX9_161 : Cond.methodLink RX9 161 yX9_moveRefusal ∈ TT := TT_at 497 (by decide +kernel) (by decide +kernel)
theorem lkX9_168 : Cond.methodLink RX9 168 yX9_mayBeDone ∈ TT := TT_at 508 (by decide +kernel) (by decide +kernel)
theorem lkX9_172 : Cond.methodLink RX9 172 yX9_isWanted ∈ TT := TT_at 549 (by decide +kernel) (by decide +kernel)
theorem lkX9_182 : Cond.methodLink RX9 182 yX8_at ∈ TT := TT_at 561 (by decide +kernel) (by decide +kernel)
theorem lkX9_185 : Cond.methodLink RX9 185 yX5_fewestFor ∈ TT := TT_at 566 (by decide +kernel) (by decide +kernel)
theorem lkX9_189 : Cond.methodLink RX9 189 yX5_numberOf ∈ TT := TT_at 578 (by decide +kernel) (by decide +kernel)
theorem lkX9_192 : Cond.methodLink RX9 192 yX9_mostBits ∈ TT := TT_at 586 (by decide +kernel) (by decide +kernel)
theorem lkX9_195 : Cond.methodLink RX9 195 yX2_worthOfBits ∈ TT := TT_at 590 (by decide +kernel) (by decide +kernel)
theorem lkX9_198 : Cond.methodLink RX9 198 yX7_search ∈ TT := TT_at 600 (by decide +kernel) (by decide +kernel)
theorem lkX9_205 : Cond.methodLink RX9 205 yX7_ownerFound ∈ TT := TT_at 627 (by decide +kernel) (by decide +kernel)
theorem lkX9_208 : Cond.methodLink RX9 208 yX0_fewestBetween ∈ TT := TT_at 639 (by decide +kernel) (by decide +kernel)
theorem lkX9_212 : Cond.methodLink RX9 212 yX2_setTouch ∈ TT := TT_at 683 (by decide +kernel) (by decide +kernel)
theorem lkX9_217 : Cond.methodLink RX9 217 yX2_worthToOwners ∈ TT := TT_at 685 (by decide +kernel) (by decide +kernel)
theorem lkX9_220 : Cond.methodLink RX9 220 yX9_worthWithLane ∈ TT := TT_at 693 (by decide +kernel) (by decide +kernel)
theorem lkX9_231 : Cond.methodLink RX9 231 yX6_winningField ∈ TT := TT_at 702 (by decide +kernel) (by decide +kernel)
theorem lkX9_235 : Cond.methodLink RX9 235 yX6_lead ∈ TT := TT_at 716 (by decide +kernel) (by decide +kernel)
theorem lkX9_238 : Cond.methodLink RX9 238 yX1_write ∈ TT := TT_at 731 (by decide +kernel) (by decide +kernel)
theorem lkX9_242 : Cond.methodLink RX9 242 yX1_fewestStruck ∈ TT := TT_at 749 (by decide +kernel) (by decide +kernel)
theorem lkX9_251 : Cond.methodLink RX9 251 yX9_drawBelow ∈ TT := TT_at 769 (by decide +kernel) (by decide +kernel)
theorem lkX9_254 : Cond.methodLink RX9 254 yX9_drawInMind ∈ TT := TT_at 773 (by decide +kernel) (by decide +kernel)
theorem lkX9_258 : Cond.methodLink RX9 258 yX2_ownedCount ∈ TT := TT_at 777 (by decide +kernel) (by decide +kernel)
theorem lkX9_261 : Cond.methodLink RX9 261 yX2_allAcres ∈ TT := TT_at 793 (by decide +kernel) (by decide +kernel)
theorem lkX9_264 : Cond.methodLink RX9 264 yX2_touchCount ∈ TT := TT_at 797 (by decide +kernel) (by decide +kernel)
theorem lkX9_267 : Cond.methodLink RX9 267 yX2_allCoins ∈ TT := TT_at 801 (by decide +kernel) (by decide +kernel)
theorem lkX9_273 : Cond.methodLink RX9 273 yX4_become ∈ TT := TT_at 809 (by decide +kernel) (by decide +kernel)
theorem lkX9_278 : Cond.methodLink RX9 278 yX8_becomeRow ∈ TT := TT_at 817 (by decide +kernel) (by decide +kernel)
theorem lkX9_281 : Cond.methodLink RX9 281 yX8_refusalUnless ∈ TT := TT_at 501 (by decide +kernel) (by decide +kernel)
theorem lkX9_284 : Cond.methodLink RX9 284 yX8_set ∈ TT := TT_at 826 (by decide +kernel) (by decide +kernel)
theorem lkX9_307 : Cond.methodLink RX9 307 yX8_hasPlaces ∈ TT := TT_at 838 (by decide +kernel) (by decide +kernel)
theorem lkX9_320 : Cond.methodLink RX9 320 yX4_feeAsked ∈ TT := TT_at 847 (by decide +kernel) (by decide +kernel)
theorem lkX9_327 : Cond.methodLink RX9 327 yX4_isThere ∈ TT := TT_at 502 (by decide +kernel) (by decide +kernel)
theorem lkX9_331 : Cond.methodLink RX9 331 yX4_isAsTold ∈ TT := TT_at 512 (by decide +kernel) (by decide +kernel)
theorem lkX9_334 : Cond.methodLink RX9 334 yX4_doOn ∈ TT := TT_at 518 (by decide +kernel) (by decide +kernel)
theorem lkX9_337 : Cond.methodLink RX9 337 yX2_nobodyOwes ∈ TT := TT_at 544 (by decide +kernel) (by decide +kernel)
theorem lkX9_343 : Cond.methodLink RX9 343 yX2_barWithin ∈ TT := TT_at 591 (by decide +kernel) (by decide +kernel)
theorem lkX10_106 : Cond.methodLink RX10 106 yX10_in ∈ TT := TT_at 1137 (by decide +kernel) (by decide +kernel)
theorem lkX10_119 : Cond.methodLink RX10 119 yX10_bars ∈ TT := TT_at 1203 (by decide +kernel) (by decide +kernel)
theorem lkX10_123 : Cond.methodLink RX10 123 yX10_areKin ∈ TT := TT_at 1252 (by decide +kernel) (by decide +kernel)
theorem lkX10_126 : Cond.methodLink RX10 126 yX10_areApart ∈ TT := TT_at 1248 (by decide +kernel) (by decide +kernel)
theorem lkX10_129 : Cond.methodLink RX10 129 yX10_worthOf ∈ TT := TT_at 1224 (by decide +kernel) (by decide +kernel)
theorem lkX10_146 : Cond.methodLink RX10 146 yX10_here ∈ TT := TT_at 1144 (by decide +kernel) (by decide +kernel)
theorem lkX10_154 : Cond.methodLink RX10 154 yX10_readDigit ∈ TT := TT_at 1156 (by decide +kernel) (by decide +kernel)
theorem lkX10_157 : Cond.methodLink RX10 157 yX10_readNumber ∈ TT := TT_at 1152 (by decide +kernel) (by decide +kernel)
theorem lkX10_160 : Cond.methodLink RX10 160 yX10_take ∈ TT := TT_at 1162 (by decide +kernel) (by decide +kernel)
theorem lkX10_167 : Cond.methodLink RX10 167 yX10_readRest ∈ TT := TT_at 1148 (by decide +kernel) (by decide +kernel)
theorem lkX10_171 : Cond.methodLink RX10 171 yX10_fieldComes ∈ TT := TT_at 1178 (by decide +kernel) (by decide +kernel)
theorem lkX10_175 : Cond.methodLink RX10 175 yX10_personComes ∈ TT := TT_at 1182 (by decide +kernel) (by decide +kernel)
theorem lkX10_178 : Cond.methodLink RX10 178 yX10_isField ∈ TT := TT_at 1186 (by decide +kernel) (by decide +kernel)
theorem lkX10_181 : Cond.methodLink RX10 181 yX10_isPerson ∈ TT := TT_at 1190 (by decide +kernel) (by decide +kernel)
theorem lkX10_184 : Cond.methodLink RX10 184 yX10_wrongBytes ∈ TT := TT_at 1128 (by decide +kernel) (by decide +kernel)
theorem lkX10_187 : Cond.methodLink RX10 187 yX10_readStatement ∈ TT := TT_at 1140 (by decide +kernel) (by decide +kernel)
theorem lkX10_190 : Cond.methodLink RX10 190 yX10_carryTo ∈ TT := TT_at 1166 (by decide +kernel) (by decide +kernel)
theorem lkX10_194 : Cond.methodLink RX10 194 yX10_comes ∈ TT := TT_at 1174 (by decide +kernel) (by decide +kernel)
theorem lkX10_199 : Cond.methodLink RX10 199 yX10_barring ∈ TT := TT_at 1199 (by decide +kernel) (by decide +kernel)
theorem lkX10_204 : Cond.methodLink RX10 204 yX10_takeNow ∈ TT := TT_at 1216 (by decide +kernel) (by decide +kernel)
theorem lkX10_207 : Cond.methodLink RX10 207 yX10_ownedBy ∈ TT := TT_at 1220 (by decide +kernel) (by decide +kernel)
theorem lkX10_210 : Cond.methodLink RX10 210 yX10_isFine ∈ TT := TT_at 1244 (by decide +kernel) (by decide +kernel)
theorem lkX10_231 : Cond.methodLink RX10 231 yX10_add ∈ TT := TT_at 1288 (by decide +kernel) (by decide +kernel)
theorem lkX10_234 : Cond.methodLink RX10 234 yX10_isAsTold ∈ TT := TT_at 1276 (by decide +kernel) (by decide +kernel)
theorem lkX10_237 : Cond.methodLink RX10 237 yX10_changeOwners ∈ TT := TT_at 1280 (by decide +kernel) (by decide +kernel)
theorem lkX10_240 : Cond.methodLink RX10 240 yX10_pay ∈ TT := TT_at 1284 (by decide +kernel) (by decide +kernel)
theorem lkX10_243 : Cond.methodLink RX10 243 yX10_wrongMove ∈ TT := TT_at 1264 (by decide +kernel) (by decide +kernel)
theorem lkX10_246 : Cond.methodLink RX10 246 yX10_openMove ∈ TT := TT_at 1268 (by decide +kernel) (by decide +kernel)
theorem lkX10_249 : Cond.methodLink RX10 249 yX10_canBeDone ∈ TT := TT_at 1272 (by decide +kernel) (by decide +kernel)
theorem lkX10_252 : Cond.methodLink RX10 252 yX10_isWanted ∈ TT := TT_at 1292 (by decide +kernel) (by decide +kernel)
theorem lkX10_257 : Cond.methodLink RX10 257 yX10_power ∈ TT := TT_at 1309 (by decide +kernel) (by decide +kernel)
theorem lkX10_261 : Cond.methodLink RX10 261 yX10_spread ∈ TT := TT_at 1312 (by decide +kernel) (by decide +kernel)
theorem lkX10_264 : Cond.methodLink RX10 264 yX10_isColouring ∈ TT := TT_at 1316 (by decide +kernel) (by decide +kernel)
theorem lkX10_273 : Cond.methodLink RX10 273 yX10_worthOfAll ∈ TT := TT_at 1332 (by decide +kernel) (by decide +kernel)
theorem lkX10_276 : Cond.methodLink RX10 276 yX10_findBest ∈ TT := TT_at 1328 (by decide +kernel) (by decide +kernel)
theorem lkX10_280 : Cond.methodLink RX10 280 yX10_bestTold ∈ TT := TT_at 1336 (by decide +kernel) (by decide +kernel)
theorem lkX10_283 : Cond.methodLink RX10 283 yX10_numberOf ∈ TT := TT_at 1348 (by decide +kernel) (by decide +kernel)
theorem lkX10_286 : Cond.methodLink RX10 286 yX10_canTake ∈ TT := TT_at 1380 (by decide +kernel) (by decide +kernel)
theorem lkX10_289 : Cond.methodLink RX10 289 yX10_spreadGame ∈ TT := TT_at 1368 (by decide +kernel) (by decide +kernel)
theorem lkX10_292 : Cond.methodLink RX10 292 yX10_free ∈ TT := TT_at 1372 (by decide +kernel) (by decide +kernel)
theorem lkX10_295 : Cond.methodLink RX10 295 yX10_solveState ∈ TT := TT_at 1376 (by decide +kernel) (by decide +kernel)
theorem lkX10_298 : Cond.methodLink RX10 298 yX10_solveGame ∈ TT := TT_at 1364 (by decide +kernel) (by decide +kernel)
theorem lkX10_302 : Cond.methodLink RX10 302 yX10_ones ∈ TT := TT_at 1393 (by decide +kernel) (by decide +kernel)
theorem lkX10_305 : Cond.methodLink RX10 305 yX10_doClash ∈ TT := TT_at 1396 (by decide +kernel) (by decide +kernel)
theorem lkX10_318 : Cond.methodLink RX10 318 yX10_carry ∈ TT := TT_at 1170 (by decide +kernel) (by decide +kernel)
theorem lkX10_325 : Cond.methodLink RX10 325 yX10_touches ∈ TT := TT_at 1419 (by decide +kernel) (by decide +kernel)
theorem lkX10_328 : Cond.methodLink RX10 328 yX10_sumOf ∈ TT := TT_at 1423 (by decide +kernel) (by decide +kernel)
theorem lkX10_331 : Cond.methodLink RX10 331 yX10_wrongRow ∈ TT := TT_at 1132 (by decide +kernel) (by decide +kernel)
theorem lkX10_336 : Cond.methodLink RX10 336 yX10_narrowed ∈ TT := TT_at 1440 (by decide +kernel) (by decide +kernel)
theorem lkX10_340 : Cond.methodLink RX10 340 yX10_feeOf ∈ TT := TT_at 1455 (by decide +kernel) (by decide +kernel)
theorem okX0_codeOf : okS yX0_codeOf cX0_codeOf 4 (some .int) 1 := ⟨TT_at 645 (by decide +kernel) (by decide +kernel), TT_at 6 (by decide +kernel) (by decide +kernel), TT_at 644 (by decide +kernel) (by decide +kernel), ⟨by decide +kernel, by decide +kernel⟩, by decide +kernel⟩
theorem okX0_fewestBetween : okV yX0_fewestBetween cX0_fewestBetween 8 (some .int) 2 := ⟨TT_at 642 (by decide +kernel) (by decide +kernel), TT_at 6 (by decide +kernel) (by decide +kernel), TT_at 640 (by decide +kernel) (by decide +kernel), TT_at 641 (by decide +kernel) (by decide +kernel), ⟨by decide +kernel, by decide +kernel⟩, by decide +kernel⟩
theorem okX0_isLawful : okV yX0_isLawful cX0_isLawful 6 (some .boolean) 2 := ⟨TT_at 654 (by decide +kernel) (by decide +kernel), TT_at 6 (by decide +kernel) (by decide +kernel), TT_at 653 (by decide +kernel) (by decide +kernel), TT_sel 22 (by decide +kernel) (by decide +kernel), ⟨by decide +kernel, by decide +kernel⟩, by decide +kernel⟩
theorem okX0_isSeen : okV yX0_isSeen cX0_isSeen 2 (some .boolean) 1 := ⟨TT_at 678 (by decide +kernel) (by decide +kernel), TT_at 6 (by decide +kernel) (by decide +kernel), TT_at 677 (by decide +kernel) (by decide +kernel), TT_sel 27 (by decide +kernel) (by decide +kernel), ⟨by decide +kernel, by decide +kernel⟩, by decide +kernel⟩
theorem okX0_look : okV yX0_look cX0_look 3 none 2 := ⟨TT_at 674 (by decide +kernel) (by decide +kernel), TT_at 6 (by decide +kernel) (by decide +kernel), TT_at 673 (by decide +kernel) (by decide +kernel), TT_sel 26 (by decide +kernel) (by decide +kernel), ⟨by decide +kernel, by decide +kernel⟩, by decide +kernel⟩
theorem okX0_markSeen : okV yX0_markSeen cX0_markSeen 2 none 1 := ⟨TT_at 662 (by decide +kernel) (by decide +kernel), TT_at 6 (by decide +kernel) (by decide +kernel), TT_at 661 (by decide +kernel) (by decide +kernel), TT_sel 23 (by decide +kernel) (by decide +kernel), ⟨by decide +kernel, by decide +kernel⟩, by decide +kernel⟩
theorem okX0_reach : okV yX0_reach cX0_reach 2 none 1 := ⟨TT_at 666 (by decide +kernel) (by decide +kernel), TT_at 6 (by decide +kernel) (by decide +kernel), TT_at 665 (by decide +kernel) (by decide +kernel), TT_sel 24 (by decide +kernel) (by decide +kernel), ⟨by decide +kernel, by decide +kernel⟩, by decide +kernel⟩
theorem okX0_widenFrom : okV yX0_widenFrom cX0_widenFrom 6 none 3 := ⟨TT_at 670 (by decide +kernel) (by decide +kernel), TT_at 6 (by decide +kernel) (by decide +kernel), TT_at 669 (by decide +kernel) (by decide +kernel), TT_sel 25 (by decide +kernel) (by decide +kernel), ⟨by decide +kernel, by decide +kernel⟩, by decide +kernel⟩
theorem okX1_canStandWithout : okV yX1_canStandWithout cX1_canStandWithout 3 (some .boolean) 1 := ⟨TT_at 762 (by decide +kernel) (by decide +kernel), TT_at 8 (by decide +kernel) (by decide +kernel), TT_at 761 (by decide +kernel) (by decide +kernel), TT_sel 30 (by decide +kernel) (by decide +kernel), ⟨by decide +kernel, by decide +kernel⟩, by decide +kernel⟩
theorem okX1_clash : okS yX1_clash cX1_clash 6 (some .boolean) 4 := ⟨TT_at 747 (by decide +kernel) (by decide +kernel), TT_at 8 (by decide +kernel) (by decide +kernel), TT_at 746 (by decide +kernel) (by decide +kernel), ⟨by decide +kernel, by decide +kernel⟩, by decide +kernel⟩
theorem okX1_clashesOf : okV yX1_clashesOf cX1_clashesOf 6 (some .int) 3 := ⟨TT_at 744 (by decide +kernel) (by decide +kernel), TT_at 8 (by decide +kernel) (by decide +kernel), TT_at 743 (by decide +kernel) (by decide +kernel), TT_sel 29 (by decide +kernel) (by decide +kernel), ⟨by decide +kernel, by decide +kernel⟩, by decide +kernel⟩
theorem okX1_fewestStruck : okV yX1_fewestStruck cX1_fewestStruck 3 (some .int) 0 := ⟨TT_at 752 (by decide +kernel) (by decide +kernel), TT_at 8 (by decide +kernel) (by decide +kernel), TT_at 750 (by decide +kernel) (by decide +kernel), TT_at 751 (by decide +kernel) (by decide +kernel), ⟨by decide +kernel, by decide +kernel⟩, by decide +kernel⟩
theorem okX1_isAsTold : okS yX1_isAsTold cX1_isAsTold 4 (some .boolean) 3 := ⟨TT_at 737 (by decide +kernel) (by decide +kernel), TT_at 8 (by decide +kernel) (by decide +kernel), TT_at 736 (by decide +kernel) (by decide +kernel), ⟨by decide +kernel, by decide +kernel⟩, by decide +kernel⟩
theorem okX1_write : okV yX1_write cX1_write 4 (some .boolean) 2 := ⟨TT_at 734 (by decide +kernel) (by decide +kernel), TT_at 8 (by decide +kernel) (by decide +kernel), TT_at 732 (by decide +kernel) (by decide +kernel), TT_at 733 (by decide +kernel) (by decide +kernel), ⟨by decide +kernel, by decide +kernel⟩, by decide +kernel⟩
theorem okX2_acresOf : okV yX2_acresOf cX2_acresOf 2 (some .int) 1 := ⟨TT_at 383 (by decide +kernel) (by decide +kernel), TT_at 2 (by decide +kernel) (by decide +kernel), TT_at 381 (by decide +kernel) (by decide +kernel), TT_at 382 (by decide +kernel) (by decide +kernel), ⟨by decide +kernel, by decide +kernel⟩, by decide +kernel⟩
theorem okX2_addField : okV yX2_addField cX2_addField 4 (some .boolean) 1 := ⟨TT_at 339 (by decide +kernel) (by decide +kernel), TT_at 2 (by decide +kernel) (by decide +kernel), TT_at 337 (by decide +kernel) (by decide +kernel), TT_at 338 (by decide +kernel) (by decide +kernel), ⟨by decide +kernel, by decide +kernel⟩, by decide +kernel⟩
theorem okX2_addPerson : okV yX2_addPerson cX2_addPerson 5 (some .boolean) 2 := ⟨TT_at 375 (by decide +kernel) (by decide +kernel), TT_at 2 (by decide +kernel) (by decide +kernel), TT_at 373 (by decide +kernel) (by decide +kernel), TT_at 374 (by decide +kernel) (by decide +kernel), ⟨by decide +kernel, by decide +kernel⟩, by decide +kernel⟩
theorem okX2_allAcres : okV yX2_allAcres cX2_allAcres 3 (some .int) 0 := ⟨TT_at 796 (by decide +kernel) (by decide +kernel), TT_at 2 (by decide +kernel) (by decide +kernel), TT_at 794 (by decide +kernel) (by decide +kernel), TT_at 795 (by decide +kernel) (by decide +kernel), ⟨by decide +kernel, by decide +kernel⟩, by decide +kernel⟩
theorem okX2_allCoins : okV yX2_allCoins cX2_allCoins 3 (some .int) 0 := ⟨TT_at 804 (by decide +kernel) (by decide +kernel), TT_at 2 (by decide +kernel) (by decide +kernel), TT_at 802 (by decide +kernel) (by decide +kernel), TT_at 803 (by decide +kernel) (by decide +kernel), ⟨by decide +kernel, by decide +kernel⟩, by decide +kernel⟩
theorem okX2_areTwo : okV yX2_areTwo cX2_areTwo 3 (some .boolean) 2 := ⟨TT_at 359 (by decide +kernel) (by decide +kernel), TT_at 2 (by decide +kernel) (by decide +kernel), TT_at 357 (by decide +kernel) (by decide +kernel), TT_at 358 (by decide +kernel) (by decide +kernel), ⟨by decide +kernel, by decide +kernel⟩, by decide +kernel⟩
theorem okX2_asOne : okV yX2_asOne cX2_asOne 3 (some .boolean) 2 := ⟨TT_at 487 (by decide +kernel) (by decide +kernel), TT_at 2 (by decide +kernel) (by decide +kernel), TT_at 485 (by decide +kernel) (by decide +kernel), TT_at 486 (by decide +kernel) (by decide +kernel), ⟨by decide +kernel, by decide +kernel⟩, by decide +kernel⟩
theorem okX2_barBits : okV yX2_barBits cX2_barBits 4 (some .int) 1 := ⟨TT_at 414 (by decide +kernel) (by decide +kernel), TT_at 2 (by decide +kernel) (by decide +kernel), TT_at 412 (by decide +kernel) (by decide +kernel), TT_at 413 (by decide +kernel) (by decide +kernel), ⟨by decide +kernel, by decide +kernel⟩, by decide +kernel⟩
theorem okX2_barWithin : okV yX2_barWithin cX2_barWithin 3 (some .boolean) 1 := ⟨TT_at 594 (by decide +kernel) (by decide +kernel), TT_at 2 (by decide +kernel) (by decide +kernel), TT_at 592 (by decide +kernel) (by decide +kernel), TT_at 593 (by decide +kernel) (by decide +kernel), ⟨by decide +kernel, by decide +kernel⟩, by decide +kernel⟩
theorem okX2_bars : okV yX2_bars cX2_bars 4 (some .boolean) 2 := ⟨TT_at 418 (by decide +kernel) (by decide +kernel), TT_at 2 (by decide +kernel) (by decide +kernel), TT_at 416 (by decide +kernel) (by decide +kernel), TT_at 417 (by decide +kernel) (by decide +kernel), ⟨by decide +kernel, by decide +kernel⟩, by decide +kernel⟩
theorem okX2_coinsOf : okV yX2_coinsOf cX2_coinsOf 2 (some .int) 1 := ⟨TT_at 433 (by decide +kernel) (by decide +kernel), TT_at 2 (by decide +kernel) (by decide +kernel), TT_at 431 (by decide +kernel) (by decide +kernel), TT_at 432 (by decide +kernel) (by decide +kernel), ⟨by decide +kernel, by decide +kernel⟩, by decide +kernel⟩
theorem okX2_copyFrom : okV yX2_copyFrom cX2_copyFrom 2 none 1 := ⟨TT_at 324 (by decide +kernel) (by decide +kernel), TT_at 2 (by decide +kernel) (by decide +kernel), TT_at 322 (by decide +kernel) (by decide +kernel), TT_at 323 (by decide +kernel) (by decide +kernel), ⟨by decide +kernel, by decide +kernel⟩, by decide +kernel⟩
theorem okX2_earn : okV yX2_earn cX2_earn 3 none 2 := ⟨TT_at 534 (by decide +kernel) (by decide +kernel), TT_at 2 (by decide +kernel) (by decide +kernel), TT_at 532 (by decide +kernel) (by decide +kernel), TT_at 533 (by decide +kernel) (by decide +kernel), ⟨by decide +kernel, by decide +kernel⟩, by decide +kernel⟩
theorem okX2_fieldBits : okV yX2_fieldBits cX2_fieldBits 4 (some .int) 1 := ⟨TT_at 441 (by decide +kernel) (by decide +kernel), TT_at 2 (by decide +kernel) (by decide +kernel), TT_at 439 (by decide +kernel) (by decide +kernel), TT_at 440 (by decide +kernel) (by decide +kernel), ⟨by decide +kernel, by decide +kernel⟩, by decide +kernel⟩
theorem okX2_firstOffence : okV yX2_firstOffence cX2_firstOffence 5 (some .int) 1 := ⟨TT_at 483 (by decide +kernel) (by decide +kernel), TT_at 2 (by decide +kernel) (by decide +kernel), TT_at 481 (by decide +kernel) (by decide +kernel), TT_at 482 (by decide +kernel) (by decide +kernel), ⟨by decide +kernel, by decide +kernel⟩, by decide +kernel⟩
theorem okX2_give : okV yX2_give cX2_give 3 (some .boolean) 2 := ⟨TT_at 389 (by decide +kernel) (by decide +kernel), TT_at 2 (by decide +kernel) (by decide +kernel), TT_at 387 (by decide +kernel) (by decide +kernel), TT_at 388 (by decide +kernel) (by decide +kernel), ⟨by decide +kernel, by decide +kernel⟩, by decide +kernel⟩
theorem okX2_greatestWorth : okV yX2_greatestWorth cX2_greatestWorth 4 (some .int) 1 := ⟨TT_at 607 (by decide +kernel) (by decide +kernel), TT_at 2 (by decide +kernel) (by decide +kernel), TT_at 605 (by decide +kernel) (by decide +kernel), TT_at 606 (by decide +kernel) (by decide +kernel), ⟨by decide +kernel, by decide +kernel⟩, by decide +kernel⟩
theorem okX2_isField : okV yX2_isField cX2_isField 2 (some .boolean) 1 := ⟨TT_at 351 (by decide +kernel) (by decide +kernel), TT_at 2 (by decide +kernel) (by decide +kernel), TT_at 349 (by decide +kernel) (by decide +kernel), TT_at 350 (by decide +kernel) (by decide +kernel), ⟨by decide +kernel, by decide +kernel⟩, by decide +kernel⟩
theorem okX2_isLawful : okV yX2_isLawful cX2_isLawful 1 (some .boolean) 0 := ⟨TT_at 479 (by decide +kernel) (by decide +kernel), TT_at 2 (by decide +kernel) (by decide +kernel), TT_at 477 (by decide +kernel) (by decide +kernel), TT_at 478 (by decide +kernel) (by decide +kernel), ⟨by decide +kernel, by decide +kernel⟩, by decide +kernel⟩
theorem okX2_isOwner : okV yX2_isOwner cX2_isOwner 2 (some .boolean) 1 := ⟨TT_at 379 (by decide +kernel) (by decide +kernel), TT_at 2 (by decide +kernel) (by decide +kernel), TT_at 377 (by decide +kernel) (by decide +kernel), TT_at 378 (by decide +kernel) (by decide +kernel), ⟨by decide +kernel, by decide +kernel⟩, by decide +kernel⟩
theorem okX2_isPerson : okV yX2_isPerson cX2_isPerson 2 (some .boolean) 1 := ⟨TT_at 347 (by decide +kernel) (by decide +kernel), TT_at 2 (by decide +kernel) (by decide +kernel), TT_at 345 (by decide +kernel) (by decide +kernel), TT_at 346 (by decide +kernel) (by decide +kernel), ⟨by decide +kernel, by decide +kernel⟩, by decide +kernel⟩
theorem okX2_join : okV yX2_join cX2_join 4 (some .boolean) 3 := ⟨TT_at 355 (by decide +kernel) (by decide +kernel), TT_at 2 (by decide +kernel) (by decide +kernel), TT_at 353 (by decide +kernel) (by decide +kernel), TT_at 354 (by decide +kernel) (by decide +kernel), ⟨by decide +kernel, by decide +kernel⟩, by decide +kernel⟩
theorem okX2_kinOf : okV yX2_kinOf cX2_kinOf 2 (some .int) 1 := ⟨TT_at 437 (by decide +kernel) (by decide +kernel), TT_at 2 (by decide +kernel) (by decide +kernel), TT_at 435 (by decide +kernel) (by decide +kernel), TT_at 436 (by decide +kernel) (by decide +kernel), ⟨by decide +kernel, by decide +kernel⟩, by decide +kernel⟩
theorem okX2_nobodyOwes : okV yX2_nobodyOwes cX2_nobodyOwes 2 (some .boolean) 0 := ⟨TT_at 547 (by decide +kernel) (by decide +kernel), TT_at 2 (by decide +kernel) (by decide +kernel), TT_at 545 (by decide +kernel) (by decide +kernel), TT_at 546 (by decide +kernel) (by decide +kernel), ⟨by decide +kernel, by decide +kernel⟩, by decide +kernel⟩
theorem okX2_ownedCount : okV yX2_ownedCount cX2_ownedCount 3 (some .int) 0 := ⟨TT_at 780 (by decide +kernel) (by decide +kernel), TT_at 2 (by decide +kernel) (by decide +kernel), TT_at 778 (by decide +kernel) (by decide +kernel), TT_at 779 (by decide +kernel) (by decide +kernel), ⟨by decide +kernel, by decide +kernel⟩, by decide +kernel⟩
theorem okX2_ownerOf : okV yX2_ownerOf cX2_ownerOf 2 (some .int) 1 := ⟨TT_at 407 (by decide +kernel) (by decide +kernel), TT_at 2 (by decide +kernel) (by decide +kernel), TT_at 405 (by decide +kernel) (by decide +kernel), TT_at 406 (by decide +kernel) (by decide +kernel), ⟨by decide +kernel, by decide +kernel⟩, by decide +kernel⟩
theorem okX2_setLaw : okV yX2_setLaw cX2_setLaw 3 none 2 := ⟨TT_at 397 (by decide +kernel) (by decide +kernel), TT_at 2 (by decide +kernel) (by decide +kernel), TT_at 395 (by decide +kernel) (by decide +kernel), TT_at 396 (by decide +kernel) (by decide +kernel), ⟨by decide +kernel, by decide +kernel⟩, by decide +kernel⟩
theorem okX2_setTouch : okV yX2_setTouch cX2_setTouch 4 none 3 := ⟨TT_at 367 (by decide +kernel) (by decide +kernel), TT_at 2 (by decide +kernel) (by decide +kernel), TT_at 365 (by decide +kernel) (by decide +kernel), TT_at 366 (by decide +kernel) (by decide +kernel), ⟨by decide +kernel, by decide +kernel⟩, by decide +kernel⟩
theorem okX2_setWorth : okV yX2_setWorth cX2_setWorth 4 (some .boolean) 3 := ⟨TT_at 343 (by decide +kernel) (by decide +kernel), TT_at 2 (by decide +kernel) (by decide +kernel), TT_at 341 (by decide +kernel) (by decide +kernel), TT_at 342 (by decide +kernel) (by decide +kernel), ⟨by decide +kernel, by decide +kernel⟩, by decide +kernel⟩
theorem okX2_touchCount : okV yX2_touchCount cX2_touchCount 5 (some .int) 1 := ⟨TT_at 800 (by decide +kernel) (by decide +kernel), TT_at 2 (by decide +kernel) (by decide +kernel), TT_at 798 (by decide +kernel) (by decide +kernel), TT_at 799 (by decide +kernel) (by decide +kernel), ⟨by decide +kernel, by decide +kernel⟩, by decide +kernel⟩
theorem okX2_touchOf : okV yX2_touchOf cX2_touchOf 3 (some .int) 2 := ⟨TT_at 363 (by decide +kernel) (by decide +kernel), TT_at 2 (by decide +kernel) (by decide +kernel), TT_at 361 (by decide +kernel) (by decide +kernel), TT_at 362 (by decide +kernel) (by decide +kernel), ⟨by decide +kernel, by decide +kernel⟩, by decide +kernel⟩
theorem okX2_worthOfBits : okV yX2_worthOfBits cX2_worthOfBits 5 (some .int) 2 := ⟨TT_at 451 (by decide +kernel) (by decide +kernel), TT_at 2 (by decide +kernel) (by decide +kernel), TT_at 449 (by decide +kernel) (by decide +kernel), TT_at 450 (by decide +kernel) (by decide +kernel), ⟨by decide +kernel, by decide +kernel⟩, by decide +kernel⟩
theorem okX2_worthOwned : okV yX2_worthOwned cX2_worthOwned 2 (some .int) 1 := ⟨TT_at 446 (by decide +kernel) (by decide +kernel), TT_at 2 (by decide +kernel) (by decide +kernel), TT_at 444 (by decide +kernel) (by decide +kernel), TT_at 445 (by decide +kernel) (by decide +kernel), ⟨by decide +kernel, by decide +kernel⟩, by decide +kernel⟩
theorem okX2_worthTo : okV yX2_worthTo cX2_worthTo 3 (some .int) 2 := ⟨TT_at 455 (by decide +kernel) (by decide +kernel), TT_at 2 (by decide +kernel) (by decide +kernel), TT_at 453 (by decide +kernel) (by decide +kernel), TT_at 454 (by decide +kernel) (by decide +kernel), ⟨by decide +kernel, by decide +kernel⟩, by decide +kernel⟩
theorem okX2_worthToOwners : okV yX2_worthToOwners cX2_worthToOwners 4 (some .int) 1 := ⟨TT_at 688 (by decide +kernel) (by decide +kernel), TT_at 2 (by decide +kernel) (by decide +kernel), TT_at 686 (by decide +kernel) (by decide +kernel), TT_at 687 (by decide +kernel) (by decide +kernel), ⟨by decide +kernel, by decide +kernel⟩, by decide +kernel⟩
theorem okX2_writeBars : okV yX2_writeBars cX2_writeBars 3 none 1 := ⟨TT_at 650 (by decide +kernel) (by decide +kernel), TT_at 2 (by decide +kernel) (by decide +kernel), TT_at 648 (by decide +kernel) (by decide +kernel), TT_at 649 (by decide +kernel) (by decide +kernel), ⟨by decide +kernel, by decide +kernel⟩, by decide +kernel⟩
theorem okX3_carryOut : okV yX3_carryOut cX3_carryOut 6 (some .int) 3 := ⟨TT_at 331 (by decide +kernel) (by decide +kernel), TT_at 3 (by decide +kernel) (by decide +kernel), TT_at 329 (by decide +kernel) (by decide +kernel), TT_at 330 (by decide +kernel) (by decide +kernel), ⟨by decide +kernel, by decide +kernel⟩, by decide +kernel⟩
theorem okX3_carryOutLaw : okV yX3_carryOutLaw cX3_carryOutLaw 2 (some .boolean) 1 := ⟨TT_at 393 (by decide +kernel) (by decide +kernel), TT_at 3 (by decide +kernel) (by decide +kernel), TT_at 392 (by decide +kernel) (by decide +kernel), TT_sel 11 (by decide +kernel) (by decide +kernel), ⟨by decide +kernel, by decide +kernel⟩, by decide +kernel⟩
theorem okX3_carryOutOne : okV yX3_carryOutOne cX3_carryOutOne 2 (some .boolean) 1 := ⟨TT_at 335 (by decide +kernel) (by decide +kernel), TT_at 3 (by decide +kernel) (by decide +kernel), TT_at 334 (by decide +kernel) (by decide +kernel), TT_sel 9 (by decide +kernel) (by decide +kernel), ⟨by decide +kernel, by decide +kernel⟩, by decide +kernel⟩
theorem okX3_carryOutPerson : okV yX3_carryOutPerson cX3_carryOutPerson 2 (some .boolean) 1 := ⟨TT_at 371 (by decide +kernel) (by decide +kernel), TT_at 3 (by decide +kernel) (by decide +kernel), TT_at 370 (by decide +kernel) (by decide +kernel), TT_sel 10 (by decide +kernel) (by decide +kernel), ⟨by decide +kernel, by decide +kernel⟩, by decide +kernel⟩
theorem okX3_countStatements : okV yX3_countStatements cX3_countStatements 3 (some .int) 1 := ⟨TT_at 281 (by decide +kernel) (by decide +kernel), TT_at 3 (by decide +kernel) (by decide +kernel), TT_at 279 (by decide +kernel) (by decide +kernel), TT_at 280 (by decide +kernel) (by decide +kernel), ⟨by decide +kernel, by decide +kernel⟩, by decide +kernel⟩
theorem okX3_isDigit : okS yX3_isDigit cX3_isDigit 1 (some .boolean) 1 := ⟨TT_at 304 (by decide +kernel) (by decide +kernel), TT_at 3 (by decide +kernel) (by decide +kernel), TT_at 303 (by decide +kernel) (by decide +kernel), ⟨by decide +kernel, by decide +kernel⟩, by decide +kernel⟩
theorem okX3_isLetter : okV yX3_isLetter cX3_isLetter 1 (some .boolean) 0 := ⟨TT_at 293 (by decide +kernel) (by decide +kernel), TT_at 3 (by decide +kernel) (by decide +kernel), TT_at 292 (by decide +kernel) (by decide +kernel), TT_sel 2 (by decide +kernel) (by decide +kernel), ⟨by decide +kernel, by decide +kernel⟩, by decide +kernel⟩
theorem okX3_takeBehindLetter : okV yX3_takeBehindLetter cX3_takeBehindLetter 2 (some .boolean) 1 := ⟨TT_at 297 (by decide +kernel) (by decide +kernel), TT_at 3 (by decide +kernel) (by decide +kernel), TT_at 296 (by decide +kernel) (by decide +kernel), TT_sel 3 (by decide +kernel) (by decide +kernel), ⟨by decide +kernel, by decide +kernel⟩, by decide +kernel⟩
theorem okX3_takeDigits : okV yX3_takeDigits cX3_takeDigits 5 (some .boolean) 2 := ⟨TT_at 301 (by decide +kernel) (by decide +kernel), TT_at 3 (by decide +kernel) (by decide +kernel), TT_at 300 (by decide +kernel) (by decide +kernel), TT_sel 4 (by decide +kernel) (by decide +kernel), ⟨by decide +kernel, by decide +kernel⟩, by decide +kernel⟩
theorem okX3_takeFigure : okV yX3_takeFigure cX3_takeFigure 4 (some .boolean) 2 := ⟨TT_at 316 (by decide +kernel) (by decide +kernel), TT_at 3 (by decide +kernel) (by decide +kernel), TT_at 315 (by decide +kernel) (by decide +kernel), TT_sel 7 (by decide +kernel) (by decide +kernel), ⟨by decide +kernel, by decide +kernel⟩, by decide +kernel⟩
theorem okX3_takeKin : okV yX3_takeKin cX3_takeKin 2 (some .boolean) 1 := ⟨TT_at 320 (by decide +kernel) (by decide +kernel), TT_at 3 (by decide +kernel) (by decide +kernel), TT_at 319 (by decide +kernel) (by decide +kernel), TT_sel 8 (by decide +kernel) (by decide +kernel), ⟨by decide +kernel, by decide +kernel⟩, by decide +kernel⟩
theorem okX3_takeLane : okV yX3_takeLane cX3_takeLane 2 (some .boolean) 1 := ⟨TT_at 308 (by decide +kernel) (by decide +kernel), TT_at 3 (by decide +kernel) (by decide +kernel), TT_at 307 (by decide +kernel) (by decide +kernel), TT_sel 5 (by decide +kernel) (by decide +kernel), ⟨by decide +kernel, by decide +kernel⟩, by decide +kernel⟩
theorem okX3_takeSign : okV yX3_takeSign cX3_takeSign 3 (some .boolean) 2 := ⟨TT_at 312 (by decide +kernel) (by decide +kernel), TT_at 3 (by decide +kernel) (by decide +kernel), TT_at 311 (by decide +kernel) (by decide +kernel), TT_sel 6 (by decide +kernel) (by decide +kernel), ⟨by decide +kernel, by decide +kernel⟩, by decide +kernel⟩
theorem okX3_takeStatement : okV yX3_takeStatement cX3_takeStatement 2 (some .boolean) 1 := ⟨TT_at 285 (by decide +kernel) (by decide +kernel), TT_at 3 (by decide +kernel) (by decide +kernel), TT_at 284 (by decide +kernel) (by decide +kernel), TT_sel 1 (by decide +kernel) (by decide +kernel), ⟨by decide +kernel, by decide +kernel⟩, by decide +kernel⟩
theorem okX4_become : okV yX4_become cX4_become 3 none 2 := ⟨TT_at 812 (by decide +kernel) (by decide +kernel), TT_at 10 (by decide +kernel) (by decide +kernel), TT_at 810 (by decide +kernel) (by decide +kernel), TT_at 811 (by decide +kernel) (by decide +kernel), ⟨by decide +kernel, by decide +kernel⟩, by decide +kernel⟩
theorem okX4_buyFor : okV yX4_buyFor cX4_buyFor 3 none 2 := ⟨TT_at 530 (by decide +kernel) (by decide +kernel), TT_at 10 (by decide +kernel) (by decide +kernel), TT_at 529 (by decide +kernel) (by decide +kernel), TT_sel 15 (by decide +kernel) (by decide +kernel), ⟨by decide +kernel, by decide +kernel⟩, by decide +kernel⟩
theorem okX4_doOn : okV yX4_doOn cX4_doOn 2 none 1 := ⟨TT_at 521 (by decide +kernel) (by decide +kernel), TT_at 10 (by decide +kernel) (by decide +kernel), TT_at 519 (by decide +kernel) (by decide +kernel), TT_at 520 (by decide +kernel) (by decide +kernel), ⟨by decide +kernel, by decide +kernel⟩, by decide +kernel⟩
theorem okX4_feeAsked : okV yX4_feeAsked cX4_feeAsked 3 (some .int) 0 := ⟨TT_at 850 (by decide +kernel) (by decide +kernel), TT_at 10 (by decide +kernel) (by decide +kernel), TT_at 848 (by decide +kernel) (by decide +kernel), TT_at 849 (by decide +kernel) (by decide +kernel), ⟨by decide +kernel, by decide +kernel⟩, by decide +kernel⟩
theorem okX4_goRound : okV yX4_goRound cX4_goRound 6 none 2 := ⟨TT_at 542 (by decide +kernel) (by decide +kernel), TT_at 10 (by decide +kernel) (by decide +kernel), TT_at 541 (by decide +kernel) (by decide +kernel), TT_sel 16 (by decide +kernel) (by decide +kernel), ⟨by decide +kernel, by decide +kernel⟩, by decide +kernel⟩
theorem okX4_isAsTold : okV yX4_isAsTold cX4_isAsTold 2 (some .boolean) 1 := ⟨TT_at 515 (by decide +kernel) (by decide +kernel), TT_at 10 (by decide +kernel) (by decide +kernel), TT_at 513 (by decide +kernel) (by decide +kernel), TT_at 514 (by decide +kernel) (by decide +kernel), ⟨by decide +kernel, by decide +kernel⟩, by decide +kernel⟩
theorem okX4_isThere : okV yX4_isThere cX4_isThere 3 (some .boolean) 1 := ⟨TT_at 505 (by decide +kernel) (by decide +kernel), TT_at 10 (by decide +kernel) (by decide +kernel), TT_at 503 (by decide +kernel) (by decide +kernel), TT_at 504 (by decide +kernel) (by decide +kernel), ⟨by decide +kernel, by decide +kernel⟩, by decide +kernel⟩
theorem okX4_priceIn : okV yX4_priceIn cX4_priceIn 2 (some .int) 1 := ⟨TT_at 525 (by decide +kernel) (by decide +kernel), TT_at 10 (by decide +kernel) (by decide +kernel), TT_at 524 (by decide +kernel) (by decide +kernel), TT_sel 14 (by decide +kernel) (by decide +kernel), ⟨by decide +kernel, by decide +kernel⟩, by decide +kernel⟩
theorem okX5_canHave : okV yX5_canHave cX5_canHave 5 (some .boolean) 3 := ⟨TT_at 576 (by decide +kernel) (by decide +kernel), TT_at 5 (by decide +kernel) (by decide +kernel), TT_at 575 (by decide +kernel) (by decide +kernel), TT_sel 18 (by decide +kernel) (by decide +kernel), ⟨by decide +kernel, by decide +kernel⟩, by decide +kernel⟩
theorem okX5_fewestFor : okV yX5_fewestFor cX5_fewestFor 3 (some .int) 1 := ⟨TT_at 569 (by decide +kernel) (by decide +kernel), TT_at 5 (by decide +kernel) (by decide +kernel), TT_at 567 (by decide +kernel) (by decide +kernel), TT_at 568 (by decide +kernel) (by decide +kernel), ⟨by decide +kernel, by decide +kernel⟩, by decide +kernel⟩
theorem okX5_numberFrom : okS yX5_numberFrom cX5_numberFrom 5 (some .boolean) 4 := ⟨TT_at 572 (by decide +kernel) (by decide +kernel), TT_at 5 (by decide +kernel) (by decide +kernel), TT_at 571 (by decide +kernel) (by decide +kernel), ⟨by decide +kernel, by decide +kernel⟩, by decide +kernel⟩
theorem okX5_numberOf : okV yX5_numberOf cX5_numberOf 2 (some .int) 1 := ⟨TT_at 581 (by decide +kernel) (by decide +kernel), TT_at 5 (by decide +kernel) (by decide +kernel), TT_at 579 (by decide +kernel) (by decide +kernel), TT_at 580 (by decide +kernel) (by decide +kernel), ⟨by decide +kernel, by decide +kernel⟩, by decide +kernel⟩
theorem okX6_canTake : okS yX6_canTake cX6_canTake 4 (some .boolean) 3 := ⟨TT_at 725 (by decide +kernel) (by decide +kernel), TT_at 7 (by decide +kernel) (by decide +kernel), TT_at 724 (by decide +kernel) (by decide +kernel), ⟨by decide +kernel, by decide +kernel⟩, by decide +kernel⟩
theorem okX6_lead : okV yX6_lead cX6_lead 2 (some .int) 1 := ⟨TT_at 719 (by decide +kernel) (by decide +kernel), TT_at 7 (by decide +kernel) (by decide +kernel), TT_at 717 (by decide +kernel) (by decide +kernel), TT_at 718 (by decide +kernel) (by decide +kernel), ⟨by decide +kernel, by decide +kernel⟩, by decide +kernel⟩
theorem okX6_leadFrom : okS yX6_leadFrom cX6_leadFrom 9 (some .int) 5 := ⟨TT_at 722 (by decide +kernel) (by decide +kernel), TT_at 7 (by decide +kernel) (by decide +kernel), TT_at 721 (by decide +kernel) (by decide +kernel), ⟨by decide +kernel, by decide +kernel⟩, by decide +kernel⟩
theorem okX6_winningField : okV yX6_winningField cX6_winningField 2 (some .int) 1 := ⟨TT_at 705 (by decide +kernel) (by decide +kernel), TT_at 7 (by decide +kernel) (by decide +kernel), TT_at 703 (by decide +kernel) (by decide +kernel), TT_at 704 (by decide +kernel) (by decide +kernel), ⟨by decide +kernel, by decide +kernel⟩, by decide +kernel⟩
theorem okX6_winningFrom : okS yX6_winningFrom cX6_winningFrom 7 (some .int) 5 := ⟨TT_at 710 (by decide +kernel) (by decide +kernel), TT_at 7 (by decide +kernel) (by decide +kernel), TT_at 709 (by decide +kernel) (by decide +kernel), ⟨by decide +kernel, by decide +kernel⟩, by decide +kernel⟩
theorem okX7_canHave : okV yX7_canHave cX7_canHave 6 (some .boolean) 3 := ⟨TT_at 622 (by decide +kernel) (by decide +kernel), TT_at 4 (by decide +kernel) (by decide +kernel), TT_at 621 (by decide +kernel) (by decide +kernel), TT_sel 21 (by decide +kernel) (by decide +kernel), ⟨by decide +kernel, by decide +kernel⟩, by decide +kernel⟩
theorem okX7_keepIfBetter : okV yX7_keepIfBetter cX7_keepIfBetter 2 none 1 := ⟨TT_at 617 (by decide +kernel) (by decide +kernel), TT_at 4 (by decide +kernel) (by decide +kernel), TT_at 616 (by decide +kernel) (by decide +kernel), TT_sel 20 (by decide +kernel) (by decide +kernel), ⟨by decide +kernel, by decide +kernel⟩, by decide +kernel⟩
theorem okX7_ownerFound : okV yX7_ownerFound cX7_ownerFound 2 (some .int) 1 := ⟨TT_at 630 (by decide +kernel) (by decide +kernel), TT_at 4 (by decide +kernel) (by decide +kernel), TT_at 628 (by decide +kernel) (by decide +kernel), TT_at 629 (by decide +kernel) (by decide +kernel), ⟨by decide +kernel, by decide +kernel⟩, by decide +kernel⟩
theorem okX7_search : okV yX7_search cX7_search 4 none 2 := ⟨TT_at 603 (by decide +kernel) (by decide +kernel), TT_at 4 (by decide +kernel) (by decide +kernel), TT_at 601 (by decide +kernel) (by decide +kernel), TT_at 602 (by decide +kernel) (by decide +kernel), ⟨by decide +kernel, by decide +kernel⟩, by decide +kernel⟩
theorem okX7_tryFrom : okS yX7_tryFrom cX7_tryFrom 6 none 4 := ⟨TT_at 613 (by decide +kernel) (by decide +kernel), TT_at 4 (by decide +kernel) (by decide +kernel), TT_at 612 (by decide +kernel) (by decide +kernel), ⟨by decide +kernel, by decide +kernel⟩, by decide +kernel⟩
theorem okX8_at : okV yX8_at cX8_at 2 (some .int) 1 := ⟨TT_at 289 (by decide +kernel) (by decide +kernel), TT_at 9 (by decide +kernel) (by decide +kernel), TT_at 287 (by decide +kernel) (by decide +kernel), TT_at 288 (by decide +kernel) (by decide +kernel), ⟨by decide +kernel, by decide +kernel⟩, by decide +kernel⟩
theorem okX8_becomeRow : okV yX8_becomeRow cX8_becomeRow 3 none 2 := ⟨TT_at 820 (by decide +kernel) (by decide +kernel), TT_at 9 (by decide +kernel) (by decide +kernel), TT_at 818 (by decide +kernel) (by decide +kernel), TT_at 819 (by decide +kernel) (by decide +kernel), ⟨by decide +kernel, by decide +kernel⟩, by decide +kernel⟩
theorem okX8_bytesRefusal : okV yX8_bytesRefusal cX8_bytesRefusal 2 (some .int) 0 := ⟨TT_at 273 (by decide +kernel) (by decide +kernel), TT_at 9 (by decide +kernel) (by decide +kernel), TT_at 271 (by decide +kernel) (by decide +kernel), TT_at 272 (by decide +kernel) (by decide +kernel), ⟨by decide +kernel, by decide +kernel⟩, by decide +kernel⟩
theorem okX8_hasPlaces : okV yX8_hasPlaces cX8_hasPlaces 3 (some .boolean) 2 := ⟨TT_at 841 (by decide +kernel) (by decide +kernel), TT_at 9 (by decide +kernel) (by decide +kernel), TT_at 839 (by decide +kernel) (by decide +kernel), TT_at 840 (by decide +kernel) (by decide +kernel), ⟨by decide +kernel, by decide +kernel⟩, by decide +kernel⟩
theorem okX8_isPlace : okV yX8_isPlace cX8_isPlace 2 (some .boolean) 1 := ⟨TT_at 833 (by decide +kernel) (by decide +kernel), TT_at 9 (by decide +kernel) (by decide +kernel), TT_at 831 (by decide +kernel) (by decide +kernel), TT_at 832 (by decide +kernel) (by decide +kernel), ⟨by decide +kernel, by decide +kernel⟩, by decide +kernel⟩
theorem okX8_refusalUnless : okV yX8_refusalUnless cX8_refusalUnless 2 (some .int) 1 := ⟨TT_at 277 (by decide +kernel) (by decide +kernel), TT_at 9 (by decide +kernel) (by decide +kernel), TT_at 275 (by decide +kernel) (by decide +kernel), TT_at 276 (by decide +kernel) (by decide +kernel), ⟨by decide +kernel, by decide +kernel⟩, by decide +kernel⟩
theorem okX8_set : okV yX8_set cX8_set 3 (some .boolean) 2 := ⟨TT_at 829 (by decide +kernel) (by decide +kernel), TT_at 9 (by decide +kernel) (by decide +kernel), TT_at 827 (by decide +kernel) (by decide +kernel), TT_at 828 (by decide +kernel) (by decide +kernel), ⟨by decide +kernel, by decide +kernel⟩, by decide +kernel⟩
theorem okX9_drawBelow : okS yX9_drawBelow cX9_drawBelow 2 (some .int) 2 := ⟨TT_at 771 (by decide +kernel) (by decide +kernel), TT_at 1 (by decide +kernel) (by decide +kernel), TT_at 770 (by decide +kernel) (by decide +kernel), ⟨by decide +kernel, by decide +kernel⟩, by decide +kernel⟩
theorem okX9_drawInMind : okV yX9_drawInMind cX9_drawInMind 3 none 2 := ⟨TT_at 776 (by decide +kernel) (by decide +kernel), TT_at 1 (by decide +kernel) (by decide +kernel), TT_at 775 (by decide +kernel) (by decide +kernel), TT_sel 31 (by decide +kernel) (by decide +kernel), ⟨by decide +kernel, by decide +kernel⟩, by decide +kernel⟩
theorem okX9_isWanted : okV yX9_isWanted cX9_isWanted 3 (some .boolean) 1 := ⟨TT_at 552 (by decide +kernel) (by decide +kernel), TT_at 1 (by decide +kernel) (by decide +kernel), TT_at 551 (by decide +kernel) (by decide +kernel), TT_sel 17 (by decide +kernel) (by decide +kernel), ⟨by decide +kernel, by decide +kernel⟩, by decide +kernel⟩
theorem okX9_mayBeDone : okV yX9_mayBeDone cX9_mayBeDone 2 (some .boolean) 1 := ⟨TT_at 511 (by decide +kernel) (by decide +kernel), TT_at 1 (by decide +kernel) (by decide +kernel), TT_at 510 (by decide +kernel) (by decide +kernel), TT_sel 13 (by decide +kernel) (by decide +kernel), ⟨by decide +kernel, by decide +kernel⟩, by decide +kernel⟩
theorem okX9_mostBits : okV yX9_mostBits cX9_mostBits 7 (some .int) 1 := ⟨TT_at 589 (by decide +kernel) (by decide +kernel), TT_at 1 (by decide +kernel) (by decide +kernel), TT_at 588 (by decide +kernel) (by decide +kernel), TT_sel 19 (by decide +kernel) (by decide +kernel), ⟨by decide +kernel, by decide +kernel⟩, by decide +kernel⟩
theorem okX9_moveRefusal : okV yX9_moveRefusal cX9_moveRefusal 3 (some .int) 1 := ⟨TT_at 500 (by decide +kernel) (by decide +kernel), TT_at 1 (by decide +kernel) (by decide +kernel), TT_at 499 (by decide +kernel) (by decide +kernel), TT_sel 12 (by decide +kernel) (by decide +kernel), ⟨by decide +kernel, by decide +kernel⟩, by decide +kernel⟩
theorem okX9_orNone : okS yX9_orNone cX9_orNone 1 (some .int) 1 := ⟨TT_at 410 (by decide +kernel) (by decide +kernel), TT_at 1 (by decide +kernel) (by decide +kernel), TT_at 409 (by decide +kernel) (by decide +kernel), ⟨by decide +kernel, by decide +kernel⟩, by decide +kernel⟩
theorem okX9_shelfAt : okV yX9_shelfAt cX9_shelfAt 2 (some (.object "NoTwoTouch$Shelf")) 1 := ⟨TT_at 269 (by decide +kernel) (by decide +kernel), TT_at 1 (by decide +kernel) (by decide +kernel), TT_at 268 (by decide +kernel) (by decide +kernel), TT_sel 0 (by decide +kernel) (by decide +kernel), ⟨by decide +kernel, by decide +kernel⟩, by decide +kernel⟩
theorem okX9_worthWithLane : okV yX9_worthWithLane cX9_worthWithLane 3 (some .int) 2 := ⟨TT_at 696 (by decide +kernel) (by decide +kernel), TT_at 1 (by decide +kernel) (by decide +kernel), TT_at 695 (by decide +kernel) (by decide +kernel), TT_sel 28 (by decide +kernel) (by decide +kernel), ⟨by decide +kernel, by decide +kernel⟩, by decide +kernel⟩
theorem okX10_add : okV yX10_add cX10_add 4 none 2 := ⟨TT_at 1291 (by decide +kernel) (by decide +kernel), TT_at 11 (by decide +kernel) (by decide +kernel), TT_at 1290 (by decide +kernel) (by decide +kernel), TT_sel 62 (by decide +kernel) (by decide +kernel), ⟨by decide +kernel, by decide +kernel⟩, by decide +kernel⟩
theorem okX10_areApart : okV yX10_areApart cX10_areApart 3 (some .boolean) 2 := ⟨TT_at 1251 (by decide +kernel) (by decide +kernel), TT_at 11 (by decide +kernel) (by decide +kernel), TT_at 1250 (by decide +kernel) (by decide +kernel), TT_sel 54 (by decide +kernel) (by decide +kernel), ⟨by decide +kernel, by decide +kernel⟩, by decide +kernel⟩
theorem okX10_areKin : okV yX10_areKin cX10_areKin 3 (some .boolean) 2 := ⟨TT_at 1255 (by decide +kernel) (by decide +kernel), TT_at 11 (by decide +kernel) (by decide +kernel), TT_at 1254 (by decide +kernel) (by decide +kernel), TT_sel 55 (by decide +kernel) (by decide +kernel), ⟨by decide +kernel, by decide +kernel⟩, by decide +kernel⟩
theorem okX10_barring : okV yX10_barring cX10_barring 4 (some .int) 1 := ⟨TT_at 1202 (by decide +kernel) (by decide +kernel), TT_at 11 (by decide +kernel) (by decide +kernel), TT_at 1201 (by decide +kernel) (by decide +kernel), TT_sel 48 (by decide +kernel) (by decide +kernel), ⟨by decide +kernel, by decide +kernel⟩, by decide +kernel⟩
theorem okX10_bars : okV yX10_bars cX10_bars 4 (some .boolean) 2 := ⟨TT_at 1206 (by decide +kernel) (by decide +kernel), TT_at 11 (by decide +kernel) (by decide +kernel), TT_at 1205 (by decide +kernel) (by decide +kernel), TT_sel 49 (by decide +kernel) (by decide +kernel), ⟨by decide +kernel, by decide +kernel⟩, by decide +kernel⟩
theorem okX10_bestTold : okV yX10_bestTold cX10_bestTold 2 (some .int) 1 := ⟨TT_at 1339 (by decide +kernel) (by decide +kernel), TT_at 11 (by decide +kernel) (by decide +kernel), TT_at 1338 (by decide +kernel) (by decide +kernel), TT_sel 68 (by decide +kernel) (by decide +kernel), ⟨by decide +kernel, by decide +kernel⟩, by decide +kernel⟩
theorem okX10_canBeDone : okV yX10_canBeDone cX10_canBeDone 3 (some .boolean) 0 := ⟨TT_at 1275 (by decide +kernel) (by decide +kernel), TT_at 11 (by decide +kernel) (by decide +kernel), TT_at 1274 (by decide +kernel) (by decide +kernel), TT_sel 58 (by decide +kernel) (by decide +kernel), ⟨by decide +kernel, by decide +kernel⟩, by decide +kernel⟩
theorem okX10_canTake : okV yX10_canTake cX10_canTake 6 (some .boolean) 2 := ⟨TT_at 1383 (by decide +kernel) (by decide +kernel), TT_at 11 (by decide +kernel) (by decide +kernel), TT_at 1382 (by decide +kernel) (by decide +kernel), TT_sel 74 (by decide +kernel) (by decide +kernel), ⟨by decide +kernel, by decide +kernel⟩, by decide +kernel⟩
theorem okX10_carry : okV yX10_carry cX10_carry 3 (some .int) 2 := ⟨TT_at 1173 (by decide +kernel) (by decide +kernel), TT_at 11 (by decide +kernel) (by decide +kernel), TT_at 1172 (by decide +kernel) (by decide +kernel), TT_sel 42 (by decide +kernel) (by decide +kernel), ⟨by decide +kernel, by decide +kernel⟩, by decide +kernel⟩
theorem okX10_carryTo : okV yX10_carryTo cX10_carryTo 4 none 2 := ⟨TT_at 1169 (by decide +kernel) (by decide +kernel), TT_at 11 (by decide +kernel) (by decide +kernel), TT_at 1168 (by decide +kernel) (by decide +kernel), TT_sel 41 (by decide +kernel) (by decide +kernel), ⟨by decide +kernel, by decide +kernel⟩, by decide +kernel⟩
theorem okX10_changeOwners : okV yX10_changeOwners cX10_changeOwners 1 none 0 := ⟨TT_at 1283 (by decide +kernel) (by decide +kernel), TT_at 11 (by decide +kernel) (by decide +kernel), TT_at 1282 (by decide +kernel) (by decide +kernel), TT_sel 60 (by decide +kernel) (by decide +kernel), ⟨by decide +kernel, by decide +kernel⟩, by decide +kernel⟩
theorem okX10_comes : okV yX10_comes cX10_comes 6 (some .boolean) 1 := ⟨TT_at 1177 (by decide +kernel) (by decide +kernel), TT_at 11 (by decide +kernel) (by decide +kernel), TT_at 1176 (by decide +kernel) (by decide +kernel), TT_sel 43 (by decide +kernel) (by decide +kernel), ⟨by decide +kernel, by decide +kernel⟩, by decide +kernel⟩
theorem okX10_doClash : okV yX10_doClash cX10_doClash 11 (some .boolean) 3 := ⟨TT_at 1399 (by decide +kernel) (by decide +kernel), TT_at 11 (by decide +kernel) (by decide +kernel), TT_at 1398 (by decide +kernel) (by decide +kernel), TT_sel 75 (by decide +kernel) (by decide +kernel), ⟨by decide +kernel, by decide +kernel⟩, by decide +kernel⟩
theorem okX10_feeOf : okV yX10_feeOf cX10_feeOf 3 (some .int) 1 := ⟨TT_at 1458 (by decide +kernel) (by decide +kernel), TT_at 11 (by decide +kernel) (by decide +kernel), TT_at 1457 (by decide +kernel) (by decide +kernel), TT_sel 78 (by decide +kernel) (by decide +kernel), ⟨by decide +kernel, by decide +kernel⟩, by decide +kernel⟩
theorem okX10_fieldComes : okV yX10_fieldComes cX10_fieldComes 3 (some .boolean) 1 := ⟨TT_at 1181 (by decide +kernel) (by decide +kernel), TT_at 11 (by decide +kernel) (by decide +kernel), TT_at 1180 (by decide +kernel) (by decide +kernel), TT_sel 44 (by decide +kernel) (by decide +kernel), ⟨by decide +kernel, by decide +kernel⟩, by decide +kernel⟩
theorem okX10_findBest : okV yX10_findBest cX10_findBest 6 none 1 := ⟨TT_at 1331 (by decide +kernel) (by decide +kernel), TT_at 11 (by decide +kernel) (by decide +kernel), TT_at 1330 (by decide +kernel) (by decide +kernel), TT_sel 66 (by decide +kernel) (by decide +kernel), ⟨by decide +kernel, by decide +kernel⟩, by decide +kernel⟩
theorem okX10_free : okV yX10_free cX10_free 3 (some .int) 0 := ⟨TT_at 1375 (by decide +kernel) (by decide +kernel), TT_at 11 (by decide +kernel) (by decide +kernel), TT_at 1374 (by decide +kernel) (by decide +kernel), TT_sel 72 (by decide +kernel) (by decide +kernel), ⟨by decide +kernel, by decide +kernel⟩, by decide +kernel⟩
theorem okX10_here : okV yX10_here cX10_here 1 (some .int) 0 := ⟨TT_at 1147 (by decide +kernel) (by decide +kernel), TT_at 11 (by decide +kernel) (by decide +kernel), TT_at 1146 (by decide +kernel) (by decide +kernel), TT_sel 36 (by decide +kernel) (by decide +kernel), ⟨by decide +kernel, by decide +kernel⟩, by decide +kernel⟩
theorem okX10_in : okS yX10_in cX10_in 6 (some .boolean) 3 := ⟨TT_at 1139 (by decide +kernel) (by decide +kernel), TT_at 11 (by decide +kernel) (by decide +kernel), TT_at 1138 (by decide +kernel) (by decide +kernel), ⟨by decide +kernel, by decide +kernel⟩, by decide +kernel⟩
theorem okX10_isAsTold : okV yX10_isAsTold cX10_isAsTold 1 (some .boolean) 0 := ⟨TT_at 1279 (by decide +kernel) (by decide +kernel), TT_at 11 (by decide +kernel) (by decide +kernel), TT_at 1278 (by decide +kernel) (by decide +kernel), TT_sel 59 (by decide +kernel) (by decide +kernel), ⟨by decide +kernel, by decide +kernel⟩, by decide +kernel⟩
theorem okX10_isColouring : okV yX10_isColouring cX10_isColouring 4 (some .boolean) 0 := ⟨TT_at 1319 (by decide +kernel) (by decide +kernel), TT_at 11 (by decide +kernel) (by decide +kernel), TT_at 1318 (by decide +kernel) (by decide +kernel), TT_sel 65 (by decide +kernel) (by decide +kernel), ⟨by decide +kernel, by decide +kernel⟩, by decide +kernel⟩
theorem okX10_isField : okV yX10_isField cX10_isField 2 (some .boolean) 1 := ⟨TT_at 1189 (by decide +kernel) (by decide +kernel), TT_at 11 (by decide +kernel) (by decide +kernel), TT_at 1188 (by decide +kernel) (by decide +kernel), TT_sel 46 (by decide +kernel) (by decide +kernel), ⟨by decide +kernel, by decide +kernel⟩, by decide +kernel⟩
theorem okX10_isFine : okV yX10_isFine cX10_isFine 4 (some .boolean) 0 := ⟨TT_at 1247 (by decide +kernel) (by decide +kernel), TT_at 11 (by decide +kernel) (by decide +kernel), TT_at 1246 (by decide +kernel) (by decide +kernel), TT_sel 53 (by decide +kernel) (by decide +kernel), ⟨by decide +kernel, by decide +kernel⟩, by decide +kernel⟩
theorem okX10_isPerson : okV yX10_isPerson cX10_isPerson 2 (some .boolean) 1 := ⟨TT_at 1193 (by decide +kernel) (by decide +kernel), TT_at 11 (by decide +kernel) (by decide +kernel), TT_at 1192 (by decide +kernel) (by decide +kernel), TT_sel 47 (by decide +kernel) (by decide +kernel), ⟨by decide +kernel, by decide +kernel⟩, by decide +kernel⟩
theorem okX10_isWanted : okV yX10_isWanted cX10_isWanted 4 (some .boolean) 0 := ⟨TT_at 1295 (by decide +kernel) (by decide +kernel), TT_at 11 (by decide +kernel) (by decide +kernel), TT_at 1294 (by decide +kernel) (by decide +kernel), TT_sel 63 (by decide +kernel) (by decide +kernel), ⟨by decide +kernel, by decide +kernel⟩, by decide +kernel⟩
theorem okX10_narrowed : okS yX10_narrowed cX10_narrowed 2 (some .long) 2 := ⟨TT_at 1442 (by decide +kernel) (by decide +kernel), TT_at 11 (by decide +kernel) (by decide +kernel), TT_at 1441 (by decide +kernel) (by decide +kernel), ⟨by decide +kernel, by decide +kernel⟩, by decide +kernel⟩
theorem okX10_numberOf : okV yX10_numberOf cX10_numberOf 3 (some .int) 0 := ⟨TT_at 1351 (by decide +kernel) (by decide +kernel), TT_at 11 (by decide +kernel) (by decide +kernel), TT_at 1350 (by decide +kernel) (by decide +kernel), TT_sel 69 (by decide +kernel) (by decide +kernel), ⟨by decide +kernel, by decide +kernel⟩, by decide +kernel⟩
theorem okX10_ones : okS yX10_ones cX10_ones 3 (some .int) 1 := ⟨TT_at 1395 (by decide +kernel) (by decide +kernel), TT_at 11 (by decide +kernel) (by decide +kernel), TT_at 1394 (by decide +kernel) (by decide +kernel), ⟨by decide +kernel, by decide +kernel⟩, by decide +kernel⟩
theorem okX10_openMove : okV yX10_openMove cX10_openMove 3 (some .boolean) 1 := ⟨TT_at 1271 (by decide +kernel) (by decide +kernel), TT_at 11 (by decide +kernel) (by decide +kernel), TT_at 1270 (by decide +kernel) (by decide +kernel), TT_sel 57 (by decide +kernel) (by decide +kernel), ⟨by decide +kernel, by decide +kernel⟩, by decide +kernel⟩
theorem okX10_ownedBy : okV yX10_ownedBy cX10_ownedBy 4 (some .int) 1 := ⟨TT_at 1223 (by decide +kernel) (by decide +kernel), TT_at 11 (by decide +kernel) (by decide +kernel), TT_at 1222 (by decide +kernel) (by decide +kernel), TT_sel 51 (by decide +kernel) (by decide +kernel), ⟨by decide +kernel, by decide +kernel⟩, by decide +kernel⟩
theorem okX10_pay : okV yX10_pay cX10_pay 3 none 0 := ⟨TT_at 1287 (by decide +kernel) (by decide +kernel), TT_at 11 (by decide +kernel) (by decide +kernel), TT_at 1286 (by decide +kernel) (by decide +kernel), TT_sel 61 (by decide +kernel) (by decide +kernel), ⟨by decide +kernel, by decide +kernel⟩, by decide +kernel⟩
theorem okX10_personComes : okV yX10_personComes cX10_personComes 4 (some .boolean) 2 := ⟨TT_at 1185 (by decide +kernel) (by decide +kernel), TT_at 11 (by decide +kernel) (by decide +kernel), TT_at 1184 (by decide +kernel) (by decide +kernel), TT_sel 45 (by decide +kernel) (by decide +kernel), ⟨by decide +kernel, by decide +kernel⟩, by decide +kernel⟩
theorem okX10_power : okS yX10_power cX10_power 4 (some .int) 2 := ⟨TT_at 1311 (by decide +kernel) (by decide +kernel), TT_at 11 (by decide +kernel) (by decide +kernel), TT_at 1310 (by decide +kernel) (by decide +kernel), ⟨by decide +kernel, by decide +kernel⟩, by decide +kernel⟩
theorem okX10_readDigit : okV yX10_readDigit cX10_readDigit 1 (some .int) 0 := ⟨TT_at 1159 (by decide +kernel) (by decide +kernel), TT_at 11 (by decide +kernel) (by decide +kernel), TT_at 1158 (by decide +kernel) (by decide +kernel), TT_sel 39 (by decide +kernel) (by decide +kernel), ⟨by decide +kernel, by decide +kernel⟩, by decide +kernel⟩
theorem okX10_readNumber : okV yX10_readNumber cX10_readNumber 4 (some .int) 1 := ⟨TT_at 1155 (by decide +kernel) (by decide +kernel), TT_at 11 (by decide +kernel) (by decide +kernel), TT_at 1154 (by decide +kernel) (by decide +kernel), TT_sel 38 (by decide +kernel) (by decide +kernel), ⟨by decide +kernel, by decide +kernel⟩, by decide +kernel⟩
theorem okX10_readRest : okV yX10_readRest cX10_readRest 3 none 2 := ⟨TT_at 1151 (by decide +kernel) (by decide +kernel), TT_at 11 (by decide +kernel) (by decide +kernel), TT_at 1150 (by decide +kernel) (by decide +kernel), TT_sel 37 (by decide +kernel) (by decide +kernel), ⟨by decide +kernel, by decide +kernel⟩, by decide +kernel⟩
theorem okX10_readStatement : okV yX10_readStatement cX10_readStatement 3 none 0 := ⟨TT_at 1143 (by decide +kernel) (by decide +kernel), TT_at 11 (by decide +kernel) (by decide +kernel), TT_at 1142 (by decide +kernel) (by decide +kernel), TT_sel 35 (by decide +kernel) (by decide +kernel), ⟨by decide +kernel, by decide +kernel⟩, by decide +kernel⟩
theorem okX10_solveGame : okV yX10_solveGame cX10_solveGame 5 none 0 := ⟨TT_at 1367 (by decide +kernel) (by decide +kernel), TT_at 11 (by decide +kernel) (by decide +kernel), TT_at 1366 (by decide +kernel) (by decide +kernel), TT_sel 70 (by decide +kernel) (by decide +kernel), ⟨by decide +kernel, by decide +kernel⟩, by decide +kernel⟩
theorem okX10_solveState : okV yX10_solveState cX10_solveState 10 none 2 := ⟨TT_at 1379 (by decide +kernel) (by decide +kernel), TT_at 11 (by decide +kernel) (by decide +kernel), TT_at 1378 (by decide +kernel) (by decide +kernel), TT_sel 73 (by decide +kernel) (by decide +kernel), ⟨by decide +kernel, by decide +kernel⟩, by decide +kernel⟩
theorem okX10_spread : okV yX10_spread cX10_spread 5 none 2 := ⟨TT_at 1315 (by decide +kernel) (by decide +kernel), TT_at 11 (by decide +kernel) (by decide +kernel), TT_at 1314 (by decide +kernel) (by decide +kernel), TT_sel 64 (by decide +kernel) (by decide +kernel), ⟨by decide +kernel, by decide +kernel⟩, by decide +kernel⟩
theorem okX10_spreadGame : okV yX10_spreadGame cX10_spreadGame 4 none 1 := ⟨TT_at 1371 (by decide +kernel) (by decide +kernel), TT_at 11 (by decide +kernel) (by decide +kernel), TT_at 1370 (by decide +kernel) (by decide +kernel), TT_sel 71 (by decide +kernel) (by decide +kernel), ⟨by decide +kernel, by decide +kernel⟩, by decide +kernel⟩
theorem okX10_sumOf : okV yX10_sumOf cX10_sumOf 4 (some .int) 1 := ⟨TT_at 1426 (by decide +kernel) (by decide +kernel), TT_at 11 (by decide +kernel) (by decide +kernel), TT_at 1425 (by decide +kernel) (by decide +kernel), TT_sel 77 (by decide +kernel) (by decide +kernel), ⟨by decide +kernel, by decide +kernel⟩, by decide +kernel⟩
theorem okX10_take : okV yX10_take cX10_take 2 none 1 := ⟨TT_at 1165 (by decide +kernel) (by decide +kernel), TT_at 11 (by decide +kernel) (by decide +kernel), TT_at 1164 (by decide +kernel) (by decide +kernel), TT_sel 40 (by decide +kernel) (by decide +kernel), ⟨by decide +kernel, by decide +kernel⟩, by decide +kernel⟩
theorem okX10_takeNow : okV yX10_takeNow cX10_takeNow 2 none 0 := ⟨TT_at 1219 (by decide +kernel) (by decide +kernel), TT_at 11 (by decide +kernel) (by decide +kernel), TT_at 1218 (by decide +kernel) (by decide +kernel), TT_sel 50 (by decide +kernel) (by decide +kernel), ⟨by decide +kernel, by decide +kernel⟩, by decide +kernel⟩
theorem okX10_touches : okV yX10_touches cX10_touches 5 (some .int) 1 := ⟨TT_at 1422 (by decide +kernel) (by decide +kernel), TT_at 11 (by decide +kernel) (by decide +kernel), TT_at 1421 (by decide +kernel) (by decide +kernel), TT_sel 76 (by decide +kernel) (by decide +kernel), ⟨by decide +kernel, by decide +kernel⟩, by decide +kernel⟩
theorem okX10_worthOf : okV yX10_worthOf cX10_worthOf 4 (some .int) 1 := ⟨TT_at 1227 (by decide +kernel) (by decide +kernel), TT_at 11 (by decide +kernel) (by decide +kernel), TT_at 1226 (by decide +kernel) (by decide +kernel), TT_sel 52 (by decide +kernel) (by decide +kernel), ⟨by decide +kernel, by decide +kernel⟩, by decide +kernel⟩
theorem okX10_worthOfAll : okV yX10_worthOfAll cX10_worthOfAll 3 (some .int) 0 := ⟨TT_at 1335 (by decide +kernel) (by decide +kernel), TT_at 11 (by decide +kernel) (by decide +kernel), TT_at 1334 (by decide +kernel) (by decide +kernel), TT_sel 67 (by decide +kernel) (by decide +kernel), ⟨by decide +kernel, by decide +kernel⟩, by decide +kernel⟩
theorem okX10_wrongBytes : okV yX10_wrongBytes cX10_wrongBytes 2 (some .int) 1 := ⟨TT_at 1131 (by decide +kernel) (by decide +kernel), TT_at 11 (by decide +kernel) (by decide +kernel), TT_at 1130 (by decide +kernel) (by decide +kernel), TT_sel 33 (by decide +kernel) (by decide +kernel), ⟨by decide +kernel, by decide +kernel⟩, by decide +kernel⟩
theorem okX10_wrongMove : okV yX10_wrongMove cX10_wrongMove 2 (some .int) 1 := ⟨TT_at 1267 (by decide +kernel) (by decide +kernel), TT_at 11 (by decide +kernel) (by decide +kernel), TT_at 1266 (by decide +kernel) (by decide +kernel), TT_sel 56 (by decide +kernel) (by decide +kernel), ⟨by decide +kernel, by decide +kernel⟩, by decide +kernel⟩
theorem okX10_wrongRow : okV yX10_wrongRow cX10_wrongRow 2 (some .int) 1 := ⟨TT_at 1135 (by decide +kernel) (by decide +kernel), TT_at 11 (by decide +kernel) (by decide +kernel), TT_at 1134 (by decide +kernel) (by decide +kernel), TT_sel 34 (by decide +kernel) (by decide +kernel), ⟨by decide +kernel, by decide +kernel⟩, by decide +kernel⟩
theorem kcX9_216 : Cond.constant RX9 216 2147483647 ∈ TT := TT_at 684 (by decide +kernel) (by decide +kernel)
theorem kcX9_234 : Cond.constant RX9 234 (-1000000003) ∈ TT := TT_at 715 (by decide +kernel) (by decide +kernel)
theorem kcX9_250 : Cond.constant RX9 250 1103515245 ∈ TT := TT_at 768 (by decide +kernel) (by decide +kernel)
theorem kcX9_346 : Cond.constant RX9 346 65536 ∈ TT := TT_at 772 (by decide +kernel) (by decide +kernel)
theorem kcX10_150 : Cond.constantLong RX10 150 48 ∈ TT := TT_at 1160 (by decide +kernel) (by decide +kernel)
theorem kcX10_152 : Cond.constantLong RX10 152 57 ∈ TT := TT_at 1161 (by decide +kernel) (by decide +kernel)
theorem kcX10_197 : Cond.constantLong RX10 197 2 ∈ TT := TT_at 1198 (by decide +kernel) (by decide +kernel)
theorem kcX10_202 : Cond.constantLong RX10 202 3 ∈ TT := TT_at 1215 (by decide +kernel) (by decide +kernel)
theorem kcX10_214 : Cond.constantLong RX10 214 7 ∈ TT := TT_at 1136 (by decide +kernel) (by decide +kernel)
theorem kcX10_255 : Cond.constantLong RX10 255 9 ∈ TT := TT_at 1304 (by decide +kernel) (by decide +kernel)
theorem kcX10_301 : Cond.constant RX10 301 (-1000000003) ∈ TT := TT_at 1388 (by decide +kernel) (by decide +kernel)
theorem kcX10_309 : Cond.constant RX10 309 1103515245 ∈ TT := TT_at 1404 (by decide +kernel) (by decide +kernel)
theorem kcX10_310 : Cond.constant RX10 310 2147483647 ∈ TT := TT_at 1405 (by decide +kernel) (by decide +kernel)
theorem kcX10_311 : Cond.constant RX10 311 65536 ∈ TT := TT_at 1406 (by decide +kernel) (by decide +kernel)
theorem kcX10_334 : Cond.constantLong RX10 334 9999 ∈ TT := TT_at 1431 (by decide +kernel) (by decide +kernel)
theorem lkX0_39 : Cond.methodLink RX0 39 yJ7_fill_53178 ∈ TT := TT_at 656 (by decide +kernel) (by decide +kernel)
theorem lkX1_53 : Cond.methodLink RX1 53 yJ6_bitCount_0f7a4 ∈ TT := TT_at 753 (by decide +kernel) (by decide +kernel)
theorem acX2_44 : acpOK RX2 44 := ⟨TT_at 325 (by decide +kernel) (by decide +kernel), TT_at 327 (by decide +kernel) (by decide +kernel), TT_at 326 (by decide +kernel) (by decide +kernel), TT_at 12 (by decide +kernel) (by decide +kernel)⟩
theorem mtX2_80 : mth_min RX2 80 := ⟨TT_at 535 (by decide +kernel) (by decide +kernel), TT_at 536 (by decide +kernel) (by decide +kernel), TT_at 13 (by decide +kernel) (by decide +kernel), TT_at 537 (by decide +kernel) (by decide +kernel)⟩
theorem mtX2_112 : mth_max RX2 112 := ⟨TT_at 608 (by decide +kernel) (by decide +kernel), TT_at 609 (by decide +kernel) (by decide +kernel), TT_at 13 (by decide +kernel) (by decide +kernel), TT_at 610 (by decide +kernel) (by decide +kernel)⟩
theorem mtX6_36 : mth_max RX6 36 := ⟨TT_at 726 (by decide +kernel) (by decide +kernel), TT_at 609 (by decide +kernel) (by decide +kernel), TT_at 13 (by decide +kernel) (by decide +kernel), TT_at 610 (by decide +kernel) (by decide +kernel)⟩
theorem acX7_57 : acpOK RX7 57 := ⟨TT_at 618 (by decide +kernel) (by decide +kernel), TT_at 327 (by decide +kernel) (by decide +kernel), TT_at 326 (by decide +kernel) (by decide +kernel), TT_at 12 (by decide +kernel) (by decide +kernel)⟩
theorem lkX8_36 : Cond.methodLink RX8 36 yJ7_fill_53178 ∈ TT := TT_at 821 (by decide +kernel) (by decide +kernel)
theorem mtX9_223 : mth_max RX9 223 := ⟨TT_at 697 (by decide +kernel) (by decide +kernel), TT_at 609 (by decide +kernel) (by decide +kernel), TT_at 13 (by decide +kernel) (by decide +kernel), TT_at 610 (by decide +kernel) (by decide +kernel)⟩
theorem lkX9_245 : Cond.methodLink RX9 245 yJ6_bitCount_0f7a4 ∈ TT := TT_at 763 (by decide +kernel) (by decide +kernel)
theorem acX9_314 : acpOK RX9 314 := ⟨TT_at 842 (by decide +kernel) (by decide +kernel), TT_at 327 (by decide +kernel) (by decide +kernel), TT_at 326 (by decide +kernel) (by decide +kernel), TT_at 12 (by decide +kernel) (by decide +kernel)⟩
theorem okJ_bitCount : okS yJ6_bitCount_0f7a4 cJ6_bitCount_0f7a4 1 (some .int) 1 := ⟨TT_at 755 (by decide +kernel) (by decide +kernel), TT_at 15 (by decide +kernel) (by decide +kernel), TT_at 754 (by decide +kernel) (by decide +kernel), ⟨by decide +kernel, by decide +kernel⟩, by decide +kernel⟩
theorem okJ_fill : okS yJ7_fill_53178 cJ7_fill_53178 4 none 2 := ⟨TT_at 658 (by decide +kernel) (by decide +kernel), TT_at 14 (by decide +kernel) (by decide +kernel), TT_at 657 (by decide +kernel) (by decide +kernel), ⟨by decide +kernel, by decide +kernel⟩, by decide +kernel⟩
