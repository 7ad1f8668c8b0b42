/-! the words that the calls and fields take, by their places in the tables (by program) -/
theorem fw_X0_9 : Cond.fieldLink RX0 9 (TX0 0).1 (TX0 0).2.1 (TX0 0).2.2.1 ∈ zALL := zin (zt3 130 (by decide +kernel)) rfl
theorem inz_X0 : ∀ w ∈ u_ws RX0 TX0 5, w ∈ zALL := by
  intro w hw
  obtain ⟨k, hk, rfl⟩ := List.mem_map.1 hw
  have hk := List.mem_range.1 hk
  rcases (show k = 0 ∨ k = 1 ∨ k = 2 ∨ k = 3 ∨ k = 4 by omega) with rfl | rfl | rfl | rfl | rfl
  · exact zin (zt3 140 (by decide +kernel)) rfl
  · exact zin (zt3 142 (by decide +kernel)) rfl
  · exact zin (zt3 144 (by decide +kernel)) rfl
  · exact zin (zt3 146 (by decide +kernel)) rfl
  · exact zin (zt3 148 (by decide +kernel)) rfl
theorem fw_X0_15 : Cond.fieldLink RX0 15 (TX0 1).1 (TX0 1).2.1 (TX0 1).2.2.1 ∈ zALL := zin (zt3 132 (by decide +kernel)) rfl
theorem fw_X0_19 : Cond.fieldLink RX0 19 (TX0 2).1 (TX0 2).2.1 (TX0 2).2.2.1 ∈ zALL := zin (zt3 134 (by decide +kernel)) rfl
theorem fw_X0_22 : Cond.fieldLink RX0 22 (TX0 3).1 (TX0 3).2.1 (TX0 3).2.2.1 ∈ zALL := zin (zt3 136 (by decide +kernel)) rfl
theorem fw_X0_26 : Cond.fieldLink RX0 26 (TX0 4).1 (TX0 4).2.1 (TX0 4).2.2.1 ∈ zALL := zin (zt3 138 (by decide +kernel)) rfl
theorem fw_X6_13 : Cond.fieldLink RX6 13 (TX6 1).1 (TX6 1).2.1 (TX6 1).2.2.1 ∈ zALL := zin (zt2 139 (by decide +kernel)) rfl
theorem inz_X6 : ∀ w ∈ u_ws RX6 TX6 8, w ∈ zALL := by
  intro w hw
  obtain ⟨k, hk, rfl⟩ := List.mem_map.1 hw
  have hk := List.mem_range.1 hk
  rcases (show k = 0 ∨ k = 1 ∨ k = 2 ∨ k = 3 ∨ k = 4 ∨ k = 5 ∨ k = 6 ∨ k = 7 by omega) with rfl | rfl | rfl | rfl | rfl | rfl | rfl | rfl
  · exact zin (zt2 155 (by decide +kernel)) rfl
  · exact zin (zt2 157 (by decide +kernel)) rfl
  · exact zin (zt2 159 (by decide +kernel)) rfl
  · exact zin (zt2 161 (by decide +kernel)) rfl
  · exact zin (zt2 163 (by decide +kernel)) rfl
  · exact zin (zt2 165 (by decide +kernel)) rfl
  · exact zin (zt2 167 (by decide +kernel)) rfl
  · exact zin (zt2 169 (by decide +kernel)) rfl
theorem fw_X6_19 : Cond.fieldLink RX6 19 (TX6 2).1 (TX6 2).2.1 (TX6 2).2.2.1 ∈ zALL := zin (zt2 141 (by decide +kernel)) rfl
theorem fw_X5_24 : Cond.fieldLink RX5 24 (TX5 4).1 (TX5 4).2.1 (TX5 4).2.2.1 ∈ zALL := zin (zt3 109 (by decide +kernel)) rfl
theorem inz_X5 : ∀ w ∈ u_ws RX5 TX5 5, w ∈ zALL := by
  intro w hw
  obtain ⟨k, hk, rfl⟩ := List.mem_map.1 hw
  have hk := List.mem_range.1 hk
  rcases (show k = 0 ∨ k = 1 ∨ k = 2 ∨ k = 3 ∨ k = 4 by omega) with rfl | rfl | rfl | rfl | rfl
  · exact zin (zt3 112 (by decide +kernel)) rfl
  · exact zin (zt3 114 (by decide +kernel)) rfl
  · exact zin (zt3 116 (by decide +kernel)) rfl
  · exact zin (zt3 118 (by decide +kernel)) rfl
  · exact zin (zt3 120 (by decide +kernel)) rfl
theorem fw_X5_13 : Cond.fieldLink RX5 13 (TX5 1).1 (TX5 1).2.1 (TX5 1).2.2.1 ∈ zALL := zin (zt3 102 (by decide +kernel)) rfl
theorem kw_X5_27 : zkV RX5 27 RX6 yX6_hasName cX6_hasName 3 (some .boolean) 1 := ⟨⟨zin (zt4 76 (by decide +kernel)) rfl, zin (zt1 231 (by decide +kernel)) rfl, zin (zt1 13 (by decide +kernel)) rfl, ⟨by decide, by decide, by decide +kernel⟩⟩, zin (zt1 229 (by decide +kernel)) rfl, zin (zt1 230 (by decide +kernel)) rfl⟩
theorem kw_X0_36 : zkV RX0 36 RX5 yX5_isAddress cX5_isAddress 4 (some .boolean) 2 := ⟨⟨zin (zt4 72 (by decide +kernel)) rfl, zin (zt4 75 (by decide +kernel)) rfl, zin (zt1 20 (by decide +kernel)) rfl, ⟨by decide, by decide, by decide +kernel⟩⟩, zin (zt4 73 (by decide +kernel)) rfl, zin (zt4 74 (by decide +kernel)) rfl⟩
theorem fw_X7_176 : Cond.fieldLink RX7 176 (TX6 6).1 (TX6 6).2.1 (TX6 6).2.2.1 ∈ zALL := zin (zt2 152 (by decide +kernel)) rfl
theorem fw_X0_40 : Cond.fieldLink RX0 40 (TX5 4).1 (TX5 4).2.1 (TX5 4).2.2.1 ∈ zALL := zin (zt3 110 (by decide +kernel)) rfl
theorem fw_X0_30 : Cond.fieldLink RX0 30 (TX5 1).1 (TX5 1).2.1 (TX5 1).2.2.1 ∈ zALL := zin (zt3 103 (by decide +kernel)) rfl
theorem kw_X0_43 : zkN RX0 43 yX7_isStanding "StreetNamer" cX7_isStanding 1 (some .boolean) 1 := ⟨zt1 219 (by decide +kernel), zin (zt1 148 (by decide +kernel)) rfl, zin (zt1 1 (by decide +kernel)) rfl, ⟨by decide, by decide, by decide +kernel⟩, zin (zt1 147 (by decide +kernel)) rfl⟩
theorem fw_X1_9 : Cond.fieldLink RX1 9 (TX1 0).1 (TX1 0).2.1 (TX1 0).2.2.1 ∈ zALL := zin (zt1 69 (by decide +kernel)) rfl
theorem inz_X1 : ∀ w ∈ u_ws RX1 TX1 7, w ∈ zALL := by
  intro w hw
  obtain ⟨k, hk, rfl⟩ := List.mem_map.1 hw
  have hk := List.mem_range.1 hk
  rcases (show k = 0 ∨ k = 1 ∨ k = 2 ∨ k = 3 ∨ k = 4 ∨ k = 5 ∨ k = 6 by omega) with rfl | rfl | rfl | rfl | rfl | rfl | rfl
  · exact zin (zt1 77 (by decide +kernel)) rfl
  · exact zin (zt1 79 (by decide +kernel)) rfl
  · exact zin (zt1 81 (by decide +kernel)) rfl
  · exact zin (zt1 83 (by decide +kernel)) rfl
  · exact zin (zt1 85 (by decide +kernel)) rfl
  · exact zin (zt1 87 (by decide +kernel)) rfl
  · exact zin (zt1 89 (by decide +kernel)) rfl
theorem fw_X1_15 : Cond.fieldLink RX1 15 (TX1 1).1 (TX1 1).2.1 (TX1 1).2.2.1 ∈ zALL := zin (zt1 70 (by decide +kernel)) rfl
theorem fw_X1_19 : Cond.fieldLink RX1 19 (TX1 2).1 (TX1 2).2.1 (TX1 2).2.2.1 ∈ zALL := zin (zt1 71 (by decide +kernel)) rfl
theorem fw_X1_22 : Cond.fieldLink RX1 22 (TX1 3).1 (TX1 3).2.1 (TX1 3).2.2.1 ∈ zALL := zin (zt1 72 (by decide +kernel)) rfl
theorem fw_X1_26 : Cond.fieldLink RX1 26 (TX1 4).1 (TX1 4).2.1 (TX1 4).2.2.1 ∈ zALL := zin (zt1 73 (by decide +kernel)) rfl
theorem fw_X1_30 : Cond.fieldLink RX1 30 (TX1 5).1 (TX1 5).2.1 (TX1 5).2.2.1 ∈ zALL := zin (zt1 74 (by decide +kernel)) rfl
theorem fw_X1_34 : Cond.fieldLink RX1 34 (TX1 6).1 (TX1 6).2.1 (TX1 6).2.2.1 ∈ zALL := zin (zt1 75 (by decide +kernel)) rfl
theorem kw_X1_71 : zkV RX1 71 RX1 yX1_isGiven cX1_isGiven 6 (some .boolean) 1 := ⟨⟨zin (zt3 65 (by decide +kernel)) rfl, zin (zt3 68 (by decide +kernel)) rfl, zin (zt1 3 (by decide +kernel)) rfl, ⟨by decide, by decide, by decide +kernel⟩⟩, zin (zt3 67 (by decide +kernel)) rfl, zin (zt0 16 (by decide +kernel)) rfl⟩
theorem kw_X1_74 : zkV RX1 74 RX1 yX1_codeWithLetter cX1_codeWithLetter 4 (some .int) 1 := ⟨⟨zin (zt3 69 (by decide +kernel)) rfl, zin (zt3 72 (by decide +kernel)) rfl, zin (zt1 3 (by decide +kernel)) rfl, ⟨by decide, by decide, by decide +kernel⟩⟩, zin (zt3 71 (by decide +kernel)) rfl, zin (zt0 17 (by decide +kernel)) rfl⟩
theorem kw_X1_87 : zkV RX1 87 RX1 yX1_isNumberGiven cX1_isNumberGiven 6 (some .boolean) 1 := ⟨⟨zin (zt3 90 (by decide +kernel)) rfl, zin (zt3 93 (by decide +kernel)) rfl, zin (zt1 3 (by decide +kernel)) rfl, ⟨by decide, by decide, by decide +kernel⟩⟩, zin (zt3 92 (by decide +kernel)) rfl, zin (zt0 22 (by decide +kernel)) rfl⟩
theorem kw_X1_77 : zkV RX1 77 RX1 yX1_numberBefore cX1_numberBefore 6 (some .int) 2 := ⟨⟨zin (zt3 77 (by decide +kernel)) rfl, zin (zt3 80 (by decide +kernel)) rfl, zin (zt1 3 (by decide +kernel)) rfl, ⟨by decide, by decide, by decide +kernel⟩⟩, zin (zt3 79 (by decide +kernel)) rfl, zin (zt0 19 (by decide +kernel)) rfl⟩
theorem kw_X1_80 : zkV RX1 80 RX1 yX1_numberAfter cX1_numberAfter 6 (some .int) 2 := ⟨⟨zin (zt3 81 (by decide +kernel)) rfl, zin (zt3 84 (by decide +kernel)) rfl, zin (zt1 3 (by decide +kernel)) rfl, ⟨by decide, by decide, by decide +kernel⟩⟩, zin (zt3 83 (by decide +kernel)) rfl, zin (zt0 20 (by decide +kernel)) rfl⟩
theorem kw_X1_83 : zkV RX1 83 RX1 yX1_leastFree cX1_leastFree 8 (some .int) 3 := ⟨⟨zin (zt3 86 (by decide +kernel)) rfl, zin (zt3 89 (by decide +kernel)) rfl, zin (zt1 3 (by decide +kernel)) rfl, ⟨by decide, by decide, by decide +kernel⟩⟩, zin (zt3 88 (by decide +kernel)) rfl, zin (zt0 21 (by decide +kernel)) rfl⟩
theorem kw_X1_60 : zkV RX1 60 RX1 yX1_metresOn cX1_metresOn 2 (some .int) 1 := ⟨⟨zin (zt1 200 (by decide +kernel)) rfl, zin (zt1 203 (by decide +kernel)) rfl, zin (zt1 3 (by decide +kernel)) rfl, ⟨by decide, by decide, by decide +kernel⟩⟩, zin (zt1 202 (by decide +kernel)) rfl, zin (zt0 4 (by decide +kernel)) rfl⟩
theorem kw_X1_51 : zkV RX1 51 RX1 yX1_keyOf cX1_keyOf 3 (some .int) 2 := ⟨⟨zin (zt1 196 (by decide +kernel)) rfl, zin (zt1 199 (by decide +kernel)) rfl, zin (zt1 3 (by decide +kernel)) rfl, ⟨by decide, by decide, by decide +kernel⟩⟩, zin (zt1 198 (by decide +kernel)) rfl, zin (zt0 3 (by decide +kernel)) rfl⟩
theorem kw_X1_68 : zkV RX1 68 RX1 yX1_codeBySteps cX1_codeBySteps 6 (some .int) 2 := ⟨⟨zin (zt3 73 (by decide +kernel)) rfl, zin (zt3 76 (by decide +kernel)) rfl, zin (zt1 3 (by decide +kernel)) rfl, ⟨by decide, by decide, by decide +kernel⟩⟩, zin (zt3 75 (by decide +kernel)) rfl, zin (zt0 18 (by decide +kernel)) rfl⟩
theorem kw_X1_64 : zkV RX1 64 RX1 yX1_codeByMetres cX1_codeByMetres 4 (some .int) 2 := ⟨⟨zin (zt3 61 (by decide +kernel)) rfl, zin (zt3 64 (by decide +kernel)) rfl, zin (zt1 3 (by decide +kernel)) rfl, ⟨by decide, by decide, by decide +kernel⟩⟩, zin (zt3 63 (by decide +kernel)) rfl, zin (zt0 15 (by decide +kernel)) rfl⟩
theorem kw_X1_47 : zkS RX1 47 yX1_isRow cX1_isRow 1 (some .boolean) 1 := ⟨⟨zin (zt1 193 (by decide +kernel)) rfl, zin (zt1 195 (by decide +kernel)) rfl, zin (zt1 3 (by decide +kernel)) rfl, ⟨by decide, by decide, by decide +kernel⟩⟩, zin (zt1 194 (by decide +kernel)) rfl⟩
theorem kw_X1_37 : zkS RX1 37 yJ7_fill_53178 cJ7_fill_53178 4 none 2 := ⟨⟨zin (zt1 186 (by decide +kernel)) rfl, zin (zt1 188 (by decide +kernel)) rfl, zin (zt1 19 (by decide +kernel)) rfl, ⟨by decide, by decide, by decide +kernel⟩⟩, zin (zt1 187 (by decide +kernel)) rfl⟩
theorem fw_X1_43 : Cond.fieldLink RX1 43 (TX6 4).1 (TX6 4).2.1 (TX6 4).2.2.1 ∈ zALL := zin (zt2 146 (by decide +kernel)) rfl
theorem fw_X1_46 : Cond.fieldLink RX1 46 (TX6 5).1 (TX6 5).2.1 (TX6 5).2.2.1 ∈ zALL := zin (zt2 149 (by decide +kernel)) rfl
theorem kw_X2_11 : zkS RX2 11 yX2_lengthOf cX2_lengthOf 3 (some .int) 1 := ⟨⟨zin (zt3 33 (by decide +kernel)) rfl, zin (zt1 141 (by decide +kernel)) rfl, zin (zt1 10 (by decide +kernel)) rfl, ⟨by decide, by decide, by decide +kernel⟩⟩, zin (zt1 140 (by decide +kernel)) rfl⟩
theorem fw_X3_9 : Cond.fieldLink RX3 9 (TX3 0).1 (TX3 0).2.1 (TX3 0).2.2.1 ∈ zALL := zin (zt1 41 (by decide +kernel)) rfl
theorem inz_X3 : ∀ w ∈ u_ws RX3 TX3 6, w ∈ zALL := by
  intro w hw
  obtain ⟨k, hk, rfl⟩ := List.mem_map.1 hw
  have hk := List.mem_range.1 hk
  rcases (show k = 0 ∨ k = 1 ∨ k = 2 ∨ k = 3 ∨ k = 4 ∨ k = 5 by omega) with rfl | rfl | rfl | rfl | rfl | rfl
  · exact zin (zt1 48 (by decide +kernel)) rfl
  · exact zin (zt1 50 (by decide +kernel)) rfl
  · exact zin (zt1 52 (by decide +kernel)) rfl
  · exact zin (zt1 54 (by decide +kernel)) rfl
  · exact zin (zt1 56 (by decide +kernel)) rfl
  · exact zin (zt1 58 (by decide +kernel)) rfl
theorem fw_X3_15 : Cond.fieldLink RX3 15 (TX3 1).1 (TX3 1).2.1 (TX3 1).2.2.1 ∈ zALL := zin (zt1 42 (by decide +kernel)) rfl
theorem fw_X3_19 : Cond.fieldLink RX3 19 (TX3 2).1 (TX3 2).2.1 (TX3 2).2.2.1 ∈ zALL := zin (zt1 43 (by decide +kernel)) rfl
theorem fw_X3_22 : Cond.fieldLink RX3 22 (TX3 3).1 (TX3 3).2.1 (TX3 3).2.2.1 ∈ zALL := zin (zt1 44 (by decide +kernel)) rfl
theorem fw_X3_25 : Cond.fieldLink RX3 25 (TX3 4).1 (TX3 4).2.1 (TX3 4).2.2.1 ∈ zALL := zin (zt1 45 (by decide +kernel)) rfl
theorem fw_X3_29 : Cond.fieldLink RX3 29 (TX3 5).1 (TX3 5).2.1 (TX3 5).2.2.1 ∈ zALL := zin (zt1 47 (by decide +kernel)) rfl
theorem kw_X3_32 : zkS RX3 32 yX3_isRow cX3_isRow 1 (some .boolean) 1 := ⟨⟨zin (zt2 232 (by decide +kernel)) rfl, zin (zt2 234 (by decide +kernel)) rfl, zin (zt1 2 (by decide +kernel)) rfl, ⟨by decide, by decide, by decide +kernel⟩⟩, zin (zt2 233 (by decide +kernel)) rfl⟩
theorem fw_X4_9 : Cond.fieldLink RX4 9 (TX4 0).1 (TX4 0).2.1 (TX4 0).2.2.1 ∈ zALL := zin (zt1 99 (by decide +kernel)) rfl
theorem inz_X4 : ∀ w ∈ u_ws RX4 TX4 2, w ∈ zALL := by
  intro w hw
  obtain ⟨k, hk, rfl⟩ := List.mem_map.1 hw
  have hk := List.mem_range.1 hk
  rcases (show k = 0 ∨ k = 1 by omega) with rfl | rfl
  · exact zin (zt1 102 (by decide +kernel)) rfl
  · exact zin (zt1 104 (by decide +kernel)) rfl
theorem fw_X4_15 : Cond.fieldLink RX4 15 (TX4 1).1 (TX4 1).2.1 (TX4 1).2.2.1 ∈ zALL := zin (zt1 100 (by decide +kernel)) rfl
theorem fw_X5_7 : Cond.fieldLink RX5 7 (TX5 0).1 (TX5 0).2.1 (TX5 0).2.2.1 ∈ zALL := zin (zt3 100 (by decide +kernel)) rfl
theorem fw_X5_17 : Cond.fieldLink RX5 17 (TX5 2).1 (TX5 2).2.1 (TX5 2).2.2.1 ∈ zALL := zin (zt3 105 (by decide +kernel)) rfl
theorem fw_X5_20 : Cond.fieldLink RX5 20 (TX5 3).1 (TX5 3).2.1 (TX5 3).2.2.1 ∈ zALL := zin (zt3 107 (by decide +kernel)) rfl
theorem fw_X6_7 : Cond.fieldLink RX6 7 (TX6 0).1 (TX6 0).2.1 (TX6 0).2.2.1 ∈ zALL := zin (zt2 137 (by decide +kernel)) rfl
theorem fw_X6_22 : Cond.fieldLink RX6 22 (TX6 3).1 (TX6 3).2.1 (TX6 3).2.2.1 ∈ zALL := zin (zt2 143 (by decide +kernel)) rfl
theorem fw_X6_25 : Cond.fieldLink RX6 25 (TX6 4).1 (TX6 4).2.1 (TX6 4).2.2.1 ∈ zALL := zin (zt2 145 (by decide +kernel)) rfl
theorem fw_X6_29 : Cond.fieldLink RX6 29 (TX6 5).1 (TX6 5).2.1 (TX6 5).2.2.1 ∈ zALL := zin (zt2 148 (by decide +kernel)) rfl
theorem fw_X6_33 : Cond.fieldLink RX6 33 (TX6 6).1 (TX6 6).2.1 (TX6 6).2.2.1 ∈ zALL := zin (zt2 151 (by decide +kernel)) rfl
theorem fw_X6_36 : Cond.fieldLink RX6 36 (TX6 7).1 (TX6 7).2.1 (TX6 7).2.2.1 ∈ zALL := zin (zt2 153 (by decide +kernel)) rfl
theorem fw_X7_11 : Cond.fieldLink RX7 11 (TX7 0).1 (TX7 0).2.1 (TX7 0).2.2.1 ∈ zALL := zin (zt1 107 (by decide +kernel)) rfl
theorem inz_X7 : ∀ w ∈ u_ws RX7 TX7 9, w ∈ zALL := by
  intro w hw
  obtain ⟨k, hk, rfl⟩ := List.mem_map.1 hw
  have hk := List.mem_range.1 hk
  rcases (show k = 0 ∨ k = 1 ∨ k = 2 ∨ k = 3 ∨ k = 4 ∨ k = 5 ∨ k = 6 ∨ k = 7 ∨ k = 8 by omega) with rfl | rfl | rfl | rfl | rfl | rfl | rfl | rfl | rfl
  · exact zin (zt1 116 (by decide +kernel)) rfl
  · exact zin (zt1 118 (by decide +kernel)) rfl
  · exact zin (zt1 120 (by decide +kernel)) rfl
  · exact zin (zt1 122 (by decide +kernel)) rfl
  · exact zin (zt1 124 (by decide +kernel)) rfl
  · exact zin (zt1 126 (by decide +kernel)) rfl
  · exact zin (zt1 128 (by decide +kernel)) rfl
  · exact zin (zt1 130 (by decide +kernel)) rfl
  · exact zin (zt1 132 (by decide +kernel)) rfl
theorem fw_X7_17 : Cond.fieldLink RX7 17 (TX7 1).1 (TX7 1).2.1 (TX7 1).2.2.1 ∈ zALL := zin (zt1 108 (by decide +kernel)) rfl
def nf_X3 : List zPV := [zR none, zR none, zR none, zR none, zI 0, zI 0]
theorem nf_X3_d : ∀ ad : Nat → Nat, ∀ j, j < 6 → defaultValue (tyX3 j) = vp_V (nf_X3.map (zT ad)) j := fun ad j hj => by
  rcases (show j = 0 ∨ j = 1 ∨ j = 2 ∨ j = 3 ∨ j = 4 ∨ j = 5 by omega) with rfl | rfl | rfl | rfl | rfl | rfl <;> rfl
theorem nf_X3_ok : ∀ v ∈ nf_X3, zOk 0 v := by
  intro v hv
  simp only [nf_X3, List.mem_cons, List.not_mem_nil, or_false] at hv
  rcases hv with rfl | rfl | rfl | rfl | rfl | rfl <;> first | exact inR_0 | trivial | (intro i hi; cases hi)
theorem kw_X7_23 : zkI RX7 23 yX3_init cX3_init 1 0 := ⟨⟨zin (zt1 37 (by decide +kernel)) rfl, zin (zt1 39 (by decide +kernel)) rfl, zin (zt1 2 (by decide +kernel)) rfl, ⟨by decide, by decide, by decide +kernel⟩⟩, rfl, zin (zt1 38 (by decide +kernel)) rfl⟩
theorem fw_X7_24 : Cond.fieldLink RX7 24 (TX7 2).1 (TX7 2).2.1 (TX7 2).2.2.1 ∈ zALL := zin (zt1 109 (by decide +kernel)) rfl
def nf_X1 : List zPV := [zR none, zR none, zR none, zI 0, zI 0, zI 0, zI 0]
theorem nf_X1_d : ∀ ad : Nat → Nat, ∀ j, j < 7 → defaultValue (tyX1 j) = vp_V (nf_X1.map (zT ad)) j := fun ad j hj => by
  rcases (show j = 0 ∨ j = 1 ∨ j = 2 ∨ j = 3 ∨ j = 4 ∨ j = 5 ∨ j = 6 by omega) with rfl | rfl | rfl | rfl | rfl | rfl | rfl <;> rfl
theorem nf_X1_ok : ∀ v ∈ nf_X1, zOk 0 v := by
  intro v hv
  simp only [nf_X1, List.mem_cons, List.not_mem_nil, or_false] at hv
  rcases hv with rfl | rfl | rfl | rfl | rfl | rfl | rfl <;> first | exact inR_0 | trivial | (intro i hi; cases hi)
theorem kw_X7_30 : zkI RX7 30 yX1_init cX1_init 1 0 := ⟨⟨zin (zt1 65 (by decide +kernel)) rfl, zin (zt1 67 (by decide +kernel)) rfl, zin (zt1 3 (by decide +kernel)) rfl, ⟨by decide, by decide, by decide +kernel⟩⟩, rfl, zin (zt1 66 (by decide +kernel)) rfl⟩
theorem fw_X7_31 : Cond.fieldLink RX7 31 (TX7 3).1 (TX7 3).2.1 (TX7 3).2.2.1 ∈ zALL := zin (zt1 110 (by decide +kernel)) rfl
def nf_X4 : List zPV := [zR none, zI 0]
theorem nf_X4_d : ∀ ad : Nat → Nat, ∀ j, j < 2 → defaultValue (tyX4 j) = vp_V (nf_X4.map (zT ad)) j := fun ad j hj => by
  rcases (show j = 0 ∨ j = 1 by omega) with rfl | rfl <;> rfl
theorem nf_X4_ok : ∀ v ∈ nf_X4, zOk 0 v := by
  intro v hv
  simp only [nf_X4, List.mem_cons, List.not_mem_nil, or_false] at hv
  rcases hv with rfl | rfl <;> first | exact inR_0 | trivial | (intro i hi; cases hi)
theorem kw_X7_37 : zkI RX7 37 yX4_init cX4_init 1 0 := ⟨⟨zin (zt1 95 (by decide +kernel)) rfl, zin (zt1 97 (by decide +kernel)) rfl, zin (zt1 4 (by decide +kernel)) rfl, ⟨by decide, by decide, by decide +kernel⟩⟩, rfl, zin (zt1 96 (by decide +kernel)) rfl⟩
theorem fw_X7_38 : Cond.fieldLink RX7 38 (TX7 4).1 (TX7 4).2.1 (TX7 4).2.2.1 ∈ zALL := zin (zt1 111 (by decide +kernel)) rfl
theorem fw_X7_42 : Cond.fieldLink RX7 42 (TX7 5).1 (TX7 5).2.1 (TX7 5).2.2.1 ∈ zALL := zin (zt1 112 (by decide +kernel)) rfl
theorem fw_X7_46 : Cond.fieldLink RX7 46 (TX7 6).1 (TX7 6).2.1 (TX7 6).2.2.1 ∈ zALL := zin (zt1 113 (by decide +kernel)) rfl
theorem fw_X7_51 : Cond.fieldLink RX7 51 (TX7 7).1 (TX7 7).2.1 (TX7 7).2.2.1 ∈ zALL := zin (zt1 114 (by decide +kernel)) rfl
theorem fw_X7_55 : Cond.fieldLink RX7 55 (TX7 8).1 (TX7 8).2.1 (TX7 8).2.2.1 ∈ zALL := zin (zt1 115 (by decide +kernel)) rfl
theorem kw_X7_278 : zkV RX7 278 RX7 yX7_doorAt cX7_doorAt 2 (some (.object "StreetNamer$Door")) 1 := ⟨⟨zin (zt3 167 (by decide +kernel)) rfl, zin (zt3 170 (by decide +kernel)) rfl, zin (zt1 1 (by decide +kernel)) rfl, ⟨by decide, by decide, by decide +kernel⟩⟩, zin (zt3 169 (by decide +kernel)) rfl, zin (zt0 24 (by decide +kernel)) rfl⟩
theorem thr_346 : zthr RX7 346 3 := Or.inl (by decide +kernel)
theorem kw_X7_209 : zkV RX7 209 RX7 yX7_known cX7_known 3 (some (.object "StreetNamer$Door")) 1 := ⟨⟨zin (zt3 163 (by decide +kernel)) rfl, zin (zt3 166 (by decide +kernel)) rfl, zin (zt1 1 (by decide +kernel)) rfl, ⟨by decide, by decide, by decide +kernel⟩⟩, zin (zt3 165 (by decide +kernel)) rfl, zin (zt0 23 (by decide +kernel)) rfl⟩
theorem fw_X7_242 : Cond.fieldLink RX7 242 (TX0 1).1 (TX0 1).2.1 (TX0 1).2.2.1 ∈ zALL := zin (zt3 133 (by decide +kernel)) rfl
theorem fw_X7_200 : Cond.fieldLink RX7 200 (TX5 4).1 (TX5 4).2.1 (TX5 4).2.2.1 ∈ zALL := zin (zt3 111 (by decide +kernel)) rfl
theorem thr_110 : zthr RX7 110 4 := Or.inr ⟨13, prog_24_method_4_code, ⟨by decide +kernel, by decide +kernel, by decide +kernel, by decide +kernel⟩, by decide +kernel⟩
theorem fw_X7_214 : Cond.fieldLink RX7 214 (TX0 2).1 (TX0 2).2.1 (TX0 2).2.2.1 ∈ zALL := zin (zt3 135 (by decide +kernel)) rfl
theorem kw_X7_218 : zkV RX7 218 RX0 yX0_placeOn cX0_placeOn 2 (some (.object "StreetNamer$Place")) 1 := ⟨⟨zin (zt1 166 (by decide +kernel)) rfl, zin (zt1 169 (by decide +kernel)) rfl, zin (zt1 21 (by decide +kernel)) rfl, ⟨by decide, by decide, by decide +kernel⟩⟩, zin (zt1 167 (by decide +kernel)) rfl, zin (zt1 168 (by decide +kernel)) rfl⟩
theorem fw_X7_156 : Cond.fieldLink RX7 156 (TX6 7).1 (TX6 7).2.1 (TX6 7).2.2.1 ∈ zALL := zin (zt2 154 (by decide +kernel)) rfl
theorem kw_X7_139 : zkV RX7 139 RX1 yX1_open cX1_open 4 none 3 := ⟨⟨zin (zt1 182 (by decide +kernel)) rfl, zin (zt1 185 (by decide +kernel)) rfl, zin (zt1 3 (by decide +kernel)) rfl, ⟨by decide, by decide, by decide +kernel⟩⟩, zin (zt1 183 (by decide +kernel)) rfl, zin (zt1 184 (by decide +kernel)) rfl⟩
theorem kw_X7_299 : zkS RX7 299 yX7_placeOf cX7_placeOf 2 (some (.object "StreetNamer$Place")) 2 := ⟨⟨zin (zt1 163 (by decide +kernel)) rfl, zin (zt1 165 (by decide +kernel)) rfl, zin (zt1 1 (by decide +kernel)) rfl, ⟨by decide, by decide, by decide +kernel⟩⟩, zin (zt1 164 (by decide +kernel)) rfl⟩
theorem fw_X7_356 : Cond.fieldLink RX7 356 (TX5 0).1 (TX5 0).2.1 (TX5 0).2.2.1 ∈ zALL := zin (zt3 101 (by decide +kernel)) rfl
theorem fw_X7_303 : Cond.fieldLink RX7 303 (TX5 2).1 (TX5 2).2.1 (TX5 2).2.2.1 ∈ zALL := zin (zt3 106 (by decide +kernel)) rfl
theorem fw_X7_311 : Cond.fieldLink RX7 311 (TX5 3).1 (TX5 3).2.1 (TX5 3).2.2.1 ∈ zALL := zin (zt3 108 (by decide +kernel)) rfl
theorem kw_X7_378 : zkV RX7 378 RX1 yX1_enter cX1_enter 5 none 4 := ⟨⟨zin (zt1 189 (by decide +kernel)) rfl, zin (zt1 192 (by decide +kernel)) rfl, zin (zt1 3 (by decide +kernel)) rfl, ⟨by decide, by decide, by decide +kernel⟩⟩, zin (zt1 190 (by decide +kernel)) rfl, zin (zt1 191 (by decide +kernel)) rfl⟩
theorem kw_X7_179 : zkS RX7 179 yX7_isStanding cX7_isStanding 1 (some .boolean) 1 := ⟨⟨zin (zt1 146 (by decide +kernel)) rfl, zin (zt1 148 (by decide +kernel)) rfl, zin (zt1 1 (by decide +kernel)) rfl, ⟨by decide, by decide, by decide +kernel⟩⟩, zin (zt1 147 (by decide +kernel)) rfl⟩
theorem fw_X7_136 : Cond.fieldLink RX7 136 (TX6 3).1 (TX6 3).2.1 (TX6 3).2.2.1 ∈ zALL := zin (zt2 144 (by decide +kernel)) rfl
theorem kw_X7_163 : zkV RX7 163 RX7 yX7_openLedger cX7_openLedger 8 none 2 := ⟨⟨zin (zt1 178 (by decide +kernel)) rfl, zin (zt1 181 (by decide +kernel)) rfl, zin (zt1 1 (by decide +kernel)) rfl, ⟨by decide, by decide, by decide +kernel⟩⟩, zin (zt1 180 (by decide +kernel)) rfl, zin (zt0 2 (by decide +kernel)) rfl⟩
theorem kw_X7_398 : zkV RX7 398 RX1 yX1_hasTwins cX1_hasTwins 3 (some .boolean) 0 := ⟨⟨zin (zt1 207 (by decide +kernel)) rfl, zin (zt1 210 (by decide +kernel)) rfl, zin (zt1 3 (by decide +kernel)) rfl, ⟨by decide, by decide, by decide +kernel⟩⟩, zin (zt1 208 (by decide +kernel)) rfl, zin (zt1 209 (by decide +kernel)) rfl⟩
theorem fw_X7_213 : Cond.fieldLink RX7 213 (TX0 3).1 (TX0 3).2.1 (TX0 3).2.2.1 ∈ zALL := zin (zt3 137 (by decide +kernel)) rfl
theorem kw_X7_401 : zkV RX7 401 RX0 yX0_hasAddressesAll cX0_hasAddressesAll 1 (some .boolean) 0 := ⟨⟨zin (zt1 215 (by decide +kernel)) rfl, zin (zt1 218 (by decide +kernel)) rfl, zin (zt1 21 (by decide +kernel)) rfl, ⟨by decide, by decide, by decide +kernel⟩⟩, zin (zt1 216 (by decide +kernel)) rfl, zin (zt1 217 (by decide +kernel)) rfl⟩
theorem fw_X7_232 : Cond.fieldLink RX7 232 (TX0 4).1 (TX0 4).2.1 (TX0 4).2.2.1 ∈ zALL := zin (zt3 139 (by decide +kernel)) rfl
theorem kw_X7_281 : zkS RX7 281 yX7_endOf cX7_endOf 3 (some (.object "StreetNamer$Door")) 1 := ⟨⟨zin (zt1 236 (by decide +kernel)) rfl, zin (zt1 238 (by decide +kernel)) rfl, zin (zt1 1 (by decide +kernel)) rfl, ⟨by decide, by decide, by decide +kernel⟩⟩, zin (zt1 237 (by decide +kernel)) rfl⟩
theorem fw_X7_91 : Cond.fieldLink RX7 91 (TX6 1).1 (TX6 1).2.1 (TX6 1).2.2.1 ∈ zALL := zin (zt2 140 (by decide +kernel)) rfl
theorem kw_X7_349 : zkV RX7 349 RX6 yX6_hasName cX6_hasName 3 (some .boolean) 1 := ⟨⟨zin (zt1 228 (by decide +kernel)) rfl, zin (zt1 231 (by decide +kernel)) rfl, zin (zt1 13 (by decide +kernel)) rfl, ⟨by decide, by decide, by decide +kernel⟩⟩, zin (zt1 229 (by decide +kernel)) rfl, zin (zt1 230 (by decide +kernel)) rfl⟩
theorem fw_X7_103 : Cond.fieldLink RX7 103 (TX6 2).1 (TX6 2).2.1 (TX6 2).2.2.1 ∈ zALL := zin (zt2 142 (by decide +kernel)) rfl
theorem kw_X7_404 : zkV RX7 404 RX7 yX7_isTakenByOther cX7_isTakenByOther 6 (some .boolean) 1 := ⟨⟨zin (zt1 224 (by decide +kernel)) rfl, zin (zt1 227 (by decide +kernel)) rfl, zin (zt1 1 (by decide +kernel)) rfl, ⟨by decide, by decide, by decide +kernel⟩⟩, zin (zt1 226 (by decide +kernel)) rfl, zin (zt0 7 (by decide +kernel)) rfl⟩
theorem kw_X7_371 : zkV RX7 371 RX1 yX1_codeFor cX1_codeFor 4 (some .int) 3 := ⟨⟨zin (zt3 57 (by decide +kernel)) rfl, zin (zt3 60 (by decide +kernel)) rfl, zin (zt1 3 (by decide +kernel)) rfl, ⟨by decide, by decide, by decide +kernel⟩⟩, zin (zt3 58 (by decide +kernel)) rfl, zin (zt3 59 (by decide +kernel)) rfl⟩
def nf_X5 : List zPV := [zI 0, zR none, zI 0, zI 0, zI 0]
theorem nf_X5_d : ∀ ad : Nat → Nat, ∀ j, j < 5 → defaultValue (tyX5 j) = vp_V (nf_X5.map (zT ad)) j := fun ad j hj => by
  rcases (show j = 0 ∨ j = 1 ∨ j = 2 ∨ j = 3 ∨ j = 4 by omega) with rfl | rfl | rfl | rfl | rfl <;> rfl
theorem nf_X5_ok : ∀ v ∈ nf_X5, zOk 0 v := by
  intro v hv
  simp only [nf_X5, List.mem_cons, List.not_mem_nil, or_false] at hv
  rcases hv with rfl | rfl | rfl | rfl | rfl <;> first | exact inR_0 | trivial | (intro i hi; cases hi)
theorem kw_X7_375 : zkI RX7 375 yX5_init cX5_init 6 5 := ⟨⟨zin (zt3 96 (by decide +kernel)) rfl, zin (zt3 98 (by decide +kernel)) rfl, zin (zt1 20 (by decide +kernel)) rfl, ⟨by decide, by decide, by decide +kernel⟩⟩, rfl, zin (zt3 97 (by decide +kernel)) rfl⟩
theorem kw_X7_256 : zkV RX7 256 RX7 yX7_doorsOn cX7_doorsOn 7 (some .int) 1 := ⟨⟨zin (zt1 159 (by decide +kernel)) rfl, zin (zt1 162 (by decide +kernel)) rfl, zin (zt1 1 (by decide +kernel)) rfl, ⟨by decide, by decide, by decide +kernel⟩⟩, zin (zt1 161 (by decide +kernel)) rfl, zin (zt0 0 (by decide +kernel)) rfl⟩
theorem fw_X7_98 : Cond.fieldLink RX7 98 (TX3 4).1 (TX3 4).2.1 (TX3 4).2.2.1 ∈ zALL := zin (zt1 46 (by decide +kernel)) rfl
theorem kw_X7_78 : zkV RX7 78 RX7 yX7_standing cX7_standing 2 (some (.object "StreetNamer$Street")) 1 := ⟨⟨zin (zt2 203 (by decide +kernel)) rfl, zin (zt2 206 (by decide +kernel)) rfl, zin (zt1 1 (by decide +kernel)) rfl, ⟨by decide, by decide, by decide +kernel⟩⟩, zin (zt2 205 (by decide +kernel)) rfl, zin (zt0 11 (by decide +kernel)) rfl⟩
theorem kw_X7_314 : zkV RX7 314 RX1 yX1_pairsAgainstOrder cX1_pairsAgainstOrder 4 (some .int) 0 := ⟨⟨zin (zt4 143 (by decide +kernel)) rfl, zin (zt4 146 (by decide +kernel)) rfl, zin (zt1 3 (by decide +kernel)) rfl, ⟨by decide, by decide, by decide +kernel⟩⟩, zin (zt4 144 (by decide +kernel)) rfl, zin (zt4 145 (by decide +kernel)) rfl⟩
theorem kw_X7_183 : zkS RX7 183 yX7_isPlace cX7_isPlace 3 (some .boolean) 3 := ⟨⟨zin (zt3 49 (by decide +kernel)) rfl, zin (zt3 51 (by decide +kernel)) rfl, zin (zt1 1 (by decide +kernel)) rfl, ⟨by decide, by decide, by decide +kernel⟩⟩, zin (zt3 50 (by decide +kernel)) rfl⟩
theorem thr_90 : zthr RX7 90 2 := Or.inl (by decide +kernel)
theorem kw_X7_189 : zkV RX7 189 RX7 yX7_arrival cX7_arrival 7 (some (.object "StreetNamer$Place")) 4 := ⟨⟨zin (zt3 53 (by decide +kernel)) rfl, zin (zt3 56 (by decide +kernel)) rfl, zin (zt1 1 (by decide +kernel)) rfl, ⟨by decide, by decide, by decide +kernel⟩⟩, zin (zt3 55 (by decide +kernel)) rfl, zin (zt0 14 (by decide +kernel)) rfl⟩
theorem kw_X7_205 : zkV RX7 205 RX6 yX6_notice cX6_notice 2 none 1 := ⟨⟨zin (zt3 151 (by decide +kernel)) rfl, zin (zt3 154 (by decide +kernel)) rfl, zin (zt1 13 (by decide +kernel)) rfl, ⟨by decide, by decide, by decide +kernel⟩⟩, zin (zt3 152 (by decide +kernel)) rfl, zin (zt3 153 (by decide +kernel)) rfl⟩
theorem thr_62 : zthr RX7 62 0 := Or.inl (by decide +kernel)
theorem thr_73 : zthr RX7 73 1 := Or.inl (by decide +kernel)
def nf_X0 : List zPV := [zI 0, zR none, zR none, zI 0, zR none]
theorem nf_X0_d : ∀ ad : Nat → Nat, ∀ j, j < 5 → defaultValue (tyX0 j) = vp_V (nf_X0.map (zT ad)) j := fun ad j hj => by
  rcases (show j = 0 ∨ j = 1 ∨ j = 2 ∨ j = 3 ∨ j = 4 by omega) with rfl | rfl | rfl | rfl | rfl <;> rfl
theorem nf_X0_ok : ∀ v ∈ nf_X0, zOk 0 v := by
  intro v hv
  simp only [nf_X0, List.mem_cons, List.not_mem_nil, or_false] at hv
  rcases hv with rfl | rfl | rfl | rfl | rfl <;> first | exact inR_0 | trivial | (intro i hi; cases hi)
theorem kw_X7_197 : zkI RX7 197 yX0_init cX0_init 3 2 := ⟨⟨zin (zt3 126 (by decide +kernel)) rfl, zin (zt3 128 (by decide +kernel)) rfl, zin (zt1 21 (by decide +kernel)) rfl, ⟨by decide, by decide, by decide +kernel⟩⟩, rfl, zin (zt3 127 (by decide +kernel)) rfl⟩
theorem kw_X7_352 : zkV RX7 352 RX0 yX0_hasAddress cX0_hasAddress 4 (some .boolean) 2 := ⟨⟨zin (zt4 68 (by decide +kernel)) rfl, zin (zt4 71 (by decide +kernel)) rfl, zin (zt1 21 (by decide +kernel)) rfl, ⟨by decide, by decide, by decide +kernel⟩⟩, zin (zt4 69 (by decide +kernel)) rfl, zin (zt4 70 (by decide +kernel)) rfl⟩
theorem fw_X7_295 : Cond.fieldLink RX7 295 (TX4 1).1 (TX4 1).2.1 (TX4 1).2.2.1 ∈ zALL := zin (zt1 101 (by decide +kernel)) rfl
theorem kw_X7_298 : zkV RX7 298 RX4 yX4_doorIn cX4_doorIn 2 (some .int) 1 := ⟨⟨zin (zt3 229 (by decide +kernel)) rfl, zin (zt3 232 (by decide +kernel)) rfl, zin (zt1 4 (by decide +kernel)) rfl, ⟨by decide, by decide, by decide +kernel⟩⟩, zin (zt3 230 (by decide +kernel)) rfl, zin (zt3 231 (by decide +kernel)) rfl⟩
theorem kw_X7_261 : zkV RX7 261 RX7 yX7_doorNow cX7_doorNow 8 (some (.object "StreetNamer$Door")) 2 := ⟨⟨zin (zt4 64 (by decide +kernel)) rfl, zin (zt4 67 (by decide +kernel)) rfl, zin (zt1 1 (by decide +kernel)) rfl, ⟨by decide, by decide, by decide +kernel⟩⟩, zin (zt4 66 (by decide +kernel)) rfl, zin (zt0 34 (by decide +kernel)) rfl⟩
theorem fw_X7_267 : Cond.fieldLink RX7 267 (TX0 0).1 (TX0 0).2.1 (TX0 0).2.2.1 ∈ zALL := zin (zt3 131 (by decide +kernel)) rfl
theorem thr_322 : zthr RX7 322 5 := Or.inl (by decide +kernel)
theorem kw_X7_329 : zkV RX7 329 RX7 yX7_areAddressesSingle cX7_areAddressesSingle 5 (some .boolean) 0 := ⟨⟨zin (zt1 174 (by decide +kernel)) rfl, zin (zt1 177 (by decide +kernel)) rfl, zin (zt1 1 (by decide +kernel)) rfl, ⟨by decide, by decide, by decide +kernel⟩⟩, zin (zt1 176 (by decide +kernel)) rfl, zin (zt0 1 (by decide +kernel)) rfl⟩
theorem kw_X7_333 : zkV RX7 333 RX7 yX7_areAddressesThere cX7_areAddressesThere 5 (some .boolean) 0 := ⟨⟨zin (zt1 211 (by decide +kernel)) rfl, zin (zt1 214 (by decide +kernel)) rfl, zin (zt1 1 (by decide +kernel)) rfl, ⟨by decide, by decide, by decide +kernel⟩⟩, zin (zt1 213 (by decide +kernel)) rfl, zin (zt0 5 (by decide +kernel)) rfl⟩
theorem kw_X7_336 : zkV RX7 336 RX7 yX7_areNamesSingle cX7_areNamesSingle 5 (some .boolean) 0 := ⟨⟨zin (zt1 220 (by decide +kernel)) rfl, zin (zt1 223 (by decide +kernel)) rfl, zin (zt1 1 (by decide +kernel)) rfl, ⟨by decide, by decide, by decide +kernel⟩⟩, zin (zt1 222 (by decide +kernel)) rfl, zin (zt0 6 (by decide +kernel)) rfl⟩
theorem kw_X7_339 : zkV RX7 339 RX7 yX7_areLeadsEnding cX7_areLeadsEnding 6 (some .boolean) 0 := ⟨⟨zin (zt1 232 (by decide +kernel)) rfl, zin (zt1 235 (by decide +kernel)) rfl, zin (zt1 1 (by decide +kernel)) rfl, ⟨by decide, by decide, by decide +kernel⟩⟩, zin (zt1 234 (by decide +kernel)) rfl, zin (zt0 8 (by decide +kernel)) rfl⟩
theorem kw_X7_388 : zkV RX7 388 RX4 yX4_clear cX4_clear 1 none 0 := ⟨⟨zin (zt3 213 (by decide +kernel)) rfl, zin (zt3 216 (by decide +kernel)) rfl, zin (zt1 4 (by decide +kernel)) rfl, ⟨by decide, by decide, by decide +kernel⟩⟩, zin (zt3 214 (by decide +kernel)) rfl, zin (zt3 215 (by decide +kernel)) rfl⟩
theorem kw_X7_391 : zkV RX7 391 RX6 yX6_farness cX6_farness 2 (some .int) 1 := ⟨⟨zin (zt3 217 (by decide +kernel)) rfl, zin (zt3 220 (by decide +kernel)) rfl, zin (zt1 13 (by decide +kernel)) rfl, ⟨by decide, by decide, by decide +kernel⟩⟩, zin (zt3 218 (by decide +kernel)) rfl, zin (zt3 219 (by decide +kernel)) rfl⟩
theorem kw_X7_394 : zkV RX7 394 RX4 yX4_put cX4_put 5 none 2 := ⟨⟨zin (zt3 221 (by decide +kernel)) rfl, zin (zt3 224 (by decide +kernel)) rfl, zin (zt1 4 (by decide +kernel)) rfl, ⟨by decide, by decide, by decide +kernel⟩⟩, zin (zt3 222 (by decide +kernel)) rfl, zin (zt3 223 (by decide +kernel)) rfl⟩
theorem kw_X7_359 : zkV RX7 359 RX3 yX3_keep cX3_keep 6 none 4 := ⟨⟨zin (zt2 228 (by decide +kernel)) rfl, zin (zt2 231 (by decide +kernel)) rfl, zin (zt1 2 (by decide +kernel)) rfl, ⟨by decide, by decide, by decide +kernel⟩⟩, zin (zt2 229 (by decide +kernel)) rfl, zin (zt2 230 (by decide +kernel)) rfl⟩
theorem fw_X7_247 : Cond.fieldLink RX7 247 (TX5 1).1 (TX5 1).2.1 (TX5 1).2.2.1 ∈ zALL := zin (zt3 104 (by decide +kernel)) rfl
theorem kw_X7_363 : zkV RX7 363 RX7 yX7_remember cX7_remember 4 none 2 := ⟨⟨zin (zt2 224 (by decide +kernel)) rfl, zin (zt2 227 (by decide +kernel)) rfl, zin (zt1 1 (by decide +kernel)) rfl, ⟨by decide, by decide, by decide +kernel⟩⟩, zin (zt2 226 (by decide +kernel)) rfl, zin (zt0 13 (by decide +kernel)) rfl⟩
theorem kw_X7_367 : zkV RX7 367 RX7 yX7_rememberBoth cX7_rememberBoth 2 none 1 := ⟨⟨zin (zt3 186 (by decide +kernel)) rfl, zin (zt3 189 (by decide +kernel)) rfl, zin (zt1 1 (by decide +kernel)) rfl, ⟨by decide, by decide, by decide +kernel⟩⟩, zin (zt3 188 (by decide +kernel)) rfl, zin (zt0 26 (by decide +kernel)) rfl⟩
theorem kw_X7_382 : zkV RX7 382 RX1 yX1_codeOf cX1_codeOf 2 (some .int) 1 := ⟨⟨zin (zt3 238 (by decide +kernel)) rfl, zin (zt4 1 (by decide +kernel)) rfl, zin (zt1 3 (by decide +kernel)) rfl, ⟨by decide, by decide, by decide +kernel⟩⟩, zin (zt3 239 (by decide +kernel)) rfl, zin (zt4 0 (by decide +kernel)) rfl⟩
theorem kw_X7_385 : zkV RX7 385 RX0 yX0_losePlaceOn cX0_losePlaceOn 2 none 1 := ⟨⟨zin (zt4 22 (by decide +kernel)) rfl, zin (zt4 25 (by decide +kernel)) rfl, zin (zt1 21 (by decide +kernel)) rfl, ⟨by decide, by decide, by decide +kernel⟩⟩, zin (zt4 23 (by decide +kernel)) rfl, zin (zt4 24 (by decide +kernel)) rfl⟩
theorem kw_X7_167 : zkV RX7 167 RX7 yX7_orderForJoining cX7_orderForJoining 8 none 2 := ⟨⟨zin (zt4 10 (by decide +kernel)) rfl, zin (zt4 13 (by decide +kernel)) rfl, zin (zt1 1 (by decide +kernel)) rfl, ⟨by decide, by decide, by decide +kernel⟩⟩, zin (zt4 12 (by decide +kernel)) rfl, zin (zt0 31 (by decide +kernel)) rfl⟩
theorem kw_X7_147 : zkV RX7 147 RX7 yX7_enterInOrder cX7_enterInOrder 7 (some .boolean) 2 := ⟨⟨zin (zt3 225 (by decide +kernel)) rfl, zin (zt3 228 (by decide +kernel)) rfl, zin (zt1 1 (by decide +kernel)) rfl, ⟨by decide, by decide, by decide +kernel⟩⟩, zin (zt3 227 (by decide +kernel)) rfl, zin (zt0 29 (by decide +kernel)) rfl⟩
theorem kw_X7_171 : zkV RX7 171 RX7 yX7_rememberAll_ cX7_rememberAll_ 6 none 1 := ⟨⟨zin (zt4 14 (by decide +kernel)) rfl, zin (zt4 17 (by decide +kernel)) rfl, zin (zt1 1 (by decide +kernel)) rfl, ⟨by decide, by decide, by decide +kernel⟩⟩, zin (zt4 16 (by decide +kernel)) rfl, zin (zt0 32 (by decide +kernel)) rfl⟩
theorem kw_X7_173 : zkV RX7 173 RX7 yX7_moveDoors cX7_moveDoors 8 none 2 := ⟨⟨zin (zt4 18 (by decide +kernel)) rfl, zin (zt4 21 (by decide +kernel)) rfl, zin (zt1 1 (by decide +kernel)) rfl, ⟨by decide, by decide, by decide +kernel⟩⟩, zin (zt4 20 (by decide +kernel)) rfl, zin (zt0 33 (by decide +kernel)) rfl⟩
theorem fw_X7_153 : Cond.fieldLink RX7 153 (TX1 6).1 (TX1 6).2.1 (TX1 6).2.2.1 ∈ zALL := zin (zt1 76 (by decide +kernel)) rfl
theorem kw_X7_65 : zkS RX7 65 yX2_lengthOf cX2_lengthOf 3 (some .int) 1 := ⟨⟨zin (zt1 139 (by decide +kernel)) rfl, zin (zt1 141 (by decide +kernel)) rfl, zin (zt1 10 (by decide +kernel)) rfl, ⟨by decide, by decide, by decide +kernel⟩⟩, zin (zt1 140 (by decide +kernel)) rfl⟩
theorem kw_X7_111 : zkS RX7 111 yX2_letterOf cX2_letterOf 5 (some .char) 2 := ⟨⟨zin (zt3 30 (by decide +kernel)) rfl, zin (zt3 32 (by decide +kernel)) rfl, zin (zt1 10 (by decide +kernel)) rfl, ⟨by decide, by decide, by decide +kernel⟩⟩, zin (zt3 31 (by decide +kernel)) rfl⟩
theorem kw_X7_228 : zkV RX7 228 RX7 yX7_letGo cX7_letGo 2 none 1 := ⟨⟨zin (zt3 182 (by decide +kernel)) rfl, zin (zt3 185 (by decide +kernel)) rfl, zin (zt1 1 (by decide +kernel)) rfl, ⟨by decide, by decide, by decide +kernel⟩⟩, zin (zt3 184 (by decide +kernel)) rfl, zin (zt0 25 (by decide +kernel)) rfl⟩
theorem kw_X7_236 : zkV RX7 236 RX7 yX7_leadingTo cX7_leadingTo 7 (some .int) 1 := ⟨⟨zin (zt3 190 (by decide +kernel)) rfl, zin (zt3 193 (by decide +kernel)) rfl, zin (zt1 1 (by decide +kernel)) rfl, ⟨by decide, by decide, by decide +kernel⟩⟩, zin (zt3 192 (by decide +kernel)) rfl, zin (zt0 27 (by decide +kernel)) rfl⟩
theorem fw_X7_128 : Cond.fieldLink RX7 128 (TX6 4).1 (TX6 4).2.1 (TX6 4).2.2.1 ∈ zALL := zin (zt2 147 (by decide +kernel)) rfl
theorem kw_X7_82 : zkV RX7 82 RX7 yX7_isInUse cX7_isInUse 7 (some .boolean) 1 := ⟨⟨zin (zt2 111 (by decide +kernel)) rfl, zin (zt2 114 (by decide +kernel)) rfl, zin (zt1 1 (by decide +kernel)) rfl, ⟨by decide, by decide, by decide +kernel⟩⟩, zin (zt2 113 (by decide +kernel)) rfl, zin (zt0 10 (by decide +kernel)) rfl⟩
theorem kw_X7_94 : zkV RX7 94 RX7 yX7_rememberAll cX7_rememberAll 8 none 2 := ⟨⟨zin (zt2 220 (by decide +kernel)) rfl, zin (zt2 223 (by decide +kernel)) rfl, zin (zt1 1 (by decide +kernel)) rfl, ⟨by decide, by decide, by decide +kernel⟩⟩, zin (zt2 222 (by decide +kernel)) rfl, zin (zt0 12 (by decide +kernel)) rfl⟩
theorem kw_X7_143 : zkV RX7 143 RX7 yX7_orderForRenumbering cX7_orderForRenumbering 7 none 1 := ⟨⟨zin (zt3 209 (by decide +kernel)) rfl, zin (zt3 212 (by decide +kernel)) rfl, zin (zt1 1 (by decide +kernel)) rfl, ⟨by decide, by decide, by decide +kernel⟩⟩, zin (zt3 211 (by decide +kernel)) rfl, zin (zt0 28 (by decide +kernel)) rfl⟩
theorem kw_X7_157 : zkV RX7 157 RX7 yX7_takeNewCodes cX7_takeNewCodes 8 (some .int) 1 := ⟨⟨zin (zt3 234 (by decide +kernel)) rfl, zin (zt3 237 (by decide +kernel)) rfl, zin (zt1 1 (by decide +kernel)) rfl, ⟨by decide, by decide, by decide +kernel⟩⟩, zin (zt3 236 (by decide +kernel)) rfl, zin (zt0 30 (by decide +kernel)) rfl⟩
theorem kw_X7_268 : zkV RX7 268 RX3 yX3_newest cX3_newest 6 (some .int) 2 := ⟨⟨zin (zt4 85 (by decide +kernel)) rfl, zin (zt4 88 (by decide +kernel)) rfl, zin (zt1 2 (by decide +kernel)) rfl, ⟨by decide, by decide, by decide +kernel⟩⟩, zin (zt4 86 (by decide +kernel)) rfl, zin (zt4 87 (by decide +kernel)) rfl⟩
theorem kw_X7_274 : zkV RX7 274 RX3 yX3_doorIn cX3_doorIn 2 (some .int) 1 := ⟨⟨zin (zt4 90 (by decide +kernel)) rfl, zin (zt4 93 (by decide +kernel)) rfl, zin (zt1 2 (by decide +kernel)) rfl, ⟨by decide, by decide, by decide +kernel⟩⟩, zin (zt4 91 (by decide +kernel)) rfl, zin (zt4 92 (by decide +kernel)) rfl⟩
theorem kw_X7_292 : zkV RX7 292 RX7 yX7_orderForWalking cX7_orderForWalking 7 none 1 := ⟨⟨zin (zt4 121 (by decide +kernel)) rfl, zin (zt4 124 (by decide +kernel)) rfl, zin (zt1 1 (by decide +kernel)) rfl, ⟨by decide, by decide, by decide +kernel⟩⟩, zin (zt4 123 (by decide +kernel)) rfl, zin (zt0 35 (by decide +kernel)) rfl⟩
theorem kw_X7_115 : zkS RX7 115 yX7_isWay cX7_isWay 1 (some .boolean) 1 := ⟨⟨zin (zt2 107 (by decide +kernel)) rfl, zin (zt2 109 (by decide +kernel)) rfl, zin (zt1 1 (by decide +kernel)) rfl, ⟨by decide, by decide, by decide +kernel⟩⟩, zin (zt2 108 (by decide +kernel)) rfl⟩
def nf_X6 : List zPV := [zI 0, zL 0, zL 0, zI 0, zI 0, zI 0, zI 0, zI 0]
theorem nf_X6_d : ∀ ad : Nat → Nat, ∀ j, j < 8 → defaultValue (tyX6 j) = vp_V (nf_X6.map (zT ad)) j := fun ad j hj => by
  rcases (show j = 0 ∨ j = 1 ∨ j = 2 ∨ j = 3 ∨ j = 4 ∨ j = 5 ∨ j = 6 ∨ j = 7 by omega) with rfl | rfl | rfl | rfl | rfl | rfl | rfl | rfl <;> rfl
theorem nf_X6_ok : ∀ v ∈ nf_X6, zOk 0 v := by
  intro v hv
  simp only [nf_X6, List.mem_cons, List.not_mem_nil, or_false] at hv
  rcases hv with rfl | rfl | rfl | rfl | rfl | rfl | rfl | rfl <;> first | exact inR_0 | trivial | (intro i hi; cases hi)
theorem kw_X7_123 : zkI RX7 123 yX6_init cX6_init 7 5 := ⟨⟨zin (zt2 133 (by decide +kernel)) rfl, zin (zt2 135 (by decide +kernel)) rfl, zin (zt1 13 (by decide +kernel)) rfl, ⟨by decide, by decide, by decide +kernel⟩⟩, rfl, zin (zt2 134 (by decide +kernel)) rfl⟩
theorem fw_X7_253 : Cond.fieldLink RX7 253 (TX6 0).1 (TX6 0).2.1 (TX6 0).2.2.1 ∈ zALL := zin (zt2 138 (by decide +kernel)) rfl
theorem kw_X7_74 : zkS RX7 74 yX2_longer cX2_longer 3 (some .long) 2 := ⟨⟨zin (zt2 96 (by decide +kernel)) rfl, zin (zt2 98 (by decide +kernel)) rfl, zin (zt1 10 (by decide +kernel)) rfl, ⟨by decide, by decide, by decide +kernel⟩⟩, zin (zt2 97 (by decide +kernel)) rfl⟩
theorem kw_X7_289 : zkV RX7 289 RX3 yX3_dayIn cX3_dayIn 2 (some .int) 1 := ⟨⟨zin (zt4 103 (by decide +kernel)) rfl, zin (zt4 106 (by decide +kernel)) rfl, zin (zt1 2 (by decide +kernel)) rfl, ⟨by decide, by decide, by decide +kernel⟩⟩, zin (zt4 104 (by decide +kernel)) rfl, zin (zt4 105 (by decide +kernel)) rfl⟩
theorem fw_X7_132 : Cond.fieldLink RX7 132 (TX6 5).1 (TX6 5).2.1 (TX6 5).2.2.1 ∈ zALL := zin (zt2 150 (by decide +kernel)) rfl
theorem fw_X8_7 : Cond.fieldLink RX8 7 (TX8 0).1 (TX8 0).2.1 (TX8 0).2.2.1 ∈ zALL := zin (zt4 185 (by decide +kernel)) rfl
theorem inz_X8 : ∀ w ∈ u_ws RX8 TX8 30, w ∈ zALL := by
  intro w hw
  obtain ⟨k, hk, rfl⟩ := List.mem_map.1 hw
  have hk := List.mem_range.1 hk
  rcases (show k = 0 ∨ k = 1 ∨ k = 2 ∨ k = 3 ∨ k = 4 ∨ k = 5 ∨ k = 6 ∨ k = 7 ∨ k = 8 ∨ k = 9 ∨ k = 10 ∨ k = 11 ∨ k = 12 ∨ k = 13 ∨ k = 14 ∨ k = 15 ∨ k = 16 ∨ k = 17 ∨ k = 18 ∨ k = 19 ∨ k = 20 ∨ k = 21 ∨ k = 22 ∨ k = 23 ∨ k = 24 ∨ k = 25 ∨ k = 26 ∨ k = 27 ∨ k = 28 ∨ k = 29 by omega) with rfl | rfl | rfl | rfl | rfl | rfl | rfl | rfl | rfl | rfl | rfl | rfl | rfl | rfl | rfl | rfl | rfl | rfl | rfl | rfl | rfl | rfl | rfl | rfl | rfl | rfl | rfl | rfl | rfl | rfl
  · exact zin (zt4 215 (by decide +kernel)) rfl
  · exact zin (zt4 217 (by decide +kernel)) rfl
  · exact zin (zt4 219 (by decide +kernel)) rfl
  · exact zin (zt4 221 (by decide +kernel)) rfl
  · exact zin (zt4 223 (by decide +kernel)) rfl
  · exact zin (zt4 225 (by decide +kernel)) rfl
  · exact zin (zt4 227 (by decide +kernel)) rfl
  · exact zin (zt4 229 (by decide +kernel)) rfl
  · exact zin (zt4 231 (by decide +kernel)) rfl
  · exact zin (zt4 233 (by decide +kernel)) rfl
  · exact zin (zt4 235 (by decide +kernel)) rfl
  · exact zin (zt4 237 (by decide +kernel)) rfl
  · exact zin (zt4 239 (by decide +kernel)) rfl
  · exact zin (zt5 1 (by decide +kernel)) rfl
  · exact zin (zt5 3 (by decide +kernel)) rfl
  · exact zin (zt5 5 (by decide +kernel)) rfl
  · exact zin (zt5 7 (by decide +kernel)) rfl
  · exact zin (zt5 9 (by decide +kernel)) rfl
  · exact zin (zt5 11 (by decide +kernel)) rfl
  · exact zin (zt5 13 (by decide +kernel)) rfl
  · exact zin (zt5 15 (by decide +kernel)) rfl
  · exact zin (zt5 17 (by decide +kernel)) rfl
  · exact zin (zt5 19 (by decide +kernel)) rfl
  · exact zin (zt5 21 (by decide +kernel)) rfl
  · exact zin (zt5 23 (by decide +kernel)) rfl
  · exact zin (zt5 25 (by decide +kernel)) rfl
  · exact zin (zt5 27 (by decide +kernel)) rfl
  · exact zin (zt5 29 (by decide +kernel)) rfl
  · exact zin (zt5 31 (by decide +kernel)) rfl
  · exact zin (zt5 33 (by decide +kernel)) rfl
theorem fw_X8_13 : Cond.fieldLink RX8 13 (TX8 1).1 (TX8 1).2.1 (TX8 1).2.2.1 ∈ zALL := zin (zt4 186 (by decide +kernel)) rfl
theorem fw_X8_16 : Cond.fieldLink RX8 16 (TX8 2).1 (TX8 2).2.1 (TX8 2).2.2.1 ∈ zALL := zin (zt4 187 (by decide +kernel)) rfl
theorem fw_X8_20 : Cond.fieldLink RX8 20 (TX8 3).1 (TX8 3).2.1 (TX8 3).2.2.1 ∈ zALL := zin (zt4 188 (by decide +kernel)) rfl
theorem fw_X8_24 : Cond.fieldLink RX8 24 (TX8 4).1 (TX8 4).2.1 (TX8 4).2.2.1 ∈ zALL := zin (zt4 189 (by decide +kernel)) rfl
theorem fw_X8_28 : Cond.fieldLink RX8 28 (TX8 5).1 (TX8 5).2.1 (TX8 5).2.2.1 ∈ zALL := zin (zt4 190 (by decide +kernel)) rfl
theorem fw_X8_31 : Cond.fieldLink RX8 31 (TX8 6).1 (TX8 6).2.1 (TX8 6).2.2.1 ∈ zALL := zin (zt4 191 (by decide +kernel)) rfl
theorem fw_X8_34 : Cond.fieldLink RX8 34 (TX8 8).1 (TX8 8).2.1 (TX8 8).2.2.1 ∈ zALL := zin (zt4 193 (by decide +kernel)) rfl
theorem fw_X8_37 : Cond.fieldLink RX8 37 (TX8 9).1 (TX8 9).2.1 (TX8 9).2.2.1 ∈ zALL := zin (zt4 194 (by decide +kernel)) rfl
theorem fw_X8_40 : Cond.fieldLink RX8 40 (TX8 10).1 (TX8 10).2.1 (TX8 10).2.2.1 ∈ zALL := zin (zt4 195 (by decide +kernel)) rfl
theorem fw_X8_43 : Cond.fieldLink RX8 43 (TX8 11).1 (TX8 11).2.1 (TX8 11).2.2.1 ∈ zALL := zin (zt4 196 (by decide +kernel)) rfl
theorem fw_X8_46 : Cond.fieldLink RX8 46 (TX8 12).1 (TX8 12).2.1 (TX8 12).2.2.1 ∈ zALL := zin (zt4 197 (by decide +kernel)) rfl
theorem fw_X8_49 : Cond.fieldLink RX8 49 (TX8 13).1 (TX8 13).2.1 (TX8 13).2.2.1 ∈ zALL := zin (zt4 198 (by decide +kernel)) rfl
theorem fw_X8_52 : Cond.fieldLink RX8 52 (TX8 15).1 (TX8 15).2.1 (TX8 15).2.2.1 ∈ zALL := zin (zt4 200 (by decide +kernel)) rfl
theorem fw_X8_55 : Cond.fieldLink RX8 55 (TX8 16).1 (TX8 16).2.1 (TX8 16).2.2.1 ∈ zALL := zin (zt4 201 (by decide +kernel)) rfl
theorem fw_X8_58 : Cond.fieldLink RX8 58 (TX8 17).1 (TX8 17).2.1 (TX8 17).2.2.1 ∈ zALL := zin (zt4 202 (by decide +kernel)) rfl
theorem fw_X8_61 : Cond.fieldLink RX8 61 (TX8 18).1 (TX8 18).2.1 (TX8 18).2.2.1 ∈ zALL := zin (zt4 203 (by decide +kernel)) rfl
theorem fw_X8_64 : Cond.fieldLink RX8 64 (TX8 20).1 (TX8 20).2.1 (TX8 20).2.2.1 ∈ zALL := zin (zt4 205 (by decide +kernel)) rfl
theorem fw_X8_67 : Cond.fieldLink RX8 67 (TX8 21).1 (TX8 21).2.1 (TX8 21).2.2.1 ∈ zALL := zin (zt4 206 (by decide +kernel)) rfl
theorem fw_X8_70 : Cond.fieldLink RX8 70 (TX8 22).1 (TX8 22).2.1 (TX8 22).2.2.1 ∈ zALL := zin (zt4 207 (by decide +kernel)) rfl
theorem fw_X8_73 : Cond.fieldLink RX8 73 (TX8 23).1 (TX8 23).2.1 (TX8 23).2.2.1 ∈ zALL := zin (zt4 208 (by decide +kernel)) rfl
theorem fw_X8_76 : Cond.fieldLink RX8 76 (TX8 24).1 (TX8 24).2.1 (TX8 24).2.2.1 ∈ zALL := zin (zt4 209 (by decide +kernel)) rfl
theorem fw_X8_90 : Cond.fieldLink RX8 90 (TX8 14).1 (TX8 14).2.1 (TX8 14).2.2.1 ∈ zALL := zin (zt4 199 (by decide +kernel)) rfl
theorem kw_X8_86 : zkS RX8 86 yX8_isBetween cX8_isBetween 3 (some .boolean) 3 := ⟨⟨zin (zt5 61 (by decide +kernel)) rfl, zin (zt5 63 (by decide +kernel)) rfl, zin (zt1 5 (by decide +kernel)) rfl, ⟨by decide, by decide, by decide +kernel⟩⟩, zin (zt5 62 (by decide +kernel)) rfl⟩
theorem fw_X8_79 : Cond.fieldLink RX8 79 (TX8 29).1 (TX8 29).2.1 (TX8 29).2.2.1 ∈ zALL := zin (zt4 214 (by decide +kernel)) rfl
theorem kw_X8_169 : zkV RX8 169 RX8 yX8_isDoor cX8_isDoor 2 (some .boolean) 1 := ⟨⟨zin (zt5 141 (by decide +kernel)) rfl, zin (zt5 144 (by decide +kernel)) rfl, zin (zt1 5 (by decide +kernel)) rfl, ⟨by decide, by decide, by decide +kernel⟩⟩, zin (zt5 143 (by decide +kernel)) rfl, zin (zt0 50 (by decide +kernel)) rfl⟩
theorem kw_X8_93 : zkV RX8 93 RX8 yX8_no cX8_no 3 (some .boolean) 2 := ⟨⟨zin (zt5 45 (by decide +kernel)) rfl, zin (zt5 48 (by decide +kernel)) rfl, zin (zt1 5 (by decide +kernel)) rfl, ⟨by decide, by decide, by decide +kernel⟩⟩, zin (zt5 47 (by decide +kernel)) rfl, zin (zt0 36 (by decide +kernel)) rfl⟩
theorem kw_X8_200 : zkV RX8 200 RX8 yX8_placeOf cX8_placeOf 3 (some .int) 2 := ⟨⟨zin (zt5 201 (by decide +kernel)) rfl, zin (zt5 204 (by decide +kernel)) rfl, zin (zt1 5 (by decide +kernel)) rfl, ⟨by decide, by decide, by decide +kernel⟩⟩, zin (zt5 203 (by decide +kernel)) rfl, zin (zt0 59 (by decide +kernel)) rfl⟩
theorem fw_X8_83 : Cond.fieldLink RX8 83 (TX8 7).1 (TX8 7).2.1 (TX8 7).2.2.1 ∈ zALL := zin (zt4 192 (by decide +kernel)) rfl
theorem kw_X8_209 : zkV RX8 209 RX8 yX8_doorsOf cX8_doorsOf 4 (some .int) 1 := ⟨⟨zin (zt6 1 (by decide +kernel)) rfl, zin (zt6 4 (by decide +kernel)) rfl, zin (zt1 5 (by decide +kernel)) rfl, ⟨by decide, by decide, by decide +kernel⟩⟩, zin (zt6 3 (by decide +kernel)) rfl, zin (zt0 62 (by decide +kernel)) rfl⟩
theorem fw_X8_118 : Cond.fieldLink RX8 118 (TX8 19).1 (TX8 19).2.1 (TX8 19).2.2.1 ∈ zALL := zin (zt4 204 (by decide +kernel)) rfl
theorem kw_X8_144 : zkV RX8 144 RX8 yX8_from cX8_from 3 (some .int) 2 := ⟨⟨zin (zt5 113 (by decide +kernel)) rfl, zin (zt5 116 (by decide +kernel)) rfl, zin (zt1 5 (by decide +kernel)) rfl, ⟨by decide, by decide, by decide +kernel⟩⟩, zin (zt5 115 (by decide +kernel)) rfl, zin (zt0 44 (by decide +kernel)) rfl⟩
theorem kw_X8_132 : zkV RX8 132 RX8 yX8_isStreet cX8_isStreet 2 (some .boolean) 1 := ⟨⟨zin (zt5 73 (by decide +kernel)) rfl, zin (zt5 76 (by decide +kernel)) rfl, zin (zt1 5 (by decide +kernel)) rfl, ⟨by decide, by decide, by decide +kernel⟩⟩, zin (zt5 75 (by decide +kernel)) rfl, zin (zt0 38 (by decide +kernel)) rfl⟩
theorem kw_X8_151 : zkV RX8 151 RX8 yX8_isFarther cX8_isFarther 6 (some .boolean) 3 := ⟨⟨zin (zt5 125 (by decide +kernel)) rfl, zin (zt5 128 (by decide +kernel)) rfl, zin (zt1 5 (by decide +kernel)) rfl, ⟨by decide, by decide, by decide +kernel⟩⟩, zin (zt5 127 (by decide +kernel)) rfl, zin (zt0 47 (by decide +kernel)) rfl⟩
theorem kw_X8_140 : zkV RX8 140 RX8 yX8_isGiven cX8_isGiven 5 (some .boolean) 2 := ⟨⟨zin (zt5 121 (by decide +kernel)) rfl, zin (zt5 124 (by decide +kernel)) rfl, zin (zt1 5 (by decide +kernel)) rfl, ⟨by decide, by decide, by decide +kernel⟩⟩, zin (zt5 123 (by decide +kernel)) rfl, zin (zt0 46 (by decide +kernel)) rfl⟩
theorem kw_X8_154 : zkV RX8 154 RX8 yX8_isNumberGiven cX8_isNumberGiven 5 (some .boolean) 2 := ⟨⟨zin (zt5 129 (by decide +kernel)) rfl, zin (zt5 132 (by decide +kernel)) rfl, zin (zt1 5 (by decide +kernel)) rfl, ⟨by decide, by decide, by decide +kernel⟩⟩, zin (zt5 131 (by decide +kernel)) rfl, zin (zt0 48 (by decide +kernel)) rfl⟩
theorem kw_X8_147 : zkV RX8 147 RX8 yX8_lettered cX8_lettered 5 (some .int) 3 := ⟨⟨zin (zt5 117 (by decide +kernel)) rfl, zin (zt5 120 (by decide +kernel)) rfl, zin (zt1 5 (by decide +kernel)) rfl, ⟨by decide, by decide, by decide +kernel⟩⟩, zin (zt5 119 (by decide +kernel)) rfl, zin (zt0 45 (by decide +kernel)) rfl⟩
theorem kw_X8_157 : zkV RX8 157 RX8 yX8_isPlace cX8_isPlace 4 (some .boolean) 3 := ⟨⟨zin (zt5 105 (by decide +kernel)) rfl, zin (zt5 108 (by decide +kernel)) rfl, zin (zt1 5 (by decide +kernel)) rfl, ⟨by decide, by decide, by decide +kernel⟩⟩, zin (zt5 107 (by decide +kernel)) rfl, zin (zt0 42 (by decide +kernel)) rfl⟩
theorem kw_X8_165 : zkV RX8 165 RX8 yX8_puts cX8_puts 6 none 5 := ⟨⟨zin (zt5 133 (by decide +kernel)) rfl, zin (zt5 136 (by decide +kernel)) rfl, zin (zt1 5 (by decide +kernel)) rfl, ⟨by decide, by decide, by decide +kernel⟩⟩, zin (zt5 135 (by decide +kernel)) rfl, zin (zt0 49 (by decide +kernel)) rfl⟩
theorem kw_X8_161 : zkV RX8 161 RX8 yX8_comes cX8_comes 10 (some .int) 4 := ⟨⟨zin (zt5 109 (by decide +kernel)) rfl, zin (zt5 112 (by decide +kernel)) rfl, zin (zt1 5 (by decide +kernel)) rfl, ⟨by decide, by decide, by decide +kernel⟩⟩, zin (zt5 111 (by decide +kernel)) rfl, zin (zt0 43 (by decide +kernel)) rfl⟩
theorem fw_X8_121 : Cond.fieldLink RX8 121 (TX8 28).1 (TX8 28).2.1 (TX8 28).2.2.1 ∈ zALL := zin (zt4 213 (by decide +kernel)) rfl
theorem fw_X8_102 : Cond.fieldLink RX8 102 (TX8 26).1 (TX8 26).2.1 (TX8 26).2.2.1 ∈ zALL := zin (zt4 211 (by decide +kernel)) rfl
theorem kw_X8_203 : zkV RX8 203 RX8 yX8_now cX8_now 5 (some .int) 1 := ⟨⟨zin (zt5 217 (by decide +kernel)) rfl, zin (zt5 220 (by decide +kernel)) rfl, zin (zt1 5 (by decide +kernel)) rfl, ⟨by decide, by decide, by decide +kernel⟩⟩, zin (zt5 219 (by decide +kernel)) rfl, zin (zt0 60 (by decide +kernel)) rfl⟩
theorem kw_X8_128 : zkV RX8 128 RX8 yX8_old cX8_old 6 none 3 := ⟨⟨zin (zt5 85 (by decide +kernel)) rfl, zin (zt5 88 (by decide +kernel)) rfl, zin (zt1 5 (by decide +kernel)) rfl, ⟨by decide, by decide, by decide +kernel⟩⟩, zin (zt5 87 (by decide +kernel)) rfl, zin (zt0 41 (by decide +kernel)) rfl⟩
theorem kw_X8_172 : zkV RX8 172 RX8 yX8_leaves cX8_leaves 3 none 1 := ⟨⟨zin (zt5 153 (by decide +kernel)) rfl, zin (zt5 156 (by decide +kernel)) rfl, zin (zt1 5 (by decide +kernel)) rfl, ⟨by decide, by decide, by decide +kernel⟩⟩, zin (zt5 155 (by decide +kernel)) rfl, zin (zt0 52 (by decide +kernel)) rfl⟩
theorem kw_X8_124 : zkV RX8 124 RX8 yX8_placeOn cX8_placeOn 3 (some .int) 2 := ⟨⟨zin (zt5 81 (by decide +kernel)) rfl, zin (zt5 84 (by decide +kernel)) rfl, zin (zt1 5 (by decide +kernel)) rfl, ⟨by decide, by decide, by decide +kernel⟩⟩, zin (zt5 83 (by decide +kernel)) rfl, zin (zt0 40 (by decide +kernel)) rfl⟩
theorem kw_X8_184 : zkV RX8 184 RX8 yX8_keeps cX8_keeps 2 none 0 := ⟨⟨zin (zt5 169 (by decide +kernel)) rfl, zin (zt5 172 (by decide +kernel)) rfl, zin (zt1 5 (by decide +kernel)) rfl, ⟨by decide, by decide, by decide +kernel⟩⟩, zin (zt5 171 (by decide +kernel)) rfl, zin (zt0 54 (by decide +kernel)) rfl⟩
theorem kw_X8_194 : zkV RX8 194 RX8 yX8_least cX8_least 4 (some .int) 1 := ⟨⟨zin (zt5 185 (by decide +kernel)) rfl, zin (zt5 188 (by decide +kernel)) rfl, zin (zt1 5 (by decide +kernel)) rfl, ⟨by decide, by decide, by decide +kernel⟩⟩, zin (zt5 187 (by decide +kernel)) rfl, zin (zt0 57 (by decide +kernel)) rfl⟩
theorem kw_X8_197 : zkV RX8 197 RX8 yX8_moves cX8_moves 9 (some .boolean) 3 := ⟨⟨zin (zt5 189 (by decide +kernel)) rfl, zin (zt5 192 (by decide +kernel)) rfl, zin (zt1 5 (by decide +kernel)) rfl, ⟨by decide, by decide, by decide +kernel⟩⟩, zin (zt5 191 (by decide +kernel)) rfl, zin (zt0 58 (by decide +kernel)) rfl⟩
theorem kw_X8_191 : zkV RX8 191 RX8 yX8_givesBack cX8_givesBack 2 none 0 := ⟨⟨zin (zt5 177 (by decide +kernel)) rfl, zin (zt5 180 (by decide +kernel)) rfl, zin (zt1 5 (by decide +kernel)) rfl, ⟨by decide, by decide, by decide +kernel⟩⟩, zin (zt5 179 (by decide +kernel)) rfl, zin (zt0 56 (by decide +kernel)) rfl⟩
theorem kw_X8_221 : zkV RX8 221 RX8 yX8_streets cX8_streets 3 (some .int) 0 := ⟨⟨zin (zt6 37 (by decide +kernel)) rfl, zin (zt6 28 (by decide +kernel)) rfl, zin (zt1 5 (by decide +kernel)) rfl, ⟨by decide, by decide, by decide +kernel⟩⟩, zin (zt6 26 (by decide +kernel)) rfl, zin (zt6 27 (by decide +kernel)) rfl⟩
theorem kw_X8_176 : zkV RX8 176 RX8 yX8_goes cX8_goes 3 none 2 := ⟨⟨zin (zt5 149 (by decide +kernel)) rfl, zin (zt5 152 (by decide +kernel)) rfl, zin (zt1 5 (by decide +kernel)) rfl, ⟨by decide, by decide, by decide +kernel⟩⟩, zin (zt5 151 (by decide +kernel)) rfl, zin (zt0 51 (by decide +kernel)) rfl⟩
theorem kw_X8_180 : zkV RX8 180 RX8 yX8_endOf cX8_endOf 3 (some .int) 1 := ⟨⟨zin (zt5 157 (by decide +kernel)) rfl, zin (zt5 160 (by decide +kernel)) rfl, zin (zt1 5 (by decide +kernel)) rfl, ⟨by decide, by decide, by decide +kernel⟩⟩, zin (zt5 159 (by decide +kernel)) rfl, zin (zt0 53 (by decide +kernel)) rfl⟩
theorem fw_X8_97 : Cond.fieldLink RX8 97 (TX8 27).1 (TX8 27).2.1 (TX8 27).2.2.1 ∈ zALL := zin (zt4 212 (by decide +kernel)) rfl
theorem kw_X8_136 : zkV RX8 136 RX8 yX8_nameGoes cX8_nameGoes 6 none 2 := ⟨⟨zin (zt5 77 (by decide +kernel)) rfl, zin (zt5 80 (by decide +kernel)) rfl, zin (zt1 5 (by decide +kernel)) rfl, ⟨by decide, by decide, by decide +kernel⟩⟩, zin (zt5 79 (by decide +kernel)) rfl, zin (zt0 39 (by decide +kernel)) rfl⟩
theorem kw_X8_114 : zkV RX8 114 RX8 yX8_wipe cX8_wipe 2 (some .int) 0 := ⟨⟨zin (zt5 68 (by decide +kernel)) rfl, zin (zt5 53 (by decide +kernel)) rfl, zin (zt1 5 (by decide +kernel)) rfl, ⟨by decide, by decide, by decide +kernel⟩⟩, zin (zt5 51 (by decide +kernel)) rfl, zin (zt5 52 (by decide +kernel)) rfl⟩
theorem kw_X8_110 : zkV RX8 110 RX8 yX8_isUsed cX8_isUsed 5 (some .boolean) 1 := ⟨⟨zin (zt5 64 (by decide +kernel)) rfl, zin (zt5 67 (by decide +kernel)) rfl, zin (zt1 5 (by decide +kernel)) rfl, ⟨by decide, by decide, by decide +kernel⟩⟩, zin (zt5 66 (by decide +kernel)) rfl, zin (zt0 37 (by decide +kernel)) rfl⟩
theorem kw_X8_187 : zkV RX8 187 RX8 yX8_next cX8_next 5 (some .int) 2 := ⟨⟨zin (zt5 173 (by decide +kernel)) rfl, zin (zt5 176 (by decide +kernel)) rfl, zin (zt1 5 (by decide +kernel)) rfl, ⟨by decide, by decide, by decide +kernel⟩⟩, zin (zt5 175 (by decide +kernel)) rfl, zin (zt0 55 (by decide +kernel)) rfl⟩
theorem kw_X8_206 : zkV RX8 206 RX8 yX8_latest cX8_latest 4 (some .int) 1 := ⟨⟨zin (zt5 225 (by decide +kernel)) rfl, zin (zt5 228 (by decide +kernel)) rfl, zin (zt1 5 (by decide +kernel)) rfl, ⟨by decide, by decide, by decide +kernel⟩⟩, zin (zt5 227 (by decide +kernel)) rfl, zin (zt0 61 (by decide +kernel)) rfl⟩
theorem fw_X8_212 : Cond.fieldLink RX8 212 (TX8 25).1 (TX8 25).2.1 (TX8 25).2.2.1 ∈ zALL := zin (zt4 210 (by decide +kernel)) rfl
theorem kw_X8_215 : zkV RX8 215 RX8 yX8_isAhead cX8_isAhead 3 (some .boolean) 2 := ⟨⟨zin (zt6 13 (by decide +kernel)) rfl, zin (zt6 16 (by decide +kernel)) rfl, zin (zt1 5 (by decide +kernel)) rfl, ⟨by decide, by decide, by decide +kernel⟩⟩, zin (zt6 15 (by decide +kernel)) rfl, zin (zt0 64 (by decide +kernel)) rfl⟩
theorem kw_X8_218 : zkV RX8 218 RX8 yX8_walks cX8_walks 4 none 1 := ⟨⟨zin (zt6 9 (by decide +kernel)) rfl, zin (zt6 12 (by decide +kernel)) rfl, zin (zt1 5 (by decide +kernel)) rfl, ⟨by decide, by decide, by decide +kernel⟩⟩, zin (zt6 11 (by decide +kernel)) rfl, zin (zt0 63 (by decide +kernel)) rfl⟩
theorem kw_X8_106 : zkS RX8 106 yX8_isWay cX8_isWay 1 (some .boolean) 1 := ⟨⟨zin (zt5 58 (by decide +kernel)) rfl, zin (zt5 60 (by decide +kernel)) rfl, zin (zt1 5 (by decide +kernel)) rfl, ⟨by decide, by decide, by decide +kernel⟩⟩, zin (zt5 59 (by decide +kernel)) rfl⟩
