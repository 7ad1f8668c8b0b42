/-! the law itself (by program) -/
def nf_X7 : List zPV := [zR none, zR none, zR none, zR none, zR none, zI 0, zI 0, zL 0, zI 0]
theorem nf_X7_d : ∀ ad : Nat → Nat, ∀ j, j < 9 → defaultValue (tyX7 j) = vp_V (nf_X7.map (zT ad)) j := fun ad j hj => by
  rcases (show j = 0 ∨ j = 1 ∨ j = 2 ∨ j = 3 ∨ j = 4 ∨ j = 5 ∨ j = 6 ∨ j = 7 ∨ j = 8 by omega) with rfl | rfl | rfl | rfl | rfl | rfl | rfl | rfl | rfl <;> rfl
theorem nf_X7_ok : ∀ v ∈ nf_X7, zOk 0 v := by
  intro v hv
  simp only [nf_X7, List.mem_cons, List.not_mem_nil, or_false] at hv
  rcases hv with rfl | rfl | rfl | rfl | rfl | rfl | rfl | rfl | rfl <;> first | exact inR_0 | trivial | (intro i hi; cases hi)
theorem kw_L_108 : zkI RL 108 yX7_init cX7_init 1 0 := ⟨⟨zin (zt1 25 (by decide +kernel)) rfl, zin (zt1 27 (by decide +kernel)) rfl, zin (zt1 1 (by decide +kernel)) rfl, ⟨by decide, by decide, by decide +kernel⟩⟩, rfl, zin (zt1 26 (by decide +kernel)) rfl⟩
def nf_X8 : List zPV := [zR none, zR none, zR none, zR none, zR none, zR none, zR none, zI 0, zR none, zR none, zR none, zR none, zR none, zR none, zI 0, zR none, zR none, zR none, zR none, zI 0, zR none, zR none, zR none, zR none, zR none, zI 0, zL 0, zI 0, zI 0, zI 0]
theorem nf_X8_d : ∀ ad : Nat → Nat, ∀ j, j < 30 → defaultValue (tyX8 j) = vp_V (nf_X8.map (zT ad)) j := fun ad j hj => by
  rcases (show j = 0 ∨ j = 1 ∨ j = 2 ∨ j = 3 ∨ j = 4 ∨ j = 5 ∨ j = 6 ∨ j = 7 ∨ j = 8 ∨ j = 9 ∨ j = 10 ∨ j = 11 ∨ j = 12 ∨ j = 13 ∨ j = 14 ∨ j = 15 ∨ j = 16 ∨ j = 17 ∨ j = 18 ∨ j = 19 ∨ j = 20 ∨ j = 21 ∨ j = 22 ∨ j = 23 ∨ j = 24 ∨ j = 25 ∨ j = 26 ∨ j = 27 ∨ j = 28 ∨ j = 29 by omega) with rfl | rfl | rfl | rfl | rfl | rfl | rfl | rfl | rfl | rfl | rfl | rfl | rfl | rfl | rfl | rfl | rfl | rfl | rfl | rfl | rfl | rfl | rfl | rfl | rfl | rfl | rfl | rfl | rfl | rfl <;> rfl
theorem nf_X8_ok : ∀ v ∈ nf_X8, zOk 0 v := by
  intro v hv
  simp only [nf_X8, List.mem_cons, List.not_mem_nil, or_false] at hv
  rcases hv with rfl | rfl | rfl | rfl | rfl | rfl | rfl | rfl | rfl | rfl | rfl | rfl | rfl | rfl | rfl | rfl | rfl | rfl | rfl | rfl | rfl | rfl | rfl | rfl | rfl | rfl | rfl | rfl | rfl | rfl <;> first | exact inR_0 | trivial | (intro i hi; cases hi)
theorem kw_L_111 : zkI RL 111 yX8_init cX8_init 2 0 := ⟨⟨zin (zt4 181 (by decide +kernel)) rfl, zin (zt4 183 (by decide +kernel)) rfl, zin (zt1 5 (by decide +kernel)) rfl, ⟨by decide, by decide, by decide +kernel⟩⟩, rfl, zin (zt4 182 (by decide +kernel)) rfl⟩
theorem kw_L_219 : zkV RL 219 RX7 yX7_isTrue cX7_isTrue 1 (some .boolean) 0 := ⟨⟨zin (zt1 170 (by decide +kernel)) rfl, zin (zt1 173 (by decide +kernel)) rfl, zin (zt1 1 (by decide +kernel)) rfl, ⟨by decide, by decide, by decide +kernel⟩⟩, zin (zt1 171 (by decide +kernel)) rfl, zin (zt1 172 (by decide +kernel)) rfl⟩
theorem kw_L_223 : zkV RL 223 RX8 yX8_isTrue cX8_isTrue 1 (some .boolean) 0 := ⟨⟨zin (zt6 44 (by decide +kernel)) rfl, zin (zt6 47 (by decide +kernel)) rfl, zin (zt1 5 (by decide +kernel)) rfl, ⟨by decide, by decide, by decide +kernel⟩⟩, zin (zt6 45 (by decide +kernel)) rfl, zin (zt6 46 (by decide +kernel)) rfl⟩
theorem kw_L_214 : zkV RL 214 RX7 yX7_checksum cX7_checksum 7 (some .long) 0 := ⟨⟨zin (zt1 153 (by decide +kernel)) rfl, zin (zt1 156 (by decide +kernel)) rfl, zin (zt1 1 (by decide +kernel)) rfl, ⟨by decide, by decide, by decide +kernel⟩⟩, zin (zt1 154 (by decide +kernel)) rfl, zin (zt1 155 (by decide +kernel)) rfl⟩
theorem kw_L_218 : zkV RL 218 RX8 yX8_checksum cX8_checksum 4 (some .long) 0 := ⟨⟨zin (zt6 38 (by decide +kernel)) rfl, zin (zt6 41 (by decide +kernel)) rfl, zin (zt1 5 (by decide +kernel)) rfl, ⟨by decide, by decide, by decide +kernel⟩⟩, zin (zt6 39 (by decide +kernel)) rfl, zin (zt6 40 (by decide +kernel)) rfl⟩
theorem kw_L_211 : zkX RL 211 yL_meanDoors cL_meanDoors 3 [(0, 7, 10, 102)] 2 := ⟨zin (zt4 171 (by decide +kernel)) rfl, zin (zt4 173 (by decide +kernel)) rfl, zin (zt1 0 (by decide +kernel)) rfl, ⟨by decide, by decide, by decide +kernel⟩, zin (zt4 172 (by decide +kernel)) rfl⟩
theorem kw_L_213 : zkV RL 213 RX8 yX8_meanDoors cX8_meanDoors 3 (some .double) 0 := ⟨⟨zin (zt6 33 (by decide +kernel)) rfl, zin (zt6 36 (by decide +kernel)) rfl, zin (zt1 5 (by decide +kernel)) rfl, ⟨by decide, by decide, by decide +kernel⟩⟩, zin (zt6 34 (by decide +kernel)) rfl, zin (zt6 35 (by decide +kernel)) rfl⟩
theorem kw_L_118 : zkV RL 118 RX8 yX8_thrown cX8_thrown 1 (some .int) 0 := ⟨⟨zin (zt5 37 (by decide +kernel)) rfl, zin (zt5 40 (by decide +kernel)) rfl, zin (zt1 5 (by decide +kernel)) rfl, ⟨by decide, by decide, by decide +kernel⟩⟩, zin (zt5 38 (by decide +kernel)) rfl, zin (zt5 39 (by decide +kernel)) rfl⟩
theorem kw_L_207 : zkX RL 207 yL_goneShare cL_goneShare 3 [(0, 8, 11, 102)] 2 := ⟨zin (zt4 147 (by decide +kernel)) rfl, zin (zt4 149 (by decide +kernel)) rfl, zin (zt1 0 (by decide +kernel)) rfl, ⟨by decide, by decide, by decide +kernel⟩, zin (zt4 148 (by decide +kernel)) rfl⟩
theorem kw_L_210 : zkV RL 210 RX8 yX8_goneShare cX8_goneShare 3 (some .float) 0 := ⟨⟨zin (zt6 29 (by decide +kernel)) rfl, zin (zt6 32 (by decide +kernel)) rfl, zin (zt1 5 (by decide +kernel)) rfl, ⟨by decide, by decide, by decide +kernel⟩⟩, zin (zt6 30 (by decide +kernel)) rfl, zin (zt6 31 (by decide +kernel)) rfl⟩
theorem kw_L_203 : zkV RL 203 RX7 yX7_streets cX7_streets 6 (some .int) 0 := ⟨⟨zin (zt1 142 (by decide +kernel)) rfl, zin (zt1 145 (by decide +kernel)) rfl, zin (zt1 1 (by decide +kernel)) rfl, ⟨by decide, by decide, by decide +kernel⟩⟩, zin (zt1 143 (by decide +kernel)) rfl, zin (zt1 144 (by decide +kernel)) rfl⟩
theorem kw_L_206 : zkV RL 206 RX8 yX8_streets cX8_streets 3 (some .int) 0 := ⟨⟨zin (zt6 25 (by decide +kernel)) rfl, zin (zt6 28 (by decide +kernel)) rfl, zin (zt1 5 (by decide +kernel)) rfl, ⟨by decide, by decide, by decide +kernel⟩⟩, zin (zt6 26 (by decide +kernel)) rfl, zin (zt6 27 (by decide +kernel)) rfl⟩
theorem kw_L_200 : zkX RL 200 yL_clashes cL_clashes 4 [(0, 9, 12, 27)] 3 := ⟨zin (zt4 136 (by decide +kernel)) rfl, zin (zt4 138 (by decide +kernel)) rfl, zin (zt1 0 (by decide +kernel)) rfl, ⟨by decide, by decide, by decide +kernel⟩, zin (zt4 137 (by decide +kernel)) rfl⟩
theorem kw_L_202 : zkV RL 202 RX8 yX8_clashes cX8_clashes 6 (some .int) 1 := ⟨⟨zin (zt6 21 (by decide +kernel)) rfl, zin (zt6 24 (by decide +kernel)) rfl, zin (zt1 5 (by decide +kernel)) rfl, ⟨by decide, by decide, by decide +kernel⟩⟩, zin (zt6 22 (by decide +kernel)) rfl, zin (zt6 23 (by decide +kernel)) rfl⟩
theorem kw_L_197 : zkX RL 197 yL_steps cL_steps 4 [(0, 9, 12, 27)] 3 := ⟨zin (zt4 126 (by decide +kernel)) rfl, zin (zt4 128 (by decide +kernel)) rfl, zin (zt1 0 (by decide +kernel)) rfl, ⟨by decide, by decide, by decide +kernel⟩, zin (zt4 127 (by decide +kernel)) rfl⟩
theorem kw_L_199 : zkV RL 199 RX8 yX8_steps cX8_steps 5 (some .int) 1 := ⟨⟨zin (zt6 17 (by decide +kernel)) rfl, zin (zt6 20 (by decide +kernel)) rfl, zin (zt1 5 (by decide +kernel)) rfl, ⟨by decide, by decide, by decide +kernel⟩⟩, zin (zt6 18 (by decide +kernel)) rfl, zin (zt6 19 (by decide +kernel)) rfl⟩
theorem kw_L_194 : zkX RL 194 yL_walk cL_walk 5 [(0, 10, 13, 27), (0, 10, 17, 36)] 4 := ⟨zin (zt4 114 (by decide +kernel)) rfl, zin (zt4 116 (by decide +kernel)) rfl, zin (zt1 0 (by decide +kernel)) rfl, ⟨by decide, by decide, by decide +kernel⟩, zin (zt4 115 (by decide +kernel)) rfl⟩
theorem kw_L_196 : zkV RL 196 RX8 yX8_walk cX8_walk 3 (some .int) 2 := ⟨⟨zin (zt6 5 (by decide +kernel)) rfl, zin (zt6 8 (by decide +kernel)) rfl, zin (zt1 5 (by decide +kernel)) rfl, ⟨by decide, by decide, by decide +kernel⟩⟩, zin (zt6 6 (by decide +kernel)) rfl, zin (zt6 7 (by decide +kernel)) rfl⟩
theorem kw_L_191 : zkX RL 191 yL_doors cL_doors 4 [(0, 9, 12, 27)] 3 := ⟨zin (zt4 107 (by decide +kernel)) rfl, zin (zt4 109 (by decide +kernel)) rfl, zin (zt1 0 (by decide +kernel)) rfl, ⟨by decide, by decide, by decide +kernel⟩, zin (zt4 108 (by decide +kernel)) rfl⟩
theorem kw_L_193 : zkV RL 193 RX8 yX8_doors cX8_doors 2 (some .int) 1 := ⟨⟨zin (zt5 237 (by decide +kernel)) rfl, zin (zt6 0 (by decide +kernel)) rfl, zin (zt1 5 (by decide +kernel)) rfl, ⟨by decide, by decide, by decide +kernel⟩⟩, zin (zt5 238 (by decide +kernel)) rfl, zin (zt5 239 (by decide +kernel)) rfl⟩
theorem kw_L_187 : zkV RL 187 RX7 yX7_olds cX7_olds 1 (some .int) 0 := ⟨⟨zin (zt1 149 (by decide +kernel)) rfl, zin (zt1 152 (by decide +kernel)) rfl, zin (zt1 1 (by decide +kernel)) rfl, ⟨by decide, by decide, by decide +kernel⟩⟩, zin (zt1 150 (by decide +kernel)) rfl, zin (zt1 151 (by decide +kernel)) rfl⟩
theorem kw_L_190 : zkV RL 190 RX8 yX8_olds cX8_olds 1 (some .int) 0 := ⟨⟨zin (zt5 233 (by decide +kernel)) rfl, zin (zt5 236 (by decide +kernel)) rfl, zin (zt1 5 (by decide +kernel)) rfl, ⟨by decide, by decide, by decide +kernel⟩⟩, zin (zt5 234 (by decide +kernel)) rfl, zin (zt5 235 (by decide +kernel)) rfl⟩
theorem kw_L_184 : zkX RL 184 yL_until cL_until 4 [(0, 9, 12, 36)] 3 := ⟨zin (zt4 95 (by decide +kernel)) rfl, zin (zt4 97 (by decide +kernel)) rfl, zin (zt1 0 (by decide +kernel)) rfl, ⟨by decide, by decide, by decide +kernel⟩, zin (zt4 96 (by decide +kernel)) rfl⟩
theorem kw_L_186 : zkV RL 186 RX8 yX8_until cX8_until 2 (some .int) 1 := ⟨⟨zin (zt5 229 (by decide +kernel)) rfl, zin (zt5 232 (by decide +kernel)) rfl, zin (zt1 5 (by decide +kernel)) rfl, ⟨by decide, by decide, by decide +kernel⟩⟩, zin (zt5 230 (by decide +kernel)) rfl, zin (zt5 231 (by decide +kernel)) rfl⟩
theorem kw_L_181 : zkX RL 181 yL_send cL_send 4 [(0, 9, 12, 36), (0, 9, 15, 21)] 3 := ⟨zin (zt4 78 (by decide +kernel)) rfl, zin (zt4 80 (by decide +kernel)) rfl, zin (zt1 0 (by decide +kernel)) rfl, ⟨by decide, by decide, by decide +kernel⟩, zin (zt4 79 (by decide +kernel)) rfl⟩
theorem kw_L_183 : zkV RL 183 RX8 yX8_send cX8_send 4 (some .int) 1 := ⟨⟨zin (zt5 221 (by decide +kernel)) rfl, zin (zt5 224 (by decide +kernel)) rfl, zin (zt1 5 (by decide +kernel)) rfl, ⟨by decide, by decide, by decide +kernel⟩⟩, zin (zt5 222 (by decide +kernel)) rfl, zin (zt5 223 (by decide +kernel)) rfl⟩
theorem kw_L_178 : zkX RL 178 yL_find cL_find 4 [(0, 9, 12, 36)] 3 := ⟨zin (zt4 57 (by decide +kernel)) rfl, zin (zt4 59 (by decide +kernel)) rfl, zin (zt1 0 (by decide +kernel)) rfl, ⟨by decide, by decide, by decide +kernel⟩, zin (zt4 58 (by decide +kernel)) rfl⟩
theorem kw_L_180 : zkV RL 180 RX8 yX8_find cX8_find 2 (some .int) 1 := ⟨⟨zin (zt5 213 (by decide +kernel)) rfl, zin (zt5 216 (by decide +kernel)) rfl, zin (zt1 5 (by decide +kernel)) rfl, ⟨by decide, by decide, by decide +kernel⟩⟩, zin (zt5 214 (by decide +kernel)) rfl, zin (zt5 215 (by decide +kernel)) rfl⟩
theorem kw_L_175 : zkX RL 175 yL_isGone cL_isGone 4 [(0, 16, 19, 27)] 3 := ⟨zin (zt4 50 (by decide +kernel)) rfl, zin (zt4 52 (by decide +kernel)) rfl, zin (zt1 0 (by decide +kernel)) rfl, ⟨by decide, by decide, by decide +kernel⟩, zin (zt4 51 (by decide +kernel)) rfl⟩
theorem kw_L_177 : zkV RL 177 RX8 yX8_isGone cX8_isGone 2 (some .boolean) 1 := ⟨⟨zin (zt5 209 (by decide +kernel)) rfl, zin (zt5 212 (by decide +kernel)) rfl, zin (zt1 5 (by decide +kernel)) rfl, ⟨by decide, by decide, by decide +kernel⟩⟩, zin (zt5 210 (by decide +kernel)) rfl, zin (zt5 211 (by decide +kernel)) rfl⟩
theorem kw_L_172 : zkX RL 172 yL_streetOf cL_streetOf 5 [(0, 10, 13, 27), (0, 10, 17, 36)] 4 := ⟨zin (zt4 42 (by decide +kernel)) rfl, zin (zt4 44 (by decide +kernel)) rfl, zin (zt1 0 (by decide +kernel)) rfl, ⟨by decide, by decide, by decide +kernel⟩, zin (zt4 43 (by decide +kernel)) rfl⟩
theorem kw_L_174 : zkV RL 174 RX8 yX8_streetOf cX8_streetOf 3 (some .int) 2 := ⟨⟨zin (zt5 205 (by decide +kernel)) rfl, zin (zt5 208 (by decide +kernel)) rfl, zin (zt1 5 (by decide +kernel)) rfl, ⟨by decide, by decide, by decide +kernel⟩⟩, zin (zt5 206 (by decide +kernel)) rfl, zin (zt5 207 (by decide +kernel)) rfl⟩
theorem kw_L_168 : zkX RL 168 yL_address cL_address 5 [(0, 10, 13, 27), (0, 10, 17, 36)] 4 := ⟨zin (zt4 34 (by decide +kernel)) rfl, zin (zt4 36 (by decide +kernel)) rfl, zin (zt1 0 (by decide +kernel)) rfl, ⟨by decide, by decide, by decide +kernel⟩, zin (zt4 35 (by decide +kernel)) rfl⟩
theorem kw_L_171 : zkV RL 171 RX8 yX8_address cX8_address 3 (some .int) 2 := ⟨⟨zin (zt5 197 (by decide +kernel)) rfl, zin (zt5 200 (by decide +kernel)) rfl, zin (zt1 5 (by decide +kernel)) rfl, ⟨by decide, by decide, by decide +kernel⟩⟩, zin (zt5 198 (by decide +kernel)) rfl, zin (zt5 199 (by decide +kernel)) rfl⟩
theorem kw_L_165 : zkX RL 165 yL_day cL_day 4 [(0, 9, 12, 13)] 3 := ⟨zin (zt4 26 (by decide +kernel)) rfl, zin (zt4 28 (by decide +kernel)) rfl, zin (zt1 0 (by decide +kernel)) rfl, ⟨by decide, by decide, by decide +kernel⟩, zin (zt4 27 (by decide +kernel)) rfl⟩
theorem kw_L_167 : zkV RL 167 RX8 yX8_day cX8_day 2 (some .int) 1 := ⟨⟨zin (zt5 193 (by decide +kernel)) rfl, zin (zt5 196 (by decide +kernel)) rfl, zin (zt1 5 (by decide +kernel)) rfl, ⟨by decide, by decide, by decide +kernel⟩⟩, zin (zt5 194 (by decide +kernel)) rfl, zin (zt5 195 (by decide +kernel)) rfl⟩
theorem kw_L_162 : zkX RL 162 yL_join cL_join 5 [(0, 10, 13, 27), (0, 10, 17, 13), (0, 10, 21, 21)] 4 := ⟨zin (zt4 2 (by decide +kernel)) rfl, zin (zt4 4 (by decide +kernel)) rfl, zin (zt1 0 (by decide +kernel)) rfl, ⟨by decide, by decide, by decide +kernel⟩, zin (zt4 3 (by decide +kernel)) rfl⟩
theorem kw_L_164 : zkV RL 164 RX8 yX8_join cX8_join 7 (some .int) 2 := ⟨⟨zin (zt5 181 (by decide +kernel)) rfl, zin (zt5 184 (by decide +kernel)) rfl, zin (zt1 5 (by decide +kernel)) rfl, ⟨by decide, by decide, by decide +kernel⟩⟩, zin (zt5 182 (by decide +kernel)) rfl, zin (zt5 183 (by decide +kernel)) rfl⟩
theorem kw_L_159 : zkX RL 159 yL_renumber cL_renumber 4 [(0, 9, 12, 27), (0, 9, 15, 21)] 3 := ⟨zin (zt3 202 (by decide +kernel)) rfl, zin (zt3 204 (by decide +kernel)) rfl, zin (zt1 0 (by decide +kernel)) rfl, ⟨by decide, by decide, by decide +kernel⟩, zin (zt3 203 (by decide +kernel)) rfl⟩
theorem kw_L_161 : zkV RL 161 RX8 yX8_renumber cX8_renumber 7 (some .int) 1 := ⟨⟨zin (zt5 165 (by decide +kernel)) rfl, zin (zt5 168 (by decide +kernel)) rfl, zin (zt1 5 (by decide +kernel)) rfl, ⟨by decide, by decide, by decide +kernel⟩⟩, zin (zt5 166 (by decide +kernel)) rfl, zin (zt5 167 (by decide +kernel)) rfl⟩
theorem kw_L_156 : zkX RL 156 yL_remove cL_remove 4 [(0, 9, 12, 27), (0, 9, 15, 21)] 3 := ⟨zin (zt3 194 (by decide +kernel)) rfl, zin (zt3 196 (by decide +kernel)) rfl, zin (zt1 0 (by decide +kernel)) rfl, ⟨by decide, by decide, by decide +kernel⟩, zin (zt3 195 (by decide +kernel)) rfl⟩
theorem kw_L_158 : zkV RL 158 RX8 yX8_remove cX8_remove 2 (some .int) 1 := ⟨⟨zin (zt5 161 (by decide +kernel)) rfl, zin (zt5 164 (by decide +kernel)) rfl, zin (zt1 5 (by decide +kernel)) rfl, ⟨by decide, by decide, by decide +kernel⟩⟩, zin (zt5 162 (by decide +kernel)) rfl, zin (zt5 163 (by decide +kernel)) rfl⟩
theorem kw_L_152 : zkX RL 152 yL_merge cL_merge 5 [(0, 10, 13, 27), (0, 10, 17, 13), (0, 10, 21, 21)] 4 := ⟨zin (zt3 173 (by decide +kernel)) rfl, zin (zt3 175 (by decide +kernel)) rfl, zin (zt1 0 (by decide +kernel)) rfl, ⟨by decide, by decide, by decide +kernel⟩, zin (zt3 174 (by decide +kernel)) rfl⟩
theorem kw_L_155 : zkV RL 155 RX8 yX8_merge cX8_merge 5 (some .int) 2 := ⟨⟨zin (zt5 145 (by decide +kernel)) rfl, zin (zt5 148 (by decide +kernel)) rfl, zin (zt1 5 (by decide +kernel)) rfl, ⟨by decide, by decide, by decide +kernel⟩⟩, zin (zt5 146 (by decide +kernel)) rfl, zin (zt5 147 (by decide +kernel)) rfl⟩
theorem kw_L_148 : zkX RL 148 yL_corner cL_corner 7 [(0, 14, 17, 27), (0, 14, 21, 13), (0, 14, 25, 21)] 6 := ⟨zin (zt3 156 (by decide +kernel)) rfl, zin (zt3 158 (by decide +kernel)) rfl, zin (zt1 0 (by decide +kernel)) rfl, ⟨by decide, by decide, by decide +kernel⟩, zin (zt3 157 (by decide +kernel)) rfl⟩
theorem kw_L_151 : zkV RL 151 RX8 yX8_corner cX8_corner 7 (some .int) 4 := ⟨⟨zin (zt5 137 (by decide +kernel)) rfl, zin (zt5 140 (by decide +kernel)) rfl, zin (zt1 5 (by decide +kernel)) rfl, ⟨by decide, by decide, by decide +kernel⟩⟩, zin (zt5 138 (by decide +kernel)) rfl, zin (zt5 139 (by decide +kernel)) rfl⟩
theorem kw_L_144 : zkX RL 144 yL_door cL_door 6 [(0, 12, 15, 27), (0, 12, 19, 13), (0, 12, 23, 21), (0, 12, 27, 15)] 5 := ⟨zin (zt3 42 (by decide +kernel)) rfl, zin (zt3 44 (by decide +kernel)) rfl, zin (zt1 0 (by decide +kernel)) rfl, ⟨by decide, by decide, by decide +kernel⟩, zin (zt3 43 (by decide +kernel)) rfl⟩
theorem kw_L_147 : zkV RL 147 RX8 yX8_door cX8_door 5 (some .int) 3 := ⟨⟨zin (zt5 101 (by decide +kernel)) rfl, zin (zt5 104 (by decide +kernel)) rfl, zin (zt1 5 (by decide +kernel)) rfl, ⟨by decide, by decide, by decide +kernel⟩⟩, zin (zt5 102 (by decide +kernel)) rfl, zin (zt5 103 (by decide +kernel)) rfl⟩
theorem kw_L_141 : zkX RL 141 yL_way cL_way 6 [(0, 12, 15, 27), (0, 12, 19, 13)] 5 := ⟨zin (zt3 34 (by decide +kernel)) rfl, zin (zt3 36 (by decide +kernel)) rfl, zin (zt1 0 (by decide +kernel)) rfl, ⟨by decide, by decide, by decide +kernel⟩, zin (zt3 35 (by decide +kernel)) rfl⟩
theorem kw_L_143 : zkV RL 143 RX8 yX8_way cX8_way 5 (some .char) 3 := ⟨⟨zin (zt5 97 (by decide +kernel)) rfl, zin (zt5 100 (by decide +kernel)) rfl, zin (zt1 5 (by decide +kernel)) rfl, ⟨by decide, by decide, by decide +kernel⟩⟩, zin (zt5 98 (by decide +kernel)) rfl, zin (zt5 99 (by decide +kernel)) rfl⟩
theorem kw_L_137 : zkX RL 137 yL_letter cL_letter 6 [(0, 12, 15, 27), (0, 12, 19, 36)] 5 := ⟨zin (zt3 6 (by decide +kernel)) rfl, zin (zt3 8 (by decide +kernel)) rfl, zin (zt1 0 (by decide +kernel)) rfl, ⟨by decide, by decide, by decide +kernel⟩, zin (zt3 7 (by decide +kernel)) rfl⟩
theorem kw_L_140 : zkV RL 140 RX8 yX8_letter cX8_letter 9 (some .char) 3 := ⟨⟨zin (zt5 93 (by decide +kernel)) rfl, zin (zt5 96 (by decide +kernel)) rfl, zin (zt1 5 (by decide +kernel)) rfl, ⟨by decide, by decide, by decide +kernel⟩⟩, zin (zt5 94 (by decide +kernel)) rfl, zin (zt5 95 (by decide +kernel)) rfl⟩
theorem kw_L_134 : zkX RL 134 yL_translate cL_translate 4 [(0, 9, 12, 27), (0, 9, 15, 21)] 3 := ⟨zin (zt2 238 (by decide +kernel)) rfl, zin (zt3 0 (by decide +kernel)) rfl, zin (zt1 0 (by decide +kernel)) rfl, ⟨by decide, by decide, by decide +kernel⟩, zin (zt2 239 (by decide +kernel)) rfl⟩
theorem kw_L_136 : zkV RL 136 RX8 yX8_translate cX8_translate 2 (some .int) 1 := ⟨⟨zin (zt5 89 (by decide +kernel)) rfl, zin (zt5 92 (by decide +kernel)) rfl, zin (zt1 5 (by decide +kernel)) rfl, ⟨by decide, by decide, by decide +kernel⟩⟩, zin (zt5 90 (by decide +kernel)) rfl, zin (zt5 91 (by decide +kernel)) rfl⟩
theorem kw_L_130 : zkX RL 130 yL_rename cL_rename 4 [(0, 9, 12, 27), (0, 9, 15, 21)] 3 := ⟨zin (zt2 172 (by decide +kernel)) rfl, zin (zt2 174 (by decide +kernel)) rfl, zin (zt1 0 (by decide +kernel)) rfl, ⟨by decide, by decide, by decide +kernel⟩, zin (zt2 173 (by decide +kernel)) rfl⟩
theorem kw_L_133 : zkV RL 133 RX8 yX8_rename cX8_rename 2 (some .int) 1 := ⟨⟨zin (zt5 69 (by decide +kernel)) rfl, zin (zt5 72 (by decide +kernel)) rfl, zin (zt1 5 (by decide +kernel)) rfl, ⟨by decide, by decide, by decide +kernel⟩⟩, zin (zt5 70 (by decide +kernel)) rfl, zin (zt5 71 (by decide +kernel)) rfl⟩
theorem kw_L_126 : zkX RL 126 yL_street cL_street 6 [(0, 12, 15, 13), (0, 12, 19, 21), (0, 12, 23, 15)] 5 := ⟨zin (zt2 99 (by decide +kernel)) rfl, zin (zt2 101 (by decide +kernel)) rfl, zin (zt1 0 (by decide +kernel)) rfl, ⟨by decide, by decide, by decide +kernel⟩, zin (zt2 100 (by decide +kernel)) rfl⟩
theorem kw_L_129 : zkV RL 129 RX8 yX8_street cX8_street 4 (some .int) 3 := ⟨⟨zin (zt5 54 (by decide +kernel)) rfl, zin (zt5 57 (by decide +kernel)) rfl, zin (zt1 5 (by decide +kernel)) rfl, ⟨by decide, by decide, by decide +kernel⟩⟩, zin (zt5 55 (by decide +kernel)) rfl, zin (zt5 56 (by decide +kernel)) rfl⟩
theorem kw_L_122 : zkV RL 122 RX7 yX7_wipe cX7_wipe 2 (some .int) 0 := ⟨⟨zin (zt1 135 (by decide +kernel)) rfl, zin (zt1 138 (by decide +kernel)) rfl, zin (zt1 1 (by decide +kernel)) rfl, ⟨by decide, by decide, by decide +kernel⟩⟩, zin (zt1 136 (by decide +kernel)) rfl, zin (zt1 137 (by decide +kernel)) rfl⟩
theorem kw_L_125 : zkV RL 125 RX8 yX8_wipe cX8_wipe 2 (some .int) 0 := ⟨⟨zin (zt5 50 (by decide +kernel)) rfl, zin (zt5 53 (by decide +kernel)) rfl, zin (zt1 5 (by decide +kernel)) rfl, ⟨by decide, by decide, by decide +kernel⟩⟩, zin (zt5 51 (by decide +kernel)) rfl, zin (zt5 52 (by decide +kernel)) rfl⟩
theorem kw_L_112 : zkX RL 112 yL_type cL_type 4 [(0, 9, 12, 13), (0, 9, 15, 15)] 3 := ⟨zin (zt1 239 (by decide +kernel)) rfl, zin (zt2 1 (by decide +kernel)) rfl, zin (zt1 0 (by decide +kernel)) rfl, ⟨by decide, by decide, by decide +kernel⟩, zin (zt2 0 (by decide +kernel)) rfl⟩
theorem kw_L_117 : zkV RL 117 RX8 yX8_type cX8_type 2 (some .int) 1 := ⟨⟨zin (zt5 41 (by decide +kernel)) rfl, zin (zt5 44 (by decide +kernel)) rfl, zin (zt1 5 (by decide +kernel)) rfl, ⟨by decide, by decide, by decide +kernel⟩⟩, zin (zt5 42 (by decide +kernel)) rfl, zin (zt5 43 (by decide +kernel)) rfl⟩
def L_law_k29 (p8 : Option Nat) (p9 : Option Nat) (s12 : Int × zH) : Option ((Int × zH) ⊕ (zH)) :=
  ((zobj s12.2 p8 8).bind fun _ => X7_isTrue s12.2 p8).bind fun x18 =>
  ((zobj x18.2 p9 9).bind fun _ => X8_isTrue x18.2 p9).bind fun x19 =>
  if x18.1 = x19 then
    (zchk (s12.1 + 5)).bind fun v20 =>
    some (Sum.inl (v20, x18.2))
  else
    none
def L_law_k28 (p8 : Option Nat) (p9 : Option Nat) (s12 : Int × zH) : Option ((Int × zH) ⊕ (zH)) :=
  ((zobj s12.2 p8 8).bind fun _ => X7_checksum s12.2 p8).bind fun x21 =>
  ((zobj s12.2 p9 9).bind fun _ => X8_checksum s12.2 p9).bind fun x22 =>
  if (zcmp x21 x22) = 0 then
    (zchk (s12.1 + 5)).bind fun v23 =>
    some (Sum.inl (v23, s12.2))
  else
    none
def L_law_k27 (p8 : Option Nat) (p9 : Option Nat) (p11 : Option Nat) (s12 : Int × zH) : Option ((Int × zH) ⊕ (zH)) :=
  (L_meanDoors s12.2 p8 p11).bind fun x24 =>
  ((zobj x24.2 p9 9).bind fun _ => X8_meanDoors x24.2 p9).bind fun x25 =>
  ((zobj x25.2 p9 9).bind fun _ => X8_thrown x25.2 p9).bind fun x26 =>
  if x26 = x24.1 then
    if x24.1 = 0 then
      (zaD x25.2 p11 0).bind fun v28 =>
      if (Op.cmpValue (FP.dcmp v28 x25.1) .l).toInt = 0 then
        (zchk (s12.1 + 5)).bind fun v29 =>
        some (Sum.inl (v29, x25.2))
      else
        (zaD x25.2 p11 0).bind fun v30 =>
        (zaD x25.2 p11 0).bind fun v31 =>
        if (Op.cmpValue (FP.dcmp v30 v31) .l).toInt = 0 then
          none
        else
          if (Op.cmpValue (FP.dcmp x25.1 x25.1) .l).toInt = 0 then
            none
          else
            (zchk (s12.1 + 5)).bind fun v32 =>
            some (Sum.inl (v32, x25.2))
    else
      (zchk (s12.1 + 5)).bind fun v27 =>
      some (Sum.inl (v27, x25.2))
  else
    none
def L_law_k26 (p8 : Option Nat) (p9 : Option Nat) (p11 : Option Nat) (s12 : Int × zH) : Option ((Int × zH) ⊕ (zH)) :=
  (L_goneShare s12.2 p8 p11).bind fun x33 =>
  ((zobj x33.2 p9 9).bind fun _ => X8_goneShare x33.2 p9).bind fun x34 =>
  ((zobj x34.2 p9 9).bind fun _ => X8_thrown x34.2 p9).bind fun x35 =>
  if x35 = x33.1 then
    if x33.1 = 0 then
      (zaD x34.2 p11 0).bind fun v37 =>
      (zf2d x34.1).bind fun v38 =>
      if (Op.cmpValue (FP.dcmp v37 v38) .l).toInt = 0 then
        (zchk (s12.1 + 5)).bind fun v39 =>
        some (Sum.inl (v39, x34.2))
      else
        (zaD x34.2 p11 0).bind fun v40 =>
        (zaD x34.2 p11 0).bind fun v41 =>
        if (Op.cmpValue (FP.dcmp v40 v41) .l).toInt = 0 then
          none
        else
          if (Op.cmpValue (FP.fcmp x34.1 x34.1) .l).toInt = 0 then
            none
          else
            (zchk (s12.1 + 5)).bind fun v42 =>
            some (Sum.inl (v42, x34.2))
    else
      (zchk (s12.1 + 5)).bind fun v36 =>
      some (Sum.inl (v36, x34.2))
  else
    none
def L_law_k25 (p8 : Option Nat) (p9 : Option Nat) (s12 : Int × zH) : Option ((Int × zH) ⊕ (zH)) :=
  ((zobj s12.2 p8 8).bind fun _ => X7_streets s12.2 p8).bind fun x43 =>
  ((zobj s12.2 p9 9).bind fun _ => X8_streets s12.2 p9).bind fun x44 =>
  if x43 = x44 then
    (zchk (s12.1 + 5)).bind fun v45 =>
    some (Sum.inl (v45, s12.2))
  else
    none
def L_law_k24 (xs : Nat → Int32) (L : Nat) (p8 : Option Nat) (p9 : Option Nat) (p10 : Option Nat) (s12 : Int × zH) : Option ((Int × zH) ⊕ (zH)) :=
  (zchk (s12.1 + 1)).bind fun v46 =>
  (zsc xs L v46).bind fun v47 =>
  (L_clashes s12.2 p8 v47 p10).bind fun x48 =>
  (zchk (s12.1 + 1)).bind fun v49 =>
  (zsc xs L v49).bind fun v50 =>
  ((zobj x48.2 p9 9).bind fun _ => X8_clashes x48.2 p9 v50).bind fun x51 =>
  ((zobj x51.2 p9 9).bind fun _ => X8_thrown x51.2 p9).bind fun x52 =>
  if x52 = x48.1 then
    if x48.1 = 0 then
      (zaJ x51.2 p10 0).bind fun v54 =>
      if (zcmp v54 ((Int64.ofInt x51.1))) = 0 then
        (zchk (s12.1 + 5)).bind fun v55 =>
        some (Sum.inl (v55, x51.2))
      else
        none
    else
      (zchk (s12.1 + 5)).bind fun v53 =>
      some (Sum.inl (v53, x51.2))
  else
    none
def L_law_k23 (xs : Nat → Int32) (L : Nat) (p8 : Option Nat) (p9 : Option Nat) (p10 : Option Nat) (s12 : Int × zH) : Option ((Int × zH) ⊕ (zH)) :=
  (zchk (s12.1 + 1)).bind fun v56 =>
  (zsc xs L v56).bind fun v57 =>
  (L_steps s12.2 p8 v57 p10).bind fun x58 =>
  (zchk (s12.1 + 1)).bind fun v59 =>
  (zsc xs L v59).bind fun v60 =>
  ((zobj x58.2 p9 9).bind fun _ => X8_steps x58.2 p9 v60).bind fun x61 =>
  ((zobj x61.2 p9 9).bind fun _ => X8_thrown x61.2 p9).bind fun x62 =>
  if x62 = x58.1 then
    if x58.1 = 0 then
      (zaJ x61.2 p10 0).bind fun v64 =>
      if (zcmp v64 ((Int64.ofInt x61.1))) = 0 then
        (zchk (s12.1 + 5)).bind fun v65 =>
        some (Sum.inl (v65, x61.2))
      else
        none
    else
      (zchk (s12.1 + 5)).bind fun v63 =>
      some (Sum.inl (v63, x61.2))
  else
    none
def L_law_k22 (xs : Nat → Int32) (L : Nat) (p8 : Option Nat) (p9 : Option Nat) (p10 : Option Nat) (s12 : Int × zH) : Option ((Int × zH) ⊕ (zH)) :=
  (zchk (s12.1 + 1)).bind fun v66 =>
  (zsc xs L v66).bind fun v67 =>
  (zchk (s12.1 + 2)).bind fun v68 =>
  (zsc xs L v68).bind fun v69 =>
  (L_walk s12.2 p8 v67 v69 p10).bind fun x70 =>
  (zchk (s12.1 + 1)).bind fun v71 =>
  (zsc xs L v71).bind fun v72 =>
  (zchk (s12.1 + 2)).bind fun v73 =>
  (zsc xs L v73).bind fun v74 =>
  ((zobj x70.2 p9 9).bind fun _ => X8_walk x70.2 p9 v72 v74).bind fun x75 =>
  ((zobj x75.2 p9 9).bind fun _ => X8_thrown x75.2 p9).bind fun x76 =>
  if x76 = x70.1 then
    if x70.1 = 0 then
      (zaJ x75.2 p10 0).bind fun v78 =>
      if (zcmp v78 ((Int64.ofInt x75.1))) = 0 then
        (zchk (s12.1 + 5)).bind fun v79 =>
        some (Sum.inl (v79, x75.2))
      else
        none
    else
      (zchk (s12.1 + 5)).bind fun v77 =>
      some (Sum.inl (v77, x75.2))
  else
    none
def L_law_k21 (xs : Nat → Int32) (L : Nat) (p8 : Option Nat) (p9 : Option Nat) (p10 : Option Nat) (s12 : Int × zH) : Option ((Int × zH) ⊕ (zH)) :=
  (zchk (s12.1 + 1)).bind fun v80 =>
  (zsc xs L v80).bind fun v81 =>
  (L_doors s12.2 p8 v81 p10).bind fun x82 =>
  (zchk (s12.1 + 1)).bind fun v83 =>
  (zsc xs L v83).bind fun v84 =>
  ((zobj x82.2 p9 9).bind fun _ => X8_doors x82.2 p9 v84).bind fun x85 =>
  ((zobj x85.2 p9 9).bind fun _ => X8_thrown x85.2 p9).bind fun x86 =>
  if x86 = x82.1 then
    if x82.1 = 0 then
      (zaJ x85.2 p10 0).bind fun v88 =>
      if (zcmp v88 ((Int64.ofInt x85.1))) = 0 then
        (zchk (s12.1 + 5)).bind fun v89 =>
        some (Sum.inl (v89, x85.2))
      else
        none
    else
      (zchk (s12.1 + 5)).bind fun v87 =>
      some (Sum.inl (v87, x85.2))
  else
    none
def L_law_k20 (p8 : Option Nat) (p9 : Option Nat) (s12 : Int × zH) : Option ((Int × zH) ⊕ (zH)) :=
  ((zobj s12.2 p8 8).bind fun _ => X7_olds s12.2 p8).bind fun x90 =>
  ((zobj s12.2 p9 9).bind fun _ => X8_olds s12.2 p9).bind fun x91 =>
  if x90 = x91 then
    (zchk (s12.1 + 5)).bind fun v92 =>
    some (Sum.inl (v92, s12.2))
  else
    none
def L_law_k19 (xs : Nat → Int32) (L : Nat) (p8 : Option Nat) (p9 : Option Nat) (p10 : Option Nat) (s12 : Int × zH) : Option ((Int × zH) ⊕ (zH)) :=
  (zchk (s12.1 + 1)).bind fun v93 =>
  (zsc xs L v93).bind fun v94 =>
  (L_until s12.2 p8 v94 p10).bind fun x95 =>
  (zchk (s12.1 + 1)).bind fun v96 =>
  (zsc xs L v96).bind fun v97 =>
  ((zobj x95.2 p9 9).bind fun _ => X8_until x95.2 p9 v97).bind fun x98 =>
  ((zobj x98.2 p9 9).bind fun _ => X8_thrown x98.2 p9).bind fun x99 =>
  if x99 = x95.1 then
    if x95.1 = 0 then
      (zaJ x98.2 p10 0).bind fun v101 =>
      if (zcmp v101 ((Int64.ofInt x98.1))) = 0 then
        (zchk (s12.1 + 5)).bind fun v102 =>
        some (Sum.inl (v102, x98.2))
      else
        none
    else
      (zchk (s12.1 + 5)).bind fun v100 =>
      some (Sum.inl (v100, x98.2))
  else
    none
def L_law_k18 (xs : Nat → Int32) (L : Nat) (p8 : Option Nat) (p9 : Option Nat) (p10 : Option Nat) (s12 : Int × zH) : Option ((Int × zH) ⊕ (zH)) :=
  (zchk (s12.1 + 1)).bind fun v103 =>
  (zsc xs L v103).bind fun v104 =>
  (L_send s12.2 p8 v104 p10).bind fun x105 =>
  (zchk (s12.1 + 1)).bind fun v106 =>
  (zsc xs L v106).bind fun v107 =>
  ((zobj x105.2 p9 9).bind fun _ => X8_send x105.2 p9 v107).bind fun x108 =>
  ((zobj x108.2 p9 9).bind fun _ => X8_thrown x108.2 p9).bind fun x109 =>
  if x109 = x105.1 then
    if x105.1 = 0 then
      (zaJ x108.2 p10 0).bind fun v111 =>
      if (zcmp v111 ((Int64.ofInt x108.1))) = 0 then
        (zchk (s12.1 + 5)).bind fun v112 =>
        some (Sum.inl (v112, x108.2))
      else
        none
    else
      (zchk (s12.1 + 5)).bind fun v110 =>
      some (Sum.inl (v110, x108.2))
  else
    none
def L_law_k17 (xs : Nat → Int32) (L : Nat) (p8 : Option Nat) (p9 : Option Nat) (p10 : Option Nat) (s12 : Int × zH) : Option ((Int × zH) ⊕ (zH)) :=
  (zchk (s12.1 + 1)).bind fun v113 =>
  (zsc xs L v113).bind fun v114 =>
  (L_find s12.2 p8 v114 p10).bind fun x115 =>
  (zchk (s12.1 + 1)).bind fun v116 =>
  (zsc xs L v116).bind fun v117 =>
  ((zobj x115.2 p9 9).bind fun _ => X8_find x115.2 p9 v117).bind fun x118 =>
  ((zobj x118.2 p9 9).bind fun _ => X8_thrown x118.2 p9).bind fun x119 =>
  if x119 = x115.1 then
    if x115.1 = 0 then
      (zaJ x118.2 p10 0).bind fun v121 =>
      if (zcmp v121 ((Int64.ofInt x118.1))) = 0 then
        (zchk (s12.1 + 5)).bind fun v122 =>
        some (Sum.inl (v122, x118.2))
      else
        none
    else
      (zchk (s12.1 + 5)).bind fun v120 =>
      some (Sum.inl (v120, x118.2))
  else
    none
def L_law_k16 (xs : Nat → Int32) (L : Nat) (p8 : Option Nat) (p9 : Option Nat) (p10 : Option Nat) (s12 : Int × zH) : Option ((Int × zH) ⊕ (zH)) :=
  (zchk (s12.1 + 1)).bind fun v123 =>
  (zsc xs L v123).bind fun v124 =>
  (L_isGone s12.2 p8 v124 p10).bind fun x125 =>
  (zchk (s12.1 + 1)).bind fun v126 =>
  (zsc xs L v126).bind fun v127 =>
  ((zobj x125.2 p9 9).bind fun _ => X8_isGone x125.2 p9 v127).bind fun x128 =>
  ((zobj x128.2 p9 9).bind fun _ => X8_thrown x128.2 p9).bind fun x129 =>
  if x129 = x125.1 then
    if x125.1 = 0 then
      (zaJ x128.2 p10 0).bind fun v131 =>
      if x128.1 = 0 then
        if (zcmp v131 0) = 0 then
          (zchk (s12.1 + 5)).bind fun v132 =>
          some (Sum.inl (v132, x128.2))
        else
          none
      else
        if (zcmp v131 1) = 0 then
          (zchk (s12.1 + 5)).bind fun v133 =>
          some (Sum.inl (v133, x128.2))
        else
          none
    else
      (zchk (s12.1 + 5)).bind fun v130 =>
      some (Sum.inl (v130, x128.2))
  else
    none
def L_law_j1267 (p9 : Option Nat) (p10 : Option Nat) (s12 : Int × zH) (x139 : (Int × zH)) (v141 : Int) (j144 : Int) : Option ((Int × zH) ⊕ (zH)) :=
  ((zobj x139.2 p9 9).bind fun _ => X8_streetOf x139.2 p9 v141 j144).bind fun x145 =>
  ((zobj x145.2 p9 9).bind fun _ => X8_thrown x145.2 p9).bind fun x146 =>
  if x146 = x139.1 then
    if x139.1 = 0 then
      (zaJ x145.2 p10 0).bind fun v148 =>
      if (zcmp v148 ((Int64.ofInt x145.1))) = 0 then
        (zchk (s12.1 + 5)).bind fun v149 =>
        some (Sum.inl (v149, x145.2))
      else
        none
    else
      (zchk (s12.1 + 5)).bind fun v147 =>
      some (Sum.inl (v147, x145.2))
  else
    none
def L_law_j1240 (xs : Nat → Int32) (L : Nat) (p8 : Option Nat) (p9 : Option Nat) (p10 : Option Nat) (s12 : Int × zH) (v135 : Int) (j138 : Int) : Option ((Int × zH) ⊕ (zH)) :=
  (L_streetOf s12.2 p8 v135 j138 p10).bind fun x139 =>
  (zchk (s12.1 + 1)).bind fun v140 =>
  (zsc xs L v140).bind fun v141 =>
  (zchk (s12.1 + 2)).bind fun v142 =>
  (zsc xs L v142).bind fun v143 =>
  if v143 = 0 then
    L_law_j1267 p9 p10 s12 x139 v141 0
  else
    L_law_j1267 p9 p10 s12 x139 v141 1
def L_law_k15 (xs : Nat → Int32) (L : Nat) (p8 : Option Nat) (p9 : Option Nat) (p10 : Option Nat) (s12 : Int × zH) : Option ((Int × zH) ⊕ (zH)) :=
  (zchk (s12.1 + 1)).bind fun v134 =>
  (zsc xs L v134).bind fun v135 =>
  (zchk (s12.1 + 2)).bind fun v136 =>
  (zsc xs L v136).bind fun v137 =>
  if v137 = 0 then
    L_law_j1240 xs L p8 p9 p10 s12 v135 0
  else
    L_law_j1240 xs L p8 p9 p10 s12 v135 1
def L_law_j1183 (p9 : Option Nat) (p10 : Option Nat) (s12 : Int × zH) (x155 : (Int × zH)) (v157 : Int) (j160 : Int) : Option ((Int × zH) ⊕ (zH)) :=
  ((zobj x155.2 p9 9).bind fun _ => X8_address x155.2 p9 v157 j160).bind fun x161 =>
  ((zobj x161.2 p9 9).bind fun _ => X8_thrown x161.2 p9).bind fun x162 =>
  if x162 = x155.1 then
    if x155.1 = 0 then
      (zaJ x161.2 p10 0).bind fun v164 =>
      if (zcmp v164 ((Int64.ofInt x161.1))) = 0 then
        (zchk (s12.1 + 5)).bind fun v165 =>
        some (Sum.inl (v165, x161.2))
      else
        none
    else
      (zchk (s12.1 + 5)).bind fun v163 =>
      some (Sum.inl (v163, x161.2))
  else
    none
def L_law_j1156 (xs : Nat → Int32) (L : Nat) (p8 : Option Nat) (p9 : Option Nat) (p10 : Option Nat) (s12 : Int × zH) (v151 : Int) (j154 : Int) : Option ((Int × zH) ⊕ (zH)) :=
  (L_address s12.2 p8 v151 j154 p10).bind fun x155 =>
  (zchk (s12.1 + 1)).bind fun v156 =>
  (zsc xs L v156).bind fun v157 =>
  (zchk (s12.1 + 2)).bind fun v158 =>
  (zsc xs L v158).bind fun v159 =>
  if v159 = 0 then
    L_law_j1183 p9 p10 s12 x155 v157 0
  else
    L_law_j1183 p9 p10 s12 x155 v157 1
def L_law_k14 (xs : Nat → Int32) (L : Nat) (p8 : Option Nat) (p9 : Option Nat) (p10 : Option Nat) (s12 : Int × zH) : Option ((Int × zH) ⊕ (zH)) :=
  (zchk (s12.1 + 1)).bind fun v150 =>
  (zsc xs L v150).bind fun v151 =>
  (zchk (s12.1 + 2)).bind fun v152 =>
  (zsc xs L v152).bind fun v153 =>
  if v153 = 0 then
    L_law_j1156 xs L p8 p9 p10 s12 v151 0
  else
    L_law_j1156 xs L p8 p9 p10 s12 v151 1
def L_law_k13 (xs : Nat → Int32) (L : Nat) (p8 : Option Nat) (p9 : Option Nat) (p10 : Option Nat) (s12 : Int × zH) : Option ((Int × zH) ⊕ (zH)) :=
  (zchk (s12.1 + 1)).bind fun v166 =>
  (zsc xs L v166).bind fun v167 =>
  (L_day s12.2 p8 v167 p10).bind fun x168 =>
  (zchk (s12.1 + 1)).bind fun v169 =>
  (zsc xs L v169).bind fun v170 =>
  ((zobj x168.2 p9 9).bind fun _ => X8_day x168.2 p9 v170).bind fun x171 =>
  ((zobj x171.2 p9 9).bind fun _ => X8_thrown x171.2 p9).bind fun x172 =>
  if x172 = x168.1 then
    if x168.1 = 0 then
      (zaJ x171.2 p10 0).bind fun v174 =>
      if (zcmp v174 ((Int64.ofInt x171.1))) = 0 then
        (zchk (s12.1 + 5)).bind fun v175 =>
        some (Sum.inl (v175, x171.2))
      else
        none
    else
      (zchk (s12.1 + 5)).bind fun v173 =>
      some (Sum.inl (v173, x171.2))
  else
    none
def L_law_k12 (xs : Nat → Int32) (L : Nat) (p8 : Option Nat) (p9 : Option Nat) (p10 : Option Nat) (s12 : Int × zH) : Option ((Int × zH) ⊕ (zH)) :=
  (zchk (s12.1 + 1)).bind fun v176 =>
  (zsc xs L v176).bind fun v177 =>
  (zchk (s12.1 + 2)).bind fun v178 =>
  (zsc xs L v178).bind fun v179 =>
  (L_join s12.2 p8 v177 v179 p10).bind fun x180 =>
  (zchk (s12.1 + 1)).bind fun v181 =>
  (zsc xs L v181).bind fun v182 =>
  (zchk (s12.1 + 2)).bind fun v183 =>
  (zsc xs L v183).bind fun v184 =>
  ((zobj x180.2 p9 9).bind fun _ => X8_join x180.2 p9 v182 v184).bind fun x185 =>
  ((zobj x185.2 p9 9).bind fun _ => X8_thrown x185.2 p9).bind fun x186 =>
  if x186 = x180.1 then
    if x180.1 = 0 then
      (zaJ x185.2 p10 0).bind fun v188 =>
      if (zcmp v188 ((Int64.ofInt x185.1))) = 0 then
        (zchk (s12.1 + 5)).bind fun v189 =>
        some (Sum.inl (v189, x185.2))
      else
        none
    else
      (zchk (s12.1 + 5)).bind fun v187 =>
      some (Sum.inl (v187, x185.2))
  else
    none
def L_law_k11 (xs : Nat → Int32) (L : Nat) (p8 : Option Nat) (p9 : Option Nat) (p10 : Option Nat) (s12 : Int × zH) : Option ((Int × zH) ⊕ (zH)) :=
  (zchk (s12.1 + 1)).bind fun v190 =>
  (zsc xs L v190).bind fun v191 =>
  (L_renumber s12.2 p8 v191 p10).bind fun x192 =>
  (zchk (s12.1 + 1)).bind fun v193 =>
  (zsc xs L v193).bind fun v194 =>
  ((zobj x192.2 p9 9).bind fun _ => X8_renumber x192.2 p9 v194).bind fun x195 =>
  ((zobj x195.2 p9 9).bind fun _ => X8_thrown x195.2 p9).bind fun x196 =>
  if x196 = x192.1 then
    if x192.1 = 0 then
      (zaJ x195.2 p10 0).bind fun v198 =>
      if (zcmp v198 ((Int64.ofInt x195.1))) = 0 then
        (zchk (s12.1 + 5)).bind fun v199 =>
        some (Sum.inl (v199, x195.2))
      else
        none
    else
      (zchk (s12.1 + 5)).bind fun v197 =>
      some (Sum.inl (v197, x195.2))
  else
    none
def L_law_k10 (xs : Nat → Int32) (L : Nat) (p8 : Option Nat) (p9 : Option Nat) (p10 : Option Nat) (s12 : Int × zH) : Option ((Int × zH) ⊕ (zH)) :=
  (zchk (s12.1 + 1)).bind fun v200 =>
  (zsc xs L v200).bind fun v201 =>
  (L_remove s12.2 p8 v201 p10).bind fun x202 =>
  (zchk (s12.1 + 1)).bind fun v203 =>
  (zsc xs L v203).bind fun v204 =>
  ((zobj x202.2 p9 9).bind fun _ => X8_remove x202.2 p9 v204).bind fun x205 =>
  ((zobj x205.2 p9 9).bind fun _ => X8_thrown x205.2 p9).bind fun x206 =>
  if x206 = x202.1 then
    if x202.1 = 0 then
      (zaJ x205.2 p10 0).bind fun v208 =>
      if (zcmp v208 ((Int64.ofInt x205.1))) = 0 then
        (zchk (s12.1 + 5)).bind fun v209 =>
        some (Sum.inl (v209, x205.2))
      else
        none
    else
      (zchk (s12.1 + 5)).bind fun v207 =>
      some (Sum.inl (v207, x205.2))
  else
    none
def L_law_k9 (xs : Nat → Int32) (L : Nat) (p8 : Option Nat) (p9 : Option Nat) (p10 : Option Nat) (s12 : Int × zH) : Option ((Int × zH) ⊕ (zH)) :=
  (zchk (s12.1 + 1)).bind fun v210 =>
  (zsc xs L v210).bind fun v211 =>
  (zchk (s12.1 + 2)).bind fun v212 =>
  (zsc xs L v212).bind fun v213 =>
  (L_merge s12.2 p8 v211 v213 p10).bind fun x214 =>
  (zchk (s12.1 + 1)).bind fun v215 =>
  (zsc xs L v215).bind fun v216 =>
  (zchk (s12.1 + 2)).bind fun v217 =>
  (zsc xs L v217).bind fun v218 =>
  ((zobj x214.2 p9 9).bind fun _ => X8_merge x214.2 p9 v216 v218).bind fun x219 =>
  ((zobj x219.2 p9 9).bind fun _ => X8_thrown x219.2 p9).bind fun x220 =>
  if x220 = x214.1 then
    if x214.1 = 0 then
      (zaJ x219.2 p10 0).bind fun v222 =>
      if (zcmp v222 ((Int64.ofInt x219.1))) = 0 then
        (zchk (s12.1 + 5)).bind fun v223 =>
        some (Sum.inl (v223, x219.2))
      else
        none
    else
      (zchk (s12.1 + 5)).bind fun v221 =>
      some (Sum.inl (v221, x219.2))
  else
    none
def L_law_k8 (xs : Nat → Int32) (L : Nat) (p8 : Option Nat) (p9 : Option Nat) (p10 : Option Nat) (s12 : Int × zH) : Option ((Int × zH) ⊕ (zH)) :=
  (zchk (s12.1 + 1)).bind fun v224 =>
  (zsc xs L v224).bind fun v225 =>
  (zchk (s12.1 + 2)).bind fun v226 =>
  (zsc xs L v226).bind fun v227 =>
  (zchk (s12.1 + 3)).bind fun v228 =>
  (zsc xs L v228).bind fun v229 =>
  (zchk (s12.1 + 4)).bind fun v230 =>
  (zsc xs L v230).bind fun v231 =>
  (L_corner s12.2 p8 v225 v227 v229 ((v231 % 65536)) p10).bind fun x232 =>
  (zchk (s12.1 + 1)).bind fun v233 =>
  (zsc xs L v233).bind fun v234 =>
  (zchk (s12.1 + 2)).bind fun v235 =>
  (zsc xs L v235).bind fun v236 =>
  (zchk (s12.1 + 3)).bind fun v237 =>
  (zsc xs L v237).bind fun v238 =>
  (zchk (s12.1 + 4)).bind fun v239 =>
  (zsc xs L v239).bind fun v240 =>
  ((zobj x232.2 p9 9).bind fun _ => X8_corner x232.2 p9 v234 v236 v238 ((v240 % 65536))).bind fun x241 =>
  ((zobj x241.2 p9 9).bind fun _ => X8_thrown x241.2 p9).bind fun x242 =>
  if x242 = x232.1 then
    if x232.1 = 0 then
      (zaJ x241.2 p10 0).bind fun v244 =>
      if (zcmp v244 ((Int64.ofInt x241.1))) = 0 then
        (zchk (s12.1 + 5)).bind fun v245 =>
        some (Sum.inl (v245, x241.2))
      else
        none
    else
      (zchk (s12.1 + 5)).bind fun v243 =>
      some (Sum.inl (v243, x241.2))
  else
    none
def L_law_k7 (xs : Nat → Int32) (L : Nat) (p8 : Option Nat) (p9 : Option Nat) (p10 : Option Nat) (s12 : Int × zH) : Option ((Int × zH) ⊕ (zH)) :=
  (zchk (s12.1 + 1)).bind fun v246 =>
  (zsc xs L v246).bind fun v247 =>
  (zchk (s12.1 + 2)).bind fun v248 =>
  (zsc xs L v248).bind fun v249 =>
  (zchk (s12.1 + 3)).bind fun v250 =>
  (zsc xs L v250).bind fun v251 =>
  (L_door s12.2 p8 v247 v249 ((v251 % 65536)) p10).bind fun x252 =>
  (zchk (s12.1 + 1)).bind fun v253 =>
  (zsc xs L v253).bind fun v254 =>
  (zchk (s12.1 + 2)).bind fun v255 =>
  (zsc xs L v255).bind fun v256 =>
  (zchk (s12.1 + 3)).bind fun v257 =>
  (zsc xs L v257).bind fun v258 =>
  ((zobj x252.2 p9 9).bind fun _ => X8_door x252.2 p9 v254 v256 ((v258 % 65536))).bind fun x259 =>
  ((zobj x259.2 p9 9).bind fun _ => X8_thrown x259.2 p9).bind fun x260 =>
  if x260 = x252.1 then
    if x252.1 = 0 then
      (zaJ x259.2 p10 0).bind fun v262 =>
      if (zcmp v262 ((Int64.ofInt x259.1))) = 0 then
        (zchk (s12.1 + 5)).bind fun v263 =>
        some (Sum.inl (v263, x259.2))
      else
        none
    else
      (zchk (s12.1 + 5)).bind fun v261 =>
      some (Sum.inl (v261, x259.2))
  else
    none
def L_law_j619 (p9 : Option Nat) (p10 : Option Nat) (s12 : Int × zH) (x271 : (Int × zH)) (v273 : Int) (v275 : Int) (j278 : Int) : Option ((Int × zH) ⊕ (zH)) :=
  ((zobj x271.2 p9 9).bind fun _ => X8_way x271.2 p9 v273 ((v275 % 65536)) j278).bind fun x279 =>
  ((zobj x279.2 p9 9).bind fun _ => X8_thrown x279.2 p9).bind fun x280 =>
  if x280 = x271.1 then
    if x271.1 = 0 then
      (zaJ x279.2 p10 0).bind fun v282 =>
      if (zcmp v282 ((Int64.ofInt x279.1))) = 0 then
        (zchk (s12.1 + 5)).bind fun v283 =>
        some (Sum.inl (v283, x279.2))
      else
        none
    else
      (zchk (s12.1 + 5)).bind fun v281 =>
      some (Sum.inl (v281, x279.2))
  else
    none
def L_law_j585 (xs : Nat → Int32) (L : Nat) (p8 : Option Nat) (p9 : Option Nat) (p10 : Option Nat) (s12 : Int × zH) (v265 : Int) (v267 : Int) (j270 : Int) : Option ((Int × zH) ⊕ (zH)) :=
  (L_way s12.2 p8 v265 ((v267 % 65536)) j270 p10).bind fun x271 =>
  (zchk (s12.1 + 1)).bind fun v272 =>
  (zsc xs L v272).bind fun v273 =>
  (zchk (s12.1 + 2)).bind fun v274 =>
  (zsc xs L v274).bind fun v275 =>
  (zchk (s12.1 + 3)).bind fun v276 =>
  (zsc xs L v276).bind fun v277 =>
  if v277 = 0 then
    L_law_j619 p9 p10 s12 x271 v273 v275 0
  else
    L_law_j619 p9 p10 s12 x271 v273 v275 1
def L_law_k6 (xs : Nat → Int32) (L : Nat) (p8 : Option Nat) (p9 : Option Nat) (p10 : Option Nat) (s12 : Int × zH) : Option ((Int × zH) ⊕ (zH)) :=
  (zchk (s12.1 + 1)).bind fun v264 =>
  (zsc xs L v264).bind fun v265 =>
  (zchk (s12.1 + 2)).bind fun v266 =>
  (zsc xs L v266).bind fun v267 =>
  (zchk (s12.1 + 3)).bind fun v268 =>
  (zsc xs L v268).bind fun v269 =>
  if v269 = 0 then
    L_law_j585 xs L p8 p9 p10 s12 v265 v267 0
  else
    L_law_j585 xs L p8 p9 p10 s12 v265 v267 1
def L_law_j515 (xs : Nat → Int32) (L : Nat) (p9 : Option Nat) (p10 : Option Nat) (s12 : Int × zH) (x291 : (Int × zH)) (v293 : Int) (j296 : Int) : Option ((Int × zH) ⊕ (zH)) :=
  (zchk (s12.1 + 3)).bind fun v297 =>
  (zsc xs L v297).bind fun v298 =>
  ((zobj x291.2 p9 9).bind fun _ => X8_letter x291.2 p9 v293 j296 v298).bind fun x299 =>
  ((zobj x299.2 p9 9).bind fun _ => X8_thrown x299.2 p9).bind fun x300 =>
  if x300 = x291.1 then
    if x291.1 = 0 then
      (zaJ x299.2 p10 0).bind fun v302 =>
      if (zcmp v302 ((Int64.ofInt x299.1))) = 0 then
        (zchk (s12.1 + 5)).bind fun v303 =>
        some (Sum.inl (v303, x299.2))
      else
        none
    else
      (zchk (s12.1 + 5)).bind fun v301 =>
      some (Sum.inl (v301, x299.2))
  else
    none
def L_law_j482 (xs : Nat → Int32) (L : Nat) (p8 : Option Nat) (p9 : Option Nat) (p10 : Option Nat) (s12 : Int × zH) (v285 : Int) (j288 : Int) : Option ((Int × zH) ⊕ (zH)) :=
  (zchk (s12.1 + 3)).bind fun v289 =>
  (zsc xs L v289).bind fun v290 =>
  (L_letter s12.2 p8 v285 j288 v290 p10).bind fun x291 =>
  (zchk (s12.1 + 1)).bind fun v292 =>
  (zsc xs L v292).bind fun v293 =>
  (zchk (s12.1 + 2)).bind fun v294 =>
  (zsc xs L v294).bind fun v295 =>
  if v295 = 0 then
    L_law_j515 xs L p9 p10 s12 x291 v293 0
  else
    L_law_j515 xs L p9 p10 s12 x291 v293 1
def L_law_k5 (xs : Nat → Int32) (L : Nat) (p8 : Option Nat) (p9 : Option Nat) (p10 : Option Nat) (s12 : Int × zH) : Option ((Int × zH) ⊕ (zH)) :=
  (zchk (s12.1 + 1)).bind fun v284 =>
  (zsc xs L v284).bind fun v285 =>
  (zchk (s12.1 + 2)).bind fun v286 =>
  (zsc xs L v286).bind fun v287 =>
  if v287 = 0 then
    L_law_j482 xs L p8 p9 p10 s12 v285 0
  else
    L_law_j482 xs L p8 p9 p10 s12 v285 1
def L_law_k4 (xs : Nat → Int32) (L : Nat) (p8 : Option Nat) (p9 : Option Nat) (p10 : Option Nat) (s12 : Int × zH) : Option ((Int × zH) ⊕ (zH)) :=
  (zchk (s12.1 + 1)).bind fun v304 =>
  (zsc xs L v304).bind fun v305 =>
  (L_translate s12.2 p8 v305 p10).bind fun x306 =>
  (zchk (s12.1 + 1)).bind fun v307 =>
  (zsc xs L v307).bind fun v308 =>
  ((zobj x306.2 p9 9).bind fun _ => X8_translate x306.2 p9 v308).bind fun x309 =>
  ((zobj x309.2 p9 9).bind fun _ => X8_thrown x309.2 p9).bind fun x310 =>
  if x310 = x306.1 then
    if x306.1 = 0 then
      (zaJ x309.2 p10 0).bind fun v312 =>
      if (zcmp v312 ((Int64.ofInt x309.1))) = 0 then
        (zchk (s12.1 + 5)).bind fun v313 =>
        some (Sum.inl (v313, x309.2))
      else
        none
    else
      (zchk (s12.1 + 5)).bind fun v311 =>
      some (Sum.inl (v311, x309.2))
  else
    none
def L_law_k3 (xs : Nat → Int32) (L : Nat) (p8 : Option Nat) (p9 : Option Nat) (p10 : Option Nat) (s12 : Int × zH) : Option ((Int × zH) ⊕ (zH)) :=
  (zchk (s12.1 + 1)).bind fun v314 =>
  (zsc xs L v314).bind fun v315 =>
  (L_rename s12.2 p8 v315 p10).bind fun x316 =>
  (zchk (s12.1 + 1)).bind fun v317 =>
  (zsc xs L v317).bind fun v318 =>
  ((zobj x316.2 p9 9).bind fun _ => X8_rename x316.2 p9 v318).bind fun x319 =>
  ((zobj x319.2 p9 9).bind fun _ => X8_thrown x319.2 p9).bind fun x320 =>
  if x320 = x316.1 then
    if x316.1 = 0 then
      (zaJ x319.2 p10 0).bind fun v322 =>
      if (zcmp v322 ((Int64.ofInt x319.1))) = 0 then
        (zchk (s12.1 + 5)).bind fun v323 =>
        some (Sum.inl (v323, x319.2))
      else
        none
    else
      (zchk (s12.1 + 5)).bind fun v321 =>
      some (Sum.inl (v321, x319.2))
  else
    none
def L_law_j313 (p9 : Option Nat) (p10 : Option Nat) (s12 : Int × zH) (x331 : (Int × zH)) (v333 : Int) (v335 : Int) (j338 : Int) : Option ((Int × zH) ⊕ (zH)) :=
  ((zobj x331.2 p9 9).bind fun _ => X8_street x331.2 p9 v333 ((v335 % 65536)) j338).bind fun x339 =>
  ((zobj x339.2 p9 9).bind fun _ => X8_thrown x339.2 p9).bind fun x340 =>
  if x340 = x331.1 then
    if x331.1 = 0 then
      (zaJ x339.2 p10 0).bind fun v342 =>
      if (zcmp v342 ((Int64.ofInt x339.1))) = 0 then
        (zchk (s12.1 + 5)).bind fun v343 =>
        some (Sum.inl (v343, x339.2))
      else
        none
    else
      (zchk (s12.1 + 5)).bind fun v341 =>
      some (Sum.inl (v341, x339.2))
  else
    none
def L_law_j279 (xs : Nat → Int32) (L : Nat) (p8 : Option Nat) (p9 : Option Nat) (p10 : Option Nat) (s12 : Int × zH) (v325 : Int) (v327 : Int) (j330 : Int) : Option ((Int × zH) ⊕ (zH)) :=
  (L_street s12.2 p8 v325 ((v327 % 65536)) j330 p10).bind fun x331 =>
  (zchk (s12.1 + 1)).bind fun v332 =>
  (zsc xs L v332).bind fun v333 =>
  (zchk (s12.1 + 2)).bind fun v334 =>
  (zsc xs L v334).bind fun v335 =>
  (zchk (s12.1 + 3)).bind fun v336 =>
  (zsc xs L v336).bind fun v337 =>
  if v337 = 0 then
    L_law_j313 p9 p10 s12 x331 v333 v335 0
  else
    L_law_j313 p9 p10 s12 x331 v333 v335 1
def L_law_k2 (xs : Nat → Int32) (L : Nat) (p8 : Option Nat) (p9 : Option Nat) (p10 : Option Nat) (s12 : Int × zH) : Option ((Int × zH) ⊕ (zH)) :=
  (zchk (s12.1 + 1)).bind fun v324 =>
  (zsc xs L v324).bind fun v325 =>
  (zchk (s12.1 + 2)).bind fun v326 =>
  (zsc xs L v326).bind fun v327 =>
  (zchk (s12.1 + 3)).bind fun v328 =>
  (zsc xs L v328).bind fun v329 =>
  if v329 = 0 then
    L_law_j279 xs L p8 p9 p10 s12 v325 v327 0
  else
    L_law_j279 xs L p8 p9 p10 s12 v325 v327 1
def L_law_k1 (p8 : Option Nat) (p9 : Option Nat) (s12 : Int × zH) : Option ((Int × zH) ⊕ (zH)) :=
  ((zobj s12.2 p8 8).bind fun _ => X7_wipe s12.2 p8).bind fun x344 =>
  ((zobj x344.2 p9 9).bind fun _ => X8_wipe x344.2 p9).bind fun x345 =>
  if x344.1 = x345.1 then
    (zchk (s12.1 + 5)).bind fun v346 =>
    some (Sum.inl (v346, x345.2))
  else
    none
def L_law_k0 (xs : Nat → Int32) (L : Nat) (p8 : Option Nat) (p9 : Option Nat) (p10 : Option Nat) (s12 : Int × zH) : Option ((Int × zH) ⊕ (zH)) :=
  (zchk (s12.1 + 1)).bind fun v347 =>
  (zsc xs L v347).bind fun v348 =>
  (L_type s12.2 p8 ((v348 % 65536)) p10).bind fun x349 =>
  (zchk (s12.1 + 1)).bind fun v350 =>
  (zsc xs L v350).bind fun v351 =>
  ((zobj x349.2 p9 9).bind fun _ => X8_type x349.2 p9 ((v351 % 65536))).bind fun x352 =>
  ((zobj x352.2 p9 9).bind fun _ => X8_thrown x352.2 p9).bind fun x353 =>
  if x353 = x349.1 then
    if x349.1 = 0 then
      (zaJ x352.2 p10 0).bind fun v355 =>
      if (zcmp v355 ((Int64.ofInt x352.1))) = 0 then
        (zchk (s12.1 + 5)).bind fun v356 =>
        some (Sum.inl (v356, x352.2))
      else
        none
    else
      (zchk (s12.1 + 5)).bind fun v354 =>
      some (Sum.inl (v354, x352.2))
  else
    none
def L_law_b28 (xs : Nat → Int32) (L : Nat) (p7 : Nat) (p8 : Option Nat) (p9 : Option Nat) (p10 : Option Nat) (p11 : Option Nat) (s12 : Int × zH) : Option ((Int × zH) ⊕ (zH)) :=
  (zchk ((L : Int) - 5)).bind fun v14 =>
  if v14 < s12.1 then
    if s12.1 ≤ 3000 then some (Sum.inr s12.2) else none
  else
    (zsc xs L s12.1).bind fun v15 =>
    (zand v15 31).bind fun v16 =>
    if v16 = 0 then
      L_law_k0 xs L p8 p9 p10 s12
    else
      if v16 = 1 then
        L_law_k1 p8 p9 s12
      else
        if v16 = 2 then
          L_law_k2 xs L p8 p9 p10 s12
        else
          if v16 = 3 then
            L_law_k3 xs L p8 p9 p10 s12
          else
            if v16 = 4 then
              L_law_k4 xs L p8 p9 p10 s12
            else
              if v16 = 5 then
                L_law_k5 xs L p8 p9 p10 s12
              else
                if v16 = 6 then
                  L_law_k6 xs L p8 p9 p10 s12
                else
                  if v16 = 7 then
                    L_law_k7 xs L p8 p9 p10 s12
                  else
                    if v16 = 8 then
                      L_law_k8 xs L p8 p9 p10 s12
                    else
                      if v16 = 9 then
                        L_law_k9 xs L p8 p9 p10 s12
                      else
                        if v16 = 10 then
                          L_law_k10 xs L p8 p9 p10 s12
                        else
                          if v16 = 11 then
                            L_law_k11 xs L p8 p9 p10 s12
                          else
                            if v16 = 12 then
                              L_law_k12 xs L p8 p9 p10 s12
                            else
                              if v16 = 13 then
                                L_law_k13 xs L p8 p9 p10 s12
                              else
                                if v16 = 14 then
                                  L_law_k14 xs L p8 p9 p10 s12
                                else
                                  if v16 = 15 then
                                    L_law_k15 xs L p8 p9 p10 s12
                                  else
                                    if v16 = 16 then
                                      L_law_k16 xs L p8 p9 p10 s12
                                    else
                                      if v16 = 17 then
                                        L_law_k17 xs L p8 p9 p10 s12
                                      else
                                        if v16 = 18 then
                                          L_law_k18 xs L p8 p9 p10 s12
                                        else
                                          if v16 = 19 then
                                            L_law_k19 xs L p8 p9 p10 s12
                                          else
                                            if v16 = 20 then
                                              L_law_k20 p8 p9 s12
                                            else
                                              if v16 = 21 then
                                                L_law_k21 xs L p8 p9 p10 s12
                                              else
                                                if v16 = 22 then
                                                  L_law_k22 xs L p8 p9 p10 s12
                                                else
                                                  if v16 = 23 then
                                                    L_law_k23 xs L p8 p9 p10 s12
                                                  else
                                                    if v16 = 24 then
                                                      L_law_k24 xs L p8 p9 p10 s12
                                                    else
                                                      if v16 = 25 then
                                                        L_law_k25 p8 p9 s12
                                                      else
                                                        if v16 = 26 then
                                                          L_law_k26 p8 p9 p11 s12
                                                        else
                                                          if v16 = 27 then
                                                            L_law_k27 p8 p9 p11 s12
                                                          else
                                                            if v16 = 28 then
                                                              L_law_k28 p8 p9 s12
                                                            else
                                                              if v16 = 29 then
                                                                L_law_k29 p8 p9 s12
                                                              else
                                                                (zchk (s12.1 + 5)).bind fun v17 =>
                                                                some (Sum.inl (v17, s12.2))
set_option maxRecDepth 40000 in
set_option maxHeartbeats 4000000 in
theorem cL_k29 (K : zK) (b L : Nat) (xs : Nat → Int32) (X : zX K cL_law RL zALL room_1) (hnL : K.2.2.2.2.2.2.2.2.2.2.2.2.2.2.1 = 9) (hscr : zscr K b L xs) (hL9 : L ≤ 2560) (p8 : Option Nat) (p9 : Option Nat) (p10 : Option Nat) (p11 : Option Nat) (s12 : Int × zH) (hi0 : 0 ≤ s12.1) (hi1 : s12.1 < (L : Int)) : zS (L_law_k29 p8 p9 s12) (zLG (fun s12 : Int × zH => zJ K (40 + (s12.1).toNat * 8) (3000 + (s12.1).toNat * 64) 28 [(0, zA b), (1, zR p8), (2, zR p9), (3, zR p10), (4, zR p11), (5, zI s12.1)] [] s12.2) (fun e13 : zH => zJ K 24040 195000 1960 [] [] e13)) (zJ K (40 + (s12.1).toNat * 8) (3000 + (s12.1).toNat * 64) 1941 [(0, zA b), (1, zR p8), (2, zR p9), (3, zR p10), (4, zR p11), (5, zI s12.1)] [] s12.2) := by
  have hN : ∀ i, i < 9 → i < K.2.2.2.2.2.2.2.2.2.2.2.2.2.2.1 := by rw [hnL]; exact fun _ h => h
  unfold L_law_k29
  refine z_aload_n (pc := 1941) (i := 1) 1 X dL_law_1941 rfl rfl ?_
  refine z_callV_i (pc := 1942) (cells := (40 + (s12.1).toNat * 8)) (slots := (3000 + (s12.1).toNat * 64)) (C := RX7) (T := TX7) (N := 9) (ci := 8) [] X dL_law_1942 (c_X7_isTrue s12.2 p8) kw_L_219 rfl rfl ⟨rfl, rfl, ⟨by decide, by decide⟩, ⟨by show _ ≤ 603072; omega, by show _ ≤ 7190634; omega⟩⟩ (Nat.le_of_ble_eq_true rfl) rfl (fun x18 => ?_)
  refine z_aload_n (pc := 1945) (i := 2) 2 X dL_law_1945 rfl rfl ?_
  refine z_callV_i (pc := 1946) (cells := (40 + (s12.1).toNat * 8)) (slots := (3000 + (s12.1).toNat * 64)) (C := RX8) (T := TX8) (N := 30) (ci := 9) [] X dL_law_1946 (c_X8_isTrue x18.2 p9) kw_L_223 rfl rfl ⟨rfl, rfl, ⟨by decide, by decide⟩, ⟨by show _ ≤ 603072; omega, by show _ ≤ 7190634; omega⟩⟩ (Nat.le_of_ble_eq_true rfl) rfl (fun x19 => ?_)
  refine z_icmp_eq (pc := 1949) 1954 X dL_law_1949 (by decide) (fun _ => ?_) (fun _ => ?_)
  · refine z_iinc (pc := 1954) (i := 5) (n := 5) (lv' := fun v20 => [(5, zI v20), (0, zA b), (1, zR p8), (2, zR p9), (3, zR p10), (4, zR p11)]) 5 X dL_law_1954 rfl (hN _ (by decide)) (fun _ => rfl) (fun v20 hR9 hv9 => ?_)
    refine z_goto (pc := 1957) 28 X dL_law_1957 (by decide) ?_
    refine z_widen (c1 := 40 + (v20).toNat * 8) (s1 := 3000 + (v20).toNat * 64) (by omega) (by omega) ?_
    refine z_pick [1, 2, 3, 4, 5, 0] (lv' := [(0, zA b), (1, zR p8), (2, zR p9), (3, zR p10), (4, zR p11), (5, zI v20)]) rfl ?_
    exact z_back
  · exact z_none
set_option maxRecDepth 40000 in
set_option maxHeartbeats 4000000 in
theorem cL_k28 (K : zK) (b L : Nat) (xs : Nat → Int32) (X : zX K cL_law RL zALL room_1) (hnL : K.2.2.2.2.2.2.2.2.2.2.2.2.2.2.1 = 9) (hscr : zscr K b L xs) (hL9 : L ≤ 2560) (p8 : Option Nat) (p9 : Option Nat) (p10 : Option Nat) (p11 : Option Nat) (s12 : Int × zH) (hi0 : 0 ≤ s12.1) (hi1 : s12.1 < (L : Int)) : zS (L_law_k28 p8 p9 s12) (zLG (fun s12 : Int × zH => zJ K (40 + (s12.1).toNat * 8) (3000 + (s12.1).toNat * 64) 28 [(0, zA b), (1, zR p8), (2, zR p9), (3, zR p10), (4, zR p11), (5, zI s12.1)] [] s12.2) (fun e13 : zH => zJ K 24040 195000 1960 [] [] e13)) (zJ K (40 + (s12.1).toNat * 8) (3000 + (s12.1).toNat * 64) 1927 [(0, zA b), (1, zR p8), (2, zR p9), (3, zR p10), (4, zR p11), (5, zI s12.1)] [] s12.2) := by
  have hN : ∀ i, i < 9 → i < K.2.2.2.2.2.2.2.2.2.2.2.2.2.2.1 := by rw [hnL]; exact fun _ h => h
  unfold L_law_k28
  refine z_aload_n (pc := 1927) (i := 1) 1 X dL_law_1927 rfl rfl ?_
  refine z_callV_l (pc := 1928) (cells := (40 + (s12.1).toNat * 8)) (slots := (3000 + (s12.1).toNat * 64)) (C := RX7) (T := TX7) (N := 9) (ci := 8) [] X dL_law_1928 (c_X7_checksum s12.2 p8) kw_L_214 rfl rfl ⟨rfl, rfl, ⟨by decide, by decide⟩, ⟨by show _ ≤ 603072; omega, by show _ ≤ 7190634; omega⟩⟩ (Nat.le_of_ble_eq_true rfl) rfl (fun x21 => ?_)
  refine z_aload_n (pc := 1931) (i := 2) 2 X dL_law_1931 rfl rfl ?_
  refine z_callV_l (pc := 1932) (cells := (40 + (s12.1).toNat * 8)) (slots := (3000 + (s12.1).toNat * 64)) (C := RX8) (T := TX8) (N := 30) (ci := 9) [] X dL_law_1932 (c_X8_checksum s12.2 p9) kw_L_218 rfl rfl ⟨rfl, rfl, ⟨by decide, by decide⟩, ⟨by show _ ≤ 603072; omega, by show _ ≤ 7190634; omega⟩⟩ (Nat.le_of_ble_eq_true rfl) rfl (fun x22 => ?_)
  refine z_lcmp (pc := 1935) X dL_law_1935 ?_
  refine z_if_eq (pc := 1936) 1954 X dL_law_1936 (by decide) (fun _ => ?_) (fun _ => ?_)
  · refine z_iinc (pc := 1954) (i := 5) (n := 5) (lv' := fun v23 => [(5, zI v23), (0, zA b), (1, zR p8), (2, zR p9), (3, zR p10), (4, zR p11)]) 5 X dL_law_1954 rfl (hN _ (by decide)) (fun _ => rfl) (fun v23 hR9 hv9 => ?_)
    refine z_goto (pc := 1957) 28 X dL_law_1957 (by decide) ?_
    refine z_widen (c1 := 40 + (v23).toNat * 8) (s1 := 3000 + (v23).toNat * 64) (by omega) (by omega) ?_
    refine z_pick [1, 2, 3, 4, 5, 0] (lv' := [(0, zA b), (1, zR p8), (2, zR p9), (3, zR p10), (4, zR p11), (5, zI v23)]) rfl ?_
    exact z_back
  · exact z_none
set_option maxRecDepth 40000 in
set_option maxHeartbeats 4000000 in
theorem cL_k27 (K : zK) (b L : Nat) (xs : Nat → Int32) (X : zX K cL_law RL zALL room_1) (hnL : K.2.2.2.2.2.2.2.2.2.2.2.2.2.2.1 = 9) (hscr : zscr K b L xs) (hL9 : L ≤ 2560) (p8 : Option Nat) (p9 : Option Nat) (p10 : Option Nat) (p11 : Option Nat) (s12 : Int × zH) (hi0 : 0 ≤ s12.1) (hi1 : s12.1 < (L : Int)) : zS (L_law_k27 p8 p9 p11 s12) (zLG (fun s12 : Int × zH => zJ K (40 + (s12.1).toNat * 8) (3000 + (s12.1).toNat * 64) 28 [(0, zA b), (1, zR p8), (2, zR p9), (3, zR p10), (4, zR p11), (5, zI s12.1)] [] s12.2) (fun e13 : zH => zJ K 24040 195000 1960 [] [] e13)) (zJ K (40 + (s12.1).toNat * 8) (3000 + (s12.1).toNat * 64) 1862 [(0, zA b), (1, zR p8), (2, zR p9), (3, zR p10), (4, zR p11), (5, zI s12.1)] [] s12.2) := by
  have hN : ∀ i, i < 9 → i < K.2.2.2.2.2.2.2.2.2.2.2.2.2.2.1 := by rw [hnL]; exact fun _ h => h
  unfold L_law_k27
  refine z_aload_n (pc := 1862) (i := 1) 1 X dL_law_1862 rfl rfl ?_
  refine z_aload (pc := 1863) (i := 4) 4 X dL_law_1863 rfl ?_
  refine z_callW_i (pc := 1865) (cells := (40 + (s12.1).toNat * 8)) (slots := (3000 + (s12.1).toNat * 64)) [zR p8, zR p11] X dL_law_1865 (c_L_meanDoors s12.2 p8 p11) kw_L_211 rfl ⟨rfl, rfl, ⟨by decide, by decide⟩, ⟨by show _ ≤ 603072; omega, by show _ ≤ 7190634; omega⟩⟩ (Nat.le_of_ble_eq_true rfl) rfl (fun x24 => ?_)
  refine z_istore (pc := 1868) (i := 6) (lv' := [(6, zI x24.1), (0, zA b), (1, zR p8), (2, zR p9), (3, zR p10), (4, zR p11), (5, zI s12.1)]) X dL_law_1868 (hN _ (by decide)) rfl ?_
  refine z_aload_n (pc := 1870) (i := 2) 3 X dL_law_1870 rfl rfl ?_
  refine z_callV_d (pc := 1871) (cells := (40 + (s12.1).toNat * 8 + 1)) (slots := (3000 + (s12.1).toNat * 64 + 6)) (C := RX8) (T := TX8) (N := 30) (ci := 9) [] X dL_law_1871 (c_X8_meanDoors x24.2 p9) kw_L_213 rfl rfl ⟨rfl, rfl, ⟨by decide, by decide⟩, ⟨by show _ ≤ 603072; omega, by show _ ≤ 7190634; omega⟩⟩ (Nat.le_of_ble_eq_true rfl) rfl (fun x25 => ?_)
  refine z_dstore (pc := 1874) (i := 7) (lv' := [(7, zD x25.1), (6, zI x24.1), (0, zA b), (1, zR p8), (2, zR p9), (3, zR p10), (4, zR p11), (5, zI s12.1)]) X dL_law_1874 (hN _ (by decide)) rfl ?_
  refine z_aload_n (pc := 1876) (i := 2) 4 X dL_law_1876 rfl rfl ?_
  refine z_callV_i (pc := 1877) (cells := (40 + (s12.1).toNat * 8 + 1)) (slots := (3000 + (s12.1).toNat * 64 + 6)) (C := RX8) (T := TX8) (N := 30) (ci := 9) [] X dL_law_1877 (c_X8_thrown x25.2 p9) kw_L_118 rfl rfl ⟨rfl, rfl, ⟨by decide, by decide⟩, ⟨by show _ ≤ 603072; omega, by show _ ≤ 7190634; omega⟩⟩ (Nat.le_of_ble_eq_true rfl) rfl (fun x26 => ?_)
  refine z_iload (pc := 1880) (i := 6) 1 X dL_law_1880 rfl ?_
  refine z_icmp_eq (pc := 1882) 1887 X dL_law_1882 (by decide) (fun _ => ?_) (fun _ => ?_)
  · refine z_iload (pc := 1887) (i := 6) 1 X dL_law_1887 rfl ?_
    refine z_if_ne (pc := 1889) 1924 X dL_law_1889 (by decide) (fun _ => ?_) (fun _ => ?_)
    · refine z_goto (pc := 1924) 1954 X dL_law_1924 (by decide) ?_
      refine z_iinc (pc := 1954) (i := 5) (n := 5) (lv' := fun v27 => [(5, zI v27), (7, zD x25.1), (6, zI x24.1), (0, zA b), (1, zR p8), (2, zR p9), (3, zR p10), (4, zR p11)]) 7 X dL_law_1954 rfl (hN _ (by decide)) (fun _ => rfl) (fun v27 hR9 hv9 => ?_)
      refine z_goto (pc := 1957) 28 X dL_law_1957 (by decide) ?_
      refine z_widen (c1 := 40 + (v27).toNat * 8) (s1 := 3000 + (v27).toNat * 64) (by omega) (by omega) ?_
      refine z_pick [3, 4, 5, 6, 7, 0] (lv' := [(0, zA b), (1, zR p8), (2, zR p9), (3, zR p10), (4, zR p11), (5, zI v27)]) rfl ?_
      exact z_back
    · refine z_aload (pc := 1892) (i := 4) 6 X dL_law_1892 rfl ?_
      refine z_iconst (pc := 1894) (z := 0) X dL_law_1894 rfl ⟨by decide, by decide⟩ ?_
      refine z_daload (pc := 1895) X dL_law_1895 (fun v28 => ?_)
      refine z_dload (pc := 1896) (i := 7) 0 X dL_law_1896 rfl ?_
      refine z_dcmp (pc := 1898) X dL_law_1898 ?_
      refine z_if_eq (pc := 1899) 1924 X dL_law_1899 (by decide) (fun _ => ?_) (fun _ => ?_)
      · refine z_goto (pc := 1924) 1954 X dL_law_1924 (by decide) ?_
        refine z_iinc (pc := 1954) (i := 5) (n := 5) (lv' := fun v29 => [(5, zI v29), (7, zD x25.1), (6, zI x24.1), (0, zA b), (1, zR p8), (2, zR p9), (3, zR p10), (4, zR p11)]) 7 X dL_law_1954 rfl (hN _ (by decide)) (fun _ => rfl) (fun v29 hR9 hv9 => ?_)
        refine z_goto (pc := 1957) 28 X dL_law_1957 (by decide) ?_
        refine z_widen (c1 := 40 + (v29).toNat * 8) (s1 := 3000 + (v29).toNat * 64) (by omega) (by omega) ?_
        refine z_pick [3, 4, 5, 6, 7, 0] (lv' := [(0, zA b), (1, zR p8), (2, zR p9), (3, zR p10), (4, zR p11), (5, zI v29)]) rfl ?_
        exact z_back
      · refine z_aload (pc := 1902) (i := 4) 6 X dL_law_1902 rfl ?_
        refine z_iconst (pc := 1904) (z := 0) X dL_law_1904 rfl ⟨by decide, by decide⟩ ?_
        refine z_daload (pc := 1905) X dL_law_1905 (fun v30 => ?_)
        refine z_aload (pc := 1906) (i := 4) 6 X dL_law_1906 rfl ?_
        refine z_iconst (pc := 1908) (z := 0) X dL_law_1908 rfl ⟨by decide, by decide⟩ ?_
        refine z_daload (pc := 1909) X dL_law_1909 (fun v31 => ?_)
        refine z_dcmp (pc := 1910) X dL_law_1910 ?_
        refine z_if_eq (pc := 1911) 1922 X dL_law_1911 (by decide) (fun _ => ?_) (fun _ => ?_)
        · exact z_none
        · refine z_dload (pc := 1914) (i := 7) 0 X dL_law_1914 rfl ?_
          refine z_dload (pc := 1916) (i := 7) 0 X dL_law_1916 rfl ?_
          refine z_dcmp (pc := 1918) X dL_law_1918 ?_
          refine z_if_ne (pc := 1919) 1924 X dL_law_1919 (by decide) (fun _ => ?_) (fun _ => ?_)
          · refine z_goto (pc := 1924) 1954 X dL_law_1924 (by decide) ?_
            refine z_iinc (pc := 1954) (i := 5) (n := 5) (lv' := fun v32 => [(5, zI v32), (7, zD x25.1), (6, zI x24.1), (0, zA b), (1, zR p8), (2, zR p9), (3, zR p10), (4, zR p11)]) 7 X dL_law_1954 rfl (hN _ (by decide)) (fun _ => rfl) (fun v32 hR9 hv9 => ?_)
            refine z_goto (pc := 1957) 28 X dL_law_1957 (by decide) ?_
            refine z_widen (c1 := 40 + (v32).toNat * 8) (s1 := 3000 + (v32).toNat * 64) (by omega) (by omega) ?_
            refine z_pick [3, 4, 5, 6, 7, 0] (lv' := [(0, zA b), (1, zR p8), (2, zR p9), (3, zR p10), (4, zR p11), (5, zI v32)]) rfl ?_
            exact z_back
          · exact z_none
  · exact z_none
set_option maxRecDepth 40000 in
set_option maxHeartbeats 4000000 in
theorem cL_k26 (K : zK) (b L : Nat) (xs : Nat → Int32) (X : zX K cL_law RL zALL room_1) (hnL : K.2.2.2.2.2.2.2.2.2.2.2.2.2.2.1 = 9) (hscr : zscr K b L xs) (hL9 : L ≤ 2560) (p8 : Option Nat) (p9 : Option Nat) (p10 : Option Nat) (p11 : Option Nat) (s12 : Int × zH) (hi0 : 0 ≤ s12.1) (hi1 : s12.1 < (L : Int)) : zS (L_law_k26 p8 p9 p11 s12) (zLG (fun s12 : Int × zH => zJ K (40 + (s12.1).toNat * 8) (3000 + (s12.1).toNat * 64) 28 [(0, zA b), (1, zR p8), (2, zR p9), (3, zR p10), (4, zR p11), (5, zI s12.1)] [] s12.2) (fun e13 : zH => zJ K 24040 195000 1960 [] [] e13)) (zJ K (40 + (s12.1).toNat * 8) (3000 + (s12.1).toNat * 64) 1796 [(0, zA b), (1, zR p8), (2, zR p9), (3, zR p10), (4, zR p11), (5, zI s12.1)] [] s12.2) := by
  have hN : ∀ i, i < 9 → i < K.2.2.2.2.2.2.2.2.2.2.2.2.2.2.1 := by rw [hnL]; exact fun _ h => h
  unfold L_law_k26
  refine z_aload_n (pc := 1796) (i := 1) 1 X dL_law_1796 rfl rfl ?_
  refine z_aload (pc := 1797) (i := 4) 4 X dL_law_1797 rfl ?_
  refine z_callW_i (pc := 1799) (cells := (40 + (s12.1).toNat * 8)) (slots := (3000 + (s12.1).toNat * 64)) [zR p8, zR p11] X dL_law_1799 (c_L_goneShare s12.2 p8 p11) kw_L_207 rfl ⟨rfl, rfl, ⟨by decide, by decide⟩, ⟨by show _ ≤ 603072; omega, by show _ ≤ 7190634; omega⟩⟩ (Nat.le_of_ble_eq_true rfl) rfl (fun x33 => ?_)
  refine z_istore (pc := 1802) (i := 6) (lv' := [(6, zI x33.1), (0, zA b), (1, zR p8), (2, zR p9), (3, zR p10), (4, zR p11), (5, zI s12.1)]) X dL_law_1802 (hN _ (by decide)) rfl ?_
  refine z_aload_n (pc := 1804) (i := 2) 3 X dL_law_1804 rfl rfl ?_
  refine z_callV_f (pc := 1805) (cells := (40 + (s12.1).toNat * 8 + 1)) (slots := (3000 + (s12.1).toNat * 64 + 6)) (C := RX8) (T := TX8) (N := 30) (ci := 9) [] X dL_law_1805 (c_X8_goneShare x33.2 p9) kw_L_210 rfl rfl ⟨rfl, rfl, ⟨by decide, by decide⟩, ⟨by show _ ≤ 603072; omega, by show _ ≤ 7190634; omega⟩⟩ (Nat.le_of_ble_eq_true rfl) rfl (fun x34 => ?_)
  refine z_fstore (pc := 1808) (i := 7) (lv' := [(7, zF x34.1), (6, zI x33.1), (0, zA b), (1, zR p8), (2, zR p9), (3, zR p10), (4, zR p11), (5, zI s12.1)]) X dL_law_1808 (hN _ (by decide)) rfl ?_
  refine z_aload_n (pc := 1810) (i := 2) 4 X dL_law_1810 rfl rfl ?_
  refine z_callV_i (pc := 1811) (cells := (40 + (s12.1).toNat * 8 + 1)) (slots := (3000 + (s12.1).toNat * 64 + 6)) (C := RX8) (T := TX8) (N := 30) (ci := 9) [] X dL_law_1811 (c_X8_thrown x34.2 p9) kw_L_118 rfl rfl ⟨rfl, rfl, ⟨by decide, by decide⟩, ⟨by show _ ≤ 603072; omega, by show _ ≤ 7190634; omega⟩⟩ (Nat.le_of_ble_eq_true rfl) rfl (fun x35 => ?_)
  refine z_iload (pc := 1814) (i := 6) 1 X dL_law_1814 rfl ?_
  refine z_icmp_eq (pc := 1816) 1821 X dL_law_1816 (by decide) (fun _ => ?_) (fun _ => ?_)
  · refine z_iload (pc := 1821) (i := 6) 1 X dL_law_1821 rfl ?_
    refine z_if_ne (pc := 1823) 1859 X dL_law_1823 (by decide) (fun _ => ?_) (fun _ => ?_)
    · refine z_goto (pc := 1859) 1954 X dL_law_1859 (by decide) ?_
      refine z_iinc (pc := 1954) (i := 5) (n := 5) (lv' := fun v36 => [(5, zI v36), (7, zF x34.1), (6, zI x33.1), (0, zA b), (1, zR p8), (2, zR p9), (3, zR p10), (4, zR p11)]) 7 X dL_law_1954 rfl (hN _ (by decide)) (fun _ => rfl) (fun v36 hR9 hv9 => ?_)
      refine z_goto (pc := 1957) 28 X dL_law_1957 (by decide) ?_
      refine z_widen (c1 := 40 + (v36).toNat * 8) (s1 := 3000 + (v36).toNat * 64) (by omega) (by omega) ?_
      refine z_pick [3, 4, 5, 6, 7, 0] (lv' := [(0, zA b), (1, zR p8), (2, zR p9), (3, zR p10), (4, zR p11), (5, zI v36)]) rfl ?_
      exact z_back
    · refine z_aload (pc := 1826) (i := 4) 6 X dL_law_1826 rfl ?_
      refine z_iconst (pc := 1828) (z := 0) X dL_law_1828 rfl ⟨by decide, by decide⟩ ?_
      refine z_daload (pc := 1829) X dL_law_1829 (fun v37 => ?_)
      refine z_fload (pc := 1830) (i := 7) 0 X dL_law_1830 rfl ?_
      refine z_f2d (pc := 1832) X dL_law_1832 (fun v38 => ?_)
      refine z_dcmp (pc := 1833) X dL_law_1833 ?_
      refine z_if_eq (pc := 1834) 1859 X dL_law_1834 (by decide) (fun _ => ?_) (fun _ => ?_)
      · refine z_goto (pc := 1859) 1954 X dL_law_1859 (by decide) ?_
        refine z_iinc (pc := 1954) (i := 5) (n := 5) (lv' := fun v39 => [(5, zI v39), (7, zF x34.1), (6, zI x33.1), (0, zA b), (1, zR p8), (2, zR p9), (3, zR p10), (4, zR p11)]) 7 X dL_law_1954 rfl (hN _ (by decide)) (fun _ => rfl) (fun v39 hR9 hv9 => ?_)
        refine z_goto (pc := 1957) 28 X dL_law_1957 (by decide) ?_
        refine z_widen (c1 := 40 + (v39).toNat * 8) (s1 := 3000 + (v39).toNat * 64) (by omega) (by omega) ?_
        refine z_pick [3, 4, 5, 6, 7, 0] (lv' := [(0, zA b), (1, zR p8), (2, zR p9), (3, zR p10), (4, zR p11), (5, zI v39)]) rfl ?_
        exact z_back
      · refine z_aload (pc := 1837) (i := 4) 6 X dL_law_1837 rfl ?_
        refine z_iconst (pc := 1839) (z := 0) X dL_law_1839 rfl ⟨by decide, by decide⟩ ?_
        refine z_daload (pc := 1840) X dL_law_1840 (fun v40 => ?_)
        refine z_aload (pc := 1841) (i := 4) 6 X dL_law_1841 rfl ?_
        refine z_iconst (pc := 1843) (z := 0) X dL_law_1843 rfl ⟨by decide, by decide⟩ ?_
        refine z_daload (pc := 1844) X dL_law_1844 (fun v41 => ?_)
        refine z_dcmp (pc := 1845) X dL_law_1845 ?_
        refine z_if_eq (pc := 1846) 1857 X dL_law_1846 (by decide) (fun _ => ?_) (fun _ => ?_)
        · exact z_none
        · refine z_fload (pc := 1849) (i := 7) 0 X dL_law_1849 rfl ?_
          refine z_fload (pc := 1851) (i := 7) 0 X dL_law_1851 rfl ?_
          refine z_fcmp (pc := 1853) X dL_law_1853 ?_
          refine z_if_ne (pc := 1854) 1859 X dL_law_1854 (by decide) (fun _ => ?_) (fun _ => ?_)
          · refine z_goto (pc := 1859) 1954 X dL_law_1859 (by decide) ?_
            refine z_iinc (pc := 1954) (i := 5) (n := 5) (lv' := fun v42 => [(5, zI v42), (7, zF x34.1), (6, zI x33.1), (0, zA b), (1, zR p8), (2, zR p9), (3, zR p10), (4, zR p11)]) 7 X dL_law_1954 rfl (hN _ (by decide)) (fun _ => rfl) (fun v42 hR9 hv9 => ?_)
            refine z_goto (pc := 1957) 28 X dL_law_1957 (by decide) ?_
            refine z_widen (c1 := 40 + (v42).toNat * 8) (s1 := 3000 + (v42).toNat * 64) (by omega) (by omega) ?_
            refine z_pick [3, 4, 5, 6, 7, 0] (lv' := [(0, zA b), (1, zR p8), (2, zR p9), (3, zR p10), (4, zR p11), (5, zI v42)]) rfl ?_
            exact z_back
          · exact z_none
  · exact z_none
set_option maxRecDepth 40000 in
set_option maxHeartbeats 4000000 in
theorem cL_k25 (K : zK) (b L : Nat) (xs : Nat → Int32) (X : zX K cL_law RL zALL room_1) (hnL : K.2.2.2.2.2.2.2.2.2.2.2.2.2.2.1 = 9) (hscr : zscr K b L xs) (hL9 : L ≤ 2560) (p8 : Option Nat) (p9 : Option Nat) (p10 : Option Nat) (p11 : Option Nat) (s12 : Int × zH) (hi0 : 0 ≤ s12.1) (hi1 : s12.1 < (L : Int)) : zS (L_law_k25 p8 p9 s12) (zLG (fun s12 : Int × zH => zJ K (40 + (s12.1).toNat * 8) (3000 + (s12.1).toNat * 64) 28 [(0, zA b), (1, zR p8), (2, zR p9), (3, zR p10), (4, zR p11), (5, zI s12.1)] [] s12.2) (fun e13 : zH => zJ K 24040 195000 1960 [] [] e13)) (zJ K (40 + (s12.1).toNat * 8) (3000 + (s12.1).toNat * 64) 1783 [(0, zA b), (1, zR p8), (2, zR p9), (3, zR p10), (4, zR p11), (5, zI s12.1)] [] s12.2) := by
  have hN : ∀ i, i < 9 → i < K.2.2.2.2.2.2.2.2.2.2.2.2.2.2.1 := by rw [hnL]; exact fun _ h => h
  unfold L_law_k25
  refine z_aload_n (pc := 1783) (i := 1) 1 X dL_law_1783 rfl rfl ?_
  refine z_callV_i (pc := 1784) (cells := (40 + (s12.1).toNat * 8)) (slots := (3000 + (s12.1).toNat * 64)) (C := RX7) (T := TX7) (N := 9) (ci := 8) [] X dL_law_1784 (c_X7_streets s12.2 p8) kw_L_203 rfl rfl ⟨rfl, rfl, ⟨by decide, by decide⟩, ⟨by show _ ≤ 603072; omega, by show _ ≤ 7190634; omega⟩⟩ (Nat.le_of_ble_eq_true rfl) rfl (fun x43 => ?_)
  refine z_aload_n (pc := 1787) (i := 2) 2 X dL_law_1787 rfl rfl ?_
  refine z_callV_i (pc := 1788) (cells := (40 + (s12.1).toNat * 8)) (slots := (3000 + (s12.1).toNat * 64)) (C := RX8) (T := TX8) (N := 30) (ci := 9) [] X dL_law_1788 (c_X8_streets s12.2 p9) kw_L_206 rfl rfl ⟨rfl, rfl, ⟨by decide, by decide⟩, ⟨by show _ ≤ 603072; omega, by show _ ≤ 7190634; omega⟩⟩ (Nat.le_of_ble_eq_true rfl) rfl (fun x44 => ?_)
  refine z_icmp_eq (pc := 1791) 1954 X dL_law_1791 (by decide) (fun _ => ?_) (fun _ => ?_)
  · refine z_iinc (pc := 1954) (i := 5) (n := 5) (lv' := fun v45 => [(5, zI v45), (0, zA b), (1, zR p8), (2, zR p9), (3, zR p10), (4, zR p11)]) 5 X dL_law_1954 rfl (hN _ (by decide)) (fun _ => rfl) (fun v45 hR9 hv9 => ?_)
    refine z_goto (pc := 1957) 28 X dL_law_1957 (by decide) ?_
    refine z_widen (c1 := 40 + (v45).toNat * 8) (s1 := 3000 + (v45).toNat * 64) (by omega) (by omega) ?_
    refine z_pick [1, 2, 3, 4, 5, 0] (lv' := [(0, zA b), (1, zR p8), (2, zR p9), (3, zR p10), (4, zR p11), (5, zI v45)]) rfl ?_
    exact z_back
  · exact z_none
set_option maxRecDepth 40000 in
set_option maxHeartbeats 4000000 in
theorem cL_k24 (K : zK) (b L : Nat) (xs : Nat → Int32) (X : zX K cL_law RL zALL room_1) (hnL : K.2.2.2.2.2.2.2.2.2.2.2.2.2.2.1 = 9) (hscr : zscr K b L xs) (hL9 : L ≤ 2560) (p8 : Option Nat) (p9 : Option Nat) (p10 : Option Nat) (p11 : Option Nat) (s12 : Int × zH) (hi0 : 0 ≤ s12.1) (hi1 : s12.1 < (L : Int)) : zS (L_law_k24 xs L p8 p9 p10 s12) (zLG (fun s12 : Int × zH => zJ K (40 + (s12.1).toNat * 8) (3000 + (s12.1).toNat * 64) 28 [(0, zA b), (1, zR p8), (2, zR p9), (3, zR p10), (4, zR p11), (5, zI s12.1)] [] s12.2) (fun e13 : zH => zJ K 24040 195000 1960 [] [] e13)) (zJ K (40 + (s12.1).toNat * 8) (3000 + (s12.1).toNat * 64) 1727 [(0, zA b), (1, zR p8), (2, zR p9), (3, zR p10), (4, zR p11), (5, zI s12.1)] [] s12.2) := by
  have hN : ∀ i, i < 9 → i < K.2.2.2.2.2.2.2.2.2.2.2.2.2.2.1 := by rw [hnL]; exact fun _ h => h
  unfold L_law_k24
  refine z_aload_n (pc := 1727) (i := 1) 1 X dL_law_1727 rfl rfl ?_
  refine z_aload_nA (pc := 1728) (i := 0) 0 X dL_law_1728 rfl rfl ?_
  refine z_iload (pc := 1729) (i := 5) 5 X dL_law_1729 rfl ?_
  refine z_iconst (pc := 1731) (z := 1) X dL_law_1731 rfl ⟨by decide, by decide⟩ ?_
  refine z_iadd (pc := 1732) X dL_law_1732 (fun v46 _ _ => ?_)
  refine z_sld (pc := 1733) X hscr dL_law_1733 (fun v47 hi0 hi1 => ?_)
  refine z_aload_n (pc := 1734) (i := 3) 3 X dL_law_1734 rfl rfl ?_
  refine z_callW_i (pc := 1735) (cells := (40 + (s12.1).toNat * 8)) (slots := (3000 + (s12.1).toNat * 64)) [zR p8, zI v47, zR p10] X dL_law_1735 (c_L_clashes s12.2 p8 v47 p10) kw_L_200 rfl ⟨rfl, rfl, ⟨by decide, by decide⟩, ⟨by show _ ≤ 603072; omega, by show _ ≤ 7190634; omega⟩⟩ (Nat.le_of_ble_eq_true rfl) rfl (fun x48 => ?_)
  refine z_istore (pc := 1738) (i := 6) (lv' := [(6, zI x48.1), (0, zA b), (1, zR p8), (2, zR p9), (3, zR p10), (4, zR p11), (5, zI s12.1)]) X dL_law_1738 (hN _ (by decide)) rfl ?_
  refine z_aload_n (pc := 1740) (i := 2) 3 X dL_law_1740 rfl rfl ?_
  refine z_aload_nA (pc := 1741) (i := 0) 1 X dL_law_1741 rfl rfl ?_
  refine z_iload (pc := 1742) (i := 5) 6 X dL_law_1742 rfl ?_
  refine z_iconst (pc := 1744) (z := 1) X dL_law_1744 rfl ⟨by decide, by decide⟩ ?_
  refine z_iadd (pc := 1745) X dL_law_1745 (fun v49 _ _ => ?_)
  refine z_sld (pc := 1746) X hscr dL_law_1746 (fun v50 hi0 hi1 => ?_)
  refine z_callV_i (pc := 1747) (cells := (40 + (s12.1).toNat * 8 + 1)) (slots := (3000 + (s12.1).toNat * 64 + 6)) (C := RX8) (T := TX8) (N := 30) (ci := 9) [zI v50] X dL_law_1747 (c_X8_clashes x48.2 p9 v50) kw_L_202 rfl rfl ⟨rfl, rfl, ⟨by decide, by decide⟩, ⟨by show _ ≤ 603072; omega, by show _ ≤ 7190634; omega⟩⟩ (Nat.le_of_ble_eq_true rfl) rfl (fun x51 => ?_)
  refine z_istore (pc := 1750) (i := 7) (lv' := [(7, zI x51.1), (6, zI x48.1), (0, zA b), (1, zR p8), (2, zR p9), (3, zR p10), (4, zR p11), (5, zI s12.1)]) X dL_law_1750 (hN _ (by decide)) rfl ?_
  refine z_aload_n (pc := 1752) (i := 2) 4 X dL_law_1752 rfl rfl ?_
  refine z_callV_i (pc := 1753) (cells := (40 + (s12.1).toNat * 8 + 1)) (slots := (3000 + (s12.1).toNat * 64 + 6)) (C := RX8) (T := TX8) (N := 30) (ci := 9) [] X dL_law_1753 (c_X8_thrown x51.2 p9) kw_L_118 rfl rfl ⟨rfl, rfl, ⟨by decide, by decide⟩, ⟨by show _ ≤ 603072; omega, by show _ ≤ 7190634; omega⟩⟩ (Nat.le_of_ble_eq_true rfl) rfl (fun x52 => ?_)
  refine z_iload (pc := 1756) (i := 6) 1 X dL_law_1756 rfl ?_
  refine z_icmp_eq (pc := 1758) 1763 X dL_law_1758 (by decide) (fun _ => ?_) (fun _ => ?_)
  · refine z_iload (pc := 1763) (i := 6) 1 X dL_law_1763 rfl ?_
    refine z_if_ne (pc := 1765) 1780 X dL_law_1765 (by decide) (fun _ => ?_) (fun _ => ?_)
    · refine z_goto (pc := 1780) 1954 X dL_law_1780 (by decide) ?_
      refine z_iinc (pc := 1954) (i := 5) (n := 5) (lv' := fun v53 => [(5, zI v53), (7, zI x51.1), (6, zI x48.1), (0, zA b), (1, zR p8), (2, zR p9), (3, zR p10), (4, zR p11)]) 7 X dL_law_1954 rfl (hN _ (by decide)) (fun _ => rfl) (fun v53 hR9 hv9 => ?_)
      refine z_goto (pc := 1957) 28 X dL_law_1957 (by decide) ?_
      refine z_widen (c1 := 40 + (v53).toNat * 8) (s1 := 3000 + (v53).toNat * 64) (by omega) (by omega) ?_
      refine z_pick [3, 4, 5, 6, 7, 0] (lv' := [(0, zA b), (1, zR p8), (2, zR p9), (3, zR p10), (4, zR p11), (5, zI v53)]) rfl ?_
      exact z_back
    · refine z_aload_n (pc := 1768) (i := 3) 5 X dL_law_1768 rfl rfl ?_
      refine z_iconst (pc := 1769) (z := 0) X dL_law_1769 rfl ⟨by decide, by decide⟩ ?_
      refine z_laload (pc := 1770) X dL_law_1770 (fun v54 => ?_)
      refine z_iload (pc := 1771) (i := 7) 0 X dL_law_1771 rfl ?_
      refine z_i2l (pc := 1773) X dL_law_1773 ?_
      refine z_lcmp (pc := 1774) X dL_law_1774 ?_
      refine z_if_eq (pc := 1775) 1780 X dL_law_1775 (by decide) (fun _ => ?_) (fun _ => ?_)
      · refine z_goto (pc := 1780) 1954 X dL_law_1780 (by decide) ?_
        refine z_iinc (pc := 1954) (i := 5) (n := 5) (lv' := fun v55 => [(5, zI v55), (7, zI x51.1), (6, zI x48.1), (0, zA b), (1, zR p8), (2, zR p9), (3, zR p10), (4, zR p11)]) 7 X dL_law_1954 rfl (hN _ (by decide)) (fun _ => rfl) (fun v55 hR9 hv9 => ?_)
        refine z_goto (pc := 1957) 28 X dL_law_1957 (by decide) ?_
        refine z_widen (c1 := 40 + (v55).toNat * 8) (s1 := 3000 + (v55).toNat * 64) (by omega) (by omega) ?_
        refine z_pick [3, 4, 5, 6, 7, 0] (lv' := [(0, zA b), (1, zR p8), (2, zR p9), (3, zR p10), (4, zR p11), (5, zI v55)]) rfl ?_
        exact z_back
      · exact z_none
  · exact z_none
set_option maxRecDepth 40000 in
set_option maxHeartbeats 4000000 in
theorem cL_k23 (K : zK) (b L : Nat) (xs : Nat → Int32) (X : zX K cL_law RL zALL room_1) (hnL : K.2.2.2.2.2.2.2.2.2.2.2.2.2.2.1 = 9) (hscr : zscr K b L xs) (hL9 : L ≤ 2560) (p8 : Option Nat) (p9 : Option Nat) (p10 : Option Nat) (p11 : Option Nat) (s12 : Int × zH) (hi0 : 0 ≤ s12.1) (hi1 : s12.1 < (L : Int)) : zS (L_law_k23 xs L p8 p9 p10 s12) (zLG (fun s12 : Int × zH => zJ K (40 + (s12.1).toNat * 8) (3000 + (s12.1).toNat * 64) 28 [(0, zA b), (1, zR p8), (2, zR p9), (3, zR p10), (4, zR p11), (5, zI s12.1)] [] s12.2) (fun e13 : zH => zJ K 24040 195000 1960 [] [] e13)) (zJ K (40 + (s12.1).toNat * 8) (3000 + (s12.1).toNat * 64) 1671 [(0, zA b), (1, zR p8), (2, zR p9), (3, zR p10), (4, zR p11), (5, zI s12.1)] [] s12.2) := by
  have hN : ∀ i, i < 9 → i < K.2.2.2.2.2.2.2.2.2.2.2.2.2.2.1 := by rw [hnL]; exact fun _ h => h
  unfold L_law_k23
  refine z_aload_n (pc := 1671) (i := 1) 1 X dL_law_1671 rfl rfl ?_
  refine z_aload_nA (pc := 1672) (i := 0) 0 X dL_law_1672 rfl rfl ?_
  refine z_iload (pc := 1673) (i := 5) 5 X dL_law_1673 rfl ?_
  refine z_iconst (pc := 1675) (z := 1) X dL_law_1675 rfl ⟨by decide, by decide⟩ ?_
  refine z_iadd (pc := 1676) X dL_law_1676 (fun v56 _ _ => ?_)
  refine z_sld (pc := 1677) X hscr dL_law_1677 (fun v57 hi0 hi1 => ?_)
  refine z_aload_n (pc := 1678) (i := 3) 3 X dL_law_1678 rfl rfl ?_
  refine z_callW_i (pc := 1679) (cells := (40 + (s12.1).toNat * 8)) (slots := (3000 + (s12.1).toNat * 64)) [zR p8, zI v57, zR p10] X dL_law_1679 (c_L_steps s12.2 p8 v57 p10) kw_L_197 rfl ⟨rfl, rfl, ⟨by decide, by decide⟩, ⟨by show _ ≤ 603072; omega, by show _ ≤ 7190634; omega⟩⟩ (Nat.le_of_ble_eq_true rfl) rfl (fun x58 => ?_)
  refine z_istore (pc := 1682) (i := 6) (lv' := [(6, zI x58.1), (0, zA b), (1, zR p8), (2, zR p9), (3, zR p10), (4, zR p11), (5, zI s12.1)]) X dL_law_1682 (hN _ (by decide)) rfl ?_
  refine z_aload_n (pc := 1684) (i := 2) 3 X dL_law_1684 rfl rfl ?_
  refine z_aload_nA (pc := 1685) (i := 0) 1 X dL_law_1685 rfl rfl ?_
  refine z_iload (pc := 1686) (i := 5) 6 X dL_law_1686 rfl ?_
  refine z_iconst (pc := 1688) (z := 1) X dL_law_1688 rfl ⟨by decide, by decide⟩ ?_
  refine z_iadd (pc := 1689) X dL_law_1689 (fun v59 _ _ => ?_)
  refine z_sld (pc := 1690) X hscr dL_law_1690 (fun v60 hi0 hi1 => ?_)
  refine z_callV_i (pc := 1691) (cells := (40 + (s12.1).toNat * 8 + 1)) (slots := (3000 + (s12.1).toNat * 64 + 6)) (C := RX8) (T := TX8) (N := 30) (ci := 9) [zI v60] X dL_law_1691 (c_X8_steps x58.2 p9 v60) kw_L_199 rfl rfl ⟨rfl, rfl, ⟨by decide, by decide⟩, ⟨by show _ ≤ 603072; omega, by show _ ≤ 7190634; omega⟩⟩ (Nat.le_of_ble_eq_true rfl) rfl (fun x61 => ?_)
  refine z_istore (pc := 1694) (i := 7) (lv' := [(7, zI x61.1), (6, zI x58.1), (0, zA b), (1, zR p8), (2, zR p9), (3, zR p10), (4, zR p11), (5, zI s12.1)]) X dL_law_1694 (hN _ (by decide)) rfl ?_
  refine z_aload_n (pc := 1696) (i := 2) 4 X dL_law_1696 rfl rfl ?_
  refine z_callV_i (pc := 1697) (cells := (40 + (s12.1).toNat * 8 + 1)) (slots := (3000 + (s12.1).toNat * 64 + 6)) (C := RX8) (T := TX8) (N := 30) (ci := 9) [] X dL_law_1697 (c_X8_thrown x61.2 p9) kw_L_118 rfl rfl ⟨rfl, rfl, ⟨by decide, by decide⟩, ⟨by show _ ≤ 603072; omega, by show _ ≤ 7190634; omega⟩⟩ (Nat.le_of_ble_eq_true rfl) rfl (fun x62 => ?_)
  refine z_iload (pc := 1700) (i := 6) 1 X dL_law_1700 rfl ?_
  refine z_icmp_eq (pc := 1702) 1707 X dL_law_1702 (by decide) (fun _ => ?_) (fun _ => ?_)
  · refine z_iload (pc := 1707) (i := 6) 1 X dL_law_1707 rfl ?_
    refine z_if_ne (pc := 1709) 1724 X dL_law_1709 (by decide) (fun _ => ?_) (fun _ => ?_)
    · refine z_goto (pc := 1724) 1954 X dL_law_1724 (by decide) ?_
      refine z_iinc (pc := 1954) (i := 5) (n := 5) (lv' := fun v63 => [(5, zI v63), (7, zI x61.1), (6, zI x58.1), (0, zA b), (1, zR p8), (2, zR p9), (3, zR p10), (4, zR p11)]) 7 X dL_law_1954 rfl (hN _ (by decide)) (fun _ => rfl) (fun v63 hR9 hv9 => ?_)
      refine z_goto (pc := 1957) 28 X dL_law_1957 (by decide) ?_
      refine z_widen (c1 := 40 + (v63).toNat * 8) (s1 := 3000 + (v63).toNat * 64) (by omega) (by omega) ?_
      refine z_pick [3, 4, 5, 6, 7, 0] (lv' := [(0, zA b), (1, zR p8), (2, zR p9), (3, zR p10), (4, zR p11), (5, zI v63)]) rfl ?_
      exact z_back
    · refine z_aload_n (pc := 1712) (i := 3) 5 X dL_law_1712 rfl rfl ?_
      refine z_iconst (pc := 1713) (z := 0) X dL_law_1713 rfl ⟨by decide, by decide⟩ ?_
      refine z_laload (pc := 1714) X dL_law_1714 (fun v64 => ?_)
      refine z_iload (pc := 1715) (i := 7) 0 X dL_law_1715 rfl ?_
      refine z_i2l (pc := 1717) X dL_law_1717 ?_
      refine z_lcmp (pc := 1718) X dL_law_1718 ?_
      refine z_if_eq (pc := 1719) 1724 X dL_law_1719 (by decide) (fun _ => ?_) (fun _ => ?_)
      · refine z_goto (pc := 1724) 1954 X dL_law_1724 (by decide) ?_
        refine z_iinc (pc := 1954) (i := 5) (n := 5) (lv' := fun v65 => [(5, zI v65), (7, zI x61.1), (6, zI x58.1), (0, zA b), (1, zR p8), (2, zR p9), (3, zR p10), (4, zR p11)]) 7 X dL_law_1954 rfl (hN _ (by decide)) (fun _ => rfl) (fun v65 hR9 hv9 => ?_)
        refine z_goto (pc := 1957) 28 X dL_law_1957 (by decide) ?_
        refine z_widen (c1 := 40 + (v65).toNat * 8) (s1 := 3000 + (v65).toNat * 64) (by omega) (by omega) ?_
        refine z_pick [3, 4, 5, 6, 7, 0] (lv' := [(0, zA b), (1, zR p8), (2, zR p9), (3, zR p10), (4, zR p11), (5, zI v65)]) rfl ?_
        exact z_back
      · exact z_none
  · exact z_none
set_option maxRecDepth 40000 in
set_option maxHeartbeats 4000000 in
theorem cL_k22 (K : zK) (b L : Nat) (xs : Nat → Int32) (X : zX K cL_law RL zALL room_1) (hnL : K.2.2.2.2.2.2.2.2.2.2.2.2.2.2.1 = 9) (hscr : zscr K b L xs) (hL9 : L ≤ 2560) (p8 : Option Nat) (p9 : Option Nat) (p10 : Option Nat) (p11 : Option Nat) (s12 : Int × zH) (hi0 : 0 ≤ s12.1) (hi1 : s12.1 < (L : Int)) : zS (L_law_k22 xs L p8 p9 p10 s12) (zLG (fun s12 : Int × zH => zJ K (40 + (s12.1).toNat * 8) (3000 + (s12.1).toNat * 64) 28 [(0, zA b), (1, zR p8), (2, zR p9), (3, zR p10), (4, zR p11), (5, zI s12.1)] [] s12.2) (fun e13 : zH => zJ K 24040 195000 1960 [] [] e13)) (zJ K (40 + (s12.1).toNat * 8) (3000 + (s12.1).toNat * 64) 1603 [(0, zA b), (1, zR p8), (2, zR p9), (3, zR p10), (4, zR p11), (5, zI s12.1)] [] s12.2) := by
  have hN : ∀ i, i < 9 → i < K.2.2.2.2.2.2.2.2.2.2.2.2.2.2.1 := by rw [hnL]; exact fun _ h => h
  unfold L_law_k22
  refine z_aload_n (pc := 1603) (i := 1) 1 X dL_law_1603 rfl rfl ?_
  refine z_aload_nA (pc := 1604) (i := 0) 0 X dL_law_1604 rfl rfl ?_
  refine z_iload (pc := 1605) (i := 5) 5 X dL_law_1605 rfl ?_
  refine z_iconst (pc := 1607) (z := 1) X dL_law_1607 rfl ⟨by decide, by decide⟩ ?_
  refine z_iadd (pc := 1608) X dL_law_1608 (fun v66 _ _ => ?_)
  refine z_sld (pc := 1609) X hscr dL_law_1609 (fun v67 hi0 hi1 => ?_)
  refine z_aload_nA (pc := 1610) (i := 0) 0 X dL_law_1610 rfl rfl ?_
  refine z_iload (pc := 1611) (i := 5) 5 X dL_law_1611 rfl ?_
  refine z_iconst (pc := 1613) (z := 2) X dL_law_1613 rfl ⟨by decide, by decide⟩ ?_
  refine z_iadd (pc := 1614) X dL_law_1614 (fun v68 _ _ => ?_)
  refine z_sld (pc := 1615) X hscr dL_law_1615 (fun v69 hi0 hi1 => ?_)
  refine z_aload_n (pc := 1616) (i := 3) 3 X dL_law_1616 rfl rfl ?_
  refine z_callW_i (pc := 1617) (cells := (40 + (s12.1).toNat * 8)) (slots := (3000 + (s12.1).toNat * 64)) [zR p8, zI v67, zI v69, zR p10] X dL_law_1617 (c_L_walk s12.2 p8 v67 v69 p10) kw_L_194 rfl ⟨rfl, rfl, ⟨by decide, by decide⟩, ⟨by show _ ≤ 603072; omega, by show _ ≤ 7190634; omega⟩⟩ (Nat.le_of_ble_eq_true rfl) rfl (fun x70 => ?_)
  refine z_istore (pc := 1620) (i := 6) (lv' := [(6, zI x70.1), (0, zA b), (1, zR p8), (2, zR p9), (3, zR p10), (4, zR p11), (5, zI s12.1)]) X dL_law_1620 (hN _ (by decide)) rfl ?_
  refine z_aload_n (pc := 1622) (i := 2) 3 X dL_law_1622 rfl rfl ?_
  refine z_aload_nA (pc := 1623) (i := 0) 1 X dL_law_1623 rfl rfl ?_
  refine z_iload (pc := 1624) (i := 5) 6 X dL_law_1624 rfl ?_
  refine z_iconst (pc := 1626) (z := 1) X dL_law_1626 rfl ⟨by decide, by decide⟩ ?_
  refine z_iadd (pc := 1627) X dL_law_1627 (fun v71 _ _ => ?_)
  refine z_sld (pc := 1628) X hscr dL_law_1628 (fun v72 hi0 hi1 => ?_)
  refine z_aload_nA (pc := 1629) (i := 0) 1 X dL_law_1629 rfl rfl ?_
  refine z_iload (pc := 1630) (i := 5) 6 X dL_law_1630 rfl ?_
  refine z_iconst (pc := 1632) (z := 2) X dL_law_1632 rfl ⟨by decide, by decide⟩ ?_
  refine z_iadd (pc := 1633) X dL_law_1633 (fun v73 _ _ => ?_)
  refine z_sld (pc := 1634) X hscr dL_law_1634 (fun v74 hi0 hi1 => ?_)
  refine z_callV_i (pc := 1635) (cells := (40 + (s12.1).toNat * 8 + 2)) (slots := (3000 + (s12.1).toNat * 64 + 12)) (C := RX8) (T := TX8) (N := 30) (ci := 9) [zI v72, zI v74] X dL_law_1635 (c_X8_walk x70.2 p9 v72 v74) kw_L_196 rfl rfl ⟨rfl, rfl, ⟨by decide, by decide⟩, ⟨by show _ ≤ 603072; omega, by show _ ≤ 7190634; omega⟩⟩ (Nat.le_of_ble_eq_true rfl) rfl (fun x75 => ?_)
  refine z_istore (pc := 1638) (i := 7) (lv' := [(7, zI x75.1), (6, zI x70.1), (0, zA b), (1, zR p8), (2, zR p9), (3, zR p10), (4, zR p11), (5, zI s12.1)]) X dL_law_1638 (hN _ (by decide)) rfl ?_
  refine z_aload_n (pc := 1640) (i := 2) 4 X dL_law_1640 rfl rfl ?_
  refine z_callV_i (pc := 1641) (cells := (40 + (s12.1).toNat * 8 + 2)) (slots := (3000 + (s12.1).toNat * 64 + 12)) (C := RX8) (T := TX8) (N := 30) (ci := 9) [] X dL_law_1641 (c_X8_thrown x75.2 p9) kw_L_118 rfl rfl ⟨rfl, rfl, ⟨by decide, by decide⟩, ⟨by show _ ≤ 603072; omega, by show _ ≤ 7190634; omega⟩⟩ (Nat.le_of_ble_eq_true rfl) rfl (fun x76 => ?_)
  refine z_iload (pc := 1644) (i := 6) 1 X dL_law_1644 rfl ?_
  refine z_icmp_eq (pc := 1646) 1651 X dL_law_1646 (by decide) (fun _ => ?_) (fun _ => ?_)
  · refine z_iload (pc := 1651) (i := 6) 1 X dL_law_1651 rfl ?_
    refine z_if_ne (pc := 1653) 1668 X dL_law_1653 (by decide) (fun _ => ?_) (fun _ => ?_)
    · refine z_goto (pc := 1668) 1954 X dL_law_1668 (by decide) ?_
      refine z_iinc (pc := 1954) (i := 5) (n := 5) (lv' := fun v77 => [(5, zI v77), (7, zI x75.1), (6, zI x70.1), (0, zA b), (1, zR p8), (2, zR p9), (3, zR p10), (4, zR p11)]) 7 X dL_law_1954 rfl (hN _ (by decide)) (fun _ => rfl) (fun v77 hR9 hv9 => ?_)
      refine z_goto (pc := 1957) 28 X dL_law_1957 (by decide) ?_
      refine z_widen (c1 := 40 + (v77).toNat * 8) (s1 := 3000 + (v77).toNat * 64) (by omega) (by omega) ?_
      refine z_pick [3, 4, 5, 6, 7, 0] (lv' := [(0, zA b), (1, zR p8), (2, zR p9), (3, zR p10), (4, zR p11), (5, zI v77)]) rfl ?_
      exact z_back
    · refine z_aload_n (pc := 1656) (i := 3) 5 X dL_law_1656 rfl rfl ?_
      refine z_iconst (pc := 1657) (z := 0) X dL_law_1657 rfl ⟨by decide, by decide⟩ ?_
      refine z_laload (pc := 1658) X dL_law_1658 (fun v78 => ?_)
      refine z_iload (pc := 1659) (i := 7) 0 X dL_law_1659 rfl ?_
      refine z_i2l (pc := 1661) X dL_law_1661 ?_
      refine z_lcmp (pc := 1662) X dL_law_1662 ?_
      refine z_if_eq (pc := 1663) 1668 X dL_law_1663 (by decide) (fun _ => ?_) (fun _ => ?_)
      · refine z_goto (pc := 1668) 1954 X dL_law_1668 (by decide) ?_
        refine z_iinc (pc := 1954) (i := 5) (n := 5) (lv' := fun v79 => [(5, zI v79), (7, zI x75.1), (6, zI x70.1), (0, zA b), (1, zR p8), (2, zR p9), (3, zR p10), (4, zR p11)]) 7 X dL_law_1954 rfl (hN _ (by decide)) (fun _ => rfl) (fun v79 hR9 hv9 => ?_)
        refine z_goto (pc := 1957) 28 X dL_law_1957 (by decide) ?_
        refine z_widen (c1 := 40 + (v79).toNat * 8) (s1 := 3000 + (v79).toNat * 64) (by omega) (by omega) ?_
        refine z_pick [3, 4, 5, 6, 7, 0] (lv' := [(0, zA b), (1, zR p8), (2, zR p9), (3, zR p10), (4, zR p11), (5, zI v79)]) rfl ?_
        exact z_back
      · exact z_none
  · exact z_none
set_option maxRecDepth 40000 in
set_option maxHeartbeats 4000000 in
theorem cL_k21 (K : zK) (b L : Nat) (xs : Nat → Int32) (X : zX K cL_law RL zALL room_1) (hnL : K.2.2.2.2.2.2.2.2.2.2.2.2.2.2.1 = 9) (hscr : zscr K b L xs) (hL9 : L ≤ 2560) (p8 : Option Nat) (p9 : Option Nat) (p10 : Option Nat) (p11 : Option Nat) (s12 : Int × zH) (hi0 : 0 ≤ s12.1) (hi1 : s12.1 < (L : Int)) : zS (L_law_k21 xs L p8 p9 p10 s12) (zLG (fun s12 : Int × zH => zJ K (40 + (s12.1).toNat * 8) (3000 + (s12.1).toNat * 64) 28 [(0, zA b), (1, zR p8), (2, zR p9), (3, zR p10), (4, zR p11), (5, zI s12.1)] [] s12.2) (fun e13 : zH => zJ K 24040 195000 1960 [] [] e13)) (zJ K (40 + (s12.1).toNat * 8) (3000 + (s12.1).toNat * 64) 1547 [(0, zA b), (1, zR p8), (2, zR p9), (3, zR p10), (4, zR p11), (5, zI s12.1)] [] s12.2) := by
  have hN : ∀ i, i < 9 → i < K.2.2.2.2.2.2.2.2.2.2.2.2.2.2.1 := by rw [hnL]; exact fun _ h => h
  unfold L_law_k21
  refine z_aload_n (pc := 1547) (i := 1) 1 X dL_law_1547 rfl rfl ?_
  refine z_aload_nA (pc := 1548) (i := 0) 0 X dL_law_1548 rfl rfl ?_
  refine z_iload (pc := 1549) (i := 5) 5 X dL_law_1549 rfl ?_
  refine z_iconst (pc := 1551) (z := 1) X dL_law_1551 rfl ⟨by decide, by decide⟩ ?_
  refine z_iadd (pc := 1552) X dL_law_1552 (fun v80 _ _ => ?_)
  refine z_sld (pc := 1553) X hscr dL_law_1553 (fun v81 hi0 hi1 => ?_)
  refine z_aload_n (pc := 1554) (i := 3) 3 X dL_law_1554 rfl rfl ?_
  refine z_callW_i (pc := 1555) (cells := (40 + (s12.1).toNat * 8)) (slots := (3000 + (s12.1).toNat * 64)) [zR p8, zI v81, zR p10] X dL_law_1555 (c_L_doors s12.2 p8 v81 p10) kw_L_191 rfl ⟨rfl, rfl, ⟨by decide, by decide⟩, ⟨by show _ ≤ 603072; omega, by show _ ≤ 7190634; omega⟩⟩ (Nat.le_of_ble_eq_true rfl) rfl (fun x82 => ?_)
  refine z_istore (pc := 1558) (i := 6) (lv' := [(6, zI x82.1), (0, zA b), (1, zR p8), (2, zR p9), (3, zR p10), (4, zR p11), (5, zI s12.1)]) X dL_law_1558 (hN _ (by decide)) rfl ?_
  refine z_aload_n (pc := 1560) (i := 2) 3 X dL_law_1560 rfl rfl ?_
  refine z_aload_nA (pc := 1561) (i := 0) 1 X dL_law_1561 rfl rfl ?_
  refine z_iload (pc := 1562) (i := 5) 6 X dL_law_1562 rfl ?_
  refine z_iconst (pc := 1564) (z := 1) X dL_law_1564 rfl ⟨by decide, by decide⟩ ?_
  refine z_iadd (pc := 1565) X dL_law_1565 (fun v83 _ _ => ?_)
  refine z_sld (pc := 1566) X hscr dL_law_1566 (fun v84 hi0 hi1 => ?_)
  refine z_callV_i (pc := 1567) (cells := (40 + (s12.1).toNat * 8 + 1)) (slots := (3000 + (s12.1).toNat * 64 + 6)) (C := RX8) (T := TX8) (N := 30) (ci := 9) [zI v84] X dL_law_1567 (c_X8_doors x82.2 p9 v84) kw_L_193 rfl rfl ⟨rfl, rfl, ⟨by decide, by decide⟩, ⟨by show _ ≤ 603072; omega, by show _ ≤ 7190634; omega⟩⟩ (Nat.le_of_ble_eq_true rfl) rfl (fun x85 => ?_)
  refine z_istore (pc := 1570) (i := 7) (lv' := [(7, zI x85.1), (6, zI x82.1), (0, zA b), (1, zR p8), (2, zR p9), (3, zR p10), (4, zR p11), (5, zI s12.1)]) X dL_law_1570 (hN _ (by decide)) rfl ?_
  refine z_aload_n (pc := 1572) (i := 2) 4 X dL_law_1572 rfl rfl ?_
  refine z_callV_i (pc := 1573) (cells := (40 + (s12.1).toNat * 8 + 1)) (slots := (3000 + (s12.1).toNat * 64 + 6)) (C := RX8) (T := TX8) (N := 30) (ci := 9) [] X dL_law_1573 (c_X8_thrown x85.2 p9) kw_L_118 rfl rfl ⟨rfl, rfl, ⟨by decide, by decide⟩, ⟨by show _ ≤ 603072; omega, by show _ ≤ 7190634; omega⟩⟩ (Nat.le_of_ble_eq_true rfl) rfl (fun x86 => ?_)
  refine z_iload (pc := 1576) (i := 6) 1 X dL_law_1576 rfl ?_
  refine z_icmp_eq (pc := 1578) 1583 X dL_law_1578 (by decide) (fun _ => ?_) (fun _ => ?_)
  · refine z_iload (pc := 1583) (i := 6) 1 X dL_law_1583 rfl ?_
    refine z_if_ne (pc := 1585) 1600 X dL_law_1585 (by decide) (fun _ => ?_) (fun _ => ?_)
    · refine z_goto (pc := 1600) 1954 X dL_law_1600 (by decide) ?_
      refine z_iinc (pc := 1954) (i := 5) (n := 5) (lv' := fun v87 => [(5, zI v87), (7, zI x85.1), (6, zI x82.1), (0, zA b), (1, zR p8), (2, zR p9), (3, zR p10), (4, zR p11)]) 7 X dL_law_1954 rfl (hN _ (by decide)) (fun _ => rfl) (fun v87 hR9 hv9 => ?_)
      refine z_goto (pc := 1957) 28 X dL_law_1957 (by decide) ?_
      refine z_widen (c1 := 40 + (v87).toNat * 8) (s1 := 3000 + (v87).toNat * 64) (by omega) (by omega) ?_
      refine z_pick [3, 4, 5, 6, 7, 0] (lv' := [(0, zA b), (1, zR p8), (2, zR p9), (3, zR p10), (4, zR p11), (5, zI v87)]) rfl ?_
      exact z_back
    · refine z_aload_n (pc := 1588) (i := 3) 5 X dL_law_1588 rfl rfl ?_
      refine z_iconst (pc := 1589) (z := 0) X dL_law_1589 rfl ⟨by decide, by decide⟩ ?_
      refine z_laload (pc := 1590) X dL_law_1590 (fun v88 => ?_)
      refine z_iload (pc := 1591) (i := 7) 0 X dL_law_1591 rfl ?_
      refine z_i2l (pc := 1593) X dL_law_1593 ?_
      refine z_lcmp (pc := 1594) X dL_law_1594 ?_
      refine z_if_eq (pc := 1595) 1600 X dL_law_1595 (by decide) (fun _ => ?_) (fun _ => ?_)
      · refine z_goto (pc := 1600) 1954 X dL_law_1600 (by decide) ?_
        refine z_iinc (pc := 1954) (i := 5) (n := 5) (lv' := fun v89 => [(5, zI v89), (7, zI x85.1), (6, zI x82.1), (0, zA b), (1, zR p8), (2, zR p9), (3, zR p10), (4, zR p11)]) 7 X dL_law_1954 rfl (hN _ (by decide)) (fun _ => rfl) (fun v89 hR9 hv9 => ?_)
        refine z_goto (pc := 1957) 28 X dL_law_1957 (by decide) ?_
        refine z_widen (c1 := 40 + (v89).toNat * 8) (s1 := 3000 + (v89).toNat * 64) (by omega) (by omega) ?_
        refine z_pick [3, 4, 5, 6, 7, 0] (lv' := [(0, zA b), (1, zR p8), (2, zR p9), (3, zR p10), (4, zR p11), (5, zI v89)]) rfl ?_
        exact z_back
      · exact z_none
  · exact z_none
set_option maxRecDepth 40000 in
set_option maxHeartbeats 4000000 in
theorem cL_k20 (K : zK) (b L : Nat) (xs : Nat → Int32) (X : zX K cL_law RL zALL room_1) (hnL : K.2.2.2.2.2.2.2.2.2.2.2.2.2.2.1 = 9) (hscr : zscr K b L xs) (hL9 : L ≤ 2560) (p8 : Option Nat) (p9 : Option Nat) (p10 : Option Nat) (p11 : Option Nat) (s12 : Int × zH) (hi0 : 0 ≤ s12.1) (hi1 : s12.1 < (L : Int)) : zS (L_law_k20 p8 p9 s12) (zLG (fun s12 : Int × zH => zJ K (40 + (s12.1).toNat * 8) (3000 + (s12.1).toNat * 64) 28 [(0, zA b), (1, zR p8), (2, zR p9), (3, zR p10), (4, zR p11), (5, zI s12.1)] [] s12.2) (fun e13 : zH => zJ K 24040 195000 1960 [] [] e13)) (zJ K (40 + (s12.1).toNat * 8) (3000 + (s12.1).toNat * 64) 1534 [(0, zA b), (1, zR p8), (2, zR p9), (3, zR p10), (4, zR p11), (5, zI s12.1)] [] s12.2) := by
  have hN : ∀ i, i < 9 → i < K.2.2.2.2.2.2.2.2.2.2.2.2.2.2.1 := by rw [hnL]; exact fun _ h => h
  unfold L_law_k20
  refine z_aload_n (pc := 1534) (i := 1) 1 X dL_law_1534 rfl rfl ?_
  refine z_callV_i (pc := 1535) (cells := (40 + (s12.1).toNat * 8)) (slots := (3000 + (s12.1).toNat * 64)) (C := RX7) (T := TX7) (N := 9) (ci := 8) [] X dL_law_1535 (c_X7_olds s12.2 p8) kw_L_187 rfl rfl ⟨rfl, rfl, ⟨by decide, by decide⟩, ⟨by show _ ≤ 603072; omega, by show _ ≤ 7190634; omega⟩⟩ (Nat.le_of_ble_eq_true rfl) rfl (fun x90 => ?_)
  refine z_aload_n (pc := 1538) (i := 2) 2 X dL_law_1538 rfl rfl ?_
  refine z_callV_i (pc := 1539) (cells := (40 + (s12.1).toNat * 8)) (slots := (3000 + (s12.1).toNat * 64)) (C := RX8) (T := TX8) (N := 30) (ci := 9) [] X dL_law_1539 (c_X8_olds s12.2 p9) kw_L_190 rfl rfl ⟨rfl, rfl, ⟨by decide, by decide⟩, ⟨by show _ ≤ 603072; omega, by show _ ≤ 7190634; omega⟩⟩ (Nat.le_of_ble_eq_true rfl) rfl (fun x91 => ?_)
  refine z_icmp_eq (pc := 1542) 1954 X dL_law_1542 (by decide) (fun _ => ?_) (fun _ => ?_)
  · refine z_iinc (pc := 1954) (i := 5) (n := 5) (lv' := fun v92 => [(5, zI v92), (0, zA b), (1, zR p8), (2, zR p9), (3, zR p10), (4, zR p11)]) 5 X dL_law_1954 rfl (hN _ (by decide)) (fun _ => rfl) (fun v92 hR9 hv9 => ?_)
    refine z_goto (pc := 1957) 28 X dL_law_1957 (by decide) ?_
    refine z_widen (c1 := 40 + (v92).toNat * 8) (s1 := 3000 + (v92).toNat * 64) (by omega) (by omega) ?_
    refine z_pick [1, 2, 3, 4, 5, 0] (lv' := [(0, zA b), (1, zR p8), (2, zR p9), (3, zR p10), (4, zR p11), (5, zI v92)]) rfl ?_
    exact z_back
  · exact z_none
set_option maxRecDepth 40000 in
set_option maxHeartbeats 4000000 in
theorem cL_k19 (K : zK) (b L : Nat) (xs : Nat → Int32) (X : zX K cL_law RL zALL room_1) (hnL : K.2.2.2.2.2.2.2.2.2.2.2.2.2.2.1 = 9) (hscr : zscr K b L xs) (hL9 : L ≤ 2560) (p8 : Option Nat) (p9 : Option Nat) (p10 : Option Nat) (p11 : Option Nat) (s12 : Int × zH) (hi0 : 0 ≤ s12.1) (hi1 : s12.1 < (L : Int)) : zS (L_law_k19 xs L p8 p9 p10 s12) (zLG (fun s12 : Int × zH => zJ K (40 + (s12.1).toNat * 8) (3000 + (s12.1).toNat * 64) 28 [(0, zA b), (1, zR p8), (2, zR p9), (3, zR p10), (4, zR p11), (5, zI s12.1)] [] s12.2) (fun e13 : zH => zJ K 24040 195000 1960 [] [] e13)) (zJ K (40 + (s12.1).toNat * 8) (3000 + (s12.1).toNat * 64) 1478 [(0, zA b), (1, zR p8), (2, zR p9), (3, zR p10), (4, zR p11), (5, zI s12.1)] [] s12.2) := by
  have hN : ∀ i, i < 9 → i < K.2.2.2.2.2.2.2.2.2.2.2.2.2.2.1 := by rw [hnL]; exact fun _ h => h
  unfold L_law_k19
  refine z_aload_n (pc := 1478) (i := 1) 1 X dL_law_1478 rfl rfl ?_
  refine z_aload_nA (pc := 1479) (i := 0) 0 X dL_law_1479 rfl rfl ?_
  refine z_iload (pc := 1480) (i := 5) 5 X dL_law_1480 rfl ?_
  refine z_iconst (pc := 1482) (z := 1) X dL_law_1482 rfl ⟨by decide, by decide⟩ ?_
  refine z_iadd (pc := 1483) X dL_law_1483 (fun v93 _ _ => ?_)
  refine z_sld (pc := 1484) X hscr dL_law_1484 (fun v94 hi0 hi1 => ?_)
  refine z_aload_n (pc := 1485) (i := 3) 3 X dL_law_1485 rfl rfl ?_
  refine z_callW_i (pc := 1486) (cells := (40 + (s12.1).toNat * 8)) (slots := (3000 + (s12.1).toNat * 64)) [zR p8, zI v94, zR p10] X dL_law_1486 (c_L_until s12.2 p8 v94 p10) kw_L_184 rfl ⟨rfl, rfl, ⟨by decide, by decide⟩, ⟨by show _ ≤ 603072; omega, by show _ ≤ 7190634; omega⟩⟩ (Nat.le_of_ble_eq_true rfl) rfl (fun x95 => ?_)
  refine z_istore (pc := 1489) (i := 6) (lv' := [(6, zI x95.1), (0, zA b), (1, zR p8), (2, zR p9), (3, zR p10), (4, zR p11), (5, zI s12.1)]) X dL_law_1489 (hN _ (by decide)) rfl ?_
  refine z_aload_n (pc := 1491) (i := 2) 3 X dL_law_1491 rfl rfl ?_
  refine z_aload_nA (pc := 1492) (i := 0) 1 X dL_law_1492 rfl rfl ?_
  refine z_iload (pc := 1493) (i := 5) 6 X dL_law_1493 rfl ?_
  refine z_iconst (pc := 1495) (z := 1) X dL_law_1495 rfl ⟨by decide, by decide⟩ ?_
  refine z_iadd (pc := 1496) X dL_law_1496 (fun v96 _ _ => ?_)
  refine z_sld (pc := 1497) X hscr dL_law_1497 (fun v97 hi0 hi1 => ?_)
  refine z_callV_i (pc := 1498) (cells := (40 + (s12.1).toNat * 8 + 1)) (slots := (3000 + (s12.1).toNat * 64 + 6)) (C := RX8) (T := TX8) (N := 30) (ci := 9) [zI v97] X dL_law_1498 (c_X8_until x95.2 p9 v97) kw_L_186 rfl rfl ⟨rfl, rfl, ⟨by decide, by decide⟩, ⟨by show _ ≤ 603072; omega, by show _ ≤ 7190634; omega⟩⟩ (Nat.le_of_ble_eq_true rfl) rfl (fun x98 => ?_)
  refine z_istore (pc := 1501) (i := 7) (lv' := [(7, zI x98.1), (6, zI x95.1), (0, zA b), (1, zR p8), (2, zR p9), (3, zR p10), (4, zR p11), (5, zI s12.1)]) X dL_law_1501 (hN _ (by decide)) rfl ?_
  refine z_aload_n (pc := 1503) (i := 2) 4 X dL_law_1503 rfl rfl ?_
  refine z_callV_i (pc := 1504) (cells := (40 + (s12.1).toNat * 8 + 1)) (slots := (3000 + (s12.1).toNat * 64 + 6)) (C := RX8) (T := TX8) (N := 30) (ci := 9) [] X dL_law_1504 (c_X8_thrown x98.2 p9) kw_L_118 rfl rfl ⟨rfl, rfl, ⟨by decide, by decide⟩, ⟨by show _ ≤ 603072; omega, by show _ ≤ 7190634; omega⟩⟩ (Nat.le_of_ble_eq_true rfl) rfl (fun x99 => ?_)
  refine z_iload (pc := 1507) (i := 6) 1 X dL_law_1507 rfl ?_
  refine z_icmp_eq (pc := 1509) 1514 X dL_law_1509 (by decide) (fun _ => ?_) (fun _ => ?_)
  · refine z_iload (pc := 1514) (i := 6) 1 X dL_law_1514 rfl ?_
    refine z_if_ne (pc := 1516) 1531 X dL_law_1516 (by decide) (fun _ => ?_) (fun _ => ?_)
    · refine z_goto (pc := 1531) 1954 X dL_law_1531 (by decide) ?_
      refine z_iinc (pc := 1954) (i := 5) (n := 5) (lv' := fun v100 => [(5, zI v100), (7, zI x98.1), (6, zI x95.1), (0, zA b), (1, zR p8), (2, zR p9), (3, zR p10), (4, zR p11)]) 7 X dL_law_1954 rfl (hN _ (by decide)) (fun _ => rfl) (fun v100 hR9 hv9 => ?_)
      refine z_goto (pc := 1957) 28 X dL_law_1957 (by decide) ?_
      refine z_widen (c1 := 40 + (v100).toNat * 8) (s1 := 3000 + (v100).toNat * 64) (by omega) (by omega) ?_
      refine z_pick [3, 4, 5, 6, 7, 0] (lv' := [(0, zA b), (1, zR p8), (2, zR p9), (3, zR p10), (4, zR p11), (5, zI v100)]) rfl ?_
      exact z_back
    · refine z_aload_n (pc := 1519) (i := 3) 5 X dL_law_1519 rfl rfl ?_
      refine z_iconst (pc := 1520) (z := 0) X dL_law_1520 rfl ⟨by decide, by decide⟩ ?_
      refine z_laload (pc := 1521) X dL_law_1521 (fun v101 => ?_)
      refine z_iload (pc := 1522) (i := 7) 0 X dL_law_1522 rfl ?_
      refine z_i2l (pc := 1524) X dL_law_1524 ?_
      refine z_lcmp (pc := 1525) X dL_law_1525 ?_
      refine z_if_eq (pc := 1526) 1531 X dL_law_1526 (by decide) (fun _ => ?_) (fun _ => ?_)
      · refine z_goto (pc := 1531) 1954 X dL_law_1531 (by decide) ?_
        refine z_iinc (pc := 1954) (i := 5) (n := 5) (lv' := fun v102 => [(5, zI v102), (7, zI x98.1), (6, zI x95.1), (0, zA b), (1, zR p8), (2, zR p9), (3, zR p10), (4, zR p11)]) 7 X dL_law_1954 rfl (hN _ (by decide)) (fun _ => rfl) (fun v102 hR9 hv9 => ?_)
        refine z_goto (pc := 1957) 28 X dL_law_1957 (by decide) ?_
        refine z_widen (c1 := 40 + (v102).toNat * 8) (s1 := 3000 + (v102).toNat * 64) (by omega) (by omega) ?_
        refine z_pick [3, 4, 5, 6, 7, 0] (lv' := [(0, zA b), (1, zR p8), (2, zR p9), (3, zR p10), (4, zR p11), (5, zI v102)]) rfl ?_
        exact z_back
      · exact z_none
  · exact z_none
set_option maxRecDepth 40000 in
set_option maxHeartbeats 4000000 in
theorem cL_k18 (K : zK) (b L : Nat) (xs : Nat → Int32) (X : zX K cL_law RL zALL room_1) (hnL : K.2.2.2.2.2.2.2.2.2.2.2.2.2.2.1 = 9) (hscr : zscr K b L xs) (hL9 : L ≤ 2560) (p8 : Option Nat) (p9 : Option Nat) (p10 : Option Nat) (p11 : Option Nat) (s12 : Int × zH) (hi0 : 0 ≤ s12.1) (hi1 : s12.1 < (L : Int)) : zS (L_law_k18 xs L p8 p9 p10 s12) (zLG (fun s12 : Int × zH => zJ K (40 + (s12.1).toNat * 8) (3000 + (s12.1).toNat * 64) 28 [(0, zA b), (1, zR p8), (2, zR p9), (3, zR p10), (4, zR p11), (5, zI s12.1)] [] s12.2) (fun e13 : zH => zJ K 24040 195000 1960 [] [] e13)) (zJ K (40 + (s12.1).toNat * 8) (3000 + (s12.1).toNat * 64) 1422 [(0, zA b), (1, zR p8), (2, zR p9), (3, zR p10), (4, zR p11), (5, zI s12.1)] [] s12.2) := by
  have hN : ∀ i, i < 9 → i < K.2.2.2.2.2.2.2.2.2.2.2.2.2.2.1 := by rw [hnL]; exact fun _ h => h
  unfold L_law_k18
  refine z_aload_n (pc := 1422) (i := 1) 1 X dL_law_1422 rfl rfl ?_
  refine z_aload_nA (pc := 1423) (i := 0) 0 X dL_law_1423 rfl rfl ?_
  refine z_iload (pc := 1424) (i := 5) 5 X dL_law_1424 rfl ?_
  refine z_iconst (pc := 1426) (z := 1) X dL_law_1426 rfl ⟨by decide, by decide⟩ ?_
  refine z_iadd (pc := 1427) X dL_law_1427 (fun v103 _ _ => ?_)
  refine z_sld (pc := 1428) X hscr dL_law_1428 (fun v104 hi0 hi1 => ?_)
  refine z_aload_n (pc := 1429) (i := 3) 3 X dL_law_1429 rfl rfl ?_
  refine z_callW_i (pc := 1430) (cells := (40 + (s12.1).toNat * 8)) (slots := (3000 + (s12.1).toNat * 64)) [zR p8, zI v104, zR p10] X dL_law_1430 (c_L_send s12.2 p8 v104 p10) kw_L_181 rfl ⟨rfl, rfl, ⟨by decide, by decide⟩, ⟨by show _ ≤ 603072; omega, by show _ ≤ 7190634; omega⟩⟩ (Nat.le_of_ble_eq_true rfl) rfl (fun x105 => ?_)
  refine z_istore (pc := 1433) (i := 6) (lv' := [(6, zI x105.1), (0, zA b), (1, zR p8), (2, zR p9), (3, zR p10), (4, zR p11), (5, zI s12.1)]) X dL_law_1433 (hN _ (by decide)) rfl ?_
  refine z_aload_n (pc := 1435) (i := 2) 3 X dL_law_1435 rfl rfl ?_
  refine z_aload_nA (pc := 1436) (i := 0) 1 X dL_law_1436 rfl rfl ?_
  refine z_iload (pc := 1437) (i := 5) 6 X dL_law_1437 rfl ?_
  refine z_iconst (pc := 1439) (z := 1) X dL_law_1439 rfl ⟨by decide, by decide⟩ ?_
  refine z_iadd (pc := 1440) X dL_law_1440 (fun v106 _ _ => ?_)
  refine z_sld (pc := 1441) X hscr dL_law_1441 (fun v107 hi0 hi1 => ?_)
  refine z_callV_i (pc := 1442) (cells := (40 + (s12.1).toNat * 8 + 1)) (slots := (3000 + (s12.1).toNat * 64 + 6)) (C := RX8) (T := TX8) (N := 30) (ci := 9) [zI v107] X dL_law_1442 (c_X8_send x105.2 p9 v107) kw_L_183 rfl rfl ⟨rfl, rfl, ⟨by decide, by decide⟩, ⟨by show _ ≤ 603072; omega, by show _ ≤ 7190634; omega⟩⟩ (Nat.le_of_ble_eq_true rfl) rfl (fun x108 => ?_)
  refine z_istore (pc := 1445) (i := 7) (lv' := [(7, zI x108.1), (6, zI x105.1), (0, zA b), (1, zR p8), (2, zR p9), (3, zR p10), (4, zR p11), (5, zI s12.1)]) X dL_law_1445 (hN _ (by decide)) rfl ?_
  refine z_aload_n (pc := 1447) (i := 2) 4 X dL_law_1447 rfl rfl ?_
  refine z_callV_i (pc := 1448) (cells := (40 + (s12.1).toNat * 8 + 1)) (slots := (3000 + (s12.1).toNat * 64 + 6)) (C := RX8) (T := TX8) (N := 30) (ci := 9) [] X dL_law_1448 (c_X8_thrown x108.2 p9) kw_L_118 rfl rfl ⟨rfl, rfl, ⟨by decide, by decide⟩, ⟨by show _ ≤ 603072; omega, by show _ ≤ 7190634; omega⟩⟩ (Nat.le_of_ble_eq_true rfl) rfl (fun x109 => ?_)
  refine z_iload (pc := 1451) (i := 6) 1 X dL_law_1451 rfl ?_
  refine z_icmp_eq (pc := 1453) 1458 X dL_law_1453 (by decide) (fun _ => ?_) (fun _ => ?_)
  · refine z_iload (pc := 1458) (i := 6) 1 X dL_law_1458 rfl ?_
    refine z_if_ne (pc := 1460) 1475 X dL_law_1460 (by decide) (fun _ => ?_) (fun _ => ?_)
    · refine z_goto (pc := 1475) 1954 X dL_law_1475 (by decide) ?_
      refine z_iinc (pc := 1954) (i := 5) (n := 5) (lv' := fun v110 => [(5, zI v110), (7, zI x108.1), (6, zI x105.1), (0, zA b), (1, zR p8), (2, zR p9), (3, zR p10), (4, zR p11)]) 7 X dL_law_1954 rfl (hN _ (by decide)) (fun _ => rfl) (fun v110 hR9 hv9 => ?_)
      refine z_goto (pc := 1957) 28 X dL_law_1957 (by decide) ?_
      refine z_widen (c1 := 40 + (v110).toNat * 8) (s1 := 3000 + (v110).toNat * 64) (by omega) (by omega) ?_
      refine z_pick [3, 4, 5, 6, 7, 0] (lv' := [(0, zA b), (1, zR p8), (2, zR p9), (3, zR p10), (4, zR p11), (5, zI v110)]) rfl ?_
      exact z_back
    · refine z_aload_n (pc := 1463) (i := 3) 5 X dL_law_1463 rfl rfl ?_
      refine z_iconst (pc := 1464) (z := 0) X dL_law_1464 rfl ⟨by decide, by decide⟩ ?_
      refine z_laload (pc := 1465) X dL_law_1465 (fun v111 => ?_)
      refine z_iload (pc := 1466) (i := 7) 0 X dL_law_1466 rfl ?_
      refine z_i2l (pc := 1468) X dL_law_1468 ?_
      refine z_lcmp (pc := 1469) X dL_law_1469 ?_
      refine z_if_eq (pc := 1470) 1475 X dL_law_1470 (by decide) (fun _ => ?_) (fun _ => ?_)
      · refine z_goto (pc := 1475) 1954 X dL_law_1475 (by decide) ?_
        refine z_iinc (pc := 1954) (i := 5) (n := 5) (lv' := fun v112 => [(5, zI v112), (7, zI x108.1), (6, zI x105.1), (0, zA b), (1, zR p8), (2, zR p9), (3, zR p10), (4, zR p11)]) 7 X dL_law_1954 rfl (hN _ (by decide)) (fun _ => rfl) (fun v112 hR9 hv9 => ?_)
        refine z_goto (pc := 1957) 28 X dL_law_1957 (by decide) ?_
        refine z_widen (c1 := 40 + (v112).toNat * 8) (s1 := 3000 + (v112).toNat * 64) (by omega) (by omega) ?_
        refine z_pick [3, 4, 5, 6, 7, 0] (lv' := [(0, zA b), (1, zR p8), (2, zR p9), (3, zR p10), (4, zR p11), (5, zI v112)]) rfl ?_
        exact z_back
      · exact z_none
  · exact z_none
set_option maxRecDepth 40000 in
set_option maxHeartbeats 4000000 in
theorem cL_k17 (K : zK) (b L : Nat) (xs : Nat → Int32) (X : zX K cL_law RL zALL room_1) (hnL : K.2.2.2.2.2.2.2.2.2.2.2.2.2.2.1 = 9) (hscr : zscr K b L xs) (hL9 : L ≤ 2560) (p8 : Option Nat) (p9 : Option Nat) (p10 : Option Nat) (p11 : Option Nat) (s12 : Int × zH) (hi0 : 0 ≤ s12.1) (hi1 : s12.1 < (L : Int)) : zS (L_law_k17 xs L p8 p9 p10 s12) (zLG (fun s12 : Int × zH => zJ K (40 + (s12.1).toNat * 8) (3000 + (s12.1).toNat * 64) 28 [(0, zA b), (1, zR p8), (2, zR p9), (3, zR p10), (4, zR p11), (5, zI s12.1)] [] s12.2) (fun e13 : zH => zJ K 24040 195000 1960 [] [] e13)) (zJ K (40 + (s12.1).toNat * 8) (3000 + (s12.1).toNat * 64) 1366 [(0, zA b), (1, zR p8), (2, zR p9), (3, zR p10), (4, zR p11), (5, zI s12.1)] [] s12.2) := by
  have hN : ∀ i, i < 9 → i < K.2.2.2.2.2.2.2.2.2.2.2.2.2.2.1 := by rw [hnL]; exact fun _ h => h
  unfold L_law_k17
  refine z_aload_n (pc := 1366) (i := 1) 1 X dL_law_1366 rfl rfl ?_
  refine z_aload_nA (pc := 1367) (i := 0) 0 X dL_law_1367 rfl rfl ?_
  refine z_iload (pc := 1368) (i := 5) 5 X dL_law_1368 rfl ?_
  refine z_iconst (pc := 1370) (z := 1) X dL_law_1370 rfl ⟨by decide, by decide⟩ ?_
  refine z_iadd (pc := 1371) X dL_law_1371 (fun v113 _ _ => ?_)
  refine z_sld (pc := 1372) X hscr dL_law_1372 (fun v114 hi0 hi1 => ?_)
  refine z_aload_n (pc := 1373) (i := 3) 3 X dL_law_1373 rfl rfl ?_
  refine z_callW_i (pc := 1374) (cells := (40 + (s12.1).toNat * 8)) (slots := (3000 + (s12.1).toNat * 64)) [zR p8, zI v114, zR p10] X dL_law_1374 (c_L_find s12.2 p8 v114 p10) kw_L_178 rfl ⟨rfl, rfl, ⟨by decide, by decide⟩, ⟨by show _ ≤ 603072; omega, by show _ ≤ 7190634; omega⟩⟩ (Nat.le_of_ble_eq_true rfl) rfl (fun x115 => ?_)
  refine z_istore (pc := 1377) (i := 6) (lv' := [(6, zI x115.1), (0, zA b), (1, zR p8), (2, zR p9), (3, zR p10), (4, zR p11), (5, zI s12.1)]) X dL_law_1377 (hN _ (by decide)) rfl ?_
  refine z_aload_n (pc := 1379) (i := 2) 3 X dL_law_1379 rfl rfl ?_
  refine z_aload_nA (pc := 1380) (i := 0) 1 X dL_law_1380 rfl rfl ?_
  refine z_iload (pc := 1381) (i := 5) 6 X dL_law_1381 rfl ?_
  refine z_iconst (pc := 1383) (z := 1) X dL_law_1383 rfl ⟨by decide, by decide⟩ ?_
  refine z_iadd (pc := 1384) X dL_law_1384 (fun v116 _ _ => ?_)
  refine z_sld (pc := 1385) X hscr dL_law_1385 (fun v117 hi0 hi1 => ?_)
  refine z_callV_i (pc := 1386) (cells := (40 + (s12.1).toNat * 8 + 1)) (slots := (3000 + (s12.1).toNat * 64 + 6)) (C := RX8) (T := TX8) (N := 30) (ci := 9) [zI v117] X dL_law_1386 (c_X8_find x115.2 p9 v117) kw_L_180 rfl rfl ⟨rfl, rfl, ⟨by decide, by decide⟩, ⟨by show _ ≤ 603072; omega, by show _ ≤ 7190634; omega⟩⟩ (Nat.le_of_ble_eq_true rfl) rfl (fun x118 => ?_)
  refine z_istore (pc := 1389) (i := 7) (lv' := [(7, zI x118.1), (6, zI x115.1), (0, zA b), (1, zR p8), (2, zR p9), (3, zR p10), (4, zR p11), (5, zI s12.1)]) X dL_law_1389 (hN _ (by decide)) rfl ?_
  refine z_aload_n (pc := 1391) (i := 2) 4 X dL_law_1391 rfl rfl ?_
  refine z_callV_i (pc := 1392) (cells := (40 + (s12.1).toNat * 8 + 1)) (slots := (3000 + (s12.1).toNat * 64 + 6)) (C := RX8) (T := TX8) (N := 30) (ci := 9) [] X dL_law_1392 (c_X8_thrown x118.2 p9) kw_L_118 rfl rfl ⟨rfl, rfl, ⟨by decide, by decide⟩, ⟨by show _ ≤ 603072; omega, by show _ ≤ 7190634; omega⟩⟩ (Nat.le_of_ble_eq_true rfl) rfl (fun x119 => ?_)
  refine z_iload (pc := 1395) (i := 6) 1 X dL_law_1395 rfl ?_
  refine z_icmp_eq (pc := 1397) 1402 X dL_law_1397 (by decide) (fun _ => ?_) (fun _ => ?_)
  · refine z_iload (pc := 1402) (i := 6) 1 X dL_law_1402 rfl ?_
    refine z_if_ne (pc := 1404) 1419 X dL_law_1404 (by decide) (fun _ => ?_) (fun _ => ?_)
    · refine z_goto (pc := 1419) 1954 X dL_law_1419 (by decide) ?_
      refine z_iinc (pc := 1954) (i := 5) (n := 5) (lv' := fun v120 => [(5, zI v120), (7, zI x118.1), (6, zI x115.1), (0, zA b), (1, zR p8), (2, zR p9), (3, zR p10), (4, zR p11)]) 7 X dL_law_1954 rfl (hN _ (by decide)) (fun _ => rfl) (fun v120 hR9 hv9 => ?_)
      refine z_goto (pc := 1957) 28 X dL_law_1957 (by decide) ?_
      refine z_widen (c1 := 40 + (v120).toNat * 8) (s1 := 3000 + (v120).toNat * 64) (by omega) (by omega) ?_
      refine z_pick [3, 4, 5, 6, 7, 0] (lv' := [(0, zA b), (1, zR p8), (2, zR p9), (3, zR p10), (4, zR p11), (5, zI v120)]) rfl ?_
      exact z_back
    · refine z_aload_n (pc := 1407) (i := 3) 5 X dL_law_1407 rfl rfl ?_
      refine z_iconst (pc := 1408) (z := 0) X dL_law_1408 rfl ⟨by decide, by decide⟩ ?_
      refine z_laload (pc := 1409) X dL_law_1409 (fun v121 => ?_)
      refine z_iload (pc := 1410) (i := 7) 0 X dL_law_1410 rfl ?_
      refine z_i2l (pc := 1412) X dL_law_1412 ?_
      refine z_lcmp (pc := 1413) X dL_law_1413 ?_
      refine z_if_eq (pc := 1414) 1419 X dL_law_1414 (by decide) (fun _ => ?_) (fun _ => ?_)
      · refine z_goto (pc := 1419) 1954 X dL_law_1419 (by decide) ?_
        refine z_iinc (pc := 1954) (i := 5) (n := 5) (lv' := fun v122 => [(5, zI v122), (7, zI x118.1), (6, zI x115.1), (0, zA b), (1, zR p8), (2, zR p9), (3, zR p10), (4, zR p11)]) 7 X dL_law_1954 rfl (hN _ (by decide)) (fun _ => rfl) (fun v122 hR9 hv9 => ?_)
        refine z_goto (pc := 1957) 28 X dL_law_1957 (by decide) ?_
        refine z_widen (c1 := 40 + (v122).toNat * 8) (s1 := 3000 + (v122).toNat * 64) (by omega) (by omega) ?_
        refine z_pick [3, 4, 5, 6, 7, 0] (lv' := [(0, zA b), (1, zR p8), (2, zR p9), (3, zR p10), (4, zR p11), (5, zI v122)]) rfl ?_
        exact z_back
      · exact z_none
  · exact z_none
set_option maxRecDepth 40000 in
set_option maxHeartbeats 4000000 in
theorem cL_k16 (K : zK) (b L : Nat) (xs : Nat → Int32) (X : zX K cL_law RL zALL room_1) (hnL : K.2.2.2.2.2.2.2.2.2.2.2.2.2.2.1 = 9) (hscr : zscr K b L xs) (hL9 : L ≤ 2560) (p8 : Option Nat) (p9 : Option Nat) (p10 : Option Nat) (p11 : Option Nat) (s12 : Int × zH) (hi0 : 0 ≤ s12.1) (hi1 : s12.1 < (L : Int)) : zS (L_law_k16 xs L p8 p9 p10 s12) (zLG (fun s12 : Int × zH => zJ K (40 + (s12.1).toNat * 8) (3000 + (s12.1).toNat * 64) 28 [(0, zA b), (1, zR p8), (2, zR p9), (3, zR p10), (4, zR p11), (5, zI s12.1)] [] s12.2) (fun e13 : zH => zJ K 24040 195000 1960 [] [] e13)) (zJ K (40 + (s12.1).toNat * 8) (3000 + (s12.1).toNat * 64) 1303 [(0, zA b), (1, zR p8), (2, zR p9), (3, zR p10), (4, zR p11), (5, zI s12.1)] [] s12.2) := by
  have hN : ∀ i, i < 9 → i < K.2.2.2.2.2.2.2.2.2.2.2.2.2.2.1 := by rw [hnL]; exact fun _ h => h
  unfold L_law_k16
  refine z_aload_n (pc := 1303) (i := 1) 1 X dL_law_1303 rfl rfl ?_
  refine z_aload_nA (pc := 1304) (i := 0) 0 X dL_law_1304 rfl rfl ?_
  refine z_iload (pc := 1305) (i := 5) 5 X dL_law_1305 rfl ?_
  refine z_iconst (pc := 1307) (z := 1) X dL_law_1307 rfl ⟨by decide, by decide⟩ ?_
  refine z_iadd (pc := 1308) X dL_law_1308 (fun v123 _ _ => ?_)
  refine z_sld (pc := 1309) X hscr dL_law_1309 (fun v124 hi0 hi1 => ?_)
  refine z_aload_n (pc := 1310) (i := 3) 3 X dL_law_1310 rfl rfl ?_
  refine z_callW_i (pc := 1311) (cells := (40 + (s12.1).toNat * 8)) (slots := (3000 + (s12.1).toNat * 64)) [zR p8, zI v124, zR p10] X dL_law_1311 (c_L_isGone s12.2 p8 v124 p10) kw_L_175 rfl ⟨rfl, rfl, ⟨by decide, by decide⟩, ⟨by show _ ≤ 603072; omega, by show _ ≤ 7190634; omega⟩⟩ (Nat.le_of_ble_eq_true rfl) rfl (fun x125 => ?_)
  refine z_istore (pc := 1314) (i := 6) (lv' := [(6, zI x125.1), (0, zA b), (1, zR p8), (2, zR p9), (3, zR p10), (4, zR p11), (5, zI s12.1)]) X dL_law_1314 (hN _ (by decide)) rfl ?_
  refine z_aload_n (pc := 1316) (i := 2) 3 X dL_law_1316 rfl rfl ?_
  refine z_aload_nA (pc := 1317) (i := 0) 1 X dL_law_1317 rfl rfl ?_
  refine z_iload (pc := 1318) (i := 5) 6 X dL_law_1318 rfl ?_
  refine z_iconst (pc := 1320) (z := 1) X dL_law_1320 rfl ⟨by decide, by decide⟩ ?_
  refine z_iadd (pc := 1321) X dL_law_1321 (fun v126 _ _ => ?_)
  refine z_sld (pc := 1322) X hscr dL_law_1322 (fun v127 hi0 hi1 => ?_)
  refine z_callV_i (pc := 1323) (cells := (40 + (s12.1).toNat * 8 + 1)) (slots := (3000 + (s12.1).toNat * 64 + 6)) (C := RX8) (T := TX8) (N := 30) (ci := 9) [zI v127] X dL_law_1323 (c_X8_isGone x125.2 p9 v127) kw_L_177 rfl rfl ⟨rfl, rfl, ⟨by decide, by decide⟩, ⟨by show _ ≤ 603072; omega, by show _ ≤ 7190634; omega⟩⟩ (Nat.le_of_ble_eq_true rfl) rfl (fun x128 => ?_)
  refine z_istore (pc := 1326) (i := 7) (lv' := [(7, zI x128.1), (6, zI x125.1), (0, zA b), (1, zR p8), (2, zR p9), (3, zR p10), (4, zR p11), (5, zI s12.1)]) X dL_law_1326 (hN _ (by decide)) rfl ?_
  refine z_aload_n (pc := 1328) (i := 2) 4 X dL_law_1328 rfl rfl ?_
  refine z_callV_i (pc := 1329) (cells := (40 + (s12.1).toNat * 8 + 1)) (slots := (3000 + (s12.1).toNat * 64 + 6)) (C := RX8) (T := TX8) (N := 30) (ci := 9) [] X dL_law_1329 (c_X8_thrown x128.2 p9) kw_L_118 rfl rfl ⟨rfl, rfl, ⟨by decide, by decide⟩, ⟨by show _ ≤ 603072; omega, by show _ ≤ 7190634; omega⟩⟩ (Nat.le_of_ble_eq_true rfl) rfl (fun x129 => ?_)
  refine z_iload (pc := 1332) (i := 6) 1 X dL_law_1332 rfl ?_
  refine z_icmp_eq (pc := 1334) 1339 X dL_law_1334 (by decide) (fun _ => ?_) (fun _ => ?_)
  · refine z_iload (pc := 1339) (i := 6) 1 X dL_law_1339 rfl ?_
    refine z_if_ne (pc := 1341) 1363 X dL_law_1341 (by decide) (fun _ => ?_) (fun _ => ?_)
    · refine z_goto (pc := 1363) 1954 X dL_law_1363 (by decide) ?_
      refine z_iinc (pc := 1954) (i := 5) (n := 5) (lv' := fun v130 => [(5, zI v130), (7, zI x128.1), (6, zI x125.1), (0, zA b), (1, zR p8), (2, zR p9), (3, zR p10), (4, zR p11)]) 7 X dL_law_1954 rfl (hN _ (by decide)) (fun _ => rfl) (fun v130 hR9 hv9 => ?_)
      refine z_goto (pc := 1957) 28 X dL_law_1957 (by decide) ?_
      refine z_widen (c1 := 40 + (v130).toNat * 8) (s1 := 3000 + (v130).toNat * 64) (by omega) (by omega) ?_
      refine z_pick [3, 4, 5, 6, 7, 0] (lv' := [(0, zA b), (1, zR p8), (2, zR p9), (3, zR p10), (4, zR p11), (5, zI v130)]) rfl ?_
      exact z_back
    · refine z_aload_n (pc := 1344) (i := 3) 5 X dL_law_1344 rfl rfl ?_
      refine z_iconst (pc := 1345) (z := 0) X dL_law_1345 rfl ⟨by decide, by decide⟩ ?_
      refine z_laload (pc := 1346) X dL_law_1346 (fun v131 => ?_)
      refine z_iload (pc := 1347) (i := 7) 0 X dL_law_1347 rfl ?_
      refine z_if_eq (pc := 1349) 1356 X dL_law_1349 (by decide) (fun _ => ?_) (fun _ => ?_)
      · refine z_lconst (pc := 1356) (z := 0) X dL_law_1356 rfl ?_
        refine z_lcmp (pc := 1357) X dL_law_1357 ?_
        refine z_if_eq (pc := 1358) 1363 X dL_law_1358 (by decide) (fun _ => ?_) (fun _ => ?_)
        · refine z_goto (pc := 1363) 1954 X dL_law_1363 (by decide) ?_
          refine z_iinc (pc := 1954) (i := 5) (n := 5) (lv' := fun v132 => [(5, zI v132), (7, zI x128.1), (6, zI x125.1), (0, zA b), (1, zR p8), (2, zR p9), (3, zR p10), (4, zR p11)]) 7 X dL_law_1954 rfl (hN _ (by decide)) (fun _ => rfl) (fun v132 hR9 hv9 => ?_)
          refine z_goto (pc := 1957) 28 X dL_law_1957 (by decide) ?_
          refine z_widen (c1 := 40 + (v132).toNat * 8) (s1 := 3000 + (v132).toNat * 64) (by omega) (by omega) ?_
          refine z_pick [3, 4, 5, 6, 7, 0] (lv' := [(0, zA b), (1, zR p8), (2, zR p9), (3, zR p10), (4, zR p11), (5, zI v132)]) rfl ?_
          exact z_back
        · exact z_none
      · refine z_lconst (pc := 1352) (z := 1) X dL_law_1352 rfl ?_
        refine z_goto (pc := 1353) 1357 X dL_law_1353 (by decide) ?_
        refine z_lcmp (pc := 1357) X dL_law_1357 ?_
        refine z_if_eq (pc := 1358) 1363 X dL_law_1358 (by decide) (fun _ => ?_) (fun _ => ?_)
        · refine z_goto (pc := 1363) 1954 X dL_law_1363 (by decide) ?_
          refine z_iinc (pc := 1954) (i := 5) (n := 5) (lv' := fun v133 => [(5, zI v133), (7, zI x128.1), (6, zI x125.1), (0, zA b), (1, zR p8), (2, zR p9), (3, zR p10), (4, zR p11)]) 7 X dL_law_1954 rfl (hN _ (by decide)) (fun _ => rfl) (fun v133 hR9 hv9 => ?_)
          refine z_goto (pc := 1957) 28 X dL_law_1957 (by decide) ?_
          refine z_widen (c1 := 40 + (v133).toNat * 8) (s1 := 3000 + (v133).toNat * 64) (by omega) (by omega) ?_
          refine z_pick [3, 4, 5, 6, 7, 0] (lv' := [(0, zA b), (1, zR p8), (2, zR p9), (3, zR p10), (4, zR p11), (5, zI v133)]) rfl ?_
          exact z_back
        · exact z_none
  · exact z_none
set_option maxRecDepth 40000 in
set_option maxHeartbeats 4000000 in
theorem cL_k15 (K : zK) (b L : Nat) (xs : Nat → Int32) (X : zX K cL_law RL zALL room_1) (hnL : K.2.2.2.2.2.2.2.2.2.2.2.2.2.2.1 = 9) (hscr : zscr K b L xs) (hL9 : L ≤ 2560) (p8 : Option Nat) (p9 : Option Nat) (p10 : Option Nat) (p11 : Option Nat) (s12 : Int × zH) (hi0 : 0 ≤ s12.1) (hi1 : s12.1 < (L : Int)) : zS (L_law_k15 xs L p8 p9 p10 s12) (zLG (fun s12 : Int × zH => zJ K (40 + (s12.1).toNat * 8) (3000 + (s12.1).toNat * 64) 28 [(0, zA b), (1, zR p8), (2, zR p9), (3, zR p10), (4, zR p11), (5, zI s12.1)] [] s12.2) (fun e13 : zH => zJ K 24040 195000 1960 [] [] e13)) (zJ K (40 + (s12.1).toNat * 8) (3000 + (s12.1).toNat * 64) 1219 [(0, zA b), (1, zR p8), (2, zR p9), (3, zR p10), (4, zR p11), (5, zI s12.1)] [] s12.2) := by
  have hN : ∀ i, i < 9 → i < K.2.2.2.2.2.2.2.2.2.2.2.2.2.2.1 := by rw [hnL]; exact fun _ h => h
  unfold L_law_k15
  refine z_aload_n (pc := 1219) (i := 1) 1 X dL_law_1219 rfl rfl ?_
  refine z_aload_nA (pc := 1220) (i := 0) 0 X dL_law_1220 rfl rfl ?_
  refine z_iload (pc := 1221) (i := 5) 5 X dL_law_1221 rfl ?_
  refine z_iconst (pc := 1223) (z := 1) X dL_law_1223 rfl ⟨by decide, by decide⟩ ?_
  refine z_iadd (pc := 1224) X dL_law_1224 (fun v134 _ _ => ?_)
  refine z_sld (pc := 1225) X hscr dL_law_1225 (fun v135 hi0 hi1 => ?_)
  refine z_aload_nA (pc := 1226) (i := 0) 0 X dL_law_1226 rfl rfl ?_
  refine z_iload (pc := 1227) (i := 5) 5 X dL_law_1227 rfl ?_
  refine z_iconst (pc := 1229) (z := 2) X dL_law_1229 rfl ⟨by decide, by decide⟩ ?_
  refine z_iadd (pc := 1230) X dL_law_1230 (fun v136 _ _ => ?_)
  refine z_sld (pc := 1231) X hscr dL_law_1231 (fun v137 hi0 hi1 => ?_)
  have hJ1240 : ∀ (j138 : Int), zS (L_law_j1240 xs L p8 p9 p10 s12 v135 j138) (zLG (fun s12 : Int × zH => zJ K (40 + (s12.1).toNat * 8) (3000 + (s12.1).toNat * 64) 28 [(0, zA b), (1, zR p8), (2, zR p9), (3, zR p10), (4, zR p11), (5, zI s12.1)] [] s12.2) (fun e13 : zH => zJ K 24040 195000 1960 [] [] e13)) (zJ K (40 + (s12.1).toNat * 8) (3000 + (s12.1).toNat * 64) 1240 [(0, zA b), (1, zR p8), (2, zR p9), (3, zR p10), (4, zR p11), (5, zI s12.1)] [zI j138, zI v135, zR p8] s12.2) := by
    intro j138
    unfold L_law_j1240
    refine z_aload_n (pc := 1240) (i := 3) 3 X dL_law_1240 rfl rfl ?_
    refine z_callW_i (pc := 1241) (cells := (40 + (s12.1).toNat * 8)) (slots := (3000 + (s12.1).toNat * 64)) [zR p8, zI v135, zI j138, zR p10] X dL_law_1241 (c_L_streetOf s12.2 p8 v135 j138 p10) kw_L_172 rfl ⟨rfl, rfl, ⟨by decide, by decide⟩, ⟨by show _ ≤ 603072; omega, by show _ ≤ 7190634; omega⟩⟩ (Nat.le_of_ble_eq_true rfl) rfl (fun x139 => ?_)
    refine z_istore (pc := 1244) (i := 6) (lv' := [(6, zI x139.1), (0, zA b), (1, zR p8), (2, zR p9), (3, zR p10), (4, zR p11), (5, zI s12.1)]) X dL_law_1244 (hN _ (by decide)) rfl ?_
    refine z_aload_n (pc := 1246) (i := 2) 3 X dL_law_1246 rfl rfl ?_
    refine z_aload_nA (pc := 1247) (i := 0) 1 X dL_law_1247 rfl rfl ?_
    refine z_iload (pc := 1248) (i := 5) 6 X dL_law_1248 rfl ?_
    refine z_iconst (pc := 1250) (z := 1) X dL_law_1250 rfl ⟨by decide, by decide⟩ ?_
    refine z_iadd (pc := 1251) X dL_law_1251 (fun v140 _ _ => ?_)
    refine z_sld (pc := 1252) X hscr dL_law_1252 (fun v141 hi0 hi1 => ?_)
    refine z_aload_nA (pc := 1253) (i := 0) 1 X dL_law_1253 rfl rfl ?_
    refine z_iload (pc := 1254) (i := 5) 6 X dL_law_1254 rfl ?_
    refine z_iconst (pc := 1256) (z := 2) X dL_law_1256 rfl ⟨by decide, by decide⟩ ?_
    refine z_iadd (pc := 1257) X dL_law_1257 (fun v142 _ _ => ?_)
    refine z_sld (pc := 1258) X hscr dL_law_1258 (fun v143 hi0 hi1 => ?_)
    have hJ1267 : ∀ (j144 : Int), zS (L_law_j1267 p9 p10 s12 x139 v141 j144) (zLG (fun s12 : Int × zH => zJ K (40 + (s12.1).toNat * 8) (3000 + (s12.1).toNat * 64) 28 [(0, zA b), (1, zR p8), (2, zR p9), (3, zR p10), (4, zR p11), (5, zI s12.1)] [] s12.2) (fun e13 : zH => zJ K 24040 195000 1960 [] [] e13)) (zJ K (40 + (s12.1).toNat * 8 + 2) (3000 + (s12.1).toNat * 64 + 12) 1267 [(0, zA b), (1, zR p8), (2, zR p9), (3, zR p10), (4, zR p11), (5, zI s12.1), (6, zI x139.1)] [zI j144, zI v141, zR p9] x139.2) := by
      intro j144
      unfold L_law_j1267
      refine z_callV_i (pc := 1267) (cells := (40 + (s12.1).toNat * 8 + 2)) (slots := (3000 + (s12.1).toNat * 64 + 12)) (C := RX8) (T := TX8) (N := 30) (ci := 9) [zI v141, zI j144] X dL_law_1267 (c_X8_streetOf x139.2 p9 v141 j144) kw_L_174 rfl rfl ⟨rfl, rfl, ⟨by decide, by decide⟩, ⟨by show _ ≤ 603072; omega, by show _ ≤ 7190634; omega⟩⟩ (Nat.le_of_ble_eq_true rfl) rfl (fun x145 => ?_)
      refine z_istore (pc := 1270) (i := 7) (lv' := [(7, zI x145.1), (0, zA b), (1, zR p8), (2, zR p9), (3, zR p10), (4, zR p11), (5, zI s12.1), (6, zI x139.1)]) X dL_law_1270 (hN _ (by decide)) rfl ?_
      refine z_aload_n (pc := 1272) (i := 2) 3 X dL_law_1272 rfl rfl ?_
      refine z_callV_i (pc := 1273) (cells := (40 + (s12.1).toNat * 8 + 2)) (slots := (3000 + (s12.1).toNat * 64 + 12)) (C := RX8) (T := TX8) (N := 30) (ci := 9) [] X dL_law_1273 (c_X8_thrown x145.2 p9) kw_L_118 rfl rfl ⟨rfl, rfl, ⟨by decide, by decide⟩, ⟨by show _ ≤ 603072; omega, by show _ ≤ 7190634; omega⟩⟩ (Nat.le_of_ble_eq_true rfl) rfl (fun x146 => ?_)
      refine z_iload (pc := 1276) (i := 6) 7 X dL_law_1276 rfl ?_
      refine z_icmp_eq (pc := 1278) 1283 X dL_law_1278 (by decide) (fun _ => ?_) (fun _ => ?_)
      · refine z_iload (pc := 1283) (i := 6) 7 X dL_law_1283 rfl ?_
        refine z_if_ne (pc := 1285) 1300 X dL_law_1285 (by decide) (fun _ => ?_) (fun _ => ?_)
        · refine z_goto (pc := 1300) 1954 X dL_law_1300 (by decide) ?_
          refine z_iinc (pc := 1954) (i := 5) (n := 5) (lv' := fun v147 => [(5, zI v147), (7, zI x145.1), (0, zA b), (1, zR p8), (2, zR p9), (3, zR p10), (4, zR p11), (6, zI x139.1)]) 6 X dL_law_1954 rfl (hN _ (by decide)) (fun _ => rfl) (fun v147 hR9 hv9 => ?_)
          refine z_goto (pc := 1957) 28 X dL_law_1957 (by decide) ?_
          refine z_widen (c1 := 40 + (v147).toNat * 8) (s1 := 3000 + (v147).toNat * 64) (by omega) (by omega) ?_
          refine z_pick [2, 3, 4, 5, 6, 0] (lv' := [(0, zA b), (1, zR p8), (2, zR p9), (3, zR p10), (4, zR p11), (5, zI v147)]) rfl ?_
          exact z_back
        · refine z_aload_n (pc := 1288) (i := 3) 4 X dL_law_1288 rfl rfl ?_
          refine z_iconst (pc := 1289) (z := 0) X dL_law_1289 rfl ⟨by decide, by decide⟩ ?_
          refine z_laload (pc := 1290) X dL_law_1290 (fun v148 => ?_)
          refine z_iload (pc := 1291) (i := 7) 0 X dL_law_1291 rfl ?_
          refine z_i2l (pc := 1293) X dL_law_1293 ?_
          refine z_lcmp (pc := 1294) X dL_law_1294 ?_
          refine z_if_eq (pc := 1295) 1300 X dL_law_1295 (by decide) (fun _ => ?_) (fun _ => ?_)
          · refine z_goto (pc := 1300) 1954 X dL_law_1300 (by decide) ?_
            refine z_iinc (pc := 1954) (i := 5) (n := 5) (lv' := fun v149 => [(5, zI v149), (7, zI x145.1), (0, zA b), (1, zR p8), (2, zR p9), (3, zR p10), (4, zR p11), (6, zI x139.1)]) 6 X dL_law_1954 rfl (hN _ (by decide)) (fun _ => rfl) (fun v149 hR9 hv9 => ?_)
            refine z_goto (pc := 1957) 28 X dL_law_1957 (by decide) ?_
            refine z_widen (c1 := 40 + (v149).toNat * 8) (s1 := 3000 + (v149).toNat * 64) (by omega) (by omega) ?_
            refine z_pick [2, 3, 4, 5, 6, 0] (lv' := [(0, zA b), (1, zR p8), (2, zR p9), (3, zR p10), (4, zR p11), (5, zI v149)]) rfl ?_
            exact z_back
          · exact z_none
      · exact z_none
    refine z_if_eq (pc := 1259) 1266 X dL_law_1259 (by decide) (fun _ => ?_) (fun _ => ?_)
    · refine z_iconst (pc := 1266) (z := 0) X dL_law_1266 rfl ⟨by decide, by decide⟩ ?_
      refine z_pick [1, 2, 3, 4, 5, 6, 0] (lv' := [(0, zA b), (1, zR p8), (2, zR p9), (3, zR p10), (4, zR p11), (5, zI s12.1), (6, zI x139.1)]) rfl ?_
      exact hJ1267 0
    · refine z_iconst (pc := 1262) (z := 1) X dL_law_1262 rfl ⟨by decide, by decide⟩ ?_
      refine z_goto (pc := 1263) 1267 X dL_law_1263 (by decide) ?_
      refine z_pick [1, 2, 3, 4, 5, 6, 0] (lv' := [(0, zA b), (1, zR p8), (2, zR p9), (3, zR p10), (4, zR p11), (5, zI s12.1), (6, zI x139.1)]) rfl ?_
      exact hJ1267 1
  refine z_if_eq (pc := 1232) 1239 X dL_law_1232 (by decide) (fun _ => ?_) (fun _ => ?_)
  · refine z_iconst (pc := 1239) (z := 0) X dL_law_1239 rfl ⟨by decide, by decide⟩ ?_
    exact hJ1240 0
  · refine z_iconst (pc := 1235) (z := 1) X dL_law_1235 rfl ⟨by decide, by decide⟩ ?_
    refine z_goto (pc := 1236) 1240 X dL_law_1236 (by decide) ?_
    exact hJ1240 1
set_option maxRecDepth 40000 in
set_option maxHeartbeats 4000000 in
theorem cL_k14 (K : zK) (b L : Nat) (xs : Nat → Int32) (X : zX K cL_law RL zALL room_1) (hnL : K.2.2.2.2.2.2.2.2.2.2.2.2.2.2.1 = 9) (hscr : zscr K b L xs) (hL9 : L ≤ 2560) (p8 : Option Nat) (p9 : Option Nat) (p10 : Option Nat) (p11 : Option Nat) (s12 : Int × zH) (hi0 : 0 ≤ s12.1) (hi1 : s12.1 < (L : Int)) : zS (L_law_k14 xs L p8 p9 p10 s12) (zLG (fun s12 : Int × zH => zJ K (40 + (s12.1).toNat * 8) (3000 + (s12.1).toNat * 64) 28 [(0, zA b), (1, zR p8), (2, zR p9), (3, zR p10), (4, zR p11), (5, zI s12.1)] [] s12.2) (fun e13 : zH => zJ K 24040 195000 1960 [] [] e13)) (zJ K (40 + (s12.1).toNat * 8) (3000 + (s12.1).toNat * 64) 1135 [(0, zA b), (1, zR p8), (2, zR p9), (3, zR p10), (4, zR p11), (5, zI s12.1)] [] s12.2) := by
  have hN : ∀ i, i < 9 → i < K.2.2.2.2.2.2.2.2.2.2.2.2.2.2.1 := by rw [hnL]; exact fun _ h => h
  unfold L_law_k14
  refine z_aload_n (pc := 1135) (i := 1) 1 X dL_law_1135 rfl rfl ?_
  refine z_aload_nA (pc := 1136) (i := 0) 0 X dL_law_1136 rfl rfl ?_
  refine z_iload (pc := 1137) (i := 5) 5 X dL_law_1137 rfl ?_
  refine z_iconst (pc := 1139) (z := 1) X dL_law_1139 rfl ⟨by decide, by decide⟩ ?_
  refine z_iadd (pc := 1140) X dL_law_1140 (fun v150 _ _ => ?_)
  refine z_sld (pc := 1141) X hscr dL_law_1141 (fun v151 hi0 hi1 => ?_)
  refine z_aload_nA (pc := 1142) (i := 0) 0 X dL_law_1142 rfl rfl ?_
  refine z_iload (pc := 1143) (i := 5) 5 X dL_law_1143 rfl ?_
  refine z_iconst (pc := 1145) (z := 2) X dL_law_1145 rfl ⟨by decide, by decide⟩ ?_
  refine z_iadd (pc := 1146) X dL_law_1146 (fun v152 _ _ => ?_)
  refine z_sld (pc := 1147) X hscr dL_law_1147 (fun v153 hi0 hi1 => ?_)
  have hJ1156 : ∀ (j154 : Int), zS (L_law_j1156 xs L p8 p9 p10 s12 v151 j154) (zLG (fun s12 : Int × zH => zJ K (40 + (s12.1).toNat * 8) (3000 + (s12.1).toNat * 64) 28 [(0, zA b), (1, zR p8), (2, zR p9), (3, zR p10), (4, zR p11), (5, zI s12.1)] [] s12.2) (fun e13 : zH => zJ K 24040 195000 1960 [] [] e13)) (zJ K (40 + (s12.1).toNat * 8) (3000 + (s12.1).toNat * 64) 1156 [(0, zA b), (1, zR p8), (2, zR p9), (3, zR p10), (4, zR p11), (5, zI s12.1)] [zI j154, zI v151, zR p8] s12.2) := by
    intro j154
    unfold L_law_j1156
    refine z_aload_n (pc := 1156) (i := 3) 3 X dL_law_1156 rfl rfl ?_
    refine z_callW_i (pc := 1157) (cells := (40 + (s12.1).toNat * 8)) (slots := (3000 + (s12.1).toNat * 64)) [zR p8, zI v151, zI j154, zR p10] X dL_law_1157 (c_L_address s12.2 p8 v151 j154 p10) kw_L_168 rfl ⟨rfl, rfl, ⟨by decide, by decide⟩, ⟨by show _ ≤ 603072; omega, by show _ ≤ 7190634; omega⟩⟩ (Nat.le_of_ble_eq_true rfl) rfl (fun x155 => ?_)
    refine z_istore (pc := 1160) (i := 6) (lv' := [(6, zI x155.1), (0, zA b), (1, zR p8), (2, zR p9), (3, zR p10), (4, zR p11), (5, zI s12.1)]) X dL_law_1160 (hN _ (by decide)) rfl ?_
    refine z_aload_n (pc := 1162) (i := 2) 3 X dL_law_1162 rfl rfl ?_
    refine z_aload_nA (pc := 1163) (i := 0) 1 X dL_law_1163 rfl rfl ?_
    refine z_iload (pc := 1164) (i := 5) 6 X dL_law_1164 rfl ?_
    refine z_iconst (pc := 1166) (z := 1) X dL_law_1166 rfl ⟨by decide, by decide⟩ ?_
    refine z_iadd (pc := 1167) X dL_law_1167 (fun v156 _ _ => ?_)
    refine z_sld (pc := 1168) X hscr dL_law_1168 (fun v157 hi0 hi1 => ?_)
    refine z_aload_nA (pc := 1169) (i := 0) 1 X dL_law_1169 rfl rfl ?_
    refine z_iload (pc := 1170) (i := 5) 6 X dL_law_1170 rfl ?_
    refine z_iconst (pc := 1172) (z := 2) X dL_law_1172 rfl ⟨by decide, by decide⟩ ?_
    refine z_iadd (pc := 1173) X dL_law_1173 (fun v158 _ _ => ?_)
    refine z_sld (pc := 1174) X hscr dL_law_1174 (fun v159 hi0 hi1 => ?_)
    have hJ1183 : ∀ (j160 : Int), zS (L_law_j1183 p9 p10 s12 x155 v157 j160) (zLG (fun s12 : Int × zH => zJ K (40 + (s12.1).toNat * 8) (3000 + (s12.1).toNat * 64) 28 [(0, zA b), (1, zR p8), (2, zR p9), (3, zR p10), (4, zR p11), (5, zI s12.1)] [] s12.2) (fun e13 : zH => zJ K 24040 195000 1960 [] [] e13)) (zJ K (40 + (s12.1).toNat * 8 + 2) (3000 + (s12.1).toNat * 64 + 12) 1183 [(0, zA b), (1, zR p8), (2, zR p9), (3, zR p10), (4, zR p11), (5, zI s12.1), (6, zI x155.1)] [zI j160, zI v157, zR p9] x155.2) := by
      intro j160
      unfold L_law_j1183
      refine z_callV_i (pc := 1183) (cells := (40 + (s12.1).toNat * 8 + 2)) (slots := (3000 + (s12.1).toNat * 64 + 12)) (C := RX8) (T := TX8) (N := 30) (ci := 9) [zI v157, zI j160] X dL_law_1183 (c_X8_address x155.2 p9 v157 j160) kw_L_171 rfl rfl ⟨rfl, rfl, ⟨by decide, by decide⟩, ⟨by show _ ≤ 603072; omega, by show _ ≤ 7190634; omega⟩⟩ (Nat.le_of_ble_eq_true rfl) rfl (fun x161 => ?_)
      refine z_istore (pc := 1186) (i := 7) (lv' := [(7, zI x161.1), (0, zA b), (1, zR p8), (2, zR p9), (3, zR p10), (4, zR p11), (5, zI s12.1), (6, zI x155.1)]) X dL_law_1186 (hN _ (by decide)) rfl ?_
      refine z_aload_n (pc := 1188) (i := 2) 3 X dL_law_1188 rfl rfl ?_
      refine z_callV_i (pc := 1189) (cells := (40 + (s12.1).toNat * 8 + 2)) (slots := (3000 + (s12.1).toNat * 64 + 12)) (C := RX8) (T := TX8) (N := 30) (ci := 9) [] X dL_law_1189 (c_X8_thrown x161.2 p9) kw_L_118 rfl rfl ⟨rfl, rfl, ⟨by decide, by decide⟩, ⟨by show _ ≤ 603072; omega, by show _ ≤ 7190634; omega⟩⟩ (Nat.le_of_ble_eq_true rfl) rfl (fun x162 => ?_)
      refine z_iload (pc := 1192) (i := 6) 7 X dL_law_1192 rfl ?_
      refine z_icmp_eq (pc := 1194) 1199 X dL_law_1194 (by decide) (fun _ => ?_) (fun _ => ?_)
      · refine z_iload (pc := 1199) (i := 6) 7 X dL_law_1199 rfl ?_
        refine z_if_ne (pc := 1201) 1216 X dL_law_1201 (by decide) (fun _ => ?_) (fun _ => ?_)
        · refine z_goto (pc := 1216) 1954 X dL_law_1216 (by decide) ?_
          refine z_iinc (pc := 1954) (i := 5) (n := 5) (lv' := fun v163 => [(5, zI v163), (7, zI x161.1), (0, zA b), (1, zR p8), (2, zR p9), (3, zR p10), (4, zR p11), (6, zI x155.1)]) 6 X dL_law_1954 rfl (hN _ (by decide)) (fun _ => rfl) (fun v163 hR9 hv9 => ?_)
          refine z_goto (pc := 1957) 28 X dL_law_1957 (by decide) ?_
          refine z_widen (c1 := 40 + (v163).toNat * 8) (s1 := 3000 + (v163).toNat * 64) (by omega) (by omega) ?_
          refine z_pick [2, 3, 4, 5, 6, 0] (lv' := [(0, zA b), (1, zR p8), (2, zR p9), (3, zR p10), (4, zR p11), (5, zI v163)]) rfl ?_
          exact z_back
        · refine z_aload_n (pc := 1204) (i := 3) 4 X dL_law_1204 rfl rfl ?_
          refine z_iconst (pc := 1205) (z := 0) X dL_law_1205 rfl ⟨by decide, by decide⟩ ?_
          refine z_laload (pc := 1206) X dL_law_1206 (fun v164 => ?_)
          refine z_iload (pc := 1207) (i := 7) 0 X dL_law_1207 rfl ?_
          refine z_i2l (pc := 1209) X dL_law_1209 ?_
          refine z_lcmp (pc := 1210) X dL_law_1210 ?_
          refine z_if_eq (pc := 1211) 1216 X dL_law_1211 (by decide) (fun _ => ?_) (fun _ => ?_)
          · refine z_goto (pc := 1216) 1954 X dL_law_1216 (by decide) ?_
            refine z_iinc (pc := 1954) (i := 5) (n := 5) (lv' := fun v165 => [(5, zI v165), (7, zI x161.1), (0, zA b), (1, zR p8), (2, zR p9), (3, zR p10), (4, zR p11), (6, zI x155.1)]) 6 X dL_law_1954 rfl (hN _ (by decide)) (fun _ => rfl) (fun v165 hR9 hv9 => ?_)
            refine z_goto (pc := 1957) 28 X dL_law_1957 (by decide) ?_
            refine z_widen (c1 := 40 + (v165).toNat * 8) (s1 := 3000 + (v165).toNat * 64) (by omega) (by omega) ?_
            refine z_pick [2, 3, 4, 5, 6, 0] (lv' := [(0, zA b), (1, zR p8), (2, zR p9), (3, zR p10), (4, zR p11), (5, zI v165)]) rfl ?_
            exact z_back
          · exact z_none
      · exact z_none
    refine z_if_eq (pc := 1175) 1182 X dL_law_1175 (by decide) (fun _ => ?_) (fun _ => ?_)
    · refine z_iconst (pc := 1182) (z := 0) X dL_law_1182 rfl ⟨by decide, by decide⟩ ?_
      refine z_pick [1, 2, 3, 4, 5, 6, 0] (lv' := [(0, zA b), (1, zR p8), (2, zR p9), (3, zR p10), (4, zR p11), (5, zI s12.1), (6, zI x155.1)]) rfl ?_
      exact hJ1183 0
    · refine z_iconst (pc := 1178) (z := 1) X dL_law_1178 rfl ⟨by decide, by decide⟩ ?_
      refine z_goto (pc := 1179) 1183 X dL_law_1179 (by decide) ?_
      refine z_pick [1, 2, 3, 4, 5, 6, 0] (lv' := [(0, zA b), (1, zR p8), (2, zR p9), (3, zR p10), (4, zR p11), (5, zI s12.1), (6, zI x155.1)]) rfl ?_
      exact hJ1183 1
  refine z_if_eq (pc := 1148) 1155 X dL_law_1148 (by decide) (fun _ => ?_) (fun _ => ?_)
  · refine z_iconst (pc := 1155) (z := 0) X dL_law_1155 rfl ⟨by decide, by decide⟩ ?_
    exact hJ1156 0
  · refine z_iconst (pc := 1151) (z := 1) X dL_law_1151 rfl ⟨by decide, by decide⟩ ?_
    refine z_goto (pc := 1152) 1156 X dL_law_1152 (by decide) ?_
    exact hJ1156 1
set_option maxRecDepth 40000 in
set_option maxHeartbeats 4000000 in
theorem cL_k13 (K : zK) (b L : Nat) (xs : Nat → Int32) (X : zX K cL_law RL zALL room_1) (hnL : K.2.2.2.2.2.2.2.2.2.2.2.2.2.2.1 = 9) (hscr : zscr K b L xs) (hL9 : L ≤ 2560) (p8 : Option Nat) (p9 : Option Nat) (p10 : Option Nat) (p11 : Option Nat) (s12 : Int × zH) (hi0 : 0 ≤ s12.1) (hi1 : s12.1 < (L : Int)) : zS (L_law_k13 xs L p8 p9 p10 s12) (zLG (fun s12 : Int × zH => zJ K (40 + (s12.1).toNat * 8) (3000 + (s12.1).toNat * 64) 28 [(0, zA b), (1, zR p8), (2, zR p9), (3, zR p10), (4, zR p11), (5, zI s12.1)] [] s12.2) (fun e13 : zH => zJ K 24040 195000 1960 [] [] e13)) (zJ K (40 + (s12.1).toNat * 8) (3000 + (s12.1).toNat * 64) 1079 [(0, zA b), (1, zR p8), (2, zR p9), (3, zR p10), (4, zR p11), (5, zI s12.1)] [] s12.2) := by
  have hN : ∀ i, i < 9 → i < K.2.2.2.2.2.2.2.2.2.2.2.2.2.2.1 := by rw [hnL]; exact fun _ h => h
  unfold L_law_k13
  refine z_aload_n (pc := 1079) (i := 1) 1 X dL_law_1079 rfl rfl ?_
  refine z_aload_nA (pc := 1080) (i := 0) 0 X dL_law_1080 rfl rfl ?_
  refine z_iload (pc := 1081) (i := 5) 5 X dL_law_1081 rfl ?_
  refine z_iconst (pc := 1083) (z := 1) X dL_law_1083 rfl ⟨by decide, by decide⟩ ?_
  refine z_iadd (pc := 1084) X dL_law_1084 (fun v166 _ _ => ?_)
  refine z_sld (pc := 1085) X hscr dL_law_1085 (fun v167 hi0 hi1 => ?_)
  refine z_aload_n (pc := 1086) (i := 3) 3 X dL_law_1086 rfl rfl ?_
  refine z_callW_i (pc := 1087) (cells := (40 + (s12.1).toNat * 8)) (slots := (3000 + (s12.1).toNat * 64)) [zR p8, zI v167, zR p10] X dL_law_1087 (c_L_day s12.2 p8 v167 p10) kw_L_165 rfl ⟨rfl, rfl, ⟨by decide, by decide⟩, ⟨by show _ ≤ 603072; omega, by show _ ≤ 7190634; omega⟩⟩ (Nat.le_of_ble_eq_true rfl) rfl (fun x168 => ?_)
  refine z_istore (pc := 1090) (i := 6) (lv' := [(6, zI x168.1), (0, zA b), (1, zR p8), (2, zR p9), (3, zR p10), (4, zR p11), (5, zI s12.1)]) X dL_law_1090 (hN _ (by decide)) rfl ?_
  refine z_aload_n (pc := 1092) (i := 2) 3 X dL_law_1092 rfl rfl ?_
  refine z_aload_nA (pc := 1093) (i := 0) 1 X dL_law_1093 rfl rfl ?_
  refine z_iload (pc := 1094) (i := 5) 6 X dL_law_1094 rfl ?_
  refine z_iconst (pc := 1096) (z := 1) X dL_law_1096 rfl ⟨by decide, by decide⟩ ?_
  refine z_iadd (pc := 1097) X dL_law_1097 (fun v169 _ _ => ?_)
  refine z_sld (pc := 1098) X hscr dL_law_1098 (fun v170 hi0 hi1 => ?_)
  refine z_callV_i (pc := 1099) (cells := (40 + (s12.1).toNat * 8 + 1)) (slots := (3000 + (s12.1).toNat * 64 + 6)) (C := RX8) (T := TX8) (N := 30) (ci := 9) [zI v170] X dL_law_1099 (c_X8_day x168.2 p9 v170) kw_L_167 rfl rfl ⟨rfl, rfl, ⟨by decide, by decide⟩, ⟨by show _ ≤ 603072; omega, by show _ ≤ 7190634; omega⟩⟩ (Nat.le_of_ble_eq_true rfl) rfl (fun x171 => ?_)
  refine z_istore (pc := 1102) (i := 7) (lv' := [(7, zI x171.1), (6, zI x168.1), (0, zA b), (1, zR p8), (2, zR p9), (3, zR p10), (4, zR p11), (5, zI s12.1)]) X dL_law_1102 (hN _ (by decide)) rfl ?_
  refine z_aload_n (pc := 1104) (i := 2) 4 X dL_law_1104 rfl rfl ?_
  refine z_callV_i (pc := 1105) (cells := (40 + (s12.1).toNat * 8 + 1)) (slots := (3000 + (s12.1).toNat * 64 + 6)) (C := RX8) (T := TX8) (N := 30) (ci := 9) [] X dL_law_1105 (c_X8_thrown x171.2 p9) kw_L_118 rfl rfl ⟨rfl, rfl, ⟨by decide, by decide⟩, ⟨by show _ ≤ 603072; omega, by show _ ≤ 7190634; omega⟩⟩ (Nat.le_of_ble_eq_true rfl) rfl (fun x172 => ?_)
  refine z_iload (pc := 1108) (i := 6) 1 X dL_law_1108 rfl ?_
  refine z_icmp_eq (pc := 1110) 1115 X dL_law_1110 (by decide) (fun _ => ?_) (fun _ => ?_)
  · refine z_iload (pc := 1115) (i := 6) 1 X dL_law_1115 rfl ?_
    refine z_if_ne (pc := 1117) 1132 X dL_law_1117 (by decide) (fun _ => ?_) (fun _ => ?_)
    · refine z_goto (pc := 1132) 1954 X dL_law_1132 (by decide) ?_
      refine z_iinc (pc := 1954) (i := 5) (n := 5) (lv' := fun v173 => [(5, zI v173), (7, zI x171.1), (6, zI x168.1), (0, zA b), (1, zR p8), (2, zR p9), (3, zR p10), (4, zR p11)]) 7 X dL_law_1954 rfl (hN _ (by decide)) (fun _ => rfl) (fun v173 hR9 hv9 => ?_)
      refine z_goto (pc := 1957) 28 X dL_law_1957 (by decide) ?_
      refine z_widen (c1 := 40 + (v173).toNat * 8) (s1 := 3000 + (v173).toNat * 64) (by omega) (by omega) ?_
      refine z_pick [3, 4, 5, 6, 7, 0] (lv' := [(0, zA b), (1, zR p8), (2, zR p9), (3, zR p10), (4, zR p11), (5, zI v173)]) rfl ?_
      exact z_back
    · refine z_aload_n (pc := 1120) (i := 3) 5 X dL_law_1120 rfl rfl ?_
      refine z_iconst (pc := 1121) (z := 0) X dL_law_1121 rfl ⟨by decide, by decide⟩ ?_
      refine z_laload (pc := 1122) X dL_law_1122 (fun v174 => ?_)
      refine z_iload (pc := 1123) (i := 7) 0 X dL_law_1123 rfl ?_
      refine z_i2l (pc := 1125) X dL_law_1125 ?_
      refine z_lcmp (pc := 1126) X dL_law_1126 ?_
      refine z_if_eq (pc := 1127) 1132 X dL_law_1127 (by decide) (fun _ => ?_) (fun _ => ?_)
      · refine z_goto (pc := 1132) 1954 X dL_law_1132 (by decide) ?_
        refine z_iinc (pc := 1954) (i := 5) (n := 5) (lv' := fun v175 => [(5, zI v175), (7, zI x171.1), (6, zI x168.1), (0, zA b), (1, zR p8), (2, zR p9), (3, zR p10), (4, zR p11)]) 7 X dL_law_1954 rfl (hN _ (by decide)) (fun _ => rfl) (fun v175 hR9 hv9 => ?_)
        refine z_goto (pc := 1957) 28 X dL_law_1957 (by decide) ?_
        refine z_widen (c1 := 40 + (v175).toNat * 8) (s1 := 3000 + (v175).toNat * 64) (by omega) (by omega) ?_
        refine z_pick [3, 4, 5, 6, 7, 0] (lv' := [(0, zA b), (1, zR p8), (2, zR p9), (3, zR p10), (4, zR p11), (5, zI v175)]) rfl ?_
        exact z_back
      · exact z_none
  · exact z_none
set_option maxRecDepth 40000 in
set_option maxHeartbeats 4000000 in
theorem cL_k12 (K : zK) (b L : Nat) (xs : Nat → Int32) (X : zX K cL_law RL zALL room_1) (hnL : K.2.2.2.2.2.2.2.2.2.2.2.2.2.2.1 = 9) (hscr : zscr K b L xs) (hL9 : L ≤ 2560) (p8 : Option Nat) (p9 : Option Nat) (p10 : Option Nat) (p11 : Option Nat) (s12 : Int × zH) (hi0 : 0 ≤ s12.1) (hi1 : s12.1 < (L : Int)) : zS (L_law_k12 xs L p8 p9 p10 s12) (zLG (fun s12 : Int × zH => zJ K (40 + (s12.1).toNat * 8) (3000 + (s12.1).toNat * 64) 28 [(0, zA b), (1, zR p8), (2, zR p9), (3, zR p10), (4, zR p11), (5, zI s12.1)] [] s12.2) (fun e13 : zH => zJ K 24040 195000 1960 [] [] e13)) (zJ K (40 + (s12.1).toNat * 8) (3000 + (s12.1).toNat * 64) 1011 [(0, zA b), (1, zR p8), (2, zR p9), (3, zR p10), (4, zR p11), (5, zI s12.1)] [] s12.2) := by
  have hN : ∀ i, i < 9 → i < K.2.2.2.2.2.2.2.2.2.2.2.2.2.2.1 := by rw [hnL]; exact fun _ h => h
  unfold L_law_k12
  refine z_aload_n (pc := 1011) (i := 1) 1 X dL_law_1011 rfl rfl ?_
  refine z_aload_nA (pc := 1012) (i := 0) 0 X dL_law_1012 rfl rfl ?_
  refine z_iload (pc := 1013) (i := 5) 5 X dL_law_1013 rfl ?_
  refine z_iconst (pc := 1015) (z := 1) X dL_law_1015 rfl ⟨by decide, by decide⟩ ?_
  refine z_iadd (pc := 1016) X dL_law_1016 (fun v176 _ _ => ?_)
  refine z_sld (pc := 1017) X hscr dL_law_1017 (fun v177 hi0 hi1 => ?_)
  refine z_aload_nA (pc := 1018) (i := 0) 0 X dL_law_1018 rfl rfl ?_
  refine z_iload (pc := 1019) (i := 5) 5 X dL_law_1019 rfl ?_
  refine z_iconst (pc := 1021) (z := 2) X dL_law_1021 rfl ⟨by decide, by decide⟩ ?_
  refine z_iadd (pc := 1022) X dL_law_1022 (fun v178 _ _ => ?_)
  refine z_sld (pc := 1023) X hscr dL_law_1023 (fun v179 hi0 hi1 => ?_)
  refine z_aload_n (pc := 1024) (i := 3) 3 X dL_law_1024 rfl rfl ?_
  refine z_callW_i (pc := 1025) (cells := (40 + (s12.1).toNat * 8)) (slots := (3000 + (s12.1).toNat * 64)) [zR p8, zI v177, zI v179, zR p10] X dL_law_1025 (c_L_join s12.2 p8 v177 v179 p10) kw_L_162 rfl ⟨rfl, rfl, ⟨by decide, by decide⟩, ⟨by show _ ≤ 603072; omega, by show _ ≤ 7190634; omega⟩⟩ (Nat.le_of_ble_eq_true rfl) rfl (fun x180 => ?_)
  refine z_istore (pc := 1028) (i := 6) (lv' := [(6, zI x180.1), (0, zA b), (1, zR p8), (2, zR p9), (3, zR p10), (4, zR p11), (5, zI s12.1)]) X dL_law_1028 (hN _ (by decide)) rfl ?_
  refine z_aload_n (pc := 1030) (i := 2) 3 X dL_law_1030 rfl rfl ?_
  refine z_aload_nA (pc := 1031) (i := 0) 1 X dL_law_1031 rfl rfl ?_
  refine z_iload (pc := 1032) (i := 5) 6 X dL_law_1032 rfl ?_
  refine z_iconst (pc := 1034) (z := 1) X dL_law_1034 rfl ⟨by decide, by decide⟩ ?_
  refine z_iadd (pc := 1035) X dL_law_1035 (fun v181 _ _ => ?_)
  refine z_sld (pc := 1036) X hscr dL_law_1036 (fun v182 hi0 hi1 => ?_)
  refine z_aload_nA (pc := 1037) (i := 0) 1 X dL_law_1037 rfl rfl ?_
  refine z_iload (pc := 1038) (i := 5) 6 X dL_law_1038 rfl ?_
  refine z_iconst (pc := 1040) (z := 2) X dL_law_1040 rfl ⟨by decide, by decide⟩ ?_
  refine z_iadd (pc := 1041) X dL_law_1041 (fun v183 _ _ => ?_)
  refine z_sld (pc := 1042) X hscr dL_law_1042 (fun v184 hi0 hi1 => ?_)
  refine z_callV_i (pc := 1043) (cells := (40 + (s12.1).toNat * 8 + 3)) (slots := (3000 + (s12.1).toNat * 64 + 18)) (C := RX8) (T := TX8) (N := 30) (ci := 9) [zI v182, zI v184] X dL_law_1043 (c_X8_join x180.2 p9 v182 v184) kw_L_164 rfl rfl ⟨rfl, rfl, ⟨by decide, by decide⟩, ⟨by show _ ≤ 603072; omega, by show _ ≤ 7190634; omega⟩⟩ (Nat.le_of_ble_eq_true rfl) rfl (fun x185 => ?_)
  refine z_istore (pc := 1046) (i := 7) (lv' := [(7, zI x185.1), (6, zI x180.1), (0, zA b), (1, zR p8), (2, zR p9), (3, zR p10), (4, zR p11), (5, zI s12.1)]) X dL_law_1046 (hN _ (by decide)) rfl ?_
  refine z_aload_n (pc := 1048) (i := 2) 4 X dL_law_1048 rfl rfl ?_
  refine z_callV_i (pc := 1049) (cells := (40 + (s12.1).toNat * 8 + 3)) (slots := (3000 + (s12.1).toNat * 64 + 18)) (C := RX8) (T := TX8) (N := 30) (ci := 9) [] X dL_law_1049 (c_X8_thrown x185.2 p9) kw_L_118 rfl rfl ⟨rfl, rfl, ⟨by decide, by decide⟩, ⟨by show _ ≤ 603072; omega, by show _ ≤ 7190634; omega⟩⟩ (Nat.le_of_ble_eq_true rfl) rfl (fun x186 => ?_)
  refine z_iload (pc := 1052) (i := 6) 1 X dL_law_1052 rfl ?_
  refine z_icmp_eq (pc := 1054) 1059 X dL_law_1054 (by decide) (fun _ => ?_) (fun _ => ?_)
  · refine z_iload (pc := 1059) (i := 6) 1 X dL_law_1059 rfl ?_
    refine z_if_ne (pc := 1061) 1076 X dL_law_1061 (by decide) (fun _ => ?_) (fun _ => ?_)
    · refine z_goto (pc := 1076) 1954 X dL_law_1076 (by decide) ?_
      refine z_iinc (pc := 1954) (i := 5) (n := 5) (lv' := fun v187 => [(5, zI v187), (7, zI x185.1), (6, zI x180.1), (0, zA b), (1, zR p8), (2, zR p9), (3, zR p10), (4, zR p11)]) 7 X dL_law_1954 rfl (hN _ (by decide)) (fun _ => rfl) (fun v187 hR9 hv9 => ?_)
      refine z_goto (pc := 1957) 28 X dL_law_1957 (by decide) ?_
      refine z_widen (c1 := 40 + (v187).toNat * 8) (s1 := 3000 + (v187).toNat * 64) (by omega) (by omega) ?_
      refine z_pick [3, 4, 5, 6, 7, 0] (lv' := [(0, zA b), (1, zR p8), (2, zR p9), (3, zR p10), (4, zR p11), (5, zI v187)]) rfl ?_
      exact z_back
    · refine z_aload_n (pc := 1064) (i := 3) 5 X dL_law_1064 rfl rfl ?_
      refine z_iconst (pc := 1065) (z := 0) X dL_law_1065 rfl ⟨by decide, by decide⟩ ?_
      refine z_laload (pc := 1066) X dL_law_1066 (fun v188 => ?_)
      refine z_iload (pc := 1067) (i := 7) 0 X dL_law_1067 rfl ?_
      refine z_i2l (pc := 1069) X dL_law_1069 ?_
      refine z_lcmp (pc := 1070) X dL_law_1070 ?_
      refine z_if_eq (pc := 1071) 1076 X dL_law_1071 (by decide) (fun _ => ?_) (fun _ => ?_)
      · refine z_goto (pc := 1076) 1954 X dL_law_1076 (by decide) ?_
        refine z_iinc (pc := 1954) (i := 5) (n := 5) (lv' := fun v189 => [(5, zI v189), (7, zI x185.1), (6, zI x180.1), (0, zA b), (1, zR p8), (2, zR p9), (3, zR p10), (4, zR p11)]) 7 X dL_law_1954 rfl (hN _ (by decide)) (fun _ => rfl) (fun v189 hR9 hv9 => ?_)
        refine z_goto (pc := 1957) 28 X dL_law_1957 (by decide) ?_
        refine z_widen (c1 := 40 + (v189).toNat * 8) (s1 := 3000 + (v189).toNat * 64) (by omega) (by omega) ?_
        refine z_pick [3, 4, 5, 6, 7, 0] (lv' := [(0, zA b), (1, zR p8), (2, zR p9), (3, zR p10), (4, zR p11), (5, zI v189)]) rfl ?_
        exact z_back
      · exact z_none
  · exact z_none
set_option maxRecDepth 40000 in
set_option maxHeartbeats 4000000 in
theorem cL_k11 (K : zK) (b L : Nat) (xs : Nat → Int32) (X : zX K cL_law RL zALL room_1) (hnL : K.2.2.2.2.2.2.2.2.2.2.2.2.2.2.1 = 9) (hscr : zscr K b L xs) (hL9 : L ≤ 2560) (p8 : Option Nat) (p9 : Option Nat) (p10 : Option Nat) (p11 : Option Nat) (s12 : Int × zH) (hi0 : 0 ≤ s12.1) (hi1 : s12.1 < (L : Int)) : zS (L_law_k11 xs L p8 p9 p10 s12) (zLG (fun s12 : Int × zH => zJ K (40 + (s12.1).toNat * 8) (3000 + (s12.1).toNat * 64) 28 [(0, zA b), (1, zR p8), (2, zR p9), (3, zR p10), (4, zR p11), (5, zI s12.1)] [] s12.2) (fun e13 : zH => zJ K 24040 195000 1960 [] [] e13)) (zJ K (40 + (s12.1).toNat * 8) (3000 + (s12.1).toNat * 64) 955 [(0, zA b), (1, zR p8), (2, zR p9), (3, zR p10), (4, zR p11), (5, zI s12.1)] [] s12.2) := by
  have hN : ∀ i, i < 9 → i < K.2.2.2.2.2.2.2.2.2.2.2.2.2.2.1 := by rw [hnL]; exact fun _ h => h
  unfold L_law_k11
  refine z_aload_n (pc := 955) (i := 1) 1 X dL_law_955 rfl rfl ?_
  refine z_aload_nA (pc := 956) (i := 0) 0 X dL_law_956 rfl rfl ?_
  refine z_iload (pc := 957) (i := 5) 5 X dL_law_957 rfl ?_
  refine z_iconst (pc := 959) (z := 1) X dL_law_959 rfl ⟨by decide, by decide⟩ ?_
  refine z_iadd (pc := 960) X dL_law_960 (fun v190 _ _ => ?_)
  refine z_sld (pc := 961) X hscr dL_law_961 (fun v191 hi0 hi1 => ?_)
  refine z_aload_n (pc := 962) (i := 3) 3 X dL_law_962 rfl rfl ?_
  refine z_callW_i (pc := 963) (cells := (40 + (s12.1).toNat * 8)) (slots := (3000 + (s12.1).toNat * 64)) [zR p8, zI v191, zR p10] X dL_law_963 (c_L_renumber s12.2 p8 v191 p10) kw_L_159 rfl ⟨rfl, rfl, ⟨by decide, by decide⟩, ⟨by show _ ≤ 603072; omega, by show _ ≤ 7190634; omega⟩⟩ (Nat.le_of_ble_eq_true rfl) rfl (fun x192 => ?_)
  refine z_istore (pc := 966) (i := 6) (lv' := [(6, zI x192.1), (0, zA b), (1, zR p8), (2, zR p9), (3, zR p10), (4, zR p11), (5, zI s12.1)]) X dL_law_966 (hN _ (by decide)) rfl ?_
  refine z_aload_n (pc := 968) (i := 2) 3 X dL_law_968 rfl rfl ?_
  refine z_aload_nA (pc := 969) (i := 0) 1 X dL_law_969 rfl rfl ?_
  refine z_iload (pc := 970) (i := 5) 6 X dL_law_970 rfl ?_
  refine z_iconst (pc := 972) (z := 1) X dL_law_972 rfl ⟨by decide, by decide⟩ ?_
  refine z_iadd (pc := 973) X dL_law_973 (fun v193 _ _ => ?_)
  refine z_sld (pc := 974) X hscr dL_law_974 (fun v194 hi0 hi1 => ?_)
  refine z_callV_i (pc := 975) (cells := (40 + (s12.1).toNat * 8 + 2)) (slots := (3000 + (s12.1).toNat * 64 + 12)) (C := RX8) (T := TX8) (N := 30) (ci := 9) [zI v194] X dL_law_975 (c_X8_renumber x192.2 p9 v194) kw_L_161 rfl rfl ⟨rfl, rfl, ⟨by decide, by decide⟩, ⟨by show _ ≤ 603072; omega, by show _ ≤ 7190634; omega⟩⟩ (Nat.le_of_ble_eq_true rfl) rfl (fun x195 => ?_)
  refine z_istore (pc := 978) (i := 7) (lv' := [(7, zI x195.1), (6, zI x192.1), (0, zA b), (1, zR p8), (2, zR p9), (3, zR p10), (4, zR p11), (5, zI s12.1)]) X dL_law_978 (hN _ (by decide)) rfl ?_
  refine z_aload_n (pc := 980) (i := 2) 4 X dL_law_980 rfl rfl ?_
  refine z_callV_i (pc := 981) (cells := (40 + (s12.1).toNat * 8 + 2)) (slots := (3000 + (s12.1).toNat * 64 + 12)) (C := RX8) (T := TX8) (N := 30) (ci := 9) [] X dL_law_981 (c_X8_thrown x195.2 p9) kw_L_118 rfl rfl ⟨rfl, rfl, ⟨by decide, by decide⟩, ⟨by show _ ≤ 603072; omega, by show _ ≤ 7190634; omega⟩⟩ (Nat.le_of_ble_eq_true rfl) rfl (fun x196 => ?_)
  refine z_iload (pc := 984) (i := 6) 1 X dL_law_984 rfl ?_
  refine z_icmp_eq (pc := 986) 991 X dL_law_986 (by decide) (fun _ => ?_) (fun _ => ?_)
  · refine z_iload (pc := 991) (i := 6) 1 X dL_law_991 rfl ?_
    refine z_if_ne (pc := 993) 1008 X dL_law_993 (by decide) (fun _ => ?_) (fun _ => ?_)
    · refine z_goto (pc := 1008) 1954 X dL_law_1008 (by decide) ?_
      refine z_iinc (pc := 1954) (i := 5) (n := 5) (lv' := fun v197 => [(5, zI v197), (7, zI x195.1), (6, zI x192.1), (0, zA b), (1, zR p8), (2, zR p9), (3, zR p10), (4, zR p11)]) 7 X dL_law_1954 rfl (hN _ (by decide)) (fun _ => rfl) (fun v197 hR9 hv9 => ?_)
      refine z_goto (pc := 1957) 28 X dL_law_1957 (by decide) ?_
      refine z_widen (c1 := 40 + (v197).toNat * 8) (s1 := 3000 + (v197).toNat * 64) (by omega) (by omega) ?_
      refine z_pick [3, 4, 5, 6, 7, 0] (lv' := [(0, zA b), (1, zR p8), (2, zR p9), (3, zR p10), (4, zR p11), (5, zI v197)]) rfl ?_
      exact z_back
    · refine z_aload_n (pc := 996) (i := 3) 5 X dL_law_996 rfl rfl ?_
      refine z_iconst (pc := 997) (z := 0) X dL_law_997 rfl ⟨by decide, by decide⟩ ?_
      refine z_laload (pc := 998) X dL_law_998 (fun v198 => ?_)
      refine z_iload (pc := 999) (i := 7) 0 X dL_law_999 rfl ?_
      refine z_i2l (pc := 1001) X dL_law_1001 ?_
      refine z_lcmp (pc := 1002) X dL_law_1002 ?_
      refine z_if_eq (pc := 1003) 1008 X dL_law_1003 (by decide) (fun _ => ?_) (fun _ => ?_)
      · refine z_goto (pc := 1008) 1954 X dL_law_1008 (by decide) ?_
        refine z_iinc (pc := 1954) (i := 5) (n := 5) (lv' := fun v199 => [(5, zI v199), (7, zI x195.1), (6, zI x192.1), (0, zA b), (1, zR p8), (2, zR p9), (3, zR p10), (4, zR p11)]) 7 X dL_law_1954 rfl (hN _ (by decide)) (fun _ => rfl) (fun v199 hR9 hv9 => ?_)
        refine z_goto (pc := 1957) 28 X dL_law_1957 (by decide) ?_
        refine z_widen (c1 := 40 + (v199).toNat * 8) (s1 := 3000 + (v199).toNat * 64) (by omega) (by omega) ?_
        refine z_pick [3, 4, 5, 6, 7, 0] (lv' := [(0, zA b), (1, zR p8), (2, zR p9), (3, zR p10), (4, zR p11), (5, zI v199)]) rfl ?_
        exact z_back
      · exact z_none
  · exact z_none
set_option maxRecDepth 40000 in
set_option maxHeartbeats 4000000 in
theorem cL_k10 (K : zK) (b L : Nat) (xs : Nat → Int32) (X : zX K cL_law RL zALL room_1) (hnL : K.2.2.2.2.2.2.2.2.2.2.2.2.2.2.1 = 9) (hscr : zscr K b L xs) (hL9 : L ≤ 2560) (p8 : Option Nat) (p9 : Option Nat) (p10 : Option Nat) (p11 : Option Nat) (s12 : Int × zH) (hi0 : 0 ≤ s12.1) (hi1 : s12.1 < (L : Int)) : zS (L_law_k10 xs L p8 p9 p10 s12) (zLG (fun s12 : Int × zH => zJ K (40 + (s12.1).toNat * 8) (3000 + (s12.1).toNat * 64) 28 [(0, zA b), (1, zR p8), (2, zR p9), (3, zR p10), (4, zR p11), (5, zI s12.1)] [] s12.2) (fun e13 : zH => zJ K 24040 195000 1960 [] [] e13)) (zJ K (40 + (s12.1).toNat * 8) (3000 + (s12.1).toNat * 64) 899 [(0, zA b), (1, zR p8), (2, zR p9), (3, zR p10), (4, zR p11), (5, zI s12.1)] [] s12.2) := by
  have hN : ∀ i, i < 9 → i < K.2.2.2.2.2.2.2.2.2.2.2.2.2.2.1 := by rw [hnL]; exact fun _ h => h
  unfold L_law_k10
  refine z_aload_n (pc := 899) (i := 1) 1 X dL_law_899 rfl rfl ?_
  refine z_aload_nA (pc := 900) (i := 0) 0 X dL_law_900 rfl rfl ?_
  refine z_iload (pc := 901) (i := 5) 5 X dL_law_901 rfl ?_
  refine z_iconst (pc := 903) (z := 1) X dL_law_903 rfl ⟨by decide, by decide⟩ ?_
  refine z_iadd (pc := 904) X dL_law_904 (fun v200 _ _ => ?_)
  refine z_sld (pc := 905) X hscr dL_law_905 (fun v201 hi0 hi1 => ?_)
  refine z_aload_n (pc := 906) (i := 3) 3 X dL_law_906 rfl rfl ?_
  refine z_callW_i (pc := 907) (cells := (40 + (s12.1).toNat * 8)) (slots := (3000 + (s12.1).toNat * 64)) [zR p8, zI v201, zR p10] X dL_law_907 (c_L_remove s12.2 p8 v201 p10) kw_L_156 rfl ⟨rfl, rfl, ⟨by decide, by decide⟩, ⟨by show _ ≤ 603072; omega, by show _ ≤ 7190634; omega⟩⟩ (Nat.le_of_ble_eq_true rfl) rfl (fun x202 => ?_)
  refine z_istore (pc := 910) (i := 6) (lv' := [(6, zI x202.1), (0, zA b), (1, zR p8), (2, zR p9), (3, zR p10), (4, zR p11), (5, zI s12.1)]) X dL_law_910 (hN _ (by decide)) rfl ?_
  refine z_aload_n (pc := 912) (i := 2) 3 X dL_law_912 rfl rfl ?_
  refine z_aload_nA (pc := 913) (i := 0) 1 X dL_law_913 rfl rfl ?_
  refine z_iload (pc := 914) (i := 5) 6 X dL_law_914 rfl ?_
  refine z_iconst (pc := 916) (z := 1) X dL_law_916 rfl ⟨by decide, by decide⟩ ?_
  refine z_iadd (pc := 917) X dL_law_917 (fun v203 _ _ => ?_)
  refine z_sld (pc := 918) X hscr dL_law_918 (fun v204 hi0 hi1 => ?_)
  refine z_callV_i (pc := 919) (cells := (40 + (s12.1).toNat * 8 + 2)) (slots := (3000 + (s12.1).toNat * 64 + 12)) (C := RX8) (T := TX8) (N := 30) (ci := 9) [zI v204] X dL_law_919 (c_X8_remove x202.2 p9 v204) kw_L_158 rfl rfl ⟨rfl, rfl, ⟨by decide, by decide⟩, ⟨by show _ ≤ 603072; omega, by show _ ≤ 7190634; omega⟩⟩ (Nat.le_of_ble_eq_true rfl) rfl (fun x205 => ?_)
  refine z_istore (pc := 922) (i := 7) (lv' := [(7, zI x205.1), (6, zI x202.1), (0, zA b), (1, zR p8), (2, zR p9), (3, zR p10), (4, zR p11), (5, zI s12.1)]) X dL_law_922 (hN _ (by decide)) rfl ?_
  refine z_aload_n (pc := 924) (i := 2) 4 X dL_law_924 rfl rfl ?_
  refine z_callV_i (pc := 925) (cells := (40 + (s12.1).toNat * 8 + 2)) (slots := (3000 + (s12.1).toNat * 64 + 12)) (C := RX8) (T := TX8) (N := 30) (ci := 9) [] X dL_law_925 (c_X8_thrown x205.2 p9) kw_L_118 rfl rfl ⟨rfl, rfl, ⟨by decide, by decide⟩, ⟨by show _ ≤ 603072; omega, by show _ ≤ 7190634; omega⟩⟩ (Nat.le_of_ble_eq_true rfl) rfl (fun x206 => ?_)
  refine z_iload (pc := 928) (i := 6) 1 X dL_law_928 rfl ?_
  refine z_icmp_eq (pc := 930) 935 X dL_law_930 (by decide) (fun _ => ?_) (fun _ => ?_)
  · refine z_iload (pc := 935) (i := 6) 1 X dL_law_935 rfl ?_
    refine z_if_ne (pc := 937) 952 X dL_law_937 (by decide) (fun _ => ?_) (fun _ => ?_)
    · refine z_goto (pc := 952) 1954 X dL_law_952 (by decide) ?_
      refine z_iinc (pc := 1954) (i := 5) (n := 5) (lv' := fun v207 => [(5, zI v207), (7, zI x205.1), (6, zI x202.1), (0, zA b), (1, zR p8), (2, zR p9), (3, zR p10), (4, zR p11)]) 7 X dL_law_1954 rfl (hN _ (by decide)) (fun _ => rfl) (fun v207 hR9 hv9 => ?_)
      refine z_goto (pc := 1957) 28 X dL_law_1957 (by decide) ?_
      refine z_widen (c1 := 40 + (v207).toNat * 8) (s1 := 3000 + (v207).toNat * 64) (by omega) (by omega) ?_
      refine z_pick [3, 4, 5, 6, 7, 0] (lv' := [(0, zA b), (1, zR p8), (2, zR p9), (3, zR p10), (4, zR p11), (5, zI v207)]) rfl ?_
      exact z_back
    · refine z_aload_n (pc := 940) (i := 3) 5 X dL_law_940 rfl rfl ?_
      refine z_iconst (pc := 941) (z := 0) X dL_law_941 rfl ⟨by decide, by decide⟩ ?_
      refine z_laload (pc := 942) X dL_law_942 (fun v208 => ?_)
      refine z_iload (pc := 943) (i := 7) 0 X dL_law_943 rfl ?_
      refine z_i2l (pc := 945) X dL_law_945 ?_
      refine z_lcmp (pc := 946) X dL_law_946 ?_
      refine z_if_eq (pc := 947) 952 X dL_law_947 (by decide) (fun _ => ?_) (fun _ => ?_)
      · refine z_goto (pc := 952) 1954 X dL_law_952 (by decide) ?_
        refine z_iinc (pc := 1954) (i := 5) (n := 5) (lv' := fun v209 => [(5, zI v209), (7, zI x205.1), (6, zI x202.1), (0, zA b), (1, zR p8), (2, zR p9), (3, zR p10), (4, zR p11)]) 7 X dL_law_1954 rfl (hN _ (by decide)) (fun _ => rfl) (fun v209 hR9 hv9 => ?_)
        refine z_goto (pc := 1957) 28 X dL_law_1957 (by decide) ?_
        refine z_widen (c1 := 40 + (v209).toNat * 8) (s1 := 3000 + (v209).toNat * 64) (by omega) (by omega) ?_
        refine z_pick [3, 4, 5, 6, 7, 0] (lv' := [(0, zA b), (1, zR p8), (2, zR p9), (3, zR p10), (4, zR p11), (5, zI v209)]) rfl ?_
        exact z_back
      · exact z_none
  · exact z_none
set_option maxRecDepth 40000 in
set_option maxHeartbeats 4000000 in
theorem cL_k9 (K : zK) (b L : Nat) (xs : Nat → Int32) (X : zX K cL_law RL zALL room_1) (hnL : K.2.2.2.2.2.2.2.2.2.2.2.2.2.2.1 = 9) (hscr : zscr K b L xs) (hL9 : L ≤ 2560) (p8 : Option Nat) (p9 : Option Nat) (p10 : Option Nat) (p11 : Option Nat) (s12 : Int × zH) (hi0 : 0 ≤ s12.1) (hi1 : s12.1 < (L : Int)) : zS (L_law_k9 xs L p8 p9 p10 s12) (zLG (fun s12 : Int × zH => zJ K (40 + (s12.1).toNat * 8) (3000 + (s12.1).toNat * 64) 28 [(0, zA b), (1, zR p8), (2, zR p9), (3, zR p10), (4, zR p11), (5, zI s12.1)] [] s12.2) (fun e13 : zH => zJ K 24040 195000 1960 [] [] e13)) (zJ K (40 + (s12.1).toNat * 8) (3000 + (s12.1).toNat * 64) 831 [(0, zA b), (1, zR p8), (2, zR p9), (3, zR p10), (4, zR p11), (5, zI s12.1)] [] s12.2) := by
  have hN : ∀ i, i < 9 → i < K.2.2.2.2.2.2.2.2.2.2.2.2.2.2.1 := by rw [hnL]; exact fun _ h => h
  unfold L_law_k9
  refine z_aload_n (pc := 831) (i := 1) 1 X dL_law_831 rfl rfl ?_
  refine z_aload_nA (pc := 832) (i := 0) 0 X dL_law_832 rfl rfl ?_
  refine z_iload (pc := 833) (i := 5) 5 X dL_law_833 rfl ?_
  refine z_iconst (pc := 835) (z := 1) X dL_law_835 rfl ⟨by decide, by decide⟩ ?_
  refine z_iadd (pc := 836) X dL_law_836 (fun v210 _ _ => ?_)
  refine z_sld (pc := 837) X hscr dL_law_837 (fun v211 hi0 hi1 => ?_)
  refine z_aload_nA (pc := 838) (i := 0) 0 X dL_law_838 rfl rfl ?_
  refine z_iload (pc := 839) (i := 5) 5 X dL_law_839 rfl ?_
  refine z_iconst (pc := 841) (z := 2) X dL_law_841 rfl ⟨by decide, by decide⟩ ?_
  refine z_iadd (pc := 842) X dL_law_842 (fun v212 _ _ => ?_)
  refine z_sld (pc := 843) X hscr dL_law_843 (fun v213 hi0 hi1 => ?_)
  refine z_aload_n (pc := 844) (i := 3) 3 X dL_law_844 rfl rfl ?_
  refine z_callW_i (pc := 845) (cells := (40 + (s12.1).toNat * 8)) (slots := (3000 + (s12.1).toNat * 64)) [zR p8, zI v211, zI v213, zR p10] X dL_law_845 (c_L_merge s12.2 p8 v211 v213 p10) kw_L_152 rfl ⟨rfl, rfl, ⟨by decide, by decide⟩, ⟨by show _ ≤ 603072; omega, by show _ ≤ 7190634; omega⟩⟩ (Nat.le_of_ble_eq_true rfl) rfl (fun x214 => ?_)
  refine z_istore (pc := 848) (i := 6) (lv' := [(6, zI x214.1), (0, zA b), (1, zR p8), (2, zR p9), (3, zR p10), (4, zR p11), (5, zI s12.1)]) X dL_law_848 (hN _ (by decide)) rfl ?_
  refine z_aload_n (pc := 850) (i := 2) 3 X dL_law_850 rfl rfl ?_
  refine z_aload_nA (pc := 851) (i := 0) 1 X dL_law_851 rfl rfl ?_
  refine z_iload (pc := 852) (i := 5) 6 X dL_law_852 rfl ?_
  refine z_iconst (pc := 854) (z := 1) X dL_law_854 rfl ⟨by decide, by decide⟩ ?_
  refine z_iadd (pc := 855) X dL_law_855 (fun v215 _ _ => ?_)
  refine z_sld (pc := 856) X hscr dL_law_856 (fun v216 hi0 hi1 => ?_)
  refine z_aload_nA (pc := 857) (i := 0) 1 X dL_law_857 rfl rfl ?_
  refine z_iload (pc := 858) (i := 5) 6 X dL_law_858 rfl ?_
  refine z_iconst (pc := 860) (z := 2) X dL_law_860 rfl ⟨by decide, by decide⟩ ?_
  refine z_iadd (pc := 861) X dL_law_861 (fun v217 _ _ => ?_)
  refine z_sld (pc := 862) X hscr dL_law_862 (fun v218 hi0 hi1 => ?_)
  refine z_callV_i (pc := 863) (cells := (40 + (s12.1).toNat * 8 + 3)) (slots := (3000 + (s12.1).toNat * 64 + 18)) (C := RX8) (T := TX8) (N := 30) (ci := 9) [zI v216, zI v218] X dL_law_863 (c_X8_merge x214.2 p9 v216 v218) kw_L_155 rfl rfl ⟨rfl, rfl, ⟨by decide, by decide⟩, ⟨by show _ ≤ 603072; omega, by show _ ≤ 7190634; omega⟩⟩ (Nat.le_of_ble_eq_true rfl) rfl (fun x219 => ?_)
  refine z_istore (pc := 866) (i := 7) (lv' := [(7, zI x219.1), (6, zI x214.1), (0, zA b), (1, zR p8), (2, zR p9), (3, zR p10), (4, zR p11), (5, zI s12.1)]) X dL_law_866 (hN _ (by decide)) rfl ?_
  refine z_aload_n (pc := 868) (i := 2) 4 X dL_law_868 rfl rfl ?_
  refine z_callV_i (pc := 869) (cells := (40 + (s12.1).toNat * 8 + 3)) (slots := (3000 + (s12.1).toNat * 64 + 18)) (C := RX8) (T := TX8) (N := 30) (ci := 9) [] X dL_law_869 (c_X8_thrown x219.2 p9) kw_L_118 rfl rfl ⟨rfl, rfl, ⟨by decide, by decide⟩, ⟨by show _ ≤ 603072; omega, by show _ ≤ 7190634; omega⟩⟩ (Nat.le_of_ble_eq_true rfl) rfl (fun x220 => ?_)
  refine z_iload (pc := 872) (i := 6) 1 X dL_law_872 rfl ?_
  refine z_icmp_eq (pc := 874) 879 X dL_law_874 (by decide) (fun _ => ?_) (fun _ => ?_)
  · refine z_iload (pc := 879) (i := 6) 1 X dL_law_879 rfl ?_
    refine z_if_ne (pc := 881) 896 X dL_law_881 (by decide) (fun _ => ?_) (fun _ => ?_)
    · refine z_goto (pc := 896) 1954 X dL_law_896 (by decide) ?_
      refine z_iinc (pc := 1954) (i := 5) (n := 5) (lv' := fun v221 => [(5, zI v221), (7, zI x219.1), (6, zI x214.1), (0, zA b), (1, zR p8), (2, zR p9), (3, zR p10), (4, zR p11)]) 7 X dL_law_1954 rfl (hN _ (by decide)) (fun _ => rfl) (fun v221 hR9 hv9 => ?_)
      refine z_goto (pc := 1957) 28 X dL_law_1957 (by decide) ?_
      refine z_widen (c1 := 40 + (v221).toNat * 8) (s1 := 3000 + (v221).toNat * 64) (by omega) (by omega) ?_
      refine z_pick [3, 4, 5, 6, 7, 0] (lv' := [(0, zA b), (1, zR p8), (2, zR p9), (3, zR p10), (4, zR p11), (5, zI v221)]) rfl ?_
      exact z_back
    · refine z_aload_n (pc := 884) (i := 3) 5 X dL_law_884 rfl rfl ?_
      refine z_iconst (pc := 885) (z := 0) X dL_law_885 rfl ⟨by decide, by decide⟩ ?_
      refine z_laload (pc := 886) X dL_law_886 (fun v222 => ?_)
      refine z_iload (pc := 887) (i := 7) 0 X dL_law_887 rfl ?_
      refine z_i2l (pc := 889) X dL_law_889 ?_
      refine z_lcmp (pc := 890) X dL_law_890 ?_
      refine z_if_eq (pc := 891) 896 X dL_law_891 (by decide) (fun _ => ?_) (fun _ => ?_)
      · refine z_goto (pc := 896) 1954 X dL_law_896 (by decide) ?_
        refine z_iinc (pc := 1954) (i := 5) (n := 5) (lv' := fun v223 => [(5, zI v223), (7, zI x219.1), (6, zI x214.1), (0, zA b), (1, zR p8), (2, zR p9), (3, zR p10), (4, zR p11)]) 7 X dL_law_1954 rfl (hN _ (by decide)) (fun _ => rfl) (fun v223 hR9 hv9 => ?_)
        refine z_goto (pc := 1957) 28 X dL_law_1957 (by decide) ?_
        refine z_widen (c1 := 40 + (v223).toNat * 8) (s1 := 3000 + (v223).toNat * 64) (by omega) (by omega) ?_
        refine z_pick [3, 4, 5, 6, 7, 0] (lv' := [(0, zA b), (1, zR p8), (2, zR p9), (3, zR p10), (4, zR p11), (5, zI v223)]) rfl ?_
        exact z_back
      · exact z_none
  · exact z_none
set_option maxRecDepth 40000 in
set_option maxHeartbeats 4000000 in
theorem cL_k8 (K : zK) (b L : Nat) (xs : Nat → Int32) (X : zX K cL_law RL zALL room_1) (hnL : K.2.2.2.2.2.2.2.2.2.2.2.2.2.2.1 = 9) (hscr : zscr K b L xs) (hL9 : L ≤ 2560) (p8 : Option Nat) (p9 : Option Nat) (p10 : Option Nat) (p11 : Option Nat) (s12 : Int × zH) (hi0 : 0 ≤ s12.1) (hi1 : s12.1 < (L : Int)) : zS (L_law_k8 xs L p8 p9 p10 s12) (zLG (fun s12 : Int × zH => zJ K (40 + (s12.1).toNat * 8) (3000 + (s12.1).toNat * 64) 28 [(0, zA b), (1, zR p8), (2, zR p9), (3, zR p10), (4, zR p11), (5, zI s12.1)] [] s12.2) (fun e13 : zH => zJ K 24040 195000 1960 [] [] e13)) (zJ K (40 + (s12.1).toNat * 8) (3000 + (s12.1).toNat * 64) 737 [(0, zA b), (1, zR p8), (2, zR p9), (3, zR p10), (4, zR p11), (5, zI s12.1)] [] s12.2) := by
  have hN : ∀ i, i < 9 → i < K.2.2.2.2.2.2.2.2.2.2.2.2.2.2.1 := by rw [hnL]; exact fun _ h => h
  unfold L_law_k8
  refine z_aload_n (pc := 737) (i := 1) 1 X dL_law_737 rfl rfl ?_
  refine z_aload_nA (pc := 738) (i := 0) 0 X dL_law_738 rfl rfl ?_
  refine z_iload (pc := 739) (i := 5) 5 X dL_law_739 rfl ?_
  refine z_iconst (pc := 741) (z := 1) X dL_law_741 rfl ⟨by decide, by decide⟩ ?_
  refine z_iadd (pc := 742) X dL_law_742 (fun v224 _ _ => ?_)
  refine z_sld (pc := 743) X hscr dL_law_743 (fun v225 hi0 hi1 => ?_)
  refine z_aload_nA (pc := 744) (i := 0) 0 X dL_law_744 rfl rfl ?_
  refine z_iload (pc := 745) (i := 5) 5 X dL_law_745 rfl ?_
  refine z_iconst (pc := 747) (z := 2) X dL_law_747 rfl ⟨by decide, by decide⟩ ?_
  refine z_iadd (pc := 748) X dL_law_748 (fun v226 _ _ => ?_)
  refine z_sld (pc := 749) X hscr dL_law_749 (fun v227 hi0 hi1 => ?_)
  refine z_aload_nA (pc := 750) (i := 0) 0 X dL_law_750 rfl rfl ?_
  refine z_iload (pc := 751) (i := 5) 5 X dL_law_751 rfl ?_
  refine z_iconst (pc := 753) (z := 3) X dL_law_753 rfl ⟨by decide, by decide⟩ ?_
  refine z_iadd (pc := 754) X dL_law_754 (fun v228 _ _ => ?_)
  refine z_sld (pc := 755) X hscr dL_law_755 (fun v229 hi0 hi1 => ?_)
  refine z_aload_nA (pc := 756) (i := 0) 0 X dL_law_756 rfl rfl ?_
  refine z_iload (pc := 757) (i := 5) 5 X dL_law_757 rfl ?_
  refine z_iconst (pc := 759) (z := 4) X dL_law_759 rfl ⟨by decide, by decide⟩ ?_
  refine z_iadd (pc := 760) X dL_law_760 (fun v230 _ _ => ?_)
  refine z_sld (pc := 761) X hscr dL_law_761 (fun v231 hi0 hi1 => ?_)
  refine z_i2c (pc := 762) X dL_law_762 ?_
  refine z_aload_n (pc := 763) (i := 3) 3 X dL_law_763 rfl rfl ?_
  refine z_callW_i (pc := 764) (cells := (40 + (s12.1).toNat * 8)) (slots := (3000 + (s12.1).toNat * 64)) [zR p8, zI v225, zI v227, zI v229, zI (v231 % 65536), zR p10] X dL_law_764 (c_L_corner s12.2 p8 v225 v227 v229 ((v231 % 65536)) p10) kw_L_148 rfl ⟨rfl, rfl, ⟨by decide, by decide⟩, ⟨by show _ ≤ 603072; omega, by show _ ≤ 7190634; omega⟩⟩ (Nat.le_of_ble_eq_true rfl) rfl (fun x232 => ?_)
  refine z_istore (pc := 767) (i := 6) (lv' := [(6, zI x232.1), (0, zA b), (1, zR p8), (2, zR p9), (3, zR p10), (4, zR p11), (5, zI s12.1)]) X dL_law_767 (hN _ (by decide)) rfl ?_
  refine z_aload_n (pc := 769) (i := 2) 3 X dL_law_769 rfl rfl ?_
  refine z_aload_nA (pc := 770) (i := 0) 1 X dL_law_770 rfl rfl ?_
  refine z_iload (pc := 771) (i := 5) 6 X dL_law_771 rfl ?_
  refine z_iconst (pc := 773) (z := 1) X dL_law_773 rfl ⟨by decide, by decide⟩ ?_
  refine z_iadd (pc := 774) X dL_law_774 (fun v233 _ _ => ?_)
  refine z_sld (pc := 775) X hscr dL_law_775 (fun v234 hi0 hi1 => ?_)
  refine z_aload_nA (pc := 776) (i := 0) 1 X dL_law_776 rfl rfl ?_
  refine z_iload (pc := 777) (i := 5) 6 X dL_law_777 rfl ?_
  refine z_iconst (pc := 779) (z := 2) X dL_law_779 rfl ⟨by decide, by decide⟩ ?_
  refine z_iadd (pc := 780) X dL_law_780 (fun v235 _ _ => ?_)
  refine z_sld (pc := 781) X hscr dL_law_781 (fun v236 hi0 hi1 => ?_)
  refine z_aload_nA (pc := 782) (i := 0) 1 X dL_law_782 rfl rfl ?_
  refine z_iload (pc := 783) (i := 5) 6 X dL_law_783 rfl ?_
  refine z_iconst (pc := 785) (z := 3) X dL_law_785 rfl ⟨by decide, by decide⟩ ?_
  refine z_iadd (pc := 786) X dL_law_786 (fun v237 _ _ => ?_)
  refine z_sld (pc := 787) X hscr dL_law_787 (fun v238 hi0 hi1 => ?_)
  refine z_aload_nA (pc := 788) (i := 0) 1 X dL_law_788 rfl rfl ?_
  refine z_iload (pc := 789) (i := 5) 6 X dL_law_789 rfl ?_
  refine z_iconst (pc := 791) (z := 4) X dL_law_791 rfl ⟨by decide, by decide⟩ ?_
  refine z_iadd (pc := 792) X dL_law_792 (fun v239 _ _ => ?_)
  refine z_sld (pc := 793) X hscr dL_law_793 (fun v240 hi0 hi1 => ?_)
  refine z_i2c (pc := 794) X dL_law_794 ?_
  refine z_callV_i (pc := 795) (cells := (40 + (s12.1).toNat * 8 + 4)) (slots := (3000 + (s12.1).toNat * 64 + 23)) (C := RX8) (T := TX8) (N := 30) (ci := 9) [zI v234, zI v236, zI v238, zI (v240 % 65536)] X dL_law_795 (c_X8_corner x232.2 p9 v234 v236 v238 ((v240 % 65536))) kw_L_151 rfl rfl ⟨rfl, rfl, ⟨by decide, by decide⟩, ⟨by show _ ≤ 603072; omega, by show _ ≤ 7190634; omega⟩⟩ (Nat.le_of_ble_eq_true rfl) rfl (fun x241 => ?_)
  refine z_istore (pc := 798) (i := 7) (lv' := [(7, zI x241.1), (6, zI x232.1), (0, zA b), (1, zR p8), (2, zR p9), (3, zR p10), (4, zR p11), (5, zI s12.1)]) X dL_law_798 (hN _ (by decide)) rfl ?_
  refine z_aload_n (pc := 800) (i := 2) 4 X dL_law_800 rfl rfl ?_
  refine z_callV_i (pc := 801) (cells := (40 + (s12.1).toNat * 8 + 4)) (slots := (3000 + (s12.1).toNat * 64 + 23)) (C := RX8) (T := TX8) (N := 30) (ci := 9) [] X dL_law_801 (c_X8_thrown x241.2 p9) kw_L_118 rfl rfl ⟨rfl, rfl, ⟨by decide, by decide⟩, ⟨by show _ ≤ 603072; omega, by show _ ≤ 7190634; omega⟩⟩ (Nat.le_of_ble_eq_true rfl) rfl (fun x242 => ?_)
  refine z_iload (pc := 804) (i := 6) 1 X dL_law_804 rfl ?_
  refine z_icmp_eq (pc := 806) 811 X dL_law_806 (by decide) (fun _ => ?_) (fun _ => ?_)
  · refine z_iload (pc := 811) (i := 6) 1 X dL_law_811 rfl ?_
    refine z_if_ne (pc := 813) 828 X dL_law_813 (by decide) (fun _ => ?_) (fun _ => ?_)
    · refine z_goto (pc := 828) 1954 X dL_law_828 (by decide) ?_
      refine z_iinc (pc := 1954) (i := 5) (n := 5) (lv' := fun v243 => [(5, zI v243), (7, zI x241.1), (6, zI x232.1), (0, zA b), (1, zR p8), (2, zR p9), (3, zR p10), (4, zR p11)]) 7 X dL_law_1954 rfl (hN _ (by decide)) (fun _ => rfl) (fun v243 hR9 hv9 => ?_)
      refine z_goto (pc := 1957) 28 X dL_law_1957 (by decide) ?_
      refine z_widen (c1 := 40 + (v243).toNat * 8) (s1 := 3000 + (v243).toNat * 64) (by omega) (by omega) ?_
      refine z_pick [3, 4, 5, 6, 7, 0] (lv' := [(0, zA b), (1, zR p8), (2, zR p9), (3, zR p10), (4, zR p11), (5, zI v243)]) rfl ?_
      exact z_back
    · refine z_aload_n (pc := 816) (i := 3) 5 X dL_law_816 rfl rfl ?_
      refine z_iconst (pc := 817) (z := 0) X dL_law_817 rfl ⟨by decide, by decide⟩ ?_
      refine z_laload (pc := 818) X dL_law_818 (fun v244 => ?_)
      refine z_iload (pc := 819) (i := 7) 0 X dL_law_819 rfl ?_
      refine z_i2l (pc := 821) X dL_law_821 ?_
      refine z_lcmp (pc := 822) X dL_law_822 ?_
      refine z_if_eq (pc := 823) 828 X dL_law_823 (by decide) (fun _ => ?_) (fun _ => ?_)
      · refine z_goto (pc := 828) 1954 X dL_law_828 (by decide) ?_
        refine z_iinc (pc := 1954) (i := 5) (n := 5) (lv' := fun v245 => [(5, zI v245), (7, zI x241.1), (6, zI x232.1), (0, zA b), (1, zR p8), (2, zR p9), (3, zR p10), (4, zR p11)]) 7 X dL_law_1954 rfl (hN _ (by decide)) (fun _ => rfl) (fun v245 hR9 hv9 => ?_)
        refine z_goto (pc := 1957) 28 X dL_law_1957 (by decide) ?_
        refine z_widen (c1 := 40 + (v245).toNat * 8) (s1 := 3000 + (v245).toNat * 64) (by omega) (by omega) ?_
        refine z_pick [3, 4, 5, 6, 7, 0] (lv' := [(0, zA b), (1, zR p8), (2, zR p9), (3, zR p10), (4, zR p11), (5, zI v245)]) rfl ?_
        exact z_back
      · exact z_none
  · exact z_none
set_option maxRecDepth 40000 in
set_option maxHeartbeats 4000000 in
theorem cL_k7 (K : zK) (b L : Nat) (xs : Nat → Int32) (X : zX K cL_law RL zALL room_1) (hnL : K.2.2.2.2.2.2.2.2.2.2.2.2.2.2.1 = 9) (hscr : zscr K b L xs) (hL9 : L ≤ 2560) (p8 : Option Nat) (p9 : Option Nat) (p10 : Option Nat) (p11 : Option Nat) (s12 : Int × zH) (hi0 : 0 ≤ s12.1) (hi1 : s12.1 < (L : Int)) : zS (L_law_k7 xs L p8 p9 p10 s12) (zLG (fun s12 : Int × zH => zJ K (40 + (s12.1).toNat * 8) (3000 + (s12.1).toNat * 64) 28 [(0, zA b), (1, zR p8), (2, zR p9), (3, zR p10), (4, zR p11), (5, zI s12.1)] [] s12.2) (fun e13 : zH => zJ K 24040 195000 1960 [] [] e13)) (zJ K (40 + (s12.1).toNat * 8) (3000 + (s12.1).toNat * 64) 655 [(0, zA b), (1, zR p8), (2, zR p9), (3, zR p10), (4, zR p11), (5, zI s12.1)] [] s12.2) := by
  have hN : ∀ i, i < 9 → i < K.2.2.2.2.2.2.2.2.2.2.2.2.2.2.1 := by rw [hnL]; exact fun _ h => h
  unfold L_law_k7
  refine z_aload_n (pc := 655) (i := 1) 1 X dL_law_655 rfl rfl ?_
  refine z_aload_nA (pc := 656) (i := 0) 0 X dL_law_656 rfl rfl ?_
  refine z_iload (pc := 657) (i := 5) 5 X dL_law_657 rfl ?_
  refine z_iconst (pc := 659) (z := 1) X dL_law_659 rfl ⟨by decide, by decide⟩ ?_
  refine z_iadd (pc := 660) X dL_law_660 (fun v246 _ _ => ?_)
  refine z_sld (pc := 661) X hscr dL_law_661 (fun v247 hi0 hi1 => ?_)
  refine z_aload_nA (pc := 662) (i := 0) 0 X dL_law_662 rfl rfl ?_
  refine z_iload (pc := 663) (i := 5) 5 X dL_law_663 rfl ?_
  refine z_iconst (pc := 665) (z := 2) X dL_law_665 rfl ⟨by decide, by decide⟩ ?_
  refine z_iadd (pc := 666) X dL_law_666 (fun v248 _ _ => ?_)
  refine z_sld (pc := 667) X hscr dL_law_667 (fun v249 hi0 hi1 => ?_)
  refine z_aload_nA (pc := 668) (i := 0) 0 X dL_law_668 rfl rfl ?_
  refine z_iload (pc := 669) (i := 5) 5 X dL_law_669 rfl ?_
  refine z_iconst (pc := 671) (z := 3) X dL_law_671 rfl ⟨by decide, by decide⟩ ?_
  refine z_iadd (pc := 672) X dL_law_672 (fun v250 _ _ => ?_)
  refine z_sld (pc := 673) X hscr dL_law_673 (fun v251 hi0 hi1 => ?_)
  refine z_i2c (pc := 674) X dL_law_674 ?_
  refine z_aload_n (pc := 675) (i := 3) 3 X dL_law_675 rfl rfl ?_
  refine z_callW_i (pc := 676) (cells := (40 + (s12.1).toNat * 8)) (slots := (3000 + (s12.1).toNat * 64)) [zR p8, zI v247, zI v249, zI (v251 % 65536), zR p10] X dL_law_676 (c_L_door s12.2 p8 v247 v249 ((v251 % 65536)) p10) kw_L_144 rfl ⟨rfl, rfl, ⟨by decide, by decide⟩, ⟨by show _ ≤ 603072; omega, by show _ ≤ 7190634; omega⟩⟩ (Nat.le_of_ble_eq_true rfl) rfl (fun x252 => ?_)
  refine z_istore (pc := 679) (i := 6) (lv' := [(6, zI x252.1), (0, zA b), (1, zR p8), (2, zR p9), (3, zR p10), (4, zR p11), (5, zI s12.1)]) X dL_law_679 (hN _ (by decide)) rfl ?_
  refine z_aload_n (pc := 681) (i := 2) 3 X dL_law_681 rfl rfl ?_
  refine z_aload_nA (pc := 682) (i := 0) 1 X dL_law_682 rfl rfl ?_
  refine z_iload (pc := 683) (i := 5) 6 X dL_law_683 rfl ?_
  refine z_iconst (pc := 685) (z := 1) X dL_law_685 rfl ⟨by decide, by decide⟩ ?_
  refine z_iadd (pc := 686) X dL_law_686 (fun v253 _ _ => ?_)
  refine z_sld (pc := 687) X hscr dL_law_687 (fun v254 hi0 hi1 => ?_)
  refine z_aload_nA (pc := 688) (i := 0) 1 X dL_law_688 rfl rfl ?_
  refine z_iload (pc := 689) (i := 5) 6 X dL_law_689 rfl ?_
  refine z_iconst (pc := 691) (z := 2) X dL_law_691 rfl ⟨by decide, by decide⟩ ?_
  refine z_iadd (pc := 692) X dL_law_692 (fun v255 _ _ => ?_)
  refine z_sld (pc := 693) X hscr dL_law_693 (fun v256 hi0 hi1 => ?_)
  refine z_aload_nA (pc := 694) (i := 0) 1 X dL_law_694 rfl rfl ?_
  refine z_iload (pc := 695) (i := 5) 6 X dL_law_695 rfl ?_
  refine z_iconst (pc := 697) (z := 3) X dL_law_697 rfl ⟨by decide, by decide⟩ ?_
  refine z_iadd (pc := 698) X dL_law_698 (fun v257 _ _ => ?_)
  refine z_sld (pc := 699) X hscr dL_law_699 (fun v258 hi0 hi1 => ?_)
  refine z_i2c (pc := 700) X dL_law_700 ?_
  refine z_callV_i (pc := 701) (cells := (40 + (s12.1).toNat * 8 + 3)) (slots := (3000 + (s12.1).toNat * 64 + 17)) (C := RX8) (T := TX8) (N := 30) (ci := 9) [zI v254, zI v256, zI (v258 % 65536)] X dL_law_701 (c_X8_door x252.2 p9 v254 v256 ((v258 % 65536))) kw_L_147 rfl rfl ⟨rfl, rfl, ⟨by decide, by decide⟩, ⟨by show _ ≤ 603072; omega, by show _ ≤ 7190634; omega⟩⟩ (Nat.le_of_ble_eq_true rfl) rfl (fun x259 => ?_)
  refine z_istore (pc := 704) (i := 7) (lv' := [(7, zI x259.1), (6, zI x252.1), (0, zA b), (1, zR p8), (2, zR p9), (3, zR p10), (4, zR p11), (5, zI s12.1)]) X dL_law_704 (hN _ (by decide)) rfl ?_
  refine z_aload_n (pc := 706) (i := 2) 4 X dL_law_706 rfl rfl ?_
  refine z_callV_i (pc := 707) (cells := (40 + (s12.1).toNat * 8 + 3)) (slots := (3000 + (s12.1).toNat * 64 + 17)) (C := RX8) (T := TX8) (N := 30) (ci := 9) [] X dL_law_707 (c_X8_thrown x259.2 p9) kw_L_118 rfl rfl ⟨rfl, rfl, ⟨by decide, by decide⟩, ⟨by show _ ≤ 603072; omega, by show _ ≤ 7190634; omega⟩⟩ (Nat.le_of_ble_eq_true rfl) rfl (fun x260 => ?_)
  refine z_iload (pc := 710) (i := 6) 1 X dL_law_710 rfl ?_
  refine z_icmp_eq (pc := 712) 717 X dL_law_712 (by decide) (fun _ => ?_) (fun _ => ?_)
  · refine z_iload (pc := 717) (i := 6) 1 X dL_law_717 rfl ?_
    refine z_if_ne (pc := 719) 734 X dL_law_719 (by decide) (fun _ => ?_) (fun _ => ?_)
    · refine z_goto (pc := 734) 1954 X dL_law_734 (by decide) ?_
      refine z_iinc (pc := 1954) (i := 5) (n := 5) (lv' := fun v261 => [(5, zI v261), (7, zI x259.1), (6, zI x252.1), (0, zA b), (1, zR p8), (2, zR p9), (3, zR p10), (4, zR p11)]) 7 X dL_law_1954 rfl (hN _ (by decide)) (fun _ => rfl) (fun v261 hR9 hv9 => ?_)
      refine z_goto (pc := 1957) 28 X dL_law_1957 (by decide) ?_
      refine z_widen (c1 := 40 + (v261).toNat * 8) (s1 := 3000 + (v261).toNat * 64) (by omega) (by omega) ?_
      refine z_pick [3, 4, 5, 6, 7, 0] (lv' := [(0, zA b), (1, zR p8), (2, zR p9), (3, zR p10), (4, zR p11), (5, zI v261)]) rfl ?_
      exact z_back
    · refine z_aload_n (pc := 722) (i := 3) 5 X dL_law_722 rfl rfl ?_
      refine z_iconst (pc := 723) (z := 0) X dL_law_723 rfl ⟨by decide, by decide⟩ ?_
      refine z_laload (pc := 724) X dL_law_724 (fun v262 => ?_)
      refine z_iload (pc := 725) (i := 7) 0 X dL_law_725 rfl ?_
      refine z_i2l (pc := 727) X dL_law_727 ?_
      refine z_lcmp (pc := 728) X dL_law_728 ?_
      refine z_if_eq (pc := 729) 734 X dL_law_729 (by decide) (fun _ => ?_) (fun _ => ?_)
      · refine z_goto (pc := 734) 1954 X dL_law_734 (by decide) ?_
        refine z_iinc (pc := 1954) (i := 5) (n := 5) (lv' := fun v263 => [(5, zI v263), (7, zI x259.1), (6, zI x252.1), (0, zA b), (1, zR p8), (2, zR p9), (3, zR p10), (4, zR p11)]) 7 X dL_law_1954 rfl (hN _ (by decide)) (fun _ => rfl) (fun v263 hR9 hv9 => ?_)
        refine z_goto (pc := 1957) 28 X dL_law_1957 (by decide) ?_
        refine z_widen (c1 := 40 + (v263).toNat * 8) (s1 := 3000 + (v263).toNat * 64) (by omega) (by omega) ?_
        refine z_pick [3, 4, 5, 6, 7, 0] (lv' := [(0, zA b), (1, zR p8), (2, zR p9), (3, zR p10), (4, zR p11), (5, zI v263)]) rfl ?_
        exact z_back
      · exact z_none
  · exact z_none
set_option maxRecDepth 40000 in
set_option maxHeartbeats 4000000 in
theorem cL_k6 (K : zK) (b L : Nat) (xs : Nat → Int32) (X : zX K cL_law RL zALL room_1) (hnL : K.2.2.2.2.2.2.2.2.2.2.2.2.2.2.1 = 9) (hscr : zscr K b L xs) (hL9 : L ≤ 2560) (p8 : Option Nat) (p9 : Option Nat) (p10 : Option Nat) (p11 : Option Nat) (s12 : Int × zH) (hi0 : 0 ≤ s12.1) (hi1 : s12.1 < (L : Int)) : zS (L_law_k6 xs L p8 p9 p10 s12) (zLG (fun s12 : Int × zH => zJ K (40 + (s12.1).toNat * 8) (3000 + (s12.1).toNat * 64) 28 [(0, zA b), (1, zR p8), (2, zR p9), (3, zR p10), (4, zR p11), (5, zI s12.1)] [] s12.2) (fun e13 : zH => zJ K 24040 195000 1960 [] [] e13)) (zJ K (40 + (s12.1).toNat * 8) (3000 + (s12.1).toNat * 64) 557 [(0, zA b), (1, zR p8), (2, zR p9), (3, zR p10), (4, zR p11), (5, zI s12.1)] [] s12.2) := by
  have hN : ∀ i, i < 9 → i < K.2.2.2.2.2.2.2.2.2.2.2.2.2.2.1 := by rw [hnL]; exact fun _ h => h
  unfold L_law_k6
  refine z_aload_n (pc := 557) (i := 1) 1 X dL_law_557 rfl rfl ?_
  refine z_aload_nA (pc := 558) (i := 0) 0 X dL_law_558 rfl rfl ?_
  refine z_iload (pc := 559) (i := 5) 5 X dL_law_559 rfl ?_
  refine z_iconst (pc := 561) (z := 1) X dL_law_561 rfl ⟨by decide, by decide⟩ ?_
  refine z_iadd (pc := 562) X dL_law_562 (fun v264 _ _ => ?_)
  refine z_sld (pc := 563) X hscr dL_law_563 (fun v265 hi0 hi1 => ?_)
  refine z_aload_nA (pc := 564) (i := 0) 0 X dL_law_564 rfl rfl ?_
  refine z_iload (pc := 565) (i := 5) 5 X dL_law_565 rfl ?_
  refine z_iconst (pc := 567) (z := 2) X dL_law_567 rfl ⟨by decide, by decide⟩ ?_
  refine z_iadd (pc := 568) X dL_law_568 (fun v266 _ _ => ?_)
  refine z_sld (pc := 569) X hscr dL_law_569 (fun v267 hi0 hi1 => ?_)
  refine z_i2c (pc := 570) X dL_law_570 ?_
  refine z_aload_nA (pc := 571) (i := 0) 0 X dL_law_571 rfl rfl ?_
  refine z_iload (pc := 572) (i := 5) 5 X dL_law_572 rfl ?_
  refine z_iconst (pc := 574) (z := 3) X dL_law_574 rfl ⟨by decide, by decide⟩ ?_
  refine z_iadd (pc := 575) X dL_law_575 (fun v268 _ _ => ?_)
  refine z_sld (pc := 576) X hscr dL_law_576 (fun v269 hi0 hi1 => ?_)
  have hJ585 : ∀ (j270 : Int), zS (L_law_j585 xs L p8 p9 p10 s12 v265 v267 j270) (zLG (fun s12 : Int × zH => zJ K (40 + (s12.1).toNat * 8) (3000 + (s12.1).toNat * 64) 28 [(0, zA b), (1, zR p8), (2, zR p9), (3, zR p10), (4, zR p11), (5, zI s12.1)] [] s12.2) (fun e13 : zH => zJ K 24040 195000 1960 [] [] e13)) (zJ K (40 + (s12.1).toNat * 8) (3000 + (s12.1).toNat * 64) 585 [(0, zA b), (1, zR p8), (2, zR p9), (3, zR p10), (4, zR p11), (5, zI s12.1)] [zI j270, zI (v267 % 65536), zI v265, zR p8] s12.2) := by
    intro j270
    unfold L_law_j585
    refine z_aload_n (pc := 585) (i := 3) 3 X dL_law_585 rfl rfl ?_
    refine z_callW_i (pc := 586) (cells := (40 + (s12.1).toNat * 8)) (slots := (3000 + (s12.1).toNat * 64)) [zR p8, zI v265, zI (v267 % 65536), zI j270, zR p10] X dL_law_586 (c_L_way s12.2 p8 v265 ((v267 % 65536)) j270 p10) kw_L_141 rfl ⟨rfl, rfl, ⟨by decide, by decide⟩, ⟨by show _ ≤ 603072; omega, by show _ ≤ 7190634; omega⟩⟩ (Nat.le_of_ble_eq_true rfl) rfl (fun x271 => ?_)
    refine z_istore (pc := 589) (i := 6) (lv' := [(6, zI x271.1), (0, zA b), (1, zR p8), (2, zR p9), (3, zR p10), (4, zR p11), (5, zI s12.1)]) X dL_law_589 (hN _ (by decide)) rfl ?_
    refine z_aload_n (pc := 591) (i := 2) 3 X dL_law_591 rfl rfl ?_
    refine z_aload_nA (pc := 592) (i := 0) 1 X dL_law_592 rfl rfl ?_
    refine z_iload (pc := 593) (i := 5) 6 X dL_law_593 rfl ?_
    refine z_iconst (pc := 595) (z := 1) X dL_law_595 rfl ⟨by decide, by decide⟩ ?_
    refine z_iadd (pc := 596) X dL_law_596 (fun v272 _ _ => ?_)
    refine z_sld (pc := 597) X hscr dL_law_597 (fun v273 hi0 hi1 => ?_)
    refine z_aload_nA (pc := 598) (i := 0) 1 X dL_law_598 rfl rfl ?_
    refine z_iload (pc := 599) (i := 5) 6 X dL_law_599 rfl ?_
    refine z_iconst (pc := 601) (z := 2) X dL_law_601 rfl ⟨by decide, by decide⟩ ?_
    refine z_iadd (pc := 602) X dL_law_602 (fun v274 _ _ => ?_)
    refine z_sld (pc := 603) X hscr dL_law_603 (fun v275 hi0 hi1 => ?_)
    refine z_i2c (pc := 604) X dL_law_604 ?_
    refine z_aload_nA (pc := 605) (i := 0) 1 X dL_law_605 rfl rfl ?_
    refine z_iload (pc := 606) (i := 5) 6 X dL_law_606 rfl ?_
    refine z_iconst (pc := 608) (z := 3) X dL_law_608 rfl ⟨by decide, by decide⟩ ?_
    refine z_iadd (pc := 609) X dL_law_609 (fun v276 _ _ => ?_)
    refine z_sld (pc := 610) X hscr dL_law_610 (fun v277 hi0 hi1 => ?_)
    have hJ619 : ∀ (j278 : Int), zS (L_law_j619 p9 p10 s12 x271 v273 v275 j278) (zLG (fun s12 : Int × zH => zJ K (40 + (s12.1).toNat * 8) (3000 + (s12.1).toNat * 64) 28 [(0, zA b), (1, zR p8), (2, zR p9), (3, zR p10), (4, zR p11), (5, zI s12.1)] [] s12.2) (fun e13 : zH => zJ K 24040 195000 1960 [] [] e13)) (zJ K (40 + (s12.1).toNat * 8 + 2) (3000 + (s12.1).toNat * 64 + 12) 619 [(0, zA b), (1, zR p8), (2, zR p9), (3, zR p10), (4, zR p11), (5, zI s12.1), (6, zI x271.1)] [zI j278, zI (v275 % 65536), zI v273, zR p9] x271.2) := by
      intro j278
      unfold L_law_j619
      refine z_callV_i (pc := 619) (cells := (40 + (s12.1).toNat * 8 + 2)) (slots := (3000 + (s12.1).toNat * 64 + 12)) (C := RX8) (T := TX8) (N := 30) (ci := 9) [zI v273, zI (v275 % 65536), zI j278] X dL_law_619 (c_X8_way x271.2 p9 v273 ((v275 % 65536)) j278) kw_L_143 rfl rfl ⟨rfl, rfl, ⟨by decide, by decide⟩, ⟨by show _ ≤ 603072; omega, by show _ ≤ 7190634; omega⟩⟩ (Nat.le_of_ble_eq_true rfl) rfl (fun x279 => ?_)
      refine z_istore (pc := 622) (i := 7) (lv' := [(7, zI x279.1), (0, zA b), (1, zR p8), (2, zR p9), (3, zR p10), (4, zR p11), (5, zI s12.1), (6, zI x271.1)]) X dL_law_622 (hN _ (by decide)) rfl ?_
      refine z_aload_n (pc := 624) (i := 2) 3 X dL_law_624 rfl rfl ?_
      refine z_callV_i (pc := 625) (cells := (40 + (s12.1).toNat * 8 + 2)) (slots := (3000 + (s12.1).toNat * 64 + 12)) (C := RX8) (T := TX8) (N := 30) (ci := 9) [] X dL_law_625 (c_X8_thrown x279.2 p9) kw_L_118 rfl rfl ⟨rfl, rfl, ⟨by decide, by decide⟩, ⟨by show _ ≤ 603072; omega, by show _ ≤ 7190634; omega⟩⟩ (Nat.le_of_ble_eq_true rfl) rfl (fun x280 => ?_)
      refine z_iload (pc := 628) (i := 6) 7 X dL_law_628 rfl ?_
      refine z_icmp_eq (pc := 630) 635 X dL_law_630 (by decide) (fun _ => ?_) (fun _ => ?_)
      · refine z_iload (pc := 635) (i := 6) 7 X dL_law_635 rfl ?_
        refine z_if_ne (pc := 637) 652 X dL_law_637 (by decide) (fun _ => ?_) (fun _ => ?_)
        · refine z_goto (pc := 652) 1954 X dL_law_652 (by decide) ?_
          refine z_iinc (pc := 1954) (i := 5) (n := 5) (lv' := fun v281 => [(5, zI v281), (7, zI x279.1), (0, zA b), (1, zR p8), (2, zR p9), (3, zR p10), (4, zR p11), (6, zI x271.1)]) 6 X dL_law_1954 rfl (hN _ (by decide)) (fun _ => rfl) (fun v281 hR9 hv9 => ?_)
          refine z_goto (pc := 1957) 28 X dL_law_1957 (by decide) ?_
          refine z_widen (c1 := 40 + (v281).toNat * 8) (s1 := 3000 + (v281).toNat * 64) (by omega) (by omega) ?_
          refine z_pick [2, 3, 4, 5, 6, 0] (lv' := [(0, zA b), (1, zR p8), (2, zR p9), (3, zR p10), (4, zR p11), (5, zI v281)]) rfl ?_
          exact z_back
        · refine z_aload_n (pc := 640) (i := 3) 4 X dL_law_640 rfl rfl ?_
          refine z_iconst (pc := 641) (z := 0) X dL_law_641 rfl ⟨by decide, by decide⟩ ?_
          refine z_laload (pc := 642) X dL_law_642 (fun v282 => ?_)
          refine z_iload (pc := 643) (i := 7) 0 X dL_law_643 rfl ?_
          refine z_i2l (pc := 645) X dL_law_645 ?_
          refine z_lcmp (pc := 646) X dL_law_646 ?_
          refine z_if_eq (pc := 647) 652 X dL_law_647 (by decide) (fun _ => ?_) (fun _ => ?_)
          · refine z_goto (pc := 652) 1954 X dL_law_652 (by decide) ?_
            refine z_iinc (pc := 1954) (i := 5) (n := 5) (lv' := fun v283 => [(5, zI v283), (7, zI x279.1), (0, zA b), (1, zR p8), (2, zR p9), (3, zR p10), (4, zR p11), (6, zI x271.1)]) 6 X dL_law_1954 rfl (hN _ (by decide)) (fun _ => rfl) (fun v283 hR9 hv9 => ?_)
            refine z_goto (pc := 1957) 28 X dL_law_1957 (by decide) ?_
            refine z_widen (c1 := 40 + (v283).toNat * 8) (s1 := 3000 + (v283).toNat * 64) (by omega) (by omega) ?_
            refine z_pick [2, 3, 4, 5, 6, 0] (lv' := [(0, zA b), (1, zR p8), (2, zR p9), (3, zR p10), (4, zR p11), (5, zI v283)]) rfl ?_
            exact z_back
          · exact z_none
      · exact z_none
    refine z_if_eq (pc := 611) 618 X dL_law_611 (by decide) (fun _ => ?_) (fun _ => ?_)
    · refine z_iconst (pc := 618) (z := 0) X dL_law_618 rfl ⟨by decide, by decide⟩ ?_
      refine z_pick [1, 2, 3, 4, 5, 6, 0] (lv' := [(0, zA b), (1, zR p8), (2, zR p9), (3, zR p10), (4, zR p11), (5, zI s12.1), (6, zI x271.1)]) rfl ?_
      exact hJ619 0
    · refine z_iconst (pc := 614) (z := 1) X dL_law_614 rfl ⟨by decide, by decide⟩ ?_
      refine z_goto (pc := 615) 619 X dL_law_615 (by decide) ?_
      refine z_pick [1, 2, 3, 4, 5, 6, 0] (lv' := [(0, zA b), (1, zR p8), (2, zR p9), (3, zR p10), (4, zR p11), (5, zI s12.1), (6, zI x271.1)]) rfl ?_
      exact hJ619 1
  refine z_if_eq (pc := 577) 584 X dL_law_577 (by decide) (fun _ => ?_) (fun _ => ?_)
  · refine z_iconst (pc := 584) (z := 0) X dL_law_584 rfl ⟨by decide, by decide⟩ ?_
    exact hJ585 0
  · refine z_iconst (pc := 580) (z := 1) X dL_law_580 rfl ⟨by decide, by decide⟩ ?_
    refine z_goto (pc := 581) 585 X dL_law_581 (by decide) ?_
    exact hJ585 1
set_option maxRecDepth 40000 in
set_option maxHeartbeats 4000000 in
theorem cL_k5 (K : zK) (b L : Nat) (xs : Nat → Int32) (X : zX K cL_law RL zALL room_1) (hnL : K.2.2.2.2.2.2.2.2.2.2.2.2.2.2.1 = 9) (hscr : zscr K b L xs) (hL9 : L ≤ 2560) (p8 : Option Nat) (p9 : Option Nat) (p10 : Option Nat) (p11 : Option Nat) (s12 : Int × zH) (hi0 : 0 ≤ s12.1) (hi1 : s12.1 < (L : Int)) : zS (L_law_k5 xs L p8 p9 p10 s12) (zLG (fun s12 : Int × zH => zJ K (40 + (s12.1).toNat * 8) (3000 + (s12.1).toNat * 64) 28 [(0, zA b), (1, zR p8), (2, zR p9), (3, zR p10), (4, zR p11), (5, zI s12.1)] [] s12.2) (fun e13 : zH => zJ K 24040 195000 1960 [] [] e13)) (zJ K (40 + (s12.1).toNat * 8) (3000 + (s12.1).toNat * 64) 461 [(0, zA b), (1, zR p8), (2, zR p9), (3, zR p10), (4, zR p11), (5, zI s12.1)] [] s12.2) := by
  have hN : ∀ i, i < 9 → i < K.2.2.2.2.2.2.2.2.2.2.2.2.2.2.1 := by rw [hnL]; exact fun _ h => h
  unfold L_law_k5
  refine z_aload_n (pc := 461) (i := 1) 1 X dL_law_461 rfl rfl ?_
  refine z_aload_nA (pc := 462) (i := 0) 0 X dL_law_462 rfl rfl ?_
  refine z_iload (pc := 463) (i := 5) 5 X dL_law_463 rfl ?_
  refine z_iconst (pc := 465) (z := 1) X dL_law_465 rfl ⟨by decide, by decide⟩ ?_
  refine z_iadd (pc := 466) X dL_law_466 (fun v284 _ _ => ?_)
  refine z_sld (pc := 467) X hscr dL_law_467 (fun v285 hi0 hi1 => ?_)
  refine z_aload_nA (pc := 468) (i := 0) 0 X dL_law_468 rfl rfl ?_
  refine z_iload (pc := 469) (i := 5) 5 X dL_law_469 rfl ?_
  refine z_iconst (pc := 471) (z := 2) X dL_law_471 rfl ⟨by decide, by decide⟩ ?_
  refine z_iadd (pc := 472) X dL_law_472 (fun v286 _ _ => ?_)
  refine z_sld (pc := 473) X hscr dL_law_473 (fun v287 hi0 hi1 => ?_)
  have hJ482 : ∀ (j288 : Int), zS (L_law_j482 xs L p8 p9 p10 s12 v285 j288) (zLG (fun s12 : Int × zH => zJ K (40 + (s12.1).toNat * 8) (3000 + (s12.1).toNat * 64) 28 [(0, zA b), (1, zR p8), (2, zR p9), (3, zR p10), (4, zR p11), (5, zI s12.1)] [] s12.2) (fun e13 : zH => zJ K 24040 195000 1960 [] [] e13)) (zJ K (40 + (s12.1).toNat * 8) (3000 + (s12.1).toNat * 64) 482 [(0, zA b), (1, zR p8), (2, zR p9), (3, zR p10), (4, zR p11), (5, zI s12.1)] [zI j288, zI v285, zR p8] s12.2) := by
    intro j288
    unfold L_law_j482
    refine z_aload_nA (pc := 482) (i := 0) 0 X dL_law_482 rfl rfl ?_
    refine z_iload (pc := 483) (i := 5) 5 X dL_law_483 rfl ?_
    refine z_iconst (pc := 485) (z := 3) X dL_law_485 rfl ⟨by decide, by decide⟩ ?_
    refine z_iadd (pc := 486) X dL_law_486 (fun v289 _ _ => ?_)
    refine z_sld (pc := 487) X hscr dL_law_487 (fun v290 hi0 hi1 => ?_)
    refine z_aload_n (pc := 488) (i := 3) 3 X dL_law_488 rfl rfl ?_
    refine z_callW_i (pc := 489) (cells := (40 + (s12.1).toNat * 8)) (slots := (3000 + (s12.1).toNat * 64)) [zR p8, zI v285, zI j288, zI v290, zR p10] X dL_law_489 (c_L_letter s12.2 p8 v285 j288 v290 p10) kw_L_137 rfl ⟨rfl, rfl, ⟨by decide, by decide⟩, ⟨by show _ ≤ 603072; omega, by show _ ≤ 7190634; omega⟩⟩ (Nat.le_of_ble_eq_true rfl) rfl (fun x291 => ?_)
    refine z_istore (pc := 492) (i := 6) (lv' := [(6, zI x291.1), (0, zA b), (1, zR p8), (2, zR p9), (3, zR p10), (4, zR p11), (5, zI s12.1)]) X dL_law_492 (hN _ (by decide)) rfl ?_
    refine z_aload_n (pc := 494) (i := 2) 3 X dL_law_494 rfl rfl ?_
    refine z_aload_nA (pc := 495) (i := 0) 1 X dL_law_495 rfl rfl ?_
    refine z_iload (pc := 496) (i := 5) 6 X dL_law_496 rfl ?_
    refine z_iconst (pc := 498) (z := 1) X dL_law_498 rfl ⟨by decide, by decide⟩ ?_
    refine z_iadd (pc := 499) X dL_law_499 (fun v292 _ _ => ?_)
    refine z_sld (pc := 500) X hscr dL_law_500 (fun v293 hi0 hi1 => ?_)
    refine z_aload_nA (pc := 501) (i := 0) 1 X dL_law_501 rfl rfl ?_
    refine z_iload (pc := 502) (i := 5) 6 X dL_law_502 rfl ?_
    refine z_iconst (pc := 504) (z := 2) X dL_law_504 rfl ⟨by decide, by decide⟩ ?_
    refine z_iadd (pc := 505) X dL_law_505 (fun v294 _ _ => ?_)
    refine z_sld (pc := 506) X hscr dL_law_506 (fun v295 hi0 hi1 => ?_)
    have hJ515 : ∀ (j296 : Int), zS (L_law_j515 xs L p9 p10 s12 x291 v293 j296) (zLG (fun s12 : Int × zH => zJ K (40 + (s12.1).toNat * 8) (3000 + (s12.1).toNat * 64) 28 [(0, zA b), (1, zR p8), (2, zR p9), (3, zR p10), (4, zR p11), (5, zI s12.1)] [] s12.2) (fun e13 : zH => zJ K 24040 195000 1960 [] [] e13)) (zJ K (40 + (s12.1).toNat * 8 + 2) (3000 + (s12.1).toNat * 64 + 12) 515 [(0, zA b), (1, zR p8), (2, zR p9), (3, zR p10), (4, zR p11), (5, zI s12.1), (6, zI x291.1)] [zI j296, zI v293, zR p9] x291.2) := by
      intro j296
      unfold L_law_j515
      refine z_aload_nA (pc := 515) (i := 0) 0 X dL_law_515 rfl rfl ?_
      refine z_iload (pc := 516) (i := 5) 5 X dL_law_516 rfl ?_
      refine z_iconst (pc := 518) (z := 3) X dL_law_518 rfl ⟨by decide, by decide⟩ ?_
      refine z_iadd (pc := 519) X dL_law_519 (fun v297 _ _ => ?_)
      refine z_sld (pc := 520) X hscr dL_law_520 (fun v298 hi0 hi1 => ?_)
      refine z_callV_i (pc := 521) (cells := (40 + (s12.1).toNat * 8 + 2)) (slots := (3000 + (s12.1).toNat * 64 + 12)) (C := RX8) (T := TX8) (N := 30) (ci := 9) [zI v293, zI j296, zI v298] X dL_law_521 (c_X8_letter x291.2 p9 v293 j296 v298) kw_L_140 rfl rfl ⟨rfl, rfl, ⟨by decide, by decide⟩, ⟨by show _ ≤ 603072; omega, by show _ ≤ 7190634; omega⟩⟩ (Nat.le_of_ble_eq_true rfl) rfl (fun x299 => ?_)
      refine z_istore (pc := 524) (i := 7) (lv' := [(7, zI x299.1), (0, zA b), (1, zR p8), (2, zR p9), (3, zR p10), (4, zR p11), (5, zI s12.1), (6, zI x291.1)]) X dL_law_524 (hN _ (by decide)) rfl ?_
      refine z_aload_n (pc := 526) (i := 2) 3 X dL_law_526 rfl rfl ?_
      refine z_callV_i (pc := 527) (cells := (40 + (s12.1).toNat * 8 + 2)) (slots := (3000 + (s12.1).toNat * 64 + 12)) (C := RX8) (T := TX8) (N := 30) (ci := 9) [] X dL_law_527 (c_X8_thrown x299.2 p9) kw_L_118 rfl rfl ⟨rfl, rfl, ⟨by decide, by decide⟩, ⟨by show _ ≤ 603072; omega, by show _ ≤ 7190634; omega⟩⟩ (Nat.le_of_ble_eq_true rfl) rfl (fun x300 => ?_)
      refine z_iload (pc := 530) (i := 6) 7 X dL_law_530 rfl ?_
      refine z_icmp_eq (pc := 532) 537 X dL_law_532 (by decide) (fun _ => ?_) (fun _ => ?_)
      · refine z_iload (pc := 537) (i := 6) 7 X dL_law_537 rfl ?_
        refine z_if_ne (pc := 539) 554 X dL_law_539 (by decide) (fun _ => ?_) (fun _ => ?_)
        · refine z_goto (pc := 554) 1954 X dL_law_554 (by decide) ?_
          refine z_iinc (pc := 1954) (i := 5) (n := 5) (lv' := fun v301 => [(5, zI v301), (7, zI x299.1), (0, zA b), (1, zR p8), (2, zR p9), (3, zR p10), (4, zR p11), (6, zI x291.1)]) 6 X dL_law_1954 rfl (hN _ (by decide)) (fun _ => rfl) (fun v301 hR9 hv9 => ?_)
          refine z_goto (pc := 1957) 28 X dL_law_1957 (by decide) ?_
          refine z_widen (c1 := 40 + (v301).toNat * 8) (s1 := 3000 + (v301).toNat * 64) (by omega) (by omega) ?_
          refine z_pick [2, 3, 4, 5, 6, 0] (lv' := [(0, zA b), (1, zR p8), (2, zR p9), (3, zR p10), (4, zR p11), (5, zI v301)]) rfl ?_
          exact z_back
        · refine z_aload_n (pc := 542) (i := 3) 4 X dL_law_542 rfl rfl ?_
          refine z_iconst (pc := 543) (z := 0) X dL_law_543 rfl ⟨by decide, by decide⟩ ?_
          refine z_laload (pc := 544) X dL_law_544 (fun v302 => ?_)
          refine z_iload (pc := 545) (i := 7) 0 X dL_law_545 rfl ?_
          refine z_i2l (pc := 547) X dL_law_547 ?_
          refine z_lcmp (pc := 548) X dL_law_548 ?_
          refine z_if_eq (pc := 549) 554 X dL_law_549 (by decide) (fun _ => ?_) (fun _ => ?_)
          · refine z_goto (pc := 554) 1954 X dL_law_554 (by decide) ?_
            refine z_iinc (pc := 1954) (i := 5) (n := 5) (lv' := fun v303 => [(5, zI v303), (7, zI x299.1), (0, zA b), (1, zR p8), (2, zR p9), (3, zR p10), (4, zR p11), (6, zI x291.1)]) 6 X dL_law_1954 rfl (hN _ (by decide)) (fun _ => rfl) (fun v303 hR9 hv9 => ?_)
            refine z_goto (pc := 1957) 28 X dL_law_1957 (by decide) ?_
            refine z_widen (c1 := 40 + (v303).toNat * 8) (s1 := 3000 + (v303).toNat * 64) (by omega) (by omega) ?_
            refine z_pick [2, 3, 4, 5, 6, 0] (lv' := [(0, zA b), (1, zR p8), (2, zR p9), (3, zR p10), (4, zR p11), (5, zI v303)]) rfl ?_
            exact z_back
          · exact z_none
      · exact z_none
    refine z_if_eq (pc := 507) 514 X dL_law_507 (by decide) (fun _ => ?_) (fun _ => ?_)
    · refine z_iconst (pc := 514) (z := 0) X dL_law_514 rfl ⟨by decide, by decide⟩ ?_
      refine z_pick [1, 2, 3, 4, 5, 6, 0] (lv' := [(0, zA b), (1, zR p8), (2, zR p9), (3, zR p10), (4, zR p11), (5, zI s12.1), (6, zI x291.1)]) rfl ?_
      exact hJ515 0
    · refine z_iconst (pc := 510) (z := 1) X dL_law_510 rfl ⟨by decide, by decide⟩ ?_
      refine z_goto (pc := 511) 515 X dL_law_511 (by decide) ?_
      refine z_pick [1, 2, 3, 4, 5, 6, 0] (lv' := [(0, zA b), (1, zR p8), (2, zR p9), (3, zR p10), (4, zR p11), (5, zI s12.1), (6, zI x291.1)]) rfl ?_
      exact hJ515 1
  refine z_if_eq (pc := 474) 481 X dL_law_474 (by decide) (fun _ => ?_) (fun _ => ?_)
  · refine z_iconst (pc := 481) (z := 0) X dL_law_481 rfl ⟨by decide, by decide⟩ ?_
    exact hJ482 0
  · refine z_iconst (pc := 477) (z := 1) X dL_law_477 rfl ⟨by decide, by decide⟩ ?_
    refine z_goto (pc := 478) 482 X dL_law_478 (by decide) ?_
    exact hJ482 1
set_option maxRecDepth 40000 in
set_option maxHeartbeats 4000000 in
theorem cL_k4 (K : zK) (b L : Nat) (xs : Nat → Int32) (X : zX K cL_law RL zALL room_1) (hnL : K.2.2.2.2.2.2.2.2.2.2.2.2.2.2.1 = 9) (hscr : zscr K b L xs) (hL9 : L ≤ 2560) (p8 : Option Nat) (p9 : Option Nat) (p10 : Option Nat) (p11 : Option Nat) (s12 : Int × zH) (hi0 : 0 ≤ s12.1) (hi1 : s12.1 < (L : Int)) : zS (L_law_k4 xs L p8 p9 p10 s12) (zLG (fun s12 : Int × zH => zJ K (40 + (s12.1).toNat * 8) (3000 + (s12.1).toNat * 64) 28 [(0, zA b), (1, zR p8), (2, zR p9), (3, zR p10), (4, zR p11), (5, zI s12.1)] [] s12.2) (fun e13 : zH => zJ K 24040 195000 1960 [] [] e13)) (zJ K (40 + (s12.1).toNat * 8) (3000 + (s12.1).toNat * 64) 405 [(0, zA b), (1, zR p8), (2, zR p9), (3, zR p10), (4, zR p11), (5, zI s12.1)] [] s12.2) := by
  have hN : ∀ i, i < 9 → i < K.2.2.2.2.2.2.2.2.2.2.2.2.2.2.1 := by rw [hnL]; exact fun _ h => h
  unfold L_law_k4
  refine z_aload_n (pc := 405) (i := 1) 1 X dL_law_405 rfl rfl ?_
  refine z_aload_nA (pc := 406) (i := 0) 0 X dL_law_406 rfl rfl ?_
  refine z_iload (pc := 407) (i := 5) 5 X dL_law_407 rfl ?_
  refine z_iconst (pc := 409) (z := 1) X dL_law_409 rfl ⟨by decide, by decide⟩ ?_
  refine z_iadd (pc := 410) X dL_law_410 (fun v304 _ _ => ?_)
  refine z_sld (pc := 411) X hscr dL_law_411 (fun v305 hi0 hi1 => ?_)
  refine z_aload_n (pc := 412) (i := 3) 3 X dL_law_412 rfl rfl ?_
  refine z_callW_i (pc := 413) (cells := (40 + (s12.1).toNat * 8)) (slots := (3000 + (s12.1).toNat * 64)) [zR p8, zI v305, zR p10] X dL_law_413 (c_L_translate s12.2 p8 v305 p10) kw_L_134 rfl ⟨rfl, rfl, ⟨by decide, by decide⟩, ⟨by show _ ≤ 603072; omega, by show _ ≤ 7190634; omega⟩⟩ (Nat.le_of_ble_eq_true rfl) rfl (fun x306 => ?_)
  refine z_istore (pc := 416) (i := 6) (lv' := [(6, zI x306.1), (0, zA b), (1, zR p8), (2, zR p9), (3, zR p10), (4, zR p11), (5, zI s12.1)]) X dL_law_416 (hN _ (by decide)) rfl ?_
  refine z_aload_n (pc := 418) (i := 2) 3 X dL_law_418 rfl rfl ?_
  refine z_aload_nA (pc := 419) (i := 0) 1 X dL_law_419 rfl rfl ?_
  refine z_iload (pc := 420) (i := 5) 6 X dL_law_420 rfl ?_
  refine z_iconst (pc := 422) (z := 1) X dL_law_422 rfl ⟨by decide, by decide⟩ ?_
  refine z_iadd (pc := 423) X dL_law_423 (fun v307 _ _ => ?_)
  refine z_sld (pc := 424) X hscr dL_law_424 (fun v308 hi0 hi1 => ?_)
  refine z_callV_i (pc := 425) (cells := (40 + (s12.1).toNat * 8 + 2)) (slots := (3000 + (s12.1).toNat * 64 + 12)) (C := RX8) (T := TX8) (N := 30) (ci := 9) [zI v308] X dL_law_425 (c_X8_translate x306.2 p9 v308) kw_L_136 rfl rfl ⟨rfl, rfl, ⟨by decide, by decide⟩, ⟨by show _ ≤ 603072; omega, by show _ ≤ 7190634; omega⟩⟩ (Nat.le_of_ble_eq_true rfl) rfl (fun x309 => ?_)
  refine z_istore (pc := 428) (i := 7) (lv' := [(7, zI x309.1), (6, zI x306.1), (0, zA b), (1, zR p8), (2, zR p9), (3, zR p10), (4, zR p11), (5, zI s12.1)]) X dL_law_428 (hN _ (by decide)) rfl ?_
  refine z_aload_n (pc := 430) (i := 2) 4 X dL_law_430 rfl rfl ?_
  refine z_callV_i (pc := 431) (cells := (40 + (s12.1).toNat * 8 + 2)) (slots := (3000 + (s12.1).toNat * 64 + 12)) (C := RX8) (T := TX8) (N := 30) (ci := 9) [] X dL_law_431 (c_X8_thrown x309.2 p9) kw_L_118 rfl rfl ⟨rfl, rfl, ⟨by decide, by decide⟩, ⟨by show _ ≤ 603072; omega, by show _ ≤ 7190634; omega⟩⟩ (Nat.le_of_ble_eq_true rfl) rfl (fun x310 => ?_)
  refine z_iload (pc := 434) (i := 6) 1 X dL_law_434 rfl ?_
  refine z_icmp_eq (pc := 436) 441 X dL_law_436 (by decide) (fun _ => ?_) (fun _ => ?_)
  · refine z_iload (pc := 441) (i := 6) 1 X dL_law_441 rfl ?_
    refine z_if_ne (pc := 443) 458 X dL_law_443 (by decide) (fun _ => ?_) (fun _ => ?_)
    · refine z_goto (pc := 458) 1954 X dL_law_458 (by decide) ?_
      refine z_iinc (pc := 1954) (i := 5) (n := 5) (lv' := fun v311 => [(5, zI v311), (7, zI x309.1), (6, zI x306.1), (0, zA b), (1, zR p8), (2, zR p9), (3, zR p10), (4, zR p11)]) 7 X dL_law_1954 rfl (hN _ (by decide)) (fun _ => rfl) (fun v311 hR9 hv9 => ?_)
      refine z_goto (pc := 1957) 28 X dL_law_1957 (by decide) ?_
      refine z_widen (c1 := 40 + (v311).toNat * 8) (s1 := 3000 + (v311).toNat * 64) (by omega) (by omega) ?_
      refine z_pick [3, 4, 5, 6, 7, 0] (lv' := [(0, zA b), (1, zR p8), (2, zR p9), (3, zR p10), (4, zR p11), (5, zI v311)]) rfl ?_
      exact z_back
    · refine z_aload_n (pc := 446) (i := 3) 5 X dL_law_446 rfl rfl ?_
      refine z_iconst (pc := 447) (z := 0) X dL_law_447 rfl ⟨by decide, by decide⟩ ?_
      refine z_laload (pc := 448) X dL_law_448 (fun v312 => ?_)
      refine z_iload (pc := 449) (i := 7) 0 X dL_law_449 rfl ?_
      refine z_i2l (pc := 451) X dL_law_451 ?_
      refine z_lcmp (pc := 452) X dL_law_452 ?_
      refine z_if_eq (pc := 453) 458 X dL_law_453 (by decide) (fun _ => ?_) (fun _ => ?_)
      · refine z_goto (pc := 458) 1954 X dL_law_458 (by decide) ?_
        refine z_iinc (pc := 1954) (i := 5) (n := 5) (lv' := fun v313 => [(5, zI v313), (7, zI x309.1), (6, zI x306.1), (0, zA b), (1, zR p8), (2, zR p9), (3, zR p10), (4, zR p11)]) 7 X dL_law_1954 rfl (hN _ (by decide)) (fun _ => rfl) (fun v313 hR9 hv9 => ?_)
        refine z_goto (pc := 1957) 28 X dL_law_1957 (by decide) ?_
        refine z_widen (c1 := 40 + (v313).toNat * 8) (s1 := 3000 + (v313).toNat * 64) (by omega) (by omega) ?_
        refine z_pick [3, 4, 5, 6, 7, 0] (lv' := [(0, zA b), (1, zR p8), (2, zR p9), (3, zR p10), (4, zR p11), (5, zI v313)]) rfl ?_
        exact z_back
      · exact z_none
  · exact z_none
set_option maxRecDepth 40000 in
set_option maxHeartbeats 4000000 in
theorem cL_k3 (K : zK) (b L : Nat) (xs : Nat → Int32) (X : zX K cL_law RL zALL room_1) (hnL : K.2.2.2.2.2.2.2.2.2.2.2.2.2.2.1 = 9) (hscr : zscr K b L xs) (hL9 : L ≤ 2560) (p8 : Option Nat) (p9 : Option Nat) (p10 : Option Nat) (p11 : Option Nat) (s12 : Int × zH) (hi0 : 0 ≤ s12.1) (hi1 : s12.1 < (L : Int)) : zS (L_law_k3 xs L p8 p9 p10 s12) (zLG (fun s12 : Int × zH => zJ K (40 + (s12.1).toNat * 8) (3000 + (s12.1).toNat * 64) 28 [(0, zA b), (1, zR p8), (2, zR p9), (3, zR p10), (4, zR p11), (5, zI s12.1)] [] s12.2) (fun e13 : zH => zJ K 24040 195000 1960 [] [] e13)) (zJ K (40 + (s12.1).toNat * 8) (3000 + (s12.1).toNat * 64) 349 [(0, zA b), (1, zR p8), (2, zR p9), (3, zR p10), (4, zR p11), (5, zI s12.1)] [] s12.2) := by
  have hN : ∀ i, i < 9 → i < K.2.2.2.2.2.2.2.2.2.2.2.2.2.2.1 := by rw [hnL]; exact fun _ h => h
  unfold L_law_k3
  refine z_aload_n (pc := 349) (i := 1) 1 X dL_law_349 rfl rfl ?_
  refine z_aload_nA (pc := 350) (i := 0) 0 X dL_law_350 rfl rfl ?_
  refine z_iload (pc := 351) (i := 5) 5 X dL_law_351 rfl ?_
  refine z_iconst (pc := 353) (z := 1) X dL_law_353 rfl ⟨by decide, by decide⟩ ?_
  refine z_iadd (pc := 354) X dL_law_354 (fun v314 _ _ => ?_)
  refine z_sld (pc := 355) X hscr dL_law_355 (fun v315 hi0 hi1 => ?_)
  refine z_aload_n (pc := 356) (i := 3) 3 X dL_law_356 rfl rfl ?_
  refine z_callW_i (pc := 357) (cells := (40 + (s12.1).toNat * 8)) (slots := (3000 + (s12.1).toNat * 64)) [zR p8, zI v315, zR p10] X dL_law_357 (c_L_rename s12.2 p8 v315 p10) kw_L_130 rfl ⟨rfl, rfl, ⟨by decide, by decide⟩, ⟨by show _ ≤ 603072; omega, by show _ ≤ 7190634; omega⟩⟩ (Nat.le_of_ble_eq_true rfl) rfl (fun x316 => ?_)
  refine z_istore (pc := 360) (i := 6) (lv' := [(6, zI x316.1), (0, zA b), (1, zR p8), (2, zR p9), (3, zR p10), (4, zR p11), (5, zI s12.1)]) X dL_law_360 (hN _ (by decide)) rfl ?_
  refine z_aload_n (pc := 362) (i := 2) 3 X dL_law_362 rfl rfl ?_
  refine z_aload_nA (pc := 363) (i := 0) 1 X dL_law_363 rfl rfl ?_
  refine z_iload (pc := 364) (i := 5) 6 X dL_law_364 rfl ?_
  refine z_iconst (pc := 366) (z := 1) X dL_law_366 rfl ⟨by decide, by decide⟩ ?_
  refine z_iadd (pc := 367) X dL_law_367 (fun v317 _ _ => ?_)
  refine z_sld (pc := 368) X hscr dL_law_368 (fun v318 hi0 hi1 => ?_)
  refine z_callV_i (pc := 369) (cells := (40 + (s12.1).toNat * 8 + 2)) (slots := (3000 + (s12.1).toNat * 64 + 12)) (C := RX8) (T := TX8) (N := 30) (ci := 9) [zI v318] X dL_law_369 (c_X8_rename x316.2 p9 v318) kw_L_133 rfl rfl ⟨rfl, rfl, ⟨by decide, by decide⟩, ⟨by show _ ≤ 603072; omega, by show _ ≤ 7190634; omega⟩⟩ (Nat.le_of_ble_eq_true rfl) rfl (fun x319 => ?_)
  refine z_istore (pc := 372) (i := 7) (lv' := [(7, zI x319.1), (6, zI x316.1), (0, zA b), (1, zR p8), (2, zR p9), (3, zR p10), (4, zR p11), (5, zI s12.1)]) X dL_law_372 (hN _ (by decide)) rfl ?_
  refine z_aload_n (pc := 374) (i := 2) 4 X dL_law_374 rfl rfl ?_
  refine z_callV_i (pc := 375) (cells := (40 + (s12.1).toNat * 8 + 2)) (slots := (3000 + (s12.1).toNat * 64 + 12)) (C := RX8) (T := TX8) (N := 30) (ci := 9) [] X dL_law_375 (c_X8_thrown x319.2 p9) kw_L_118 rfl rfl ⟨rfl, rfl, ⟨by decide, by decide⟩, ⟨by show _ ≤ 603072; omega, by show _ ≤ 7190634; omega⟩⟩ (Nat.le_of_ble_eq_true rfl) rfl (fun x320 => ?_)
  refine z_iload (pc := 378) (i := 6) 1 X dL_law_378 rfl ?_
  refine z_icmp_eq (pc := 380) 385 X dL_law_380 (by decide) (fun _ => ?_) (fun _ => ?_)
  · refine z_iload (pc := 385) (i := 6) 1 X dL_law_385 rfl ?_
    refine z_if_ne (pc := 387) 402 X dL_law_387 (by decide) (fun _ => ?_) (fun _ => ?_)
    · refine z_goto (pc := 402) 1954 X dL_law_402 (by decide) ?_
      refine z_iinc (pc := 1954) (i := 5) (n := 5) (lv' := fun v321 => [(5, zI v321), (7, zI x319.1), (6, zI x316.1), (0, zA b), (1, zR p8), (2, zR p9), (3, zR p10), (4, zR p11)]) 7 X dL_law_1954 rfl (hN _ (by decide)) (fun _ => rfl) (fun v321 hR9 hv9 => ?_)
      refine z_goto (pc := 1957) 28 X dL_law_1957 (by decide) ?_
      refine z_widen (c1 := 40 + (v321).toNat * 8) (s1 := 3000 + (v321).toNat * 64) (by omega) (by omega) ?_
      refine z_pick [3, 4, 5, 6, 7, 0] (lv' := [(0, zA b), (1, zR p8), (2, zR p9), (3, zR p10), (4, zR p11), (5, zI v321)]) rfl ?_
      exact z_back
    · refine z_aload_n (pc := 390) (i := 3) 5 X dL_law_390 rfl rfl ?_
      refine z_iconst (pc := 391) (z := 0) X dL_law_391 rfl ⟨by decide, by decide⟩ ?_
      refine z_laload (pc := 392) X dL_law_392 (fun v322 => ?_)
      refine z_iload (pc := 393) (i := 7) 0 X dL_law_393 rfl ?_
      refine z_i2l (pc := 395) X dL_law_395 ?_
      refine z_lcmp (pc := 396) X dL_law_396 ?_
      refine z_if_eq (pc := 397) 402 X dL_law_397 (by decide) (fun _ => ?_) (fun _ => ?_)
      · refine z_goto (pc := 402) 1954 X dL_law_402 (by decide) ?_
        refine z_iinc (pc := 1954) (i := 5) (n := 5) (lv' := fun v323 => [(5, zI v323), (7, zI x319.1), (6, zI x316.1), (0, zA b), (1, zR p8), (2, zR p9), (3, zR p10), (4, zR p11)]) 7 X dL_law_1954 rfl (hN _ (by decide)) (fun _ => rfl) (fun v323 hR9 hv9 => ?_)
        refine z_goto (pc := 1957) 28 X dL_law_1957 (by decide) ?_
        refine z_widen (c1 := 40 + (v323).toNat * 8) (s1 := 3000 + (v323).toNat * 64) (by omega) (by omega) ?_
        refine z_pick [3, 4, 5, 6, 7, 0] (lv' := [(0, zA b), (1, zR p8), (2, zR p9), (3, zR p10), (4, zR p11), (5, zI v323)]) rfl ?_
        exact z_back
      · exact z_none
  · exact z_none
set_option maxRecDepth 40000 in
set_option maxHeartbeats 4000000 in
theorem cL_k2 (K : zK) (b L : Nat) (xs : Nat → Int32) (X : zX K cL_law RL zALL room_1) (hnL : K.2.2.2.2.2.2.2.2.2.2.2.2.2.2.1 = 9) (hscr : zscr K b L xs) (hL9 : L ≤ 2560) (p8 : Option Nat) (p9 : Option Nat) (p10 : Option Nat) (p11 : Option Nat) (s12 : Int × zH) (hi0 : 0 ≤ s12.1) (hi1 : s12.1 < (L : Int)) : zS (L_law_k2 xs L p8 p9 p10 s12) (zLG (fun s12 : Int × zH => zJ K (40 + (s12.1).toNat * 8) (3000 + (s12.1).toNat * 64) 28 [(0, zA b), (1, zR p8), (2, zR p9), (3, zR p10), (4, zR p11), (5, zI s12.1)] [] s12.2) (fun e13 : zH => zJ K 24040 195000 1960 [] [] e13)) (zJ K (40 + (s12.1).toNat * 8) (3000 + (s12.1).toNat * 64) 251 [(0, zA b), (1, zR p8), (2, zR p9), (3, zR p10), (4, zR p11), (5, zI s12.1)] [] s12.2) := by
  have hN : ∀ i, i < 9 → i < K.2.2.2.2.2.2.2.2.2.2.2.2.2.2.1 := by rw [hnL]; exact fun _ h => h
  unfold L_law_k2
  refine z_aload_n (pc := 251) (i := 1) 1 X dL_law_251 rfl rfl ?_
  refine z_aload_nA (pc := 252) (i := 0) 0 X dL_law_252 rfl rfl ?_
  refine z_iload (pc := 253) (i := 5) 5 X dL_law_253 rfl ?_
  refine z_iconst (pc := 255) (z := 1) X dL_law_255 rfl ⟨by decide, by decide⟩ ?_
  refine z_iadd (pc := 256) X dL_law_256 (fun v324 _ _ => ?_)
  refine z_sld (pc := 257) X hscr dL_law_257 (fun v325 hi0 hi1 => ?_)
  refine z_aload_nA (pc := 258) (i := 0) 0 X dL_law_258 rfl rfl ?_
  refine z_iload (pc := 259) (i := 5) 5 X dL_law_259 rfl ?_
  refine z_iconst (pc := 261) (z := 2) X dL_law_261 rfl ⟨by decide, by decide⟩ ?_
  refine z_iadd (pc := 262) X dL_law_262 (fun v326 _ _ => ?_)
  refine z_sld (pc := 263) X hscr dL_law_263 (fun v327 hi0 hi1 => ?_)
  refine z_i2c (pc := 264) X dL_law_264 ?_
  refine z_aload_nA (pc := 265) (i := 0) 0 X dL_law_265 rfl rfl ?_
  refine z_iload (pc := 266) (i := 5) 5 X dL_law_266 rfl ?_
  refine z_iconst (pc := 268) (z := 3) X dL_law_268 rfl ⟨by decide, by decide⟩ ?_
  refine z_iadd (pc := 269) X dL_law_269 (fun v328 _ _ => ?_)
  refine z_sld (pc := 270) X hscr dL_law_270 (fun v329 hi0 hi1 => ?_)
  have hJ279 : ∀ (j330 : Int), zS (L_law_j279 xs L p8 p9 p10 s12 v325 v327 j330) (zLG (fun s12 : Int × zH => zJ K (40 + (s12.1).toNat * 8) (3000 + (s12.1).toNat * 64) 28 [(0, zA b), (1, zR p8), (2, zR p9), (3, zR p10), (4, zR p11), (5, zI s12.1)] [] s12.2) (fun e13 : zH => zJ K 24040 195000 1960 [] [] e13)) (zJ K (40 + (s12.1).toNat * 8) (3000 + (s12.1).toNat * 64) 279 [(0, zA b), (1, zR p8), (2, zR p9), (3, zR p10), (4, zR p11), (5, zI s12.1)] [zI j330, zI (v327 % 65536), zI v325, zR p8] s12.2) := by
    intro j330
    unfold L_law_j279
    refine z_aload_n (pc := 279) (i := 3) 3 X dL_law_279 rfl rfl ?_
    refine z_callW_i (pc := 280) (cells := (40 + (s12.1).toNat * 8)) (slots := (3000 + (s12.1).toNat * 64)) [zR p8, zI v325, zI (v327 % 65536), zI j330, zR p10] X dL_law_280 (c_L_street s12.2 p8 v325 ((v327 % 65536)) j330 p10) kw_L_126 rfl ⟨rfl, rfl, ⟨by decide, by decide⟩, ⟨by show _ ≤ 603072; omega, by show _ ≤ 7190634; omega⟩⟩ (Nat.le_of_ble_eq_true rfl) rfl (fun x331 => ?_)
    refine z_istore (pc := 283) (i := 6) (lv' := [(6, zI x331.1), (0, zA b), (1, zR p8), (2, zR p9), (3, zR p10), (4, zR p11), (5, zI s12.1)]) X dL_law_283 (hN _ (by decide)) rfl ?_
    refine z_aload_n (pc := 285) (i := 2) 3 X dL_law_285 rfl rfl ?_
    refine z_aload_nA (pc := 286) (i := 0) 1 X dL_law_286 rfl rfl ?_
    refine z_iload (pc := 287) (i := 5) 6 X dL_law_287 rfl ?_
    refine z_iconst (pc := 289) (z := 1) X dL_law_289 rfl ⟨by decide, by decide⟩ ?_
    refine z_iadd (pc := 290) X dL_law_290 (fun v332 _ _ => ?_)
    refine z_sld (pc := 291) X hscr dL_law_291 (fun v333 hi0 hi1 => ?_)
    refine z_aload_nA (pc := 292) (i := 0) 1 X dL_law_292 rfl rfl ?_
    refine z_iload (pc := 293) (i := 5) 6 X dL_law_293 rfl ?_
    refine z_iconst (pc := 295) (z := 2) X dL_law_295 rfl ⟨by decide, by decide⟩ ?_
    refine z_iadd (pc := 296) X dL_law_296 (fun v334 _ _ => ?_)
    refine z_sld (pc := 297) X hscr dL_law_297 (fun v335 hi0 hi1 => ?_)
    refine z_i2c (pc := 298) X dL_law_298 ?_
    refine z_aload_nA (pc := 299) (i := 0) 1 X dL_law_299 rfl rfl ?_
    refine z_iload (pc := 300) (i := 5) 6 X dL_law_300 rfl ?_
    refine z_iconst (pc := 302) (z := 3) X dL_law_302 rfl ⟨by decide, by decide⟩ ?_
    refine z_iadd (pc := 303) X dL_law_303 (fun v336 _ _ => ?_)
    refine z_sld (pc := 304) X hscr dL_law_304 (fun v337 hi0 hi1 => ?_)
    have hJ313 : ∀ (j338 : Int), zS (L_law_j313 p9 p10 s12 x331 v333 v335 j338) (zLG (fun s12 : Int × zH => zJ K (40 + (s12.1).toNat * 8) (3000 + (s12.1).toNat * 64) 28 [(0, zA b), (1, zR p8), (2, zR p9), (3, zR p10), (4, zR p11), (5, zI s12.1)] [] s12.2) (fun e13 : zH => zJ K 24040 195000 1960 [] [] e13)) (zJ K (40 + (s12.1).toNat * 8 + 1) (3000 + (s12.1).toNat * 64 + 8) 313 [(0, zA b), (1, zR p8), (2, zR p9), (3, zR p10), (4, zR p11), (5, zI s12.1), (6, zI x331.1)] [zI j338, zI (v335 % 65536), zI v333, zR p9] x331.2) := by
      intro j338
      unfold L_law_j313
      refine z_callV_i (pc := 313) (cells := (40 + (s12.1).toNat * 8 + 1)) (slots := (3000 + (s12.1).toNat * 64 + 8)) (C := RX8) (T := TX8) (N := 30) (ci := 9) [zI v333, zI (v335 % 65536), zI j338] X dL_law_313 (c_X8_street x331.2 p9 v333 ((v335 % 65536)) j338) kw_L_129 rfl rfl ⟨rfl, rfl, ⟨by decide, by decide⟩, ⟨by show _ ≤ 603072; omega, by show _ ≤ 7190634; omega⟩⟩ (Nat.le_of_ble_eq_true rfl) rfl (fun x339 => ?_)
      refine z_istore (pc := 316) (i := 7) (lv' := [(7, zI x339.1), (0, zA b), (1, zR p8), (2, zR p9), (3, zR p10), (4, zR p11), (5, zI s12.1), (6, zI x331.1)]) X dL_law_316 (hN _ (by decide)) rfl ?_
      refine z_aload_n (pc := 318) (i := 2) 3 X dL_law_318 rfl rfl ?_
      refine z_callV_i (pc := 319) (cells := (40 + (s12.1).toNat * 8 + 1)) (slots := (3000 + (s12.1).toNat * 64 + 8)) (C := RX8) (T := TX8) (N := 30) (ci := 9) [] X dL_law_319 (c_X8_thrown x339.2 p9) kw_L_118 rfl rfl ⟨rfl, rfl, ⟨by decide, by decide⟩, ⟨by show _ ≤ 603072; omega, by show _ ≤ 7190634; omega⟩⟩ (Nat.le_of_ble_eq_true rfl) rfl (fun x340 => ?_)
      refine z_iload (pc := 322) (i := 6) 7 X dL_law_322 rfl ?_
      refine z_icmp_eq (pc := 324) 329 X dL_law_324 (by decide) (fun _ => ?_) (fun _ => ?_)
      · refine z_iload (pc := 329) (i := 6) 7 X dL_law_329 rfl ?_
        refine z_if_ne (pc := 331) 346 X dL_law_331 (by decide) (fun _ => ?_) (fun _ => ?_)
        · refine z_goto (pc := 346) 1954 X dL_law_346 (by decide) ?_
          refine z_iinc (pc := 1954) (i := 5) (n := 5) (lv' := fun v341 => [(5, zI v341), (7, zI x339.1), (0, zA b), (1, zR p8), (2, zR p9), (3, zR p10), (4, zR p11), (6, zI x331.1)]) 6 X dL_law_1954 rfl (hN _ (by decide)) (fun _ => rfl) (fun v341 hR9 hv9 => ?_)
          refine z_goto (pc := 1957) 28 X dL_law_1957 (by decide) ?_
          refine z_widen (c1 := 40 + (v341).toNat * 8) (s1 := 3000 + (v341).toNat * 64) (by omega) (by omega) ?_
          refine z_pick [2, 3, 4, 5, 6, 0] (lv' := [(0, zA b), (1, zR p8), (2, zR p9), (3, zR p10), (4, zR p11), (5, zI v341)]) rfl ?_
          exact z_back
        · refine z_aload_n (pc := 334) (i := 3) 4 X dL_law_334 rfl rfl ?_
          refine z_iconst (pc := 335) (z := 0) X dL_law_335 rfl ⟨by decide, by decide⟩ ?_
          refine z_laload (pc := 336) X dL_law_336 (fun v342 => ?_)
          refine z_iload (pc := 337) (i := 7) 0 X dL_law_337 rfl ?_
          refine z_i2l (pc := 339) X dL_law_339 ?_
          refine z_lcmp (pc := 340) X dL_law_340 ?_
          refine z_if_eq (pc := 341) 346 X dL_law_341 (by decide) (fun _ => ?_) (fun _ => ?_)
          · refine z_goto (pc := 346) 1954 X dL_law_346 (by decide) ?_
            refine z_iinc (pc := 1954) (i := 5) (n := 5) (lv' := fun v343 => [(5, zI v343), (7, zI x339.1), (0, zA b), (1, zR p8), (2, zR p9), (3, zR p10), (4, zR p11), (6, zI x331.1)]) 6 X dL_law_1954 rfl (hN _ (by decide)) (fun _ => rfl) (fun v343 hR9 hv9 => ?_)
            refine z_goto (pc := 1957) 28 X dL_law_1957 (by decide) ?_
            refine z_widen (c1 := 40 + (v343).toNat * 8) (s1 := 3000 + (v343).toNat * 64) (by omega) (by omega) ?_
            refine z_pick [2, 3, 4, 5, 6, 0] (lv' := [(0, zA b), (1, zR p8), (2, zR p9), (3, zR p10), (4, zR p11), (5, zI v343)]) rfl ?_
            exact z_back
          · exact z_none
      · exact z_none
    refine z_if_eq (pc := 305) 312 X dL_law_305 (by decide) (fun _ => ?_) (fun _ => ?_)
    · refine z_iconst (pc := 312) (z := 0) X dL_law_312 rfl ⟨by decide, by decide⟩ ?_
      refine z_pick [1, 2, 3, 4, 5, 6, 0] (lv' := [(0, zA b), (1, zR p8), (2, zR p9), (3, zR p10), (4, zR p11), (5, zI s12.1), (6, zI x331.1)]) rfl ?_
      exact hJ313 0
    · refine z_iconst (pc := 308) (z := 1) X dL_law_308 rfl ⟨by decide, by decide⟩ ?_
      refine z_goto (pc := 309) 313 X dL_law_309 (by decide) ?_
      refine z_pick [1, 2, 3, 4, 5, 6, 0] (lv' := [(0, zA b), (1, zR p8), (2, zR p9), (3, zR p10), (4, zR p11), (5, zI s12.1), (6, zI x331.1)]) rfl ?_
      exact hJ313 1
  refine z_if_eq (pc := 271) 278 X dL_law_271 (by decide) (fun _ => ?_) (fun _ => ?_)
  · refine z_iconst (pc := 278) (z := 0) X dL_law_278 rfl ⟨by decide, by decide⟩ ?_
    exact hJ279 0
  · refine z_iconst (pc := 274) (z := 1) X dL_law_274 rfl ⟨by decide, by decide⟩ ?_
    refine z_goto (pc := 275) 279 X dL_law_275 (by decide) ?_
    exact hJ279 1
set_option maxRecDepth 40000 in
set_option maxHeartbeats 4000000 in
theorem cL_k1 (K : zK) (b L : Nat) (xs : Nat → Int32) (X : zX K cL_law RL zALL room_1) (hnL : K.2.2.2.2.2.2.2.2.2.2.2.2.2.2.1 = 9) (hscr : zscr K b L xs) (hL9 : L ≤ 2560) (p8 : Option Nat) (p9 : Option Nat) (p10 : Option Nat) (p11 : Option Nat) (s12 : Int × zH) (hi0 : 0 ≤ s12.1) (hi1 : s12.1 < (L : Int)) : zS (L_law_k1 p8 p9 s12) (zLG (fun s12 : Int × zH => zJ K (40 + (s12.1).toNat * 8) (3000 + (s12.1).toNat * 64) 28 [(0, zA b), (1, zR p8), (2, zR p9), (3, zR p10), (4, zR p11), (5, zI s12.1)] [] s12.2) (fun e13 : zH => zJ K 24040 195000 1960 [] [] e13)) (zJ K (40 + (s12.1).toNat * 8) (3000 + (s12.1).toNat * 64) 238 [(0, zA b), (1, zR p8), (2, zR p9), (3, zR p10), (4, zR p11), (5, zI s12.1)] [] s12.2) := by
  have hN : ∀ i, i < 9 → i < K.2.2.2.2.2.2.2.2.2.2.2.2.2.2.1 := by rw [hnL]; exact fun _ h => h
  unfold L_law_k1
  refine z_aload_n (pc := 238) (i := 1) 1 X dL_law_238 rfl rfl ?_
  refine z_callV_i (pc := 239) (cells := (40 + (s12.1).toNat * 8)) (slots := (3000 + (s12.1).toNat * 64)) (C := RX7) (T := TX7) (N := 9) (ci := 8) [] X dL_law_239 (c_X7_wipe s12.2 p8) kw_L_122 rfl rfl ⟨rfl, rfl, ⟨by decide, by decide⟩, ⟨by show _ ≤ 603072; omega, by show _ ≤ 7190634; omega⟩⟩ (Nat.le_of_ble_eq_true rfl) rfl (fun x344 => ?_)
  refine z_aload_n (pc := 242) (i := 2) 2 X dL_law_242 rfl rfl ?_
  refine z_callV_i (pc := 243) (cells := (40 + (s12.1).toNat * 8)) (slots := (3000 + (s12.1).toNat * 64)) (C := RX8) (T := TX8) (N := 30) (ci := 9) [] X dL_law_243 (c_X8_wipe x344.2 p9) kw_L_125 rfl rfl ⟨rfl, rfl, ⟨by decide, by decide⟩, ⟨by show _ ≤ 603072; omega, by show _ ≤ 7190634; omega⟩⟩ (Nat.le_of_ble_eq_true rfl) rfl (fun x345 => ?_)
  refine z_icmp_eq (pc := 246) 1954 X dL_law_246 (by decide) (fun _ => ?_) (fun _ => ?_)
  · refine z_iinc (pc := 1954) (i := 5) (n := 5) (lv' := fun v346 => [(5, zI v346), (0, zA b), (1, zR p8), (2, zR p9), (3, zR p10), (4, zR p11)]) 5 X dL_law_1954 rfl (hN _ (by decide)) (fun _ => rfl) (fun v346 hR9 hv9 => ?_)
    refine z_goto (pc := 1957) 28 X dL_law_1957 (by decide) ?_
    refine z_widen (c1 := 40 + (v346).toNat * 8) (s1 := 3000 + (v346).toNat * 64) (by omega) (by omega) ?_
    refine z_pick [1, 2, 3, 4, 5, 0] (lv' := [(0, zA b), (1, zR p8), (2, zR p9), (3, zR p10), (4, zR p11), (5, zI v346)]) rfl ?_
    exact z_back
  · exact z_none
set_option maxRecDepth 40000 in
set_option maxHeartbeats 4000000 in
theorem cL_k0 (K : zK) (b L : Nat) (xs : Nat → Int32) (X : zX K cL_law RL zALL room_1) (hnL : K.2.2.2.2.2.2.2.2.2.2.2.2.2.2.1 = 9) (hscr : zscr K b L xs) (hL9 : L ≤ 2560) (p8 : Option Nat) (p9 : Option Nat) (p10 : Option Nat) (p11 : Option Nat) (s12 : Int × zH) (hi0 : 0 ≤ s12.1) (hi1 : s12.1 < (L : Int)) : zS (L_law_k0 xs L p8 p9 p10 s12) (zLG (fun s12 : Int × zH => zJ K (40 + (s12.1).toNat * 8) (3000 + (s12.1).toNat * 64) 28 [(0, zA b), (1, zR p8), (2, zR p9), (3, zR p10), (4, zR p11), (5, zI s12.1)] [] s12.2) (fun e13 : zH => zJ K 24040 195000 1960 [] [] e13)) (zJ K (40 + (s12.1).toNat * 8) (3000 + (s12.1).toNat * 64) 180 [(0, zA b), (1, zR p8), (2, zR p9), (3, zR p10), (4, zR p11), (5, zI s12.1)] [] s12.2) := by
  have hN : ∀ i, i < 9 → i < K.2.2.2.2.2.2.2.2.2.2.2.2.2.2.1 := by rw [hnL]; exact fun _ h => h
  unfold L_law_k0
  refine z_aload_n (pc := 180) (i := 1) 1 X dL_law_180 rfl rfl ?_
  refine z_aload_nA (pc := 181) (i := 0) 0 X dL_law_181 rfl rfl ?_
  refine z_iload (pc := 182) (i := 5) 5 X dL_law_182 rfl ?_
  refine z_iconst (pc := 184) (z := 1) X dL_law_184 rfl ⟨by decide, by decide⟩ ?_
  refine z_iadd (pc := 185) X dL_law_185 (fun v347 _ _ => ?_)
  refine z_sld (pc := 186) X hscr dL_law_186 (fun v348 hi0 hi1 => ?_)
  refine z_i2c (pc := 187) X dL_law_187 ?_
  refine z_aload_n (pc := 188) (i := 3) 3 X dL_law_188 rfl rfl ?_
  refine z_callW_i (pc := 189) (cells := (40 + (s12.1).toNat * 8)) (slots := (3000 + (s12.1).toNat * 64)) [zR p8, zI (v348 % 65536), zR p10] X dL_law_189 (c_L_type s12.2 p8 ((v348 % 65536)) p10) kw_L_112 rfl ⟨rfl, rfl, ⟨by decide, by decide⟩, ⟨by show _ ≤ 603072; omega, by show _ ≤ 7190634; omega⟩⟩ (Nat.le_of_ble_eq_true rfl) rfl (fun x349 => ?_)
  refine z_istore (pc := 192) (i := 6) (lv' := [(6, zI x349.1), (0, zA b), (1, zR p8), (2, zR p9), (3, zR p10), (4, zR p11), (5, zI s12.1)]) X dL_law_192 (hN _ (by decide)) rfl ?_
  refine z_aload_n (pc := 194) (i := 2) 3 X dL_law_194 rfl rfl ?_
  refine z_aload_nA (pc := 195) (i := 0) 1 X dL_law_195 rfl rfl ?_
  refine z_iload (pc := 196) (i := 5) 6 X dL_law_196 rfl ?_
  refine z_iconst (pc := 198) (z := 1) X dL_law_198 rfl ⟨by decide, by decide⟩ ?_
  refine z_iadd (pc := 199) X dL_law_199 (fun v350 _ _ => ?_)
  refine z_sld (pc := 200) X hscr dL_law_200 (fun v351 hi0 hi1 => ?_)
  refine z_i2c (pc := 201) X dL_law_201 ?_
  refine z_callV_i (pc := 202) (cells := (40 + (s12.1).toNat * 8 + 1)) (slots := (3000 + (s12.1).toNat * 64 + 6)) (C := RX8) (T := TX8) (N := 30) (ci := 9) [zI (v351 % 65536)] X dL_law_202 (c_X8_type x349.2 p9 ((v351 % 65536))) kw_L_117 rfl rfl ⟨rfl, rfl, ⟨by decide, by decide⟩, ⟨by show _ ≤ 603072; omega, by show _ ≤ 7190634; omega⟩⟩ (Nat.le_of_ble_eq_true rfl) rfl (fun x352 => ?_)
  refine z_istore (pc := 205) (i := 7) (lv' := [(7, zI x352.1), (6, zI x349.1), (0, zA b), (1, zR p8), (2, zR p9), (3, zR p10), (4, zR p11), (5, zI s12.1)]) X dL_law_205 (hN _ (by decide)) rfl ?_
  refine z_aload_n (pc := 207) (i := 2) 4 X dL_law_207 rfl rfl ?_
  refine z_callV_i (pc := 208) (cells := (40 + (s12.1).toNat * 8 + 1)) (slots := (3000 + (s12.1).toNat * 64 + 6)) (C := RX8) (T := TX8) (N := 30) (ci := 9) [] X dL_law_208 (c_X8_thrown x352.2 p9) kw_L_118 rfl rfl ⟨rfl, rfl, ⟨by decide, by decide⟩, ⟨by show _ ≤ 603072; omega, by show _ ≤ 7190634; omega⟩⟩ (Nat.le_of_ble_eq_true rfl) rfl (fun x353 => ?_)
  refine z_iload (pc := 211) (i := 6) 1 X dL_law_211 rfl ?_
  refine z_icmp_eq (pc := 213) 218 X dL_law_213 (by decide) (fun _ => ?_) (fun _ => ?_)
  · refine z_iload (pc := 218) (i := 6) 1 X dL_law_218 rfl ?_
    refine z_if_ne (pc := 220) 235 X dL_law_220 (by decide) (fun _ => ?_) (fun _ => ?_)
    · refine z_goto (pc := 235) 1954 X dL_law_235 (by decide) ?_
      refine z_iinc (pc := 1954) (i := 5) (n := 5) (lv' := fun v354 => [(5, zI v354), (7, zI x352.1), (6, zI x349.1), (0, zA b), (1, zR p8), (2, zR p9), (3, zR p10), (4, zR p11)]) 7 X dL_law_1954 rfl (hN _ (by decide)) (fun _ => rfl) (fun v354 hR9 hv9 => ?_)
      refine z_goto (pc := 1957) 28 X dL_law_1957 (by decide) ?_
      refine z_widen (c1 := 40 + (v354).toNat * 8) (s1 := 3000 + (v354).toNat * 64) (by omega) (by omega) ?_
      refine z_pick [3, 4, 5, 6, 7, 0] (lv' := [(0, zA b), (1, zR p8), (2, zR p9), (3, zR p10), (4, zR p11), (5, zI v354)]) rfl ?_
      exact z_back
    · refine z_aload_n (pc := 223) (i := 3) 5 X dL_law_223 rfl rfl ?_
      refine z_iconst (pc := 224) (z := 0) X dL_law_224 rfl ⟨by decide, by decide⟩ ?_
      refine z_laload (pc := 225) X dL_law_225 (fun v355 => ?_)
      refine z_iload (pc := 226) (i := 7) 0 X dL_law_226 rfl ?_
      refine z_i2l (pc := 228) X dL_law_228 ?_
      refine z_lcmp (pc := 229) X dL_law_229 ?_
      refine z_if_eq (pc := 230) 235 X dL_law_230 (by decide) (fun _ => ?_) (fun _ => ?_)
      · refine z_goto (pc := 235) 1954 X dL_law_235 (by decide) ?_
        refine z_iinc (pc := 1954) (i := 5) (n := 5) (lv' := fun v356 => [(5, zI v356), (7, zI x352.1), (6, zI x349.1), (0, zA b), (1, zR p8), (2, zR p9), (3, zR p10), (4, zR p11)]) 7 X dL_law_1954 rfl (hN _ (by decide)) (fun _ => rfl) (fun v356 hR9 hv9 => ?_)
        refine z_goto (pc := 1957) 28 X dL_law_1957 (by decide) ?_
        refine z_widen (c1 := 40 + (v356).toNat * 8) (s1 := 3000 + (v356).toNat * 64) (by omega) (by omega) ?_
        refine z_pick [3, 4, 5, 6, 7, 0] (lv' := [(0, zA b), (1, zR p8), (2, zR p9), (3, zR p10), (4, zR p11), (5, zI v356)]) rfl ?_
        exact z_back
      · exact z_none
  · exact z_none
def L_law (b : Nat) (xs : Nat → Int32) (L : Nat) : Option Unit :=
  (znew ([] : zH) 8 nf_X7).bind fun h1 =>
  ((zobj h1 ((some ([] : zH).length)) 8).bind fun _ => X7_init h1 ((some ([] : zH).length))).bind fun x2 =>
  (znew x2 9 nf_X8).bind fun h3 =>
  ((zobj h3 ((some x2.length)) 9).bind fun _ => X8_init h3 ((some x2.length))).bind fun x4 =>
  (znewa x4 1 1).bind fun h5 =>
  (znewa h5 4 1).bind fun h6 =>
  (zloop (L_law_b28 xs L b ((some ([] : zH).length)) ((some x2.length)) ((some x4.length)) ((some h5.length))) zN (0, h6)).bind fun e13 =>
  some ()
set_option maxRecDepth 40000 in
set_option maxHeartbeats 4000000 in
theorem c_L_law (K : zK) (b L : Nat) (xs : Nat → Int32) (X : zX K cL_law RL zALL room_1) (hnL : K.2.2.2.2.2.2.2.2.2.2.2.2.2.2.1 = 9) (hscr : zscr K b L xs) (hL9 : L ≤ 2560) (hret : ∀ cells slots pc lv hp, cells ≤ 603072 → slots ≤ 7190634 → decode cL_law pc = .ok (.ireturn, 1) → zJ K cells slots pc lv [zI 1] hp) : zS (L_law b xs L) (fun _ => True) (zJ K 0 0 0 [(0, zA b)] [] []) := by
  have hN : ∀ i, i < 9 → i < K.2.2.2.2.2.2.2.2.2.2.2.2.2.2.1 := by rw [hnL]; exact fun _ h => h
  unfold L_law
  refine z_newo (pc := 0) (c1 := 1) (s1 := 9) X dL_law_0 inz_X7 tyX7_ok (zin (zt1 23 (by decide +kernel)) rfl) (zin (zt1 24 (by decide +kernel)) rfl) (zin (zt1 1 (by decide +kernel)) rfl) rfl nf_X7_d nf_X7_ok (by decide) (by decide) rfl rfl (fun h1 => ?_)
  refine z_dup (pc := 3) X dL_law_3 rfl ?_
  refine z_callI_v (pc := 4) (cells := 1) (slots := 9) (C := RX7) (T := TX7) (N := 9) (ci := 8) [] X dL_law_4 (c_X7_init h1 ((some ([] : zH).length))) kw_L_108 rfl rfl ⟨rfl, rfl, ⟨by decide, by decide⟩, ⟨by decide, by decide⟩⟩ (Nat.le_of_ble_eq_true rfl) rfl (fun x2 => ?_)
  refine z_astore_n (pc := 7) (i := 1) (lv' := [(1, zR (some ([] : zH).length)), (0, zA b)]) X dL_law_7 rfl (hN _ (by decide)) rfl ?_
  refine z_newo (pc := 8) (c1 := 15) (s1 := 1066) X dL_law_8 inz_X8 tyX8_ok (zin (zt4 179 (by decide +kernel)) rfl) (zin (zt4 180 (by decide +kernel)) rfl) (zin (zt1 5 (by decide +kernel)) rfl) rfl nf_X8_d nf_X8_ok (by decide) (by decide) rfl rfl (fun h3 => ?_)
  refine z_dup (pc := 11) X dL_law_11 rfl ?_
  refine z_callI_v (pc := 12) (cells := 15) (slots := 1066) (C := RX8) (T := TX8) (N := 30) (ci := 9) [] X dL_law_12 (c_X8_init h3 ((some x2.length))) kw_L_111 rfl rfl ⟨rfl, rfl, ⟨by decide, by decide⟩, ⟨by decide, by decide⟩⟩ (Nat.le_of_ble_eq_true rfl) rfl (fun x4 => ?_)
  refine z_astore_n (pc := 15) (i := 2) (lv' := [(2, zR (some x2.length)), (1, zR (some ([] : zH).length)), (0, zA b)]) X dL_law_15 rfl (hN _ (by decide)) rfl ?_
  refine z_iconst (pc := 16) (z := 1) X dL_law_16 rfl ⟨by decide, by decide⟩ ?_
  refine z_newJo (pc := 17) (c1 := 38) (s1 := 2711) 1 X dL_law_17 (zin (zt1 61 (by decide +kernel)) rfl) rfl (by decide) (by decide) (by decide) rfl rfl (fun h5 => ?_)
  refine z_astore_n (pc := 19) (i := 3) (lv' := [(3, zR (some x4.length)), (2, zR (some x2.length)), (1, zR (some ([] : zH).length)), (0, zA b)]) X dL_law_19 rfl (hN _ (by decide)) rfl ?_
  refine z_iconst (pc := 20) (z := 1) X dL_law_20 rfl ⟨by decide, by decide⟩ ?_
  refine z_newDo (pc := 21) (c1 := 39) (s1 := 2712) 1 X dL_law_21 (zin (zt6 48 (by decide +kernel)) rfl) rfl (by decide) (by decide) (by decide) rfl rfl (fun h6 => ?_)
  refine z_astore (pc := 23) (i := 4) (lv' := [(4, zR (some h5.length)), (3, zR (some x4.length)), (2, zR (some x2.length)), (1, zR (some ([] : zH).length)), (0, zA b)]) X dL_law_23 (hN _ (by decide)) rfl ?_
  refine z_iconst (pc := 25) (z := 0) X dL_law_25 rfl ⟨by decide, by decide⟩ ?_
  refine z_istore (pc := 26) (i := 5) (lv' := [(5, zI 0), (4, zR (some h5.length)), (3, zR (some x4.length)), (2, zR (some x2.length)), (1, zR (some ([] : zH).length)), (0, zA b)]) X dL_law_26 (hN _ (by decide)) rfl ?_
  refine z_widen (c1 := 40 + (0 : Int).toNat * 8) (s1 := 3000 + (0 : Int).toNat * 64) (by decide) (by decide) ?_
  refine z_pick [5, 4, 3, 2, 1, 0] (lv' := [(0, zA b), (1, zR (some ([] : zH).length)), (2, zR (some x2.length)), (3, zR (some x4.length)), (4, zR (some h5.length)), (5, zI 0)]) rfl ?_
  refine z_bind (z_loop (body := L_law_b28 xs L b ((some ([] : zH).length)) ((some x2.length)) ((some x4.length)) ((some h5.length))) (fun s12 : Int × zH => zJ K (40 + (s12.1).toNat * 8) (3000 + (s12.1).toNat * 64) 28 [(0, zA b), (1, zR ((some ([] : zH).length))), (2, zR ((some x2.length))), (3, zR ((some x4.length))), (4, zR ((some h5.length))), (5, zI s12.1)] [] s12.2) (fun e13 : zH => zJ K 24040 195000 1960 [] [] e13) (fun s12 => ?_) zN (0, h6)) (fun e13 => ?_)
  · unfold L_law_b28
    refine z_iload (pc := 28) (i := 5) 5 X dL_law_28 rfl ?_
    refine z_aload_nA (pc := 30) (i := 0) 0 X dL_law_30 rfl rfl ?_
    refine z_slen (pc := 31) X hscr hL9 dL_law_31 ?_
    refine z_iconst (pc := 32) (z := 5) X dL_law_32 rfl ⟨by decide, by decide⟩ ?_
    refine z_isub (pc := 33) X dL_law_33 (fun v14 _ _ => ?_)
    refine z_icmp_gt (pc := 34) 1960 X dL_law_34 (by decide) (fun _ => ?_) (fun _ => ?_)
    · refine z_ite _ (fun hx9 => ?_) (fun _ => z_none)
      refine z_widen (c1 := 24040) (s1 := 195000) (by omega) (by omega) ?_
      refine z_pick [] (lv' := []) rfl ?_
      exact z_exit
    · refine z_aload_nA (pc := 37) (i := 0) 0 X dL_law_37 rfl rfl ?_
      refine z_iload (pc := 38) (i := 5) 5 X dL_law_38 rfl ?_
      refine z_sld (pc := 40) X hscr dL_law_40 (fun v15 hi0 hi1 => ?_)
      refine z_bipush (pc := 41) (z := 31) X dL_law_41 rfl ⟨by decide, by decide⟩ ?_
      refine z_iand (pc := 43) X dL_law_43 (fun v16 => ?_)
      refine z_ite _ (fun hk9 => ?_) (fun hn0 => ?_)
      · refine z_tswIn (pc := 44) (tgt := 180) 0 hk9 X dL_law_44 (by decide) (by decide) rfl (by decide) ?_
        exact cL_k0 K b L xs X hnL hscr hL9 ((some ([] : zH).length)) ((some x2.length)) ((some x4.length)) ((some h5.length)) s12 hi0 hi1
      · refine z_ite _ (fun hk9 => ?_) (fun hn1 => ?_)
        · refine z_tswIn (pc := 44) (tgt := 238) 1 hk9 X dL_law_44 (by decide) (by decide) rfl (by decide) ?_
          exact cL_k1 K b L xs X hnL hscr hL9 ((some ([] : zH).length)) ((some x2.length)) ((some x4.length)) ((some h5.length)) s12 hi0 hi1
        · refine z_ite _ (fun hk9 => ?_) (fun hn2 => ?_)
          · refine z_tswIn (pc := 44) (tgt := 251) 2 hk9 X dL_law_44 (by decide) (by decide) rfl (by decide) ?_
            exact cL_k2 K b L xs X hnL hscr hL9 ((some ([] : zH).length)) ((some x2.length)) ((some x4.length)) ((some h5.length)) s12 hi0 hi1
          · refine z_ite _ (fun hk9 => ?_) (fun hn3 => ?_)
            · refine z_tswIn (pc := 44) (tgt := 349) 3 hk9 X dL_law_44 (by decide) (by decide) rfl (by decide) ?_
              exact cL_k3 K b L xs X hnL hscr hL9 ((some ([] : zH).length)) ((some x2.length)) ((some x4.length)) ((some h5.length)) s12 hi0 hi1
            · refine z_ite _ (fun hk9 => ?_) (fun hn4 => ?_)
              · refine z_tswIn (pc := 44) (tgt := 405) 4 hk9 X dL_law_44 (by decide) (by decide) rfl (by decide) ?_
                exact cL_k4 K b L xs X hnL hscr hL9 ((some ([] : zH).length)) ((some x2.length)) ((some x4.length)) ((some h5.length)) s12 hi0 hi1
              · refine z_ite _ (fun hk9 => ?_) (fun hn5 => ?_)
                · refine z_tswIn (pc := 44) (tgt := 461) 5 hk9 X dL_law_44 (by decide) (by decide) rfl (by decide) ?_
                  exact cL_k5 K b L xs X hnL hscr hL9 ((some ([] : zH).length)) ((some x2.length)) ((some x4.length)) ((some h5.length)) s12 hi0 hi1
                · refine z_ite _ (fun hk9 => ?_) (fun hn6 => ?_)
                  · refine z_tswIn (pc := 44) (tgt := 557) 6 hk9 X dL_law_44 (by decide) (by decide) rfl (by decide) ?_
                    exact cL_k6 K b L xs X hnL hscr hL9 ((some ([] : zH).length)) ((some x2.length)) ((some x4.length)) ((some h5.length)) s12 hi0 hi1
                  · refine z_ite _ (fun hk9 => ?_) (fun hn7 => ?_)
                    · refine z_tswIn (pc := 44) (tgt := 655) 7 hk9 X dL_law_44 (by decide) (by decide) rfl (by decide) ?_
                      exact cL_k7 K b L xs X hnL hscr hL9 ((some ([] : zH).length)) ((some x2.length)) ((some x4.length)) ((some h5.length)) s12 hi0 hi1
                    · refine z_ite _ (fun hk9 => ?_) (fun hn8 => ?_)
                      · refine z_tswIn (pc := 44) (tgt := 737) 8 hk9 X dL_law_44 (by decide) (by decide) rfl (by decide) ?_
                        exact cL_k8 K b L xs X hnL hscr hL9 ((some ([] : zH).length)) ((some x2.length)) ((some x4.length)) ((some h5.length)) s12 hi0 hi1
                      · refine z_ite _ (fun hk9 => ?_) (fun hn9 => ?_)
                        · refine z_tswIn (pc := 44) (tgt := 831) 9 hk9 X dL_law_44 (by decide) (by decide) rfl (by decide) ?_
                          exact cL_k9 K b L xs X hnL hscr hL9 ((some ([] : zH).length)) ((some x2.length)) ((some x4.length)) ((some h5.length)) s12 hi0 hi1
                        · refine z_ite _ (fun hk9 => ?_) (fun hn10 => ?_)
                          · refine z_tswIn (pc := 44) (tgt := 899) 10 hk9 X dL_law_44 (by decide) (by decide) rfl (by decide) ?_
                            exact cL_k10 K b L xs X hnL hscr hL9 ((some ([] : zH).length)) ((some x2.length)) ((some x4.length)) ((some h5.length)) s12 hi0 hi1
                          · refine z_ite _ (fun hk9 => ?_) (fun hn11 => ?_)
                            · refine z_tswIn (pc := 44) (tgt := 955) 11 hk9 X dL_law_44 (by decide) (by decide) rfl (by decide) ?_
                              exact cL_k11 K b L xs X hnL hscr hL9 ((some ([] : zH).length)) ((some x2.length)) ((some x4.length)) ((some h5.length)) s12 hi0 hi1
                            · refine z_ite _ (fun hk9 => ?_) (fun hn12 => ?_)
                              · refine z_tswIn (pc := 44) (tgt := 1011) 12 hk9 X dL_law_44 (by decide) (by decide) rfl (by decide) ?_
                                exact cL_k12 K b L xs X hnL hscr hL9 ((some ([] : zH).length)) ((some x2.length)) ((some x4.length)) ((some h5.length)) s12 hi0 hi1
                              · refine z_ite _ (fun hk9 => ?_) (fun hn13 => ?_)
                                · refine z_tswIn (pc := 44) (tgt := 1079) 13 hk9 X dL_law_44 (by decide) (by decide) rfl (by decide) ?_
                                  exact cL_k13 K b L xs X hnL hscr hL9 ((some ([] : zH).length)) ((some x2.length)) ((some x4.length)) ((some h5.length)) s12 hi0 hi1
                                · refine z_ite _ (fun hk9 => ?_) (fun hn14 => ?_)
                                  · refine z_tswIn (pc := 44) (tgt := 1135) 14 hk9 X dL_law_44 (by decide) (by decide) rfl (by decide) ?_
                                    exact cL_k14 K b L xs X hnL hscr hL9 ((some ([] : zH).length)) ((some x2.length)) ((some x4.length)) ((some h5.length)) s12 hi0 hi1
                                  · refine z_ite _ (fun hk9 => ?_) (fun hn15 => ?_)
                                    · refine z_tswIn (pc := 44) (tgt := 1219) 15 hk9 X dL_law_44 (by decide) (by decide) rfl (by decide) ?_
                                      exact cL_k15 K b L xs X hnL hscr hL9 ((some ([] : zH).length)) ((some x2.length)) ((some x4.length)) ((some h5.length)) s12 hi0 hi1
                                    · refine z_ite _ (fun hk9 => ?_) (fun hn16 => ?_)
                                      · refine z_tswIn (pc := 44) (tgt := 1303) 16 hk9 X dL_law_44 (by decide) (by decide) rfl (by decide) ?_
                                        exact cL_k16 K b L xs X hnL hscr hL9 ((some ([] : zH).length)) ((some x2.length)) ((some x4.length)) ((some h5.length)) s12 hi0 hi1
                                      · refine z_ite _ (fun hk9 => ?_) (fun hn17 => ?_)
                                        · refine z_tswIn (pc := 44) (tgt := 1366) 17 hk9 X dL_law_44 (by decide) (by decide) rfl (by decide) ?_
                                          exact cL_k17 K b L xs X hnL hscr hL9 ((some ([] : zH).length)) ((some x2.length)) ((some x4.length)) ((some h5.length)) s12 hi0 hi1
                                        · refine z_ite _ (fun hk9 => ?_) (fun hn18 => ?_)
                                          · refine z_tswIn (pc := 44) (tgt := 1422) 18 hk9 X dL_law_44 (by decide) (by decide) rfl (by decide) ?_
                                            exact cL_k18 K b L xs X hnL hscr hL9 ((some ([] : zH).length)) ((some x2.length)) ((some x4.length)) ((some h5.length)) s12 hi0 hi1
                                          · refine z_ite _ (fun hk9 => ?_) (fun hn19 => ?_)
                                            · refine z_tswIn (pc := 44) (tgt := 1478) 19 hk9 X dL_law_44 (by decide) (by decide) rfl (by decide) ?_
                                              exact cL_k19 K b L xs X hnL hscr hL9 ((some ([] : zH).length)) ((some x2.length)) ((some x4.length)) ((some h5.length)) s12 hi0 hi1
                                            · refine z_ite _ (fun hk9 => ?_) (fun hn20 => ?_)
                                              · refine z_tswIn (pc := 44) (tgt := 1534) 20 hk9 X dL_law_44 (by decide) (by decide) rfl (by decide) ?_
                                                exact cL_k20 K b L xs X hnL hscr hL9 ((some ([] : zH).length)) ((some x2.length)) ((some x4.length)) ((some h5.length)) s12 hi0 hi1
                                              · refine z_ite _ (fun hk9 => ?_) (fun hn21 => ?_)
                                                · refine z_tswIn (pc := 44) (tgt := 1547) 21 hk9 X dL_law_44 (by decide) (by decide) rfl (by decide) ?_
                                                  exact cL_k21 K b L xs X hnL hscr hL9 ((some ([] : zH).length)) ((some x2.length)) ((some x4.length)) ((some h5.length)) s12 hi0 hi1
                                                · refine z_ite _ (fun hk9 => ?_) (fun hn22 => ?_)
                                                  · refine z_tswIn (pc := 44) (tgt := 1603) 22 hk9 X dL_law_44 (by decide) (by decide) rfl (by decide) ?_
                                                    exact cL_k22 K b L xs X hnL hscr hL9 ((some ([] : zH).length)) ((some x2.length)) ((some x4.length)) ((some h5.length)) s12 hi0 hi1
                                                  · refine z_ite _ (fun hk9 => ?_) (fun hn23 => ?_)
                                                    · refine z_tswIn (pc := 44) (tgt := 1671) 23 hk9 X dL_law_44 (by decide) (by decide) rfl (by decide) ?_
                                                      exact cL_k23 K b L xs X hnL hscr hL9 ((some ([] : zH).length)) ((some x2.length)) ((some x4.length)) ((some h5.length)) s12 hi0 hi1
                                                    · refine z_ite _ (fun hk9 => ?_) (fun hn24 => ?_)
                                                      · refine z_tswIn (pc := 44) (tgt := 1727) 24 hk9 X dL_law_44 (by decide) (by decide) rfl (by decide) ?_
                                                        exact cL_k24 K b L xs X hnL hscr hL9 ((some ([] : zH).length)) ((some x2.length)) ((some x4.length)) ((some h5.length)) s12 hi0 hi1
                                                      · refine z_ite _ (fun hk9 => ?_) (fun hn25 => ?_)
                                                        · refine z_tswIn (pc := 44) (tgt := 1783) 25 hk9 X dL_law_44 (by decide) (by decide) rfl (by decide) ?_
                                                          exact cL_k25 K b L xs X hnL hscr hL9 ((some ([] : zH).length)) ((some x2.length)) ((some x4.length)) ((some h5.length)) s12 hi0 hi1
                                                        · refine z_ite _ (fun hk9 => ?_) (fun hn26 => ?_)
                                                          · refine z_tswIn (pc := 44) (tgt := 1796) 26 hk9 X dL_law_44 (by decide) (by decide) rfl (by decide) ?_
                                                            exact cL_k26 K b L xs X hnL hscr hL9 ((some ([] : zH).length)) ((some x2.length)) ((some x4.length)) ((some h5.length)) s12 hi0 hi1
                                                          · refine z_ite _ (fun hk9 => ?_) (fun hn27 => ?_)
                                                            · refine z_tswIn (pc := 44) (tgt := 1862) 27 hk9 X dL_law_44 (by decide) (by decide) rfl (by decide) ?_
                                                              exact cL_k27 K b L xs X hnL hscr hL9 ((some ([] : zH).length)) ((some x2.length)) ((some x4.length)) ((some h5.length)) s12 hi0 hi1
                                                            · refine z_ite _ (fun hk9 => ?_) (fun hn28 => ?_)
                                                              · refine z_tswIn (pc := 44) (tgt := 1927) 28 hk9 X dL_law_44 (by decide) (by decide) rfl (by decide) ?_
                                                                exact cL_k28 K b L xs X hnL hscr hL9 ((some ([] : zH).length)) ((some x2.length)) ((some x4.length)) ((some h5.length)) s12 hi0 hi1
                                                              · refine z_ite _ (fun hk9 => ?_) (fun hn29 => ?_)
                                                                · refine z_tswIn (pc := 44) (tgt := 1941) 29 hk9 X dL_law_44 (by decide) (by decide) rfl (by decide) ?_
                                                                  exact cL_k29 K b L xs X hnL hscr hL9 ((some ([] : zH).length)) ((some x2.length)) ((some x4.length)) ((some h5.length)) s12 hi0 hi1
                                                                · refine z_tswOut (pc := 44) (tgt := 1954) X dL_law_44 (by omega) (by decide) ?_
                                                                  refine z_iinc (pc := 1954) (i := 5) (n := 5) (lv' := fun v17 => [(5, zI v17), (0, zA b), (1, zR ((some ([] : zH).length))), (2, zR ((some x2.length))), (3, zR ((some x4.length))), (4, zR ((some h5.length)))]) 5 X dL_law_1954 rfl (hN _ (by decide)) (fun _ => rfl) (fun v17 hR9 hv9 => ?_)
                                                                  refine z_goto (pc := 1957) 28 X dL_law_1957 (by decide) ?_
                                                                  refine z_widen (c1 := 40 + (v17).toNat * 8) (s1 := 3000 + (v17).toNat * 64) (by omega) (by omega) ?_
                                                                  refine z_pick [1, 2, 3, 4, 5, 0] (lv' := [(0, zA b), (1, zR ((some ([] : zH).length))), (2, zR ((some x2.length))), (3, zR ((some x4.length))), (4, zR ((some h5.length))), (5, zI v17)]) rfl ?_
                                                                  exact z_back
  · refine z_iconst (pc := 1960) (z := 1) X dL_law_1960 rfl ⟨by decide, by decide⟩ ?_
    exact fun _ _ _ => hret _ _ _ _ _ (by decide) (by decide) dL_law_1961
