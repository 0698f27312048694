/-! THE CASES OF THE LAW'S SWITCH (printed by wip/whole/genlaw2.py) -/
theorem kb_L_123 : k_cB RL 123 yX12_thrown cX12_thrown 1 (some .int) 0 := ⟨k_ic k_c7 219 (by decide +kernel) (by decide +kernel), k_ic k_c1 15 (by decide +kernel) (by decide +kernel), by decide, by decide +kernel, by decide, k_ic k_c7 216 (by decide +kernel) (by decide +kernel)⟩
theorem kc_L_123 : k_cV RL 123 15 yX12_thrown cX12_thrown 1 (some .int) 0 := ⟨kb_L_123, k_ic k_c7 217 (by decide +kernel) (by decide +kernel), k_ic k_c7 218 (by decide +kernel) (by decide +kernel), TX12, 53, rfl⟩
theorem kv_L_117 : k_cW RL 117 yL_begin cL_begin 5 (some .int) [(0, 10, 13, 13)] 4 := ⟨k_ic k_c2 127 (by decide +kernel) (by decide +kernel), k_ic k_c1 0 (by decide +kernel) (by decide +kernel), by decide, by decide +kernel, by decide, k_ic k_c2 125 (by decide +kernel) (by decide +kernel), k_ic k_c2 126 (by decide +kernel) (by decide +kernel)⟩
theorem kb_L_122 : k_cB RL 122 yX12_begin cX12_begin 3 (some .int) 2 := ⟨k_ic k_c7 223 (by decide +kernel) (by decide +kernel), k_ic k_c1 15 (by decide +kernel) (by decide +kernel), by decide, by decide +kernel, by decide, k_ic k_c7 220 (by decide +kernel) (by decide +kernel)⟩
theorem kc_L_122 : k_cV RL 122 15 yX12_begin cX12_begin 3 (some .int) 2 := ⟨kb_L_122, k_ic k_c7 221 (by decide +kernel) (by decide +kernel), k_ic k_c7 222 (by decide +kernel) (by decide +kernel), TX12, 53, rfl⟩
theorem kv_L_126 : k_cW RL 126 yL_get cL_get 8 (some .int) [(0, 16, 19, 13), (0, 16, 23, 19), (0, 16, 27, 21)] 7 := ⟨k_ic k_c2 229 (by decide +kernel) (by decide +kernel), k_ic k_c1 0 (by decide +kernel) (by decide +kernel), by decide, by decide +kernel, by decide, k_ic k_c2 227 (by decide +kernel) (by decide +kernel), k_ic k_c2 228 (by decide +kernel) (by decide +kernel)⟩
theorem kb_L_129 : k_cB RL 129 yX12_get cX12_get 10 (some .int) 5 := ⟨k_ic k_c8 1 (by decide +kernel) (by decide +kernel), k_ic k_c1 15 (by decide +kernel) (by decide +kernel), by decide, by decide +kernel, by decide, k_ic k_c7 238 (by decide +kernel) (by decide +kernel)⟩
theorem kc_L_129 : k_cV RL 129 15 yX12_get cX12_get 10 (some .int) 5 := ⟨kb_L_129, k_ic k_c7 239 (by decide +kernel) (by decide +kernel), k_ic k_c8 0 (by decide +kernel) (by decide +kernel), TX12, 53, rfl⟩
theorem kv_L_130 : k_cW RL 130 yL_range cL_range 7 (some .int) [(0, 14, 17, 13), (0, 14, 21, 19), (0, 14, 25, 21)] 6 := ⟨k_ic k_c3 136 (by decide +kernel) (by decide +kernel), k_ic k_c1 0 (by decide +kernel) (by decide +kernel), by decide, by decide +kernel, by decide, k_ic k_c3 134 (by decide +kernel) (by decide +kernel), k_ic k_c3 135 (by decide +kernel) (by decide +kernel)⟩
theorem kb_L_133 : k_cB RL 133 yX12_range cX12_range 7 (some .int) 4 := ⟨k_ic k_c8 63 (by decide +kernel) (by decide +kernel), k_ic k_c1 15 (by decide +kernel) (by decide +kernel), by decide, by decide +kernel, by decide, k_ic k_c8 60 (by decide +kernel) (by decide +kernel)⟩
theorem kc_L_133 : k_cV RL 133 15 yX12_range cX12_range 7 (some .int) 4 := ⟨kb_L_133, k_ic k_c8 61 (by decide +kernel) (by decide +kernel), k_ic k_c8 62 (by decide +kernel) (by decide +kernel), TX12, 53, rfl⟩
theorem kv_L_134 : k_cW RL 134 yL_rangeAt cL_rangeAt 8 (some .int) [(0, 16, 19, 13), (0, 16, 23, 19), (0, 16, 27, 21)] 7 := ⟨k_ic k_c3 173 (by decide +kernel) (by decide +kernel), k_ic k_c1 0 (by decide +kernel) (by decide +kernel), by decide, by decide +kernel, by decide, k_ic k_c3 171 (by decide +kernel) (by decide +kernel), k_ic k_c3 172 (by decide +kernel) (by decide +kernel)⟩
theorem kb_L_137 : k_cB RL 137 yX12_rangeAt cX12_rangeAt 10 (some .int) 5 := ⟨k_ic k_c8 81 (by decide +kernel) (by decide +kernel), k_ic k_c1 15 (by decide +kernel) (by decide +kernel), by decide, by decide +kernel, by decide, k_ic k_c8 78 (by decide +kernel) (by decide +kernel)⟩
theorem kc_L_137 : k_cV RL 137 15 yX12_rangeAt cX12_rangeAt 10 (some .int) 5 := ⟨kb_L_137, k_ic k_c8 79 (by decide +kernel) (by decide +kernel), k_ic k_c8 80 (by decide +kernel) (by decide +kernel), TX12, 53, rfl⟩
theorem kv_L_138 : k_cW RL 138 yL_change cL_change 9 (some .int) [(0, 18, 21, 13), (0, 18, 25, 19), (0, 18, 29, 21)] 8 := ⟨k_ic k_c3 185 (by decide +kernel) (by decide +kernel), k_ic k_c1 0 (by decide +kernel) (by decide +kernel), by decide, by decide +kernel, by decide, k_ic k_c3 183 (by decide +kernel) (by decide +kernel), k_ic k_c3 184 (by decide +kernel) (by decide +kernel)⟩
theorem kb_L_141 : k_cB RL 141 yX12_change cX12_change 11 (some .int) 6 := ⟨k_ic k_c8 89 (by decide +kernel) (by decide +kernel), k_ic k_c1 15 (by decide +kernel) (by decide +kernel), by decide, by decide +kernel, by decide, k_ic k_c8 86 (by decide +kernel) (by decide +kernel)⟩
theorem kc_L_141 : k_cV RL 141 15 yX12_change cX12_change 11 (some .int) 6 := ⟨kb_L_141, k_ic k_c8 87 (by decide +kernel) (by decide +kernel), k_ic k_c8 88 (by decide +kernel) (by decide +kernel), TX12, 53, rfl⟩
theorem kv_L_142 : k_cW RL 142 yL_clear cL_clear 6 (some .int) [(0, 12, 15, 13), (0, 12, 19, 19), (0, 12, 23, 21)] 5 := ⟨k_ic k_c5 36 (by decide +kernel) (by decide +kernel), k_ic k_c1 0 (by decide +kernel) (by decide +kernel), by decide, by decide +kernel, by decide, k_ic k_c5 34 (by decide +kernel) (by decide +kernel), k_ic k_c5 35 (by decide +kernel) (by decide +kernel)⟩
theorem kb_L_145 : k_cB RL 145 yX12_clear cX12_clear 5 (some .int) 3 := ⟨k_ic k_c8 107 (by decide +kernel) (by decide +kernel), k_ic k_c1 15 (by decide +kernel) (by decide +kernel), by decide, by decide +kernel, by decide, k_ic k_c8 104 (by decide +kernel) (by decide +kernel)⟩
theorem kc_L_145 : k_cV RL 145 15 yX12_clear cX12_clear 5 (some .int) 3 := ⟨kb_L_145, k_ic k_c8 105 (by decide +kernel) (by decide +kernel), k_ic k_c8 106 (by decide +kernel) (by decide +kernel), TX12, 53, rfl⟩
theorem kv_L_146 : k_cW RL 146 yL_commit cL_commit 4 (some .int) [(0, 9, 12, 13), (0, 9, 15, 21)] 3 := ⟨k_ic k_c5 48 (by decide +kernel) (by decide +kernel), k_ic k_c1 0 (by decide +kernel) (by decide +kernel), by decide, by decide +kernel, by decide, k_ic k_c5 46 (by decide +kernel) (by decide +kernel), k_ic k_c5 47 (by decide +kernel) (by decide +kernel)⟩
theorem kb_L_149 : k_cB RL 149 yX12_commit cX12_commit 4 (some .int) 1 := ⟨k_ic k_c8 111 (by decide +kernel) (by decide +kernel), k_ic k_c1 15 (by decide +kernel) (by decide +kernel), by decide, by decide +kernel, by decide, k_ic k_c8 108 (by decide +kernel) (by decide +kernel)⟩
theorem kc_L_149 : k_cV RL 149 15 yX12_commit cX12_commit 4 (some .int) 1 := ⟨kb_L_149, k_ic k_c8 109 (by decide +kernel) (by decide +kernel), k_ic k_c8 110 (by decide +kernel) (by decide +kernel), TX12, 53, rfl⟩
theorem kb_L_150 : k_cB RL 150 yX11_why cX11_why 1 (some .int) 0 := ⟨k_ic k_c2 99 (by decide +kernel) (by decide +kernel), k_ic k_c1 1 (by decide +kernel) (by decide +kernel), by decide, by decide +kernel, by decide, k_ic k_c2 96 (by decide +kernel) (by decide +kernel)⟩
theorem kc_L_150 : k_cV RL 150 14 yX11_why cX11_why 1 (some .int) 0 := ⟨kb_L_150, k_ic k_c2 97 (by decide +kernel) (by decide +kernel), k_ic k_c2 98 (by decide +kernel) (by decide +kernel), TX11, 13, rfl⟩
theorem kb_L_153 : k_cB RL 153 yX12_why cX12_why 1 (some .int) 0 := ⟨k_ic k_c8 190 (by decide +kernel) (by decide +kernel), k_ic k_c1 15 (by decide +kernel) (by decide +kernel), by decide, by decide +kernel, by decide, k_ic k_c8 187 (by decide +kernel) (by decide +kernel)⟩
theorem kc_L_153 : k_cV RL 153 15 yX12_why cX12_why 1 (some .int) 0 := ⟨kb_L_153, k_ic k_c8 188 (by decide +kernel) (by decide +kernel), k_ic k_c8 189 (by decide +kernel) (by decide +kernel), TX12, 53, rfl⟩
theorem kb_L_154 : k_cB RL 154 yX11_lose cX11_lose 2 none 1 := ⟨k_ic k_c2 103 (by decide +kernel) (by decide +kernel), k_ic k_c1 1 (by decide +kernel) (by decide +kernel), by decide, by decide +kernel, by decide, k_ic k_c2 100 (by decide +kernel) (by decide +kernel)⟩
theorem kc_L_154 : k_cV RL 154 14 yX11_lose cX11_lose 2 none 1 := ⟨kb_L_154, k_ic k_c2 101 (by decide +kernel) (by decide +kernel), k_ic k_c2 102 (by decide +kernel) (by decide +kernel), TX11, 13, rfl⟩
theorem kb_L_158 : k_cB RL 158 yX12_lose cX12_lose 2 none 1 := ⟨k_ic k_c8 194 (by decide +kernel) (by decide +kernel), k_ic k_c1 15 (by decide +kernel) (by decide +kernel), by decide, by decide +kernel, by decide, k_ic k_c8 191 (by decide +kernel) (by decide +kernel)⟩
theorem kc_L_158 : k_cV RL 158 15 yX12_lose cX12_lose 2 none 1 := ⟨kb_L_158, k_ic k_c8 192 (by decide +kernel) (by decide +kernel), k_ic k_c8 193 (by decide +kernel) (by decide +kernel), TX12, 53, rfl⟩
theorem kb_L_159 : k_cB RL 159 yX11_recover cX11_recover 1 (some .int) 0 := ⟨k_ic k_c2 107 (by decide +kernel) (by decide +kernel), k_ic k_c1 1 (by decide +kernel) (by decide +kernel), by decide, by decide +kernel, by decide, k_ic k_c2 104 (by decide +kernel) (by decide +kernel)⟩
theorem kc_L_159 : k_cV RL 159 14 yX11_recover cX11_recover 1 (some .int) 0 := ⟨kb_L_159, k_ic k_c2 105 (by decide +kernel) (by decide +kernel), k_ic k_c2 106 (by decide +kernel) (by decide +kernel), TX11, 13, rfl⟩
theorem kb_L_162 : k_cB RL 162 yX12_recover cX12_recover 1 (some .int) 0 := ⟨k_ic k_c8 198 (by decide +kernel) (by decide +kernel), k_ic k_c1 15 (by decide +kernel) (by decide +kernel), by decide, by decide +kernel, by decide, k_ic k_c8 195 (by decide +kernel) (by decide +kernel)⟩
theorem kc_L_162 : k_cV RL 162 15 yX12_recover cX12_recover 1 (some .int) 0 := ⟨kb_L_162, k_ic k_c8 196 (by decide +kernel) (by decide +kernel), k_ic k_c8 197 (by decide +kernel) (by decide +kernel), TX12, 53, rfl⟩
theorem kv_L_163 : k_cW RL 163 yL_pass cL_pass 4 (some .int) [(0, 9, 12, 19)] 3 := ⟨k_ic k_c5 211 (by decide +kernel) (by decide +kernel), k_ic k_c1 0 (by decide +kernel) (by decide +kernel), by decide, by decide +kernel, by decide, k_ic k_c5 209 (by decide +kernel) (by decide +kernel), k_ic k_c5 210 (by decide +kernel) (by decide +kernel)⟩
theorem kb_L_165 : k_cB RL 165 yX12_pass cX12_pass 2 (some .int) 1 := ⟨k_ic k_c8 202 (by decide +kernel) (by decide +kernel), k_ic k_c1 15 (by decide +kernel) (by decide +kernel), by decide, by decide +kernel, by decide, k_ic k_c8 199 (by decide +kernel) (by decide +kernel)⟩
theorem kc_L_165 : k_cV RL 165 15 yX12_pass cX12_pass 2 (some .int) 1 := ⟨kb_L_165, k_ic k_c8 200 (by decide +kernel) (by decide +kernel), k_ic k_c8 201 (by decide +kernel) (by decide +kernel), TX12, 53, rfl⟩
theorem kv_L_166 : k_cW RL 166 yL_value cL_value 7 (some .int) [(0, 14, 17, 19)] 6 := ⟨k_ic k_c5 219 (by decide +kernel) (by decide +kernel), k_ic k_c1 0 (by decide +kernel) (by decide +kernel), by decide, by decide +kernel, by decide, k_ic k_c5 217 (by decide +kernel) (by decide +kernel), k_ic k_c5 218 (by decide +kernel) (by decide +kernel)⟩
theorem kb_L_169 : k_cB RL 169 yX12_value cX12_value 8 (some .int) 4 := ⟨k_ic k_c8 206 (by decide +kernel) (by decide +kernel), k_ic k_c1 15 (by decide +kernel) (by decide +kernel), by decide, by decide +kernel, by decide, k_ic k_c8 203 (by decide +kernel) (by decide +kernel)⟩
theorem kc_L_169 : k_cV RL 169 15 yX12_value cX12_value 8 (some .int) 4 := ⟨kb_L_169, k_ic k_c8 204 (by decide +kernel) (by decide +kernel), k_ic k_c8 205 (by decide +kernel) (by decide +kernel), TX12, 53, rfl⟩
theorem kv_L_170 : k_cW RL 170 yL_packed cL_packed 7 (some .int) [(0, 14, 17, 13), (0, 14, 21, 19)] 6 := ⟨k_ic k_c5 228 (by decide +kernel) (by decide +kernel), k_ic k_c1 0 (by decide +kernel) (by decide +kernel), by decide, by decide +kernel, by decide, k_ic k_c5 226 (by decide +kernel) (by decide +kernel), k_ic k_c5 227 (by decide +kernel) (by decide +kernel)⟩
theorem kb_L_172 : k_cB RL 172 yX12_packed cX12_packed 7 (some .int) 4 := ⟨k_ic k_c8 210 (by decide +kernel) (by decide +kernel), k_ic k_c1 15 (by decide +kernel) (by decide +kernel), by decide, by decide +kernel, by decide, k_ic k_c8 207 (by decide +kernel) (by decide +kernel)⟩
theorem kc_L_172 : k_cV RL 172 15 yX12_packed cX12_packed 7 (some .int) 4 := ⟨kb_L_172, k_ic k_c8 208 (by decide +kernel) (by decide +kernel), k_ic k_c8 209 (by decide +kernel) (by decide +kernel), TX12, 53, rfl⟩
theorem kb_L_173 : k_cB RL 173 yX11_version cX11_version 1 (some .int) 0 := ⟨k_ic k_c2 116 (by decide +kernel) (by decide +kernel), k_ic k_c1 1 (by decide +kernel) (by decide +kernel), by decide, by decide +kernel, by decide, k_ic k_c2 113 (by decide +kernel) (by decide +kernel)⟩
theorem kc_L_173 : k_cV RL 173 14 yX11_version cX11_version 1 (some .int) 0 := ⟨kb_L_173, k_ic k_c2 114 (by decide +kernel) (by decide +kernel), k_ic k_c2 115 (by decide +kernel) (by decide +kernel), TX11, 13, rfl⟩
theorem kb_L_176 : k_cB RL 176 yX12_version cX12_version 1 (some .int) 0 := ⟨k_ic k_c8 214 (by decide +kernel) (by decide +kernel), k_ic k_c1 15 (by decide +kernel) (by decide +kernel), by decide, by decide +kernel, by decide, k_ic k_c8 211 (by decide +kernel) (by decide +kernel)⟩
theorem kc_L_176 : k_cV RL 176 15 yX12_version cX12_version 1 (some .int) 0 := ⟨kb_L_176, k_ic k_c8 212 (by decide +kernel) (by decide +kernel), k_ic k_c8 213 (by decide +kernel) (by decide +kernel), TX12, 53, rfl⟩
theorem kv_L_177 : k_cW RL 177 yL_directory cL_directory 5 (some .int) [(0, 10, 13, 13), (0, 10, 17, 19), (0, 10, 21, 21)] 4 := ⟨k_ic k_c5 238 (by decide +kernel) (by decide +kernel), k_ic k_c1 0 (by decide +kernel) (by decide +kernel), by decide, by decide +kernel, by decide, k_ic k_c5 236 (by decide +kernel) (by decide +kernel), k_ic k_c5 237 (by decide +kernel) (by decide +kernel)⟩
theorem kb_L_180 : k_cB RL 180 yX12_directory cX12_directory 5 (some .int) 2 := ⟨k_ic k_c8 218 (by decide +kernel) (by decide +kernel), k_ic k_c1 15 (by decide +kernel) (by decide +kernel), by decide, by decide +kernel, by decide, k_ic k_c8 215 (by decide +kernel) (by decide +kernel)⟩
theorem kc_L_180 : k_cV RL 180 15 yX12_directory cX12_directory 5 (some .int) 2 := ⟨kb_L_180, k_ic k_c8 216 (by decide +kernel) (by decide +kernel), k_ic k_c8 217 (by decide +kernel) (by decide +kernel), TX12, 53, rfl⟩
theorem kv_L_181 : k_cW RL 181 yL_move cL_move 5 (some .int) [(0, 7, 10, 13), (0, 7, 14, 19), (0, 7, 18, 21)] 4 := ⟨k_ic k_c6 31 (by decide +kernel) (by decide +kernel), k_ic k_c1 0 (by decide +kernel) (by decide +kernel), by decide, by decide +kernel, by decide, k_ic k_c6 29 (by decide +kernel) (by decide +kernel), k_ic k_c6 30 (by decide +kernel) (by decide +kernel)⟩
theorem kb_L_184 : k_cB RL 184 yX12_move cX12_move 8 none 3 := ⟨k_ic k_c8 238 (by decide +kernel) (by decide +kernel), k_ic k_c1 15 (by decide +kernel) (by decide +kernel), by decide, by decide +kernel, by decide, k_ic k_c8 235 (by decide +kernel) (by decide +kernel)⟩
theorem kc_L_184 : k_cV RL 184 15 yX12_move cX12_move 8 none 3 := ⟨kb_L_184, k_ic k_c8 236 (by decide +kernel) (by decide +kernel), k_ic k_c8 237 (by decide +kernel) (by decide +kernel), TX12, 53, rfl⟩
theorem kv_L_185 : k_cW RL 185 yL_remove cL_remove 4 (some .int) [(0, 9, 12, 13), (0, 9, 15, 21)] 3 := ⟨k_ic k_c6 43 (by decide +kernel) (by decide +kernel), k_ic k_c1 0 (by decide +kernel) (by decide +kernel), by decide, by decide +kernel, by decide, k_ic k_c6 41 (by decide +kernel) (by decide +kernel), k_ic k_c6 42 (by decide +kernel) (by decide +kernel)⟩
theorem kb_L_187 : k_cB RL 187 yX12_remove cX12_remove 4 (some .int) 1 := ⟨k_ic k_c9 6 (by decide +kernel) (by decide +kernel), k_ic k_c1 15 (by decide +kernel) (by decide +kernel), by decide, by decide +kernel, by decide, k_ic k_c9 3 (by decide +kernel) (by decide +kernel)⟩
theorem kc_L_187 : k_cV RL 187 15 yX12_remove cX12_remove 4 (some .int) 1 := ⟨kb_L_187, k_ic k_c9 4 (by decide +kernel) (by decide +kernel), k_ic k_c9 5 (by decide +kernel) (by decide +kernel), TX12, 53, rfl⟩
theorem kv_L_188 : k_cW RL 188 yL_shortName cL_shortName 4 (some .int) [(0, 9, 12, 13)] 3 := ⟨k_ic k_c6 71 (by decide +kernel) (by decide +kernel), k_ic k_c1 0 (by decide +kernel) (by decide +kernel), by decide, by decide +kernel, by decide, k_ic k_c6 69 (by decide +kernel) (by decide +kernel), k_ic k_c6 70 (by decide +kernel) (by decide +kernel)⟩
theorem kb_L_190 : k_cB RL 190 yX12_shortName cX12_shortName 2 (some .int) 1 := ⟨k_ic k_c9 10 (by decide +kernel) (by decide +kernel), k_ic k_c1 15 (by decide +kernel) (by decide +kernel), by decide, by decide +kernel, by decide, k_ic k_c9 7 (by decide +kernel) (by decide +kernel)⟩
theorem kc_L_190 : k_cV RL 190 15 yX12_shortName cX12_shortName 2 (some .int) 1 := ⟨kb_L_190, k_ic k_c9 8 (by decide +kernel) (by decide +kernel), k_ic k_c9 9 (by decide +kernel) (by decide +kernel), TX12, 53, rfl⟩
theorem kv_L_191 : k_cW RL 191 yL_named cL_named 5 (some .int) [(0, 10, 13, 13), (0, 10, 17, 19)] 4 := ⟨k_ic k_c6 78 (by decide +kernel) (by decide +kernel), k_ic k_c1 0 (by decide +kernel) (by decide +kernel), by decide, by decide +kernel, by decide, k_ic k_c6 76 (by decide +kernel) (by decide +kernel), k_ic k_c6 77 (by decide +kernel) (by decide +kernel)⟩
theorem kb_L_193 : k_cB RL 193 yX12_named cX12_named 3 (some .int) 2 := ⟨k_ic k_c9 14 (by decide +kernel) (by decide +kernel), k_ic k_c1 15 (by decide +kernel) (by decide +kernel), by decide, by decide +kernel, by decide, k_ic k_c9 11 (by decide +kernel) (by decide +kernel)⟩
theorem kc_L_193 : k_cV RL 193 15 yX12_named cX12_named 3 (some .int) 2 := ⟨kb_L_193, k_ic k_c9 12 (by decide +kernel) (by decide +kernel), k_ic k_c9 13 (by decide +kernel) (by decide +kernel), TX12, 53, rfl⟩
theorem kv_L_194 : k_cW RL 194 yL_save cL_save 6 (some .int) [(0, 12, 15, 13), (0, 12, 19, 19), (0, 12, 23, 21)] 5 := ⟨k_ic k_c6 85 (by decide +kernel) (by decide +kernel), k_ic k_c1 0 (by decide +kernel) (by decide +kernel), by decide, by decide +kernel, by decide, k_ic k_c6 83 (by decide +kernel) (by decide +kernel), k_ic k_c6 84 (by decide +kernel) (by decide +kernel)⟩
theorem kb_L_196 : k_cB RL 196 yX12_save cX12_save 4 (some .int) 3 := ⟨k_ic k_c9 18 (by decide +kernel) (by decide +kernel), k_ic k_c1 15 (by decide +kernel) (by decide +kernel), by decide, by decide +kernel, by decide, k_ic k_c9 15 (by decide +kernel) (by decide +kernel)⟩
theorem kc_L_196 : k_cV RL 196 15 yX12_save cX12_save 4 (some .int) 3 := ⟨kb_L_196, k_ic k_c9 16 (by decide +kernel) (by decide +kernel), k_ic k_c9 17 (by decide +kernel) (by decide +kernel), TX12, 53, rfl⟩
theorem kv_L_197 : k_cW RL 197 yL_erase cL_erase 5 (some .int) [(0, 10, 13, 13), (0, 10, 17, 19), (0, 10, 21, 21)] 4 := ⟨k_ic k_c6 131 (by decide +kernel) (by decide +kernel), k_ic k_c1 0 (by decide +kernel) (by decide +kernel), by decide, by decide +kernel, by decide, k_ic k_c6 129 (by decide +kernel) (by decide +kernel), k_ic k_c6 130 (by decide +kernel) (by decide +kernel)⟩
theorem kb_L_199 : k_cB RL 199 yX12_erase cX12_erase 3 (some .int) 2 := ⟨k_ic k_c9 55 (by decide +kernel) (by decide +kernel), k_ic k_c1 15 (by decide +kernel) (by decide +kernel), by decide, by decide +kernel, by decide, k_ic k_c9 52 (by decide +kernel) (by decide +kernel)⟩
theorem kc_L_199 : k_cV RL 199 15 yX12_erase cX12_erase 3 (some .int) 2 := ⟨kb_L_199, k_ic k_c9 53 (by decide +kernel) (by decide +kernel), k_ic k_c9 54 (by decide +kernel) (by decide +kernel), TX12, 53, rfl⟩
theorem kv_L_200 : k_cW RL 200 yL_build cL_build 5 (some .int) [(0, 10, 13, 13), (0, 10, 17, 19), (0, 10, 21, 21)] 4 := ⟨k_ic k_c6 138 (by decide +kernel) (by decide +kernel), k_ic k_c1 0 (by decide +kernel) (by decide +kernel), by decide, by decide +kernel, by decide, k_ic k_c6 136 (by decide +kernel) (by decide +kernel), k_ic k_c6 137 (by decide +kernel) (by decide +kernel)⟩
theorem kb_L_202 : k_cB RL 202 yX12_build cX12_build 11 (some .int) 2 := ⟨k_ic k_c9 59 (by decide +kernel) (by decide +kernel), k_ic k_c1 15 (by decide +kernel) (by decide +kernel), by decide, by decide +kernel, by decide, k_ic k_c9 56 (by decide +kernel) (by decide +kernel)⟩
theorem kc_L_202 : k_cV RL 202 15 yX12_build cX12_build 11 (some .int) 2 := ⟨kb_L_202, k_ic k_c9 57 (by decide +kernel) (by decide +kernel), k_ic k_c9 58 (by decide +kernel) (by decide +kernel), TX12, 53, rfl⟩
theorem kv_L_203 : k_cW RL 203 yL_off cL_off 4 (some .int) [(0, 9, 12, 13)] 3 := ⟨k_ic k_c6 167 (by decide +kernel) (by decide +kernel), k_ic k_c1 0 (by decide +kernel) (by decide +kernel), by decide, by decide +kernel, by decide, k_ic k_c6 165 (by decide +kernel) (by decide +kernel), k_ic k_c6 166 (by decide +kernel) (by decide +kernel)⟩
theorem kb_L_205 : k_cB RL 205 yX12_off cX12_off 7 (some .int) 1 := ⟨k_ic k_c9 70 (by decide +kernel) (by decide +kernel), k_ic k_c1 15 (by decide +kernel) (by decide +kernel), by decide, by decide +kernel, by decide, k_ic k_c9 67 (by decide +kernel) (by decide +kernel)⟩
theorem kc_L_205 : k_cV RL 205 15 yX12_off cX12_off 7 (some .int) 1 := ⟨kb_L_205, k_ic k_c9 68 (by decide +kernel) (by decide +kernel), k_ic k_c9 69 (by decide +kernel) (by decide +kernel), TX12, 53, rfl⟩
theorem kv_L_206 : k_cW RL 206 yL_rank cL_rank 4 (some .int) [(0, 9, 12, 19)] 3 := ⟨k_ic k_c6 174 (by decide +kernel) (by decide +kernel), k_ic k_c1 0 (by decide +kernel) (by decide +kernel), by decide, by decide +kernel, by decide, k_ic k_c6 172 (by decide +kernel) (by decide +kernel), k_ic k_c6 173 (by decide +kernel) (by decide +kernel)⟩
theorem kb_L_208 : k_cB RL 208 yX12_rank cX12_rank 2 (some .int) 1 := ⟨k_ic k_c9 74 (by decide +kernel) (by decide +kernel), k_ic k_c1 15 (by decide +kernel) (by decide +kernel), by decide, by decide +kernel, by decide, k_ic k_c9 71 (by decide +kernel) (by decide +kernel)⟩
theorem kc_L_208 : k_cV RL 208 15 yX12_rank cX12_rank 2 (some .int) 1 := ⟨kb_L_208, k_ic k_c9 72 (by decide +kernel) (by decide +kernel), k_ic k_c9 73 (by decide +kernel) (by decide +kernel), TX12, 53, rfl⟩
theorem kv_L_209 : k_cW RL 209 yL_rankAnew cL_rankAnew 4 (some .int) [(0, 9, 12, 19)] 3 := ⟨k_ic k_c6 181 (by decide +kernel) (by decide +kernel), k_ic k_c1 0 (by decide +kernel) (by decide +kernel), by decide, by decide +kernel, by decide, k_ic k_c6 179 (by decide +kernel) (by decide +kernel), k_ic k_c6 180 (by decide +kernel) (by decide +kernel)⟩
theorem kb_L_211 : k_cB RL 211 yX12_rankAnew cX12_rankAnew 2 (some .int) 1 := ⟨k_ic k_c9 82 (by decide +kernel) (by decide +kernel), k_ic k_c1 15 (by decide +kernel) (by decide +kernel), by decide, by decide +kernel, by decide, k_ic k_c9 79 (by decide +kernel) (by decide +kernel)⟩
theorem kc_L_211 : k_cV RL 211 15 yX12_rankAnew cX12_rankAnew 2 (some .int) 1 := ⟨kb_L_211, k_ic k_c9 80 (by decide +kernel) (by decide +kernel), k_ic k_c9 81 (by decide +kernel) (by decide +kernel), TX12, 53, rfl⟩
theorem kv_L_212 : k_cW RL 212 yL_watch cL_watch 6 (some .int) [(0, 12, 15, 19), (0, 12, 19, 21)] 5 := ⟨k_ic k_c6 188 (by decide +kernel) (by decide +kernel), k_ic k_c1 0 (by decide +kernel) (by decide +kernel), by decide, by decide +kernel, by decide, k_ic k_c6 186 (by decide +kernel) (by decide +kernel), k_ic k_c6 187 (by decide +kernel) (by decide +kernel)⟩
theorem kb_L_214 : k_cB RL 214 yX12_watch cX12_watch 5 (some .int) 3 := ⟨k_ic k_c9 86 (by decide +kernel) (by decide +kernel), k_ic k_c1 15 (by decide +kernel) (by decide +kernel), by decide, by decide +kernel, by decide, k_ic k_c9 83 (by decide +kernel) (by decide +kernel)⟩
theorem kc_L_214 : k_cV RL 214 15 yX12_watch cX12_watch 5 (some .int) 3 := ⟨kb_L_214, k_ic k_c9 84 (by decide +kernel) (by decide +kernel), k_ic k_c9 85 (by decide +kernel) (by decide +kernel), TX12, 53, rfl⟩
theorem kv_L_215 : k_cW RL 215 yL_fired cL_fired 4 (some .int) [(0, 9, 12, 13)] 3 := ⟨k_ic k_c6 211 (by decide +kernel) (by decide +kernel), k_ic k_c1 0 (by decide +kernel) (by decide +kernel), by decide, by decide +kernel, by decide, k_ic k_c6 209 (by decide +kernel) (by decide +kernel), k_ic k_c6 210 (by decide +kernel) (by decide +kernel)⟩
theorem kb_L_217 : k_cB RL 217 yX12_fired cX12_fired 2 (some .int) 1 := ⟨k_ic k_c9 90 (by decide +kernel) (by decide +kernel), k_ic k_c1 15 (by decide +kernel) (by decide +kernel), by decide, by decide +kernel, by decide, k_ic k_c9 87 (by decide +kernel) (by decide +kernel)⟩
theorem kc_L_217 : k_cV RL 217 15 yX12_fired cX12_fired 2 (some .int) 1 := ⟨kb_L_217, k_ic k_c9 88 (by decide +kernel) (by decide +kernel), k_ic k_c9 89 (by decide +kernel) (by decide +kernel), TX12, 53, rfl⟩
theorem kv_L_218 : k_cW RL 218 yL_offer cL_offer 5 (some .int) [(0, 10, 13, 13), (0, 10, 17, 19), (0, 10, 21, 21)] 4 := ⟨k_ic k_c6 219 (by decide +kernel) (by decide +kernel), k_ic k_c1 0 (by decide +kernel) (by decide +kernel), by decide, by decide +kernel, by decide, k_ic k_c6 217 (by decide +kernel) (by decide +kernel), k_ic k_c6 218 (by decide +kernel) (by decide +kernel)⟩
theorem kb_L_220 : k_cB RL 220 yX12_offer cX12_offer 3 (some .int) 2 := ⟨k_ic k_c9 94 (by decide +kernel) (by decide +kernel), k_ic k_c1 15 (by decide +kernel) (by decide +kernel), by decide, by decide +kernel, by decide, k_ic k_c9 91 (by decide +kernel) (by decide +kernel)⟩
theorem kc_L_220 : k_cV RL 220 15 yX12_offer cX12_offer 3 (some .int) 2 := ⟨kb_L_220, k_ic k_c9 92 (by decide +kernel) (by decide +kernel), k_ic k_c9 93 (by decide +kernel) (by decide +kernel), TX12, 53, rfl⟩
theorem kv_L_221 : k_cW RL 221 yL_take cL_take 4 (some .int) [(0, 9, 12, 13)] 3 := ⟨k_ic k_c6 226 (by decide +kernel) (by decide +kernel), k_ic k_c1 0 (by decide +kernel) (by decide +kernel), by decide, by decide +kernel, by decide, k_ic k_c6 224 (by decide +kernel) (by decide +kernel), k_ic k_c6 225 (by decide +kernel) (by decide +kernel)⟩
theorem kb_L_223 : k_cB RL 223 yX12_take cX12_take 5 (some .int) 1 := ⟨k_ic k_c9 98 (by decide +kernel) (by decide +kernel), k_ic k_c1 15 (by decide +kernel) (by decide +kernel), by decide, by decide +kernel, by decide, k_ic k_c9 95 (by decide +kernel) (by decide +kernel)⟩
theorem kc_L_223 : k_cV RL 223 15 yX12_take cX12_take 5 (some .int) 1 := ⟨kb_L_223, k_ic k_c9 96 (by decide +kernel) (by decide +kernel), k_ic k_c9 97 (by decide +kernel) (by decide +kernel), TX12, 53, rfl⟩
theorem kv_L_224 : k_cW RL 224 yL_finish cL_finish 4 (some .int) [(0, 9, 12, 13)] 3 := ⟨k_ic k_c7 8 (by decide +kernel) (by decide +kernel), k_ic k_c1 0 (by decide +kernel) (by decide +kernel), by decide, by decide +kernel, by decide, k_ic k_c7 6 (by decide +kernel) (by decide +kernel), k_ic k_c7 7 (by decide +kernel) (by decide +kernel)⟩
theorem kb_L_226 : k_cB RL 226 yX12_finish cX12_finish 5 (some .int) 1 := ⟨k_ic k_c9 113 (by decide +kernel) (by decide +kernel), k_ic k_c1 15 (by decide +kernel) (by decide +kernel), by decide, by decide +kernel, by decide, k_ic k_c9 110 (by decide +kernel) (by decide +kernel)⟩
theorem kc_L_226 : k_cV RL 226 15 yX12_finish cX12_finish 5 (some .int) 1 := ⟨kb_L_226, k_ic k_c9 111 (by decide +kernel) (by decide +kernel), k_ic k_c9 112 (by decide +kernel) (by decide +kernel), TX12, 53, rfl⟩
theorem kb_L_227 : k_cB RL 227 yX11_parts cX11_parts 1 (some .int) 0 := ⟨k_ic k_c2 120 (by decide +kernel) (by decide +kernel), k_ic k_c1 1 (by decide +kernel) (by decide +kernel), by decide, by decide +kernel, by decide, k_ic k_c2 117 (by decide +kernel) (by decide +kernel)⟩
theorem kc_L_227 : k_cV RL 227 14 yX11_parts cX11_parts 1 (some .int) 0 := ⟨kb_L_227, k_ic k_c2 118 (by decide +kernel) (by decide +kernel), k_ic k_c2 119 (by decide +kernel) (by decide +kernel), TX11, 13, rfl⟩
theorem kb_L_230 : k_cB RL 230 yX12_parts cX12_parts 1 (some .int) 0 := ⟨k_ic k_c9 117 (by decide +kernel) (by decide +kernel), k_ic k_c1 15 (by decide +kernel) (by decide +kernel), by decide, by decide +kernel, by decide, k_ic k_c9 114 (by decide +kernel) (by decide +kernel)⟩
theorem kc_L_230 : k_cV RL 230 15 yX12_parts cX12_parts 1 (some .int) 0 := ⟨kb_L_230, k_ic k_c9 115 (by decide +kernel) (by decide +kernel), k_ic k_c9 116 (by decide +kernel) (by decide +kernel), TX12, 53, rfl⟩
theorem kv_L_231 : k_cW RL 231 yL_part cL_part 5 (some .int) [(0, 10, 13, 13), (0, 10, 17, 19)] 4 := ⟨k_ic k_c7 15 (by decide +kernel) (by decide +kernel), k_ic k_c1 0 (by decide +kernel) (by decide +kernel), by decide, by decide +kernel, by decide, k_ic k_c7 13 (by decide +kernel) (by decide +kernel), k_ic k_c7 14 (by decide +kernel) (by decide +kernel)⟩
theorem kb_L_233 : k_cB RL 233 yX12_part cX12_part 4 (some .int) 2 := ⟨k_ic k_c9 121 (by decide +kernel) (by decide +kernel), k_ic k_c1 15 (by decide +kernel) (by decide +kernel), by decide, by decide +kernel, by decide, k_ic k_c9 118 (by decide +kernel) (by decide +kernel)⟩
theorem kc_L_233 : k_cV RL 233 15 yX12_part cX12_part 4 (some .int) 2 := ⟨kb_L_233, k_ic k_c9 119 (by decide +kernel) (by decide +kernel), k_ic k_c9 120 (by decide +kernel) (by decide +kernel), TX12, 53, rfl⟩
theorem kv_L_234 : k_cW RL 234 yL_mark cL_mark 3 (some .int) [(0, 8, 11, 21)] 2 := ⟨k_ic k_c7 23 (by decide +kernel) (by decide +kernel), k_ic k_c1 0 (by decide +kernel) (by decide +kernel), by decide, by decide +kernel, by decide, k_ic k_c7 21 (by decide +kernel) (by decide +kernel), k_ic k_c7 22 (by decide +kernel) (by decide +kernel)⟩
theorem kb_L_237 : k_cB RL 237 yX12_mark cX12_mark 1 (some .int) 0 := ⟨k_ic k_c9 125 (by decide +kernel) (by decide +kernel), k_ic k_c1 15 (by decide +kernel) (by decide +kernel), by decide, by decide +kernel, by decide, k_ic k_c9 122 (by decide +kernel) (by decide +kernel)⟩
theorem kc_L_237 : k_cV RL 237 15 yX12_mark cX12_mark 1 (some .int) 0 := ⟨kb_L_237, k_ic k_c9 123 (by decide +kernel) (by decide +kernel), k_ic k_c9 124 (by decide +kernel) (by decide +kernel), TX12, 53, rfl⟩
theorem kv_L_238 : k_cW RL 238 yL_bringBack cL_bringBack 4 (some .int) [(0, 9, 12, 13)] 3 := ⟨k_ic k_c7 31 (by decide +kernel) (by decide +kernel), k_ic k_c1 0 (by decide +kernel) (by decide +kernel), by decide, by decide +kernel, by decide, k_ic k_c7 29 (by decide +kernel) (by decide +kernel), k_ic k_c7 30 (by decide +kernel) (by decide +kernel)⟩
theorem kb_L_240 : k_cB RL 240 yX12_bringBack cX12_bringBack 5 (some .int) 1 := ⟨k_ic k_c9 129 (by decide +kernel) (by decide +kernel), k_ic k_c1 15 (by decide +kernel) (by decide +kernel), by decide, by decide +kernel, by decide, k_ic k_c9 126 (by decide +kernel) (by decide +kernel)⟩
theorem kc_L_240 : k_cV RL 240 15 yX12_bringBack cX12_bringBack 5 (some .int) 1 := ⟨kb_L_240, k_ic k_c9 127 (by decide +kernel) (by decide +kernel), k_ic k_c9 128 (by decide +kernel) (by decide +kernel), TX12, 53, rfl⟩
section LCS
variable {G : k_G} {l : Launch} {nm : String} {h0 : k_H}
theorem J_b {b : Nat} {s : m_S} {g : Nat → Int64} {h : k_H} : k_is (c_J b s g h) b 15 := Or.inl ⟨m_fs b s, by
  show (if b ≤ b ∧ b < b + 37 then some (m_cl b s (b - b)) else _) = _
  rw [if_pos ⟨Nat.le_refl _, by omega⟩, Nat.sub_self]
  rfl⟩
theorem case_begin (ok : k_ok G l) (g0 : k_fh G = 0) {a b N w i : Nat} {B : Nat × Nat} {s : m_S} {g : Nat → Int64} {h : k_H} {R : s_M × Nat × Int32} {X : Nat → String} {Q : k_H → k_R → Prop} (hL : k_sL G < 2 ^ 31) (hi : i + 7 ≤ k_sL G) (hab : a < b) (ho : k_is h a 14) (cn : k_cn b (b + 38) h) (hb : b + 38 ≤ h.2.1) (hR : R.2.1 ≤ 1) (e1 : X 1 = x_IO)
    (C : k_ct (tX11_begin (k_fG G b (b + 38)) l) [vR (some a), vI (k_sx G (i + 1)), vI (kB (decide (¬ k_sx G (i + 2) = 0)))] h (c_R a B R X N w)) (D : ∀ h9, k_cti (tX12_begin G l) [vR (some b), vI (k_sx G (i + 1)), vI (kB (decide (¬ k_sx G (i + 2) = 0)))] (m_hp b s h9) (m_p b h9 (m_R R)))
    (K : ∀ s1 g1 h1, m_M s1 R.1 → c_W a B h1 R.1 N w → k_cn b (b + 38) h1 → k_X (jW G l nm h0) (c_J b s1 g1 h1) 2369 (lvW G a b i) [] Q) (Kn : ∀ h1, c_W a B h1 R.1 N w → ∃ r, Q (k_no h1) r) : k_X (jW G l nm h0) (c_J b s g h) 192 (lvW G a b i) [] Q := by
  have A : ∀ {h2 : k_H} {k : Int32} {h9 : k_H} {r : k_R}, tL_begin G l [vR (some a), vI (k_sx G (i + 1)), vI (kB (decide (¬ k_sx G (i + 2) = 0))), vR (some (b + 37))] (c_J b s g h) h2 (.inl (some (vI k))) → jW G l nm h0 h2 219 (lvX G a b i k) [] h9 r → jW G l nm h0 (c_J b s g h) 192 (lvW G a b i) [] h9 r := fun t K => j_aload_n dL_law_192 rfl rfl (x_arg (j := 1) dL_law_193 dL_law_194 dL_law_196 rfl dL_law_197 dL_law_198 rfl rfl hL (by omega) (x_arg (j := 2) dL_law_199 dL_law_200 dL_law_202 rfl dL_law_203 dL_law_204 rfl rfl hL (by omega) (x_bool dL_law_205 dL_law_208 dL_law_209 dL_law_212 (j_aload_n dL_law_213 rfl rfl (j_callW dL_law_214 kv_L_117 rfl rfl (by decide) (Nat.le_of_ble_eq_true rfl) t (j_istore dL_law_217 (by decide) rfl K))))))
  obtain ⟨h2, r2, t2, e9, h1, W1, e | ⟨cn1, e⟩⟩ := L_begin ok g0 hab ho cn hb hR e1 C
  · subst e9; subst e
    obtain ⟨r, q⟩ := Kn h1 W1
    exact ⟨k_no h1, r, A t2 j_no, q⟩
  · generalize hg1 : (if R.2.1 = 0 then va_up g 0 R.2.2.toInt64 else g) = g1 at e
    subst e9; subst e
    obtain ⟨h3, v, tm, s1, f3, m1, m2, m3⟩ := D (k_jn (b + 37) (b + 38) (fun _ => k_j 1 g1) h1)
    subst f3
    obtain ⟨h4, v4, tt, s2, f4, f5, f6⟩ := c_X12_thrown ok (b := b) (s := s1) (h := k_jn (b + 37) (b + 38) (fun _ => k_j 1 g1) h1)
    rw [f5] at f4
    subst f4
    rw [f6, m2] at tt
    obtain ⟨h9, r, jk, q⟩ := K s1 g1 h1 m1 W1 cn1
    have hv : nI R.2.1 = 0 → g1 0 = v.toInt64 := fun z => by
      have z0 : R.2.1 = 0 := (nI_eq (by omega) (by omega)).mp (show nI R.2.1 = nI 0 from z)
      rw [← hg1, if_pos z0, m3 z0]
      rfl
    exact ⟨h9, r, A t2 (j_aload_n dL_law_219 rfl rfl (x_arg (j := 1) dL_law_220 dL_law_221 dL_law_223 rfl dL_law_224 dL_law_225 rfl rfl hL (by omega) (x_arg (j := 2) dL_law_226 dL_law_227 dL_law_229 rfl dL_law_230 dL_law_231 rfl rfl hL (by omega) (x_bool dL_law_232 dL_law_235 dL_law_236 dL_law_239 (j_callV dL_law_240 kc_L_122 rfl rfl J_b (by decide) (Nat.le_of_ble_eq_true rfl) tm (x_tail kc_L_123 dL_law_243 dL_law_245 dL_law_246 dL_law_249 dL_law_251 dL_law_256 dL_law_258 dL_law_261 dL_law_262 dL_law_263 dL_law_264 dL_law_266 dL_law_267 dL_law_268 dL_law_273 rfl (J_b) tt J_out hv jk)))))), q⟩
theorem case_get (ok : k_ok G l) (g0 : k_fh G = 0) {a b N w i : Nat} {B : Nat × Nat} {s : m_S} {g : Nat → Int64} {h : k_H} {R : s_M × Nat × Int32} {X : Nat → String} {Q : k_H → k_R → Prop} (hL : k_sL G < 2 ^ 31) (hi : i + 7 ≤ k_sL G) (hab : a < b) (ho : k_is h a 14) (cn : k_cn b (b + 38) h) (hb : b + 38 ≤ h.2.1) (hR : R.2.1 ≤ 3) (e1 : X 1 = x_IO) (e2 : X 2 = x_IA) (e3 : X 3 = x_IS)
    (C : k_ct (tX11_get (k_fG G b (b + 38)) l) [vR (some a), vI (k_sx G (i + 1)), vI (k_sx G (i + 2)), vI (k_sx G (i + 3)), vI (k_sx G (i + 4)), vI (kB (decide (¬ k_sx G (i + 5) = 0)))] h (c_R a B R X N w)) (D : ∀ h9, k_cti (tX12_get G l) [vR (some b), vI (k_sx G (i + 1)), vI (k_sx G (i + 2)), vI (k_sx G (i + 3)), vI (k_sx G (i + 4)), vI (kB (decide (¬ k_sx G (i + 5) = 0)))] (m_hp b s h9) (m_p b h9 (m_R R)))
    (K : ∀ s1 g1 h1, m_M s1 R.1 → c_W a B h1 R.1 N w → k_cn b (b + 38) h1 → k_X (jW G l nm h0) (c_J b s1 g1 h1) 2369 (lvW G a b i) [] Q) (Kn : ∀ h1, c_W a B h1 R.1 N w → ∃ r, Q (k_no h1) r) : k_X (jW G l nm h0) (c_J b s g h) 276 (lvW G a b i) [] Q := by
  have A : ∀ {h2 : k_H} {k : Int32} {h9 : k_H} {r : k_R}, tL_get G l [vR (some a), vI (k_sx G (i + 1)), vI (k_sx G (i + 2)), vI (k_sx G (i + 3)), vI (k_sx G (i + 4)), vI (kB (decide (¬ k_sx G (i + 5) = 0))), vR (some (b + 37))] (c_J b s g h) h2 (.inl (some (vI k))) → jW G l nm h0 h2 321 (lvX G a b i k) [] h9 r → jW G l nm h0 (c_J b s g h) 276 (lvW G a b i) [] h9 r := fun t K => j_aload_n dL_law_276 rfl rfl (x_arg (j := 1) dL_law_277 dL_law_278 dL_law_280 rfl dL_law_281 dL_law_282 rfl rfl hL (by omega) (x_arg (j := 2) dL_law_283 dL_law_284 dL_law_286 rfl dL_law_287 dL_law_288 rfl rfl hL (by omega) (x_arg (j := 3) dL_law_289 dL_law_290 dL_law_292 rfl dL_law_293 dL_law_294 rfl rfl hL (by omega) (x_arg (j := 4) dL_law_295 dL_law_296 dL_law_298 rfl dL_law_299 dL_law_300 rfl rfl hL (by omega) (x_arg (j := 5) dL_law_301 dL_law_302 dL_law_304 rfl dL_law_305 dL_law_306 rfl rfl hL (by omega) (x_bool dL_law_307 dL_law_310 dL_law_311 dL_law_314 (j_aload_n dL_law_315 rfl rfl (j_callW dL_law_316 kv_L_126 rfl rfl (by decide) (Nat.le_of_ble_eq_true rfl) t (j_istore dL_law_319 (by decide) rfl K)))))))))
  obtain ⟨h2, r2, t2, e9, h1, W1, e | ⟨cn1, e⟩⟩ := L_get ok g0 hab ho cn hb hR e1 e2 e3 C
  · subst e9; subst e
    obtain ⟨r, q⟩ := Kn h1 W1
    exact ⟨k_no h1, r, A t2 j_no, q⟩
  · generalize hg1 : (if R.2.1 = 0 then va_up g 0 R.2.2.toInt64 else g) = g1 at e
    subst e9; subst e
    obtain ⟨h3, v, tm, s1, f3, m1, m2, m3⟩ := D (k_jn (b + 37) (b + 38) (fun _ => k_j 1 g1) h1)
    subst f3
    obtain ⟨h4, v4, tt, s2, f4, f5, f6⟩ := c_X12_thrown ok (b := b) (s := s1) (h := k_jn (b + 37) (b + 38) (fun _ => k_j 1 g1) h1)
    rw [f5] at f4
    subst f4
    rw [f6, m2] at tt
    obtain ⟨h9, r, jk, q⟩ := K s1 g1 h1 m1 W1 cn1
    have hv : nI R.2.1 = 0 → g1 0 = v.toInt64 := fun z => by
      have z0 : R.2.1 = 0 := (nI_eq (by omega) (by omega)).mp (show nI R.2.1 = nI 0 from z)
      rw [← hg1, if_pos z0, m3 z0]
      rfl
    exact ⟨h9, r, A t2 (j_aload_n dL_law_321 rfl rfl (x_arg (j := 1) dL_law_322 dL_law_323 dL_law_325 rfl dL_law_326 dL_law_327 rfl rfl hL (by omega) (x_arg (j := 2) dL_law_328 dL_law_329 dL_law_331 rfl dL_law_332 dL_law_333 rfl rfl hL (by omega) (x_arg (j := 3) dL_law_334 dL_law_335 dL_law_337 rfl dL_law_338 dL_law_339 rfl rfl hL (by omega) (x_arg (j := 4) dL_law_340 dL_law_341 dL_law_343 rfl dL_law_344 dL_law_345 rfl rfl hL (by omega) (x_arg (j := 5) dL_law_346 dL_law_347 dL_law_349 rfl dL_law_350 dL_law_351 rfl rfl hL (by omega) (x_bool dL_law_352 dL_law_355 dL_law_356 dL_law_359 (j_callV dL_law_360 kc_L_129 rfl rfl J_b (by decide) (Nat.le_of_ble_eq_true rfl) tm (x_tail kc_L_123 dL_law_363 dL_law_365 dL_law_366 dL_law_369 dL_law_371 dL_law_376 dL_law_378 dL_law_381 dL_law_382 dL_law_383 dL_law_384 dL_law_386 dL_law_387 dL_law_388 dL_law_393 rfl (J_b) tt J_out hv jk))))))))), q⟩
theorem case_range (ok : k_ok G l) (g0 : k_fh G = 0) {a b N w i : Nat} {B : Nat × Nat} {s : m_S} {g : Nat → Int64} {h : k_H} {R : s_M × Nat × Int32} {X : Nat → String} {Q : k_H → k_R → Prop} (hL : k_sL G < 2 ^ 31) (hi : i + 7 ≤ k_sL G) (hab : a < b) (ho : k_is h a 14) (cn : k_cn b (b + 38) h) (hb : b + 38 ≤ h.2.1) (hR : R.2.1 ≤ 3) (e1 : X 1 = x_IO) (e2 : X 2 = x_IA) (e3 : X 3 = x_IS)
    (C : k_ct (tX11_range (k_fG G b (b + 38)) l) [vR (some a), vI (k_sx G (i + 1)), vI (k_sx G (i + 2)), vI (k_sx G (i + 3)), vI (kB (decide (¬ k_sx G (i + 4) = 0)))] h (c_R a B R X N w)) (D : ∀ h9, k_cti (tX12_range G l) [vR (some b), vI (k_sx G (i + 1)), vI (k_sx G (i + 2)), vI (k_sx G (i + 3)), vI (kB (decide (¬ k_sx G (i + 4) = 0)))] (m_hp b s h9) (m_p b h9 (m_R R)))
    (K : ∀ s1 g1 h1, m_M s1 R.1 → c_W a B h1 R.1 N w → k_cn b (b + 38) h1 → k_X (jW G l nm h0) (c_J b s1 g1 h1) 2369 (lvW G a b i) [] Q) (Kn : ∀ h1, c_W a B h1 R.1 N w → ∃ r, Q (k_no h1) r) : k_X (jW G l nm h0) (c_J b s g h) 396 (lvW G a b i) [] Q := by
  have A : ∀ {h2 : k_H} {k : Int32} {h9 : k_H} {r : k_R}, tL_range G l [vR (some a), vI (k_sx G (i + 1)), vI (k_sx G (i + 2)), vI (k_sx G (i + 3)), vI (kB (decide (¬ k_sx G (i + 4) = 0))), vR (some (b + 37))] (c_J b s g h) h2 (.inl (some (vI k))) → jW G l nm h0 h2 435 (lvX G a b i k) [] h9 r → jW G l nm h0 (c_J b s g h) 396 (lvW G a b i) [] h9 r := fun t K => j_aload_n dL_law_396 rfl rfl (x_arg (j := 1) dL_law_397 dL_law_398 dL_law_400 rfl dL_law_401 dL_law_402 rfl rfl hL (by omega) (x_arg (j := 2) dL_law_403 dL_law_404 dL_law_406 rfl dL_law_407 dL_law_408 rfl rfl hL (by omega) (x_arg (j := 3) dL_law_409 dL_law_410 dL_law_412 rfl dL_law_413 dL_law_414 rfl rfl hL (by omega) (x_arg (j := 4) dL_law_415 dL_law_416 dL_law_418 rfl dL_law_419 dL_law_420 rfl rfl hL (by omega) (x_bool dL_law_421 dL_law_424 dL_law_425 dL_law_428 (j_aload_n dL_law_429 rfl rfl (j_callW dL_law_430 kv_L_130 rfl rfl (by decide) (Nat.le_of_ble_eq_true rfl) t (j_istore dL_law_433 (by decide) rfl K))))))))
  obtain ⟨h2, r2, t2, e9, h1, W1, e | ⟨cn1, e⟩⟩ := L_range ok g0 hab ho cn hb hR e1 e2 e3 C
  · subst e9; subst e
    obtain ⟨r, q⟩ := Kn h1 W1
    exact ⟨k_no h1, r, A t2 j_no, q⟩
  · generalize hg1 : (if R.2.1 = 0 then va_up g 0 R.2.2.toInt64 else g) = g1 at e
    subst e9; subst e
    obtain ⟨h3, v, tm, s1, f3, m1, m2, m3⟩ := D (k_jn (b + 37) (b + 38) (fun _ => k_j 1 g1) h1)
    subst f3
    obtain ⟨h4, v4, tt, s2, f4, f5, f6⟩ := c_X12_thrown ok (b := b) (s := s1) (h := k_jn (b + 37) (b + 38) (fun _ => k_j 1 g1) h1)
    rw [f5] at f4
    subst f4
    rw [f6, m2] at tt
    obtain ⟨h9, r, jk, q⟩ := K s1 g1 h1 m1 W1 cn1
    have hv : nI R.2.1 = 0 → g1 0 = v.toInt64 := fun z => by
      have z0 : R.2.1 = 0 := (nI_eq (by omega) (by omega)).mp (show nI R.2.1 = nI 0 from z)
      rw [← hg1, if_pos z0, m3 z0]
      rfl
    exact ⟨h9, r, A t2 (j_aload_n dL_law_435 rfl rfl (x_arg (j := 1) dL_law_436 dL_law_437 dL_law_439 rfl dL_law_440 dL_law_441 rfl rfl hL (by omega) (x_arg (j := 2) dL_law_442 dL_law_443 dL_law_445 rfl dL_law_446 dL_law_447 rfl rfl hL (by omega) (x_arg (j := 3) dL_law_448 dL_law_449 dL_law_451 rfl dL_law_452 dL_law_453 rfl rfl hL (by omega) (x_arg (j := 4) dL_law_454 dL_law_455 dL_law_457 rfl dL_law_458 dL_law_459 rfl rfl hL (by omega) (x_bool dL_law_460 dL_law_463 dL_law_464 dL_law_467 (j_callV dL_law_468 kc_L_133 rfl rfl J_b (by decide) (Nat.le_of_ble_eq_true rfl) tm (x_tail kc_L_123 dL_law_471 dL_law_473 dL_law_474 dL_law_477 dL_law_479 dL_law_484 dL_law_486 dL_law_489 dL_law_490 dL_law_491 dL_law_492 dL_law_494 dL_law_495 dL_law_496 dL_law_501 rfl (J_b) tt J_out hv jk)))))))), q⟩
theorem case_rangeAt (ok : k_ok G l) (g0 : k_fh G = 0) {a b N w i : Nat} {B : Nat × Nat} {s : m_S} {g : Nat → Int64} {h : k_H} {R : s_M × Nat × Int32} {X : Nat → String} {Q : k_H → k_R → Prop} (hL : k_sL G < 2 ^ 31) (hi : i + 7 ≤ k_sL G) (hab : a < b) (ho : k_is h a 14) (cn : k_cn b (b + 38) h) (hb : b + 38 ≤ h.2.1) (hR : R.2.1 ≤ 3) (e1 : X 1 = x_IO) (e2 : X 2 = x_IA) (e3 : X 3 = x_IS)
    (C : k_ct (tX11_rangeAt (k_fG G b (b + 38)) l) [vR (some a), vI (k_sx G (i + 1)), vI (k_sx G (i + 2)), vI (k_sx G (i + 3)), vI (k_sx G (i + 4)), vI (k_sx G (i + 5))] h (c_R a B R X N w)) (D : ∀ h9, k_cti (tX12_rangeAt G l) [vR (some b), vI (k_sx G (i + 1)), vI (k_sx G (i + 2)), vI (k_sx G (i + 3)), vI (k_sx G (i + 4)), vI (k_sx G (i + 5))] (m_hp b s h9) (m_p b h9 (m_R R)))
    (K : ∀ s1 g1 h1, m_M s1 R.1 → c_W a B h1 R.1 N w → k_cn b (b + 38) h1 → k_X (jW G l nm h0) (c_J b s1 g1 h1) 2369 (lvW G a b i) [] Q) (Kn : ∀ h1, c_W a B h1 R.1 N w → ∃ r, Q (k_no h1) r) : k_X (jW G l nm h0) (c_J b s g h) 504 (lvW G a b i) [] Q := by
  have A : ∀ {h2 : k_H} {k : Int32} {h9 : k_H} {r : k_R}, tL_rangeAt G l [vR (some a), vI (k_sx G (i + 1)), vI (k_sx G (i + 2)), vI (k_sx G (i + 3)), vI (k_sx G (i + 4)), vI (k_sx G (i + 5)), vR (some (b + 37))] (c_J b s g h) h2 (.inl (some (vI k))) → jW G l nm h0 h2 541 (lvX G a b i k) [] h9 r → jW G l nm h0 (c_J b s g h) 504 (lvW G a b i) [] h9 r := fun t K => j_aload_n dL_law_504 rfl rfl (x_arg (j := 1) dL_law_505 dL_law_506 dL_law_508 rfl dL_law_509 dL_law_510 rfl rfl hL (by omega) (x_arg (j := 2) dL_law_511 dL_law_512 dL_law_514 rfl dL_law_515 dL_law_516 rfl rfl hL (by omega) (x_arg (j := 3) dL_law_517 dL_law_518 dL_law_520 rfl dL_law_521 dL_law_522 rfl rfl hL (by omega) (x_arg (j := 4) dL_law_523 dL_law_524 dL_law_526 rfl dL_law_527 dL_law_528 rfl rfl hL (by omega) (x_arg (j := 5) dL_law_529 dL_law_530 dL_law_532 rfl dL_law_533 dL_law_534 rfl rfl hL (by omega) (j_aload_n dL_law_535 rfl rfl (j_callW dL_law_536 kv_L_134 rfl rfl (by decide) (Nat.le_of_ble_eq_true rfl) t (j_istore dL_law_539 (by decide) rfl K))))))))
  obtain ⟨h2, r2, t2, e9, h1, W1, e | ⟨cn1, e⟩⟩ := L_rangeAt ok g0 hab ho cn hb hR e1 e2 e3 C
  · subst e9; subst e
    obtain ⟨r, q⟩ := Kn h1 W1
    exact ⟨k_no h1, r, A t2 j_no, q⟩
  · generalize hg1 : (if R.2.1 = 0 then va_up g 0 R.2.2.toInt64 else g) = g1 at e
    subst e9; subst e
    obtain ⟨h3, v, tm, s1, f3, m1, m2, m3⟩ := D (k_jn (b + 37) (b + 38) (fun _ => k_j 1 g1) h1)
    subst f3
    obtain ⟨h4, v4, tt, s2, f4, f5, f6⟩ := c_X12_thrown ok (b := b) (s := s1) (h := k_jn (b + 37) (b + 38) (fun _ => k_j 1 g1) h1)
    rw [f5] at f4
    subst f4
    rw [f6, m2] at tt
    obtain ⟨h9, r, jk, q⟩ := K s1 g1 h1 m1 W1 cn1
    have hv : nI R.2.1 = 0 → g1 0 = v.toInt64 := fun z => by
      have z0 : R.2.1 = 0 := (nI_eq (by omega) (by omega)).mp (show nI R.2.1 = nI 0 from z)
      rw [← hg1, if_pos z0, m3 z0]
      rfl
    exact ⟨h9, r, A t2 (j_aload_n dL_law_541 rfl rfl (x_arg (j := 1) dL_law_542 dL_law_543 dL_law_545 rfl dL_law_546 dL_law_547 rfl rfl hL (by omega) (x_arg (j := 2) dL_law_548 dL_law_549 dL_law_551 rfl dL_law_552 dL_law_553 rfl rfl hL (by omega) (x_arg (j := 3) dL_law_554 dL_law_555 dL_law_557 rfl dL_law_558 dL_law_559 rfl rfl hL (by omega) (x_arg (j := 4) dL_law_560 dL_law_561 dL_law_563 rfl dL_law_564 dL_law_565 rfl rfl hL (by omega) (x_arg (j := 5) dL_law_566 dL_law_567 dL_law_569 rfl dL_law_570 dL_law_571 rfl rfl hL (by omega) (j_callV dL_law_572 kc_L_137 rfl rfl J_b (by decide) (Nat.le_of_ble_eq_true rfl) tm (x_tail kc_L_123 dL_law_575 dL_law_577 dL_law_578 dL_law_581 dL_law_583 dL_law_588 dL_law_590 dL_law_593 dL_law_594 dL_law_595 dL_law_596 dL_law_598 dL_law_599 dL_law_600 dL_law_605 rfl (J_b) tt J_out hv jk)))))))), q⟩
theorem case_change (ok : k_ok G l) (g0 : k_fh G = 0) {a b N w i : Nat} {B : Nat × Nat} {s : m_S} {g : Nat → Int64} {h : k_H} {R : s_M × Nat × Int32} {X : Nat → String} {Q : k_H → k_R → Prop} (hL : k_sL G < 2 ^ 31) (hi : i + 7 ≤ k_sL G) (hab : a < b) (ho : k_is h a 14) (cn : k_cn b (b + 38) h) (hb : b + 38 ≤ h.2.1) (hR : R.2.1 ≤ 3) (e1 : X 1 = x_IO) (e2 : X 2 = x_IA) (e3 : X 3 = x_IS)
    (C : k_ct (tX11_change (k_fG G b (b + 38)) l) [vR (some a), vI (k_sx G (i + 1)), vI (k_sx G (i + 2)), vI (k_sx G (i + 3)), vI (k_sx G (i + 4)), vI (k_sx G (i + 5)), vI (k_sx G (i + 6))] h (c_R a B R X N w)) (D : ∀ h9, k_cti (tX12_change G l) [vR (some b), vI (k_sx G (i + 1)), vI (k_sx G (i + 2)), vI (k_sx G (i + 3)), vI (k_sx G (i + 4)), vI (k_sx G (i + 5)), vI (k_sx G (i + 6))] (m_hp b s h9) (m_p b h9 (m_R R)))
    (K : ∀ s1 g1 h1, m_M s1 R.1 → c_W a B h1 R.1 N w → k_cn b (b + 38) h1 → k_X (jW G l nm h0) (c_J b s1 g1 h1) 2369 (lvW G a b i) [] Q) (Kn : ∀ h1, c_W a B h1 R.1 N w → ∃ r, Q (k_no h1) r) : k_X (jW G l nm h0) (c_J b s g h) 608 (lvW G a b i) [] Q := by
  have A : ∀ {h2 : k_H} {k : Int32} {h9 : k_H} {r : k_R}, tL_change G l [vR (some a), vI (k_sx G (i + 1)), vI (k_sx G (i + 2)), vI (k_sx G (i + 3)), vI (k_sx G (i + 4)), vI (k_sx G (i + 5)), vI (k_sx G (i + 6)), vR (some (b + 37))] (c_J b s g h) h2 (.inl (some (vI k))) → jW G l nm h0 h2 652 (lvX G a b i k) [] h9 r → jW G l nm h0 (c_J b s g h) 608 (lvW G a b i) [] h9 r := fun t K => j_aload_n dL_law_608 rfl rfl (x_arg (j := 1) dL_law_609 dL_law_610 dL_law_612 rfl dL_law_613 dL_law_614 rfl rfl hL (by omega) (x_arg (j := 2) dL_law_615 dL_law_616 dL_law_618 rfl dL_law_619 dL_law_620 rfl rfl hL (by omega) (x_arg (j := 3) dL_law_621 dL_law_622 dL_law_624 rfl dL_law_625 dL_law_626 rfl rfl hL (by omega) (x_arg (j := 4) dL_law_627 dL_law_628 dL_law_630 rfl dL_law_631 dL_law_632 rfl rfl hL (by omega) (x_arg (j := 5) dL_law_633 dL_law_634 dL_law_636 rfl dL_law_637 dL_law_638 rfl rfl hL (by omega) (x_arg6 (j := 6) dL_law_639 dL_law_640 dL_law_642 rfl dL_law_644 dL_law_645 rfl rfl hL (by omega) (j_aload_n dL_law_646 rfl rfl (j_callW dL_law_647 kv_L_138 rfl rfl (by decide) (Nat.le_of_ble_eq_true rfl) t (j_istore dL_law_650 (by decide) rfl K)))))))))
  obtain ⟨h2, r2, t2, e9, h1, W1, e | ⟨cn1, e⟩⟩ := L_change ok g0 hab ho cn hb hR e1 e2 e3 C
  · subst e9; subst e
    obtain ⟨r, q⟩ := Kn h1 W1
    exact ⟨k_no h1, r, A t2 j_no, q⟩
  · generalize hg1 : (if R.2.1 = 0 then va_up g 0 R.2.2.toInt64 else g) = g1 at e
    subst e9; subst e
    obtain ⟨h3, v, tm, s1, f3, m1, m2, m3⟩ := D (k_jn (b + 37) (b + 38) (fun _ => k_j 1 g1) h1)
    subst f3
    obtain ⟨h4, v4, tt, s2, f4, f5, f6⟩ := c_X12_thrown ok (b := b) (s := s1) (h := k_jn (b + 37) (b + 38) (fun _ => k_j 1 g1) h1)
    rw [f5] at f4
    subst f4
    rw [f6, m2] at tt
    obtain ⟨h9, r, jk, q⟩ := K s1 g1 h1 m1 W1 cn1
    have hv : nI R.2.1 = 0 → g1 0 = v.toInt64 := fun z => by
      have z0 : R.2.1 = 0 := (nI_eq (by omega) (by omega)).mp (show nI R.2.1 = nI 0 from z)
      rw [← hg1, if_pos z0, m3 z0]
      rfl
    exact ⟨h9, r, A t2 (j_aload_n dL_law_652 rfl rfl (x_arg (j := 1) dL_law_653 dL_law_654 dL_law_656 rfl dL_law_657 dL_law_658 rfl rfl hL (by omega) (x_arg (j := 2) dL_law_659 dL_law_660 dL_law_662 rfl dL_law_663 dL_law_664 rfl rfl hL (by omega) (x_arg (j := 3) dL_law_665 dL_law_666 dL_law_668 rfl dL_law_669 dL_law_670 rfl rfl hL (by omega) (x_arg (j := 4) dL_law_671 dL_law_672 dL_law_674 rfl dL_law_675 dL_law_676 rfl rfl hL (by omega) (x_arg (j := 5) dL_law_677 dL_law_678 dL_law_680 rfl dL_law_681 dL_law_682 rfl rfl hL (by omega) (x_arg6 (j := 6) dL_law_683 dL_law_684 dL_law_686 rfl dL_law_688 dL_law_689 rfl rfl hL (by omega) (j_callV dL_law_690 kc_L_141 rfl rfl J_b (by decide) (Nat.le_of_ble_eq_true rfl) tm (x_tail kc_L_123 dL_law_693 dL_law_695 dL_law_696 dL_law_699 dL_law_701 dL_law_706 dL_law_708 dL_law_711 dL_law_712 dL_law_713 dL_law_714 dL_law_716 dL_law_717 dL_law_718 dL_law_723 rfl (J_b) tt J_out hv jk))))))))), q⟩
theorem case_clear (ok : k_ok G l) (g0 : k_fh G = 0) {a b N w i : Nat} {B : Nat × Nat} {s : m_S} {g : Nat → Int64} {h : k_H} {R : s_M × Nat × Int32} {X : Nat → String} {Q : k_H → k_R → Prop} (hL : k_sL G < 2 ^ 31) (hi : i + 7 ≤ k_sL G) (hab : a < b) (ho : k_is h a 14) (cn : k_cn b (b + 38) h) (hb : b + 38 ≤ h.2.1) (hR : R.2.1 ≤ 3) (e1 : X 1 = x_IO) (e2 : X 2 = x_IA) (e3 : X 3 = x_IS)
    (C : k_ct (tX11_clear (k_fG G b (b + 38)) l) [vR (some a), vI (k_sx G (i + 1)), vI (k_sx G (i + 2)), vI (k_sx G (i + 3))] h (c_R a B R X N w)) (D : ∀ h9, k_cti (tX12_clear G l) [vR (some b), vI (k_sx G (i + 1)), vI (k_sx G (i + 2)), vI (k_sx G (i + 3))] (m_hp b s h9) (m_p b h9 (m_R R)))
    (K : ∀ s1 g1 h1, m_M s1 R.1 → c_W a B h1 R.1 N w → k_cn b (b + 38) h1 → k_X (jW G l nm h0) (c_J b s1 g1 h1) 2369 (lvW G a b i) [] Q) (Kn : ∀ h1, c_W a B h1 R.1 N w → ∃ r, Q (k_no h1) r) : k_X (jW G l nm h0) (c_J b s g h) 726 (lvW G a b i) [] Q := by
  have A : ∀ {h2 : k_H} {k : Int32} {h9 : k_H} {r : k_R}, tL_clear G l [vR (some a), vI (k_sx G (i + 1)), vI (k_sx G (i + 2)), vI (k_sx G (i + 3)), vR (some (b + 37))] (c_J b s g h) h2 (.inl (some (vI k))) → jW G l nm h0 h2 751 (lvX G a b i k) [] h9 r → jW G l nm h0 (c_J b s g h) 726 (lvW G a b i) [] h9 r := fun t K => j_aload_n dL_law_726 rfl rfl (x_arg (j := 1) dL_law_727 dL_law_728 dL_law_730 rfl dL_law_731 dL_law_732 rfl rfl hL (by omega) (x_arg (j := 2) dL_law_733 dL_law_734 dL_law_736 rfl dL_law_737 dL_law_738 rfl rfl hL (by omega) (x_arg (j := 3) dL_law_739 dL_law_740 dL_law_742 rfl dL_law_743 dL_law_744 rfl rfl hL (by omega) (j_aload_n dL_law_745 rfl rfl (j_callW dL_law_746 kv_L_142 rfl rfl (by decide) (Nat.le_of_ble_eq_true rfl) t (j_istore dL_law_749 (by decide) rfl K))))))
  obtain ⟨h2, r2, t2, e9, h1, W1, e | ⟨cn1, e⟩⟩ := L_clear ok g0 hab ho cn hb hR e1 e2 e3 C
  · subst e9; subst e
    obtain ⟨r, q⟩ := Kn h1 W1
    exact ⟨k_no h1, r, A t2 j_no, q⟩
  · generalize hg1 : (if R.2.1 = 0 then va_up g 0 R.2.2.toInt64 else g) = g1 at e
    subst e9; subst e
    obtain ⟨h3, v, tm, s1, f3, m1, m2, m3⟩ := D (k_jn (b + 37) (b + 38) (fun _ => k_j 1 g1) h1)
    subst f3
    obtain ⟨h4, v4, tt, s2, f4, f5, f6⟩ := c_X12_thrown ok (b := b) (s := s1) (h := k_jn (b + 37) (b + 38) (fun _ => k_j 1 g1) h1)
    rw [f5] at f4
    subst f4
    rw [f6, m2] at tt
    obtain ⟨h9, r, jk, q⟩ := K s1 g1 h1 m1 W1 cn1
    have hv : nI R.2.1 = 0 → g1 0 = v.toInt64 := fun z => by
      have z0 : R.2.1 = 0 := (nI_eq (by omega) (by omega)).mp (show nI R.2.1 = nI 0 from z)
      rw [← hg1, if_pos z0, m3 z0]
      rfl
    exact ⟨h9, r, A t2 (j_aload_n dL_law_751 rfl rfl (x_arg (j := 1) dL_law_752 dL_law_753 dL_law_755 rfl dL_law_756 dL_law_757 rfl rfl hL (by omega) (x_arg (j := 2) dL_law_758 dL_law_759 dL_law_761 rfl dL_law_762 dL_law_763 rfl rfl hL (by omega) (x_arg (j := 3) dL_law_764 dL_law_765 dL_law_767 rfl dL_law_768 dL_law_769 rfl rfl hL (by omega) (j_callV dL_law_770 kc_L_145 rfl rfl J_b (by decide) (Nat.le_of_ble_eq_true rfl) tm (x_tail kc_L_123 dL_law_773 dL_law_775 dL_law_776 dL_law_779 dL_law_781 dL_law_786 dL_law_788 dL_law_791 dL_law_792 dL_law_793 dL_law_794 dL_law_796 dL_law_797 dL_law_798 dL_law_803 rfl (J_b) tt J_out hv jk)))))), q⟩
theorem case_commit (ok : k_ok G l) (g0 : k_fh G = 0) {a b N w i : Nat} {B : Nat × Nat} {s : m_S} {g : Nat → Int64} {h : k_H} {R : s_M × Nat × Int32} {X : Nat → String} {Q : k_H → k_R → Prop} (hL : k_sL G < 2 ^ 31) (hi : i + 7 ≤ k_sL G) (hab : a < b) (ho : k_is h a 14) (cn : k_cn b (b + 38) h) (hb : b + 38 ≤ h.2.1) (hR : R.2.1 ≤ 2) (e1 : X 1 = x_IO) (e2 : X 2 = x_IS)
    (C : k_ct (tX11_commit (k_fG G b (b + 38)) l) [vR (some a), vI (k_sx G (i + 1))] h (c_R a B R X N w)) (D : ∀ h9, k_cti (tX12_commit G l) [vR (some b), vI (k_sx G (i + 1))] (m_hp b s h9) (m_p b h9 (m_R R)))
    (K : ∀ s1 g1 h1, m_M s1 R.1 → c_W a B h1 R.1 N w → k_cn b (b + 38) h1 → k_X (jW G l nm h0) (c_J b s1 g1 h1) 2369 (lvW G a b i) [] Q) (Kn : ∀ h1, c_W a B h1 R.1 N w → ∃ r, Q (k_no h1) r) : k_X (jW G l nm h0) (c_J b s g h) 806 (lvW G a b i) [] Q := by
  have A : ∀ {h2 : k_H} {k : Int32} {h9 : k_H} {r : k_R}, tL_commit G l [vR (some a), vI (k_sx G (i + 1)), vR (some (b + 37))] (c_J b s g h) h2 (.inl (some (vI k))) → jW G l nm h0 h2 819 (lvX G a b i k) [] h9 r → jW G l nm h0 (c_J b s g h) 806 (lvW G a b i) [] h9 r := fun t K => j_aload_n dL_law_806 rfl rfl (x_arg (j := 1) dL_law_807 dL_law_808 dL_law_810 rfl dL_law_811 dL_law_812 rfl rfl hL (by omega) (j_aload_n dL_law_813 rfl rfl (j_callW dL_law_814 kv_L_146 rfl rfl (by decide) (Nat.le_of_ble_eq_true rfl) t (j_istore dL_law_817 (by decide) rfl K))))
  obtain ⟨h2, r2, t2, e9, h1, W1, e | ⟨cn1, e⟩⟩ := L_commit ok g0 hab ho cn hb hR e1 e2 C
  · subst e9; subst e
    obtain ⟨r, q⟩ := Kn h1 W1
    exact ⟨k_no h1, r, A t2 j_no, q⟩
  · generalize hg1 : (if R.2.1 = 0 then va_up g 0 R.2.2.toInt64 else g) = g1 at e
    subst e9; subst e
    obtain ⟨h3, v, tm, s1, f3, m1, m2, m3⟩ := D (k_jn (b + 37) (b + 38) (fun _ => k_j 1 g1) h1)
    subst f3
    obtain ⟨h4, v4, tt, s2, f4, f5, f6⟩ := c_X12_thrown ok (b := b) (s := s1) (h := k_jn (b + 37) (b + 38) (fun _ => k_j 1 g1) h1)
    rw [f5] at f4
    subst f4
    rw [f6, m2] at tt
    obtain ⟨h9, r, jk, q⟩ := K s1 g1 h1 m1 W1 cn1
    have hv : nI R.2.1 = 0 → g1 0 = v.toInt64 := fun z => by
      have z0 : R.2.1 = 0 := (nI_eq (by omega) (by omega)).mp (show nI R.2.1 = nI 0 from z)
      rw [← hg1, if_pos z0, m3 z0]
      rfl
    exact ⟨h9, r, A t2 (j_aload_n dL_law_819 rfl rfl (x_arg (j := 1) dL_law_820 dL_law_821 dL_law_823 rfl dL_law_824 dL_law_825 rfl rfl hL (by omega) (j_callV dL_law_826 kc_L_149 rfl rfl J_b (by decide) (Nat.le_of_ble_eq_true rfl) tm (x_tail kc_L_123 dL_law_829 dL_law_831 dL_law_832 dL_law_835 dL_law_837 dL_law_842 dL_law_844 dL_law_847 dL_law_848 dL_law_849 dL_law_850 dL_law_852 dL_law_853 dL_law_854 dL_law_859 rfl (J_b) tt J_out hv jk)))), q⟩
theorem case_why (ok : k_ok G l) (g0 : k_fh G = 0) {a b N w i : Nat} {B : Nat × Nat} {s : m_S} {g : Nat → Int64} {h : k_H} {R : s_M × Nat × Int32} {X : Nat → String} {Q : k_H → k_R → Prop} (hL : k_sL G < 2 ^ 31) (hi : i + 7 ≤ k_sL G) (hab : a < b) (ho : k_is h a 14) (cn : k_cn b (b + 38) h) (hb : b + 38 ≤ h.2.1) (hR : R.2.1 = 0)
    (C : k_ct (tX11_why (k_fG G b (b + 38)) l) [vR (some a)] h (c_R a B R X N w)) (D : ∀ h9, k_cti (tX12_why G l) [vR (some b)] (m_hp b s h9) (m_p b h9 (m_R R)))
    (K : ∀ s1 g1 h1, m_M s1 R.1 → c_W a B h1 R.1 N w → k_cn b (b + 38) h1 → k_X (jW G l nm h0) (c_J b s1 g1 h1) 2369 (lvW G a b i) [] Q) (Kn : ∀ h1, c_W a B h1 R.1 N w → ∃ r, Q (k_no h1) r) : k_X (jW G l nm h0) (c_J b s g h) 862 (lvW G a b i) [] Q := by
  obtain ⟨h1, r1, C1, W1, rfl⟩ := C
  rw [if_pos hR] at C1
  have A : ∀ {h2 : k_H} {h9 : k_H} {r : k_R}, tX11_why G l [vR (some a)] (c_J b s g h) h2 (.inl (some (vI R.2.2))) → jW G l nm h0 h2 866 (lvW G a b i) [vI R.2.2] h9 r → jW G l nm h0 (c_J b s g h) 862 (lvW G a b i) [] h9 r := fun t K => j_aload_n dL_law_862 rfl rfl (j_callV dL_law_863 kc_L_150 rfl rfl (J_is hab ho) (by decide) (Nat.le_of_ble_eq_true rfl) t K)
  rcases J_fro (s := s) (g := g) g0 cn hb C1 with ⟨cn1, t2⟩ | t2
  · obtain ⟨h3, v, tm, s1, f3, m1, m2, m3⟩ := D (k_jn (b + 37) (b + 38) (fun _ => k_j 1 g) h1)
    subst f3
    obtain ⟨h9, r, jk, q⟩ := K s1 g h1 m1 W1 cn1
    exact ⟨h9, r, A t2 (j_aload_n dL_law_866 rfl rfl (j_callV dL_law_867 kc_L_153 rfl rfl J_b (by decide) (Nat.le_of_ble_eq_true rfl) tm (j_icmp_eq_t (tgt := 2369) dL_law_870 (by decide) (m3 hR).symm jk))), q⟩
  · obtain ⟨r, q⟩ := Kn h1 W1
    exact ⟨k_no h1, r, A t2 j_no, q⟩
theorem case_lose (ok : k_ok G l) (g0 : k_fh G = 0) {a b N w i : Nat} {B : Nat × Nat} {s : m_S} {g : Nat → Int64} {h : k_H} {R : s_M × Nat × Int32} {X : Nat → String} {Q : k_H → k_R → Prop} (hL : k_sL G < 2 ^ 31) (hi : i + 7 ≤ k_sL G) (hab : a < b) (ho : k_is h a 14) (cn : k_cn b (b + 38) h) (hb : b + 38 ≤ h.2.1) (hR : R.2.1 = 0)
    (C : k_ct (tX11_lose (k_fG G b (b + 38)) l) [vR (some a), vI (kB (decide (¬ k_sx G (i + 1) = 0)))] h (c_Rv a B R X N w)) (D : ∀ h9, k_ctv (tX12_lose G l) [vR (some b), vI (kB (decide (¬ k_sx G (i + 1) = 0)))] (m_hp b s h9) (m_pv b h9 (fun s1 => m_R R s1 0)))
    (K : ∀ s1 g1 h1, m_M s1 R.1 → c_W a B h1 R.1 N w → k_cn b (b + 38) h1 → k_X (jW G l nm h0) (c_J b s1 g1 h1) 2369 (lvW G a b i) [] Q) (Kn : ∀ h1, c_W a B h1 R.1 N w → ∃ r, Q (k_no h1) r) : k_X (jW G l nm h0) (c_J b s g h) 875 (lvW G a b i) [] Q := by
  obtain ⟨h1, r1, C1, W1, rfl⟩ := C
  rw [if_pos hR] at C1
  have A : ∀ {h2 : k_H} {h9 : k_H} {r : k_R}, tX11_lose G l [vR (some a), vI (kB (decide (¬ k_sx G (i + 1) = 0)))] (c_J b s g h) h2 (.inl (none)) → jW G l nm h0 h2 893 (lvW G a b i) [] h9 r → jW G l nm h0 (c_J b s g h) 875 (lvW G a b i) [] h9 r := fun t K => j_aload_n dL_law_875 rfl rfl (x_arg (j := 1) dL_law_876 dL_law_877 dL_law_879 rfl dL_law_880 dL_law_881 rfl rfl hL (by omega) (x_bool dL_law_882 dL_law_885 dL_law_886 dL_law_889 (j_callV dL_law_890 kc_L_154 rfl rfl (J_is hab ho) (by decide) (Nat.le_of_ble_eq_true rfl) t K)))
  rcases J_fro (s := s) (g := g) g0 cn hb C1 with ⟨cn1, t2⟩ | t2
  · obtain ⟨h3, tm, s1, f3, m1, m2, m3⟩ := D (k_jn (b + 37) (b + 38) (fun _ => k_j 1 g) h1)
    subst f3
    obtain ⟨h9, r, jk, q⟩ := K s1 g h1 m1 W1 cn1
    exact ⟨h9, r, A t2 (j_aload_n dL_law_893 rfl rfl (x_arg (j := 1) dL_law_894 dL_law_895 dL_law_897 rfl dL_law_898 dL_law_899 rfl rfl hL (by omega) (x_bool dL_law_900 dL_law_903 dL_law_904 dL_law_907 (j_callV dL_law_908 kc_L_158 rfl rfl J_b (by decide) (Nat.le_of_ble_eq_true rfl) tm (j_goto (tgt := 2369) dL_law_911 (by decide) jk))))), q⟩
  · obtain ⟨r, q⟩ := Kn h1 W1
    exact ⟨k_no h1, r, A t2 j_no, q⟩
theorem case_recover (ok : k_ok G l) (g0 : k_fh G = 0) {a b N w i : Nat} {B : Nat × Nat} {s : m_S} {g : Nat → Int64} {h : k_H} {R : s_M × Nat × Int32} {X : Nat → String} {Q : k_H → k_R → Prop} (hL : k_sL G < 2 ^ 31) (hi : i + 7 ≤ k_sL G) (hab : a < b) (ho : k_is h a 14) (cn : k_cn b (b + 38) h) (hb : b + 38 ≤ h.2.1) (hR : R.2.1 = 0)
    (C : k_ct (tX11_recover (k_fG G b (b + 38)) l) [vR (some a)] h (c_R a B R X N w)) (D : ∀ h9, k_cti (tX12_recover G l) [vR (some b)] (m_hp b s h9) (m_p b h9 (m_R R)))
    (K : ∀ s1 g1 h1, m_M s1 R.1 → c_W a B h1 R.1 N w → k_cn b (b + 38) h1 → k_X (jW G l nm h0) (c_J b s1 g1 h1) 2369 (lvW G a b i) [] Q) (Kn : ∀ h1, c_W a B h1 R.1 N w → ∃ r, Q (k_no h1) r) : k_X (jW G l nm h0) (c_J b s g h) 914 (lvW G a b i) [] Q := by
  obtain ⟨h1, r1, C1, W1, rfl⟩ := C
  rw [if_pos hR] at C1
  have A : ∀ {h2 : k_H} {h9 : k_H} {r : k_R}, tX11_recover G l [vR (some a)] (c_J b s g h) h2 (.inl (some (vI R.2.2))) → jW G l nm h0 h2 918 (lvW G a b i) [vI R.2.2] h9 r → jW G l nm h0 (c_J b s g h) 914 (lvW G a b i) [] h9 r := fun t K => j_aload_n dL_law_914 rfl rfl (j_callV dL_law_915 kc_L_159 rfl rfl (J_is hab ho) (by decide) (Nat.le_of_ble_eq_true rfl) t K)
  rcases J_fro (s := s) (g := g) g0 cn hb C1 with ⟨cn1, t2⟩ | t2
  · obtain ⟨h3, v, tm, s1, f3, m1, m2, m3⟩ := D (k_jn (b + 37) (b + 38) (fun _ => k_j 1 g) h1)
    subst f3
    obtain ⟨h9, r, jk, q⟩ := K s1 g h1 m1 W1 cn1
    exact ⟨h9, r, A t2 (j_aload_n dL_law_918 rfl rfl (j_callV dL_law_919 kc_L_162 rfl rfl J_b (by decide) (Nat.le_of_ble_eq_true rfl) tm (j_icmp_eq_t (tgt := 2369) dL_law_922 (by decide) (m3 hR).symm jk))), q⟩
  · obtain ⟨r, q⟩ := Kn h1 W1
    exact ⟨k_no h1, r, A t2 j_no, q⟩
theorem case_pass (ok : k_ok G l) (g0 : k_fh G = 0) {a b N w i : Nat} {B : Nat × Nat} {s : m_S} {g : Nat → Int64} {h : k_H} {R : s_M × Nat × Int32} {X : Nat → String} {Q : k_H → k_R → Prop} (hL : k_sL G < 2 ^ 31) (hi : i + 7 ≤ k_sL G) (hab : a < b) (ho : k_is h a 14) (cn : k_cn b (b + 38) h) (hb : b + 38 ≤ h.2.1) (hR : R.2.1 ≤ 1) (e1 : X 1 = x_IA)
    (C : k_ct (tX11_pass (k_fG G b (b + 38)) l) [vR (some a), vI (k_sx G (i + 1))] h (c_R a B R X N w)) (D : ∀ h9, k_cti (tX12_pass G l) [vR (some b), vI (k_sx G (i + 1))] (m_hp b s h9) (m_p b h9 (m_R R)))
    (K : ∀ s1 g1 h1, m_M s1 R.1 → c_W a B h1 R.1 N w → k_cn b (b + 38) h1 → k_X (jW G l nm h0) (c_J b s1 g1 h1) 2369 (lvW G a b i) [] Q) (Kn : ∀ h1, c_W a B h1 R.1 N w → ∃ r, Q (k_no h1) r) : k_X (jW G l nm h0) (c_J b s g h) 927 (lvW G a b i) [] Q := by
  have A : ∀ {h2 : k_H} {k : Int32} {h9 : k_H} {r : k_R}, tL_pass G l [vR (some a), vI (k_sx G (i + 1)), vR (some (b + 37))] (c_J b s g h) h2 (.inl (some (vI k))) → jW G l nm h0 h2 940 (lvX G a b i k) [] h9 r → jW G l nm h0 (c_J b s g h) 927 (lvW G a b i) [] h9 r := fun t K => j_aload_n dL_law_927 rfl rfl (x_arg (j := 1) dL_law_928 dL_law_929 dL_law_931 rfl dL_law_932 dL_law_933 rfl rfl hL (by omega) (j_aload_n dL_law_934 rfl rfl (j_callW dL_law_935 kv_L_163 rfl rfl (by decide) (Nat.le_of_ble_eq_true rfl) t (j_istore dL_law_938 (by decide) rfl K))))
  obtain ⟨h2, r2, t2, e9, h1, W1, e | ⟨cn1, e⟩⟩ := L_pass ok g0 hab ho cn hb hR e1 C
  · subst e9; subst e
    obtain ⟨r, q⟩ := Kn h1 W1
    exact ⟨k_no h1, r, A t2 j_no, q⟩
  · generalize hg1 : (if R.2.1 = 0 then va_up g 0 R.2.2.toInt64 else g) = g1 at e
    subst e9; subst e
    obtain ⟨h3, v, tm, s1, f3, m1, m2, m3⟩ := D (k_jn (b + 37) (b + 38) (fun _ => k_j 1 g1) h1)
    subst f3
    obtain ⟨h4, v4, tt, s2, f4, f5, f6⟩ := c_X12_thrown ok (b := b) (s := s1) (h := k_jn (b + 37) (b + 38) (fun _ => k_j 1 g1) h1)
    rw [f5] at f4
    subst f4
    rw [f6, m2] at tt
    obtain ⟨h9, r, jk, q⟩ := K s1 g1 h1 m1 W1 cn1
    have hv : nI R.2.1 = 0 → g1 0 = v.toInt64 := fun z => by
      have z0 : R.2.1 = 0 := (nI_eq (by omega) (by omega)).mp (show nI R.2.1 = nI 0 from z)
      rw [← hg1, if_pos z0, m3 z0]
      rfl
    exact ⟨h9, r, A t2 (j_aload_n dL_law_940 rfl rfl (x_arg (j := 1) dL_law_941 dL_law_942 dL_law_944 rfl dL_law_945 dL_law_946 rfl rfl hL (by omega) (j_callV dL_law_947 kc_L_165 rfl rfl J_b (by decide) (Nat.le_of_ble_eq_true rfl) tm (x_tail kc_L_123 dL_law_950 dL_law_952 dL_law_953 dL_law_956 dL_law_958 dL_law_963 dL_law_965 dL_law_968 dL_law_969 dL_law_970 dL_law_971 dL_law_973 dL_law_974 dL_law_975 dL_law_980 rfl (J_b) tt J_out hv jk)))), q⟩
theorem case_value (ok : k_ok G l) (g0 : k_fh G = 0) {a b N w i : Nat} {B : Nat × Nat} {s : m_S} {g : Nat → Int64} {h : k_H} {R : s_M × Nat × Int32} {X : Nat → String} {Q : k_H → k_R → Prop} (hL : k_sL G < 2 ^ 31) (hi : i + 7 ≤ k_sL G) (hab : a < b) (ho : k_is h a 14) (cn : k_cn b (b + 38) h) (hb : b + 38 ≤ h.2.1) (hR : R.2.1 ≤ 1) (e1 : X 1 = x_IA)
    (C : k_ct (tX11_value (k_fG G b (b + 38)) l) [vR (some a), vI (k_sx G (i + 1)), vI (k_sx G (i + 2)), vI (k_sx G (i + 3)), vI (k_sx G (i + 4))] h (c_R a B R X N w)) (D : ∀ h9, k_cti (tX12_value G l) [vR (some b), vI (k_sx G (i + 1)), vI (k_sx G (i + 2)), vI (k_sx G (i + 3)), vI (k_sx G (i + 4))] (m_hp b s h9) (m_p b h9 (m_R R)))
    (K : ∀ s1 g1 h1, m_M s1 R.1 → c_W a B h1 R.1 N w → k_cn b (b + 38) h1 → k_X (jW G l nm h0) (c_J b s1 g1 h1) 2369 (lvW G a b i) [] Q) (Kn : ∀ h1, c_W a B h1 R.1 N w → ∃ r, Q (k_no h1) r) : k_X (jW G l nm h0) (c_J b s g h) 983 (lvW G a b i) [] Q := by
  have A : ∀ {h2 : k_H} {k : Int32} {h9 : k_H} {r : k_R}, tL_value G l [vR (some a), vI (k_sx G (i + 1)), vI (k_sx G (i + 2)), vI (k_sx G (i + 3)), vI (k_sx G (i + 4)), vR (some (b + 37))] (c_J b s g h) h2 (.inl (some (vI k))) → jW G l nm h0 h2 1014 (lvX G a b i k) [] h9 r → jW G l nm h0 (c_J b s g h) 983 (lvW G a b i) [] h9 r := fun t K => j_aload_n dL_law_983 rfl rfl (x_arg (j := 1) dL_law_984 dL_law_985 dL_law_987 rfl dL_law_988 dL_law_989 rfl rfl hL (by omega) (x_arg (j := 2) dL_law_990 dL_law_991 dL_law_993 rfl dL_law_994 dL_law_995 rfl rfl hL (by omega) (x_arg (j := 3) dL_law_996 dL_law_997 dL_law_999 rfl dL_law_1000 dL_law_1001 rfl rfl hL (by omega) (x_arg (j := 4) dL_law_1002 dL_law_1003 dL_law_1005 rfl dL_law_1006 dL_law_1007 rfl rfl hL (by omega) (j_aload_n dL_law_1008 rfl rfl (j_callW dL_law_1009 kv_L_166 rfl rfl (by decide) (Nat.le_of_ble_eq_true rfl) t (j_istore dL_law_1012 (by decide) rfl K)))))))
  obtain ⟨h2, r2, t2, e9, h1, W1, e | ⟨cn1, e⟩⟩ := L_value ok g0 hab ho cn hb hR e1 C
  · subst e9; subst e
    obtain ⟨r, q⟩ := Kn h1 W1
    exact ⟨k_no h1, r, A t2 j_no, q⟩
  · generalize hg1 : (if R.2.1 = 0 then va_up g 0 R.2.2.toInt64 else g) = g1 at e
    subst e9; subst e
    obtain ⟨h3, v, tm, s1, f3, m1, m2, m3⟩ := D (k_jn (b + 37) (b + 38) (fun _ => k_j 1 g1) h1)
    subst f3
    obtain ⟨h4, v4, tt, s2, f4, f5, f6⟩ := c_X12_thrown ok (b := b) (s := s1) (h := k_jn (b + 37) (b + 38) (fun _ => k_j 1 g1) h1)
    rw [f5] at f4
    subst f4
    rw [f6, m2] at tt
    obtain ⟨h9, r, jk, q⟩ := K s1 g1 h1 m1 W1 cn1
    have hv : nI R.2.1 = 0 → g1 0 = v.toInt64 := fun z => by
      have z0 : R.2.1 = 0 := (nI_eq (by omega) (by omega)).mp (show nI R.2.1 = nI 0 from z)
      rw [← hg1, if_pos z0, m3 z0]
      rfl
    exact ⟨h9, r, A t2 (j_aload_n dL_law_1014 rfl rfl (x_arg (j := 1) dL_law_1015 dL_law_1016 dL_law_1018 rfl dL_law_1019 dL_law_1020 rfl rfl hL (by omega) (x_arg (j := 2) dL_law_1021 dL_law_1022 dL_law_1024 rfl dL_law_1025 dL_law_1026 rfl rfl hL (by omega) (x_arg (j := 3) dL_law_1027 dL_law_1028 dL_law_1030 rfl dL_law_1031 dL_law_1032 rfl rfl hL (by omega) (x_arg (j := 4) dL_law_1033 dL_law_1034 dL_law_1036 rfl dL_law_1037 dL_law_1038 rfl rfl hL (by omega) (j_callV dL_law_1039 kc_L_169 rfl rfl J_b (by decide) (Nat.le_of_ble_eq_true rfl) tm (x_tail kc_L_123 dL_law_1042 dL_law_1044 dL_law_1045 dL_law_1048 dL_law_1050 dL_law_1055 dL_law_1057 dL_law_1060 dL_law_1061 dL_law_1062 dL_law_1063 dL_law_1065 dL_law_1066 dL_law_1067 dL_law_1072 rfl (J_b) tt J_out hv jk))))))), q⟩
theorem case_packed (ok : k_ok G l) (g0 : k_fh G = 0) {a b N w i : Nat} {B : Nat × Nat} {s : m_S} {g : Nat → Int64} {h : k_H} {R : s_M × Nat × Int32} {X : Nat → String} {Q : k_H → k_R → Prop} (hL : k_sL G < 2 ^ 31) (hi : i + 7 ≤ k_sL G) (hab : a < b) (ho : k_is h a 14) (cn : k_cn b (b + 38) h) (hb : b + 38 ≤ h.2.1) (hR : R.2.1 ≤ 2) (e1 : X 1 = x_IO) (e2 : X 2 = x_IA)
    (C : k_ct (tX11_packed (k_fG G b (b + 38)) l) [vR (some a), vI (k_sx G (i + 1)), vI (k_sx G (i + 2)), vI (k_sx G (i + 3)), vI (k_sx G (i + 4))] h (c_R a B R X N w)) (D : ∀ h9, k_cti (tX12_packed G l) [vR (some b), vI (k_sx G (i + 1)), vI (k_sx G (i + 2)), vI (k_sx G (i + 3)), vI (k_sx G (i + 4))] (m_hp b s h9) (m_p b h9 (m_R R)))
    (K : ∀ s1 g1 h1, m_M s1 R.1 → c_W a B h1 R.1 N w → k_cn b (b + 38) h1 → k_X (jW G l nm h0) (c_J b s1 g1 h1) 2369 (lvW G a b i) [] Q) (Kn : ∀ h1, c_W a B h1 R.1 N w → ∃ r, Q (k_no h1) r) : k_X (jW G l nm h0) (c_J b s g h) 1075 (lvW G a b i) [] Q := by
  have A : ∀ {h2 : k_H} {k : Int32} {h9 : k_H} {r : k_R}, tL_packed G l [vR (some a), vI (k_sx G (i + 1)), vI (k_sx G (i + 2)), vI (k_sx G (i + 3)), vI (k_sx G (i + 4)), vR (some (b + 37))] (c_J b s g h) h2 (.inl (some (vI k))) → jW G l nm h0 h2 1106 (lvX G a b i k) [] h9 r → jW G l nm h0 (c_J b s g h) 1075 (lvW G a b i) [] h9 r := fun t K => j_aload_n dL_law_1075 rfl rfl (x_arg (j := 1) dL_law_1076 dL_law_1077 dL_law_1079 rfl dL_law_1080 dL_law_1081 rfl rfl hL (by omega) (x_arg (j := 2) dL_law_1082 dL_law_1083 dL_law_1085 rfl dL_law_1086 dL_law_1087 rfl rfl hL (by omega) (x_arg (j := 3) dL_law_1088 dL_law_1089 dL_law_1091 rfl dL_law_1092 dL_law_1093 rfl rfl hL (by omega) (x_arg (j := 4) dL_law_1094 dL_law_1095 dL_law_1097 rfl dL_law_1098 dL_law_1099 rfl rfl hL (by omega) (j_aload_n dL_law_1100 rfl rfl (j_callW dL_law_1101 kv_L_170 rfl rfl (by decide) (Nat.le_of_ble_eq_true rfl) t (j_istore dL_law_1104 (by decide) rfl K)))))))
  obtain ⟨h2, r2, t2, e9, h1, W1, e | ⟨cn1, e⟩⟩ := L_packed ok g0 hab ho cn hb hR e1 e2 C
  · subst e9; subst e
    obtain ⟨r, q⟩ := Kn h1 W1
    exact ⟨k_no h1, r, A t2 j_no, q⟩
  · generalize hg1 : (if R.2.1 = 0 then va_up g 0 R.2.2.toInt64 else g) = g1 at e
    subst e9; subst e
    obtain ⟨h3, v, tm, s1, f3, m1, m2, m3⟩ := D (k_jn (b + 37) (b + 38) (fun _ => k_j 1 g1) h1)
    subst f3
    obtain ⟨h4, v4, tt, s2, f4, f5, f6⟩ := c_X12_thrown ok (b := b) (s := s1) (h := k_jn (b + 37) (b + 38) (fun _ => k_j 1 g1) h1)
    rw [f5] at f4
    subst f4
    rw [f6, m2] at tt
    obtain ⟨h9, r, jk, q⟩ := K s1 g1 h1 m1 W1 cn1
    have hv : nI R.2.1 = 0 → g1 0 = v.toInt64 := fun z => by
      have z0 : R.2.1 = 0 := (nI_eq (by omega) (by omega)).mp (show nI R.2.1 = nI 0 from z)
      rw [← hg1, if_pos z0, m3 z0]
      rfl
    exact ⟨h9, r, A t2 (j_aload_n dL_law_1106 rfl rfl (x_arg (j := 1) dL_law_1107 dL_law_1108 dL_law_1110 rfl dL_law_1111 dL_law_1112 rfl rfl hL (by omega) (x_arg (j := 2) dL_law_1113 dL_law_1114 dL_law_1116 rfl dL_law_1117 dL_law_1118 rfl rfl hL (by omega) (x_arg (j := 3) dL_law_1119 dL_law_1120 dL_law_1122 rfl dL_law_1123 dL_law_1124 rfl rfl hL (by omega) (x_arg (j := 4) dL_law_1125 dL_law_1126 dL_law_1128 rfl dL_law_1129 dL_law_1130 rfl rfl hL (by omega) (j_callV dL_law_1131 kc_L_172 rfl rfl J_b (by decide) (Nat.le_of_ble_eq_true rfl) tm (x_tail kc_L_123 dL_law_1134 dL_law_1136 dL_law_1137 dL_law_1140 dL_law_1142 dL_law_1147 dL_law_1149 dL_law_1152 dL_law_1153 dL_law_1154 dL_law_1155 dL_law_1157 dL_law_1158 dL_law_1159 dL_law_1164 rfl (J_b) tt J_out hv jk))))))), q⟩
theorem case_version (ok : k_ok G l) (g0 : k_fh G = 0) {a b N w i : Nat} {B : Nat × Nat} {s : m_S} {g : Nat → Int64} {h : k_H} {R : s_M × Nat × Int32} {X : Nat → String} {Q : k_H → k_R → Prop} (hL : k_sL G < 2 ^ 31) (hi : i + 7 ≤ k_sL G) (hab : a < b) (ho : k_is h a 14) (cn : k_cn b (b + 38) h) (hb : b + 38 ≤ h.2.1) (hR : R.2.1 = 0)
    (C : k_ct (tX11_version (k_fG G b (b + 38)) l) [vR (some a)] h (c_R a B R X N w)) (D : ∀ h9, k_cti (tX12_version G l) [vR (some b)] (m_hp b s h9) (m_p b h9 (m_R R)))
    (K : ∀ s1 g1 h1, m_M s1 R.1 → c_W a B h1 R.1 N w → k_cn b (b + 38) h1 → k_X (jW G l nm h0) (c_J b s1 g1 h1) 2369 (lvW G a b i) [] Q) (Kn : ∀ h1, c_W a B h1 R.1 N w → ∃ r, Q (k_no h1) r) : k_X (jW G l nm h0) (c_J b s g h) 1167 (lvW G a b i) [] Q := by
  obtain ⟨h1, r1, C1, W1, rfl⟩ := C
  rw [if_pos hR] at C1
  have A : ∀ {h2 : k_H} {h9 : k_H} {r : k_R}, tX11_version G l [vR (some a)] (c_J b s g h) h2 (.inl (some (vI R.2.2))) → jW G l nm h0 h2 1171 (lvW G a b i) [vI R.2.2] h9 r → jW G l nm h0 (c_J b s g h) 1167 (lvW G a b i) [] h9 r := fun t K => j_aload_n dL_law_1167 rfl rfl (j_callV dL_law_1168 kc_L_173 rfl rfl (J_is hab ho) (by decide) (Nat.le_of_ble_eq_true rfl) t K)
  rcases J_fro (s := s) (g := g) g0 cn hb C1 with ⟨cn1, t2⟩ | t2
  · obtain ⟨h3, v, tm, s1, f3, m1, m2, m3⟩ := D (k_jn (b + 37) (b + 38) (fun _ => k_j 1 g) h1)
    subst f3
    obtain ⟨h9, r, jk, q⟩ := K s1 g h1 m1 W1 cn1
    exact ⟨h9, r, A t2 (j_aload_n dL_law_1171 rfl rfl (j_callV dL_law_1172 kc_L_176 rfl rfl J_b (by decide) (Nat.le_of_ble_eq_true rfl) tm (j_icmp_eq_t (tgt := 2369) dL_law_1175 (by decide) (m3 hR).symm jk))), q⟩
  · obtain ⟨r, q⟩ := Kn h1 W1
    exact ⟨k_no h1, r, A t2 j_no, q⟩
theorem case_directory (ok : k_ok G l) (g0 : k_fh G = 0) {a b N w i : Nat} {B : Nat × Nat} {s : m_S} {g : Nat → Int64} {h : k_H} {R : s_M × Nat × Int32} {X : Nat → String} {Q : k_H → k_R → Prop} (hL : k_sL G < 2 ^ 31) (hi : i + 7 ≤ k_sL G) (hab : a < b) (ho : k_is h a 14) (cn : k_cn b (b + 38) h) (hb : b + 38 ≤ h.2.1) (hR : R.2.1 ≤ 3) (e1 : X 1 = x_IO) (e2 : X 2 = x_IA) (e3 : X 3 = x_IS)
    (C : k_ct (tX11_directory (k_fG G b (b + 38)) l) [vR (some a), vI (k_sx G (i + 1)), vI (k_sx G (i + 2))] h (c_R a B R X N w)) (D : ∀ h9, k_cti (tX12_directory G l) [vR (some b), vI (k_sx G (i + 1)), vI (k_sx G (i + 2))] (m_hp b s h9) (m_p b h9 (m_R R)))
    (K : ∀ s1 g1 h1, m_M s1 R.1 → c_W a B h1 R.1 N w → k_cn b (b + 38) h1 → k_X (jW G l nm h0) (c_J b s1 g1 h1) 2369 (lvW G a b i) [] Q) (Kn : ∀ h1, c_W a B h1 R.1 N w → ∃ r, Q (k_no h1) r) : k_X (jW G l nm h0) (c_J b s g h) 1180 (lvW G a b i) [] Q := by
  have A : ∀ {h2 : k_H} {k : Int32} {h9 : k_H} {r : k_R}, tL_directory G l [vR (some a), vI (k_sx G (i + 1)), vI (k_sx G (i + 2)), vR (some (b + 37))] (c_J b s g h) h2 (.inl (some (vI k))) → jW G l nm h0 h2 1199 (lvX G a b i k) [] h9 r → jW G l nm h0 (c_J b s g h) 1180 (lvW G a b i) [] h9 r := fun t K => j_aload_n dL_law_1180 rfl rfl (x_arg (j := 1) dL_law_1181 dL_law_1182 dL_law_1184 rfl dL_law_1185 dL_law_1186 rfl rfl hL (by omega) (x_arg (j := 2) dL_law_1187 dL_law_1188 dL_law_1190 rfl dL_law_1191 dL_law_1192 rfl rfl hL (by omega) (j_aload_n dL_law_1193 rfl rfl (j_callW dL_law_1194 kv_L_177 rfl rfl (by decide) (Nat.le_of_ble_eq_true rfl) t (j_istore dL_law_1197 (by decide) rfl K)))))
  obtain ⟨h2, r2, t2, e9, h1, W1, e | ⟨cn1, e⟩⟩ := L_directory ok g0 hab ho cn hb hR e1 e2 e3 C
  · subst e9; subst e
    obtain ⟨r, q⟩ := Kn h1 W1
    exact ⟨k_no h1, r, A t2 j_no, q⟩
  · generalize hg1 : (if R.2.1 = 0 then va_up g 0 R.2.2.toInt64 else g) = g1 at e
    subst e9; subst e
    obtain ⟨h3, v, tm, s1, f3, m1, m2, m3⟩ := D (k_jn (b + 37) (b + 38) (fun _ => k_j 1 g1) h1)
    subst f3
    obtain ⟨h4, v4, tt, s2, f4, f5, f6⟩ := c_X12_thrown ok (b := b) (s := s1) (h := k_jn (b + 37) (b + 38) (fun _ => k_j 1 g1) h1)
    rw [f5] at f4
    subst f4
    rw [f6, m2] at tt
    obtain ⟨h9, r, jk, q⟩ := K s1 g1 h1 m1 W1 cn1
    have hv : nI R.2.1 = 0 → g1 0 = v.toInt64 := fun z => by
      have z0 : R.2.1 = 0 := (nI_eq (by omega) (by omega)).mp (show nI R.2.1 = nI 0 from z)
      rw [← hg1, if_pos z0, m3 z0]
      rfl
    exact ⟨h9, r, A t2 (j_aload_n dL_law_1199 rfl rfl (x_arg (j := 1) dL_law_1200 dL_law_1201 dL_law_1203 rfl dL_law_1204 dL_law_1205 rfl rfl hL (by omega) (x_arg (j := 2) dL_law_1206 dL_law_1207 dL_law_1209 rfl dL_law_1210 dL_law_1211 rfl rfl hL (by omega) (j_callV dL_law_1212 kc_L_180 rfl rfl J_b (by decide) (Nat.le_of_ble_eq_true rfl) tm (x_tail kc_L_123 dL_law_1215 dL_law_1217 dL_law_1218 dL_law_1221 dL_law_1223 dL_law_1228 dL_law_1230 dL_law_1233 dL_law_1234 dL_law_1235 dL_law_1236 dL_law_1238 dL_law_1239 dL_law_1240 dL_law_1245 rfl (J_b) tt J_out hv jk))))), q⟩
theorem case_move (ok : k_ok G l) (g0 : k_fh G = 0) {a b N w i : Nat} {B : Nat × Nat} {s : m_S} {g : Nat → Int64} {h : k_H} {R : s_M × Nat × Int32} {X : Nat → String} {Q : k_H → k_R → Prop} (hL : k_sL G < 2 ^ 31) (hi : i + 7 ≤ k_sL G) (hab : a < b) (ho : k_is h a 14) (cn : k_cn b (b + 38) h) (hb : b + 38 ≤ h.2.1) (hR : R.2.1 ≤ 3) (e1 : X 1 = x_IO) (e2 : X 2 = x_IA) (e3 : X 3 = x_IS)
    (C : k_ct (tX11_move (k_fG G b (b + 38)) l) [vR (some a), vI (k_sx G (i + 1)), vI (k_sx G (i + 2)), vI (k_sx G (i + 3))] h (c_Rv a B R X N w)) (D : ∀ h9, k_ctv (tX12_move G l) [vR (some b), vI (k_sx G (i + 1)), vI (k_sx G (i + 2)), vI (k_sx G (i + 3))] (m_hp b s h9) (m_pv b h9 (fun s1 => m_R R s1 0)))
    (K : ∀ s1 g1 h1, m_M s1 R.1 → c_W a B h1 R.1 N w → k_cn b (b + 38) h1 → k_X (jW G l nm h0) (c_J b s1 g1 h1) 2369 (lvW G a b i) [] Q) (Kn : ∀ h1, c_W a B h1 R.1 N w → ∃ r, Q (k_no h1) r) : k_X (jW G l nm h0) (c_J b s g h) 1248 (lvW G a b i) [] Q := by
  have A : ∀ {h2 : k_H} {k : Int32} {h9 : k_H} {r : k_R}, tL_move G l [vR (some a), vI (k_sx G (i + 1)), vI (k_sx G (i + 2)), vI (k_sx G (i + 3))] (c_J b s g h) h2 (.inl (some (vI k))) → jW G l nm h0 h2 1272 (lvX G a b i k) [] h9 r → jW G l nm h0 (c_J b s g h) 1248 (lvW G a b i) [] h9 r := fun t K => j_aload_n dL_law_1248 rfl rfl (x_arg (j := 1) dL_law_1249 dL_law_1250 dL_law_1252 rfl dL_law_1253 dL_law_1254 rfl rfl hL (by omega) (x_arg (j := 2) dL_law_1255 dL_law_1256 dL_law_1258 rfl dL_law_1259 dL_law_1260 rfl rfl hL (by omega) (x_arg (j := 3) dL_law_1261 dL_law_1262 dL_law_1264 rfl dL_law_1265 dL_law_1266 rfl rfl hL (by omega) (j_callW dL_law_1267 kv_L_181 rfl rfl (by decide) (Nat.le_of_ble_eq_true rfl) t (j_istore dL_law_1270 (by decide) rfl K)))))
  obtain ⟨h2, r2, t2, e9, h1, W1, e | ⟨cn1, e⟩⟩ := L_move ok g0 hab ho cn hb hR e1 e2 e3 C
  · subst e9; subst e
    obtain ⟨r, q⟩ := Kn h1 W1
    exact ⟨k_no h1, r, A t2 j_no, q⟩
  · subst e9; subst e
    obtain ⟨h3, tm, s1, f3, m1, m2, m3⟩ := D (k_jn (b + 37) (b + 38) (fun _ => k_j 1 g) h1)
    subst f3
    obtain ⟨h4, v4, tt, s2, f4, f5, f6⟩ := c_X12_thrown ok (b := b) (s := s1) (h := k_jn (b + 37) (b + 38) (fun _ => k_j 1 g) h1)
    rw [f5] at f4
    subst f4
    rw [f6, m2] at tt
    obtain ⟨h9, r, jk, q⟩ := K s1 g h1 m1 W1 cn1
    exact ⟨h9, r, A t2 (j_aload_n dL_law_1272 rfl rfl (x_arg (j := 1) dL_law_1273 dL_law_1274 dL_law_1276 rfl dL_law_1277 dL_law_1278 rfl rfl hL (by omega) (x_arg (j := 2) dL_law_1279 dL_law_1280 dL_law_1282 rfl dL_law_1283 dL_law_1284 rfl rfl hL (by omega) (x_arg (j := 3) dL_law_1285 dL_law_1286 dL_law_1288 rfl dL_law_1289 dL_law_1290 rfl rfl hL (by omega) (j_callV dL_law_1291 kc_L_184 rfl rfl J_b (by decide) (Nat.le_of_ble_eq_true rfl) tm (j_aload_n dL_law_1294 rfl rfl (j_callV dL_law_1295 kc_L_123 rfl rfl J_b (by decide) (Nat.le_of_ble_eq_true rfl) tt (j_iload dL_law_1298 rfl (j_icmp_eq_t (tgt := 1305) dL_law_1300 (by decide) rfl (j_goto (tgt := 2369) dL_law_1305 (by decide) (j_lv lvX_W jk))))))))))), q⟩
theorem case_remove (ok : k_ok G l) (g0 : k_fh G = 0) {a b N w i : Nat} {B : Nat × Nat} {s : m_S} {g : Nat → Int64} {h : k_H} {R : s_M × Nat × Int32} {X : Nat → String} {Q : k_H → k_R → Prop} (hL : k_sL G < 2 ^ 31) (hi : i + 7 ≤ k_sL G) (hab : a < b) (ho : k_is h a 14) (cn : k_cn b (b + 38) h) (hb : b + 38 ≤ h.2.1) (hR : R.2.1 ≤ 2) (e1 : X 1 = x_IO) (e2 : X 2 = x_IS)
    (C : k_ct (tX11_remove (k_fG G b (b + 38)) l) [vR (some a), vI (k_sx G (i + 1))] h (c_R a B R X N w)) (D : ∀ h9, k_cti (tX12_remove G l) [vR (some b), vI (k_sx G (i + 1))] (m_hp b s h9) (m_p b h9 (m_R R)))
    (K : ∀ s1 g1 h1, m_M s1 R.1 → c_W a B h1 R.1 N w → k_cn b (b + 38) h1 → k_X (jW G l nm h0) (c_J b s1 g1 h1) 2369 (lvW G a b i) [] Q) (Kn : ∀ h1, c_W a B h1 R.1 N w → ∃ r, Q (k_no h1) r) : k_X (jW G l nm h0) (c_J b s g h) 1308 (lvW G a b i) [] Q := by
  have A : ∀ {h2 : k_H} {k : Int32} {h9 : k_H} {r : k_R}, tL_remove G l [vR (some a), vI (k_sx G (i + 1)), vR (some (b + 37))] (c_J b s g h) h2 (.inl (some (vI k))) → jW G l nm h0 h2 1321 (lvX G a b i k) [] h9 r → jW G l nm h0 (c_J b s g h) 1308 (lvW G a b i) [] h9 r := fun t K => j_aload_n dL_law_1308 rfl rfl (x_arg (j := 1) dL_law_1309 dL_law_1310 dL_law_1312 rfl dL_law_1313 dL_law_1314 rfl rfl hL (by omega) (j_aload_n dL_law_1315 rfl rfl (j_callW dL_law_1316 kv_L_185 rfl rfl (by decide) (Nat.le_of_ble_eq_true rfl) t (j_istore dL_law_1319 (by decide) rfl K))))
  obtain ⟨h2, r2, t2, e9, h1, W1, e | ⟨cn1, e⟩⟩ := L_remove ok g0 hab ho cn hb hR e1 e2 C
  · subst e9; subst e
    obtain ⟨r, q⟩ := Kn h1 W1
    exact ⟨k_no h1, r, A t2 j_no, q⟩
  · generalize hg1 : (if R.2.1 = 0 then va_up g 0 R.2.2.toInt64 else g) = g1 at e
    subst e9; subst e
    obtain ⟨h3, v, tm, s1, f3, m1, m2, m3⟩ := D (k_jn (b + 37) (b + 38) (fun _ => k_j 1 g1) h1)
    subst f3
    obtain ⟨h4, v4, tt, s2, f4, f5, f6⟩ := c_X12_thrown ok (b := b) (s := s1) (h := k_jn (b + 37) (b + 38) (fun _ => k_j 1 g1) h1)
    rw [f5] at f4
    subst f4
    rw [f6, m2] at tt
    obtain ⟨h9, r, jk, q⟩ := K s1 g1 h1 m1 W1 cn1
    have hv : nI R.2.1 = 0 → g1 0 = v.toInt64 := fun z => by
      have z0 : R.2.1 = 0 := (nI_eq (by omega) (by omega)).mp (show nI R.2.1 = nI 0 from z)
      rw [← hg1, if_pos z0, m3 z0]
      rfl
    exact ⟨h9, r, A t2 (j_aload_n dL_law_1321 rfl rfl (x_arg (j := 1) dL_law_1322 dL_law_1323 dL_law_1325 rfl dL_law_1326 dL_law_1327 rfl rfl hL (by omega) (j_callV dL_law_1328 kc_L_187 rfl rfl J_b (by decide) (Nat.le_of_ble_eq_true rfl) tm (x_tail kc_L_123 dL_law_1331 dL_law_1333 dL_law_1334 dL_law_1337 dL_law_1339 dL_law_1344 dL_law_1346 dL_law_1349 dL_law_1350 dL_law_1351 dL_law_1352 dL_law_1354 dL_law_1355 dL_law_1356 dL_law_1361 rfl (J_b) tt J_out hv jk)))), q⟩
theorem case_shortName (ok : k_ok G l) (g0 : k_fh G = 0) {a b N w i : Nat} {B : Nat × Nat} {s : m_S} {g : Nat → Int64} {h : k_H} {R : s_M × Nat × Int32} {X : Nat → String} {Q : k_H → k_R → Prop} (hL : k_sL G < 2 ^ 31) (hi : i + 7 ≤ k_sL G) (hab : a < b) (ho : k_is h a 14) (cn : k_cn b (b + 38) h) (hb : b + 38 ≤ h.2.1) (hR : R.2.1 ≤ 1) (e1 : X 1 = x_IO)
    (C : k_ct (tX11_shortName (k_fG G b (b + 38)) l) [vR (some a), vI (k_sx G (i + 1))] h (c_R a B R X N w)) (D : ∀ h9, k_cti (tX12_shortName G l) [vR (some b), vI (k_sx G (i + 1))] (m_hp b s h9) (m_p b h9 (m_R R)))
    (K : ∀ s1 g1 h1, m_M s1 R.1 → c_W a B h1 R.1 N w → k_cn b (b + 38) h1 → k_X (jW G l nm h0) (c_J b s1 g1 h1) 2369 (lvW G a b i) [] Q) (Kn : ∀ h1, c_W a B h1 R.1 N w → ∃ r, Q (k_no h1) r) : k_X (jW G l nm h0) (c_J b s g h) 1364 (lvW G a b i) [] Q := by
  have A : ∀ {h2 : k_H} {k : Int32} {h9 : k_H} {r : k_R}, tL_shortName G l [vR (some a), vI (k_sx G (i + 1)), vR (some (b + 37))] (c_J b s g h) h2 (.inl (some (vI k))) → jW G l nm h0 h2 1377 (lvX G a b i k) [] h9 r → jW G l nm h0 (c_J b s g h) 1364 (lvW G a b i) [] h9 r := fun t K => j_aload_n dL_law_1364 rfl rfl (x_arg (j := 1) dL_law_1365 dL_law_1366 dL_law_1368 rfl dL_law_1369 dL_law_1370 rfl rfl hL (by omega) (j_aload_n dL_law_1371 rfl rfl (j_callW dL_law_1372 kv_L_188 rfl rfl (by decide) (Nat.le_of_ble_eq_true rfl) t (j_istore dL_law_1375 (by decide) rfl K))))
  obtain ⟨h2, r2, t2, e9, h1, W1, e | ⟨cn1, e⟩⟩ := L_shortName ok g0 hab ho cn hb hR e1 C
  · subst e9; subst e
    obtain ⟨r, q⟩ := Kn h1 W1
    exact ⟨k_no h1, r, A t2 j_no, q⟩
  · generalize hg1 : (if R.2.1 = 0 then va_up g 0 R.2.2.toInt64 else g) = g1 at e
    subst e9; subst e
    obtain ⟨h3, v, tm, s1, f3, m1, m2, m3⟩ := D (k_jn (b + 37) (b + 38) (fun _ => k_j 1 g1) h1)
    subst f3
    obtain ⟨h4, v4, tt, s2, f4, f5, f6⟩ := c_X12_thrown ok (b := b) (s := s1) (h := k_jn (b + 37) (b + 38) (fun _ => k_j 1 g1) h1)
    rw [f5] at f4
    subst f4
    rw [f6, m2] at tt
    obtain ⟨h9, r, jk, q⟩ := K s1 g1 h1 m1 W1 cn1
    have hv : nI R.2.1 = 0 → g1 0 = v.toInt64 := fun z => by
      have z0 : R.2.1 = 0 := (nI_eq (by omega) (by omega)).mp (show nI R.2.1 = nI 0 from z)
      rw [← hg1, if_pos z0, m3 z0]
      rfl
    exact ⟨h9, r, A t2 (j_aload_n dL_law_1377 rfl rfl (x_arg (j := 1) dL_law_1378 dL_law_1379 dL_law_1381 rfl dL_law_1382 dL_law_1383 rfl rfl hL (by omega) (j_callV dL_law_1384 kc_L_190 rfl rfl J_b (by decide) (Nat.le_of_ble_eq_true rfl) tm (x_tail kc_L_123 dL_law_1387 dL_law_1389 dL_law_1390 dL_law_1393 dL_law_1395 dL_law_1400 dL_law_1402 dL_law_1405 dL_law_1406 dL_law_1407 dL_law_1408 dL_law_1410 dL_law_1411 dL_law_1412 dL_law_1417 rfl (J_b) tt J_out hv jk)))), q⟩
theorem case_named (ok : k_ok G l) (g0 : k_fh G = 0) {a b N w i : Nat} {B : Nat × Nat} {s : m_S} {g : Nat → Int64} {h : k_H} {R : s_M × Nat × Int32} {X : Nat → String} {Q : k_H → k_R → Prop} (hL : k_sL G < 2 ^ 31) (hi : i + 7 ≤ k_sL G) (hab : a < b) (ho : k_is h a 14) (cn : k_cn b (b + 38) h) (hb : b + 38 ≤ h.2.1) (hR : R.2.1 ≤ 2) (e1 : X 1 = x_IO) (e2 : X 2 = x_IA)
    (C : k_ct (tX11_named (k_fG G b (b + 38)) l) [vR (some a), vI (k_sx G (i + 1)), vI (k_sx G (i + 2))] h (c_R a B R X N w)) (D : ∀ h9, k_cti (tX12_named G l) [vR (some b), vI (k_sx G (i + 1)), vI (k_sx G (i + 2))] (m_hp b s h9) (m_p b h9 (m_R R)))
    (K : ∀ s1 g1 h1, m_M s1 R.1 → c_W a B h1 R.1 N w → k_cn b (b + 38) h1 → k_X (jW G l nm h0) (c_J b s1 g1 h1) 2369 (lvW G a b i) [] Q) (Kn : ∀ h1, c_W a B h1 R.1 N w → ∃ r, Q (k_no h1) r) : k_X (jW G l nm h0) (c_J b s g h) 1420 (lvW G a b i) [] Q := by
  have A : ∀ {h2 : k_H} {k : Int32} {h9 : k_H} {r : k_R}, tL_named G l [vR (some a), vI (k_sx G (i + 1)), vI (k_sx G (i + 2)), vR (some (b + 37))] (c_J b s g h) h2 (.inl (some (vI k))) → jW G l nm h0 h2 1439 (lvX G a b i k) [] h9 r → jW G l nm h0 (c_J b s g h) 1420 (lvW G a b i) [] h9 r := fun t K => j_aload_n dL_law_1420 rfl rfl (x_arg (j := 1) dL_law_1421 dL_law_1422 dL_law_1424 rfl dL_law_1425 dL_law_1426 rfl rfl hL (by omega) (x_arg (j := 2) dL_law_1427 dL_law_1428 dL_law_1430 rfl dL_law_1431 dL_law_1432 rfl rfl hL (by omega) (j_aload_n dL_law_1433 rfl rfl (j_callW dL_law_1434 kv_L_191 rfl rfl (by decide) (Nat.le_of_ble_eq_true rfl) t (j_istore dL_law_1437 (by decide) rfl K)))))
  obtain ⟨h2, r2, t2, e9, h1, W1, e | ⟨cn1, e⟩⟩ := L_named ok g0 hab ho cn hb hR e1 e2 C
  · subst e9; subst e
    obtain ⟨r, q⟩ := Kn h1 W1
    exact ⟨k_no h1, r, A t2 j_no, q⟩
  · generalize hg1 : (if R.2.1 = 0 then va_up g 0 R.2.2.toInt64 else g) = g1 at e
    subst e9; subst e
    obtain ⟨h3, v, tm, s1, f3, m1, m2, m3⟩ := D (k_jn (b + 37) (b + 38) (fun _ => k_j 1 g1) h1)
    subst f3
    obtain ⟨h4, v4, tt, s2, f4, f5, f6⟩ := c_X12_thrown ok (b := b) (s := s1) (h := k_jn (b + 37) (b + 38) (fun _ => k_j 1 g1) h1)
    rw [f5] at f4
    subst f4
    rw [f6, m2] at tt
    obtain ⟨h9, r, jk, q⟩ := K s1 g1 h1 m1 W1 cn1
    have hv : nI R.2.1 = 0 → g1 0 = v.toInt64 := fun z => by
      have z0 : R.2.1 = 0 := (nI_eq (by omega) (by omega)).mp (show nI R.2.1 = nI 0 from z)
      rw [← hg1, if_pos z0, m3 z0]
      rfl
    exact ⟨h9, r, A t2 (j_aload_n dL_law_1439 rfl rfl (x_arg (j := 1) dL_law_1440 dL_law_1441 dL_law_1443 rfl dL_law_1444 dL_law_1445 rfl rfl hL (by omega) (x_arg (j := 2) dL_law_1446 dL_law_1447 dL_law_1449 rfl dL_law_1450 dL_law_1451 rfl rfl hL (by omega) (j_callV dL_law_1452 kc_L_193 rfl rfl J_b (by decide) (Nat.le_of_ble_eq_true rfl) tm (x_tail kc_L_123 dL_law_1455 dL_law_1457 dL_law_1458 dL_law_1461 dL_law_1463 dL_law_1468 dL_law_1470 dL_law_1473 dL_law_1474 dL_law_1475 dL_law_1476 dL_law_1478 dL_law_1479 dL_law_1480 dL_law_1485 rfl (J_b) tt J_out hv jk))))), q⟩
theorem case_save (ok : k_ok G l) (g0 : k_fh G = 0) {a b N w i : Nat} {B : Nat × Nat} {s : m_S} {g : Nat → Int64} {h : k_H} {R : s_M × Nat × Int32} {X : Nat → String} {Q : k_H → k_R → Prop} (hL : k_sL G < 2 ^ 31) (hi : i + 7 ≤ k_sL G) (hab : a < b) (ho : k_is h a 14) (cn : k_cn b (b + 38) h) (hb : b + 38 ≤ h.2.1) (hR : R.2.1 ≤ 3) (e1 : X 1 = x_IO) (e2 : X 2 = x_IA) (e3 : X 3 = x_IS)
    (C : k_ct (tX11_save (k_fG G b (b + 38)) l) [vR (some a), vI (k_sx G (i + 1)), vI (k_sx G (i + 2)), vI (k_sx G (i + 3))] h (c_R a B R X N w)) (D : ∀ h9, k_cti (tX12_save G l) [vR (some b), vI (k_sx G (i + 1)), vI (k_sx G (i + 2)), vI (k_sx G (i + 3))] (m_hp b s h9) (m_p b h9 (m_R R)))
    (K : ∀ s1 g1 h1, m_M s1 R.1 → c_W a B h1 R.1 N w → k_cn b (b + 38) h1 → k_X (jW G l nm h0) (c_J b s1 g1 h1) 2369 (lvW G a b i) [] Q) (Kn : ∀ h1, c_W a B h1 R.1 N w → ∃ r, Q (k_no h1) r) : k_X (jW G l nm h0) (c_J b s g h) 1488 (lvW G a b i) [] Q := by
  have A : ∀ {h2 : k_H} {k : Int32} {h9 : k_H} {r : k_R}, tL_save G l [vR (some a), vI (k_sx G (i + 1)), vI (k_sx G (i + 2)), vI (k_sx G (i + 3)), vR (some (b + 37))] (c_J b s g h) h2 (.inl (some (vI k))) → jW G l nm h0 h2 1513 (lvX G a b i k) [] h9 r → jW G l nm h0 (c_J b s g h) 1488 (lvW G a b i) [] h9 r := fun t K => j_aload_n dL_law_1488 rfl rfl (x_arg (j := 1) dL_law_1489 dL_law_1490 dL_law_1492 rfl dL_law_1493 dL_law_1494 rfl rfl hL (by omega) (x_arg (j := 2) dL_law_1495 dL_law_1496 dL_law_1498 rfl dL_law_1499 dL_law_1500 rfl rfl hL (by omega) (x_arg (j := 3) dL_law_1501 dL_law_1502 dL_law_1504 rfl dL_law_1505 dL_law_1506 rfl rfl hL (by omega) (j_aload_n dL_law_1507 rfl rfl (j_callW dL_law_1508 kv_L_194 rfl rfl (by decide) (Nat.le_of_ble_eq_true rfl) t (j_istore dL_law_1511 (by decide) rfl K))))))
  obtain ⟨h2, r2, t2, e9, h1, W1, e | ⟨cn1, e⟩⟩ := L_save ok g0 hab ho cn hb hR e1 e2 e3 C
  · subst e9; subst e
    obtain ⟨r, q⟩ := Kn h1 W1
    exact ⟨k_no h1, r, A t2 j_no, q⟩
  · generalize hg1 : (if R.2.1 = 0 then va_up g 0 R.2.2.toInt64 else g) = g1 at e
    subst e9; subst e
    obtain ⟨h3, v, tm, s1, f3, m1, m2, m3⟩ := D (k_jn (b + 37) (b + 38) (fun _ => k_j 1 g1) h1)
    subst f3
    obtain ⟨h4, v4, tt, s2, f4, f5, f6⟩ := c_X12_thrown ok (b := b) (s := s1) (h := k_jn (b + 37) (b + 38) (fun _ => k_j 1 g1) h1)
    rw [f5] at f4
    subst f4
    rw [f6, m2] at tt
    obtain ⟨h9, r, jk, q⟩ := K s1 g1 h1 m1 W1 cn1
    have hv : nI R.2.1 = 0 → g1 0 = v.toInt64 := fun z => by
      have z0 : R.2.1 = 0 := (nI_eq (by omega) (by omega)).mp (show nI R.2.1 = nI 0 from z)
      rw [← hg1, if_pos z0, m3 z0]
      rfl
    exact ⟨h9, r, A t2 (j_aload_n dL_law_1513 rfl rfl (x_arg (j := 1) dL_law_1514 dL_law_1515 dL_law_1517 rfl dL_law_1518 dL_law_1519 rfl rfl hL (by omega) (x_arg (j := 2) dL_law_1520 dL_law_1521 dL_law_1523 rfl dL_law_1524 dL_law_1525 rfl rfl hL (by omega) (x_arg (j := 3) dL_law_1526 dL_law_1527 dL_law_1529 rfl dL_law_1530 dL_law_1531 rfl rfl hL (by omega) (j_callV dL_law_1532 kc_L_196 rfl rfl J_b (by decide) (Nat.le_of_ble_eq_true rfl) tm (x_tail kc_L_123 dL_law_1535 dL_law_1537 dL_law_1538 dL_law_1541 dL_law_1543 dL_law_1548 dL_law_1550 dL_law_1553 dL_law_1554 dL_law_1555 dL_law_1556 dL_law_1558 dL_law_1559 dL_law_1560 dL_law_1565 rfl (J_b) tt J_out hv jk)))))), q⟩
theorem case_erase (ok : k_ok G l) (g0 : k_fh G = 0) {a b N w i : Nat} {B : Nat × Nat} {s : m_S} {g : Nat → Int64} {h : k_H} {R : s_M × Nat × Int32} {X : Nat → String} {Q : k_H → k_R → Prop} (hL : k_sL G < 2 ^ 31) (hi : i + 7 ≤ k_sL G) (hab : a < b) (ho : k_is h a 14) (cn : k_cn b (b + 38) h) (hb : b + 38 ≤ h.2.1) (hR : R.2.1 ≤ 3) (e1 : X 1 = x_IO) (e2 : X 2 = x_IA) (e3 : X 3 = x_IS)
    (C : k_ct (tX11_erase (k_fG G b (b + 38)) l) [vR (some a), vI (k_sx G (i + 1)), vI (k_sx G (i + 2))] h (c_R a B R X N w)) (D : ∀ h9, k_cti (tX12_erase G l) [vR (some b), vI (k_sx G (i + 1)), vI (k_sx G (i + 2))] (m_hp b s h9) (m_p b h9 (m_R R)))
    (K : ∀ s1 g1 h1, m_M s1 R.1 → c_W a B h1 R.1 N w → k_cn b (b + 38) h1 → k_X (jW G l nm h0) (c_J b s1 g1 h1) 2369 (lvW G a b i) [] Q) (Kn : ∀ h1, c_W a B h1 R.1 N w → ∃ r, Q (k_no h1) r) : k_X (jW G l nm h0) (c_J b s g h) 1568 (lvW G a b i) [] Q := by
  have A : ∀ {h2 : k_H} {k : Int32} {h9 : k_H} {r : k_R}, tL_erase G l [vR (some a), vI (k_sx G (i + 1)), vI (k_sx G (i + 2)), vR (some (b + 37))] (c_J b s g h) h2 (.inl (some (vI k))) → jW G l nm h0 h2 1587 (lvX G a b i k) [] h9 r → jW G l nm h0 (c_J b s g h) 1568 (lvW G a b i) [] h9 r := fun t K => j_aload_n dL_law_1568 rfl rfl (x_arg (j := 1) dL_law_1569 dL_law_1570 dL_law_1572 rfl dL_law_1573 dL_law_1574 rfl rfl hL (by omega) (x_arg (j := 2) dL_law_1575 dL_law_1576 dL_law_1578 rfl dL_law_1579 dL_law_1580 rfl rfl hL (by omega) (j_aload_n dL_law_1581 rfl rfl (j_callW dL_law_1582 kv_L_197 rfl rfl (by decide) (Nat.le_of_ble_eq_true rfl) t (j_istore dL_law_1585 (by decide) rfl K)))))
  obtain ⟨h2, r2, t2, e9, h1, W1, e | ⟨cn1, e⟩⟩ := L_erase ok g0 hab ho cn hb hR e1 e2 e3 C
  · subst e9; subst e
    obtain ⟨r, q⟩ := Kn h1 W1
    exact ⟨k_no h1, r, A t2 j_no, q⟩
  · generalize hg1 : (if R.2.1 = 0 then va_up g 0 R.2.2.toInt64 else g) = g1 at e
    subst e9; subst e
    obtain ⟨h3, v, tm, s1, f3, m1, m2, m3⟩ := D (k_jn (b + 37) (b + 38) (fun _ => k_j 1 g1) h1)
    subst f3
    obtain ⟨h4, v4, tt, s2, f4, f5, f6⟩ := c_X12_thrown ok (b := b) (s := s1) (h := k_jn (b + 37) (b + 38) (fun _ => k_j 1 g1) h1)
    rw [f5] at f4
    subst f4
    rw [f6, m2] at tt
    obtain ⟨h9, r, jk, q⟩ := K s1 g1 h1 m1 W1 cn1
    have hv : nI R.2.1 = 0 → g1 0 = v.toInt64 := fun z => by
      have z0 : R.2.1 = 0 := (nI_eq (by omega) (by omega)).mp (show nI R.2.1 = nI 0 from z)
      rw [← hg1, if_pos z0, m3 z0]
      rfl
    exact ⟨h9, r, A t2 (j_aload_n dL_law_1587 rfl rfl (x_arg (j := 1) dL_law_1588 dL_law_1589 dL_law_1591 rfl dL_law_1592 dL_law_1593 rfl rfl hL (by omega) (x_arg (j := 2) dL_law_1594 dL_law_1595 dL_law_1597 rfl dL_law_1598 dL_law_1599 rfl rfl hL (by omega) (j_callV dL_law_1600 kc_L_199 rfl rfl J_b (by decide) (Nat.le_of_ble_eq_true rfl) tm (x_tail kc_L_123 dL_law_1603 dL_law_1605 dL_law_1606 dL_law_1609 dL_law_1611 dL_law_1616 dL_law_1618 dL_law_1621 dL_law_1622 dL_law_1623 dL_law_1624 dL_law_1626 dL_law_1627 dL_law_1628 dL_law_1633 rfl (J_b) tt J_out hv jk))))), q⟩
theorem case_build (ok : k_ok G l) (g0 : k_fh G = 0) {a b N w i : Nat} {B : Nat × Nat} {s : m_S} {g : Nat → Int64} {h : k_H} {R : s_M × Nat × Int32} {X : Nat → String} {Q : k_H → k_R → Prop} (hL : k_sL G < 2 ^ 31) (hi : i + 7 ≤ k_sL G) (hab : a < b) (ho : k_is h a 14) (cn : k_cn b (b + 38) h) (hb : b + 38 ≤ h.2.1) (hR : R.2.1 ≤ 3) (e1 : X 1 = x_IO) (e2 : X 2 = x_IA) (e3 : X 3 = x_IS)
    (C : k_ct (tX11_build (k_fG G b (b + 38)) l) [vR (some a), vI (k_sx G (i + 1)), vI (k_sx G (i + 2))] h (c_R a B R X N w)) (D : ∀ h9, k_cti (tX12_build G l) [vR (some b), vI (k_sx G (i + 1)), vI (k_sx G (i + 2))] (m_hp b s h9) (m_p b h9 (m_R R)))
    (K : ∀ s1 g1 h1, m_M s1 R.1 → c_W a B h1 R.1 N w → k_cn b (b + 38) h1 → k_X (jW G l nm h0) (c_J b s1 g1 h1) 2369 (lvW G a b i) [] Q) (Kn : ∀ h1, c_W a B h1 R.1 N w → ∃ r, Q (k_no h1) r) : k_X (jW G l nm h0) (c_J b s g h) 1636 (lvW G a b i) [] Q := by
  have A : ∀ {h2 : k_H} {k : Int32} {h9 : k_H} {r : k_R}, tL_build G l [vR (some a), vI (k_sx G (i + 1)), vI (k_sx G (i + 2)), vR (some (b + 37))] (c_J b s g h) h2 (.inl (some (vI k))) → jW G l nm h0 h2 1655 (lvX G a b i k) [] h9 r → jW G l nm h0 (c_J b s g h) 1636 (lvW G a b i) [] h9 r := fun t K => j_aload_n dL_law_1636 rfl rfl (x_arg (j := 1) dL_law_1637 dL_law_1638 dL_law_1640 rfl dL_law_1641 dL_law_1642 rfl rfl hL (by omega) (x_arg (j := 2) dL_law_1643 dL_law_1644 dL_law_1646 rfl dL_law_1647 dL_law_1648 rfl rfl hL (by omega) (j_aload_n dL_law_1649 rfl rfl (j_callW dL_law_1650 kv_L_200 rfl rfl (by decide) (Nat.le_of_ble_eq_true rfl) t (j_istore dL_law_1653 (by decide) rfl K)))))
  obtain ⟨h2, r2, t2, e9, h1, W1, e | ⟨cn1, e⟩⟩ := L_build ok g0 hab ho cn hb hR e1 e2 e3 C
  · subst e9; subst e
    obtain ⟨r, q⟩ := Kn h1 W1
    exact ⟨k_no h1, r, A t2 j_no, q⟩
  · generalize hg1 : (if R.2.1 = 0 then va_up g 0 R.2.2.toInt64 else g) = g1 at e
    subst e9; subst e
    obtain ⟨h3, v, tm, s1, f3, m1, m2, m3⟩ := D (k_jn (b + 37) (b + 38) (fun _ => k_j 1 g1) h1)
    subst f3
    obtain ⟨h4, v4, tt, s2, f4, f5, f6⟩ := c_X12_thrown ok (b := b) (s := s1) (h := k_jn (b + 37) (b + 38) (fun _ => k_j 1 g1) h1)
    rw [f5] at f4
    subst f4
    rw [f6, m2] at tt
    obtain ⟨h9, r, jk, q⟩ := K s1 g1 h1 m1 W1 cn1
    have hv : nI R.2.1 = 0 → g1 0 = v.toInt64 := fun z => by
      have z0 : R.2.1 = 0 := (nI_eq (by omega) (by omega)).mp (show nI R.2.1 = nI 0 from z)
      rw [← hg1, if_pos z0, m3 z0]
      rfl
    exact ⟨h9, r, A t2 (j_aload_n dL_law_1655 rfl rfl (x_arg (j := 1) dL_law_1656 dL_law_1657 dL_law_1659 rfl dL_law_1660 dL_law_1661 rfl rfl hL (by omega) (x_arg (j := 2) dL_law_1662 dL_law_1663 dL_law_1665 rfl dL_law_1666 dL_law_1667 rfl rfl hL (by omega) (j_callV dL_law_1668 kc_L_202 rfl rfl J_b (by decide) (Nat.le_of_ble_eq_true rfl) tm (x_tail kc_L_123 dL_law_1671 dL_law_1673 dL_law_1674 dL_law_1677 dL_law_1679 dL_law_1684 dL_law_1686 dL_law_1689 dL_law_1690 dL_law_1691 dL_law_1692 dL_law_1694 dL_law_1695 dL_law_1696 dL_law_1701 rfl (J_b) tt J_out hv jk))))), q⟩
theorem case_off (ok : k_ok G l) (g0 : k_fh G = 0) {a b N w i : Nat} {B : Nat × Nat} {s : m_S} {g : Nat → Int64} {h : k_H} {R : s_M × Nat × Int32} {X : Nat → String} {Q : k_H → k_R → Prop} (hL : k_sL G < 2 ^ 31) (hi : i + 7 ≤ k_sL G) (hab : a < b) (ho : k_is h a 14) (cn : k_cn b (b + 38) h) (hb : b + 38 ≤ h.2.1) (hR : R.2.1 ≤ 1) (e1 : X 1 = x_IO)
    (C : k_ct (tX11_off (k_fG G b (b + 38)) l) [vR (some a), vI (k_sx G (i + 1))] h (c_R a B R X N w)) (D : ∀ h9, k_cti (tX12_off G l) [vR (some b), vI (k_sx G (i + 1))] (m_hp b s h9) (m_p b h9 (m_R R)))
    (K : ∀ s1 g1 h1, m_M s1 R.1 → c_W a B h1 R.1 N w → k_cn b (b + 38) h1 → k_X (jW G l nm h0) (c_J b s1 g1 h1) 2369 (lvW G a b i) [] Q) (Kn : ∀ h1, c_W a B h1 R.1 N w → ∃ r, Q (k_no h1) r) : k_X (jW G l nm h0) (c_J b s g h) 1704 (lvW G a b i) [] Q := by
  have A : ∀ {h2 : k_H} {k : Int32} {h9 : k_H} {r : k_R}, tL_off G l [vR (some a), vI (k_sx G (i + 1)), vR (some (b + 37))] (c_J b s g h) h2 (.inl (some (vI k))) → jW G l nm h0 h2 1717 (lvX G a b i k) [] h9 r → jW G l nm h0 (c_J b s g h) 1704 (lvW G a b i) [] h9 r := fun t K => j_aload_n dL_law_1704 rfl rfl (x_arg (j := 1) dL_law_1705 dL_law_1706 dL_law_1708 rfl dL_law_1709 dL_law_1710 rfl rfl hL (by omega) (j_aload_n dL_law_1711 rfl rfl (j_callW dL_law_1712 kv_L_203 rfl rfl (by decide) (Nat.le_of_ble_eq_true rfl) t (j_istore dL_law_1715 (by decide) rfl K))))
  obtain ⟨h2, r2, t2, e9, h1, W1, e | ⟨cn1, e⟩⟩ := L_off ok g0 hab ho cn hb hR e1 C
  · subst e9; subst e
    obtain ⟨r, q⟩ := Kn h1 W1
    exact ⟨k_no h1, r, A t2 j_no, q⟩
  · generalize hg1 : (if R.2.1 = 0 then va_up g 0 R.2.2.toInt64 else g) = g1 at e
    subst e9; subst e
    obtain ⟨h3, v, tm, s1, f3, m1, m2, m3⟩ := D (k_jn (b + 37) (b + 38) (fun _ => k_j 1 g1) h1)
    subst f3
    obtain ⟨h4, v4, tt, s2, f4, f5, f6⟩ := c_X12_thrown ok (b := b) (s := s1) (h := k_jn (b + 37) (b + 38) (fun _ => k_j 1 g1) h1)
    rw [f5] at f4
    subst f4
    rw [f6, m2] at tt
    obtain ⟨h9, r, jk, q⟩ := K s1 g1 h1 m1 W1 cn1
    have hv : nI R.2.1 = 0 → g1 0 = v.toInt64 := fun z => by
      have z0 : R.2.1 = 0 := (nI_eq (by omega) (by omega)).mp (show nI R.2.1 = nI 0 from z)
      rw [← hg1, if_pos z0, m3 z0]
      rfl
    exact ⟨h9, r, A t2 (j_aload_n dL_law_1717 rfl rfl (x_arg (j := 1) dL_law_1718 dL_law_1719 dL_law_1721 rfl dL_law_1722 dL_law_1723 rfl rfl hL (by omega) (j_callV dL_law_1724 kc_L_205 rfl rfl J_b (by decide) (Nat.le_of_ble_eq_true rfl) tm (x_tail kc_L_123 dL_law_1727 dL_law_1729 dL_law_1730 dL_law_1733 dL_law_1735 dL_law_1740 dL_law_1742 dL_law_1745 dL_law_1746 dL_law_1747 dL_law_1748 dL_law_1750 dL_law_1751 dL_law_1752 dL_law_1757 rfl (J_b) tt J_out hv jk)))), q⟩
theorem case_rank (ok : k_ok G l) (g0 : k_fh G = 0) {a b N w i : Nat} {B : Nat × Nat} {s : m_S} {g : Nat → Int64} {h : k_H} {R : s_M × Nat × Int32} {X : Nat → String} {Q : k_H → k_R → Prop} (hL : k_sL G < 2 ^ 31) (hi : i + 7 ≤ k_sL G) (hab : a < b) (ho : k_is h a 14) (cn : k_cn b (b + 38) h) (hb : b + 38 ≤ h.2.1) (hR : R.2.1 ≤ 1) (e1 : X 1 = x_IA)
    (C : k_ct (tX11_rank (k_fG G b (b + 38)) l) [vR (some a), vI (k_sx G (i + 1))] h (c_R a B R X N w)) (D : ∀ h9, k_cti (tX12_rank G l) [vR (some b), vI (k_sx G (i + 1))] (m_hp b s h9) (m_p b h9 (m_R R)))
    (K : ∀ s1 g1 h1, m_M s1 R.1 → c_W a B h1 R.1 N w → k_cn b (b + 38) h1 → k_X (jW G l nm h0) (c_J b s1 g1 h1) 2369 (lvW G a b i) [] Q) (Kn : ∀ h1, c_W a B h1 R.1 N w → ∃ r, Q (k_no h1) r) : k_X (jW G l nm h0) (c_J b s g h) 1760 (lvW G a b i) [] Q := by
  have A : ∀ {h2 : k_H} {k : Int32} {h9 : k_H} {r : k_R}, tL_rank G l [vR (some a), vI (k_sx G (i + 1)), vR (some (b + 37))] (c_J b s g h) h2 (.inl (some (vI k))) → jW G l nm h0 h2 1773 (lvX G a b i k) [] h9 r → jW G l nm h0 (c_J b s g h) 1760 (lvW G a b i) [] h9 r := fun t K => j_aload_n dL_law_1760 rfl rfl (x_arg (j := 1) dL_law_1761 dL_law_1762 dL_law_1764 rfl dL_law_1765 dL_law_1766 rfl rfl hL (by omega) (j_aload_n dL_law_1767 rfl rfl (j_callW dL_law_1768 kv_L_206 rfl rfl (by decide) (Nat.le_of_ble_eq_true rfl) t (j_istore dL_law_1771 (by decide) rfl K))))
  obtain ⟨h2, r2, t2, e9, h1, W1, e | ⟨cn1, e⟩⟩ := L_rank ok g0 hab ho cn hb hR e1 C
  · subst e9; subst e
    obtain ⟨r, q⟩ := Kn h1 W1
    exact ⟨k_no h1, r, A t2 j_no, q⟩
  · generalize hg1 : (if R.2.1 = 0 then va_up g 0 R.2.2.toInt64 else g) = g1 at e
    subst e9; subst e
    obtain ⟨h3, v, tm, s1, f3, m1, m2, m3⟩ := D (k_jn (b + 37) (b + 38) (fun _ => k_j 1 g1) h1)
    subst f3
    obtain ⟨h4, v4, tt, s2, f4, f5, f6⟩ := c_X12_thrown ok (b := b) (s := s1) (h := k_jn (b + 37) (b + 38) (fun _ => k_j 1 g1) h1)
    rw [f5] at f4
    subst f4
    rw [f6, m2] at tt
    obtain ⟨h9, r, jk, q⟩ := K s1 g1 h1 m1 W1 cn1
    have hv : nI R.2.1 = 0 → g1 0 = v.toInt64 := fun z => by
      have z0 : R.2.1 = 0 := (nI_eq (by omega) (by omega)).mp (show nI R.2.1 = nI 0 from z)
      rw [← hg1, if_pos z0, m3 z0]
      rfl
    exact ⟨h9, r, A t2 (j_aload_n dL_law_1773 rfl rfl (x_arg (j := 1) dL_law_1774 dL_law_1775 dL_law_1777 rfl dL_law_1778 dL_law_1779 rfl rfl hL (by omega) (j_callV dL_law_1780 kc_L_208 rfl rfl J_b (by decide) (Nat.le_of_ble_eq_true rfl) tm (x_tail kc_L_123 dL_law_1783 dL_law_1785 dL_law_1786 dL_law_1789 dL_law_1791 dL_law_1796 dL_law_1798 dL_law_1801 dL_law_1802 dL_law_1803 dL_law_1804 dL_law_1806 dL_law_1807 dL_law_1808 dL_law_1813 rfl (J_b) tt J_out hv jk)))), q⟩
theorem case_rankAnew (ok : k_ok G l) (g0 : k_fh G = 0) {a b N w i : Nat} {B : Nat × Nat} {s : m_S} {g : Nat → Int64} {h : k_H} {R : s_M × Nat × Int32} {X : Nat → String} {Q : k_H → k_R → Prop} (hL : k_sL G < 2 ^ 31) (hi : i + 7 ≤ k_sL G) (hab : a < b) (ho : k_is h a 14) (cn : k_cn b (b + 38) h) (hb : b + 38 ≤ h.2.1) (hR : R.2.1 ≤ 1) (e1 : X 1 = x_IA)
    (C : k_ct (tX11_rankAnew (k_fG G b (b + 38)) l) [vR (some a), vI (k_sx G (i + 1))] h (c_R a B R X N w)) (D : ∀ h9, k_cti (tX12_rankAnew G l) [vR (some b), vI (k_sx G (i + 1))] (m_hp b s h9) (m_p b h9 (m_R R)))
    (K : ∀ s1 g1 h1, m_M s1 R.1 → c_W a B h1 R.1 N w → k_cn b (b + 38) h1 → k_X (jW G l nm h0) (c_J b s1 g1 h1) 2369 (lvW G a b i) [] Q) (Kn : ∀ h1, c_W a B h1 R.1 N w → ∃ r, Q (k_no h1) r) : k_X (jW G l nm h0) (c_J b s g h) 1816 (lvW G a b i) [] Q := by
  have A : ∀ {h2 : k_H} {k : Int32} {h9 : k_H} {r : k_R}, tL_rankAnew G l [vR (some a), vI (k_sx G (i + 1)), vR (some (b + 37))] (c_J b s g h) h2 (.inl (some (vI k))) → jW G l nm h0 h2 1829 (lvX G a b i k) [] h9 r → jW G l nm h0 (c_J b s g h) 1816 (lvW G a b i) [] h9 r := fun t K => j_aload_n dL_law_1816 rfl rfl (x_arg (j := 1) dL_law_1817 dL_law_1818 dL_law_1820 rfl dL_law_1821 dL_law_1822 rfl rfl hL (by omega) (j_aload_n dL_law_1823 rfl rfl (j_callW dL_law_1824 kv_L_209 rfl rfl (by decide) (Nat.le_of_ble_eq_true rfl) t (j_istore dL_law_1827 (by decide) rfl K))))
  obtain ⟨h2, r2, t2, e9, h1, W1, e | ⟨cn1, e⟩⟩ := L_rankAnew ok g0 hab ho cn hb hR e1 C
  · subst e9; subst e
    obtain ⟨r, q⟩ := Kn h1 W1
    exact ⟨k_no h1, r, A t2 j_no, q⟩
  · generalize hg1 : (if R.2.1 = 0 then va_up g 0 R.2.2.toInt64 else g) = g1 at e
    subst e9; subst e
    obtain ⟨h3, v, tm, s1, f3, m1, m2, m3⟩ := D (k_jn (b + 37) (b + 38) (fun _ => k_j 1 g1) h1)
    subst f3
    obtain ⟨h4, v4, tt, s2, f4, f5, f6⟩ := c_X12_thrown ok (b := b) (s := s1) (h := k_jn (b + 37) (b + 38) (fun _ => k_j 1 g1) h1)
    rw [f5] at f4
    subst f4
    rw [f6, m2] at tt
    obtain ⟨h9, r, jk, q⟩ := K s1 g1 h1 m1 W1 cn1
    have hv : nI R.2.1 = 0 → g1 0 = v.toInt64 := fun z => by
      have z0 : R.2.1 = 0 := (nI_eq (by omega) (by omega)).mp (show nI R.2.1 = nI 0 from z)
      rw [← hg1, if_pos z0, m3 z0]
      rfl
    exact ⟨h9, r, A t2 (j_aload_n dL_law_1829 rfl rfl (x_arg (j := 1) dL_law_1830 dL_law_1831 dL_law_1833 rfl dL_law_1834 dL_law_1835 rfl rfl hL (by omega) (j_callV dL_law_1836 kc_L_211 rfl rfl J_b (by decide) (Nat.le_of_ble_eq_true rfl) tm (x_tail kc_L_123 dL_law_1839 dL_law_1841 dL_law_1842 dL_law_1845 dL_law_1847 dL_law_1852 dL_law_1854 dL_law_1857 dL_law_1858 dL_law_1859 dL_law_1860 dL_law_1862 dL_law_1863 dL_law_1864 dL_law_1869 rfl (J_b) tt J_out hv jk)))), q⟩
theorem case_watch (ok : k_ok G l) (g0 : k_fh G = 0) {a b N w i : Nat} {B : Nat × Nat} {s : m_S} {g : Nat → Int64} {h : k_H} {R : s_M × Nat × Int32} {X : Nat → String} {Q : k_H → k_R → Prop} (hL : k_sL G < 2 ^ 31) (hi : i + 7 ≤ k_sL G) (hab : a < b) (ho : k_is h a 14) (cn : k_cn b (b + 38) h) (hb : b + 38 ≤ h.2.1) (hR : R.2.1 ≤ 2) (e1 : X 1 = x_IA) (e2 : X 2 = x_IS)
    (C : k_ct (tX11_watch (k_fG G b (b + 38)) l) [vR (some a), vI (k_sx G (i + 1)), vI (k_sx G (i + 2)), vI (k_sx G (i + 3))] h (c_R a B R X N w)) (D : ∀ h9, k_cti (tX12_watch G l) [vR (some b), vI (k_sx G (i + 1)), vI (k_sx G (i + 2)), vI (k_sx G (i + 3))] (m_hp b s h9) (m_p b h9 (m_R R)))
    (K : ∀ s1 g1 h1, m_M s1 R.1 → c_W a B h1 R.1 N w → k_cn b (b + 38) h1 → k_X (jW G l nm h0) (c_J b s1 g1 h1) 2369 (lvW G a b i) [] Q) (Kn : ∀ h1, c_W a B h1 R.1 N w → ∃ r, Q (k_no h1) r) : k_X (jW G l nm h0) (c_J b s g h) 1872 (lvW G a b i) [] Q := by
  have A : ∀ {h2 : k_H} {k : Int32} {h9 : k_H} {r : k_R}, tL_watch G l [vR (some a), vI (k_sx G (i + 1)), vI (k_sx G (i + 2)), vI (k_sx G (i + 3)), vR (some (b + 37))] (c_J b s g h) h2 (.inl (some (vI k))) → jW G l nm h0 h2 1897 (lvX G a b i k) [] h9 r → jW G l nm h0 (c_J b s g h) 1872 (lvW G a b i) [] h9 r := fun t K => j_aload_n dL_law_1872 rfl rfl (x_arg (j := 1) dL_law_1873 dL_law_1874 dL_law_1876 rfl dL_law_1877 dL_law_1878 rfl rfl hL (by omega) (x_arg (j := 2) dL_law_1879 dL_law_1880 dL_law_1882 rfl dL_law_1883 dL_law_1884 rfl rfl hL (by omega) (x_arg (j := 3) dL_law_1885 dL_law_1886 dL_law_1888 rfl dL_law_1889 dL_law_1890 rfl rfl hL (by omega) (j_aload_n dL_law_1891 rfl rfl (j_callW dL_law_1892 kv_L_212 rfl rfl (by decide) (Nat.le_of_ble_eq_true rfl) t (j_istore dL_law_1895 (by decide) rfl K))))))
  obtain ⟨h2, r2, t2, e9, h1, W1, e | ⟨cn1, e⟩⟩ := L_watch ok g0 hab ho cn hb hR e1 e2 C
  · subst e9; subst e
    obtain ⟨r, q⟩ := Kn h1 W1
    exact ⟨k_no h1, r, A t2 j_no, q⟩
  · generalize hg1 : (if R.2.1 = 0 then va_up g 0 R.2.2.toInt64 else g) = g1 at e
    subst e9; subst e
    obtain ⟨h3, v, tm, s1, f3, m1, m2, m3⟩ := D (k_jn (b + 37) (b + 38) (fun _ => k_j 1 g1) h1)
    subst f3
    obtain ⟨h4, v4, tt, s2, f4, f5, f6⟩ := c_X12_thrown ok (b := b) (s := s1) (h := k_jn (b + 37) (b + 38) (fun _ => k_j 1 g1) h1)
    rw [f5] at f4
    subst f4
    rw [f6, m2] at tt
    obtain ⟨h9, r, jk, q⟩ := K s1 g1 h1 m1 W1 cn1
    have hv : nI R.2.1 = 0 → g1 0 = v.toInt64 := fun z => by
      have z0 : R.2.1 = 0 := (nI_eq (by omega) (by omega)).mp (show nI R.2.1 = nI 0 from z)
      rw [← hg1, if_pos z0, m3 z0]
      rfl
    exact ⟨h9, r, A t2 (j_aload_n dL_law_1897 rfl rfl (x_arg (j := 1) dL_law_1898 dL_law_1899 dL_law_1901 rfl dL_law_1902 dL_law_1903 rfl rfl hL (by omega) (x_arg (j := 2) dL_law_1904 dL_law_1905 dL_law_1907 rfl dL_law_1908 dL_law_1909 rfl rfl hL (by omega) (x_arg (j := 3) dL_law_1910 dL_law_1911 dL_law_1913 rfl dL_law_1914 dL_law_1915 rfl rfl hL (by omega) (j_callV dL_law_1916 kc_L_214 rfl rfl J_b (by decide) (Nat.le_of_ble_eq_true rfl) tm (x_tail kc_L_123 dL_law_1919 dL_law_1921 dL_law_1922 dL_law_1925 dL_law_1927 dL_law_1932 dL_law_1934 dL_law_1937 dL_law_1938 dL_law_1939 dL_law_1940 dL_law_1942 dL_law_1943 dL_law_1944 dL_law_1949 rfl (J_b) tt J_out hv jk)))))), q⟩
theorem case_fired (ok : k_ok G l) (g0 : k_fh G = 0) {a b N w i : Nat} {B : Nat × Nat} {s : m_S} {g : Nat → Int64} {h : k_H} {R : s_M × Nat × Int32} {X : Nat → String} {Q : k_H → k_R → Prop} (hL : k_sL G < 2 ^ 31) (hi : i + 7 ≤ k_sL G) (hab : a < b) (ho : k_is h a 14) (cn : k_cn b (b + 38) h) (hb : b + 38 ≤ h.2.1) (hR : R.2.1 ≤ 1) (e1 : X 1 = x_IO)
    (C : k_ct (tX11_fired (k_fG G b (b + 38)) l) [vR (some a), vI (k_sx G (i + 1))] h (c_R a B R X N w)) (D : ∀ h9, k_cti (tX12_fired G l) [vR (some b), vI (k_sx G (i + 1))] (m_hp b s h9) (m_p b h9 (m_R R)))
    (K : ∀ s1 g1 h1, m_M s1 R.1 → c_W a B h1 R.1 N w → k_cn b (b + 38) h1 → k_X (jW G l nm h0) (c_J b s1 g1 h1) 2369 (lvW G a b i) [] Q) (Kn : ∀ h1, c_W a B h1 R.1 N w → ∃ r, Q (k_no h1) r) : k_X (jW G l nm h0) (c_J b s g h) 1952 (lvW G a b i) [] Q := by
  have A : ∀ {h2 : k_H} {k : Int32} {h9 : k_H} {r : k_R}, tL_fired G l [vR (some a), vI (k_sx G (i + 1)), vR (some (b + 37))] (c_J b s g h) h2 (.inl (some (vI k))) → jW G l nm h0 h2 1965 (lvX G a b i k) [] h9 r → jW G l nm h0 (c_J b s g h) 1952 (lvW G a b i) [] h9 r := fun t K => j_aload_n dL_law_1952 rfl rfl (x_arg (j := 1) dL_law_1953 dL_law_1954 dL_law_1956 rfl dL_law_1957 dL_law_1958 rfl rfl hL (by omega) (j_aload_n dL_law_1959 rfl rfl (j_callW dL_law_1960 kv_L_215 rfl rfl (by decide) (Nat.le_of_ble_eq_true rfl) t (j_istore dL_law_1963 (by decide) rfl K))))
  obtain ⟨h2, r2, t2, e9, h1, W1, e | ⟨cn1, e⟩⟩ := L_fired ok g0 hab ho cn hb hR e1 C
  · subst e9; subst e
    obtain ⟨r, q⟩ := Kn h1 W1
    exact ⟨k_no h1, r, A t2 j_no, q⟩
  · generalize hg1 : (if R.2.1 = 0 then va_up g 0 R.2.2.toInt64 else g) = g1 at e
    subst e9; subst e
    obtain ⟨h3, v, tm, s1, f3, m1, m2, m3⟩ := D (k_jn (b + 37) (b + 38) (fun _ => k_j 1 g1) h1)
    subst f3
    obtain ⟨h4, v4, tt, s2, f4, f5, f6⟩ := c_X12_thrown ok (b := b) (s := s1) (h := k_jn (b + 37) (b + 38) (fun _ => k_j 1 g1) h1)
    rw [f5] at f4
    subst f4
    rw [f6, m2] at tt
    obtain ⟨h9, r, jk, q⟩ := K s1 g1 h1 m1 W1 cn1
    have hv : nI R.2.1 = 0 → g1 0 = v.toInt64 := fun z => by
      have z0 : R.2.1 = 0 := (nI_eq (by omega) (by omega)).mp (show nI R.2.1 = nI 0 from z)
      rw [← hg1, if_pos z0, m3 z0]
      rfl
    exact ⟨h9, r, A t2 (j_aload_n dL_law_1965 rfl rfl (x_arg (j := 1) dL_law_1966 dL_law_1967 dL_law_1969 rfl dL_law_1970 dL_law_1971 rfl rfl hL (by omega) (j_callV dL_law_1972 kc_L_217 rfl rfl J_b (by decide) (Nat.le_of_ble_eq_true rfl) tm (x_tail kc_L_123 dL_law_1975 dL_law_1977 dL_law_1978 dL_law_1981 dL_law_1983 dL_law_1988 dL_law_1990 dL_law_1993 dL_law_1994 dL_law_1995 dL_law_1996 dL_law_1998 dL_law_1999 dL_law_2000 dL_law_2005 rfl (J_b) tt J_out hv jk)))), q⟩
theorem case_offer (ok : k_ok G l) (g0 : k_fh G = 0) {a b N w i : Nat} {B : Nat × Nat} {s : m_S} {g : Nat → Int64} {h : k_H} {R : s_M × Nat × Int32} {X : Nat → String} {Q : k_H → k_R → Prop} (hL : k_sL G < 2 ^ 31) (hi : i + 7 ≤ k_sL G) (hab : a < b) (ho : k_is h a 14) (cn : k_cn b (b + 38) h) (hb : b + 38 ≤ h.2.1) (hR : R.2.1 ≤ 3) (e1 : X 1 = x_IO) (e2 : X 2 = x_IA) (e3 : X 3 = x_IS)
    (C : k_ct (tX11_offer (k_fG G b (b + 38)) l) [vR (some a), vI (k_sx G (i + 1)), vI (k_sx G (i + 2))] h (c_R a B R X N w)) (D : ∀ h9, k_cti (tX12_offer G l) [vR (some b), vI (k_sx G (i + 1)), vI (k_sx G (i + 2))] (m_hp b s h9) (m_p b h9 (m_R R)))
    (K : ∀ s1 g1 h1, m_M s1 R.1 → c_W a B h1 R.1 N w → k_cn b (b + 38) h1 → k_X (jW G l nm h0) (c_J b s1 g1 h1) 2369 (lvW G a b i) [] Q) (Kn : ∀ h1, c_W a B h1 R.1 N w → ∃ r, Q (k_no h1) r) : k_X (jW G l nm h0) (c_J b s g h) 2008 (lvW G a b i) [] Q := by
  have A : ∀ {h2 : k_H} {k : Int32} {h9 : k_H} {r : k_R}, tL_offer G l [vR (some a), vI (k_sx G (i + 1)), vI (k_sx G (i + 2)), vR (some (b + 37))] (c_J b s g h) h2 (.inl (some (vI k))) → jW G l nm h0 h2 2027 (lvX G a b i k) [] h9 r → jW G l nm h0 (c_J b s g h) 2008 (lvW G a b i) [] h9 r := fun t K => j_aload_n dL_law_2008 rfl rfl (x_arg (j := 1) dL_law_2009 dL_law_2010 dL_law_2012 rfl dL_law_2013 dL_law_2014 rfl rfl hL (by omega) (x_arg (j := 2) dL_law_2015 dL_law_2016 dL_law_2018 rfl dL_law_2019 dL_law_2020 rfl rfl hL (by omega) (j_aload_n dL_law_2021 rfl rfl (j_callW dL_law_2022 kv_L_218 rfl rfl (by decide) (Nat.le_of_ble_eq_true rfl) t (j_istore dL_law_2025 (by decide) rfl K)))))
  obtain ⟨h2, r2, t2, e9, h1, W1, e | ⟨cn1, e⟩⟩ := L_offer ok g0 hab ho cn hb hR e1 e2 e3 C
  · subst e9; subst e
    obtain ⟨r, q⟩ := Kn h1 W1
    exact ⟨k_no h1, r, A t2 j_no, q⟩
  · generalize hg1 : (if R.2.1 = 0 then va_up g 0 R.2.2.toInt64 else g) = g1 at e
    subst e9; subst e
    obtain ⟨h3, v, tm, s1, f3, m1, m2, m3⟩ := D (k_jn (b + 37) (b + 38) (fun _ => k_j 1 g1) h1)
    subst f3
    obtain ⟨h4, v4, tt, s2, f4, f5, f6⟩ := c_X12_thrown ok (b := b) (s := s1) (h := k_jn (b + 37) (b + 38) (fun _ => k_j 1 g1) h1)
    rw [f5] at f4
    subst f4
    rw [f6, m2] at tt
    obtain ⟨h9, r, jk, q⟩ := K s1 g1 h1 m1 W1 cn1
    have hv : nI R.2.1 = 0 → g1 0 = v.toInt64 := fun z => by
      have z0 : R.2.1 = 0 := (nI_eq (by omega) (by omega)).mp (show nI R.2.1 = nI 0 from z)
      rw [← hg1, if_pos z0, m3 z0]
      rfl
    exact ⟨h9, r, A t2 (j_aload_n dL_law_2027 rfl rfl (x_arg (j := 1) dL_law_2028 dL_law_2029 dL_law_2031 rfl dL_law_2032 dL_law_2033 rfl rfl hL (by omega) (x_arg (j := 2) dL_law_2034 dL_law_2035 dL_law_2037 rfl dL_law_2038 dL_law_2039 rfl rfl hL (by omega) (j_callV dL_law_2040 kc_L_220 rfl rfl J_b (by decide) (Nat.le_of_ble_eq_true rfl) tm (x_tail kc_L_123 dL_law_2043 dL_law_2045 dL_law_2046 dL_law_2049 dL_law_2051 dL_law_2056 dL_law_2058 dL_law_2061 dL_law_2062 dL_law_2063 dL_law_2064 dL_law_2066 dL_law_2067 dL_law_2068 dL_law_2073 rfl (J_b) tt J_out hv jk))))), q⟩
theorem case_take (ok : k_ok G l) (g0 : k_fh G = 0) {a b N w i : Nat} {B : Nat × Nat} {s : m_S} {g : Nat → Int64} {h : k_H} {R : s_M × Nat × Int32} {X : Nat → String} {Q : k_H → k_R → Prop} (hL : k_sL G < 2 ^ 31) (hi : i + 7 ≤ k_sL G) (hab : a < b) (ho : k_is h a 14) (cn : k_cn b (b + 38) h) (hb : b + 38 ≤ h.2.1) (hR : R.2.1 ≤ 1) (e1 : X 1 = x_IO)
    (C : k_ct (tX11_take (k_fG G b (b + 38)) l) [vR (some a), vI (k_sx G (i + 1))] h (c_R a B R X N w)) (D : ∀ h9, k_cti (tX12_take G l) [vR (some b), vI (k_sx G (i + 1))] (m_hp b s h9) (m_p b h9 (m_R R)))
    (K : ∀ s1 g1 h1, m_M s1 R.1 → c_W a B h1 R.1 N w → k_cn b (b + 38) h1 → k_X (jW G l nm h0) (c_J b s1 g1 h1) 2369 (lvW G a b i) [] Q) (Kn : ∀ h1, c_W a B h1 R.1 N w → ∃ r, Q (k_no h1) r) : k_X (jW G l nm h0) (c_J b s g h) 2076 (lvW G a b i) [] Q := by
  have A : ∀ {h2 : k_H} {k : Int32} {h9 : k_H} {r : k_R}, tL_take G l [vR (some a), vI (k_sx G (i + 1)), vR (some (b + 37))] (c_J b s g h) h2 (.inl (some (vI k))) → jW G l nm h0 h2 2089 (lvX G a b i k) [] h9 r → jW G l nm h0 (c_J b s g h) 2076 (lvW G a b i) [] h9 r := fun t K => j_aload_n dL_law_2076 rfl rfl (x_arg (j := 1) dL_law_2077 dL_law_2078 dL_law_2080 rfl dL_law_2081 dL_law_2082 rfl rfl hL (by omega) (j_aload_n dL_law_2083 rfl rfl (j_callW dL_law_2084 kv_L_221 rfl rfl (by decide) (Nat.le_of_ble_eq_true rfl) t (j_istore dL_law_2087 (by decide) rfl K))))
  obtain ⟨h2, r2, t2, e9, h1, W1, e | ⟨cn1, e⟩⟩ := L_take ok g0 hab ho cn hb hR e1 C
  · subst e9; subst e
    obtain ⟨r, q⟩ := Kn h1 W1
    exact ⟨k_no h1, r, A t2 j_no, q⟩
  · generalize hg1 : (if R.2.1 = 0 then va_up g 0 R.2.2.toInt64 else g) = g1 at e
    subst e9; subst e
    obtain ⟨h3, v, tm, s1, f3, m1, m2, m3⟩ := D (k_jn (b + 37) (b + 38) (fun _ => k_j 1 g1) h1)
    subst f3
    obtain ⟨h4, v4, tt, s2, f4, f5, f6⟩ := c_X12_thrown ok (b := b) (s := s1) (h := k_jn (b + 37) (b + 38) (fun _ => k_j 1 g1) h1)
    rw [f5] at f4
    subst f4
    rw [f6, m2] at tt
    obtain ⟨h9, r, jk, q⟩ := K s1 g1 h1 m1 W1 cn1
    have hv : nI R.2.1 = 0 → g1 0 = v.toInt64 := fun z => by
      have z0 : R.2.1 = 0 := (nI_eq (by omega) (by omega)).mp (show nI R.2.1 = nI 0 from z)
      rw [← hg1, if_pos z0, m3 z0]
      rfl
    exact ⟨h9, r, A t2 (j_aload_n dL_law_2089 rfl rfl (x_arg (j := 1) dL_law_2090 dL_law_2091 dL_law_2093 rfl dL_law_2094 dL_law_2095 rfl rfl hL (by omega) (j_callV dL_law_2096 kc_L_223 rfl rfl J_b (by decide) (Nat.le_of_ble_eq_true rfl) tm (x_tail kc_L_123 dL_law_2099 dL_law_2101 dL_law_2102 dL_law_2105 dL_law_2107 dL_law_2112 dL_law_2114 dL_law_2117 dL_law_2118 dL_law_2119 dL_law_2120 dL_law_2122 dL_law_2123 dL_law_2124 dL_law_2129 rfl (J_b) tt J_out hv jk)))), q⟩
theorem case_finish (ok : k_ok G l) (g0 : k_fh G = 0) {a b N w i : Nat} {B : Nat × Nat} {s : m_S} {g : Nat → Int64} {h : k_H} {R : s_M × Nat × Int32} {X : Nat → String} {Q : k_H → k_R → Prop} (hL : k_sL G < 2 ^ 31) (hi : i + 7 ≤ k_sL G) (hab : a < b) (ho : k_is h a 14) (cn : k_cn b (b + 38) h) (hb : b + 38 ≤ h.2.1) (hR : R.2.1 ≤ 1) (e1 : X 1 = x_IO)
    (C : k_ct (tX11_finish (k_fG G b (b + 38)) l) [vR (some a), vI (k_sx G (i + 1))] h (c_R a B R X N w)) (D : ∀ h9, k_cti (tX12_finish G l) [vR (some b), vI (k_sx G (i + 1))] (m_hp b s h9) (m_p b h9 (m_R R)))
    (K : ∀ s1 g1 h1, m_M s1 R.1 → c_W a B h1 R.1 N w → k_cn b (b + 38) h1 → k_X (jW G l nm h0) (c_J b s1 g1 h1) 2369 (lvW G a b i) [] Q) (Kn : ∀ h1, c_W a B h1 R.1 N w → ∃ r, Q (k_no h1) r) : k_X (jW G l nm h0) (c_J b s g h) 2132 (lvW G a b i) [] Q := by
  have A : ∀ {h2 : k_H} {k : Int32} {h9 : k_H} {r : k_R}, tL_finish G l [vR (some a), vI (k_sx G (i + 1)), vR (some (b + 37))] (c_J b s g h) h2 (.inl (some (vI k))) → jW G l nm h0 h2 2145 (lvX G a b i k) [] h9 r → jW G l nm h0 (c_J b s g h) 2132 (lvW G a b i) [] h9 r := fun t K => j_aload_n dL_law_2132 rfl rfl (x_arg (j := 1) dL_law_2133 dL_law_2134 dL_law_2136 rfl dL_law_2137 dL_law_2138 rfl rfl hL (by omega) (j_aload_n dL_law_2139 rfl rfl (j_callW dL_law_2140 kv_L_224 rfl rfl (by decide) (Nat.le_of_ble_eq_true rfl) t (j_istore dL_law_2143 (by decide) rfl K))))
  obtain ⟨h2, r2, t2, e9, h1, W1, e | ⟨cn1, e⟩⟩ := L_finish ok g0 hab ho cn hb hR e1 C
  · subst e9; subst e
    obtain ⟨r, q⟩ := Kn h1 W1
    exact ⟨k_no h1, r, A t2 j_no, q⟩
  · generalize hg1 : (if R.2.1 = 0 then va_up g 0 R.2.2.toInt64 else g) = g1 at e
    subst e9; subst e
    obtain ⟨h3, v, tm, s1, f3, m1, m2, m3⟩ := D (k_jn (b + 37) (b + 38) (fun _ => k_j 1 g1) h1)
    subst f3
    obtain ⟨h4, v4, tt, s2, f4, f5, f6⟩ := c_X12_thrown ok (b := b) (s := s1) (h := k_jn (b + 37) (b + 38) (fun _ => k_j 1 g1) h1)
    rw [f5] at f4
    subst f4
    rw [f6, m2] at tt
    obtain ⟨h9, r, jk, q⟩ := K s1 g1 h1 m1 W1 cn1
    have hv : nI R.2.1 = 0 → g1 0 = v.toInt64 := fun z => by
      have z0 : R.2.1 = 0 := (nI_eq (by omega) (by omega)).mp (show nI R.2.1 = nI 0 from z)
      rw [← hg1, if_pos z0, m3 z0]
      rfl
    exact ⟨h9, r, A t2 (j_aload_n dL_law_2145 rfl rfl (x_arg (j := 1) dL_law_2146 dL_law_2147 dL_law_2149 rfl dL_law_2150 dL_law_2151 rfl rfl hL (by omega) (j_callV dL_law_2152 kc_L_226 rfl rfl J_b (by decide) (Nat.le_of_ble_eq_true rfl) tm (x_tail kc_L_123 dL_law_2155 dL_law_2157 dL_law_2158 dL_law_2161 dL_law_2163 dL_law_2168 dL_law_2170 dL_law_2173 dL_law_2174 dL_law_2175 dL_law_2176 dL_law_2178 dL_law_2179 dL_law_2180 dL_law_2185 rfl (J_b) tt J_out hv jk)))), q⟩
theorem case_parts (ok : k_ok G l) (g0 : k_fh G = 0) {a b N w i : Nat} {B : Nat × Nat} {s : m_S} {g : Nat → Int64} {h : k_H} {R : s_M × Nat × Int32} {X : Nat → String} {Q : k_H → k_R → Prop} (hL : k_sL G < 2 ^ 31) (hi : i + 7 ≤ k_sL G) (hab : a < b) (ho : k_is h a 14) (cn : k_cn b (b + 38) h) (hb : b + 38 ≤ h.2.1) (hR : R.2.1 = 0)
    (C : k_ct (tX11_parts (k_fG G b (b + 38)) l) [vR (some a)] h (c_R a B R X N w)) (D : ∀ h9, k_cti (tX12_parts G l) [vR (some b)] (m_hp b s h9) (m_p b h9 (m_R R)))
    (K : ∀ s1 g1 h1, m_M s1 R.1 → c_W a B h1 R.1 N w → k_cn b (b + 38) h1 → k_X (jW G l nm h0) (c_J b s1 g1 h1) 2369 (lvW G a b i) [] Q) (Kn : ∀ h1, c_W a B h1 R.1 N w → ∃ r, Q (k_no h1) r) : k_X (jW G l nm h0) (c_J b s g h) 2188 (lvW G a b i) [] Q := by
  obtain ⟨h1, r1, C1, W1, rfl⟩ := C
  rw [if_pos hR] at C1
  have A : ∀ {h2 : k_H} {h9 : k_H} {r : k_R}, tX11_parts G l [vR (some a)] (c_J b s g h) h2 (.inl (some (vI R.2.2))) → jW G l nm h0 h2 2192 (lvW G a b i) [vI R.2.2] h9 r → jW G l nm h0 (c_J b s g h) 2188 (lvW G a b i) [] h9 r := fun t K => j_aload_n dL_law_2188 rfl rfl (j_callV dL_law_2189 kc_L_227 rfl rfl (J_is hab ho) (by decide) (Nat.le_of_ble_eq_true rfl) t K)
  rcases J_fro (s := s) (g := g) g0 cn hb C1 with ⟨cn1, t2⟩ | t2
  · obtain ⟨h3, v, tm, s1, f3, m1, m2, m3⟩ := D (k_jn (b + 37) (b + 38) (fun _ => k_j 1 g) h1)
    subst f3
    obtain ⟨h9, r, jk, q⟩ := K s1 g h1 m1 W1 cn1
    exact ⟨h9, r, A t2 (j_aload_n dL_law_2192 rfl rfl (j_callV dL_law_2193 kc_L_230 rfl rfl J_b (by decide) (Nat.le_of_ble_eq_true rfl) tm (j_icmp_eq_t (tgt := 2369) dL_law_2196 (by decide) (m3 hR).symm jk))), q⟩
  · obtain ⟨r, q⟩ := Kn h1 W1
    exact ⟨k_no h1, r, A t2 j_no, q⟩
theorem case_part (ok : k_ok G l) (g0 : k_fh G = 0) {a b N w i : Nat} {B : Nat × Nat} {s : m_S} {g : Nat → Int64} {h : k_H} {R : s_M × Nat × Int32} {X : Nat → String} {Q : k_H → k_R → Prop} (hL : k_sL G < 2 ^ 31) (hi : i + 7 ≤ k_sL G) (hab : a < b) (ho : k_is h a 14) (cn : k_cn b (b + 38) h) (hb : b + 38 ≤ h.2.1) (hR : R.2.1 ≤ 2) (e1 : X 1 = x_IO) (e2 : X 2 = x_IA)
    (C : k_ct (tX11_part (k_fG G b (b + 38)) l) [vR (some a), vI (k_sx G (i + 1)), vI (k_sx G (i + 2))] h (c_R a B R X N w)) (D : ∀ h9, k_cti (tX12_part G l) [vR (some b), vI (k_sx G (i + 1)), vI (k_sx G (i + 2))] (m_hp b s h9) (m_p b h9 (m_R R)))
    (K : ∀ s1 g1 h1, m_M s1 R.1 → c_W a B h1 R.1 N w → k_cn b (b + 38) h1 → k_X (jW G l nm h0) (c_J b s1 g1 h1) 2369 (lvW G a b i) [] Q) (Kn : ∀ h1, c_W a B h1 R.1 N w → ∃ r, Q (k_no h1) r) : k_X (jW G l nm h0) (c_J b s g h) 2201 (lvW G a b i) [] Q := by
  have A : ∀ {h2 : k_H} {k : Int32} {h9 : k_H} {r : k_R}, tL_part G l [vR (some a), vI (k_sx G (i + 1)), vI (k_sx G (i + 2)), vR (some (b + 37))] (c_J b s g h) h2 (.inl (some (vI k))) → jW G l nm h0 h2 2220 (lvX G a b i k) [] h9 r → jW G l nm h0 (c_J b s g h) 2201 (lvW G a b i) [] h9 r := fun t K => j_aload_n dL_law_2201 rfl rfl (x_arg (j := 1) dL_law_2202 dL_law_2203 dL_law_2205 rfl dL_law_2206 dL_law_2207 rfl rfl hL (by omega) (x_arg (j := 2) dL_law_2208 dL_law_2209 dL_law_2211 rfl dL_law_2212 dL_law_2213 rfl rfl hL (by omega) (j_aload_n dL_law_2214 rfl rfl (j_callW dL_law_2215 kv_L_231 rfl rfl (by decide) (Nat.le_of_ble_eq_true rfl) t (j_istore dL_law_2218 (by decide) rfl K)))))
  obtain ⟨h2, r2, t2, e9, h1, W1, e | ⟨cn1, e⟩⟩ := L_part ok g0 hab ho cn hb hR e1 e2 C
  · subst e9; subst e
    obtain ⟨r, q⟩ := Kn h1 W1
    exact ⟨k_no h1, r, A t2 j_no, q⟩
  · generalize hg1 : (if R.2.1 = 0 then va_up g 0 R.2.2.toInt64 else g) = g1 at e
    subst e9; subst e
    obtain ⟨h3, v, tm, s1, f3, m1, m2, m3⟩ := D (k_jn (b + 37) (b + 38) (fun _ => k_j 1 g1) h1)
    subst f3
    obtain ⟨h4, v4, tt, s2, f4, f5, f6⟩ := c_X12_thrown ok (b := b) (s := s1) (h := k_jn (b + 37) (b + 38) (fun _ => k_j 1 g1) h1)
    rw [f5] at f4
    subst f4
    rw [f6, m2] at tt
    obtain ⟨h9, r, jk, q⟩ := K s1 g1 h1 m1 W1 cn1
    have hv : nI R.2.1 = 0 → g1 0 = v.toInt64 := fun z => by
      have z0 : R.2.1 = 0 := (nI_eq (by omega) (by omega)).mp (show nI R.2.1 = nI 0 from z)
      rw [← hg1, if_pos z0, m3 z0]
      rfl
    exact ⟨h9, r, A t2 (j_aload_n dL_law_2220 rfl rfl (x_arg (j := 1) dL_law_2221 dL_law_2222 dL_law_2224 rfl dL_law_2225 dL_law_2226 rfl rfl hL (by omega) (x_arg (j := 2) dL_law_2227 dL_law_2228 dL_law_2230 rfl dL_law_2231 dL_law_2232 rfl rfl hL (by omega) (j_callV dL_law_2233 kc_L_233 rfl rfl J_b (by decide) (Nat.le_of_ble_eq_true rfl) tm (x_tail kc_L_123 dL_law_2236 dL_law_2238 dL_law_2239 dL_law_2242 dL_law_2244 dL_law_2249 dL_law_2251 dL_law_2254 dL_law_2255 dL_law_2256 dL_law_2257 dL_law_2259 dL_law_2260 dL_law_2261 dL_law_2266 rfl (J_b) tt J_out hv jk))))), q⟩
theorem case_mark (ok : k_ok G l) (g0 : k_fh G = 0) {a b N w i : Nat} {B : Nat × Nat} {s : m_S} {g : Nat → Int64} {h : k_H} {R : s_M × Nat × Int32} {X : Nat → String} {Q : k_H → k_R → Prop} (hL : k_sL G < 2 ^ 31) (hi : i + 7 ≤ k_sL G) (hab : a < b) (ho : k_is h a 14) (cn : k_cn b (b + 38) h) (hb : b + 38 ≤ h.2.1) (hR : R.2.1 ≤ 1) (e1 : X 1 = x_IS)
    (C : k_ct (tX11_mark (k_fG G b (b + 38)) l) [vR (some a)] h (c_R a B R X N w)) (D : ∀ h9, k_cti (tX12_mark G l) [vR (some b)] (m_hp b s h9) (m_p b h9 (m_R R)))
    (K : ∀ s1 g1 h1, m_M s1 R.1 → c_W a B h1 R.1 N w → k_cn b (b + 38) h1 → k_X (jW G l nm h0) (c_J b s1 g1 h1) 2369 (lvW G a b i) [] Q) (Kn : ∀ h1, c_W a B h1 R.1 N w → ∃ r, Q (k_no h1) r) : k_X (jW G l nm h0) (c_J b s g h) 2269 (lvW G a b i) [] Q := by
  have A : ∀ {h2 : k_H} {k : Int32} {h9 : k_H} {r : k_R}, tL_mark G l [vR (some a), vR (some (b + 37))] (c_J b s g h) h2 (.inl (some (vI k))) → jW G l nm h0 h2 2276 (lvX G a b i k) [] h9 r → jW G l nm h0 (c_J b s g h) 2269 (lvW G a b i) [] h9 r := fun t K => j_aload_n dL_law_2269 rfl rfl (j_aload_n dL_law_2270 rfl rfl (j_callW dL_law_2271 kv_L_234 rfl rfl (by decide) (Nat.le_of_ble_eq_true rfl) t (j_istore dL_law_2274 (by decide) rfl K)))
  obtain ⟨h2, r2, t2, e9, h1, W1, e | ⟨cn1, e⟩⟩ := L_mark ok g0 hab ho cn hb hR e1 C
  · subst e9; subst e
    obtain ⟨r, q⟩ := Kn h1 W1
    exact ⟨k_no h1, r, A t2 j_no, q⟩
  · generalize hg1 : (if R.2.1 = 0 then va_up g 0 R.2.2.toInt64 else g) = g1 at e
    subst e9; subst e
    obtain ⟨h3, v, tm, s1, f3, m1, m2, m3⟩ := D (k_jn (b + 37) (b + 38) (fun _ => k_j 1 g1) h1)
    subst f3
    obtain ⟨h4, v4, tt, s2, f4, f5, f6⟩ := c_X12_thrown ok (b := b) (s := s1) (h := k_jn (b + 37) (b + 38) (fun _ => k_j 1 g1) h1)
    rw [f5] at f4
    subst f4
    rw [f6, m2] at tt
    obtain ⟨h9, r, jk, q⟩ := K s1 g1 h1 m1 W1 cn1
    have hv : nI R.2.1 = 0 → g1 0 = v.toInt64 := fun z => by
      have z0 : R.2.1 = 0 := (nI_eq (by omega) (by omega)).mp (show nI R.2.1 = nI 0 from z)
      rw [← hg1, if_pos z0, m3 z0]
      rfl
    exact ⟨h9, r, A t2 (j_aload_n dL_law_2276 rfl rfl (j_callV dL_law_2277 kc_L_237 rfl rfl J_b (by decide) (Nat.le_of_ble_eq_true rfl) tm (x_tail kc_L_123 dL_law_2280 dL_law_2282 dL_law_2283 dL_law_2286 dL_law_2288 dL_law_2293 dL_law_2295 dL_law_2298 dL_law_2299 dL_law_2300 dL_law_2301 dL_law_2303 dL_law_2304 dL_law_2305 dL_law_2310 rfl (J_b) tt J_out hv jk))), q⟩
theorem case_bringBack (ok : k_ok G l) (g0 : k_fh G = 0) {a b N w i : Nat} {B : Nat × Nat} {s : m_S} {g : Nat → Int64} {h : k_H} {R : s_M × Nat × Int32} {X : Nat → String} {Q : k_H → k_R → Prop} (hL : k_sL G < 2 ^ 31) (hi : i + 7 ≤ k_sL G) (hab : a < b) (ho : k_is h a 14) (cn : k_cn b (b + 38) h) (hb : b + 38 ≤ h.2.1) (hR : R.2.1 ≤ 1) (e1 : X 1 = x_IO)
    (C : k_ct (tX11_bringBack (k_fG G b (b + 38)) l) [vR (some a), vI (k_sx G (i + 1))] h (c_R a B R X N w)) (D : ∀ h9, k_cti (tX12_bringBack G l) [vR (some b), vI (k_sx G (i + 1))] (m_hp b s h9) (m_p b h9 (m_R R)))
    (K : ∀ s1 g1 h1, m_M s1 R.1 → c_W a B h1 R.1 N w → k_cn b (b + 38) h1 → k_X (jW G l nm h0) (c_J b s1 g1 h1) 2369 (lvW G a b i) [] Q) (Kn : ∀ h1, c_W a B h1 R.1 N w → ∃ r, Q (k_no h1) r) : k_X (jW G l nm h0) (c_J b s g h) 2313 (lvW G a b i) [] Q := by
  have A : ∀ {h2 : k_H} {k : Int32} {h9 : k_H} {r : k_R}, tL_bringBack G l [vR (some a), vI (k_sx G (i + 1)), vR (some (b + 37))] (c_J b s g h) h2 (.inl (some (vI k))) → jW G l nm h0 h2 2326 (lvX G a b i k) [] h9 r → jW G l nm h0 (c_J b s g h) 2313 (lvW G a b i) [] h9 r := fun t K => j_aload_n dL_law_2313 rfl rfl (x_arg (j := 1) dL_law_2314 dL_law_2315 dL_law_2317 rfl dL_law_2318 dL_law_2319 rfl rfl hL (by omega) (j_aload_n dL_law_2320 rfl rfl (j_callW dL_law_2321 kv_L_238 rfl rfl (by decide) (Nat.le_of_ble_eq_true rfl) t (j_istore dL_law_2324 (by decide) rfl K))))
  obtain ⟨h2, r2, t2, e9, h1, W1, e | ⟨cn1, e⟩⟩ := L_bringBack ok g0 hab ho cn hb hR e1 C
  · subst e9; subst e
    obtain ⟨r, q⟩ := Kn h1 W1
    exact ⟨k_no h1, r, A t2 j_no, q⟩
  · generalize hg1 : (if R.2.1 = 0 then va_up g 0 R.2.2.toInt64 else g) = g1 at e
    subst e9; subst e
    obtain ⟨h3, v, tm, s1, f3, m1, m2, m3⟩ := D (k_jn (b + 37) (b + 38) (fun _ => k_j 1 g1) h1)
    subst f3
    obtain ⟨h4, v4, tt, s2, f4, f5, f6⟩ := c_X12_thrown ok (b := b) (s := s1) (h := k_jn (b + 37) (b + 38) (fun _ => k_j 1 g1) h1)
    rw [f5] at f4
    subst f4
    rw [f6, m2] at tt
    obtain ⟨h9, r, jk, q⟩ := K s1 g1 h1 m1 W1 cn1
    have hv : nI R.2.1 = 0 → g1 0 = v.toInt64 := fun z => by
      have z0 : R.2.1 = 0 := (nI_eq (by omega) (by omega)).mp (show nI R.2.1 = nI 0 from z)
      rw [← hg1, if_pos z0, m3 z0]
      rfl
    exact ⟨h9, r, A t2 (j_aload_n dL_law_2326 rfl rfl (x_arg (j := 1) dL_law_2327 dL_law_2328 dL_law_2330 rfl dL_law_2331 dL_law_2332 rfl rfl hL (by omega) (j_callV dL_law_2333 kc_L_240 rfl rfl J_b (by decide) (Nat.le_of_ble_eq_true rfl) tm (x_tail kc_L_123 dL_law_2336 dL_law_2338 dL_law_2339 dL_law_2342 dL_law_2344 dL_law_2349 dL_law_2351 dL_law_2354 dL_law_2355 dL_law_2356 dL_law_2357 dL_law_2359 dL_law_2360 dL_law_2361 dL_law_2366 rfl (J_b) tt J_out hv jk)))), q⟩
end LCS
