theorem d_law_132 : decode code 132 = .ok (.aload_n 1, 1) := by decide +kernel
theorem d_law_133 : decode code 133 = .ok (.invokevirtual 21, 3) := by decide +kernel
theorem d_law_136 : decode code 136 = .ok (.aload_n 2, 1) := by decide +kernel
theorem d_law_137 : decode code 137 = .ok (.invokevirtual 25, 3) := by decide +kernel
theorem d_law_140 : decode code 140 = .ok (.if_icmp .eq 632, 3) := by decide +kernel
theorem d_law_145 : decode code 145 = .ok (.aload_n 1, 1) := by decide +kernel
theorem ld_146 : ldk 146 1 := ⟨by decide +kernel, by decide +kernel, by decide +kernel, by decide +kernel, by decide +kernel⟩
theorem ld_151 : ldk 151 2 := ⟨by decide +kernel, by decide +kernel, by decide +kernel, by decide +kernel, by decide +kernel⟩
theorem ld_156 : ldk 156 3 := ⟨by decide +kernel, by decide +kernel, by decide +kernel, by decide +kernel, by decide +kernel⟩
theorem d_law_161 : decode code 161 = .ok (.invokevirtual 26, 3) := by decide +kernel
theorem d_law_164 : decode code 164 = .ok (.aload_n 2, 1) := by decide +kernel
theorem ld_165 : ldk 165 1 := ⟨by decide +kernel, by decide +kernel, by decide +kernel, by decide +kernel, by decide +kernel⟩
theorem ld_170 : ldk 170 2 := ⟨by decide +kernel, by decide +kernel, by decide +kernel, by decide +kernel, by decide +kernel⟩
theorem ld_175 : ldk 175 3 := ⟨by decide +kernel, by decide +kernel, by decide +kernel, by decide +kernel, by decide +kernel⟩
theorem d_law_180 : decode code 180 = .ok (.invokevirtual 30, 3) := by decide +kernel
theorem d_law_183 : decode code 183 = .ok (.if_icmp .eq 589, 3) := by decide +kernel
theorem d_law_188 : decode code 188 = .ok (.aload_n 1, 1) := by decide +kernel
theorem ld_189 : ldk 189 1 := ⟨by decide +kernel, by decide +kernel, by decide +kernel, by decide +kernel, by decide +kernel⟩
theorem ld_194 : ldk 194 2 := ⟨by decide +kernel, by decide +kernel, by decide +kernel, by decide +kernel, by decide +kernel⟩
theorem ld_199 : ldk 199 3 := ⟨by decide +kernel, by decide +kernel, by decide +kernel, by decide +kernel, by decide +kernel⟩
theorem ld_204 : ldk 204 4 := ⟨by decide +kernel, by decide +kernel, by decide +kernel, by decide +kernel, by decide +kernel⟩
theorem bo_204 : bok 204 := ⟨ld_204, by decide +kernel, by decide +kernel, by decide +kernel, by decide +kernel⟩
theorem d_law_217 : decode code 217 = .ok (.invokevirtual 31, 3) := by decide +kernel
theorem d_law_220 : decode code 220 = .ok (.aload_n 2, 1) := by decide +kernel
theorem ld_221 : ldk 221 1 := ⟨by decide +kernel, by decide +kernel, by decide +kernel, by decide +kernel, by decide +kernel⟩
theorem ld_226 : ldk 226 2 := ⟨by decide +kernel, by decide +kernel, by decide +kernel, by decide +kernel, by decide +kernel⟩
theorem ld_231 : ldk 231 3 := ⟨by decide +kernel, by decide +kernel, by decide +kernel, by decide +kernel, by decide +kernel⟩
theorem ld_236 : ldk 236 4 := ⟨by decide +kernel, by decide +kernel, by decide +kernel, by decide +kernel, by decide +kernel⟩
theorem bo_236 : bok 236 := ⟨ld_236, by decide +kernel, by decide +kernel, by decide +kernel, by decide +kernel⟩
theorem d_law_249 : decode code 249 = .ok (.invokevirtual 35, 3) := by decide +kernel
theorem d_law_252 : decode code 252 = .ok (.if_icmp .eq 520, 3) := by decide +kernel
theorem d_law_257 : decode code 257 = .ok (.aload_n 1, 1) := by decide +kernel
theorem ld_258 : ldk 258 1 := ⟨by decide +kernel, by decide +kernel, by decide +kernel, by decide +kernel, by decide +kernel⟩
theorem d_law_263 : decode code 263 = .ok (.invokevirtual 36, 3) := by decide +kernel
theorem d_law_266 : decode code 266 = .ok (.aload_n 2, 1) := by decide +kernel
theorem ld_267 : ldk 267 1 := ⟨by decide +kernel, by decide +kernel, by decide +kernel, by decide +kernel, by decide +kernel⟩
theorem d_law_272 : decode code 272 = .ok (.invokevirtual 40, 3) := by decide +kernel
theorem d_law_275 : decode code 275 = .ok (.if_icmp .eq 497, 3) := by decide +kernel
theorem d_law_280 : decode code 280 = .ok (.aload_n 1, 1) := by decide +kernel
theorem ld_281 : ldk 281 1 := ⟨by decide +kernel, by decide +kernel, by decide +kernel, by decide +kernel, by decide +kernel⟩
theorem ld_286 : ldk 286 2 := ⟨by decide +kernel, by decide +kernel, by decide +kernel, by decide +kernel, by decide +kernel⟩
theorem d_law_291 : decode code 291 = .ok (.invokevirtual 41, 3) := by decide +kernel
theorem d_law_294 : decode code 294 = .ok (.aload_n 2, 1) := by decide +kernel
theorem ld_295 : ldk 295 1 := ⟨by decide +kernel, by decide +kernel, by decide +kernel, by decide +kernel, by decide +kernel⟩
theorem ld_300 : ldk 300 2 := ⟨by decide +kernel, by decide +kernel, by decide +kernel, by decide +kernel, by decide +kernel⟩