/-! a constructor (printed by wip/whole/new2.py) -/
theorem mo_RX12_7 : Cond.methodLink RX12 7 objectInit ∈ tq_tbl := tq_m6 31 rfl rfl
theorem pg_12_1 : tq_pg RX12 12 1 true (.array .byte) := ⟨_, rfl, by decide +kernel, by decide +kernel, rfl⟩
theorem pg_12_3 : tq_pg RX12 12 3 true (.array .byte) := ⟨_, rfl, by decide +kernel, by decide +kernel, rfl⟩
theorem pg_12_5 : tq_pg RX12 12 5 true (.array .int) := ⟨_, rfl, by decide +kernel, by decide +kernel, rfl⟩
theorem pg_12_6 : tq_pg RX12 12 6 true (.array .int) := ⟨_, rfl, by decide +kernel, by decide +kernel, rfl⟩
theorem pg_12_7 : tq_pg RX12 12 7 true (.array .int) := ⟨_, rfl, by decide +kernel, by decide +kernel, rfl⟩
theorem pg_12_8 : tq_pg RX12 12 8 true (.array .long) := ⟨_, rfl, by decide +kernel, by decide +kernel, rfl⟩
theorem pg_12_9 : tq_pg RX12 12 9 true (.array .long) := ⟨_, rfl, by decide +kernel, by decide +kernel, rfl⟩
theorem pg_12_17 : tq_pg RX12 12 17 false .int := ⟨_, rfl, by decide +kernel, by decide +kernel, rfl⟩
theorem pg_12_21 : tq_pg RX12 12 21 true (.array .long) := ⟨_, rfl, by decide +kernel, by decide +kernel, rfl⟩
theorem pg_12_22 : tq_pg RX12 12 22 true (.array .int) := ⟨_, rfl, by decide +kernel, by decide +kernel, rfl⟩
theorem pg_12_23 : tq_pg RX12 12 23 true (.array .int) := ⟨_, rfl, by decide +kernel, by decide +kernel, rfl⟩
theorem pg_12_24 : tq_pg RX12 12 24 true (.array .int) := ⟨_, rfl, by decide +kernel, by decide +kernel, rfl⟩
theorem pg_12_25 : tq_pg RX12 12 25 true (.array .boolean) := ⟨_, rfl, by decide +kernel, by decide +kernel, rfl⟩
theorem pg_12_26 : tq_pg RX12 12 26 true (.array .int) := ⟨_, rfl, by decide +kernel, by decide +kernel, rfl⟩
theorem pg_12_27 : tq_pg RX12 12 27 true (.array .boolean) := ⟨_, rfl, by decide +kernel, by decide +kernel, rfl⟩
theorem pg_12_28 : tq_pg RX12 12 28 true (.array .int) := ⟨_, rfl, by decide +kernel, by decide +kernel, rfl⟩
theorem pg_12_29 : tq_pg RX12 12 29 true (.array .boolean) := ⟨_, rfl, by decide +kernel, by decide +kernel, rfl⟩
theorem pg_12_30 : tq_pg RX12 12 30 true (.array .int) := ⟨_, rfl, by decide +kernel, by decide +kernel, rfl⟩
theorem pg_12_31 : tq_pg RX12 12 31 true (.array .int) := ⟨_, rfl, by decide +kernel, by decide +kernel, rfl⟩
theorem pg_12_32 : tq_pg RX12 12 32 true (.array .int) := ⟨_, rfl, by decide +kernel, by decide +kernel, rfl⟩
theorem pg_12_33 : tq_pg RX12 12 33 true (.array .int) := ⟨_, rfl, by decide +kernel, by decide +kernel, rfl⟩
theorem pg_12_34 : tq_pg RX12 12 34 true (.array .int) := ⟨_, rfl, by decide +kernel, by decide +kernel, rfl⟩
theorem pg_12_35 : tq_pg RX12 12 35 true (.array .int) := ⟨_, rfl, by decide +kernel, by decide +kernel, rfl⟩
theorem pg_12_36 : tq_pg RX12 12 36 true (.array .int) := ⟨_, rfl, by decide +kernel, by decide +kernel, rfl⟩
theorem pg_12_37 : tq_pg RX12 12 37 true (.array .int) := ⟨_, rfl, by decide +kernel, by decide +kernel, rfl⟩
theorem pg_12_38 : tq_pg RX12 12 38 true (.array .int) := ⟨_, rfl, by decide +kernel, by decide +kernel, rfl⟩
theorem pg_12_39 : tq_pg RX12 12 39 true (.array .int) := ⟨_, rfl, by decide +kernel, by decide +kernel, rfl⟩
theorem pg_12_40 : tq_pg RX12 12 40 true (.array .int) := ⟨_, rfl, by decide +kernel, by decide +kernel, rfl⟩
theorem pg_12_41 : tq_pg RX12 12 41 true (.array .boolean) := ⟨_, rfl, by decide +kernel, by decide +kernel, rfl⟩
theorem pg_12_42 : tq_pg RX12 12 42 true (.array .int) := ⟨_, rfl, by decide +kernel, by decide +kernel, rfl⟩
theorem pg_12_43 : tq_pg RX12 12 43 true (.array .int) := ⟨_, rfl, by decide +kernel, by decide +kernel, rfl⟩
theorem pg_12_45 : tq_pg RX12 12 45 true (.array .int) := ⟨_, rfl, by decide +kernel, by decide +kernel, rfl⟩
theorem pg_12_46 : tq_pg RX12 12 46 true (.array .int) := ⟨_, rfl, by decide +kernel, by decide +kernel, rfl⟩
theorem pg_12_47 : tq_pg RX12 12 47 true (.array .int) := ⟨_, rfl, by decide +kernel, by decide +kernel, rfl⟩
theorem pg_12_49 : tq_pg RX12 12 49 true (.array .int) := ⟨_, rfl, by decide +kernel, by decide +kernel, rfl⟩
theorem pg_12_50 : tq_pg RX12 12 50 true (.array .int) := ⟨_, rfl, by decide +kernel, by decide +kernel, rfl⟩
theorem pg_12_51 : tq_pg RX12 12 51 true (.array .int) := ⟨_, rfl, by decide +kernel, by decide +kernel, rfl⟩
theorem pg_12_53 : tq_pg RX12 12 53 true (.array .int) := ⟨_, rfl, by decide +kernel, by decide +kernel, rfl⟩
theorem pg_12_54 : tq_pg RX12 12 54 true (.array .int) := ⟨_, rfl, by decide +kernel, by decide +kernel, rfl⟩
theorem pg_12_55 : tq_pg RX12 12 55 true (.array .int) := ⟨_, rfl, by decide +kernel, by decide +kernel, rfl⟩
theorem pg_12_56 : tq_pg RX12 12 56 true (.array .int) := ⟨_, rfl, by decide +kernel, by decide +kernel, rfl⟩
theorem pg_12_57 : tq_pg RX12 12 57 true (.array .int) := ⟨_, rfl, by decide +kernel, by decide +kernel, rfl⟩
theorem pg_12_58 : tq_pg RX12 12 58 true (.array .boolean) := ⟨_, rfl, by decide +kernel, by decide +kernel, rfl⟩
theorem pg_12_59 : tq_pg RX12 12 59 true (.array .int) := ⟨_, rfl, by decide +kernel, by decide +kernel, rfl⟩
theorem pg_12_60 : tq_pg RX12 12 60 true (.array .int) := ⟨_, rfl, by decide +kernel, by decide +kernel, rfl⟩
theorem pg_12_62 : tq_pg RX12 12 62 true (.array .int) := ⟨_, rfl, by decide +kernel, by decide +kernel, rfl⟩
theorem pg_12_63 : tq_pg RX12 12 63 true (.array .int) := ⟨_, rfl, by decide +kernel, by decide +kernel, rfl⟩
theorem pg_12_64 : tq_pg RX12 12 64 true (.array .int) := ⟨_, rfl, by decide +kernel, by decide +kernel, rfl⟩
theorem pg_12_65 : tq_pg RX12 12 65 true (.array .boolean) := ⟨_, rfl, by decide +kernel, by decide +kernel, rfl⟩
theorem pg_12_69 : tq_pg RX12 12 69 true (.array .int) := ⟨_, rfl, by decide +kernel, by decide +kernel, rfl⟩
theorem pg_12_70 : tq_pg RX12 12 70 true (.array .boolean) := ⟨_, rfl, by decide +kernel, by decide +kernel, rfl⟩
theorem pg_12_72 : tq_pg RX12 12 72 true (.array .int) := ⟨_, rfl, by decide +kernel, by decide +kernel, rfl⟩
theorem pg_12_75 : tq_pg RX12 12 75 true (.array .int) := ⟨_, rfl, by decide +kernel, by decide +kernel, rfl⟩
theorem pg_12_76 : tq_pg RX12 12 76 true (.array .int) := ⟨_, rfl, by decide +kernel, by decide +kernel, rfl⟩
theorem pg_12_77 : tq_pg RX12 12 77 true (.array .int) := ⟨_, rfl, by decide +kernel, by decide +kernel, rfl⟩
theorem pg_12_78 : tq_pg RX12 12 78 true (.array .int) := ⟨_, rfl, by decide +kernel, by decide +kernel, rfl⟩
theorem ml_RX12_185 : Cond.methodLink RX12 185 mX12_word.1 ∈ tq_tbl := tq_m6 32 rfl rfl
theorem dX12_init_0 : decode cX12_init 0 = .ok (.aload_n 0, 1) := by decide +kernel
theorem dX12_init_1 : decode cX12_init 1 = .ok (.invokespecial 7, 3) := by decide +kernel
theorem dX12_init_4 : decode cX12_init 4 = .ok (.aload_n 0, 1) := by decide +kernel
theorem dX12_init_5 : decode cX12_init 5 = .ok (.sipush 2000, 3) := by decide +kernel
theorem dX12_init_8 : decode cX12_init 8 = .ok (.newarray .byte, 2) := by decide +kernel
theorem dX12_init_10 : decode cX12_init 10 = .ok (.putfield 13, 3) := by decide +kernel
theorem dX12_init_13 : decode cX12_init 13 = .ok (.aload_n 0, 1) := by decide +kernel
theorem dX12_init_14 : decode cX12_init 14 = .ok (.sipush 2000, 3) := by decide +kernel
theorem dX12_init_17 : decode cX12_init 17 = .ok (.newarray .byte, 2) := by decide +kernel
theorem dX12_init_19 : decode cX12_init 19 = .ok (.putfield 17, 3) := by decide +kernel
theorem dX12_init_22 : decode cX12_init 22 = .ok (.aload_n 0, 1) := by decide +kernel
theorem dX12_init_23 : decode cX12_init 23 = .ok (.sipush 403, 3) := by decide +kernel
theorem dX12_init_26 : decode cX12_init 26 = .ok (.newarray .int, 2) := by decide +kernel
theorem dX12_init_28 : decode cX12_init 28 = .ok (.putfield 20, 3) := by decide +kernel
theorem dX12_init_31 : decode cX12_init 31 = .ok (.aload_n 0, 1) := by decide +kernel
theorem dX12_init_32 : decode cX12_init 32 = .ok (.sipush 403, 3) := by decide +kernel
theorem dX12_init_35 : decode cX12_init 35 = .ok (.newarray .int, 2) := by decide +kernel
theorem dX12_init_37 : decode cX12_init 37 = .ok (.putfield 24, 3) := by decide +kernel
theorem dX12_init_40 : decode cX12_init 40 = .ok (.aload_n 0, 1) := by decide +kernel
theorem dX12_init_41 : decode cX12_init 41 = .ok (.sipush 403, 3) := by decide +kernel
theorem dX12_init_44 : decode cX12_init 44 = .ok (.newarray .int, 2) := by decide +kernel
theorem dX12_init_46 : decode cX12_init 46 = .ok (.putfield 27, 3) := by decide +kernel
theorem dX12_init_49 : decode cX12_init 49 = .ok (.aload_n 0, 1) := by decide +kernel
theorem dX12_init_50 : decode cX12_init 50 = .ok (.sipush 403, 3) := by decide +kernel
theorem dX12_init_53 : decode cX12_init 53 = .ok (.newarray .long, 2) := by decide +kernel
theorem dX12_init_55 : decode cX12_init 55 = .ok (.putfield 30, 3) := by decide +kernel
theorem dX12_init_58 : decode cX12_init 58 = .ok (.aload_n 0, 1) := by decide +kernel
theorem dX12_init_59 : decode cX12_init 59 = .ok (.bipush 22, 2) := by decide +kernel
theorem dX12_init_61 : decode cX12_init 61 = .ok (.newarray .long, 2) := by decide +kernel
theorem dX12_init_63 : decode cX12_init 63 = .ok (.putfield 34, 3) := by decide +kernel
theorem dX12_init_66 : decode cX12_init 66 = .ok (.aload_n 0, 1) := by decide +kernel
theorem dX12_init_67 : decode cX12_init 67 = .ok (.iconst (-1), 1) := by decide +kernel
theorem dX12_init_68 : decode cX12_init 68 = .ok (.putfield 37, 3) := by decide +kernel
theorem dX12_init_71 : decode cX12_init 71 = .ok (.aload_n 0, 1) := by decide +kernel
theorem dX12_init_72 : decode cX12_init 72 = .ok (.bipush 40, 2) := by decide +kernel
theorem dX12_init_74 : decode cX12_init 74 = .ok (.newarray .long, 2) := by decide +kernel
theorem dX12_init_76 : decode cX12_init 76 = .ok (.putfield 40, 3) := by decide +kernel
theorem dX12_init_79 : decode cX12_init 79 = .ok (.aload_n 0, 1) := by decide +kernel
theorem dX12_init_80 : decode cX12_init 80 = .ok (.bipush 40, 2) := by decide +kernel
theorem dX12_init_82 : decode cX12_init 82 = .ok (.newarray .int, 2) := by decide +kernel
theorem dX12_init_84 : decode cX12_init 84 = .ok (.putfield 43, 3) := by decide +kernel
theorem dX12_init_87 : decode cX12_init 87 = .ok (.aload_n 0, 1) := by decide +kernel
theorem dX12_init_88 : decode cX12_init 88 = .ok (.bipush 40, 2) := by decide +kernel
theorem dX12_init_90 : decode cX12_init 90 = .ok (.newarray .int, 2) := by decide +kernel
theorem dX12_init_92 : decode cX12_init 92 = .ok (.putfield 46, 3) := by decide +kernel
theorem dX12_init_95 : decode cX12_init 95 = .ok (.aload_n 0, 1) := by decide +kernel
theorem dX12_init_96 : decode cX12_init 96 = .ok (.iconst 2, 1) := by decide +kernel
theorem dX12_init_97 : decode cX12_init 97 = .ok (.newarray .int, 2) := by decide +kernel
theorem dX12_init_99 : decode cX12_init 99 = .ok (.putfield 49, 3) := by decide +kernel
theorem dX12_init_102 : decode cX12_init 102 = .ok (.aload_n 0, 1) := by decide +kernel
theorem dX12_init_103 : decode cX12_init 103 = .ok (.bipush 16, 2) := by decide +kernel
theorem dX12_init_105 : decode cX12_init 105 = .ok (.newarray .boolean, 2) := by decide +kernel
theorem dX12_init_107 : decode cX12_init 107 = .ok (.putfield 52, 3) := by decide +kernel
theorem dX12_init_110 : decode cX12_init 110 = .ok (.aload_n 0, 1) := by decide +kernel
theorem dX12_init_111 : decode cX12_init 111 = .ok (.bipush 48, 2) := by decide +kernel
theorem dX12_init_113 : decode cX12_init 113 = .ok (.newarray .int, 2) := by decide +kernel
theorem dX12_init_115 : decode cX12_init 115 = .ok (.putfield 56, 3) := by decide +kernel
theorem dX12_init_118 : decode cX12_init 118 = .ok (.aload_n 0, 1) := by decide +kernel
theorem dX12_init_119 : decode cX12_init 119 = .ok (.bipush 16, 2) := by decide +kernel
theorem dX12_init_121 : decode cX12_init 121 = .ok (.newarray .boolean, 2) := by decide +kernel
theorem dX12_init_123 : decode cX12_init 123 = .ok (.putfield 59, 3) := by decide +kernel
theorem dX12_init_126 : decode cX12_init 126 = .ok (.aload_n 0, 1) := by decide +kernel
theorem dX12_init_127 : decode cX12_init 127 = .ok (.iconst 2, 1) := by decide +kernel
theorem dX12_init_128 : decode cX12_init 128 = .ok (.newarray .int, 2) := by decide +kernel
theorem dX12_init_130 : decode cX12_init 130 = .ok (.putfield 62, 3) := by decide +kernel
theorem dX12_init_133 : decode cX12_init 133 = .ok (.aload_n 0, 1) := by decide +kernel
theorem dX12_init_134 : decode cX12_init 134 = .ok (.bipush 20, 2) := by decide +kernel
theorem dX12_init_136 : decode cX12_init 136 = .ok (.newarray .boolean, 2) := by decide +kernel
theorem dX12_init_138 : decode cX12_init 138 = .ok (.putfield 65, 3) := by decide +kernel
theorem dX12_init_141 : decode cX12_init 141 = .ok (.aload_n 0, 1) := by decide +kernel
theorem dX12_init_142 : decode cX12_init 142 = .ok (.bipush 60, 2) := by decide +kernel
theorem dX12_init_144 : decode cX12_init 144 = .ok (.newarray .int, 2) := by decide +kernel
theorem dX12_init_146 : decode cX12_init 146 = .ok (.putfield 68, 3) := by decide +kernel
theorem dX12_init_149 : decode cX12_init 149 = .ok (.aload_n 0, 1) := by decide +kernel
theorem dX12_init_150 : decode cX12_init 150 = .ok (.bipush 20, 2) := by decide +kernel
theorem dX12_init_152 : decode cX12_init 152 = .ok (.newarray .int, 2) := by decide +kernel
theorem dX12_init_154 : decode cX12_init 154 = .ok (.putfield 71, 3) := by decide +kernel
theorem dX12_init_157 : decode cX12_init 157 = .ok (.aload_n 0, 1) := by decide +kernel
theorem dX12_init_158 : decode cX12_init 158 = .ok (.iconst 2, 1) := by decide +kernel
theorem dX12_init_159 : decode cX12_init 159 = .ok (.newarray .int, 2) := by decide +kernel
theorem dX12_init_161 : decode cX12_init 161 = .ok (.putfield 74, 3) := by decide +kernel
theorem dX12_init_164 : decode cX12_init 164 = .ok (.aload_n 0, 1) := by decide +kernel
theorem dX12_init_165 : decode cX12_init 165 = .ok (.bipush 24, 2) := by decide +kernel
theorem dX12_init_167 : decode cX12_init 167 = .ok (.newarray .int, 2) := by decide +kernel
theorem dX12_init_169 : decode cX12_init 169 = .ok (.putfield 77, 3) := by decide +kernel
theorem dX12_init_172 : decode cX12_init 172 = .ok (.aload_n 0, 1) := by decide +kernel
theorem dX12_init_173 : decode cX12_init 173 = .ok (.iconst 2, 1) := by decide +kernel
theorem dX12_init_174 : decode cX12_init 174 = .ok (.newarray .int, 2) := by decide +kernel
theorem dX12_init_176 : decode cX12_init 176 = .ok (.putfield 80, 3) := by decide +kernel
theorem dX12_init_179 : decode cX12_init 179 = .ok (.aload_n 0, 1) := by decide +kernel
theorem dX12_init_180 : decode cX12_init 180 = .ok (.bipush 12, 2) := by decide +kernel
theorem dX12_init_182 : decode cX12_init 182 = .ok (.newarray .int, 2) := by decide +kernel
theorem dX12_init_184 : decode cX12_init 184 = .ok (.putfield 83, 3) := by decide +kernel
theorem dX12_init_187 : decode cX12_init 187 = .ok (.aload_n 0, 1) := by decide +kernel
theorem dX12_init_188 : decode cX12_init 188 = .ok (.bipush 12, 2) := by decide +kernel
theorem dX12_init_190 : decode cX12_init 190 = .ok (.newarray .int, 2) := by decide +kernel
theorem dX12_init_192 : decode cX12_init 192 = .ok (.putfield 86, 3) := by decide +kernel
theorem dX12_init_195 : decode cX12_init 195 = .ok (.aload_n 0, 1) := by decide +kernel
theorem dX12_init_196 : decode cX12_init 196 = .ok (.iconst 2, 1) := by decide +kernel
theorem dX12_init_197 : decode cX12_init 197 = .ok (.newarray .int, 2) := by decide +kernel
theorem dX12_init_199 : decode cX12_init 199 = .ok (.putfield 89, 3) := by decide +kernel
theorem dX12_init_202 : decode cX12_init 202 = .ok (.aload_n 0, 1) := by decide +kernel
theorem dX12_init_203 : decode cX12_init 203 = .ok (.bipush 8, 2) := by decide +kernel
theorem dX12_init_205 : decode cX12_init 205 = .ok (.newarray .int, 2) := by decide +kernel
theorem dX12_init_207 : decode cX12_init 207 = .ok (.putfield 92, 3) := by decide +kernel
theorem dX12_init_210 : decode cX12_init 210 = .ok (.aload_n 0, 1) := by decide +kernel
theorem dX12_init_211 : decode cX12_init 211 = .ok (.bipush 96, 2) := by decide +kernel
theorem dX12_init_213 : decode cX12_init 213 = .ok (.newarray .int, 2) := by decide +kernel
theorem dX12_init_215 : decode cX12_init 215 = .ok (.putfield 95, 3) := by decide +kernel
theorem dX12_init_218 : decode cX12_init 218 = .ok (.aload_n 0, 1) := by decide +kernel
theorem dX12_init_219 : decode cX12_init 219 = .ok (.bipush 96, 2) := by decide +kernel
theorem dX12_init_221 : decode cX12_init 221 = .ok (.newarray .int, 2) := by decide +kernel
theorem dX12_init_223 : decode cX12_init 223 = .ok (.putfield 98, 3) := by decide +kernel
theorem dX12_init_226 : decode cX12_init 226 = .ok (.aload_n 0, 1) := by decide +kernel
theorem dX12_init_227 : decode cX12_init 227 = .ok (.bipush 96, 2) := by decide +kernel
theorem dX12_init_229 : decode cX12_init 229 = .ok (.newarray .boolean, 2) := by decide +kernel
theorem dX12_init_231 : decode cX12_init 231 = .ok (.putfield 101, 3) := by decide +kernel
theorem dX12_init_234 : decode cX12_init 234 = .ok (.aload_n 0, 1) := by decide +kernel
theorem dX12_init_235 : decode cX12_init 235 = .ok (.bipush 96, 2) := by decide +kernel
theorem dX12_init_237 : decode cX12_init 237 = .ok (.newarray .int, 2) := by decide +kernel
theorem dX12_init_239 : decode cX12_init 239 = .ok (.putfield 104, 3) := by decide +kernel
theorem dX12_init_242 : decode cX12_init 242 = .ok (.aload_n 0, 1) := by decide +kernel
theorem dX12_init_243 : decode cX12_init 243 = .ok (.sipush 576, 3) := by decide +kernel
theorem dX12_init_246 : decode cX12_init 246 = .ok (.newarray .int, 2) := by decide +kernel
theorem dX12_init_248 : decode cX12_init 248 = .ok (.putfield 107, 3) := by decide +kernel
theorem dX12_init_251 : decode cX12_init 251 = .ok (.aload_n 0, 1) := by decide +kernel
theorem dX12_init_252 : decode cX12_init 252 = .ok (.sipush 840, 3) := by decide +kernel
theorem dX12_init_255 : decode cX12_init 255 = .ok (.newarray .int, 2) := by decide +kernel
theorem dX12_init_257 : decode cX12_init 257 = .ok (.putfield 110, 3) := by decide +kernel
theorem dX12_init_260 : decode cX12_init 260 = .ok (.aload_n 0, 1) := by decide +kernel
theorem dX12_init_261 : decode cX12_init 261 = .ok (.sipush 840, 3) := by decide +kernel
theorem dX12_init_264 : decode cX12_init 264 = .ok (.newarray .int, 2) := by decide +kernel
theorem dX12_init_266 : decode cX12_init 266 = .ok (.putfield 113, 3) := by decide +kernel
theorem dX12_init_269 : decode cX12_init 269 = .ok (.aload_n 0, 1) := by decide +kernel
theorem dX12_init_270 : decode cX12_init 270 = .ok (.sipush 420, 3) := by decide +kernel
theorem dX12_init_273 : decode cX12_init 273 = .ok (.newarray .int, 2) := by decide +kernel
theorem dX12_init_275 : decode cX12_init 275 = .ok (.putfield 116, 3) := by decide +kernel
theorem dX12_init_278 : decode cX12_init 278 = .ok (.aload_n 0, 1) := by decide +kernel
theorem dX12_init_279 : decode cX12_init 279 = .ok (.bipush 12, 2) := by decide +kernel
theorem dX12_init_281 : decode cX12_init 281 = .ok (.newarray .int, 2) := by decide +kernel
theorem dX12_init_283 : decode cX12_init 283 = .ok (.putfield 119, 3) := by decide +kernel
theorem dX12_init_286 : decode cX12_init 286 = .ok (.aload_n 0, 1) := by decide +kernel
theorem dX12_init_287 : decode cX12_init 287 = .ok (.sipush 420, 3) := by decide +kernel
theorem dX12_init_290 : decode cX12_init 290 = .ok (.newarray .int, 2) := by decide +kernel
theorem dX12_init_292 : decode cX12_init 292 = .ok (.putfield 122, 3) := by decide +kernel
theorem dX12_init_295 : decode cX12_init 295 = .ok (.aload_n 0, 1) := by decide +kernel
theorem dX12_init_296 : decode cX12_init 296 = .ok (.iconst 3, 1) := by decide +kernel
theorem dX12_init_297 : decode cX12_init 297 = .ok (.newarray .int, 2) := by decide +kernel
theorem dX12_init_299 : decode cX12_init 299 = .ok (.putfield 125, 3) := by decide +kernel
theorem dX12_init_302 : decode cX12_init 302 = .ok (.aload_n 0, 1) := by decide +kernel
theorem dX12_init_303 : decode cX12_init 303 = .ok (.bipush 80, 2) := by decide +kernel
theorem dX12_init_305 : decode cX12_init 305 = .ok (.newarray .int, 2) := by decide +kernel
theorem dX12_init_307 : decode cX12_init 307 = .ok (.putfield 128, 3) := by decide +kernel
theorem dX12_init_310 : decode cX12_init 310 = .ok (.aload_n 0, 1) := by decide +kernel
theorem dX12_init_311 : decode cX12_init 311 = .ok (.bipush 80, 2) := by decide +kernel
theorem dX12_init_313 : decode cX12_init 313 = .ok (.newarray .int, 2) := by decide +kernel
theorem dX12_init_315 : decode cX12_init 315 = .ok (.putfield 131, 3) := by decide +kernel
theorem dX12_init_318 : decode cX12_init 318 = .ok (.aload_n 0, 1) := by decide +kernel
theorem dX12_init_319 : decode cX12_init 319 = .ok (.bipush 80, 2) := by decide +kernel
theorem dX12_init_321 : decode cX12_init 321 = .ok (.newarray .int, 2) := by decide +kernel
theorem dX12_init_323 : decode cX12_init 323 = .ok (.putfield 134, 3) := by decide +kernel
theorem dX12_init_326 : decode cX12_init 326 = .ok (.aload_n 0, 1) := by decide +kernel
theorem dX12_init_327 : decode cX12_init 327 = .ok (.bipush 80, 2) := by decide +kernel
theorem dX12_init_329 : decode cX12_init 329 = .ok (.newarray .int, 2) := by decide +kernel
theorem dX12_init_331 : decode cX12_init 331 = .ok (.putfield 137, 3) := by decide +kernel
theorem dX12_init_334 : decode cX12_init 334 = .ok (.aload_n 0, 1) := by decide +kernel
theorem dX12_init_335 : decode cX12_init 335 = .ok (.bipush 80, 2) := by decide +kernel
theorem dX12_init_337 : decode cX12_init 337 = .ok (.newarray .int, 2) := by decide +kernel
theorem dX12_init_339 : decode cX12_init 339 = .ok (.putfield 140, 3) := by decide +kernel
theorem dX12_init_342 : decode cX12_init 342 = .ok (.aload_n 0, 1) := by decide +kernel
theorem dX12_init_343 : decode cX12_init 343 = .ok (.bipush 80, 2) := by decide +kernel
theorem dX12_init_345 : decode cX12_init 345 = .ok (.newarray .boolean, 2) := by decide +kernel
theorem dX12_init_347 : decode cX12_init 347 = .ok (.putfield 143, 3) := by decide +kernel
theorem dX12_init_350 : decode cX12_init 350 = .ok (.aload_n 0, 1) := by decide +kernel
theorem dX12_init_351 : decode cX12_init 351 = .ok (.bipush 80, 2) := by decide +kernel
theorem dX12_init_353 : decode cX12_init 353 = .ok (.newarray .int, 2) := by decide +kernel
theorem dX12_init_355 : decode cX12_init 355 = .ok (.putfield 146, 3) := by decide +kernel
theorem dX12_init_358 : decode cX12_init 358 = .ok (.aload_n 0, 1) := by decide +kernel
theorem dX12_init_359 : decode cX12_init 359 = .ok (.bipush 80, 2) := by decide +kernel
theorem dX12_init_361 : decode cX12_init 361 = .ok (.newarray .int, 2) := by decide +kernel
theorem dX12_init_363 : decode cX12_init 363 = .ok (.putfield 149, 3) := by decide +kernel
theorem dX12_init_366 : decode cX12_init 366 = .ok (.aload_n 0, 1) := by decide +kernel
theorem dX12_init_367 : decode cX12_init 367 = .ok (.bipush 12, 2) := by decide +kernel
theorem dX12_init_369 : decode cX12_init 369 = .ok (.newarray .int, 2) := by decide +kernel
theorem dX12_init_371 : decode cX12_init 371 = .ok (.putfield 152, 3) := by decide +kernel
theorem dX12_init_374 : decode cX12_init 374 = .ok (.aload_n 0, 1) := by decide +kernel
theorem dX12_init_375 : decode cX12_init 375 = .ok (.bipush 12, 2) := by decide +kernel
theorem dX12_init_377 : decode cX12_init 377 = .ok (.newarray .int, 2) := by decide +kernel
theorem dX12_init_379 : decode cX12_init 379 = .ok (.putfield 155, 3) := by decide +kernel
theorem dX12_init_382 : decode cX12_init 382 = .ok (.aload_n 0, 1) := by decide +kernel
theorem dX12_init_383 : decode cX12_init 383 = .ok (.bipush 7, 2) := by decide +kernel
theorem dX12_init_385 : decode cX12_init 385 = .ok (.newarray .int, 2) := by decide +kernel
theorem dX12_init_387 : decode cX12_init 387 = .ok (.putfield 158, 3) := by decide +kernel
theorem dX12_init_390 : decode cX12_init 390 = .ok (.aload_n 0, 1) := by decide +kernel
theorem dX12_init_391 : decode cX12_init 391 = .ok (.bipush 7, 2) := by decide +kernel
theorem dX12_init_393 : decode cX12_init 393 = .ok (.newarray .boolean, 2) := by decide +kernel
theorem dX12_init_395 : decode cX12_init 395 = .ok (.putfield 161, 3) := by decide +kernel
theorem dX12_init_398 : decode cX12_init 398 = .ok (.aload_n 0, 1) := by decide +kernel
theorem dX12_init_399 : decode cX12_init 399 = .ok (.bipush 8, 2) := by decide +kernel
theorem dX12_init_401 : decode cX12_init 401 = .ok (.newarray .int, 2) := by decide +kernel
theorem dX12_init_403 : decode cX12_init 403 = .ok (.putfield 164, 3) := by decide +kernel
theorem dX12_init_406 : decode cX12_init 406 = .ok (.aload_n 0, 1) := by decide +kernel
theorem dX12_init_407 : decode cX12_init 407 = .ok (.bipush 8, 2) := by decide +kernel
theorem dX12_init_409 : decode cX12_init 409 = .ok (.newarray .boolean, 2) := by decide +kernel
theorem dX12_init_411 : decode cX12_init 411 = .ok (.putfield 167, 3) := by decide +kernel
theorem dX12_init_414 : decode cX12_init 414 = .ok (.aload_n 0, 1) := by decide +kernel
theorem dX12_init_415 : decode cX12_init 415 = .ok (.bipush 12, 2) := by decide +kernel
theorem dX12_init_417 : decode cX12_init 417 = .ok (.newarray .int, 2) := by decide +kernel
theorem dX12_init_419 : decode cX12_init 419 = .ok (.putfield 170, 3) := by decide +kernel
theorem dX12_init_422 : decode cX12_init 422 = .ok (.aload_n 0, 1) := by decide +kernel
theorem dX12_init_423 : decode cX12_init 423 = .ok (.bipush 6, 2) := by decide +kernel
theorem dX12_init_425 : decode cX12_init 425 = .ok (.newarray .int, 2) := by decide +kernel
theorem dX12_init_427 : decode cX12_init 427 = .ok (.putfield 173, 3) := by decide +kernel
theorem dX12_init_430 : decode cX12_init 430 = .ok (.aload_n 0, 1) := by decide +kernel
theorem dX12_init_431 : decode cX12_init 431 = .ok (.bipush 6, 2) := by decide +kernel
theorem dX12_init_433 : decode cX12_init 433 = .ok (.newarray .int, 2) := by decide +kernel
theorem dX12_init_435 : decode cX12_init 435 = .ok (.putfield 176, 3) := by decide +kernel
theorem dX12_init_438 : decode cX12_init 438 = .ok (.aload_n 0, 1) := by decide +kernel
theorem dX12_init_439 : decode cX12_init 439 = .ok (.bipush 6, 2) := by decide +kernel
theorem dX12_init_441 : decode cX12_init 441 = .ok (.newarray .int, 2) := by decide +kernel
theorem dX12_init_443 : decode cX12_init 443 = .ok (.putfield 179, 3) := by decide +kernel
theorem dX12_init_446 : decode cX12_init 446 = .ok (.aload_n 0, 1) := by decide +kernel
theorem dX12_init_447 : decode cX12_init 447 = .ok (.bipush 6, 2) := by decide +kernel
theorem dX12_init_449 : decode cX12_init 449 = .ok (.newarray .int, 2) := by decide +kernel
theorem dX12_init_451 : decode cX12_init 451 = .ok (.putfield 182, 3) := by decide +kernel
theorem dX12_init_454 : decode cX12_init 454 = .ok (.aload_n 0, 1) := by decide +kernel
theorem dX12_init_455 : decode cX12_init 455 = .ok (.getfield 34, 3) := by decide +kernel
theorem dX12_init_458 : decode cX12_init 458 = .ok (.iconst 0, 1) := by decide +kernel
theorem dX12_init_459 : decode cX12_init 459 = .ok (.bipush 102, 2) := by decide +kernel
theorem dX12_init_461 : decode cX12_init 461 = .ok (.bipush 105, 2) := by decide +kernel
theorem dX12_init_463 : decode cX12_init 463 = .ok (.bipush 100, 2) := by decide +kernel
theorem dX12_init_465 : decode cX12_init 465 = .ok (.bipush 100, 2) := by decide +kernel
theorem dX12_init_467 : decode cX12_init 467 = .ok (.bipush 108, 2) := by decide +kernel
theorem dX12_init_469 : decode cX12_init 469 = .ok (.bipush 101, 2) := by decide +kernel
theorem dX12_init_471 : decode cX12_init 471 = .ok (.iconst 0, 1) := by decide +kernel
theorem dX12_init_472 : decode cX12_init 472 = .ok (.invokestatic 185, 3) := by decide +kernel
theorem dX12_init_475 : decode cX12_init 475 = .ok (.lastore, 1) := by decide +kernel
theorem dX12_init_476 : decode cX12_init 476 = .ok (.aload_n 0, 1) := by decide +kernel
theorem dX12_init_477 : decode cX12_init 477 = .ok (.getfield 34, 3) := by decide +kernel
theorem dX12_init_480 : decode cX12_init 480 = .ok (.iconst 1, 1) := by decide +kernel
theorem dX12_init_481 : decode cX12_init 481 = .ok (.bipush 111, 2) := by decide +kernel
theorem dX12_init_483 : decode cX12_init 483 = .ok (.bipush 108, 2) := by decide +kernel
theorem dX12_init_485 : decode cX12_init 485 = .ok (.bipush 100, 2) := by decide +kernel
theorem dX12_init_487 : decode cX12_init 487 = .ok (.iconst 0, 1) := by decide +kernel
theorem dX12_init_488 : decode cX12_init 488 = .ok (.iconst 0, 1) := by decide +kernel
theorem dX12_init_489 : decode cX12_init 489 = .ok (.iconst 0, 1) := by decide +kernel
theorem dX12_init_490 : decode cX12_init 490 = .ok (.iconst 0, 1) := by decide +kernel
theorem dX12_init_491 : decode cX12_init 491 = .ok (.invokestatic 185, 3) := by decide +kernel
theorem dX12_init_494 : decode cX12_init 494 = .ok (.lastore, 1) := by decide +kernel
theorem dX12_init_495 : decode cX12_init 495 = .ok (.aload_n 0, 1) := by decide +kernel
theorem dX12_init_496 : decode cX12_init 496 = .ok (.getfield 34, 3) := by decide +kernel
theorem dX12_init_499 : decode cX12_init 499 = .ok (.iconst 2, 1) := by decide +kernel
theorem dX12_init_500 : decode cX12_init 500 = .ok (.bipush 110, 2) := by decide +kernel
theorem dX12_init_502 : decode cX12_init 502 = .ok (.bipush 101, 2) := by decide +kernel
theorem dX12_init_504 : decode cX12_init 504 = .ok (.bipush 119, 2) := by decide +kernel
theorem dX12_init_506 : decode cX12_init 506 = .ok (.iconst 0, 1) := by decide +kernel
theorem dX12_init_507 : decode cX12_init 507 = .ok (.iconst 0, 1) := by decide +kernel
theorem dX12_init_508 : decode cX12_init 508 = .ok (.iconst 0, 1) := by decide +kernel
theorem dX12_init_509 : decode cX12_init 509 = .ok (.iconst 0, 1) := by decide +kernel
theorem dX12_init_510 : decode cX12_init 510 = .ok (.invokestatic 185, 3) := by decide +kernel
theorem dX12_init_513 : decode cX12_init 513 = .ok (.lastore, 1) := by decide +kernel
theorem dX12_init_514 : decode cX12_init 514 = .ok (.aload_n 0, 1) := by decide +kernel
theorem dX12_init_515 : decode cX12_init 515 = .ok (.getfield 34, 3) := by decide +kernel
theorem dX12_init_518 : decode cX12_init 518 = .ok (.iconst 3, 1) := by decide +kernel
theorem dX12_init_519 : decode cX12_init 519 = .ok (.bipush 98, 2) := by decide +kernel
theorem dX12_init_521 : decode cX12_init 521 = .ok (.bipush 97, 2) := by decide +kernel
theorem dX12_init_523 : decode cX12_init 523 = .ok (.bipush 114, 2) := by decide +kernel
theorem dX12_init_525 : decode cX12_init 525 = .ok (.bipush 114, 2) := by decide +kernel
theorem dX12_init_527 : decode cX12_init 527 = .ok (.bipush 101, 2) := by decide +kernel
theorem dX12_init_529 : decode cX12_init 529 = .ok (.bipush 100, 2) := by decide +kernel
theorem dX12_init_531 : decode cX12_init 531 = .ok (.iconst 0, 1) := by decide +kernel
theorem dX12_init_532 : decode cX12_init 532 = .ok (.invokestatic 185, 3) := by decide +kernel
theorem dX12_init_535 : decode cX12_init 535 = .ok (.lastore, 1) := by decide +kernel
theorem dX12_init_536 : decode cX12_init 536 = .ok (.aload_n 0, 1) := by decide +kernel
theorem dX12_init_537 : decode cX12_init 537 = .ok (.getfield 34, 3) := by decide +kernel
theorem dX12_init_540 : decode cX12_init 540 = .ok (.iconst 4, 1) := by decide +kernel
theorem dX12_init_541 : decode cX12_init 541 = .ok (.bipush 112, 2) := by decide +kernel
theorem dX12_init_543 : decode cX12_init 543 = .ok (.bipush 108, 2) := by decide +kernel
theorem dX12_init_545 : decode cX12_init 545 = .ok (.bipush 97, 2) := by decide +kernel
theorem dX12_init_547 : decode cX12_init 547 = .ok (.bipush 121, 2) := by decide +kernel
theorem dX12_init_549 : decode cX12_init 549 = .ok (.bipush 101, 2) := by decide +kernel
theorem dX12_init_551 : decode cX12_init 551 = .ok (.bipush 114, 2) := by decide +kernel
theorem dX12_init_553 : decode cX12_init 553 = .ok (.iconst 0, 1) := by decide +kernel
theorem dX12_init_554 : decode cX12_init 554 = .ok (.invokestatic 185, 3) := by decide +kernel
theorem dX12_init_557 : decode cX12_init 557 = .ok (.lastore, 1) := by decide +kernel
theorem dX12_init_558 : decode cX12_init 558 = .ok (.aload_n 0, 1) := by decide +kernel
theorem dX12_init_559 : decode cX12_init 559 = .ok (.getfield 34, 3) := by decide +kernel
theorem dX12_init_562 : decode cX12_init 562 = .ok (.iconst 5, 1) := by decide +kernel
theorem dX12_init_563 : decode cX12_init 563 = .ok (.bipush 104, 2) := by decide +kernel
theorem dX12_init_565 : decode cX12_init 565 = .ok (.bipush 101, 2) := by decide +kernel
theorem dX12_init_567 : decode cX12_init 567 = .ok (.bipush 97, 2) := by decide +kernel
theorem dX12_init_569 : decode cX12_init 569 = .ok (.bipush 114, 2) := by decide +kernel
theorem dX12_init_571 : decode cX12_init 571 = .ok (.bipush 101, 2) := by decide +kernel
theorem dX12_init_573 : decode cX12_init 573 = .ok (.bipush 114, 2) := by decide +kernel
theorem dX12_init_575 : decode cX12_init 575 = .ok (.iconst 0, 1) := by decide +kernel
theorem dX12_init_576 : decode cX12_init 576 = .ok (.invokestatic 185, 3) := by decide +kernel
theorem dX12_init_579 : decode cX12_init 579 = .ok (.lastore, 1) := by decide +kernel
theorem dX12_init_580 : decode cX12_init 580 = .ok (.aload_n 0, 1) := by decide +kernel
theorem dX12_init_581 : decode cX12_init 581 = .ok (.getfield 34, 3) := by decide +kernel
theorem dX12_init_584 : decode cX12_init 584 = .ok (.bipush 6, 2) := by decide +kernel
theorem dX12_init_586 : decode cX12_init 586 = .ok (.bipush 98, 2) := by decide +kernel
theorem dX12_init_588 : decode cX12_init 588 = .ok (.bipush 111, 2) := by decide +kernel
theorem dX12_init_590 : decode cX12_init 590 = .ok (.bipush 119, 2) := by decide +kernel
theorem dX12_init_592 : decode cX12_init 592 = .ok (.iconst 0, 1) := by decide +kernel
theorem dX12_init_593 : decode cX12_init 593 = .ok (.iconst 0, 1) := by decide +kernel
theorem dX12_init_594 : decode cX12_init 594 = .ok (.iconst 0, 1) := by decide +kernel
theorem dX12_init_595 : decode cX12_init 595 = .ok (.iconst 0, 1) := by decide +kernel
theorem dX12_init_596 : decode cX12_init 596 = .ok (.invokestatic 185, 3) := by decide +kernel
theorem dX12_init_599 : decode cX12_init 599 = .ok (.lastore, 1) := by decide +kernel
theorem dX12_init_600 : decode cX12_init 600 = .ok (.aload_n 0, 1) := by decide +kernel
theorem dX12_init_601 : decode cX12_init 601 = .ok (.getfield 34, 3) := by decide +kernel
theorem dX12_init_604 : decode cX12_init 604 = .ok (.bipush 7, 2) := by decide +kernel
theorem dX12_init_606 : decode cX12_init 606 = .ok (.bipush 108, 2) := by decide +kernel
theorem dX12_init_608 : decode cX12_init 608 = .ok (.bipush 97, 2) := by decide +kernel
theorem dX12_init_610 : decode cX12_init 610 = .ok (.bipush 119, 2) := by decide +kernel
theorem dX12_init_612 : decode cX12_init 612 = .ok (.iconst 0, 1) := by decide +kernel
theorem dX12_init_613 : decode cX12_init 613 = .ok (.iconst 0, 1) := by decide +kernel
theorem dX12_init_614 : decode cX12_init 614 = .ok (.iconst 0, 1) := by decide +kernel
theorem dX12_init_615 : decode cX12_init 615 = .ok (.iconst 0, 1) := by decide +kernel
theorem dX12_init_616 : decode cX12_init 616 = .ok (.invokestatic 185, 3) := by decide +kernel
theorem dX12_init_619 : decode cX12_init 619 = .ok (.lastore, 1) := by decide +kernel
theorem dX12_init_620 : decode cX12_init 620 = .ok (.aload_n 0, 1) := by decide +kernel
theorem dX12_init_621 : decode cX12_init 621 = .ok (.getfield 34, 3) := by decide +kernel
theorem dX12_init_624 : decode cX12_init 624 = .ok (.bipush 8, 2) := by decide +kernel
theorem dX12_init_626 : decode cX12_init 626 = .ok (.bipush 112, 2) := by decide +kernel
theorem dX12_init_628 : decode cX12_init 628 = .ok (.bipush 108, 2) := by decide +kernel
theorem dX12_init_630 : decode cX12_init 630 = .ok (.bipush 97, 2) := by decide +kernel
theorem dX12_init_632 : decode cX12_init 632 = .ok (.bipush 110, 2) := by decide +kernel
theorem dX12_init_634 : decode cX12_init 634 = .ok (.iconst 0, 1) := by decide +kernel
theorem dX12_init_635 : decode cX12_init 635 = .ok (.iconst 0, 1) := by decide +kernel
theorem dX12_init_636 : decode cX12_init 636 = .ok (.iconst 0, 1) := by decide +kernel
theorem dX12_init_637 : decode cX12_init 637 = .ok (.invokestatic 185, 3) := by decide +kernel
theorem dX12_init_640 : decode cX12_init 640 = .ok (.lastore, 1) := by decide +kernel
theorem dX12_init_641 : decode cX12_init 641 = .ok (.aload_n 0, 1) := by decide +kernel
theorem dX12_init_642 : decode cX12_init 642 = .ok (.getfield 34, 3) := by decide +kernel
theorem dX12_init_645 : decode cX12_init 645 = .ok (.bipush 9, 2) := by decide +kernel
theorem dX12_init_647 : decode cX12_init 647 = .ok (.bipush 115, 2) := by decide +kernel
theorem dX12_init_649 : decode cX12_init 649 = .ok (.bipush 105, 2) := by decide +kernel
theorem dX12_init_651 : decode cX12_init 651 = .ok (.bipush 116, 2) := by decide +kernel
theorem dX12_init_653 : decode cX12_init 653 = .ok (.iconst 0, 1) := by decide +kernel
theorem dX12_init_654 : decode cX12_init 654 = .ok (.iconst 0, 1) := by decide +kernel
theorem dX12_init_655 : decode cX12_init 655 = .ok (.iconst 0, 1) := by decide +kernel
theorem dX12_init_656 : decode cX12_init 656 = .ok (.iconst 0, 1) := by decide +kernel
theorem dX12_init_657 : decode cX12_init 657 = .ok (.invokestatic 185, 3) := by decide +kernel
theorem dX12_init_660 : decode cX12_init 660 = .ok (.lastore, 1) := by decide +kernel
theorem dX12_init_661 : decode cX12_init 661 = .ok (.aload_n 0, 1) := by decide +kernel
theorem dX12_init_662 : decode cX12_init 662 = .ok (.getfield 34, 3) := by decide +kernel
theorem dX12_init_665 : decode cX12_init 665 = .ok (.bipush 10, 2) := by decide +kernel
theorem dX12_init_667 : decode cX12_init 667 = .ok (.bipush 119, 2) := by decide +kernel
theorem dX12_init_669 : decode cX12_init 669 = .ok (.bipush 105, 2) := by decide +kernel
theorem dX12_init_671 : decode cX12_init 671 = .ok (.bipush 116, 2) := by decide +kernel
theorem dX12_init_673 : decode cX12_init 673 = .ok (.bipush 104, 2) := by decide +kernel
theorem dX12_init_675 : decode cX12_init 675 = .ok (.iconst 0, 1) := by decide +kernel
theorem dX12_init_676 : decode cX12_init 676 = .ok (.iconst 0, 1) := by decide +kernel
theorem dX12_init_677 : decode cX12_init 677 = .ok (.iconst 0, 1) := by decide +kernel
theorem dX12_init_678 : decode cX12_init 678 = .ok (.invokestatic 185, 3) := by decide +kernel
theorem dX12_init_681 : decode cX12_init 681 = .ok (.lastore, 1) := by decide +kernel
theorem dX12_init_682 : decode cX12_init 682 = .ok (.aload_n 0, 1) := by decide +kernel
theorem dX12_init_683 : decode cX12_init 683 = .ok (.getfield 34, 3) := by decide +kernel
theorem dX12_init_686 : decode cX12_init 686 = .ok (.bipush 11, 2) := by decide +kernel
theorem dX12_init_688 : decode cX12_init 688 = .ok (.bipush 115, 2) := by decide +kernel
theorem dX12_init_690 : decode cX12_init 690 = .ok (.bipush 101, 2) := by decide +kernel
theorem dX12_init_692 : decode cX12_init 692 = .ok (.bipush 101, 2) := by decide +kernel
theorem dX12_init_694 : decode cX12_init 694 = .ok (.bipush 110, 2) := by decide +kernel
theorem dX12_init_696 : decode cX12_init 696 = .ok (.iconst 0, 1) := by decide +kernel
theorem dX12_init_697 : decode cX12_init 697 = .ok (.iconst 0, 1) := by decide +kernel
theorem dX12_init_698 : decode cX12_init 698 = .ok (.iconst 0, 1) := by decide +kernel
theorem dX12_init_699 : decode cX12_init 699 = .ok (.invokestatic 185, 3) := by decide +kernel
theorem dX12_init_702 : decode cX12_init 702 = .ok (.lastore, 1) := by decide +kernel
theorem dX12_init_703 : decode cX12_init 703 = .ok (.aload_n 0, 1) := by decide +kernel
theorem dX12_init_704 : decode cX12_init 704 = .ok (.getfield 34, 3) := by decide +kernel
theorem dX12_init_707 : decode cX12_init 707 = .ok (.bipush 12, 2) := by decide +kernel
theorem dX12_init_709 : decode cX12_init 709 = .ok (.bipush 98, 2) := by decide +kernel
theorem dX12_init_711 : decode cX12_init 711 = .ok (.bipush 114, 2) := by decide +kernel
theorem dX12_init_713 : decode cX12_init 713 = .ok (.bipush 105, 2) := by decide +kernel
theorem dX12_init_715 : decode cX12_init 715 = .ok (.bipush 103, 2) := by decide +kernel
theorem dX12_init_717 : decode cX12_init 717 = .ok (.bipush 104, 2) := by decide +kernel
theorem dX12_init_719 : decode cX12_init 719 = .ok (.bipush 116, 2) := by decide +kernel
theorem dX12_init_721 : decode cX12_init 721 = .ok (.iconst 0, 1) := by decide +kernel
theorem dX12_init_722 : decode cX12_init 722 = .ok (.invokestatic 185, 3) := by decide +kernel
theorem dX12_init_725 : decode cX12_init 725 = .ok (.lastore, 1) := by decide +kernel
theorem dX12_init_726 : decode cX12_init 726 = .ok (.aload_n 0, 1) := by decide +kernel
theorem dX12_init_727 : decode cX12_init 727 = .ok (.getfield 34, 3) := by decide +kernel
theorem dX12_init_730 : decode cX12_init 730 = .ok (.bipush 13, 2) := by decide +kernel
theorem dX12_init_732 : decode cX12_init 732 = .ok (.bipush 108, 2) := by decide +kernel
theorem dX12_init_734 : decode cX12_init 734 = .ok (.bipush 111, 2) := by decide +kernel
theorem dX12_init_736 : decode cX12_init 736 = .ok (.bipush 117, 2) := by decide +kernel
theorem dX12_init_738 : decode cX12_init 738 = .ok (.bipush 100, 2) := by decide +kernel
theorem dX12_init_740 : decode cX12_init 740 = .ok (.iconst 0, 1) := by decide +kernel
theorem dX12_init_741 : decode cX12_init 741 = .ok (.iconst 0, 1) := by decide +kernel
theorem dX12_init_742 : decode cX12_init 742 = .ok (.iconst 0, 1) := by decide +kernel
theorem dX12_init_743 : decode cX12_init 743 = .ok (.invokestatic 185, 3) := by decide +kernel
theorem dX12_init_746 : decode cX12_init 746 = .ok (.lastore, 1) := by decide +kernel
theorem dX12_init_747 : decode cX12_init 747 = .ok (.aload_n 0, 1) := by decide +kernel
theorem dX12_init_748 : decode cX12_init 748 = .ok (.getfield 34, 3) := by decide +kernel
theorem dX12_init_751 : decode cX12_init 751 = .ok (.bipush 14, 2) := by decide +kernel
theorem dX12_init_753 : decode cX12_init 753 = .ok (.bipush 113, 2) := by decide +kernel
theorem dX12_init_755 : decode cX12_init 755 = .ok (.bipush 117, 2) := by decide +kernel
theorem dX12_init_757 : decode cX12_init 757 = .ok (.bipush 105, 2) := by decide +kernel
theorem dX12_init_759 : decode cX12_init 759 = .ok (.bipush 99, 2) := by decide +kernel
theorem dX12_init_761 : decode cX12_init 761 = .ok (.bipush 107, 2) := by decide +kernel
theorem dX12_init_763 : decode cX12_init 763 = .ok (.iconst 0, 1) := by decide +kernel
theorem dX12_init_764 : decode cX12_init 764 = .ok (.iconst 0, 1) := by decide +kernel
theorem dX12_init_765 : decode cX12_init 765 = .ok (.invokestatic 185, 3) := by decide +kernel
theorem dX12_init_768 : decode cX12_init 768 = .ok (.lastore, 1) := by decide +kernel
theorem dX12_init_769 : decode cX12_init 769 = .ok (.aload_n 0, 1) := by decide +kernel
theorem dX12_init_770 : decode cX12_init 770 = .ok (.getfield 34, 3) := by decide +kernel
theorem dX12_init_773 : decode cX12_init 773 = .ok (.bipush 15, 2) := by decide +kernel
theorem dX12_init_775 : decode cX12_init 775 = .ok (.bipush 119, 2) := by decide +kernel
theorem dX12_init_777 : decode cX12_init 777 = .ok (.bipush 97, 2) := by decide +kernel
theorem dX12_init_779 : decode cX12_init 779 = .ok (.bipush 114, 2) := by decide +kernel
theorem dX12_init_781 : decode cX12_init 781 = .ok (.bipush 109, 2) := by decide +kernel
theorem dX12_init_783 : decode cX12_init 783 = .ok (.iconst 0, 1) := by decide +kernel
theorem dX12_init_784 : decode cX12_init 784 = .ok (.iconst 0, 1) := by decide +kernel
theorem dX12_init_785 : decode cX12_init 785 = .ok (.iconst 0, 1) := by decide +kernel
theorem dX12_init_786 : decode cX12_init 786 = .ok (.invokestatic 185, 3) := by decide +kernel
theorem dX12_init_789 : decode cX12_init 789 = .ok (.lastore, 1) := by decide +kernel
theorem dX12_init_790 : decode cX12_init 790 = .ok (.aload_n 0, 1) := by decide +kernel
theorem dX12_init_791 : decode cX12_init 791 = .ok (.getfield 34, 3) := by decide +kernel
theorem dX12_init_794 : decode cX12_init 794 = .ok (.bipush 16, 2) := by decide +kernel
theorem dX12_init_796 : decode cX12_init 796 = .ok (.bipush 115, 2) := by decide +kernel
theorem dX12_init_798 : decode cX12_init 798 = .ok (.bipush 116, 2) := by decide +kernel
theorem dX12_init_800 : decode cX12_init 800 = .ok (.bipush 114, 2) := by decide +kernel
theorem dX12_init_802 : decode cX12_init 802 = .ok (.bipush 111, 2) := by decide +kernel
theorem dX12_init_804 : decode cX12_init 804 = .ok (.bipush 110, 2) := by decide +kernel
theorem dX12_init_806 : decode cX12_init 806 = .ok (.bipush 103, 2) := by decide +kernel
theorem dX12_init_808 : decode cX12_init 808 = .ok (.iconst 0, 1) := by decide +kernel
theorem dX12_init_809 : decode cX12_init 809 = .ok (.invokestatic 185, 3) := by decide +kernel
theorem dX12_init_812 : decode cX12_init 812 = .ok (.lastore, 1) := by decide +kernel
theorem dX12_init_813 : decode cX12_init 813 = .ok (.aload_n 0, 1) := by decide +kernel
theorem dX12_init_814 : decode cX12_init 814 = .ok (.getfield 34, 3) := by decide +kernel
theorem dX12_init_817 : decode cX12_init 817 = .ok (.bipush 17, 2) := by decide +kernel
theorem dX12_init_819 : decode cX12_init 819 = .ok (.bipush 108, 2) := by decide +kernel
theorem dX12_init_821 : decode cX12_init 821 = .ok (.bipush 105, 2) := by decide +kernel
theorem dX12_init_823 : decode cX12_init 823 = .ok (.bipush 103, 2) := by decide +kernel
theorem dX12_init_825 : decode cX12_init 825 = .ok (.bipush 104, 2) := by decide +kernel
theorem dX12_init_827 : decode cX12_init 827 = .ok (.bipush 116, 2) := by decide +kernel
theorem dX12_init_829 : decode cX12_init 829 = .ok (.iconst 0, 1) := by decide +kernel
theorem dX12_init_830 : decode cX12_init 830 = .ok (.iconst 0, 1) := by decide +kernel
theorem dX12_init_831 : decode cX12_init 831 = .ok (.invokestatic 185, 3) := by decide +kernel
theorem dX12_init_834 : decode cX12_init 834 = .ok (.lastore, 1) := by decide +kernel
theorem dX12_init_835 : decode cX12_init 835 = .ok (.aload_n 0, 1) := by decide +kernel
theorem dX12_init_836 : decode cX12_init 836 = .ok (.getfield 34, 3) := by decide +kernel
theorem dX12_init_839 : decode cX12_init 839 = .ok (.bipush 18, 2) := by decide +kernel
theorem dX12_init_841 : decode cX12_init 841 = .ok (.bipush 104, 2) := by decide +kernel
theorem dX12_init_843 : decode cX12_init 843 = .ok (.bipush 97, 2) := by decide +kernel
theorem dX12_init_845 : decode cX12_init 845 = .ok (.bipush 98, 2) := by decide +kernel
theorem dX12_init_847 : decode cX12_init 847 = .ok (.bipush 105, 2) := by decide +kernel
theorem dX12_init_849 : decode cX12_init 849 = .ok (.bipush 116, 2) := by decide +kernel
theorem dX12_init_851 : decode cX12_init 851 = .ok (.iconst 0, 1) := by decide +kernel
theorem dX12_init_852 : decode cX12_init 852 = .ok (.iconst 0, 1) := by decide +kernel
theorem dX12_init_853 : decode cX12_init 853 = .ok (.invokestatic 185, 3) := by decide +kernel
theorem dX12_init_856 : decode cX12_init 856 = .ok (.lastore, 1) := by decide +kernel
theorem dX12_init_857 : decode cX12_init 857 = .ok (.aload_n 0, 1) := by decide +kernel
theorem dX12_init_858 : decode cX12_init 858 = .ok (.getfield 34, 3) := by decide +kernel
theorem dX12_init_861 : decode cX12_init 861 = .ok (.bipush 19, 2) := by decide +kernel
theorem dX12_init_863 : decode cX12_init 863 = .ok (.bipush 115, 2) := by decide +kernel
theorem dX12_init_865 : decode cX12_init 865 = .ok (.bipush 112, 2) := by decide +kernel
theorem dX12_init_867 : decode cX12_init 867 = .ok (.bipush 111, 2) := by decide +kernel
theorem dX12_init_869 : decode cX12_init 869 = .ok (.bipush 116, 2) := by decide +kernel
theorem dX12_init_871 : decode cX12_init 871 = .ok (.iconst 0, 1) := by decide +kernel
theorem dX12_init_872 : decode cX12_init 872 = .ok (.iconst 0, 1) := by decide +kernel
theorem dX12_init_873 : decode cX12_init 873 = .ok (.iconst 0, 1) := by decide +kernel
theorem dX12_init_874 : decode cX12_init 874 = .ok (.invokestatic 185, 3) := by decide +kernel
theorem dX12_init_877 : decode cX12_init 877 = .ok (.lastore, 1) := by decide +kernel
theorem dX12_init_878 : decode cX12_init 878 = .ok (.aload_n 0, 1) := by decide +kernel
theorem dX12_init_879 : decode cX12_init 879 = .ok (.getfield 34, 3) := by decide +kernel
theorem dX12_init_882 : decode cX12_init 882 = .ok (.bipush 20, 2) := by decide +kernel
theorem dX12_init_884 : decode cX12_init 884 = .ok (.bipush 102, 2) := by decide +kernel
theorem dX12_init_886 : decode cX12_init 886 = .ok (.bipush 97, 2) := by decide +kernel
theorem dX12_init_888 : decode cX12_init 888 = .ok (.bipush 114, 2) := by decide +kernel
theorem dX12_init_890 : decode cX12_init 890 = .ok (.iconst 0, 1) := by decide +kernel
theorem dX12_init_891 : decode cX12_init 891 = .ok (.iconst 0, 1) := by decide +kernel
theorem dX12_init_892 : decode cX12_init 892 = .ok (.iconst 0, 1) := by decide +kernel
theorem dX12_init_893 : decode cX12_init 893 = .ok (.iconst 0, 1) := by decide +kernel
theorem dX12_init_894 : decode cX12_init 894 = .ok (.invokestatic 185, 3) := by decide +kernel
theorem dX12_init_897 : decode cX12_init 897 = .ok (.lastore, 1) := by decide +kernel
theorem dX12_init_898 : decode cX12_init 898 = .ok (.aload_n 0, 1) := by decide +kernel
theorem dX12_init_899 : decode cX12_init 899 = .ok (.getfield 34, 3) := by decide +kernel
theorem dX12_init_902 : decode cX12_init 902 = .ok (.bipush 21, 2) := by decide +kernel
theorem dX12_init_904 : decode cX12_init 904 = .ok (.bipush 110, 2) := by decide +kernel
theorem dX12_init_906 : decode cX12_init 906 = .ok (.bipush 111, 2) := by decide +kernel
theorem dX12_init_908 : decode cX12_init 908 = .ok (.bipush 105, 2) := by decide +kernel
theorem dX12_init_910 : decode cX12_init 910 = .ok (.bipush 115, 2) := by decide +kernel
theorem dX12_init_912 : decode cX12_init 912 = .ok (.bipush 101, 2) := by decide +kernel
theorem dX12_init_914 : decode cX12_init 914 = .ok (.iconst 0, 1) := by decide +kernel
theorem dX12_init_915 : decode cX12_init 915 = .ok (.iconst 0, 1) := by decide +kernel
theorem dX12_init_916 : decode cX12_init 916 = .ok (.invokestatic 185, 3) := by decide +kernel
theorem dX12_init_919 : decode cX12_init 919 = .ok (.lastore, 1) := by decide +kernel
theorem dX12_init_920 : decode cX12_init 920 = .ok (.return_, 1) := by decide +kernel
abbrev nX12 : mi_T := (yX12_init, cX12_init, 1, none)
def sX12 : sh_T := [.inr (12, [none, some 55, none, some 54, none, some 53, some 52, some 51, some 50, some 49, none, none, none, none, none, none, none, none, none, none, none, some 48, some 47, some 46, some 45, some 44, some 43, some 42, some 41, some 40, some 39, some 38, some 37, some 36, some 35, some 34, some 33, some 32, some 31, some 30, some 29, some 28, some 27, some 26, none, some 25, some 24, some 23, none, some 22, some 21, some 20, none, some 19, some 18, some 17, some 16, some 15, some 14, some 13, some 12, none, some 11, some 10, some 9, some 8, none, none, none, some 7, some 6, none, some 5, none, none, some 4, some 3, some 2, some 1]), .inl (0, 6), .inl (0, 6), .inl (0, 6), .inl (0, 6), .inl (0, 12), .inl (2, 8), .inl (0, 8), .inl (2, 7), .inl (0, 7), .inl (0, 12), .inl (0, 12), .inl (0, 80), .inl (0, 80), .inl (2, 80), .inl (0, 80), .inl (0, 80), .inl (0, 80), .inl (0, 80), .inl (0, 80), .inl (0, 3), .inl (0, 420), .inl (0, 12), .inl (0, 420), .inl (0, 840), .inl (0, 840), .inl (0, 576), .inl (0, 96), .inl (2, 96), .inl (0, 96), .inl (0, 96), .inl (0, 8), .inl (0, 2), .inl (0, 12), .inl (0, 12), .inl (0, 2), .inl (0, 24), .inl (0, 2), .inl (0, 20), .inl (0, 60), .inl (2, 20), .inl (0, 2), .inl (2, 16), .inl (0, 48), .inl (2, 16), .inl (0, 2), .inl (0, 40), .inl (0, 40), .inl (3, 40), .inl (3, 22), .inl (3, 403), .inl (0, 403), .inl (0, 403), .inl (0, 403), .inl (1, 2000), .inl (1, 2000)]
def iX12 : st_I := fun p j => if p = 0 ∧ j = 17 then -1 else 0
def kX12 : Nat → Int64 := (vp_updL (vp_updL (vp_updL (vp_updL (vp_updL (vp_updL (vp_updL (vp_updL (vp_updL (vp_updL (vp_updL (vp_updL (vp_updL (vp_updL (vp_updL (vp_updL (vp_updL (vp_updL (vp_updL (vp_updL (vp_updL (vp_updL (fun _ => 0) (Int32.toNatClampNeg 0) (wd7 102 105 100 100 108 101 0)) (Int32.toNatClampNeg 1) (wd7 111 108 100 0 0 0 0)) (Int32.toNatClampNeg 2) (wd7 110 101 119 0 0 0 0)) (Int32.toNatClampNeg 3) (wd7 98 97 114 114 101 100 0)) (Int32.toNatClampNeg 4) (wd7 112 108 97 121 101 114 0)) (Int32.toNatClampNeg 5) (wd7 104 101 97 114 101 114 0)) (Int32.toNatClampNeg 6) (wd7 98 111 119 0 0 0 0)) (Int32.toNatClampNeg 7) (wd7 108 97 119 0 0 0 0)) (Int32.toNatClampNeg 8) (wd7 112 108 97 110 0 0 0)) (Int32.toNatClampNeg 9) (wd7 115 105 116 0 0 0 0)) (Int32.toNatClampNeg 10) (wd7 119 105 116 104 0 0 0)) (Int32.toNatClampNeg 11) (wd7 115 101 101 110 0 0 0)) (Int32.toNatClampNeg 12) (wd7 98 114 105 103 104 116 0)) (Int32.toNatClampNeg 13) (wd7 108 111 117 100 0 0 0)) (Int32.toNatClampNeg 14) (wd7 113 117 105 99 107 0 0)) (Int32.toNatClampNeg 15) (wd7 119 97 114 109 0 0 0)) (Int32.toNatClampNeg 16) (wd7 115 116 114 111 110 103 0)) (Int32.toNatClampNeg 17) (wd7 108 105 103 104 116 0 0)) (Int32.toNatClampNeg 18) (wd7 104 97 98 105 116 0 0)) (Int32.toNatClampNeg 19) (wd7 115 112 111 116 0 0 0)) (Int32.toNatClampNeg 20) (wd7 102 97 114 0 0 0 0)) (Int32.toNatClampNeg 21) (wd7 110 111 105 115 101 0 0))
def wX12 (cy : Nat → ClassId) (f : Nat → Nat) (g : Nat → Int64) : va_W := [(f 1, .inl (cy 0, 6, .inl (fun _ => 0))), (f 2, .inl (cy 0, 6, .inl (fun _ => 0))), (f 3, .inl (cy 0, 6, .inl (fun _ => 0))), (f 4, .inl (cy 0, 6, .inl (fun _ => 0))), (f 5, .inl (cy 0, 12, .inl (fun _ => 0))), (f 6, .inl (cy 2, 8, .inl (fun _ => 0))), (f 7, .inl (cy 0, 8, .inl (fun _ => 0))), (f 8, .inl (cy 2, 7, .inl (fun _ => 0))), (f 9, .inl (cy 0, 7, .inl (fun _ => 0))), (f 10, .inl (cy 0, 12, .inl (fun _ => 0))), (f 11, .inl (cy 0, 12, .inl (fun _ => 0))), (f 12, .inl (cy 0, 80, .inl (fun _ => 0))), (f 13, .inl (cy 0, 80, .inl (fun _ => 0))), (f 14, .inl (cy 2, 80, .inl (fun _ => 0))), (f 15, .inl (cy 0, 80, .inl (fun _ => 0))), (f 16, .inl (cy 0, 80, .inl (fun _ => 0))), (f 17, .inl (cy 0, 80, .inl (fun _ => 0))), (f 18, .inl (cy 0, 80, .inl (fun _ => 0))), (f 19, .inl (cy 0, 80, .inl (fun _ => 0))), (f 20, .inl (cy 0, 3, .inl (fun _ => 0))), (f 21, .inl (cy 0, 420, .inl (fun _ => 0))), (f 22, .inl (cy 0, 12, .inl (fun _ => 0))), (f 23, .inl (cy 0, 420, .inl (fun _ => 0))), (f 24, .inl (cy 0, 840, .inl (fun _ => 0))), (f 25, .inl (cy 0, 840, .inl (fun _ => 0))), (f 26, .inl (cy 0, 576, .inl (fun _ => 0))), (f 27, .inl (cy 0, 96, .inl (fun _ => 0))), (f 28, .inl (cy 2, 96, .inl (fun _ => 0))), (f 29, .inl (cy 0, 96, .inl (fun _ => 0))), (f 30, .inl (cy 0, 96, .inl (fun _ => 0))), (f 31, .inl (cy 0, 8, .inl (fun _ => 0))), (f 32, .inl (cy 0, 2, .inl (fun _ => 0))), (f 33, .inl (cy 0, 12, .inl (fun _ => 0))), (f 34, .inl (cy 0, 12, .inl (fun _ => 0))), (f 35, .inl (cy 0, 2, .inl (fun _ => 0))), (f 36, .inl (cy 0, 24, .inl (fun _ => 0))), (f 37, .inl (cy 0, 2, .inl (fun _ => 0))), (f 38, .inl (cy 0, 20, .inl (fun _ => 0))), (f 39, .inl (cy 0, 60, .inl (fun _ => 0))), (f 40, .inl (cy 2, 20, .inl (fun _ => 0))), (f 41, .inl (cy 0, 2, .inl (fun _ => 0))), (f 42, .inl (cy 2, 16, .inl (fun _ => 0))), (f 43, .inl (cy 0, 48, .inl (fun _ => 0))), (f 44, .inl (cy 2, 16, .inl (fun _ => 0))), (f 45, .inl (cy 0, 2, .inl (fun _ => 0))), (f 46, .inl (cy 0, 40, .inl (fun _ => 0))), (f 47, .inl (cy 0, 40, .inl (fun _ => 0))), (f 48, .inl (cy 3, 40, .inr (.inl (fun _ => 0)))), (f 49, .inl (cy 3, 22, .inr (.inl g))), (f 50, .inl (cy 3, 403, .inr (.inl (fun _ => 0)))), (f 51, .inl (cy 0, 403, .inl (fun _ => 0))), (f 52, .inl (cy 0, 403, .inl (fun _ => 0))), (f 53, .inl (cy 0, 403, .inl (fun _ => 0))), (f 54, .inl (cy 1, 2000, .inl (fun _ => 0))), (f 55, .inl (cy 1, 2000, .inl (fun _ => 0)))]
def lX12 : st_L := fun q => if q = 49 then kX12 else fun _ => 0
def bX12 (h0 : Nat) (cy : Nat → ClassId) (W : va_W) : Prop := ∃ f : Nat → Nat, f 0 = h0 ∧ W = w_D cy f sX12 iX12 lX12
abbrev rX12 : Room := { frames := 3, cells := 55, slots := 10225, locals := 240 }
def fX12 (f : Nat → Nat) : List Value := (.int 0 :: .ref (f 55) :: .int 0 :: .ref (f 54) :: .int 0 :: .ref (f 53) :: .ref (f 52) :: .ref (f 51) :: .ref (f 50) :: .ref (f 49) :: .int 0 :: .int 0 :: .int 0 :: .int 0 :: .int 0 :: .int 0 :: .int 0 :: .int (-1) :: .int 0 :: .int 0 :: .int 0 :: .ref (f 48) :: .ref (f 47) :: .ref (f 46) :: .ref (f 45) :: .ref (f 44) :: .ref (f 43) :: .ref (f 42) :: .ref (f 41) :: .ref (f 40) :: .ref (f 39) :: .ref (f 38) :: .ref (f 37) :: .ref (f 36) :: .ref (f 35) :: .ref (f 34) :: .ref (f 33) :: .ref (f 32) :: .ref (f 31) :: .ref (f 30) :: .ref (f 29) :: .ref (f 28) :: .ref (f 27) :: .ref (f 26) :: .int 0 :: .ref (f 25) :: .ref (f 24) :: .ref (f 23) :: .int 0 :: .ref (f 22) :: .ref (f 21) :: .ref (f 20) :: .int 0 :: .ref (f 19) :: .ref (f 18) :: .ref (f 17) :: .ref (f 16) :: .ref (f 15) :: .ref (f 14) :: .ref (f 13) :: .ref (f 12) :: .int 0 :: .ref (f 11) :: .ref (f 10) :: .ref (f 9) :: .ref (f 8) :: .int 0 :: .int 0 :: .int 0 :: .ref (f 7) :: .ref (f 6) :: .int 0 :: .ref (f 5) :: .int 0 :: .int 0 :: .ref (f 4) :: .ref (f 3) :: .ref (f 2) :: .ref (f 1) :: [])
set_option maxRecDepth 100000 in
set_option maxHeartbeats 1000000 in
theorem nw12_a {p : Program} {l : Launch} {e : Env} {s : State} {m : MethodId} {args : Array Value} {below : List Frame} {meth : Method} {c : Code} {D : va_G} {cy : Nat → ClassId} {A : Nat → Prop} {Q : State → Prop} {ls : Array Slot} {h0 : Nat} (C : NC nX12 p s m args meth c D cy A) (hl : lv_has ls nX12.2.2.1 [(0, .ref h0)]) (K : ∀ f : Nat → Nat, f 0 = h0 → NW p l e rX12 s m args below meth c D A Q ls h0 12 55 10225 455 (fX12 f) (wX12 cy f (fun _ => 0)) [.ref h0]) : NW p l e rX12 s m args below meth c D A Q ls h0 12 0 0 0 (.int 0 :: .null :: .int 0 :: .null :: .int 0 :: .null :: .null :: .null :: .null :: .null :: .int 0 :: .int 0 :: .int 0 :: .int 0 :: .int 0 :: .int 0 :: .int 0 :: .int 0 :: .int 0 :: .int 0 :: .int 0 :: .null :: .null :: .null :: .null :: .null :: .null :: .null :: .null :: .null :: .null :: .null :: .null :: .null :: .null :: .null :: .null :: .null :: .null :: .null :: .null :: .null :: .null :: .null :: .int 0 :: .null :: .null :: .null :: .int 0 :: .null :: .null :: .null :: .int 0 :: .null :: .null :: .null :: .null :: .null :: .null :: .null :: .null :: .int 0 :: .null :: .null :: .null :: .null :: .int 0 :: .int 0 :: .int 0 :: .null :: .null :: .int 0 :: .null :: .int 0 :: .int 0 :: .null :: .null :: .null :: .null :: []) [] [] := by
  refine NW_ld C hl dX12_init_0 ?_
  refine NW_obj C hl mo_RX12_7 ow_i ow_c dX12_init_1 (Nat.le_of_ble_eq_true rfl) (Nat.le_of_ble_eq_true rfl) ?_
  refine NW_ld C hl dX12_init_4 ?_
  refine NW_sipush (v := 2000) C dX12_init_5 rfl ?_
  refine NW_arrB 2000 C aw_byte (by decide) rfl (Nat.le_of_ble_eq_true rfl) (Nat.le_of_ble_eq_true rfl) (Nat.le_of_ble_eq_true rfl) dX12_init_8 (fun q1 => ?_)
  refine NW_rot ?_
  refine NW_putE C fl_RX12_13 pg_12_1 rfl rfl rfl (fs2 := (.int 0 :: .ref q1 :: .int 0 :: .null :: .int 0 :: .null :: .null :: .null :: .null :: .null :: .int 0 :: .int 0 :: .int 0 :: .int 0 :: .int 0 :: .int 0 :: .int 0 :: .int 0 :: .int 0 :: .int 0 :: .int 0 :: .null :: .null :: .null :: .null :: .null :: .null :: .null :: .null :: .null :: .null :: .null :: .null :: .null :: .null :: .null :: .null :: .null :: .null :: .null :: .null :: .null :: .null :: .null :: .int 0 :: .null :: .null :: .null :: .int 0 :: .null :: .null :: .null :: .int 0 :: .null :: .null :: .null :: .null :: .null :: .null :: .null :: .null :: .int 0 :: .null :: .null :: .null :: .null :: .int 0 :: .int 0 :: .int 0 :: .null :: .null :: .int 0 :: .null :: .int 0 :: .int 0 :: .null :: .null :: .null :: .null :: [])) rfl dX12_init_10 ?_
  refine NW_ld C hl dX12_init_13 ?_
  refine NW_sipush (v := 2000) C dX12_init_14 rfl ?_
  refine NW_arrB 2000 C aw_byte (by decide) rfl (Nat.le_of_ble_eq_true rfl) (Nat.le_of_ble_eq_true rfl) (Nat.le_of_ble_eq_true rfl) dX12_init_17 (fun q2 => ?_)
  refine NW_rot ?_
  refine NW_putE C fl_RX12_17 pg_12_3 rfl rfl rfl (fs2 := (.int 0 :: .ref q1 :: .int 0 :: .ref q2 :: .int 0 :: .null :: .null :: .null :: .null :: .null :: .int 0 :: .int 0 :: .int 0 :: .int 0 :: .int 0 :: .int 0 :: .int 0 :: .int 0 :: .int 0 :: .int 0 :: .int 0 :: .null :: .null :: .null :: .null :: .null :: .null :: .null :: .null :: .null :: .null :: .null :: .null :: .null :: .null :: .null :: .null :: .null :: .null :: .null :: .null :: .null :: .null :: .null :: .int 0 :: .null :: .null :: .null :: .int 0 :: .null :: .null :: .null :: .int 0 :: .null :: .null :: .null :: .null :: .null :: .null :: .null :: .null :: .int 0 :: .null :: .null :: .null :: .null :: .int 0 :: .int 0 :: .int 0 :: .null :: .null :: .int 0 :: .null :: .int 0 :: .int 0 :: .null :: .null :: .null :: .null :: [])) rfl dX12_init_19 ?_
  refine NW_ld C hl dX12_init_22 ?_
  refine NW_sipush (v := 403) C dX12_init_23 rfl ?_
  refine NW_arrI 403 C aw_int (by decide) rfl (Nat.le_of_ble_eq_true rfl) (Nat.le_of_ble_eq_true rfl) (Nat.le_of_ble_eq_true rfl) dX12_init_26 (fun q3 => ?_)
  refine NW_rot ?_
  refine NW_putE C fl_RX12_20 pg_12_5 rfl rfl rfl (fs2 := (.int 0 :: .ref q1 :: .int 0 :: .ref q2 :: .int 0 :: .ref q3 :: .null :: .null :: .null :: .null :: .int 0 :: .int 0 :: .int 0 :: .int 0 :: .int 0 :: .int 0 :: .int 0 :: .int 0 :: .int 0 :: .int 0 :: .int 0 :: .null :: .null :: .null :: .null :: .null :: .null :: .null :: .null :: .null :: .null :: .null :: .null :: .null :: .null :: .null :: .null :: .null :: .null :: .null :: .null :: .null :: .null :: .null :: .int 0 :: .null :: .null :: .null :: .int 0 :: .null :: .null :: .null :: .int 0 :: .null :: .null :: .null :: .null :: .null :: .null :: .null :: .null :: .int 0 :: .null :: .null :: .null :: .null :: .int 0 :: .int 0 :: .int 0 :: .null :: .null :: .int 0 :: .null :: .int 0 :: .int 0 :: .null :: .null :: .null :: .null :: [])) rfl dX12_init_28 ?_
  refine NW_ld C hl dX12_init_31 ?_
  refine NW_sipush (v := 403) C dX12_init_32 rfl ?_
  refine NW_arrI 403 C aw_int (by decide) rfl (Nat.le_of_ble_eq_true rfl) (Nat.le_of_ble_eq_true rfl) (Nat.le_of_ble_eq_true rfl) dX12_init_35 (fun q4 => ?_)
  refine NW_rot ?_
  refine NW_putE C fl_RX12_24 pg_12_6 rfl rfl rfl (fs2 := (.int 0 :: .ref q1 :: .int 0 :: .ref q2 :: .int 0 :: .ref q3 :: .ref q4 :: .null :: .null :: .null :: .int 0 :: .int 0 :: .int 0 :: .int 0 :: .int 0 :: .int 0 :: .int 0 :: .int 0 :: .int 0 :: .int 0 :: .int 0 :: .null :: .null :: .null :: .null :: .null :: .null :: .null :: .null :: .null :: .null :: .null :: .null :: .null :: .null :: .null :: .null :: .null :: .null :: .null :: .null :: .null :: .null :: .null :: .int 0 :: .null :: .null :: .null :: .int 0 :: .null :: .null :: .null :: .int 0 :: .null :: .null :: .null :: .null :: .null :: .null :: .null :: .null :: .int 0 :: .null :: .null :: .null :: .null :: .int 0 :: .int 0 :: .int 0 :: .null :: .null :: .int 0 :: .null :: .int 0 :: .int 0 :: .null :: .null :: .null :: .null :: [])) rfl dX12_init_37 ?_
  refine NW_ld C hl dX12_init_40 ?_
  refine NW_sipush (v := 403) C dX12_init_41 rfl ?_
  refine NW_arrI 403 C aw_int (by decide) rfl (Nat.le_of_ble_eq_true rfl) (Nat.le_of_ble_eq_true rfl) (Nat.le_of_ble_eq_true rfl) dX12_init_44 (fun q5 => ?_)
  refine NW_rot ?_
  refine NW_putE C fl_RX12_27 pg_12_7 rfl rfl rfl (fs2 := (.int 0 :: .ref q1 :: .int 0 :: .ref q2 :: .int 0 :: .ref q3 :: .ref q4 :: .ref q5 :: .null :: .null :: .int 0 :: .int 0 :: .int 0 :: .int 0 :: .int 0 :: .int 0 :: .int 0 :: .int 0 :: .int 0 :: .int 0 :: .int 0 :: .null :: .null :: .null :: .null :: .null :: .null :: .null :: .null :: .null :: .null :: .null :: .null :: .null :: .null :: .null :: .null :: .null :: .null :: .null :: .null :: .null :: .null :: .null :: .int 0 :: .null :: .null :: .null :: .int 0 :: .null :: .null :: .null :: .int 0 :: .null :: .null :: .null :: .null :: .null :: .null :: .null :: .null :: .int 0 :: .null :: .null :: .null :: .null :: .int 0 :: .int 0 :: .int 0 :: .null :: .null :: .int 0 :: .null :: .int 0 :: .int 0 :: .null :: .null :: .null :: .null :: [])) rfl dX12_init_46 ?_
  refine NW_ld C hl dX12_init_49 ?_
  refine NW_sipush (v := 403) C dX12_init_50 rfl ?_
  refine NW_arrJ 403 C aw_long (by decide) rfl (Nat.le_of_ble_eq_true rfl) (Nat.le_of_ble_eq_true rfl) (Nat.le_of_ble_eq_true rfl) dX12_init_53 (fun q6 => ?_)
  refine NW_rot ?_
  refine NW_putE C fl_RX12_30 pg_12_8 rfl rfl rfl (fs2 := (.int 0 :: .ref q1 :: .int 0 :: .ref q2 :: .int 0 :: .ref q3 :: .ref q4 :: .ref q5 :: .ref q6 :: .null :: .int 0 :: .int 0 :: .int 0 :: .int 0 :: .int 0 :: .int 0 :: .int 0 :: .int 0 :: .int 0 :: .int 0 :: .int 0 :: .null :: .null :: .null :: .null :: .null :: .null :: .null :: .null :: .null :: .null :: .null :: .null :: .null :: .null :: .null :: .null :: .null :: .null :: .null :: .null :: .null :: .null :: .null :: .int 0 :: .null :: .null :: .null :: .int 0 :: .null :: .null :: .null :: .int 0 :: .null :: .null :: .null :: .null :: .null :: .null :: .null :: .null :: .int 0 :: .null :: .null :: .null :: .null :: .int 0 :: .int 0 :: .int 0 :: .null :: .null :: .int 0 :: .null :: .int 0 :: .int 0 :: .null :: .null :: .null :: .null :: [])) rfl dX12_init_55 ?_
  refine NW_ld C hl dX12_init_58 ?_
  refine NW_bipush (v := 22) C dX12_init_59 rfl ?_
  refine NW_arrJ 22 C aw_long (by decide) rfl (Nat.le_of_ble_eq_true rfl) (Nat.le_of_ble_eq_true rfl) (Nat.le_of_ble_eq_true rfl) dX12_init_61 (fun q7 => ?_)
  refine NW_rot ?_
  refine NW_putE C fl_RX12_34 pg_12_9 rfl rfl rfl (fs2 := (.int 0 :: .ref q1 :: .int 0 :: .ref q2 :: .int 0 :: .ref q3 :: .ref q4 :: .ref q5 :: .ref q6 :: .ref q7 :: .int 0 :: .int 0 :: .int 0 :: .int 0 :: .int 0 :: .int 0 :: .int 0 :: .int 0 :: .int 0 :: .int 0 :: .int 0 :: .null :: .null :: .null :: .null :: .null :: .null :: .null :: .null :: .null :: .null :: .null :: .null :: .null :: .null :: .null :: .null :: .null :: .null :: .null :: .null :: .null :: .null :: .null :: .int 0 :: .null :: .null :: .null :: .int 0 :: .null :: .null :: .null :: .int 0 :: .null :: .null :: .null :: .null :: .null :: .null :: .null :: .null :: .int 0 :: .null :: .null :: .null :: .null :: .int 0 :: .int 0 :: .int 0 :: .null :: .null :: .int 0 :: .null :: .int 0 :: .int 0 :: .null :: .null :: .null :: .null :: [])) rfl dX12_init_63 ?_
  refine NW_ld C hl dX12_init_66 ?_
  refine NW_iconst (v := -1) C dX12_init_67 rfl ?_
  refine NW_putE C fl_RX12_37 pg_12_17 rfl rfl rfl (fs2 := (.int 0 :: .ref q1 :: .int 0 :: .ref q2 :: .int 0 :: .ref q3 :: .ref q4 :: .ref q5 :: .ref q6 :: .ref q7 :: .int 0 :: .int 0 :: .int 0 :: .int 0 :: .int 0 :: .int 0 :: .int 0 :: .int (-1) :: .int 0 :: .int 0 :: .int 0 :: .null :: .null :: .null :: .null :: .null :: .null :: .null :: .null :: .null :: .null :: .null :: .null :: .null :: .null :: .null :: .null :: .null :: .null :: .null :: .null :: .null :: .null :: .null :: .int 0 :: .null :: .null :: .null :: .int 0 :: .null :: .null :: .null :: .int 0 :: .null :: .null :: .null :: .null :: .null :: .null :: .null :: .null :: .int 0 :: .null :: .null :: .null :: .null :: .int 0 :: .int 0 :: .int 0 :: .null :: .null :: .int 0 :: .null :: .int 0 :: .int 0 :: .null :: .null :: .null :: .null :: [])) rfl dX12_init_68 ?_
  refine NW_ld C hl dX12_init_71 ?_
  refine NW_bipush (v := 40) C dX12_init_72 rfl ?_
  refine NW_arrJ 40 C aw_long (by decide) rfl (Nat.le_of_ble_eq_true rfl) (Nat.le_of_ble_eq_true rfl) (Nat.le_of_ble_eq_true rfl) dX12_init_74 (fun q8 => ?_)
  refine NW_rot ?_
  refine NW_putE C fl_RX12_40 pg_12_21 rfl rfl rfl (fs2 := (.int 0 :: .ref q1 :: .int 0 :: .ref q2 :: .int 0 :: .ref q3 :: .ref q4 :: .ref q5 :: .ref q6 :: .ref q7 :: .int 0 :: .int 0 :: .int 0 :: .int 0 :: .int 0 :: .int 0 :: .int 0 :: .int (-1) :: .int 0 :: .int 0 :: .int 0 :: .ref q8 :: .null :: .null :: .null :: .null :: .null :: .null :: .null :: .null :: .null :: .null :: .null :: .null :: .null :: .null :: .null :: .null :: .null :: .null :: .null :: .null :: .null :: .null :: .int 0 :: .null :: .null :: .null :: .int 0 :: .null :: .null :: .null :: .int 0 :: .null :: .null :: .null :: .null :: .null :: .null :: .null :: .null :: .int 0 :: .null :: .null :: .null :: .null :: .int 0 :: .int 0 :: .int 0 :: .null :: .null :: .int 0 :: .null :: .int 0 :: .int 0 :: .null :: .null :: .null :: .null :: [])) rfl dX12_init_76 ?_
  refine NW_ld C hl dX12_init_79 ?_
  refine NW_bipush (v := 40) C dX12_init_80 rfl ?_
  refine NW_arrI 40 C aw_int (by decide) rfl (Nat.le_of_ble_eq_true rfl) (Nat.le_of_ble_eq_true rfl) (Nat.le_of_ble_eq_true rfl) dX12_init_82 (fun q9 => ?_)
  refine NW_rot ?_
  refine NW_putE C fl_RX12_43 pg_12_22 rfl rfl rfl (fs2 := (.int 0 :: .ref q1 :: .int 0 :: .ref q2 :: .int 0 :: .ref q3 :: .ref q4 :: .ref q5 :: .ref q6 :: .ref q7 :: .int 0 :: .int 0 :: .int 0 :: .int 0 :: .int 0 :: .int 0 :: .int 0 :: .int (-1) :: .int 0 :: .int 0 :: .int 0 :: .ref q8 :: .ref q9 :: .null :: .null :: .null :: .null :: .null :: .null :: .null :: .null :: .null :: .null :: .null :: .null :: .null :: .null :: .null :: .null :: .null :: .null :: .null :: .null :: .null :: .int 0 :: .null :: .null :: .null :: .int 0 :: .null :: .null :: .null :: .int 0 :: .null :: .null :: .null :: .null :: .null :: .null :: .null :: .null :: .int 0 :: .null :: .null :: .null :: .null :: .int 0 :: .int 0 :: .int 0 :: .null :: .null :: .int 0 :: .null :: .int 0 :: .int 0 :: .null :: .null :: .null :: .null :: [])) rfl dX12_init_84 ?_
  refine NW_ld C hl dX12_init_87 ?_
  refine NW_bipush (v := 40) C dX12_init_88 rfl ?_
  refine NW_arrI 40 C aw_int (by decide) rfl (Nat.le_of_ble_eq_true rfl) (Nat.le_of_ble_eq_true rfl) (Nat.le_of_ble_eq_true rfl) dX12_init_90 (fun q10 => ?_)
  refine NW_rot ?_
  refine NW_putE C fl_RX12_46 pg_12_23 rfl rfl rfl (fs2 := (.int 0 :: .ref q1 :: .int 0 :: .ref q2 :: .int 0 :: .ref q3 :: .ref q4 :: .ref q5 :: .ref q6 :: .ref q7 :: .int 0 :: .int 0 :: .int 0 :: .int 0 :: .int 0 :: .int 0 :: .int 0 :: .int (-1) :: .int 0 :: .int 0 :: .int 0 :: .ref q8 :: .ref q9 :: .ref q10 :: .null :: .null :: .null :: .null :: .null :: .null :: .null :: .null :: .null :: .null :: .null :: .null :: .null :: .null :: .null :: .null :: .null :: .null :: .null :: .null :: .int 0 :: .null :: .null :: .null :: .int 0 :: .null :: .null :: .null :: .int 0 :: .null :: .null :: .null :: .null :: .null :: .null :: .null :: .null :: .int 0 :: .null :: .null :: .null :: .null :: .int 0 :: .int 0 :: .int 0 :: .null :: .null :: .int 0 :: .null :: .int 0 :: .int 0 :: .null :: .null :: .null :: .null :: [])) rfl dX12_init_92 ?_
  refine NW_ld C hl dX12_init_95 ?_
  refine NW_iconst (v := 2) C dX12_init_96 rfl ?_
  refine NW_arrI 2 C aw_int (by decide) rfl (Nat.le_of_ble_eq_true rfl) (Nat.le_of_ble_eq_true rfl) (Nat.le_of_ble_eq_true rfl) dX12_init_97 (fun q11 => ?_)
  refine NW_rot ?_
  refine NW_putE C fl_RX12_49 pg_12_24 rfl rfl rfl (fs2 := (.int 0 :: .ref q1 :: .int 0 :: .ref q2 :: .int 0 :: .ref q3 :: .ref q4 :: .ref q5 :: .ref q6 :: .ref q7 :: .int 0 :: .int 0 :: .int 0 :: .int 0 :: .int 0 :: .int 0 :: .int 0 :: .int (-1) :: .int 0 :: .int 0 :: .int 0 :: .ref q8 :: .ref q9 :: .ref q10 :: .ref q11 :: .null :: .null :: .null :: .null :: .null :: .null :: .null :: .null :: .null :: .null :: .null :: .null :: .null :: .null :: .null :: .null :: .null :: .null :: .null :: .int 0 :: .null :: .null :: .null :: .int 0 :: .null :: .null :: .null :: .int 0 :: .null :: .null :: .null :: .null :: .null :: .null :: .null :: .null :: .int 0 :: .null :: .null :: .null :: .null :: .int 0 :: .int 0 :: .int 0 :: .null :: .null :: .int 0 :: .null :: .int 0 :: .int 0 :: .null :: .null :: .null :: .null :: [])) rfl dX12_init_99 ?_
  refine NW_ld C hl dX12_init_102 ?_
  refine NW_bipush (v := 16) C dX12_init_103 rfl ?_
  refine NW_arrZ 16 C aw_boolean (by decide) rfl (Nat.le_of_ble_eq_true rfl) (Nat.le_of_ble_eq_true rfl) (Nat.le_of_ble_eq_true rfl) dX12_init_105 (fun q12 => ?_)
  refine NW_rot ?_
  refine NW_putE C fl_RX12_52 pg_12_25 rfl rfl rfl (fs2 := (.int 0 :: .ref q1 :: .int 0 :: .ref q2 :: .int 0 :: .ref q3 :: .ref q4 :: .ref q5 :: .ref q6 :: .ref q7 :: .int 0 :: .int 0 :: .int 0 :: .int 0 :: .int 0 :: .int 0 :: .int 0 :: .int (-1) :: .int 0 :: .int 0 :: .int 0 :: .ref q8 :: .ref q9 :: .ref q10 :: .ref q11 :: .ref q12 :: .null :: .null :: .null :: .null :: .null :: .null :: .null :: .null :: .null :: .null :: .null :: .null :: .null :: .null :: .null :: .null :: .null :: .null :: .int 0 :: .null :: .null :: .null :: .int 0 :: .null :: .null :: .null :: .int 0 :: .null :: .null :: .null :: .null :: .null :: .null :: .null :: .null :: .int 0 :: .null :: .null :: .null :: .null :: .int 0 :: .int 0 :: .int 0 :: .null :: .null :: .int 0 :: .null :: .int 0 :: .int 0 :: .null :: .null :: .null :: .null :: [])) rfl dX12_init_107 ?_
  refine NW_ld C hl dX12_init_110 ?_
  refine NW_bipush (v := 48) C dX12_init_111 rfl ?_
  refine NW_arrI 48 C aw_int (by decide) rfl (Nat.le_of_ble_eq_true rfl) (Nat.le_of_ble_eq_true rfl) (Nat.le_of_ble_eq_true rfl) dX12_init_113 (fun q13 => ?_)
  refine NW_rot ?_
  refine NW_putE C fl_RX12_56 pg_12_26 rfl rfl rfl (fs2 := (.int 0 :: .ref q1 :: .int 0 :: .ref q2 :: .int 0 :: .ref q3 :: .ref q4 :: .ref q5 :: .ref q6 :: .ref q7 :: .int 0 :: .int 0 :: .int 0 :: .int 0 :: .int 0 :: .int 0 :: .int 0 :: .int (-1) :: .int 0 :: .int 0 :: .int 0 :: .ref q8 :: .ref q9 :: .ref q10 :: .ref q11 :: .ref q12 :: .ref q13 :: .null :: .null :: .null :: .null :: .null :: .null :: .null :: .null :: .null :: .null :: .null :: .null :: .null :: .null :: .null :: .null :: .null :: .int 0 :: .null :: .null :: .null :: .int 0 :: .null :: .null :: .null :: .int 0 :: .null :: .null :: .null :: .null :: .null :: .null :: .null :: .null :: .int 0 :: .null :: .null :: .null :: .null :: .int 0 :: .int 0 :: .int 0 :: .null :: .null :: .int 0 :: .null :: .int 0 :: .int 0 :: .null :: .null :: .null :: .null :: [])) rfl dX12_init_115 ?_
  refine NW_ld C hl dX12_init_118 ?_
  refine NW_bipush (v := 16) C dX12_init_119 rfl ?_
  refine NW_arrZ 16 C aw_boolean (by decide) rfl (Nat.le_of_ble_eq_true rfl) (Nat.le_of_ble_eq_true rfl) (Nat.le_of_ble_eq_true rfl) dX12_init_121 (fun q14 => ?_)
  refine NW_rot ?_
  refine NW_putE C fl_RX12_59 pg_12_27 rfl rfl rfl (fs2 := (.int 0 :: .ref q1 :: .int 0 :: .ref q2 :: .int 0 :: .ref q3 :: .ref q4 :: .ref q5 :: .ref q6 :: .ref q7 :: .int 0 :: .int 0 :: .int 0 :: .int 0 :: .int 0 :: .int 0 :: .int 0 :: .int (-1) :: .int 0 :: .int 0 :: .int 0 :: .ref q8 :: .ref q9 :: .ref q10 :: .ref q11 :: .ref q12 :: .ref q13 :: .ref q14 :: .null :: .null :: .null :: .null :: .null :: .null :: .null :: .null :: .null :: .null :: .null :: .null :: .null :: .null :: .null :: .null :: .int 0 :: .null :: .null :: .null :: .int 0 :: .null :: .null :: .null :: .int 0 :: .null :: .null :: .null :: .null :: .null :: .null :: .null :: .null :: .int 0 :: .null :: .null :: .null :: .null :: .int 0 :: .int 0 :: .int 0 :: .null :: .null :: .int 0 :: .null :: .int 0 :: .int 0 :: .null :: .null :: .null :: .null :: [])) rfl dX12_init_123 ?_
  refine NW_ld C hl dX12_init_126 ?_
  refine NW_iconst (v := 2) C dX12_init_127 rfl ?_
  refine NW_arrI 2 C aw_int (by decide) rfl (Nat.le_of_ble_eq_true rfl) (Nat.le_of_ble_eq_true rfl) (Nat.le_of_ble_eq_true rfl) dX12_init_128 (fun q15 => ?_)
  refine NW_rot ?_
  refine NW_putE C fl_RX12_62 pg_12_28 rfl rfl rfl (fs2 := (.int 0 :: .ref q1 :: .int 0 :: .ref q2 :: .int 0 :: .ref q3 :: .ref q4 :: .ref q5 :: .ref q6 :: .ref q7 :: .int 0 :: .int 0 :: .int 0 :: .int 0 :: .int 0 :: .int 0 :: .int 0 :: .int (-1) :: .int 0 :: .int 0 :: .int 0 :: .ref q8 :: .ref q9 :: .ref q10 :: .ref q11 :: .ref q12 :: .ref q13 :: .ref q14 :: .ref q15 :: .null :: .null :: .null :: .null :: .null :: .null :: .null :: .null :: .null :: .null :: .null :: .null :: .null :: .null :: .null :: .int 0 :: .null :: .null :: .null :: .int 0 :: .null :: .null :: .null :: .int 0 :: .null :: .null :: .null :: .null :: .null :: .null :: .null :: .null :: .int 0 :: .null :: .null :: .null :: .null :: .int 0 :: .int 0 :: .int 0 :: .null :: .null :: .int 0 :: .null :: .int 0 :: .int 0 :: .null :: .null :: .null :: .null :: [])) rfl dX12_init_130 ?_
  refine NW_ld C hl dX12_init_133 ?_
  refine NW_bipush (v := 20) C dX12_init_134 rfl ?_
  refine NW_arrZ 20 C aw_boolean (by decide) rfl (Nat.le_of_ble_eq_true rfl) (Nat.le_of_ble_eq_true rfl) (Nat.le_of_ble_eq_true rfl) dX12_init_136 (fun q16 => ?_)
  refine NW_rot ?_
  refine NW_putE C fl_RX12_65 pg_12_29 rfl rfl rfl (fs2 := (.int 0 :: .ref q1 :: .int 0 :: .ref q2 :: .int 0 :: .ref q3 :: .ref q4 :: .ref q5 :: .ref q6 :: .ref q7 :: .int 0 :: .int 0 :: .int 0 :: .int 0 :: .int 0 :: .int 0 :: .int 0 :: .int (-1) :: .int 0 :: .int 0 :: .int 0 :: .ref q8 :: .ref q9 :: .ref q10 :: .ref q11 :: .ref q12 :: .ref q13 :: .ref q14 :: .ref q15 :: .ref q16 :: .null :: .null :: .null :: .null :: .null :: .null :: .null :: .null :: .null :: .null :: .null :: .null :: .null :: .null :: .int 0 :: .null :: .null :: .null :: .int 0 :: .null :: .null :: .null :: .int 0 :: .null :: .null :: .null :: .null :: .null :: .null :: .null :: .null :: .int 0 :: .null :: .null :: .null :: .null :: .int 0 :: .int 0 :: .int 0 :: .null :: .null :: .int 0 :: .null :: .int 0 :: .int 0 :: .null :: .null :: .null :: .null :: [])) rfl dX12_init_138 ?_
  refine NW_ld C hl dX12_init_141 ?_
  refine NW_bipush (v := 60) C dX12_init_142 rfl ?_
  refine NW_arrI 60 C aw_int (by decide) rfl (Nat.le_of_ble_eq_true rfl) (Nat.le_of_ble_eq_true rfl) (Nat.le_of_ble_eq_true rfl) dX12_init_144 (fun q17 => ?_)
  refine NW_rot ?_
  refine NW_putE C fl_RX12_68 pg_12_30 rfl rfl rfl (fs2 := (.int 0 :: .ref q1 :: .int 0 :: .ref q2 :: .int 0 :: .ref q3 :: .ref q4 :: .ref q5 :: .ref q6 :: .ref q7 :: .int 0 :: .int 0 :: .int 0 :: .int 0 :: .int 0 :: .int 0 :: .int 0 :: .int (-1) :: .int 0 :: .int 0 :: .int 0 :: .ref q8 :: .ref q9 :: .ref q10 :: .ref q11 :: .ref q12 :: .ref q13 :: .ref q14 :: .ref q15 :: .ref q16 :: .ref q17 :: .null :: .null :: .null :: .null :: .null :: .null :: .null :: .null :: .null :: .null :: .null :: .null :: .null :: .int 0 :: .null :: .null :: .null :: .int 0 :: .null :: .null :: .null :: .int 0 :: .null :: .null :: .null :: .null :: .null :: .null :: .null :: .null :: .int 0 :: .null :: .null :: .null :: .null :: .int 0 :: .int 0 :: .int 0 :: .null :: .null :: .int 0 :: .null :: .int 0 :: .int 0 :: .null :: .null :: .null :: .null :: [])) rfl dX12_init_146 ?_
  refine NW_ld C hl dX12_init_149 ?_
  refine NW_bipush (v := 20) C dX12_init_150 rfl ?_
  refine NW_arrI 20 C aw_int (by decide) rfl (Nat.le_of_ble_eq_true rfl) (Nat.le_of_ble_eq_true rfl) (Nat.le_of_ble_eq_true rfl) dX12_init_152 (fun q18 => ?_)
  refine NW_rot ?_
  refine NW_putE C fl_RX12_71 pg_12_31 rfl rfl rfl (fs2 := (.int 0 :: .ref q1 :: .int 0 :: .ref q2 :: .int 0 :: .ref q3 :: .ref q4 :: .ref q5 :: .ref q6 :: .ref q7 :: .int 0 :: .int 0 :: .int 0 :: .int 0 :: .int 0 :: .int 0 :: .int 0 :: .int (-1) :: .int 0 :: .int 0 :: .int 0 :: .ref q8 :: .ref q9 :: .ref q10 :: .ref q11 :: .ref q12 :: .ref q13 :: .ref q14 :: .ref q15 :: .ref q16 :: .ref q17 :: .ref q18 :: .null :: .null :: .null :: .null :: .null :: .null :: .null :: .null :: .null :: .null :: .null :: .null :: .int 0 :: .null :: .null :: .null :: .int 0 :: .null :: .null :: .null :: .int 0 :: .null :: .null :: .null :: .null :: .null :: .null :: .null :: .null :: .int 0 :: .null :: .null :: .null :: .null :: .int 0 :: .int 0 :: .int 0 :: .null :: .null :: .int 0 :: .null :: .int 0 :: .int 0 :: .null :: .null :: .null :: .null :: [])) rfl dX12_init_154 ?_
  refine NW_ld C hl dX12_init_157 ?_
  refine NW_iconst (v := 2) C dX12_init_158 rfl ?_
  refine NW_arrI 2 C aw_int (by decide) rfl (Nat.le_of_ble_eq_true rfl) (Nat.le_of_ble_eq_true rfl) (Nat.le_of_ble_eq_true rfl) dX12_init_159 (fun q19 => ?_)
  refine NW_rot ?_
  refine NW_putE C fl_RX12_74 pg_12_32 rfl rfl rfl (fs2 := (.int 0 :: .ref q1 :: .int 0 :: .ref q2 :: .int 0 :: .ref q3 :: .ref q4 :: .ref q5 :: .ref q6 :: .ref q7 :: .int 0 :: .int 0 :: .int 0 :: .int 0 :: .int 0 :: .int 0 :: .int 0 :: .int (-1) :: .int 0 :: .int 0 :: .int 0 :: .ref q8 :: .ref q9 :: .ref q10 :: .ref q11 :: .ref q12 :: .ref q13 :: .ref q14 :: .ref q15 :: .ref q16 :: .ref q17 :: .ref q18 :: .ref q19 :: .null :: .null :: .null :: .null :: .null :: .null :: .null :: .null :: .null :: .null :: .null :: .int 0 :: .null :: .null :: .null :: .int 0 :: .null :: .null :: .null :: .int 0 :: .null :: .null :: .null :: .null :: .null :: .null :: .null :: .null :: .int 0 :: .null :: .null :: .null :: .null :: .int 0 :: .int 0 :: .int 0 :: .null :: .null :: .int 0 :: .null :: .int 0 :: .int 0 :: .null :: .null :: .null :: .null :: [])) rfl dX12_init_161 ?_
  refine NW_ld C hl dX12_init_164 ?_
  refine NW_bipush (v := 24) C dX12_init_165 rfl ?_
  refine NW_arrI 24 C aw_int (by decide) rfl (Nat.le_of_ble_eq_true rfl) (Nat.le_of_ble_eq_true rfl) (Nat.le_of_ble_eq_true rfl) dX12_init_167 (fun q20 => ?_)
  refine NW_rot ?_
  refine NW_putE C fl_RX12_77 pg_12_33 rfl rfl rfl (fs2 := (.int 0 :: .ref q1 :: .int 0 :: .ref q2 :: .int 0 :: .ref q3 :: .ref q4 :: .ref q5 :: .ref q6 :: .ref q7 :: .int 0 :: .int 0 :: .int 0 :: .int 0 :: .int 0 :: .int 0 :: .int 0 :: .int (-1) :: .int 0 :: .int 0 :: .int 0 :: .ref q8 :: .ref q9 :: .ref q10 :: .ref q11 :: .ref q12 :: .ref q13 :: .ref q14 :: .ref q15 :: .ref q16 :: .ref q17 :: .ref q18 :: .ref q19 :: .ref q20 :: .null :: .null :: .null :: .null :: .null :: .null :: .null :: .null :: .null :: .null :: .int 0 :: .null :: .null :: .null :: .int 0 :: .null :: .null :: .null :: .int 0 :: .null :: .null :: .null :: .null :: .null :: .null :: .null :: .null :: .int 0 :: .null :: .null :: .null :: .null :: .int 0 :: .int 0 :: .int 0 :: .null :: .null :: .int 0 :: .null :: .int 0 :: .int 0 :: .null :: .null :: .null :: .null :: [])) rfl dX12_init_169 ?_
  refine NW_ld C hl dX12_init_172 ?_
  refine NW_iconst (v := 2) C dX12_init_173 rfl ?_
  refine NW_arrI 2 C aw_int (by decide) rfl (Nat.le_of_ble_eq_true rfl) (Nat.le_of_ble_eq_true rfl) (Nat.le_of_ble_eq_true rfl) dX12_init_174 (fun q21 => ?_)
  refine NW_rot ?_
  refine NW_putE C fl_RX12_80 pg_12_34 rfl rfl rfl (fs2 := (.int 0 :: .ref q1 :: .int 0 :: .ref q2 :: .int 0 :: .ref q3 :: .ref q4 :: .ref q5 :: .ref q6 :: .ref q7 :: .int 0 :: .int 0 :: .int 0 :: .int 0 :: .int 0 :: .int 0 :: .int 0 :: .int (-1) :: .int 0 :: .int 0 :: .int 0 :: .ref q8 :: .ref q9 :: .ref q10 :: .ref q11 :: .ref q12 :: .ref q13 :: .ref q14 :: .ref q15 :: .ref q16 :: .ref q17 :: .ref q18 :: .ref q19 :: .ref q20 :: .ref q21 :: .null :: .null :: .null :: .null :: .null :: .null :: .null :: .null :: .null :: .int 0 :: .null :: .null :: .null :: .int 0 :: .null :: .null :: .null :: .int 0 :: .null :: .null :: .null :: .null :: .null :: .null :: .null :: .null :: .int 0 :: .null :: .null :: .null :: .null :: .int 0 :: .int 0 :: .int 0 :: .null :: .null :: .int 0 :: .null :: .int 0 :: .int 0 :: .null :: .null :: .null :: .null :: [])) rfl dX12_init_176 ?_
  refine NW_ld C hl dX12_init_179 ?_
  refine NW_bipush (v := 12) C dX12_init_180 rfl ?_
  refine NW_arrI 12 C aw_int (by decide) rfl (Nat.le_of_ble_eq_true rfl) (Nat.le_of_ble_eq_true rfl) (Nat.le_of_ble_eq_true rfl) dX12_init_182 (fun q22 => ?_)
  refine NW_rot ?_
  refine NW_putE C fl_RX12_83 pg_12_35 rfl rfl rfl (fs2 := (.int 0 :: .ref q1 :: .int 0 :: .ref q2 :: .int 0 :: .ref q3 :: .ref q4 :: .ref q5 :: .ref q6 :: .ref q7 :: .int 0 :: .int 0 :: .int 0 :: .int 0 :: .int 0 :: .int 0 :: .int 0 :: .int (-1) :: .int 0 :: .int 0 :: .int 0 :: .ref q8 :: .ref q9 :: .ref q10 :: .ref q11 :: .ref q12 :: .ref q13 :: .ref q14 :: .ref q15 :: .ref q16 :: .ref q17 :: .ref q18 :: .ref q19 :: .ref q20 :: .ref q21 :: .ref q22 :: .null :: .null :: .null :: .null :: .null :: .null :: .null :: .null :: .int 0 :: .null :: .null :: .null :: .int 0 :: .null :: .null :: .null :: .int 0 :: .null :: .null :: .null :: .null :: .null :: .null :: .null :: .null :: .int 0 :: .null :: .null :: .null :: .null :: .int 0 :: .int 0 :: .int 0 :: .null :: .null :: .int 0 :: .null :: .int 0 :: .int 0 :: .null :: .null :: .null :: .null :: [])) rfl dX12_init_184 ?_
  refine NW_ld C hl dX12_init_187 ?_
  refine NW_bipush (v := 12) C dX12_init_188 rfl ?_
  refine NW_arrI 12 C aw_int (by decide) rfl (Nat.le_of_ble_eq_true rfl) (Nat.le_of_ble_eq_true rfl) (Nat.le_of_ble_eq_true rfl) dX12_init_190 (fun q23 => ?_)
  refine NW_rot ?_
  refine NW_putE C fl_RX12_86 pg_12_36 rfl rfl rfl (fs2 := (.int 0 :: .ref q1 :: .int 0 :: .ref q2 :: .int 0 :: .ref q3 :: .ref q4 :: .ref q5 :: .ref q6 :: .ref q7 :: .int 0 :: .int 0 :: .int 0 :: .int 0 :: .int 0 :: .int 0 :: .int 0 :: .int (-1) :: .int 0 :: .int 0 :: .int 0 :: .ref q8 :: .ref q9 :: .ref q10 :: .ref q11 :: .ref q12 :: .ref q13 :: .ref q14 :: .ref q15 :: .ref q16 :: .ref q17 :: .ref q18 :: .ref q19 :: .ref q20 :: .ref q21 :: .ref q22 :: .ref q23 :: .null :: .null :: .null :: .null :: .null :: .null :: .null :: .int 0 :: .null :: .null :: .null :: .int 0 :: .null :: .null :: .null :: .int 0 :: .null :: .null :: .null :: .null :: .null :: .null :: .null :: .null :: .int 0 :: .null :: .null :: .null :: .null :: .int 0 :: .int 0 :: .int 0 :: .null :: .null :: .int 0 :: .null :: .int 0 :: .int 0 :: .null :: .null :: .null :: .null :: [])) rfl dX12_init_192 ?_
  refine NW_ld C hl dX12_init_195 ?_
  refine NW_iconst (v := 2) C dX12_init_196 rfl ?_
  refine NW_arrI 2 C aw_int (by decide) rfl (Nat.le_of_ble_eq_true rfl) (Nat.le_of_ble_eq_true rfl) (Nat.le_of_ble_eq_true rfl) dX12_init_197 (fun q24 => ?_)
  refine NW_rot ?_
  refine NW_putE C fl_RX12_89 pg_12_37 rfl rfl rfl (fs2 := (.int 0 :: .ref q1 :: .int 0 :: .ref q2 :: .int 0 :: .ref q3 :: .ref q4 :: .ref q5 :: .ref q6 :: .ref q7 :: .int 0 :: .int 0 :: .int 0 :: .int 0 :: .int 0 :: .int 0 :: .int 0 :: .int (-1) :: .int 0 :: .int 0 :: .int 0 :: .ref q8 :: .ref q9 :: .ref q10 :: .ref q11 :: .ref q12 :: .ref q13 :: .ref q14 :: .ref q15 :: .ref q16 :: .ref q17 :: .ref q18 :: .ref q19 :: .ref q20 :: .ref q21 :: .ref q22 :: .ref q23 :: .ref q24 :: .null :: .null :: .null :: .null :: .null :: .null :: .int 0 :: .null :: .null :: .null :: .int 0 :: .null :: .null :: .null :: .int 0 :: .null :: .null :: .null :: .null :: .null :: .null :: .null :: .null :: .int 0 :: .null :: .null :: .null :: .null :: .int 0 :: .int 0 :: .int 0 :: .null :: .null :: .int 0 :: .null :: .int 0 :: .int 0 :: .null :: .null :: .null :: .null :: [])) rfl dX12_init_199 ?_
  refine NW_ld C hl dX12_init_202 ?_
  refine NW_bipush (v := 8) C dX12_init_203 rfl ?_
  refine NW_arrI 8 C aw_int (by decide) rfl (Nat.le_of_ble_eq_true rfl) (Nat.le_of_ble_eq_true rfl) (Nat.le_of_ble_eq_true rfl) dX12_init_205 (fun q25 => ?_)
  refine NW_rot ?_
  refine NW_putE C fl_RX12_92 pg_12_38 rfl rfl rfl (fs2 := (.int 0 :: .ref q1 :: .int 0 :: .ref q2 :: .int 0 :: .ref q3 :: .ref q4 :: .ref q5 :: .ref q6 :: .ref q7 :: .int 0 :: .int 0 :: .int 0 :: .int 0 :: .int 0 :: .int 0 :: .int 0 :: .int (-1) :: .int 0 :: .int 0 :: .int 0 :: .ref q8 :: .ref q9 :: .ref q10 :: .ref q11 :: .ref q12 :: .ref q13 :: .ref q14 :: .ref q15 :: .ref q16 :: .ref q17 :: .ref q18 :: .ref q19 :: .ref q20 :: .ref q21 :: .ref q22 :: .ref q23 :: .ref q24 :: .ref q25 :: .null :: .null :: .null :: .null :: .null :: .int 0 :: .null :: .null :: .null :: .int 0 :: .null :: .null :: .null :: .int 0 :: .null :: .null :: .null :: .null :: .null :: .null :: .null :: .null :: .int 0 :: .null :: .null :: .null :: .null :: .int 0 :: .int 0 :: .int 0 :: .null :: .null :: .int 0 :: .null :: .int 0 :: .int 0 :: .null :: .null :: .null :: .null :: [])) rfl dX12_init_207 ?_
  refine NW_ld C hl dX12_init_210 ?_
  refine NW_bipush (v := 96) C dX12_init_211 rfl ?_
  refine NW_arrI 96 C aw_int (by decide) rfl (Nat.le_of_ble_eq_true rfl) (Nat.le_of_ble_eq_true rfl) (Nat.le_of_ble_eq_true rfl) dX12_init_213 (fun q26 => ?_)
  refine NW_rot ?_
  refine NW_putE C fl_RX12_95 pg_12_39 rfl rfl rfl (fs2 := (.int 0 :: .ref q1 :: .int 0 :: .ref q2 :: .int 0 :: .ref q3 :: .ref q4 :: .ref q5 :: .ref q6 :: .ref q7 :: .int 0 :: .int 0 :: .int 0 :: .int 0 :: .int 0 :: .int 0 :: .int 0 :: .int (-1) :: .int 0 :: .int 0 :: .int 0 :: .ref q8 :: .ref q9 :: .ref q10 :: .ref q11 :: .ref q12 :: .ref q13 :: .ref q14 :: .ref q15 :: .ref q16 :: .ref q17 :: .ref q18 :: .ref q19 :: .ref q20 :: .ref q21 :: .ref q22 :: .ref q23 :: .ref q24 :: .ref q25 :: .ref q26 :: .null :: .null :: .null :: .null :: .int 0 :: .null :: .null :: .null :: .int 0 :: .null :: .null :: .null :: .int 0 :: .null :: .null :: .null :: .null :: .null :: .null :: .null :: .null :: .int 0 :: .null :: .null :: .null :: .null :: .int 0 :: .int 0 :: .int 0 :: .null :: .null :: .int 0 :: .null :: .int 0 :: .int 0 :: .null :: .null :: .null :: .null :: [])) rfl dX12_init_215 ?_
  refine NW_ld C hl dX12_init_218 ?_
  refine NW_bipush (v := 96) C dX12_init_219 rfl ?_
  refine NW_arrI 96 C aw_int (by decide) rfl (Nat.le_of_ble_eq_true rfl) (Nat.le_of_ble_eq_true rfl) (Nat.le_of_ble_eq_true rfl) dX12_init_221 (fun q27 => ?_)
  refine NW_rot ?_
  refine NW_putE C fl_RX12_98 pg_12_40 rfl rfl rfl (fs2 := (.int 0 :: .ref q1 :: .int 0 :: .ref q2 :: .int 0 :: .ref q3 :: .ref q4 :: .ref q5 :: .ref q6 :: .ref q7 :: .int 0 :: .int 0 :: .int 0 :: .int 0 :: .int 0 :: .int 0 :: .int 0 :: .int (-1) :: .int 0 :: .int 0 :: .int 0 :: .ref q8 :: .ref q9 :: .ref q10 :: .ref q11 :: .ref q12 :: .ref q13 :: .ref q14 :: .ref q15 :: .ref q16 :: .ref q17 :: .ref q18 :: .ref q19 :: .ref q20 :: .ref q21 :: .ref q22 :: .ref q23 :: .ref q24 :: .ref q25 :: .ref q26 :: .ref q27 :: .null :: .null :: .null :: .int 0 :: .null :: .null :: .null :: .int 0 :: .null :: .null :: .null :: .int 0 :: .null :: .null :: .null :: .null :: .null :: .null :: .null :: .null :: .int 0 :: .null :: .null :: .null :: .null :: .int 0 :: .int 0 :: .int 0 :: .null :: .null :: .int 0 :: .null :: .int 0 :: .int 0 :: .null :: .null :: .null :: .null :: [])) rfl dX12_init_223 ?_
  refine NW_ld C hl dX12_init_226 ?_
  refine NW_bipush (v := 96) C dX12_init_227 rfl ?_
  refine NW_arrZ 96 C aw_boolean (by decide) rfl (Nat.le_of_ble_eq_true rfl) (Nat.le_of_ble_eq_true rfl) (Nat.le_of_ble_eq_true rfl) dX12_init_229 (fun q28 => ?_)
  refine NW_rot ?_
  refine NW_putE C fl_RX12_101 pg_12_41 rfl rfl rfl (fs2 := (.int 0 :: .ref q1 :: .int 0 :: .ref q2 :: .int 0 :: .ref q3 :: .ref q4 :: .ref q5 :: .ref q6 :: .ref q7 :: .int 0 :: .int 0 :: .int 0 :: .int 0 :: .int 0 :: .int 0 :: .int 0 :: .int (-1) :: .int 0 :: .int 0 :: .int 0 :: .ref q8 :: .ref q9 :: .ref q10 :: .ref q11 :: .ref q12 :: .ref q13 :: .ref q14 :: .ref q15 :: .ref q16 :: .ref q17 :: .ref q18 :: .ref q19 :: .ref q20 :: .ref q21 :: .ref q22 :: .ref q23 :: .ref q24 :: .ref q25 :: .ref q26 :: .ref q27 :: .ref q28 :: .null :: .null :: .int 0 :: .null :: .null :: .null :: .int 0 :: .null :: .null :: .null :: .int 0 :: .null :: .null :: .null :: .null :: .null :: .null :: .null :: .null :: .int 0 :: .null :: .null :: .null :: .null :: .int 0 :: .int 0 :: .int 0 :: .null :: .null :: .int 0 :: .null :: .int 0 :: .int 0 :: .null :: .null :: .null :: .null :: [])) rfl dX12_init_231 ?_
  refine NW_ld C hl dX12_init_234 ?_
  refine NW_bipush (v := 96) C dX12_init_235 rfl ?_
  refine NW_arrI 96 C aw_int (by decide) rfl (Nat.le_of_ble_eq_true rfl) (Nat.le_of_ble_eq_true rfl) (Nat.le_of_ble_eq_true rfl) dX12_init_237 (fun q29 => ?_)
  refine NW_rot ?_
  refine NW_putE C fl_RX12_104 pg_12_42 rfl rfl rfl (fs2 := (.int 0 :: .ref q1 :: .int 0 :: .ref q2 :: .int 0 :: .ref q3 :: .ref q4 :: .ref q5 :: .ref q6 :: .ref q7 :: .int 0 :: .int 0 :: .int 0 :: .int 0 :: .int 0 :: .int 0 :: .int 0 :: .int (-1) :: .int 0 :: .int 0 :: .int 0 :: .ref q8 :: .ref q9 :: .ref q10 :: .ref q11 :: .ref q12 :: .ref q13 :: .ref q14 :: .ref q15 :: .ref q16 :: .ref q17 :: .ref q18 :: .ref q19 :: .ref q20 :: .ref q21 :: .ref q22 :: .ref q23 :: .ref q24 :: .ref q25 :: .ref q26 :: .ref q27 :: .ref q28 :: .ref q29 :: .null :: .int 0 :: .null :: .null :: .null :: .int 0 :: .null :: .null :: .null :: .int 0 :: .null :: .null :: .null :: .null :: .null :: .null :: .null :: .null :: .int 0 :: .null :: .null :: .null :: .null :: .int 0 :: .int 0 :: .int 0 :: .null :: .null :: .int 0 :: .null :: .int 0 :: .int 0 :: .null :: .null :: .null :: .null :: [])) rfl dX12_init_239 ?_
  refine NW_ld C hl dX12_init_242 ?_
  refine NW_sipush (v := 576) C dX12_init_243 rfl ?_
  refine NW_arrI 576 C aw_int (by decide) rfl (Nat.le_of_ble_eq_true rfl) (Nat.le_of_ble_eq_true rfl) (Nat.le_of_ble_eq_true rfl) dX12_init_246 (fun q30 => ?_)
  refine NW_rot ?_
  refine NW_putE C fl_RX12_107 pg_12_43 rfl rfl rfl (fs2 := (.int 0 :: .ref q1 :: .int 0 :: .ref q2 :: .int 0 :: .ref q3 :: .ref q4 :: .ref q5 :: .ref q6 :: .ref q7 :: .int 0 :: .int 0 :: .int 0 :: .int 0 :: .int 0 :: .int 0 :: .int 0 :: .int (-1) :: .int 0 :: .int 0 :: .int 0 :: .ref q8 :: .ref q9 :: .ref q10 :: .ref q11 :: .ref q12 :: .ref q13 :: .ref q14 :: .ref q15 :: .ref q16 :: .ref q17 :: .ref q18 :: .ref q19 :: .ref q20 :: .ref q21 :: .ref q22 :: .ref q23 :: .ref q24 :: .ref q25 :: .ref q26 :: .ref q27 :: .ref q28 :: .ref q29 :: .ref q30 :: .int 0 :: .null :: .null :: .null :: .int 0 :: .null :: .null :: .null :: .int 0 :: .null :: .null :: .null :: .null :: .null :: .null :: .null :: .null :: .int 0 :: .null :: .null :: .null :: .null :: .int 0 :: .int 0 :: .int 0 :: .null :: .null :: .int 0 :: .null :: .int 0 :: .int 0 :: .null :: .null :: .null :: .null :: [])) rfl dX12_init_248 ?_
  refine NW_ld C hl dX12_init_251 ?_
  refine NW_sipush (v := 840) C dX12_init_252 rfl ?_
  refine NW_arrI 840 C aw_int (by decide) rfl (Nat.le_of_ble_eq_true rfl) (Nat.le_of_ble_eq_true rfl) (Nat.le_of_ble_eq_true rfl) dX12_init_255 (fun q31 => ?_)
  refine NW_rot ?_
  refine NW_putE C fl_RX12_110 pg_12_45 rfl rfl rfl (fs2 := (.int 0 :: .ref q1 :: .int 0 :: .ref q2 :: .int 0 :: .ref q3 :: .ref q4 :: .ref q5 :: .ref q6 :: .ref q7 :: .int 0 :: .int 0 :: .int 0 :: .int 0 :: .int 0 :: .int 0 :: .int 0 :: .int (-1) :: .int 0 :: .int 0 :: .int 0 :: .ref q8 :: .ref q9 :: .ref q10 :: .ref q11 :: .ref q12 :: .ref q13 :: .ref q14 :: .ref q15 :: .ref q16 :: .ref q17 :: .ref q18 :: .ref q19 :: .ref q20 :: .ref q21 :: .ref q22 :: .ref q23 :: .ref q24 :: .ref q25 :: .ref q26 :: .ref q27 :: .ref q28 :: .ref q29 :: .ref q30 :: .int 0 :: .ref q31 :: .null :: .null :: .int 0 :: .null :: .null :: .null :: .int 0 :: .null :: .null :: .null :: .null :: .null :: .null :: .null :: .null :: .int 0 :: .null :: .null :: .null :: .null :: .int 0 :: .int 0 :: .int 0 :: .null :: .null :: .int 0 :: .null :: .int 0 :: .int 0 :: .null :: .null :: .null :: .null :: [])) rfl dX12_init_257 ?_
  refine NW_ld C hl dX12_init_260 ?_
  refine NW_sipush (v := 840) C dX12_init_261 rfl ?_
  refine NW_arrI 840 C aw_int (by decide) rfl (Nat.le_of_ble_eq_true rfl) (Nat.le_of_ble_eq_true rfl) (Nat.le_of_ble_eq_true rfl) dX12_init_264 (fun q32 => ?_)
  refine NW_rot ?_
  refine NW_putE C fl_RX12_113 pg_12_46 rfl rfl rfl (fs2 := (.int 0 :: .ref q1 :: .int 0 :: .ref q2 :: .int 0 :: .ref q3 :: .ref q4 :: .ref q5 :: .ref q6 :: .ref q7 :: .int 0 :: .int 0 :: .int 0 :: .int 0 :: .int 0 :: .int 0 :: .int 0 :: .int (-1) :: .int 0 :: .int 0 :: .int 0 :: .ref q8 :: .ref q9 :: .ref q10 :: .ref q11 :: .ref q12 :: .ref q13 :: .ref q14 :: .ref q15 :: .ref q16 :: .ref q17 :: .ref q18 :: .ref q19 :: .ref q20 :: .ref q21 :: .ref q22 :: .ref q23 :: .ref q24 :: .ref q25 :: .ref q26 :: .ref q27 :: .ref q28 :: .ref q29 :: .ref q30 :: .int 0 :: .ref q31 :: .ref q32 :: .null :: .int 0 :: .null :: .null :: .null :: .int 0 :: .null :: .null :: .null :: .null :: .null :: .null :: .null :: .null :: .int 0 :: .null :: .null :: .null :: .null :: .int 0 :: .int 0 :: .int 0 :: .null :: .null :: .int 0 :: .null :: .int 0 :: .int 0 :: .null :: .null :: .null :: .null :: [])) rfl dX12_init_266 ?_
  refine NW_ld C hl dX12_init_269 ?_
  refine NW_sipush (v := 420) C dX12_init_270 rfl ?_
  refine NW_arrI 420 C aw_int (by decide) rfl (Nat.le_of_ble_eq_true rfl) (Nat.le_of_ble_eq_true rfl) (Nat.le_of_ble_eq_true rfl) dX12_init_273 (fun q33 => ?_)
  refine NW_rot ?_
  refine NW_putE C fl_RX12_116 pg_12_47 rfl rfl rfl (fs2 := (.int 0 :: .ref q1 :: .int 0 :: .ref q2 :: .int 0 :: .ref q3 :: .ref q4 :: .ref q5 :: .ref q6 :: .ref q7 :: .int 0 :: .int 0 :: .int 0 :: .int 0 :: .int 0 :: .int 0 :: .int 0 :: .int (-1) :: .int 0 :: .int 0 :: .int 0 :: .ref q8 :: .ref q9 :: .ref q10 :: .ref q11 :: .ref q12 :: .ref q13 :: .ref q14 :: .ref q15 :: .ref q16 :: .ref q17 :: .ref q18 :: .ref q19 :: .ref q20 :: .ref q21 :: .ref q22 :: .ref q23 :: .ref q24 :: .ref q25 :: .ref q26 :: .ref q27 :: .ref q28 :: .ref q29 :: .ref q30 :: .int 0 :: .ref q31 :: .ref q32 :: .ref q33 :: .int 0 :: .null :: .null :: .null :: .int 0 :: .null :: .null :: .null :: .null :: .null :: .null :: .null :: .null :: .int 0 :: .null :: .null :: .null :: .null :: .int 0 :: .int 0 :: .int 0 :: .null :: .null :: .int 0 :: .null :: .int 0 :: .int 0 :: .null :: .null :: .null :: .null :: [])) rfl dX12_init_275 ?_
  refine NW_ld C hl dX12_init_278 ?_
  refine NW_bipush (v := 12) C dX12_init_279 rfl ?_
  refine NW_arrI 12 C aw_int (by decide) rfl (Nat.le_of_ble_eq_true rfl) (Nat.le_of_ble_eq_true rfl) (Nat.le_of_ble_eq_true rfl) dX12_init_281 (fun q34 => ?_)
  refine NW_rot ?_
  refine NW_putE C fl_RX12_119 pg_12_49 rfl rfl rfl (fs2 := (.int 0 :: .ref q1 :: .int 0 :: .ref q2 :: .int 0 :: .ref q3 :: .ref q4 :: .ref q5 :: .ref q6 :: .ref q7 :: .int 0 :: .int 0 :: .int 0 :: .int 0 :: .int 0 :: .int 0 :: .int 0 :: .int (-1) :: .int 0 :: .int 0 :: .int 0 :: .ref q8 :: .ref q9 :: .ref q10 :: .ref q11 :: .ref q12 :: .ref q13 :: .ref q14 :: .ref q15 :: .ref q16 :: .ref q17 :: .ref q18 :: .ref q19 :: .ref q20 :: .ref q21 :: .ref q22 :: .ref q23 :: .ref q24 :: .ref q25 :: .ref q26 :: .ref q27 :: .ref q28 :: .ref q29 :: .ref q30 :: .int 0 :: .ref q31 :: .ref q32 :: .ref q33 :: .int 0 :: .ref q34 :: .null :: .null :: .int 0 :: .null :: .null :: .null :: .null :: .null :: .null :: .null :: .null :: .int 0 :: .null :: .null :: .null :: .null :: .int 0 :: .int 0 :: .int 0 :: .null :: .null :: .int 0 :: .null :: .int 0 :: .int 0 :: .null :: .null :: .null :: .null :: [])) rfl dX12_init_283 ?_
  refine NW_ld C hl dX12_init_286 ?_
  refine NW_sipush (v := 420) C dX12_init_287 rfl ?_
  refine NW_arrI 420 C aw_int (by decide) rfl (Nat.le_of_ble_eq_true rfl) (Nat.le_of_ble_eq_true rfl) (Nat.le_of_ble_eq_true rfl) dX12_init_290 (fun q35 => ?_)
  refine NW_rot ?_
  refine NW_putE C fl_RX12_122 pg_12_50 rfl rfl rfl (fs2 := (.int 0 :: .ref q1 :: .int 0 :: .ref q2 :: .int 0 :: .ref q3 :: .ref q4 :: .ref q5 :: .ref q6 :: .ref q7 :: .int 0 :: .int 0 :: .int 0 :: .int 0 :: .int 0 :: .int 0 :: .int 0 :: .int (-1) :: .int 0 :: .int 0 :: .int 0 :: .ref q8 :: .ref q9 :: .ref q10 :: .ref q11 :: .ref q12 :: .ref q13 :: .ref q14 :: .ref q15 :: .ref q16 :: .ref q17 :: .ref q18 :: .ref q19 :: .ref q20 :: .ref q21 :: .ref q22 :: .ref q23 :: .ref q24 :: .ref q25 :: .ref q26 :: .ref q27 :: .ref q28 :: .ref q29 :: .ref q30 :: .int 0 :: .ref q31 :: .ref q32 :: .ref q33 :: .int 0 :: .ref q34 :: .ref q35 :: .null :: .int 0 :: .null :: .null :: .null :: .null :: .null :: .null :: .null :: .null :: .int 0 :: .null :: .null :: .null :: .null :: .int 0 :: .int 0 :: .int 0 :: .null :: .null :: .int 0 :: .null :: .int 0 :: .int 0 :: .null :: .null :: .null :: .null :: [])) rfl dX12_init_292 ?_
  refine NW_ld C hl dX12_init_295 ?_
  refine NW_iconst (v := 3) C dX12_init_296 rfl ?_
  refine NW_arrI 3 C aw_int (by decide) rfl (Nat.le_of_ble_eq_true rfl) (Nat.le_of_ble_eq_true rfl) (Nat.le_of_ble_eq_true rfl) dX12_init_297 (fun q36 => ?_)
  refine NW_rot ?_
  refine NW_putE C fl_RX12_125 pg_12_51 rfl rfl rfl (fs2 := (.int 0 :: .ref q1 :: .int 0 :: .ref q2 :: .int 0 :: .ref q3 :: .ref q4 :: .ref q5 :: .ref q6 :: .ref q7 :: .int 0 :: .int 0 :: .int 0 :: .int 0 :: .int 0 :: .int 0 :: .int 0 :: .int (-1) :: .int 0 :: .int 0 :: .int 0 :: .ref q8 :: .ref q9 :: .ref q10 :: .ref q11 :: .ref q12 :: .ref q13 :: .ref q14 :: .ref q15 :: .ref q16 :: .ref q17 :: .ref q18 :: .ref q19 :: .ref q20 :: .ref q21 :: .ref q22 :: .ref q23 :: .ref q24 :: .ref q25 :: .ref q26 :: .ref q27 :: .ref q28 :: .ref q29 :: .ref q30 :: .int 0 :: .ref q31 :: .ref q32 :: .ref q33 :: .int 0 :: .ref q34 :: .ref q35 :: .ref q36 :: .int 0 :: .null :: .null :: .null :: .null :: .null :: .null :: .null :: .null :: .int 0 :: .null :: .null :: .null :: .null :: .int 0 :: .int 0 :: .int 0 :: .null :: .null :: .int 0 :: .null :: .int 0 :: .int 0 :: .null :: .null :: .null :: .null :: [])) rfl dX12_init_299 ?_
  refine NW_ld C hl dX12_init_302 ?_
  refine NW_bipush (v := 80) C dX12_init_303 rfl ?_
  refine NW_arrI 80 C aw_int (by decide) rfl (Nat.le_of_ble_eq_true rfl) (Nat.le_of_ble_eq_true rfl) (Nat.le_of_ble_eq_true rfl) dX12_init_305 (fun q37 => ?_)
  refine NW_rot ?_
  refine NW_putE C fl_RX12_128 pg_12_53 rfl rfl rfl (fs2 := (.int 0 :: .ref q1 :: .int 0 :: .ref q2 :: .int 0 :: .ref q3 :: .ref q4 :: .ref q5 :: .ref q6 :: .ref q7 :: .int 0 :: .int 0 :: .int 0 :: .int 0 :: .int 0 :: .int 0 :: .int 0 :: .int (-1) :: .int 0 :: .int 0 :: .int 0 :: .ref q8 :: .ref q9 :: .ref q10 :: .ref q11 :: .ref q12 :: .ref q13 :: .ref q14 :: .ref q15 :: .ref q16 :: .ref q17 :: .ref q18 :: .ref q19 :: .ref q20 :: .ref q21 :: .ref q22 :: .ref q23 :: .ref q24 :: .ref q25 :: .ref q26 :: .ref q27 :: .ref q28 :: .ref q29 :: .ref q30 :: .int 0 :: .ref q31 :: .ref q32 :: .ref q33 :: .int 0 :: .ref q34 :: .ref q35 :: .ref q36 :: .int 0 :: .ref q37 :: .null :: .null :: .null :: .null :: .null :: .null :: .null :: .int 0 :: .null :: .null :: .null :: .null :: .int 0 :: .int 0 :: .int 0 :: .null :: .null :: .int 0 :: .null :: .int 0 :: .int 0 :: .null :: .null :: .null :: .null :: [])) rfl dX12_init_307 ?_
  refine NW_ld C hl dX12_init_310 ?_
  refine NW_bipush (v := 80) C dX12_init_311 rfl ?_
  refine NW_arrI 80 C aw_int (by decide) rfl (Nat.le_of_ble_eq_true rfl) (Nat.le_of_ble_eq_true rfl) (Nat.le_of_ble_eq_true rfl) dX12_init_313 (fun q38 => ?_)
  refine NW_rot ?_
  refine NW_putE C fl_RX12_131 pg_12_54 rfl rfl rfl (fs2 := (.int 0 :: .ref q1 :: .int 0 :: .ref q2 :: .int 0 :: .ref q3 :: .ref q4 :: .ref q5 :: .ref q6 :: .ref q7 :: .int 0 :: .int 0 :: .int 0 :: .int 0 :: .int 0 :: .int 0 :: .int 0 :: .int (-1) :: .int 0 :: .int 0 :: .int 0 :: .ref q8 :: .ref q9 :: .ref q10 :: .ref q11 :: .ref q12 :: .ref q13 :: .ref q14 :: .ref q15 :: .ref q16 :: .ref q17 :: .ref q18 :: .ref q19 :: .ref q20 :: .ref q21 :: .ref q22 :: .ref q23 :: .ref q24 :: .ref q25 :: .ref q26 :: .ref q27 :: .ref q28 :: .ref q29 :: .ref q30 :: .int 0 :: .ref q31 :: .ref q32 :: .ref q33 :: .int 0 :: .ref q34 :: .ref q35 :: .ref q36 :: .int 0 :: .ref q37 :: .ref q38 :: .null :: .null :: .null :: .null :: .null :: .null :: .int 0 :: .null :: .null :: .null :: .null :: .int 0 :: .int 0 :: .int 0 :: .null :: .null :: .int 0 :: .null :: .int 0 :: .int 0 :: .null :: .null :: .null :: .null :: [])) rfl dX12_init_315 ?_
  refine NW_ld C hl dX12_init_318 ?_
  refine NW_bipush (v := 80) C dX12_init_319 rfl ?_
  refine NW_arrI 80 C aw_int (by decide) rfl (Nat.le_of_ble_eq_true rfl) (Nat.le_of_ble_eq_true rfl) (Nat.le_of_ble_eq_true rfl) dX12_init_321 (fun q39 => ?_)
  refine NW_rot ?_
  refine NW_putE C fl_RX12_134 pg_12_55 rfl rfl rfl (fs2 := (.int 0 :: .ref q1 :: .int 0 :: .ref q2 :: .int 0 :: .ref q3 :: .ref q4 :: .ref q5 :: .ref q6 :: .ref q7 :: .int 0 :: .int 0 :: .int 0 :: .int 0 :: .int 0 :: .int 0 :: .int 0 :: .int (-1) :: .int 0 :: .int 0 :: .int 0 :: .ref q8 :: .ref q9 :: .ref q10 :: .ref q11 :: .ref q12 :: .ref q13 :: .ref q14 :: .ref q15 :: .ref q16 :: .ref q17 :: .ref q18 :: .ref q19 :: .ref q20 :: .ref q21 :: .ref q22 :: .ref q23 :: .ref q24 :: .ref q25 :: .ref q26 :: .ref q27 :: .ref q28 :: .ref q29 :: .ref q30 :: .int 0 :: .ref q31 :: .ref q32 :: .ref q33 :: .int 0 :: .ref q34 :: .ref q35 :: .ref q36 :: .int 0 :: .ref q37 :: .ref q38 :: .ref q39 :: .null :: .null :: .null :: .null :: .null :: .int 0 :: .null :: .null :: .null :: .null :: .int 0 :: .int 0 :: .int 0 :: .null :: .null :: .int 0 :: .null :: .int 0 :: .int 0 :: .null :: .null :: .null :: .null :: [])) rfl dX12_init_323 ?_
  refine NW_ld C hl dX12_init_326 ?_
  refine NW_bipush (v := 80) C dX12_init_327 rfl ?_
  refine NW_arrI 80 C aw_int (by decide) rfl (Nat.le_of_ble_eq_true rfl) (Nat.le_of_ble_eq_true rfl) (Nat.le_of_ble_eq_true rfl) dX12_init_329 (fun q40 => ?_)
  refine NW_rot ?_
  refine NW_putE C fl_RX12_137 pg_12_56 rfl rfl rfl (fs2 := (.int 0 :: .ref q1 :: .int 0 :: .ref q2 :: .int 0 :: .ref q3 :: .ref q4 :: .ref q5 :: .ref q6 :: .ref q7 :: .int 0 :: .int 0 :: .int 0 :: .int 0 :: .int 0 :: .int 0 :: .int 0 :: .int (-1) :: .int 0 :: .int 0 :: .int 0 :: .ref q8 :: .ref q9 :: .ref q10 :: .ref q11 :: .ref q12 :: .ref q13 :: .ref q14 :: .ref q15 :: .ref q16 :: .ref q17 :: .ref q18 :: .ref q19 :: .ref q20 :: .ref q21 :: .ref q22 :: .ref q23 :: .ref q24 :: .ref q25 :: .ref q26 :: .ref q27 :: .ref q28 :: .ref q29 :: .ref q30 :: .int 0 :: .ref q31 :: .ref q32 :: .ref q33 :: .int 0 :: .ref q34 :: .ref q35 :: .ref q36 :: .int 0 :: .ref q37 :: .ref q38 :: .ref q39 :: .ref q40 :: .null :: .null :: .null :: .null :: .int 0 :: .null :: .null :: .null :: .null :: .int 0 :: .int 0 :: .int 0 :: .null :: .null :: .int 0 :: .null :: .int 0 :: .int 0 :: .null :: .null :: .null :: .null :: [])) rfl dX12_init_331 ?_
  refine NW_ld C hl dX12_init_334 ?_
  refine NW_bipush (v := 80) C dX12_init_335 rfl ?_
  refine NW_arrI 80 C aw_int (by decide) rfl (Nat.le_of_ble_eq_true rfl) (Nat.le_of_ble_eq_true rfl) (Nat.le_of_ble_eq_true rfl) dX12_init_337 (fun q41 => ?_)
  refine NW_rot ?_
  refine NW_putE C fl_RX12_140 pg_12_57 rfl rfl rfl (fs2 := (.int 0 :: .ref q1 :: .int 0 :: .ref q2 :: .int 0 :: .ref q3 :: .ref q4 :: .ref q5 :: .ref q6 :: .ref q7 :: .int 0 :: .int 0 :: .int 0 :: .int 0 :: .int 0 :: .int 0 :: .int 0 :: .int (-1) :: .int 0 :: .int 0 :: .int 0 :: .ref q8 :: .ref q9 :: .ref q10 :: .ref q11 :: .ref q12 :: .ref q13 :: .ref q14 :: .ref q15 :: .ref q16 :: .ref q17 :: .ref q18 :: .ref q19 :: .ref q20 :: .ref q21 :: .ref q22 :: .ref q23 :: .ref q24 :: .ref q25 :: .ref q26 :: .ref q27 :: .ref q28 :: .ref q29 :: .ref q30 :: .int 0 :: .ref q31 :: .ref q32 :: .ref q33 :: .int 0 :: .ref q34 :: .ref q35 :: .ref q36 :: .int 0 :: .ref q37 :: .ref q38 :: .ref q39 :: .ref q40 :: .ref q41 :: .null :: .null :: .null :: .int 0 :: .null :: .null :: .null :: .null :: .int 0 :: .int 0 :: .int 0 :: .null :: .null :: .int 0 :: .null :: .int 0 :: .int 0 :: .null :: .null :: .null :: .null :: [])) rfl dX12_init_339 ?_
  refine NW_ld C hl dX12_init_342 ?_
  refine NW_bipush (v := 80) C dX12_init_343 rfl ?_
  refine NW_arrZ 80 C aw_boolean (by decide) rfl (Nat.le_of_ble_eq_true rfl) (Nat.le_of_ble_eq_true rfl) (Nat.le_of_ble_eq_true rfl) dX12_init_345 (fun q42 => ?_)
  refine NW_rot ?_
  refine NW_putE C fl_RX12_143 pg_12_58 rfl rfl rfl (fs2 := (.int 0 :: .ref q1 :: .int 0 :: .ref q2 :: .int 0 :: .ref q3 :: .ref q4 :: .ref q5 :: .ref q6 :: .ref q7 :: .int 0 :: .int 0 :: .int 0 :: .int 0 :: .int 0 :: .int 0 :: .int 0 :: .int (-1) :: .int 0 :: .int 0 :: .int 0 :: .ref q8 :: .ref q9 :: .ref q10 :: .ref q11 :: .ref q12 :: .ref q13 :: .ref q14 :: .ref q15 :: .ref q16 :: .ref q17 :: .ref q18 :: .ref q19 :: .ref q20 :: .ref q21 :: .ref q22 :: .ref q23 :: .ref q24 :: .ref q25 :: .ref q26 :: .ref q27 :: .ref q28 :: .ref q29 :: .ref q30 :: .int 0 :: .ref q31 :: .ref q32 :: .ref q33 :: .int 0 :: .ref q34 :: .ref q35 :: .ref q36 :: .int 0 :: .ref q37 :: .ref q38 :: .ref q39 :: .ref q40 :: .ref q41 :: .ref q42 :: .null :: .null :: .int 0 :: .null :: .null :: .null :: .null :: .int 0 :: .int 0 :: .int 0 :: .null :: .null :: .int 0 :: .null :: .int 0 :: .int 0 :: .null :: .null :: .null :: .null :: [])) rfl dX12_init_347 ?_
  refine NW_ld C hl dX12_init_350 ?_
  refine NW_bipush (v := 80) C dX12_init_351 rfl ?_
  refine NW_arrI 80 C aw_int (by decide) rfl (Nat.le_of_ble_eq_true rfl) (Nat.le_of_ble_eq_true rfl) (Nat.le_of_ble_eq_true rfl) dX12_init_353 (fun q43 => ?_)
  refine NW_rot ?_
  refine NW_putE C fl_RX12_146 pg_12_59 rfl rfl rfl (fs2 := (.int 0 :: .ref q1 :: .int 0 :: .ref q2 :: .int 0 :: .ref q3 :: .ref q4 :: .ref q5 :: .ref q6 :: .ref q7 :: .int 0 :: .int 0 :: .int 0 :: .int 0 :: .int 0 :: .int 0 :: .int 0 :: .int (-1) :: .int 0 :: .int 0 :: .int 0 :: .ref q8 :: .ref q9 :: .ref q10 :: .ref q11 :: .ref q12 :: .ref q13 :: .ref q14 :: .ref q15 :: .ref q16 :: .ref q17 :: .ref q18 :: .ref q19 :: .ref q20 :: .ref q21 :: .ref q22 :: .ref q23 :: .ref q24 :: .ref q25 :: .ref q26 :: .ref q27 :: .ref q28 :: .ref q29 :: .ref q30 :: .int 0 :: .ref q31 :: .ref q32 :: .ref q33 :: .int 0 :: .ref q34 :: .ref q35 :: .ref q36 :: .int 0 :: .ref q37 :: .ref q38 :: .ref q39 :: .ref q40 :: .ref q41 :: .ref q42 :: .ref q43 :: .null :: .int 0 :: .null :: .null :: .null :: .null :: .int 0 :: .int 0 :: .int 0 :: .null :: .null :: .int 0 :: .null :: .int 0 :: .int 0 :: .null :: .null :: .null :: .null :: [])) rfl dX12_init_355 ?_
  refine NW_ld C hl dX12_init_358 ?_
  refine NW_bipush (v := 80) C dX12_init_359 rfl ?_
  refine NW_arrI 80 C aw_int (by decide) rfl (Nat.le_of_ble_eq_true rfl) (Nat.le_of_ble_eq_true rfl) (Nat.le_of_ble_eq_true rfl) dX12_init_361 (fun q44 => ?_)
  refine NW_rot ?_
  refine NW_putE C fl_RX12_149 pg_12_60 rfl rfl rfl (fs2 := (.int 0 :: .ref q1 :: .int 0 :: .ref q2 :: .int 0 :: .ref q3 :: .ref q4 :: .ref q5 :: .ref q6 :: .ref q7 :: .int 0 :: .int 0 :: .int 0 :: .int 0 :: .int 0 :: .int 0 :: .int 0 :: .int (-1) :: .int 0 :: .int 0 :: .int 0 :: .ref q8 :: .ref q9 :: .ref q10 :: .ref q11 :: .ref q12 :: .ref q13 :: .ref q14 :: .ref q15 :: .ref q16 :: .ref q17 :: .ref q18 :: .ref q19 :: .ref q20 :: .ref q21 :: .ref q22 :: .ref q23 :: .ref q24 :: .ref q25 :: .ref q26 :: .ref q27 :: .ref q28 :: .ref q29 :: .ref q30 :: .int 0 :: .ref q31 :: .ref q32 :: .ref q33 :: .int 0 :: .ref q34 :: .ref q35 :: .ref q36 :: .int 0 :: .ref q37 :: .ref q38 :: .ref q39 :: .ref q40 :: .ref q41 :: .ref q42 :: .ref q43 :: .ref q44 :: .int 0 :: .null :: .null :: .null :: .null :: .int 0 :: .int 0 :: .int 0 :: .null :: .null :: .int 0 :: .null :: .int 0 :: .int 0 :: .null :: .null :: .null :: .null :: [])) rfl dX12_init_363 ?_
  refine NW_ld C hl dX12_init_366 ?_
  refine NW_bipush (v := 12) C dX12_init_367 rfl ?_
  refine NW_arrI 12 C aw_int (by decide) rfl (Nat.le_of_ble_eq_true rfl) (Nat.le_of_ble_eq_true rfl) (Nat.le_of_ble_eq_true rfl) dX12_init_369 (fun q45 => ?_)
  refine NW_rot ?_
  refine NW_putE C fl_RX12_152 pg_12_62 rfl rfl rfl (fs2 := (.int 0 :: .ref q1 :: .int 0 :: .ref q2 :: .int 0 :: .ref q3 :: .ref q4 :: .ref q5 :: .ref q6 :: .ref q7 :: .int 0 :: .int 0 :: .int 0 :: .int 0 :: .int 0 :: .int 0 :: .int 0 :: .int (-1) :: .int 0 :: .int 0 :: .int 0 :: .ref q8 :: .ref q9 :: .ref q10 :: .ref q11 :: .ref q12 :: .ref q13 :: .ref q14 :: .ref q15 :: .ref q16 :: .ref q17 :: .ref q18 :: .ref q19 :: .ref q20 :: .ref q21 :: .ref q22 :: .ref q23 :: .ref q24 :: .ref q25 :: .ref q26 :: .ref q27 :: .ref q28 :: .ref q29 :: .ref q30 :: .int 0 :: .ref q31 :: .ref q32 :: .ref q33 :: .int 0 :: .ref q34 :: .ref q35 :: .ref q36 :: .int 0 :: .ref q37 :: .ref q38 :: .ref q39 :: .ref q40 :: .ref q41 :: .ref q42 :: .ref q43 :: .ref q44 :: .int 0 :: .ref q45 :: .null :: .null :: .null :: .int 0 :: .int 0 :: .int 0 :: .null :: .null :: .int 0 :: .null :: .int 0 :: .int 0 :: .null :: .null :: .null :: .null :: [])) rfl dX12_init_371 ?_
  refine NW_ld C hl dX12_init_374 ?_
  refine NW_bipush (v := 12) C dX12_init_375 rfl ?_
  refine NW_arrI 12 C aw_int (by decide) rfl (Nat.le_of_ble_eq_true rfl) (Nat.le_of_ble_eq_true rfl) (Nat.le_of_ble_eq_true rfl) dX12_init_377 (fun q46 => ?_)
  refine NW_rot ?_
  refine NW_putE C fl_RX12_155 pg_12_63 rfl rfl rfl (fs2 := (.int 0 :: .ref q1 :: .int 0 :: .ref q2 :: .int 0 :: .ref q3 :: .ref q4 :: .ref q5 :: .ref q6 :: .ref q7 :: .int 0 :: .int 0 :: .int 0 :: .int 0 :: .int 0 :: .int 0 :: .int 0 :: .int (-1) :: .int 0 :: .int 0 :: .int 0 :: .ref q8 :: .ref q9 :: .ref q10 :: .ref q11 :: .ref q12 :: .ref q13 :: .ref q14 :: .ref q15 :: .ref q16 :: .ref q17 :: .ref q18 :: .ref q19 :: .ref q20 :: .ref q21 :: .ref q22 :: .ref q23 :: .ref q24 :: .ref q25 :: .ref q26 :: .ref q27 :: .ref q28 :: .ref q29 :: .ref q30 :: .int 0 :: .ref q31 :: .ref q32 :: .ref q33 :: .int 0 :: .ref q34 :: .ref q35 :: .ref q36 :: .int 0 :: .ref q37 :: .ref q38 :: .ref q39 :: .ref q40 :: .ref q41 :: .ref q42 :: .ref q43 :: .ref q44 :: .int 0 :: .ref q45 :: .ref q46 :: .null :: .null :: .int 0 :: .int 0 :: .int 0 :: .null :: .null :: .int 0 :: .null :: .int 0 :: .int 0 :: .null :: .null :: .null :: .null :: [])) rfl dX12_init_379 ?_
  refine NW_ld C hl dX12_init_382 ?_
  refine NW_bipush (v := 7) C dX12_init_383 rfl ?_
  refine NW_arrI 7 C aw_int (by decide) rfl (Nat.le_of_ble_eq_true rfl) (Nat.le_of_ble_eq_true rfl) (Nat.le_of_ble_eq_true rfl) dX12_init_385 (fun q47 => ?_)
  refine NW_rot ?_
  refine NW_putE C fl_RX12_158 pg_12_64 rfl rfl rfl (fs2 := (.int 0 :: .ref q1 :: .int 0 :: .ref q2 :: .int 0 :: .ref q3 :: .ref q4 :: .ref q5 :: .ref q6 :: .ref q7 :: .int 0 :: .int 0 :: .int 0 :: .int 0 :: .int 0 :: .int 0 :: .int 0 :: .int (-1) :: .int 0 :: .int 0 :: .int 0 :: .ref q8 :: .ref q9 :: .ref q10 :: .ref q11 :: .ref q12 :: .ref q13 :: .ref q14 :: .ref q15 :: .ref q16 :: .ref q17 :: .ref q18 :: .ref q19 :: .ref q20 :: .ref q21 :: .ref q22 :: .ref q23 :: .ref q24 :: .ref q25 :: .ref q26 :: .ref q27 :: .ref q28 :: .ref q29 :: .ref q30 :: .int 0 :: .ref q31 :: .ref q32 :: .ref q33 :: .int 0 :: .ref q34 :: .ref q35 :: .ref q36 :: .int 0 :: .ref q37 :: .ref q38 :: .ref q39 :: .ref q40 :: .ref q41 :: .ref q42 :: .ref q43 :: .ref q44 :: .int 0 :: .ref q45 :: .ref q46 :: .ref q47 :: .null :: .int 0 :: .int 0 :: .int 0 :: .null :: .null :: .int 0 :: .null :: .int 0 :: .int 0 :: .null :: .null :: .null :: .null :: [])) rfl dX12_init_387 ?_
  refine NW_ld C hl dX12_init_390 ?_
  refine NW_bipush (v := 7) C dX12_init_391 rfl ?_
  refine NW_arrZ 7 C aw_boolean (by decide) rfl (Nat.le_of_ble_eq_true rfl) (Nat.le_of_ble_eq_true rfl) (Nat.le_of_ble_eq_true rfl) dX12_init_393 (fun q48 => ?_)
  refine NW_rot ?_
  refine NW_putE C fl_RX12_161 pg_12_65 rfl rfl rfl (fs2 := (.int 0 :: .ref q1 :: .int 0 :: .ref q2 :: .int 0 :: .ref q3 :: .ref q4 :: .ref q5 :: .ref q6 :: .ref q7 :: .int 0 :: .int 0 :: .int 0 :: .int 0 :: .int 0 :: .int 0 :: .int 0 :: .int (-1) :: .int 0 :: .int 0 :: .int 0 :: .ref q8 :: .ref q9 :: .ref q10 :: .ref q11 :: .ref q12 :: .ref q13 :: .ref q14 :: .ref q15 :: .ref q16 :: .ref q17 :: .ref q18 :: .ref q19 :: .ref q20 :: .ref q21 :: .ref q22 :: .ref q23 :: .ref q24 :: .ref q25 :: .ref q26 :: .ref q27 :: .ref q28 :: .ref q29 :: .ref q30 :: .int 0 :: .ref q31 :: .ref q32 :: .ref q33 :: .int 0 :: .ref q34 :: .ref q35 :: .ref q36 :: .int 0 :: .ref q37 :: .ref q38 :: .ref q39 :: .ref q40 :: .ref q41 :: .ref q42 :: .ref q43 :: .ref q44 :: .int 0 :: .ref q45 :: .ref q46 :: .ref q47 :: .ref q48 :: .int 0 :: .int 0 :: .int 0 :: .null :: .null :: .int 0 :: .null :: .int 0 :: .int 0 :: .null :: .null :: .null :: .null :: [])) rfl dX12_init_395 ?_
  refine NW_ld C hl dX12_init_398 ?_
  refine NW_bipush (v := 8) C dX12_init_399 rfl ?_
  refine NW_arrI 8 C aw_int (by decide) rfl (Nat.le_of_ble_eq_true rfl) (Nat.le_of_ble_eq_true rfl) (Nat.le_of_ble_eq_true rfl) dX12_init_401 (fun q49 => ?_)
  refine NW_rot ?_
  refine NW_putE C fl_RX12_164 pg_12_69 rfl rfl rfl (fs2 := (.int 0 :: .ref q1 :: .int 0 :: .ref q2 :: .int 0 :: .ref q3 :: .ref q4 :: .ref q5 :: .ref q6 :: .ref q7 :: .int 0 :: .int 0 :: .int 0 :: .int 0 :: .int 0 :: .int 0 :: .int 0 :: .int (-1) :: .int 0 :: .int 0 :: .int 0 :: .ref q8 :: .ref q9 :: .ref q10 :: .ref q11 :: .ref q12 :: .ref q13 :: .ref q14 :: .ref q15 :: .ref q16 :: .ref q17 :: .ref q18 :: .ref q19 :: .ref q20 :: .ref q21 :: .ref q22 :: .ref q23 :: .ref q24 :: .ref q25 :: .ref q26 :: .ref q27 :: .ref q28 :: .ref q29 :: .ref q30 :: .int 0 :: .ref q31 :: .ref q32 :: .ref q33 :: .int 0 :: .ref q34 :: .ref q35 :: .ref q36 :: .int 0 :: .ref q37 :: .ref q38 :: .ref q39 :: .ref q40 :: .ref q41 :: .ref q42 :: .ref q43 :: .ref q44 :: .int 0 :: .ref q45 :: .ref q46 :: .ref q47 :: .ref q48 :: .int 0 :: .int 0 :: .int 0 :: .ref q49 :: .null :: .int 0 :: .null :: .int 0 :: .int 0 :: .null :: .null :: .null :: .null :: [])) rfl dX12_init_403 ?_
  refine NW_ld C hl dX12_init_406 ?_
  refine NW_bipush (v := 8) C dX12_init_407 rfl ?_
  refine NW_arrZ 8 C aw_boolean (by decide) rfl (Nat.le_of_ble_eq_true rfl) (Nat.le_of_ble_eq_true rfl) (Nat.le_of_ble_eq_true rfl) dX12_init_409 (fun q50 => ?_)
  refine NW_rot ?_
  refine NW_putE C fl_RX12_167 pg_12_70 rfl rfl rfl (fs2 := (.int 0 :: .ref q1 :: .int 0 :: .ref q2 :: .int 0 :: .ref q3 :: .ref q4 :: .ref q5 :: .ref q6 :: .ref q7 :: .int 0 :: .int 0 :: .int 0 :: .int 0 :: .int 0 :: .int 0 :: .int 0 :: .int (-1) :: .int 0 :: .int 0 :: .int 0 :: .ref q8 :: .ref q9 :: .ref q10 :: .ref q11 :: .ref q12 :: .ref q13 :: .ref q14 :: .ref q15 :: .ref q16 :: .ref q17 :: .ref q18 :: .ref q19 :: .ref q20 :: .ref q21 :: .ref q22 :: .ref q23 :: .ref q24 :: .ref q25 :: .ref q26 :: .ref q27 :: .ref q28 :: .ref q29 :: .ref q30 :: .int 0 :: .ref q31 :: .ref q32 :: .ref q33 :: .int 0 :: .ref q34 :: .ref q35 :: .ref q36 :: .int 0 :: .ref q37 :: .ref q38 :: .ref q39 :: .ref q40 :: .ref q41 :: .ref q42 :: .ref q43 :: .ref q44 :: .int 0 :: .ref q45 :: .ref q46 :: .ref q47 :: .ref q48 :: .int 0 :: .int 0 :: .int 0 :: .ref q49 :: .ref q50 :: .int 0 :: .null :: .int 0 :: .int 0 :: .null :: .null :: .null :: .null :: [])) rfl dX12_init_411 ?_
  refine NW_ld C hl dX12_init_414 ?_
  refine NW_bipush (v := 12) C dX12_init_415 rfl ?_
  refine NW_arrI 12 C aw_int (by decide) rfl (Nat.le_of_ble_eq_true rfl) (Nat.le_of_ble_eq_true rfl) (Nat.le_of_ble_eq_true rfl) dX12_init_417 (fun q51 => ?_)
  refine NW_rot ?_
  refine NW_putE C fl_RX12_170 pg_12_72 rfl rfl rfl (fs2 := (.int 0 :: .ref q1 :: .int 0 :: .ref q2 :: .int 0 :: .ref q3 :: .ref q4 :: .ref q5 :: .ref q6 :: .ref q7 :: .int 0 :: .int 0 :: .int 0 :: .int 0 :: .int 0 :: .int 0 :: .int 0 :: .int (-1) :: .int 0 :: .int 0 :: .int 0 :: .ref q8 :: .ref q9 :: .ref q10 :: .ref q11 :: .ref q12 :: .ref q13 :: .ref q14 :: .ref q15 :: .ref q16 :: .ref q17 :: .ref q18 :: .ref q19 :: .ref q20 :: .ref q21 :: .ref q22 :: .ref q23 :: .ref q24 :: .ref q25 :: .ref q26 :: .ref q27 :: .ref q28 :: .ref q29 :: .ref q30 :: .int 0 :: .ref q31 :: .ref q32 :: .ref q33 :: .int 0 :: .ref q34 :: .ref q35 :: .ref q36 :: .int 0 :: .ref q37 :: .ref q38 :: .ref q39 :: .ref q40 :: .ref q41 :: .ref q42 :: .ref q43 :: .ref q44 :: .int 0 :: .ref q45 :: .ref q46 :: .ref q47 :: .ref q48 :: .int 0 :: .int 0 :: .int 0 :: .ref q49 :: .ref q50 :: .int 0 :: .ref q51 :: .int 0 :: .int 0 :: .null :: .null :: .null :: .null :: [])) rfl dX12_init_419 ?_
  refine NW_ld C hl dX12_init_422 ?_
  refine NW_bipush (v := 6) C dX12_init_423 rfl ?_
  refine NW_arrI 6 C aw_int (by decide) rfl (Nat.le_of_ble_eq_true rfl) (Nat.le_of_ble_eq_true rfl) (Nat.le_of_ble_eq_true rfl) dX12_init_425 (fun q52 => ?_)
  refine NW_rot ?_
  refine NW_putE C fl_RX12_173 pg_12_75 rfl rfl rfl (fs2 := (.int 0 :: .ref q1 :: .int 0 :: .ref q2 :: .int 0 :: .ref q3 :: .ref q4 :: .ref q5 :: .ref q6 :: .ref q7 :: .int 0 :: .int 0 :: .int 0 :: .int 0 :: .int 0 :: .int 0 :: .int 0 :: .int (-1) :: .int 0 :: .int 0 :: .int 0 :: .ref q8 :: .ref q9 :: .ref q10 :: .ref q11 :: .ref q12 :: .ref q13 :: .ref q14 :: .ref q15 :: .ref q16 :: .ref q17 :: .ref q18 :: .ref q19 :: .ref q20 :: .ref q21 :: .ref q22 :: .ref q23 :: .ref q24 :: .ref q25 :: .ref q26 :: .ref q27 :: .ref q28 :: .ref q29 :: .ref q30 :: .int 0 :: .ref q31 :: .ref q32 :: .ref q33 :: .int 0 :: .ref q34 :: .ref q35 :: .ref q36 :: .int 0 :: .ref q37 :: .ref q38 :: .ref q39 :: .ref q40 :: .ref q41 :: .ref q42 :: .ref q43 :: .ref q44 :: .int 0 :: .ref q45 :: .ref q46 :: .ref q47 :: .ref q48 :: .int 0 :: .int 0 :: .int 0 :: .ref q49 :: .ref q50 :: .int 0 :: .ref q51 :: .int 0 :: .int 0 :: .ref q52 :: .null :: .null :: .null :: [])) rfl dX12_init_427 ?_
  refine NW_ld C hl dX12_init_430 ?_
  refine NW_bipush (v := 6) C dX12_init_431 rfl ?_
  refine NW_arrI 6 C aw_int (by decide) rfl (Nat.le_of_ble_eq_true rfl) (Nat.le_of_ble_eq_true rfl) (Nat.le_of_ble_eq_true rfl) dX12_init_433 (fun q53 => ?_)
  refine NW_rot ?_
  refine NW_putE C fl_RX12_176 pg_12_76 rfl rfl rfl (fs2 := (.int 0 :: .ref q1 :: .int 0 :: .ref q2 :: .int 0 :: .ref q3 :: .ref q4 :: .ref q5 :: .ref q6 :: .ref q7 :: .int 0 :: .int 0 :: .int 0 :: .int 0 :: .int 0 :: .int 0 :: .int 0 :: .int (-1) :: .int 0 :: .int 0 :: .int 0 :: .ref q8 :: .ref q9 :: .ref q10 :: .ref q11 :: .ref q12 :: .ref q13 :: .ref q14 :: .ref q15 :: .ref q16 :: .ref q17 :: .ref q18 :: .ref q19 :: .ref q20 :: .ref q21 :: .ref q22 :: .ref q23 :: .ref q24 :: .ref q25 :: .ref q26 :: .ref q27 :: .ref q28 :: .ref q29 :: .ref q30 :: .int 0 :: .ref q31 :: .ref q32 :: .ref q33 :: .int 0 :: .ref q34 :: .ref q35 :: .ref q36 :: .int 0 :: .ref q37 :: .ref q38 :: .ref q39 :: .ref q40 :: .ref q41 :: .ref q42 :: .ref q43 :: .ref q44 :: .int 0 :: .ref q45 :: .ref q46 :: .ref q47 :: .ref q48 :: .int 0 :: .int 0 :: .int 0 :: .ref q49 :: .ref q50 :: .int 0 :: .ref q51 :: .int 0 :: .int 0 :: .ref q52 :: .ref q53 :: .null :: .null :: [])) rfl dX12_init_435 ?_
  refine NW_ld C hl dX12_init_438 ?_
  refine NW_bipush (v := 6) C dX12_init_439 rfl ?_
  refine NW_arrI 6 C aw_int (by decide) rfl (Nat.le_of_ble_eq_true rfl) (Nat.le_of_ble_eq_true rfl) (Nat.le_of_ble_eq_true rfl) dX12_init_441 (fun q54 => ?_)
  refine NW_rot ?_
  refine NW_putE C fl_RX12_179 pg_12_77 rfl rfl rfl (fs2 := (.int 0 :: .ref q1 :: .int 0 :: .ref q2 :: .int 0 :: .ref q3 :: .ref q4 :: .ref q5 :: .ref q6 :: .ref q7 :: .int 0 :: .int 0 :: .int 0 :: .int 0 :: .int 0 :: .int 0 :: .int 0 :: .int (-1) :: .int 0 :: .int 0 :: .int 0 :: .ref q8 :: .ref q9 :: .ref q10 :: .ref q11 :: .ref q12 :: .ref q13 :: .ref q14 :: .ref q15 :: .ref q16 :: .ref q17 :: .ref q18 :: .ref q19 :: .ref q20 :: .ref q21 :: .ref q22 :: .ref q23 :: .ref q24 :: .ref q25 :: .ref q26 :: .ref q27 :: .ref q28 :: .ref q29 :: .ref q30 :: .int 0 :: .ref q31 :: .ref q32 :: .ref q33 :: .int 0 :: .ref q34 :: .ref q35 :: .ref q36 :: .int 0 :: .ref q37 :: .ref q38 :: .ref q39 :: .ref q40 :: .ref q41 :: .ref q42 :: .ref q43 :: .ref q44 :: .int 0 :: .ref q45 :: .ref q46 :: .ref q47 :: .ref q48 :: .int 0 :: .int 0 :: .int 0 :: .ref q49 :: .ref q50 :: .int 0 :: .ref q51 :: .int 0 :: .int 0 :: .ref q52 :: .ref q53 :: .ref q54 :: .null :: [])) rfl dX12_init_443 ?_
  refine NW_ld C hl dX12_init_446 ?_
  refine NW_bipush (v := 6) C dX12_init_447 rfl ?_
  refine NW_arrI 6 C aw_int (by decide) rfl (Nat.le_of_ble_eq_true rfl) (Nat.le_of_ble_eq_true rfl) (Nat.le_of_ble_eq_true rfl) dX12_init_449 (fun q55 => ?_)
  refine NW_rot ?_
  refine NW_putE C fl_RX12_182 pg_12_78 rfl rfl rfl (fs2 := (.int 0 :: .ref q1 :: .int 0 :: .ref q2 :: .int 0 :: .ref q3 :: .ref q4 :: .ref q5 :: .ref q6 :: .ref q7 :: .int 0 :: .int 0 :: .int 0 :: .int 0 :: .int 0 :: .int 0 :: .int 0 :: .int (-1) :: .int 0 :: .int 0 :: .int 0 :: .ref q8 :: .ref q9 :: .ref q10 :: .ref q11 :: .ref q12 :: .ref q13 :: .ref q14 :: .ref q15 :: .ref q16 :: .ref q17 :: .ref q18 :: .ref q19 :: .ref q20 :: .ref q21 :: .ref q22 :: .ref q23 :: .ref q24 :: .ref q25 :: .ref q26 :: .ref q27 :: .ref q28 :: .ref q29 :: .ref q30 :: .int 0 :: .ref q31 :: .ref q32 :: .ref q33 :: .int 0 :: .ref q34 :: .ref q35 :: .ref q36 :: .int 0 :: .ref q37 :: .ref q38 :: .ref q39 :: .ref q40 :: .ref q41 :: .ref q42 :: .ref q43 :: .ref q44 :: .int 0 :: .ref q45 :: .ref q46 :: .ref q47 :: .ref q48 :: .int 0 :: .int 0 :: .int 0 :: .ref q49 :: .ref q50 :: .int 0 :: .ref q51 :: .int 0 :: .int 0 :: .ref q52 :: .ref q53 :: .ref q54 :: .ref q55 :: [])) rfl dX12_init_451 ?_
  refine NW_ld C hl dX12_init_454 ?_
  exact K (fun k => [h0, q55, q54, q53, q52, q51, q50, q49, q48, q47, q46, q45, q44, q43, q42, q41, q40, q39, q38, q37, q36, q35, q34, q33, q32, q31, q30, q29, q28, q27, q26, q25, q24, q23, q22, q21, q20, q19, q18, q17, q16, q15, q14, q13, q12, q11, q10, q9, q8, q7, q6, q5, q4, q3, q2, q1].getD k 0) rfl
