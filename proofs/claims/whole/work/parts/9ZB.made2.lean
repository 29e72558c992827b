def cs_176 : aH := nw cs_175 76 11 0 50
theorem gn_176 : gN cs_176 = 77 := rfl
theorem dX10_init_0 : decode cX10_init 0 = .ok (.aload_n 0, 1) := by decide +kernel
theorem dX10_init_1 : decode cX10_init 1 = .ok (.invokespecial 1, 3) := by decide +kernel
theorem dX10_init_4 : decode cX10_init 4 = .ok (.aload_n 0, 1) := by decide +kernel
theorem dX10_init_5 : decode cX10_init 5 = .ok (.iconst (-1), 1) := by decide +kernel
theorem dX10_init_6 : decode cX10_init 6 = .ok (.putfield 9, 3) := by decide +kernel
theorem dX10_init_9 : decode cX10_init 9 = .ok (.aload_n 0, 1) := by decide +kernel
theorem dX10_init_10 : decode cX10_init 10 = .ok (.sipush 600, 3) := by decide +kernel
theorem dX10_init_13 : decode cX10_init 13 = .ok (.newarray .int, 2) := by decide +kernel
theorem dX10_init_15 : decode cX10_init 15 = .ok (.putfield 13, 3) := by decide +kernel
theorem dX10_init_18 : decode cX10_init 18 = .ok (.aload_n 0, 1) := by decide +kernel
theorem dX10_init_19 : decode cX10_init 19 = .ok (.iconst 2, 1) := by decide +kernel
theorem dX10_init_20 : decode cX10_init 20 = .ok (.newarray .int, 2) := by decide +kernel
theorem dX10_init_22 : decode cX10_init 22 = .ok (.putfield 17, 3) := by decide +kernel
theorem dX10_init_25 : decode cX10_init 25 = .ok (.aload_n 0, 1) := by decide +kernel
theorem dX10_init_26 : decode cX10_init 26 = .ok (.bipush 8, 2) := by decide +kernel
theorem dX10_init_28 : decode cX10_init 28 = .ok (.newarray .int, 2) := by decide +kernel
theorem dX10_init_30 : decode cX10_init 30 = .ok (.putfield 20, 3) := by decide +kernel
theorem dX10_init_33 : decode cX10_init 33 = .ok (.aload_n 0, 1) := by decide +kernel
theorem dX10_init_34 : decode cX10_init 34 = .ok (.bipush 8, 2) := by decide +kernel
theorem dX10_init_36 : decode cX10_init 36 = .ok (.newarray .int, 2) := by decide +kernel
theorem dX10_init_38 : decode cX10_init 38 = .ok (.putfield 23, 3) := by decide +kernel
theorem dX10_init_41 : decode cX10_init 41 = .ok (.aload_n 0, 1) := by decide +kernel
theorem dX10_init_42 : decode cX10_init 42 = .ok (.bipush 8, 2) := by decide +kernel
theorem dX10_init_44 : decode cX10_init 44 = .ok (.bipush 7, 2) := by decide +kernel
theorem dX10_init_46 : decode cX10_init 46 = .ok (.multianewarray 26 2, 4) := by decide +kernel
theorem dX10_init_50 : decode cX10_init 50 = .ok (.putfield 28, 3) := by decide +kernel
theorem dX10_init_53 : decode cX10_init 53 = .ok (.aload_n 0, 1) := by decide +kernel
theorem dX10_init_54 : decode cX10_init 54 = .ok (.bipush 9, 2) := by decide +kernel
theorem dX10_init_56 : decode cX10_init 56 = .ok (.bipush 7, 2) := by decide +kernel
theorem dX10_init_58 : decode cX10_init 58 = .ok (.multianewarray 26 2, 4) := by decide +kernel
theorem dX10_init_62 : decode cX10_init 62 = .ok (.putfield 31, 3) := by decide +kernel
theorem dX10_init_65 : decode cX10_init 65 = .ok (.aload_n 0, 1) := by decide +kernel
theorem dX10_init_66 : decode cX10_init 66 = .ok (.bipush 20, 2) := by decide +kernel
theorem dX10_init_68 : decode cX10_init 68 = .ok (.iconst 4, 1) := by decide +kernel
theorem dX10_init_69 : decode cX10_init 69 = .ok (.multianewarray 26 2, 4) := by decide +kernel
theorem dX10_init_73 : decode cX10_init 73 = .ok (.putfield 34, 3) := by decide +kernel
theorem dX10_init_76 : decode cX10_init 76 = .ok (.aload_n 0, 1) := by decide +kernel
theorem dX10_init_77 : decode cX10_init 77 = .ok (.bipush 20, 2) := by decide +kernel
theorem dX10_init_79 : decode cX10_init 79 = .ok (.iconst 4, 1) := by decide +kernel
theorem dX10_init_80 : decode cX10_init 80 = .ok (.multianewarray 26 2, 4) := by decide +kernel
theorem dX10_init_84 : decode cX10_init 84 = .ok (.putfield 37, 3) := by decide +kernel
theorem dX10_init_87 : decode cX10_init 87 = .ok (.aload_n 0, 1) := by decide +kernel
theorem dX10_init_88 : decode cX10_init 88 = .ok (.bipush 20, 2) := by decide +kernel
theorem dX10_init_90 : decode cX10_init 90 = .ok (.iconst 2, 1) := by decide +kernel
theorem dX10_init_91 : decode cX10_init 91 = .ok (.multianewarray 26 2, 4) := by decide +kernel
theorem dX10_init_95 : decode cX10_init 95 = .ok (.putfield 40, 3) := by decide +kernel
theorem dX10_init_98 : decode cX10_init 98 = .ok (.aload_n 0, 1) := by decide +kernel
theorem dX10_init_99 : decode cX10_init 99 = .ok (.bipush 20, 2) := by decide +kernel
theorem dX10_init_101 : decode cX10_init 101 = .ok (.iconst 2, 1) := by decide +kernel
theorem dX10_init_102 : decode cX10_init 102 = .ok (.multianewarray 26 2, 4) := by decide +kernel
theorem dX10_init_106 : decode cX10_init 106 = .ok (.putfield 43, 3) := by decide +kernel
theorem dX10_init_109 : decode cX10_init 109 = .ok (.aload_n 0, 1) := by decide +kernel
theorem dX10_init_110 : decode cX10_init 110 = .ok (.bipush 8, 2) := by decide +kernel
theorem dX10_init_112 : decode cX10_init 112 = .ok (.newarray .int, 2) := by decide +kernel
theorem dX10_init_114 : decode cX10_init 114 = .ok (.putfield 46, 3) := by decide +kernel
theorem dX10_init_117 : decode cX10_init 117 = .ok (.aload_n 0, 1) := by decide +kernel
theorem dX10_init_118 : decode cX10_init 118 = .ok (.iconst 3, 1) := by decide +kernel
theorem dX10_init_119 : decode cX10_init 119 = .ok (.bipush 34, 2) := by decide +kernel
theorem dX10_init_121 : decode cX10_init 121 = .ok (.multianewarray 26 2, 4) := by decide +kernel
theorem dX10_init_125 : decode cX10_init 125 = .ok (.putfield 49, 3) := by decide +kernel
theorem dX10_init_128 : decode cX10_init 128 = .ok (.aload_n 0, 1) := by decide +kernel
theorem dX10_init_129 : decode cX10_init 129 = .ok (.bipush 70, 2) := by decide +kernel
theorem dX10_init_131 : decode cX10_init 131 = .ok (.iconst 4, 1) := by decide +kernel
theorem dX10_init_132 : decode cX10_init 132 = .ok (.multianewarray 26 2, 4) := by decide +kernel
theorem dX10_init_136 : decode cX10_init 136 = .ok (.putfield 52, 3) := by decide +kernel
theorem dX10_init_139 : decode cX10_init 139 = .ok (.aload_n 0, 1) := by decide +kernel
theorem dX10_init_140 : decode cX10_init 140 = .ok (.bipush 20, 2) := by decide +kernel
theorem dX10_init_142 : decode cX10_init 142 = .ok (.bipush 9, 2) := by decide +kernel
theorem dX10_init_144 : decode cX10_init 144 = .ok (.multianewarray 26 2, 4) := by decide +kernel
theorem dX10_init_148 : decode cX10_init 148 = .ok (.putfield 55, 3) := by decide +kernel
theorem dX10_init_151 : decode cX10_init 151 = .ok (.aload_n 0, 1) := by decide +kernel
theorem dX10_init_152 : decode cX10_init 152 = .ok (.bipush 9, 2) := by decide +kernel
theorem dX10_init_154 : decode cX10_init 154 = .ok (.bipush 9, 2) := by decide +kernel
theorem dX10_init_156 : decode cX10_init 156 = .ok (.multianewarray 26 2, 4) := by decide +kernel
theorem dX10_init_160 : decode cX10_init 160 = .ok (.putfield 58, 3) := by decide +kernel
theorem dX10_init_163 : decode cX10_init 163 = .ok (.aload_n 0, 1) := by decide +kernel
theorem dX10_init_164 : decode cX10_init 164 = .ok (.bipush 9, 2) := by decide +kernel
theorem dX10_init_166 : decode cX10_init 166 = .ok (.bipush 9, 2) := by decide +kernel
theorem dX10_init_168 : decode cX10_init 168 = .ok (.multianewarray 26 2, 4) := by decide +kernel
theorem dX10_init_172 : decode cX10_init 172 = .ok (.putfield 61, 3) := by decide +kernel
theorem dX10_init_175 : decode cX10_init 175 = .ok (.aload_n 0, 1) := by decide +kernel
theorem dX10_init_176 : decode cX10_init 176 = .ok (.bipush 9, 2) := by decide +kernel
theorem dX10_init_178 : decode cX10_init 178 = .ok (.bipush 9, 2) := by decide +kernel
theorem dX10_init_180 : decode cX10_init 180 = .ok (.multianewarray 26 2, 4) := by decide +kernel
theorem dX10_init_184 : decode cX10_init 184 = .ok (.putfield 64, 3) := by decide +kernel
theorem dX10_init_187 : decode cX10_init 187 = .ok (.aload_n 0, 1) := by decide +kernel
theorem dX10_init_188 : decode cX10_init 188 = .ok (.bipush 9, 2) := by decide +kernel
theorem dX10_init_190 : decode cX10_init 190 = .ok (.newarray .int, 2) := by decide +kernel
theorem dX10_init_192 : decode cX10_init 192 = .ok (.putfield 67, 3) := by decide +kernel
theorem dX10_init_195 : decode cX10_init 195 = .ok (.aload_n 0, 1) := by decide +kernel
theorem dX10_init_196 : decode cX10_init 196 = .ok (.bipush 24, 2) := by decide +kernel
theorem dX10_init_198 : decode cX10_init 198 = .ok (.newarray .int, 2) := by decide +kernel
theorem dX10_init_200 : decode cX10_init 200 = .ok (.putfield 70, 3) := by decide +kernel
theorem dX10_init_203 : decode cX10_init 203 = .ok (.aload_n 0, 1) := by decide +kernel
theorem dX10_init_204 : decode cX10_init 204 = .ok (.bipush 20, 2) := by decide +kernel
theorem dX10_init_206 : decode cX10_init 206 = .ok (.newarray .int, 2) := by decide +kernel
theorem dX10_init_208 : decode cX10_init 208 = .ok (.putfield 73, 3) := by decide +kernel
theorem dX10_init_211 : decode cX10_init 211 = .ok (.aload_n 0, 1) := by decide +kernel
theorem dX10_init_212 : decode cX10_init 212 = .ok (.sipush 256, 3) := by decide +kernel
theorem dX10_init_215 : decode cX10_init 215 = .ok (.newarray .int, 2) := by decide +kernel
theorem dX10_init_217 : decode cX10_init 217 = .ok (.putfield 76, 3) := by decide +kernel
theorem dX10_init_220 : decode cX10_init 220 = .ok (.aload_n 0, 1) := by decide +kernel
theorem dX10_init_221 : decode cX10_init 221 = .ok (.sipush 256, 3) := by decide +kernel
theorem dX10_init_224 : decode cX10_init 224 = .ok (.newarray .int, 2) := by decide +kernel
theorem dX10_init_226 : decode cX10_init 226 = .ok (.putfield 79, 3) := by decide +kernel
theorem dX10_init_229 : decode cX10_init 229 = .ok (.aload_n 0, 1) := by decide +kernel
theorem dX10_init_230 : decode cX10_init 230 = .ok (.bipush 9, 2) := by decide +kernel
theorem dX10_init_232 : decode cX10_init 232 = .ok (.newarray .int, 2) := by decide +kernel
theorem dX10_init_234 : decode cX10_init 234 = .ok (.putfield 82, 3) := by decide +kernel
theorem dX10_init_237 : decode cX10_init 237 = .ok (.aload_n 0, 1) := by decide +kernel
theorem dX10_init_238 : decode cX10_init 238 = .ok (.bipush 9, 2) := by decide +kernel
theorem dX10_init_240 : decode cX10_init 240 = .ok (.newarray .int, 2) := by decide +kernel
theorem dX10_init_242 : decode cX10_init 242 = .ok (.putfield 85, 3) := by decide +kernel
theorem dX10_init_245 : decode cX10_init 245 = .ok (.aload_n 0, 1) := by decide +kernel
theorem dX10_init_246 : decode cX10_init 246 = .ok (.bipush 9, 2) := by decide +kernel
theorem dX10_init_248 : decode cX10_init 248 = .ok (.newarray .int, 2) := by decide +kernel
theorem dX10_init_250 : decode cX10_init 250 = .ok (.putfield 88, 3) := by decide +kernel
theorem dX10_init_253 : decode cX10_init 253 = .ok (.aload_n 0, 1) := by decide +kernel
theorem dX10_init_254 : decode cX10_init 254 = .ok (.bipush 9, 2) := by decide +kernel
theorem dX10_init_256 : decode cX10_init 256 = .ok (.newarray .int, 2) := by decide +kernel
theorem dX10_init_258 : decode cX10_init 258 = .ok (.putfield 91, 3) := by decide +kernel
theorem dX10_init_261 : decode cX10_init 261 = .ok (.aload_n 0, 1) := by decide +kernel
theorem dX10_init_262 : decode cX10_init 262 = .ok (.bipush 21, 2) := by decide +kernel
theorem dX10_init_264 : decode cX10_init 264 = .ok (.bipush 8, 2) := by decide +kernel
theorem dX10_init_266 : decode cX10_init 266 = .ok (.multianewarray 26 2, 4) := by decide +kernel
theorem dX10_init_270 : decode cX10_init 270 = .ok (.putfield 94, 3) := by decide +kernel
theorem dX10_init_273 : decode cX10_init 273 = .ok (.aload_n 0, 1) := by decide +kernel
theorem dX10_init_274 : decode cX10_init 274 = .ok (.bipush 9, 2) := by decide +kernel
theorem dX10_init_276 : decode cX10_init 276 = .ok (.newarray .int, 2) := by decide +kernel
theorem dX10_init_278 : decode cX10_init 278 = .ok (.putfield 97, 3) := by decide +kernel
theorem dX10_init_281 : decode cX10_init 281 = .ok (.aload_n 0, 1) := by decide +kernel
theorem dX10_init_282 : decode cX10_init 282 = .ok (.invokevirtual 100, 3) := by decide +kernel
theorem dX10_init_285 : decode cX10_init 285 = .ok (.aload_n 0, 1) := by decide +kernel
theorem dX10_init_286 : decode cX10_init 286 = .ok (.invokevirtual 103, 3) := by decide +kernel
theorem dX10_init_289 : decode cX10_init 289 = .ok (.return_, 1) := by decide +kernel
theorem no_10_1 : Cond.methodLink (cn 10) 1 objectInit ∈ lw_tbl := List.mem_of_getElem? (i := 1406) (by decide +kernel)
def cs_177 : aH := sI cs_176 76 3 (nZ (-1))
theorem gn_177 : gN cs_177 = 77 := rfl
def cs_178 : aH := nw cs_177 77 101 600 600
theorem gn_178 : gN cs_178 = 78 := rfl
def cs_179 : aH := sR cs_178 76 8 (some 77)
theorem gn_179 : gN cs_179 = 78 := rfl
def cs_180 : aH := nw cs_179 78 101 2 2
theorem gn_180 : gN cs_180 = 79 := rfl
def cs_181 : aH := sR cs_180 76 9 (some 78)
theorem gn_181 : gN cs_181 = 79 := rfl
def cs_182 : aH := nw cs_181 79 101 8 8
theorem gn_182 : gN cs_182 = 80 := rfl
def cs_183 : aH := sR cs_182 76 10 (some 79)
theorem gn_183 : gN cs_183 = 80 := rfl
def cs_184 : aH := nw cs_183 80 101 8 8
theorem gn_184 : gN cs_184 = 81 := rfl
def cs_185 : aH := sR cs_184 76 11 (some 80)
theorem gn_185 : gN cs_185 = 81 := rfl
theorem na_10_26 : Cond.classLink (cn 10) 26 "[[I" ∈ lw_tbl := List.mem_of_getElem? (i := 1407) (by decide +kernel)
def cs_186 : aH := nwA cs_185 81 8 7
theorem gn_186 : gN cs_186 = 90 := rfl
def cs_187 : aH := sR cs_186 76 12 (some 81)
theorem gn_187 : gN cs_187 = 90 := rfl
def cs_188 : aH := nwA cs_187 90 9 7
theorem gn_188 : gN cs_188 = 100 := rfl
def cs_189 : aH := sR cs_188 76 13 (some 90)
theorem gn_189 : gN cs_189 = 100 := rfl
def cs_190 : aH := nwA cs_189 100 20 4
theorem gn_190 : gN cs_190 = 121 := rfl
def cs_191 : aH := sR cs_190 76 14 (some 100)
theorem gn_191 : gN cs_191 = 121 := rfl
def cs_192 : aH := nwA cs_191 121 20 4
theorem gn_192 : gN cs_192 = 142 := rfl
def cs_193 : aH := sR cs_192 76 15 (some 121)
theorem gn_193 : gN cs_193 = 142 := rfl
def cs_194 : aH := nwA cs_193 142 20 2
theorem gn_194 : gN cs_194 = 163 := rfl
def cs_195 : aH := sR cs_194 76 16 (some 142)
theorem gn_195 : gN cs_195 = 163 := rfl
def cs_196 : aH := nwA cs_195 163 20 2
theorem gn_196 : gN cs_196 = 184 := rfl
def cs_197 : aH := sR cs_196 76 17 (some 163)
theorem gn_197 : gN cs_197 = 184 := rfl
def cs_198 : aH := nw cs_197 184 101 8 8
theorem gn_198 : gN cs_198 = 185 := rfl
def cs_199 : aH := sR cs_198 76 23 (some 184)
theorem gn_199 : gN cs_199 = 185 := rfl
def cs_200 : aH := nwA cs_199 185 3 34
theorem gn_200 : gN cs_200 = 189 := rfl
def cs_201 : aH := sR cs_200 76 24 (some 185)
theorem gn_201 : gN cs_201 = 189 := rfl
def cs_202 : aH := nwA cs_201 189 70 4
theorem gn_202 : gN cs_202 = 260 := rfl
def cs_203 : aH := sR cs_202 76 26 (some 189)
theorem gn_203 : gN cs_203 = 260 := rfl
def cs_204 : aH := nwA cs_203 260 20 9
theorem gn_204 : gN cs_204 = 281 := rfl
def cs_205 : aH := sR cs_204 76 29 (some 260)
theorem gn_205 : gN cs_205 = 281 := rfl
def cs_206 : aH := nwA cs_205 281 9 9
theorem gn_206 : gN cs_206 = 291 := rfl
def cs_207 : aH := sR cs_206 76 30 (some 281)
theorem gn_207 : gN cs_207 = 291 := rfl
def cs_208 : aH := nwA cs_207 291 9 9
theorem gn_208 : gN cs_208 = 301 := rfl
def cs_209 : aH := sR cs_208 76 31 (some 291)
theorem gn_209 : gN cs_209 = 301 := rfl
def cs_210 : aH := nwA cs_209 301 9 9
theorem gn_210 : gN cs_210 = 311 := rfl
def cs_211 : aH := sR cs_210 76 32 (some 301)
theorem gn_211 : gN cs_211 = 311 := rfl
def cs_212 : aH := nw cs_211 311 101 9 9
theorem gn_212 : gN cs_212 = 312 := rfl
def cs_213 : aH := sR cs_212 76 33 (some 311)
theorem gn_213 : gN cs_213 = 312 := rfl
def cs_214 : aH := nw cs_213 312 101 24 24
theorem gn_214 : gN cs_214 = 313 := rfl
def cs_215 : aH := sR cs_214 76 34 (some 312)
theorem gn_215 : gN cs_215 = 313 := rfl
def cs_216 : aH := nw cs_215 313 101 20 20
theorem gn_216 : gN cs_216 = 314 := rfl
def cs_217 : aH := sR cs_216 76 35 (some 313)
theorem gn_217 : gN cs_217 = 314 := rfl
def cs_218 : aH := nw cs_217 314 101 256 256
theorem gn_218 : gN cs_218 = 315 := rfl
def cs_219 : aH := sR cs_218 76 40 (some 314)
theorem gn_219 : gN cs_219 = 315 := rfl
def cs_220 : aH := nw cs_219 315 101 256 256
theorem gn_220 : gN cs_220 = 316 := rfl
def cs_221 : aH := sR cs_220 76 41 (some 315)
theorem gn_221 : gN cs_221 = 316 := rfl
def cs_222 : aH := nw cs_221 316 101 9 9
theorem gn_222 : gN cs_222 = 317 := rfl
def cs_223 : aH := sR cs_222 76 44 (some 316)
theorem gn_223 : gN cs_223 = 317 := rfl
def cs_224 : aH := nw cs_223 317 101 9 9
theorem gn_224 : gN cs_224 = 318 := rfl
def cs_225 : aH := sR cs_224 76 45 (some 317)
theorem gn_225 : gN cs_225 = 318 := rfl
def cs_226 : aH := nw cs_225 318 101 9 9
theorem gn_226 : gN cs_226 = 319 := rfl
def cs_227 : aH := sR cs_226 76 46 (some 318)
theorem gn_227 : gN cs_227 = 319 := rfl
def cs_228 : aH := nw cs_227 319 101 9 9
theorem gn_228 : gN cs_228 = 320 := rfl
def cs_229 : aH := sR cs_228 76 47 (some 319)
theorem gn_229 : gN cs_229 = 320 := rfl
def cs_230 : aH := nwA cs_229 320 21 8
theorem gn_230 : gN cs_230 = 342 := rfl
def cs_231 : aH := sR cs_230 76 48 (some 320)
theorem gn_231 : gN cs_231 = 342 := rfl
def cs_232 : aH := nw cs_231 342 101 9 9
theorem gn_232 : gN cs_232 = 343 := rfl
def cs_233 : aH := sR cs_232 76 49 (some 342)
theorem gn_233 : gN cs_233 = 343 := rfl
/-! the reference's constructor: its rows, then what it tells and what stands -/
set_option maxRecDepth 10000 in
theorem t_X10_init {sc : Nat × (Nat → Int32)} {d : Nat} {Q : aO → aH → Prop} {τ1 τ2 : aH} (h1 : Ev sc (d + 3) mX10_tellsNothing [.ref 76] cs_233 (.inl none) τ1) (t1 : tg τ1 76 = 11 ∧ 76 < gN τ1) (h2 : Ev sc (d + 3) mX10_stands [.ref 76] τ1 (.inl none) τ2) (hq : Q (.inl none) τ2) : T sc (d + 4) mX10_init [.ref 76] cs_176 Q := by
  refine T.of (d := d + 3) (c := 10) (code := cX10_init) (mL := 1) (rt := none) (ini := true) (l := [(0, .ref 76)]) rfl rfl rfl rfl (by decide) hs_X10_init rfl rfl ?_
  refine w_aload_n dX10_init_0 rfl (List.Mem.head _) ?_
  refine w_objI dX10_init_1 no_10_1 (Nat.le_of_ble_eq_true rfl) ?_
  refine w_aload_n dX10_init_4 rfl (List.Mem.head _) ?_
  refine w_iconst (v := nZ (-1)) dX10_init_5 (by decide) ?_
  refine c_putI (ci := 10) (k := 3) (show _ = cs_177 from rfl) dX10_init_6 fl_10_9 (by decide) (by decide +kernel) ?_
  refine w_aload_n dX10_init_9 rfl (List.Mem.head _) ?_
  refine w_sipush (v := nZ 600) dX10_init_10 (by decide) ?_
  refine c_newaI (a := 77) (m := 600) gn_177 (by decide) (show _ = cs_178 from rfl) dX10_init_13 rfl (by decide) (by decide) ?_
  refine c_putR (ci := 10) (k := 8) (show _ = cs_179 from rfl) dX10_init_15 fl_10_13 (by decide) ⟨rfl, rfl⟩ (by decide +kernel) ?_
  refine w_aload_n dX10_init_18 rfl (List.Mem.head _) ?_
  refine w_iconst (v := nZ 2) dX10_init_19 (by decide) ?_
  refine c_newaI (a := 78) (m := 2) gn_179 (by decide) (show _ = cs_180 from rfl) dX10_init_20 rfl (by decide) (by decide) ?_
  refine c_putR (ci := 10) (k := 9) (show _ = cs_181 from rfl) dX10_init_22 fl_10_17 (by decide) ⟨rfl, rfl⟩ (by decide +kernel) ?_
  refine w_aload_n dX10_init_25 rfl (List.Mem.head _) ?_
  refine w_bipush (v := nZ 8) dX10_init_26 (by decide) ?_
  refine c_newaI (a := 79) (m := 8) gn_181 (by decide) (show _ = cs_182 from rfl) dX10_init_28 rfl (by decide) (by decide) ?_
  refine c_putR (ci := 10) (k := 10) (show _ = cs_183 from rfl) dX10_init_30 fl_10_20 (by decide) ⟨rfl, rfl⟩ (by decide +kernel) ?_
  refine w_aload_n dX10_init_33 rfl (List.Mem.head _) ?_
  refine w_bipush (v := nZ 8) dX10_init_34 (by decide) ?_
  refine c_newaI (a := 80) (m := 8) gn_183 (by decide) (show _ = cs_184 from rfl) dX10_init_36 rfl (by decide) (by decide) ?_
  refine c_putR (ci := 10) (k := 11) (show _ = cs_185 from rfl) dX10_init_38 fl_10_23 (by decide) ⟨rfl, rfl⟩ (by decide +kernel) ?_
  refine w_aload_n dX10_init_41 rfl (List.Mem.head _) ?_
  refine w_bipush (v := nZ 8) dX10_init_42 (by decide) ?_
  refine w_bipush (v := nZ 7) dX10_init_44 (by decide) ?_
  refine c_newaa (a := 81) (n1 := 8) (k1 := 7) gn_185 (by decide) (by decide) (show _ = cs_186 from rfl) dX10_init_46 na_10_26 (by decide) (by decide) ?_
  refine c_putR (ci := 10) (k := 12) (show _ = cs_187 from rfl) dX10_init_50 fl_10_28 (by decide) ⟨rfl, rfl⟩ (by decide +kernel) ?_
  refine w_aload_n dX10_init_53 rfl (List.Mem.head _) ?_
  refine w_bipush (v := nZ 9) dX10_init_54 (by decide) ?_
  refine w_bipush (v := nZ 7) dX10_init_56 (by decide) ?_
  refine c_newaa (a := 90) (n1 := 9) (k1 := 7) gn_187 (by decide) (by decide) (show _ = cs_188 from rfl) dX10_init_58 na_10_26 (by decide) (by decide) ?_
  refine c_putR (ci := 10) (k := 13) (show _ = cs_189 from rfl) dX10_init_62 fl_10_31 (by decide) ⟨rfl, rfl⟩ (by decide +kernel) ?_
  refine w_aload_n dX10_init_65 rfl (List.Mem.head _) ?_
  refine w_bipush (v := nZ 20) dX10_init_66 (by decide) ?_
  refine w_iconst (v := nZ 4) dX10_init_68 (by decide) ?_
  refine c_newaa (a := 100) (n1 := 20) (k1 := 4) gn_189 (by decide) (by decide) (show _ = cs_190 from rfl) dX10_init_69 na_10_26 (by decide) (by decide) ?_
  refine c_putR (ci := 10) (k := 14) (show _ = cs_191 from rfl) dX10_init_73 fl_10_34 (by decide) ⟨rfl, rfl⟩ (by decide +kernel) ?_
  refine w_aload_n dX10_init_76 rfl (List.Mem.head _) ?_
  refine w_bipush (v := nZ 20) dX10_init_77 (by decide) ?_
  refine w_iconst (v := nZ 4) dX10_init_79 (by decide) ?_
  refine c_newaa (a := 121) (n1 := 20) (k1 := 4) gn_191 (by decide) (by decide) (show _ = cs_192 from rfl) dX10_init_80 na_10_26 (by decide) (by decide) ?_
  refine c_putR (ci := 10) (k := 15) (show _ = cs_193 from rfl) dX10_init_84 fl_10_37 (by decide) ⟨rfl, rfl⟩ (by decide +kernel) ?_
  refine w_aload_n dX10_init_87 rfl (List.Mem.head _) ?_
  refine w_bipush (v := nZ 20) dX10_init_88 (by decide) ?_
  refine w_iconst (v := nZ 2) dX10_init_90 (by decide) ?_
  refine c_newaa (a := 142) (n1 := 20) (k1 := 2) gn_193 (by decide) (by decide) (show _ = cs_194 from rfl) dX10_init_91 na_10_26 (by decide) (by decide) ?_
  refine c_putR (ci := 10) (k := 16) (show _ = cs_195 from rfl) dX10_init_95 fl_10_40 (by decide) ⟨rfl, rfl⟩ (by decide +kernel) ?_
  refine w_aload_n dX10_init_98 rfl (List.Mem.head _) ?_
  refine w_bipush (v := nZ 20) dX10_init_99 (by decide) ?_
  refine w_iconst (v := nZ 2) dX10_init_101 (by decide) ?_
  refine c_newaa (a := 163) (n1 := 20) (k1 := 2) gn_195 (by decide) (by decide) (show _ = cs_196 from rfl) dX10_init_102 na_10_26 (by decide) (by decide) ?_
  refine c_putR (ci := 10) (k := 17) (show _ = cs_197 from rfl) dX10_init_106 fl_10_43 (by decide) ⟨rfl, rfl⟩ (by decide +kernel) ?_
  refine w_aload_n dX10_init_109 rfl (List.Mem.head _) ?_
  refine w_bipush (v := nZ 8) dX10_init_110 (by decide) ?_
  refine c_newaI (a := 184) (m := 8) gn_197 (by decide) (show _ = cs_198 from rfl) dX10_init_112 rfl (by decide) (by decide) ?_
  refine c_putR (ci := 10) (k := 23) (show _ = cs_199 from rfl) dX10_init_114 fl_10_46 (by decide) ⟨rfl, rfl⟩ (by decide +kernel) ?_
  refine w_aload_n dX10_init_117 rfl (List.Mem.head _) ?_
  refine w_iconst (v := nZ 3) dX10_init_118 (by decide) ?_
  refine w_bipush (v := nZ 34) dX10_init_119 (by decide) ?_
  refine c_newaa (a := 185) (n1 := 3) (k1 := 34) gn_199 (by decide) (by decide) (show _ = cs_200 from rfl) dX10_init_121 na_10_26 (by decide) (by decide) ?_
  refine c_putR (ci := 10) (k := 24) (show _ = cs_201 from rfl) dX10_init_125 fl_10_49 (by decide) ⟨rfl, rfl⟩ (by decide +kernel) ?_
  refine w_aload_n dX10_init_128 rfl (List.Mem.head _) ?_
  refine w_bipush (v := nZ 70) dX10_init_129 (by decide) ?_
  refine w_iconst (v := nZ 4) dX10_init_131 (by decide) ?_
  refine c_newaa (a := 189) (n1 := 70) (k1 := 4) gn_201 (by decide) (by decide) (show _ = cs_202 from rfl) dX10_init_132 na_10_26 (by decide) (by decide) ?_
  refine c_putR (ci := 10) (k := 26) (show _ = cs_203 from rfl) dX10_init_136 fl_10_52 (by decide) ⟨rfl, rfl⟩ (by decide +kernel) ?_
  refine w_aload_n dX10_init_139 rfl (List.Mem.head _) ?_
  refine w_bipush (v := nZ 20) dX10_init_140 (by decide) ?_
  refine w_bipush (v := nZ 9) dX10_init_142 (by decide) ?_
  refine c_newaa (a := 260) (n1 := 20) (k1 := 9) gn_203 (by decide) (by decide) (show _ = cs_204 from rfl) dX10_init_144 na_10_26 (by decide) (by decide) ?_
  refine c_putR (ci := 10) (k := 29) (show _ = cs_205 from rfl) dX10_init_148 fl_10_55 (by decide) ⟨rfl, rfl⟩ (by decide +kernel) ?_
  refine w_aload_n dX10_init_151 rfl (List.Mem.head _) ?_
  refine w_bipush (v := nZ 9) dX10_init_152 (by decide) ?_
  refine w_bipush (v := nZ 9) dX10_init_154 (by decide) ?_
  refine c_newaa (a := 281) (n1 := 9) (k1 := 9) gn_205 (by decide) (by decide) (show _ = cs_206 from rfl) dX10_init_156 na_10_26 (by decide) (by decide) ?_
  refine c_putR (ci := 10) (k := 30) (show _ = cs_207 from rfl) dX10_init_160 fl_10_58 (by decide) ⟨rfl, rfl⟩ (by decide +kernel) ?_
  refine w_aload_n dX10_init_163 rfl (List.Mem.head _) ?_
  refine w_bipush (v := nZ 9) dX10_init_164 (by decide) ?_
  refine w_bipush (v := nZ 9) dX10_init_166 (by decide) ?_
  refine c_newaa (a := 291) (n1 := 9) (k1 := 9) gn_207 (by decide) (by decide) (show _ = cs_208 from rfl) dX10_init_168 na_10_26 (by decide) (by decide) ?_
  refine c_putR (ci := 10) (k := 31) (show _ = cs_209 from rfl) dX10_init_172 fl_10_61 (by decide) ⟨rfl, rfl⟩ (by decide +kernel) ?_
  refine w_aload_n dX10_init_175 rfl (List.Mem.head _) ?_
  refine w_bipush (v := nZ 9) dX10_init_176 (by decide) ?_
  refine w_bipush (v := nZ 9) dX10_init_178 (by decide) ?_
  refine c_newaa (a := 301) (n1 := 9) (k1 := 9) gn_209 (by decide) (by decide) (show _ = cs_210 from rfl) dX10_init_180 na_10_26 (by decide) (by decide) ?_
  refine c_putR (ci := 10) (k := 32) (show _ = cs_211 from rfl) dX10_init_184 fl_10_64 (by decide) ⟨rfl, rfl⟩ (by decide +kernel) ?_
  refine w_aload_n dX10_init_187 rfl (List.Mem.head _) ?_
  refine w_bipush (v := nZ 9) dX10_init_188 (by decide) ?_
  refine c_newaI (a := 311) (m := 9) gn_211 (by decide) (show _ = cs_212 from rfl) dX10_init_190 rfl (by decide) (by decide) ?_
  refine c_putR (ci := 10) (k := 33) (show _ = cs_213 from rfl) dX10_init_192 fl_10_67 (by decide) ⟨rfl, rfl⟩ (by decide +kernel) ?_
  refine w_aload_n dX10_init_195 rfl (List.Mem.head _) ?_
  refine w_bipush (v := nZ 24) dX10_init_196 (by decide) ?_
  refine c_newaI (a := 312) (m := 24) gn_213 (by decide) (show _ = cs_214 from rfl) dX10_init_198 rfl (by decide) (by decide) ?_
  refine c_putR (ci := 10) (k := 34) (show _ = cs_215 from rfl) dX10_init_200 fl_10_70 (by decide) ⟨rfl, rfl⟩ (by decide +kernel) ?_
  refine w_aload_n dX10_init_203 rfl (List.Mem.head _) ?_
  refine w_bipush (v := nZ 20) dX10_init_204 (by decide) ?_
  refine c_newaI (a := 313) (m := 20) gn_215 (by decide) (show _ = cs_216 from rfl) dX10_init_206 rfl (by decide) (by decide) ?_
  refine c_putR (ci := 10) (k := 35) (show _ = cs_217 from rfl) dX10_init_208 fl_10_73 (by decide) ⟨rfl, rfl⟩ (by decide +kernel) ?_
  refine w_aload_n dX10_init_211 rfl (List.Mem.head _) ?_
  refine w_sipush (v := nZ 256) dX10_init_212 (by decide) ?_
  refine c_newaI (a := 314) (m := 256) gn_217 (by decide) (show _ = cs_218 from rfl) dX10_init_215 rfl (by decide) (by decide) ?_
  refine c_putR (ci := 10) (k := 40) (show _ = cs_219 from rfl) dX10_init_217 fl_10_76 (by decide) ⟨rfl, rfl⟩ (by decide +kernel) ?_
  refine w_aload_n dX10_init_220 rfl (List.Mem.head _) ?_
  refine w_sipush (v := nZ 256) dX10_init_221 (by decide) ?_
  refine c_newaI (a := 315) (m := 256) gn_219 (by decide) (show _ = cs_220 from rfl) dX10_init_224 rfl (by decide) (by decide) ?_
  refine c_putR (ci := 10) (k := 41) (show _ = cs_221 from rfl) dX10_init_226 fl_10_79 (by decide) ⟨rfl, rfl⟩ (by decide +kernel) ?_
  refine w_aload_n dX10_init_229 rfl (List.Mem.head _) ?_
  refine w_bipush (v := nZ 9) dX10_init_230 (by decide) ?_
  refine c_newaI (a := 316) (m := 9) gn_221 (by decide) (show _ = cs_222 from rfl) dX10_init_232 rfl (by decide) (by decide) ?_
  refine c_putR (ci := 10) (k := 44) (show _ = cs_223 from rfl) dX10_init_234 fl_10_82 (by decide) ⟨rfl, rfl⟩ (by decide +kernel) ?_
  refine w_aload_n dX10_init_237 rfl (List.Mem.head _) ?_
  refine w_bipush (v := nZ 9) dX10_init_238 (by decide) ?_
  refine c_newaI (a := 317) (m := 9) gn_223 (by decide) (show _ = cs_224 from rfl) dX10_init_240 rfl (by decide) (by decide) ?_
  refine c_putR (ci := 10) (k := 45) (show _ = cs_225 from rfl) dX10_init_242 fl_10_85 (by decide) ⟨rfl, rfl⟩ (by decide +kernel) ?_
  refine w_aload_n dX10_init_245 rfl (List.Mem.head _) ?_
  refine w_bipush (v := nZ 9) dX10_init_246 (by decide) ?_
  refine c_newaI (a := 318) (m := 9) gn_225 (by decide) (show _ = cs_226 from rfl) dX10_init_248 rfl (by decide) (by decide) ?_
  refine c_putR (ci := 10) (k := 46) (show _ = cs_227 from rfl) dX10_init_250 fl_10_88 (by decide) ⟨rfl, rfl⟩ (by decide +kernel) ?_
  refine w_aload_n dX10_init_253 rfl (List.Mem.head _) ?_
  refine w_bipush (v := nZ 9) dX10_init_254 (by decide) ?_
  refine c_newaI (a := 319) (m := 9) gn_227 (by decide) (show _ = cs_228 from rfl) dX10_init_256 rfl (by decide) (by decide) ?_
  refine c_putR (ci := 10) (k := 47) (show _ = cs_229 from rfl) dX10_init_258 fl_10_91 (by decide) ⟨rfl, rfl⟩ (by decide +kernel) ?_
  refine w_aload_n dX10_init_261 rfl (List.Mem.head _) ?_
  refine w_bipush (v := nZ 21) dX10_init_262 (by decide) ?_
  refine w_bipush (v := nZ 8) dX10_init_264 (by decide) ?_
  refine c_newaa (a := 320) (n1 := 21) (k1 := 8) gn_229 (by decide) (by decide) (show _ = cs_230 from rfl) dX10_init_266 na_10_26 (by decide) (by decide) ?_
  refine c_putR (ci := 10) (k := 48) (show _ = cs_231 from rfl) dX10_init_270 fl_10_94 (by decide) ⟨rfl, rfl⟩ (by decide +kernel) ?_
  refine w_aload_n dX10_init_273 rfl (List.Mem.head _) ?_
  refine w_bipush (v := nZ 9) dX10_init_274 (by decide) ?_
  refine c_newaI (a := 342) (m := 9) gn_231 (by decide) (show _ = cs_232 from rfl) dX10_init_276 rfl (by decide) (by decide) ?_
  refine c_putR (ci := 10) (k := 49) (show _ = cs_233 from rfl) dX10_init_278 fl_10_97 (by decide) ⟨rfl, rfl⟩ (by decide +kernel) ?_
  refine w_aload_n dX10_init_281 rfl (List.Mem.head _) ?_
  refine w_callV dX10_init_282 ml_10_100 ⟨ok_X10_tellsNothing, vi_X10_tellsNothing⟩ hs_X10_tellsNothing (As := []) rfl rfl (by decide +kernel) (Nat.le_of_ble_eq_true rfl) h1 ?_
  show wp _ 10 cX10_init 1 none true [] sc Q 285 [(0, .ref 76)] [] τ1
  refine w_aload_n dX10_init_285 rfl (List.Mem.head _) ?_
  refine w_callV dX10_init_286 ml_10_103 ⟨ok_X10_stands, vi_X10_stands⟩ hs_X10_stands (As := []) rfl rfl t1 (Nat.le_of_ble_eq_true rfl) h2 ?_
  show wp _ 10 cX10_init 1 none true [] sc Q 289 [(0, .ref 76)] [] τ2
  exact w_vret dX10_init_289 rfl hq
