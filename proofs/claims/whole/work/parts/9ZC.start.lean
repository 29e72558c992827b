/-! BEHIND BOTH CONSTRUCTORS: the layout stands, and both markets are empty. -/
/-- the references of a cell end at 75; behind n nothing is told -/
def BH (σ : aH) (n : Nat) : Prop := (∀ a k : Nat, 75 ≤ k → (σ.1 a).2.2 k = none) ∧ ∀ a : Nat, n ≤ a → σ.1 a = (0, 0, fun _ => none)
theorem BH.nw {σ : aH} {n t m w : Nat} (h : BH σ n) : BH (nw σ n t m w) (n + 1) := by
  refine ⟨fun a k hk => ?_, fun a ha => ?_⟩
  · show (va_up σ.1 n (t, m, fun _ => none) a).2.2 k = none
    by_cases c : a = n
    · rw [c, va_up_self]
    · rw [va_up_ne _ _ c]; exact h.1 a k hk
  · show va_up σ.1 n (t, m, fun _ => none) a = _
    rw [va_up_ne _ _ (by omega)]; exact h.2 a (by omega)
theorem BH.nwA {σ : aH} {n m k1 : Nat} (h : BH σ n) (hm : m ≤ 75) : BH (nwA σ n m k1) (n + 1 + m) := by
  refine ⟨fun a k hk => ?_, fun a ha => ?_⟩
  · show (if a = n then (104, m, fun i => if i < m then some (n + 1 + i) else none) else if n < a ∧ a < n + 1 + m then (101, k1, fun _ => none) else σ.1 a : Nat × Nat × (Nat → Option Nat)).2.2 k = none
    by_cases c : a = n
    · rw [if_pos c]; exact if_neg (by omega)
    · rw [if_neg c]
      by_cases c2 : n < a ∧ a < n + 1 + m
      · rw [if_pos c2]
      · rw [if_neg c2]; exact h.1 a k hk
  · show (if a = n then (104, m, fun i => if i < m then some (n + 1 + i) else none) else if n < a ∧ a < n + 1 + m then (101, k1, fun _ => none) else σ.1 a : Nat × Nat × (Nat → Option Nat)) = _
    rw [if_neg (by omega), if_neg (by omega)]; exact h.2 a (by omega)
theorem BH.sR {σ : aH} {n b j : Nat} {v : Option Nat} (h : BH σ n) (hb : b < n) (hj : j < 75) : BH (sR σ b j v) n := by
  refine ⟨fun a k hk => ?_, fun a ha => ?_⟩
  · show (va_up σ.1 b ((σ.1 b).1, (σ.1 b).2.1, va_up (σ.1 b).2.2 j v) a).2.2 k = none
    by_cases c : a = b
    · rw [c, va_up_self]
      show va_up (σ.1 b).2.2 j v k = none
      rw [va_up_ne _ _ (by omega)]; exact h.1 b k hk
    · rw [va_up_ne _ _ c]; exact h.1 a k hk
  · show va_up σ.1 b ((σ.1 b).1, (σ.1 b).2.1, va_up (σ.1 b).2.2 j v) a = _
    rw [va_up_ne _ _ (by omega)]; exact h.2 a ha
theorem BH.sM {σ : aH} {n b j : Nat} {v : Option Nat} (h : BH σ n) : BH (sM σ b j v) n := h
theorem BH.sI {σ : aH} {n b j : Nat} {v : Int32} (h : BH σ n) : BH (sI σ b j v) n := h
theorem bh_0 : BH cs_0 0 := ⟨fun _ _ _ => rfl, fun _ _ => rfl⟩
theorem bh_1 : BH cs_1 1 := bh_0.nw
theorem bh_2 : BH cs_2 2 := bh_1.nw
theorem bh_3 : BH cs_3 3 := bh_2.nw
theorem bh_4 : BH cs_4 3 := bh_3.sR (by decide) (by decide)
theorem bh_5 : BH cs_5 3 := bh_4.sI
theorem bh_6 : BH cs_6 3 := bh_5.sI
theorem bh_7 : BH cs_7 3 := bh_6.sI
theorem bh_8 : BH cs_8 3 := bh_7.sI
theorem bh_9 : BH cs_9 3 := bh_8.sI
theorem bh_10 : BH cs_10 3 := bh_9.sI
theorem bh_11 : BH cs_11 3 := bh_10.sI
theorem bh_12 : BH cs_12 3 := bh_11.sI
theorem bh_13 : BH cs_13 3 := bh_12.sR (by decide) (by decide)
theorem bh_14 : BH cs_14 4 := bh_13.nw
theorem bh_15 : BH cs_15 5 := bh_14.nw
theorem bh_16 : BH cs_16 5 := bh_15.sR (by decide) (by decide)
theorem bh_17 : BH cs_17 6 := bh_16.nw
theorem bh_18 : BH cs_18 6 := bh_17.sR (by decide) (by decide)
theorem bh_19 : BH cs_19 10 := bh_18.nwA (by decide)
theorem bh_20 : BH cs_20 10 := bh_19.sR (by decide) (by decide)
theorem bh_21 : BH cs_21 14 := bh_20.nwA (by decide)
theorem bh_22 : BH cs_22 14 := bh_21.sR (by decide) (by decide)
theorem bh_23 : BH cs_23 18 := bh_22.nwA (by decide)
theorem bh_24 : BH cs_24 18 := bh_23.sR (by decide) (by decide)
theorem bh_25 : BH cs_25 22 := bh_24.nwA (by decide)
theorem bh_26 : BH cs_26 22 := bh_25.sR (by decide) (by decide)
theorem bh_27 : BH cs_27 22 := bh_26.sI
theorem bh_28 : BH cs_28 22 := bh_27.sR (by decide) (by decide)
theorem bh_29 : BH cs_29 23 := bh_28.nw
theorem bh_30 : BH cs_30 24 := bh_29.nw
theorem bh_31 : BH cs_31 24 := bh_30.sR (by decide) (by decide)
theorem bh_32 : BH cs_32 25 := bh_31.nw
theorem bh_33 : BH cs_33 25 := bh_32.sR (by decide) (by decide)
theorem bh_34 : BH cs_34 26 := bh_33.nw
theorem bh_35 : BH cs_35 26 := bh_34.sR (by decide) (by decide)
theorem bh_36 : BH cs_36 26 := bh_35.sR (by decide) (by decide)
theorem bh_37 : BH cs_37 27 := bh_36.nw
theorem bh_38 : BH cs_38 28 := bh_37.nw
theorem bh_39 : BH cs_39 29 := bh_38.nw
theorem bh_40 : BH cs_40 30 := bh_39.nw
theorem bh_41 : BH cs_41 30 := bh_40.sR (by decide) (by decide)
theorem bh_42 : BH cs_42 31 := bh_41.nw
theorem bh_43 : BH cs_43 31 := bh_42.sR (by decide) (by decide)
theorem bh_44 : BH cs_44 31 := bh_43.sR (by decide) (by decide)
theorem bh_45 : BH cs_45 32 := bh_44.nw
theorem bh_46 : BH cs_46 33 := bh_45.nw
theorem bh_47 : BH cs_47 33 := bh_46.sR (by decide) (by decide)
theorem bh_48 : BH cs_48 34 := bh_47.nw
theorem bh_49 : BH cs_49 34 := bh_48.sR (by decide) (by decide)
theorem bh_50 : BH cs_50 34 := bh_49.sR (by decide) (by decide)
theorem bh_51 : BH cs_51 35 := bh_50.nw
theorem bh_52 : BH cs_52 36 := bh_51.nw
theorem bh_53 : BH cs_53 36 := bh_52.sR (by decide) (by decide)
theorem bh_54 : BH cs_54 37 := bh_53.nw
theorem bh_55 : BH cs_55 37 := bh_54.sR (by decide) (by decide)
theorem bh_56 : BH cs_56 37 := bh_55.sR (by decide) (by decide)
theorem bh_57 : BH cs_57 38 := bh_56.nw
theorem bh_58 : BH cs_58 38 := bh_57.sR (by decide) (by decide)
theorem bh_59 : BH cs_59 39 := bh_58.nw
theorem bh_60 : BH cs_60 39 := bh_59.sR (by decide) (by decide)
theorem bh_61 : BH cs_61 40 := bh_60.nw
theorem bh_62 : BH cs_62 41 := bh_61.nw
theorem bh_63 : BH cs_63 42 := bh_62.nw
theorem bh_64 : BH cs_64 42 := bh_63.sR (by decide) (by decide)
theorem bh_65 : BH cs_65 43 := bh_64.nw
theorem bh_66 : BH cs_66 43 := bh_65.sR (by decide) (by decide)
theorem bh_67 : BH cs_67 44 := bh_66.nw
theorem bh_68 : BH cs_68 44 := bh_67.sR (by decide) (by decide)
theorem bh_69 : BH cs_69 45 := bh_68.nw
theorem bh_70 : BH cs_70 45 := bh_69.sR (by decide) (by decide)
theorem bh_71 : BH cs_71 46 := bh_70.nw
theorem bh_72 : BH cs_72 46 := bh_71.sR (by decide) (by decide)
theorem bh_73 : BH cs_73 47 := bh_72.nw
theorem bh_74 : BH cs_74 47 := bh_73.sR (by decide) (by decide)
theorem bh_75 : BH cs_75 48 := bh_74.nw
theorem bh_76 : BH cs_76 48 := bh_75.sR (by decide) (by decide)
theorem bh_77 : BH cs_77 49 := bh_76.nw
theorem bh_78 : BH cs_78 49 := bh_77.sR (by decide) (by decide)
theorem bh_79 : BH cs_79 49 := bh_78.sI
theorem bh_80 : BH cs_80 49 := bh_79.sI
theorem bh_81 : BH cs_81 49 := bh_80.sR (by decide) (by decide)
theorem bh_82 : BH cs_82 50 := bh_81.nw
theorem bh_83 : BH cs_83 51 := bh_82.nw
theorem bh_84 : BH cs_84 51 := bh_83.sR (by decide) (by decide)
theorem bh_85 : BH cs_85 52 := bh_84.nw
theorem bh_86 : BH cs_86 52 := bh_85.sR (by decide) (by decide)
theorem bh_87 : BH cs_87 52 := bh_86.sI
theorem bh_88 : BH cs_88 52 := bh_87.sR (by decide) (by decide)
theorem bh_89 : BH cs_89 53 := bh_88.nw
theorem bh_90 : BH cs_90 54 := bh_89.nw
theorem bh_91 : BH cs_91 54 := bh_90.sR (by decide) (by decide)
theorem bh_92 : BH cs_92 55 := bh_91.nw
theorem bh_93 : BH cs_93 55 := bh_92.sR (by decide) (by decide)
theorem bh_94 : BH cs_94 55 := bh_93.sI
theorem bh_95 : BH cs_95 55 := bh_94.sR (by decide) (by decide)
theorem bh_96 : BH cs_96 55 := bh_95.sI
theorem bh_97 : BH cs_97 55 := bh_96.sI
theorem bh_98 : BH cs_98 55 := bh_97.sI
theorem bh_99 : BH cs_99 55 := bh_98.sI
theorem bh_100 : BH cs_100 55 := bh_99.sI
theorem bh_101 : BH cs_101 55 := bh_100.sI
theorem bh_102 : BH cs_102 55 := bh_101.sI
theorem bh_103 : BH cs_103 55 := bh_102.sI
theorem bh_104 : BH cs_104 55 := bh_103.sI
theorem bh_105 : BH cs_105 55 := bh_104.sI
theorem bh_106 : BH cs_106 55 := bh_105.sM
theorem bh_107 : BH cs_107 55 := bh_106.sR (by decide) (by decide)
theorem bh_108 : BH cs_108 56 := bh_107.nw
theorem bh_109 : BH cs_109 56 := bh_108.sR (by decide) (by decide)
theorem bh_110 : BH cs_110 57 := bh_109.nw
theorem bh_111 : BH cs_111 57 := bh_110.sR (by decide) (by decide)
theorem bh_112 : BH cs_112 58 := bh_111.nw
theorem bh_113 : BH cs_113 58 := bh_112.sR (by decide) (by decide)
theorem bh_114 : BH cs_114 59 := bh_113.nw
theorem bh_115 : BH cs_115 59 := bh_114.sR (by decide) (by decide)
theorem bh_116 : BH cs_116 60 := bh_115.nw
theorem bh_117 : BH cs_117 60 := bh_116.sR (by decide) (by decide)
theorem bh_118 : BH cs_118 60 := bh_117.sI
theorem bh_119 : BH cs_119 60 := bh_118.sI
theorem bh_120 : BH cs_120 60 := bh_119.sI
theorem bh_121 : BH cs_121 60 := bh_120.sI
theorem bh_122 : BH cs_122 60 := bh_121.sI
theorem bh_123 : BH cs_123 60 := bh_122.sI
theorem bh_124 : BH cs_124 60 := bh_123.sI
theorem bh_125 : BH cs_125 60 := bh_124.sR (by decide) (by decide)
theorem bh_126 : BH cs_126 60 := bh_125.sR (by decide) (by decide)
theorem bh_127 : BH cs_127 60 := bh_126.sM
theorem bh_128 : BH cs_128 61 := bh_127.nw
theorem bh_129 : BH cs_129 62 := bh_128.nw
theorem bh_130 : BH cs_130 63 := bh_129.nw
theorem bh_131 : BH cs_131 63 := bh_130.sR (by decide) (by decide)
theorem bh_132 : BH cs_132 64 := bh_131.nw
theorem bh_133 : BH cs_133 64 := bh_132.sR (by decide) (by decide)
theorem bh_134 : BH cs_134 65 := bh_133.nw
theorem bh_135 : BH cs_135 65 := bh_134.sR (by decide) (by decide)
theorem bh_136 : BH cs_136 66 := bh_135.nw
theorem bh_137 : BH cs_137 66 := bh_136.sR (by decide) (by decide)
theorem bh_138 : BH cs_138 67 := bh_137.nw
theorem bh_139 : BH cs_139 67 := bh_138.sR (by decide) (by decide)
theorem bh_140 : BH cs_140 68 := bh_139.nw
theorem bh_141 : BH cs_141 68 := bh_140.sR (by decide) (by decide)
theorem bh_142 : BH cs_142 69 := bh_141.nw
theorem bh_143 : BH cs_143 69 := bh_142.sR (by decide) (by decide)
theorem bh_144 : BH cs_144 70 := bh_143.nw
theorem bh_145 : BH cs_145 70 := bh_144.sR (by decide) (by decide)
theorem bh_146 : BH cs_146 70 := bh_145.sI
theorem bh_147 : BH cs_147 70 := bh_146.sI
theorem bh_148 : BH cs_148 70 := bh_147.sR (by decide) (by decide)
theorem bh_149 : BH cs_149 71 := bh_148.nw
theorem bh_150 : BH cs_150 72 := bh_149.nw
theorem bh_151 : BH cs_151 72 := bh_150.sR (by decide) (by decide)
theorem bh_152 : BH cs_152 73 := bh_151.nw
theorem bh_153 : BH cs_153 73 := bh_152.sR (by decide) (by decide)
theorem bh_154 : BH cs_154 73 := bh_153.sI
theorem bh_155 : BH cs_155 73 := bh_154.sR (by decide) (by decide)
theorem bh_156 : BH cs_156 74 := bh_155.nw
theorem bh_157 : BH cs_157 75 := bh_156.nw
theorem bh_158 : BH cs_158 75 := bh_157.sR (by decide) (by decide)
theorem bh_159 : BH cs_159 76 := bh_158.nw
theorem bh_160 : BH cs_160 76 := bh_159.sR (by decide) (by decide)
theorem bh_161 : BH cs_161 76 := bh_160.sI
theorem bh_162 : BH cs_162 76 := bh_161.sR (by decide) (by decide)
theorem bh_163 : BH cs_163 76 := bh_162.sI
theorem bh_164 : BH cs_164 76 := bh_163.sI
theorem bh_165 : BH cs_165 76 := bh_164.sI
theorem bh_166 : BH cs_166 76 := bh_165.sI
theorem bh_167 : BH cs_167 76 := bh_166.sI
theorem bh_168 : BH cs_168 76 := bh_167.sI
theorem bh_169 : BH cs_169 76 := bh_168.sI
theorem bh_170 : BH cs_170 76 := bh_169.sI
theorem bh_171 : BH cs_171 76 := bh_170.sI
theorem bh_172 : BH cs_172 76 := bh_171.sI
theorem bh_173 : BH cs_173 76 := bh_172.sM
theorem bh_174 : BH cs_174 76 := bh_173.sI
theorem bh_175 : BH cs_175 76 := bh_174.sI
theorem bh_176 : BH cs_176 77 := bh_175.nw
theorem bh_177 : BH cs_177 77 := bh_176.sI
theorem bh_178 : BH cs_178 78 := bh_177.nw
theorem bh_179 : BH cs_179 78 := bh_178.sR (by decide) (by decide)
theorem bh_180 : BH cs_180 79 := bh_179.nw
theorem bh_181 : BH cs_181 79 := bh_180.sR (by decide) (by decide)
theorem bh_182 : BH cs_182 80 := bh_181.nw
theorem bh_183 : BH cs_183 80 := bh_182.sR (by decide) (by decide)
theorem bh_184 : BH cs_184 81 := bh_183.nw
theorem bh_185 : BH cs_185 81 := bh_184.sR (by decide) (by decide)
theorem bh_186 : BH cs_186 90 := bh_185.nwA (by decide)
theorem bh_187 : BH cs_187 90 := bh_186.sR (by decide) (by decide)
theorem bh_188 : BH cs_188 100 := bh_187.nwA (by decide)
theorem bh_189 : BH cs_189 100 := bh_188.sR (by decide) (by decide)
theorem bh_190 : BH cs_190 121 := bh_189.nwA (by decide)
theorem bh_191 : BH cs_191 121 := bh_190.sR (by decide) (by decide)
theorem bh_192 : BH cs_192 142 := bh_191.nwA (by decide)
theorem bh_193 : BH cs_193 142 := bh_192.sR (by decide) (by decide)
theorem bh_194 : BH cs_194 163 := bh_193.nwA (by decide)
theorem bh_195 : BH cs_195 163 := bh_194.sR (by decide) (by decide)
theorem bh_196 : BH cs_196 184 := bh_195.nwA (by decide)
theorem bh_197 : BH cs_197 184 := bh_196.sR (by decide) (by decide)
theorem bh_198 : BH cs_198 185 := bh_197.nw
theorem bh_199 : BH cs_199 185 := bh_198.sR (by decide) (by decide)
theorem bh_200 : BH cs_200 189 := bh_199.nwA (by decide)
theorem bh_201 : BH cs_201 189 := bh_200.sR (by decide) (by decide)
theorem bh_202 : BH cs_202 260 := bh_201.nwA (by decide)
theorem bh_203 : BH cs_203 260 := bh_202.sR (by decide) (by decide)
theorem bh_204 : BH cs_204 281 := bh_203.nwA (by decide)
theorem bh_205 : BH cs_205 281 := bh_204.sR (by decide) (by decide)
theorem bh_206 : BH cs_206 291 := bh_205.nwA (by decide)
theorem bh_207 : BH cs_207 291 := bh_206.sR (by decide) (by decide)
theorem bh_208 : BH cs_208 301 := bh_207.nwA (by decide)
theorem bh_209 : BH cs_209 301 := bh_208.sR (by decide) (by decide)
theorem bh_210 : BH cs_210 311 := bh_209.nwA (by decide)
theorem bh_211 : BH cs_211 311 := bh_210.sR (by decide) (by decide)
theorem bh_212 : BH cs_212 312 := bh_211.nw
theorem bh_213 : BH cs_213 312 := bh_212.sR (by decide) (by decide)
theorem bh_214 : BH cs_214 313 := bh_213.nw
theorem bh_215 : BH cs_215 313 := bh_214.sR (by decide) (by decide)
theorem bh_216 : BH cs_216 314 := bh_215.nw
theorem bh_217 : BH cs_217 314 := bh_216.sR (by decide) (by decide)
theorem bh_218 : BH cs_218 315 := bh_217.nw
theorem bh_219 : BH cs_219 315 := bh_218.sR (by decide) (by decide)
theorem bh_220 : BH cs_220 316 := bh_219.nw
theorem bh_221 : BH cs_221 316 := bh_220.sR (by decide) (by decide)
theorem bh_222 : BH cs_222 317 := bh_221.nw
theorem bh_223 : BH cs_223 317 := bh_222.sR (by decide) (by decide)
theorem bh_224 : BH cs_224 318 := bh_223.nw
theorem bh_225 : BH cs_225 318 := bh_224.sR (by decide) (by decide)
theorem bh_226 : BH cs_226 319 := bh_225.nw
theorem bh_227 : BH cs_227 319 := bh_226.sR (by decide) (by decide)
theorem bh_228 : BH cs_228 320 := bh_227.nw
theorem bh_229 : BH cs_229 320 := bh_228.sR (by decide) (by decide)
theorem bh_230 : BH cs_230 342 := bh_229.nwA (by decide)
theorem bh_231 : BH cs_231 342 := bh_230.sR (by decide) (by decide)
theorem bh_232 : BH cs_232 343 := bh_231.nw
theorem bh_233 : BH cs_233 343 := bh_232.sR (by decide) (by decide)
theorem sTb_bd : ∀ a : Nat, a < 345 → (sTab.getD a (0, 0, [])).2.1 ≤ 75 ∨ (sTab.getD a (0, 0, [])).1 ≠ 104 := by decide +kernel
theorem sTb_ln : ∀ a : Nat, a < 345 → (sTab.getD a (0, 0, [])).2.2.length ≤ 75 := by decide +kernel
theorem S0_k {a k : Nat} (hk : 75 ≤ k) : (S0 a).2.2 k = none := by
  by_cases c : a < 345
  · show (if (sTab.getD a (0, 0, [])).1 = 104 then (if k < (sTab.getD a (0, 0, [])).2.1 then some (a + 1 + k) else none) else (sTab.getD a (0, 0, [])).2.2.getD k none) = none
    by_cases t : (sTab.getD a (0, 0, [])).1 = 104
    · rw [if_pos t, if_neg]
      have := sTb_bd a c
      rcases this with h | h
      · omega
      · exact absurd t h
    · rw [if_neg t, List.getD_eq_getElem?_getD, List.getElem?_eq_none (by have := sTb_ln a c; omega)]
      rfl
  · rw [S0_hi (by omega)]
theorem tabB1 : ∀ a : Nat, a < 343 → (cs_233.1 a).1 = (S0 a).1 ∧ (cs_233.1 a).2.1 = (S0 a).2.1 := by decide +kernel
theorem tabB2 : ∀ a : Nat, a < 343 → ∀ k : Nat, k < 75 → (cs_233.1 a).2.2 k = (S0 a).2.2 k := by decide +kernel
theorem eqB {a : Nat} (h : a < 343) : cs_233.1 a = S0 a := by
  refine Prod.ext (tabB1 a h).1 (Prod.ext (tabB1 a h).2 (funext fun k => ?_))
  by_cases c : k < 75
  · exact tabB2 a h k c
  · rw [bh_233.1 a k (by omega), S0_k (by omega)]
theorem gkB {u : Nat} : Gk cs_233 u := ⟨fun a h => eqB h, by rw [gn_233]; exact Nat.le_refl _, rfl⟩
theorem wB : gW cs_233 ≤ 19000 := by decide +kernel
theorem mB : gM cs_233 0 5 = some 39 ∧ gM cs_233 27 5 = some 39 ∧ gM cs_233 0 6 = some 60 := by decide +kernel
theorem iB : rI cs_233 40 8 = 0 ∧ rI cs_233 40 9 = -1 ∧ rI cs_233 61 9 = -1 ∧ rI cs_233 39 3 = 6 ∧ rI cs_233 39 4 = 4 ∧ rI cs_233 39 5 = 1440 ∧ rI cs_233 39 6 = 1440 ∧ rI cs_233 39 7 = 0 ∧ rI cs_233 39 8 = 0 ∧ rI cs_233 39 9 = 0 ∧ rI cs_233 49 2 = 0 ∧ rI cs_233 52 2 = 0 ∧ rI cs_233 26 12 = 0 ∧ rI cs_233 3 6 = 0 ∧ rI cs_233 1 1 = 0 ∧ rI cs_233 1 5 = -1 ∧ rI cs_233 0 7 = 0 ∧ rI cs_233 0 8 = 0 ∧ rI cs_233 76 1 = 0 ∧ rI cs_233 76 3 = -1 ∧ rI cs_233 78 0 = 0 ∧ rI cs_233 78 1 = 0 := by decide +kernel
theorem zB : ∀ k : Nat, k < 90 → gI cs_233 29 k = 0 ∧ gI cs_233 30 k = 0 ∧ gI cs_233 32 k = 0 ∧ gI cs_233 33 k = 0 := by decide +kernel
theorem W1_none {fo s : Int} {F : Int → Int} (h : 0 ≤ s) : W1 (sT (fun _ => none) fo) F s = 0 := by
  refine sm_eq0 (fun t t0 t1 => cif_neg (fun q => ?_))
  have e : sT (fun _ => none) fo t = -1 := by
    unfold sT
    by_cases c : t < fo
    · rw [if_pos c]; exact att_none (fun _ _ => rfl)
    · rw [if_neg c]
  rw [e] at q
  omega
theorem J_first {τ1 τ2 : aH} (F1 : Fk (fun a _ => a = 79) 1 8 cs_233 τ1) (r : rI τ1 79 0 = 6 ∧ rI τ1 79 1 = 4 ∧ rI τ1 79 2 = 0 ∧ rI τ1 79 3 = 1440 ∧ rI τ1 79 4 = 1440 ∧ rI τ1 79 5 = 0 ∧ rI τ1 79 6 = 0 ∧ rI τ1 79 7 = 0) (F2 : Fr ASd τ1 τ2) (hS : SdS (rI τ1) (rI τ2) 0 (fun _ => none) (fun _ => none)) (hSu : SunR (rI τ1) 101 79 (fun _ => none)) (hRa : RatR (rI τ1) 143 79 (fun _ => none)) : J (nw τ2 344 103 1 1) 39 60 0 6 4 (Dc (rI (nw τ2 344 103 1 1)) 39) (fun _ => none) (fun _ => none) 1440 1440 0 := by
  obtain ⟨σ, hσ⟩ : ∃ σ : aH, σ = nw τ2 344 103 1 1 := ⟨_, rfl⟩
  rw [← hσ]
  have e1 : ∀ (a : Nat) (i : Int), a ≠ 344 → rI σ a i = rI τ2 a i := fun a i h => by
    rw [hσ]
    show (va_up τ2.2.2.1 344 (fun _ => 0) a i.toNat).toInt = _
    rw [va_up_ne _ _ h]; rfl
  have lo : ∀ (a : Nat) (i : Int), a < 76 → 0 ≤ i → rI σ a i = rI cs_233 a i := fun a i h i0 => by
    rw [e1 a i (by omega), F2.rw i0 (by show ¬ (a = 80 ∨ (91 ≤ a ∧ a ≤ 98) ∨ (122 ≤ a ∧ a ≤ 141) ∨ (164 ≤ a ∧ a ≤ 184) ∨ (190 ≤ a ∧ a ≤ 259) ∨ (a = 76 ∧ (i = 18 ∨ i = 19 ∨ i = 20 ∨ i = 21 ∨ i = 25 ∨ i = 27 ∨ i = 28))); omega)]
    exact F1.2.2.2.2.2 a i (by omega) i0 (by show ¬ a = 79; omega)
  have mi : ∀ (a : Nat) (i : Int), (a = 76 ∧ (i = 1 ∨ i = 3)) ∨ (a = 78 ∧ 0 ≤ i) → rI σ a i = rI cs_233 a i := fun a i h => by
    rw [e1 a i (by omega), F2.rw (by omega) (by show ¬ (a = 80 ∨ (91 ≤ a ∧ a ≤ 98) ∨ (122 ≤ a ∧ a ≤ 141) ∨ (164 ≤ a ∧ a ≤ 184) ∨ (190 ≤ a ∧ a ≤ 259) ∨ (a = 76 ∧ (i = 18 ∨ i = 19 ∨ i = 20 ∨ i = 21 ∨ i = 25 ∨ i = 27 ∨ i = 28))); omega)]
    exact F1.2.2.2.2.2 a i (by omega) (by omega) (by show ¬ a = 79; omega)
  obtain ⟨c1, c2, c3, c4, c5, c6, c7, c8, c9, c10, c11, c12, c13, c14, c15, c16, c17, c18, c19, c20, c21, c22⟩ := iB
  obtain ⟨m1, m2, m3⟩ := mB
  have M : ∀ a : Nat, a < 343 → σ.2.1 a = cs_233.2.1 a := fun a h => by
    rw [hσ]
    show va_up τ2.2.1 344 (fun _ => none) a = _
    rw [va_up_ne _ _ (by omega), F2.1.2.1]
    exact F1.2.1 a h
  have hN : gN σ = 345 := by rw [hσ]; rfl
  have hs1 : σ.1 = S0 := by
    have t : τ2.1 = cs_233.1 := F2.1.1.trans F1.1
    funext a
    rw [hσ]
    show va_up τ2.1 344 (103, 1, fun _ => none) a = S0 a
    by_cases c : a = 344
    · rw [c, va_up_self]
      refine Prod.ext rfl (Prod.ext rfl (funext fun k => ?_))
      show none = ([] : List (Option Nat)).getD k none
      rfl
    · rw [va_up_ne _ _ c, t]
      by_cases l : a < 343
      · exact eqB l
      · by_cases c2 : a = 343
        · rw [c2, bh_233.2 343 (by decide)]
          refine Prod.ext rfl (Prod.ext rfl (funext fun k => ?_))
          show none = ([] : List (Option Nat)).getD k none
          rfl
        · rw [S0_hi (by omega), bh_233.2 a (by omega)]
  obtain ⟨r0, r1, r2, r3, r4, r5, r6, r7⟩ := r
  have hS' := hS
  obtain ⟨d80, drow, d184, ⟨d18, d19, d20, d21, d27, d28⟩, dsun, drat, dpn, dpc⟩ := hS'
  have hR2 : JR τ2 0 6 4 (Dc (rI σ) 39) (fun _ => none) (fun _ => none) 1440 1440 := by
    refine JR.of (m := rI τ1) (R := (skK (fun _ => 0) K0, Dc (rI σ) 39, fun _ _ => none)) PDd.start ⟨fun i hi => ?_, fun s s0 s1 => absurd (show s < 0 from s1) (by omega), hSu, hRa⟩ hS
    rcases (show i = 0 ∨ i = 1 ∨ i = 2 ∨ i = 3 ∨ i = 4 ∨ i = 5 by omega) with rfl | rfl | rfl | rfl | rfl | rfl
    · exact r0
    · exact r1
    · exact r2
    · exact r3
    · exact r4
    · exact r5
  have hF : Fr (fun a _ => a = 344) τ2 (ov τ2 σ) := ⟨⟨rfl, rfl, rfl⟩, fun a i _ h => e1 a i h⟩
  have z90 : ∀ (a : Nat), (a = 29 ∨ a = 30 ∨ a = 32 ∨ a = 33) → ∀ s : Int, 0 ≤ s → s < 90 → rI σ a s = 0 := fun a ha s s0 s1 => by
    rw [lo a s (by omega) s0]
    have h := zB s.toNat (by omega)
    show (gI cs_233 a s.toNat).toInt = 0
    rcases ha with rfl | rfl | rfl | rfl
    · rw [h.1]; rfl
    · rw [h.2.1]; rfl
    · rw [h.2.2.1]; rfl
    · rw [h.2.2.2]; rfl
  refine ⟨⟨hs1, by omega, ?_, ?_, Or.inl rfl⟩, ⟨?_, Or.inr rfl, by decide, (lo 61 9 (by decide) (by decide)).trans c3⟩, ⟨rfl, ⟨(lo 40 8 (by decide) (by decide)).trans c1, by decide, ⟨by decide, fun i i0 i1 => by omega⟩, by rw [lo 39 9 (by decide) (by decide), c10]; decide⟩, by decide, fun i i0 i1 => by omega, fun x y i j hi hj => by have := hi.1; have := hi.2.1; omega, fun i i0 i1 => by omega, ⟨(lo 39 3 (by decide) (by decide)).trans c4, (lo 39 4 (by decide) (by decide)).trans c5⟩, by decide, ⟨?_, ?_, (fun t x h => by cases h), (fun t x h => by cases h), ?_, ?_⟩, ⟨(lo 39 5 (by decide) (by decide)).trans c6, (lo 39 6 (by decide) (by decide)).trans c7⟩, fun s s0 s1 => ⟨?_, ?_⟩, fun s s0 s1 => ⟨?_, ?_⟩, (lo 40 9 (by decide) (by decide)).trans c2⟩, ?_, ?_, ?_⟩
  · show σ.2.1 0 5 = some 39
    rw [M 0 (by decide)]; exact m1
  · show σ.2.1 27 5 = some 39
    rw [M 27 (by decide)]; exact m2
  · show σ.2.1 0 6 = some 60
    rw [M 0 (by decide)]; exact m3
  · have q : rI σ 49 2 = 0 := (lo 49 2 (by decide) (by decide)).trans c11
    refine ⟨?_, ?_, fun i i0 i1 => ?_, fun i j i0 i1 i2 => ?_, fun t x h => by cases h⟩
    · show 0 ≤ rI σ 49 2; omega
    · show rI σ 49 2 ≤ 20; omega
    · have i2 : i < rI σ 49 2 := i1
      omega
    · have i3 : j < rI σ 49 2 := i2
      omega
  · have q : rI σ 52 2 = 0 := (lo 52 2 (by decide) (by decide)).trans c12
    refine ⟨?_, ?_, fun i i0 i1 => ?_, fun i j i0 i1 i2 => ?_, fun t x h => by cases h⟩
    · show 0 ≤ rI σ 52 2; omega
    · show rI σ 52 2 ≤ 20; omega
    · have i2 : i < rI σ 52 2 := i1
      omega
    · have i3 : j < rI σ 52 2 := i2
      omega
  · rw [lo 39 5 (by decide) (by decide), c6]; decide
  · rw [lo 39 6 (by decide) (by decide), c7]; decide
  · rw [W1_none s0]; exact z90 29 (by omega) s s0 s1
  · rw [W1_none s0]; exact z90 30 (by omega) s s0 s1
  · rw [W1_none s0]; exact z90 32 (by omega) s s0 s1
  · rw [W1_none s0]; exact z90 33 (by omega) s s0 s1
  · obtain ⟨K, fr, va, D2, hm, hd, h2, hc⟩ := hR2
    have hm2 : Mf (ov τ2 σ) 0 (-1) 6 4 D2 (fun _ => none) (fun _ => none) K fr va 1440 1440 := hm.frm hF (fun a i z => by omega) (fun i z => by omega)
    exact ⟨K, fr, va, D2, hm2, hd, (e1 80 2 (by decide)).trans h2, fun i i0 i1 => by omega⟩
  · unfold SC
    rw [e1 80 5 (by decide), d80 5 (by decide) (by decide), r5, lo 39 7 (by decide) (by decide), c8, e1 76 18 (by decide), d18, lo 39 8 (by decide) (by decide), c9, e1 76 19 (by decide), d19, lo 39 9 (by decide) (by decide), c10, e1 76 20 (by decide), d20, lo 26 12 (by decide) (by decide), c13, e1 76 21 (by decide), d21, lo 3 6 (by decide) (by decide), c14, mi 76 1 (by decide), c19, lo 1 1 (by decide) (by decide), c15, mi 76 3 (by decide), c20, lo 1 5 (by decide) (by decide), c16, mi 78 0 (by decide), c21, lo 0 7 (by decide) (by decide), c17, mi 78 1 (by decide), c22, lo 0 8 (by decide) (by decide), c18]
    exact ⟨rfl, ⟨rfl, by decide, by decide⟩, rfl, rfl, ⟨rfl, by decide, by decide⟩, ⟨rfl, by decide, by decide⟩, rfl, fun k k0 k1 => by omega, ⟨rfl, by decide, by decide⟩, ⟨rfl, by decide, by decide⟩⟩
  · intro k k0 k1
    rw [lo 3 6 (by decide) (by decide), c14] at k1
    omega
set_option maxRecDepth 10000 in
/-- the law from its entry -/
theorem law_start {sc : Nat × (Nat → Int32)} {d : Nat} {Q : aO → aH → Prop} (hl : (sc.1 : Int) ≤ 3072) (fin : ∀ σ : aH, (gN σ : Int) ≤ 1369 → (gW σ : Int) ≤ 20000 + 10240 → Q (.inl (some (.int (nZ 1)))) σ) : wp (Ev sc (d + 13)) 11 cL_law 7 (some .boolean) false [] sc Q 0 [(0, .ref 1000000)] [] cs_0 := by
  obtain ⟨τ1, h1, F1, r1⟩ := mk_tellsNothing (sc := sc) (d := d + 11) (σ := cs_233) (u := 39) gkB (by rw [gn_233]; exact bh_233.2 343 (by decide)) (by rw [gn_233]; decide)
  have g1 : Gk τ1 39 := ⟨fun a h => by rw [F1.1]; exact eqB h, by rw [F1.2.2.2.1, gn_233]; decide, rfl⟩
  have hSu : SunR (rI τ1) 101 79 (fun _ => none) := ⟨⟨by rw [r1.2.2.2.2.2.2.1]; decide, fun i i0 i1 => by rw [r1.2.2.2.2.2.2.1] at i1; omega, fun i j i0 i1 => by rw [r1.2.2.2.2.2.2.1] at i1; omega, fun t v h => by cases h⟩, fun k k0 k1 => by rw [r1.2.2.2.2.2.2.1] at k1; omega⟩
  have hRa : RatR (rI τ1) 143 79 (fun _ => none) := ⟨⟨by rw [r1.2.2.2.2.2.2.2]; decide, fun i i0 i1 => by rw [r1.2.2.2.2.2.2.2] at i1; omega, fun i j i0 i1 => by rw [r1.2.2.2.2.2.2.2] at i1; omega, fun t v h => by cases h⟩, fun k k0 k1 => by rw [r1.2.2.2.2.2.2.2] at k1; omega⟩
  obtain ⟨τ2, h2, F2, hS⟩ := mk_stands (sc := sc) (d := d + 9) (σ := τ1) (u := 39) (n := 0) g1 r1.2.2.1 (by decide) hSu hRa
  have hJ := J_first F1 r1 F2 hS hSu hRa
  have n2 : gN τ2 = 344 ∧ gW τ2 ≤ 19008 := by
    have w := F2.nw
    have wb := wB
    rw [w.1, w.2.1, F1.2.2.2.1, F1.2.2.2.2.1, gn_233]
    exact ⟨rfl, by omega⟩
  have h10 : Ev sc (d + 13) mX10_init [.ref 76] cs_176 (.inl none) τ2 := T.ev (t_X10_init (d := d + 9) h1 (kT g1 rfl (lt_k rfl)) h2 ⟨rfl, rfl⟩)
  refine c_new (ci := 9) (a := 0) (show gN cs_0 = 0 from rfl) (show _ = cs_1 from rfl) dL_law_0 nl_11_8 (by decide) ?_
  refine w_dup dL_law_3 rfl ?_
  refine w_callI dL_law_4 ml_11_113 ⟨ok_X9_init, in_X9_init⟩ hs_X9_init (As := []) rfl rfl (Nat.le_of_ble_eq_true rfl) (ev_X9_init_0 (d := d + 8)) ?_
  refine w_astore_n (l' := [(1, .ref 0), (0, .ref 1000000)]) dL_law_7 rfl (by decide) rfl ?_
  refine c_new (ci := 10) (a := 76) gn_175 (show _ = cs_176 from rfl) dL_law_8 nl_11_114 (by decide) ?_
  refine w_dup dL_law_11 rfl ?_
  refine w_callI dL_law_12 ml_11_116 ⟨ok_X10_init, in_X10_init⟩ hs_X10_init (As := []) rfl rfl (Nat.le_of_ble_eq_true rfl) h10 ?_
  refine w_astore_n (l' := [(2, .ref 76), (1, .ref 0), (0, .ref 1000000)]) dL_law_15 rfl (by decide) rfl ?_
  refine w_iconst (v := nZ 1) dL_law_16 (by decide) ?_
  refine c_newaJ (a := 344) (m := 1) n2.1 (by decide) rfl dL_law_17 rfl (by decide) (by decide) ?_
  refine w_astore_n (l' := [(3, .ref 344), (2, .ref 76), (1, .ref 0), (0, .ref 1000000)]) dL_law_19 rfl (by decide) rfl ?_
  refine w_iconst (v := nZ 0) dL_law_20 (by decide) ?_
  refine w_istore (l' := [(4, .int (nZ 0)), (3, .ref 344), (2, .ref 76), (1, .ref 0), (0, .ref 1000000)]) dL_law_21 (by decide) rfl ?_
  refine w_weak (l' := [(0, .ref 1000000), (1, .ref 0), (2, .ref 76), (3, .ref 344), (4, .int (nZ 0))]) (by intro q hq; simp only [List.mem_cons, List.not_mem_nil, or_false] at hq ⊢; rcases hq with rfl | rfl | rfl | rfl | rfl <;> simp) ?_
  refine law_loop (W0 := 20000) hl fin sc.1 0 0 _ (by omega) (by decide) (by decide) (Or.inl rfl) ⟨⟨39, 60, 0, 6, 4, _, _, _, 1440, 1440, hJ⟩, ?_, ?_⟩
  · show ((345 : Nat) : Int) ≤ 345 + 2 * 0
    decide
  · show ((gW τ2 + 1 : Nat) : Int) ≤ 20000 + 20 * 0
    have := n2.2
    omega
