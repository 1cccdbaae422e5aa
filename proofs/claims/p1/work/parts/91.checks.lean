/-! EVERY METHOD IS WELL, BY THE KERNEL -/
noncomputable def rSwB (cc : ByteArray) (el : rEl) : Bool := match el.1 with
  | .tableswitch d lo hi os => decide (decode cc el.2.1 = .ok (.tableswitch d lo hi os, el.2.2.1)) && (decide (el.2.2.2.2 = rtab el.2.1 lo os.toList) && (rpos el.2.1 os.toList && (decide ((el.2.1 : Int) + d = (el.2.2.2.1 : Int)) && (decide (-2147483648 ≤ lo) && (decide (hi < 2147483648) && (decide (lo + os.size = hi + 1) && decide (el.2.2.2.2.Pairwise (fun a b => rbias a.1 < rbias b.1))))))))
  | .lookupswitch d ps => decide (decode cc el.2.1 = .ok (.lookupswitch d ps, el.2.2.1)) && (decide (el.2.2.2.2 = rltab el.2.1 ps.toList) && (rlpos el.2.1 ps.toList && (decide ((el.2.1 : Int) + d = (el.2.2.2.1 : Int)) && ((ps.toList.zip (ps.toList.drop 1)).all (fun (a, next) => a.1 < next.1) && (decide (el.2.2.2.2.Pairwise (fun a b => rbias a.1 < rbias b.1)) && decide (∀ q ∈ ps.toList, ∀ q2 ∈ ps.toList, q.1 = q2.1 → q.2 = q2.2))))))
  | _ => true
theorem rSwB_ok {cc : ByteArray} {el : rEl} (h : rSwB cc el = true) : rSwi cc el := by
  constructor
  · intro d lo hi os e
    unfold rSwB at h
    rw [e] at h
    simp only [Bool.and_eq_true, decide_eq_true_eq] at h
    obtain ⟨h1, h2, h3, h4, h5, h6, h7, h8⟩ := h
    exact ⟨_, h1, h2, h3, h4, h5, h6, h7, h8⟩
  · intro d ps e
    unfold rSwB at h
    rw [e] at h
    simp only [Bool.and_eq_true, decide_eq_true_eq] at h
    obtain ⟨h1, h2, h3, h4, h5, h6, h7⟩ := h
    exact ⟨_, h1, h2, h3, h4, h5, h6, h7⟩
noncomputable def rmB (a : Nat) : Bool := plainFor (mSt a).1 && (((mSt a).2.2.2.2.isEmpty || plainName (mSt a).1.cls) && (Nat.beq (mloc rMt a) (mSt a).2.2.1 && (rwalk rPb (mcode rMt a) 0 (mSt a).2.1.data.toList && ((mcode rMt a).all (rSwB (mSt a).2.1) && (mcode rMt a).all (rdE wW mSt rPP rKT rMt rNM rSS rSR rSI rNC rxn rHT rXN a)))))
set_option maxRecDepth 100000 in
theorem mk_1 : rmB 1 = true := by decide +kernel
set_option maxRecDepth 100000 in
theorem mk_2 : rmB 2 = true := by decide +kernel
set_option maxRecDepth 100000 in
theorem mk_3 : rmB 3 = true := by decide +kernel
set_option maxRecDepth 100000 in
theorem mk_4 : rmB 4 = true := by decide +kernel
set_option maxRecDepth 100000 in
theorem mk_5 : rmB 5 = true := by decide +kernel
set_option maxRecDepth 100000 in
theorem mk_6 : rmB 6 = true := by decide +kernel
set_option maxRecDepth 100000 in
theorem mk_7 : rmB 7 = true := by decide +kernel
set_option maxRecDepth 100000 in
theorem mk_8 : rmB 8 = true := by decide +kernel
set_option maxRecDepth 100000 in
theorem mk_9 : rmB 9 = true := by decide +kernel
set_option maxRecDepth 100000 in
theorem mk_10 : rmB 10 = true := by decide +kernel
set_option maxRecDepth 100000 in
theorem mk_11 : rmB 11 = true := by decide +kernel
set_option maxRecDepth 100000 in
theorem mk_12 : rmB 12 = true := by decide +kernel
set_option maxRecDepth 100000 in
theorem mk_13 : rmB 13 = true := by decide +kernel
set_option maxRecDepth 100000 in
theorem mk_14 : rmB 14 = true := by decide +kernel
set_option maxRecDepth 100000 in
theorem mk_15 : rmB 15 = true := by decide +kernel
set_option maxRecDepth 100000 in
theorem mk_16 : rmB 16 = true := by decide +kernel
set_option maxRecDepth 100000 in
theorem mk_17 : rmB 17 = true := by decide +kernel
set_option maxRecDepth 100000 in
theorem mk_18 : rmB 18 = true := by decide +kernel
set_option maxRecDepth 100000 in
theorem mk_19 : rmB 19 = true := by decide +kernel
set_option maxRecDepth 100000 in
theorem mk_20 : rmB 20 = true := by decide +kernel
set_option maxRecDepth 100000 in
theorem mk_21 : rmB 21 = true := by decide +kernel
set_option maxRecDepth 100000 in
theorem mk_22 : rmB 22 = true := by decide +kernel
set_option maxRecDepth 100000 in
theorem mk_23 : rmB 23 = true := by decide +kernel
set_option maxRecDepth 100000 in
theorem mk_24 : rmB 24 = true := by decide +kernel
set_option maxRecDepth 100000 in
theorem mk_25 : rmB 25 = true := by decide +kernel
set_option maxRecDepth 100000 in
theorem mk_26 : rmB 26 = true := by decide +kernel
set_option maxRecDepth 100000 in
theorem mk_27 : rmB 27 = true := by decide +kernel
set_option maxRecDepth 100000 in
theorem mk_28 : rmB 28 = true := by decide +kernel
set_option maxRecDepth 100000 in
theorem mk_29 : rmB 29 = true := by decide +kernel
set_option maxRecDepth 100000 in
theorem mk_30 : rmB 30 = true := by decide +kernel
set_option maxRecDepth 100000 in
theorem mk_31 : rmB 31 = true := by decide +kernel
set_option maxRecDepth 100000 in
theorem mk_32 : rmB 32 = true := by decide +kernel
set_option maxRecDepth 100000 in
theorem mk_33 : rmB 33 = true := by decide +kernel
set_option maxRecDepth 100000 in
theorem mk_34 : rmB 34 = true := by decide +kernel
set_option maxRecDepth 100000 in
theorem mk_35 : rmB 35 = true := by decide +kernel
set_option maxRecDepth 100000 in
theorem mk_36 : rmB 36 = true := by decide +kernel
set_option maxRecDepth 100000 in
theorem mk_37 : rmB 37 = true := by decide +kernel
set_option maxRecDepth 100000 in
theorem mk_38 : rmB 38 = true := by decide +kernel
set_option maxRecDepth 100000 in
theorem mk_39 : rmB 39 = true := by decide +kernel
set_option maxRecDepth 100000 in
theorem mk_40 : rmB 40 = true := by decide +kernel
set_option maxRecDepth 100000 in
theorem mk_41 : rmB 41 = true := by decide +kernel
set_option maxRecDepth 100000 in
theorem mk_42 : rmB 42 = true := by decide +kernel
set_option maxRecDepth 100000 in
theorem mk_43 : rmB 43 = true := by decide +kernel
set_option maxRecDepth 100000 in
theorem mk_44 : rmB 44 = true := by decide +kernel
set_option maxRecDepth 100000 in
theorem mk_45 : rmB 45 = true := by decide +kernel
set_option maxRecDepth 100000 in
theorem mk_46 : rmB 46 = true := by decide +kernel
set_option maxRecDepth 100000 in
theorem mk_47 : rmB 47 = true := by decide +kernel
set_option maxRecDepth 100000 in
theorem mk_48 : rmB 48 = true := by decide +kernel
set_option maxRecDepth 100000 in
theorem mk_49 : rmB 49 = true := by decide +kernel
set_option maxRecDepth 100000 in
theorem mk_50 : rmB 50 = true := by decide +kernel
set_option maxRecDepth 100000 in
theorem mk_51 : rmB 51 = true := by decide +kernel
set_option maxRecDepth 100000 in
theorem mk_52 : rmB 52 = true := by decide +kernel
set_option maxRecDepth 100000 in
theorem mk_53 : rmB 53 = true := by decide +kernel
set_option maxRecDepth 100000 in
theorem mk_54 : rmB 54 = true := by decide +kernel
set_option maxRecDepth 100000 in
theorem mk_55 : rmB 55 = true := by decide +kernel
set_option maxRecDepth 100000 in
theorem mk_56 : rmB 56 = true := by decide +kernel
set_option maxRecDepth 100000 in
theorem mk_57 : rmB 57 = true := by decide +kernel
set_option maxRecDepth 100000 in
theorem mk_58 : rmB 58 = true := by decide +kernel
set_option maxRecDepth 100000 in
theorem mk_59 : rmB 59 = true := by decide +kernel
set_option maxRecDepth 100000 in
theorem mk_60 : rmB 60 = true := by decide +kernel
set_option maxRecDepth 100000 in
theorem mk_61 : rmB 61 = true := by decide +kernel
set_option maxRecDepth 100000 in
theorem mk_62 : rmB 62 = true := by decide +kernel
set_option maxRecDepth 100000 in
theorem mk_63 : rmB 63 = true := by decide +kernel
set_option maxRecDepth 100000 in
theorem mk_64 : rmB 64 = true := by decide +kernel
set_option maxRecDepth 100000 in
theorem mk_65 : rmB 65 = true := by decide +kernel
set_option maxRecDepth 100000 in
theorem mk_66 : rmB 66 = true := by decide +kernel
set_option maxRecDepth 100000 in
theorem mk_67 : rmB 67 = true := by decide +kernel
set_option maxRecDepth 100000 in
theorem mk_68 : rmB 68 = true := by decide +kernel
set_option maxRecDepth 100000 in
theorem mk_69 : rmB 69 = true := by decide +kernel
set_option maxRecDepth 100000 in
theorem mk_70 : rmB 70 = true := by decide +kernel
set_option maxRecDepth 100000 in
theorem mk_71 : rmB 71 = true := by decide +kernel
set_option maxRecDepth 100000 in
theorem mk_72 : rmB 72 = true := by decide +kernel
set_option maxRecDepth 100000 in
theorem mk_73 : rmB 73 = true := by decide +kernel
set_option maxRecDepth 100000 in
theorem mk_74 : rmB 74 = true := by decide +kernel
set_option maxRecDepth 100000 in
theorem mk_75 : rmB 75 = true := by decide +kernel
set_option maxRecDepth 100000 in
theorem mk_76 : rmB 76 = true := by decide +kernel
set_option maxRecDepth 100000 in
theorem mk_77 : rmB 77 = true := by decide +kernel
set_option maxRecDepth 100000 in
theorem mk_78 : rmB 78 = true := by decide +kernel
set_option maxRecDepth 100000 in
theorem mk_79 : rmB 79 = true := by decide +kernel
set_option maxRecDepth 100000 in
theorem mk_80 : rmB 80 = true := by decide +kernel
set_option maxRecDepth 100000 in
theorem mk_81 : rmB 81 = true := by decide +kernel
set_option maxRecDepth 100000 in
theorem mk_82 : rmB 82 = true := by decide +kernel
set_option maxRecDepth 100000 in
theorem mk_83 : rmB 83 = true := by decide +kernel
set_option maxRecDepth 100000 in
theorem mk_84 : rmB 84 = true := by decide +kernel
set_option maxRecDepth 100000 in
theorem mk_85 : rmB 85 = true := by decide +kernel
set_option maxRecDepth 100000 in
theorem mk_86 : rmB 86 = true := by decide +kernel
set_option maxRecDepth 100000 in
theorem mk_87 : rmB 87 = true := by decide +kernel
set_option maxRecDepth 100000 in
theorem mk_88 : rmB 88 = true := by decide +kernel
set_option maxRecDepth 100000 in
theorem mk_89 : rmB 89 = true := by decide +kernel
set_option maxRecDepth 100000 in
theorem mk_90 : rmB 90 = true := by decide +kernel
set_option maxRecDepth 100000 in
theorem mk_91 : rmB 91 = true := by decide +kernel
set_option maxRecDepth 100000 in
theorem mk_92 : rmB 92 = true := by decide +kernel
set_option maxRecDepth 100000 in
theorem mk_93 : rmB 93 = true := by decide +kernel
set_option maxRecDepth 100000 in
theorem mk_94 : rmB 94 = true := by decide +kernel
set_option maxRecDepth 100000 in
theorem mk_95 : rmB 95 = true := by decide +kernel
set_option maxRecDepth 100000 in
theorem mk_96 : rmB 96 = true := by decide +kernel
set_option maxRecDepth 100000 in
theorem mk_97 : rmB 97 = true := by decide +kernel
set_option maxRecDepth 100000 in
theorem mk_98 : rmB 98 = true := by decide +kernel
set_option maxRecDepth 100000 in
theorem mk_99 : rmB 99 = true := by decide +kernel
set_option maxRecDepth 100000 in
theorem mk_100 : rmB 100 = true := by decide +kernel
set_option maxRecDepth 100000 in
theorem mk_101 : rmB 101 = true := by decide +kernel
set_option maxRecDepth 100000 in
theorem mk_102 : rmB 102 = true := by decide +kernel
set_option maxRecDepth 100000 in
theorem mk_103 : rmB 103 = true := by decide +kernel
set_option maxRecDepth 100000 in
theorem mk_104 : rmB 104 = true := by decide +kernel
set_option maxRecDepth 100000 in
theorem mk_105 : rmB 105 = true := by decide +kernel
set_option maxRecDepth 100000 in
theorem mk_106 : rmB 106 = true := by decide +kernel
set_option maxRecDepth 100000 in
theorem mk_107 : rmB 107 = true := by decide +kernel
set_option maxRecDepth 100000 in
theorem mk_108 : rmB 108 = true := by decide +kernel
set_option maxRecDepth 100000 in
theorem mk_109 : rmB 109 = true := by decide +kernel
set_option maxRecDepth 100000 in
theorem mk_110 : rmB 110 = true := by decide +kernel
set_option maxRecDepth 100000 in
theorem mk_111 : rmB 111 = true := by decide +kernel
set_option maxRecDepth 100000 in
theorem mk_112 : rmB 112 = true := by decide +kernel
set_option maxRecDepth 100000 in
theorem mk_113 : rmB 113 = true := by decide +kernel
set_option maxRecDepth 100000 in
theorem mk_114 : rmB 114 = true := by decide +kernel
set_option maxRecDepth 100000 in
theorem mk_115 : rmB 115 = true := by decide +kernel
set_option maxRecDepth 100000 in
theorem mk_116 : rmB 116 = true := by decide +kernel
set_option maxRecDepth 100000 in
theorem mk_117 : rmB 117 = true := by decide +kernel
set_option maxRecDepth 100000 in
theorem mk_118 : rmB 118 = true := by decide +kernel
set_option maxRecDepth 100000 in
theorem mk_119 : rmB 119 = true := by decide +kernel
set_option maxRecDepth 100000 in
theorem mk_120 : rmB 120 = true := by decide +kernel
set_option maxRecDepth 100000 in
theorem mk_121 : rmB 121 = true := by decide +kernel
set_option maxRecDepth 100000 in
theorem mk_122 : rmB 122 = true := by decide +kernel
set_option maxRecDepth 100000 in
theorem mk_123 : rmB 123 = true := by decide +kernel
set_option maxRecDepth 100000 in
theorem mk_124 : rmB 124 = true := by decide +kernel
set_option maxRecDepth 100000 in
theorem mk_125 : rmB 125 = true := by decide +kernel
set_option maxRecDepth 100000 in
theorem mk_126 : rmB 126 = true := by decide +kernel
set_option maxRecDepth 100000 in
theorem mk_127 : rmB 127 = true := by decide +kernel
set_option maxRecDepth 100000 in
theorem mk_128 : rmB 128 = true := by decide +kernel
set_option maxRecDepth 100000 in
theorem mk_129 : rmB 129 = true := by decide +kernel
set_option maxRecDepth 100000 in
theorem mk_130 : rmB 130 = true := by decide +kernel
set_option maxRecDepth 100000 in
theorem mk_131 : rmB 131 = true := by decide +kernel
set_option maxRecDepth 100000 in
theorem mk_132 : rmB 132 = true := by decide +kernel
set_option maxRecDepth 100000 in
theorem mk_133 : rmB 133 = true := by decide +kernel
set_option maxRecDepth 100000 in
theorem mk_134 : rmB 134 = true := by decide +kernel
set_option maxRecDepth 100000 in
theorem mk_135 : rmB 135 = true := by decide +kernel
set_option maxRecDepth 100000 in
theorem mk_136 : rmB 136 = true := by decide +kernel
set_option maxRecDepth 100000 in
theorem mk_137 : rmB 137 = true := by decide +kernel
set_option maxRecDepth 100000 in
theorem mk_138 : rmB 138 = true := by decide +kernel
set_option maxRecDepth 100000 in
theorem mk_139 : rmB 139 = true := by decide +kernel
set_option maxRecDepth 100000 in
theorem mk_140 : rmB 140 = true := by decide +kernel
set_option maxRecDepth 100000 in
theorem mk_141 : rmB 141 = true := by decide +kernel
set_option maxRecDepth 100000 in
theorem mk_142 : rmB 142 = true := by decide +kernel
set_option maxRecDepth 100000 in
theorem mk_143 : rmB 143 = true := by decide +kernel
set_option maxRecDepth 100000 in
theorem mk_144 : rmB 144 = true := by decide +kernel
set_option maxRecDepth 100000 in
theorem mk_145 : rmB 145 = true := by decide +kernel
set_option maxRecDepth 100000 in
theorem mk_146 : rmB 146 = true := by decide +kernel
set_option maxRecDepth 100000 in
theorem mk_147 : rmB 147 = true := by decide +kernel
set_option maxRecDepth 100000 in
theorem mk_148 : rmB 148 = true := by decide +kernel
set_option maxRecDepth 100000 in
theorem mk_149 : rmB 149 = true := by decide +kernel
set_option maxRecDepth 100000 in
theorem mk_150 : rmB 150 = true := by decide +kernel
set_option maxRecDepth 100000 in
theorem mk_151 : rmB 151 = true := by decide +kernel
set_option maxRecDepth 100000 in
theorem mk_152 : rmB 152 = true := by decide +kernel
set_option maxRecDepth 100000 in
theorem mk_153 : rmB 153 = true := by decide +kernel
set_option maxRecDepth 100000 in
theorem mk_154 : rmB 154 = true := by decide +kernel
set_option maxRecDepth 100000 in
theorem mk_155 : rmB 155 = true := by decide +kernel
set_option maxRecDepth 100000 in
theorem mk_156 : rmB 156 = true := by decide +kernel
set_option maxRecDepth 100000 in
theorem mk_157 : rmB 157 = true := by decide +kernel
set_option maxRecDepth 100000 in
theorem mk_158 : rmB 158 = true := by decide +kernel
set_option maxRecDepth 100000 in
theorem mk_159 : rmB 159 = true := by decide +kernel
set_option maxRecDepth 100000 in
theorem mk_160 : rmB 160 = true := by decide +kernel
set_option maxRecDepth 100000 in
theorem mk_161 : rmB 161 = true := by decide +kernel
set_option maxRecDepth 100000 in
theorem mk_162 : rmB 162 = true := by decide +kernel
set_option maxRecDepth 100000 in
theorem mk_163 : rmB 163 = true := by decide +kernel
set_option maxRecDepth 100000 in
theorem mk_164 : rmB 164 = true := by decide +kernel
set_option maxRecDepth 100000 in
theorem mk_165 : rmB 165 = true := by decide +kernel
set_option maxRecDepth 100000 in
theorem mk_166 : rmB 166 = true := by decide +kernel
set_option maxRecDepth 100000 in
theorem mk_167 : rmB 167 = true := by decide +kernel
set_option maxRecDepth 100000 in
theorem mk_168 : rmB 168 = true := by decide +kernel
set_option maxRecDepth 100000 in
theorem mk_169 : rmB 169 = true := by decide +kernel
set_option maxRecDepth 100000 in
theorem mk_170 : rmB 170 = true := by decide +kernel
set_option maxRecDepth 100000 in
theorem mk_171 : rmB 171 = true := by decide +kernel
set_option maxRecDepth 100000 in
theorem mk_172 : rmB 172 = true := by decide +kernel
set_option maxRecDepth 100000 in
theorem mk_173 : rmB 173 = true := by decide +kernel
set_option maxRecDepth 100000 in
theorem mk_174 : rmB 174 = true := by decide +kernel
set_option maxRecDepth 100000 in
theorem mk_175 : rmB 175 = true := by decide +kernel
set_option maxRecDepth 100000 in
theorem mk_176 : rmB 176 = true := by decide +kernel
set_option maxRecDepth 100000 in
theorem mk_177 : rmB 177 = true := by decide +kernel
set_option maxRecDepth 100000 in
theorem mk_178 : rmB 178 = true := by decide +kernel
set_option maxRecDepth 100000 in
theorem mk_179 : rmB 179 = true := by decide +kernel
set_option maxRecDepth 100000 in
theorem mk_180 : rmB 180 = true := by decide +kernel
set_option maxRecDepth 100000 in
theorem mk_181 : rmB 181 = true := by decide +kernel
set_option maxRecDepth 100000 in
theorem mk_182 : rmB 182 = true := by decide +kernel
set_option maxRecDepth 100000 in
theorem mk_183 : rmB 183 = true := by decide +kernel
set_option maxRecDepth 100000 in
theorem mk_184 : rmB 184 = true := by decide +kernel
set_option maxRecDepth 100000 in
theorem mk_185 : rmB 185 = true := by decide +kernel
set_option maxRecDepth 100000 in
theorem mk_186 : rmB 186 = true := by decide +kernel
set_option maxRecDepth 100000 in
theorem mk_187 : rmB 187 = true := by decide +kernel
set_option maxRecDepth 100000 in
theorem mk_188 : rmB 188 = true := by decide +kernel
set_option maxRecDepth 100000 in
theorem mk_189 : rmB 189 = true := by decide +kernel
set_option maxRecDepth 100000 in
theorem mk_190 : rmB 190 = true := by decide +kernel
set_option maxRecDepth 100000 in
theorem mk_191 : rmB 191 = true := by decide +kernel
set_option maxRecDepth 100000 in
theorem mk_192 : rmB 192 = true := by decide +kernel
set_option maxRecDepth 100000 in
theorem mk_193 : rmB 193 = true := by decide +kernel
set_option maxRecDepth 100000 in
theorem mk_194 : rmB 194 = true := by decide +kernel
set_option maxRecDepth 100000 in
theorem mk_195 : rmB 195 = true := by decide +kernel
set_option maxRecDepth 100000 in
theorem mk_196 : rmB 196 = true := by decide +kernel
set_option maxRecDepth 100000 in
theorem mk_197 : rmB 197 = true := by decide +kernel
set_option maxRecDepth 100000 in
theorem mk_198 : rmB 198 = true := by decide +kernel
set_option maxRecDepth 100000 in
theorem mk_199 : rmB 199 = true := by decide +kernel
set_option maxRecDepth 100000 in
theorem mk_200 : rmB 200 = true := by decide +kernel
set_option maxRecDepth 100000 in
theorem mk_201 : rmB 201 = true := by decide +kernel
set_option maxRecDepth 100000 in
theorem mk_202 : rmB 202 = true := by decide +kernel
set_option maxRecDepth 100000 in
theorem mk_203 : rmB 203 = true := by decide +kernel
set_option maxRecDepth 100000 in
theorem mk_204 : rmB 204 = true := by decide +kernel
set_option maxRecDepth 100000 in
theorem mk_205 : rmB 205 = true := by decide +kernel
set_option maxRecDepth 100000 in
theorem mk_206 : rmB 206 = true := by decide +kernel
set_option maxRecDepth 100000 in
theorem mk_207 : rmB 207 = true := by decide +kernel
set_option maxRecDepth 100000 in
theorem mk_208 : rmB 208 = true := by decide +kernel
set_option maxRecDepth 100000 in
theorem mk_209 : rmB 209 = true := by decide +kernel
set_option maxRecDepth 100000 in
theorem mk_210 : rmB 210 = true := by decide +kernel
set_option maxRecDepth 100000 in
theorem mk_211 : rmB 211 = true := by decide +kernel
set_option maxRecDepth 100000 in
theorem mk_212 : rmB 212 = true := by decide +kernel
set_option maxRecDepth 100000 in
theorem mk_213 : rmB 213 = true := by decide +kernel
set_option maxRecDepth 100000 in
theorem mk_214 : rmB 214 = true := by decide +kernel
set_option maxRecDepth 100000 in
theorem mk_215 : rmB 215 = true := by decide +kernel
set_option maxRecDepth 100000 in
theorem mk_216 : rmB 216 = true := by decide +kernel
set_option maxRecDepth 100000 in
theorem mk_217 : rmB 217 = true := by decide +kernel
set_option maxRecDepth 100000 in
theorem mk_218 : rmB 218 = true := by decide +kernel
set_option maxRecDepth 100000 in
theorem mk_219 : rmB 219 = true := by decide +kernel
set_option maxRecDepth 100000 in
theorem mk_220 : rmB 220 = true := by decide +kernel
set_option maxRecDepth 100000 in
theorem mk_221 : rmB 221 = true := by decide +kernel
set_option maxRecDepth 100000 in
theorem mk_222 : rmB 222 = true := by decide +kernel
set_option maxRecDepth 100000 in
theorem mk_223 : rmB 223 = true := by decide +kernel
set_option maxRecDepth 100000 in
theorem mk_224 : rmB 224 = true := by decide +kernel
set_option maxRecDepth 100000 in
theorem mk_225 : rmB 225 = true := by decide +kernel
set_option maxRecDepth 100000 in
theorem mk_226 : rmB 226 = true := by decide +kernel
set_option maxRecDepth 100000 in
theorem mk_227 : rmB 227 = true := by decide +kernel
set_option maxRecDepth 100000 in
theorem mk_228 : rmB 228 = true := by decide +kernel
set_option maxRecDepth 100000 in
theorem mk_229 : rmB 229 = true := by decide +kernel
set_option maxRecDepth 100000 in
theorem mk_230 : rmB 230 = true := by decide +kernel
set_option maxRecDepth 100000 in
theorem mk_231 : rmB 231 = true := by decide +kernel
set_option maxRecDepth 100000 in
theorem mk_232 : rmB 232 = true := by decide +kernel
set_option maxRecDepth 100000 in
theorem mk_233 : rmB 233 = true := by decide +kernel
set_option maxRecDepth 100000 in
theorem mk_234 : rmB 234 = true := by decide +kernel
set_option maxRecDepth 100000 in
theorem mk_235 : rmB 235 = true := by decide +kernel
set_option maxRecDepth 100000 in
theorem mk_236 : rmB 236 = true := by decide +kernel
set_option maxRecDepth 100000 in
theorem mk_237 : rmB 237 = true := by decide +kernel
set_option maxRecDepth 100000 in
theorem mk_238 : rmB 238 = true := by decide +kernel
set_option maxRecDepth 100000 in
theorem mk_239 : rmB 239 = true := by decide +kernel
set_option maxRecDepth 100000 in
theorem mk_240 : rmB 240 = true := by decide +kernel
set_option maxRecDepth 100000 in
theorem mk_241 : rmB 241 = true := by decide +kernel
set_option maxRecDepth 100000 in
theorem mk_242 : rmB 242 = true := by decide +kernel
set_option maxRecDepth 100000 in
theorem mk_243 : rmB 243 = true := by decide +kernel
set_option maxRecDepth 100000 in
theorem mk_245 : rmB 245 = true := by decide +kernel
set_option maxRecDepth 100000 in
theorem mk_246 : rmB 246 = true := by decide +kernel
set_option maxRecDepth 100000 in
theorem mk_247 : rmB 247 = true := by decide +kernel
set_option maxRecDepth 100000 in
theorem mk_248 : rmB 248 = true := by decide +kernel
set_option maxRecDepth 100000 in
theorem mk_249 : rmB 249 = true := by decide +kernel
set_option maxRecDepth 100000 in
theorem mk_250 : rmB 250 = true := by decide +kernel
set_option maxRecDepth 100000 in
theorem mk_251 : rmB 251 = true := by decide +kernel
set_option maxRecDepth 100000 in
theorem mk_252 : rmB 252 = true := by decide +kernel
set_option maxRecDepth 100000 in
theorem mk_253 : rmB 253 = true := by decide +kernel
set_option maxRecDepth 100000 in
theorem mk_254 : rmB 254 = true := by decide +kernel
set_option maxRecDepth 100000 in
theorem mk_255 : rmB 255 = true := by decide +kernel
set_option maxRecDepth 100000 in
theorem mk_256 : rmB 256 = true := by decide +kernel
set_option maxRecDepth 100000 in
theorem mk_257 : rmB 257 = true := by decide +kernel
set_option maxRecDepth 100000 in
theorem mk_258 : rmB 258 = true := by decide +kernel
set_option maxRecDepth 100000 in
theorem mk_259 : rmB 259 = true := by decide +kernel
set_option maxRecDepth 100000 in
theorem mk_260 : rmB 260 = true := by decide +kernel
set_option maxRecDepth 100000 in
theorem mk_261 : rmB 261 = true := by decide +kernel
set_option maxRecDepth 100000 in
theorem mk_262 : rmB 262 = true := by decide +kernel
set_option maxRecDepth 100000 in
theorem mk_263 : rmB 263 = true := by decide +kernel
set_option maxRecDepth 100000 in
theorem mk_264 : rmB 264 = true := by decide +kernel
set_option maxRecDepth 100000 in
theorem mk_265 : rmB 265 = true := by decide +kernel
set_option maxRecDepth 100000 in
theorem mk_266 : rmB 266 = true := by decide +kernel
set_option maxRecDepth 100000 in
theorem mk_267 : rmB 267 = true := by decide +kernel
set_option maxRecDepth 100000 in
theorem mk_268 : rmB 268 = true := by decide +kernel
set_option maxRecDepth 100000 in
theorem mk_269 : rmB 269 = true := by decide +kernel
set_option maxRecDepth 100000 in
theorem mk_270 : rmB 270 = true := by decide +kernel
set_option maxRecDepth 100000 in
theorem mk_271 : rmB 271 = true := by decide +kernel
set_option maxRecDepth 100000 in
theorem mk_272 : rmB 272 = true := by decide +kernel
set_option maxRecDepth 100000 in
theorem mk_273 : rmB 273 = true := by decide +kernel
set_option maxRecDepth 100000 in
theorem mk_274 : rmB 274 = true := by decide +kernel
set_option maxRecDepth 100000 in
theorem mk_275 : rmB 275 = true := by decide +kernel
set_option maxRecDepth 100000 in
theorem mk_276 : rmB 276 = true := by decide +kernel
set_option maxRecDepth 100000 in
theorem mk_277 : rmB 277 = true := by decide +kernel
set_option maxRecDepth 100000 in
theorem mk_278 : rmB 278 = true := by decide +kernel
set_option maxRecDepth 100000 in
theorem mk_279 : rmB 279 = true := by decide +kernel
set_option maxRecDepth 100000 in
theorem mk_280 : rmB 280 = true := by decide +kernel
set_option maxRecDepth 100000 in
theorem mk_281 : rmB 281 = true := by decide +kernel
set_option maxRecDepth 100000 in
theorem mk_282 : rmB 282 = true := by decide +kernel
set_option maxRecDepth 100000 in
theorem mk_283 : rmB 283 = true := by decide +kernel
set_option maxRecDepth 100000 in
theorem mk_284 : rmB 284 = true := by decide +kernel
set_option maxRecDepth 100000 in
theorem mk_285 : rmB 285 = true := by decide +kernel
set_option maxRecDepth 100000 in
theorem mk_286 : rmB 286 = true := by decide +kernel
set_option maxRecDepth 100000 in
theorem mk_287 : rmB 287 = true := by decide +kernel
set_option maxRecDepth 100000 in
theorem mk_288 : rmB 288 = true := by decide +kernel
set_option maxRecDepth 100000 in
theorem mk_289 : rmB 289 = true := by decide +kernel
set_option maxRecDepth 100000 in
theorem mk_290 : rmB 290 = true := by decide +kernel
set_option maxRecDepth 100000 in
theorem mk_291 : rmB 291 = true := by decide +kernel
set_option maxRecDepth 100000 in
theorem mk_292 : rmB 292 = true := by decide +kernel
set_option maxRecDepth 100000 in
theorem mk_293 : rmB 293 = true := by decide +kernel
set_option maxRecDepth 100000 in
theorem mk_294 : rmB 294 = true := by decide +kernel
set_option maxRecDepth 100000 in
theorem mk_295 : rmB 295 = true := by decide +kernel
set_option maxRecDepth 100000 in
theorem mk_296 : rmB 296 = true := by decide +kernel
set_option maxRecDepth 100000 in
theorem mk_297 : rmB 297 = true := by decide +kernel
set_option maxRecDepth 100000 in
theorem mk_298 : rmB 298 = true := by decide +kernel
set_option maxRecDepth 100000 in
theorem mk_299 : rmB 299 = true := by decide +kernel
set_option maxRecDepth 100000 in
theorem mk_300 : rmB 300 = true := by decide +kernel
set_option maxRecDepth 100000 in
theorem mk_301 : rmB 301 = true := by decide +kernel
set_option maxRecDepth 100000 in
theorem mk_302 : rmB 302 = true := by decide +kernel
set_option maxRecDepth 100000 in
theorem mk_303 : rmB 303 = true := by decide +kernel
set_option maxRecDepth 100000 in
theorem mk_304 : rmB 304 = true := by decide +kernel
set_option maxRecDepth 100000 in
theorem mk_305 : rmB 305 = true := by decide +kernel
set_option maxRecDepth 100000 in
theorem mk_306 : rmB 306 = true := by decide +kernel
set_option maxRecDepth 100000 in
theorem mk_307 : rmB 307 = true := by decide +kernel
set_option maxRecDepth 100000 in
theorem mk_308 : rmB 308 = true := by decide +kernel
set_option maxRecDepth 100000 in
theorem mk_309 : rmB 309 = true := by decide +kernel
set_option maxRecDepth 100000 in
theorem mk_310 : rmB 310 = true := by decide +kernel
set_option maxRecDepth 100000 in
theorem mk_311 : rmB 311 = true := by decide +kernel
set_option maxRecDepth 100000 in
theorem mk_312 : rmB 312 = true := by decide +kernel
set_option maxRecDepth 100000 in
theorem mk_313 : rmB 313 = true := by decide +kernel
set_option maxRecDepth 100000 in
theorem mk_314 : rmB 314 = true := by decide +kernel
set_option maxRecDepth 100000 in
theorem mk_315 : rmB 315 = true := by decide +kernel
set_option maxRecDepth 100000 in
theorem mk_316 : rmB 316 = true := by decide +kernel
set_option maxRecDepth 100000 in
theorem mk_317 : rmB 317 = true := by decide +kernel
set_option maxRecDepth 100000 in
theorem mk_318 : rmB 318 = true := by decide +kernel
set_option maxRecDepth 100000 in
theorem mk_319 : rmB 319 = true := by decide +kernel
set_option maxRecDepth 100000 in
theorem mk_320 : rmB 320 = true := by decide +kernel
set_option maxRecDepth 100000 in
theorem mk_321 : rmB 321 = true := by decide +kernel
set_option maxRecDepth 100000 in
theorem mk_322 : rmB 322 = true := by decide +kernel
set_option maxRecDepth 100000 in
theorem mk_323 : rmB 323 = true := by decide +kernel
set_option maxRecDepth 100000 in
theorem mk_324 : rmB 324 = true := by decide +kernel
set_option maxRecDepth 100000 in
theorem mk_325 : rmB 325 = true := by decide +kernel
set_option maxRecDepth 100000 in
theorem mk_326 : rmB 326 = true := by decide +kernel
set_option maxRecDepth 100000 in
theorem mk_327 : rmB 327 = true := by decide +kernel
set_option maxRecDepth 100000 in
theorem mk_328 : rmB 328 = true := by decide +kernel
set_option maxRecDepth 100000 in
theorem mk_329 : rmB 329 = true := by decide +kernel
set_option maxRecDepth 100000 in
theorem mk_330 : rmB 330 = true := by decide +kernel
set_option maxRecDepth 100000 in
theorem mk_331 : rmB 331 = true := by decide +kernel
set_option maxRecDepth 100000 in
theorem mk_332 : rmB 332 = true := by decide +kernel
set_option maxRecDepth 100000 in
theorem mk_333 : rmB 333 = true := by decide +kernel
set_option maxRecDepth 100000 in
theorem mk_334 : rmB 334 = true := by decide +kernel
set_option maxRecDepth 100000 in
theorem mk_335 : rmB 335 = true := by decide +kernel
set_option maxRecDepth 100000 in
theorem mk_336 : rmB 336 = true := by decide +kernel
set_option maxRecDepth 100000 in
theorem mk_337 : rmB 337 = true := by decide +kernel
