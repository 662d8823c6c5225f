/-! THE PROGRAM IS AS THE INTERPRETER WANTS IT. -/
theorem xcb_all : ∀ j, j < xnM → xcb j 0 (xgL.getD j []) = true := by
  intro j hj
  match j, hj with
  | 0, _ => exact xcb_0
  | 1, _ => exact xcb_1
  | 2, _ => exact xcb_2
  | 3, _ => exact xcb_3
  | 4, _ => exact xcb_4
  | 5, _ => exact xcb_5
  | 6, _ => exact xcb_6
  | 7, _ => exact xcb_7
  | 8, _ => exact xcb_8
  | 9, _ => exact xcb_9
  | 10, _ => exact xcb_10
  | 11, _ => exact xcb_11
  | 12, _ => exact xcb_12
  | 13, _ => exact xcb_13
  | 14, _ => exact xcb_14
  | 15, _ => exact xcb_15
  | 16, _ => exact xcb_16
  | 17, _ => exact xcb_17
  | 18, _ => exact xcb_18
  | 19, _ => exact xcb_19
  | 20, _ => exact xcb_20
  | 21, _ => exact xcb_21
  | 22, _ => exact xcb_22
  | 23, _ => exact xcb_23
  | 24, _ => exact xcb_24
  | 25, _ => exact xcb_25
  | 26, _ => exact xcb_26
  | 27, _ => exact xcb_27
  | 28, _ => exact xcb_28
  | 29, _ => exact xcb_29
  | 30, _ => exact xcb_30
  | 31, _ => exact xcb_31
  | 32, _ => exact xcb_32
  | 33, _ => exact xcb_33
  | 34, _ => exact xcb_34
  | 35, _ => exact xcb_35
  | 36, _ => exact xcb_36
  | 37, _ => exact xcb_37
  | 38, _ => exact xcb_38
  | 39, _ => exact xcb_39
  | 40, _ => exact xcb_40
  | 41, _ => exact xcb_41
  | 42, _ => exact xcb_42
  | 43, _ => exact xcb_43
  | 44, _ => exact xcb_44
  | 45, _ => exact xcb_45
  | 46, _ => exact xcb_46
  | 47, _ => exact xcb_47
  | 48, _ => exact xcb_48
  | 49, _ => exact xcb_49
  | 50, _ => exact xcb_50
  | 51, _ => exact xcb_51
  | 52, _ => exact xcb_52
  | 53, _ => exact xcb_53
  | 54, _ => exact xcb_54
  | 55, _ => exact xcb_55
  | 56, _ => exact xcb_56
  | 57, _ => exact xcb_57
  | 58, _ => exact xcb_58
  | 59, _ => exact xcb_59
  | 60, _ => exact xcb_60
  | 61, _ => exact xcb_61
  | 62, _ => exact xcb_62
  | 63, _ => exact xcb_63
  | 64, _ => exact xcb_64
  | 65, _ => exact xcb_65
  | 66, _ => exact xcb_66
  | 67, _ => exact xcb_67
  | 68, _ => exact xcb_68
  | 69, _ => exact xcb_69
  | 70, _ => exact xcb_70
  | 71, _ => exact xcb_71
  | 72, _ => exact xcb_72
  | 73, _ => exact xcb_73
  | 74, _ => exact xcb_74
  | 75, _ => exact xcb_75
  | 76, _ => exact xcb_76
  | 77, _ => exact xcb_77
  | 78, _ => exact xcb_78
  | 79, _ => exact xcb_79
  | 80, _ => exact xcb_80
  | 81, _ => exact xcb_81
  | 82, _ => exact xcb_82
  | 83, _ => exact xcb_83
  | 84, _ => exact xcb_84
  | 85, _ => exact xcb_85
  | 86, _ => exact xcb_86
  | 87, _ => exact xcb_87
  | 88, _ => exact xcb_88
  | 89, _ => exact xcb_89
  | 90, _ => exact xcb_90
  | 91, _ => exact xcb_91
  | 92, _ => exact xcb_92
  | 93, _ => exact xcb_93
  | 94, _ => exact xcb_94
  | 95, _ => exact xcb_95
  | 96, _ => exact xcb_96
  | 97, _ => exact xcb_97
  | 98, _ => exact xcb_98
  | 99, _ => exact xcb_99
  | 100, _ => exact xcb_100
  | 101, _ => exact xcb_101
  | 102, _ => exact xcb_102
  | 103, _ => exact xcb_103
  | 104, _ => exact xcb_104
  | 105, _ => exact xcb_105
  | 106, _ => exact xcb_106
  | 107, _ => exact xcb_107
  | 108, _ => exact xcb_108
  | 109, _ => exact xcb_109
  | 110, _ => exact xcb_110
  | 111, _ => exact xcb_111
  | 112, _ => exact xcb_112
  | 113, _ => exact xcb_113
  | 114, _ => exact xcb_114
  | 115, _ => exact xcb_115
  | 116, _ => exact xcb_116
  | 117, _ => exact xcb_117
  | 118, _ => exact xcb_118
  | 119, _ => exact xcb_119
  | 120, _ => exact xcb_120
  | 121, _ => exact xcb_121
  | 122, _ => exact xcb_122
  | 123, _ => exact xcb_123
  | 124, _ => exact xcb_124
  | 125, _ => exact xcb_125
  | 126, _ => exact xcb_126
  | 127, _ => exact xcb_127
  | 128, _ => exact xcb_128
  | 129, _ => exact xcb_129
  | 130, _ => exact xcb_130
  | 131, _ => exact xcb_131
  | 132, _ => exact xcb_132
  | 133, _ => exact xcb_133
  | 134, _ => exact xcb_134
  | 135, _ => exact xcb_135
  | 136, _ => exact xcb_136
  | 137, _ => exact xcb_137
  | 138, _ => exact xcb_138
  | 139, _ => exact xcb_139
  | 140, _ => exact xcb_140
  | 141, _ => exact xcb_141
  | 142, _ => exact xcb_142
  | 143, _ => exact xcb_143
  | 144, _ => exact xcb_144
  | 145, _ => exact xcb_145
  | 146, _ => exact xcb_146
  | 147, _ => exact xcb_147
  | 148, _ => exact xcb_148
  | 149, _ => exact xcb_149
  | 150, _ => exact xcb_150
  | 151, _ => exact xcb_151
  | 152, _ => exact xcb_152
  | 153, _ => exact xcb_153
  | 154, _ => exact xcb_154
  | 155, _ => exact xcb_155
  | 156, _ => exact xcb_156
  | 157, _ => exact xcb_157
  | 158, _ => exact xcb_158
  | 159, _ => exact xcb_159
  | 160, _ => exact xcb_160
  | 161, _ => exact xcb_161
  | 162, _ => exact xcb_162
  | 163, _ => exact xcb_163
  | 164, _ => exact xcb_164
  | 165, _ => exact xcb_165
  | 166, _ => exact xcb_166
  | 167, _ => exact xcb_167
  | 168, _ => exact xcb_168
  | 169, _ => exact xcb_169
  | 170, _ => exact xcb_170
  | 171, _ => exact xcb_171
  | 172, _ => exact xcb_172
  | 173, _ => exact xcb_173
  | 174, _ => exact xcb_174
  | 175, _ => exact xcb_175
  | 176, _ => exact xcb_176
  | 177, _ => exact xcb_177
  | 178, _ => exact xcb_178
  | 179, _ => exact xcb_179
  | 180, _ => exact xcb_180
  | 181, _ => exact xcb_181
  | 182, _ => exact xcb_182
  | 183, _ => exact xcb_183
  | 184, _ => exact xcb_184
  | 185, _ => exact xcb_185
  | 186, _ => exact xcb_186
  | 187, _ => exact xcb_187
  | 188, _ => exact xcb_188
  | 189, _ => exact xcb_189
  | 190, _ => exact xcb_190
  | 191, _ => exact xcb_191
  | 192, _ => exact xcb_192
  | 193, _ => exact xcb_193
  | 194, _ => exact xcb_194
  | 195, _ => exact xcb_195
  | 196, _ => exact xcb_196
  | 197, _ => exact xcb_197
  | 198, _ => exact xcb_198
  | 199, _ => exact xcb_199
  | 200, _ => exact xcb_200
  | 201, _ => exact xcb_201
  | 202, _ => exact xcb_202
  | 203, _ => exact xcb_203
  | 204, _ => exact xcb_204
  | 205, _ => exact xcb_205
  | 206, _ => exact xcb_206
  | 207, _ => exact xcb_207
  | 208, _ => exact xcb_208
  | 209, _ => exact xcb_209
  | 210, _ => exact xcb_210
  | 211, _ => exact xcb_211
  | 212, _ => exact xcb_212
  | 213, _ => exact xcb_213
  | 214, _ => exact xcb_214
  | 215, _ => exact xcb_215
  | 216, _ => exact xcb_216
  | 217, _ => exact xcb_217
  | 218, _ => exact xcb_218
  | 219, _ => exact xcb_219
  | 220, _ => exact xcb_220
  | 221, _ => exact xcb_221
  | 222, _ => exact xcb_222
  | 223, _ => exact xcb_223
  | 224, _ => exact xcb_224
  | 225, _ => exact xcb_225
  | 226, _ => exact xcb_226
  | 227, _ => exact xcb_227
  | 228, _ => exact xcb_228
  | 229, _ => exact xcb_229
  | 230, _ => exact xcb_230
  | 231, _ => exact xcb_231
  | 232, _ => exact xcb_232
  | 233, _ => exact xcb_233
  | 234, _ => exact xcb_234
  | 235, _ => exact xcb_235
  | 236, _ => exact xcb_236
  | 237, _ => exact xcb_237
  | 238, _ => exact xcb_238
  | 239, _ => exact xcb_239
  | 240, _ => exact xcb_240
  | 241, _ => exact xcb_241
  | 242, _ => exact xcb_242
  | 243, _ => exact xcb_243
  | 244, _ => exact xcb_244
  | 245, _ => exact xcb_245
  | 246, _ => exact xcb_246
  | 247, _ => exact xcb_247
  | 248, _ => exact xcb_248
  | 249, _ => exact xcb_249
  | 250, _ => exact xcb_250
  | 251, _ => exact xcb_251
  | 252, _ => exact xcb_252
  | 253, _ => exact xcb_253
  | 254, _ => exact xcb_254
  | 255, _ => exact xcb_255
  | 256, _ => exact xcb_256
  | 257, _ => exact xcb_257
  | 258, _ => exact xcb_258
  | j + 259, hj => exact absurd hj (by simp only [xnM]; omega)
theorem xGo_ok : xGo xgt xnst xcls xacl xnC xyn xstr xbt xG xna xnp xrc xrk xrt := by
  intro j pc i len hj h
  have h1 : (xgL.getD j [])[pc]? = some (some (i, len)) := by
    unfold xG at h
    cases hc : (xgL.getD j [])[pc]? with
    | none => rw [hc] at h; cases h
    | some x => rw [hc] at h; rw [show x = some (i, len) from h]
  obtain ⟨raw, hd, hk⟩ := xcb_at _ 0 pc i len (xcb_all j hj) h1
  rw [Nat.zero_add] at hd hk
  exact ⟨raw, hd, xlkB_ok hj hk⟩
def xmb (j : Nat) : Bool := xin (xaux j).2.1 (.initialized (xyn j).cls) && plainFor (xyn j) && decide ((xyn j).cls ≠ "java/lang/invoke/MethodHandle") && decide ((xyn j).cls ≠ "java/lang/invoke/VarHandle") && decide (xmx j ≤ 40) && decide ((parseMethodDescriptor (xyn j).desc).map (fun d => d.parameters.length) = some (xnp j))
theorem xmb_ok : (List.range xnC).all xmb = true := by decide +kernel
theorem xMe_ok : xMe xgt xmx xbt xyn xnC xnp xrt := by
  refine ⟨by decide, fun j hj => ?_⟩
  have := List.all_eq_true.mp xmb_ok j (List.mem_range.mpr hj)
  simp only [xmb, Bool.and_eq_true, decide_eq_true_eq] at this
  obtain ⟨⟨⟨⟨⟨h2, h3⟩, h4⟩, h5⟩, h6⟩, h7⟩ := this
  exact ⟨xin_mem (xcw_all j hj), xin_mem h2, h3, h4, h5, h6, h7⟩
def xclb (ci : Nat) : Bool := match xcls[ci]? with
  | some (C, T, N) => decide ((xfty ci).length = N) && (List.range N).all (fun k => xin ((xlayL.getD ci []).getD k 0) (u_lay C T k)) && (List.range N).all (fun k => decide (parseFieldDescriptor (T k).2.2.1 = (xfty ci)[k]?)) && (List.range N).all (fun a => (List.range N).all (fun b => a == b || decide ((T a).2.1 ≠ (T b).2.1))) && xin (xinsL.getD ci (0, 0)).1 (.instantiable C N) && xin (xinsL.getD ci (0, 0)).2 (.initialized C)
  | none => true
theorem xclb_ok : (List.range xcls.length).all xclb = true := by decide +kernel
theorem xCl_ok : xCl xgt xcls xfty := by
  refine ⟨by decide +kernel, fun ci C T N h => ?_⟩
  have := List.all_eq_true.mp xclb_ok ci (List.mem_range.mpr (List.getElem?_eq_some_iff.mp h).1)
  simp only [xclb, h, Bool.and_eq_true, decide_eq_true_eq, List.all_eq_true, List.mem_range, Bool.or_eq_true, beq_iff_eq] at this
  obtain ⟨⟨⟨⟨⟨h1, h2⟩, h3⟩, h4⟩, h5⟩, h6⟩ := this
  refine ⟨h1, fun w hw => ?_, h3, fun a ha b hb hab => ?_, xin_mem h5, xin_mem h6⟩
  · obtain ⟨k, hk, rfl⟩ := List.mem_map.mp hw
    exact xin_mem (h2 k (List.mem_range.mp hk))
  · rcases h4 a ha b hb with h | h
    · exact absurd h hab
    · exact h
def xwdb (e : Nat × Cond) : Bool := xin e.1 e.2
theorem xwdb_ok : xwdL.all xwdb = true := by decide +kernel
theorem xwd_mem {w : Cond} (k : Nat) (h : xwdL[k]? = some ((xwdL.getD k (0, .initialized "")).1, w)) : w ∈ xgt := xin_mem (List.all_eq_true.mp xwdb_ok _ (List.mem_of_getElem? h))
def xnsb (w : Cond) : Bool := match w with
  | .methodLinkNest _ _ _ _ => true
  | w => decide (w = .castable "[I" "java/lang/Cloneable")
theorem xnsb_ok : xnst.all xnsb = true := by decide +kernel
theorem xWd_ok : xWd xgt xnst := by
  refine ⟨fun w hw => (List.mem_filter.mp hw).2, fun w hw => ?_, fun ty hty => ?_, xwd_mem 4 rfl, xwd_mem 5 rfl, xwd_mem 6 rfl, xwd_mem 7 rfl, xwd_mem 8 rfl, xwd_mem 9 rfl, xwd_mem 10 rfl, xwd_mem 11 rfl, xwd_mem 12 rfl, by decide +kernel⟩
  · have := List.all_eq_true.mp xnsb_ok w hw
    unfold xnsb at this
    split at this
    · exact Or.inl ⟨_, _, _, _, rfl⟩
    · exact Or.inr (by simpa using this)
  · simp only [List.mem_cons, List.not_mem_nil, or_false] at hty
    rcases hty with rfl | rfl | rfl | rfl
    · exact xwd_mem 0 rfl
    · exact xwd_mem 1 rfl
    · exact xwd_mem 2 rfl
    · exact xwd_mem 3 rfl
theorem xnst_mem : ∀ w ∈ xnst, w ∈ lw_tbl := by
  have h : (xnst.zip xNk).all (fun e => decide (lw_tbl[e.2]? = some e.1)) = true := by decide +kernel
  intro w hw
  obtain ⟨i, hi⟩ := List.getElem?_of_mem hw
  have hl : i < xnst.length := (List.getElem?_eq_some_iff.mp hi).1
  have hl2 : i < xNk.length := Nat.lt_of_lt_of_le hl (by decide +kernel)
  have hz : (xnst.zip xNk)[i]? = some (w, xNk[i]) := by
    rw [List.getElem?_zip_eq_some]
    exact ⟨hi, List.getElem?_eq_getElem hl2⟩
  have := List.all_eq_true.mp h _ (List.mem_of_getElem? hz)
  simp only [decide_eq_true_eq] at this
  exact List.mem_of_getElem? this

