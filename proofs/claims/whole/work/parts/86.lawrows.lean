/-! the script; the law's loop -/
def tc_Sc (xs : Nat → Int32) (sL : Nat) (Z : tc_Z) : Prop := match Z with
  | (_, _, _, _, s, _, _, _, _, _, _, _, _, _, ad, _, A) => va_X (ad 5 0) sL xs s s.heap ∧ ad 5 0 < s.heap.size ∧ ¬ A (ad 5 0)
section TCSCR
variable {R : Room} {cc : ByteArray} {nL : Nat} {own : String} {Z : tc_Z} {pc : Nat} {k : tc_B} {xs : Nat → Int32} {sL : Nat}
def tb_sld (xs : Nat → Int32) (sL : Nat) (k : tc_B) : tc_B := fun L K S => match K with
  | .inl i :: .inr (.inr (5, 0)) :: r => vp_in i sL ∧ k L (.inl (xs i.toNatClampNeg) :: r) S
  | _ => False
def tb_slen (sL : Nat) (k : tc_B) : tc_B := fun L K S => match K with
  | .inr (.inr (5, 0)) :: r => k L (.inl (nI sL) :: r) S
  | _ => False
theorem to_sld (X : tc_Cx R cc nL own Z) (Y : tc_Sc xs sL Z) (hd : decode cc pc = .ok (.iaload, 1)) (h : tc_Ok nL Z (pc + 1) k) : tc_Ok nL Z pc (tb_sld xs sL k) := by
  obtain ⟨p, l, e, R', s, m, args, below, meth, c, n, Q, Ts, D, ad, cA, A⟩ := Z
  obtain ⟨rfl, ⟨hx, hb, hml, hown, hts⟩, hK, hA, hSt, hTs, hn⟩ := X
  intro L K S hb9 H locs ls hP hD hS hl
  simp only [tb_sld] at hb9
  split at hb9
  · exact va_sld hx hb Y.1 Y.2.1 Y.2.2 hS hb9.1 hd (h _ _ _ hb9.2 H locs ls hP hD hS hl)
  · exact hb9.elim
theorem to_slen (X : tc_Cx R cc nL own Z) (Y : tc_Sc xs sL Z) (hd : decode cc pc = .ok (.arraylength, 1)) (h : tc_Ok nL Z (pc + 1) k) : tc_Ok nL Z pc (tb_slen sL k) := by
  obtain ⟨p, l, e, R', s, m, args, below, meth, c, n, Q, Ts, D, ad, cA, A⟩ := Z
  obtain ⟨rfl, ⟨hx, hb, hml, hown, hts⟩, hK, hA, hSt, hTs, hn⟩ := X
  intro L K S hb9 H locs ls hP hD hS hl
  simp only [tb_slen] at hb9
  split at hb9
  · exact va_slen hx hb Y.1 Y.2.1 Y.2.2 hS hd (h _ _ _ hb9 H locs ls hP hD hS hl)
  · exact hb9.elim
end TCSCR
theorem wm_RL_134 : Cond.methodLink RL 134 yX11_many ∈ tc_tb := tc_tb5 149 (by decide +kernel) (by decide +kernel)
theorem wm_RL_130 : Cond.methodLink RL 130 yX11_report ∈ tc_tb := tc_tb5 131 (by decide +kernel) (by decide +kernel)
theorem wm_RL_126 : Cond.methodLink RL 126 yX11_luck ∈ tc_tb := tc_tb5 124 (by decide +kernel) (by decide +kernel)
theorem wm_RL_122 : Cond.methodLink RL 122 yX11_better ∈ tc_tb := tc_tb5 116 (by decide +kernel) (by decide +kernel)
theorem wm_RL_118 : Cond.methodLink RL 118 yX11_flat ∈ tc_tb := tc_tb5 112 (by decide +kernel) (by decide +kernel)
theorem wm_RL_114 : Cond.methodLink RL 114 yX11_pool ∈ tc_tb := tc_tb5 108 (by decide +kernel) (by decide +kernel)
theorem wm_RL_110 : Cond.methodLink RL 110 yX11_pools ∈ tc_tb := tc_tb5 92 (by decide +kernel) (by decide +kernel)
theorem wm_RL_106 : Cond.methodLink RL 106 yX11_area ∈ tc_tb := tc_tb5 88 (by decide +kernel) (by decide +kernel)
theorem wm_RL_102 : Cond.methodLink RL 102 yX11_joined ∈ tc_tb := tc_tb5 84 (by decide +kernel) (by decide +kernel)
theorem wm_RL_98 : Cond.methodLink RL 98 yX11_split ∈ tc_tb := tc_tb5 57 (by decide +kernel) (by decide +kernel)
theorem wm_RL_93 : Cond.methodLink RL 93 yX11_bin ∈ tc_tb := tc_tb5 37 (by decide +kernel) (by decide +kernel)
theorem wm_RL_89 : Cond.methodLink RL 89 yX11_cut ∈ tc_tb := tc_tb5 29 (by decide +kernel) (by decide +kernel)
theorem wm_RL_85 : Cond.methodLink RL 85 yX11_honest ∈ tc_tb := tc_tb5 25 (by decide +kernel) (by decide +kernel)
theorem wm_RL_81 : Cond.methodLink RL 81 yX11_lure ∈ tc_tb := tc_tb5 13 (by decide +kernel) (by decide +kernel)
theorem wm_RL_77 : Cond.methodLink RL 77 yX11_rank ∈ tc_tb := tc_tb5 5 (by decide +kernel) (by decide +kernel)
theorem wm_RL_73 : Cond.methodLink RL 73 yX11_score ∈ tc_tb := tc_tb4 220 (by decide +kernel) (by decide +kernel)
theorem wm_RL_68 : Cond.methodLink RL 68 yX11_miss ∈ tc_tb := tc_tb4 212 (by decide +kernel) (by decide +kernel)
theorem wm_RL_64 : Cond.methodLink RL 64 yX11_rule ∈ tc_tb := tc_tb4 204 (by decide +kernel) (by decide +kernel)
theorem wm_RL_60 : Cond.methodLink RL 60 yX11_line ∈ tc_tb := tc_tb4 164 (by decide +kernel) (by decide +kernel)
theorem wm_RL_56 : Cond.methodLink RL 56 yX11_wipe ∈ tc_tb := tc_tb4 160 (by decide +kernel) (by decide +kernel)
theorem wm_RL_51 : Cond.methodLink RL 51 yX11_key ∈ tc_tb := tc_tb4 156 (by decide +kernel) (by decide +kernel)
theorem wm_RL_47 : Cond.methodLink RL 47 yX11_came ∈ tc_tb := tc_tb4 152 (by decide +kernel) (by decide +kernel)
theorem wm_RL_43 : Cond.methodLink RL 43 yX11_told ∈ tc_tb := tc_tb4 141 (by decide +kernel) (by decide +kernel)
theorem wm_RL_39 : Cond.methodLink RL 39 yX11_weigh ∈ tc_tb := tc_tb4 137 (by decide +kernel) (by decide +kernel)
theorem wm_RL_35 : Cond.methodLink RL 35 yX11_open ∈ tc_tb := tc_tb4 133 (by decide +kernel) (by decide +kernel)
theorem wm_RL_31 : Cond.methodLink RL 31 yX11_no ∈ tc_tb := tc_tb4 129 (by decide +kernel) (by decide +kernel)
theorem wm_RL_27 : Cond.methodLink RL 27 yX11_yes ∈ tc_tb := tc_tb4 121 (by decide +kernel) (by decide +kernel)
theorem wm_RL_22 : Cond.methodLink RL 22 yX11_drop ∈ tc_tb := tc_tb4 117 (by decide +kernel) (by decide +kernel)
theorem wm_RL_17 : Cond.methodLink RL 17 yX11_tell ∈ tc_tb := tc_tb4 104 (by decide +kernel) (by decide +kernel)
theorem wm_RL_13 : Cond.methodLink RL 13 yX10_tell ∈ tc_tb := tc_tb2 8 (by decide +kernel) (by decide +kernel)
theorem wm_RL_18 : Cond.methodLink RL 18 yX10_drop ∈ tc_tb := tc_tb2 25 (by decide +kernel) (by decide +kernel)
theorem wm_RL_23 : Cond.methodLink RL 23 yX10_yes ∈ tc_tb := tc_tb2 29 (by decide +kernel) (by decide +kernel)
theorem wm_RL_28 : Cond.methodLink RL 28 yX10_no ∈ tc_tb := tc_tb2 37 (by decide +kernel) (by decide +kernel)
theorem wm_RL_32 : Cond.methodLink RL 32 yX10_open ∈ tc_tb := tc_tb2 41 (by decide +kernel) (by decide +kernel)
theorem wm_RL_36 : Cond.methodLink RL 36 yX10_weigh ∈ tc_tb := tc_tb2 45 (by decide +kernel) (by decide +kernel)
theorem wm_RL_40 : Cond.methodLink RL 40 yX10_told ∈ tc_tb := tc_tb2 53 (by decide +kernel) (by decide +kernel)
theorem wm_RL_44 : Cond.methodLink RL 44 yX10_came ∈ tc_tb := tc_tb2 68 (by decide +kernel) (by decide +kernel)
theorem wm_RL_48 : Cond.methodLink RL 48 yX10_key ∈ tc_tb := tc_tb2 72 (by decide +kernel) (by decide +kernel)
theorem wm_RL_52 : Cond.methodLink RL 52 yX10_wipe ∈ tc_tb := tc_tb2 80 (by decide +kernel) (by decide +kernel)
theorem wm_RL_57 : Cond.methodLink RL 57 yX10_line ∈ tc_tb := tc_tb2 88 (by decide +kernel) (by decide +kernel)
theorem wm_RL_61 : Cond.methodLink RL 61 yX10_rule ∈ tc_tb := tc_tb2 187 (by decide +kernel) (by decide +kernel)
theorem wm_RL_65 : Cond.methodLink RL 65 yX10_miss ∈ tc_tb := tc_tb2 198 (by decide +kernel) (by decide +kernel)
theorem wm_RL_69 : Cond.methodLink RL 69 yX10_score ∈ tc_tb := tc_tb2 211 (by decide +kernel) (by decide +kernel)
theorem wm_RL_74 : Cond.methodLink RL 74 yX10_rank ∈ tc_tb := tc_tb3 12 (by decide +kernel) (by decide +kernel)
theorem wm_RL_78 : Cond.methodLink RL 78 yX10_lure ∈ tc_tb := tc_tb3 20 (by decide +kernel) (by decide +kernel)
theorem wm_RL_82 : Cond.methodLink RL 82 yX10_honest ∈ tc_tb := tc_tb3 32 (by decide +kernel) (by decide +kernel)
theorem wm_RL_86 : Cond.methodLink RL 86 yX10_cut ∈ tc_tb := tc_tb3 40 (by decide +kernel) (by decide +kernel)
theorem wm_RL_90 : Cond.methodLink RL 90 yX10_bin ∈ tc_tb := tc_tb3 60 (by decide +kernel) (by decide +kernel)
theorem wm_RL_94 : Cond.methodLink RL 94 yX10_split ∈ tc_tb := tc_tb3 80 (by decide +kernel) (by decide +kernel)
theorem wm_RL_99 : Cond.methodLink RL 99 yX10_joined ∈ tc_tb := tc_tb3 120 (by decide +kernel) (by decide +kernel)
theorem wm_RL_103 : Cond.methodLink RL 103 yX10_area ∈ tc_tb := tc_tb3 128 (by decide +kernel) (by decide +kernel)
theorem wm_RL_107 : Cond.methodLink RL 107 yX10_pools ∈ tc_tb := tc_tb3 140 (by decide +kernel) (by decide +kernel)
theorem wm_RL_111 : Cond.methodLink RL 111 yX10_pool ∈ tc_tb := tc_tb3 164 (by decide +kernel) (by decide +kernel)
theorem wm_RL_115 : Cond.methodLink RL 115 yX10_flat ∈ tc_tb := tc_tb3 172 (by decide +kernel) (by decide +kernel)
theorem wm_RL_119 : Cond.methodLink RL 119 yX10_better ∈ tc_tb := tc_tb3 183 (by decide +kernel) (by decide +kernel)
theorem wm_RL_123 : Cond.methodLink RL 123 yX10_luck ∈ tc_tb := tc_tb3 192 (by decide +kernel) (by decide +kernel)
theorem wm_RL_127 : Cond.methodLink RL 127 yX10_report ∈ tc_tb := tc_tb3 199 (by decide +kernel) (by decide +kernel)
theorem wm_RL_131 : Cond.methodLink RL 131 yX10_many ∈ tc_tb := tc_tb3 230 (by decide +kernel) (by decide +kernel)
theorem dL_law_0 : decode cL_law 0 = .ok (.new 7, 3) := by decide +kernel
theorem dL_law_3 : decode cL_law 3 = .ok (.dup, 1) := by decide +kernel
theorem dL_law_4 : decode cL_law 4 = .ok (.invokespecial 9, 3) := by decide +kernel
theorem dL_law_7 : decode cL_law 7 = .ok (.astore_n 1, 1) := by decide +kernel
theorem dL_law_8 : decode cL_law 8 = .ok (.new 10, 3) := by decide +kernel
theorem dL_law_11 : decode cL_law 11 = .ok (.dup, 1) := by decide +kernel
theorem dL_law_12 : decode cL_law 12 = .ok (.invokespecial 12, 3) := by decide +kernel
theorem dL_law_15 : decode cL_law 15 = .ok (.astore_n 2, 1) := by decide +kernel
theorem dL_law_16 : decode cL_law 16 = .ok (.iconst 0, 1) := by decide +kernel
theorem dL_law_17 : decode cL_law 17 = .ok (.istore_n 3, 1) := by decide +kernel
theorem dL_law_18 : decode cL_law 18 = .ok (.iload_n 3, 1) := by decide +kernel
theorem dL_law_19 : decode cL_law 19 = .ok (.aload_n 0, 1) := by decide +kernel
theorem dL_law_20 : decode cL_law 20 = .ok (.arraylength, 1) := by decide +kernel
theorem dL_law_21 : decode cL_law 21 = .ok (.iconst 4, 1) := by decide +kernel
theorem dL_law_22 : decode cL_law 22 = .ok (.isub, 1) := by decide +kernel
theorem dL_law_23 : decode cL_law 23 = .ok (.if_icmp .gt 1000, 3) := by decide +kernel
theorem dL_law_26 : decode cL_law 26 = .ok (.aload_n 0, 1) := by decide +kernel
theorem dL_law_27 : decode cL_law 27 = .ok (.iload_n 3, 1) := by decide +kernel
theorem dL_law_28 : decode cL_law 28 = .ok (.iaload, 1) := by decide +kernel
theorem dL_law_29 : decode cL_law 29 = .ok (.bipush 31, 2) := by decide +kernel
theorem dL_law_31 : decode cL_law 31 = .ok (.iand, 1) := by decide +kernel
theorem dL_law_32 : decode cL_law 32 = .ok (.tableswitch 985 0 28 #[132, 175, 208, 231, 254, 277, 310, 343, 366, 389, 402, 415, 428, 461, 495, 518, 541, 554, 577, 620, 664, 708, 742, 765, 808, 842, 885, 929, 962], 132) := by decide +kernel
theorem dL_law_164 : decode cL_law 164 = .ok (.aload_n 1, 1) := by decide +kernel
theorem dL_law_165 : decode cL_law 165 = .ok (.aload_n 0, 1) := by decide +kernel
theorem dL_law_166 : decode cL_law 166 = .ok (.iload_n 3, 1) := by decide +kernel
theorem dL_law_167 : decode cL_law 167 = .ok (.iconst 1, 1) := by decide +kernel
theorem dL_law_168 : decode cL_law 168 = .ok (.iadd, 1) := by decide +kernel
theorem dL_law_169 : decode cL_law 169 = .ok (.iaload, 1) := by decide +kernel
theorem dL_law_170 : decode cL_law 170 = .ok (.aload_n 0, 1) := by decide +kernel
theorem dL_law_171 : decode cL_law 171 = .ok (.iload_n 3, 1) := by decide +kernel
theorem dL_law_172 : decode cL_law 172 = .ok (.iconst 2, 1) := by decide +kernel
theorem dL_law_173 : decode cL_law 173 = .ok (.iadd, 1) := by decide +kernel
theorem dL_law_174 : decode cL_law 174 = .ok (.iaload, 1) := by decide +kernel
theorem dL_law_175 : decode cL_law 175 = .ok (.aload_n 0, 1) := by decide +kernel
theorem dL_law_176 : decode cL_law 176 = .ok (.iload_n 3, 1) := by decide +kernel
theorem dL_law_177 : decode cL_law 177 = .ok (.iconst 3, 1) := by decide +kernel
theorem dL_law_178 : decode cL_law 178 = .ok (.iadd, 1) := by decide +kernel
theorem dL_law_179 : decode cL_law 179 = .ok (.iaload, 1) := by decide +kernel
theorem dL_law_180 : decode cL_law 180 = .ok (.invokevirtual 13, 3) := by decide +kernel
theorem dL_law_183 : decode cL_law 183 = .ok (.aload_n 2, 1) := by decide +kernel
theorem dL_law_184 : decode cL_law 184 = .ok (.aload_n 0, 1) := by decide +kernel
theorem dL_law_185 : decode cL_law 185 = .ok (.iload_n 3, 1) := by decide +kernel
theorem dL_law_186 : decode cL_law 186 = .ok (.iconst 1, 1) := by decide +kernel
theorem dL_law_187 : decode cL_law 187 = .ok (.iadd, 1) := by decide +kernel
theorem dL_law_188 : decode cL_law 188 = .ok (.iaload, 1) := by decide +kernel
theorem dL_law_189 : decode cL_law 189 = .ok (.aload_n 0, 1) := by decide +kernel
theorem dL_law_190 : decode cL_law 190 = .ok (.iload_n 3, 1) := by decide +kernel
theorem dL_law_191 : decode cL_law 191 = .ok (.iconst 2, 1) := by decide +kernel
theorem dL_law_192 : decode cL_law 192 = .ok (.iadd, 1) := by decide +kernel
theorem dL_law_193 : decode cL_law 193 = .ok (.iaload, 1) := by decide +kernel
theorem dL_law_194 : decode cL_law 194 = .ok (.aload_n 0, 1) := by decide +kernel
theorem dL_law_195 : decode cL_law 195 = .ok (.iload_n 3, 1) := by decide +kernel
theorem dL_law_196 : decode cL_law 196 = .ok (.iconst 3, 1) := by decide +kernel
theorem dL_law_197 : decode cL_law 197 = .ok (.iadd, 1) := by decide +kernel
theorem dL_law_198 : decode cL_law 198 = .ok (.iaload, 1) := by decide +kernel
theorem dL_law_199 : decode cL_law 199 = .ok (.invokevirtual 17, 3) := by decide +kernel
theorem dL_law_202 : decode cL_law 202 = .ok (.if_icmp .eq 815, 3) := by decide +kernel
theorem dL_law_205 : decode cL_law 205 = .ok (.iconst 0, 1) := by decide +kernel
theorem dL_law_206 : decode cL_law 206 = .ok (.ireturn, 1) := by decide +kernel
theorem dL_law_207 : decode cL_law 207 = .ok (.aload_n 1, 1) := by decide +kernel
theorem dL_law_208 : decode cL_law 208 = .ok (.aload_n 0, 1) := by decide +kernel
theorem dL_law_209 : decode cL_law 209 = .ok (.iload_n 3, 1) := by decide +kernel
theorem dL_law_210 : decode cL_law 210 = .ok (.iconst 1, 1) := by decide +kernel
theorem dL_law_211 : decode cL_law 211 = .ok (.iadd, 1) := by decide +kernel
theorem dL_law_212 : decode cL_law 212 = .ok (.iaload, 1) := by decide +kernel
theorem dL_law_213 : decode cL_law 213 = .ok (.aload_n 0, 1) := by decide +kernel
theorem dL_law_214 : decode cL_law 214 = .ok (.iload_n 3, 1) := by decide +kernel
theorem dL_law_215 : decode cL_law 215 = .ok (.iconst 2, 1) := by decide +kernel
theorem dL_law_216 : decode cL_law 216 = .ok (.iadd, 1) := by decide +kernel
theorem dL_law_217 : decode cL_law 217 = .ok (.iaload, 1) := by decide +kernel
theorem dL_law_218 : decode cL_law 218 = .ok (.invokevirtual 18, 3) := by decide +kernel
theorem dL_law_221 : decode cL_law 221 = .ok (.aload_n 2, 1) := by decide +kernel
theorem dL_law_222 : decode cL_law 222 = .ok (.aload_n 0, 1) := by decide +kernel
theorem dL_law_223 : decode cL_law 223 = .ok (.iload_n 3, 1) := by decide +kernel
theorem dL_law_224 : decode cL_law 224 = .ok (.iconst 1, 1) := by decide +kernel
theorem dL_law_225 : decode cL_law 225 = .ok (.iadd, 1) := by decide +kernel
theorem dL_law_226 : decode cL_law 226 = .ok (.iaload, 1) := by decide +kernel
theorem dL_law_227 : decode cL_law 227 = .ok (.aload_n 0, 1) := by decide +kernel
theorem dL_law_228 : decode cL_law 228 = .ok (.iload_n 3, 1) := by decide +kernel
theorem dL_law_229 : decode cL_law 229 = .ok (.iconst 2, 1) := by decide +kernel
theorem dL_law_230 : decode cL_law 230 = .ok (.iadd, 1) := by decide +kernel
theorem dL_law_231 : decode cL_law 231 = .ok (.iaload, 1) := by decide +kernel
theorem dL_law_232 : decode cL_law 232 = .ok (.invokevirtual 22, 3) := by decide +kernel
theorem dL_law_235 : decode cL_law 235 = .ok (.if_icmp .eq 782, 3) := by decide +kernel
theorem dL_law_238 : decode cL_law 238 = .ok (.iconst 0, 1) := by decide +kernel
theorem dL_law_239 : decode cL_law 239 = .ok (.ireturn, 1) := by decide +kernel
theorem dL_law_240 : decode cL_law 240 = .ok (.aload_n 1, 1) := by decide +kernel
theorem dL_law_241 : decode cL_law 241 = .ok (.aload_n 0, 1) := by decide +kernel
theorem dL_law_242 : decode cL_law 242 = .ok (.iload_n 3, 1) := by decide +kernel
theorem dL_law_243 : decode cL_law 243 = .ok (.iconst 1, 1) := by decide +kernel
theorem dL_law_244 : decode cL_law 244 = .ok (.iadd, 1) := by decide +kernel
theorem dL_law_245 : decode cL_law 245 = .ok (.iaload, 1) := by decide +kernel
theorem dL_law_246 : decode cL_law 246 = .ok (.invokevirtual 23, 3) := by decide +kernel
theorem dL_law_249 : decode cL_law 249 = .ok (.aload_n 2, 1) := by decide +kernel
theorem dL_law_250 : decode cL_law 250 = .ok (.aload_n 0, 1) := by decide +kernel
theorem dL_law_251 : decode cL_law 251 = .ok (.iload_n 3, 1) := by decide +kernel
theorem dL_law_252 : decode cL_law 252 = .ok (.iconst 1, 1) := by decide +kernel
theorem dL_law_253 : decode cL_law 253 = .ok (.iadd, 1) := by decide +kernel
theorem dL_law_254 : decode cL_law 254 = .ok (.iaload, 1) := by decide +kernel
theorem dL_law_255 : decode cL_law 255 = .ok (.invokevirtual 27, 3) := by decide +kernel
theorem dL_law_258 : decode cL_law 258 = .ok (.if_icmp .eq 759, 3) := by decide +kernel
theorem dL_law_261 : decode cL_law 261 = .ok (.iconst 0, 1) := by decide +kernel
theorem dL_law_262 : decode cL_law 262 = .ok (.ireturn, 1) := by decide +kernel
theorem dL_law_263 : decode cL_law 263 = .ok (.aload_n 1, 1) := by decide +kernel
theorem dL_law_264 : decode cL_law 264 = .ok (.aload_n 0, 1) := by decide +kernel
theorem dL_law_265 : decode cL_law 265 = .ok (.iload_n 3, 1) := by decide +kernel
theorem dL_law_266 : decode cL_law 266 = .ok (.iconst 1, 1) := by decide +kernel
theorem dL_law_267 : decode cL_law 267 = .ok (.iadd, 1) := by decide +kernel
theorem dL_law_268 : decode cL_law 268 = .ok (.iaload, 1) := by decide +kernel
theorem dL_law_269 : decode cL_law 269 = .ok (.invokevirtual 28, 3) := by decide +kernel
theorem dL_law_272 : decode cL_law 272 = .ok (.aload_n 2, 1) := by decide +kernel
theorem dL_law_273 : decode cL_law 273 = .ok (.aload_n 0, 1) := by decide +kernel
theorem dL_law_274 : decode cL_law 274 = .ok (.iload_n 3, 1) := by decide +kernel
theorem dL_law_275 : decode cL_law 275 = .ok (.iconst 1, 1) := by decide +kernel
theorem dL_law_276 : decode cL_law 276 = .ok (.iadd, 1) := by decide +kernel
theorem dL_law_277 : decode cL_law 277 = .ok (.iaload, 1) := by decide +kernel
theorem dL_law_278 : decode cL_law 278 = .ok (.invokevirtual 31, 3) := by decide +kernel
theorem dL_law_281 : decode cL_law 281 = .ok (.if_icmp .eq 736, 3) := by decide +kernel
theorem dL_law_284 : decode cL_law 284 = .ok (.iconst 0, 1) := by decide +kernel
theorem dL_law_285 : decode cL_law 285 = .ok (.ireturn, 1) := by decide +kernel
theorem dL_law_286 : decode cL_law 286 = .ok (.aload_n 1, 1) := by decide +kernel
theorem dL_law_287 : decode cL_law 287 = .ok (.aload_n 0, 1) := by decide +kernel
theorem dL_law_288 : decode cL_law 288 = .ok (.iload_n 3, 1) := by decide +kernel
theorem dL_law_289 : decode cL_law 289 = .ok (.iconst 1, 1) := by decide +kernel
theorem dL_law_290 : decode cL_law 290 = .ok (.iadd, 1) := by decide +kernel
theorem dL_law_291 : decode cL_law 291 = .ok (.iaload, 1) := by decide +kernel
theorem dL_law_292 : decode cL_law 292 = .ok (.invokevirtual 32, 3) := by decide +kernel
theorem dL_law_295 : decode cL_law 295 = .ok (.aload_n 2, 1) := by decide +kernel
theorem dL_law_296 : decode cL_law 296 = .ok (.aload_n 0, 1) := by decide +kernel
theorem dL_law_297 : decode cL_law 297 = .ok (.iload_n 3, 1) := by decide +kernel
theorem dL_law_298 : decode cL_law 298 = .ok (.iconst 1, 1) := by decide +kernel
theorem dL_law_299 : decode cL_law 299 = .ok (.iadd, 1) := by decide +kernel
theorem dL_law_300 : decode cL_law 300 = .ok (.iaload, 1) := by decide +kernel
theorem dL_law_301 : decode cL_law 301 = .ok (.invokevirtual 35, 3) := by decide +kernel
theorem dL_law_304 : decode cL_law 304 = .ok (.if_icmp .eq 713, 3) := by decide +kernel
theorem dL_law_307 : decode cL_law 307 = .ok (.iconst 0, 1) := by decide +kernel
theorem dL_law_308 : decode cL_law 308 = .ok (.ireturn, 1) := by decide +kernel
theorem dL_law_309 : decode cL_law 309 = .ok (.aload_n 1, 1) := by decide +kernel
theorem dL_law_310 : decode cL_law 310 = .ok (.aload_n 0, 1) := by decide +kernel
theorem dL_law_311 : decode cL_law 311 = .ok (.iload_n 3, 1) := by decide +kernel
theorem dL_law_312 : decode cL_law 312 = .ok (.iconst 1, 1) := by decide +kernel
theorem dL_law_313 : decode cL_law 313 = .ok (.iadd, 1) := by decide +kernel
theorem dL_law_314 : decode cL_law 314 = .ok (.iaload, 1) := by decide +kernel
theorem dL_law_315 : decode cL_law 315 = .ok (.aload_n 0, 1) := by decide +kernel
theorem dL_law_316 : decode cL_law 316 = .ok (.iload_n 3, 1) := by decide +kernel
theorem dL_law_317 : decode cL_law 317 = .ok (.iconst 2, 1) := by decide +kernel
theorem dL_law_318 : decode cL_law 318 = .ok (.iadd, 1) := by decide +kernel
theorem dL_law_319 : decode cL_law 319 = .ok (.iaload, 1) := by decide +kernel
theorem dL_law_320 : decode cL_law 320 = .ok (.invokevirtual 36, 3) := by decide +kernel
theorem dL_law_323 : decode cL_law 323 = .ok (.aload_n 2, 1) := by decide +kernel
theorem dL_law_324 : decode cL_law 324 = .ok (.aload_n 0, 1) := by decide +kernel
theorem dL_law_325 : decode cL_law 325 = .ok (.iload_n 3, 1) := by decide +kernel
theorem dL_law_326 : decode cL_law 326 = .ok (.iconst 1, 1) := by decide +kernel
theorem dL_law_327 : decode cL_law 327 = .ok (.iadd, 1) := by decide +kernel
theorem dL_law_328 : decode cL_law 328 = .ok (.iaload, 1) := by decide +kernel
theorem dL_law_329 : decode cL_law 329 = .ok (.aload_n 0, 1) := by decide +kernel
theorem dL_law_330 : decode cL_law 330 = .ok (.iload_n 3, 1) := by decide +kernel
theorem dL_law_331 : decode cL_law 331 = .ok (.iconst 2, 1) := by decide +kernel
theorem dL_law_332 : decode cL_law 332 = .ok (.iadd, 1) := by decide +kernel
theorem dL_law_333 : decode cL_law 333 = .ok (.iaload, 1) := by decide +kernel
theorem dL_law_334 : decode cL_law 334 = .ok (.invokevirtual 39, 3) := by decide +kernel
theorem dL_law_337 : decode cL_law 337 = .ok (.if_icmp .eq 680, 3) := by decide +kernel
theorem dL_law_340 : decode cL_law 340 = .ok (.iconst 0, 1) := by decide +kernel
theorem dL_law_341 : decode cL_law 341 = .ok (.ireturn, 1) := by decide +kernel
theorem dL_law_342 : decode cL_law 342 = .ok (.aload_n 1, 1) := by decide +kernel
theorem dL_law_343 : decode cL_law 343 = .ok (.aload_n 0, 1) := by decide +kernel
theorem dL_law_344 : decode cL_law 344 = .ok (.iload_n 3, 1) := by decide +kernel
theorem dL_law_345 : decode cL_law 345 = .ok (.iconst 1, 1) := by decide +kernel
theorem dL_law_346 : decode cL_law 346 = .ok (.iadd, 1) := by decide +kernel
theorem dL_law_347 : decode cL_law 347 = .ok (.iaload, 1) := by decide +kernel
theorem dL_law_348 : decode cL_law 348 = .ok (.aload_n 0, 1) := by decide +kernel
theorem dL_law_349 : decode cL_law 349 = .ok (.iload_n 3, 1) := by decide +kernel
theorem dL_law_350 : decode cL_law 350 = .ok (.iconst 2, 1) := by decide +kernel
theorem dL_law_351 : decode cL_law 351 = .ok (.iadd, 1) := by decide +kernel
theorem dL_law_352 : decode cL_law 352 = .ok (.iaload, 1) := by decide +kernel
theorem dL_law_353 : decode cL_law 353 = .ok (.invokevirtual 40, 3) := by decide +kernel
theorem dL_law_356 : decode cL_law 356 = .ok (.aload_n 2, 1) := by decide +kernel
theorem dL_law_357 : decode cL_law 357 = .ok (.aload_n 0, 1) := by decide +kernel
theorem dL_law_358 : decode cL_law 358 = .ok (.iload_n 3, 1) := by decide +kernel
theorem dL_law_359 : decode cL_law 359 = .ok (.iconst 1, 1) := by decide +kernel
theorem dL_law_360 : decode cL_law 360 = .ok (.iadd, 1) := by decide +kernel
theorem dL_law_361 : decode cL_law 361 = .ok (.iaload, 1) := by decide +kernel
theorem dL_law_362 : decode cL_law 362 = .ok (.aload_n 0, 1) := by decide +kernel
theorem dL_law_363 : decode cL_law 363 = .ok (.iload_n 3, 1) := by decide +kernel
theorem dL_law_364 : decode cL_law 364 = .ok (.iconst 2, 1) := by decide +kernel
theorem dL_law_365 : decode cL_law 365 = .ok (.iadd, 1) := by decide +kernel
theorem dL_law_366 : decode cL_law 366 = .ok (.iaload, 1) := by decide +kernel
theorem dL_law_367 : decode cL_law 367 = .ok (.invokevirtual 43, 3) := by decide +kernel
theorem dL_law_370 : decode cL_law 370 = .ok (.if_icmp .eq 647, 3) := by decide +kernel
theorem dL_law_373 : decode cL_law 373 = .ok (.iconst 0, 1) := by decide +kernel
theorem dL_law_374 : decode cL_law 374 = .ok (.ireturn, 1) := by decide +kernel
theorem dL_law_375 : decode cL_law 375 = .ok (.aload_n 1, 1) := by decide +kernel
theorem dL_law_376 : decode cL_law 376 = .ok (.aload_n 0, 1) := by decide +kernel
theorem dL_law_377 : decode cL_law 377 = .ok (.iload_n 3, 1) := by decide +kernel
theorem dL_law_378 : decode cL_law 378 = .ok (.iconst 1, 1) := by decide +kernel
theorem dL_law_379 : decode cL_law 379 = .ok (.iadd, 1) := by decide +kernel
theorem dL_law_380 : decode cL_law 380 = .ok (.iaload, 1) := by decide +kernel
theorem dL_law_381 : decode cL_law 381 = .ok (.invokevirtual 44, 3) := by decide +kernel
theorem dL_law_384 : decode cL_law 384 = .ok (.aload_n 2, 1) := by decide +kernel
theorem dL_law_385 : decode cL_law 385 = .ok (.aload_n 0, 1) := by decide +kernel
theorem dL_law_386 : decode cL_law 386 = .ok (.iload_n 3, 1) := by decide +kernel
theorem dL_law_387 : decode cL_law 387 = .ok (.iconst 1, 1) := by decide +kernel
theorem dL_law_388 : decode cL_law 388 = .ok (.iadd, 1) := by decide +kernel
theorem dL_law_389 : decode cL_law 389 = .ok (.iaload, 1) := by decide +kernel
theorem dL_law_390 : decode cL_law 390 = .ok (.invokevirtual 47, 3) := by decide +kernel
theorem dL_law_393 : decode cL_law 393 = .ok (.if_icmp .eq 624, 3) := by decide +kernel
theorem dL_law_396 : decode cL_law 396 = .ok (.iconst 0, 1) := by decide +kernel
theorem dL_law_397 : decode cL_law 397 = .ok (.ireturn, 1) := by decide +kernel
theorem dL_law_398 : decode cL_law 398 = .ok (.aload_n 1, 1) := by decide +kernel
theorem dL_law_399 : decode cL_law 399 = .ok (.aload_n 0, 1) := by decide +kernel
theorem dL_law_400 : decode cL_law 400 = .ok (.iload_n 3, 1) := by decide +kernel
theorem dL_law_401 : decode cL_law 401 = .ok (.iconst 1, 1) := by decide +kernel
theorem dL_law_402 : decode cL_law 402 = .ok (.iadd, 1) := by decide +kernel
theorem dL_law_403 : decode cL_law 403 = .ok (.iaload, 1) := by decide +kernel
theorem dL_law_404 : decode cL_law 404 = .ok (.invokevirtual 48, 3) := by decide +kernel
theorem dL_law_407 : decode cL_law 407 = .ok (.aload_n 2, 1) := by decide +kernel
theorem dL_law_408 : decode cL_law 408 = .ok (.aload_n 0, 1) := by decide +kernel
theorem dL_law_409 : decode cL_law 409 = .ok (.iload_n 3, 1) := by decide +kernel
theorem dL_law_410 : decode cL_law 410 = .ok (.iconst 1, 1) := by decide +kernel
theorem dL_law_411 : decode cL_law 411 = .ok (.iadd, 1) := by decide +kernel
theorem dL_law_412 : decode cL_law 412 = .ok (.iaload, 1) := by decide +kernel
theorem dL_law_413 : decode cL_law 413 = .ok (.invokevirtual 51, 3) := by decide +kernel
theorem dL_law_416 : decode cL_law 416 = .ok (.if_icmp .eq 601, 3) := by decide +kernel
theorem dL_law_419 : decode cL_law 419 = .ok (.iconst 0, 1) := by decide +kernel
theorem dL_law_420 : decode cL_law 420 = .ok (.ireturn, 1) := by decide +kernel
theorem dL_law_421 : decode cL_law 421 = .ok (.aload_n 1, 1) := by decide +kernel
theorem dL_law_422 : decode cL_law 422 = .ok (.invokevirtual 52, 3) := by decide +kernel
theorem dL_law_425 : decode cL_law 425 = .ok (.aload_n 2, 1) := by decide +kernel
theorem dL_law_426 : decode cL_law 426 = .ok (.invokevirtual 56, 3) := by decide +kernel
theorem dL_law_429 : decode cL_law 429 = .ok (.if_icmp .eq 588, 3) := by decide +kernel
theorem dL_law_432 : decode cL_law 432 = .ok (.iconst 0, 1) := by decide +kernel
theorem dL_law_433 : decode cL_law 433 = .ok (.ireturn, 1) := by decide +kernel
theorem dL_law_434 : decode cL_law 434 = .ok (.aload_n 1, 1) := by decide +kernel
theorem dL_law_435 : decode cL_law 435 = .ok (.invokevirtual 57, 3) := by decide +kernel
theorem dL_law_438 : decode cL_law 438 = .ok (.aload_n 2, 1) := by decide +kernel
theorem dL_law_439 : decode cL_law 439 = .ok (.invokevirtual 60, 3) := by decide +kernel
theorem dL_law_442 : decode cL_law 442 = .ok (.if_icmp .eq 575, 3) := by decide +kernel
theorem dL_law_445 : decode cL_law 445 = .ok (.iconst 0, 1) := by decide +kernel
theorem dL_law_446 : decode cL_law 446 = .ok (.ireturn, 1) := by decide +kernel
theorem dL_law_447 : decode cL_law 447 = .ok (.aload_n 1, 1) := by decide +kernel
theorem dL_law_448 : decode cL_law 448 = .ok (.invokevirtual 61, 3) := by decide +kernel
theorem dL_law_451 : decode cL_law 451 = .ok (.aload_n 2, 1) := by decide +kernel
theorem dL_law_452 : decode cL_law 452 = .ok (.invokevirtual 64, 3) := by decide +kernel
theorem dL_law_455 : decode cL_law 455 = .ok (.if_icmp .eq 562, 3) := by decide +kernel
theorem dL_law_458 : decode cL_law 458 = .ok (.iconst 0, 1) := by decide +kernel
theorem dL_law_459 : decode cL_law 459 = .ok (.ireturn, 1) := by decide +kernel
theorem dL_law_460 : decode cL_law 460 = .ok (.aload_n 1, 1) := by decide +kernel
theorem dL_law_461 : decode cL_law 461 = .ok (.aload_n 0, 1) := by decide +kernel
theorem dL_law_462 : decode cL_law 462 = .ok (.iload_n 3, 1) := by decide +kernel
theorem dL_law_463 : decode cL_law 463 = .ok (.iconst 1, 1) := by decide +kernel
theorem dL_law_464 : decode cL_law 464 = .ok (.iadd, 1) := by decide +kernel
theorem dL_law_465 : decode cL_law 465 = .ok (.iaload, 1) := by decide +kernel
theorem dL_law_466 : decode cL_law 466 = .ok (.aload_n 0, 1) := by decide +kernel
theorem dL_law_467 : decode cL_law 467 = .ok (.iload_n 3, 1) := by decide +kernel
theorem dL_law_468 : decode cL_law 468 = .ok (.iconst 2, 1) := by decide +kernel
theorem dL_law_469 : decode cL_law 469 = .ok (.iadd, 1) := by decide +kernel
theorem dL_law_470 : decode cL_law 470 = .ok (.iaload, 1) := by decide +kernel
theorem dL_law_471 : decode cL_law 471 = .ok (.invokevirtual 65, 3) := by decide +kernel
theorem dL_law_474 : decode cL_law 474 = .ok (.aload_n 2, 1) := by decide +kernel
theorem dL_law_475 : decode cL_law 475 = .ok (.aload_n 0, 1) := by decide +kernel
theorem dL_law_476 : decode cL_law 476 = .ok (.iload_n 3, 1) := by decide +kernel
theorem dL_law_477 : decode cL_law 477 = .ok (.iconst 1, 1) := by decide +kernel
theorem dL_law_478 : decode cL_law 478 = .ok (.iadd, 1) := by decide +kernel
theorem dL_law_479 : decode cL_law 479 = .ok (.iaload, 1) := by decide +kernel
theorem dL_law_480 : decode cL_law 480 = .ok (.aload_n 0, 1) := by decide +kernel
theorem dL_law_481 : decode cL_law 481 = .ok (.iload_n 3, 1) := by decide +kernel
theorem dL_law_482 : decode cL_law 482 = .ok (.iconst 2, 1) := by decide +kernel
theorem dL_law_483 : decode cL_law 483 = .ok (.iadd, 1) := by decide +kernel
theorem dL_law_484 : decode cL_law 484 = .ok (.iaload, 1) := by decide +kernel
theorem dL_law_485 : decode cL_law 485 = .ok (.invokevirtual 68, 3) := by decide +kernel
theorem dL_law_488 : decode cL_law 488 = .ok (.if_icmp .eq 529, 3) := by decide +kernel
theorem dL_law_491 : decode cL_law 491 = .ok (.iconst 0, 1) := by decide +kernel
theorem dL_law_492 : decode cL_law 492 = .ok (.ireturn, 1) := by decide +kernel
theorem dL_law_493 : decode cL_law 493 = .ok (.aload_n 1, 1) := by decide +kernel
theorem dL_law_494 : decode cL_law 494 = .ok (.aload_n 0, 1) := by decide +kernel
theorem dL_law_495 : decode cL_law 495 = .ok (.iload_n 3, 1) := by decide +kernel
theorem dL_law_496 : decode cL_law 496 = .ok (.iconst 1, 1) := by decide +kernel
theorem dL_law_497 : decode cL_law 497 = .ok (.iadd, 1) := by decide +kernel
theorem dL_law_498 : decode cL_law 498 = .ok (.iaload, 1) := by decide +kernel
theorem dL_law_499 : decode cL_law 499 = .ok (.aload_n 0, 1) := by decide +kernel
theorem dL_law_500 : decode cL_law 500 = .ok (.iload_n 3, 1) := by decide +kernel
theorem dL_law_501 : decode cL_law 501 = .ok (.iconst 2, 1) := by decide +kernel
theorem dL_law_502 : decode cL_law 502 = .ok (.iadd, 1) := by decide +kernel
theorem dL_law_503 : decode cL_law 503 = .ok (.iaload, 1) := by decide +kernel
theorem dL_law_504 : decode cL_law 504 = .ok (.invokevirtual 69, 3) := by decide +kernel
theorem dL_law_507 : decode cL_law 507 = .ok (.aload_n 2, 1) := by decide +kernel
theorem dL_law_508 : decode cL_law 508 = .ok (.aload_n 0, 1) := by decide +kernel
theorem dL_law_509 : decode cL_law 509 = .ok (.iload_n 3, 1) := by decide +kernel
theorem dL_law_510 : decode cL_law 510 = .ok (.iconst 1, 1) := by decide +kernel
theorem dL_law_511 : decode cL_law 511 = .ok (.iadd, 1) := by decide +kernel
theorem dL_law_512 : decode cL_law 512 = .ok (.iaload, 1) := by decide +kernel
theorem dL_law_513 : decode cL_law 513 = .ok (.aload_n 0, 1) := by decide +kernel
theorem dL_law_514 : decode cL_law 514 = .ok (.iload_n 3, 1) := by decide +kernel
theorem dL_law_515 : decode cL_law 515 = .ok (.iconst 2, 1) := by decide +kernel
theorem dL_law_516 : decode cL_law 516 = .ok (.iadd, 1) := by decide +kernel
theorem dL_law_517 : decode cL_law 517 = .ok (.iaload, 1) := by decide +kernel
theorem dL_law_518 : decode cL_law 518 = .ok (.invokevirtual 73, 3) := by decide +kernel
theorem dL_law_521 : decode cL_law 521 = .ok (.lcmp, 1) := by decide +kernel
theorem dL_law_522 : decode cL_law 522 = .ok (.ifCond .eq 495, 3) := by decide +kernel
theorem dL_law_525 : decode cL_law 525 = .ok (.iconst 0, 1) := by decide +kernel
theorem dL_law_526 : decode cL_law 526 = .ok (.ireturn, 1) := by decide +kernel
theorem dL_law_527 : decode cL_law 527 = .ok (.aload_n 1, 1) := by decide +kernel
theorem dL_law_528 : decode cL_law 528 = .ok (.aload_n 0, 1) := by decide +kernel
theorem dL_law_529 : decode cL_law 529 = .ok (.iload_n 3, 1) := by decide +kernel
theorem dL_law_530 : decode cL_law 530 = .ok (.iconst 1, 1) := by decide +kernel
theorem dL_law_531 : decode cL_law 531 = .ok (.iadd, 1) := by decide +kernel
theorem dL_law_532 : decode cL_law 532 = .ok (.iaload, 1) := by decide +kernel
theorem dL_law_533 : decode cL_law 533 = .ok (.invokevirtual 74, 3) := by decide +kernel
theorem dL_law_536 : decode cL_law 536 = .ok (.aload_n 2, 1) := by decide +kernel
theorem dL_law_537 : decode cL_law 537 = .ok (.aload_n 0, 1) := by decide +kernel
theorem dL_law_538 : decode cL_law 538 = .ok (.iload_n 3, 1) := by decide +kernel
theorem dL_law_539 : decode cL_law 539 = .ok (.iconst 1, 1) := by decide +kernel
theorem dL_law_540 : decode cL_law 540 = .ok (.iadd, 1) := by decide +kernel
theorem dL_law_541 : decode cL_law 541 = .ok (.iaload, 1) := by decide +kernel
theorem dL_law_542 : decode cL_law 542 = .ok (.invokevirtual 77, 3) := by decide +kernel
theorem dL_law_545 : decode cL_law 545 = .ok (.if_icmp .eq 472, 3) := by decide +kernel
theorem dL_law_548 : decode cL_law 548 = .ok (.iconst 0, 1) := by decide +kernel
theorem dL_law_549 : decode cL_law 549 = .ok (.ireturn, 1) := by decide +kernel
theorem dL_law_550 : decode cL_law 550 = .ok (.aload_n 1, 1) := by decide +kernel
theorem dL_law_551 : decode cL_law 551 = .ok (.aload_n 0, 1) := by decide +kernel
theorem dL_law_552 : decode cL_law 552 = .ok (.iload_n 3, 1) := by decide +kernel
theorem dL_law_553 : decode cL_law 553 = .ok (.iconst 1, 1) := by decide +kernel
theorem dL_law_554 : decode cL_law 554 = .ok (.iadd, 1) := by decide +kernel
theorem dL_law_555 : decode cL_law 555 = .ok (.iaload, 1) := by decide +kernel
theorem dL_law_556 : decode cL_law 556 = .ok (.invokevirtual 78, 3) := by decide +kernel
theorem dL_law_559 : decode cL_law 559 = .ok (.aload_n 2, 1) := by decide +kernel
theorem dL_law_560 : decode cL_law 560 = .ok (.aload_n 0, 1) := by decide +kernel
theorem dL_law_561 : decode cL_law 561 = .ok (.iload_n 3, 1) := by decide +kernel
theorem dL_law_562 : decode cL_law 562 = .ok (.iconst 1, 1) := by decide +kernel
theorem dL_law_563 : decode cL_law 563 = .ok (.iadd, 1) := by decide +kernel
theorem dL_law_564 : decode cL_law 564 = .ok (.iaload, 1) := by decide +kernel
theorem dL_law_565 : decode cL_law 565 = .ok (.invokevirtual 81, 3) := by decide +kernel
theorem dL_law_568 : decode cL_law 568 = .ok (.if_icmp .eq 449, 3) := by decide +kernel
theorem dL_law_571 : decode cL_law 571 = .ok (.iconst 0, 1) := by decide +kernel
theorem dL_law_572 : decode cL_law 572 = .ok (.ireturn, 1) := by decide +kernel
theorem dL_law_573 : decode cL_law 573 = .ok (.aload_n 1, 1) := by decide +kernel
theorem dL_law_574 : decode cL_law 574 = .ok (.invokevirtual 82, 3) := by decide +kernel
theorem dL_law_577 : decode cL_law 577 = .ok (.aload_n 2, 1) := by decide +kernel
theorem dL_law_578 : decode cL_law 578 = .ok (.invokevirtual 85, 3) := by decide +kernel
theorem dL_law_581 : decode cL_law 581 = .ok (.if_icmp .eq 436, 3) := by decide +kernel
theorem dL_law_584 : decode cL_law 584 = .ok (.iconst 0, 1) := by decide +kernel
theorem dL_law_585 : decode cL_law 585 = .ok (.ireturn, 1) := by decide +kernel
theorem dL_law_586 : decode cL_law 586 = .ok (.aload_n 1, 1) := by decide +kernel
theorem dL_law_587 : decode cL_law 587 = .ok (.aload_n 0, 1) := by decide +kernel
theorem dL_law_588 : decode cL_law 588 = .ok (.iload_n 3, 1) := by decide +kernel
theorem dL_law_589 : decode cL_law 589 = .ok (.iconst 1, 1) := by decide +kernel
theorem dL_law_590 : decode cL_law 590 = .ok (.iadd, 1) := by decide +kernel
theorem dL_law_591 : decode cL_law 591 = .ok (.iaload, 1) := by decide +kernel
theorem dL_law_592 : decode cL_law 592 = .ok (.invokevirtual 86, 3) := by decide +kernel
theorem dL_law_595 : decode cL_law 595 = .ok (.aload_n 2, 1) := by decide +kernel
theorem dL_law_596 : decode cL_law 596 = .ok (.aload_n 0, 1) := by decide +kernel
theorem dL_law_597 : decode cL_law 597 = .ok (.iload_n 3, 1) := by decide +kernel
theorem dL_law_598 : decode cL_law 598 = .ok (.iconst 1, 1) := by decide +kernel
theorem dL_law_599 : decode cL_law 599 = .ok (.iadd, 1) := by decide +kernel
theorem dL_law_600 : decode cL_law 600 = .ok (.iaload, 1) := by decide +kernel
theorem dL_law_601 : decode cL_law 601 = .ok (.invokevirtual 89, 3) := by decide +kernel
theorem dL_law_604 : decode cL_law 604 = .ok (.if_icmp .eq 413, 3) := by decide +kernel
theorem dL_law_607 : decode cL_law 607 = .ok (.iconst 0, 1) := by decide +kernel
theorem dL_law_608 : decode cL_law 608 = .ok (.ireturn, 1) := by decide +kernel
theorem dL_law_609 : decode cL_law 609 = .ok (.aload_n 1, 1) := by decide +kernel
theorem dL_law_610 : decode cL_law 610 = .ok (.aload_n 0, 1) := by decide +kernel
theorem dL_law_611 : decode cL_law 611 = .ok (.iload_n 3, 1) := by decide +kernel
theorem dL_law_612 : decode cL_law 612 = .ok (.iconst 1, 1) := by decide +kernel
theorem dL_law_613 : decode cL_law 613 = .ok (.iadd, 1) := by decide +kernel
theorem dL_law_614 : decode cL_law 614 = .ok (.iaload, 1) := by decide +kernel
theorem dL_law_615 : decode cL_law 615 = .ok (.aload_n 0, 1) := by decide +kernel
theorem dL_law_616 : decode cL_law 616 = .ok (.iload_n 3, 1) := by decide +kernel
theorem dL_law_617 : decode cL_law 617 = .ok (.iconst 2, 1) := by decide +kernel
theorem dL_law_618 : decode cL_law 618 = .ok (.iadd, 1) := by decide +kernel
theorem dL_law_619 : decode cL_law 619 = .ok (.iaload, 1) := by decide +kernel
theorem dL_law_620 : decode cL_law 620 = .ok (.aload_n 0, 1) := by decide +kernel
theorem dL_law_621 : decode cL_law 621 = .ok (.iload_n 3, 1) := by decide +kernel
theorem dL_law_622 : decode cL_law 622 = .ok (.iconst 3, 1) := by decide +kernel
theorem dL_law_623 : decode cL_law 623 = .ok (.iadd, 1) := by decide +kernel
theorem dL_law_624 : decode cL_law 624 = .ok (.iaload, 1) := by decide +kernel
theorem dL_law_625 : decode cL_law 625 = .ok (.invokevirtual 90, 3) := by decide +kernel
theorem dL_law_628 : decode cL_law 628 = .ok (.aload_n 2, 1) := by decide +kernel
theorem dL_law_629 : decode cL_law 629 = .ok (.aload_n 0, 1) := by decide +kernel
theorem dL_law_630 : decode cL_law 630 = .ok (.iload_n 3, 1) := by decide +kernel
theorem dL_law_631 : decode cL_law 631 = .ok (.iconst 1, 1) := by decide +kernel
theorem dL_law_632 : decode cL_law 632 = .ok (.iadd, 1) := by decide +kernel
theorem dL_law_633 : decode cL_law 633 = .ok (.iaload, 1) := by decide +kernel
theorem dL_law_634 : decode cL_law 634 = .ok (.aload_n 0, 1) := by decide +kernel
theorem dL_law_635 : decode cL_law 635 = .ok (.iload_n 3, 1) := by decide +kernel
theorem dL_law_636 : decode cL_law 636 = .ok (.iconst 2, 1) := by decide +kernel
theorem dL_law_637 : decode cL_law 637 = .ok (.iadd, 1) := by decide +kernel
theorem dL_law_638 : decode cL_law 638 = .ok (.iaload, 1) := by decide +kernel
theorem dL_law_639 : decode cL_law 639 = .ok (.aload_n 0, 1) := by decide +kernel
theorem dL_law_640 : decode cL_law 640 = .ok (.iload_n 3, 1) := by decide +kernel
theorem dL_law_641 : decode cL_law 641 = .ok (.iconst 3, 1) := by decide +kernel
theorem dL_law_642 : decode cL_law 642 = .ok (.iadd, 1) := by decide +kernel
theorem dL_law_643 : decode cL_law 643 = .ok (.iaload, 1) := by decide +kernel
theorem dL_law_644 : decode cL_law 644 = .ok (.invokevirtual 93, 3) := by decide +kernel
theorem dL_law_647 : decode cL_law 647 = .ok (.if_icmp .eq 370, 3) := by decide +kernel
theorem dL_law_650 : decode cL_law 650 = .ok (.iconst 0, 1) := by decide +kernel
theorem dL_law_651 : decode cL_law 651 = .ok (.ireturn, 1) := by decide +kernel
theorem dL_law_652 : decode cL_law 652 = .ok (.aload_n 1, 1) := by decide +kernel
theorem dL_law_653 : decode cL_law 653 = .ok (.aload_n 0, 1) := by decide +kernel
theorem dL_law_654 : decode cL_law 654 = .ok (.iload_n 3, 1) := by decide +kernel
theorem dL_law_655 : decode cL_law 655 = .ok (.iconst 1, 1) := by decide +kernel
theorem dL_law_656 : decode cL_law 656 = .ok (.iadd, 1) := by decide +kernel
theorem dL_law_657 : decode cL_law 657 = .ok (.iaload, 1) := by decide +kernel
theorem dL_law_658 : decode cL_law 658 = .ok (.aload_n 0, 1) := by decide +kernel
theorem dL_law_659 : decode cL_law 659 = .ok (.iload_n 3, 1) := by decide +kernel
theorem dL_law_660 : decode cL_law 660 = .ok (.iconst 2, 1) := by decide +kernel
theorem dL_law_661 : decode cL_law 661 = .ok (.iadd, 1) := by decide +kernel
theorem dL_law_662 : decode cL_law 662 = .ok (.iaload, 1) := by decide +kernel
theorem dL_law_663 : decode cL_law 663 = .ok (.aload_n 0, 1) := by decide +kernel
theorem dL_law_664 : decode cL_law 664 = .ok (.iload_n 3, 1) := by decide +kernel
theorem dL_law_665 : decode cL_law 665 = .ok (.iconst 3, 1) := by decide +kernel
theorem dL_law_666 : decode cL_law 666 = .ok (.iadd, 1) := by decide +kernel
theorem dL_law_667 : decode cL_law 667 = .ok (.iaload, 1) := by decide +kernel
theorem dL_law_668 : decode cL_law 668 = .ok (.invokevirtual 94, 3) := by decide +kernel
theorem dL_law_671 : decode cL_law 671 = .ok (.aload_n 2, 1) := by decide +kernel
theorem dL_law_672 : decode cL_law 672 = .ok (.aload_n 0, 1) := by decide +kernel
theorem dL_law_673 : decode cL_law 673 = .ok (.iload_n 3, 1) := by decide +kernel
theorem dL_law_674 : decode cL_law 674 = .ok (.iconst 1, 1) := by decide +kernel
theorem dL_law_675 : decode cL_law 675 = .ok (.iadd, 1) := by decide +kernel
theorem dL_law_676 : decode cL_law 676 = .ok (.iaload, 1) := by decide +kernel
theorem dL_law_677 : decode cL_law 677 = .ok (.aload_n 0, 1) := by decide +kernel
theorem dL_law_678 : decode cL_law 678 = .ok (.iload_n 3, 1) := by decide +kernel
theorem dL_law_679 : decode cL_law 679 = .ok (.iconst 2, 1) := by decide +kernel
theorem dL_law_680 : decode cL_law 680 = .ok (.iadd, 1) := by decide +kernel
theorem dL_law_681 : decode cL_law 681 = .ok (.iaload, 1) := by decide +kernel
theorem dL_law_682 : decode cL_law 682 = .ok (.aload_n 0, 1) := by decide +kernel
theorem dL_law_683 : decode cL_law 683 = .ok (.iload_n 3, 1) := by decide +kernel
theorem dL_law_684 : decode cL_law 684 = .ok (.iconst 3, 1) := by decide +kernel
theorem dL_law_685 : decode cL_law 685 = .ok (.iadd, 1) := by decide +kernel
theorem dL_law_686 : decode cL_law 686 = .ok (.iaload, 1) := by decide +kernel
theorem dL_law_687 : decode cL_law 687 = .ok (.invokevirtual 98, 3) := by decide +kernel
theorem dL_law_690 : decode cL_law 690 = .ok (.lcmp, 1) := by decide +kernel
theorem dL_law_691 : decode cL_law 691 = .ok (.ifCond .eq 326, 3) := by decide +kernel
theorem dL_law_694 : decode cL_law 694 = .ok (.iconst 0, 1) := by decide +kernel
theorem dL_law_695 : decode cL_law 695 = .ok (.ireturn, 1) := by decide +kernel
theorem dL_law_696 : decode cL_law 696 = .ok (.aload_n 1, 1) := by decide +kernel
theorem dL_law_697 : decode cL_law 697 = .ok (.aload_n 0, 1) := by decide +kernel
theorem dL_law_698 : decode cL_law 698 = .ok (.iload_n 3, 1) := by decide +kernel
theorem dL_law_699 : decode cL_law 699 = .ok (.iconst 1, 1) := by decide +kernel
theorem dL_law_700 : decode cL_law 700 = .ok (.iadd, 1) := by decide +kernel
theorem dL_law_701 : decode cL_law 701 = .ok (.iaload, 1) := by decide +kernel
theorem dL_law_702 : decode cL_law 702 = .ok (.aload_n 0, 1) := by decide +kernel
theorem dL_law_703 : decode cL_law 703 = .ok (.iload_n 3, 1) := by decide +kernel
theorem dL_law_704 : decode cL_law 704 = .ok (.iconst 2, 1) := by decide +kernel
theorem dL_law_705 : decode cL_law 705 = .ok (.iadd, 1) := by decide +kernel
theorem dL_law_706 : decode cL_law 706 = .ok (.iaload, 1) := by decide +kernel
theorem dL_law_707 : decode cL_law 707 = .ok (.aload_n 0, 1) := by decide +kernel
theorem dL_law_708 : decode cL_law 708 = .ok (.iload_n 3, 1) := by decide +kernel
theorem dL_law_709 : decode cL_law 709 = .ok (.iconst 3, 1) := by decide +kernel
theorem dL_law_710 : decode cL_law 710 = .ok (.iadd, 1) := by decide +kernel
theorem dL_law_711 : decode cL_law 711 = .ok (.iaload, 1) := by decide +kernel
theorem dL_law_712 : decode cL_law 712 = .ok (.invokevirtual 99, 3) := by decide +kernel
theorem dL_law_715 : decode cL_law 715 = .ok (.aload_n 2, 1) := by decide +kernel
theorem dL_law_716 : decode cL_law 716 = .ok (.aload_n 0, 1) := by decide +kernel
theorem dL_law_717 : decode cL_law 717 = .ok (.iload_n 3, 1) := by decide +kernel
theorem dL_law_718 : decode cL_law 718 = .ok (.iconst 1, 1) := by decide +kernel
theorem dL_law_719 : decode cL_law 719 = .ok (.iadd, 1) := by decide +kernel
theorem dL_law_720 : decode cL_law 720 = .ok (.iaload, 1) := by decide +kernel
theorem dL_law_721 : decode cL_law 721 = .ok (.aload_n 0, 1) := by decide +kernel
theorem dL_law_722 : decode cL_law 722 = .ok (.iload_n 3, 1) := by decide +kernel
theorem dL_law_723 : decode cL_law 723 = .ok (.iconst 2, 1) := by decide +kernel
theorem dL_law_724 : decode cL_law 724 = .ok (.iadd, 1) := by decide +kernel
theorem dL_law_725 : decode cL_law 725 = .ok (.iaload, 1) := by decide +kernel
theorem dL_law_726 : decode cL_law 726 = .ok (.aload_n 0, 1) := by decide +kernel
theorem dL_law_727 : decode cL_law 727 = .ok (.iload_n 3, 1) := by decide +kernel
theorem dL_law_728 : decode cL_law 728 = .ok (.iconst 3, 1) := by decide +kernel
theorem dL_law_729 : decode cL_law 729 = .ok (.iadd, 1) := by decide +kernel
theorem dL_law_730 : decode cL_law 730 = .ok (.iaload, 1) := by decide +kernel
theorem dL_law_731 : decode cL_law 731 = .ok (.invokevirtual 102, 3) := by decide +kernel
theorem dL_law_734 : decode cL_law 734 = .ok (.lcmp, 1) := by decide +kernel
theorem dL_law_735 : decode cL_law 735 = .ok (.ifCond .eq 282, 3) := by decide +kernel
theorem dL_law_738 : decode cL_law 738 = .ok (.iconst 0, 1) := by decide +kernel
theorem dL_law_739 : decode cL_law 739 = .ok (.ireturn, 1) := by decide +kernel
theorem dL_law_740 : decode cL_law 740 = .ok (.aload_n 1, 1) := by decide +kernel
theorem dL_law_741 : decode cL_law 741 = .ok (.aload_n 0, 1) := by decide +kernel
theorem dL_law_742 : decode cL_law 742 = .ok (.iload_n 3, 1) := by decide +kernel
theorem dL_law_743 : decode cL_law 743 = .ok (.iconst 1, 1) := by decide +kernel
theorem dL_law_744 : decode cL_law 744 = .ok (.iadd, 1) := by decide +kernel
theorem dL_law_745 : decode cL_law 745 = .ok (.iaload, 1) := by decide +kernel
theorem dL_law_746 : decode cL_law 746 = .ok (.aload_n 0, 1) := by decide +kernel
theorem dL_law_747 : decode cL_law 747 = .ok (.iload_n 3, 1) := by decide +kernel
theorem dL_law_748 : decode cL_law 748 = .ok (.iconst 2, 1) := by decide +kernel
theorem dL_law_749 : decode cL_law 749 = .ok (.iadd, 1) := by decide +kernel
theorem dL_law_750 : decode cL_law 750 = .ok (.iaload, 1) := by decide +kernel
theorem dL_law_751 : decode cL_law 751 = .ok (.invokevirtual 103, 3) := by decide +kernel
theorem dL_law_754 : decode cL_law 754 = .ok (.aload_n 2, 1) := by decide +kernel
theorem dL_law_755 : decode cL_law 755 = .ok (.aload_n 0, 1) := by decide +kernel
theorem dL_law_756 : decode cL_law 756 = .ok (.iload_n 3, 1) := by decide +kernel
theorem dL_law_757 : decode cL_law 757 = .ok (.iconst 1, 1) := by decide +kernel
theorem dL_law_758 : decode cL_law 758 = .ok (.iadd, 1) := by decide +kernel
theorem dL_law_759 : decode cL_law 759 = .ok (.iaload, 1) := by decide +kernel
theorem dL_law_760 : decode cL_law 760 = .ok (.aload_n 0, 1) := by decide +kernel
theorem dL_law_761 : decode cL_law 761 = .ok (.iload_n 3, 1) := by decide +kernel
theorem dL_law_762 : decode cL_law 762 = .ok (.iconst 2, 1) := by decide +kernel
theorem dL_law_763 : decode cL_law 763 = .ok (.iadd, 1) := by decide +kernel
theorem dL_law_764 : decode cL_law 764 = .ok (.iaload, 1) := by decide +kernel
theorem dL_law_765 : decode cL_law 765 = .ok (.invokevirtual 106, 3) := by decide +kernel
theorem dL_law_768 : decode cL_law 768 = .ok (.lcmp, 1) := by decide +kernel
theorem dL_law_769 : decode cL_law 769 = .ok (.ifCond .eq 248, 3) := by decide +kernel
theorem dL_law_772 : decode cL_law 772 = .ok (.iconst 0, 1) := by decide +kernel
theorem dL_law_773 : decode cL_law 773 = .ok (.ireturn, 1) := by decide +kernel
theorem dL_law_774 : decode cL_law 774 = .ok (.aload_n 1, 1) := by decide +kernel
theorem dL_law_775 : decode cL_law 775 = .ok (.aload_n 0, 1) := by decide +kernel
theorem dL_law_776 : decode cL_law 776 = .ok (.iload_n 3, 1) := by decide +kernel
theorem dL_law_777 : decode cL_law 777 = .ok (.iconst 1, 1) := by decide +kernel
theorem dL_law_778 : decode cL_law 778 = .ok (.iadd, 1) := by decide +kernel
theorem dL_law_779 : decode cL_law 779 = .ok (.iaload, 1) := by decide +kernel
theorem dL_law_780 : decode cL_law 780 = .ok (.invokevirtual 107, 3) := by decide +kernel
theorem dL_law_783 : decode cL_law 783 = .ok (.aload_n 2, 1) := by decide +kernel
theorem dL_law_784 : decode cL_law 784 = .ok (.aload_n 0, 1) := by decide +kernel
theorem dL_law_785 : decode cL_law 785 = .ok (.iload_n 3, 1) := by decide +kernel
theorem dL_law_786 : decode cL_law 786 = .ok (.iconst 1, 1) := by decide +kernel
theorem dL_law_787 : decode cL_law 787 = .ok (.iadd, 1) := by decide +kernel
theorem dL_law_788 : decode cL_law 788 = .ok (.iaload, 1) := by decide +kernel
theorem dL_law_789 : decode cL_law 789 = .ok (.invokevirtual 110, 3) := by decide +kernel
theorem dL_law_792 : decode cL_law 792 = .ok (.if_icmp .eq 225, 3) := by decide +kernel
theorem dL_law_795 : decode cL_law 795 = .ok (.iconst 0, 1) := by decide +kernel
theorem dL_law_796 : decode cL_law 796 = .ok (.ireturn, 1) := by decide +kernel
theorem dL_law_797 : decode cL_law 797 = .ok (.aload_n 1, 1) := by decide +kernel
theorem dL_law_798 : decode cL_law 798 = .ok (.aload_n 0, 1) := by decide +kernel
theorem dL_law_799 : decode cL_law 799 = .ok (.iload_n 3, 1) := by decide +kernel
theorem dL_law_800 : decode cL_law 800 = .ok (.iconst 1, 1) := by decide +kernel
theorem dL_law_801 : decode cL_law 801 = .ok (.iadd, 1) := by decide +kernel
theorem dL_law_802 : decode cL_law 802 = .ok (.iaload, 1) := by decide +kernel
theorem dL_law_803 : decode cL_law 803 = .ok (.aload_n 0, 1) := by decide +kernel
theorem dL_law_804 : decode cL_law 804 = .ok (.iload_n 3, 1) := by decide +kernel
theorem dL_law_805 : decode cL_law 805 = .ok (.iconst 2, 1) := by decide +kernel
theorem dL_law_806 : decode cL_law 806 = .ok (.iadd, 1) := by decide +kernel
theorem dL_law_807 : decode cL_law 807 = .ok (.iaload, 1) := by decide +kernel
theorem dL_law_808 : decode cL_law 808 = .ok (.aload_n 0, 1) := by decide +kernel
theorem dL_law_809 : decode cL_law 809 = .ok (.iload_n 3, 1) := by decide +kernel
theorem dL_law_810 : decode cL_law 810 = .ok (.iconst 3, 1) := by decide +kernel
theorem dL_law_811 : decode cL_law 811 = .ok (.iadd, 1) := by decide +kernel
theorem dL_law_812 : decode cL_law 812 = .ok (.iaload, 1) := by decide +kernel
theorem dL_law_813 : decode cL_law 813 = .ok (.invokevirtual 111, 3) := by decide +kernel
theorem dL_law_816 : decode cL_law 816 = .ok (.aload_n 2, 1) := by decide +kernel
theorem dL_law_817 : decode cL_law 817 = .ok (.aload_n 0, 1) := by decide +kernel
theorem dL_law_818 : decode cL_law 818 = .ok (.iload_n 3, 1) := by decide +kernel
theorem dL_law_819 : decode cL_law 819 = .ok (.iconst 1, 1) := by decide +kernel
theorem dL_law_820 : decode cL_law 820 = .ok (.iadd, 1) := by decide +kernel
theorem dL_law_821 : decode cL_law 821 = .ok (.iaload, 1) := by decide +kernel
theorem dL_law_822 : decode cL_law 822 = .ok (.aload_n 0, 1) := by decide +kernel
theorem dL_law_823 : decode cL_law 823 = .ok (.iload_n 3, 1) := by decide +kernel
theorem dL_law_824 : decode cL_law 824 = .ok (.iconst 2, 1) := by decide +kernel
theorem dL_law_825 : decode cL_law 825 = .ok (.iadd, 1) := by decide +kernel
theorem dL_law_826 : decode cL_law 826 = .ok (.iaload, 1) := by decide +kernel
theorem dL_law_827 : decode cL_law 827 = .ok (.aload_n 0, 1) := by decide +kernel
theorem dL_law_828 : decode cL_law 828 = .ok (.iload_n 3, 1) := by decide +kernel
theorem dL_law_829 : decode cL_law 829 = .ok (.iconst 3, 1) := by decide +kernel
theorem dL_law_830 : decode cL_law 830 = .ok (.iadd, 1) := by decide +kernel
theorem dL_law_831 : decode cL_law 831 = .ok (.iaload, 1) := by decide +kernel
theorem dL_law_832 : decode cL_law 832 = .ok (.invokevirtual 114, 3) := by decide +kernel
theorem dL_law_835 : decode cL_law 835 = .ok (.if_icmp .eq 182, 3) := by decide +kernel
theorem dL_law_838 : decode cL_law 838 = .ok (.iconst 0, 1) := by decide +kernel
theorem dL_law_839 : decode cL_law 839 = .ok (.ireturn, 1) := by decide +kernel
theorem dL_law_840 : decode cL_law 840 = .ok (.aload_n 1, 1) := by decide +kernel
theorem dL_law_841 : decode cL_law 841 = .ok (.aload_n 0, 1) := by decide +kernel
theorem dL_law_842 : decode cL_law 842 = .ok (.iload_n 3, 1) := by decide +kernel
theorem dL_law_843 : decode cL_law 843 = .ok (.iconst 1, 1) := by decide +kernel
theorem dL_law_844 : decode cL_law 844 = .ok (.iadd, 1) := by decide +kernel
theorem dL_law_845 : decode cL_law 845 = .ok (.iaload, 1) := by decide +kernel
theorem dL_law_846 : decode cL_law 846 = .ok (.aload_n 0, 1) := by decide +kernel
theorem dL_law_847 : decode cL_law 847 = .ok (.iload_n 3, 1) := by decide +kernel
theorem dL_law_848 : decode cL_law 848 = .ok (.iconst 2, 1) := by decide +kernel
theorem dL_law_849 : decode cL_law 849 = .ok (.iadd, 1) := by decide +kernel
theorem dL_law_850 : decode cL_law 850 = .ok (.iaload, 1) := by decide +kernel
theorem dL_law_851 : decode cL_law 851 = .ok (.invokevirtual 115, 3) := by decide +kernel
theorem dL_law_854 : decode cL_law 854 = .ok (.aload_n 2, 1) := by decide +kernel
theorem dL_law_855 : decode cL_law 855 = .ok (.aload_n 0, 1) := by decide +kernel
theorem dL_law_856 : decode cL_law 856 = .ok (.iload_n 3, 1) := by decide +kernel
theorem dL_law_857 : decode cL_law 857 = .ok (.iconst 1, 1) := by decide +kernel
theorem dL_law_858 : decode cL_law 858 = .ok (.iadd, 1) := by decide +kernel
theorem dL_law_859 : decode cL_law 859 = .ok (.iaload, 1) := by decide +kernel
theorem dL_law_860 : decode cL_law 860 = .ok (.aload_n 0, 1) := by decide +kernel
theorem dL_law_861 : decode cL_law 861 = .ok (.iload_n 3, 1) := by decide +kernel
theorem dL_law_862 : decode cL_law 862 = .ok (.iconst 2, 1) := by decide +kernel
theorem dL_law_863 : decode cL_law 863 = .ok (.iadd, 1) := by decide +kernel
theorem dL_law_864 : decode cL_law 864 = .ok (.iaload, 1) := by decide +kernel
theorem dL_law_865 : decode cL_law 865 = .ok (.invokevirtual 118, 3) := by decide +kernel
theorem dL_law_868 : decode cL_law 868 = .ok (.lcmp, 1) := by decide +kernel
theorem dL_law_869 : decode cL_law 869 = .ok (.ifCond .eq 148, 3) := by decide +kernel
theorem dL_law_872 : decode cL_law 872 = .ok (.iconst 0, 1) := by decide +kernel
theorem dL_law_873 : decode cL_law 873 = .ok (.ireturn, 1) := by decide +kernel
theorem dL_law_874 : decode cL_law 874 = .ok (.aload_n 1, 1) := by decide +kernel
theorem dL_law_875 : decode cL_law 875 = .ok (.aload_n 0, 1) := by decide +kernel
theorem dL_law_876 : decode cL_law 876 = .ok (.iload_n 3, 1) := by decide +kernel
theorem dL_law_877 : decode cL_law 877 = .ok (.iconst 1, 1) := by decide +kernel
theorem dL_law_878 : decode cL_law 878 = .ok (.iadd, 1) := by decide +kernel
theorem dL_law_879 : decode cL_law 879 = .ok (.iaload, 1) := by decide +kernel
theorem dL_law_880 : decode cL_law 880 = .ok (.aload_n 0, 1) := by decide +kernel
theorem dL_law_881 : decode cL_law 881 = .ok (.iload_n 3, 1) := by decide +kernel
theorem dL_law_882 : decode cL_law 882 = .ok (.iconst 2, 1) := by decide +kernel
theorem dL_law_883 : decode cL_law 883 = .ok (.iadd, 1) := by decide +kernel
theorem dL_law_884 : decode cL_law 884 = .ok (.iaload, 1) := by decide +kernel
theorem dL_law_885 : decode cL_law 885 = .ok (.aload_n 0, 1) := by decide +kernel
theorem dL_law_886 : decode cL_law 886 = .ok (.iload_n 3, 1) := by decide +kernel
theorem dL_law_887 : decode cL_law 887 = .ok (.iconst 3, 1) := by decide +kernel
theorem dL_law_888 : decode cL_law 888 = .ok (.iadd, 1) := by decide +kernel
theorem dL_law_889 : decode cL_law 889 = .ok (.iaload, 1) := by decide +kernel
theorem dL_law_890 : decode cL_law 890 = .ok (.invokevirtual 119, 3) := by decide +kernel
theorem dL_law_893 : decode cL_law 893 = .ok (.aload_n 2, 1) := by decide +kernel
theorem dL_law_894 : decode cL_law 894 = .ok (.aload_n 0, 1) := by decide +kernel
theorem dL_law_895 : decode cL_law 895 = .ok (.iload_n 3, 1) := by decide +kernel
theorem dL_law_896 : decode cL_law 896 = .ok (.iconst 1, 1) := by decide +kernel
theorem dL_law_897 : decode cL_law 897 = .ok (.iadd, 1) := by decide +kernel
theorem dL_law_898 : decode cL_law 898 = .ok (.iaload, 1) := by decide +kernel
theorem dL_law_899 : decode cL_law 899 = .ok (.aload_n 0, 1) := by decide +kernel
theorem dL_law_900 : decode cL_law 900 = .ok (.iload_n 3, 1) := by decide +kernel
theorem dL_law_901 : decode cL_law 901 = .ok (.iconst 2, 1) := by decide +kernel
theorem dL_law_902 : decode cL_law 902 = .ok (.iadd, 1) := by decide +kernel
theorem dL_law_903 : decode cL_law 903 = .ok (.iaload, 1) := by decide +kernel
theorem dL_law_904 : decode cL_law 904 = .ok (.aload_n 0, 1) := by decide +kernel
theorem dL_law_905 : decode cL_law 905 = .ok (.iload_n 3, 1) := by decide +kernel
theorem dL_law_906 : decode cL_law 906 = .ok (.iconst 3, 1) := by decide +kernel
theorem dL_law_907 : decode cL_law 907 = .ok (.iadd, 1) := by decide +kernel
theorem dL_law_908 : decode cL_law 908 = .ok (.iaload, 1) := by decide +kernel
theorem dL_law_909 : decode cL_law 909 = .ok (.invokevirtual 122, 3) := by decide +kernel
theorem dL_law_912 : decode cL_law 912 = .ok (.if_icmp .eq 105, 3) := by decide +kernel
theorem dL_law_915 : decode cL_law 915 = .ok (.iconst 0, 1) := by decide +kernel
theorem dL_law_916 : decode cL_law 916 = .ok (.ireturn, 1) := by decide +kernel
theorem dL_law_917 : decode cL_law 917 = .ok (.aload_n 1, 1) := by decide +kernel
theorem dL_law_918 : decode cL_law 918 = .ok (.aload_n 0, 1) := by decide +kernel
theorem dL_law_919 : decode cL_law 919 = .ok (.iload_n 3, 1) := by decide +kernel
theorem dL_law_920 : decode cL_law 920 = .ok (.iconst 1, 1) := by decide +kernel
theorem dL_law_921 : decode cL_law 921 = .ok (.iadd, 1) := by decide +kernel
theorem dL_law_922 : decode cL_law 922 = .ok (.iaload, 1) := by decide +kernel
theorem dL_law_923 : decode cL_law 923 = .ok (.aload_n 0, 1) := by decide +kernel
theorem dL_law_924 : decode cL_law 924 = .ok (.iload_n 3, 1) := by decide +kernel
theorem dL_law_925 : decode cL_law 925 = .ok (.iconst 2, 1) := by decide +kernel
theorem dL_law_926 : decode cL_law 926 = .ok (.iadd, 1) := by decide +kernel
theorem dL_law_927 : decode cL_law 927 = .ok (.iaload, 1) := by decide +kernel
theorem dL_law_928 : decode cL_law 928 = .ok (.aload_n 0, 1) := by decide +kernel
theorem dL_law_929 : decode cL_law 929 = .ok (.iload_n 3, 1) := by decide +kernel
theorem dL_law_930 : decode cL_law 930 = .ok (.iconst 3, 1) := by decide +kernel
theorem dL_law_931 : decode cL_law 931 = .ok (.iadd, 1) := by decide +kernel
theorem dL_law_932 : decode cL_law 932 = .ok (.iaload, 1) := by decide +kernel
theorem dL_law_933 : decode cL_law 933 = .ok (.invokevirtual 123, 3) := by decide +kernel
theorem dL_law_936 : decode cL_law 936 = .ok (.aload_n 2, 1) := by decide +kernel
theorem dL_law_937 : decode cL_law 937 = .ok (.aload_n 0, 1) := by decide +kernel
theorem dL_law_938 : decode cL_law 938 = .ok (.iload_n 3, 1) := by decide +kernel
theorem dL_law_939 : decode cL_law 939 = .ok (.iconst 1, 1) := by decide +kernel
theorem dL_law_940 : decode cL_law 940 = .ok (.iadd, 1) := by decide +kernel
theorem dL_law_941 : decode cL_law 941 = .ok (.iaload, 1) := by decide +kernel
theorem dL_law_942 : decode cL_law 942 = .ok (.aload_n 0, 1) := by decide +kernel
theorem dL_law_943 : decode cL_law 943 = .ok (.iload_n 3, 1) := by decide +kernel
theorem dL_law_944 : decode cL_law 944 = .ok (.iconst 2, 1) := by decide +kernel
theorem dL_law_945 : decode cL_law 945 = .ok (.iadd, 1) := by decide +kernel
theorem dL_law_946 : decode cL_law 946 = .ok (.iaload, 1) := by decide +kernel
theorem dL_law_947 : decode cL_law 947 = .ok (.aload_n 0, 1) := by decide +kernel
theorem dL_law_948 : decode cL_law 948 = .ok (.iload_n 3, 1) := by decide +kernel
theorem dL_law_949 : decode cL_law 949 = .ok (.iconst 3, 1) := by decide +kernel
theorem dL_law_950 : decode cL_law 950 = .ok (.iadd, 1) := by decide +kernel
theorem dL_law_951 : decode cL_law 951 = .ok (.iaload, 1) := by decide +kernel
theorem dL_law_952 : decode cL_law 952 = .ok (.invokevirtual 126, 3) := by decide +kernel
theorem dL_law_955 : decode cL_law 955 = .ok (.lcmp, 1) := by decide +kernel
theorem dL_law_956 : decode cL_law 956 = .ok (.ifCond .eq 61, 3) := by decide +kernel
theorem dL_law_959 : decode cL_law 959 = .ok (.iconst 0, 1) := by decide +kernel
theorem dL_law_960 : decode cL_law 960 = .ok (.ireturn, 1) := by decide +kernel
theorem dL_law_961 : decode cL_law 961 = .ok (.aload_n 1, 1) := by decide +kernel
theorem dL_law_962 : decode cL_law 962 = .ok (.aload_n 0, 1) := by decide +kernel
theorem dL_law_963 : decode cL_law 963 = .ok (.iload_n 3, 1) := by decide +kernel
theorem dL_law_964 : decode cL_law 964 = .ok (.iconst 1, 1) := by decide +kernel
theorem dL_law_965 : decode cL_law 965 = .ok (.iadd, 1) := by decide +kernel
theorem dL_law_966 : decode cL_law 966 = .ok (.iaload, 1) := by decide +kernel
theorem dL_law_967 : decode cL_law 967 = .ok (.aload_n 0, 1) := by decide +kernel
theorem dL_law_968 : decode cL_law 968 = .ok (.iload_n 3, 1) := by decide +kernel
theorem dL_law_969 : decode cL_law 969 = .ok (.iconst 2, 1) := by decide +kernel
theorem dL_law_970 : decode cL_law 970 = .ok (.iadd, 1) := by decide +kernel
theorem dL_law_971 : decode cL_law 971 = .ok (.iaload, 1) := by decide +kernel
theorem dL_law_972 : decode cL_law 972 = .ok (.invokevirtual 127, 3) := by decide +kernel
theorem dL_law_975 : decode cL_law 975 = .ok (.aload_n 2, 1) := by decide +kernel
theorem dL_law_976 : decode cL_law 976 = .ok (.aload_n 0, 1) := by decide +kernel
theorem dL_law_977 : decode cL_law 977 = .ok (.iload_n 3, 1) := by decide +kernel
theorem dL_law_978 : decode cL_law 978 = .ok (.iconst 1, 1) := by decide +kernel
theorem dL_law_979 : decode cL_law 979 = .ok (.iadd, 1) := by decide +kernel
theorem dL_law_980 : decode cL_law 980 = .ok (.iaload, 1) := by decide +kernel
theorem dL_law_981 : decode cL_law 981 = .ok (.aload_n 0, 1) := by decide +kernel
theorem dL_law_982 : decode cL_law 982 = .ok (.iload_n 3, 1) := by decide +kernel
theorem dL_law_983 : decode cL_law 983 = .ok (.iconst 2, 1) := by decide +kernel
theorem dL_law_984 : decode cL_law 984 = .ok (.iadd, 1) := by decide +kernel
theorem dL_law_985 : decode cL_law 985 = .ok (.iaload, 1) := by decide +kernel
theorem dL_law_986 : decode cL_law 986 = .ok (.invokevirtual 130, 3) := by decide +kernel
theorem dL_law_989 : decode cL_law 989 = .ok (.if_icmp .eq 28, 3) := by decide +kernel
theorem dL_law_992 : decode cL_law 992 = .ok (.iconst 0, 1) := by decide +kernel
theorem dL_law_993 : decode cL_law 993 = .ok (.ireturn, 1) := by decide +kernel
theorem dL_law_994 : decode cL_law 994 = .ok (.aload_n 1, 1) := by decide +kernel
theorem dL_law_995 : decode cL_law 995 = .ok (.aload_n 0, 1) := by decide +kernel
theorem dL_law_996 : decode cL_law 996 = .ok (.iload_n 3, 1) := by decide +kernel
theorem dL_law_997 : decode cL_law 997 = .ok (.iconst 1, 1) := by decide +kernel
theorem dL_law_998 : decode cL_law 998 = .ok (.iadd, 1) := by decide +kernel
theorem dL_law_999 : decode cL_law 999 = .ok (.iaload, 1) := by decide +kernel
theorem dL_law_1000 : decode cL_law 1000 = .ok (.invokevirtual 131, 3) := by decide +kernel
theorem dL_law_1003 : decode cL_law 1003 = .ok (.aload_n 2, 1) := by decide +kernel
theorem dL_law_1004 : decode cL_law 1004 = .ok (.aload_n 0, 1) := by decide +kernel
theorem dL_law_1005 : decode cL_law 1005 = .ok (.iload_n 3, 1) := by decide +kernel
theorem dL_law_1006 : decode cL_law 1006 = .ok (.iconst 1, 1) := by decide +kernel
theorem dL_law_1007 : decode cL_law 1007 = .ok (.iadd, 1) := by decide +kernel
theorem dL_law_1008 : decode cL_law 1008 = .ok (.iaload, 1) := by decide +kernel
theorem dL_law_1009 : decode cL_law 1009 = .ok (.invokevirtual 134, 3) := by decide +kernel
theorem dL_law_1012 : decode cL_law 1012 = .ok (.if_icmp .eq 5, 3) := by decide +kernel
theorem dL_law_1015 : decode cL_law 1015 = .ok (.iconst 0, 1) := by decide +kernel
theorem dL_law_1016 : decode cL_law 1016 = .ok (.ireturn, 1) := by decide +kernel
theorem dL_law_1017 : decode cL_law 1017 = .ok (.iinc 3 4, 3) := by decide +kernel
theorem dL_law_1020 : decode cL_law 1020 = .ok (.goto (-1002), 3) := by decide +kernel
theorem dL_law_1023 : decode cL_law 1023 = .ok (.iconst 1, 1) := by decide +kernel
theorem dL_law_1024 : decode cL_law 1024 = .ok (.ireturn, 1) := by decide +kernel
def bkL_law_1017 (xs : Nat → Int32) (sL : Nat) (P : Nat → tc_B) (q : tc_Q) : tc_B := tb_iinc 3 4 <| tb_cut (P 18) [0, 1, 2, 3]
theorem okL_law_1017 {Z : tc_Z} {q : tc_Q} {xs : Nat → Int32} {sL : Nat} (X : tc_Cx ({ frames := 10, cells := 52, slots := 1871, locals := 348 } : Room) cL_law 4 RL Z) (Y : tc_Sc xs sL Z) (hr : tc_Rt 1 cL_law 4 Z q) : tc_Ok 4 Z 1017 (bkL_law_1017 xs sL (tc_At 4 Z) q) := by
  unfold bkL_law_1017
  refine to_iinc (pc := 1017) X dL_law_1017 (by decide) (by decide) ?_
  refine to_goto (pc := 1020) (tgt := 18) X dL_law_1020 (by decide) ?_
  exact to_cut [0, 1, 2, 3] (fun _ _ _ h => h)
def bkL_law_1012 (xs : Nat → Int32) (sL : Nat) (P : Nat → tc_B) (q : tc_Q) : tc_B := tb_icmp_eq (tb_cut (P 1017) [0, 1, 2, 3]) <| tb_i 0 <| tb_zret q
theorem okL_law_1012 {Z : tc_Z} {q : tc_Q} {xs : Nat → Int32} {sL : Nat} (X : tc_Cx ({ frames := 10, cells := 52, slots := 1871, locals := 348 } : Room) cL_law 4 RL Z) (Y : tc_Sc xs sL Z) (hr : tc_Rt 1 cL_law 4 Z q) : tc_Ok 4 Z 1012 (bkL_law_1012 xs sL (tc_At 4 Z) q) := by
  unfold bkL_law_1012
  refine to_icmp_eq (pc := 1012) (tgt := 1017) X dL_law_1012 (by decide) ?_ ?_
  · exact to_cut [0, 1, 2, 3] (fun _ _ _ h => h)
  refine to_iconst (pc := 1015) X dL_law_1015 (by decide) ?_
  exact to_zret (pc := 1016) hr dL_law_1016
def bkL_law_1003 (xs : Nat → Int32) (sL : Nat) (P : Nat → tc_B) (q : tc_Q) : tc_B := tb_aload 2 <| tb_aload 0 <| tb_iload 3 <| tb_i 1 <| tb_iadd <| tb_sld xs sL <| tb_callV 1 8 9 RX11_many <| bkL_law_1012 xs sL P q
theorem okL_law_1003 {Z : tc_Z} {q : tc_Q} {xs : Nat → Int32} {sL : Nat} (X : tc_Cx ({ frames := 10, cells := 52, slots := 1871, locals := 348 } : Room) cL_law 4 RL Z) (Y : tc_Sc xs sL Z) (hr : tc_Rt 1 cL_law 4 Z q) : tc_Ok 4 Z 1003 (bkL_law_1003 xs sL (tc_At 4 Z) q) := by
  unfold bkL_law_1003
  refine to_aload_n (pc := 1003) X dL_law_1003 rfl ?_
  refine to_aload_n (pc := 1004) X dL_law_1004 rfl ?_
  refine to_iload_n (pc := 1005) X dL_law_1005 rfl ?_
  refine to_iconst (pc := 1006) X dL_law_1006 (by decide) ?_
  refine to_iadd (pc := 1007) X dL_law_1007 ?_
  refine to_sld (pc := 1008) X Y dL_law_1008 ?_
  refine cvX11_many (pc := 1009) X wm_RL_134 (by decide) dL_law_1009 ?_
  exact okL_law_1012 X Y hr
def bkL_law_989 (xs : Nat → Int32) (sL : Nat) (P : Nat → tc_B) (q : tc_Q) : tc_B := tb_icmp_eq (tb_cut (P 1017) [0, 1, 2, 3]) <| tb_i 0 <| tb_zret q
theorem okL_law_989 {Z : tc_Z} {q : tc_Q} {xs : Nat → Int32} {sL : Nat} (X : tc_Cx ({ frames := 10, cells := 52, slots := 1871, locals := 348 } : Room) cL_law 4 RL Z) (Y : tc_Sc xs sL Z) (hr : tc_Rt 1 cL_law 4 Z q) : tc_Ok 4 Z 989 (bkL_law_989 xs sL (tc_At 4 Z) q) := by
  unfold bkL_law_989
  refine to_icmp_eq (pc := 989) (tgt := 1017) X dL_law_989 (by decide) ?_ ?_
  · exact to_cut [0, 1, 2, 3] (fun _ _ _ h => h)
  refine to_iconst (pc := 992) X dL_law_992 (by decide) ?_
  exact to_zret (pc := 993) hr dL_law_993
def bkL_law_975 (xs : Nat → Int32) (sL : Nat) (P : Nat → tc_B) (q : tc_Q) : tc_B := tb_aload 2 <| tb_aload 0 <| tb_iload 3 <| tb_i 1 <| tb_iadd <| tb_sld xs sL <| tb_aload 0 <| tb_iload 3 <| tb_i 2 <| tb_iadd <| tb_sld xs sL <| tb_callV 2 3 9 RX11_report <| bkL_law_989 xs sL P q
theorem okL_law_975 {Z : tc_Z} {q : tc_Q} {xs : Nat → Int32} {sL : Nat} (X : tc_Cx ({ frames := 10, cells := 52, slots := 1871, locals := 348 } : Room) cL_law 4 RL Z) (Y : tc_Sc xs sL Z) (hr : tc_Rt 1 cL_law 4 Z q) : tc_Ok 4 Z 975 (bkL_law_975 xs sL (tc_At 4 Z) q) := by
  unfold bkL_law_975
  refine to_aload_n (pc := 975) X dL_law_975 rfl ?_
  refine to_aload_n (pc := 976) X dL_law_976 rfl ?_
  refine to_iload_n (pc := 977) X dL_law_977 rfl ?_
  refine to_iconst (pc := 978) X dL_law_978 (by decide) ?_
  refine to_iadd (pc := 979) X dL_law_979 ?_
  refine to_sld (pc := 980) X Y dL_law_980 ?_
  refine to_aload_n (pc := 981) X dL_law_981 rfl ?_
  refine to_iload_n (pc := 982) X dL_law_982 rfl ?_
  refine to_iconst (pc := 983) X dL_law_983 (by decide) ?_
  refine to_iadd (pc := 984) X dL_law_984 ?_
  refine to_sld (pc := 985) X Y dL_law_985 ?_
  refine cvX11_report (pc := 986) X wm_RL_130 (by decide) dL_law_986 ?_
  exact okL_law_989 X Y hr
def bkL_law_955 (xs : Nat → Int32) (sL : Nat) (P : Nat → tc_B) (q : tc_Q) : tc_B := tb_lcmp <| tb_if_eq (tb_cut (P 1017) [0, 1, 2, 3]) <| tb_i 0 <| tb_zret q
theorem okL_law_955 {Z : tc_Z} {q : tc_Q} {xs : Nat → Int32} {sL : Nat} (X : tc_Cx ({ frames := 10, cells := 52, slots := 1871, locals := 348 } : Room) cL_law 4 RL Z) (Y : tc_Sc xs sL Z) (hr : tc_Rt 1 cL_law 4 Z q) : tc_Ok 4 Z 955 (bkL_law_955 xs sL (tc_At 4 Z) q) := by
  unfold bkL_law_955
  refine to_lcmp (pc := 955) X dL_law_955 ?_
  refine to_if_eq (pc := 956) (tgt := 1017) X dL_law_956 (by decide) ?_ ?_
  · exact to_cut [0, 1, 2, 3] (fun _ _ _ h => h)
  refine to_iconst (pc := 959) X dL_law_959 (by decide) ?_
  exact to_zret (pc := 960) hr dL_law_960
def bkL_law_936 (xs : Nat → Int32) (sL : Nat) (P : Nat → tc_B) (q : tc_Q) : tc_B := tb_aload 2 <| tb_aload 0 <| tb_iload 3 <| tb_i 1 <| tb_iadd <| tb_sld xs sL <| tb_aload 0 <| tb_iload 3 <| tb_i 2 <| tb_iadd <| tb_sld xs sL <| tb_aload 0 <| tb_iload 3 <| tb_i 3 <| tb_iadd <| tb_sld xs sL <| tb_callV 3 8 9 RX11_luck <| bkL_law_955 xs sL P q
theorem okL_law_936 {Z : tc_Z} {q : tc_Q} {xs : Nat → Int32} {sL : Nat} (X : tc_Cx ({ frames := 10, cells := 52, slots := 1871, locals := 348 } : Room) cL_law 4 RL Z) (Y : tc_Sc xs sL Z) (hr : tc_Rt 1 cL_law 4 Z q) : tc_Ok 4 Z 936 (bkL_law_936 xs sL (tc_At 4 Z) q) := by
  unfold bkL_law_936
  refine to_aload_n (pc := 936) X dL_law_936 rfl ?_
  refine to_aload_n (pc := 937) X dL_law_937 rfl ?_
  refine to_iload_n (pc := 938) X dL_law_938 rfl ?_
  refine to_iconst (pc := 939) X dL_law_939 (by decide) ?_
  refine to_iadd (pc := 940) X dL_law_940 ?_
  refine to_sld (pc := 941) X Y dL_law_941 ?_
  refine to_aload_n (pc := 942) X dL_law_942 rfl ?_
  refine to_iload_n (pc := 943) X dL_law_943 rfl ?_
  refine to_iconst (pc := 944) X dL_law_944 (by decide) ?_
  refine to_iadd (pc := 945) X dL_law_945 ?_
  refine to_sld (pc := 946) X Y dL_law_946 ?_
  refine to_aload_n (pc := 947) X dL_law_947 rfl ?_
  refine to_iload_n (pc := 948) X dL_law_948 rfl ?_
  refine to_iconst (pc := 949) X dL_law_949 (by decide) ?_
  refine to_iadd (pc := 950) X dL_law_950 ?_
  refine to_sld (pc := 951) X Y dL_law_951 ?_
  refine cvX11_luck (pc := 952) X wm_RL_126 (by decide) dL_law_952 ?_
  exact okL_law_955 X Y hr
def bkL_law_912 (xs : Nat → Int32) (sL : Nat) (P : Nat → tc_B) (q : tc_Q) : tc_B := tb_icmp_eq (tb_cut (P 1017) [0, 1, 2, 3]) <| tb_i 0 <| tb_zret q
theorem okL_law_912 {Z : tc_Z} {q : tc_Q} {xs : Nat → Int32} {sL : Nat} (X : tc_Cx ({ frames := 10, cells := 52, slots := 1871, locals := 348 } : Room) cL_law 4 RL Z) (Y : tc_Sc xs sL Z) (hr : tc_Rt 1 cL_law 4 Z q) : tc_Ok 4 Z 912 (bkL_law_912 xs sL (tc_At 4 Z) q) := by
  unfold bkL_law_912
  refine to_icmp_eq (pc := 912) (tgt := 1017) X dL_law_912 (by decide) ?_ ?_
  · exact to_cut [0, 1, 2, 3] (fun _ _ _ h => h)
  refine to_iconst (pc := 915) X dL_law_915 (by decide) ?_
  exact to_zret (pc := 916) hr dL_law_916
def bkL_law_893 (xs : Nat → Int32) (sL : Nat) (P : Nat → tc_B) (q : tc_Q) : tc_B := tb_aload 2 <| tb_aload 0 <| tb_iload 3 <| tb_i 1 <| tb_iadd <| tb_sld xs sL <| tb_aload 0 <| tb_iload 3 <| tb_i 2 <| tb_iadd <| tb_sld xs sL <| tb_aload 0 <| tb_iload 3 <| tb_i 3 <| tb_iadd <| tb_sld xs sL <| tb_callV 3 4 9 RX11_better <| bkL_law_912 xs sL P q
theorem okL_law_893 {Z : tc_Z} {q : tc_Q} {xs : Nat → Int32} {sL : Nat} (X : tc_Cx ({ frames := 10, cells := 52, slots := 1871, locals := 348 } : Room) cL_law 4 RL Z) (Y : tc_Sc xs sL Z) (hr : tc_Rt 1 cL_law 4 Z q) : tc_Ok 4 Z 893 (bkL_law_893 xs sL (tc_At 4 Z) q) := by
  unfold bkL_law_893
  refine to_aload_n (pc := 893) X dL_law_893 rfl ?_
  refine to_aload_n (pc := 894) X dL_law_894 rfl ?_
  refine to_iload_n (pc := 895) X dL_law_895 rfl ?_
  refine to_iconst (pc := 896) X dL_law_896 (by decide) ?_
  refine to_iadd (pc := 897) X dL_law_897 ?_
  refine to_sld (pc := 898) X Y dL_law_898 ?_
  refine to_aload_n (pc := 899) X dL_law_899 rfl ?_
  refine to_iload_n (pc := 900) X dL_law_900 rfl ?_
  refine to_iconst (pc := 901) X dL_law_901 (by decide) ?_
  refine to_iadd (pc := 902) X dL_law_902 ?_
  refine to_sld (pc := 903) X Y dL_law_903 ?_
  refine to_aload_n (pc := 904) X dL_law_904 rfl ?_
  refine to_iload_n (pc := 905) X dL_law_905 rfl ?_
  refine to_iconst (pc := 906) X dL_law_906 (by decide) ?_
  refine to_iadd (pc := 907) X dL_law_907 ?_
  refine to_sld (pc := 908) X Y dL_law_908 ?_
  refine cvX11_better (pc := 909) X wm_RL_122 (by decide) dL_law_909 ?_
  exact okL_law_912 X Y hr
def bkL_law_868 (xs : Nat → Int32) (sL : Nat) (P : Nat → tc_B) (q : tc_Q) : tc_B := tb_lcmp <| tb_if_eq (tb_cut (P 1017) [0, 1, 2, 3]) <| tb_i 0 <| tb_zret q
theorem okL_law_868 {Z : tc_Z} {q : tc_Q} {xs : Nat → Int32} {sL : Nat} (X : tc_Cx ({ frames := 10, cells := 52, slots := 1871, locals := 348 } : Room) cL_law 4 RL Z) (Y : tc_Sc xs sL Z) (hr : tc_Rt 1 cL_law 4 Z q) : tc_Ok 4 Z 868 (bkL_law_868 xs sL (tc_At 4 Z) q) := by
  unfold bkL_law_868
  refine to_lcmp (pc := 868) X dL_law_868 ?_
  refine to_if_eq (pc := 869) (tgt := 1017) X dL_law_869 (by decide) ?_ ?_
  · exact to_cut [0, 1, 2, 3] (fun _ _ _ h => h)
  refine to_iconst (pc := 872) X dL_law_872 (by decide) ?_
  exact to_zret (pc := 873) hr dL_law_873
def bkL_law_854 (xs : Nat → Int32) (sL : Nat) (P : Nat → tc_B) (q : tc_Q) : tc_B := tb_aload 2 <| tb_aload 0 <| tb_iload 3 <| tb_i 1 <| tb_iadd <| tb_sld xs sL <| tb_aload 0 <| tb_iload 3 <| tb_i 2 <| tb_iadd <| tb_sld xs sL <| tb_callV 2 6 9 RX11_flat <| bkL_law_868 xs sL P q
theorem okL_law_854 {Z : tc_Z} {q : tc_Q} {xs : Nat → Int32} {sL : Nat} (X : tc_Cx ({ frames := 10, cells := 52, slots := 1871, locals := 348 } : Room) cL_law 4 RL Z) (Y : tc_Sc xs sL Z) (hr : tc_Rt 1 cL_law 4 Z q) : tc_Ok 4 Z 854 (bkL_law_854 xs sL (tc_At 4 Z) q) := by
  unfold bkL_law_854
  refine to_aload_n (pc := 854) X dL_law_854 rfl ?_
  refine to_aload_n (pc := 855) X dL_law_855 rfl ?_
  refine to_iload_n (pc := 856) X dL_law_856 rfl ?_
  refine to_iconst (pc := 857) X dL_law_857 (by decide) ?_
  refine to_iadd (pc := 858) X dL_law_858 ?_
  refine to_sld (pc := 859) X Y dL_law_859 ?_
  refine to_aload_n (pc := 860) X dL_law_860 rfl ?_
  refine to_iload_n (pc := 861) X dL_law_861 rfl ?_
  refine to_iconst (pc := 862) X dL_law_862 (by decide) ?_
  refine to_iadd (pc := 863) X dL_law_863 ?_
  refine to_sld (pc := 864) X Y dL_law_864 ?_
  refine cvX11_flat (pc := 865) X wm_RL_118 (by decide) dL_law_865 ?_
  exact okL_law_868 X Y hr
def bkL_law_835 (xs : Nat → Int32) (sL : Nat) (P : Nat → tc_B) (q : tc_Q) : tc_B := tb_icmp_eq (tb_cut (P 1017) [0, 1, 2, 3]) <| tb_i 0 <| tb_zret q
theorem okL_law_835 {Z : tc_Z} {q : tc_Q} {xs : Nat → Int32} {sL : Nat} (X : tc_Cx ({ frames := 10, cells := 52, slots := 1871, locals := 348 } : Room) cL_law 4 RL Z) (Y : tc_Sc xs sL Z) (hr : tc_Rt 1 cL_law 4 Z q) : tc_Ok 4 Z 835 (bkL_law_835 xs sL (tc_At 4 Z) q) := by
  unfold bkL_law_835
  refine to_icmp_eq (pc := 835) (tgt := 1017) X dL_law_835 (by decide) ?_ ?_
  · exact to_cut [0, 1, 2, 3] (fun _ _ _ h => h)
  refine to_iconst (pc := 838) X dL_law_838 (by decide) ?_
  exact to_zret (pc := 839) hr dL_law_839
def bkL_law_816 (xs : Nat → Int32) (sL : Nat) (P : Nat → tc_B) (q : tc_Q) : tc_B := tb_aload 2 <| tb_aload 0 <| tb_iload 3 <| tb_i 1 <| tb_iadd <| tb_sld xs sL <| tb_aload 0 <| tb_iload 3 <| tb_i 2 <| tb_iadd <| tb_sld xs sL <| tb_aload 0 <| tb_iload 3 <| tb_i 3 <| tb_iadd <| tb_sld xs sL <| tb_callV 3 4 9 RX11_pool <| bkL_law_835 xs sL P q
theorem okL_law_816 {Z : tc_Z} {q : tc_Q} {xs : Nat → Int32} {sL : Nat} (X : tc_Cx ({ frames := 10, cells := 52, slots := 1871, locals := 348 } : Room) cL_law 4 RL Z) (Y : tc_Sc xs sL Z) (hr : tc_Rt 1 cL_law 4 Z q) : tc_Ok 4 Z 816 (bkL_law_816 xs sL (tc_At 4 Z) q) := by
  unfold bkL_law_816
  refine to_aload_n (pc := 816) X dL_law_816 rfl ?_
  refine to_aload_n (pc := 817) X dL_law_817 rfl ?_
  refine to_iload_n (pc := 818) X dL_law_818 rfl ?_
  refine to_iconst (pc := 819) X dL_law_819 (by decide) ?_
  refine to_iadd (pc := 820) X dL_law_820 ?_
  refine to_sld (pc := 821) X Y dL_law_821 ?_
  refine to_aload_n (pc := 822) X dL_law_822 rfl ?_
  refine to_iload_n (pc := 823) X dL_law_823 rfl ?_
  refine to_iconst (pc := 824) X dL_law_824 (by decide) ?_
  refine to_iadd (pc := 825) X dL_law_825 ?_
  refine to_sld (pc := 826) X Y dL_law_826 ?_
  refine to_aload_n (pc := 827) X dL_law_827 rfl ?_
  refine to_iload_n (pc := 828) X dL_law_828 rfl ?_
  refine to_iconst (pc := 829) X dL_law_829 (by decide) ?_
  refine to_iadd (pc := 830) X dL_law_830 ?_
  refine to_sld (pc := 831) X Y dL_law_831 ?_
  refine cvX11_pool (pc := 832) X wm_RL_114 (by decide) dL_law_832 ?_
  exact okL_law_835 X Y hr
def bkL_law_792 (xs : Nat → Int32) (sL : Nat) (P : Nat → tc_B) (q : tc_Q) : tc_B := tb_icmp_eq (tb_cut (P 1017) [0, 1, 2, 3]) <| tb_i 0 <| tb_zret q
theorem okL_law_792 {Z : tc_Z} {q : tc_Q} {xs : Nat → Int32} {sL : Nat} (X : tc_Cx ({ frames := 10, cells := 52, slots := 1871, locals := 348 } : Room) cL_law 4 RL Z) (Y : tc_Sc xs sL Z) (hr : tc_Rt 1 cL_law 4 Z q) : tc_Ok 4 Z 792 (bkL_law_792 xs sL (tc_At 4 Z) q) := by
  unfold bkL_law_792
  refine to_icmp_eq (pc := 792) (tgt := 1017) X dL_law_792 (by decide) ?_ ?_
  · exact to_cut [0, 1, 2, 3] (fun _ _ _ h => h)
  refine to_iconst (pc := 795) X dL_law_795 (by decide) ?_
  exact to_zret (pc := 796) hr dL_law_796
def bkL_law_783 (xs : Nat → Int32) (sL : Nat) (P : Nat → tc_B) (q : tc_Q) : tc_B := tb_aload 2 <| tb_aload 0 <| tb_iload 3 <| tb_i 1 <| tb_iadd <| tb_sld xs sL <| tb_callV 1 2 9 RX11_pools <| bkL_law_792 xs sL P q
theorem okL_law_783 {Z : tc_Z} {q : tc_Q} {xs : Nat → Int32} {sL : Nat} (X : tc_Cx ({ frames := 10, cells := 52, slots := 1871, locals := 348 } : Room) cL_law 4 RL Z) (Y : tc_Sc xs sL Z) (hr : tc_Rt 1 cL_law 4 Z q) : tc_Ok 4 Z 783 (bkL_law_783 xs sL (tc_At 4 Z) q) := by
  unfold bkL_law_783
  refine to_aload_n (pc := 783) X dL_law_783 rfl ?_
  refine to_aload_n (pc := 784) X dL_law_784 rfl ?_
  refine to_iload_n (pc := 785) X dL_law_785 rfl ?_
  refine to_iconst (pc := 786) X dL_law_786 (by decide) ?_
  refine to_iadd (pc := 787) X dL_law_787 ?_
  refine to_sld (pc := 788) X Y dL_law_788 ?_
  refine cvX11_pools (pc := 789) X wm_RL_110 (by decide) dL_law_789 ?_
  exact okL_law_792 X Y hr
def bkL_law_768 (xs : Nat → Int32) (sL : Nat) (P : Nat → tc_B) (q : tc_Q) : tc_B := tb_lcmp <| tb_if_eq (tb_cut (P 1017) [0, 1, 2, 3]) <| tb_i 0 <| tb_zret q
theorem okL_law_768 {Z : tc_Z} {q : tc_Q} {xs : Nat → Int32} {sL : Nat} (X : tc_Cx ({ frames := 10, cells := 52, slots := 1871, locals := 348 } : Room) cL_law 4 RL Z) (Y : tc_Sc xs sL Z) (hr : tc_Rt 1 cL_law 4 Z q) : tc_Ok 4 Z 768 (bkL_law_768 xs sL (tc_At 4 Z) q) := by
  unfold bkL_law_768
  refine to_lcmp (pc := 768) X dL_law_768 ?_
  refine to_if_eq (pc := 769) (tgt := 1017) X dL_law_769 (by decide) ?_ ?_
  · exact to_cut [0, 1, 2, 3] (fun _ _ _ h => h)
  refine to_iconst (pc := 772) X dL_law_772 (by decide) ?_
  exact to_zret (pc := 773) hr dL_law_773
def bkL_law_754 (xs : Nat → Int32) (sL : Nat) (P : Nat → tc_B) (q : tc_Q) : tc_B := tb_aload 2 <| tb_aload 0 <| tb_iload 3 <| tb_i 1 <| tb_iadd <| tb_sld xs sL <| tb_aload 0 <| tb_iload 3 <| tb_i 2 <| tb_iadd <| tb_sld xs sL <| tb_callV 2 8 9 RX11_area <| bkL_law_768 xs sL P q
theorem okL_law_754 {Z : tc_Z} {q : tc_Q} {xs : Nat → Int32} {sL : Nat} (X : tc_Cx ({ frames := 10, cells := 52, slots := 1871, locals := 348 } : Room) cL_law 4 RL Z) (Y : tc_Sc xs sL Z) (hr : tc_Rt 1 cL_law 4 Z q) : tc_Ok 4 Z 754 (bkL_law_754 xs sL (tc_At 4 Z) q) := by
  unfold bkL_law_754
  refine to_aload_n (pc := 754) X dL_law_754 rfl ?_
  refine to_aload_n (pc := 755) X dL_law_755 rfl ?_
  refine to_iload_n (pc := 756) X dL_law_756 rfl ?_
  refine to_iconst (pc := 757) X dL_law_757 (by decide) ?_
  refine to_iadd (pc := 758) X dL_law_758 ?_
  refine to_sld (pc := 759) X Y dL_law_759 ?_
  refine to_aload_n (pc := 760) X dL_law_760 rfl ?_
  refine to_iload_n (pc := 761) X dL_law_761 rfl ?_
  refine to_iconst (pc := 762) X dL_law_762 (by decide) ?_
  refine to_iadd (pc := 763) X dL_law_763 ?_
  refine to_sld (pc := 764) X Y dL_law_764 ?_
  refine cvX11_area (pc := 765) X wm_RL_106 (by decide) dL_law_765 ?_
  exact okL_law_768 X Y hr
def bkL_law_734 (xs : Nat → Int32) (sL : Nat) (P : Nat → tc_B) (q : tc_Q) : tc_B := tb_lcmp <| tb_if_eq (tb_cut (P 1017) [0, 1, 2, 3]) <| tb_i 0 <| tb_zret q
theorem okL_law_734 {Z : tc_Z} {q : tc_Q} {xs : Nat → Int32} {sL : Nat} (X : tc_Cx ({ frames := 10, cells := 52, slots := 1871, locals := 348 } : Room) cL_law 4 RL Z) (Y : tc_Sc xs sL Z) (hr : tc_Rt 1 cL_law 4 Z q) : tc_Ok 4 Z 734 (bkL_law_734 xs sL (tc_At 4 Z) q) := by
  unfold bkL_law_734
  refine to_lcmp (pc := 734) X dL_law_734 ?_
  refine to_if_eq (pc := 735) (tgt := 1017) X dL_law_735 (by decide) ?_ ?_
  · exact to_cut [0, 1, 2, 3] (fun _ _ _ h => h)
  refine to_iconst (pc := 738) X dL_law_738 (by decide) ?_
  exact to_zret (pc := 739) hr dL_law_739
def bkL_law_715 (xs : Nat → Int32) (sL : Nat) (P : Nat → tc_B) (q : tc_Q) : tc_B := tb_aload 2 <| tb_aload 0 <| tb_iload 3 <| tb_i 1 <| tb_iadd <| tb_sld xs sL <| tb_aload 0 <| tb_iload 3 <| tb_i 2 <| tb_iadd <| tb_sld xs sL <| tb_aload 0 <| tb_iload 3 <| tb_i 3 <| tb_iadd <| tb_sld xs sL <| tb_callV 3 4 9 RX11_joined <| bkL_law_734 xs sL P q
theorem okL_law_715 {Z : tc_Z} {q : tc_Q} {xs : Nat → Int32} {sL : Nat} (X : tc_Cx ({ frames := 10, cells := 52, slots := 1871, locals := 348 } : Room) cL_law 4 RL Z) (Y : tc_Sc xs sL Z) (hr : tc_Rt 1 cL_law 4 Z q) : tc_Ok 4 Z 715 (bkL_law_715 xs sL (tc_At 4 Z) q) := by
  unfold bkL_law_715
  refine to_aload_n (pc := 715) X dL_law_715 rfl ?_
  refine to_aload_n (pc := 716) X dL_law_716 rfl ?_
  refine to_iload_n (pc := 717) X dL_law_717 rfl ?_
  refine to_iconst (pc := 718) X dL_law_718 (by decide) ?_
  refine to_iadd (pc := 719) X dL_law_719 ?_
  refine to_sld (pc := 720) X Y dL_law_720 ?_
  refine to_aload_n (pc := 721) X dL_law_721 rfl ?_
  refine to_iload_n (pc := 722) X dL_law_722 rfl ?_
  refine to_iconst (pc := 723) X dL_law_723 (by decide) ?_
  refine to_iadd (pc := 724) X dL_law_724 ?_
  refine to_sld (pc := 725) X Y dL_law_725 ?_
  refine to_aload_n (pc := 726) X dL_law_726 rfl ?_
  refine to_iload_n (pc := 727) X dL_law_727 rfl ?_
  refine to_iconst (pc := 728) X dL_law_728 (by decide) ?_
  refine to_iadd (pc := 729) X dL_law_729 ?_
  refine to_sld (pc := 730) X Y dL_law_730 ?_
  refine cvX11_joined (pc := 731) X wm_RL_102 (by decide) dL_law_731 ?_
  exact okL_law_734 X Y hr
def bkL_law_690 (xs : Nat → Int32) (sL : Nat) (P : Nat → tc_B) (q : tc_Q) : tc_B := tb_lcmp <| tb_if_eq (tb_cut (P 1017) [0, 1, 2, 3]) <| tb_i 0 <| tb_zret q
theorem okL_law_690 {Z : tc_Z} {q : tc_Q} {xs : Nat → Int32} {sL : Nat} (X : tc_Cx ({ frames := 10, cells := 52, slots := 1871, locals := 348 } : Room) cL_law 4 RL Z) (Y : tc_Sc xs sL Z) (hr : tc_Rt 1 cL_law 4 Z q) : tc_Ok 4 Z 690 (bkL_law_690 xs sL (tc_At 4 Z) q) := by
  unfold bkL_law_690
  refine to_lcmp (pc := 690) X dL_law_690 ?_
  refine to_if_eq (pc := 691) (tgt := 1017) X dL_law_691 (by decide) ?_ ?_
  · exact to_cut [0, 1, 2, 3] (fun _ _ _ h => h)
  refine to_iconst (pc := 694) X dL_law_694 (by decide) ?_
  exact to_zret (pc := 695) hr dL_law_695
def bkL_law_671 (xs : Nat → Int32) (sL : Nat) (P : Nat → tc_B) (q : tc_Q) : tc_B := tb_aload 2 <| tb_aload 0 <| tb_iload 3 <| tb_i 1 <| tb_iadd <| tb_sld xs sL <| tb_aload 0 <| tb_iload 3 <| tb_i 2 <| tb_iadd <| tb_sld xs sL <| tb_aload 0 <| tb_iload 3 <| tb_i 3 <| tb_iadd <| tb_sld xs sL <| tb_callV 3 4 9 RX11_split <| bkL_law_690 xs sL P q
theorem okL_law_671 {Z : tc_Z} {q : tc_Q} {xs : Nat → Int32} {sL : Nat} (X : tc_Cx ({ frames := 10, cells := 52, slots := 1871, locals := 348 } : Room) cL_law 4 RL Z) (Y : tc_Sc xs sL Z) (hr : tc_Rt 1 cL_law 4 Z q) : tc_Ok 4 Z 671 (bkL_law_671 xs sL (tc_At 4 Z) q) := by
  unfold bkL_law_671
  refine to_aload_n (pc := 671) X dL_law_671 rfl ?_
  refine to_aload_n (pc := 672) X dL_law_672 rfl ?_
  refine to_iload_n (pc := 673) X dL_law_673 rfl ?_
  refine to_iconst (pc := 674) X dL_law_674 (by decide) ?_
  refine to_iadd (pc := 675) X dL_law_675 ?_
  refine to_sld (pc := 676) X Y dL_law_676 ?_
  refine to_aload_n (pc := 677) X dL_law_677 rfl ?_
  refine to_iload_n (pc := 678) X dL_law_678 rfl ?_
  refine to_iconst (pc := 679) X dL_law_679 (by decide) ?_
  refine to_iadd (pc := 680) X dL_law_680 ?_
  refine to_sld (pc := 681) X Y dL_law_681 ?_
  refine to_aload_n (pc := 682) X dL_law_682 rfl ?_
  refine to_iload_n (pc := 683) X dL_law_683 rfl ?_
  refine to_iconst (pc := 684) X dL_law_684 (by decide) ?_
  refine to_iadd (pc := 685) X dL_law_685 ?_
  refine to_sld (pc := 686) X Y dL_law_686 ?_
  refine cvX11_split (pc := 687) X wm_RL_98 (by decide) dL_law_687 ?_
  exact okL_law_690 X Y hr
def bkL_law_647 (xs : Nat → Int32) (sL : Nat) (P : Nat → tc_B) (q : tc_Q) : tc_B := tb_icmp_eq (tb_cut (P 1017) [0, 1, 2, 3]) <| tb_i 0 <| tb_zret q
theorem okL_law_647 {Z : tc_Z} {q : tc_Q} {xs : Nat → Int32} {sL : Nat} (X : tc_Cx ({ frames := 10, cells := 52, slots := 1871, locals := 348 } : Room) cL_law 4 RL Z) (Y : tc_Sc xs sL Z) (hr : tc_Rt 1 cL_law 4 Z q) : tc_Ok 4 Z 647 (bkL_law_647 xs sL (tc_At 4 Z) q) := by
  unfold bkL_law_647
  refine to_icmp_eq (pc := 647) (tgt := 1017) X dL_law_647 (by decide) ?_ ?_
  · exact to_cut [0, 1, 2, 3] (fun _ _ _ h => h)
  refine to_iconst (pc := 650) X dL_law_650 (by decide) ?_
  exact to_zret (pc := 651) hr dL_law_651
def bkL_law_628 (xs : Nat → Int32) (sL : Nat) (P : Nat → tc_B) (q : tc_Q) : tc_B := tb_aload 2 <| tb_aload 0 <| tb_iload 3 <| tb_i 1 <| tb_iadd <| tb_sld xs sL <| tb_aload 0 <| tb_iload 3 <| tb_i 2 <| tb_iadd <| tb_sld xs sL <| tb_aload 0 <| tb_iload 3 <| tb_i 3 <| tb_iadd <| tb_sld xs sL <| tb_callV 3 4 9 RX11_bin <| bkL_law_647 xs sL P q
theorem okL_law_628 {Z : tc_Z} {q : tc_Q} {xs : Nat → Int32} {sL : Nat} (X : tc_Cx ({ frames := 10, cells := 52, slots := 1871, locals := 348 } : Room) cL_law 4 RL Z) (Y : tc_Sc xs sL Z) (hr : tc_Rt 1 cL_law 4 Z q) : tc_Ok 4 Z 628 (bkL_law_628 xs sL (tc_At 4 Z) q) := by
  unfold bkL_law_628
  refine to_aload_n (pc := 628) X dL_law_628 rfl ?_
  refine to_aload_n (pc := 629) X dL_law_629 rfl ?_
  refine to_iload_n (pc := 630) X dL_law_630 rfl ?_
  refine to_iconst (pc := 631) X dL_law_631 (by decide) ?_
  refine to_iadd (pc := 632) X dL_law_632 ?_
  refine to_sld (pc := 633) X Y dL_law_633 ?_
  refine to_aload_n (pc := 634) X dL_law_634 rfl ?_
  refine to_iload_n (pc := 635) X dL_law_635 rfl ?_
  refine to_iconst (pc := 636) X dL_law_636 (by decide) ?_
  refine to_iadd (pc := 637) X dL_law_637 ?_
  refine to_sld (pc := 638) X Y dL_law_638 ?_
  refine to_aload_n (pc := 639) X dL_law_639 rfl ?_
  refine to_iload_n (pc := 640) X dL_law_640 rfl ?_
  refine to_iconst (pc := 641) X dL_law_641 (by decide) ?_
  refine to_iadd (pc := 642) X dL_law_642 ?_
  refine to_sld (pc := 643) X Y dL_law_643 ?_
  refine cvX11_bin (pc := 644) X wm_RL_93 (by decide) dL_law_644 ?_
  exact okL_law_647 X Y hr
def bkL_law_604 (xs : Nat → Int32) (sL : Nat) (P : Nat → tc_B) (q : tc_Q) : tc_B := tb_icmp_eq (tb_cut (P 1017) [0, 1, 2, 3]) <| tb_i 0 <| tb_zret q
theorem okL_law_604 {Z : tc_Z} {q : tc_Q} {xs : Nat → Int32} {sL : Nat} (X : tc_Cx ({ frames := 10, cells := 52, slots := 1871, locals := 348 } : Room) cL_law 4 RL Z) (Y : tc_Sc xs sL Z) (hr : tc_Rt 1 cL_law 4 Z q) : tc_Ok 4 Z 604 (bkL_law_604 xs sL (tc_At 4 Z) q) := by
  unfold bkL_law_604
  refine to_icmp_eq (pc := 604) (tgt := 1017) X dL_law_604 (by decide) ?_ ?_
  · exact to_cut [0, 1, 2, 3] (fun _ _ _ h => h)
  refine to_iconst (pc := 607) X dL_law_607 (by decide) ?_
  exact to_zret (pc := 608) hr dL_law_608
def bkL_law_595 (xs : Nat → Int32) (sL : Nat) (P : Nat → tc_B) (q : tc_Q) : tc_B := tb_aload 2 <| tb_aload 0 <| tb_iload 3 <| tb_i 1 <| tb_iadd <| tb_sld xs sL <| tb_callV 1 2 9 RX11_cut <| bkL_law_604 xs sL P q
theorem okL_law_595 {Z : tc_Z} {q : tc_Q} {xs : Nat → Int32} {sL : Nat} (X : tc_Cx ({ frames := 10, cells := 52, slots := 1871, locals := 348 } : Room) cL_law 4 RL Z) (Y : tc_Sc xs sL Z) (hr : tc_Rt 1 cL_law 4 Z q) : tc_Ok 4 Z 595 (bkL_law_595 xs sL (tc_At 4 Z) q) := by
  unfold bkL_law_595
  refine to_aload_n (pc := 595) X dL_law_595 rfl ?_
  refine to_aload_n (pc := 596) X dL_law_596 rfl ?_
  refine to_iload_n (pc := 597) X dL_law_597 rfl ?_
  refine to_iconst (pc := 598) X dL_law_598 (by decide) ?_
  refine to_iadd (pc := 599) X dL_law_599 ?_
  refine to_sld (pc := 600) X Y dL_law_600 ?_
  refine cvX11_cut (pc := 601) X wm_RL_89 (by decide) dL_law_601 ?_
  exact okL_law_604 X Y hr
def bkL_law_581 (xs : Nat → Int32) (sL : Nat) (P : Nat → tc_B) (q : tc_Q) : tc_B := tb_icmp_eq (tb_cut (P 1017) [0, 1, 2, 3]) <| tb_i 0 <| tb_zret q
theorem okL_law_581 {Z : tc_Z} {q : tc_Q} {xs : Nat → Int32} {sL : Nat} (X : tc_Cx ({ frames := 10, cells := 52, slots := 1871, locals := 348 } : Room) cL_law 4 RL Z) (Y : tc_Sc xs sL Z) (hr : tc_Rt 1 cL_law 4 Z q) : tc_Ok 4 Z 581 (bkL_law_581 xs sL (tc_At 4 Z) q) := by
  unfold bkL_law_581
  refine to_icmp_eq (pc := 581) (tgt := 1017) X dL_law_581 (by decide) ?_ ?_
  · exact to_cut [0, 1, 2, 3] (fun _ _ _ h => h)
  refine to_iconst (pc := 584) X dL_law_584 (by decide) ?_
  exact to_zret (pc := 585) hr dL_law_585
def bkL_law_577 (xs : Nat → Int32) (sL : Nat) (P : Nat → tc_B) (q : tc_Q) : tc_B := tb_aload 2 <| tb_callV 0 3 9 RX11_honest <| bkL_law_581 xs sL P q
theorem okL_law_577 {Z : tc_Z} {q : tc_Q} {xs : Nat → Int32} {sL : Nat} (X : tc_Cx ({ frames := 10, cells := 52, slots := 1871, locals := 348 } : Room) cL_law 4 RL Z) (Y : tc_Sc xs sL Z) (hr : tc_Rt 1 cL_law 4 Z q) : tc_Ok 4 Z 577 (bkL_law_577 xs sL (tc_At 4 Z) q) := by
  unfold bkL_law_577
  refine to_aload_n (pc := 577) X dL_law_577 rfl ?_
  refine cvX11_honest (pc := 578) X wm_RL_85 (by decide) dL_law_578 ?_
  exact okL_law_581 X Y hr
def bkL_law_568 (xs : Nat → Int32) (sL : Nat) (P : Nat → tc_B) (q : tc_Q) : tc_B := tb_icmp_eq (tb_cut (P 1017) [0, 1, 2, 3]) <| tb_i 0 <| tb_zret q
theorem okL_law_568 {Z : tc_Z} {q : tc_Q} {xs : Nat → Int32} {sL : Nat} (X : tc_Cx ({ frames := 10, cells := 52, slots := 1871, locals := 348 } : Room) cL_law 4 RL Z) (Y : tc_Sc xs sL Z) (hr : tc_Rt 1 cL_law 4 Z q) : tc_Ok 4 Z 568 (bkL_law_568 xs sL (tc_At 4 Z) q) := by
  unfold bkL_law_568
  refine to_icmp_eq (pc := 568) (tgt := 1017) X dL_law_568 (by decide) ?_ ?_
  · exact to_cut [0, 1, 2, 3] (fun _ _ _ h => h)
  refine to_iconst (pc := 571) X dL_law_571 (by decide) ?_
  exact to_zret (pc := 572) hr dL_law_572
def bkL_law_559 (xs : Nat → Int32) (sL : Nat) (P : Nat → tc_B) (q : tc_Q) : tc_B := tb_aload 2 <| tb_aload 0 <| tb_iload 3 <| tb_i 1 <| tb_iadd <| tb_sld xs sL <| tb_callV 1 2 9 RX11_lure <| bkL_law_568 xs sL P q
theorem okL_law_559 {Z : tc_Z} {q : tc_Q} {xs : Nat → Int32} {sL : Nat} (X : tc_Cx ({ frames := 10, cells := 52, slots := 1871, locals := 348 } : Room) cL_law 4 RL Z) (Y : tc_Sc xs sL Z) (hr : tc_Rt 1 cL_law 4 Z q) : tc_Ok 4 Z 559 (bkL_law_559 xs sL (tc_At 4 Z) q) := by
  unfold bkL_law_559
  refine to_aload_n (pc := 559) X dL_law_559 rfl ?_
  refine to_aload_n (pc := 560) X dL_law_560 rfl ?_
  refine to_iload_n (pc := 561) X dL_law_561 rfl ?_
  refine to_iconst (pc := 562) X dL_law_562 (by decide) ?_
  refine to_iadd (pc := 563) X dL_law_563 ?_
  refine to_sld (pc := 564) X Y dL_law_564 ?_
  refine cvX11_lure (pc := 565) X wm_RL_81 (by decide) dL_law_565 ?_
  exact okL_law_568 X Y hr
def bkL_law_545 (xs : Nat → Int32) (sL : Nat) (P : Nat → tc_B) (q : tc_Q) : tc_B := tb_icmp_eq (tb_cut (P 1017) [0, 1, 2, 3]) <| tb_i 0 <| tb_zret q
theorem okL_law_545 {Z : tc_Z} {q : tc_Q} {xs : Nat → Int32} {sL : Nat} (X : tc_Cx ({ frames := 10, cells := 52, slots := 1871, locals := 348 } : Room) cL_law 4 RL Z) (Y : tc_Sc xs sL Z) (hr : tc_Rt 1 cL_law 4 Z q) : tc_Ok 4 Z 545 (bkL_law_545 xs sL (tc_At 4 Z) q) := by
  unfold bkL_law_545
  refine to_icmp_eq (pc := 545) (tgt := 1017) X dL_law_545 (by decide) ?_ ?_
  · exact to_cut [0, 1, 2, 3] (fun _ _ _ h => h)
  refine to_iconst (pc := 548) X dL_law_548 (by decide) ?_
  exact to_zret (pc := 549) hr dL_law_549
def bkL_law_536 (xs : Nat → Int32) (sL : Nat) (P : Nat → tc_B) (q : tc_Q) : tc_B := tb_aload 2 <| tb_aload 0 <| tb_iload 3 <| tb_i 1 <| tb_iadd <| tb_sld xs sL <| tb_callV 1 5 9 RX11_rank <| bkL_law_545 xs sL P q
theorem okL_law_536 {Z : tc_Z} {q : tc_Q} {xs : Nat → Int32} {sL : Nat} (X : tc_Cx ({ frames := 10, cells := 52, slots := 1871, locals := 348 } : Room) cL_law 4 RL Z) (Y : tc_Sc xs sL Z) (hr : tc_Rt 1 cL_law 4 Z q) : tc_Ok 4 Z 536 (bkL_law_536 xs sL (tc_At 4 Z) q) := by
  unfold bkL_law_536
  refine to_aload_n (pc := 536) X dL_law_536 rfl ?_
  refine to_aload_n (pc := 537) X dL_law_537 rfl ?_
  refine to_iload_n (pc := 538) X dL_law_538 rfl ?_
  refine to_iconst (pc := 539) X dL_law_539 (by decide) ?_
  refine to_iadd (pc := 540) X dL_law_540 ?_
  refine to_sld (pc := 541) X Y dL_law_541 ?_
  refine cvX11_rank (pc := 542) X wm_RL_77 (by decide) dL_law_542 ?_
  exact okL_law_545 X Y hr
def bkL_law_521 (xs : Nat → Int32) (sL : Nat) (P : Nat → tc_B) (q : tc_Q) : tc_B := tb_lcmp <| tb_if_eq (tb_cut (P 1017) [0, 1, 2, 3]) <| tb_i 0 <| tb_zret q
theorem okL_law_521 {Z : tc_Z} {q : tc_Q} {xs : Nat → Int32} {sL : Nat} (X : tc_Cx ({ frames := 10, cells := 52, slots := 1871, locals := 348 } : Room) cL_law 4 RL Z) (Y : tc_Sc xs sL Z) (hr : tc_Rt 1 cL_law 4 Z q) : tc_Ok 4 Z 521 (bkL_law_521 xs sL (tc_At 4 Z) q) := by
  unfold bkL_law_521
  refine to_lcmp (pc := 521) X dL_law_521 ?_
  refine to_if_eq (pc := 522) (tgt := 1017) X dL_law_522 (by decide) ?_ ?_
  · exact to_cut [0, 1, 2, 3] (fun _ _ _ h => h)
  refine to_iconst (pc := 525) X dL_law_525 (by decide) ?_
  exact to_zret (pc := 526) hr dL_law_526
def bkL_law_507 (xs : Nat → Int32) (sL : Nat) (P : Nat → tc_B) (q : tc_Q) : tc_B := tb_aload 2 <| tb_aload 0 <| tb_iload 3 <| tb_i 1 <| tb_iadd <| tb_sld xs sL <| tb_aload 0 <| tb_iload 3 <| tb_i 2 <| tb_iadd <| tb_sld xs sL <| tb_callV 2 3 9 RX11_score <| bkL_law_521 xs sL P q
theorem okL_law_507 {Z : tc_Z} {q : tc_Q} {xs : Nat → Int32} {sL : Nat} (X : tc_Cx ({ frames := 10, cells := 52, slots := 1871, locals := 348 } : Room) cL_law 4 RL Z) (Y : tc_Sc xs sL Z) (hr : tc_Rt 1 cL_law 4 Z q) : tc_Ok 4 Z 507 (bkL_law_507 xs sL (tc_At 4 Z) q) := by
  unfold bkL_law_507
  refine to_aload_n (pc := 507) X dL_law_507 rfl ?_
  refine to_aload_n (pc := 508) X dL_law_508 rfl ?_
  refine to_iload_n (pc := 509) X dL_law_509 rfl ?_
  refine to_iconst (pc := 510) X dL_law_510 (by decide) ?_
  refine to_iadd (pc := 511) X dL_law_511 ?_
  refine to_sld (pc := 512) X Y dL_law_512 ?_
  refine to_aload_n (pc := 513) X dL_law_513 rfl ?_
  refine to_iload_n (pc := 514) X dL_law_514 rfl ?_
  refine to_iconst (pc := 515) X dL_law_515 (by decide) ?_
  refine to_iadd (pc := 516) X dL_law_516 ?_
  refine to_sld (pc := 517) X Y dL_law_517 ?_
  refine cvX11_score (pc := 518) X wm_RL_73 (by decide) dL_law_518 ?_
  exact okL_law_521 X Y hr
def bkL_law_488 (xs : Nat → Int32) (sL : Nat) (P : Nat → tc_B) (q : tc_Q) : tc_B := tb_icmp_eq (tb_cut (P 1017) [0, 1, 2, 3]) <| tb_i 0 <| tb_zret q
theorem okL_law_488 {Z : tc_Z} {q : tc_Q} {xs : Nat → Int32} {sL : Nat} (X : tc_Cx ({ frames := 10, cells := 52, slots := 1871, locals := 348 } : Room) cL_law 4 RL Z) (Y : tc_Sc xs sL Z) (hr : tc_Rt 1 cL_law 4 Z q) : tc_Ok 4 Z 488 (bkL_law_488 xs sL (tc_At 4 Z) q) := by
  unfold bkL_law_488
  refine to_icmp_eq (pc := 488) (tgt := 1017) X dL_law_488 (by decide) ?_ ?_
  · exact to_cut [0, 1, 2, 3] (fun _ _ _ h => h)
  refine to_iconst (pc := 491) X dL_law_491 (by decide) ?_
  exact to_zret (pc := 492) hr dL_law_492
def bkL_law_474 (xs : Nat → Int32) (sL : Nat) (P : Nat → tc_B) (q : tc_Q) : tc_B := tb_aload 2 <| tb_aload 0 <| tb_iload 3 <| tb_i 1 <| tb_iadd <| tb_sld xs sL <| tb_aload 0 <| tb_iload 3 <| tb_i 2 <| tb_iadd <| tb_sld xs sL <| tb_callV 2 3 9 RX11_miss <| bkL_law_488 xs sL P q
theorem okL_law_474 {Z : tc_Z} {q : tc_Q} {xs : Nat → Int32} {sL : Nat} (X : tc_Cx ({ frames := 10, cells := 52, slots := 1871, locals := 348 } : Room) cL_law 4 RL Z) (Y : tc_Sc xs sL Z) (hr : tc_Rt 1 cL_law 4 Z q) : tc_Ok 4 Z 474 (bkL_law_474 xs sL (tc_At 4 Z) q) := by
  unfold bkL_law_474
  refine to_aload_n (pc := 474) X dL_law_474 rfl ?_
  refine to_aload_n (pc := 475) X dL_law_475 rfl ?_
  refine to_iload_n (pc := 476) X dL_law_476 rfl ?_
  refine to_iconst (pc := 477) X dL_law_477 (by decide) ?_
  refine to_iadd (pc := 478) X dL_law_478 ?_
  refine to_sld (pc := 479) X Y dL_law_479 ?_
  refine to_aload_n (pc := 480) X dL_law_480 rfl ?_
  refine to_iload_n (pc := 481) X dL_law_481 rfl ?_
  refine to_iconst (pc := 482) X dL_law_482 (by decide) ?_
  refine to_iadd (pc := 483) X dL_law_483 ?_
  refine to_sld (pc := 484) X Y dL_law_484 ?_
  refine cvX11_miss (pc := 485) X wm_RL_68 (by decide) dL_law_485 ?_
  exact okL_law_488 X Y hr
def bkL_law_455 (xs : Nat → Int32) (sL : Nat) (P : Nat → tc_B) (q : tc_Q) : tc_B := tb_icmp_eq (tb_cut (P 1017) [0, 1, 2, 3]) <| tb_i 0 <| tb_zret q
theorem okL_law_455 {Z : tc_Z} {q : tc_Q} {xs : Nat → Int32} {sL : Nat} (X : tc_Cx ({ frames := 10, cells := 52, slots := 1871, locals := 348 } : Room) cL_law 4 RL Z) (Y : tc_Sc xs sL Z) (hr : tc_Rt 1 cL_law 4 Z q) : tc_Ok 4 Z 455 (bkL_law_455 xs sL (tc_At 4 Z) q) := by
  unfold bkL_law_455
  refine to_icmp_eq (pc := 455) (tgt := 1017) X dL_law_455 (by decide) ?_ ?_
  · exact to_cut [0, 1, 2, 3] (fun _ _ _ h => h)
  refine to_iconst (pc := 458) X dL_law_458 (by decide) ?_
  exact to_zret (pc := 459) hr dL_law_459
def bkL_law_451 (xs : Nat → Int32) (sL : Nat) (P : Nat → tc_B) (q : tc_Q) : tc_B := tb_aload 2 <| tb_callV 0 2 9 RX11_rule <| bkL_law_455 xs sL P q
theorem okL_law_451 {Z : tc_Z} {q : tc_Q} {xs : Nat → Int32} {sL : Nat} (X : tc_Cx ({ frames := 10, cells := 52, slots := 1871, locals := 348 } : Room) cL_law 4 RL Z) (Y : tc_Sc xs sL Z) (hr : tc_Rt 1 cL_law 4 Z q) : tc_Ok 4 Z 451 (bkL_law_451 xs sL (tc_At 4 Z) q) := by
  unfold bkL_law_451
  refine to_aload_n (pc := 451) X dL_law_451 rfl ?_
  refine cvX11_rule (pc := 452) X wm_RL_64 (by decide) dL_law_452 ?_
  exact okL_law_455 X Y hr
def bkL_law_442 (xs : Nat → Int32) (sL : Nat) (P : Nat → tc_B) (q : tc_Q) : tc_B := tb_icmp_eq (tb_cut (P 1017) [0, 1, 2, 3]) <| tb_i 0 <| tb_zret q
theorem okL_law_442 {Z : tc_Z} {q : tc_Q} {xs : Nat → Int32} {sL : Nat} (X : tc_Cx ({ frames := 10, cells := 52, slots := 1871, locals := 348 } : Room) cL_law 4 RL Z) (Y : tc_Sc xs sL Z) (hr : tc_Rt 1 cL_law 4 Z q) : tc_Ok 4 Z 442 (bkL_law_442 xs sL (tc_At 4 Z) q) := by
  unfold bkL_law_442
  refine to_icmp_eq (pc := 442) (tgt := 1017) X dL_law_442 (by decide) ?_ ?_
  · exact to_cut [0, 1, 2, 3] (fun _ _ _ h => h)
  refine to_iconst (pc := 445) X dL_law_445 (by decide) ?_
  exact to_zret (pc := 446) hr dL_law_446
def bkL_law_438 (xs : Nat → Int32) (sL : Nat) (P : Nat → tc_B) (q : tc_Q) : tc_B := tb_aload 2 <| tb_callV 0 1 9 RX11_line <| bkL_law_442 xs sL P q
theorem okL_law_438 {Z : tc_Z} {q : tc_Q} {xs : Nat → Int32} {sL : Nat} (X : tc_Cx ({ frames := 10, cells := 52, slots := 1871, locals := 348 } : Room) cL_law 4 RL Z) (Y : tc_Sc xs sL Z) (hr : tc_Rt 1 cL_law 4 Z q) : tc_Ok 4 Z 438 (bkL_law_438 xs sL (tc_At 4 Z) q) := by
  unfold bkL_law_438
  refine to_aload_n (pc := 438) X dL_law_438 rfl ?_
  refine cvX11_line (pc := 439) X wm_RL_60 (by decide) dL_law_439 ?_
  exact okL_law_442 X Y hr
def bkL_law_429 (xs : Nat → Int32) (sL : Nat) (P : Nat → tc_B) (q : tc_Q) : tc_B := tb_icmp_eq (tb_cut (P 1017) [0, 1, 2, 3]) <| tb_i 0 <| tb_zret q
theorem okL_law_429 {Z : tc_Z} {q : tc_Q} {xs : Nat → Int32} {sL : Nat} (X : tc_Cx ({ frames := 10, cells := 52, slots := 1871, locals := 348 } : Room) cL_law 4 RL Z) (Y : tc_Sc xs sL Z) (hr : tc_Rt 1 cL_law 4 Z q) : tc_Ok 4 Z 429 (bkL_law_429 xs sL (tc_At 4 Z) q) := by
  unfold bkL_law_429
  refine to_icmp_eq (pc := 429) (tgt := 1017) X dL_law_429 (by decide) ?_ ?_
  · exact to_cut [0, 1, 2, 3] (fun _ _ _ h => h)
  refine to_iconst (pc := 432) X dL_law_432 (by decide) ?_
  exact to_zret (pc := 433) hr dL_law_433
def bkL_law_425 (xs : Nat → Int32) (sL : Nat) (P : Nat → tc_B) (q : tc_Q) : tc_B := tb_aload 2 <| tb_callV 0 2 9 RX11_wipe <| bkL_law_429 xs sL P q
theorem okL_law_425 {Z : tc_Z} {q : tc_Q} {xs : Nat → Int32} {sL : Nat} (X : tc_Cx ({ frames := 10, cells := 52, slots := 1871, locals := 348 } : Room) cL_law 4 RL Z) (Y : tc_Sc xs sL Z) (hr : tc_Rt 1 cL_law 4 Z q) : tc_Ok 4 Z 425 (bkL_law_425 xs sL (tc_At 4 Z) q) := by
  unfold bkL_law_425
  refine to_aload_n (pc := 425) X dL_law_425 rfl ?_
  refine cvX11_wipe (pc := 426) X wm_RL_56 (by decide) dL_law_426 ?_
  exact okL_law_429 X Y hr
def bkL_law_416 (xs : Nat → Int32) (sL : Nat) (P : Nat → tc_B) (q : tc_Q) : tc_B := tb_icmp_eq (tb_cut (P 1017) [0, 1, 2, 3]) <| tb_i 0 <| tb_zret q
theorem okL_law_416 {Z : tc_Z} {q : tc_Q} {xs : Nat → Int32} {sL : Nat} (X : tc_Cx ({ frames := 10, cells := 52, slots := 1871, locals := 348 } : Room) cL_law 4 RL Z) (Y : tc_Sc xs sL Z) (hr : tc_Rt 1 cL_law 4 Z q) : tc_Ok 4 Z 416 (bkL_law_416 xs sL (tc_At 4 Z) q) := by
  unfold bkL_law_416
  refine to_icmp_eq (pc := 416) (tgt := 1017) X dL_law_416 (by decide) ?_ ?_
  · exact to_cut [0, 1, 2, 3] (fun _ _ _ h => h)
  refine to_iconst (pc := 419) X dL_law_419 (by decide) ?_
  exact to_zret (pc := 420) hr dL_law_420
def bkL_law_407 (xs : Nat → Int32) (sL : Nat) (P : Nat → tc_B) (q : tc_Q) : tc_B := tb_aload 2 <| tb_aload 0 <| tb_iload 3 <| tb_i 1 <| tb_iadd <| tb_sld xs sL <| tb_callV 1 2 9 RX11_key <| bkL_law_416 xs sL P q
theorem okL_law_407 {Z : tc_Z} {q : tc_Q} {xs : Nat → Int32} {sL : Nat} (X : tc_Cx ({ frames := 10, cells := 52, slots := 1871, locals := 348 } : Room) cL_law 4 RL Z) (Y : tc_Sc xs sL Z) (hr : tc_Rt 1 cL_law 4 Z q) : tc_Ok 4 Z 407 (bkL_law_407 xs sL (tc_At 4 Z) q) := by
  unfold bkL_law_407
  refine to_aload_n (pc := 407) X dL_law_407 rfl ?_
  refine to_aload_n (pc := 408) X dL_law_408 rfl ?_
  refine to_iload_n (pc := 409) X dL_law_409 rfl ?_
  refine to_iconst (pc := 410) X dL_law_410 (by decide) ?_
  refine to_iadd (pc := 411) X dL_law_411 ?_
  refine to_sld (pc := 412) X Y dL_law_412 ?_
  refine cvX11_key (pc := 413) X wm_RL_51 (by decide) dL_law_413 ?_
  exact okL_law_416 X Y hr
def bkL_law_393 (xs : Nat → Int32) (sL : Nat) (P : Nat → tc_B) (q : tc_Q) : tc_B := tb_icmp_eq (tb_cut (P 1017) [0, 1, 2, 3]) <| tb_i 0 <| tb_zret q
theorem okL_law_393 {Z : tc_Z} {q : tc_Q} {xs : Nat → Int32} {sL : Nat} (X : tc_Cx ({ frames := 10, cells := 52, slots := 1871, locals := 348 } : Room) cL_law 4 RL Z) (Y : tc_Sc xs sL Z) (hr : tc_Rt 1 cL_law 4 Z q) : tc_Ok 4 Z 393 (bkL_law_393 xs sL (tc_At 4 Z) q) := by
  unfold bkL_law_393
  refine to_icmp_eq (pc := 393) (tgt := 1017) X dL_law_393 (by decide) ?_ ?_
  · exact to_cut [0, 1, 2, 3] (fun _ _ _ h => h)
  refine to_iconst (pc := 396) X dL_law_396 (by decide) ?_
  exact to_zret (pc := 397) hr dL_law_397
def bkL_law_384 (xs : Nat → Int32) (sL : Nat) (P : Nat → tc_B) (q : tc_Q) : tc_B := tb_aload 2 <| tb_aload 0 <| tb_iload 3 <| tb_i 1 <| tb_iadd <| tb_sld xs sL <| tb_callV 1 2 9 RX11_came <| bkL_law_393 xs sL P q
theorem okL_law_384 {Z : tc_Z} {q : tc_Q} {xs : Nat → Int32} {sL : Nat} (X : tc_Cx ({ frames := 10, cells := 52, slots := 1871, locals := 348 } : Room) cL_law 4 RL Z) (Y : tc_Sc xs sL Z) (hr : tc_Rt 1 cL_law 4 Z q) : tc_Ok 4 Z 384 (bkL_law_384 xs sL (tc_At 4 Z) q) := by
  unfold bkL_law_384
  refine to_aload_n (pc := 384) X dL_law_384 rfl ?_
  refine to_aload_n (pc := 385) X dL_law_385 rfl ?_
  refine to_iload_n (pc := 386) X dL_law_386 rfl ?_
  refine to_iconst (pc := 387) X dL_law_387 (by decide) ?_
  refine to_iadd (pc := 388) X dL_law_388 ?_
  refine to_sld (pc := 389) X Y dL_law_389 ?_
  refine cvX11_came (pc := 390) X wm_RL_47 (by decide) dL_law_390 ?_
  exact okL_law_393 X Y hr
def bkL_law_370 (xs : Nat → Int32) (sL : Nat) (P : Nat → tc_B) (q : tc_Q) : tc_B := tb_icmp_eq (tb_cut (P 1017) [0, 1, 2, 3]) <| tb_i 0 <| tb_zret q
theorem okL_law_370 {Z : tc_Z} {q : tc_Q} {xs : Nat → Int32} {sL : Nat} (X : tc_Cx ({ frames := 10, cells := 52, slots := 1871, locals := 348 } : Room) cL_law 4 RL Z) (Y : tc_Sc xs sL Z) (hr : tc_Rt 1 cL_law 4 Z q) : tc_Ok 4 Z 370 (bkL_law_370 xs sL (tc_At 4 Z) q) := by
  unfold bkL_law_370
  refine to_icmp_eq (pc := 370) (tgt := 1017) X dL_law_370 (by decide) ?_ ?_
  · exact to_cut [0, 1, 2, 3] (fun _ _ _ h => h)
  refine to_iconst (pc := 373) X dL_law_373 (by decide) ?_
  exact to_zret (pc := 374) hr dL_law_374
def bkL_law_356 (xs : Nat → Int32) (sL : Nat) (P : Nat → tc_B) (q : tc_Q) : tc_B := tb_aload 2 <| tb_aload 0 <| tb_iload 3 <| tb_i 1 <| tb_iadd <| tb_sld xs sL <| tb_aload 0 <| tb_iload 3 <| tb_i 2 <| tb_iadd <| tb_sld xs sL <| tb_callV 2 3 9 RX11_told <| bkL_law_370 xs sL P q
theorem okL_law_356 {Z : tc_Z} {q : tc_Q} {xs : Nat → Int32} {sL : Nat} (X : tc_Cx ({ frames := 10, cells := 52, slots := 1871, locals := 348 } : Room) cL_law 4 RL Z) (Y : tc_Sc xs sL Z) (hr : tc_Rt 1 cL_law 4 Z q) : tc_Ok 4 Z 356 (bkL_law_356 xs sL (tc_At 4 Z) q) := by
  unfold bkL_law_356
  refine to_aload_n (pc := 356) X dL_law_356 rfl ?_
  refine to_aload_n (pc := 357) X dL_law_357 rfl ?_
  refine to_iload_n (pc := 358) X dL_law_358 rfl ?_
  refine to_iconst (pc := 359) X dL_law_359 (by decide) ?_
  refine to_iadd (pc := 360) X dL_law_360 ?_
  refine to_sld (pc := 361) X Y dL_law_361 ?_
  refine to_aload_n (pc := 362) X dL_law_362 rfl ?_
  refine to_iload_n (pc := 363) X dL_law_363 rfl ?_
  refine to_iconst (pc := 364) X dL_law_364 (by decide) ?_
  refine to_iadd (pc := 365) X dL_law_365 ?_
  refine to_sld (pc := 366) X Y dL_law_366 ?_
  refine cvX11_told (pc := 367) X wm_RL_43 (by decide) dL_law_367 ?_
  exact okL_law_370 X Y hr
def bkL_law_337 (xs : Nat → Int32) (sL : Nat) (P : Nat → tc_B) (q : tc_Q) : tc_B := tb_icmp_eq (tb_cut (P 1017) [0, 1, 2, 3]) <| tb_i 0 <| tb_zret q
theorem okL_law_337 {Z : tc_Z} {q : tc_Q} {xs : Nat → Int32} {sL : Nat} (X : tc_Cx ({ frames := 10, cells := 52, slots := 1871, locals := 348 } : Room) cL_law 4 RL Z) (Y : tc_Sc xs sL Z) (hr : tc_Rt 1 cL_law 4 Z q) : tc_Ok 4 Z 337 (bkL_law_337 xs sL (tc_At 4 Z) q) := by
  unfold bkL_law_337
  refine to_icmp_eq (pc := 337) (tgt := 1017) X dL_law_337 (by decide) ?_ ?_
  · exact to_cut [0, 1, 2, 3] (fun _ _ _ h => h)
  refine to_iconst (pc := 340) X dL_law_340 (by decide) ?_
  exact to_zret (pc := 341) hr dL_law_341
def bkL_law_323 (xs : Nat → Int32) (sL : Nat) (P : Nat → tc_B) (q : tc_Q) : tc_B := tb_aload 2 <| tb_aload 0 <| tb_iload 3 <| tb_i 1 <| tb_iadd <| tb_sld xs sL <| tb_aload 0 <| tb_iload 3 <| tb_i 2 <| tb_iadd <| tb_sld xs sL <| tb_callV 2 4 9 RX11_weigh <| bkL_law_337 xs sL P q
theorem okL_law_323 {Z : tc_Z} {q : tc_Q} {xs : Nat → Int32} {sL : Nat} (X : tc_Cx ({ frames := 10, cells := 52, slots := 1871, locals := 348 } : Room) cL_law 4 RL Z) (Y : tc_Sc xs sL Z) (hr : tc_Rt 1 cL_law 4 Z q) : tc_Ok 4 Z 323 (bkL_law_323 xs sL (tc_At 4 Z) q) := by
  unfold bkL_law_323
  refine to_aload_n (pc := 323) X dL_law_323 rfl ?_
  refine to_aload_n (pc := 324) X dL_law_324 rfl ?_
  refine to_iload_n (pc := 325) X dL_law_325 rfl ?_
  refine to_iconst (pc := 326) X dL_law_326 (by decide) ?_
  refine to_iadd (pc := 327) X dL_law_327 ?_
  refine to_sld (pc := 328) X Y dL_law_328 ?_
  refine to_aload_n (pc := 329) X dL_law_329 rfl ?_
  refine to_iload_n (pc := 330) X dL_law_330 rfl ?_
  refine to_iconst (pc := 331) X dL_law_331 (by decide) ?_
  refine to_iadd (pc := 332) X dL_law_332 ?_
  refine to_sld (pc := 333) X Y dL_law_333 ?_
  refine cvX11_weigh (pc := 334) X wm_RL_39 (by decide) dL_law_334 ?_
  exact okL_law_337 X Y hr
def bkL_law_304 (xs : Nat → Int32) (sL : Nat) (P : Nat → tc_B) (q : tc_Q) : tc_B := tb_icmp_eq (tb_cut (P 1017) [0, 1, 2, 3]) <| tb_i 0 <| tb_zret q
theorem okL_law_304 {Z : tc_Z} {q : tc_Q} {xs : Nat → Int32} {sL : Nat} (X : tc_Cx ({ frames := 10, cells := 52, slots := 1871, locals := 348 } : Room) cL_law 4 RL Z) (Y : tc_Sc xs sL Z) (hr : tc_Rt 1 cL_law 4 Z q) : tc_Ok 4 Z 304 (bkL_law_304 xs sL (tc_At 4 Z) q) := by
  unfold bkL_law_304
  refine to_icmp_eq (pc := 304) (tgt := 1017) X dL_law_304 (by decide) ?_ ?_
  · exact to_cut [0, 1, 2, 3] (fun _ _ _ h => h)
  refine to_iconst (pc := 307) X dL_law_307 (by decide) ?_
  exact to_zret (pc := 308) hr dL_law_308
def bkL_law_295 (xs : Nat → Int32) (sL : Nat) (P : Nat → tc_B) (q : tc_Q) : tc_B := tb_aload 2 <| tb_aload 0 <| tb_iload 3 <| tb_i 1 <| tb_iadd <| tb_sld xs sL <| tb_callV 1 2 9 RX11_open <| bkL_law_304 xs sL P q
theorem okL_law_295 {Z : tc_Z} {q : tc_Q} {xs : Nat → Int32} {sL : Nat} (X : tc_Cx ({ frames := 10, cells := 52, slots := 1871, locals := 348 } : Room) cL_law 4 RL Z) (Y : tc_Sc xs sL Z) (hr : tc_Rt 1 cL_law 4 Z q) : tc_Ok 4 Z 295 (bkL_law_295 xs sL (tc_At 4 Z) q) := by
  unfold bkL_law_295
  refine to_aload_n (pc := 295) X dL_law_295 rfl ?_
  refine to_aload_n (pc := 296) X dL_law_296 rfl ?_
  refine to_iload_n (pc := 297) X dL_law_297 rfl ?_
  refine to_iconst (pc := 298) X dL_law_298 (by decide) ?_
  refine to_iadd (pc := 299) X dL_law_299 ?_
  refine to_sld (pc := 300) X Y dL_law_300 ?_
  refine cvX11_open (pc := 301) X wm_RL_35 (by decide) dL_law_301 ?_
  exact okL_law_304 X Y hr
def bkL_law_281 (xs : Nat → Int32) (sL : Nat) (P : Nat → tc_B) (q : tc_Q) : tc_B := tb_icmp_eq (tb_cut (P 1017) [0, 1, 2, 3]) <| tb_i 0 <| tb_zret q
theorem okL_law_281 {Z : tc_Z} {q : tc_Q} {xs : Nat → Int32} {sL : Nat} (X : tc_Cx ({ frames := 10, cells := 52, slots := 1871, locals := 348 } : Room) cL_law 4 RL Z) (Y : tc_Sc xs sL Z) (hr : tc_Rt 1 cL_law 4 Z q) : tc_Ok 4 Z 281 (bkL_law_281 xs sL (tc_At 4 Z) q) := by
  unfold bkL_law_281
  refine to_icmp_eq (pc := 281) (tgt := 1017) X dL_law_281 (by decide) ?_ ?_
  · exact to_cut [0, 1, 2, 3] (fun _ _ _ h => h)
  refine to_iconst (pc := 284) X dL_law_284 (by decide) ?_
  exact to_zret (pc := 285) hr dL_law_285
def bkL_law_272 (xs : Nat → Int32) (sL : Nat) (P : Nat → tc_B) (q : tc_Q) : tc_B := tb_aload 2 <| tb_aload 0 <| tb_iload 3 <| tb_i 1 <| tb_iadd <| tb_sld xs sL <| tb_callV 1 2 9 RX11_no <| bkL_law_281 xs sL P q
theorem okL_law_272 {Z : tc_Z} {q : tc_Q} {xs : Nat → Int32} {sL : Nat} (X : tc_Cx ({ frames := 10, cells := 52, slots := 1871, locals := 348 } : Room) cL_law 4 RL Z) (Y : tc_Sc xs sL Z) (hr : tc_Rt 1 cL_law 4 Z q) : tc_Ok 4 Z 272 (bkL_law_272 xs sL (tc_At 4 Z) q) := by
  unfold bkL_law_272
  refine to_aload_n (pc := 272) X dL_law_272 rfl ?_
  refine to_aload_n (pc := 273) X dL_law_273 rfl ?_
  refine to_iload_n (pc := 274) X dL_law_274 rfl ?_
  refine to_iconst (pc := 275) X dL_law_275 (by decide) ?_
  refine to_iadd (pc := 276) X dL_law_276 ?_
  refine to_sld (pc := 277) X Y dL_law_277 ?_
  refine cvX11_no (pc := 278) X wm_RL_31 (by decide) dL_law_278 ?_
  exact okL_law_281 X Y hr
def bkL_law_258 (xs : Nat → Int32) (sL : Nat) (P : Nat → tc_B) (q : tc_Q) : tc_B := tb_icmp_eq (tb_cut (P 1017) [0, 1, 2, 3]) <| tb_i 0 <| tb_zret q
theorem okL_law_258 {Z : tc_Z} {q : tc_Q} {xs : Nat → Int32} {sL : Nat} (X : tc_Cx ({ frames := 10, cells := 52, slots := 1871, locals := 348 } : Room) cL_law 4 RL Z) (Y : tc_Sc xs sL Z) (hr : tc_Rt 1 cL_law 4 Z q) : tc_Ok 4 Z 258 (bkL_law_258 xs sL (tc_At 4 Z) q) := by
  unfold bkL_law_258
  refine to_icmp_eq (pc := 258) (tgt := 1017) X dL_law_258 (by decide) ?_ ?_
  · exact to_cut [0, 1, 2, 3] (fun _ _ _ h => h)
  refine to_iconst (pc := 261) X dL_law_261 (by decide) ?_
  exact to_zret (pc := 262) hr dL_law_262
def bkL_law_249 (xs : Nat → Int32) (sL : Nat) (P : Nat → tc_B) (q : tc_Q) : tc_B := tb_aload 2 <| tb_aload 0 <| tb_iload 3 <| tb_i 1 <| tb_iadd <| tb_sld xs sL <| tb_callV 1 2 9 RX11_yes <| bkL_law_258 xs sL P q
theorem okL_law_249 {Z : tc_Z} {q : tc_Q} {xs : Nat → Int32} {sL : Nat} (X : tc_Cx ({ frames := 10, cells := 52, slots := 1871, locals := 348 } : Room) cL_law 4 RL Z) (Y : tc_Sc xs sL Z) (hr : tc_Rt 1 cL_law 4 Z q) : tc_Ok 4 Z 249 (bkL_law_249 xs sL (tc_At 4 Z) q) := by
  unfold bkL_law_249
  refine to_aload_n (pc := 249) X dL_law_249 rfl ?_
  refine to_aload_n (pc := 250) X dL_law_250 rfl ?_
  refine to_iload_n (pc := 251) X dL_law_251 rfl ?_
  refine to_iconst (pc := 252) X dL_law_252 (by decide) ?_
  refine to_iadd (pc := 253) X dL_law_253 ?_
  refine to_sld (pc := 254) X Y dL_law_254 ?_
  refine cvX11_yes (pc := 255) X wm_RL_27 (by decide) dL_law_255 ?_
  exact okL_law_258 X Y hr
def bkL_law_235 (xs : Nat → Int32) (sL : Nat) (P : Nat → tc_B) (q : tc_Q) : tc_B := tb_icmp_eq (tb_cut (P 1017) [0, 1, 2, 3]) <| tb_i 0 <| tb_zret q
theorem okL_law_235 {Z : tc_Z} {q : tc_Q} {xs : Nat → Int32} {sL : Nat} (X : tc_Cx ({ frames := 10, cells := 52, slots := 1871, locals := 348 } : Room) cL_law 4 RL Z) (Y : tc_Sc xs sL Z) (hr : tc_Rt 1 cL_law 4 Z q) : tc_Ok 4 Z 235 (bkL_law_235 xs sL (tc_At 4 Z) q) := by
  unfold bkL_law_235
  refine to_icmp_eq (pc := 235) (tgt := 1017) X dL_law_235 (by decide) ?_ ?_
  · exact to_cut [0, 1, 2, 3] (fun _ _ _ h => h)
  refine to_iconst (pc := 238) X dL_law_238 (by decide) ?_
  exact to_zret (pc := 239) hr dL_law_239
def bkL_law_221 (xs : Nat → Int32) (sL : Nat) (P : Nat → tc_B) (q : tc_Q) : tc_B := tb_aload 2 <| tb_aload 0 <| tb_iload 3 <| tb_i 1 <| tb_iadd <| tb_sld xs sL <| tb_aload 0 <| tb_iload 3 <| tb_i 2 <| tb_iadd <| tb_sld xs sL <| tb_callV 2 4 9 RX11_drop <| bkL_law_235 xs sL P q
theorem okL_law_221 {Z : tc_Z} {q : tc_Q} {xs : Nat → Int32} {sL : Nat} (X : tc_Cx ({ frames := 10, cells := 52, slots := 1871, locals := 348 } : Room) cL_law 4 RL Z) (Y : tc_Sc xs sL Z) (hr : tc_Rt 1 cL_law 4 Z q) : tc_Ok 4 Z 221 (bkL_law_221 xs sL (tc_At 4 Z) q) := by
  unfold bkL_law_221
  refine to_aload_n (pc := 221) X dL_law_221 rfl ?_
  refine to_aload_n (pc := 222) X dL_law_222 rfl ?_
  refine to_iload_n (pc := 223) X dL_law_223 rfl ?_
  refine to_iconst (pc := 224) X dL_law_224 (by decide) ?_
  refine to_iadd (pc := 225) X dL_law_225 ?_
  refine to_sld (pc := 226) X Y dL_law_226 ?_
  refine to_aload_n (pc := 227) X dL_law_227 rfl ?_
  refine to_iload_n (pc := 228) X dL_law_228 rfl ?_
  refine to_iconst (pc := 229) X dL_law_229 (by decide) ?_
  refine to_iadd (pc := 230) X dL_law_230 ?_
  refine to_sld (pc := 231) X Y dL_law_231 ?_
  refine cvX11_drop (pc := 232) X wm_RL_22 (by decide) dL_law_232 ?_
  exact okL_law_235 X Y hr
def bkL_law_202 (xs : Nat → Int32) (sL : Nat) (P : Nat → tc_B) (q : tc_Q) : tc_B := tb_icmp_eq (tb_cut (P 1017) [0, 1, 2, 3]) <| tb_i 0 <| tb_zret q
theorem okL_law_202 {Z : tc_Z} {q : tc_Q} {xs : Nat → Int32} {sL : Nat} (X : tc_Cx ({ frames := 10, cells := 52, slots := 1871, locals := 348 } : Room) cL_law 4 RL Z) (Y : tc_Sc xs sL Z) (hr : tc_Rt 1 cL_law 4 Z q) : tc_Ok 4 Z 202 (bkL_law_202 xs sL (tc_At 4 Z) q) := by
  unfold bkL_law_202
  refine to_icmp_eq (pc := 202) (tgt := 1017) X dL_law_202 (by decide) ?_ ?_
  · exact to_cut [0, 1, 2, 3] (fun _ _ _ h => h)
  refine to_iconst (pc := 205) X dL_law_205 (by decide) ?_
  exact to_zret (pc := 206) hr dL_law_206
def bkL_law_183 (xs : Nat → Int32) (sL : Nat) (P : Nat → tc_B) (q : tc_Q) : tc_B := tb_aload 2 <| tb_aload 0 <| tb_iload 3 <| tb_i 1 <| tb_iadd <| tb_sld xs sL <| tb_aload 0 <| tb_iload 3 <| tb_i 2 <| tb_iadd <| tb_sld xs sL <| tb_aload 0 <| tb_iload 3 <| tb_i 3 <| tb_iadd <| tb_sld xs sL <| tb_callV 3 5 9 RX11_tell <| bkL_law_202 xs sL P q
theorem okL_law_183 {Z : tc_Z} {q : tc_Q} {xs : Nat → Int32} {sL : Nat} (X : tc_Cx ({ frames := 10, cells := 52, slots := 1871, locals := 348 } : Room) cL_law 4 RL Z) (Y : tc_Sc xs sL Z) (hr : tc_Rt 1 cL_law 4 Z q) : tc_Ok 4 Z 183 (bkL_law_183 xs sL (tc_At 4 Z) q) := by
  unfold bkL_law_183
  refine to_aload_n (pc := 183) X dL_law_183 rfl ?_
  refine to_aload_n (pc := 184) X dL_law_184 rfl ?_
  refine to_iload_n (pc := 185) X dL_law_185 rfl ?_
  refine to_iconst (pc := 186) X dL_law_186 (by decide) ?_
  refine to_iadd (pc := 187) X dL_law_187 ?_
  refine to_sld (pc := 188) X Y dL_law_188 ?_
  refine to_aload_n (pc := 189) X dL_law_189 rfl ?_
  refine to_iload_n (pc := 190) X dL_law_190 rfl ?_
  refine to_iconst (pc := 191) X dL_law_191 (by decide) ?_
  refine to_iadd (pc := 192) X dL_law_192 ?_
  refine to_sld (pc := 193) X Y dL_law_193 ?_
  refine to_aload_n (pc := 194) X dL_law_194 rfl ?_
  refine to_iload_n (pc := 195) X dL_law_195 rfl ?_
  refine to_iconst (pc := 196) X dL_law_196 (by decide) ?_
  refine to_iadd (pc := 197) X dL_law_197 ?_
  refine to_sld (pc := 198) X Y dL_law_198 ?_
  refine cvX11_tell (pc := 199) X wm_RL_17 (by decide) dL_law_199 ?_
  exact okL_law_202 X Y hr
def bkL_law_18 (xs : Nat → Int32) (sL : Nat) (P : Nat → tc_B) (q : tc_Q) : tc_B := tb_iload 3 <| tb_aload 0 <| tb_slen sL <| tb_i 4 <| tb_isub <| tb_icmp_gt (tb_i 1 <| tb_zret q) <| tb_aload 0 <| tb_iload 3 <| tb_sld xs sL <| tb_i 31 <| tb_iand <| tb_tsw 0 28 [tb_aload 1 <| tb_aload 0 <| tb_iload 3 <| tb_i 1 <| tb_iadd <| tb_sld xs sL <| tb_aload 0 <| tb_iload 3 <| tb_i 2 <| tb_iadd <| tb_sld xs sL <| tb_aload 0 <| tb_iload 3 <| tb_i 3 <| tb_iadd <| tb_sld xs sL <| tb_callV 3 4 8 RX10_tell <| bkL_law_183 xs sL P q, tb_aload 1 <| tb_aload 0 <| tb_iload 3 <| tb_i 1 <| tb_iadd <| tb_sld xs sL <| tb_aload 0 <| tb_iload 3 <| tb_i 2 <| tb_iadd <| tb_sld xs sL <| tb_callV 2 3 8 RX10_drop <| bkL_law_221 xs sL P q, tb_aload 1 <| tb_aload 0 <| tb_iload 3 <| tb_i 1 <| tb_iadd <| tb_sld xs sL <| tb_callV 1 2 8 RX10_yes <| bkL_law_249 xs sL P q, tb_aload 1 <| tb_aload 0 <| tb_iload 3 <| tb_i 1 <| tb_iadd <| tb_sld xs sL <| tb_callV 1 2 8 RX10_no <| bkL_law_272 xs sL P q, tb_aload 1 <| tb_aload 0 <| tb_iload 3 <| tb_i 1 <| tb_iadd <| tb_sld xs sL <| tb_callV 1 2 8 RX10_open <| bkL_law_295 xs sL P q, tb_aload 1 <| tb_aload 0 <| tb_iload 3 <| tb_i 1 <| tb_iadd <| tb_sld xs sL <| tb_aload 0 <| tb_iload 3 <| tb_i 2 <| tb_iadd <| tb_sld xs sL <| tb_callV 2 3 8 RX10_weigh <| bkL_law_323 xs sL P q, tb_aload 1 <| tb_aload 0 <| tb_iload 3 <| tb_i 1 <| tb_iadd <| tb_sld xs sL <| tb_aload 0 <| tb_iload 3 <| tb_i 2 <| tb_iadd <| tb_sld xs sL <| tb_callV 2 3 8 RX10_told <| bkL_law_356 xs sL P q, tb_aload 1 <| tb_aload 0 <| tb_iload 3 <| tb_i 1 <| tb_iadd <| tb_sld xs sL <| tb_callV 1 2 8 RX10_came <| bkL_law_384 xs sL P q, tb_aload 1 <| tb_aload 0 <| tb_iload 3 <| tb_i 1 <| tb_iadd <| tb_sld xs sL <| tb_callV 1 2 8 RX10_key <| bkL_law_407 xs sL P q, tb_aload 1 <| tb_callV 0 1 8 RX10_wipe <| bkL_law_425 xs sL P q, tb_aload 1 <| tb_callV 0 4 8 RX10_line <| bkL_law_438 xs sL P q, tb_aload 1 <| tb_callV 0 2 8 RX10_rule <| bkL_law_451 xs sL P q, tb_aload 1 <| tb_aload 0 <| tb_iload 3 <| tb_i 1 <| tb_iadd <| tb_sld xs sL <| tb_aload 0 <| tb_iload 3 <| tb_i 2 <| tb_iadd <| tb_sld xs sL <| tb_callV 2 3 8 RX10_miss <| bkL_law_474 xs sL P q, tb_aload 1 <| tb_aload 0 <| tb_iload 3 <| tb_i 1 <| tb_iadd <| tb_sld xs sL <| tb_aload 0 <| tb_iload 3 <| tb_i 2 <| tb_iadd <| tb_sld xs sL <| tb_callV 2 3 8 RX10_score <| bkL_law_507 xs sL P q, tb_aload 1 <| tb_aload 0 <| tb_iload 3 <| tb_i 1 <| tb_iadd <| tb_sld xs sL <| tb_callV 1 3 8 RX10_rank <| bkL_law_536 xs sL P q, tb_aload 1 <| tb_aload 0 <| tb_iload 3 <| tb_i 1 <| tb_iadd <| tb_sld xs sL <| tb_callV 1 2 8 RX10_lure <| bkL_law_559 xs sL P q, tb_aload 1 <| tb_callV 0 1 8 RX10_honest <| bkL_law_577 xs sL P q, tb_aload 1 <| tb_aload 0 <| tb_iload 3 <| tb_i 1 <| tb_iadd <| tb_sld xs sL <| tb_callV 1 2 8 RX10_cut <| bkL_law_595 xs sL P q, tb_aload 1 <| tb_aload 0 <| tb_iload 3 <| tb_i 1 <| tb_iadd <| tb_sld xs sL <| tb_aload 0 <| tb_iload 3 <| tb_i 2 <| tb_iadd <| tb_sld xs sL <| tb_aload 0 <| tb_iload 3 <| tb_i 3 <| tb_iadd <| tb_sld xs sL <| tb_callV 3 4 8 RX10_bin <| bkL_law_628 xs sL P q, tb_aload 1 <| tb_aload 0 <| tb_iload 3 <| tb_i 1 <| tb_iadd <| tb_sld xs sL <| tb_aload 0 <| tb_iload 3 <| tb_i 2 <| tb_iadd <| tb_sld xs sL <| tb_aload 0 <| tb_iload 3 <| tb_i 3 <| tb_iadd <| tb_sld xs sL <| tb_callV 3 4 8 RX10_split <| bkL_law_671 xs sL P q, tb_aload 1 <| tb_aload 0 <| tb_iload 3 <| tb_i 1 <| tb_iadd <| tb_sld xs sL <| tb_aload 0 <| tb_iload 3 <| tb_i 2 <| tb_iadd <| tb_sld xs sL <| tb_aload 0 <| tb_iload 3 <| tb_i 3 <| tb_iadd <| tb_sld xs sL <| tb_callV 3 4 8 RX10_joined <| bkL_law_715 xs sL P q, tb_aload 1 <| tb_aload 0 <| tb_iload 3 <| tb_i 1 <| tb_iadd <| tb_sld xs sL <| tb_aload 0 <| tb_iload 3 <| tb_i 2 <| tb_iadd <| tb_sld xs sL <| tb_callV 2 4 8 RX10_area <| bkL_law_754 xs sL P q, tb_aload 1 <| tb_aload 0 <| tb_iload 3 <| tb_i 1 <| tb_iadd <| tb_sld xs sL <| tb_callV 1 2 8 RX10_pools <| bkL_law_783 xs sL P q, tb_aload 1 <| tb_aload 0 <| tb_iload 3 <| tb_i 1 <| tb_iadd <| tb_sld xs sL <| tb_aload 0 <| tb_iload 3 <| tb_i 2 <| tb_iadd <| tb_sld xs sL <| tb_aload 0 <| tb_iload 3 <| tb_i 3 <| tb_iadd <| tb_sld xs sL <| tb_callV 3 4 8 RX10_pool <| bkL_law_816 xs sL P q, tb_aload 1 <| tb_aload 0 <| tb_iload 3 <| tb_i 1 <| tb_iadd <| tb_sld xs sL <| tb_aload 0 <| tb_iload 3 <| tb_i 2 <| tb_iadd <| tb_sld xs sL <| tb_callV 2 3 8 RX10_flat <| bkL_law_854 xs sL P q, tb_aload 1 <| tb_aload 0 <| tb_iload 3 <| tb_i 1 <| tb_iadd <| tb_sld xs sL <| tb_aload 0 <| tb_iload 3 <| tb_i 2 <| tb_iadd <| tb_sld xs sL <| tb_aload 0 <| tb_iload 3 <| tb_i 3 <| tb_iadd <| tb_sld xs sL <| tb_callV 3 4 8 RX10_better <| bkL_law_893 xs sL P q, tb_aload 1 <| tb_aload 0 <| tb_iload 3 <| tb_i 1 <| tb_iadd <| tb_sld xs sL <| tb_aload 0 <| tb_iload 3 <| tb_i 2 <| tb_iadd <| tb_sld xs sL <| tb_aload 0 <| tb_iload 3 <| tb_i 3 <| tb_iadd <| tb_sld xs sL <| tb_callV 3 6 8 RX10_luck <| bkL_law_936 xs sL P q, tb_aload 1 <| tb_aload 0 <| tb_iload 3 <| tb_i 1 <| tb_iadd <| tb_sld xs sL <| tb_aload 0 <| tb_iload 3 <| tb_i 2 <| tb_iadd <| tb_sld xs sL <| tb_callV 2 3 8 RX10_report <| bkL_law_975 xs sL P q, tb_aload 1 <| tb_aload 0 <| tb_iload 3 <| tb_i 1 <| tb_iadd <| tb_sld xs sL <| tb_callV 1 2 8 RX10_many <| bkL_law_1003 xs sL P q] <| tb_cut (P 1017) [0, 1, 2, 3]
theorem okL_law_18 {Z : tc_Z} {q : tc_Q} {xs : Nat → Int32} {sL : Nat} (X : tc_Cx ({ frames := 10, cells := 52, slots := 1871, locals := 348 } : Room) cL_law 4 RL Z) (Y : tc_Sc xs sL Z) (hr : tc_Rt 1 cL_law 4 Z q) : tc_Ok 4 Z 18 (bkL_law_18 xs sL (tc_At 4 Z) q) := by
  unfold bkL_law_18
  refine to_iload_n (pc := 18) X dL_law_18 rfl ?_
  refine to_aload_n (pc := 19) X dL_law_19 rfl ?_
  refine to_slen (pc := 20) X Y dL_law_20 ?_
  refine to_iconst (pc := 21) X dL_law_21 (by decide) ?_
  refine to_isub (pc := 22) X dL_law_22 ?_
  refine to_icmp_gt (pc := 23) (tgt := 1023) X dL_law_23 (by decide) ?_ ?_
  · refine to_iconst (pc := 1023) X dL_law_1023 (by decide) ?_
    exact to_zret (pc := 1024) hr dL_law_1024
  refine to_aload_n (pc := 26) X dL_law_26 rfl ?_
  refine to_iload_n (pc := 27) X dL_law_27 rfl ?_
  refine to_sld (pc := 28) X Y dL_law_28 ?_
  refine to_bipush (pc := 29) X dL_law_29 (by decide) ?_
  refine to_iand (pc := 31) X dL_law_31 ?_
  refine to_tsw (pc := 32) (td := 1017) [164, 207, 240, 263, 286, 309, 342, 375, 398, 421, 434, 447, 460, 493, 527, 550, 573, 586, 609, 652, 696, 740, 774, 797, 840, 874, 917, 961, 994] X dL_law_32 (by decide) (by decide) (by decide) (by decide) (by decide) (by decide) ?_ ?_
  · exact to_cut [0, 1, 2, 3] (fun _ _ _ h => h)
  refine ⟨?_, ?_⟩
  · refine to_aload_n (pc := 164) X dL_law_164 rfl ?_
    refine to_aload_n (pc := 165) X dL_law_165 rfl ?_
    refine to_iload_n (pc := 166) X dL_law_166 rfl ?_
    refine to_iconst (pc := 167) X dL_law_167 (by decide) ?_
    refine to_iadd (pc := 168) X dL_law_168 ?_
    refine to_sld (pc := 169) X Y dL_law_169 ?_
    refine to_aload_n (pc := 170) X dL_law_170 rfl ?_
    refine to_iload_n (pc := 171) X dL_law_171 rfl ?_
    refine to_iconst (pc := 172) X dL_law_172 (by decide) ?_
    refine to_iadd (pc := 173) X dL_law_173 ?_
    refine to_sld (pc := 174) X Y dL_law_174 ?_
    refine to_aload_n (pc := 175) X dL_law_175 rfl ?_
    refine to_iload_n (pc := 176) X dL_law_176 rfl ?_
    refine to_iconst (pc := 177) X dL_law_177 (by decide) ?_
    refine to_iadd (pc := 178) X dL_law_178 ?_
    refine to_sld (pc := 179) X Y dL_law_179 ?_
    refine cvX10_tell (pc := 180) X wm_RL_13 (by decide) dL_law_180 ?_
    exact okL_law_183 X Y hr
  refine ⟨?_, ?_⟩
  · refine to_aload_n (pc := 207) X dL_law_207 rfl ?_
    refine to_aload_n (pc := 208) X dL_law_208 rfl ?_
    refine to_iload_n (pc := 209) X dL_law_209 rfl ?_
    refine to_iconst (pc := 210) X dL_law_210 (by decide) ?_
    refine to_iadd (pc := 211) X dL_law_211 ?_
    refine to_sld (pc := 212) X Y dL_law_212 ?_
    refine to_aload_n (pc := 213) X dL_law_213 rfl ?_
    refine to_iload_n (pc := 214) X dL_law_214 rfl ?_
    refine to_iconst (pc := 215) X dL_law_215 (by decide) ?_
    refine to_iadd (pc := 216) X dL_law_216 ?_
    refine to_sld (pc := 217) X Y dL_law_217 ?_
    refine cvX10_drop (pc := 218) X wm_RL_18 (by decide) dL_law_218 ?_
    exact okL_law_221 X Y hr
  refine ⟨?_, ?_⟩
  · refine to_aload_n (pc := 240) X dL_law_240 rfl ?_
    refine to_aload_n (pc := 241) X dL_law_241 rfl ?_
    refine to_iload_n (pc := 242) X dL_law_242 rfl ?_
    refine to_iconst (pc := 243) X dL_law_243 (by decide) ?_
    refine to_iadd (pc := 244) X dL_law_244 ?_
    refine to_sld (pc := 245) X Y dL_law_245 ?_
    refine cvX10_yes (pc := 246) X wm_RL_23 (by decide) dL_law_246 ?_
    exact okL_law_249 X Y hr
  refine ⟨?_, ?_⟩
  · refine to_aload_n (pc := 263) X dL_law_263 rfl ?_
    refine to_aload_n (pc := 264) X dL_law_264 rfl ?_
    refine to_iload_n (pc := 265) X dL_law_265 rfl ?_
    refine to_iconst (pc := 266) X dL_law_266 (by decide) ?_
    refine to_iadd (pc := 267) X dL_law_267 ?_
    refine to_sld (pc := 268) X Y dL_law_268 ?_
    refine cvX10_no (pc := 269) X wm_RL_28 (by decide) dL_law_269 ?_
    exact okL_law_272 X Y hr
  refine ⟨?_, ?_⟩
  · refine to_aload_n (pc := 286) X dL_law_286 rfl ?_
    refine to_aload_n (pc := 287) X dL_law_287 rfl ?_
    refine to_iload_n (pc := 288) X dL_law_288 rfl ?_
    refine to_iconst (pc := 289) X dL_law_289 (by decide) ?_
    refine to_iadd (pc := 290) X dL_law_290 ?_
    refine to_sld (pc := 291) X Y dL_law_291 ?_
    refine cvX10_open (pc := 292) X wm_RL_32 (by decide) dL_law_292 ?_
    exact okL_law_295 X Y hr
  refine ⟨?_, ?_⟩
  · refine to_aload_n (pc := 309) X dL_law_309 rfl ?_
    refine to_aload_n (pc := 310) X dL_law_310 rfl ?_
    refine to_iload_n (pc := 311) X dL_law_311 rfl ?_
    refine to_iconst (pc := 312) X dL_law_312 (by decide) ?_
    refine to_iadd (pc := 313) X dL_law_313 ?_
    refine to_sld (pc := 314) X Y dL_law_314 ?_
    refine to_aload_n (pc := 315) X dL_law_315 rfl ?_
    refine to_iload_n (pc := 316) X dL_law_316 rfl ?_
    refine to_iconst (pc := 317) X dL_law_317 (by decide) ?_
    refine to_iadd (pc := 318) X dL_law_318 ?_
    refine to_sld (pc := 319) X Y dL_law_319 ?_
    refine cvX10_weigh (pc := 320) X wm_RL_36 (by decide) dL_law_320 ?_
    exact okL_law_323 X Y hr
  refine ⟨?_, ?_⟩
  · refine to_aload_n (pc := 342) X dL_law_342 rfl ?_
    refine to_aload_n (pc := 343) X dL_law_343 rfl ?_
    refine to_iload_n (pc := 344) X dL_law_344 rfl ?_
    refine to_iconst (pc := 345) X dL_law_345 (by decide) ?_
    refine to_iadd (pc := 346) X dL_law_346 ?_
    refine to_sld (pc := 347) X Y dL_law_347 ?_
    refine to_aload_n (pc := 348) X dL_law_348 rfl ?_
    refine to_iload_n (pc := 349) X dL_law_349 rfl ?_
    refine to_iconst (pc := 350) X dL_law_350 (by decide) ?_
    refine to_iadd (pc := 351) X dL_law_351 ?_
    refine to_sld (pc := 352) X Y dL_law_352 ?_
    refine cvX10_told (pc := 353) X wm_RL_40 (by decide) dL_law_353 ?_
    exact okL_law_356 X Y hr
  refine ⟨?_, ?_⟩
  · refine to_aload_n (pc := 375) X dL_law_375 rfl ?_
    refine to_aload_n (pc := 376) X dL_law_376 rfl ?_
    refine to_iload_n (pc := 377) X dL_law_377 rfl ?_
    refine to_iconst (pc := 378) X dL_law_378 (by decide) ?_
    refine to_iadd (pc := 379) X dL_law_379 ?_
    refine to_sld (pc := 380) X Y dL_law_380 ?_
    refine cvX10_came (pc := 381) X wm_RL_44 (by decide) dL_law_381 ?_
    exact okL_law_384 X Y hr
  refine ⟨?_, ?_⟩
  · refine to_aload_n (pc := 398) X dL_law_398 rfl ?_
    refine to_aload_n (pc := 399) X dL_law_399 rfl ?_
    refine to_iload_n (pc := 400) X dL_law_400 rfl ?_
    refine to_iconst (pc := 401) X dL_law_401 (by decide) ?_
    refine to_iadd (pc := 402) X dL_law_402 ?_
    refine to_sld (pc := 403) X Y dL_law_403 ?_
    refine cvX10_key (pc := 404) X wm_RL_48 (by decide) dL_law_404 ?_
    exact okL_law_407 X Y hr
  refine ⟨?_, ?_⟩
  · refine to_aload_n (pc := 421) X dL_law_421 rfl ?_
    refine cvX10_wipe (pc := 422) X wm_RL_52 (by decide) dL_law_422 ?_
    exact okL_law_425 X Y hr
  refine ⟨?_, ?_⟩
  · refine to_aload_n (pc := 434) X dL_law_434 rfl ?_
    refine cvX10_line (pc := 435) X wm_RL_57 (by decide) dL_law_435 ?_
    exact okL_law_438 X Y hr
  refine ⟨?_, ?_⟩
  · refine to_aload_n (pc := 447) X dL_law_447 rfl ?_
    refine cvX10_rule (pc := 448) X wm_RL_61 (by decide) dL_law_448 ?_
    exact okL_law_451 X Y hr
  refine ⟨?_, ?_⟩
  · refine to_aload_n (pc := 460) X dL_law_460 rfl ?_
    refine to_aload_n (pc := 461) X dL_law_461 rfl ?_
    refine to_iload_n (pc := 462) X dL_law_462 rfl ?_
    refine to_iconst (pc := 463) X dL_law_463 (by decide) ?_
    refine to_iadd (pc := 464) X dL_law_464 ?_
    refine to_sld (pc := 465) X Y dL_law_465 ?_
    refine to_aload_n (pc := 466) X dL_law_466 rfl ?_
    refine to_iload_n (pc := 467) X dL_law_467 rfl ?_
    refine to_iconst (pc := 468) X dL_law_468 (by decide) ?_
    refine to_iadd (pc := 469) X dL_law_469 ?_
    refine to_sld (pc := 470) X Y dL_law_470 ?_
    refine cvX10_miss (pc := 471) X wm_RL_65 (by decide) dL_law_471 ?_
    exact okL_law_474 X Y hr
  refine ⟨?_, ?_⟩
  · refine to_aload_n (pc := 493) X dL_law_493 rfl ?_
    refine to_aload_n (pc := 494) X dL_law_494 rfl ?_
    refine to_iload_n (pc := 495) X dL_law_495 rfl ?_
    refine to_iconst (pc := 496) X dL_law_496 (by decide) ?_
    refine to_iadd (pc := 497) X dL_law_497 ?_
    refine to_sld (pc := 498) X Y dL_law_498 ?_
    refine to_aload_n (pc := 499) X dL_law_499 rfl ?_
    refine to_iload_n (pc := 500) X dL_law_500 rfl ?_
    refine to_iconst (pc := 501) X dL_law_501 (by decide) ?_
    refine to_iadd (pc := 502) X dL_law_502 ?_
    refine to_sld (pc := 503) X Y dL_law_503 ?_
    refine cvX10_score (pc := 504) X wm_RL_69 (by decide) dL_law_504 ?_
    exact okL_law_507 X Y hr
  refine ⟨?_, ?_⟩
  · refine to_aload_n (pc := 527) X dL_law_527 rfl ?_
    refine to_aload_n (pc := 528) X dL_law_528 rfl ?_
    refine to_iload_n (pc := 529) X dL_law_529 rfl ?_
    refine to_iconst (pc := 530) X dL_law_530 (by decide) ?_
    refine to_iadd (pc := 531) X dL_law_531 ?_
    refine to_sld (pc := 532) X Y dL_law_532 ?_
    refine cvX10_rank (pc := 533) X wm_RL_74 (by decide) dL_law_533 ?_
    exact okL_law_536 X Y hr
  refine ⟨?_, ?_⟩
  · refine to_aload_n (pc := 550) X dL_law_550 rfl ?_
    refine to_aload_n (pc := 551) X dL_law_551 rfl ?_
    refine to_iload_n (pc := 552) X dL_law_552 rfl ?_
    refine to_iconst (pc := 553) X dL_law_553 (by decide) ?_
    refine to_iadd (pc := 554) X dL_law_554 ?_
    refine to_sld (pc := 555) X Y dL_law_555 ?_
    refine cvX10_lure (pc := 556) X wm_RL_78 (by decide) dL_law_556 ?_
    exact okL_law_559 X Y hr
  refine ⟨?_, ?_⟩
  · refine to_aload_n (pc := 573) X dL_law_573 rfl ?_
    refine cvX10_honest (pc := 574) X wm_RL_82 (by decide) dL_law_574 ?_
    exact okL_law_577 X Y hr
  refine ⟨?_, ?_⟩
  · refine to_aload_n (pc := 586) X dL_law_586 rfl ?_
    refine to_aload_n (pc := 587) X dL_law_587 rfl ?_
    refine to_iload_n (pc := 588) X dL_law_588 rfl ?_
    refine to_iconst (pc := 589) X dL_law_589 (by decide) ?_
    refine to_iadd (pc := 590) X dL_law_590 ?_
    refine to_sld (pc := 591) X Y dL_law_591 ?_
    refine cvX10_cut (pc := 592) X wm_RL_86 (by decide) dL_law_592 ?_
    exact okL_law_595 X Y hr
  refine ⟨?_, ?_⟩
  · refine to_aload_n (pc := 609) X dL_law_609 rfl ?_
    refine to_aload_n (pc := 610) X dL_law_610 rfl ?_
    refine to_iload_n (pc := 611) X dL_law_611 rfl ?_
    refine to_iconst (pc := 612) X dL_law_612 (by decide) ?_
    refine to_iadd (pc := 613) X dL_law_613 ?_
    refine to_sld (pc := 614) X Y dL_law_614 ?_
    refine to_aload_n (pc := 615) X dL_law_615 rfl ?_
    refine to_iload_n (pc := 616) X dL_law_616 rfl ?_
    refine to_iconst (pc := 617) X dL_law_617 (by decide) ?_
    refine to_iadd (pc := 618) X dL_law_618 ?_
    refine to_sld (pc := 619) X Y dL_law_619 ?_
    refine to_aload_n (pc := 620) X dL_law_620 rfl ?_
    refine to_iload_n (pc := 621) X dL_law_621 rfl ?_
    refine to_iconst (pc := 622) X dL_law_622 (by decide) ?_
    refine to_iadd (pc := 623) X dL_law_623 ?_
    refine to_sld (pc := 624) X Y dL_law_624 ?_
    refine cvX10_bin (pc := 625) X wm_RL_90 (by decide) dL_law_625 ?_
    exact okL_law_628 X Y hr
  refine ⟨?_, ?_⟩
  · refine to_aload_n (pc := 652) X dL_law_652 rfl ?_
    refine to_aload_n (pc := 653) X dL_law_653 rfl ?_
    refine to_iload_n (pc := 654) X dL_law_654 rfl ?_
    refine to_iconst (pc := 655) X dL_law_655 (by decide) ?_
    refine to_iadd (pc := 656) X dL_law_656 ?_
    refine to_sld (pc := 657) X Y dL_law_657 ?_
    refine to_aload_n (pc := 658) X dL_law_658 rfl ?_
    refine to_iload_n (pc := 659) X dL_law_659 rfl ?_
    refine to_iconst (pc := 660) X dL_law_660 (by decide) ?_
    refine to_iadd (pc := 661) X dL_law_661 ?_
    refine to_sld (pc := 662) X Y dL_law_662 ?_
    refine to_aload_n (pc := 663) X dL_law_663 rfl ?_
    refine to_iload_n (pc := 664) X dL_law_664 rfl ?_
    refine to_iconst (pc := 665) X dL_law_665 (by decide) ?_
    refine to_iadd (pc := 666) X dL_law_666 ?_
    refine to_sld (pc := 667) X Y dL_law_667 ?_
    refine cvX10_split (pc := 668) X wm_RL_94 (by decide) dL_law_668 ?_
    exact okL_law_671 X Y hr
  refine ⟨?_, ?_⟩
  · refine to_aload_n (pc := 696) X dL_law_696 rfl ?_
    refine to_aload_n (pc := 697) X dL_law_697 rfl ?_
    refine to_iload_n (pc := 698) X dL_law_698 rfl ?_
    refine to_iconst (pc := 699) X dL_law_699 (by decide) ?_
    refine to_iadd (pc := 700) X dL_law_700 ?_
    refine to_sld (pc := 701) X Y dL_law_701 ?_
    refine to_aload_n (pc := 702) X dL_law_702 rfl ?_
    refine to_iload_n (pc := 703) X dL_law_703 rfl ?_
    refine to_iconst (pc := 704) X dL_law_704 (by decide) ?_
    refine to_iadd (pc := 705) X dL_law_705 ?_
    refine to_sld (pc := 706) X Y dL_law_706 ?_
    refine to_aload_n (pc := 707) X dL_law_707 rfl ?_
    refine to_iload_n (pc := 708) X dL_law_708 rfl ?_
    refine to_iconst (pc := 709) X dL_law_709 (by decide) ?_
    refine to_iadd (pc := 710) X dL_law_710 ?_
    refine to_sld (pc := 711) X Y dL_law_711 ?_
    refine cvX10_joined (pc := 712) X wm_RL_99 (by decide) dL_law_712 ?_
    exact okL_law_715 X Y hr
  refine ⟨?_, ?_⟩
  · refine to_aload_n (pc := 740) X dL_law_740 rfl ?_
    refine to_aload_n (pc := 741) X dL_law_741 rfl ?_
    refine to_iload_n (pc := 742) X dL_law_742 rfl ?_
    refine to_iconst (pc := 743) X dL_law_743 (by decide) ?_
    refine to_iadd (pc := 744) X dL_law_744 ?_
    refine to_sld (pc := 745) X Y dL_law_745 ?_
    refine to_aload_n (pc := 746) X dL_law_746 rfl ?_
    refine to_iload_n (pc := 747) X dL_law_747 rfl ?_
    refine to_iconst (pc := 748) X dL_law_748 (by decide) ?_
    refine to_iadd (pc := 749) X dL_law_749 ?_
    refine to_sld (pc := 750) X Y dL_law_750 ?_
    refine cvX10_area (pc := 751) X wm_RL_103 (by decide) dL_law_751 ?_
    exact okL_law_754 X Y hr
  refine ⟨?_, ?_⟩
  · refine to_aload_n (pc := 774) X dL_law_774 rfl ?_
    refine to_aload_n (pc := 775) X dL_law_775 rfl ?_
    refine to_iload_n (pc := 776) X dL_law_776 rfl ?_
    refine to_iconst (pc := 777) X dL_law_777 (by decide) ?_
    refine to_iadd (pc := 778) X dL_law_778 ?_
    refine to_sld (pc := 779) X Y dL_law_779 ?_
    refine cvX10_pools (pc := 780) X wm_RL_107 (by decide) dL_law_780 ?_
    exact okL_law_783 X Y hr
  refine ⟨?_, ?_⟩
  · refine to_aload_n (pc := 797) X dL_law_797 rfl ?_
    refine to_aload_n (pc := 798) X dL_law_798 rfl ?_
    refine to_iload_n (pc := 799) X dL_law_799 rfl ?_
    refine to_iconst (pc := 800) X dL_law_800 (by decide) ?_
    refine to_iadd (pc := 801) X dL_law_801 ?_
    refine to_sld (pc := 802) X Y dL_law_802 ?_
    refine to_aload_n (pc := 803) X dL_law_803 rfl ?_
    refine to_iload_n (pc := 804) X dL_law_804 rfl ?_
    refine to_iconst (pc := 805) X dL_law_805 (by decide) ?_
    refine to_iadd (pc := 806) X dL_law_806 ?_
    refine to_sld (pc := 807) X Y dL_law_807 ?_
    refine to_aload_n (pc := 808) X dL_law_808 rfl ?_
    refine to_iload_n (pc := 809) X dL_law_809 rfl ?_
    refine to_iconst (pc := 810) X dL_law_810 (by decide) ?_
    refine to_iadd (pc := 811) X dL_law_811 ?_
    refine to_sld (pc := 812) X Y dL_law_812 ?_
    refine cvX10_pool (pc := 813) X wm_RL_111 (by decide) dL_law_813 ?_
    exact okL_law_816 X Y hr
  refine ⟨?_, ?_⟩
  · refine to_aload_n (pc := 840) X dL_law_840 rfl ?_
    refine to_aload_n (pc := 841) X dL_law_841 rfl ?_
    refine to_iload_n (pc := 842) X dL_law_842 rfl ?_
    refine to_iconst (pc := 843) X dL_law_843 (by decide) ?_
    refine to_iadd (pc := 844) X dL_law_844 ?_
    refine to_sld (pc := 845) X Y dL_law_845 ?_
    refine to_aload_n (pc := 846) X dL_law_846 rfl ?_
    refine to_iload_n (pc := 847) X dL_law_847 rfl ?_
    refine to_iconst (pc := 848) X dL_law_848 (by decide) ?_
    refine to_iadd (pc := 849) X dL_law_849 ?_
    refine to_sld (pc := 850) X Y dL_law_850 ?_
    refine cvX10_flat (pc := 851) X wm_RL_115 (by decide) dL_law_851 ?_
    exact okL_law_854 X Y hr
  refine ⟨?_, ?_⟩
  · refine to_aload_n (pc := 874) X dL_law_874 rfl ?_
    refine to_aload_n (pc := 875) X dL_law_875 rfl ?_
    refine to_iload_n (pc := 876) X dL_law_876 rfl ?_
    refine to_iconst (pc := 877) X dL_law_877 (by decide) ?_
    refine to_iadd (pc := 878) X dL_law_878 ?_
    refine to_sld (pc := 879) X Y dL_law_879 ?_
    refine to_aload_n (pc := 880) X dL_law_880 rfl ?_
    refine to_iload_n (pc := 881) X dL_law_881 rfl ?_
    refine to_iconst (pc := 882) X dL_law_882 (by decide) ?_
    refine to_iadd (pc := 883) X dL_law_883 ?_
    refine to_sld (pc := 884) X Y dL_law_884 ?_
    refine to_aload_n (pc := 885) X dL_law_885 rfl ?_
    refine to_iload_n (pc := 886) X dL_law_886 rfl ?_
    refine to_iconst (pc := 887) X dL_law_887 (by decide) ?_
    refine to_iadd (pc := 888) X dL_law_888 ?_
    refine to_sld (pc := 889) X Y dL_law_889 ?_
    refine cvX10_better (pc := 890) X wm_RL_119 (by decide) dL_law_890 ?_
    exact okL_law_893 X Y hr
  refine ⟨?_, ?_⟩
  · refine to_aload_n (pc := 917) X dL_law_917 rfl ?_
    refine to_aload_n (pc := 918) X dL_law_918 rfl ?_
    refine to_iload_n (pc := 919) X dL_law_919 rfl ?_
    refine to_iconst (pc := 920) X dL_law_920 (by decide) ?_
    refine to_iadd (pc := 921) X dL_law_921 ?_
    refine to_sld (pc := 922) X Y dL_law_922 ?_
    refine to_aload_n (pc := 923) X dL_law_923 rfl ?_
    refine to_iload_n (pc := 924) X dL_law_924 rfl ?_
    refine to_iconst (pc := 925) X dL_law_925 (by decide) ?_
    refine to_iadd (pc := 926) X dL_law_926 ?_
    refine to_sld (pc := 927) X Y dL_law_927 ?_
    refine to_aload_n (pc := 928) X dL_law_928 rfl ?_
    refine to_iload_n (pc := 929) X dL_law_929 rfl ?_
    refine to_iconst (pc := 930) X dL_law_930 (by decide) ?_
    refine to_iadd (pc := 931) X dL_law_931 ?_
    refine to_sld (pc := 932) X Y dL_law_932 ?_
    refine cvX10_luck (pc := 933) X wm_RL_123 (by decide) dL_law_933 ?_
    exact okL_law_936 X Y hr
  refine ⟨?_, ?_⟩
  · refine to_aload_n (pc := 961) X dL_law_961 rfl ?_
    refine to_aload_n (pc := 962) X dL_law_962 rfl ?_
    refine to_iload_n (pc := 963) X dL_law_963 rfl ?_
    refine to_iconst (pc := 964) X dL_law_964 (by decide) ?_
    refine to_iadd (pc := 965) X dL_law_965 ?_
    refine to_sld (pc := 966) X Y dL_law_966 ?_
    refine to_aload_n (pc := 967) X dL_law_967 rfl ?_
    refine to_iload_n (pc := 968) X dL_law_968 rfl ?_
    refine to_iconst (pc := 969) X dL_law_969 (by decide) ?_
    refine to_iadd (pc := 970) X dL_law_970 ?_
    refine to_sld (pc := 971) X Y dL_law_971 ?_
    refine cvX10_report (pc := 972) X wm_RL_127 (by decide) dL_law_972 ?_
    exact okL_law_975 X Y hr
  refine ⟨?_, ?_⟩
  · refine to_aload_n (pc := 994) X dL_law_994 rfl ?_
    refine to_aload_n (pc := 995) X dL_law_995 rfl ?_
    refine to_iload_n (pc := 996) X dL_law_996 rfl ?_
    refine to_iconst (pc := 997) X dL_law_997 (by decide) ?_
    refine to_iadd (pc := 998) X dL_law_998 ?_
    refine to_sld (pc := 999) X Y dL_law_999 ?_
    refine cvX10_many (pc := 1000) X wm_RL_131 (by decide) dL_law_1000 ?_
    exact okL_law_1003 X Y hr
  trivial
