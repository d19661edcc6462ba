theorem wc_J0_length_8abf5 : Cond.code yJ0_length_8abf5 cJ0_length_8abf5 1 (some .int) ∈ tc_tb := tc_tb2 105 (by decide +kernel) (by decide +kernel)
theorem wc_J0_coder_7d493 : Cond.code yJ0_coder_7d493 cJ0_coder_7d493 1 (some .byte) ∈ tc_tb := tc_tb2 109 (by decide +kernel) (by decide +kernel)
theorem wc_J0_charAt_5068e : Cond.code yJ0_charAt_5068e cJ0_charAt_5068e 2 (some .char) ∈ tc_tb := tc_tb2 119 (by decide +kernel) (by decide +kernel)
theorem wc_J0_isLatin1_aae02 : Cond.code yJ0_isLatin1_aae02 cJ0_isLatin1_aae02 1 (some .boolean) ∈ tc_tb := tc_tb2 123 (by decide +kernel) (by decide +kernel)
theorem wc_J1_charAt_3b067 : Cond.code yJ1_charAt_3b067 cJ1_charAt_3b067 2 (some .char) ∈ tc_tb := tc_tb2 126 (by decide +kernel) (by decide +kernel)
theorem wc_J0_checkIndex_df160 : Cond.code yJ0_checkIndex_df160 cJ0_checkIndex_df160 2 none ∈ tc_tb := tc_tb2 129 (by decide +kernel) (by decide +kernel)
theorem wc_J3_checkIndex_8e157 : Cond.code yJ3_checkIndex_8e157 cJ3_checkIndex_8e157 3 (some .int) ∈ tc_tb := tc_tb2 134 (by decide +kernel) (by decide +kernel)
theorem wi_J0_length_8abf5 : Cond.instanceMethod yJ0_length_8abf5 ∈ tc_tb := tc_tb2 103 (by decide +kernel) (by decide +kernel)
theorem wl_J0_length_8abf5 : Cond.selects RJ0 yJ0_length_8abf5 yJ0_length_8abf5 ∈ tc_tb := tc_tb2 104 (by decide +kernel) (by decide +kernel)
theorem wi_J0_coder_7d493 : Cond.instanceMethod yJ0_coder_7d493 ∈ tc_tb := tc_tb2 107 (by decide +kernel) (by decide +kernel)
theorem wl_J0_coder_7d493 : Cond.selects RJ0 yJ0_coder_7d493 yJ0_coder_7d493 ∈ tc_tb := tc_tb2 108 (by decide +kernel) (by decide +kernel)
theorem wi_J0_charAt_5068e : Cond.instanceMethod yJ0_charAt_5068e ∈ tc_tb := tc_tb2 117 (by decide +kernel) (by decide +kernel)
theorem wl_J0_charAt_5068e : Cond.selects RJ0 yJ0_charAt_5068e yJ0_charAt_5068e ∈ tc_tb := tc_tb2 118 (by decide +kernel) (by decide +kernel)
theorem wi_J0_isLatin1_aae02 : Cond.instanceMethod yJ0_isLatin1_aae02 ∈ tc_tb := tc_tb2 121 (by decide +kernel) (by decide +kernel)
theorem wl_J0_isLatin1_aae02 : Cond.selects RJ0 yJ0_isLatin1_aae02 yJ0_isLatin1_aae02 ∈ tc_tb := tc_tb2 122 (by decide +kernel) (by decide +kernel)
theorem ws_J1_charAt_3b067 : Cond.static yJ1_charAt_3b067 ∈ tc_tb := tc_tb2 125 (by decide +kernel) (by decide +kernel)
theorem ws_J0_checkIndex_df160 : Cond.static yJ0_checkIndex_df160 ∈ tc_tb := tc_tb2 128 (by decide +kernel) (by decide +kernel)
theorem ws_J3_checkIndex_8e157 : Cond.static yJ3_checkIndex_8e157 ∈ tc_tb := tc_tb2 133 (by decide +kernel) (by decide +kernel)
theorem wn_RJ0 : Cond.initialized RJ0 ∈ tc_tb := tc_tb1 13 (by decide +kernel) (by decide +kernel)
theorem wn_RJ1 : Cond.initialized RJ1 ∈ tc_tb := tc_tb1 14 (by decide +kernel) (by decide +kernel)
theorem wn_RJ3 : Cond.initialized RJ3 ∈ tc_tb := tc_tb1 15 (by decide +kernel) (by decide +kernel)
theorem wf_RJ0_9 : Cond.fieldLink RJ0 9 "java/lang/String" "value" "[B" ∈ tc_tb := tc_tb5 154 (by decide +kernel) (by decide +kernel)
theorem wf_RJ0_15 : Cond.fieldLink RJ0 15 "java/lang/String" "coder" "B" ∈ tc_tb := tc_tb5 155 (by decide +kernel) (by decide +kernel)
theorem wf_RJ0_38 : Cond.fieldLink RJ0 38 "java/lang/String" "COMPACT_STRINGS" "Z" ∈ tc_tb := tc_tb2 110 (by decide +kernel) (by decide +kernel)
theorem wf_RJ0_1053 : Cond.fieldLink RJ0 1053 "jdk/internal/util/Preconditions" "SIOOBE_FORMATTER" "Ljava/util/function/BiFunction;" ∈ tc_tb := tc_tb2 130 (by decide +kernel) (by decide +kernel)
theorem wm_RJ0_335 : Cond.methodLink RJ0 335 yJ0_coder_7d493 ∈ tc_tb := tc_tb2 106 (by decide +kernel) (by decide +kernel)
theorem wm_RJ0_492 : Cond.methodLink RJ0 492 yJ0_isLatin1_aae02 ∈ tc_tb := tc_tb2 120 (by decide +kernel) (by decide +kernel)
theorem wm_RJ0_495 : Cond.methodLink RJ0 495 yJ1_charAt_3b067 ∈ tc_tb := tc_tb2 124 (by decide +kernel) (by decide +kernel)
theorem wm_RJ1_9 : Cond.methodLink RJ1 9 yJ0_checkIndex_df160 ∈ tc_tb := tc_tb2 127 (by decide +kernel) (by decide +kernel)
theorem wm_RJ0_1059 : Cond.methodLink RJ0 1059 yJ3_checkIndex_8e157 ∈ tc_tb := tc_tb2 132 (by decide +kernel) (by decide +kernel)
theorem dJ0_length_8abf5_0 : decode cJ0_length_8abf5 0 = .ok (.aload_n 0, 1) := by decide +kernel
theorem dJ0_length_8abf5_1 : decode cJ0_length_8abf5 1 = .ok (.getfield 9, 3) := by decide +kernel
theorem dJ0_length_8abf5_4 : decode cJ0_length_8abf5 4 = .ok (.arraylength, 1) := by decide +kernel
theorem dJ0_length_8abf5_5 : decode cJ0_length_8abf5 5 = .ok (.aload_n 0, 1) := by decide +kernel
theorem dJ0_length_8abf5_6 : decode cJ0_length_8abf5 6 = .ok (.invokevirtual 335, 3) := by decide +kernel
theorem dJ0_length_8abf5_9 : decode cJ0_length_8abf5 9 = .ok (.ishr, 1) := by decide +kernel
theorem dJ0_length_8abf5_10 : decode cJ0_length_8abf5 10 = .ok (.ireturn, 1) := by decide +kernel
theorem dJ0_coder_7d493_0 : decode cJ0_coder_7d493 0 = .ok (.getstatic 38, 3) := by decide +kernel
theorem dJ0_coder_7d493_3 : decode cJ0_coder_7d493 3 = .ok (.ifCond .eq 10, 3) := by decide +kernel
theorem dJ0_coder_7d493_6 : decode cJ0_coder_7d493 6 = .ok (.aload_n 0, 1) := by decide +kernel
theorem dJ0_coder_7d493_7 : decode cJ0_coder_7d493 7 = .ok (.getfield 15, 3) := by decide +kernel
theorem dJ0_coder_7d493_10 : decode cJ0_coder_7d493 10 = .ok (.goto 4, 3) := by decide +kernel
theorem dJ0_coder_7d493_13 : decode cJ0_coder_7d493 13 = .ok (.iconst 1, 1) := by decide +kernel
theorem dJ0_coder_7d493_14 : decode cJ0_coder_7d493 14 = .ok (.ireturn, 1) := by decide +kernel
theorem dJ0_charAt_5068e_0 : decode cJ0_charAt_5068e 0 = .ok (.aload_n 0, 1) := by decide +kernel
theorem dJ0_charAt_5068e_1 : decode cJ0_charAt_5068e 1 = .ok (.invokevirtual 492, 3) := by decide +kernel
theorem dJ0_charAt_5068e_4 : decode cJ0_charAt_5068e 4 = .ok (.ifCond .eq 12, 3) := by decide +kernel
theorem dJ0_charAt_5068e_7 : decode cJ0_charAt_5068e 7 = .ok (.aload_n 0, 1) := by decide +kernel
theorem dJ0_charAt_5068e_8 : decode cJ0_charAt_5068e 8 = .ok (.getfield 9, 3) := by decide +kernel
theorem dJ0_charAt_5068e_11 : decode cJ0_charAt_5068e 11 = .ok (.iload_n 1, 1) := by decide +kernel
theorem dJ0_charAt_5068e_12 : decode cJ0_charAt_5068e 12 = .ok (.invokestatic 495, 3) := by decide +kernel
theorem dJ0_charAt_5068e_15 : decode cJ0_charAt_5068e 15 = .ok (.ireturn, 1) := by decide +kernel
theorem dJ0_charAt_5068e_16 : decode cJ0_charAt_5068e 16 = .ok (.aload_n 0, 1) := by decide +kernel
theorem dJ0_charAt_5068e_17 : decode cJ0_charAt_5068e 17 = .ok (.getfield 9, 3) := by decide +kernel
theorem dJ0_charAt_5068e_20 : decode cJ0_charAt_5068e 20 = .ok (.iload_n 1, 1) := by decide +kernel
theorem dJ0_charAt_5068e_21 : decode cJ0_charAt_5068e 21 = .ok (.invokestatic 498, 3) := by decide +kernel
theorem dJ0_charAt_5068e_24 : decode cJ0_charAt_5068e 24 = .ok (.ireturn, 1) := by decide +kernel
theorem dJ0_isLatin1_aae02_0 : decode cJ0_isLatin1_aae02 0 = .ok (.getstatic 38, 3) := by decide +kernel
theorem dJ0_isLatin1_aae02_3 : decode cJ0_isLatin1_aae02 3 = .ok (.ifCond .eq 14, 3) := by decide +kernel
theorem dJ0_isLatin1_aae02_6 : decode cJ0_isLatin1_aae02 6 = .ok (.aload_n 0, 1) := by decide +kernel
theorem dJ0_isLatin1_aae02_7 : decode cJ0_isLatin1_aae02 7 = .ok (.getfield 15, 3) := by decide +kernel
theorem dJ0_isLatin1_aae02_10 : decode cJ0_isLatin1_aae02 10 = .ok (.ifCond .ne 7, 3) := by decide +kernel
theorem dJ0_isLatin1_aae02_13 : decode cJ0_isLatin1_aae02 13 = .ok (.iconst 1, 1) := by decide +kernel
theorem dJ0_isLatin1_aae02_14 : decode cJ0_isLatin1_aae02 14 = .ok (.goto 4, 3) := by decide +kernel
theorem dJ0_isLatin1_aae02_17 : decode cJ0_isLatin1_aae02 17 = .ok (.iconst 0, 1) := by decide +kernel
theorem dJ0_isLatin1_aae02_18 : decode cJ0_isLatin1_aae02 18 = .ok (.ireturn, 1) := by decide +kernel
theorem dJ1_charAt_3b067_0 : decode cJ1_charAt_3b067 0 = .ok (.iload_n 1, 1) := by decide +kernel
theorem dJ1_charAt_3b067_1 : decode cJ1_charAt_3b067 1 = .ok (.aload_n 0, 1) := by decide +kernel
theorem dJ1_charAt_3b067_2 : decode cJ1_charAt_3b067 2 = .ok (.arraylength, 1) := by decide +kernel
theorem dJ1_charAt_3b067_3 : decode cJ1_charAt_3b067 3 = .ok (.invokestatic 9, 3) := by decide +kernel
theorem dJ1_charAt_3b067_6 : decode cJ1_charAt_3b067 6 = .ok (.aload_n 0, 1) := by decide +kernel
theorem dJ1_charAt_3b067_7 : decode cJ1_charAt_3b067 7 = .ok (.iload_n 1, 1) := by decide +kernel
theorem dJ1_charAt_3b067_8 : decode cJ1_charAt_3b067 8 = .ok (.baload, 1) := by decide +kernel
theorem dJ1_charAt_3b067_9 : decode cJ1_charAt_3b067 9 = .ok (.sipush 255, 3) := by decide +kernel
theorem dJ1_charAt_3b067_12 : decode cJ1_charAt_3b067 12 = .ok (.iand, 1) := by decide +kernel
theorem dJ1_charAt_3b067_13 : decode cJ1_charAt_3b067 13 = .ok (.i2c, 1) := by decide +kernel
theorem dJ1_charAt_3b067_14 : decode cJ1_charAt_3b067 14 = .ok (.ireturn, 1) := by decide +kernel
theorem dJ0_checkIndex_df160_0 : decode cJ0_checkIndex_df160 0 = .ok (.iload_n 0, 1) := by decide +kernel
theorem dJ0_checkIndex_df160_1 : decode cJ0_checkIndex_df160 1 = .ok (.iload_n 1, 1) := by decide +kernel
theorem dJ0_checkIndex_df160_2 : decode cJ0_checkIndex_df160 2 = .ok (.getstatic 1053, 3) := by decide +kernel
theorem dJ0_checkIndex_df160_5 : decode cJ0_checkIndex_df160 5 = .ok (.invokestatic 1059, 3) := by decide +kernel
theorem dJ0_checkIndex_df160_8 : decode cJ0_checkIndex_df160 8 = .ok (.pop, 1) := by decide +kernel
theorem dJ0_checkIndex_df160_9 : decode cJ0_checkIndex_df160 9 = .ok (.return_, 1) := by decide +kernel
theorem dJ3_checkIndex_8e157_0 : decode cJ3_checkIndex_8e157 0 = .ok (.iload_n 0, 1) := by decide +kernel
theorem dJ3_checkIndex_8e157_1 : decode cJ3_checkIndex_8e157 1 = .ok (.ifCond .lt 8, 3) := by decide +kernel
theorem dJ3_checkIndex_8e157_4 : decode cJ3_checkIndex_8e157 4 = .ok (.iload_n 0, 1) := by decide +kernel
theorem dJ3_checkIndex_8e157_5 : decode cJ3_checkIndex_8e157 5 = .ok (.iload_n 1, 1) := by decide +kernel
theorem dJ3_checkIndex_8e157_6 : decode cJ3_checkIndex_8e157 6 = .ok (.if_icmp .lt 10, 3) := by decide +kernel
theorem dJ3_checkIndex_8e157_9 : decode cJ3_checkIndex_8e157 9 = .ok (.aload_n 2, 1) := by decide +kernel
theorem dJ3_checkIndex_8e157_10 : decode cJ3_checkIndex_8e157 10 = .ok (.iload_n 0, 1) := by decide +kernel
theorem dJ3_checkIndex_8e157_11 : decode cJ3_checkIndex_8e157 11 = .ok (.iload_n 1, 1) := by decide +kernel
theorem dJ3_checkIndex_8e157_12 : decode cJ3_checkIndex_8e157 12 = .ok (.invokestatic 95, 3) := by decide +kernel
theorem dJ3_checkIndex_8e157_15 : decode cJ3_checkIndex_8e157 15 = .ok (.athrow, 1) := by decide +kernel
theorem dJ3_checkIndex_8e157_16 : decode cJ3_checkIndex_8e157 16 = .ok (.iload_n 0, 1) := by decide +kernel
theorem dJ3_checkIndex_8e157_17 : decode cJ3_checkIndex_8e157 17 = .ok (.ireturn, 1) := by decide +kernel
/-! texts: length() and charAt() of the constants -/
section TCSTR
variable {R : Room} {cc : ByteArray} {nL : Nat} {own : String} {Z : tc_Z} {pc : Nat} {k : tc_B}
def tb_sval (k : tc_B) : tc_B := fun L K S => match K with
  | .inr (.inr (3, i)) :: r => i < 10 ∧ k L (.inr (.inr (6, i)) :: r) S
  | _ => False
theorem to_sval {ix : Nat} (X : tc_Cx R cc nL own Z) (hw : Cond.fieldLink own ix "java/lang/String" "value" "[B" ∈ tc_tb) (hd : decode cc pc = .ok (.getfield ix, 3)) (h : tc_Ok nL Z (pc + 3) k) : tc_Ok nL Z pc (tb_sval k) := by
  obtain ⟨p, l, e, R', s, m, args, below, meth, c, n, Q, Ts, D, ad, cA, A⟩ := Z
  obtain ⟨rfl, ⟨hx, hb, hml, hown, hts⟩, hK, hA, hSt, hTs, hn⟩ := X
  intro L K S hb9 H locs ls hP hD hS hl
  simp only [tb_sval] at hb9
  split at hb9
  · exact vk_getf hx hb (hSt.2.2.2.1.1 _ hb9.1).2.2.1 hS hown (hts _ (hTs _ hw)) (fun _ h9 => h9) hd (h _ _ _ hb9.2 H locs ls hP hD hS hl)
  · exact hb9.elim
def tb_scod (k : tc_B) : tc_B := fun L K S => match K with
  | .inr (.inr (3, i)) :: r => i < 10 ∧ k L (.inl 0 :: r) S
  | _ => False
theorem to_scod {ix : Nat} (X : tc_Cx R cc nL own Z) (hw : Cond.fieldLink own ix "java/lang/String" "coder" "B" ∈ tc_tb) (hd : decode cc pc = .ok (.getfield ix, 3)) (h : tc_Ok nL Z (pc + 3) k) : tc_Ok nL Z pc (tb_scod k) := by
  obtain ⟨p, l, e, R', s, m, args, below, meth, c, n, Q, Ts, D, ad, cA, A⟩ := Z
  obtain ⟨rfl, ⟨hx, hb, hml, hown, hts⟩, hK, hA, hSt, hTs, hn⟩ := X
  intro L K S hb9 H locs ls hP hD hS hl
  simp only [tb_scod] at hb9
  split at hb9
  · exact vk_getf hx hb (hSt.2.2.2.1.1 _ hb9.1).2.1 hS hown (hts _ (hTs _ hw)) (fun _ h9 => h9) hd (h _ _ _ hb9.2 H locs ls hP hD hS hl)
  · exact hb9.elim
def tb_blen (k : tc_B) : tc_B := fun L K S => match K with
  | .inr (.inr (6, i)) :: r => i < 10 ∧ k L (.inl (nI (tc_len.getD i 0)) :: r) S
  | _ => False
theorem to_blen (X : tc_Cx R cc nL own Z) (hd : decode cc pc = .ok (.arraylength, 1)) (h : tc_Ok nL Z (pc + 1) k) : tc_Ok nL Z pc (tb_blen k) := by
  obtain ⟨p, l, e, R', s, m, args, below, meth, c, n, Q, Ts, D, ad, cA, A⟩ := Z
  obtain ⟨rfl, ⟨hx, hb, hml, hown, hts⟩, hK, hA, hSt, hTs, hn⟩ := X
  intro L K S hb9 H locs ls hP hD hS hl
  simp only [tb_blen] at hb9
  split at hb9
  · exact va_tlen hx hb (hSt.2.2.2.1.1 _ hb9.1).2.2.2 hS rfl hd (h _ _ _ hb9.2 H locs ls hP hD hS hl)
  · exact hb9.elim
def tb_bald (k : tc_B) : tc_B := fun L K S => match K with
  | .inl x :: .inr (.inr (6, i)) :: r => i < 10 ∧ vp_in x (tc_len.getD i 0) ∧ k L (.inl ((tc_byt.getD i []).getD x.toNatClampNeg 0) :: r) S
  | _ => False
theorem to_bald (X : tc_Cx R cc nL own Z) (hd : decode cc pc = .ok (.baload, 1)) (h : tc_Ok nL Z (pc + 1) k) : tc_Ok nL Z pc (tb_bald k) := by
  obtain ⟨p, l, e, R', s, m, args, below, meth, c, n, Q, Ts, D, ad, cA, A⟩ := Z
  obtain ⟨rfl, ⟨hx, hb, hml, hown, hts⟩, hK, hA, hSt, hTs, hn⟩ := X
  intro L K S hb9 H locs ls hP hD hS hl
  simp only [tb_bald] at hb9
  split at hb9
  · exact va_tb hx hb (hSt.2.2.2.1.1 _ hb9.1).2.2.2 hS hb9.2.1 rfl hd (h _ _ _ hb9.2.2 H locs ls hP hD hS hl)
  · exact hb9.elim
def tb_ishr (k : tc_B) : tc_B := tb_ii (fun x y => x >>> (y &&& 31)) k
theorem to_ishr (X : tc_Cx R cc nL own Z) (hd : decode cc pc = .ok (.ishr, 1)) (h : tc_Ok nL Z (pc + 1) k) : tc_Ok nL Z pc (tb_ishr k) := by
  obtain ⟨p, l, e, R', s, m, args, below, meth, c, n, Q, Ts, D, ad, cA, A⟩ := Z
  obtain ⟨rfl, ⟨hx, hb, hml, hown, hts⟩, hK, hA, hSt, hTs, hn⟩ := X
  intro L K S hb9 H locs ls hP hD hS hl
  simp only [tb_ishr, tb_ii] at hb9
  split at hb9
  · exact lv_ishr hx hb hd (h _ _ _ hb9 H locs ls hP hD hS hl)
  · exact hb9.elim
def tb_i2c (k : tc_B) : tc_B := fun L K S => match K with
  | .inl x :: r => k L (.inl (x.toUInt32 % 65536).toInt32 :: r) S
  | _ => False
theorem to_i2c (X : tc_Cx R cc nL own Z) (hd : decode cc pc = .ok (.i2c, 1)) (h : tc_Ok nL Z (pc + 1) k) : tc_Ok nL Z pc (tb_i2c k) := by
  obtain ⟨p, l, e, R', s, m, args, below, meth, c, n, Q, Ts, D, ad, cA, A⟩ := Z
  obtain ⟨rfl, ⟨hx, hb, hml, hown, hts⟩, hK, hA, hSt, hTs, hn⟩ := X
  intro L K S hb9 H locs ls hP hD hS hl
  simp only [tb_i2c] at hb9
  split at hb9
  · exact lv_i2c hx hb hd rfl (h _ _ _ hb9 H locs ls hP hD hS hl)
  · exact hb9.elim
end TCSTR

theorem c_pre9 (l : Launch) (D : va_G) (ad : Nat → Nat → Nat) (cA : Nat → ClassId) (S : tc_S) (sz : Nat) (a b : Int32) (v9 : Value) (hv9 : v9 = .null ∨ ∃ t, v9 = .ref t) (h0 : ¬ a < 0) (h1 : a < b) : Met l yJ3_checkIndex_8e157 (Cond.code yJ3_checkIndex_8e157 cJ3_checkIndex_8e157 3 (some .int) :: tc_tb) ({ frames := 0, cells := 0, slots := 0, locals := 0 } : Room) (va_Pc [.int a, .int b, v9] (tc_Pre D ad cA S sz)) (va_Qi (fun _ u => u = S) (tc_Be D ad cA (va_A (tc_W ad cA S) sz)) (va_A (tc_W ad cA S) sz)) 0 0 (va_A (tc_W ad cA S) sz) := by
  refine Met.ofW (cc := cJ3_checkIndex_8e157) (maxL := 3) (ret := (some .int)) (by decide) rfl ?_
  intro p e s m args below meth c s₁ B hml hv
  obtain ⟨rfl, hsz, hP, hK, hD0, hSt⟩ := hv
  subst hsz
  have hx := B.exec
  have hb := B.bytes
  have hr := B.returns
  have hlocks := B.notSynchronized
  have hD := hD0.self (sz := s.heap.size)
  have hS : va_S (va_A (tc_W ad cA S) s.heap.size) s.heap s.heap [] := va_S.rf
  have hl := lv_entry ([.int a, .int b, v9]) (n := 3) (by rcases hv9 with rfl | ⟨t, rfl⟩ <;> simp [lg_sl, Value.category])
  rw [lg_entry_eq]
  generalize (lg_sl ([.int a, .int b, v9]) ++ List.replicate (3 - (lg_sl ([.int a, .int b, v9])).length) Slot.unset).toArray = ls at hl ⊢
  have hl : lv_has ls 3 [(0, .int a), (1, .int b), (2, v9)] := hl
  refine lv_iload_n hx hb dJ3_checkIndex_8e157_0 rfl (lv_at hl 0 rfl) ?_
  refine lv_if_lt (tgt := 9) hx hb dJ3_checkIndex_8e157_1 (by decide) (fun z => absurd z h0) (fun _ => ?_)
  refine lv_iload_n hx hb dJ3_checkIndex_8e157_4 rfl (lv_at hl 0 rfl) ?_
  refine lv_iload_n hx hb dJ3_checkIndex_8e157_5 rfl (lv_at hl 1 rfl) ?_
  refine lv_icmp_lt (tgt := 16) hx hb dJ3_checkIndex_8e157_6 (by decide) (fun _ => ?_) (fun z => absurd h1 z)
  refine lv_iload_n hx hb dJ3_checkIndex_8e157_16 rfl (lv_at hl 0 rfl) ?_
  exact W.iret (v := a) hx hb hr (fun t ht hW => ⟨⟨a, S, rfl, rfl, by rw [ht]; exact hP, va_K.moved hW.alike hK, hD⟩, hS.F ht⟩) hS.2.2 dJ3_checkIndex_8e157_17
def RJ0_checkIndex_df160 (vs : List tc_V) (S : tc_S) (q : tc_Q) : Prop := match vs with
  | [.inl a, .inl b] => (¬ a < 0 ∧ a < b) ∧ q none S
  | _ => False
theorem metJ0_checkIndex_df160 : tc_Met yJ0_checkIndex_df160 (Cond.code yJ0_checkIndex_df160 cJ0_checkIndex_df160 2 none) ({ frames := 1, cells := 0, slots := 0, locals := 22 } : Room) 3 2 RJ0_checkIndex_df160 := by
  refine tc_met (rk := 3) (by decide) ⟨rfl, rfl⟩ ?_
  intro Z q X hr vs S h
  simp only [RJ0_checkIndex_df160] at h
  split at h
  · rename_i a b
    obtain ⟨⟨h0, h1⟩, hq⟩ := h
    have hret := hr 9 [(0, .inl a), (1, .inl b)] S hq dJ0_checkIndex_df160_9
    obtain ⟨p, l, e, R', s, m, args, below, meth, c, n, Q, Ts, D, ad, cA, A⟩ := Z
    obtain ⟨rfl, ⟨hx, hb, hml, hown, hts⟩, hK, hA, hSt, hTs, hn⟩ := X
    intro H locs ls hP hD hS hl
    have hl : lv_has ls 2 [(0, .int a), (1, .int b)] := hl
    refine lv_iload_n hx hb dJ0_checkIndex_df160_0 rfl (lv_at hl 0 rfl) ?_
    refine lv_iload_n hx hb dJ0_checkIndex_df160_1 rfl (lv_at hl 1 rfl) ?_
    have hF : ∀ q, va_A (tc_W ad cA S) H.size q → A q := by
      intro q hq
      rcases hq with ⟨i, e9, hi⟩ | hq
      · exact hD.2 i (q, e9) hi
      · exact hA q (Nat.le_trans hS.1 hq)
    have go : ∀ v9 : Value, (v9 = .null ∨ ∃ t, v9 = .ref t) → W p l e ({ frames := 1, cells := 0, slots := 0, locals := 22 } : Room) s m args below meth c H locs n.1 n.2 Q (F0 m 5 ls [v9, .int b, .int a]) := by
      intro v9 hv9
      refine va_calli (a := [.int a, .int b, v9].toArray) (va_runS (As := [.int a, .int b, v9]) (rest := []) (maxL := 3) (ret := some .int) (bytes := cJ3_checkIndex_8e157) ⟨hx, hb, hml, hown, hts⟩ (c_pre9 l D ad cA S H.size a b v9 hv9 h0 h1) ⟨callB_of 3 hts (tc_goodIn hTs wc_J3_checkIndex_8e157) rfl rfl rfl (hts _ (hTs _ wn_RJ3)) (hts _ (hTs _ wm_RJ0_1059)) ⟨by decide +kernel, by decide +kernel, by decide +kernel⟩ ⟨by decide, by decide⟩, hts _ (hTs _ ws_J3_checkIndex_8e157)⟩ ⟨?_, fun U hU hW => ⟨rfl, tc_pre (args := args) hK hA hSt hP hD hS hU hW⟩⟩ rfl rfl hl.1 rfl (lv_room (Nat.le_of_ble_eq_true rfl)) dJ0_checkIndex_df160_5 ⟨hn.1, hn.2⟩) hS (fun q _ h9 => hF q h9) hF (fun r u t H1 locs1 ht hvm hw hB hz1 hk1 hS1 => ?_)
      · exact tc_blind (l := l)
      · obtain ⟨b1, b2, b3⟩ := hB
        rw [ht, hw] at b1
        rw [hw] at b3
        refine lv_pop hx hb dJ0_checkIndex_df160_8 rfl ?_
        exact hret H1 locs1 ls b1 (b3.weaken (fun _ _ _ h9 => hF _ h9)) hS1 hl
    rcases hSt.2.2.2.2.2.2.2.2.2 with hz | ⟨t, hz⟩
    · exact va_gets hx hb hz hS hown (hts _ (hTs _ wf_RJ0_1053)) (fun _ h9 => h9) dJ0_checkIndex_df160_2 (go .null (Or.inl rfl))
    · exact va_gets hx hb hz hS hown (hts _ (hTs _ wf_RJ0_1053)) (fun _ h9 => h9) dJ0_checkIndex_df160_2 (go (.ref t) (Or.inr ⟨t, rfl⟩))
  · exact h.elim
def bkJ0_coder_7d493_0 (q : tc_Q) : tc_B := tb_gets (tc_I 1) <| tb_if_eq (tb_i 1 <| tb_bret q) <| tb_aload 0 <| tb_scod <| tb_bret q
theorem okJ0_coder_7d493_0 {Z : tc_Z} {q : tc_Q} (X : tc_Cx ({ frames := 0, cells := 0, slots := 0, locals := 0 } : Room) cJ0_coder_7d493 1 RJ0 Z) (hr : tc_Rt 4 cJ0_coder_7d493 1 Z q) : tc_Ok 1 Z 0 (bkJ0_coder_7d493_0 q) := by
  unfold bkJ0_coder_7d493_0
  refine to_gets (pc := 0) X (List.mem_of_getElem? (i := 12) rfl) wf_RJ0_38 dJ0_coder_7d493_0 ?_
  refine to_if_eq (pc := 3) (tgt := 13) X dJ0_coder_7d493_3 (by decide) ?_ ?_
  · refine to_iconst (pc := 13) X dJ0_coder_7d493_13 (by decide) ?_
    exact to_bret (pc := 14) hr dJ0_coder_7d493_14
  refine to_aload_n (pc := 6) X dJ0_coder_7d493_6 rfl ?_
  refine to_scod (pc := 7) X wf_RJ0_15 dJ0_coder_7d493_7 ?_
  refine to_goto (pc := 10) (tgt := 14) X dJ0_coder_7d493_10 (by decide) ?_
  exact to_bret (pc := 14) hr dJ0_coder_7d493_14
def RJ0_coder_7d493 (vs : List tc_V) (S : tc_S) (q : tc_Q) : Prop := match vs with
  | [.inr (.inr (3, i))] => i < 10 ∧ q (some (.inl 0)) S
  | _ => False
theorem metJ0_coder_7d493 : tc_Met yJ0_coder_7d493 (Cond.code yJ0_coder_7d493 cJ0_coder_7d493 1 (some .byte)) ({ frames := 0, cells := 0, slots := 0, locals := 0 } : Room) 4 1 RJ0_coder_7d493 := tc_met (rk := 4) (by decide) ⟨rfl, rfl⟩ (fun Z q X hr vs S h => by
  simp only [RJ0_coder_7d493] at h
  split at h
  · exact okJ0_coder_7d493_0 X hr _ _ _ (show (_ → _) ∧ (_ → _) from ⟨fun z => absurd z (by decide), fun _ => ⟨h.1, by decide +kernel, h.2⟩⟩)
  · exact h.elim)
def bkJ0_isLatin1_aae02_0 (q : tc_Q) : tc_B := tb_gets (tc_I 1) <| tb_if_eq (tb_i 0 <| tb_zret q) <| tb_aload 0 <| tb_scod <| tb_if_ne (tb_i 0 <| tb_zret q) <| tb_i 1 <| tb_zret q
theorem okJ0_isLatin1_aae02_0 {Z : tc_Z} {q : tc_Q} (X : tc_Cx ({ frames := 0, cells := 0, slots := 0, locals := 0 } : Room) cJ0_isLatin1_aae02 1 RJ0 Z) (hr : tc_Rt 1 cJ0_isLatin1_aae02 1 Z q) : tc_Ok 1 Z 0 (bkJ0_isLatin1_aae02_0 q) := by
  unfold bkJ0_isLatin1_aae02_0
  refine to_gets (pc := 0) X (List.mem_of_getElem? (i := 12) rfl) wf_RJ0_38 dJ0_isLatin1_aae02_0 ?_
  refine to_if_eq (pc := 3) (tgt := 17) X dJ0_isLatin1_aae02_3 (by decide) ?_ ?_
  · refine to_iconst (pc := 17) X dJ0_isLatin1_aae02_17 (by decide) ?_
    exact to_zret (pc := 18) hr dJ0_isLatin1_aae02_18
  refine to_aload_n (pc := 6) X dJ0_isLatin1_aae02_6 rfl ?_
  refine to_scod (pc := 7) X wf_RJ0_15 dJ0_isLatin1_aae02_7 ?_
  refine to_if_ne (pc := 10) (tgt := 17) X dJ0_isLatin1_aae02_10 (by decide) ?_ ?_
  · refine to_iconst (pc := 17) X dJ0_isLatin1_aae02_17 (by decide) ?_
    exact to_zret (pc := 18) hr dJ0_isLatin1_aae02_18
  refine to_iconst (pc := 13) X dJ0_isLatin1_aae02_13 (by decide) ?_
  refine to_goto (pc := 14) (tgt := 18) X dJ0_isLatin1_aae02_14 (by decide) ?_
  exact to_zret (pc := 18) hr dJ0_isLatin1_aae02_18
def RJ0_isLatin1_aae02 (vs : List tc_V) (S : tc_S) (q : tc_Q) : Prop := match vs with
  | [.inr (.inr (3, i))] => i < 10 ∧ q (some (.inl 1)) S
  | _ => False
theorem metJ0_isLatin1_aae02 : tc_Met yJ0_isLatin1_aae02 (Cond.code yJ0_isLatin1_aae02 cJ0_isLatin1_aae02 1 (some .boolean)) ({ frames := 0, cells := 0, slots := 0, locals := 0 } : Room) 1 1 RJ0_isLatin1_aae02 := tc_met (rk := 1) (by decide) ⟨rfl, rfl⟩ (fun Z q X hr vs S h => by
  simp only [RJ0_isLatin1_aae02] at h
  split at h
  · exact okJ0_isLatin1_aae02_0 X hr _ _ _ (show (_ → _) ∧ (_ → _) from ⟨fun z => absurd z (by decide), fun _ => ⟨h.1, (show (_ → _) ∧ (_ → _) from ⟨fun _ => ⟨by decide +kernel, h.2⟩, fun z => absurd rfl z⟩)⟩⟩)
  · exact h.elim)
def bkJ0_length_8abf5_0 (q : tc_Q) : tc_B := tb_aload 0 <| tb_sval <| tb_blen <| tb_aload 0 <| tb_callE 0 1 3 10 RJ0_coder_7d493 <| tb_ishr <| tb_iret q
theorem okJ0_length_8abf5_0 {Z : tc_Z} {q : tc_Q} (X : tc_Cx ({ frames := 1, cells := 0, slots := 0, locals := 20 } : Room) cJ0_length_8abf5 1 RJ0 Z) (hr : tc_Rt 0 cJ0_length_8abf5 1 Z q) : tc_Ok 1 Z 0 (bkJ0_length_8abf5_0 q) := by
  unfold bkJ0_length_8abf5_0
  refine to_aload_n (pc := 0) X dJ0_length_8abf5_0 rfl ?_
  refine to_sval (pc := 1) X wf_RJ0_9 dJ0_length_8abf5_1 ?_
  refine to_blen (pc := 4) X dJ0_length_8abf5_4 ?_
  refine to_aload_n (pc := 5) X dJ0_length_8abf5_5 rfl ?_
  refine to_callE (pc := 6) X metJ0_coder_7d493 (Or.inr (Or.inr ⟨rfl, rfl, rfl⟩)) ⟨rfl, rfl⟩ (by decide) wm_RJ0_335 wi_J0_coder_7d493 wl_J0_coder_7d493 wn_RJ0 wc_J0_coder_7d493 ⟨by decide +kernel, by decide +kernel, by decide +kernel, by decide +kernel⟩ dJ0_length_8abf5_6 ?_
  refine to_ishr (pc := 9) X dJ0_length_8abf5_9 ?_
  exact to_iret (pc := 10) hr dJ0_length_8abf5_10
def RJ0_length_8abf5 (vs : List tc_V) (S : tc_S) (q : tc_Q) : Prop := match vs with
  | [.inr (.inr (3, i))] => i < 10 ∧ q (some (.inl (nI (tc_len.getD i 0)))) S
  | _ => False
theorem tc_len_lt : ∀ i, i < 10 → tc_len.getD i 0 < 2 ^ 31 := by decide
theorem metJ0_length_8abf5 : tc_Met yJ0_length_8abf5 (Cond.code yJ0_length_8abf5 cJ0_length_8abf5 1 (some .int)) ({ frames := 1, cells := 0, slots := 0, locals := 20 } : Room) 0 1 RJ0_length_8abf5 := tc_met (rk := 0) (by decide) ⟨rfl, rfl⟩ (fun Z q X hr vs S h => by
  simp only [RJ0_length_8abf5] at h
  split at h
  · rename_i i
    refine okJ0_length_8abf5_0 X hr _ _ _ (show _ ∧ _ from ⟨h.1, (show _ ∧ _ from ⟨h.1, (show _ ∧ _ from ⟨h.1, (show _ ∧ _ from ⟨h.1, ?_⟩)⟩)⟩)⟩)
    show q (some (.inl (nI (tc_len.getD i 0) >>> ((0 : Int32) &&& 31)))) S
    rw [sc_shr0 (tc_len_lt i h.1)]
    exact h.2
  · exact h.elim)
def bkJ1_charAt_3b067_0 (q : tc_Q) : tc_B := tb_iload 1 <| tb_aload 0 <| tb_blen <| tb_callS 2 2 RJ0_checkIndex_df160 <| tb_aload 0 <| tb_iload 1 <| tb_bald <| tb_i 255 <| tb_iand <| tb_i2c <| tb_cret q
theorem okJ1_charAt_3b067_0 {Z : tc_Z} {q : tc_Q} (X : tc_Cx ({ frames := 2, cells := 0, slots := 0, locals := 43 } : Room) cJ1_charAt_3b067 2 RJ1 Z) (hr : tc_Rt 5 cJ1_charAt_3b067 2 Z q) : tc_Ok 2 Z 0 (bkJ1_charAt_3b067_0 q) := by
  unfold bkJ1_charAt_3b067_0
  refine to_iload_n (pc := 0) X dJ1_charAt_3b067_0 rfl ?_
  refine to_aload_n (pc := 1) X dJ1_charAt_3b067_1 rfl ?_
  refine to_blen (pc := 2) X dJ1_charAt_3b067_2 ?_
  refine to_callS (pc := 3) X metJ0_checkIndex_df160 ⟨rfl, rfl⟩ (by decide) wm_RJ1_9 ws_J0_checkIndex_df160 wn_RJ0 wc_J0_checkIndex_df160 ⟨by decide +kernel, by decide +kernel, by decide +kernel⟩ dJ1_charAt_3b067_3 ?_
  refine to_aload_n (pc := 6) X dJ1_charAt_3b067_6 rfl ?_
  refine to_iload_n (pc := 7) X dJ1_charAt_3b067_7 rfl ?_
  refine to_bald (pc := 8) X dJ1_charAt_3b067_8 ?_
  refine to_sipush (pc := 9) X dJ1_charAt_3b067_9 (by decide) ?_
  refine to_iand (pc := 12) X dJ1_charAt_3b067_12 ?_
  refine to_i2c (pc := 13) X dJ1_charAt_3b067_13 ?_
  exact to_cret (pc := 14) hr dJ1_charAt_3b067_14
def tc_ch (i k : Nat) : Int32 := (tc_byt.getD i []).getD k 0
theorem tc_ch_and : ∀ i, i < 10 → ∀ k, k < tc_len.getD i 0 → tc_ch i k &&& 255 = tc_ch i k := by decide
def RJ1_charAt_3b067 (vs : List tc_V) (S : tc_S) (q : tc_Q) : Prop := match vs with
  | [.inr (.inr (6, i)), .inl x] => i < 10 ∧ vp_in x (tc_len.getD i 0) ∧ q (some (.inl (tc_ch i x.toNatClampNeg))) S
  | _ => False
theorem tc_in_lt {x : Int32} {n : Nat} (h : vp_in x n) (hn : n < 2 ^ 31) : ¬ x < 0 ∧ x < nI n ∧ x.toNatClampNeg < n := by
  obtain ⟨j, hj, rfl⟩ := vp_in_of h hn
  exact ⟨nI_pos (by omega), nI_lt hj hn, by rw [nI_clamp (by omega)]; exact hj⟩
theorem metJ1_charAt_3b067 : tc_Met yJ1_charAt_3b067 (Cond.code yJ1_charAt_3b067 cJ1_charAt_3b067 2 (some .char)) ({ frames := 2, cells := 0, slots := 0, locals := 43 } : Room) 5 2 RJ1_charAt_3b067 := tc_met (rk := 5) (by decide) ⟨rfl, rfl⟩ (fun Z q X hr vs S h => by
  simp only [RJ1_charAt_3b067] at h
  split at h
  · rename_i i x
    obtain ⟨hi, hx, hq⟩ := h
    obtain ⟨g1, g2, g3⟩ := tc_in_lt hx (tc_len_lt i hi)
    have e1 : tc_ch i x.toNatClampNeg &&& 255 = tc_ch i x.toNatClampNeg := tc_ch_and i hi _ g3
    refine okJ1_charAt_3b067_0 X hr _ _ _ (show _ ∧ _ from ⟨hi, (show (_ ∧ _) ∧ _ from ⟨⟨g1, g2⟩, (show _ ∧ _ ∧ _ from ⟨hi, hx, ?_⟩)⟩)⟩)
    show narrow .char (.int (((tc_ch i x.toNatClampNeg &&& 255).toUInt32 % 65536).toInt32)) = .int (((tc_ch i x.toNatClampNeg &&& 255).toUInt32 % 65536).toInt32) ∧ q (some (.inl (((tc_ch i x.toNatClampNeg &&& 255).toUInt32 % 65536).toInt32))) S
    rw [sc_c2]
    refine ⟨sc_nar _, ?_⟩
    rw [e1]
    exact hq
  · exact h.elim)
def bkJ0_charAt_5068e_0 (q : tc_Q) : tc_B := tb_aload 0 <| tb_callE 0 1 3 10 RJ0_isLatin1_aae02 <| tb_if_eq (fun _ _ _ => False) <| tb_aload 0 <| tb_sval <| tb_iload 1 <| tb_callS 2 2 RJ1_charAt_3b067 <| tb_cret q
theorem okJ0_charAt_5068e_0 {Z : tc_Z} {q : tc_Q} (X : tc_Cx ({ frames := 3, cells := 0, slots := 0, locals := 66 } : Room) cJ0_charAt_5068e 2 RJ0 Z) (hr : tc_Rt 5 cJ0_charAt_5068e 2 Z q) : tc_Ok 2 Z 0 (bkJ0_charAt_5068e_0 q) := by
  unfold bkJ0_charAt_5068e_0
  refine to_aload_n (pc := 0) X dJ0_charAt_5068e_0 rfl ?_
  refine to_callE (pc := 1) X metJ0_isLatin1_aae02 (Or.inr (Or.inr ⟨rfl, rfl, rfl⟩)) ⟨rfl, rfl⟩ (by decide) wm_RJ0_492 wi_J0_isLatin1_aae02 wl_J0_isLatin1_aae02 wn_RJ0 wc_J0_isLatin1_aae02 ⟨by decide +kernel, by decide +kernel, by decide +kernel, by decide +kernel⟩ dJ0_charAt_5068e_1 ?_
  refine to_if_eq (pc := 4) (tgt := 16) X dJ0_charAt_5068e_4 (by decide) (fun _ _ _ h => h.elim) ?_
  refine to_aload_n (pc := 7) X dJ0_charAt_5068e_7 rfl ?_
  refine to_sval (pc := 8) X wf_RJ0_9 dJ0_charAt_5068e_8 ?_
  refine to_iload_n (pc := 11) X dJ0_charAt_5068e_11 rfl ?_
  refine to_callS (pc := 12) X metJ1_charAt_3b067 ⟨rfl, rfl⟩ (by decide) wm_RJ0_495 ws_J1_charAt_3b067 wn_RJ1 wc_J1_charAt_3b067 ⟨by decide +kernel, by decide +kernel, by decide +kernel⟩ dJ0_charAt_5068e_12 ?_
  exact to_cret (pc := 15) hr dJ0_charAt_5068e_15
def RJ0_charAt_5068e (vs : List tc_V) (S : tc_S) (q : tc_Q) : Prop := match vs with
  | [.inr (.inr (3, i)), .inl x] => i < 10 ∧ vp_in x (tc_len.getD i 0) ∧ q (some (.inl (tc_ch i x.toNatClampNeg))) S
  | _ => False
theorem metJ0_charAt_5068e : tc_Met yJ0_charAt_5068e (Cond.code yJ0_charAt_5068e cJ0_charAt_5068e 2 (some .char)) ({ frames := 3, cells := 0, slots := 0, locals := 66 } : Room) 5 2 RJ0_charAt_5068e := tc_met (rk := 5) (by decide) ⟨rfl, rfl⟩ (fun Z q X hr vs S h => by
  simp only [RJ0_charAt_5068e] at h
  split at h
  · rename_i i x
    obtain ⟨hi, hx, hq⟩ := h
    obtain ⟨g1, g2, g3⟩ := tc_in_lt hx (tc_len_lt i hi)
    have e1 : tc_ch i x.toNatClampNeg &&& 255 = tc_ch i x.toNatClampNeg := tc_ch_and i hi _ g3
    refine okJ0_charAt_5068e_0 X hr _ _ _ (show _ ∧ _ ∧ _ from ⟨hi, hi, (show (_ → _) ∧ (_ → _) from ⟨fun z => absurd z (by decide), fun _ => (show _ ∧ _ from ⟨hi, (show _ ∧ _ ∧ _ from ⟨hi, hx, ?_⟩)⟩)⟩)⟩)
    show narrow .char (.int (tc_ch i x.toNatClampNeg)) = .int (tc_ch i x.toNatClampNeg) ∧ q (some (.inl (tc_ch i x.toNatClampNeg))) S
    refine ⟨?_, hq⟩
    rw [← e1]
    exact sc_nar _
  · exact h.elim)
theorem cvJ0_length_8abf5 {R : Room} {cc : ByteArray} {nL pc ix : Nat} {own : String} {Z : tc_Z} {k : tc_B} (X : tc_Cx R cc nL own Z) (h1 : Cond.methodLink own ix yJ0_length_8abf5 ∈ tc_tb) (hR : 1 + 1 ≤ R.frames ∧ 8 + (1 + 11) + 20 ≤ R.locals) (hd : decode cc pc = .ok (.invokevirtual ix, 3)) (h : tc_Ok nL Z (pc + 3) k) : tc_Ok nL Z pc (tb_callE 0 1 3 10 RJ0_length_8abf5 k) := to_callE X metJ0_length_8abf5 (Or.inr (Or.inr ⟨rfl, rfl, rfl⟩)) ⟨rfl, rfl⟩ hR h1 wi_J0_length_8abf5 wl_J0_length_8abf5 wn_RJ0 wc_J0_length_8abf5 ⟨by decide +kernel, by decide +kernel, by decide +kernel, by decide +kernel⟩ hd h
theorem cvJ0_charAt_5068e {R : Room} {cc : ByteArray} {nL pc ix : Nat} {own : String} {Z : tc_Z} {k : tc_B} (X : tc_Cx R cc nL own Z) (h1 : Cond.methodLink own ix yJ0_charAt_5068e ∈ tc_tb) (hR : 3 + 1 ≤ R.frames ∧ 8 + (2 + 11) + 66 ≤ R.locals) (hd : decode cc pc = .ok (.invokevirtual ix, 3)) (h : tc_Ok nL Z (pc + 3) k) : tc_Ok nL Z pc (tb_callE 1 2 3 10 RJ0_charAt_5068e k) := to_callE X metJ0_charAt_5068e (Or.inr (Or.inr ⟨rfl, rfl, rfl⟩)) ⟨rfl, rfl⟩ hR h1 wi_J0_charAt_5068e wl_J0_charAt_5068e wn_RJ0 wc_J0_charAt_5068e ⟨by decide +kernel, by decide +kernel, by decide +kernel, by decide +kernel⟩ hd h
