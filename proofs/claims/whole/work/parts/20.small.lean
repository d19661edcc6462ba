def bkX4_sharedBy_44 (P : Nat → tc_B) (q : tc_Q) : tc_B := tb_lload 4 <| tb_jret q
theorem okX4_sharedBy_44 {Z : tc_Z} {q : tc_Q} (X : tc_Cx ({ frames := 0, cells := 0, slots := 0, locals := 0 } : Room) cX4_sharedBy 11 RX4 Z) (hr : tc_Rt 2 cX4_sharedBy 11 Z q) : tc_Ok 11 Z 44 (bkX4_sharedBy_44 (tc_At 11 Z) q) := by
  unfold bkX4_sharedBy_44
  refine to_lload (pc := 44) X dX4_sharedBy_44 ?_
  exact to_jret (pc := 46) hr dX4_sharedBy_46
def bkX4_sharedBy_9 (P : Nat → tc_B) (q : tc_Q) : tc_B := tb_iload 8 <| tb_i 100 <| tb_icmp_ge (tb_cut (P 44) [4]) <| tb_lload 6 <| tb_j 0 <| tb_lcmp <| tb_if_eq (tb_cut (P 44) [4]) <| tb_lload 4 <| tb_lload 6 <| tb_lrem <| tb_lstore 9 <| tb_lload 6 <| tb_lstore 4 <| tb_lload 9 <| tb_lstore 6 <| tb_iinc 8 1 <| tb_cut (P 9) [4, 6, 8]
theorem okX4_sharedBy_9 {Z : tc_Z} {q : tc_Q} (X : tc_Cx ({ frames := 0, cells := 0, slots := 0, locals := 0 } : Room) cX4_sharedBy 11 RX4 Z) (hr : tc_Rt 2 cX4_sharedBy 11 Z q) : tc_Ok 11 Z 9 (bkX4_sharedBy_9 (tc_At 11 Z) q) := by
  unfold bkX4_sharedBy_9
  refine to_iload (pc := 9) X dX4_sharedBy_9 ?_
  refine to_bipush (pc := 11) X dX4_sharedBy_11 (by decide) ?_
  refine to_icmp_ge (pc := 13) (tgt := 44) X dX4_sharedBy_13 (by decide) ?_ ?_
  · exact to_cut [4] (fun _ _ _ h => h)
  refine to_lload (pc := 16) X dX4_sharedBy_16 ?_
  refine to_lconst (pc := 18) X dX4_sharedBy_18 (by decide) ?_
  refine to_lcmp (pc := 19) X dX4_sharedBy_19 ?_
  refine to_if_eq (pc := 20) (tgt := 44) X dX4_sharedBy_20 (by decide) ?_ ?_
  · exact to_cut [4] (fun _ _ _ h => h)
  refine to_lload (pc := 23) X dX4_sharedBy_23 ?_
  refine to_lload (pc := 25) X dX4_sharedBy_25 ?_
  refine to_lrem (pc := 27) X dX4_sharedBy_27 ?_
  refine to_lstore (pc := 28) X dX4_sharedBy_28 (by decide) ?_
  refine to_lload (pc := 30) X dX4_sharedBy_30 ?_
  refine to_lstore (pc := 32) X dX4_sharedBy_32 (by decide) ?_
  refine to_lload (pc := 34) X dX4_sharedBy_34 ?_
  refine to_lstore (pc := 36) X dX4_sharedBy_36 (by decide) ?_
  refine to_iinc (pc := 38) X dX4_sharedBy_38 (by decide) (by decide) ?_
  refine to_goto (pc := 41) (tgt := 9) X dX4_sharedBy_41 (by decide) ?_
  exact to_cut [4, 6, 8] (fun _ _ _ h => h)
def bkX4_sharedBy_0 (P : Nat → tc_B) (q : tc_Q) : tc_B := tb_lload 0 <| tb_lstore 4 <| tb_lload 2 <| tb_lstore 6 <| tb_i 0 <| tb_istore 8 <| tb_cut (P 9) [4, 6, 8]
theorem okX4_sharedBy_0 {Z : tc_Z} {q : tc_Q} (X : tc_Cx ({ frames := 0, cells := 0, slots := 0, locals := 0 } : Room) cX4_sharedBy 11 RX4 Z) (hr : tc_Rt 2 cX4_sharedBy 11 Z q) : tc_Ok 11 Z 0 (bkX4_sharedBy_0 (tc_At 11 Z) q) := by
  unfold bkX4_sharedBy_0
  refine to_lload_n (pc := 0) X dX4_sharedBy_0 rfl ?_
  refine to_lstore (pc := 1) X dX4_sharedBy_1 (by decide) ?_
  refine to_lload_n (pc := 3) X dX4_sharedBy_3 rfl ?_
  refine to_lstore (pc := 4) X dX4_sharedBy_4 (by decide) ?_
  refine to_iconst (pc := 6) X dX4_sharedBy_6 (by decide) ?_
  refine to_istore (pc := 7) X dX4_sharedBy_7 (by decide) ?_
  exact to_cut [4, 6, 8] (fun _ _ _ h => h)
def RX4_sharedBy (vs : List tc_V) (S : tc_S) (q : tc_Q) : Prop := ∀ P : Nat → tc_B, (∀ L K S, bkX4_sharedBy_9 P q L K S → P 9 L K S) → (∀ L K S, bkX4_sharedBy_44 P q L K S → P 44 L K S) → bkX4_sharedBy_0 P q (tc_num 0 vs) [] S
theorem metX4_sharedBy : tc_Met yX4_sharedBy (Cond.code yX4_sharedBy cX4_sharedBy 11 (some .long)) ({ frames := 0, cells := 0, slots := 0, locals := 0 } : Room) 2 11 RX4_sharedBy := tc_met (rk := 2) (by decide) ⟨rfl, rfl⟩ (fun Z q X hr vs S h => okX4_sharedBy_0 X hr _ _ _ (h (tc_At 11 Z) (okX4_sharedBy_9 X hr) (okX4_sharedBy_44 X hr)))
theorem cvX4_sharedBy {R : Room} {cc : ByteArray} {nL pc ix : Nat} {own : String} {Z : tc_Z} {k : tc_B} (X : tc_Cx R cc nL own Z) (h1 : Cond.methodLink own ix yX4_sharedBy ∈ tc_tb) (hR : 0 + 1 ≤ R.frames ∧ 8 + (11 + 11) + 0 ≤ R.locals) (hd : decode cc pc = .ok (.invokestatic ix, 3)) (h : tc_Ok nL Z (pc + 3) k) : tc_Ok nL Z pc (tb_callS 2 11 RX4_sharedBy k) := to_callS X metX4_sharedBy ⟨rfl, rfl⟩ hR h1 ws_X4_sharedBy wn_RX4 wc_X4_sharedBy ⟨by decide +kernel, by decide +kernel, by decide +kernel⟩ hd h
def bkX4_become_8 (P : Nat → tc_B) (q : tc_Q) : tc_B := tb_lstore 5 <| tb_lload 3 <| tb_j 0 <| tb_lcmp <| tb_if_le (tb_vret q) <| tb_lload 5 <| tb_j 0 <| tb_lcmp <| tb_if_le (tb_vret q) <| tb_aload 0 <| tb_lload 1 <| tb_lload 5 <| tb_ldiv <| tb_putJ 3 0 <| tb_aload 0 <| tb_lload 3 <| tb_lload 5 <| tb_ldiv <| tb_putJ 3 1 <| tb_vret q
theorem okX4_become_8 {Z : tc_Z} {q : tc_Q} (X : tc_Cx ({ frames := 1, cells := 0, slots := 0, locals := 30 } : Room) cX4_become 7 RX4 Z) (hr : tc_Rt 3 cX4_become 7 Z q) : tc_Ok 7 Z 8 (bkX4_become_8 (tc_At 7 Z) q) := by
  unfold bkX4_become_8
  refine to_lstore (pc := 8) X dX4_become_8 (by decide) ?_
  refine to_lload_n (pc := 10) X dX4_become_10 rfl ?_
  refine to_lconst (pc := 11) X dX4_become_11 (by decide) ?_
  refine to_lcmp (pc := 12) X dX4_become_12 ?_
  refine to_if_le (pc := 13) (tgt := 39) X dX4_become_13 (by decide) ?_ ?_
  · exact to_vret (pc := 39) hr dX4_become_39
  refine to_lload (pc := 16) X dX4_become_16 ?_
  refine to_lconst (pc := 18) X dX4_become_18 (by decide) ?_
  refine to_lcmp (pc := 19) X dX4_become_19 ?_
  refine to_if_le (pc := 20) (tgt := 39) X dX4_become_20 (by decide) ?_ ?_
  · exact to_vret (pc := 39) hr dX4_become_39
  refine to_aload_n (pc := 23) X dX4_become_23 rfl ?_
  refine to_lload_n (pc := 24) X dX4_become_24 rfl ?_
  refine to_lload (pc := 25) X dX4_become_25 ?_
  refine to_ldiv (pc := 27) X dX4_become_27 ?_
  refine pfX4_0 (pc := 28) X wf_RX4_7 dX4_become_28 ?_
  refine to_aload_n (pc := 31) X dX4_become_31 rfl ?_
  refine to_lload_n (pc := 32) X dX4_become_32 rfl ?_
  refine to_lload (pc := 33) X dX4_become_33 ?_
  refine to_ldiv (pc := 35) X dX4_become_35 ?_
  refine pfX4_1 (pc := 36) X wf_RX4_13 dX4_become_36 ?_
  exact to_vret (pc := 39) hr dX4_become_39
def bkX4_become_0 (P : Nat → tc_B) (q : tc_Q) : tc_B := tb_lload 1 <| tb_mabs <| tb_lload 3 <| tb_callS 2 11 RX4_sharedBy <| bkX4_become_8 P q
theorem okX4_become_0 {Z : tc_Z} {q : tc_Q} (X : tc_Cx ({ frames := 1, cells := 0, slots := 0, locals := 30 } : Room) cX4_become 7 RX4 Z) (hr : tc_Rt 3 cX4_become 7 Z q) : tc_Ok 7 Z 0 (bkX4_become_0 (tc_At 7 Z) q) := by
  unfold bkX4_become_0
  refine to_lload_n (pc := 0) X dX4_become_0 rfl ?_
  refine to_mabs (pc := 1) X (by decide) wm_RX4_16 wx_mabs_1 wx_mabs_2 wx_mabs_3 dX4_become_1 ?_
  refine to_lload_n (pc := 4) X dX4_become_4 rfl ?_
  refine cvX4_sharedBy (pc := 5) X wm_RX4_22 (by decide) dX4_become_5 ?_
  exact okX4_become_8 X hr
def RX4_become (vs : List tc_V) (S : tc_S) (q : tc_Q) : Prop := ∀ P : Nat → tc_B, bkX4_become_0 P q (tc_num 0 vs) [] S
theorem metX4_become : tc_Met yX4_become (Cond.code yX4_become cX4_become 7 none) ({ frames := 1, cells := 0, slots := 0, locals := 30 } : Room) 3 7 RX4_become := tc_met (rk := 3) (by decide) ⟨rfl, rfl⟩ (fun Z q X hr vs S h => okX4_become_0 X hr _ _ _ (h (tc_At 7 Z)))
theorem cvX4_become {R : Room} {cc : ByteArray} {nL pc ix : Nat} {own : String} {Z : tc_Z} {k : tc_B} (X : tc_Cx R cc nL own Z) (h1 : Cond.methodLink own ix yX4_become ∈ tc_tb) (hR : 1 + 1 ≤ R.frames ∧ 8 + (7 + 11) + 30 ≤ R.locals) (hd : decode cc pc = .ok (.invokevirtual ix, 3)) (h : tc_Ok nL Z (pc + 3) k) : tc_Ok nL Z pc (tb_callV 2 7 3 RX4_become k) := to_callV X metX4_become rfl ⟨rfl, rfl⟩ hR h1 wi_X4_become wl_X4_become wn_RX4 wc_X4_become ⟨by decide +kernel, by decide +kernel, by decide +kernel, by decide +kernel⟩ hd h
def bkX4_add_51 (P : Nat → tc_B) (q : tc_Q) : tc_B := tb_vret q
theorem okX4_add_51 {Z : tc_Z} {q : tc_Q} (X : tc_Cx ({ frames := 2, cells := 0, slots := 0, locals := 56 } : Room) cX4_add 9 RX4 Z) (hr : tc_Rt 3 cX4_add 9 Z q) : tc_Ok 9 Z 51 (bkX4_add_51 (tc_At 9 Z) q) := by
  unfold bkX4_add_51
  exact to_vret (pc := 51) hr dX4_add_51
def bkX4_add_8 (P : Nat → tc_B) (q : tc_Q) : tc_B := tb_lstore 5 <| tb_lload 5 <| tb_j 0 <| tb_lcmp <| tb_if_le (bkX4_add_51 P q) <| tb_lload 3 <| tb_lload 5 <| tb_ldiv <| tb_lstore 7 <| tb_aload 0 <| tb_aload 0 <| tb_getf 3 0 <| tb_lload 7 <| tb_lmul <| tb_lload 1 <| tb_aload 0 <| tb_getf 3 1 <| tb_lload 5 <| tb_ldiv <| tb_lmul <| tb_ladd <| tb_aload 0 <| tb_getf 3 1 <| tb_lload 7 <| tb_lmul <| tb_callV 2 7 3 RX4_become <| bkX4_add_51 P q
theorem okX4_add_8 {Z : tc_Z} {q : tc_Q} (X : tc_Cx ({ frames := 2, cells := 0, slots := 0, locals := 56 } : Room) cX4_add 9 RX4 Z) (hr : tc_Rt 3 cX4_add 9 Z q) : tc_Ok 9 Z 8 (bkX4_add_8 (tc_At 9 Z) q) := by
  unfold bkX4_add_8
  refine to_lstore (pc := 8) X dX4_add_8 (by decide) ?_
  refine to_lload (pc := 10) X dX4_add_10 ?_
  refine to_lconst (pc := 12) X dX4_add_12 (by decide) ?_
  refine to_lcmp (pc := 13) X dX4_add_13 ?_
  refine to_if_le (pc := 14) (tgt := 51) X dX4_add_14 (by decide) ?_ ?_
  · exact okX4_add_51 X hr
  refine to_lload_n (pc := 17) X dX4_add_17 rfl ?_
  refine to_lload (pc := 18) X dX4_add_18 ?_
  refine to_ldiv (pc := 20) X dX4_add_20 ?_
  refine to_lstore (pc := 21) X dX4_add_21 (by decide) ?_
  refine to_aload_n (pc := 23) X dX4_add_23 rfl ?_
  refine to_aload_n (pc := 24) X dX4_add_24 rfl ?_
  refine gfX4_0 (pc := 25) X wf_RX4_7 dX4_add_25 ?_
  refine to_lload (pc := 28) X dX4_add_28 ?_
  refine to_lmul (pc := 30) X dX4_add_30 ?_
  refine to_lload_n (pc := 31) X dX4_add_31 rfl ?_
  refine to_aload_n (pc := 32) X dX4_add_32 rfl ?_
  refine gfX4_1 (pc := 33) X wf_RX4_13 dX4_add_33 ?_
  refine to_lload (pc := 36) X dX4_add_36 ?_
  refine to_ldiv (pc := 38) X dX4_add_38 ?_
  refine to_lmul (pc := 39) X dX4_add_39 ?_
  refine to_ladd (pc := 40) X dX4_add_40 ?_
  refine to_aload_n (pc := 41) X dX4_add_41 rfl ?_
  refine gfX4_1 (pc := 42) X wf_RX4_13 dX4_add_42 ?_
  refine to_lload (pc := 45) X dX4_add_45 ?_
  refine to_lmul (pc := 47) X dX4_add_47 ?_
  refine cvX4_become (pc := 48) X wm_RX4_26 (by decide) dX4_add_48 ?_
  exact okX4_add_51 X hr
def bkX4_add_0 (P : Nat → tc_B) (q : tc_Q) : tc_B := tb_aload 0 <| tb_getf 3 1 <| tb_lload 3 <| tb_callS 2 11 RX4_sharedBy <| bkX4_add_8 P q
theorem okX4_add_0 {Z : tc_Z} {q : tc_Q} (X : tc_Cx ({ frames := 2, cells := 0, slots := 0, locals := 56 } : Room) cX4_add 9 RX4 Z) (hr : tc_Rt 3 cX4_add 9 Z q) : tc_Ok 9 Z 0 (bkX4_add_0 (tc_At 9 Z) q) := by
  unfold bkX4_add_0
  refine to_aload_n (pc := 0) X dX4_add_0 rfl ?_
  refine gfX4_1 (pc := 1) X wf_RX4_13 dX4_add_1 ?_
  refine to_lload_n (pc := 4) X dX4_add_4 rfl ?_
  refine cvX4_sharedBy (pc := 5) X wm_RX4_22 (by decide) dX4_add_5 ?_
  exact okX4_add_8 X hr
def RX4_add (vs : List tc_V) (S : tc_S) (q : tc_Q) : Prop := ∀ P : Nat → tc_B, bkX4_add_0 P q (tc_num 0 vs) [] S
theorem metX4_add : tc_Met yX4_add (Cond.code yX4_add cX4_add 9 none) ({ frames := 2, cells := 0, slots := 0, locals := 56 } : Room) 3 9 RX4_add := tc_met (rk := 3) (by decide) ⟨rfl, rfl⟩ (fun Z q X hr vs S h => okX4_add_0 X hr _ _ _ (h (tc_At 9 Z)))
theorem cvX4_add {R : Room} {cc : ByteArray} {nL pc ix : Nat} {own : String} {Z : tc_Z} {k : tc_B} (X : tc_Cx R cc nL own Z) (h1 : Cond.methodLink own ix yX4_add ∈ tc_tb) (hR : 2 + 1 ≤ R.frames ∧ 8 + (9 + 11) + 56 ≤ R.locals) (hd : decode cc pc = .ok (.invokevirtual ix, 3)) (h : tc_Ok nL Z (pc + 3) k) : tc_Ok nL Z pc (tb_callV 2 9 3 RX4_add k) := to_callV X metX4_add rfl ⟨rfl, rfl⟩ hR h1 wi_X4_add wl_X4_add wn_RX4 wc_X4_add ⟨by decide +kernel, by decide +kernel, by decide +kernel, by decide +kernel⟩ hd h
def bkX4_divideBy_14 (P : Nat → tc_B) (q : tc_Q) : tc_B := tb_vret q
theorem okX4_divideBy_14 {Z : tc_Z} {q : tc_Q} (X : tc_Cx ({ frames := 2, cells := 0, slots := 0, locals := 56 } : Room) cX4_divideBy 3 RX4 Z) (hr : tc_Rt 3 cX4_divideBy 3 Z q) : tc_Ok 3 Z 14 (bkX4_divideBy_14 (tc_At 3 Z) q) := by
  unfold bkX4_divideBy_14
  exact to_vret (pc := 14) hr dX4_divideBy_14
def bkX4_divideBy_0 (P : Nat → tc_B) (q : tc_Q) : tc_B := tb_aload 0 <| tb_aload 0 <| tb_getf 3 0 <| tb_aload 0 <| tb_getf 3 1 <| tb_lload 1 <| tb_lmul <| tb_callV 2 7 3 RX4_become <| bkX4_divideBy_14 P q
theorem okX4_divideBy_0 {Z : tc_Z} {q : tc_Q} (X : tc_Cx ({ frames := 2, cells := 0, slots := 0, locals := 56 } : Room) cX4_divideBy 3 RX4 Z) (hr : tc_Rt 3 cX4_divideBy 3 Z q) : tc_Ok 3 Z 0 (bkX4_divideBy_0 (tc_At 3 Z) q) := by
  unfold bkX4_divideBy_0
  refine to_aload_n (pc := 0) X dX4_divideBy_0 rfl ?_
  refine to_aload_n (pc := 1) X dX4_divideBy_1 rfl ?_
  refine gfX4_0 (pc := 2) X wf_RX4_7 dX4_divideBy_2 ?_
  refine to_aload_n (pc := 5) X dX4_divideBy_5 rfl ?_
  refine gfX4_1 (pc := 6) X wf_RX4_13 dX4_divideBy_6 ?_
  refine to_lload_n (pc := 9) X dX4_divideBy_9 rfl ?_
  refine to_lmul (pc := 10) X dX4_divideBy_10 ?_
  refine cvX4_become (pc := 11) X wm_RX4_26 (by decide) dX4_divideBy_11 ?_
  exact okX4_divideBy_14 X hr
def RX4_divideBy (vs : List tc_V) (S : tc_S) (q : tc_Q) : Prop := ∀ P : Nat → tc_B, bkX4_divideBy_0 P q (tc_num 0 vs) [] S
theorem metX4_divideBy : tc_Met yX4_divideBy (Cond.code yX4_divideBy cX4_divideBy 3 none) ({ frames := 2, cells := 0, slots := 0, locals := 56 } : Room) 3 3 RX4_divideBy := tc_met (rk := 3) (by decide) ⟨rfl, rfl⟩ (fun Z q X hr vs S h => okX4_divideBy_0 X hr _ _ _ (h (tc_At 3 Z)))
theorem cvX4_divideBy {R : Room} {cc : ByteArray} {nL pc ix : Nat} {own : String} {Z : tc_Z} {k : tc_B} (X : tc_Cx R cc nL own Z) (h1 : Cond.methodLink own ix yX4_divideBy ∈ tc_tb) (hR : 2 + 1 ≤ R.frames ∧ 8 + (3 + 11) + 56 ≤ R.locals) (hd : decode cc pc = .ok (.invokevirtual ix, 3)) (h : tc_Ok nL Z (pc + 3) k) : tc_Ok nL Z pc (tb_callV 1 3 3 RX4_divideBy k) := to_callV X metX4_divideBy rfl ⟨rfl, rfl⟩ hR h1 wi_X4_divideBy wl_X4_divideBy wn_RX4 wc_X4_divideBy ⟨by decide +kernel, by decide +kernel, by decide +kernel, by decide +kernel⟩ hd h
def bkX1_swapChance_0 (P : Nat → tc_B) (q : tc_Q) : tc_B := tb_aload 0 <| tb_getf 1 0 <| tb_iload 1 <| tb_i 40 <| tb_imul <| tb_iload 2 <| tb_iadd <| tb_iald <| tb_istore 4 <| tb_aload 0 <| tb_getf 1 0 <| tb_iload 1 <| tb_i 40 <| tb_imul <| tb_iload 2 <| tb_iadd <| tb_iload 3 <| tb_iast <| tb_iload 4 <| tb_iret q
theorem okX1_swapChance_0 {Z : tc_Z} {q : tc_Q} (X : tc_Cx ({ frames := 0, cells := 0, slots := 0, locals := 0 } : Room) cX1_swapChance 5 RX1 Z) (hr : tc_Rt 0 cX1_swapChance 5 Z q) : tc_Ok 5 Z 0 (bkX1_swapChance_0 (tc_At 5 Z) q) := by
  unfold bkX1_swapChance_0
  refine to_aload_n (pc := 0) X dX1_swapChance_0 rfl ?_
  refine gfX1_0 (pc := 1) X wf_RX1_9 dX1_swapChance_1 ?_
  refine to_iload_n (pc := 4) X dX1_swapChance_4 rfl ?_
  refine to_bipush (pc := 5) X dX1_swapChance_5 (by decide) ?_
  refine to_imul (pc := 7) X dX1_swapChance_7 ?_
  refine to_iload_n (pc := 8) X dX1_swapChance_8 rfl ?_
  refine to_iadd (pc := 9) X dX1_swapChance_9 ?_
  refine to_iald (pc := 10) X dX1_swapChance_10 ?_
  refine to_istore (pc := 11) X dX1_swapChance_11 (by decide) ?_
  refine to_aload_n (pc := 13) X dX1_swapChance_13 rfl ?_
  refine gfX1_0 (pc := 14) X wf_RX1_9 dX1_swapChance_14 ?_
  refine to_iload_n (pc := 17) X dX1_swapChance_17 rfl ?_
  refine to_bipush (pc := 18) X dX1_swapChance_18 (by decide) ?_
  refine to_imul (pc := 20) X dX1_swapChance_20 ?_
  refine to_iload_n (pc := 21) X dX1_swapChance_21 rfl ?_
  refine to_iadd (pc := 22) X dX1_swapChance_22 ?_
  refine to_iload_n (pc := 23) X dX1_swapChance_23 rfl ?_
  refine to_iast (pc := 24) X dX1_swapChance_24 ?_
  refine to_iload (pc := 25) X dX1_swapChance_25 ?_
  exact to_iret (pc := 27) hr dX1_swapChance_27
def RX1_swapChance (vs : List tc_V) (S : tc_S) (q : tc_Q) : Prop := ∀ P : Nat → tc_B, bkX1_swapChance_0 P q (tc_num 0 vs) [] S
theorem metX1_swapChance : tc_Met yX1_swapChance (Cond.code yX1_swapChance cX1_swapChance 5 (some .int)) ({ frames := 0, cells := 0, slots := 0, locals := 0 } : Room) 0 5 RX1_swapChance := tc_met (rk := 0) (by decide) ⟨rfl, rfl⟩ (fun Z q X hr vs S h => okX1_swapChance_0 X hr _ _ _ (h (tc_At 5 Z)))
theorem cvX1_swapChance {R : Room} {cc : ByteArray} {nL pc ix : Nat} {own : String} {Z : tc_Z} {k : tc_B} (X : tc_Cx R cc nL own Z) (h1 : Cond.methodLink own ix yX1_swapChance ∈ tc_tb) (hR : 0 + 1 ≤ R.frames ∧ 8 + (5 + 11) + 0 ≤ R.locals) (hd : decode cc pc = .ok (.invokevirtual ix, 3)) (h : tc_Ok nL Z (pc + 3) k) : tc_Ok nL Z pc (tb_callV 3 5 1 RX1_swapChance k) := to_callV X metX1_swapChance rfl ⟨rfl, rfl⟩ hR h1 wi_X1_swapChance wl_X1_swapChance wn_RX1 wc_X1_swapChance ⟨by decide +kernel, by decide +kernel, by decide +kernel, by decide +kernel⟩ hd h
def bkX1_swapState_0 (P : Nat → tc_B) (q : tc_Q) : tc_B := tb_aload 0 <| tb_getf 1 2 <| tb_iload 1 <| tb_iald <| tb_istore 3 <| tb_aload 0 <| tb_getf 1 2 <| tb_iload 1 <| tb_iload 2 <| tb_iast <| tb_iload 3 <| tb_iret q
theorem okX1_swapState_0 {Z : tc_Z} {q : tc_Q} (X : tc_Cx ({ frames := 0, cells := 0, slots := 0, locals := 0 } : Room) cX1_swapState 4 RX1 Z) (hr : tc_Rt 0 cX1_swapState 4 Z q) : tc_Ok 4 Z 0 (bkX1_swapState_0 (tc_At 4 Z) q) := by
  unfold bkX1_swapState_0
  refine to_aload_n (pc := 0) X dX1_swapState_0 rfl ?_
  refine gfX1_2 (pc := 1) X wf_RX1_18 dX1_swapState_1 ?_
  refine to_iload_n (pc := 4) X dX1_swapState_4 rfl ?_
  refine to_iald (pc := 5) X dX1_swapState_5 ?_
  refine to_istore_n (pc := 6) X dX1_swapState_6 rfl (by decide) ?_
  refine to_aload_n (pc := 7) X dX1_swapState_7 rfl ?_
  refine gfX1_2 (pc := 8) X wf_RX1_18 dX1_swapState_8 ?_
  refine to_iload_n (pc := 11) X dX1_swapState_11 rfl ?_
  refine to_iload_n (pc := 12) X dX1_swapState_12 rfl ?_
  refine to_iast (pc := 13) X dX1_swapState_13 ?_
  refine to_iload_n (pc := 14) X dX1_swapState_14 rfl ?_
  exact to_iret (pc := 15) hr dX1_swapState_15
def RX1_swapState (vs : List tc_V) (S : tc_S) (q : tc_Q) : Prop := ∀ P : Nat → tc_B, bkX1_swapState_0 P q (tc_num 0 vs) [] S
theorem metX1_swapState : tc_Met yX1_swapState (Cond.code yX1_swapState cX1_swapState 4 (some .int)) ({ frames := 0, cells := 0, slots := 0, locals := 0 } : Room) 0 4 RX1_swapState := tc_met (rk := 0) (by decide) ⟨rfl, rfl⟩ (fun Z q X hr vs S h => okX1_swapState_0 X hr _ _ _ (h (tc_At 4 Z)))
theorem cvX1_swapState {R : Room} {cc : ByteArray} {nL pc ix : Nat} {own : String} {Z : tc_Z} {k : tc_B} (X : tc_Cx R cc nL own Z) (h1 : Cond.methodLink own ix yX1_swapState ∈ tc_tb) (hR : 0 + 1 ≤ R.frames ∧ 8 + (4 + 11) + 0 ≤ R.locals) (hd : decode cc pc = .ok (.invokevirtual ix, 3)) (h : tc_Ok nL Z (pc + 3) k) : tc_Ok nL Z pc (tb_callV 2 4 1 RX1_swapState k) := to_callV X metX1_swapState rfl ⟨rfl, rfl⟩ hR h1 wi_X1_swapState wl_X1_swapState wn_RX1 wc_X1_swapState ⟨by decide +kernel, by decide +kernel, by decide +kernel, by decide +kernel⟩ hd h
def bkX1_swapWeight_0 (P : Nat → tc_B) (q : tc_Q) : tc_B := tb_aload 0 <| tb_getf 1 1 <| tb_iload 1 <| tb_iald <| tb_istore 3 <| tb_aload 0 <| tb_getf 1 1 <| tb_iload 1 <| tb_iload 2 <| tb_iast <| tb_iload 3 <| tb_iret q
theorem okX1_swapWeight_0 {Z : tc_Z} {q : tc_Q} (X : tc_Cx ({ frames := 0, cells := 0, slots := 0, locals := 0 } : Room) cX1_swapWeight 4 RX1 Z) (hr : tc_Rt 0 cX1_swapWeight 4 Z q) : tc_Ok 4 Z 0 (bkX1_swapWeight_0 (tc_At 4 Z) q) := by
  unfold bkX1_swapWeight_0
  refine to_aload_n (pc := 0) X dX1_swapWeight_0 rfl ?_
  refine gfX1_1 (pc := 1) X wf_RX1_15 dX1_swapWeight_1 ?_
  refine to_iload_n (pc := 4) X dX1_swapWeight_4 rfl ?_
  refine to_iald (pc := 5) X dX1_swapWeight_5 ?_
  refine to_istore_n (pc := 6) X dX1_swapWeight_6 rfl (by decide) ?_
  refine to_aload_n (pc := 7) X dX1_swapWeight_7 rfl ?_
  refine gfX1_1 (pc := 8) X wf_RX1_15 dX1_swapWeight_8 ?_
  refine to_iload_n (pc := 11) X dX1_swapWeight_11 rfl ?_
  refine to_iload_n (pc := 12) X dX1_swapWeight_12 rfl ?_
  refine to_iast (pc := 13) X dX1_swapWeight_13 ?_
  refine to_iload_n (pc := 14) X dX1_swapWeight_14 rfl ?_
  exact to_iret (pc := 15) hr dX1_swapWeight_15
def RX1_swapWeight (vs : List tc_V) (S : tc_S) (q : tc_Q) : Prop := ∀ P : Nat → tc_B, bkX1_swapWeight_0 P q (tc_num 0 vs) [] S
theorem metX1_swapWeight : tc_Met yX1_swapWeight (Cond.code yX1_swapWeight cX1_swapWeight 4 (some .int)) ({ frames := 0, cells := 0, slots := 0, locals := 0 } : Room) 0 4 RX1_swapWeight := tc_met (rk := 0) (by decide) ⟨rfl, rfl⟩ (fun Z q X hr vs S h => okX1_swapWeight_0 X hr _ _ _ (h (tc_At 4 Z)))
theorem cvX1_swapWeight {R : Room} {cc : ByteArray} {nL pc ix : Nat} {own : String} {Z : tc_Z} {k : tc_B} (X : tc_Cx R cc nL own Z) (h1 : Cond.methodLink own ix yX1_swapWeight ∈ tc_tb) (hR : 0 + 1 ≤ R.frames ∧ 8 + (4 + 11) + 0 ≤ R.locals) (hd : decode cc pc = .ok (.invokevirtual ix, 3)) (h : tc_Ok nL Z (pc + 3) k) : tc_Ok nL Z pc (tb_callV 2 4 1 RX1_swapWeight k) := to_callV X metX1_swapWeight rfl ⟨rfl, rfl⟩ hR h1 wi_X1_swapWeight wl_X1_swapWeight wn_RX1 wc_X1_swapWeight ⟨by decide +kernel, by decide +kernel, by decide +kernel, by decide +kernel⟩ hd h
def bkX1_mixedChance_57 (P : Nat → tc_B) (q : tc_Q) : tc_B := tb_iinc 4 1 <| tb_cut (P 7) [0, 1, 2, 3, 4]
theorem okX1_mixedChance_57 {Z : tc_Z} {q : tc_Q} (X : tc_Cx ({ frames := 0, cells := 0, slots := 0, locals := 0 } : Room) cX1_mixedChance 6 RX1 Z) (hr : tc_Rt 0 cX1_mixedChance 6 Z q) : tc_Ok 6 Z 57 (bkX1_mixedChance_57 (tc_At 6 Z) q) := by
  unfold bkX1_mixedChance_57
  refine to_iinc (pc := 57) X dX1_mixedChance_57 (by decide) (by decide) ?_
  refine to_goto (pc := 60) (tgt := 7) X dX1_mixedChance_60 (by decide) ?_
  exact to_cut [0, 1, 2, 3, 4] (fun _ _ _ h => h)
def bkX1_mixedChance_7 (P : Nat → tc_B) (q : tc_Q) : tc_B := tb_iload 4 <| tb_i 4 <| tb_icmp_ge (tb_iload 3 <| tb_if_ne (tb_i 2 <| tb_iload 2 <| tb_imul <| tb_iload 3 <| tb_iadd <| tb_i 2 <| tb_iload 3 <| tb_imul <| tb_idiv <| tb_iret q) <| tb_i (-9) <| tb_iret q) <| tb_aload 0 <| tb_getf 1 0 <| tb_iload 4 <| tb_i 40 <| tb_imul <| tb_iload 1 <| tb_iadd <| tb_iald <| tb_istore 5 <| tb_iload 5 <| tb_i (-9) <| tb_icmp_eq (tb_cut (P 57) [0, 1, 2, 3, 4]) <| tb_iload 2 <| tb_aload 0 <| tb_getf 1 1 <| tb_iload 4 <| tb_iald <| tb_iload 5 <| tb_imul <| tb_iadd <| tb_istore 2 <| tb_iload 3 <| tb_aload 0 <| tb_getf 1 1 <| tb_iload 4 <| tb_iald <| tb_iadd <| tb_istore 3 <| tb_cut (P 57) [0, 1, 2, 3, 4]
theorem okX1_mixedChance_7 {Z : tc_Z} {q : tc_Q} (X : tc_Cx ({ frames := 0, cells := 0, slots := 0, locals := 0 } : Room) cX1_mixedChance 6 RX1 Z) (hr : tc_Rt 0 cX1_mixedChance 6 Z q) : tc_Ok 6 Z 7 (bkX1_mixedChance_7 (tc_At 6 Z) q) := by
  unfold bkX1_mixedChance_7
  refine to_iload (pc := 7) X dX1_mixedChance_7 ?_
  refine to_iconst (pc := 9) X dX1_mixedChance_9 (by decide) ?_
  refine to_icmp_ge (pc := 10) (tgt := 63) X dX1_mixedChance_10 (by decide) ?_ ?_
  · refine to_iload_n (pc := 63) X dX1_mixedChance_63 rfl ?_
    refine to_if_ne (pc := 64) (tgt := 70) X dX1_mixedChance_64 (by decide) ?_ ?_
    · refine to_iconst (pc := 70) X dX1_mixedChance_70 (by decide) ?_
      refine to_iload_n (pc := 71) X dX1_mixedChance_71 rfl ?_
      refine to_imul (pc := 72) X dX1_mixedChance_72 ?_
      refine to_iload_n (pc := 73) X dX1_mixedChance_73 rfl ?_
      refine to_iadd (pc := 74) X dX1_mixedChance_74 ?_
      refine to_iconst (pc := 75) X dX1_mixedChance_75 (by decide) ?_
      refine to_iload_n (pc := 76) X dX1_mixedChance_76 rfl ?_
      refine to_imul (pc := 77) X dX1_mixedChance_77 ?_
      refine to_idiv (pc := 78) X dX1_mixedChance_78 ?_
      exact to_iret (pc := 79) hr dX1_mixedChance_79
    refine to_bipush (pc := 67) X dX1_mixedChance_67 (by decide) ?_
    exact to_iret (pc := 69) hr dX1_mixedChance_69
  refine to_aload_n (pc := 13) X dX1_mixedChance_13 rfl ?_
  refine gfX1_0 (pc := 14) X wf_RX1_9 dX1_mixedChance_14 ?_
  refine to_iload (pc := 17) X dX1_mixedChance_17 ?_
  refine to_bipush (pc := 19) X dX1_mixedChance_19 (by decide) ?_
  refine to_imul (pc := 21) X dX1_mixedChance_21 ?_
  refine to_iload_n (pc := 22) X dX1_mixedChance_22 rfl ?_
  refine to_iadd (pc := 23) X dX1_mixedChance_23 ?_
  refine to_iald (pc := 24) X dX1_mixedChance_24 ?_
  refine to_istore (pc := 25) X dX1_mixedChance_25 (by decide) ?_
  refine to_iload (pc := 27) X dX1_mixedChance_27 ?_
  refine to_bipush (pc := 29) X dX1_mixedChance_29 (by decide) ?_
  refine to_icmp_eq (pc := 31) (tgt := 57) X dX1_mixedChance_31 (by decide) ?_ ?_
  · exact to_cut [0, 1, 2, 3, 4] (fun _ _ _ h => h)
  refine to_iload_n (pc := 34) X dX1_mixedChance_34 rfl ?_
  refine to_aload_n (pc := 35) X dX1_mixedChance_35 rfl ?_
  refine gfX1_1 (pc := 36) X wf_RX1_15 dX1_mixedChance_36 ?_
  refine to_iload (pc := 39) X dX1_mixedChance_39 ?_
  refine to_iald (pc := 41) X dX1_mixedChance_41 ?_
  refine to_iload (pc := 42) X dX1_mixedChance_42 ?_
  refine to_imul (pc := 44) X dX1_mixedChance_44 ?_
  refine to_iadd (pc := 45) X dX1_mixedChance_45 ?_
  refine to_istore_n (pc := 46) X dX1_mixedChance_46 rfl (by decide) ?_
  refine to_iload_n (pc := 47) X dX1_mixedChance_47 rfl ?_
  refine to_aload_n (pc := 48) X dX1_mixedChance_48 rfl ?_
  refine gfX1_1 (pc := 49) X wf_RX1_15 dX1_mixedChance_49 ?_
  refine to_iload (pc := 52) X dX1_mixedChance_52 ?_
  refine to_iald (pc := 54) X dX1_mixedChance_54 ?_
  refine to_iadd (pc := 55) X dX1_mixedChance_55 ?_
  refine to_istore_n (pc := 56) X dX1_mixedChance_56 rfl (by decide) ?_
  exact to_cut [0, 1, 2, 3, 4] (fun _ _ _ h => h)
def bkX1_mixedChance_0 (P : Nat → tc_B) (q : tc_Q) : tc_B := tb_i 0 <| tb_istore 2 <| tb_i 0 <| tb_istore 3 <| tb_i 0 <| tb_istore 4 <| tb_cut (P 7) [0, 1, 2, 3, 4]
theorem okX1_mixedChance_0 {Z : tc_Z} {q : tc_Q} (X : tc_Cx ({ frames := 0, cells := 0, slots := 0, locals := 0 } : Room) cX1_mixedChance 6 RX1 Z) (hr : tc_Rt 0 cX1_mixedChance 6 Z q) : tc_Ok 6 Z 0 (bkX1_mixedChance_0 (tc_At 6 Z) q) := by
  unfold bkX1_mixedChance_0
  refine to_iconst (pc := 0) X dX1_mixedChance_0 (by decide) ?_
  refine to_istore_n (pc := 1) X dX1_mixedChance_1 rfl (by decide) ?_
  refine to_iconst (pc := 2) X dX1_mixedChance_2 (by decide) ?_
  refine to_istore_n (pc := 3) X dX1_mixedChance_3 rfl (by decide) ?_
  refine to_iconst (pc := 4) X dX1_mixedChance_4 (by decide) ?_
  refine to_istore (pc := 5) X dX1_mixedChance_5 (by decide) ?_
  exact to_cut [0, 1, 2, 3, 4] (fun _ _ _ h => h)
def RX1_mixedChance (vs : List tc_V) (S : tc_S) (q : tc_Q) : Prop := ∀ P : Nat → tc_B, (∀ L K S, bkX1_mixedChance_7 P q L K S → P 7 L K S) → (∀ L K S, bkX1_mixedChance_57 P q L K S → P 57 L K S) → bkX1_mixedChance_0 P q (tc_num 0 vs) [] S
theorem metX1_mixedChance : tc_Met yX1_mixedChance (Cond.code yX1_mixedChance cX1_mixedChance 6 (some .int)) ({ frames := 0, cells := 0, slots := 0, locals := 0 } : Room) 0 6 RX1_mixedChance := tc_met (rk := 0) (by decide) ⟨rfl, rfl⟩ (fun Z q X hr vs S h => okX1_mixedChance_0 X hr _ _ _ (h (tc_At 6 Z) (okX1_mixedChance_7 X hr) (okX1_mixedChance_57 X hr)))
theorem cvX1_mixedChance {R : Room} {cc : ByteArray} {nL pc ix : Nat} {own : String} {Z : tc_Z} {k : tc_B} (X : tc_Cx R cc nL own Z) (h1 : Cond.methodLink own ix yX1_mixedChance ∈ tc_tb) (hR : 0 + 1 ≤ R.frames ∧ 8 + (6 + 11) + 0 ≤ R.locals) (hd : decode cc pc = .ok (.invokevirtual ix, 3)) (h : tc_Ok nL Z (pc + 3) k) : tc_Ok nL Z pc (tb_callV 1 6 1 RX1_mixedChance k) := to_callV X metX1_mixedChance rfl ⟨rfl, rfl⟩ hR h1 wi_X1_mixedChance wl_X1_mixedChance wn_RX1 wc_X1_mixedChance ⟨by decide +kernel, by decide +kernel, by decide +kernel, by decide +kernel⟩ hd h
def bkX1_chanceOf_10 (P : Nat → tc_B) (q : tc_Q) : tc_B := tb_iret q
theorem okX1_chanceOf_10 {Z : tc_Z} {q : tc_Q} (X : tc_Cx ({ frames := 1, cells := 0, slots := 0, locals := 25 } : Room) cX1_chanceOf 3 RX1 Z) (hr : tc_Rt 0 cX1_chanceOf 3 Z q) : tc_Ok 3 Z 10 (bkX1_chanceOf_10 (tc_At 3 Z) q) := by
  unfold bkX1_chanceOf_10
  refine to_goto (pc := 10) (tgt := 24) X dX1_chanceOf_10 (by decide) ?_
  exact to_iret (pc := 24) hr dX1_chanceOf_24
def bkX1_chanceOf_0 (P : Nat → tc_B) (q : tc_Q) : tc_B := tb_iload 1 <| tb_i 4 <| tb_icmp_ne (tb_aload 0 <| tb_getf 1 0 <| tb_iload 1 <| tb_i 40 <| tb_imul <| tb_iload 2 <| tb_iadd <| tb_iald <| tb_iret q) <| tb_aload 0 <| tb_iload 2 <| tb_callV 1 6 1 RX1_mixedChance <| bkX1_chanceOf_10 P q
theorem okX1_chanceOf_0 {Z : tc_Z} {q : tc_Q} (X : tc_Cx ({ frames := 1, cells := 0, slots := 0, locals := 25 } : Room) cX1_chanceOf 3 RX1 Z) (hr : tc_Rt 0 cX1_chanceOf 3 Z q) : tc_Ok 3 Z 0 (bkX1_chanceOf_0 (tc_At 3 Z) q) := by
  unfold bkX1_chanceOf_0
  refine to_iload_n (pc := 0) X dX1_chanceOf_0 rfl ?_
  refine to_iconst (pc := 1) X dX1_chanceOf_1 (by decide) ?_
  refine to_icmp_ne (pc := 2) (tgt := 13) X dX1_chanceOf_2 (by decide) ?_ ?_
  · refine to_aload_n (pc := 13) X dX1_chanceOf_13 rfl ?_
    refine gfX1_0 (pc := 14) X wf_RX1_9 dX1_chanceOf_14 ?_
    refine to_iload_n (pc := 17) X dX1_chanceOf_17 rfl ?_
    refine to_bipush (pc := 18) X dX1_chanceOf_18 (by decide) ?_
    refine to_imul (pc := 20) X dX1_chanceOf_20 ?_
    refine to_iload_n (pc := 21) X dX1_chanceOf_21 rfl ?_
    refine to_iadd (pc := 22) X dX1_chanceOf_22 ?_
    refine to_iald (pc := 23) X dX1_chanceOf_23 ?_
    exact to_iret (pc := 24) hr dX1_chanceOf_24
  refine to_aload_n (pc := 5) X dX1_chanceOf_5 rfl ?_
  refine to_iload_n (pc := 6) X dX1_chanceOf_6 rfl ?_
  refine cvX1_mixedChance (pc := 7) X wm_RX1_21 (by decide) dX1_chanceOf_7 ?_
  exact okX1_chanceOf_10 X hr
def RX1_chanceOf (vs : List tc_V) (S : tc_S) (q : tc_Q) : Prop := ∀ P : Nat → tc_B, bkX1_chanceOf_0 P q (tc_num 0 vs) [] S
theorem metX1_chanceOf : tc_Met yX1_chanceOf (Cond.code yX1_chanceOf cX1_chanceOf 3 (some .int)) ({ frames := 1, cells := 0, slots := 0, locals := 25 } : Room) 0 3 RX1_chanceOf := tc_met (rk := 0) (by decide) ⟨rfl, rfl⟩ (fun Z q X hr vs S h => okX1_chanceOf_0 X hr _ _ _ (h (tc_At 3 Z)))
theorem cvX1_chanceOf {R : Room} {cc : ByteArray} {nL pc ix : Nat} {own : String} {Z : tc_Z} {k : tc_B} (X : tc_Cx R cc nL own Z) (h1 : Cond.methodLink own ix yX1_chanceOf ∈ tc_tb) (hR : 1 + 1 ≤ R.frames ∧ 8 + (3 + 11) + 25 ≤ R.locals) (hd : decode cc pc = .ok (.invokevirtual ix, 3)) (h : tc_Ok nL Z (pc + 3) k) : tc_Ok nL Z pc (tb_callV 2 3 1 RX1_chanceOf k) := to_callV X metX1_chanceOf rfl ⟨rfl, rfl⟩ hR h1 wi_X1_chanceOf wl_X1_chanceOf wn_RX1 wc_X1_chanceOf ⟨by decide +kernel, by decide +kernel, by decide +kernel, by decide +kernel⟩ hd h
def bkX1_isCase_15 (P : Nat → tc_B) (q : tc_Q) : tc_B := tb_i (-9) <| tb_icmp_eq (tb_i 0 <| tb_zret q) <| tb_i 1 <| tb_zret q
theorem okX1_isCase_15 {Z : tc_Z} {q : tc_Q} (X : tc_Cx ({ frames := 2, cells := 0, slots := 0, locals := 47 } : Room) cX1_isCase 3 RX1 Z) (hr : tc_Rt 1 cX1_isCase 3 Z q) : tc_Ok 3 Z 15 (bkX1_isCase_15 (tc_At 3 Z) q) := by
  unfold bkX1_isCase_15
  refine to_bipush (pc := 15) X dX1_isCase_15 (by decide) ?_
  refine to_icmp_eq (pc := 17) (tgt := 24) X dX1_isCase_17 (by decide) ?_ ?_
  · refine to_iconst (pc := 24) X dX1_isCase_24 (by decide) ?_
    exact to_zret (pc := 25) hr dX1_isCase_25
  refine to_iconst (pc := 20) X dX1_isCase_20 (by decide) ?_
  refine to_goto (pc := 21) (tgt := 25) X dX1_isCase_21 (by decide) ?_
  exact to_zret (pc := 25) hr dX1_isCase_25
def bkX1_isCase_0 (P : Nat → tc_B) (q : tc_Q) : tc_B := tb_aload 0 <| tb_getf 1 2 <| tb_iload 2 <| tb_iald <| tb_if_eq (tb_i 0 <| tb_zret q) <| tb_aload 0 <| tb_iload 1 <| tb_iload 2 <| tb_callV 2 3 1 RX1_chanceOf <| bkX1_isCase_15 P q
theorem okX1_isCase_0 {Z : tc_Z} {q : tc_Q} (X : tc_Cx ({ frames := 2, cells := 0, slots := 0, locals := 47 } : Room) cX1_isCase 3 RX1 Z) (hr : tc_Rt 1 cX1_isCase 3 Z q) : tc_Ok 3 Z 0 (bkX1_isCase_0 (tc_At 3 Z) q) := by
  unfold bkX1_isCase_0
  refine to_aload_n (pc := 0) X dX1_isCase_0 rfl ?_
  refine gfX1_2 (pc := 1) X wf_RX1_18 dX1_isCase_1 ?_
  refine to_iload_n (pc := 4) X dX1_isCase_4 rfl ?_
  refine to_iald (pc := 5) X dX1_isCase_5 ?_
  refine to_if_eq (pc := 6) (tgt := 24) X dX1_isCase_6 (by decide) ?_ ?_
  · refine to_iconst (pc := 24) X dX1_isCase_24 (by decide) ?_
    exact to_zret (pc := 25) hr dX1_isCase_25
  refine to_aload_n (pc := 9) X dX1_isCase_9 rfl ?_
  refine to_iload_n (pc := 10) X dX1_isCase_10 rfl ?_
  refine to_iload_n (pc := 11) X dX1_isCase_11 rfl ?_
  refine cvX1_chanceOf (pc := 12) X wm_RX1_25 (by decide) dX1_isCase_12 ?_
  exact okX1_isCase_15 X hr
def RX1_isCase (vs : List tc_V) (S : tc_S) (q : tc_Q) : Prop := ∀ P : Nat → tc_B, bkX1_isCase_0 P q (tc_num 0 vs) [] S
theorem metX1_isCase : tc_Met yX1_isCase (Cond.code yX1_isCase cX1_isCase 3 (some .boolean)) ({ frames := 2, cells := 0, slots := 0, locals := 47 } : Room) 1 3 RX1_isCase := tc_met (rk := 1) (by decide) ⟨rfl, rfl⟩ (fun Z q X hr vs S h => okX1_isCase_0 X hr _ _ _ (h (tc_At 3 Z)))
theorem cvX1_isCase {R : Room} {cc : ByteArray} {nL pc ix : Nat} {own : String} {Z : tc_Z} {k : tc_B} (X : tc_Cx R cc nL own Z) (h1 : Cond.methodLink own ix yX1_isCase ∈ tc_tb) (hR : 2 + 1 ≤ R.frames ∧ 8 + (3 + 11) + 47 ≤ R.locals) (hd : decode cc pc = .ok (.invokevirtual ix, 3)) (h : tc_Ok nL Z (pc + 3) k) : tc_Ok nL Z pc (tb_callV 2 3 1 RX1_isCase k) := to_callV X metX1_isCase rfl ⟨rfl, rfl⟩ hR h1 wi_X1_isCase wl_X1_isCase wn_RX1 wc_X1_isCase ⟨by decide +kernel, by decide +kernel, by decide +kernel, by decide +kernel⟩ hd h
def bkX1_countState_23 (P : Nat → tc_B) (q : tc_Q) : tc_B := tb_iinc 3 1 <| tb_cut (P 4) [0, 1, 2, 3]
theorem okX1_countState_23 {Z : tc_Z} {q : tc_Q} (X : tc_Cx ({ frames := 0, cells := 0, slots := 0, locals := 0 } : Room) cX1_countState 4 RX1 Z) (hr : tc_Rt 0 cX1_countState 4 Z q) : tc_Ok 4 Z 23 (bkX1_countState_23 (tc_At 4 Z) q) := by
  unfold bkX1_countState_23
  refine to_iinc (pc := 23) X dX1_countState_23 (by decide) (by decide) ?_
  refine to_goto (pc := 26) (tgt := 4) X dX1_countState_26 (by decide) ?_
  exact to_cut [0, 1, 2, 3] (fun _ _ _ h => h)
def bkX1_countState_4 (P : Nat → tc_B) (q : tc_Q) : tc_B := tb_iload 3 <| tb_i 40 <| tb_icmp_ge (tb_iload 2 <| tb_iret q) <| tb_aload 0 <| tb_getf 1 2 <| tb_iload 3 <| tb_iald <| tb_iload 1 <| tb_icmp_ne (tb_cut (P 23) [0, 1, 2, 3]) <| tb_iinc 2 1 <| tb_cut (P 23) [0, 1, 2, 3]
theorem okX1_countState_4 {Z : tc_Z} {q : tc_Q} (X : tc_Cx ({ frames := 0, cells := 0, slots := 0, locals := 0 } : Room) cX1_countState 4 RX1 Z) (hr : tc_Rt 0 cX1_countState 4 Z q) : tc_Ok 4 Z 4 (bkX1_countState_4 (tc_At 4 Z) q) := by
  unfold bkX1_countState_4
  refine to_iload_n (pc := 4) X dX1_countState_4 rfl ?_
  refine to_bipush (pc := 5) X dX1_countState_5 (by decide) ?_
  refine to_icmp_ge (pc := 7) (tgt := 29) X dX1_countState_7 (by decide) ?_ ?_
  · refine to_iload_n (pc := 29) X dX1_countState_29 rfl ?_
    exact to_iret (pc := 30) hr dX1_countState_30
  refine to_aload_n (pc := 10) X dX1_countState_10 rfl ?_
  refine gfX1_2 (pc := 11) X wf_RX1_18 dX1_countState_11 ?_
  refine to_iload_n (pc := 14) X dX1_countState_14 rfl ?_
  refine to_iald (pc := 15) X dX1_countState_15 ?_
  refine to_iload_n (pc := 16) X dX1_countState_16 rfl ?_
  refine to_icmp_ne (pc := 17) (tgt := 23) X dX1_countState_17 (by decide) ?_ ?_
  · exact to_cut [0, 1, 2, 3] (fun _ _ _ h => h)
  refine to_iinc (pc := 20) X dX1_countState_20 (by decide) (by decide) ?_
  exact to_cut [0, 1, 2, 3] (fun _ _ _ h => h)
def bkX1_countState_0 (P : Nat → tc_B) (q : tc_Q) : tc_B := tb_i 0 <| tb_istore 2 <| tb_i 0 <| tb_istore 3 <| tb_cut (P 4) [0, 1, 2, 3]
theorem okX1_countState_0 {Z : tc_Z} {q : tc_Q} (X : tc_Cx ({ frames := 0, cells := 0, slots := 0, locals := 0 } : Room) cX1_countState 4 RX1 Z) (hr : tc_Rt 0 cX1_countState 4 Z q) : tc_Ok 4 Z 0 (bkX1_countState_0 (tc_At 4 Z) q) := by
  unfold bkX1_countState_0
  refine to_iconst (pc := 0) X dX1_countState_0 (by decide) ?_
  refine to_istore_n (pc := 1) X dX1_countState_1 rfl (by decide) ?_
  refine to_iconst (pc := 2) X dX1_countState_2 (by decide) ?_
  refine to_istore_n (pc := 3) X dX1_countState_3 rfl (by decide) ?_
  exact to_cut [0, 1, 2, 3] (fun _ _ _ h => h)
def RX1_countState (vs : List tc_V) (S : tc_S) (q : tc_Q) : Prop := ∀ P : Nat → tc_B, (∀ L K S, bkX1_countState_4 P q L K S → P 4 L K S) → (∀ L K S, bkX1_countState_23 P q L K S → P 23 L K S) → bkX1_countState_0 P q (tc_num 0 vs) [] S
theorem metX1_countState : tc_Met yX1_countState (Cond.code yX1_countState cX1_countState 4 (some .int)) ({ frames := 0, cells := 0, slots := 0, locals := 0 } : Room) 0 4 RX1_countState := tc_met (rk := 0) (by decide) ⟨rfl, rfl⟩ (fun Z q X hr vs S h => okX1_countState_0 X hr _ _ _ (h (tc_At 4 Z) (okX1_countState_4 X hr) (okX1_countState_23 X hr)))
theorem cvX1_countState {R : Room} {cc : ByteArray} {nL pc ix : Nat} {own : String} {Z : tc_Z} {k : tc_B} (X : tc_Cx R cc nL own Z) (h1 : Cond.methodLink own ix yX1_countState ∈ tc_tb) (hR : 0 + 1 ≤ R.frames ∧ 8 + (4 + 11) + 0 ≤ R.locals) (hd : decode cc pc = .ok (.invokevirtual ix, 3)) (h : tc_Ok nL Z (pc + 3) k) : tc_Ok nL Z pc (tb_callV 1 4 1 RX1_countState k) := to_callV X metX1_countState rfl ⟨rfl, rfl⟩ hR h1 wi_X1_countState wl_X1_countState wn_RX1 wc_X1_countState ⟨by decide +kernel, by decide +kernel, by decide +kernel, by decide +kernel⟩ hd h
def bkX1_countTold_27 (P : Nat → tc_B) (q : tc_Q) : tc_B := tb_iinc 2 1 <| tb_cut (P 4) [0, 1, 2]
theorem okX1_countTold_27 {Z : tc_Z} {q : tc_Q} (X : tc_Cx ({ frames := 0, cells := 0, slots := 0, locals := 0 } : Room) cX1_countTold 3 RX1 Z) (hr : tc_Rt 0 cX1_countTold 3 Z q) : tc_Ok 3 Z 27 (bkX1_countTold_27 (tc_At 3 Z) q) := by
  unfold bkX1_countTold_27
  refine to_iinc (pc := 27) X dX1_countTold_27 (by decide) (by decide) ?_
  refine to_goto (pc := 30) (tgt := 4) X dX1_countTold_30 (by decide) ?_
  exact to_cut [0, 1, 2] (fun _ _ _ h => h)
def bkX1_countTold_4 (P : Nat → tc_B) (q : tc_Q) : tc_B := tb_iload 2 <| tb_aload 0 <| tb_getf 1 0 <| tb_alen <| tb_icmp_ge (tb_iload 1 <| tb_iret q) <| tb_aload 0 <| tb_getf 1 0 <| tb_iload 2 <| tb_iald <| tb_i (-9) <| tb_icmp_eq (tb_cut (P 27) [0, 1, 2]) <| tb_iinc 1 1 <| tb_cut (P 27) [0, 1, 2]
theorem okX1_countTold_4 {Z : tc_Z} {q : tc_Q} (X : tc_Cx ({ frames := 0, cells := 0, slots := 0, locals := 0 } : Room) cX1_countTold 3 RX1 Z) (hr : tc_Rt 0 cX1_countTold 3 Z q) : tc_Ok 3 Z 4 (bkX1_countTold_4 (tc_At 3 Z) q) := by
  unfold bkX1_countTold_4
  refine to_iload_n (pc := 4) X dX1_countTold_4 rfl ?_
  refine to_aload_n (pc := 5) X dX1_countTold_5 rfl ?_
  refine gfX1_0 (pc := 6) X wf_RX1_9 dX1_countTold_6 ?_
  refine to_alen (pc := 9) X dX1_countTold_9 ?_
  refine to_icmp_ge (pc := 10) (tgt := 33) X dX1_countTold_10 (by decide) ?_ ?_
  · refine to_iload_n (pc := 33) X dX1_countTold_33 rfl ?_
    exact to_iret (pc := 34) hr dX1_countTold_34
  refine to_aload_n (pc := 13) X dX1_countTold_13 rfl ?_
  refine gfX1_0 (pc := 14) X wf_RX1_9 dX1_countTold_14 ?_
  refine to_iload_n (pc := 17) X dX1_countTold_17 rfl ?_
  refine to_iald (pc := 18) X dX1_countTold_18 ?_
  refine to_bipush (pc := 19) X dX1_countTold_19 (by decide) ?_
  refine to_icmp_eq (pc := 21) (tgt := 27) X dX1_countTold_21 (by decide) ?_ ?_
  · exact to_cut [0, 1, 2] (fun _ _ _ h => h)
  refine to_iinc (pc := 24) X dX1_countTold_24 (by decide) (by decide) ?_
  exact to_cut [0, 1, 2] (fun _ _ _ h => h)
def bkX1_countTold_0 (P : Nat → tc_B) (q : tc_Q) : tc_B := tb_i 0 <| tb_istore 1 <| tb_i 0 <| tb_istore 2 <| tb_cut (P 4) [0, 1, 2]
theorem okX1_countTold_0 {Z : tc_Z} {q : tc_Q} (X : tc_Cx ({ frames := 0, cells := 0, slots := 0, locals := 0 } : Room) cX1_countTold 3 RX1 Z) (hr : tc_Rt 0 cX1_countTold 3 Z q) : tc_Ok 3 Z 0 (bkX1_countTold_0 (tc_At 3 Z) q) := by
  unfold bkX1_countTold_0
  refine to_iconst (pc := 0) X dX1_countTold_0 (by decide) ?_
  refine to_istore_n (pc := 1) X dX1_countTold_1 rfl (by decide) ?_
  refine to_iconst (pc := 2) X dX1_countTold_2 (by decide) ?_
  refine to_istore_n (pc := 3) X dX1_countTold_3 rfl (by decide) ?_
  exact to_cut [0, 1, 2] (fun _ _ _ h => h)
def RX1_countTold (vs : List tc_V) (S : tc_S) (q : tc_Q) : Prop := ∀ P : Nat → tc_B, (∀ L K S, bkX1_countTold_4 P q L K S → P 4 L K S) → (∀ L K S, bkX1_countTold_27 P q L K S → P 27 L K S) → bkX1_countTold_0 P q (tc_num 0 vs) [] S
theorem metX1_countTold : tc_Met yX1_countTold (Cond.code yX1_countTold cX1_countTold 3 (some .int)) ({ frames := 0, cells := 0, slots := 0, locals := 0 } : Room) 0 3 RX1_countTold := tc_met (rk := 0) (by decide) ⟨rfl, rfl⟩ (fun Z q X hr vs S h => okX1_countTold_0 X hr _ _ _ (h (tc_At 3 Z) (okX1_countTold_4 X hr) (okX1_countTold_27 X hr)))
theorem cvX1_countTold {R : Room} {cc : ByteArray} {nL pc ix : Nat} {own : String} {Z : tc_Z} {k : tc_B} (X : tc_Cx R cc nL own Z) (h1 : Cond.methodLink own ix yX1_countTold ∈ tc_tb) (hR : 0 + 1 ≤ R.frames ∧ 8 + (3 + 11) + 0 ≤ R.locals) (hd : decode cc pc = .ok (.invokevirtual ix, 3)) (h : tc_Ok nL Z (pc + 3) k) : tc_Ok nL Z pc (tb_callV 0 3 1 RX1_countTold k) := to_callV X metX1_countTold rfl ⟨rfl, rfl⟩ hR h1 wi_X1_countTold wl_X1_countTold wn_RX1 wc_X1_countTold ⟨by decide +kernel, by decide +kernel, by decide +kernel, by decide +kernel⟩ hd h
def bkX1_countCases_29 (P : Nat → tc_B) (q : tc_Q) : tc_B := tb_iinc 3 1 <| tb_cut (P 11) [0, 1, 2, 3]
theorem okX1_countCases_29 {Z : tc_Z} {q : tc_Q} (X : tc_Cx ({ frames := 3, cells := 0, slots := 0, locals := 69 } : Room) cX1_countCases 4 RX1 Z) (hr : tc_Rt 0 cX1_countCases 4 Z q) : tc_Ok 4 Z 29 (bkX1_countCases_29 (tc_At 4 Z) q) := by
  unfold bkX1_countCases_29
  refine to_iinc (pc := 29) X dX1_countCases_29 (by decide) (by decide) ?_
  refine to_goto (pc := 32) (tgt := 11) X dX1_countCases_32 (by decide) ?_
  exact to_cut [0, 1, 2, 3] (fun _ _ _ h => h)
def bkX1_countCases_23 (P : Nat → tc_B) (q : tc_Q) : tc_B := tb_if_eq (tb_cut (P 29) [0, 1, 2, 3]) <| tb_iinc 1 1 <| tb_cut (P 29) [0, 1, 2, 3]
theorem okX1_countCases_23 {Z : tc_Z} {q : tc_Q} (X : tc_Cx ({ frames := 3, cells := 0, slots := 0, locals := 69 } : Room) cX1_countCases 4 RX1 Z) (hr : tc_Rt 0 cX1_countCases 4 Z q) : tc_Ok 4 Z 23 (bkX1_countCases_23 (tc_At 4 Z) q) := by
  unfold bkX1_countCases_23
  refine to_if_eq (pc := 23) (tgt := 29) X dX1_countCases_23 (by decide) ?_ ?_
  · exact to_cut [0, 1, 2, 3] (fun _ _ _ h => h)
  refine to_iinc (pc := 26) X dX1_countCases_26 (by decide) (by decide) ?_
  exact to_cut [0, 1, 2, 3] (fun _ _ _ h => h)
def bkX1_countCases_11 (P : Nat → tc_B) (q : tc_Q) : tc_B := tb_iload 3 <| tb_i 40 <| tb_icmp_ge (tb_iinc 2 1 <| tb_cut (P 4) [0, 1, 2]) <| tb_aload 0 <| tb_iload 2 <| tb_iload 3 <| tb_callV 2 3 1 RX1_isCase <| bkX1_countCases_23 P q
theorem okX1_countCases_11 {Z : tc_Z} {q : tc_Q} (X : tc_Cx ({ frames := 3, cells := 0, slots := 0, locals := 69 } : Room) cX1_countCases 4 RX1 Z) (hr : tc_Rt 0 cX1_countCases 4 Z q) : tc_Ok 4 Z 11 (bkX1_countCases_11 (tc_At 4 Z) q) := by
  unfold bkX1_countCases_11
  refine to_iload_n (pc := 11) X dX1_countCases_11 rfl ?_
  refine to_bipush (pc := 12) X dX1_countCases_12 (by decide) ?_
  refine to_icmp_ge (pc := 14) (tgt := 35) X dX1_countCases_14 (by decide) ?_ ?_
  · refine to_iinc (pc := 35) X dX1_countCases_35 (by decide) (by decide) ?_
    refine to_goto (pc := 38) (tgt := 4) X dX1_countCases_38 (by decide) ?_
    exact to_cut [0, 1, 2] (fun _ _ _ h => h)
  refine to_aload_n (pc := 17) X dX1_countCases_17 rfl ?_
  refine to_iload_n (pc := 18) X dX1_countCases_18 rfl ?_
  refine to_iload_n (pc := 19) X dX1_countCases_19 rfl ?_
  refine cvX1_isCase (pc := 20) X wm_RX1_29 (by decide) dX1_countCases_20 ?_
  exact okX1_countCases_23 X hr
def bkX1_countCases_4 (P : Nat → tc_B) (q : tc_Q) : tc_B := tb_iload 2 <| tb_i 4 <| tb_icmp_ge (tb_iload 1 <| tb_iret q) <| tb_i 0 <| tb_istore 3 <| tb_cut (P 11) [0, 1, 2, 3]
theorem okX1_countCases_4 {Z : tc_Z} {q : tc_Q} (X : tc_Cx ({ frames := 3, cells := 0, slots := 0, locals := 69 } : Room) cX1_countCases 4 RX1 Z) (hr : tc_Rt 0 cX1_countCases 4 Z q) : tc_Ok 4 Z 4 (bkX1_countCases_4 (tc_At 4 Z) q) := by
  unfold bkX1_countCases_4
  refine to_iload_n (pc := 4) X dX1_countCases_4 rfl ?_
  refine to_iconst (pc := 5) X dX1_countCases_5 (by decide) ?_
  refine to_icmp_ge (pc := 6) (tgt := 41) X dX1_countCases_6 (by decide) ?_ ?_
  · refine to_iload_n (pc := 41) X dX1_countCases_41 rfl ?_
    exact to_iret (pc := 42) hr dX1_countCases_42
  refine to_iconst (pc := 9) X dX1_countCases_9 (by decide) ?_
  refine to_istore_n (pc := 10) X dX1_countCases_10 rfl (by decide) ?_
  exact to_cut [0, 1, 2, 3] (fun _ _ _ h => h)
def bkX1_countCases_0 (P : Nat → tc_B) (q : tc_Q) : tc_B := tb_i 0 <| tb_istore 1 <| tb_i 0 <| tb_istore 2 <| tb_cut (P 4) [0, 1, 2]
theorem okX1_countCases_0 {Z : tc_Z} {q : tc_Q} (X : tc_Cx ({ frames := 3, cells := 0, slots := 0, locals := 69 } : Room) cX1_countCases 4 RX1 Z) (hr : tc_Rt 0 cX1_countCases 4 Z q) : tc_Ok 4 Z 0 (bkX1_countCases_0 (tc_At 4 Z) q) := by
  unfold bkX1_countCases_0
  refine to_iconst (pc := 0) X dX1_countCases_0 (by decide) ?_
  refine to_istore_n (pc := 1) X dX1_countCases_1 rfl (by decide) ?_
  refine to_iconst (pc := 2) X dX1_countCases_2 (by decide) ?_
  refine to_istore_n (pc := 3) X dX1_countCases_3 rfl (by decide) ?_
  exact to_cut [0, 1, 2] (fun _ _ _ h => h)
def RX1_countCases (vs : List tc_V) (S : tc_S) (q : tc_Q) : Prop := ∀ P : Nat → tc_B, (∀ L K S, bkX1_countCases_4 P q L K S → P 4 L K S) → (∀ L K S, bkX1_countCases_11 P q L K S → P 11 L K S) → (∀ L K S, bkX1_countCases_29 P q L K S → P 29 L K S) → bkX1_countCases_0 P q (tc_num 0 vs) [] S
theorem metX1_countCases : tc_Met yX1_countCases (Cond.code yX1_countCases cX1_countCases 4 (some .int)) ({ frames := 3, cells := 0, slots := 0, locals := 69 } : Room) 0 4 RX1_countCases := tc_met (rk := 0) (by decide) ⟨rfl, rfl⟩ (fun Z q X hr vs S h => okX1_countCases_0 X hr _ _ _ (h (tc_At 4 Z) (okX1_countCases_4 X hr) (okX1_countCases_11 X hr) (okX1_countCases_29 X hr)))
theorem cvX1_countCases {R : Room} {cc : ByteArray} {nL pc ix : Nat} {own : String} {Z : tc_Z} {k : tc_B} (X : tc_Cx R cc nL own Z) (h1 : Cond.methodLink own ix yX1_countCases ∈ tc_tb) (hR : 3 + 1 ≤ R.frames ∧ 8 + (4 + 11) + 69 ≤ R.locals) (hd : decode cc pc = .ok (.invokevirtual ix, 3)) (h : tc_Ok nL Z (pc + 3) k) : tc_Ok nL Z pc (tb_callV 0 4 1 RX1_countCases k) := to_callV X metX1_countCases rfl ⟨rfl, rfl⟩ hR h1 wi_X1_countCases wl_X1_countCases wn_RX1 wc_X1_countCases ⟨by decide +kernel, by decide +kernel, by decide +kernel, by decide +kernel⟩ hd h
def bkX2_gather_98 (P : Nat → tc_B) (q : tc_Q) : tc_B := tb_iinc 3 1 <| tb_cut (P 12) [0, 1, 2, 3]
theorem okX2_gather_98 {Z : tc_Z} {q : tc_Q} (X : tc_Cx ({ frames := 3, cells := 0, slots := 0, locals := 69 } : Room) cX2_gather 4 RX2 Z) (hr : tc_Rt 3 cX2_gather 4 Z q) : tc_Ok 4 Z 98 (bkX2_gather_98 (tc_At 4 Z) q) := by
  unfold bkX2_gather_98
  refine to_iinc (pc := 98) X dX2_gather_98 (by decide) (by decide) ?_
  refine to_goto (pc := 101) (tgt := 12) X dX2_gather_101 (by decide) ?_
  exact to_cut [0, 1, 2, 3] (fun _ _ _ h => h)
def bkX2_gather_88 (P : Nat → tc_B) (q : tc_Q) : tc_B := tb_aload 0 <| tb_dup <| tb_getf 2 2 <| tb_i 1 <| tb_iadd <| tb_putI 2 2 <| tb_cut (P 98) [0, 1, 2, 3]
theorem okX2_gather_88 {Z : tc_Z} {q : tc_Q} (X : tc_Cx ({ frames := 3, cells := 0, slots := 0, locals := 69 } : Room) cX2_gather 4 RX2 Z) (hr : tc_Rt 3 cX2_gather 4 Z q) : tc_Ok 4 Z 88 (bkX2_gather_88 (tc_At 4 Z) q) := by
  unfold bkX2_gather_88
  refine to_aload_n (pc := 88) X dX2_gather_88 rfl ?_
  refine to_dup (pc := 89) X dX2_gather_89 ?_
  refine gfX2_2 (pc := 90) X wf_RX2_19 dX2_gather_90 ?_
  refine to_iconst (pc := 93) X dX2_gather_93 (by decide) ?_
  refine to_iadd (pc := 94) X dX2_gather_94 ?_
  refine pfX2_2 (pc := 95) X wf_RX2_19 dX2_gather_95 ?_
  exact to_cut [0, 1, 2, 3] (fun _ _ _ h => h)
def bkX2_gather_65 (P : Nat → tc_B) (q : tc_Q) : tc_B := tb_zast <| tb_aload 0 <| tb_getf 2 1 <| tb_aload 0 <| tb_getf 2 2 <| tb_zald <| tb_if_eq (tb_cut (P 88) [0, 1, 2, 3]) <| tb_aload 0 <| tb_dup <| tb_getf 2 3 <| tb_i 1 <| tb_iadd <| tb_putI 2 3 <| tb_cut (P 88) [0, 1, 2, 3]
theorem okX2_gather_65 {Z : tc_Z} {q : tc_Q} (X : tc_Cx ({ frames := 3, cells := 0, slots := 0, locals := 69 } : Room) cX2_gather 4 RX2 Z) (hr : tc_Rt 3 cX2_gather 4 Z q) : tc_Ok 4 Z 65 (bkX2_gather_65 (tc_At 4 Z) q) := by
  unfold bkX2_gather_65
  refine to_zast (pc := 65) X dX2_gather_65 ?_
  refine to_aload_n (pc := 66) X dX2_gather_66 rfl ?_
  refine gfX2_1 (pc := 67) X wf_RX2_15 dX2_gather_67 ?_
  refine to_aload_n (pc := 70) X dX2_gather_70 rfl ?_
  refine gfX2_2 (pc := 71) X wf_RX2_19 dX2_gather_71 ?_
  refine to_zald (pc := 74) X dX2_gather_74 ?_
  refine to_if_eq (pc := 75) (tgt := 88) X dX2_gather_75 (by decide) ?_ ?_
  · exact to_cut [0, 1, 2, 3] (fun _ _ _ h => h)
  refine to_aload_n (pc := 78) X dX2_gather_78 rfl ?_
  refine to_dup (pc := 79) X dX2_gather_79 ?_
  refine gfX2_3 (pc := 80) X wf_RX2_23 dX2_gather_80 ?_
  refine to_iconst (pc := 83) X dX2_gather_83 (by decide) ?_
  refine to_iadd (pc := 84) X dX2_gather_84 ?_
  refine pfX2_3 (pc := 85) X wf_RX2_23 dX2_gather_85 ?_
  exact to_cut [0, 1, 2, 3] (fun _ _ _ h => h)
def bkX2_gather_41 (P : Nat → tc_B) (q : tc_Q) : tc_B := tb_iast <| tb_aload 0 <| tb_getf 2 1 <| tb_aload 0 <| tb_getf 2 2 <| tb_aload 1 <| tb_getf 1 2 <| tb_iload 3 <| tb_iald <| tb_i 1 <| tb_icmp_ne (tb_i 0 <| tb_cut (P 65) [0, 1, 2, 3]) <| tb_i 1 <| tb_cut (P 65) [0, 1, 2, 3]
theorem okX2_gather_41 {Z : tc_Z} {q : tc_Q} (X : tc_Cx ({ frames := 3, cells := 0, slots := 0, locals := 69 } : Room) cX2_gather 4 RX2 Z) (hr : tc_Rt 3 cX2_gather 4 Z q) : tc_Ok 4 Z 41 (bkX2_gather_41 (tc_At 4 Z) q) := by
  unfold bkX2_gather_41
  refine to_iast (pc := 41) X dX2_gather_41 ?_
  refine to_aload_n (pc := 42) X dX2_gather_42 rfl ?_
  refine gfX2_1 (pc := 43) X wf_RX2_15 dX2_gather_43 ?_
  refine to_aload_n (pc := 46) X dX2_gather_46 rfl ?_
  refine gfX2_2 (pc := 47) X wf_RX2_19 dX2_gather_47 ?_
  refine to_aload_n (pc := 50) X dX2_gather_50 rfl ?_
  refine gfX1_2 (pc := 51) X wf_RX2_36 dX2_gather_51 ?_
  refine to_iload_n (pc := 54) X dX2_gather_54 rfl ?_
  refine to_iald (pc := 55) X dX2_gather_55 ?_
  refine to_iconst (pc := 56) X dX2_gather_56 (by decide) ?_
  refine to_icmp_ne (pc := 57) (tgt := 64) X dX2_gather_57 (by decide) ?_ ?_
  · refine to_iconst (pc := 64) X dX2_gather_64 (by decide) ?_
    exact to_cut [0, 1, 2, 3] (fun _ _ _ h => h)
  refine to_iconst (pc := 60) X dX2_gather_60 (by decide) ?_
  refine to_goto (pc := 61) (tgt := 65) X dX2_gather_61 (by decide) ?_
  exact to_cut [0, 1, 2, 3] (fun _ _ _ h => h)
def bkX2_gather_24 (P : Nat → tc_B) (q : tc_Q) : tc_B := tb_if_eq (tb_cut (P 98) [0, 1, 2, 3]) <| tb_aload 0 <| tb_getf 2 0 <| tb_aload 0 <| tb_getf 2 2 <| tb_aload 1 <| tb_iload 2 <| tb_iload 3 <| tb_callV 2 3 1 RX1_chanceOf <| bkX2_gather_41 P q
theorem okX2_gather_24 {Z : tc_Z} {q : tc_Q} (X : tc_Cx ({ frames := 3, cells := 0, slots := 0, locals := 69 } : Room) cX2_gather 4 RX2 Z) (hr : tc_Rt 3 cX2_gather 4 Z q) : tc_Ok 4 Z 24 (bkX2_gather_24 (tc_At 4 Z) q) := by
  unfold bkX2_gather_24
  refine to_if_eq (pc := 24) (tgt := 98) X dX2_gather_24 (by decide) ?_ ?_
  · exact to_cut [0, 1, 2, 3] (fun _ _ _ h => h)
  refine to_aload_n (pc := 27) X dX2_gather_27 rfl ?_
  refine gfX2_0 (pc := 28) X wf_RX2_9 dX2_gather_28 ?_
  refine to_aload_n (pc := 31) X dX2_gather_31 rfl ?_
  refine gfX2_2 (pc := 32) X wf_RX2_19 dX2_gather_32 ?_
  refine to_aload_n (pc := 35) X dX2_gather_35 rfl ?_
  refine to_iload_n (pc := 36) X dX2_gather_36 rfl ?_
  refine to_iload_n (pc := 37) X dX2_gather_37 rfl ?_
  refine cvX1_chanceOf (pc := 38) X wm_RX2_32 (by decide) dX2_gather_38 ?_
  exact okX2_gather_41 X hr
def bkX2_gather_12 (P : Nat → tc_B) (q : tc_Q) : tc_B := tb_iload 3 <| tb_i 40 <| tb_icmp_ge (tb_vret q) <| tb_aload 1 <| tb_iload 2 <| tb_iload 3 <| tb_callV 2 3 1 RX1_isCase <| bkX2_gather_24 P q
theorem okX2_gather_12 {Z : tc_Z} {q : tc_Q} (X : tc_Cx ({ frames := 3, cells := 0, slots := 0, locals := 69 } : Room) cX2_gather 4 RX2 Z) (hr : tc_Rt 3 cX2_gather 4 Z q) : tc_Ok 4 Z 12 (bkX2_gather_12 (tc_At 4 Z) q) := by
  unfold bkX2_gather_12
  refine to_iload_n (pc := 12) X dX2_gather_12 rfl ?_
  refine to_bipush (pc := 13) X dX2_gather_13 (by decide) ?_
  refine to_icmp_ge (pc := 15) (tgt := 104) X dX2_gather_15 (by decide) ?_ ?_
  · exact to_vret (pc := 104) hr dX2_gather_104
  refine to_aload_n (pc := 18) X dX2_gather_18 rfl ?_
  refine to_iload_n (pc := 19) X dX2_gather_19 rfl ?_
  refine to_iload_n (pc := 20) X dX2_gather_20 rfl ?_
  refine cvX1_isCase (pc := 21) X wm_RX2_26 (by decide) dX2_gather_21 ?_
  exact okX2_gather_24 X hr
def bkX2_gather_0 (P : Nat → tc_B) (q : tc_Q) : tc_B := tb_aload 0 <| tb_i 0 <| tb_putI 2 2 <| tb_aload 0 <| tb_i 0 <| tb_putI 2 3 <| tb_i 0 <| tb_istore 3 <| tb_cut (P 12) [0, 1, 2, 3]
theorem okX2_gather_0 {Z : tc_Z} {q : tc_Q} (X : tc_Cx ({ frames := 3, cells := 0, slots := 0, locals := 69 } : Room) cX2_gather 4 RX2 Z) (hr : tc_Rt 3 cX2_gather 4 Z q) : tc_Ok 4 Z 0 (bkX2_gather_0 (tc_At 4 Z) q) := by
  unfold bkX2_gather_0
  refine to_aload_n (pc := 0) X dX2_gather_0 rfl ?_
  refine to_iconst (pc := 1) X dX2_gather_1 (by decide) ?_
  refine pfX2_2 (pc := 2) X wf_RX2_19 dX2_gather_2 ?_
  refine to_aload_n (pc := 5) X dX2_gather_5 rfl ?_
  refine to_iconst (pc := 6) X dX2_gather_6 (by decide) ?_
  refine pfX2_3 (pc := 7) X wf_RX2_23 dX2_gather_7 ?_
  refine to_iconst (pc := 10) X dX2_gather_10 (by decide) ?_
  refine to_istore_n (pc := 11) X dX2_gather_11 rfl (by decide) ?_
  exact to_cut [0, 1, 2, 3] (fun _ _ _ h => h)
def RX2_gather (vs : List tc_V) (S : tc_S) (q : tc_Q) : Prop := ∀ P : Nat → tc_B, (∀ L K S, bkX2_gather_12 P q L K S → P 12 L K S) → (∀ L K S, bkX2_gather_65 P q L K S → P 65 L K S) → (∀ L K S, bkX2_gather_88 P q L K S → P 88 L K S) → (∀ L K S, bkX2_gather_98 P q L K S → P 98 L K S) → bkX2_gather_0 P q (tc_num 0 vs) [] S
theorem metX2_gather : tc_Met yX2_gather (Cond.code yX2_gather cX2_gather 4 none) ({ frames := 3, cells := 0, slots := 0, locals := 69 } : Room) 3 4 RX2_gather := tc_met (rk := 3) (by decide) ⟨rfl, rfl⟩ (fun Z q X hr vs S h => okX2_gather_0 X hr _ _ _ (h (tc_At 4 Z) (okX2_gather_12 X hr) (okX2_gather_65 X hr) (okX2_gather_88 X hr) (okX2_gather_98 X hr)))
theorem cvX2_gather {R : Room} {cc : ByteArray} {nL pc ix : Nat} {own : String} {Z : tc_Z} {k : tc_B} (X : tc_Cx R cc nL own Z) (h1 : Cond.methodLink own ix yX2_gather ∈ tc_tb) (hR : 3 + 1 ≤ R.frames ∧ 8 + (4 + 11) + 69 ≤ R.locals) (hd : decode cc pc = .ok (.invokevirtual ix, 3)) (h : tc_Ok nL Z (pc + 3) k) : tc_Ok nL Z pc (tb_callV 2 4 2 RX2_gather k) := to_callV X metX2_gather rfl ⟨rfl, rfl⟩ hR h1 wi_X2_gather wl_X2_gather wn_RX2 wc_X2_gather ⟨by decide +kernel, by decide +kernel, by decide +kernel, by decide +kernel⟩ hd h
def bkX8_missOf_12 (P : Nat → tc_B) (q : tc_Q) : tc_B := tb_istore 3 <| tb_aload 0 <| tb_gets (tc_R 1 0) <| tb_acmpR (tb_aload 0 <| tb_gets (tc_R 1 1) <| tb_acmpR (tb_aload 0 <| tb_gets (tc_R 1 3) <| tb_acmpR (tb_iload 3 <| tb_i 50 <| tb_icmp_ne (tb_iload 3 <| tb_i 50 <| tb_icmp_le (tb_i 0 <| tb_iret q) <| tb_i 100 <| tb_iret q) <| tb_i 50 <| tb_iret q) <| tb_iload 3 <| tb_iload 3 <| tb_imul <| tb_iload 3 <| tb_imul <| tb_iret q) <| tb_iload 3 <| tb_iret q) <| tb_iload 3 <| tb_iload 3 <| tb_imul <| tb_iret q
theorem okX8_missOf_12 {Z : tc_Z} {q : tc_Q} (X : tc_Cx ({ frames := 0, cells := 0, slots := 0, locals := 0 } : Room) cX8_missOf 4 RX8 Z) (hr : tc_Rt 0 cX8_missOf 4 Z q) : tc_Ok 4 Z 12 (bkX8_missOf_12 (tc_At 4 Z) q) := by
  unfold bkX8_missOf_12
  refine to_istore_n (pc := 12) X dX8_missOf_12 rfl (by decide) ?_
  refine to_aload_n (pc := 13) X dX8_missOf_13 rfl ?_
  refine to_gets (pc := 14) X (List.mem_of_getElem? (i := 0) rfl) wf_RX8_5 dX8_missOf_14 ?_
  refine to_acmpR (pc := 17) (tgt := 24) X dX8_missOf_17 (by decide) ?_ ?_
  · refine to_aload_n (pc := 24) X dX8_missOf_24 rfl ?_
    refine to_gets (pc := 25) X (List.mem_of_getElem? (i := 1) rfl) wf_RX8_9 dX8_missOf_25 ?_
    refine to_acmpR (pc := 28) (tgt := 33) X dX8_missOf_28 (by decide) ?_ ?_
    · refine to_aload_n (pc := 33) X dX8_missOf_33 rfl ?_
      refine to_gets (pc := 34) X (List.mem_of_getElem? (i := 3) rfl) wf_RX8_15 dX8_missOf_34 ?_
      refine to_acmpR (pc := 37) (tgt := 46) X dX8_missOf_37 (by decide) ?_ ?_
      · refine to_iload_n (pc := 46) X dX8_missOf_46 rfl ?_
        refine to_bipush (pc := 47) X dX8_missOf_47 (by decide) ?_
        refine to_icmp_ne (pc := 49) (tgt := 55) X dX8_missOf_49 (by decide) ?_ ?_
        · refine to_iload_n (pc := 55) X dX8_missOf_55 rfl ?_
          refine to_bipush (pc := 56) X dX8_missOf_56 (by decide) ?_
          refine to_icmp_le (pc := 58) (tgt := 66) X dX8_missOf_58 (by decide) ?_ ?_
          · refine to_iconst (pc := 66) X dX8_missOf_66 (by decide) ?_
            exact to_iret (pc := 67) hr dX8_missOf_67
          refine to_bipush (pc := 61) X dX8_missOf_61 (by decide) ?_
          refine to_goto (pc := 63) (tgt := 67) X dX8_missOf_63 (by decide) ?_
          exact to_iret (pc := 67) hr dX8_missOf_67
        refine to_bipush (pc := 52) X dX8_missOf_52 (by decide) ?_
        exact to_iret (pc := 54) hr dX8_missOf_54
      refine to_iload_n (pc := 40) X dX8_missOf_40 rfl ?_
      refine to_iload_n (pc := 41) X dX8_missOf_41 rfl ?_
      refine to_imul (pc := 42) X dX8_missOf_42 ?_
      refine to_iload_n (pc := 43) X dX8_missOf_43 rfl ?_
      refine to_imul (pc := 44) X dX8_missOf_44 ?_
      exact to_iret (pc := 45) hr dX8_missOf_45
    refine to_iload_n (pc := 31) X dX8_missOf_31 rfl ?_
    exact to_iret (pc := 32) hr dX8_missOf_32
  refine to_iload_n (pc := 20) X dX8_missOf_20 rfl ?_
  refine to_iload_n (pc := 21) X dX8_missOf_21 rfl ?_
  refine to_imul (pc := 22) X dX8_missOf_22 ?_
  exact to_iret (pc := 23) hr dX8_missOf_23
def bkX8_missOf_0 (P : Nat → tc_B) (q : tc_Q) : tc_B := tb_iload 2 <| tb_if_eq (tb_iload 1 <| tb_cut (P 12) [0]) <| tb_i 100 <| tb_iload 1 <| tb_isub <| tb_cut (P 12) [0]
theorem okX8_missOf_0 {Z : tc_Z} {q : tc_Q} (X : tc_Cx ({ frames := 0, cells := 0, slots := 0, locals := 0 } : Room) cX8_missOf 4 RX8 Z) (hr : tc_Rt 0 cX8_missOf 4 Z q) : tc_Ok 4 Z 0 (bkX8_missOf_0 (tc_At 4 Z) q) := by
  unfold bkX8_missOf_0
  refine to_iload_n (pc := 0) X dX8_missOf_0 rfl ?_
  refine to_if_eq (pc := 1) (tgt := 11) X dX8_missOf_1 (by decide) ?_ ?_
  · refine to_iload_n (pc := 11) X dX8_missOf_11 rfl ?_
    exact to_cut [0] (fun _ _ _ h => h)
  refine to_bipush (pc := 4) X dX8_missOf_4 (by decide) ?_
  refine to_iload_n (pc := 6) X dX8_missOf_6 rfl ?_
  refine to_isub (pc := 7) X dX8_missOf_7 ?_
  refine to_goto (pc := 8) (tgt := 12) X dX8_missOf_8 (by decide) ?_
  exact to_cut [0] (fun _ _ _ h => h)
def RX8_missOf (vs : List tc_V) (S : tc_S) (q : tc_Q) : Prop := ∀ P : Nat → tc_B, (∀ L K S, bkX8_missOf_12 P q L K S → P 12 L K S) → bkX8_missOf_0 P q (tc_num 0 vs) [] S
theorem metX8_missOf : tc_Met yX8_missOf (Cond.code yX8_missOf cX8_missOf 4 (some .int)) ({ frames := 0, cells := 0, slots := 0, locals := 0 } : Room) 0 4 RX8_missOf := tc_met (rk := 0) (by decide) ⟨rfl, rfl⟩ (fun Z q X hr vs S h => okX8_missOf_0 X hr _ _ _ (h (tc_At 4 Z) (okX8_missOf_12 X hr)))
theorem cvX8_missOf {R : Room} {cc : ByteArray} {nL pc ix : Nat} {own : String} {Z : tc_Z} {k : tc_B} (X : tc_Cx R cc nL own Z) (h1 : Cond.methodLink own ix yX8_missOf ∈ tc_tb) (hR : 0 + 1 ≤ R.frames ∧ 8 + (4 + 11) + 0 ≤ R.locals) (hd : decode cc pc = .ok (.invokevirtual ix, 3)) (h : tc_Ok nL Z (pc + 3) k) : tc_Ok nL Z pc (tb_callE 2 4 1 4 RX8_missOf k) := to_callE X metX8_missOf (Or.inl ⟨rfl, rfl, rfl⟩) ⟨rfl, rfl⟩ hR h1 wi_X8_missOf wl_X8_missOf wn_RX8 wc_X8_missOf ⟨by decide +kernel, by decide +kernel, by decide +kernel, by decide +kernel⟩ hd h
def bkX2_missSum_33 (P : Nat → tc_B) (q : tc_Q) : tc_B := tb_i2l <| tb_ladd <| tb_lstore 2 <| tb_iinc 4 1 <| tb_cut (P 5) [0, 1, 2, 4]
theorem okX2_missSum_33 {Z : tc_Z} {q : tc_Q} (X : tc_Cx ({ frames := 1, cells := 0, slots := 0, locals := 23 } : Room) cX2_missSum 5 RX2 Z) (hr : tc_Rt 2 cX2_missSum 5 Z q) : tc_Ok 5 Z 33 (bkX2_missSum_33 (tc_At 5 Z) q) := by
  unfold bkX2_missSum_33
  refine to_i2l (pc := 33) X dX2_missSum_33 ?_
  refine to_ladd (pc := 34) X dX2_missSum_34 ?_
  refine to_lstore_n (pc := 35) X dX2_missSum_35 rfl (by decide) ?_
  refine to_iinc (pc := 36) X dX2_missSum_36 (by decide) (by decide) ?_
  refine to_goto (pc := 39) (tgt := 5) X dX2_missSum_39 (by decide) ?_
  exact to_cut [0, 1, 2, 4] (fun _ _ _ h => h)
def bkX2_missSum_5 (P : Nat → tc_B) (q : tc_Q) : tc_B := tb_iload 4 <| tb_aload 0 <| tb_getf 2 2 <| tb_icmp_ge (tb_lload 2 <| tb_jret q) <| tb_lload 2 <| tb_aload 1 <| tb_aload 0 <| tb_getf 2 0 <| tb_iload 4 <| tb_iald <| tb_aload 0 <| tb_getf 2 1 <| tb_iload 4 <| tb_zald <| tb_callE 2 4 1 4 RX8_missOf <| bkX2_missSum_33 P q
theorem okX2_missSum_5 {Z : tc_Z} {q : tc_Q} (X : tc_Cx ({ frames := 1, cells := 0, slots := 0, locals := 23 } : Room) cX2_missSum 5 RX2 Z) (hr : tc_Rt 2 cX2_missSum 5 Z q) : tc_Ok 5 Z 5 (bkX2_missSum_5 (tc_At 5 Z) q) := by
  unfold bkX2_missSum_5
  refine to_iload (pc := 5) X dX2_missSum_5 ?_
  refine to_aload_n (pc := 7) X dX2_missSum_7 rfl ?_
  refine gfX2_2 (pc := 8) X wf_RX2_19 dX2_missSum_8 ?_
  refine to_icmp_ge (pc := 11) (tgt := 42) X dX2_missSum_11 (by decide) ?_ ?_
  · refine to_lload_n (pc := 42) X dX2_missSum_42 rfl ?_
    exact to_jret (pc := 43) hr dX2_missSum_43
  refine to_lload_n (pc := 14) X dX2_missSum_14 rfl ?_
  refine to_aload_n (pc := 15) X dX2_missSum_15 rfl ?_
  refine to_aload_n (pc := 16) X dX2_missSum_16 rfl ?_
  refine gfX2_0 (pc := 17) X wf_RX2_9 dX2_missSum_17 ?_
  refine to_iload (pc := 20) X dX2_missSum_20 ?_
  refine to_iald (pc := 22) X dX2_missSum_22 ?_
  refine to_aload_n (pc := 23) X dX2_missSum_23 rfl ?_
  refine gfX2_1 (pc := 24) X wf_RX2_15 dX2_missSum_24 ?_
  refine to_iload (pc := 27) X dX2_missSum_27 ?_
  refine to_zald (pc := 29) X dX2_missSum_29 ?_
  refine cvX8_missOf (pc := 30) X wm_RX2_39 (by decide) dX2_missSum_30 ?_
  exact okX2_missSum_33 X hr
def bkX2_missSum_0 (P : Nat → tc_B) (q : tc_Q) : tc_B := tb_j 0 <| tb_lstore 2 <| tb_i 0 <| tb_istore 4 <| tb_cut (P 5) [0, 1, 2, 4]
theorem okX2_missSum_0 {Z : tc_Z} {q : tc_Q} (X : tc_Cx ({ frames := 1, cells := 0, slots := 0, locals := 23 } : Room) cX2_missSum 5 RX2 Z) (hr : tc_Rt 2 cX2_missSum 5 Z q) : tc_Ok 5 Z 0 (bkX2_missSum_0 (tc_At 5 Z) q) := by
  unfold bkX2_missSum_0
  refine to_lconst (pc := 0) X dX2_missSum_0 (by decide) ?_
  refine to_lstore_n (pc := 1) X dX2_missSum_1 rfl (by decide) ?_
  refine to_iconst (pc := 2) X dX2_missSum_2 (by decide) ?_
  refine to_istore (pc := 3) X dX2_missSum_3 (by decide) ?_
  exact to_cut [0, 1, 2, 4] (fun _ _ _ h => h)
def RX2_missSum (vs : List tc_V) (S : tc_S) (q : tc_Q) : Prop := ∀ P : Nat → tc_B, (∀ L K S, bkX2_missSum_5 P q L K S → P 5 L K S) → bkX2_missSum_0 P q (tc_num 0 vs) [] S
theorem metX2_missSum : tc_Met yX2_missSum (Cond.code yX2_missSum cX2_missSum 5 (some .long)) ({ frames := 1, cells := 0, slots := 0, locals := 23 } : Room) 2 5 RX2_missSum := tc_met (rk := 2) (by decide) ⟨rfl, rfl⟩ (fun Z q X hr vs S h => okX2_missSum_0 X hr _ _ _ (h (tc_At 5 Z) (okX2_missSum_5 X hr)))
theorem cvX2_missSum {R : Room} {cc : ByteArray} {nL pc ix : Nat} {own : String} {Z : tc_Z} {k : tc_B} (X : tc_Cx R cc nL own Z) (h1 : Cond.methodLink own ix yX2_missSum ∈ tc_tb) (hR : 1 + 1 ≤ R.frames ∧ 8 + (5 + 11) + 23 ≤ R.locals) (hd : decode cc pc = .ok (.invokevirtual ix, 3)) (h : tc_Ok nL Z (pc + 3) k) : tc_Ok nL Z pc (tb_callV 1 5 2 RX2_missSum k) := to_callV X metX2_missSum rfl ⟨rfl, rfl⟩ hR h1 wi_X2_missSum wl_X2_missSum wn_RX2 wc_X2_missSum ⟨by decide +kernel, by decide +kernel, by decide +kernel, by decide +kernel⟩ hd h
def bkJ6_compare_7cf53_0 (P : Nat → tc_B) (q : tc_Q) : tc_B := tb_iload 0 <| tb_iload 1 <| tb_icmp_ge (tb_iload 0 <| tb_iload 1 <| tb_icmp_ne (tb_i 1 <| tb_iret q) <| tb_i 0 <| tb_iret q) <| tb_i (-1) <| tb_iret q
theorem okJ6_compare_7cf53_0 {Z : tc_Z} {q : tc_Q} (X : tc_Cx ({ frames := 0, cells := 0, slots := 0, locals := 0 } : Room) cJ6_compare_7cf53 2 RJ6 Z) (hr : tc_Rt 0 cJ6_compare_7cf53 2 Z q) : tc_Ok 2 Z 0 (bkJ6_compare_7cf53_0 (tc_At 2 Z) q) := by
  unfold bkJ6_compare_7cf53_0
  refine to_iload_n (pc := 0) X dJ6_compare_7cf53_0 rfl ?_
  refine to_iload_n (pc := 1) X dJ6_compare_7cf53_1 rfl ?_
  refine to_icmp_ge (pc := 2) (tgt := 9) X dJ6_compare_7cf53_2 (by decide) ?_ ?_
  · refine to_iload_n (pc := 9) X dJ6_compare_7cf53_9 rfl ?_
    refine to_iload_n (pc := 10) X dJ6_compare_7cf53_10 rfl ?_
    refine to_icmp_ne (pc := 11) (tgt := 18) X dJ6_compare_7cf53_11 (by decide) ?_ ?_
    · refine to_iconst (pc := 18) X dJ6_compare_7cf53_18 (by decide) ?_
      exact to_iret (pc := 19) hr dJ6_compare_7cf53_19
    refine to_iconst (pc := 14) X dJ6_compare_7cf53_14 (by decide) ?_
    refine to_goto (pc := 15) (tgt := 19) X dJ6_compare_7cf53_15 (by decide) ?_
    exact to_iret (pc := 19) hr dJ6_compare_7cf53_19
  refine to_iconst (pc := 5) X dJ6_compare_7cf53_5 (by decide) ?_
  refine to_goto (pc := 6) (tgt := 19) X dJ6_compare_7cf53_6 (by decide) ?_
  exact to_iret (pc := 19) hr dJ6_compare_7cf53_19
def RJ6_compare_7cf53 (vs : List tc_V) (S : tc_S) (q : tc_Q) : Prop := ∀ P : Nat → tc_B, bkJ6_compare_7cf53_0 P q (tc_num 0 vs) [] S
theorem metJ6_compare_7cf53 : tc_Met yJ6_compare_7cf53 (Cond.code yJ6_compare_7cf53 cJ6_compare_7cf53 2 (some .int)) ({ frames := 0, cells := 0, slots := 0, locals := 0 } : Room) 0 2 RJ6_compare_7cf53 := tc_met (rk := 0) (by decide) ⟨rfl, rfl⟩ (fun Z q X hr vs S h => okJ6_compare_7cf53_0 X hr _ _ _ (h (tc_At 2 Z)))
theorem cvJ6_compare_7cf53 {R : Room} {cc : ByteArray} {nL pc ix : Nat} {own : String} {Z : tc_Z} {k : tc_B} (X : tc_Cx R cc nL own Z) (h1 : Cond.methodLink own ix yJ6_compare_7cf53 ∈ tc_tb) (hR : 0 + 1 ≤ R.frames ∧ 8 + (2 + 11) + 0 ≤ R.locals) (hd : decode cc pc = .ok (.invokestatic ix, 3)) (h : tc_Ok nL Z (pc + 3) k) : tc_Ok nL Z pc (tb_callS 2 2 RJ6_compare_7cf53 k) := to_callS X metJ6_compare_7cf53 ⟨rfl, rfl⟩ hR h1 ws_J6_compare_7cf53 wn_RJ6 wc_J6_compare_7cf53 ⟨by decide +kernel, by decide +kernel, by decide +kernel⟩ hd h
def bkX2_halvesWellRanked_65 (P : Nat → tc_B) (q : tc_Q) : tc_B := tb_iinc 4 1 <| tb_cut (P 15) [0, 1, 3, 4]
theorem okX2_halvesWellRanked_65 {Z : tc_Z} {q : tc_Q} (X : tc_Cx ({ frames := 1, cells := 0, slots := 0, locals := 21 } : Room) cX2_halvesWellRanked 5 RX2 Z) (hr : tc_Rt 2 cX2_halvesWellRanked 5 Z q) : tc_Ok 5 Z 65 (bkX2_halvesWellRanked_65 (tc_At 5 Z) q) := by
  unfold bkX2_halvesWellRanked_65
  refine to_iinc (pc := 65) X dX2_halvesWellRanked_65 (by decide) (by decide) ?_
  refine to_goto (pc := 68) (tgt := 15) X dX2_halvesWellRanked_68 (by decide) ?_
  exact to_cut [0, 1, 3, 4] (fun _ _ _ h => h)
def bkX2_halvesWellRanked_61 (P : Nat → tc_B) (q : tc_Q) : tc_B := tb_iadd <| tb_i2l <| tb_ladd <| tb_lstore 1 <| tb_cut (P 65) [0, 1, 3, 4]
theorem okX2_halvesWellRanked_61 {Z : tc_Z} {q : tc_Q} (X : tc_Cx ({ frames := 1, cells := 0, slots := 0, locals := 21 } : Room) cX2_halvesWellRanked 5 RX2 Z) (hr : tc_Rt 2 cX2_halvesWellRanked 5 Z q) : tc_Ok 5 Z 61 (bkX2_halvesWellRanked_61 (tc_At 5 Z) q) := by
  unfold bkX2_halvesWellRanked_61
  refine to_iadd (pc := 61) X dX2_halvesWellRanked_61 ?_
  refine to_i2l (pc := 62) X dX2_halvesWellRanked_62 ?_
  refine to_ladd (pc := 63) X dX2_halvesWellRanked_63 ?_
  refine to_lstore_n (pc := 64) X dX2_halvesWellRanked_64 rfl (by decide) ?_
  exact to_cut [0, 1, 3, 4] (fun _ _ _ h => h)
def bkX2_halvesWellRanked_15 (P : Nat → tc_B) (q : tc_Q) : tc_B := tb_iload 4 <| tb_aload 0 <| tb_getf 2 2 <| tb_icmp_ge (tb_iinc 3 1 <| tb_cut (P 4) [0, 1, 3]) <| tb_aload 0 <| tb_getf 2 1 <| tb_iload 3 <| tb_zald <| tb_if_eq (tb_cut (P 65) [0, 1, 3, 4]) <| tb_aload 0 <| tb_getf 2 1 <| tb_iload 4 <| tb_zald <| tb_if_ne (tb_cut (P 65) [0, 1, 3, 4]) <| tb_lload 1 <| tb_i 1 <| tb_aload 0 <| tb_getf 2 0 <| tb_iload 3 <| tb_iald <| tb_aload 0 <| tb_getf 2 0 <| tb_iload 4 <| tb_iald <| tb_callS 2 2 RJ6_compare_7cf53 <| bkX2_halvesWellRanked_61 P q
theorem okX2_halvesWellRanked_15 {Z : tc_Z} {q : tc_Q} (X : tc_Cx ({ frames := 1, cells := 0, slots := 0, locals := 21 } : Room) cX2_halvesWellRanked 5 RX2 Z) (hr : tc_Rt 2 cX2_halvesWellRanked 5 Z q) : tc_Ok 5 Z 15 (bkX2_halvesWellRanked_15 (tc_At 5 Z) q) := by
  unfold bkX2_halvesWellRanked_15
  refine to_iload (pc := 15) X dX2_halvesWellRanked_15 ?_
  refine to_aload_n (pc := 17) X dX2_halvesWellRanked_17 rfl ?_
  refine gfX2_2 (pc := 18) X wf_RX2_19 dX2_halvesWellRanked_18 ?_
  refine to_icmp_ge (pc := 21) (tgt := 71) X dX2_halvesWellRanked_21 (by decide) ?_ ?_
  · refine to_iinc (pc := 71) X dX2_halvesWellRanked_71 (by decide) (by decide) ?_
    refine to_goto (pc := 74) (tgt := 4) X dX2_halvesWellRanked_74 (by decide) ?_
    exact to_cut [0, 1, 3] (fun _ _ _ h => h)
  refine to_aload_n (pc := 24) X dX2_halvesWellRanked_24 rfl ?_
  refine gfX2_1 (pc := 25) X wf_RX2_15 dX2_halvesWellRanked_25 ?_
  refine to_iload_n (pc := 28) X dX2_halvesWellRanked_28 rfl ?_
  refine to_zald (pc := 29) X dX2_halvesWellRanked_29 ?_
  refine to_if_eq (pc := 30) (tgt := 65) X dX2_halvesWellRanked_30 (by decide) ?_ ?_
  · exact to_cut [0, 1, 3, 4] (fun _ _ _ h => h)
  refine to_aload_n (pc := 33) X dX2_halvesWellRanked_33 rfl ?_
  refine gfX2_1 (pc := 34) X wf_RX2_15 dX2_halvesWellRanked_34 ?_
  refine to_iload (pc := 37) X dX2_halvesWellRanked_37 ?_
  refine to_zald (pc := 39) X dX2_halvesWellRanked_39 ?_
  refine to_if_ne (pc := 40) (tgt := 65) X dX2_halvesWellRanked_40 (by decide) ?_ ?_
  · exact to_cut [0, 1, 3, 4] (fun _ _ _ h => h)
  refine to_lload_n (pc := 43) X dX2_halvesWellRanked_43 rfl ?_
  refine to_iconst (pc := 44) X dX2_halvesWellRanked_44 (by decide) ?_
  refine to_aload_n (pc := 45) X dX2_halvesWellRanked_45 rfl ?_
  refine gfX2_0 (pc := 46) X wf_RX2_9 dX2_halvesWellRanked_46 ?_
  refine to_iload_n (pc := 49) X dX2_halvesWellRanked_49 rfl ?_
  refine to_iald (pc := 50) X dX2_halvesWellRanked_50 ?_
  refine to_aload_n (pc := 51) X dX2_halvesWellRanked_51 rfl ?_
  refine gfX2_0 (pc := 52) X wf_RX2_9 dX2_halvesWellRanked_52 ?_
  refine to_iload (pc := 55) X dX2_halvesWellRanked_55 ?_
  refine to_iald (pc := 57) X dX2_halvesWellRanked_57 ?_
  refine cvJ6_compare_7cf53 (pc := 58) X wm_RX2_45 (by decide) dX2_halvesWellRanked_58 ?_
  exact okX2_halvesWellRanked_61 X hr
def bkX2_halvesWellRanked_4 (P : Nat → tc_B) (q : tc_Q) : tc_B := tb_iload 3 <| tb_aload 0 <| tb_getf 2 2 <| tb_icmp_ge (tb_lload 1 <| tb_jret q) <| tb_i 0 <| tb_istore 4 <| tb_cut (P 15) [0, 1, 3, 4]
theorem okX2_halvesWellRanked_4 {Z : tc_Z} {q : tc_Q} (X : tc_Cx ({ frames := 1, cells := 0, slots := 0, locals := 21 } : Room) cX2_halvesWellRanked 5 RX2 Z) (hr : tc_Rt 2 cX2_halvesWellRanked 5 Z q) : tc_Ok 5 Z 4 (bkX2_halvesWellRanked_4 (tc_At 5 Z) q) := by
  unfold bkX2_halvesWellRanked_4
  refine to_iload_n (pc := 4) X dX2_halvesWellRanked_4 rfl ?_
  refine to_aload_n (pc := 5) X dX2_halvesWellRanked_5 rfl ?_
  refine gfX2_2 (pc := 6) X wf_RX2_19 dX2_halvesWellRanked_6 ?_
  refine to_icmp_ge (pc := 9) (tgt := 77) X dX2_halvesWellRanked_9 (by decide) ?_ ?_
  · refine to_lload_n (pc := 77) X dX2_halvesWellRanked_77 rfl ?_
    exact to_jret (pc := 78) hr dX2_halvesWellRanked_78
  refine to_iconst (pc := 12) X dX2_halvesWellRanked_12 (by decide) ?_
  refine to_istore (pc := 13) X dX2_halvesWellRanked_13 (by decide) ?_
  exact to_cut [0, 1, 3, 4] (fun _ _ _ h => h)
def bkX2_halvesWellRanked_0 (P : Nat → tc_B) (q : tc_Q) : tc_B := tb_j 0 <| tb_lstore 1 <| tb_i 0 <| tb_istore 3 <| tb_cut (P 4) [0, 1, 3]
theorem okX2_halvesWellRanked_0 {Z : tc_Z} {q : tc_Q} (X : tc_Cx ({ frames := 1, cells := 0, slots := 0, locals := 21 } : Room) cX2_halvesWellRanked 5 RX2 Z) (hr : tc_Rt 2 cX2_halvesWellRanked 5 Z q) : tc_Ok 5 Z 0 (bkX2_halvesWellRanked_0 (tc_At 5 Z) q) := by
  unfold bkX2_halvesWellRanked_0
  refine to_lconst (pc := 0) X dX2_halvesWellRanked_0 (by decide) ?_
  refine to_lstore_n (pc := 1) X dX2_halvesWellRanked_1 rfl (by decide) ?_
  refine to_iconst (pc := 2) X dX2_halvesWellRanked_2 (by decide) ?_
  refine to_istore_n (pc := 3) X dX2_halvesWellRanked_3 rfl (by decide) ?_
  exact to_cut [0, 1, 3] (fun _ _ _ h => h)
def RX2_halvesWellRanked (vs : List tc_V) (S : tc_S) (q : tc_Q) : Prop := ∀ P : Nat → tc_B, (∀ L K S, bkX2_halvesWellRanked_4 P q L K S → P 4 L K S) → (∀ L K S, bkX2_halvesWellRanked_15 P q L K S → P 15 L K S) → (∀ L K S, bkX2_halvesWellRanked_65 P q L K S → P 65 L K S) → bkX2_halvesWellRanked_0 P q (tc_num 0 vs) [] S
theorem metX2_halvesWellRanked : tc_Met yX2_halvesWellRanked (Cond.code yX2_halvesWellRanked cX2_halvesWellRanked 5 (some .long)) ({ frames := 1, cells := 0, slots := 0, locals := 21 } : Room) 2 5 RX2_halvesWellRanked := tc_met (rk := 2) (by decide) ⟨rfl, rfl⟩ (fun Z q X hr vs S h => okX2_halvesWellRanked_0 X hr _ _ _ (h (tc_At 5 Z) (okX2_halvesWellRanked_4 X hr) (okX2_halvesWellRanked_15 X hr) (okX2_halvesWellRanked_65 X hr)))
theorem cvX2_halvesWellRanked {R : Room} {cc : ByteArray} {nL pc ix : Nat} {own : String} {Z : tc_Z} {k : tc_B} (X : tc_Cx R cc nL own Z) (h1 : Cond.methodLink own ix yX2_halvesWellRanked ∈ tc_tb) (hR : 1 + 1 ≤ R.frames ∧ 8 + (5 + 11) + 21 ≤ R.locals) (hd : decode cc pc = .ok (.invokevirtual ix, 3)) (h : tc_Ok nL Z (pc + 3) k) : tc_Ok nL Z pc (tb_callV 0 5 2 RX2_halvesWellRanked k) := to_callV X metX2_halvesWellRanked rfl ⟨rfl, rfl⟩ hR h1 wi_X2_halvesWellRanked wl_X2_halvesWellRanked wn_RX2 wc_X2_halvesWellRanked ⟨by decide +kernel, by decide +kernel, by decide +kernel, by decide +kernel⟩ hd h
def bkX3_greatest_0 (P : Nat → tc_B) (q : tc_Q) : tc_B := tb_iload 1 <| tb_if_ne (tb_iload 1 <| tb_i 1 <| tb_icmp_ne (tb_aload 0 <| tb_getE 2 6 (fun i => tc_I ([100, 0, 0, 0, 0, 0].getD i 0)) <| tb_iret q) <| tb_aload 0 <| tb_getE 2 6 (fun i => tc_I ([39, 39, 0, 0, 0, 9].getD i 0)) <| tb_iret q) <| tb_aload 0 <| tb_getE 2 6 (fun i => tc_I ([3, 3, 39, 39, 39, 3].getD i 0)) <| tb_iret q
theorem okX3_greatest_0 {Z : tc_Z} {q : tc_Q} (X : tc_Cx ({ frames := 0, cells := 0, slots := 0, locals := 0 } : Room) cX3_greatest 2 RX3 Z) (hr : tc_Rt 0 cX3_greatest 2 Z q) : tc_Ok 2 Z 0 (bkX3_greatest_0 (tc_At 2 Z) q) := by
  unfold bkX3_greatest_0
  refine to_iload_n (pc := 0) X dX3_greatest_0 rfl ?_
  refine to_if_ne (pc := 1) (tgt := 11) X dX3_greatest_1 (by decide) ?_ ?_
  · refine to_iload_n (pc := 11) X dX3_greatest_11 rfl ?_
    refine to_iconst (pc := 12) X dX3_greatest_12 (by decide) ?_
    refine to_icmp_ne (pc := 13) (tgt := 23) X dX3_greatest_13 (by decide) ?_ ?_
    · refine to_aload_n (pc := 23) X dX3_greatest_23 rfl ?_
      refine to_getE (pc := 24) X (List.mem_of_getElem? (i := 6) rfl) wf_RX3_57 dX3_greatest_24 ?_
      exact to_iret (pc := 27) hr dX3_greatest_27
    refine to_aload_n (pc := 16) X dX3_greatest_16 rfl ?_
    refine to_getE (pc := 17) X (List.mem_of_getElem? (i := 5) rfl) wf_RX3_54 dX3_greatest_17 ?_
    refine to_goto (pc := 20) (tgt := 27) X dX3_greatest_20 (by decide) ?_
    exact to_iret (pc := 27) hr dX3_greatest_27
  refine to_aload_n (pc := 4) X dX3_greatest_4 rfl ?_
  refine to_getE (pc := 5) X (List.mem_of_getElem? (i := 4) rfl) wf_RX3_51 dX3_greatest_5 ?_
  refine to_goto (pc := 8) (tgt := 27) X dX3_greatest_8 (by decide) ?_
  exact to_iret (pc := 27) hr dX3_greatest_27
def RX3_greatest (vs : List tc_V) (S : tc_S) (q : tc_Q) : Prop := ∀ P : Nat → tc_B, bkX3_greatest_0 P q (tc_num 0 vs) [] S
theorem metX3_greatest : tc_Met yX3_greatest (Cond.code yX3_greatest cX3_greatest 2 (some .int)) ({ frames := 0, cells := 0, slots := 0, locals := 0 } : Room) 0 2 RX3_greatest := tc_met (rk := 0) (by decide) ⟨rfl, rfl⟩ (fun Z q X hr vs S h => okX3_greatest_0 X hr _ _ _ (h (tc_At 2 Z)))
theorem cvX3_greatest {R : Room} {cc : ByteArray} {nL pc ix : Nat} {own : String} {Z : tc_Z} {k : tc_B} (X : tc_Cx R cc nL own Z) (h1 : Cond.methodLink own ix yX3_greatest ∈ tc_tb) (hR : 0 + 1 ≤ R.frames ∧ 8 + (2 + 11) + 0 ≤ R.locals) (hd : decode cc pc = .ok (.invokevirtual ix, 3)) (h : tc_Ok nL Z (pc + 3) k) : tc_Ok nL Z pc (tb_callE 1 2 2 6 RX3_greatest k) := to_callE X metX3_greatest (Or.inr (Or.inl ⟨rfl, rfl, rfl⟩)) ⟨rfl, rfl⟩ hR h1 wi_X3_greatest wl_X3_greatest wn_RX3 wc_X3_greatest ⟨by decide +kernel, by decide +kernel, by decide +kernel, by decide +kernel⟩ hd h
def bkX4_pick_0 (P : Nat → tc_B) (q : tc_Q) : tc_B := tb_iload 1 <| tb_if_ne (tb_aload 0 <| tb_getf 3 1 <| tb_jret q) <| tb_aload 0 <| tb_getf 3 0 <| tb_jret q
theorem okX4_pick_0 {Z : tc_Z} {q : tc_Q} (X : tc_Cx ({ frames := 0, cells := 0, slots := 0, locals := 0 } : Room) cX4_pick 2 RX4 Z) (hr : tc_Rt 2 cX4_pick 2 Z q) : tc_Ok 2 Z 0 (bkX4_pick_0 (tc_At 2 Z) q) := by
  unfold bkX4_pick_0
  refine to_iload_n (pc := 0) X dX4_pick_0 rfl ?_
  refine to_if_ne (pc := 1) (tgt := 11) X dX4_pick_1 (by decide) ?_ ?_
  · refine to_aload_n (pc := 11) X dX4_pick_11 rfl ?_
    refine gfX4_1 (pc := 12) X wf_RX4_13 dX4_pick_12 ?_
    exact to_jret (pc := 15) hr dX4_pick_15
  refine to_aload_n (pc := 4) X dX4_pick_4 rfl ?_
  refine gfX4_0 (pc := 5) X wf_RX4_7 dX4_pick_5 ?_
  refine to_goto (pc := 8) (tgt := 15) X dX4_pick_8 (by decide) ?_
  exact to_jret (pc := 15) hr dX4_pick_15
def RX4_pick (vs : List tc_V) (S : tc_S) (q : tc_Q) : Prop := ∀ P : Nat → tc_B, bkX4_pick_0 P q (tc_num 0 vs) [] S
theorem metX4_pick : tc_Met yX4_pick (Cond.code yX4_pick cX4_pick 2 (some .long)) ({ frames := 0, cells := 0, slots := 0, locals := 0 } : Room) 2 2 RX4_pick := tc_met (rk := 2) (by decide) ⟨rfl, rfl⟩ (fun Z q X hr vs S h => okX4_pick_0 X hr _ _ _ (h (tc_At 2 Z)))
theorem cvX4_pick {R : Room} {cc : ByteArray} {nL pc ix : Nat} {own : String} {Z : tc_Z} {k : tc_B} (X : tc_Cx R cc nL own Z) (h1 : Cond.methodLink own ix yX4_pick ∈ tc_tb) (hR : 0 + 1 ≤ R.frames ∧ 8 + (2 + 11) + 0 ≤ R.locals) (hd : decode cc pc = .ok (.invokevirtual ix, 3)) (h : tc_Ok nL Z (pc + 3) k) : tc_Ok nL Z pc (tb_callV 1 2 3 RX4_pick k) := to_callV X metX4_pick rfl ⟨rfl, rfl⟩ hR h1 wi_X4_pick wl_X4_pick wn_RX4 wc_X4_pick ⟨by decide +kernel, by decide +kernel, by decide +kernel, by decide +kernel⟩ hd h
