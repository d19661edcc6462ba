def bkX0_binOf_2 (P : Nat → tc_B) (q : tc_Q) : tc_B := tb_iload 2 <| tb_aload 0 <| tb_getf 0 1 <| tb_icmp_ge (tb_iload 2 <| tb_iret q) <| tb_aload 0 <| tb_getf 0 0 <| tb_iload 2 <| tb_iald <| tb_iload 1 <| tb_icmp_gt (tb_iload 2 <| tb_iret q) <| tb_iinc 2 1 <| tb_cut (P 2) [0, 1, 2]
theorem okX0_binOf_2 {Z : tc_Z} {q : tc_Q} (X : tc_Cx ({ frames := 0, cells := 0, slots := 0, locals := 0 } : Room) cX0_binOf 3 RX0 Z) (hr : tc_Rt 0 cX0_binOf 3 Z q) : tc_Ok 3 Z 2 (bkX0_binOf_2 (tc_At 3 Z) q) := by
  unfold bkX0_binOf_2
  refine to_iload_n (pc := 2) X dX0_binOf_2 rfl ?_
  refine to_aload_n (pc := 3) X dX0_binOf_3 rfl ?_
  refine gfX0_1 (pc := 4) X wf_RX0_15 dX0_binOf_4 ?_
  refine to_icmp_ge (pc := 7) (tgt := 26) X dX0_binOf_7 (by decide) ?_ ?_
  · refine to_iload_n (pc := 26) X dX0_binOf_26 rfl ?_
    exact to_iret (pc := 27) hr dX0_binOf_27
  refine to_aload_n (pc := 10) X dX0_binOf_10 rfl ?_
  refine gfX0_0 (pc := 11) X wf_RX0_9 dX0_binOf_11 ?_
  refine to_iload_n (pc := 14) X dX0_binOf_14 rfl ?_
  refine to_iald (pc := 15) X dX0_binOf_15 ?_
  refine to_iload_n (pc := 16) X dX0_binOf_16 rfl ?_
  refine to_icmp_gt (pc := 17) (tgt := 26) X dX0_binOf_17 (by decide) ?_ ?_
  · refine to_iload_n (pc := 26) X dX0_binOf_26 rfl ?_
    exact to_iret (pc := 27) hr dX0_binOf_27
  refine to_iinc (pc := 20) X dX0_binOf_20 (by decide) (by decide) ?_
  refine to_goto (pc := 23) (tgt := 2) X dX0_binOf_23 (by decide) ?_
  exact to_cut [0, 1, 2] (fun _ _ _ h => h)
def bkX0_binOf_0 (P : Nat → tc_B) (q : tc_Q) : tc_B := tb_i 0 <| tb_istore 2 <| tb_cut (P 2) [0, 1, 2]
theorem okX0_binOf_0 {Z : tc_Z} {q : tc_Q} (X : tc_Cx ({ frames := 0, cells := 0, slots := 0, locals := 0 } : Room) cX0_binOf 3 RX0 Z) (hr : tc_Rt 0 cX0_binOf 3 Z q) : tc_Ok 3 Z 0 (bkX0_binOf_0 (tc_At 3 Z) q) := by
  unfold bkX0_binOf_0
  refine to_iconst (pc := 0) X dX0_binOf_0 (by decide) ?_
  refine to_istore_n (pc := 1) X dX0_binOf_1 rfl (by decide) ?_
  exact to_cut [0, 1, 2] (fun _ _ _ h => h)
def RX0_binOf (vs : List tc_V) (S : tc_S) (q : tc_Q) : Prop := ∀ P : Nat → tc_B, (∀ L K S, bkX0_binOf_2 P q L K S → P 2 L K S) → bkX0_binOf_0 P q (tc_num 0 vs) [] S
theorem metX0_binOf : tc_Met yX0_binOf (Cond.code yX0_binOf cX0_binOf 3 (some .int)) ({ frames := 0, cells := 0, slots := 0, locals := 0 } : Room) 0 3 RX0_binOf := tc_met (rk := 0) (by decide) ⟨rfl, rfl⟩ (fun Z q X hr vs S h => okX0_binOf_0 X hr _ _ _ (h (tc_At 3 Z) (okX0_binOf_2 X hr)))
theorem cvX0_binOf {R : Room} {cc : ByteArray} {nL pc ix : Nat} {own : String} {Z : tc_Z} {k : tc_B} (X : tc_Cx R cc nL own Z) (h1 : Cond.methodLink own ix yX0_binOf ∈ tc_tb) (hR : 0 + 1 ≤ R.frames ∧ 8 + (3 + 11) + 0 ≤ R.locals) (hd : decode cc pc = .ok (.invokevirtual ix, 3)) (h : tc_Ok nL Z (pc + 3) k) : tc_Ok nL Z pc (tb_callV 1 3 0 RX0_binOf k) := to_callV X metX0_binOf rfl ⟨rfl, rfl⟩ hR h1 wi_X0_binOf wl_X0_binOf wn_RX0 wc_X0_binOf ⟨by decide +kernel, by decide +kernel, by decide +kernel, by decide +kernel⟩ hd h
def bkX0_removeCut_12 (P : Nat → tc_B) (q : tc_Q) : tc_B := tb_iload 2 <| tb_aload 0 <| tb_getf 0 1 <| tb_icmp_ge (tb_vret q) <| tb_aload 0 <| tb_getf 0 0 <| tb_iload 2 <| tb_aload 0 <| tb_getf 0 0 <| tb_iload 2 <| tb_i 1 <| tb_iadd <| tb_iald <| tb_iast <| tb_iinc 2 1 <| tb_cut (P 12) [0, 2]
theorem okX0_removeCut_12 {Z : tc_Z} {q : tc_Q} (X : tc_Cx ({ frames := 0, cells := 0, slots := 0, locals := 0 } : Room) cX0_removeCut 3 RX0 Z) (hr : tc_Rt 3 cX0_removeCut 3 Z q) : tc_Ok 3 Z 12 (bkX0_removeCut_12 (tc_At 3 Z) q) := by
  unfold bkX0_removeCut_12
  refine to_iload_n (pc := 12) X dX0_removeCut_12 rfl ?_
  refine to_aload_n (pc := 13) X dX0_removeCut_13 rfl ?_
  refine gfX0_1 (pc := 14) X wf_RX0_15 dX0_removeCut_14 ?_
  refine to_icmp_ge (pc := 17) (tgt := 40) X dX0_removeCut_17 (by decide) ?_ ?_
  · exact to_vret (pc := 40) hr dX0_removeCut_40
  refine to_aload_n (pc := 20) X dX0_removeCut_20 rfl ?_
  refine gfX0_0 (pc := 21) X wf_RX0_9 dX0_removeCut_21 ?_
  refine to_iload_n (pc := 24) X dX0_removeCut_24 rfl ?_
  refine to_aload_n (pc := 25) X dX0_removeCut_25 rfl ?_
  refine gfX0_0 (pc := 26) X wf_RX0_9 dX0_removeCut_26 ?_
  refine to_iload_n (pc := 29) X dX0_removeCut_29 rfl ?_
  refine to_iconst (pc := 30) X dX0_removeCut_30 (by decide) ?_
  refine to_iadd (pc := 31) X dX0_removeCut_31 ?_
  refine to_iald (pc := 32) X dX0_removeCut_32 ?_
  refine to_iast (pc := 33) X dX0_removeCut_33 ?_
  refine to_iinc (pc := 34) X dX0_removeCut_34 (by decide) (by decide) ?_
  refine to_goto (pc := 37) (tgt := 12) X dX0_removeCut_37 (by decide) ?_
  exact to_cut [0, 2] (fun _ _ _ h => h)
def bkX0_removeCut_0 (P : Nat → tc_B) (q : tc_Q) : tc_B := tb_aload 0 <| tb_dup <| tb_getf 0 1 <| tb_i 1 <| tb_isub <| tb_putI 0 1 <| tb_iload 1 <| tb_istore 2 <| tb_cut (P 12) [0, 2]
theorem okX0_removeCut_0 {Z : tc_Z} {q : tc_Q} (X : tc_Cx ({ frames := 0, cells := 0, slots := 0, locals := 0 } : Room) cX0_removeCut 3 RX0 Z) (hr : tc_Rt 3 cX0_removeCut 3 Z q) : tc_Ok 3 Z 0 (bkX0_removeCut_0 (tc_At 3 Z) q) := by
  unfold bkX0_removeCut_0
  refine to_aload_n (pc := 0) X dX0_removeCut_0 rfl ?_
  refine to_dup (pc := 1) X dX0_removeCut_1 ?_
  refine gfX0_1 (pc := 2) X wf_RX0_15 dX0_removeCut_2 ?_
  refine to_iconst (pc := 5) X dX0_removeCut_5 (by decide) ?_
  refine to_isub (pc := 6) X dX0_removeCut_6 ?_
  refine pfX0_1 (pc := 7) X wf_RX0_15 dX0_removeCut_7 ?_
  refine to_iload_n (pc := 10) X dX0_removeCut_10 rfl ?_
  refine to_istore_n (pc := 11) X dX0_removeCut_11 rfl (by decide) ?_
  exact to_cut [0, 2] (fun _ _ _ h => h)
def RX0_removeCut (vs : List tc_V) (S : tc_S) (q : tc_Q) : Prop := ∀ P : Nat → tc_B, (∀ L K S, bkX0_removeCut_12 P q L K S → P 12 L K S) → bkX0_removeCut_0 P q (tc_num 0 vs) [] S
theorem metX0_removeCut : tc_Met yX0_removeCut (Cond.code yX0_removeCut cX0_removeCut 3 none) ({ frames := 0, cells := 0, slots := 0, locals := 0 } : Room) 3 3 RX0_removeCut := tc_met (rk := 3) (by decide) ⟨rfl, rfl⟩ (fun Z q X hr vs S h => okX0_removeCut_0 X hr _ _ _ (h (tc_At 3 Z) (okX0_removeCut_12 X hr)))
theorem cvX0_removeCut {R : Room} {cc : ByteArray} {nL pc ix : Nat} {own : String} {Z : tc_Z} {k : tc_B} (X : tc_Cx R cc nL own Z) (h1 : Cond.methodLink own ix yX0_removeCut ∈ tc_tb) (hR : 0 + 1 ≤ R.frames ∧ 8 + (3 + 11) + 0 ≤ R.locals) (hd : decode cc pc = .ok (.invokevirtual ix, 3)) (h : tc_Ok nL Z (pc + 3) k) : tc_Ok nL Z pc (tb_callV 1 3 0 RX0_removeCut k) := to_callV X metX0_removeCut rfl ⟨rfl, rfl⟩ hR h1 wi_X0_removeCut wl_X0_removeCut wn_RX0 wc_X0_removeCut ⟨by decide +kernel, by decide +kernel, by decide +kernel, by decide +kernel⟩ hd h
def bkX0_insertCut_5 (P : Nat → tc_B) (q : tc_Q) : tc_B := tb_iload 3 <| tb_iload 1 <| tb_icmp_le (tb_aload 0 <| tb_getf 0 0 <| tb_iload 1 <| tb_iload 2 <| tb_iast <| tb_aload 0 <| tb_dup <| tb_getf 0 1 <| tb_i 1 <| tb_iadd <| tb_putI 0 1 <| tb_vret q) <| tb_aload 0 <| tb_getf 0 0 <| tb_iload 3 <| tb_aload 0 <| tb_getf 0 0 <| tb_iload 3 <| tb_i 1 <| tb_isub <| tb_iald <| tb_iast <| tb_iinc 3 (-1) <| tb_cut (P 5) [0, 1, 2, 3]
theorem okX0_insertCut_5 {Z : tc_Z} {q : tc_Q} (X : tc_Cx ({ frames := 0, cells := 0, slots := 0, locals := 0 } : Room) cX0_insertCut 4 RX0 Z) (hr : tc_Rt 3 cX0_insertCut 4 Z q) : tc_Ok 4 Z 5 (bkX0_insertCut_5 (tc_At 4 Z) q) := by
  unfold bkX0_insertCut_5
  refine to_iload_n (pc := 5) X dX0_insertCut_5 rfl ?_
  refine to_iload_n (pc := 6) X dX0_insertCut_6 rfl ?_
  refine to_icmp_le (pc := 7) (tgt := 30) X dX0_insertCut_7 (by decide) ?_ ?_
  · refine to_aload_n (pc := 30) X dX0_insertCut_30 rfl ?_
    refine gfX0_0 (pc := 31) X wf_RX0_9 dX0_insertCut_31 ?_
    refine to_iload_n (pc := 34) X dX0_insertCut_34 rfl ?_
    refine to_iload_n (pc := 35) X dX0_insertCut_35 rfl ?_
    refine to_iast (pc := 36) X dX0_insertCut_36 ?_
    refine to_aload_n (pc := 37) X dX0_insertCut_37 rfl ?_
    refine to_dup (pc := 38) X dX0_insertCut_38 ?_
    refine gfX0_1 (pc := 39) X wf_RX0_15 dX0_insertCut_39 ?_
    refine to_iconst (pc := 42) X dX0_insertCut_42 (by decide) ?_
    refine to_iadd (pc := 43) X dX0_insertCut_43 ?_
    refine pfX0_1 (pc := 44) X wf_RX0_15 dX0_insertCut_44 ?_
    exact to_vret (pc := 47) hr dX0_insertCut_47
  refine to_aload_n (pc := 10) X dX0_insertCut_10 rfl ?_
  refine gfX0_0 (pc := 11) X wf_RX0_9 dX0_insertCut_11 ?_
  refine to_iload_n (pc := 14) X dX0_insertCut_14 rfl ?_
  refine to_aload_n (pc := 15) X dX0_insertCut_15 rfl ?_
  refine gfX0_0 (pc := 16) X wf_RX0_9 dX0_insertCut_16 ?_
  refine to_iload_n (pc := 19) X dX0_insertCut_19 rfl ?_
  refine to_iconst (pc := 20) X dX0_insertCut_20 (by decide) ?_
  refine to_isub (pc := 21) X dX0_insertCut_21 ?_
  refine to_iald (pc := 22) X dX0_insertCut_22 ?_
  refine to_iast (pc := 23) X dX0_insertCut_23 ?_
  refine to_iinc (pc := 24) X dX0_insertCut_24 (by decide) (by decide) ?_
  refine to_goto (pc := 27) (tgt := 5) X dX0_insertCut_27 (by decide) ?_
  exact to_cut [0, 1, 2, 3] (fun _ _ _ h => h)
def bkX0_insertCut_0 (P : Nat → tc_B) (q : tc_Q) : tc_B := tb_aload 0 <| tb_getf 0 1 <| tb_istore 3 <| tb_cut (P 5) [0, 1, 2, 3]
theorem okX0_insertCut_0 {Z : tc_Z} {q : tc_Q} (X : tc_Cx ({ frames := 0, cells := 0, slots := 0, locals := 0 } : Room) cX0_insertCut 4 RX0 Z) (hr : tc_Rt 3 cX0_insertCut 4 Z q) : tc_Ok 4 Z 0 (bkX0_insertCut_0 (tc_At 4 Z) q) := by
  unfold bkX0_insertCut_0
  refine to_aload_n (pc := 0) X dX0_insertCut_0 rfl ?_
  refine gfX0_1 (pc := 1) X wf_RX0_15 dX0_insertCut_1 ?_
  refine to_istore_n (pc := 4) X dX0_insertCut_4 rfl (by decide) ?_
  exact to_cut [0, 1, 2, 3] (fun _ _ _ h => h)
def RX0_insertCut (vs : List tc_V) (S : tc_S) (q : tc_Q) : Prop := ∀ P : Nat → tc_B, (∀ L K S, bkX0_insertCut_5 P q L K S → P 5 L K S) → bkX0_insertCut_0 P q (tc_num 0 vs) [] S
theorem metX0_insertCut : tc_Met yX0_insertCut (Cond.code yX0_insertCut cX0_insertCut 4 none) ({ frames := 0, cells := 0, slots := 0, locals := 0 } : Room) 3 4 RX0_insertCut := tc_met (rk := 3) (by decide) ⟨rfl, rfl⟩ (fun Z q X hr vs S h => okX0_insertCut_0 X hr _ _ _ (h (tc_At 4 Z) (okX0_insertCut_5 X hr)))
theorem cvX0_insertCut {R : Room} {cc : ByteArray} {nL pc ix : Nat} {own : String} {Z : tc_Z} {k : tc_B} (X : tc_Cx R cc nL own Z) (h1 : Cond.methodLink own ix yX0_insertCut ∈ tc_tb) (hR : 0 + 1 ≤ R.frames ∧ 8 + (4 + 11) + 0 ≤ R.locals) (hd : decode cc pc = .ok (.invokevirtual ix, 3)) (h : tc_Ok nL Z (pc + 3) k) : tc_Ok nL Z pc (tb_callV 2 4 0 RX0_insertCut k) := to_callV X metX0_insertCut rfl ⟨rfl, rfl⟩ hR h1 wi_X0_insertCut wl_X0_insertCut wn_RX0 wc_X0_insertCut ⟨by decide +kernel, by decide +kernel, by decide +kernel, by decide +kernel⟩ hd h
def bkX0_flipCut_48 (P : Nat → tc_B) (q : tc_Q) : tc_B := tb_i 1 <| tb_zret q
theorem okX0_flipCut_48 {Z : tc_Z} {q : tc_Q} (X : tc_Cx ({ frames := 1, cells := 0, slots := 0, locals := 23 } : Room) cX0_flipCut 3 RX0 Z) (hr : tc_Rt 1 cX0_flipCut 3 Z q) : tc_Ok 3 Z 48 (bkX0_flipCut_48 (tc_At 3 Z) q) := by
  unfold bkX0_flipCut_48
  refine to_iconst (pc := 48) X dX0_flipCut_48 (by decide) ?_
  exact to_zret (pc := 49) hr dX0_flipCut_49
def bkX0_flipCut_31 (P : Nat → tc_B) (q : tc_Q) : tc_B := tb_aload 0 <| tb_getf 0 1 <| tb_i 9 <| tb_icmp_lt (tb_aload 0 <| tb_iload 2 <| tb_iload 1 <| tb_callV 2 4 0 RX0_insertCut <| bkX0_flipCut_48 P q) <| tb_i 0 <| tb_zret q
theorem okX0_flipCut_31 {Z : tc_Z} {q : tc_Q} (X : tc_Cx ({ frames := 1, cells := 0, slots := 0, locals := 23 } : Room) cX0_flipCut 3 RX0 Z) (hr : tc_Rt 1 cX0_flipCut 3 Z q) : tc_Ok 3 Z 31 (bkX0_flipCut_31 (tc_At 3 Z) q) := by
  unfold bkX0_flipCut_31
  refine to_aload_n (pc := 31) X dX0_flipCut_31 rfl ?_
  refine gfX0_1 (pc := 32) X wf_RX0_15 dX0_flipCut_32 ?_
  refine to_bipush (pc := 35) X dX0_flipCut_35 (by decide) ?_
  refine to_icmp_lt (pc := 37) (tgt := 42) X dX0_flipCut_37 (by decide) ?_ ?_
  · refine to_aload_n (pc := 42) X dX0_flipCut_42 rfl ?_
    refine to_iload_n (pc := 43) X dX0_flipCut_43 rfl ?_
    refine to_iload_n (pc := 44) X dX0_flipCut_44 rfl ?_
    refine cvX0_insertCut (pc := 45) X wm_RX0_42 (by decide) dX0_flipCut_45 ?_
    exact okX0_flipCut_48 X hr
  refine to_iconst (pc := 40) X dX0_flipCut_40 (by decide) ?_
  exact to_zret (pc := 41) hr dX0_flipCut_41
def bkX0_flipCut_29 (P : Nat → tc_B) (q : tc_Q) : tc_B := tb_i 1 <| tb_zret q
theorem okX0_flipCut_29 {Z : tc_Z} {q : tc_Q} (X : tc_Cx ({ frames := 1, cells := 0, slots := 0, locals := 23 } : Room) cX0_flipCut 3 RX0 Z) (hr : tc_Rt 1 cX0_flipCut 3 Z q) : tc_Ok 3 Z 29 (bkX0_flipCut_29 (tc_At 3 Z) q) := by
  unfold bkX0_flipCut_29
  refine to_iconst (pc := 29) X dX0_flipCut_29 (by decide) ?_
  exact to_zret (pc := 30) hr dX0_flipCut_30
def bkX0_flipCut_5 (P : Nat → tc_B) (q : tc_Q) : tc_B := tb_istore 2 <| tb_iload 2 <| tb_if_le (tb_cut (P 31) [0, 1, 2]) <| tb_aload 0 <| tb_getf 0 0 <| tb_iload 2 <| tb_i 1 <| tb_isub <| tb_iald <| tb_iload 1 <| tb_icmp_ne (tb_cut (P 31) [0, 1, 2]) <| tb_aload 0 <| tb_iload 2 <| tb_i 1 <| tb_isub <| tb_callV 1 3 0 RX0_removeCut <| bkX0_flipCut_29 P q
theorem okX0_flipCut_5 {Z : tc_Z} {q : tc_Q} (X : tc_Cx ({ frames := 1, cells := 0, slots := 0, locals := 23 } : Room) cX0_flipCut 3 RX0 Z) (hr : tc_Rt 1 cX0_flipCut 3 Z q) : tc_Ok 3 Z 5 (bkX0_flipCut_5 (tc_At 3 Z) q) := by
  unfold bkX0_flipCut_5
  refine to_istore_n (pc := 5) X dX0_flipCut_5 rfl (by decide) ?_
  refine to_iload_n (pc := 6) X dX0_flipCut_6 rfl ?_
  refine to_if_le (pc := 7) (tgt := 31) X dX0_flipCut_7 (by decide) ?_ ?_
  · exact to_cut [0, 1, 2] (fun _ _ _ h => h)
  refine to_aload_n (pc := 10) X dX0_flipCut_10 rfl ?_
  refine gfX0_0 (pc := 11) X wf_RX0_9 dX0_flipCut_11 ?_
  refine to_iload_n (pc := 14) X dX0_flipCut_14 rfl ?_
  refine to_iconst (pc := 15) X dX0_flipCut_15 (by decide) ?_
  refine to_isub (pc := 16) X dX0_flipCut_16 ?_
  refine to_iald (pc := 17) X dX0_flipCut_17 ?_
  refine to_iload_n (pc := 18) X dX0_flipCut_18 rfl ?_
  refine to_icmp_ne (pc := 19) (tgt := 31) X dX0_flipCut_19 (by decide) ?_ ?_
  · exact to_cut [0, 1, 2] (fun _ _ _ h => h)
  refine to_aload_n (pc := 22) X dX0_flipCut_22 rfl ?_
  refine to_iload_n (pc := 23) X dX0_flipCut_23 rfl ?_
  refine to_iconst (pc := 24) X dX0_flipCut_24 (by decide) ?_
  refine to_isub (pc := 25) X dX0_flipCut_25 ?_
  refine cvX0_removeCut (pc := 26) X wm_RX0_38 (by decide) dX0_flipCut_26 ?_
  exact okX0_flipCut_29 X hr
def bkX0_flipCut_0 (P : Nat → tc_B) (q : tc_Q) : tc_B := tb_aload 0 <| tb_iload 1 <| tb_callV 1 3 0 RX0_binOf <| bkX0_flipCut_5 P q
theorem okX0_flipCut_0 {Z : tc_Z} {q : tc_Q} (X : tc_Cx ({ frames := 1, cells := 0, slots := 0, locals := 23 } : Room) cX0_flipCut 3 RX0 Z) (hr : tc_Rt 1 cX0_flipCut 3 Z q) : tc_Ok 3 Z 0 (bkX0_flipCut_0 (tc_At 3 Z) q) := by
  unfold bkX0_flipCut_0
  refine to_aload_n (pc := 0) X dX0_flipCut_0 rfl ?_
  refine to_iload_n (pc := 1) X dX0_flipCut_1 rfl ?_
  refine cvX0_binOf (pc := 2) X wm_RX0_34 (by decide) dX0_flipCut_2 ?_
  exact okX0_flipCut_5 X hr
def RX0_flipCut (vs : List tc_V) (S : tc_S) (q : tc_Q) : Prop := ∀ P : Nat → tc_B, (∀ L K S, bkX0_flipCut_31 P q L K S → P 31 L K S) → bkX0_flipCut_0 P q (tc_num 0 vs) [] S
theorem metX0_flipCut : tc_Met yX0_flipCut (Cond.code yX0_flipCut cX0_flipCut 3 (some .boolean)) ({ frames := 1, cells := 0, slots := 0, locals := 23 } : Room) 1 3 RX0_flipCut := tc_met (rk := 1) (by decide) ⟨rfl, rfl⟩ (fun Z q X hr vs S h => okX0_flipCut_0 X hr _ _ _ (h (tc_At 3 Z) (okX0_flipCut_31 X hr)))
theorem cvX0_flipCut {R : Room} {cc : ByteArray} {nL pc ix : Nat} {own : String} {Z : tc_Z} {k : tc_B} (X : tc_Cx R cc nL own Z) (h1 : Cond.methodLink own ix yX0_flipCut ∈ tc_tb) (hR : 1 + 1 ≤ R.frames ∧ 8 + (3 + 11) + 23 ≤ R.locals) (hd : decode cc pc = .ok (.invokevirtual ix, 3)) (h : tc_Ok nL Z (pc + 3) k) : tc_Ok nL Z pc (tb_callV 1 3 0 RX0_flipCut k) := to_callV X metX0_flipCut rfl ⟨rfl, rfl⟩ hR h1 wi_X0_flipCut wl_X0_flipCut wn_RX0 wc_X0_flipCut ⟨by decide +kernel, by decide +kernel, by decide +kernel, by decide +kernel⟩ hd h
def bkX0_hasBin_0 (P : Nat → tc_B) (q : tc_Q) : tc_B := tb_iload 1 <| tb_if_lt (tb_i 0 <| tb_zret q) <| tb_iload 1 <| tb_aload 0 <| tb_getf 0 1 <| tb_icmp_gt (tb_i 0 <| tb_zret q) <| tb_i 1 <| tb_zret q
theorem okX0_hasBin_0 {Z : tc_Z} {q : tc_Q} (X : tc_Cx ({ frames := 0, cells := 0, slots := 0, locals := 0 } : Room) cX0_hasBin 2 RX0 Z) (hr : tc_Rt 1 cX0_hasBin 2 Z q) : tc_Ok 2 Z 0 (bkX0_hasBin_0 (tc_At 2 Z) q) := by
  unfold bkX0_hasBin_0
  refine to_iload_n (pc := 0) X dX0_hasBin_0 rfl ?_
  refine to_if_lt (pc := 1) (tgt := 16) X dX0_hasBin_1 (by decide) ?_ ?_
  · refine to_iconst (pc := 16) X dX0_hasBin_16 (by decide) ?_
    exact to_zret (pc := 17) hr dX0_hasBin_17
  refine to_iload_n (pc := 4) X dX0_hasBin_4 rfl ?_
  refine to_aload_n (pc := 5) X dX0_hasBin_5 rfl ?_
  refine gfX0_1 (pc := 6) X wf_RX0_15 dX0_hasBin_6 ?_
  refine to_icmp_gt (pc := 9) (tgt := 16) X dX0_hasBin_9 (by decide) ?_ ?_
  · refine to_iconst (pc := 16) X dX0_hasBin_16 (by decide) ?_
    exact to_zret (pc := 17) hr dX0_hasBin_17
  refine to_iconst (pc := 12) X dX0_hasBin_12 (by decide) ?_
  refine to_goto (pc := 13) (tgt := 17) X dX0_hasBin_13 (by decide) ?_
  exact to_zret (pc := 17) hr dX0_hasBin_17
def RX0_hasBin (vs : List tc_V) (S : tc_S) (q : tc_Q) : Prop := ∀ P : Nat → tc_B, bkX0_hasBin_0 P q (tc_num 0 vs) [] S
theorem metX0_hasBin : tc_Met yX0_hasBin (Cond.code yX0_hasBin cX0_hasBin 2 (some .boolean)) ({ frames := 0, cells := 0, slots := 0, locals := 0 } : Room) 1 2 RX0_hasBin := tc_met (rk := 1) (by decide) ⟨rfl, rfl⟩ (fun Z q X hr vs S h => okX0_hasBin_0 X hr _ _ _ (h (tc_At 2 Z)))
theorem cvX0_hasBin {R : Room} {cc : ByteArray} {nL pc ix : Nat} {own : String} {Z : tc_Z} {k : tc_B} (X : tc_Cx R cc nL own Z) (h1 : Cond.methodLink own ix yX0_hasBin ∈ tc_tb) (hR : 0 + 1 ≤ R.frames ∧ 8 + (2 + 11) + 0 ≤ R.locals) (hd : decode cc pc = .ok (.invokevirtual ix, 3)) (h : tc_Ok nL Z (pc + 3) k) : tc_Ok nL Z pc (tb_callV 1 2 0 RX0_hasBin k) := to_callV X metX0_hasBin rfl ⟨rfl, rfl⟩ hR h1 wi_X0_hasBin wl_X0_hasBin wn_RX0 wc_X0_hasBin ⟨by decide +kernel, by decide +kernel, by decide +kernel, by decide +kernel⟩ hd h
def bkX0_leastOf_0 (P : Nat → tc_B) (q : tc_Q) : tc_B := tb_iload 1 <| tb_if_ne (tb_aload 0 <| tb_getf 0 0 <| tb_iload 1 <| tb_i 1 <| tb_isub <| tb_iald <| tb_iret q) <| tb_i 0 <| tb_iret q
theorem okX0_leastOf_0 {Z : tc_Z} {q : tc_Q} (X : tc_Cx ({ frames := 0, cells := 0, slots := 0, locals := 0 } : Room) cX0_leastOf 2 RX0 Z) (hr : tc_Rt 0 cX0_leastOf 2 Z q) : tc_Ok 2 Z 0 (bkX0_leastOf_0 (tc_At 2 Z) q) := by
  unfold bkX0_leastOf_0
  refine to_iload_n (pc := 0) X dX0_leastOf_0 rfl ?_
  refine to_if_ne (pc := 1) (tgt := 8) X dX0_leastOf_1 (by decide) ?_ ?_
  · refine to_aload_n (pc := 8) X dX0_leastOf_8 rfl ?_
    refine gfX0_0 (pc := 9) X wf_RX0_9 dX0_leastOf_9 ?_
    refine to_iload_n (pc := 12) X dX0_leastOf_12 rfl ?_
    refine to_iconst (pc := 13) X dX0_leastOf_13 (by decide) ?_
    refine to_isub (pc := 14) X dX0_leastOf_14 ?_
    refine to_iald (pc := 15) X dX0_leastOf_15 ?_
    exact to_iret (pc := 16) hr dX0_leastOf_16
  refine to_iconst (pc := 4) X dX0_leastOf_4 (by decide) ?_
  refine to_goto (pc := 5) (tgt := 16) X dX0_leastOf_5 (by decide) ?_
  exact to_iret (pc := 16) hr dX0_leastOf_16
def RX0_leastOf (vs : List tc_V) (S : tc_S) (q : tc_Q) : Prop := ∀ P : Nat → tc_B, bkX0_leastOf_0 P q (tc_num 0 vs) [] S
theorem metX0_leastOf : tc_Met yX0_leastOf (Cond.code yX0_leastOf cX0_leastOf 2 (some .int)) ({ frames := 0, cells := 0, slots := 0, locals := 0 } : Room) 0 2 RX0_leastOf := tc_met (rk := 0) (by decide) ⟨rfl, rfl⟩ (fun Z q X hr vs S h => okX0_leastOf_0 X hr _ _ _ (h (tc_At 2 Z)))
theorem cvX0_leastOf {R : Room} {cc : ByteArray} {nL pc ix : Nat} {own : String} {Z : tc_Z} {k : tc_B} (X : tc_Cx R cc nL own Z) (h1 : Cond.methodLink own ix yX0_leastOf ∈ tc_tb) (hR : 0 + 1 ≤ R.frames ∧ 8 + (2 + 11) + 0 ≤ R.locals) (hd : decode cc pc = .ok (.invokevirtual ix, 3)) (h : tc_Ok nL Z (pc + 3) k) : tc_Ok nL Z pc (tb_callV 1 2 0 RX0_leastOf k) := to_callV X metX0_leastOf rfl ⟨rfl, rfl⟩ hR h1 wi_X0_leastOf wl_X0_leastOf wn_RX0 wc_X0_leastOf ⟨by decide +kernel, by decide +kernel, by decide +kernel, by decide +kernel⟩ hd h
def bkX0_greatestOf_0 (P : Nat → tc_B) (q : tc_Q) : tc_B := tb_iload 1 <| tb_aload 0 <| tb_getf 0 1 <| tb_icmp_ne (tb_aload 0 <| tb_getf 0 0 <| tb_iload 1 <| tb_iald <| tb_i 1 <| tb_isub <| tb_iret q) <| tb_i 100 <| tb_iret q
theorem okX0_greatestOf_0 {Z : tc_Z} {q : tc_Q} (X : tc_Cx ({ frames := 0, cells := 0, slots := 0, locals := 0 } : Room) cX0_greatestOf 2 RX0 Z) (hr : tc_Rt 0 cX0_greatestOf 2 Z q) : tc_Ok 2 Z 0 (bkX0_greatestOf_0 (tc_At 2 Z) q) := by
  unfold bkX0_greatestOf_0
  refine to_iload_n (pc := 0) X dX0_greatestOf_0 rfl ?_
  refine to_aload_n (pc := 1) X dX0_greatestOf_1 rfl ?_
  refine gfX0_1 (pc := 2) X wf_RX0_15 dX0_greatestOf_2 ?_
  refine to_icmp_ne (pc := 5) (tgt := 13) X dX0_greatestOf_5 (by decide) ?_ ?_
  · refine to_aload_n (pc := 13) X dX0_greatestOf_13 rfl ?_
    refine gfX0_0 (pc := 14) X wf_RX0_9 dX0_greatestOf_14 ?_
    refine to_iload_n (pc := 17) X dX0_greatestOf_17 rfl ?_
    refine to_iald (pc := 18) X dX0_greatestOf_18 ?_
    refine to_iconst (pc := 19) X dX0_greatestOf_19 (by decide) ?_
    refine to_isub (pc := 20) X dX0_greatestOf_20 ?_
    exact to_iret (pc := 21) hr dX0_greatestOf_21
  refine to_bipush (pc := 8) X dX0_greatestOf_8 (by decide) ?_
  refine to_goto (pc := 10) (tgt := 21) X dX0_greatestOf_10 (by decide) ?_
  exact to_iret (pc := 21) hr dX0_greatestOf_21
def RX0_greatestOf (vs : List tc_V) (S : tc_S) (q : tc_Q) : Prop := ∀ P : Nat → tc_B, bkX0_greatestOf_0 P q (tc_num 0 vs) [] S
theorem metX0_greatestOf : tc_Met yX0_greatestOf (Cond.code yX0_greatestOf cX0_greatestOf 2 (some .int)) ({ frames := 0, cells := 0, slots := 0, locals := 0 } : Room) 0 2 RX0_greatestOf := tc_met (rk := 0) (by decide) ⟨rfl, rfl⟩ (fun Z q X hr vs S h => okX0_greatestOf_0 X hr _ _ _ (h (tc_At 2 Z)))
theorem cvX0_greatestOf {R : Room} {cc : ByteArray} {nL pc ix : Nat} {own : String} {Z : tc_Z} {k : tc_B} (X : tc_Cx R cc nL own Z) (h1 : Cond.methodLink own ix yX0_greatestOf ∈ tc_tb) (hR : 0 + 1 ≤ R.frames ∧ 8 + (2 + 11) + 0 ≤ R.locals) (hd : decode cc pc = .ok (.invokevirtual ix, 3)) (h : tc_Ok nL Z (pc + 3) k) : tc_Ok nL Z pc (tb_callV 1 2 0 RX0_greatestOf k) := to_callV X metX0_greatestOf rfl ⟨rfl, rfl⟩ hR h1 wi_X0_greatestOf wl_X0_greatestOf wn_RX0 wc_X0_greatestOf ⟨by decide +kernel, by decide +kernel, by decide +kernel, by decide +kernel⟩ hd h
def bkX0_sortIn_142 (P : Nat → tc_B) (q : tc_Q) : tc_B := tb_iinc 2 1 <| tb_cut (P 54) [0, 1, 2]
theorem okX0_sortIn_142 {Z : tc_Z} {q : tc_Q} (X : tc_Cx ({ frames := 1, cells := 0, slots := 0, locals := 22 } : Room) cX0_sortIn 5 RX0 Z) (hr : tc_Rt 3 cX0_sortIn 5 Z q) : tc_Ok 5 Z 142 (bkX0_sortIn_142 (tc_At 5 Z) q) := by
  unfold bkX0_sortIn_142
  refine to_iinc (pc := 142) X dX0_sortIn_142 (by decide) (by decide) ?_
  refine to_goto (pc := 145) (tgt := 54) X dX0_sortIn_145 (by decide) ?_
  exact to_cut [0, 1, 2] (fun _ _ _ h => h)
def bkX0_sortIn_74 (P : Nat → tc_B) (q : tc_Q) : tc_B := tb_istore 4 <| tb_aload 0 <| tb_getf 0 2 <| tb_iload 4 <| tb_dup2 <| tb_iald <| tb_i 1 <| tb_iadd <| tb_iast <| tb_aload 0 <| tb_getf 0 4 <| tb_iload 4 <| tb_dup2 <| tb_iald <| tb_iload 3 <| tb_iadd <| tb_iast <| tb_aload 0 <| tb_getf 0 5 <| tb_iload 4 <| tb_dup2 <| tb_iald <| tb_iload 3 <| tb_iload 3 <| tb_imul <| tb_iadd <| tb_iast <| tb_aload 1 <| tb_getf 2 1 <| tb_iload 2 <| tb_zald <| tb_if_eq (tb_cut (P 142) [0, 1, 2]) <| tb_aload 0 <| tb_getf 0 3 <| tb_iload 4 <| tb_dup2 <| tb_iald <| tb_i 1 <| tb_iadd <| tb_iast <| tb_aload 0 <| tb_getf 0 6 <| tb_iload 4 <| tb_dup2 <| tb_iald <| tb_iload 3 <| tb_iadd <| tb_iast <| tb_cut (P 142) [0, 1, 2]
theorem okX0_sortIn_74 {Z : tc_Z} {q : tc_Q} (X : tc_Cx ({ frames := 1, cells := 0, slots := 0, locals := 22 } : Room) cX0_sortIn 5 RX0 Z) (hr : tc_Rt 3 cX0_sortIn 5 Z q) : tc_Ok 5 Z 74 (bkX0_sortIn_74 (tc_At 5 Z) q) := by
  unfold bkX0_sortIn_74
  refine to_istore (pc := 74) X dX0_sortIn_74 (by decide) ?_
  refine to_aload_n (pc := 76) X dX0_sortIn_76 rfl ?_
  refine gfX0_2 (pc := 77) X wf_RX0_19 dX0_sortIn_77 ?_
  refine to_iload (pc := 80) X dX0_sortIn_80 ?_
  refine to_dup2 (pc := 82) X dX0_sortIn_82 ?_
  refine to_iald (pc := 83) X dX0_sortIn_83 ?_
  refine to_iconst (pc := 84) X dX0_sortIn_84 (by decide) ?_
  refine to_iadd (pc := 85) X dX0_sortIn_85 ?_
  refine to_iast (pc := 86) X dX0_sortIn_86 ?_
  refine to_aload_n (pc := 87) X dX0_sortIn_87 rfl ?_
  refine gfX0_4 (pc := 88) X wf_RX0_25 dX0_sortIn_88 ?_
  refine to_iload (pc := 91) X dX0_sortIn_91 ?_
  refine to_dup2 (pc := 93) X dX0_sortIn_93 ?_
  refine to_iald (pc := 94) X dX0_sortIn_94 ?_
  refine to_iload_n (pc := 95) X dX0_sortIn_95 rfl ?_
  refine to_iadd (pc := 96) X dX0_sortIn_96 ?_
  refine to_iast (pc := 97) X dX0_sortIn_97 ?_
  refine to_aload_n (pc := 98) X dX0_sortIn_98 rfl ?_
  refine gfX0_5 (pc := 99) X wf_RX0_28 dX0_sortIn_99 ?_
  refine to_iload (pc := 102) X dX0_sortIn_102 ?_
  refine to_dup2 (pc := 104) X dX0_sortIn_104 ?_
  refine to_iald (pc := 105) X dX0_sortIn_105 ?_
  refine to_iload_n (pc := 106) X dX0_sortIn_106 rfl ?_
  refine to_iload_n (pc := 107) X dX0_sortIn_107 rfl ?_
  refine to_imul (pc := 108) X dX0_sortIn_108 ?_
  refine to_iadd (pc := 109) X dX0_sortIn_109 ?_
  refine to_iast (pc := 110) X dX0_sortIn_110 ?_
  refine to_aload_n (pc := 111) X dX0_sortIn_111 rfl ?_
  refine gfX2_1 (pc := 112) X wf_RX0_54 dX0_sortIn_112 ?_
  refine to_iload_n (pc := 115) X dX0_sortIn_115 rfl ?_
  refine to_zald (pc := 116) X dX0_sortIn_116 ?_
  refine to_if_eq (pc := 117) (tgt := 142) X dX0_sortIn_117 (by decide) ?_ ?_
  · exact to_cut [0, 1, 2] (fun _ _ _ h => h)
  refine to_aload_n (pc := 120) X dX0_sortIn_120 rfl ?_
  refine gfX0_3 (pc := 121) X wf_RX0_22 dX0_sortIn_121 ?_
  refine to_iload (pc := 124) X dX0_sortIn_124 ?_
  refine to_dup2 (pc := 126) X dX0_sortIn_126 ?_
  refine to_iald (pc := 127) X dX0_sortIn_127 ?_
  refine to_iconst (pc := 128) X dX0_sortIn_128 (by decide) ?_
  refine to_iadd (pc := 129) X dX0_sortIn_129 ?_
  refine to_iast (pc := 130) X dX0_sortIn_130 ?_
  refine to_aload_n (pc := 131) X dX0_sortIn_131 rfl ?_
  refine gfX0_6 (pc := 132) X wf_RX0_31 dX0_sortIn_132 ?_
  refine to_iload (pc := 135) X dX0_sortIn_135 ?_
  refine to_dup2 (pc := 137) X dX0_sortIn_137 ?_
  refine to_iald (pc := 138) X dX0_sortIn_138 ?_
  refine to_iload_n (pc := 139) X dX0_sortIn_139 rfl ?_
  refine to_iadd (pc := 140) X dX0_sortIn_140 ?_
  refine to_iast (pc := 141) X dX0_sortIn_141 ?_
  exact to_cut [0, 1, 2] (fun _ _ _ h => h)
def bkX0_sortIn_54 (P : Nat → tc_B) (q : tc_Q) : tc_B := tb_iload 2 <| tb_aload 1 <| tb_getf 2 2 <| tb_icmp_ge (tb_vret q) <| tb_aload 1 <| tb_getf 2 0 <| tb_iload 2 <| tb_iald <| tb_istore 3 <| tb_aload 0 <| tb_iload 3 <| tb_callV 1 3 0 RX0_binOf <| bkX0_sortIn_74 P q
theorem okX0_sortIn_54 {Z : tc_Z} {q : tc_Q} (X : tc_Cx ({ frames := 1, cells := 0, slots := 0, locals := 22 } : Room) cX0_sortIn 5 RX0 Z) (hr : tc_Rt 3 cX0_sortIn 5 Z q) : tc_Ok 5 Z 54 (bkX0_sortIn_54 (tc_At 5 Z) q) := by
  unfold bkX0_sortIn_54
  refine to_iload_n (pc := 54) X dX0_sortIn_54 rfl ?_
  refine to_aload_n (pc := 55) X dX0_sortIn_55 rfl ?_
  refine gfX2_2 (pc := 56) X wf_RX0_46 dX0_sortIn_56 ?_
  refine to_icmp_ge (pc := 59) (tgt := 148) X dX0_sortIn_59 (by decide) ?_ ?_
  · exact to_vret (pc := 148) hr dX0_sortIn_148
  refine to_aload_n (pc := 62) X dX0_sortIn_62 rfl ?_
  refine gfX2_0 (pc := 63) X wf_RX0_51 dX0_sortIn_63 ?_
  refine to_iload_n (pc := 66) X dX0_sortIn_66 rfl ?_
  refine to_iald (pc := 67) X dX0_sortIn_67 ?_
  refine to_istore_n (pc := 68) X dX0_sortIn_68 rfl (by decide) ?_
  refine to_aload_n (pc := 69) X dX0_sortIn_69 rfl ?_
  refine to_iload_n (pc := 70) X dX0_sortIn_70 rfl ?_
  refine cvX0_binOf (pc := 71) X wm_RX0_34 (by decide) dX0_sortIn_71 ?_
  exact okX0_sortIn_74 X hr
def bkX0_sortIn_2 (P : Nat → tc_B) (q : tc_Q) : tc_B := tb_iload 2 <| tb_aload 0 <| tb_getf 0 2 <| tb_alen <| tb_icmp_ge (tb_i 0 <| tb_istore 2 <| tb_cut (P 54) [0, 1, 2]) <| tb_aload 0 <| tb_getf 0 2 <| tb_iload 2 <| tb_i 0 <| tb_iast <| tb_aload 0 <| tb_getf 0 3 <| tb_iload 2 <| tb_i 0 <| tb_iast <| tb_aload 0 <| tb_getf 0 4 <| tb_iload 2 <| tb_i 0 <| tb_iast <| tb_aload 0 <| tb_getf 0 5 <| tb_iload 2 <| tb_i 0 <| tb_iast <| tb_aload 0 <| tb_getf 0 6 <| tb_iload 2 <| tb_i 0 <| tb_iast <| tb_iinc 2 1 <| tb_cut (P 2) [0, 1, 2]
theorem okX0_sortIn_2 {Z : tc_Z} {q : tc_Q} (X : tc_Cx ({ frames := 1, cells := 0, slots := 0, locals := 22 } : Room) cX0_sortIn 5 RX0 Z) (hr : tc_Rt 3 cX0_sortIn 5 Z q) : tc_Ok 5 Z 2 (bkX0_sortIn_2 (tc_At 5 Z) q) := by
  unfold bkX0_sortIn_2
  refine to_iload_n (pc := 2) X dX0_sortIn_2 rfl ?_
  refine to_aload_n (pc := 3) X dX0_sortIn_3 rfl ?_
  refine gfX0_2 (pc := 4) X wf_RX0_19 dX0_sortIn_4 ?_
  refine to_alen (pc := 7) X dX0_sortIn_7 ?_
  refine to_icmp_ge (pc := 8) (tgt := 52) X dX0_sortIn_8 (by decide) ?_ ?_
  · refine to_iconst (pc := 52) X dX0_sortIn_52 (by decide) ?_
    refine to_istore_n (pc := 53) X dX0_sortIn_53 rfl (by decide) ?_
    exact to_cut [0, 1, 2] (fun _ _ _ h => h)
  refine to_aload_n (pc := 11) X dX0_sortIn_11 rfl ?_
  refine gfX0_2 (pc := 12) X wf_RX0_19 dX0_sortIn_12 ?_
  refine to_iload_n (pc := 15) X dX0_sortIn_15 rfl ?_
  refine to_iconst (pc := 16) X dX0_sortIn_16 (by decide) ?_
  refine to_iast (pc := 17) X dX0_sortIn_17 ?_
  refine to_aload_n (pc := 18) X dX0_sortIn_18 rfl ?_
  refine gfX0_3 (pc := 19) X wf_RX0_22 dX0_sortIn_19 ?_
  refine to_iload_n (pc := 22) X dX0_sortIn_22 rfl ?_
  refine to_iconst (pc := 23) X dX0_sortIn_23 (by decide) ?_
  refine to_iast (pc := 24) X dX0_sortIn_24 ?_
  refine to_aload_n (pc := 25) X dX0_sortIn_25 rfl ?_
  refine gfX0_4 (pc := 26) X wf_RX0_25 dX0_sortIn_26 ?_
  refine to_iload_n (pc := 29) X dX0_sortIn_29 rfl ?_
  refine to_iconst (pc := 30) X dX0_sortIn_30 (by decide) ?_
  refine to_iast (pc := 31) X dX0_sortIn_31 ?_
  refine to_aload_n (pc := 32) X dX0_sortIn_32 rfl ?_
  refine gfX0_5 (pc := 33) X wf_RX0_28 dX0_sortIn_33 ?_
  refine to_iload_n (pc := 36) X dX0_sortIn_36 rfl ?_
  refine to_iconst (pc := 37) X dX0_sortIn_37 (by decide) ?_
  refine to_iast (pc := 38) X dX0_sortIn_38 ?_
  refine to_aload_n (pc := 39) X dX0_sortIn_39 rfl ?_
  refine gfX0_6 (pc := 40) X wf_RX0_31 dX0_sortIn_40 ?_
  refine to_iload_n (pc := 43) X dX0_sortIn_43 rfl ?_
  refine to_iconst (pc := 44) X dX0_sortIn_44 (by decide) ?_
  refine to_iast (pc := 45) X dX0_sortIn_45 ?_
  refine to_iinc (pc := 46) X dX0_sortIn_46 (by decide) (by decide) ?_
  refine to_goto (pc := 49) (tgt := 2) X dX0_sortIn_49 (by decide) ?_
  exact to_cut [0, 1, 2] (fun _ _ _ h => h)
def bkX0_sortIn_0 (P : Nat → tc_B) (q : tc_Q) : tc_B := tb_i 0 <| tb_istore 2 <| tb_cut (P 2) [0, 1, 2]
theorem okX0_sortIn_0 {Z : tc_Z} {q : tc_Q} (X : tc_Cx ({ frames := 1, cells := 0, slots := 0, locals := 22 } : Room) cX0_sortIn 5 RX0 Z) (hr : tc_Rt 3 cX0_sortIn 5 Z q) : tc_Ok 5 Z 0 (bkX0_sortIn_0 (tc_At 5 Z) q) := by
  unfold bkX0_sortIn_0
  refine to_iconst (pc := 0) X dX0_sortIn_0 (by decide) ?_
  refine to_istore_n (pc := 1) X dX0_sortIn_1 rfl (by decide) ?_
  exact to_cut [0, 1, 2] (fun _ _ _ h => h)
def RX0_sortIn (vs : List tc_V) (S : tc_S) (q : tc_Q) : Prop := ∀ P : Nat → tc_B, (∀ L K S, bkX0_sortIn_2 P q L K S → P 2 L K S) → (∀ L K S, bkX0_sortIn_54 P q L K S → P 54 L K S) → (∀ L K S, bkX0_sortIn_142 P q L K S → P 142 L K S) → bkX0_sortIn_0 P q (tc_num 0 vs) [] S
theorem metX0_sortIn : tc_Met yX0_sortIn (Cond.code yX0_sortIn cX0_sortIn 5 none) ({ frames := 1, cells := 0, slots := 0, locals := 22 } : Room) 3 5 RX0_sortIn := tc_met (rk := 3) (by decide) ⟨rfl, rfl⟩ (fun Z q X hr vs S h => okX0_sortIn_0 X hr _ _ _ (h (tc_At 5 Z) (okX0_sortIn_2 X hr) (okX0_sortIn_54 X hr) (okX0_sortIn_142 X hr)))
theorem cvX0_sortIn {R : Room} {cc : ByteArray} {nL pc ix : Nat} {own : String} {Z : tc_Z} {k : tc_B} (X : tc_Cx R cc nL own Z) (h1 : Cond.methodLink own ix yX0_sortIn ∈ tc_tb) (hR : 1 + 1 ≤ R.frames ∧ 8 + (5 + 11) + 22 ≤ R.locals) (hd : decode cc pc = .ok (.invokevirtual ix, 3)) (h : tc_Ok nL Z (pc + 3) k) : tc_Ok nL Z pc (tb_callV 1 5 0 RX0_sortIn k) := to_callV X metX0_sortIn rfl ⟨rfl, rfl⟩ hR h1 wi_X0_sortIn wl_X0_sortIn wn_RX0 wc_X0_sortIn ⟨by decide +kernel, by decide +kernel, by decide +kernel, by decide +kernel⟩ hd h
def bkX0_squared_0 (P : Nat → tc_B) (q : tc_Q) : tc_B := tb_lload 0 <| tb_lload 0 <| tb_lmul <| tb_jret q
theorem okX0_squared_0 {Z : tc_Z} {q : tc_Q} (X : tc_Cx ({ frames := 0, cells := 0, slots := 0, locals := 0 } : Room) cX0_squared 2 RX0 Z) (hr : tc_Rt 2 cX0_squared 2 Z q) : tc_Ok 2 Z 0 (bkX0_squared_0 (tc_At 2 Z) q) := by
  unfold bkX0_squared_0
  refine to_lload_n (pc := 0) X dX0_squared_0 rfl ?_
  refine to_lload_n (pc := 1) X dX0_squared_1 rfl ?_
  refine to_lmul (pc := 2) X dX0_squared_2 ?_
  exact to_jret (pc := 3) hr dX0_squared_3
def RX0_squared (vs : List tc_V) (S : tc_S) (q : tc_Q) : Prop := ∀ P : Nat → tc_B, bkX0_squared_0 P q (tc_num 0 vs) [] S
theorem metX0_squared : tc_Met yX0_squared (Cond.code yX0_squared cX0_squared 2 (some .long)) ({ frames := 0, cells := 0, slots := 0, locals := 0 } : Room) 2 2 RX0_squared := tc_met (rk := 2) (by decide) ⟨rfl, rfl⟩ (fun Z q X hr vs S h => okX0_squared_0 X hr _ _ _ (h (tc_At 2 Z)))
theorem cvX0_squared {R : Room} {cc : ByteArray} {nL pc ix : Nat} {own : String} {Z : tc_Z} {k : tc_B} (X : tc_Cx R cc nL own Z) (h1 : Cond.methodLink own ix yX0_squared ∈ tc_tb) (hR : 0 + 1 ≤ R.frames ∧ 8 + (2 + 11) + 0 ≤ R.locals) (hd : decode cc pc = .ok (.invokestatic ix, 3)) (h : tc_Ok nL Z (pc + 3) k) : tc_Ok nL Z pc (tb_callS 1 2 RX0_squared k) := to_callS X metX0_squared ⟨rfl, rfl⟩ hR h1 ws_X0_squared wn_RX0 wc_X0_squared ⟨by decide +kernel, by decide +kernel, by decide +kernel⟩ hd h
def bkX0_binTerm_63 (P : Nat → tc_B) (q : tc_Q) : tc_B := tb_jret q
theorem okX0_binTerm_63 {Z : tc_Z} {q : tc_Q} (X : tc_Cx ({ frames := 1, cells := 0, slots := 0, locals := 21 } : Room) cX0_binTerm 13 RX0 Z) (hr : tc_Rt 2 cX0_binTerm 13 Z q) : tc_Ok 13 Z 63 (bkX0_binTerm_63 (tc_At 13 Z) q) := by
  unfold bkX0_binTerm_63
  exact to_jret (pc := 63) hr dX0_binTerm_63
def bkX0_binTerm_45 (P : Nat → tc_B) (q : tc_Q) : tc_B := tb_jret q
theorem okX0_binTerm_45 {Z : tc_Z} {q : tc_Q} (X : tc_Cx ({ frames := 1, cells := 0, slots := 0, locals := 21 } : Room) cX0_binTerm 13 RX0 Z) (hr : tc_Rt 2 cX0_binTerm 13 Z q) : tc_Ok 13 Z 45 (bkX0_binTerm_45 (tc_At 13 Z) q) := by
  unfold bkX0_binTerm_45
  exact to_jret (pc := 45) hr dX0_binTerm_45
def bkX0_binTerm_0 (P : Nat → tc_B) (q : tc_Q) : tc_B := tb_aload 0 <| tb_getf 0 2 <| tb_iload 2 <| tb_iald <| tb_i2l <| tb_lstore 7 <| tb_aload 0 <| tb_getf 0 3 <| tb_iload 2 <| tb_iald <| tb_i2l <| tb_lstore 9 <| tb_aload 0 <| tb_getf 0 4 <| tb_iload 2 <| tb_iald <| tb_i2l <| tb_lstore 11 <| tb_iload 1 <| tb_i 1 <| tb_icmp_ne (tb_iload 1 <| tb_i 2 <| tb_icmp_ne (tb_iload 1 <| tb_i 3 <| tb_icmp_ne (tb_j 2 <| tb_lload 7 <| tb_aload 0 <| tb_getf 0 6 <| tb_iload 2 <| tb_iald <| tb_i2l <| tb_lmul <| tb_lload 11 <| tb_lload 9 <| tb_lmul <| tb_lsub <| tb_lmul <| tb_jret q) <| tb_lload 7 <| tb_aload 0 <| tb_getf 0 5 <| tb_iload 2 <| tb_iald <| tb_i2l <| tb_lmul <| tb_lload 11 <| tb_lload 11 <| tb_lmul <| tb_lsub <| tb_jret q) <| tb_lload 11 <| tb_j 100 <| tb_lload 9 <| tb_lmul <| tb_lsub <| tb_callS 1 2 RX0_squared <| bkX0_binTerm_63 P q) <| tb_lload 9 <| tb_lload 3 <| tb_lmul <| tb_lload 5 <| tb_lload 7 <| tb_lmul <| tb_lsub <| tb_callS 1 2 RX0_squared <| bkX0_binTerm_45 P q
theorem okX0_binTerm_0 {Z : tc_Z} {q : tc_Q} (X : tc_Cx ({ frames := 1, cells := 0, slots := 0, locals := 21 } : Room) cX0_binTerm 13 RX0 Z) (hr : tc_Rt 2 cX0_binTerm 13 Z q) : tc_Ok 13 Z 0 (bkX0_binTerm_0 (tc_At 13 Z) q) := by
  unfold bkX0_binTerm_0
  refine to_aload_n (pc := 0) X dX0_binTerm_0 rfl ?_
  refine gfX0_2 (pc := 1) X wf_RX0_19 dX0_binTerm_1 ?_
  refine to_iload_n (pc := 4) X dX0_binTerm_4 rfl ?_
  refine to_iald (pc := 5) X dX0_binTerm_5 ?_
  refine to_i2l (pc := 6) X dX0_binTerm_6 ?_
  refine to_lstore (pc := 7) X dX0_binTerm_7 (by decide) ?_
  refine to_aload_n (pc := 9) X dX0_binTerm_9 rfl ?_
  refine gfX0_3 (pc := 10) X wf_RX0_22 dX0_binTerm_10 ?_
  refine to_iload_n (pc := 13) X dX0_binTerm_13 rfl ?_
  refine to_iald (pc := 14) X dX0_binTerm_14 ?_
  refine to_i2l (pc := 15) X dX0_binTerm_15 ?_
  refine to_lstore (pc := 16) X dX0_binTerm_16 (by decide) ?_
  refine to_aload_n (pc := 18) X dX0_binTerm_18 rfl ?_
  refine gfX0_4 (pc := 19) X wf_RX0_25 dX0_binTerm_19 ?_
  refine to_iload_n (pc := 22) X dX0_binTerm_22 rfl ?_
  refine to_iald (pc := 23) X dX0_binTerm_23 ?_
  refine to_i2l (pc := 24) X dX0_binTerm_24 ?_
  refine to_lstore (pc := 25) X dX0_binTerm_25 (by decide) ?_
  refine to_iload_n (pc := 27) X dX0_binTerm_27 rfl ?_
  refine to_iconst (pc := 28) X dX0_binTerm_28 (by decide) ?_
  refine to_icmp_ne (pc := 29) (tgt := 46) X dX0_binTerm_29 (by decide) ?_ ?_
  · refine to_iload_n (pc := 46) X dX0_binTerm_46 rfl ?_
    refine to_iconst (pc := 47) X dX0_binTerm_47 (by decide) ?_
    refine to_icmp_ne (pc := 48) (tgt := 64) X dX0_binTerm_48 (by decide) ?_ ?_
    · refine to_iload_n (pc := 64) X dX0_binTerm_64 rfl ?_
      refine to_iconst (pc := 65) X dX0_binTerm_65 (by decide) ?_
      refine to_icmp_ne (pc := 66) (tgt := 86) X dX0_binTerm_66 (by decide) ?_ ?_
      · refine to_ldc2 (pc := 86) X wj_RX0_88 dX0_binTerm_86 ?_
        refine to_lload (pc := 89) X dX0_binTerm_89 ?_
        refine to_aload_n (pc := 91) X dX0_binTerm_91 rfl ?_
        refine gfX0_6 (pc := 92) X wf_RX0_31 dX0_binTerm_92 ?_
        refine to_iload_n (pc := 95) X dX0_binTerm_95 rfl ?_
        refine to_iald (pc := 96) X dX0_binTerm_96 ?_
        refine to_i2l (pc := 97) X dX0_binTerm_97 ?_
        refine to_lmul (pc := 98) X dX0_binTerm_98 ?_
        refine to_lload (pc := 99) X dX0_binTerm_99 ?_
        refine to_lload (pc := 101) X dX0_binTerm_101 ?_
        refine to_lmul (pc := 103) X dX0_binTerm_103 ?_
        refine to_lsub (pc := 104) X dX0_binTerm_104 ?_
        refine to_lmul (pc := 105) X dX0_binTerm_105 ?_
        exact to_jret (pc := 106) hr dX0_binTerm_106
      refine to_lload (pc := 69) X dX0_binTerm_69 ?_
      refine to_aload_n (pc := 71) X dX0_binTerm_71 rfl ?_
      refine gfX0_5 (pc := 72) X wf_RX0_28 dX0_binTerm_72 ?_
      refine to_iload_n (pc := 75) X dX0_binTerm_75 rfl ?_
      refine to_iald (pc := 76) X dX0_binTerm_76 ?_
      refine to_i2l (pc := 77) X dX0_binTerm_77 ?_
      refine to_lmul (pc := 78) X dX0_binTerm_78 ?_
      refine to_lload (pc := 79) X dX0_binTerm_79 ?_
      refine to_lload (pc := 81) X dX0_binTerm_81 ?_
      refine to_lmul (pc := 83) X dX0_binTerm_83 ?_
      refine to_lsub (pc := 84) X dX0_binTerm_84 ?_
      exact to_jret (pc := 85) hr dX0_binTerm_85
    refine to_lload (pc := 51) X dX0_binTerm_51 ?_
    refine to_ldc2 (pc := 53) X wj_RX0_86 dX0_binTerm_53 ?_
    refine to_lload (pc := 56) X dX0_binTerm_56 ?_
    refine to_lmul (pc := 58) X dX0_binTerm_58 ?_
    refine to_lsub (pc := 59) X dX0_binTerm_59 ?_
    refine cvX0_squared (pc := 60) X wm_RX0_82 (by decide) dX0_binTerm_60 ?_
    exact okX0_binTerm_63 X hr
  refine to_lload (pc := 32) X dX0_binTerm_32 ?_
  refine to_lload_n (pc := 34) X dX0_binTerm_34 rfl ?_
  refine to_lmul (pc := 35) X dX0_binTerm_35 ?_
  refine to_lload (pc := 36) X dX0_binTerm_36 ?_
  refine to_lload (pc := 38) X dX0_binTerm_38 ?_
  refine to_lmul (pc := 40) X dX0_binTerm_40 ?_
  refine to_lsub (pc := 41) X dX0_binTerm_41 ?_
  refine cvX0_squared (pc := 42) X wm_RX0_82 (by decide) dX0_binTerm_42 ?_
  exact okX0_binTerm_45 X hr
def RX0_binTerm (vs : List tc_V) (S : tc_S) (q : tc_Q) : Prop := ∀ P : Nat → tc_B, bkX0_binTerm_0 P q (tc_num 0 vs) [] S
theorem metX0_binTerm : tc_Met yX0_binTerm (Cond.code yX0_binTerm cX0_binTerm 13 (some .long)) ({ frames := 1, cells := 0, slots := 0, locals := 21 } : Room) 2 13 RX0_binTerm := tc_met (rk := 2) (by decide) ⟨rfl, rfl⟩ (fun Z q X hr vs S h => okX0_binTerm_0 X hr _ _ _ (h (tc_At 13 Z)))
theorem cvX0_binTerm {R : Room} {cc : ByteArray} {nL pc ix : Nat} {own : String} {Z : tc_Z} {k : tc_B} (X : tc_Cx R cc nL own Z) (h1 : Cond.methodLink own ix yX0_binTerm ∈ tc_tb) (hR : 1 + 1 ≤ R.frames ∧ 8 + (13 + 11) + 21 ≤ R.locals) (hd : decode cc pc = .ok (.invokevirtual ix, 3)) (h : tc_Ok nL Z (pc + 3) k) : tc_Ok nL Z pc (tb_callV 4 13 0 RX0_binTerm k) := to_callV X metX0_binTerm rfl ⟨rfl, rfl⟩ hR h1 wi_X0_binTerm wl_X0_binTerm wn_RX0 wc_X0_binTerm ⟨by decide +kernel, by decide +kernel, by decide +kernel, by decide +kernel⟩ hd h
def bkX0_scaleOf_0 (P : Nat → tc_B) (q : tc_Q) : tc_B := tb_iload 0 <| tb_i 1 <| tb_icmp_ne (tb_iload 0 <| tb_i 4 <| tb_icmp_ne (tb_j 10000 <| tb_lload 1 <| tb_lmul <| tb_jret q) <| tb_j 100 <| tb_lload 1 <| tb_lmul <| tb_jret q) <| tb_lload 1 <| tb_lload 1 <| tb_lmul <| tb_lload 1 <| tb_lmul <| tb_jret q
theorem okX0_scaleOf_0 {Z : tc_Z} {q : tc_Q} (X : tc_Cx ({ frames := 0, cells := 0, slots := 0, locals := 0 } : Room) cX0_scaleOf 3 RX0 Z) (hr : tc_Rt 2 cX0_scaleOf 3 Z q) : tc_Ok 3 Z 0 (bkX0_scaleOf_0 (tc_At 3 Z) q) := by
  unfold bkX0_scaleOf_0
  refine to_iload_n (pc := 0) X dX0_scaleOf_0 rfl ?_
  refine to_iconst (pc := 1) X dX0_scaleOf_1 (by decide) ?_
  refine to_icmp_ne (pc := 2) (tgt := 11) X dX0_scaleOf_2 (by decide) ?_ ?_
  · refine to_iload_n (pc := 11) X dX0_scaleOf_11 rfl ?_
    refine to_iconst (pc := 12) X dX0_scaleOf_12 (by decide) ?_
    refine to_icmp_ne (pc := 13) (tgt := 24) X dX0_scaleOf_13 (by decide) ?_ ?_
    · refine to_ldc2 (pc := 24) X wj_RX0_90 dX0_scaleOf_24 ?_
      refine to_lload_n (pc := 27) X dX0_scaleOf_27 rfl ?_
      refine to_lmul (pc := 28) X dX0_scaleOf_28 ?_
      exact to_jret (pc := 29) hr dX0_scaleOf_29
    refine to_ldc2 (pc := 16) X wj_RX0_86 dX0_scaleOf_16 ?_
    refine to_lload_n (pc := 19) X dX0_scaleOf_19 rfl ?_
    refine to_lmul (pc := 20) X dX0_scaleOf_20 ?_
    refine to_goto (pc := 21) (tgt := 29) X dX0_scaleOf_21 (by decide) ?_
    exact to_jret (pc := 29) hr dX0_scaleOf_29
  refine to_lload_n (pc := 5) X dX0_scaleOf_5 rfl ?_
  refine to_lload_n (pc := 6) X dX0_scaleOf_6 rfl ?_
  refine to_lmul (pc := 7) X dX0_scaleOf_7 ?_
  refine to_lload_n (pc := 8) X dX0_scaleOf_8 rfl ?_
  refine to_lmul (pc := 9) X dX0_scaleOf_9 ?_
  exact to_jret (pc := 10) hr dX0_scaleOf_10
def RX0_scaleOf (vs : List tc_V) (S : tc_S) (q : tc_Q) : Prop := ∀ P : Nat → tc_B, bkX0_scaleOf_0 P q (tc_num 0 vs) [] S
theorem metX0_scaleOf : tc_Met yX0_scaleOf (Cond.code yX0_scaleOf cX0_scaleOf 3 (some .long)) ({ frames := 0, cells := 0, slots := 0, locals := 0 } : Room) 2 3 RX0_scaleOf := tc_met (rk := 2) (by decide) ⟨rfl, rfl⟩ (fun Z q X hr vs S h => okX0_scaleOf_0 X hr _ _ _ (h (tc_At 3 Z)))
theorem cvX0_scaleOf {R : Room} {cc : ByteArray} {nL pc ix : Nat} {own : String} {Z : tc_Z} {k : tc_B} (X : tc_Cx R cc nL own Z) (h1 : Cond.methodLink own ix yX0_scaleOf ∈ tc_tb) (hR : 0 + 1 ≤ R.frames ∧ 8 + (3 + 11) + 0 ≤ R.locals) (hd : decode cc pc = .ok (.invokestatic ix, 3)) (h : tc_Ok nL Z (pc + 3) k) : tc_Ok nL Z pc (tb_callS 2 3 RX0_scaleOf k) := to_callS X metX0_scaleOf ⟨rfl, rfl⟩ hR h1 ws_X0_scaleOf wn_RX0 wc_X0_scaleOf ⟨by decide +kernel, by decide +kernel, by decide +kernel⟩ hd h
def bkX0_findPart_103 (P : Nat → tc_B) (q : tc_Q) : tc_B := tb_vret q
theorem okX0_findPart_103 {Z : tc_Z} {q : tc_Q} (X : tc_Cx ({ frames := 3, cells := 0, slots := 0, locals := 84 } : Room) cX0_findPart 9 RX0 Z) (hr : tc_Rt 3 cX0_findPart 9 Z q) : tc_Ok 9 Z 103 (bkX0_findPart_103 (tc_At 9 Z) q) := by
  unfold bkX0_findPart_103
  exact to_vret (pc := 103) hr dX0_findPart_103
def bkX0_findPart_100 (P : Nat → tc_B) (q : tc_Q) : tc_B := tb_callV 1 3 3 RX4_divideBy <| bkX0_findPart_103 P q
theorem okX0_findPart_100 {Z : tc_Z} {q : tc_Q} (X : tc_Cx ({ frames := 3, cells := 0, slots := 0, locals := 84 } : Room) cX0_findPart 9 RX0 Z) (hr : tc_Rt 3 cX0_findPart 9 Z q) : tc_Ok 9 Z 100 (bkX0_findPart_100 (tc_At 9 Z) q) := by
  unfold bkX0_findPart_100
  refine cvX4_divideBy (pc := 100) X wm_RX0_78 (by decide) dX0_findPart_100 ?_
  exact okX0_findPart_103 X hr
def bkX0_findPart_87 (P : Nat → tc_B) (q : tc_Q) : tc_B := tb_iinc 8 1 <| tb_cut (P 45) [0, 1, 3, 4, 6, 8]
theorem okX0_findPart_87 {Z : tc_Z} {q : tc_Q} (X : tc_Cx ({ frames := 3, cells := 0, slots := 0, locals := 84 } : Room) cX0_findPart 9 RX0 Z) (hr : tc_Rt 3 cX0_findPart 9 Z q) : tc_Ok 9 Z 87 (bkX0_findPart_87 (tc_At 9 Z) q) := by
  unfold bkX0_findPart_87
  refine to_iinc (pc := 87) X dX0_findPart_87 (by decide) (by decide) ?_
  refine to_goto (pc := 90) (tgt := 45) X dX0_findPart_90 (by decide) ?_
  exact to_cut [0, 1, 3, 4, 6, 8] (fun _ _ _ h => h)
def bkX0_findPart_76 (P : Nat → tc_B) (q : tc_Q) : tc_B := tb_aload 0 <| tb_getf 0 2 <| tb_iload 8 <| tb_iald <| tb_i2l <| tb_callV 2 9 3 RX4_add <| tb_cut (P 87) [0, 1, 3, 4, 6, 8]
theorem okX0_findPart_76 {Z : tc_Z} {q : tc_Q} (X : tc_Cx ({ frames := 3, cells := 0, slots := 0, locals := 84 } : Room) cX0_findPart 9 RX0 Z) (hr : tc_Rt 3 cX0_findPart 9 Z q) : tc_Ok 9 Z 76 (bkX0_findPart_76 (tc_At 9 Z) q) := by
  unfold bkX0_findPart_76
  refine to_aload_n (pc := 76) X dX0_findPart_76 rfl ?_
  refine gfX0_2 (pc := 77) X wf_RX0_19 dX0_findPart_77 ?_
  refine to_iload (pc := 80) X dX0_findPart_80 ?_
  refine to_iald (pc := 82) X dX0_findPart_82 ?_
  refine to_i2l (pc := 83) X dX0_findPart_83 ?_
  refine cvX4_add (pc := 84) X wm_RX0_71 (by decide) dX0_findPart_84 ?_
  exact to_cut [0, 1, 3, 4, 6, 8] (fun _ _ _ h => h)
def bkX0_findPart_45 (P : Nat → tc_B) (q : tc_Q) : tc_B := tb_iload 8 <| tb_aload 0 <| tb_getf 0 1 <| tb_icmp_gt (tb_aload 3 <| tb_iload 1 <| tb_lload 4 <| tb_callS 2 3 RX0_scaleOf <| bkX0_findPart_100 P q) <| tb_aload 0 <| tb_getf 0 2 <| tb_iload 8 <| tb_iald <| tb_if_le (tb_cut (P 87) [0, 1, 3, 4, 6, 8]) <| tb_aload 3 <| tb_aload 0 <| tb_iload 1 <| tb_iload 8 <| tb_lload 4 <| tb_lload 6 <| tb_callV 4 13 0 RX0_binTerm <| bkX0_findPart_76 P q
theorem okX0_findPart_45 {Z : tc_Z} {q : tc_Q} (X : tc_Cx ({ frames := 3, cells := 0, slots := 0, locals := 84 } : Room) cX0_findPart 9 RX0 Z) (hr : tc_Rt 3 cX0_findPart 9 Z q) : tc_Ok 9 Z 45 (bkX0_findPart_45 (tc_At 9 Z) q) := by
  unfold bkX0_findPart_45
  refine to_iload (pc := 45) X dX0_findPart_45 ?_
  refine to_aload_n (pc := 47) X dX0_findPart_47 rfl ?_
  refine gfX0_1 (pc := 48) X wf_RX0_15 dX0_findPart_48 ?_
  refine to_icmp_gt (pc := 51) (tgt := 93) X dX0_findPart_51 (by decide) ?_ ?_
  · refine to_aload_n (pc := 93) X dX0_findPart_93 rfl ?_
    refine to_iload_n (pc := 94) X dX0_findPart_94 rfl ?_
    refine to_lload (pc := 95) X dX0_findPart_95 ?_
    refine cvX0_scaleOf (pc := 97) X wm_RX0_74 (by decide) dX0_findPart_97 ?_
    exact okX0_findPart_100 X hr
  refine to_aload_n (pc := 54) X dX0_findPart_54 rfl ?_
  refine gfX0_2 (pc := 55) X wf_RX0_19 dX0_findPart_55 ?_
  refine to_iload (pc := 58) X dX0_findPart_58 ?_
  refine to_iald (pc := 60) X dX0_findPart_60 ?_
  refine to_if_le (pc := 61) (tgt := 87) X dX0_findPart_61 (by decide) ?_ ?_
  · exact to_cut [0, 1, 3, 4, 6, 8] (fun _ _ _ h => h)
  refine to_aload_n (pc := 64) X dX0_findPart_64 rfl ?_
  refine to_aload_n (pc := 65) X dX0_findPart_65 rfl ?_
  refine to_iload_n (pc := 66) X dX0_findPart_66 rfl ?_
  refine to_iload (pc := 67) X dX0_findPart_67 ?_
  refine to_lload (pc := 69) X dX0_findPart_69 ?_
  refine to_lload (pc := 71) X dX0_findPart_71 ?_
  refine cvX0_binTerm (pc := 73) X wm_RX0_67 (by decide) dX0_findPart_73 ?_
  exact okX0_findPart_76 X hr
def bkX0_findPart_42 (P : Nat → tc_B) (q : tc_Q) : tc_B := tb_i 0 <| tb_istore 8 <| tb_cut (P 45) [0, 1, 3, 4, 6, 8]
theorem okX0_findPart_42 {Z : tc_Z} {q : tc_Q} (X : tc_Cx ({ frames := 3, cells := 0, slots := 0, locals := 84 } : Room) cX0_findPart 9 RX0 Z) (hr : tc_Rt 3 cX0_findPart 9 Z q) : tc_Ok 9 Z 42 (bkX0_findPart_42 (tc_At 9 Z) q) := by
  unfold bkX0_findPart_42
  refine to_iconst (pc := 42) X dX0_findPart_42 (by decide) ?_
  refine to_istore (pc := 43) X dX0_findPart_43 (by decide) ?_
  exact to_cut [0, 1, 3, 4, 6, 8] (fun _ _ _ h => h)
def bkX0_findPart_35 (P : Nat → tc_B) (q : tc_Q) : tc_B := tb_vret q
theorem okX0_findPart_35 {Z : tc_Z} {q : tc_Q} (X : tc_Cx ({ frames := 3, cells := 0, slots := 0, locals := 84 } : Room) cX0_findPart 9 RX0 Z) (hr : tc_Rt 3 cX0_findPart 9 Z q) : tc_Ok 9 Z 35 (bkX0_findPart_35 (tc_At 9 Z) q) := by
  unfold bkX0_findPart_35
  exact to_vret (pc := 35) hr dX0_findPart_35
def bkX0_findPart_0 (P : Nat → tc_B) (q : tc_Q) : tc_B := tb_aload 2 <| tb_getf 2 2 <| tb_i2l <| tb_lstore 4 <| tb_aload 2 <| tb_getf 2 3 <| tb_i2l <| tb_lstore 6 <| tb_iload 1 <| tb_if_ne (tb_aload 3 <| tb_j 0 <| tb_j 1 <| tb_callV 2 7 3 RX4_become <| bkX0_findPart_42 P q) <| tb_aload 3 <| tb_lload 6 <| tb_lload 4 <| tb_lload 6 <| tb_lsub <| tb_lmul <| tb_lload 4 <| tb_lload 4 <| tb_lmul <| tb_callV 2 7 3 RX4_become <| bkX0_findPart_35 P q
theorem okX0_findPart_0 {Z : tc_Z} {q : tc_Q} (X : tc_Cx ({ frames := 3, cells := 0, slots := 0, locals := 84 } : Room) cX0_findPart 9 RX0 Z) (hr : tc_Rt 3 cX0_findPart 9 Z q) : tc_Ok 9 Z 0 (bkX0_findPart_0 (tc_At 9 Z) q) := by
  unfold bkX0_findPart_0
  refine to_aload_n (pc := 0) X dX0_findPart_0 rfl ?_
  refine gfX2_2 (pc := 1) X wf_RX0_46 dX0_findPart_1 ?_
  refine to_i2l (pc := 4) X dX0_findPart_4 ?_
  refine to_lstore (pc := 5) X dX0_findPart_5 (by decide) ?_
  refine to_aload_n (pc := 7) X dX0_findPart_7 rfl ?_
  refine gfX2_3 (pc := 8) X wf_RX0_58 dX0_findPart_8 ?_
  refine to_i2l (pc := 11) X dX0_findPart_11 ?_
  refine to_lstore (pc := 12) X dX0_findPart_12 (by decide) ?_
  refine to_iload_n (pc := 14) X dX0_findPart_14 rfl ?_
  refine to_if_ne (pc := 15) (tgt := 36) X dX0_findPart_15 (by decide) ?_ ?_
  · refine to_aload_n (pc := 36) X dX0_findPart_36 rfl ?_
    refine to_lconst (pc := 37) X dX0_findPart_37 (by decide) ?_
    refine to_lconst (pc := 38) X dX0_findPart_38 (by decide) ?_
    refine cvX4_become (pc := 39) X wm_RX0_61 (by decide) dX0_findPart_39 ?_
    exact okX0_findPart_42 X hr
  refine to_aload_n (pc := 18) X dX0_findPart_18 rfl ?_
  refine to_lload (pc := 19) X dX0_findPart_19 ?_
  refine to_lload (pc := 21) X dX0_findPart_21 ?_
  refine to_lload (pc := 23) X dX0_findPart_23 ?_
  refine to_lsub (pc := 25) X dX0_findPart_25 ?_
  refine to_lmul (pc := 26) X dX0_findPart_26 ?_
  refine to_lload (pc := 27) X dX0_findPart_27 ?_
  refine to_lload (pc := 29) X dX0_findPart_29 ?_
  refine to_lmul (pc := 31) X dX0_findPart_31 ?_
  refine cvX4_become (pc := 32) X wm_RX0_61 (by decide) dX0_findPart_32 ?_
  exact okX0_findPart_35 X hr
def RX0_findPart (vs : List tc_V) (S : tc_S) (q : tc_Q) : Prop := ∀ P : Nat → tc_B, (∀ L K S, bkX0_findPart_45 P q L K S → P 45 L K S) → (∀ L K S, bkX0_findPart_87 P q L K S → P 87 L K S) → bkX0_findPart_0 P q (tc_num 0 vs) [] S
theorem metX0_findPart : tc_Met yX0_findPart (Cond.code yX0_findPart cX0_findPart 9 none) ({ frames := 3, cells := 0, slots := 0, locals := 84 } : Room) 3 9 RX0_findPart := tc_met (rk := 3) (by decide) ⟨rfl, rfl⟩ (fun Z q X hr vs S h => okX0_findPart_0 X hr _ _ _ (h (tc_At 9 Z) (okX0_findPart_45 X hr) (okX0_findPart_87 X hr)))
theorem cvX0_findPart {R : Room} {cc : ByteArray} {nL pc ix : Nat} {own : String} {Z : tc_Z} {k : tc_B} (X : tc_Cx R cc nL own Z) (h1 : Cond.methodLink own ix yX0_findPart ∈ tc_tb) (hR : 3 + 1 ≤ R.frames ∧ 8 + (9 + 11) + 84 ≤ R.locals) (hd : decode cc pc = .ok (.invokevirtual ix, 3)) (h : tc_Ok nL Z (pc + 3) k) : tc_Ok nL Z pc (tb_callV 3 9 0 RX0_findPart k) := to_callV X metX0_findPart rfl ⟨rfl, rfl⟩ hR h1 wi_X0_findPart wl_X0_findPart wn_RX0 wc_X0_findPart ⟨by decide +kernel, by decide +kernel, by decide +kernel, by decide +kernel⟩ hd h
def bkX0_findJoinLoss_88 (P : Nat → tc_B) (q : tc_Q) : tc_B := tb_vret q
theorem okX0_findJoinLoss_88 {Z : tc_Z} {q : tc_Q} (X : tc_Cx ({ frames := 2, cells := 0, slots := 0, locals := 56 } : Room) cX0_findJoinLoss 8 RX0 Z) (hr : tc_Rt 3 cX0_findJoinLoss 8 Z q) : tc_Ok 8 Z 88 (bkX0_findJoinLoss_88 (tc_At 8 Z) q) := by
  unfold bkX0_findJoinLoss_88
  exact to_vret (pc := 88) hr dX0_findJoinLoss_88
def bkX0_findJoinLoss_68 (P : Nat → tc_B) (q : tc_Q) : tc_B := tb_lload 4 <| tb_lload 6 <| tb_lmul <| tb_lload 4 <| tb_lload 6 <| tb_ladd <| tb_lmul <| tb_aload 2 <| tb_getf 2 2 <| tb_i2l <| tb_lmul <| tb_callV 2 7 3 RX4_become <| bkX0_findJoinLoss_88 P q
theorem okX0_findJoinLoss_68 {Z : tc_Z} {q : tc_Q} (X : tc_Cx ({ frames := 2, cells := 0, slots := 0, locals := 56 } : Room) cX0_findJoinLoss 8 RX0 Z) (hr : tc_Rt 3 cX0_findJoinLoss 8 Z q) : tc_Ok 8 Z 68 (bkX0_findJoinLoss_68 (tc_At 8 Z) q) := by
  unfold bkX0_findJoinLoss_68
  refine to_lload (pc := 68) X dX0_findJoinLoss_68 ?_
  refine to_lload (pc := 70) X dX0_findJoinLoss_70 ?_
  refine to_lmul (pc := 72) X dX0_findJoinLoss_72 ?_
  refine to_lload (pc := 73) X dX0_findJoinLoss_73 ?_
  refine to_lload (pc := 75) X dX0_findJoinLoss_75 ?_
  refine to_ladd (pc := 77) X dX0_findJoinLoss_77 ?_
  refine to_lmul (pc := 78) X dX0_findJoinLoss_78 ?_
  refine to_aload_n (pc := 79) X dX0_findJoinLoss_79 rfl ?_
  refine gfX2_2 (pc := 80) X wf_RX0_46 dX0_findJoinLoss_80 ?_
  refine to_i2l (pc := 83) X dX0_findJoinLoss_83 ?_
  refine to_lmul (pc := 84) X dX0_findJoinLoss_84 ?_
  refine cvX4_become (pc := 85) X wm_RX0_61 (by decide) dX0_findJoinLoss_85 ?_
  exact okX0_findJoinLoss_88 X hr
def bkX0_findJoinLoss_40 (P : Nat → tc_B) (q : tc_Q) : tc_B := tb_vret q
theorem okX0_findJoinLoss_40 {Z : tc_Z} {q : tc_Q} (X : tc_Cx ({ frames := 2, cells := 0, slots := 0, locals := 56 } : Room) cX0_findJoinLoss 8 RX0 Z) (hr : tc_Rt 3 cX0_findJoinLoss 8 Z q) : tc_Ok 8 Z 40 (bkX0_findJoinLoss_40 (tc_At 8 Z) q) := by
  unfold bkX0_findJoinLoss_40
  exact to_vret (pc := 40) hr dX0_findJoinLoss_40
def bkX0_findJoinLoss_34 (P : Nat → tc_B) (q : tc_Q) : tc_B := tb_aload 3 <| tb_j 0 <| tb_j 1 <| tb_callV 2 7 3 RX4_become <| bkX0_findJoinLoss_40 P q
theorem okX0_findJoinLoss_34 {Z : tc_Z} {q : tc_Q} (X : tc_Cx ({ frames := 2, cells := 0, slots := 0, locals := 56 } : Room) cX0_findJoinLoss 8 RX0 Z) (hr : tc_Rt 3 cX0_findJoinLoss 8 Z q) : tc_Ok 8 Z 34 (bkX0_findJoinLoss_34 (tc_At 8 Z) q) := by
  unfold bkX0_findJoinLoss_34
  refine to_aload_n (pc := 34) X dX0_findJoinLoss_34 rfl ?_
  refine to_lconst (pc := 35) X dX0_findJoinLoss_35 (by decide) ?_
  refine to_lconst (pc := 36) X dX0_findJoinLoss_36 (by decide) ?_
  refine cvX4_become (pc := 37) X wm_RX0_61 (by decide) dX0_findJoinLoss_37 ?_
  exact okX0_findJoinLoss_40 X hr
def bkX0_findJoinLoss_0 (P : Nat → tc_B) (q : tc_Q) : tc_B := tb_aload 0 <| tb_getf 0 2 <| tb_iload 1 <| tb_iald <| tb_i2l <| tb_lstore 4 <| tb_aload 0 <| tb_getf 0 2 <| tb_iload 1 <| tb_i 1 <| tb_iadd <| tb_iald <| tb_i2l <| tb_lstore 6 <| tb_lload 4 <| tb_j 0 <| tb_lcmp <| tb_if_eq (tb_cut (P 34) [3]) <| tb_lload 6 <| tb_j 0 <| tb_lcmp <| tb_if_ne (tb_aload 3 <| tb_aload 0 <| tb_getf 0 3 <| tb_iload 1 <| tb_iald <| tb_i2l <| tb_lload 6 <| tb_lmul <| tb_aload 0 <| tb_getf 0 3 <| tb_iload 1 <| tb_i 1 <| tb_iadd <| tb_iald <| tb_i2l <| tb_lload 4 <| tb_lmul <| tb_lsub <| tb_callS 1 2 RX0_squared <| bkX0_findJoinLoss_68 P q) <| tb_cut (P 34) [3]
theorem okX0_findJoinLoss_0 {Z : tc_Z} {q : tc_Q} (X : tc_Cx ({ frames := 2, cells := 0, slots := 0, locals := 56 } : Room) cX0_findJoinLoss 8 RX0 Z) (hr : tc_Rt 3 cX0_findJoinLoss 8 Z q) : tc_Ok 8 Z 0 (bkX0_findJoinLoss_0 (tc_At 8 Z) q) := by
  unfold bkX0_findJoinLoss_0
  refine to_aload_n (pc := 0) X dX0_findJoinLoss_0 rfl ?_
  refine gfX0_2 (pc := 1) X wf_RX0_19 dX0_findJoinLoss_1 ?_
  refine to_iload_n (pc := 4) X dX0_findJoinLoss_4 rfl ?_
  refine to_iald (pc := 5) X dX0_findJoinLoss_5 ?_
  refine to_i2l (pc := 6) X dX0_findJoinLoss_6 ?_
  refine to_lstore (pc := 7) X dX0_findJoinLoss_7 (by decide) ?_
  refine to_aload_n (pc := 9) X dX0_findJoinLoss_9 rfl ?_
  refine gfX0_2 (pc := 10) X wf_RX0_19 dX0_findJoinLoss_10 ?_
  refine to_iload_n (pc := 13) X dX0_findJoinLoss_13 rfl ?_
  refine to_iconst (pc := 14) X dX0_findJoinLoss_14 (by decide) ?_
  refine to_iadd (pc := 15) X dX0_findJoinLoss_15 ?_
  refine to_iald (pc := 16) X dX0_findJoinLoss_16 ?_
  refine to_i2l (pc := 17) X dX0_findJoinLoss_17 ?_
  refine to_lstore (pc := 18) X dX0_findJoinLoss_18 (by decide) ?_
  refine to_lload (pc := 20) X dX0_findJoinLoss_20 ?_
  refine to_lconst (pc := 22) X dX0_findJoinLoss_22 (by decide) ?_
  refine to_lcmp (pc := 23) X dX0_findJoinLoss_23 ?_
  refine to_if_eq (pc := 24) (tgt := 34) X dX0_findJoinLoss_24 (by decide) ?_ ?_
  · exact to_cut [3] (fun _ _ _ h => h)
  refine to_lload (pc := 27) X dX0_findJoinLoss_27 ?_
  refine to_lconst (pc := 29) X dX0_findJoinLoss_29 (by decide) ?_
  refine to_lcmp (pc := 30) X dX0_findJoinLoss_30 ?_
  refine to_if_ne (pc := 31) (tgt := 41) X dX0_findJoinLoss_31 (by decide) ?_ ?_
  · refine to_aload_n (pc := 41) X dX0_findJoinLoss_41 rfl ?_
    refine to_aload_n (pc := 42) X dX0_findJoinLoss_42 rfl ?_
    refine gfX0_3 (pc := 43) X wf_RX0_22 dX0_findJoinLoss_43 ?_
    refine to_iload_n (pc := 46) X dX0_findJoinLoss_46 rfl ?_
    refine to_iald (pc := 47) X dX0_findJoinLoss_47 ?_
    refine to_i2l (pc := 48) X dX0_findJoinLoss_48 ?_
    refine to_lload (pc := 49) X dX0_findJoinLoss_49 ?_
    refine to_lmul (pc := 51) X dX0_findJoinLoss_51 ?_
    refine to_aload_n (pc := 52) X dX0_findJoinLoss_52 rfl ?_
    refine gfX0_3 (pc := 53) X wf_RX0_22 dX0_findJoinLoss_53 ?_
    refine to_iload_n (pc := 56) X dX0_findJoinLoss_56 rfl ?_
    refine to_iconst (pc := 57) X dX0_findJoinLoss_57 (by decide) ?_
    refine to_iadd (pc := 58) X dX0_findJoinLoss_58 ?_
    refine to_iald (pc := 59) X dX0_findJoinLoss_59 ?_
    refine to_i2l (pc := 60) X dX0_findJoinLoss_60 ?_
    refine to_lload (pc := 61) X dX0_findJoinLoss_61 ?_
    refine to_lmul (pc := 63) X dX0_findJoinLoss_63 ?_
    refine to_lsub (pc := 64) X dX0_findJoinLoss_64 ?_
    refine cvX0_squared (pc := 65) X wm_RX0_82 (by decide) dX0_findJoinLoss_65 ?_
    exact okX0_findJoinLoss_68 X hr
  exact to_cut [3] (fun _ _ _ h => h)
def RX0_findJoinLoss (vs : List tc_V) (S : tc_S) (q : tc_Q) : Prop := ∀ P : Nat → tc_B, (∀ L K S, bkX0_findJoinLoss_34 P q L K S → P 34 L K S) → bkX0_findJoinLoss_0 P q (tc_num 0 vs) [] S
theorem metX0_findJoinLoss : tc_Met yX0_findJoinLoss (Cond.code yX0_findJoinLoss cX0_findJoinLoss 8 none) ({ frames := 2, cells := 0, slots := 0, locals := 56 } : Room) 3 8 RX0_findJoinLoss := tc_met (rk := 3) (by decide) ⟨rfl, rfl⟩ (fun Z q X hr vs S h => okX0_findJoinLoss_0 X hr _ _ _ (h (tc_At 8 Z) (okX0_findJoinLoss_34 X hr)))
theorem cvX0_findJoinLoss {R : Room} {cc : ByteArray} {nL pc ix : Nat} {own : String} {Z : tc_Z} {k : tc_B} (X : tc_Cx R cc nL own Z) (h1 : Cond.methodLink own ix yX0_findJoinLoss ∈ tc_tb) (hR : 2 + 1 ≤ R.frames ∧ 8 + (8 + 11) + 56 ≤ R.locals) (hd : decode cc pc = .ok (.invokevirtual ix, 3)) (h : tc_Ok nL Z (pc + 3) k) : tc_Ok nL Z pc (tb_callV 3 8 0 RX0_findJoinLoss k) := to_callV X metX0_findJoinLoss rfl ⟨rfl, rfl⟩ hR h1 wi_X0_findJoinLoss wl_X0_findJoinLoss wn_RX0 wc_X0_findJoinLoss ⟨by decide +kernel, by decide +kernel, by decide +kernel, by decide +kernel⟩ hd h
def bkX9_codeAt_0 (P : Nat → tc_B) (q : tc_Q) : tc_B := tb_iload 1 <| tb_if_lt (tb_i (-9) <| tb_iret q) <| tb_iload 1 <| tb_aload 0 <| tb_getf 7 1 <| tb_icmp_ge (tb_i (-9) <| tb_iret q) <| tb_aload 0 <| tb_getf 7 0 <| tb_iload 1 <| tb_iald <| tb_iret q
theorem okX9_codeAt_0 {Z : tc_Z} {q : tc_Q} (X : tc_Cx ({ frames := 0, cells := 0, slots := 0, locals := 0 } : Room) cX9_codeAt 2 RX9 Z) (hr : tc_Rt 0 cX9_codeAt 2 Z q) : tc_Ok 2 Z 0 (bkX9_codeAt_0 (tc_At 2 Z) q) := by
  unfold bkX9_codeAt_0
  refine to_iload_n (pc := 0) X dX9_codeAt_0 rfl ?_
  refine to_if_lt (pc := 1) (tgt := 21) X dX9_codeAt_1 (by decide) ?_ ?_
  · refine to_bipush (pc := 21) X dX9_codeAt_21 (by decide) ?_
    exact to_iret (pc := 23) hr dX9_codeAt_23
  refine to_iload_n (pc := 4) X dX9_codeAt_4 rfl ?_
  refine to_aload_n (pc := 5) X dX9_codeAt_5 rfl ?_
  refine gfX9_1 (pc := 6) X wf_RX9_15 dX9_codeAt_6 ?_
  refine to_icmp_ge (pc := 9) (tgt := 21) X dX9_codeAt_9 (by decide) ?_ ?_
  · refine to_bipush (pc := 21) X dX9_codeAt_21 (by decide) ?_
    exact to_iret (pc := 23) hr dX9_codeAt_23
  refine to_aload_n (pc := 12) X dX9_codeAt_12 rfl ?_
  refine gfX9_0 (pc := 13) X wf_RX9_9 dX9_codeAt_13 ?_
  refine to_iload_n (pc := 16) X dX9_codeAt_16 rfl ?_
  refine to_iald (pc := 17) X dX9_codeAt_17 ?_
  refine to_goto (pc := 18) (tgt := 23) X dX9_codeAt_18 (by decide) ?_
  exact to_iret (pc := 23) hr dX9_codeAt_23
def RX9_codeAt (vs : List tc_V) (S : tc_S) (q : tc_Q) : Prop := ∀ P : Nat → tc_B, bkX9_codeAt_0 P q (tc_num 0 vs) [] S
theorem metX9_codeAt : tc_Met yX9_codeAt (Cond.code yX9_codeAt cX9_codeAt 2 (some .int)) ({ frames := 0, cells := 0, slots := 0, locals := 0 } : Room) 0 2 RX9_codeAt := tc_met (rk := 0) (by decide) ⟨rfl, rfl⟩ (fun Z q X hr vs S h => okX9_codeAt_0 X hr _ _ _ (h (tc_At 2 Z)))
theorem cvX9_codeAt {R : Room} {cc : ByteArray} {nL pc ix : Nat} {own : String} {Z : tc_Z} {k : tc_B} (X : tc_Cx R cc nL own Z) (h1 : Cond.methodLink own ix yX9_codeAt ∈ tc_tb) (hR : 0 + 1 ≤ R.frames ∧ 8 + (2 + 11) + 0 ≤ R.locals) (hd : decode cc pc = .ok (.invokevirtual ix, 3)) (h : tc_Ok nL Z (pc + 3) k) : tc_Ok nL Z pc (tb_callV 1 2 7 RX9_codeAt k) := to_callV X metX9_codeAt rfl ⟨rfl, rfl⟩ hR h1 wi_X9_codeAt wl_X9_codeAt wn_RX9 wc_X9_codeAt ⟨by decide +kernel, by decide +kernel, by decide +kernel, by decide +kernel⟩ hd h
def bkX9_sharedWith_20 (P : Nat → tc_B) (q : tc_Q) : tc_B := tb_icmp_ne (tb_iload 2 <| tb_iret q) <| tb_iinc 2 1 <| tb_cut (P 2) [0, 1, 2]
theorem okX9_sharedWith_20 {Z : tc_Z} {q : tc_Q} (X : tc_Cx ({ frames := 4, cells := 0, slots := 0, locals := 87 } : Room) cX9_sharedWith 3 RX9 Z) (hr : tc_Rt 0 cX9_sharedWith 3 Z q) : tc_Ok 3 Z 20 (bkX9_sharedWith_20 (tc_At 3 Z) q) := by
  unfold bkX9_sharedWith_20
  refine to_icmp_ne (pc := 20) (tgt := 29) X dX9_sharedWith_20 (by decide) ?_ ?_
  · refine to_iload_n (pc := 29) X dX9_sharedWith_29 rfl ?_
    exact to_iret (pc := 30) hr dX9_sharedWith_30
  refine to_iinc (pc := 23) X dX9_sharedWith_23 (by decide) (by decide) ?_
  refine to_goto (pc := 26) (tgt := 2) X dX9_sharedWith_26 (by decide) ?_
  exact to_cut [0, 1, 2] (fun _ _ _ h => h)
def bkX9_sharedWith_15 (P : Nat → tc_B) (q : tc_Q) : tc_B := tb_aload 1 <| tb_iload 2 <| tb_callE 1 2 3 10 RJ0_charAt_5068e <| bkX9_sharedWith_20 P q
theorem okX9_sharedWith_15 {Z : tc_Z} {q : tc_Q} (X : tc_Cx ({ frames := 4, cells := 0, slots := 0, locals := 87 } : Room) cX9_sharedWith 3 RX9 Z) (hr : tc_Rt 0 cX9_sharedWith 3 Z q) : tc_Ok 3 Z 15 (bkX9_sharedWith_15 (tc_At 3 Z) q) := by
  unfold bkX9_sharedWith_15
  refine to_aload_n (pc := 15) X dX9_sharedWith_15 rfl ?_
  refine to_iload_n (pc := 16) X dX9_sharedWith_16 rfl ?_
  refine cvJ0_charAt_5068e (pc := 17) X wm_RX9_32 (by decide) dX9_sharedWith_17 ?_
  exact okX9_sharedWith_20 X hr
def bkX9_sharedWith_7 (P : Nat → tc_B) (q : tc_Q) : tc_B := tb_icmp_ge (tb_iload 2 <| tb_iret q) <| tb_aload 0 <| tb_iload 2 <| tb_callV 1 2 7 RX9_codeAt <| bkX9_sharedWith_15 P q
theorem okX9_sharedWith_7 {Z : tc_Z} {q : tc_Q} (X : tc_Cx ({ frames := 4, cells := 0, slots := 0, locals := 87 } : Room) cX9_sharedWith 3 RX9 Z) (hr : tc_Rt 0 cX9_sharedWith 3 Z q) : tc_Ok 3 Z 7 (bkX9_sharedWith_7 (tc_At 3 Z) q) := by
  unfold bkX9_sharedWith_7
  refine to_icmp_ge (pc := 7) (tgt := 29) X dX9_sharedWith_7 (by decide) ?_ ?_
  · refine to_iload_n (pc := 29) X dX9_sharedWith_29 rfl ?_
    exact to_iret (pc := 30) hr dX9_sharedWith_30
  refine to_aload_n (pc := 10) X dX9_sharedWith_10 rfl ?_
  refine to_iload_n (pc := 11) X dX9_sharedWith_11 rfl ?_
  refine cvX9_codeAt (pc := 12) X wm_RX9_28 (by decide) dX9_sharedWith_12 ?_
  exact okX9_sharedWith_15 X hr
def bkX9_sharedWith_2 (P : Nat → tc_B) (q : tc_Q) : tc_B := tb_iload 2 <| tb_aload 1 <| tb_callE 0 1 3 10 RJ0_length_8abf5 <| bkX9_sharedWith_7 P q
theorem okX9_sharedWith_2 {Z : tc_Z} {q : tc_Q} (X : tc_Cx ({ frames := 4, cells := 0, slots := 0, locals := 87 } : Room) cX9_sharedWith 3 RX9 Z) (hr : tc_Rt 0 cX9_sharedWith 3 Z q) : tc_Ok 3 Z 2 (bkX9_sharedWith_2 (tc_At 3 Z) q) := by
  unfold bkX9_sharedWith_2
  refine to_iload_n (pc := 2) X dX9_sharedWith_2 rfl ?_
  refine to_aload_n (pc := 3) X dX9_sharedWith_3 rfl ?_
  refine cvJ0_length_8abf5 (pc := 4) X wm_RX9_19 (by decide) dX9_sharedWith_4 ?_
  exact okX9_sharedWith_7 X hr
def bkX9_sharedWith_0 (P : Nat → tc_B) (q : tc_Q) : tc_B := tb_i 0 <| tb_istore 2 <| tb_cut (P 2) [0, 1, 2]
theorem okX9_sharedWith_0 {Z : tc_Z} {q : tc_Q} (X : tc_Cx ({ frames := 4, cells := 0, slots := 0, locals := 87 } : Room) cX9_sharedWith 3 RX9 Z) (hr : tc_Rt 0 cX9_sharedWith 3 Z q) : tc_Ok 3 Z 0 (bkX9_sharedWith_0 (tc_At 3 Z) q) := by
  unfold bkX9_sharedWith_0
  refine to_iconst (pc := 0) X dX9_sharedWith_0 (by decide) ?_
  refine to_istore_n (pc := 1) X dX9_sharedWith_1 rfl (by decide) ?_
  exact to_cut [0, 1, 2] (fun _ _ _ h => h)
def RX9_sharedWith (vs : List tc_V) (S : tc_S) (q : tc_Q) : Prop := ∀ P : Nat → tc_B, (∀ L K S, bkX9_sharedWith_2 P q L K S → P 2 L K S) → bkX9_sharedWith_0 P q (tc_num 0 vs) [] S
theorem metX9_sharedWith : tc_Met yX9_sharedWith (Cond.code yX9_sharedWith cX9_sharedWith 3 (some .int)) ({ frames := 4, cells := 0, slots := 0, locals := 87 } : Room) 0 3 RX9_sharedWith := tc_met (rk := 0) (by decide) ⟨rfl, rfl⟩ (fun Z q X hr vs S h => okX9_sharedWith_0 X hr _ _ _ (h (tc_At 3 Z) (okX9_sharedWith_2 X hr)))
theorem cvX9_sharedWith {R : Room} {cc : ByteArray} {nL pc ix : Nat} {own : String} {Z : tc_Z} {k : tc_B} (X : tc_Cx R cc nL own Z) (h1 : Cond.methodLink own ix yX9_sharedWith ∈ tc_tb) (hR : 4 + 1 ≤ R.frames ∧ 8 + (3 + 11) + 87 ≤ R.locals) (hd : decode cc pc = .ok (.invokevirtual ix, 3)) (h : tc_Ok nL Z (pc + 3) k) : tc_Ok nL Z pc (tb_callV 1 3 7 RX9_sharedWith k) := to_callV X metX9_sharedWith rfl ⟨rfl, rfl⟩ hR h1 wi_X9_sharedWith wl_X9_sharedWith wn_RX9 wc_X9_sharedWith ⟨by decide +kernel, by decide +kernel, by decide +kernel, by decide +kernel⟩ hd h
def bkX5_readNumber_36 (P : Nat → tc_B) (q : tc_Q) : tc_B := tb_aload 0 <| tb_getf 4 0 <| tb_iload 2 <| tb_iload 4 <| tb_iast <| tb_iload 5 <| tb_if_le (tb_i 0 <| tb_zret q) <| tb_i 1 <| tb_zret q
theorem okX5_readNumber_36 {Z : tc_Z} {q : tc_Q} (X : tc_Cx ({ frames := 1, cells := 0, slots := 0, locals := 21 } : Room) cX5_readNumber 7 RX5 Z) (hr : tc_Rt 1 cX5_readNumber 7 Z q) : tc_Ok 7 Z 36 (bkX5_readNumber_36 (tc_At 7 Z) q) := by
  unfold bkX5_readNumber_36
  refine to_aload_n (pc := 36) X dX5_readNumber_36 rfl ?_
  refine gfX5_0 (pc := 37) X wf_RX5_9 dX5_readNumber_37 ?_
  refine to_iload_n (pc := 40) X dX5_readNumber_40 rfl ?_
  refine to_iload (pc := 41) X dX5_readNumber_41 ?_
  refine to_iast (pc := 43) X dX5_readNumber_43 ?_
  refine to_iload (pc := 44) X dX5_readNumber_44 ?_
  refine to_if_le (pc := 46) (tgt := 53) X dX5_readNumber_46 (by decide) ?_ ?_
  · refine to_iconst (pc := 53) X dX5_readNumber_53 (by decide) ?_
    exact to_zret (pc := 54) hr dX5_readNumber_54
  refine to_iconst (pc := 49) X dX5_readNumber_49 (by decide) ?_
  refine to_goto (pc := 50) (tgt := 54) X dX5_readNumber_50 (by decide) ?_
  exact to_zret (pc := 54) hr dX5_readNumber_54
def bkX5_readNumber_20 (P : Nat → tc_B) (q : tc_Q) : tc_B := tb_istore 6 <| tb_iload 6 <| tb_i 48 <| tb_icmp_lt (tb_cut (P 36) [0, 2, 4, 5]) <| tb_iload 6 <| tb_i 57 <| tb_icmp_le (tb_iload 4 <| tb_i 10 <| tb_imul <| tb_iload 6 <| tb_iadd <| tb_i 48 <| tb_isub <| tb_istore 4 <| tb_iload 4 <| tb_iload 3 <| tb_icmp_le (tb_aload 0 <| tb_dup <| tb_getf 4 2 <| tb_i 1 <| tb_iadd <| tb_putI 4 2 <| tb_iinc 5 1 <| tb_cut (P 6) [0, 1, 2, 3, 4, 5]) <| tb_i 0 <| tb_zret q) <| tb_cut (P 36) [0, 2, 4, 5]
theorem okX5_readNumber_20 {Z : tc_Z} {q : tc_Q} (X : tc_Cx ({ frames := 1, cells := 0, slots := 0, locals := 21 } : Room) cX5_readNumber 7 RX5 Z) (hr : tc_Rt 1 cX5_readNumber 7 Z q) : tc_Ok 7 Z 20 (bkX5_readNumber_20 (tc_At 7 Z) q) := by
  unfold bkX5_readNumber_20
  refine to_istore (pc := 20) X dX5_readNumber_20 (by decide) ?_
  refine to_iload (pc := 22) X dX5_readNumber_22 ?_
  refine to_bipush (pc := 24) X dX5_readNumber_24 (by decide) ?_
  refine to_icmp_lt (pc := 26) (tgt := 36) X dX5_readNumber_26 (by decide) ?_ ?_
  · exact to_cut [0, 2, 4, 5] (fun _ _ _ h => h)
  refine to_iload (pc := 29) X dX5_readNumber_29 ?_
  refine to_bipush (pc := 31) X dX5_readNumber_31 (by decide) ?_
  refine to_icmp_le (pc := 33) (tgt := 55) X dX5_readNumber_33 (by decide) ?_ ?_
  · refine to_iload (pc := 55) X dX5_readNumber_55 ?_
    refine to_bipush (pc := 57) X dX5_readNumber_57 (by decide) ?_
    refine to_imul (pc := 59) X dX5_readNumber_59 ?_
    refine to_iload (pc := 60) X dX5_readNumber_60 ?_
    refine to_iadd (pc := 62) X dX5_readNumber_62 ?_
    refine to_bipush (pc := 63) X dX5_readNumber_63 (by decide) ?_
    refine to_isub (pc := 65) X dX5_readNumber_65 ?_
    refine to_istore (pc := 66) X dX5_readNumber_66 (by decide) ?_
    refine to_iload (pc := 68) X dX5_readNumber_68 ?_
    refine to_iload_n (pc := 70) X dX5_readNumber_70 rfl ?_
    refine to_icmp_le (pc := 71) (tgt := 76) X dX5_readNumber_71 (by decide) ?_ ?_
    · refine to_aload_n (pc := 76) X dX5_readNumber_76 rfl ?_
      refine to_dup (pc := 77) X dX5_readNumber_77 ?_
      refine gfX5_2 (pc := 78) X wf_RX5_19 dX5_readNumber_78 ?_
      refine to_iconst (pc := 81) X dX5_readNumber_81 (by decide) ?_
      refine to_iadd (pc := 82) X dX5_readNumber_82 ?_
      refine pfX5_2 (pc := 83) X wf_RX5_19 dX5_readNumber_83 ?_
      refine to_iinc (pc := 86) X dX5_readNumber_86 (by decide) (by decide) ?_
      refine to_goto (pc := 89) (tgt := 6) X dX5_readNumber_89 (by decide) ?_
      exact to_cut [0, 1, 2, 3, 4, 5] (fun _ _ _ h => h)
    refine to_iconst (pc := 74) X dX5_readNumber_74 (by decide) ?_
    exact to_zret (pc := 75) hr dX5_readNumber_75
  exact to_cut [0, 2, 4, 5] (fun _ _ _ h => h)
def bkX5_readNumber_6 (P : Nat → tc_B) (q : tc_Q) : tc_B := tb_iload 5 <| tb_i 3 <| tb_icmp_ge (tb_aload 0 <| tb_getf 4 0 <| tb_iload 2 <| tb_iload 4 <| tb_iast <| tb_i 1 <| tb_zret q) <| tb_aload 1 <| tb_aload 0 <| tb_getf 4 2 <| tb_callV 1 2 7 RX9_codeAt <| bkX5_readNumber_20 P q
theorem okX5_readNumber_6 {Z : tc_Z} {q : tc_Q} (X : tc_Cx ({ frames := 1, cells := 0, slots := 0, locals := 21 } : Room) cX5_readNumber 7 RX5 Z) (hr : tc_Rt 1 cX5_readNumber 7 Z q) : tc_Ok 7 Z 6 (bkX5_readNumber_6 (tc_At 7 Z) q) := by
  unfold bkX5_readNumber_6
  refine to_iload (pc := 6) X dX5_readNumber_6 ?_
  refine to_iconst (pc := 8) X dX5_readNumber_8 (by decide) ?_
  refine to_icmp_ge (pc := 9) (tgt := 92) X dX5_readNumber_9 (by decide) ?_ ?_
  · refine to_aload_n (pc := 92) X dX5_readNumber_92 rfl ?_
    refine gfX5_0 (pc := 93) X wf_RX5_9 dX5_readNumber_93 ?_
    refine to_iload_n (pc := 96) X dX5_readNumber_96 rfl ?_
    refine to_iload (pc := 97) X dX5_readNumber_97 ?_
    refine to_iast (pc := 99) X dX5_readNumber_99 ?_
    refine to_iconst (pc := 100) X dX5_readNumber_100 (by decide) ?_
    exact to_zret (pc := 101) hr dX5_readNumber_101
  refine to_aload_n (pc := 12) X dX5_readNumber_12 rfl ?_
  refine to_aload_n (pc := 13) X dX5_readNumber_13 rfl ?_
  refine gfX5_2 (pc := 14) X wf_RX5_19 dX5_readNumber_14 ?_
  refine cvX9_codeAt (pc := 17) X wm_RX5_43 (by decide) dX5_readNumber_17 ?_
  exact okX5_readNumber_20 X hr
def bkX5_readNumber_0 (P : Nat → tc_B) (q : tc_Q) : tc_B := tb_i 0 <| tb_istore 4 <| tb_i 0 <| tb_istore 5 <| tb_cut (P 6) [0, 1, 2, 3, 4, 5]
theorem okX5_readNumber_0 {Z : tc_Z} {q : tc_Q} (X : tc_Cx ({ frames := 1, cells := 0, slots := 0, locals := 21 } : Room) cX5_readNumber 7 RX5 Z) (hr : tc_Rt 1 cX5_readNumber 7 Z q) : tc_Ok 7 Z 0 (bkX5_readNumber_0 (tc_At 7 Z) q) := by
  unfold bkX5_readNumber_0
  refine to_iconst (pc := 0) X dX5_readNumber_0 (by decide) ?_
  refine to_istore (pc := 1) X dX5_readNumber_1 (by decide) ?_
  refine to_iconst (pc := 3) X dX5_readNumber_3 (by decide) ?_
  refine to_istore (pc := 4) X dX5_readNumber_4 (by decide) ?_
  exact to_cut [0, 1, 2, 3, 4, 5] (fun _ _ _ h => h)
def RX5_readNumber (vs : List tc_V) (S : tc_S) (q : tc_Q) : Prop := ∀ P : Nat → tc_B, (∀ L K S, bkX5_readNumber_6 P q L K S → P 6 L K S) → (∀ L K S, bkX5_readNumber_36 P q L K S → P 36 L K S) → bkX5_readNumber_0 P q (tc_num 0 vs) [] S
theorem metX5_readNumber : tc_Met yX5_readNumber (Cond.code yX5_readNumber cX5_readNumber 7 (some .boolean)) ({ frames := 1, cells := 0, slots := 0, locals := 21 } : Room) 1 7 RX5_readNumber := tc_met (rk := 1) (by decide) ⟨rfl, rfl⟩ (fun Z q X hr vs S h => okX5_readNumber_0 X hr _ _ _ (h (tc_At 7 Z) (okX5_readNumber_6 X hr) (okX5_readNumber_36 X hr)))
theorem cvX5_readNumber {R : Room} {cc : ByteArray} {nL pc ix : Nat} {own : String} {Z : tc_Z} {k : tc_B} (X : tc_Cx R cc nL own Z) (h1 : Cond.methodLink own ix yX5_readNumber ∈ tc_tb) (hR : 1 + 1 ≤ R.frames ∧ 8 + (7 + 11) + 21 ≤ R.locals) (hd : decode cc pc = .ok (.invokevirtual ix, 3)) (h : tc_Ok nL Z (pc + 3) k) : tc_Ok nL Z pc (tb_callV 3 7 4 RX5_readNumber k) := to_callV X metX5_readNumber rfl ⟨rfl, rfl⟩ hR h1 wi_X5_readNumber wl_X5_readNumber wn_RX5 wc_X5_readNumber ⟨by decide +kernel, by decide +kernel, by decide +kernel, by decide +kernel⟩ hd h
def bkX5_reach_125 (P : Nat → tc_B) (q : tc_Q) : tc_B := tb_putZ 4 1 <| tb_aload 0 <| tb_getf 4 2 <| tb_iret q
theorem okX5_reach_125 {Z : tc_Z} {q : tc_Q} (X : tc_Cx ({ frames := 5, cells := 0, slots := 0, locals := 109 } : Room) cX5_reach 4 RX5 Z) (hr : tc_Rt 0 cX5_reach 4 Z q) : tc_Ok 4 Z 125 (bkX5_reach_125 (tc_At 4 Z) q) := by
  unfold bkX5_reach_125
  refine pfX5_1 (pc := 125) X wf_RX5_15 dX5_reach_125 ?_
  refine to_aload_n (pc := 128) X dX5_reach_128 rfl ?_
  refine gfX5_2 (pc := 129) X wf_RX5_19 dX5_reach_129 ?_
  exact to_iret (pc := 132) hr dX5_reach_132
def bkX5_reach_108 (P : Nat → tc_B) (q : tc_Q) : tc_B := tb_aload 0 <| tb_aload 0 <| tb_getf 4 2 <| tb_aload 1 <| tb_getf 7 1 <| tb_icmp_ne (tb_i 0 <| tb_cut (P 125) [0]) <| tb_i 1 <| tb_cut (P 125) [0]
theorem okX5_reach_108 {Z : tc_Z} {q : tc_Q} (X : tc_Cx ({ frames := 5, cells := 0, slots := 0, locals := 109 } : Room) cX5_reach 4 RX5 Z) (hr : tc_Rt 0 cX5_reach 4 Z q) : tc_Ok 4 Z 108 (bkX5_reach_108 (tc_At 4 Z) q) := by
  unfold bkX5_reach_108
  refine to_aload_n (pc := 108) X dX5_reach_108 rfl ?_
  refine to_aload_n (pc := 109) X dX5_reach_109 rfl ?_
  refine gfX5_2 (pc := 110) X wf_RX5_19 dX5_reach_110 ?_
  refine to_aload_n (pc := 113) X dX5_reach_113 rfl ?_
  refine gfX9_1 (pc := 114) X wf_RX5_54 dX5_reach_114 ?_
  refine to_icmp_ne (pc := 117) (tgt := 124) X dX5_reach_117 (by decide) ?_ ?_
  · refine to_iconst (pc := 124) X dX5_reach_124 (by decide) ?_
    exact to_cut [0] (fun _ _ _ h => h)
  refine to_iconst (pc := 120) X dX5_reach_120 (by decide) ?_
  refine to_goto (pc := 121) (tgt := 125) X dX5_reach_121 (by decide) ?_
  exact to_cut [0] (fun _ _ _ h => h)
def bkX5_reach_94 (P : Nat → tc_B) (q : tc_Q) : tc_B := tb_if_ne (tb_iinc 3 1 <| tb_cut (P 38) [0, 1, 2, 3]) <| tb_aload 0 <| tb_getf 4 2 <| tb_iret q
theorem okX5_reach_94 {Z : tc_Z} {q : tc_Q} (X : tc_Cx ({ frames := 5, cells := 0, slots := 0, locals := 109 } : Room) cX5_reach 4 RX5 Z) (hr : tc_Rt 0 cX5_reach 4 Z q) : tc_Ok 4 Z 94 (bkX5_reach_94 (tc_At 4 Z) q) := by
  unfold bkX5_reach_94
  refine to_if_ne (pc := 94) (tgt := 102) X dX5_reach_94 (by decide) ?_ ?_
  · refine to_iinc (pc := 102) X dX5_reach_102 (by decide) (by decide) ?_
    refine to_goto (pc := 105) (tgt := 38) X dX5_reach_105 (by decide) ?_
    exact to_cut [0, 1, 2, 3] (fun _ _ _ h => h)
  refine to_aload_n (pc := 97) X dX5_reach_97 rfl ?_
  refine gfX5_2 (pc := 98) X wf_RX5_19 dX5_reach_98 ?_
  exact to_iret (pc := 101) hr dX5_reach_101
def bkX5_reach_91 (P : Nat → tc_B) (q : tc_Q) : tc_B := tb_callV 3 7 4 RX5_readNumber <| bkX5_reach_94 P q
theorem okX5_reach_91 {Z : tc_Z} {q : tc_Q} (X : tc_Cx ({ frames := 5, cells := 0, slots := 0, locals := 109 } : Room) cX5_reach 4 RX5 Z) (hr : tc_Rt 0 cX5_reach 4 Z q) : tc_Ok 4 Z 91 (bkX5_reach_91 (tc_At 4 Z) q) := by
  unfold bkX5_reach_91
  refine cvX5_readNumber (pc := 91) X wm_RX5_50 (by decide) dX5_reach_91 ?_
  exact okX5_reach_94 X hr
def bkX5_reach_63 (P : Nat → tc_B) (q : tc_Q) : tc_B := tb_i 32 <| tb_icmp_eq (tb_aload 0 <| tb_dup <| tb_getf 4 2 <| tb_i 1 <| tb_iadd <| tb_putI 4 2 <| tb_aload 0 <| tb_aload 1 <| tb_iload 3 <| tb_aload 2 <| tb_iload 3 <| tb_callE 1 2 2 6 RX3_greatest <| bkX5_reach_91 P q) <| tb_aload 0 <| tb_getf 4 2 <| tb_iret q
theorem okX5_reach_63 {Z : tc_Z} {q : tc_Q} (X : tc_Cx ({ frames := 5, cells := 0, slots := 0, locals := 109 } : Room) cX5_reach 4 RX5 Z) (hr : tc_Rt 0 cX5_reach 4 Z q) : tc_Ok 4 Z 63 (bkX5_reach_63 (tc_At 4 Z) q) := by
  unfold bkX5_reach_63
  refine to_bipush (pc := 63) X dX5_reach_63 (by decide) ?_
  refine to_icmp_eq (pc := 65) (tgt := 73) X dX5_reach_65 (by decide) ?_ ?_
  · refine to_aload_n (pc := 73) X dX5_reach_73 rfl ?_
    refine to_dup (pc := 74) X dX5_reach_74 ?_
    refine gfX5_2 (pc := 75) X wf_RX5_19 dX5_reach_75 ?_
    refine to_iconst (pc := 78) X dX5_reach_78 (by decide) ?_
    refine to_iadd (pc := 79) X dX5_reach_79 ?_
    refine pfX5_2 (pc := 80) X wf_RX5_19 dX5_reach_80 ?_
    refine to_aload_n (pc := 83) X dX5_reach_83 rfl ?_
    refine to_aload_n (pc := 84) X dX5_reach_84 rfl ?_
    refine to_iload_n (pc := 85) X dX5_reach_85 rfl ?_
    refine to_aload_n (pc := 86) X dX5_reach_86 rfl ?_
    refine to_iload_n (pc := 87) X dX5_reach_87 rfl ?_
    refine cvX3_greatest (pc := 88) X wm_RX5_47 (by decide) dX5_reach_88 ?_
    exact okX5_reach_91 X hr
  refine to_aload_n (pc := 68) X dX5_reach_68 rfl ?_
  refine gfX5_2 (pc := 69) X wf_RX5_19 dX5_reach_69 ?_
  exact to_iret (pc := 72) hr dX5_reach_72
def bkX5_reach_38 (P : Nat → tc_B) (q : tc_Q) : tc_B := tb_iload 3 <| tb_aload 2 <| tb_getE 2 6 (fun i => tc_I ([3, 2, 1, 1, 1, 2].getD i 0)) <| tb_icmp_ge (tb_cut (P 108) [0, 1]) <| tb_iload 3 <| tb_aload 0 <| tb_getf 4 0 <| tb_alen <| tb_icmp_ge (tb_cut (P 108) [0, 1]) <| tb_aload 1 <| tb_aload 0 <| tb_getf 4 2 <| tb_callV 1 2 7 RX9_codeAt <| bkX5_reach_63 P q
theorem okX5_reach_38 {Z : tc_Z} {q : tc_Q} (X : tc_Cx ({ frames := 5, cells := 0, slots := 0, locals := 109 } : Room) cX5_reach 4 RX5 Z) (hr : tc_Rt 0 cX5_reach 4 Z q) : tc_Ok 4 Z 38 (bkX5_reach_38 (tc_At 4 Z) q) := by
  unfold bkX5_reach_38
  refine to_iload_n (pc := 38) X dX5_reach_38 rfl ?_
  refine to_aload_n (pc := 39) X dX5_reach_39 rfl ?_
  refine to_getE (pc := 40) X (List.mem_of_getElem? (i := 3) rfl) wf_RX5_41 dX5_reach_40 ?_
  refine to_icmp_ge (pc := 43) (tgt := 108) X dX5_reach_43 (by decide) ?_ ?_
  · exact to_cut [0, 1] (fun _ _ _ h => h)
  refine to_iload_n (pc := 46) X dX5_reach_46 rfl ?_
  refine to_aload_n (pc := 47) X dX5_reach_47 rfl ?_
  refine gfX5_0 (pc := 48) X wf_RX5_9 dX5_reach_48 ?_
  refine to_alen (pc := 51) X dX5_reach_51 ?_
  refine to_icmp_ge (pc := 52) (tgt := 108) X dX5_reach_52 (by decide) ?_ ?_
  · exact to_cut [0, 1] (fun _ _ _ h => h)
  refine to_aload_n (pc := 55) X dX5_reach_55 rfl ?_
  refine to_aload_n (pc := 56) X dX5_reach_56 rfl ?_
  refine gfX5_2 (pc := 57) X wf_RX5_19 dX5_reach_57 ?_
  refine cvX9_codeAt (pc := 60) X wm_RX5_43 (by decide) dX5_reach_60 ?_
  exact okX5_reach_63 X hr
def bkX5_reach_28 (P : Nat → tc_B) (q : tc_Q) : tc_B := tb_icmp_ge (tb_i 0 <| tb_istore 3 <| tb_cut (P 38) [0, 1, 2, 3]) <| tb_aload 0 <| tb_getf 4 2 <| tb_iret q
theorem okX5_reach_28 {Z : tc_Z} {q : tc_Q} (X : tc_Cx ({ frames := 5, cells := 0, slots := 0, locals := 109 } : Room) cX5_reach 4 RX5 Z) (hr : tc_Rt 0 cX5_reach 4 Z q) : tc_Ok 4 Z 28 (bkX5_reach_28 (tc_At 4 Z) q) := by
  unfold bkX5_reach_28
  refine to_icmp_ge (pc := 28) (tgt := 36) X dX5_reach_28 (by decide) ?_ ?_
  · refine to_iconst (pc := 36) X dX5_reach_36 (by decide) ?_
    refine to_istore_n (pc := 37) X dX5_reach_37 rfl (by decide) ?_
    exact to_cut [0, 1, 2, 3] (fun _ _ _ h => h)
  refine to_aload_n (pc := 31) X dX5_reach_31 rfl ?_
  refine gfX5_2 (pc := 32) X wf_RX5_19 dX5_reach_32 ?_
  exact to_iret (pc := 35) hr dX5_reach_35
def bkX5_reach_14 (P : Nat → tc_B) (q : tc_Q) : tc_B := tb_putI 4 2 <| tb_aload 0 <| tb_getf 4 2 <| tb_aload 2 <| tb_getE 2 6 (fun i => tc_R 3 (4 + i)) <| tb_callE 0 1 3 10 RJ0_length_8abf5 <| bkX5_reach_28 P q
theorem okX5_reach_14 {Z : tc_Z} {q : tc_Q} (X : tc_Cx ({ frames := 5, cells := 0, slots := 0, locals := 109 } : Room) cX5_reach 4 RX5 Z) (hr : tc_Rt 0 cX5_reach 4 Z q) : tc_Ok 4 Z 14 (bkX5_reach_14 (tc_At 4 Z) q) := by
  unfold bkX5_reach_14
  refine pfX5_2 (pc := 14) X wf_RX5_19 dX5_reach_14 ?_
  refine to_aload_n (pc := 17) X dX5_reach_17 rfl ?_
  refine gfX5_2 (pc := 18) X wf_RX5_19 dX5_reach_18 ?_
  refine to_aload_n (pc := 21) X dX5_reach_21 rfl ?_
  refine to_getE (pc := 22) X (List.mem_of_getElem? (i := 2) rfl) wf_RX5_23 dX5_reach_22 ?_
  refine cvJ0_length_8abf5 (pc := 25) X wm_RX5_35 (by decide) dX5_reach_25 ?_
  exact okX5_reach_28 X hr
def bkX5_reach_0 (P : Nat → tc_B) (q : tc_Q) : tc_B := tb_aload 0 <| tb_i 0 <| tb_putZ 4 1 <| tb_aload 0 <| tb_aload 1 <| tb_aload 2 <| tb_getE 2 6 (fun i => tc_R 3 (4 + i)) <| tb_callV 1 3 7 RX9_sharedWith <| bkX5_reach_14 P q
theorem okX5_reach_0 {Z : tc_Z} {q : tc_Q} (X : tc_Cx ({ frames := 5, cells := 0, slots := 0, locals := 109 } : Room) cX5_reach 4 RX5 Z) (hr : tc_Rt 0 cX5_reach 4 Z q) : tc_Ok 4 Z 0 (bkX5_reach_0 (tc_At 4 Z) q) := by
  unfold bkX5_reach_0
  refine to_aload_n (pc := 0) X dX5_reach_0 rfl ?_
  refine to_iconst (pc := 1) X dX5_reach_1 (by decide) ?_
  refine pfX5_1 (pc := 2) X wf_RX5_15 dX5_reach_2 ?_
  refine to_aload_n (pc := 5) X dX5_reach_5 rfl ?_
  refine to_aload_n (pc := 6) X dX5_reach_6 rfl ?_
  refine to_aload_n (pc := 7) X dX5_reach_7 rfl ?_
  refine to_getE (pc := 8) X (List.mem_of_getElem? (i := 2) rfl) wf_RX5_23 dX5_reach_8 ?_
  refine cvX9_sharedWith (pc := 11) X wm_RX5_29 (by decide) dX5_reach_11 ?_
  exact okX5_reach_14 X hr
def RX5_reach (vs : List tc_V) (S : tc_S) (q : tc_Q) : Prop := ∀ P : Nat → tc_B, (∀ L K S, bkX5_reach_38 P q L K S → P 38 L K S) → (∀ L K S, bkX5_reach_108 P q L K S → P 108 L K S) → (∀ L K S, bkX5_reach_125 P q L K S → P 125 L K S) → bkX5_reach_0 P q (tc_num 0 vs) [] S
theorem metX5_reach : tc_Met yX5_reach (Cond.code yX5_reach cX5_reach 4 (some .int)) ({ frames := 5, cells := 0, slots := 0, locals := 109 } : Room) 0 4 RX5_reach := tc_met (rk := 0) (by decide) ⟨rfl, rfl⟩ (fun Z q X hr vs S h => okX5_reach_0 X hr _ _ _ (h (tc_At 4 Z) (okX5_reach_38 X hr) (okX5_reach_108 X hr) (okX5_reach_125 X hr)))
theorem cvX5_reach {R : Room} {cc : ByteArray} {nL pc ix : Nat} {own : String} {Z : tc_Z} {k : tc_B} (X : tc_Cx R cc nL own Z) (h1 : Cond.methodLink own ix yX5_reach ∈ tc_tb) (hR : 5 + 1 ≤ R.frames ∧ 8 + (4 + 11) + 109 ≤ R.locals) (hd : decode cc pc = .ok (.invokevirtual ix, 3)) (h : tc_Ok nL Z (pc + 3) k) : tc_Ok nL Z pc (tb_callV 2 4 4 RX5_reach k) := to_callV X metX5_reach rfl ⟨rfl, rfl⟩ hR h1 wi_X5_reach wl_X5_reach wn_RX5 wc_X5_reach ⟨by decide +kernel, by decide +kernel, by decide +kernel, by decide +kernel⟩ hd h
def bkX6_clear_0 (P : Nat → tc_B) (q : tc_Q) : tc_B := tb_aload 0 <| tb_i 0 <| tb_putI 5 1 <| tb_vret q
theorem okX6_clear_0 {Z : tc_Z} {q : tc_Q} (X : tc_Cx ({ frames := 0, cells := 0, slots := 0, locals := 0 } : Room) cX6_clear 1 RX6 Z) (hr : tc_Rt 3 cX6_clear 1 Z q) : tc_Ok 1 Z 0 (bkX6_clear_0 (tc_At 1 Z) q) := by
  unfold bkX6_clear_0
  refine to_aload_n (pc := 0) X dX6_clear_0 rfl ?_
  refine to_iconst (pc := 1) X dX6_clear_1 (by decide) ?_
  refine pfX6_1 (pc := 2) X wf_RX6_15 dX6_clear_2 ?_
  exact to_vret (pc := 5) hr dX6_clear_5
def RX6_clear (vs : List tc_V) (S : tc_S) (q : tc_Q) : Prop := ∀ P : Nat → tc_B, bkX6_clear_0 P q (tc_num 0 vs) [] S
theorem metX6_clear : tc_Met yX6_clear (Cond.code yX6_clear cX6_clear 1 none) ({ frames := 0, cells := 0, slots := 0, locals := 0 } : Room) 3 1 RX6_clear := tc_met (rk := 3) (by decide) ⟨rfl, rfl⟩ (fun Z q X hr vs S h => okX6_clear_0 X hr _ _ _ (h (tc_At 1 Z)))
theorem cvX6_clear {R : Room} {cc : ByteArray} {nL pc ix : Nat} {own : String} {Z : tc_Z} {k : tc_B} (X : tc_Cx R cc nL own Z) (h1 : Cond.methodLink own ix yX6_clear ∈ tc_tb) (hR : 0 + 1 ≤ R.frames ∧ 8 + (1 + 11) + 0 ≤ R.locals) (hd : decode cc pc = .ok (.invokevirtual ix, 3)) (h : tc_Ok nL Z (pc + 3) k) : tc_Ok nL Z pc (tb_callV 0 1 5 RX6_clear k) := to_callV X metX6_clear rfl ⟨rfl, rfl⟩ hR h1 wi_X6_clear wl_X6_clear wn_RX6 wc_X6_clear ⟨by decide +kernel, by decide +kernel, by decide +kernel, by decide +kernel⟩ hd h
def bkX6_put_0 (P : Nat → tc_B) (q : tc_Q) : tc_B := tb_aload 0 <| tb_getf 5 1 <| tb_aload 0 <| tb_getf 5 0 <| tb_alen <| tb_icmp_ge (tb_vret q) <| tb_aload 0 <| tb_getf 5 0 <| tb_aload 0 <| tb_getf 5 1 <| tb_iload 1 <| tb_iast <| tb_aload 0 <| tb_dup <| tb_getf 5 1 <| tb_i 1 <| tb_iadd <| tb_putI 5 1 <| tb_vret q
theorem okX6_put_0 {Z : tc_Z} {q : tc_Q} (X : tc_Cx ({ frames := 0, cells := 0, slots := 0, locals := 0 } : Room) cX6_put 2 RX6 Z) (hr : tc_Rt 3 cX6_put 2 Z q) : tc_Ok 2 Z 0 (bkX6_put_0 (tc_At 2 Z) q) := by
  unfold bkX6_put_0
  refine to_aload_n (pc := 0) X dX6_put_0 rfl ?_
  refine gfX6_1 (pc := 1) X wf_RX6_15 dX6_put_1 ?_
  refine to_aload_n (pc := 4) X dX6_put_4 rfl ?_
  refine gfX6_0 (pc := 5) X wf_RX6_9 dX6_put_5 ?_
  refine to_alen (pc := 8) X dX6_put_8 ?_
  refine to_icmp_ge (pc := 9) (tgt := 32) X dX6_put_9 (by decide) ?_ ?_
  · exact to_vret (pc := 32) hr dX6_put_32
  refine to_aload_n (pc := 12) X dX6_put_12 rfl ?_
  refine gfX6_0 (pc := 13) X wf_RX6_9 dX6_put_13 ?_
  refine to_aload_n (pc := 16) X dX6_put_16 rfl ?_
  refine gfX6_1 (pc := 17) X wf_RX6_15 dX6_put_17 ?_
  refine to_iload_n (pc := 20) X dX6_put_20 rfl ?_
  refine to_iast (pc := 21) X dX6_put_21 ?_
  refine to_aload_n (pc := 22) X dX6_put_22 rfl ?_
  refine to_dup (pc := 23) X dX6_put_23 ?_
  refine gfX6_1 (pc := 24) X wf_RX6_15 dX6_put_24 ?_
  refine to_iconst (pc := 27) X dX6_put_27 (by decide) ?_
  refine to_iadd (pc := 28) X dX6_put_28 ?_
  refine pfX6_1 (pc := 29) X wf_RX6_15 dX6_put_29 ?_
  exact to_vret (pc := 32) hr dX6_put_32
def RX6_put (vs : List tc_V) (S : tc_S) (q : tc_Q) : Prop := ∀ P : Nat → tc_B, bkX6_put_0 P q (tc_num 0 vs) [] S
theorem metX6_put : tc_Met yX6_put (Cond.code yX6_put cX6_put 2 none) ({ frames := 0, cells := 0, slots := 0, locals := 0 } : Room) 3 2 RX6_put := tc_met (rk := 3) (by decide) ⟨rfl, rfl⟩ (fun Z q X hr vs S h => okX6_put_0 X hr _ _ _ (h (tc_At 2 Z)))
theorem cvX6_put {R : Room} {cc : ByteArray} {nL pc ix : Nat} {own : String} {Z : tc_Z} {k : tc_B} (X : tc_Cx R cc nL own Z) (h1 : Cond.methodLink own ix yX6_put ∈ tc_tb) (hR : 0 + 1 ≤ R.frames ∧ 8 + (2 + 11) + 0 ≤ R.locals) (hd : decode cc pc = .ok (.invokevirtual ix, 3)) (h : tc_Ok nL Z (pc + 3) k) : tc_Ok nL Z pc (tb_callV 1 2 5 RX6_put k) := to_callV X metX6_put rfl ⟨rfl, rfl⟩ hR h1 wi_X6_put wl_X6_put wn_RX6 wc_X6_put ⟨by decide +kernel, by decide +kernel, by decide +kernel, by decide +kernel⟩ hd h
def bkX6_putWord_19 (P : Nat → tc_B) (q : tc_Q) : tc_B := tb_iinc 2 1 <| tb_cut (P 2) [0, 1, 2]
theorem okX6_putWord_19 {Z : tc_Z} {q : tc_Q} (X : tc_Cx ({ frames := 4, cells := 0, slots := 0, locals := 87 } : Room) cX6_putWord 3 RX6 Z) (hr : tc_Rt 3 cX6_putWord 3 Z q) : tc_Ok 3 Z 19 (bkX6_putWord_19 (tc_At 3 Z) q) := by
  unfold bkX6_putWord_19
  refine to_iinc (pc := 19) X dX6_putWord_19 (by decide) (by decide) ?_
  refine to_goto (pc := 22) (tgt := 2) X dX6_putWord_22 (by decide) ?_
  exact to_cut [0, 1, 2] (fun _ _ _ h => h)
def bkX6_putWord_16 (P : Nat → tc_B) (q : tc_Q) : tc_B := tb_callV 1 2 5 RX6_put <| bkX6_putWord_19 P q
theorem okX6_putWord_16 {Z : tc_Z} {q : tc_Q} (X : tc_Cx ({ frames := 4, cells := 0, slots := 0, locals := 87 } : Room) cX6_putWord 3 RX6 Z) (hr : tc_Rt 3 cX6_putWord 3 Z q) : tc_Ok 3 Z 16 (bkX6_putWord_16 (tc_At 3 Z) q) := by
  unfold bkX6_putWord_16
  refine cvX6_put (pc := 16) X wm_RX6_28 (by decide) dX6_putWord_16 ?_
  exact okX6_putWord_19 X hr
def bkX6_putWord_7 (P : Nat → tc_B) (q : tc_Q) : tc_B := tb_icmp_ge (tb_vret q) <| tb_aload 0 <| tb_aload 1 <| tb_iload 2 <| tb_callE 1 2 3 10 RJ0_charAt_5068e <| bkX6_putWord_16 P q
theorem okX6_putWord_7 {Z : tc_Z} {q : tc_Q} (X : tc_Cx ({ frames := 4, cells := 0, slots := 0, locals := 87 } : Room) cX6_putWord 3 RX6 Z) (hr : tc_Rt 3 cX6_putWord 3 Z q) : tc_Ok 3 Z 7 (bkX6_putWord_7 (tc_At 3 Z) q) := by
  unfold bkX6_putWord_7
  refine to_icmp_ge (pc := 7) (tgt := 25) X dX6_putWord_7 (by decide) ?_ ?_
  · exact to_vret (pc := 25) hr dX6_putWord_25
  refine to_aload_n (pc := 10) X dX6_putWord_10 rfl ?_
  refine to_aload_n (pc := 11) X dX6_putWord_11 rfl ?_
  refine to_iload_n (pc := 12) X dX6_putWord_12 rfl ?_
  refine cvJ0_charAt_5068e (pc := 13) X wm_RX6_24 (by decide) dX6_putWord_13 ?_
  exact okX6_putWord_16 X hr
def bkX6_putWord_2 (P : Nat → tc_B) (q : tc_Q) : tc_B := tb_iload 2 <| tb_aload 1 <| tb_callE 0 1 3 10 RJ0_length_8abf5 <| bkX6_putWord_7 P q
theorem okX6_putWord_2 {Z : tc_Z} {q : tc_Q} (X : tc_Cx ({ frames := 4, cells := 0, slots := 0, locals := 87 } : Room) cX6_putWord 3 RX6 Z) (hr : tc_Rt 3 cX6_putWord 3 Z q) : tc_Ok 3 Z 2 (bkX6_putWord_2 (tc_At 3 Z) q) := by
  unfold bkX6_putWord_2
  refine to_iload_n (pc := 2) X dX6_putWord_2 rfl ?_
  refine to_aload_n (pc := 3) X dX6_putWord_3 rfl ?_
  refine cvJ0_length_8abf5 (pc := 4) X wm_RX6_19 (by decide) dX6_putWord_4 ?_
  exact okX6_putWord_7 X hr
def bkX6_putWord_0 (P : Nat → tc_B) (q : tc_Q) : tc_B := tb_i 0 <| tb_istore 2 <| tb_cut (P 2) [0, 1, 2]
theorem okX6_putWord_0 {Z : tc_Z} {q : tc_Q} (X : tc_Cx ({ frames := 4, cells := 0, slots := 0, locals := 87 } : Room) cX6_putWord 3 RX6 Z) (hr : tc_Rt 3 cX6_putWord 3 Z q) : tc_Ok 3 Z 0 (bkX6_putWord_0 (tc_At 3 Z) q) := by
  unfold bkX6_putWord_0
  refine to_iconst (pc := 0) X dX6_putWord_0 (by decide) ?_
  refine to_istore_n (pc := 1) X dX6_putWord_1 rfl (by decide) ?_
  exact to_cut [0, 1, 2] (fun _ _ _ h => h)
def RX6_putWord (vs : List tc_V) (S : tc_S) (q : tc_Q) : Prop := ∀ P : Nat → tc_B, (∀ L K S, bkX6_putWord_2 P q L K S → P 2 L K S) → bkX6_putWord_0 P q (tc_num 0 vs) [] S
theorem metX6_putWord : tc_Met yX6_putWord (Cond.code yX6_putWord cX6_putWord 3 none) ({ frames := 4, cells := 0, slots := 0, locals := 87 } : Room) 3 3 RX6_putWord := tc_met (rk := 3) (by decide) ⟨rfl, rfl⟩ (fun Z q X hr vs S h => okX6_putWord_0 X hr _ _ _ (h (tc_At 3 Z) (okX6_putWord_2 X hr)))
theorem cvX6_putWord {R : Room} {cc : ByteArray} {nL pc ix : Nat} {own : String} {Z : tc_Z} {k : tc_B} (X : tc_Cx R cc nL own Z) (h1 : Cond.methodLink own ix yX6_putWord ∈ tc_tb) (hR : 4 + 1 ≤ R.frames ∧ 8 + (3 + 11) + 87 ≤ R.locals) (hd : decode cc pc = .ok (.invokevirtual ix, 3)) (h : tc_Ok nL Z (pc + 3) k) : tc_Ok nL Z pc (tb_callV 1 3 5 RX6_putWord k) := to_callV X metX6_putWord rfl ⟨rfl, rfl⟩ hR h1 wi_X6_putWord wl_X6_putWord wn_RX6 wc_X6_putWord ⟨by decide +kernel, by decide +kernel, by decide +kernel, by decide +kernel⟩ hd h
def bkX6_putNumber_65 (P : Nat → tc_B) (q : tc_Q) : tc_B := tb_lload 3 <| tb_j 10 <| tb_ldiv <| tb_lstore 3 <| tb_iinc 5 1 <| tb_cut (P 37) [0, 1, 3, 5]
theorem okX6_putNumber_65 {Z : tc_Z} {q : tc_Q} (X : tc_Cx ({ frames := 1, cells := 0, slots := 0, locals := 21 } : Room) cX6_putNumber 6 RX6 Z) (hr : tc_Rt 3 cX6_putNumber 6 Z q) : tc_Ok 6 Z 65 (bkX6_putNumber_65 (tc_At 6 Z) q) := by
  unfold bkX6_putNumber_65
  refine to_lload_n (pc := 65) X dX6_putNumber_65 rfl ?_
  refine to_ldc2 (pc := 66) X wj_RX6_32 dX6_putNumber_66 ?_
  refine to_ldiv (pc := 69) X dX6_putNumber_69 ?_
  refine to_lstore_n (pc := 70) X dX6_putNumber_70 rfl (by decide) ?_
  refine to_iinc (pc := 71) X dX6_putNumber_71 (by decide) (by decide) ?_
  refine to_goto (pc := 74) (tgt := 37) X dX6_putNumber_74 (by decide) ?_
  exact to_cut [0, 1, 3, 5] (fun _ _ _ h => h)
def bkX6_putNumber_37 (P : Nat → tc_B) (q : tc_Q) : tc_B := tb_iload 5 <| tb_i 19 <| tb_icmp_ge (tb_vret q) <| tb_lload 3 <| tb_j 0 <| tb_lcmp <| tb_if_le (tb_vret q) <| tb_aload 0 <| tb_i 48 <| tb_lload 1 <| tb_lload 3 <| tb_ldiv <| tb_j 10 <| tb_lrem <| tb_l2i <| tb_iadd <| tb_callV 1 2 5 RX6_put <| bkX6_putNumber_65 P q
theorem okX6_putNumber_37 {Z : tc_Z} {q : tc_Q} (X : tc_Cx ({ frames := 1, cells := 0, slots := 0, locals := 21 } : Room) cX6_putNumber 6 RX6 Z) (hr : tc_Rt 3 cX6_putNumber 6 Z q) : tc_Ok 6 Z 37 (bkX6_putNumber_37 (tc_At 6 Z) q) := by
  unfold bkX6_putNumber_37
  refine to_iload (pc := 37) X dX6_putNumber_37 ?_
  refine to_bipush (pc := 39) X dX6_putNumber_39 (by decide) ?_
  refine to_icmp_ge (pc := 41) (tgt := 77) X dX6_putNumber_41 (by decide) ?_ ?_
  · exact to_vret (pc := 77) hr dX6_putNumber_77
  refine to_lload_n (pc := 44) X dX6_putNumber_44 rfl ?_
  refine to_lconst (pc := 45) X dX6_putNumber_45 (by decide) ?_
  refine to_lcmp (pc := 46) X dX6_putNumber_46 ?_
  refine to_if_le (pc := 47) (tgt := 77) X dX6_putNumber_47 (by decide) ?_ ?_
  · exact to_vret (pc := 77) hr dX6_putNumber_77
  refine to_aload_n (pc := 50) X dX6_putNumber_50 rfl ?_
  refine to_bipush (pc := 51) X dX6_putNumber_51 (by decide) ?_
  refine to_lload_n (pc := 53) X dX6_putNumber_53 rfl ?_
  refine to_lload_n (pc := 54) X dX6_putNumber_54 rfl ?_
  refine to_ldiv (pc := 55) X dX6_putNumber_55 ?_
  refine to_ldc2 (pc := 56) X wj_RX6_32 dX6_putNumber_56 ?_
  refine to_lrem (pc := 59) X dX6_putNumber_59 ?_
  refine to_l2i (pc := 60) X dX6_putNumber_60 ?_
  refine to_iadd (pc := 61) X dX6_putNumber_61 ?_
  refine cvX6_put (pc := 62) X wm_RX6_28 (by decide) dX6_putNumber_62 ?_
  exact okX6_putNumber_65 X hr
def bkX6_putNumber_34 (P : Nat → tc_B) (q : tc_Q) : tc_B := tb_i 0 <| tb_istore 5 <| tb_cut (P 37) [0, 1, 3, 5]
theorem okX6_putNumber_34 {Z : tc_Z} {q : tc_Q} (X : tc_Cx ({ frames := 1, cells := 0, slots := 0, locals := 21 } : Room) cX6_putNumber 6 RX6 Z) (hr : tc_Rt 3 cX6_putNumber 6 Z q) : tc_Ok 6 Z 34 (bkX6_putNumber_34 (tc_At 6 Z) q) := by
  unfold bkX6_putNumber_34
  refine to_iconst (pc := 34) X dX6_putNumber_34 (by decide) ?_
  refine to_istore (pc := 35) X dX6_putNumber_35 (by decide) ?_
  exact to_cut [0, 1, 3, 5] (fun _ _ _ h => h)
def bkX6_putNumber_5 (P : Nat → tc_B) (q : tc_Q) : tc_B := tb_iload 5 <| tb_i 19 <| tb_icmp_ge (tb_cut (P 34) [0, 1, 3]) <| tb_lload 1 <| tb_lload 3 <| tb_ldiv <| tb_j 10 <| tb_lcmp <| tb_if_lt (tb_cut (P 34) [0, 1, 3]) <| tb_lload 3 <| tb_j 10 <| tb_lmul <| tb_lstore 3 <| tb_iinc 5 1 <| tb_cut (P 5) [0, 1, 3, 5]
theorem okX6_putNumber_5 {Z : tc_Z} {q : tc_Q} (X : tc_Cx ({ frames := 1, cells := 0, slots := 0, locals := 21 } : Room) cX6_putNumber 6 RX6 Z) (hr : tc_Rt 3 cX6_putNumber 6 Z q) : tc_Ok 6 Z 5 (bkX6_putNumber_5 (tc_At 6 Z) q) := by
  unfold bkX6_putNumber_5
  refine to_iload (pc := 5) X dX6_putNumber_5 ?_
  refine to_bipush (pc := 7) X dX6_putNumber_7 (by decide) ?_
  refine to_icmp_ge (pc := 9) (tgt := 34) X dX6_putNumber_9 (by decide) ?_ ?_
  · exact to_cut [0, 1, 3] (fun _ _ _ h => h)
  refine to_lload_n (pc := 12) X dX6_putNumber_12 rfl ?_
  refine to_lload_n (pc := 13) X dX6_putNumber_13 rfl ?_
  refine to_ldiv (pc := 14) X dX6_putNumber_14 ?_
  refine to_ldc2 (pc := 15) X wj_RX6_32 dX6_putNumber_15 ?_
  refine to_lcmp (pc := 18) X dX6_putNumber_18 ?_
  refine to_if_lt (pc := 19) (tgt := 34) X dX6_putNumber_19 (by decide) ?_ ?_
  · exact to_cut [0, 1, 3] (fun _ _ _ h => h)
  refine to_lload_n (pc := 22) X dX6_putNumber_22 rfl ?_
  refine to_ldc2 (pc := 23) X wj_RX6_32 dX6_putNumber_23 ?_
  refine to_lmul (pc := 26) X dX6_putNumber_26 ?_
  refine to_lstore_n (pc := 27) X dX6_putNumber_27 rfl (by decide) ?_
  refine to_iinc (pc := 28) X dX6_putNumber_28 (by decide) (by decide) ?_
  refine to_goto (pc := 31) (tgt := 5) X dX6_putNumber_31 (by decide) ?_
  exact to_cut [0, 1, 3, 5] (fun _ _ _ h => h)
def bkX6_putNumber_0 (P : Nat → tc_B) (q : tc_Q) : tc_B := tb_j 1 <| tb_lstore 3 <| tb_i 1 <| tb_istore 5 <| tb_cut (P 5) [0, 1, 3, 5]
theorem okX6_putNumber_0 {Z : tc_Z} {q : tc_Q} (X : tc_Cx ({ frames := 1, cells := 0, slots := 0, locals := 21 } : Room) cX6_putNumber 6 RX6 Z) (hr : tc_Rt 3 cX6_putNumber 6 Z q) : tc_Ok 6 Z 0 (bkX6_putNumber_0 (tc_At 6 Z) q) := by
  unfold bkX6_putNumber_0
  refine to_lconst (pc := 0) X dX6_putNumber_0 (by decide) ?_
  refine to_lstore_n (pc := 1) X dX6_putNumber_1 rfl (by decide) ?_
  refine to_iconst (pc := 2) X dX6_putNumber_2 (by decide) ?_
  refine to_istore (pc := 3) X dX6_putNumber_3 (by decide) ?_
  exact to_cut [0, 1, 3, 5] (fun _ _ _ h => h)
def RX6_putNumber (vs : List tc_V) (S : tc_S) (q : tc_Q) : Prop := ∀ P : Nat → tc_B, (∀ L K S, bkX6_putNumber_5 P q L K S → P 5 L K S) → (∀ L K S, bkX6_putNumber_34 P q L K S → P 34 L K S) → (∀ L K S, bkX6_putNumber_37 P q L K S → P 37 L K S) → bkX6_putNumber_0 P q (tc_num 0 vs) [] S
theorem metX6_putNumber : tc_Met yX6_putNumber (Cond.code yX6_putNumber cX6_putNumber 6 none) ({ frames := 1, cells := 0, slots := 0, locals := 21 } : Room) 3 6 RX6_putNumber := tc_met (rk := 3) (by decide) ⟨rfl, rfl⟩ (fun Z q X hr vs S h => okX6_putNumber_0 X hr _ _ _ (h (tc_At 6 Z) (okX6_putNumber_5 X hr) (okX6_putNumber_34 X hr) (okX6_putNumber_37 X hr)))
theorem cvX6_putNumber {R : Room} {cc : ByteArray} {nL pc ix : Nat} {own : String} {Z : tc_Z} {k : tc_B} (X : tc_Cx R cc nL own Z) (h1 : Cond.methodLink own ix yX6_putNumber ∈ tc_tb) (hR : 1 + 1 ≤ R.frames ∧ 8 + (6 + 11) + 21 ≤ R.locals) (hd : decode cc pc = .ok (.invokevirtual ix, 3)) (h : tc_Ok nL Z (pc + 3) k) : tc_Ok nL Z pc (tb_callV 1 6 5 RX6_putNumber k) := to_callV X metX6_putNumber rfl ⟨rfl, rfl⟩ hR h1 wi_X6_putNumber wl_X6_putNumber wn_RX6 wc_X6_putNumber ⟨by decide +kernel, by decide +kernel, by decide +kernel, by decide +kernel⟩ hd h
def bkX7_sortByChance_74 (P : Nat → tc_B) (q : tc_Q) : tc_B := tb_iinc 2 1 <| tb_cut (P 30) [0, 1, 2]
theorem okX7_sortByChance_74 {Z : tc_Z} {q : tc_Q} (X : tc_Cx ({ frames := 0, cells := 0, slots := 0, locals := 0 } : Room) cX7_sortByChance 4 RX7 Z) (hr : tc_Rt 3 cX7_sortByChance 4 Z q) : tc_Ok 4 Z 74 (bkX7_sortByChance_74 (tc_At 4 Z) q) := by
  unfold bkX7_sortByChance_74
  refine to_iinc (pc := 74) X dX7_sortByChance_74 (by decide) (by decide) ?_
  refine to_goto (pc := 77) (tgt := 30) X dX7_sortByChance_77 (by decide) ?_
  exact to_cut [0, 1, 2] (fun _ _ _ h => h)
def bkX7_sortByChance_30 (P : Nat → tc_B) (q : tc_Q) : tc_B := tb_iload 2 <| tb_aload 1 <| tb_getf 2 2 <| tb_icmp_ge (tb_vret q) <| tb_aload 1 <| tb_getf 2 0 <| tb_iload 2 <| tb_iald <| tb_istore 3 <| tb_aload 0 <| tb_getf 6 0 <| tb_iload 3 <| tb_dup2 <| tb_iald <| tb_i 1 <| tb_iadd <| tb_iast <| tb_aload 1 <| tb_getf 2 1 <| tb_iload 2 <| tb_zald <| tb_if_eq (tb_cut (P 74) [0, 1, 2]) <| tb_aload 0 <| tb_getf 6 1 <| tb_iload 3 <| tb_dup2 <| tb_iald <| tb_i 1 <| tb_iadd <| tb_iast <| tb_cut (P 74) [0, 1, 2]
theorem okX7_sortByChance_30 {Z : tc_Z} {q : tc_Q} (X : tc_Cx ({ frames := 0, cells := 0, slots := 0, locals := 0 } : Room) cX7_sortByChance 4 RX7 Z) (hr : tc_Rt 3 cX7_sortByChance 4 Z q) : tc_Ok 4 Z 30 (bkX7_sortByChance_30 (tc_At 4 Z) q) := by
  unfold bkX7_sortByChance_30
  refine to_iload_n (pc := 30) X dX7_sortByChance_30 rfl ?_
  refine to_aload_n (pc := 31) X dX7_sortByChance_31 rfl ?_
  refine gfX2_2 (pc := 32) X wf_RX7_42 dX7_sortByChance_32 ?_
  refine to_icmp_ge (pc := 35) (tgt := 80) X dX7_sortByChance_35 (by decide) ?_ ?_
  · exact to_vret (pc := 80) hr dX7_sortByChance_80
  refine to_aload_n (pc := 38) X dX7_sortByChance_38 rfl ?_
  refine gfX2_0 (pc := 39) X wf_RX7_45 dX7_sortByChance_39 ?_
  refine to_iload_n (pc := 42) X dX7_sortByChance_42 rfl ?_
  refine to_iald (pc := 43) X dX7_sortByChance_43 ?_
  refine to_istore_n (pc := 44) X dX7_sortByChance_44 rfl (by decide) ?_
  refine to_aload_n (pc := 45) X dX7_sortByChance_45 rfl ?_
  refine gfX7_0 (pc := 46) X wf_RX7_9 dX7_sortByChance_46 ?_
  refine to_iload_n (pc := 49) X dX7_sortByChance_49 rfl ?_
  refine to_dup2 (pc := 50) X dX7_sortByChance_50 ?_
  refine to_iald (pc := 51) X dX7_sortByChance_51 ?_
  refine to_iconst (pc := 52) X dX7_sortByChance_52 (by decide) ?_
  refine to_iadd (pc := 53) X dX7_sortByChance_53 ?_
  refine to_iast (pc := 54) X dX7_sortByChance_54 ?_
  refine to_aload_n (pc := 55) X dX7_sortByChance_55 rfl ?_
  refine gfX2_1 (pc := 56) X wf_RX7_48 dX7_sortByChance_56 ?_
  refine to_iload_n (pc := 59) X dX7_sortByChance_59 rfl ?_
  refine to_zald (pc := 60) X dX7_sortByChance_60 ?_
  refine to_if_eq (pc := 61) (tgt := 74) X dX7_sortByChance_61 (by decide) ?_ ?_
  · exact to_cut [0, 1, 2] (fun _ _ _ h => h)
  refine to_aload_n (pc := 64) X dX7_sortByChance_64 rfl ?_
  refine gfX7_1 (pc := 65) X wf_RX7_15 dX7_sortByChance_65 ?_
  refine to_iload_n (pc := 68) X dX7_sortByChance_68 rfl ?_
  refine to_dup2 (pc := 69) X dX7_sortByChance_69 ?_
  refine to_iald (pc := 70) X dX7_sortByChance_70 ?_
  refine to_iconst (pc := 71) X dX7_sortByChance_71 (by decide) ?_
  refine to_iadd (pc := 72) X dX7_sortByChance_72 ?_
  refine to_iast (pc := 73) X dX7_sortByChance_73 ?_
  exact to_cut [0, 1, 2] (fun _ _ _ h => h)
def bkX7_sortByChance_2 (P : Nat → tc_B) (q : tc_Q) : tc_B := tb_iload 2 <| tb_i 100 <| tb_icmp_gt (tb_i 0 <| tb_istore 2 <| tb_cut (P 30) [0, 1, 2]) <| tb_aload 0 <| tb_getf 6 0 <| tb_iload 2 <| tb_i 0 <| tb_iast <| tb_aload 0 <| tb_getf 6 1 <| tb_iload 2 <| tb_i 0 <| tb_iast <| tb_iinc 2 1 <| tb_cut (P 2) [0, 1, 2]
theorem okX7_sortByChance_2 {Z : tc_Z} {q : tc_Q} (X : tc_Cx ({ frames := 0, cells := 0, slots := 0, locals := 0 } : Room) cX7_sortByChance 4 RX7 Z) (hr : tc_Rt 3 cX7_sortByChance 4 Z q) : tc_Ok 4 Z 2 (bkX7_sortByChance_2 (tc_At 4 Z) q) := by
  unfold bkX7_sortByChance_2
  refine to_iload_n (pc := 2) X dX7_sortByChance_2 rfl ?_
  refine to_bipush (pc := 3) X dX7_sortByChance_3 (by decide) ?_
  refine to_icmp_gt (pc := 5) (tgt := 28) X dX7_sortByChance_5 (by decide) ?_ ?_
  · refine to_iconst (pc := 28) X dX7_sortByChance_28 (by decide) ?_
    refine to_istore_n (pc := 29) X dX7_sortByChance_29 rfl (by decide) ?_
    exact to_cut [0, 1, 2] (fun _ _ _ h => h)
  refine to_aload_n (pc := 8) X dX7_sortByChance_8 rfl ?_
  refine gfX7_0 (pc := 9) X wf_RX7_9 dX7_sortByChance_9 ?_
  refine to_iload_n (pc := 12) X dX7_sortByChance_12 rfl ?_
  refine to_iconst (pc := 13) X dX7_sortByChance_13 (by decide) ?_
  refine to_iast (pc := 14) X dX7_sortByChance_14 ?_
  refine to_aload_n (pc := 15) X dX7_sortByChance_15 rfl ?_
  refine gfX7_1 (pc := 16) X wf_RX7_15 dX7_sortByChance_16 ?_
  refine to_iload_n (pc := 19) X dX7_sortByChance_19 rfl ?_
  refine to_iconst (pc := 20) X dX7_sortByChance_20 (by decide) ?_
  refine to_iast (pc := 21) X dX7_sortByChance_21 ?_
  refine to_iinc (pc := 22) X dX7_sortByChance_22 (by decide) (by decide) ?_
  refine to_goto (pc := 25) (tgt := 2) X dX7_sortByChance_25 (by decide) ?_
  exact to_cut [0, 1, 2] (fun _ _ _ h => h)
def bkX7_sortByChance_0 (P : Nat → tc_B) (q : tc_Q) : tc_B := tb_i 0 <| tb_istore 2 <| tb_cut (P 2) [0, 1, 2]
theorem okX7_sortByChance_0 {Z : tc_Z} {q : tc_Q} (X : tc_Cx ({ frames := 0, cells := 0, slots := 0, locals := 0 } : Room) cX7_sortByChance 4 RX7 Z) (hr : tc_Rt 3 cX7_sortByChance 4 Z q) : tc_Ok 4 Z 0 (bkX7_sortByChance_0 (tc_At 4 Z) q) := by
  unfold bkX7_sortByChance_0
  refine to_iconst (pc := 0) X dX7_sortByChance_0 (by decide) ?_
  refine to_istore_n (pc := 1) X dX7_sortByChance_1 rfl (by decide) ?_
  exact to_cut [0, 1, 2] (fun _ _ _ h => h)
def RX7_sortByChance (vs : List tc_V) (S : tc_S) (q : tc_Q) : Prop := ∀ P : Nat → tc_B, (∀ L K S, bkX7_sortByChance_2 P q L K S → P 2 L K S) → (∀ L K S, bkX7_sortByChance_30 P q L K S → P 30 L K S) → (∀ L K S, bkX7_sortByChance_74 P q L K S → P 74 L K S) → bkX7_sortByChance_0 P q (tc_num 0 vs) [] S
theorem metX7_sortByChance : tc_Met yX7_sortByChance (Cond.code yX7_sortByChance cX7_sortByChance 4 none) ({ frames := 0, cells := 0, slots := 0, locals := 0 } : Room) 3 4 RX7_sortByChance := tc_met (rk := 3) (by decide) ⟨rfl, rfl⟩ (fun Z q X hr vs S h => okX7_sortByChance_0 X hr _ _ _ (h (tc_At 4 Z) (okX7_sortByChance_2 X hr) (okX7_sortByChance_30 X hr) (okX7_sortByChance_74 X hr)))
theorem cvX7_sortByChance {R : Room} {cc : ByteArray} {nL pc ix : Nat} {own : String} {Z : tc_Z} {k : tc_B} (X : tc_Cx R cc nL own Z) (h1 : Cond.methodLink own ix yX7_sortByChance ∈ tc_tb) (hR : 0 + 1 ≤ R.frames ∧ 8 + (4 + 11) + 0 ≤ R.locals) (hd : decode cc pc = .ok (.invokevirtual ix, 3)) (h : tc_Ok nL Z (pc + 3) k) : tc_Ok nL Z pc (tb_callV 1 4 6 RX7_sortByChance k) := to_callV X metX7_sortByChance rfl ⟨rfl, rfl⟩ hR h1 wi_X7_sortByChance wl_X7_sortByChance wn_RX7 wc_X7_sortByChance ⟨by decide +kernel, by decide +kernel, by decide +kernel, by decide +kernel⟩ hd h
def bkX7_isShareGreater_0 (P : Nat → tc_B) (q : tc_Q) : tc_B := tb_aload 0 <| tb_getf 6 5 <| tb_iload 1 <| tb_iald <| tb_aload 0 <| tb_getf 6 4 <| tb_iload 1 <| tb_i 1 <| tb_isub <| tb_iald <| tb_imul <| tb_aload 0 <| tb_getf 6 5 <| tb_iload 1 <| tb_i 1 <| tb_isub <| tb_iald <| tb_aload 0 <| tb_getf 6 4 <| tb_iload 1 <| tb_iald <| tb_imul <| tb_icmp_le (tb_i 0 <| tb_zret q) <| tb_i 1 <| tb_zret q
theorem okX7_isShareGreater_0 {Z : tc_Z} {q : tc_Q} (X : tc_Cx ({ frames := 0, cells := 0, slots := 0, locals := 0 } : Room) cX7_isShareGreater 2 RX7 Z) (hr : tc_Rt 1 cX7_isShareGreater 2 Z q) : tc_Ok 2 Z 0 (bkX7_isShareGreater_0 (tc_At 2 Z) q) := by
  unfold bkX7_isShareGreater_0
  refine to_aload_n (pc := 0) X dX7_isShareGreater_0 rfl ?_
  refine gfX7_5 (pc := 1) X wf_RX7_27 dX7_isShareGreater_1 ?_
  refine to_iload_n (pc := 4) X dX7_isShareGreater_4 rfl ?_
  refine to_iald (pc := 5) X dX7_isShareGreater_5 ?_
  refine to_aload_n (pc := 6) X dX7_isShareGreater_6 rfl ?_
  refine gfX7_4 (pc := 7) X wf_RX7_24 dX7_isShareGreater_7 ?_
  refine to_iload_n (pc := 10) X dX7_isShareGreater_10 rfl ?_
  refine to_iconst (pc := 11) X dX7_isShareGreater_11 (by decide) ?_
  refine to_isub (pc := 12) X dX7_isShareGreater_12 ?_
  refine to_iald (pc := 13) X dX7_isShareGreater_13 ?_
  refine to_imul (pc := 14) X dX7_isShareGreater_14 ?_
  refine to_aload_n (pc := 15) X dX7_isShareGreater_15 rfl ?_
  refine gfX7_5 (pc := 16) X wf_RX7_27 dX7_isShareGreater_16 ?_
  refine to_iload_n (pc := 19) X dX7_isShareGreater_19 rfl ?_
  refine to_iconst (pc := 20) X dX7_isShareGreater_20 (by decide) ?_
  refine to_isub (pc := 21) X dX7_isShareGreater_21 ?_
  refine to_iald (pc := 22) X dX7_isShareGreater_22 ?_
  refine to_aload_n (pc := 23) X dX7_isShareGreater_23 rfl ?_
  refine gfX7_4 (pc := 24) X wf_RX7_24 dX7_isShareGreater_24 ?_
  refine to_iload_n (pc := 27) X dX7_isShareGreater_27 rfl ?_
  refine to_iald (pc := 28) X dX7_isShareGreater_28 ?_
  refine to_imul (pc := 29) X dX7_isShareGreater_29 ?_
  refine to_icmp_le (pc := 30) (tgt := 37) X dX7_isShareGreater_30 (by decide) ?_ ?_
  · refine to_iconst (pc := 37) X dX7_isShareGreater_37 (by decide) ?_
    exact to_zret (pc := 38) hr dX7_isShareGreater_38
  refine to_iconst (pc := 33) X dX7_isShareGreater_33 (by decide) ?_
  refine to_goto (pc := 34) (tgt := 38) X dX7_isShareGreater_34 (by decide) ?_
  exact to_zret (pc := 38) hr dX7_isShareGreater_38
def RX7_isShareGreater (vs : List tc_V) (S : tc_S) (q : tc_Q) : Prop := ∀ P : Nat → tc_B, bkX7_isShareGreater_0 P q (tc_num 0 vs) [] S
theorem metX7_isShareGreater : tc_Met yX7_isShareGreater (Cond.code yX7_isShareGreater cX7_isShareGreater 2 (some .boolean)) ({ frames := 0, cells := 0, slots := 0, locals := 0 } : Room) 1 2 RX7_isShareGreater := tc_met (rk := 1) (by decide) ⟨rfl, rfl⟩ (fun Z q X hr vs S h => okX7_isShareGreater_0 X hr _ _ _ (h (tc_At 2 Z)))
theorem cvX7_isShareGreater {R : Room} {cc : ByteArray} {nL pc ix : Nat} {own : String} {Z : tc_Z} {k : tc_B} (X : tc_Cx R cc nL own Z) (h1 : Cond.methodLink own ix yX7_isShareGreater ∈ tc_tb) (hR : 0 + 1 ≤ R.frames ∧ 8 + (2 + 11) + 0 ≤ R.locals) (hd : decode cc pc = .ok (.invokevirtual ix, 3)) (h : tc_Ok nL Z (pc + 3) k) : tc_Ok nL Z pc (tb_callV 1 2 6 RX7_isShareGreater k) := to_callV X metX7_isShareGreater rfl ⟨rfl, rfl⟩ hR h1 wi_X7_isShareGreater wl_X7_isShareGreater wn_RX7 wc_X7_isShareGreater ⟨by decide +kernel, by decide +kernel, by decide +kernel, by decide +kernel⟩ hd h
def bkX7_mergeDown_0 (P : Nat → tc_B) (q : tc_Q) : tc_B := tb_aload 0 <| tb_getf 6 3 <| tb_iload 1 <| tb_i 1 <| tb_isub <| tb_aload 0 <| tb_getf 6 3 <| tb_iload 1 <| tb_iald <| tb_iast <| tb_aload 0 <| tb_getf 6 4 <| tb_iload 1 <| tb_i 1 <| tb_isub <| tb_dup2 <| tb_iald <| tb_aload 0 <| tb_getf 6 4 <| tb_iload 1 <| tb_iald <| tb_iadd <| tb_iast <| tb_aload 0 <| tb_getf 6 5 <| tb_iload 1 <| tb_i 1 <| tb_isub <| tb_dup2 <| tb_iald <| tb_aload 0 <| tb_getf 6 5 <| tb_iload 1 <| tb_iald <| tb_iadd <| tb_iast <| tb_aload 0 <| tb_dup <| tb_getf 6 6 <| tb_i 1 <| tb_isub <| tb_putI 6 6 <| tb_vret q
theorem okX7_mergeDown_0 {Z : tc_Z} {q : tc_Q} (X : tc_Cx ({ frames := 0, cells := 0, slots := 0, locals := 0 } : Room) cX7_mergeDown 2 RX7 Z) (hr : tc_Rt 3 cX7_mergeDown 2 Z q) : tc_Ok 2 Z 0 (bkX7_mergeDown_0 (tc_At 2 Z) q) := by
  unfold bkX7_mergeDown_0
  refine to_aload_n (pc := 0) X dX7_mergeDown_0 rfl ?_
  refine gfX7_3 (pc := 1) X wf_RX7_21 dX7_mergeDown_1 ?_
  refine to_iload_n (pc := 4) X dX7_mergeDown_4 rfl ?_
  refine to_iconst (pc := 5) X dX7_mergeDown_5 (by decide) ?_
  refine to_isub (pc := 6) X dX7_mergeDown_6 ?_
  refine to_aload_n (pc := 7) X dX7_mergeDown_7 rfl ?_
  refine gfX7_3 (pc := 8) X wf_RX7_21 dX7_mergeDown_8 ?_
  refine to_iload_n (pc := 11) X dX7_mergeDown_11 rfl ?_
  refine to_iald (pc := 12) X dX7_mergeDown_12 ?_
  refine to_iast (pc := 13) X dX7_mergeDown_13 ?_
  refine to_aload_n (pc := 14) X dX7_mergeDown_14 rfl ?_
  refine gfX7_4 (pc := 15) X wf_RX7_24 dX7_mergeDown_15 ?_
  refine to_iload_n (pc := 18) X dX7_mergeDown_18 rfl ?_
  refine to_iconst (pc := 19) X dX7_mergeDown_19 (by decide) ?_
  refine to_isub (pc := 20) X dX7_mergeDown_20 ?_
  refine to_dup2 (pc := 21) X dX7_mergeDown_21 ?_
  refine to_iald (pc := 22) X dX7_mergeDown_22 ?_
  refine to_aload_n (pc := 23) X dX7_mergeDown_23 rfl ?_
  refine gfX7_4 (pc := 24) X wf_RX7_24 dX7_mergeDown_24 ?_
  refine to_iload_n (pc := 27) X dX7_mergeDown_27 rfl ?_
  refine to_iald (pc := 28) X dX7_mergeDown_28 ?_
  refine to_iadd (pc := 29) X dX7_mergeDown_29 ?_
  refine to_iast (pc := 30) X dX7_mergeDown_30 ?_
  refine to_aload_n (pc := 31) X dX7_mergeDown_31 rfl ?_
  refine gfX7_5 (pc := 32) X wf_RX7_27 dX7_mergeDown_32 ?_
  refine to_iload_n (pc := 35) X dX7_mergeDown_35 rfl ?_
  refine to_iconst (pc := 36) X dX7_mergeDown_36 (by decide) ?_
  refine to_isub (pc := 37) X dX7_mergeDown_37 ?_
  refine to_dup2 (pc := 38) X dX7_mergeDown_38 ?_
  refine to_iald (pc := 39) X dX7_mergeDown_39 ?_
  refine to_aload_n (pc := 40) X dX7_mergeDown_40 rfl ?_
  refine gfX7_5 (pc := 41) X wf_RX7_27 dX7_mergeDown_41 ?_
  refine to_iload_n (pc := 44) X dX7_mergeDown_44 rfl ?_
  refine to_iald (pc := 45) X dX7_mergeDown_45 ?_
  refine to_iadd (pc := 46) X dX7_mergeDown_46 ?_
  refine to_iast (pc := 47) X dX7_mergeDown_47 ?_
  refine to_aload_n (pc := 48) X dX7_mergeDown_48 rfl ?_
  refine to_dup (pc := 49) X dX7_mergeDown_49 ?_
  refine gfX7_6 (pc := 50) X wf_RX7_30 dX7_mergeDown_50 ?_
  refine to_iconst (pc := 53) X dX7_mergeDown_53 (by decide) ?_
  refine to_isub (pc := 54) X dX7_mergeDown_54 ?_
  refine pfX7_6 (pc := 55) X wf_RX7_30 dX7_mergeDown_55 ?_
  exact to_vret (pc := 58) hr dX7_mergeDown_58
def RX7_mergeDown (vs : List tc_V) (S : tc_S) (q : tc_Q) : Prop := ∀ P : Nat → tc_B, bkX7_mergeDown_0 P q (tc_num 0 vs) [] S
theorem metX7_mergeDown : tc_Met yX7_mergeDown (Cond.code yX7_mergeDown cX7_mergeDown 2 none) ({ frames := 0, cells := 0, slots := 0, locals := 0 } : Room) 3 2 RX7_mergeDown := tc_met (rk := 3) (by decide) ⟨rfl, rfl⟩ (fun Z q X hr vs S h => okX7_mergeDown_0 X hr _ _ _ (h (tc_At 2 Z)))
theorem cvX7_mergeDown {R : Room} {cc : ByteArray} {nL pc ix : Nat} {own : String} {Z : tc_Z} {k : tc_B} (X : tc_Cx R cc nL own Z) (h1 : Cond.methodLink own ix yX7_mergeDown ∈ tc_tb) (hR : 0 + 1 ≤ R.frames ∧ 8 + (2 + 11) + 0 ≤ R.locals) (hd : decode cc pc = .ok (.invokevirtual ix, 3)) (h : tc_Ok nL Z (pc + 3) k) : tc_Ok nL Z pc (tb_callV 1 2 6 RX7_mergeDown k) := to_callV X metX7_mergeDown rfl ⟨rfl, rfl⟩ hR h1 wi_X7_mergeDown wl_X7_mergeDown wn_RX7 wc_X7_mergeDown ⟨by decide +kernel, by decide +kernel, by decide +kernel, by decide +kernel⟩ hd h
def bkX7_addPool_84 (P : Nat → tc_B) (q : tc_Q) : tc_B := tb_iinc 2 (-1) <| tb_cut (P 67) [0, 2]
theorem okX7_addPool_84 {Z : tc_Z} {q : tc_Q} (X : tc_Cx ({ frames := 1, cells := 0, slots := 0, locals := 21 } : Room) cX7_addPool 3 RX7 Z) (hr : tc_Rt 3 cX7_addPool 3 Z q) : tc_Ok 3 Z 84 (bkX7_addPool_84 (tc_At 3 Z) q) := by
  unfold bkX7_addPool_84
  refine to_iinc (pc := 84) X dX7_addPool_84 (by decide) (by decide) ?_
  refine to_goto (pc := 87) (tgt := 67) X dX7_addPool_87 (by decide) ?_
  exact to_cut [0, 2] (fun _ _ _ h => h)
def bkX7_addPool_76 (P : Nat → tc_B) (q : tc_Q) : tc_B := tb_if_ne (tb_vret q) <| tb_aload 0 <| tb_iload 2 <| tb_callV 1 2 6 RX7_mergeDown <| bkX7_addPool_84 P q
theorem okX7_addPool_76 {Z : tc_Z} {q : tc_Q} (X : tc_Cx ({ frames := 1, cells := 0, slots := 0, locals := 21 } : Room) cX7_addPool 3 RX7 Z) (hr : tc_Rt 3 cX7_addPool 3 Z q) : tc_Ok 3 Z 76 (bkX7_addPool_76 (tc_At 3 Z) q) := by
  unfold bkX7_addPool_76
  refine to_if_ne (pc := 76) (tgt := 90) X dX7_addPool_76 (by decide) ?_ ?_
  · exact to_vret (pc := 90) hr dX7_addPool_90
  refine to_aload_n (pc := 79) X dX7_addPool_79 rfl ?_
  refine to_iload_n (pc := 80) X dX7_addPool_80 rfl ?_
  refine cvX7_mergeDown (pc := 81) X wm_RX7_56 (by decide) dX7_addPool_81 ?_
  exact okX7_addPool_84 X hr
def bkX7_addPool_67 (P : Nat → tc_B) (q : tc_Q) : tc_B := tb_iload 2 <| tb_if_le (tb_vret q) <| tb_aload 0 <| tb_iload 2 <| tb_callV 1 2 6 RX7_isShareGreater <| bkX7_addPool_76 P q
theorem okX7_addPool_67 {Z : tc_Z} {q : tc_Q} (X : tc_Cx ({ frames := 1, cells := 0, slots := 0, locals := 21 } : Room) cX7_addPool 3 RX7 Z) (hr : tc_Rt 3 cX7_addPool 3 Z q) : tc_Ok 3 Z 67 (bkX7_addPool_67 (tc_At 3 Z) q) := by
  unfold bkX7_addPool_67
  refine to_iload_n (pc := 67) X dX7_addPool_67 rfl ?_
  refine to_if_le (pc := 68) (tgt := 90) X dX7_addPool_68 (by decide) ?_ ?_
  · exact to_vret (pc := 90) hr dX7_addPool_90
  refine to_aload_n (pc := 71) X dX7_addPool_71 rfl ?_
  refine to_iload_n (pc := 72) X dX7_addPool_72 rfl ?_
  refine cvX7_isShareGreater (pc := 73) X wm_RX7_52 (by decide) dX7_addPool_73 ?_
  exact okX7_addPool_76 X hr
def bkX7_addPool_0 (P : Nat → tc_B) (q : tc_Q) : tc_B := tb_aload 0 <| tb_getf 6 2 <| tb_aload 0 <| tb_getf 6 6 <| tb_iload 1 <| tb_iast <| tb_aload 0 <| tb_getf 6 3 <| tb_aload 0 <| tb_getf 6 6 <| tb_iload 1 <| tb_iast <| tb_aload 0 <| tb_getf 6 4 <| tb_aload 0 <| tb_getf 6 6 <| tb_aload 0 <| tb_getf 6 0 <| tb_iload 1 <| tb_iald <| tb_iast <| tb_aload 0 <| tb_getf 6 5 <| tb_aload 0 <| tb_getf 6 6 <| tb_aload 0 <| tb_getf 6 1 <| tb_iload 1 <| tb_iald <| tb_iast <| tb_aload 0 <| tb_dup <| tb_getf 6 6 <| tb_i 1 <| tb_iadd <| tb_putI 6 6 <| tb_aload 0 <| tb_getf 6 6 <| tb_i 1 <| tb_isub <| tb_istore 2 <| tb_cut (P 67) [0, 2]
theorem okX7_addPool_0 {Z : tc_Z} {q : tc_Q} (X : tc_Cx ({ frames := 1, cells := 0, slots := 0, locals := 21 } : Room) cX7_addPool 3 RX7 Z) (hr : tc_Rt 3 cX7_addPool 3 Z q) : tc_Ok 3 Z 0 (bkX7_addPool_0 (tc_At 3 Z) q) := by
  unfold bkX7_addPool_0
  refine to_aload_n (pc := 0) X dX7_addPool_0 rfl ?_
  refine gfX7_2 (pc := 1) X wf_RX7_18 dX7_addPool_1 ?_
  refine to_aload_n (pc := 4) X dX7_addPool_4 rfl ?_
  refine gfX7_6 (pc := 5) X wf_RX7_30 dX7_addPool_5 ?_
  refine to_iload_n (pc := 8) X dX7_addPool_8 rfl ?_
  refine to_iast (pc := 9) X dX7_addPool_9 ?_
  refine to_aload_n (pc := 10) X dX7_addPool_10 rfl ?_
  refine gfX7_3 (pc := 11) X wf_RX7_21 dX7_addPool_11 ?_
  refine to_aload_n (pc := 14) X dX7_addPool_14 rfl ?_
  refine gfX7_6 (pc := 15) X wf_RX7_30 dX7_addPool_15 ?_
  refine to_iload_n (pc := 18) X dX7_addPool_18 rfl ?_
  refine to_iast (pc := 19) X dX7_addPool_19 ?_
  refine to_aload_n (pc := 20) X dX7_addPool_20 rfl ?_
  refine gfX7_4 (pc := 21) X wf_RX7_24 dX7_addPool_21 ?_
  refine to_aload_n (pc := 24) X dX7_addPool_24 rfl ?_
  refine gfX7_6 (pc := 25) X wf_RX7_30 dX7_addPool_25 ?_
  refine to_aload_n (pc := 28) X dX7_addPool_28 rfl ?_
  refine gfX7_0 (pc := 29) X wf_RX7_9 dX7_addPool_29 ?_
  refine to_iload_n (pc := 32) X dX7_addPool_32 rfl ?_
  refine to_iald (pc := 33) X dX7_addPool_33 ?_
  refine to_iast (pc := 34) X dX7_addPool_34 ?_
  refine to_aload_n (pc := 35) X dX7_addPool_35 rfl ?_
  refine gfX7_5 (pc := 36) X wf_RX7_27 dX7_addPool_36 ?_
  refine to_aload_n (pc := 39) X dX7_addPool_39 rfl ?_
  refine gfX7_6 (pc := 40) X wf_RX7_30 dX7_addPool_40 ?_
  refine to_aload_n (pc := 43) X dX7_addPool_43 rfl ?_
  refine gfX7_1 (pc := 44) X wf_RX7_15 dX7_addPool_44 ?_
  refine to_iload_n (pc := 47) X dX7_addPool_47 rfl ?_
  refine to_iald (pc := 48) X dX7_addPool_48 ?_
  refine to_iast (pc := 49) X dX7_addPool_49 ?_
  refine to_aload_n (pc := 50) X dX7_addPool_50 rfl ?_
  refine to_dup (pc := 51) X dX7_addPool_51 ?_
  refine gfX7_6 (pc := 52) X wf_RX7_30 dX7_addPool_52 ?_
  refine to_iconst (pc := 55) X dX7_addPool_55 (by decide) ?_
  refine to_iadd (pc := 56) X dX7_addPool_56 ?_
  refine pfX7_6 (pc := 57) X wf_RX7_30 dX7_addPool_57 ?_
  refine to_aload_n (pc := 60) X dX7_addPool_60 rfl ?_
  refine gfX7_6 (pc := 61) X wf_RX7_30 dX7_addPool_61 ?_
  refine to_iconst (pc := 64) X dX7_addPool_64 (by decide) ?_
  refine to_isub (pc := 65) X dX7_addPool_65 ?_
  refine to_istore_n (pc := 66) X dX7_addPool_66 rfl (by decide) ?_
  exact to_cut [0, 2] (fun _ _ _ h => h)
def RX7_addPool (vs : List tc_V) (S : tc_S) (q : tc_Q) : Prop := ∀ P : Nat → tc_B, (∀ L K S, bkX7_addPool_67 P q L K S → P 67 L K S) → bkX7_addPool_0 P q (tc_num 0 vs) [] S
theorem metX7_addPool : tc_Met yX7_addPool (Cond.code yX7_addPool cX7_addPool 3 none) ({ frames := 1, cells := 0, slots := 0, locals := 21 } : Room) 3 3 RX7_addPool := tc_met (rk := 3) (by decide) ⟨rfl, rfl⟩ (fun Z q X hr vs S h => okX7_addPool_0 X hr _ _ _ (h (tc_At 3 Z) (okX7_addPool_67 X hr)))
theorem cvX7_addPool {R : Room} {cc : ByteArray} {nL pc ix : Nat} {own : String} {Z : tc_Z} {k : tc_B} (X : tc_Cx R cc nL own Z) (h1 : Cond.methodLink own ix yX7_addPool ∈ tc_tb) (hR : 1 + 1 ≤ R.frames ∧ 8 + (3 + 11) + 21 ≤ R.locals) (hd : decode cc pc = .ok (.invokevirtual ix, 3)) (h : tc_Ok nL Z (pc + 3) k) : tc_Ok nL Z pc (tb_callV 1 3 6 RX7_addPool k) := to_callV X metX7_addPool rfl ⟨rfl, rfl⟩ hR h1 wi_X7_addPool wl_X7_addPool wn_RX7 wc_X7_addPool ⟨by decide +kernel, by decide +kernel, by decide +kernel, by decide +kernel⟩ hd h
def bkX7_fill_41 (P : Nat → tc_B) (q : tc_Q) : tc_B := tb_iinc 2 1 <| tb_cut (P 12) [0, 2]
theorem okX7_fill_41 {Z : tc_Z} {q : tc_Q} (X : tc_Cx ({ frames := 2, cells := 0, slots := 0, locals := 43 } : Room) cX7_fill 3 RX7 Z) (hr : tc_Rt 3 cX7_fill 3 Z q) : tc_Ok 3 Z 41 (bkX7_fill_41 (tc_At 3 Z) q) := by
  unfold bkX7_fill_41
  refine to_iinc (pc := 41) X dX7_fill_41 (by decide) (by decide) ?_
  refine to_goto (pc := 44) (tgt := 12) X dX7_fill_44 (by decide) ?_
  exact to_cut [0, 2] (fun _ _ _ h => h)
def bkX7_fill_12 (P : Nat → tc_B) (q : tc_Q) : tc_B := tb_iload 2 <| tb_i 100 <| tb_icmp_gt (tb_vret q) <| tb_aload 0 <| tb_getf 6 0 <| tb_iload 2 <| tb_iald <| tb_if_le (tb_cut (P 41) [0, 2]) <| tb_aload 0 <| tb_getf 6 6 <| tb_i 40 <| tb_icmp_ge (tb_cut (P 41) [0, 2]) <| tb_aload 0 <| tb_iload 2 <| tb_callV 1 3 6 RX7_addPool <| tb_cut (P 41) [0, 2]
theorem okX7_fill_12 {Z : tc_Z} {q : tc_Q} (X : tc_Cx ({ frames := 2, cells := 0, slots := 0, locals := 43 } : Room) cX7_fill 3 RX7 Z) (hr : tc_Rt 3 cX7_fill 3 Z q) : tc_Ok 3 Z 12 (bkX7_fill_12 (tc_At 3 Z) q) := by
  unfold bkX7_fill_12
  refine to_iload_n (pc := 12) X dX7_fill_12 rfl ?_
  refine to_bipush (pc := 13) X dX7_fill_13 (by decide) ?_
  refine to_icmp_gt (pc := 15) (tgt := 47) X dX7_fill_15 (by decide) ?_ ?_
  · exact to_vret (pc := 47) hr dX7_fill_47
  refine to_aload_n (pc := 18) X dX7_fill_18 rfl ?_
  refine gfX7_0 (pc := 19) X wf_RX7_9 dX7_fill_19 ?_
  refine to_iload_n (pc := 22) X dX7_fill_22 rfl ?_
  refine to_iald (pc := 23) X dX7_fill_23 ?_
  refine to_if_le (pc := 24) (tgt := 41) X dX7_fill_24 (by decide) ?_ ?_
  · exact to_cut [0, 2] (fun _ _ _ h => h)
  refine to_aload_n (pc := 27) X dX7_fill_27 rfl ?_
  refine gfX7_6 (pc := 28) X wf_RX7_30 dX7_fill_28 ?_
  refine to_bipush (pc := 31) X dX7_fill_31 (by decide) ?_
  refine to_icmp_ge (pc := 33) (tgt := 41) X dX7_fill_33 (by decide) ?_ ?_
  · exact to_cut [0, 2] (fun _ _ _ h => h)
  refine to_aload_n (pc := 36) X dX7_fill_36 rfl ?_
  refine to_iload_n (pc := 37) X dX7_fill_37 rfl ?_
  refine cvX7_addPool (pc := 38) X wm_RX7_38 (by decide) dX7_fill_38 ?_
  exact to_cut [0, 2] (fun _ _ _ h => h)
def bkX7_fill_5 (P : Nat → tc_B) (q : tc_Q) : tc_B := tb_aload 0 <| tb_i 0 <| tb_putI 6 6 <| tb_i 0 <| tb_istore 2 <| tb_cut (P 12) [0, 2]
theorem okX7_fill_5 {Z : tc_Z} {q : tc_Q} (X : tc_Cx ({ frames := 2, cells := 0, slots := 0, locals := 43 } : Room) cX7_fill 3 RX7 Z) (hr : tc_Rt 3 cX7_fill 3 Z q) : tc_Ok 3 Z 5 (bkX7_fill_5 (tc_At 3 Z) q) := by
  unfold bkX7_fill_5
  refine to_aload_n (pc := 5) X dX7_fill_5 rfl ?_
  refine to_iconst (pc := 6) X dX7_fill_6 (by decide) ?_
  refine pfX7_6 (pc := 7) X wf_RX7_30 dX7_fill_7 ?_
  refine to_iconst (pc := 10) X dX7_fill_10 (by decide) ?_
  refine to_istore_n (pc := 11) X dX7_fill_11 rfl (by decide) ?_
  exact to_cut [0, 2] (fun _ _ _ h => h)
def bkX7_fill_0 (P : Nat → tc_B) (q : tc_Q) : tc_B := tb_aload 0 <| tb_aload 1 <| tb_callV 1 4 6 RX7_sortByChance <| bkX7_fill_5 P q
theorem okX7_fill_0 {Z : tc_Z} {q : tc_Q} (X : tc_Cx ({ frames := 2, cells := 0, slots := 0, locals := 43 } : Room) cX7_fill 3 RX7 Z) (hr : tc_Rt 3 cX7_fill 3 Z q) : tc_Ok 3 Z 0 (bkX7_fill_0 (tc_At 3 Z) q) := by
  unfold bkX7_fill_0
  refine to_aload_n (pc := 0) X dX7_fill_0 rfl ?_
  refine to_aload_n (pc := 1) X dX7_fill_1 rfl ?_
  refine cvX7_sortByChance (pc := 2) X wm_RX7_34 (by decide) dX7_fill_2 ?_
  exact okX7_fill_5 X hr
def RX7_fill (vs : List tc_V) (S : tc_S) (q : tc_Q) : Prop := ∀ P : Nat → tc_B, (∀ L K S, bkX7_fill_12 P q L K S → P 12 L K S) → (∀ L K S, bkX7_fill_41 P q L K S → P 41 L K S) → bkX7_fill_0 P q (tc_num 0 vs) [] S
theorem metX7_fill : tc_Met yX7_fill (Cond.code yX7_fill cX7_fill 3 none) ({ frames := 2, cells := 0, slots := 0, locals := 43 } : Room) 3 3 RX7_fill := tc_met (rk := 3) (by decide) ⟨rfl, rfl⟩ (fun Z q X hr vs S h => okX7_fill_0 X hr _ _ _ (h (tc_At 3 Z) (okX7_fill_12 X hr) (okX7_fill_41 X hr)))
theorem cvX7_fill {R : Room} {cc : ByteArray} {nL pc ix : Nat} {own : String} {Z : tc_Z} {k : tc_B} (X : tc_Cx R cc nL own Z) (h1 : Cond.methodLink own ix yX7_fill ∈ tc_tb) (hR : 2 + 1 ≤ R.frames ∧ 8 + (3 + 11) + 43 ≤ R.locals) (hd : decode cc pc = .ok (.invokevirtual ix, 3)) (h : tc_Ok nL Z (pc + 3) k) : tc_Ok nL Z pc (tb_callV 1 3 6 RX7_fill k) := to_callV X metX7_fill rfl ⟨rfl, rfl⟩ hR h1 wi_X7_fill wl_X7_fill wn_RX7 wc_X7_fill ⟨by decide +kernel, by decide +kernel, by decide +kernel, by decide +kernel⟩ hd h
def bkX7_tellOf_0 (P : Nat → tc_B) (q : tc_Q) : tc_B := tb_iload 2 <| tb_if_ne (tb_iload 2 <| tb_i 1 <| tb_icmp_ne (tb_iload 2 <| tb_i 2 <| tb_icmp_ne (tb_aload 0 <| tb_getf 6 5 <| tb_iload 1 <| tb_iald <| tb_iret q) <| tb_aload 0 <| tb_getf 6 4 <| tb_iload 1 <| tb_iald <| tb_iret q) <| tb_aload 0 <| tb_getf 6 3 <| tb_iload 1 <| tb_iald <| tb_iret q) <| tb_aload 0 <| tb_getf 6 2 <| tb_iload 1 <| tb_iald <| tb_iret q
theorem okX7_tellOf_0 {Z : tc_Z} {q : tc_Q} (X : tc_Cx ({ frames := 0, cells := 0, slots := 0, locals := 0 } : Room) cX7_tellOf 3 RX7 Z) (hr : tc_Rt 0 cX7_tellOf 3 Z q) : tc_Ok 3 Z 0 (bkX7_tellOf_0 (tc_At 3 Z) q) := by
  unfold bkX7_tellOf_0
  refine to_iload_n (pc := 0) X dX7_tellOf_0 rfl ?_
  refine to_if_ne (pc := 1) (tgt := 11) X dX7_tellOf_1 (by decide) ?_ ?_
  · refine to_iload_n (pc := 11) X dX7_tellOf_11 rfl ?_
    refine to_iconst (pc := 12) X dX7_tellOf_12 (by decide) ?_
    refine to_icmp_ne (pc := 13) (tgt := 23) X dX7_tellOf_13 (by decide) ?_ ?_
    · refine to_iload_n (pc := 23) X dX7_tellOf_23 rfl ?_
      refine to_iconst (pc := 24) X dX7_tellOf_24 (by decide) ?_
      refine to_icmp_ne (pc := 25) (tgt := 37) X dX7_tellOf_25 (by decide) ?_ ?_
      · refine to_aload_n (pc := 37) X dX7_tellOf_37 rfl ?_
        refine gfX7_5 (pc := 38) X wf_RX7_27 dX7_tellOf_38 ?_
        refine to_iload_n (pc := 41) X dX7_tellOf_41 rfl ?_
        refine to_iald (pc := 42) X dX7_tellOf_42 ?_
        exact to_iret (pc := 43) hr dX7_tellOf_43
      refine to_aload_n (pc := 28) X dX7_tellOf_28 rfl ?_
      refine gfX7_4 (pc := 29) X wf_RX7_24 dX7_tellOf_29 ?_
      refine to_iload_n (pc := 32) X dX7_tellOf_32 rfl ?_
      refine to_iald (pc := 33) X dX7_tellOf_33 ?_
      refine to_goto (pc := 34) (tgt := 43) X dX7_tellOf_34 (by decide) ?_
      exact to_iret (pc := 43) hr dX7_tellOf_43
    refine to_aload_n (pc := 16) X dX7_tellOf_16 rfl ?_
    refine gfX7_3 (pc := 17) X wf_RX7_21 dX7_tellOf_17 ?_
    refine to_iload_n (pc := 20) X dX7_tellOf_20 rfl ?_
    refine to_iald (pc := 21) X dX7_tellOf_21 ?_
    exact to_iret (pc := 22) hr dX7_tellOf_22
  refine to_aload_n (pc := 4) X dX7_tellOf_4 rfl ?_
  refine gfX7_2 (pc := 5) X wf_RX7_18 dX7_tellOf_5 ?_
  refine to_iload_n (pc := 8) X dX7_tellOf_8 rfl ?_
  refine to_iald (pc := 9) X dX7_tellOf_9 ?_
  exact to_iret (pc := 10) hr dX7_tellOf_10
def RX7_tellOf (vs : List tc_V) (S : tc_S) (q : tc_Q) : Prop := ∀ P : Nat → tc_B, bkX7_tellOf_0 P q (tc_num 0 vs) [] S
theorem metX7_tellOf : tc_Met yX7_tellOf (Cond.code yX7_tellOf cX7_tellOf 3 (some .int)) ({ frames := 0, cells := 0, slots := 0, locals := 0 } : Room) 0 3 RX7_tellOf := tc_met (rk := 0) (by decide) ⟨rfl, rfl⟩ (fun Z q X hr vs S h => okX7_tellOf_0 X hr _ _ _ (h (tc_At 3 Z)))
theorem cvX7_tellOf {R : Room} {cc : ByteArray} {nL pc ix : Nat} {own : String} {Z : tc_Z} {k : tc_B} (X : tc_Cx R cc nL own Z) (h1 : Cond.methodLink own ix yX7_tellOf ∈ tc_tb) (hR : 0 + 1 ≤ R.frames ∧ 8 + (3 + 11) + 0 ≤ R.locals) (hd : decode cc pc = .ok (.invokevirtual ix, 3)) (h : tc_Ok nL Z (pc + 3) k) : tc_Ok nL Z pc (tb_callV 2 3 6 RX7_tellOf k) := to_callV X metX7_tellOf rfl ⟨rfl, rfl⟩ hR h1 wi_X7_tellOf wl_X7_tellOf wn_RX7 wc_X7_tellOf ⟨by decide +kernel, by decide +kernel, by decide +kernel, by decide +kernel⟩ hd h
def bkX7_findFlat_61 (P : Nat → tc_B) (q : tc_Q) : tc_B := tb_vret q
theorem okX7_findFlat_61 {Z : tc_Z} {q : tc_Q} (X : tc_Cx ({ frames := 3, cells := 0, slots := 0, locals := 84 } : Room) cX7_findFlat 4 RX7 Z) (hr : tc_Rt 3 cX7_findFlat 4 Z q) : tc_Ok 4 Z 61 (bkX7_findFlat_61 (tc_At 4 Z) q) := by
  unfold bkX7_findFlat_61
  exact to_vret (pc := 61) hr dX7_findFlat_61
def bkX7_findFlat_49 (P : Nat → tc_B) (q : tc_Q) : tc_B := tb_iinc 3 1 <| tb_cut (P 8) [0, 1, 2, 3]
theorem okX7_findFlat_49 {Z : tc_Z} {q : tc_Q} (X : tc_Cx ({ frames := 3, cells := 0, slots := 0, locals := 84 } : Room) cX7_findFlat 4 RX7 Z) (hr : tc_Rt 3 cX7_findFlat 4 Z q) : tc_Ok 4 Z 49 (bkX7_findFlat_49 (tc_At 4 Z) q) := by
  unfold bkX7_findFlat_49
  refine to_iinc (pc := 49) X dX7_findFlat_49 (by decide) (by decide) ?_
  refine to_goto (pc := 52) (tgt := 8) X dX7_findFlat_52 (by decide) ?_
  exact to_cut [0, 1, 2, 3] (fun _ _ _ h => h)
def bkX7_findFlat_8 (P : Nat → tc_B) (q : tc_Q) : tc_B := tb_iload 3 <| tb_aload 0 <| tb_getf 6 6 <| tb_icmp_ge (tb_aload 2 <| tb_iload 1 <| tb_i2l <| tb_callV 1 3 3 RX4_divideBy <| bkX7_findFlat_61 P q) <| tb_aload 2 <| tb_aload 0 <| tb_getf 6 5 <| tb_iload 3 <| tb_iald <| tb_i2l <| tb_aload 0 <| tb_getf 6 4 <| tb_iload 3 <| tb_iald <| tb_aload 0 <| tb_getf 6 5 <| tb_iload 3 <| tb_iald <| tb_isub <| tb_i2l <| tb_lmul <| tb_aload 0 <| tb_getf 6 4 <| tb_iload 3 <| tb_iald <| tb_i2l <| tb_callV 2 9 3 RX4_add <| bkX7_findFlat_49 P q
theorem okX7_findFlat_8 {Z : tc_Z} {q : tc_Q} (X : tc_Cx ({ frames := 3, cells := 0, slots := 0, locals := 84 } : Room) cX7_findFlat 4 RX7 Z) (hr : tc_Rt 3 cX7_findFlat 4 Z q) : tc_Ok 4 Z 8 (bkX7_findFlat_8 (tc_At 4 Z) q) := by
  unfold bkX7_findFlat_8
  refine to_iload_n (pc := 8) X dX7_findFlat_8 rfl ?_
  refine to_aload_n (pc := 9) X dX7_findFlat_9 rfl ?_
  refine gfX7_6 (pc := 10) X wf_RX7_30 dX7_findFlat_10 ?_
  refine to_icmp_ge (pc := 13) (tgt := 55) X dX7_findFlat_13 (by decide) ?_ ?_
  · refine to_aload_n (pc := 55) X dX7_findFlat_55 rfl ?_
    refine to_iload_n (pc := 56) X dX7_findFlat_56 rfl ?_
    refine to_i2l (pc := 57) X dX7_findFlat_57 ?_
    refine cvX4_divideBy (pc := 58) X wm_RX7_68 (by decide) dX7_findFlat_58 ?_
    exact okX7_findFlat_61 X hr
  refine to_aload_n (pc := 16) X dX7_findFlat_16 rfl ?_
  refine to_aload_n (pc := 17) X dX7_findFlat_17 rfl ?_
  refine gfX7_5 (pc := 18) X wf_RX7_27 dX7_findFlat_18 ?_
  refine to_iload_n (pc := 21) X dX7_findFlat_21 rfl ?_
  refine to_iald (pc := 22) X dX7_findFlat_22 ?_
  refine to_i2l (pc := 23) X dX7_findFlat_23 ?_
  refine to_aload_n (pc := 24) X dX7_findFlat_24 rfl ?_
  refine gfX7_4 (pc := 25) X wf_RX7_24 dX7_findFlat_25 ?_
  refine to_iload_n (pc := 28) X dX7_findFlat_28 rfl ?_
  refine to_iald (pc := 29) X dX7_findFlat_29 ?_
  refine to_aload_n (pc := 30) X dX7_findFlat_30 rfl ?_
  refine gfX7_5 (pc := 31) X wf_RX7_27 dX7_findFlat_31 ?_
  refine to_iload_n (pc := 34) X dX7_findFlat_34 rfl ?_
  refine to_iald (pc := 35) X dX7_findFlat_35 ?_
  refine to_isub (pc := 36) X dX7_findFlat_36 ?_
  refine to_i2l (pc := 37) X dX7_findFlat_37 ?_
  refine to_lmul (pc := 38) X dX7_findFlat_38 ?_
  refine to_aload_n (pc := 39) X dX7_findFlat_39 rfl ?_
  refine gfX7_4 (pc := 40) X wf_RX7_24 dX7_findFlat_40 ?_
  refine to_iload_n (pc := 43) X dX7_findFlat_43 rfl ?_
  refine to_iald (pc := 44) X dX7_findFlat_44 ?_
  refine to_i2l (pc := 45) X dX7_findFlat_45 ?_
  refine cvX4_add (pc := 46) X wm_RX7_65 (by decide) dX7_findFlat_46 ?_
  exact okX7_findFlat_49 X hr
def bkX7_findFlat_6 (P : Nat → tc_B) (q : tc_Q) : tc_B := tb_i 0 <| tb_istore 3 <| tb_cut (P 8) [0, 1, 2, 3]
theorem okX7_findFlat_6 {Z : tc_Z} {q : tc_Q} (X : tc_Cx ({ frames := 3, cells := 0, slots := 0, locals := 84 } : Room) cX7_findFlat 4 RX7 Z) (hr : tc_Rt 3 cX7_findFlat 4 Z q) : tc_Ok 4 Z 6 (bkX7_findFlat_6 (tc_At 4 Z) q) := by
  unfold bkX7_findFlat_6
  refine to_iconst (pc := 6) X dX7_findFlat_6 (by decide) ?_
  refine to_istore_n (pc := 7) X dX7_findFlat_7 rfl (by decide) ?_
  exact to_cut [0, 1, 2, 3] (fun _ _ _ h => h)
def bkX7_findFlat_0 (P : Nat → tc_B) (q : tc_Q) : tc_B := tb_aload 2 <| tb_j 0 <| tb_j 1 <| tb_callV 2 7 3 RX4_become <| bkX7_findFlat_6 P q
theorem okX7_findFlat_0 {Z : tc_Z} {q : tc_Q} (X : tc_Cx ({ frames := 3, cells := 0, slots := 0, locals := 84 } : Room) cX7_findFlat 4 RX7 Z) (hr : tc_Rt 3 cX7_findFlat 4 Z q) : tc_Ok 4 Z 0 (bkX7_findFlat_0 (tc_At 4 Z) q) := by
  unfold bkX7_findFlat_0
  refine to_aload_n (pc := 0) X dX7_findFlat_0 rfl ?_
  refine to_lconst (pc := 1) X dX7_findFlat_1 (by decide) ?_
  refine to_lconst (pc := 2) X dX7_findFlat_2 (by decide) ?_
  refine cvX4_become (pc := 3) X wm_RX7_59 (by decide) dX7_findFlat_3 ?_
  exact okX7_findFlat_6 X hr
def RX7_findFlat (vs : List tc_V) (S : tc_S) (q : tc_Q) : Prop := ∀ P : Nat → tc_B, (∀ L K S, bkX7_findFlat_8 P q L K S → P 8 L K S) → bkX7_findFlat_0 P q (tc_num 0 vs) [] S
theorem metX7_findFlat : tc_Met yX7_findFlat (Cond.code yX7_findFlat cX7_findFlat 4 none) ({ frames := 3, cells := 0, slots := 0, locals := 84 } : Room) 3 4 RX7_findFlat := tc_met (rk := 3) (by decide) ⟨rfl, rfl⟩ (fun Z q X hr vs S h => okX7_findFlat_0 X hr _ _ _ (h (tc_At 4 Z) (okX7_findFlat_8 X hr)))
theorem cvX7_findFlat {R : Room} {cc : ByteArray} {nL pc ix : Nat} {own : String} {Z : tc_Z} {k : tc_B} (X : tc_Cx R cc nL own Z) (h1 : Cond.methodLink own ix yX7_findFlat ∈ tc_tb) (hR : 3 + 1 ≤ R.frames ∧ 8 + (4 + 11) + 84 ≤ R.locals) (hd : decode cc pc = .ok (.invokevirtual ix, 3)) (h : tc_Ok nL Z (pc + 3) k) : tc_Ok nL Z pc (tb_callV 2 4 6 RX7_findFlat k) := to_callV X metX7_findFlat rfl ⟨rfl, rfl⟩ hR h1 wi_X7_findFlat wl_X7_findFlat wn_RX7 wc_X7_findFlat ⟨by decide +kernel, by decide +kernel, by decide +kernel, by decide +kernel⟩ hd h
def bkX9_put_0 (P : Nat → tc_B) (q : tc_Q) : tc_B := tb_aload 0 <| tb_getf 7 1 <| tb_aload 0 <| tb_getf 7 0 <| tb_alen <| tb_icmp_lt (tb_aload 0 <| tb_getf 7 0 <| tb_aload 0 <| tb_getf 7 1 <| tb_iload 1 <| tb_iast <| tb_aload 0 <| tb_dup <| tb_getf 7 1 <| tb_i 1 <| tb_iadd <| tb_putI 7 1 <| tb_i 1 <| tb_zret q) <| tb_i 0 <| tb_zret q
theorem okX9_put_0 {Z : tc_Z} {q : tc_Q} (X : tc_Cx ({ frames := 0, cells := 0, slots := 0, locals := 0 } : Room) cX9_put 2 RX9 Z) (hr : tc_Rt 1 cX9_put 2 Z q) : tc_Ok 2 Z 0 (bkX9_put_0 (tc_At 2 Z) q) := by
  unfold bkX9_put_0
  refine to_aload_n (pc := 0) X dX9_put_0 rfl ?_
  refine gfX9_1 (pc := 1) X wf_RX9_15 dX9_put_1 ?_
  refine to_aload_n (pc := 4) X dX9_put_4 rfl ?_
  refine gfX9_0 (pc := 5) X wf_RX9_9 dX9_put_5 ?_
  refine to_alen (pc := 8) X dX9_put_8 ?_
  refine to_icmp_lt (pc := 9) (tgt := 14) X dX9_put_9 (by decide) ?_ ?_
  · refine to_aload_n (pc := 14) X dX9_put_14 rfl ?_
    refine gfX9_0 (pc := 15) X wf_RX9_9 dX9_put_15 ?_
    refine to_aload_n (pc := 18) X dX9_put_18 rfl ?_
    refine gfX9_1 (pc := 19) X wf_RX9_15 dX9_put_19 ?_
    refine to_iload_n (pc := 22) X dX9_put_22 rfl ?_
    refine to_iast (pc := 23) X dX9_put_23 ?_
    refine to_aload_n (pc := 24) X dX9_put_24 rfl ?_
    refine to_dup (pc := 25) X dX9_put_25 ?_
    refine gfX9_1 (pc := 26) X wf_RX9_15 dX9_put_26 ?_
    refine to_iconst (pc := 29) X dX9_put_29 (by decide) ?_
    refine to_iadd (pc := 30) X dX9_put_30 ?_
    refine pfX9_1 (pc := 31) X wf_RX9_15 dX9_put_31 ?_
    refine to_iconst (pc := 34) X dX9_put_34 (by decide) ?_
    exact to_zret (pc := 35) hr dX9_put_35
  refine to_iconst (pc := 12) X dX9_put_12 (by decide) ?_
  exact to_zret (pc := 13) hr dX9_put_13
def RX9_put (vs : List tc_V) (S : tc_S) (q : tc_Q) : Prop := ∀ P : Nat → tc_B, bkX9_put_0 P q (tc_num 0 vs) [] S
theorem metX9_put : tc_Met yX9_put (Cond.code yX9_put cX9_put 2 (some .boolean)) ({ frames := 0, cells := 0, slots := 0, locals := 0 } : Room) 1 2 RX9_put := tc_met (rk := 1) (by decide) ⟨rfl, rfl⟩ (fun Z q X hr vs S h => okX9_put_0 X hr _ _ _ (h (tc_At 2 Z)))
theorem cvX9_put {R : Room} {cc : ByteArray} {nL pc ix : Nat} {own : String} {Z : tc_Z} {k : tc_B} (X : tc_Cx R cc nL own Z) (h1 : Cond.methodLink own ix yX9_put ∈ tc_tb) (hR : 0 + 1 ≤ R.frames ∧ 8 + (2 + 11) + 0 ≤ R.locals) (hd : decode cc pc = .ok (.invokevirtual ix, 3)) (h : tc_Ok nL Z (pc + 3) k) : tc_Ok nL Z pc (tb_callV 1 2 7 RX9_put k) := to_callV X metX9_put rfl ⟨rfl, rfl⟩ hR h1 wi_X9_put wl_X9_put wn_RX9 wc_X9_put ⟨by decide +kernel, by decide +kernel, by decide +kernel, by decide +kernel⟩ hd h
def bkX9_clear_0 (P : Nat → tc_B) (q : tc_Q) : tc_B := tb_aload 0 <| tb_getf 7 1 <| tb_istore 1 <| tb_aload 0 <| tb_i 0 <| tb_putI 7 1 <| tb_iload 1 <| tb_iret q
theorem okX9_clear_0 {Z : tc_Z} {q : tc_Q} (X : tc_Cx ({ frames := 0, cells := 0, slots := 0, locals := 0 } : Room) cX9_clear 2 RX9 Z) (hr : tc_Rt 0 cX9_clear 2 Z q) : tc_Ok 2 Z 0 (bkX9_clear_0 (tc_At 2 Z) q) := by
  unfold bkX9_clear_0
  refine to_aload_n (pc := 0) X dX9_clear_0 rfl ?_
  refine gfX9_1 (pc := 1) X wf_RX9_15 dX9_clear_1 ?_
  refine to_istore_n (pc := 4) X dX9_clear_4 rfl (by decide) ?_
  refine to_aload_n (pc := 5) X dX9_clear_5 rfl ?_
  refine to_iconst (pc := 6) X dX9_clear_6 (by decide) ?_
  refine pfX9_1 (pc := 7) X wf_RX9_15 dX9_clear_7 ?_
  refine to_iload_n (pc := 10) X dX9_clear_10 rfl ?_
  exact to_iret (pc := 11) hr dX9_clear_11
def RX9_clear (vs : List tc_V) (S : tc_S) (q : tc_Q) : Prop := ∀ P : Nat → tc_B, bkX9_clear_0 P q (tc_num 0 vs) [] S
theorem metX9_clear : tc_Met yX9_clear (Cond.code yX9_clear cX9_clear 2 (some .int)) ({ frames := 0, cells := 0, slots := 0, locals := 0 } : Room) 0 2 RX9_clear := tc_met (rk := 0) (by decide) ⟨rfl, rfl⟩ (fun Z q X hr vs S h => okX9_clear_0 X hr _ _ _ (h (tc_At 2 Z)))
theorem cvX9_clear {R : Room} {cc : ByteArray} {nL pc ix : Nat} {own : String} {Z : tc_Z} {k : tc_B} (X : tc_Cx R cc nL own Z) (h1 : Cond.methodLink own ix yX9_clear ∈ tc_tb) (hR : 0 + 1 ≤ R.frames ∧ 8 + (2 + 11) + 0 ≤ R.locals) (hd : decode cc pc = .ok (.invokevirtual ix, 3)) (h : tc_Ok nL Z (pc + 3) k) : tc_Ok nL Z pc (tb_callV 0 2 7 RX9_clear k) := to_callV X metX9_clear rfl ⟨rfl, rfl⟩ hR h1 wi_X9_clear wl_X9_clear wn_RX9 wc_X9_clear ⟨by decide +kernel, by decide +kernel, by decide +kernel, by decide +kernel⟩ hd h
def bkX9_spells_16 (P : Nat → tc_B) (q : tc_Q) : tc_B := tb_aload 0 <| tb_getf 7 1 <| tb_icmp_ne (tb_i 0 <| tb_zret q) <| tb_i 1 <| tb_zret q
theorem okX9_spells_16 {Z : tc_Z} {q : tc_Q} (X : tc_Cx ({ frames := 5, cells := 0, slots := 0, locals := 109 } : Room) cX9_spells 2 RX9 Z) (hr : tc_Rt 1 cX9_spells 2 Z q) : tc_Ok 2 Z 16 (bkX9_spells_16 (tc_At 2 Z) q) := by
  unfold bkX9_spells_16
  refine to_aload_n (pc := 16) X dX9_spells_16 rfl ?_
  refine gfX9_1 (pc := 17) X wf_RX9_15 dX9_spells_17 ?_
  refine to_icmp_ne (pc := 20) (tgt := 27) X dX9_spells_20 (by decide) ?_ ?_
  · refine to_iconst (pc := 27) X dX9_spells_27 (by decide) ?_
    exact to_zret (pc := 28) hr dX9_spells_28
  refine to_iconst (pc := 23) X dX9_spells_23 (by decide) ?_
  refine to_goto (pc := 24) (tgt := 28) X dX9_spells_24 (by decide) ?_
  exact to_zret (pc := 28) hr dX9_spells_28
def bkX9_spells_8 (P : Nat → tc_B) (q : tc_Q) : tc_B := tb_icmp_ne (tb_i 0 <| tb_zret q) <| tb_aload 0 <| tb_aload 1 <| tb_callV 1 3 7 RX9_sharedWith <| bkX9_spells_16 P q
theorem okX9_spells_8 {Z : tc_Z} {q : tc_Q} (X : tc_Cx ({ frames := 5, cells := 0, slots := 0, locals := 109 } : Room) cX9_spells 2 RX9 Z) (hr : tc_Rt 1 cX9_spells 2 Z q) : tc_Ok 2 Z 8 (bkX9_spells_8 (tc_At 2 Z) q) := by
  unfold bkX9_spells_8
  refine to_icmp_ne (pc := 8) (tgt := 27) X dX9_spells_8 (by decide) ?_ ?_
  · refine to_iconst (pc := 27) X dX9_spells_27 (by decide) ?_
    exact to_zret (pc := 28) hr dX9_spells_28
  refine to_aload_n (pc := 11) X dX9_spells_11 rfl ?_
  refine to_aload_n (pc := 12) X dX9_spells_12 rfl ?_
  refine cvX9_sharedWith (pc := 13) X wm_RX9_24 (by decide) dX9_spells_13 ?_
  exact okX9_spells_16 X hr
def bkX9_spells_0 (P : Nat → tc_B) (q : tc_Q) : tc_B := tb_aload 0 <| tb_getf 7 1 <| tb_aload 1 <| tb_callE 0 1 3 10 RJ0_length_8abf5 <| bkX9_spells_8 P q
theorem okX9_spells_0 {Z : tc_Z} {q : tc_Q} (X : tc_Cx ({ frames := 5, cells := 0, slots := 0, locals := 109 } : Room) cX9_spells 2 RX9 Z) (hr : tc_Rt 1 cX9_spells 2 Z q) : tc_Ok 2 Z 0 (bkX9_spells_0 (tc_At 2 Z) q) := by
  unfold bkX9_spells_0
  refine to_aload_n (pc := 0) X dX9_spells_0 rfl ?_
  refine gfX9_1 (pc := 1) X wf_RX9_15 dX9_spells_1 ?_
  refine to_aload_n (pc := 4) X dX9_spells_4 rfl ?_
  refine cvJ0_length_8abf5 (pc := 5) X wm_RX9_19 (by decide) dX9_spells_5 ?_
  exact okX9_spells_8 X hr
def RX9_spells (vs : List tc_V) (S : tc_S) (q : tc_Q) : Prop := ∀ P : Nat → tc_B, bkX9_spells_0 P q (tc_num 0 vs) [] S
theorem metX9_spells : tc_Met yX9_spells (Cond.code yX9_spells cX9_spells 2 (some .boolean)) ({ frames := 5, cells := 0, slots := 0, locals := 109 } : Room) 1 2 RX9_spells := tc_met (rk := 1) (by decide) ⟨rfl, rfl⟩ (fun Z q X hr vs S h => okX9_spells_0 X hr _ _ _ (h (tc_At 2 Z)))
theorem cvX9_spells {R : Room} {cc : ByteArray} {nL pc ix : Nat} {own : String} {Z : tc_Z} {k : tc_B} (X : tc_Cx R cc nL own Z) (h1 : Cond.methodLink own ix yX9_spells ∈ tc_tb) (hR : 5 + 1 ≤ R.frames ∧ 8 + (2 + 11) + 109 ≤ R.locals) (hd : decode cc pc = .ok (.invokevirtual ix, 3)) (h : tc_Ok nL Z (pc + 3) k) : tc_Ok nL Z pc (tb_callV 1 2 7 RX9_spells k) := to_callV X metX9_spells rfl ⟨rfl, rfl⟩ hR h1 wi_X9_spells wl_X9_spells wn_RX9 wc_X9_spells ⟨by decide +kernel, by decide +kernel, by decide +kernel, by decide +kernel⟩ hd h
