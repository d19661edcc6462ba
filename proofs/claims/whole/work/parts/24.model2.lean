def bkX11_isAhead_23 (P : Nat → tc_B) (q : tc_Q) : tc_B := tb_i2l <| tb_lmul <| tb_lstore 5 <| tb_lload 3 <| tb_lload 5 <| tb_lcmp <| tb_if_eq (tb_iload 1 <| tb_iload 2 <| tb_icmp_ge (tb_i 0 <| tb_zret q) <| tb_i 1 <| tb_zret q) <| tb_lload 3 <| tb_lload 5 <| tb_lcmp <| tb_if_ge (tb_i 0 <| tb_zret q) <| tb_i 1 <| tb_zret q
theorem okX11_isAhead_23 {Z : tc_Z} {q : tc_Q} (X : tc_Cx ({ frames := 3, cells := 0, slots := 0, locals := 72 } : Room) cX11_isAhead 7 RX11 Z) (hr : tc_Rt 1 cX11_isAhead 7 Z q) : tc_Ok 7 Z 23 (bkX11_isAhead_23 (tc_At 7 Z) q) := by
  unfold bkX11_isAhead_23
  refine to_i2l (pc := 23) X dX11_isAhead_23 ?_
  refine to_lmul (pc := 24) X dX11_isAhead_24 ?_
  refine to_lstore (pc := 25) X dX11_isAhead_25 (by decide) ?_
  refine to_lload_n (pc := 27) X dX11_isAhead_27 rfl ?_
  refine to_lload (pc := 28) X dX11_isAhead_28 ?_
  refine to_lcmp (pc := 30) X dX11_isAhead_30 ?_
  refine to_if_eq (pc := 31) (tgt := 49) X dX11_isAhead_31 (by decide) ?_ ?_
  · refine to_iload_n (pc := 49) X dX11_isAhead_49 rfl ?_
    refine to_iload_n (pc := 50) X dX11_isAhead_50 rfl ?_
    refine to_icmp_ge (pc := 51) (tgt := 58) X dX11_isAhead_51 (by decide) ?_ ?_
    · refine to_iconst (pc := 58) X dX11_isAhead_58 (by decide) ?_
      exact to_zret (pc := 59) hr dX11_isAhead_59
    refine to_iconst (pc := 54) X dX11_isAhead_54 (by decide) ?_
    refine to_goto (pc := 55) (tgt := 59) X dX11_isAhead_55 (by decide) ?_
    exact to_zret (pc := 59) hr dX11_isAhead_59
  refine to_lload_n (pc := 34) X dX11_isAhead_34 rfl ?_
  refine to_lload (pc := 35) X dX11_isAhead_35 ?_
  refine to_lcmp (pc := 37) X dX11_isAhead_37 ?_
  refine to_if_ge (pc := 38) (tgt := 45) X dX11_isAhead_38 (by decide) ?_ ?_
  · refine to_iconst (pc := 45) X dX11_isAhead_45 (by decide) ?_
    refine to_goto (pc := 46) (tgt := 59) X dX11_isAhead_46 (by decide) ?_
    exact to_zret (pc := 59) hr dX11_isAhead_59
  refine to_iconst (pc := 41) X dX11_isAhead_41 (by decide) ?_
  refine to_goto (pc := 42) (tgt := 59) X dX11_isAhead_42 (by decide) ?_
  exact to_zret (pc := 59) hr dX11_isAhead_59
def bkX11_isAhead_18 (P : Nat → tc_B) (q : tc_Q) : tc_B := tb_aload 0 <| tb_iload 1 <| tb_callV 1 4 9 RX11_cases <| bkX11_isAhead_23 P q
theorem okX11_isAhead_18 {Z : tc_Z} {q : tc_Q} (X : tc_Cx ({ frames := 3, cells := 0, slots := 0, locals := 72 } : Room) cX11_isAhead 7 RX11 Z) (hr : tc_Rt 1 cX11_isAhead 7 Z q) : tc_Ok 7 Z 18 (bkX11_isAhead_18 (tc_At 7 Z) q) := by
  unfold bkX11_isAhead_18
  refine to_aload_n (pc := 18) X dX11_isAhead_18 rfl ?_
  refine to_iload_n (pc := 19) X dX11_isAhead_19 rfl ?_
  refine cvX11_cases (pc := 20) X wm_RX11_164 (by decide) dX11_isAhead_20 ?_
  exact okX11_isAhead_23 X hr
def bkX11_isAhead_10 (P : Nat → tc_B) (q : tc_Q) : tc_B := tb_i2l <| tb_lmul <| tb_lstore 3 <| tb_aload 0 <| tb_iload 2 <| tb_callV 1 5 9 RX11_misses <| bkX11_isAhead_18 P q
theorem okX11_isAhead_10 {Z : tc_Z} {q : tc_Q} (X : tc_Cx ({ frames := 3, cells := 0, slots := 0, locals := 72 } : Room) cX11_isAhead 7 RX11 Z) (hr : tc_Rt 1 cX11_isAhead 7 Z q) : tc_Ok 7 Z 10 (bkX11_isAhead_10 (tc_At 7 Z) q) := by
  unfold bkX11_isAhead_10
  refine to_i2l (pc := 10) X dX11_isAhead_10 ?_
  refine to_lmul (pc := 11) X dX11_isAhead_11 ?_
  refine to_lstore_n (pc := 12) X dX11_isAhead_12 rfl (by decide) ?_
  refine to_aload_n (pc := 13) X dX11_isAhead_13 rfl ?_
  refine to_iload_n (pc := 14) X dX11_isAhead_14 rfl ?_
  refine cvX11_misses (pc := 15) X wm_RX11_169 (by decide) dX11_isAhead_15 ?_
  exact okX11_isAhead_18 X hr
def bkX11_isAhead_5 (P : Nat → tc_B) (q : tc_Q) : tc_B := tb_aload 0 <| tb_iload 2 <| tb_callV 1 4 9 RX11_cases <| bkX11_isAhead_10 P q
theorem okX11_isAhead_5 {Z : tc_Z} {q : tc_Q} (X : tc_Cx ({ frames := 3, cells := 0, slots := 0, locals := 72 } : Room) cX11_isAhead 7 RX11 Z) (hr : tc_Rt 1 cX11_isAhead 7 Z q) : tc_Ok 7 Z 5 (bkX11_isAhead_5 (tc_At 7 Z) q) := by
  unfold bkX11_isAhead_5
  refine to_aload_n (pc := 5) X dX11_isAhead_5 rfl ?_
  refine to_iload_n (pc := 6) X dX11_isAhead_6 rfl ?_
  refine cvX11_cases (pc := 7) X wm_RX11_164 (by decide) dX11_isAhead_7 ?_
  exact okX11_isAhead_10 X hr
def bkX11_isAhead_0 (P : Nat → tc_B) (q : tc_Q) : tc_B := tb_aload 0 <| tb_iload 1 <| tb_callV 1 5 9 RX11_misses <| bkX11_isAhead_5 P q
theorem okX11_isAhead_0 {Z : tc_Z} {q : tc_Q} (X : tc_Cx ({ frames := 3, cells := 0, slots := 0, locals := 72 } : Room) cX11_isAhead 7 RX11 Z) (hr : tc_Rt 1 cX11_isAhead 7 Z q) : tc_Ok 7 Z 0 (bkX11_isAhead_0 (tc_At 7 Z) q) := by
  unfold bkX11_isAhead_0
  refine to_aload_n (pc := 0) X dX11_isAhead_0 rfl ?_
  refine to_iload_n (pc := 1) X dX11_isAhead_1 rfl ?_
  refine cvX11_misses (pc := 2) X wm_RX11_169 (by decide) dX11_isAhead_2 ?_
  exact okX11_isAhead_5 X hr
def RX11_isAhead (vs : List tc_V) (S : tc_S) (q : tc_Q) : Prop := ∀ P : Nat → tc_B, bkX11_isAhead_0 P q (tc_num 0 vs) [] S
theorem metX11_isAhead : tc_Met yX11_isAhead (Cond.code yX11_isAhead cX11_isAhead 7 (some .boolean)) ({ frames := 3, cells := 0, slots := 0, locals := 72 } : Room) 1 7 RX11_isAhead := tc_met (rk := 1) (by decide) ⟨rfl, rfl⟩ (fun Z q X hr vs S h => okX11_isAhead_0 X hr _ _ _ (h (tc_At 7 Z)))
theorem cvX11_isAhead {R : Room} {cc : ByteArray} {nL pc ix : Nat} {own : String} {Z : tc_Z} {k : tc_B} (X : tc_Cx R cc nL own Z) (h1 : Cond.methodLink own ix yX11_isAhead ∈ tc_tb) (hR : 3 + 1 ≤ R.frames ∧ 8 + (7 + 11) + 72 ≤ R.locals) (hd : decode cc pc = .ok (.invokevirtual ix, 3)) (h : tc_Ok nL Z (pc + 3) k) : tc_Ok nL Z pc (tb_callV 2 7 9 RX11_isAhead k) := to_callV X metX11_isAhead rfl ⟨rfl, rfl⟩ hR h1 wi_X11_isAhead wl_X11_isAhead wn_RX11 wc_X11_isAhead ⟨by decide +kernel, by decide +kernel, by decide +kernel, by decide +kernel⟩ hd h
def bkX11_rank_66 (P : Nat → tc_B) (q : tc_Q) : tc_B := tb_iinc 2 1 <| tb_cut (P 2) [0, 1, 2]
theorem okX11_rank_66 {Z : tc_Z} {q : tc_Q} (X : tc_Cx ({ frames := 4, cells := 0, slots := 0, locals := 98 } : Room) cX11_rank 5 RX11 Z) (hr : tc_Rt 0 cX11_rank 5 Z q) : tc_Ok 5 Z 66 (bkX11_rank_66 (tc_At 5 Z) q) := by
  unfold bkX11_rank_66
  refine to_iinc (pc := 66) X dX11_rank_66 (by decide) (by decide) ?_
  refine to_goto (pc := 69) (tgt := 2) X dX11_rank_69 (by decide) ?_
  exact to_cut [0, 1, 2] (fun _ _ _ h => h)
def bkX11_rank_56 (P : Nat → tc_B) (q : tc_Q) : tc_B := tb_if_le (tb_cut (P 66) [0, 1, 2]) <| tb_iload 3 <| tb_iload 1 <| tb_icmp_ne (tb_cut (P 66) [0, 1, 2]) <| tb_iload 2 <| tb_iret q
theorem okX11_rank_56 {Z : tc_Z} {q : tc_Q} (X : tc_Cx ({ frames := 4, cells := 0, slots := 0, locals := 98 } : Room) cX11_rank 5 RX11 Z) (hr : tc_Rt 0 cX11_rank 5 Z q) : tc_Ok 5 Z 56 (bkX11_rank_56 (tc_At 5 Z) q) := by
  unfold bkX11_rank_56
  refine to_if_le (pc := 56) (tgt := 66) X dX11_rank_56 (by decide) ?_ ?_
  · exact to_cut [0, 1, 2] (fun _ _ _ h => h)
  refine to_iload_n (pc := 59) X dX11_rank_59 rfl ?_
  refine to_iload_n (pc := 60) X dX11_rank_60 rfl ?_
  refine to_icmp_ne (pc := 61) (tgt := 66) X dX11_rank_61 (by decide) ?_ ?_
  · exact to_cut [0, 1, 2] (fun _ _ _ h => h)
  refine to_iload_n (pc := 64) X dX11_rank_64 rfl ?_
  exact to_iret (pc := 65) hr dX11_rank_65
def bkX11_rank_43 (P : Nat → tc_B) (q : tc_Q) : tc_B := tb_iadd <| tb_istore 3 <| tb_iinc 4 1 <| tb_cut (P 12) [0, 1, 2, 3, 4]
theorem okX11_rank_43 {Z : tc_Z} {q : tc_Q} (X : tc_Cx ({ frames := 4, cells := 0, slots := 0, locals := 98 } : Room) cX11_rank 5 RX11 Z) (hr : tc_Rt 0 cX11_rank 5 Z q) : tc_Ok 5 Z 43 (bkX11_rank_43 (tc_At 5 Z) q) := by
  unfold bkX11_rank_43
  refine to_iadd (pc := 43) X dX11_rank_43 ?_
  refine to_istore_n (pc := 44) X dX11_rank_44 rfl (by decide) ?_
  refine to_iinc (pc := 45) X dX11_rank_45 (by decide) (by decide) ?_
  refine to_goto (pc := 48) (tgt := 12) X dX11_rank_48 (by decide) ?_
  exact to_cut [0, 1, 2, 3, 4] (fun _ _ _ h => h)
def bkX11_rank_42 (P : Nat → tc_B) (q : tc_Q) : tc_B := tb_i 0 <| tb_cut (P 43) [0, 1, 2, 4]
theorem okX11_rank_42 {Z : tc_Z} {q : tc_Q} (X : tc_Cx ({ frames := 4, cells := 0, slots := 0, locals := 98 } : Room) cX11_rank 5 RX11 Z) (hr : tc_Rt 0 cX11_rank 5 Z q) : tc_Ok 5 Z 42 (bkX11_rank_42 (tc_At 5 Z) q) := by
  unfold bkX11_rank_42
  refine to_iconst (pc := 42) X dX11_rank_42 (by decide) ?_
  exact to_cut [0, 1, 2, 4] (fun _ _ _ h => h)
def bkX11_rank_35 (P : Nat → tc_B) (q : tc_Q) : tc_B := tb_if_eq (tb_cut (P 42) [0, 1, 2, 4]) <| tb_i 1 <| tb_cut (P 43) [0, 1, 2, 4]
theorem okX11_rank_35 {Z : tc_Z} {q : tc_Q} (X : tc_Cx ({ frames := 4, cells := 0, slots := 0, locals := 98 } : Room) cX11_rank 5 RX11 Z) (hr : tc_Rt 0 cX11_rank 5 Z q) : tc_Ok 5 Z 35 (bkX11_rank_35 (tc_At 5 Z) q) := by
  unfold bkX11_rank_35
  refine to_if_eq (pc := 35) (tgt := 42) X dX11_rank_35 (by decide) ?_ ?_
  · exact to_cut [0, 1, 2, 4] (fun _ _ _ h => h)
  refine to_iconst (pc := 38) X dX11_rank_38 (by decide) ?_
  refine to_goto (pc := 39) (tgt := 43) X dX11_rank_39 (by decide) ?_
  exact to_cut [0, 1, 2, 4] (fun _ _ _ h => h)
def bkX11_rank_25 (P : Nat → tc_B) (q : tc_Q) : tc_B := tb_if_le (tb_cut (P 42) [0, 1, 2, 4]) <| tb_aload 0 <| tb_iload 4 <| tb_iload 2 <| tb_callV 2 7 9 RX11_isAhead <| bkX11_rank_35 P q
theorem okX11_rank_25 {Z : tc_Z} {q : tc_Q} (X : tc_Cx ({ frames := 4, cells := 0, slots := 0, locals := 98 } : Room) cX11_rank 5 RX11 Z) (hr : tc_Rt 0 cX11_rank 5 Z q) : tc_Ok 5 Z 25 (bkX11_rank_25 (tc_At 5 Z) q) := by
  unfold bkX11_rank_25
  refine to_if_le (pc := 25) (tgt := 42) X dX11_rank_25 (by decide) ?_ ?_
  · exact to_cut [0, 1, 2, 4] (fun _ _ _ h => h)
  refine to_aload_n (pc := 28) X dX11_rank_28 rfl ?_
  refine to_iload (pc := 29) X dX11_rank_29 ?_
  refine to_iload_n (pc := 31) X dX11_rank_31 rfl ?_
  refine cvX11_isAhead (pc := 32) X wm_RX11_176 (by decide) dX11_rank_32 ?_
  exact okX11_rank_35 X hr
def bkX11_rank_12 (P : Nat → tc_B) (q : tc_Q) : tc_B := tb_iload 4 <| tb_i 4 <| tb_icmp_gt (tb_aload 0 <| tb_iload 2 <| tb_callV 1 4 9 RX11_cases <| bkX11_rank_56 P q) <| tb_iload 3 <| tb_aload 0 <| tb_iload 4 <| tb_callV 1 4 9 RX11_cases <| bkX11_rank_25 P q
theorem okX11_rank_12 {Z : tc_Z} {q : tc_Q} (X : tc_Cx ({ frames := 4, cells := 0, slots := 0, locals := 98 } : Room) cX11_rank 5 RX11 Z) (hr : tc_Rt 0 cX11_rank 5 Z q) : tc_Ok 5 Z 12 (bkX11_rank_12 (tc_At 5 Z) q) := by
  unfold bkX11_rank_12
  refine to_iload (pc := 12) X dX11_rank_12 ?_
  refine to_iconst (pc := 14) X dX11_rank_14 (by decide) ?_
  refine to_icmp_gt (pc := 15) (tgt := 51) X dX11_rank_15 (by decide) ?_ ?_
  · refine to_aload_n (pc := 51) X dX11_rank_51 rfl ?_
    refine to_iload_n (pc := 52) X dX11_rank_52 rfl ?_
    refine cvX11_cases (pc := 53) X wm_RX11_164 (by decide) dX11_rank_53 ?_
    exact okX11_rank_56 X hr
  refine to_iload_n (pc := 18) X dX11_rank_18 rfl ?_
  refine to_aload_n (pc := 19) X dX11_rank_19 rfl ?_
  refine to_iload (pc := 20) X dX11_rank_20 ?_
  refine cvX11_cases (pc := 22) X wm_RX11_164 (by decide) dX11_rank_22 ?_
  exact okX11_rank_25 X hr
def bkX11_rank_2 (P : Nat → tc_B) (q : tc_Q) : tc_B := tb_iload 2 <| tb_i 4 <| tb_icmp_gt (tb_i (-1) <| tb_iret q) <| tb_i 0 <| tb_istore 3 <| tb_i 0 <| tb_istore 4 <| tb_cut (P 12) [0, 1, 2, 3, 4]
theorem okX11_rank_2 {Z : tc_Z} {q : tc_Q} (X : tc_Cx ({ frames := 4, cells := 0, slots := 0, locals := 98 } : Room) cX11_rank 5 RX11 Z) (hr : tc_Rt 0 cX11_rank 5 Z q) : tc_Ok 5 Z 2 (bkX11_rank_2 (tc_At 5 Z) q) := by
  unfold bkX11_rank_2
  refine to_iload_n (pc := 2) X dX11_rank_2 rfl ?_
  refine to_iconst (pc := 3) X dX11_rank_3 (by decide) ?_
  refine to_icmp_gt (pc := 4) (tgt := 72) X dX11_rank_4 (by decide) ?_ ?_
  · refine to_iconst (pc := 72) X dX11_rank_72 (by decide) ?_
    exact to_iret (pc := 73) hr dX11_rank_73
  refine to_iconst (pc := 7) X dX11_rank_7 (by decide) ?_
  refine to_istore_n (pc := 8) X dX11_rank_8 rfl (by decide) ?_
  refine to_iconst (pc := 9) X dX11_rank_9 (by decide) ?_
  refine to_istore (pc := 10) X dX11_rank_10 (by decide) ?_
  exact to_cut [0, 1, 2, 3, 4] (fun _ _ _ h => h)
def bkX11_rank_0 (P : Nat → tc_B) (q : tc_Q) : tc_B := tb_i 0 <| tb_istore 2 <| tb_cut (P 2) [0, 1, 2]
theorem okX11_rank_0 {Z : tc_Z} {q : tc_Q} (X : tc_Cx ({ frames := 4, cells := 0, slots := 0, locals := 98 } : Room) cX11_rank 5 RX11 Z) (hr : tc_Rt 0 cX11_rank 5 Z q) : tc_Ok 5 Z 0 (bkX11_rank_0 (tc_At 5 Z) q) := by
  unfold bkX11_rank_0
  refine to_iconst (pc := 0) X dX11_rank_0 (by decide) ?_
  refine to_istore_n (pc := 1) X dX11_rank_1 rfl (by decide) ?_
  exact to_cut [0, 1, 2] (fun _ _ _ h => h)
def RX11_rank (vs : List tc_V) (S : tc_S) (q : tc_Q) : Prop := ∀ P : Nat → tc_B, (∀ L K S, bkX11_rank_2 P q L K S → P 2 L K S) → (∀ L K S, bkX11_rank_12 P q L K S → P 12 L K S) → (∀ L K S, bkX11_rank_42 P q L K S → P 42 L K S) → (∀ L K S, bkX11_rank_43 P q L K S → P 43 L K S) → (∀ L K S, bkX11_rank_66 P q L K S → P 66 L K S) → bkX11_rank_0 P q (tc_num 0 vs) [] S
theorem metX11_rank : tc_Met yX11_rank (Cond.code yX11_rank cX11_rank 5 (some .int)) ({ frames := 4, cells := 0, slots := 0, locals := 98 } : Room) 0 5 RX11_rank := tc_met (rk := 0) (by decide) ⟨rfl, rfl⟩ (fun Z q X hr vs S h => okX11_rank_0 X hr _ _ _ (h (tc_At 5 Z) (okX11_rank_2 X hr) (okX11_rank_12 X hr) (okX11_rank_42 X hr) (okX11_rank_43 X hr) (okX11_rank_66 X hr)))
theorem cvX11_rank {R : Room} {cc : ByteArray} {nL pc ix : Nat} {own : String} {Z : tc_Z} {k : tc_B} (X : tc_Cx R cc nL own Z) (h1 : Cond.methodLink own ix yX11_rank ∈ tc_tb) (hR : 4 + 1 ≤ R.frames ∧ 8 + (5 + 11) + 98 ≤ R.locals) (hd : decode cc pc = .ok (.invokevirtual ix, 3)) (h : tc_Ok nL Z (pc + 3) k) : tc_Ok nL Z pc (tb_callV 1 5 9 RX11_rank k) := to_callV X metX11_rank rfl ⟨rfl, rfl⟩ hR h1 wi_X11_rank wl_X11_rank wn_RX11 wc_X11_rank ⟨by decide +kernel, by decide +kernel, by decide +kernel, by decide +kernel⟩ hd h
def bkX11_sumBy_18 (P : Nat → tc_B) (q : tc_Q) : tc_B := tb_imul <| tb_iadd <| tb_iret q
theorem okX11_sumBy_18 {Z : tc_Z} {q : tc_Q} (X : tc_Cx ({ frames := 1, cells := 0, slots := 0, locals := 23 } : Room) cX11_sumBy 3 RX11 Z) (hr : tc_Rt 0 cX11_sumBy 3 Z q) : tc_Ok 3 Z 18 (bkX11_sumBy_18 (tc_At 3 Z) q) := by
  unfold bkX11_sumBy_18
  refine to_imul (pc := 18) X dX11_sumBy_18 ?_
  refine to_iadd (pc := 19) X dX11_sumBy_19 ?_
  exact to_iret (pc := 20) hr dX11_sumBy_20
def bkX11_sumBy_7 (P : Nat → tc_B) (q : tc_Q) : tc_B := tb_imul <| tb_i 100 <| tb_iload 1 <| tb_isub <| tb_aload 0 <| tb_iload 2 <| tb_i 0 <| tb_callV 2 4 9 RX11_missOf <| bkX11_sumBy_18 P q
theorem okX11_sumBy_7 {Z : tc_Z} {q : tc_Q} (X : tc_Cx ({ frames := 1, cells := 0, slots := 0, locals := 23 } : Room) cX11_sumBy 3 RX11 Z) (hr : tc_Rt 0 cX11_sumBy 3 Z q) : tc_Ok 3 Z 7 (bkX11_sumBy_7 (tc_At 3 Z) q) := by
  unfold bkX11_sumBy_7
  refine to_imul (pc := 7) X dX11_sumBy_7 ?_
  refine to_bipush (pc := 8) X dX11_sumBy_8 (by decide) ?_
  refine to_iload_n (pc := 10) X dX11_sumBy_10 rfl ?_
  refine to_isub (pc := 11) X dX11_sumBy_11 ?_
  refine to_aload_n (pc := 12) X dX11_sumBy_12 rfl ?_
  refine to_iload_n (pc := 13) X dX11_sumBy_13 rfl ?_
  refine to_iconst (pc := 14) X dX11_sumBy_14 (by decide) ?_
  refine cvX11_missOf (pc := 15) X wm_RX11_149 (by decide) dX11_sumBy_15 ?_
  exact okX11_sumBy_18 X hr
def bkX11_sumBy_0 (P : Nat → tc_B) (q : tc_Q) : tc_B := tb_iload 1 <| tb_aload 0 <| tb_iload 2 <| tb_i 1 <| tb_callV 2 4 9 RX11_missOf <| bkX11_sumBy_7 P q
theorem okX11_sumBy_0 {Z : tc_Z} {q : tc_Q} (X : tc_Cx ({ frames := 1, cells := 0, slots := 0, locals := 23 } : Room) cX11_sumBy 3 RX11 Z) (hr : tc_Rt 0 cX11_sumBy 3 Z q) : tc_Ok 3 Z 0 (bkX11_sumBy_0 (tc_At 3 Z) q) := by
  unfold bkX11_sumBy_0
  refine to_iload_n (pc := 0) X dX11_sumBy_0 rfl ?_
  refine to_aload_n (pc := 1) X dX11_sumBy_1 rfl ?_
  refine to_iload_n (pc := 2) X dX11_sumBy_2 rfl ?_
  refine to_iconst (pc := 3) X dX11_sumBy_3 (by decide) ?_
  refine cvX11_missOf (pc := 4) X wm_RX11_149 (by decide) dX11_sumBy_4 ?_
  exact okX11_sumBy_7 X hr
def RX11_sumBy (vs : List tc_V) (S : tc_S) (q : tc_Q) : Prop := ∀ P : Nat → tc_B, bkX11_sumBy_0 P q (tc_num 0 vs) [] S
theorem metX11_sumBy : tc_Met yX11_sumBy (Cond.code yX11_sumBy cX11_sumBy 3 (some .int)) ({ frames := 1, cells := 0, slots := 0, locals := 23 } : Room) 0 3 RX11_sumBy := tc_met (rk := 0) (by decide) ⟨rfl, rfl⟩ (fun Z q X hr vs S h => okX11_sumBy_0 X hr _ _ _ (h (tc_At 3 Z)))
theorem cvX11_sumBy {R : Room} {cc : ByteArray} {nL pc ix : Nat} {own : String} {Z : tc_Z} {k : tc_B} (X : tc_Cx R cc nL own Z) (h1 : Cond.methodLink own ix yX11_sumBy ∈ tc_tb) (hR : 1 + 1 ≤ R.frames ∧ 8 + (3 + 11) + 23 ≤ R.locals) (hd : decode cc pc = .ok (.invokevirtual ix, 3)) (h : tc_Ok nL Z (pc + 3) k) : tc_Ok nL Z pc (tb_callV 2 3 9 RX11_sumBy k) := to_callV X metX11_sumBy rfl ⟨rfl, rfl⟩ hR h1 wi_X11_sumBy wl_X11_sumBy wn_RX11 wc_X11_sumBy ⟨by decide +kernel, by decide +kernel, by decide +kernel, by decide +kernel⟩ hd h
def bkX11_lureOf_30 (P : Nat → tc_B) (q : tc_Q) : tc_B := tb_istore 2 <| tb_iinc 3 1 <| tb_cut (P 4) [0, 1, 2, 3]
theorem okX11_lureOf_30 {Z : tc_Z} {q : tc_Q} (X : tc_Cx ({ frames := 2, cells := 0, slots := 0, locals := 45 } : Room) cX11_lureOf 4 RX11 Z) (hr : tc_Rt 0 cX11_lureOf 4 Z q) : tc_Ok 4 Z 30 (bkX11_lureOf_30 (tc_At 4 Z) q) := by
  unfold bkX11_lureOf_30
  refine to_istore_n (pc := 30) X dX11_lureOf_30 rfl (by decide) ?_
  refine to_iinc (pc := 31) X dX11_lureOf_31 (by decide) (by decide) ?_
  refine to_goto (pc := 34) (tgt := 4) X dX11_lureOf_34 (by decide) ?_
  exact to_cut [0, 1, 2, 3] (fun _ _ _ h => h)
def bkX11_lureOf_22 (P : Nat → tc_B) (q : tc_Q) : tc_B := tb_icmp_ge (tb_iload 2 <| tb_cut (P 30) [0, 1, 3]) <| tb_iload 3 <| tb_cut (P 30) [0, 1, 3]
theorem okX11_lureOf_22 {Z : tc_Z} {q : tc_Q} (X : tc_Cx ({ frames := 2, cells := 0, slots := 0, locals := 45 } : Room) cX11_lureOf 4 RX11 Z) (hr : tc_Rt 0 cX11_lureOf 4 Z q) : tc_Ok 4 Z 22 (bkX11_lureOf_22 (tc_At 4 Z) q) := by
  unfold bkX11_lureOf_22
  refine to_icmp_ge (pc := 22) (tgt := 29) X dX11_lureOf_22 (by decide) ?_ ?_
  · refine to_iload_n (pc := 29) X dX11_lureOf_29 rfl ?_
    exact to_cut [0, 1, 3] (fun _ _ _ h => h)
  refine to_iload_n (pc := 25) X dX11_lureOf_25 rfl ?_
  refine to_goto (pc := 26) (tgt := 30) X dX11_lureOf_26 (by decide) ?_
  exact to_cut [0, 1, 3] (fun _ _ _ h => h)
def bkX11_lureOf_16 (P : Nat → tc_B) (q : tc_Q) : tc_B := tb_aload 0 <| tb_iload 1 <| tb_iload 2 <| tb_callV 2 3 9 RX11_sumBy <| bkX11_lureOf_22 P q
theorem okX11_lureOf_16 {Z : tc_Z} {q : tc_Q} (X : tc_Cx ({ frames := 2, cells := 0, slots := 0, locals := 45 } : Room) cX11_lureOf 4 RX11 Z) (hr : tc_Rt 0 cX11_lureOf 4 Z q) : tc_Ok 4 Z 16 (bkX11_lureOf_16 (tc_At 4 Z) q) := by
  unfold bkX11_lureOf_16
  refine to_aload_n (pc := 16) X dX11_lureOf_16 rfl ?_
  refine to_iload_n (pc := 17) X dX11_lureOf_17 rfl ?_
  refine to_iload_n (pc := 18) X dX11_lureOf_18 rfl ?_
  refine cvX11_sumBy (pc := 19) X wm_RX11_179 (by decide) dX11_lureOf_19 ?_
  exact okX11_lureOf_22 X hr
def bkX11_lureOf_4 (P : Nat → tc_B) (q : tc_Q) : tc_B := tb_iload 3 <| tb_i 100 <| tb_icmp_gt (tb_iload 2 <| tb_iret q) <| tb_aload 0 <| tb_iload 1 <| tb_iload 3 <| tb_callV 2 3 9 RX11_sumBy <| bkX11_lureOf_16 P q
theorem okX11_lureOf_4 {Z : tc_Z} {q : tc_Q} (X : tc_Cx ({ frames := 2, cells := 0, slots := 0, locals := 45 } : Room) cX11_lureOf 4 RX11 Z) (hr : tc_Rt 0 cX11_lureOf 4 Z q) : tc_Ok 4 Z 4 (bkX11_lureOf_4 (tc_At 4 Z) q) := by
  unfold bkX11_lureOf_4
  refine to_iload_n (pc := 4) X dX11_lureOf_4 rfl ?_
  refine to_bipush (pc := 5) X dX11_lureOf_5 (by decide) ?_
  refine to_icmp_gt (pc := 7) (tgt := 37) X dX11_lureOf_7 (by decide) ?_ ?_
  · refine to_iload_n (pc := 37) X dX11_lureOf_37 rfl ?_
    exact to_iret (pc := 38) hr dX11_lureOf_38
  refine to_aload_n (pc := 10) X dX11_lureOf_10 rfl ?_
  refine to_iload_n (pc := 11) X dX11_lureOf_11 rfl ?_
  refine to_iload_n (pc := 12) X dX11_lureOf_12 rfl ?_
  refine cvX11_sumBy (pc := 13) X wm_RX11_179 (by decide) dX11_lureOf_13 ?_
  exact okX11_lureOf_16 X hr
def bkX11_lureOf_0 (P : Nat → tc_B) (q : tc_Q) : tc_B := tb_i 0 <| tb_istore 2 <| tb_i 1 <| tb_istore 3 <| tb_cut (P 4) [0, 1, 2, 3]
theorem okX11_lureOf_0 {Z : tc_Z} {q : tc_Q} (X : tc_Cx ({ frames := 2, cells := 0, slots := 0, locals := 45 } : Room) cX11_lureOf 4 RX11 Z) (hr : tc_Rt 0 cX11_lureOf 4 Z q) : tc_Ok 4 Z 0 (bkX11_lureOf_0 (tc_At 4 Z) q) := by
  unfold bkX11_lureOf_0
  refine to_iconst (pc := 0) X dX11_lureOf_0 (by decide) ?_
  refine to_istore_n (pc := 1) X dX11_lureOf_1 rfl (by decide) ?_
  refine to_iconst (pc := 2) X dX11_lureOf_2 (by decide) ?_
  refine to_istore_n (pc := 3) X dX11_lureOf_3 rfl (by decide) ?_
  exact to_cut [0, 1, 2, 3] (fun _ _ _ h => h)
def RX11_lureOf (vs : List tc_V) (S : tc_S) (q : tc_Q) : Prop := ∀ P : Nat → tc_B, (∀ L K S, bkX11_lureOf_4 P q L K S → P 4 L K S) → (∀ L K S, bkX11_lureOf_30 P q L K S → P 30 L K S) → bkX11_lureOf_0 P q (tc_num 0 vs) [] S
theorem metX11_lureOf : tc_Met yX11_lureOf (Cond.code yX11_lureOf cX11_lureOf 4 (some .int)) ({ frames := 2, cells := 0, slots := 0, locals := 45 } : Room) 0 4 RX11_lureOf := tc_met (rk := 0) (by decide) ⟨rfl, rfl⟩ (fun Z q X hr vs S h => okX11_lureOf_0 X hr _ _ _ (h (tc_At 4 Z) (okX11_lureOf_4 X hr) (okX11_lureOf_30 X hr)))
theorem cvX11_lureOf {R : Room} {cc : ByteArray} {nL pc ix : Nat} {own : String} {Z : tc_Z} {k : tc_B} (X : tc_Cx R cc nL own Z) (h1 : Cond.methodLink own ix yX11_lureOf ∈ tc_tb) (hR : 2 + 1 ≤ R.frames ∧ 8 + (4 + 11) + 45 ≤ R.locals) (hd : decode cc pc = .ok (.invokevirtual ix, 3)) (h : tc_Ok nL Z (pc + 3) k) : tc_Ok nL Z pc (tb_callV 1 4 9 RX11_lureOf k) := to_callV X metX11_lureOf rfl ⟨rfl, rfl⟩ hR h1 wi_X11_lureOf wl_X11_lureOf wn_RX11 wc_X11_lureOf ⟨by decide +kernel, by decide +kernel, by decide +kernel, by decide +kernel⟩ hd h
def bkX11_lure_15 (P : Nat → tc_B) (q : tc_Q) : tc_B := tb_iret q
theorem okX11_lure_15 {Z : tc_Z} {q : tc_Q} (X : tc_Cx ({ frames := 3, cells := 0, slots := 0, locals := 68 } : Room) cX11_lure 2 RX11 Z) (hr : tc_Rt 0 cX11_lure 2 Z q) : tc_Ok 2 Z 15 (bkX11_lure_15 (tc_At 2 Z) q) := by
  unfold bkX11_lure_15
  refine to_goto (pc := 15) (tgt := 20) X dX11_lure_15 (by decide) ?_
  exact to_iret (pc := 20) hr dX11_lure_20
def bkX11_lure_7 (P : Nat → tc_B) (q : tc_Q) : tc_B := tb_if_eq (tb_i (-2) <| tb_iret q) <| tb_aload 0 <| tb_iload 1 <| tb_callV 1 4 9 RX11_lureOf <| bkX11_lure_15 P q
theorem okX11_lure_7 {Z : tc_Z} {q : tc_Q} (X : tc_Cx ({ frames := 3, cells := 0, slots := 0, locals := 68 } : Room) cX11_lure 2 RX11 Z) (hr : tc_Rt 0 cX11_lure 2 Z q) : tc_Ok 2 Z 7 (bkX11_lure_7 (tc_At 2 Z) q) := by
  unfold bkX11_lure_7
  refine to_if_eq (pc := 7) (tgt := 18) X dX11_lure_7 (by decide) ?_ ?_
  · refine to_bipush (pc := 18) X dX11_lure_18 (by decide) ?_
    exact to_iret (pc := 20) hr dX11_lure_20
  refine to_aload_n (pc := 10) X dX11_lure_10 rfl ?_
  refine to_iload_n (pc := 11) X dX11_lure_11 rfl ?_
  refine cvX11_lureOf (pc := 12) X wm_RX11_182 (by decide) dX11_lure_12 ?_
  exact okX11_lure_15 X hr
def bkX11_lure_0 (P : Nat → tc_B) (q : tc_Q) : tc_B := tb_iload 1 <| tb_i 0 <| tb_i 100 <| tb_callS 3 3 RX11_within <| bkX11_lure_7 P q
theorem okX11_lure_0 {Z : tc_Z} {q : tc_Q} (X : tc_Cx ({ frames := 3, cells := 0, slots := 0, locals := 68 } : Room) cX11_lure 2 RX11 Z) (hr : tc_Rt 0 cX11_lure 2 Z q) : tc_Ok 2 Z 0 (bkX11_lure_0 (tc_At 2 Z) q) := by
  unfold bkX11_lure_0
  refine to_iload_n (pc := 0) X dX11_lure_0 rfl ?_
  refine to_iconst (pc := 1) X dX11_lure_1 (by decide) ?_
  refine to_bipush (pc := 2) X dX11_lure_2 (by decide) ?_
  refine cvX11_within (pc := 4) X wm_RX11_66 (by decide) dX11_lure_4 ?_
  exact okX11_lure_7 X hr
def RX11_lure (vs : List tc_V) (S : tc_S) (q : tc_Q) : Prop := ∀ P : Nat → tc_B, bkX11_lure_0 P q (tc_num 0 vs) [] S
theorem metX11_lure : tc_Met yX11_lure (Cond.code yX11_lure cX11_lure 2 (some .int)) ({ frames := 3, cells := 0, slots := 0, locals := 68 } : Room) 0 2 RX11_lure := tc_met (rk := 0) (by decide) ⟨rfl, rfl⟩ (fun Z q X hr vs S h => okX11_lure_0 X hr _ _ _ (h (tc_At 2 Z)))
theorem cvX11_lure {R : Room} {cc : ByteArray} {nL pc ix : Nat} {own : String} {Z : tc_Z} {k : tc_B} (X : tc_Cx R cc nL own Z) (h1 : Cond.methodLink own ix yX11_lure ∈ tc_tb) (hR : 3 + 1 ≤ R.frames ∧ 8 + (2 + 11) + 68 ≤ R.locals) (hd : decode cc pc = .ok (.invokevirtual ix, 3)) (h : tc_Ok nL Z (pc + 3) k) : tc_Ok nL Z pc (tb_callV 1 2 9 RX11_lure k) := to_callV X metX11_lure rfl ⟨rfl, rfl⟩ hR h1 wi_X11_lure wl_X11_lure wn_RX11 wc_X11_lure ⟨by decide +kernel, by decide +kernel, by decide +kernel, by decide +kernel⟩ hd h
def bkX11_honest_35 (P : Nat → tc_B) (q : tc_Q) : tc_B := tb_iadd <| tb_istore 1 <| tb_iinc 2 1 <| tb_cut (P 4) [0, 1, 2]
theorem okX11_honest_35 {Z : tc_Z} {q : tc_Q} (X : tc_Cx ({ frames := 3, cells := 0, slots := 0, locals := 68 } : Room) cX11_honest 3 RX11 Z) (hr : tc_Rt 0 cX11_honest 3 Z q) : tc_Ok 3 Z 35 (bkX11_honest_35 (tc_At 3 Z) q) := by
  unfold bkX11_honest_35
  refine to_iadd (pc := 35) X dX11_honest_35 ?_
  refine to_istore_n (pc := 36) X dX11_honest_36 rfl (by decide) ?_
  refine to_iinc (pc := 37) X dX11_honest_37 (by decide) (by decide) ?_
  refine to_goto (pc := 40) (tgt := 4) X dX11_honest_40 (by decide) ?_
  exact to_cut [0, 1, 2] (fun _ _ _ h => h)
def bkX11_honest_27 (P : Nat → tc_B) (q : tc_Q) : tc_B := tb_icmp_ne (tb_i 0 <| tb_cut (P 35) [0, 2]) <| tb_i 1 <| tb_cut (P 35) [0, 2]
theorem okX11_honest_27 {Z : tc_Z} {q : tc_Q} (X : tc_Cx ({ frames := 3, cells := 0, slots := 0, locals := 68 } : Room) cX11_honest 3 RX11 Z) (hr : tc_Rt 0 cX11_honest 3 Z q) : tc_Ok 3 Z 27 (bkX11_honest_27 (tc_At 3 Z) q) := by
  unfold bkX11_honest_27
  refine to_icmp_ne (pc := 27) (tgt := 34) X dX11_honest_27 (by decide) ?_ ?_
  · refine to_iconst (pc := 34) X dX11_honest_34 (by decide) ?_
    exact to_cut [0, 2] (fun _ _ _ h => h)
  refine to_iconst (pc := 30) X dX11_honest_30 (by decide) ?_
  refine to_goto (pc := 31) (tgt := 35) X dX11_honest_31 (by decide) ?_
  exact to_cut [0, 2] (fun _ _ _ h => h)
def bkX11_honest_24 (P : Nat → tc_B) (q : tc_Q) : tc_B := tb_callV 2 3 9 RX11_sumBy <| bkX11_honest_27 P q
theorem okX11_honest_24 {Z : tc_Z} {q : tc_Q} (X : tc_Cx ({ frames := 3, cells := 0, slots := 0, locals := 68 } : Room) cX11_honest 3 RX11 Z) (hr : tc_Rt 0 cX11_honest 3 Z q) : tc_Ok 3 Z 24 (bkX11_honest_24 (tc_At 3 Z) q) := by
  unfold bkX11_honest_24
  refine cvX11_sumBy (pc := 24) X wm_RX11_179 (by decide) dX11_honest_24 ?_
  exact okX11_honest_27 X hr
def bkX11_honest_17 (P : Nat → tc_B) (q : tc_Q) : tc_B := tb_aload 0 <| tb_iload 2 <| tb_aload 0 <| tb_iload 2 <| tb_callV 1 4 9 RX11_lureOf <| bkX11_honest_24 P q
theorem okX11_honest_17 {Z : tc_Z} {q : tc_Q} (X : tc_Cx ({ frames := 3, cells := 0, slots := 0, locals := 68 } : Room) cX11_honest 3 RX11 Z) (hr : tc_Rt 0 cX11_honest 3 Z q) : tc_Ok 3 Z 17 (bkX11_honest_17 (tc_At 3 Z) q) := by
  unfold bkX11_honest_17
  refine to_aload_n (pc := 17) X dX11_honest_17 rfl ?_
  refine to_iload_n (pc := 18) X dX11_honest_18 rfl ?_
  refine to_aload_n (pc := 19) X dX11_honest_19 rfl ?_
  refine to_iload_n (pc := 20) X dX11_honest_20 rfl ?_
  refine cvX11_lureOf (pc := 21) X wm_RX11_182 (by decide) dX11_honest_21 ?_
  exact okX11_honest_24 X hr
def bkX11_honest_4 (P : Nat → tc_B) (q : tc_Q) : tc_B := tb_iload 2 <| tb_i 100 <| tb_icmp_gt (tb_iload 1 <| tb_iret q) <| tb_iload 1 <| tb_aload 0 <| tb_iload 2 <| tb_iload 2 <| tb_callV 2 3 9 RX11_sumBy <| bkX11_honest_17 P q
theorem okX11_honest_4 {Z : tc_Z} {q : tc_Q} (X : tc_Cx ({ frames := 3, cells := 0, slots := 0, locals := 68 } : Room) cX11_honest 3 RX11 Z) (hr : tc_Rt 0 cX11_honest 3 Z q) : tc_Ok 3 Z 4 (bkX11_honest_4 (tc_At 3 Z) q) := by
  unfold bkX11_honest_4
  refine to_iload_n (pc := 4) X dX11_honest_4 rfl ?_
  refine to_bipush (pc := 5) X dX11_honest_5 (by decide) ?_
  refine to_icmp_gt (pc := 7) (tgt := 43) X dX11_honest_7 (by decide) ?_ ?_
  · refine to_iload_n (pc := 43) X dX11_honest_43 rfl ?_
    exact to_iret (pc := 44) hr dX11_honest_44
  refine to_iload_n (pc := 10) X dX11_honest_10 rfl ?_
  refine to_aload_n (pc := 11) X dX11_honest_11 rfl ?_
  refine to_iload_n (pc := 12) X dX11_honest_12 rfl ?_
  refine to_iload_n (pc := 13) X dX11_honest_13 rfl ?_
  refine cvX11_sumBy (pc := 14) X wm_RX11_179 (by decide) dX11_honest_14 ?_
  exact okX11_honest_17 X hr
def bkX11_honest_0 (P : Nat → tc_B) (q : tc_Q) : tc_B := tb_i 0 <| tb_istore 1 <| tb_i 0 <| tb_istore 2 <| tb_cut (P 4) [0, 1, 2]
theorem okX11_honest_0 {Z : tc_Z} {q : tc_Q} (X : tc_Cx ({ frames := 3, cells := 0, slots := 0, locals := 68 } : Room) cX11_honest 3 RX11 Z) (hr : tc_Rt 0 cX11_honest 3 Z q) : tc_Ok 3 Z 0 (bkX11_honest_0 (tc_At 3 Z) q) := by
  unfold bkX11_honest_0
  refine to_iconst (pc := 0) X dX11_honest_0 (by decide) ?_
  refine to_istore_n (pc := 1) X dX11_honest_1 rfl (by decide) ?_
  refine to_iconst (pc := 2) X dX11_honest_2 (by decide) ?_
  refine to_istore_n (pc := 3) X dX11_honest_3 rfl (by decide) ?_
  exact to_cut [0, 1, 2] (fun _ _ _ h => h)
def RX11_honest (vs : List tc_V) (S : tc_S) (q : tc_Q) : Prop := ∀ P : Nat → tc_B, (∀ L K S, bkX11_honest_4 P q L K S → P 4 L K S) → (∀ L K S, bkX11_honest_35 P q L K S → P 35 L K S) → bkX11_honest_0 P q (tc_num 0 vs) [] S
theorem metX11_honest : tc_Met yX11_honest (Cond.code yX11_honest cX11_honest 3 (some .int)) ({ frames := 3, cells := 0, slots := 0, locals := 68 } : Room) 0 3 RX11_honest := tc_met (rk := 0) (by decide) ⟨rfl, rfl⟩ (fun Z q X hr vs S h => okX11_honest_0 X hr _ _ _ (h (tc_At 3 Z) (okX11_honest_4 X hr) (okX11_honest_35 X hr)))
theorem cvX11_honest {R : Room} {cc : ByteArray} {nL pc ix : Nat} {own : String} {Z : tc_Z} {k : tc_B} (X : tc_Cx R cc nL own Z) (h1 : Cond.methodLink own ix yX11_honest ∈ tc_tb) (hR : 3 + 1 ≤ R.frames ∧ 8 + (3 + 11) + 68 ≤ R.locals) (hd : decode cc pc = .ok (.invokevirtual ix, 3)) (h : tc_Ok nL Z (pc + 3) k) : tc_Ok nL Z pc (tb_callV 0 3 9 RX11_honest k) := to_callV X metX11_honest rfl ⟨rfl, rfl⟩ hR h1 wi_X11_honest wl_X11_honest wn_RX11 wc_X11_honest ⟨by decide +kernel, by decide +kernel, by decide +kernel, by decide +kernel⟩ hd h
def bkX11_cuts_25 (P : Nat → tc_B) (q : tc_Q) : tc_B := tb_iadd <| tb_istore 1 <| tb_iinc 2 1 <| tb_cut (P 4) [0, 1, 2]
theorem okX11_cuts_25 {Z : tc_Z} {q : tc_Q} (X : tc_Cx ({ frames := 0, cells := 0, slots := 0, locals := 0 } : Room) cX11_cuts 3 RX11 Z) (hr : tc_Rt 0 cX11_cuts 3 Z q) : tc_Ok 3 Z 25 (bkX11_cuts_25 (tc_At 3 Z) q) := by
  unfold bkX11_cuts_25
  refine to_iadd (pc := 25) X dX11_cuts_25 ?_
  refine to_istore_n (pc := 26) X dX11_cuts_26 rfl (by decide) ?_
  refine to_iinc (pc := 27) X dX11_cuts_27 (by decide) (by decide) ?_
  refine to_goto (pc := 30) (tgt := 4) X dX11_cuts_30 (by decide) ?_
  exact to_cut [0, 1, 2] (fun _ _ _ h => h)
def bkX11_cuts_4 (P : Nat → tc_B) (q : tc_Q) : tc_B := tb_iload 2 <| tb_i 100 <| tb_icmp_gt (tb_iload 1 <| tb_iret q) <| tb_iload 1 <| tb_aload 0 <| tb_getf 9 12 <| tb_iload 2 <| tb_zald <| tb_if_eq (tb_i 0 <| tb_cut (P 25) [0, 2]) <| tb_i 1 <| tb_cut (P 25) [0, 2]
theorem okX11_cuts_4 {Z : tc_Z} {q : tc_Q} (X : tc_Cx ({ frames := 0, cells := 0, slots := 0, locals := 0 } : Room) cX11_cuts 3 RX11 Z) (hr : tc_Rt 0 cX11_cuts 3 Z q) : tc_Ok 3 Z 4 (bkX11_cuts_4 (tc_At 3 Z) q) := by
  unfold bkX11_cuts_4
  refine to_iload_n (pc := 4) X dX11_cuts_4 rfl ?_
  refine to_bipush (pc := 5) X dX11_cuts_5 (by decide) ?_
  refine to_icmp_gt (pc := 7) (tgt := 33) X dX11_cuts_7 (by decide) ?_ ?_
  · refine to_iload_n (pc := 33) X dX11_cuts_33 rfl ?_
    exact to_iret (pc := 34) hr dX11_cuts_34
  refine to_iload_n (pc := 10) X dX11_cuts_10 rfl ?_
  refine to_aload_n (pc := 11) X dX11_cuts_11 rfl ?_
  refine gfX11_12 (pc := 12) X wf_RX11_32 dX11_cuts_12 ?_
  refine to_iload_n (pc := 15) X dX11_cuts_15 rfl ?_
  refine to_zald (pc := 16) X dX11_cuts_16 ?_
  refine to_if_eq (pc := 17) (tgt := 24) X dX11_cuts_17 (by decide) ?_ ?_
  · refine to_iconst (pc := 24) X dX11_cuts_24 (by decide) ?_
    exact to_cut [0, 2] (fun _ _ _ h => h)
  refine to_iconst (pc := 20) X dX11_cuts_20 (by decide) ?_
  refine to_goto (pc := 21) (tgt := 25) X dX11_cuts_21 (by decide) ?_
  exact to_cut [0, 2] (fun _ _ _ h => h)
def bkX11_cuts_0 (P : Nat → tc_B) (q : tc_Q) : tc_B := tb_i 0 <| tb_istore 1 <| tb_i 1 <| tb_istore 2 <| tb_cut (P 4) [0, 1, 2]
theorem okX11_cuts_0 {Z : tc_Z} {q : tc_Q} (X : tc_Cx ({ frames := 0, cells := 0, slots := 0, locals := 0 } : Room) cX11_cuts 3 RX11 Z) (hr : tc_Rt 0 cX11_cuts 3 Z q) : tc_Ok 3 Z 0 (bkX11_cuts_0 (tc_At 3 Z) q) := by
  unfold bkX11_cuts_0
  refine to_iconst (pc := 0) X dX11_cuts_0 (by decide) ?_
  refine to_istore_n (pc := 1) X dX11_cuts_1 rfl (by decide) ?_
  refine to_iconst (pc := 2) X dX11_cuts_2 (by decide) ?_
  refine to_istore_n (pc := 3) X dX11_cuts_3 rfl (by decide) ?_
  exact to_cut [0, 1, 2] (fun _ _ _ h => h)
def RX11_cuts (vs : List tc_V) (S : tc_S) (q : tc_Q) : Prop := ∀ P : Nat → tc_B, (∀ L K S, bkX11_cuts_4 P q L K S → P 4 L K S) → (∀ L K S, bkX11_cuts_25 P q L K S → P 25 L K S) → bkX11_cuts_0 P q (tc_num 0 vs) [] S
theorem metX11_cuts : tc_Met yX11_cuts (Cond.code yX11_cuts cX11_cuts 3 (some .int)) ({ frames := 0, cells := 0, slots := 0, locals := 0 } : Room) 0 3 RX11_cuts := tc_met (rk := 0) (by decide) ⟨rfl, rfl⟩ (fun Z q X hr vs S h => okX11_cuts_0 X hr _ _ _ (h (tc_At 3 Z) (okX11_cuts_4 X hr) (okX11_cuts_25 X hr)))
theorem cvX11_cuts {R : Room} {cc : ByteArray} {nL pc ix : Nat} {own : String} {Z : tc_Z} {k : tc_B} (X : tc_Cx R cc nL own Z) (h1 : Cond.methodLink own ix yX11_cuts ∈ tc_tb) (hR : 0 + 1 ≤ R.frames ∧ 8 + (3 + 11) + 0 ≤ R.locals) (hd : decode cc pc = .ok (.invokevirtual ix, 3)) (h : tc_Ok nL Z (pc + 3) k) : tc_Ok nL Z pc (tb_callV 0 3 9 RX11_cuts k) := to_callV X metX11_cuts rfl ⟨rfl, rfl⟩ hR h1 wi_X11_cuts wl_X11_cuts wn_RX11 wc_X11_cuts ⟨by decide +kernel, by decide +kernel, by decide +kernel, by decide +kernel⟩ hd h
def bkX11_cut_58 (P : Nat → tc_B) (q : tc_Q) : tc_B := tb_iret q
theorem okX11_cut_58 {Z : tc_Z} {q : tc_Q} (X : tc_Cx ({ frames := 1, cells := 0, slots := 0, locals := 22 } : Room) cX11_cut 2 RX11 Z) (hr : tc_Rt 0 cX11_cut 2 Z q) : tc_Ok 2 Z 58 (bkX11_cut_58 (tc_At 2 Z) q) := by
  unfold bkX11_cut_58
  exact to_iret (pc := 58) hr dX11_cut_58
def bkX11_cut_53 (P : Nat → tc_B) (q : tc_Q) : tc_B := tb_zast <| tb_aload 0 <| tb_callV 0 3 9 RX11_cuts <| bkX11_cut_58 P q
theorem okX11_cut_53 {Z : tc_Z} {q : tc_Q} (X : tc_Cx ({ frames := 1, cells := 0, slots := 0, locals := 22 } : Room) cX11_cut 2 RX11 Z) (hr : tc_Rt 0 cX11_cut 2 Z q) : tc_Ok 2 Z 53 (bkX11_cut_53 (tc_At 2 Z) q) := by
  unfold bkX11_cut_53
  refine to_zast (pc := 53) X dX11_cut_53 ?_
  refine to_aload_n (pc := 54) X dX11_cut_54 rfl ?_
  refine cvX11_cuts (pc := 55) X wm_RX11_185 (by decide) dX11_cut_55 ?_
  exact okX11_cut_58 X hr
def bkX11_cut_34 (P : Nat → tc_B) (q : tc_Q) : tc_B := tb_aload 0 <| tb_getf 9 12 <| tb_iload 1 <| tb_aload 0 <| tb_getf 9 12 <| tb_iload 1 <| tb_zald <| tb_if_ne (tb_i 0 <| tb_cut (P 53) [0]) <| tb_i 1 <| tb_cut (P 53) [0]
theorem okX11_cut_34 {Z : tc_Z} {q : tc_Q} (X : tc_Cx ({ frames := 1, cells := 0, slots := 0, locals := 22 } : Room) cX11_cut 2 RX11 Z) (hr : tc_Rt 0 cX11_cut 2 Z q) : tc_Ok 2 Z 34 (bkX11_cut_34 (tc_At 2 Z) q) := by
  unfold bkX11_cut_34
  refine to_aload_n (pc := 34) X dX11_cut_34 rfl ?_
  refine gfX11_12 (pc := 35) X wf_RX11_32 dX11_cut_35 ?_
  refine to_iload_n (pc := 38) X dX11_cut_38 rfl ?_
  refine to_aload_n (pc := 39) X dX11_cut_39 rfl ?_
  refine gfX11_12 (pc := 40) X wf_RX11_32 dX11_cut_40 ?_
  refine to_iload_n (pc := 43) X dX11_cut_43 rfl ?_
  refine to_zald (pc := 44) X dX11_cut_44 ?_
  refine to_if_ne (pc := 45) (tgt := 52) X dX11_cut_45 (by decide) ?_ ?_
  · refine to_iconst (pc := 52) X dX11_cut_52 (by decide) ?_
    exact to_cut [0] (fun _ _ _ h => h)
  refine to_iconst (pc := 48) X dX11_cut_48 (by decide) ?_
  refine to_goto (pc := 49) (tgt := 53) X dX11_cut_49 (by decide) ?_
  exact to_cut [0] (fun _ _ _ h => h)
def bkX11_cut_26 (P : Nat → tc_B) (q : tc_Q) : tc_B := tb_i 9 <| tb_icmp_ne (tb_cut (P 34) [0, 1]) <| tb_i (-4) <| tb_iret q
theorem okX11_cut_26 {Z : tc_Z} {q : tc_Q} (X : tc_Cx ({ frames := 1, cells := 0, slots := 0, locals := 22 } : Room) cX11_cut 2 RX11 Z) (hr : tc_Rt 0 cX11_cut 2 Z q) : tc_Ok 2 Z 26 (bkX11_cut_26 (tc_At 2 Z) q) := by
  unfold bkX11_cut_26
  refine to_bipush (pc := 26) X dX11_cut_26 (by decide) ?_
  refine to_icmp_ne (pc := 28) (tgt := 34) X dX11_cut_28 (by decide) ?_ ?_
  · exact to_cut [0, 1] (fun _ _ _ h => h)
  refine to_bipush (pc := 31) X dX11_cut_31 (by decide) ?_
  exact to_iret (pc := 33) hr dX11_cut_33
def bkX11_cut_7 (P : Nat → tc_B) (q : tc_Q) : tc_B := tb_if_ne (tb_aload 0 <| tb_getf 9 12 <| tb_iload 1 <| tb_zald <| tb_if_ne (tb_cut (P 34) [0, 1]) <| tb_aload 0 <| tb_callV 0 3 9 RX11_cuts <| bkX11_cut_26 P q) <| tb_i (-2) <| tb_iret q
theorem okX11_cut_7 {Z : tc_Z} {q : tc_Q} (X : tc_Cx ({ frames := 1, cells := 0, slots := 0, locals := 22 } : Room) cX11_cut 2 RX11 Z) (hr : tc_Rt 0 cX11_cut 2 Z q) : tc_Ok 2 Z 7 (bkX11_cut_7 (tc_At 2 Z) q) := by
  unfold bkX11_cut_7
  refine to_if_ne (pc := 7) (tgt := 13) X dX11_cut_7 (by decide) ?_ ?_
  · refine to_aload_n (pc := 13) X dX11_cut_13 rfl ?_
    refine gfX11_12 (pc := 14) X wf_RX11_32 dX11_cut_14 ?_
    refine to_iload_n (pc := 17) X dX11_cut_17 rfl ?_
    refine to_zald (pc := 18) X dX11_cut_18 ?_
    refine to_if_ne (pc := 19) (tgt := 34) X dX11_cut_19 (by decide) ?_ ?_
    · exact to_cut [0, 1] (fun _ _ _ h => h)
    refine to_aload_n (pc := 22) X dX11_cut_22 rfl ?_
    refine cvX11_cuts (pc := 23) X wm_RX11_185 (by decide) dX11_cut_23 ?_
    exact okX11_cut_26 X hr
  refine to_bipush (pc := 10) X dX11_cut_10 (by decide) ?_
  exact to_iret (pc := 12) hr dX11_cut_12
def bkX11_cut_0 (P : Nat → tc_B) (q : tc_Q) : tc_B := tb_iload 1 <| tb_i 1 <| tb_i 100 <| tb_callS 3 3 RX11_within <| bkX11_cut_7 P q
theorem okX11_cut_0 {Z : tc_Z} {q : tc_Q} (X : tc_Cx ({ frames := 1, cells := 0, slots := 0, locals := 22 } : Room) cX11_cut 2 RX11 Z) (hr : tc_Rt 0 cX11_cut 2 Z q) : tc_Ok 2 Z 0 (bkX11_cut_0 (tc_At 2 Z) q) := by
  unfold bkX11_cut_0
  refine to_iload_n (pc := 0) X dX11_cut_0 rfl ?_
  refine to_iconst (pc := 1) X dX11_cut_1 (by decide) ?_
  refine to_bipush (pc := 2) X dX11_cut_2 (by decide) ?_
  refine cvX11_within (pc := 4) X wm_RX11_66 (by decide) dX11_cut_4 ?_
  exact okX11_cut_7 X hr
def RX11_cut (vs : List tc_V) (S : tc_S) (q : tc_Q) : Prop := ∀ P : Nat → tc_B, (∀ L K S, bkX11_cut_34 P q L K S → P 34 L K S) → (∀ L K S, bkX11_cut_53 P q L K S → P 53 L K S) → bkX11_cut_0 P q (tc_num 0 vs) [] S
theorem metX11_cut : tc_Met yX11_cut (Cond.code yX11_cut cX11_cut 2 (some .int)) ({ frames := 1, cells := 0, slots := 0, locals := 22 } : Room) 0 2 RX11_cut := tc_met (rk := 0) (by decide) ⟨rfl, rfl⟩ (fun Z q X hr vs S h => okX11_cut_0 X hr _ _ _ (h (tc_At 2 Z) (okX11_cut_34 X hr) (okX11_cut_53 X hr)))
theorem cvX11_cut {R : Room} {cc : ByteArray} {nL pc ix : Nat} {own : String} {Z : tc_Z} {k : tc_B} (X : tc_Cx R cc nL own Z) (h1 : Cond.methodLink own ix yX11_cut ∈ tc_tb) (hR : 1 + 1 ≤ R.frames ∧ 8 + (2 + 11) + 22 ≤ R.locals) (hd : decode cc pc = .ok (.invokevirtual ix, 3)) (h : tc_Ok nL Z (pc + 3) k) : tc_Ok nL Z pc (tb_callV 1 2 9 RX11_cut k) := to_callV X metX11_cut rfl ⟨rfl, rfl⟩ hR h1 wi_X11_cut wl_X11_cut wn_RX11 wc_X11_cut ⟨by decide +kernel, by decide +kernel, by decide +kernel, by decide +kernel⟩ hd h
def bkX11_binOf_24 (P : Nat → tc_B) (q : tc_Q) : tc_B := tb_iadd <| tb_istore 2 <| tb_iinc 3 1 <| tb_cut (P 4) [0, 1, 2, 3]
theorem okX11_binOf_24 {Z : tc_Z} {q : tc_Q} (X : tc_Cx ({ frames := 0, cells := 0, slots := 0, locals := 0 } : Room) cX11_binOf 4 RX11 Z) (hr : tc_Rt 0 cX11_binOf 4 Z q) : tc_Ok 4 Z 24 (bkX11_binOf_24 (tc_At 4 Z) q) := by
  unfold bkX11_binOf_24
  refine to_iadd (pc := 24) X dX11_binOf_24 ?_
  refine to_istore_n (pc := 25) X dX11_binOf_25 rfl (by decide) ?_
  refine to_iinc (pc := 26) X dX11_binOf_26 (by decide) (by decide) ?_
  refine to_goto (pc := 29) (tgt := 4) X dX11_binOf_29 (by decide) ?_
  exact to_cut [0, 1, 2, 3] (fun _ _ _ h => h)
def bkX11_binOf_4 (P : Nat → tc_B) (q : tc_Q) : tc_B := tb_iload 3 <| tb_iload 1 <| tb_icmp_gt (tb_iload 2 <| tb_iret q) <| tb_iload 2 <| tb_aload 0 <| tb_getf 9 12 <| tb_iload 3 <| tb_zald <| tb_if_eq (tb_i 0 <| tb_cut (P 24) [0, 1, 3]) <| tb_i 1 <| tb_cut (P 24) [0, 1, 3]
theorem okX11_binOf_4 {Z : tc_Z} {q : tc_Q} (X : tc_Cx ({ frames := 0, cells := 0, slots := 0, locals := 0 } : Room) cX11_binOf 4 RX11 Z) (hr : tc_Rt 0 cX11_binOf 4 Z q) : tc_Ok 4 Z 4 (bkX11_binOf_4 (tc_At 4 Z) q) := by
  unfold bkX11_binOf_4
  refine to_iload_n (pc := 4) X dX11_binOf_4 rfl ?_
  refine to_iload_n (pc := 5) X dX11_binOf_5 rfl ?_
  refine to_icmp_gt (pc := 6) (tgt := 32) X dX11_binOf_6 (by decide) ?_ ?_
  · refine to_iload_n (pc := 32) X dX11_binOf_32 rfl ?_
    exact to_iret (pc := 33) hr dX11_binOf_33
  refine to_iload_n (pc := 9) X dX11_binOf_9 rfl ?_
  refine to_aload_n (pc := 10) X dX11_binOf_10 rfl ?_
  refine gfX11_12 (pc := 11) X wf_RX11_32 dX11_binOf_11 ?_
  refine to_iload_n (pc := 14) X dX11_binOf_14 rfl ?_
  refine to_zald (pc := 15) X dX11_binOf_15 ?_
  refine to_if_eq (pc := 16) (tgt := 23) X dX11_binOf_16 (by decide) ?_ ?_
  · refine to_iconst (pc := 23) X dX11_binOf_23 (by decide) ?_
    exact to_cut [0, 1, 3] (fun _ _ _ h => h)
  refine to_iconst (pc := 19) X dX11_binOf_19 (by decide) ?_
  refine to_goto (pc := 20) (tgt := 24) X dX11_binOf_20 (by decide) ?_
  exact to_cut [0, 1, 3] (fun _ _ _ h => h)
def bkX11_binOf_0 (P : Nat → tc_B) (q : tc_Q) : tc_B := tb_i 0 <| tb_istore 2 <| tb_i 1 <| tb_istore 3 <| tb_cut (P 4) [0, 1, 2, 3]
theorem okX11_binOf_0 {Z : tc_Z} {q : tc_Q} (X : tc_Cx ({ frames := 0, cells := 0, slots := 0, locals := 0 } : Room) cX11_binOf 4 RX11 Z) (hr : tc_Rt 0 cX11_binOf 4 Z q) : tc_Ok 4 Z 0 (bkX11_binOf_0 (tc_At 4 Z) q) := by
  unfold bkX11_binOf_0
  refine to_iconst (pc := 0) X dX11_binOf_0 (by decide) ?_
  refine to_istore_n (pc := 1) X dX11_binOf_1 rfl (by decide) ?_
  refine to_iconst (pc := 2) X dX11_binOf_2 (by decide) ?_
  refine to_istore_n (pc := 3) X dX11_binOf_3 rfl (by decide) ?_
  exact to_cut [0, 1, 2, 3] (fun _ _ _ h => h)
def RX11_binOf (vs : List tc_V) (S : tc_S) (q : tc_Q) : Prop := ∀ P : Nat → tc_B, (∀ L K S, bkX11_binOf_4 P q L K S → P 4 L K S) → (∀ L K S, bkX11_binOf_24 P q L K S → P 24 L K S) → bkX11_binOf_0 P q (tc_num 0 vs) [] S
theorem metX11_binOf : tc_Met yX11_binOf (Cond.code yX11_binOf cX11_binOf 4 (some .int)) ({ frames := 0, cells := 0, slots := 0, locals := 0 } : Room) 0 4 RX11_binOf := tc_met (rk := 0) (by decide) ⟨rfl, rfl⟩ (fun Z q X hr vs S h => okX11_binOf_0 X hr _ _ _ (h (tc_At 4 Z) (okX11_binOf_4 X hr) (okX11_binOf_24 X hr)))
theorem cvX11_binOf {R : Room} {cc : ByteArray} {nL pc ix : Nat} {own : String} {Z : tc_Z} {k : tc_B} (X : tc_Cx R cc nL own Z) (h1 : Cond.methodLink own ix yX11_binOf ∈ tc_tb) (hR : 0 + 1 ≤ R.frames ∧ 8 + (4 + 11) + 0 ≤ R.locals) (hd : decode cc pc = .ok (.invokevirtual ix, 3)) (h : tc_Ok nL Z (pc + 3) k) : tc_Ok nL Z pc (tb_callV 1 4 9 RX11_binOf k) := to_callV X metX11_binOf rfl ⟨rfl, rfl⟩ hR h1 wi_X11_binOf wl_X11_binOf wn_RX11 wc_X11_binOf ⟨by decide +kernel, by decide +kernel, by decide +kernel, by decide +kernel⟩ hd h
def bkX11_counts_189 (P : Nat → tc_B) (q : tc_Q) : tc_B := tb_iinc 2 1 <| tb_cut (P 61) [0, 1, 2]
theorem okX11_counts_189 {Z : tc_Z} {q : tc_Q} (X : tc_Cx ({ frames := 2, cells := 0, slots := 0, locals := 48 } : Room) cX11_counts 6 RX11 Z) (hr : tc_Rt 3 cX11_counts 6 Z q) : tc_Ok 6 Z 189 (bkX11_counts_189 (tc_At 6 Z) q) := by
  unfold bkX11_counts_189
  refine to_iinc (pc := 189) X dX11_counts_189 (by decide) (by decide) ?_
  refine to_goto (pc := 192) (tgt := 61) X dX11_counts_192 (by decide) ?_
  exact to_cut [0, 1, 2] (fun _ _ _ h => h)
def bkX11_counts_105 (P : Nat → tc_B) (q : tc_Q) : tc_B := tb_istore 5 <| tb_aload 0 <| tb_getf 9 13 <| tb_iload 5 <| tb_dup2 <| tb_iald <| tb_i 1 <| tb_iadd <| tb_iast <| tb_aload 0 <| tb_getf 9 14 <| tb_iload 5 <| tb_dup2 <| tb_iald <| tb_iload 4 <| tb_iadd <| tb_iast <| tb_aload 0 <| tb_getf 9 15 <| tb_iload 5 <| tb_dup2 <| tb_iald <| tb_iload 3 <| tb_iadd <| tb_iast <| tb_aload 0 <| tb_getf 9 16 <| tb_iload 5 <| tb_dup2 <| tb_iald <| tb_iload 3 <| tb_iload 3 <| tb_imul <| tb_iadd <| tb_iast <| tb_aload 0 <| tb_getf 9 17 <| tb_iload 5 <| tb_dup2 <| tb_iald <| tb_iload 3 <| tb_iload 4 <| tb_imul <| tb_iadd <| tb_iast <| tb_aload 0 <| tb_dup <| tb_getf 9 18 <| tb_i 1 <| tb_iadd <| tb_putI 9 18 <| tb_aload 0 <| tb_dup <| tb_getf 9 19 <| tb_iload 4 <| tb_iadd <| tb_putI 9 19 <| tb_cut (P 189) [0, 1, 2]
theorem okX11_counts_105 {Z : tc_Z} {q : tc_Q} (X : tc_Cx ({ frames := 2, cells := 0, slots := 0, locals := 48 } : Room) cX11_counts 6 RX11 Z) (hr : tc_Rt 3 cX11_counts 6 Z q) : tc_Ok 6 Z 105 (bkX11_counts_105 (tc_At 6 Z) q) := by
  unfold bkX11_counts_105
  refine to_istore (pc := 105) X dX11_counts_105 (by decide) ?_
  refine to_aload_n (pc := 107) X dX11_counts_107 rfl ?_
  refine gfX11_13 (pc := 108) X wf_RX11_36 dX11_counts_108 ?_
  refine to_iload (pc := 111) X dX11_counts_111 ?_
  refine to_dup2 (pc := 113) X dX11_counts_113 ?_
  refine to_iald (pc := 114) X dX11_counts_114 ?_
  refine to_iconst (pc := 115) X dX11_counts_115 (by decide) ?_
  refine to_iadd (pc := 116) X dX11_counts_116 ?_
  refine to_iast (pc := 117) X dX11_counts_117 ?_
  refine to_aload_n (pc := 118) X dX11_counts_118 rfl ?_
  refine gfX11_14 (pc := 119) X wf_RX11_39 dX11_counts_119 ?_
  refine to_iload (pc := 122) X dX11_counts_122 ?_
  refine to_dup2 (pc := 124) X dX11_counts_124 ?_
  refine to_iald (pc := 125) X dX11_counts_125 ?_
  refine to_iload (pc := 126) X dX11_counts_126 ?_
  refine to_iadd (pc := 128) X dX11_counts_128 ?_
  refine to_iast (pc := 129) X dX11_counts_129 ?_
  refine to_aload_n (pc := 130) X dX11_counts_130 rfl ?_
  refine gfX11_15 (pc := 131) X wf_RX11_42 dX11_counts_131 ?_
  refine to_iload (pc := 134) X dX11_counts_134 ?_
  refine to_dup2 (pc := 136) X dX11_counts_136 ?_
  refine to_iald (pc := 137) X dX11_counts_137 ?_
  refine to_iload_n (pc := 138) X dX11_counts_138 rfl ?_
  refine to_iadd (pc := 139) X dX11_counts_139 ?_
  refine to_iast (pc := 140) X dX11_counts_140 ?_
  refine to_aload_n (pc := 141) X dX11_counts_141 rfl ?_
  refine gfX11_16 (pc := 142) X wf_RX11_45 dX11_counts_142 ?_
  refine to_iload (pc := 145) X dX11_counts_145 ?_
  refine to_dup2 (pc := 147) X dX11_counts_147 ?_
  refine to_iald (pc := 148) X dX11_counts_148 ?_
  refine to_iload_n (pc := 149) X dX11_counts_149 rfl ?_
  refine to_iload_n (pc := 150) X dX11_counts_150 rfl ?_
  refine to_imul (pc := 151) X dX11_counts_151 ?_
  refine to_iadd (pc := 152) X dX11_counts_152 ?_
  refine to_iast (pc := 153) X dX11_counts_153 ?_
  refine to_aload_n (pc := 154) X dX11_counts_154 rfl ?_
  refine gfX11_17 (pc := 155) X wf_RX11_48 dX11_counts_155 ?_
  refine to_iload (pc := 158) X dX11_counts_158 ?_
  refine to_dup2 (pc := 160) X dX11_counts_160 ?_
  refine to_iald (pc := 161) X dX11_counts_161 ?_
  refine to_iload_n (pc := 162) X dX11_counts_162 rfl ?_
  refine to_iload (pc := 163) X dX11_counts_163 ?_
  refine to_imul (pc := 165) X dX11_counts_165 ?_
  refine to_iadd (pc := 166) X dX11_counts_166 ?_
  refine to_iast (pc := 167) X dX11_counts_167 ?_
  refine to_aload_n (pc := 168) X dX11_counts_168 rfl ?_
  refine to_dup (pc := 169) X dX11_counts_169 ?_
  refine gfX11_18 (pc := 170) X wf_RX11_188 dX11_counts_170 ?_
  refine to_iconst (pc := 173) X dX11_counts_173 (by decide) ?_
  refine to_iadd (pc := 174) X dX11_counts_174 ?_
  refine pfX11_18 (pc := 175) X wf_RX11_188 dX11_counts_175 ?_
  refine to_aload_n (pc := 178) X dX11_counts_178 rfl ?_
  refine to_dup (pc := 179) X dX11_counts_179 ?_
  refine gfX11_19 (pc := 180) X wf_RX11_191 dX11_counts_180 ?_
  refine to_iload (pc := 183) X dX11_counts_183 ?_
  refine to_iadd (pc := 185) X dX11_counts_185 ?_
  refine pfX11_19 (pc := 186) X wf_RX11_191 dX11_counts_186 ?_
  exact to_cut [0, 1, 2] (fun _ _ _ h => h)
def bkX11_counts_98 (P : Nat → tc_B) (q : tc_Q) : tc_B := tb_istore 4 <| tb_aload 0 <| tb_iload 3 <| tb_callV 1 4 9 RX11_binOf <| bkX11_counts_105 P q
theorem okX11_counts_98 {Z : tc_Z} {q : tc_Q} (X : tc_Cx ({ frames := 2, cells := 0, slots := 0, locals := 48 } : Room) cX11_counts 6 RX11 Z) (hr : tc_Rt 3 cX11_counts 6 Z q) : tc_Ok 6 Z 98 (bkX11_counts_98 (tc_At 6 Z) q) := by
  unfold bkX11_counts_98
  refine to_istore (pc := 98) X dX11_counts_98 (by decide) ?_
  refine to_aload_n (pc := 100) X dX11_counts_100 rfl ?_
  refine to_iload_n (pc := 101) X dX11_counts_101 rfl ?_
  refine cvX11_binOf (pc := 102) X wm_RX11_194 (by decide) dX11_counts_102 ?_
  exact okX11_counts_105 X hr
def bkX11_counts_82 (P : Nat → tc_B) (q : tc_Q) : tc_B := tb_istore 3 <| tb_aload 0 <| tb_getf 9 1 <| tb_iload 2 <| tb_iald <| tb_i 1 <| tb_icmp_ne (tb_i 0 <| tb_cut (P 98) [0, 1, 2, 3]) <| tb_i 1 <| tb_cut (P 98) [0, 1, 2, 3]
theorem okX11_counts_82 {Z : tc_Z} {q : tc_Q} (X : tc_Cx ({ frames := 2, cells := 0, slots := 0, locals := 48 } : Room) cX11_counts 6 RX11 Z) (hr : tc_Rt 3 cX11_counts 6 Z q) : tc_Ok 6 Z 82 (bkX11_counts_82 (tc_At 6 Z) q) := by
  unfold bkX11_counts_82
  refine to_istore_n (pc := 82) X dX11_counts_82 rfl (by decide) ?_
  refine to_aload_n (pc := 83) X dX11_counts_83 rfl ?_
  refine gfX11_1 (pc := 84) X wf_RX11_13 dX11_counts_84 ?_
  refine to_iload_n (pc := 87) X dX11_counts_87 rfl ?_
  refine to_iald (pc := 88) X dX11_counts_88 ?_
  refine to_iconst (pc := 89) X dX11_counts_89 (by decide) ?_
  refine to_icmp_ne (pc := 90) (tgt := 97) X dX11_counts_90 (by decide) ?_ ?_
  · refine to_iconst (pc := 97) X dX11_counts_97 (by decide) ?_
    exact to_cut [0, 1, 2, 3] (fun _ _ _ h => h)
  refine to_iconst (pc := 93) X dX11_counts_93 (by decide) ?_
  refine to_goto (pc := 94) (tgt := 98) X dX11_counts_94 (by decide) ?_
  exact to_cut [0, 1, 2, 3] (fun _ _ _ h => h)
def bkX11_counts_73 (P : Nat → tc_B) (q : tc_Q) : tc_B := tb_if_eq (tb_cut (P 189) [0, 1, 2]) <| tb_aload 0 <| tb_iload 1 <| tb_iload 2 <| tb_callV 2 7 9 RX11_toldBy <| bkX11_counts_82 P q
theorem okX11_counts_73 {Z : tc_Z} {q : tc_Q} (X : tc_Cx ({ frames := 2, cells := 0, slots := 0, locals := 48 } : Room) cX11_counts 6 RX11 Z) (hr : tc_Rt 3 cX11_counts 6 Z q) : tc_Ok 6 Z 73 (bkX11_counts_73 (tc_At 6 Z) q) := by
  unfold bkX11_counts_73
  refine to_if_eq (pc := 73) (tgt := 189) X dX11_counts_73 (by decide) ?_ ?_
  · exact to_cut [0, 1, 2] (fun _ _ _ h => h)
  refine to_aload_n (pc := 76) X dX11_counts_76 rfl ?_
  refine to_iload_n (pc := 77) X dX11_counts_77 rfl ?_
  refine to_iload_n (pc := 78) X dX11_counts_78 rfl ?_
  refine cvX11_toldBy (pc := 79) X wm_RX11_84 (by decide) dX11_counts_79 ?_
  exact okX11_counts_82 X hr
def bkX11_counts_61 (P : Nat → tc_B) (q : tc_Q) : tc_B := tb_iload 2 <| tb_i 40 <| tb_icmp_ge (tb_vret q) <| tb_aload 0 <| tb_iload 1 <| tb_iload 2 <| tb_callV 2 3 9 RX11_isCase <| bkX11_counts_73 P q
theorem okX11_counts_61 {Z : tc_Z} {q : tc_Q} (X : tc_Cx ({ frames := 2, cells := 0, slots := 0, locals := 48 } : Room) cX11_counts 6 RX11 Z) (hr : tc_Rt 3 cX11_counts 6 Z q) : tc_Ok 6 Z 61 (bkX11_counts_61 (tc_At 6 Z) q) := by
  unfold bkX11_counts_61
  refine to_iload_n (pc := 61) X dX11_counts_61 rfl ?_
  refine to_bipush (pc := 62) X dX11_counts_62 (by decide) ?_
  refine to_icmp_ge (pc := 64) (tgt := 195) X dX11_counts_64 (by decide) ?_ ?_
  · exact to_vret (pc := 195) hr dX11_counts_195
  refine to_aload_n (pc := 67) X dX11_counts_67 rfl ?_
  refine to_iload_n (pc := 68) X dX11_counts_68 rfl ?_
  refine to_iload_n (pc := 69) X dX11_counts_69 rfl ?_
  refine cvX11_isCase (pc := 70) X wm_RX11_153 (by decide) dX11_counts_70 ?_
  exact okX11_counts_73 X hr
def bkX11_counts_2 (P : Nat → tc_B) (q : tc_Q) : tc_B := tb_iload 2 <| tb_i 10 <| tb_icmp_ge (tb_aload 0 <| tb_i 0 <| tb_putI 9 18 <| tb_aload 0 <| tb_i 0 <| tb_putI 9 19 <| tb_i 0 <| tb_istore 2 <| tb_cut (P 61) [0, 1, 2]) <| tb_aload 0 <| tb_getf 9 13 <| tb_iload 2 <| tb_i 0 <| tb_iast <| tb_aload 0 <| tb_getf 9 14 <| tb_iload 2 <| tb_i 0 <| tb_iast <| tb_aload 0 <| tb_getf 9 15 <| tb_iload 2 <| tb_i 0 <| tb_iast <| tb_aload 0 <| tb_getf 9 16 <| tb_iload 2 <| tb_i 0 <| tb_iast <| tb_aload 0 <| tb_getf 9 17 <| tb_iload 2 <| tb_i 0 <| tb_iast <| tb_iinc 2 1 <| tb_cut (P 2) [0, 1, 2]
theorem okX11_counts_2 {Z : tc_Z} {q : tc_Q} (X : tc_Cx ({ frames := 2, cells := 0, slots := 0, locals := 48 } : Room) cX11_counts 6 RX11 Z) (hr : tc_Rt 3 cX11_counts 6 Z q) : tc_Ok 6 Z 2 (bkX11_counts_2 (tc_At 6 Z) q) := by
  unfold bkX11_counts_2
  refine to_iload_n (pc := 2) X dX11_counts_2 rfl ?_
  refine to_bipush (pc := 3) X dX11_counts_3 (by decide) ?_
  refine to_icmp_ge (pc := 5) (tgt := 49) X dX11_counts_5 (by decide) ?_ ?_
  · refine to_aload_n (pc := 49) X dX11_counts_49 rfl ?_
    refine to_iconst (pc := 50) X dX11_counts_50 (by decide) ?_
    refine pfX11_18 (pc := 51) X wf_RX11_188 dX11_counts_51 ?_
    refine to_aload_n (pc := 54) X dX11_counts_54 rfl ?_
    refine to_iconst (pc := 55) X dX11_counts_55 (by decide) ?_
    refine pfX11_19 (pc := 56) X wf_RX11_191 dX11_counts_56 ?_
    refine to_iconst (pc := 59) X dX11_counts_59 (by decide) ?_
    refine to_istore_n (pc := 60) X dX11_counts_60 rfl (by decide) ?_
    exact to_cut [0, 1, 2] (fun _ _ _ h => h)
  refine to_aload_n (pc := 8) X dX11_counts_8 rfl ?_
  refine gfX11_13 (pc := 9) X wf_RX11_36 dX11_counts_9 ?_
  refine to_iload_n (pc := 12) X dX11_counts_12 rfl ?_
  refine to_iconst (pc := 13) X dX11_counts_13 (by decide) ?_
  refine to_iast (pc := 14) X dX11_counts_14 ?_
  refine to_aload_n (pc := 15) X dX11_counts_15 rfl ?_
  refine gfX11_14 (pc := 16) X wf_RX11_39 dX11_counts_16 ?_
  refine to_iload_n (pc := 19) X dX11_counts_19 rfl ?_
  refine to_iconst (pc := 20) X dX11_counts_20 (by decide) ?_
  refine to_iast (pc := 21) X dX11_counts_21 ?_
  refine to_aload_n (pc := 22) X dX11_counts_22 rfl ?_
  refine gfX11_15 (pc := 23) X wf_RX11_42 dX11_counts_23 ?_
  refine to_iload_n (pc := 26) X dX11_counts_26 rfl ?_
  refine to_iconst (pc := 27) X dX11_counts_27 (by decide) ?_
  refine to_iast (pc := 28) X dX11_counts_28 ?_
  refine to_aload_n (pc := 29) X dX11_counts_29 rfl ?_
  refine gfX11_16 (pc := 30) X wf_RX11_45 dX11_counts_30 ?_
  refine to_iload_n (pc := 33) X dX11_counts_33 rfl ?_
  refine to_iconst (pc := 34) X dX11_counts_34 (by decide) ?_
  refine to_iast (pc := 35) X dX11_counts_35 ?_
  refine to_aload_n (pc := 36) X dX11_counts_36 rfl ?_
  refine gfX11_17 (pc := 37) X wf_RX11_48 dX11_counts_37 ?_
  refine to_iload_n (pc := 40) X dX11_counts_40 rfl ?_
  refine to_iconst (pc := 41) X dX11_counts_41 (by decide) ?_
  refine to_iast (pc := 42) X dX11_counts_42 ?_
  refine to_iinc (pc := 43) X dX11_counts_43 (by decide) (by decide) ?_
  refine to_goto (pc := 46) (tgt := 2) X dX11_counts_46 (by decide) ?_
  exact to_cut [0, 1, 2] (fun _ _ _ h => h)
def bkX11_counts_0 (P : Nat → tc_B) (q : tc_Q) : tc_B := tb_i 0 <| tb_istore 2 <| tb_cut (P 2) [0, 1, 2]
theorem okX11_counts_0 {Z : tc_Z} {q : tc_Q} (X : tc_Cx ({ frames := 2, cells := 0, slots := 0, locals := 48 } : Room) cX11_counts 6 RX11 Z) (hr : tc_Rt 3 cX11_counts 6 Z q) : tc_Ok 6 Z 0 (bkX11_counts_0 (tc_At 6 Z) q) := by
  unfold bkX11_counts_0
  refine to_iconst (pc := 0) X dX11_counts_0 (by decide) ?_
  refine to_istore_n (pc := 1) X dX11_counts_1 rfl (by decide) ?_
  exact to_cut [0, 1, 2] (fun _ _ _ h => h)
def RX11_counts (vs : List tc_V) (S : tc_S) (q : tc_Q) : Prop := ∀ P : Nat → tc_B, (∀ L K S, bkX11_counts_2 P q L K S → P 2 L K S) → (∀ L K S, bkX11_counts_61 P q L K S → P 61 L K S) → (∀ L K S, bkX11_counts_98 P q L K S → P 98 L K S) → (∀ L K S, bkX11_counts_189 P q L K S → P 189 L K S) → bkX11_counts_0 P q (tc_num 0 vs) [] S
theorem metX11_counts : tc_Met yX11_counts (Cond.code yX11_counts cX11_counts 6 none) ({ frames := 2, cells := 0, slots := 0, locals := 48 } : Room) 3 6 RX11_counts := tc_met (rk := 3) (by decide) ⟨rfl, rfl⟩ (fun Z q X hr vs S h => okX11_counts_0 X hr _ _ _ (h (tc_At 6 Z) (okX11_counts_2 X hr) (okX11_counts_61 X hr) (okX11_counts_98 X hr) (okX11_counts_189 X hr)))
theorem cvX11_counts {R : Room} {cc : ByteArray} {nL pc ix : Nat} {own : String} {Z : tc_Z} {k : tc_B} (X : tc_Cx R cc nL own Z) (h1 : Cond.methodLink own ix yX11_counts ∈ tc_tb) (hR : 2 + 1 ≤ R.frames ∧ 8 + (6 + 11) + 48 ≤ R.locals) (hd : decode cc pc = .ok (.invokevirtual ix, 3)) (h : tc_Ok nL Z (pc + 3) k) : tc_Ok nL Z pc (tb_callV 1 6 9 RX11_counts k) := to_callV X metX11_counts rfl ⟨rfl, rfl⟩ hR h1 wi_X11_counts wl_X11_counts wn_RX11 wc_X11_counts ⟨by decide +kernel, by decide +kernel, by decide +kernel, by decide +kernel⟩ hd h
def bkX11_leastIn_7 (P : Nat → tc_B) (q : tc_Q) : tc_B := tb_iload 1 <| tb_icmp_ge (tb_iload 2 <| tb_iret q) <| tb_iinc 2 1 <| tb_cut (P 2) [0, 1, 2]
theorem okX11_leastIn_7 {Z : tc_Z} {q : tc_Q} (X : tc_Cx ({ frames := 1, cells := 0, slots := 0, locals := 23 } : Room) cX11_leastIn 3 RX11 Z) (hr : tc_Rt 0 cX11_leastIn 3 Z q) : tc_Ok 3 Z 7 (bkX11_leastIn_7 (tc_At 3 Z) q) := by
  unfold bkX11_leastIn_7
  refine to_iload_n (pc := 7) X dX11_leastIn_7 rfl ?_
  refine to_icmp_ge (pc := 8) (tgt := 17) X dX11_leastIn_8 (by decide) ?_ ?_
  · refine to_iload_n (pc := 17) X dX11_leastIn_17 rfl ?_
    exact to_iret (pc := 18) hr dX11_leastIn_18
  refine to_iinc (pc := 11) X dX11_leastIn_11 (by decide) (by decide) ?_
  refine to_goto (pc := 14) (tgt := 2) X dX11_leastIn_14 (by decide) ?_
  exact to_cut [0, 1, 2] (fun _ _ _ h => h)
def bkX11_leastIn_2 (P : Nat → tc_B) (q : tc_Q) : tc_B := tb_aload 0 <| tb_iload 2 <| tb_callV 1 4 9 RX11_binOf <| bkX11_leastIn_7 P q
theorem okX11_leastIn_2 {Z : tc_Z} {q : tc_Q} (X : tc_Cx ({ frames := 1, cells := 0, slots := 0, locals := 23 } : Room) cX11_leastIn 3 RX11 Z) (hr : tc_Rt 0 cX11_leastIn 3 Z q) : tc_Ok 3 Z 2 (bkX11_leastIn_2 (tc_At 3 Z) q) := by
  unfold bkX11_leastIn_2
  refine to_aload_n (pc := 2) X dX11_leastIn_2 rfl ?_
  refine to_iload_n (pc := 3) X dX11_leastIn_3 rfl ?_
  refine cvX11_binOf (pc := 4) X wm_RX11_194 (by decide) dX11_leastIn_4 ?_
  exact okX11_leastIn_7 X hr
def bkX11_leastIn_0 (P : Nat → tc_B) (q : tc_Q) : tc_B := tb_i 0 <| tb_istore 2 <| tb_cut (P 2) [0, 1, 2]
theorem okX11_leastIn_0 {Z : tc_Z} {q : tc_Q} (X : tc_Cx ({ frames := 1, cells := 0, slots := 0, locals := 23 } : Room) cX11_leastIn 3 RX11 Z) (hr : tc_Rt 0 cX11_leastIn 3 Z q) : tc_Ok 3 Z 0 (bkX11_leastIn_0 (tc_At 3 Z) q) := by
  unfold bkX11_leastIn_0
  refine to_iconst (pc := 0) X dX11_leastIn_0 (by decide) ?_
  refine to_istore_n (pc := 1) X dX11_leastIn_1 rfl (by decide) ?_
  exact to_cut [0, 1, 2] (fun _ _ _ h => h)
def RX11_leastIn (vs : List tc_V) (S : tc_S) (q : tc_Q) : Prop := ∀ P : Nat → tc_B, (∀ L K S, bkX11_leastIn_2 P q L K S → P 2 L K S) → bkX11_leastIn_0 P q (tc_num 0 vs) [] S
theorem metX11_leastIn : tc_Met yX11_leastIn (Cond.code yX11_leastIn cX11_leastIn 3 (some .int)) ({ frames := 1, cells := 0, slots := 0, locals := 23 } : Room) 0 3 RX11_leastIn := tc_met (rk := 0) (by decide) ⟨rfl, rfl⟩ (fun Z q X hr vs S h => okX11_leastIn_0 X hr _ _ _ (h (tc_At 3 Z) (okX11_leastIn_2 X hr)))
theorem cvX11_leastIn {R : Room} {cc : ByteArray} {nL pc ix : Nat} {own : String} {Z : tc_Z} {k : tc_B} (X : tc_Cx R cc nL own Z) (h1 : Cond.methodLink own ix yX11_leastIn ∈ tc_tb) (hR : 1 + 1 ≤ R.frames ∧ 8 + (3 + 11) + 23 ≤ R.locals) (hd : decode cc pc = .ok (.invokevirtual ix, 3)) (h : tc_Ok nL Z (pc + 3) k) : tc_Ok nL Z pc (tb_callV 1 3 9 RX11_leastIn k) := to_callV X metX11_leastIn rfl ⟨rfl, rfl⟩ hR h1 wi_X11_leastIn wl_X11_leastIn wn_RX11 wc_X11_leastIn ⟨by decide +kernel, by decide +kernel, by decide +kernel, by decide +kernel⟩ hd h
def bkX11_greatestIn_8 (P : Nat → tc_B) (q : tc_Q) : tc_B := tb_iload 1 <| tb_icmp_le (tb_iload 2 <| tb_iret q) <| tb_iinc 2 (-1) <| tb_cut (P 3) [0, 1, 2]
theorem okX11_greatestIn_8 {Z : tc_Z} {q : tc_Q} (X : tc_Cx ({ frames := 1, cells := 0, slots := 0, locals := 23 } : Room) cX11_greatestIn 3 RX11 Z) (hr : tc_Rt 0 cX11_greatestIn 3 Z q) : tc_Ok 3 Z 8 (bkX11_greatestIn_8 (tc_At 3 Z) q) := by
  unfold bkX11_greatestIn_8
  refine to_iload_n (pc := 8) X dX11_greatestIn_8 rfl ?_
  refine to_icmp_le (pc := 9) (tgt := 18) X dX11_greatestIn_9 (by decide) ?_ ?_
  · refine to_iload_n (pc := 18) X dX11_greatestIn_18 rfl ?_
    exact to_iret (pc := 19) hr dX11_greatestIn_19
  refine to_iinc (pc := 12) X dX11_greatestIn_12 (by decide) (by decide) ?_
  refine to_goto (pc := 15) (tgt := 3) X dX11_greatestIn_15 (by decide) ?_
  exact to_cut [0, 1, 2] (fun _ _ _ h => h)
def bkX11_greatestIn_3 (P : Nat → tc_B) (q : tc_Q) : tc_B := tb_aload 0 <| tb_iload 2 <| tb_callV 1 4 9 RX11_binOf <| bkX11_greatestIn_8 P q
theorem okX11_greatestIn_3 {Z : tc_Z} {q : tc_Q} (X : tc_Cx ({ frames := 1, cells := 0, slots := 0, locals := 23 } : Room) cX11_greatestIn 3 RX11 Z) (hr : tc_Rt 0 cX11_greatestIn 3 Z q) : tc_Ok 3 Z 3 (bkX11_greatestIn_3 (tc_At 3 Z) q) := by
  unfold bkX11_greatestIn_3
  refine to_aload_n (pc := 3) X dX11_greatestIn_3 rfl ?_
  refine to_iload_n (pc := 4) X dX11_greatestIn_4 rfl ?_
  refine cvX11_binOf (pc := 5) X wm_RX11_194 (by decide) dX11_greatestIn_5 ?_
  exact okX11_greatestIn_8 X hr
def bkX11_greatestIn_0 (P : Nat → tc_B) (q : tc_Q) : tc_B := tb_i 100 <| tb_istore 2 <| tb_cut (P 3) [0, 1, 2]
theorem okX11_greatestIn_0 {Z : tc_Z} {q : tc_Q} (X : tc_Cx ({ frames := 1, cells := 0, slots := 0, locals := 23 } : Room) cX11_greatestIn 3 RX11 Z) (hr : tc_Rt 0 cX11_greatestIn 3 Z q) : tc_Ok 3 Z 0 (bkX11_greatestIn_0 (tc_At 3 Z) q) := by
  unfold bkX11_greatestIn_0
  refine to_bipush (pc := 0) X dX11_greatestIn_0 (by decide) ?_
  refine to_istore_n (pc := 2) X dX11_greatestIn_2 rfl (by decide) ?_
  exact to_cut [0, 1, 2] (fun _ _ _ h => h)
def RX11_greatestIn (vs : List tc_V) (S : tc_S) (q : tc_Q) : Prop := ∀ P : Nat → tc_B, (∀ L K S, bkX11_greatestIn_3 P q L K S → P 3 L K S) → bkX11_greatestIn_0 P q (tc_num 0 vs) [] S
theorem metX11_greatestIn : tc_Met yX11_greatestIn (Cond.code yX11_greatestIn cX11_greatestIn 3 (some .int)) ({ frames := 1, cells := 0, slots := 0, locals := 23 } : Room) 0 3 RX11_greatestIn := tc_met (rk := 0) (by decide) ⟨rfl, rfl⟩ (fun Z q X hr vs S h => okX11_greatestIn_0 X hr _ _ _ (h (tc_At 3 Z) (okX11_greatestIn_3 X hr)))
theorem cvX11_greatestIn {R : Room} {cc : ByteArray} {nL pc ix : Nat} {own : String} {Z : tc_Z} {k : tc_B} (X : tc_Cx R cc nL own Z) (h1 : Cond.methodLink own ix yX11_greatestIn ∈ tc_tb) (hR : 1 + 1 ≤ R.frames ∧ 8 + (3 + 11) + 23 ≤ R.locals) (hd : decode cc pc = .ok (.invokevirtual ix, 3)) (h : tc_Ok nL Z (pc + 3) k) : tc_Ok nL Z pc (tb_callV 1 3 9 RX11_greatestIn k) := to_callV X metX11_greatestIn rfl ⟨rfl, rfl⟩ hR h1 wi_X11_greatestIn wl_X11_greatestIn wn_RX11 wc_X11_greatestIn ⟨by decide +kernel, by decide +kernel, by decide +kernel, by decide +kernel⟩ hd h
def bkX11_bin_92 (P : Nat → tc_B) (q : tc_Q) : tc_B := tb_iret q
theorem okX11_bin_92 {Z : tc_Z} {q : tc_Q} (X : tc_Cx ({ frames := 3, cells := 0, slots := 0, locals := 73 } : Room) cX11_bin 4 RX11 Z) (hr : tc_Rt 0 cX11_bin 4 Z q) : tc_Ok 4 Z 92 (bkX11_bin_92 (tc_At 4 Z) q) := by
  unfold bkX11_bin_92
  exact to_iret (pc := 92) hr dX11_bin_92
def bkX11_bin_86 (P : Nat → tc_B) (q : tc_Q) : tc_B := tb_iret q
theorem okX11_bin_86 {Z : tc_Z} {q : tc_Q} (X : tc_Cx ({ frames := 3, cells := 0, slots := 0, locals := 73 } : Room) cX11_bin 4 RX11 Z) (hr : tc_Rt 0 cX11_bin 4 Z q) : tc_Ok 4 Z 86 (bkX11_bin_86 (tc_At 4 Z) q) := by
  unfold bkX11_bin_86
  exact to_iret (pc := 86) hr dX11_bin_86
def bkX11_bin_26 (P : Nat → tc_B) (q : tc_Q) : tc_B := tb_iload 3 <| tb_tsw 0 4 [tb_aload 0 <| tb_getf 9 13 <| tb_iload 2 <| tb_iald <| tb_iret q, tb_aload 0 <| tb_getf 9 14 <| tb_iload 2 <| tb_iald <| tb_iret q, tb_aload 0 <| tb_getf 9 15 <| tb_iload 2 <| tb_iald <| tb_iret q, tb_aload 0 <| tb_iload 2 <| tb_callV 1 3 9 RX11_leastIn <| bkX11_bin_86 P q, tb_aload 0 <| tb_iload 2 <| tb_callV 1 3 9 RX11_greatestIn <| bkX11_bin_92 P q] <| tb_i (-2) <| tb_iret q
theorem okX11_bin_26 {Z : tc_Z} {q : tc_Q} (X : tc_Cx ({ frames := 3, cells := 0, slots := 0, locals := 73 } : Room) cX11_bin 4 RX11 Z) (hr : tc_Rt 0 cX11_bin 4 Z q) : tc_Ok 4 Z 26 (bkX11_bin_26 (tc_At 4 Z) q) := by
  unfold bkX11_bin_26
  refine to_iload_n (pc := 26) X dX11_bin_26 rfl ?_
  refine to_tsw (pc := 27) (td := 93) [60, 67, 74, 81, 87] X dX11_bin_27 (by decide) (by decide) (by decide) (by decide) (by decide) (by decide) ?_ ?_
  · refine to_bipush (pc := 93) X dX11_bin_93 (by decide) ?_
    exact to_iret (pc := 95) hr dX11_bin_95
  refine ⟨?_, ?_⟩
  · refine to_aload_n (pc := 60) X dX11_bin_60 rfl ?_
    refine gfX11_13 (pc := 61) X wf_RX11_36 dX11_bin_61 ?_
    refine to_iload_n (pc := 64) X dX11_bin_64 rfl ?_
    refine to_iald (pc := 65) X dX11_bin_65 ?_
    exact to_iret (pc := 66) hr dX11_bin_66
  refine ⟨?_, ?_⟩
  · refine to_aload_n (pc := 67) X dX11_bin_67 rfl ?_
    refine gfX11_14 (pc := 68) X wf_RX11_39 dX11_bin_68 ?_
    refine to_iload_n (pc := 71) X dX11_bin_71 rfl ?_
    refine to_iald (pc := 72) X dX11_bin_72 ?_
    exact to_iret (pc := 73) hr dX11_bin_73
  refine ⟨?_, ?_⟩
  · refine to_aload_n (pc := 74) X dX11_bin_74 rfl ?_
    refine gfX11_15 (pc := 75) X wf_RX11_42 dX11_bin_75 ?_
    refine to_iload_n (pc := 78) X dX11_bin_78 rfl ?_
    refine to_iald (pc := 79) X dX11_bin_79 ?_
    exact to_iret (pc := 80) hr dX11_bin_80
  refine ⟨?_, ?_⟩
  · refine to_aload_n (pc := 81) X dX11_bin_81 rfl ?_
    refine to_iload_n (pc := 82) X dX11_bin_82 rfl ?_
    refine cvX11_leastIn (pc := 83) X wm_RX11_201 (by decide) dX11_bin_83 ?_
    exact okX11_bin_86 X hr
  refine ⟨?_, ?_⟩
  · refine to_aload_n (pc := 87) X dX11_bin_87 rfl ?_
    refine to_iload_n (pc := 88) X dX11_bin_88 rfl ?_
    refine cvX11_greatestIn (pc := 89) X wm_RX11_204 (by decide) dX11_bin_89 ?_
    exact okX11_bin_92 X hr
  trivial
def bkX11_bin_16 (P : Nat → tc_B) (q : tc_Q) : tc_B := tb_if_ne (tb_aload 0 <| tb_iload 1 <| tb_callV 1 6 9 RX11_counts <| bkX11_bin_26 P q) <| tb_i (-1) <| tb_iret q
theorem okX11_bin_16 {Z : tc_Z} {q : tc_Q} (X : tc_Cx ({ frames := 3, cells := 0, slots := 0, locals := 73 } : Room) cX11_bin 4 RX11 Z) (hr : tc_Rt 0 cX11_bin 4 Z q) : tc_Ok 4 Z 16 (bkX11_bin_16 (tc_At 4 Z) q) := by
  unfold bkX11_bin_16
  refine to_if_ne (pc := 16) (tgt := 21) X dX11_bin_16 (by decide) ?_ ?_
  · refine to_aload_n (pc := 21) X dX11_bin_21 rfl ?_
    refine to_iload_n (pc := 22) X dX11_bin_22 rfl ?_
    refine cvX11_counts (pc := 23) X wm_RX11_197 (by decide) dX11_bin_23 ?_
    exact okX11_bin_26 X hr
  refine to_iconst (pc := 19) X dX11_bin_19 (by decide) ?_
  exact to_iret (pc := 20) hr dX11_bin_20
def bkX11_bin_13 (P : Nat → tc_B) (q : tc_Q) : tc_B := tb_callS 3 3 RX11_within <| bkX11_bin_16 P q
theorem okX11_bin_13 {Z : tc_Z} {q : tc_Q} (X : tc_Cx ({ frames := 3, cells := 0, slots := 0, locals := 73 } : Room) cX11_bin 4 RX11 Z) (hr : tc_Rt 0 cX11_bin 4 Z q) : tc_Ok 4 Z 13 (bkX11_bin_13 (tc_At 4 Z) q) := by
  unfold bkX11_bin_13
  refine cvX11_within (pc := 13) X wm_RX11_66 (by decide) dX11_bin_13 ?_
  exact okX11_bin_16 X hr
def bkX11_bin_4 (P : Nat → tc_B) (q : tc_Q) : tc_B := tb_if_eq (tb_i (-1) <| tb_iret q) <| tb_iload 2 <| tb_i 0 <| tb_aload 0 <| tb_callV 0 3 9 RX11_cuts <| bkX11_bin_13 P q
theorem okX11_bin_4 {Z : tc_Z} {q : tc_Q} (X : tc_Cx ({ frames := 3, cells := 0, slots := 0, locals := 73 } : Room) cX11_bin 4 RX11 Z) (hr : tc_Rt 0 cX11_bin 4 Z q) : tc_Ok 4 Z 4 (bkX11_bin_4 (tc_At 4 Z) q) := by
  unfold bkX11_bin_4
  refine to_if_eq (pc := 4) (tgt := 19) X dX11_bin_4 (by decide) ?_ ?_
  · refine to_iconst (pc := 19) X dX11_bin_19 (by decide) ?_
    exact to_iret (pc := 20) hr dX11_bin_20
  refine to_iload_n (pc := 7) X dX11_bin_7 rfl ?_
  refine to_iconst (pc := 8) X dX11_bin_8 (by decide) ?_
  refine to_aload_n (pc := 9) X dX11_bin_9 rfl ?_
  refine cvX11_cuts (pc := 10) X wm_RX11_185 (by decide) dX11_bin_10 ?_
  exact okX11_bin_13 X hr
def bkX11_bin_0 (P : Nat → tc_B) (q : tc_Q) : tc_B := tb_iload 1 <| tb_callS 1 1 RX11_isAny <| bkX11_bin_4 P q
theorem okX11_bin_0 {Z : tc_Z} {q : tc_Q} (X : tc_Cx ({ frames := 3, cells := 0, slots := 0, locals := 73 } : Room) cX11_bin 4 RX11 Z) (hr : tc_Rt 0 cX11_bin 4 Z q) : tc_Ok 4 Z 0 (bkX11_bin_0 (tc_At 4 Z) q) := by
  unfold bkX11_bin_0
  refine to_iload_n (pc := 0) X dX11_bin_0 rfl ?_
  refine cvX11_isAny (pc := 1) X wm_RX11_81 (by decide) dX11_bin_1 ?_
  exact okX11_bin_4 X hr
def RX11_bin (vs : List tc_V) (S : tc_S) (q : tc_Q) : Prop := ∀ P : Nat → tc_B, bkX11_bin_0 P q (tc_num 0 vs) [] S
theorem metX11_bin : tc_Met yX11_bin (Cond.code yX11_bin cX11_bin 4 (some .int)) ({ frames := 3, cells := 0, slots := 0, locals := 73 } : Room) 0 4 RX11_bin := tc_met (rk := 0) (by decide) ⟨rfl, rfl⟩ (fun Z q X hr vs S h => okX11_bin_0 X hr _ _ _ (h (tc_At 4 Z)))
theorem cvX11_bin {R : Room} {cc : ByteArray} {nL pc ix : Nat} {own : String} {Z : tc_Z} {k : tc_B} (X : tc_Cx R cc nL own Z) (h1 : Cond.methodLink own ix yX11_bin ∈ tc_tb) (hR : 3 + 1 ≤ R.frames ∧ 8 + (4 + 11) + 73 ≤ R.locals) (hd : decode cc pc = .ok (.invokevirtual ix, 3)) (h : tc_Ok nL Z (pc + 3) k) : tc_Ok nL Z pc (tb_callV 3 4 9 RX11_bin k) := to_callV X metX11_bin rfl ⟨rfl, rfl⟩ hR h1 wi_X11_bin wl_X11_bin wn_RX11 wc_X11_bin ⟨by decide +kernel, by decide +kernel, by decide +kernel, by decide +kernel⟩ hd h
def bkX11_inBin_59 (P : Nat → tc_B) (q : tc_Q) : tc_B := tb_lstore 9 <| tb_iload 1 <| tb_tsw 1 3 [tb_lload 9 <| tb_lload 9 <| tb_lmul <| tb_jret q, tb_lload 9 <| tb_lload 9 <| tb_lmul <| tb_jret q, tb_lload 3 <| tb_aload 0 <| tb_getf 9 16 <| tb_iload 2 <| tb_iald <| tb_i2l <| tb_lmul <| tb_lload 7 <| tb_lload 7 <| tb_lmul <| tb_lsub <| tb_jret q] <| tb_j 2 <| tb_lload 3 <| tb_aload 0 <| tb_getf 9 17 <| tb_iload 2 <| tb_iald <| tb_i2l <| tb_lmul <| tb_lload 7 <| tb_lload 5 <| tb_lmul <| tb_lsub <| tb_lmul <| tb_jret q
theorem okX11_inBin_59 {Z : tc_Z} {q : tc_Q} (X : tc_Cx ({ frames := 0, cells := 0, slots := 0, locals := 0 } : Room) cX11_inBin 11 RX11 Z) (hr : tc_Rt 2 cX11_inBin 11 Z q) : tc_Ok 11 Z 59 (bkX11_inBin_59 (tc_At 11 Z) q) := by
  unfold bkX11_inBin_59
  refine to_lstore (pc := 59) X dX11_inBin_59 (by decide) ?_
  refine to_iload_n (pc := 61) X dX11_inBin_61 rfl ?_
  refine to_tsw (pc := 62) (td := 110) [88, 88, 94] X dX11_inBin_62 (by decide) (by decide) (by decide) (by decide) (by decide) (by decide) ?_ ?_
  · refine to_ldc2 (pc := 110) X wj_RX11_209 dX11_inBin_110 ?_
    refine to_lload_n (pc := 113) X dX11_inBin_113 rfl ?_
    refine to_aload_n (pc := 114) X dX11_inBin_114 rfl ?_
    refine gfX11_17 (pc := 115) X wf_RX11_48 dX11_inBin_115 ?_
    refine to_iload_n (pc := 118) X dX11_inBin_118 rfl ?_
    refine to_iald (pc := 119) X dX11_inBin_119 ?_
    refine to_i2l (pc := 120) X dX11_inBin_120 ?_
    refine to_lmul (pc := 121) X dX11_inBin_121 ?_
    refine to_lload (pc := 122) X dX11_inBin_122 ?_
    refine to_lload (pc := 124) X dX11_inBin_124 ?_
    refine to_lmul (pc := 126) X dX11_inBin_126 ?_
    refine to_lsub (pc := 127) X dX11_inBin_127 ?_
    refine to_lmul (pc := 128) X dX11_inBin_128 ?_
    exact to_jret (pc := 129) hr dX11_inBin_129
  refine ⟨?_, ?_⟩
  · refine to_lload (pc := 88) X dX11_inBin_88 ?_
    refine to_lload (pc := 90) X dX11_inBin_90 ?_
    refine to_lmul (pc := 92) X dX11_inBin_92 ?_
    exact to_jret (pc := 93) hr dX11_inBin_93
  refine ⟨?_, ?_⟩
  · refine to_lload (pc := 88) X dX11_inBin_88 ?_
    refine to_lload (pc := 90) X dX11_inBin_90 ?_
    refine to_lmul (pc := 92) X dX11_inBin_92 ?_
    exact to_jret (pc := 93) hr dX11_inBin_93
  refine ⟨?_, ?_⟩
  · refine to_lload_n (pc := 94) X dX11_inBin_94 rfl ?_
    refine to_aload_n (pc := 95) X dX11_inBin_95 rfl ?_
    refine gfX11_16 (pc := 96) X wf_RX11_45 dX11_inBin_96 ?_
    refine to_iload_n (pc := 99) X dX11_inBin_99 rfl ?_
    refine to_iald (pc := 100) X dX11_inBin_100 ?_
    refine to_i2l (pc := 101) X dX11_inBin_101 ?_
    refine to_lmul (pc := 102) X dX11_inBin_102 ?_
    refine to_lload (pc := 103) X dX11_inBin_103 ?_
    refine to_lload (pc := 105) X dX11_inBin_105 ?_
    refine to_lmul (pc := 107) X dX11_inBin_107 ?_
    refine to_lsub (pc := 108) X dX11_inBin_108 ?_
    exact to_jret (pc := 109) hr dX11_inBin_109
  trivial
def bkX11_inBin_0 (P : Nat → tc_B) (q : tc_Q) : tc_B := tb_aload 0 <| tb_getf 9 13 <| tb_iload 2 <| tb_iald <| tb_i2l <| tb_lstore 3 <| tb_aload 0 <| tb_getf 9 14 <| tb_iload 2 <| tb_iald <| tb_i2l <| tb_lstore 5 <| tb_aload 0 <| tb_getf 9 15 <| tb_iload 2 <| tb_iald <| tb_i2l <| tb_lstore 7 <| tb_iload 1 <| tb_i 1 <| tb_icmp_ne (tb_lload 7 <| tb_j 100 <| tb_lload 5 <| tb_lmul <| tb_lsub <| tb_cut (P 59) [0, 1, 2, 3, 5, 7]) <| tb_lload 5 <| tb_aload 0 <| tb_getf 9 18 <| tb_i2l <| tb_lmul <| tb_aload 0 <| tb_getf 9 19 <| tb_i2l <| tb_lload 3 <| tb_lmul <| tb_lsub <| tb_cut (P 59) [0, 1, 2, 3, 5, 7]
theorem okX11_inBin_0 {Z : tc_Z} {q : tc_Q} (X : tc_Cx ({ frames := 0, cells := 0, slots := 0, locals := 0 } : Room) cX11_inBin 11 RX11 Z) (hr : tc_Rt 2 cX11_inBin 11 Z q) : tc_Ok 11 Z 0 (bkX11_inBin_0 (tc_At 11 Z) q) := by
  unfold bkX11_inBin_0
  refine to_aload_n (pc := 0) X dX11_inBin_0 rfl ?_
  refine gfX11_13 (pc := 1) X wf_RX11_36 dX11_inBin_1 ?_
  refine to_iload_n (pc := 4) X dX11_inBin_4 rfl ?_
  refine to_iald (pc := 5) X dX11_inBin_5 ?_
  refine to_i2l (pc := 6) X dX11_inBin_6 ?_
  refine to_lstore_n (pc := 7) X dX11_inBin_7 rfl (by decide) ?_
  refine to_aload_n (pc := 8) X dX11_inBin_8 rfl ?_
  refine gfX11_14 (pc := 9) X wf_RX11_39 dX11_inBin_9 ?_
  refine to_iload_n (pc := 12) X dX11_inBin_12 rfl ?_
  refine to_iald (pc := 13) X dX11_inBin_13 ?_
  refine to_i2l (pc := 14) X dX11_inBin_14 ?_
  refine to_lstore (pc := 15) X dX11_inBin_15 (by decide) ?_
  refine to_aload_n (pc := 17) X dX11_inBin_17 rfl ?_
  refine gfX11_15 (pc := 18) X wf_RX11_42 dX11_inBin_18 ?_
  refine to_iload_n (pc := 21) X dX11_inBin_21 rfl ?_
  refine to_iald (pc := 22) X dX11_inBin_22 ?_
  refine to_i2l (pc := 23) X dX11_inBin_23 ?_
  refine to_lstore (pc := 24) X dX11_inBin_24 (by decide) ?_
  refine to_iload_n (pc := 26) X dX11_inBin_26 rfl ?_
  refine to_iconst (pc := 27) X dX11_inBin_27 (by decide) ?_
  refine to_icmp_ne (pc := 28) (tgt := 50) X dX11_inBin_28 (by decide) ?_ ?_
  · refine to_lload (pc := 50) X dX11_inBin_50 ?_
    refine to_ldc2 (pc := 52) X wj_RX11_207 dX11_inBin_52 ?_
    refine to_lload (pc := 55) X dX11_inBin_55 ?_
    refine to_lmul (pc := 57) X dX11_inBin_57 ?_
    refine to_lsub (pc := 58) X dX11_inBin_58 ?_
    exact to_cut [0, 1, 2, 3, 5, 7] (fun _ _ _ h => h)
  refine to_lload (pc := 31) X dX11_inBin_31 ?_
  refine to_aload_n (pc := 33) X dX11_inBin_33 rfl ?_
  refine gfX11_18 (pc := 34) X wf_RX11_188 dX11_inBin_34 ?_
  refine to_i2l (pc := 37) X dX11_inBin_37 ?_
  refine to_lmul (pc := 38) X dX11_inBin_38 ?_
  refine to_aload_n (pc := 39) X dX11_inBin_39 rfl ?_
  refine gfX11_19 (pc := 40) X wf_RX11_191 dX11_inBin_40 ?_
  refine to_i2l (pc := 43) X dX11_inBin_43 ?_
  refine to_lload_n (pc := 44) X dX11_inBin_44 rfl ?_
  refine to_lmul (pc := 45) X dX11_inBin_45 ?_
  refine to_lsub (pc := 46) X dX11_inBin_46 ?_
  refine to_goto (pc := 47) (tgt := 59) X dX11_inBin_47 (by decide) ?_
  exact to_cut [0, 1, 2, 3, 5, 7] (fun _ _ _ h => h)
def RX11_inBin (vs : List tc_V) (S : tc_S) (q : tc_Q) : Prop := ∀ P : Nat → tc_B, (∀ L K S, bkX11_inBin_59 P q L K S → P 59 L K S) → bkX11_inBin_0 P q (tc_num 0 vs) [] S
theorem metX11_inBin : tc_Met yX11_inBin (Cond.code yX11_inBin cX11_inBin 11 (some .long)) ({ frames := 0, cells := 0, slots := 0, locals := 0 } : Room) 2 11 RX11_inBin := tc_met (rk := 2) (by decide) ⟨rfl, rfl⟩ (fun Z q X hr vs S h => okX11_inBin_0 X hr _ _ _ (h (tc_At 11 Z) (okX11_inBin_59 X hr)))
theorem cvX11_inBin {R : Room} {cc : ByteArray} {nL pc ix : Nat} {own : String} {Z : tc_Z} {k : tc_B} (X : tc_Cx R cc nL own Z) (h1 : Cond.methodLink own ix yX11_inBin ∈ tc_tb) (hR : 0 + 1 ≤ R.frames ∧ 8 + (11 + 11) + 0 ≤ R.locals) (hd : decode cc pc = .ok (.invokevirtual ix, 3)) (h : tc_Ok nL Z (pc + 3) k) : tc_Ok nL Z pc (tb_callV 2 11 9 RX11_inBin k) := to_callV X metX11_inBin rfl ⟨rfl, rfl⟩ hR h1 wi_X11_inBin wl_X11_inBin wn_RX11 wc_X11_inBin ⟨by decide +kernel, by decide +kernel, by decide +kernel, by decide +kernel⟩ hd h
def bkX11_wholeOf_0 (P : Nat → tc_B) (q : tc_Q) : tc_B := tb_aload 0 <| tb_getf 9 18 <| tb_i2l <| tb_lstore 2 <| tb_iload 1 <| tb_i 1 <| tb_icmp_ne (tb_iload 1 <| tb_i 4 <| tb_icmp_ne (tb_j 10000 <| tb_lload 2 <| tb_lmul <| tb_jret q) <| tb_j 100 <| tb_lload 2 <| tb_lmul <| tb_jret q) <| tb_lload 2 <| tb_lload 2 <| tb_lmul <| tb_lload 2 <| tb_lmul <| tb_jret q
theorem okX11_wholeOf_0 {Z : tc_Z} {q : tc_Q} (X : tc_Cx ({ frames := 0, cells := 0, slots := 0, locals := 0 } : Room) cX11_wholeOf 4 RX11 Z) (hr : tc_Rt 2 cX11_wholeOf 4 Z q) : tc_Ok 4 Z 0 (bkX11_wholeOf_0 (tc_At 4 Z) q) := by
  unfold bkX11_wholeOf_0
  refine to_aload_n (pc := 0) X dX11_wholeOf_0 rfl ?_
  refine gfX11_18 (pc := 1) X wf_RX11_188 dX11_wholeOf_1 ?_
  refine to_i2l (pc := 4) X dX11_wholeOf_4 ?_
  refine to_lstore_n (pc := 5) X dX11_wholeOf_5 rfl (by decide) ?_
  refine to_iload_n (pc := 6) X dX11_wholeOf_6 rfl ?_
  refine to_iconst (pc := 7) X dX11_wholeOf_7 (by decide) ?_
  refine to_icmp_ne (pc := 8) (tgt := 19) X dX11_wholeOf_8 (by decide) ?_ ?_
  · refine to_iload_n (pc := 19) X dX11_wholeOf_19 rfl ?_
    refine to_iconst (pc := 20) X dX11_wholeOf_20 (by decide) ?_
    refine to_icmp_ne (pc := 21) (tgt := 32) X dX11_wholeOf_21 (by decide) ?_ ?_
    · refine to_ldc2 (pc := 32) X wj_RX11_211 dX11_wholeOf_32 ?_
      refine to_lload_n (pc := 35) X dX11_wholeOf_35 rfl ?_
      refine to_lmul (pc := 36) X dX11_wholeOf_36 ?_
      exact to_jret (pc := 37) hr dX11_wholeOf_37
    refine to_ldc2 (pc := 24) X wj_RX11_207 dX11_wholeOf_24 ?_
    refine to_lload_n (pc := 27) X dX11_wholeOf_27 rfl ?_
    refine to_lmul (pc := 28) X dX11_wholeOf_28 ?_
    refine to_goto (pc := 29) (tgt := 37) X dX11_wholeOf_29 (by decide) ?_
    exact to_jret (pc := 37) hr dX11_wholeOf_37
  refine to_lload_n (pc := 11) X dX11_wholeOf_11 rfl ?_
  refine to_lload_n (pc := 12) X dX11_wholeOf_12 rfl ?_
  refine to_lmul (pc := 13) X dX11_wholeOf_13 ?_
  refine to_lload_n (pc := 14) X dX11_wholeOf_14 rfl ?_
  refine to_lmul (pc := 15) X dX11_wholeOf_15 ?_
  refine to_goto (pc := 16) (tgt := 37) X dX11_wholeOf_16 (by decide) ?_
  exact to_jret (pc := 37) hr dX11_wholeOf_37
def RX11_wholeOf (vs : List tc_V) (S : tc_S) (q : tc_Q) : Prop := ∀ P : Nat → tc_B, bkX11_wholeOf_0 P q (tc_num 0 vs) [] S
theorem metX11_wholeOf : tc_Met yX11_wholeOf (Cond.code yX11_wholeOf cX11_wholeOf 4 (some .long)) ({ frames := 0, cells := 0, slots := 0, locals := 0 } : Room) 2 4 RX11_wholeOf := tc_met (rk := 2) (by decide) ⟨rfl, rfl⟩ (fun Z q X hr vs S h => okX11_wholeOf_0 X hr _ _ _ (h (tc_At 4 Z)))
theorem cvX11_wholeOf {R : Room} {cc : ByteArray} {nL pc ix : Nat} {own : String} {Z : tc_Z} {k : tc_B} (X : tc_Cx R cc nL own Z) (h1 : Cond.methodLink own ix yX11_wholeOf ∈ tc_tb) (hR : 0 + 1 ≤ R.frames ∧ 8 + (4 + 11) + 0 ≤ R.locals) (hd : decode cc pc = .ok (.invokevirtual ix, 3)) (h : tc_Ok nL Z (pc + 3) k) : tc_Ok nL Z pc (tb_callV 1 4 9 RX11_wholeOf k) := to_callV X metX11_wholeOf rfl ⟨rfl, rfl⟩ hR h1 wi_X11_wholeOf wl_X11_wholeOf wn_RX11 wc_X11_wholeOf ⟨by decide +kernel, by decide +kernel, by decide +kernel, by decide +kernel⟩ hd h
def bkX11_addPart_84 (P : Nat → tc_B) (q : tc_Q) : tc_B := tb_iinc 5 1 <| tb_cut (P 37) [0, 1, 2, 5]
theorem okX11_addPart_84 {Z : tc_Z} {q : tc_Q} (X : tc_Cx ({ frames := 2, cells := 0, slots := 0, locals := 54 } : Room) cX11_addPart 6 RX11 Z) (hr : tc_Rt 3 cX11_addPart 6 Z q) : tc_Ok 6 Z 84 (bkX11_addPart_84 (tc_At 6 Z) q) := by
  unfold bkX11_addPart_84
  refine to_iinc (pc := 84) X dX11_addPart_84 (by decide) (by decide) ?_
  refine to_goto (pc := 87) (tgt := 37) X dX11_addPart_87 (by decide) ?_
  exact to_cut [0, 1, 2, 5] (fun _ _ _ h => h)
def bkX11_addPart_80 (P : Nat → tc_B) (q : tc_Q) : tc_B := tb_lmul <| tb_callV 2 5 9 RX11_adds <| tb_cut (P 84) [0, 1, 2, 5]
theorem okX11_addPart_80 {Z : tc_Z} {q : tc_Q} (X : tc_Cx ({ frames := 2, cells := 0, slots := 0, locals := 54 } : Room) cX11_addPart 6 RX11 Z) (hr : tc_Rt 3 cX11_addPart 6 Z q) : tc_Ok 6 Z 80 (bkX11_addPart_80 (tc_At 6 Z) q) := by
  unfold bkX11_addPart_80
  refine to_lmul (pc := 80) X dX11_addPart_80 ?_
  refine cvX11_adds (pc := 81) X wm_RX11_213 (by decide) dX11_addPart_81 ?_
  exact to_cut [0, 1, 2, 5] (fun _ _ _ h => h)
def bkX11_addPart_66 (P : Nat → tc_B) (q : tc_Q) : tc_B := tb_lmul <| tb_aload 0 <| tb_getf 9 13 <| tb_iload 5 <| tb_iald <| tb_i2l <| tb_aload 0 <| tb_iload 1 <| tb_callV 1 4 9 RX11_wholeOf <| bkX11_addPart_80 P q
theorem okX11_addPart_66 {Z : tc_Z} {q : tc_Q} (X : tc_Cx ({ frames := 2, cells := 0, slots := 0, locals := 54 } : Room) cX11_addPart 6 RX11 Z) (hr : tc_Rt 3 cX11_addPart 6 Z q) : tc_Ok 6 Z 66 (bkX11_addPart_66 (tc_At 6 Z) q) := by
  unfold bkX11_addPart_66
  refine to_lmul (pc := 66) X dX11_addPart_66 ?_
  refine to_aload_n (pc := 67) X dX11_addPart_67 rfl ?_
  refine gfX11_13 (pc := 68) X wf_RX11_36 dX11_addPart_68 ?_
  refine to_iload (pc := 71) X dX11_addPart_71 ?_
  refine to_iald (pc := 73) X dX11_addPart_73 ?_
  refine to_i2l (pc := 74) X dX11_addPart_74 ?_
  refine to_aload_n (pc := 75) X dX11_addPart_75 rfl ?_
  refine to_iload_n (pc := 76) X dX11_addPart_76 rfl ?_
  refine cvX11_wholeOf (pc := 77) X wm_RX11_220 (by decide) dX11_addPart_77 ?_
  exact okX11_addPart_80 X hr
def bkX11_addPart_43 (P : Nat → tc_B) (q : tc_Q) : tc_B := tb_icmp_gt (tb_vret q) <| tb_aload 0 <| tb_getf 9 13 <| tb_iload 5 <| tb_iald <| tb_if_le (tb_cut (P 84) [0, 1, 2, 5]) <| tb_aload 0 <| tb_iload 2 <| tb_i2l <| tb_aload 0 <| tb_iload 1 <| tb_iload 5 <| tb_callV 2 11 9 RX11_inBin <| bkX11_addPart_66 P q
theorem okX11_addPart_43 {Z : tc_Z} {q : tc_Q} (X : tc_Cx ({ frames := 2, cells := 0, slots := 0, locals := 54 } : Room) cX11_addPart 6 RX11 Z) (hr : tc_Rt 3 cX11_addPart 6 Z q) : tc_Ok 6 Z 43 (bkX11_addPart_43 (tc_At 6 Z) q) := by
  unfold bkX11_addPart_43
  refine to_icmp_gt (pc := 43) (tgt := 90) X dX11_addPart_43 (by decide) ?_ ?_
  · exact to_vret (pc := 90) hr dX11_addPart_90
  refine to_aload_n (pc := 46) X dX11_addPart_46 rfl ?_
  refine gfX11_13 (pc := 47) X wf_RX11_36 dX11_addPart_47 ?_
  refine to_iload (pc := 50) X dX11_addPart_50 ?_
  refine to_iald (pc := 52) X dX11_addPart_52 ?_
  refine to_if_le (pc := 53) (tgt := 84) X dX11_addPart_53 (by decide) ?_ ?_
  · exact to_cut [0, 1, 2, 5] (fun _ _ _ h => h)
  refine to_aload_n (pc := 56) X dX11_addPart_56 rfl ?_
  refine to_iload_n (pc := 57) X dX11_addPart_57 rfl ?_
  refine to_i2l (pc := 58) X dX11_addPart_58 ?_
  refine to_aload_n (pc := 59) X dX11_addPart_59 rfl ?_
  refine to_iload_n (pc := 60) X dX11_addPart_60 rfl ?_
  refine to_iload (pc := 61) X dX11_addPart_61 ?_
  refine cvX11_inBin (pc := 63) X wm_RX11_216 (by decide) dX11_addPart_63 ?_
  exact okX11_addPart_66 X hr
def bkX11_addPart_37 (P : Nat → tc_B) (q : tc_Q) : tc_B := tb_iload 5 <| tb_aload 0 <| tb_callV 0 3 9 RX11_cuts <| bkX11_addPart_43 P q
theorem okX11_addPart_37 {Z : tc_Z} {q : tc_Q} (X : tc_Cx ({ frames := 2, cells := 0, slots := 0, locals := 54 } : Room) cX11_addPart 6 RX11 Z) (hr : tc_Rt 3 cX11_addPart 6 Z q) : tc_Ok 6 Z 37 (bkX11_addPart_37 (tc_At 6 Z) q) := by
  unfold bkX11_addPart_37
  refine to_iload (pc := 37) X dX11_addPart_37 ?_
  refine to_aload_n (pc := 39) X dX11_addPart_39 rfl ?_
  refine cvX11_cuts (pc := 40) X wm_RX11_185 (by decide) dX11_addPart_40 ?_
  exact okX11_addPart_43 X hr
def bkX11_addPart_33 (P : Nat → tc_B) (q : tc_Q) : tc_B := tb_vret q
theorem okX11_addPart_33 {Z : tc_Z} {q : tc_Q} (X : tc_Cx ({ frames := 2, cells := 0, slots := 0, locals := 54 } : Room) cX11_addPart 6 RX11 Z) (hr : tc_Rt 3 cX11_addPart 6 Z q) : tc_Ok 6 Z 33 (bkX11_addPart_33 (tc_At 6 Z) q) := by
  unfold bkX11_addPart_33
  exact to_vret (pc := 33) hr dX11_addPart_33
def bkX11_addPart_0 (P : Nat → tc_B) (q : tc_Q) : tc_B := tb_aload 0 <| tb_getf 9 18 <| tb_i2l <| tb_lstore 3 <| tb_iload 1 <| tb_if_ne (tb_i 0 <| tb_istore 5 <| tb_cut (P 37) [0, 1, 2, 5]) <| tb_aload 0 <| tb_iload 2 <| tb_i2l <| tb_aload 0 <| tb_getf 9 19 <| tb_i2l <| tb_lmul <| tb_lload 3 <| tb_aload 0 <| tb_getf 9 19 <| tb_i2l <| tb_lsub <| tb_lmul <| tb_lload 3 <| tb_lload 3 <| tb_lmul <| tb_callV 2 5 9 RX11_adds <| bkX11_addPart_33 P q
theorem okX11_addPart_0 {Z : tc_Z} {q : tc_Q} (X : tc_Cx ({ frames := 2, cells := 0, slots := 0, locals := 54 } : Room) cX11_addPart 6 RX11 Z) (hr : tc_Rt 3 cX11_addPart 6 Z q) : tc_Ok 6 Z 0 (bkX11_addPart_0 (tc_At 6 Z) q) := by
  unfold bkX11_addPart_0
  refine to_aload_n (pc := 0) X dX11_addPart_0 rfl ?_
  refine gfX11_18 (pc := 1) X wf_RX11_188 dX11_addPart_1 ?_
  refine to_i2l (pc := 4) X dX11_addPart_4 ?_
  refine to_lstore_n (pc := 5) X dX11_addPart_5 rfl (by decide) ?_
  refine to_iload_n (pc := 6) X dX11_addPart_6 rfl ?_
  refine to_if_ne (pc := 7) (tgt := 34) X dX11_addPart_7 (by decide) ?_ ?_
  · refine to_iconst (pc := 34) X dX11_addPart_34 (by decide) ?_
    refine to_istore (pc := 35) X dX11_addPart_35 (by decide) ?_
    exact to_cut [0, 1, 2, 5] (fun _ _ _ h => h)
  refine to_aload_n (pc := 10) X dX11_addPart_10 rfl ?_
  refine to_iload_n (pc := 11) X dX11_addPart_11 rfl ?_
  refine to_i2l (pc := 12) X dX11_addPart_12 ?_
  refine to_aload_n (pc := 13) X dX11_addPart_13 rfl ?_
  refine gfX11_19 (pc := 14) X wf_RX11_191 dX11_addPart_14 ?_
  refine to_i2l (pc := 17) X dX11_addPart_17 ?_
  refine to_lmul (pc := 18) X dX11_addPart_18 ?_
  refine to_lload_n (pc := 19) X dX11_addPart_19 rfl ?_
  refine to_aload_n (pc := 20) X dX11_addPart_20 rfl ?_
  refine gfX11_19 (pc := 21) X wf_RX11_191 dX11_addPart_21 ?_
  refine to_i2l (pc := 24) X dX11_addPart_24 ?_
  refine to_lsub (pc := 25) X dX11_addPart_25 ?_
  refine to_lmul (pc := 26) X dX11_addPart_26 ?_
  refine to_lload_n (pc := 27) X dX11_addPart_27 rfl ?_
  refine to_lload_n (pc := 28) X dX11_addPart_28 rfl ?_
  refine to_lmul (pc := 29) X dX11_addPart_29 ?_
  refine cvX11_adds (pc := 30) X wm_RX11_213 (by decide) dX11_addPart_30 ?_
  exact okX11_addPart_33 X hr
def RX11_addPart (vs : List tc_V) (S : tc_S) (q : tc_Q) : Prop := ∀ P : Nat → tc_B, (∀ L K S, bkX11_addPart_37 P q L K S → P 37 L K S) → (∀ L K S, bkX11_addPart_84 P q L K S → P 84 L K S) → bkX11_addPart_0 P q (tc_num 0 vs) [] S
theorem metX11_addPart : tc_Met yX11_addPart (Cond.code yX11_addPart cX11_addPart 6 none) ({ frames := 2, cells := 0, slots := 0, locals := 54 } : Room) 3 6 RX11_addPart := tc_met (rk := 3) (by decide) ⟨rfl, rfl⟩ (fun Z q X hr vs S h => okX11_addPart_0 X hr _ _ _ (h (tc_At 6 Z) (okX11_addPart_37 X hr) (okX11_addPart_84 X hr)))
theorem cvX11_addPart {R : Room} {cc : ByteArray} {nL pc ix : Nat} {own : String} {Z : tc_Z} {k : tc_B} (X : tc_Cx R cc nL own Z) (h1 : Cond.methodLink own ix yX11_addPart ∈ tc_tb) (hR : 2 + 1 ≤ R.frames ∧ 8 + (6 + 11) + 54 ≤ R.locals) (hd : decode cc pc = .ok (.invokevirtual ix, 3)) (h : tc_Ok nL Z (pc + 3) k) : tc_Ok nL Z pc (tb_callV 2 6 9 RX11_addPart k) := to_callV X metX11_addPart rfl ⟨rfl, rfl⟩ hR h1 wi_X11_addPart wl_X11_addPart wn_RX11 wc_X11_addPart ⟨by decide +kernel, by decide +kernel, by decide +kernel, by decide +kernel⟩ hd h
def bkX11_noFraction_0 (P : Nat → tc_B) (q : tc_Q) : tc_B := tb_aload 0 <| tb_j 0 <| tb_putJ 9 10 <| tb_aload 0 <| tb_j 1 <| tb_putJ 9 11 <| tb_vret q
theorem okX11_noFraction_0 {Z : tc_Z} {q : tc_Q} (X : tc_Cx ({ frames := 0, cells := 0, slots := 0, locals := 0 } : Room) cX11_noFraction 1 RX11 Z) (hr : tc_Rt 3 cX11_noFraction 1 Z q) : tc_Ok 1 Z 0 (bkX11_noFraction_0 (tc_At 1 Z) q) := by
  unfold bkX11_noFraction_0
  refine to_aload_n (pc := 0) X dX11_noFraction_0 rfl ?_
  refine to_lconst (pc := 1) X dX11_noFraction_1 (by decide) ?_
  refine pfX11_10 (pc := 2) X wf_RX11_157 dX11_noFraction_2 ?_
  refine to_aload_n (pc := 5) X dX11_noFraction_5 rfl ?_
  refine to_lconst (pc := 6) X dX11_noFraction_6 (by decide) ?_
  refine pfX11_11 (pc := 7) X wf_RX11_28 dX11_noFraction_7 ?_
  exact to_vret (pc := 10) hr dX11_noFraction_10
def RX11_noFraction (vs : List tc_V) (S : tc_S) (q : tc_Q) : Prop := ∀ P : Nat → tc_B, bkX11_noFraction_0 P q (tc_num 0 vs) [] S
theorem metX11_noFraction : tc_Met yX11_noFraction (Cond.code yX11_noFraction cX11_noFraction 1 none) ({ frames := 0, cells := 0, slots := 0, locals := 0 } : Room) 3 1 RX11_noFraction := tc_met (rk := 3) (by decide) ⟨rfl, rfl⟩ (fun Z q X hr vs S h => okX11_noFraction_0 X hr _ _ _ (h (tc_At 1 Z)))
theorem cvX11_noFraction {R : Room} {cc : ByteArray} {nL pc ix : Nat} {own : String} {Z : tc_Z} {k : tc_B} (X : tc_Cx R cc nL own Z) (h1 : Cond.methodLink own ix yX11_noFraction ∈ tc_tb) (hR : 0 + 1 ≤ R.frames ∧ 8 + (1 + 11) + 0 ≤ R.locals) (hd : decode cc pc = .ok (.invokevirtual ix, 3)) (h : tc_Ok nL Z (pc + 3) k) : tc_Ok nL Z pc (tb_callV 0 1 9 RX11_noFraction k) := to_callV X metX11_noFraction rfl ⟨rfl, rfl⟩ hR h1 wi_X11_noFraction wl_X11_noFraction wn_RX11 wc_X11_noFraction ⟨by decide +kernel, by decide +kernel, by decide +kernel, by decide +kernel⟩ hd h
def bkX11_split_95 (P : Nat → tc_B) (q : tc_Q) : tc_B := tb_jret q
theorem okX11_split_95 {Z : tc_Z} {q : tc_Q} (X : tc_Cx ({ frames := 3, cells := 0, slots := 0, locals := 79 } : Room) cX11_split 4 RX11 Z) (hr : tc_Rt 2 cX11_split 4 Z q) : tc_Ok 4 Z 95 (bkX11_split_95 (tc_At 4 Z) q) := by
  unfold bkX11_split_95
  exact to_jret (pc := 95) hr dX11_split_95
def bkX11_split_90 (P : Nat → tc_B) (q : tc_Q) : tc_B := tb_aload 0 <| tb_iload 3 <| tb_callV 1 2 9 RX11_part <| bkX11_split_95 P q
theorem okX11_split_90 {Z : tc_Z} {q : tc_Q} (X : tc_Cx ({ frames := 3, cells := 0, slots := 0, locals := 79 } : Room) cX11_split 4 RX11 Z) (hr : tc_Rt 2 cX11_split 4 Z q) : tc_Ok 4 Z 90 (bkX11_split_90 (tc_At 4 Z) q) := by
  unfold bkX11_split_90
  refine to_aload_n (pc := 90) X dX11_split_90 rfl ?_
  refine to_iload_n (pc := 91) X dX11_split_91 rfl ?_
  refine cvX11_part (pc := 92) X wm_RX11_173 (by decide) dX11_split_92 ?_
  exact okX11_split_95 X hr
def bkX11_split_84 (P : Nat → tc_B) (q : tc_Q) : tc_B := tb_aload 0 <| tb_i 4 <| tb_i (-1) <| tb_callV 2 6 9 RX11_addPart <| tb_cut (P 90) [0, 3]
theorem okX11_split_84 {Z : tc_Z} {q : tc_Q} (X : tc_Cx ({ frames := 3, cells := 0, slots := 0, locals := 79 } : Room) cX11_split 4 RX11 Z) (hr : tc_Rt 2 cX11_split 4 Z q) : tc_Ok 4 Z 84 (bkX11_split_84 (tc_At 4 Z) q) := by
  unfold bkX11_split_84
  refine to_aload_n (pc := 84) X dX11_split_84 rfl ?_
  refine to_iconst (pc := 85) X dX11_split_85 (by decide) ?_
  refine to_iconst (pc := 86) X dX11_split_86 (by decide) ?_
  refine cvX11_addPart (pc := 87) X wm_RX11_226 (by decide) dX11_split_87 ?_
  exact to_cut [0, 3] (fun _ _ _ h => h)
def bkX11_split_78 (P : Nat → tc_B) (q : tc_Q) : tc_B := tb_aload 0 <| tb_i 3 <| tb_i 1 <| tb_callV 2 6 9 RX11_addPart <| bkX11_split_84 P q
theorem okX11_split_78 {Z : tc_Z} {q : tc_Q} (X : tc_Cx ({ frames := 3, cells := 0, slots := 0, locals := 79 } : Room) cX11_split 4 RX11 Z) (hr : tc_Rt 2 cX11_split 4 Z q) : tc_Ok 4 Z 78 (bkX11_split_78 (tc_At 4 Z) q) := by
  unfold bkX11_split_78
  refine to_aload_n (pc := 78) X dX11_split_78 rfl ?_
  refine to_iconst (pc := 79) X dX11_split_79 (by decide) ?_
  refine to_iconst (pc := 80) X dX11_split_80 (by decide) ?_
  refine cvX11_addPart (pc := 81) X wm_RX11_226 (by decide) dX11_split_81 ?_
  exact okX11_split_84 X hr
def bkX11_split_72 (P : Nat → tc_B) (q : tc_Q) : tc_B := tb_aload 0 <| tb_i 2 <| tb_i 1 <| tb_callV 2 6 9 RX11_addPart <| bkX11_split_78 P q
theorem okX11_split_72 {Z : tc_Z} {q : tc_Q} (X : tc_Cx ({ frames := 3, cells := 0, slots := 0, locals := 79 } : Room) cX11_split 4 RX11 Z) (hr : tc_Rt 2 cX11_split 4 Z q) : tc_Ok 4 Z 72 (bkX11_split_72 (tc_At 4 Z) q) := by
  unfold bkX11_split_72
  refine to_aload_n (pc := 72) X dX11_split_72 rfl ?_
  refine to_iconst (pc := 73) X dX11_split_73 (by decide) ?_
  refine to_iconst (pc := 74) X dX11_split_74 (by decide) ?_
  refine cvX11_addPart (pc := 75) X wm_RX11_226 (by decide) dX11_split_75 ?_
  exact okX11_split_78 X hr
def bkX11_split_66 (P : Nat → tc_B) (q : tc_Q) : tc_B := tb_aload 0 <| tb_i 1 <| tb_i (-1) <| tb_callV 2 6 9 RX11_addPart <| bkX11_split_72 P q
theorem okX11_split_66 {Z : tc_Z} {q : tc_Q} (X : tc_Cx ({ frames := 3, cells := 0, slots := 0, locals := 79 } : Room) cX11_split 4 RX11 Z) (hr : tc_Rt 2 cX11_split 4 Z q) : tc_Ok 4 Z 66 (bkX11_split_66 (tc_At 4 Z) q) := by
  unfold bkX11_split_66
  refine to_aload_n (pc := 66) X dX11_split_66 rfl ?_
  refine to_iconst (pc := 67) X dX11_split_67 (by decide) ?_
  refine to_iconst (pc := 68) X dX11_split_68 (by decide) ?_
  refine cvX11_addPart (pc := 69) X wm_RX11_226 (by decide) dX11_split_69 ?_
  exact okX11_split_72 X hr
def bkX11_split_57 (P : Nat → tc_B) (q : tc_Q) : tc_B := tb_cut (P 90) [0, 3]
theorem okX11_split_57 {Z : tc_Z} {q : tc_Q} (X : tc_Cx ({ frames := 3, cells := 0, slots := 0, locals := 79 } : Room) cX11_split 4 RX11 Z) (hr : tc_Rt 2 cX11_split 4 Z q) : tc_Ok 4 Z 57 (bkX11_split_57 (tc_At 4 Z) q) := by
  unfold bkX11_split_57
  refine to_goto (pc := 57) (tgt := 90) X dX11_split_57 (by decide) ?_
  exact to_cut [0, 3] (fun _ _ _ h => h)
def bkX11_split_46 (P : Nat → tc_B) (q : tc_Q) : tc_B := tb_iload 2 <| tb_i 5 <| tb_icmp_ge (tb_aload 0 <| tb_i 0 <| tb_i 1 <| tb_callV 2 6 9 RX11_addPart <| bkX11_split_66 P q) <| tb_aload 0 <| tb_iload 2 <| tb_i 1 <| tb_callV 2 6 9 RX11_addPart <| bkX11_split_57 P q
theorem okX11_split_46 {Z : tc_Z} {q : tc_Q} (X : tc_Cx ({ frames := 3, cells := 0, slots := 0, locals := 79 } : Room) cX11_split 4 RX11 Z) (hr : tc_Rt 2 cX11_split 4 Z q) : tc_Ok 4 Z 46 (bkX11_split_46 (tc_At 4 Z) q) := by
  unfold bkX11_split_46
  refine to_iload_n (pc := 46) X dX11_split_46 rfl ?_
  refine to_iconst (pc := 47) X dX11_split_47 (by decide) ?_
  refine to_icmp_ge (pc := 48) (tgt := 60) X dX11_split_48 (by decide) ?_ ?_
  · refine to_aload_n (pc := 60) X dX11_split_60 rfl ?_
    refine to_iconst (pc := 61) X dX11_split_61 (by decide) ?_
    refine to_iconst (pc := 62) X dX11_split_62 (by decide) ?_
    refine cvX11_addPart (pc := 63) X wm_RX11_226 (by decide) dX11_split_63 ?_
    exact okX11_split_66 X hr
  refine to_aload_n (pc := 51) X dX11_split_51 rfl ?_
  refine to_iload_n (pc := 52) X dX11_split_52 rfl ?_
  refine to_iconst (pc := 53) X dX11_split_53 (by decide) ?_
  refine cvX11_addPart (pc := 54) X wm_RX11_226 (by decide) dX11_split_54 ?_
  exact okX11_split_57 X hr
def bkX11_split_42 (P : Nat → tc_B) (q : tc_Q) : tc_B := tb_aload 0 <| tb_callV 0 1 9 RX11_noFraction <| bkX11_split_46 P q
theorem okX11_split_42 {Z : tc_Z} {q : tc_Q} (X : tc_Cx ({ frames := 3, cells := 0, slots := 0, locals := 79 } : Room) cX11_split 4 RX11 Z) (hr : tc_Rt 2 cX11_split 4 Z q) : tc_Ok 4 Z 42 (bkX11_split_42 (tc_At 4 Z) q) := by
  unfold bkX11_split_42
  refine to_aload_n (pc := 42) X dX11_split_42 rfl ?_
  refine cvX11_noFraction (pc := 43) X wm_RX11_223 (by decide) dX11_split_43 ?_
  exact okX11_split_46 X hr
def bkX11_split_30 (P : Nat → tc_B) (q : tc_Q) : tc_B := tb_if_ne (tb_aload 0 <| tb_iload 1 <| tb_callV 1 6 9 RX11_counts <| bkX11_split_42 P q) <| tb_j (-9223372036854775808) <| tb_jret q
theorem okX11_split_30 {Z : tc_Z} {q : tc_Q} (X : tc_Cx ({ frames := 3, cells := 0, slots := 0, locals := 79 } : Room) cX11_split 4 RX11 Z) (hr : tc_Rt 2 cX11_split 4 Z q) : tc_Ok 4 Z 30 (bkX11_split_30 (tc_At 4 Z) q) := by
  unfold bkX11_split_30
  refine to_if_ne (pc := 30) (tgt := 37) X dX11_split_30 (by decide) ?_ ?_
  · refine to_aload_n (pc := 37) X dX11_split_37 rfl ?_
    refine to_iload_n (pc := 38) X dX11_split_38 rfl ?_
    refine cvX11_counts (pc := 39) X wm_RX11_197 (by decide) dX11_split_39 ?_
    exact okX11_split_42 X hr
  refine to_ldc2 (pc := 33) X wj_RX11_167 dX11_split_33 ?_
  exact to_jret (pc := 36) hr dX11_split_36
def bkX11_split_22 (P : Nat → tc_B) (q : tc_Q) : tc_B := tb_if_eq (tb_j (-9223372036854775808) <| tb_jret q) <| tb_aload 0 <| tb_iload 1 <| tb_callV 1 4 9 RX11_cases <| bkX11_split_30 P q
theorem okX11_split_22 {Z : tc_Z} {q : tc_Q} (X : tc_Cx ({ frames := 3, cells := 0, slots := 0, locals := 79 } : Room) cX11_split 4 RX11 Z) (hr : tc_Rt 2 cX11_split 4 Z q) : tc_Ok 4 Z 22 (bkX11_split_22 (tc_At 4 Z) q) := by
  unfold bkX11_split_22
  refine to_if_eq (pc := 22) (tgt := 33) X dX11_split_22 (by decide) ?_ ?_
  · refine to_ldc2 (pc := 33) X wj_RX11_167 dX11_split_33 ?_
    exact to_jret (pc := 36) hr dX11_split_36
  refine to_aload_n (pc := 25) X dX11_split_25 rfl ?_
  refine to_iload_n (pc := 26) X dX11_split_26 rfl ?_
  refine cvX11_cases (pc := 27) X wm_RX11_164 (by decide) dX11_split_27 ?_
  exact okX11_split_30 X hr
def bkX11_split_13 (P : Nat → tc_B) (q : tc_Q) : tc_B := tb_if_eq (tb_j (-9223372036854775808) <| tb_jret q) <| tb_iload 3 <| tb_i 0 <| tb_i 1 <| tb_callS 3 3 RX11_within <| bkX11_split_22 P q
theorem okX11_split_13 {Z : tc_Z} {q : tc_Q} (X : tc_Cx ({ frames := 3, cells := 0, slots := 0, locals := 79 } : Room) cX11_split 4 RX11 Z) (hr : tc_Rt 2 cX11_split 4 Z q) : tc_Ok 4 Z 13 (bkX11_split_13 (tc_At 4 Z) q) := by
  unfold bkX11_split_13
  refine to_if_eq (pc := 13) (tgt := 33) X dX11_split_13 (by decide) ?_ ?_
  · refine to_ldc2 (pc := 33) X wj_RX11_167 dX11_split_33 ?_
    exact to_jret (pc := 36) hr dX11_split_36
  refine to_iload_n (pc := 16) X dX11_split_16 rfl ?_
  refine to_iconst (pc := 17) X dX11_split_17 (by decide) ?_
  refine to_iconst (pc := 18) X dX11_split_18 (by decide) ?_
  refine cvX11_within (pc := 19) X wm_RX11_66 (by decide) dX11_split_19 ?_
  exact okX11_split_22 X hr
def bkX11_split_4 (P : Nat → tc_B) (q : tc_Q) : tc_B := tb_if_eq (tb_j (-9223372036854775808) <| tb_jret q) <| tb_iload 2 <| tb_i 0 <| tb_i 5 <| tb_callS 3 3 RX11_within <| bkX11_split_13 P q
theorem okX11_split_4 {Z : tc_Z} {q : tc_Q} (X : tc_Cx ({ frames := 3, cells := 0, slots := 0, locals := 79 } : Room) cX11_split 4 RX11 Z) (hr : tc_Rt 2 cX11_split 4 Z q) : tc_Ok 4 Z 4 (bkX11_split_4 (tc_At 4 Z) q) := by
  unfold bkX11_split_4
  refine to_if_eq (pc := 4) (tgt := 33) X dX11_split_4 (by decide) ?_ ?_
  · refine to_ldc2 (pc := 33) X wj_RX11_167 dX11_split_33 ?_
    exact to_jret (pc := 36) hr dX11_split_36
  refine to_iload_n (pc := 7) X dX11_split_7 rfl ?_
  refine to_iconst (pc := 8) X dX11_split_8 (by decide) ?_
  refine to_iconst (pc := 9) X dX11_split_9 (by decide) ?_
  refine cvX11_within (pc := 10) X wm_RX11_66 (by decide) dX11_split_10 ?_
  exact okX11_split_13 X hr
def bkX11_split_0 (P : Nat → tc_B) (q : tc_Q) : tc_B := tb_iload 1 <| tb_callS 1 1 RX11_isAny <| bkX11_split_4 P q
theorem okX11_split_0 {Z : tc_Z} {q : tc_Q} (X : tc_Cx ({ frames := 3, cells := 0, slots := 0, locals := 79 } : Room) cX11_split 4 RX11 Z) (hr : tc_Rt 2 cX11_split 4 Z q) : tc_Ok 4 Z 0 (bkX11_split_0 (tc_At 4 Z) q) := by
  unfold bkX11_split_0
  refine to_iload_n (pc := 0) X dX11_split_0 rfl ?_
  refine cvX11_isAny (pc := 1) X wm_RX11_81 (by decide) dX11_split_1 ?_
  exact okX11_split_4 X hr
def RX11_split (vs : List tc_V) (S : tc_S) (q : tc_Q) : Prop := ∀ P : Nat → tc_B, (∀ L K S, bkX11_split_90 P q L K S → P 90 L K S) → bkX11_split_0 P q (tc_num 0 vs) [] S
theorem metX11_split : tc_Met yX11_split (Cond.code yX11_split cX11_split 4 (some .long)) ({ frames := 3, cells := 0, slots := 0, locals := 79 } : Room) 2 4 RX11_split := tc_met (rk := 2) (by decide) ⟨rfl, rfl⟩ (fun Z q X hr vs S h => okX11_split_0 X hr _ _ _ (h (tc_At 4 Z) (okX11_split_90 X hr)))
theorem cvX11_split {R : Room} {cc : ByteArray} {nL pc ix : Nat} {own : String} {Z : tc_Z} {k : tc_B} (X : tc_Cx R cc nL own Z) (h1 : Cond.methodLink own ix yX11_split ∈ tc_tb) (hR : 3 + 1 ≤ R.frames ∧ 8 + (4 + 11) + 79 ≤ R.locals) (hd : decode cc pc = .ok (.invokevirtual ix, 3)) (h : tc_Ok nL Z (pc + 3) k) : tc_Ok nL Z pc (tb_callV 3 4 9 RX11_split k) := to_callV X metX11_split rfl ⟨rfl, rfl⟩ hR h1 wi_X11_split wl_X11_split wn_RX11 wc_X11_split ⟨by decide +kernel, by decide +kernel, by decide +kernel, by decide +kernel⟩ hd h
def bkX11_joined_111 (P : Nat → tc_B) (q : tc_Q) : tc_B := tb_jret q
theorem okX11_joined_111 {Z : tc_Z} {q : tc_Q} (X : tc_Cx ({ frames := 3, cells := 0, slots := 0, locals := 79 } : Room) cX11_joined 4 RX11 Z) (hr : tc_Rt 2 cX11_joined 4 Z q) : tc_Ok 4 Z 111 (bkX11_joined_111 (tc_At 4 Z) q) := by
  unfold bkX11_joined_111
  exact to_jret (pc := 111) hr dX11_joined_111
def bkX11_joined_106 (P : Nat → tc_B) (q : tc_Q) : tc_B := tb_aload 0 <| tb_iload 3 <| tb_callV 1 2 9 RX11_part <| bkX11_joined_111 P q
theorem okX11_joined_106 {Z : tc_Z} {q : tc_Q} (X : tc_Cx ({ frames := 3, cells := 0, slots := 0, locals := 79 } : Room) cX11_joined 4 RX11 Z) (hr : tc_Rt 2 cX11_joined 4 Z q) : tc_Ok 4 Z 106 (bkX11_joined_106 (tc_At 4 Z) q) := by
  unfold bkX11_joined_106
  refine to_aload_n (pc := 106) X dX11_joined_106 rfl ?_
  refine to_iload_n (pc := 107) X dX11_joined_107 rfl ?_
  refine cvX11_part (pc := 108) X wm_RX11_173 (by decide) dX11_joined_108 ?_
  exact okX11_joined_111 X hr
def bkX11_joined_57 (P : Nat → tc_B) (q : tc_Q) : tc_B := tb_aload 0 <| tb_getf 9 13 <| tb_iload 2 <| tb_dup2 <| tb_iald <| tb_aload 0 <| tb_getf 9 13 <| tb_iload 2 <| tb_i 1 <| tb_iadd <| tb_iald <| tb_iadd <| tb_iast <| tb_aload 0 <| tb_getf 9 14 <| tb_iload 2 <| tb_dup2 <| tb_iald <| tb_aload 0 <| tb_getf 9 14 <| tb_iload 2 <| tb_i 1 <| tb_iadd <| tb_iald <| tb_iadd <| tb_iast <| tb_aload 0 <| tb_getf 9 13 <| tb_iload 2 <| tb_i 1 <| tb_iadd <| tb_i 0 <| tb_iast <| tb_aload 0 <| tb_i 1 <| tb_i (-1) <| tb_callV 2 6 9 RX11_addPart <| bkX11_joined_106 P q
theorem okX11_joined_57 {Z : tc_Z} {q : tc_Q} (X : tc_Cx ({ frames := 3, cells := 0, slots := 0, locals := 79 } : Room) cX11_joined 4 RX11 Z) (hr : tc_Rt 2 cX11_joined 4 Z q) : tc_Ok 4 Z 57 (bkX11_joined_57 (tc_At 4 Z) q) := by
  unfold bkX11_joined_57
  refine to_aload_n (pc := 57) X dX11_joined_57 rfl ?_
  refine gfX11_13 (pc := 58) X wf_RX11_36 dX11_joined_58 ?_
  refine to_iload_n (pc := 61) X dX11_joined_61 rfl ?_
  refine to_dup2 (pc := 62) X dX11_joined_62 ?_
  refine to_iald (pc := 63) X dX11_joined_63 ?_
  refine to_aload_n (pc := 64) X dX11_joined_64 rfl ?_
  refine gfX11_13 (pc := 65) X wf_RX11_36 dX11_joined_65 ?_
  refine to_iload_n (pc := 68) X dX11_joined_68 rfl ?_
  refine to_iconst (pc := 69) X dX11_joined_69 (by decide) ?_
  refine to_iadd (pc := 70) X dX11_joined_70 ?_
  refine to_iald (pc := 71) X dX11_joined_71 ?_
  refine to_iadd (pc := 72) X dX11_joined_72 ?_
  refine to_iast (pc := 73) X dX11_joined_73 ?_
  refine to_aload_n (pc := 74) X dX11_joined_74 rfl ?_
  refine gfX11_14 (pc := 75) X wf_RX11_39 dX11_joined_75 ?_
  refine to_iload_n (pc := 78) X dX11_joined_78 rfl ?_
  refine to_dup2 (pc := 79) X dX11_joined_79 ?_
  refine to_iald (pc := 80) X dX11_joined_80 ?_
  refine to_aload_n (pc := 81) X dX11_joined_81 rfl ?_
  refine gfX11_14 (pc := 82) X wf_RX11_39 dX11_joined_82 ?_
  refine to_iload_n (pc := 85) X dX11_joined_85 rfl ?_
  refine to_iconst (pc := 86) X dX11_joined_86 (by decide) ?_
  refine to_iadd (pc := 87) X dX11_joined_87 ?_
  refine to_iald (pc := 88) X dX11_joined_88 ?_
  refine to_iadd (pc := 89) X dX11_joined_89 ?_
  refine to_iast (pc := 90) X dX11_joined_90 ?_
  refine to_aload_n (pc := 91) X dX11_joined_91 rfl ?_
  refine gfX11_13 (pc := 92) X wf_RX11_36 dX11_joined_92 ?_
  refine to_iload_n (pc := 95) X dX11_joined_95 rfl ?_
  refine to_iconst (pc := 96) X dX11_joined_96 (by decide) ?_
  refine to_iadd (pc := 97) X dX11_joined_97 ?_
  refine to_iconst (pc := 98) X dX11_joined_98 (by decide) ?_
  refine to_iast (pc := 99) X dX11_joined_99 ?_
  refine to_aload_n (pc := 100) X dX11_joined_100 rfl ?_
  refine to_iconst (pc := 101) X dX11_joined_101 (by decide) ?_
  refine to_iconst (pc := 102) X dX11_joined_102 (by decide) ?_
  refine cvX11_addPart (pc := 103) X wm_RX11_226 (by decide) dX11_joined_103 ?_
  exact okX11_joined_106 X hr
def bkX11_joined_51 (P : Nat → tc_B) (q : tc_Q) : tc_B := tb_aload 0 <| tb_i 1 <| tb_i 1 <| tb_callV 2 6 9 RX11_addPart <| bkX11_joined_57 P q
theorem okX11_joined_51 {Z : tc_Z} {q : tc_Q} (X : tc_Cx ({ frames := 3, cells := 0, slots := 0, locals := 79 } : Room) cX11_joined 4 RX11 Z) (hr : tc_Rt 2 cX11_joined 4 Z q) : tc_Ok 4 Z 51 (bkX11_joined_51 (tc_At 4 Z) q) := by
  unfold bkX11_joined_51
  refine to_aload_n (pc := 51) X dX11_joined_51 rfl ?_
  refine to_iconst (pc := 52) X dX11_joined_52 (by decide) ?_
  refine to_iconst (pc := 53) X dX11_joined_53 (by decide) ?_
  refine cvX11_addPart (pc := 54) X wm_RX11_226 (by decide) dX11_joined_54 ?_
  exact okX11_joined_57 X hr
def bkX11_joined_47 (P : Nat → tc_B) (q : tc_Q) : tc_B := tb_aload 0 <| tb_callV 0 1 9 RX11_noFraction <| bkX11_joined_51 P q
theorem okX11_joined_47 {Z : tc_Z} {q : tc_Q} (X : tc_Cx ({ frames := 3, cells := 0, slots := 0, locals := 79 } : Room) cX11_joined 4 RX11 Z) (hr : tc_Rt 2 cX11_joined 4 Z q) : tc_Ok 4 Z 47 (bkX11_joined_47 (tc_At 4 Z) q) := by
  unfold bkX11_joined_47
  refine to_aload_n (pc := 47) X dX11_joined_47 rfl ?_
  refine cvX11_noFraction (pc := 48) X wm_RX11_223 (by decide) dX11_joined_48 ?_
  exact okX11_joined_51 X hr
def bkX11_joined_35 (P : Nat → tc_B) (q : tc_Q) : tc_B := tb_if_ne (tb_aload 0 <| tb_iload 1 <| tb_callV 1 6 9 RX11_counts <| bkX11_joined_47 P q) <| tb_j (-9223372036854775808) <| tb_jret q
theorem okX11_joined_35 {Z : tc_Z} {q : tc_Q} (X : tc_Cx ({ frames := 3, cells := 0, slots := 0, locals := 79 } : Room) cX11_joined 4 RX11 Z) (hr : tc_Rt 2 cX11_joined 4 Z q) : tc_Ok 4 Z 35 (bkX11_joined_35 (tc_At 4 Z) q) := by
  unfold bkX11_joined_35
  refine to_if_ne (pc := 35) (tgt := 42) X dX11_joined_35 (by decide) ?_ ?_
  · refine to_aload_n (pc := 42) X dX11_joined_42 rfl ?_
    refine to_iload_n (pc := 43) X dX11_joined_43 rfl ?_
    refine cvX11_counts (pc := 44) X wm_RX11_197 (by decide) dX11_joined_44 ?_
    exact okX11_joined_47 X hr
  refine to_ldc2 (pc := 38) X wj_RX11_167 dX11_joined_38 ?_
  exact to_jret (pc := 41) hr dX11_joined_41
def bkX11_joined_27 (P : Nat → tc_B) (q : tc_Q) : tc_B := tb_if_eq (tb_j (-9223372036854775808) <| tb_jret q) <| tb_aload 0 <| tb_iload 1 <| tb_callV 1 4 9 RX11_cases <| bkX11_joined_35 P q
theorem okX11_joined_27 {Z : tc_Z} {q : tc_Q} (X : tc_Cx ({ frames := 3, cells := 0, slots := 0, locals := 79 } : Room) cX11_joined 4 RX11 Z) (hr : tc_Rt 2 cX11_joined 4 Z q) : tc_Ok 4 Z 27 (bkX11_joined_27 (tc_At 4 Z) q) := by
  unfold bkX11_joined_27
  refine to_if_eq (pc := 27) (tgt := 38) X dX11_joined_27 (by decide) ?_ ?_
  · refine to_ldc2 (pc := 38) X wj_RX11_167 dX11_joined_38 ?_
    exact to_jret (pc := 41) hr dX11_joined_41
  refine to_aload_n (pc := 30) X dX11_joined_30 rfl ?_
  refine to_iload_n (pc := 31) X dX11_joined_31 rfl ?_
  refine cvX11_cases (pc := 32) X wm_RX11_164 (by decide) dX11_joined_32 ?_
  exact okX11_joined_35 X hr
def bkX11_joined_18 (P : Nat → tc_B) (q : tc_Q) : tc_B := tb_if_eq (tb_j (-9223372036854775808) <| tb_jret q) <| tb_iload 3 <| tb_i 0 <| tb_i 1 <| tb_callS 3 3 RX11_within <| bkX11_joined_27 P q
theorem okX11_joined_18 {Z : tc_Z} {q : tc_Q} (X : tc_Cx ({ frames := 3, cells := 0, slots := 0, locals := 79 } : Room) cX11_joined 4 RX11 Z) (hr : tc_Rt 2 cX11_joined 4 Z q) : tc_Ok 4 Z 18 (bkX11_joined_18 (tc_At 4 Z) q) := by
  unfold bkX11_joined_18
  refine to_if_eq (pc := 18) (tgt := 38) X dX11_joined_18 (by decide) ?_ ?_
  · refine to_ldc2 (pc := 38) X wj_RX11_167 dX11_joined_38 ?_
    exact to_jret (pc := 41) hr dX11_joined_41
  refine to_iload_n (pc := 21) X dX11_joined_21 rfl ?_
  refine to_iconst (pc := 22) X dX11_joined_22 (by decide) ?_
  refine to_iconst (pc := 23) X dX11_joined_23 (by decide) ?_
  refine cvX11_within (pc := 24) X wm_RX11_66 (by decide) dX11_joined_24 ?_
  exact okX11_joined_27 X hr
def bkX11_joined_13 (P : Nat → tc_B) (q : tc_Q) : tc_B := tb_i 1 <| tb_isub <| tb_callS 3 3 RX11_within <| bkX11_joined_18 P q
theorem okX11_joined_13 {Z : tc_Z} {q : tc_Q} (X : tc_Cx ({ frames := 3, cells := 0, slots := 0, locals := 79 } : Room) cX11_joined 4 RX11 Z) (hr : tc_Rt 2 cX11_joined 4 Z q) : tc_Ok 4 Z 13 (bkX11_joined_13 (tc_At 4 Z) q) := by
  unfold bkX11_joined_13
  refine to_iconst (pc := 13) X dX11_joined_13 (by decide) ?_
  refine to_isub (pc := 14) X dX11_joined_14 ?_
  refine cvX11_within (pc := 15) X wm_RX11_66 (by decide) dX11_joined_15 ?_
  exact okX11_joined_18 X hr
def bkX11_joined_4 (P : Nat → tc_B) (q : tc_Q) : tc_B := tb_if_eq (tb_j (-9223372036854775808) <| tb_jret q) <| tb_iload 2 <| tb_i 0 <| tb_aload 0 <| tb_callV 0 3 9 RX11_cuts <| bkX11_joined_13 P q
theorem okX11_joined_4 {Z : tc_Z} {q : tc_Q} (X : tc_Cx ({ frames := 3, cells := 0, slots := 0, locals := 79 } : Room) cX11_joined 4 RX11 Z) (hr : tc_Rt 2 cX11_joined 4 Z q) : tc_Ok 4 Z 4 (bkX11_joined_4 (tc_At 4 Z) q) := by
  unfold bkX11_joined_4
  refine to_if_eq (pc := 4) (tgt := 38) X dX11_joined_4 (by decide) ?_ ?_
  · refine to_ldc2 (pc := 38) X wj_RX11_167 dX11_joined_38 ?_
    exact to_jret (pc := 41) hr dX11_joined_41
  refine to_iload_n (pc := 7) X dX11_joined_7 rfl ?_
  refine to_iconst (pc := 8) X dX11_joined_8 (by decide) ?_
  refine to_aload_n (pc := 9) X dX11_joined_9 rfl ?_
  refine cvX11_cuts (pc := 10) X wm_RX11_185 (by decide) dX11_joined_10 ?_
  exact okX11_joined_13 X hr
def bkX11_joined_0 (P : Nat → tc_B) (q : tc_Q) : tc_B := tb_iload 1 <| tb_callS 1 1 RX11_isAny <| bkX11_joined_4 P q
theorem okX11_joined_0 {Z : tc_Z} {q : tc_Q} (X : tc_Cx ({ frames := 3, cells := 0, slots := 0, locals := 79 } : Room) cX11_joined 4 RX11 Z) (hr : tc_Rt 2 cX11_joined 4 Z q) : tc_Ok 4 Z 0 (bkX11_joined_0 (tc_At 4 Z) q) := by
  unfold bkX11_joined_0
  refine to_iload_n (pc := 0) X dX11_joined_0 rfl ?_
  refine cvX11_isAny (pc := 1) X wm_RX11_81 (by decide) dX11_joined_1 ?_
  exact okX11_joined_4 X hr
def RX11_joined (vs : List tc_V) (S : tc_S) (q : tc_Q) : Prop := ∀ P : Nat → tc_B, bkX11_joined_0 P q (tc_num 0 vs) [] S
theorem metX11_joined : tc_Met yX11_joined (Cond.code yX11_joined cX11_joined 4 (some .long)) ({ frames := 3, cells := 0, slots := 0, locals := 79 } : Room) 2 4 RX11_joined := tc_met (rk := 2) (by decide) ⟨rfl, rfl⟩ (fun Z q X hr vs S h => okX11_joined_0 X hr _ _ _ (h (tc_At 4 Z)))
theorem cvX11_joined {R : Room} {cc : ByteArray} {nL pc ix : Nat} {own : String} {Z : tc_Z} {k : tc_B} (X : tc_Cx R cc nL own Z) (h1 : Cond.methodLink own ix yX11_joined ∈ tc_tb) (hR : 3 + 1 ≤ R.frames ∧ 8 + (4 + 11) + 79 ≤ R.locals) (hd : decode cc pc = .ok (.invokevirtual ix, 3)) (h : tc_Ok nL Z (pc + 3) k) : tc_Ok nL Z pc (tb_callV 3 4 9 RX11_joined k) := to_callV X metX11_joined rfl ⟨rfl, rfl⟩ hR h1 wi_X11_joined wl_X11_joined wn_RX11 wc_X11_joined ⟨by decide +kernel, by decide +kernel, by decide +kernel, by decide +kernel⟩ hd h
def bkX11_area_169 (P : Nat → tc_B) (q : tc_Q) : tc_B := tb_jret q
theorem okX11_area_169 {Z : tc_Z} {q : tc_Q} (X : tc_Cx ({ frames := 2, cells := 0, slots := 0, locals := 48 } : Room) cX11_area 8 RX11 Z) (hr : tc_Rt 2 cX11_area 8 Z q) : tc_Ok 8 Z 169 (bkX11_area_169 (tc_At 8 Z) q) := by
  unfold bkX11_area_169
  exact to_jret (pc := 169) hr dX11_area_169
def bkX11_area_164 (P : Nat → tc_B) (q : tc_Q) : tc_B := tb_aload 0 <| tb_iload 2 <| tb_callV 1 2 9 RX11_part <| bkX11_area_169 P q
theorem okX11_area_164 {Z : tc_Z} {q : tc_Q} (X : tc_Cx ({ frames := 2, cells := 0, slots := 0, locals := 48 } : Room) cX11_area 8 RX11 Z) (hr : tc_Rt 2 cX11_area 8 Z q) : tc_Ok 8 Z 164 (bkX11_area_164 (tc_At 8 Z) q) := by
  unfold bkX11_area_164
  refine to_aload_n (pc := 164) X dX11_area_164 rfl ?_
  refine to_iload_n (pc := 165) X dX11_area_165 rfl ?_
  refine cvX11_part (pc := 166) X wm_RX11_173 (by decide) dX11_area_166 ?_
  exact okX11_area_169 X hr
def bkX11_area_131 (P : Nat → tc_B) (q : tc_Q) : tc_B := tb_iinc 6 1 <| tb_cut (P 38) [0, 1, 2, 3, 4, 5, 6]
theorem okX11_area_131 {Z : tc_Z} {q : tc_Q} (X : tc_Cx ({ frames := 2, cells := 0, slots := 0, locals := 48 } : Room) cX11_area 8 RX11 Z) (hr : tc_Rt 2 cX11_area 8 Z q) : tc_Ok 8 Z 131 (bkX11_area_131 (tc_At 8 Z) q) := by
  unfold bkX11_area_131
  refine to_iinc (pc := 131) X dX11_area_131 (by decide) (by decide) ?_
  refine to_goto (pc := 134) (tgt := 38) X dX11_area_134 (by decide) ?_
  exact to_cut [0, 1, 2, 3, 4, 5, 6] (fun _ _ _ h => h)
def bkX11_area_128 (P : Nat → tc_B) (q : tc_Q) : tc_B := tb_iadd <| tb_istore 4 <| tb_cut (P 131) [0, 1, 2, 3, 4, 5, 6]
theorem okX11_area_128 {Z : tc_Z} {q : tc_Q} (X : tc_Cx ({ frames := 2, cells := 0, slots := 0, locals := 48 } : Room) cX11_area 8 RX11 Z) (hr : tc_Rt 2 cX11_area 8 Z q) : tc_Ok 8 Z 128 (bkX11_area_128 (tc_At 8 Z) q) := by
  unfold bkX11_area_128
  refine to_iadd (pc := 128) X dX11_area_128 ?_
  refine to_istore (pc := 129) X dX11_area_129 (by decide) ?_
  exact to_cut [0, 1, 2, 3, 4, 5, 6] (fun _ _ _ h => h)
def bkX11_area_101 (P : Nat → tc_B) (q : tc_Q) : tc_B := tb_isub <| tb_istore 7 <| tb_iinc 3 1 <| tb_iload 4 <| tb_iload 7 <| tb_if_le (tb_iload 7 <| tb_if_ne (tb_i 0 <| tb_cut (P 128) [0, 1, 2, 3, 5, 6]) <| tb_i 1 <| tb_cut (P 128) [0, 1, 2, 3, 5, 6]) <| tb_i 2 <| tb_cut (P 128) [0, 1, 2, 3, 5, 6]
theorem okX11_area_101 {Z : tc_Z} {q : tc_Q} (X : tc_Cx ({ frames := 2, cells := 0, slots := 0, locals := 48 } : Room) cX11_area 8 RX11 Z) (hr : tc_Rt 2 cX11_area 8 Z q) : tc_Ok 8 Z 101 (bkX11_area_101 (tc_At 8 Z) q) := by
  unfold bkX11_area_101
  refine to_isub (pc := 101) X dX11_area_101 ?_
  refine to_istore (pc := 102) X dX11_area_102 (by decide) ?_
  refine to_iinc (pc := 104) X dX11_area_104 (by decide) (by decide) ?_
  refine to_iload (pc := 107) X dX11_area_107 ?_
  refine to_iload (pc := 109) X dX11_area_109 ?_
  refine to_if_le (pc := 111) (tgt := 118) X dX11_area_111 (by decide) ?_ ?_
  · refine to_iload (pc := 118) X dX11_area_118 ?_
    refine to_if_ne (pc := 120) (tgt := 127) X dX11_area_120 (by decide) ?_ ?_
    · refine to_iconst (pc := 127) X dX11_area_127 (by decide) ?_
      exact to_cut [0, 1, 2, 3, 5, 6] (fun _ _ _ h => h)
    refine to_iconst (pc := 123) X dX11_area_123 (by decide) ?_
    refine to_goto (pc := 124) (tgt := 128) X dX11_area_124 (by decide) ?_
    exact to_cut [0, 1, 2, 3, 5, 6] (fun _ _ _ h => h)
  refine to_iconst (pc := 114) X dX11_area_114 (by decide) ?_
  refine to_goto (pc := 115) (tgt := 128) X dX11_area_115 (by decide) ?_
  exact to_cut [0, 1, 2, 3, 5, 6] (fun _ _ _ h => h)
def bkX11_area_94 (P : Nat → tc_B) (q : tc_Q) : tc_B := tb_aload 0 <| tb_iload 1 <| tb_iload 6 <| tb_callV 2 7 9 RX11_toldBy <| bkX11_area_101 P q
theorem okX11_area_94 {Z : tc_Z} {q : tc_Q} (X : tc_Cx ({ frames := 2, cells := 0, slots := 0, locals := 48 } : Room) cX11_area 8 RX11 Z) (hr : tc_Rt 2 cX11_area 8 Z q) : tc_Ok 8 Z 94 (bkX11_area_94 (tc_At 8 Z) q) := by
  unfold bkX11_area_94
  refine to_aload_n (pc := 94) X dX11_area_94 rfl ?_
  refine to_iload_n (pc := 95) X dX11_area_95 rfl ?_
  refine to_iload (pc := 96) X dX11_area_96 ?_
  refine cvX11_toldBy (pc := 98) X wm_RX11_84 (by decide) dX11_area_98 ?_
  exact okX11_area_101 X hr
def bkX11_area_62 (P : Nat → tc_B) (q : tc_Q) : tc_B := tb_if_eq (tb_cut (P 131) [0, 1, 2, 3, 4, 5, 6]) <| tb_aload 0 <| tb_getf 9 1 <| tb_iload 5 <| tb_iald <| tb_i 1 <| tb_icmp_ne (tb_cut (P 131) [0, 1, 2, 3, 4, 5, 6]) <| tb_aload 0 <| tb_getf 9 1 <| tb_iload 6 <| tb_iald <| tb_i 2 <| tb_icmp_ne (tb_cut (P 131) [0, 1, 2, 3, 4, 5, 6]) <| tb_aload 0 <| tb_iload 1 <| tb_iload 5 <| tb_callV 2 7 9 RX11_toldBy <| bkX11_area_94 P q
theorem okX11_area_62 {Z : tc_Z} {q : tc_Q} (X : tc_Cx ({ frames := 2, cells := 0, slots := 0, locals := 48 } : Room) cX11_area 8 RX11 Z) (hr : tc_Rt 2 cX11_area 8 Z q) : tc_Ok 8 Z 62 (bkX11_area_62 (tc_At 8 Z) q) := by
  unfold bkX11_area_62
  refine to_if_eq (pc := 62) (tgt := 131) X dX11_area_62 (by decide) ?_ ?_
  · exact to_cut [0, 1, 2, 3, 4, 5, 6] (fun _ _ _ h => h)
  refine to_aload_n (pc := 65) X dX11_area_65 rfl ?_
  refine gfX11_1 (pc := 66) X wf_RX11_13 dX11_area_66 ?_
  refine to_iload (pc := 69) X dX11_area_69 ?_
  refine to_iald (pc := 71) X dX11_area_71 ?_
  refine to_iconst (pc := 72) X dX11_area_72 (by decide) ?_
  refine to_icmp_ne (pc := 73) (tgt := 131) X dX11_area_73 (by decide) ?_ ?_
  · exact to_cut [0, 1, 2, 3, 4, 5, 6] (fun _ _ _ h => h)
  refine to_aload_n (pc := 76) X dX11_area_76 rfl ?_
  refine gfX11_1 (pc := 77) X wf_RX11_13 dX11_area_77 ?_
  refine to_iload (pc := 80) X dX11_area_80 ?_
  refine to_iald (pc := 82) X dX11_area_82 ?_
  refine to_iconst (pc := 83) X dX11_area_83 (by decide) ?_
  refine to_icmp_ne (pc := 84) (tgt := 131) X dX11_area_84 (by decide) ?_ ?_
  · exact to_cut [0, 1, 2, 3, 4, 5, 6] (fun _ _ _ h => h)
  refine to_aload_n (pc := 87) X dX11_area_87 rfl ?_
  refine to_iload_n (pc := 88) X dX11_area_88 rfl ?_
  refine to_iload (pc := 89) X dX11_area_89 ?_
  refine cvX11_toldBy (pc := 91) X wm_RX11_84 (by decide) dX11_area_91 ?_
  exact okX11_area_94 X hr
def bkX11_area_52 (P : Nat → tc_B) (q : tc_Q) : tc_B := tb_if_eq (tb_cut (P 131) [0, 1, 2, 3, 4, 5, 6]) <| tb_aload 0 <| tb_iload 1 <| tb_iload 6 <| tb_callV 2 3 9 RX11_isCase <| bkX11_area_62 P q
theorem okX11_area_52 {Z : tc_Z} {q : tc_Q} (X : tc_Cx ({ frames := 2, cells := 0, slots := 0, locals := 48 } : Room) cX11_area 8 RX11 Z) (hr : tc_Rt 2 cX11_area 8 Z q) : tc_Ok 8 Z 52 (bkX11_area_52 (tc_At 8 Z) q) := by
  unfold bkX11_area_52
  refine to_if_eq (pc := 52) (tgt := 131) X dX11_area_52 (by decide) ?_ ?_
  · exact to_cut [0, 1, 2, 3, 4, 5, 6] (fun _ _ _ h => h)
  refine to_aload_n (pc := 55) X dX11_area_55 rfl ?_
  refine to_iload_n (pc := 56) X dX11_area_56 rfl ?_
  refine to_iload (pc := 57) X dX11_area_57 ?_
  refine cvX11_isCase (pc := 59) X wm_RX11_153 (by decide) dX11_area_59 ?_
  exact okX11_area_62 X hr
def bkX11_area_38 (P : Nat → tc_B) (q : tc_Q) : tc_B := tb_iload 6 <| tb_i 40 <| tb_icmp_ge (tb_iinc 5 1 <| tb_cut (P 28) [0, 1, 2, 3, 4, 5]) <| tb_aload 0 <| tb_iload 1 <| tb_iload 5 <| tb_callV 2 3 9 RX11_isCase <| bkX11_area_52 P q
theorem okX11_area_38 {Z : tc_Z} {q : tc_Q} (X : tc_Cx ({ frames := 2, cells := 0, slots := 0, locals := 48 } : Room) cX11_area 8 RX11 Z) (hr : tc_Rt 2 cX11_area 8 Z q) : tc_Ok 8 Z 38 (bkX11_area_38 (tc_At 8 Z) q) := by
  unfold bkX11_area_38
  refine to_iload (pc := 38) X dX11_area_38 ?_
  refine to_bipush (pc := 40) X dX11_area_40 (by decide) ?_
  refine to_icmp_ge (pc := 42) (tgt := 137) X dX11_area_42 (by decide) ?_ ?_
  · refine to_iinc (pc := 137) X dX11_area_137 (by decide) (by decide) ?_
    refine to_goto (pc := 140) (tgt := 28) X dX11_area_140 (by decide) ?_
    exact to_cut [0, 1, 2, 3, 4, 5] (fun _ _ _ h => h)
  refine to_aload_n (pc := 45) X dX11_area_45 rfl ?_
  refine to_iload_n (pc := 46) X dX11_area_46 rfl ?_
  refine to_iload (pc := 47) X dX11_area_47 ?_
  refine cvX11_isCase (pc := 49) X wm_RX11_153 (by decide) dX11_area_49 ?_
  exact okX11_area_52 X hr
def bkX11_area_28 (P : Nat → tc_B) (q : tc_Q) : tc_B := tb_iload 5 <| tb_i 40 <| tb_icmp_ge (tb_iload 3 <| tb_if_ne (tb_aload 0 <| tb_iload 4 <| tb_i2l <| tb_j 2 <| tb_iload 3 <| tb_i2l <| tb_lmul <| tb_callV 2 11 9 RX11_becomesFraction <| bkX11_area_164 P q) <| tb_j (-9223372036854775808) <| tb_jret q) <| tb_i 0 <| tb_istore 6 <| tb_cut (P 38) [0, 1, 2, 3, 4, 5, 6]
theorem okX11_area_28 {Z : tc_Z} {q : tc_Q} (X : tc_Cx ({ frames := 2, cells := 0, slots := 0, locals := 48 } : Room) cX11_area 8 RX11 Z) (hr : tc_Rt 2 cX11_area 8 Z q) : tc_Ok 8 Z 28 (bkX11_area_28 (tc_At 8 Z) q) := by
  unfold bkX11_area_28
  refine to_iload (pc := 28) X dX11_area_28 ?_
  refine to_bipush (pc := 30) X dX11_area_30 (by decide) ?_
  refine to_icmp_ge (pc := 32) (tgt := 143) X dX11_area_32 (by decide) ?_ ?_
  · refine to_iload_n (pc := 143) X dX11_area_143 rfl ?_
    refine to_if_ne (pc := 144) (tgt := 151) X dX11_area_144 (by decide) ?_ ?_
    · refine to_aload_n (pc := 151) X dX11_area_151 rfl ?_
      refine to_iload (pc := 152) X dX11_area_152 ?_
      refine to_i2l (pc := 154) X dX11_area_154 ?_
      refine to_ldc2 (pc := 155) X wj_RX11_209 dX11_area_155 ?_
      refine to_iload_n (pc := 158) X dX11_area_158 rfl ?_
      refine to_i2l (pc := 159) X dX11_area_159 ?_
      refine to_lmul (pc := 160) X dX11_area_160 ?_
      refine cvX11_becomesFraction (pc := 161) X wm_RX11_160 (by decide) dX11_area_161 ?_
      exact okX11_area_164 X hr
    refine to_ldc2 (pc := 147) X wj_RX11_167 dX11_area_147 ?_
    exact to_jret (pc := 150) hr dX11_area_150
  refine to_iconst (pc := 35) X dX11_area_35 (by decide) ?_
  refine to_istore (pc := 36) X dX11_area_36 (by decide) ?_
  exact to_cut [0, 1, 2, 3, 4, 5, 6] (fun _ _ _ h => h)
def bkX11_area_13 (P : Nat → tc_B) (q : tc_Q) : tc_B := tb_if_ne (tb_i 0 <| tb_istore 3 <| tb_i 0 <| tb_istore 4 <| tb_i 0 <| tb_istore 5 <| tb_cut (P 28) [0, 1, 2, 3, 4, 5]) <| tb_j (-9223372036854775808) <| tb_jret q
theorem okX11_area_13 {Z : tc_Z} {q : tc_Q} (X : tc_Cx ({ frames := 2, cells := 0, slots := 0, locals := 48 } : Room) cX11_area 8 RX11 Z) (hr : tc_Rt 2 cX11_area 8 Z q) : tc_Ok 8 Z 13 (bkX11_area_13 (tc_At 8 Z) q) := by
  unfold bkX11_area_13
  refine to_if_ne (pc := 13) (tgt := 20) X dX11_area_13 (by decide) ?_ ?_
  · refine to_iconst (pc := 20) X dX11_area_20 (by decide) ?_
    refine to_istore_n (pc := 21) X dX11_area_21 rfl (by decide) ?_
    refine to_iconst (pc := 22) X dX11_area_22 (by decide) ?_
    refine to_istore (pc := 23) X dX11_area_23 (by decide) ?_
    refine to_iconst (pc := 25) X dX11_area_25 (by decide) ?_
    refine to_istore (pc := 26) X dX11_area_26 (by decide) ?_
    exact to_cut [0, 1, 2, 3, 4, 5] (fun _ _ _ h => h)
  refine to_ldc2 (pc := 16) X wj_RX11_167 dX11_area_16 ?_
  exact to_jret (pc := 19) hr dX11_area_19
def bkX11_area_4 (P : Nat → tc_B) (q : tc_Q) : tc_B := tb_if_eq (tb_j (-9223372036854775808) <| tb_jret q) <| tb_iload 2 <| tb_i 0 <| tb_i 1 <| tb_callS 3 3 RX11_within <| bkX11_area_13 P q
theorem okX11_area_4 {Z : tc_Z} {q : tc_Q} (X : tc_Cx ({ frames := 2, cells := 0, slots := 0, locals := 48 } : Room) cX11_area 8 RX11 Z) (hr : tc_Rt 2 cX11_area 8 Z q) : tc_Ok 8 Z 4 (bkX11_area_4 (tc_At 8 Z) q) := by
  unfold bkX11_area_4
  refine to_if_eq (pc := 4) (tgt := 16) X dX11_area_4 (by decide) ?_ ?_
  · refine to_ldc2 (pc := 16) X wj_RX11_167 dX11_area_16 ?_
    exact to_jret (pc := 19) hr dX11_area_19
  refine to_iload_n (pc := 7) X dX11_area_7 rfl ?_
  refine to_iconst (pc := 8) X dX11_area_8 (by decide) ?_
  refine to_iconst (pc := 9) X dX11_area_9 (by decide) ?_
  refine cvX11_within (pc := 10) X wm_RX11_66 (by decide) dX11_area_10 ?_
  exact okX11_area_13 X hr
def bkX11_area_0 (P : Nat → tc_B) (q : tc_Q) : tc_B := tb_iload 1 <| tb_callS 1 1 RX11_isAny <| bkX11_area_4 P q
theorem okX11_area_0 {Z : tc_Z} {q : tc_Q} (X : tc_Cx ({ frames := 2, cells := 0, slots := 0, locals := 48 } : Room) cX11_area 8 RX11 Z) (hr : tc_Rt 2 cX11_area 8 Z q) : tc_Ok 8 Z 0 (bkX11_area_0 (tc_At 8 Z) q) := by
  unfold bkX11_area_0
  refine to_iload_n (pc := 0) X dX11_area_0 rfl ?_
  refine cvX11_isAny (pc := 1) X wm_RX11_81 (by decide) dX11_area_1 ?_
  exact okX11_area_4 X hr
def RX11_area (vs : List tc_V) (S : tc_S) (q : tc_Q) : Prop := ∀ P : Nat → tc_B, (∀ L K S, bkX11_area_28 P q L K S → P 28 L K S) → (∀ L K S, bkX11_area_38 P q L K S → P 38 L K S) → (∀ L K S, bkX11_area_128 P q L K S → P 128 L K S) → (∀ L K S, bkX11_area_131 P q L K S → P 131 L K S) → bkX11_area_0 P q (tc_num 0 vs) [] S
theorem metX11_area : tc_Met yX11_area (Cond.code yX11_area cX11_area 8 (some .long)) ({ frames := 2, cells := 0, slots := 0, locals := 48 } : Room) 2 8 RX11_area := tc_met (rk := 2) (by decide) ⟨rfl, rfl⟩ (fun Z q X hr vs S h => okX11_area_0 X hr _ _ _ (h (tc_At 8 Z) (okX11_area_28 X hr) (okX11_area_38 X hr) (okX11_area_128 X hr) (okX11_area_131 X hr)))
theorem cvX11_area {R : Room} {cc : ByteArray} {nL pc ix : Nat} {own : String} {Z : tc_Z} {k : tc_B} (X : tc_Cx R cc nL own Z) (h1 : Cond.methodLink own ix yX11_area ∈ tc_tb) (hR : 2 + 1 ≤ R.frames ∧ 8 + (8 + 11) + 48 ≤ R.locals) (hd : decode cc pc = .ok (.invokevirtual ix, 3)) (h : tc_Ok nL Z (pc + 3) k) : tc_Ok nL Z pc (tb_callV 2 8 9 RX11_area k) := to_callV X metX11_area rfl ⟨rfl, rfl⟩ hR h1 wi_X11_area wl_X11_area wn_RX11 wc_X11_area ⟨by decide +kernel, by decide +kernel, by decide +kernel, by decide +kernel⟩ hd h
def bkX11_isFlat_0 (P : Nat → tc_B) (q : tc_Q) : tc_B := tb_aload 0 <| tb_getf 9 24 <| tb_iload 1 <| tb_i 1 <| tb_iadd <| tb_iald <| tb_aload 0 <| tb_getf 9 23 <| tb_iload 1 <| tb_iald <| tb_imul <| tb_aload 0 <| tb_getf 9 24 <| tb_iload 1 <| tb_iald <| tb_aload 0 <| tb_getf 9 23 <| tb_iload 1 <| tb_i 1 <| tb_iadd <| tb_iald <| tb_imul <| tb_icmp_gt (tb_i 0 <| tb_zret q) <| tb_i 1 <| tb_zret q
theorem okX11_isFlat_0 {Z : tc_Z} {q : tc_Q} (X : tc_Cx ({ frames := 0, cells := 0, slots := 0, locals := 0 } : Room) cX11_isFlat 2 RX11 Z) (hr : tc_Rt 1 cX11_isFlat 2 Z q) : tc_Ok 2 Z 0 (bkX11_isFlat_0 (tc_At 2 Z) q) := by
  unfold bkX11_isFlat_0
  refine to_aload_n (pc := 0) X dX11_isFlat_0 rfl ?_
  refine gfX11_24 (pc := 1) X wf_RX11_60 dX11_isFlat_1 ?_
  refine to_iload_n (pc := 4) X dX11_isFlat_4 rfl ?_
  refine to_iconst (pc := 5) X dX11_isFlat_5 (by decide) ?_
  refine to_iadd (pc := 6) X dX11_isFlat_6 ?_
  refine to_iald (pc := 7) X dX11_isFlat_7 ?_
  refine to_aload_n (pc := 8) X dX11_isFlat_8 rfl ?_
  refine gfX11_23 (pc := 9) X wf_RX11_57 dX11_isFlat_9 ?_
  refine to_iload_n (pc := 12) X dX11_isFlat_12 rfl ?_
  refine to_iald (pc := 13) X dX11_isFlat_13 ?_
  refine to_imul (pc := 14) X dX11_isFlat_14 ?_
  refine to_aload_n (pc := 15) X dX11_isFlat_15 rfl ?_
  refine gfX11_24 (pc := 16) X wf_RX11_60 dX11_isFlat_16 ?_
  refine to_iload_n (pc := 19) X dX11_isFlat_19 rfl ?_
  refine to_iald (pc := 20) X dX11_isFlat_20 ?_
  refine to_aload_n (pc := 21) X dX11_isFlat_21 rfl ?_
  refine gfX11_23 (pc := 22) X wf_RX11_57 dX11_isFlat_22 ?_
  refine to_iload_n (pc := 25) X dX11_isFlat_25 rfl ?_
  refine to_iconst (pc := 26) X dX11_isFlat_26 (by decide) ?_
  refine to_iadd (pc := 27) X dX11_isFlat_27 ?_
  refine to_iald (pc := 28) X dX11_isFlat_28 ?_
  refine to_imul (pc := 29) X dX11_isFlat_29 ?_
  refine to_icmp_gt (pc := 30) (tgt := 37) X dX11_isFlat_30 (by decide) ?_ ?_
  · refine to_iconst (pc := 37) X dX11_isFlat_37 (by decide) ?_
    exact to_zret (pc := 38) hr dX11_isFlat_38
  refine to_iconst (pc := 33) X dX11_isFlat_33 (by decide) ?_
  refine to_goto (pc := 34) (tgt := 38) X dX11_isFlat_34 (by decide) ?_
  exact to_zret (pc := 38) hr dX11_isFlat_38
def RX11_isFlat (vs : List tc_V) (S : tc_S) (q : tc_Q) : Prop := ∀ P : Nat → tc_B, bkX11_isFlat_0 P q (tc_num 0 vs) [] S
theorem metX11_isFlat : tc_Met yX11_isFlat (Cond.code yX11_isFlat cX11_isFlat 2 (some .boolean)) ({ frames := 0, cells := 0, slots := 0, locals := 0 } : Room) 1 2 RX11_isFlat := tc_met (rk := 1) (by decide) ⟨rfl, rfl⟩ (fun Z q X hr vs S h => okX11_isFlat_0 X hr _ _ _ (h (tc_At 2 Z)))
theorem cvX11_isFlat {R : Room} {cc : ByteArray} {nL pc ix : Nat} {own : String} {Z : tc_Z} {k : tc_B} (X : tc_Cx R cc nL own Z) (h1 : Cond.methodLink own ix yX11_isFlat ∈ tc_tb) (hR : 0 + 1 ≤ R.frames ∧ 8 + (2 + 11) + 0 ≤ R.locals) (hd : decode cc pc = .ok (.invokevirtual ix, 3)) (h : tc_Ok nL Z (pc + 3) k) : tc_Ok nL Z pc (tb_callV 1 2 9 RX11_isFlat k) := to_callV X metX11_isFlat rfl ⟨rfl, rfl⟩ hR h1 wi_X11_isFlat wl_X11_isFlat wn_RX11 wc_X11_isFlat ⟨by decide +kernel, by decide +kernel, by decide +kernel, by decide +kernel⟩ hd h
def bkX11_joinsLast_0 (P : Nat → tc_B) (q : tc_Q) : tc_B := tb_aload 0 <| tb_getf 9 20 <| tb_i 2 <| tb_isub <| tb_istore 1 <| tb_aload 0 <| tb_getf 9 22 <| tb_iload 1 <| tb_aload 0 <| tb_getf 9 22 <| tb_iload 1 <| tb_i 1 <| tb_iadd <| tb_iald <| tb_iast <| tb_aload 0 <| tb_getf 9 23 <| tb_iload 1 <| tb_dup2 <| tb_iald <| tb_aload 0 <| tb_getf 9 23 <| tb_iload 1 <| tb_i 1 <| tb_iadd <| tb_iald <| tb_iadd <| tb_iast <| tb_aload 0 <| tb_getf 9 24 <| tb_iload 1 <| tb_dup2 <| tb_iald <| tb_aload 0 <| tb_getf 9 24 <| tb_iload 1 <| tb_i 1 <| tb_iadd <| tb_iald <| tb_iadd <| tb_iast <| tb_aload 0 <| tb_dup <| tb_getf 9 20 <| tb_i 1 <| tb_isub <| tb_putI 9 20 <| tb_vret q
theorem okX11_joinsLast_0 {Z : tc_Z} {q : tc_Q} (X : tc_Cx ({ frames := 0, cells := 0, slots := 0, locals := 0 } : Room) cX11_joinsLast 2 RX11 Z) (hr : tc_Rt 3 cX11_joinsLast 2 Z q) : tc_Ok 2 Z 0 (bkX11_joinsLast_0 (tc_At 2 Z) q) := by
  unfold bkX11_joinsLast_0
  refine to_aload_n (pc := 0) X dX11_joinsLast_0 rfl ?_
  refine gfX11_20 (pc := 1) X wf_RX11_230 dX11_joinsLast_1 ?_
  refine to_iconst (pc := 4) X dX11_joinsLast_4 (by decide) ?_
  refine to_isub (pc := 5) X dX11_joinsLast_5 ?_
  refine to_istore_n (pc := 6) X dX11_joinsLast_6 rfl (by decide) ?_
  refine to_aload_n (pc := 7) X dX11_joinsLast_7 rfl ?_
  refine gfX11_22 (pc := 8) X wf_RX11_54 dX11_joinsLast_8 ?_
  refine to_iload_n (pc := 11) X dX11_joinsLast_11 rfl ?_
  refine to_aload_n (pc := 12) X dX11_joinsLast_12 rfl ?_
  refine gfX11_22 (pc := 13) X wf_RX11_54 dX11_joinsLast_13 ?_
  refine to_iload_n (pc := 16) X dX11_joinsLast_16 rfl ?_
  refine to_iconst (pc := 17) X dX11_joinsLast_17 (by decide) ?_
  refine to_iadd (pc := 18) X dX11_joinsLast_18 ?_
  refine to_iald (pc := 19) X dX11_joinsLast_19 ?_
  refine to_iast (pc := 20) X dX11_joinsLast_20 ?_
  refine to_aload_n (pc := 21) X dX11_joinsLast_21 rfl ?_
  refine gfX11_23 (pc := 22) X wf_RX11_57 dX11_joinsLast_22 ?_
  refine to_iload_n (pc := 25) X dX11_joinsLast_25 rfl ?_
  refine to_dup2 (pc := 26) X dX11_joinsLast_26 ?_
  refine to_iald (pc := 27) X dX11_joinsLast_27 ?_
  refine to_aload_n (pc := 28) X dX11_joinsLast_28 rfl ?_
  refine gfX11_23 (pc := 29) X wf_RX11_57 dX11_joinsLast_29 ?_
  refine to_iload_n (pc := 32) X dX11_joinsLast_32 rfl ?_
  refine to_iconst (pc := 33) X dX11_joinsLast_33 (by decide) ?_
  refine to_iadd (pc := 34) X dX11_joinsLast_34 ?_
  refine to_iald (pc := 35) X dX11_joinsLast_35 ?_
  refine to_iadd (pc := 36) X dX11_joinsLast_36 ?_
  refine to_iast (pc := 37) X dX11_joinsLast_37 ?_
  refine to_aload_n (pc := 38) X dX11_joinsLast_38 rfl ?_
  refine gfX11_24 (pc := 39) X wf_RX11_60 dX11_joinsLast_39 ?_
  refine to_iload_n (pc := 42) X dX11_joinsLast_42 rfl ?_
  refine to_dup2 (pc := 43) X dX11_joinsLast_43 ?_
  refine to_iald (pc := 44) X dX11_joinsLast_44 ?_
  refine to_aload_n (pc := 45) X dX11_joinsLast_45 rfl ?_
  refine gfX11_24 (pc := 46) X wf_RX11_60 dX11_joinsLast_46 ?_
  refine to_iload_n (pc := 49) X dX11_joinsLast_49 rfl ?_
  refine to_iconst (pc := 50) X dX11_joinsLast_50 (by decide) ?_
  refine to_iadd (pc := 51) X dX11_joinsLast_51 ?_
  refine to_iald (pc := 52) X dX11_joinsLast_52 ?_
  refine to_iadd (pc := 53) X dX11_joinsLast_53 ?_
  refine to_iast (pc := 54) X dX11_joinsLast_54 ?_
  refine to_aload_n (pc := 55) X dX11_joinsLast_55 rfl ?_
  refine to_dup (pc := 56) X dX11_joinsLast_56 ?_
  refine gfX11_20 (pc := 57) X wf_RX11_230 dX11_joinsLast_57 ?_
  refine to_iconst (pc := 60) X dX11_joinsLast_60 (by decide) ?_
  refine to_isub (pc := 61) X dX11_joinsLast_61 ?_
  refine pfX11_20 (pc := 62) X wf_RX11_230 dX11_joinsLast_62 ?_
  exact to_vret (pc := 65) hr dX11_joinsLast_65
def RX11_joinsLast (vs : List tc_V) (S : tc_S) (q : tc_Q) : Prop := ∀ P : Nat → tc_B, bkX11_joinsLast_0 P q (tc_num 0 vs) [] S
theorem metX11_joinsLast : tc_Met yX11_joinsLast (Cond.code yX11_joinsLast cX11_joinsLast 2 none) ({ frames := 0, cells := 0, slots := 0, locals := 0 } : Room) 3 2 RX11_joinsLast := tc_met (rk := 3) (by decide) ⟨rfl, rfl⟩ (fun Z q X hr vs S h => okX11_joinsLast_0 X hr _ _ _ (h (tc_At 2 Z)))
theorem cvX11_joinsLast {R : Room} {cc : ByteArray} {nL pc ix : Nat} {own : String} {Z : tc_Z} {k : tc_B} (X : tc_Cx R cc nL own Z) (h1 : Cond.methodLink own ix yX11_joinsLast ∈ tc_tb) (hR : 0 + 1 ≤ R.frames ∧ 8 + (2 + 11) + 0 ≤ R.locals) (hd : decode cc pc = .ok (.invokevirtual ix, 3)) (h : tc_Ok nL Z (pc + 3) k) : tc_Ok nL Z pc (tb_callV 0 2 9 RX11_joinsLast k) := to_callV X metX11_joinsLast rfl ⟨rfl, rfl⟩ hR h1 wi_X11_joinsLast wl_X11_joinsLast wn_RX11 wc_X11_joinsLast ⟨by decide +kernel, by decide +kernel, by decide +kernel, by decide +kernel⟩ hd h
def bkX11_findPools_184 (P : Nat → tc_B) (q : tc_Q) : tc_B := tb_iinc 2 1 <| tb_cut (P 7) [0, 1, 2]
theorem okX11_findPools_184 {Z : tc_Z} {q : tc_Q} (X : tc_Cx ({ frames := 2, cells := 0, slots := 0, locals := 48 } : Room) cX11_findPools 7 RX11 Z) (hr : tc_Rt 3 cX11_findPools 7 Z q) : tc_Ok 7 Z 184 (bkX11_findPools_184 (tc_At 7 Z) q) := by
  unfold bkX11_findPools_184
  refine to_iinc (pc := 184) X dX11_findPools_184 (by decide) (by decide) ?_
  refine to_goto (pc := 187) (tgt := 7) X dX11_findPools_187 (by decide) ?_
  exact to_cut [0, 1, 2] (fun _ _ _ h => h)
def bkX11_findPools_181 (P : Nat → tc_B) (q : tc_Q) : tc_B := tb_cut (P 156) [0, 1, 2]
theorem okX11_findPools_181 {Z : tc_Z} {q : tc_Q} (X : tc_Cx ({ frames := 2, cells := 0, slots := 0, locals := 48 } : Room) cX11_findPools 7 RX11 Z) (hr : tc_Rt 3 cX11_findPools 7 Z q) : tc_Ok 7 Z 181 (bkX11_findPools_181 (tc_At 7 Z) q) := by
  unfold bkX11_findPools_181
  refine to_goto (pc := 181) (tgt := 156) X dX11_findPools_181 (by decide) ?_
  exact to_cut [0, 1, 2] (fun _ _ _ h => h)
def bkX11_findPools_174 (P : Nat → tc_B) (q : tc_Q) : tc_B := tb_if_eq (tb_cut (P 184) [0, 1, 2]) <| tb_aload 0 <| tb_callV 0 2 9 RX11_joinsLast <| bkX11_findPools_181 P q
theorem okX11_findPools_174 {Z : tc_Z} {q : tc_Q} (X : tc_Cx ({ frames := 2, cells := 0, slots := 0, locals := 48 } : Room) cX11_findPools 7 RX11 Z) (hr : tc_Rt 3 cX11_findPools 7 Z q) : tc_Ok 7 Z 174 (bkX11_findPools_174 (tc_At 7 Z) q) := by
  unfold bkX11_findPools_174
  refine to_if_eq (pc := 174) (tgt := 184) X dX11_findPools_174 (by decide) ?_ ?_
  · exact to_cut [0, 1, 2] (fun _ _ _ h => h)
  refine to_aload_n (pc := 177) X dX11_findPools_177 rfl ?_
  refine cvX11_joinsLast (pc := 178) X wm_RX11_236 (by decide) dX11_findPools_178 ?_
  exact okX11_findPools_181 X hr
def bkX11_findPools_156 (P : Nat → tc_B) (q : tc_Q) : tc_B := tb_aload 0 <| tb_getf 9 20 <| tb_i 1 <| tb_icmp_le (tb_cut (P 184) [0, 1, 2]) <| tb_aload 0 <| tb_aload 0 <| tb_getf 9 20 <| tb_i 2 <| tb_isub <| tb_callV 1 2 9 RX11_isFlat <| bkX11_findPools_174 P q
theorem okX11_findPools_156 {Z : tc_Z} {q : tc_Q} (X : tc_Cx ({ frames := 2, cells := 0, slots := 0, locals := 48 } : Room) cX11_findPools 7 RX11 Z) (hr : tc_Rt 3 cX11_findPools 7 Z q) : tc_Ok 7 Z 156 (bkX11_findPools_156 (tc_At 7 Z) q) := by
  unfold bkX11_findPools_156
  refine to_aload_n (pc := 156) X dX11_findPools_156 rfl ?_
  refine gfX11_20 (pc := 157) X wf_RX11_230 dX11_findPools_157 ?_
  refine to_iconst (pc := 160) X dX11_findPools_160 (by decide) ?_
  refine to_icmp_le (pc := 161) (tgt := 184) X dX11_findPools_161 (by decide) ?_ ?_
  · exact to_cut [0, 1, 2] (fun _ _ _ h => h)
  refine to_aload_n (pc := 164) X dX11_findPools_164 rfl ?_
  refine to_aload_n (pc := 165) X dX11_findPools_165 rfl ?_
  refine gfX11_20 (pc := 166) X wf_RX11_230 dX11_findPools_166 ?_
  refine to_iconst (pc := 169) X dX11_findPools_169 (by decide) ?_
  refine to_isub (pc := 170) X dX11_findPools_170 ?_
  refine cvX11_isFlat (pc := 171) X wm_RX11_233 (by decide) dX11_findPools_171 ?_
  exact okX11_findPools_174 X hr
def bkX11_findPools_92 (P : Nat → tc_B) (q : tc_Q) : tc_B := tb_iadd <| tb_istore 4 <| tb_iinc 5 1 <| tb_cut (P 21) [0, 1, 2, 3, 4, 5]
theorem okX11_findPools_92 {Z : tc_Z} {q : tc_Q} (X : tc_Cx ({ frames := 2, cells := 0, slots := 0, locals := 48 } : Room) cX11_findPools 7 RX11 Z) (hr : tc_Rt 3 cX11_findPools 7 Z q) : tc_Ok 7 Z 92 (bkX11_findPools_92 (tc_At 7 Z) q) := by
  unfold bkX11_findPools_92
  refine to_iadd (pc := 92) X dX11_findPools_92 ?_
  refine to_istore (pc := 93) X dX11_findPools_93 (by decide) ?_
  refine to_iinc (pc := 95) X dX11_findPools_95 (by decide) (by decide) ?_
  refine to_goto (pc := 98) (tgt := 21) X dX11_findPools_98 (by decide) ?_
  exact to_cut [0, 1, 2, 3, 4, 5] (fun _ _ _ h => h)
def bkX11_findPools_91 (P : Nat → tc_B) (q : tc_Q) : tc_B := tb_i 0 <| tb_cut (P 92) [0, 1, 2, 3, 5]
theorem okX11_findPools_91 {Z : tc_Z} {q : tc_Q} (X : tc_Cx ({ frames := 2, cells := 0, slots := 0, locals := 48 } : Room) cX11_findPools 7 RX11 Z) (hr : tc_Rt 3 cX11_findPools 7 Z q) : tc_Ok 7 Z 91 (bkX11_findPools_91 (tc_At 7 Z) q) := by
  unfold bkX11_findPools_91
  refine to_iconst (pc := 91) X dX11_findPools_91 (by decide) ?_
  exact to_cut [0, 1, 2, 3, 5] (fun _ _ _ h => h)
def bkX11_findPools_67 (P : Nat → tc_B) (q : tc_Q) : tc_B := tb_iadd <| tb_istore 3 <| tb_iload 4 <| tb_iload 6 <| tb_if_eq (tb_cut (P 91) [0, 1, 2, 3, 5]) <| tb_aload 0 <| tb_getf 9 1 <| tb_iload 5 <| tb_iald <| tb_i 1 <| tb_icmp_ne (tb_cut (P 91) [0, 1, 2, 3, 5]) <| tb_i 1 <| tb_cut (P 92) [0, 1, 2, 3, 5]
theorem okX11_findPools_67 {Z : tc_Z} {q : tc_Q} (X : tc_Cx ({ frames := 2, cells := 0, slots := 0, locals := 48 } : Room) cX11_findPools 7 RX11 Z) (hr : tc_Rt 3 cX11_findPools 7 Z q) : tc_Ok 7 Z 67 (bkX11_findPools_67 (tc_At 7 Z) q) := by
  unfold bkX11_findPools_67
  refine to_iadd (pc := 67) X dX11_findPools_67 ?_
  refine to_istore_n (pc := 68) X dX11_findPools_68 rfl (by decide) ?_
  refine to_iload (pc := 69) X dX11_findPools_69 ?_
  refine to_iload (pc := 71) X dX11_findPools_71 ?_
  refine to_if_eq (pc := 73) (tgt := 91) X dX11_findPools_73 (by decide) ?_ ?_
  · exact to_cut [0, 1, 2, 3, 5] (fun _ _ _ h => h)
  refine to_aload_n (pc := 76) X dX11_findPools_76 rfl ?_
  refine gfX11_1 (pc := 77) X wf_RX11_13 dX11_findPools_77 ?_
  refine to_iload (pc := 80) X dX11_findPools_80 ?_
  refine to_iald (pc := 82) X dX11_findPools_82 ?_
  refine to_iconst (pc := 83) X dX11_findPools_83 (by decide) ?_
  refine to_icmp_ne (pc := 84) (tgt := 91) X dX11_findPools_84 (by decide) ?_ ?_
  · exact to_cut [0, 1, 2, 3, 5] (fun _ _ _ h => h)
  refine to_iconst (pc := 87) X dX11_findPools_87 (by decide) ?_
  refine to_goto (pc := 88) (tgt := 92) X dX11_findPools_88 (by decide) ?_
  exact to_cut [0, 1, 2, 3, 5] (fun _ _ _ h => h)
def bkX11_findPools_54 (P : Nat → tc_B) (q : tc_Q) : tc_B := tb_istore 6 <| tb_iload 3 <| tb_iload 6 <| tb_if_eq (tb_i 0 <| tb_cut (P 67) [0, 1, 2, 4, 5, 6]) <| tb_i 1 <| tb_cut (P 67) [0, 1, 2, 4, 5, 6]
theorem okX11_findPools_54 {Z : tc_Z} {q : tc_Q} (X : tc_Cx ({ frames := 2, cells := 0, slots := 0, locals := 48 } : Room) cX11_findPools 7 RX11 Z) (hr : tc_Rt 3 cX11_findPools 7 Z q) : tc_Ok 7 Z 54 (bkX11_findPools_54 (tc_At 7 Z) q) := by
  unfold bkX11_findPools_54
  refine to_istore (pc := 54) X dX11_findPools_54 (by decide) ?_
  refine to_iload_n (pc := 56) X dX11_findPools_56 rfl ?_
  refine to_iload (pc := 57) X dX11_findPools_57 ?_
  refine to_if_eq (pc := 59) (tgt := 66) X dX11_findPools_59 (by decide) ?_ ?_
  · refine to_iconst (pc := 66) X dX11_findPools_66 (by decide) ?_
    exact to_cut [0, 1, 2, 4, 5, 6] (fun _ _ _ h => h)
  refine to_iconst (pc := 62) X dX11_findPools_62 (by decide) ?_
  refine to_goto (pc := 63) (tgt := 67) X dX11_findPools_63 (by decide) ?_
  exact to_cut [0, 1, 2, 4, 5, 6] (fun _ _ _ h => h)
def bkX11_findPools_53 (P : Nat → tc_B) (q : tc_Q) : tc_B := tb_i 0 <| tb_cut (P 54) [0, 1, 2, 3, 4, 5]
theorem okX11_findPools_53 {Z : tc_Z} {q : tc_Q} (X : tc_Cx ({ frames := 2, cells := 0, slots := 0, locals := 48 } : Room) cX11_findPools 7 RX11 Z) (hr : tc_Rt 3 cX11_findPools 7 Z q) : tc_Ok 7 Z 53 (bkX11_findPools_53 (tc_At 7 Z) q) := by
  unfold bkX11_findPools_53
  refine to_iconst (pc := 53) X dX11_findPools_53 (by decide) ?_
  exact to_cut [0, 1, 2, 3, 4, 5] (fun _ _ _ h => h)
def bkX11_findPools_45 (P : Nat → tc_B) (q : tc_Q) : tc_B := tb_iload 2 <| tb_icmp_ne (tb_cut (P 53) [0, 1, 2, 3, 4, 5]) <| tb_i 1 <| tb_cut (P 54) [0, 1, 2, 3, 4, 5]
theorem okX11_findPools_45 {Z : tc_Z} {q : tc_Q} (X : tc_Cx ({ frames := 2, cells := 0, slots := 0, locals := 48 } : Room) cX11_findPools 7 RX11 Z) (hr : tc_Rt 3 cX11_findPools 7 Z q) : tc_Ok 7 Z 45 (bkX11_findPools_45 (tc_At 7 Z) q) := by
  unfold bkX11_findPools_45
  refine to_iload_n (pc := 45) X dX11_findPools_45 rfl ?_
  refine to_icmp_ne (pc := 46) (tgt := 53) X dX11_findPools_46 (by decide) ?_ ?_
  · exact to_cut [0, 1, 2, 3, 4, 5] (fun _ _ _ h => h)
  refine to_iconst (pc := 49) X dX11_findPools_49 (by decide) ?_
  refine to_goto (pc := 50) (tgt := 54) X dX11_findPools_50 (by decide) ?_
  exact to_cut [0, 1, 2, 3, 4, 5] (fun _ _ _ h => h)
def bkX11_findPools_35 (P : Nat → tc_B) (q : tc_Q) : tc_B := tb_if_eq (tb_cut (P 53) [0, 1, 2, 3, 4, 5]) <| tb_aload 0 <| tb_iload 1 <| tb_iload 5 <| tb_callV 2 7 9 RX11_toldBy <| bkX11_findPools_45 P q
theorem okX11_findPools_35 {Z : tc_Z} {q : tc_Q} (X : tc_Cx ({ frames := 2, cells := 0, slots := 0, locals := 48 } : Room) cX11_findPools 7 RX11 Z) (hr : tc_Rt 3 cX11_findPools 7 Z q) : tc_Ok 7 Z 35 (bkX11_findPools_35 (tc_At 7 Z) q) := by
  unfold bkX11_findPools_35
  refine to_if_eq (pc := 35) (tgt := 53) X dX11_findPools_35 (by decide) ?_ ?_
  · exact to_cut [0, 1, 2, 3, 4, 5] (fun _ _ _ h => h)
  refine to_aload_n (pc := 38) X dX11_findPools_38 rfl ?_
  refine to_iload_n (pc := 39) X dX11_findPools_39 rfl ?_
  refine to_iload (pc := 40) X dX11_findPools_40 ?_
  refine cvX11_toldBy (pc := 42) X wm_RX11_84 (by decide) dX11_findPools_42 ?_
  exact okX11_findPools_45 X hr
def bkX11_findPools_21 (P : Nat → tc_B) (q : tc_Q) : tc_B := tb_iload 5 <| tb_i 40 <| tb_icmp_ge (tb_iload 3 <| tb_if_le (tb_cut (P 184) [0, 1, 2]) <| tb_aload 0 <| tb_getf 9 21 <| tb_aload 0 <| tb_getf 9 20 <| tb_iload 2 <| tb_iast <| tb_aload 0 <| tb_getf 9 22 <| tb_aload 0 <| tb_getf 9 20 <| tb_iload 2 <| tb_iast <| tb_aload 0 <| tb_getf 9 23 <| tb_aload 0 <| tb_getf 9 20 <| tb_iload 3 <| tb_iast <| tb_aload 0 <| tb_getf 9 24 <| tb_aload 0 <| tb_getf 9 20 <| tb_iload 4 <| tb_iast <| tb_aload 0 <| tb_dup <| tb_getf 9 20 <| tb_i 1 <| tb_iadd <| tb_putI 9 20 <| tb_cut (P 156) [0, 1, 2]) <| tb_aload 0 <| tb_iload 1 <| tb_iload 5 <| tb_callV 2 3 9 RX11_isCase <| bkX11_findPools_35 P q
theorem okX11_findPools_21 {Z : tc_Z} {q : tc_Q} (X : tc_Cx ({ frames := 2, cells := 0, slots := 0, locals := 48 } : Room) cX11_findPools 7 RX11 Z) (hr : tc_Rt 3 cX11_findPools 7 Z q) : tc_Ok 7 Z 21 (bkX11_findPools_21 (tc_At 7 Z) q) := by
  unfold bkX11_findPools_21
  refine to_iload (pc := 21) X dX11_findPools_21 ?_
  refine to_bipush (pc := 23) X dX11_findPools_23 (by decide) ?_
  refine to_icmp_ge (pc := 25) (tgt := 101) X dX11_findPools_25 (by decide) ?_ ?_
  · refine to_iload_n (pc := 101) X dX11_findPools_101 rfl ?_
    refine to_if_le (pc := 102) (tgt := 184) X dX11_findPools_102 (by decide) ?_ ?_
    · exact to_cut [0, 1, 2] (fun _ _ _ h => h)
    refine to_aload_n (pc := 105) X dX11_findPools_105 rfl ?_
    refine gfX11_21 (pc := 106) X wf_RX11_51 dX11_findPools_106 ?_
    refine to_aload_n (pc := 109) X dX11_findPools_109 rfl ?_
    refine gfX11_20 (pc := 110) X wf_RX11_230 dX11_findPools_110 ?_
    refine to_iload_n (pc := 113) X dX11_findPools_113 rfl ?_
    refine to_iast (pc := 114) X dX11_findPools_114 ?_
    refine to_aload_n (pc := 115) X dX11_findPools_115 rfl ?_
    refine gfX11_22 (pc := 116) X wf_RX11_54 dX11_findPools_116 ?_
    refine to_aload_n (pc := 119) X dX11_findPools_119 rfl ?_
    refine gfX11_20 (pc := 120) X wf_RX11_230 dX11_findPools_120 ?_
    refine to_iload_n (pc := 123) X dX11_findPools_123 rfl ?_
    refine to_iast (pc := 124) X dX11_findPools_124 ?_
    refine to_aload_n (pc := 125) X dX11_findPools_125 rfl ?_
    refine gfX11_23 (pc := 126) X wf_RX11_57 dX11_findPools_126 ?_
    refine to_aload_n (pc := 129) X dX11_findPools_129 rfl ?_
    refine gfX11_20 (pc := 130) X wf_RX11_230 dX11_findPools_130 ?_
    refine to_iload_n (pc := 133) X dX11_findPools_133 rfl ?_
    refine to_iast (pc := 134) X dX11_findPools_134 ?_
    refine to_aload_n (pc := 135) X dX11_findPools_135 rfl ?_
    refine gfX11_24 (pc := 136) X wf_RX11_60 dX11_findPools_136 ?_
    refine to_aload_n (pc := 139) X dX11_findPools_139 rfl ?_
    refine gfX11_20 (pc := 140) X wf_RX11_230 dX11_findPools_140 ?_
    refine to_iload (pc := 143) X dX11_findPools_143 ?_
    refine to_iast (pc := 145) X dX11_findPools_145 ?_
    refine to_aload_n (pc := 146) X dX11_findPools_146 rfl ?_
    refine to_dup (pc := 147) X dX11_findPools_147 ?_
    refine gfX11_20 (pc := 148) X wf_RX11_230 dX11_findPools_148 ?_
    refine to_iconst (pc := 151) X dX11_findPools_151 (by decide) ?_
    refine to_iadd (pc := 152) X dX11_findPools_152 ?_
    refine pfX11_20 (pc := 153) X wf_RX11_230 dX11_findPools_153 ?_
    exact to_cut [0, 1, 2] (fun _ _ _ h => h)
  refine to_aload_n (pc := 28) X dX11_findPools_28 rfl ?_
  refine to_iload_n (pc := 29) X dX11_findPools_29 rfl ?_
  refine to_iload (pc := 30) X dX11_findPools_30 ?_
  refine cvX11_isCase (pc := 32) X wm_RX11_153 (by decide) dX11_findPools_32 ?_
  exact okX11_findPools_35 X hr
def bkX11_findPools_7 (P : Nat → tc_B) (q : tc_Q) : tc_B := tb_iload 2 <| tb_i 100 <| tb_icmp_gt (tb_vret q) <| tb_i 0 <| tb_istore 3 <| tb_i 0 <| tb_istore 4 <| tb_i 0 <| tb_istore 5 <| tb_cut (P 21) [0, 1, 2, 3, 4, 5]
theorem okX11_findPools_7 {Z : tc_Z} {q : tc_Q} (X : tc_Cx ({ frames := 2, cells := 0, slots := 0, locals := 48 } : Room) cX11_findPools 7 RX11 Z) (hr : tc_Rt 3 cX11_findPools 7 Z q) : tc_Ok 7 Z 7 (bkX11_findPools_7 (tc_At 7 Z) q) := by
  unfold bkX11_findPools_7
  refine to_iload_n (pc := 7) X dX11_findPools_7 rfl ?_
  refine to_bipush (pc := 8) X dX11_findPools_8 (by decide) ?_
  refine to_icmp_gt (pc := 10) (tgt := 190) X dX11_findPools_10 (by decide) ?_ ?_
  · exact to_vret (pc := 190) hr dX11_findPools_190
  refine to_iconst (pc := 13) X dX11_findPools_13 (by decide) ?_
  refine to_istore_n (pc := 14) X dX11_findPools_14 rfl (by decide) ?_
  refine to_iconst (pc := 15) X dX11_findPools_15 (by decide) ?_
  refine to_istore (pc := 16) X dX11_findPools_16 (by decide) ?_
  refine to_iconst (pc := 18) X dX11_findPools_18 (by decide) ?_
  refine to_istore (pc := 19) X dX11_findPools_19 (by decide) ?_
  exact to_cut [0, 1, 2, 3, 4, 5] (fun _ _ _ h => h)
def bkX11_findPools_0 (P : Nat → tc_B) (q : tc_Q) : tc_B := tb_aload 0 <| tb_i 0 <| tb_putI 9 20 <| tb_i 0 <| tb_istore 2 <| tb_cut (P 7) [0, 1, 2]
theorem okX11_findPools_0 {Z : tc_Z} {q : tc_Q} (X : tc_Cx ({ frames := 2, cells := 0, slots := 0, locals := 48 } : Room) cX11_findPools 7 RX11 Z) (hr : tc_Rt 3 cX11_findPools 7 Z q) : tc_Ok 7 Z 0 (bkX11_findPools_0 (tc_At 7 Z) q) := by
  unfold bkX11_findPools_0
  refine to_aload_n (pc := 0) X dX11_findPools_0 rfl ?_
  refine to_iconst (pc := 1) X dX11_findPools_1 (by decide) ?_
  refine pfX11_20 (pc := 2) X wf_RX11_230 dX11_findPools_2 ?_
  refine to_iconst (pc := 5) X dX11_findPools_5 (by decide) ?_
  refine to_istore_n (pc := 6) X dX11_findPools_6 rfl (by decide) ?_
  exact to_cut [0, 1, 2] (fun _ _ _ h => h)
def RX11_findPools (vs : List tc_V) (S : tc_S) (q : tc_Q) : Prop := ∀ P : Nat → tc_B, (∀ L K S, bkX11_findPools_7 P q L K S → P 7 L K S) → (∀ L K S, bkX11_findPools_21 P q L K S → P 21 L K S) → (∀ L K S, bkX11_findPools_53 P q L K S → P 53 L K S) → (∀ L K S, bkX11_findPools_54 P q L K S → P 54 L K S) → (∀ L K S, bkX11_findPools_67 P q L K S → P 67 L K S) → (∀ L K S, bkX11_findPools_91 P q L K S → P 91 L K S) → (∀ L K S, bkX11_findPools_92 P q L K S → P 92 L K S) → (∀ L K S, bkX11_findPools_156 P q L K S → P 156 L K S) → (∀ L K S, bkX11_findPools_184 P q L K S → P 184 L K S) → bkX11_findPools_0 P q (tc_num 0 vs) [] S
theorem metX11_findPools : tc_Met yX11_findPools (Cond.code yX11_findPools cX11_findPools 7 none) ({ frames := 2, cells := 0, slots := 0, locals := 48 } : Room) 3 7 RX11_findPools := tc_met (rk := 3) (by decide) ⟨rfl, rfl⟩ (fun Z q X hr vs S h => okX11_findPools_0 X hr _ _ _ (h (tc_At 7 Z) (okX11_findPools_7 X hr) (okX11_findPools_21 X hr) (okX11_findPools_53 X hr) (okX11_findPools_54 X hr) (okX11_findPools_67 X hr) (okX11_findPools_91 X hr) (okX11_findPools_92 X hr) (okX11_findPools_156 X hr) (okX11_findPools_184 X hr)))
theorem cvX11_findPools {R : Room} {cc : ByteArray} {nL pc ix : Nat} {own : String} {Z : tc_Z} {k : tc_B} (X : tc_Cx R cc nL own Z) (h1 : Cond.methodLink own ix yX11_findPools ∈ tc_tb) (hR : 2 + 1 ≤ R.frames ∧ 8 + (7 + 11) + 48 ≤ R.locals) (hd : decode cc pc = .ok (.invokevirtual ix, 3)) (h : tc_Ok nL Z (pc + 3) k) : tc_Ok nL Z pc (tb_callV 1 7 9 RX11_findPools k) := to_callV X metX11_findPools rfl ⟨rfl, rfl⟩ hR h1 wi_X11_findPools wl_X11_findPools wn_RX11 wc_X11_findPools ⟨by decide +kernel, by decide +kernel, by decide +kernel, by decide +kernel⟩ hd h
def bkX11_pools_14 (P : Nat → tc_B) (q : tc_Q) : tc_B := tb_aload 0 <| tb_getf 9 20 <| tb_iret q
theorem okX11_pools_14 {Z : tc_Z} {q : tc_Q} (X : tc_Cx ({ frames := 3, cells := 0, slots := 0, locals := 74 } : Room) cX11_pools 2 RX11 Z) (hr : tc_Rt 0 cX11_pools 2 Z q) : tc_Ok 2 Z 14 (bkX11_pools_14 (tc_At 2 Z) q) := by
  unfold bkX11_pools_14
  refine to_aload_n (pc := 14) X dX11_pools_14 rfl ?_
  refine gfX11_20 (pc := 15) X wf_RX11_230 dX11_pools_15 ?_
  exact to_iret (pc := 18) hr dX11_pools_18
def bkX11_pools_4 (P : Nat → tc_B) (q : tc_Q) : tc_B := tb_if_ne (tb_aload 0 <| tb_iload 1 <| tb_callV 1 7 9 RX11_findPools <| bkX11_pools_14 P q) <| tb_i (-1) <| tb_iret q
theorem okX11_pools_4 {Z : tc_Z} {q : tc_Q} (X : tc_Cx ({ frames := 3, cells := 0, slots := 0, locals := 74 } : Room) cX11_pools 2 RX11 Z) (hr : tc_Rt 0 cX11_pools 2 Z q) : tc_Ok 2 Z 4 (bkX11_pools_4 (tc_At 2 Z) q) := by
  unfold bkX11_pools_4
  refine to_if_ne (pc := 4) (tgt := 9) X dX11_pools_4 (by decide) ?_ ?_
  · refine to_aload_n (pc := 9) X dX11_pools_9 rfl ?_
    refine to_iload_n (pc := 10) X dX11_pools_10 rfl ?_
    refine cvX11_findPools (pc := 11) X wm_RX11_239 (by decide) dX11_pools_11 ?_
    exact okX11_pools_14 X hr
  refine to_iconst (pc := 7) X dX11_pools_7 (by decide) ?_
  exact to_iret (pc := 8) hr dX11_pools_8
def bkX11_pools_0 (P : Nat → tc_B) (q : tc_Q) : tc_B := tb_iload 1 <| tb_callS 1 1 RX11_isAny <| bkX11_pools_4 P q
theorem okX11_pools_0 {Z : tc_Z} {q : tc_Q} (X : tc_Cx ({ frames := 3, cells := 0, slots := 0, locals := 74 } : Room) cX11_pools 2 RX11 Z) (hr : tc_Rt 0 cX11_pools 2 Z q) : tc_Ok 2 Z 0 (bkX11_pools_0 (tc_At 2 Z) q) := by
  unfold bkX11_pools_0
  refine to_iload_n (pc := 0) X dX11_pools_0 rfl ?_
  refine cvX11_isAny (pc := 1) X wm_RX11_81 (by decide) dX11_pools_1 ?_
  exact okX11_pools_4 X hr
def RX11_pools (vs : List tc_V) (S : tc_S) (q : tc_Q) : Prop := ∀ P : Nat → tc_B, bkX11_pools_0 P q (tc_num 0 vs) [] S
theorem metX11_pools : tc_Met yX11_pools (Cond.code yX11_pools cX11_pools 2 (some .int)) ({ frames := 3, cells := 0, slots := 0, locals := 74 } : Room) 0 2 RX11_pools := tc_met (rk := 0) (by decide) ⟨rfl, rfl⟩ (fun Z q X hr vs S h => okX11_pools_0 X hr _ _ _ (h (tc_At 2 Z)))
theorem cvX11_pools {R : Room} {cc : ByteArray} {nL pc ix : Nat} {own : String} {Z : tc_Z} {k : tc_B} (X : tc_Cx R cc nL own Z) (h1 : Cond.methodLink own ix yX11_pools ∈ tc_tb) (hR : 3 + 1 ≤ R.frames ∧ 8 + (2 + 11) + 74 ≤ R.locals) (hd : decode cc pc = .ok (.invokevirtual ix, 3)) (h : tc_Ok nL Z (pc + 3) k) : tc_Ok nL Z pc (tb_callV 1 2 9 RX11_pools k) := to_callV X metX11_pools rfl ⟨rfl, rfl⟩ hR h1 wi_X11_pools wl_X11_pools wn_RX11 wc_X11_pools ⟨by decide +kernel, by decide +kernel, by decide +kernel, by decide +kernel⟩ hd h
def bkX11_pool_25 (P : Nat → tc_B) (q : tc_Q) : tc_B := tb_if_ne (tb_iload 3 <| tb_tsw 0 3 [tb_aload 0 <| tb_getf 9 21 <| tb_iload 2 <| tb_iald <| tb_iret q, tb_aload 0 <| tb_getf 9 22 <| tb_iload 2 <| tb_iald <| tb_iret q, tb_aload 0 <| tb_getf 9 23 <| tb_iload 2 <| tb_iald <| tb_iret q, tb_aload 0 <| tb_getf 9 24 <| tb_iload 2 <| tb_iald <| tb_iret q] <| tb_i (-2) <| tb_iret q) <| tb_i (-1) <| tb_iret q
theorem okX11_pool_25 {Z : tc_Z} {q : tc_Q} (X : tc_Cx ({ frames := 3, cells := 0, slots := 0, locals := 74 } : Room) cX11_pool 4 RX11 Z) (hr : tc_Rt 0 cX11_pool 4 Z q) : tc_Ok 4 Z 25 (bkX11_pool_25 (tc_At 4 Z) q) := by
  unfold bkX11_pool_25
  refine to_if_ne (pc := 25) (tgt := 30) X dX11_pool_25 (by decide) ?_ ?_
  · refine to_iload_n (pc := 30) X dX11_pool_30 rfl ?_
    refine to_tsw (pc := 31) (td := 88) [60, 67, 74, 81] X dX11_pool_31 (by decide) (by decide) (by decide) (by decide) (by decide) (by decide) ?_ ?_
    · refine to_bipush (pc := 88) X dX11_pool_88 (by decide) ?_
      exact to_iret (pc := 90) hr dX11_pool_90
    refine ⟨?_, ?_⟩
    · refine to_aload_n (pc := 60) X dX11_pool_60 rfl ?_
      refine gfX11_21 (pc := 61) X wf_RX11_51 dX11_pool_61 ?_
      refine to_iload_n (pc := 64) X dX11_pool_64 rfl ?_
      refine to_iald (pc := 65) X dX11_pool_65 ?_
      exact to_iret (pc := 66) hr dX11_pool_66
    refine ⟨?_, ?_⟩
    · refine to_aload_n (pc := 67) X dX11_pool_67 rfl ?_
      refine gfX11_22 (pc := 68) X wf_RX11_54 dX11_pool_68 ?_
      refine to_iload_n (pc := 71) X dX11_pool_71 rfl ?_
      refine to_iald (pc := 72) X dX11_pool_72 ?_
      exact to_iret (pc := 73) hr dX11_pool_73
    refine ⟨?_, ?_⟩
    · refine to_aload_n (pc := 74) X dX11_pool_74 rfl ?_
      refine gfX11_23 (pc := 75) X wf_RX11_57 dX11_pool_75 ?_
      refine to_iload_n (pc := 78) X dX11_pool_78 rfl ?_
      refine to_iald (pc := 79) X dX11_pool_79 ?_
      exact to_iret (pc := 80) hr dX11_pool_80
    refine ⟨?_, ?_⟩
    · refine to_aload_n (pc := 81) X dX11_pool_81 rfl ?_
      refine gfX11_24 (pc := 82) X wf_RX11_60 dX11_pool_82 ?_
      refine to_iload_n (pc := 85) X dX11_pool_85 rfl ?_
      refine to_iald (pc := 86) X dX11_pool_86 ?_
      exact to_iret (pc := 87) hr dX11_pool_87
    trivial
  refine to_iconst (pc := 28) X dX11_pool_28 (by decide) ?_
  exact to_iret (pc := 29) hr dX11_pool_29
def bkX11_pool_14 (P : Nat → tc_B) (q : tc_Q) : tc_B := tb_iload 2 <| tb_i 0 <| tb_aload 0 <| tb_getf 9 20 <| tb_i 1 <| tb_isub <| tb_callS 3 3 RX11_within <| bkX11_pool_25 P q
theorem okX11_pool_14 {Z : tc_Z} {q : tc_Q} (X : tc_Cx ({ frames := 3, cells := 0, slots := 0, locals := 74 } : Room) cX11_pool 4 RX11 Z) (hr : tc_Rt 0 cX11_pool 4 Z q) : tc_Ok 4 Z 14 (bkX11_pool_14 (tc_At 4 Z) q) := by
  unfold bkX11_pool_14
  refine to_iload_n (pc := 14) X dX11_pool_14 rfl ?_
  refine to_iconst (pc := 15) X dX11_pool_15 (by decide) ?_
  refine to_aload_n (pc := 16) X dX11_pool_16 rfl ?_
  refine gfX11_20 (pc := 17) X wf_RX11_230 dX11_pool_17 ?_
  refine to_iconst (pc := 20) X dX11_pool_20 (by decide) ?_
  refine to_isub (pc := 21) X dX11_pool_21 ?_
  refine cvX11_within (pc := 22) X wm_RX11_66 (by decide) dX11_pool_22 ?_
  exact okX11_pool_25 X hr
def bkX11_pool_4 (P : Nat → tc_B) (q : tc_Q) : tc_B := tb_if_ne (tb_aload 0 <| tb_iload 1 <| tb_callV 1 7 9 RX11_findPools <| bkX11_pool_14 P q) <| tb_i (-1) <| tb_iret q
theorem okX11_pool_4 {Z : tc_Z} {q : tc_Q} (X : tc_Cx ({ frames := 3, cells := 0, slots := 0, locals := 74 } : Room) cX11_pool 4 RX11 Z) (hr : tc_Rt 0 cX11_pool 4 Z q) : tc_Ok 4 Z 4 (bkX11_pool_4 (tc_At 4 Z) q) := by
  unfold bkX11_pool_4
  refine to_if_ne (pc := 4) (tgt := 9) X dX11_pool_4 (by decide) ?_ ?_
  · refine to_aload_n (pc := 9) X dX11_pool_9 rfl ?_
    refine to_iload_n (pc := 10) X dX11_pool_10 rfl ?_
    refine cvX11_findPools (pc := 11) X wm_RX11_239 (by decide) dX11_pool_11 ?_
    exact okX11_pool_14 X hr
  refine to_iconst (pc := 7) X dX11_pool_7 (by decide) ?_
  exact to_iret (pc := 8) hr dX11_pool_8
def bkX11_pool_0 (P : Nat → tc_B) (q : tc_Q) : tc_B := tb_iload 1 <| tb_callS 1 1 RX11_isAny <| bkX11_pool_4 P q
theorem okX11_pool_0 {Z : tc_Z} {q : tc_Q} (X : tc_Cx ({ frames := 3, cells := 0, slots := 0, locals := 74 } : Room) cX11_pool 4 RX11 Z) (hr : tc_Rt 0 cX11_pool 4 Z q) : tc_Ok 4 Z 0 (bkX11_pool_0 (tc_At 4 Z) q) := by
  unfold bkX11_pool_0
  refine to_iload_n (pc := 0) X dX11_pool_0 rfl ?_
  refine cvX11_isAny (pc := 1) X wm_RX11_81 (by decide) dX11_pool_1 ?_
  exact okX11_pool_4 X hr
def RX11_pool (vs : List tc_V) (S : tc_S) (q : tc_Q) : Prop := ∀ P : Nat → tc_B, bkX11_pool_0 P q (tc_num 0 vs) [] S
theorem metX11_pool : tc_Met yX11_pool (Cond.code yX11_pool cX11_pool 4 (some .int)) ({ frames := 3, cells := 0, slots := 0, locals := 74 } : Room) 0 4 RX11_pool := tc_met (rk := 0) (by decide) ⟨rfl, rfl⟩ (fun Z q X hr vs S h => okX11_pool_0 X hr _ _ _ (h (tc_At 4 Z)))
theorem cvX11_pool {R : Room} {cc : ByteArray} {nL pc ix : Nat} {own : String} {Z : tc_Z} {k : tc_B} (X : tc_Cx R cc nL own Z) (h1 : Cond.methodLink own ix yX11_pool ∈ tc_tb) (hR : 3 + 1 ≤ R.frames ∧ 8 + (4 + 11) + 74 ≤ R.locals) (hd : decode cc pc = .ok (.invokevirtual ix, 3)) (h : tc_Ok nL Z (pc + 3) k) : tc_Ok nL Z pc (tb_callV 3 4 9 RX11_pool k) := to_callV X metX11_pool rfl ⟨rfl, rfl⟩ hR h1 wi_X11_pool wl_X11_pool wn_RX11 wc_X11_pool ⟨by decide +kernel, by decide +kernel, by decide +kernel, by decide +kernel⟩ hd h
def bkX11_flat_106 (P : Nat → tc_B) (q : tc_Q) : tc_B := tb_jret q
theorem okX11_flat_106 {Z : tc_Z} {q : tc_Q} (X : tc_Cx ({ frames := 3, cells := 0, slots := 0, locals := 74 } : Room) cX11_flat 6 RX11 Z) (hr : tc_Rt 2 cX11_flat 6 Z q) : tc_Ok 6 Z 106 (bkX11_flat_106 (tc_At 6 Z) q) := by
  unfold bkX11_flat_106
  exact to_jret (pc := 106) hr dX11_flat_106
def bkX11_flat_95 (P : Nat → tc_B) (q : tc_Q) : tc_B := tb_iinc 5 1 <| tb_cut (P 47) [0, 2, 3, 5]
theorem okX11_flat_95 {Z : tc_Z} {q : tc_Q} (X : tc_Cx ({ frames := 3, cells := 0, slots := 0, locals := 74 } : Room) cX11_flat 6 RX11 Z) (hr : tc_Rt 2 cX11_flat 6 Z q) : tc_Ok 6 Z 95 (bkX11_flat_95 (tc_At 6 Z) q) := by
  unfold bkX11_flat_95
  refine to_iinc (pc := 95) X dX11_flat_95 (by decide) (by decide) ?_
  refine to_goto (pc := 98) (tgt := 47) X dX11_flat_98 (by decide) ?_
  exact to_cut [0, 2, 3, 5] (fun _ _ _ h => h)
def bkX11_flat_47 (P : Nat → tc_B) (q : tc_Q) : tc_B := tb_iload 5 <| tb_aload 0 <| tb_getf 9 20 <| tb_icmp_ge (tb_aload 0 <| tb_iload 2 <| tb_callV 1 2 9 RX11_part <| bkX11_flat_106 P q) <| tb_aload 0 <| tb_aload 0 <| tb_getf 9 24 <| tb_iload 5 <| tb_iald <| tb_i2l <| tb_aload 0 <| tb_getf 9 23 <| tb_iload 5 <| tb_iald <| tb_aload 0 <| tb_getf 9 24 <| tb_iload 5 <| tb_iald <| tb_isub <| tb_i2l <| tb_lmul <| tb_aload 0 <| tb_getf 9 23 <| tb_iload 5 <| tb_iald <| tb_i2l <| tb_lload 3 <| tb_lmul <| tb_callV 2 5 9 RX11_adds <| bkX11_flat_95 P q
theorem okX11_flat_47 {Z : tc_Z} {q : tc_Q} (X : tc_Cx ({ frames := 3, cells := 0, slots := 0, locals := 74 } : Room) cX11_flat 6 RX11 Z) (hr : tc_Rt 2 cX11_flat 6 Z q) : tc_Ok 6 Z 47 (bkX11_flat_47 (tc_At 6 Z) q) := by
  unfold bkX11_flat_47
  refine to_iload (pc := 47) X dX11_flat_47 ?_
  refine to_aload_n (pc := 49) X dX11_flat_49 rfl ?_
  refine gfX11_20 (pc := 50) X wf_RX11_230 dX11_flat_50 ?_
  refine to_icmp_ge (pc := 53) (tgt := 101) X dX11_flat_53 (by decide) ?_ ?_
  · refine to_aload_n (pc := 101) X dX11_flat_101 rfl ?_
    refine to_iload_n (pc := 102) X dX11_flat_102 rfl ?_
    refine cvX11_part (pc := 103) X wm_RX11_173 (by decide) dX11_flat_103 ?_
    exact okX11_flat_106 X hr
  refine to_aload_n (pc := 56) X dX11_flat_56 rfl ?_
  refine to_aload_n (pc := 57) X dX11_flat_57 rfl ?_
  refine gfX11_24 (pc := 58) X wf_RX11_60 dX11_flat_58 ?_
  refine to_iload (pc := 61) X dX11_flat_61 ?_
  refine to_iald (pc := 63) X dX11_flat_63 ?_
  refine to_i2l (pc := 64) X dX11_flat_64 ?_
  refine to_aload_n (pc := 65) X dX11_flat_65 rfl ?_
  refine gfX11_23 (pc := 66) X wf_RX11_57 dX11_flat_66 ?_
  refine to_iload (pc := 69) X dX11_flat_69 ?_
  refine to_iald (pc := 71) X dX11_flat_71 ?_
  refine to_aload_n (pc := 72) X dX11_flat_72 rfl ?_
  refine gfX11_24 (pc := 73) X wf_RX11_60 dX11_flat_73 ?_
  refine to_iload (pc := 76) X dX11_flat_76 ?_
  refine to_iald (pc := 78) X dX11_flat_78 ?_
  refine to_isub (pc := 79) X dX11_flat_79 ?_
  refine to_i2l (pc := 80) X dX11_flat_80 ?_
  refine to_lmul (pc := 81) X dX11_flat_81 ?_
  refine to_aload_n (pc := 82) X dX11_flat_82 rfl ?_
  refine gfX11_23 (pc := 83) X wf_RX11_57 dX11_flat_83 ?_
  refine to_iload (pc := 86) X dX11_flat_86 ?_
  refine to_iald (pc := 88) X dX11_flat_88 ?_
  refine to_i2l (pc := 89) X dX11_flat_89 ?_
  refine to_lload_n (pc := 90) X dX11_flat_90 rfl ?_
  refine to_lmul (pc := 91) X dX11_flat_91 ?_
  refine cvX11_adds (pc := 92) X wm_RX11_213 (by decide) dX11_flat_92 ?_
  exact okX11_flat_95 X hr
def bkX11_flat_44 (P : Nat → tc_B) (q : tc_Q) : tc_B := tb_i 0 <| tb_istore 5 <| tb_cut (P 47) [0, 2, 3, 5]
theorem okX11_flat_44 {Z : tc_Z} {q : tc_Q} (X : tc_Cx ({ frames := 3, cells := 0, slots := 0, locals := 74 } : Room) cX11_flat 6 RX11 Z) (hr : tc_Rt 2 cX11_flat 6 Z q) : tc_Ok 6 Z 44 (bkX11_flat_44 (tc_At 6 Z) q) := by
  unfold bkX11_flat_44
  refine to_iconst (pc := 44) X dX11_flat_44 (by decide) ?_
  refine to_istore (pc := 45) X dX11_flat_45 (by decide) ?_
  exact to_cut [0, 2, 3, 5] (fun _ _ _ h => h)
def bkX11_flat_38 (P : Nat → tc_B) (q : tc_Q) : tc_B := tb_i2l <| tb_lstore 3 <| tb_aload 0 <| tb_callV 0 1 9 RX11_noFraction <| bkX11_flat_44 P q
theorem okX11_flat_38 {Z : tc_Z} {q : tc_Q} (X : tc_Cx ({ frames := 3, cells := 0, slots := 0, locals := 74 } : Room) cX11_flat 6 RX11 Z) (hr : tc_Rt 2 cX11_flat 6 Z q) : tc_Ok 6 Z 38 (bkX11_flat_38 (tc_At 6 Z) q) := by
  unfold bkX11_flat_38
  refine to_i2l (pc := 38) X dX11_flat_38 ?_
  refine to_lstore_n (pc := 39) X dX11_flat_39 rfl (by decide) ?_
  refine to_aload_n (pc := 40) X dX11_flat_40 rfl ?_
  refine cvX11_noFraction (pc := 41) X wm_RX11_223 (by decide) dX11_flat_41 ?_
  exact okX11_flat_44 X hr
def bkX11_flat_33 (P : Nat → tc_B) (q : tc_Q) : tc_B := tb_aload 0 <| tb_iload 1 <| tb_callV 1 4 9 RX11_cases <| bkX11_flat_38 P q
theorem okX11_flat_33 {Z : tc_Z} {q : tc_Q} (X : tc_Cx ({ frames := 3, cells := 0, slots := 0, locals := 74 } : Room) cX11_flat 6 RX11 Z) (hr : tc_Rt 2 cX11_flat 6 Z q) : tc_Ok 6 Z 33 (bkX11_flat_33 (tc_At 6 Z) q) := by
  unfold bkX11_flat_33
  refine to_aload_n (pc := 33) X dX11_flat_33 rfl ?_
  refine to_iload_n (pc := 34) X dX11_flat_34 rfl ?_
  refine cvX11_cases (pc := 35) X wm_RX11_164 (by decide) dX11_flat_35 ?_
  exact okX11_flat_38 X hr
def bkX11_flat_21 (P : Nat → tc_B) (q : tc_Q) : tc_B := tb_if_ne (tb_aload 0 <| tb_iload 1 <| tb_callV 1 7 9 RX11_findPools <| bkX11_flat_33 P q) <| tb_j (-9223372036854775808) <| tb_jret q
theorem okX11_flat_21 {Z : tc_Z} {q : tc_Q} (X : tc_Cx ({ frames := 3, cells := 0, slots := 0, locals := 74 } : Room) cX11_flat 6 RX11 Z) (hr : tc_Rt 2 cX11_flat 6 Z q) : tc_Ok 6 Z 21 (bkX11_flat_21 (tc_At 6 Z) q) := by
  unfold bkX11_flat_21
  refine to_if_ne (pc := 21) (tgt := 28) X dX11_flat_21 (by decide) ?_ ?_
  · refine to_aload_n (pc := 28) X dX11_flat_28 rfl ?_
    refine to_iload_n (pc := 29) X dX11_flat_29 rfl ?_
    refine cvX11_findPools (pc := 30) X wm_RX11_239 (by decide) dX11_flat_30 ?_
    exact okX11_flat_33 X hr
  refine to_ldc2 (pc := 24) X wj_RX11_167 dX11_flat_24 ?_
  exact to_jret (pc := 27) hr dX11_flat_27
def bkX11_flat_13 (P : Nat → tc_B) (q : tc_Q) : tc_B := tb_if_eq (tb_j (-9223372036854775808) <| tb_jret q) <| tb_aload 0 <| tb_iload 1 <| tb_callV 1 4 9 RX11_cases <| bkX11_flat_21 P q
theorem okX11_flat_13 {Z : tc_Z} {q : tc_Q} (X : tc_Cx ({ frames := 3, cells := 0, slots := 0, locals := 74 } : Room) cX11_flat 6 RX11 Z) (hr : tc_Rt 2 cX11_flat 6 Z q) : tc_Ok 6 Z 13 (bkX11_flat_13 (tc_At 6 Z) q) := by
  unfold bkX11_flat_13
  refine to_if_eq (pc := 13) (tgt := 24) X dX11_flat_13 (by decide) ?_ ?_
  · refine to_ldc2 (pc := 24) X wj_RX11_167 dX11_flat_24 ?_
    exact to_jret (pc := 27) hr dX11_flat_27
  refine to_aload_n (pc := 16) X dX11_flat_16 rfl ?_
  refine to_iload_n (pc := 17) X dX11_flat_17 rfl ?_
  refine cvX11_cases (pc := 18) X wm_RX11_164 (by decide) dX11_flat_18 ?_
  exact okX11_flat_21 X hr
def bkX11_flat_4 (P : Nat → tc_B) (q : tc_Q) : tc_B := tb_if_eq (tb_j (-9223372036854775808) <| tb_jret q) <| tb_iload 2 <| tb_i 0 <| tb_i 1 <| tb_callS 3 3 RX11_within <| bkX11_flat_13 P q
theorem okX11_flat_4 {Z : tc_Z} {q : tc_Q} (X : tc_Cx ({ frames := 3, cells := 0, slots := 0, locals := 74 } : Room) cX11_flat 6 RX11 Z) (hr : tc_Rt 2 cX11_flat 6 Z q) : tc_Ok 6 Z 4 (bkX11_flat_4 (tc_At 6 Z) q) := by
  unfold bkX11_flat_4
  refine to_if_eq (pc := 4) (tgt := 24) X dX11_flat_4 (by decide) ?_ ?_
  · refine to_ldc2 (pc := 24) X wj_RX11_167 dX11_flat_24 ?_
    exact to_jret (pc := 27) hr dX11_flat_27
  refine to_iload_n (pc := 7) X dX11_flat_7 rfl ?_
  refine to_iconst (pc := 8) X dX11_flat_8 (by decide) ?_
  refine to_iconst (pc := 9) X dX11_flat_9 (by decide) ?_
  refine cvX11_within (pc := 10) X wm_RX11_66 (by decide) dX11_flat_10 ?_
  exact okX11_flat_13 X hr
def bkX11_flat_0 (P : Nat → tc_B) (q : tc_Q) : tc_B := tb_iload 1 <| tb_callS 1 1 RX11_isAny <| bkX11_flat_4 P q
theorem okX11_flat_0 {Z : tc_Z} {q : tc_Q} (X : tc_Cx ({ frames := 3, cells := 0, slots := 0, locals := 74 } : Room) cX11_flat 6 RX11 Z) (hr : tc_Rt 2 cX11_flat 6 Z q) : tc_Ok 6 Z 0 (bkX11_flat_0 (tc_At 6 Z) q) := by
  unfold bkX11_flat_0
  refine to_iload_n (pc := 0) X dX11_flat_0 rfl ?_
  refine cvX11_isAny (pc := 1) X wm_RX11_81 (by decide) dX11_flat_1 ?_
  exact okX11_flat_4 X hr
def RX11_flat (vs : List tc_V) (S : tc_S) (q : tc_Q) : Prop := ∀ P : Nat → tc_B, (∀ L K S, bkX11_flat_47 P q L K S → P 47 L K S) → bkX11_flat_0 P q (tc_num 0 vs) [] S
theorem metX11_flat : tc_Met yX11_flat (Cond.code yX11_flat cX11_flat 6 (some .long)) ({ frames := 3, cells := 0, slots := 0, locals := 74 } : Room) 2 6 RX11_flat := tc_met (rk := 2) (by decide) ⟨rfl, rfl⟩ (fun Z q X hr vs S h => okX11_flat_0 X hr _ _ _ (h (tc_At 6 Z) (okX11_flat_47 X hr)))
theorem cvX11_flat {R : Room} {cc : ByteArray} {nL pc ix : Nat} {own : String} {Z : tc_Z} {k : tc_B} (X : tc_Cx R cc nL own Z) (h1 : Cond.methodLink own ix yX11_flat ∈ tc_tb) (hR : 3 + 1 ≤ R.frames ∧ 8 + (6 + 11) + 74 ≤ R.locals) (hd : decode cc pc = .ok (.invokevirtual ix, 3)) (h : tc_Ok nL Z (pc + 3) k) : tc_Ok nL Z pc (tb_callV 2 6 9 RX11_flat k) := to_callV X metX11_flat rfl ⟨rfl, rfl⟩ hR h1 wi_X11_flat wl_X11_flat wn_RX11 wc_X11_flat ⟨by decide +kernel, by decide +kernel, by decide +kernel, by decide +kernel⟩ hd h
def bkX11_compares_147 (P : Nat → tc_B) (q : tc_Q) : tc_B := tb_iinc 3 1 <| tb_cut (P 17) [0, 1, 2, 3]
theorem okX11_compares_147 {Z : tc_Z} {q : tc_Q} (X : tc_Cx ({ frames := 2, cells := 0, slots := 0, locals := 48 } : Room) cX11_compares 6 RX11 Z) (hr : tc_Rt 3 cX11_compares 6 Z q) : tc_Ok 6 Z 147 (bkX11_compares_147 (tc_At 6 Z) q) := by
  unfold bkX11_compares_147
  refine to_iinc (pc := 147) X dX11_compares_147 (by decide) (by decide) ?_
  refine to_goto (pc := 150) (tgt := 17) X dX11_compares_150 (by decide) ?_
  exact to_cut [0, 1, 2, 3] (fun _ _ _ h => h)
def bkX11_compares_143 (P : Nat → tc_B) (q : tc_Q) : tc_B := tb_iadd <| tb_putI 9 27 <| tb_cut (P 147) [0, 1, 2, 3]
theorem okX11_compares_143 {Z : tc_Z} {q : tc_Q} (X : tc_Cx ({ frames := 2, cells := 0, slots := 0, locals := 48 } : Room) cX11_compares 6 RX11 Z) (hr : tc_Rt 3 cX11_compares 6 Z q) : tc_Ok 6 Z 143 (bkX11_compares_143 (tc_At 6 Z) q) := by
  unfold bkX11_compares_143
  refine to_iadd (pc := 143) X dX11_compares_143 ?_
  refine pfX11_27 (pc := 144) X wf_RX11_248 dX11_compares_144 ?_
  exact to_cut [0, 1, 2, 3] (fun _ _ _ h => h)
def bkX11_compares_122 (P : Nat → tc_B) (q : tc_Q) : tc_B := tb_iadd <| tb_putI 9 26 <| tb_aload 0 <| tb_dup <| tb_getf 9 27 <| tb_iload 5 <| tb_iload 4 <| tb_icmp_ge (tb_i 0 <| tb_cut (P 143) [0, 1, 2, 3]) <| tb_i 1 <| tb_cut (P 143) [0, 1, 2, 3]
theorem okX11_compares_122 {Z : tc_Z} {q : tc_Q} (X : tc_Cx ({ frames := 2, cells := 0, slots := 0, locals := 48 } : Room) cX11_compares 6 RX11 Z) (hr : tc_Rt 3 cX11_compares 6 Z q) : tc_Ok 6 Z 122 (bkX11_compares_122 (tc_At 6 Z) q) := by
  unfold bkX11_compares_122
  refine to_iadd (pc := 122) X dX11_compares_122 ?_
  refine pfX11_26 (pc := 123) X wf_RX11_245 dX11_compares_123 ?_
  refine to_aload_n (pc := 126) X dX11_compares_126 rfl ?_
  refine to_dup (pc := 127) X dX11_compares_127 ?_
  refine gfX11_27 (pc := 128) X wf_RX11_248 dX11_compares_128 ?_
  refine to_iload (pc := 131) X dX11_compares_131 ?_
  refine to_iload (pc := 133) X dX11_compares_133 ?_
  refine to_icmp_ge (pc := 135) (tgt := 142) X dX11_compares_135 (by decide) ?_ ?_
  · refine to_iconst (pc := 142) X dX11_compares_142 (by decide) ?_
    exact to_cut [0, 1, 2, 3] (fun _ _ _ h => h)
  refine to_iconst (pc := 138) X dX11_compares_138 (by decide) ?_
  refine to_goto (pc := 139) (tgt := 143) X dX11_compares_139 (by decide) ?_
  exact to_cut [0, 1, 2, 3] (fun _ _ _ h => h)
def bkX11_compares_93 (P : Nat → tc_B) (q : tc_Q) : tc_B := tb_istore 5 <| tb_aload 0 <| tb_dup <| tb_getf 9 25 <| tb_i 1 <| tb_iadd <| tb_putI 9 25 <| tb_aload 0 <| tb_dup <| tb_getf 9 26 <| tb_iload 4 <| tb_iload 5 <| tb_icmp_ge (tb_i 0 <| tb_cut (P 122) [0, 1, 2, 3, 4, 5]) <| tb_i 1 <| tb_cut (P 122) [0, 1, 2, 3, 4, 5]
theorem okX11_compares_93 {Z : tc_Z} {q : tc_Q} (X : tc_Cx ({ frames := 2, cells := 0, slots := 0, locals := 48 } : Room) cX11_compares 6 RX11 Z) (hr : tc_Rt 3 cX11_compares 6 Z q) : tc_Ok 6 Z 93 (bkX11_compares_93 (tc_At 6 Z) q) := by
  unfold bkX11_compares_93
  refine to_istore (pc := 93) X dX11_compares_93 (by decide) ?_
  refine to_aload_n (pc := 95) X dX11_compares_95 rfl ?_
  refine to_dup (pc := 96) X dX11_compares_96 ?_
  refine gfX11_25 (pc := 97) X wf_RX11_242 dX11_compares_97 ?_
  refine to_iconst (pc := 100) X dX11_compares_100 (by decide) ?_
  refine to_iadd (pc := 101) X dX11_compares_101 ?_
  refine pfX11_25 (pc := 102) X wf_RX11_242 dX11_compares_102 ?_
  refine to_aload_n (pc := 105) X dX11_compares_105 rfl ?_
  refine to_dup (pc := 106) X dX11_compares_106 ?_
  refine gfX11_26 (pc := 107) X wf_RX11_245 dX11_compares_107 ?_
  refine to_iload (pc := 110) X dX11_compares_110 ?_
  refine to_iload (pc := 112) X dX11_compares_112 ?_
  refine to_icmp_ge (pc := 114) (tgt := 121) X dX11_compares_114 (by decide) ?_ ?_
  · refine to_iconst (pc := 121) X dX11_compares_121 (by decide) ?_
    exact to_cut [0, 1, 2, 3, 4, 5] (fun _ _ _ h => h)
  refine to_iconst (pc := 117) X dX11_compares_117 (by decide) ?_
  refine to_goto (pc := 118) (tgt := 122) X dX11_compares_118 (by decide) ?_
  exact to_cut [0, 1, 2, 3, 4, 5] (fun _ _ _ h => h)
def bkX11_compares_90 (P : Nat → tc_B) (q : tc_Q) : tc_B := tb_callV 2 4 9 RX11_missOf <| bkX11_compares_93 P q
theorem okX11_compares_90 {Z : tc_Z} {q : tc_Q} (X : tc_Cx ({ frames := 2, cells := 0, slots := 0, locals := 48 } : Room) cX11_compares 6 RX11 Z) (hr : tc_Rt 3 cX11_compares 6 Z q) : tc_Ok 6 Z 90 (bkX11_compares_90 (tc_At 6 Z) q) := by
  unfold bkX11_compares_90
  refine cvX11_missOf (pc := 90) X wm_RX11_149 (by decide) dX11_compares_90 ?_
  exact okX11_compares_93 X hr
def bkX11_compares_75 (P : Nat → tc_B) (q : tc_Q) : tc_B := tb_aload 0 <| tb_getf 9 1 <| tb_iload 3 <| tb_iald <| tb_i 1 <| tb_icmp_ne (tb_i 0 <| tb_cut (P 90) [0, 1, 2, 3, 4]) <| tb_i 1 <| tb_cut (P 90) [0, 1, 2, 3, 4]
theorem okX11_compares_75 {Z : tc_Z} {q : tc_Q} (X : tc_Cx ({ frames := 2, cells := 0, slots := 0, locals := 48 } : Room) cX11_compares 6 RX11 Z) (hr : tc_Rt 3 cX11_compares 6 Z q) : tc_Ok 6 Z 75 (bkX11_compares_75 (tc_At 6 Z) q) := by
  unfold bkX11_compares_75
  refine to_aload_n (pc := 75) X dX11_compares_75 rfl ?_
  refine gfX11_1 (pc := 76) X wf_RX11_13 dX11_compares_76 ?_
  refine to_iload_n (pc := 79) X dX11_compares_79 rfl ?_
  refine to_iald (pc := 80) X dX11_compares_80 ?_
  refine to_iconst (pc := 81) X dX11_compares_81 (by decide) ?_
  refine to_icmp_ne (pc := 82) (tgt := 89) X dX11_compares_82 (by decide) ?_ ?_
  · refine to_iconst (pc := 89) X dX11_compares_89 (by decide) ?_
    exact to_cut [0, 1, 2, 3, 4] (fun _ _ _ h => h)
  refine to_iconst (pc := 85) X dX11_compares_85 (by decide) ?_
  refine to_goto (pc := 86) (tgt := 90) X dX11_compares_86 (by decide) ?_
  exact to_cut [0, 1, 2, 3, 4] (fun _ _ _ h => h)
def bkX11_compares_66 (P : Nat → tc_B) (q : tc_Q) : tc_B := tb_istore 4 <| tb_aload 0 <| tb_aload 0 <| tb_iload 2 <| tb_iload 3 <| tb_callV 2 7 9 RX11_toldBy <| bkX11_compares_75 P q
theorem okX11_compares_66 {Z : tc_Z} {q : tc_Q} (X : tc_Cx ({ frames := 2, cells := 0, slots := 0, locals := 48 } : Room) cX11_compares 6 RX11 Z) (hr : tc_Rt 3 cX11_compares 6 Z q) : tc_Ok 6 Z 66 (bkX11_compares_66 (tc_At 6 Z) q) := by
  unfold bkX11_compares_66
  refine to_istore (pc := 66) X dX11_compares_66 (by decide) ?_
  refine to_aload_n (pc := 68) X dX11_compares_68 rfl ?_
  refine to_aload_n (pc := 69) X dX11_compares_69 rfl ?_
  refine to_iload_n (pc := 70) X dX11_compares_70 rfl ?_
  refine to_iload_n (pc := 71) X dX11_compares_71 rfl ?_
  refine cvX11_toldBy (pc := 72) X wm_RX11_84 (by decide) dX11_compares_72 ?_
  exact okX11_compares_75 X hr
def bkX11_compares_63 (P : Nat → tc_B) (q : tc_Q) : tc_B := tb_callV 2 4 9 RX11_missOf <| bkX11_compares_66 P q
theorem okX11_compares_63 {Z : tc_Z} {q : tc_Q} (X : tc_Cx ({ frames := 2, cells := 0, slots := 0, locals := 48 } : Room) cX11_compares 6 RX11 Z) (hr : tc_Rt 3 cX11_compares 6 Z q) : tc_Ok 6 Z 63 (bkX11_compares_63 (tc_At 6 Z) q) := by
  unfold bkX11_compares_63
  refine cvX11_missOf (pc := 63) X wm_RX11_149 (by decide) dX11_compares_63 ?_
  exact okX11_compares_66 X hr
def bkX11_compares_48 (P : Nat → tc_B) (q : tc_Q) : tc_B := tb_aload 0 <| tb_getf 9 1 <| tb_iload 3 <| tb_iald <| tb_i 1 <| tb_icmp_ne (tb_i 0 <| tb_cut (P 63) [0, 1, 2, 3]) <| tb_i 1 <| tb_cut (P 63) [0, 1, 2, 3]
theorem okX11_compares_48 {Z : tc_Z} {q : tc_Q} (X : tc_Cx ({ frames := 2, cells := 0, slots := 0, locals := 48 } : Room) cX11_compares 6 RX11 Z) (hr : tc_Rt 3 cX11_compares 6 Z q) : tc_Ok 6 Z 48 (bkX11_compares_48 (tc_At 6 Z) q) := by
  unfold bkX11_compares_48
  refine to_aload_n (pc := 48) X dX11_compares_48 rfl ?_
  refine gfX11_1 (pc := 49) X wf_RX11_13 dX11_compares_49 ?_
  refine to_iload_n (pc := 52) X dX11_compares_52 rfl ?_
  refine to_iald (pc := 53) X dX11_compares_53 ?_
  refine to_iconst (pc := 54) X dX11_compares_54 (by decide) ?_
  refine to_icmp_ne (pc := 55) (tgt := 62) X dX11_compares_55 (by decide) ?_ ?_
  · refine to_iconst (pc := 62) X dX11_compares_62 (by decide) ?_
    exact to_cut [0, 1, 2, 3] (fun _ _ _ h => h)
  refine to_iconst (pc := 58) X dX11_compares_58 (by decide) ?_
  refine to_goto (pc := 59) (tgt := 63) X dX11_compares_59 (by decide) ?_
  exact to_cut [0, 1, 2, 3] (fun _ _ _ h => h)
def bkX11_compares_38 (P : Nat → tc_B) (q : tc_Q) : tc_B := tb_if_eq (tb_cut (P 147) [0, 1, 2, 3]) <| tb_aload 0 <| tb_aload 0 <| tb_iload 1 <| tb_iload 3 <| tb_callV 2 7 9 RX11_toldBy <| bkX11_compares_48 P q
theorem okX11_compares_38 {Z : tc_Z} {q : tc_Q} (X : tc_Cx ({ frames := 2, cells := 0, slots := 0, locals := 48 } : Room) cX11_compares 6 RX11 Z) (hr : tc_Rt 3 cX11_compares 6 Z q) : tc_Ok 6 Z 38 (bkX11_compares_38 (tc_At 6 Z) q) := by
  unfold bkX11_compares_38
  refine to_if_eq (pc := 38) (tgt := 147) X dX11_compares_38 (by decide) ?_ ?_
  · exact to_cut [0, 1, 2, 3] (fun _ _ _ h => h)
  refine to_aload_n (pc := 41) X dX11_compares_41 rfl ?_
  refine to_aload_n (pc := 42) X dX11_compares_42 rfl ?_
  refine to_iload_n (pc := 43) X dX11_compares_43 rfl ?_
  refine to_iload_n (pc := 44) X dX11_compares_44 rfl ?_
  refine cvX11_toldBy (pc := 45) X wm_RX11_84 (by decide) dX11_compares_45 ?_
  exact okX11_compares_48 X hr
def bkX11_compares_29 (P : Nat → tc_B) (q : tc_Q) : tc_B := tb_if_eq (tb_cut (P 147) [0, 1, 2, 3]) <| tb_aload 0 <| tb_iload 2 <| tb_iload 3 <| tb_callV 2 3 9 RX11_isCase <| bkX11_compares_38 P q
theorem okX11_compares_29 {Z : tc_Z} {q : tc_Q} (X : tc_Cx ({ frames := 2, cells := 0, slots := 0, locals := 48 } : Room) cX11_compares 6 RX11 Z) (hr : tc_Rt 3 cX11_compares 6 Z q) : tc_Ok 6 Z 29 (bkX11_compares_29 (tc_At 6 Z) q) := by
  unfold bkX11_compares_29
  refine to_if_eq (pc := 29) (tgt := 147) X dX11_compares_29 (by decide) ?_ ?_
  · exact to_cut [0, 1, 2, 3] (fun _ _ _ h => h)
  refine to_aload_n (pc := 32) X dX11_compares_32 rfl ?_
  refine to_iload_n (pc := 33) X dX11_compares_33 rfl ?_
  refine to_iload_n (pc := 34) X dX11_compares_34 rfl ?_
  refine cvX11_isCase (pc := 35) X wm_RX11_153 (by decide) dX11_compares_35 ?_
  exact okX11_compares_38 X hr
def bkX11_compares_17 (P : Nat → tc_B) (q : tc_Q) : tc_B := tb_iload 3 <| tb_i 40 <| tb_icmp_ge (tb_vret q) <| tb_aload 0 <| tb_iload 1 <| tb_iload 3 <| tb_callV 2 3 9 RX11_isCase <| bkX11_compares_29 P q
theorem okX11_compares_17 {Z : tc_Z} {q : tc_Q} (X : tc_Cx ({ frames := 2, cells := 0, slots := 0, locals := 48 } : Room) cX11_compares 6 RX11 Z) (hr : tc_Rt 3 cX11_compares 6 Z q) : tc_Ok 6 Z 17 (bkX11_compares_17 (tc_At 6 Z) q) := by
  unfold bkX11_compares_17
  refine to_iload_n (pc := 17) X dX11_compares_17 rfl ?_
  refine to_bipush (pc := 18) X dX11_compares_18 (by decide) ?_
  refine to_icmp_ge (pc := 20) (tgt := 153) X dX11_compares_20 (by decide) ?_ ?_
  · exact to_vret (pc := 153) hr dX11_compares_153
  refine to_aload_n (pc := 23) X dX11_compares_23 rfl ?_
  refine to_iload_n (pc := 24) X dX11_compares_24 rfl ?_
  refine to_iload_n (pc := 25) X dX11_compares_25 rfl ?_
  refine cvX11_isCase (pc := 26) X wm_RX11_153 (by decide) dX11_compares_26 ?_
  exact okX11_compares_29 X hr
def bkX11_compares_0 (P : Nat → tc_B) (q : tc_Q) : tc_B := tb_aload 0 <| tb_i 0 <| tb_putI 9 25 <| tb_aload 0 <| tb_i 0 <| tb_putI 9 26 <| tb_aload 0 <| tb_i 0 <| tb_putI 9 27 <| tb_i 0 <| tb_istore 3 <| tb_cut (P 17) [0, 1, 2, 3]
theorem okX11_compares_0 {Z : tc_Z} {q : tc_Q} (X : tc_Cx ({ frames := 2, cells := 0, slots := 0, locals := 48 } : Room) cX11_compares 6 RX11 Z) (hr : tc_Rt 3 cX11_compares 6 Z q) : tc_Ok 6 Z 0 (bkX11_compares_0 (tc_At 6 Z) q) := by
  unfold bkX11_compares_0
  refine to_aload_n (pc := 0) X dX11_compares_0 rfl ?_
  refine to_iconst (pc := 1) X dX11_compares_1 (by decide) ?_
  refine pfX11_25 (pc := 2) X wf_RX11_242 dX11_compares_2 ?_
  refine to_aload_n (pc := 5) X dX11_compares_5 rfl ?_
  refine to_iconst (pc := 6) X dX11_compares_6 (by decide) ?_
  refine pfX11_26 (pc := 7) X wf_RX11_245 dX11_compares_7 ?_
  refine to_aload_n (pc := 10) X dX11_compares_10 rfl ?_
  refine to_iconst (pc := 11) X dX11_compares_11 (by decide) ?_
  refine pfX11_27 (pc := 12) X wf_RX11_248 dX11_compares_12 ?_
  refine to_iconst (pc := 15) X dX11_compares_15 (by decide) ?_
  refine to_istore_n (pc := 16) X dX11_compares_16 rfl (by decide) ?_
  exact to_cut [0, 1, 2, 3] (fun _ _ _ h => h)
def RX11_compares (vs : List tc_V) (S : tc_S) (q : tc_Q) : Prop := ∀ P : Nat → tc_B, (∀ L K S, bkX11_compares_17 P q L K S → P 17 L K S) → (∀ L K S, bkX11_compares_63 P q L K S → P 63 L K S) → (∀ L K S, bkX11_compares_90 P q L K S → P 90 L K S) → (∀ L K S, bkX11_compares_122 P q L K S → P 122 L K S) → (∀ L K S, bkX11_compares_143 P q L K S → P 143 L K S) → (∀ L K S, bkX11_compares_147 P q L K S → P 147 L K S) → bkX11_compares_0 P q (tc_num 0 vs) [] S
theorem metX11_compares : tc_Met yX11_compares (Cond.code yX11_compares cX11_compares 6 none) ({ frames := 2, cells := 0, slots := 0, locals := 48 } : Room) 3 6 RX11_compares := tc_met (rk := 3) (by decide) ⟨rfl, rfl⟩ (fun Z q X hr vs S h => okX11_compares_0 X hr _ _ _ (h (tc_At 6 Z) (okX11_compares_17 X hr) (okX11_compares_63 X hr) (okX11_compares_90 X hr) (okX11_compares_122 X hr) (okX11_compares_143 X hr) (okX11_compares_147 X hr)))
theorem cvX11_compares {R : Room} {cc : ByteArray} {nL pc ix : Nat} {own : String} {Z : tc_Z} {k : tc_B} (X : tc_Cx R cc nL own Z) (h1 : Cond.methodLink own ix yX11_compares ∈ tc_tb) (hR : 2 + 1 ≤ R.frames ∧ 8 + (6 + 11) + 48 ≤ R.locals) (hd : decode cc pc = .ok (.invokevirtual ix, 3)) (h : tc_Ok nL Z (pc + 3) k) : tc_Ok nL Z pc (tb_callV 2 6 9 RX11_compares k) := to_callV X metX11_compares rfl ⟨rfl, rfl⟩ hR h1 wi_X11_compares wl_X11_compares wn_RX11 wc_X11_compares ⟨by decide +kernel, by decide +kernel, by decide +kernel, by decide +kernel⟩ hd h
def bkX11_better_22 (P : Nat → tc_B) (q : tc_Q) : tc_B := tb_iload 3 <| tb_tsw 0 3 [tb_aload 0 <| tb_getf 9 25 <| tb_iret q, tb_aload 0 <| tb_getf 9 26 <| tb_iret q, tb_aload 0 <| tb_getf 9 27 <| tb_iret q, tb_aload 0 <| tb_getf 9 25 <| tb_aload 0 <| tb_getf 9 26 <| tb_isub <| tb_aload 0 <| tb_getf 9 27 <| tb_isub <| tb_iret q] <| tb_i (-2) <| tb_iret q
theorem okX11_better_22 {Z : tc_Z} {q : tc_Q} (X : tc_Cx ({ frames := 3, cells := 0, slots := 0, locals := 73 } : Room) cX11_better 4 RX11 Z) (hr : tc_Rt 0 cX11_better 4 Z q) : tc_Ok 4 Z 22 (bkX11_better_22 (tc_At 4 Z) q) := by
  unfold bkX11_better_22
  refine to_iload_n (pc := 22) X dX11_better_22 rfl ?_
  refine to_tsw (pc := 23) (td := 82) [52, 57, 62, 67] X dX11_better_23 (by decide) (by decide) (by decide) (by decide) (by decide) (by decide) ?_ ?_
  · refine to_bipush (pc := 82) X dX11_better_82 (by decide) ?_
    exact to_iret (pc := 84) hr dX11_better_84
  refine ⟨?_, ?_⟩
  · refine to_aload_n (pc := 52) X dX11_better_52 rfl ?_
    refine gfX11_25 (pc := 53) X wf_RX11_242 dX11_better_53 ?_
    exact to_iret (pc := 56) hr dX11_better_56
  refine ⟨?_, ?_⟩
  · refine to_aload_n (pc := 57) X dX11_better_57 rfl ?_
    refine gfX11_26 (pc := 58) X wf_RX11_245 dX11_better_58 ?_
    exact to_iret (pc := 61) hr dX11_better_61
  refine ⟨?_, ?_⟩
  · refine to_aload_n (pc := 62) X dX11_better_62 rfl ?_
    refine gfX11_27 (pc := 63) X wf_RX11_248 dX11_better_63 ?_
    exact to_iret (pc := 66) hr dX11_better_66
  refine ⟨?_, ?_⟩
  · refine to_aload_n (pc := 67) X dX11_better_67 rfl ?_
    refine gfX11_25 (pc := 68) X wf_RX11_242 dX11_better_68 ?_
    refine to_aload_n (pc := 71) X dX11_better_71 rfl ?_
    refine gfX11_26 (pc := 72) X wf_RX11_245 dX11_better_72 ?_
    refine to_isub (pc := 75) X dX11_better_75 ?_
    refine to_aload_n (pc := 76) X dX11_better_76 rfl ?_
    refine gfX11_27 (pc := 77) X wf_RX11_248 dX11_better_77 ?_
    refine to_isub (pc := 80) X dX11_better_80 ?_
    exact to_iret (pc := 81) hr dX11_better_81
  trivial
def bkX11_better_11 (P : Nat → tc_B) (q : tc_Q) : tc_B := tb_if_ne (tb_aload 0 <| tb_iload 1 <| tb_iload 2 <| tb_callV 2 6 9 RX11_compares <| bkX11_better_22 P q) <| tb_i (-1) <| tb_iret q
theorem okX11_better_11 {Z : tc_Z} {q : tc_Q} (X : tc_Cx ({ frames := 3, cells := 0, slots := 0, locals := 73 } : Room) cX11_better 4 RX11 Z) (hr : tc_Rt 0 cX11_better 4 Z q) : tc_Ok 4 Z 11 (bkX11_better_11 (tc_At 4 Z) q) := by
  unfold bkX11_better_11
  refine to_if_ne (pc := 11) (tgt := 16) X dX11_better_11 (by decide) ?_ ?_
  · refine to_aload_n (pc := 16) X dX11_better_16 rfl ?_
    refine to_iload_n (pc := 17) X dX11_better_17 rfl ?_
    refine to_iload_n (pc := 18) X dX11_better_18 rfl ?_
    refine cvX11_compares (pc := 19) X wm_RX11_251 (by decide) dX11_better_19 ?_
    exact okX11_better_22 X hr
  refine to_iconst (pc := 14) X dX11_better_14 (by decide) ?_
  exact to_iret (pc := 15) hr dX11_better_15
def bkX11_better_4 (P : Nat → tc_B) (q : tc_Q) : tc_B := tb_if_eq (tb_i (-1) <| tb_iret q) <| tb_iload 2 <| tb_callS 1 1 RX11_isAny <| bkX11_better_11 P q
theorem okX11_better_4 {Z : tc_Z} {q : tc_Q} (X : tc_Cx ({ frames := 3, cells := 0, slots := 0, locals := 73 } : Room) cX11_better 4 RX11 Z) (hr : tc_Rt 0 cX11_better 4 Z q) : tc_Ok 4 Z 4 (bkX11_better_4 (tc_At 4 Z) q) := by
  unfold bkX11_better_4
  refine to_if_eq (pc := 4) (tgt := 14) X dX11_better_4 (by decide) ?_ ?_
  · refine to_iconst (pc := 14) X dX11_better_14 (by decide) ?_
    exact to_iret (pc := 15) hr dX11_better_15
  refine to_iload_n (pc := 7) X dX11_better_7 rfl ?_
  refine cvX11_isAny (pc := 8) X wm_RX11_81 (by decide) dX11_better_8 ?_
  exact okX11_better_11 X hr
def bkX11_better_0 (P : Nat → tc_B) (q : tc_Q) : tc_B := tb_iload 1 <| tb_callS 1 1 RX11_isAny <| bkX11_better_4 P q
theorem okX11_better_0 {Z : tc_Z} {q : tc_Q} (X : tc_Cx ({ frames := 3, cells := 0, slots := 0, locals := 73 } : Room) cX11_better 4 RX11 Z) (hr : tc_Rt 0 cX11_better 4 Z q) : tc_Ok 4 Z 0 (bkX11_better_0 (tc_At 4 Z) q) := by
  unfold bkX11_better_0
  refine to_iload_n (pc := 0) X dX11_better_0 rfl ?_
  refine cvX11_isAny (pc := 1) X wm_RX11_81 (by decide) dX11_better_1 ?_
  exact okX11_better_4 X hr
def RX11_better (vs : List tc_V) (S : tc_S) (q : tc_Q) : Prop := ∀ P : Nat → tc_B, bkX11_better_0 P q (tc_num 0 vs) [] S
theorem metX11_better : tc_Met yX11_better (Cond.code yX11_better cX11_better 4 (some .int)) ({ frames := 3, cells := 0, slots := 0, locals := 73 } : Room) 0 4 RX11_better := tc_met (rk := 0) (by decide) ⟨rfl, rfl⟩ (fun Z q X hr vs S h => okX11_better_0 X hr _ _ _ (h (tc_At 4 Z)))
theorem cvX11_better {R : Room} {cc : ByteArray} {nL pc ix : Nat} {own : String} {Z : tc_Z} {k : tc_B} (X : tc_Cx R cc nL own Z) (h1 : Cond.methodLink own ix yX11_better ∈ tc_tb) (hR : 3 + 1 ≤ R.frames ∧ 8 + (4 + 11) + 73 ≤ R.locals) (hd : decode cc pc = .ok (.invokevirtual ix, 3)) (h : tc_Ok nL Z (pc + 3) k) : tc_Ok nL Z pc (tb_callV 3 4 9 RX11_better k) := to_callV X metX11_better rfl ⟨rfl, rfl⟩ hR h1 wi_X11_better wl_X11_better wn_RX11 wc_X11_better ⟨by decide +kernel, by decide +kernel, by decide +kernel, by decide +kernel⟩ hd h
def bkX11_choose_5 (P : Nat → tc_B) (q : tc_Q) : tc_B := tb_iload 4 <| tb_iload 1 <| tb_icmp_ge (tb_lload 2 <| tb_jret q) <| tb_lload 2 <| tb_iload 0 <| tb_iload 4 <| tb_isub <| tb_i2l <| tb_lmul <| tb_iload 4 <| tb_i 1 <| tb_iadd <| tb_i2l <| tb_ldiv <| tb_lstore 2 <| tb_iinc 4 1 <| tb_cut (P 5) [0, 1, 2, 4]
theorem okX11_choose_5 {Z : tc_Z} {q : tc_Q} (X : tc_Cx ({ frames := 0, cells := 0, slots := 0, locals := 0 } : Room) cX11_choose 5 RX11 Z) (hr : tc_Rt 2 cX11_choose 5 Z q) : tc_Ok 5 Z 5 (bkX11_choose_5 (tc_At 5 Z) q) := by
  unfold bkX11_choose_5
  refine to_iload (pc := 5) X dX11_choose_5 ?_
  refine to_iload_n (pc := 7) X dX11_choose_7 rfl ?_
  refine to_icmp_ge (pc := 8) (tgt := 31) X dX11_choose_8 (by decide) ?_ ?_
  · refine to_lload_n (pc := 31) X dX11_choose_31 rfl ?_
    exact to_jret (pc := 32) hr dX11_choose_32
  refine to_lload_n (pc := 11) X dX11_choose_11 rfl ?_
  refine to_iload_n (pc := 12) X dX11_choose_12 rfl ?_
  refine to_iload (pc := 13) X dX11_choose_13 ?_
  refine to_isub (pc := 15) X dX11_choose_15 ?_
  refine to_i2l (pc := 16) X dX11_choose_16 ?_
  refine to_lmul (pc := 17) X dX11_choose_17 ?_
  refine to_iload (pc := 18) X dX11_choose_18 ?_
  refine to_iconst (pc := 20) X dX11_choose_20 (by decide) ?_
  refine to_iadd (pc := 21) X dX11_choose_21 ?_
  refine to_i2l (pc := 22) X dX11_choose_22 ?_
  refine to_ldiv (pc := 23) X dX11_choose_23 ?_
  refine to_lstore_n (pc := 24) X dX11_choose_24 rfl (by decide) ?_
  refine to_iinc (pc := 25) X dX11_choose_25 (by decide) (by decide) ?_
  refine to_goto (pc := 28) (tgt := 5) X dX11_choose_28 (by decide) ?_
  exact to_cut [0, 1, 2, 4] (fun _ _ _ h => h)
def bkX11_choose_0 (P : Nat → tc_B) (q : tc_Q) : tc_B := tb_j 1 <| tb_lstore 2 <| tb_i 0 <| tb_istore 4 <| tb_cut (P 5) [0, 1, 2, 4]
theorem okX11_choose_0 {Z : tc_Z} {q : tc_Q} (X : tc_Cx ({ frames := 0, cells := 0, slots := 0, locals := 0 } : Room) cX11_choose 5 RX11 Z) (hr : tc_Rt 2 cX11_choose 5 Z q) : tc_Ok 5 Z 0 (bkX11_choose_0 (tc_At 5 Z) q) := by
  unfold bkX11_choose_0
  refine to_lconst (pc := 0) X dX11_choose_0 (by decide) ?_
  refine to_lstore_n (pc := 1) X dX11_choose_1 rfl (by decide) ?_
  refine to_iconst (pc := 2) X dX11_choose_2 (by decide) ?_
  refine to_istore (pc := 3) X dX11_choose_3 (by decide) ?_
  exact to_cut [0, 1, 2, 4] (fun _ _ _ h => h)
def RX11_choose (vs : List tc_V) (S : tc_S) (q : tc_Q) : Prop := ∀ P : Nat → tc_B, (∀ L K S, bkX11_choose_5 P q L K S → P 5 L K S) → bkX11_choose_0 P q (tc_num 0 vs) [] S
theorem metX11_choose : tc_Met yX11_choose (Cond.code yX11_choose cX11_choose 5 (some .long)) ({ frames := 0, cells := 0, slots := 0, locals := 0 } : Room) 2 5 RX11_choose := tc_met (rk := 2) (by decide) ⟨rfl, rfl⟩ (fun Z q X hr vs S h => okX11_choose_0 X hr _ _ _ (h (tc_At 5 Z) (okX11_choose_5 X hr)))
theorem cvX11_choose {R : Room} {cc : ByteArray} {nL pc ix : Nat} {own : String} {Z : tc_Z} {k : tc_B} (X : tc_Cx R cc nL own Z) (h1 : Cond.methodLink own ix yX11_choose ∈ tc_tb) (hR : 0 + 1 ≤ R.frames ∧ 8 + (5 + 11) + 0 ≤ R.locals) (hd : decode cc pc = .ok (.invokestatic ix, 3)) (h : tc_Ok nL Z (pc + 3) k) : tc_Ok nL Z pc (tb_callS 2 5 RX11_choose k) := to_callS X metX11_choose ⟨rfl, rfl⟩ hR h1 ws_X11_choose wn_RX11 wc_X11_choose ⟨by decide +kernel, by decide +kernel, by decide +kernel⟩ hd h
def bkX11_luck_111 (P : Nat → tc_B) (q : tc_Q) : tc_B := tb_jret q
theorem okX11_luck_111 {Z : tc_Z} {q : tc_Q} (X : tc_Cx ({ frames := 3, cells := 0, slots := 0, locals := 73 } : Room) cX11_luck 8 RX11 Z) (hr : tc_Rt 2 cX11_luck 8 Z q) : tc_Ok 8 Z 111 (bkX11_luck_111 (tc_At 8 Z) q) := by
  unfold bkX11_luck_111
  exact to_jret (pc := 111) hr dX11_luck_111
def bkX11_luck_106 (P : Nat → tc_B) (q : tc_Q) : tc_B := tb_aload 0 <| tb_iload 3 <| tb_callV 1 2 9 RX11_part <| bkX11_luck_111 P q
theorem okX11_luck_106 {Z : tc_Z} {q : tc_Q} (X : tc_Cx ({ frames := 3, cells := 0, slots := 0, locals := 73 } : Room) cX11_luck 8 RX11 Z) (hr : tc_Rt 2 cX11_luck 8 Z q) : tc_Ok 8 Z 106 (bkX11_luck_106 (tc_At 8 Z) q) := by
  unfold bkX11_luck_106
  refine to_aload_n (pc := 106) X dX11_luck_106 rfl ?_
  refine to_iload_n (pc := 107) X dX11_luck_107 rfl ?_
  refine cvX11_part (pc := 108) X wm_RX11_173 (by decide) dX11_luck_108 ?_
  exact okX11_luck_111 X hr
def bkX11_luck_87 (P : Nat → tc_B) (q : tc_Q) : tc_B := tb_ladd <| tb_lstore 5 <| tb_iinc 7 1 <| tb_cut (P 71) [0, 3, 4, 5, 7]
theorem okX11_luck_87 {Z : tc_Z} {q : tc_Q} (X : tc_Cx ({ frames := 3, cells := 0, slots := 0, locals := 73 } : Room) cX11_luck 8 RX11 Z) (hr : tc_Rt 2 cX11_luck 8 Z q) : tc_Ok 8 Z 87 (bkX11_luck_87 (tc_At 8 Z) q) := by
  unfold bkX11_luck_87
  refine to_ladd (pc := 87) X dX11_luck_87 ?_
  refine to_lstore (pc := 88) X dX11_luck_88 (by decide) ?_
  refine to_iinc (pc := 90) X dX11_luck_90 (by decide) (by decide) ?_
  refine to_goto (pc := 93) (tgt := 71) X dX11_luck_93 (by decide) ?_
  exact to_cut [0, 3, 4, 5, 7] (fun _ _ _ h => h)
def bkX11_luck_71 (P : Nat → tc_B) (q : tc_Q) : tc_B := tb_iload 7 <| tb_iload 4 <| tb_icmp_gt (tb_aload 0 <| tb_lload 5 <| tb_j 1 <| tb_iload 4 <| tb_lshl <| tb_callV 2 11 9 RX11_becomesFraction <| bkX11_luck_106 P q) <| tb_lload 5 <| tb_iload 4 <| tb_iload 7 <| tb_callS 2 5 RX11_choose <| bkX11_luck_87 P q
theorem okX11_luck_71 {Z : tc_Z} {q : tc_Q} (X : tc_Cx ({ frames := 3, cells := 0, slots := 0, locals := 73 } : Room) cX11_luck 8 RX11 Z) (hr : tc_Rt 2 cX11_luck 8 Z q) : tc_Ok 8 Z 71 (bkX11_luck_71 (tc_At 8 Z) q) := by
  unfold bkX11_luck_71
  refine to_iload (pc := 71) X dX11_luck_71 ?_
  refine to_iload (pc := 73) X dX11_luck_73 ?_
  refine to_icmp_gt (pc := 75) (tgt := 96) X dX11_luck_75 (by decide) ?_ ?_
  · refine to_aload_n (pc := 96) X dX11_luck_96 rfl ?_
    refine to_lload (pc := 97) X dX11_luck_97 ?_
    refine to_lconst (pc := 99) X dX11_luck_99 (by decide) ?_
    refine to_iload (pc := 100) X dX11_luck_100 ?_
    refine to_lshl (pc := 102) X dX11_luck_102 ?_
    refine cvX11_becomesFraction (pc := 103) X wm_RX11_160 (by decide) dX11_luck_103 ?_
    exact okX11_luck_106 X hr
  refine to_lload (pc := 78) X dX11_luck_78 ?_
  refine to_iload (pc := 80) X dX11_luck_80 ?_
  refine to_iload (pc := 82) X dX11_luck_82 ?_
  refine cvX11_choose (pc := 84) X wm_RX11_254 (by decide) dX11_luck_84 ?_
  exact okX11_luck_87 X hr
def bkX11_luck_69 (P : Nat → tc_B) (q : tc_Q) : tc_B := tb_istore 7 <| tb_cut (P 71) [0, 3, 4, 5, 7]
theorem okX11_luck_69 {Z : tc_Z} {q : tc_Q} (X : tc_Cx ({ frames := 3, cells := 0, slots := 0, locals := 73 } : Room) cX11_luck 8 RX11 Z) (hr : tc_Rt 2 cX11_luck 8 Z q) : tc_Ok 8 Z 69 (bkX11_luck_69 (tc_At 8 Z) q) := by
  unfold bkX11_luck_69
  refine to_istore (pc := 69) X dX11_luck_69 (by decide) ?_
  exact to_cut [0, 3, 4, 5, 7] (fun _ _ _ h => h)
def bkX11_luck_33 (P : Nat → tc_B) (q : tc_Q) : tc_B := tb_aload 0 <| tb_getf 9 26 <| tb_aload 0 <| tb_getf 9 27 <| tb_iadd <| tb_istore 4 <| tb_j 0 <| tb_lstore 5 <| tb_aload 0 <| tb_getf 9 26 <| tb_aload 0 <| tb_getf 9 27 <| tb_icmp_le (tb_aload 0 <| tb_getf 9 27 <| tb_cut (P 69) [0, 3, 4, 5]) <| tb_aload 0 <| tb_getf 9 26 <| tb_cut (P 69) [0, 3, 4, 5]
theorem okX11_luck_33 {Z : tc_Z} {q : tc_Q} (X : tc_Cx ({ frames := 3, cells := 0, slots := 0, locals := 73 } : Room) cX11_luck 8 RX11 Z) (hr : tc_Rt 2 cX11_luck 8 Z q) : tc_Ok 8 Z 33 (bkX11_luck_33 (tc_At 8 Z) q) := by
  unfold bkX11_luck_33
  refine to_aload_n (pc := 33) X dX11_luck_33 rfl ?_
  refine gfX11_26 (pc := 34) X wf_RX11_245 dX11_luck_34 ?_
  refine to_aload_n (pc := 37) X dX11_luck_37 rfl ?_
  refine gfX11_27 (pc := 38) X wf_RX11_248 dX11_luck_38 ?_
  refine to_iadd (pc := 41) X dX11_luck_41 ?_
  refine to_istore (pc := 42) X dX11_luck_42 (by decide) ?_
  refine to_lconst (pc := 44) X dX11_luck_44 (by decide) ?_
  refine to_lstore (pc := 45) X dX11_luck_45 (by decide) ?_
  refine to_aload_n (pc := 47) X dX11_luck_47 rfl ?_
  refine gfX11_26 (pc := 48) X wf_RX11_245 dX11_luck_48 ?_
  refine to_aload_n (pc := 51) X dX11_luck_51 rfl ?_
  refine gfX11_27 (pc := 52) X wf_RX11_248 dX11_luck_52 ?_
  refine to_icmp_le (pc := 55) (tgt := 65) X dX11_luck_55 (by decide) ?_ ?_
  · refine to_aload_n (pc := 65) X dX11_luck_65 rfl ?_
    refine gfX11_27 (pc := 66) X wf_RX11_248 dX11_luck_66 ?_
    exact to_cut [0, 3, 4, 5] (fun _ _ _ h => h)
  refine to_aload_n (pc := 58) X dX11_luck_58 rfl ?_
  refine gfX11_26 (pc := 59) X wf_RX11_245 dX11_luck_59 ?_
  refine to_goto (pc := 62) (tgt := 69) X dX11_luck_62 (by decide) ?_
  exact to_cut [0, 3, 4, 5] (fun _ _ _ h => h)
def bkX11_luck_20 (P : Nat → tc_B) (q : tc_Q) : tc_B := tb_if_ne (tb_aload 0 <| tb_iload 1 <| tb_iload 2 <| tb_callV 2 6 9 RX11_compares <| bkX11_luck_33 P q) <| tb_j (-9223372036854775808) <| tb_jret q
theorem okX11_luck_20 {Z : tc_Z} {q : tc_Q} (X : tc_Cx ({ frames := 3, cells := 0, slots := 0, locals := 73 } : Room) cX11_luck 8 RX11 Z) (hr : tc_Rt 2 cX11_luck 8 Z q) : tc_Ok 8 Z 20 (bkX11_luck_20 (tc_At 8 Z) q) := by
  unfold bkX11_luck_20
  refine to_if_ne (pc := 20) (tgt := 27) X dX11_luck_20 (by decide) ?_ ?_
  · refine to_aload_n (pc := 27) X dX11_luck_27 rfl ?_
    refine to_iload_n (pc := 28) X dX11_luck_28 rfl ?_
    refine to_iload_n (pc := 29) X dX11_luck_29 rfl ?_
    refine cvX11_compares (pc := 30) X wm_RX11_251 (by decide) dX11_luck_30 ?_
    exact okX11_luck_33 X hr
  refine to_ldc2 (pc := 23) X wj_RX11_167 dX11_luck_23 ?_
  exact to_jret (pc := 26) hr dX11_luck_26
def bkX11_luck_11 (P : Nat → tc_B) (q : tc_Q) : tc_B := tb_if_eq (tb_j (-9223372036854775808) <| tb_jret q) <| tb_iload 3 <| tb_i 0 <| tb_i 1 <| tb_callS 3 3 RX11_within <| bkX11_luck_20 P q
theorem okX11_luck_11 {Z : tc_Z} {q : tc_Q} (X : tc_Cx ({ frames := 3, cells := 0, slots := 0, locals := 73 } : Room) cX11_luck 8 RX11 Z) (hr : tc_Rt 2 cX11_luck 8 Z q) : tc_Ok 8 Z 11 (bkX11_luck_11 (tc_At 8 Z) q) := by
  unfold bkX11_luck_11
  refine to_if_eq (pc := 11) (tgt := 23) X dX11_luck_11 (by decide) ?_ ?_
  · refine to_ldc2 (pc := 23) X wj_RX11_167 dX11_luck_23 ?_
    exact to_jret (pc := 26) hr dX11_luck_26
  refine to_iload_n (pc := 14) X dX11_luck_14 rfl ?_
  refine to_iconst (pc := 15) X dX11_luck_15 (by decide) ?_
  refine to_iconst (pc := 16) X dX11_luck_16 (by decide) ?_
  refine cvX11_within (pc := 17) X wm_RX11_66 (by decide) dX11_luck_17 ?_
  exact okX11_luck_20 X hr
def bkX11_luck_4 (P : Nat → tc_B) (q : tc_Q) : tc_B := tb_if_eq (tb_j (-9223372036854775808) <| tb_jret q) <| tb_iload 2 <| tb_callS 1 1 RX11_isAny <| bkX11_luck_11 P q
theorem okX11_luck_4 {Z : tc_Z} {q : tc_Q} (X : tc_Cx ({ frames := 3, cells := 0, slots := 0, locals := 73 } : Room) cX11_luck 8 RX11 Z) (hr : tc_Rt 2 cX11_luck 8 Z q) : tc_Ok 8 Z 4 (bkX11_luck_4 (tc_At 8 Z) q) := by
  unfold bkX11_luck_4
  refine to_if_eq (pc := 4) (tgt := 23) X dX11_luck_4 (by decide) ?_ ?_
  · refine to_ldc2 (pc := 23) X wj_RX11_167 dX11_luck_23 ?_
    exact to_jret (pc := 26) hr dX11_luck_26
  refine to_iload_n (pc := 7) X dX11_luck_7 rfl ?_
  refine cvX11_isAny (pc := 8) X wm_RX11_81 (by decide) dX11_luck_8 ?_
  exact okX11_luck_11 X hr
def bkX11_luck_0 (P : Nat → tc_B) (q : tc_Q) : tc_B := tb_iload 1 <| tb_callS 1 1 RX11_isAny <| bkX11_luck_4 P q
theorem okX11_luck_0 {Z : tc_Z} {q : tc_Q} (X : tc_Cx ({ frames := 3, cells := 0, slots := 0, locals := 73 } : Room) cX11_luck 8 RX11 Z) (hr : tc_Rt 2 cX11_luck 8 Z q) : tc_Ok 8 Z 0 (bkX11_luck_0 (tc_At 8 Z) q) := by
  unfold bkX11_luck_0
  refine to_iload_n (pc := 0) X dX11_luck_0 rfl ?_
  refine cvX11_isAny (pc := 1) X wm_RX11_81 (by decide) dX11_luck_1 ?_
  exact okX11_luck_4 X hr
def RX11_luck (vs : List tc_V) (S : tc_S) (q : tc_Q) : Prop := ∀ P : Nat → tc_B, (∀ L K S, bkX11_luck_69 P q L K S → P 69 L K S) → (∀ L K S, bkX11_luck_71 P q L K S → P 71 L K S) → bkX11_luck_0 P q (tc_num 0 vs) [] S
theorem metX11_luck : tc_Met yX11_luck (Cond.code yX11_luck cX11_luck 8 (some .long)) ({ frames := 3, cells := 0, slots := 0, locals := 73 } : Room) 2 8 RX11_luck := tc_met (rk := 2) (by decide) ⟨rfl, rfl⟩ (fun Z q X hr vs S h => okX11_luck_0 X hr _ _ _ (h (tc_At 8 Z) (okX11_luck_69 X hr) (okX11_luck_71 X hr)))
theorem cvX11_luck {R : Room} {cc : ByteArray} {nL pc ix : Nat} {own : String} {Z : tc_Z} {k : tc_B} (X : tc_Cx R cc nL own Z) (h1 : Cond.methodLink own ix yX11_luck ∈ tc_tb) (hR : 3 + 1 ≤ R.frames ∧ 8 + (8 + 11) + 73 ≤ R.locals) (hd : decode cc pc = .ok (.invokevirtual ix, 3)) (h : tc_Ok nL Z (pc + 3) k) : tc_Ok nL Z pc (tb_callV 3 8 9 RX11_luck k) := to_callV X metX11_luck rfl ⟨rfl, rfl⟩ hR h1 wi_X11_luck wl_X11_luck wn_RX11 wc_X11_luck ⟨by decide +kernel, by decide +kernel, by decide +kernel, by decide +kernel⟩ hd h
def bkX11_writes_0 (P : Nat → tc_B) (q : tc_Q) : tc_B := tb_aload 0 <| tb_getf 9 28 <| tb_aload 0 <| tb_getf 9 29 <| tb_iload 1 <| tb_iast <| tb_aload 0 <| tb_dup <| tb_getf 9 29 <| tb_i 1 <| tb_iadd <| tb_putI 9 29 <| tb_vret q
theorem okX11_writes_0 {Z : tc_Z} {q : tc_Q} (X : tc_Cx ({ frames := 0, cells := 0, slots := 0, locals := 0 } : Room) cX11_writes 2 RX11 Z) (hr : tc_Rt 3 cX11_writes 2 Z q) : tc_Ok 2 Z 0 (bkX11_writes_0 (tc_At 2 Z) q) := by
  unfold bkX11_writes_0
  refine to_aload_n (pc := 0) X dX11_writes_0 rfl ?_
  refine gfX11_28 (pc := 1) X wf_RX11_63 dX11_writes_1 ?_
  refine to_aload_n (pc := 4) X dX11_writes_4 rfl ?_
  refine gfX11_29 (pc := 5) X wf_RX11_257 dX11_writes_5 ?_
  refine to_iload_n (pc := 8) X dX11_writes_8 rfl ?_
  refine to_iast (pc := 9) X dX11_writes_9 ?_
  refine to_aload_n (pc := 10) X dX11_writes_10 rfl ?_
  refine to_dup (pc := 11) X dX11_writes_11 ?_
  refine gfX11_29 (pc := 12) X wf_RX11_257 dX11_writes_12 ?_
  refine to_iconst (pc := 15) X dX11_writes_15 (by decide) ?_
  refine to_iadd (pc := 16) X dX11_writes_16 ?_
  refine pfX11_29 (pc := 17) X wf_RX11_257 dX11_writes_17 ?_
  exact to_vret (pc := 20) hr dX11_writes_20
def RX11_writes (vs : List tc_V) (S : tc_S) (q : tc_Q) : Prop := ∀ P : Nat → tc_B, bkX11_writes_0 P q (tc_num 0 vs) [] S
theorem metX11_writes : tc_Met yX11_writes (Cond.code yX11_writes cX11_writes 2 none) ({ frames := 0, cells := 0, slots := 0, locals := 0 } : Room) 3 2 RX11_writes := tc_met (rk := 3) (by decide) ⟨rfl, rfl⟩ (fun Z q X hr vs S h => okX11_writes_0 X hr _ _ _ (h (tc_At 2 Z)))
theorem cvX11_writes {R : Room} {cc : ByteArray} {nL pc ix : Nat} {own : String} {Z : tc_Z} {k : tc_B} (X : tc_Cx R cc nL own Z) (h1 : Cond.methodLink own ix yX11_writes ∈ tc_tb) (hR : 0 + 1 ≤ R.frames ∧ 8 + (2 + 11) + 0 ≤ R.locals) (hd : decode cc pc = .ok (.invokevirtual ix, 3)) (h : tc_Ok nL Z (pc + 3) k) : tc_Ok nL Z pc (tb_callV 1 2 9 RX11_writes k) := to_callV X metX11_writes rfl ⟨rfl, rfl⟩ hR h1 wi_X11_writes wl_X11_writes wn_RX11 wc_X11_writes ⟨by decide +kernel, by decide +kernel, by decide +kernel, by decide +kernel⟩ hd h
def bkX11_writesNumber_42 (P : Nat → tc_B) (q : tc_Q) : tc_B := tb_lload 3 <| tb_j 10 <| tb_ldiv <| tb_lstore 3 <| tb_cut (P 21) [0, 1, 3]
theorem okX11_writesNumber_42 {Z : tc_Z} {q : tc_Q} (X : tc_Cx ({ frames := 1, cells := 0, slots := 0, locals := 21 } : Room) cX11_writesNumber 5 RX11 Z) (hr : tc_Rt 3 cX11_writesNumber 5 Z q) : tc_Ok 5 Z 42 (bkX11_writesNumber_42 (tc_At 5 Z) q) := by
  unfold bkX11_writesNumber_42
  refine to_lload_n (pc := 42) X dX11_writesNumber_42 rfl ?_
  refine to_ldc2 (pc := 43) X wj_RX11_262 dX11_writesNumber_43 ?_
  refine to_ldiv (pc := 46) X dX11_writesNumber_46 ?_
  refine to_lstore_n (pc := 47) X dX11_writesNumber_47 rfl (by decide) ?_
  refine to_goto (pc := 48) (tgt := 21) X dX11_writesNumber_48 (by decide) ?_
  exact to_cut [0, 1, 3] (fun _ _ _ h => h)
def bkX11_writesNumber_21 (P : Nat → tc_B) (q : tc_Q) : tc_B := tb_lload 3 <| tb_j 0 <| tb_lcmp <| tb_if_le (tb_vret q) <| tb_aload 0 <| tb_i 48 <| tb_lload 1 <| tb_lload 3 <| tb_ldiv <| tb_j 10 <| tb_lrem <| tb_l2i <| tb_iadd <| tb_callV 1 2 9 RX11_writes <| bkX11_writesNumber_42 P q
theorem okX11_writesNumber_21 {Z : tc_Z} {q : tc_Q} (X : tc_Cx ({ frames := 1, cells := 0, slots := 0, locals := 21 } : Room) cX11_writesNumber 5 RX11 Z) (hr : tc_Rt 3 cX11_writesNumber 5 Z q) : tc_Ok 5 Z 21 (bkX11_writesNumber_21 (tc_At 5 Z) q) := by
  unfold bkX11_writesNumber_21
  refine to_lload_n (pc := 21) X dX11_writesNumber_21 rfl ?_
  refine to_lconst (pc := 22) X dX11_writesNumber_22 (by decide) ?_
  refine to_lcmp (pc := 23) X dX11_writesNumber_23 ?_
  refine to_if_le (pc := 24) (tgt := 51) X dX11_writesNumber_24 (by decide) ?_ ?_
  · exact to_vret (pc := 51) hr dX11_writesNumber_51
  refine to_aload_n (pc := 27) X dX11_writesNumber_27 rfl ?_
  refine to_bipush (pc := 28) X dX11_writesNumber_28 (by decide) ?_
  refine to_lload_n (pc := 30) X dX11_writesNumber_30 rfl ?_
  refine to_lload_n (pc := 31) X dX11_writesNumber_31 rfl ?_
  refine to_ldiv (pc := 32) X dX11_writesNumber_32 ?_
  refine to_ldc2 (pc := 33) X wj_RX11_262 dX11_writesNumber_33 ?_
  refine to_lrem (pc := 36) X dX11_writesNumber_36 ?_
  refine to_l2i (pc := 37) X dX11_writesNumber_37 ?_
  refine to_iadd (pc := 38) X dX11_writesNumber_38 ?_
  refine cvX11_writes (pc := 39) X wm_RX11_264 (by decide) dX11_writesNumber_39 ?_
  exact okX11_writesNumber_42 X hr
def bkX11_writesNumber_2 (P : Nat → tc_B) (q : tc_Q) : tc_B := tb_lload 1 <| tb_lload 3 <| tb_ldiv <| tb_j 9 <| tb_lcmp <| tb_if_le (tb_cut (P 21) [0, 1, 3]) <| tb_lload 3 <| tb_j 10 <| tb_lmul <| tb_lstore 3 <| tb_cut (P 2) [0, 1, 3]
theorem okX11_writesNumber_2 {Z : tc_Z} {q : tc_Q} (X : tc_Cx ({ frames := 1, cells := 0, slots := 0, locals := 21 } : Room) cX11_writesNumber 5 RX11 Z) (hr : tc_Rt 3 cX11_writesNumber 5 Z q) : tc_Ok 5 Z 2 (bkX11_writesNumber_2 (tc_At 5 Z) q) := by
  unfold bkX11_writesNumber_2
  refine to_lload_n (pc := 2) X dX11_writesNumber_2 rfl ?_
  refine to_lload_n (pc := 3) X dX11_writesNumber_3 rfl ?_
  refine to_ldiv (pc := 4) X dX11_writesNumber_4 ?_
  refine to_ldc2 (pc := 5) X wj_RX11_260 dX11_writesNumber_5 ?_
  refine to_lcmp (pc := 8) X dX11_writesNumber_8 ?_
  refine to_if_le (pc := 9) (tgt := 21) X dX11_writesNumber_9 (by decide) ?_ ?_
  · exact to_cut [0, 1, 3] (fun _ _ _ h => h)
  refine to_lload_n (pc := 12) X dX11_writesNumber_12 rfl ?_
  refine to_ldc2 (pc := 13) X wj_RX11_262 dX11_writesNumber_13 ?_
  refine to_lmul (pc := 16) X dX11_writesNumber_16 ?_
  refine to_lstore_n (pc := 17) X dX11_writesNumber_17 rfl (by decide) ?_
  refine to_goto (pc := 18) (tgt := 2) X dX11_writesNumber_18 (by decide) ?_
  exact to_cut [0, 1, 3] (fun _ _ _ h => h)
def bkX11_writesNumber_0 (P : Nat → tc_B) (q : tc_Q) : tc_B := tb_j 1 <| tb_lstore 3 <| tb_cut (P 2) [0, 1, 3]
theorem okX11_writesNumber_0 {Z : tc_Z} {q : tc_Q} (X : tc_Cx ({ frames := 1, cells := 0, slots := 0, locals := 21 } : Room) cX11_writesNumber 5 RX11 Z) (hr : tc_Rt 3 cX11_writesNumber 5 Z q) : tc_Ok 5 Z 0 (bkX11_writesNumber_0 (tc_At 5 Z) q) := by
  unfold bkX11_writesNumber_0
  refine to_lconst (pc := 0) X dX11_writesNumber_0 (by decide) ?_
  refine to_lstore_n (pc := 1) X dX11_writesNumber_1 rfl (by decide) ?_
  exact to_cut [0, 1, 3] (fun _ _ _ h => h)
def RX11_writesNumber (vs : List tc_V) (S : tc_S) (q : tc_Q) : Prop := ∀ P : Nat → tc_B, (∀ L K S, bkX11_writesNumber_2 P q L K S → P 2 L K S) → (∀ L K S, bkX11_writesNumber_21 P q L K S → P 21 L K S) → bkX11_writesNumber_0 P q (tc_num 0 vs) [] S
theorem metX11_writesNumber : tc_Met yX11_writesNumber (Cond.code yX11_writesNumber cX11_writesNumber 5 none) ({ frames := 1, cells := 0, slots := 0, locals := 21 } : Room) 3 5 RX11_writesNumber := tc_met (rk := 3) (by decide) ⟨rfl, rfl⟩ (fun Z q X hr vs S h => okX11_writesNumber_0 X hr _ _ _ (h (tc_At 5 Z) (okX11_writesNumber_2 X hr) (okX11_writesNumber_21 X hr)))
theorem cvX11_writesNumber {R : Room} {cc : ByteArray} {nL pc ix : Nat} {own : String} {Z : tc_Z} {k : tc_B} (X : tc_Cx R cc nL own Z) (h1 : Cond.methodLink own ix yX11_writesNumber ∈ tc_tb) (hR : 1 + 1 ≤ R.frames ∧ 8 + (5 + 11) + 21 ≤ R.locals) (hd : decode cc pc = .ok (.invokevirtual ix, 3)) (h : tc_Ok nL Z (pc + 3) k) : tc_Ok nL Z pc (tb_callV 1 5 9 RX11_writesNumber k) := to_callV X metX11_writesNumber rfl ⟨rfl, rfl⟩ hR h1 wi_X11_writesNumber wl_X11_writesNumber wn_RX11 wc_X11_writesNumber ⟨by decide +kernel, by decide +kernel, by decide +kernel, by decide +kernel⟩ hd h
def bkX11_writesReport_225 (P : Nat → tc_B) (q : tc_Q) : tc_B := tb_iinc 2 1 <| tb_cut (P 137) [0, 1, 2]
theorem okX11_writesReport_225 {Z : tc_Z} {q : tc_Q} (X : tc_Cx ({ frames := 3, cells := 0, slots := 0, locals := 72 } : Room) cX11_writesReport 5 RX11 Z) (hr : tc_Rt 3 cX11_writesReport 5 Z q) : tc_Ok 5 Z 225 (bkX11_writesReport_225 (tc_At 5 Z) q) := by
  unfold bkX11_writesReport_225
  refine to_iinc (pc := 225) X dX11_writesReport_225 (by decide) (by decide) ?_
  refine to_goto (pc := 228) (tgt := 137) X dX11_writesReport_228 (by decide) ?_
  exact to_cut [0, 1, 2] (fun _ _ _ h => h)
def bkX11_writesReport_222 (P : Nat → tc_B) (q : tc_Q) : tc_B := tb_callV 1 2 9 RX11_writes <| tb_cut (P 225) [0, 1, 2]
theorem okX11_writesReport_222 {Z : tc_Z} {q : tc_Q} (X : tc_Cx ({ frames := 3, cells := 0, slots := 0, locals := 72 } : Room) cX11_writesReport 5 RX11 Z) (hr : tc_Rt 3 cX11_writesReport 5 Z q) : tc_Ok 5 Z 222 (bkX11_writesReport_222 (tc_At 5 Z) q) := by
  unfold bkX11_writesReport_222
  refine cvX11_writes (pc := 222) X wm_RX11_264 (by decide) dX11_writesReport_222 ?_
  exact to_cut [0, 1, 2] (fun _ _ _ h => h)
def bkX11_writesReport_196 (P : Nat → tc_B) (q : tc_Q) : tc_B := tb_istore 4 <| tb_aload 0 <| tb_iload 3 <| tb_i 50 <| tb_icmp_ne (tb_iload 4 <| tb_if_eq (tb_i 45 <| tb_cut (P 222) [0, 1, 2]) <| tb_i 43 <| tb_cut (P 222) [0, 1, 2]) <| tb_i 61 <| tb_cut (P 222) [0, 1, 2]
theorem okX11_writesReport_196 {Z : tc_Z} {q : tc_Q} (X : tc_Cx ({ frames := 3, cells := 0, slots := 0, locals := 72 } : Room) cX11_writesReport 5 RX11 Z) (hr : tc_Rt 3 cX11_writesReport 5 Z q) : tc_Ok 5 Z 196 (bkX11_writesReport_196 (tc_At 5 Z) q) := by
  unfold bkX11_writesReport_196
  refine to_istore (pc := 196) X dX11_writesReport_196 (by decide) ?_
  refine to_aload_n (pc := 198) X dX11_writesReport_198 rfl ?_
  refine to_iload_n (pc := 199) X dX11_writesReport_199 rfl ?_
  refine to_bipush (pc := 200) X dX11_writesReport_200 (by decide) ?_
  refine to_icmp_ne (pc := 202) (tgt := 210) X dX11_writesReport_202 (by decide) ?_ ?_
  · refine to_iload (pc := 210) X dX11_writesReport_210 ?_
    refine to_if_eq (pc := 212) (tgt := 220) X dX11_writesReport_212 (by decide) ?_ ?_
    · refine to_bipush (pc := 220) X dX11_writesReport_220 (by decide) ?_
      exact to_cut [0, 1, 2] (fun _ _ _ h => h)
    refine to_bipush (pc := 215) X dX11_writesReport_215 (by decide) ?_
    refine to_goto (pc := 217) (tgt := 222) X dX11_writesReport_217 (by decide) ?_
    exact to_cut [0, 1, 2] (fun _ _ _ h => h)
  refine to_bipush (pc := 205) X dX11_writesReport_205 (by decide) ?_
  refine to_goto (pc := 207) (tgt := 222) X dX11_writesReport_207 (by decide) ?_
  exact to_cut [0, 1, 2] (fun _ _ _ h => h)
def bkX11_writesReport_195 (P : Nat → tc_B) (q : tc_Q) : tc_B := tb_i 0 <| tb_cut (P 196) [0, 1, 2, 3]
theorem okX11_writesReport_195 {Z : tc_Z} {q : tc_Q} (X : tc_Cx ({ frames := 3, cells := 0, slots := 0, locals := 72 } : Room) cX11_writesReport 5 RX11 Z) (hr : tc_Rt 3 cX11_writesReport 5 Z q) : tc_Ok 5 Z 195 (bkX11_writesReport_195 (tc_At 5 Z) q) := by
  unfold bkX11_writesReport_195
  refine to_iconst (pc := 195) X dX11_writesReport_195 (by decide) ?_
  exact to_cut [0, 1, 2, 3] (fun _ _ _ h => h)
def bkX11_writesReport_191 (P : Nat → tc_B) (q : tc_Q) : tc_B := tb_i 1 <| tb_cut (P 196) [0, 1, 2, 3]
theorem okX11_writesReport_191 {Z : tc_Z} {q : tc_Q} (X : tc_Cx ({ frames := 3, cells := 0, slots := 0, locals := 72 } : Room) cX11_writesReport 5 RX11 Z) (hr : tc_Rt 3 cX11_writesReport 5 Z q) : tc_Ok 5 Z 191 (bkX11_writesReport_191 (tc_At 5 Z) q) := by
  unfold bkX11_writesReport_191
  refine to_iconst (pc := 191) X dX11_writesReport_191 (by decide) ?_
  refine to_goto (pc := 192) (tgt := 196) X dX11_writesReport_192 (by decide) ?_
  exact to_cut [0, 1, 2, 3] (fun _ _ _ h => h)
def bkX11_writesReport_175 (P : Nat → tc_B) (q : tc_Q) : tc_B := tb_iload 3 <| tb_i 50 <| tb_icmp_ge (tb_cut (P 195) [0, 1, 2, 3]) <| tb_aload 0 <| tb_getf 9 1 <| tb_iload 2 <| tb_iald <| tb_i 2 <| tb_icmp_ne (tb_cut (P 195) [0, 1, 2, 3]) <| tb_cut (P 191) [0, 1, 2, 3]
theorem okX11_writesReport_175 {Z : tc_Z} {q : tc_Q} (X : tc_Cx ({ frames := 3, cells := 0, slots := 0, locals := 72 } : Room) cX11_writesReport 5 RX11 Z) (hr : tc_Rt 3 cX11_writesReport 5 Z q) : tc_Ok 5 Z 175 (bkX11_writesReport_175 (tc_At 5 Z) q) := by
  unfold bkX11_writesReport_175
  refine to_iload_n (pc := 175) X dX11_writesReport_175 rfl ?_
  refine to_bipush (pc := 176) X dX11_writesReport_176 (by decide) ?_
  refine to_icmp_ge (pc := 178) (tgt := 195) X dX11_writesReport_178 (by decide) ?_ ?_
  · exact to_cut [0, 1, 2, 3] (fun _ _ _ h => h)
  refine to_aload_n (pc := 181) X dX11_writesReport_181 rfl ?_
  refine gfX11_1 (pc := 182) X wf_RX11_13 dX11_writesReport_182 ?_
  refine to_iload_n (pc := 185) X dX11_writesReport_185 rfl ?_
  refine to_iald (pc := 186) X dX11_writesReport_186 ?_
  refine to_iconst (pc := 187) X dX11_writesReport_187 (by decide) ?_
  refine to_icmp_ne (pc := 188) (tgt := 195) X dX11_writesReport_188 (by decide) ?_ ?_
  · exact to_cut [0, 1, 2, 3] (fun _ _ _ h => h)
  exact to_cut [0, 1, 2, 3] (fun _ _ _ h => h)
def bkX11_writesReport_158 (P : Nat → tc_B) (q : tc_Q) : tc_B := tb_istore 3 <| tb_iload 3 <| tb_i 50 <| tb_icmp_le (tb_cut (P 175) [0, 1, 2, 3]) <| tb_aload 0 <| tb_getf 9 1 <| tb_iload 2 <| tb_iald <| tb_i 1 <| tb_icmp_eq (tb_cut (P 191) [0, 1, 2, 3]) <| tb_cut (P 175) [0, 1, 2, 3]
theorem okX11_writesReport_158 {Z : tc_Z} {q : tc_Q} (X : tc_Cx ({ frames := 3, cells := 0, slots := 0, locals := 72 } : Room) cX11_writesReport 5 RX11 Z) (hr : tc_Rt 3 cX11_writesReport 5 Z q) : tc_Ok 5 Z 158 (bkX11_writesReport_158 (tc_At 5 Z) q) := by
  unfold bkX11_writesReport_158
  refine to_istore_n (pc := 158) X dX11_writesReport_158 rfl (by decide) ?_
  refine to_iload_n (pc := 159) X dX11_writesReport_159 rfl ?_
  refine to_bipush (pc := 160) X dX11_writesReport_160 (by decide) ?_
  refine to_icmp_le (pc := 162) (tgt := 175) X dX11_writesReport_162 (by decide) ?_ ?_
  · exact to_cut [0, 1, 2, 3] (fun _ _ _ h => h)
  refine to_aload_n (pc := 165) X dX11_writesReport_165 rfl ?_
  refine gfX11_1 (pc := 166) X wf_RX11_13 dX11_writesReport_166 ?_
  refine to_iload_n (pc := 169) X dX11_writesReport_169 rfl ?_
  refine to_iald (pc := 170) X dX11_writesReport_170 ?_
  refine to_iconst (pc := 171) X dX11_writesReport_171 (by decide) ?_
  refine to_icmp_eq (pc := 172) (tgt := 191) X dX11_writesReport_172 (by decide) ?_ ?_
  · exact to_cut [0, 1, 2, 3] (fun _ _ _ h => h)
  exact to_cut [0, 1, 2, 3] (fun _ _ _ h => h)
def bkX11_writesReport_149 (P : Nat → tc_B) (q : tc_Q) : tc_B := tb_if_eq (tb_cut (P 225) [0, 1, 2]) <| tb_aload 0 <| tb_iload 1 <| tb_iload 2 <| tb_callV 2 7 9 RX11_toldBy <| bkX11_writesReport_158 P q
theorem okX11_writesReport_149 {Z : tc_Z} {q : tc_Q} (X : tc_Cx ({ frames := 3, cells := 0, slots := 0, locals := 72 } : Room) cX11_writesReport 5 RX11 Z) (hr : tc_Rt 3 cX11_writesReport 5 Z q) : tc_Ok 5 Z 149 (bkX11_writesReport_149 (tc_At 5 Z) q) := by
  unfold bkX11_writesReport_149
  refine to_if_eq (pc := 149) (tgt := 225) X dX11_writesReport_149 (by decide) ?_ ?_
  · exact to_cut [0, 1, 2] (fun _ _ _ h => h)
  refine to_aload_n (pc := 152) X dX11_writesReport_152 rfl ?_
  refine to_iload_n (pc := 153) X dX11_writesReport_153 rfl ?_
  refine to_iload_n (pc := 154) X dX11_writesReport_154 rfl ?_
  refine cvX11_toldBy (pc := 155) X wm_RX11_84 (by decide) dX11_writesReport_155 ?_
  exact okX11_writesReport_158 X hr
def bkX11_writesReport_137 (P : Nat → tc_B) (q : tc_Q) : tc_B := tb_iload 2 <| tb_i 40 <| tb_icmp_ge (tb_vret q) <| tb_aload 0 <| tb_iload 1 <| tb_iload 2 <| tb_callV 2 3 9 RX11_isCase <| bkX11_writesReport_149 P q
theorem okX11_writesReport_137 {Z : tc_Z} {q : tc_Q} (X : tc_Cx ({ frames := 3, cells := 0, slots := 0, locals := 72 } : Room) cX11_writesReport 5 RX11 Z) (hr : tc_Rt 3 cX11_writesReport 5 Z q) : tc_Ok 5 Z 137 (bkX11_writesReport_137 (tc_At 5 Z) q) := by
  unfold bkX11_writesReport_137
  refine to_iload_n (pc := 137) X dX11_writesReport_137 rfl ?_
  refine to_bipush (pc := 138) X dX11_writesReport_138 (by decide) ?_
  refine to_icmp_ge (pc := 140) (tgt := 231) X dX11_writesReport_140 (by decide) ?_ ?_
  · exact to_vret (pc := 231) hr dX11_writesReport_231
  refine to_aload_n (pc := 143) X dX11_writesReport_143 rfl ?_
  refine to_iload_n (pc := 144) X dX11_writesReport_144 rfl ?_
  refine to_iload_n (pc := 145) X dX11_writesReport_145 rfl ?_
  refine cvX11_isCase (pc := 146) X wm_RX11_153 (by decide) dX11_writesReport_146 ?_
  exact okX11_writesReport_149 X hr
def bkX11_writesReport_135 (P : Nat → tc_B) (q : tc_Q) : tc_B := tb_i 0 <| tb_istore 2 <| tb_cut (P 137) [0, 1, 2]
theorem okX11_writesReport_135 {Z : tc_Z} {q : tc_Q} (X : tc_Cx ({ frames := 3, cells := 0, slots := 0, locals := 72 } : Room) cX11_writesReport 5 RX11 Z) (hr : tc_Rt 3 cX11_writesReport 5 Z q) : tc_Ok 5 Z 135 (bkX11_writesReport_135 (tc_At 5 Z) q) := by
  unfold bkX11_writesReport_135
  refine to_iconst (pc := 135) X dX11_writesReport_135 (by decide) ?_
  refine to_istore_n (pc := 136) X dX11_writesReport_136 rfl (by decide) ?_
  exact to_cut [0, 1, 2] (fun _ _ _ h => h)
def bkX11_writesReport_129 (P : Nat → tc_B) (q : tc_Q) : tc_B := tb_aload 0 <| tb_i 32 <| tb_callV 1 2 9 RX11_writes <| bkX11_writesReport_135 P q
theorem okX11_writesReport_129 {Z : tc_Z} {q : tc_Q} (X : tc_Cx ({ frames := 3, cells := 0, slots := 0, locals := 72 } : Room) cX11_writesReport 5 RX11 Z) (hr : tc_Rt 3 cX11_writesReport 5 Z q) : tc_Ok 5 Z 129 (bkX11_writesReport_129 (tc_At 5 Z) q) := by
  unfold bkX11_writesReport_129
  refine to_aload_n (pc := 129) X dX11_writesReport_129 rfl ?_
  refine to_bipush (pc := 130) X dX11_writesReport_130 (by decide) ?_
  refine cvX11_writes (pc := 132) X wm_RX11_264 (by decide) dX11_writesReport_132 ?_
  exact okX11_writesReport_135 X hr
def bkX11_writesReport_121 (P : Nat → tc_B) (q : tc_Q) : tc_B := tb_aload 0 <| tb_aload 0 <| tb_getf 9 11 <| tb_callV 1 5 9 RX11_writesNumber <| tb_cut (P 129) [0, 1]
theorem okX11_writesReport_121 {Z : tc_Z} {q : tc_Q} (X : tc_Cx ({ frames := 3, cells := 0, slots := 0, locals := 72 } : Room) cX11_writesReport 5 RX11 Z) (hr : tc_Rt 3 cX11_writesReport 5 Z q) : tc_Ok 5 Z 121 (bkX11_writesReport_121 (tc_At 5 Z) q) := by
  unfold bkX11_writesReport_121
  refine to_aload_n (pc := 121) X dX11_writesReport_121 rfl ?_
  refine to_aload_n (pc := 122) X dX11_writesReport_122 rfl ?_
  refine gfX11_11 (pc := 123) X wf_RX11_28 dX11_writesReport_123 ?_
  refine cvX11_writesNumber (pc := 126) X wm_RX11_267 (by decide) dX11_writesReport_126 ?_
  exact to_cut [0, 1] (fun _ _ _ h => h)
def bkX11_writesReport_115 (P : Nat → tc_B) (q : tc_Q) : tc_B := tb_aload 0 <| tb_i 47 <| tb_callV 1 2 9 RX11_writes <| bkX11_writesReport_121 P q
theorem okX11_writesReport_115 {Z : tc_Z} {q : tc_Q} (X : tc_Cx ({ frames := 3, cells := 0, slots := 0, locals := 72 } : Room) cX11_writesReport 5 RX11 Z) (hr : tc_Rt 3 cX11_writesReport 5 Z q) : tc_Ok 5 Z 115 (bkX11_writesReport_115 (tc_At 5 Z) q) := by
  unfold bkX11_writesReport_115
  refine to_aload_n (pc := 115) X dX11_writesReport_115 rfl ?_
  refine to_bipush (pc := 116) X dX11_writesReport_116 (by decide) ?_
  refine cvX11_writes (pc := 118) X wm_RX11_264 (by decide) dX11_writesReport_118 ?_
  exact okX11_writesReport_121 X hr
def bkX11_writesReport_107 (P : Nat → tc_B) (q : tc_Q) : tc_B := tb_aload 0 <| tb_aload 0 <| tb_getf 9 10 <| tb_callV 1 5 9 RX11_writesNumber <| bkX11_writesReport_115 P q
theorem okX11_writesReport_107 {Z : tc_Z} {q : tc_Q} (X : tc_Cx ({ frames := 3, cells := 0, slots := 0, locals := 72 } : Room) cX11_writesReport 5 RX11 Z) (hr : tc_Rt 3 cX11_writesReport 5 Z q) : tc_Ok 5 Z 107 (bkX11_writesReport_107 (tc_At 5 Z) q) := by
  unfold bkX11_writesReport_107
  refine to_aload_n (pc := 107) X dX11_writesReport_107 rfl ?_
  refine to_aload_n (pc := 108) X dX11_writesReport_108 rfl ?_
  refine gfX11_10 (pc := 109) X wf_RX11_157 dX11_writesReport_109 ?_
  refine cvX11_writesNumber (pc := 112) X wm_RX11_267 (by decide) dX11_writesReport_112 ?_
  exact okX11_writesReport_115 X hr
def bkX11_writesReport_103 (P : Nat → tc_B) (q : tc_Q) : tc_B := tb_i2l <| tb_callV 2 11 9 RX11_becomesFraction <| bkX11_writesReport_107 P q
theorem okX11_writesReport_103 {Z : tc_Z} {q : tc_Q} (X : tc_Cx ({ frames := 3, cells := 0, slots := 0, locals := 72 } : Room) cX11_writesReport 5 RX11 Z) (hr : tc_Rt 3 cX11_writesReport 5 Z q) : tc_Ok 5 Z 103 (bkX11_writesReport_103 (tc_At 5 Z) q) := by
  unfold bkX11_writesReport_103
  refine to_i2l (pc := 103) X dX11_writesReport_103 ?_
  refine cvX11_becomesFraction (pc := 104) X wm_RX11_160 (by decide) dX11_writesReport_104 ?_
  exact okX11_writesReport_107 X hr
def bkX11_writesReport_98 (P : Nat → tc_B) (q : tc_Q) : tc_B := tb_aload 0 <| tb_iload 1 <| tb_callV 1 4 9 RX11_cases <| bkX11_writesReport_103 P q
theorem okX11_writesReport_98 {Z : tc_Z} {q : tc_Q} (X : tc_Cx ({ frames := 3, cells := 0, slots := 0, locals := 72 } : Room) cX11_writesReport 5 RX11 Z) (hr : tc_Rt 3 cX11_writesReport 5 Z q) : tc_Ok 5 Z 98 (bkX11_writesReport_98 (tc_At 5 Z) q) := by
  unfold bkX11_writesReport_98
  refine to_aload_n (pc := 98) X dX11_writesReport_98 rfl ?_
  refine to_iload_n (pc := 99) X dX11_writesReport_99 rfl ?_
  refine cvX11_cases (pc := 100) X wm_RX11_164 (by decide) dX11_writesReport_100 ?_
  exact okX11_writesReport_103 X hr
def bkX11_writesReport_89 (P : Nat → tc_B) (q : tc_Q) : tc_B := tb_cut (P 129) [0, 1]
theorem okX11_writesReport_89 {Z : tc_Z} {q : tc_Q} (X : tc_Cx ({ frames := 3, cells := 0, slots := 0, locals := 72 } : Room) cX11_writesReport 5 RX11 Z) (hr : tc_Rt 3 cX11_writesReport 5 Z q) : tc_Ok 5 Z 89 (bkX11_writesReport_89 (tc_At 5 Z) q) := by
  unfold bkX11_writesReport_89
  refine to_goto (pc := 89) (tgt := 129) X dX11_writesReport_89 (by decide) ?_
  exact to_cut [0, 1] (fun _ _ _ h => h)
def bkX11_writesReport_80 (P : Nat → tc_B) (q : tc_Q) : tc_B := tb_if_ne (tb_aload 0 <| tb_aload 0 <| tb_iload 1 <| tb_callV 1 5 9 RX11_misses <| bkX11_writesReport_98 P q) <| tb_aload 0 <| tb_i 45 <| tb_callV 1 2 9 RX11_writes <| bkX11_writesReport_89 P q
theorem okX11_writesReport_80 {Z : tc_Z} {q : tc_Q} (X : tc_Cx ({ frames := 3, cells := 0, slots := 0, locals := 72 } : Room) cX11_writesReport 5 RX11 Z) (hr : tc_Rt 3 cX11_writesReport 5 Z q) : tc_Ok 5 Z 80 (bkX11_writesReport_80 (tc_At 5 Z) q) := by
  unfold bkX11_writesReport_80
  refine to_if_ne (pc := 80) (tgt := 92) X dX11_writesReport_80 (by decide) ?_ ?_
  · refine to_aload_n (pc := 92) X dX11_writesReport_92 rfl ?_
    refine to_aload_n (pc := 93) X dX11_writesReport_93 rfl ?_
    refine to_iload_n (pc := 94) X dX11_writesReport_94 rfl ?_
    refine cvX11_misses (pc := 95) X wm_RX11_169 (by decide) dX11_writesReport_95 ?_
    exact okX11_writesReport_98 X hr
  refine to_aload_n (pc := 83) X dX11_writesReport_83 rfl ?_
  refine to_bipush (pc := 84) X dX11_writesReport_84 (by decide) ?_
  refine cvX11_writes (pc := 86) X wm_RX11_264 (by decide) dX11_writesReport_86 ?_
  exact okX11_writesReport_89 X hr
def bkX11_writesReport_75 (P : Nat → tc_B) (q : tc_Q) : tc_B := tb_aload 0 <| tb_iload 1 <| tb_callV 1 4 9 RX11_cases <| bkX11_writesReport_80 P q
theorem okX11_writesReport_75 {Z : tc_Z} {q : tc_Q} (X : tc_Cx ({ frames := 3, cells := 0, slots := 0, locals := 72 } : Room) cX11_writesReport 5 RX11 Z) (hr : tc_Rt 3 cX11_writesReport 5 Z q) : tc_Ok 5 Z 75 (bkX11_writesReport_75 (tc_At 5 Z) q) := by
  unfold bkX11_writesReport_75
  refine to_aload_n (pc := 75) X dX11_writesReport_75 rfl ?_
  refine to_iload_n (pc := 76) X dX11_writesReport_76 rfl ?_
  refine cvX11_cases (pc := 77) X wm_RX11_164 (by decide) dX11_writesReport_77 ?_
  exact okX11_writesReport_80 X hr
def bkX11_writesReport_63 (P : Nat → tc_B) (q : tc_Q) : tc_B := tb_iinc 2 1 <| tb_cut (P 27) [0, 1, 2]
theorem okX11_writesReport_63 {Z : tc_Z} {q : tc_Q} (X : tc_Cx ({ frames := 3, cells := 0, slots := 0, locals := 72 } : Room) cX11_writesReport 5 RX11 Z) (hr : tc_Rt 3 cX11_writesReport 5 Z q) : tc_Ok 5 Z 63 (bkX11_writesReport_63 (tc_At 5 Z) q) := by
  unfold bkX11_writesReport_63
  refine to_iinc (pc := 63) X dX11_writesReport_63 (by decide) (by decide) ?_
  refine to_goto (pc := 66) (tgt := 27) X dX11_writesReport_66 (by decide) ?_
  exact to_cut [0, 1, 2] (fun _ _ _ h => h)
def bkX11_writesReport_39 (P : Nat → tc_B) (q : tc_Q) : tc_B := tb_icmp_ge (tb_aload 0 <| tb_i 32 <| tb_callV 1 2 9 RX11_writes <| bkX11_writesReport_75 P q) <| tb_aload 0 <| tb_aload 0 <| tb_getf 9 5 <| tb_i 6 <| tb_i 6 <| tb_aload 0 <| tb_getf 9 9 <| tb_iadd <| tb_imul <| tb_iload 2 <| tb_iadd <| tb_iald <| tb_callV 1 2 9 RX11_writes <| bkX11_writesReport_63 P q
theorem okX11_writesReport_39 {Z : tc_Z} {q : tc_Q} (X : tc_Cx ({ frames := 3, cells := 0, slots := 0, locals := 72 } : Room) cX11_writesReport 5 RX11 Z) (hr : tc_Rt 3 cX11_writesReport 5 Z q) : tc_Ok 5 Z 39 (bkX11_writesReport_39 (tc_At 5 Z) q) := by
  unfold bkX11_writesReport_39
  refine to_icmp_ge (pc := 39) (tgt := 69) X dX11_writesReport_39 (by decide) ?_ ?_
  · refine to_aload_n (pc := 69) X dX11_writesReport_69 rfl ?_
    refine to_bipush (pc := 70) X dX11_writesReport_70 (by decide) ?_
    refine cvX11_writes (pc := 72) X wm_RX11_264 (by decide) dX11_writesReport_72 ?_
    exact okX11_writesReport_75 X hr
  refine to_aload_n (pc := 42) X dX11_writesReport_42 rfl ?_
  refine to_aload_n (pc := 43) X dX11_writesReport_43 rfl ?_
  refine gfX11_5 (pc := 44) X wf_RX11_22 dX11_writesReport_44 ?_
  refine to_bipush (pc := 47) X dX11_writesReport_47 (by decide) ?_
  refine to_bipush (pc := 49) X dX11_writesReport_49 (by decide) ?_
  refine to_aload_n (pc := 51) X dX11_writesReport_51 rfl ?_
  refine gfX11_9 (pc := 52) X wf_RX11_146 dX11_writesReport_52 ?_
  refine to_iadd (pc := 55) X dX11_writesReport_55 ?_
  refine to_imul (pc := 56) X dX11_writesReport_56 ?_
  refine to_iload_n (pc := 57) X dX11_writesReport_57 rfl ?_
  refine to_iadd (pc := 58) X dX11_writesReport_58 ?_
  refine to_iald (pc := 59) X dX11_writesReport_59 ?_
  refine cvX11_writes (pc := 60) X wm_RX11_264 (by decide) dX11_writesReport_60 ?_
  exact okX11_writesReport_63 X hr
def bkX11_writesReport_27 (P : Nat → tc_B) (q : tc_Q) : tc_B := tb_iload 2 <| tb_aload 0 <| tb_i 6 <| tb_aload 0 <| tb_getf 9 9 <| tb_iadd <| tb_callV 1 3 9 RX11_wordLong <| bkX11_writesReport_39 P q
theorem okX11_writesReport_27 {Z : tc_Z} {q : tc_Q} (X : tc_Cx ({ frames := 3, cells := 0, slots := 0, locals := 72 } : Room) cX11_writesReport 5 RX11 Z) (hr : tc_Rt 3 cX11_writesReport 5 Z q) : tc_Ok 5 Z 27 (bkX11_writesReport_27 (tc_At 5 Z) q) := by
  unfold bkX11_writesReport_27
  refine to_iload_n (pc := 27) X dX11_writesReport_27 rfl ?_
  refine to_aload_n (pc := 28) X dX11_writesReport_28 rfl ?_
  refine to_bipush (pc := 29) X dX11_writesReport_29 (by decide) ?_
  refine to_aload_n (pc := 31) X dX11_writesReport_31 rfl ?_
  refine gfX11_9 (pc := 32) X wf_RX11_146 dX11_writesReport_32 ?_
  refine to_iadd (pc := 35) X dX11_writesReport_35 ?_
  refine cvX11_wordLong (pc := 36) X wm_RX11_97 (by decide) dX11_writesReport_36 ?_
  exact okX11_writesReport_39 X hr
def bkX11_writesReport_25 (P : Nat → tc_B) (q : tc_Q) : tc_B := tb_i 0 <| tb_istore 2 <| tb_cut (P 27) [0, 1, 2]
theorem okX11_writesReport_25 {Z : tc_Z} {q : tc_Q} (X : tc_Cx ({ frames := 3, cells := 0, slots := 0, locals := 72 } : Room) cX11_writesReport 5 RX11 Z) (hr : tc_Rt 3 cX11_writesReport 5 Z q) : tc_Ok 5 Z 25 (bkX11_writesReport_25 (tc_At 5 Z) q) := by
  unfold bkX11_writesReport_25
  refine to_iconst (pc := 25) X dX11_writesReport_25 (by decide) ?_
  refine to_istore_n (pc := 26) X dX11_writesReport_26 rfl (by decide) ?_
  exact to_cut [0, 1, 2] (fun _ _ _ h => h)
def bkX11_writesReport_19 (P : Nat → tc_B) (q : tc_Q) : tc_B := tb_aload 0 <| tb_i 32 <| tb_callV 1 2 9 RX11_writes <| bkX11_writesReport_25 P q
theorem okX11_writesReport_19 {Z : tc_Z} {q : tc_Q} (X : tc_Cx ({ frames := 3, cells := 0, slots := 0, locals := 72 } : Room) cX11_writesReport 5 RX11 Z) (hr : tc_Rt 3 cX11_writesReport 5 Z q) : tc_Ok 5 Z 19 (bkX11_writesReport_19 (tc_At 5 Z) q) := by
  unfold bkX11_writesReport_19
  refine to_aload_n (pc := 19) X dX11_writesReport_19 rfl ?_
  refine to_bipush (pc := 20) X dX11_writesReport_20 (by decide) ?_
  refine cvX11_writes (pc := 22) X wm_RX11_264 (by decide) dX11_writesReport_22 ?_
  exact okX11_writesReport_25 X hr
def bkX11_writesReport_11 (P : Nat → tc_B) (q : tc_Q) : tc_B := tb_aload 0 <| tb_i 48 <| tb_iload 1 <| tb_iadd <| tb_callV 1 2 9 RX11_writes <| bkX11_writesReport_19 P q
theorem okX11_writesReport_11 {Z : tc_Z} {q : tc_Q} (X : tc_Cx ({ frames := 3, cells := 0, slots := 0, locals := 72 } : Room) cX11_writesReport 5 RX11 Z) (hr : tc_Rt 3 cX11_writesReport 5 Z q) : tc_Ok 5 Z 11 (bkX11_writesReport_11 (tc_At 5 Z) q) := by
  unfold bkX11_writesReport_11
  refine to_aload_n (pc := 11) X dX11_writesReport_11 rfl ?_
  refine to_bipush (pc := 12) X dX11_writesReport_12 (by decide) ?_
  refine to_iload_n (pc := 14) X dX11_writesReport_14 rfl ?_
  refine to_iadd (pc := 15) X dX11_writesReport_15 ?_
  refine cvX11_writes (pc := 16) X wm_RX11_264 (by decide) dX11_writesReport_16 ?_
  exact okX11_writesReport_19 X hr
def bkX11_writesReport_0 (P : Nat → tc_B) (q : tc_Q) : tc_B := tb_aload 0 <| tb_i 0 <| tb_putI 9 29 <| tb_aload 0 <| tb_i 84 <| tb_callV 1 2 9 RX11_writes <| bkX11_writesReport_11 P q
theorem okX11_writesReport_0 {Z : tc_Z} {q : tc_Q} (X : tc_Cx ({ frames := 3, cells := 0, slots := 0, locals := 72 } : Room) cX11_writesReport 5 RX11 Z) (hr : tc_Rt 3 cX11_writesReport 5 Z q) : tc_Ok 5 Z 0 (bkX11_writesReport_0 (tc_At 5 Z) q) := by
  unfold bkX11_writesReport_0
  refine to_aload_n (pc := 0) X dX11_writesReport_0 rfl ?_
  refine to_iconst (pc := 1) X dX11_writesReport_1 (by decide) ?_
  refine pfX11_29 (pc := 2) X wf_RX11_257 dX11_writesReport_2 ?_
  refine to_aload_n (pc := 5) X dX11_writesReport_5 rfl ?_
  refine to_bipush (pc := 6) X dX11_writesReport_6 (by decide) ?_
  refine cvX11_writes (pc := 8) X wm_RX11_264 (by decide) dX11_writesReport_8 ?_
  exact okX11_writesReport_11 X hr
def RX11_writesReport (vs : List tc_V) (S : tc_S) (q : tc_Q) : Prop := ∀ P : Nat → tc_B, (∀ L K S, bkX11_writesReport_27 P q L K S → P 27 L K S) → (∀ L K S, bkX11_writesReport_129 P q L K S → P 129 L K S) → (∀ L K S, bkX11_writesReport_137 P q L K S → P 137 L K S) → (∀ L K S, bkX11_writesReport_175 P q L K S → P 175 L K S) → (∀ L K S, bkX11_writesReport_191 P q L K S → P 191 L K S) → (∀ L K S, bkX11_writesReport_195 P q L K S → P 195 L K S) → (∀ L K S, bkX11_writesReport_196 P q L K S → P 196 L K S) → (∀ L K S, bkX11_writesReport_222 P q L K S → P 222 L K S) → (∀ L K S, bkX11_writesReport_225 P q L K S → P 225 L K S) → bkX11_writesReport_0 P q (tc_num 0 vs) [] S
theorem metX11_writesReport : tc_Met yX11_writesReport (Cond.code yX11_writesReport cX11_writesReport 5 none) ({ frames := 3, cells := 0, slots := 0, locals := 72 } : Room) 3 5 RX11_writesReport := tc_met (rk := 3) (by decide) ⟨rfl, rfl⟩ (fun Z q X hr vs S h => okX11_writesReport_0 X hr _ _ _ (h (tc_At 5 Z) (okX11_writesReport_27 X hr) (okX11_writesReport_129 X hr) (okX11_writesReport_137 X hr) (okX11_writesReport_175 X hr) (okX11_writesReport_191 X hr) (okX11_writesReport_195 X hr) (okX11_writesReport_196 X hr) (okX11_writesReport_222 X hr) (okX11_writesReport_225 X hr)))
theorem cvX11_writesReport {R : Room} {cc : ByteArray} {nL pc ix : Nat} {own : String} {Z : tc_Z} {k : tc_B} (X : tc_Cx R cc nL own Z) (h1 : Cond.methodLink own ix yX11_writesReport ∈ tc_tb) (hR : 3 + 1 ≤ R.frames ∧ 8 + (5 + 11) + 72 ≤ R.locals) (hd : decode cc pc = .ok (.invokevirtual ix, 3)) (h : tc_Ok nL Z (pc + 3) k) : tc_Ok nL Z pc (tb_callV 1 5 9 RX11_writesReport k) := to_callV X metX11_writesReport rfl ⟨rfl, rfl⟩ hR h1 wi_X11_writesReport wl_X11_writesReport wn_RX11 wc_X11_writesReport ⟨by decide +kernel, by decide +kernel, by decide +kernel, by decide +kernel⟩ hd h
def bkX11_report_27 (P : Nat → tc_B) (q : tc_Q) : tc_B := tb_iload 2 <| tb_if_ge (tb_iload 2 <| tb_aload 0 <| tb_getf 9 29 <| tb_icmp_ge (tb_i (-9) <| tb_iret q) <| tb_aload 0 <| tb_getf 9 28 <| tb_iload 2 <| tb_iald <| tb_iret q) <| tb_aload 0 <| tb_getf 9 29 <| tb_iret q
theorem okX11_report_27 {Z : tc_Z} {q : tc_Q} (X : tc_Cx ({ frames := 4, cells := 0, slots := 0, locals := 96 } : Room) cX11_report 3 RX11 Z) (hr : tc_Rt 0 cX11_report 3 Z q) : tc_Ok 3 Z 27 (bkX11_report_27 (tc_At 3 Z) q) := by
  unfold bkX11_report_27
  refine to_iload_n (pc := 27) X dX11_report_27 rfl ?_
  refine to_if_ge (pc := 28) (tgt := 38) X dX11_report_28 (by decide) ?_ ?_
  · refine to_iload_n (pc := 38) X dX11_report_38 rfl ?_
    refine to_aload_n (pc := 39) X dX11_report_39 rfl ?_
    refine gfX11_29 (pc := 40) X wf_RX11_257 dX11_report_40 ?_
    refine to_icmp_ge (pc := 43) (tgt := 55) X dX11_report_43 (by decide) ?_ ?_
    · refine to_bipush (pc := 55) X dX11_report_55 (by decide) ?_
      exact to_iret (pc := 57) hr dX11_report_57
    refine to_aload_n (pc := 46) X dX11_report_46 rfl ?_
    refine gfX11_28 (pc := 47) X wf_RX11_63 dX11_report_47 ?_
    refine to_iload_n (pc := 50) X dX11_report_50 rfl ?_
    refine to_iald (pc := 51) X dX11_report_51 ?_
    refine to_goto (pc := 52) (tgt := 57) X dX11_report_52 (by decide) ?_
    exact to_iret (pc := 57) hr dX11_report_57
  refine to_aload_n (pc := 31) X dX11_report_31 rfl ?_
  refine gfX11_29 (pc := 32) X wf_RX11_257 dX11_report_32 ?_
  refine to_goto (pc := 35) (tgt := 57) X dX11_report_35 (by decide) ?_
  exact to_iret (pc := 57) hr dX11_report_57
def bkX11_report_16 (P : Nat → tc_B) (q : tc_Q) : tc_B := tb_if_ne (tb_aload 0 <| tb_iload 1 <| tb_callV 1 5 9 RX11_writesReport <| bkX11_report_27 P q) <| tb_i (-2) <| tb_iret q
theorem okX11_report_16 {Z : tc_Z} {q : tc_Q} (X : tc_Cx ({ frames := 4, cells := 0, slots := 0, locals := 96 } : Room) cX11_report 3 RX11 Z) (hr : tc_Rt 0 cX11_report 3 Z q) : tc_Ok 3 Z 16 (bkX11_report_16 (tc_At 3 Z) q) := by
  unfold bkX11_report_16
  refine to_if_ne (pc := 16) (tgt := 22) X dX11_report_16 (by decide) ?_ ?_
  · refine to_aload_n (pc := 22) X dX11_report_22 rfl ?_
    refine to_iload_n (pc := 23) X dX11_report_23 rfl ?_
    refine cvX11_writesReport (pc := 24) X wm_RX11_271 (by decide) dX11_report_24 ?_
    exact okX11_report_27 X hr
  refine to_bipush (pc := 19) X dX11_report_19 (by decide) ?_
  exact to_iret (pc := 21) hr dX11_report_21
def bkX11_report_4 (P : Nat → tc_B) (q : tc_Q) : tc_B := tb_if_ne (tb_iload 2 <| tb_i (-1) <| tb_i 99 <| tb_callS 3 3 RX11_within <| bkX11_report_16 P q) <| tb_i (-1) <| tb_iret q
theorem okX11_report_4 {Z : tc_Z} {q : tc_Q} (X : tc_Cx ({ frames := 4, cells := 0, slots := 0, locals := 96 } : Room) cX11_report 3 RX11 Z) (hr : tc_Rt 0 cX11_report 3 Z q) : tc_Ok 3 Z 4 (bkX11_report_4 (tc_At 3 Z) q) := by
  unfold bkX11_report_4
  refine to_if_ne (pc := 4) (tgt := 9) X dX11_report_4 (by decide) ?_ ?_
  · refine to_iload_n (pc := 9) X dX11_report_9 rfl ?_
    refine to_iconst (pc := 10) X dX11_report_10 (by decide) ?_
    refine to_bipush (pc := 11) X dX11_report_11 (by decide) ?_
    refine cvX11_within (pc := 13) X wm_RX11_66 (by decide) dX11_report_13 ?_
    exact okX11_report_16 X hr
  refine to_iconst (pc := 7) X dX11_report_7 (by decide) ?_
  exact to_iret (pc := 8) hr dX11_report_8
def bkX11_report_0 (P : Nat → tc_B) (q : tc_Q) : tc_B := tb_iload 1 <| tb_callS 1 1 RX11_isAny <| bkX11_report_4 P q
theorem okX11_report_0 {Z : tc_Z} {q : tc_Q} (X : tc_Cx ({ frames := 4, cells := 0, slots := 0, locals := 96 } : Room) cX11_report 3 RX11 Z) (hr : tc_Rt 0 cX11_report 3 Z q) : tc_Ok 3 Z 0 (bkX11_report_0 (tc_At 3 Z) q) := by
  unfold bkX11_report_0
  refine to_iload_n (pc := 0) X dX11_report_0 rfl ?_
  refine cvX11_isAny (pc := 1) X wm_RX11_81 (by decide) dX11_report_1 ?_
  exact okX11_report_4 X hr
def RX11_report (vs : List tc_V) (S : tc_S) (q : tc_Q) : Prop := ∀ P : Nat → tc_B, bkX11_report_0 P q (tc_num 0 vs) [] S
theorem metX11_report : tc_Met yX11_report (Cond.code yX11_report cX11_report 3 (some .int)) ({ frames := 4, cells := 0, slots := 0, locals := 96 } : Room) 0 3 RX11_report := tc_met (rk := 0) (by decide) ⟨rfl, rfl⟩ (fun Z q X hr vs S h => okX11_report_0 X hr _ _ _ (h (tc_At 3 Z)))
theorem cvX11_report {R : Room} {cc : ByteArray} {nL pc ix : Nat} {own : String} {Z : tc_Z} {k : tc_B} (X : tc_Cx R cc nL own Z) (h1 : Cond.methodLink own ix yX11_report ∈ tc_tb) (hR : 4 + 1 ≤ R.frames ∧ 8 + (3 + 11) + 96 ≤ R.locals) (hd : decode cc pc = .ok (.invokevirtual ix, 3)) (h : tc_Ok nL Z (pc + 3) k) : tc_Ok nL Z pc (tb_callV 2 3 9 RX11_report k) := to_callV X metX11_report rfl ⟨rfl, rfl⟩ hR h1 wi_X11_report wl_X11_report wn_RX11 wc_X11_report ⟨by decide +kernel, by decide +kernel, by decide +kernel, by decide +kernel⟩ hd h
def bkX11_many_188 (P : Nat → tc_B) (q : tc_Q) : tc_B := tb_iret q
theorem okX11_many_188 {Z : tc_Z} {q : tc_Q} (X : tc_Cx ({ frames := 3, cells := 0, slots := 0, locals := 71 } : Room) cX11_many 8 RX11 Z) (hr : tc_Rt 0 cX11_many 8 Z q) : tc_Ok 8 Z 188 (bkX11_many_188 (tc_At 8 Z) q) := by
  unfold bkX11_many_188
  exact to_iret (pc := 188) hr dX11_many_188
def bkX11_many_125 (P : Nat → tc_B) (q : tc_Q) : tc_B := tb_iadd <| tb_istore 5 <| tb_iinc 6 1 <| tb_cut (P 67) [0, 1, 2, 3, 4, 5, 6]
theorem okX11_many_125 {Z : tc_Z} {q : tc_Q} (X : tc_Cx ({ frames := 3, cells := 0, slots := 0, locals := 71 } : Room) cX11_many 8 RX11 Z) (hr : tc_Rt 0 cX11_many 8 Z q) : tc_Ok 8 Z 125 (bkX11_many_125 (tc_At 8 Z) q) := by
  unfold bkX11_many_125
  refine to_iadd (pc := 125) X dX11_many_125 ?_
  refine to_istore (pc := 126) X dX11_many_126 (by decide) ?_
  refine to_iinc (pc := 128) X dX11_many_128 (by decide) (by decide) ?_
  refine to_goto (pc := 131) (tgt := 67) X dX11_many_131 (by decide) ?_
  exact to_cut [0, 1, 2, 3, 4, 5, 6] (fun _ _ _ h => h)
def bkX11_many_108 (P : Nat → tc_B) (q : tc_Q) : tc_B := tb_iadd <| tb_istore 4 <| tb_iinc 7 1 <| tb_cut (P 76) [0, 1, 2, 3, 4, 5, 6, 7]
theorem okX11_many_108 {Z : tc_Z} {q : tc_Q} (X : tc_Cx ({ frames := 3, cells := 0, slots := 0, locals := 71 } : Room) cX11_many 8 RX11 Z) (hr : tc_Rt 0 cX11_many 8 Z q) : tc_Ok 8 Z 108 (bkX11_many_108 (tc_At 8 Z) q) := by
  unfold bkX11_many_108
  refine to_iadd (pc := 108) X dX11_many_108 ?_
  refine to_istore (pc := 109) X dX11_many_109 (by decide) ?_
  refine to_iinc (pc := 111) X dX11_many_111 (by decide) (by decide) ?_
  refine to_goto (pc := 114) (tgt := 76) X dX11_many_114 (by decide) ?_
  exact to_cut [0, 1, 2, 3, 4, 5, 6, 7] (fun _ _ _ h => h)
def bkX11_many_76 (P : Nat → tc_B) (q : tc_Q) : tc_B := tb_iload 7 <| tb_i 40 <| tb_icmp_ge (tb_iload 5 <| tb_aload 0 <| tb_iload 6 <| tb_callV 1 4 9 RX11_cases <| bkX11_many_125 P q) <| tb_iload 4 <| tb_aload 0 <| tb_getf 9 0 <| tb_i 40 <| tb_iload 6 <| tb_imul <| tb_iload 7 <| tb_iadd <| tb_iald <| tb_i (-9) <| tb_icmp_ne (tb_i 1 <| tb_cut (P 108) [0, 1, 2, 3, 5, 6, 7]) <| tb_i 0 <| tb_cut (P 108) [0, 1, 2, 3, 5, 6, 7]
theorem okX11_many_76 {Z : tc_Z} {q : tc_Q} (X : tc_Cx ({ frames := 3, cells := 0, slots := 0, locals := 71 } : Room) cX11_many 8 RX11 Z) (hr : tc_Rt 0 cX11_many 8 Z q) : tc_Ok 8 Z 76 (bkX11_many_76 (tc_At 8 Z) q) := by
  unfold bkX11_many_76
  refine to_iload (pc := 76) X dX11_many_76 ?_
  refine to_bipush (pc := 78) X dX11_many_78 (by decide) ?_
  refine to_icmp_ge (pc := 80) (tgt := 117) X dX11_many_80 (by decide) ?_ ?_
  · refine to_iload (pc := 117) X dX11_many_117 ?_
    refine to_aload_n (pc := 119) X dX11_many_119 rfl ?_
    refine to_iload (pc := 120) X dX11_many_120 ?_
    refine cvX11_cases (pc := 122) X wm_RX11_164 (by decide) dX11_many_122 ?_
    exact okX11_many_125 X hr
  refine to_iload (pc := 83) X dX11_many_83 ?_
  refine to_aload_n (pc := 85) X dX11_many_85 rfl ?_
  refine gfX11_0 (pc := 86) X wf_RX11_7 dX11_many_86 ?_
  refine to_bipush (pc := 89) X dX11_many_89 (by decide) ?_
  refine to_iload (pc := 91) X dX11_many_91 ?_
  refine to_imul (pc := 93) X dX11_many_93 ?_
  refine to_iload (pc := 94) X dX11_many_94 ?_
  refine to_iadd (pc := 96) X dX11_many_96 ?_
  refine to_iald (pc := 97) X dX11_many_97 ?_
  refine to_bipush (pc := 98) X dX11_many_98 (by decide) ?_
  refine to_icmp_ne (pc := 100) (tgt := 107) X dX11_many_100 (by decide) ?_ ?_
  · refine to_iconst (pc := 107) X dX11_many_107 (by decide) ?_
    exact to_cut [0, 1, 2, 3, 5, 6, 7] (fun _ _ _ h => h)
  refine to_iconst (pc := 103) X dX11_many_103 (by decide) ?_
  refine to_goto (pc := 104) (tgt := 108) X dX11_many_104 (by decide) ?_
  exact to_cut [0, 1, 2, 3, 5, 6, 7] (fun _ _ _ h => h)
def bkX11_many_67 (P : Nat → tc_B) (q : tc_Q) : tc_B := tb_iload 6 <| tb_i 4 <| tb_icmp_ge (tb_iload 1 <| tb_tsw 0 5 [tb_iload 2 <| tb_iret q, tb_iload 3 <| tb_iret q, tb_iload 4 <| tb_iret q, tb_aload 0 <| tb_getf 9 4 <| tb_iret q, tb_aload 0 <| tb_callV 0 3 9 RX11_cuts <| bkX11_many_188 P q, tb_iload 5 <| tb_iret q] <| tb_i (-2) <| tb_iret q) <| tb_i 0 <| tb_istore 7 <| tb_cut (P 76) [0, 1, 2, 3, 4, 5, 6, 7]
theorem okX11_many_67 {Z : tc_Z} {q : tc_Q} (X : tc_Cx ({ frames := 3, cells := 0, slots := 0, locals := 71 } : Room) cX11_many 8 RX11 Z) (hr : tc_Rt 0 cX11_many 8 Z q) : tc_Ok 8 Z 67 (bkX11_many_67 (tc_At 8 Z) q) := by
  unfold bkX11_many_67
  refine to_iload (pc := 67) X dX11_many_67 ?_
  refine to_iconst (pc := 69) X dX11_many_69 (by decide) ?_
  refine to_icmp_ge (pc := 70) (tgt := 134) X dX11_many_70 (by decide) ?_ ?_
  · refine to_iload_n (pc := 134) X dX11_many_134 rfl ?_
    refine to_tsw (pc := 135) (td := 192) [172, 174, 176, 179, 184, 189] X dX11_many_135 (by decide) (by decide) (by decide) (by decide) (by decide) (by decide) ?_ ?_
    · refine to_bipush (pc := 192) X dX11_many_192 (by decide) ?_
      exact to_iret (pc := 194) hr dX11_many_194
    refine ⟨?_, ?_⟩
    · refine to_iload_n (pc := 172) X dX11_many_172 rfl ?_
      exact to_iret (pc := 173) hr dX11_many_173
    refine ⟨?_, ?_⟩
    · refine to_iload_n (pc := 174) X dX11_many_174 rfl ?_
      exact to_iret (pc := 175) hr dX11_many_175
    refine ⟨?_, ?_⟩
    · refine to_iload (pc := 176) X dX11_many_176 ?_
      exact to_iret (pc := 178) hr dX11_many_178
    refine ⟨?_, ?_⟩
    · refine to_aload_n (pc := 179) X dX11_many_179 rfl ?_
      refine gfX11_4 (pc := 180) X wf_RX11_87 dX11_many_180 ?_
      exact to_iret (pc := 183) hr dX11_many_183
    refine ⟨?_, ?_⟩
    · refine to_aload_n (pc := 184) X dX11_many_184 rfl ?_
      refine cvX11_cuts (pc := 185) X wm_RX11_185 (by decide) dX11_many_185 ?_
      exact okX11_many_188 X hr
    refine ⟨?_, ?_⟩
    · refine to_iload (pc := 189) X dX11_many_189 ?_
      exact to_iret (pc := 191) hr dX11_many_191
    trivial
  refine to_iconst (pc := 73) X dX11_many_73 (by decide) ?_
  refine to_istore (pc := 74) X dX11_many_74 (by decide) ?_
  exact to_cut [0, 1, 2, 3, 4, 5, 6, 7] (fun _ _ _ h => h)
def bkX11_many_56 (P : Nat → tc_B) (q : tc_Q) : tc_B := tb_iadd <| tb_istore 3 <| tb_iinc 6 1 <| tb_cut (P 13) [0, 1, 2, 3, 4, 5, 6]
theorem okX11_many_56 {Z : tc_Z} {q : tc_Q} (X : tc_Cx ({ frames := 3, cells := 0, slots := 0, locals := 71 } : Room) cX11_many 8 RX11 Z) (hr : tc_Rt 0 cX11_many 8 Z q) : tc_Ok 8 Z 56 (bkX11_many_56 (tc_At 8 Z) q) := by
  unfold bkX11_many_56
  refine to_iadd (pc := 56) X dX11_many_56 ?_
  refine to_istore_n (pc := 57) X dX11_many_57 rfl (by decide) ?_
  refine to_iinc (pc := 58) X dX11_many_58 (by decide) (by decide) ?_
  refine to_goto (pc := 61) (tgt := 13) X dX11_many_61 (by decide) ?_
  exact to_cut [0, 1, 2, 3, 4, 5, 6] (fun _ _ _ h => h)
def bkX11_many_37 (P : Nat → tc_B) (q : tc_Q) : tc_B := tb_iadd <| tb_istore 2 <| tb_iload 3 <| tb_aload 0 <| tb_getf 9 1 <| tb_iload 6 <| tb_iald <| tb_i 2 <| tb_icmp_ne (tb_i 0 <| tb_cut (P 56) [0, 1, 2, 4, 5, 6]) <| tb_i 1 <| tb_cut (P 56) [0, 1, 2, 4, 5, 6]
theorem okX11_many_37 {Z : tc_Z} {q : tc_Q} (X : tc_Cx ({ frames := 3, cells := 0, slots := 0, locals := 71 } : Room) cX11_many 8 RX11 Z) (hr : tc_Rt 0 cX11_many 8 Z q) : tc_Ok 8 Z 37 (bkX11_many_37 (tc_At 8 Z) q) := by
  unfold bkX11_many_37
  refine to_iadd (pc := 37) X dX11_many_37 ?_
  refine to_istore_n (pc := 38) X dX11_many_38 rfl (by decide) ?_
  refine to_iload_n (pc := 39) X dX11_many_39 rfl ?_
  refine to_aload_n (pc := 40) X dX11_many_40 rfl ?_
  refine gfX11_1 (pc := 41) X wf_RX11_13 dX11_many_41 ?_
  refine to_iload (pc := 44) X dX11_many_44 ?_
  refine to_iald (pc := 46) X dX11_many_46 ?_
  refine to_iconst (pc := 47) X dX11_many_47 (by decide) ?_
  refine to_icmp_ne (pc := 48) (tgt := 55) X dX11_many_48 (by decide) ?_ ?_
  · refine to_iconst (pc := 55) X dX11_many_55 (by decide) ?_
    exact to_cut [0, 1, 2, 4, 5, 6] (fun _ _ _ h => h)
  refine to_iconst (pc := 51) X dX11_many_51 (by decide) ?_
  refine to_goto (pc := 52) (tgt := 56) X dX11_many_52 (by decide) ?_
  exact to_cut [0, 1, 2, 4, 5, 6] (fun _ _ _ h => h)
def bkX11_many_13 (P : Nat → tc_B) (q : tc_Q) : tc_B := tb_iload 6 <| tb_i 40 <| tb_icmp_ge (tb_i 0 <| tb_istore 6 <| tb_cut (P 67) [0, 1, 2, 3, 4, 5, 6]) <| tb_iload 2 <| tb_aload 0 <| tb_getf 9 1 <| tb_iload 6 <| tb_iald <| tb_i 1 <| tb_icmp_ne (tb_i 0 <| tb_cut (P 37) [0, 1, 3, 4, 5, 6]) <| tb_i 1 <| tb_cut (P 37) [0, 1, 3, 4, 5, 6]
theorem okX11_many_13 {Z : tc_Z} {q : tc_Q} (X : tc_Cx ({ frames := 3, cells := 0, slots := 0, locals := 71 } : Room) cX11_many 8 RX11 Z) (hr : tc_Rt 0 cX11_many 8 Z q) : tc_Ok 8 Z 13 (bkX11_many_13 (tc_At 8 Z) q) := by
  unfold bkX11_many_13
  refine to_iload (pc := 13) X dX11_many_13 ?_
  refine to_bipush (pc := 15) X dX11_many_15 (by decide) ?_
  refine to_icmp_ge (pc := 17) (tgt := 64) X dX11_many_17 (by decide) ?_ ?_
  · refine to_iconst (pc := 64) X dX11_many_64 (by decide) ?_
    refine to_istore (pc := 65) X dX11_many_65 (by decide) ?_
    exact to_cut [0, 1, 2, 3, 4, 5, 6] (fun _ _ _ h => h)
  refine to_iload_n (pc := 20) X dX11_many_20 rfl ?_
  refine to_aload_n (pc := 21) X dX11_many_21 rfl ?_
  refine gfX11_1 (pc := 22) X wf_RX11_13 dX11_many_22 ?_
  refine to_iload (pc := 25) X dX11_many_25 ?_
  refine to_iald (pc := 27) X dX11_many_27 ?_
  refine to_iconst (pc := 28) X dX11_many_28 (by decide) ?_
  refine to_icmp_ne (pc := 29) (tgt := 36) X dX11_many_29 (by decide) ?_ ?_
  · refine to_iconst (pc := 36) X dX11_many_36 (by decide) ?_
    exact to_cut [0, 1, 3, 4, 5, 6] (fun _ _ _ h => h)
  refine to_iconst (pc := 32) X dX11_many_32 (by decide) ?_
  refine to_goto (pc := 33) (tgt := 37) X dX11_many_33 (by decide) ?_
  exact to_cut [0, 1, 3, 4, 5, 6] (fun _ _ _ h => h)
def bkX11_many_0 (P : Nat → tc_B) (q : tc_Q) : tc_B := tb_i 0 <| tb_istore 2 <| tb_i 0 <| tb_istore 3 <| tb_i 0 <| tb_istore 4 <| tb_i 0 <| tb_istore 5 <| tb_i 0 <| tb_istore 6 <| tb_cut (P 13) [0, 1, 2, 3, 4, 5, 6]
theorem okX11_many_0 {Z : tc_Z} {q : tc_Q} (X : tc_Cx ({ frames := 3, cells := 0, slots := 0, locals := 71 } : Room) cX11_many 8 RX11 Z) (hr : tc_Rt 0 cX11_many 8 Z q) : tc_Ok 8 Z 0 (bkX11_many_0 (tc_At 8 Z) q) := by
  unfold bkX11_many_0
  refine to_iconst (pc := 0) X dX11_many_0 (by decide) ?_
  refine to_istore_n (pc := 1) X dX11_many_1 rfl (by decide) ?_
  refine to_iconst (pc := 2) X dX11_many_2 (by decide) ?_
  refine to_istore_n (pc := 3) X dX11_many_3 rfl (by decide) ?_
  refine to_iconst (pc := 4) X dX11_many_4 (by decide) ?_
  refine to_istore (pc := 5) X dX11_many_5 (by decide) ?_
  refine to_iconst (pc := 7) X dX11_many_7 (by decide) ?_
  refine to_istore (pc := 8) X dX11_many_8 (by decide) ?_
  refine to_iconst (pc := 10) X dX11_many_10 (by decide) ?_
  refine to_istore (pc := 11) X dX11_many_11 (by decide) ?_
  exact to_cut [0, 1, 2, 3, 4, 5, 6] (fun _ _ _ h => h)
def RX11_many (vs : List tc_V) (S : tc_S) (q : tc_Q) : Prop := ∀ P : Nat → tc_B, (∀ L K S, bkX11_many_13 P q L K S → P 13 L K S) → (∀ L K S, bkX11_many_37 P q L K S → P 37 L K S) → (∀ L K S, bkX11_many_56 P q L K S → P 56 L K S) → (∀ L K S, bkX11_many_67 P q L K S → P 67 L K S) → (∀ L K S, bkX11_many_76 P q L K S → P 76 L K S) → (∀ L K S, bkX11_many_108 P q L K S → P 108 L K S) → bkX11_many_0 P q (tc_num 0 vs) [] S
theorem metX11_many : tc_Met yX11_many (Cond.code yX11_many cX11_many 8 (some .int)) ({ frames := 3, cells := 0, slots := 0, locals := 71 } : Room) 0 8 RX11_many := tc_met (rk := 0) (by decide) ⟨rfl, rfl⟩ (fun Z q X hr vs S h => okX11_many_0 X hr _ _ _ (h (tc_At 8 Z) (okX11_many_13 X hr) (okX11_many_37 X hr) (okX11_many_56 X hr) (okX11_many_67 X hr) (okX11_many_76 X hr) (okX11_many_108 X hr)))
theorem cvX11_many {R : Room} {cc : ByteArray} {nL pc ix : Nat} {own : String} {Z : tc_Z} {k : tc_B} (X : tc_Cx R cc nL own Z) (h1 : Cond.methodLink own ix yX11_many ∈ tc_tb) (hR : 3 + 1 ≤ R.frames ∧ 8 + (8 + 11) + 71 ≤ R.locals) (hd : decode cc pc = .ok (.invokevirtual ix, 3)) (h : tc_Ok nL Z (pc + 3) k) : tc_Ok nL Z pc (tb_callV 1 8 9 RX11_many k) := to_callV X metX11_many rfl ⟨rfl, rfl⟩ hR h1 wi_X11_many wl_X11_many wn_RX11 wc_X11_many ⟨by decide +kernel, by decide +kernel, by decide +kernel, by decide +kernel⟩ hd h
