def bkX10_isPlainTeller_0 (P : Nat → tc_B) (q : tc_Q) : tc_B := tb_iload 0 <| tb_if_lt (tb_i 0 <| tb_zret q) <| tb_iload 0 <| tb_i 4 <| tb_icmp_ge (tb_i 0 <| tb_zret q) <| tb_i 1 <| tb_zret q
theorem okX10_isPlainTeller_0 {Z : tc_Z} {q : tc_Q} (X : tc_Cx ({ frames := 0, cells := 0, slots := 0, locals := 0 } : Room) cX10_isPlainTeller 1 RX10 Z) (hr : tc_Rt 1 cX10_isPlainTeller 1 Z q) : tc_Ok 1 Z 0 (bkX10_isPlainTeller_0 (tc_At 1 Z) q) := by
  unfold bkX10_isPlainTeller_0
  refine to_iload_n (pc := 0) X dX10_isPlainTeller_0 rfl ?_
  refine to_if_lt (pc := 1) (tgt := 13) X dX10_isPlainTeller_1 (by decide) ?_ ?_
  · refine to_iconst (pc := 13) X dX10_isPlainTeller_13 (by decide) ?_
    exact to_zret (pc := 14) hr dX10_isPlainTeller_14
  refine to_iload_n (pc := 4) X dX10_isPlainTeller_4 rfl ?_
  refine to_iconst (pc := 5) X dX10_isPlainTeller_5 (by decide) ?_
  refine to_icmp_ge (pc := 6) (tgt := 13) X dX10_isPlainTeller_6 (by decide) ?_ ?_
  · refine to_iconst (pc := 13) X dX10_isPlainTeller_13 (by decide) ?_
    exact to_zret (pc := 14) hr dX10_isPlainTeller_14
  refine to_iconst (pc := 9) X dX10_isPlainTeller_9 (by decide) ?_
  refine to_goto (pc := 10) (tgt := 14) X dX10_isPlainTeller_10 (by decide) ?_
  exact to_zret (pc := 14) hr dX10_isPlainTeller_14
def RX10_isPlainTeller (vs : List tc_V) (S : tc_S) (q : tc_Q) : Prop := ∀ P : Nat → tc_B, bkX10_isPlainTeller_0 P q (tc_num 0 vs) [] S
theorem metX10_isPlainTeller : tc_Met yX10_isPlainTeller (Cond.code yX10_isPlainTeller cX10_isPlainTeller 1 (some .boolean)) ({ frames := 0, cells := 0, slots := 0, locals := 0 } : Room) 1 1 RX10_isPlainTeller := tc_met (rk := 1) (by decide) ⟨rfl, rfl⟩ (fun Z q X hr vs S h => okX10_isPlainTeller_0 X hr _ _ _ (h (tc_At 1 Z)))
theorem cvX10_isPlainTeller {R : Room} {cc : ByteArray} {nL pc ix : Nat} {own : String} {Z : tc_Z} {k : tc_B} (X : tc_Cx R cc nL own Z) (h1 : Cond.methodLink own ix yX10_isPlainTeller ∈ tc_tb) (hR : 0 + 1 ≤ R.frames ∧ 8 + (1 + 11) + 0 ≤ R.locals) (hd : decode cc pc = .ok (.invokestatic ix, 3)) (h : tc_Ok nL Z (pc + 3) k) : tc_Ok nL Z pc (tb_callS 1 1 RX10_isPlainTeller k) := to_callS X metX10_isPlainTeller ⟨rfl, rfl⟩ hR h1 ws_X10_isPlainTeller wn_RX10 wc_X10_isPlainTeller ⟨by decide +kernel, by decide +kernel, by decide +kernel⟩ hd h
def bkX10_isEvent_0 (P : Nat → tc_B) (q : tc_Q) : tc_B := tb_iload 0 <| tb_if_lt (tb_i 0 <| tb_zret q) <| tb_iload 0 <| tb_i 40 <| tb_icmp_ge (tb_i 0 <| tb_zret q) <| tb_i 1 <| tb_zret q
theorem okX10_isEvent_0 {Z : tc_Z} {q : tc_Q} (X : tc_Cx ({ frames := 0, cells := 0, slots := 0, locals := 0 } : Room) cX10_isEvent 1 RX10 Z) (hr : tc_Rt 1 cX10_isEvent 1 Z q) : tc_Ok 1 Z 0 (bkX10_isEvent_0 (tc_At 1 Z) q) := by
  unfold bkX10_isEvent_0
  refine to_iload_n (pc := 0) X dX10_isEvent_0 rfl ?_
  refine to_if_lt (pc := 1) (tgt := 14) X dX10_isEvent_1 (by decide) ?_ ?_
  · refine to_iconst (pc := 14) X dX10_isEvent_14 (by decide) ?_
    exact to_zret (pc := 15) hr dX10_isEvent_15
  refine to_iload_n (pc := 4) X dX10_isEvent_4 rfl ?_
  refine to_bipush (pc := 5) X dX10_isEvent_5 (by decide) ?_
  refine to_icmp_ge (pc := 7) (tgt := 14) X dX10_isEvent_7 (by decide) ?_ ?_
  · refine to_iconst (pc := 14) X dX10_isEvent_14 (by decide) ?_
    exact to_zret (pc := 15) hr dX10_isEvent_15
  refine to_iconst (pc := 10) X dX10_isEvent_10 (by decide) ?_
  refine to_goto (pc := 11) (tgt := 15) X dX10_isEvent_11 (by decide) ?_
  exact to_zret (pc := 15) hr dX10_isEvent_15
def RX10_isEvent (vs : List tc_V) (S : tc_S) (q : tc_Q) : Prop := ∀ P : Nat → tc_B, bkX10_isEvent_0 P q (tc_num 0 vs) [] S
theorem metX10_isEvent : tc_Met yX10_isEvent (Cond.code yX10_isEvent cX10_isEvent 1 (some .boolean)) ({ frames := 0, cells := 0, slots := 0, locals := 0 } : Room) 1 1 RX10_isEvent := tc_met (rk := 1) (by decide) ⟨rfl, rfl⟩ (fun Z q X hr vs S h => okX10_isEvent_0 X hr _ _ _ (h (tc_At 1 Z)))
theorem cvX10_isEvent {R : Room} {cc : ByteArray} {nL pc ix : Nat} {own : String} {Z : tc_Z} {k : tc_B} (X : tc_Cx R cc nL own Z) (h1 : Cond.methodLink own ix yX10_isEvent ∈ tc_tb) (hR : 0 + 1 ≤ R.frames ∧ 8 + (1 + 11) + 0 ≤ R.locals) (hd : decode cc pc = .ok (.invokestatic ix, 3)) (h : tc_Ok nL Z (pc + 3) k) : tc_Ok nL Z pc (tb_callS 1 1 RX10_isEvent k) := to_callS X metX10_isEvent ⟨rfl, rfl⟩ hR h1 ws_X10_isEvent wn_RX10 wc_X10_isEvent ⟨by decide +kernel, by decide +kernel, by decide +kernel⟩ hd h
def bkX10_isChance_0 (P : Nat → tc_B) (q : tc_Q) : tc_B := tb_iload 0 <| tb_if_lt (tb_i 0 <| tb_zret q) <| tb_iload 0 <| tb_i 100 <| tb_icmp_gt (tb_i 0 <| tb_zret q) <| tb_i 1 <| tb_zret q
theorem okX10_isChance_0 {Z : tc_Z} {q : tc_Q} (X : tc_Cx ({ frames := 0, cells := 0, slots := 0, locals := 0 } : Room) cX10_isChance 1 RX10 Z) (hr : tc_Rt 1 cX10_isChance 1 Z q) : tc_Ok 1 Z 0 (bkX10_isChance_0 (tc_At 1 Z) q) := by
  unfold bkX10_isChance_0
  refine to_iload_n (pc := 0) X dX10_isChance_0 rfl ?_
  refine to_if_lt (pc := 1) (tgt := 14) X dX10_isChance_1 (by decide) ?_ ?_
  · refine to_iconst (pc := 14) X dX10_isChance_14 (by decide) ?_
    exact to_zret (pc := 15) hr dX10_isChance_15
  refine to_iload_n (pc := 4) X dX10_isChance_4 rfl ?_
  refine to_bipush (pc := 5) X dX10_isChance_5 (by decide) ?_
  refine to_icmp_gt (pc := 7) (tgt := 14) X dX10_isChance_7 (by decide) ?_ ?_
  · refine to_iconst (pc := 14) X dX10_isChance_14 (by decide) ?_
    exact to_zret (pc := 15) hr dX10_isChance_15
  refine to_iconst (pc := 10) X dX10_isChance_10 (by decide) ?_
  refine to_goto (pc := 11) (tgt := 15) X dX10_isChance_11 (by decide) ?_
  exact to_zret (pc := 15) hr dX10_isChance_15
def RX10_isChance (vs : List tc_V) (S : tc_S) (q : tc_Q) : Prop := ∀ P : Nat → tc_B, bkX10_isChance_0 P q (tc_num 0 vs) [] S
theorem metX10_isChance : tc_Met yX10_isChance (Cond.code yX10_isChance cX10_isChance 1 (some .boolean)) ({ frames := 0, cells := 0, slots := 0, locals := 0 } : Room) 1 1 RX10_isChance := tc_met (rk := 1) (by decide) ⟨rfl, rfl⟩ (fun Z q X hr vs S h => okX10_isChance_0 X hr _ _ _ (h (tc_At 1 Z)))
theorem cvX10_isChance {R : Room} {cc : ByteArray} {nL pc ix : Nat} {own : String} {Z : tc_Z} {k : tc_B} (X : tc_Cx R cc nL own Z) (h1 : Cond.methodLink own ix yX10_isChance ∈ tc_tb) (hR : 0 + 1 ≤ R.frames ∧ 8 + (1 + 11) + 0 ≤ R.locals) (hd : decode cc pc = .ok (.invokestatic ix, 3)) (h : tc_Ok nL Z (pc + 3) k) : tc_Ok nL Z pc (tb_callS 1 1 RX10_isChance k) := to_callS X metX10_isChance ⟨rfl, rfl⟩ hR h1 ws_X10_isChance wn_RX10 wc_X10_isChance ⟨by decide +kernel, by decide +kernel, by decide +kernel⟩ hd h
def bkX10_tell_36 (P : Nat → tc_B) (q : tc_Q) : tc_B := tb_iret q
theorem okX10_tell_36 {Z : tc_Z} {q : tc_Q} (X : tc_Cx ({ frames := 1, cells := 0, slots := 0, locals := 24 } : Room) cX10_tell 4 RX10 Z) (hr : tc_Rt 0 cX10_tell 4 Z q) : tc_Ok 4 Z 36 (bkX10_tell_36 (tc_At 4 Z) q) := by
  unfold bkX10_tell_36
  exact to_iret (pc := 36) hr dX10_tell_36
def bkX10_tell_20 (P : Nat → tc_B) (q : tc_Q) : tc_B := tb_if_ne (tb_aload 0 <| tb_getf 8 0 <| tb_iload 1 <| tb_iload 2 <| tb_iload 3 <| tb_callV 3 5 1 RX1_swapChance <| bkX10_tell_36 P q) <| tb_i (-2) <| tb_iret q
theorem okX10_tell_20 {Z : tc_Z} {q : tc_Q} (X : tc_Cx ({ frames := 1, cells := 0, slots := 0, locals := 24 } : Room) cX10_tell 4 RX10 Z) (hr : tc_Rt 0 cX10_tell 4 Z q) : tc_Ok 4 Z 20 (bkX10_tell_20 (tc_At 4 Z) q) := by
  unfold bkX10_tell_20
  refine to_if_ne (pc := 20) (tgt := 26) X dX10_tell_20 (by decide) ?_ ?_
  · refine to_aload_n (pc := 26) X dX10_tell_26 rfl ?_
    refine gfX10_0 (pc := 27) X wf_RX10_12 dX10_tell_27 ?_
    refine to_iload_n (pc := 30) X dX10_tell_30 rfl ?_
    refine to_iload_n (pc := 31) X dX10_tell_31 rfl ?_
    refine to_iload_n (pc := 32) X dX10_tell_32 rfl ?_
    refine cvX1_swapChance (pc := 33) X wm_RX10_103 (by decide) dX10_tell_33 ?_
    exact okX10_tell_36 X hr
  refine to_bipush (pc := 23) X dX10_tell_23 (by decide) ?_
  exact to_iret (pc := 25) hr dX10_tell_25
def bkX10_tell_11 (P : Nat → tc_B) (q : tc_Q) : tc_B := tb_if_ne (tb_iload 3 <| tb_callS 1 1 RX10_isChance <| bkX10_tell_20 P q) <| tb_i (-1) <| tb_iret q
theorem okX10_tell_11 {Z : tc_Z} {q : tc_Q} (X : tc_Cx ({ frames := 1, cells := 0, slots := 0, locals := 24 } : Room) cX10_tell 4 RX10 Z) (hr : tc_Rt 0 cX10_tell 4 Z q) : tc_Ok 4 Z 11 (bkX10_tell_11 (tc_At 4 Z) q) := by
  unfold bkX10_tell_11
  refine to_if_ne (pc := 11) (tgt := 16) X dX10_tell_11 (by decide) ?_ ?_
  · refine to_iload_n (pc := 16) X dX10_tell_16 rfl ?_
    refine cvX10_isChance (pc := 17) X wm_RX10_100 (by decide) dX10_tell_17 ?_
    exact okX10_tell_20 X hr
  refine to_iconst (pc := 14) X dX10_tell_14 (by decide) ?_
  exact to_iret (pc := 15) hr dX10_tell_15
def bkX10_tell_4 (P : Nat → tc_B) (q : tc_Q) : tc_B := tb_if_eq (tb_i (-1) <| tb_iret q) <| tb_iload 2 <| tb_callS 1 1 RX10_isEvent <| bkX10_tell_11 P q
theorem okX10_tell_4 {Z : tc_Z} {q : tc_Q} (X : tc_Cx ({ frames := 1, cells := 0, slots := 0, locals := 24 } : Room) cX10_tell 4 RX10 Z) (hr : tc_Rt 0 cX10_tell 4 Z q) : tc_Ok 4 Z 4 (bkX10_tell_4 (tc_At 4 Z) q) := by
  unfold bkX10_tell_4
  refine to_if_eq (pc := 4) (tgt := 14) X dX10_tell_4 (by decide) ?_ ?_
  · refine to_iconst (pc := 14) X dX10_tell_14 (by decide) ?_
    exact to_iret (pc := 15) hr dX10_tell_15
  refine to_iload_n (pc := 7) X dX10_tell_7 rfl ?_
  refine cvX10_isEvent (pc := 8) X wm_RX10_97 (by decide) dX10_tell_8 ?_
  exact okX10_tell_11 X hr
def bkX10_tell_0 (P : Nat → tc_B) (q : tc_Q) : tc_B := tb_iload 1 <| tb_callS 1 1 RX10_isPlainTeller <| bkX10_tell_4 P q
theorem okX10_tell_0 {Z : tc_Z} {q : tc_Q} (X : tc_Cx ({ frames := 1, cells := 0, slots := 0, locals := 24 } : Room) cX10_tell 4 RX10 Z) (hr : tc_Rt 0 cX10_tell 4 Z q) : tc_Ok 4 Z 0 (bkX10_tell_0 (tc_At 4 Z) q) := by
  unfold bkX10_tell_0
  refine to_iload_n (pc := 0) X dX10_tell_0 rfl ?_
  refine cvX10_isPlainTeller (pc := 1) X wm_RX10_93 (by decide) dX10_tell_1 ?_
  exact okX10_tell_4 X hr
def RX10_tell (vs : List tc_V) (S : tc_S) (q : tc_Q) : Prop := ∀ P : Nat → tc_B, bkX10_tell_0 P q (tc_num 0 vs) [] S
theorem metX10_tell : tc_Met yX10_tell (Cond.code yX10_tell cX10_tell 4 (some .int)) ({ frames := 1, cells := 0, slots := 0, locals := 24 } : Room) 0 4 RX10_tell := tc_met (rk := 0) (by decide) ⟨rfl, rfl⟩ (fun Z q X hr vs S h => okX10_tell_0 X hr _ _ _ (h (tc_At 4 Z)))
theorem cvX10_tell {R : Room} {cc : ByteArray} {nL pc ix : Nat} {own : String} {Z : tc_Z} {k : tc_B} (X : tc_Cx R cc nL own Z) (h1 : Cond.methodLink own ix yX10_tell ∈ tc_tb) (hR : 1 + 1 ≤ R.frames ∧ 8 + (4 + 11) + 24 ≤ R.locals) (hd : decode cc pc = .ok (.invokevirtual ix, 3)) (h : tc_Ok nL Z (pc + 3) k) : tc_Ok nL Z pc (tb_callV 3 4 8 RX10_tell k) := to_callV X metX10_tell rfl ⟨rfl, rfl⟩ hR h1 wi_X10_tell wl_X10_tell wn_RX10 wc_X10_tell ⟨by decide +kernel, by decide +kernel, by decide +kernel, by decide +kernel⟩ hd h
def bkX10_drop_27 (P : Nat → tc_B) (q : tc_Q) : tc_B := tb_iret q
theorem okX10_drop_27 {Z : tc_Z} {q : tc_Q} (X : tc_Cx ({ frames := 1, cells := 0, slots := 0, locals := 24 } : Room) cX10_drop 3 RX10 Z) (hr : tc_Rt 0 cX10_drop 3 Z q) : tc_Ok 3 Z 27 (bkX10_drop_27 (tc_At 3 Z) q) := by
  unfold bkX10_drop_27
  exact to_iret (pc := 27) hr dX10_drop_27
def bkX10_drop_11 (P : Nat → tc_B) (q : tc_Q) : tc_B := tb_if_ne (tb_aload 0 <| tb_getf 8 0 <| tb_iload 1 <| tb_iload 2 <| tb_i (-9) <| tb_callV 3 5 1 RX1_swapChance <| bkX10_drop_27 P q) <| tb_i (-1) <| tb_iret q
theorem okX10_drop_11 {Z : tc_Z} {q : tc_Q} (X : tc_Cx ({ frames := 1, cells := 0, slots := 0, locals := 24 } : Room) cX10_drop 3 RX10 Z) (hr : tc_Rt 0 cX10_drop 3 Z q) : tc_Ok 3 Z 11 (bkX10_drop_11 (tc_At 3 Z) q) := by
  unfold bkX10_drop_11
  refine to_if_ne (pc := 11) (tgt := 16) X dX10_drop_11 (by decide) ?_ ?_
  · refine to_aload_n (pc := 16) X dX10_drop_16 rfl ?_
    refine gfX10_0 (pc := 17) X wf_RX10_12 dX10_drop_17 ?_
    refine to_iload_n (pc := 20) X dX10_drop_20 rfl ?_
    refine to_iload_n (pc := 21) X dX10_drop_21 rfl ?_
    refine to_bipush (pc := 22) X dX10_drop_22 (by decide) ?_
    refine cvX1_swapChance (pc := 24) X wm_RX10_103 (by decide) dX10_drop_24 ?_
    exact okX10_drop_27 X hr
  refine to_iconst (pc := 14) X dX10_drop_14 (by decide) ?_
  exact to_iret (pc := 15) hr dX10_drop_15
def bkX10_drop_4 (P : Nat → tc_B) (q : tc_Q) : tc_B := tb_if_eq (tb_i (-1) <| tb_iret q) <| tb_iload 2 <| tb_callS 1 1 RX10_isEvent <| bkX10_drop_11 P q
theorem okX10_drop_4 {Z : tc_Z} {q : tc_Q} (X : tc_Cx ({ frames := 1, cells := 0, slots := 0, locals := 24 } : Room) cX10_drop 3 RX10 Z) (hr : tc_Rt 0 cX10_drop 3 Z q) : tc_Ok 3 Z 4 (bkX10_drop_4 (tc_At 3 Z) q) := by
  unfold bkX10_drop_4
  refine to_if_eq (pc := 4) (tgt := 14) X dX10_drop_4 (by decide) ?_ ?_
  · refine to_iconst (pc := 14) X dX10_drop_14 (by decide) ?_
    exact to_iret (pc := 15) hr dX10_drop_15
  refine to_iload_n (pc := 7) X dX10_drop_7 rfl ?_
  refine cvX10_isEvent (pc := 8) X wm_RX10_97 (by decide) dX10_drop_8 ?_
  exact okX10_drop_11 X hr
def bkX10_drop_0 (P : Nat → tc_B) (q : tc_Q) : tc_B := tb_iload 1 <| tb_callS 1 1 RX10_isPlainTeller <| bkX10_drop_4 P q
theorem okX10_drop_0 {Z : tc_Z} {q : tc_Q} (X : tc_Cx ({ frames := 1, cells := 0, slots := 0, locals := 24 } : Room) cX10_drop 3 RX10 Z) (hr : tc_Rt 0 cX10_drop 3 Z q) : tc_Ok 3 Z 0 (bkX10_drop_0 (tc_At 3 Z) q) := by
  unfold bkX10_drop_0
  refine to_iload_n (pc := 0) X dX10_drop_0 rfl ?_
  refine cvX10_isPlainTeller (pc := 1) X wm_RX10_93 (by decide) dX10_drop_1 ?_
  exact okX10_drop_4 X hr
def RX10_drop (vs : List tc_V) (S : tc_S) (q : tc_Q) : Prop := ∀ P : Nat → tc_B, bkX10_drop_0 P q (tc_num 0 vs) [] S
theorem metX10_drop : tc_Met yX10_drop (Cond.code yX10_drop cX10_drop 3 (some .int)) ({ frames := 1, cells := 0, slots := 0, locals := 24 } : Room) 0 3 RX10_drop := tc_met (rk := 0) (by decide) ⟨rfl, rfl⟩ (fun Z q X hr vs S h => okX10_drop_0 X hr _ _ _ (h (tc_At 3 Z)))
theorem cvX10_drop {R : Room} {cc : ByteArray} {nL pc ix : Nat} {own : String} {Z : tc_Z} {k : tc_B} (X : tc_Cx R cc nL own Z) (h1 : Cond.methodLink own ix yX10_drop ∈ tc_tb) (hR : 1 + 1 ≤ R.frames ∧ 8 + (3 + 11) + 24 ≤ R.locals) (hd : decode cc pc = .ok (.invokevirtual ix, 3)) (h : tc_Ok nL Z (pc + 3) k) : tc_Ok nL Z pc (tb_callV 2 3 8 RX10_drop k) := to_callV X metX10_drop rfl ⟨rfl, rfl⟩ hR h1 wi_X10_drop wl_X10_drop wn_RX10 wc_X10_drop ⟨by decide +kernel, by decide +kernel, by decide +kernel, by decide +kernel⟩ hd h
def bkX10_yes_16 (P : Nat → tc_B) (q : tc_Q) : tc_B := tb_iret q
theorem okX10_yes_16 {Z : tc_Z} {q : tc_Q} (X : tc_Cx ({ frames := 1, cells := 0, slots := 0, locals := 23 } : Room) cX10_yes 2 RX10 Z) (hr : tc_Rt 0 cX10_yes 2 Z q) : tc_Ok 2 Z 16 (bkX10_yes_16 (tc_At 2 Z) q) := by
  unfold bkX10_yes_16
  refine to_goto (pc := 16) (tgt := 20) X dX10_yes_16 (by decide) ?_
  exact to_iret (pc := 20) hr dX10_yes_20
def bkX10_yes_4 (P : Nat → tc_B) (q : tc_Q) : tc_B := tb_if_eq (tb_i (-1) <| tb_iret q) <| tb_aload 0 <| tb_getf 8 0 <| tb_iload 1 <| tb_i 1 <| tb_callV 2 4 1 RX1_swapState <| bkX10_yes_16 P q
theorem okX10_yes_4 {Z : tc_Z} {q : tc_Q} (X : tc_Cx ({ frames := 1, cells := 0, slots := 0, locals := 23 } : Room) cX10_yes 2 RX10 Z) (hr : tc_Rt 0 cX10_yes 2 Z q) : tc_Ok 2 Z 4 (bkX10_yes_4 (tc_At 2 Z) q) := by
  unfold bkX10_yes_4
  refine to_if_eq (pc := 4) (tgt := 19) X dX10_yes_4 (by decide) ?_ ?_
  · refine to_iconst (pc := 19) X dX10_yes_19 (by decide) ?_
    exact to_iret (pc := 20) hr dX10_yes_20
  refine to_aload_n (pc := 7) X dX10_yes_7 rfl ?_
  refine gfX10_0 (pc := 8) X wf_RX10_12 dX10_yes_8 ?_
  refine to_iload_n (pc := 11) X dX10_yes_11 rfl ?_
  refine to_iconst (pc := 12) X dX10_yes_12 (by decide) ?_
  refine cvX1_swapState (pc := 13) X wm_RX10_107 (by decide) dX10_yes_13 ?_
  exact okX10_yes_16 X hr
def bkX10_yes_0 (P : Nat → tc_B) (q : tc_Q) : tc_B := tb_iload 1 <| tb_callS 1 1 RX10_isEvent <| bkX10_yes_4 P q
theorem okX10_yes_0 {Z : tc_Z} {q : tc_Q} (X : tc_Cx ({ frames := 1, cells := 0, slots := 0, locals := 23 } : Room) cX10_yes 2 RX10 Z) (hr : tc_Rt 0 cX10_yes 2 Z q) : tc_Ok 2 Z 0 (bkX10_yes_0 (tc_At 2 Z) q) := by
  unfold bkX10_yes_0
  refine to_iload_n (pc := 0) X dX10_yes_0 rfl ?_
  refine cvX10_isEvent (pc := 1) X wm_RX10_97 (by decide) dX10_yes_1 ?_
  exact okX10_yes_4 X hr
def RX10_yes (vs : List tc_V) (S : tc_S) (q : tc_Q) : Prop := ∀ P : Nat → tc_B, bkX10_yes_0 P q (tc_num 0 vs) [] S
theorem metX10_yes : tc_Met yX10_yes (Cond.code yX10_yes cX10_yes 2 (some .int)) ({ frames := 1, cells := 0, slots := 0, locals := 23 } : Room) 0 2 RX10_yes := tc_met (rk := 0) (by decide) ⟨rfl, rfl⟩ (fun Z q X hr vs S h => okX10_yes_0 X hr _ _ _ (h (tc_At 2 Z)))
theorem cvX10_yes {R : Room} {cc : ByteArray} {nL pc ix : Nat} {own : String} {Z : tc_Z} {k : tc_B} (X : tc_Cx R cc nL own Z) (h1 : Cond.methodLink own ix yX10_yes ∈ tc_tb) (hR : 1 + 1 ≤ R.frames ∧ 8 + (2 + 11) + 23 ≤ R.locals) (hd : decode cc pc = .ok (.invokevirtual ix, 3)) (h : tc_Ok nL Z (pc + 3) k) : tc_Ok nL Z pc (tb_callV 1 2 8 RX10_yes k) := to_callV X metX10_yes rfl ⟨rfl, rfl⟩ hR h1 wi_X10_yes wl_X10_yes wn_RX10 wc_X10_yes ⟨by decide +kernel, by decide +kernel, by decide +kernel, by decide +kernel⟩ hd h
def bkX10_no_16 (P : Nat → tc_B) (q : tc_Q) : tc_B := tb_iret q
theorem okX10_no_16 {Z : tc_Z} {q : tc_Q} (X : tc_Cx ({ frames := 1, cells := 0, slots := 0, locals := 23 } : Room) cX10_no 2 RX10 Z) (hr : tc_Rt 0 cX10_no 2 Z q) : tc_Ok 2 Z 16 (bkX10_no_16 (tc_At 2 Z) q) := by
  unfold bkX10_no_16
  refine to_goto (pc := 16) (tgt := 20) X dX10_no_16 (by decide) ?_
  exact to_iret (pc := 20) hr dX10_no_20
def bkX10_no_4 (P : Nat → tc_B) (q : tc_Q) : tc_B := tb_if_eq (tb_i (-1) <| tb_iret q) <| tb_aload 0 <| tb_getf 8 0 <| tb_iload 1 <| tb_i 2 <| tb_callV 2 4 1 RX1_swapState <| bkX10_no_16 P q
theorem okX10_no_4 {Z : tc_Z} {q : tc_Q} (X : tc_Cx ({ frames := 1, cells := 0, slots := 0, locals := 23 } : Room) cX10_no 2 RX10 Z) (hr : tc_Rt 0 cX10_no 2 Z q) : tc_Ok 2 Z 4 (bkX10_no_4 (tc_At 2 Z) q) := by
  unfold bkX10_no_4
  refine to_if_eq (pc := 4) (tgt := 19) X dX10_no_4 (by decide) ?_ ?_
  · refine to_iconst (pc := 19) X dX10_no_19 (by decide) ?_
    exact to_iret (pc := 20) hr dX10_no_20
  refine to_aload_n (pc := 7) X dX10_no_7 rfl ?_
  refine gfX10_0 (pc := 8) X wf_RX10_12 dX10_no_8 ?_
  refine to_iload_n (pc := 11) X dX10_no_11 rfl ?_
  refine to_iconst (pc := 12) X dX10_no_12 (by decide) ?_
  refine cvX1_swapState (pc := 13) X wm_RX10_107 (by decide) dX10_no_13 ?_
  exact okX10_no_16 X hr
def bkX10_no_0 (P : Nat → tc_B) (q : tc_Q) : tc_B := tb_iload 1 <| tb_callS 1 1 RX10_isEvent <| bkX10_no_4 P q
theorem okX10_no_0 {Z : tc_Z} {q : tc_Q} (X : tc_Cx ({ frames := 1, cells := 0, slots := 0, locals := 23 } : Room) cX10_no 2 RX10 Z) (hr : tc_Rt 0 cX10_no 2 Z q) : tc_Ok 2 Z 0 (bkX10_no_0 (tc_At 2 Z) q) := by
  unfold bkX10_no_0
  refine to_iload_n (pc := 0) X dX10_no_0 rfl ?_
  refine cvX10_isEvent (pc := 1) X wm_RX10_97 (by decide) dX10_no_1 ?_
  exact okX10_no_4 X hr
def RX10_no (vs : List tc_V) (S : tc_S) (q : tc_Q) : Prop := ∀ P : Nat → tc_B, bkX10_no_0 P q (tc_num 0 vs) [] S
theorem metX10_no : tc_Met yX10_no (Cond.code yX10_no cX10_no 2 (some .int)) ({ frames := 1, cells := 0, slots := 0, locals := 23 } : Room) 0 2 RX10_no := tc_met (rk := 0) (by decide) ⟨rfl, rfl⟩ (fun Z q X hr vs S h => okX10_no_0 X hr _ _ _ (h (tc_At 2 Z)))
theorem cvX10_no {R : Room} {cc : ByteArray} {nL pc ix : Nat} {own : String} {Z : tc_Z} {k : tc_B} (X : tc_Cx R cc nL own Z) (h1 : Cond.methodLink own ix yX10_no ∈ tc_tb) (hR : 1 + 1 ≤ R.frames ∧ 8 + (2 + 11) + 23 ≤ R.locals) (hd : decode cc pc = .ok (.invokevirtual ix, 3)) (h : tc_Ok nL Z (pc + 3) k) : tc_Ok nL Z pc (tb_callV 1 2 8 RX10_no k) := to_callV X metX10_no rfl ⟨rfl, rfl⟩ hR h1 wi_X10_no wl_X10_no wn_RX10 wc_X10_no ⟨by decide +kernel, by decide +kernel, by decide +kernel, by decide +kernel⟩ hd h
def bkX10_open_16 (P : Nat → tc_B) (q : tc_Q) : tc_B := tb_iret q
theorem okX10_open_16 {Z : tc_Z} {q : tc_Q} (X : tc_Cx ({ frames := 1, cells := 0, slots := 0, locals := 23 } : Room) cX10_open 2 RX10 Z) (hr : tc_Rt 0 cX10_open 2 Z q) : tc_Ok 2 Z 16 (bkX10_open_16 (tc_At 2 Z) q) := by
  unfold bkX10_open_16
  refine to_goto (pc := 16) (tgt := 20) X dX10_open_16 (by decide) ?_
  exact to_iret (pc := 20) hr dX10_open_20
def bkX10_open_4 (P : Nat → tc_B) (q : tc_Q) : tc_B := tb_if_eq (tb_i (-1) <| tb_iret q) <| tb_aload 0 <| tb_getf 8 0 <| tb_iload 1 <| tb_i 0 <| tb_callV 2 4 1 RX1_swapState <| bkX10_open_16 P q
theorem okX10_open_4 {Z : tc_Z} {q : tc_Q} (X : tc_Cx ({ frames := 1, cells := 0, slots := 0, locals := 23 } : Room) cX10_open 2 RX10 Z) (hr : tc_Rt 0 cX10_open 2 Z q) : tc_Ok 2 Z 4 (bkX10_open_4 (tc_At 2 Z) q) := by
  unfold bkX10_open_4
  refine to_if_eq (pc := 4) (tgt := 19) X dX10_open_4 (by decide) ?_ ?_
  · refine to_iconst (pc := 19) X dX10_open_19 (by decide) ?_
    exact to_iret (pc := 20) hr dX10_open_20
  refine to_aload_n (pc := 7) X dX10_open_7 rfl ?_
  refine gfX10_0 (pc := 8) X wf_RX10_12 dX10_open_8 ?_
  refine to_iload_n (pc := 11) X dX10_open_11 rfl ?_
  refine to_iconst (pc := 12) X dX10_open_12 (by decide) ?_
  refine cvX1_swapState (pc := 13) X wm_RX10_107 (by decide) dX10_open_13 ?_
  exact okX10_open_16 X hr
def bkX10_open_0 (P : Nat → tc_B) (q : tc_Q) : tc_B := tb_iload 1 <| tb_callS 1 1 RX10_isEvent <| bkX10_open_4 P q
theorem okX10_open_0 {Z : tc_Z} {q : tc_Q} (X : tc_Cx ({ frames := 1, cells := 0, slots := 0, locals := 23 } : Room) cX10_open 2 RX10 Z) (hr : tc_Rt 0 cX10_open 2 Z q) : tc_Ok 2 Z 0 (bkX10_open_0 (tc_At 2 Z) q) := by
  unfold bkX10_open_0
  refine to_iload_n (pc := 0) X dX10_open_0 rfl ?_
  refine cvX10_isEvent (pc := 1) X wm_RX10_97 (by decide) dX10_open_1 ?_
  exact okX10_open_4 X hr
def RX10_open (vs : List tc_V) (S : tc_S) (q : tc_Q) : Prop := ∀ P : Nat → tc_B, bkX10_open_0 P q (tc_num 0 vs) [] S
theorem metX10_open : tc_Met yX10_open (Cond.code yX10_open cX10_open 2 (some .int)) ({ frames := 1, cells := 0, slots := 0, locals := 23 } : Room) 0 2 RX10_open := tc_met (rk := 0) (by decide) ⟨rfl, rfl⟩ (fun Z q X hr vs S h => okX10_open_0 X hr _ _ _ (h (tc_At 2 Z)))
theorem cvX10_open {R : Room} {cc : ByteArray} {nL pc ix : Nat} {own : String} {Z : tc_Z} {k : tc_B} (X : tc_Cx R cc nL own Z) (h1 : Cond.methodLink own ix yX10_open ∈ tc_tb) (hR : 1 + 1 ≤ R.frames ∧ 8 + (2 + 11) + 23 ≤ R.locals) (hd : decode cc pc = .ok (.invokevirtual ix, 3)) (h : tc_Ok nL Z (pc + 3) k) : tc_Ok nL Z pc (tb_callV 1 2 8 RX10_open k) := to_callV X metX10_open rfl ⟨rfl, rfl⟩ hR h1 wi_X10_open wl_X10_open wn_RX10 wc_X10_open ⟨by decide +kernel, by decide +kernel, by decide +kernel, by decide +kernel⟩ hd h
def bkX10_weigh_31 (P : Nat → tc_B) (q : tc_Q) : tc_B := tb_iret q
theorem okX10_weigh_31 {Z : tc_Z} {q : tc_Q} (X : tc_Cx ({ frames := 1, cells := 0, slots := 0, locals := 23 } : Room) cX10_weigh 3 RX10 Z) (hr : tc_Rt 0 cX10_weigh 3 Z q) : tc_Ok 3 Z 31 (bkX10_weigh_31 (tc_At 3 Z) q) := by
  unfold bkX10_weigh_31
  exact to_iret (pc := 31) hr dX10_weigh_31
def bkX10_weigh_4 (P : Nat → tc_B) (q : tc_Q) : tc_B := tb_if_ne (tb_iload 2 <| tb_if_lt (tb_i (-2) <| tb_iret q) <| tb_iload 2 <| tb_i 9 <| tb_icmp_le (tb_aload 0 <| tb_getf 8 0 <| tb_iload 1 <| tb_iload 2 <| tb_callV 2 4 1 RX1_swapWeight <| bkX10_weigh_31 P q) <| tb_i (-2) <| tb_iret q) <| tb_i (-1) <| tb_iret q
theorem okX10_weigh_4 {Z : tc_Z} {q : tc_Q} (X : tc_Cx ({ frames := 1, cells := 0, slots := 0, locals := 23 } : Room) cX10_weigh 3 RX10 Z) (hr : tc_Rt 0 cX10_weigh 3 Z q) : tc_Ok 3 Z 4 (bkX10_weigh_4 (tc_At 3 Z) q) := by
  unfold bkX10_weigh_4
  refine to_if_ne (pc := 4) (tgt := 9) X dX10_weigh_4 (by decide) ?_ ?_
  · refine to_iload_n (pc := 9) X dX10_weigh_9 rfl ?_
    refine to_if_lt (pc := 10) (tgt := 19) X dX10_weigh_10 (by decide) ?_ ?_
    · refine to_bipush (pc := 19) X dX10_weigh_19 (by decide) ?_
      exact to_iret (pc := 21) hr dX10_weigh_21
    refine to_iload_n (pc := 13) X dX10_weigh_13 rfl ?_
    refine to_bipush (pc := 14) X dX10_weigh_14 (by decide) ?_
    refine to_icmp_le (pc := 16) (tgt := 22) X dX10_weigh_16 (by decide) ?_ ?_
    · refine to_aload_n (pc := 22) X dX10_weigh_22 rfl ?_
      refine gfX10_0 (pc := 23) X wf_RX10_12 dX10_weigh_23 ?_
      refine to_iload_n (pc := 26) X dX10_weigh_26 rfl ?_
      refine to_iload_n (pc := 27) X dX10_weigh_27 rfl ?_
      refine cvX1_swapWeight (pc := 28) X wm_RX10_111 (by decide) dX10_weigh_28 ?_
      exact okX10_weigh_31 X hr
    refine to_bipush (pc := 19) X dX10_weigh_19 (by decide) ?_
    exact to_iret (pc := 21) hr dX10_weigh_21
  refine to_iconst (pc := 7) X dX10_weigh_7 (by decide) ?_
  exact to_iret (pc := 8) hr dX10_weigh_8
def bkX10_weigh_0 (P : Nat → tc_B) (q : tc_Q) : tc_B := tb_iload 1 <| tb_callS 1 1 RX10_isPlainTeller <| bkX10_weigh_4 P q
theorem okX10_weigh_0 {Z : tc_Z} {q : tc_Q} (X : tc_Cx ({ frames := 1, cells := 0, slots := 0, locals := 23 } : Room) cX10_weigh 3 RX10 Z) (hr : tc_Rt 0 cX10_weigh 3 Z q) : tc_Ok 3 Z 0 (bkX10_weigh_0 (tc_At 3 Z) q) := by
  unfold bkX10_weigh_0
  refine to_iload_n (pc := 0) X dX10_weigh_0 rfl ?_
  refine cvX10_isPlainTeller (pc := 1) X wm_RX10_93 (by decide) dX10_weigh_1 ?_
  exact okX10_weigh_4 X hr
def RX10_weigh (vs : List tc_V) (S : tc_S) (q : tc_Q) : Prop := ∀ P : Nat → tc_B, bkX10_weigh_0 P q (tc_num 0 vs) [] S
theorem metX10_weigh : tc_Met yX10_weigh (Cond.code yX10_weigh cX10_weigh 3 (some .int)) ({ frames := 1, cells := 0, slots := 0, locals := 23 } : Room) 0 3 RX10_weigh := tc_met (rk := 0) (by decide) ⟨rfl, rfl⟩ (fun Z q X hr vs S h => okX10_weigh_0 X hr _ _ _ (h (tc_At 3 Z)))
theorem cvX10_weigh {R : Room} {cc : ByteArray} {nL pc ix : Nat} {own : String} {Z : tc_Z} {k : tc_B} (X : tc_Cx R cc nL own Z) (h1 : Cond.methodLink own ix yX10_weigh ∈ tc_tb) (hR : 1 + 1 ≤ R.frames ∧ 8 + (3 + 11) + 23 ≤ R.locals) (hd : decode cc pc = .ok (.invokevirtual ix, 3)) (h : tc_Ok nL Z (pc + 3) k) : tc_Ok nL Z pc (tb_callV 2 3 8 RX10_weigh k) := to_callV X metX10_weigh rfl ⟨rfl, rfl⟩ hR h1 wi_X10_weigh wl_X10_weigh wn_RX10 wc_X10_weigh ⟨by decide +kernel, by decide +kernel, by decide +kernel, by decide +kernel⟩ hd h
def bkX10_isTeller_0 (P : Nat → tc_B) (q : tc_Q) : tc_B := tb_iload 0 <| tb_if_lt (tb_i 0 <| tb_zret q) <| tb_iload 0 <| tb_i 4 <| tb_icmp_gt (tb_i 0 <| tb_zret q) <| tb_i 1 <| tb_zret q
theorem okX10_isTeller_0 {Z : tc_Z} {q : tc_Q} (X : tc_Cx ({ frames := 0, cells := 0, slots := 0, locals := 0 } : Room) cX10_isTeller 1 RX10 Z) (hr : tc_Rt 1 cX10_isTeller 1 Z q) : tc_Ok 1 Z 0 (bkX10_isTeller_0 (tc_At 1 Z) q) := by
  unfold bkX10_isTeller_0
  refine to_iload_n (pc := 0) X dX10_isTeller_0 rfl ?_
  refine to_if_lt (pc := 1) (tgt := 13) X dX10_isTeller_1 (by decide) ?_ ?_
  · refine to_iconst (pc := 13) X dX10_isTeller_13 (by decide) ?_
    exact to_zret (pc := 14) hr dX10_isTeller_14
  refine to_iload_n (pc := 4) X dX10_isTeller_4 rfl ?_
  refine to_iconst (pc := 5) X dX10_isTeller_5 (by decide) ?_
  refine to_icmp_gt (pc := 6) (tgt := 13) X dX10_isTeller_6 (by decide) ?_ ?_
  · refine to_iconst (pc := 13) X dX10_isTeller_13 (by decide) ?_
    exact to_zret (pc := 14) hr dX10_isTeller_14
  refine to_iconst (pc := 9) X dX10_isTeller_9 (by decide) ?_
  refine to_goto (pc := 10) (tgt := 14) X dX10_isTeller_10 (by decide) ?_
  exact to_zret (pc := 14) hr dX10_isTeller_14
def RX10_isTeller (vs : List tc_V) (S : tc_S) (q : tc_Q) : Prop := ∀ P : Nat → tc_B, bkX10_isTeller_0 P q (tc_num 0 vs) [] S
theorem metX10_isTeller : tc_Met yX10_isTeller (Cond.code yX10_isTeller cX10_isTeller 1 (some .boolean)) ({ frames := 0, cells := 0, slots := 0, locals := 0 } : Room) 1 1 RX10_isTeller := tc_met (rk := 1) (by decide) ⟨rfl, rfl⟩ (fun Z q X hr vs S h => okX10_isTeller_0 X hr _ _ _ (h (tc_At 1 Z)))
theorem cvX10_isTeller {R : Room} {cc : ByteArray} {nL pc ix : Nat} {own : String} {Z : tc_Z} {k : tc_B} (X : tc_Cx R cc nL own Z) (h1 : Cond.methodLink own ix yX10_isTeller ∈ tc_tb) (hR : 0 + 1 ≤ R.frames ∧ 8 + (1 + 11) + 0 ≤ R.locals) (hd : decode cc pc = .ok (.invokestatic ix, 3)) (h : tc_Ok nL Z (pc + 3) k) : tc_Ok nL Z pc (tb_callS 1 1 RX10_isTeller k) := to_callS X metX10_isTeller ⟨rfl, rfl⟩ hR h1 ws_X10_isTeller wn_RX10 wc_X10_isTeller ⟨by decide +kernel, by decide +kernel, by decide +kernel⟩ hd h
def bkX10_told_25 (P : Nat → tc_B) (q : tc_Q) : tc_B := tb_iret q
theorem okX10_told_25 {Z : tc_Z} {q : tc_Q} (X : tc_Cx ({ frames := 2, cells := 0, slots := 0, locals := 47 } : Room) cX10_told 3 RX10 Z) (hr : tc_Rt 0 cX10_told 3 Z q) : tc_Ok 3 Z 25 (bkX10_told_25 (tc_At 3 Z) q) := by
  unfold bkX10_told_25
  exact to_iret (pc := 25) hr dX10_told_25
def bkX10_told_11 (P : Nat → tc_B) (q : tc_Q) : tc_B := tb_if_ne (tb_aload 0 <| tb_getf 8 0 <| tb_iload 1 <| tb_iload 2 <| tb_callV 2 3 1 RX1_chanceOf <| bkX10_told_25 P q) <| tb_i (-1) <| tb_iret q
theorem okX10_told_11 {Z : tc_Z} {q : tc_Q} (X : tc_Cx ({ frames := 2, cells := 0, slots := 0, locals := 47 } : Room) cX10_told 3 RX10 Z) (hr : tc_Rt 0 cX10_told 3 Z q) : tc_Ok 3 Z 11 (bkX10_told_11 (tc_At 3 Z) q) := by
  unfold bkX10_told_11
  refine to_if_ne (pc := 11) (tgt := 16) X dX10_told_11 (by decide) ?_ ?_
  · refine to_aload_n (pc := 16) X dX10_told_16 rfl ?_
    refine gfX10_0 (pc := 17) X wf_RX10_12 dX10_told_17 ?_
    refine to_iload_n (pc := 20) X dX10_told_20 rfl ?_
    refine to_iload_n (pc := 21) X dX10_told_21 rfl ?_
    refine cvX1_chanceOf (pc := 22) X wm_RX10_117 (by decide) dX10_told_22 ?_
    exact okX10_told_25 X hr
  refine to_iconst (pc := 14) X dX10_told_14 (by decide) ?_
  exact to_iret (pc := 15) hr dX10_told_15
def bkX10_told_4 (P : Nat → tc_B) (q : tc_Q) : tc_B := tb_if_eq (tb_i (-1) <| tb_iret q) <| tb_iload 2 <| tb_callS 1 1 RX10_isEvent <| bkX10_told_11 P q
theorem okX10_told_4 {Z : tc_Z} {q : tc_Q} (X : tc_Cx ({ frames := 2, cells := 0, slots := 0, locals := 47 } : Room) cX10_told 3 RX10 Z) (hr : tc_Rt 0 cX10_told 3 Z q) : tc_Ok 3 Z 4 (bkX10_told_4 (tc_At 3 Z) q) := by
  unfold bkX10_told_4
  refine to_if_eq (pc := 4) (tgt := 14) X dX10_told_4 (by decide) ?_ ?_
  · refine to_iconst (pc := 14) X dX10_told_14 (by decide) ?_
    exact to_iret (pc := 15) hr dX10_told_15
  refine to_iload_n (pc := 7) X dX10_told_7 rfl ?_
  refine cvX10_isEvent (pc := 8) X wm_RX10_97 (by decide) dX10_told_8 ?_
  exact okX10_told_11 X hr
def bkX10_told_0 (P : Nat → tc_B) (q : tc_Q) : tc_B := tb_iload 1 <| tb_callS 1 1 RX10_isTeller <| bkX10_told_4 P q
theorem okX10_told_0 {Z : tc_Z} {q : tc_Q} (X : tc_Cx ({ frames := 2, cells := 0, slots := 0, locals := 47 } : Room) cX10_told 3 RX10 Z) (hr : tc_Rt 0 cX10_told 3 Z q) : tc_Ok 3 Z 0 (bkX10_told_0 (tc_At 3 Z) q) := by
  unfold bkX10_told_0
  refine to_iload_n (pc := 0) X dX10_told_0 rfl ?_
  refine cvX10_isTeller (pc := 1) X wm_RX10_114 (by decide) dX10_told_1 ?_
  exact okX10_told_4 X hr
def RX10_told (vs : List tc_V) (S : tc_S) (q : tc_Q) : Prop := ∀ P : Nat → tc_B, bkX10_told_0 P q (tc_num 0 vs) [] S
theorem metX10_told : tc_Met yX10_told (Cond.code yX10_told cX10_told 3 (some .int)) ({ frames := 2, cells := 0, slots := 0, locals := 47 } : Room) 0 3 RX10_told := tc_met (rk := 0) (by decide) ⟨rfl, rfl⟩ (fun Z q X hr vs S h => okX10_told_0 X hr _ _ _ (h (tc_At 3 Z)))
theorem cvX10_told {R : Room} {cc : ByteArray} {nL pc ix : Nat} {own : String} {Z : tc_Z} {k : tc_B} (X : tc_Cx R cc nL own Z) (h1 : Cond.methodLink own ix yX10_told ∈ tc_tb) (hR : 2 + 1 ≤ R.frames ∧ 8 + (3 + 11) + 47 ≤ R.locals) (hd : decode cc pc = .ok (.invokevirtual ix, 3)) (h : tc_Ok nL Z (pc + 3) k) : tc_Ok nL Z pc (tb_callV 2 3 8 RX10_told k) := to_callV X metX10_told rfl ⟨rfl, rfl⟩ hR h1 wi_X10_told wl_X10_told wn_RX10 wc_X10_told ⟨by decide +kernel, by decide +kernel, by decide +kernel, by decide +kernel⟩ hd h
def bkX10_came_4 (P : Nat → tc_B) (q : tc_Q) : tc_B := tb_if_eq (tb_i (-1) <| tb_iret q) <| tb_aload 0 <| tb_getf 8 0 <| tb_getf 1 2 <| tb_iload 1 <| tb_iald <| tb_iret q
theorem okX10_came_4 {Z : tc_Z} {q : tc_Q} (X : tc_Cx ({ frames := 1, cells := 0, slots := 0, locals := 20 } : Room) cX10_came 2 RX10 Z) (hr : tc_Rt 0 cX10_came 2 Z q) : tc_Ok 2 Z 4 (bkX10_came_4 (tc_At 2 Z) q) := by
  unfold bkX10_came_4
  refine to_if_eq (pc := 4) (tgt := 19) X dX10_came_4 (by decide) ?_ ?_
  · refine to_iconst (pc := 19) X dX10_came_19 (by decide) ?_
    exact to_iret (pc := 20) hr dX10_came_20
  refine to_aload_n (pc := 7) X dX10_came_7 rfl ?_
  refine gfX10_0 (pc := 8) X wf_RX10_12 dX10_came_8 ?_
  refine gfX1_2 (pc := 11) X wf_RX10_120 dX10_came_11 ?_
  refine to_iload_n (pc := 14) X dX10_came_14 rfl ?_
  refine to_iald (pc := 15) X dX10_came_15 ?_
  refine to_goto (pc := 16) (tgt := 20) X dX10_came_16 (by decide) ?_
  exact to_iret (pc := 20) hr dX10_came_20
def bkX10_came_0 (P : Nat → tc_B) (q : tc_Q) : tc_B := tb_iload 1 <| tb_callS 1 1 RX10_isEvent <| bkX10_came_4 P q
theorem okX10_came_0 {Z : tc_Z} {q : tc_Q} (X : tc_Cx ({ frames := 1, cells := 0, slots := 0, locals := 20 } : Room) cX10_came 2 RX10 Z) (hr : tc_Rt 0 cX10_came 2 Z q) : tc_Ok 2 Z 0 (bkX10_came_0 (tc_At 2 Z) q) := by
  unfold bkX10_came_0
  refine to_iload_n (pc := 0) X dX10_came_0 rfl ?_
  refine cvX10_isEvent (pc := 1) X wm_RX10_97 (by decide) dX10_came_1 ?_
  exact okX10_came_4 X hr
def RX10_came (vs : List tc_V) (S : tc_S) (q : tc_Q) : Prop := ∀ P : Nat → tc_B, bkX10_came_0 P q (tc_num 0 vs) [] S
theorem metX10_came : tc_Met yX10_came (Cond.code yX10_came cX10_came 2 (some .int)) ({ frames := 1, cells := 0, slots := 0, locals := 20 } : Room) 0 2 RX10_came := tc_met (rk := 0) (by decide) ⟨rfl, rfl⟩ (fun Z q X hr vs S h => okX10_came_0 X hr _ _ _ (h (tc_At 2 Z)))
theorem cvX10_came {R : Room} {cc : ByteArray} {nL pc ix : Nat} {own : String} {Z : tc_Z} {k : tc_B} (X : tc_Cx R cc nL own Z) (h1 : Cond.methodLink own ix yX10_came ∈ tc_tb) (hR : 1 + 1 ≤ R.frames ∧ 8 + (2 + 11) + 20 ≤ R.locals) (hd : decode cc pc = .ok (.invokevirtual ix, 3)) (h : tc_Ok nL Z (pc + 3) k) : tc_Ok nL Z pc (tb_callV 1 2 8 RX10_came k) := to_callV X metX10_came rfl ⟨rfl, rfl⟩ hR h1 wi_X10_came wl_X10_came wn_RX10 wc_X10_came ⟨by decide +kernel, by decide +kernel, by decide +kernel, by decide +kernel⟩ hd h
def bkX10_key_21 (P : Nat → tc_B) (q : tc_Q) : tc_B := tb_if_eq (tb_i (-4) <| tb_iret q) <| tb_aload 0 <| tb_getf 8 1 <| tb_getf 7 1 <| tb_iret q
theorem okX10_key_21 {Z : tc_Z} {q : tc_Q} (X : tc_Cx ({ frames := 1, cells := 0, slots := 0, locals := 21 } : Room) cX10_key 2 RX10 Z) (hr : tc_Rt 0 cX10_key 2 Z q) : tc_Ok 2 Z 21 (bkX10_key_21 (tc_At 2 Z) q) := by
  unfold bkX10_key_21
  refine to_if_eq (pc := 21) (tgt := 34) X dX10_key_21 (by decide) ?_ ?_
  · refine to_bipush (pc := 34) X dX10_key_34 (by decide) ?_
    exact to_iret (pc := 36) hr dX10_key_36
  refine to_aload_n (pc := 24) X dX10_key_24 rfl ?_
  refine gfX10_1 (pc := 25) X wf_RX10_21 dX10_key_25 ?_
  refine gfX9_1 (pc := 28) X wf_RX10_126 dX10_key_28 ?_
  refine to_goto (pc := 31) (tgt := 36) X dX10_key_31 (by decide) ?_
  exact to_iret (pc := 36) hr dX10_key_36
def bkX10_key_0 (P : Nat → tc_B) (q : tc_Q) : tc_B := tb_iload 1 <| tb_if_lt (tb_i (-2) <| tb_iret q) <| tb_iload 1 <| tb_i 127 <| tb_icmp_le (tb_aload 0 <| tb_getf 8 1 <| tb_iload 1 <| tb_callV 1 2 7 RX9_put <| bkX10_key_21 P q) <| tb_i (-2) <| tb_iret q
theorem okX10_key_0 {Z : tc_Z} {q : tc_Q} (X : tc_Cx ({ frames := 1, cells := 0, slots := 0, locals := 21 } : Room) cX10_key 2 RX10 Z) (hr : tc_Rt 0 cX10_key 2 Z q) : tc_Ok 2 Z 0 (bkX10_key_0 (tc_At 2 Z) q) := by
  unfold bkX10_key_0
  refine to_iload_n (pc := 0) X dX10_key_0 rfl ?_
  refine to_if_lt (pc := 1) (tgt := 10) X dX10_key_1 (by decide) ?_ ?_
  · refine to_bipush (pc := 10) X dX10_key_10 (by decide) ?_
    exact to_iret (pc := 12) hr dX10_key_12
  refine to_iload_n (pc := 4) X dX10_key_4 rfl ?_
  refine to_bipush (pc := 5) X dX10_key_5 (by decide) ?_
  refine to_icmp_le (pc := 7) (tgt := 13) X dX10_key_7 (by decide) ?_ ?_
  · refine to_aload_n (pc := 13) X dX10_key_13 rfl ?_
    refine gfX10_1 (pc := 14) X wf_RX10_21 dX10_key_14 ?_
    refine to_iload_n (pc := 17) X dX10_key_17 rfl ?_
    refine cvX9_put (pc := 18) X wm_RX10_123 (by decide) dX10_key_18 ?_
    exact okX10_key_21 X hr
  refine to_bipush (pc := 10) X dX10_key_10 (by decide) ?_
  exact to_iret (pc := 12) hr dX10_key_12
def RX10_key (vs : List tc_V) (S : tc_S) (q : tc_Q) : Prop := ∀ P : Nat → tc_B, bkX10_key_0 P q (tc_num 0 vs) [] S
theorem metX10_key : tc_Met yX10_key (Cond.code yX10_key cX10_key 2 (some .int)) ({ frames := 1, cells := 0, slots := 0, locals := 21 } : Room) 0 2 RX10_key := tc_met (rk := 0) (by decide) ⟨rfl, rfl⟩ (fun Z q X hr vs S h => okX10_key_0 X hr _ _ _ (h (tc_At 2 Z)))
theorem cvX10_key {R : Room} {cc : ByteArray} {nL pc ix : Nat} {own : String} {Z : tc_Z} {k : tc_B} (X : tc_Cx R cc nL own Z) (h1 : Cond.methodLink own ix yX10_key ∈ tc_tb) (hR : 1 + 1 ≤ R.frames ∧ 8 + (2 + 11) + 21 ≤ R.locals) (hd : decode cc pc = .ok (.invokevirtual ix, 3)) (h : tc_Ok nL Z (pc + 3) k) : tc_Ok nL Z pc (tb_callV 1 2 8 RX10_key k) := to_callV X metX10_key rfl ⟨rfl, rfl⟩ hR h1 wi_X10_key wl_X10_key wn_RX10 wc_X10_key ⟨by decide +kernel, by decide +kernel, by decide +kernel, by decide +kernel⟩ hd h
def bkX10_wipe_7 (P : Nat → tc_B) (q : tc_Q) : tc_B := tb_iret q
theorem okX10_wipe_7 {Z : tc_Z} {q : tc_Q} (X : tc_Cx ({ frames := 1, cells := 0, slots := 0, locals := 21 } : Room) cX10_wipe 1 RX10 Z) (hr : tc_Rt 0 cX10_wipe 1 Z q) : tc_Ok 1 Z 7 (bkX10_wipe_7 (tc_At 1 Z) q) := by
  unfold bkX10_wipe_7
  exact to_iret (pc := 7) hr dX10_wipe_7
def bkX10_wipe_0 (P : Nat → tc_B) (q : tc_Q) : tc_B := tb_aload 0 <| tb_getf 8 1 <| tb_callV 0 2 7 RX9_clear <| bkX10_wipe_7 P q
theorem okX10_wipe_0 {Z : tc_Z} {q : tc_Q} (X : tc_Cx ({ frames := 1, cells := 0, slots := 0, locals := 21 } : Room) cX10_wipe 1 RX10 Z) (hr : tc_Rt 0 cX10_wipe 1 Z q) : tc_Ok 1 Z 0 (bkX10_wipe_0 (tc_At 1 Z) q) := by
  unfold bkX10_wipe_0
  refine to_aload_n (pc := 0) X dX10_wipe_0 rfl ?_
  refine gfX10_1 (pc := 1) X wf_RX10_21 dX10_wipe_1 ?_
  refine cvX9_clear (pc := 4) X wm_RX10_130 (by decide) dX10_wipe_4 ?_
  exact okX10_wipe_7 X hr
def RX10_wipe (vs : List tc_V) (S : tc_S) (q : tc_Q) : Prop := ∀ P : Nat → tc_B, bkX10_wipe_0 P q (tc_num 0 vs) [] S
theorem metX10_wipe : tc_Met yX10_wipe (Cond.code yX10_wipe cX10_wipe 1 (some .int)) ({ frames := 1, cells := 0, slots := 0, locals := 21 } : Room) 0 1 RX10_wipe := tc_met (rk := 0) (by decide) ⟨rfl, rfl⟩ (fun Z q X hr vs S h => okX10_wipe_0 X hr _ _ _ (h (tc_At 1 Z)))
theorem cvX10_wipe {R : Room} {cc : ByteArray} {nL pc ix : Nat} {own : String} {Z : tc_Z} {k : tc_B} (X : tc_Cx R cc nL own Z) (h1 : Cond.methodLink own ix yX10_wipe ∈ tc_tb) (hR : 1 + 1 ≤ R.frames ∧ 8 + (1 + 11) + 21 ≤ R.locals) (hd : decode cc pc = .ok (.invokevirtual ix, 3)) (h : tc_Ok nL Z (pc + 3) k) : tc_Ok nL Z pc (tb_callV 0 1 8 RX10_wipe k) := to_callV X metX10_wipe rfl ⟨rfl, rfl⟩ hR h1 wi_X10_wipe wl_X10_wipe wn_RX10 wc_X10_wipe ⟨by decide +kernel, by decide +kernel, by decide +kernel, by decide +kernel⟩ hd h
def bkX10_perform_102 (P : Nat → tc_B) (q : tc_Q) : tc_B := tb_iret q
theorem okX10_perform_102 {Z : tc_Z} {q : tc_Q} (X : tc_Cx ({ frames := 2, cells := 0, slots := 0, locals := 47 } : Room) cX10_perform 3 RX10 Z) (hr : tc_Rt 0 cX10_perform 3 Z q) : tc_Ok 3 Z 102 (bkX10_perform_102 (tc_At 3 Z) q) := by
  unfold bkX10_perform_102
  exact to_iret (pc := 102) hr dX10_perform_102
def bkX10_perform_91 (P : Nat → tc_B) (q : tc_Q) : tc_B := tb_iret q
theorem okX10_perform_91 {Z : tc_Z} {q : tc_Q} (X : tc_Cx ({ frames := 2, cells := 0, slots := 0, locals := 47 } : Room) cX10_perform 3 RX10 Z) (hr : tc_Rt 0 cX10_perform 3 Z q) : tc_Ok 3 Z 91 (bkX10_perform_91 (tc_At 3 Z) q) := by
  unfold bkX10_perform_91
  exact to_iret (pc := 91) hr dX10_perform_91
def bkX10_perform_76 (P : Nat → tc_B) (q : tc_Q) : tc_B := tb_iret q
theorem okX10_perform_76 {Z : tc_Z} {q : tc_Q} (X : tc_Cx ({ frames := 2, cells := 0, slots := 0, locals := 47 } : Room) cX10_perform 3 RX10 Z) (hr : tc_Rt 0 cX10_perform 3 Z q) : tc_Ok 3 Z 76 (bkX10_perform_76 (tc_At 3 Z) q) := by
  unfold bkX10_perform_76
  exact to_iret (pc := 76) hr dX10_perform_76
def bkX10_perform_61 (P : Nat → tc_B) (q : tc_Q) : tc_B := tb_iret q
theorem okX10_perform_61 {Z : tc_Z} {q : tc_Q} (X : tc_Cx ({ frames := 2, cells := 0, slots := 0, locals := 47 } : Room) cX10_perform 3 RX10 Z) (hr : tc_Rt 0 cX10_perform 3 Z q) : tc_Ok 3 Z 61 (bkX10_perform_61 (tc_At 3 Z) q) := by
  unfold bkX10_perform_61
  exact to_iret (pc := 61) hr dX10_perform_61
def bkX10_perform_46 (P : Nat → tc_B) (q : tc_Q) : tc_B := tb_iret q
theorem okX10_perform_46 {Z : tc_Z} {q : tc_Q} (X : tc_Cx ({ frames := 2, cells := 0, slots := 0, locals := 47 } : Room) cX10_perform 3 RX10 Z) (hr : tc_Rt 0 cX10_perform 3 Z q) : tc_Ok 3 Z 46 (bkX10_perform_46 (tc_At 3 Z) q) := by
  unfold bkX10_perform_46
  exact to_iret (pc := 46) hr dX10_perform_46
def bkX10_perform_28 (P : Nat → tc_B) (q : tc_Q) : tc_B := tb_iret q
theorem okX10_perform_28 {Z : tc_Z} {q : tc_Q} (X : tc_Cx ({ frames := 2, cells := 0, slots := 0, locals := 47 } : Room) cX10_perform 3 RX10 Z) (hr : tc_Rt 0 cX10_perform 3 Z q) : tc_Ok 3 Z 28 (bkX10_perform_28 (tc_At 3 Z) q) := by
  unfold bkX10_perform_28
  exact to_iret (pc := 28) hr dX10_perform_28
def bkX10_perform_0 (P : Nat → tc_B) (q : tc_Q) : tc_B := tb_aload 0 <| tb_getf 8 2 <| tb_getf 4 0 <| tb_astore 2 <| tb_aload 1 <| tb_gets (tc_R 2 0) <| tb_acmpC (tb_aload 1 <| tb_gets (tc_R 2 1) <| tb_acmpC (tb_aload 1 <| tb_gets (tc_R 2 2) <| tb_acmpC (tb_aload 1 <| tb_gets (tc_R 2 3) <| tb_acmpC (tb_aload 1 <| tb_gets (tc_R 2 4) <| tb_acmpC (tb_aload 0 <| tb_aload 2 <| tb_i 0 <| tb_iald <| tb_aload 2 <| tb_i 1 <| tb_iald <| tb_callV 2 3 8 RX10_weigh <| bkX10_perform_102 P q) <| tb_aload 0 <| tb_aload 2 <| tb_i 0 <| tb_iald <| tb_callV 1 2 8 RX10_open <| bkX10_perform_91 P q) <| tb_aload 0 <| tb_aload 2 <| tb_i 0 <| tb_iald <| tb_callV 1 2 8 RX10_no <| bkX10_perform_76 P q) <| tb_aload 0 <| tb_aload 2 <| tb_i 0 <| tb_iald <| tb_callV 1 2 8 RX10_yes <| bkX10_perform_61 P q) <| tb_aload 0 <| tb_aload 2 <| tb_i 0 <| tb_iald <| tb_aload 2 <| tb_i 1 <| tb_iald <| tb_callV 2 3 8 RX10_drop <| bkX10_perform_46 P q) <| tb_aload 0 <| tb_aload 2 <| tb_i 0 <| tb_iald <| tb_aload 2 <| tb_i 1 <| tb_iald <| tb_aload 2 <| tb_i 2 <| tb_iald <| tb_callV 3 4 8 RX10_tell <| bkX10_perform_28 P q
theorem okX10_perform_0 {Z : tc_Z} {q : tc_Q} (X : tc_Cx ({ frames := 2, cells := 0, slots := 0, locals := 47 } : Room) cX10_perform 3 RX10 Z) (hr : tc_Rt 0 cX10_perform 3 Z q) : tc_Ok 3 Z 0 (bkX10_perform_0 (tc_At 3 Z) q) := by
  unfold bkX10_perform_0
  refine to_aload_n (pc := 0) X dX10_perform_0 rfl ?_
  refine gfX10_2 (pc := 1) X wf_RX10_28 dX10_perform_1 ?_
  refine gfX5_0 (pc := 4) X wf_RX10_155 dX10_perform_4 ?_
  refine to_astore_n (pc := 7) X dX10_perform_7 rfl (by decide) ?_
  refine to_aload_n (pc := 8) X dX10_perform_8 rfl ?_
  refine to_gets (pc := 9) X (List.mem_of_getElem? (i := 4) rfl) wf_RX10_158 dX10_perform_9 ?_
  refine to_acmpC (pc := 12) (tgt := 29) X dX10_perform_12 (by decide) ?_ ?_
  · refine to_aload_n (pc := 29) X dX10_perform_29 rfl ?_
    refine to_gets (pc := 30) X (List.mem_of_getElem? (i := 5) rfl) wf_RX10_167 dX10_perform_30 ?_
    refine to_acmpC (pc := 33) (tgt := 47) X dX10_perform_33 (by decide) ?_ ?_
    · refine to_aload_n (pc := 47) X dX10_perform_47 rfl ?_
      refine to_gets (pc := 48) X (List.mem_of_getElem? (i := 6) rfl) wf_RX10_173 dX10_perform_48 ?_
      refine to_acmpC (pc := 51) (tgt := 62) X dX10_perform_51 (by decide) ?_ ?_
      · refine to_aload_n (pc := 62) X dX10_perform_62 rfl ?_
        refine to_gets (pc := 63) X (List.mem_of_getElem? (i := 7) rfl) wf_RX10_180 dX10_perform_63 ?_
        refine to_acmpC (pc := 66) (tgt := 77) X dX10_perform_66 (by decide) ?_ ?_
        · refine to_aload_n (pc := 77) X dX10_perform_77 rfl ?_
          refine to_gets (pc := 78) X (List.mem_of_getElem? (i := 8) rfl) wf_RX10_186 dX10_perform_78 ?_
          refine to_acmpC (pc := 81) (tgt := 92) X dX10_perform_81 (by decide) ?_ ?_
          · refine to_aload_n (pc := 92) X dX10_perform_92 rfl ?_
            refine to_aload_n (pc := 93) X dX10_perform_93 rfl ?_
            refine to_iconst (pc := 94) X dX10_perform_94 (by decide) ?_
            refine to_iald (pc := 95) X dX10_perform_95 ?_
            refine to_aload_n (pc := 96) X dX10_perform_96 rfl ?_
            refine to_iconst (pc := 97) X dX10_perform_97 (by decide) ?_
            refine to_iald (pc := 98) X dX10_perform_98 ?_
            refine cvX10_weigh (pc := 99) X wm_RX10_192 (by decide) dX10_perform_99 ?_
            exact okX10_perform_102 X hr
          refine to_aload_n (pc := 84) X dX10_perform_84 rfl ?_
          refine to_aload_n (pc := 85) X dX10_perform_85 rfl ?_
          refine to_iconst (pc := 86) X dX10_perform_86 (by decide) ?_
          refine to_iald (pc := 87) X dX10_perform_87 ?_
          refine cvX10_open (pc := 88) X wm_RX10_189 (by decide) dX10_perform_88 ?_
          exact okX10_perform_91 X hr
        refine to_aload_n (pc := 69) X dX10_perform_69 rfl ?_
        refine to_aload_n (pc := 70) X dX10_perform_70 rfl ?_
        refine to_iconst (pc := 71) X dX10_perform_71 (by decide) ?_
        refine to_iald (pc := 72) X dX10_perform_72 ?_
        refine cvX10_no (pc := 73) X wm_RX10_183 (by decide) dX10_perform_73 ?_
        exact okX10_perform_76 X hr
      refine to_aload_n (pc := 54) X dX10_perform_54 rfl ?_
      refine to_aload_n (pc := 55) X dX10_perform_55 rfl ?_
      refine to_iconst (pc := 56) X dX10_perform_56 (by decide) ?_
      refine to_iald (pc := 57) X dX10_perform_57 ?_
      refine cvX10_yes (pc := 58) X wm_RX10_176 (by decide) dX10_perform_58 ?_
      exact okX10_perform_61 X hr
    refine to_aload_n (pc := 36) X dX10_perform_36 rfl ?_
    refine to_aload_n (pc := 37) X dX10_perform_37 rfl ?_
    refine to_iconst (pc := 38) X dX10_perform_38 (by decide) ?_
    refine to_iald (pc := 39) X dX10_perform_39 ?_
    refine to_aload_n (pc := 40) X dX10_perform_40 rfl ?_
    refine to_iconst (pc := 41) X dX10_perform_41 (by decide) ?_
    refine to_iald (pc := 42) X dX10_perform_42 ?_
    refine cvX10_drop (pc := 43) X wm_RX10_170 (by decide) dX10_perform_43 ?_
    exact okX10_perform_46 X hr
  refine to_aload_n (pc := 15) X dX10_perform_15 rfl ?_
  refine to_aload_n (pc := 16) X dX10_perform_16 rfl ?_
  refine to_iconst (pc := 17) X dX10_perform_17 (by decide) ?_
  refine to_iald (pc := 18) X dX10_perform_18 ?_
  refine to_aload_n (pc := 19) X dX10_perform_19 rfl ?_
  refine to_iconst (pc := 20) X dX10_perform_20 (by decide) ?_
  refine to_iald (pc := 21) X dX10_perform_21 ?_
  refine to_aload_n (pc := 22) X dX10_perform_22 rfl ?_
  refine to_iconst (pc := 23) X dX10_perform_23 (by decide) ?_
  refine to_iald (pc := 24) X dX10_perform_24 ?_
  refine cvX10_tell (pc := 25) X wm_RX10_164 (by decide) dX10_perform_25 ?_
  exact okX10_perform_28 X hr
def RX10_perform (vs : List tc_V) (S : tc_S) (q : tc_Q) : Prop := ∀ P : Nat → tc_B, bkX10_perform_0 P q (tc_num 0 vs) [] S
theorem metX10_perform : tc_Met yX10_perform (Cond.code yX10_perform cX10_perform 3 (some .int)) ({ frames := 2, cells := 0, slots := 0, locals := 47 } : Room) 0 3 RX10_perform := tc_met (rk := 0) (by decide) ⟨rfl, rfl⟩ (fun Z q X hr vs S h => okX10_perform_0 X hr _ _ _ (h (tc_At 3 Z)))
theorem cvX10_perform {R : Room} {cc : ByteArray} {nL pc ix : Nat} {own : String} {Z : tc_Z} {k : tc_B} (X : tc_Cx R cc nL own Z) (h1 : Cond.methodLink own ix yX10_perform ∈ tc_tb) (hR : 2 + 1 ≤ R.frames ∧ 8 + (3 + 11) + 47 ≤ R.locals) (hd : decode cc pc = .ok (.invokevirtual ix, 3)) (h : tc_Ok nL Z (pc + 3) k) : tc_Ok nL Z pc (tb_callV 1 3 8 RX10_perform k) := to_callV X metX10_perform rfl ⟨rfl, rfl⟩ hR h1 wi_X10_perform wl_X10_perform wn_RX10 wc_X10_perform ⟨by decide +kernel, by decide +kernel, by decide +kernel, by decide +kernel⟩ hd h
def bkX10_line_56 (P : Nat → tc_B) (q : tc_Q) : tc_B := tb_i 1000 <| tb_iadd <| tb_iret q
theorem okX10_line_56 {Z : tc_Z} {q : tc_Q} (X : tc_Cx ({ frames := 6, cells := 0, slots := 0, locals := 132 } : Room) cX10_line 4 RX10 Z) (hr : tc_Rt 0 cX10_line 4 Z q) : tc_Ok 4 Z 56 (bkX10_line_56 (tc_At 4 Z) q) := by
  unfold bkX10_line_56
  refine to_sipush (pc := 56) X dX10_line_56 (by decide) ?_
  refine to_iadd (pc := 59) X dX10_line_59 ?_
  exact to_iret (pc := 60) hr dX10_line_60
def bkX10_line_46 (P : Nat → tc_B) (q : tc_Q) : tc_B := tb_pop <| tb_aload 0 <| tb_gets (tc_R 4 1) <| tb_iload 2 <| tb_aaldC <| tb_callV 1 3 8 RX10_perform <| bkX10_line_56 P q
theorem okX10_line_46 {Z : tc_Z} {q : tc_Q} (X : tc_Cx ({ frames := 6, cells := 0, slots := 0, locals := 132 } : Room) cX10_line 4 RX10 Z) (hr : tc_Rt 0 cX10_line 4 Z q) : tc_Ok 4 Z 46 (bkX10_line_46 (tc_At 4 Z) q) := by
  unfold bkX10_line_46
  refine to_pop (pc := 46) X dX10_line_46 ?_
  refine to_aload_n (pc := 47) X dX10_line_47 rfl ?_
  refine to_gets (pc := 48) X (List.mem_of_getElem? (i := 11) rfl) wf_RX10_134 dX10_line_48 ?_
  refine to_iload_n (pc := 51) X dX10_line_51 rfl ?_
  refine to_aaldC (pc := 52) X dX10_line_52 ?_
  refine cvX10_perform (pc := 53) X wm_RX10_146 (by decide) dX10_line_53 ?_
  exact okX10_line_56 X hr
def bkX10_line_28 (P : Nat → tc_B) (q : tc_Q) : tc_B := tb_istore 3 <| tb_aload 0 <| tb_getf 8 2 <| tb_getf 4 1 <| tb_if_eq (tb_iload 1 <| tb_iload 3 <| tb_mmax <| tb_istore 1 <| tb_iinc 2 1 <| tb_cut (P 4) [0, 1, 2]) <| tb_aload 0 <| tb_getf 8 1 <| tb_callV 0 2 7 RX9_clear <| bkX10_line_46 P q
theorem okX10_line_28 {Z : tc_Z} {q : tc_Q} (X : tc_Cx ({ frames := 6, cells := 0, slots := 0, locals := 132 } : Room) cX10_line 4 RX10 Z) (hr : tc_Rt 0 cX10_line 4 Z q) : tc_Ok 4 Z 28 (bkX10_line_28 (tc_At 4 Z) q) := by
  unfold bkX10_line_28
  refine to_istore_n (pc := 28) X dX10_line_28 rfl (by decide) ?_
  refine to_aload_n (pc := 29) X dX10_line_29 rfl ?_
  refine gfX10_2 (pc := 30) X wf_RX10_28 dX10_line_30 ?_
  refine gfX5_1 (pc := 33) X wf_RX10_142 dX10_line_33 ?_
  refine to_if_eq (pc := 36) (tgt := 61) X dX10_line_36 (by decide) ?_ ?_
  · refine to_iload_n (pc := 61) X dX10_line_61 rfl ?_
    refine to_iload_n (pc := 62) X dX10_line_62 rfl ?_
    refine to_mmax (pc := 63) X (by decide) wm_RX10_150 wx_mmax_1 wx_mmax_2 wx_mmax_3 dX10_line_63 ?_
    refine to_istore_n (pc := 66) X dX10_line_66 rfl (by decide) ?_
    refine to_iinc (pc := 67) X dX10_line_67 (by decide) (by decide) ?_
    refine to_goto (pc := 70) (tgt := 4) X dX10_line_70 (by decide) ?_
    exact to_cut [0, 1, 2] (fun _ _ _ h => h)
  refine to_aload_n (pc := 39) X dX10_line_39 rfl ?_
  refine gfX10_1 (pc := 40) X wf_RX10_21 dX10_line_40 ?_
  refine cvX9_clear (pc := 43) X wm_RX10_130 (by decide) dX10_line_43 ?_
  exact okX10_line_46 X hr
def bkX10_line_4 (P : Nat → tc_B) (q : tc_Q) : tc_B := tb_iload 2 <| tb_gets (tc_R 4 1) <| tb_alenC <| tb_icmp_ge (tb_i (-100) <| tb_iload 1 <| tb_isub <| tb_iret q) <| tb_aload 0 <| tb_getf 8 2 <| tb_aload 0 <| tb_getf 8 1 <| tb_gets (tc_R 4 1) <| tb_iload 2 <| tb_aaldC <| tb_callV 2 4 4 RX5_reach <| bkX10_line_28 P q
theorem okX10_line_4 {Z : tc_Z} {q : tc_Q} (X : tc_Cx ({ frames := 6, cells := 0, slots := 0, locals := 132 } : Room) cX10_line 4 RX10 Z) (hr : tc_Rt 0 cX10_line 4 Z q) : tc_Ok 4 Z 4 (bkX10_line_4 (tc_At 4 Z) q) := by
  unfold bkX10_line_4
  refine to_iload_n (pc := 4) X dX10_line_4 rfl ?_
  refine to_gets (pc := 5) X (List.mem_of_getElem? (i := 11) rfl) wf_RX10_134 dX10_line_5 ?_
  refine to_alenC (pc := 8) X dX10_line_8 ?_
  refine to_icmp_ge (pc := 9) (tgt := 73) X dX10_line_9 (by decide) ?_ ?_
  · refine to_bipush (pc := 73) X dX10_line_73 (by decide) ?_
    refine to_iload_n (pc := 75) X dX10_line_75 rfl ?_
    refine to_isub (pc := 76) X dX10_line_76 ?_
    exact to_iret (pc := 77) hr dX10_line_77
  refine to_aload_n (pc := 12) X dX10_line_12 rfl ?_
  refine gfX10_2 (pc := 13) X wf_RX10_28 dX10_line_13 ?_
  refine to_aload_n (pc := 16) X dX10_line_16 rfl ?_
  refine gfX10_1 (pc := 17) X wf_RX10_21 dX10_line_17 ?_
  refine to_gets (pc := 20) X (List.mem_of_getElem? (i := 11) rfl) wf_RX10_134 dX10_line_20 ?_
  refine to_iload_n (pc := 23) X dX10_line_23 rfl ?_
  refine to_aaldC (pc := 24) X dX10_line_24 ?_
  refine cvX5_reach (pc := 25) X wm_RX10_138 (by decide) dX10_line_25 ?_
  exact okX10_line_28 X hr
def bkX10_line_0 (P : Nat → tc_B) (q : tc_Q) : tc_B := tb_i 0 <| tb_istore 1 <| tb_i 0 <| tb_istore 2 <| tb_cut (P 4) [0, 1, 2]
theorem okX10_line_0 {Z : tc_Z} {q : tc_Q} (X : tc_Cx ({ frames := 6, cells := 0, slots := 0, locals := 132 } : Room) cX10_line 4 RX10 Z) (hr : tc_Rt 0 cX10_line 4 Z q) : tc_Ok 4 Z 0 (bkX10_line_0 (tc_At 4 Z) q) := by
  unfold bkX10_line_0
  refine to_iconst (pc := 0) X dX10_line_0 (by decide) ?_
  refine to_istore_n (pc := 1) X dX10_line_1 rfl (by decide) ?_
  refine to_iconst (pc := 2) X dX10_line_2 (by decide) ?_
  refine to_istore_n (pc := 3) X dX10_line_3 rfl (by decide) ?_
  exact to_cut [0, 1, 2] (fun _ _ _ h => h)
def RX10_line (vs : List tc_V) (S : tc_S) (q : tc_Q) : Prop := ∀ P : Nat → tc_B, (∀ L K S, bkX10_line_4 P q L K S → P 4 L K S) → bkX10_line_0 P q (tc_num 0 vs) [] S
theorem metX10_line : tc_Met yX10_line (Cond.code yX10_line cX10_line 4 (some .int)) ({ frames := 6, cells := 0, slots := 0, locals := 132 } : Room) 0 4 RX10_line := tc_met (rk := 0) (by decide) ⟨rfl, rfl⟩ (fun Z q X hr vs S h => okX10_line_0 X hr _ _ _ (h (tc_At 4 Z) (okX10_line_4 X hr)))
theorem cvX10_line {R : Room} {cc : ByteArray} {nL pc ix : Nat} {own : String} {Z : tc_Z} {k : tc_B} (X : tc_Cx R cc nL own Z) (h1 : Cond.methodLink own ix yX10_line ∈ tc_tb) (hR : 6 + 1 ≤ R.frames ∧ 8 + (4 + 11) + 132 ≤ R.locals) (hd : decode cc pc = .ok (.invokevirtual ix, 3)) (h : tc_Ok nL Z (pc + 3) k) : tc_Ok nL Z pc (tb_callV 0 4 8 RX10_line k) := to_callV X metX10_line rfl ⟨rfl, rfl⟩ hR h1 wi_X10_line wl_X10_line wn_RX10 wc_X10_line ⟨by decide +kernel, by decide +kernel, by decide +kernel, by decide +kernel⟩ hd h
def bkX10_rule_44 (P : Nat → tc_B) (q : tc_Q) : tc_B := tb_pop <| tb_aload 0 <| tb_getf 8 13 <| tb_getE 1 4 (fun i => tc_I (nI i)) <| tb_iret q
theorem okX10_rule_44 {Z : tc_Z} {q : tc_Q} (X : tc_Cx ({ frames := 6, cells := 0, slots := 0, locals := 130 } : Room) cX10_rule 2 RX10 Z) (hr : tc_Rt 0 cX10_rule 2 Z q) : tc_Ok 2 Z 44 (bkX10_rule_44 (tc_At 2 Z) q) := by
  unfold bkX10_rule_44
  refine to_pop (pc := 44) X dX10_rule_44 ?_
  refine to_aload_n (pc := 45) X dX10_rule_45 rfl ?_
  refine gfX10_13 (pc := 46) X wf_RX10_90 dX10_rule_46 ?_
  refine to_getE (pc := 49) X (List.mem_of_getElem? (i := 0) rfl) wf_RX10_207 dX10_rule_49 ?_
  exact to_iret (pc := 52) hr dX10_rule_52
def bkX10_rule_25 (P : Nat → tc_B) (q : tc_Q) : tc_B := tb_if_eq (tb_iinc 1 1 <| tb_cut (P 2) [0, 1]) <| tb_aload 0 <| tb_gets (tc_R 4 0) <| tb_iload 1 <| tb_aaldR <| tb_putR 8 13 <| tb_aload 0 <| tb_getf 8 1 <| tb_callV 0 2 7 RX9_clear <| bkX10_rule_44 P q
theorem okX10_rule_25 {Z : tc_Z} {q : tc_Q} (X : tc_Cx ({ frames := 6, cells := 0, slots := 0, locals := 130 } : Room) cX10_rule 2 RX10 Z) (hr : tc_Rt 0 cX10_rule 2 Z q) : tc_Ok 2 Z 25 (bkX10_rule_25 (tc_At 2 Z) q) := by
  unfold bkX10_rule_25
  refine to_if_eq (pc := 25) (tgt := 53) X dX10_rule_25 (by decide) ?_ ?_
  · refine to_iinc (pc := 53) X dX10_rule_53 (by decide) (by decide) ?_
    refine to_goto (pc := 56) (tgt := 2) X dX10_rule_56 (by decide) ?_
    exact to_cut [0, 1] (fun _ _ _ h => h)
  refine to_aload_n (pc := 28) X dX10_rule_28 rfl ?_
  refine to_gets (pc := 29) X (List.mem_of_getElem? (i := 10) rfl) wf_RX10_195 dX10_rule_29 ?_
  refine to_iload_n (pc := 32) X dX10_rule_32 rfl ?_
  refine to_aaldR (pc := 33) X dX10_rule_33 ?_
  refine to_putR (pc := 34) X inX10 wf_RX10_90 dX10_rule_34 ?_
  refine to_aload_n (pc := 37) X dX10_rule_37 rfl ?_
  refine gfX10_1 (pc := 38) X wf_RX10_21 dX10_rule_38 ?_
  refine cvX9_clear (pc := 41) X wm_RX10_130 (by decide) dX10_rule_41 ?_
  exact okX10_rule_44 X hr
def bkX10_rule_2 (P : Nat → tc_B) (q : tc_Q) : tc_B := tb_iload 1 <| tb_gets (tc_R 4 0) <| tb_alenR <| tb_icmp_ge (tb_i (-1) <| tb_iret q) <| tb_aload 0 <| tb_getf 8 1 <| tb_gets (tc_R 4 0) <| tb_iload 1 <| tb_aaldR <| tb_getE 1 4 (fun i => tc_R 3 i) <| tb_callV 1 2 7 RX9_spells <| bkX10_rule_25 P q
theorem okX10_rule_2 {Z : tc_Z} {q : tc_Q} (X : tc_Cx ({ frames := 6, cells := 0, slots := 0, locals := 130 } : Room) cX10_rule 2 RX10 Z) (hr : tc_Rt 0 cX10_rule 2 Z q) : tc_Ok 2 Z 2 (bkX10_rule_2 (tc_At 2 Z) q) := by
  unfold bkX10_rule_2
  refine to_iload_n (pc := 2) X dX10_rule_2 rfl ?_
  refine to_gets (pc := 3) X (List.mem_of_getElem? (i := 10) rfl) wf_RX10_195 dX10_rule_3 ?_
  refine to_alenR (pc := 6) X dX10_rule_6 ?_
  refine to_icmp_ge (pc := 7) (tgt := 59) X dX10_rule_7 (by decide) ?_ ?_
  · refine to_iconst (pc := 59) X dX10_rule_59 (by decide) ?_
    exact to_iret (pc := 60) hr dX10_rule_60
  refine to_aload_n (pc := 10) X dX10_rule_10 rfl ?_
  refine gfX10_1 (pc := 11) X wf_RX10_21 dX10_rule_11 ?_
  refine to_gets (pc := 14) X (List.mem_of_getElem? (i := 10) rfl) wf_RX10_195 dX10_rule_14 ?_
  refine to_iload_n (pc := 17) X dX10_rule_17 rfl ?_
  refine to_aaldR (pc := 18) X dX10_rule_18 ?_
  refine to_getE (pc := 19) X (List.mem_of_getElem? (i := 1) rfl) wf_RX10_199 dX10_rule_19 ?_
  refine cvX9_spells (pc := 22) X wm_RX10_203 (by decide) dX10_rule_22 ?_
  exact okX10_rule_25 X hr
def bkX10_rule_0 (P : Nat → tc_B) (q : tc_Q) : tc_B := tb_i 0 <| tb_istore 1 <| tb_cut (P 2) [0, 1]
theorem okX10_rule_0 {Z : tc_Z} {q : tc_Q} (X : tc_Cx ({ frames := 6, cells := 0, slots := 0, locals := 130 } : Room) cX10_rule 2 RX10 Z) (hr : tc_Rt 0 cX10_rule 2 Z q) : tc_Ok 2 Z 0 (bkX10_rule_0 (tc_At 2 Z) q) := by
  unfold bkX10_rule_0
  refine to_iconst (pc := 0) X dX10_rule_0 (by decide) ?_
  refine to_istore_n (pc := 1) X dX10_rule_1 rfl (by decide) ?_
  exact to_cut [0, 1] (fun _ _ _ h => h)
def RX10_rule (vs : List tc_V) (S : tc_S) (q : tc_Q) : Prop := ∀ P : Nat → tc_B, (∀ L K S, bkX10_rule_2 P q L K S → P 2 L K S) → bkX10_rule_0 P q (tc_num 0 vs) [] S
theorem metX10_rule : tc_Met yX10_rule (Cond.code yX10_rule cX10_rule 2 (some .int)) ({ frames := 6, cells := 0, slots := 0, locals := 130 } : Room) 0 2 RX10_rule := tc_met (rk := 0) (by decide) ⟨rfl, rfl⟩ (fun Z q X hr vs S h => okX10_rule_0 X hr _ _ _ (h (tc_At 2 Z) (okX10_rule_2 X hr)))
theorem cvX10_rule {R : Room} {cc : ByteArray} {nL pc ix : Nat} {own : String} {Z : tc_Z} {k : tc_B} (X : tc_Cx R cc nL own Z) (h1 : Cond.methodLink own ix yX10_rule ∈ tc_tb) (hR : 6 + 1 ≤ R.frames ∧ 8 + (2 + 11) + 130 ≤ R.locals) (hd : decode cc pc = .ok (.invokevirtual ix, 3)) (h : tc_Ok nL Z (pc + 3) k) : tc_Ok nL Z pc (tb_callV 0 2 8 RX10_rule k) := to_callV X metX10_rule rfl ⟨rfl, rfl⟩ hR h1 wi_X10_rule wl_X10_rule wn_RX10 wc_X10_rule ⟨by decide +kernel, by decide +kernel, by decide +kernel, by decide +kernel⟩ hd h
def bkX10_miss_37 (P : Nat → tc_B) (q : tc_Q) : tc_B := tb_iret q
theorem okX10_miss_37 {Z : tc_Z} {q : tc_Q} (X : tc_Cx ({ frames := 1, cells := 0, slots := 0, locals := 23 } : Room) cX10_miss 3 RX10 Z) (hr : tc_Rt 0 cX10_miss 3 Z q) : tc_Ok 3 Z 37 (bkX10_miss_37 (tc_At 3 Z) q) := by
  unfold bkX10_miss_37
  exact to_iret (pc := 37) hr dX10_miss_37
def bkX10_miss_34 (P : Nat → tc_B) (q : tc_Q) : tc_B := tb_callE 2 4 1 4 RX8_missOf <| bkX10_miss_37 P q
theorem okX10_miss_34 {Z : tc_Z} {q : tc_Q} (X : tc_Cx ({ frames := 1, cells := 0, slots := 0, locals := 23 } : Room) cX10_miss 3 RX10 Z) (hr : tc_Rt 0 cX10_miss 3 Z q) : tc_Ok 3 Z 34 (bkX10_miss_34 (tc_At 3 Z) q) := by
  unfold bkX10_miss_34
  refine cvX8_missOf (pc := 34) X wm_RX10_210 (by decide) dX10_miss_34 ?_
  exact okX10_miss_37 X hr
def bkX10_miss_4 (P : Nat → tc_B) (q : tc_Q) : tc_B := tb_if_eq (tb_i (-2) <| tb_iret q) <| tb_iload 2 <| tb_if_lt (tb_i (-2) <| tb_iret q) <| tb_iload 2 <| tb_i 1 <| tb_icmp_le (tb_aload 0 <| tb_getf 8 13 <| tb_iload 1 <| tb_iload 2 <| tb_i 1 <| tb_icmp_ne (tb_i 0 <| tb_cut (P 34) []) <| tb_i 1 <| tb_cut (P 34) []) <| tb_i (-2) <| tb_iret q
theorem okX10_miss_4 {Z : tc_Z} {q : tc_Q} (X : tc_Cx ({ frames := 1, cells := 0, slots := 0, locals := 23 } : Room) cX10_miss 3 RX10 Z) (hr : tc_Rt 0 cX10_miss 3 Z q) : tc_Ok 3 Z 4 (bkX10_miss_4 (tc_At 3 Z) q) := by
  unfold bkX10_miss_4
  refine to_if_eq (pc := 4) (tgt := 16) X dX10_miss_4 (by decide) ?_ ?_
  · refine to_bipush (pc := 16) X dX10_miss_16 (by decide) ?_
    exact to_iret (pc := 18) hr dX10_miss_18
  refine to_iload_n (pc := 7) X dX10_miss_7 rfl ?_
  refine to_if_lt (pc := 8) (tgt := 16) X dX10_miss_8 (by decide) ?_ ?_
  · refine to_bipush (pc := 16) X dX10_miss_16 (by decide) ?_
    exact to_iret (pc := 18) hr dX10_miss_18
  refine to_iload_n (pc := 11) X dX10_miss_11 rfl ?_
  refine to_iconst (pc := 12) X dX10_miss_12 (by decide) ?_
  refine to_icmp_le (pc := 13) (tgt := 19) X dX10_miss_13 (by decide) ?_ ?_
  · refine to_aload_n (pc := 19) X dX10_miss_19 rfl ?_
    refine gfX10_13 (pc := 20) X wf_RX10_90 dX10_miss_20 ?_
    refine to_iload_n (pc := 23) X dX10_miss_23 rfl ?_
    refine to_iload_n (pc := 24) X dX10_miss_24 rfl ?_
    refine to_iconst (pc := 25) X dX10_miss_25 (by decide) ?_
    refine to_icmp_ne (pc := 26) (tgt := 33) X dX10_miss_26 (by decide) ?_ ?_
    · refine to_iconst (pc := 33) X dX10_miss_33 (by decide) ?_
      exact to_cut [] (fun _ _ _ h => h)
    refine to_iconst (pc := 29) X dX10_miss_29 (by decide) ?_
    refine to_goto (pc := 30) (tgt := 34) X dX10_miss_30 (by decide) ?_
    exact to_cut [] (fun _ _ _ h => h)
  refine to_bipush (pc := 16) X dX10_miss_16 (by decide) ?_
  exact to_iret (pc := 18) hr dX10_miss_18
def bkX10_miss_0 (P : Nat → tc_B) (q : tc_Q) : tc_B := tb_iload 1 <| tb_callS 1 1 RX10_isChance <| bkX10_miss_4 P q
theorem okX10_miss_0 {Z : tc_Z} {q : tc_Q} (X : tc_Cx ({ frames := 1, cells := 0, slots := 0, locals := 23 } : Room) cX10_miss 3 RX10 Z) (hr : tc_Rt 0 cX10_miss 3 Z q) : tc_Ok 3 Z 0 (bkX10_miss_0 (tc_At 3 Z) q) := by
  unfold bkX10_miss_0
  refine to_iload_n (pc := 0) X dX10_miss_0 rfl ?_
  refine cvX10_isChance (pc := 1) X wm_RX10_100 (by decide) dX10_miss_1 ?_
  exact okX10_miss_4 X hr
def RX10_miss (vs : List tc_V) (S : tc_S) (q : tc_Q) : Prop := ∀ P : Nat → tc_B, (∀ L K S, bkX10_miss_34 P q L K S → P 34 L K S) → bkX10_miss_0 P q (tc_num 0 vs) [] S
theorem metX10_miss : tc_Met yX10_miss (Cond.code yX10_miss cX10_miss 3 (some .int)) ({ frames := 1, cells := 0, slots := 0, locals := 23 } : Room) 0 3 RX10_miss := tc_met (rk := 0) (by decide) ⟨rfl, rfl⟩ (fun Z q X hr vs S h => okX10_miss_0 X hr _ _ _ (h (tc_At 3 Z) (okX10_miss_34 X hr)))
theorem cvX10_miss {R : Room} {cc : ByteArray} {nL pc ix : Nat} {own : String} {Z : tc_Z} {k : tc_B} (X : tc_Cx R cc nL own Z) (h1 : Cond.methodLink own ix yX10_miss ∈ tc_tb) (hR : 1 + 1 ≤ R.frames ∧ 8 + (3 + 11) + 23 ≤ R.locals) (hd : decode cc pc = .ok (.invokevirtual ix, 3)) (h : tc_Ok nL Z (pc + 3) k) : tc_Ok nL Z pc (tb_callV 2 3 8 RX10_miss k) := to_callV X metX10_miss rfl ⟨rfl, rfl⟩ hR h1 wi_X10_miss wl_X10_miss wn_RX10 wc_X10_miss ⟨by decide +kernel, by decide +kernel, by decide +kernel, by decide +kernel⟩ hd h
def bkX10_isWhich_9 (P : Nat → tc_B) (q : tc_Q) : tc_B := tb_i 1 <| tb_zret q
theorem okX10_isWhich_9 {Z : tc_Z} {q : tc_Q} (X : tc_Cx ({ frames := 0, cells := 0, slots := 0, locals := 0 } : Room) cX10_isWhich 1 RX10 Z) (hr : tc_Rt 1 cX10_isWhich 1 Z q) : tc_Ok 1 Z 9 (bkX10_isWhich_9 (tc_At 1 Z) q) := by
  unfold bkX10_isWhich_9
  refine to_iconst (pc := 9) X dX10_isWhich_9 (by decide) ?_
  refine to_goto (pc := 10) (tgt := 14) X dX10_isWhich_10 (by decide) ?_
  exact to_zret (pc := 14) hr dX10_isWhich_14
def bkX10_isWhich_0 (P : Nat → tc_B) (q : tc_Q) : tc_B := tb_iload 0 <| tb_if_eq (tb_cut (P 9) []) <| tb_iload 0 <| tb_i 1 <| tb_icmp_ne (tb_i 0 <| tb_zret q) <| tb_cut (P 9) []
theorem okX10_isWhich_0 {Z : tc_Z} {q : tc_Q} (X : tc_Cx ({ frames := 0, cells := 0, slots := 0, locals := 0 } : Room) cX10_isWhich 1 RX10 Z) (hr : tc_Rt 1 cX10_isWhich 1 Z q) : tc_Ok 1 Z 0 (bkX10_isWhich_0 (tc_At 1 Z) q) := by
  unfold bkX10_isWhich_0
  refine to_iload_n (pc := 0) X dX10_isWhich_0 rfl ?_
  refine to_if_eq (pc := 1) (tgt := 9) X dX10_isWhich_1 (by decide) ?_ ?_
  · exact to_cut [] (fun _ _ _ h => h)
  refine to_iload_n (pc := 4) X dX10_isWhich_4 rfl ?_
  refine to_iconst (pc := 5) X dX10_isWhich_5 (by decide) ?_
  refine to_icmp_ne (pc := 6) (tgt := 13) X dX10_isWhich_6 (by decide) ?_ ?_
  · refine to_iconst (pc := 13) X dX10_isWhich_13 (by decide) ?_
    exact to_zret (pc := 14) hr dX10_isWhich_14
  exact to_cut [] (fun _ _ _ h => h)
def RX10_isWhich (vs : List tc_V) (S : tc_S) (q : tc_Q) : Prop := ∀ P : Nat → tc_B, (∀ L K S, bkX10_isWhich_9 P q L K S → P 9 L K S) → bkX10_isWhich_0 P q (tc_num 0 vs) [] S
theorem metX10_isWhich : tc_Met yX10_isWhich (Cond.code yX10_isWhich cX10_isWhich 1 (some .boolean)) ({ frames := 0, cells := 0, slots := 0, locals := 0 } : Room) 1 1 RX10_isWhich := tc_met (rk := 1) (by decide) ⟨rfl, rfl⟩ (fun Z q X hr vs S h => okX10_isWhich_0 X hr _ _ _ (h (tc_At 1 Z) (okX10_isWhich_9 X hr)))
theorem cvX10_isWhich {R : Room} {cc : ByteArray} {nL pc ix : Nat} {own : String} {Z : tc_Z} {k : tc_B} (X : tc_Cx R cc nL own Z) (h1 : Cond.methodLink own ix yX10_isWhich ∈ tc_tb) (hR : 0 + 1 ≤ R.frames ∧ 8 + (1 + 11) + 0 ≤ R.locals) (hd : decode cc pc = .ok (.invokestatic ix, 3)) (h : tc_Ok nL Z (pc + 3) k) : tc_Ok nL Z pc (tb_callS 1 1 RX10_isWhich k) := to_callS X metX10_isWhich ⟨rfl, rfl⟩ hR h1 ws_X10_isWhich wn_RX10 wc_X10_isWhich ⟨by decide +kernel, by decide +kernel, by decide +kernel⟩ hd h
def bkX10_findMeanMiss_50 (P : Nat → tc_B) (q : tc_Q) : tc_B := tb_i 1 <| tb_zret q
theorem okX10_findMeanMiss_50 {Z : tc_Z} {q : tc_Q} (X : tc_Cx ({ frames := 4, cells := 0, slots := 0, locals := 92 } : Room) cX10_findMeanMiss 2 RX10 Z) (hr : tc_Rt 1 cX10_findMeanMiss 2 Z q) : tc_Ok 2 Z 50 (bkX10_findMeanMiss_50 (tc_At 2 Z) q) := by
  unfold bkX10_findMeanMiss_50
  refine to_iconst (pc := 50) X dX10_findMeanMiss_50 (by decide) ?_
  exact to_zret (pc := 51) hr dX10_findMeanMiss_51
def bkX10_findMeanMiss_39 (P : Nat → tc_B) (q : tc_Q) : tc_B := tb_aload 0 <| tb_getf 8 3 <| tb_getf 2 2 <| tb_i2l <| tb_callV 2 7 3 RX4_become <| bkX10_findMeanMiss_50 P q
theorem okX10_findMeanMiss_39 {Z : tc_Z} {q : tc_Q} (X : tc_Cx ({ frames := 4, cells := 0, slots := 0, locals := 92 } : Room) cX10_findMeanMiss 2 RX10 Z) (hr : tc_Rt 1 cX10_findMeanMiss 2 Z q) : tc_Ok 2 Z 39 (bkX10_findMeanMiss_39 (tc_At 2 Z) q) := by
  unfold bkX10_findMeanMiss_39
  refine to_aload_n (pc := 39) X dX10_findMeanMiss_39 rfl ?_
  refine gfX10_3 (pc := 40) X wf_RX10_35 dX10_findMeanMiss_40 ?_
  refine gfX2_2 (pc := 43) X wf_RX10_230 dX10_findMeanMiss_43 ?_
  refine to_i2l (pc := 46) X dX10_findMeanMiss_46 ?_
  refine cvX4_become (pc := 47) X wm_RX10_246 (by decide) dX10_findMeanMiss_47 ?_
  exact okX10_findMeanMiss_50 X hr
def bkX10_findMeanMiss_12 (P : Nat → tc_B) (q : tc_Q) : tc_B := tb_aload 0 <| tb_getf 8 3 <| tb_getf 2 2 <| tb_if_ne (tb_aload 0 <| tb_getf 8 6 <| tb_aload 0 <| tb_getf 8 3 <| tb_aload 0 <| tb_getf 8 13 <| tb_callV 1 5 2 RX2_missSum <| bkX10_findMeanMiss_39 P q) <| tb_i 0 <| tb_zret q
theorem okX10_findMeanMiss_12 {Z : tc_Z} {q : tc_Q} (X : tc_Cx ({ frames := 4, cells := 0, slots := 0, locals := 92 } : Room) cX10_findMeanMiss 2 RX10 Z) (hr : tc_Rt 1 cX10_findMeanMiss 2 Z q) : tc_Ok 2 Z 12 (bkX10_findMeanMiss_12 (tc_At 2 Z) q) := by
  unfold bkX10_findMeanMiss_12
  refine to_aload_n (pc := 12) X dX10_findMeanMiss_12 rfl ?_
  refine gfX10_3 (pc := 13) X wf_RX10_35 dX10_findMeanMiss_13 ?_
  refine gfX2_2 (pc := 16) X wf_RX10_230 dX10_findMeanMiss_16 ?_
  refine to_if_ne (pc := 19) (tgt := 24) X dX10_findMeanMiss_19 (by decide) ?_ ?_
  · refine to_aload_n (pc := 24) X dX10_findMeanMiss_24 rfl ?_
    refine gfX10_6 (pc := 25) X wf_RX10_56 dX10_findMeanMiss_25 ?_
    refine to_aload_n (pc := 28) X dX10_findMeanMiss_28 rfl ?_
    refine gfX10_3 (pc := 29) X wf_RX10_35 dX10_findMeanMiss_29 ?_
    refine to_aload_n (pc := 32) X dX10_findMeanMiss_32 rfl ?_
    refine gfX10_13 (pc := 33) X wf_RX10_90 dX10_findMeanMiss_33 ?_
    refine cvX2_missSum (pc := 36) X wm_RX10_233 (by decide) dX10_findMeanMiss_36 ?_
    exact okX10_findMeanMiss_39 X hr
  refine to_iconst (pc := 22) X dX10_findMeanMiss_22 (by decide) ?_
  exact to_zret (pc := 23) hr dX10_findMeanMiss_23
def bkX10_findMeanMiss_0 (P : Nat → tc_B) (q : tc_Q) : tc_B := tb_aload 0 <| tb_getf 8 3 <| tb_aload 0 <| tb_getf 8 0 <| tb_iload 1 <| tb_callV 2 4 2 RX2_gather <| bkX10_findMeanMiss_12 P q
theorem okX10_findMeanMiss_0 {Z : tc_Z} {q : tc_Q} (X : tc_Cx ({ frames := 4, cells := 0, slots := 0, locals := 92 } : Room) cX10_findMeanMiss 2 RX10 Z) (hr : tc_Rt 1 cX10_findMeanMiss 2 Z q) : tc_Ok 2 Z 0 (bkX10_findMeanMiss_0 (tc_At 2 Z) q) := by
  unfold bkX10_findMeanMiss_0
  refine to_aload_n (pc := 0) X dX10_findMeanMiss_0 rfl ?_
  refine gfX10_3 (pc := 1) X wf_RX10_35 dX10_findMeanMiss_1 ?_
  refine to_aload_n (pc := 4) X dX10_findMeanMiss_4 rfl ?_
  refine gfX10_0 (pc := 5) X wf_RX10_12 dX10_findMeanMiss_5 ?_
  refine to_iload_n (pc := 8) X dX10_findMeanMiss_8 rfl ?_
  refine cvX2_gather (pc := 9) X wm_RX10_226 (by decide) dX10_findMeanMiss_9 ?_
  exact okX10_findMeanMiss_12 X hr
def RX10_findMeanMiss (vs : List tc_V) (S : tc_S) (q : tc_Q) : Prop := ∀ P : Nat → tc_B, bkX10_findMeanMiss_0 P q (tc_num 0 vs) [] S
theorem metX10_findMeanMiss : tc_Met yX10_findMeanMiss (Cond.code yX10_findMeanMiss cX10_findMeanMiss 2 (some .boolean)) ({ frames := 4, cells := 0, slots := 0, locals := 92 } : Room) 1 2 RX10_findMeanMiss := tc_met (rk := 1) (by decide) ⟨rfl, rfl⟩ (fun Z q X hr vs S h => okX10_findMeanMiss_0 X hr _ _ _ (h (tc_At 2 Z)))
theorem cvX10_findMeanMiss {R : Room} {cc : ByteArray} {nL pc ix : Nat} {own : String} {Z : tc_Z} {k : tc_B} (X : tc_Cx R cc nL own Z) (h1 : Cond.methodLink own ix yX10_findMeanMiss ∈ tc_tb) (hR : 4 + 1 ≤ R.frames ∧ 8 + (2 + 11) + 92 ≤ R.locals) (hd : decode cc pc = .ok (.invokevirtual ix, 3)) (h : tc_Ok nL Z (pc + 3) k) : tc_Ok nL Z pc (tb_callV 1 2 8 RX10_findMeanMiss k) := to_callV X metX10_findMeanMiss rfl ⟨rfl, rfl⟩ hR h1 wi_X10_findMeanMiss wl_X10_findMeanMiss wn_RX10 wc_X10_findMeanMiss ⟨by decide +kernel, by decide +kernel, by decide +kernel, by decide +kernel⟩ hd h
def bkX10_score_34 (P : Nat → tc_B) (q : tc_Q) : tc_B := tb_jret q
theorem okX10_score_34 {Z : tc_Z} {q : tc_Q} (X : tc_Cx ({ frames := 5, cells := 0, slots := 0, locals := 113 } : Room) cX10_score 3 RX10 Z) (hr : tc_Rt 2 cX10_score 3 Z q) : tc_Ok 3 Z 34 (bkX10_score_34 (tc_At 3 Z) q) := by
  unfold bkX10_score_34
  exact to_jret (pc := 34) hr dX10_score_34
def bkX10_score_19 (P : Nat → tc_B) (q : tc_Q) : tc_B := tb_if_ne (tb_aload 0 <| tb_getf 8 6 <| tb_iload 2 <| tb_callV 1 2 3 RX4_pick <| bkX10_score_34 P q) <| tb_j (-9223372036854775808) <| tb_jret q
theorem okX10_score_19 {Z : tc_Z} {q : tc_Q} (X : tc_Cx ({ frames := 5, cells := 0, slots := 0, locals := 113 } : Room) cX10_score 3 RX10 Z) (hr : tc_Rt 2 cX10_score 3 Z q) : tc_Ok 3 Z 19 (bkX10_score_19 (tc_At 3 Z) q) := by
  unfold bkX10_score_19
  refine to_if_ne (pc := 19) (tgt := 26) X dX10_score_19 (by decide) ?_ ?_
  · refine to_aload_n (pc := 26) X dX10_score_26 rfl ?_
    refine gfX10_6 (pc := 27) X wf_RX10_56 dX10_score_27 ?_
    refine to_iload_n (pc := 30) X dX10_score_30 rfl ?_
    refine cvX4_pick (pc := 31) X wm_RX10_222 (by decide) dX10_score_31 ?_
    exact okX10_score_34 X hr
  refine to_ldc2 (pc := 22) X wj_RX10_220 dX10_score_22 ?_
  exact to_jret (pc := 25) hr dX10_score_25
def bkX10_score_11 (P : Nat → tc_B) (q : tc_Q) : tc_B := tb_if_eq (tb_j (-9223372036854775808) <| tb_jret q) <| tb_aload 0 <| tb_iload 1 <| tb_callV 1 2 8 RX10_findMeanMiss <| bkX10_score_19 P q
theorem okX10_score_11 {Z : tc_Z} {q : tc_Q} (X : tc_Cx ({ frames := 5, cells := 0, slots := 0, locals := 113 } : Room) cX10_score 3 RX10 Z) (hr : tc_Rt 2 cX10_score 3 Z q) : tc_Ok 3 Z 11 (bkX10_score_11 (tc_At 3 Z) q) := by
  unfold bkX10_score_11
  refine to_if_eq (pc := 11) (tgt := 22) X dX10_score_11 (by decide) ?_ ?_
  · refine to_ldc2 (pc := 22) X wj_RX10_220 dX10_score_22 ?_
    exact to_jret (pc := 25) hr dX10_score_25
  refine to_aload_n (pc := 14) X dX10_score_14 rfl ?_
  refine to_iload_n (pc := 15) X dX10_score_15 rfl ?_
  refine cvX10_findMeanMiss (pc := 16) X wm_RX10_217 (by decide) dX10_score_16 ?_
  exact okX10_score_19 X hr
def bkX10_score_4 (P : Nat → tc_B) (q : tc_Q) : tc_B := tb_if_eq (tb_j (-9223372036854775808) <| tb_jret q) <| tb_iload 2 <| tb_callS 1 1 RX10_isWhich <| bkX10_score_11 P q
theorem okX10_score_4 {Z : tc_Z} {q : tc_Q} (X : tc_Cx ({ frames := 5, cells := 0, slots := 0, locals := 113 } : Room) cX10_score 3 RX10 Z) (hr : tc_Rt 2 cX10_score 3 Z q) : tc_Ok 3 Z 4 (bkX10_score_4 (tc_At 3 Z) q) := by
  unfold bkX10_score_4
  refine to_if_eq (pc := 4) (tgt := 22) X dX10_score_4 (by decide) ?_ ?_
  · refine to_ldc2 (pc := 22) X wj_RX10_220 dX10_score_22 ?_
    exact to_jret (pc := 25) hr dX10_score_25
  refine to_iload_n (pc := 7) X dX10_score_7 rfl ?_
  refine cvX10_isWhich (pc := 8) X wm_RX10_214 (by decide) dX10_score_8 ?_
  exact okX10_score_11 X hr
def bkX10_score_0 (P : Nat → tc_B) (q : tc_Q) : tc_B := tb_iload 1 <| tb_callS 1 1 RX10_isTeller <| bkX10_score_4 P q
theorem okX10_score_0 {Z : tc_Z} {q : tc_Q} (X : tc_Cx ({ frames := 5, cells := 0, slots := 0, locals := 113 } : Room) cX10_score 3 RX10 Z) (hr : tc_Rt 2 cX10_score 3 Z q) : tc_Ok 3 Z 0 (bkX10_score_0 (tc_At 3 Z) q) := by
  unfold bkX10_score_0
  refine to_iload_n (pc := 0) X dX10_score_0 rfl ?_
  refine cvX10_isTeller (pc := 1) X wm_RX10_114 (by decide) dX10_score_1 ?_
  exact okX10_score_4 X hr
def RX10_score (vs : List tc_V) (S : tc_S) (q : tc_Q) : Prop := ∀ P : Nat → tc_B, bkX10_score_0 P q (tc_num 0 vs) [] S
theorem metX10_score : tc_Met yX10_score (Cond.code yX10_score cX10_score 3 (some .long)) ({ frames := 5, cells := 0, slots := 0, locals := 113 } : Room) 2 3 RX10_score := tc_met (rk := 2) (by decide) ⟨rfl, rfl⟩ (fun Z q X hr vs S h => okX10_score_0 X hr _ _ _ (h (tc_At 3 Z)))
theorem cvX10_score {R : Room} {cc : ByteArray} {nL pc ix : Nat} {own : String} {Z : tc_Z} {k : tc_B} (X : tc_Cx R cc nL own Z) (h1 : Cond.methodLink own ix yX10_score ∈ tc_tb) (hR : 5 + 1 ≤ R.frames ∧ 8 + (3 + 11) + 113 ≤ R.locals) (hd : decode cc pc = .ok (.invokevirtual ix, 3)) (h : tc_Ok nL Z (pc + 3) k) : tc_Ok nL Z pc (tb_callV 2 3 8 RX10_score k) := to_callV X metX10_score rfl ⟨rfl, rfl⟩ hR h1 wi_X10_score wl_X10_score wn_RX10 wc_X10_score ⟨by decide +kernel, by decide +kernel, by decide +kernel, by decide +kernel⟩ hd h
def bkX10_tellersAheadOf_79 (P : Nat → tc_B) (q : tc_Q) : tc_B := tb_iinc 3 1 <| tb_cut (P 4) [0, 1, 2, 3]
theorem okX10_tellersAheadOf_79 {Z : tc_Z} {q : tc_Q} (X : tc_Cx ({ frames := 0, cells := 0, slots := 0, locals := 0 } : Room) cX10_tellersAheadOf 8 RX10 Z) (hr : tc_Rt 0 cX10_tellersAheadOf 8 Z q) : tc_Ok 8 Z 79 (bkX10_tellersAheadOf_79 (tc_At 8 Z) q) := by
  unfold bkX10_tellersAheadOf_79
  refine to_iinc (pc := 79) X dX10_tellersAheadOf_79 (by decide) (by decide) ?_
  refine to_goto (pc := 82) (tgt := 4) X dX10_tellersAheadOf_82 (by decide) ?_
  exact to_cut [0, 1, 2, 3] (fun _ _ _ h => h)
def bkX10_tellersAheadOf_76 (P : Nat → tc_B) (q : tc_Q) : tc_B := tb_iinc 2 1 <| tb_cut (P 79) [0, 1, 2, 3]
theorem okX10_tellersAheadOf_76 {Z : tc_Z} {q : tc_Q} (X : tc_Cx ({ frames := 0, cells := 0, slots := 0, locals := 0 } : Room) cX10_tellersAheadOf 8 RX10 Z) (hr : tc_Rt 0 cX10_tellersAheadOf 8 Z q) : tc_Ok 8 Z 76 (bkX10_tellersAheadOf_76 (tc_At 8 Z) q) := by
  unfold bkX10_tellersAheadOf_76
  refine to_iinc (pc := 76) X dX10_tellersAheadOf_76 (by decide) (by decide) ?_
  exact to_cut [0, 1, 2, 3] (fun _ _ _ h => h)
def bkX10_tellersAheadOf_4 (P : Nat → tc_B) (q : tc_Q) : tc_B := tb_iload 3 <| tb_i 4 <| tb_icmp_gt (tb_iload 2 <| tb_iret q) <| tb_iload 3 <| tb_iload 1 <| tb_icmp_eq (tb_cut (P 79) [0, 1, 2, 3]) <| tb_aload 0 <| tb_getf 8 10 <| tb_iload 3 <| tb_iald <| tb_if_le (tb_cut (P 79) [0, 1, 2, 3]) <| tb_aload 0 <| tb_getf 8 9 <| tb_iload 3 <| tb_jald <| tb_aload 0 <| tb_getf 8 10 <| tb_iload 1 <| tb_iald <| tb_i2l <| tb_lmul <| tb_lstore 4 <| tb_aload 0 <| tb_getf 8 9 <| tb_iload 1 <| tb_jald <| tb_aload 0 <| tb_getf 8 10 <| tb_iload 3 <| tb_iald <| tb_i2l <| tb_lmul <| tb_lstore 6 <| tb_lload 4 <| tb_lload 6 <| tb_lcmp <| tb_if_lt (tb_cut (P 76) [0, 1, 2, 3]) <| tb_lload 4 <| tb_lload 6 <| tb_lcmp <| tb_if_ne (tb_cut (P 79) [0, 1, 2, 3]) <| tb_iload 3 <| tb_iload 1 <| tb_icmp_ge (tb_cut (P 79) [0, 1, 2, 3]) <| tb_cut (P 76) [0, 1, 2, 3]
theorem okX10_tellersAheadOf_4 {Z : tc_Z} {q : tc_Q} (X : tc_Cx ({ frames := 0, cells := 0, slots := 0, locals := 0 } : Room) cX10_tellersAheadOf 8 RX10 Z) (hr : tc_Rt 0 cX10_tellersAheadOf 8 Z q) : tc_Ok 8 Z 4 (bkX10_tellersAheadOf_4 (tc_At 8 Z) q) := by
  unfold bkX10_tellersAheadOf_4
  refine to_iload_n (pc := 4) X dX10_tellersAheadOf_4 rfl ?_
  refine to_iconst (pc := 5) X dX10_tellersAheadOf_5 (by decide) ?_
  refine to_icmp_gt (pc := 6) (tgt := 85) X dX10_tellersAheadOf_6 (by decide) ?_ ?_
  · refine to_iload_n (pc := 85) X dX10_tellersAheadOf_85 rfl ?_
    exact to_iret (pc := 86) hr dX10_tellersAheadOf_86
  refine to_iload_n (pc := 9) X dX10_tellersAheadOf_9 rfl ?_
  refine to_iload_n (pc := 10) X dX10_tellersAheadOf_10 rfl ?_
  refine to_icmp_eq (pc := 11) (tgt := 79) X dX10_tellersAheadOf_11 (by decide) ?_ ?_
  · exact to_cut [0, 1, 2, 3] (fun _ _ _ h => h)
  refine to_aload_n (pc := 14) X dX10_tellersAheadOf_14 rfl ?_
  refine gfX10_10 (pc := 15) X wf_RX10_74 dX10_tellersAheadOf_15 ?_
  refine to_iload_n (pc := 18) X dX10_tellersAheadOf_18 rfl ?_
  refine to_iald (pc := 19) X dX10_tellersAheadOf_19 ?_
  refine to_if_le (pc := 20) (tgt := 79) X dX10_tellersAheadOf_20 (by decide) ?_ ?_
  · exact to_cut [0, 1, 2, 3] (fun _ _ _ h => h)
  refine to_aload_n (pc := 23) X dX10_tellersAheadOf_23 rfl ?_
  refine gfX10_9 (pc := 24) X wf_RX10_70 dX10_tellersAheadOf_24 ?_
  refine to_iload_n (pc := 27) X dX10_tellersAheadOf_27 rfl ?_
  refine to_jald (pc := 28) X dX10_tellersAheadOf_28 ?_
  refine to_aload_n (pc := 29) X dX10_tellersAheadOf_29 rfl ?_
  refine gfX10_10 (pc := 30) X wf_RX10_74 dX10_tellersAheadOf_30 ?_
  refine to_iload_n (pc := 33) X dX10_tellersAheadOf_33 rfl ?_
  refine to_iald (pc := 34) X dX10_tellersAheadOf_34 ?_
  refine to_i2l (pc := 35) X dX10_tellersAheadOf_35 ?_
  refine to_lmul (pc := 36) X dX10_tellersAheadOf_36 ?_
  refine to_lstore (pc := 37) X dX10_tellersAheadOf_37 (by decide) ?_
  refine to_aload_n (pc := 39) X dX10_tellersAheadOf_39 rfl ?_
  refine gfX10_9 (pc := 40) X wf_RX10_70 dX10_tellersAheadOf_40 ?_
  refine to_iload_n (pc := 43) X dX10_tellersAheadOf_43 rfl ?_
  refine to_jald (pc := 44) X dX10_tellersAheadOf_44 ?_
  refine to_aload_n (pc := 45) X dX10_tellersAheadOf_45 rfl ?_
  refine gfX10_10 (pc := 46) X wf_RX10_74 dX10_tellersAheadOf_46 ?_
  refine to_iload_n (pc := 49) X dX10_tellersAheadOf_49 rfl ?_
  refine to_iald (pc := 50) X dX10_tellersAheadOf_50 ?_
  refine to_i2l (pc := 51) X dX10_tellersAheadOf_51 ?_
  refine to_lmul (pc := 52) X dX10_tellersAheadOf_52 ?_
  refine to_lstore (pc := 53) X dX10_tellersAheadOf_53 (by decide) ?_
  refine to_lload (pc := 55) X dX10_tellersAheadOf_55 ?_
  refine to_lload (pc := 57) X dX10_tellersAheadOf_57 ?_
  refine to_lcmp (pc := 59) X dX10_tellersAheadOf_59 ?_
  refine to_if_lt (pc := 60) (tgt := 76) X dX10_tellersAheadOf_60 (by decide) ?_ ?_
  · exact to_cut [0, 1, 2, 3] (fun _ _ _ h => h)
  refine to_lload (pc := 63) X dX10_tellersAheadOf_63 ?_
  refine to_lload (pc := 65) X dX10_tellersAheadOf_65 ?_
  refine to_lcmp (pc := 67) X dX10_tellersAheadOf_67 ?_
  refine to_if_ne (pc := 68) (tgt := 79) X dX10_tellersAheadOf_68 (by decide) ?_ ?_
  · exact to_cut [0, 1, 2, 3] (fun _ _ _ h => h)
  refine to_iload_n (pc := 71) X dX10_tellersAheadOf_71 rfl ?_
  refine to_iload_n (pc := 72) X dX10_tellersAheadOf_72 rfl ?_
  refine to_icmp_ge (pc := 73) (tgt := 79) X dX10_tellersAheadOf_73 (by decide) ?_ ?_
  · exact to_cut [0, 1, 2, 3] (fun _ _ _ h => h)
  exact to_cut [0, 1, 2, 3] (fun _ _ _ h => h)
def bkX10_tellersAheadOf_0 (P : Nat → tc_B) (q : tc_Q) : tc_B := tb_i 0 <| tb_istore 2 <| tb_i 0 <| tb_istore 3 <| tb_cut (P 4) [0, 1, 2, 3]
theorem okX10_tellersAheadOf_0 {Z : tc_Z} {q : tc_Q} (X : tc_Cx ({ frames := 0, cells := 0, slots := 0, locals := 0 } : Room) cX10_tellersAheadOf 8 RX10 Z) (hr : tc_Rt 0 cX10_tellersAheadOf 8 Z q) : tc_Ok 8 Z 0 (bkX10_tellersAheadOf_0 (tc_At 8 Z) q) := by
  unfold bkX10_tellersAheadOf_0
  refine to_iconst (pc := 0) X dX10_tellersAheadOf_0 (by decide) ?_
  refine to_istore_n (pc := 1) X dX10_tellersAheadOf_1 rfl (by decide) ?_
  refine to_iconst (pc := 2) X dX10_tellersAheadOf_2 (by decide) ?_
  refine to_istore_n (pc := 3) X dX10_tellersAheadOf_3 rfl (by decide) ?_
  exact to_cut [0, 1, 2, 3] (fun _ _ _ h => h)
def RX10_tellersAheadOf (vs : List tc_V) (S : tc_S) (q : tc_Q) : Prop := ∀ P : Nat → tc_B, (∀ L K S, bkX10_tellersAheadOf_4 P q L K S → P 4 L K S) → (∀ L K S, bkX10_tellersAheadOf_76 P q L K S → P 76 L K S) → (∀ L K S, bkX10_tellersAheadOf_79 P q L K S → P 79 L K S) → bkX10_tellersAheadOf_0 P q (tc_num 0 vs) [] S
theorem metX10_tellersAheadOf : tc_Met yX10_tellersAheadOf (Cond.code yX10_tellersAheadOf cX10_tellersAheadOf 8 (some .int)) ({ frames := 0, cells := 0, slots := 0, locals := 0 } : Room) 0 8 RX10_tellersAheadOf := tc_met (rk := 0) (by decide) ⟨rfl, rfl⟩ (fun Z q X hr vs S h => okX10_tellersAheadOf_0 X hr _ _ _ (h (tc_At 8 Z) (okX10_tellersAheadOf_4 X hr) (okX10_tellersAheadOf_76 X hr) (okX10_tellersAheadOf_79 X hr)))
theorem cvX10_tellersAheadOf {R : Room} {cc : ByteArray} {nL pc ix : Nat} {own : String} {Z : tc_Z} {k : tc_B} (X : tc_Cx R cc nL own Z) (h1 : Cond.methodLink own ix yX10_tellersAheadOf ∈ tc_tb) (hR : 0 + 1 ≤ R.frames ∧ 8 + (8 + 11) + 0 ≤ R.locals) (hd : decode cc pc = .ok (.invokevirtual ix, 3)) (h : tc_Ok nL Z (pc + 3) k) : tc_Ok nL Z pc (tb_callV 1 8 8 RX10_tellersAheadOf k) := to_callV X metX10_tellersAheadOf rfl ⟨rfl, rfl⟩ hR h1 wi_X10_tellersAheadOf wl_X10_tellersAheadOf wn_RX10 wc_X10_tellersAheadOf ⟨by decide +kernel, by decide +kernel, by decide +kernel, by decide +kernel⟩ hd h
def bkX10_rank_82 (P : Nat → tc_B) (q : tc_Q) : tc_B := tb_iinc 2 1 <| tb_cut (P 57) [0, 1, 2]
theorem okX10_rank_82 {Z : tc_Z} {q : tc_Q} (X : tc_Cx ({ frames := 4, cells := 0, slots := 0, locals := 92 } : Room) cX10_rank 3 RX10 Z) (hr : tc_Rt 0 cX10_rank 3 Z q) : tc_Ok 3 Z 82 (bkX10_rank_82 (tc_At 3 Z) q) := by
  unfold bkX10_rank_82
  refine to_iinc (pc := 82) X dX10_rank_82 (by decide) (by decide) ?_
  refine to_goto (pc := 85) (tgt := 57) X dX10_rank_85 (by decide) ?_
  exact to_cut [0, 1, 2] (fun _ _ _ h => h)
def bkX10_rank_76 (P : Nat → tc_B) (q : tc_Q) : tc_B := tb_iload 1 <| tb_icmp_ne (tb_cut (P 82) [0, 1, 2]) <| tb_iload 2 <| tb_iret q
theorem okX10_rank_76 {Z : tc_Z} {q : tc_Q} (X : tc_Cx ({ frames := 4, cells := 0, slots := 0, locals := 92 } : Room) cX10_rank 3 RX10 Z) (hr : tc_Rt 0 cX10_rank 3 Z q) : tc_Ok 3 Z 76 (bkX10_rank_76 (tc_At 3 Z) q) := by
  unfold bkX10_rank_76
  refine to_iload_n (pc := 76) X dX10_rank_76 rfl ?_
  refine to_icmp_ne (pc := 77) (tgt := 82) X dX10_rank_77 (by decide) ?_ ?_
  · exact to_cut [0, 1, 2] (fun _ _ _ h => h)
  refine to_iload_n (pc := 80) X dX10_rank_80 rfl ?_
  exact to_iret (pc := 81) hr dX10_rank_81
def bkX10_rank_57 (P : Nat → tc_B) (q : tc_Q) : tc_B := tb_iload 2 <| tb_i 4 <| tb_icmp_gt (tb_i (-1) <| tb_iret q) <| tb_aload 0 <| tb_getf 8 10 <| tb_iload 2 <| tb_iald <| tb_if_le (tb_cut (P 82) [0, 1, 2]) <| tb_aload 0 <| tb_iload 2 <| tb_callV 1 8 8 RX10_tellersAheadOf <| bkX10_rank_76 P q
theorem okX10_rank_57 {Z : tc_Z} {q : tc_Q} (X : tc_Cx ({ frames := 4, cells := 0, slots := 0, locals := 92 } : Room) cX10_rank 3 RX10 Z) (hr : tc_Rt 0 cX10_rank 3 Z q) : tc_Ok 3 Z 57 (bkX10_rank_57 (tc_At 3 Z) q) := by
  unfold bkX10_rank_57
  refine to_iload_n (pc := 57) X dX10_rank_57 rfl ?_
  refine to_iconst (pc := 58) X dX10_rank_58 (by decide) ?_
  refine to_icmp_gt (pc := 59) (tgt := 88) X dX10_rank_59 (by decide) ?_ ?_
  · refine to_iconst (pc := 88) X dX10_rank_88 (by decide) ?_
    exact to_iret (pc := 89) hr dX10_rank_89
  refine to_aload_n (pc := 62) X dX10_rank_62 rfl ?_
  refine gfX10_10 (pc := 63) X wf_RX10_74 dX10_rank_63 ?_
  refine to_iload_n (pc := 66) X dX10_rank_66 rfl ?_
  refine to_iald (pc := 67) X dX10_rank_67 ?_
  refine to_if_le (pc := 68) (tgt := 82) X dX10_rank_68 (by decide) ?_ ?_
  · exact to_cut [0, 1, 2] (fun _ _ _ h => h)
  refine to_aload_n (pc := 71) X dX10_rank_71 rfl ?_
  refine to_iload_n (pc := 72) X dX10_rank_72 rfl ?_
  refine cvX10_tellersAheadOf (pc := 73) X wm_RX10_237 (by decide) dX10_rank_73 ?_
  exact okX10_rank_76 X hr
def bkX10_rank_48 (P : Nat → tc_B) (q : tc_Q) : tc_B := tb_jast <| tb_iinc 2 1 <| tb_cut (P 2) [0, 1, 2]
theorem okX10_rank_48 {Z : tc_Z} {q : tc_Q} (X : tc_Cx ({ frames := 4, cells := 0, slots := 0, locals := 92 } : Room) cX10_rank 3 RX10 Z) (hr : tc_Rt 0 cX10_rank 3 Z q) : tc_Ok 3 Z 48 (bkX10_rank_48 (tc_At 3 Z) q) := by
  unfold bkX10_rank_48
  refine to_jast (pc := 48) X dX10_rank_48 ?_
  refine to_iinc (pc := 49) X dX10_rank_49 (by decide) (by decide) ?_
  refine to_goto (pc := 52) (tgt := 2) X dX10_rank_52 (by decide) ?_
  exact to_cut [0, 1, 2] (fun _ _ _ h => h)
def bkX10_rank_19 (P : Nat → tc_B) (q : tc_Q) : tc_B := tb_aload 0 <| tb_getf 8 10 <| tb_iload 2 <| tb_aload 0 <| tb_getf 8 3 <| tb_getf 2 2 <| tb_iast <| tb_aload 0 <| tb_getf 8 9 <| tb_iload 2 <| tb_aload 0 <| tb_getf 8 3 <| tb_aload 0 <| tb_getf 8 13 <| tb_callV 1 5 2 RX2_missSum <| bkX10_rank_48 P q
theorem okX10_rank_19 {Z : tc_Z} {q : tc_Q} (X : tc_Cx ({ frames := 4, cells := 0, slots := 0, locals := 92 } : Room) cX10_rank 3 RX10 Z) (hr : tc_Rt 0 cX10_rank 3 Z q) : tc_Ok 3 Z 19 (bkX10_rank_19 (tc_At 3 Z) q) := by
  unfold bkX10_rank_19
  refine to_aload_n (pc := 19) X dX10_rank_19 rfl ?_
  refine gfX10_10 (pc := 20) X wf_RX10_74 dX10_rank_20 ?_
  refine to_iload_n (pc := 23) X dX10_rank_23 rfl ?_
  refine to_aload_n (pc := 24) X dX10_rank_24 rfl ?_
  refine gfX10_3 (pc := 25) X wf_RX10_35 dX10_rank_25 ?_
  refine gfX2_2 (pc := 28) X wf_RX10_230 dX10_rank_28 ?_
  refine to_iast (pc := 31) X dX10_rank_31 ?_
  refine to_aload_n (pc := 32) X dX10_rank_32 rfl ?_
  refine gfX10_9 (pc := 33) X wf_RX10_70 dX10_rank_33 ?_
  refine to_iload_n (pc := 36) X dX10_rank_36 rfl ?_
  refine to_aload_n (pc := 37) X dX10_rank_37 rfl ?_
  refine gfX10_3 (pc := 38) X wf_RX10_35 dX10_rank_38 ?_
  refine to_aload_n (pc := 41) X dX10_rank_41 rfl ?_
  refine gfX10_13 (pc := 42) X wf_RX10_90 dX10_rank_42 ?_
  refine cvX2_missSum (pc := 45) X wm_RX10_233 (by decide) dX10_rank_45 ?_
  exact okX10_rank_48 X hr
def bkX10_rank_2 (P : Nat → tc_B) (q : tc_Q) : tc_B := tb_iload 2 <| tb_i 4 <| tb_icmp_gt (tb_i 0 <| tb_istore 2 <| tb_cut (P 57) [0, 1, 2]) <| tb_aload 0 <| tb_getf 8 3 <| tb_aload 0 <| tb_getf 8 0 <| tb_iload 2 <| tb_callV 2 4 2 RX2_gather <| bkX10_rank_19 P q
theorem okX10_rank_2 {Z : tc_Z} {q : tc_Q} (X : tc_Cx ({ frames := 4, cells := 0, slots := 0, locals := 92 } : Room) cX10_rank 3 RX10 Z) (hr : tc_Rt 0 cX10_rank 3 Z q) : tc_Ok 3 Z 2 (bkX10_rank_2 (tc_At 3 Z) q) := by
  unfold bkX10_rank_2
  refine to_iload_n (pc := 2) X dX10_rank_2 rfl ?_
  refine to_iconst (pc := 3) X dX10_rank_3 (by decide) ?_
  refine to_icmp_gt (pc := 4) (tgt := 55) X dX10_rank_4 (by decide) ?_ ?_
  · refine to_iconst (pc := 55) X dX10_rank_55 (by decide) ?_
    refine to_istore_n (pc := 56) X dX10_rank_56 rfl (by decide) ?_
    exact to_cut [0, 1, 2] (fun _ _ _ h => h)
  refine to_aload_n (pc := 7) X dX10_rank_7 rfl ?_
  refine gfX10_3 (pc := 8) X wf_RX10_35 dX10_rank_8 ?_
  refine to_aload_n (pc := 11) X dX10_rank_11 rfl ?_
  refine gfX10_0 (pc := 12) X wf_RX10_12 dX10_rank_12 ?_
  refine to_iload_n (pc := 15) X dX10_rank_15 rfl ?_
  refine cvX2_gather (pc := 16) X wm_RX10_226 (by decide) dX10_rank_16 ?_
  exact okX10_rank_19 X hr
def bkX10_rank_0 (P : Nat → tc_B) (q : tc_Q) : tc_B := tb_i 0 <| tb_istore 2 <| tb_cut (P 2) [0, 1, 2]
theorem okX10_rank_0 {Z : tc_Z} {q : tc_Q} (X : tc_Cx ({ frames := 4, cells := 0, slots := 0, locals := 92 } : Room) cX10_rank 3 RX10 Z) (hr : tc_Rt 0 cX10_rank 3 Z q) : tc_Ok 3 Z 0 (bkX10_rank_0 (tc_At 3 Z) q) := by
  unfold bkX10_rank_0
  refine to_iconst (pc := 0) X dX10_rank_0 (by decide) ?_
  refine to_istore_n (pc := 1) X dX10_rank_1 rfl (by decide) ?_
  exact to_cut [0, 1, 2] (fun _ _ _ h => h)
def RX10_rank (vs : List tc_V) (S : tc_S) (q : tc_Q) : Prop := ∀ P : Nat → tc_B, (∀ L K S, bkX10_rank_2 P q L K S → P 2 L K S) → (∀ L K S, bkX10_rank_57 P q L K S → P 57 L K S) → (∀ L K S, bkX10_rank_82 P q L K S → P 82 L K S) → bkX10_rank_0 P q (tc_num 0 vs) [] S
theorem metX10_rank : tc_Met yX10_rank (Cond.code yX10_rank cX10_rank 3 (some .int)) ({ frames := 4, cells := 0, slots := 0, locals := 92 } : Room) 0 3 RX10_rank := tc_met (rk := 0) (by decide) ⟨rfl, rfl⟩ (fun Z q X hr vs S h => okX10_rank_0 X hr _ _ _ (h (tc_At 3 Z) (okX10_rank_2 X hr) (okX10_rank_57 X hr) (okX10_rank_82 X hr)))
theorem cvX10_rank {R : Room} {cc : ByteArray} {nL pc ix : Nat} {own : String} {Z : tc_Z} {k : tc_B} (X : tc_Cx R cc nL own Z) (h1 : Cond.methodLink own ix yX10_rank ∈ tc_tb) (hR : 4 + 1 ≤ R.frames ∧ 8 + (3 + 11) + 92 ≤ R.locals) (hd : decode cc pc = .ok (.invokevirtual ix, 3)) (h : tc_Ok nL Z (pc + 3) k) : tc_Ok nL Z pc (tb_callV 1 3 8 RX10_rank k) := to_callV X metX10_rank rfl ⟨rfl, rfl⟩ hR h1 wi_X10_rank wl_X10_rank wn_RX10 wc_X10_rank ⟨by decide +kernel, by decide +kernel, by decide +kernel, by decide +kernel⟩ hd h
def bkX10_believedMiss_24 (P : Nat → tc_B) (q : tc_Q) : tc_B := tb_imul <| tb_iadd <| tb_iret q
theorem okX10_believedMiss_24 {Z : tc_Z} {q : tc_Q} (X : tc_Cx ({ frames := 1, cells := 0, slots := 0, locals := 23 } : Room) cX10_believedMiss 3 RX10 Z) (hr : tc_Rt 0 cX10_believedMiss 3 Z q) : tc_Ok 3 Z 24 (bkX10_believedMiss_24 (tc_At 3 Z) q) := by
  unfold bkX10_believedMiss_24
  refine to_imul (pc := 24) X dX10_believedMiss_24 ?_
  refine to_iadd (pc := 25) X dX10_believedMiss_25 ?_
  exact to_iret (pc := 26) hr dX10_believedMiss_26
def bkX10_believedMiss_10 (P : Nat → tc_B) (q : tc_Q) : tc_B := tb_imul <| tb_i 100 <| tb_iload 1 <| tb_isub <| tb_aload 0 <| tb_getf 8 13 <| tb_iload 2 <| tb_i 0 <| tb_callE 2 4 1 4 RX8_missOf <| bkX10_believedMiss_24 P q
theorem okX10_believedMiss_10 {Z : tc_Z} {q : tc_Q} (X : tc_Cx ({ frames := 1, cells := 0, slots := 0, locals := 23 } : Room) cX10_believedMiss 3 RX10 Z) (hr : tc_Rt 0 cX10_believedMiss 3 Z q) : tc_Ok 3 Z 10 (bkX10_believedMiss_10 (tc_At 3 Z) q) := by
  unfold bkX10_believedMiss_10
  refine to_imul (pc := 10) X dX10_believedMiss_10 ?_
  refine to_bipush (pc := 11) X dX10_believedMiss_11 (by decide) ?_
  refine to_iload_n (pc := 13) X dX10_believedMiss_13 rfl ?_
  refine to_isub (pc := 14) X dX10_believedMiss_14 ?_
  refine to_aload_n (pc := 15) X dX10_believedMiss_15 rfl ?_
  refine gfX10_13 (pc := 16) X wf_RX10_90 dX10_believedMiss_16 ?_
  refine to_iload_n (pc := 19) X dX10_believedMiss_19 rfl ?_
  refine to_iconst (pc := 20) X dX10_believedMiss_20 (by decide) ?_
  refine cvX8_missOf (pc := 21) X wm_RX10_210 (by decide) dX10_believedMiss_21 ?_
  exact okX10_believedMiss_24 X hr
def bkX10_believedMiss_0 (P : Nat → tc_B) (q : tc_Q) : tc_B := tb_iload 1 <| tb_aload 0 <| tb_getf 8 13 <| tb_iload 2 <| tb_i 1 <| tb_callE 2 4 1 4 RX8_missOf <| bkX10_believedMiss_10 P q
theorem okX10_believedMiss_0 {Z : tc_Z} {q : tc_Q} (X : tc_Cx ({ frames := 1, cells := 0, slots := 0, locals := 23 } : Room) cX10_believedMiss 3 RX10 Z) (hr : tc_Rt 0 cX10_believedMiss 3 Z q) : tc_Ok 3 Z 0 (bkX10_believedMiss_0 (tc_At 3 Z) q) := by
  unfold bkX10_believedMiss_0
  refine to_iload_n (pc := 0) X dX10_believedMiss_0 rfl ?_
  refine to_aload_n (pc := 1) X dX10_believedMiss_1 rfl ?_
  refine gfX10_13 (pc := 2) X wf_RX10_90 dX10_believedMiss_2 ?_
  refine to_iload_n (pc := 5) X dX10_believedMiss_5 rfl ?_
  refine to_iconst (pc := 6) X dX10_believedMiss_6 (by decide) ?_
  refine cvX8_missOf (pc := 7) X wm_RX10_210 (by decide) dX10_believedMiss_7 ?_
  exact okX10_believedMiss_10 X hr
def RX10_believedMiss (vs : List tc_V) (S : tc_S) (q : tc_Q) : Prop := ∀ P : Nat → tc_B, bkX10_believedMiss_0 P q (tc_num 0 vs) [] S
theorem metX10_believedMiss : tc_Met yX10_believedMiss (Cond.code yX10_believedMiss cX10_believedMiss 3 (some .int)) ({ frames := 1, cells := 0, slots := 0, locals := 23 } : Room) 0 3 RX10_believedMiss := tc_met (rk := 0) (by decide) ⟨rfl, rfl⟩ (fun Z q X hr vs S h => okX10_believedMiss_0 X hr _ _ _ (h (tc_At 3 Z)))
theorem cvX10_believedMiss {R : Room} {cc : ByteArray} {nL pc ix : Nat} {own : String} {Z : tc_Z} {k : tc_B} (X : tc_Cx R cc nL own Z) (h1 : Cond.methodLink own ix yX10_believedMiss ∈ tc_tb) (hR : 1 + 1 ≤ R.frames ∧ 8 + (3 + 11) + 23 ≤ R.locals) (hd : decode cc pc = .ok (.invokevirtual ix, 3)) (h : tc_Ok nL Z (pc + 3) k) : tc_Ok nL Z pc (tb_callV 2 3 8 RX10_believedMiss k) := to_callV X metX10_believedMiss rfl ⟨rfl, rfl⟩ hR h1 wi_X10_believedMiss wl_X10_believedMiss wn_RX10 wc_X10_believedMiss ⟨by decide +kernel, by decide +kernel, by decide +kernel, by decide +kernel⟩ hd h
def bkX10_leastBest_40 (P : Nat → tc_B) (q : tc_Q) : tc_B := tb_iinc 4 1 <| tb_cut (P 12) [0, 1, 2, 3, 4]
theorem okX10_leastBest_40 {Z : tc_Z} {q : tc_Q} (X : tc_Cx ({ frames := 2, cells := 0, slots := 0, locals := 45 } : Room) cX10_leastBest 6 RX10 Z) (hr : tc_Rt 0 cX10_leastBest 6 Z q) : tc_Ok 6 Z 40 (bkX10_leastBest_40 (tc_At 6 Z) q) := by
  unfold bkX10_leastBest_40
  refine to_iinc (pc := 40) X dX10_leastBest_40 (by decide) (by decide) ?_
  refine to_goto (pc := 43) (tgt := 12) X dX10_leastBest_43 (by decide) ?_
  exact to_cut [0, 1, 2, 3, 4] (fun _ _ _ h => h)
def bkX10_leastBest_26 (P : Nat → tc_B) (q : tc_Q) : tc_B := tb_istore 5 <| tb_iload 5 <| tb_iload 3 <| tb_icmp_ge (tb_cut (P 40) [0, 1, 2, 3, 4]) <| tb_iload 5 <| tb_istore 3 <| tb_iload 4 <| tb_istore 2 <| tb_cut (P 40) [0, 1, 2, 3, 4]
theorem okX10_leastBest_26 {Z : tc_Z} {q : tc_Q} (X : tc_Cx ({ frames := 2, cells := 0, slots := 0, locals := 45 } : Room) cX10_leastBest 6 RX10 Z) (hr : tc_Rt 0 cX10_leastBest 6 Z q) : tc_Ok 6 Z 26 (bkX10_leastBest_26 (tc_At 6 Z) q) := by
  unfold bkX10_leastBest_26
  refine to_istore (pc := 26) X dX10_leastBest_26 (by decide) ?_
  refine to_iload (pc := 28) X dX10_leastBest_28 ?_
  refine to_iload_n (pc := 30) X dX10_leastBest_30 rfl ?_
  refine to_icmp_ge (pc := 31) (tgt := 40) X dX10_leastBest_31 (by decide) ?_ ?_
  · exact to_cut [0, 1, 2, 3, 4] (fun _ _ _ h => h)
  refine to_iload (pc := 34) X dX10_leastBest_34 ?_
  refine to_istore_n (pc := 36) X dX10_leastBest_36 rfl (by decide) ?_
  refine to_iload (pc := 37) X dX10_leastBest_37 ?_
  refine to_istore_n (pc := 39) X dX10_leastBest_39 rfl (by decide) ?_
  exact to_cut [0, 1, 2, 3, 4] (fun _ _ _ h => h)
def bkX10_leastBest_12 (P : Nat → tc_B) (q : tc_Q) : tc_B := tb_iload 4 <| tb_i 100 <| tb_icmp_gt (tb_iload 2 <| tb_iret q) <| tb_aload 0 <| tb_iload 1 <| tb_iload 4 <| tb_callV 2 3 8 RX10_believedMiss <| bkX10_leastBest_26 P q
theorem okX10_leastBest_12 {Z : tc_Z} {q : tc_Q} (X : tc_Cx ({ frames := 2, cells := 0, slots := 0, locals := 45 } : Room) cX10_leastBest 6 RX10 Z) (hr : tc_Rt 0 cX10_leastBest 6 Z q) : tc_Ok 6 Z 12 (bkX10_leastBest_12 (tc_At 6 Z) q) := by
  unfold bkX10_leastBest_12
  refine to_iload (pc := 12) X dX10_leastBest_12 ?_
  refine to_bipush (pc := 14) X dX10_leastBest_14 (by decide) ?_
  refine to_icmp_gt (pc := 16) (tgt := 46) X dX10_leastBest_16 (by decide) ?_ ?_
  · refine to_iload_n (pc := 46) X dX10_leastBest_46 rfl ?_
    exact to_iret (pc := 47) hr dX10_leastBest_47
  refine to_aload_n (pc := 19) X dX10_leastBest_19 rfl ?_
  refine to_iload_n (pc := 20) X dX10_leastBest_20 rfl ?_
  refine to_iload (pc := 21) X dX10_leastBest_21 ?_
  refine cvX10_believedMiss (pc := 23) X wm_RX10_250 (by decide) dX10_leastBest_23 ?_
  exact okX10_leastBest_26 X hr
def bkX10_leastBest_8 (P : Nat → tc_B) (q : tc_Q) : tc_B := tb_istore 3 <| tb_i 1 <| tb_istore 4 <| tb_cut (P 12) [0, 1, 2, 3, 4]
theorem okX10_leastBest_8 {Z : tc_Z} {q : tc_Q} (X : tc_Cx ({ frames := 2, cells := 0, slots := 0, locals := 45 } : Room) cX10_leastBest 6 RX10 Z) (hr : tc_Rt 0 cX10_leastBest 6 Z q) : tc_Ok 6 Z 8 (bkX10_leastBest_8 (tc_At 6 Z) q) := by
  unfold bkX10_leastBest_8
  refine to_istore_n (pc := 8) X dX10_leastBest_8 rfl (by decide) ?_
  refine to_iconst (pc := 9) X dX10_leastBest_9 (by decide) ?_
  refine to_istore (pc := 10) X dX10_leastBest_10 (by decide) ?_
  exact to_cut [0, 1, 2, 3, 4] (fun _ _ _ h => h)
def bkX10_leastBest_0 (P : Nat → tc_B) (q : tc_Q) : tc_B := tb_i 0 <| tb_istore 2 <| tb_aload 0 <| tb_iload 1 <| tb_i 0 <| tb_callV 2 3 8 RX10_believedMiss <| bkX10_leastBest_8 P q
theorem okX10_leastBest_0 {Z : tc_Z} {q : tc_Q} (X : tc_Cx ({ frames := 2, cells := 0, slots := 0, locals := 45 } : Room) cX10_leastBest 6 RX10 Z) (hr : tc_Rt 0 cX10_leastBest 6 Z q) : tc_Ok 6 Z 0 (bkX10_leastBest_0 (tc_At 6 Z) q) := by
  unfold bkX10_leastBest_0
  refine to_iconst (pc := 0) X dX10_leastBest_0 (by decide) ?_
  refine to_istore_n (pc := 1) X dX10_leastBest_1 rfl (by decide) ?_
  refine to_aload_n (pc := 2) X dX10_leastBest_2 rfl ?_
  refine to_iload_n (pc := 3) X dX10_leastBest_3 rfl ?_
  refine to_iconst (pc := 4) X dX10_leastBest_4 (by decide) ?_
  refine cvX10_believedMiss (pc := 5) X wm_RX10_250 (by decide) dX10_leastBest_5 ?_
  exact okX10_leastBest_8 X hr
def RX10_leastBest (vs : List tc_V) (S : tc_S) (q : tc_Q) : Prop := ∀ P : Nat → tc_B, (∀ L K S, bkX10_leastBest_12 P q L K S → P 12 L K S) → (∀ L K S, bkX10_leastBest_40 P q L K S → P 40 L K S) → bkX10_leastBest_0 P q (tc_num 0 vs) [] S
theorem metX10_leastBest : tc_Met yX10_leastBest (Cond.code yX10_leastBest cX10_leastBest 6 (some .int)) ({ frames := 2, cells := 0, slots := 0, locals := 45 } : Room) 0 6 RX10_leastBest := tc_met (rk := 0) (by decide) ⟨rfl, rfl⟩ (fun Z q X hr vs S h => okX10_leastBest_0 X hr _ _ _ (h (tc_At 6 Z) (okX10_leastBest_12 X hr) (okX10_leastBest_40 X hr)))
theorem cvX10_leastBest {R : Room} {cc : ByteArray} {nL pc ix : Nat} {own : String} {Z : tc_Z} {k : tc_B} (X : tc_Cx R cc nL own Z) (h1 : Cond.methodLink own ix yX10_leastBest ∈ tc_tb) (hR : 2 + 1 ≤ R.frames ∧ 8 + (6 + 11) + 45 ≤ R.locals) (hd : decode cc pc = .ok (.invokevirtual ix, 3)) (h : tc_Ok nL Z (pc + 3) k) : tc_Ok nL Z pc (tb_callV 1 6 8 RX10_leastBest k) := to_callV X metX10_leastBest rfl ⟨rfl, rfl⟩ hR h1 wi_X10_leastBest wl_X10_leastBest wn_RX10 wc_X10_leastBest ⟨by decide +kernel, by decide +kernel, by decide +kernel, by decide +kernel⟩ hd h
def bkX10_lure_12 (P : Nat → tc_B) (q : tc_Q) : tc_B := tb_iret q
theorem okX10_lure_12 {Z : tc_Z} {q : tc_Q} (X : tc_Cx ({ frames := 3, cells := 0, slots := 0, locals := 70 } : Room) cX10_lure 2 RX10 Z) (hr : tc_Rt 0 cX10_lure 2 Z q) : tc_Ok 2 Z 12 (bkX10_lure_12 (tc_At 2 Z) q) := by
  unfold bkX10_lure_12
  refine to_goto (pc := 12) (tgt := 17) X dX10_lure_12 (by decide) ?_
  exact to_iret (pc := 17) hr dX10_lure_17
def bkX10_lure_4 (P : Nat → tc_B) (q : tc_Q) : tc_B := tb_if_eq (tb_i (-2) <| tb_iret q) <| tb_aload 0 <| tb_iload 1 <| tb_callV 1 6 8 RX10_leastBest <| bkX10_lure_12 P q
theorem okX10_lure_4 {Z : tc_Z} {q : tc_Q} (X : tc_Cx ({ frames := 3, cells := 0, slots := 0, locals := 70 } : Room) cX10_lure 2 RX10 Z) (hr : tc_Rt 0 cX10_lure 2 Z q) : tc_Ok 2 Z 4 (bkX10_lure_4 (tc_At 2 Z) q) := by
  unfold bkX10_lure_4
  refine to_if_eq (pc := 4) (tgt := 15) X dX10_lure_4 (by decide) ?_ ?_
  · refine to_bipush (pc := 15) X dX10_lure_15 (by decide) ?_
    exact to_iret (pc := 17) hr dX10_lure_17
  refine to_aload_n (pc := 7) X dX10_lure_7 rfl ?_
  refine to_iload_n (pc := 8) X dX10_lure_8 rfl ?_
  refine cvX10_leastBest (pc := 9) X wm_RX10_240 (by decide) dX10_lure_9 ?_
  exact okX10_lure_12 X hr
def bkX10_lure_0 (P : Nat → tc_B) (q : tc_Q) : tc_B := tb_iload 1 <| tb_callS 1 1 RX10_isChance <| bkX10_lure_4 P q
theorem okX10_lure_0 {Z : tc_Z} {q : tc_Q} (X : tc_Cx ({ frames := 3, cells := 0, slots := 0, locals := 70 } : Room) cX10_lure 2 RX10 Z) (hr : tc_Rt 0 cX10_lure 2 Z q) : tc_Ok 2 Z 0 (bkX10_lure_0 (tc_At 2 Z) q) := by
  unfold bkX10_lure_0
  refine to_iload_n (pc := 0) X dX10_lure_0 rfl ?_
  refine cvX10_isChance (pc := 1) X wm_RX10_100 (by decide) dX10_lure_1 ?_
  exact okX10_lure_4 X hr
def RX10_lure (vs : List tc_V) (S : tc_S) (q : tc_Q) : Prop := ∀ P : Nat → tc_B, bkX10_lure_0 P q (tc_num 0 vs) [] S
theorem metX10_lure : tc_Met yX10_lure (Cond.code yX10_lure cX10_lure 2 (some .int)) ({ frames := 3, cells := 0, slots := 0, locals := 70 } : Room) 0 2 RX10_lure := tc_met (rk := 0) (by decide) ⟨rfl, rfl⟩ (fun Z q X hr vs S h => okX10_lure_0 X hr _ _ _ (h (tc_At 2 Z)))
theorem cvX10_lure {R : Room} {cc : ByteArray} {nL pc ix : Nat} {own : String} {Z : tc_Z} {k : tc_B} (X : tc_Cx R cc nL own Z) (h1 : Cond.methodLink own ix yX10_lure ∈ tc_tb) (hR : 3 + 1 ≤ R.frames ∧ 8 + (2 + 11) + 70 ≤ R.locals) (hd : decode cc pc = .ok (.invokevirtual ix, 3)) (h : tc_Ok nL Z (pc + 3) k) : tc_Ok nL Z pc (tb_callV 1 2 8 RX10_lure k) := to_callV X metX10_lure rfl ⟨rfl, rfl⟩ hR h1 wi_X10_lure wl_X10_lure wn_RX10 wc_X10_lure ⟨by decide +kernel, by decide +kernel, by decide +kernel, by decide +kernel⟩ hd h
def bkX10_countHonest_32 (P : Nat → tc_B) (q : tc_Q) : tc_B := tb_iinc 2 1 <| tb_cut (P 4) [0, 1, 2]
theorem okX10_countHonest_32 {Z : tc_Z} {q : tc_Q} (X : tc_Cx ({ frames := 3, cells := 0, slots := 0, locals := 70 } : Room) cX10_countHonest 3 RX10 Z) (hr : tc_Rt 0 cX10_countHonest 3 Z q) : tc_Ok 3 Z 32 (bkX10_countHonest_32 (tc_At 3 Z) q) := by
  unfold bkX10_countHonest_32
  refine to_iinc (pc := 32) X dX10_countHonest_32 (by decide) (by decide) ?_
  refine to_goto (pc := 35) (tgt := 4) X dX10_countHonest_35 (by decide) ?_
  exact to_cut [0, 1, 2] (fun _ _ _ h => h)
def bkX10_countHonest_26 (P : Nat → tc_B) (q : tc_Q) : tc_B := tb_icmp_ne (tb_cut (P 32) [0, 1, 2]) <| tb_iinc 1 1 <| tb_cut (P 32) [0, 1, 2]
theorem okX10_countHonest_26 {Z : tc_Z} {q : tc_Q} (X : tc_Cx ({ frames := 3, cells := 0, slots := 0, locals := 70 } : Room) cX10_countHonest 3 RX10 Z) (hr : tc_Rt 0 cX10_countHonest 3 Z q) : tc_Ok 3 Z 26 (bkX10_countHonest_26 (tc_At 3 Z) q) := by
  unfold bkX10_countHonest_26
  refine to_icmp_ne (pc := 26) (tgt := 32) X dX10_countHonest_26 (by decide) ?_ ?_
  · exact to_cut [0, 1, 2] (fun _ _ _ h => h)
  refine to_iinc (pc := 29) X dX10_countHonest_29 (by decide) (by decide) ?_
  exact to_cut [0, 1, 2] (fun _ _ _ h => h)
def bkX10_countHonest_23 (P : Nat → tc_B) (q : tc_Q) : tc_B := tb_callV 2 3 8 RX10_believedMiss <| bkX10_countHonest_26 P q
theorem okX10_countHonest_23 {Z : tc_Z} {q : tc_Q} (X : tc_Cx ({ frames := 3, cells := 0, slots := 0, locals := 70 } : Room) cX10_countHonest 3 RX10 Z) (hr : tc_Rt 0 cX10_countHonest 3 Z q) : tc_Ok 3 Z 23 (bkX10_countHonest_23 (tc_At 3 Z) q) := by
  unfold bkX10_countHonest_23
  refine cvX10_believedMiss (pc := 23) X wm_RX10_250 (by decide) dX10_countHonest_23 ?_
  exact okX10_countHonest_26 X hr
def bkX10_countHonest_16 (P : Nat → tc_B) (q : tc_Q) : tc_B := tb_aload 0 <| tb_iload 2 <| tb_aload 0 <| tb_iload 2 <| tb_callV 1 6 8 RX10_leastBest <| bkX10_countHonest_23 P q
theorem okX10_countHonest_16 {Z : tc_Z} {q : tc_Q} (X : tc_Cx ({ frames := 3, cells := 0, slots := 0, locals := 70 } : Room) cX10_countHonest 3 RX10 Z) (hr : tc_Rt 0 cX10_countHonest 3 Z q) : tc_Ok 3 Z 16 (bkX10_countHonest_16 (tc_At 3 Z) q) := by
  unfold bkX10_countHonest_16
  refine to_aload_n (pc := 16) X dX10_countHonest_16 rfl ?_
  refine to_iload_n (pc := 17) X dX10_countHonest_17 rfl ?_
  refine to_aload_n (pc := 18) X dX10_countHonest_18 rfl ?_
  refine to_iload_n (pc := 19) X dX10_countHonest_19 rfl ?_
  refine cvX10_leastBest (pc := 20) X wm_RX10_240 (by decide) dX10_countHonest_20 ?_
  exact okX10_countHonest_23 X hr
def bkX10_countHonest_4 (P : Nat → tc_B) (q : tc_Q) : tc_B := tb_iload 2 <| tb_i 100 <| tb_icmp_gt (tb_iload 1 <| tb_iret q) <| tb_aload 0 <| tb_iload 2 <| tb_iload 2 <| tb_callV 2 3 8 RX10_believedMiss <| bkX10_countHonest_16 P q
theorem okX10_countHonest_4 {Z : tc_Z} {q : tc_Q} (X : tc_Cx ({ frames := 3, cells := 0, slots := 0, locals := 70 } : Room) cX10_countHonest 3 RX10 Z) (hr : tc_Rt 0 cX10_countHonest 3 Z q) : tc_Ok 3 Z 4 (bkX10_countHonest_4 (tc_At 3 Z) q) := by
  unfold bkX10_countHonest_4
  refine to_iload_n (pc := 4) X dX10_countHonest_4 rfl ?_
  refine to_bipush (pc := 5) X dX10_countHonest_5 (by decide) ?_
  refine to_icmp_gt (pc := 7) (tgt := 38) X dX10_countHonest_7 (by decide) ?_ ?_
  · refine to_iload_n (pc := 38) X dX10_countHonest_38 rfl ?_
    exact to_iret (pc := 39) hr dX10_countHonest_39
  refine to_aload_n (pc := 10) X dX10_countHonest_10 rfl ?_
  refine to_iload_n (pc := 11) X dX10_countHonest_11 rfl ?_
  refine to_iload_n (pc := 12) X dX10_countHonest_12 rfl ?_
  refine cvX10_believedMiss (pc := 13) X wm_RX10_250 (by decide) dX10_countHonest_13 ?_
  exact okX10_countHonest_16 X hr
def bkX10_countHonest_0 (P : Nat → tc_B) (q : tc_Q) : tc_B := tb_i 0 <| tb_istore 1 <| tb_i 0 <| tb_istore 2 <| tb_cut (P 4) [0, 1, 2]
theorem okX10_countHonest_0 {Z : tc_Z} {q : tc_Q} (X : tc_Cx ({ frames := 3, cells := 0, slots := 0, locals := 70 } : Room) cX10_countHonest 3 RX10 Z) (hr : tc_Rt 0 cX10_countHonest 3 Z q) : tc_Ok 3 Z 0 (bkX10_countHonest_0 (tc_At 3 Z) q) := by
  unfold bkX10_countHonest_0
  refine to_iconst (pc := 0) X dX10_countHonest_0 (by decide) ?_
  refine to_istore_n (pc := 1) X dX10_countHonest_1 rfl (by decide) ?_
  refine to_iconst (pc := 2) X dX10_countHonest_2 (by decide) ?_
  refine to_istore_n (pc := 3) X dX10_countHonest_3 rfl (by decide) ?_
  exact to_cut [0, 1, 2] (fun _ _ _ h => h)
def RX10_countHonest (vs : List tc_V) (S : tc_S) (q : tc_Q) : Prop := ∀ P : Nat → tc_B, (∀ L K S, bkX10_countHonest_4 P q L K S → P 4 L K S) → (∀ L K S, bkX10_countHonest_32 P q L K S → P 32 L K S) → bkX10_countHonest_0 P q (tc_num 0 vs) [] S
theorem metX10_countHonest : tc_Met yX10_countHonest (Cond.code yX10_countHonest cX10_countHonest 3 (some .int)) ({ frames := 3, cells := 0, slots := 0, locals := 70 } : Room) 0 3 RX10_countHonest := tc_met (rk := 0) (by decide) ⟨rfl, rfl⟩ (fun Z q X hr vs S h => okX10_countHonest_0 X hr _ _ _ (h (tc_At 3 Z) (okX10_countHonest_4 X hr) (okX10_countHonest_32 X hr)))
theorem cvX10_countHonest {R : Room} {cc : ByteArray} {nL pc ix : Nat} {own : String} {Z : tc_Z} {k : tc_B} (X : tc_Cx R cc nL own Z) (h1 : Cond.methodLink own ix yX10_countHonest ∈ tc_tb) (hR : 3 + 1 ≤ R.frames ∧ 8 + (3 + 11) + 70 ≤ R.locals) (hd : decode cc pc = .ok (.invokevirtual ix, 3)) (h : tc_Ok nL Z (pc + 3) k) : tc_Ok nL Z pc (tb_callV 0 3 8 RX10_countHonest k) := to_callV X metX10_countHonest rfl ⟨rfl, rfl⟩ hR h1 wi_X10_countHonest wl_X10_countHonest wn_RX10 wc_X10_countHonest ⟨by decide +kernel, by decide +kernel, by decide +kernel, by decide +kernel⟩ hd h
def bkX10_honest_31 (P : Nat → tc_B) (q : tc_Q) : tc_B := tb_aload 0 <| tb_getf 8 12 <| tb_aload 0 <| tb_getf 8 13 <| tb_getE 1 4 (fun i => tc_I (nI i)) <| tb_iald <| tb_iret q
theorem okX10_honest_31 {Z : tc_Z} {q : tc_Q} (X : tc_Cx ({ frames := 4, cells := 0, slots := 0, locals := 92 } : Room) cX10_honest 1 RX10 Z) (hr : tc_Rt 0 cX10_honest 1 Z q) : tc_Ok 1 Z 31 (bkX10_honest_31 (tc_At 1 Z) q) := by
  unfold bkX10_honest_31
  refine to_aload_n (pc := 31) X dX10_honest_31 rfl ?_
  refine gfX10_12 (pc := 32) X wf_RX10_81 dX10_honest_32 ?_
  refine to_aload_n (pc := 35) X dX10_honest_35 rfl ?_
  refine gfX10_13 (pc := 36) X wf_RX10_90 dX10_honest_36 ?_
  refine to_getE (pc := 39) X (List.mem_of_getElem? (i := 0) rfl) wf_RX10_207 dX10_honest_39 ?_
  refine to_iald (pc := 42) X dX10_honest_42 ?_
  exact to_iret (pc := 43) hr dX10_honest_43
def bkX10_honest_30 (P : Nat → tc_B) (q : tc_Q) : tc_B := tb_iast <| tb_cut (P 31) [0]
theorem okX10_honest_30 {Z : tc_Z} {q : tc_Q} (X : tc_Cx ({ frames := 4, cells := 0, slots := 0, locals := 92 } : Room) cX10_honest 1 RX10 Z) (hr : tc_Rt 0 cX10_honest 1 Z q) : tc_Ok 1 Z 30 (bkX10_honest_30 (tc_At 1 Z) q) := by
  unfold bkX10_honest_30
  refine to_iast (pc := 30) X dX10_honest_30 ?_
  exact to_cut [0] (fun _ _ _ h => h)
def bkX10_honest_0 (P : Nat → tc_B) (q : tc_Q) : tc_B := tb_aload 0 <| tb_getf 8 12 <| tb_aload 0 <| tb_getf 8 13 <| tb_getE 1 4 (fun i => tc_I (nI i)) <| tb_iald <| tb_if_ne (tb_cut (P 31) [0]) <| tb_aload 0 <| tb_getf 8 12 <| tb_aload 0 <| tb_getf 8 13 <| tb_getE 1 4 (fun i => tc_I (nI i)) <| tb_aload 0 <| tb_callV 0 3 8 RX10_countHonest <| bkX10_honest_30 P q
theorem okX10_honest_0 {Z : tc_Z} {q : tc_Q} (X : tc_Cx ({ frames := 4, cells := 0, slots := 0, locals := 92 } : Room) cX10_honest 1 RX10 Z) (hr : tc_Rt 0 cX10_honest 1 Z q) : tc_Ok 1 Z 0 (bkX10_honest_0 (tc_At 1 Z) q) := by
  unfold bkX10_honest_0
  refine to_aload_n (pc := 0) X dX10_honest_0 rfl ?_
  refine gfX10_12 (pc := 1) X wf_RX10_81 dX10_honest_1 ?_
  refine to_aload_n (pc := 4) X dX10_honest_4 rfl ?_
  refine gfX10_13 (pc := 5) X wf_RX10_90 dX10_honest_5 ?_
  refine to_getE (pc := 8) X (List.mem_of_getElem? (i := 0) rfl) wf_RX10_207 dX10_honest_8 ?_
  refine to_iald (pc := 11) X dX10_honest_11 ?_
  refine to_if_ne (pc := 12) (tgt := 31) X dX10_honest_12 (by decide) ?_ ?_
  · exact to_cut [0] (fun _ _ _ h => h)
  refine to_aload_n (pc := 15) X dX10_honest_15 rfl ?_
  refine gfX10_12 (pc := 16) X wf_RX10_81 dX10_honest_16 ?_
  refine to_aload_n (pc := 19) X dX10_honest_19 rfl ?_
  refine gfX10_13 (pc := 20) X wf_RX10_90 dX10_honest_20 ?_
  refine to_getE (pc := 23) X (List.mem_of_getElem? (i := 0) rfl) wf_RX10_207 dX10_honest_23 ?_
  refine to_aload_n (pc := 26) X dX10_honest_26 rfl ?_
  refine cvX10_countHonest (pc := 27) X wm_RX10_243 (by decide) dX10_honest_27 ?_
  exact okX10_honest_30 X hr
def RX10_honest (vs : List tc_V) (S : tc_S) (q : tc_Q) : Prop := ∀ P : Nat → tc_B, (∀ L K S, bkX10_honest_31 P q L K S → P 31 L K S) → bkX10_honest_0 P q (tc_num 0 vs) [] S
theorem metX10_honest : tc_Met yX10_honest (Cond.code yX10_honest cX10_honest 1 (some .int)) ({ frames := 4, cells := 0, slots := 0, locals := 92 } : Room) 0 1 RX10_honest := tc_met (rk := 0) (by decide) ⟨rfl, rfl⟩ (fun Z q X hr vs S h => okX10_honest_0 X hr _ _ _ (h (tc_At 1 Z) (okX10_honest_31 X hr)))
theorem cvX10_honest {R : Room} {cc : ByteArray} {nL pc ix : Nat} {own : String} {Z : tc_Z} {k : tc_B} (X : tc_Cx R cc nL own Z) (h1 : Cond.methodLink own ix yX10_honest ∈ tc_tb) (hR : 4 + 1 ≤ R.frames ∧ 8 + (1 + 11) + 92 ≤ R.locals) (hd : decode cc pc = .ok (.invokevirtual ix, 3)) (h : tc_Ok nL Z (pc + 3) k) : tc_Ok nL Z pc (tb_callV 0 1 8 RX10_honest k) := to_callV X metX10_honest rfl ⟨rfl, rfl⟩ hR h1 wi_X10_honest wl_X10_honest wn_RX10 wc_X10_honest ⟨by decide +kernel, by decide +kernel, by decide +kernel, by decide +kernel⟩ hd h
def bkX10_cut_22 (P : Nat → tc_B) (q : tc_Q) : tc_B := tb_if_eq (tb_i (-4) <| tb_iret q) <| tb_aload 0 <| tb_getf 8 4 <| tb_getf 0 1 <| tb_iret q
theorem okX10_cut_22 {Z : tc_Z} {q : tc_Q} (X : tc_Cx ({ frames := 2, cells := 0, slots := 0, locals := 45 } : Room) cX10_cut 2 RX10 Z) (hr : tc_Rt 0 cX10_cut 2 Z q) : tc_Ok 2 Z 22 (bkX10_cut_22 (tc_At 2 Z) q) := by
  unfold bkX10_cut_22
  refine to_if_eq (pc := 22) (tgt := 35) X dX10_cut_22 (by decide) ?_ ?_
  · refine to_bipush (pc := 35) X dX10_cut_35 (by decide) ?_
    exact to_iret (pc := 37) hr dX10_cut_37
  refine to_aload_n (pc := 25) X dX10_cut_25 rfl ?_
  refine gfX10_4 (pc := 26) X wf_RX10_42 dX10_cut_26 ?_
  refine gfX0_1 (pc := 29) X wf_RX10_256 dX10_cut_29 ?_
  refine to_goto (pc := 32) (tgt := 37) X dX10_cut_32 (by decide) ?_
  exact to_iret (pc := 37) hr dX10_cut_37
def bkX10_cut_0 (P : Nat → tc_B) (q : tc_Q) : tc_B := tb_iload 1 <| tb_i 1 <| tb_icmp_lt (tb_i (-2) <| tb_iret q) <| tb_iload 1 <| tb_i 100 <| tb_icmp_le (tb_aload 0 <| tb_getf 8 4 <| tb_iload 1 <| tb_callV 1 3 0 RX0_flipCut <| bkX10_cut_22 P q) <| tb_i (-2) <| tb_iret q
theorem okX10_cut_0 {Z : tc_Z} {q : tc_Q} (X : tc_Cx ({ frames := 2, cells := 0, slots := 0, locals := 45 } : Room) cX10_cut 2 RX10 Z) (hr : tc_Rt 0 cX10_cut 2 Z q) : tc_Ok 2 Z 0 (bkX10_cut_0 (tc_At 2 Z) q) := by
  unfold bkX10_cut_0
  refine to_iload_n (pc := 0) X dX10_cut_0 rfl ?_
  refine to_iconst (pc := 1) X dX10_cut_1 (by decide) ?_
  refine to_icmp_lt (pc := 2) (tgt := 11) X dX10_cut_2 (by decide) ?_ ?_
  · refine to_bipush (pc := 11) X dX10_cut_11 (by decide) ?_
    exact to_iret (pc := 13) hr dX10_cut_13
  refine to_iload_n (pc := 5) X dX10_cut_5 rfl ?_
  refine to_bipush (pc := 6) X dX10_cut_6 (by decide) ?_
  refine to_icmp_le (pc := 8) (tgt := 14) X dX10_cut_8 (by decide) ?_ ?_
  · refine to_aload_n (pc := 14) X dX10_cut_14 rfl ?_
    refine gfX10_4 (pc := 15) X wf_RX10_42 dX10_cut_15 ?_
    refine to_iload_n (pc := 18) X dX10_cut_18 rfl ?_
    refine cvX0_flipCut (pc := 19) X wm_RX10_253 (by decide) dX10_cut_19 ?_
    exact okX10_cut_22 X hr
  refine to_bipush (pc := 11) X dX10_cut_11 (by decide) ?_
  exact to_iret (pc := 13) hr dX10_cut_13
def RX10_cut (vs : List tc_V) (S : tc_S) (q : tc_Q) : Prop := ∀ P : Nat → tc_B, bkX10_cut_0 P q (tc_num 0 vs) [] S
theorem metX10_cut : tc_Met yX10_cut (Cond.code yX10_cut cX10_cut 2 (some .int)) ({ frames := 2, cells := 0, slots := 0, locals := 45 } : Room) 0 2 RX10_cut := tc_met (rk := 0) (by decide) ⟨rfl, rfl⟩ (fun Z q X hr vs S h => okX10_cut_0 X hr _ _ _ (h (tc_At 2 Z)))
theorem cvX10_cut {R : Room} {cc : ByteArray} {nL pc ix : Nat} {own : String} {Z : tc_Z} {k : tc_B} (X : tc_Cx R cc nL own Z) (h1 : Cond.methodLink own ix yX10_cut ∈ tc_tb) (hR : 2 + 1 ≤ R.frames ∧ 8 + (2 + 11) + 45 ≤ R.locals) (hd : decode cc pc = .ok (.invokevirtual ix, 3)) (h : tc_Ok nL Z (pc + 3) k) : tc_Ok nL Z pc (tb_callV 1 2 8 RX10_cut k) := to_callV X metX10_cut rfl ⟨rfl, rfl⟩ hR h1 wi_X10_cut wl_X10_cut wn_RX10 wc_X10_cut ⟨by decide +kernel, by decide +kernel, by decide +kernel, by decide +kernel⟩ hd h
def bkX10_bin_83 (P : Nat → tc_B) (q : tc_Q) : tc_B := tb_iload 3 <| tb_if_ne (tb_iload 3 <| tb_i 1 <| tb_icmp_ne (tb_aload 0 <| tb_getf 8 4 <| tb_getf 0 4 <| tb_iload 2 <| tb_iald <| tb_iret q) <| tb_aload 0 <| tb_getf 8 4 <| tb_getf 0 3 <| tb_iload 2 <| tb_iald <| tb_iret q) <| tb_aload 0 <| tb_getf 8 4 <| tb_getf 0 2 <| tb_iload 2 <| tb_iald <| tb_iret q
theorem okX10_bin_83 {Z : tc_Z} {q : tc_Q} (X : tc_Cx ({ frames := 4, cells := 0, slots := 0, locals := 92 } : Room) cX10_bin 4 RX10 Z) (hr : tc_Rt 0 cX10_bin 4 Z q) : tc_Ok 4 Z 83 (bkX10_bin_83 (tc_At 4 Z) q) := by
  unfold bkX10_bin_83
  refine to_iload_n (pc := 83) X dX10_bin_83 rfl ?_
  refine to_if_ne (pc := 84) (tgt := 97) X dX10_bin_84 (by decide) ?_ ?_
  · refine to_iload_n (pc := 97) X dX10_bin_97 rfl ?_
    refine to_iconst (pc := 98) X dX10_bin_98 (by decide) ?_
    refine to_icmp_ne (pc := 99) (tgt := 114) X dX10_bin_99 (by decide) ?_ ?_
    · refine to_aload_n (pc := 114) X dX10_bin_114 rfl ?_
      refine gfX10_4 (pc := 115) X wf_RX10_42 dX10_bin_115 ?_
      refine gfX0_4 (pc := 118) X wf_RX10_278 dX10_bin_118 ?_
      refine to_iload_n (pc := 121) X dX10_bin_121 rfl ?_
      refine to_iald (pc := 122) X dX10_bin_122 ?_
      exact to_iret (pc := 123) hr dX10_bin_123
    refine to_aload_n (pc := 102) X dX10_bin_102 rfl ?_
    refine gfX10_4 (pc := 103) X wf_RX10_42 dX10_bin_103 ?_
    refine gfX0_3 (pc := 106) X wf_RX10_275 dX10_bin_106 ?_
    refine to_iload_n (pc := 109) X dX10_bin_109 rfl ?_
    refine to_iald (pc := 110) X dX10_bin_110 ?_
    refine to_goto (pc := 111) (tgt := 123) X dX10_bin_111 (by decide) ?_
    exact to_iret (pc := 123) hr dX10_bin_123
  refine to_aload_n (pc := 87) X dX10_bin_87 rfl ?_
  refine gfX10_4 (pc := 88) X wf_RX10_42 dX10_bin_88 ?_
  refine gfX0_2 (pc := 91) X wf_RX10_272 dX10_bin_91 ?_
  refine to_iload_n (pc := 94) X dX10_bin_94 rfl ?_
  refine to_iald (pc := 95) X dX10_bin_95 ?_
  exact to_iret (pc := 96) hr dX10_bin_96
def bkX10_bin_72 (P : Nat → tc_B) (q : tc_Q) : tc_B := tb_aload 0 <| tb_getf 8 4 <| tb_aload 0 <| tb_getf 8 3 <| tb_callV 1 5 0 RX0_sortIn <| bkX10_bin_83 P q
theorem okX10_bin_72 {Z : tc_Z} {q : tc_Q} (X : tc_Cx ({ frames := 4, cells := 0, slots := 0, locals := 92 } : Room) cX10_bin 4 RX10 Z) (hr : tc_Rt 0 cX10_bin 4 Z q) : tc_Ok 4 Z 72 (bkX10_bin_72 (tc_At 4 Z) q) := by
  unfold bkX10_bin_72
  refine to_aload_n (pc := 72) X dX10_bin_72 rfl ?_
  refine gfX10_4 (pc := 73) X wf_RX10_42 dX10_bin_73 ?_
  refine to_aload_n (pc := 76) X dX10_bin_76 rfl ?_
  refine gfX10_3 (pc := 77) X wf_RX10_35 dX10_bin_77 ?_
  refine cvX0_sortIn (pc := 80) X wm_RX10_268 (by decide) dX10_bin_80 ?_
  exact okX10_bin_83 X hr
def bkX10_bin_59 (P : Nat → tc_B) (q : tc_Q) : tc_B := tb_iret q
theorem okX10_bin_59 {Z : tc_Z} {q : tc_Q} (X : tc_Cx ({ frames := 4, cells := 0, slots := 0, locals := 92 } : Room) cX10_bin 4 RX10 Z) (hr : tc_Rt 0 cX10_bin 4 Z q) : tc_Ok 4 Z 59 (bkX10_bin_59 (tc_At 4 Z) q) := by
  unfold bkX10_bin_59
  exact to_iret (pc := 59) hr dX10_bin_59
def bkX10_bin_45 (P : Nat → tc_B) (q : tc_Q) : tc_B := tb_iret q
theorem okX10_bin_45 {Z : tc_Z} {q : tc_Q} (X : tc_Cx ({ frames := 4, cells := 0, slots := 0, locals := 92 } : Room) cX10_bin 4 RX10 Z) (hr : tc_Rt 0 cX10_bin 4 Z q) : tc_Ok 4 Z 45 (bkX10_bin_45 (tc_At 4 Z) q) := by
  unfold bkX10_bin_45
  exact to_iret (pc := 45) hr dX10_bin_45
def bkX10_bin_15 (P : Nat → tc_B) (q : tc_Q) : tc_B := tb_if_ne (tb_iload 3 <| tb_if_lt (tb_i (-2) <| tb_iret q) <| tb_iload 3 <| tb_i 4 <| tb_icmp_le (tb_iload 3 <| tb_i 3 <| tb_icmp_ne (tb_iload 3 <| tb_i 4 <| tb_icmp_ne (tb_aload 0 <| tb_getf 8 3 <| tb_aload 0 <| tb_getf 8 0 <| tb_iload 1 <| tb_callV 2 4 2 RX2_gather <| bkX10_bin_72 P q) <| tb_aload 0 <| tb_getf 8 4 <| tb_iload 2 <| tb_callV 1 2 0 RX0_greatestOf <| bkX10_bin_59 P q) <| tb_aload 0 <| tb_getf 8 4 <| tb_iload 2 <| tb_callV 1 2 0 RX0_leastOf <| bkX10_bin_45 P q) <| tb_i (-2) <| tb_iret q) <| tb_i (-1) <| tb_iret q
theorem okX10_bin_15 {Z : tc_Z} {q : tc_Q} (X : tc_Cx ({ frames := 4, cells := 0, slots := 0, locals := 92 } : Room) cX10_bin 4 RX10 Z) (hr : tc_Rt 0 cX10_bin 4 Z q) : tc_Ok 4 Z 15 (bkX10_bin_15 (tc_At 4 Z) q) := by
  unfold bkX10_bin_15
  refine to_if_ne (pc := 15) (tgt := 20) X dX10_bin_15 (by decide) ?_ ?_
  · refine to_iload_n (pc := 20) X dX10_bin_20 rfl ?_
    refine to_if_lt (pc := 21) (tgt := 29) X dX10_bin_21 (by decide) ?_ ?_
    · refine to_bipush (pc := 29) X dX10_bin_29 (by decide) ?_
      exact to_iret (pc := 31) hr dX10_bin_31
    refine to_iload_n (pc := 24) X dX10_bin_24 rfl ?_
    refine to_iconst (pc := 25) X dX10_bin_25 (by decide) ?_
    refine to_icmp_le (pc := 26) (tgt := 32) X dX10_bin_26 (by decide) ?_ ?_
    · refine to_iload_n (pc := 32) X dX10_bin_32 rfl ?_
      refine to_iconst (pc := 33) X dX10_bin_33 (by decide) ?_
      refine to_icmp_ne (pc := 34) (tgt := 46) X dX10_bin_34 (by decide) ?_ ?_
      · refine to_iload_n (pc := 46) X dX10_bin_46 rfl ?_
        refine to_iconst (pc := 47) X dX10_bin_47 (by decide) ?_
        refine to_icmp_ne (pc := 48) (tgt := 60) X dX10_bin_48 (by decide) ?_ ?_
        · refine to_aload_n (pc := 60) X dX10_bin_60 rfl ?_
          refine gfX10_3 (pc := 61) X wf_RX10_35 dX10_bin_61 ?_
          refine to_aload_n (pc := 64) X dX10_bin_64 rfl ?_
          refine gfX10_0 (pc := 65) X wf_RX10_12 dX10_bin_65 ?_
          refine to_iload_n (pc := 68) X dX10_bin_68 rfl ?_
          refine cvX2_gather (pc := 69) X wm_RX10_226 (by decide) dX10_bin_69 ?_
          exact okX10_bin_72 X hr
        refine to_aload_n (pc := 51) X dX10_bin_51 rfl ?_
        refine gfX10_4 (pc := 52) X wf_RX10_42 dX10_bin_52 ?_
        refine to_iload_n (pc := 55) X dX10_bin_55 rfl ?_
        refine cvX0_greatestOf (pc := 56) X wm_RX10_265 (by decide) dX10_bin_56 ?_
        exact okX10_bin_59 X hr
      refine to_aload_n (pc := 37) X dX10_bin_37 rfl ?_
      refine gfX10_4 (pc := 38) X wf_RX10_42 dX10_bin_38 ?_
      refine to_iload_n (pc := 41) X dX10_bin_41 rfl ?_
      refine cvX0_leastOf (pc := 42) X wm_RX10_262 (by decide) dX10_bin_42 ?_
      exact okX10_bin_45 X hr
    refine to_bipush (pc := 29) X dX10_bin_29 (by decide) ?_
    exact to_iret (pc := 31) hr dX10_bin_31
  refine to_iconst (pc := 18) X dX10_bin_18 (by decide) ?_
  exact to_iret (pc := 19) hr dX10_bin_19
def bkX10_bin_4 (P : Nat → tc_B) (q : tc_Q) : tc_B := tb_if_eq (tb_i (-1) <| tb_iret q) <| tb_aload 0 <| tb_getf 8 4 <| tb_iload 2 <| tb_callV 1 2 0 RX0_hasBin <| bkX10_bin_15 P q
theorem okX10_bin_4 {Z : tc_Z} {q : tc_Q} (X : tc_Cx ({ frames := 4, cells := 0, slots := 0, locals := 92 } : Room) cX10_bin 4 RX10 Z) (hr : tc_Rt 0 cX10_bin 4 Z q) : tc_Ok 4 Z 4 (bkX10_bin_4 (tc_At 4 Z) q) := by
  unfold bkX10_bin_4
  refine to_if_eq (pc := 4) (tgt := 18) X dX10_bin_4 (by decide) ?_ ?_
  · refine to_iconst (pc := 18) X dX10_bin_18 (by decide) ?_
    exact to_iret (pc := 19) hr dX10_bin_19
  refine to_aload_n (pc := 7) X dX10_bin_7 rfl ?_
  refine gfX10_4 (pc := 8) X wf_RX10_42 dX10_bin_8 ?_
  refine to_iload_n (pc := 11) X dX10_bin_11 rfl ?_
  refine cvX0_hasBin (pc := 12) X wm_RX10_259 (by decide) dX10_bin_12 ?_
  exact okX10_bin_15 X hr
def bkX10_bin_0 (P : Nat → tc_B) (q : tc_Q) : tc_B := tb_iload 1 <| tb_callS 1 1 RX10_isTeller <| bkX10_bin_4 P q
theorem okX10_bin_0 {Z : tc_Z} {q : tc_Q} (X : tc_Cx ({ frames := 4, cells := 0, slots := 0, locals := 92 } : Room) cX10_bin 4 RX10 Z) (hr : tc_Rt 0 cX10_bin 4 Z q) : tc_Ok 4 Z 0 (bkX10_bin_0 (tc_At 4 Z) q) := by
  unfold bkX10_bin_0
  refine to_iload_n (pc := 0) X dX10_bin_0 rfl ?_
  refine cvX10_isTeller (pc := 1) X wm_RX10_114 (by decide) dX10_bin_1 ?_
  exact okX10_bin_4 X hr
def RX10_bin (vs : List tc_V) (S : tc_S) (q : tc_Q) : Prop := ∀ P : Nat → tc_B, bkX10_bin_0 P q (tc_num 0 vs) [] S
theorem metX10_bin : tc_Met yX10_bin (Cond.code yX10_bin cX10_bin 4 (some .int)) ({ frames := 4, cells := 0, slots := 0, locals := 92 } : Room) 0 4 RX10_bin := tc_met (rk := 0) (by decide) ⟨rfl, rfl⟩ (fun Z q X hr vs S h => okX10_bin_0 X hr _ _ _ (h (tc_At 4 Z)))
theorem cvX10_bin {R : Room} {cc : ByteArray} {nL pc ix : Nat} {own : String} {Z : tc_Z} {k : tc_B} (X : tc_Cx R cc nL own Z) (h1 : Cond.methodLink own ix yX10_bin ∈ tc_tb) (hR : 4 + 1 ≤ R.frames ∧ 8 + (4 + 11) + 92 ≤ R.locals) (hd : decode cc pc = .ok (.invokevirtual ix, 3)) (h : tc_Ok nL Z (pc + 3) k) : tc_Ok nL Z pc (tb_callV 3 4 8 RX10_bin k) := to_callV X metX10_bin rfl ⟨rfl, rfl⟩ hR h1 wi_X10_bin wl_X10_bin wn_RX10 wc_X10_bin ⟨by decide +kernel, by decide +kernel, by decide +kernel, by decide +kernel⟩ hd h
def bkX10_sortCases_35 (P : Nat → tc_B) (q : tc_Q) : tc_B := tb_i 1 <| tb_zret q
theorem okX10_sortCases_35 {Z : tc_Z} {q : tc_Q} (X : tc_Cx ({ frames := 4, cells := 0, slots := 0, locals := 92 } : Room) cX10_sortCases 2 RX10 Z) (hr : tc_Rt 1 cX10_sortCases 2 Z q) : tc_Ok 2 Z 35 (bkX10_sortCases_35 (tc_At 2 Z) q) := by
  unfold bkX10_sortCases_35
  refine to_iconst (pc := 35) X dX10_sortCases_35 (by decide) ?_
  exact to_zret (pc := 36) hr dX10_sortCases_36
def bkX10_sortCases_12 (P : Nat → tc_B) (q : tc_Q) : tc_B := tb_aload 0 <| tb_getf 8 3 <| tb_getf 2 2 <| tb_if_ne (tb_aload 0 <| tb_getf 8 4 <| tb_aload 0 <| tb_getf 8 3 <| tb_callV 1 5 0 RX0_sortIn <| bkX10_sortCases_35 P q) <| tb_i 0 <| tb_zret q
theorem okX10_sortCases_12 {Z : tc_Z} {q : tc_Q} (X : tc_Cx ({ frames := 4, cells := 0, slots := 0, locals := 92 } : Room) cX10_sortCases 2 RX10 Z) (hr : tc_Rt 1 cX10_sortCases 2 Z q) : tc_Ok 2 Z 12 (bkX10_sortCases_12 (tc_At 2 Z) q) := by
  unfold bkX10_sortCases_12
  refine to_aload_n (pc := 12) X dX10_sortCases_12 rfl ?_
  refine gfX10_3 (pc := 13) X wf_RX10_35 dX10_sortCases_13 ?_
  refine gfX2_2 (pc := 16) X wf_RX10_230 dX10_sortCases_16 ?_
  refine to_if_ne (pc := 19) (tgt := 24) X dX10_sortCases_19 (by decide) ?_ ?_
  · refine to_aload_n (pc := 24) X dX10_sortCases_24 rfl ?_
    refine gfX10_4 (pc := 25) X wf_RX10_42 dX10_sortCases_25 ?_
    refine to_aload_n (pc := 28) X dX10_sortCases_28 rfl ?_
    refine gfX10_3 (pc := 29) X wf_RX10_35 dX10_sortCases_29 ?_
    refine cvX0_sortIn (pc := 32) X wm_RX10_268 (by decide) dX10_sortCases_32 ?_
    exact okX10_sortCases_35 X hr
  refine to_iconst (pc := 22) X dX10_sortCases_22 (by decide) ?_
  exact to_zret (pc := 23) hr dX10_sortCases_23
def bkX10_sortCases_0 (P : Nat → tc_B) (q : tc_Q) : tc_B := tb_aload 0 <| tb_getf 8 3 <| tb_aload 0 <| tb_getf 8 0 <| tb_iload 1 <| tb_callV 2 4 2 RX2_gather <| bkX10_sortCases_12 P q
theorem okX10_sortCases_0 {Z : tc_Z} {q : tc_Q} (X : tc_Cx ({ frames := 4, cells := 0, slots := 0, locals := 92 } : Room) cX10_sortCases 2 RX10 Z) (hr : tc_Rt 1 cX10_sortCases 2 Z q) : tc_Ok 2 Z 0 (bkX10_sortCases_0 (tc_At 2 Z) q) := by
  unfold bkX10_sortCases_0
  refine to_aload_n (pc := 0) X dX10_sortCases_0 rfl ?_
  refine gfX10_3 (pc := 1) X wf_RX10_35 dX10_sortCases_1 ?_
  refine to_aload_n (pc := 4) X dX10_sortCases_4 rfl ?_
  refine gfX10_0 (pc := 5) X wf_RX10_12 dX10_sortCases_5 ?_
  refine to_iload_n (pc := 8) X dX10_sortCases_8 rfl ?_
  refine cvX2_gather (pc := 9) X wm_RX10_226 (by decide) dX10_sortCases_9 ?_
  exact okX10_sortCases_12 X hr
def RX10_sortCases (vs : List tc_V) (S : tc_S) (q : tc_Q) : Prop := ∀ P : Nat → tc_B, bkX10_sortCases_0 P q (tc_num 0 vs) [] S
theorem metX10_sortCases : tc_Met yX10_sortCases (Cond.code yX10_sortCases cX10_sortCases 2 (some .boolean)) ({ frames := 4, cells := 0, slots := 0, locals := 92 } : Room) 1 2 RX10_sortCases := tc_met (rk := 1) (by decide) ⟨rfl, rfl⟩ (fun Z q X hr vs S h => okX10_sortCases_0 X hr _ _ _ (h (tc_At 2 Z)))
theorem cvX10_sortCases {R : Room} {cc : ByteArray} {nL pc ix : Nat} {own : String} {Z : tc_Z} {k : tc_B} (X : tc_Cx R cc nL own Z) (h1 : Cond.methodLink own ix yX10_sortCases ∈ tc_tb) (hR : 4 + 1 ≤ R.frames ∧ 8 + (2 + 11) + 92 ≤ R.locals) (hd : decode cc pc = .ok (.invokevirtual ix, 3)) (h : tc_Ok nL Z (pc + 3) k) : tc_Ok nL Z pc (tb_callV 1 2 8 RX10_sortCases k) := to_callV X metX10_sortCases rfl ⟨rfl, rfl⟩ hR h1 wi_X10_sortCases wl_X10_sortCases wn_RX10 wc_X10_sortCases ⟨by decide +kernel, by decide +kernel, by decide +kernel, by decide +kernel⟩ hd h
def bkX10_joinParts_84 (P : Nat → tc_B) (q : tc_Q) : tc_B := tb_iinc 1 1 <| tb_cut (P 11) [0, 1]
theorem okX10_joinParts_84 {Z : tc_Z} {q : tc_Q} (X : tc_Cx ({ frames := 4, cells := 0, slots := 0, locals := 112 } : Room) cX10_joinParts 3 RX10 Z) (hr : tc_Rt 3 cX10_joinParts 3 Z q) : tc_Ok 3 Z 84 (bkX10_joinParts_84 (tc_At 3 Z) q) := by
  unfold bkX10_joinParts_84
  refine to_iinc (pc := 84) X dX10_joinParts_84 (by decide) (by decide) ?_
  refine to_goto (pc := 87) (tgt := 11) X dX10_joinParts_87 (by decide) ?_
  exact to_cut [0, 1] (fun _ _ _ h => h)
def bkX10_joinParts_74 (P : Nat → tc_B) (q : tc_Q) : tc_B := tb_aload 0 <| tb_getf 8 7 <| tb_getf 3 1 <| tb_callV 2 9 3 RX4_add <| bkX10_joinParts_84 P q
theorem okX10_joinParts_74 {Z : tc_Z} {q : tc_Q} (X : tc_Cx ({ frames := 4, cells := 0, slots := 0, locals := 112 } : Room) cX10_joinParts 3 RX10 Z) (hr : tc_Rt 3 cX10_joinParts 3 Z q) : tc_Ok 3 Z 74 (bkX10_joinParts_74 (tc_At 3 Z) q) := by
  unfold bkX10_joinParts_74
  refine to_aload_n (pc := 74) X dX10_joinParts_74 rfl ?_
  refine gfX10_7 (pc := 75) X wf_RX10_60 dX10_joinParts_75 ?_
  refine gfX4_1 (pc := 78) X wf_RX10_326 dX10_joinParts_78 ?_
  refine cvX4_add (pc := 81) X wm_RX10_329 (by decide) dX10_joinParts_81 ?_
  exact okX10_joinParts_84 X hr
def bkX10_joinParts_47 (P : Nat → tc_B) (q : tc_Q) : tc_B := tb_istore 2 <| tb_aload 0 <| tb_getf 8 6 <| tb_iload 2 <| tb_if_eq (tb_aload 0 <| tb_getf 8 7 <| tb_getf 3 0 <| tb_cut (P 74) [0, 1]) <| tb_aload 0 <| tb_getf 8 7 <| tb_getf 3 0 <| tb_lneg <| tb_cut (P 74) [0, 1]
theorem okX10_joinParts_47 {Z : tc_Z} {q : tc_Q} (X : tc_Cx ({ frames := 4, cells := 0, slots := 0, locals := 112 } : Room) cX10_joinParts 3 RX10 Z) (hr : tc_Rt 3 cX10_joinParts 3 Z q) : tc_Ok 3 Z 47 (bkX10_joinParts_47 (tc_At 3 Z) q) := by
  unfold bkX10_joinParts_47
  refine to_istore_n (pc := 47) X dX10_joinParts_47 rfl (by decide) ?_
  refine to_aload_n (pc := 48) X dX10_joinParts_48 rfl ?_
  refine gfX10_6 (pc := 49) X wf_RX10_56 dX10_joinParts_49 ?_
  refine to_iload_n (pc := 52) X dX10_joinParts_52 rfl ?_
  refine to_if_eq (pc := 53) (tgt := 67) X dX10_joinParts_53 (by decide) ?_ ?_
  · refine to_aload_n (pc := 67) X dX10_joinParts_67 rfl ?_
    refine gfX10_7 (pc := 68) X wf_RX10_60 dX10_joinParts_68 ?_
    refine gfX4_0 (pc := 71) X wf_RX10_322 dX10_joinParts_71 ?_
    exact to_cut [0, 1] (fun _ _ _ h => h)
  refine to_aload_n (pc := 56) X dX10_joinParts_56 rfl ?_
  refine gfX10_7 (pc := 57) X wf_RX10_60 dX10_joinParts_57 ?_
  refine gfX4_0 (pc := 60) X wf_RX10_322 dX10_joinParts_60 ?_
  refine to_lneg (pc := 63) X dX10_joinParts_63 ?_
  refine to_goto (pc := 64) (tgt := 74) X dX10_joinParts_64 (by decide) ?_
  exact to_cut [0, 1] (fun _ _ _ h => h)
def bkX10_joinParts_42 (P : Nat → tc_B) (q : tc_Q) : tc_B := tb_i 1 <| tb_cut (P 47) [0, 1]
theorem okX10_joinParts_42 {Z : tc_Z} {q : tc_Q} (X : tc_Cx ({ frames := 4, cells := 0, slots := 0, locals := 112 } : Room) cX10_joinParts 3 RX10 Z) (hr : tc_Rt 3 cX10_joinParts 3 Z q) : tc_Ok 3 Z 42 (bkX10_joinParts_42 (tc_At 3 Z) q) := by
  unfold bkX10_joinParts_42
  refine to_iconst (pc := 42) X dX10_joinParts_42 (by decide) ?_
  refine to_goto (pc := 43) (tgt := 47) X dX10_joinParts_43 (by decide) ?_
  exact to_cut [0, 1] (fun _ _ _ h => h)
def bkX10_joinParts_32 (P : Nat → tc_B) (q : tc_Q) : tc_B := tb_iload 1 <| tb_i 1 <| tb_icmp_eq (tb_cut (P 42) [0, 1]) <| tb_iload 1 <| tb_i 4 <| tb_icmp_ne (tb_i 0 <| tb_cut (P 47) [0, 1]) <| tb_cut (P 42) [0, 1]
theorem okX10_joinParts_32 {Z : tc_Z} {q : tc_Q} (X : tc_Cx ({ frames := 4, cells := 0, slots := 0, locals := 112 } : Room) cX10_joinParts 3 RX10 Z) (hr : tc_Rt 3 cX10_joinParts 3 Z q) : tc_Ok 3 Z 32 (bkX10_joinParts_32 (tc_At 3 Z) q) := by
  unfold bkX10_joinParts_32
  refine to_iload_n (pc := 32) X dX10_joinParts_32 rfl ?_
  refine to_iconst (pc := 33) X dX10_joinParts_33 (by decide) ?_
  refine to_icmp_eq (pc := 34) (tgt := 42) X dX10_joinParts_34 (by decide) ?_ ?_
  · exact to_cut [0, 1] (fun _ _ _ h => h)
  refine to_iload_n (pc := 37) X dX10_joinParts_37 rfl ?_
  refine to_iconst (pc := 38) X dX10_joinParts_38 (by decide) ?_
  refine to_icmp_ne (pc := 39) (tgt := 46) X dX10_joinParts_39 (by decide) ?_ ?_
  · refine to_iconst (pc := 46) X dX10_joinParts_46 (by decide) ?_
    exact to_cut [0, 1] (fun _ _ _ h => h)
  exact to_cut [0, 1] (fun _ _ _ h => h)
def bkX10_joinParts_11 (P : Nat → tc_B) (q : tc_Q) : tc_B := tb_iload 1 <| tb_i 5 <| tb_icmp_ge (tb_vret q) <| tb_aload 0 <| tb_getf 8 4 <| tb_iload 1 <| tb_aload 0 <| tb_getf 8 3 <| tb_aload 0 <| tb_getf 8 7 <| tb_callV 3 9 0 RX0_findPart <| bkX10_joinParts_32 P q
theorem okX10_joinParts_11 {Z : tc_Z} {q : tc_Q} (X : tc_Cx ({ frames := 4, cells := 0, slots := 0, locals := 112 } : Room) cX10_joinParts 3 RX10 Z) (hr : tc_Rt 3 cX10_joinParts 3 Z q) : tc_Ok 3 Z 11 (bkX10_joinParts_11 (tc_At 3 Z) q) := by
  unfold bkX10_joinParts_11
  refine to_iload_n (pc := 11) X dX10_joinParts_11 rfl ?_
  refine to_iconst (pc := 12) X dX10_joinParts_12 (by decide) ?_
  refine to_icmp_ge (pc := 13) (tgt := 90) X dX10_joinParts_13 (by decide) ?_ ?_
  · exact to_vret (pc := 90) hr dX10_joinParts_90
  refine to_aload_n (pc := 16) X dX10_joinParts_16 rfl ?_
  refine gfX10_4 (pc := 17) X wf_RX10_42 dX10_joinParts_17 ?_
  refine to_iload_n (pc := 20) X dX10_joinParts_20 rfl ?_
  refine to_aload_n (pc := 21) X dX10_joinParts_21 rfl ?_
  refine gfX10_3 (pc := 22) X wf_RX10_35 dX10_joinParts_22 ?_
  refine to_aload_n (pc := 25) X dX10_joinParts_25 rfl ?_
  refine gfX10_7 (pc := 26) X wf_RX10_60 dX10_joinParts_26 ?_
  refine cvX0_findPart (pc := 29) X wm_RX10_287 (by decide) dX10_joinParts_29 ?_
  exact okX10_joinParts_32 X hr
def bkX10_joinParts_9 (P : Nat → tc_B) (q : tc_Q) : tc_B := tb_i 0 <| tb_istore 1 <| tb_cut (P 11) [0, 1]
theorem okX10_joinParts_9 {Z : tc_Z} {q : tc_Q} (X : tc_Cx ({ frames := 4, cells := 0, slots := 0, locals := 112 } : Room) cX10_joinParts 3 RX10 Z) (hr : tc_Rt 3 cX10_joinParts 3 Z q) : tc_Ok 3 Z 9 (bkX10_joinParts_9 (tc_At 3 Z) q) := by
  unfold bkX10_joinParts_9
  refine to_iconst (pc := 9) X dX10_joinParts_9 (by decide) ?_
  refine to_istore_n (pc := 10) X dX10_joinParts_10 rfl (by decide) ?_
  exact to_cut [0, 1] (fun _ _ _ h => h)
def bkX10_joinParts_0 (P : Nat → tc_B) (q : tc_Q) : tc_B := tb_aload 0 <| tb_getf 8 6 <| tb_j 0 <| tb_j 1 <| tb_callV 2 7 3 RX4_become <| bkX10_joinParts_9 P q
theorem okX10_joinParts_0 {Z : tc_Z} {q : tc_Q} (X : tc_Cx ({ frames := 4, cells := 0, slots := 0, locals := 112 } : Room) cX10_joinParts 3 RX10 Z) (hr : tc_Rt 3 cX10_joinParts 3 Z q) : tc_Ok 3 Z 0 (bkX10_joinParts_0 (tc_At 3 Z) q) := by
  unfold bkX10_joinParts_0
  refine to_aload_n (pc := 0) X dX10_joinParts_0 rfl ?_
  refine gfX10_6 (pc := 1) X wf_RX10_56 dX10_joinParts_1 ?_
  refine to_lconst (pc := 4) X dX10_joinParts_4 (by decide) ?_
  refine to_lconst (pc := 5) X dX10_joinParts_5 (by decide) ?_
  refine cvX4_become (pc := 6) X wm_RX10_246 (by decide) dX10_joinParts_6 ?_
  exact okX10_joinParts_9 X hr
def RX10_joinParts (vs : List tc_V) (S : tc_S) (q : tc_Q) : Prop := ∀ P : Nat → tc_B, (∀ L K S, bkX10_joinParts_11 P q L K S → P 11 L K S) → (∀ L K S, bkX10_joinParts_42 P q L K S → P 42 L K S) → (∀ L K S, bkX10_joinParts_47 P q L K S → P 47 L K S) → (∀ L K S, bkX10_joinParts_74 P q L K S → P 74 L K S) → bkX10_joinParts_0 P q (tc_num 0 vs) [] S
theorem metX10_joinParts : tc_Met yX10_joinParts (Cond.code yX10_joinParts cX10_joinParts 3 none) ({ frames := 4, cells := 0, slots := 0, locals := 112 } : Room) 3 3 RX10_joinParts := tc_met (rk := 3) (by decide) ⟨rfl, rfl⟩ (fun Z q X hr vs S h => okX10_joinParts_0 X hr _ _ _ (h (tc_At 3 Z) (okX10_joinParts_11 X hr) (okX10_joinParts_42 X hr) (okX10_joinParts_47 X hr) (okX10_joinParts_74 X hr)))
theorem cvX10_joinParts {R : Room} {cc : ByteArray} {nL pc ix : Nat} {own : String} {Z : tc_Z} {k : tc_B} (X : tc_Cx R cc nL own Z) (h1 : Cond.methodLink own ix yX10_joinParts ∈ tc_tb) (hR : 4 + 1 ≤ R.frames ∧ 8 + (3 + 11) + 112 ≤ R.locals) (hd : decode cc pc = .ok (.invokevirtual ix, 3)) (h : tc_Ok nL Z (pc + 3) k) : tc_Ok nL Z pc (tb_callV 0 3 8 RX10_joinParts k) := to_callV X metX10_joinParts rfl ⟨rfl, rfl⟩ hR h1 wi_X10_joinParts wl_X10_joinParts wn_RX10 wc_X10_joinParts ⟨by decide +kernel, by decide +kernel, by decide +kernel, by decide +kernel⟩ hd h
def bkX10_split_71 (P : Nat → tc_B) (q : tc_Q) : tc_B := tb_jret q
theorem okX10_split_71 {Z : tc_Z} {q : tc_Q} (X : tc_Cx ({ frames := 5, cells := 0, slots := 0, locals := 134 } : Room) cX10_split 4 RX10 Z) (hr : tc_Rt 2 cX10_split 4 Z q) : tc_Ok 4 Z 71 (bkX10_split_71 (tc_At 4 Z) q) := by
  unfold bkX10_split_71
  exact to_jret (pc := 71) hr dX10_split_71
def bkX10_split_63 (P : Nat → tc_B) (q : tc_Q) : tc_B := tb_aload 0 <| tb_getf 8 6 <| tb_iload 3 <| tb_callV 1 2 3 RX4_pick <| bkX10_split_71 P q
theorem okX10_split_63 {Z : tc_Z} {q : tc_Q} (X : tc_Cx ({ frames := 5, cells := 0, slots := 0, locals := 134 } : Room) cX10_split 4 RX10 Z) (hr : tc_Rt 2 cX10_split 4 Z q) : tc_Ok 4 Z 63 (bkX10_split_63 (tc_At 4 Z) q) := by
  unfold bkX10_split_63
  refine to_aload_n (pc := 63) X dX10_split_63 rfl ?_
  refine gfX10_6 (pc := 64) X wf_RX10_56 dX10_split_64 ?_
  refine to_iload_n (pc := 67) X dX10_split_67 rfl ?_
  refine cvX4_pick (pc := 68) X wm_RX10_222 (by decide) dX10_split_68 ?_
  exact okX10_split_71 X hr
def bkX10_split_44 (P : Nat → tc_B) (q : tc_Q) : tc_B := tb_cut (P 63) [0, 3]
theorem okX10_split_44 {Z : tc_Z} {q : tc_Q} (X : tc_Cx ({ frames := 5, cells := 0, slots := 0, locals := 134 } : Room) cX10_split 4 RX10 Z) (hr : tc_Rt 2 cX10_split 4 Z q) : tc_Ok 4 Z 44 (bkX10_split_44 (tc_At 4 Z) q) := by
  unfold bkX10_split_44
  refine to_goto (pc := 44) (tgt := 63) X dX10_split_44 (by decide) ?_
  exact to_cut [0, 3] (fun _ _ _ h => h)
def bkX10_split_28 (P : Nat → tc_B) (q : tc_Q) : tc_B := tb_if_ne (tb_iload 2 <| tb_i 5 <| tb_icmp_ne (tb_aload 0 <| tb_getf 8 4 <| tb_iload 2 <| tb_aload 0 <| tb_getf 8 3 <| tb_aload 0 <| tb_getf 8 6 <| tb_callV 3 9 0 RX0_findPart <| tb_cut (P 63) [0, 3]) <| tb_aload 0 <| tb_callV 0 3 8 RX10_joinParts <| bkX10_split_44 P q) <| tb_j (-9223372036854775808) <| tb_jret q
theorem okX10_split_28 {Z : tc_Z} {q : tc_Q} (X : tc_Cx ({ frames := 5, cells := 0, slots := 0, locals := 134 } : Room) cX10_split 4 RX10 Z) (hr : tc_Rt 2 cX10_split 4 Z q) : tc_Ok 4 Z 28 (bkX10_split_28 (tc_At 4 Z) q) := by
  unfold bkX10_split_28
  refine to_if_ne (pc := 28) (tgt := 35) X dX10_split_28 (by decide) ?_ ?_
  · refine to_iload_n (pc := 35) X dX10_split_35 rfl ?_
    refine to_iconst (pc := 36) X dX10_split_36 (by decide) ?_
    refine to_icmp_ne (pc := 37) (tgt := 47) X dX10_split_37 (by decide) ?_ ?_
    · refine to_aload_n (pc := 47) X dX10_split_47 rfl ?_
      refine gfX10_4 (pc := 48) X wf_RX10_42 dX10_split_48 ?_
      refine to_iload_n (pc := 51) X dX10_split_51 rfl ?_
      refine to_aload_n (pc := 52) X dX10_split_52 rfl ?_
      refine gfX10_3 (pc := 53) X wf_RX10_35 dX10_split_53 ?_
      refine to_aload_n (pc := 56) X dX10_split_56 rfl ?_
      refine gfX10_6 (pc := 57) X wf_RX10_56 dX10_split_57 ?_
      refine cvX0_findPart (pc := 60) X wm_RX10_287 (by decide) dX10_split_60 ?_
      exact to_cut [0, 3] (fun _ _ _ h => h)
    refine to_aload_n (pc := 40) X dX10_split_40 rfl ?_
    refine cvX10_joinParts (pc := 41) X wm_RX10_284 (by decide) dX10_split_41 ?_
    exact okX10_split_44 X hr
  refine to_ldc2 (pc := 31) X wj_RX10_220 dX10_split_31 ?_
  exact to_jret (pc := 34) hr dX10_split_34
def bkX10_split_20 (P : Nat → tc_B) (q : tc_Q) : tc_B := tb_if_eq (tb_j (-9223372036854775808) <| tb_jret q) <| tb_aload 0 <| tb_iload 1 <| tb_callV 1 2 8 RX10_sortCases <| bkX10_split_28 P q
theorem okX10_split_20 {Z : tc_Z} {q : tc_Q} (X : tc_Cx ({ frames := 5, cells := 0, slots := 0, locals := 134 } : Room) cX10_split 4 RX10 Z) (hr : tc_Rt 2 cX10_split 4 Z q) : tc_Ok 4 Z 20 (bkX10_split_20 (tc_At 4 Z) q) := by
  unfold bkX10_split_20
  refine to_if_eq (pc := 20) (tgt := 31) X dX10_split_20 (by decide) ?_ ?_
  · refine to_ldc2 (pc := 31) X wj_RX10_220 dX10_split_31 ?_
    exact to_jret (pc := 34) hr dX10_split_34
  refine to_aload_n (pc := 23) X dX10_split_23 rfl ?_
  refine to_iload_n (pc := 24) X dX10_split_24 rfl ?_
  refine cvX10_sortCases (pc := 25) X wm_RX10_281 (by decide) dX10_split_25 ?_
  exact okX10_split_28 X hr
def bkX10_split_4 (P : Nat → tc_B) (q : tc_Q) : tc_B := tb_if_eq (tb_j (-9223372036854775808) <| tb_jret q) <| tb_iload 2 <| tb_if_lt (tb_j (-9223372036854775808) <| tb_jret q) <| tb_iload 2 <| tb_i 5 <| tb_icmp_gt (tb_j (-9223372036854775808) <| tb_jret q) <| tb_iload 3 <| tb_callS 1 1 RX10_isWhich <| bkX10_split_20 P q
theorem okX10_split_4 {Z : tc_Z} {q : tc_Q} (X : tc_Cx ({ frames := 5, cells := 0, slots := 0, locals := 134 } : Room) cX10_split 4 RX10 Z) (hr : tc_Rt 2 cX10_split 4 Z q) : tc_Ok 4 Z 4 (bkX10_split_4 (tc_At 4 Z) q) := by
  unfold bkX10_split_4
  refine to_if_eq (pc := 4) (tgt := 31) X dX10_split_4 (by decide) ?_ ?_
  · refine to_ldc2 (pc := 31) X wj_RX10_220 dX10_split_31 ?_
    exact to_jret (pc := 34) hr dX10_split_34
  refine to_iload_n (pc := 7) X dX10_split_7 rfl ?_
  refine to_if_lt (pc := 8) (tgt := 31) X dX10_split_8 (by decide) ?_ ?_
  · refine to_ldc2 (pc := 31) X wj_RX10_220 dX10_split_31 ?_
    exact to_jret (pc := 34) hr dX10_split_34
  refine to_iload_n (pc := 11) X dX10_split_11 rfl ?_
  refine to_iconst (pc := 12) X dX10_split_12 (by decide) ?_
  refine to_icmp_gt (pc := 13) (tgt := 31) X dX10_split_13 (by decide) ?_ ?_
  · refine to_ldc2 (pc := 31) X wj_RX10_220 dX10_split_31 ?_
    exact to_jret (pc := 34) hr dX10_split_34
  refine to_iload_n (pc := 16) X dX10_split_16 rfl ?_
  refine cvX10_isWhich (pc := 17) X wm_RX10_214 (by decide) dX10_split_17 ?_
  exact okX10_split_20 X hr
def bkX10_split_0 (P : Nat → tc_B) (q : tc_Q) : tc_B := tb_iload 1 <| tb_callS 1 1 RX10_isTeller <| bkX10_split_4 P q
theorem okX10_split_0 {Z : tc_Z} {q : tc_Q} (X : tc_Cx ({ frames := 5, cells := 0, slots := 0, locals := 134 } : Room) cX10_split 4 RX10 Z) (hr : tc_Rt 2 cX10_split 4 Z q) : tc_Ok 4 Z 0 (bkX10_split_0 (tc_At 4 Z) q) := by
  unfold bkX10_split_0
  refine to_iload_n (pc := 0) X dX10_split_0 rfl ?_
  refine cvX10_isTeller (pc := 1) X wm_RX10_114 (by decide) dX10_split_1 ?_
  exact okX10_split_4 X hr
def RX10_split (vs : List tc_V) (S : tc_S) (q : tc_Q) : Prop := ∀ P : Nat → tc_B, (∀ L K S, bkX10_split_63 P q L K S → P 63 L K S) → bkX10_split_0 P q (tc_num 0 vs) [] S
theorem metX10_split : tc_Met yX10_split (Cond.code yX10_split cX10_split 4 (some .long)) ({ frames := 5, cells := 0, slots := 0, locals := 134 } : Room) 2 4 RX10_split := tc_met (rk := 2) (by decide) ⟨rfl, rfl⟩ (fun Z q X hr vs S h => okX10_split_0 X hr _ _ _ (h (tc_At 4 Z) (okX10_split_63 X hr)))
theorem cvX10_split {R : Room} {cc : ByteArray} {nL pc ix : Nat} {own : String} {Z : tc_Z} {k : tc_B} (X : tc_Cx R cc nL own Z) (h1 : Cond.methodLink own ix yX10_split ∈ tc_tb) (hR : 5 + 1 ≤ R.frames ∧ 8 + (4 + 11) + 134 ≤ R.locals) (hd : decode cc pc = .ok (.invokevirtual ix, 3)) (h : tc_Ok nL Z (pc + 3) k) : tc_Ok nL Z pc (tb_callV 3 4 8 RX10_split k) := to_callV X metX10_split rfl ⟨rfl, rfl⟩ hR h1 wi_X10_split wl_X10_split wn_RX10 wc_X10_split ⟨by decide +kernel, by decide +kernel, by decide +kernel, by decide +kernel⟩ hd h
def bkX10_joined_72 (P : Nat → tc_B) (q : tc_Q) : tc_B := tb_jret q
theorem okX10_joined_72 {Z : tc_Z} {q : tc_Q} (X : tc_Cx ({ frames := 5, cells := 0, slots := 0, locals := 113 } : Room) cX10_joined 4 RX10 Z) (hr : tc_Rt 2 cX10_joined 4 Z q) : tc_Ok 4 Z 72 (bkX10_joined_72 (tc_At 4 Z) q) := by
  unfold bkX10_joined_72
  exact to_jret (pc := 72) hr dX10_joined_72
def bkX10_joined_64 (P : Nat → tc_B) (q : tc_Q) : tc_B := tb_aload 0 <| tb_getf 8 6 <| tb_iload 3 <| tb_callV 1 2 3 RX4_pick <| bkX10_joined_72 P q
theorem okX10_joined_64 {Z : tc_Z} {q : tc_Q} (X : tc_Cx ({ frames := 5, cells := 0, slots := 0, locals := 113 } : Room) cX10_joined 4 RX10 Z) (hr : tc_Rt 2 cX10_joined 4 Z q) : tc_Ok 4 Z 64 (bkX10_joined_64 (tc_At 4 Z) q) := by
  unfold bkX10_joined_64
  refine to_aload_n (pc := 64) X dX10_joined_64 rfl ?_
  refine gfX10_6 (pc := 65) X wf_RX10_56 dX10_joined_65 ?_
  refine to_iload_n (pc := 68) X dX10_joined_68 rfl ?_
  refine cvX4_pick (pc := 69) X wm_RX10_222 (by decide) dX10_joined_69 ?_
  exact okX10_joined_72 X hr
def bkX10_joined_41 (P : Nat → tc_B) (q : tc_Q) : tc_B := tb_if_ne (tb_aload 0 <| tb_getf 8 4 <| tb_iload 2 <| tb_aload 0 <| tb_getf 8 3 <| tb_aload 0 <| tb_getf 8 6 <| tb_callV 3 8 0 RX0_findJoinLoss <| bkX10_joined_64 P q) <| tb_j (-9223372036854775808) <| tb_jret q
theorem okX10_joined_41 {Z : tc_Z} {q : tc_Q} (X : tc_Cx ({ frames := 5, cells := 0, slots := 0, locals := 113 } : Room) cX10_joined 4 RX10 Z) (hr : tc_Rt 2 cX10_joined 4 Z q) : tc_Ok 4 Z 41 (bkX10_joined_41 (tc_At 4 Z) q) := by
  unfold bkX10_joined_41
  refine to_if_ne (pc := 41) (tgt := 48) X dX10_joined_41 (by decide) ?_ ?_
  · refine to_aload_n (pc := 48) X dX10_joined_48 rfl ?_
    refine gfX10_4 (pc := 49) X wf_RX10_42 dX10_joined_49 ?_
    refine to_iload_n (pc := 52) X dX10_joined_52 rfl ?_
    refine to_aload_n (pc := 53) X dX10_joined_53 rfl ?_
    refine gfX10_3 (pc := 54) X wf_RX10_35 dX10_joined_54 ?_
    refine to_aload_n (pc := 57) X dX10_joined_57 rfl ?_
    refine gfX10_6 (pc := 58) X wf_RX10_56 dX10_joined_58 ?_
    refine cvX0_findJoinLoss (pc := 61) X wm_RX10_291 (by decide) dX10_joined_61 ?_
    exact okX10_joined_64 X hr
  refine to_ldc2 (pc := 44) X wj_RX10_220 dX10_joined_44 ?_
  exact to_jret (pc := 47) hr dX10_joined_47
def bkX10_joined_33 (P : Nat → tc_B) (q : tc_Q) : tc_B := tb_if_eq (tb_j (-9223372036854775808) <| tb_jret q) <| tb_aload 0 <| tb_iload 1 <| tb_callV 1 2 8 RX10_sortCases <| bkX10_joined_41 P q
theorem okX10_joined_33 {Z : tc_Z} {q : tc_Q} (X : tc_Cx ({ frames := 5, cells := 0, slots := 0, locals := 113 } : Room) cX10_joined 4 RX10 Z) (hr : tc_Rt 2 cX10_joined 4 Z q) : tc_Ok 4 Z 33 (bkX10_joined_33 (tc_At 4 Z) q) := by
  unfold bkX10_joined_33
  refine to_if_eq (pc := 33) (tgt := 44) X dX10_joined_33 (by decide) ?_ ?_
  · refine to_ldc2 (pc := 44) X wj_RX10_220 dX10_joined_44 ?_
    exact to_jret (pc := 47) hr dX10_joined_47
  refine to_aload_n (pc := 36) X dX10_joined_36 rfl ?_
  refine to_iload_n (pc := 37) X dX10_joined_37 rfl ?_
  refine cvX10_sortCases (pc := 38) X wm_RX10_281 (by decide) dX10_joined_38 ?_
  exact okX10_joined_41 X hr
def bkX10_joined_15 (P : Nat → tc_B) (q : tc_Q) : tc_B := tb_if_eq (tb_j (-9223372036854775808) <| tb_jret q) <| tb_iload 2 <| tb_aload 0 <| tb_getf 8 4 <| tb_getf 0 1 <| tb_icmp_eq (tb_j (-9223372036854775808) <| tb_jret q) <| tb_iload 3 <| tb_callS 1 1 RX10_isWhich <| bkX10_joined_33 P q
theorem okX10_joined_15 {Z : tc_Z} {q : tc_Q} (X : tc_Cx ({ frames := 5, cells := 0, slots := 0, locals := 113 } : Room) cX10_joined 4 RX10 Z) (hr : tc_Rt 2 cX10_joined 4 Z q) : tc_Ok 4 Z 15 (bkX10_joined_15 (tc_At 4 Z) q) := by
  unfold bkX10_joined_15
  refine to_if_eq (pc := 15) (tgt := 44) X dX10_joined_15 (by decide) ?_ ?_
  · refine to_ldc2 (pc := 44) X wj_RX10_220 dX10_joined_44 ?_
    exact to_jret (pc := 47) hr dX10_joined_47
  refine to_iload_n (pc := 18) X dX10_joined_18 rfl ?_
  refine to_aload_n (pc := 19) X dX10_joined_19 rfl ?_
  refine gfX10_4 (pc := 20) X wf_RX10_42 dX10_joined_20 ?_
  refine gfX0_1 (pc := 23) X wf_RX10_256 dX10_joined_23 ?_
  refine to_icmp_eq (pc := 26) (tgt := 44) X dX10_joined_26 (by decide) ?_ ?_
  · refine to_ldc2 (pc := 44) X wj_RX10_220 dX10_joined_44 ?_
    exact to_jret (pc := 47) hr dX10_joined_47
  refine to_iload_n (pc := 29) X dX10_joined_29 rfl ?_
  refine cvX10_isWhich (pc := 30) X wm_RX10_214 (by decide) dX10_joined_30 ?_
  exact okX10_joined_33 X hr
def bkX10_joined_4 (P : Nat → tc_B) (q : tc_Q) : tc_B := tb_if_eq (tb_j (-9223372036854775808) <| tb_jret q) <| tb_aload 0 <| tb_getf 8 4 <| tb_iload 2 <| tb_callV 1 2 0 RX0_hasBin <| bkX10_joined_15 P q
theorem okX10_joined_4 {Z : tc_Z} {q : tc_Q} (X : tc_Cx ({ frames := 5, cells := 0, slots := 0, locals := 113 } : Room) cX10_joined 4 RX10 Z) (hr : tc_Rt 2 cX10_joined 4 Z q) : tc_Ok 4 Z 4 (bkX10_joined_4 (tc_At 4 Z) q) := by
  unfold bkX10_joined_4
  refine to_if_eq (pc := 4) (tgt := 44) X dX10_joined_4 (by decide) ?_ ?_
  · refine to_ldc2 (pc := 44) X wj_RX10_220 dX10_joined_44 ?_
    exact to_jret (pc := 47) hr dX10_joined_47
  refine to_aload_n (pc := 7) X dX10_joined_7 rfl ?_
  refine gfX10_4 (pc := 8) X wf_RX10_42 dX10_joined_8 ?_
  refine to_iload_n (pc := 11) X dX10_joined_11 rfl ?_
  refine cvX0_hasBin (pc := 12) X wm_RX10_259 (by decide) dX10_joined_12 ?_
  exact okX10_joined_15 X hr
def bkX10_joined_0 (P : Nat → tc_B) (q : tc_Q) : tc_B := tb_iload 1 <| tb_callS 1 1 RX10_isTeller <| bkX10_joined_4 P q
theorem okX10_joined_0 {Z : tc_Z} {q : tc_Q} (X : tc_Cx ({ frames := 5, cells := 0, slots := 0, locals := 113 } : Room) cX10_joined 4 RX10 Z) (hr : tc_Rt 2 cX10_joined 4 Z q) : tc_Ok 4 Z 0 (bkX10_joined_0 (tc_At 4 Z) q) := by
  unfold bkX10_joined_0
  refine to_iload_n (pc := 0) X dX10_joined_0 rfl ?_
  refine cvX10_isTeller (pc := 1) X wm_RX10_114 (by decide) dX10_joined_1 ?_
  exact okX10_joined_4 X hr
def RX10_joined (vs : List tc_V) (S : tc_S) (q : tc_Q) : Prop := ∀ P : Nat → tc_B, bkX10_joined_0 P q (tc_num 0 vs) [] S
theorem metX10_joined : tc_Met yX10_joined (Cond.code yX10_joined cX10_joined 4 (some .long)) ({ frames := 5, cells := 0, slots := 0, locals := 113 } : Room) 2 4 RX10_joined := tc_met (rk := 2) (by decide) ⟨rfl, rfl⟩ (fun Z q X hr vs S h => okX10_joined_0 X hr _ _ _ (h (tc_At 4 Z)))
theorem cvX10_joined {R : Room} {cc : ByteArray} {nL pc ix : Nat} {own : String} {Z : tc_Z} {k : tc_B} (X : tc_Cx R cc nL own Z) (h1 : Cond.methodLink own ix yX10_joined ∈ tc_tb) (hR : 5 + 1 ≤ R.frames ∧ 8 + (4 + 11) + 113 ≤ R.locals) (hd : decode cc pc = .ok (.invokevirtual ix, 3)) (h : tc_Ok nL Z (pc + 3) k) : tc_Ok nL Z pc (tb_callV 3 4 8 RX10_joined k) := to_callV X metX10_joined rfl ⟨rfl, rfl⟩ hR h1 wi_X10_joined wl_X10_joined wn_RX10 wc_X10_joined ⟨by decide +kernel, by decide +kernel, by decide +kernel, by decide +kernel⟩ hd h
def bkX10_area_101 (P : Nat → tc_B) (q : tc_Q) : tc_B := tb_jret q
theorem okX10_area_101 {Z : tc_Z} {q : tc_Q} (X : tc_Cx ({ frames := 4, cells := 0, slots := 0, locals := 92 } : Room) cX10_area 4 RX10 Z) (hr : tc_Rt 2 cX10_area 4 Z q) : tc_Ok 4 Z 101 (bkX10_area_101 (tc_At 4 Z) q) := by
  unfold bkX10_area_101
  exact to_jret (pc := 101) hr dX10_area_101
def bkX10_area_93 (P : Nat → tc_B) (q : tc_Q) : tc_B := tb_aload 0 <| tb_getf 8 6 <| tb_iload 2 <| tb_callV 1 2 3 RX4_pick <| bkX10_area_101 P q
theorem okX10_area_93 {Z : tc_Z} {q : tc_Q} (X : tc_Cx ({ frames := 4, cells := 0, slots := 0, locals := 92 } : Room) cX10_area 4 RX10 Z) (hr : tc_Rt 2 cX10_area 4 Z q) : tc_Ok 4 Z 93 (bkX10_area_93 (tc_At 4 Z) q) := by
  unfold bkX10_area_93
  refine to_aload_n (pc := 93) X dX10_area_93 rfl ?_
  refine gfX10_6 (pc := 94) X wf_RX10_56 dX10_area_94 ?_
  refine to_iload_n (pc := 97) X dX10_area_97 rfl ?_
  refine cvX4_pick (pc := 98) X wm_RX10_222 (by decide) dX10_area_98 ?_
  exact okX10_area_101 X hr
def bkX10_area_75 (P : Nat → tc_B) (q : tc_Q) : tc_B := tb_j 2 <| tb_aload 0 <| tb_getf 8 3 <| tb_getf 2 3 <| tb_i2l <| tb_lmul <| tb_iload 3 <| tb_i2l <| tb_lmul <| tb_callV 2 7 3 RX4_become <| bkX10_area_93 P q
theorem okX10_area_75 {Z : tc_Z} {q : tc_Q} (X : tc_Cx ({ frames := 4, cells := 0, slots := 0, locals := 92 } : Room) cX10_area 4 RX10 Z) (hr : tc_Rt 2 cX10_area 4 Z q) : tc_Ok 4 Z 75 (bkX10_area_75 (tc_At 4 Z) q) := by
  unfold bkX10_area_75
  refine to_ldc2 (pc := 75) X wj_RX10_301 dX10_area_75 ?_
  refine to_aload_n (pc := 78) X dX10_area_78 rfl ?_
  refine gfX10_3 (pc := 79) X wf_RX10_35 dX10_area_79 ?_
  refine gfX2_3 (pc := 82) X wf_RX10_294 dX10_area_82 ?_
  refine to_i2l (pc := 85) X dX10_area_85 ?_
  refine to_lmul (pc := 86) X dX10_area_86 ?_
  refine to_iload_n (pc := 87) X dX10_area_87 rfl ?_
  refine to_i2l (pc := 88) X dX10_area_88 ?_
  refine to_lmul (pc := 89) X dX10_area_89 ?_
  refine cvX4_become (pc := 90) X wm_RX10_246 (by decide) dX10_area_90 ?_
  exact okX10_area_93 X hr
def bkX10_area_30 (P : Nat → tc_B) (q : tc_Q) : tc_B := tb_aload 0 <| tb_getf 8 3 <| tb_getf 2 2 <| tb_aload 0 <| tb_getf 8 3 <| tb_getf 2 3 <| tb_isub <| tb_istore 3 <| tb_aload 0 <| tb_getf 8 3 <| tb_getf 2 3 <| tb_if_eq (tb_j (-9223372036854775808) <| tb_jret q) <| tb_iload 3 <| tb_if_ne (tb_aload 0 <| tb_getf 8 6 <| tb_aload 0 <| tb_getf 8 3 <| tb_callV 0 5 2 RX2_halvesWellRanked <| bkX10_area_75 P q) <| tb_j (-9223372036854775808) <| tb_jret q
theorem okX10_area_30 {Z : tc_Z} {q : tc_Q} (X : tc_Cx ({ frames := 4, cells := 0, slots := 0, locals := 92 } : Room) cX10_area 4 RX10 Z) (hr : tc_Rt 2 cX10_area 4 Z q) : tc_Ok 4 Z 30 (bkX10_area_30 (tc_At 4 Z) q) := by
  unfold bkX10_area_30
  refine to_aload_n (pc := 30) X dX10_area_30 rfl ?_
  refine gfX10_3 (pc := 31) X wf_RX10_35 dX10_area_31 ?_
  refine gfX2_2 (pc := 34) X wf_RX10_230 dX10_area_34 ?_
  refine to_aload_n (pc := 37) X dX10_area_37 rfl ?_
  refine gfX10_3 (pc := 38) X wf_RX10_35 dX10_area_38 ?_
  refine gfX2_3 (pc := 41) X wf_RX10_294 dX10_area_41 ?_
  refine to_isub (pc := 44) X dX10_area_44 ?_
  refine to_istore_n (pc := 45) X dX10_area_45 rfl (by decide) ?_
  refine to_aload_n (pc := 46) X dX10_area_46 rfl ?_
  refine gfX10_3 (pc := 47) X wf_RX10_35 dX10_area_47 ?_
  refine gfX2_3 (pc := 50) X wf_RX10_294 dX10_area_50 ?_
  refine to_if_eq (pc := 53) (tgt := 60) X dX10_area_53 (by decide) ?_ ?_
  · refine to_ldc2 (pc := 60) X wj_RX10_220 dX10_area_60 ?_
    exact to_jret (pc := 63) hr dX10_area_63
  refine to_iload_n (pc := 56) X dX10_area_56 rfl ?_
  refine to_if_ne (pc := 57) (tgt := 64) X dX10_area_57 (by decide) ?_ ?_
  · refine to_aload_n (pc := 64) X dX10_area_64 rfl ?_
    refine gfX10_6 (pc := 65) X wf_RX10_56 dX10_area_65 ?_
    refine to_aload_n (pc := 68) X dX10_area_68 rfl ?_
    refine gfX10_3 (pc := 69) X wf_RX10_35 dX10_area_69 ?_
    refine cvX2_halvesWellRanked (pc := 72) X wm_RX10_297 (by decide) dX10_area_72 ?_
    exact okX10_area_75 X hr
  refine to_ldc2 (pc := 60) X wj_RX10_220 dX10_area_60 ?_
  exact to_jret (pc := 63) hr dX10_area_63
def bkX10_area_11 (P : Nat → tc_B) (q : tc_Q) : tc_B := tb_if_ne (tb_aload 0 <| tb_getf 8 3 <| tb_aload 0 <| tb_getf 8 0 <| tb_iload 1 <| tb_callV 2 4 2 RX2_gather <| bkX10_area_30 P q) <| tb_j (-9223372036854775808) <| tb_jret q
theorem okX10_area_11 {Z : tc_Z} {q : tc_Q} (X : tc_Cx ({ frames := 4, cells := 0, slots := 0, locals := 92 } : Room) cX10_area 4 RX10 Z) (hr : tc_Rt 2 cX10_area 4 Z q) : tc_Ok 4 Z 11 (bkX10_area_11 (tc_At 4 Z) q) := by
  unfold bkX10_area_11
  refine to_if_ne (pc := 11) (tgt := 18) X dX10_area_11 (by decide) ?_ ?_
  · refine to_aload_n (pc := 18) X dX10_area_18 rfl ?_
    refine gfX10_3 (pc := 19) X wf_RX10_35 dX10_area_19 ?_
    refine to_aload_n (pc := 22) X dX10_area_22 rfl ?_
    refine gfX10_0 (pc := 23) X wf_RX10_12 dX10_area_23 ?_
    refine to_iload_n (pc := 26) X dX10_area_26 rfl ?_
    refine cvX2_gather (pc := 27) X wm_RX10_226 (by decide) dX10_area_27 ?_
    exact okX10_area_30 X hr
  refine to_ldc2 (pc := 14) X wj_RX10_220 dX10_area_14 ?_
  exact to_jret (pc := 17) hr dX10_area_17
def bkX10_area_4 (P : Nat → tc_B) (q : tc_Q) : tc_B := tb_if_eq (tb_j (-9223372036854775808) <| tb_jret q) <| tb_iload 2 <| tb_callS 1 1 RX10_isWhich <| bkX10_area_11 P q
theorem okX10_area_4 {Z : tc_Z} {q : tc_Q} (X : tc_Cx ({ frames := 4, cells := 0, slots := 0, locals := 92 } : Room) cX10_area 4 RX10 Z) (hr : tc_Rt 2 cX10_area 4 Z q) : tc_Ok 4 Z 4 (bkX10_area_4 (tc_At 4 Z) q) := by
  unfold bkX10_area_4
  refine to_if_eq (pc := 4) (tgt := 14) X dX10_area_4 (by decide) ?_ ?_
  · refine to_ldc2 (pc := 14) X wj_RX10_220 dX10_area_14 ?_
    exact to_jret (pc := 17) hr dX10_area_17
  refine to_iload_n (pc := 7) X dX10_area_7 rfl ?_
  refine cvX10_isWhich (pc := 8) X wm_RX10_214 (by decide) dX10_area_8 ?_
  exact okX10_area_11 X hr
def bkX10_area_0 (P : Nat → tc_B) (q : tc_Q) : tc_B := tb_iload 1 <| tb_callS 1 1 RX10_isTeller <| bkX10_area_4 P q
theorem okX10_area_0 {Z : tc_Z} {q : tc_Q} (X : tc_Cx ({ frames := 4, cells := 0, slots := 0, locals := 92 } : Room) cX10_area 4 RX10 Z) (hr : tc_Rt 2 cX10_area 4 Z q) : tc_Ok 4 Z 0 (bkX10_area_0 (tc_At 4 Z) q) := by
  unfold bkX10_area_0
  refine to_iload_n (pc := 0) X dX10_area_0 rfl ?_
  refine cvX10_isTeller (pc := 1) X wm_RX10_114 (by decide) dX10_area_1 ?_
  exact okX10_area_4 X hr
def RX10_area (vs : List tc_V) (S : tc_S) (q : tc_Q) : Prop := ∀ P : Nat → tc_B, bkX10_area_0 P q (tc_num 0 vs) [] S
theorem metX10_area : tc_Met yX10_area (Cond.code yX10_area cX10_area 4 (some .long)) ({ frames := 4, cells := 0, slots := 0, locals := 92 } : Room) 2 4 RX10_area := tc_met (rk := 2) (by decide) ⟨rfl, rfl⟩ (fun Z q X hr vs S h => okX10_area_0 X hr _ _ _ (h (tc_At 4 Z)))
theorem cvX10_area {R : Room} {cc : ByteArray} {nL pc ix : Nat} {own : String} {Z : tc_Z} {k : tc_B} (X : tc_Cx R cc nL own Z) (h1 : Cond.methodLink own ix yX10_area ∈ tc_tb) (hR : 4 + 1 ≤ R.frames ∧ 8 + (4 + 11) + 92 ≤ R.locals) (hd : decode cc pc = .ok (.invokevirtual ix, 3)) (h : tc_Ok nL Z (pc + 3) k) : tc_Ok nL Z pc (tb_callV 2 4 8 RX10_area k) := to_callV X metX10_area rfl ⟨rfl, rfl⟩ hR h1 wi_X10_area wl_X10_area wn_RX10 wc_X10_area ⟨by decide +kernel, by decide +kernel, by decide +kernel, by decide +kernel⟩ hd h
def bkX10_pools_32 (P : Nat → tc_B) (q : tc_Q) : tc_B := tb_aload 0 <| tb_getf 8 5 <| tb_getf 6 6 <| tb_iret q
theorem okX10_pools_32 {Z : tc_Z} {q : tc_Q} (X : tc_Cx ({ frames := 4, cells := 0, slots := 0, locals := 92 } : Room) cX10_pools 2 RX10 Z) (hr : tc_Rt 0 cX10_pools 2 Z q) : tc_Ok 2 Z 32 (bkX10_pools_32 (tc_At 2 Z) q) := by
  unfold bkX10_pools_32
  refine to_aload_n (pc := 32) X dX10_pools_32 rfl ?_
  refine gfX10_5 (pc := 33) X wf_RX10_49 dX10_pools_33 ?_
  refine gfX7_6 (pc := 36) X wf_RX10_306 dX10_pools_36 ?_
  exact to_iret (pc := 39) hr dX10_pools_39
def bkX10_pools_21 (P : Nat → tc_B) (q : tc_Q) : tc_B := tb_aload 0 <| tb_getf 8 5 <| tb_aload 0 <| tb_getf 8 3 <| tb_callV 1 3 6 RX7_fill <| bkX10_pools_32 P q
theorem okX10_pools_21 {Z : tc_Z} {q : tc_Q} (X : tc_Cx ({ frames := 4, cells := 0, slots := 0, locals := 92 } : Room) cX10_pools 2 RX10 Z) (hr : tc_Rt 0 cX10_pools 2 Z q) : tc_Ok 2 Z 21 (bkX10_pools_21 (tc_At 2 Z) q) := by
  unfold bkX10_pools_21
  refine to_aload_n (pc := 21) X dX10_pools_21 rfl ?_
  refine gfX10_5 (pc := 22) X wf_RX10_49 dX10_pools_22 ?_
  refine to_aload_n (pc := 25) X dX10_pools_25 rfl ?_
  refine gfX10_3 (pc := 26) X wf_RX10_35 dX10_pools_26 ?_
  refine cvX7_fill (pc := 29) X wm_RX10_303 (by decide) dX10_pools_29 ?_
  exact okX10_pools_32 X hr
def bkX10_pools_4 (P : Nat → tc_B) (q : tc_Q) : tc_B := tb_if_ne (tb_aload 0 <| tb_getf 8 3 <| tb_aload 0 <| tb_getf 8 0 <| tb_iload 1 <| tb_callV 2 4 2 RX2_gather <| bkX10_pools_21 P q) <| tb_i (-1) <| tb_iret q
theorem okX10_pools_4 {Z : tc_Z} {q : tc_Q} (X : tc_Cx ({ frames := 4, cells := 0, slots := 0, locals := 92 } : Room) cX10_pools 2 RX10 Z) (hr : tc_Rt 0 cX10_pools 2 Z q) : tc_Ok 2 Z 4 (bkX10_pools_4 (tc_At 2 Z) q) := by
  unfold bkX10_pools_4
  refine to_if_ne (pc := 4) (tgt := 9) X dX10_pools_4 (by decide) ?_ ?_
  · refine to_aload_n (pc := 9) X dX10_pools_9 rfl ?_
    refine gfX10_3 (pc := 10) X wf_RX10_35 dX10_pools_10 ?_
    refine to_aload_n (pc := 13) X dX10_pools_13 rfl ?_
    refine gfX10_0 (pc := 14) X wf_RX10_12 dX10_pools_14 ?_
    refine to_iload_n (pc := 17) X dX10_pools_17 rfl ?_
    refine cvX2_gather (pc := 18) X wm_RX10_226 (by decide) dX10_pools_18 ?_
    exact okX10_pools_21 X hr
  refine to_iconst (pc := 7) X dX10_pools_7 (by decide) ?_
  exact to_iret (pc := 8) hr dX10_pools_8
def bkX10_pools_0 (P : Nat → tc_B) (q : tc_Q) : tc_B := tb_iload 1 <| tb_callS 1 1 RX10_isTeller <| bkX10_pools_4 P q
theorem okX10_pools_0 {Z : tc_Z} {q : tc_Q} (X : tc_Cx ({ frames := 4, cells := 0, slots := 0, locals := 92 } : Room) cX10_pools 2 RX10 Z) (hr : tc_Rt 0 cX10_pools 2 Z q) : tc_Ok 2 Z 0 (bkX10_pools_0 (tc_At 2 Z) q) := by
  unfold bkX10_pools_0
  refine to_iload_n (pc := 0) X dX10_pools_0 rfl ?_
  refine cvX10_isTeller (pc := 1) X wm_RX10_114 (by decide) dX10_pools_1 ?_
  exact okX10_pools_4 X hr
def RX10_pools (vs : List tc_V) (S : tc_S) (q : tc_Q) : Prop := ∀ P : Nat → tc_B, bkX10_pools_0 P q (tc_num 0 vs) [] S
theorem metX10_pools : tc_Met yX10_pools (Cond.code yX10_pools cX10_pools 2 (some .int)) ({ frames := 4, cells := 0, slots := 0, locals := 92 } : Room) 0 2 RX10_pools := tc_met (rk := 0) (by decide) ⟨rfl, rfl⟩ (fun Z q X hr vs S h => okX10_pools_0 X hr _ _ _ (h (tc_At 2 Z)))
theorem cvX10_pools {R : Room} {cc : ByteArray} {nL pc ix : Nat} {own : String} {Z : tc_Z} {k : tc_B} (X : tc_Cx R cc nL own Z) (h1 : Cond.methodLink own ix yX10_pools ∈ tc_tb) (hR : 4 + 1 ≤ R.frames ∧ 8 + (2 + 11) + 92 ≤ R.locals) (hd : decode cc pc = .ok (.invokevirtual ix, 3)) (h : tc_Ok nL Z (pc + 3) k) : tc_Ok nL Z pc (tb_callV 1 2 8 RX10_pools k) := to_callV X metX10_pools rfl ⟨rfl, rfl⟩ hR h1 wi_X10_pools wl_X10_pools wn_RX10 wc_X10_pools ⟨by decide +kernel, by decide +kernel, by decide +kernel, by decide +kernel⟩ hd h
def bkX10_pool_70 (P : Nat → tc_B) (q : tc_Q) : tc_B := tb_iret q
theorem okX10_pool_70 {Z : tc_Z} {q : tc_Q} (X : tc_Cx ({ frames := 4, cells := 0, slots := 0, locals := 92 } : Room) cX10_pool 4 RX10 Z) (hr : tc_Rt 0 cX10_pool 4 Z q) : tc_Ok 4 Z 70 (bkX10_pool_70 (tc_At 4 Z) q) := by
  unfold bkX10_pool_70
  exact to_iret (pc := 70) hr dX10_pool_70
def bkX10_pool_32 (P : Nat → tc_B) (q : tc_Q) : tc_B := tb_iload 2 <| tb_if_lt (tb_i (-1) <| tb_iret q) <| tb_iload 2 <| tb_aload 0 <| tb_getf 8 5 <| tb_getf 6 6 <| tb_icmp_lt (tb_iload 3 <| tb_if_lt (tb_i (-2) <| tb_iret q) <| tb_iload 3 <| tb_i 3 <| tb_icmp_le (tb_aload 0 <| tb_getf 8 5 <| tb_iload 2 <| tb_iload 3 <| tb_callV 2 3 6 RX7_tellOf <| bkX10_pool_70 P q) <| tb_i (-2) <| tb_iret q) <| tb_i (-1) <| tb_iret q
theorem okX10_pool_32 {Z : tc_Z} {q : tc_Q} (X : tc_Cx ({ frames := 4, cells := 0, slots := 0, locals := 92 } : Room) cX10_pool 4 RX10 Z) (hr : tc_Rt 0 cX10_pool 4 Z q) : tc_Ok 4 Z 32 (bkX10_pool_32 (tc_At 4 Z) q) := by
  unfold bkX10_pool_32
  refine to_iload_n (pc := 32) X dX10_pool_32 rfl ?_
  refine to_if_lt (pc := 33) (tgt := 47) X dX10_pool_33 (by decide) ?_ ?_
  · refine to_iconst (pc := 47) X dX10_pool_47 (by decide) ?_
    exact to_iret (pc := 48) hr dX10_pool_48
  refine to_iload_n (pc := 36) X dX10_pool_36 rfl ?_
  refine to_aload_n (pc := 37) X dX10_pool_37 rfl ?_
  refine gfX10_5 (pc := 38) X wf_RX10_49 dX10_pool_38 ?_
  refine gfX7_6 (pc := 41) X wf_RX10_306 dX10_pool_41 ?_
  refine to_icmp_lt (pc := 44) (tgt := 49) X dX10_pool_44 (by decide) ?_ ?_
  · refine to_iload_n (pc := 49) X dX10_pool_49 rfl ?_
    refine to_if_lt (pc := 50) (tgt := 58) X dX10_pool_50 (by decide) ?_ ?_
    · refine to_bipush (pc := 58) X dX10_pool_58 (by decide) ?_
      exact to_iret (pc := 60) hr dX10_pool_60
    refine to_iload_n (pc := 53) X dX10_pool_53 rfl ?_
    refine to_iconst (pc := 54) X dX10_pool_54 (by decide) ?_
    refine to_icmp_le (pc := 55) (tgt := 61) X dX10_pool_55 (by decide) ?_ ?_
    · refine to_aload_n (pc := 61) X dX10_pool_61 rfl ?_
      refine gfX10_5 (pc := 62) X wf_RX10_49 dX10_pool_62 ?_
      refine to_iload_n (pc := 65) X dX10_pool_65 rfl ?_
      refine to_iload_n (pc := 66) X dX10_pool_66 rfl ?_
      refine cvX7_tellOf (pc := 67) X wm_RX10_307 (by decide) dX10_pool_67 ?_
      exact okX10_pool_70 X hr
    refine to_bipush (pc := 58) X dX10_pool_58 (by decide) ?_
    exact to_iret (pc := 60) hr dX10_pool_60
  refine to_iconst (pc := 47) X dX10_pool_47 (by decide) ?_
  exact to_iret (pc := 48) hr dX10_pool_48
def bkX10_pool_21 (P : Nat → tc_B) (q : tc_Q) : tc_B := tb_aload 0 <| tb_getf 8 5 <| tb_aload 0 <| tb_getf 8 3 <| tb_callV 1 3 6 RX7_fill <| bkX10_pool_32 P q
theorem okX10_pool_21 {Z : tc_Z} {q : tc_Q} (X : tc_Cx ({ frames := 4, cells := 0, slots := 0, locals := 92 } : Room) cX10_pool 4 RX10 Z) (hr : tc_Rt 0 cX10_pool 4 Z q) : tc_Ok 4 Z 21 (bkX10_pool_21 (tc_At 4 Z) q) := by
  unfold bkX10_pool_21
  refine to_aload_n (pc := 21) X dX10_pool_21 rfl ?_
  refine gfX10_5 (pc := 22) X wf_RX10_49 dX10_pool_22 ?_
  refine to_aload_n (pc := 25) X dX10_pool_25 rfl ?_
  refine gfX10_3 (pc := 26) X wf_RX10_35 dX10_pool_26 ?_
  refine cvX7_fill (pc := 29) X wm_RX10_303 (by decide) dX10_pool_29 ?_
  exact okX10_pool_32 X hr
def bkX10_pool_4 (P : Nat → tc_B) (q : tc_Q) : tc_B := tb_if_ne (tb_aload 0 <| tb_getf 8 3 <| tb_aload 0 <| tb_getf 8 0 <| tb_iload 1 <| tb_callV 2 4 2 RX2_gather <| bkX10_pool_21 P q) <| tb_i (-1) <| tb_iret q
theorem okX10_pool_4 {Z : tc_Z} {q : tc_Q} (X : tc_Cx ({ frames := 4, cells := 0, slots := 0, locals := 92 } : Room) cX10_pool 4 RX10 Z) (hr : tc_Rt 0 cX10_pool 4 Z q) : tc_Ok 4 Z 4 (bkX10_pool_4 (tc_At 4 Z) q) := by
  unfold bkX10_pool_4
  refine to_if_ne (pc := 4) (tgt := 9) X dX10_pool_4 (by decide) ?_ ?_
  · refine to_aload_n (pc := 9) X dX10_pool_9 rfl ?_
    refine gfX10_3 (pc := 10) X wf_RX10_35 dX10_pool_10 ?_
    refine to_aload_n (pc := 13) X dX10_pool_13 rfl ?_
    refine gfX10_0 (pc := 14) X wf_RX10_12 dX10_pool_14 ?_
    refine to_iload_n (pc := 17) X dX10_pool_17 rfl ?_
    refine cvX2_gather (pc := 18) X wm_RX10_226 (by decide) dX10_pool_18 ?_
    exact okX10_pool_21 X hr
  refine to_iconst (pc := 7) X dX10_pool_7 (by decide) ?_
  exact to_iret (pc := 8) hr dX10_pool_8
def bkX10_pool_0 (P : Nat → tc_B) (q : tc_Q) : tc_B := tb_iload 1 <| tb_callS 1 1 RX10_isTeller <| bkX10_pool_4 P q
theorem okX10_pool_0 {Z : tc_Z} {q : tc_Q} (X : tc_Cx ({ frames := 4, cells := 0, slots := 0, locals := 92 } : Room) cX10_pool 4 RX10 Z) (hr : tc_Rt 0 cX10_pool 4 Z q) : tc_Ok 4 Z 0 (bkX10_pool_0 (tc_At 4 Z) q) := by
  unfold bkX10_pool_0
  refine to_iload_n (pc := 0) X dX10_pool_0 rfl ?_
  refine cvX10_isTeller (pc := 1) X wm_RX10_114 (by decide) dX10_pool_1 ?_
  exact okX10_pool_4 X hr
def RX10_pool (vs : List tc_V) (S : tc_S) (q : tc_Q) : Prop := ∀ P : Nat → tc_B, bkX10_pool_0 P q (tc_num 0 vs) [] S
theorem metX10_pool : tc_Met yX10_pool (Cond.code yX10_pool cX10_pool 4 (some .int)) ({ frames := 4, cells := 0, slots := 0, locals := 92 } : Room) 0 4 RX10_pool := tc_met (rk := 0) (by decide) ⟨rfl, rfl⟩ (fun Z q X hr vs S h => okX10_pool_0 X hr _ _ _ (h (tc_At 4 Z)))
theorem cvX10_pool {R : Room} {cc : ByteArray} {nL pc ix : Nat} {own : String} {Z : tc_Z} {k : tc_B} (X : tc_Cx R cc nL own Z) (h1 : Cond.methodLink own ix yX10_pool ∈ tc_tb) (hR : 4 + 1 ≤ R.frames ∧ 8 + (4 + 11) + 92 ≤ R.locals) (hd : decode cc pc = .ok (.invokevirtual ix, 3)) (h : tc_Ok nL Z (pc + 3) k) : tc_Ok nL Z pc (tb_callV 3 4 8 RX10_pool k) := to_callV X metX10_pool rfl ⟨rfl, rfl⟩ hR h1 wi_X10_pool wl_X10_pool wn_RX10 wc_X10_pool ⟨by decide +kernel, by decide +kernel, by decide +kernel, by decide +kernel⟩ hd h
def bkX10_flat_81 (P : Nat → tc_B) (q : tc_Q) : tc_B := tb_jret q
theorem okX10_flat_81 {Z : tc_Z} {q : tc_Q} (X : tc_Cx ({ frames := 4, cells := 0, slots := 0, locals := 107 } : Room) cX10_flat 3 RX10 Z) (hr : tc_Rt 2 cX10_flat 3 Z q) : tc_Ok 3 Z 81 (bkX10_flat_81 (tc_At 3 Z) q) := by
  unfold bkX10_flat_81
  exact to_jret (pc := 81) hr dX10_flat_81
def bkX10_flat_73 (P : Nat → tc_B) (q : tc_Q) : tc_B := tb_aload 0 <| tb_getf 8 6 <| tb_iload 2 <| tb_callV 1 2 3 RX4_pick <| bkX10_flat_81 P q
theorem okX10_flat_73 {Z : tc_Z} {q : tc_Q} (X : tc_Cx ({ frames := 4, cells := 0, slots := 0, locals := 107 } : Room) cX10_flat 3 RX10 Z) (hr : tc_Rt 2 cX10_flat 3 Z q) : tc_Ok 3 Z 73 (bkX10_flat_73 (tc_At 3 Z) q) := by
  unfold bkX10_flat_73
  refine to_aload_n (pc := 73) X dX10_flat_73 rfl ?_
  refine gfX10_6 (pc := 74) X wf_RX10_56 dX10_flat_74 ?_
  refine to_iload_n (pc := 77) X dX10_flat_77 rfl ?_
  refine cvX4_pick (pc := 78) X wm_RX10_222 (by decide) dX10_flat_78 ?_
  exact okX10_flat_81 X hr
def bkX10_flat_55 (P : Nat → tc_B) (q : tc_Q) : tc_B := tb_aload 0 <| tb_getf 8 5 <| tb_aload 0 <| tb_getf 8 3 <| tb_getf 2 2 <| tb_aload 0 <| tb_getf 8 6 <| tb_callV 2 4 6 RX7_findFlat <| bkX10_flat_73 P q
theorem okX10_flat_55 {Z : tc_Z} {q : tc_Q} (X : tc_Cx ({ frames := 4, cells := 0, slots := 0, locals := 107 } : Room) cX10_flat 3 RX10 Z) (hr : tc_Rt 2 cX10_flat 3 Z q) : tc_Ok 3 Z 55 (bkX10_flat_55 (tc_At 3 Z) q) := by
  unfold bkX10_flat_55
  refine to_aload_n (pc := 55) X dX10_flat_55 rfl ?_
  refine gfX10_5 (pc := 56) X wf_RX10_49 dX10_flat_56 ?_
  refine to_aload_n (pc := 59) X dX10_flat_59 rfl ?_
  refine gfX10_3 (pc := 60) X wf_RX10_35 dX10_flat_60 ?_
  refine gfX2_2 (pc := 63) X wf_RX10_230 dX10_flat_63 ?_
  refine to_aload_n (pc := 66) X dX10_flat_66 rfl ?_
  refine gfX10_6 (pc := 67) X wf_RX10_56 dX10_flat_67 ?_
  refine cvX7_findFlat (pc := 70) X wm_RX10_310 (by decide) dX10_flat_70 ?_
  exact okX10_flat_73 X hr
def bkX10_flat_30 (P : Nat → tc_B) (q : tc_Q) : tc_B := tb_aload 0 <| tb_getf 8 3 <| tb_getf 2 2 <| tb_if_ne (tb_aload 0 <| tb_getf 8 5 <| tb_aload 0 <| tb_getf 8 3 <| tb_callV 1 3 6 RX7_fill <| bkX10_flat_55 P q) <| tb_j (-9223372036854775808) <| tb_jret q
theorem okX10_flat_30 {Z : tc_Z} {q : tc_Q} (X : tc_Cx ({ frames := 4, cells := 0, slots := 0, locals := 107 } : Room) cX10_flat 3 RX10 Z) (hr : tc_Rt 2 cX10_flat 3 Z q) : tc_Ok 3 Z 30 (bkX10_flat_30 (tc_At 3 Z) q) := by
  unfold bkX10_flat_30
  refine to_aload_n (pc := 30) X dX10_flat_30 rfl ?_
  refine gfX10_3 (pc := 31) X wf_RX10_35 dX10_flat_31 ?_
  refine gfX2_2 (pc := 34) X wf_RX10_230 dX10_flat_34 ?_
  refine to_if_ne (pc := 37) (tgt := 44) X dX10_flat_37 (by decide) ?_ ?_
  · refine to_aload_n (pc := 44) X dX10_flat_44 rfl ?_
    refine gfX10_5 (pc := 45) X wf_RX10_49 dX10_flat_45 ?_
    refine to_aload_n (pc := 48) X dX10_flat_48 rfl ?_
    refine gfX10_3 (pc := 49) X wf_RX10_35 dX10_flat_49 ?_
    refine cvX7_fill (pc := 52) X wm_RX10_303 (by decide) dX10_flat_52 ?_
    exact okX10_flat_55 X hr
  refine to_ldc2 (pc := 40) X wj_RX10_220 dX10_flat_40 ?_
  exact to_jret (pc := 43) hr dX10_flat_43
def bkX10_flat_11 (P : Nat → tc_B) (q : tc_Q) : tc_B := tb_if_ne (tb_aload 0 <| tb_getf 8 3 <| tb_aload 0 <| tb_getf 8 0 <| tb_iload 1 <| tb_callV 2 4 2 RX2_gather <| bkX10_flat_30 P q) <| tb_j (-9223372036854775808) <| tb_jret q
theorem okX10_flat_11 {Z : tc_Z} {q : tc_Q} (X : tc_Cx ({ frames := 4, cells := 0, slots := 0, locals := 107 } : Room) cX10_flat 3 RX10 Z) (hr : tc_Rt 2 cX10_flat 3 Z q) : tc_Ok 3 Z 11 (bkX10_flat_11 (tc_At 3 Z) q) := by
  unfold bkX10_flat_11
  refine to_if_ne (pc := 11) (tgt := 18) X dX10_flat_11 (by decide) ?_ ?_
  · refine to_aload_n (pc := 18) X dX10_flat_18 rfl ?_
    refine gfX10_3 (pc := 19) X wf_RX10_35 dX10_flat_19 ?_
    refine to_aload_n (pc := 22) X dX10_flat_22 rfl ?_
    refine gfX10_0 (pc := 23) X wf_RX10_12 dX10_flat_23 ?_
    refine to_iload_n (pc := 26) X dX10_flat_26 rfl ?_
    refine cvX2_gather (pc := 27) X wm_RX10_226 (by decide) dX10_flat_27 ?_
    exact okX10_flat_30 X hr
  refine to_ldc2 (pc := 14) X wj_RX10_220 dX10_flat_14 ?_
  exact to_jret (pc := 17) hr dX10_flat_17
def bkX10_flat_4 (P : Nat → tc_B) (q : tc_Q) : tc_B := tb_if_eq (tb_j (-9223372036854775808) <| tb_jret q) <| tb_iload 2 <| tb_callS 1 1 RX10_isWhich <| bkX10_flat_11 P q
theorem okX10_flat_4 {Z : tc_Z} {q : tc_Q} (X : tc_Cx ({ frames := 4, cells := 0, slots := 0, locals := 107 } : Room) cX10_flat 3 RX10 Z) (hr : tc_Rt 2 cX10_flat 3 Z q) : tc_Ok 3 Z 4 (bkX10_flat_4 (tc_At 3 Z) q) := by
  unfold bkX10_flat_4
  refine to_if_eq (pc := 4) (tgt := 14) X dX10_flat_4 (by decide) ?_ ?_
  · refine to_ldc2 (pc := 14) X wj_RX10_220 dX10_flat_14 ?_
    exact to_jret (pc := 17) hr dX10_flat_17
  refine to_iload_n (pc := 7) X dX10_flat_7 rfl ?_
  refine cvX10_isWhich (pc := 8) X wm_RX10_214 (by decide) dX10_flat_8 ?_
  exact okX10_flat_11 X hr
def bkX10_flat_0 (P : Nat → tc_B) (q : tc_Q) : tc_B := tb_iload 1 <| tb_callS 1 1 RX10_isTeller <| bkX10_flat_4 P q
theorem okX10_flat_0 {Z : tc_Z} {q : tc_Q} (X : tc_Cx ({ frames := 4, cells := 0, slots := 0, locals := 107 } : Room) cX10_flat 3 RX10 Z) (hr : tc_Rt 2 cX10_flat 3 Z q) : tc_Ok 3 Z 0 (bkX10_flat_0 (tc_At 3 Z) q) := by
  unfold bkX10_flat_0
  refine to_iload_n (pc := 0) X dX10_flat_0 rfl ?_
  refine cvX10_isTeller (pc := 1) X wm_RX10_114 (by decide) dX10_flat_1 ?_
  exact okX10_flat_4 X hr
def RX10_flat (vs : List tc_V) (S : tc_S) (q : tc_Q) : Prop := ∀ P : Nat → tc_B, bkX10_flat_0 P q (tc_num 0 vs) [] S
theorem metX10_flat : tc_Met yX10_flat (Cond.code yX10_flat cX10_flat 3 (some .long)) ({ frames := 4, cells := 0, slots := 0, locals := 107 } : Room) 2 3 RX10_flat := tc_met (rk := 2) (by decide) ⟨rfl, rfl⟩ (fun Z q X hr vs S h => okX10_flat_0 X hr _ _ _ (h (tc_At 3 Z)))
theorem cvX10_flat {R : Room} {cc : ByteArray} {nL pc ix : Nat} {own : String} {Z : tc_Z} {k : tc_B} (X : tc_Cx R cc nL own Z) (h1 : Cond.methodLink own ix yX10_flat ∈ tc_tb) (hR : 4 + 1 ≤ R.frames ∧ 8 + (3 + 11) + 107 ≤ R.locals) (hd : decode cc pc = .ok (.invokevirtual ix, 3)) (h : tc_Ok nL Z (pc + 3) k) : tc_Ok nL Z pc (tb_callV 2 3 8 RX10_flat k) := to_callV X metX10_flat rfl ⟨rfl, rfl⟩ hR h1 wi_X10_flat wl_X10_flat wn_RX10 wc_X10_flat ⟨by decide +kernel, by decide +kernel, by decide +kernel, by decide +kernel⟩ hd h
def bkX10_countWins_149 (P : Nat → tc_B) (q : tc_Q) : tc_B := tb_iinc 3 1 <| tb_cut (P 23) [0, 1, 2, 3]
theorem okX10_countWins_149 {Z : tc_Z} {q : tc_Q} (X : tc_Cx ({ frames := 3, cells := 0, slots := 0, locals := 69 } : Room) cX10_countWins 8 RX10 Z) (hr : tc_Rt 3 cX10_countWins 8 Z q) : tc_Ok 8 Z 149 (bkX10_countWins_149 (tc_At 8 Z) q) := by
  unfold bkX10_countWins_149
  refine to_iinc (pc := 149) X dX10_countWins_149 (by decide) (by decide) ?_
  refine to_goto (pc := 152) (tgt := 23) X dX10_countWins_152 (by decide) ?_
  exact to_cut [0, 1, 2, 3] (fun _ _ _ h => h)
def bkX10_countWins_136 (P : Nat → tc_B) (q : tc_Q) : tc_B := tb_istore 7 <| tb_aload 0 <| tb_getf 8 11 <| tb_iload 7 <| tb_dup2 <| tb_iald <| tb_i 1 <| tb_iadd <| tb_iast <| tb_cut (P 149) [0, 1, 2, 3]
theorem okX10_countWins_136 {Z : tc_Z} {q : tc_Q} (X : tc_Cx ({ frames := 3, cells := 0, slots := 0, locals := 69 } : Room) cX10_countWins 8 RX10 Z) (hr : tc_Rt 3 cX10_countWins 8 Z q) : tc_Ok 8 Z 136 (bkX10_countWins_136 (tc_At 8 Z) q) := by
  unfold bkX10_countWins_136
  refine to_istore (pc := 136) X dX10_countWins_136 (by decide) ?_
  refine to_aload_n (pc := 138) X dX10_countWins_138 rfl ?_
  refine gfX10_11 (pc := 139) X wf_RX10_78 dX10_countWins_139 ?_
  refine to_iload (pc := 142) X dX10_countWins_142 ?_
  refine to_dup2 (pc := 144) X dX10_countWins_144 ?_
  refine to_iald (pc := 145) X dX10_countWins_145 ?_
  refine to_iconst (pc := 146) X dX10_countWins_146 (by decide) ?_
  refine to_iadd (pc := 147) X dX10_countWins_147 ?_
  refine to_iast (pc := 148) X dX10_countWins_148 ?_
  exact to_cut [0, 1, 2, 3] (fun _ _ _ h => h)
def bkX10_countWins_111 (P : Nat → tc_B) (q : tc_Q) : tc_B := tb_istore 6 <| tb_iload 5 <| tb_iload 6 <| tb_icmp_ge (tb_iload 5 <| tb_iload 6 <| tb_icmp_le (tb_i 2 <| tb_cut (P 136) [0, 1, 2, 3]) <| tb_i 1 <| tb_cut (P 136) [0, 1, 2, 3]) <| tb_i 0 <| tb_cut (P 136) [0, 1, 2, 3]
theorem okX10_countWins_111 {Z : tc_Z} {q : tc_Q} (X : tc_Cx ({ frames := 3, cells := 0, slots := 0, locals := 69 } : Room) cX10_countWins 8 RX10 Z) (hr : tc_Rt 3 cX10_countWins 8 Z q) : tc_Ok 8 Z 111 (bkX10_countWins_111 (tc_At 8 Z) q) := by
  unfold bkX10_countWins_111
  refine to_istore (pc := 111) X dX10_countWins_111 (by decide) ?_
  refine to_iload (pc := 113) X dX10_countWins_113 ?_
  refine to_iload (pc := 115) X dX10_countWins_115 ?_
  refine to_icmp_ge (pc := 117) (tgt := 124) X dX10_countWins_117 (by decide) ?_ ?_
  · refine to_iload (pc := 124) X dX10_countWins_124 ?_
    refine to_iload (pc := 126) X dX10_countWins_126 ?_
    refine to_icmp_le (pc := 128) (tgt := 135) X dX10_countWins_128 (by decide) ?_ ?_
    · refine to_iconst (pc := 135) X dX10_countWins_135 (by decide) ?_
      exact to_cut [0, 1, 2, 3] (fun _ _ _ h => h)
    refine to_iconst (pc := 131) X dX10_countWins_131 (by decide) ?_
    refine to_goto (pc := 132) (tgt := 136) X dX10_countWins_132 (by decide) ?_
    exact to_cut [0, 1, 2, 3] (fun _ _ _ h => h)
  refine to_iconst (pc := 120) X dX10_countWins_120 (by decide) ?_
  refine to_goto (pc := 121) (tgt := 136) X dX10_countWins_121 (by decide) ?_
  exact to_cut [0, 1, 2, 3] (fun _ _ _ h => h)
def bkX10_countWins_106 (P : Nat → tc_B) (q : tc_Q) : tc_B := tb_iload 4 <| tb_callE 2 4 1 4 RX8_missOf <| bkX10_countWins_111 P q
theorem okX10_countWins_106 {Z : tc_Z} {q : tc_Q} (X : tc_Cx ({ frames := 3, cells := 0, slots := 0, locals := 69 } : Room) cX10_countWins 8 RX10 Z) (hr : tc_Rt 3 cX10_countWins 8 Z q) : tc_Ok 8 Z 106 (bkX10_countWins_106 (tc_At 8 Z) q) := by
  unfold bkX10_countWins_106
  refine to_iload (pc := 106) X dX10_countWins_106 ?_
  refine cvX8_missOf (pc := 108) X wm_RX10_210 (by decide) dX10_countWins_108 ?_
  exact okX10_countWins_111 X hr
def bkX10_countWins_91 (P : Nat → tc_B) (q : tc_Q) : tc_B := tb_istore 5 <| tb_aload 0 <| tb_getf 8 13 <| tb_aload 0 <| tb_getf 8 0 <| tb_iload 2 <| tb_iload 3 <| tb_callV 2 3 1 RX1_chanceOf <| bkX10_countWins_106 P q
theorem okX10_countWins_91 {Z : tc_Z} {q : tc_Q} (X : tc_Cx ({ frames := 3, cells := 0, slots := 0, locals := 69 } : Room) cX10_countWins 8 RX10 Z) (hr : tc_Rt 3 cX10_countWins 8 Z q) : tc_Ok 8 Z 91 (bkX10_countWins_91 (tc_At 8 Z) q) := by
  unfold bkX10_countWins_91
  refine to_istore (pc := 91) X dX10_countWins_91 (by decide) ?_
  refine to_aload_n (pc := 93) X dX10_countWins_93 rfl ?_
  refine gfX10_13 (pc := 94) X wf_RX10_90 dX10_countWins_94 ?_
  refine to_aload_n (pc := 97) X dX10_countWins_97 rfl ?_
  refine gfX10_0 (pc := 98) X wf_RX10_12 dX10_countWins_98 ?_
  refine to_iload_n (pc := 101) X dX10_countWins_101 rfl ?_
  refine to_iload_n (pc := 102) X dX10_countWins_102 rfl ?_
  refine cvX1_chanceOf (pc := 103) X wm_RX10_117 (by decide) dX10_countWins_103 ?_
  exact okX10_countWins_106 X hr
def bkX10_countWins_86 (P : Nat → tc_B) (q : tc_Q) : tc_B := tb_iload 4 <| tb_callE 2 4 1 4 RX8_missOf <| bkX10_countWins_91 P q
theorem okX10_countWins_86 {Z : tc_Z} {q : tc_Q} (X : tc_Cx ({ frames := 3, cells := 0, slots := 0, locals := 69 } : Room) cX10_countWins 8 RX10 Z) (hr : tc_Rt 3 cX10_countWins 8 Z q) : tc_Ok 8 Z 86 (bkX10_countWins_86 (tc_At 8 Z) q) := by
  unfold bkX10_countWins_86
  refine to_iload (pc := 86) X dX10_countWins_86 ?_
  refine cvX8_missOf (pc := 88) X wm_RX10_210 (by decide) dX10_countWins_88 ?_
  exact okX10_countWins_91 X hr
def bkX10_countWins_71 (P : Nat → tc_B) (q : tc_Q) : tc_B := tb_istore 4 <| tb_aload 0 <| tb_getf 8 13 <| tb_aload 0 <| tb_getf 8 0 <| tb_iload 1 <| tb_iload 3 <| tb_callV 2 3 1 RX1_chanceOf <| bkX10_countWins_86 P q
theorem okX10_countWins_71 {Z : tc_Z} {q : tc_Q} (X : tc_Cx ({ frames := 3, cells := 0, slots := 0, locals := 69 } : Room) cX10_countWins 8 RX10 Z) (hr : tc_Rt 3 cX10_countWins 8 Z q) : tc_Ok 8 Z 71 (bkX10_countWins_71 (tc_At 8 Z) q) := by
  unfold bkX10_countWins_71
  refine to_istore (pc := 71) X dX10_countWins_71 (by decide) ?_
  refine to_aload_n (pc := 73) X dX10_countWins_73 rfl ?_
  refine gfX10_13 (pc := 74) X wf_RX10_90 dX10_countWins_74 ?_
  refine to_aload_n (pc := 77) X dX10_countWins_77 rfl ?_
  refine gfX10_0 (pc := 78) X wf_RX10_12 dX10_countWins_78 ?_
  refine to_iload_n (pc := 81) X dX10_countWins_81 rfl ?_
  refine to_iload_n (pc := 82) X dX10_countWins_82 rfl ?_
  refine cvX1_chanceOf (pc := 83) X wm_RX10_117 (by decide) dX10_countWins_83 ?_
  exact okX10_countWins_86 X hr
def bkX10_countWins_50 (P : Nat → tc_B) (q : tc_Q) : tc_B := tb_if_eq (tb_cut (P 149) [0, 1, 2, 3]) <| tb_aload 0 <| tb_getf 8 0 <| tb_getf 1 2 <| tb_iload 3 <| tb_iald <| tb_i 1 <| tb_icmp_ne (tb_i 0 <| tb_cut (P 71) [0, 1, 2, 3]) <| tb_i 1 <| tb_cut (P 71) [0, 1, 2, 3]
theorem okX10_countWins_50 {Z : tc_Z} {q : tc_Q} (X : tc_Cx ({ frames := 3, cells := 0, slots := 0, locals := 69 } : Room) cX10_countWins 8 RX10 Z) (hr : tc_Rt 3 cX10_countWins 8 Z q) : tc_Ok 8 Z 50 (bkX10_countWins_50 (tc_At 8 Z) q) := by
  unfold bkX10_countWins_50
  refine to_if_eq (pc := 50) (tgt := 149) X dX10_countWins_50 (by decide) ?_ ?_
  · exact to_cut [0, 1, 2, 3] (fun _ _ _ h => h)
  refine to_aload_n (pc := 53) X dX10_countWins_53 rfl ?_
  refine gfX10_0 (pc := 54) X wf_RX10_12 dX10_countWins_54 ?_
  refine gfX1_2 (pc := 57) X wf_RX10_120 dX10_countWins_57 ?_
  refine to_iload_n (pc := 60) X dX10_countWins_60 rfl ?_
  refine to_iald (pc := 61) X dX10_countWins_61 ?_
  refine to_iconst (pc := 62) X dX10_countWins_62 (by decide) ?_
  refine to_icmp_ne (pc := 63) (tgt := 70) X dX10_countWins_63 (by decide) ?_ ?_
  · refine to_iconst (pc := 70) X dX10_countWins_70 (by decide) ?_
    exact to_cut [0, 1, 2, 3] (fun _ _ _ h => h)
  refine to_iconst (pc := 66) X dX10_countWins_66 (by decide) ?_
  refine to_goto (pc := 67) (tgt := 71) X dX10_countWins_67 (by decide) ?_
  exact to_cut [0, 1, 2, 3] (fun _ _ _ h => h)
def bkX10_countWins_38 (P : Nat → tc_B) (q : tc_Q) : tc_B := tb_if_eq (tb_cut (P 149) [0, 1, 2, 3]) <| tb_aload 0 <| tb_getf 8 0 <| tb_iload 2 <| tb_iload 3 <| tb_callV 2 3 1 RX1_isCase <| bkX10_countWins_50 P q
theorem okX10_countWins_38 {Z : tc_Z} {q : tc_Q} (X : tc_Cx ({ frames := 3, cells := 0, slots := 0, locals := 69 } : Room) cX10_countWins 8 RX10 Z) (hr : tc_Rt 3 cX10_countWins 8 Z q) : tc_Ok 8 Z 38 (bkX10_countWins_38 (tc_At 8 Z) q) := by
  unfold bkX10_countWins_38
  refine to_if_eq (pc := 38) (tgt := 149) X dX10_countWins_38 (by decide) ?_ ?_
  · exact to_cut [0, 1, 2, 3] (fun _ _ _ h => h)
  refine to_aload_n (pc := 41) X dX10_countWins_41 rfl ?_
  refine gfX10_0 (pc := 42) X wf_RX10_12 dX10_countWins_42 ?_
  refine to_iload_n (pc := 45) X dX10_countWins_45 rfl ?_
  refine to_iload_n (pc := 46) X dX10_countWins_46 rfl ?_
  refine cvX1_isCase (pc := 47) X wm_RX10_332 (by decide) dX10_countWins_47 ?_
  exact okX10_countWins_50 X hr
def bkX10_countWins_23 (P : Nat → tc_B) (q : tc_Q) : tc_B := tb_iload 3 <| tb_i 40 <| tb_icmp_ge (tb_vret q) <| tb_aload 0 <| tb_getf 8 0 <| tb_iload 1 <| tb_iload 3 <| tb_callV 2 3 1 RX1_isCase <| bkX10_countWins_38 P q
theorem okX10_countWins_23 {Z : tc_Z} {q : tc_Q} (X : tc_Cx ({ frames := 3, cells := 0, slots := 0, locals := 69 } : Room) cX10_countWins 8 RX10 Z) (hr : tc_Rt 3 cX10_countWins 8 Z q) : tc_Ok 8 Z 23 (bkX10_countWins_23 (tc_At 8 Z) q) := by
  unfold bkX10_countWins_23
  refine to_iload_n (pc := 23) X dX10_countWins_23 rfl ?_
  refine to_bipush (pc := 24) X dX10_countWins_24 (by decide) ?_
  refine to_icmp_ge (pc := 26) (tgt := 155) X dX10_countWins_26 (by decide) ?_ ?_
  · exact to_vret (pc := 155) hr dX10_countWins_155
  refine to_aload_n (pc := 29) X dX10_countWins_29 rfl ?_
  refine gfX10_0 (pc := 30) X wf_RX10_12 dX10_countWins_30 ?_
  refine to_iload_n (pc := 33) X dX10_countWins_33 rfl ?_
  refine to_iload_n (pc := 34) X dX10_countWins_34 rfl ?_
  refine cvX1_isCase (pc := 35) X wm_RX10_332 (by decide) dX10_countWins_35 ?_
  exact okX10_countWins_38 X hr
def bkX10_countWins_0 (P : Nat → tc_B) (q : tc_Q) : tc_B := tb_aload 0 <| tb_getf 8 11 <| tb_i 0 <| tb_i 0 <| tb_iast <| tb_aload 0 <| tb_getf 8 11 <| tb_i 1 <| tb_i 0 <| tb_iast <| tb_aload 0 <| tb_getf 8 11 <| tb_i 2 <| tb_i 0 <| tb_iast <| tb_i 0 <| tb_istore 3 <| tb_cut (P 23) [0, 1, 2, 3]
theorem okX10_countWins_0 {Z : tc_Z} {q : tc_Q} (X : tc_Cx ({ frames := 3, cells := 0, slots := 0, locals := 69 } : Room) cX10_countWins 8 RX10 Z) (hr : tc_Rt 3 cX10_countWins 8 Z q) : tc_Ok 8 Z 0 (bkX10_countWins_0 (tc_At 8 Z) q) := by
  unfold bkX10_countWins_0
  refine to_aload_n (pc := 0) X dX10_countWins_0 rfl ?_
  refine gfX10_11 (pc := 1) X wf_RX10_78 dX10_countWins_1 ?_
  refine to_iconst (pc := 4) X dX10_countWins_4 (by decide) ?_
  refine to_iconst (pc := 5) X dX10_countWins_5 (by decide) ?_
  refine to_iast (pc := 6) X dX10_countWins_6 ?_
  refine to_aload_n (pc := 7) X dX10_countWins_7 rfl ?_
  refine gfX10_11 (pc := 8) X wf_RX10_78 dX10_countWins_8 ?_
  refine to_iconst (pc := 11) X dX10_countWins_11 (by decide) ?_
  refine to_iconst (pc := 12) X dX10_countWins_12 (by decide) ?_
  refine to_iast (pc := 13) X dX10_countWins_13 ?_
  refine to_aload_n (pc := 14) X dX10_countWins_14 rfl ?_
  refine gfX10_11 (pc := 15) X wf_RX10_78 dX10_countWins_15 ?_
  refine to_iconst (pc := 18) X dX10_countWins_18 (by decide) ?_
  refine to_iconst (pc := 19) X dX10_countWins_19 (by decide) ?_
  refine to_iast (pc := 20) X dX10_countWins_20 ?_
  refine to_iconst (pc := 21) X dX10_countWins_21 (by decide) ?_
  refine to_istore_n (pc := 22) X dX10_countWins_22 rfl (by decide) ?_
  exact to_cut [0, 1, 2, 3] (fun _ _ _ h => h)
def RX10_countWins (vs : List tc_V) (S : tc_S) (q : tc_Q) : Prop := ∀ P : Nat → tc_B, (∀ L K S, bkX10_countWins_23 P q L K S → P 23 L K S) → (∀ L K S, bkX10_countWins_71 P q L K S → P 71 L K S) → (∀ L K S, bkX10_countWins_136 P q L K S → P 136 L K S) → (∀ L K S, bkX10_countWins_149 P q L K S → P 149 L K S) → bkX10_countWins_0 P q (tc_num 0 vs) [] S
theorem metX10_countWins : tc_Met yX10_countWins (Cond.code yX10_countWins cX10_countWins 8 none) ({ frames := 3, cells := 0, slots := 0, locals := 69 } : Room) 3 8 RX10_countWins := tc_met (rk := 3) (by decide) ⟨rfl, rfl⟩ (fun Z q X hr vs S h => okX10_countWins_0 X hr _ _ _ (h (tc_At 8 Z) (okX10_countWins_23 X hr) (okX10_countWins_71 X hr) (okX10_countWins_136 X hr) (okX10_countWins_149 X hr)))
theorem cvX10_countWins {R : Room} {cc : ByteArray} {nL pc ix : Nat} {own : String} {Z : tc_Z} {k : tc_B} (X : tc_Cx R cc nL own Z) (h1 : Cond.methodLink own ix yX10_countWins ∈ tc_tb) (hR : 3 + 1 ≤ R.frames ∧ 8 + (8 + 11) + 69 ≤ R.locals) (hd : decode cc pc = .ok (.invokevirtual ix, 3)) (h : tc_Ok nL Z (pc + 3) k) : tc_Ok nL Z pc (tb_callV 2 8 8 RX10_countWins k) := to_callV X metX10_countWins rfl ⟨rfl, rfl⟩ hR h1 wi_X10_countWins wl_X10_countWins wn_RX10 wc_X10_countWins ⟨by decide +kernel, by decide +kernel, by decide +kernel, by decide +kernel⟩ hd h
def bkX10_better_34 (P : Nat → tc_B) (q : tc_Q) : tc_B := tb_iload 3 <| tb_if_ne (tb_aload 0 <| tb_getf 8 11 <| tb_iload 3 <| tb_i 1 <| tb_isub <| tb_iald <| tb_iret q) <| tb_aload 0 <| tb_getf 8 11 <| tb_i 0 <| tb_iald <| tb_aload 0 <| tb_getf 8 11 <| tb_i 1 <| tb_iald <| tb_iadd <| tb_aload 0 <| tb_getf 8 11 <| tb_i 2 <| tb_iald <| tb_iadd <| tb_iret q
theorem okX10_better_34 {Z : tc_Z} {q : tc_Q} (X : tc_Cx ({ frames := 4, cells := 0, slots := 0, locals := 96 } : Room) cX10_better 4 RX10 Z) (hr : tc_Rt 0 cX10_better 4 Z q) : tc_Ok 4 Z 34 (bkX10_better_34 (tc_At 4 Z) q) := by
  unfold bkX10_better_34
  refine to_iload_n (pc := 34) X dX10_better_34 rfl ?_
  refine to_if_ne (pc := 35) (tgt := 59) X dX10_better_35 (by decide) ?_ ?_
  · refine to_aload_n (pc := 59) X dX10_better_59 rfl ?_
    refine gfX10_11 (pc := 60) X wf_RX10_78 dX10_better_60 ?_
    refine to_iload_n (pc := 63) X dX10_better_63 rfl ?_
    refine to_iconst (pc := 64) X dX10_better_64 (by decide) ?_
    refine to_isub (pc := 65) X dX10_better_65 ?_
    refine to_iald (pc := 66) X dX10_better_66 ?_
    exact to_iret (pc := 67) hr dX10_better_67
  refine to_aload_n (pc := 38) X dX10_better_38 rfl ?_
  refine gfX10_11 (pc := 39) X wf_RX10_78 dX10_better_39 ?_
  refine to_iconst (pc := 42) X dX10_better_42 (by decide) ?_
  refine to_iald (pc := 43) X dX10_better_43 ?_
  refine to_aload_n (pc := 44) X dX10_better_44 rfl ?_
  refine gfX10_11 (pc := 45) X wf_RX10_78 dX10_better_45 ?_
  refine to_iconst (pc := 48) X dX10_better_48 (by decide) ?_
  refine to_iald (pc := 49) X dX10_better_49 ?_
  refine to_iadd (pc := 50) X dX10_better_50 ?_
  refine to_aload_n (pc := 51) X dX10_better_51 rfl ?_
  refine gfX10_11 (pc := 52) X wf_RX10_78 dX10_better_52 ?_
  refine to_iconst (pc := 55) X dX10_better_55 (by decide) ?_
  refine to_iald (pc := 56) X dX10_better_56 ?_
  refine to_iadd (pc := 57) X dX10_better_57 ?_
  exact to_iret (pc := 58) hr dX10_better_58
def bkX10_better_11 (P : Nat → tc_B) (q : tc_Q) : tc_B := tb_if_ne (tb_iload 3 <| tb_if_lt (tb_i (-2) <| tb_iret q) <| tb_iload 3 <| tb_i 3 <| tb_icmp_le (tb_aload 0 <| tb_iload 1 <| tb_iload 2 <| tb_callV 2 8 8 RX10_countWins <| bkX10_better_34 P q) <| tb_i (-2) <| tb_iret q) <| tb_i (-1) <| tb_iret q
theorem okX10_better_11 {Z : tc_Z} {q : tc_Q} (X : tc_Cx ({ frames := 4, cells := 0, slots := 0, locals := 96 } : Room) cX10_better 4 RX10 Z) (hr : tc_Rt 0 cX10_better 4 Z q) : tc_Ok 4 Z 11 (bkX10_better_11 (tc_At 4 Z) q) := by
  unfold bkX10_better_11
  refine to_if_ne (pc := 11) (tgt := 16) X dX10_better_11 (by decide) ?_ ?_
  · refine to_iload_n (pc := 16) X dX10_better_16 rfl ?_
    refine to_if_lt (pc := 17) (tgt := 25) X dX10_better_17 (by decide) ?_ ?_
    · refine to_bipush (pc := 25) X dX10_better_25 (by decide) ?_
      exact to_iret (pc := 27) hr dX10_better_27
    refine to_iload_n (pc := 20) X dX10_better_20 rfl ?_
    refine to_iconst (pc := 21) X dX10_better_21 (by decide) ?_
    refine to_icmp_le (pc := 22) (tgt := 28) X dX10_better_22 (by decide) ?_ ?_
    · refine to_aload_n (pc := 28) X dX10_better_28 rfl ?_
      refine to_iload_n (pc := 29) X dX10_better_29 rfl ?_
      refine to_iload_n (pc := 30) X dX10_better_30 rfl ?_
      refine cvX10_countWins (pc := 31) X wm_RX10_314 (by decide) dX10_better_31 ?_
      exact okX10_better_34 X hr
    refine to_bipush (pc := 25) X dX10_better_25 (by decide) ?_
    exact to_iret (pc := 27) hr dX10_better_27
  refine to_iconst (pc := 14) X dX10_better_14 (by decide) ?_
  exact to_iret (pc := 15) hr dX10_better_15
def bkX10_better_4 (P : Nat → tc_B) (q : tc_Q) : tc_B := tb_if_eq (tb_i (-1) <| tb_iret q) <| tb_iload 2 <| tb_callS 1 1 RX10_isTeller <| bkX10_better_11 P q
theorem okX10_better_4 {Z : tc_Z} {q : tc_Q} (X : tc_Cx ({ frames := 4, cells := 0, slots := 0, locals := 96 } : Room) cX10_better 4 RX10 Z) (hr : tc_Rt 0 cX10_better 4 Z q) : tc_Ok 4 Z 4 (bkX10_better_4 (tc_At 4 Z) q) := by
  unfold bkX10_better_4
  refine to_if_eq (pc := 4) (tgt := 14) X dX10_better_4 (by decide) ?_ ?_
  · refine to_iconst (pc := 14) X dX10_better_14 (by decide) ?_
    exact to_iret (pc := 15) hr dX10_better_15
  refine to_iload_n (pc := 7) X dX10_better_7 rfl ?_
  refine cvX10_isTeller (pc := 8) X wm_RX10_114 (by decide) dX10_better_8 ?_
  exact okX10_better_11 X hr
def bkX10_better_0 (P : Nat → tc_B) (q : tc_Q) : tc_B := tb_iload 1 <| tb_callS 1 1 RX10_isTeller <| bkX10_better_4 P q
theorem okX10_better_0 {Z : tc_Z} {q : tc_Q} (X : tc_Cx ({ frames := 4, cells := 0, slots := 0, locals := 96 } : Room) cX10_better 4 RX10 Z) (hr : tc_Rt 0 cX10_better 4 Z q) : tc_Ok 4 Z 0 (bkX10_better_0 (tc_At 4 Z) q) := by
  unfold bkX10_better_0
  refine to_iload_n (pc := 0) X dX10_better_0 rfl ?_
  refine cvX10_isTeller (pc := 1) X wm_RX10_114 (by decide) dX10_better_1 ?_
  exact okX10_better_4 X hr
def RX10_better (vs : List tc_V) (S : tc_S) (q : tc_Q) : Prop := ∀ P : Nat → tc_B, bkX10_better_0 P q (tc_num 0 vs) [] S
theorem metX10_better : tc_Met yX10_better (Cond.code yX10_better cX10_better 4 (some .int)) ({ frames := 4, cells := 0, slots := 0, locals := 96 } : Room) 0 4 RX10_better := tc_met (rk := 0) (by decide) ⟨rfl, rfl⟩ (fun Z q X hr vs S h => okX10_better_0 X hr _ _ _ (h (tc_At 4 Z)))
theorem cvX10_better {R : Room} {cc : ByteArray} {nL pc ix : Nat} {own : String} {Z : tc_Z} {k : tc_B} (X : tc_Cx R cc nL own Z) (h1 : Cond.methodLink own ix yX10_better ∈ tc_tb) (hR : 4 + 1 ≤ R.frames ∧ 8 + (4 + 11) + 96 ≤ R.locals) (hd : decode cc pc = .ok (.invokevirtual ix, 3)) (h : tc_Ok nL Z (pc + 3) k) : tc_Ok nL Z pc (tb_callV 3 4 8 RX10_better k) := to_callV X metX10_better rfl ⟨rfl, rfl⟩ hR h1 wi_X10_better wl_X10_better wn_RX10 wc_X10_better ⟨by decide +kernel, by decide +kernel, by decide +kernel, by decide +kernel⟩ hd h
def bkX10_waysWithAtLeast_45 (P : Nat → tc_B) (q : tc_Q) : tc_B := tb_lload 4 <| tb_jret q
theorem okX10_waysWithAtLeast_45 {Z : tc_Z} {q : tc_Q} (X : tc_Cx ({ frames := 0, cells := 0, slots := 0, locals := 0 } : Room) cX10_waysWithAtLeast 7 RX10 Z) (hr : tc_Rt 2 cX10_waysWithAtLeast 7 Z q) : tc_Ok 7 Z 45 (bkX10_waysWithAtLeast_45 (tc_At 7 Z) q) := by
  unfold bkX10_waysWithAtLeast_45
  refine to_lload (pc := 45) X dX10_waysWithAtLeast_45 ?_
  exact to_jret (pc := 47) hr dX10_waysWithAtLeast_47
def bkX10_waysWithAtLeast_8 (P : Nat → tc_B) (q : tc_Q) : tc_B := tb_iload 6 <| tb_iload 0 <| tb_icmp_lt (tb_cut (P 45) [4]) <| tb_iload 6 <| tb_if_lt (tb_cut (P 45) [4]) <| tb_lload 4 <| tb_lload 2 <| tb_ladd <| tb_lstore 4 <| tb_lload 2 <| tb_iload 6 <| tb_i2l <| tb_lmul <| tb_iload 1 <| tb_iload 6 <| tb_isub <| tb_i 1 <| tb_iadd <| tb_i2l <| tb_ldiv <| tb_lstore 2 <| tb_iinc 6 (-1) <| tb_cut (P 8) [0, 1, 2, 4, 6]
theorem okX10_waysWithAtLeast_8 {Z : tc_Z} {q : tc_Q} (X : tc_Cx ({ frames := 0, cells := 0, slots := 0, locals := 0 } : Room) cX10_waysWithAtLeast 7 RX10 Z) (hr : tc_Rt 2 cX10_waysWithAtLeast 7 Z q) : tc_Ok 7 Z 8 (bkX10_waysWithAtLeast_8 (tc_At 7 Z) q) := by
  unfold bkX10_waysWithAtLeast_8
  refine to_iload (pc := 8) X dX10_waysWithAtLeast_8 ?_
  refine to_iload_n (pc := 10) X dX10_waysWithAtLeast_10 rfl ?_
  refine to_icmp_lt (pc := 11) (tgt := 45) X dX10_waysWithAtLeast_11 (by decide) ?_ ?_
  · exact to_cut [4] (fun _ _ _ h => h)
  refine to_iload (pc := 14) X dX10_waysWithAtLeast_14 ?_
  refine to_if_lt (pc := 16) (tgt := 45) X dX10_waysWithAtLeast_16 (by decide) ?_ ?_
  · exact to_cut [4] (fun _ _ _ h => h)
  refine to_lload (pc := 19) X dX10_waysWithAtLeast_19 ?_
  refine to_lload_n (pc := 21) X dX10_waysWithAtLeast_21 rfl ?_
  refine to_ladd (pc := 22) X dX10_waysWithAtLeast_22 ?_
  refine to_lstore (pc := 23) X dX10_waysWithAtLeast_23 (by decide) ?_
  refine to_lload_n (pc := 25) X dX10_waysWithAtLeast_25 rfl ?_
  refine to_iload (pc := 26) X dX10_waysWithAtLeast_26 ?_
  refine to_i2l (pc := 28) X dX10_waysWithAtLeast_28 ?_
  refine to_lmul (pc := 29) X dX10_waysWithAtLeast_29 ?_
  refine to_iload_n (pc := 30) X dX10_waysWithAtLeast_30 rfl ?_
  refine to_iload (pc := 31) X dX10_waysWithAtLeast_31 ?_
  refine to_isub (pc := 33) X dX10_waysWithAtLeast_33 ?_
  refine to_iconst (pc := 34) X dX10_waysWithAtLeast_34 (by decide) ?_
  refine to_iadd (pc := 35) X dX10_waysWithAtLeast_35 ?_
  refine to_i2l (pc := 36) X dX10_waysWithAtLeast_36 ?_
  refine to_ldiv (pc := 37) X dX10_waysWithAtLeast_37 ?_
  refine to_lstore_n (pc := 38) X dX10_waysWithAtLeast_38 rfl (by decide) ?_
  refine to_iinc (pc := 39) X dX10_waysWithAtLeast_39 (by decide) (by decide) ?_
  refine to_goto (pc := 42) (tgt := 8) X dX10_waysWithAtLeast_42 (by decide) ?_
  exact to_cut [0, 1, 2, 4, 6] (fun _ _ _ h => h)
def bkX10_waysWithAtLeast_0 (P : Nat → tc_B) (q : tc_Q) : tc_B := tb_j 1 <| tb_lstore 2 <| tb_j 0 <| tb_lstore 4 <| tb_iload 1 <| tb_istore 6 <| tb_cut (P 8) [0, 1, 2, 4, 6]
theorem okX10_waysWithAtLeast_0 {Z : tc_Z} {q : tc_Q} (X : tc_Cx ({ frames := 0, cells := 0, slots := 0, locals := 0 } : Room) cX10_waysWithAtLeast 7 RX10 Z) (hr : tc_Rt 2 cX10_waysWithAtLeast 7 Z q) : tc_Ok 7 Z 0 (bkX10_waysWithAtLeast_0 (tc_At 7 Z) q) := by
  unfold bkX10_waysWithAtLeast_0
  refine to_lconst (pc := 0) X dX10_waysWithAtLeast_0 (by decide) ?_
  refine to_lstore_n (pc := 1) X dX10_waysWithAtLeast_1 rfl (by decide) ?_
  refine to_lconst (pc := 2) X dX10_waysWithAtLeast_2 (by decide) ?_
  refine to_lstore (pc := 3) X dX10_waysWithAtLeast_3 (by decide) ?_
  refine to_iload_n (pc := 5) X dX10_waysWithAtLeast_5 rfl ?_
  refine to_istore (pc := 6) X dX10_waysWithAtLeast_6 (by decide) ?_
  exact to_cut [0, 1, 2, 4, 6] (fun _ _ _ h => h)
def RX10_waysWithAtLeast (vs : List tc_V) (S : tc_S) (q : tc_Q) : Prop := ∀ P : Nat → tc_B, (∀ L K S, bkX10_waysWithAtLeast_8 P q L K S → P 8 L K S) → (∀ L K S, bkX10_waysWithAtLeast_45 P q L K S → P 45 L K S) → bkX10_waysWithAtLeast_0 P q (tc_num 0 vs) [] S
theorem metX10_waysWithAtLeast : tc_Met yX10_waysWithAtLeast (Cond.code yX10_waysWithAtLeast cX10_waysWithAtLeast 7 (some .long)) ({ frames := 0, cells := 0, slots := 0, locals := 0 } : Room) 2 7 RX10_waysWithAtLeast := tc_met (rk := 2) (by decide) ⟨rfl, rfl⟩ (fun Z q X hr vs S h => okX10_waysWithAtLeast_0 X hr _ _ _ (h (tc_At 7 Z) (okX10_waysWithAtLeast_8 X hr) (okX10_waysWithAtLeast_45 X hr)))
theorem cvX10_waysWithAtLeast {R : Room} {cc : ByteArray} {nL pc ix : Nat} {own : String} {Z : tc_Z} {k : tc_B} (X : tc_Cx R cc nL own Z) (h1 : Cond.methodLink own ix yX10_waysWithAtLeast ∈ tc_tb) (hR : 0 + 1 ≤ R.frames ∧ 8 + (7 + 11) + 0 ≤ R.locals) (hd : decode cc pc = .ok (.invokestatic ix, 3)) (h : tc_Ok nL Z (pc + 3) k) : tc_Ok nL Z pc (tb_callS 2 7 RX10_waysWithAtLeast k) := to_callS X metX10_waysWithAtLeast ⟨rfl, rfl⟩ hR h1 ws_X10_waysWithAtLeast wn_RX10 wc_X10_waysWithAtLeast ⟨by decide +kernel, by decide +kernel, by decide +kernel⟩ hd h
def bkX10_luck_89 (P : Nat → tc_B) (q : tc_Q) : tc_B := tb_jret q
theorem okX10_luck_89 {Z : tc_Z} {q : tc_Q} (X : tc_Cx ({ frames := 4, cells := 0, slots := 0, locals := 96 } : Room) cX10_luck 6 RX10 Z) (hr : tc_Rt 2 cX10_luck 6 Z q) : tc_Ok 6 Z 89 (bkX10_luck_89 (tc_At 6 Z) q) := by
  unfold bkX10_luck_89
  exact to_jret (pc := 89) hr dX10_luck_89
def bkX10_luck_81 (P : Nat → tc_B) (q : tc_Q) : tc_B := tb_aload 0 <| tb_getf 8 6 <| tb_iload 3 <| tb_callV 1 2 3 RX4_pick <| bkX10_luck_89 P q
theorem okX10_luck_81 {Z : tc_Z} {q : tc_Q} (X : tc_Cx ({ frames := 4, cells := 0, slots := 0, locals := 96 } : Room) cX10_luck 6 RX10 Z) (hr : tc_Rt 2 cX10_luck 6 Z q) : tc_Ok 6 Z 81 (bkX10_luck_81 (tc_At 6 Z) q) := by
  unfold bkX10_luck_81
  refine to_aload_n (pc := 81) X dX10_luck_81 rfl ?_
  refine gfX10_6 (pc := 82) X wf_RX10_56 dX10_luck_82 ?_
  refine to_iload_n (pc := 85) X dX10_luck_85 rfl ?_
  refine cvX4_pick (pc := 86) X wm_RX10_222 (by decide) dX10_luck_86 ?_
  exact okX10_luck_89 X hr
def bkX10_luck_74 (P : Nat → tc_B) (q : tc_Q) : tc_B := tb_j 1 <| tb_iload 4 <| tb_lshl <| tb_callV 2 7 3 RX4_become <| bkX10_luck_81 P q
theorem okX10_luck_74 {Z : tc_Z} {q : tc_Q} (X : tc_Cx ({ frames := 4, cells := 0, slots := 0, locals := 96 } : Room) cX10_luck 6 RX10 Z) (hr : tc_Rt 2 cX10_luck 6 Z q) : tc_Ok 6 Z 74 (bkX10_luck_74 (tc_At 6 Z) q) := by
  unfold bkX10_luck_74
  refine to_lconst (pc := 74) X dX10_luck_74 (by decide) ?_
  refine to_iload (pc := 75) X dX10_luck_75 ?_
  refine to_lshl (pc := 77) X dX10_luck_77 ?_
  refine cvX4_become (pc := 78) X wm_RX10_246 (by decide) dX10_luck_78 ?_
  exact okX10_luck_81 X hr
def bkX10_luck_31 (P : Nat → tc_B) (q : tc_Q) : tc_B := tb_aload 0 <| tb_getf 8 11 <| tb_i 0 <| tb_iald <| tb_aload 0 <| tb_getf 8 11 <| tb_i 1 <| tb_iald <| tb_iadd <| tb_istore 4 <| tb_aload 0 <| tb_getf 8 11 <| tb_i 0 <| tb_iald <| tb_aload 0 <| tb_getf 8 11 <| tb_i 1 <| tb_iald <| tb_mmax <| tb_istore 5 <| tb_aload 0 <| tb_getf 8 6 <| tb_iload 5 <| tb_iload 4 <| tb_callS 2 7 RX10_waysWithAtLeast <| bkX10_luck_74 P q
theorem okX10_luck_31 {Z : tc_Z} {q : tc_Q} (X : tc_Cx ({ frames := 4, cells := 0, slots := 0, locals := 96 } : Room) cX10_luck 6 RX10 Z) (hr : tc_Rt 2 cX10_luck 6 Z q) : tc_Ok 6 Z 31 (bkX10_luck_31 (tc_At 6 Z) q) := by
  unfold bkX10_luck_31
  refine to_aload_n (pc := 31) X dX10_luck_31 rfl ?_
  refine gfX10_11 (pc := 32) X wf_RX10_78 dX10_luck_32 ?_
  refine to_iconst (pc := 35) X dX10_luck_35 (by decide) ?_
  refine to_iald (pc := 36) X dX10_luck_36 ?_
  refine to_aload_n (pc := 37) X dX10_luck_37 rfl ?_
  refine gfX10_11 (pc := 38) X wf_RX10_78 dX10_luck_38 ?_
  refine to_iconst (pc := 41) X dX10_luck_41 (by decide) ?_
  refine to_iald (pc := 42) X dX10_luck_42 ?_
  refine to_iadd (pc := 43) X dX10_luck_43 ?_
  refine to_istore (pc := 44) X dX10_luck_44 (by decide) ?_
  refine to_aload_n (pc := 46) X dX10_luck_46 rfl ?_
  refine gfX10_11 (pc := 47) X wf_RX10_78 dX10_luck_47 ?_
  refine to_iconst (pc := 50) X dX10_luck_50 (by decide) ?_
  refine to_iald (pc := 51) X dX10_luck_51 ?_
  refine to_aload_n (pc := 52) X dX10_luck_52 rfl ?_
  refine gfX10_11 (pc := 53) X wf_RX10_78 dX10_luck_53 ?_
  refine to_iconst (pc := 56) X dX10_luck_56 (by decide) ?_
  refine to_iald (pc := 57) X dX10_luck_57 ?_
  refine to_mmax (pc := 58) X (by decide) wm_RX10_150 wx_mmax_1 wx_mmax_2 wx_mmax_3 dX10_luck_58 ?_
  refine to_istore (pc := 61) X dX10_luck_61 (by decide) ?_
  refine to_aload_n (pc := 63) X dX10_luck_63 rfl ?_
  refine gfX10_6 (pc := 64) X wf_RX10_56 dX10_luck_64 ?_
  refine to_iload (pc := 67) X dX10_luck_67 ?_
  refine to_iload (pc := 69) X dX10_luck_69 ?_
  refine cvX10_waysWithAtLeast (pc := 71) X wm_RX10_318 (by decide) dX10_luck_71 ?_
  exact okX10_luck_74 X hr
def bkX10_luck_18 (P : Nat → tc_B) (q : tc_Q) : tc_B := tb_if_ne (tb_aload 0 <| tb_iload 1 <| tb_iload 2 <| tb_callV 2 8 8 RX10_countWins <| bkX10_luck_31 P q) <| tb_j (-9223372036854775808) <| tb_jret q
theorem okX10_luck_18 {Z : tc_Z} {q : tc_Q} (X : tc_Cx ({ frames := 4, cells := 0, slots := 0, locals := 96 } : Room) cX10_luck 6 RX10 Z) (hr : tc_Rt 2 cX10_luck 6 Z q) : tc_Ok 6 Z 18 (bkX10_luck_18 (tc_At 6 Z) q) := by
  unfold bkX10_luck_18
  refine to_if_ne (pc := 18) (tgt := 25) X dX10_luck_18 (by decide) ?_ ?_
  · refine to_aload_n (pc := 25) X dX10_luck_25 rfl ?_
    refine to_iload_n (pc := 26) X dX10_luck_26 rfl ?_
    refine to_iload_n (pc := 27) X dX10_luck_27 rfl ?_
    refine cvX10_countWins (pc := 28) X wm_RX10_314 (by decide) dX10_luck_28 ?_
    exact okX10_luck_31 X hr
  refine to_ldc2 (pc := 21) X wj_RX10_220 dX10_luck_21 ?_
  exact to_jret (pc := 24) hr dX10_luck_24
def bkX10_luck_11 (P : Nat → tc_B) (q : tc_Q) : tc_B := tb_if_eq (tb_j (-9223372036854775808) <| tb_jret q) <| tb_iload 3 <| tb_callS 1 1 RX10_isWhich <| bkX10_luck_18 P q
theorem okX10_luck_11 {Z : tc_Z} {q : tc_Q} (X : tc_Cx ({ frames := 4, cells := 0, slots := 0, locals := 96 } : Room) cX10_luck 6 RX10 Z) (hr : tc_Rt 2 cX10_luck 6 Z q) : tc_Ok 6 Z 11 (bkX10_luck_11 (tc_At 6 Z) q) := by
  unfold bkX10_luck_11
  refine to_if_eq (pc := 11) (tgt := 21) X dX10_luck_11 (by decide) ?_ ?_
  · refine to_ldc2 (pc := 21) X wj_RX10_220 dX10_luck_21 ?_
    exact to_jret (pc := 24) hr dX10_luck_24
  refine to_iload_n (pc := 14) X dX10_luck_14 rfl ?_
  refine cvX10_isWhich (pc := 15) X wm_RX10_214 (by decide) dX10_luck_15 ?_
  exact okX10_luck_18 X hr
def bkX10_luck_4 (P : Nat → tc_B) (q : tc_Q) : tc_B := tb_if_eq (tb_j (-9223372036854775808) <| tb_jret q) <| tb_iload 2 <| tb_callS 1 1 RX10_isTeller <| bkX10_luck_11 P q
theorem okX10_luck_4 {Z : tc_Z} {q : tc_Q} (X : tc_Cx ({ frames := 4, cells := 0, slots := 0, locals := 96 } : Room) cX10_luck 6 RX10 Z) (hr : tc_Rt 2 cX10_luck 6 Z q) : tc_Ok 6 Z 4 (bkX10_luck_4 (tc_At 6 Z) q) := by
  unfold bkX10_luck_4
  refine to_if_eq (pc := 4) (tgt := 21) X dX10_luck_4 (by decide) ?_ ?_
  · refine to_ldc2 (pc := 21) X wj_RX10_220 dX10_luck_21 ?_
    exact to_jret (pc := 24) hr dX10_luck_24
  refine to_iload_n (pc := 7) X dX10_luck_7 rfl ?_
  refine cvX10_isTeller (pc := 8) X wm_RX10_114 (by decide) dX10_luck_8 ?_
  exact okX10_luck_11 X hr
def bkX10_luck_0 (P : Nat → tc_B) (q : tc_Q) : tc_B := tb_iload 1 <| tb_callS 1 1 RX10_isTeller <| bkX10_luck_4 P q
theorem okX10_luck_0 {Z : tc_Z} {q : tc_Q} (X : tc_Cx ({ frames := 4, cells := 0, slots := 0, locals := 96 } : Room) cX10_luck 6 RX10 Z) (hr : tc_Rt 2 cX10_luck 6 Z q) : tc_Ok 6 Z 0 (bkX10_luck_0 (tc_At 6 Z) q) := by
  unfold bkX10_luck_0
  refine to_iload_n (pc := 0) X dX10_luck_0 rfl ?_
  refine cvX10_isTeller (pc := 1) X wm_RX10_114 (by decide) dX10_luck_1 ?_
  exact okX10_luck_4 X hr
def RX10_luck (vs : List tc_V) (S : tc_S) (q : tc_Q) : Prop := ∀ P : Nat → tc_B, bkX10_luck_0 P q (tc_num 0 vs) [] S
theorem metX10_luck : tc_Met yX10_luck (Cond.code yX10_luck cX10_luck 6 (some .long)) ({ frames := 4, cells := 0, slots := 0, locals := 96 } : Room) 2 6 RX10_luck := tc_met (rk := 2) (by decide) ⟨rfl, rfl⟩ (fun Z q X hr vs S h => okX10_luck_0 X hr _ _ _ (h (tc_At 6 Z)))
theorem cvX10_luck {R : Room} {cc : ByteArray} {nL pc ix : Nat} {own : String} {Z : tc_Z} {k : tc_B} (X : tc_Cx R cc nL own Z) (h1 : Cond.methodLink own ix yX10_luck ∈ tc_tb) (hR : 4 + 1 ≤ R.frames ∧ 8 + (6 + 11) + 96 ≤ R.locals) (hd : decode cc pc = .ok (.invokevirtual ix, 3)) (h : tc_Ok nL Z (pc + 3) k) : tc_Ok nL Z pc (tb_callV 3 6 8 RX10_luck k) := to_callV X metX10_luck rfl ⟨rfl, rfl⟩ hR h1 wi_X10_luck wl_X10_luck wn_RX10 wc_X10_luck ⟨by decide +kernel, by decide +kernel, by decide +kernel, by decide +kernel⟩ hd h
def bkX10_signOf_20 (P : Nat → tc_B) (q : tc_Q) : tc_B := tb_iload 1 <| tb_icmp_ne (tb_i 45 <| tb_iret q) <| tb_i 43 <| tb_iret q
theorem okX10_signOf_20 {Z : tc_Z} {q : tc_Q} (X : tc_Cx ({ frames := 0, cells := 0, slots := 0, locals := 0 } : Room) cX10_signOf 2 RX10 Z) (hr : tc_Rt 0 cX10_signOf 2 Z q) : tc_Ok 2 Z 20 (bkX10_signOf_20 (tc_At 2 Z) q) := by
  unfold bkX10_signOf_20
  refine to_iload_n (pc := 20) X dX10_signOf_20 rfl ?_
  refine to_icmp_ne (pc := 21) (tgt := 29) X dX10_signOf_21 (by decide) ?_ ?_
  · refine to_bipush (pc := 29) X dX10_signOf_29 (by decide) ?_
    exact to_iret (pc := 31) hr dX10_signOf_31
  refine to_bipush (pc := 24) X dX10_signOf_24 (by decide) ?_
  refine to_goto (pc := 26) (tgt := 31) X dX10_signOf_26 (by decide) ?_
  exact to_iret (pc := 31) hr dX10_signOf_31
def bkX10_signOf_0 (P : Nat → tc_B) (q : tc_Q) : tc_B := tb_iload 0 <| tb_i 50 <| tb_icmp_ne (tb_iload 0 <| tb_i 50 <| tb_icmp_le (tb_i 0 <| tb_cut (P 20) [1]) <| tb_i 1 <| tb_cut (P 20) [1]) <| tb_i 61 <| tb_iret q
theorem okX10_signOf_0 {Z : tc_Z} {q : tc_Q} (X : tc_Cx ({ frames := 0, cells := 0, slots := 0, locals := 0 } : Room) cX10_signOf 2 RX10 Z) (hr : tc_Rt 0 cX10_signOf 2 Z q) : tc_Ok 2 Z 0 (bkX10_signOf_0 (tc_At 2 Z) q) := by
  unfold bkX10_signOf_0
  refine to_iload_n (pc := 0) X dX10_signOf_0 rfl ?_
  refine to_bipush (pc := 1) X dX10_signOf_1 (by decide) ?_
  refine to_icmp_ne (pc := 3) (tgt := 9) X dX10_signOf_3 (by decide) ?_ ?_
  · refine to_iload_n (pc := 9) X dX10_signOf_9 rfl ?_
    refine to_bipush (pc := 10) X dX10_signOf_10 (by decide) ?_
    refine to_icmp_le (pc := 12) (tgt := 19) X dX10_signOf_12 (by decide) ?_ ?_
    · refine to_iconst (pc := 19) X dX10_signOf_19 (by decide) ?_
      exact to_cut [1] (fun _ _ _ h => h)
    refine to_iconst (pc := 15) X dX10_signOf_15 (by decide) ?_
    refine to_goto (pc := 16) (tgt := 20) X dX10_signOf_16 (by decide) ?_
    exact to_cut [1] (fun _ _ _ h => h)
  refine to_bipush (pc := 6) X dX10_signOf_6 (by decide) ?_
  exact to_iret (pc := 8) hr dX10_signOf_8
def RX10_signOf (vs : List tc_V) (S : tc_S) (q : tc_Q) : Prop := ∀ P : Nat → tc_B, (∀ L K S, bkX10_signOf_20 P q L K S → P 20 L K S) → bkX10_signOf_0 P q (tc_num 0 vs) [] S
theorem metX10_signOf : tc_Met yX10_signOf (Cond.code yX10_signOf cX10_signOf 2 (some .int)) ({ frames := 0, cells := 0, slots := 0, locals := 0 } : Room) 0 2 RX10_signOf := tc_met (rk := 0) (by decide) ⟨rfl, rfl⟩ (fun Z q X hr vs S h => okX10_signOf_0 X hr _ _ _ (h (tc_At 2 Z) (okX10_signOf_20 X hr)))
theorem cvX10_signOf {R : Room} {cc : ByteArray} {nL pc ix : Nat} {own : String} {Z : tc_Z} {k : tc_B} (X : tc_Cx R cc nL own Z) (h1 : Cond.methodLink own ix yX10_signOf ∈ tc_tb) (hR : 0 + 1 ≤ R.frames ∧ 8 + (2 + 11) + 0 ≤ R.locals) (hd : decode cc pc = .ok (.invokestatic ix, 3)) (h : tc_Ok nL Z (pc + 3) k) : tc_Ok nL Z pc (tb_callS 2 2 RX10_signOf k) := to_callS X metX10_signOf ⟨rfl, rfl⟩ hR h1 ws_X10_signOf wn_RX10 wc_X10_signOf ⟨by decide +kernel, by decide +kernel, by decide +kernel⟩ hd h
def bkX10_writeReport_166 (P : Nat → tc_B) (q : tc_Q) : tc_B := tb_iinc 2 1 <| tb_cut (P 127) [0, 2]
theorem okX10_writeReport_166 {Z : tc_Z} {q : tc_Q} (X : tc_Cx ({ frames := 5, cells := 0, slots := 0, locals := 113 } : Room) cX10_writeReport 3 RX10 Z) (hr : tc_Rt 3 cX10_writeReport 3 Z q) : tc_Ok 3 Z 166 (bkX10_writeReport_166 (tc_At 3 Z) q) := by
  unfold bkX10_writeReport_166
  refine to_iinc (pc := 166) X dX10_writeReport_166 (by decide) (by decide) ?_
  refine to_goto (pc := 169) (tgt := 127) X dX10_writeReport_169 (by decide) ?_
  exact to_cut [0, 2] (fun _ _ _ h => h)
def bkX10_writeReport_163 (P : Nat → tc_B) (q : tc_Q) : tc_B := tb_callV 1 2 5 RX6_put <| bkX10_writeReport_166 P q
theorem okX10_writeReport_163 {Z : tc_Z} {q : tc_Q} (X : tc_Cx ({ frames := 5, cells := 0, slots := 0, locals := 113 } : Room) cX10_writeReport 3 RX10 Z) (hr : tc_Rt 3 cX10_writeReport 3 Z q) : tc_Ok 3 Z 163 (bkX10_writeReport_163 (tc_At 3 Z) q) := by
  unfold bkX10_writeReport_163
  refine cvX6_put (pc := 163) X wm_RX10_355 (by decide) dX10_writeReport_163 ?_
  exact okX10_writeReport_166 X hr
def bkX10_writeReport_127 (P : Nat → tc_B) (q : tc_Q) : tc_B := tb_iload 2 <| tb_aload 0 <| tb_getf 8 3 <| tb_getf 2 2 <| tb_icmp_ge (tb_vret q) <| tb_aload 0 <| tb_getf 8 8 <| tb_aload 0 <| tb_getf 8 3 <| tb_getf 2 0 <| tb_iload 2 <| tb_iald <| tb_aload 0 <| tb_getf 8 3 <| tb_getf 2 1 <| tb_iload 2 <| tb_zald <| tb_callS 2 2 RX10_signOf <| bkX10_writeReport_163 P q
theorem okX10_writeReport_127 {Z : tc_Z} {q : tc_Q} (X : tc_Cx ({ frames := 5, cells := 0, slots := 0, locals := 113 } : Room) cX10_writeReport 3 RX10 Z) (hr : tc_Rt 3 cX10_writeReport 3 Z q) : tc_Ok 3 Z 127 (bkX10_writeReport_127 (tc_At 3 Z) q) := by
  unfold bkX10_writeReport_127
  refine to_iload_n (pc := 127) X dX10_writeReport_127 rfl ?_
  refine to_aload_n (pc := 128) X dX10_writeReport_128 rfl ?_
  refine gfX10_3 (pc := 129) X wf_RX10_35 dX10_writeReport_129 ?_
  refine gfX2_2 (pc := 132) X wf_RX10_230 dX10_writeReport_132 ?_
  refine to_icmp_ge (pc := 135) (tgt := 172) X dX10_writeReport_135 (by decide) ?_ ?_
  · exact to_vret (pc := 172) hr dX10_writeReport_172
  refine to_aload_n (pc := 138) X dX10_writeReport_138 rfl ?_
  refine gfX10_8 (pc := 139) X wf_RX10_66 dX10_writeReport_139 ?_
  refine to_aload_n (pc := 142) X dX10_writeReport_142 rfl ?_
  refine gfX10_3 (pc := 143) X wf_RX10_35 dX10_writeReport_143 ?_
  refine gfX2_0 (pc := 146) X wf_RX10_365 dX10_writeReport_146 ?_
  refine to_iload_n (pc := 149) X dX10_writeReport_149 rfl ?_
  refine to_iald (pc := 150) X dX10_writeReport_150 ?_
  refine to_aload_n (pc := 151) X dX10_writeReport_151 rfl ?_
  refine gfX10_3 (pc := 152) X wf_RX10_35 dX10_writeReport_152 ?_
  refine gfX2_1 (pc := 155) X wf_RX10_368 dX10_writeReport_155 ?_
  refine to_iload_n (pc := 158) X dX10_writeReport_158 rfl ?_
  refine to_zald (pc := 159) X dX10_writeReport_159 ?_
  refine cvX10_signOf (pc := 160) X wm_RX10_372 (by decide) dX10_writeReport_160 ?_
  exact okX10_writeReport_163 X hr
def bkX10_writeReport_125 (P : Nat → tc_B) (q : tc_Q) : tc_B := tb_i 0 <| tb_istore 2 <| tb_cut (P 127) [0, 2]
theorem okX10_writeReport_125 {Z : tc_Z} {q : tc_Q} (X : tc_Cx ({ frames := 5, cells := 0, slots := 0, locals := 113 } : Room) cX10_writeReport 3 RX10 Z) (hr : tc_Rt 3 cX10_writeReport 3 Z q) : tc_Ok 3 Z 125 (bkX10_writeReport_125 (tc_At 3 Z) q) := by
  unfold bkX10_writeReport_125
  refine to_iconst (pc := 125) X dX10_writeReport_125 (by decide) ?_
  refine to_istore_n (pc := 126) X dX10_writeReport_126 rfl (by decide) ?_
  exact to_cut [0, 2] (fun _ _ _ h => h)
def bkX10_writeReport_116 (P : Nat → tc_B) (q : tc_Q) : tc_B := tb_aload 0 <| tb_getf 8 8 <| tb_i 32 <| tb_callV 1 2 5 RX6_put <| bkX10_writeReport_125 P q
theorem okX10_writeReport_116 {Z : tc_Z} {q : tc_Q} (X : tc_Cx ({ frames := 5, cells := 0, slots := 0, locals := 113 } : Room) cX10_writeReport 3 RX10 Z) (hr : tc_Rt 3 cX10_writeReport 3 Z q) : tc_Ok 3 Z 116 (bkX10_writeReport_116 (tc_At 3 Z) q) := by
  unfold bkX10_writeReport_116
  refine to_aload_n (pc := 116) X dX10_writeReport_116 rfl ?_
  refine gfX10_8 (pc := 117) X wf_RX10_66 dX10_writeReport_117 ?_
  refine to_bipush (pc := 120) X dX10_writeReport_120 (by decide) ?_
  refine cvX6_put (pc := 122) X wm_RX10_355 (by decide) dX10_writeReport_122 ?_
  exact okX10_writeReport_125 X hr
def bkX10_writeReport_104 (P : Nat → tc_B) (q : tc_Q) : tc_B := tb_cut (P 116) [0]
theorem okX10_writeReport_104 {Z : tc_Z} {q : tc_Q} (X : tc_Cx ({ frames := 5, cells := 0, slots := 0, locals := 113 } : Room) cX10_writeReport 3 RX10 Z) (hr : tc_Rt 3 cX10_writeReport 3 Z q) : tc_Ok 3 Z 104 (bkX10_writeReport_104 (tc_At 3 Z) q) := by
  unfold bkX10_writeReport_104
  refine to_goto (pc := 104) (tgt := 116) X dX10_writeReport_104 (by decide) ?_
  exact to_cut [0] (fun _ _ _ h => h)
def bkX10_writeReport_90 (P : Nat → tc_B) (q : tc_Q) : tc_B := tb_aload 0 <| tb_getf 8 8 <| tb_aload 0 <| tb_getf 8 6 <| tb_getf 3 1 <| tb_callV 1 6 5 RX6_putNumber <| bkX10_writeReport_104 P q
theorem okX10_writeReport_90 {Z : tc_Z} {q : tc_Q} (X : tc_Cx ({ frames := 5, cells := 0, slots := 0, locals := 113 } : Room) cX10_writeReport 3 RX10 Z) (hr : tc_Rt 3 cX10_writeReport 3 Z q) : tc_Ok 3 Z 90 (bkX10_writeReport_90 (tc_At 3 Z) q) := by
  unfold bkX10_writeReport_90
  refine to_aload_n (pc := 90) X dX10_writeReport_90 rfl ?_
  refine gfX10_8 (pc := 91) X wf_RX10_66 dX10_writeReport_91 ?_
  refine to_aload_n (pc := 94) X dX10_writeReport_94 rfl ?_
  refine gfX10_6 (pc := 95) X wf_RX10_56 dX10_writeReport_95 ?_
  refine gfX4_1 (pc := 98) X wf_RX10_326 dX10_writeReport_98 ?_
  refine cvX6_putNumber (pc := 101) X wm_RX10_361 (by decide) dX10_writeReport_101 ?_
  exact okX10_writeReport_104 X hr
def bkX10_writeReport_81 (P : Nat → tc_B) (q : tc_Q) : tc_B := tb_aload 0 <| tb_getf 8 8 <| tb_i 47 <| tb_callV 1 2 5 RX6_put <| bkX10_writeReport_90 P q
theorem okX10_writeReport_81 {Z : tc_Z} {q : tc_Q} (X : tc_Cx ({ frames := 5, cells := 0, slots := 0, locals := 113 } : Room) cX10_writeReport 3 RX10 Z) (hr : tc_Rt 3 cX10_writeReport 3 Z q) : tc_Ok 3 Z 81 (bkX10_writeReport_81 (tc_At 3 Z) q) := by
  unfold bkX10_writeReport_81
  refine to_aload_n (pc := 81) X dX10_writeReport_81 rfl ?_
  refine gfX10_8 (pc := 82) X wf_RX10_66 dX10_writeReport_82 ?_
  refine to_bipush (pc := 85) X dX10_writeReport_85 (by decide) ?_
  refine cvX6_put (pc := 87) X wm_RX10_355 (by decide) dX10_writeReport_87 ?_
  exact okX10_writeReport_90 X hr
def bkX10_writeReport_64 (P : Nat → tc_B) (q : tc_Q) : tc_B := tb_if_eq (tb_aload 0 <| tb_getf 8 8 <| tb_i 45 <| tb_callV 1 2 5 RX6_put <| tb_cut (P 116) [0]) <| tb_aload 0 <| tb_getf 8 8 <| tb_aload 0 <| tb_getf 8 6 <| tb_getf 3 0 <| tb_callV 1 6 5 RX6_putNumber <| bkX10_writeReport_81 P q
theorem okX10_writeReport_64 {Z : tc_Z} {q : tc_Q} (X : tc_Cx ({ frames := 5, cells := 0, slots := 0, locals := 113 } : Room) cX10_writeReport 3 RX10 Z) (hr : tc_Rt 3 cX10_writeReport 3 Z q) : tc_Ok 3 Z 64 (bkX10_writeReport_64 (tc_At 3 Z) q) := by
  unfold bkX10_writeReport_64
  refine to_if_eq (pc := 64) (tgt := 107) X dX10_writeReport_64 (by decide) ?_ ?_
  · refine to_aload_n (pc := 107) X dX10_writeReport_107 rfl ?_
    refine gfX10_8 (pc := 108) X wf_RX10_66 dX10_writeReport_108 ?_
    refine to_bipush (pc := 111) X dX10_writeReport_111 (by decide) ?_
    refine cvX6_put (pc := 113) X wm_RX10_355 (by decide) dX10_writeReport_113 ?_
    exact to_cut [0] (fun _ _ _ h => h)
  refine to_aload_n (pc := 67) X dX10_writeReport_67 rfl ?_
  refine gfX10_8 (pc := 68) X wf_RX10_66 dX10_writeReport_68 ?_
  refine to_aload_n (pc := 71) X dX10_writeReport_71 rfl ?_
  refine gfX10_6 (pc := 72) X wf_RX10_56 dX10_writeReport_72 ?_
  refine gfX4_0 (pc := 75) X wf_RX10_322 dX10_writeReport_75 ?_
  refine cvX6_putNumber (pc := 78) X wm_RX10_361 (by decide) dX10_writeReport_78 ?_
  exact okX10_writeReport_81 X hr
def bkX10_writeReport_59 (P : Nat → tc_B) (q : tc_Q) : tc_B := tb_aload 0 <| tb_iload 1 <| tb_callV 1 2 8 RX10_findMeanMiss <| bkX10_writeReport_64 P q
theorem okX10_writeReport_59 {Z : tc_Z} {q : tc_Q} (X : tc_Cx ({ frames := 5, cells := 0, slots := 0, locals := 113 } : Room) cX10_writeReport 3 RX10 Z) (hr : tc_Rt 3 cX10_writeReport 3 Z q) : tc_Ok 3 Z 59 (bkX10_writeReport_59 (tc_At 3 Z) q) := by
  unfold bkX10_writeReport_59
  refine to_aload_n (pc := 59) X dX10_writeReport_59 rfl ?_
  refine to_iload_n (pc := 60) X dX10_writeReport_60 rfl ?_
  refine cvX10_findMeanMiss (pc := 61) X wm_RX10_217 (by decide) dX10_writeReport_61 ?_
  exact okX10_writeReport_64 X hr
def bkX10_writeReport_50 (P : Nat → tc_B) (q : tc_Q) : tc_B := tb_aload 0 <| tb_getf 8 8 <| tb_i 32 <| tb_callV 1 2 5 RX6_put <| bkX10_writeReport_59 P q
theorem okX10_writeReport_50 {Z : tc_Z} {q : tc_Q} (X : tc_Cx ({ frames := 5, cells := 0, slots := 0, locals := 113 } : Room) cX10_writeReport 3 RX10 Z) (hr : tc_Rt 3 cX10_writeReport 3 Z q) : tc_Ok 3 Z 50 (bkX10_writeReport_50 (tc_At 3 Z) q) := by
  unfold bkX10_writeReport_50
  refine to_aload_n (pc := 50) X dX10_writeReport_50 rfl ?_
  refine gfX10_8 (pc := 51) X wf_RX10_66 dX10_writeReport_51 ?_
  refine to_bipush (pc := 54) X dX10_writeReport_54 (by decide) ?_
  refine cvX6_put (pc := 56) X wm_RX10_355 (by decide) dX10_writeReport_56 ?_
  exact okX10_writeReport_59 X hr
def bkX10_writeReport_36 (P : Nat → tc_B) (q : tc_Q) : tc_B := tb_aload 0 <| tb_getf 8 8 <| tb_aload 0 <| tb_getf 8 13 <| tb_getE 1 4 (fun i => tc_R 3 i) <| tb_callV 1 3 5 RX6_putWord <| bkX10_writeReport_50 P q
theorem okX10_writeReport_36 {Z : tc_Z} {q : tc_Q} (X : tc_Cx ({ frames := 5, cells := 0, slots := 0, locals := 113 } : Room) cX10_writeReport 3 RX10 Z) (hr : tc_Rt 3 cX10_writeReport 3 Z q) : tc_Ok 3 Z 36 (bkX10_writeReport_36 (tc_At 3 Z) q) := by
  unfold bkX10_writeReport_36
  refine to_aload_n (pc := 36) X dX10_writeReport_36 rfl ?_
  refine gfX10_8 (pc := 37) X wf_RX10_66 dX10_writeReport_37 ?_
  refine to_aload_n (pc := 40) X dX10_writeReport_40 rfl ?_
  refine gfX10_13 (pc := 41) X wf_RX10_90 dX10_writeReport_41 ?_
  refine to_getE (pc := 44) X (List.mem_of_getElem? (i := 1) rfl) wf_RX10_199 dX10_writeReport_44 ?_
  refine cvX6_putWord (pc := 47) X wm_RX10_357 (by decide) dX10_writeReport_47 ?_
  exact okX10_writeReport_50 X hr
def bkX10_writeReport_27 (P : Nat → tc_B) (q : tc_Q) : tc_B := tb_aload 0 <| tb_getf 8 8 <| tb_i 32 <| tb_callV 1 2 5 RX6_put <| bkX10_writeReport_36 P q
theorem okX10_writeReport_27 {Z : tc_Z} {q : tc_Q} (X : tc_Cx ({ frames := 5, cells := 0, slots := 0, locals := 113 } : Room) cX10_writeReport 3 RX10 Z) (hr : tc_Rt 3 cX10_writeReport 3 Z q) : tc_Ok 3 Z 27 (bkX10_writeReport_27 (tc_At 3 Z) q) := by
  unfold bkX10_writeReport_27
  refine to_aload_n (pc := 27) X dX10_writeReport_27 rfl ?_
  refine gfX10_8 (pc := 28) X wf_RX10_66 dX10_writeReport_28 ?_
  refine to_bipush (pc := 31) X dX10_writeReport_31 (by decide) ?_
  refine cvX6_put (pc := 33) X wm_RX10_355 (by decide) dX10_writeReport_33 ?_
  exact okX10_writeReport_36 X hr
def bkX10_writeReport_16 (P : Nat → tc_B) (q : tc_Q) : tc_B := tb_aload 0 <| tb_getf 8 8 <| tb_i 48 <| tb_iload 1 <| tb_iadd <| tb_callV 1 2 5 RX6_put <| bkX10_writeReport_27 P q
theorem okX10_writeReport_16 {Z : tc_Z} {q : tc_Q} (X : tc_Cx ({ frames := 5, cells := 0, slots := 0, locals := 113 } : Room) cX10_writeReport 3 RX10 Z) (hr : tc_Rt 3 cX10_writeReport 3 Z q) : tc_Ok 3 Z 16 (bkX10_writeReport_16 (tc_At 3 Z) q) := by
  unfold bkX10_writeReport_16
  refine to_aload_n (pc := 16) X dX10_writeReport_16 rfl ?_
  refine gfX10_8 (pc := 17) X wf_RX10_66 dX10_writeReport_17 ?_
  refine to_bipush (pc := 20) X dX10_writeReport_20 (by decide) ?_
  refine to_iload_n (pc := 22) X dX10_writeReport_22 rfl ?_
  refine to_iadd (pc := 23) X dX10_writeReport_23 ?_
  refine cvX6_put (pc := 24) X wm_RX10_355 (by decide) dX10_writeReport_24 ?_
  exact okX10_writeReport_27 X hr
def bkX10_writeReport_7 (P : Nat → tc_B) (q : tc_Q) : tc_B := tb_aload 0 <| tb_getf 8 8 <| tb_i 84 <| tb_callV 1 2 5 RX6_put <| bkX10_writeReport_16 P q
theorem okX10_writeReport_7 {Z : tc_Z} {q : tc_Q} (X : tc_Cx ({ frames := 5, cells := 0, slots := 0, locals := 113 } : Room) cX10_writeReport 3 RX10 Z) (hr : tc_Rt 3 cX10_writeReport 3 Z q) : tc_Ok 3 Z 7 (bkX10_writeReport_7 (tc_At 3 Z) q) := by
  unfold bkX10_writeReport_7
  refine to_aload_n (pc := 7) X dX10_writeReport_7 rfl ?_
  refine gfX10_8 (pc := 8) X wf_RX10_66 dX10_writeReport_8 ?_
  refine to_bipush (pc := 11) X dX10_writeReport_11 (by decide) ?_
  refine cvX6_put (pc := 13) X wm_RX10_355 (by decide) dX10_writeReport_13 ?_
  exact okX10_writeReport_16 X hr
def bkX10_writeReport_0 (P : Nat → tc_B) (q : tc_Q) : tc_B := tb_aload 0 <| tb_getf 8 8 <| tb_callV 0 1 5 RX6_clear <| bkX10_writeReport_7 P q
theorem okX10_writeReport_0 {Z : tc_Z} {q : tc_Q} (X : tc_Cx ({ frames := 5, cells := 0, slots := 0, locals := 113 } : Room) cX10_writeReport 3 RX10 Z) (hr : tc_Rt 3 cX10_writeReport 3 Z q) : tc_Ok 3 Z 0 (bkX10_writeReport_0 (tc_At 3 Z) q) := by
  unfold bkX10_writeReport_0
  refine to_aload_n (pc := 0) X dX10_writeReport_0 rfl ?_
  refine gfX10_8 (pc := 1) X wf_RX10_66 dX10_writeReport_1 ?_
  refine cvX6_clear (pc := 4) X wm_RX10_353 (by decide) dX10_writeReport_4 ?_
  exact okX10_writeReport_7 X hr
def RX10_writeReport (vs : List tc_V) (S : tc_S) (q : tc_Q) : Prop := ∀ P : Nat → tc_B, (∀ L K S, bkX10_writeReport_116 P q L K S → P 116 L K S) → (∀ L K S, bkX10_writeReport_127 P q L K S → P 127 L K S) → bkX10_writeReport_0 P q (tc_num 0 vs) [] S
theorem metX10_writeReport : tc_Met yX10_writeReport (Cond.code yX10_writeReport cX10_writeReport 3 none) ({ frames := 5, cells := 0, slots := 0, locals := 113 } : Room) 3 3 RX10_writeReport := tc_met (rk := 3) (by decide) ⟨rfl, rfl⟩ (fun Z q X hr vs S h => okX10_writeReport_0 X hr _ _ _ (h (tc_At 3 Z) (okX10_writeReport_116 X hr) (okX10_writeReport_127 X hr)))
theorem cvX10_writeReport {R : Room} {cc : ByteArray} {nL pc ix : Nat} {own : String} {Z : tc_Z} {k : tc_B} (X : tc_Cx R cc nL own Z) (h1 : Cond.methodLink own ix yX10_writeReport ∈ tc_tb) (hR : 5 + 1 ≤ R.frames ∧ 8 + (3 + 11) + 113 ≤ R.locals) (hd : decode cc pc = .ok (.invokevirtual ix, 3)) (h : tc_Ok nL Z (pc + 3) k) : tc_Ok nL Z pc (tb_callV 1 3 8 RX10_writeReport k) := to_callV X metX10_writeReport rfl ⟨rfl, rfl⟩ hR h1 wi_X10_writeReport wl_X10_writeReport wn_RX10 wc_X10_writeReport ⟨by decide +kernel, by decide +kernel, by decide +kernel, by decide +kernel⟩ hd h
def bkX10_report_28 (P : Nat → tc_B) (q : tc_Q) : tc_B := tb_iload 2 <| tb_i (-1) <| tb_icmp_ne (tb_iload 2 <| tb_aload 0 <| tb_getf 8 8 <| tb_getf 5 1 <| tb_icmp_ge (tb_i (-9) <| tb_iret q) <| tb_aload 0 <| tb_getf 8 8 <| tb_getf 5 0 <| tb_iload 2 <| tb_iald <| tb_iret q) <| tb_aload 0 <| tb_getf 8 8 <| tb_getf 5 1 <| tb_iret q
theorem okX10_report_28 {Z : tc_Z} {q : tc_Q} (X : tc_Cx ({ frames := 6, cells := 0, slots := 0, locals := 135 } : Room) cX10_report 3 RX10 Z) (hr : tc_Rt 0 cX10_report 3 Z q) : tc_Ok 3 Z 28 (bkX10_report_28 (tc_At 3 Z) q) := by
  unfold bkX10_report_28
  refine to_iload_n (pc := 28) X dX10_report_28 rfl ?_
  refine to_iconst (pc := 29) X dX10_report_29 (by decide) ?_
  refine to_icmp_ne (pc := 30) (tgt := 41) X dX10_report_30 (by decide) ?_ ?_
  · refine to_iload_n (pc := 41) X dX10_report_41 rfl ?_
    refine to_aload_n (pc := 42) X dX10_report_42 rfl ?_
    refine gfX10_8 (pc := 43) X wf_RX10_66 dX10_report_43 ?_
    refine gfX6_1 (pc := 46) X wf_RX10_340 dX10_report_46 ?_
    refine to_icmp_ge (pc := 49) (tgt := 64) X dX10_report_49 (by decide) ?_ ?_
    · refine to_bipush (pc := 64) X dX10_report_64 (by decide) ?_
      exact to_iret (pc := 66) hr dX10_report_66
    refine to_aload_n (pc := 52) X dX10_report_52 rfl ?_
    refine gfX10_8 (pc := 53) X wf_RX10_66 dX10_report_53 ?_
    refine gfX6_0 (pc := 56) X wf_RX10_341 dX10_report_56 ?_
    refine to_iload_n (pc := 59) X dX10_report_59 rfl ?_
    refine to_iald (pc := 60) X dX10_report_60 ?_
    refine to_goto (pc := 61) (tgt := 66) X dX10_report_61 (by decide) ?_
    exact to_iret (pc := 66) hr dX10_report_66
  refine to_aload_n (pc := 33) X dX10_report_33 rfl ?_
  refine gfX10_8 (pc := 34) X wf_RX10_66 dX10_report_34 ?_
  refine gfX6_1 (pc := 37) X wf_RX10_340 dX10_report_37 ?_
  exact to_iret (pc := 40) hr dX10_report_40
def bkX10_report_4 (P : Nat → tc_B) (q : tc_Q) : tc_B := tb_if_ne (tb_iload 2 <| tb_i (-1) <| tb_icmp_lt (tb_i (-2) <| tb_iret q) <| tb_iload 2 <| tb_i 100 <| tb_icmp_lt (tb_aload 0 <| tb_iload 1 <| tb_callV 1 3 8 RX10_writeReport <| bkX10_report_28 P q) <| tb_i (-2) <| tb_iret q) <| tb_i (-1) <| tb_iret q
theorem okX10_report_4 {Z : tc_Z} {q : tc_Q} (X : tc_Cx ({ frames := 6, cells := 0, slots := 0, locals := 135 } : Room) cX10_report 3 RX10 Z) (hr : tc_Rt 0 cX10_report 3 Z q) : tc_Ok 3 Z 4 (bkX10_report_4 (tc_At 3 Z) q) := by
  unfold bkX10_report_4
  refine to_if_ne (pc := 4) (tgt := 9) X dX10_report_4 (by decide) ?_ ?_
  · refine to_iload_n (pc := 9) X dX10_report_9 rfl ?_
    refine to_iconst (pc := 10) X dX10_report_10 (by decide) ?_
    refine to_icmp_lt (pc := 11) (tgt := 20) X dX10_report_11 (by decide) ?_ ?_
    · refine to_bipush (pc := 20) X dX10_report_20 (by decide) ?_
      exact to_iret (pc := 22) hr dX10_report_22
    refine to_iload_n (pc := 14) X dX10_report_14 rfl ?_
    refine to_bipush (pc := 15) X dX10_report_15 (by decide) ?_
    refine to_icmp_lt (pc := 17) (tgt := 23) X dX10_report_17 (by decide) ?_ ?_
    · refine to_aload_n (pc := 23) X dX10_report_23 rfl ?_
      refine to_iload_n (pc := 24) X dX10_report_24 rfl ?_
      refine cvX10_writeReport (pc := 25) X wm_RX10_336 (by decide) dX10_report_25 ?_
      exact okX10_report_28 X hr
    refine to_bipush (pc := 20) X dX10_report_20 (by decide) ?_
    exact to_iret (pc := 22) hr dX10_report_22
  refine to_iconst (pc := 7) X dX10_report_7 (by decide) ?_
  exact to_iret (pc := 8) hr dX10_report_8
def bkX10_report_0 (P : Nat → tc_B) (q : tc_Q) : tc_B := tb_iload 1 <| tb_callS 1 1 RX10_isTeller <| bkX10_report_4 P q
theorem okX10_report_0 {Z : tc_Z} {q : tc_Q} (X : tc_Cx ({ frames := 6, cells := 0, slots := 0, locals := 135 } : Room) cX10_report 3 RX10 Z) (hr : tc_Rt 0 cX10_report 3 Z q) : tc_Ok 3 Z 0 (bkX10_report_0 (tc_At 3 Z) q) := by
  unfold bkX10_report_0
  refine to_iload_n (pc := 0) X dX10_report_0 rfl ?_
  refine cvX10_isTeller (pc := 1) X wm_RX10_114 (by decide) dX10_report_1 ?_
  exact okX10_report_4 X hr
def RX10_report (vs : List tc_V) (S : tc_S) (q : tc_Q) : Prop := ∀ P : Nat → tc_B, bkX10_report_0 P q (tc_num 0 vs) [] S
theorem metX10_report : tc_Met yX10_report (Cond.code yX10_report cX10_report 3 (some .int)) ({ frames := 6, cells := 0, slots := 0, locals := 135 } : Room) 0 3 RX10_report := tc_met (rk := 0) (by decide) ⟨rfl, rfl⟩ (fun Z q X hr vs S h => okX10_report_0 X hr _ _ _ (h (tc_At 3 Z)))
theorem cvX10_report {R : Room} {cc : ByteArray} {nL pc ix : Nat} {own : String} {Z : tc_Z} {k : tc_B} (X : tc_Cx R cc nL own Z) (h1 : Cond.methodLink own ix yX10_report ∈ tc_tb) (hR : 6 + 1 ≤ R.frames ∧ 8 + (3 + 11) + 135 ≤ R.locals) (hd : decode cc pc = .ok (.invokevirtual ix, 3)) (h : tc_Ok nL Z (pc + 3) k) : tc_Ok nL Z pc (tb_callV 2 3 8 RX10_report k) := to_callV X metX10_report rfl ⟨rfl, rfl⟩ hR h1 wi_X10_report wl_X10_report wn_RX10 wc_X10_report ⟨by decide +kernel, by decide +kernel, by decide +kernel, by decide +kernel⟩ hd h
def bkX10_many_89 (P : Nat → tc_B) (q : tc_Q) : tc_B := tb_iret q
theorem okX10_many_89 {Z : tc_Z} {q : tc_Q} (X : tc_Cx ({ frames := 4, cells := 0, slots := 0, locals := 92 } : Room) cX10_many 2 RX10 Z) (hr : tc_Rt 0 cX10_many 2 Z q) : tc_Ok 2 Z 89 (bkX10_many_89 (tc_At 2 Z) q) := by
  unfold bkX10_many_89
  exact to_iret (pc := 89) hr dX10_many_89
def bkX10_many_65 (P : Nat → tc_B) (q : tc_Q) : tc_B := tb_iret q
theorem okX10_many_65 {Z : tc_Z} {q : tc_Q} (X : tc_Cx ({ frames := 4, cells := 0, slots := 0, locals := 92 } : Room) cX10_many 2 RX10 Z) (hr : tc_Rt 0 cX10_many 2 Z q) : tc_Ok 2 Z 65 (bkX10_many_65 (tc_At 2 Z) q) := by
  unfold bkX10_many_65
  exact to_iret (pc := 65) hr dX10_many_65
def bkX10_many_57 (P : Nat → tc_B) (q : tc_Q) : tc_B := tb_iret q
theorem okX10_many_57 {Z : tc_Z} {q : tc_Q} (X : tc_Cx ({ frames := 4, cells := 0, slots := 0, locals := 92 } : Room) cX10_many 2 RX10 Z) (hr : tc_Rt 0 cX10_many 2 Z q) : tc_Ok 2 Z 57 (bkX10_many_57 (tc_At 2 Z) q) := by
  unfold bkX10_many_57
  exact to_iret (pc := 57) hr dX10_many_57
def bkX10_many_48 (P : Nat → tc_B) (q : tc_Q) : tc_B := tb_iret q
theorem okX10_many_48 {Z : tc_Z} {q : tc_Q} (X : tc_Cx ({ frames := 4, cells := 0, slots := 0, locals := 92 } : Room) cX10_many 2 RX10 Z) (hr : tc_Rt 0 cX10_many 2 Z q) : tc_Ok 2 Z 48 (bkX10_many_48 (tc_At 2 Z) q) := by
  unfold bkX10_many_48
  exact to_iret (pc := 48) hr dX10_many_48
def bkX10_many_0 (P : Nat → tc_B) (q : tc_Q) : tc_B := tb_iload 1 <| tb_tsw 0 5 [tb_aload 0 <| tb_getf 8 0 <| tb_i 1 <| tb_callV 1 4 1 RX1_countState <| bkX10_many_48 P q, tb_aload 0 <| tb_getf 8 0 <| tb_i 2 <| tb_callV 1 4 1 RX1_countState <| bkX10_many_57 P q, tb_aload 0 <| tb_getf 8 0 <| tb_callV 0 3 1 RX1_countTold <| bkX10_many_65 P q, tb_aload 0 <| tb_getf 8 1 <| tb_getf 7 1 <| tb_iret q, tb_aload 0 <| tb_getf 8 4 <| tb_getf 0 1 <| tb_iret q, tb_aload 0 <| tb_getf 8 0 <| tb_callV 0 4 1 RX1_countCases <| bkX10_many_89 P q] <| tb_i (-2) <| tb_iret q
theorem okX10_many_0 {Z : tc_Z} {q : tc_Q} (X : tc_Cx ({ frames := 4, cells := 0, slots := 0, locals := 92 } : Room) cX10_many 2 RX10 Z) (hr : tc_Rt 0 cX10_many 2 Z q) : tc_Ok 2 Z 0 (bkX10_many_0 (tc_At 2 Z) q) := by
  unfold bkX10_many_0
  refine to_iload_n (pc := 0) X dX10_many_0 rfl ?_
  refine to_tsw (pc := 1) (td := 90) [40, 49, 58, 66, 74, 82] X dX10_many_1 (by decide) (by decide) (by decide) (by decide) (by decide) (by decide) ?_ ?_
  · refine to_bipush (pc := 90) X dX10_many_90 (by decide) ?_
    exact to_iret (pc := 92) hr dX10_many_92
  refine ⟨?_, ?_⟩
  · refine to_aload_n (pc := 40) X dX10_many_40 rfl ?_
    refine gfX10_0 (pc := 41) X wf_RX10_12 dX10_many_41 ?_
    refine to_iconst (pc := 44) X dX10_many_44 (by decide) ?_
    refine cvX1_countState (pc := 45) X wm_RX10_344 (by decide) dX10_many_45 ?_
    exact okX10_many_48 X hr
  refine ⟨?_, ?_⟩
  · refine to_aload_n (pc := 49) X dX10_many_49 rfl ?_
    refine gfX10_0 (pc := 50) X wf_RX10_12 dX10_many_50 ?_
    refine to_iconst (pc := 53) X dX10_many_53 (by decide) ?_
    refine cvX1_countState (pc := 54) X wm_RX10_344 (by decide) dX10_many_54 ?_
    exact okX10_many_57 X hr
  refine ⟨?_, ?_⟩
  · refine to_aload_n (pc := 58) X dX10_many_58 rfl ?_
    refine gfX10_0 (pc := 59) X wf_RX10_12 dX10_many_59 ?_
    refine cvX1_countTold (pc := 62) X wm_RX10_347 (by decide) dX10_many_62 ?_
    exact okX10_many_65 X hr
  refine ⟨?_, ?_⟩
  · refine to_aload_n (pc := 66) X dX10_many_66 rfl ?_
    refine gfX10_1 (pc := 67) X wf_RX10_21 dX10_many_67 ?_
    refine gfX9_1 (pc := 70) X wf_RX10_126 dX10_many_70 ?_
    exact to_iret (pc := 73) hr dX10_many_73
  refine ⟨?_, ?_⟩
  · refine to_aload_n (pc := 74) X dX10_many_74 rfl ?_
    refine gfX10_4 (pc := 75) X wf_RX10_42 dX10_many_75 ?_
    refine gfX0_1 (pc := 78) X wf_RX10_256 dX10_many_78 ?_
    exact to_iret (pc := 81) hr dX10_many_81
  refine ⟨?_, ?_⟩
  · refine to_aload_n (pc := 82) X dX10_many_82 rfl ?_
    refine gfX10_0 (pc := 83) X wf_RX10_12 dX10_many_83 ?_
    refine cvX1_countCases (pc := 86) X wm_RX10_350 (by decide) dX10_many_86 ?_
    exact okX10_many_89 X hr
  trivial
def RX10_many (vs : List tc_V) (S : tc_S) (q : tc_Q) : Prop := ∀ P : Nat → tc_B, bkX10_many_0 P q (tc_num 0 vs) [] S
theorem metX10_many : tc_Met yX10_many (Cond.code yX10_many cX10_many 2 (some .int)) ({ frames := 4, cells := 0, slots := 0, locals := 92 } : Room) 0 2 RX10_many := tc_met (rk := 0) (by decide) ⟨rfl, rfl⟩ (fun Z q X hr vs S h => okX10_many_0 X hr _ _ _ (h (tc_At 2 Z)))
theorem cvX10_many {R : Room} {cc : ByteArray} {nL pc ix : Nat} {own : String} {Z : tc_Z} {k : tc_B} (X : tc_Cx R cc nL own Z) (h1 : Cond.methodLink own ix yX10_many ∈ tc_tb) (hR : 4 + 1 ≤ R.frames ∧ 8 + (2 + 11) + 92 ≤ R.locals) (hd : decode cc pc = .ok (.invokevirtual ix, 3)) (h : tc_Ok nL Z (pc + 3) k) : tc_Ok nL Z pc (tb_callV 1 2 8 RX10_many k) := to_callV X metX10_many rfl ⟨rfl, rfl⟩ hR h1 wi_X10_many wl_X10_many wn_RX10 wc_X10_many ⟨by decide +kernel, by decide +kernel, by decide +kernel, by decide +kernel⟩ hd h
