def bkX11_within_0 (P : Nat → tc_B) (q : tc_Q) : tc_B := tb_iload 0 <| tb_iload 1 <| tb_icmp_lt (tb_i 0 <| tb_zret q) <| tb_iload 0 <| tb_iload 2 <| tb_icmp_gt (tb_i 0 <| tb_zret q) <| tb_i 1 <| tb_zret q
theorem okX11_within_0 {Z : tc_Z} {q : tc_Q} (X : tc_Cx ({ frames := 0, cells := 0, slots := 0, locals := 0 } : Room) cX11_within 3 RX11 Z) (hr : tc_Rt 1 cX11_within 3 Z q) : tc_Ok 3 Z 0 (bkX11_within_0 (tc_At 3 Z) q) := by
  unfold bkX11_within_0
  refine to_iload_n (pc := 0) X dX11_within_0 rfl ?_
  refine to_iload_n (pc := 1) X dX11_within_1 rfl ?_
  refine to_icmp_lt (pc := 2) (tgt := 14) X dX11_within_2 (by decide) ?_ ?_
  · refine to_iconst (pc := 14) X dX11_within_14 (by decide) ?_
    exact to_zret (pc := 15) hr dX11_within_15
  refine to_iload_n (pc := 5) X dX11_within_5 rfl ?_
  refine to_iload_n (pc := 6) X dX11_within_6 rfl ?_
  refine to_icmp_gt (pc := 7) (tgt := 14) X dX11_within_7 (by decide) ?_ ?_
  · refine to_iconst (pc := 14) X dX11_within_14 (by decide) ?_
    exact to_zret (pc := 15) hr dX11_within_15
  refine to_iconst (pc := 10) X dX11_within_10 (by decide) ?_
  refine to_goto (pc := 11) (tgt := 15) X dX11_within_11 (by decide) ?_
  exact to_zret (pc := 15) hr dX11_within_15
def RX11_within (vs : List tc_V) (S : tc_S) (q : tc_Q) : Prop := ∀ P : Nat → tc_B, bkX11_within_0 P q (tc_num 0 vs) [] S
theorem metX11_within : tc_Met yX11_within (Cond.code yX11_within cX11_within 3 (some .boolean)) ({ frames := 0, cells := 0, slots := 0, locals := 0 } : Room) 1 3 RX11_within := tc_met (rk := 1) (by decide) ⟨rfl, rfl⟩ (fun Z q X hr vs S h => okX11_within_0 X hr _ _ _ (h (tc_At 3 Z)))
theorem cvX11_within {R : Room} {cc : ByteArray} {nL pc ix : Nat} {own : String} {Z : tc_Z} {k : tc_B} (X : tc_Cx R cc nL own Z) (h1 : Cond.methodLink own ix yX11_within ∈ tc_tb) (hR : 0 + 1 ≤ R.frames ∧ 8 + (3 + 11) + 0 ≤ R.locals) (hd : decode cc pc = .ok (.invokestatic ix, 3)) (h : tc_Ok nL Z (pc + 3) k) : tc_Ok nL Z pc (tb_callS 3 3 RX11_within k) := to_callS X metX11_within ⟨rfl, rfl⟩ hR h1 ws_X11_within wn_RX11 wc_X11_within ⟨by decide +kernel, by decide +kernel, by decide +kernel⟩ hd h
def bkX11_isOne_6 (P : Nat → tc_B) (q : tc_Q) : tc_B := tb_zret q
theorem okX11_isOne_6 {Z : tc_Z} {q : tc_Q} (X : tc_Cx ({ frames := 1, cells := 0, slots := 0, locals := 22 } : Room) cX11_isOne 1 RX11 Z) (hr : tc_Rt 1 cX11_isOne 1 Z q) : tc_Ok 1 Z 6 (bkX11_isOne_6 (tc_At 1 Z) q) := by
  unfold bkX11_isOne_6
  exact to_zret (pc := 6) hr dX11_isOne_6
def bkX11_isOne_0 (P : Nat → tc_B) (q : tc_Q) : tc_B := tb_iload 0 <| tb_i 0 <| tb_i 3 <| tb_callS 3 3 RX11_within <| bkX11_isOne_6 P q
theorem okX11_isOne_0 {Z : tc_Z} {q : tc_Q} (X : tc_Cx ({ frames := 1, cells := 0, slots := 0, locals := 22 } : Room) cX11_isOne 1 RX11 Z) (hr : tc_Rt 1 cX11_isOne 1 Z q) : tc_Ok 1 Z 0 (bkX11_isOne_0 (tc_At 1 Z) q) := by
  unfold bkX11_isOne_0
  refine to_iload_n (pc := 0) X dX11_isOne_0 rfl ?_
  refine to_iconst (pc := 1) X dX11_isOne_1 (by decide) ?_
  refine to_iconst (pc := 2) X dX11_isOne_2 (by decide) ?_
  refine cvX11_within (pc := 3) X wm_RX11_66 (by decide) dX11_isOne_3 ?_
  exact okX11_isOne_6 X hr
def RX11_isOne (vs : List tc_V) (S : tc_S) (q : tc_Q) : Prop := ∀ P : Nat → tc_B, bkX11_isOne_0 P q (tc_num 0 vs) [] S
theorem metX11_isOne : tc_Met yX11_isOne (Cond.code yX11_isOne cX11_isOne 1 (some .boolean)) ({ frames := 1, cells := 0, slots := 0, locals := 22 } : Room) 1 1 RX11_isOne := tc_met (rk := 1) (by decide) ⟨rfl, rfl⟩ (fun Z q X hr vs S h => okX11_isOne_0 X hr _ _ _ (h (tc_At 1 Z)))
theorem cvX11_isOne {R : Room} {cc : ByteArray} {nL pc ix : Nat} {own : String} {Z : tc_Z} {k : tc_B} (X : tc_Cx R cc nL own Z) (h1 : Cond.methodLink own ix yX11_isOne ∈ tc_tb) (hR : 1 + 1 ≤ R.frames ∧ 8 + (1 + 11) + 22 ≤ R.locals) (hd : decode cc pc = .ok (.invokestatic ix, 3)) (h : tc_Ok nL Z (pc + 3) k) : tc_Ok nL Z pc (tb_callS 1 1 RX11_isOne k) := to_callS X metX11_isOne ⟨rfl, rfl⟩ hR h1 ws_X11_isOne wn_RX11 wc_X11_isOne ⟨by decide +kernel, by decide +kernel, by decide +kernel⟩ hd h
def bkX11_isAny_6 (P : Nat → tc_B) (q : tc_Q) : tc_B := tb_zret q
theorem okX11_isAny_6 {Z : tc_Z} {q : tc_Q} (X : tc_Cx ({ frames := 1, cells := 0, slots := 0, locals := 22 } : Room) cX11_isAny 1 RX11 Z) (hr : tc_Rt 1 cX11_isAny 1 Z q) : tc_Ok 1 Z 6 (bkX11_isAny_6 (tc_At 1 Z) q) := by
  unfold bkX11_isAny_6
  exact to_zret (pc := 6) hr dX11_isAny_6
def bkX11_isAny_0 (P : Nat → tc_B) (q : tc_Q) : tc_B := tb_iload 0 <| tb_i 0 <| tb_i 4 <| tb_callS 3 3 RX11_within <| bkX11_isAny_6 P q
theorem okX11_isAny_0 {Z : tc_Z} {q : tc_Q} (X : tc_Cx ({ frames := 1, cells := 0, slots := 0, locals := 22 } : Room) cX11_isAny 1 RX11 Z) (hr : tc_Rt 1 cX11_isAny 1 Z q) : tc_Ok 1 Z 0 (bkX11_isAny_0 (tc_At 1 Z) q) := by
  unfold bkX11_isAny_0
  refine to_iload_n (pc := 0) X dX11_isAny_0 rfl ?_
  refine to_iconst (pc := 1) X dX11_isAny_1 (by decide) ?_
  refine to_iconst (pc := 2) X dX11_isAny_2 (by decide) ?_
  refine cvX11_within (pc := 3) X wm_RX11_66 (by decide) dX11_isAny_3 ?_
  exact okX11_isAny_6 X hr
def RX11_isAny (vs : List tc_V) (S : tc_S) (q : tc_Q) : Prop := ∀ P : Nat → tc_B, bkX11_isAny_0 P q (tc_num 0 vs) [] S
theorem metX11_isAny : tc_Met yX11_isAny (Cond.code yX11_isAny cX11_isAny 1 (some .boolean)) ({ frames := 1, cells := 0, slots := 0, locals := 22 } : Room) 1 1 RX11_isAny := tc_met (rk := 1) (by decide) ⟨rfl, rfl⟩ (fun Z q X hr vs S h => okX11_isAny_0 X hr _ _ _ (h (tc_At 1 Z)))
theorem cvX11_isAny {R : Room} {cc : ByteArray} {nL pc ix : Nat} {own : String} {Z : tc_Z} {k : tc_B} (X : tc_Cx R cc nL own Z) (h1 : Cond.methodLink own ix yX11_isAny ∈ tc_tb) (hR : 1 + 1 ≤ R.frames ∧ 8 + (1 + 11) + 22 ≤ R.locals) (hd : decode cc pc = .ok (.invokestatic ix, 3)) (h : tc_Ok nL Z (pc + 3) k) : tc_Ok nL Z pc (tb_callS 1 1 RX11_isAny k) := to_callS X metX11_isAny ⟨rfl, rfl⟩ hR h1 ws_X11_isAny wn_RX11 wc_X11_isAny ⟨by decide +kernel, by decide +kernel, by decide +kernel⟩ hd h
def bkX11_isEvent_7 (P : Nat → tc_B) (q : tc_Q) : tc_B := tb_zret q
theorem okX11_isEvent_7 {Z : tc_Z} {q : tc_Q} (X : tc_Cx ({ frames := 1, cells := 0, slots := 0, locals := 22 } : Room) cX11_isEvent 1 RX11 Z) (hr : tc_Rt 1 cX11_isEvent 1 Z q) : tc_Ok 1 Z 7 (bkX11_isEvent_7 (tc_At 1 Z) q) := by
  unfold bkX11_isEvent_7
  exact to_zret (pc := 7) hr dX11_isEvent_7
def bkX11_isEvent_0 (P : Nat → tc_B) (q : tc_Q) : tc_B := tb_iload 0 <| tb_i 0 <| tb_i 39 <| tb_callS 3 3 RX11_within <| bkX11_isEvent_7 P q
theorem okX11_isEvent_0 {Z : tc_Z} {q : tc_Q} (X : tc_Cx ({ frames := 1, cells := 0, slots := 0, locals := 22 } : Room) cX11_isEvent 1 RX11 Z) (hr : tc_Rt 1 cX11_isEvent 1 Z q) : tc_Ok 1 Z 0 (bkX11_isEvent_0 (tc_At 1 Z) q) := by
  unfold bkX11_isEvent_0
  refine to_iload_n (pc := 0) X dX11_isEvent_0 rfl ?_
  refine to_iconst (pc := 1) X dX11_isEvent_1 (by decide) ?_
  refine to_bipush (pc := 2) X dX11_isEvent_2 (by decide) ?_
  refine cvX11_within (pc := 4) X wm_RX11_66 (by decide) dX11_isEvent_4 ?_
  exact okX11_isEvent_7 X hr
def RX11_isEvent (vs : List tc_V) (S : tc_S) (q : tc_Q) : Prop := ∀ P : Nat → tc_B, bkX11_isEvent_0 P q (tc_num 0 vs) [] S
theorem metX11_isEvent : tc_Met yX11_isEvent (Cond.code yX11_isEvent cX11_isEvent 1 (some .boolean)) ({ frames := 1, cells := 0, slots := 0, locals := 22 } : Room) 1 1 RX11_isEvent := tc_met (rk := 1) (by decide) ⟨rfl, rfl⟩ (fun Z q X hr vs S h => okX11_isEvent_0 X hr _ _ _ (h (tc_At 1 Z)))
theorem cvX11_isEvent {R : Room} {cc : ByteArray} {nL pc ix : Nat} {own : String} {Z : tc_Z} {k : tc_B} (X : tc_Cx R cc nL own Z) (h1 : Cond.methodLink own ix yX11_isEvent ∈ tc_tb) (hR : 1 + 1 ≤ R.frames ∧ 8 + (1 + 11) + 22 ≤ R.locals) (hd : decode cc pc = .ok (.invokestatic ix, 3)) (h : tc_Ok nL Z (pc + 3) k) : tc_Ok nL Z pc (tb_callS 1 1 RX11_isEvent k) := to_callS X metX11_isEvent ⟨rfl, rfl⟩ hR h1 ws_X11_isEvent wn_RX11 wc_X11_isEvent ⟨by decide +kernel, by decide +kernel, by decide +kernel⟩ hd h
def bkX11_tell_23 (P : Nat → tc_B) (q : tc_Q) : tc_B := tb_if_ne (tb_aload 0 <| tb_getf 9 0 <| tb_i 40 <| tb_iload 1 <| tb_imul <| tb_iload 2 <| tb_iadd <| tb_iald <| tb_istore 4 <| tb_aload 0 <| tb_getf 9 0 <| tb_i 40 <| tb_iload 1 <| tb_imul <| tb_iload 2 <| tb_iadd <| tb_iload 3 <| tb_iast <| tb_iload 4 <| tb_iret q) <| tb_i (-2) <| tb_iret q
theorem okX11_tell_23 {Z : tc_Z} {q : tc_Q} (X : tc_Cx ({ frames := 2, cells := 0, slots := 0, locals := 42 } : Room) cX11_tell 5 RX11 Z) (hr : tc_Rt 0 cX11_tell 5 Z q) : tc_Ok 5 Z 23 (bkX11_tell_23 (tc_At 5 Z) q) := by
  unfold bkX11_tell_23
  refine to_if_ne (pc := 23) (tgt := 29) X dX11_tell_23 (by decide) ?_ ?_
  · refine to_aload_n (pc := 29) X dX11_tell_29 rfl ?_
    refine gfX11_0 (pc := 30) X wf_RX11_7 dX11_tell_30 ?_
    refine to_bipush (pc := 33) X dX11_tell_33 (by decide) ?_
    refine to_iload_n (pc := 35) X dX11_tell_35 rfl ?_
    refine to_imul (pc := 36) X dX11_tell_36 ?_
    refine to_iload_n (pc := 37) X dX11_tell_37 rfl ?_
    refine to_iadd (pc := 38) X dX11_tell_38 ?_
    refine to_iald (pc := 39) X dX11_tell_39 ?_
    refine to_istore (pc := 40) X dX11_tell_40 (by decide) ?_
    refine to_aload_n (pc := 42) X dX11_tell_42 rfl ?_
    refine gfX11_0 (pc := 43) X wf_RX11_7 dX11_tell_43 ?_
    refine to_bipush (pc := 46) X dX11_tell_46 (by decide) ?_
    refine to_iload_n (pc := 48) X dX11_tell_48 rfl ?_
    refine to_imul (pc := 49) X dX11_tell_49 ?_
    refine to_iload_n (pc := 50) X dX11_tell_50 rfl ?_
    refine to_iadd (pc := 51) X dX11_tell_51 ?_
    refine to_iload_n (pc := 52) X dX11_tell_52 rfl ?_
    refine to_iast (pc := 53) X dX11_tell_53 ?_
    refine to_iload (pc := 54) X dX11_tell_54 ?_
    exact to_iret (pc := 56) hr dX11_tell_56
  refine to_bipush (pc := 26) X dX11_tell_26 (by decide) ?_
  exact to_iret (pc := 28) hr dX11_tell_28
def bkX11_tell_11 (P : Nat → tc_B) (q : tc_Q) : tc_B := tb_if_ne (tb_iload 3 <| tb_i 0 <| tb_i 100 <| tb_callS 3 3 RX11_within <| bkX11_tell_23 P q) <| tb_i (-1) <| tb_iret q
theorem okX11_tell_11 {Z : tc_Z} {q : tc_Q} (X : tc_Cx ({ frames := 2, cells := 0, slots := 0, locals := 42 } : Room) cX11_tell 5 RX11 Z) (hr : tc_Rt 0 cX11_tell 5 Z q) : tc_Ok 5 Z 11 (bkX11_tell_11 (tc_At 5 Z) q) := by
  unfold bkX11_tell_11
  refine to_if_ne (pc := 11) (tgt := 16) X dX11_tell_11 (by decide) ?_ ?_
  · refine to_iload_n (pc := 16) X dX11_tell_16 rfl ?_
    refine to_iconst (pc := 17) X dX11_tell_17 (by decide) ?_
    refine to_bipush (pc := 18) X dX11_tell_18 (by decide) ?_
    refine cvX11_within (pc := 20) X wm_RX11_66 (by decide) dX11_tell_20 ?_
    exact okX11_tell_23 X hr
  refine to_iconst (pc := 14) X dX11_tell_14 (by decide) ?_
  exact to_iret (pc := 15) hr dX11_tell_15
def bkX11_tell_4 (P : Nat → tc_B) (q : tc_Q) : tc_B := tb_if_eq (tb_i (-1) <| tb_iret q) <| tb_iload 2 <| tb_callS 1 1 RX11_isEvent <| bkX11_tell_11 P q
theorem okX11_tell_4 {Z : tc_Z} {q : tc_Q} (X : tc_Cx ({ frames := 2, cells := 0, slots := 0, locals := 42 } : Room) cX11_tell 5 RX11 Z) (hr : tc_Rt 0 cX11_tell 5 Z q) : tc_Ok 5 Z 4 (bkX11_tell_4 (tc_At 5 Z) q) := by
  unfold bkX11_tell_4
  refine to_if_eq (pc := 4) (tgt := 14) X dX11_tell_4 (by decide) ?_ ?_
  · refine to_iconst (pc := 14) X dX11_tell_14 (by decide) ?_
    exact to_iret (pc := 15) hr dX11_tell_15
  refine to_iload_n (pc := 7) X dX11_tell_7 rfl ?_
  refine cvX11_isEvent (pc := 8) X wm_RX11_74 (by decide) dX11_tell_8 ?_
  exact okX11_tell_11 X hr
def bkX11_tell_0 (P : Nat → tc_B) (q : tc_Q) : tc_B := tb_iload 1 <| tb_callS 1 1 RX11_isOne <| bkX11_tell_4 P q
theorem okX11_tell_0 {Z : tc_Z} {q : tc_Q} (X : tc_Cx ({ frames := 2, cells := 0, slots := 0, locals := 42 } : Room) cX11_tell 5 RX11 Z) (hr : tc_Rt 0 cX11_tell 5 Z q) : tc_Ok 5 Z 0 (bkX11_tell_0 (tc_At 5 Z) q) := by
  unfold bkX11_tell_0
  refine to_iload_n (pc := 0) X dX11_tell_0 rfl ?_
  refine cvX11_isOne (pc := 1) X wm_RX11_70 (by decide) dX11_tell_1 ?_
  exact okX11_tell_4 X hr
def RX11_tell (vs : List tc_V) (S : tc_S) (q : tc_Q) : Prop := ∀ P : Nat → tc_B, bkX11_tell_0 P q (tc_num 0 vs) [] S
theorem metX11_tell : tc_Met yX11_tell (Cond.code yX11_tell cX11_tell 5 (some .int)) ({ frames := 2, cells := 0, slots := 0, locals := 42 } : Room) 0 5 RX11_tell := tc_met (rk := 0) (by decide) ⟨rfl, rfl⟩ (fun Z q X hr vs S h => okX11_tell_0 X hr _ _ _ (h (tc_At 5 Z)))
theorem cvX11_tell {R : Room} {cc : ByteArray} {nL pc ix : Nat} {own : String} {Z : tc_Z} {k : tc_B} (X : tc_Cx R cc nL own Z) (h1 : Cond.methodLink own ix yX11_tell ∈ tc_tb) (hR : 2 + 1 ≤ R.frames ∧ 8 + (5 + 11) + 42 ≤ R.locals) (hd : decode cc pc = .ok (.invokevirtual ix, 3)) (h : tc_Ok nL Z (pc + 3) k) : tc_Ok nL Z pc (tb_callV 3 5 9 RX11_tell k) := to_callV X metX11_tell rfl ⟨rfl, rfl⟩ hR h1 wi_X11_tell wl_X11_tell wn_RX11 wc_X11_tell ⟨by decide +kernel, by decide +kernel, by decide +kernel, by decide +kernel⟩ hd h
def bkX11_drop_11 (P : Nat → tc_B) (q : tc_Q) : tc_B := tb_if_ne (tb_aload 0 <| tb_getf 9 0 <| tb_i 40 <| tb_iload 1 <| tb_imul <| tb_iload 2 <| tb_iadd <| tb_iald <| tb_istore 3 <| tb_aload 0 <| tb_getf 9 0 <| tb_i 40 <| tb_iload 1 <| tb_imul <| tb_iload 2 <| tb_iadd <| tb_i (-9) <| tb_iast <| tb_iload 3 <| tb_iret q) <| tb_i (-1) <| tb_iret q
theorem okX11_drop_11 {Z : tc_Z} {q : tc_Q} (X : tc_Cx ({ frames := 2, cells := 0, slots := 0, locals := 42 } : Room) cX11_drop 4 RX11 Z) (hr : tc_Rt 0 cX11_drop 4 Z q) : tc_Ok 4 Z 11 (bkX11_drop_11 (tc_At 4 Z) q) := by
  unfold bkX11_drop_11
  refine to_if_ne (pc := 11) (tgt := 16) X dX11_drop_11 (by decide) ?_ ?_
  · refine to_aload_n (pc := 16) X dX11_drop_16 rfl ?_
    refine gfX11_0 (pc := 17) X wf_RX11_7 dX11_drop_17 ?_
    refine to_bipush (pc := 20) X dX11_drop_20 (by decide) ?_
    refine to_iload_n (pc := 22) X dX11_drop_22 rfl ?_
    refine to_imul (pc := 23) X dX11_drop_23 ?_
    refine to_iload_n (pc := 24) X dX11_drop_24 rfl ?_
    refine to_iadd (pc := 25) X dX11_drop_25 ?_
    refine to_iald (pc := 26) X dX11_drop_26 ?_
    refine to_istore_n (pc := 27) X dX11_drop_27 rfl (by decide) ?_
    refine to_aload_n (pc := 28) X dX11_drop_28 rfl ?_
    refine gfX11_0 (pc := 29) X wf_RX11_7 dX11_drop_29 ?_
    refine to_bipush (pc := 32) X dX11_drop_32 (by decide) ?_
    refine to_iload_n (pc := 34) X dX11_drop_34 rfl ?_
    refine to_imul (pc := 35) X dX11_drop_35 ?_
    refine to_iload_n (pc := 36) X dX11_drop_36 rfl ?_
    refine to_iadd (pc := 37) X dX11_drop_37 ?_
    refine to_bipush (pc := 38) X dX11_drop_38 (by decide) ?_
    refine to_iast (pc := 40) X dX11_drop_40 ?_
    refine to_iload_n (pc := 41) X dX11_drop_41 rfl ?_
    exact to_iret (pc := 42) hr dX11_drop_42
  refine to_iconst (pc := 14) X dX11_drop_14 (by decide) ?_
  exact to_iret (pc := 15) hr dX11_drop_15
def bkX11_drop_4 (P : Nat → tc_B) (q : tc_Q) : tc_B := tb_if_eq (tb_i (-1) <| tb_iret q) <| tb_iload 2 <| tb_callS 1 1 RX11_isEvent <| bkX11_drop_11 P q
theorem okX11_drop_4 {Z : tc_Z} {q : tc_Q} (X : tc_Cx ({ frames := 2, cells := 0, slots := 0, locals := 42 } : Room) cX11_drop 4 RX11 Z) (hr : tc_Rt 0 cX11_drop 4 Z q) : tc_Ok 4 Z 4 (bkX11_drop_4 (tc_At 4 Z) q) := by
  unfold bkX11_drop_4
  refine to_if_eq (pc := 4) (tgt := 14) X dX11_drop_4 (by decide) ?_ ?_
  · refine to_iconst (pc := 14) X dX11_drop_14 (by decide) ?_
    exact to_iret (pc := 15) hr dX11_drop_15
  refine to_iload_n (pc := 7) X dX11_drop_7 rfl ?_
  refine cvX11_isEvent (pc := 8) X wm_RX11_74 (by decide) dX11_drop_8 ?_
  exact okX11_drop_11 X hr
def bkX11_drop_0 (P : Nat → tc_B) (q : tc_Q) : tc_B := tb_iload 1 <| tb_callS 1 1 RX11_isOne <| bkX11_drop_4 P q
theorem okX11_drop_0 {Z : tc_Z} {q : tc_Q} (X : tc_Cx ({ frames := 2, cells := 0, slots := 0, locals := 42 } : Room) cX11_drop 4 RX11 Z) (hr : tc_Rt 0 cX11_drop 4 Z q) : tc_Ok 4 Z 0 (bkX11_drop_0 (tc_At 4 Z) q) := by
  unfold bkX11_drop_0
  refine to_iload_n (pc := 0) X dX11_drop_0 rfl ?_
  refine cvX11_isOne (pc := 1) X wm_RX11_70 (by decide) dX11_drop_1 ?_
  exact okX11_drop_4 X hr
def RX11_drop (vs : List tc_V) (S : tc_S) (q : tc_Q) : Prop := ∀ P : Nat → tc_B, bkX11_drop_0 P q (tc_num 0 vs) [] S
theorem metX11_drop : tc_Met yX11_drop (Cond.code yX11_drop cX11_drop 4 (some .int)) ({ frames := 2, cells := 0, slots := 0, locals := 42 } : Room) 0 4 RX11_drop := tc_met (rk := 0) (by decide) ⟨rfl, rfl⟩ (fun Z q X hr vs S h => okX11_drop_0 X hr _ _ _ (h (tc_At 4 Z)))
theorem cvX11_drop {R : Room} {cc : ByteArray} {nL pc ix : Nat} {own : String} {Z : tc_Z} {k : tc_B} (X : tc_Cx R cc nL own Z) (h1 : Cond.methodLink own ix yX11_drop ∈ tc_tb) (hR : 2 + 1 ≤ R.frames ∧ 8 + (4 + 11) + 42 ≤ R.locals) (hd : decode cc pc = .ok (.invokevirtual ix, 3)) (h : tc_Ok nL Z (pc + 3) k) : tc_Ok nL Z pc (tb_callV 2 4 9 RX11_drop k) := to_callV X metX11_drop rfl ⟨rfl, rfl⟩ hR h1 wi_X11_drop wl_X11_drop wn_RX11 wc_X11_drop ⟨by decide +kernel, by decide +kernel, by decide +kernel, by decide +kernel⟩ hd h
def bkX11_becomes_4 (P : Nat → tc_B) (q : tc_Q) : tc_B := tb_if_ne (tb_aload 0 <| tb_getf 9 1 <| tb_iload 1 <| tb_iald <| tb_istore 3 <| tb_aload 0 <| tb_getf 9 1 <| tb_iload 1 <| tb_iload 2 <| tb_iast <| tb_iload 3 <| tb_iret q) <| tb_i (-1) <| tb_iret q
theorem okX11_becomes_4 {Z : tc_Z} {q : tc_Q} (X : tc_Cx ({ frames := 2, cells := 0, slots := 0, locals := 42 } : Room) cX11_becomes 4 RX11 Z) (hr : tc_Rt 0 cX11_becomes 4 Z q) : tc_Ok 4 Z 4 (bkX11_becomes_4 (tc_At 4 Z) q) := by
  unfold bkX11_becomes_4
  refine to_if_ne (pc := 4) (tgt := 9) X dX11_becomes_4 (by decide) ?_ ?_
  · refine to_aload_n (pc := 9) X dX11_becomes_9 rfl ?_
    refine gfX11_1 (pc := 10) X wf_RX11_13 dX11_becomes_10 ?_
    refine to_iload_n (pc := 13) X dX11_becomes_13 rfl ?_
    refine to_iald (pc := 14) X dX11_becomes_14 ?_
    refine to_istore_n (pc := 15) X dX11_becomes_15 rfl (by decide) ?_
    refine to_aload_n (pc := 16) X dX11_becomes_16 rfl ?_
    refine gfX11_1 (pc := 17) X wf_RX11_13 dX11_becomes_17 ?_
    refine to_iload_n (pc := 20) X dX11_becomes_20 rfl ?_
    refine to_iload_n (pc := 21) X dX11_becomes_21 rfl ?_
    refine to_iast (pc := 22) X dX11_becomes_22 ?_
    refine to_iload_n (pc := 23) X dX11_becomes_23 rfl ?_
    exact to_iret (pc := 24) hr dX11_becomes_24
  refine to_iconst (pc := 7) X dX11_becomes_7 (by decide) ?_
  exact to_iret (pc := 8) hr dX11_becomes_8
def bkX11_becomes_0 (P : Nat → tc_B) (q : tc_Q) : tc_B := tb_iload 1 <| tb_callS 1 1 RX11_isEvent <| bkX11_becomes_4 P q
theorem okX11_becomes_0 {Z : tc_Z} {q : tc_Q} (X : tc_Cx ({ frames := 2, cells := 0, slots := 0, locals := 42 } : Room) cX11_becomes 4 RX11 Z) (hr : tc_Rt 0 cX11_becomes 4 Z q) : tc_Ok 4 Z 0 (bkX11_becomes_0 (tc_At 4 Z) q) := by
  unfold bkX11_becomes_0
  refine to_iload_n (pc := 0) X dX11_becomes_0 rfl ?_
  refine cvX11_isEvent (pc := 1) X wm_RX11_74 (by decide) dX11_becomes_1 ?_
  exact okX11_becomes_4 X hr
def RX11_becomes (vs : List tc_V) (S : tc_S) (q : tc_Q) : Prop := ∀ P : Nat → tc_B, bkX11_becomes_0 P q (tc_num 0 vs) [] S
theorem metX11_becomes : tc_Met yX11_becomes (Cond.code yX11_becomes cX11_becomes 4 (some .int)) ({ frames := 2, cells := 0, slots := 0, locals := 42 } : Room) 0 4 RX11_becomes := tc_met (rk := 0) (by decide) ⟨rfl, rfl⟩ (fun Z q X hr vs S h => okX11_becomes_0 X hr _ _ _ (h (tc_At 4 Z)))
theorem cvX11_becomes {R : Room} {cc : ByteArray} {nL pc ix : Nat} {own : String} {Z : tc_Z} {k : tc_B} (X : tc_Cx R cc nL own Z) (h1 : Cond.methodLink own ix yX11_becomes ∈ tc_tb) (hR : 2 + 1 ≤ R.frames ∧ 8 + (4 + 11) + 42 ≤ R.locals) (hd : decode cc pc = .ok (.invokevirtual ix, 3)) (h : tc_Ok nL Z (pc + 3) k) : tc_Ok nL Z pc (tb_callV 2 4 9 RX11_becomes k) := to_callV X metX11_becomes rfl ⟨rfl, rfl⟩ hR h1 wi_X11_becomes wl_X11_becomes wn_RX11 wc_X11_becomes ⟨by decide +kernel, by decide +kernel, by decide +kernel, by decide +kernel⟩ hd h
def bkX11_yes_6 (P : Nat → tc_B) (q : tc_Q) : tc_B := tb_iret q
theorem okX11_yes_6 {Z : tc_Z} {q : tc_Q} (X : tc_Cx ({ frames := 3, cells := 0, slots := 0, locals := 65 } : Room) cX11_yes 2 RX11 Z) (hr : tc_Rt 0 cX11_yes 2 Z q) : tc_Ok 2 Z 6 (bkX11_yes_6 (tc_At 2 Z) q) := by
  unfold bkX11_yes_6
  exact to_iret (pc := 6) hr dX11_yes_6
def bkX11_yes_0 (P : Nat → tc_B) (q : tc_Q) : tc_B := tb_aload 0 <| tb_iload 1 <| tb_i 1 <| tb_callV 2 4 9 RX11_becomes <| bkX11_yes_6 P q
theorem okX11_yes_0 {Z : tc_Z} {q : tc_Q} (X : tc_Cx ({ frames := 3, cells := 0, slots := 0, locals := 65 } : Room) cX11_yes 2 RX11 Z) (hr : tc_Rt 0 cX11_yes 2 Z q) : tc_Ok 2 Z 0 (bkX11_yes_0 (tc_At 2 Z) q) := by
  unfold bkX11_yes_0
  refine to_aload_n (pc := 0) X dX11_yes_0 rfl ?_
  refine to_iload_n (pc := 1) X dX11_yes_1 rfl ?_
  refine to_iconst (pc := 2) X dX11_yes_2 (by decide) ?_
  refine cvX11_becomes (pc := 3) X wm_RX11_77 (by decide) dX11_yes_3 ?_
  exact okX11_yes_6 X hr
def RX11_yes (vs : List tc_V) (S : tc_S) (q : tc_Q) : Prop := ∀ P : Nat → tc_B, bkX11_yes_0 P q (tc_num 0 vs) [] S
theorem metX11_yes : tc_Met yX11_yes (Cond.code yX11_yes cX11_yes 2 (some .int)) ({ frames := 3, cells := 0, slots := 0, locals := 65 } : Room) 0 2 RX11_yes := tc_met (rk := 0) (by decide) ⟨rfl, rfl⟩ (fun Z q X hr vs S h => okX11_yes_0 X hr _ _ _ (h (tc_At 2 Z)))
theorem cvX11_yes {R : Room} {cc : ByteArray} {nL pc ix : Nat} {own : String} {Z : tc_Z} {k : tc_B} (X : tc_Cx R cc nL own Z) (h1 : Cond.methodLink own ix yX11_yes ∈ tc_tb) (hR : 3 + 1 ≤ R.frames ∧ 8 + (2 + 11) + 65 ≤ R.locals) (hd : decode cc pc = .ok (.invokevirtual ix, 3)) (h : tc_Ok nL Z (pc + 3) k) : tc_Ok nL Z pc (tb_callV 1 2 9 RX11_yes k) := to_callV X metX11_yes rfl ⟨rfl, rfl⟩ hR h1 wi_X11_yes wl_X11_yes wn_RX11 wc_X11_yes ⟨by decide +kernel, by decide +kernel, by decide +kernel, by decide +kernel⟩ hd h
def bkX11_no_6 (P : Nat → tc_B) (q : tc_Q) : tc_B := tb_iret q
theorem okX11_no_6 {Z : tc_Z} {q : tc_Q} (X : tc_Cx ({ frames := 3, cells := 0, slots := 0, locals := 65 } : Room) cX11_no 2 RX11 Z) (hr : tc_Rt 0 cX11_no 2 Z q) : tc_Ok 2 Z 6 (bkX11_no_6 (tc_At 2 Z) q) := by
  unfold bkX11_no_6
  exact to_iret (pc := 6) hr dX11_no_6
def bkX11_no_0 (P : Nat → tc_B) (q : tc_Q) : tc_B := tb_aload 0 <| tb_iload 1 <| tb_i 2 <| tb_callV 2 4 9 RX11_becomes <| bkX11_no_6 P q
theorem okX11_no_0 {Z : tc_Z} {q : tc_Q} (X : tc_Cx ({ frames := 3, cells := 0, slots := 0, locals := 65 } : Room) cX11_no 2 RX11 Z) (hr : tc_Rt 0 cX11_no 2 Z q) : tc_Ok 2 Z 0 (bkX11_no_0 (tc_At 2 Z) q) := by
  unfold bkX11_no_0
  refine to_aload_n (pc := 0) X dX11_no_0 rfl ?_
  refine to_iload_n (pc := 1) X dX11_no_1 rfl ?_
  refine to_iconst (pc := 2) X dX11_no_2 (by decide) ?_
  refine cvX11_becomes (pc := 3) X wm_RX11_77 (by decide) dX11_no_3 ?_
  exact okX11_no_6 X hr
def RX11_no (vs : List tc_V) (S : tc_S) (q : tc_Q) : Prop := ∀ P : Nat → tc_B, bkX11_no_0 P q (tc_num 0 vs) [] S
theorem metX11_no : tc_Met yX11_no (Cond.code yX11_no cX11_no 2 (some .int)) ({ frames := 3, cells := 0, slots := 0, locals := 65 } : Room) 0 2 RX11_no := tc_met (rk := 0) (by decide) ⟨rfl, rfl⟩ (fun Z q X hr vs S h => okX11_no_0 X hr _ _ _ (h (tc_At 2 Z)))
theorem cvX11_no {R : Room} {cc : ByteArray} {nL pc ix : Nat} {own : String} {Z : tc_Z} {k : tc_B} (X : tc_Cx R cc nL own Z) (h1 : Cond.methodLink own ix yX11_no ∈ tc_tb) (hR : 3 + 1 ≤ R.frames ∧ 8 + (2 + 11) + 65 ≤ R.locals) (hd : decode cc pc = .ok (.invokevirtual ix, 3)) (h : tc_Ok nL Z (pc + 3) k) : tc_Ok nL Z pc (tb_callV 1 2 9 RX11_no k) := to_callV X metX11_no rfl ⟨rfl, rfl⟩ hR h1 wi_X11_no wl_X11_no wn_RX11 wc_X11_no ⟨by decide +kernel, by decide +kernel, by decide +kernel, by decide +kernel⟩ hd h
def bkX11_open_6 (P : Nat → tc_B) (q : tc_Q) : tc_B := tb_iret q
theorem okX11_open_6 {Z : tc_Z} {q : tc_Q} (X : tc_Cx ({ frames := 3, cells := 0, slots := 0, locals := 65 } : Room) cX11_open 2 RX11 Z) (hr : tc_Rt 0 cX11_open 2 Z q) : tc_Ok 2 Z 6 (bkX11_open_6 (tc_At 2 Z) q) := by
  unfold bkX11_open_6
  exact to_iret (pc := 6) hr dX11_open_6
def bkX11_open_0 (P : Nat → tc_B) (q : tc_Q) : tc_B := tb_aload 0 <| tb_iload 1 <| tb_i 0 <| tb_callV 2 4 9 RX11_becomes <| bkX11_open_6 P q
theorem okX11_open_0 {Z : tc_Z} {q : tc_Q} (X : tc_Cx ({ frames := 3, cells := 0, slots := 0, locals := 65 } : Room) cX11_open 2 RX11 Z) (hr : tc_Rt 0 cX11_open 2 Z q) : tc_Ok 2 Z 0 (bkX11_open_0 (tc_At 2 Z) q) := by
  unfold bkX11_open_0
  refine to_aload_n (pc := 0) X dX11_open_0 rfl ?_
  refine to_iload_n (pc := 1) X dX11_open_1 rfl ?_
  refine to_iconst (pc := 2) X dX11_open_2 (by decide) ?_
  refine cvX11_becomes (pc := 3) X wm_RX11_77 (by decide) dX11_open_3 ?_
  exact okX11_open_6 X hr
def RX11_open (vs : List tc_V) (S : tc_S) (q : tc_Q) : Prop := ∀ P : Nat → tc_B, bkX11_open_0 P q (tc_num 0 vs) [] S
theorem metX11_open : tc_Met yX11_open (Cond.code yX11_open cX11_open 2 (some .int)) ({ frames := 3, cells := 0, slots := 0, locals := 65 } : Room) 0 2 RX11_open := tc_met (rk := 0) (by decide) ⟨rfl, rfl⟩ (fun Z q X hr vs S h => okX11_open_0 X hr _ _ _ (h (tc_At 2 Z)))
theorem cvX11_open {R : Room} {cc : ByteArray} {nL pc ix : Nat} {own : String} {Z : tc_Z} {k : tc_B} (X : tc_Cx R cc nL own Z) (h1 : Cond.methodLink own ix yX11_open ∈ tc_tb) (hR : 3 + 1 ≤ R.frames ∧ 8 + (2 + 11) + 65 ≤ R.locals) (hd : decode cc pc = .ok (.invokevirtual ix, 3)) (h : tc_Ok nL Z (pc + 3) k) : tc_Ok nL Z pc (tb_callV 1 2 9 RX11_open k) := to_callV X metX11_open rfl ⟨rfl, rfl⟩ hR h1 wi_X11_open wl_X11_open wn_RX11 wc_X11_open ⟨by decide +kernel, by decide +kernel, by decide +kernel, by decide +kernel⟩ hd h
def bkX11_weigh_16 (P : Nat → tc_B) (q : tc_Q) : tc_B := tb_if_ne (tb_aload 0 <| tb_getf 9 2 <| tb_iload 1 <| tb_iald <| tb_istore 3 <| tb_aload 0 <| tb_getf 9 2 <| tb_iload 1 <| tb_iload 2 <| tb_iast <| tb_iload 3 <| tb_iret q) <| tb_i (-2) <| tb_iret q
theorem okX11_weigh_16 {Z : tc_Z} {q : tc_Q} (X : tc_Cx ({ frames := 2, cells := 0, slots := 0, locals := 42 } : Room) cX11_weigh 4 RX11 Z) (hr : tc_Rt 0 cX11_weigh 4 Z q) : tc_Ok 4 Z 16 (bkX11_weigh_16 (tc_At 4 Z) q) := by
  unfold bkX11_weigh_16
  refine to_if_ne (pc := 16) (tgt := 22) X dX11_weigh_16 (by decide) ?_ ?_
  · refine to_aload_n (pc := 22) X dX11_weigh_22 rfl ?_
    refine gfX11_2 (pc := 23) X wf_RX11_16 dX11_weigh_23 ?_
    refine to_iload_n (pc := 26) X dX11_weigh_26 rfl ?_
    refine to_iald (pc := 27) X dX11_weigh_27 ?_
    refine to_istore_n (pc := 28) X dX11_weigh_28 rfl (by decide) ?_
    refine to_aload_n (pc := 29) X dX11_weigh_29 rfl ?_
    refine gfX11_2 (pc := 30) X wf_RX11_16 dX11_weigh_30 ?_
    refine to_iload_n (pc := 33) X dX11_weigh_33 rfl ?_
    refine to_iload_n (pc := 34) X dX11_weigh_34 rfl ?_
    refine to_iast (pc := 35) X dX11_weigh_35 ?_
    refine to_iload_n (pc := 36) X dX11_weigh_36 rfl ?_
    exact to_iret (pc := 37) hr dX11_weigh_37
  refine to_bipush (pc := 19) X dX11_weigh_19 (by decide) ?_
  exact to_iret (pc := 21) hr dX11_weigh_21
def bkX11_weigh_4 (P : Nat → tc_B) (q : tc_Q) : tc_B := tb_if_ne (tb_iload 2 <| tb_i 0 <| tb_i 9 <| tb_callS 3 3 RX11_within <| bkX11_weigh_16 P q) <| tb_i (-1) <| tb_iret q
theorem okX11_weigh_4 {Z : tc_Z} {q : tc_Q} (X : tc_Cx ({ frames := 2, cells := 0, slots := 0, locals := 42 } : Room) cX11_weigh 4 RX11 Z) (hr : tc_Rt 0 cX11_weigh 4 Z q) : tc_Ok 4 Z 4 (bkX11_weigh_4 (tc_At 4 Z) q) := by
  unfold bkX11_weigh_4
  refine to_if_ne (pc := 4) (tgt := 9) X dX11_weigh_4 (by decide) ?_ ?_
  · refine to_iload_n (pc := 9) X dX11_weigh_9 rfl ?_
    refine to_iconst (pc := 10) X dX11_weigh_10 (by decide) ?_
    refine to_bipush (pc := 11) X dX11_weigh_11 (by decide) ?_
    refine cvX11_within (pc := 13) X wm_RX11_66 (by decide) dX11_weigh_13 ?_
    exact okX11_weigh_16 X hr
  refine to_iconst (pc := 7) X dX11_weigh_7 (by decide) ?_
  exact to_iret (pc := 8) hr dX11_weigh_8
def bkX11_weigh_0 (P : Nat → tc_B) (q : tc_Q) : tc_B := tb_iload 1 <| tb_callS 1 1 RX11_isOne <| bkX11_weigh_4 P q
theorem okX11_weigh_0 {Z : tc_Z} {q : tc_Q} (X : tc_Cx ({ frames := 2, cells := 0, slots := 0, locals := 42 } : Room) cX11_weigh 4 RX11 Z) (hr : tc_Rt 0 cX11_weigh 4 Z q) : tc_Ok 4 Z 0 (bkX11_weigh_0 (tc_At 4 Z) q) := by
  unfold bkX11_weigh_0
  refine to_iload_n (pc := 0) X dX11_weigh_0 rfl ?_
  refine cvX11_isOne (pc := 1) X wm_RX11_70 (by decide) dX11_weigh_1 ?_
  exact okX11_weigh_4 X hr
def RX11_weigh (vs : List tc_V) (S : tc_S) (q : tc_Q) : Prop := ∀ P : Nat → tc_B, bkX11_weigh_0 P q (tc_num 0 vs) [] S
theorem metX11_weigh : tc_Met yX11_weigh (Cond.code yX11_weigh cX11_weigh 4 (some .int)) ({ frames := 2, cells := 0, slots := 0, locals := 42 } : Room) 0 4 RX11_weigh := tc_met (rk := 0) (by decide) ⟨rfl, rfl⟩ (fun Z q X hr vs S h => okX11_weigh_0 X hr _ _ _ (h (tc_At 4 Z)))
theorem cvX11_weigh {R : Room} {cc : ByteArray} {nL pc ix : Nat} {own : String} {Z : tc_Z} {k : tc_B} (X : tc_Cx R cc nL own Z) (h1 : Cond.methodLink own ix yX11_weigh ∈ tc_tb) (hR : 2 + 1 ≤ R.frames ∧ 8 + (4 + 11) + 42 ≤ R.locals) (hd : decode cc pc = .ok (.invokevirtual ix, 3)) (h : tc_Ok nL Z (pc + 3) k) : tc_Ok nL Z pc (tb_callV 2 4 9 RX11_weigh k) := to_callV X metX11_weigh rfl ⟨rfl, rfl⟩ hR h1 wi_X11_weigh wl_X11_weigh wn_RX11 wc_X11_weigh ⟨by decide +kernel, by decide +kernel, by decide +kernel, by decide +kernel⟩ hd h
def bkX11_toldBy_89 (P : Nat → tc_B) (q : tc_Q) : tc_B := tb_iadd <| tb_istore 4 <| tb_iinc 5 1 <| tb_cut (P 25) [0, 2, 3, 4, 5]
theorem okX11_toldBy_89 {Z : tc_Z} {q : tc_Q} (X : tc_Cx ({ frames := 0, cells := 0, slots := 0, locals := 0 } : Room) cX11_toldBy 7 RX11 Z) (hr : tc_Rt 0 cX11_toldBy 7 Z q) : tc_Ok 7 Z 89 (bkX11_toldBy_89 (tc_At 7 Z) q) := by
  unfold bkX11_toldBy_89
  refine to_iadd (pc := 89) X dX11_toldBy_89 ?_
  refine to_istore (pc := 90) X dX11_toldBy_90 (by decide) ?_
  refine to_iinc (pc := 92) X dX11_toldBy_92 (by decide) (by decide) ?_
  refine to_goto (pc := 95) (tgt := 25) X dX11_toldBy_95 (by decide) ?_
  exact to_cut [0, 2, 3, 4, 5] (fun _ _ _ h => h)
def bkX11_toldBy_67 (P : Nat → tc_B) (q : tc_Q) : tc_B := tb_iadd <| tb_istore 3 <| tb_iload 4 <| tb_iload 6 <| tb_i (-9) <| tb_icmp_ne (tb_aload 0 <| tb_getf 9 2 <| tb_iload 5 <| tb_iald <| tb_cut (P 89) [0, 2, 3, 5]) <| tb_i 0 <| tb_cut (P 89) [0, 2, 3, 5]
theorem okX11_toldBy_67 {Z : tc_Z} {q : tc_Q} (X : tc_Cx ({ frames := 0, cells := 0, slots := 0, locals := 0 } : Room) cX11_toldBy 7 RX11 Z) (hr : tc_Rt 0 cX11_toldBy 7 Z q) : tc_Ok 7 Z 67 (bkX11_toldBy_67 (tc_At 7 Z) q) := by
  unfold bkX11_toldBy_67
  refine to_iadd (pc := 67) X dX11_toldBy_67 ?_
  refine to_istore_n (pc := 68) X dX11_toldBy_68 rfl (by decide) ?_
  refine to_iload (pc := 69) X dX11_toldBy_69 ?_
  refine to_iload (pc := 71) X dX11_toldBy_71 ?_
  refine to_bipush (pc := 73) X dX11_toldBy_73 (by decide) ?_
  refine to_icmp_ne (pc := 75) (tgt := 82) X dX11_toldBy_75 (by decide) ?_ ?_
  · refine to_aload_n (pc := 82) X dX11_toldBy_82 rfl ?_
    refine gfX11_2 (pc := 83) X wf_RX11_16 dX11_toldBy_83 ?_
    refine to_iload (pc := 86) X dX11_toldBy_86 ?_
    refine to_iald (pc := 88) X dX11_toldBy_88 ?_
    exact to_cut [0, 2, 3, 5] (fun _ _ _ h => h)
  refine to_iconst (pc := 78) X dX11_toldBy_78 (by decide) ?_
  refine to_goto (pc := 79) (tgt := 89) X dX11_toldBy_79 (by decide) ?_
  exact to_cut [0, 2, 3, 5] (fun _ _ _ h => h)
def bkX11_toldBy_25 (P : Nat → tc_B) (q : tc_Q) : tc_B := tb_iload 5 <| tb_i 4 <| tb_icmp_ge (tb_iload 4 <| tb_if_ne (tb_i 2 <| tb_iload 3 <| tb_imul <| tb_iload 4 <| tb_iadd <| tb_i 2 <| tb_iload 4 <| tb_imul <| tb_idiv <| tb_iret q) <| tb_i (-9) <| tb_iret q) <| tb_aload 0 <| tb_getf 9 0 <| tb_i 40 <| tb_iload 5 <| tb_imul <| tb_iload 2 <| tb_iadd <| tb_iald <| tb_istore 6 <| tb_iload 3 <| tb_iload 6 <| tb_i (-9) <| tb_icmp_ne (tb_aload 0 <| tb_getf 9 2 <| tb_iload 5 <| tb_iald <| tb_iload 6 <| tb_imul <| tb_cut (P 67) [0, 2, 4, 5, 6]) <| tb_i 0 <| tb_cut (P 67) [0, 2, 4, 5, 6]
theorem okX11_toldBy_25 {Z : tc_Z} {q : tc_Q} (X : tc_Cx ({ frames := 0, cells := 0, slots := 0, locals := 0 } : Room) cX11_toldBy 7 RX11 Z) (hr : tc_Rt 0 cX11_toldBy 7 Z q) : tc_Ok 7 Z 25 (bkX11_toldBy_25 (tc_At 7 Z) q) := by
  unfold bkX11_toldBy_25
  refine to_iload (pc := 25) X dX11_toldBy_25 ?_
  refine to_iconst (pc := 27) X dX11_toldBy_27 (by decide) ?_
  refine to_icmp_ge (pc := 28) (tgt := 98) X dX11_toldBy_28 (by decide) ?_ ?_
  · refine to_iload (pc := 98) X dX11_toldBy_98 ?_
    refine to_if_ne (pc := 100) (tgt := 108) X dX11_toldBy_100 (by decide) ?_ ?_
    · refine to_iconst (pc := 108) X dX11_toldBy_108 (by decide) ?_
      refine to_iload_n (pc := 109) X dX11_toldBy_109 rfl ?_
      refine to_imul (pc := 110) X dX11_toldBy_110 ?_
      refine to_iload (pc := 111) X dX11_toldBy_111 ?_
      refine to_iadd (pc := 113) X dX11_toldBy_113 ?_
      refine to_iconst (pc := 114) X dX11_toldBy_114 (by decide) ?_
      refine to_iload (pc := 115) X dX11_toldBy_115 ?_
      refine to_imul (pc := 117) X dX11_toldBy_117 ?_
      refine to_idiv (pc := 118) X dX11_toldBy_118 ?_
      exact to_iret (pc := 119) hr dX11_toldBy_119
    refine to_bipush (pc := 103) X dX11_toldBy_103 (by decide) ?_
    refine to_goto (pc := 105) (tgt := 119) X dX11_toldBy_105 (by decide) ?_
    exact to_iret (pc := 119) hr dX11_toldBy_119
  refine to_aload_n (pc := 31) X dX11_toldBy_31 rfl ?_
  refine gfX11_0 (pc := 32) X wf_RX11_7 dX11_toldBy_32 ?_
  refine to_bipush (pc := 35) X dX11_toldBy_35 (by decide) ?_
  refine to_iload (pc := 37) X dX11_toldBy_37 ?_
  refine to_imul (pc := 39) X dX11_toldBy_39 ?_
  refine to_iload_n (pc := 40) X dX11_toldBy_40 rfl ?_
  refine to_iadd (pc := 41) X dX11_toldBy_41 ?_
  refine to_iald (pc := 42) X dX11_toldBy_42 ?_
  refine to_istore (pc := 43) X dX11_toldBy_43 (by decide) ?_
  refine to_iload_n (pc := 45) X dX11_toldBy_45 rfl ?_
  refine to_iload (pc := 46) X dX11_toldBy_46 ?_
  refine to_bipush (pc := 48) X dX11_toldBy_48 (by decide) ?_
  refine to_icmp_ne (pc := 50) (tgt := 57) X dX11_toldBy_50 (by decide) ?_ ?_
  · refine to_aload_n (pc := 57) X dX11_toldBy_57 rfl ?_
    refine gfX11_2 (pc := 58) X wf_RX11_16 dX11_toldBy_58 ?_
    refine to_iload (pc := 61) X dX11_toldBy_61 ?_
    refine to_iald (pc := 63) X dX11_toldBy_63 ?_
    refine to_iload (pc := 64) X dX11_toldBy_64 ?_
    refine to_imul (pc := 66) X dX11_toldBy_66 ?_
    exact to_cut [0, 2, 4, 5, 6] (fun _ _ _ h => h)
  refine to_iconst (pc := 53) X dX11_toldBy_53 (by decide) ?_
  refine to_goto (pc := 54) (tgt := 67) X dX11_toldBy_54 (by decide) ?_
  exact to_cut [0, 2, 4, 5, 6] (fun _ _ _ h => h)
def bkX11_toldBy_0 (P : Nat → tc_B) (q : tc_Q) : tc_B := tb_iload 1 <| tb_i 4 <| tb_icmp_ge (tb_i 0 <| tb_istore 3 <| tb_i 0 <| tb_istore 4 <| tb_i 0 <| tb_istore 5 <| tb_cut (P 25) [0, 2, 3, 4, 5]) <| tb_aload 0 <| tb_getf 9 0 <| tb_i 40 <| tb_iload 1 <| tb_imul <| tb_iload 2 <| tb_iadd <| tb_iald <| tb_iret q
theorem okX11_toldBy_0 {Z : tc_Z} {q : tc_Q} (X : tc_Cx ({ frames := 0, cells := 0, slots := 0, locals := 0 } : Room) cX11_toldBy 7 RX11 Z) (hr : tc_Rt 0 cX11_toldBy 7 Z q) : tc_Ok 7 Z 0 (bkX11_toldBy_0 (tc_At 7 Z) q) := by
  unfold bkX11_toldBy_0
  refine to_iload_n (pc := 0) X dX11_toldBy_0 rfl ?_
  refine to_iconst (pc := 1) X dX11_toldBy_1 (by decide) ?_
  refine to_icmp_ge (pc := 2) (tgt := 17) X dX11_toldBy_2 (by decide) ?_ ?_
  · refine to_iconst (pc := 17) X dX11_toldBy_17 (by decide) ?_
    refine to_istore_n (pc := 18) X dX11_toldBy_18 rfl (by decide) ?_
    refine to_iconst (pc := 19) X dX11_toldBy_19 (by decide) ?_
    refine to_istore (pc := 20) X dX11_toldBy_20 (by decide) ?_
    refine to_iconst (pc := 22) X dX11_toldBy_22 (by decide) ?_
    refine to_istore (pc := 23) X dX11_toldBy_23 (by decide) ?_
    exact to_cut [0, 2, 3, 4, 5] (fun _ _ _ h => h)
  refine to_aload_n (pc := 5) X dX11_toldBy_5 rfl ?_
  refine gfX11_0 (pc := 6) X wf_RX11_7 dX11_toldBy_6 ?_
  refine to_bipush (pc := 9) X dX11_toldBy_9 (by decide) ?_
  refine to_iload_n (pc := 11) X dX11_toldBy_11 rfl ?_
  refine to_imul (pc := 12) X dX11_toldBy_12 ?_
  refine to_iload_n (pc := 13) X dX11_toldBy_13 rfl ?_
  refine to_iadd (pc := 14) X dX11_toldBy_14 ?_
  refine to_iald (pc := 15) X dX11_toldBy_15 ?_
  exact to_iret (pc := 16) hr dX11_toldBy_16
def RX11_toldBy (vs : List tc_V) (S : tc_S) (q : tc_Q) : Prop := ∀ P : Nat → tc_B, (∀ L K S, bkX11_toldBy_25 P q L K S → P 25 L K S) → (∀ L K S, bkX11_toldBy_67 P q L K S → P 67 L K S) → (∀ L K S, bkX11_toldBy_89 P q L K S → P 89 L K S) → bkX11_toldBy_0 P q (tc_num 0 vs) [] S
theorem metX11_toldBy : tc_Met yX11_toldBy (Cond.code yX11_toldBy cX11_toldBy 7 (some .int)) ({ frames := 0, cells := 0, slots := 0, locals := 0 } : Room) 0 7 RX11_toldBy := tc_met (rk := 0) (by decide) ⟨rfl, rfl⟩ (fun Z q X hr vs S h => okX11_toldBy_0 X hr _ _ _ (h (tc_At 7 Z) (okX11_toldBy_25 X hr) (okX11_toldBy_67 X hr) (okX11_toldBy_89 X hr)))
theorem cvX11_toldBy {R : Room} {cc : ByteArray} {nL pc ix : Nat} {own : String} {Z : tc_Z} {k : tc_B} (X : tc_Cx R cc nL own Z) (h1 : Cond.methodLink own ix yX11_toldBy ∈ tc_tb) (hR : 0 + 1 ≤ R.frames ∧ 8 + (7 + 11) + 0 ≤ R.locals) (hd : decode cc pc = .ok (.invokevirtual ix, 3)) (h : tc_Ok nL Z (pc + 3) k) : tc_Ok nL Z pc (tb_callV 2 7 9 RX11_toldBy k) := to_callV X metX11_toldBy rfl ⟨rfl, rfl⟩ hR h1 wi_X11_toldBy wl_X11_toldBy wn_RX11 wc_X11_toldBy ⟨by decide +kernel, by decide +kernel, by decide +kernel, by decide +kernel⟩ hd h
def bkX11_told_20 (P : Nat → tc_B) (q : tc_Q) : tc_B := tb_iret q
theorem okX11_told_20 {Z : tc_Z} {q : tc_Q} (X : tc_Cx ({ frames := 2, cells := 0, slots := 0, locals := 42 } : Room) cX11_told 3 RX11 Z) (hr : tc_Rt 0 cX11_told 3 Z q) : tc_Ok 3 Z 20 (bkX11_told_20 (tc_At 3 Z) q) := by
  unfold bkX11_told_20
  refine to_goto (pc := 20) (tgt := 24) X dX11_told_20 (by decide) ?_
  exact to_iret (pc := 24) hr dX11_told_24
def bkX11_told_11 (P : Nat → tc_B) (q : tc_Q) : tc_B := tb_if_eq (tb_i (-1) <| tb_iret q) <| tb_aload 0 <| tb_iload 1 <| tb_iload 2 <| tb_callV 2 7 9 RX11_toldBy <| bkX11_told_20 P q
theorem okX11_told_11 {Z : tc_Z} {q : tc_Q} (X : tc_Cx ({ frames := 2, cells := 0, slots := 0, locals := 42 } : Room) cX11_told 3 RX11 Z) (hr : tc_Rt 0 cX11_told 3 Z q) : tc_Ok 3 Z 11 (bkX11_told_11 (tc_At 3 Z) q) := by
  unfold bkX11_told_11
  refine to_if_eq (pc := 11) (tgt := 23) X dX11_told_11 (by decide) ?_ ?_
  · refine to_iconst (pc := 23) X dX11_told_23 (by decide) ?_
    exact to_iret (pc := 24) hr dX11_told_24
  refine to_aload_n (pc := 14) X dX11_told_14 rfl ?_
  refine to_iload_n (pc := 15) X dX11_told_15 rfl ?_
  refine to_iload_n (pc := 16) X dX11_told_16 rfl ?_
  refine cvX11_toldBy (pc := 17) X wm_RX11_84 (by decide) dX11_told_17 ?_
  exact okX11_told_20 X hr
def bkX11_told_4 (P : Nat → tc_B) (q : tc_Q) : tc_B := tb_if_eq (tb_i (-1) <| tb_iret q) <| tb_iload 2 <| tb_callS 1 1 RX11_isEvent <| bkX11_told_11 P q
theorem okX11_told_4 {Z : tc_Z} {q : tc_Q} (X : tc_Cx ({ frames := 2, cells := 0, slots := 0, locals := 42 } : Room) cX11_told 3 RX11 Z) (hr : tc_Rt 0 cX11_told 3 Z q) : tc_Ok 3 Z 4 (bkX11_told_4 (tc_At 3 Z) q) := by
  unfold bkX11_told_4
  refine to_if_eq (pc := 4) (tgt := 23) X dX11_told_4 (by decide) ?_ ?_
  · refine to_iconst (pc := 23) X dX11_told_23 (by decide) ?_
    exact to_iret (pc := 24) hr dX11_told_24
  refine to_iload_n (pc := 7) X dX11_told_7 rfl ?_
  refine cvX11_isEvent (pc := 8) X wm_RX11_74 (by decide) dX11_told_8 ?_
  exact okX11_told_11 X hr
def bkX11_told_0 (P : Nat → tc_B) (q : tc_Q) : tc_B := tb_iload 1 <| tb_callS 1 1 RX11_isAny <| bkX11_told_4 P q
theorem okX11_told_0 {Z : tc_Z} {q : tc_Q} (X : tc_Cx ({ frames := 2, cells := 0, slots := 0, locals := 42 } : Room) cX11_told 3 RX11 Z) (hr : tc_Rt 0 cX11_told 3 Z q) : tc_Ok 3 Z 0 (bkX11_told_0 (tc_At 3 Z) q) := by
  unfold bkX11_told_0
  refine to_iload_n (pc := 0) X dX11_told_0 rfl ?_
  refine cvX11_isAny (pc := 1) X wm_RX11_81 (by decide) dX11_told_1 ?_
  exact okX11_told_4 X hr
def RX11_told (vs : List tc_V) (S : tc_S) (q : tc_Q) : Prop := ∀ P : Nat → tc_B, bkX11_told_0 P q (tc_num 0 vs) [] S
theorem metX11_told : tc_Met yX11_told (Cond.code yX11_told cX11_told 3 (some .int)) ({ frames := 2, cells := 0, slots := 0, locals := 42 } : Room) 0 3 RX11_told := tc_met (rk := 0) (by decide) ⟨rfl, rfl⟩ (fun Z q X hr vs S h => okX11_told_0 X hr _ _ _ (h (tc_At 3 Z)))
theorem cvX11_told {R : Room} {cc : ByteArray} {nL pc ix : Nat} {own : String} {Z : tc_Z} {k : tc_B} (X : tc_Cx R cc nL own Z) (h1 : Cond.methodLink own ix yX11_told ∈ tc_tb) (hR : 2 + 1 ≤ R.frames ∧ 8 + (3 + 11) + 42 ≤ R.locals) (hd : decode cc pc = .ok (.invokevirtual ix, 3)) (h : tc_Ok nL Z (pc + 3) k) : tc_Ok nL Z pc (tb_callV 2 3 9 RX11_told k) := to_callV X metX11_told rfl ⟨rfl, rfl⟩ hR h1 wi_X11_told wl_X11_told wn_RX11 wc_X11_told ⟨by decide +kernel, by decide +kernel, by decide +kernel, by decide +kernel⟩ hd h
def bkX11_came_4 (P : Nat → tc_B) (q : tc_Q) : tc_B := tb_if_eq (tb_i (-1) <| tb_iret q) <| tb_aload 0 <| tb_getf 9 1 <| tb_iload 1 <| tb_iald <| tb_iret q
theorem okX11_came_4 {Z : tc_Z} {q : tc_Q} (X : tc_Cx ({ frames := 2, cells := 0, slots := 0, locals := 42 } : Room) cX11_came 2 RX11 Z) (hr : tc_Rt 0 cX11_came 2 Z q) : tc_Ok 2 Z 4 (bkX11_came_4 (tc_At 2 Z) q) := by
  unfold bkX11_came_4
  refine to_if_eq (pc := 4) (tgt := 16) X dX11_came_4 (by decide) ?_ ?_
  · refine to_iconst (pc := 16) X dX11_came_16 (by decide) ?_
    exact to_iret (pc := 17) hr dX11_came_17
  refine to_aload_n (pc := 7) X dX11_came_7 rfl ?_
  refine gfX11_1 (pc := 8) X wf_RX11_13 dX11_came_8 ?_
  refine to_iload_n (pc := 11) X dX11_came_11 rfl ?_
  refine to_iald (pc := 12) X dX11_came_12 ?_
  refine to_goto (pc := 13) (tgt := 17) X dX11_came_13 (by decide) ?_
  exact to_iret (pc := 17) hr dX11_came_17
def bkX11_came_0 (P : Nat → tc_B) (q : tc_Q) : tc_B := tb_iload 1 <| tb_callS 1 1 RX11_isEvent <| bkX11_came_4 P q
theorem okX11_came_0 {Z : tc_Z} {q : tc_Q} (X : tc_Cx ({ frames := 2, cells := 0, slots := 0, locals := 42 } : Room) cX11_came 2 RX11 Z) (hr : tc_Rt 0 cX11_came 2 Z q) : tc_Ok 2 Z 0 (bkX11_came_0 (tc_At 2 Z) q) := by
  unfold bkX11_came_0
  refine to_iload_n (pc := 0) X dX11_came_0 rfl ?_
  refine cvX11_isEvent (pc := 1) X wm_RX11_74 (by decide) dX11_came_1 ?_
  exact okX11_came_4 X hr
def RX11_came (vs : List tc_V) (S : tc_S) (q : tc_Q) : Prop := ∀ P : Nat → tc_B, bkX11_came_0 P q (tc_num 0 vs) [] S
theorem metX11_came : tc_Met yX11_came (Cond.code yX11_came cX11_came 2 (some .int)) ({ frames := 2, cells := 0, slots := 0, locals := 42 } : Room) 0 2 RX11_came := tc_met (rk := 0) (by decide) ⟨rfl, rfl⟩ (fun Z q X hr vs S h => okX11_came_0 X hr _ _ _ (h (tc_At 2 Z)))
theorem cvX11_came {R : Room} {cc : ByteArray} {nL pc ix : Nat} {own : String} {Z : tc_Z} {k : tc_B} (X : tc_Cx R cc nL own Z) (h1 : Cond.methodLink own ix yX11_came ∈ tc_tb) (hR : 2 + 1 ≤ R.frames ∧ 8 + (2 + 11) + 42 ≤ R.locals) (hd : decode cc pc = .ok (.invokevirtual ix, 3)) (h : tc_Ok nL Z (pc + 3) k) : tc_Ok nL Z pc (tb_callV 1 2 9 RX11_came k) := to_callV X metX11_came rfl ⟨rfl, rfl⟩ hR h1 wi_X11_came wl_X11_came wn_RX11 wc_X11_came ⟨by decide +kernel, by decide +kernel, by decide +kernel, by decide +kernel⟩ hd h
def bkX11_key_7 (P : Nat → tc_B) (q : tc_Q) : tc_B := tb_if_ne (tb_aload 0 <| tb_getf 9 4 <| tb_i 24 <| tb_icmp_ne (tb_aload 0 <| tb_getf 9 3 <| tb_aload 0 <| tb_getf 9 4 <| tb_iload 1 <| tb_iast <| tb_aload 0 <| tb_dup <| tb_getf 9 4 <| tb_i 1 <| tb_iadd <| tb_putI 9 4 <| tb_aload 0 <| tb_getf 9 4 <| tb_iret q) <| tb_i (-4) <| tb_iret q) <| tb_i (-2) <| tb_iret q
theorem okX11_key_7 {Z : tc_Z} {q : tc_Q} (X : tc_Cx ({ frames := 1, cells := 0, slots := 0, locals := 22 } : Room) cX11_key 2 RX11 Z) (hr : tc_Rt 0 cX11_key 2 Z q) : tc_Ok 2 Z 7 (bkX11_key_7 (tc_At 2 Z) q) := by
  unfold bkX11_key_7
  refine to_if_ne (pc := 7) (tgt := 13) X dX11_key_7 (by decide) ?_ ?_
  · refine to_aload_n (pc := 13) X dX11_key_13 rfl ?_
    refine gfX11_4 (pc := 14) X wf_RX11_87 dX11_key_14 ?_
    refine to_bipush (pc := 17) X dX11_key_17 (by decide) ?_
    refine to_icmp_ne (pc := 19) (tgt := 25) X dX11_key_19 (by decide) ?_ ?_
    · refine to_aload_n (pc := 25) X dX11_key_25 rfl ?_
      refine gfX11_3 (pc := 26) X wf_RX11_19 dX11_key_26 ?_
      refine to_aload_n (pc := 29) X dX11_key_29 rfl ?_
      refine gfX11_4 (pc := 30) X wf_RX11_87 dX11_key_30 ?_
      refine to_iload_n (pc := 33) X dX11_key_33 rfl ?_
      refine to_iast (pc := 34) X dX11_key_34 ?_
      refine to_aload_n (pc := 35) X dX11_key_35 rfl ?_
      refine to_dup (pc := 36) X dX11_key_36 ?_
      refine gfX11_4 (pc := 37) X wf_RX11_87 dX11_key_37 ?_
      refine to_iconst (pc := 40) X dX11_key_40 (by decide) ?_
      refine to_iadd (pc := 41) X dX11_key_41 ?_
      refine pfX11_4 (pc := 42) X wf_RX11_87 dX11_key_42 ?_
      refine to_aload_n (pc := 45) X dX11_key_45 rfl ?_
      refine gfX11_4 (pc := 46) X wf_RX11_87 dX11_key_46 ?_
      exact to_iret (pc := 49) hr dX11_key_49
    refine to_bipush (pc := 22) X dX11_key_22 (by decide) ?_
    exact to_iret (pc := 24) hr dX11_key_24
  refine to_bipush (pc := 10) X dX11_key_10 (by decide) ?_
  exact to_iret (pc := 12) hr dX11_key_12
def bkX11_key_0 (P : Nat → tc_B) (q : tc_Q) : tc_B := tb_iload 1 <| tb_i 0 <| tb_i 127 <| tb_callS 3 3 RX11_within <| bkX11_key_7 P q
theorem okX11_key_0 {Z : tc_Z} {q : tc_Q} (X : tc_Cx ({ frames := 1, cells := 0, slots := 0, locals := 22 } : Room) cX11_key 2 RX11 Z) (hr : tc_Rt 0 cX11_key 2 Z q) : tc_Ok 2 Z 0 (bkX11_key_0 (tc_At 2 Z) q) := by
  unfold bkX11_key_0
  refine to_iload_n (pc := 0) X dX11_key_0 rfl ?_
  refine to_iconst (pc := 1) X dX11_key_1 (by decide) ?_
  refine to_bipush (pc := 2) X dX11_key_2 (by decide) ?_
  refine cvX11_within (pc := 4) X wm_RX11_66 (by decide) dX11_key_4 ?_
  exact okX11_key_7 X hr
def RX11_key (vs : List tc_V) (S : tc_S) (q : tc_Q) : Prop := ∀ P : Nat → tc_B, bkX11_key_0 P q (tc_num 0 vs) [] S
theorem metX11_key : tc_Met yX11_key (Cond.code yX11_key cX11_key 2 (some .int)) ({ frames := 1, cells := 0, slots := 0, locals := 22 } : Room) 0 2 RX11_key := tc_met (rk := 0) (by decide) ⟨rfl, rfl⟩ (fun Z q X hr vs S h => okX11_key_0 X hr _ _ _ (h (tc_At 2 Z)))
theorem cvX11_key {R : Room} {cc : ByteArray} {nL pc ix : Nat} {own : String} {Z : tc_Z} {k : tc_B} (X : tc_Cx R cc nL own Z) (h1 : Cond.methodLink own ix yX11_key ∈ tc_tb) (hR : 1 + 1 ≤ R.frames ∧ 8 + (2 + 11) + 22 ≤ R.locals) (hd : decode cc pc = .ok (.invokevirtual ix, 3)) (h : tc_Ok nL Z (pc + 3) k) : tc_Ok nL Z pc (tb_callV 1 2 9 RX11_key k) := to_callV X metX11_key rfl ⟨rfl, rfl⟩ hR h1 wi_X11_key wl_X11_key wn_RX11 wc_X11_key ⟨by decide +kernel, by decide +kernel, by decide +kernel, by decide +kernel⟩ hd h
def bkX11_wipe_0 (P : Nat → tc_B) (q : tc_Q) : tc_B := tb_aload 0 <| tb_getf 9 4 <| tb_istore 1 <| tb_aload 0 <| tb_i 0 <| tb_putI 9 4 <| tb_iload 1 <| tb_iret q
theorem okX11_wipe_0 {Z : tc_Z} {q : tc_Q} (X : tc_Cx ({ frames := 0, cells := 0, slots := 0, locals := 0 } : Room) cX11_wipe 2 RX11 Z) (hr : tc_Rt 0 cX11_wipe 2 Z q) : tc_Ok 2 Z 0 (bkX11_wipe_0 (tc_At 2 Z) q) := by
  unfold bkX11_wipe_0
  refine to_aload_n (pc := 0) X dX11_wipe_0 rfl ?_
  refine gfX11_4 (pc := 1) X wf_RX11_87 dX11_wipe_1 ?_
  refine to_istore_n (pc := 4) X dX11_wipe_4 rfl (by decide) ?_
  refine to_aload_n (pc := 5) X dX11_wipe_5 rfl ?_
  refine to_iconst (pc := 6) X dX11_wipe_6 (by decide) ?_
  refine pfX11_4 (pc := 7) X wf_RX11_87 dX11_wipe_7 ?_
  refine to_iload_n (pc := 10) X dX11_wipe_10 rfl ?_
  exact to_iret (pc := 11) hr dX11_wipe_11
def RX11_wipe (vs : List tc_V) (S : tc_S) (q : tc_Q) : Prop := ∀ P : Nat → tc_B, bkX11_wipe_0 P q (tc_num 0 vs) [] S
theorem metX11_wipe : tc_Met yX11_wipe (Cond.code yX11_wipe cX11_wipe 2 (some .int)) ({ frames := 0, cells := 0, slots := 0, locals := 0 } : Room) 0 2 RX11_wipe := tc_met (rk := 0) (by decide) ⟨rfl, rfl⟩ (fun Z q X hr vs S h => okX11_wipe_0 X hr _ _ _ (h (tc_At 2 Z)))
theorem cvX11_wipe {R : Room} {cc : ByteArray} {nL pc ix : Nat} {own : String} {Z : tc_Z} {k : tc_B} (X : tc_Cx R cc nL own Z) (h1 : Cond.methodLink own ix yX11_wipe ∈ tc_tb) (hR : 0 + 1 ≤ R.frames ∧ 8 + (2 + 11) + 0 ≤ R.locals) (hd : decode cc pc = .ok (.invokevirtual ix, 3)) (h : tc_Ok nL Z (pc + 3) k) : tc_Ok nL Z pc (tb_callV 0 2 9 RX11_wipe k) := to_callV X metX11_wipe rfl ⟨rfl, rfl⟩ hR h1 wi_X11_wipe wl_X11_wipe wn_RX11 wc_X11_wipe ⟨by decide +kernel, by decide +kernel, by decide +kernel, by decide +kernel⟩ hd h
def bkX11_wordLong_2 (P : Nat → tc_B) (q : tc_Q) : tc_B := tb_iload 2 <| tb_i 6 <| tb_icmp_ge (tb_iload 2 <| tb_iret q) <| tb_aload 0 <| tb_getf 9 5 <| tb_i 6 <| tb_iload 1 <| tb_imul <| tb_iload 2 <| tb_iadd <| tb_iald <| tb_if_eq (tb_iload 2 <| tb_iret q) <| tb_iinc 2 1 <| tb_cut (P 2) [0, 1, 2]
theorem okX11_wordLong_2 {Z : tc_Z} {q : tc_Q} (X : tc_Cx ({ frames := 0, cells := 0, slots := 0, locals := 0 } : Room) cX11_wordLong 3 RX11 Z) (hr : tc_Rt 0 cX11_wordLong 3 Z q) : tc_Ok 3 Z 2 (bkX11_wordLong_2 (tc_At 3 Z) q) := by
  unfold bkX11_wordLong_2
  refine to_iload_n (pc := 2) X dX11_wordLong_2 rfl ?_
  refine to_bipush (pc := 3) X dX11_wordLong_3 (by decide) ?_
  refine to_icmp_ge (pc := 5) (tgt := 28) X dX11_wordLong_5 (by decide) ?_ ?_
  · refine to_iload_n (pc := 28) X dX11_wordLong_28 rfl ?_
    exact to_iret (pc := 29) hr dX11_wordLong_29
  refine to_aload_n (pc := 8) X dX11_wordLong_8 rfl ?_
  refine gfX11_5 (pc := 9) X wf_RX11_22 dX11_wordLong_9 ?_
  refine to_bipush (pc := 12) X dX11_wordLong_12 (by decide) ?_
  refine to_iload_n (pc := 14) X dX11_wordLong_14 rfl ?_
  refine to_imul (pc := 15) X dX11_wordLong_15 ?_
  refine to_iload_n (pc := 16) X dX11_wordLong_16 rfl ?_
  refine to_iadd (pc := 17) X dX11_wordLong_17 ?_
  refine to_iald (pc := 18) X dX11_wordLong_18 ?_
  refine to_if_eq (pc := 19) (tgt := 28) X dX11_wordLong_19 (by decide) ?_ ?_
  · refine to_iload_n (pc := 28) X dX11_wordLong_28 rfl ?_
    exact to_iret (pc := 29) hr dX11_wordLong_29
  refine to_iinc (pc := 22) X dX11_wordLong_22 (by decide) (by decide) ?_
  refine to_goto (pc := 25) (tgt := 2) X dX11_wordLong_25 (by decide) ?_
  exact to_cut [0, 1, 2] (fun _ _ _ h => h)
def bkX11_wordLong_0 (P : Nat → tc_B) (q : tc_Q) : tc_B := tb_i 0 <| tb_istore 2 <| tb_cut (P 2) [0, 1, 2]
theorem okX11_wordLong_0 {Z : tc_Z} {q : tc_Q} (X : tc_Cx ({ frames := 0, cells := 0, slots := 0, locals := 0 } : Room) cX11_wordLong 3 RX11 Z) (hr : tc_Rt 0 cX11_wordLong 3 Z q) : tc_Ok 3 Z 0 (bkX11_wordLong_0 (tc_At 3 Z) q) := by
  unfold bkX11_wordLong_0
  refine to_iconst (pc := 0) X dX11_wordLong_0 (by decide) ?_
  refine to_istore_n (pc := 1) X dX11_wordLong_1 rfl (by decide) ?_
  exact to_cut [0, 1, 2] (fun _ _ _ h => h)
def RX11_wordLong (vs : List tc_V) (S : tc_S) (q : tc_Q) : Prop := ∀ P : Nat → tc_B, (∀ L K S, bkX11_wordLong_2 P q L K S → P 2 L K S) → bkX11_wordLong_0 P q (tc_num 0 vs) [] S
theorem metX11_wordLong : tc_Met yX11_wordLong (Cond.code yX11_wordLong cX11_wordLong 3 (some .int)) ({ frames := 0, cells := 0, slots := 0, locals := 0 } : Room) 0 3 RX11_wordLong := tc_met (rk := 0) (by decide) ⟨rfl, rfl⟩ (fun Z q X hr vs S h => okX11_wordLong_0 X hr _ _ _ (h (tc_At 3 Z) (okX11_wordLong_2 X hr)))
theorem cvX11_wordLong {R : Room} {cc : ByteArray} {nL pc ix : Nat} {own : String} {Z : tc_Z} {k : tc_B} (X : tc_Cx R cc nL own Z) (h1 : Cond.methodLink own ix yX11_wordLong ∈ tc_tb) (hR : 0 + 1 ≤ R.frames ∧ 8 + (3 + 11) + 0 ≤ R.locals) (hd : decode cc pc = .ok (.invokevirtual ix, 3)) (h : tc_Ok nL Z (pc + 3) k) : tc_Ok nL Z pc (tb_callV 1 3 9 RX11_wordLong k) := to_callV X metX11_wordLong rfl ⟨rfl, rfl⟩ hR h1 wi_X11_wordLong wl_X11_wordLong wn_RX11 wc_X11_wordLong ⟨by decide +kernel, by decide +kernel, by decide +kernel, by decide +kernel⟩ hd h
def bkX11_readsWord_84 (P : Nat → tc_B) (q : tc_Q) : tc_B := tb_aload 0 <| tb_getf 9 6 <| tb_iload 1 <| tb_icmp_ge (tb_i 1 <| tb_zret q) <| tb_aload 0 <| tb_getf 9 6 <| tb_aload 0 <| tb_getf 9 4 <| tb_icmp_eq (tb_i 0 <| tb_zret q) <| tb_aload 0 <| tb_getf 9 7 <| tb_i (-9) <| tb_icmp_eq (tb_i 0 <| tb_zret q) <| tb_aload 0 <| tb_getf 9 3 <| tb_aload 0 <| tb_getf 9 6 <| tb_iald <| tb_aload 0 <| tb_getf 9 5 <| tb_i 6 <| tb_aload 0 <| tb_getf 9 7 <| tb_imul <| tb_aload 0 <| tb_getf 9 6 <| tb_iadd <| tb_iald <| tb_icmp_eq (tb_aload 0 <| tb_dup <| tb_getf 9 6 <| tb_i 1 <| tb_iadd <| tb_putI 9 6 <| tb_cut (P 84) [0, 1]) <| tb_i 0 <| tb_zret q
theorem okX11_readsWord_84 {Z : tc_Z} {q : tc_Q} (X : tc_Cx ({ frames := 1, cells := 0, slots := 0, locals := 22 } : Room) cX11_readsWord 2 RX11 Z) (hr : tc_Rt 1 cX11_readsWord 2 Z q) : tc_Ok 2 Z 84 (bkX11_readsWord_84 (tc_At 2 Z) q) := by
  unfold bkX11_readsWord_84
  refine to_aload_n (pc := 84) X dX11_readsWord_84 rfl ?_
  refine gfX11_6 (pc := 85) X wf_RX11_94 dX11_readsWord_85 ?_
  refine to_iload_n (pc := 88) X dX11_readsWord_88 rfl ?_
  refine to_icmp_ge (pc := 89) (tgt := 156) X dX11_readsWord_89 (by decide) ?_ ?_
  · refine to_iconst (pc := 156) X dX11_readsWord_156 (by decide) ?_
    exact to_zret (pc := 157) hr dX11_readsWord_157
  refine to_aload_n (pc := 92) X dX11_readsWord_92 rfl ?_
  refine gfX11_6 (pc := 93) X wf_RX11_94 dX11_readsWord_93 ?_
  refine to_aload_n (pc := 96) X dX11_readsWord_96 rfl ?_
  refine gfX11_4 (pc := 97) X wf_RX11_87 dX11_readsWord_97 ?_
  refine to_icmp_eq (pc := 100) (tgt := 141) X dX11_readsWord_100 (by decide) ?_ ?_
  · refine to_iconst (pc := 141) X dX11_readsWord_141 (by decide) ?_
    exact to_zret (pc := 142) hr dX11_readsWord_142
  refine to_aload_n (pc := 103) X dX11_readsWord_103 rfl ?_
  refine gfX11_7 (pc := 104) X wf_RX11_91 dX11_readsWord_104 ?_
  refine to_bipush (pc := 107) X dX11_readsWord_107 (by decide) ?_
  refine to_icmp_eq (pc := 109) (tgt := 141) X dX11_readsWord_109 (by decide) ?_ ?_
  · refine to_iconst (pc := 141) X dX11_readsWord_141 (by decide) ?_
    exact to_zret (pc := 142) hr dX11_readsWord_142
  refine to_aload_n (pc := 112) X dX11_readsWord_112 rfl ?_
  refine gfX11_3 (pc := 113) X wf_RX11_19 dX11_readsWord_113 ?_
  refine to_aload_n (pc := 116) X dX11_readsWord_116 rfl ?_
  refine gfX11_6 (pc := 117) X wf_RX11_94 dX11_readsWord_117 ?_
  refine to_iald (pc := 120) X dX11_readsWord_120 ?_
  refine to_aload_n (pc := 121) X dX11_readsWord_121 rfl ?_
  refine gfX11_5 (pc := 122) X wf_RX11_22 dX11_readsWord_122 ?_
  refine to_bipush (pc := 125) X dX11_readsWord_125 (by decide) ?_
  refine to_aload_n (pc := 127) X dX11_readsWord_127 rfl ?_
  refine gfX11_7 (pc := 128) X wf_RX11_91 dX11_readsWord_128 ?_
  refine to_imul (pc := 131) X dX11_readsWord_131 ?_
  refine to_aload_n (pc := 132) X dX11_readsWord_132 rfl ?_
  refine gfX11_6 (pc := 133) X wf_RX11_94 dX11_readsWord_133 ?_
  refine to_iadd (pc := 136) X dX11_readsWord_136 ?_
  refine to_iald (pc := 137) X dX11_readsWord_137 ?_
  refine to_icmp_eq (pc := 138) (tgt := 143) X dX11_readsWord_138 (by decide) ?_ ?_
  · refine to_aload_n (pc := 143) X dX11_readsWord_143 rfl ?_
    refine to_dup (pc := 144) X dX11_readsWord_144 ?_
    refine gfX11_6 (pc := 145) X wf_RX11_94 dX11_readsWord_145 ?_
    refine to_iconst (pc := 148) X dX11_readsWord_148 (by decide) ?_
    refine to_iadd (pc := 149) X dX11_readsWord_149 ?_
    refine pfX11_6 (pc := 150) X wf_RX11_94 dX11_readsWord_150 ?_
    refine to_goto (pc := 153) (tgt := 84) X dX11_readsWord_153 (by decide) ?_
    exact to_cut [0, 1] (fun _ _ _ h => h)
  refine to_iconst (pc := 141) X dX11_readsWord_141 (by decide) ?_
  exact to_zret (pc := 142) hr dX11_readsWord_142
def bkX11_readsWord_83 (P : Nat → tc_B) (q : tc_Q) : tc_B := tb_istore 1 <| tb_cut (P 84) [0, 1]
theorem okX11_readsWord_83 {Z : tc_Z} {q : tc_Q} (X : tc_Cx ({ frames := 1, cells := 0, slots := 0, locals := 22 } : Room) cX11_readsWord 2 RX11 Z) (hr : tc_Rt 1 cX11_readsWord 2 Z q) : tc_Ok 2 Z 83 (bkX11_readsWord_83 (tc_At 2 Z) q) := by
  unfold bkX11_readsWord_83
  refine to_istore_n (pc := 83) X dX11_readsWord_83 rfl (by decide) ?_
  exact to_cut [0, 1] (fun _ _ _ h => h)
def bkX11_readsWord_57 (P : Nat → tc_B) (q : tc_Q) : tc_B := tb_aload 0 <| tb_i 0 <| tb_putI 9 6 <| tb_aload 0 <| tb_getf 9 7 <| tb_i (-9) <| tb_icmp_ne (tb_aload 0 <| tb_aload 0 <| tb_getf 9 7 <| tb_callV 1 3 9 RX11_wordLong <| tb_cut (P 83) [0]) <| tb_i 1 <| tb_cut (P 83) [0]
theorem okX11_readsWord_57 {Z : tc_Z} {q : tc_Q} (X : tc_Cx ({ frames := 1, cells := 0, slots := 0, locals := 22 } : Room) cX11_readsWord 2 RX11 Z) (hr : tc_Rt 1 cX11_readsWord 2 Z q) : tc_Ok 2 Z 57 (bkX11_readsWord_57 (tc_At 2 Z) q) := by
  unfold bkX11_readsWord_57
  refine to_aload_n (pc := 57) X dX11_readsWord_57 rfl ?_
  refine to_iconst (pc := 58) X dX11_readsWord_58 (by decide) ?_
  refine pfX11_6 (pc := 59) X wf_RX11_94 dX11_readsWord_59 ?_
  refine to_aload_n (pc := 62) X dX11_readsWord_62 rfl ?_
  refine gfX11_7 (pc := 63) X wf_RX11_91 dX11_readsWord_63 ?_
  refine to_bipush (pc := 66) X dX11_readsWord_66 (by decide) ?_
  refine to_icmp_ne (pc := 68) (tgt := 75) X dX11_readsWord_68 (by decide) ?_ ?_
  · refine to_aload_n (pc := 75) X dX11_readsWord_75 rfl ?_
    refine to_aload_n (pc := 76) X dX11_readsWord_76 rfl ?_
    refine gfX11_7 (pc := 77) X wf_RX11_91 dX11_readsWord_77 ?_
    refine cvX11_wordLong (pc := 80) X wm_RX11_97 (by decide) dX11_readsWord_80 ?_
    exact to_cut [0] (fun _ _ _ h => h)
  refine to_iconst (pc := 71) X dX11_readsWord_71 (by decide) ?_
  refine to_goto (pc := 72) (tgt := 83) X dX11_readsWord_72 (by decide) ?_
  exact to_cut [0] (fun _ _ _ h => h)
def bkX11_readsWord_48 (P : Nat → tc_B) (q : tc_Q) : tc_B := tb_putI 9 7 <| tb_iinc 1 1 <| tb_cut (P 8) [0, 1]
theorem okX11_readsWord_48 {Z : tc_Z} {q : tc_Q} (X : tc_Cx ({ frames := 1, cells := 0, slots := 0, locals := 22 } : Room) cX11_readsWord 2 RX11 Z) (hr : tc_Rt 1 cX11_readsWord 2 Z q) : tc_Ok 2 Z 48 (bkX11_readsWord_48 (tc_At 2 Z) q) := by
  unfold bkX11_readsWord_48
  refine pfX11_7 (pc := 48) X wf_RX11_91 dX11_readsWord_48 ?_
  refine to_iinc (pc := 51) X dX11_readsWord_51 (by decide) (by decide) ?_
  refine to_goto (pc := 54) (tgt := 8) X dX11_readsWord_54 (by decide) ?_
  exact to_cut [0, 1] (fun _ _ _ h => h)
def bkX11_readsWord_8 (P : Nat → tc_B) (q : tc_Q) : tc_B := tb_iload 1 <| tb_i 6 <| tb_icmp_ge (tb_cut (P 57) [0]) <| tb_aload 0 <| tb_getf 9 4 <| tb_if_le (tb_cut (P 57) [0]) <| tb_aload 0 <| tb_aload 0 <| tb_getf 9 3 <| tb_i 0 <| tb_iald <| tb_aload 0 <| tb_getf 9 5 <| tb_i 6 <| tb_iload 1 <| tb_imul <| tb_iald <| tb_icmp_ne (tb_aload 0 <| tb_getf 9 7 <| tb_cut (P 48) [0, 1]) <| tb_iload 1 <| tb_cut (P 48) [0, 1]
theorem okX11_readsWord_8 {Z : tc_Z} {q : tc_Q} (X : tc_Cx ({ frames := 1, cells := 0, slots := 0, locals := 22 } : Room) cX11_readsWord 2 RX11 Z) (hr : tc_Rt 1 cX11_readsWord 2 Z q) : tc_Ok 2 Z 8 (bkX11_readsWord_8 (tc_At 2 Z) q) := by
  unfold bkX11_readsWord_8
  refine to_iload_n (pc := 8) X dX11_readsWord_8 rfl ?_
  refine to_bipush (pc := 9) X dX11_readsWord_9 (by decide) ?_
  refine to_icmp_ge (pc := 11) (tgt := 57) X dX11_readsWord_11 (by decide) ?_ ?_
  · exact to_cut [0] (fun _ _ _ h => h)
  refine to_aload_n (pc := 14) X dX11_readsWord_14 rfl ?_
  refine gfX11_4 (pc := 15) X wf_RX11_87 dX11_readsWord_15 ?_
  refine to_if_le (pc := 18) (tgt := 57) X dX11_readsWord_18 (by decide) ?_ ?_
  · exact to_cut [0] (fun _ _ _ h => h)
  refine to_aload_n (pc := 21) X dX11_readsWord_21 rfl ?_
  refine to_aload_n (pc := 22) X dX11_readsWord_22 rfl ?_
  refine gfX11_3 (pc := 23) X wf_RX11_19 dX11_readsWord_23 ?_
  refine to_iconst (pc := 26) X dX11_readsWord_26 (by decide) ?_
  refine to_iald (pc := 27) X dX11_readsWord_27 ?_
  refine to_aload_n (pc := 28) X dX11_readsWord_28 rfl ?_
  refine gfX11_5 (pc := 29) X wf_RX11_22 dX11_readsWord_29 ?_
  refine to_bipush (pc := 32) X dX11_readsWord_32 (by decide) ?_
  refine to_iload_n (pc := 34) X dX11_readsWord_34 rfl ?_
  refine to_imul (pc := 35) X dX11_readsWord_35 ?_
  refine to_iald (pc := 36) X dX11_readsWord_36 ?_
  refine to_icmp_ne (pc := 37) (tgt := 44) X dX11_readsWord_37 (by decide) ?_ ?_
  · refine to_aload_n (pc := 44) X dX11_readsWord_44 rfl ?_
    refine gfX11_7 (pc := 45) X wf_RX11_91 dX11_readsWord_45 ?_
    exact to_cut [0, 1] (fun _ _ _ h => h)
  refine to_iload_n (pc := 40) X dX11_readsWord_40 rfl ?_
  refine to_goto (pc := 41) (tgt := 48) X dX11_readsWord_41 (by decide) ?_
  exact to_cut [0, 1] (fun _ _ _ h => h)
def bkX11_readsWord_0 (P : Nat → tc_B) (q : tc_Q) : tc_B := tb_aload 0 <| tb_i (-9) <| tb_putI 9 7 <| tb_i 0 <| tb_istore 1 <| tb_cut (P 8) [0, 1]
theorem okX11_readsWord_0 {Z : tc_Z} {q : tc_Q} (X : tc_Cx ({ frames := 1, cells := 0, slots := 0, locals := 22 } : Room) cX11_readsWord 2 RX11 Z) (hr : tc_Rt 1 cX11_readsWord 2 Z q) : tc_Ok 2 Z 0 (bkX11_readsWord_0 (tc_At 2 Z) q) := by
  unfold bkX11_readsWord_0
  refine to_aload_n (pc := 0) X dX11_readsWord_0 rfl ?_
  refine to_bipush (pc := 1) X dX11_readsWord_1 (by decide) ?_
  refine pfX11_7 (pc := 3) X wf_RX11_91 dX11_readsWord_3 ?_
  refine to_iconst (pc := 6) X dX11_readsWord_6 (by decide) ?_
  refine to_istore_n (pc := 7) X dX11_readsWord_7 rfl (by decide) ?_
  exact to_cut [0, 1] (fun _ _ _ h => h)
def RX11_readsWord (vs : List tc_V) (S : tc_S) (q : tc_Q) : Prop := ∀ P : Nat → tc_B, (∀ L K S, bkX11_readsWord_8 P q L K S → P 8 L K S) → (∀ L K S, bkX11_readsWord_48 P q L K S → P 48 L K S) → (∀ L K S, bkX11_readsWord_57 P q L K S → P 57 L K S) → (∀ L K S, bkX11_readsWord_83 P q L K S → P 83 L K S) → (∀ L K S, bkX11_readsWord_84 P q L K S → P 84 L K S) → bkX11_readsWord_0 P q (tc_num 0 vs) [] S
theorem metX11_readsWord : tc_Met yX11_readsWord (Cond.code yX11_readsWord cX11_readsWord 2 (some .boolean)) ({ frames := 1, cells := 0, slots := 0, locals := 22 } : Room) 1 2 RX11_readsWord := tc_met (rk := 1) (by decide) ⟨rfl, rfl⟩ (fun Z q X hr vs S h => okX11_readsWord_0 X hr _ _ _ (h (tc_At 2 Z) (okX11_readsWord_8 X hr) (okX11_readsWord_48 X hr) (okX11_readsWord_57 X hr) (okX11_readsWord_83 X hr) (okX11_readsWord_84 X hr)))
theorem cvX11_readsWord {R : Room} {cc : ByteArray} {nL pc ix : Nat} {own : String} {Z : tc_Z} {k : tc_B} (X : tc_Cx R cc nL own Z) (h1 : Cond.methodLink own ix yX11_readsWord ∈ tc_tb) (hR : 1 + 1 ≤ R.frames ∧ 8 + (2 + 11) + 22 ≤ R.locals) (hd : decode cc pc = .ok (.invokevirtual ix, 3)) (h : tc_Ok nL Z (pc + 3) k) : tc_Ok nL Z pc (tb_callV 0 2 9 RX11_readsWord k) := to_callV X metX11_readsWord rfl ⟨rfl, rfl⟩ hR h1 wi_X11_readsWord wl_X11_readsWord wn_RX11 wc_X11_readsWord ⟨by decide +kernel, by decide +kernel, by decide +kernel, by decide +kernel⟩ hd h
def bkX11_manyNumbers_18 (P : Nat → tc_B) (q : tc_Q) : tc_B := tb_i 2 <| tb_iret q
theorem okX11_manyNumbers_18 {Z : tc_Z} {q : tc_Q} (X : tc_Cx ({ frames := 0, cells := 0, slots := 0, locals := 0 } : Room) cX11_manyNumbers 1 RX11 Z) (hr : tc_Rt 0 cX11_manyNumbers 1 Z q) : tc_Ok 1 Z 18 (bkX11_manyNumbers_18 (tc_At 1 Z) q) := by
  unfold bkX11_manyNumbers_18
  refine to_iconst (pc := 18) X dX11_manyNumbers_18 (by decide) ?_
  refine to_goto (pc := 19) (tgt := 23) X dX11_manyNumbers_19 (by decide) ?_
  exact to_iret (pc := 23) hr dX11_manyNumbers_23
def bkX11_manyNumbers_0 (P : Nat → tc_B) (q : tc_Q) : tc_B := tb_iload 0 <| tb_if_ne (tb_iload 0 <| tb_i 1 <| tb_icmp_eq (tb_cut (P 18) []) <| tb_iload 0 <| tb_i 5 <| tb_icmp_ne (tb_i 1 <| tb_iret q) <| tb_cut (P 18) []) <| tb_i 3 <| tb_iret q
theorem okX11_manyNumbers_0 {Z : tc_Z} {q : tc_Q} (X : tc_Cx ({ frames := 0, cells := 0, slots := 0, locals := 0 } : Room) cX11_manyNumbers 1 RX11 Z) (hr : tc_Rt 0 cX11_manyNumbers 1 Z q) : tc_Ok 1 Z 0 (bkX11_manyNumbers_0 (tc_At 1 Z) q) := by
  unfold bkX11_manyNumbers_0
  refine to_iload_n (pc := 0) X dX11_manyNumbers_0 rfl ?_
  refine to_if_ne (pc := 1) (tgt := 8) X dX11_manyNumbers_1 (by decide) ?_ ?_
  · refine to_iload_n (pc := 8) X dX11_manyNumbers_8 rfl ?_
    refine to_iconst (pc := 9) X dX11_manyNumbers_9 (by decide) ?_
    refine to_icmp_eq (pc := 10) (tgt := 18) X dX11_manyNumbers_10 (by decide) ?_ ?_
    · exact to_cut [] (fun _ _ _ h => h)
    refine to_iload_n (pc := 13) X dX11_manyNumbers_13 rfl ?_
    refine to_iconst (pc := 14) X dX11_manyNumbers_14 (by decide) ?_
    refine to_icmp_ne (pc := 15) (tgt := 22) X dX11_manyNumbers_15 (by decide) ?_ ?_
    · refine to_iconst (pc := 22) X dX11_manyNumbers_22 (by decide) ?_
      exact to_iret (pc := 23) hr dX11_manyNumbers_23
    exact to_cut [] (fun _ _ _ h => h)
  refine to_iconst (pc := 4) X dX11_manyNumbers_4 (by decide) ?_
  refine to_goto (pc := 5) (tgt := 23) X dX11_manyNumbers_5 (by decide) ?_
  exact to_iret (pc := 23) hr dX11_manyNumbers_23
def RX11_manyNumbers (vs : List tc_V) (S : tc_S) (q : tc_Q) : Prop := ∀ P : Nat → tc_B, (∀ L K S, bkX11_manyNumbers_18 P q L K S → P 18 L K S) → bkX11_manyNumbers_0 P q (tc_num 0 vs) [] S
theorem metX11_manyNumbers : tc_Met yX11_manyNumbers (Cond.code yX11_manyNumbers cX11_manyNumbers 1 (some .int)) ({ frames := 0, cells := 0, slots := 0, locals := 0 } : Room) 0 1 RX11_manyNumbers := tc_met (rk := 0) (by decide) ⟨rfl, rfl⟩ (fun Z q X hr vs S h => okX11_manyNumbers_0 X hr _ _ _ (h (tc_At 1 Z) (okX11_manyNumbers_18 X hr)))
theorem cvX11_manyNumbers {R : Room} {cc : ByteArray} {nL pc ix : Nat} {own : String} {Z : tc_Z} {k : tc_B} (X : tc_Cx R cc nL own Z) (h1 : Cond.methodLink own ix yX11_manyNumbers ∈ tc_tb) (hR : 0 + 1 ≤ R.frames ∧ 8 + (1 + 11) + 0 ≤ R.locals) (hd : decode cc pc = .ok (.invokestatic ix, 3)) (h : tc_Ok nL Z (pc + 3) k) : tc_Ok nL Z pc (tb_callS 1 1 RX11_manyNumbers k) := to_callS X metX11_manyNumbers ⟨rfl, rfl⟩ hR h1 ws_X11_manyNumbers wn_RX11 wc_X11_manyNumbers ⟨by decide +kernel, by decide +kernel, by decide +kernel⟩ hd h
def bkX11_greatest_0 (P : Nat → tc_B) (q : tc_Q) : tc_B := tb_iload 0 <| tb_i 2 <| tb_icmp_eq (tb_i 39 <| tb_iret q) <| tb_iload 0 <| tb_i 3 <| tb_icmp_eq (tb_i 39 <| tb_iret q) <| tb_iload 0 <| tb_i 4 <| tb_icmp_ne (tb_iload 1 <| tb_if_ne (tb_iload 0 <| tb_i 5 <| tb_icmp_ne (tb_iload 1 <| tb_i 1 <| tb_icmp_ne (tb_i 100 <| tb_iret q) <| tb_i 39 <| tb_iret q) <| tb_i 9 <| tb_iret q) <| tb_i 3 <| tb_iret q) <| tb_i 39 <| tb_iret q
theorem okX11_greatest_0 {Z : tc_Z} {q : tc_Q} (X : tc_Cx ({ frames := 0, cells := 0, slots := 0, locals := 0 } : Room) cX11_greatest 2 RX11 Z) (hr : tc_Rt 0 cX11_greatest 2 Z q) : tc_Ok 2 Z 0 (bkX11_greatest_0 (tc_At 2 Z) q) := by
  unfold bkX11_greatest_0
  refine to_iload_n (pc := 0) X dX11_greatest_0 rfl ?_
  refine to_iconst (pc := 1) X dX11_greatest_1 (by decide) ?_
  refine to_icmp_eq (pc := 2) (tgt := 15) X dX11_greatest_2 (by decide) ?_ ?_
  · refine to_bipush (pc := 15) X dX11_greatest_15 (by decide) ?_
    exact to_iret (pc := 17) hr dX11_greatest_17
  refine to_iload_n (pc := 5) X dX11_greatest_5 rfl ?_
  refine to_iconst (pc := 6) X dX11_greatest_6 (by decide) ?_
  refine to_icmp_eq (pc := 7) (tgt := 15) X dX11_greatest_7 (by decide) ?_ ?_
  · refine to_bipush (pc := 15) X dX11_greatest_15 (by decide) ?_
    exact to_iret (pc := 17) hr dX11_greatest_17
  refine to_iload_n (pc := 10) X dX11_greatest_10 rfl ?_
  refine to_iconst (pc := 11) X dX11_greatest_11 (by decide) ?_
  refine to_icmp_ne (pc := 12) (tgt := 18) X dX11_greatest_12 (by decide) ?_ ?_
  · refine to_iload_n (pc := 18) X dX11_greatest_18 rfl ?_
    refine to_if_ne (pc := 19) (tgt := 24) X dX11_greatest_19 (by decide) ?_ ?_
    · refine to_iload_n (pc := 24) X dX11_greatest_24 rfl ?_
      refine to_iconst (pc := 25) X dX11_greatest_25 (by decide) ?_
      refine to_icmp_ne (pc := 26) (tgt := 34) X dX11_greatest_26 (by decide) ?_ ?_
      · refine to_iload_n (pc := 34) X dX11_greatest_34 rfl ?_
        refine to_iconst (pc := 35) X dX11_greatest_35 (by decide) ?_
        refine to_icmp_ne (pc := 36) (tgt := 44) X dX11_greatest_36 (by decide) ?_ ?_
        · refine to_bipush (pc := 44) X dX11_greatest_44 (by decide) ?_
          exact to_iret (pc := 46) hr dX11_greatest_46
        refine to_bipush (pc := 39) X dX11_greatest_39 (by decide) ?_
        refine to_goto (pc := 41) (tgt := 46) X dX11_greatest_41 (by decide) ?_
        exact to_iret (pc := 46) hr dX11_greatest_46
      refine to_bipush (pc := 29) X dX11_greatest_29 (by decide) ?_
      refine to_goto (pc := 31) (tgt := 46) X dX11_greatest_31 (by decide) ?_
      exact to_iret (pc := 46) hr dX11_greatest_46
    refine to_iconst (pc := 22) X dX11_greatest_22 (by decide) ?_
    exact to_iret (pc := 23) hr dX11_greatest_23
  refine to_bipush (pc := 15) X dX11_greatest_15 (by decide) ?_
  exact to_iret (pc := 17) hr dX11_greatest_17
def RX11_greatest (vs : List tc_V) (S : tc_S) (q : tc_Q) : Prop := ∀ P : Nat → tc_B, bkX11_greatest_0 P q (tc_num 0 vs) [] S
theorem metX11_greatest : tc_Met yX11_greatest (Cond.code yX11_greatest cX11_greatest 2 (some .int)) ({ frames := 0, cells := 0, slots := 0, locals := 0 } : Room) 0 2 RX11_greatest := tc_met (rk := 0) (by decide) ⟨rfl, rfl⟩ (fun Z q X hr vs S h => okX11_greatest_0 X hr _ _ _ (h (tc_At 2 Z)))
theorem cvX11_greatest {R : Room} {cc : ByteArray} {nL pc ix : Nat} {own : String} {Z : tc_Z} {k : tc_B} (X : tc_Cx R cc nL own Z) (h1 : Cond.methodLink own ix yX11_greatest ∈ tc_tb) (hR : 0 + 1 ≤ R.frames ∧ 8 + (2 + 11) + 0 ≤ R.locals) (hd : decode cc pc = .ok (.invokestatic ix, 3)) (h : tc_Ok nL Z (pc + 3) k) : tc_Ok nL Z pc (tb_callS 2 2 RX11_greatest k) := to_callS X metX11_greatest ⟨rfl, rfl⟩ hR h1 ws_X11_greatest wn_RX11 wc_X11_greatest ⟨by decide +kernel, by decide +kernel, by decide +kernel⟩ hd h
def bkX11_isFigure_27 (P : Nat → tc_B) (q : tc_Q) : tc_B := tb_if_eq (tb_i 0 <| tb_zret q) <| tb_i 1 <| tb_zret q
theorem okX11_isFigure_27 {Z : tc_Z} {q : tc_Q} (X : tc_Cx ({ frames := 1, cells := 0, slots := 0, locals := 22 } : Room) cX11_isFigure 1 RX11 Z) (hr : tc_Rt 1 cX11_isFigure 1 Z q) : tc_Ok 1 Z 27 (bkX11_isFigure_27 (tc_At 1 Z) q) := by
  unfold bkX11_isFigure_27
  refine to_if_eq (pc := 27) (tgt := 34) X dX11_isFigure_27 (by decide) ?_ ?_
  · refine to_iconst (pc := 34) X dX11_isFigure_34 (by decide) ?_
    exact to_zret (pc := 35) hr dX11_isFigure_35
  refine to_iconst (pc := 30) X dX11_isFigure_30 (by decide) ?_
  refine to_goto (pc := 31) (tgt := 35) X dX11_isFigure_31 (by decide) ?_
  exact to_zret (pc := 35) hr dX11_isFigure_35
def bkX11_isFigure_0 (P : Nat → tc_B) (q : tc_Q) : tc_B := tb_aload 0 <| tb_getf 9 6 <| tb_aload 0 <| tb_getf 9 4 <| tb_icmp_ge (tb_i 0 <| tb_zret q) <| tb_aload 0 <| tb_getf 9 3 <| tb_aload 0 <| tb_getf 9 6 <| tb_iald <| tb_i 48 <| tb_i 57 <| tb_callS 3 3 RX11_within <| bkX11_isFigure_27 P q
theorem okX11_isFigure_0 {Z : tc_Z} {q : tc_Q} (X : tc_Cx ({ frames := 1, cells := 0, slots := 0, locals := 22 } : Room) cX11_isFigure 1 RX11 Z) (hr : tc_Rt 1 cX11_isFigure 1 Z q) : tc_Ok 1 Z 0 (bkX11_isFigure_0 (tc_At 1 Z) q) := by
  unfold bkX11_isFigure_0
  refine to_aload_n (pc := 0) X dX11_isFigure_0 rfl ?_
  refine gfX11_6 (pc := 1) X wf_RX11_94 dX11_isFigure_1 ?_
  refine to_aload_n (pc := 4) X dX11_isFigure_4 rfl ?_
  refine gfX11_4 (pc := 5) X wf_RX11_87 dX11_isFigure_5 ?_
  refine to_icmp_ge (pc := 8) (tgt := 34) X dX11_isFigure_8 (by decide) ?_ ?_
  · refine to_iconst (pc := 34) X dX11_isFigure_34 (by decide) ?_
    exact to_zret (pc := 35) hr dX11_isFigure_35
  refine to_aload_n (pc := 11) X dX11_isFigure_11 rfl ?_
  refine gfX11_3 (pc := 12) X wf_RX11_19 dX11_isFigure_12 ?_
  refine to_aload_n (pc := 15) X dX11_isFigure_15 rfl ?_
  refine gfX11_6 (pc := 16) X wf_RX11_94 dX11_isFigure_16 ?_
  refine to_iald (pc := 19) X dX11_isFigure_19 ?_
  refine to_bipush (pc := 20) X dX11_isFigure_20 (by decide) ?_
  refine to_bipush (pc := 22) X dX11_isFigure_22 (by decide) ?_
  refine cvX11_within (pc := 24) X wm_RX11_66 (by decide) dX11_isFigure_24 ?_
  exact okX11_isFigure_27 X hr
def RX11_isFigure (vs : List tc_V) (S : tc_S) (q : tc_Q) : Prop := ∀ P : Nat → tc_B, bkX11_isFigure_0 P q (tc_num 0 vs) [] S
theorem metX11_isFigure : tc_Met yX11_isFigure (Cond.code yX11_isFigure cX11_isFigure 1 (some .boolean)) ({ frames := 1, cells := 0, slots := 0, locals := 22 } : Room) 1 1 RX11_isFigure := tc_met (rk := 1) (by decide) ⟨rfl, rfl⟩ (fun Z q X hr vs S h => okX11_isFigure_0 X hr _ _ _ (h (tc_At 1 Z)))
theorem cvX11_isFigure {R : Room} {cc : ByteArray} {nL pc ix : Nat} {own : String} {Z : tc_Z} {k : tc_B} (X : tc_Cx R cc nL own Z) (h1 : Cond.methodLink own ix yX11_isFigure ∈ tc_tb) (hR : 1 + 1 ≤ R.frames ∧ 8 + (1 + 11) + 22 ≤ R.locals) (hd : decode cc pc = .ok (.invokevirtual ix, 3)) (h : tc_Ok nL Z (pc + 3) k) : tc_Ok nL Z pc (tb_callV 0 1 9 RX11_isFigure k) := to_callV X metX11_isFigure rfl ⟨rfl, rfl⟩ hR h1 wi_X11_isFigure wl_X11_isFigure wn_RX11 wc_X11_isFigure ⟨by decide +kernel, by decide +kernel, by decide +kernel, by decide +kernel⟩ hd h
def bkX11_readsNumber_117 (P : Nat → tc_B) (q : tc_Q) : tc_B := tb_aload 0 <| tb_getf 9 8 <| tb_iload 1 <| tb_iload 2 <| tb_iast <| tb_iload 3 <| tb_if_le (tb_i 0 <| tb_zret q) <| tb_i 1 <| tb_zret q
theorem okX11_readsNumber_117 {Z : tc_Z} {q : tc_Q} (X : tc_Cx ({ frames := 2, cells := 0, slots := 0, locals := 42 } : Room) cX11_readsNumber 4 RX11 Z) (hr : tc_Rt 1 cX11_readsNumber 4 Z q) : tc_Ok 4 Z 117 (bkX11_readsNumber_117 (tc_At 4 Z) q) := by
  unfold bkX11_readsNumber_117
  refine to_aload_n (pc := 117) X dX11_readsNumber_117 rfl ?_
  refine gfX11_8 (pc := 118) X wf_RX11_25 dX11_readsNumber_118 ?_
  refine to_iload_n (pc := 121) X dX11_readsNumber_121 rfl ?_
  refine to_iload_n (pc := 122) X dX11_readsNumber_122 rfl ?_
  refine to_iast (pc := 123) X dX11_readsNumber_123 ?_
  refine to_iload_n (pc := 124) X dX11_readsNumber_124 rfl ?_
  refine to_if_le (pc := 125) (tgt := 132) X dX11_readsNumber_125 (by decide) ?_ ?_
  · refine to_iconst (pc := 132) X dX11_readsNumber_132 (by decide) ?_
    exact to_zret (pc := 133) hr dX11_readsNumber_133
  refine to_iconst (pc := 128) X dX11_readsNumber_128 (by decide) ?_
  refine to_goto (pc := 129) (tgt := 133) X dX11_readsNumber_129 (by decide) ?_
  exact to_zret (pc := 133) hr dX11_readsNumber_133
def bkX11_readsNumber_78 (P : Nat → tc_B) (q : tc_Q) : tc_B := tb_icmp_le (tb_i 10 <| tb_iload 2 <| tb_imul <| tb_aload 0 <| tb_getf 9 3 <| tb_aload 0 <| tb_getf 9 6 <| tb_iald <| tb_iadd <| tb_i 48 <| tb_isub <| tb_istore 2 <| tb_iinc 3 1 <| tb_aload 0 <| tb_dup <| tb_getf 9 6 <| tb_i 1 <| tb_iadd <| tb_putI 9 6 <| tb_cut (P 41) [0, 1, 2, 3]) <| tb_i 0 <| tb_zret q
theorem okX11_readsNumber_78 {Z : tc_Z} {q : tc_Q} (X : tc_Cx ({ frames := 2, cells := 0, slots := 0, locals := 42 } : Room) cX11_readsNumber 4 RX11 Z) (hr : tc_Rt 1 cX11_readsNumber 4 Z q) : tc_Ok 4 Z 78 (bkX11_readsNumber_78 (tc_At 4 Z) q) := by
  unfold bkX11_readsNumber_78
  refine to_icmp_le (pc := 78) (tgt := 83) X dX11_readsNumber_78 (by decide) ?_ ?_
  · refine to_bipush (pc := 83) X dX11_readsNumber_83 (by decide) ?_
    refine to_iload_n (pc := 85) X dX11_readsNumber_85 rfl ?_
    refine to_imul (pc := 86) X dX11_readsNumber_86 ?_
    refine to_aload_n (pc := 87) X dX11_readsNumber_87 rfl ?_
    refine gfX11_3 (pc := 88) X wf_RX11_19 dX11_readsNumber_88 ?_
    refine to_aload_n (pc := 91) X dX11_readsNumber_91 rfl ?_
    refine gfX11_6 (pc := 92) X wf_RX11_94 dX11_readsNumber_92 ?_
    refine to_iald (pc := 95) X dX11_readsNumber_95 ?_
    refine to_iadd (pc := 96) X dX11_readsNumber_96 ?_
    refine to_bipush (pc := 97) X dX11_readsNumber_97 (by decide) ?_
    refine to_isub (pc := 99) X dX11_readsNumber_99 ?_
    refine to_istore_n (pc := 100) X dX11_readsNumber_100 rfl (by decide) ?_
    refine to_iinc (pc := 101) X dX11_readsNumber_101 (by decide) (by decide) ?_
    refine to_aload_n (pc := 104) X dX11_readsNumber_104 rfl ?_
    refine to_dup (pc := 105) X dX11_readsNumber_105 ?_
    refine gfX11_6 (pc := 106) X wf_RX11_94 dX11_readsNumber_106 ?_
    refine to_iconst (pc := 109) X dX11_readsNumber_109 (by decide) ?_
    refine to_iadd (pc := 110) X dX11_readsNumber_110 ?_
    refine pfX11_6 (pc := 111) X wf_RX11_94 dX11_readsNumber_111 ?_
    refine to_goto (pc := 114) (tgt := 41) X dX11_readsNumber_114 (by decide) ?_
    exact to_cut [0, 1, 2, 3] (fun _ _ _ h => h)
  refine to_iconst (pc := 81) X dX11_readsNumber_81 (by decide) ?_
  exact to_zret (pc := 82) hr dX11_readsNumber_82
def bkX11_readsNumber_45 (P : Nat → tc_B) (q : tc_Q) : tc_B := tb_if_eq (tb_cut (P 117) [0, 1, 2, 3]) <| tb_iload 3 <| tb_i 3 <| tb_icmp_ge (tb_cut (P 117) [0, 1, 2, 3]) <| tb_i 10 <| tb_iload 2 <| tb_imul <| tb_aload 0 <| tb_getf 9 3 <| tb_aload 0 <| tb_getf 9 6 <| tb_iald <| tb_iadd <| tb_i 48 <| tb_isub <| tb_aload 0 <| tb_getf 9 7 <| tb_iload 1 <| tb_callS 2 2 RX11_greatest <| bkX11_readsNumber_78 P q
theorem okX11_readsNumber_45 {Z : tc_Z} {q : tc_Q} (X : tc_Cx ({ frames := 2, cells := 0, slots := 0, locals := 42 } : Room) cX11_readsNumber 4 RX11 Z) (hr : tc_Rt 1 cX11_readsNumber 4 Z q) : tc_Ok 4 Z 45 (bkX11_readsNumber_45 (tc_At 4 Z) q) := by
  unfold bkX11_readsNumber_45
  refine to_if_eq (pc := 45) (tgt := 117) X dX11_readsNumber_45 (by decide) ?_ ?_
  · exact to_cut [0, 1, 2, 3] (fun _ _ _ h => h)
  refine to_iload_n (pc := 48) X dX11_readsNumber_48 rfl ?_
  refine to_iconst (pc := 49) X dX11_readsNumber_49 (by decide) ?_
  refine to_icmp_ge (pc := 50) (tgt := 117) X dX11_readsNumber_50 (by decide) ?_ ?_
  · exact to_cut [0, 1, 2, 3] (fun _ _ _ h => h)
  refine to_bipush (pc := 53) X dX11_readsNumber_53 (by decide) ?_
  refine to_iload_n (pc := 55) X dX11_readsNumber_55 rfl ?_
  refine to_imul (pc := 56) X dX11_readsNumber_56 ?_
  refine to_aload_n (pc := 57) X dX11_readsNumber_57 rfl ?_
  refine gfX11_3 (pc := 58) X wf_RX11_19 dX11_readsNumber_58 ?_
  refine to_aload_n (pc := 61) X dX11_readsNumber_61 rfl ?_
  refine gfX11_6 (pc := 62) X wf_RX11_94 dX11_readsNumber_62 ?_
  refine to_iald (pc := 65) X dX11_readsNumber_65 ?_
  refine to_iadd (pc := 66) X dX11_readsNumber_66 ?_
  refine to_bipush (pc := 67) X dX11_readsNumber_67 (by decide) ?_
  refine to_isub (pc := 69) X dX11_readsNumber_69 ?_
  refine to_aload_n (pc := 70) X dX11_readsNumber_70 rfl ?_
  refine gfX11_7 (pc := 71) X wf_RX11_91 dX11_readsNumber_71 ?_
  refine to_iload_n (pc := 74) X dX11_readsNumber_74 rfl ?_
  refine cvX11_greatest (pc := 75) X wm_RX11_105 (by decide) dX11_readsNumber_75 ?_
  exact okX11_readsNumber_78 X hr
def bkX11_readsNumber_41 (P : Nat → tc_B) (q : tc_Q) : tc_B := tb_aload 0 <| tb_callV 0 1 9 RX11_isFigure <| bkX11_readsNumber_45 P q
theorem okX11_readsNumber_41 {Z : tc_Z} {q : tc_Q} (X : tc_Cx ({ frames := 2, cells := 0, slots := 0, locals := 42 } : Room) cX11_readsNumber 4 RX11 Z) (hr : tc_Rt 1 cX11_readsNumber 4 Z q) : tc_Ok 4 Z 41 (bkX11_readsNumber_41 (tc_At 4 Z) q) := by
  unfold bkX11_readsNumber_41
  refine to_aload_n (pc := 41) X dX11_readsNumber_41 rfl ?_
  refine cvX11_isFigure (pc := 42) X wm_RX11_101 (by decide) dX11_readsNumber_42 ?_
  exact okX11_readsNumber_45 X hr
def bkX11_readsNumber_0 (P : Nat → tc_B) (q : tc_Q) : tc_B := tb_aload 0 <| tb_getf 9 6 <| tb_aload 0 <| tb_getf 9 4 <| tb_icmp_eq (tb_i 0 <| tb_zret q) <| tb_aload 0 <| tb_getf 9 3 <| tb_aload 0 <| tb_getf 9 6 <| tb_iald <| tb_i 32 <| tb_icmp_eq (tb_aload 0 <| tb_dup <| tb_getf 9 6 <| tb_i 1 <| tb_iadd <| tb_putI 9 6 <| tb_i 0 <| tb_istore 2 <| tb_i 0 <| tb_istore 3 <| tb_cut (P 41) [0, 1, 2, 3]) <| tb_i 0 <| tb_zret q
theorem okX11_readsNumber_0 {Z : tc_Z} {q : tc_Q} (X : tc_Cx ({ frames := 2, cells := 0, slots := 0, locals := 42 } : Room) cX11_readsNumber 4 RX11 Z) (hr : tc_Rt 1 cX11_readsNumber 4 Z q) : tc_Ok 4 Z 0 (bkX11_readsNumber_0 (tc_At 4 Z) q) := by
  unfold bkX11_readsNumber_0
  refine to_aload_n (pc := 0) X dX11_readsNumber_0 rfl ?_
  refine gfX11_6 (pc := 1) X wf_RX11_94 dX11_readsNumber_1 ?_
  refine to_aload_n (pc := 4) X dX11_readsNumber_4 rfl ?_
  refine gfX11_4 (pc := 5) X wf_RX11_87 dX11_readsNumber_5 ?_
  refine to_icmp_eq (pc := 8) (tgt := 25) X dX11_readsNumber_8 (by decide) ?_ ?_
  · refine to_iconst (pc := 25) X dX11_readsNumber_25 (by decide) ?_
    exact to_zret (pc := 26) hr dX11_readsNumber_26
  refine to_aload_n (pc := 11) X dX11_readsNumber_11 rfl ?_
  refine gfX11_3 (pc := 12) X wf_RX11_19 dX11_readsNumber_12 ?_
  refine to_aload_n (pc := 15) X dX11_readsNumber_15 rfl ?_
  refine gfX11_6 (pc := 16) X wf_RX11_94 dX11_readsNumber_16 ?_
  refine to_iald (pc := 19) X dX11_readsNumber_19 ?_
  refine to_bipush (pc := 20) X dX11_readsNumber_20 (by decide) ?_
  refine to_icmp_eq (pc := 22) (tgt := 27) X dX11_readsNumber_22 (by decide) ?_ ?_
  · refine to_aload_n (pc := 27) X dX11_readsNumber_27 rfl ?_
    refine to_dup (pc := 28) X dX11_readsNumber_28 ?_
    refine gfX11_6 (pc := 29) X wf_RX11_94 dX11_readsNumber_29 ?_
    refine to_iconst (pc := 32) X dX11_readsNumber_32 (by decide) ?_
    refine to_iadd (pc := 33) X dX11_readsNumber_33 ?_
    refine pfX11_6 (pc := 34) X wf_RX11_94 dX11_readsNumber_34 ?_
    refine to_iconst (pc := 37) X dX11_readsNumber_37 (by decide) ?_
    refine to_istore_n (pc := 38) X dX11_readsNumber_38 rfl (by decide) ?_
    refine to_iconst (pc := 39) X dX11_readsNumber_39 (by decide) ?_
    refine to_istore_n (pc := 40) X dX11_readsNumber_40 rfl (by decide) ?_
    exact to_cut [0, 1, 2, 3] (fun _ _ _ h => h)
  refine to_iconst (pc := 25) X dX11_readsNumber_25 (by decide) ?_
  exact to_zret (pc := 26) hr dX11_readsNumber_26
def RX11_readsNumber (vs : List tc_V) (S : tc_S) (q : tc_Q) : Prop := ∀ P : Nat → tc_B, (∀ L K S, bkX11_readsNumber_41 P q L K S → P 41 L K S) → (∀ L K S, bkX11_readsNumber_117 P q L K S → P 117 L K S) → bkX11_readsNumber_0 P q (tc_num 0 vs) [] S
theorem metX11_readsNumber : tc_Met yX11_readsNumber (Cond.code yX11_readsNumber cX11_readsNumber 4 (some .boolean)) ({ frames := 2, cells := 0, slots := 0, locals := 42 } : Room) 1 4 RX11_readsNumber := tc_met (rk := 1) (by decide) ⟨rfl, rfl⟩ (fun Z q X hr vs S h => okX11_readsNumber_0 X hr _ _ _ (h (tc_At 4 Z) (okX11_readsNumber_41 X hr) (okX11_readsNumber_117 X hr)))
theorem cvX11_readsNumber {R : Room} {cc : ByteArray} {nL pc ix : Nat} {own : String} {Z : tc_Z} {k : tc_B} (X : tc_Cx R cc nL own Z) (h1 : Cond.methodLink own ix yX11_readsNumber ∈ tc_tb) (hR : 2 + 1 ≤ R.frames ∧ 8 + (4 + 11) + 42 ≤ R.locals) (hd : decode cc pc = .ok (.invokevirtual ix, 3)) (h : tc_Ok nL Z (pc + 3) k) : tc_Ok nL Z pc (tb_callV 1 4 9 RX11_readsNumber k) := to_callV X metX11_readsNumber rfl ⟨rfl, rfl⟩ hR h1 wi_X11_readsNumber wl_X11_readsNumber wn_RX11 wc_X11_readsNumber ⟨by decide +kernel, by decide +kernel, by decide +kernel, by decide +kernel⟩ hd h
def bkX11_readsLine_27 (P : Nat → tc_B) (q : tc_Q) : tc_B := tb_if_ne (tb_iinc 1 1 <| tb_cut (P 11) [0, 1]) <| tb_i 0 <| tb_zret q
theorem okX11_readsLine_27 {Z : tc_Z} {q : tc_Q} (X : tc_Cx ({ frames := 3, cells := 0, slots := 0, locals := 65 } : Room) cX11_readsLine 2 RX11 Z) (hr : tc_Rt 1 cX11_readsLine 2 Z q) : tc_Ok 2 Z 27 (bkX11_readsLine_27 (tc_At 2 Z) q) := by
  unfold bkX11_readsLine_27
  refine to_if_ne (pc := 27) (tgt := 32) X dX11_readsLine_27 (by decide) ?_ ?_
  · refine to_iinc (pc := 32) X dX11_readsLine_32 (by decide) (by decide) ?_
    refine to_goto (pc := 35) (tgt := 11) X dX11_readsLine_35 (by decide) ?_
    exact to_cut [0, 1] (fun _ _ _ h => h)
  refine to_iconst (pc := 30) X dX11_readsLine_30 (by decide) ?_
  exact to_zret (pc := 31) hr dX11_readsLine_31
def bkX11_readsLine_19 (P : Nat → tc_B) (q : tc_Q) : tc_B := tb_icmp_ge (tb_aload 0 <| tb_getf 9 6 <| tb_aload 0 <| tb_getf 9 4 <| tb_icmp_ne (tb_i 0 <| tb_zret q) <| tb_i 1 <| tb_zret q) <| tb_aload 0 <| tb_iload 1 <| tb_callV 1 4 9 RX11_readsNumber <| bkX11_readsLine_27 P q
theorem okX11_readsLine_19 {Z : tc_Z} {q : tc_Q} (X : tc_Cx ({ frames := 3, cells := 0, slots := 0, locals := 65 } : Room) cX11_readsLine 2 RX11 Z) (hr : tc_Rt 1 cX11_readsLine 2 Z q) : tc_Ok 2 Z 19 (bkX11_readsLine_19 (tc_At 2 Z) q) := by
  unfold bkX11_readsLine_19
  refine to_icmp_ge (pc := 19) (tgt := 38) X dX11_readsLine_19 (by decide) ?_ ?_
  · refine to_aload_n (pc := 38) X dX11_readsLine_38 rfl ?_
    refine gfX11_6 (pc := 39) X wf_RX11_94 dX11_readsLine_39 ?_
    refine to_aload_n (pc := 42) X dX11_readsLine_42 rfl ?_
    refine gfX11_4 (pc := 43) X wf_RX11_87 dX11_readsLine_43 ?_
    refine to_icmp_ne (pc := 46) (tgt := 53) X dX11_readsLine_46 (by decide) ?_ ?_
    · refine to_iconst (pc := 53) X dX11_readsLine_53 (by decide) ?_
      exact to_zret (pc := 54) hr dX11_readsLine_54
    refine to_iconst (pc := 49) X dX11_readsLine_49 (by decide) ?_
    refine to_goto (pc := 50) (tgt := 54) X dX11_readsLine_50 (by decide) ?_
    exact to_zret (pc := 54) hr dX11_readsLine_54
  refine to_aload_n (pc := 22) X dX11_readsLine_22 rfl ?_
  refine to_iload_n (pc := 23) X dX11_readsLine_23 rfl ?_
  refine cvX11_readsNumber (pc := 24) X wm_RX11_114 (by decide) dX11_readsLine_24 ?_
  exact okX11_readsLine_27 X hr
def bkX11_readsLine_11 (P : Nat → tc_B) (q : tc_Q) : tc_B := tb_iload 1 <| tb_aload 0 <| tb_getf 9 7 <| tb_callS 1 1 RX11_manyNumbers <| bkX11_readsLine_19 P q
theorem okX11_readsLine_11 {Z : tc_Z} {q : tc_Q} (X : tc_Cx ({ frames := 3, cells := 0, slots := 0, locals := 65 } : Room) cX11_readsLine 2 RX11 Z) (hr : tc_Rt 1 cX11_readsLine 2 Z q) : tc_Ok 2 Z 11 (bkX11_readsLine_11 (tc_At 2 Z) q) := by
  unfold bkX11_readsLine_11
  refine to_iload_n (pc := 11) X dX11_readsLine_11 rfl ?_
  refine to_aload_n (pc := 12) X dX11_readsLine_12 rfl ?_
  refine gfX11_7 (pc := 13) X wf_RX11_91 dX11_readsLine_13 ?_
  refine cvX11_manyNumbers (pc := 16) X wm_RX11_111 (by decide) dX11_readsLine_16 ?_
  exact okX11_readsLine_19 X hr
def bkX11_readsLine_4 (P : Nat → tc_B) (q : tc_Q) : tc_B := tb_if_ne (tb_i 0 <| tb_istore 1 <| tb_cut (P 11) [0, 1]) <| tb_i 0 <| tb_zret q
theorem okX11_readsLine_4 {Z : tc_Z} {q : tc_Q} (X : tc_Cx ({ frames := 3, cells := 0, slots := 0, locals := 65 } : Room) cX11_readsLine 2 RX11 Z) (hr : tc_Rt 1 cX11_readsLine 2 Z q) : tc_Ok 2 Z 4 (bkX11_readsLine_4 (tc_At 2 Z) q) := by
  unfold bkX11_readsLine_4
  refine to_if_ne (pc := 4) (tgt := 9) X dX11_readsLine_4 (by decide) ?_ ?_
  · refine to_iconst (pc := 9) X dX11_readsLine_9 (by decide) ?_
    refine to_istore_n (pc := 10) X dX11_readsLine_10 rfl (by decide) ?_
    exact to_cut [0, 1] (fun _ _ _ h => h)
  refine to_iconst (pc := 7) X dX11_readsLine_7 (by decide) ?_
  exact to_zret (pc := 8) hr dX11_readsLine_8
def bkX11_readsLine_0 (P : Nat → tc_B) (q : tc_Q) : tc_B := tb_aload 0 <| tb_callV 0 2 9 RX11_readsWord <| bkX11_readsLine_4 P q
theorem okX11_readsLine_0 {Z : tc_Z} {q : tc_Q} (X : tc_Cx ({ frames := 3, cells := 0, slots := 0, locals := 65 } : Room) cX11_readsLine 2 RX11 Z) (hr : tc_Rt 1 cX11_readsLine 2 Z q) : tc_Ok 2 Z 0 (bkX11_readsLine_0 (tc_At 2 Z) q) := by
  unfold bkX11_readsLine_0
  refine to_aload_n (pc := 0) X dX11_readsLine_0 rfl ?_
  refine cvX11_readsWord (pc := 1) X wm_RX11_108 (by decide) dX11_readsLine_1 ?_
  exact okX11_readsLine_4 X hr
def RX11_readsLine (vs : List tc_V) (S : tc_S) (q : tc_Q) : Prop := ∀ P : Nat → tc_B, (∀ L K S, bkX11_readsLine_11 P q L K S → P 11 L K S) → bkX11_readsLine_0 P q (tc_num 0 vs) [] S
theorem metX11_readsLine : tc_Met yX11_readsLine (Cond.code yX11_readsLine cX11_readsLine 2 (some .boolean)) ({ frames := 3, cells := 0, slots := 0, locals := 65 } : Room) 1 2 RX11_readsLine := tc_met (rk := 1) (by decide) ⟨rfl, rfl⟩ (fun Z q X hr vs S h => okX11_readsLine_0 X hr _ _ _ (h (tc_At 2 Z) (okX11_readsLine_11 X hr)))
theorem cvX11_readsLine {R : Room} {cc : ByteArray} {nL pc ix : Nat} {own : String} {Z : tc_Z} {k : tc_B} (X : tc_Cx R cc nL own Z) (h1 : Cond.methodLink own ix yX11_readsLine ∈ tc_tb) (hR : 3 + 1 ≤ R.frames ∧ 8 + (2 + 11) + 65 ≤ R.locals) (hd : decode cc pc = .ok (.invokevirtual ix, 3)) (h : tc_Ok nL Z (pc + 3) k) : tc_Ok nL Z pc (tb_callV 0 2 9 RX11_readsLine k) := to_callV X metX11_readsLine rfl ⟨rfl, rfl⟩ hR h1 wi_X11_readsLine wl_X11_readsLine wn_RX11 wc_X11_readsLine ⟨by decide +kernel, by decide +kernel, by decide +kernel, by decide +kernel⟩ hd h
def bkX11_does_129 (P : Nat → tc_B) (q : tc_Q) : tc_B := tb_iret q
theorem okX11_does_129 {Z : tc_Z} {q : tc_Q} (X : tc_Cx ({ frames := 4, cells := 0, slots := 0, locals := 86 } : Room) cX11_does 1 RX11 Z) (hr : tc_Rt 0 cX11_does 1 Z q) : tc_Ok 1 Z 129 (bkX11_does_129 (tc_At 1 Z) q) := by
  unfold bkX11_does_129
  exact to_iret (pc := 129) hr dX11_does_129
def bkX11_does_112 (P : Nat → tc_B) (q : tc_Q) : tc_B := tb_iret q
theorem okX11_does_112 {Z : tc_Z} {q : tc_Q} (X : tc_Cx ({ frames := 4, cells := 0, slots := 0, locals := 86 } : Room) cX11_does 1 RX11 Z) (hr : tc_Rt 0 cX11_does 1 Z q) : tc_Ok 1 Z 112 (bkX11_does_112 (tc_At 1 Z) q) := by
  unfold bkX11_does_112
  exact to_iret (pc := 112) hr dX11_does_112
def bkX11_does_101 (P : Nat → tc_B) (q : tc_Q) : tc_B := tb_iret q
theorem okX11_does_101 {Z : tc_Z} {q : tc_Q} (X : tc_Cx ({ frames := 4, cells := 0, slots := 0, locals := 86 } : Room) cX11_does 1 RX11 Z) (hr : tc_Rt 0 cX11_does 1 Z q) : tc_Ok 1 Z 101 (bkX11_does_101 (tc_At 1 Z) q) := by
  unfold bkX11_does_101
  exact to_iret (pc := 101) hr dX11_does_101
def bkX11_does_90 (P : Nat → tc_B) (q : tc_Q) : tc_B := tb_iret q
theorem okX11_does_90 {Z : tc_Z} {q : tc_Q} (X : tc_Cx ({ frames := 4, cells := 0, slots := 0, locals := 86 } : Room) cX11_does 1 RX11 Z) (hr : tc_Rt 0 cX11_does 1 Z q) : tc_Ok 1 Z 90 (bkX11_does_90 (tc_At 1 Z) q) := by
  unfold bkX11_does_90
  exact to_iret (pc := 90) hr dX11_does_90
def bkX11_does_79 (P : Nat → tc_B) (q : tc_Q) : tc_B := tb_iret q
theorem okX11_does_79 {Z : tc_Z} {q : tc_Q} (X : tc_Cx ({ frames := 4, cells := 0, slots := 0, locals := 86 } : Room) cX11_does 1 RX11 Z) (hr : tc_Rt 0 cX11_does 1 Z q) : tc_Ok 1 Z 79 (bkX11_does_79 (tc_At 1 Z) q) := by
  unfold bkX11_does_79
  exact to_iret (pc := 79) hr dX11_does_79
def bkX11_does_62 (P : Nat → tc_B) (q : tc_Q) : tc_B := tb_iret q
theorem okX11_does_62 {Z : tc_Z} {q : tc_Q} (X : tc_Cx ({ frames := 4, cells := 0, slots := 0, locals := 86 } : Room) cX11_does 1 RX11 Z) (hr : tc_Rt 0 cX11_does 1 Z q) : tc_Ok 1 Z 62 (bkX11_does_62 (tc_At 1 Z) q) := by
  unfold bkX11_does_62
  exact to_iret (pc := 62) hr dX11_does_62
def bkX11_does_0 (P : Nat → tc_B) (q : tc_Q) : tc_B := tb_aload 0 <| tb_getf 9 7 <| tb_tsw 0 4 [tb_aload 0 <| tb_aload 0 <| tb_getf 9 8 <| tb_i 0 <| tb_iald <| tb_aload 0 <| tb_getf 9 8 <| tb_i 1 <| tb_iald <| tb_aload 0 <| tb_getf 9 8 <| tb_i 2 <| tb_iald <| tb_callV 3 5 9 RX11_tell <| bkX11_does_62 P q, tb_aload 0 <| tb_aload 0 <| tb_getf 9 8 <| tb_i 0 <| tb_iald <| tb_aload 0 <| tb_getf 9 8 <| tb_i 1 <| tb_iald <| tb_callV 2 4 9 RX11_drop <| bkX11_does_79 P q, tb_aload 0 <| tb_aload 0 <| tb_getf 9 8 <| tb_i 0 <| tb_iald <| tb_callV 1 2 9 RX11_yes <| bkX11_does_90 P q, tb_aload 0 <| tb_aload 0 <| tb_getf 9 8 <| tb_i 0 <| tb_iald <| tb_callV 1 2 9 RX11_no <| bkX11_does_101 P q, tb_aload 0 <| tb_aload 0 <| tb_getf 9 8 <| tb_i 0 <| tb_iald <| tb_callV 1 2 9 RX11_open <| bkX11_does_112 P q] <| tb_aload 0 <| tb_aload 0 <| tb_getf 9 8 <| tb_i 0 <| tb_iald <| tb_aload 0 <| tb_getf 9 8 <| tb_i 1 <| tb_iald <| tb_callV 2 4 9 RX11_weigh <| bkX11_does_129 P q
theorem okX11_does_0 {Z : tc_Z} {q : tc_Q} (X : tc_Cx ({ frames := 4, cells := 0, slots := 0, locals := 86 } : Room) cX11_does 1 RX11 Z) (hr : tc_Rt 0 cX11_does 1 Z q) : tc_Ok 1 Z 0 (bkX11_does_0 (tc_At 1 Z) q) := by
  unfold bkX11_does_0
  refine to_aload_n (pc := 0) X dX11_does_0 rfl ?_
  refine gfX11_7 (pc := 1) X wf_RX11_91 dX11_does_1 ?_
  refine to_tsw (pc := 4) (td := 113) [40, 63, 80, 91, 102] X dX11_does_4 (by decide) (by decide) (by decide) (by decide) (by decide) (by decide) ?_ ?_
  · refine to_aload_n (pc := 113) X dX11_does_113 rfl ?_
    refine to_aload_n (pc := 114) X dX11_does_114 rfl ?_
    refine gfX11_8 (pc := 115) X wf_RX11_25 dX11_does_115 ?_
    refine to_iconst (pc := 118) X dX11_does_118 (by decide) ?_
    refine to_iald (pc := 119) X dX11_does_119 ?_
    refine to_aload_n (pc := 120) X dX11_does_120 rfl ?_
    refine gfX11_8 (pc := 121) X wf_RX11_25 dX11_does_121 ?_
    refine to_iconst (pc := 124) X dX11_does_124 (by decide) ?_
    refine to_iald (pc := 125) X dX11_does_125 ?_
    refine cvX11_weigh (pc := 126) X wm_RX11_140 (by decide) dX11_does_126 ?_
    exact okX11_does_129 X hr
  refine ⟨?_, ?_⟩
  · refine to_aload_n (pc := 40) X dX11_does_40 rfl ?_
    refine to_aload_n (pc := 41) X dX11_does_41 rfl ?_
    refine gfX11_8 (pc := 42) X wf_RX11_25 dX11_does_42 ?_
    refine to_iconst (pc := 45) X dX11_does_45 (by decide) ?_
    refine to_iald (pc := 46) X dX11_does_46 ?_
    refine to_aload_n (pc := 47) X dX11_does_47 rfl ?_
    refine gfX11_8 (pc := 48) X wf_RX11_25 dX11_does_48 ?_
    refine to_iconst (pc := 51) X dX11_does_51 (by decide) ?_
    refine to_iald (pc := 52) X dX11_does_52 ?_
    refine to_aload_n (pc := 53) X dX11_does_53 rfl ?_
    refine gfX11_8 (pc := 54) X wf_RX11_25 dX11_does_54 ?_
    refine to_iconst (pc := 57) X dX11_does_57 (by decide) ?_
    refine to_iald (pc := 58) X dX11_does_58 ?_
    refine cvX11_tell (pc := 59) X wm_RX11_124 (by decide) dX11_does_59 ?_
    exact okX11_does_62 X hr
  refine ⟨?_, ?_⟩
  · refine to_aload_n (pc := 63) X dX11_does_63 rfl ?_
    refine to_aload_n (pc := 64) X dX11_does_64 rfl ?_
    refine gfX11_8 (pc := 65) X wf_RX11_25 dX11_does_65 ?_
    refine to_iconst (pc := 68) X dX11_does_68 (by decide) ?_
    refine to_iald (pc := 69) X dX11_does_69 ?_
    refine to_aload_n (pc := 70) X dX11_does_70 rfl ?_
    refine gfX11_8 (pc := 71) X wf_RX11_25 dX11_does_71 ?_
    refine to_iconst (pc := 74) X dX11_does_74 (by decide) ?_
    refine to_iald (pc := 75) X dX11_does_75 ?_
    refine cvX11_drop (pc := 76) X wm_RX11_128 (by decide) dX11_does_76 ?_
    exact okX11_does_79 X hr
  refine ⟨?_, ?_⟩
  · refine to_aload_n (pc := 80) X dX11_does_80 rfl ?_
    refine to_aload_n (pc := 81) X dX11_does_81 rfl ?_
    refine gfX11_8 (pc := 82) X wf_RX11_25 dX11_does_82 ?_
    refine to_iconst (pc := 85) X dX11_does_85 (by decide) ?_
    refine to_iald (pc := 86) X dX11_does_86 ?_
    refine cvX11_yes (pc := 87) X wm_RX11_131 (by decide) dX11_does_87 ?_
    exact okX11_does_90 X hr
  refine ⟨?_, ?_⟩
  · refine to_aload_n (pc := 91) X dX11_does_91 rfl ?_
    refine to_aload_n (pc := 92) X dX11_does_92 rfl ?_
    refine gfX11_8 (pc := 93) X wf_RX11_25 dX11_does_93 ?_
    refine to_iconst (pc := 96) X dX11_does_96 (by decide) ?_
    refine to_iald (pc := 97) X dX11_does_97 ?_
    refine cvX11_no (pc := 98) X wm_RX11_134 (by decide) dX11_does_98 ?_
    exact okX11_does_101 X hr
  refine ⟨?_, ?_⟩
  · refine to_aload_n (pc := 102) X dX11_does_102 rfl ?_
    refine to_aload_n (pc := 103) X dX11_does_103 rfl ?_
    refine gfX11_8 (pc := 104) X wf_RX11_25 dX11_does_104 ?_
    refine to_iconst (pc := 107) X dX11_does_107 (by decide) ?_
    refine to_iald (pc := 108) X dX11_does_108 ?_
    refine cvX11_open (pc := 109) X wm_RX11_137 (by decide) dX11_does_109 ?_
    exact okX11_does_112 X hr
  trivial
def RX11_does (vs : List tc_V) (S : tc_S) (q : tc_Q) : Prop := ∀ P : Nat → tc_B, bkX11_does_0 P q (tc_num 0 vs) [] S
theorem metX11_does : tc_Met yX11_does (Cond.code yX11_does cX11_does 1 (some .int)) ({ frames := 4, cells := 0, slots := 0, locals := 86 } : Room) 0 1 RX11_does := tc_met (rk := 0) (by decide) ⟨rfl, rfl⟩ (fun Z q X hr vs S h => okX11_does_0 X hr _ _ _ (h (tc_At 1 Z)))
theorem cvX11_does {R : Room} {cc : ByteArray} {nL pc ix : Nat} {own : String} {Z : tc_Z} {k : tc_B} (X : tc_Cx R cc nL own Z) (h1 : Cond.methodLink own ix yX11_does ∈ tc_tb) (hR : 4 + 1 ≤ R.frames ∧ 8 + (1 + 11) + 86 ≤ R.locals) (hd : decode cc pc = .ok (.invokevirtual ix, 3)) (h : tc_Ok nL Z (pc + 3) k) : tc_Ok nL Z pc (tb_callV 0 1 9 RX11_does k) := to_callV X metX11_does rfl ⟨rfl, rfl⟩ hR h1 wi_X11_does wl_X11_does wn_RX11 wc_X11_does ⟨by decide +kernel, by decide +kernel, by decide +kernel, by decide +kernel⟩ hd h
def bkX11_line_24 (P : Nat → tc_B) (q : tc_Q) : tc_B := tb_i 1000 <| tb_iadd <| tb_iret q
theorem okX11_line_24 {Z : tc_Z} {q : tc_Q} (X : tc_Cx ({ frames := 5, cells := 0, slots := 0, locals := 106 } : Room) cX11_line 1 RX11 Z) (hr : tc_Rt 0 cX11_line 1 Z q) : tc_Ok 1 Z 24 (bkX11_line_24 (tc_At 1 Z) q) := by
  unfold bkX11_line_24
  refine to_sipush (pc := 24) X dX11_line_24 (by decide) ?_
  refine to_iadd (pc := 27) X dX11_line_27 ?_
  exact to_iret (pc := 28) hr dX11_line_28
def bkX11_line_4 (P : Nat → tc_B) (q : tc_Q) : tc_B := tb_if_ne (tb_aload 0 <| tb_i 0 <| tb_putI 9 4 <| tb_aload 0 <| tb_callV 0 1 9 RX11_does <| bkX11_line_24 P q) <| tb_i (-100) <| tb_aload 0 <| tb_getf 9 6 <| tb_isub <| tb_iret q
theorem okX11_line_4 {Z : tc_Z} {q : tc_Q} (X : tc_Cx ({ frames := 5, cells := 0, slots := 0, locals := 106 } : Room) cX11_line 1 RX11 Z) (hr : tc_Rt 0 cX11_line 1 Z q) : tc_Ok 1 Z 4 (bkX11_line_4 (tc_At 1 Z) q) := by
  unfold bkX11_line_4
  refine to_if_ne (pc := 4) (tgt := 15) X dX11_line_4 (by decide) ?_ ?_
  · refine to_aload_n (pc := 15) X dX11_line_15 rfl ?_
    refine to_iconst (pc := 16) X dX11_line_16 (by decide) ?_
    refine pfX11_4 (pc := 17) X wf_RX11_87 dX11_line_17 ?_
    refine to_aload_n (pc := 20) X dX11_line_20 rfl ?_
    refine cvX11_does (pc := 21) X wm_RX11_120 (by decide) dX11_line_21 ?_
    exact okX11_line_24 X hr
  refine to_bipush (pc := 7) X dX11_line_7 (by decide) ?_
  refine to_aload_n (pc := 9) X dX11_line_9 rfl ?_
  refine gfX11_6 (pc := 10) X wf_RX11_94 dX11_line_10 ?_
  refine to_isub (pc := 13) X dX11_line_13 ?_
  exact to_iret (pc := 14) hr dX11_line_14
def bkX11_line_0 (P : Nat → tc_B) (q : tc_Q) : tc_B := tb_aload 0 <| tb_callV 0 2 9 RX11_readsLine <| bkX11_line_4 P q
theorem okX11_line_0 {Z : tc_Z} {q : tc_Q} (X : tc_Cx ({ frames := 5, cells := 0, slots := 0, locals := 106 } : Room) cX11_line 1 RX11 Z) (hr : tc_Rt 0 cX11_line 1 Z q) : tc_Ok 1 Z 0 (bkX11_line_0 (tc_At 1 Z) q) := by
  unfold bkX11_line_0
  refine to_aload_n (pc := 0) X dX11_line_0 rfl ?_
  refine cvX11_readsLine (pc := 1) X wm_RX11_117 (by decide) dX11_line_1 ?_
  exact okX11_line_4 X hr
def RX11_line (vs : List tc_V) (S : tc_S) (q : tc_Q) : Prop := ∀ P : Nat → tc_B, bkX11_line_0 P q (tc_num 0 vs) [] S
theorem metX11_line : tc_Met yX11_line (Cond.code yX11_line cX11_line 1 (some .int)) ({ frames := 5, cells := 0, slots := 0, locals := 106 } : Room) 0 1 RX11_line := tc_met (rk := 0) (by decide) ⟨rfl, rfl⟩ (fun Z q X hr vs S h => okX11_line_0 X hr _ _ _ (h (tc_At 1 Z)))
theorem cvX11_line {R : Room} {cc : ByteArray} {nL pc ix : Nat} {own : String} {Z : tc_Z} {k : tc_B} (X : tc_Cx R cc nL own Z) (h1 : Cond.methodLink own ix yX11_line ∈ tc_tb) (hR : 5 + 1 ≤ R.frames ∧ 8 + (1 + 11) + 106 ≤ R.locals) (hd : decode cc pc = .ok (.invokevirtual ix, 3)) (h : tc_Ok nL Z (pc + 3) k) : tc_Ok nL Z pc (tb_callV 0 1 9 RX11_line k) := to_callV X metX11_line rfl ⟨rfl, rfl⟩ hR h1 wi_X11_line wl_X11_line wn_RX11 wc_X11_line ⟨by decide +kernel, by decide +kernel, by decide +kernel, by decide +kernel⟩ hd h
def bkX11_isOnTape_16 (P : Nat → tc_B) (q : tc_Q) : tc_B := tb_iload 2 <| tb_aload 0 <| tb_getf 9 4 <| tb_icmp_ge (tb_i 1 <| tb_zret q) <| tb_aload 0 <| tb_getf 9 3 <| tb_iload 2 <| tb_iald <| tb_aload 0 <| tb_getf 9 5 <| tb_i 6 <| tb_iload 1 <| tb_imul <| tb_iload 2 <| tb_iadd <| tb_iald <| tb_icmp_eq (tb_iinc 2 1 <| tb_cut (P 16) [0, 1, 2]) <| tb_i 0 <| tb_zret q
theorem okX11_isOnTape_16 {Z : tc_Z} {q : tc_Q} (X : tc_Cx ({ frames := 1, cells := 0, slots := 0, locals := 22 } : Room) cX11_isOnTape 3 RX11 Z) (hr : tc_Rt 1 cX11_isOnTape 3 Z q) : tc_Ok 3 Z 16 (bkX11_isOnTape_16 (tc_At 3 Z) q) := by
  unfold bkX11_isOnTape_16
  refine to_iload_n (pc := 16) X dX11_isOnTape_16 rfl ?_
  refine to_aload_n (pc := 17) X dX11_isOnTape_17 rfl ?_
  refine gfX11_4 (pc := 18) X wf_RX11_87 dX11_isOnTape_18 ?_
  refine to_icmp_ge (pc := 21) (tgt := 52) X dX11_isOnTape_21 (by decide) ?_ ?_
  · refine to_iconst (pc := 52) X dX11_isOnTape_52 (by decide) ?_
    exact to_zret (pc := 53) hr dX11_isOnTape_53
  refine to_aload_n (pc := 24) X dX11_isOnTape_24 rfl ?_
  refine gfX11_3 (pc := 25) X wf_RX11_19 dX11_isOnTape_25 ?_
  refine to_iload_n (pc := 28) X dX11_isOnTape_28 rfl ?_
  refine to_iald (pc := 29) X dX11_isOnTape_29 ?_
  refine to_aload_n (pc := 30) X dX11_isOnTape_30 rfl ?_
  refine gfX11_5 (pc := 31) X wf_RX11_22 dX11_isOnTape_31 ?_
  refine to_bipush (pc := 34) X dX11_isOnTape_34 (by decide) ?_
  refine to_iload_n (pc := 36) X dX11_isOnTape_36 rfl ?_
  refine to_imul (pc := 37) X dX11_isOnTape_37 ?_
  refine to_iload_n (pc := 38) X dX11_isOnTape_38 rfl ?_
  refine to_iadd (pc := 39) X dX11_isOnTape_39 ?_
  refine to_iald (pc := 40) X dX11_isOnTape_40 ?_
  refine to_icmp_eq (pc := 41) (tgt := 46) X dX11_isOnTape_41 (by decide) ?_ ?_
  · refine to_iinc (pc := 46) X dX11_isOnTape_46 (by decide) (by decide) ?_
    refine to_goto (pc := 49) (tgt := 16) X dX11_isOnTape_49 (by decide) ?_
    exact to_cut [0, 1, 2] (fun _ _ _ h => h)
  refine to_iconst (pc := 44) X dX11_isOnTape_44 (by decide) ?_
  exact to_zret (pc := 45) hr dX11_isOnTape_45
def bkX11_isOnTape_5 (P : Nat → tc_B) (q : tc_Q) : tc_B := tb_aload 0 <| tb_getf 9 4 <| tb_icmp_eq (tb_i 0 <| tb_istore 2 <| tb_cut (P 16) [0, 1, 2]) <| tb_i 0 <| tb_zret q
theorem okX11_isOnTape_5 {Z : tc_Z} {q : tc_Q} (X : tc_Cx ({ frames := 1, cells := 0, slots := 0, locals := 22 } : Room) cX11_isOnTape 3 RX11 Z) (hr : tc_Rt 1 cX11_isOnTape 3 Z q) : tc_Ok 3 Z 5 (bkX11_isOnTape_5 (tc_At 3 Z) q) := by
  unfold bkX11_isOnTape_5
  refine to_aload_n (pc := 5) X dX11_isOnTape_5 rfl ?_
  refine gfX11_4 (pc := 6) X wf_RX11_87 dX11_isOnTape_6 ?_
  refine to_icmp_eq (pc := 9) (tgt := 14) X dX11_isOnTape_9 (by decide) ?_ ?_
  · refine to_iconst (pc := 14) X dX11_isOnTape_14 (by decide) ?_
    refine to_istore_n (pc := 15) X dX11_isOnTape_15 rfl (by decide) ?_
    exact to_cut [0, 1, 2] (fun _ _ _ h => h)
  refine to_iconst (pc := 12) X dX11_isOnTape_12 (by decide) ?_
  exact to_zret (pc := 13) hr dX11_isOnTape_13
def bkX11_isOnTape_0 (P : Nat → tc_B) (q : tc_Q) : tc_B := tb_aload 0 <| tb_iload 1 <| tb_callV 1 3 9 RX11_wordLong <| bkX11_isOnTape_5 P q
theorem okX11_isOnTape_0 {Z : tc_Z} {q : tc_Q} (X : tc_Cx ({ frames := 1, cells := 0, slots := 0, locals := 22 } : Room) cX11_isOnTape 3 RX11 Z) (hr : tc_Rt 1 cX11_isOnTape 3 Z q) : tc_Ok 3 Z 0 (bkX11_isOnTape_0 (tc_At 3 Z) q) := by
  unfold bkX11_isOnTape_0
  refine to_aload_n (pc := 0) X dX11_isOnTape_0 rfl ?_
  refine to_iload_n (pc := 1) X dX11_isOnTape_1 rfl ?_
  refine cvX11_wordLong (pc := 2) X wm_RX11_97 (by decide) dX11_isOnTape_2 ?_
  exact okX11_isOnTape_5 X hr
def RX11_isOnTape (vs : List tc_V) (S : tc_S) (q : tc_Q) : Prop := ∀ P : Nat → tc_B, (∀ L K S, bkX11_isOnTape_16 P q L K S → P 16 L K S) → bkX11_isOnTape_0 P q (tc_num 0 vs) [] S
theorem metX11_isOnTape : tc_Met yX11_isOnTape (Cond.code yX11_isOnTape cX11_isOnTape 3 (some .boolean)) ({ frames := 1, cells := 0, slots := 0, locals := 22 } : Room) 1 3 RX11_isOnTape := tc_met (rk := 1) (by decide) ⟨rfl, rfl⟩ (fun Z q X hr vs S h => okX11_isOnTape_0 X hr _ _ _ (h (tc_At 3 Z) (okX11_isOnTape_16 X hr)))
theorem cvX11_isOnTape {R : Room} {cc : ByteArray} {nL pc ix : Nat} {own : String} {Z : tc_Z} {k : tc_B} (X : tc_Cx R cc nL own Z) (h1 : Cond.methodLink own ix yX11_isOnTape ∈ tc_tb) (hR : 1 + 1 ≤ R.frames ∧ 8 + (3 + 11) + 22 ≤ R.locals) (hd : decode cc pc = .ok (.invokevirtual ix, 3)) (h : tc_Ok nL Z (pc + 3) k) : tc_Ok nL Z pc (tb_callV 1 3 9 RX11_isOnTape k) := to_callV X metX11_isOnTape rfl ⟨rfl, rfl⟩ hR h1 wi_X11_isOnTape wl_X11_isOnTape wn_RX11 wc_X11_isOnTape ⟨by decide +kernel, by decide +kernel, by decide +kernel, by decide +kernel⟩ hd h
def bkX11_rule_15 (P : Nat → tc_B) (q : tc_Q) : tc_B := tb_if_eq (tb_iinc 1 1 <| tb_cut (P 2) [0, 1]) <| tb_aload 0 <| tb_iload 1 <| tb_putI 9 9 <| tb_aload 0 <| tb_i 0 <| tb_putI 9 4 <| tb_iload 1 <| tb_iret q
theorem okX11_rule_15 {Z : tc_Z} {q : tc_Q} (X : tc_Cx ({ frames := 2, cells := 0, slots := 0, locals := 44 } : Room) cX11_rule 2 RX11 Z) (hr : tc_Rt 0 cX11_rule 2 Z q) : tc_Ok 2 Z 15 (bkX11_rule_15 (tc_At 2 Z) q) := by
  unfold bkX11_rule_15
  refine to_if_eq (pc := 15) (tgt := 30) X dX11_rule_15 (by decide) ?_ ?_
  · refine to_iinc (pc := 30) X dX11_rule_30 (by decide) (by decide) ?_
    refine to_goto (pc := 33) (tgt := 2) X dX11_rule_33 (by decide) ?_
    exact to_cut [0, 1] (fun _ _ _ h => h)
  refine to_aload_n (pc := 18) X dX11_rule_18 rfl ?_
  refine to_iload_n (pc := 19) X dX11_rule_19 rfl ?_
  refine pfX11_9 (pc := 20) X wf_RX11_146 dX11_rule_20 ?_
  refine to_aload_n (pc := 23) X dX11_rule_23 rfl ?_
  refine to_iconst (pc := 24) X dX11_rule_24 (by decide) ?_
  refine pfX11_4 (pc := 25) X wf_RX11_87 dX11_rule_25 ?_
  refine to_iload_n (pc := 28) X dX11_rule_28 rfl ?_
  exact to_iret (pc := 29) hr dX11_rule_29
def bkX11_rule_2 (P : Nat → tc_B) (q : tc_Q) : tc_B := tb_iload 1 <| tb_i 4 <| tb_icmp_ge (tb_i (-1) <| tb_iret q) <| tb_aload 0 <| tb_i 6 <| tb_iload 1 <| tb_iadd <| tb_callV 1 3 9 RX11_isOnTape <| bkX11_rule_15 P q
theorem okX11_rule_2 {Z : tc_Z} {q : tc_Q} (X : tc_Cx ({ frames := 2, cells := 0, slots := 0, locals := 44 } : Room) cX11_rule 2 RX11 Z) (hr : tc_Rt 0 cX11_rule 2 Z q) : tc_Ok 2 Z 2 (bkX11_rule_2 (tc_At 2 Z) q) := by
  unfold bkX11_rule_2
  refine to_iload_n (pc := 2) X dX11_rule_2 rfl ?_
  refine to_iconst (pc := 3) X dX11_rule_3 (by decide) ?_
  refine to_icmp_ge (pc := 4) (tgt := 36) X dX11_rule_4 (by decide) ?_ ?_
  · refine to_iconst (pc := 36) X dX11_rule_36 (by decide) ?_
    exact to_iret (pc := 37) hr dX11_rule_37
  refine to_aload_n (pc := 7) X dX11_rule_7 rfl ?_
  refine to_bipush (pc := 8) X dX11_rule_8 (by decide) ?_
  refine to_iload_n (pc := 10) X dX11_rule_10 rfl ?_
  refine to_iadd (pc := 11) X dX11_rule_11 ?_
  refine cvX11_isOnTape (pc := 12) X wm_RX11_143 (by decide) dX11_rule_12 ?_
  exact okX11_rule_15 X hr
def bkX11_rule_0 (P : Nat → tc_B) (q : tc_Q) : tc_B := tb_i 0 <| tb_istore 1 <| tb_cut (P 2) [0, 1]
theorem okX11_rule_0 {Z : tc_Z} {q : tc_Q} (X : tc_Cx ({ frames := 2, cells := 0, slots := 0, locals := 44 } : Room) cX11_rule 2 RX11 Z) (hr : tc_Rt 0 cX11_rule 2 Z q) : tc_Ok 2 Z 0 (bkX11_rule_0 (tc_At 2 Z) q) := by
  unfold bkX11_rule_0
  refine to_iconst (pc := 0) X dX11_rule_0 (by decide) ?_
  refine to_istore_n (pc := 1) X dX11_rule_1 rfl (by decide) ?_
  exact to_cut [0, 1] (fun _ _ _ h => h)
def RX11_rule (vs : List tc_V) (S : tc_S) (q : tc_Q) : Prop := ∀ P : Nat → tc_B, (∀ L K S, bkX11_rule_2 P q L K S → P 2 L K S) → bkX11_rule_0 P q (tc_num 0 vs) [] S
theorem metX11_rule : tc_Met yX11_rule (Cond.code yX11_rule cX11_rule 2 (some .int)) ({ frames := 2, cells := 0, slots := 0, locals := 44 } : Room) 0 2 RX11_rule := tc_met (rk := 0) (by decide) ⟨rfl, rfl⟩ (fun Z q X hr vs S h => okX11_rule_0 X hr _ _ _ (h (tc_At 2 Z) (okX11_rule_2 X hr)))
theorem cvX11_rule {R : Room} {cc : ByteArray} {nL pc ix : Nat} {own : String} {Z : tc_Z} {k : tc_B} (X : tc_Cx R cc nL own Z) (h1 : Cond.methodLink own ix yX11_rule ∈ tc_tb) (hR : 2 + 1 ≤ R.frames ∧ 8 + (2 + 11) + 44 ≤ R.locals) (hd : decode cc pc = .ok (.invokevirtual ix, 3)) (h : tc_Ok nL Z (pc + 3) k) : tc_Ok nL Z pc (tb_callV 0 2 9 RX11_rule k) := to_callV X metX11_rule rfl ⟨rfl, rfl⟩ hR h1 wi_X11_rule wl_X11_rule wn_RX11 wc_X11_rule ⟨by decide +kernel, by decide +kernel, by decide +kernel, by decide +kernel⟩ hd h
def bkX11_missOf_12 (P : Nat → tc_B) (q : tc_Q) : tc_B := tb_istore 3 <| tb_aload 0 <| tb_getf 9 9 <| tb_tsw 0 2 [tb_iload 3 <| tb_iload 3 <| tb_imul <| tb_iret q, tb_iload 3 <| tb_iret q, tb_iload 3 <| tb_i 50 <| tb_icmp_le (tb_iload 3 <| tb_i 50 <| tb_icmp_ne (tb_i 0 <| tb_iret q) <| tb_i 50 <| tb_iret q) <| tb_i 100 <| tb_iret q] <| tb_iload 3 <| tb_iload 3 <| tb_imul <| tb_iload 3 <| tb_imul <| tb_iret q
theorem okX11_missOf_12 {Z : tc_Z} {q : tc_Q} (X : tc_Cx ({ frames := 0, cells := 0, slots := 0, locals := 0 } : Room) cX11_missOf 4 RX11 Z) (hr : tc_Rt 0 cX11_missOf 4 Z q) : tc_Ok 4 Z 12 (bkX11_missOf_12 (tc_At 4 Z) q) := by
  unfold bkX11_missOf_12
  refine to_istore_n (pc := 12) X dX11_missOf_12 rfl (by decide) ?_
  refine to_aload_n (pc := 13) X dX11_missOf_13 rfl ?_
  refine gfX11_9 (pc := 14) X wf_RX11_146 dX11_missOf_14 ?_
  refine to_tsw (pc := 17) (td := 74) [44, 48, 50] X dX11_missOf_17 (by decide) (by decide) (by decide) (by decide) (by decide) (by decide) ?_ ?_
  · refine to_iload_n (pc := 74) X dX11_missOf_74 rfl ?_
    refine to_iload_n (pc := 75) X dX11_missOf_75 rfl ?_
    refine to_imul (pc := 76) X dX11_missOf_76 ?_
    refine to_iload_n (pc := 77) X dX11_missOf_77 rfl ?_
    refine to_imul (pc := 78) X dX11_missOf_78 ?_
    exact to_iret (pc := 79) hr dX11_missOf_79
  refine ⟨?_, ?_⟩
  · refine to_iload_n (pc := 44) X dX11_missOf_44 rfl ?_
    refine to_iload_n (pc := 45) X dX11_missOf_45 rfl ?_
    refine to_imul (pc := 46) X dX11_missOf_46 ?_
    exact to_iret (pc := 47) hr dX11_missOf_47
  refine ⟨?_, ?_⟩
  · refine to_iload_n (pc := 48) X dX11_missOf_48 rfl ?_
    exact to_iret (pc := 49) hr dX11_missOf_49
  refine ⟨?_, ?_⟩
  · refine to_iload_n (pc := 50) X dX11_missOf_50 rfl ?_
    refine to_bipush (pc := 51) X dX11_missOf_51 (by decide) ?_
    refine to_icmp_le (pc := 53) (tgt := 61) X dX11_missOf_53 (by decide) ?_ ?_
    · refine to_iload_n (pc := 61) X dX11_missOf_61 rfl ?_
      refine to_bipush (pc := 62) X dX11_missOf_62 (by decide) ?_
      refine to_icmp_ne (pc := 64) (tgt := 72) X dX11_missOf_64 (by decide) ?_ ?_
      · refine to_iconst (pc := 72) X dX11_missOf_72 (by decide) ?_
        exact to_iret (pc := 73) hr dX11_missOf_73
      refine to_bipush (pc := 67) X dX11_missOf_67 (by decide) ?_
      refine to_goto (pc := 69) (tgt := 73) X dX11_missOf_69 (by decide) ?_
      exact to_iret (pc := 73) hr dX11_missOf_73
    refine to_bipush (pc := 56) X dX11_missOf_56 (by decide) ?_
    refine to_goto (pc := 58) (tgt := 73) X dX11_missOf_58 (by decide) ?_
    exact to_iret (pc := 73) hr dX11_missOf_73
  trivial
def bkX11_missOf_0 (P : Nat → tc_B) (q : tc_Q) : tc_B := tb_iload 2 <| tb_if_eq (tb_iload 1 <| tb_cut (P 12) [0]) <| tb_i 100 <| tb_iload 1 <| tb_isub <| tb_cut (P 12) [0]
theorem okX11_missOf_0 {Z : tc_Z} {q : tc_Q} (X : tc_Cx ({ frames := 0, cells := 0, slots := 0, locals := 0 } : Room) cX11_missOf 4 RX11 Z) (hr : tc_Rt 0 cX11_missOf 4 Z q) : tc_Ok 4 Z 0 (bkX11_missOf_0 (tc_At 4 Z) q) := by
  unfold bkX11_missOf_0
  refine to_iload_n (pc := 0) X dX11_missOf_0 rfl ?_
  refine to_if_eq (pc := 1) (tgt := 11) X dX11_missOf_1 (by decide) ?_ ?_
  · refine to_iload_n (pc := 11) X dX11_missOf_11 rfl ?_
    exact to_cut [0] (fun _ _ _ h => h)
  refine to_bipush (pc := 4) X dX11_missOf_4 (by decide) ?_
  refine to_iload_n (pc := 6) X dX11_missOf_6 rfl ?_
  refine to_isub (pc := 7) X dX11_missOf_7 ?_
  refine to_goto (pc := 8) (tgt := 12) X dX11_missOf_8 (by decide) ?_
  exact to_cut [0] (fun _ _ _ h => h)
def RX11_missOf (vs : List tc_V) (S : tc_S) (q : tc_Q) : Prop := ∀ P : Nat → tc_B, (∀ L K S, bkX11_missOf_12 P q L K S → P 12 L K S) → bkX11_missOf_0 P q (tc_num 0 vs) [] S
theorem metX11_missOf : tc_Met yX11_missOf (Cond.code yX11_missOf cX11_missOf 4 (some .int)) ({ frames := 0, cells := 0, slots := 0, locals := 0 } : Room) 0 4 RX11_missOf := tc_met (rk := 0) (by decide) ⟨rfl, rfl⟩ (fun Z q X hr vs S h => okX11_missOf_0 X hr _ _ _ (h (tc_At 4 Z) (okX11_missOf_12 X hr)))
theorem cvX11_missOf {R : Room} {cc : ByteArray} {nL pc ix : Nat} {own : String} {Z : tc_Z} {k : tc_B} (X : tc_Cx R cc nL own Z) (h1 : Cond.methodLink own ix yX11_missOf ∈ tc_tb) (hR : 0 + 1 ≤ R.frames ∧ 8 + (4 + 11) + 0 ≤ R.locals) (hd : decode cc pc = .ok (.invokevirtual ix, 3)) (h : tc_Ok nL Z (pc + 3) k) : tc_Ok nL Z pc (tb_callV 2 4 9 RX11_missOf k) := to_callV X metX11_missOf rfl ⟨rfl, rfl⟩ hR h1 wi_X11_missOf wl_X11_missOf wn_RX11 wc_X11_missOf ⟨by decide +kernel, by decide +kernel, by decide +kernel, by decide +kernel⟩ hd h
def bkX11_miss_34 (P : Nat → tc_B) (q : tc_Q) : tc_B := tb_iret q
theorem okX11_miss_34 {Z : tc_Z} {q : tc_Q} (X : tc_Cx ({ frames := 1, cells := 0, slots := 0, locals := 23 } : Room) cX11_miss 3 RX11 Z) (hr : tc_Rt 0 cX11_miss 3 Z q) : tc_Ok 3 Z 34 (bkX11_miss_34 (tc_At 3 Z) q) := by
  unfold bkX11_miss_34
  refine to_goto (pc := 34) (tgt := 39) X dX11_miss_34 (by decide) ?_
  exact to_iret (pc := 39) hr dX11_miss_39
def bkX11_miss_31 (P : Nat → tc_B) (q : tc_Q) : tc_B := tb_callV 2 4 9 RX11_missOf <| bkX11_miss_34 P q
theorem okX11_miss_31 {Z : tc_Z} {q : tc_Q} (X : tc_Cx ({ frames := 1, cells := 0, slots := 0, locals := 23 } : Room) cX11_miss 3 RX11 Z) (hr : tc_Rt 0 cX11_miss 3 Z q) : tc_Ok 3 Z 31 (bkX11_miss_31 (tc_At 3 Z) q) := by
  unfold bkX11_miss_31
  refine cvX11_missOf (pc := 31) X wm_RX11_149 (by decide) dX11_miss_31 ?_
  exact okX11_miss_34 X hr
def bkX11_miss_16 (P : Nat → tc_B) (q : tc_Q) : tc_B := tb_if_eq (tb_i (-2) <| tb_iret q) <| tb_aload 0 <| tb_iload 1 <| tb_iload 2 <| tb_i 1 <| tb_icmp_ne (tb_i 0 <| tb_cut (P 31) []) <| tb_i 1 <| tb_cut (P 31) []
theorem okX11_miss_16 {Z : tc_Z} {q : tc_Q} (X : tc_Cx ({ frames := 1, cells := 0, slots := 0, locals := 23 } : Room) cX11_miss 3 RX11 Z) (hr : tc_Rt 0 cX11_miss 3 Z q) : tc_Ok 3 Z 16 (bkX11_miss_16 (tc_At 3 Z) q) := by
  unfold bkX11_miss_16
  refine to_if_eq (pc := 16) (tgt := 37) X dX11_miss_16 (by decide) ?_ ?_
  · refine to_bipush (pc := 37) X dX11_miss_37 (by decide) ?_
    exact to_iret (pc := 39) hr dX11_miss_39
  refine to_aload_n (pc := 19) X dX11_miss_19 rfl ?_
  refine to_iload_n (pc := 20) X dX11_miss_20 rfl ?_
  refine to_iload_n (pc := 21) X dX11_miss_21 rfl ?_
  refine to_iconst (pc := 22) X dX11_miss_22 (by decide) ?_
  refine to_icmp_ne (pc := 23) (tgt := 30) X dX11_miss_23 (by decide) ?_ ?_
  · refine to_iconst (pc := 30) X dX11_miss_30 (by decide) ?_
    exact to_cut [] (fun _ _ _ h => h)
  refine to_iconst (pc := 26) X dX11_miss_26 (by decide) ?_
  refine to_goto (pc := 27) (tgt := 31) X dX11_miss_27 (by decide) ?_
  exact to_cut [] (fun _ _ _ h => h)
def bkX11_miss_7 (P : Nat → tc_B) (q : tc_Q) : tc_B := tb_if_eq (tb_i (-2) <| tb_iret q) <| tb_iload 2 <| tb_i 0 <| tb_i 1 <| tb_callS 3 3 RX11_within <| bkX11_miss_16 P q
theorem okX11_miss_7 {Z : tc_Z} {q : tc_Q} (X : tc_Cx ({ frames := 1, cells := 0, slots := 0, locals := 23 } : Room) cX11_miss 3 RX11 Z) (hr : tc_Rt 0 cX11_miss 3 Z q) : tc_Ok 3 Z 7 (bkX11_miss_7 (tc_At 3 Z) q) := by
  unfold bkX11_miss_7
  refine to_if_eq (pc := 7) (tgt := 37) X dX11_miss_7 (by decide) ?_ ?_
  · refine to_bipush (pc := 37) X dX11_miss_37 (by decide) ?_
    exact to_iret (pc := 39) hr dX11_miss_39
  refine to_iload_n (pc := 10) X dX11_miss_10 rfl ?_
  refine to_iconst (pc := 11) X dX11_miss_11 (by decide) ?_
  refine to_iconst (pc := 12) X dX11_miss_12 (by decide) ?_
  refine cvX11_within (pc := 13) X wm_RX11_66 (by decide) dX11_miss_13 ?_
  exact okX11_miss_16 X hr
def bkX11_miss_0 (P : Nat → tc_B) (q : tc_Q) : tc_B := tb_iload 1 <| tb_i 0 <| tb_i 100 <| tb_callS 3 3 RX11_within <| bkX11_miss_7 P q
theorem okX11_miss_0 {Z : tc_Z} {q : tc_Q} (X : tc_Cx ({ frames := 1, cells := 0, slots := 0, locals := 23 } : Room) cX11_miss 3 RX11 Z) (hr : tc_Rt 0 cX11_miss 3 Z q) : tc_Ok 3 Z 0 (bkX11_miss_0 (tc_At 3 Z) q) := by
  unfold bkX11_miss_0
  refine to_iload_n (pc := 0) X dX11_miss_0 rfl ?_
  refine to_iconst (pc := 1) X dX11_miss_1 (by decide) ?_
  refine to_bipush (pc := 2) X dX11_miss_2 (by decide) ?_
  refine cvX11_within (pc := 4) X wm_RX11_66 (by decide) dX11_miss_4 ?_
  exact okX11_miss_7 X hr
def RX11_miss (vs : List tc_V) (S : tc_S) (q : tc_Q) : Prop := ∀ P : Nat → tc_B, (∀ L K S, bkX11_miss_31 P q L K S → P 31 L K S) → bkX11_miss_0 P q (tc_num 0 vs) [] S
theorem metX11_miss : tc_Met yX11_miss (Cond.code yX11_miss cX11_miss 3 (some .int)) ({ frames := 1, cells := 0, slots := 0, locals := 23 } : Room) 0 3 RX11_miss := tc_met (rk := 0) (by decide) ⟨rfl, rfl⟩ (fun Z q X hr vs S h => okX11_miss_0 X hr _ _ _ (h (tc_At 3 Z) (okX11_miss_31 X hr)))
theorem cvX11_miss {R : Room} {cc : ByteArray} {nL pc ix : Nat} {own : String} {Z : tc_Z} {k : tc_B} (X : tc_Cx R cc nL own Z) (h1 : Cond.methodLink own ix yX11_miss ∈ tc_tb) (hR : 1 + 1 ≤ R.frames ∧ 8 + (3 + 11) + 23 ≤ R.locals) (hd : decode cc pc = .ok (.invokevirtual ix, 3)) (h : tc_Ok nL Z (pc + 3) k) : tc_Ok nL Z pc (tb_callV 2 3 9 RX11_miss k) := to_callV X metX11_miss rfl ⟨rfl, rfl⟩ hR h1 wi_X11_miss wl_X11_miss wn_RX11 wc_X11_miss ⟨by decide +kernel, by decide +kernel, by decide +kernel, by decide +kernel⟩ hd h
def bkX11_isCase_15 (P : Nat → tc_B) (q : tc_Q) : tc_B := tb_i (-9) <| tb_icmp_eq (tb_i 0 <| tb_zret q) <| tb_i 1 <| tb_zret q
theorem okX11_isCase_15 {Z : tc_Z} {q : tc_Q} (X : tc_Cx ({ frames := 1, cells := 0, slots := 0, locals := 26 } : Room) cX11_isCase 3 RX11 Z) (hr : tc_Rt 1 cX11_isCase 3 Z q) : tc_Ok 3 Z 15 (bkX11_isCase_15 (tc_At 3 Z) q) := by
  unfold bkX11_isCase_15
  refine to_bipush (pc := 15) X dX11_isCase_15 (by decide) ?_
  refine to_icmp_eq (pc := 17) (tgt := 24) X dX11_isCase_17 (by decide) ?_ ?_
  · refine to_iconst (pc := 24) X dX11_isCase_24 (by decide) ?_
    exact to_zret (pc := 25) hr dX11_isCase_25
  refine to_iconst (pc := 20) X dX11_isCase_20 (by decide) ?_
  refine to_goto (pc := 21) (tgt := 25) X dX11_isCase_21 (by decide) ?_
  exact to_zret (pc := 25) hr dX11_isCase_25
def bkX11_isCase_0 (P : Nat → tc_B) (q : tc_Q) : tc_B := tb_aload 0 <| tb_getf 9 1 <| tb_iload 2 <| tb_iald <| tb_if_eq (tb_i 0 <| tb_zret q) <| tb_aload 0 <| tb_iload 1 <| tb_iload 2 <| tb_callV 2 7 9 RX11_toldBy <| bkX11_isCase_15 P q
theorem okX11_isCase_0 {Z : tc_Z} {q : tc_Q} (X : tc_Cx ({ frames := 1, cells := 0, slots := 0, locals := 26 } : Room) cX11_isCase 3 RX11 Z) (hr : tc_Rt 1 cX11_isCase 3 Z q) : tc_Ok 3 Z 0 (bkX11_isCase_0 (tc_At 3 Z) q) := by
  unfold bkX11_isCase_0
  refine to_aload_n (pc := 0) X dX11_isCase_0 rfl ?_
  refine gfX11_1 (pc := 1) X wf_RX11_13 dX11_isCase_1 ?_
  refine to_iload_n (pc := 4) X dX11_isCase_4 rfl ?_
  refine to_iald (pc := 5) X dX11_isCase_5 ?_
  refine to_if_eq (pc := 6) (tgt := 24) X dX11_isCase_6 (by decide) ?_ ?_
  · refine to_iconst (pc := 24) X dX11_isCase_24 (by decide) ?_
    exact to_zret (pc := 25) hr dX11_isCase_25
  refine to_aload_n (pc := 9) X dX11_isCase_9 rfl ?_
  refine to_iload_n (pc := 10) X dX11_isCase_10 rfl ?_
  refine to_iload_n (pc := 11) X dX11_isCase_11 rfl ?_
  refine cvX11_toldBy (pc := 12) X wm_RX11_84 (by decide) dX11_isCase_12 ?_
  exact okX11_isCase_15 X hr
def RX11_isCase (vs : List tc_V) (S : tc_S) (q : tc_Q) : Prop := ∀ P : Nat → tc_B, bkX11_isCase_0 P q (tc_num 0 vs) [] S
theorem metX11_isCase : tc_Met yX11_isCase (Cond.code yX11_isCase cX11_isCase 3 (some .boolean)) ({ frames := 1, cells := 0, slots := 0, locals := 26 } : Room) 1 3 RX11_isCase := tc_met (rk := 1) (by decide) ⟨rfl, rfl⟩ (fun Z q X hr vs S h => okX11_isCase_0 X hr _ _ _ (h (tc_At 3 Z)))
theorem cvX11_isCase {R : Room} {cc : ByteArray} {nL pc ix : Nat} {own : String} {Z : tc_Z} {k : tc_B} (X : tc_Cx R cc nL own Z) (h1 : Cond.methodLink own ix yX11_isCase ∈ tc_tb) (hR : 1 + 1 ≤ R.frames ∧ 8 + (3 + 11) + 26 ≤ R.locals) (hd : decode cc pc = .ok (.invokevirtual ix, 3)) (h : tc_Ok nL Z (pc + 3) k) : tc_Ok nL Z pc (tb_callV 2 3 9 RX11_isCase k) := to_callV X metX11_isCase rfl ⟨rfl, rfl⟩ hR h1 wi_X11_isCase wl_X11_isCase wn_RX11 wc_X11_isCase ⟨by decide +kernel, by decide +kernel, by decide +kernel, by decide +kernel⟩ hd h
def bkX11_cases_25 (P : Nat → tc_B) (q : tc_Q) : tc_B := tb_iadd <| tb_istore 2 <| tb_iinc 3 1 <| tb_cut (P 4) [0, 1, 2, 3]
theorem okX11_cases_25 {Z : tc_Z} {q : tc_Q} (X : tc_Cx ({ frames := 2, cells := 0, slots := 0, locals := 48 } : Room) cX11_cases 4 RX11 Z) (hr : tc_Rt 0 cX11_cases 4 Z q) : tc_Ok 4 Z 25 (bkX11_cases_25 (tc_At 4 Z) q) := by
  unfold bkX11_cases_25
  refine to_iadd (pc := 25) X dX11_cases_25 ?_
  refine to_istore_n (pc := 26) X dX11_cases_26 rfl (by decide) ?_
  refine to_iinc (pc := 27) X dX11_cases_27 (by decide) (by decide) ?_
  refine to_goto (pc := 30) (tgt := 4) X dX11_cases_30 (by decide) ?_
  exact to_cut [0, 1, 2, 3] (fun _ _ _ h => h)
def bkX11_cases_17 (P : Nat → tc_B) (q : tc_Q) : tc_B := tb_if_eq (tb_i 0 <| tb_cut (P 25) [0, 1, 3]) <| tb_i 1 <| tb_cut (P 25) [0, 1, 3]
theorem okX11_cases_17 {Z : tc_Z} {q : tc_Q} (X : tc_Cx ({ frames := 2, cells := 0, slots := 0, locals := 48 } : Room) cX11_cases 4 RX11 Z) (hr : tc_Rt 0 cX11_cases 4 Z q) : tc_Ok 4 Z 17 (bkX11_cases_17 (tc_At 4 Z) q) := by
  unfold bkX11_cases_17
  refine to_if_eq (pc := 17) (tgt := 24) X dX11_cases_17 (by decide) ?_ ?_
  · refine to_iconst (pc := 24) X dX11_cases_24 (by decide) ?_
    exact to_cut [0, 1, 3] (fun _ _ _ h => h)
  refine to_iconst (pc := 20) X dX11_cases_20 (by decide) ?_
  refine to_goto (pc := 21) (tgt := 25) X dX11_cases_21 (by decide) ?_
  exact to_cut [0, 1, 3] (fun _ _ _ h => h)
def bkX11_cases_4 (P : Nat → tc_B) (q : tc_Q) : tc_B := tb_iload 3 <| tb_i 40 <| tb_icmp_ge (tb_iload 2 <| tb_iret q) <| tb_iload 2 <| tb_aload 0 <| tb_iload 1 <| tb_iload 3 <| tb_callV 2 3 9 RX11_isCase <| bkX11_cases_17 P q
theorem okX11_cases_4 {Z : tc_Z} {q : tc_Q} (X : tc_Cx ({ frames := 2, cells := 0, slots := 0, locals := 48 } : Room) cX11_cases 4 RX11 Z) (hr : tc_Rt 0 cX11_cases 4 Z q) : tc_Ok 4 Z 4 (bkX11_cases_4 (tc_At 4 Z) q) := by
  unfold bkX11_cases_4
  refine to_iload_n (pc := 4) X dX11_cases_4 rfl ?_
  refine to_bipush (pc := 5) X dX11_cases_5 (by decide) ?_
  refine to_icmp_ge (pc := 7) (tgt := 33) X dX11_cases_7 (by decide) ?_ ?_
  · refine to_iload_n (pc := 33) X dX11_cases_33 rfl ?_
    exact to_iret (pc := 34) hr dX11_cases_34
  refine to_iload_n (pc := 10) X dX11_cases_10 rfl ?_
  refine to_aload_n (pc := 11) X dX11_cases_11 rfl ?_
  refine to_iload_n (pc := 12) X dX11_cases_12 rfl ?_
  refine to_iload_n (pc := 13) X dX11_cases_13 rfl ?_
  refine cvX11_isCase (pc := 14) X wm_RX11_153 (by decide) dX11_cases_14 ?_
  exact okX11_cases_17 X hr
def bkX11_cases_0 (P : Nat → tc_B) (q : tc_Q) : tc_B := tb_i 0 <| tb_istore 2 <| tb_i 0 <| tb_istore 3 <| tb_cut (P 4) [0, 1, 2, 3]
theorem okX11_cases_0 {Z : tc_Z} {q : tc_Q} (X : tc_Cx ({ frames := 2, cells := 0, slots := 0, locals := 48 } : Room) cX11_cases 4 RX11 Z) (hr : tc_Rt 0 cX11_cases 4 Z q) : tc_Ok 4 Z 0 (bkX11_cases_0 (tc_At 4 Z) q) := by
  unfold bkX11_cases_0
  refine to_iconst (pc := 0) X dX11_cases_0 (by decide) ?_
  refine to_istore_n (pc := 1) X dX11_cases_1 rfl (by decide) ?_
  refine to_iconst (pc := 2) X dX11_cases_2 (by decide) ?_
  refine to_istore_n (pc := 3) X dX11_cases_3 rfl (by decide) ?_
  exact to_cut [0, 1, 2, 3] (fun _ _ _ h => h)
def RX11_cases (vs : List tc_V) (S : tc_S) (q : tc_Q) : Prop := ∀ P : Nat → tc_B, (∀ L K S, bkX11_cases_4 P q L K S → P 4 L K S) → (∀ L K S, bkX11_cases_25 P q L K S → P 25 L K S) → bkX11_cases_0 P q (tc_num 0 vs) [] S
theorem metX11_cases : tc_Met yX11_cases (Cond.code yX11_cases cX11_cases 4 (some .int)) ({ frames := 2, cells := 0, slots := 0, locals := 48 } : Room) 0 4 RX11_cases := tc_met (rk := 0) (by decide) ⟨rfl, rfl⟩ (fun Z q X hr vs S h => okX11_cases_0 X hr _ _ _ (h (tc_At 4 Z) (okX11_cases_4 X hr) (okX11_cases_25 X hr)))
theorem cvX11_cases {R : Room} {cc : ByteArray} {nL pc ix : Nat} {own : String} {Z : tc_Z} {k : tc_B} (X : tc_Cx R cc nL own Z) (h1 : Cond.methodLink own ix yX11_cases ∈ tc_tb) (hR : 2 + 1 ≤ R.frames ∧ 8 + (4 + 11) + 48 ≤ R.locals) (hd : decode cc pc = .ok (.invokevirtual ix, 3)) (h : tc_Ok nL Z (pc + 3) k) : tc_Ok nL Z pc (tb_callV 1 4 9 RX11_cases k) := to_callV X metX11_cases rfl ⟨rfl, rfl⟩ hR h1 wi_X11_cases wl_X11_cases wn_RX11 wc_X11_cases ⟨by decide +kernel, by decide +kernel, by decide +kernel, by decide +kernel⟩ hd h
def bkX11_misses_55 (P : Nat → tc_B) (q : tc_Q) : tc_B := tb_ladd <| tb_lstore 2 <| tb_iinc 4 1 <| tb_cut (P 5) [0, 1, 2, 4]
theorem okX11_misses_55 {Z : tc_Z} {q : tc_Q} (X : tc_Cx ({ frames := 2, cells := 0, slots := 0, locals := 48 } : Room) cX11_misses 5 RX11 Z) (hr : tc_Rt 2 cX11_misses 5 Z q) : tc_Ok 5 Z 55 (bkX11_misses_55 (tc_At 5 Z) q) := by
  unfold bkX11_misses_55
  refine to_ladd (pc := 55) X dX11_misses_55 ?_
  refine to_lstore_n (pc := 56) X dX11_misses_56 rfl (by decide) ?_
  refine to_iinc (pc := 57) X dX11_misses_57 (by decide) (by decide) ?_
  refine to_goto (pc := 60) (tgt := 5) X dX11_misses_60 (by decide) ?_
  exact to_cut [0, 1, 2, 4] (fun _ _ _ h => h)
def bkX11_misses_50 (P : Nat → tc_B) (q : tc_Q) : tc_B := tb_i2l <| tb_cut (P 55) [0, 1, 4]
theorem okX11_misses_50 {Z : tc_Z} {q : tc_Q} (X : tc_Cx ({ frames := 2, cells := 0, slots := 0, locals := 48 } : Room) cX11_misses 5 RX11 Z) (hr : tc_Rt 2 cX11_misses 5 Z q) : tc_Ok 5 Z 50 (bkX11_misses_50 (tc_At 5 Z) q) := by
  unfold bkX11_misses_50
  refine to_i2l (pc := 50) X dX11_misses_50 ?_
  refine to_goto (pc := 51) (tgt := 55) X dX11_misses_51 (by decide) ?_
  exact to_cut [0, 1, 4] (fun _ _ _ h => h)
def bkX11_misses_47 (P : Nat → tc_B) (q : tc_Q) : tc_B := tb_callV 2 4 9 RX11_missOf <| bkX11_misses_50 P q
theorem okX11_misses_47 {Z : tc_Z} {q : tc_Q} (X : tc_Cx ({ frames := 2, cells := 0, slots := 0, locals := 48 } : Room) cX11_misses 5 RX11 Z) (hr : tc_Rt 2 cX11_misses 5 Z q) : tc_Ok 5 Z 47 (bkX11_misses_47 (tc_At 5 Z) q) := by
  unfold bkX11_misses_47
  refine cvX11_missOf (pc := 47) X wm_RX11_149 (by decide) dX11_misses_47 ?_
  exact okX11_misses_50 X hr
def bkX11_misses_31 (P : Nat → tc_B) (q : tc_Q) : tc_B := tb_aload 0 <| tb_getf 9 1 <| tb_iload 4 <| tb_iald <| tb_i 1 <| tb_icmp_ne (tb_i 0 <| tb_cut (P 47) [0, 1, 4]) <| tb_i 1 <| tb_cut (P 47) [0, 1, 4]
theorem okX11_misses_31 {Z : tc_Z} {q : tc_Q} (X : tc_Cx ({ frames := 2, cells := 0, slots := 0, locals := 48 } : Room) cX11_misses 5 RX11 Z) (hr : tc_Rt 2 cX11_misses 5 Z q) : tc_Ok 5 Z 31 (bkX11_misses_31 (tc_At 5 Z) q) := by
  unfold bkX11_misses_31
  refine to_aload_n (pc := 31) X dX11_misses_31 rfl ?_
  refine gfX11_1 (pc := 32) X wf_RX11_13 dX11_misses_32 ?_
  refine to_iload (pc := 35) X dX11_misses_35 ?_
  refine to_iald (pc := 37) X dX11_misses_37 ?_
  refine to_iconst (pc := 38) X dX11_misses_38 (by decide) ?_
  refine to_icmp_ne (pc := 39) (tgt := 46) X dX11_misses_39 (by decide) ?_ ?_
  · refine to_iconst (pc := 46) X dX11_misses_46 (by decide) ?_
    exact to_cut [0, 1, 4] (fun _ _ _ h => h)
  refine to_iconst (pc := 42) X dX11_misses_42 (by decide) ?_
  refine to_goto (pc := 43) (tgt := 47) X dX11_misses_43 (by decide) ?_
  exact to_cut [0, 1, 4] (fun _ _ _ h => h)
def bkX11_misses_20 (P : Nat → tc_B) (q : tc_Q) : tc_B := tb_if_eq (tb_j 0 <| tb_cut (P 55) [0, 1, 4]) <| tb_aload 0 <| tb_aload 0 <| tb_iload 1 <| tb_iload 4 <| tb_callV 2 7 9 RX11_toldBy <| bkX11_misses_31 P q
theorem okX11_misses_20 {Z : tc_Z} {q : tc_Q} (X : tc_Cx ({ frames := 2, cells := 0, slots := 0, locals := 48 } : Room) cX11_misses 5 RX11 Z) (hr : tc_Rt 2 cX11_misses 5 Z q) : tc_Ok 5 Z 20 (bkX11_misses_20 (tc_At 5 Z) q) := by
  unfold bkX11_misses_20
  refine to_if_eq (pc := 20) (tgt := 54) X dX11_misses_20 (by decide) ?_ ?_
  · refine to_lconst (pc := 54) X dX11_misses_54 (by decide) ?_
    exact to_cut [0, 1, 4] (fun _ _ _ h => h)
  refine to_aload_n (pc := 23) X dX11_misses_23 rfl ?_
  refine to_aload_n (pc := 24) X dX11_misses_24 rfl ?_
  refine to_iload_n (pc := 25) X dX11_misses_25 rfl ?_
  refine to_iload (pc := 26) X dX11_misses_26 ?_
  refine cvX11_toldBy (pc := 28) X wm_RX11_84 (by decide) dX11_misses_28 ?_
  exact okX11_misses_31 X hr
def bkX11_misses_5 (P : Nat → tc_B) (q : tc_Q) : tc_B := tb_iload 4 <| tb_i 40 <| tb_icmp_ge (tb_lload 2 <| tb_jret q) <| tb_lload 2 <| tb_aload 0 <| tb_iload 1 <| tb_iload 4 <| tb_callV 2 3 9 RX11_isCase <| bkX11_misses_20 P q
theorem okX11_misses_5 {Z : tc_Z} {q : tc_Q} (X : tc_Cx ({ frames := 2, cells := 0, slots := 0, locals := 48 } : Room) cX11_misses 5 RX11 Z) (hr : tc_Rt 2 cX11_misses 5 Z q) : tc_Ok 5 Z 5 (bkX11_misses_5 (tc_At 5 Z) q) := by
  unfold bkX11_misses_5
  refine to_iload (pc := 5) X dX11_misses_5 ?_
  refine to_bipush (pc := 7) X dX11_misses_7 (by decide) ?_
  refine to_icmp_ge (pc := 9) (tgt := 63) X dX11_misses_9 (by decide) ?_ ?_
  · refine to_lload_n (pc := 63) X dX11_misses_63 rfl ?_
    exact to_jret (pc := 64) hr dX11_misses_64
  refine to_lload_n (pc := 12) X dX11_misses_12 rfl ?_
  refine to_aload_n (pc := 13) X dX11_misses_13 rfl ?_
  refine to_iload_n (pc := 14) X dX11_misses_14 rfl ?_
  refine to_iload (pc := 15) X dX11_misses_15 ?_
  refine cvX11_isCase (pc := 17) X wm_RX11_153 (by decide) dX11_misses_17 ?_
  exact okX11_misses_20 X hr
def bkX11_misses_0 (P : Nat → tc_B) (q : tc_Q) : tc_B := tb_j 0 <| tb_lstore 2 <| tb_i 0 <| tb_istore 4 <| tb_cut (P 5) [0, 1, 2, 4]
theorem okX11_misses_0 {Z : tc_Z} {q : tc_Q} (X : tc_Cx ({ frames := 2, cells := 0, slots := 0, locals := 48 } : Room) cX11_misses 5 RX11 Z) (hr : tc_Rt 2 cX11_misses 5 Z q) : tc_Ok 5 Z 0 (bkX11_misses_0 (tc_At 5 Z) q) := by
  unfold bkX11_misses_0
  refine to_lconst (pc := 0) X dX11_misses_0 (by decide) ?_
  refine to_lstore_n (pc := 1) X dX11_misses_1 rfl (by decide) ?_
  refine to_iconst (pc := 2) X dX11_misses_2 (by decide) ?_
  refine to_istore (pc := 3) X dX11_misses_3 (by decide) ?_
  exact to_cut [0, 1, 2, 4] (fun _ _ _ h => h)
def RX11_misses (vs : List tc_V) (S : tc_S) (q : tc_Q) : Prop := ∀ P : Nat → tc_B, (∀ L K S, bkX11_misses_5 P q L K S → P 5 L K S) → (∀ L K S, bkX11_misses_47 P q L K S → P 47 L K S) → (∀ L K S, bkX11_misses_55 P q L K S → P 55 L K S) → bkX11_misses_0 P q (tc_num 0 vs) [] S
theorem metX11_misses : tc_Met yX11_misses (Cond.code yX11_misses cX11_misses 5 (some .long)) ({ frames := 2, cells := 0, slots := 0, locals := 48 } : Room) 2 5 RX11_misses := tc_met (rk := 2) (by decide) ⟨rfl, rfl⟩ (fun Z q X hr vs S h => okX11_misses_0 X hr _ _ _ (h (tc_At 5 Z) (okX11_misses_5 X hr) (okX11_misses_47 X hr) (okX11_misses_55 X hr)))
theorem cvX11_misses {R : Room} {cc : ByteArray} {nL pc ix : Nat} {own : String} {Z : tc_Z} {k : tc_B} (X : tc_Cx R cc nL own Z) (h1 : Cond.methodLink own ix yX11_misses ∈ tc_tb) (hR : 2 + 1 ≤ R.frames ∧ 8 + (5 + 11) + 48 ≤ R.locals) (hd : decode cc pc = .ok (.invokevirtual ix, 3)) (h : tc_Ok nL Z (pc + 3) k) : tc_Ok nL Z pc (tb_callV 1 5 9 RX11_misses k) := to_callV X metX11_misses rfl ⟨rfl, rfl⟩ hR h1 wi_X11_misses wl_X11_misses wn_RX11 wc_X11_misses ⟨by decide +kernel, by decide +kernel, by decide +kernel, by decide +kernel⟩ hd h
def bkX11_becomesFraction_17 (P : Nat → tc_B) (q : tc_Q) : tc_B := tb_lload 7 <| tb_j 0 <| tb_lcmp <| tb_if_eq (tb_aload 0 <| tb_lload 1 <| tb_lload 5 <| tb_ldiv <| tb_putJ 9 10 <| tb_aload 0 <| tb_lload 3 <| tb_lload 5 <| tb_ldiv <| tb_putJ 9 11 <| tb_vret q) <| tb_lload 5 <| tb_lload 7 <| tb_lrem <| tb_lstore 9 <| tb_lload 7 <| tb_lstore 5 <| tb_lload 9 <| tb_lstore 7 <| tb_cut (P 17) [0, 1, 3, 5, 7]
theorem okX11_becomesFraction_17 {Z : tc_Z} {q : tc_Q} (X : tc_Cx ({ frames := 0, cells := 0, slots := 0, locals := 0 } : Room) cX11_becomesFraction 11 RX11 Z) (hr : tc_Rt 3 cX11_becomesFraction 11 Z q) : tc_Ok 11 Z 17 (bkX11_becomesFraction_17 (tc_At 11 Z) q) := by
  unfold bkX11_becomesFraction_17
  refine to_lload (pc := 17) X dX11_becomesFraction_17 ?_
  refine to_lconst (pc := 19) X dX11_becomesFraction_19 (by decide) ?_
  refine to_lcmp (pc := 20) X dX11_becomesFraction_20 ?_
  refine to_if_eq (pc := 21) (tgt := 42) X dX11_becomesFraction_21 (by decide) ?_ ?_
  · refine to_aload_n (pc := 42) X dX11_becomesFraction_42 rfl ?_
    refine to_lload_n (pc := 43) X dX11_becomesFraction_43 rfl ?_
    refine to_lload (pc := 44) X dX11_becomesFraction_44 ?_
    refine to_ldiv (pc := 46) X dX11_becomesFraction_46 ?_
    refine pfX11_10 (pc := 47) X wf_RX11_157 dX11_becomesFraction_47 ?_
    refine to_aload_n (pc := 50) X dX11_becomesFraction_50 rfl ?_
    refine to_lload_n (pc := 51) X dX11_becomesFraction_51 rfl ?_
    refine to_lload (pc := 52) X dX11_becomesFraction_52 ?_
    refine to_ldiv (pc := 54) X dX11_becomesFraction_54 ?_
    refine pfX11_11 (pc := 55) X wf_RX11_28 dX11_becomesFraction_55 ?_
    exact to_vret (pc := 58) hr dX11_becomesFraction_58
  refine to_lload (pc := 24) X dX11_becomesFraction_24 ?_
  refine to_lload (pc := 26) X dX11_becomesFraction_26 ?_
  refine to_lrem (pc := 28) X dX11_becomesFraction_28 ?_
  refine to_lstore (pc := 29) X dX11_becomesFraction_29 (by decide) ?_
  refine to_lload (pc := 31) X dX11_becomesFraction_31 ?_
  refine to_lstore (pc := 33) X dX11_becomesFraction_33 (by decide) ?_
  refine to_lload (pc := 35) X dX11_becomesFraction_35 ?_
  refine to_lstore (pc := 37) X dX11_becomesFraction_37 (by decide) ?_
  refine to_goto (pc := 39) (tgt := 17) X dX11_becomesFraction_39 (by decide) ?_
  exact to_cut [0, 1, 3, 5, 7] (fun _ _ _ h => h)
def bkX11_becomesFraction_12 (P : Nat → tc_B) (q : tc_Q) : tc_B := tb_lstore 5 <| tb_lload 3 <| tb_lstore 7 <| tb_cut (P 17) [0, 1, 3, 5, 7]
theorem okX11_becomesFraction_12 {Z : tc_Z} {q : tc_Q} (X : tc_Cx ({ frames := 0, cells := 0, slots := 0, locals := 0 } : Room) cX11_becomesFraction 11 RX11 Z) (hr : tc_Rt 3 cX11_becomesFraction 11 Z q) : tc_Ok 11 Z 12 (bkX11_becomesFraction_12 (tc_At 11 Z) q) := by
  unfold bkX11_becomesFraction_12
  refine to_lstore (pc := 12) X dX11_becomesFraction_12 (by decide) ?_
  refine to_lload_n (pc := 14) X dX11_becomesFraction_14 rfl ?_
  refine to_lstore (pc := 15) X dX11_becomesFraction_15 (by decide) ?_
  exact to_cut [0, 1, 3, 5, 7] (fun _ _ _ h => h)
def bkX11_becomesFraction_0 (P : Nat → tc_B) (q : tc_Q) : tc_B := tb_lload 1 <| tb_j 0 <| tb_lcmp <| tb_if_ge (tb_lload 1 <| tb_cut (P 12) [0, 1, 3]) <| tb_lload 1 <| tb_lneg <| tb_cut (P 12) [0, 1, 3]
theorem okX11_becomesFraction_0 {Z : tc_Z} {q : tc_Q} (X : tc_Cx ({ frames := 0, cells := 0, slots := 0, locals := 0 } : Room) cX11_becomesFraction 11 RX11 Z) (hr : tc_Rt 3 cX11_becomesFraction 11 Z q) : tc_Ok 11 Z 0 (bkX11_becomesFraction_0 (tc_At 11 Z) q) := by
  unfold bkX11_becomesFraction_0
  refine to_lload_n (pc := 0) X dX11_becomesFraction_0 rfl ?_
  refine to_lconst (pc := 1) X dX11_becomesFraction_1 (by decide) ?_
  refine to_lcmp (pc := 2) X dX11_becomesFraction_2 ?_
  refine to_if_ge (pc := 3) (tgt := 11) X dX11_becomesFraction_3 (by decide) ?_ ?_
  · refine to_lload_n (pc := 11) X dX11_becomesFraction_11 rfl ?_
    exact to_cut [0, 1, 3] (fun _ _ _ h => h)
  refine to_lload_n (pc := 6) X dX11_becomesFraction_6 rfl ?_
  refine to_lneg (pc := 7) X dX11_becomesFraction_7 ?_
  refine to_goto (pc := 8) (tgt := 12) X dX11_becomesFraction_8 (by decide) ?_
  exact to_cut [0, 1, 3] (fun _ _ _ h => h)
def RX11_becomesFraction (vs : List tc_V) (S : tc_S) (q : tc_Q) : Prop := ∀ P : Nat → tc_B, (∀ L K S, bkX11_becomesFraction_12 P q L K S → P 12 L K S) → (∀ L K S, bkX11_becomesFraction_17 P q L K S → P 17 L K S) → bkX11_becomesFraction_0 P q (tc_num 0 vs) [] S
theorem metX11_becomesFraction : tc_Met yX11_becomesFraction (Cond.code yX11_becomesFraction cX11_becomesFraction 11 none) ({ frames := 0, cells := 0, slots := 0, locals := 0 } : Room) 3 11 RX11_becomesFraction := tc_met (rk := 3) (by decide) ⟨rfl, rfl⟩ (fun Z q X hr vs S h => okX11_becomesFraction_0 X hr _ _ _ (h (tc_At 11 Z) (okX11_becomesFraction_12 X hr) (okX11_becomesFraction_17 X hr)))
theorem cvX11_becomesFraction {R : Room} {cc : ByteArray} {nL pc ix : Nat} {own : String} {Z : tc_Z} {k : tc_B} (X : tc_Cx R cc nL own Z) (h1 : Cond.methodLink own ix yX11_becomesFraction ∈ tc_tb) (hR : 0 + 1 ≤ R.frames ∧ 8 + (11 + 11) + 0 ≤ R.locals) (hd : decode cc pc = .ok (.invokevirtual ix, 3)) (h : tc_Ok nL Z (pc + 3) k) : tc_Ok nL Z pc (tb_callV 2 11 9 RX11_becomesFraction k) := to_callV X metX11_becomesFraction rfl ⟨rfl, rfl⟩ hR h1 wi_X11_becomesFraction wl_X11_becomesFraction wn_RX11 wc_X11_becomesFraction ⟨by decide +kernel, by decide +kernel, by decide +kernel, by decide +kernel⟩ hd h
def bkX11_adds_23 (P : Nat → tc_B) (q : tc_Q) : tc_B := tb_vret q
theorem okX11_adds_23 {Z : tc_Z} {q : tc_Q} (X : tc_Cx ({ frames := 1, cells := 0, slots := 0, locals := 30 } : Room) cX11_adds 5 RX11 Z) (hr : tc_Rt 3 cX11_adds 5 Z q) : tc_Ok 5 Z 23 (bkX11_adds_23 (tc_At 5 Z) q) := by
  unfold bkX11_adds_23
  exact to_vret (pc := 23) hr dX11_adds_23
def bkX11_adds_0 (P : Nat → tc_B) (q : tc_Q) : tc_B := tb_aload 0 <| tb_aload 0 <| tb_getf 9 10 <| tb_lload 3 <| tb_lmul <| tb_lload 1 <| tb_aload 0 <| tb_getf 9 11 <| tb_lmul <| tb_ladd <| tb_aload 0 <| tb_getf 9 11 <| tb_lload 3 <| tb_lmul <| tb_callV 2 11 9 RX11_becomesFraction <| bkX11_adds_23 P q
theorem okX11_adds_0 {Z : tc_Z} {q : tc_Q} (X : tc_Cx ({ frames := 1, cells := 0, slots := 0, locals := 30 } : Room) cX11_adds 5 RX11 Z) (hr : tc_Rt 3 cX11_adds 5 Z q) : tc_Ok 5 Z 0 (bkX11_adds_0 (tc_At 5 Z) q) := by
  unfold bkX11_adds_0
  refine to_aload_n (pc := 0) X dX11_adds_0 rfl ?_
  refine to_aload_n (pc := 1) X dX11_adds_1 rfl ?_
  refine gfX11_10 (pc := 2) X wf_RX11_157 dX11_adds_2 ?_
  refine to_lload_n (pc := 5) X dX11_adds_5 rfl ?_
  refine to_lmul (pc := 6) X dX11_adds_6 ?_
  refine to_lload_n (pc := 7) X dX11_adds_7 rfl ?_
  refine to_aload_n (pc := 8) X dX11_adds_8 rfl ?_
  refine gfX11_11 (pc := 9) X wf_RX11_28 dX11_adds_9 ?_
  refine to_lmul (pc := 12) X dX11_adds_12 ?_
  refine to_ladd (pc := 13) X dX11_adds_13 ?_
  refine to_aload_n (pc := 14) X dX11_adds_14 rfl ?_
  refine gfX11_11 (pc := 15) X wf_RX11_28 dX11_adds_15 ?_
  refine to_lload_n (pc := 18) X dX11_adds_18 rfl ?_
  refine to_lmul (pc := 19) X dX11_adds_19 ?_
  refine cvX11_becomesFraction (pc := 20) X wm_RX11_160 (by decide) dX11_adds_20 ?_
  exact okX11_adds_23 X hr
def RX11_adds (vs : List tc_V) (S : tc_S) (q : tc_Q) : Prop := ∀ P : Nat → tc_B, bkX11_adds_0 P q (tc_num 0 vs) [] S
theorem metX11_adds : tc_Met yX11_adds (Cond.code yX11_adds cX11_adds 5 none) ({ frames := 1, cells := 0, slots := 0, locals := 30 } : Room) 3 5 RX11_adds := tc_met (rk := 3) (by decide) ⟨rfl, rfl⟩ (fun Z q X hr vs S h => okX11_adds_0 X hr _ _ _ (h (tc_At 5 Z)))
theorem cvX11_adds {R : Room} {cc : ByteArray} {nL pc ix : Nat} {own : String} {Z : tc_Z} {k : tc_B} (X : tc_Cx R cc nL own Z) (h1 : Cond.methodLink own ix yX11_adds ∈ tc_tb) (hR : 1 + 1 ≤ R.frames ∧ 8 + (5 + 11) + 30 ≤ R.locals) (hd : decode cc pc = .ok (.invokevirtual ix, 3)) (h : tc_Ok nL Z (pc + 3) k) : tc_Ok nL Z pc (tb_callV 2 5 9 RX11_adds k) := to_callV X metX11_adds rfl ⟨rfl, rfl⟩ hR h1 wi_X11_adds wl_X11_adds wn_RX11 wc_X11_adds ⟨by decide +kernel, by decide +kernel, by decide +kernel, by decide +kernel⟩ hd h
def bkX11_part_0 (P : Nat → tc_B) (q : tc_Q) : tc_B := tb_iload 1 <| tb_if_ne (tb_aload 0 <| tb_getf 9 11 <| tb_jret q) <| tb_aload 0 <| tb_getf 9 10 <| tb_jret q
theorem okX11_part_0 {Z : tc_Z} {q : tc_Q} (X : tc_Cx ({ frames := 0, cells := 0, slots := 0, locals := 0 } : Room) cX11_part 2 RX11 Z) (hr : tc_Rt 2 cX11_part 2 Z q) : tc_Ok 2 Z 0 (bkX11_part_0 (tc_At 2 Z) q) := by
  unfold bkX11_part_0
  refine to_iload_n (pc := 0) X dX11_part_0 rfl ?_
  refine to_if_ne (pc := 1) (tgt := 11) X dX11_part_1 (by decide) ?_ ?_
  · refine to_aload_n (pc := 11) X dX11_part_11 rfl ?_
    refine gfX11_11 (pc := 12) X wf_RX11_28 dX11_part_12 ?_
    exact to_jret (pc := 15) hr dX11_part_15
  refine to_aload_n (pc := 4) X dX11_part_4 rfl ?_
  refine gfX11_10 (pc := 5) X wf_RX11_157 dX11_part_5 ?_
  refine to_goto (pc := 8) (tgt := 15) X dX11_part_8 (by decide) ?_
  exact to_jret (pc := 15) hr dX11_part_15
def RX11_part (vs : List tc_V) (S : tc_S) (q : tc_Q) : Prop := ∀ P : Nat → tc_B, bkX11_part_0 P q (tc_num 0 vs) [] S
theorem metX11_part : tc_Met yX11_part (Cond.code yX11_part cX11_part 2 (some .long)) ({ frames := 0, cells := 0, slots := 0, locals := 0 } : Room) 2 2 RX11_part := tc_met (rk := 2) (by decide) ⟨rfl, rfl⟩ (fun Z q X hr vs S h => okX11_part_0 X hr _ _ _ (h (tc_At 2 Z)))
theorem cvX11_part {R : Room} {cc : ByteArray} {nL pc ix : Nat} {own : String} {Z : tc_Z} {k : tc_B} (X : tc_Cx R cc nL own Z) (h1 : Cond.methodLink own ix yX11_part ∈ tc_tb) (hR : 0 + 1 ≤ R.frames ∧ 8 + (2 + 11) + 0 ≤ R.locals) (hd : decode cc pc = .ok (.invokevirtual ix, 3)) (h : tc_Ok nL Z (pc + 3) k) : tc_Ok nL Z pc (tb_callV 1 2 9 RX11_part k) := to_callV X metX11_part rfl ⟨rfl, rfl⟩ hR h1 wi_X11_part wl_X11_part wn_RX11 wc_X11_part ⟨by decide +kernel, by decide +kernel, by decide +kernel, by decide +kernel⟩ hd h
def bkX11_score_48 (P : Nat → tc_B) (q : tc_Q) : tc_B := tb_jret q
theorem okX11_score_48 {Z : tc_Z} {q : tc_Q} (X : tc_Cx ({ frames := 3, cells := 0, slots := 0, locals := 72 } : Room) cX11_score 3 RX11 Z) (hr : tc_Rt 2 cX11_score 3 Z q) : tc_Ok 3 Z 48 (bkX11_score_48 (tc_At 3 Z) q) := by
  unfold bkX11_score_48
  exact to_jret (pc := 48) hr dX11_score_48
def bkX11_score_43 (P : Nat → tc_B) (q : tc_Q) : tc_B := tb_aload 0 <| tb_iload 2 <| tb_callV 1 2 9 RX11_part <| bkX11_score_48 P q
theorem okX11_score_43 {Z : tc_Z} {q : tc_Q} (X : tc_Cx ({ frames := 3, cells := 0, slots := 0, locals := 72 } : Room) cX11_score 3 RX11 Z) (hr : tc_Rt 2 cX11_score 3 Z q) : tc_Ok 3 Z 43 (bkX11_score_43 (tc_At 3 Z) q) := by
  unfold bkX11_score_43
  refine to_aload_n (pc := 43) X dX11_score_43 rfl ?_
  refine to_iload_n (pc := 44) X dX11_score_44 rfl ?_
  refine cvX11_part (pc := 45) X wm_RX11_173 (by decide) dX11_score_45 ?_
  exact okX11_score_48 X hr
def bkX11_score_39 (P : Nat → tc_B) (q : tc_Q) : tc_B := tb_i2l <| tb_callV 2 11 9 RX11_becomesFraction <| bkX11_score_43 P q
theorem okX11_score_39 {Z : tc_Z} {q : tc_Q} (X : tc_Cx ({ frames := 3, cells := 0, slots := 0, locals := 72 } : Room) cX11_score 3 RX11 Z) (hr : tc_Rt 2 cX11_score 3 Z q) : tc_Ok 3 Z 39 (bkX11_score_39 (tc_At 3 Z) q) := by
  unfold bkX11_score_39
  refine to_i2l (pc := 39) X dX11_score_39 ?_
  refine cvX11_becomesFraction (pc := 40) X wm_RX11_160 (by decide) dX11_score_40 ?_
  exact okX11_score_43 X hr
def bkX11_score_34 (P : Nat → tc_B) (q : tc_Q) : tc_B := tb_aload 0 <| tb_iload 1 <| tb_callV 1 4 9 RX11_cases <| bkX11_score_39 P q
theorem okX11_score_34 {Z : tc_Z} {q : tc_Q} (X : tc_Cx ({ frames := 3, cells := 0, slots := 0, locals := 72 } : Room) cX11_score 3 RX11 Z) (hr : tc_Rt 2 cX11_score 3 Z q) : tc_Ok 3 Z 34 (bkX11_score_34 (tc_At 3 Z) q) := by
  unfold bkX11_score_34
  refine to_aload_n (pc := 34) X dX11_score_34 rfl ?_
  refine to_iload_n (pc := 35) X dX11_score_35 rfl ?_
  refine cvX11_cases (pc := 36) X wm_RX11_164 (by decide) dX11_score_36 ?_
  exact okX11_score_39 X hr
def bkX11_score_21 (P : Nat → tc_B) (q : tc_Q) : tc_B := tb_if_ne (tb_aload 0 <| tb_aload 0 <| tb_iload 1 <| tb_callV 1 5 9 RX11_misses <| bkX11_score_34 P q) <| tb_j (-9223372036854775808) <| tb_jret q
theorem okX11_score_21 {Z : tc_Z} {q : tc_Q} (X : tc_Cx ({ frames := 3, cells := 0, slots := 0, locals := 72 } : Room) cX11_score 3 RX11 Z) (hr : tc_Rt 2 cX11_score 3 Z q) : tc_Ok 3 Z 21 (bkX11_score_21 (tc_At 3 Z) q) := by
  unfold bkX11_score_21
  refine to_if_ne (pc := 21) (tgt := 28) X dX11_score_21 (by decide) ?_ ?_
  · refine to_aload_n (pc := 28) X dX11_score_28 rfl ?_
    refine to_aload_n (pc := 29) X dX11_score_29 rfl ?_
    refine to_iload_n (pc := 30) X dX11_score_30 rfl ?_
    refine cvX11_misses (pc := 31) X wm_RX11_169 (by decide) dX11_score_31 ?_
    exact okX11_score_34 X hr
  refine to_ldc2 (pc := 24) X wj_RX11_167 dX11_score_24 ?_
  exact to_jret (pc := 27) hr dX11_score_27
def bkX11_score_13 (P : Nat → tc_B) (q : tc_Q) : tc_B := tb_if_eq (tb_j (-9223372036854775808) <| tb_jret q) <| tb_aload 0 <| tb_iload 1 <| tb_callV 1 4 9 RX11_cases <| bkX11_score_21 P q
theorem okX11_score_13 {Z : tc_Z} {q : tc_Q} (X : tc_Cx ({ frames := 3, cells := 0, slots := 0, locals := 72 } : Room) cX11_score 3 RX11 Z) (hr : tc_Rt 2 cX11_score 3 Z q) : tc_Ok 3 Z 13 (bkX11_score_13 (tc_At 3 Z) q) := by
  unfold bkX11_score_13
  refine to_if_eq (pc := 13) (tgt := 24) X dX11_score_13 (by decide) ?_ ?_
  · refine to_ldc2 (pc := 24) X wj_RX11_167 dX11_score_24 ?_
    exact to_jret (pc := 27) hr dX11_score_27
  refine to_aload_n (pc := 16) X dX11_score_16 rfl ?_
  refine to_iload_n (pc := 17) X dX11_score_17 rfl ?_
  refine cvX11_cases (pc := 18) X wm_RX11_164 (by decide) dX11_score_18 ?_
  exact okX11_score_21 X hr
def bkX11_score_4 (P : Nat → tc_B) (q : tc_Q) : tc_B := tb_if_eq (tb_j (-9223372036854775808) <| tb_jret q) <| tb_iload 2 <| tb_i 0 <| tb_i 1 <| tb_callS 3 3 RX11_within <| bkX11_score_13 P q
theorem okX11_score_4 {Z : tc_Z} {q : tc_Q} (X : tc_Cx ({ frames := 3, cells := 0, slots := 0, locals := 72 } : Room) cX11_score 3 RX11 Z) (hr : tc_Rt 2 cX11_score 3 Z q) : tc_Ok 3 Z 4 (bkX11_score_4 (tc_At 3 Z) q) := by
  unfold bkX11_score_4
  refine to_if_eq (pc := 4) (tgt := 24) X dX11_score_4 (by decide) ?_ ?_
  · refine to_ldc2 (pc := 24) X wj_RX11_167 dX11_score_24 ?_
    exact to_jret (pc := 27) hr dX11_score_27
  refine to_iload_n (pc := 7) X dX11_score_7 rfl ?_
  refine to_iconst (pc := 8) X dX11_score_8 (by decide) ?_
  refine to_iconst (pc := 9) X dX11_score_9 (by decide) ?_
  refine cvX11_within (pc := 10) X wm_RX11_66 (by decide) dX11_score_10 ?_
  exact okX11_score_13 X hr
def bkX11_score_0 (P : Nat → tc_B) (q : tc_Q) : tc_B := tb_iload 1 <| tb_callS 1 1 RX11_isAny <| bkX11_score_4 P q
theorem okX11_score_0 {Z : tc_Z} {q : tc_Q} (X : tc_Cx ({ frames := 3, cells := 0, slots := 0, locals := 72 } : Room) cX11_score 3 RX11 Z) (hr : tc_Rt 2 cX11_score 3 Z q) : tc_Ok 3 Z 0 (bkX11_score_0 (tc_At 3 Z) q) := by
  unfold bkX11_score_0
  refine to_iload_n (pc := 0) X dX11_score_0 rfl ?_
  refine cvX11_isAny (pc := 1) X wm_RX11_81 (by decide) dX11_score_1 ?_
  exact okX11_score_4 X hr
def RX11_score (vs : List tc_V) (S : tc_S) (q : tc_Q) : Prop := ∀ P : Nat → tc_B, bkX11_score_0 P q (tc_num 0 vs) [] S
theorem metX11_score : tc_Met yX11_score (Cond.code yX11_score cX11_score 3 (some .long)) ({ frames := 3, cells := 0, slots := 0, locals := 72 } : Room) 2 3 RX11_score := tc_met (rk := 2) (by decide) ⟨rfl, rfl⟩ (fun Z q X hr vs S h => okX11_score_0 X hr _ _ _ (h (tc_At 3 Z)))
theorem cvX11_score {R : Room} {cc : ByteArray} {nL pc ix : Nat} {own : String} {Z : tc_Z} {k : tc_B} (X : tc_Cx R cc nL own Z) (h1 : Cond.methodLink own ix yX11_score ∈ tc_tb) (hR : 3 + 1 ≤ R.frames ∧ 8 + (3 + 11) + 72 ≤ R.locals) (hd : decode cc pc = .ok (.invokevirtual ix, 3)) (h : tc_Ok nL Z (pc + 3) k) : tc_Ok nL Z pc (tb_callV 2 3 9 RX11_score k) := to_callV X metX11_score rfl ⟨rfl, rfl⟩ hR h1 wi_X11_score wl_X11_score wn_RX11 wc_X11_score ⟨by decide +kernel, by decide +kernel, by decide +kernel, by decide +kernel⟩ hd h
