/-! the constructors -/
def kf (v : Int32) (n : Nat) : Nat → Int32 := fun i => if i < n then v else 0
theorem kf_0 (v : Int32) : kf v 0 = fun _ => 0 := by
  funext i
  simp [kf]
theorem kf_s (v : Int32) (n : Nat) : upd (kf v n) n v = kf v (n + 1) := by
  funext i
  rw [h_updE]
  unfold kf
  by_cases e : i = n
  · rw [if_pos e, if_pos (by omega)]
  · rw [if_neg e]
    by_cases g : i < n
    · rw [if_pos g, if_pos (by omega)]
    · rw [if_neg g, if_neg (by omega)]
def kg (n : Nat) : Nat → Int32 := fun i => if i < n then hSg.getD i 0 else 0
theorem kg_0 : kg 0 = fun _ => 0 := by
  funext i
  simp [kg]
theorem kg_s (n : Nat) : upd (kg n) n (hSg.getD n 0) = kg (n + 1) := by
  funext i
  rw [h_updE]
  unfold kg
  by_cases e : i = n
  · rw [if_pos e, if_pos (by omega), e]
  · rw [if_neg e]
    by_cases g : i < n
    · rw [if_pos g, if_pos (by omega)]
    · rw [if_neg g, if_neg (by omega)]
section KFILL
variable {R : Room} {cc : ByteArray} {nL : Nat} {own : String} {cA : Nat → ClassId} {Z : tc_Z} {pc : Nat} {L : List (Nat × Value)} {K : List Value} {ws : va_W} {n : Nat × Nat}
theorem ki_astF {a N j k : Nat} {i x : Int32} (X : ki_Cx R cc nL own cA Z) (hj : ws[j]? = some (a, .inl (cA 0, N, .inl (kf x k)))) (hi : i = nI k) (hk : k < N) (hN : N < 2 ^ 31) (hd : decode cc pc = .ok (.iastore, 1)) (h : ki_At nL Z (pc + 1) L K (ws.set j (a, .inl (cA 0, N, .inl (kf x (k + 1))))) n) : ki_At nL Z pc L (.int x :: .int i :: .ref a :: K) ws n := by
  subst hi
  refine ki_iast X hj (vp_in_nI hk (by omega)) hd ?_
  rw [nI_clamp (by omega), kf_s]
  exact h
theorem ki_astG {a j k : Nat} {i x : Int32} (X : ki_Cx R cc nL own cA Z) (hj : ws[j]? = some (a, .inl (cA 0, 60, .inl (kg k)))) (hi : i = nI k) (hx : x = hSg.getD k 0) (hk : k < 60) (hd : decode cc pc = .ok (.iastore, 1)) (h : ki_At nL Z (pc + 1) L K (ws.set j (a, .inl (cA 0, 60, .inl (kg (k + 1))))) n) : ki_At nL Z pc L (.int x :: .int i :: .ref a :: K) ws n := by
  subst hi
  subst hx
  refine ki_iast X hj (vp_in_nI hk (by omega)) hd ?_
  rw [nI_clamp (by omega), kg_s]
  exact h
end KFILL

def kwX9_init : (Nat → ClassId) → Nat → List Nat → va_W := fun cA h0 u => [(h0, .inr (7, [.ref (u.getD 0 0), .int 0])), ((u.getD 0 0), .inl (cA 0, 24, .inl (fun _ => 0)))]
theorem kmX9_init : ki_Met yX9_init cX9_init 1 ({ frames := 1, cells := 1, slots := 24, locals := 12 } : Room) 7 [.null, .int 0] (fun _ _ _ => True) kwX9_init := by
  refine ki_met (by decide) rfl (by decide) (fun Z cA h0 sz X hI _ hr => ?_)
  refine ki_al0 (a := h0) X dX9_init_0 (by simp) ?_
  refine ki_obj X wm_RX9_3 ⟨Nat.le_of_ble_eq_true rfl, Nat.le_of_ble_eq_true rfl⟩ dX9_init_1 ?_
  refine ki_al0 (a := h0) X dX9_init_4 (by simp) ?_
  refine ki_bipush (x := 24) X dX9_init_5 (by decide) ?_
  refine ki_newa (atype := .int) (ty := .int) (t := 0) (N := 24) (a0 := (24, .inl (fun _ => 0))) X wx_arI rfl (fun _ => rfl) (fun _ _ h9 => h9) (fun _ => rfl) (by decide) (by decide) (Nat.le_of_ble_eq_true rfl) (Nat.le_of_ble_eq_true rfl) (Nat.le_of_ble_eq_true rfl) dX9_init_7 (fun q0 => ?_)
  show ki_At 1 Z 9 [(0, .ref h0)] [.ref q0, .ref h0] [(h0, .inr (7, [.null, .int 0])), (q0, .inl (cA 0, 24, .inl (fun _ => 0)))] (1, 24)
  refine ki_putF (f := 0) (ty := (.array .int)) X hI rfl (by decide) inX9 tyX9_ok nmX9 wf_RX9_9 rfl rfl rfl rfl rfl (Nat.le_of_ble_eq_true rfl) dX9_init_9 ?_
  show ki_At 1 Z 12 [(0, .ref h0)] [] [(h0, .inr (7, [.ref q0, .int 0])), (q0, .inl (cA 0, 24, .inl (fun _ => 0)))] (1, 24)
  refine ki_al0 (a := h0) X dX9_init_12 (by simp) ?_
  refine ki_iconst (x := 0) X dX9_init_13 (by decide) ?_
  refine ki_putN (f := 1) (ty := .int) X rfl (by decide) inX9 tyX9_ok nmX9 wf_RX9_15 rfl rfl rfl rfl (Nat.le_of_ble_eq_true rfl) dX9_init_14 ?_
  show ki_At 1 Z 17 [(0, .ref h0)] [] [(h0, .inr (7, [.ref q0, .int 0])), (q0, .inl (cA 0, 24, .inl (fun _ => 0)))] (1, 24)
  exact hr _ _ [q0] dX9_init_17
def kwX5_init : (Nat → ClassId) → Nat → List Nat → va_W := fun cA h0 u => [(h0, .inr (4, [.ref (u.getD 0 0), .int 0, .int 0])), ((u.getD 0 0), .inl (cA 0, 3, .inl (fun _ => 0)))]
theorem kmX5_init : ki_Met yX5_init cX5_init 1 ({ frames := 1, cells := 1, slots := 3, locals := 12 } : Room) 4 [.null, .int 0, .int 0] (fun _ _ _ => True) kwX5_init := by
  refine ki_met (by decide) rfl (by decide) (fun Z cA h0 sz X hI _ hr => ?_)
  refine ki_al0 (a := h0) X dX5_init_0 (by simp) ?_
  refine ki_obj X wm_RX5_3 ⟨Nat.le_of_ble_eq_true rfl, Nat.le_of_ble_eq_true rfl⟩ dX5_init_1 ?_
  refine ki_al0 (a := h0) X dX5_init_4 (by simp) ?_
  refine ki_iconst (x := 3) X dX5_init_5 (by decide) ?_
  refine ki_newa (atype := .int) (ty := .int) (t := 0) (N := 3) (a0 := (3, .inl (fun _ => 0))) X wx_arI rfl (fun _ => rfl) (fun _ _ h9 => h9) (fun _ => rfl) (by decide) (by decide) (Nat.le_of_ble_eq_true rfl) (Nat.le_of_ble_eq_true rfl) (Nat.le_of_ble_eq_true rfl) dX5_init_6 (fun q0 => ?_)
  show ki_At 1 Z 8 [(0, .ref h0)] [.ref q0, .ref h0] [(h0, .inr (4, [.null, .int 0, .int 0])), (q0, .inl (cA 0, 3, .inl (fun _ => 0)))] (1, 3)
  refine ki_putF (f := 0) (ty := (.array .int)) X hI rfl (by decide) inX5 tyX5_ok nmX5 wf_RX5_9 rfl rfl rfl rfl rfl (Nat.le_of_ble_eq_true rfl) dX5_init_8 ?_
  show ki_At 1 Z 11 [(0, .ref h0)] [] [(h0, .inr (4, [.ref q0, .int 0, .int 0])), (q0, .inl (cA 0, 3, .inl (fun _ => 0)))] (1, 3)
  refine ki_al0 (a := h0) X dX5_init_11 (by simp) ?_
  refine ki_iconst (x := 0) X dX5_init_12 (by decide) ?_
  refine ki_putN (f := 1) (ty := .boolean) X rfl (by decide) inX5 tyX5_ok nmX5 wf_RX5_15 rfl rfl (by decide +kernel) (by decide +kernel) (Nat.le_of_ble_eq_true rfl) dX5_init_13 ?_
  show ki_At 1 Z 16 [(0, .ref h0)] [] [(h0, .inr (4, [.ref q0, .int 0, .int 0])), (q0, .inl (cA 0, 3, .inl (fun _ => 0)))] (1, 3)
  refine ki_al0 (a := h0) X dX5_init_16 (by simp) ?_
  refine ki_iconst (x := 0) X dX5_init_17 (by decide) ?_
  refine ki_putN (f := 2) (ty := .int) X rfl (by decide) inX5 tyX5_ok nmX5 wf_RX5_19 rfl rfl rfl rfl (Nat.le_of_ble_eq_true rfl) dX5_init_18 ?_
  show ki_At 1 Z 21 [(0, .ref h0)] [] [(h0, .inr (4, [.ref q0, .int 0, .int 0])), (q0, .inl (cA 0, 3, .inl (fun _ => 0)))] (1, 3)
  exact hr _ _ [q0] dX5_init_21
def kwX2_init : (Nat → ClassId) → Nat → List Nat → va_W := fun cA h0 u => [(h0, .inr (2, [.ref (u.getD 0 0), .ref (u.getD 1 0), .int 0, .int 0])), ((u.getD 0 0), .inl (cA 0, 40, .inl (fun _ => 0))), ((u.getD 1 0), .inl (cA 1, 40, .inl (fun _ => 0)))]
theorem kmX2_init : ki_Met yX2_init cX2_init 1 ({ frames := 1, cells := 2, slots := 80, locals := 12 } : Room) 2 [.null, .null, .int 0, .int 0] (fun _ _ _ => True) kwX2_init := by
  refine ki_met (by decide) rfl (by decide) (fun Z cA h0 sz X hI _ hr => ?_)
  refine ki_al0 (a := h0) X dX2_init_0 (by simp) ?_
  refine ki_obj X wm_RX2_3 ⟨Nat.le_of_ble_eq_true rfl, Nat.le_of_ble_eq_true rfl⟩ dX2_init_1 ?_
  refine ki_al0 (a := h0) X dX2_init_4 (by simp) ?_
  refine ki_bipush (x := 40) X dX2_init_5 (by decide) ?_
  refine ki_newa (atype := .int) (ty := .int) (t := 0) (N := 40) (a0 := (40, .inl (fun _ => 0))) X wx_arI rfl (fun _ => rfl) (fun _ _ h9 => h9) (fun _ => rfl) (by decide) (by decide) (Nat.le_of_ble_eq_true rfl) (Nat.le_of_ble_eq_true rfl) (Nat.le_of_ble_eq_true rfl) dX2_init_7 (fun q0 => ?_)
  show ki_At 1 Z 9 [(0, .ref h0)] [.ref q0, .ref h0] [(h0, .inr (2, [.null, .null, .int 0, .int 0])), (q0, .inl (cA 0, 40, .inl (fun _ => 0)))] (1, 40)
  refine ki_putF (f := 0) (ty := (.array .int)) X hI rfl (by decide) inX2 tyX2_ok nmX2 wf_RX2_9 rfl rfl rfl rfl rfl (Nat.le_of_ble_eq_true rfl) dX2_init_9 ?_
  show ki_At 1 Z 12 [(0, .ref h0)] [] [(h0, .inr (2, [.ref q0, .null, .int 0, .int 0])), (q0, .inl (cA 0, 40, .inl (fun _ => 0)))] (1, 40)
  refine ki_al0 (a := h0) X dX2_init_12 (by simp) ?_
  refine ki_bipush (x := 40) X dX2_init_13 (by decide) ?_
  refine ki_newa (atype := .boolean) (ty := .boolean) (t := 1) (N := 40) (a0 := (40, .inl (fun _ => 0))) X wx_arZ rfl (fun _ => rfl) (fun _ _ h9 => h9) (fun _ => rfl) (by decide) (by decide) (Nat.le_of_ble_eq_true rfl) (Nat.le_of_ble_eq_true rfl) (Nat.le_of_ble_eq_true rfl) dX2_init_15 (fun q1 => ?_)
  show ki_At 1 Z 17 [(0, .ref h0)] [.ref q1, .ref h0] [(h0, .inr (2, [.ref q0, .null, .int 0, .int 0])), (q0, .inl (cA 0, 40, .inl (fun _ => 0))), (q1, .inl (cA 1, 40, .inl (fun _ => 0)))] (2, 80)
  refine ki_putF (f := 1) (ty := (.array .boolean)) X hI rfl (by decide) inX2 tyX2_ok nmX2 wf_RX2_15 rfl rfl rfl rfl rfl (Nat.le_of_ble_eq_true rfl) dX2_init_17 ?_
  show ki_At 1 Z 20 [(0, .ref h0)] [] [(h0, .inr (2, [.ref q0, .ref q1, .int 0, .int 0])), (q0, .inl (cA 0, 40, .inl (fun _ => 0))), (q1, .inl (cA 1, 40, .inl (fun _ => 0)))] (2, 80)
  refine ki_al0 (a := h0) X dX2_init_20 (by simp) ?_
  refine ki_iconst (x := 0) X dX2_init_21 (by decide) ?_
  refine ki_putN (f := 2) (ty := .int) X rfl (by decide) inX2 tyX2_ok nmX2 wf_RX2_19 rfl rfl rfl rfl (Nat.le_of_ble_eq_true rfl) dX2_init_22 ?_
  show ki_At 1 Z 25 [(0, .ref h0)] [] [(h0, .inr (2, [.ref q0, .ref q1, .int 0, .int 0])), (q0, .inl (cA 0, 40, .inl (fun _ => 0))), (q1, .inl (cA 1, 40, .inl (fun _ => 0)))] (2, 80)
  refine ki_al0 (a := h0) X dX2_init_25 (by simp) ?_
  refine ki_iconst (x := 0) X dX2_init_26 (by decide) ?_
  refine ki_putN (f := 3) (ty := .int) X rfl (by decide) inX2 tyX2_ok nmX2 wf_RX2_23 rfl rfl rfl rfl (Nat.le_of_ble_eq_true rfl) dX2_init_27 ?_
  show ki_At 1 Z 30 [(0, .ref h0)] [] [(h0, .inr (2, [.ref q0, .ref q1, .int 0, .int 0])), (q0, .inl (cA 0, 40, .inl (fun _ => 0))), (q1, .inl (cA 1, 40, .inl (fun _ => 0)))] (2, 80)
  exact hr _ _ [q0, q1] dX2_init_30
def kwX0_init : (Nat → ClassId) → Nat → List Nat → va_W := fun cA h0 u => [(h0, .inr (0, [.ref (u.getD 0 0), .int 0, .ref (u.getD 1 0), .ref (u.getD 2 0), .ref (u.getD 3 0), .ref (u.getD 4 0), .ref (u.getD 5 0)])), ((u.getD 0 0), .inl (cA 0, 9, .inl (fun _ => 0))), ((u.getD 1 0), .inl (cA 0, 10, .inl (fun _ => 0))), ((u.getD 2 0), .inl (cA 0, 10, .inl (fun _ => 0))), ((u.getD 3 0), .inl (cA 0, 10, .inl (fun _ => 0))), ((u.getD 4 0), .inl (cA 0, 10, .inl (fun _ => 0))), ((u.getD 5 0), .inl (cA 0, 10, .inl (fun _ => 0)))]
theorem kmX0_init : ki_Met yX0_init cX0_init 1 ({ frames := 1, cells := 6, slots := 59, locals := 12 } : Room) 0 [.null, .int 0, .null, .null, .null, .null, .null] (fun _ _ _ => True) kwX0_init := by
  refine ki_met (by decide) rfl (by decide) (fun Z cA h0 sz X hI _ hr => ?_)
  refine ki_al0 (a := h0) X dX0_init_0 (by simp) ?_
  refine ki_obj X wm_RX0_3 ⟨Nat.le_of_ble_eq_true rfl, Nat.le_of_ble_eq_true rfl⟩ dX0_init_1 ?_
  refine ki_al0 (a := h0) X dX0_init_4 (by simp) ?_
  refine ki_bipush (x := 9) X dX0_init_5 (by decide) ?_
  refine ki_newa (atype := .int) (ty := .int) (t := 0) (N := 9) (a0 := (9, .inl (fun _ => 0))) X wx_arI rfl (fun _ => rfl) (fun _ _ h9 => h9) (fun _ => rfl) (by decide) (by decide) (Nat.le_of_ble_eq_true rfl) (Nat.le_of_ble_eq_true rfl) (Nat.le_of_ble_eq_true rfl) dX0_init_7 (fun q0 => ?_)
  show ki_At 1 Z 9 [(0, .ref h0)] [.ref q0, .ref h0] [(h0, .inr (0, [.null, .int 0, .null, .null, .null, .null, .null])), (q0, .inl (cA 0, 9, .inl (fun _ => 0)))] (1, 9)
  refine ki_putF (f := 0) (ty := (.array .int)) X hI rfl (by decide) inX0 tyX0_ok nmX0 wf_RX0_9 rfl rfl rfl rfl rfl (Nat.le_of_ble_eq_true rfl) dX0_init_9 ?_
  show ki_At 1 Z 12 [(0, .ref h0)] [] [(h0, .inr (0, [.ref q0, .int 0, .null, .null, .null, .null, .null])), (q0, .inl (cA 0, 9, .inl (fun _ => 0)))] (1, 9)
  refine ki_al0 (a := h0) X dX0_init_12 (by simp) ?_
  refine ki_iconst (x := 0) X dX0_init_13 (by decide) ?_
  refine ki_putN (f := 1) (ty := .int) X rfl (by decide) inX0 tyX0_ok nmX0 wf_RX0_15 rfl rfl rfl rfl (Nat.le_of_ble_eq_true rfl) dX0_init_14 ?_
  show ki_At 1 Z 17 [(0, .ref h0)] [] [(h0, .inr (0, [.ref q0, .int 0, .null, .null, .null, .null, .null])), (q0, .inl (cA 0, 9, .inl (fun _ => 0)))] (1, 9)
  refine ki_al0 (a := h0) X dX0_init_17 (by simp) ?_
  refine ki_bipush (x := 10) X dX0_init_18 (by decide) ?_
  refine ki_newa (atype := .int) (ty := .int) (t := 0) (N := 10) (a0 := (10, .inl (fun _ => 0))) X wx_arI rfl (fun _ => rfl) (fun _ _ h9 => h9) (fun _ => rfl) (by decide) (by decide) (Nat.le_of_ble_eq_true rfl) (Nat.le_of_ble_eq_true rfl) (Nat.le_of_ble_eq_true rfl) dX0_init_20 (fun q1 => ?_)
  show ki_At 1 Z 22 [(0, .ref h0)] [.ref q1, .ref h0] [(h0, .inr (0, [.ref q0, .int 0, .null, .null, .null, .null, .null])), (q0, .inl (cA 0, 9, .inl (fun _ => 0))), (q1, .inl (cA 0, 10, .inl (fun _ => 0)))] (2, 19)
  refine ki_putF (f := 2) (ty := (.array .int)) X hI rfl (by decide) inX0 tyX0_ok nmX0 wf_RX0_19 rfl rfl rfl rfl rfl (Nat.le_of_ble_eq_true rfl) dX0_init_22 ?_
  show ki_At 1 Z 25 [(0, .ref h0)] [] [(h0, .inr (0, [.ref q0, .int 0, .ref q1, .null, .null, .null, .null])), (q0, .inl (cA 0, 9, .inl (fun _ => 0))), (q1, .inl (cA 0, 10, .inl (fun _ => 0)))] (2, 19)
  refine ki_al0 (a := h0) X dX0_init_25 (by simp) ?_
  refine ki_bipush (x := 10) X dX0_init_26 (by decide) ?_
  refine ki_newa (atype := .int) (ty := .int) (t := 0) (N := 10) (a0 := (10, .inl (fun _ => 0))) X wx_arI rfl (fun _ => rfl) (fun _ _ h9 => h9) (fun _ => rfl) (by decide) (by decide) (Nat.le_of_ble_eq_true rfl) (Nat.le_of_ble_eq_true rfl) (Nat.le_of_ble_eq_true rfl) dX0_init_28 (fun q2 => ?_)
  show ki_At 1 Z 30 [(0, .ref h0)] [.ref q2, .ref h0] [(h0, .inr (0, [.ref q0, .int 0, .ref q1, .null, .null, .null, .null])), (q0, .inl (cA 0, 9, .inl (fun _ => 0))), (q1, .inl (cA 0, 10, .inl (fun _ => 0))), (q2, .inl (cA 0, 10, .inl (fun _ => 0)))] (3, 29)
  refine ki_putF (f := 3) (ty := (.array .int)) X hI rfl (by decide) inX0 tyX0_ok nmX0 wf_RX0_22 rfl rfl rfl rfl rfl (Nat.le_of_ble_eq_true rfl) dX0_init_30 ?_
  show ki_At 1 Z 33 [(0, .ref h0)] [] [(h0, .inr (0, [.ref q0, .int 0, .ref q1, .ref q2, .null, .null, .null])), (q0, .inl (cA 0, 9, .inl (fun _ => 0))), (q1, .inl (cA 0, 10, .inl (fun _ => 0))), (q2, .inl (cA 0, 10, .inl (fun _ => 0)))] (3, 29)
  refine ki_al0 (a := h0) X dX0_init_33 (by simp) ?_
  refine ki_bipush (x := 10) X dX0_init_34 (by decide) ?_
  refine ki_newa (atype := .int) (ty := .int) (t := 0) (N := 10) (a0 := (10, .inl (fun _ => 0))) X wx_arI rfl (fun _ => rfl) (fun _ _ h9 => h9) (fun _ => rfl) (by decide) (by decide) (Nat.le_of_ble_eq_true rfl) (Nat.le_of_ble_eq_true rfl) (Nat.le_of_ble_eq_true rfl) dX0_init_36 (fun q3 => ?_)
  show ki_At 1 Z 38 [(0, .ref h0)] [.ref q3, .ref h0] [(h0, .inr (0, [.ref q0, .int 0, .ref q1, .ref q2, .null, .null, .null])), (q0, .inl (cA 0, 9, .inl (fun _ => 0))), (q1, .inl (cA 0, 10, .inl (fun _ => 0))), (q2, .inl (cA 0, 10, .inl (fun _ => 0))), (q3, .inl (cA 0, 10, .inl (fun _ => 0)))] (4, 39)
  refine ki_putF (f := 4) (ty := (.array .int)) X hI rfl (by decide) inX0 tyX0_ok nmX0 wf_RX0_25 rfl rfl rfl rfl rfl (Nat.le_of_ble_eq_true rfl) dX0_init_38 ?_
  show ki_At 1 Z 41 [(0, .ref h0)] [] [(h0, .inr (0, [.ref q0, .int 0, .ref q1, .ref q2, .ref q3, .null, .null])), (q0, .inl (cA 0, 9, .inl (fun _ => 0))), (q1, .inl (cA 0, 10, .inl (fun _ => 0))), (q2, .inl (cA 0, 10, .inl (fun _ => 0))), (q3, .inl (cA 0, 10, .inl (fun _ => 0)))] (4, 39)
  refine ki_al0 (a := h0) X dX0_init_41 (by simp) ?_
  refine ki_bipush (x := 10) X dX0_init_42 (by decide) ?_
  refine ki_newa (atype := .int) (ty := .int) (t := 0) (N := 10) (a0 := (10, .inl (fun _ => 0))) X wx_arI rfl (fun _ => rfl) (fun _ _ h9 => h9) (fun _ => rfl) (by decide) (by decide) (Nat.le_of_ble_eq_true rfl) (Nat.le_of_ble_eq_true rfl) (Nat.le_of_ble_eq_true rfl) dX0_init_44 (fun q4 => ?_)
  show ki_At 1 Z 46 [(0, .ref h0)] [.ref q4, .ref h0] [(h0, .inr (0, [.ref q0, .int 0, .ref q1, .ref q2, .ref q3, .null, .null])), (q0, .inl (cA 0, 9, .inl (fun _ => 0))), (q1, .inl (cA 0, 10, .inl (fun _ => 0))), (q2, .inl (cA 0, 10, .inl (fun _ => 0))), (q3, .inl (cA 0, 10, .inl (fun _ => 0))), (q4, .inl (cA 0, 10, .inl (fun _ => 0)))] (5, 49)
  refine ki_putF (f := 5) (ty := (.array .int)) X hI rfl (by decide) inX0 tyX0_ok nmX0 wf_RX0_28 rfl rfl rfl rfl rfl (Nat.le_of_ble_eq_true rfl) dX0_init_46 ?_
  show ki_At 1 Z 49 [(0, .ref h0)] [] [(h0, .inr (0, [.ref q0, .int 0, .ref q1, .ref q2, .ref q3, .ref q4, .null])), (q0, .inl (cA 0, 9, .inl (fun _ => 0))), (q1, .inl (cA 0, 10, .inl (fun _ => 0))), (q2, .inl (cA 0, 10, .inl (fun _ => 0))), (q3, .inl (cA 0, 10, .inl (fun _ => 0))), (q4, .inl (cA 0, 10, .inl (fun _ => 0)))] (5, 49)
  refine ki_al0 (a := h0) X dX0_init_49 (by simp) ?_
  refine ki_bipush (x := 10) X dX0_init_50 (by decide) ?_
  refine ki_newa (atype := .int) (ty := .int) (t := 0) (N := 10) (a0 := (10, .inl (fun _ => 0))) X wx_arI rfl (fun _ => rfl) (fun _ _ h9 => h9) (fun _ => rfl) (by decide) (by decide) (Nat.le_of_ble_eq_true rfl) (Nat.le_of_ble_eq_true rfl) (Nat.le_of_ble_eq_true rfl) dX0_init_52 (fun q5 => ?_)
  show ki_At 1 Z 54 [(0, .ref h0)] [.ref q5, .ref h0] [(h0, .inr (0, [.ref q0, .int 0, .ref q1, .ref q2, .ref q3, .ref q4, .null])), (q0, .inl (cA 0, 9, .inl (fun _ => 0))), (q1, .inl (cA 0, 10, .inl (fun _ => 0))), (q2, .inl (cA 0, 10, .inl (fun _ => 0))), (q3, .inl (cA 0, 10, .inl (fun _ => 0))), (q4, .inl (cA 0, 10, .inl (fun _ => 0))), (q5, .inl (cA 0, 10, .inl (fun _ => 0)))] (6, 59)
  refine ki_putF (f := 6) (ty := (.array .int)) X hI rfl (by decide) inX0 tyX0_ok nmX0 wf_RX0_31 rfl rfl rfl rfl rfl (Nat.le_of_ble_eq_true rfl) dX0_init_54 ?_
  show ki_At 1 Z 57 [(0, .ref h0)] [] [(h0, .inr (0, [.ref q0, .int 0, .ref q1, .ref q2, .ref q3, .ref q4, .ref q5])), (q0, .inl (cA 0, 9, .inl (fun _ => 0))), (q1, .inl (cA 0, 10, .inl (fun _ => 0))), (q2, .inl (cA 0, 10, .inl (fun _ => 0))), (q3, .inl (cA 0, 10, .inl (fun _ => 0))), (q4, .inl (cA 0, 10, .inl (fun _ => 0))), (q5, .inl (cA 0, 10, .inl (fun _ => 0)))] (6, 59)
  exact hr _ _ [q0, q1, q2, q3, q4, q5] dX0_init_57
def kwX7_init : (Nat → ClassId) → Nat → List Nat → va_W := fun cA h0 u => [(h0, .inr (6, [.ref (u.getD 0 0), .ref (u.getD 1 0), .ref (u.getD 2 0), .ref (u.getD 3 0), .ref (u.getD 4 0), .ref (u.getD 5 0), .int 0])), ((u.getD 0 0), .inl (cA 0, 101, .inl (fun _ => 0))), ((u.getD 1 0), .inl (cA 0, 101, .inl (fun _ => 0))), ((u.getD 2 0), .inl (cA 0, 40, .inl (fun _ => 0))), ((u.getD 3 0), .inl (cA 0, 40, .inl (fun _ => 0))), ((u.getD 4 0), .inl (cA 0, 40, .inl (fun _ => 0))), ((u.getD 5 0), .inl (cA 0, 40, .inl (fun _ => 0)))]
theorem kmX7_init : ki_Met yX7_init cX7_init 1 ({ frames := 1, cells := 6, slots := 362, locals := 12 } : Room) 6 [.null, .null, .null, .null, .null, .null, .int 0] (fun _ _ _ => True) kwX7_init := by
  refine ki_met (by decide) rfl (by decide) (fun Z cA h0 sz X hI _ hr => ?_)
  refine ki_al0 (a := h0) X dX7_init_0 (by simp) ?_
  refine ki_obj X wm_RX7_3 ⟨Nat.le_of_ble_eq_true rfl, Nat.le_of_ble_eq_true rfl⟩ dX7_init_1 ?_
  refine ki_al0 (a := h0) X dX7_init_4 (by simp) ?_
  refine ki_bipush (x := 101) X dX7_init_5 (by decide) ?_
  refine ki_newa (atype := .int) (ty := .int) (t := 0) (N := 101) (a0 := (101, .inl (fun _ => 0))) X wx_arI rfl (fun _ => rfl) (fun _ _ h9 => h9) (fun _ => rfl) (by decide) (by decide) (Nat.le_of_ble_eq_true rfl) (Nat.le_of_ble_eq_true rfl) (Nat.le_of_ble_eq_true rfl) dX7_init_7 (fun q0 => ?_)
  show ki_At 1 Z 9 [(0, .ref h0)] [.ref q0, .ref h0] [(h0, .inr (6, [.null, .null, .null, .null, .null, .null, .int 0])), (q0, .inl (cA 0, 101, .inl (fun _ => 0)))] (1, 101)
  refine ki_putF (f := 0) (ty := (.array .int)) X hI rfl (by decide) inX7 tyX7_ok nmX7 wf_RX7_9 rfl rfl rfl rfl rfl (Nat.le_of_ble_eq_true rfl) dX7_init_9 ?_
  show ki_At 1 Z 12 [(0, .ref h0)] [] [(h0, .inr (6, [.ref q0, .null, .null, .null, .null, .null, .int 0])), (q0, .inl (cA 0, 101, .inl (fun _ => 0)))] (1, 101)
  refine ki_al0 (a := h0) X dX7_init_12 (by simp) ?_
  refine ki_bipush (x := 101) X dX7_init_13 (by decide) ?_
  refine ki_newa (atype := .int) (ty := .int) (t := 0) (N := 101) (a0 := (101, .inl (fun _ => 0))) X wx_arI rfl (fun _ => rfl) (fun _ _ h9 => h9) (fun _ => rfl) (by decide) (by decide) (Nat.le_of_ble_eq_true rfl) (Nat.le_of_ble_eq_true rfl) (Nat.le_of_ble_eq_true rfl) dX7_init_15 (fun q1 => ?_)
  show ki_At 1 Z 17 [(0, .ref h0)] [.ref q1, .ref h0] [(h0, .inr (6, [.ref q0, .null, .null, .null, .null, .null, .int 0])), (q0, .inl (cA 0, 101, .inl (fun _ => 0))), (q1, .inl (cA 0, 101, .inl (fun _ => 0)))] (2, 202)
  refine ki_putF (f := 1) (ty := (.array .int)) X hI rfl (by decide) inX7 tyX7_ok nmX7 wf_RX7_15 rfl rfl rfl rfl rfl (Nat.le_of_ble_eq_true rfl) dX7_init_17 ?_
  show ki_At 1 Z 20 [(0, .ref h0)] [] [(h0, .inr (6, [.ref q0, .ref q1, .null, .null, .null, .null, .int 0])), (q0, .inl (cA 0, 101, .inl (fun _ => 0))), (q1, .inl (cA 0, 101, .inl (fun _ => 0)))] (2, 202)
  refine ki_al0 (a := h0) X dX7_init_20 (by simp) ?_
  refine ki_bipush (x := 40) X dX7_init_21 (by decide) ?_
  refine ki_newa (atype := .int) (ty := .int) (t := 0) (N := 40) (a0 := (40, .inl (fun _ => 0))) X wx_arI rfl (fun _ => rfl) (fun _ _ h9 => h9) (fun _ => rfl) (by decide) (by decide) (Nat.le_of_ble_eq_true rfl) (Nat.le_of_ble_eq_true rfl) (Nat.le_of_ble_eq_true rfl) dX7_init_23 (fun q2 => ?_)
  show ki_At 1 Z 25 [(0, .ref h0)] [.ref q2, .ref h0] [(h0, .inr (6, [.ref q0, .ref q1, .null, .null, .null, .null, .int 0])), (q0, .inl (cA 0, 101, .inl (fun _ => 0))), (q1, .inl (cA 0, 101, .inl (fun _ => 0))), (q2, .inl (cA 0, 40, .inl (fun _ => 0)))] (3, 242)
  refine ki_putF (f := 2) (ty := (.array .int)) X hI rfl (by decide) inX7 tyX7_ok nmX7 wf_RX7_18 rfl rfl rfl rfl rfl (Nat.le_of_ble_eq_true rfl) dX7_init_25 ?_
  show ki_At 1 Z 28 [(0, .ref h0)] [] [(h0, .inr (6, [.ref q0, .ref q1, .ref q2, .null, .null, .null, .int 0])), (q0, .inl (cA 0, 101, .inl (fun _ => 0))), (q1, .inl (cA 0, 101, .inl (fun _ => 0))), (q2, .inl (cA 0, 40, .inl (fun _ => 0)))] (3, 242)
  refine ki_al0 (a := h0) X dX7_init_28 (by simp) ?_
  refine ki_bipush (x := 40) X dX7_init_29 (by decide) ?_
  refine ki_newa (atype := .int) (ty := .int) (t := 0) (N := 40) (a0 := (40, .inl (fun _ => 0))) X wx_arI rfl (fun _ => rfl) (fun _ _ h9 => h9) (fun _ => rfl) (by decide) (by decide) (Nat.le_of_ble_eq_true rfl) (Nat.le_of_ble_eq_true rfl) (Nat.le_of_ble_eq_true rfl) dX7_init_31 (fun q3 => ?_)
  show ki_At 1 Z 33 [(0, .ref h0)] [.ref q3, .ref h0] [(h0, .inr (6, [.ref q0, .ref q1, .ref q2, .null, .null, .null, .int 0])), (q0, .inl (cA 0, 101, .inl (fun _ => 0))), (q1, .inl (cA 0, 101, .inl (fun _ => 0))), (q2, .inl (cA 0, 40, .inl (fun _ => 0))), (q3, .inl (cA 0, 40, .inl (fun _ => 0)))] (4, 282)
  refine ki_putF (f := 3) (ty := (.array .int)) X hI rfl (by decide) inX7 tyX7_ok nmX7 wf_RX7_21 rfl rfl rfl rfl rfl (Nat.le_of_ble_eq_true rfl) dX7_init_33 ?_
  show ki_At 1 Z 36 [(0, .ref h0)] [] [(h0, .inr (6, [.ref q0, .ref q1, .ref q2, .ref q3, .null, .null, .int 0])), (q0, .inl (cA 0, 101, .inl (fun _ => 0))), (q1, .inl (cA 0, 101, .inl (fun _ => 0))), (q2, .inl (cA 0, 40, .inl (fun _ => 0))), (q3, .inl (cA 0, 40, .inl (fun _ => 0)))] (4, 282)
  refine ki_al0 (a := h0) X dX7_init_36 (by simp) ?_
  refine ki_bipush (x := 40) X dX7_init_37 (by decide) ?_
  refine ki_newa (atype := .int) (ty := .int) (t := 0) (N := 40) (a0 := (40, .inl (fun _ => 0))) X wx_arI rfl (fun _ => rfl) (fun _ _ h9 => h9) (fun _ => rfl) (by decide) (by decide) (Nat.le_of_ble_eq_true rfl) (Nat.le_of_ble_eq_true rfl) (Nat.le_of_ble_eq_true rfl) dX7_init_39 (fun q4 => ?_)
  show ki_At 1 Z 41 [(0, .ref h0)] [.ref q4, .ref h0] [(h0, .inr (6, [.ref q0, .ref q1, .ref q2, .ref q3, .null, .null, .int 0])), (q0, .inl (cA 0, 101, .inl (fun _ => 0))), (q1, .inl (cA 0, 101, .inl (fun _ => 0))), (q2, .inl (cA 0, 40, .inl (fun _ => 0))), (q3, .inl (cA 0, 40, .inl (fun _ => 0))), (q4, .inl (cA 0, 40, .inl (fun _ => 0)))] (5, 322)
  refine ki_putF (f := 4) (ty := (.array .int)) X hI rfl (by decide) inX7 tyX7_ok nmX7 wf_RX7_24 rfl rfl rfl rfl rfl (Nat.le_of_ble_eq_true rfl) dX7_init_41 ?_
  show ki_At 1 Z 44 [(0, .ref h0)] [] [(h0, .inr (6, [.ref q0, .ref q1, .ref q2, .ref q3, .ref q4, .null, .int 0])), (q0, .inl (cA 0, 101, .inl (fun _ => 0))), (q1, .inl (cA 0, 101, .inl (fun _ => 0))), (q2, .inl (cA 0, 40, .inl (fun _ => 0))), (q3, .inl (cA 0, 40, .inl (fun _ => 0))), (q4, .inl (cA 0, 40, .inl (fun _ => 0)))] (5, 322)
  refine ki_al0 (a := h0) X dX7_init_44 (by simp) ?_
  refine ki_bipush (x := 40) X dX7_init_45 (by decide) ?_
  refine ki_newa (atype := .int) (ty := .int) (t := 0) (N := 40) (a0 := (40, .inl (fun _ => 0))) X wx_arI rfl (fun _ => rfl) (fun _ _ h9 => h9) (fun _ => rfl) (by decide) (by decide) (Nat.le_of_ble_eq_true rfl) (Nat.le_of_ble_eq_true rfl) (Nat.le_of_ble_eq_true rfl) dX7_init_47 (fun q5 => ?_)
  show ki_At 1 Z 49 [(0, .ref h0)] [.ref q5, .ref h0] [(h0, .inr (6, [.ref q0, .ref q1, .ref q2, .ref q3, .ref q4, .null, .int 0])), (q0, .inl (cA 0, 101, .inl (fun _ => 0))), (q1, .inl (cA 0, 101, .inl (fun _ => 0))), (q2, .inl (cA 0, 40, .inl (fun _ => 0))), (q3, .inl (cA 0, 40, .inl (fun _ => 0))), (q4, .inl (cA 0, 40, .inl (fun _ => 0))), (q5, .inl (cA 0, 40, .inl (fun _ => 0)))] (6, 362)
  refine ki_putF (f := 5) (ty := (.array .int)) X hI rfl (by decide) inX7 tyX7_ok nmX7 wf_RX7_27 rfl rfl rfl rfl rfl (Nat.le_of_ble_eq_true rfl) dX7_init_49 ?_
  show ki_At 1 Z 52 [(0, .ref h0)] [] [(h0, .inr (6, [.ref q0, .ref q1, .ref q2, .ref q3, .ref q4, .ref q5, .int 0])), (q0, .inl (cA 0, 101, .inl (fun _ => 0))), (q1, .inl (cA 0, 101, .inl (fun _ => 0))), (q2, .inl (cA 0, 40, .inl (fun _ => 0))), (q3, .inl (cA 0, 40, .inl (fun _ => 0))), (q4, .inl (cA 0, 40, .inl (fun _ => 0))), (q5, .inl (cA 0, 40, .inl (fun _ => 0)))] (6, 362)
  refine ki_al0 (a := h0) X dX7_init_52 (by simp) ?_
  refine ki_iconst (x := 0) X dX7_init_53 (by decide) ?_
  refine ki_putN (f := 6) (ty := .int) X rfl (by decide) inX7 tyX7_ok nmX7 wf_RX7_30 rfl rfl rfl rfl (Nat.le_of_ble_eq_true rfl) dX7_init_54 ?_
  show ki_At 1 Z 57 [(0, .ref h0)] [] [(h0, .inr (6, [.ref q0, .ref q1, .ref q2, .ref q3, .ref q4, .ref q5, .int 0])), (q0, .inl (cA 0, 101, .inl (fun _ => 0))), (q1, .inl (cA 0, 101, .inl (fun _ => 0))), (q2, .inl (cA 0, 40, .inl (fun _ => 0))), (q3, .inl (cA 0, 40, .inl (fun _ => 0))), (q4, .inl (cA 0, 40, .inl (fun _ => 0))), (q5, .inl (cA 0, 40, .inl (fun _ => 0)))] (6, 362)
  exact hr _ _ [q0, q1, q2, q3, q4, q5] dX7_init_57
def kwX4_init : (Nat → ClassId) → Nat → List Nat → va_W := fun cA h0 u => [(h0, .inr (3, [.long 0, .long 1]))]
theorem kmX4_init : ki_Met yX4_init cX4_init 1 ({ frames := 1, cells := 0, slots := 0, locals := 12 } : Room) 3 [.long 0, .long 0] (fun _ _ _ => True) kwX4_init := by
  refine ki_met (by decide) rfl (by decide) (fun Z cA h0 sz X hI _ hr => ?_)
  refine ki_al0 (a := h0) X dX4_init_0 (by simp) ?_
  refine ki_obj X wm_RX4_1 ⟨Nat.le_of_ble_eq_true rfl, Nat.le_of_ble_eq_true rfl⟩ dX4_init_1 ?_
  refine ki_al0 (a := h0) X dX4_init_4 (by simp) ?_
  refine ki_lconst (x := 0) X dX4_init_5 (by decide) ?_
  refine ki_putN (f := 0) (ty := .long) X rfl (by decide) inX4 tyX4_ok nmX4 wf_RX4_7 rfl rfl rfl rfl (Nat.le_of_ble_eq_true rfl) dX4_init_6 ?_
  show ki_At 1 Z 9 [(0, .ref h0)] [] [(h0, .inr (3, [.long 0, .long 0]))] (0, 0)
  refine ki_al0 (a := h0) X dX4_init_9 (by simp) ?_
  refine ki_lconst (x := 1) X dX4_init_10 (by decide) ?_
  refine ki_putN (f := 1) (ty := .long) X rfl (by decide) inX4 tyX4_ok nmX4 wf_RX4_13 rfl rfl rfl rfl (Nat.le_of_ble_eq_true rfl) dX4_init_11 ?_
  show ki_At 1 Z 14 [(0, .ref h0)] [] [(h0, .inr (3, [.long 0, .long 1]))] (0, 0)
  exact hr _ _ [] dX4_init_14
def kwX6_init : (Nat → ClassId) → Nat → List Nat → va_W := fun cA h0 u => [(h0, .inr (5, [.ref (u.getD 0 0), .int 0])), ((u.getD 0 0), .inl (cA 0, 100, .inl (fun _ => 0)))]
theorem kmX6_init : ki_Met yX6_init cX6_init 1 ({ frames := 1, cells := 1, slots := 100, locals := 12 } : Room) 5 [.null, .int 0] (fun _ _ _ => True) kwX6_init := by
  refine ki_met (by decide) rfl (by decide) (fun Z cA h0 sz X hI _ hr => ?_)
  refine ki_al0 (a := h0) X dX6_init_0 (by simp) ?_
  refine ki_obj X wm_RX6_3 ⟨Nat.le_of_ble_eq_true rfl, Nat.le_of_ble_eq_true rfl⟩ dX6_init_1 ?_
  refine ki_al0 (a := h0) X dX6_init_4 (by simp) ?_
  refine ki_bipush (x := 100) X dX6_init_5 (by decide) ?_
  refine ki_newa (atype := .int) (ty := .int) (t := 0) (N := 100) (a0 := (100, .inl (fun _ => 0))) X wx_arI rfl (fun _ => rfl) (fun _ _ h9 => h9) (fun _ => rfl) (by decide) (by decide) (Nat.le_of_ble_eq_true rfl) (Nat.le_of_ble_eq_true rfl) (Nat.le_of_ble_eq_true rfl) dX6_init_7 (fun q0 => ?_)
  show ki_At 1 Z 9 [(0, .ref h0)] [.ref q0, .ref h0] [(h0, .inr (5, [.null, .int 0])), (q0, .inl (cA 0, 100, .inl (fun _ => 0)))] (1, 100)
  refine ki_putF (f := 0) (ty := (.array .int)) X hI rfl (by decide) inX6 tyX6_ok nmX6 wf_RX6_9 rfl rfl rfl rfl rfl (Nat.le_of_ble_eq_true rfl) dX6_init_9 ?_
  show ki_At 1 Z 12 [(0, .ref h0)] [] [(h0, .inr (5, [.ref q0, .int 0])), (q0, .inl (cA 0, 100, .inl (fun _ => 0)))] (1, 100)
  refine ki_al0 (a := h0) X dX6_init_12 (by simp) ?_
  refine ki_iconst (x := 0) X dX6_init_13 (by decide) ?_
  refine ki_putN (f := 1) (ty := .int) X rfl (by decide) inX6 tyX6_ok nmX6 wf_RX6_15 rfl rfl rfl rfl (Nat.le_of_ble_eq_true rfl) dX6_init_14 ?_
  show ki_At 1 Z 17 [(0, .ref h0)] [] [(h0, .inr (5, [.ref q0, .int 0])), (q0, .inl (cA 0, 100, .inl (fun _ => 0)))] (1, 100)
  exact hr _ _ [q0] dX6_init_17
def kwX1_init : (Nat → ClassId) → Nat → List Nat → va_W := fun cA h0 u => [(h0, .inr (1, [.ref (u.getD 0 0), .ref (u.getD 1 0), .ref (u.getD 2 0)])), ((u.getD 0 0), .inl (cA 0, 160, .inl (kf (-9) 160))), ((u.getD 1 0), .inl (cA 0, 4, .inl (kf 1 4))), ((u.getD 2 0), .inl (cA 0, 40, .inl (fun _ => 0)))]
theorem kmX1_init : ki_Met yX1_init cX1_init 2 ({ frames := 1, cells := 3, slots := 204, locals := 12 } : Room) 1 [.null, .null, .null] (fun _ _ _ => True) kwX1_init := by
  refine ki_met (by decide) rfl (by decide) (fun Z cA h0 sz X hI _ hr => ?_)
  refine ki_al0 (a := h0) X dX1_init_0 (by simp) ?_
  refine ki_obj X wm_RX1_3 ⟨Nat.le_of_ble_eq_true rfl, Nat.le_of_ble_eq_true rfl⟩ dX1_init_1 ?_
  refine ki_al0 (a := h0) X dX1_init_4 (by simp) ?_
  refine ki_sipush (x := 160) X dX1_init_5 (by decide) ?_
  refine ki_newa (atype := .int) (ty := .int) (t := 0) (N := 160) (a0 := (160, .inl (kf (-9) 0))) X wx_arI rfl (fun _ => rfl) (fun _ _ h9 => h9) (fun _ => by rw [kf_0]; rfl) (by decide) (by decide) (Nat.le_of_ble_eq_true rfl) (Nat.le_of_ble_eq_true rfl) (Nat.le_of_ble_eq_true rfl) dX1_init_8 (fun q0 => ?_)
  show ki_At 2 Z 10 [(0, .ref h0)] [.ref q0, .ref h0] [(h0, .inr (1, [.null, .null, .null])), (q0, .inl (cA 0, 160, .inl (kf (-9) 0)))] (1, 160)
  refine ki_putF (f := 0) (ty := (.array .int)) X hI rfl (by decide) inX1 tyX1_ok nmX1 wf_RX1_9 rfl rfl rfl rfl rfl (Nat.le_of_ble_eq_true rfl) dX1_init_10 ?_
  show ki_At 2 Z 13 [(0, .ref h0)] [] [(h0, .inr (1, [.ref q0, .null, .null])), (q0, .inl (cA 0, 160, .inl (kf (-9) 0)))] (1, 160)
  refine ki_al0 (a := h0) X dX1_init_13 (by simp) ?_
  refine ki_iconst (x := 4) X dX1_init_14 (by decide) ?_
  refine ki_newa (atype := .int) (ty := .int) (t := 0) (N := 4) (a0 := (4, .inl (kf 1 0))) X wx_arI rfl (fun _ => rfl) (fun _ _ h9 => h9) (fun _ => by rw [kf_0]; rfl) (by decide) (by decide) (Nat.le_of_ble_eq_true rfl) (Nat.le_of_ble_eq_true rfl) (Nat.le_of_ble_eq_true rfl) dX1_init_15 (fun q1 => ?_)
  show ki_At 2 Z 17 [(0, .ref h0)] [.ref q1, .ref h0] [(h0, .inr (1, [.ref q0, .null, .null])), (q0, .inl (cA 0, 160, .inl (kf (-9) 0))), (q1, .inl (cA 0, 4, .inl (kf 1 0)))] (2, 164)
  refine ki_putF (f := 1) (ty := (.array .int)) X hI rfl (by decide) inX1 tyX1_ok nmX1 wf_RX1_15 rfl rfl rfl rfl rfl (Nat.le_of_ble_eq_true rfl) dX1_init_17 ?_
  show ki_At 2 Z 20 [(0, .ref h0)] [] [(h0, .inr (1, [.ref q0, .ref q1, .null])), (q0, .inl (cA 0, 160, .inl (kf (-9) 0))), (q1, .inl (cA 0, 4, .inl (kf 1 0)))] (2, 164)
  refine ki_al0 (a := h0) X dX1_init_20 (by simp) ?_
  refine ki_bipush (x := 40) X dX1_init_21 (by decide) ?_
  refine ki_newa (atype := .int) (ty := .int) (t := 0) (N := 40) (a0 := (40, .inl (fun _ => 0))) X wx_arI rfl (fun _ => rfl) (fun _ _ h9 => h9) (fun _ => rfl) (by decide) (by decide) (Nat.le_of_ble_eq_true rfl) (Nat.le_of_ble_eq_true rfl) (Nat.le_of_ble_eq_true rfl) dX1_init_23 (fun q2 => ?_)
  show ki_At 2 Z 25 [(0, .ref h0)] [.ref q2, .ref h0] [(h0, .inr (1, [.ref q0, .ref q1, .null])), (q0, .inl (cA 0, 160, .inl (kf (-9) 0))), (q1, .inl (cA 0, 4, .inl (kf 1 0))), (q2, .inl (cA 0, 40, .inl (fun _ => 0)))] (3, 204)
  refine ki_putF (f := 2) (ty := (.array .int)) X hI rfl (by decide) inX1 tyX1_ok nmX1 wf_RX1_18 rfl rfl rfl rfl rfl (Nat.le_of_ble_eq_true rfl) dX1_init_25 ?_
  show ki_At 2 Z 28 [(0, .ref h0)] [] [(h0, .inr (1, [.ref q0, .ref q1, .ref q2])), (q0, .inl (cA 0, 160, .inl (kf (-9) 0))), (q1, .inl (cA 0, 4, .inl (kf 1 0))), (q2, .inl (cA 0, 40, .inl (fun _ => 0)))] (3, 204)
  have loop2 : ∀ d j, j + d = 4 → ki_At 2 Z 55 [(1, .int (nI j)), (0, .ref h0)] [] [(h0, .inr (1, [.ref q0, .ref q1, .ref q2])), (q0, .inl (cA 0, 160, .inl (kf (-9) 160))), (q1, .inl (cA 0, 4, .inl (kf 1 j))), (q2, .inl (cA 0, 40, .inl (fun _ => 0)))] (3, 204) := by
    intro d
    induction d with
    | zero =>
      intro j hj
      have e : j = 4 := by omega
      subst e
      refine ki_il1 (x := nI 4) X dX1_init_55 (by simp) (ki_al0 (a := h0) X dX1_init_56 (by simp) ?_)
      refine ki_get (f := 1) X rfl (by decide) inX1 wf_RX1_15 rfl dX1_init_57 ?_
      refine ki_alen (j := 2) X rfl dX1_init_60 (ki_icmpge (tgt := 77) X dX1_init_61 (by decide) (fun _ => ?_) (fun z => absurd (nI_le (Nat.le_refl 4) (by decide)) z))
      exact hr _ _ [q0, q1, q2] dX1_init_77
    | succ d ih =>
      intro j hj
      refine ki_il1 (x := nI j) X dX1_init_55 (by simp) (ki_al0 (a := h0) X dX1_init_56 (by simp) ?_)
      refine ki_get (f := 1) X rfl (by decide) inX1 wf_RX1_15 rfl dX1_init_57 ?_
      refine ki_alen (j := 2) X rfl dX1_init_60 (ki_icmpge (tgt := 77) X dX1_init_61 (by decide) (fun z => absurd z (nI_ge (show j < 4 by omega) (by decide))) (fun _ => ?_))
      refine ki_al0 (a := h0) X dX1_init_64 (by simp) ?_
      refine ki_get (f := 1) X rfl (by decide) inX1 wf_RX1_15 rfl dX1_init_65 ?_
      refine ki_il1 (x := nI j) X dX1_init_68 (by simp) (ki_iconst (x := 1) X dX1_init_69 (by decide) (ki_astF (j := 2) (k := j) X rfl rfl (by omega) (by decide) dX1_init_70 ?_))
      refine ki_ii1 (y := nI (j + 1)) X dX1_init_71 (by decide) rfl (nI_succ j).symm rfl (ki_goto (tgt := 55) X dX1_init_74 (by decide) ?_)
      exact ih (j + 1) (by omega)
  have loop1 : ∀ d j, j + d = 160 → ki_At 2 Z 30 [(1, .int (nI j)), (0, .ref h0)] [] [(h0, .inr (1, [.ref q0, .ref q1, .ref q2])), (q0, .inl (cA 0, 160, .inl (kf (-9) j))), (q1, .inl (cA 0, 4, .inl (kf 1 0))), (q2, .inl (cA 0, 40, .inl (fun _ => 0)))] (3, 204) := by
    intro d
    induction d with
    | zero =>
      intro j hj
      have e : j = 160 := by omega
      subst e
      refine ki_il1 (x := nI 160) X dX1_init_30 (by simp) (ki_al0 (a := h0) X dX1_init_31 (by simp) ?_)
      refine ki_get (f := 0) X rfl (by decide) inX1 wf_RX1_9 rfl dX1_init_32 ?_
      refine ki_alen (j := 1) X rfl dX1_init_35 (ki_icmpge (tgt := 53) X dX1_init_36 (by decide) (fun _ => ?_) (fun z => absurd (nI_le (Nat.le_refl 160) (by decide)) z))
      refine ki_iconst (x := nI 0) X dX1_init_53 (by decide) (ki_is1 X dX1_init_54 (by decide) rfl (loop2 4 0 rfl))
    | succ d ih =>
      intro j hj
      refine ki_il1 (x := nI j) X dX1_init_30 (by simp) (ki_al0 (a := h0) X dX1_init_31 (by simp) ?_)
      refine ki_get (f := 0) X rfl (by decide) inX1 wf_RX1_9 rfl dX1_init_32 ?_
      refine ki_alen (j := 1) X rfl dX1_init_35 (ki_icmpge (tgt := 53) X dX1_init_36 (by decide) (fun z => absurd z (nI_ge (show j < 160 by omega) (by decide))) (fun _ => ?_))
      refine ki_al0 (a := h0) X dX1_init_39 (by simp) ?_
      refine ki_get (f := 0) X rfl (by decide) inX1 wf_RX1_9 rfl dX1_init_40 ?_
      refine ki_il1 (x := nI j) X dX1_init_43 (by simp) (ki_bipush (x := -9) X dX1_init_44 (by decide) (ki_astF (j := 1) (k := j) X rfl rfl (by omega) (by decide) dX1_init_46 ?_))
      refine ki_ii1 (y := nI (j + 1)) X dX1_init_47 (by decide) rfl (nI_succ j).symm rfl (ki_goto (tgt := 30) X dX1_init_50 (by decide) ?_)
      exact ih (j + 1) (by omega)
  exact ki_iconst (x := nI 0) X dX1_init_28 (by decide) (ki_is1 X dX1_init_29 (by decide) rfl (loop1 160 0 rfl))
