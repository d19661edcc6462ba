def kwX11_init : (Nat → ClassId) → Nat → List Nat → va_W := fun cA h0 u => [(h0, .inr (9, [.ref (u.getD 0 0), .ref (u.getD 1 0), .ref (u.getD 2 0), .ref (u.getD 3 0), .int 0, .ref (u.getD 4 0), .int 0, .int 0, .ref (u.getD 5 0), .int 0, .long 0, .long 1, .ref (u.getD 6 0), .ref (u.getD 7 0), .ref (u.getD 8 0), .ref (u.getD 9 0), .ref (u.getD 10 0), .ref (u.getD 11 0), .int 0, .int 0, .int 0, .ref (u.getD 12 0), .ref (u.getD 13 0), .ref (u.getD 14 0), .ref (u.getD 15 0), .int 0, .int 0, .int 0, .ref (u.getD 16 0), .int 0])), ((u.getD 0 0), .inl (cA 0, 160, .inl (kf (-9) 160))), ((u.getD 1 0), .inl (cA 0, 40, .inl (fun _ => 0))), ((u.getD 2 0), .inl (cA 0, 4, .inl (kf 1 4))), ((u.getD 3 0), .inl (cA 0, 24, .inl (fun _ => 0))), ((u.getD 4 0), .inl (cA 0, 60, .inl (kg 60))), ((u.getD 5 0), .inl (cA 0, 3, .inl (fun _ => 0))), ((u.getD 6 0), .inl (cA 1, 101, .inl (fun _ => 0))), ((u.getD 7 0), .inl (cA 0, 10, .inl (fun _ => 0))), ((u.getD 8 0), .inl (cA 0, 10, .inl (fun _ => 0))), ((u.getD 9 0), .inl (cA 0, 10, .inl (fun _ => 0))), ((u.getD 10 0), .inl (cA 0, 10, .inl (fun _ => 0))), ((u.getD 11 0), .inl (cA 0, 10, .inl (fun _ => 0))), ((u.getD 12 0), .inl (cA 0, 101, .inl (fun _ => 0))), ((u.getD 13 0), .inl (cA 0, 101, .inl (fun _ => 0))), ((u.getD 14 0), .inl (cA 0, 101, .inl (fun _ => 0))), ((u.getD 15 0), .inl (cA 0, 101, .inl (fun _ => 0))), ((u.getD 16 0), .inl (cA 0, 100, .inl (fun _ => 0)))]
theorem kmX11_init : ki_Met yX11_init cX11_init 2 ({ frames := 1, cells := 17, slots := 946, locals := 12 } : Room) 9 [.null, .null, .null, .null, .int 0, .null, .int 0, .int 0, .null, .int 0, .long 0, .long 0, .null, .null, .null, .null, .null, .null, .int 0, .int 0, .int 0, .null, .null, .null, .null, .int 0, .int 0, .int 0, .null, .int 0] (fun _ _ _ => True) kwX11_init := by
  refine ki_met (by decide) rfl (by decide) (fun Z cA h0 sz X hI _ hr => ?_)
  refine ki_al0 (a := h0) X dX11_init_0 (by simp) ?_
  refine ki_obj X wm_RX11_1 ⟨Nat.le_of_ble_eq_true rfl, Nat.le_of_ble_eq_true rfl⟩ dX11_init_1 ?_
  refine ki_al0 (a := h0) X dX11_init_4 (by simp) ?_
  refine ki_sipush (x := 160) X dX11_init_5 (by decide) ?_
  refine ki_newa (atype := .int) (ty := .int) (t := 0) (N := 160) (a0 := (160, .inl (kf (-9) 0))) X wx_arI rfl (fun _ => rfl) (fun _ _ h9 => h9) (fun _ => by rw [kf_0]; rfl) (by decide) (by decide) (Nat.le_of_ble_eq_true rfl) (Nat.le_of_ble_eq_true rfl) (Nat.le_of_ble_eq_true rfl) dX11_init_8 (fun q0 => ?_)
  show ki_At 2 Z 10 [(0, .ref h0)] [.ref q0, .ref h0] [(h0, .inr (9, [.null, .null, .null, .null, .int 0, .null, .int 0, .int 0, .null, .int 0, .long 0, .long 0, .null, .null, .null, .null, .null, .null, .int 0, .int 0, .int 0, .null, .null, .null, .null, .int 0, .int 0, .int 0, .null, .int 0])), (q0, .inl (cA 0, 160, .inl (kf (-9) 0)))] (1, 160)
  refine ki_putF (f := 0) (ty := (.array .int)) X hI rfl (by decide) inX11 tyX11_ok nmX11 wf_RX11_7 rfl rfl rfl rfl rfl (Nat.le_of_ble_eq_true rfl) dX11_init_10 ?_
  show ki_At 2 Z 13 [(0, .ref h0)] [] [(h0, .inr (9, [.ref q0, .null, .null, .null, .int 0, .null, .int 0, .int 0, .null, .int 0, .long 0, .long 0, .null, .null, .null, .null, .null, .null, .int 0, .int 0, .int 0, .null, .null, .null, .null, .int 0, .int 0, .int 0, .null, .int 0])), (q0, .inl (cA 0, 160, .inl (kf (-9) 0)))] (1, 160)
  refine ki_al0 (a := h0) X dX11_init_13 (by simp) ?_
  refine ki_bipush (x := 40) X dX11_init_14 (by decide) ?_
  refine ki_newa (atype := .int) (ty := .int) (t := 0) (N := 40) (a0 := (40, .inl (fun _ => 0))) X wx_arI rfl (fun _ => rfl) (fun _ _ h9 => h9) (fun _ => rfl) (by decide) (by decide) (Nat.le_of_ble_eq_true rfl) (Nat.le_of_ble_eq_true rfl) (Nat.le_of_ble_eq_true rfl) dX11_init_16 (fun q1 => ?_)
  show ki_At 2 Z 18 [(0, .ref h0)] [.ref q1, .ref h0] [(h0, .inr (9, [.ref q0, .null, .null, .null, .int 0, .null, .int 0, .int 0, .null, .int 0, .long 0, .long 0, .null, .null, .null, .null, .null, .null, .int 0, .int 0, .int 0, .null, .null, .null, .null, .int 0, .int 0, .int 0, .null, .int 0])), (q0, .inl (cA 0, 160, .inl (kf (-9) 0))), (q1, .inl (cA 0, 40, .inl (fun _ => 0)))] (2, 200)
  refine ki_putF (f := 1) (ty := (.array .int)) X hI rfl (by decide) inX11 tyX11_ok nmX11 wf_RX11_13 rfl rfl rfl rfl rfl (Nat.le_of_ble_eq_true rfl) dX11_init_18 ?_
  show ki_At 2 Z 21 [(0, .ref h0)] [] [(h0, .inr (9, [.ref q0, .ref q1, .null, .null, .int 0, .null, .int 0, .int 0, .null, .int 0, .long 0, .long 0, .null, .null, .null, .null, .null, .null, .int 0, .int 0, .int 0, .null, .null, .null, .null, .int 0, .int 0, .int 0, .null, .int 0])), (q0, .inl (cA 0, 160, .inl (kf (-9) 0))), (q1, .inl (cA 0, 40, .inl (fun _ => 0)))] (2, 200)
  refine ki_al0 (a := h0) X dX11_init_21 (by simp) ?_
  refine ki_iconst (x := 4) X dX11_init_22 (by decide) ?_
  refine ki_newa (atype := .int) (ty := .int) (t := 0) (N := 4) (a0 := (4, .inl (kf 1 0))) X wx_arI rfl (fun _ => rfl) (fun _ _ h9 => h9) (fun _ => by rw [kf_0]; rfl) (by decide) (by decide) (Nat.le_of_ble_eq_true rfl) (Nat.le_of_ble_eq_true rfl) (Nat.le_of_ble_eq_true rfl) dX11_init_23 (fun q2 => ?_)
  show ki_At 2 Z 25 [(0, .ref h0)] [.ref q2, .ref h0] [(h0, .inr (9, [.ref q0, .ref q1, .null, .null, .int 0, .null, .int 0, .int 0, .null, .int 0, .long 0, .long 0, .null, .null, .null, .null, .null, .null, .int 0, .int 0, .int 0, .null, .null, .null, .null, .int 0, .int 0, .int 0, .null, .int 0])), (q0, .inl (cA 0, 160, .inl (kf (-9) 0))), (q1, .inl (cA 0, 40, .inl (fun _ => 0))), (q2, .inl (cA 0, 4, .inl (kf 1 0)))] (3, 204)
  refine ki_putF (f := 2) (ty := (.array .int)) X hI rfl (by decide) inX11 tyX11_ok nmX11 wf_RX11_16 rfl rfl rfl rfl rfl (Nat.le_of_ble_eq_true rfl) dX11_init_25 ?_
  show ki_At 2 Z 28 [(0, .ref h0)] [] [(h0, .inr (9, [.ref q0, .ref q1, .ref q2, .null, .int 0, .null, .int 0, .int 0, .null, .int 0, .long 0, .long 0, .null, .null, .null, .null, .null, .null, .int 0, .int 0, .int 0, .null, .null, .null, .null, .int 0, .int 0, .int 0, .null, .int 0])), (q0, .inl (cA 0, 160, .inl (kf (-9) 0))), (q1, .inl (cA 0, 40, .inl (fun _ => 0))), (q2, .inl (cA 0, 4, .inl (kf 1 0)))] (3, 204)
  refine ki_al0 (a := h0) X dX11_init_28 (by simp) ?_
  refine ki_bipush (x := 24) X dX11_init_29 (by decide) ?_
  refine ki_newa (atype := .int) (ty := .int) (t := 0) (N := 24) (a0 := (24, .inl (fun _ => 0))) X wx_arI rfl (fun _ => rfl) (fun _ _ h9 => h9) (fun _ => rfl) (by decide) (by decide) (Nat.le_of_ble_eq_true rfl) (Nat.le_of_ble_eq_true rfl) (Nat.le_of_ble_eq_true rfl) dX11_init_31 (fun q3 => ?_)
  show ki_At 2 Z 33 [(0, .ref h0)] [.ref q3, .ref h0] [(h0, .inr (9, [.ref q0, .ref q1, .ref q2, .null, .int 0, .null, .int 0, .int 0, .null, .int 0, .long 0, .long 0, .null, .null, .null, .null, .null, .null, .int 0, .int 0, .int 0, .null, .null, .null, .null, .int 0, .int 0, .int 0, .null, .int 0])), (q0, .inl (cA 0, 160, .inl (kf (-9) 0))), (q1, .inl (cA 0, 40, .inl (fun _ => 0))), (q2, .inl (cA 0, 4, .inl (kf 1 0))), (q3, .inl (cA 0, 24, .inl (fun _ => 0)))] (4, 228)
  refine ki_putF (f := 3) (ty := (.array .int)) X hI rfl (by decide) inX11 tyX11_ok nmX11 wf_RX11_19 rfl rfl rfl rfl rfl (Nat.le_of_ble_eq_true rfl) dX11_init_33 ?_
  show ki_At 2 Z 36 [(0, .ref h0)] [] [(h0, .inr (9, [.ref q0, .ref q1, .ref q2, .ref q3, .int 0, .null, .int 0, .int 0, .null, .int 0, .long 0, .long 0, .null, .null, .null, .null, .null, .null, .int 0, .int 0, .int 0, .null, .null, .null, .null, .int 0, .int 0, .int 0, .null, .int 0])), (q0, .inl (cA 0, 160, .inl (kf (-9) 0))), (q1, .inl (cA 0, 40, .inl (fun _ => 0))), (q2, .inl (cA 0, 4, .inl (kf 1 0))), (q3, .inl (cA 0, 24, .inl (fun _ => 0)))] (4, 228)
  refine ki_al0 (a := h0) X dX11_init_36 (by simp) ?_
  refine ki_bipush (x := 60) X dX11_init_37 (by decide) ?_
  refine ki_newa (atype := .int) (ty := .int) (t := 0) (N := 60) (a0 := (60, .inl (kg 0))) X wx_arI rfl (fun _ => rfl) (fun _ _ h9 => h9) (fun _ => by rw [kg_0]; rfl) (by decide) (by decide) (Nat.le_of_ble_eq_true rfl) (Nat.le_of_ble_eq_true rfl) (Nat.le_of_ble_eq_true rfl) dX11_init_39 (fun q4 => ?_)
  show ki_At 2 Z 41 [(0, .ref h0)] [.ref q4, .ref h0] [(h0, .inr (9, [.ref q0, .ref q1, .ref q2, .ref q3, .int 0, .null, .int 0, .int 0, .null, .int 0, .long 0, .long 0, .null, .null, .null, .null, .null, .null, .int 0, .int 0, .int 0, .null, .null, .null, .null, .int 0, .int 0, .int 0, .null, .int 0])), (q0, .inl (cA 0, 160, .inl (kf (-9) 0))), (q1, .inl (cA 0, 40, .inl (fun _ => 0))), (q2, .inl (cA 0, 4, .inl (kf 1 0))), (q3, .inl (cA 0, 24, .inl (fun _ => 0))), (q4, .inl (cA 0, 60, .inl (kg 0)))] (5, 288)
  refine ki_dup X dX11_init_41 rfl ?_
  refine ki_iconst (x := 0) X dX11_init_42 (by decide) ?_
  refine ki_bipush (x := 116) X dX11_init_43 (by decide) ?_
  refine ki_astG (j := 5) (k := 0) X rfl (by decide) (by decide) (by decide) dX11_init_45 ?_
  show ki_At 2 Z 46 [(0, .ref h0)] [.ref q4, .ref h0] [(h0, .inr (9, [.ref q0, .ref q1, .ref q2, .ref q3, .int 0, .null, .int 0, .int 0, .null, .int 0, .long 0, .long 0, .null, .null, .null, .null, .null, .null, .int 0, .int 0, .int 0, .null, .null, .null, .null, .int 0, .int 0, .int 0, .null, .int 0])), (q0, .inl (cA 0, 160, .inl (kf (-9) 0))), (q1, .inl (cA 0, 40, .inl (fun _ => 0))), (q2, .inl (cA 0, 4, .inl (kf 1 0))), (q3, .inl (cA 0, 24, .inl (fun _ => 0))), (q4, .inl (cA 0, 60, .inl (kg 1)))] (5, 288)
  refine ki_dup X dX11_init_46 rfl ?_
  refine ki_iconst (x := 1) X dX11_init_47 (by decide) ?_
  refine ki_bipush (x := 101) X dX11_init_48 (by decide) ?_
  refine ki_astG (j := 5) (k := 1) X rfl (by decide) (by decide) (by decide) dX11_init_50 ?_
  show ki_At 2 Z 51 [(0, .ref h0)] [.ref q4, .ref h0] [(h0, .inr (9, [.ref q0, .ref q1, .ref q2, .ref q3, .int 0, .null, .int 0, .int 0, .null, .int 0, .long 0, .long 0, .null, .null, .null, .null, .null, .null, .int 0, .int 0, .int 0, .null, .null, .null, .null, .int 0, .int 0, .int 0, .null, .int 0])), (q0, .inl (cA 0, 160, .inl (kf (-9) 0))), (q1, .inl (cA 0, 40, .inl (fun _ => 0))), (q2, .inl (cA 0, 4, .inl (kf 1 0))), (q3, .inl (cA 0, 24, .inl (fun _ => 0))), (q4, .inl (cA 0, 60, .inl (kg 2)))] (5, 288)
  refine ki_dup X dX11_init_51 rfl ?_
  refine ki_iconst (x := 2) X dX11_init_52 (by decide) ?_
  refine ki_bipush (x := 108) X dX11_init_53 (by decide) ?_
  refine ki_astG (j := 5) (k := 2) X rfl (by decide) (by decide) (by decide) dX11_init_55 ?_
  show ki_At 2 Z 56 [(0, .ref h0)] [.ref q4, .ref h0] [(h0, .inr (9, [.ref q0, .ref q1, .ref q2, .ref q3, .int 0, .null, .int 0, .int 0, .null, .int 0, .long 0, .long 0, .null, .null, .null, .null, .null, .null, .int 0, .int 0, .int 0, .null, .null, .null, .null, .int 0, .int 0, .int 0, .null, .int 0])), (q0, .inl (cA 0, 160, .inl (kf (-9) 0))), (q1, .inl (cA 0, 40, .inl (fun _ => 0))), (q2, .inl (cA 0, 4, .inl (kf 1 0))), (q3, .inl (cA 0, 24, .inl (fun _ => 0))), (q4, .inl (cA 0, 60, .inl (kg 3)))] (5, 288)
  refine ki_dup X dX11_init_56 rfl ?_
  refine ki_iconst (x := 3) X dX11_init_57 (by decide) ?_
  refine ki_bipush (x := 108) X dX11_init_58 (by decide) ?_
  refine ki_astG (j := 5) (k := 3) X rfl (by decide) (by decide) (by decide) dX11_init_60 ?_
  show ki_At 2 Z 61 [(0, .ref h0)] [.ref q4, .ref h0] [(h0, .inr (9, [.ref q0, .ref q1, .ref q2, .ref q3, .int 0, .null, .int 0, .int 0, .null, .int 0, .long 0, .long 0, .null, .null, .null, .null, .null, .null, .int 0, .int 0, .int 0, .null, .null, .null, .null, .int 0, .int 0, .int 0, .null, .int 0])), (q0, .inl (cA 0, 160, .inl (kf (-9) 0))), (q1, .inl (cA 0, 40, .inl (fun _ => 0))), (q2, .inl (cA 0, 4, .inl (kf 1 0))), (q3, .inl (cA 0, 24, .inl (fun _ => 0))), (q4, .inl (cA 0, 60, .inl (kg 4)))] (5, 288)
  refine ki_dup X dX11_init_61 rfl ?_
  refine ki_iconst (x := 4) X dX11_init_62 (by decide) ?_
  refine ki_iconst (x := 0) X dX11_init_63 (by decide) ?_
  refine ki_astG (j := 5) (k := 4) X rfl (by decide) (by decide) (by decide) dX11_init_64 ?_
  show ki_At 2 Z 65 [(0, .ref h0)] [.ref q4, .ref h0] [(h0, .inr (9, [.ref q0, .ref q1, .ref q2, .ref q3, .int 0, .null, .int 0, .int 0, .null, .int 0, .long 0, .long 0, .null, .null, .null, .null, .null, .null, .int 0, .int 0, .int 0, .null, .null, .null, .null, .int 0, .int 0, .int 0, .null, .int 0])), (q0, .inl (cA 0, 160, .inl (kf (-9) 0))), (q1, .inl (cA 0, 40, .inl (fun _ => 0))), (q2, .inl (cA 0, 4, .inl (kf 1 0))), (q3, .inl (cA 0, 24, .inl (fun _ => 0))), (q4, .inl (cA 0, 60, .inl (kg 5)))] (5, 288)
  refine ki_dup X dX11_init_65 rfl ?_
  refine ki_iconst (x := 5) X dX11_init_66 (by decide) ?_
  refine ki_iconst (x := 0) X dX11_init_67 (by decide) ?_
  refine ki_astG (j := 5) (k := 5) X rfl (by decide) (by decide) (by decide) dX11_init_68 ?_
  show ki_At 2 Z 69 [(0, .ref h0)] [.ref q4, .ref h0] [(h0, .inr (9, [.ref q0, .ref q1, .ref q2, .ref q3, .int 0, .null, .int 0, .int 0, .null, .int 0, .long 0, .long 0, .null, .null, .null, .null, .null, .null, .int 0, .int 0, .int 0, .null, .null, .null, .null, .int 0, .int 0, .int 0, .null, .int 0])), (q0, .inl (cA 0, 160, .inl (kf (-9) 0))), (q1, .inl (cA 0, 40, .inl (fun _ => 0))), (q2, .inl (cA 0, 4, .inl (kf 1 0))), (q3, .inl (cA 0, 24, .inl (fun _ => 0))), (q4, .inl (cA 0, 60, .inl (kg 6)))] (5, 288)
  refine ki_dup X dX11_init_69 rfl ?_
  refine ki_bipush (x := 6) X dX11_init_70 (by decide) ?_
  refine ki_bipush (x := 100) X dX11_init_72 (by decide) ?_
  refine ki_astG (j := 5) (k := 6) X rfl (by decide) (by decide) (by decide) dX11_init_74 ?_
  show ki_At 2 Z 75 [(0, .ref h0)] [.ref q4, .ref h0] [(h0, .inr (9, [.ref q0, .ref q1, .ref q2, .ref q3, .int 0, .null, .int 0, .int 0, .null, .int 0, .long 0, .long 0, .null, .null, .null, .null, .null, .null, .int 0, .int 0, .int 0, .null, .null, .null, .null, .int 0, .int 0, .int 0, .null, .int 0])), (q0, .inl (cA 0, 160, .inl (kf (-9) 0))), (q1, .inl (cA 0, 40, .inl (fun _ => 0))), (q2, .inl (cA 0, 4, .inl (kf 1 0))), (q3, .inl (cA 0, 24, .inl (fun _ => 0))), (q4, .inl (cA 0, 60, .inl (kg 7)))] (5, 288)
  refine ki_dup X dX11_init_75 rfl ?_
  refine ki_bipush (x := 7) X dX11_init_76 (by decide) ?_
  refine ki_bipush (x := 114) X dX11_init_78 (by decide) ?_
  refine ki_astG (j := 5) (k := 7) X rfl (by decide) (by decide) (by decide) dX11_init_80 ?_
  show ki_At 2 Z 81 [(0, .ref h0)] [.ref q4, .ref h0] [(h0, .inr (9, [.ref q0, .ref q1, .ref q2, .ref q3, .int 0, .null, .int 0, .int 0, .null, .int 0, .long 0, .long 0, .null, .null, .null, .null, .null, .null, .int 0, .int 0, .int 0, .null, .null, .null, .null, .int 0, .int 0, .int 0, .null, .int 0])), (q0, .inl (cA 0, 160, .inl (kf (-9) 0))), (q1, .inl (cA 0, 40, .inl (fun _ => 0))), (q2, .inl (cA 0, 4, .inl (kf 1 0))), (q3, .inl (cA 0, 24, .inl (fun _ => 0))), (q4, .inl (cA 0, 60, .inl (kg 8)))] (5, 288)
  refine ki_dup X dX11_init_81 rfl ?_
  refine ki_bipush (x := 8) X dX11_init_82 (by decide) ?_
  refine ki_bipush (x := 111) X dX11_init_84 (by decide) ?_
  refine ki_astG (j := 5) (k := 8) X rfl (by decide) (by decide) (by decide) dX11_init_86 ?_
  show ki_At 2 Z 87 [(0, .ref h0)] [.ref q4, .ref h0] [(h0, .inr (9, [.ref q0, .ref q1, .ref q2, .ref q3, .int 0, .null, .int 0, .int 0, .null, .int 0, .long 0, .long 0, .null, .null, .null, .null, .null, .null, .int 0, .int 0, .int 0, .null, .null, .null, .null, .int 0, .int 0, .int 0, .null, .int 0])), (q0, .inl (cA 0, 160, .inl (kf (-9) 0))), (q1, .inl (cA 0, 40, .inl (fun _ => 0))), (q2, .inl (cA 0, 4, .inl (kf 1 0))), (q3, .inl (cA 0, 24, .inl (fun _ => 0))), (q4, .inl (cA 0, 60, .inl (kg 9)))] (5, 288)
  refine ki_dup X dX11_init_87 rfl ?_
  refine ki_bipush (x := 9) X dX11_init_88 (by decide) ?_
  refine ki_bipush (x := 112) X dX11_init_90 (by decide) ?_
  refine ki_astG (j := 5) (k := 9) X rfl (by decide) (by decide) (by decide) dX11_init_92 ?_
  show ki_At 2 Z 93 [(0, .ref h0)] [.ref q4, .ref h0] [(h0, .inr (9, [.ref q0, .ref q1, .ref q2, .ref q3, .int 0, .null, .int 0, .int 0, .null, .int 0, .long 0, .long 0, .null, .null, .null, .null, .null, .null, .int 0, .int 0, .int 0, .null, .null, .null, .null, .int 0, .int 0, .int 0, .null, .int 0])), (q0, .inl (cA 0, 160, .inl (kf (-9) 0))), (q1, .inl (cA 0, 40, .inl (fun _ => 0))), (q2, .inl (cA 0, 4, .inl (kf 1 0))), (q3, .inl (cA 0, 24, .inl (fun _ => 0))), (q4, .inl (cA 0, 60, .inl (kg 10)))] (5, 288)
  refine ki_dup X dX11_init_93 rfl ?_
  refine ki_bipush (x := 10) X dX11_init_94 (by decide) ?_
  refine ki_iconst (x := 0) X dX11_init_96 (by decide) ?_
  refine ki_astG (j := 5) (k := 10) X rfl (by decide) (by decide) (by decide) dX11_init_97 ?_
  show ki_At 2 Z 98 [(0, .ref h0)] [.ref q4, .ref h0] [(h0, .inr (9, [.ref q0, .ref q1, .ref q2, .ref q3, .int 0, .null, .int 0, .int 0, .null, .int 0, .long 0, .long 0, .null, .null, .null, .null, .null, .null, .int 0, .int 0, .int 0, .null, .null, .null, .null, .int 0, .int 0, .int 0, .null, .int 0])), (q0, .inl (cA 0, 160, .inl (kf (-9) 0))), (q1, .inl (cA 0, 40, .inl (fun _ => 0))), (q2, .inl (cA 0, 4, .inl (kf 1 0))), (q3, .inl (cA 0, 24, .inl (fun _ => 0))), (q4, .inl (cA 0, 60, .inl (kg 11)))] (5, 288)
  refine ki_dup X dX11_init_98 rfl ?_
  refine ki_bipush (x := 11) X dX11_init_99 (by decide) ?_
  refine ki_iconst (x := 0) X dX11_init_101 (by decide) ?_
  refine ki_astG (j := 5) (k := 11) X rfl (by decide) (by decide) (by decide) dX11_init_102 ?_
  show ki_At 2 Z 103 [(0, .ref h0)] [.ref q4, .ref h0] [(h0, .inr (9, [.ref q0, .ref q1, .ref q2, .ref q3, .int 0, .null, .int 0, .int 0, .null, .int 0, .long 0, .long 0, .null, .null, .null, .null, .null, .null, .int 0, .int 0, .int 0, .null, .null, .null, .null, .int 0, .int 0, .int 0, .null, .int 0])), (q0, .inl (cA 0, 160, .inl (kf (-9) 0))), (q1, .inl (cA 0, 40, .inl (fun _ => 0))), (q2, .inl (cA 0, 4, .inl (kf 1 0))), (q3, .inl (cA 0, 24, .inl (fun _ => 0))), (q4, .inl (cA 0, 60, .inl (kg 12)))] (5, 288)
  refine ki_dup X dX11_init_103 rfl ?_
  refine ki_bipush (x := 12) X dX11_init_104 (by decide) ?_
  refine ki_bipush (x := 121) X dX11_init_106 (by decide) ?_
  refine ki_astG (j := 5) (k := 12) X rfl (by decide) (by decide) (by decide) dX11_init_108 ?_
  show ki_At 2 Z 109 [(0, .ref h0)] [.ref q4, .ref h0] [(h0, .inr (9, [.ref q0, .ref q1, .ref q2, .ref q3, .int 0, .null, .int 0, .int 0, .null, .int 0, .long 0, .long 0, .null, .null, .null, .null, .null, .null, .int 0, .int 0, .int 0, .null, .null, .null, .null, .int 0, .int 0, .int 0, .null, .int 0])), (q0, .inl (cA 0, 160, .inl (kf (-9) 0))), (q1, .inl (cA 0, 40, .inl (fun _ => 0))), (q2, .inl (cA 0, 4, .inl (kf 1 0))), (q3, .inl (cA 0, 24, .inl (fun _ => 0))), (q4, .inl (cA 0, 60, .inl (kg 13)))] (5, 288)
  refine ki_dup X dX11_init_109 rfl ?_
  refine ki_bipush (x := 13) X dX11_init_110 (by decide) ?_
  refine ki_bipush (x := 101) X dX11_init_112 (by decide) ?_
  refine ki_astG (j := 5) (k := 13) X rfl (by decide) (by decide) (by decide) dX11_init_114 ?_
  show ki_At 2 Z 115 [(0, .ref h0)] [.ref q4, .ref h0] [(h0, .inr (9, [.ref q0, .ref q1, .ref q2, .ref q3, .int 0, .null, .int 0, .int 0, .null, .int 0, .long 0, .long 0, .null, .null, .null, .null, .null, .null, .int 0, .int 0, .int 0, .null, .null, .null, .null, .int 0, .int 0, .int 0, .null, .int 0])), (q0, .inl (cA 0, 160, .inl (kf (-9) 0))), (q1, .inl (cA 0, 40, .inl (fun _ => 0))), (q2, .inl (cA 0, 4, .inl (kf 1 0))), (q3, .inl (cA 0, 24, .inl (fun _ => 0))), (q4, .inl (cA 0, 60, .inl (kg 14)))] (5, 288)
  refine ki_dup X dX11_init_115 rfl ?_
  refine ki_bipush (x := 14) X dX11_init_116 (by decide) ?_
  refine ki_bipush (x := 115) X dX11_init_118 (by decide) ?_
  refine ki_astG (j := 5) (k := 14) X rfl (by decide) (by decide) (by decide) dX11_init_120 ?_
  show ki_At 2 Z 121 [(0, .ref h0)] [.ref q4, .ref h0] [(h0, .inr (9, [.ref q0, .ref q1, .ref q2, .ref q3, .int 0, .null, .int 0, .int 0, .null, .int 0, .long 0, .long 0, .null, .null, .null, .null, .null, .null, .int 0, .int 0, .int 0, .null, .null, .null, .null, .int 0, .int 0, .int 0, .null, .int 0])), (q0, .inl (cA 0, 160, .inl (kf (-9) 0))), (q1, .inl (cA 0, 40, .inl (fun _ => 0))), (q2, .inl (cA 0, 4, .inl (kf 1 0))), (q3, .inl (cA 0, 24, .inl (fun _ => 0))), (q4, .inl (cA 0, 60, .inl (kg 15)))] (5, 288)
  refine ki_dup X dX11_init_121 rfl ?_
  refine ki_bipush (x := 15) X dX11_init_122 (by decide) ?_
  refine ki_iconst (x := 0) X dX11_init_124 (by decide) ?_
  refine ki_astG (j := 5) (k := 15) X rfl (by decide) (by decide) (by decide) dX11_init_125 ?_
  show ki_At 2 Z 126 [(0, .ref h0)] [.ref q4, .ref h0] [(h0, .inr (9, [.ref q0, .ref q1, .ref q2, .ref q3, .int 0, .null, .int 0, .int 0, .null, .int 0, .long 0, .long 0, .null, .null, .null, .null, .null, .null, .int 0, .int 0, .int 0, .null, .null, .null, .null, .int 0, .int 0, .int 0, .null, .int 0])), (q0, .inl (cA 0, 160, .inl (kf (-9) 0))), (q1, .inl (cA 0, 40, .inl (fun _ => 0))), (q2, .inl (cA 0, 4, .inl (kf 1 0))), (q3, .inl (cA 0, 24, .inl (fun _ => 0))), (q4, .inl (cA 0, 60, .inl (kg 16)))] (5, 288)
  refine ki_dup X dX11_init_126 rfl ?_
  refine ki_bipush (x := 16) X dX11_init_127 (by decide) ?_
  refine ki_iconst (x := 0) X dX11_init_129 (by decide) ?_
  refine ki_astG (j := 5) (k := 16) X rfl (by decide) (by decide) (by decide) dX11_init_130 ?_
  show ki_At 2 Z 131 [(0, .ref h0)] [.ref q4, .ref h0] [(h0, .inr (9, [.ref q0, .ref q1, .ref q2, .ref q3, .int 0, .null, .int 0, .int 0, .null, .int 0, .long 0, .long 0, .null, .null, .null, .null, .null, .null, .int 0, .int 0, .int 0, .null, .null, .null, .null, .int 0, .int 0, .int 0, .null, .int 0])), (q0, .inl (cA 0, 160, .inl (kf (-9) 0))), (q1, .inl (cA 0, 40, .inl (fun _ => 0))), (q2, .inl (cA 0, 4, .inl (kf 1 0))), (q3, .inl (cA 0, 24, .inl (fun _ => 0))), (q4, .inl (cA 0, 60, .inl (kg 17)))] (5, 288)
  refine ki_dup X dX11_init_131 rfl ?_
  refine ki_bipush (x := 17) X dX11_init_132 (by decide) ?_
  refine ki_iconst (x := 0) X dX11_init_134 (by decide) ?_
  refine ki_astG (j := 5) (k := 17) X rfl (by decide) (by decide) (by decide) dX11_init_135 ?_
  show ki_At 2 Z 136 [(0, .ref h0)] [.ref q4, .ref h0] [(h0, .inr (9, [.ref q0, .ref q1, .ref q2, .ref q3, .int 0, .null, .int 0, .int 0, .null, .int 0, .long 0, .long 0, .null, .null, .null, .null, .null, .null, .int 0, .int 0, .int 0, .null, .null, .null, .null, .int 0, .int 0, .int 0, .null, .int 0])), (q0, .inl (cA 0, 160, .inl (kf (-9) 0))), (q1, .inl (cA 0, 40, .inl (fun _ => 0))), (q2, .inl (cA 0, 4, .inl (kf 1 0))), (q3, .inl (cA 0, 24, .inl (fun _ => 0))), (q4, .inl (cA 0, 60, .inl (kg 18)))] (5, 288)
  refine ki_dup X dX11_init_136 rfl ?_
  refine ki_bipush (x := 18) X dX11_init_137 (by decide) ?_
  refine ki_bipush (x := 110) X dX11_init_139 (by decide) ?_
  refine ki_astG (j := 5) (k := 18) X rfl (by decide) (by decide) (by decide) dX11_init_141 ?_
  show ki_At 2 Z 142 [(0, .ref h0)] [.ref q4, .ref h0] [(h0, .inr (9, [.ref q0, .ref q1, .ref q2, .ref q3, .int 0, .null, .int 0, .int 0, .null, .int 0, .long 0, .long 0, .null, .null, .null, .null, .null, .null, .int 0, .int 0, .int 0, .null, .null, .null, .null, .int 0, .int 0, .int 0, .null, .int 0])), (q0, .inl (cA 0, 160, .inl (kf (-9) 0))), (q1, .inl (cA 0, 40, .inl (fun _ => 0))), (q2, .inl (cA 0, 4, .inl (kf 1 0))), (q3, .inl (cA 0, 24, .inl (fun _ => 0))), (q4, .inl (cA 0, 60, .inl (kg 19)))] (5, 288)
  refine ki_dup X dX11_init_142 rfl ?_
  refine ki_bipush (x := 19) X dX11_init_143 (by decide) ?_
  refine ki_bipush (x := 111) X dX11_init_145 (by decide) ?_
  refine ki_astG (j := 5) (k := 19) X rfl (by decide) (by decide) (by decide) dX11_init_147 ?_
  show ki_At 2 Z 148 [(0, .ref h0)] [.ref q4, .ref h0] [(h0, .inr (9, [.ref q0, .ref q1, .ref q2, .ref q3, .int 0, .null, .int 0, .int 0, .null, .int 0, .long 0, .long 0, .null, .null, .null, .null, .null, .null, .int 0, .int 0, .int 0, .null, .null, .null, .null, .int 0, .int 0, .int 0, .null, .int 0])), (q0, .inl (cA 0, 160, .inl (kf (-9) 0))), (q1, .inl (cA 0, 40, .inl (fun _ => 0))), (q2, .inl (cA 0, 4, .inl (kf 1 0))), (q3, .inl (cA 0, 24, .inl (fun _ => 0))), (q4, .inl (cA 0, 60, .inl (kg 20)))] (5, 288)
  refine ki_dup X dX11_init_148 rfl ?_
  refine ki_bipush (x := 20) X dX11_init_149 (by decide) ?_
  refine ki_iconst (x := 0) X dX11_init_151 (by decide) ?_
  refine ki_astG (j := 5) (k := 20) X rfl (by decide) (by decide) (by decide) dX11_init_152 ?_
  show ki_At 2 Z 153 [(0, .ref h0)] [.ref q4, .ref h0] [(h0, .inr (9, [.ref q0, .ref q1, .ref q2, .ref q3, .int 0, .null, .int 0, .int 0, .null, .int 0, .long 0, .long 0, .null, .null, .null, .null, .null, .null, .int 0, .int 0, .int 0, .null, .null, .null, .null, .int 0, .int 0, .int 0, .null, .int 0])), (q0, .inl (cA 0, 160, .inl (kf (-9) 0))), (q1, .inl (cA 0, 40, .inl (fun _ => 0))), (q2, .inl (cA 0, 4, .inl (kf 1 0))), (q3, .inl (cA 0, 24, .inl (fun _ => 0))), (q4, .inl (cA 0, 60, .inl (kg 21)))] (5, 288)
  refine ki_dup X dX11_init_153 rfl ?_
  refine ki_bipush (x := 21) X dX11_init_154 (by decide) ?_
  refine ki_iconst (x := 0) X dX11_init_156 (by decide) ?_
  refine ki_astG (j := 5) (k := 21) X rfl (by decide) (by decide) (by decide) dX11_init_157 ?_
  show ki_At 2 Z 158 [(0, .ref h0)] [.ref q4, .ref h0] [(h0, .inr (9, [.ref q0, .ref q1, .ref q2, .ref q3, .int 0, .null, .int 0, .int 0, .null, .int 0, .long 0, .long 0, .null, .null, .null, .null, .null, .null, .int 0, .int 0, .int 0, .null, .null, .null, .null, .int 0, .int 0, .int 0, .null, .int 0])), (q0, .inl (cA 0, 160, .inl (kf (-9) 0))), (q1, .inl (cA 0, 40, .inl (fun _ => 0))), (q2, .inl (cA 0, 4, .inl (kf 1 0))), (q3, .inl (cA 0, 24, .inl (fun _ => 0))), (q4, .inl (cA 0, 60, .inl (kg 22)))] (5, 288)
  refine ki_dup X dX11_init_158 rfl ?_
  refine ki_bipush (x := 22) X dX11_init_159 (by decide) ?_
  refine ki_iconst (x := 0) X dX11_init_161 (by decide) ?_
  refine ki_astG (j := 5) (k := 22) X rfl (by decide) (by decide) (by decide) dX11_init_162 ?_
  show ki_At 2 Z 163 [(0, .ref h0)] [.ref q4, .ref h0] [(h0, .inr (9, [.ref q0, .ref q1, .ref q2, .ref q3, .int 0, .null, .int 0, .int 0, .null, .int 0, .long 0, .long 0, .null, .null, .null, .null, .null, .null, .int 0, .int 0, .int 0, .null, .null, .null, .null, .int 0, .int 0, .int 0, .null, .int 0])), (q0, .inl (cA 0, 160, .inl (kf (-9) 0))), (q1, .inl (cA 0, 40, .inl (fun _ => 0))), (q2, .inl (cA 0, 4, .inl (kf 1 0))), (q3, .inl (cA 0, 24, .inl (fun _ => 0))), (q4, .inl (cA 0, 60, .inl (kg 23)))] (5, 288)
  refine ki_dup X dX11_init_163 rfl ?_
  refine ki_bipush (x := 23) X dX11_init_164 (by decide) ?_
  refine ki_iconst (x := 0) X dX11_init_166 (by decide) ?_
  refine ki_astG (j := 5) (k := 23) X rfl (by decide) (by decide) (by decide) dX11_init_167 ?_
  show ki_At 2 Z 168 [(0, .ref h0)] [.ref q4, .ref h0] [(h0, .inr (9, [.ref q0, .ref q1, .ref q2, .ref q3, .int 0, .null, .int 0, .int 0, .null, .int 0, .long 0, .long 0, .null, .null, .null, .null, .null, .null, .int 0, .int 0, .int 0, .null, .null, .null, .null, .int 0, .int 0, .int 0, .null, .int 0])), (q0, .inl (cA 0, 160, .inl (kf (-9) 0))), (q1, .inl (cA 0, 40, .inl (fun _ => 0))), (q2, .inl (cA 0, 4, .inl (kf 1 0))), (q3, .inl (cA 0, 24, .inl (fun _ => 0))), (q4, .inl (cA 0, 60, .inl (kg 24)))] (5, 288)
  refine ki_dup X dX11_init_168 rfl ?_
  refine ki_bipush (x := 24) X dX11_init_169 (by decide) ?_
  refine ki_bipush (x := 111) X dX11_init_171 (by decide) ?_
  refine ki_astG (j := 5) (k := 24) X rfl (by decide) (by decide) (by decide) dX11_init_173 ?_
  show ki_At 2 Z 174 [(0, .ref h0)] [.ref q4, .ref h0] [(h0, .inr (9, [.ref q0, .ref q1, .ref q2, .ref q3, .int 0, .null, .int 0, .int 0, .null, .int 0, .long 0, .long 0, .null, .null, .null, .null, .null, .null, .int 0, .int 0, .int 0, .null, .null, .null, .null, .int 0, .int 0, .int 0, .null, .int 0])), (q0, .inl (cA 0, 160, .inl (kf (-9) 0))), (q1, .inl (cA 0, 40, .inl (fun _ => 0))), (q2, .inl (cA 0, 4, .inl (kf 1 0))), (q3, .inl (cA 0, 24, .inl (fun _ => 0))), (q4, .inl (cA 0, 60, .inl (kg 25)))] (5, 288)
  refine ki_dup X dX11_init_174 rfl ?_
  refine ki_bipush (x := 25) X dX11_init_175 (by decide) ?_
  refine ki_bipush (x := 112) X dX11_init_177 (by decide) ?_
  refine ki_astG (j := 5) (k := 25) X rfl (by decide) (by decide) (by decide) dX11_init_179 ?_
  show ki_At 2 Z 180 [(0, .ref h0)] [.ref q4, .ref h0] [(h0, .inr (9, [.ref q0, .ref q1, .ref q2, .ref q3, .int 0, .null, .int 0, .int 0, .null, .int 0, .long 0, .long 0, .null, .null, .null, .null, .null, .null, .int 0, .int 0, .int 0, .null, .null, .null, .null, .int 0, .int 0, .int 0, .null, .int 0])), (q0, .inl (cA 0, 160, .inl (kf (-9) 0))), (q1, .inl (cA 0, 40, .inl (fun _ => 0))), (q2, .inl (cA 0, 4, .inl (kf 1 0))), (q3, .inl (cA 0, 24, .inl (fun _ => 0))), (q4, .inl (cA 0, 60, .inl (kg 26)))] (5, 288)
  refine ki_dup X dX11_init_180 rfl ?_
  refine ki_bipush (x := 26) X dX11_init_181 (by decide) ?_
  refine ki_bipush (x := 101) X dX11_init_183 (by decide) ?_
  refine ki_astG (j := 5) (k := 26) X rfl (by decide) (by decide) (by decide) dX11_init_185 ?_
  show ki_At 2 Z 186 [(0, .ref h0)] [.ref q4, .ref h0] [(h0, .inr (9, [.ref q0, .ref q1, .ref q2, .ref q3, .int 0, .null, .int 0, .int 0, .null, .int 0, .long 0, .long 0, .null, .null, .null, .null, .null, .null, .int 0, .int 0, .int 0, .null, .null, .null, .null, .int 0, .int 0, .int 0, .null, .int 0])), (q0, .inl (cA 0, 160, .inl (kf (-9) 0))), (q1, .inl (cA 0, 40, .inl (fun _ => 0))), (q2, .inl (cA 0, 4, .inl (kf 1 0))), (q3, .inl (cA 0, 24, .inl (fun _ => 0))), (q4, .inl (cA 0, 60, .inl (kg 27)))] (5, 288)
  refine ki_dup X dX11_init_186 rfl ?_
  refine ki_bipush (x := 27) X dX11_init_187 (by decide) ?_
  refine ki_bipush (x := 110) X dX11_init_189 (by decide) ?_
  refine ki_astG (j := 5) (k := 27) X rfl (by decide) (by decide) (by decide) dX11_init_191 ?_
  show ki_At 2 Z 192 [(0, .ref h0)] [.ref q4, .ref h0] [(h0, .inr (9, [.ref q0, .ref q1, .ref q2, .ref q3, .int 0, .null, .int 0, .int 0, .null, .int 0, .long 0, .long 0, .null, .null, .null, .null, .null, .null, .int 0, .int 0, .int 0, .null, .null, .null, .null, .int 0, .int 0, .int 0, .null, .int 0])), (q0, .inl (cA 0, 160, .inl (kf (-9) 0))), (q1, .inl (cA 0, 40, .inl (fun _ => 0))), (q2, .inl (cA 0, 4, .inl (kf 1 0))), (q3, .inl (cA 0, 24, .inl (fun _ => 0))), (q4, .inl (cA 0, 60, .inl (kg 28)))] (5, 288)
  refine ki_dup X dX11_init_192 rfl ?_
  refine ki_bipush (x := 28) X dX11_init_193 (by decide) ?_
  refine ki_iconst (x := 0) X dX11_init_195 (by decide) ?_
  refine ki_astG (j := 5) (k := 28) X rfl (by decide) (by decide) (by decide) dX11_init_196 ?_
  show ki_At 2 Z 197 [(0, .ref h0)] [.ref q4, .ref h0] [(h0, .inr (9, [.ref q0, .ref q1, .ref q2, .ref q3, .int 0, .null, .int 0, .int 0, .null, .int 0, .long 0, .long 0, .null, .null, .null, .null, .null, .null, .int 0, .int 0, .int 0, .null, .null, .null, .null, .int 0, .int 0, .int 0, .null, .int 0])), (q0, .inl (cA 0, 160, .inl (kf (-9) 0))), (q1, .inl (cA 0, 40, .inl (fun _ => 0))), (q2, .inl (cA 0, 4, .inl (kf 1 0))), (q3, .inl (cA 0, 24, .inl (fun _ => 0))), (q4, .inl (cA 0, 60, .inl (kg 29)))] (5, 288)
  refine ki_dup X dX11_init_197 rfl ?_
  refine ki_bipush (x := 29) X dX11_init_198 (by decide) ?_
  refine ki_iconst (x := 0) X dX11_init_200 (by decide) ?_
  refine ki_astG (j := 5) (k := 29) X rfl (by decide) (by decide) (by decide) dX11_init_201 ?_
  show ki_At 2 Z 202 [(0, .ref h0)] [.ref q4, .ref h0] [(h0, .inr (9, [.ref q0, .ref q1, .ref q2, .ref q3, .int 0, .null, .int 0, .int 0, .null, .int 0, .long 0, .long 0, .null, .null, .null, .null, .null, .null, .int 0, .int 0, .int 0, .null, .null, .null, .null, .int 0, .int 0, .int 0, .null, .int 0])), (q0, .inl (cA 0, 160, .inl (kf (-9) 0))), (q1, .inl (cA 0, 40, .inl (fun _ => 0))), (q2, .inl (cA 0, 4, .inl (kf 1 0))), (q3, .inl (cA 0, 24, .inl (fun _ => 0))), (q4, .inl (cA 0, 60, .inl (kg 30)))] (5, 288)
  refine ki_dup X dX11_init_202 rfl ?_
  refine ki_bipush (x := 30) X dX11_init_203 (by decide) ?_
  refine ki_bipush (x := 119) X dX11_init_205 (by decide) ?_
  refine ki_astG (j := 5) (k := 30) X rfl (by decide) (by decide) (by decide) dX11_init_207 ?_
  show ki_At 2 Z 208 [(0, .ref h0)] [.ref q4, .ref h0] [(h0, .inr (9, [.ref q0, .ref q1, .ref q2, .ref q3, .int 0, .null, .int 0, .int 0, .null, .int 0, .long 0, .long 0, .null, .null, .null, .null, .null, .null, .int 0, .int 0, .int 0, .null, .null, .null, .null, .int 0, .int 0, .int 0, .null, .int 0])), (q0, .inl (cA 0, 160, .inl (kf (-9) 0))), (q1, .inl (cA 0, 40, .inl (fun _ => 0))), (q2, .inl (cA 0, 4, .inl (kf 1 0))), (q3, .inl (cA 0, 24, .inl (fun _ => 0))), (q4, .inl (cA 0, 60, .inl (kg 31)))] (5, 288)
  refine ki_dup X dX11_init_208 rfl ?_
  refine ki_bipush (x := 31) X dX11_init_209 (by decide) ?_
  refine ki_bipush (x := 101) X dX11_init_211 (by decide) ?_
  refine ki_astG (j := 5) (k := 31) X rfl (by decide) (by decide) (by decide) dX11_init_213 ?_
  show ki_At 2 Z 214 [(0, .ref h0)] [.ref q4, .ref h0] [(h0, .inr (9, [.ref q0, .ref q1, .ref q2, .ref q3, .int 0, .null, .int 0, .int 0, .null, .int 0, .long 0, .long 0, .null, .null, .null, .null, .null, .null, .int 0, .int 0, .int 0, .null, .null, .null, .null, .int 0, .int 0, .int 0, .null, .int 0])), (q0, .inl (cA 0, 160, .inl (kf (-9) 0))), (q1, .inl (cA 0, 40, .inl (fun _ => 0))), (q2, .inl (cA 0, 4, .inl (kf 1 0))), (q3, .inl (cA 0, 24, .inl (fun _ => 0))), (q4, .inl (cA 0, 60, .inl (kg 32)))] (5, 288)
  refine ki_dup X dX11_init_214 rfl ?_
  refine ki_bipush (x := 32) X dX11_init_215 (by decide) ?_
  refine ki_bipush (x := 105) X dX11_init_217 (by decide) ?_
  refine ki_astG (j := 5) (k := 32) X rfl (by decide) (by decide) (by decide) dX11_init_219 ?_
  show ki_At 2 Z 220 [(0, .ref h0)] [.ref q4, .ref h0] [(h0, .inr (9, [.ref q0, .ref q1, .ref q2, .ref q3, .int 0, .null, .int 0, .int 0, .null, .int 0, .long 0, .long 0, .null, .null, .null, .null, .null, .null, .int 0, .int 0, .int 0, .null, .null, .null, .null, .int 0, .int 0, .int 0, .null, .int 0])), (q0, .inl (cA 0, 160, .inl (kf (-9) 0))), (q1, .inl (cA 0, 40, .inl (fun _ => 0))), (q2, .inl (cA 0, 4, .inl (kf 1 0))), (q3, .inl (cA 0, 24, .inl (fun _ => 0))), (q4, .inl (cA 0, 60, .inl (kg 33)))] (5, 288)
  refine ki_dup X dX11_init_220 rfl ?_
  refine ki_bipush (x := 33) X dX11_init_221 (by decide) ?_
  refine ki_bipush (x := 103) X dX11_init_223 (by decide) ?_
  refine ki_astG (j := 5) (k := 33) X rfl (by decide) (by decide) (by decide) dX11_init_225 ?_
  show ki_At 2 Z 226 [(0, .ref h0)] [.ref q4, .ref h0] [(h0, .inr (9, [.ref q0, .ref q1, .ref q2, .ref q3, .int 0, .null, .int 0, .int 0, .null, .int 0, .long 0, .long 0, .null, .null, .null, .null, .null, .null, .int 0, .int 0, .int 0, .null, .null, .null, .null, .int 0, .int 0, .int 0, .null, .int 0])), (q0, .inl (cA 0, 160, .inl (kf (-9) 0))), (q1, .inl (cA 0, 40, .inl (fun _ => 0))), (q2, .inl (cA 0, 4, .inl (kf 1 0))), (q3, .inl (cA 0, 24, .inl (fun _ => 0))), (q4, .inl (cA 0, 60, .inl (kg 34)))] (5, 288)
  refine ki_dup X dX11_init_226 rfl ?_
  refine ki_bipush (x := 34) X dX11_init_227 (by decide) ?_
  refine ki_bipush (x := 104) X dX11_init_229 (by decide) ?_
  refine ki_astG (j := 5) (k := 34) X rfl (by decide) (by decide) (by decide) dX11_init_231 ?_
  show ki_At 2 Z 232 [(0, .ref h0)] [.ref q4, .ref h0] [(h0, .inr (9, [.ref q0, .ref q1, .ref q2, .ref q3, .int 0, .null, .int 0, .int 0, .null, .int 0, .long 0, .long 0, .null, .null, .null, .null, .null, .null, .int 0, .int 0, .int 0, .null, .null, .null, .null, .int 0, .int 0, .int 0, .null, .int 0])), (q0, .inl (cA 0, 160, .inl (kf (-9) 0))), (q1, .inl (cA 0, 40, .inl (fun _ => 0))), (q2, .inl (cA 0, 4, .inl (kf 1 0))), (q3, .inl (cA 0, 24, .inl (fun _ => 0))), (q4, .inl (cA 0, 60, .inl (kg 35)))] (5, 288)
  refine ki_dup X dX11_init_232 rfl ?_
  refine ki_bipush (x := 35) X dX11_init_233 (by decide) ?_
  refine ki_iconst (x := 0) X dX11_init_235 (by decide) ?_
  refine ki_astG (j := 5) (k := 35) X rfl (by decide) (by decide) (by decide) dX11_init_236 ?_
  show ki_At 2 Z 237 [(0, .ref h0)] [.ref q4, .ref h0] [(h0, .inr (9, [.ref q0, .ref q1, .ref q2, .ref q3, .int 0, .null, .int 0, .int 0, .null, .int 0, .long 0, .long 0, .null, .null, .null, .null, .null, .null, .int 0, .int 0, .int 0, .null, .null, .null, .null, .int 0, .int 0, .int 0, .null, .int 0])), (q0, .inl (cA 0, 160, .inl (kf (-9) 0))), (q1, .inl (cA 0, 40, .inl (fun _ => 0))), (q2, .inl (cA 0, 4, .inl (kf 1 0))), (q3, .inl (cA 0, 24, .inl (fun _ => 0))), (q4, .inl (cA 0, 60, .inl (kg 36)))] (5, 288)
  refine ki_dup X dX11_init_237 rfl ?_
  refine ki_bipush (x := 36) X dX11_init_238 (by decide) ?_
  refine ki_bipush (x := 115) X dX11_init_240 (by decide) ?_
  refine ki_astG (j := 5) (k := 36) X rfl (by decide) (by decide) (by decide) dX11_init_242 ?_
  show ki_At 2 Z 243 [(0, .ref h0)] [.ref q4, .ref h0] [(h0, .inr (9, [.ref q0, .ref q1, .ref q2, .ref q3, .int 0, .null, .int 0, .int 0, .null, .int 0, .long 0, .long 0, .null, .null, .null, .null, .null, .null, .int 0, .int 0, .int 0, .null, .null, .null, .null, .int 0, .int 0, .int 0, .null, .int 0])), (q0, .inl (cA 0, 160, .inl (kf (-9) 0))), (q1, .inl (cA 0, 40, .inl (fun _ => 0))), (q2, .inl (cA 0, 4, .inl (kf 1 0))), (q3, .inl (cA 0, 24, .inl (fun _ => 0))), (q4, .inl (cA 0, 60, .inl (kg 37)))] (5, 288)
  refine ki_dup X dX11_init_243 rfl ?_
  refine ki_bipush (x := 37) X dX11_init_244 (by decide) ?_
  refine ki_bipush (x := 113) X dX11_init_246 (by decide) ?_
  refine ki_astG (j := 5) (k := 37) X rfl (by decide) (by decide) (by decide) dX11_init_248 ?_
  show ki_At 2 Z 249 [(0, .ref h0)] [.ref q4, .ref h0] [(h0, .inr (9, [.ref q0, .ref q1, .ref q2, .ref q3, .int 0, .null, .int 0, .int 0, .null, .int 0, .long 0, .long 0, .null, .null, .null, .null, .null, .null, .int 0, .int 0, .int 0, .null, .null, .null, .null, .int 0, .int 0, .int 0, .null, .int 0])), (q0, .inl (cA 0, 160, .inl (kf (-9) 0))), (q1, .inl (cA 0, 40, .inl (fun _ => 0))), (q2, .inl (cA 0, 4, .inl (kf 1 0))), (q3, .inl (cA 0, 24, .inl (fun _ => 0))), (q4, .inl (cA 0, 60, .inl (kg 38)))] (5, 288)
  refine ki_dup X dX11_init_249 rfl ?_
  refine ki_bipush (x := 38) X dX11_init_250 (by decide) ?_
  refine ki_bipush (x := 117) X dX11_init_252 (by decide) ?_
  refine ki_astG (j := 5) (k := 38) X rfl (by decide) (by decide) (by decide) dX11_init_254 ?_
  show ki_At 2 Z 255 [(0, .ref h0)] [.ref q4, .ref h0] [(h0, .inr (9, [.ref q0, .ref q1, .ref q2, .ref q3, .int 0, .null, .int 0, .int 0, .null, .int 0, .long 0, .long 0, .null, .null, .null, .null, .null, .null, .int 0, .int 0, .int 0, .null, .null, .null, .null, .int 0, .int 0, .int 0, .null, .int 0])), (q0, .inl (cA 0, 160, .inl (kf (-9) 0))), (q1, .inl (cA 0, 40, .inl (fun _ => 0))), (q2, .inl (cA 0, 4, .inl (kf 1 0))), (q3, .inl (cA 0, 24, .inl (fun _ => 0))), (q4, .inl (cA 0, 60, .inl (kg 39)))] (5, 288)
  refine ki_dup X dX11_init_255 rfl ?_
  refine ki_bipush (x := 39) X dX11_init_256 (by decide) ?_
  refine ki_bipush (x := 97) X dX11_init_258 (by decide) ?_
  refine ki_astG (j := 5) (k := 39) X rfl (by decide) (by decide) (by decide) dX11_init_260 ?_
  show ki_At 2 Z 261 [(0, .ref h0)] [.ref q4, .ref h0] [(h0, .inr (9, [.ref q0, .ref q1, .ref q2, .ref q3, .int 0, .null, .int 0, .int 0, .null, .int 0, .long 0, .long 0, .null, .null, .null, .null, .null, .null, .int 0, .int 0, .int 0, .null, .null, .null, .null, .int 0, .int 0, .int 0, .null, .int 0])), (q0, .inl (cA 0, 160, .inl (kf (-9) 0))), (q1, .inl (cA 0, 40, .inl (fun _ => 0))), (q2, .inl (cA 0, 4, .inl (kf 1 0))), (q3, .inl (cA 0, 24, .inl (fun _ => 0))), (q4, .inl (cA 0, 60, .inl (kg 40)))] (5, 288)
  refine ki_dup X dX11_init_261 rfl ?_
  refine ki_bipush (x := 40) X dX11_init_262 (by decide) ?_
  refine ki_bipush (x := 114) X dX11_init_264 (by decide) ?_
  refine ki_astG (j := 5) (k := 40) X rfl (by decide) (by decide) (by decide) dX11_init_266 ?_
  show ki_At 2 Z 267 [(0, .ref h0)] [.ref q4, .ref h0] [(h0, .inr (9, [.ref q0, .ref q1, .ref q2, .ref q3, .int 0, .null, .int 0, .int 0, .null, .int 0, .long 0, .long 0, .null, .null, .null, .null, .null, .null, .int 0, .int 0, .int 0, .null, .null, .null, .null, .int 0, .int 0, .int 0, .null, .int 0])), (q0, .inl (cA 0, 160, .inl (kf (-9) 0))), (q1, .inl (cA 0, 40, .inl (fun _ => 0))), (q2, .inl (cA 0, 4, .inl (kf 1 0))), (q3, .inl (cA 0, 24, .inl (fun _ => 0))), (q4, .inl (cA 0, 60, .inl (kg 41)))] (5, 288)
  refine ki_dup X dX11_init_267 rfl ?_
  refine ki_bipush (x := 41) X dX11_init_268 (by decide) ?_
  refine ki_bipush (x := 101) X dX11_init_270 (by decide) ?_
  refine ki_astG (j := 5) (k := 41) X rfl (by decide) (by decide) (by decide) dX11_init_272 ?_
  show ki_At 2 Z 273 [(0, .ref h0)] [.ref q4, .ref h0] [(h0, .inr (9, [.ref q0, .ref q1, .ref q2, .ref q3, .int 0, .null, .int 0, .int 0, .null, .int 0, .long 0, .long 0, .null, .null, .null, .null, .null, .null, .int 0, .int 0, .int 0, .null, .null, .null, .null, .int 0, .int 0, .int 0, .null, .int 0])), (q0, .inl (cA 0, 160, .inl (kf (-9) 0))), (q1, .inl (cA 0, 40, .inl (fun _ => 0))), (q2, .inl (cA 0, 4, .inl (kf 1 0))), (q3, .inl (cA 0, 24, .inl (fun _ => 0))), (q4, .inl (cA 0, 60, .inl (kg 42)))] (5, 288)
  refine ki_dup X dX11_init_273 rfl ?_
  refine ki_bipush (x := 42) X dX11_init_274 (by decide) ?_
  refine ki_bipush (x := 108) X dX11_init_276 (by decide) ?_
  refine ki_astG (j := 5) (k := 42) X rfl (by decide) (by decide) (by decide) dX11_init_278 ?_
  show ki_At 2 Z 279 [(0, .ref h0)] [.ref q4, .ref h0] [(h0, .inr (9, [.ref q0, .ref q1, .ref q2, .ref q3, .int 0, .null, .int 0, .int 0, .null, .int 0, .long 0, .long 0, .null, .null, .null, .null, .null, .null, .int 0, .int 0, .int 0, .null, .null, .null, .null, .int 0, .int 0, .int 0, .null, .int 0])), (q0, .inl (cA 0, 160, .inl (kf (-9) 0))), (q1, .inl (cA 0, 40, .inl (fun _ => 0))), (q2, .inl (cA 0, 4, .inl (kf 1 0))), (q3, .inl (cA 0, 24, .inl (fun _ => 0))), (q4, .inl (cA 0, 60, .inl (kg 43)))] (5, 288)
  refine ki_dup X dX11_init_279 rfl ?_
  refine ki_bipush (x := 43) X dX11_init_280 (by decide) ?_
  refine ki_bipush (x := 105) X dX11_init_282 (by decide) ?_
  refine ki_astG (j := 5) (k := 43) X rfl (by decide) (by decide) (by decide) dX11_init_284 ?_
  show ki_At 2 Z 285 [(0, .ref h0)] [.ref q4, .ref h0] [(h0, .inr (9, [.ref q0, .ref q1, .ref q2, .ref q3, .int 0, .null, .int 0, .int 0, .null, .int 0, .long 0, .long 0, .null, .null, .null, .null, .null, .null, .int 0, .int 0, .int 0, .null, .null, .null, .null, .int 0, .int 0, .int 0, .null, .int 0])), (q0, .inl (cA 0, 160, .inl (kf (-9) 0))), (q1, .inl (cA 0, 40, .inl (fun _ => 0))), (q2, .inl (cA 0, 4, .inl (kf 1 0))), (q3, .inl (cA 0, 24, .inl (fun _ => 0))), (q4, .inl (cA 0, 60, .inl (kg 44)))] (5, 288)
  refine ki_dup X dX11_init_285 rfl ?_
  refine ki_bipush (x := 44) X dX11_init_286 (by decide) ?_
  refine ki_bipush (x := 110) X dX11_init_288 (by decide) ?_
  refine ki_astG (j := 5) (k := 44) X rfl (by decide) (by decide) (by decide) dX11_init_290 ?_
  show ki_At 2 Z 291 [(0, .ref h0)] [.ref q4, .ref h0] [(h0, .inr (9, [.ref q0, .ref q1, .ref q2, .ref q3, .int 0, .null, .int 0, .int 0, .null, .int 0, .long 0, .long 0, .null, .null, .null, .null, .null, .null, .int 0, .int 0, .int 0, .null, .null, .null, .null, .int 0, .int 0, .int 0, .null, .int 0])), (q0, .inl (cA 0, 160, .inl (kf (-9) 0))), (q1, .inl (cA 0, 40, .inl (fun _ => 0))), (q2, .inl (cA 0, 4, .inl (kf 1 0))), (q3, .inl (cA 0, 24, .inl (fun _ => 0))), (q4, .inl (cA 0, 60, .inl (kg 45)))] (5, 288)
  refine ki_dup X dX11_init_291 rfl ?_
  refine ki_bipush (x := 45) X dX11_init_292 (by decide) ?_
  refine ki_bipush (x := 101) X dX11_init_294 (by decide) ?_
  refine ki_astG (j := 5) (k := 45) X rfl (by decide) (by decide) (by decide) dX11_init_296 ?_
  show ki_At 2 Z 297 [(0, .ref h0)] [.ref q4, .ref h0] [(h0, .inr (9, [.ref q0, .ref q1, .ref q2, .ref q3, .int 0, .null, .int 0, .int 0, .null, .int 0, .long 0, .long 0, .null, .null, .null, .null, .null, .null, .int 0, .int 0, .int 0, .null, .null, .null, .null, .int 0, .int 0, .int 0, .null, .int 0])), (q0, .inl (cA 0, 160, .inl (kf (-9) 0))), (q1, .inl (cA 0, 40, .inl (fun _ => 0))), (q2, .inl (cA 0, 4, .inl (kf 1 0))), (q3, .inl (cA 0, 24, .inl (fun _ => 0))), (q4, .inl (cA 0, 60, .inl (kg 46)))] (5, 288)
  refine ki_dup X dX11_init_297 rfl ?_
  refine ki_bipush (x := 46) X dX11_init_298 (by decide) ?_
  refine ki_iconst (x := 0) X dX11_init_300 (by decide) ?_
  refine ki_astG (j := 5) (k := 46) X rfl (by decide) (by decide) (by decide) dX11_init_301 ?_
  show ki_At 2 Z 302 [(0, .ref h0)] [.ref q4, .ref h0] [(h0, .inr (9, [.ref q0, .ref q1, .ref q2, .ref q3, .int 0, .null, .int 0, .int 0, .null, .int 0, .long 0, .long 0, .null, .null, .null, .null, .null, .null, .int 0, .int 0, .int 0, .null, .null, .null, .null, .int 0, .int 0, .int 0, .null, .int 0])), (q0, .inl (cA 0, 160, .inl (kf (-9) 0))), (q1, .inl (cA 0, 40, .inl (fun _ => 0))), (q2, .inl (cA 0, 4, .inl (kf 1 0))), (q3, .inl (cA 0, 24, .inl (fun _ => 0))), (q4, .inl (cA 0, 60, .inl (kg 47)))] (5, 288)
  refine ki_dup X dX11_init_302 rfl ?_
  refine ki_bipush (x := 47) X dX11_init_303 (by decide) ?_
  refine ki_iconst (x := 0) X dX11_init_305 (by decide) ?_
  refine ki_astG (j := 5) (k := 47) X rfl (by decide) (by decide) (by decide) dX11_init_306 ?_
  show ki_At 2 Z 307 [(0, .ref h0)] [.ref q4, .ref h0] [(h0, .inr (9, [.ref q0, .ref q1, .ref q2, .ref q3, .int 0, .null, .int 0, .int 0, .null, .int 0, .long 0, .long 0, .null, .null, .null, .null, .null, .null, .int 0, .int 0, .int 0, .null, .null, .null, .null, .int 0, .int 0, .int 0, .null, .int 0])), (q0, .inl (cA 0, 160, .inl (kf (-9) 0))), (q1, .inl (cA 0, 40, .inl (fun _ => 0))), (q2, .inl (cA 0, 4, .inl (kf 1 0))), (q3, .inl (cA 0, 24, .inl (fun _ => 0))), (q4, .inl (cA 0, 60, .inl (kg 48)))] (5, 288)
  refine ki_dup X dX11_init_307 rfl ?_
  refine ki_bipush (x := 48) X dX11_init_308 (by decide) ?_
  refine ki_bipush (x := 101) X dX11_init_310 (by decide) ?_
  refine ki_astG (j := 5) (k := 48) X rfl (by decide) (by decide) (by decide) dX11_init_312 ?_
  show ki_At 2 Z 313 [(0, .ref h0)] [.ref q4, .ref h0] [(h0, .inr (9, [.ref q0, .ref q1, .ref q2, .ref q3, .int 0, .null, .int 0, .int 0, .null, .int 0, .long 0, .long 0, .null, .null, .null, .null, .null, .null, .int 0, .int 0, .int 0, .null, .null, .null, .null, .int 0, .int 0, .int 0, .null, .int 0])), (q0, .inl (cA 0, 160, .inl (kf (-9) 0))), (q1, .inl (cA 0, 40, .inl (fun _ => 0))), (q2, .inl (cA 0, 4, .inl (kf 1 0))), (q3, .inl (cA 0, 24, .inl (fun _ => 0))), (q4, .inl (cA 0, 60, .inl (kg 49)))] (5, 288)
  refine ki_dup X dX11_init_313 rfl ?_
  refine ki_bipush (x := 49) X dX11_init_314 (by decide) ?_
  refine ki_bipush (x := 100) X dX11_init_316 (by decide) ?_
  refine ki_astG (j := 5) (k := 49) X rfl (by decide) (by decide) (by decide) dX11_init_318 ?_
  show ki_At 2 Z 319 [(0, .ref h0)] [.ref q4, .ref h0] [(h0, .inr (9, [.ref q0, .ref q1, .ref q2, .ref q3, .int 0, .null, .int 0, .int 0, .null, .int 0, .long 0, .long 0, .null, .null, .null, .null, .null, .null, .int 0, .int 0, .int 0, .null, .null, .null, .null, .int 0, .int 0, .int 0, .null, .int 0])), (q0, .inl (cA 0, 160, .inl (kf (-9) 0))), (q1, .inl (cA 0, 40, .inl (fun _ => 0))), (q2, .inl (cA 0, 4, .inl (kf 1 0))), (q3, .inl (cA 0, 24, .inl (fun _ => 0))), (q4, .inl (cA 0, 60, .inl (kg 50)))] (5, 288)
  refine ki_dup X dX11_init_319 rfl ?_
  refine ki_bipush (x := 50) X dX11_init_320 (by decide) ?_
  refine ki_bipush (x := 103) X dX11_init_322 (by decide) ?_
  refine ki_astG (j := 5) (k := 50) X rfl (by decide) (by decide) (by decide) dX11_init_324 ?_
  show ki_At 2 Z 325 [(0, .ref h0)] [.ref q4, .ref h0] [(h0, .inr (9, [.ref q0, .ref q1, .ref q2, .ref q3, .int 0, .null, .int 0, .int 0, .null, .int 0, .long 0, .long 0, .null, .null, .null, .null, .null, .null, .int 0, .int 0, .int 0, .null, .null, .null, .null, .int 0, .int 0, .int 0, .null, .int 0])), (q0, .inl (cA 0, 160, .inl (kf (-9) 0))), (q1, .inl (cA 0, 40, .inl (fun _ => 0))), (q2, .inl (cA 0, 4, .inl (kf 1 0))), (q3, .inl (cA 0, 24, .inl (fun _ => 0))), (q4, .inl (cA 0, 60, .inl (kg 51)))] (5, 288)
  refine ki_dup X dX11_init_325 rfl ?_
  refine ki_bipush (x := 51) X dX11_init_326 (by decide) ?_
  refine ki_bipush (x := 101) X dX11_init_328 (by decide) ?_
  refine ki_astG (j := 5) (k := 51) X rfl (by decide) (by decide) (by decide) dX11_init_330 ?_
  show ki_At 2 Z 331 [(0, .ref h0)] [.ref q4, .ref h0] [(h0, .inr (9, [.ref q0, .ref q1, .ref q2, .ref q3, .int 0, .null, .int 0, .int 0, .null, .int 0, .long 0, .long 0, .null, .null, .null, .null, .null, .null, .int 0, .int 0, .int 0, .null, .null, .null, .null, .int 0, .int 0, .int 0, .null, .int 0])), (q0, .inl (cA 0, 160, .inl (kf (-9) 0))), (q1, .inl (cA 0, 40, .inl (fun _ => 0))), (q2, .inl (cA 0, 4, .inl (kf 1 0))), (q3, .inl (cA 0, 24, .inl (fun _ => 0))), (q4, .inl (cA 0, 60, .inl (kg 52)))] (5, 288)
  refine ki_dup X dX11_init_331 rfl ?_
  refine ki_bipush (x := 52) X dX11_init_332 (by decide) ?_
  refine ki_iconst (x := 0) X dX11_init_334 (by decide) ?_
  refine ki_astG (j := 5) (k := 52) X rfl (by decide) (by decide) (by decide) dX11_init_335 ?_
  show ki_At 2 Z 336 [(0, .ref h0)] [.ref q4, .ref h0] [(h0, .inr (9, [.ref q0, .ref q1, .ref q2, .ref q3, .int 0, .null, .int 0, .int 0, .null, .int 0, .long 0, .long 0, .null, .null, .null, .null, .null, .null, .int 0, .int 0, .int 0, .null, .null, .null, .null, .int 0, .int 0, .int 0, .null, .int 0])), (q0, .inl (cA 0, 160, .inl (kf (-9) 0))), (q1, .inl (cA 0, 40, .inl (fun _ => 0))), (q2, .inl (cA 0, 4, .inl (kf 1 0))), (q3, .inl (cA 0, 24, .inl (fun _ => 0))), (q4, .inl (cA 0, 60, .inl (kg 53)))] (5, 288)
  refine ki_dup X dX11_init_336 rfl ?_
  refine ki_bipush (x := 53) X dX11_init_337 (by decide) ?_
  refine ki_iconst (x := 0) X dX11_init_339 (by decide) ?_
  refine ki_astG (j := 5) (k := 53) X rfl (by decide) (by decide) (by decide) dX11_init_340 ?_
  show ki_At 2 Z 341 [(0, .ref h0)] [.ref q4, .ref h0] [(h0, .inr (9, [.ref q0, .ref q1, .ref q2, .ref q3, .int 0, .null, .int 0, .int 0, .null, .int 0, .long 0, .long 0, .null, .null, .null, .null, .null, .null, .int 0, .int 0, .int 0, .null, .null, .null, .null, .int 0, .int 0, .int 0, .null, .int 0])), (q0, .inl (cA 0, 160, .inl (kf (-9) 0))), (q1, .inl (cA 0, 40, .inl (fun _ => 0))), (q2, .inl (cA 0, 4, .inl (kf 1 0))), (q3, .inl (cA 0, 24, .inl (fun _ => 0))), (q4, .inl (cA 0, 60, .inl (kg 54)))] (5, 288)
  refine ki_dup X dX11_init_341 rfl ?_
  refine ki_bipush (x := 54) X dX11_init_342 (by decide) ?_
  refine ki_bipush (x := 99) X dX11_init_344 (by decide) ?_
  refine ki_astG (j := 5) (k := 54) X rfl (by decide) (by decide) (by decide) dX11_init_346 ?_
  show ki_At 2 Z 347 [(0, .ref h0)] [.ref q4, .ref h0] [(h0, .inr (9, [.ref q0, .ref q1, .ref q2, .ref q3, .int 0, .null, .int 0, .int 0, .null, .int 0, .long 0, .long 0, .null, .null, .null, .null, .null, .null, .int 0, .int 0, .int 0, .null, .null, .null, .null, .int 0, .int 0, .int 0, .null, .int 0])), (q0, .inl (cA 0, 160, .inl (kf (-9) 0))), (q1, .inl (cA 0, 40, .inl (fun _ => 0))), (q2, .inl (cA 0, 4, .inl (kf 1 0))), (q3, .inl (cA 0, 24, .inl (fun _ => 0))), (q4, .inl (cA 0, 60, .inl (kg 55)))] (5, 288)
  refine ki_dup X dX11_init_347 rfl ?_
  refine ki_bipush (x := 55) X dX11_init_348 (by decide) ?_
  refine ki_bipush (x := 117) X dX11_init_350 (by decide) ?_
  refine ki_astG (j := 5) (k := 55) X rfl (by decide) (by decide) (by decide) dX11_init_352 ?_
  show ki_At 2 Z 353 [(0, .ref h0)] [.ref q4, .ref h0] [(h0, .inr (9, [.ref q0, .ref q1, .ref q2, .ref q3, .int 0, .null, .int 0, .int 0, .null, .int 0, .long 0, .long 0, .null, .null, .null, .null, .null, .null, .int 0, .int 0, .int 0, .null, .null, .null, .null, .int 0, .int 0, .int 0, .null, .int 0])), (q0, .inl (cA 0, 160, .inl (kf (-9) 0))), (q1, .inl (cA 0, 40, .inl (fun _ => 0))), (q2, .inl (cA 0, 4, .inl (kf 1 0))), (q3, .inl (cA 0, 24, .inl (fun _ => 0))), (q4, .inl (cA 0, 60, .inl (kg 56)))] (5, 288)
  refine ki_dup X dX11_init_353 rfl ?_
  refine ki_bipush (x := 56) X dX11_init_354 (by decide) ?_
  refine ki_bipush (x := 98) X dX11_init_356 (by decide) ?_
  refine ki_astG (j := 5) (k := 56) X rfl (by decide) (by decide) (by decide) dX11_init_358 ?_
  show ki_At 2 Z 359 [(0, .ref h0)] [.ref q4, .ref h0] [(h0, .inr (9, [.ref q0, .ref q1, .ref q2, .ref q3, .int 0, .null, .int 0, .int 0, .null, .int 0, .long 0, .long 0, .null, .null, .null, .null, .null, .null, .int 0, .int 0, .int 0, .null, .null, .null, .null, .int 0, .int 0, .int 0, .null, .int 0])), (q0, .inl (cA 0, 160, .inl (kf (-9) 0))), (q1, .inl (cA 0, 40, .inl (fun _ => 0))), (q2, .inl (cA 0, 4, .inl (kf 1 0))), (q3, .inl (cA 0, 24, .inl (fun _ => 0))), (q4, .inl (cA 0, 60, .inl (kg 57)))] (5, 288)
  refine ki_dup X dX11_init_359 rfl ?_
  refine ki_bipush (x := 57) X dX11_init_360 (by decide) ?_
  refine ki_bipush (x := 101) X dX11_init_362 (by decide) ?_
  refine ki_astG (j := 5) (k := 57) X rfl (by decide) (by decide) (by decide) dX11_init_364 ?_
  show ki_At 2 Z 365 [(0, .ref h0)] [.ref q4, .ref h0] [(h0, .inr (9, [.ref q0, .ref q1, .ref q2, .ref q3, .int 0, .null, .int 0, .int 0, .null, .int 0, .long 0, .long 0, .null, .null, .null, .null, .null, .null, .int 0, .int 0, .int 0, .null, .null, .null, .null, .int 0, .int 0, .int 0, .null, .int 0])), (q0, .inl (cA 0, 160, .inl (kf (-9) 0))), (q1, .inl (cA 0, 40, .inl (fun _ => 0))), (q2, .inl (cA 0, 4, .inl (kf 1 0))), (q3, .inl (cA 0, 24, .inl (fun _ => 0))), (q4, .inl (cA 0, 60, .inl (kg 58)))] (5, 288)
  refine ki_dup X dX11_init_365 rfl ?_
  refine ki_bipush (x := 58) X dX11_init_366 (by decide) ?_
  refine ki_iconst (x := 0) X dX11_init_368 (by decide) ?_
  refine ki_astG (j := 5) (k := 58) X rfl (by decide) (by decide) (by decide) dX11_init_369 ?_
  show ki_At 2 Z 370 [(0, .ref h0)] [.ref q4, .ref h0] [(h0, .inr (9, [.ref q0, .ref q1, .ref q2, .ref q3, .int 0, .null, .int 0, .int 0, .null, .int 0, .long 0, .long 0, .null, .null, .null, .null, .null, .null, .int 0, .int 0, .int 0, .null, .null, .null, .null, .int 0, .int 0, .int 0, .null, .int 0])), (q0, .inl (cA 0, 160, .inl (kf (-9) 0))), (q1, .inl (cA 0, 40, .inl (fun _ => 0))), (q2, .inl (cA 0, 4, .inl (kf 1 0))), (q3, .inl (cA 0, 24, .inl (fun _ => 0))), (q4, .inl (cA 0, 60, .inl (kg 59)))] (5, 288)
  refine ki_dup X dX11_init_370 rfl ?_
  refine ki_bipush (x := 59) X dX11_init_371 (by decide) ?_
  refine ki_iconst (x := 0) X dX11_init_373 (by decide) ?_
  refine ki_astG (j := 5) (k := 59) X rfl (by decide) (by decide) (by decide) dX11_init_374 ?_
  show ki_At 2 Z 375 [(0, .ref h0)] [.ref q4, .ref h0] [(h0, .inr (9, [.ref q0, .ref q1, .ref q2, .ref q3, .int 0, .null, .int 0, .int 0, .null, .int 0, .long 0, .long 0, .null, .null, .null, .null, .null, .null, .int 0, .int 0, .int 0, .null, .null, .null, .null, .int 0, .int 0, .int 0, .null, .int 0])), (q0, .inl (cA 0, 160, .inl (kf (-9) 0))), (q1, .inl (cA 0, 40, .inl (fun _ => 0))), (q2, .inl (cA 0, 4, .inl (kf 1 0))), (q3, .inl (cA 0, 24, .inl (fun _ => 0))), (q4, .inl (cA 0, 60, .inl (kg 60)))] (5, 288)
  refine ki_putF (f := 5) (ty := (.array .int)) X hI rfl (by decide) inX11 tyX11_ok nmX11 wf_RX11_22 rfl rfl rfl rfl rfl (Nat.le_of_ble_eq_true rfl) dX11_init_375 ?_
  show ki_At 2 Z 378 [(0, .ref h0)] [] [(h0, .inr (9, [.ref q0, .ref q1, .ref q2, .ref q3, .int 0, .ref q4, .int 0, .int 0, .null, .int 0, .long 0, .long 0, .null, .null, .null, .null, .null, .null, .int 0, .int 0, .int 0, .null, .null, .null, .null, .int 0, .int 0, .int 0, .null, .int 0])), (q0, .inl (cA 0, 160, .inl (kf (-9) 0))), (q1, .inl (cA 0, 40, .inl (fun _ => 0))), (q2, .inl (cA 0, 4, .inl (kf 1 0))), (q3, .inl (cA 0, 24, .inl (fun _ => 0))), (q4, .inl (cA 0, 60, .inl (kg 60)))] (5, 288)
  refine ki_al0 (a := h0) X dX11_init_378 (by simp) ?_
  refine ki_iconst (x := 3) X dX11_init_379 (by decide) ?_
  refine ki_newa (atype := .int) (ty := .int) (t := 0) (N := 3) (a0 := (3, .inl (fun _ => 0))) X wx_arI rfl (fun _ => rfl) (fun _ _ h9 => h9) (fun _ => rfl) (by decide) (by decide) (Nat.le_of_ble_eq_true rfl) (Nat.le_of_ble_eq_true rfl) (Nat.le_of_ble_eq_true rfl) dX11_init_380 (fun q5 => ?_)
  show ki_At 2 Z 382 [(0, .ref h0)] [.ref q5, .ref h0] [(h0, .inr (9, [.ref q0, .ref q1, .ref q2, .ref q3, .int 0, .ref q4, .int 0, .int 0, .null, .int 0, .long 0, .long 0, .null, .null, .null, .null, .null, .null, .int 0, .int 0, .int 0, .null, .null, .null, .null, .int 0, .int 0, .int 0, .null, .int 0])), (q0, .inl (cA 0, 160, .inl (kf (-9) 0))), (q1, .inl (cA 0, 40, .inl (fun _ => 0))), (q2, .inl (cA 0, 4, .inl (kf 1 0))), (q3, .inl (cA 0, 24, .inl (fun _ => 0))), (q4, .inl (cA 0, 60, .inl (kg 60))), (q5, .inl (cA 0, 3, .inl (fun _ => 0)))] (6, 291)
  refine ki_putF (f := 8) (ty := (.array .int)) X hI rfl (by decide) inX11 tyX11_ok nmX11 wf_RX11_25 rfl rfl rfl rfl rfl (Nat.le_of_ble_eq_true rfl) dX11_init_382 ?_
  show ki_At 2 Z 385 [(0, .ref h0)] [] [(h0, .inr (9, [.ref q0, .ref q1, .ref q2, .ref q3, .int 0, .ref q4, .int 0, .int 0, .ref q5, .int 0, .long 0, .long 0, .null, .null, .null, .null, .null, .null, .int 0, .int 0, .int 0, .null, .null, .null, .null, .int 0, .int 0, .int 0, .null, .int 0])), (q0, .inl (cA 0, 160, .inl (kf (-9) 0))), (q1, .inl (cA 0, 40, .inl (fun _ => 0))), (q2, .inl (cA 0, 4, .inl (kf 1 0))), (q3, .inl (cA 0, 24, .inl (fun _ => 0))), (q4, .inl (cA 0, 60, .inl (kg 60))), (q5, .inl (cA 0, 3, .inl (fun _ => 0)))] (6, 291)
  refine ki_al0 (a := h0) X dX11_init_385 (by simp) ?_
  refine ki_lconst (x := 1) X dX11_init_386 (by decide) ?_
  refine ki_putN (f := 11) (ty := .long) X rfl (by decide) inX11 tyX11_ok nmX11 wf_RX11_28 rfl rfl rfl rfl (Nat.le_of_ble_eq_true rfl) dX11_init_387 ?_
  show ki_At 2 Z 390 [(0, .ref h0)] [] [(h0, .inr (9, [.ref q0, .ref q1, .ref q2, .ref q3, .int 0, .ref q4, .int 0, .int 0, .ref q5, .int 0, .long 0, .long 1, .null, .null, .null, .null, .null, .null, .int 0, .int 0, .int 0, .null, .null, .null, .null, .int 0, .int 0, .int 0, .null, .int 0])), (q0, .inl (cA 0, 160, .inl (kf (-9) 0))), (q1, .inl (cA 0, 40, .inl (fun _ => 0))), (q2, .inl (cA 0, 4, .inl (kf 1 0))), (q3, .inl (cA 0, 24, .inl (fun _ => 0))), (q4, .inl (cA 0, 60, .inl (kg 60))), (q5, .inl (cA 0, 3, .inl (fun _ => 0)))] (6, 291)
  refine ki_al0 (a := h0) X dX11_init_390 (by simp) ?_
  refine ki_bipush (x := 101) X dX11_init_391 (by decide) ?_
  refine ki_newa (atype := .boolean) (ty := .boolean) (t := 1) (N := 101) (a0 := (101, .inl (fun _ => 0))) X wx_arZ rfl (fun _ => rfl) (fun _ _ h9 => h9) (fun _ => rfl) (by decide) (by decide) (Nat.le_of_ble_eq_true rfl) (Nat.le_of_ble_eq_true rfl) (Nat.le_of_ble_eq_true rfl) dX11_init_393 (fun q6 => ?_)
  show ki_At 2 Z 395 [(0, .ref h0)] [.ref q6, .ref h0] [(h0, .inr (9, [.ref q0, .ref q1, .ref q2, .ref q3, .int 0, .ref q4, .int 0, .int 0, .ref q5, .int 0, .long 0, .long 1, .null, .null, .null, .null, .null, .null, .int 0, .int 0, .int 0, .null, .null, .null, .null, .int 0, .int 0, .int 0, .null, .int 0])), (q0, .inl (cA 0, 160, .inl (kf (-9) 0))), (q1, .inl (cA 0, 40, .inl (fun _ => 0))), (q2, .inl (cA 0, 4, .inl (kf 1 0))), (q3, .inl (cA 0, 24, .inl (fun _ => 0))), (q4, .inl (cA 0, 60, .inl (kg 60))), (q5, .inl (cA 0, 3, .inl (fun _ => 0))), (q6, .inl (cA 1, 101, .inl (fun _ => 0)))] (7, 392)
  refine ki_putF (f := 12) (ty := (.array .boolean)) X hI rfl (by decide) inX11 tyX11_ok nmX11 wf_RX11_32 rfl rfl rfl rfl rfl (Nat.le_of_ble_eq_true rfl) dX11_init_395 ?_
  show ki_At 2 Z 398 [(0, .ref h0)] [] [(h0, .inr (9, [.ref q0, .ref q1, .ref q2, .ref q3, .int 0, .ref q4, .int 0, .int 0, .ref q5, .int 0, .long 0, .long 1, .ref q6, .null, .null, .null, .null, .null, .int 0, .int 0, .int 0, .null, .null, .null, .null, .int 0, .int 0, .int 0, .null, .int 0])), (q0, .inl (cA 0, 160, .inl (kf (-9) 0))), (q1, .inl (cA 0, 40, .inl (fun _ => 0))), (q2, .inl (cA 0, 4, .inl (kf 1 0))), (q3, .inl (cA 0, 24, .inl (fun _ => 0))), (q4, .inl (cA 0, 60, .inl (kg 60))), (q5, .inl (cA 0, 3, .inl (fun _ => 0))), (q6, .inl (cA 1, 101, .inl (fun _ => 0)))] (7, 392)
  refine ki_al0 (a := h0) X dX11_init_398 (by simp) ?_
  refine ki_bipush (x := 10) X dX11_init_399 (by decide) ?_
  refine ki_newa (atype := .int) (ty := .int) (t := 0) (N := 10) (a0 := (10, .inl (fun _ => 0))) X wx_arI rfl (fun _ => rfl) (fun _ _ h9 => h9) (fun _ => rfl) (by decide) (by decide) (Nat.le_of_ble_eq_true rfl) (Nat.le_of_ble_eq_true rfl) (Nat.le_of_ble_eq_true rfl) dX11_init_401 (fun q7 => ?_)
  show ki_At 2 Z 403 [(0, .ref h0)] [.ref q7, .ref h0] [(h0, .inr (9, [.ref q0, .ref q1, .ref q2, .ref q3, .int 0, .ref q4, .int 0, .int 0, .ref q5, .int 0, .long 0, .long 1, .ref q6, .null, .null, .null, .null, .null, .int 0, .int 0, .int 0, .null, .null, .null, .null, .int 0, .int 0, .int 0, .null, .int 0])), (q0, .inl (cA 0, 160, .inl (kf (-9) 0))), (q1, .inl (cA 0, 40, .inl (fun _ => 0))), (q2, .inl (cA 0, 4, .inl (kf 1 0))), (q3, .inl (cA 0, 24, .inl (fun _ => 0))), (q4, .inl (cA 0, 60, .inl (kg 60))), (q5, .inl (cA 0, 3, .inl (fun _ => 0))), (q6, .inl (cA 1, 101, .inl (fun _ => 0))), (q7, .inl (cA 0, 10, .inl (fun _ => 0)))] (8, 402)
  refine ki_putF (f := 13) (ty := (.array .int)) X hI rfl (by decide) inX11 tyX11_ok nmX11 wf_RX11_36 rfl rfl rfl rfl rfl (Nat.le_of_ble_eq_true rfl) dX11_init_403 ?_
  show ki_At 2 Z 406 [(0, .ref h0)] [] [(h0, .inr (9, [.ref q0, .ref q1, .ref q2, .ref q3, .int 0, .ref q4, .int 0, .int 0, .ref q5, .int 0, .long 0, .long 1, .ref q6, .ref q7, .null, .null, .null, .null, .int 0, .int 0, .int 0, .null, .null, .null, .null, .int 0, .int 0, .int 0, .null, .int 0])), (q0, .inl (cA 0, 160, .inl (kf (-9) 0))), (q1, .inl (cA 0, 40, .inl (fun _ => 0))), (q2, .inl (cA 0, 4, .inl (kf 1 0))), (q3, .inl (cA 0, 24, .inl (fun _ => 0))), (q4, .inl (cA 0, 60, .inl (kg 60))), (q5, .inl (cA 0, 3, .inl (fun _ => 0))), (q6, .inl (cA 1, 101, .inl (fun _ => 0))), (q7, .inl (cA 0, 10, .inl (fun _ => 0)))] (8, 402)
  refine ki_al0 (a := h0) X dX11_init_406 (by simp) ?_
  refine ki_bipush (x := 10) X dX11_init_407 (by decide) ?_
  refine ki_newa (atype := .int) (ty := .int) (t := 0) (N := 10) (a0 := (10, .inl (fun _ => 0))) X wx_arI rfl (fun _ => rfl) (fun _ _ h9 => h9) (fun _ => rfl) (by decide) (by decide) (Nat.le_of_ble_eq_true rfl) (Nat.le_of_ble_eq_true rfl) (Nat.le_of_ble_eq_true rfl) dX11_init_409 (fun q8 => ?_)
  show ki_At 2 Z 411 [(0, .ref h0)] [.ref q8, .ref h0] [(h0, .inr (9, [.ref q0, .ref q1, .ref q2, .ref q3, .int 0, .ref q4, .int 0, .int 0, .ref q5, .int 0, .long 0, .long 1, .ref q6, .ref q7, .null, .null, .null, .null, .int 0, .int 0, .int 0, .null, .null, .null, .null, .int 0, .int 0, .int 0, .null, .int 0])), (q0, .inl (cA 0, 160, .inl (kf (-9) 0))), (q1, .inl (cA 0, 40, .inl (fun _ => 0))), (q2, .inl (cA 0, 4, .inl (kf 1 0))), (q3, .inl (cA 0, 24, .inl (fun _ => 0))), (q4, .inl (cA 0, 60, .inl (kg 60))), (q5, .inl (cA 0, 3, .inl (fun _ => 0))), (q6, .inl (cA 1, 101, .inl (fun _ => 0))), (q7, .inl (cA 0, 10, .inl (fun _ => 0))), (q8, .inl (cA 0, 10, .inl (fun _ => 0)))] (9, 412)
  refine ki_putF (f := 14) (ty := (.array .int)) X hI rfl (by decide) inX11 tyX11_ok nmX11 wf_RX11_39 rfl rfl rfl rfl rfl (Nat.le_of_ble_eq_true rfl) dX11_init_411 ?_
  show ki_At 2 Z 414 [(0, .ref h0)] [] [(h0, .inr (9, [.ref q0, .ref q1, .ref q2, .ref q3, .int 0, .ref q4, .int 0, .int 0, .ref q5, .int 0, .long 0, .long 1, .ref q6, .ref q7, .ref q8, .null, .null, .null, .int 0, .int 0, .int 0, .null, .null, .null, .null, .int 0, .int 0, .int 0, .null, .int 0])), (q0, .inl (cA 0, 160, .inl (kf (-9) 0))), (q1, .inl (cA 0, 40, .inl (fun _ => 0))), (q2, .inl (cA 0, 4, .inl (kf 1 0))), (q3, .inl (cA 0, 24, .inl (fun _ => 0))), (q4, .inl (cA 0, 60, .inl (kg 60))), (q5, .inl (cA 0, 3, .inl (fun _ => 0))), (q6, .inl (cA 1, 101, .inl (fun _ => 0))), (q7, .inl (cA 0, 10, .inl (fun _ => 0))), (q8, .inl (cA 0, 10, .inl (fun _ => 0)))] (9, 412)
  refine ki_al0 (a := h0) X dX11_init_414 (by simp) ?_
  refine ki_bipush (x := 10) X dX11_init_415 (by decide) ?_
  refine ki_newa (atype := .int) (ty := .int) (t := 0) (N := 10) (a0 := (10, .inl (fun _ => 0))) X wx_arI rfl (fun _ => rfl) (fun _ _ h9 => h9) (fun _ => rfl) (by decide) (by decide) (Nat.le_of_ble_eq_true rfl) (Nat.le_of_ble_eq_true rfl) (Nat.le_of_ble_eq_true rfl) dX11_init_417 (fun q9 => ?_)
  show ki_At 2 Z 419 [(0, .ref h0)] [.ref q9, .ref h0] [(h0, .inr (9, [.ref q0, .ref q1, .ref q2, .ref q3, .int 0, .ref q4, .int 0, .int 0, .ref q5, .int 0, .long 0, .long 1, .ref q6, .ref q7, .ref q8, .null, .null, .null, .int 0, .int 0, .int 0, .null, .null, .null, .null, .int 0, .int 0, .int 0, .null, .int 0])), (q0, .inl (cA 0, 160, .inl (kf (-9) 0))), (q1, .inl (cA 0, 40, .inl (fun _ => 0))), (q2, .inl (cA 0, 4, .inl (kf 1 0))), (q3, .inl (cA 0, 24, .inl (fun _ => 0))), (q4, .inl (cA 0, 60, .inl (kg 60))), (q5, .inl (cA 0, 3, .inl (fun _ => 0))), (q6, .inl (cA 1, 101, .inl (fun _ => 0))), (q7, .inl (cA 0, 10, .inl (fun _ => 0))), (q8, .inl (cA 0, 10, .inl (fun _ => 0))), (q9, .inl (cA 0, 10, .inl (fun _ => 0)))] (10, 422)
  refine ki_putF (f := 15) (ty := (.array .int)) X hI rfl (by decide) inX11 tyX11_ok nmX11 wf_RX11_42 rfl rfl rfl rfl rfl (Nat.le_of_ble_eq_true rfl) dX11_init_419 ?_
  show ki_At 2 Z 422 [(0, .ref h0)] [] [(h0, .inr (9, [.ref q0, .ref q1, .ref q2, .ref q3, .int 0, .ref q4, .int 0, .int 0, .ref q5, .int 0, .long 0, .long 1, .ref q6, .ref q7, .ref q8, .ref q9, .null, .null, .int 0, .int 0, .int 0, .null, .null, .null, .null, .int 0, .int 0, .int 0, .null, .int 0])), (q0, .inl (cA 0, 160, .inl (kf (-9) 0))), (q1, .inl (cA 0, 40, .inl (fun _ => 0))), (q2, .inl (cA 0, 4, .inl (kf 1 0))), (q3, .inl (cA 0, 24, .inl (fun _ => 0))), (q4, .inl (cA 0, 60, .inl (kg 60))), (q5, .inl (cA 0, 3, .inl (fun _ => 0))), (q6, .inl (cA 1, 101, .inl (fun _ => 0))), (q7, .inl (cA 0, 10, .inl (fun _ => 0))), (q8, .inl (cA 0, 10, .inl (fun _ => 0))), (q9, .inl (cA 0, 10, .inl (fun _ => 0)))] (10, 422)
  refine ki_al0 (a := h0) X dX11_init_422 (by simp) ?_
  refine ki_bipush (x := 10) X dX11_init_423 (by decide) ?_
  refine ki_newa (atype := .int) (ty := .int) (t := 0) (N := 10) (a0 := (10, .inl (fun _ => 0))) X wx_arI rfl (fun _ => rfl) (fun _ _ h9 => h9) (fun _ => rfl) (by decide) (by decide) (Nat.le_of_ble_eq_true rfl) (Nat.le_of_ble_eq_true rfl) (Nat.le_of_ble_eq_true rfl) dX11_init_425 (fun q10 => ?_)
  show ki_At 2 Z 427 [(0, .ref h0)] [.ref q10, .ref h0] [(h0, .inr (9, [.ref q0, .ref q1, .ref q2, .ref q3, .int 0, .ref q4, .int 0, .int 0, .ref q5, .int 0, .long 0, .long 1, .ref q6, .ref q7, .ref q8, .ref q9, .null, .null, .int 0, .int 0, .int 0, .null, .null, .null, .null, .int 0, .int 0, .int 0, .null, .int 0])), (q0, .inl (cA 0, 160, .inl (kf (-9) 0))), (q1, .inl (cA 0, 40, .inl (fun _ => 0))), (q2, .inl (cA 0, 4, .inl (kf 1 0))), (q3, .inl (cA 0, 24, .inl (fun _ => 0))), (q4, .inl (cA 0, 60, .inl (kg 60))), (q5, .inl (cA 0, 3, .inl (fun _ => 0))), (q6, .inl (cA 1, 101, .inl (fun _ => 0))), (q7, .inl (cA 0, 10, .inl (fun _ => 0))), (q8, .inl (cA 0, 10, .inl (fun _ => 0))), (q9, .inl (cA 0, 10, .inl (fun _ => 0))), (q10, .inl (cA 0, 10, .inl (fun _ => 0)))] (11, 432)
  refine ki_putF (f := 16) (ty := (.array .int)) X hI rfl (by decide) inX11 tyX11_ok nmX11 wf_RX11_45 rfl rfl rfl rfl rfl (Nat.le_of_ble_eq_true rfl) dX11_init_427 ?_
  show ki_At 2 Z 430 [(0, .ref h0)] [] [(h0, .inr (9, [.ref q0, .ref q1, .ref q2, .ref q3, .int 0, .ref q4, .int 0, .int 0, .ref q5, .int 0, .long 0, .long 1, .ref q6, .ref q7, .ref q8, .ref q9, .ref q10, .null, .int 0, .int 0, .int 0, .null, .null, .null, .null, .int 0, .int 0, .int 0, .null, .int 0])), (q0, .inl (cA 0, 160, .inl (kf (-9) 0))), (q1, .inl (cA 0, 40, .inl (fun _ => 0))), (q2, .inl (cA 0, 4, .inl (kf 1 0))), (q3, .inl (cA 0, 24, .inl (fun _ => 0))), (q4, .inl (cA 0, 60, .inl (kg 60))), (q5, .inl (cA 0, 3, .inl (fun _ => 0))), (q6, .inl (cA 1, 101, .inl (fun _ => 0))), (q7, .inl (cA 0, 10, .inl (fun _ => 0))), (q8, .inl (cA 0, 10, .inl (fun _ => 0))), (q9, .inl (cA 0, 10, .inl (fun _ => 0))), (q10, .inl (cA 0, 10, .inl (fun _ => 0)))] (11, 432)
  refine ki_al0 (a := h0) X dX11_init_430 (by simp) ?_
  refine ki_bipush (x := 10) X dX11_init_431 (by decide) ?_
  refine ki_newa (atype := .int) (ty := .int) (t := 0) (N := 10) (a0 := (10, .inl (fun _ => 0))) X wx_arI rfl (fun _ => rfl) (fun _ _ h9 => h9) (fun _ => rfl) (by decide) (by decide) (Nat.le_of_ble_eq_true rfl) (Nat.le_of_ble_eq_true rfl) (Nat.le_of_ble_eq_true rfl) dX11_init_433 (fun q11 => ?_)
  show ki_At 2 Z 435 [(0, .ref h0)] [.ref q11, .ref h0] [(h0, .inr (9, [.ref q0, .ref q1, .ref q2, .ref q3, .int 0, .ref q4, .int 0, .int 0, .ref q5, .int 0, .long 0, .long 1, .ref q6, .ref q7, .ref q8, .ref q9, .ref q10, .null, .int 0, .int 0, .int 0, .null, .null, .null, .null, .int 0, .int 0, .int 0, .null, .int 0])), (q0, .inl (cA 0, 160, .inl (kf (-9) 0))), (q1, .inl (cA 0, 40, .inl (fun _ => 0))), (q2, .inl (cA 0, 4, .inl (kf 1 0))), (q3, .inl (cA 0, 24, .inl (fun _ => 0))), (q4, .inl (cA 0, 60, .inl (kg 60))), (q5, .inl (cA 0, 3, .inl (fun _ => 0))), (q6, .inl (cA 1, 101, .inl (fun _ => 0))), (q7, .inl (cA 0, 10, .inl (fun _ => 0))), (q8, .inl (cA 0, 10, .inl (fun _ => 0))), (q9, .inl (cA 0, 10, .inl (fun _ => 0))), (q10, .inl (cA 0, 10, .inl (fun _ => 0))), (q11, .inl (cA 0, 10, .inl (fun _ => 0)))] (12, 442)
  refine ki_putF (f := 17) (ty := (.array .int)) X hI rfl (by decide) inX11 tyX11_ok nmX11 wf_RX11_48 rfl rfl rfl rfl rfl (Nat.le_of_ble_eq_true rfl) dX11_init_435 ?_
  show ki_At 2 Z 438 [(0, .ref h0)] [] [(h0, .inr (9, [.ref q0, .ref q1, .ref q2, .ref q3, .int 0, .ref q4, .int 0, .int 0, .ref q5, .int 0, .long 0, .long 1, .ref q6, .ref q7, .ref q8, .ref q9, .ref q10, .ref q11, .int 0, .int 0, .int 0, .null, .null, .null, .null, .int 0, .int 0, .int 0, .null, .int 0])), (q0, .inl (cA 0, 160, .inl (kf (-9) 0))), (q1, .inl (cA 0, 40, .inl (fun _ => 0))), (q2, .inl (cA 0, 4, .inl (kf 1 0))), (q3, .inl (cA 0, 24, .inl (fun _ => 0))), (q4, .inl (cA 0, 60, .inl (kg 60))), (q5, .inl (cA 0, 3, .inl (fun _ => 0))), (q6, .inl (cA 1, 101, .inl (fun _ => 0))), (q7, .inl (cA 0, 10, .inl (fun _ => 0))), (q8, .inl (cA 0, 10, .inl (fun _ => 0))), (q9, .inl (cA 0, 10, .inl (fun _ => 0))), (q10, .inl (cA 0, 10, .inl (fun _ => 0))), (q11, .inl (cA 0, 10, .inl (fun _ => 0)))] (12, 442)
  refine ki_al0 (a := h0) X dX11_init_438 (by simp) ?_
  refine ki_bipush (x := 101) X dX11_init_439 (by decide) ?_
  refine ki_newa (atype := .int) (ty := .int) (t := 0) (N := 101) (a0 := (101, .inl (fun _ => 0))) X wx_arI rfl (fun _ => rfl) (fun _ _ h9 => h9) (fun _ => rfl) (by decide) (by decide) (Nat.le_of_ble_eq_true rfl) (Nat.le_of_ble_eq_true rfl) (Nat.le_of_ble_eq_true rfl) dX11_init_441 (fun q12 => ?_)
  show ki_At 2 Z 443 [(0, .ref h0)] [.ref q12, .ref h0] [(h0, .inr (9, [.ref q0, .ref q1, .ref q2, .ref q3, .int 0, .ref q4, .int 0, .int 0, .ref q5, .int 0, .long 0, .long 1, .ref q6, .ref q7, .ref q8, .ref q9, .ref q10, .ref q11, .int 0, .int 0, .int 0, .null, .null, .null, .null, .int 0, .int 0, .int 0, .null, .int 0])), (q0, .inl (cA 0, 160, .inl (kf (-9) 0))), (q1, .inl (cA 0, 40, .inl (fun _ => 0))), (q2, .inl (cA 0, 4, .inl (kf 1 0))), (q3, .inl (cA 0, 24, .inl (fun _ => 0))), (q4, .inl (cA 0, 60, .inl (kg 60))), (q5, .inl (cA 0, 3, .inl (fun _ => 0))), (q6, .inl (cA 1, 101, .inl (fun _ => 0))), (q7, .inl (cA 0, 10, .inl (fun _ => 0))), (q8, .inl (cA 0, 10, .inl (fun _ => 0))), (q9, .inl (cA 0, 10, .inl (fun _ => 0))), (q10, .inl (cA 0, 10, .inl (fun _ => 0))), (q11, .inl (cA 0, 10, .inl (fun _ => 0))), (q12, .inl (cA 0, 101, .inl (fun _ => 0)))] (13, 543)
  refine ki_putF (f := 21) (ty := (.array .int)) X hI rfl (by decide) inX11 tyX11_ok nmX11 wf_RX11_51 rfl rfl rfl rfl rfl (Nat.le_of_ble_eq_true rfl) dX11_init_443 ?_
  show ki_At 2 Z 446 [(0, .ref h0)] [] [(h0, .inr (9, [.ref q0, .ref q1, .ref q2, .ref q3, .int 0, .ref q4, .int 0, .int 0, .ref q5, .int 0, .long 0, .long 1, .ref q6, .ref q7, .ref q8, .ref q9, .ref q10, .ref q11, .int 0, .int 0, .int 0, .ref q12, .null, .null, .null, .int 0, .int 0, .int 0, .null, .int 0])), (q0, .inl (cA 0, 160, .inl (kf (-9) 0))), (q1, .inl (cA 0, 40, .inl (fun _ => 0))), (q2, .inl (cA 0, 4, .inl (kf 1 0))), (q3, .inl (cA 0, 24, .inl (fun _ => 0))), (q4, .inl (cA 0, 60, .inl (kg 60))), (q5, .inl (cA 0, 3, .inl (fun _ => 0))), (q6, .inl (cA 1, 101, .inl (fun _ => 0))), (q7, .inl (cA 0, 10, .inl (fun _ => 0))), (q8, .inl (cA 0, 10, .inl (fun _ => 0))), (q9, .inl (cA 0, 10, .inl (fun _ => 0))), (q10, .inl (cA 0, 10, .inl (fun _ => 0))), (q11, .inl (cA 0, 10, .inl (fun _ => 0))), (q12, .inl (cA 0, 101, .inl (fun _ => 0)))] (13, 543)
  refine ki_al0 (a := h0) X dX11_init_446 (by simp) ?_
  refine ki_bipush (x := 101) X dX11_init_447 (by decide) ?_
  refine ki_newa (atype := .int) (ty := .int) (t := 0) (N := 101) (a0 := (101, .inl (fun _ => 0))) X wx_arI rfl (fun _ => rfl) (fun _ _ h9 => h9) (fun _ => rfl) (by decide) (by decide) (Nat.le_of_ble_eq_true rfl) (Nat.le_of_ble_eq_true rfl) (Nat.le_of_ble_eq_true rfl) dX11_init_449 (fun q13 => ?_)
  show ki_At 2 Z 451 [(0, .ref h0)] [.ref q13, .ref h0] [(h0, .inr (9, [.ref q0, .ref q1, .ref q2, .ref q3, .int 0, .ref q4, .int 0, .int 0, .ref q5, .int 0, .long 0, .long 1, .ref q6, .ref q7, .ref q8, .ref q9, .ref q10, .ref q11, .int 0, .int 0, .int 0, .ref q12, .null, .null, .null, .int 0, .int 0, .int 0, .null, .int 0])), (q0, .inl (cA 0, 160, .inl (kf (-9) 0))), (q1, .inl (cA 0, 40, .inl (fun _ => 0))), (q2, .inl (cA 0, 4, .inl (kf 1 0))), (q3, .inl (cA 0, 24, .inl (fun _ => 0))), (q4, .inl (cA 0, 60, .inl (kg 60))), (q5, .inl (cA 0, 3, .inl (fun _ => 0))), (q6, .inl (cA 1, 101, .inl (fun _ => 0))), (q7, .inl (cA 0, 10, .inl (fun _ => 0))), (q8, .inl (cA 0, 10, .inl (fun _ => 0))), (q9, .inl (cA 0, 10, .inl (fun _ => 0))), (q10, .inl (cA 0, 10, .inl (fun _ => 0))), (q11, .inl (cA 0, 10, .inl (fun _ => 0))), (q12, .inl (cA 0, 101, .inl (fun _ => 0))), (q13, .inl (cA 0, 101, .inl (fun _ => 0)))] (14, 644)
  refine ki_putF (f := 22) (ty := (.array .int)) X hI rfl (by decide) inX11 tyX11_ok nmX11 wf_RX11_54 rfl rfl rfl rfl rfl (Nat.le_of_ble_eq_true rfl) dX11_init_451 ?_
  show ki_At 2 Z 454 [(0, .ref h0)] [] [(h0, .inr (9, [.ref q0, .ref q1, .ref q2, .ref q3, .int 0, .ref q4, .int 0, .int 0, .ref q5, .int 0, .long 0, .long 1, .ref q6, .ref q7, .ref q8, .ref q9, .ref q10, .ref q11, .int 0, .int 0, .int 0, .ref q12, .ref q13, .null, .null, .int 0, .int 0, .int 0, .null, .int 0])), (q0, .inl (cA 0, 160, .inl (kf (-9) 0))), (q1, .inl (cA 0, 40, .inl (fun _ => 0))), (q2, .inl (cA 0, 4, .inl (kf 1 0))), (q3, .inl (cA 0, 24, .inl (fun _ => 0))), (q4, .inl (cA 0, 60, .inl (kg 60))), (q5, .inl (cA 0, 3, .inl (fun _ => 0))), (q6, .inl (cA 1, 101, .inl (fun _ => 0))), (q7, .inl (cA 0, 10, .inl (fun _ => 0))), (q8, .inl (cA 0, 10, .inl (fun _ => 0))), (q9, .inl (cA 0, 10, .inl (fun _ => 0))), (q10, .inl (cA 0, 10, .inl (fun _ => 0))), (q11, .inl (cA 0, 10, .inl (fun _ => 0))), (q12, .inl (cA 0, 101, .inl (fun _ => 0))), (q13, .inl (cA 0, 101, .inl (fun _ => 0)))] (14, 644)
  refine ki_al0 (a := h0) X dX11_init_454 (by simp) ?_
  refine ki_bipush (x := 101) X dX11_init_455 (by decide) ?_
  refine ki_newa (atype := .int) (ty := .int) (t := 0) (N := 101) (a0 := (101, .inl (fun _ => 0))) X wx_arI rfl (fun _ => rfl) (fun _ _ h9 => h9) (fun _ => rfl) (by decide) (by decide) (Nat.le_of_ble_eq_true rfl) (Nat.le_of_ble_eq_true rfl) (Nat.le_of_ble_eq_true rfl) dX11_init_457 (fun q14 => ?_)
  show ki_At 2 Z 459 [(0, .ref h0)] [.ref q14, .ref h0] [(h0, .inr (9, [.ref q0, .ref q1, .ref q2, .ref q3, .int 0, .ref q4, .int 0, .int 0, .ref q5, .int 0, .long 0, .long 1, .ref q6, .ref q7, .ref q8, .ref q9, .ref q10, .ref q11, .int 0, .int 0, .int 0, .ref q12, .ref q13, .null, .null, .int 0, .int 0, .int 0, .null, .int 0])), (q0, .inl (cA 0, 160, .inl (kf (-9) 0))), (q1, .inl (cA 0, 40, .inl (fun _ => 0))), (q2, .inl (cA 0, 4, .inl (kf 1 0))), (q3, .inl (cA 0, 24, .inl (fun _ => 0))), (q4, .inl (cA 0, 60, .inl (kg 60))), (q5, .inl (cA 0, 3, .inl (fun _ => 0))), (q6, .inl (cA 1, 101, .inl (fun _ => 0))), (q7, .inl (cA 0, 10, .inl (fun _ => 0))), (q8, .inl (cA 0, 10, .inl (fun _ => 0))), (q9, .inl (cA 0, 10, .inl (fun _ => 0))), (q10, .inl (cA 0, 10, .inl (fun _ => 0))), (q11, .inl (cA 0, 10, .inl (fun _ => 0))), (q12, .inl (cA 0, 101, .inl (fun _ => 0))), (q13, .inl (cA 0, 101, .inl (fun _ => 0))), (q14, .inl (cA 0, 101, .inl (fun _ => 0)))] (15, 745)
  refine ki_putF (f := 23) (ty := (.array .int)) X hI rfl (by decide) inX11 tyX11_ok nmX11 wf_RX11_57 rfl rfl rfl rfl rfl (Nat.le_of_ble_eq_true rfl) dX11_init_459 ?_
  show ki_At 2 Z 462 [(0, .ref h0)] [] [(h0, .inr (9, [.ref q0, .ref q1, .ref q2, .ref q3, .int 0, .ref q4, .int 0, .int 0, .ref q5, .int 0, .long 0, .long 1, .ref q6, .ref q7, .ref q8, .ref q9, .ref q10, .ref q11, .int 0, .int 0, .int 0, .ref q12, .ref q13, .ref q14, .null, .int 0, .int 0, .int 0, .null, .int 0])), (q0, .inl (cA 0, 160, .inl (kf (-9) 0))), (q1, .inl (cA 0, 40, .inl (fun _ => 0))), (q2, .inl (cA 0, 4, .inl (kf 1 0))), (q3, .inl (cA 0, 24, .inl (fun _ => 0))), (q4, .inl (cA 0, 60, .inl (kg 60))), (q5, .inl (cA 0, 3, .inl (fun _ => 0))), (q6, .inl (cA 1, 101, .inl (fun _ => 0))), (q7, .inl (cA 0, 10, .inl (fun _ => 0))), (q8, .inl (cA 0, 10, .inl (fun _ => 0))), (q9, .inl (cA 0, 10, .inl (fun _ => 0))), (q10, .inl (cA 0, 10, .inl (fun _ => 0))), (q11, .inl (cA 0, 10, .inl (fun _ => 0))), (q12, .inl (cA 0, 101, .inl (fun _ => 0))), (q13, .inl (cA 0, 101, .inl (fun _ => 0))), (q14, .inl (cA 0, 101, .inl (fun _ => 0)))] (15, 745)
  refine ki_al0 (a := h0) X dX11_init_462 (by simp) ?_
  refine ki_bipush (x := 101) X dX11_init_463 (by decide) ?_
  refine ki_newa (atype := .int) (ty := .int) (t := 0) (N := 101) (a0 := (101, .inl (fun _ => 0))) X wx_arI rfl (fun _ => rfl) (fun _ _ h9 => h9) (fun _ => rfl) (by decide) (by decide) (Nat.le_of_ble_eq_true rfl) (Nat.le_of_ble_eq_true rfl) (Nat.le_of_ble_eq_true rfl) dX11_init_465 (fun q15 => ?_)
  show ki_At 2 Z 467 [(0, .ref h0)] [.ref q15, .ref h0] [(h0, .inr (9, [.ref q0, .ref q1, .ref q2, .ref q3, .int 0, .ref q4, .int 0, .int 0, .ref q5, .int 0, .long 0, .long 1, .ref q6, .ref q7, .ref q8, .ref q9, .ref q10, .ref q11, .int 0, .int 0, .int 0, .ref q12, .ref q13, .ref q14, .null, .int 0, .int 0, .int 0, .null, .int 0])), (q0, .inl (cA 0, 160, .inl (kf (-9) 0))), (q1, .inl (cA 0, 40, .inl (fun _ => 0))), (q2, .inl (cA 0, 4, .inl (kf 1 0))), (q3, .inl (cA 0, 24, .inl (fun _ => 0))), (q4, .inl (cA 0, 60, .inl (kg 60))), (q5, .inl (cA 0, 3, .inl (fun _ => 0))), (q6, .inl (cA 1, 101, .inl (fun _ => 0))), (q7, .inl (cA 0, 10, .inl (fun _ => 0))), (q8, .inl (cA 0, 10, .inl (fun _ => 0))), (q9, .inl (cA 0, 10, .inl (fun _ => 0))), (q10, .inl (cA 0, 10, .inl (fun _ => 0))), (q11, .inl (cA 0, 10, .inl (fun _ => 0))), (q12, .inl (cA 0, 101, .inl (fun _ => 0))), (q13, .inl (cA 0, 101, .inl (fun _ => 0))), (q14, .inl (cA 0, 101, .inl (fun _ => 0))), (q15, .inl (cA 0, 101, .inl (fun _ => 0)))] (16, 846)
  refine ki_putF (f := 24) (ty := (.array .int)) X hI rfl (by decide) inX11 tyX11_ok nmX11 wf_RX11_60 rfl rfl rfl rfl rfl (Nat.le_of_ble_eq_true rfl) dX11_init_467 ?_
  show ki_At 2 Z 470 [(0, .ref h0)] [] [(h0, .inr (9, [.ref q0, .ref q1, .ref q2, .ref q3, .int 0, .ref q4, .int 0, .int 0, .ref q5, .int 0, .long 0, .long 1, .ref q6, .ref q7, .ref q8, .ref q9, .ref q10, .ref q11, .int 0, .int 0, .int 0, .ref q12, .ref q13, .ref q14, .ref q15, .int 0, .int 0, .int 0, .null, .int 0])), (q0, .inl (cA 0, 160, .inl (kf (-9) 0))), (q1, .inl (cA 0, 40, .inl (fun _ => 0))), (q2, .inl (cA 0, 4, .inl (kf 1 0))), (q3, .inl (cA 0, 24, .inl (fun _ => 0))), (q4, .inl (cA 0, 60, .inl (kg 60))), (q5, .inl (cA 0, 3, .inl (fun _ => 0))), (q6, .inl (cA 1, 101, .inl (fun _ => 0))), (q7, .inl (cA 0, 10, .inl (fun _ => 0))), (q8, .inl (cA 0, 10, .inl (fun _ => 0))), (q9, .inl (cA 0, 10, .inl (fun _ => 0))), (q10, .inl (cA 0, 10, .inl (fun _ => 0))), (q11, .inl (cA 0, 10, .inl (fun _ => 0))), (q12, .inl (cA 0, 101, .inl (fun _ => 0))), (q13, .inl (cA 0, 101, .inl (fun _ => 0))), (q14, .inl (cA 0, 101, .inl (fun _ => 0))), (q15, .inl (cA 0, 101, .inl (fun _ => 0)))] (16, 846)
  refine ki_al0 (a := h0) X dX11_init_470 (by simp) ?_
  refine ki_bipush (x := 100) X dX11_init_471 (by decide) ?_
  refine ki_newa (atype := .int) (ty := .int) (t := 0) (N := 100) (a0 := (100, .inl (fun _ => 0))) X wx_arI rfl (fun _ => rfl) (fun _ _ h9 => h9) (fun _ => rfl) (by decide) (by decide) (Nat.le_of_ble_eq_true rfl) (Nat.le_of_ble_eq_true rfl) (Nat.le_of_ble_eq_true rfl) dX11_init_473 (fun q16 => ?_)
  show ki_At 2 Z 475 [(0, .ref h0)] [.ref q16, .ref h0] [(h0, .inr (9, [.ref q0, .ref q1, .ref q2, .ref q3, .int 0, .ref q4, .int 0, .int 0, .ref q5, .int 0, .long 0, .long 1, .ref q6, .ref q7, .ref q8, .ref q9, .ref q10, .ref q11, .int 0, .int 0, .int 0, .ref q12, .ref q13, .ref q14, .ref q15, .int 0, .int 0, .int 0, .null, .int 0])), (q0, .inl (cA 0, 160, .inl (kf (-9) 0))), (q1, .inl (cA 0, 40, .inl (fun _ => 0))), (q2, .inl (cA 0, 4, .inl (kf 1 0))), (q3, .inl (cA 0, 24, .inl (fun _ => 0))), (q4, .inl (cA 0, 60, .inl (kg 60))), (q5, .inl (cA 0, 3, .inl (fun _ => 0))), (q6, .inl (cA 1, 101, .inl (fun _ => 0))), (q7, .inl (cA 0, 10, .inl (fun _ => 0))), (q8, .inl (cA 0, 10, .inl (fun _ => 0))), (q9, .inl (cA 0, 10, .inl (fun _ => 0))), (q10, .inl (cA 0, 10, .inl (fun _ => 0))), (q11, .inl (cA 0, 10, .inl (fun _ => 0))), (q12, .inl (cA 0, 101, .inl (fun _ => 0))), (q13, .inl (cA 0, 101, .inl (fun _ => 0))), (q14, .inl (cA 0, 101, .inl (fun _ => 0))), (q15, .inl (cA 0, 101, .inl (fun _ => 0))), (q16, .inl (cA 0, 100, .inl (fun _ => 0)))] (17, 946)
  refine ki_putF (f := 28) (ty := (.array .int)) X hI rfl (by decide) inX11 tyX11_ok nmX11 wf_RX11_63 rfl rfl rfl rfl rfl (Nat.le_of_ble_eq_true rfl) dX11_init_475 ?_
  show ki_At 2 Z 478 [(0, .ref h0)] [] [(h0, .inr (9, [.ref q0, .ref q1, .ref q2, .ref q3, .int 0, .ref q4, .int 0, .int 0, .ref q5, .int 0, .long 0, .long 1, .ref q6, .ref q7, .ref q8, .ref q9, .ref q10, .ref q11, .int 0, .int 0, .int 0, .ref q12, .ref q13, .ref q14, .ref q15, .int 0, .int 0, .int 0, .ref q16, .int 0])), (q0, .inl (cA 0, 160, .inl (kf (-9) 0))), (q1, .inl (cA 0, 40, .inl (fun _ => 0))), (q2, .inl (cA 0, 4, .inl (kf 1 0))), (q3, .inl (cA 0, 24, .inl (fun _ => 0))), (q4, .inl (cA 0, 60, .inl (kg 60))), (q5, .inl (cA 0, 3, .inl (fun _ => 0))), (q6, .inl (cA 1, 101, .inl (fun _ => 0))), (q7, .inl (cA 0, 10, .inl (fun _ => 0))), (q8, .inl (cA 0, 10, .inl (fun _ => 0))), (q9, .inl (cA 0, 10, .inl (fun _ => 0))), (q10, .inl (cA 0, 10, .inl (fun _ => 0))), (q11, .inl (cA 0, 10, .inl (fun _ => 0))), (q12, .inl (cA 0, 101, .inl (fun _ => 0))), (q13, .inl (cA 0, 101, .inl (fun _ => 0))), (q14, .inl (cA 0, 101, .inl (fun _ => 0))), (q15, .inl (cA 0, 101, .inl (fun _ => 0))), (q16, .inl (cA 0, 100, .inl (fun _ => 0)))] (17, 946)
  have loop2 : ∀ d j, j + d = 4 → ki_At 2 Z 503 [(1, .int (nI j)), (0, .ref h0)] [] [(h0, .inr (9, [.ref q0, .ref q1, .ref q2, .ref q3, .int 0, .ref q4, .int 0, .int 0, .ref q5, .int 0, .long 0, .long 1, .ref q6, .ref q7, .ref q8, .ref q9, .ref q10, .ref q11, .int 0, .int 0, .int 0, .ref q12, .ref q13, .ref q14, .ref q15, .int 0, .int 0, .int 0, .ref q16, .int 0])), (q0, .inl (cA 0, 160, .inl (kf (-9) 160))), (q1, .inl (cA 0, 40, .inl (fun _ => 0))), (q2, .inl (cA 0, 4, .inl (kf 1 j))), (q3, .inl (cA 0, 24, .inl (fun _ => 0))), (q4, .inl (cA 0, 60, .inl (kg 60))), (q5, .inl (cA 0, 3, .inl (fun _ => 0))), (q6, .inl (cA 1, 101, .inl (fun _ => 0))), (q7, .inl (cA 0, 10, .inl (fun _ => 0))), (q8, .inl (cA 0, 10, .inl (fun _ => 0))), (q9, .inl (cA 0, 10, .inl (fun _ => 0))), (q10, .inl (cA 0, 10, .inl (fun _ => 0))), (q11, .inl (cA 0, 10, .inl (fun _ => 0))), (q12, .inl (cA 0, 101, .inl (fun _ => 0))), (q13, .inl (cA 0, 101, .inl (fun _ => 0))), (q14, .inl (cA 0, 101, .inl (fun _ => 0))), (q15, .inl (cA 0, 101, .inl (fun _ => 0))), (q16, .inl (cA 0, 100, .inl (fun _ => 0)))] (17, 946) := by
    intro d
    induction d with
    | zero =>
      intro j hj
      have e : j = 4 := by omega
      subst e
      refine ki_il1 (x := nI 4) X dX11_init_503 (by simp) (ki_iconst (x := nI 4) X dX11_init_504 (by decide) (ki_icmpge (tgt := 521) X dX11_init_505 (by decide) (fun _ => ?_) (fun z => absurd (nI_le (Nat.le_refl 4) (by decide)) z)))
      exact hr _ _ [q0, q1, q2, q3, q4, q5, q6, q7, q8, q9, q10, q11, q12, q13, q14, q15, q16] dX11_init_521
    | succ d ih =>
      intro j hj
      refine ki_il1 (x := nI j) X dX11_init_503 (by simp) (ki_iconst (x := nI 4) X dX11_init_504 (by decide) (ki_icmpge (tgt := 521) X dX11_init_505 (by decide) (fun z => absurd z (nI_ge (show j < 4 by omega) (by decide))) (fun _ => ?_)))
      refine ki_al0 (a := h0) X dX11_init_508 (by simp) ?_
      refine ki_get (f := 2) X rfl (by decide) inX11 wf_RX11_16 rfl dX11_init_509 ?_
      refine ki_il1 (x := nI j) X dX11_init_512 (by simp) (ki_iconst (x := 1) X dX11_init_513 (by decide) (ki_astF (j := 3) (k := j) X rfl rfl (by omega) (by decide) dX11_init_514 ?_))
      refine ki_ii1 (y := nI (j + 1)) X dX11_init_515 (by decide) rfl (nI_succ j).symm rfl (ki_goto (tgt := 503) X dX11_init_518 (by decide) ?_)
      exact ih (j + 1) (by omega)
  have loop1 : ∀ d j, j + d = 160 → ki_At 2 Z 480 [(1, .int (nI j)), (0, .ref h0)] [] [(h0, .inr (9, [.ref q0, .ref q1, .ref q2, .ref q3, .int 0, .ref q4, .int 0, .int 0, .ref q5, .int 0, .long 0, .long 1, .ref q6, .ref q7, .ref q8, .ref q9, .ref q10, .ref q11, .int 0, .int 0, .int 0, .ref q12, .ref q13, .ref q14, .ref q15, .int 0, .int 0, .int 0, .ref q16, .int 0])), (q0, .inl (cA 0, 160, .inl (kf (-9) j))), (q1, .inl (cA 0, 40, .inl (fun _ => 0))), (q2, .inl (cA 0, 4, .inl (kf 1 0))), (q3, .inl (cA 0, 24, .inl (fun _ => 0))), (q4, .inl (cA 0, 60, .inl (kg 60))), (q5, .inl (cA 0, 3, .inl (fun _ => 0))), (q6, .inl (cA 1, 101, .inl (fun _ => 0))), (q7, .inl (cA 0, 10, .inl (fun _ => 0))), (q8, .inl (cA 0, 10, .inl (fun _ => 0))), (q9, .inl (cA 0, 10, .inl (fun _ => 0))), (q10, .inl (cA 0, 10, .inl (fun _ => 0))), (q11, .inl (cA 0, 10, .inl (fun _ => 0))), (q12, .inl (cA 0, 101, .inl (fun _ => 0))), (q13, .inl (cA 0, 101, .inl (fun _ => 0))), (q14, .inl (cA 0, 101, .inl (fun _ => 0))), (q15, .inl (cA 0, 101, .inl (fun _ => 0))), (q16, .inl (cA 0, 100, .inl (fun _ => 0)))] (17, 946) := by
    intro d
    induction d with
    | zero =>
      intro j hj
      have e : j = 160 := by omega
      subst e
      refine ki_il1 (x := nI 160) X dX11_init_480 (by simp) (ki_sipush (x := nI 160) X dX11_init_481 (by decide) (ki_icmpge (tgt := 501) X dX11_init_484 (by decide) (fun _ => ?_) (fun z => absurd (nI_le (Nat.le_refl 160) (by decide)) z)))
      exact ki_iconst (x := nI 0) X dX11_init_501 (by decide) (ki_is1 X dX11_init_502 (by decide) rfl (loop2 4 0 rfl))
    | succ d ih =>
      intro j hj
      refine ki_il1 (x := nI j) X dX11_init_480 (by simp) (ki_sipush (x := nI 160) X dX11_init_481 (by decide) (ki_icmpge (tgt := 501) X dX11_init_484 (by decide) (fun z => absurd z (nI_ge (show j < 160 by omega) (by decide))) (fun _ => ?_)))
      refine ki_al0 (a := h0) X dX11_init_487 (by simp) ?_
      refine ki_get (f := 0) X rfl (by decide) inX11 wf_RX11_7 rfl dX11_init_488 ?_
      refine ki_il1 (x := nI j) X dX11_init_491 (by simp) (ki_bipush (x := -9) X dX11_init_492 (by decide) (ki_astF (j := 1) (k := j) X rfl rfl (by omega) (by decide) dX11_init_494 ?_))
      refine ki_ii1 (y := nI (j + 1)) X dX11_init_495 (by decide) rfl (nI_succ j).symm rfl (ki_goto (tgt := 480) X dX11_init_498 (by decide) ?_)
      exact ih (j + 1) (by omega)
  exact ki_iconst (x := nI 0) X dX11_init_478 (by decide) (ki_is1 X dX11_init_479 (by decide) rfl (loop1 160 0 rfl))
