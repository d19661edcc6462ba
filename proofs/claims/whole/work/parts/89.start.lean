/-! the start: what the Statement gives of constants, statics and texts -/
theorem tw_1 {w : Cond} (i : Nat) (h : tables_1_1[i]? = some w) : w ∈ lw_tbl := List.mem_append_right _ (List.mem_append_left _ (List.mem_of_getElem? h))
theorem tw_2 {w : Cond} (i : Nat) (h : tables_1_2[i]? = some w) : w ∈ lw_tbl := List.mem_append_right _ (List.mem_append_right _ (List.mem_append_left _ (List.mem_of_getElem? h)))
theorem tw_5 {w : Cond} (i : Nat) (h : tables_1_5[i]? = some w) : w ∈ lw_tbl := List.mem_append_right _ (List.mem_append_right _ (List.mem_append_right _ (List.mem_append_right _ (List.mem_append_right _ (List.mem_of_getElem? h)))))
def sg_f : List Cond := flatC (Jvm.Cond.and given_1 narrow_1)
def sg_r (i : Nat) : Term := .static "ToldChances$Rule" (["SQUARE", "LINE", "EDGE", "CUBE"].getD i "") "LToldChances$Rule;"
def sg_c (i : Nat) : Term := .static "ToldChances$Command" (["TELL", "DROP", "YES", "NO", "OPEN", "WEIGH"].getD i "") "LToldChances$Command;"
def sg_s (i : Nat) : Term := .string (["ToldChances$Rule", "ToldChances$Rule", "ToldChances$Rule", "ToldChances$Rule"].getD i "ToldChances$Command") ([46, 52, 55, 58, 61, 67, 70, 73, 76, 79].getD i 0)
theorem sg_1 : ∀ i, i < 4 → Cond.exactly (sg_r i) "ToldChances$Rule" ∈ sg_f := by decide +kernel
theorem sg_2 : ∀ i, i < 6 → Cond.exactly (sg_c i) "ToldChances$Command" ∈ sg_f := by decide +kernel
theorem sg_3 : ∀ i, i < 10 → Cond.exactly (sg_s i) "java/lang/String" ∈ sg_f := by decide +kernel
theorem sg_4 : ∀ i, i < 10 → Cond.eq (.field (sg_s i) "java/lang/String" "coder" "B") (.int 0) ∈ sg_f := by decide +kernel
theorem sg_5 : ∀ i, i < 10 → Cond.arrayOf (.field (sg_s i) "java/lang/String" "value" "[B") .byte ∈ sg_f := by decide +kernel
theorem sg_6 : ∀ i, i < 10 → Cond.eq (.length (.field (sg_s i) "java/lang/String" "value" "[B")) (.int (Int32.ofNat (tc_len.getD i 0))) ∈ sg_f := by decide +kernel
theorem sg_7 : ∀ i, i < 10 → ∀ j, j < tc_len.getD i 0 → Cond.eq (.elem (.field (sg_s i) "java/lang/String" "value" "[B") (.int (Int32.ofNat j))) (.int ((tc_byt.getD i []).getD j 0)) ∈ sg_f := by decide +kernel
theorem sg_8 : ∀ i, i < 10 → ∀ j, j < 10 → i ≠ j → Cond.not (Cond.eq (sg_s i) (sg_s j)) ∈ sg_f ∨ Cond.not (Cond.eq (sg_s j) (sg_s i)) ∈ sg_f := by decide +kernel
theorem sg_9 : ∀ i, i < 4 → ∀ j, j < 4 → i ≠ j → Cond.not (Cond.eq (sg_r i) (sg_r j)) ∈ sg_f ∨ Cond.not (Cond.eq (sg_r j) (sg_r i)) ∈ sg_f := by decide +kernel
theorem sg_10 : ∀ i, i < 6 → ∀ j, j < 6 → i ≠ j → Cond.not (Cond.eq (sg_c i) (sg_c j)) ∈ sg_f ∨ Cond.not (Cond.eq (sg_c j) (sg_c i)) ∈ sg_f := by decide +kernel
theorem sg_11 : ∀ i, i < 4 → Cond.eq (.field (sg_r i) "ToldChances$Rule" "number" "I") (.int (nI i)) ∈ sg_f := by decide +kernel
theorem sg_12 : ∀ i, i < 4 → Cond.eq (.field (sg_r i) "ToldChances$Rule" "word" "Ljava/lang/String;") (sg_s i) ∈ sg_f := by decide +kernel
theorem sg_13 : ∀ i, i < 6 → Cond.eq (.field (sg_c i) "ToldChances$Command" "word" "Ljava/lang/String;") (sg_s (4 + i)) ∈ sg_f := by decide +kernel
theorem sg_14 : ∀ i, i < 6 → Cond.eq (.field (sg_c i) "ToldChances$Command" "numbers" "I") (.int ([3, 2, 1, 1, 1, 2].getD i 0)) ∈ sg_f := by decide +kernel
theorem sg_15 : ∀ i, i < 6 → Cond.eq (.field (sg_c i) "ToldChances$Command" "first" "I") (.int ([3, 3, 39, 39, 39, 3].getD i 0)) ∈ sg_f := by decide +kernel
theorem sg_16 : ∀ i, i < 6 → Cond.eq (.field (sg_c i) "ToldChances$Command" "second" "I") (.int ([39, 39, 0, 0, 0, 9].getD i 0)) ∈ sg_f := by decide +kernel
theorem sg_17 : ∀ i, i < 6 → Cond.eq (.field (sg_c i) "ToldChances$Command" "third" "I") (.int ([100, 0, 0, 0, 0, 0].getD i 0)) ∈ sg_f := by decide +kernel
theorem sg_18 : Cond.arrayOf (.static "ToldChances" "RULES" "[LToldChances$Rule;") (.object "ToldChances$Rule") ∈ sg_f ∧ Cond.eq (.length (.static "ToldChances" "RULES" "[LToldChances$Rule;")) (.int (Int32.ofNat 4)) ∈ sg_f ∧ ∀ j, j < 4 → Cond.eq (.elem (.static "ToldChances" "RULES" "[LToldChances$Rule;") (.int (Int32.ofNat j))) (sg_r j) ∈ sg_f := by decide +kernel
theorem sg_19 : Cond.arrayOf (.static "ToldChances" "COMMANDS" "[LToldChances$Command;") (.object "ToldChances$Command") ∈ sg_f ∧ Cond.eq (.length (.static "ToldChances" "COMMANDS" "[LToldChances$Command;")) (.int (Int32.ofNat 6)) ∈ sg_f ∧ ∀ j, j < 6 → Cond.eq (.elem (.static "ToldChances" "COMMANDS" "[LToldChances$Command;") (.int (Int32.ofNat j))) (sg_c j) ∈ sg_f := by decide +kernel
theorem sg_20 : Cond.eq (.static "java/lang/String" "COMPACT_STRINGS" "Z") (.int 1) ∈ sg_f ∧ Cond.isRef (.static "jdk/internal/util/Preconditions" "SIOOBE_FORMATTER" "Ljava/util/function/BiFunction;") ∈ sg_f := by decide +kernel
/-- n constants, each of the class nm: where they lie -/
theorem sg_at {args : Array Value} {s : State} {A : Nat → Prop} {nm : String} {N : Nat} (tm : Nat → Term) (h : ∀ i, i < N → (Cond.exactly (tm i) nm).before args s = true) (hA : ∀ a : Nat, a < s.heap.size → ¬ A a) : ∃ r : Nat → Nat, ∀ i, i < N → (tm i).eval args s none [] s = some (.ref (r i)) ∧ va_O nm (r i) A s s.heap := by
  have h0 : ∀ i : Nat, ∃ a : Nat, i < N → (tm i).eval args s none [] s = some (.ref a) ∧ va_O nm a A s s.heap := by
    intro i
    by_cases hi : i < N
    · obtain ⟨a, c, cA, kA, q1, -⟩ := Cond.exactly_spec (args := args) (first := s) (o := none) (s := s) (idx := []) (t := tm i) (cls := nm) (h i hi)
      exact ⟨a, fun _ => ⟨q1, va_Oof (h i hi) q1 hA⟩⟩
    · exact ⟨0, fun z => absurd z hi⟩
  exact ⟨fun i => (h0 i).choose, fun i hi => (h0 i).choose_spec hi⟩
theorem sg_ne {args : Array Value} {s : State} {N : Nat} {tm : Nat → Term} {r : Nat → Nat} (hs : ∀ c ∈ sg_f, c.before args s = true) (hr : ∀ i, i < N → (tm i).eval args s none [] s = some (.ref (r i))) (h : ∀ i, i < N → ∀ j, j < N → i ≠ j → Cond.not (Cond.eq (tm i) (tm j)) ∈ sg_f ∨ Cond.not (Cond.eq (tm j) (tm i)) ∈ sg_f) : ∀ i j, i < N → j < N → r i = r j → i = j := by
  intro i j hi hj e
  by_cases hij : i = j
  · exact hij
  · rcases h i hi j hj hij with g | g
    · exact absurd e (va_neR (hs _ g) (hr i hi) (hr j hj))
    · exact absurd e.symm (va_neR (hs _ g) (hr j hj) (hr i hi))
set_option maxRecDepth 100000 in
set_option maxHeartbeats 4000000 in
theorem sg_St {s : State} {args : Array Value} {A : Nat → Prop} (hts : ∀ w ∈ lw_tbl, w.before args s = true) (hgv : (Jvm.Cond.and given_1 narrow_1).before args s = true) (hA : ∀ a : Nat, a < s.heap.size → ¬ A a) : ∃ r1 r2 r3 r4 r6 : Nat → Nat, ∀ ad : Nat → Nat → Nat, ad 1 = r1 → ad 2 = r2 → ad 3 = r3 → ad 4 = r4 → ad 6 = r6 → tc_St ad A s s.heap := by
  have hs : ∀ c ∈ sg_f, c.before args s = true := flat_of_before _ hgv
  obtain ⟨r1, h1⟩ := sg_at (A := A) (nm := "ToldChances$Rule") (N := 4) sg_r (fun i hi => hs _ (sg_1 i hi)) hA
  obtain ⟨r2, h2⟩ := sg_at (A := A) (nm := "ToldChances$Command") (N := 6) sg_c (fun i hi => hs _ (sg_2 i hi)) hA
  obtain ⟨r3, r6, h3, e3⟩ := vk_Sof (N := 10) (tm := sg_s) (len := tc_len) (byt := tc_byt) (A := A) (by decide) (fun i hi => hs _ (sg_3 i hi)) (fun i hi => hs _ (sg_4 i hi)) (fun i hi => hs _ (sg_5 i hi)) (fun i hi => hs _ (sg_6 i hi)) (fun i hi j hj => hs _ (sg_7 i hi j hj)) (fun i j hi hj hij => (sg_8 i hi j hj hij).elim (fun g => Or.inl (hs _ g)) (fun g => Or.inr (hs _ g))) hA
  obtain ⟨t0, e0, h40⟩ := va_Tof (A := A) (N := 4) (f := fun j => .ref (r1 j)) (by decide) (hs _ sg_18.1) (va_eqt (hs _ sg_18.2.1)) (fun j hj => va_eqv (hs _ (sg_18.2.2 j hj)) (h1 j hj).1) hA
  obtain ⟨t1, e1, h41⟩ := va_Tof (A := A) (N := 6) (f := fun j => .ref (r2 j)) (by decide) (hs _ sg_19.1) (va_eqt (hs _ sg_19.2.1)) (fun j hj => va_eqv (hs _ (sg_19.2.2 j hj)) (h2 j hj).1) hA
  refine ⟨r1, r2, r3, fun i => if i = 0 then t0 else t1, r6, fun ad a1 a2 a3 a4 a6 => ?_⟩
  have a40 : ad 4 0 = t0 := congrFun a4 0
  have a41 : ad 4 1 = t1 := congrFun a4 1
  subst a1 a2 a3 a6 a40 a41
  have rr : ∀ i, i < 4 → (sg_r i).eval args s none [] s = some (.ref (ad 1 i)) := fun i hi => (h1 i hi).1
  have rc : ∀ i, i < 6 → (sg_c i).eval args s none [] s = some (.ref (ad 2 i)) := fun i hi => (h2 i hi).1
  refine ⟨?_, fun i hi => (h1 i hi).2, fun i hi => (h2 i hi).2, h3, ?_, h40, h41, sg_ne hs rr sg_9, sg_ne hs rc sg_10, va_Zqof (hts _ (tw_2 131 (by decide +kernel))) (hts _ (tw_1 15 (by decide +kernel))) (hs _ sg_20.2) hA⟩
  · have i8 := hts _ (tw_1 (w := Cond.initialized "ToldChances$Rule") 11 (by decide +kernel))
    have i3 := hts _ (tw_1 (w := Cond.initialized "ToldChances$Command") 17 (by decide +kernel))
    have i10 := hts _ (tw_1 (w := Cond.initialized "ToldChances") 1 (by decide +kernel))
    have z0 : va_Z "ToldChances$Rule" "SQUARE" "LToldChances$Rule;" (.ref (ad 1 0)) A s s.heap := va_Zof (hts _ (tw_1 203 (by decide +kernel))) i8 (rr 0 (by decide)) hA
    have z1 : va_Z "ToldChances$Rule" "LINE" "LToldChances$Rule;" (.ref (ad 1 1)) A s s.heap := va_Zof (hts _ (tw_2 208 (by decide +kernel))) i8 (rr 1 (by decide)) hA
    have z2 : va_Z "ToldChances$Rule" "EDGE" "LToldChances$Rule;" (.ref (ad 1 2)) A s s.heap := va_Zof (hts _ (tw_5 170 (by decide +kernel))) i8 (rr 2 (by decide)) hA
    have z3 : va_Z "ToldChances$Rule" "CUBE" "LToldChances$Rule;" (.ref (ad 1 3)) A s s.heap := va_Zof (hts _ (tw_2 210 (by decide +kernel))) i8 (rr 3 (by decide)) hA
    have y0 : va_Z "ToldChances$Command" "TELL" "LToldChances$Command;" (.ref (ad 2 0)) A s s.heap := va_Zof (hts _ (tw_2 169 (by decide +kernel))) i3 (rc 0 (by decide)) hA
    have y1 : va_Z "ToldChances$Command" "DROP" "LToldChances$Command;" (.ref (ad 2 1)) A s s.heap := va_Zof (hts _ (tw_2 172 (by decide +kernel))) i3 (rc 1 (by decide)) hA
    have y2 : va_Z "ToldChances$Command" "YES" "LToldChances$Command;" (.ref (ad 2 2)) A s s.heap := va_Zof (hts _ (tw_2 175 (by decide +kernel))) i3 (rc 2 (by decide)) hA
    have y3 : va_Z "ToldChances$Command" "NO" "LToldChances$Command;" (.ref (ad 2 3)) A s s.heap := va_Zof (hts _ (tw_2 178 (by decide +kernel))) i3 (rc 3 (by decide)) hA
    have y4 : va_Z "ToldChances$Command" "OPEN" "LToldChances$Command;" (.ref (ad 2 4)) A s s.heap := va_Zof (hts _ (tw_2 181 (by decide +kernel))) i3 (rc 4 (by decide)) hA
    have y5 : va_Z "ToldChances$Command" "WEIGH" "LToldChances$Command;" (.ref (ad 2 5)) A s s.heap := va_Zof (hts _ (tw_5 164 (by decide +kernel))) i3 (rc 5 (by decide)) hA
    have x0 : va_Z "ToldChances" "RULES" "[LToldChances$Rule;" (.ref (ad 4 0)) A s s.heap := va_Zof (hts _ (tw_2 192 (by decide +kernel))) i10 e0 hA
    have x1 : va_Z "ToldChances" "COMMANDS" "[LToldChances$Command;" (.ref (ad 4 1)) A s s.heap := va_Zof (hts _ (tw_2 93 (by decide +kernel))) i10 e1 hA
    have x2 : va_Z "java/lang/String" "COMPACT_STRINGS" "Z" (.int 1) A s s.heap := va_Zof (hts _ (tw_2 111 (by decide +kernel))) (hts _ (tw_1 13 (by decide +kernel))) (va_eqi (hs _ sg_20.1)) hA
    exact List.forall_mem_cons.mpr ⟨z0, List.forall_mem_cons.mpr ⟨z1, List.forall_mem_cons.mpr ⟨z2, List.forall_mem_cons.mpr ⟨z3, List.forall_mem_cons.mpr ⟨y0, List.forall_mem_cons.mpr ⟨y1, List.forall_mem_cons.mpr ⟨y2, List.forall_mem_cons.mpr ⟨y3, List.forall_mem_cons.mpr ⟨y4, List.forall_mem_cons.mpr ⟨y5, List.forall_mem_cons.mpr ⟨x0, List.forall_mem_cons.mpr ⟨x1, List.forall_mem_cons.mpr ⟨x2, fun _ h => absurd h List.not_mem_nil⟩⟩⟩⟩⟩⟩⟩⟩⟩⟩⟩⟩⟩
  · exact List.forall_mem_cons.mpr ⟨fun i hi => vk_OFof (rr i hi) (va_eqt (hs _ (sg_11 i hi))) hA, List.forall_mem_cons.mpr ⟨fun i hi => vk_OFof (rr i hi) (va_eqv (hs _ (sg_12 i hi)) (e3 i (Nat.lt_trans hi (by decide)))) hA, List.forall_mem_cons.mpr ⟨fun i hi => vk_OFof (rc i hi) (va_eqv (hs _ (sg_13 i hi)) (e3 (4 + i) (Nat.add_lt_add_left hi 4))) hA, List.forall_mem_cons.mpr ⟨fun i hi => vk_OFof (rc i hi) (va_eqt (hs _ (sg_14 i hi))) hA, List.forall_mem_cons.mpr ⟨fun i hi => vk_OFof (rc i hi) (va_eqt (hs _ (sg_15 i hi))) hA, List.forall_mem_cons.mpr ⟨fun i hi => vk_OFof (rc i hi) (va_eqt (hs _ (sg_16 i hi))) hA, List.forall_mem_cons.mpr ⟨fun i hi => vk_OFof (rc i hi) (va_eqt (hs _ (sg_17 i hi))) hA, fun _ h => absurd h List.not_mem_nil⟩⟩⟩⟩⟩⟩⟩
/-- classes and array classes -/
theorem wq_RX10 : Cond.instantiable RX10 14 ∈ tc_tb := tc_tb1 21 (by decide +kernel) (by decide +kernel)
theorem wq_RX11 : Cond.instantiable RX11 30 ∈ tc_tb := tc_tb4 8 (by decide +kernel) (by decide +kernel)
theorem sg_arr {s : State} {args : Array Value} {ty : FieldType} (h : (Cond.arrayClass ty).before args s = true) : ∃ c : ClassId, s.vm.findClass ("[" ++ ty.toString) = some c ∧ ((∀ C, ty ≠ .object C) → ArrOfT s c ty) := by
  obtain ⟨c, k, comp, h1, h2, h3⟩ := Cond.arrayClass_spec (args := args) (first := s) (o := none) (s := s) (idx := []) h
  exact ⟨c, h1, fun hn n z => ⟨fun k h => (by cases h), k, h2, comp, h3⟩⟩
theorem sg_K {s : State} {args : Array Value} (hts : ∀ w ∈ tc_tb, w.before args s = true) : ∃ (D : va_G) (cA : Nat → ClassId), va_K D tc_cl (tc_ty cA) s := by
  obtain ⟨c0, i0, k0⟩ := u_known (n := 7) hts inX0 (hts _ wq_RX0)
  obtain ⟨c1, i1, k1⟩ := u_known (n := 3) hts inX1 (hts _ wq_RX1)
  obtain ⟨c2, i2, k2⟩ := u_known (n := 4) hts inX2 (hts _ wq_RX2)
  obtain ⟨c3, i3, k3⟩ := u_known (n := 2) hts inX4 (hts _ wq_RX4)
  obtain ⟨c4, i4, k4⟩ := u_known (n := 3) hts inX5 (hts _ wq_RX5)
  obtain ⟨c5, i5, k5⟩ := u_known (n := 2) hts inX6 (hts _ wq_RX6)
  obtain ⟨c6, i6, k6⟩ := u_known (n := 7) hts inX7 (hts _ wq_RX7)
  obtain ⟨c7, i7, k7⟩ := u_known (n := 2) hts inX9 (hts _ wq_RX9)
  obtain ⟨c8, i8, k8⟩ := u_known (n := 14) hts inX10 (hts _ wq_RX10)
  obtain ⟨c9, i9, k9⟩ := u_known (n := 30) hts inX11 (hts _ wq_RX11)
  obtain ⟨a0, n0, o0⟩ := sg_arr (hts _ wx_arI)
  obtain ⟨a1, n1, o1⟩ := sg_arr (hts _ wx_arZ)
  obtain ⟨a2, n2, o2⟩ := sg_arr (hts _ wx_arJ)
  refine ⟨(fun k => [c0, c1, c2, c3, c4, c5, c6, c7, c8].getD k c9, fun k => [i0, i1, i2, i3, i4, i5, i6, i7, i8].getD k i9), fun k => [a0, a1].getD k a2, ?_, ?_⟩
  · intro k q hq
    match k, hq with
    | 0, hq => cases hq; exact k0
    | 1, hq => cases hq; exact k1
    | 2, hq => cases hq; exact k2
    | 3, hq => cases hq; exact k3
    | 4, hq => cases hq; exact k4
    | 5, hq => cases hq; exact k5
    | 6, hq => cases hq; exact k6
    | 7, hq => cases hq; exact k7
    | 8, hq => cases hq; exact k8
    | 9, hq => cases hq; exact k9
    | k + 10, hq => simp at hq
  · intro k q hq
    match k, hq with
    | 0, hq => cases hq; exact ⟨o0 (fun _ h => by cases h), n0⟩
    | 1, hq => cases hq; exact ⟨o1 (fun _ h => by cases h), n1⟩
    | 2, hq => cases hq; exact ⟨o2 (fun _ h => by cases h), n2⟩
    | k + 3, hq => simp at hq
