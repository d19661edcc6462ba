/-! ends of methods, contracts, calls -/
section TCRET
variable {R : Room} {cc : ByteArray} {nL : Nat} {own : String} {Z : tc_Z} {pc : Nat} {k kt kf : tc_B} {q : tc_Q}
theorem tc_cell_ur {ad : Nat → Nat → Nat} {cA : Nat → ClassId} {S : tc_S} {x j : Nat} {c : tc_C} (hj : j ≠ 0) (h : tc_lay[j]? = some c) : tc_cell ad cA (tc_ur S x) j c = tc_cell ad cA S j c := by
  have h0 := tc_lay_r j c hj h
  rcases c with o | a
  · obtain ⟨ci, fs⟩ := o
    rw [tc_cell_o, tc_cell_o]
    have e : fs.mapIdx (fun k f => tc_v ad (tc_fv (tc_ur S x) j k f)) = fs.mapIdx (fun k f => tc_v ad (tc_fv S j k f)) := by
      apply List.ext_getElem?
      intro i
      rw [List.getElem?_mapIdx, List.getElem?_mapIdx]
      cases hf : fs[i]? with
      | none => rfl
      | some f =>
        have h3 : (f.1 != 3) = true := List.all_eq_true.mp h0 f (List.mem_of_getElem? hf)
        obtain ⟨f1, f2⟩ := f
        simp only [Option.map_some]
        match f1, h3 with
        | 0, _ => rfl
        | 1, _ => rfl
        | 2, _ => rfl
        | 3, h3 => cases h3
        | n + 4, _ =>
          exact absurd (List.mem_of_getElem? hf) (by
            intro hm
            have h4 : tc_lay.all (fun c => match c with
              | .inl o => o.2.all (fun f => Nat.ble f.1 3)
              | .inr _ => true) = true := by decide +kernel
            have h5 := List.all_eq_true.mp h4 _ (List.mem_of_getElem? h)
            have h6 := List.all_eq_true.mp h5 _ hm
            have h7 := Nat.le_of_ble_eq_true h6
            simp at h7)
    rw [e]
  · rfl
def tc_fs0 : List (Nat × Nat) := [(2, 1), (2, 2), (2, 3), (2, 4), (2, 5), (2, 6), (2, 7), (2, 8), (2, 9), (2, 10), (2, 11), (2, 12), (2, 13), (3, 0)]
theorem tc_lay0 : tc_lay[0]? = some (.inl (8, tc_fs0)) := rfl
theorem tc_put_r {ad : Nat → Nat → Nat} {S : tc_S} {x : Nat} : tc_fs0.mapIdx (fun k' f => tc_v ad (tc_fv (tc_ur S x) 0 k' f)) = (tc_fs0.mapIdx (fun k' f => tc_v ad (tc_fv S 0 k' f))).set 13 (.ref (ad 1 x)) := rfl
theorem to_putR {ix : Nat} (X : tc_Cx R cc nL own Z) (hin : ∀ w ∈ u_ws RX10 TX10 14, w ∈ tc_tb) (hw : Cond.fieldLink own ix "ToldChances" "current" "LToldChances$Rule;" ∈ tc_tb) (hd : decode cc pc = .ok (.putfield ix, 3)) (h : tc_Ok nL Z (pc + 3) k) : tc_Ok nL Z pc (tb_putR 8 13 k) := by
  obtain ⟨p, l, e, R', s, m, args, below, meth, c, n, Q, Ts, D, ad, cA, A⟩ := Z
  obtain ⟨rfl, ⟨hx, hb, hml, hown, hts⟩, hK, hA, hSt, hTs, hn⟩ := X
  intro L K S hb9 H locs ls hP hD hS hl
  simp only [tb_putR] at hb9
  split at hb9
  · split at hb9
    · rename_i x q r o z ht9
      obtain ⟨i, fs, rfl, h1, h2⟩ := tc_fld_spec ht9
      have hi0 : i = 0 := by
        by_cases hi : i = 0
        · exact hi
        · have h5 := tc_lay_r i _ hi h1
          have h6 := List.all_eq_true.mp h5 _ (List.mem_of_getElem? h2)
          cases h6
      subst hi0
      have hfs : fs = tc_fs0 := by
        rw [tc_lay0] at h1
        have h8 := Sum.inl.inj (Option.some.inj h1)
        exact ((Prod.mk.inj h8).2).symm
      subst hfs
      have hset : (tc_W ad cA S).set 0 (ad 0 0, .inr (8, (tc_fs0.mapIdx (fun k' f => tc_v ad (tc_fv S 0 k' f))).set 13 (.ref (ad 1 x)))) = tc_W ad cA (tc_ur S x) := tc_W_set h1 (by rw [tc_cell_o, tc_put_r]) (fun j c' hj hc => tc_cell_ur hj hc)
      refine va_put (D := D) (ci := 8) (v := .ref (ad 1 x)) (ty := .object "ToldChances$Rule") (C := RX10) (T := TX10) (N := 14) hx hb hts (fun w hw => hTs w (hin w hw)) tyX10 tyX10_ok nmX10 hown hK hP hD hS 0 (tc_W_at h1) rfl 13 (by decide) (hts _ (hTs _ hw)) (fun _ h9 => h9) rfl (by decide +kernel) rfl rfl (by rw [List.length_mapIdx]; exact (List.getElem?_eq_some_iff.mp h2).1) hd (fun H1 locs1 hP1 hD1 hS1 => ?_)
      rw [hset] at hP1 hD1
      exact h _ _ _ hb9 H1 locs1 ls hP1 hD1 hS1 hl
    · exact hb9.elim
  · exact hb9.elim
/-- what a method answers: 0 an int, 1 a boolean, 2 a long, 3 nothing, 4 a byte, 5 a char -/
def tc_ret : Nat → Option FieldType
  | 0 => some .int
  | 1 => some .boolean
  | 2 => some .long
  | 4 => some .byte
  | 5 => some .char
  | _ => none
def tc_Rt (rk : Nat) (cc : ByteArray) (nL : Nat) (Z : tc_Z) (q : tc_Q) : Prop := match rk with
  | 0 => ∀ pc L x S, q (some (.inl x)) S → decode cc pc = .ok (.ireturn, 1) → tc_At nL Z pc L [.inl x] S
  | 1 => ∀ pc L x S, q (some (.inl x)) S → narrow .boolean (.int x) = .int x → decode cc pc = .ok (.ireturn, 1) → tc_At nL Z pc L [.inl x] S
  | 2 => ∀ pc L x S, q (some (.inr (.inl x))) S → decode cc pc = .ok (.lreturn, 1) → tc_At nL Z pc L [.inr (.inl x)] S
  | 4 => ∀ pc L x S, q (some (.inl x)) S → narrow .byte (.int x) = .int x → decode cc pc = .ok (.ireturn, 1) → tc_At nL Z pc L [.inl x] S
  | 5 => ∀ pc L x S, q (some (.inl x)) S → narrow .char (.int x) = .int x → decode cc pc = .ok (.ireturn, 1) → tc_At nL Z pc L [.inl x] S
  | _ => ∀ pc L S, q none S → decode cc pc = .ok (.return_, 1) → tc_At nL Z pc L [] S
def tb_iret (q : tc_Q) : tc_B := fun _ K S => match K with
  | [.inl x] => q (some (.inl x)) S
  | _ => False
def tb_zret (q : tc_Q) : tc_B := fun _ K S => match K with
  | [.inl x] => narrow .boolean (.int x) = .int x ∧ q (some (.inl x)) S
  | _ => False
def tb_jret (q : tc_Q) : tc_B := fun _ K S => match K with
  | [.inr (.inl x)] => q (some (.inr (.inl x))) S
  | _ => False
def tb_vret (q : tc_Q) : tc_B := fun _ K S => match K with
  | [] => q none S
  | _ => False
theorem to_iret (hr : tc_Rt 0 cc nL Z q) (hd : decode cc pc = .ok (.ireturn, 1)) : tc_Ok nL Z pc (tb_iret q) := by
  intro L K S hb9
  simp only [tb_iret] at hb9
  split at hb9
  · exact hr pc L _ S hb9 hd
  · exact hb9.elim
def tb_bret (q : tc_Q) : tc_B := fun _ K S => match K with
  | [.inl x] => narrow .byte (.int x) = .int x ∧ q (some (.inl x)) S
  | _ => False
def tb_cret (q : tc_Q) : tc_B := fun _ K S => match K with
  | [.inl x] => narrow .char (.int x) = .int x ∧ q (some (.inl x)) S
  | _ => False
theorem to_bret (hr : tc_Rt 4 cc nL Z q) (hd : decode cc pc = .ok (.ireturn, 1)) : tc_Ok nL Z pc (tb_bret q) := by
  intro L K S hb9
  simp only [tb_bret] at hb9
  split at hb9
  · exact hr pc L _ S hb9.2 hb9.1 hd
  · exact hb9.elim
theorem to_cret (hr : tc_Rt 5 cc nL Z q) (hd : decode cc pc = .ok (.ireturn, 1)) : tc_Ok nL Z pc (tb_cret q) := by
  intro L K S hb9
  simp only [tb_cret] at hb9
  split at hb9
  · exact hr pc L _ S hb9.2 hb9.1 hd
  · exact hb9.elim
theorem to_zret (hr : tc_Rt 1 cc nL Z q) (hd : decode cc pc = .ok (.ireturn, 1)) : tc_Ok nL Z pc (tb_zret q) := by
  intro L K S hb9
  simp only [tb_zret] at hb9
  split at hb9
  · exact hr pc L _ S hb9.2 hb9.1 hd
  · exact hb9.elim
theorem to_jret (hr : tc_Rt 2 cc nL Z q) (hd : decode cc pc = .ok (.lreturn, 1)) : tc_Ok nL Z pc (tb_jret q) := by
  intro L K S hb9
  simp only [tb_jret] at hb9
  split at hb9
  · exact hr pc L _ S hb9 hd
  · exact hb9.elim
theorem to_vret (hr : tc_Rt 3 cc nL Z q) (hd : decode cc pc = .ok (.return_, 1)) : tc_Ok nL Z pc (tb_vret q) := by
  intro L K S hb9
  simp only [tb_vret] at hb9
  split at hb9
  · exact hr pc L S hb9 hd
  · exact hb9.elim
end TCRET
def tc_Pre (D : va_G) (ad : Nat → Nat → Nat) (cA : Nat → ClassId) (S : tc_S) (sz : Nat) (U : State) : Prop := U.heap.size = sz ∧ va_P D tc_cl (tc_W ad cA S) U.heap ∧ va_K D tc_cl (tc_ty cA) U ∧ va_D (fun _ => True) (tc_W ad cA S) ∧ tc_St ad (va_A (tc_W ad cA S) sz) U U.heap
def tc_Be (D : va_G) (ad : Nat → Nat → Nat) (cA : Nat → ClassId) (A : Nat → Prop) (u : tc_S) (t : State) : Prop := va_P D tc_cl (tc_W ad cA u) t.heap ∧ va_K D tc_cl (tc_ty cA) t ∧ va_D A (tc_W ad cA u)
def tc_Po (rk : Nat) (D : va_G) (ad : Nat → Nat → Nat) (cA : Nat → ClassId) (q : tc_Q) (A : Nat → Prop) : Array Value → State → Outcome → State → Prop := match rk with
  | 0 => va_Qi (fun r u => q (some (.inl r)) u) (tc_Be D ad cA A) A
  | 1 => va_Qi (fun r u => q (some (.inl r)) u) (tc_Be D ad cA A) A
  | 2 => va_Ql (fun r u => q (some (.inr (.inl r))) u) (tc_Be D ad cA A) A
  | 4 => va_Qi (fun r u => q (some (.inl r)) u) (tc_Be D ad cA A) A
  | 5 => va_Qi (fun r u => q (some (.inl r)) u) (tc_Be D ad cA A) A
  | _ => va_Qv (fun u => q none u) (tc_Be D ad cA A) A
/-- a method's contract: what Rm asks of its arguments and of the state is enough for q to hold of its answer and of the state behind it -/
def tc_Met (y : MethodName) (c : Cond) (rm : Room) (rk nL : Nat) (Rm : List tc_V → tc_S → tc_Q → Prop) : Prop :=
  ∀ (l : Launch) (D : va_G) (ad : Nat → Nat → Nat) (cA : Nat → ClassId) (vs : List tc_V) (S : tc_S) (q : tc_Q) (sz : Nat), (vs.map tc_cat).sum ≤ nL → Rm vs S q →
    Met l y (c :: tc_tb) rm (va_Pc (vs.map (tc_v ad)) (tc_Pre D ad cA S sz)) (tc_Po rk D ad cA q (va_A (tc_W ad cA S) sz)) 0 0 (va_A (tc_W ad cA S) sz)
theorem tc_met {y : MethodName} {cc : ByteArray} {nL rk : Nat} {rm : Room} {Rm : List tc_V → tc_S → tc_Q → Prop} (hy : plainName y.cls = true) (hrm : rm.cells = 0 ∧ rm.slots = 0) (body : ∀ (Z : tc_Z) (q : tc_Q), tc_Cx rm cc nL y.cls Z → tc_Rt rk cc nL Z q → ∀ (vs : List tc_V) (S : tc_S), Rm vs S q → tc_At nL Z 0 (tc_num 0 vs) [] S) : tc_Met y (Cond.code y cc nL (tc_ret rk)) rm rk nL Rm := by
  intro l D ad cA vs S q sz hvs hR
  refine Met.ofW (cc := cc) (maxL := nL) (ret := tc_ret rk) hy rfl ?_
  intro p e s m args below meth c s₁ B hml hv
  obtain ⟨rfl, hsz, hP, hK, hD0, hSt⟩ := hv
  subst hsz
  have hx := B.exec
  have hb := B.bytes
  have hr := B.returns
  have hts := atoms_spec (ws := Cond.code y cc nL (tc_ret rk) :: tc_tb) B.pre
  have hown : s.vm.findClass y.cls = some m.cls := findClass_of_methodNamed B.named
  have hlocks := B.notSynchronized
  have hD := hD0.self (sz := s.heap.size)
  have hA : ∀ q : Nat, s.heap.size ≤ q → va_A (tc_W ad cA S) s.heap.size q := fun q h => Or.inr h
  have hS : va_S (va_A (tc_W ad cA S) s.heap.size) s.heap s.heap [] := va_S.rf
  have hl := lv_entry (vs.map (tc_v ad)) (n := nL) (by rw [tc_sl_len]; exact hvs)
  rw [lg_entry_eq]
  rw [tc_num_c] at hl
  have X : tc_Cx rm cc nL y.cls (p, l, e, rm, s, m, (vs.map (tc_v ad)).toArray, below, meth, c, (0, 0), MQ below (tc_Po rk D ad cA q (va_A (tc_W ad cA S) s.heap.size)) (vs.map (tc_v ad)).toArray s 0 0 (va_A (tc_W ad cA S) s.heap.size), Cond.code y cc nL (tc_ret rk) :: tc_tb, D, ad, cA, va_A (tc_W ad cA S) s.heap.size) := ⟨rfl, ⟨hx, hb, hml, hown, hts⟩, hK, hA, hSt, fun w hw => List.mem_cons_of_mem _ hw, Nat.zero_le _, Nat.zero_le _⟩
  refine body _ q X ?_ vs S hR s.heap [] _ hP hD hS hl
  match rk, hr with
  | 0, hr =>
    intro pc L x S' hq hd H locs ls hP hD hS hl
    exact W.iret (v := x) hx hb hr (fun t ht hW => ⟨⟨x, S', rfl, hq, by rw [ht]; exact hP, va_K.moved hW.alike hK, hD⟩, hS.F ht⟩) hS.2.2 hd
  | 1, hr =>
    intro pc L x S' hq hz hd H locs ls hP hD hS hl
    exact W.zret (v := x) (ty := .boolean) hx hb hr hz (fun t ht hW => ⟨⟨x, S', rfl, hq, by rw [ht]; exact hP, va_K.moved hW.alike hK, hD⟩, hS.F ht⟩) hS.2.2 hd
  | 2, hr =>
    intro pc L x S' hq hd H locs ls hP hD hS hl
    exact W.lret (v := x) hx hb hr (fun t ht hW => ⟨⟨x, S', rfl, hq, by rw [ht]; exact hP, va_K.moved hW.alike hK, hD⟩, hS.F ht⟩) hS.2.2 hd
  | 4, hr =>
    intro pc L x S' hq hz hd H locs ls hP hD hS hl
    exact W.zret (v := x) (ty := .byte) hx hb hr hz (fun t ht hW => ⟨⟨x, S', rfl, hq, by rw [ht]; exact hP, va_K.moved hW.alike hK, hD⟩, hS.F ht⟩) hS.2.2 hd
  | 5, hr =>
    intro pc L x S' hq hz hd H locs ls hP hD hS hl
    exact W.zret (v := x) (ty := .char) hx hb hr hz (fun t ht hW => ⟨⟨x, S', rfl, hq, by rw [ht]; exact hP, va_K.moved hW.alike hK, hD⟩, hS.F ht⟩) hS.2.2 hd
  | 3, hr =>
    intro pc L S' hq hd H locs ls hP hD hS hl
    exact W.vret hx hb hr (fun t ht hW => ⟨⟨S', rfl, hq, by rw [ht]; exact hP, va_K.moved hW.alike hK, hD⟩, hS.F ht⟩) hS.2.2 hd
  | n + 6, hr =>
    intro pc L S' hq hd H locs ls hP hD hS hl
    exact W.vret hx hb hr (fun t ht hW => ⟨⟨S', rfl, hq, by rw [ht]; exact hP, va_K.moved hW.alike hK, hD⟩, hS.F ht⟩) hS.2.2 hd
/-! calls -/
section TCCALL
variable {R : Room} {cc : ByteArray} {nL : Nat} {own : String} {Z : tc_Z} {pc : Nat} {k : tc_B}
/-- n arguments above the receiver, an object of class ci; the callee has room for them; not too much below them -/
def tc_ckV (n nL' ci : Nat) (K : List tc_V) : Bool := match K[n]? with
  | some (.inr (.inr (0, i))) => (match tc_lay[i]? with
    | some (.inl o) => Nat.beq o.1 ci && Nat.ble ((K.take (n + 1)).reverse.map tc_cat).sum nL' && Nat.ble ((K.drop (n + 1)).map tc_cat).sum 8
    | _ => false)
  | _ => false
def tb_callV (n nL' ci : Nat) (Rm : List tc_V → tc_S → tc_Q → Prop) (k : tc_B) : tc_B := fun L K S => match tc_ckV n nL' ci K with
  | true => Rm (K.take (n + 1)).reverse S (fun r S' => k L (r.toList ++ K.drop (n + 1)) S')
  | false => False
/-- a receiver that is a constant of kind kd -/
def tc_ckE (n nL' kd : Nat) (K : List tc_V) : Option Nat := match K[n]? with
  | some (.inr (.inr q)) => (match Nat.beq q.1 kd && Nat.ble ((K.take (n + 1)).reverse.map tc_cat).sum nL' && Nat.ble ((K.drop (n + 1)).map tc_cat).sum 8 with
    | true => some q.2
    | false => none)
  | _ => none
def tb_callE (n nL' kd N : Nat) (Rm : List tc_V → tc_S → tc_Q → Prop) (k : tc_B) : tc_B := fun L K S => match tc_ckE n nL' kd K with
  | some i => i < N ∧ Rm (K.take (n + 1)).reverse S (fun r S' => k L (r.toList ++ K.drop (n + 1)) S')
  | none => False
def tc_ckS (n nL' : Nat) (K : List tc_V) : Bool := Nat.ble n K.length && Nat.ble ((K.take n).reverse.map tc_cat).sum nL' && Nat.ble ((K.drop n).map tc_cat).sum 8
def tb_callS (n nL' : Nat) (Rm : List tc_V → tc_S → tc_Q → Prop) (k : tc_B) : tc_B := fun L K S => match tc_ckS n nL' K with
  | true => Rm (K.take n).reverse S (fun r S' => k L (r.toList ++ K.drop n) S')
  | false => False
theorem tc_blind {l : Launch} {av : List Value} {D : va_G} {ad : Nat → Nat → Nat} {cA : Nat → ClassId} {S : tc_S} {sz : Nat} : FrameBlind (va_Pc av (tc_Pre D ad cA S sz)) := by
  intro a U g mk q
  obtain ⟨q0, q1, qP, qK, qD, qS⟩ := q
  exact ⟨q0, q1, qP, va_K.moved (u := U) (U := U.calling g mk a) (Vm.Alike.refl U.vm) qK, qD, tc_St.moved (u := U) (U := U.calling g mk a) (Vm.Alike.refl U.vm) qS⟩
/-- behind the call -/
theorem tc_back {p : Program} {l : Launch} {e : Env} {s : State} {m : MethodId} {args : Array Value} {below : List Frame} {meth : Method} {c : Code} {n : Nat × Nat} {Q : State → Prop} {Ts : List Cond} {D : va_G} {ad : Nat → Nat → Nat} {cA : Nat → ClassId} {A : Nat → Prop} {rk : Nat} {L : tc_L} {rest : List tc_V} {S : tc_S} {H : Heap} {locs : List Loc} {ls : Array Slot} {st0 : List Value} {a : Array Value}
    (hA : ∀ q, s.heap.size ≤ q → A q) (h : tc_Ok nL (p, l, e, R, s, m, args, below, meth, c, n, Q, Ts, D, ad, cA, A) (pc + 3) k) (hP : va_P D tc_cl (tc_W ad cA S) H) (hD : va_D A (tc_W ad cA S)) (hS : va_S A s.heap H locs) (hl : lv_has ls nL (tc_cL ad L))
    (hrun : va_Run p l e R s m args below meth c H locs n.1 n.2 0 0 (F0 m pc ls st0) (rest.map (tc_v ad)) (tc_Po rk D ad cA (fun r S' => k L (r.toList ++ rest) S') (va_A (tc_W ad cA S) H.size) a) (va_A (tc_W ad cA S) H.size)) :
    W p l e R s m args below meth c H locs n.1 n.2 Q (F0 m pc ls st0) := by
  have hF : ∀ q, va_A (tc_W ad cA S) H.size q → A q := by
    intro q hq
    rcases hq with ⟨i, e9, hi⟩ | hq
    · exact hD.2 i (q, e9) hi
    · exact hA q (Nat.le_trans hS.1 hq)
  match rk, hrun with
  | 0, hrun =>
    refine va_calli (a := a) hrun hS (fun q _ h9 => hF q h9) hF (fun r u t H1 locs1 ht hvm hw hB hz1 hk1 hS1 => ?_)
    obtain ⟨b1, b2, b3⟩ := hB
    rw [ht] at b1
    exact h _ _ _ hw H1 locs1 ls b1 (b3.weaken (fun _ _ _ h9 => hF _ h9)) hS1 hl
  | 1, hrun =>
    refine va_calli (a := a) hrun hS (fun q _ h9 => hF q h9) hF (fun r u t H1 locs1 ht hvm hw hB hz1 hk1 hS1 => ?_)
    obtain ⟨b1, b2, b3⟩ := hB
    rw [ht] at b1
    exact h _ _ _ hw H1 locs1 ls b1 (b3.weaken (fun _ _ _ h9 => hF _ h9)) hS1 hl
  | 2, hrun =>
    refine va_calll (a := a) hrun hS (fun q _ h9 => hF q h9) hF (fun r u t H1 locs1 ht hvm hw hB hz1 hk1 hS1 => ?_)
    obtain ⟨b1, b2, b3⟩ := hB
    rw [ht] at b1
    exact h _ _ _ hw H1 locs1 ls b1 (b3.weaken (fun _ _ _ h9 => hF _ h9)) hS1 hl
  | 4, hrun =>
    refine va_calli (a := a) hrun hS (fun q _ h9 => hF q h9) hF (fun r u t H1 locs1 ht hvm hw hB hz1 hk1 hS1 => ?_)
    obtain ⟨b1, b2, b3⟩ := hB
    rw [ht] at b1
    exact h _ _ _ hw H1 locs1 ls b1 (b3.weaken (fun _ _ _ h9 => hF _ h9)) hS1 hl
  | 5, hrun =>
    refine va_calli (a := a) hrun hS (fun q _ h9 => hF q h9) hF (fun r u t H1 locs1 ht hvm hw hB hz1 hk1 hS1 => ?_)
    obtain ⟨b1, b2, b3⟩ := hB
    rw [ht] at b1
    exact h _ _ _ hw H1 locs1 ls b1 (b3.weaken (fun _ _ _ h9 => hF _ h9)) hS1 hl
  | 3, hrun =>
    refine va_callv (a := a) hrun hS (fun q _ h9 => hF q h9) hF (fun u t H1 locs1 ht hvm hw hB hz1 hk1 hS1 => ?_)
    obtain ⟨b1, b2, b3⟩ := hB
    rw [ht] at b1
    exact h _ _ _ hw H1 locs1 ls b1 (b3.weaken (fun _ _ _ h9 => hF _ h9)) hS1 hl
  | n9 + 6, hrun =>
    refine va_callv (a := a) hrun hS (fun q _ h9 => hF q h9) hF (fun u t H1 locs1 ht hvm hw hB hz1 hk1 hS1 => ?_)
    obtain ⟨b1, b2, b3⟩ := hB
    rw [ht] at b1
    exact h _ _ _ hw H1 locs1 ls b1 (b3.weaken (fun _ _ _ h9 => hF _ h9)) hS1 hl
theorem tc_pre {s U : State} {args : Array Value} {D : va_G} {ad : Nat → Nat → Nat} {cA : Nat → ClassId} {A : Nat → Prop} {S : tc_S} {H : Heap} {locs : List Loc} (hK : va_K D tc_cl (tc_ty cA) s) (hA : ∀ q, s.heap.size ≤ q → A q) (hSt : tc_St ad A s s.heap) (hP : va_P D tc_cl (tc_W ad cA S) H) (hD : va_D A (tc_W ad cA S)) (hS : va_S A s.heap H locs) (hU : U.heap = H) (hW : s.WarmedH U.vm) : tc_Pre D ad cA S H.size U := by
  have hF : ∀ q, va_A (tc_W ad cA S) H.size q → A q := by
    intro q hq
    rcases hq with ⟨i, e9, hi⟩ | hq
    · exact hD.2 i (q, e9) hi
    · exact hA q (Nat.le_trans hS.1 hq)
  refine ⟨by rw [hU], by rw [hU]; exact hP, va_K.moved hW.alike hK, hD.weaken (fun _ _ _ _ => trivial), ?_⟩
  rw [hU]
  exact ((hSt.kept hS.2.1).narrow hF).moved hW.alike
theorem tc_revc {n : Nat} {K : List tc_V} {v : tc_V} {ad : Nat → Nat → Nat} (h : K[n]? = some v) : (K.take (n + 1)).reverse = v :: (K.take n).reverse ∧ K.map (tc_v ad) = ((K.take n).reverse.map (tc_v ad)).reverse ++ tc_v ad v :: (K.drop (n + 1)).map (tc_v ad) := by
  have hn := (List.getElem?_eq_some_iff.mp h).1
  have hv := (List.getElem?_eq_some_iff.mp h).2
  have e1 : K.take (n + 1) = K.take n ++ [v] := by rw [List.take_succ_eq_append_getElem hn, hv]
  have e2 : K = K.take n ++ v :: K.drop (n + 1) := by
    rw [← hv]
    rw [List.getElem_cons_drop, List.take_append_drop]
  refine ⟨by rw [e1, List.reverse_append]; rfl, ?_⟩
  conv => lhs; rw [e2]
  rw [List.map_append, List.map_cons, ← List.map_reverse, List.reverse_reverse]
theorem tc_ckV_spec {n nL' ci : Nat} {K : List tc_V} (h : tc_ckV n nL' ci K = true) : ∃ (i : Nat) (fs : List (Nat × Nat)), K[n]? = some (.inr (.inr (0, i))) ∧ tc_lay[i]? = some (.inl (ci, fs)) ∧ ((K.take (n + 1)).reverse.map tc_cat).sum ≤ nL' ∧ ((K.drop (n + 1)).map tc_cat).sum ≤ 8 := by
  unfold tc_ckV at h
  cases hv : K[n]? with
  | none => rw [hv] at h; cases h
  | some v =>
    rw [hv] at h
    rcases v with x | x | ⟨k, i⟩
    · cases h
    · cases h
    · match k, h with
      | 0, h =>
        cases ho : tc_lay[i]? with
        | none => simp only [ho] at h; cases h
        | some o =>
          simp only [ho] at h
          rcases o with o | o
          · obtain ⟨o1, fs⟩ := o
            simp only [Bool.and_eq_true] at h
            have e := Nat.eq_of_beq_eq_true h.1.1
            subst e
            exact ⟨i, fs, rfl, ho, Nat.le_of_ble_eq_true h.1.2, Nat.le_of_ble_eq_true h.2⟩
          · cases h
theorem tc_ckE_spec {n nL' kd i : Nat} {K : List tc_V} (h : tc_ckE n nL' kd K = some i) : K[n]? = some (.inr (.inr (kd, i))) ∧ ((K.take (n + 1)).reverse.map tc_cat).sum ≤ nL' ∧ ((K.drop (n + 1)).map tc_cat).sum ≤ 8 := by
  unfold tc_ckE at h
  cases hv : K[n]? with
  | none => rw [hv] at h; cases h
  | some v =>
    rw [hv] at h
    rcases v with x | x | ⟨k, j⟩
    · cases h
    · cases h
    · simp only at h
      split at h
      · rename_i hb
        simp only [Bool.and_eq_true] at hb
        have e := Nat.eq_of_beq_eq_true hb.1.1
        cases h
        exact ⟨by rw [e], Nat.le_of_ble_eq_true hb.1.2, Nat.le_of_ble_eq_true hb.2⟩
      · cases h
theorem tc_len_take {n : Nat} {K : List tc_V} {v : tc_V} {f : tc_V → Value} (h : K[n]? = some v) : ((K.take n).reverse.map f).length = n := by
  rw [List.length_map, List.length_reverse, List.length_take]
  exact Nat.min_eq_left (Nat.le_of_lt (List.getElem?_eq_some_iff.mp h).1)
theorem goodIn_app9 {big a b : List Cond} (ha : GoodIn big a) (hb : GoodIn big b) : GoodIn big (a ++ b) := fun w h => (List.mem_append.mp h).elim (ha w) (hb w)
theorem goodIn_sub9 {big ws : List Cond} (h : ∀ w ∈ ws, w ∈ big ∧ ((w.onTables && w.keeps) = true ∨ ∃ ty, w = .arrayClass ty)) : GoodIn big ws := h
theorem to_callV {ci n ix nL' rk : Nat} {C : vw_C} {y : MethodName} {cc' : ByteArray} {rm : Room} {ret : Option FieldType} {Rm : List tc_V → tc_S → tc_Q → Prop} (X : tc_Cx R cc nL own Z) (hM : tc_Met y (Cond.code y cc' nL' ret) rm rk nL' Rm) (hc : tc_cl[ci]? = some C) (hrm : rm.cells = 0 ∧ rm.slots = 0) (hR : rm.frames + 1 ≤ R.frames ∧ 8 + (nL' + 11) + rm.locals ≤ R.locals)
    (h1 : Cond.methodLink own ix y ∈ tc_tb) (h2 : Cond.instanceMethod y ∈ tc_tb) (h3 : Cond.selects C.1 y y ∈ tc_tb) (h4 : Cond.initialized C.1 ∈ tc_tb) (h5 : Cond.code y cc' nL' ret ∈ tc_tb)
    (hy : y.cls = C.1 ∧ y.cls ≠ "java/lang/invoke/MethodHandle" ∧ y.cls ≠ "java/lang/invoke/VarHandle" ∧ (parseMethodDescriptor y.desc).map (fun d => d.parameters.length) = some n) (hd : decode cc pc = .ok (.invokevirtual ix, 3)) (h : tc_Ok nL Z (pc + 3) k) : tc_Ok nL Z pc (tb_callV n nL' ci Rm k) := by
  obtain ⟨p, l, e, R', s, m, args, below, meth, c, nn, Q, Ts, D, ad, cA, A⟩ := Z
  obtain ⟨rfl, ⟨hx, hb, hml, hown, hts⟩, hK, hA, hSt, hTs, hn⟩ := X
  intro L K S hb9 H locs ls hP hD hS hl
  simp only [tb_callV] at hb9
  split at hb9
  · rename_i hck
    obtain ⟨i, fs, hv, ho, g1, g2⟩ := tc_ckV_spec hck
    obtain ⟨e1, e2⟩ := tc_revc (ad := ad) hv
    rw [e1] at hb9 g1
    have hMM := hM l D ad cA _ S _ H.size g1 hb9
    have hG : GoodIn Ts (wsV own ix C.1 y (Cond.code y cc' nL' ret :: tc_tb)) := goodIn_app9 (goodIn_sub9 (by
      intro w hw
      simp only [List.mem_cons, List.not_mem_nil, or_false] at hw
      rcases hw with rfl | rfl | rfl | rfl
      · exact ⟨hTs _ h1, tc_tb_good h1⟩
      · exact ⟨hTs _ h2, tc_tb_good h2⟩
      · exact ⟨hTs _ h3, tc_tb_good h3⟩
      · exact ⟨hTs _ h4, tc_tb_good h4⟩)) (tc_goodIn hTs h5)
    refine tc_back (rest := K.drop (n + 1)) hA h hP hD hS hl (va_runV (As := (K.take n).reverse.map (tc_v ad)) (rest := (K.drop (n + 1)).map (tc_v ad)) ⟨hx, hb, hml, hown, hts⟩ hMM (cwV n hts hG rfl hrm.1 hrm.2 hy hR) ⟨tc_blind (l := l), va_recv hK hP hc (tc_W_at ho), fun U hU hW => ⟨rfl, tc_pre (args := args) hK hA hSt hP hD hS hU hW⟩⟩ rfl (tc_len_take hv) hl.1 e2 (by rw [tc_sumc]; simpa [JFrame.monitorRoom] using g2) hd ⟨hn.1, hn.2⟩)
  · exact hb9.elim
theorem to_callE {kd N n ix nL' rk : Nat} {C : String} {y : MethodName} {cc' : ByteArray} {rm : Room} {ret : Option FieldType} {Rm : List tc_V → tc_S → tc_Q → Prop} (X : tc_Cx R cc nL own Z) (hM : tc_Met y (Cond.code y cc' nL' ret) rm rk nL' Rm) (hkd : (kd = 1 ∧ N = 4 ∧ C = "ToldChances$Rule") ∨ (kd = 2 ∧ N = 6 ∧ C = "ToldChances$Command") ∨ (kd = 3 ∧ N = 10 ∧ C = "java/lang/String")) (hrm : rm.cells = 0 ∧ rm.slots = 0) (hR : rm.frames + 1 ≤ R.frames ∧ 8 + (nL' + 11) + rm.locals ≤ R.locals)
    (h1 : Cond.methodLink own ix y ∈ tc_tb) (h2 : Cond.instanceMethod y ∈ tc_tb) (h3 : Cond.selects C y y ∈ tc_tb) (h4 : Cond.initialized C ∈ tc_tb) (h5 : Cond.code y cc' nL' ret ∈ tc_tb)
    (hy : y.cls = C ∧ y.cls ≠ "java/lang/invoke/MethodHandle" ∧ y.cls ≠ "java/lang/invoke/VarHandle" ∧ (parseMethodDescriptor y.desc).map (fun d => d.parameters.length) = some n) (hd : decode cc pc = .ok (.invokevirtual ix, 3)) (h : tc_Ok nL Z (pc + 3) k) : tc_Ok nL Z pc (tb_callE n nL' kd N Rm k) := by
  obtain ⟨p, l, e, R', s, m, args, below, meth, c, nn, Q, Ts, D, ad, cA, A⟩ := Z
  obtain ⟨rfl, ⟨hx, hb, hml, hown, hts⟩, hK, hA, hSt, hTs, hn⟩ := X
  intro L K S hb9 H locs ls hP hD hS hl
  simp only [tb_callE] at hb9
  split at hb9
  · rename_i o i hck
    obtain ⟨hv, g1, g2⟩ := tc_ckE_spec hck
    obtain ⟨e1, e2⟩ := tc_revc (ad := ad) hv
    obtain ⟨hiN, hb9⟩ := hb9
    rw [e1] at hb9 g1
    have hMM := hM l D ad cA _ S _ H.size g1 hb9
    have hrec : ∃ cell : Cell, H[ad kd i]? = some cell ∧ cell.vm.isStatics = false ∧ s.vm.findClass C = some cell.cls := by
      rcases hkd with ⟨rfl, rfl, rfl⟩ | ⟨rfl, rfl, rfl⟩ | ⟨rfl, rfl, rfl⟩
      · obtain ⟨cell, w1, w2, w3, -⟩ := (hSt.kept hS.2.1).2.1 i hiN
        exact ⟨cell, w1, w2, w3⟩
      · obtain ⟨cell, w1, w2, w3, -⟩ := (hSt.kept hS.2.1).2.2.1 i hiN
        exact ⟨cell, w1, w2, w3⟩
      · obtain ⟨cell, w1, w2, w3, -⟩ := ((hSt.kept hS.2.1).2.2.2.1.1 i hiN).1
        exact ⟨cell, w1, w2, w3⟩
    have hG : GoodIn Ts (wsV own ix C y (Cond.code y cc' nL' ret :: tc_tb)) := goodIn_app9 (goodIn_sub9 (by
      intro w hw
      simp only [List.mem_cons, List.not_mem_nil, or_false] at hw
      rcases hw with rfl | rfl | rfl | rfl
      · exact ⟨hTs _ h1, tc_tb_good h1⟩
      · exact ⟨hTs _ h2, tc_tb_good h2⟩
      · exact ⟨hTs _ h3, tc_tb_good h3⟩
      · exact ⟨hTs _ h4, tc_tb_good h4⟩)) (tc_goodIn hTs h5)
    refine tc_back (rest := K.drop (n + 1)) hA h hP hD hS hl (va_runV (As := (K.take n).reverse.map (tc_v ad)) (rest := (K.drop (n + 1)).map (tc_v ad)) ⟨hx, hb, hml, hown, hts⟩ hMM (cwV n hts hG rfl hrm.1 hrm.2 hy hR) ⟨tc_blind (l := l), hrec, fun U hU hW => ⟨rfl, tc_pre (args := args) hK hA hSt hP hD hS hU hW⟩⟩ rfl (tc_len_take hv) hl.1 e2 (by rw [tc_sumc]; simpa [JFrame.monitorRoom] using g2) hd ⟨hn.1, hn.2⟩)
  · exact hb9.elim
theorem to_callS {n ix nL' rk : Nat} {y : MethodName} {cc' : ByteArray} {rm : Room} {ret : Option FieldType} {Rm : List tc_V → tc_S → tc_Q → Prop} (X : tc_Cx R cc nL own Z) (hM : tc_Met y (Cond.code y cc' nL' ret) rm rk nL' Rm) (hrm : rm.cells = 0 ∧ rm.slots = 0) (hR : rm.frames + 1 ≤ R.frames ∧ 8 + (nL' + 11) + rm.locals ≤ R.locals)
    (h1 : Cond.methodLink own ix y ∈ tc_tb) (h2 : Cond.static y ∈ tc_tb) (h4 : Cond.initialized y.cls ∈ tc_tb) (h5 : Cond.code y cc' nL' ret ∈ tc_tb)
    (hy : y.cls ≠ "java/lang/invoke/MethodHandle" ∧ y.cls ≠ "java/lang/invoke/VarHandle" ∧ (parseMethodDescriptor y.desc).map (fun d => d.parameters.length) = some n) (hd : decode cc pc = .ok (.invokestatic ix, 3)) (h : tc_Ok nL Z (pc + 3) k) : tc_Ok nL Z pc (tb_callS n nL' Rm k) := by
  obtain ⟨p, l, e, R', s, m, args, below, meth, c, nn, Q, Ts, D, ad, cA, A⟩ := Z
  obtain ⟨rfl, ⟨hx, hb, hml, hown, hts⟩, hK, hA, hSt, hTs, hn⟩ := X
  intro L K S hb9 H locs ls hP hD hS hl
  simp only [tb_callS] at hb9
  split at hb9
  · rename_i hck
    simp only [tc_ckS, Bool.and_eq_true] at hck
    have g0 := Nat.le_of_ble_eq_true hck.1.1
    have g1 := Nat.le_of_ble_eq_true hck.1.2
    have g2 := Nat.le_of_ble_eq_true hck.2
    have e2 : K.map (tc_v ad) = ((K.take n).reverse.map (tc_v ad)).reverse ++ (K.drop n).map (tc_v ad) := by
      rw [← List.map_reverse, List.reverse_reverse, ← List.map_append, List.take_append_drop]
    have hlen : ((K.take n).reverse.map (tc_v ad)).length = n := by
      rw [List.length_map, List.length_reverse, List.length_take]
      exact Nat.min_eq_left g0
    have hMM := hM l D ad cA _ S _ H.size g1 hb9
    refine tc_back (rest := K.drop n) hA h hP hD hS hl (va_runS (As := (K.take n).reverse.map (tc_v ad)) (rest := (K.drop n).map (tc_v ad)) ⟨hx, hb, hml, hown, hts⟩ hMM ⟨callB_of n hts (tc_goodIn hTs h5) rfl hrm.1 hrm.2 (hts _ (hTs _ h4)) (hts _ (hTs _ h1)) hy hR, hts _ (hTs _ h2)⟩ ⟨tc_blind (l := l), fun U hU hW => ⟨rfl, tc_pre (args := args) hK hA hSt hP hD hS hU hW⟩⟩ rfl hlen hl.1 e2 (by rw [tc_sumc]; simpa [JFrame.monitorRoom] using g2) hd ⟨hn.1, hn.2⟩)
  · exact hb9.elim
end TCCALL
