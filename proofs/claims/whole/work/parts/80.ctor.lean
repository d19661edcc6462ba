/-! objects are made: the world grows, cell by cell -/
def ki_At (nL : Nat) (Z : tc_Z) (pc : Nat) (L : List (Nat × Value)) (K : List Value) (ws : va_W) (n : Nat × Nat) : Prop := match Z with
  | (p, l, e, R, s, m, args, below, meth, c, _, Q, _, D, _, _, A) => ∀ (H : Heap) (locs : List Loc) (ls : Array Slot), va_P D tc_cl ws H → va_D A ws → va_S A s.heap H locs → lv_has ls nL L → W p l e R s m args below meth c H locs n.1 n.2 Q (F0 m pc ls K)
def ki_Cx (R : Room) (cc : ByteArray) (nL : Nat) (own : String) (cA : Nat → ClassId) (Z : tc_Z) : Prop := match Z with
  | (p, _, _, R', s, m, args, _, _, c, _, _, Ts, D, _, cA', A) => R' = R ∧ CallFix p m c cc nL s args Ts own ∧ va_K D tc_cl (tc_ty cA) s ∧ (∀ q, s.heap.size ≤ q → A q) ∧ (∀ w ∈ tc_tb, w ∈ Ts) ∧ cA' = cA
/-- it is a constructor -/
def ki_In (Z : tc_Z) : Prop := match Z with
  | (_, _, _, _, _, _, _, _, meth, _, _, _, _, _, _, _, _) => meth.name = "<init>"
theorem wx_obj1 : Cond.instanceMethod Lib.objectInit ∈ tc_tb := tc_tb1 26 (by decide +kernel) (by decide +kernel)
theorem wx_obj2 : Cond.code Lib.objectInit ⟨#[0xb1]⟩ 1 none ∈ tc_tb := tc_tb1 27 (by decide +kernel) (by decide +kernel)
theorem wx_arI : Cond.arrayClass .int ∈ tc_tb := tc_tb1 46 (by decide +kernel) (by decide +kernel)
theorem wx_arZ : Cond.arrayClass .boolean ∈ tc_tb := tc_tb1 110 (by decide +kernel) (by decide +kernel)
theorem wx_arJ : Cond.arrayClass .long ∈ tc_tb := tc_tb2 7 (by decide +kernel) (by decide +kernel)
section KIROWS
variable {R : Room} {cc : ByteArray} {nL : Nat} {own : String} {cA : Nat → ClassId} {Z : tc_Z} {pc : Nat} {L : List (Nat × Value)} {K : List Value} {ws : va_W} {n : Nat × Nat}
theorem ki_obj {ix a : Nat} (X : ki_Cx R cc nL own cA Z) (hw : Cond.methodLink own ix Lib.objectInit ∈ tc_tb) (hR : 1 ≤ R.frames ∧ 12 ≤ R.locals) (hd : decode cc pc = .ok (.invokespecial ix, 3)) (h : ki_At nL Z (pc + 3) L [] ws n) : ki_At nL Z pc L [.ref a] ws n := by
  obtain ⟨p, l, e, R', s, m, args, below, meth, c, n0, Q, Ts, D, ad, cA', A⟩ := Z
  obtain ⟨rfl, ⟨hx, hb, hml, hown, hts⟩, hK, hA, hTs, rfl⟩ := X
  intro H locs ls hP hD hS hl
  refine W.objInit hx hb hown (hts _ (hTs _ hw)) (hts _ (hTs _ wx_obj1)) (hts _ (hTs _ wx_obj2)) rfl (by rw [hml]; exact hl.1) rfl hd hR.1 (by simpa [F0] using hR.2) ?_
  exact h H locs ls hP hD hS hl
theorem ki_al0 {a : Nat} (X : ki_Cx R cc nL own cA Z) (hd : decode cc pc = .ok (.aload_n 0, 1)) (hL : (0, Value.ref a) ∈ L) (h : ki_At nL Z (pc + 1) L (.ref a :: K) ws n) : ki_At nL Z pc L K ws n := by
  obtain ⟨p, l, e, R', s, m, args, below, meth, c, n0, Q, Ts, D, ad, cA', A⟩ := Z
  obtain ⟨rfl, ⟨hx, hb, hml, hown, hts⟩, hK, hA, hTs, rfl⟩ := X
  intro H locs ls hP hD hS hl
  exact lv_aload_n hx hb hd rfl (hl.2.2 _ hL) (h H locs ls hP hD hS hl)
theorem ki_il1 {x : Int32} (X : ki_Cx R cc nL own cA Z) (hd : decode cc pc = .ok (.iload_n 1, 1)) (hL : (1, Value.int x) ∈ L) (h : ki_At nL Z (pc + 1) L (.int x :: K) ws n) : ki_At nL Z pc L K ws n := by
  obtain ⟨p, l, e, R', s, m, args, below, meth, c, n0, Q, Ts, D, ad, cA', A⟩ := Z
  obtain ⟨rfl, ⟨hx, hb, hml, hown, hts⟩, hK, hA, hTs, rfl⟩ := X
  intro H locs ls hP hD hS hl
  exact lv_iload_n hx hb hd rfl (hl.2.2 _ hL) (h H locs ls hP hD hS hl)
theorem ki_iconst {j : Int} {x : Int32} (X : ki_Cx R cc nL own cA Z) (hd : decode cc pc = .ok (.iconst j, 1)) (hv : Int32.ofInt j = x) (h : ki_At nL Z (pc + 1) L (.int x :: K) ws n) : ki_At nL Z pc L K ws n := by
  obtain ⟨p, l, e, R', s, m, args, below, meth, c, n0, Q, Ts, D, ad, cA', A⟩ := Z
  obtain ⟨rfl, ⟨hx, hb, hml, hown, hts⟩, hK, hA, hTs, rfl⟩ := X
  intro H locs ls hP hD hS hl
  exact lv_iconst hx hb hd hv (h H locs ls hP hD hS hl)
theorem ki_bipush {j : Int} {x : Int32} (X : ki_Cx R cc nL own cA Z) (hd : decode cc pc = .ok (.bipush j, 2)) (hv : (Int8.ofInt j).toInt32 = x) (h : ki_At nL Z (pc + 2) L (.int x :: K) ws n) : ki_At nL Z pc L K ws n := by
  obtain ⟨p, l, e, R', s, m, args, below, meth, c, n0, Q, Ts, D, ad, cA', A⟩ := Z
  obtain ⟨rfl, ⟨hx, hb, hml, hown, hts⟩, hK, hA, hTs, rfl⟩ := X
  intro H locs ls hP hD hS hl
  exact lv_bipush hx hb hd hv (h H locs ls hP hD hS hl)
theorem ki_sipush {j : Int} {x : Int32} (X : ki_Cx R cc nL own cA Z) (hd : decode cc pc = .ok (.sipush j, 3)) (hv : (Int16.ofInt j).toInt32 = x) (h : ki_At nL Z (pc + 3) L (.int x :: K) ws n) : ki_At nL Z pc L K ws n := by
  obtain ⟨p, l, e, R', s, m, args, below, meth, c, n0, Q, Ts, D, ad, cA', A⟩ := Z
  obtain ⟨rfl, ⟨hx, hb, hml, hown, hts⟩, hK, hA, hTs, rfl⟩ := X
  intro H locs ls hP hD hS hl
  exact lv_sipush hx hb hd hv (h H locs ls hP hD hS hl)
theorem ki_lconst {j : Fin 2} {x : Int64} (X : ki_Cx R cc nL own cA Z) (hd : decode cc pc = .ok (.lconst j, 1)) (hv : Int64.ofNat (j : Nat) = x) (h : ki_At nL Z (pc + 1) L (.long x :: K) ws n) : ki_At nL Z pc L K ws n := by
  obtain ⟨p, l, e, R', s, m, args, below, meth, c, n0, Q, Ts, D, ad, cA', A⟩ := Z
  obtain ⟨rfl, ⟨hx, hb, hml, hown, hts⟩, hK, hA, hTs, rfl⟩ := X
  intro H locs ls hP hD hS hl
  exact lv_lconst hx hb hd hv (h H locs ls hP hD hS hl)
theorem ki_dup {v : Value} (X : ki_Cx R cc nL own cA Z) (hd : decode cc pc = .ok (.dup, 1)) (hv : v.category = 1) (h : ki_At nL Z (pc + 1) L (v :: v :: K) ws n) : ki_At nL Z pc L (v :: K) ws n := by
  obtain ⟨p, l, e, R', s, m, args, below, meth, c, n0, Q, Ts, D, ad, cA', A⟩ := Z
  obtain ⟨rfl, ⟨hx, hb, hml, hown, hts⟩, hK, hA, hTs, rfl⟩ := X
  intro H locs ls hP hD hS hl
  exact lv_dup hx hb hd hv (h H locs ls hP hD hS hl)
/-- a new array of one of the three kinds -/
theorem ki_newa {atype : ArrayType} {ty : FieldType} {t N : Nat} {a0 : vp_A} {x : Int32} (X : ki_Cx R cc nL own cA Z) (hw : Cond.arrayClass ty ∈ tc_tb) (hty : newarray.typeOf atype = ty) (ht : ∀ cA : Nat → ClassId, (tc_ty cA)[t]? = some (cA t, ty)) (hra : ∀ U c, va_RA U c ty → U.vm.findClass ("[" ++ ty.toString) = some c) (ha : ∀ c : ClassId, vp_cell c a0 = arrV c N (fun _ => defaultValue ty)) (hn : ¬ x < 0) (hN : x.toNatClampNeg = N) (hbytes : N * componentBytes ty ≤ 536870912) (hc : n.1 + 1 ≤ R.cells) (hs : n.2 + N ≤ R.slots) (hd : decode cc pc = .ok (.newarray atype, 2)) (h : ∀ q : Nat, ki_At nL Z (pc + 2) L (.ref q :: K) (ws ++ [(q, .inl (cA t, a0))]) (n.1 + 1, n.2 + N)) : ki_At nL Z pc L (.int x :: K) ws n := by
  obtain ⟨p, l, e, R', s, m, args, below, meth, c, n0, Q, Ts, D, ad, cA', A⟩ := Z
  obtain ⟨rfl, ⟨hx, hb, hml, hown, hts⟩, hK, hA, hTs, rfl⟩ := X
  intro H locs ls hP hD hS hl
  subst hty
  refine va_newa (atype := atype) (ty := newarray.typeOf atype) hx hb (hts _ (hTs _ hw)) rfl hK hP hD hS hA ha hn hN hbytes hc hs hd (fun q c9 H1 hK1 hP1 hD1 hS1 => ?_)
  have e1 := hra _ _ (hK1.2 3 (c9, newarray.typeOf atype) rfl).2
  have e2 := hra _ _ (hK.2 t _ (ht cA')).2
  have e3 : c9 = cA' t := Option.some.inj (e1.symm.trans e2)
  subst e3
  exact h q H1 locs ls hP1 hD1 hS1 hl
/-- a field of the object that is being made -/
theorem ki_putF {a ci f ix N : Nat} {C : String} {T : u_T} {ty0 : Nat → FieldType} {fs : List Value} {v : Value} {ty : FieldType} (X : ki_Cx R cc nL own cA Z) (hI : ki_In Z) (hc : tc_cl[ci]? = some (C, T, N)) (hf : f < N) (hin : ∀ w ∈ u_ws C T N, w ∈ tc_tb) (hty : ∀ k, k < N → parseFieldDescriptor (T k).2.2.1 = some (ty0 k)) (hnm : ∀ a, a < N → ∀ b, b < N → a ≠ b → (T a).2.1 ≠ (T b).2.1) (hw : Cond.fieldLink own ix (T f).1 (T f).2.1 (T f).2.2.1 ∈ tc_tb) (hfin : (T f).2.2.2 = true) (hdecl : (T f).1 = own) (ht : ty0 f = ty) (hn : narrow ty v = v) (hfit : fits ty v = true) (hl9 : f < fs.length) (hd : decode cc pc = .ok (.putfield ix, 3)) (h : ki_At nL Z (pc + 3) L K ((a, .inr (ci, fs.set f v)) :: ws) n) : ki_At nL Z pc L (v :: .ref a :: K) ((a, .inr (ci, fs)) :: ws) n := by
  obtain ⟨p, l, e, R', s, m, args, below, meth, c, n0, Q, Ts, D, ad, cA', A⟩ := Z
  obtain ⟨rfl, ⟨hx, hb, hml, hown, hts⟩, hK, hA, hTs, rfl⟩ := X
  intro H locs ls hP hD hS hl
  exact va_putF (D := D) (ci := ci) (v := v) (ty := ty) (C := C) (T := T) (N := N) hx hb hts (fun w hw => hTs w (hin w hw)) ty0 hty hnm hown hK hP hD hS 0 rfl hc f hf (hts _ (hTs _ hw)) (fun _ h9 => h9) hfin hI hdecl (by rw [hty f hf, ht]) hn hfit hl9 hd (fun H1 locs1 hP1 hD1 hS1 => h H1 locs1 ls hP1 hD1 hS1 hl)
theorem ki_putN {a ci f ix N : Nat} {C : String} {T : u_T} {ty0 : Nat → FieldType} {fs : List Value} {v : Value} {ty : FieldType} (X : ki_Cx R cc nL own cA Z) (hc : tc_cl[ci]? = some (C, T, N)) (hf : f < N) (hin : ∀ w ∈ u_ws C T N, w ∈ tc_tb) (hty : ∀ k, k < N → parseFieldDescriptor (T k).2.2.1 = some (ty0 k)) (hnm : ∀ a, a < N → ∀ b, b < N → a ≠ b → (T a).2.1 ≠ (T b).2.1) (hw : Cond.fieldLink own ix (T f).1 (T f).2.1 (T f).2.2.1 ∈ tc_tb) (hfin : (T f).2.2.2 = false) (ht : ty0 f = ty) (hn : narrow ty v = v) (hfit : fits ty v = true) (hl9 : f < fs.length) (hd : decode cc pc = .ok (.putfield ix, 3)) (h : ki_At nL Z (pc + 3) L K ((a, .inr (ci, fs.set f v)) :: ws) n) : ki_At nL Z pc L (v :: .ref a :: K) ((a, .inr (ci, fs)) :: ws) n := by
  obtain ⟨p, l, e, R', s, m, args, below, meth, c, n0, Q, Ts, D, ad, cA', A⟩ := Z
  obtain ⟨rfl, ⟨hx, hb, hml, hown, hts⟩, hK, hA, hTs, rfl⟩ := X
  intro H locs ls hP hD hS hl
  exact va_put (D := D) (ci := ci) (v := v) (ty := ty) (C := C) (T := T) (N := N) hx hb hts (fun w hw => hTs w (hin w hw)) ty0 hty hnm hown hK hP hD hS 0 rfl hc f hf (hts _ (hTs _ hw)) (fun _ h9 => h9) hfin (by rw [hty f hf, ht]) hn hfit hl9 hd (fun H1 locs1 hP1 hD1 hS1 => h H1 locs1 ls hP1 hD1 hS1 hl)
theorem ki_get {a ci f ix N : Nat} {C : String} {T : u_T} {fs : List Value} {v : Value} (X : ki_Cx R cc nL own cA Z) (hc : tc_cl[ci]? = some (C, T, N)) (hf : f < N) (hin : ∀ w ∈ u_ws C T N, w ∈ tc_tb) (hw : Cond.fieldLink own ix (T f).1 (T f).2.1 (T f).2.2.1 ∈ tc_tb) (hv : fs[f]? = some v) (hd : decode cc pc = .ok (.getfield ix, 3)) (h : ki_At nL Z (pc + 3) L (v :: K) ((a, .inr (ci, fs)) :: ws) n) : ki_At nL Z pc L (.ref a :: K) ((a, .inr (ci, fs)) :: ws) n := by
  obtain ⟨p, l, e, R', s, m, args, below, meth, c, n0, Q, Ts, D, ad, cA', A⟩ := Z
  obtain ⟨rfl, ⟨hx, hb, hml, hown, hts⟩, hK, hA, hTs, rfl⟩ := X
  intro H locs ls hP hD hS hl
  exact va_get (D := D) (ci := ci) (v := v) (C := C) (T := T) (N := N) hx hb hts (fun w hw => hTs w (hin w hw)) hown hK hP 0 rfl hc f hf (hts _ (hTs _ hw)) (fun _ h9 => h9) hv hd (h H locs ls hP hD hS hl)
/-- a place of an int array, the j-th cell -/
theorem ki_iast {a N j : Nat} {f : Nat → Int32} {i x : Int32} (X : ki_Cx R cc nL own cA Z) (hj : ws[j]? = some (a, .inl (cA 0, N, .inl f))) (hi : vp_in i N) (hd : decode cc pc = .ok (.iastore, 1)) (h : ki_At nL Z (pc + 1) L K (ws.set j (a, .inl (cA 0, N, .inl (upd f i.toNatClampNeg x)))) n) : ki_At nL Z pc L (.int x :: .int i :: .ref a :: K) ws n := by
  obtain ⟨p, l, e, R', s, m, args, below, meth, c, n0, Q, Ts, D, ad, cA', A⟩ := Z
  obtain ⟨rfl, ⟨hx, hb, hml, hown, hts⟩, hK, hA, hTs, rfl⟩ := X
  intro H locs ls hP hD hS hl
  exact va_iast hx hb hK hP hD hS j 0 hj rfl hi hd (fun H1 locs1 hP1 hD1 hS1 => h H1 locs1 ls hP1 hD1 hS1 hl)
theorem ki_alen {a N j : Nat} {f : Nat → Int32} (X : ki_Cx R cc nL own cA Z) (hj : ws[j]? = some (a, .inl (cA 0, N, .inl f))) (hd : decode cc pc = .ok (.arraylength, 1)) (h : ki_At nL Z (pc + 1) L (.int (nI N) :: K) ws n) : ki_At nL Z pc L (.ref a :: K) ws n := by
  obtain ⟨p, l, e, R', s, m, args, below, meth, c, n0, Q, Ts, D, ad, cA', A⟩ := Z
  obtain ⟨rfl, ⟨hx, hb, hml, hown, hts⟩, hK, hA, hTs, rfl⟩ := X
  intro H locs ls hP hD hS hl
  exact va_alen hx hb hK hP j 0 hj rfl rfl hd (h H locs ls hP hD hS hl)
theorem ki_icmpge {tgt : Nat} {o : Int} {x y : Int32} (X : ki_Cx R cc nL own cA Z) (hd : decode cc pc = .ok (.if_icmp .ge o, 3)) (ht : (pc : Int) + o = tgt) (h1 : y ≤ x → ki_At nL Z tgt L K ws n) (h2 : ¬ y ≤ x → ki_At nL Z (pc + 3) L K ws n) : ki_At nL Z pc L (.int y :: .int x :: K) ws n := by
  obtain ⟨p, l, e, R', s, m, args, below, meth, c, n0, Q, Ts, D, ad, cA', A⟩ := Z
  obtain ⟨rfl, ⟨hx, hb, hml, hown, hts⟩, hK, hA, hTs, rfl⟩ := X
  intro H locs ls hP hD hS hl
  exact lv_icmp_ge (tgt := tgt) hx hb hd ht (fun z => h1 z H locs ls hP hD hS hl) (fun z => h2 z H locs ls hP hD hS hl)
theorem ki_goto {tgt : Nat} {o : Int} (X : ki_Cx R cc nL own cA Z) (hd : decode cc pc = .ok (.goto o, 3)) (ht : (pc : Int) + o = tgt) (h : ki_At nL Z tgt L K ws n) : ki_At nL Z pc L K ws n := by
  obtain ⟨p, l, e, R', s, m, args, below, meth, c, n0, Q, Ts, D, ad, cA', A⟩ := Z
  obtain ⟨rfl, ⟨hx, hb, hml, hown, hts⟩, hK, hA, hTs, rfl⟩ := X
  intro H locs ls hP hD hS hl
  exact lv_goto (tgt := tgt) hx hb hd ht (h H locs ls hP hD hS hl)
end KIROWS
