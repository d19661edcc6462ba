/-! a constructor's contract; a call of it -/
section KIMET
variable {R : Room} {cc : ByteArray} {nL : Nat} {own : String} {cA : Nat → ClassId} {Z : tc_Z} {pc : Nat} {L : List (Nat × Value)} {K : List Value} {ws : va_W} {n : Nat × Nat}
theorem ki_is1 {x : Int32} {L' : List (Nat × Value)} (X : ki_Cx R cc nL own cA Z) (hd : decode cc pc = .ok (.istore_n 1, 1)) (hj : 1 < nL) (hL : (1, Value.int x) :: L.filter (fun q => !(q.1 == 1) && !(q.1 + 1 == 1 && q.2.category == 2)) = L') (h : ki_At nL Z (pc + 1) L' K ws n) : ki_At nL Z pc L (.int x :: K) ws n := by
  obtain ⟨p, l, e, R', s, m, args, below, meth, c, n0, Q, Ts, D, ad, cA', A⟩ := Z
  obtain ⟨rfl, ⟨hx, hb, hml, hown, hts⟩, hK, hA, hTs, rfl⟩ := X
  intro H locs ls hP hD hS hl
  exact lv_istore_n hx hb hd rfl hl hj hL (fun ls' hl' => h H locs ls' hP hD hS hl')
theorem ki_ii1 {x y : Int32} {L' : List (Nat × Value)} (X : ki_Cx R cc nL own cA Z) (hd : decode cc pc = .ok (.iinc 1 1, 3)) (hj : 1 < nL) (h0 : L[0]? = some (1, Value.int x)) (hy : x + 1 = y) (hL : (1, Value.int y) :: L.filter (fun q => !(q.1 == 1) && !(q.1 + 1 == 1 && q.2.category == 2)) = L') (h : ki_At nL Z (pc + 3) L' K ws n) : ki_At nL Z pc L K ws n := by
  obtain ⟨p, l, e, R', s, m, args, below, meth, c, n0, Q, Ts, D, ad, cA', A⟩ := Z
  obtain ⟨rfl, ⟨hx, hb, hml, hown, hts⟩, hK, hA, hTs, rfl⟩ := X
  intro H locs ls hP hD hS hl
  exact lv_iinc (v := y) hx hb hd hl h0 (by rw [← hy]; rfl) hj hL (fun ls' hl' => h H locs ls' hP hD hS hl')
def ki_Nw (w : Cond) (Z : tc_Z) : Prop := match Z with
  | (_, _, _, _, s, _, _, _, _, _, _, _, _, _, _, _, _) => va_Nw w s
def ki_Zs (C f d : String) (v : Value) (Z : tc_Z) : Prop := match Z with
  | (_, _, _, _, s, _, _, _, _, _, _, _, _, _, _, _, A) => va_Z C f d v A s s.heap
def ki_Eb (E : Nat → Nat → State → Prop) (e : va_E) (h0 sz : Nat) (Z : tc_Z) : Prop := match Z with
  | (_, _, _, _, s, _, _, _, _, _, _, _, _, _, _, _, A) => s.heap.size = sz ∧ E h0 sz s ∧ A = va_A [(h0, e)] sz
def ki_Ec (E : Nat → Nat → State → Prop) (e : va_E) (Z : tc_Z) : Prop := match Z with
  | (_, _, _, _, s, _, _, _, _, _, _, _, _, _, _, _, A) => ∀ (q : Nat) (H : Heap) (locs : List Loc) (U : State), va_S A s.heap H locs → (∀ a, va_A [(q, e)] H.size a → A a) → U.heap = H → s.WarmedH U.vm → E q H.size U
theorem ki_Ec_t (e : va_E) (Z : tc_Z) : ki_Ec (fun _ _ _ => True) e Z := by
  obtain ⟨_, _, _, _, _, _, _, _, _, _, _, _, _, _, _, _, _⟩ := Z
  exact fun _ _ _ _ _ _ _ _ => trivial
/-- from an object with the fields fs to the cells Wf; E: what it needs beside -/
def ki_Met (y : MethodName) (cc : ByteArray) (nL : Nat) (rm : Room) (ci : Nat) (fs : List Value) (E : Nat → Nat → State → Prop) (Wf : (Nat → ClassId) → Nat → List Nat → va_W) : Prop :=
  ∀ (l : Launch) (D : va_G) (cA : Nat → ClassId) (h0 sz : Nat), Met l y (Cond.code y cc nL none :: tc_tb) rm (va_Pc [.ref h0] (fun U => U.heap.size = sz ∧ va_P D tc_cl [(h0, .inr (ci, fs))] U.heap ∧ va_K D tc_cl (tc_ty cA) U ∧ va_D (fun _ => True) [(h0, .inr (ci, fs))] ∧ E h0 sz U)) (va_Qv (fun _ : List Nat => True) (fun u t => va_P D tc_cl (Wf cA h0 u) t.heap ∧ va_D (va_A [(h0, .inr (ci, fs))] sz) (Wf cA h0 u)) (va_A [(h0, .inr (ci, fs))] sz)) rm.cells rm.slots (va_A [(h0, .inr (ci, fs))] sz)
theorem ki_met {y : MethodName} {rm : Room} {ci : Nat} {fs : List Value} {E : Nat → Nat → State → Prop} {Wf : (Nat → ClassId) → Nat → List Nat → va_W} (hy : plainName y.cls = true) (hyn : y.name = "<init>") (hnL : 1 ≤ nL)
    (body : ∀ (Z : tc_Z) (cA : Nat → ClassId) (h0 sz : Nat), ki_Cx rm cc nL y.cls cA Z → ki_In Z → ki_Eb E (.inr (ci, fs)) h0 sz Z → (∀ pc L u, decode cc pc = .ok (.return_, 1) → ki_At nL Z pc L [] (Wf cA h0 u) (rm.cells, rm.slots)) → ki_At nL Z 0 [(0, .ref h0)] [] [(h0, .inr (ci, fs))] (0, 0)) : ki_Met y cc nL rm ci fs E Wf := by
  intro l D cA h0 sz
  refine Met.ofW (cc := cc) (maxL := nL) (ret := none) hy rfl ?_
  intro p e s m args below meth c s₁ B hml hv
  obtain ⟨rfl, hsz, hP, hK, hD0, hE⟩ := hv
  subst hsz
  have hx := B.exec
  have hb := B.bytes
  have hr := B.returns
  have hts := atoms_spec (ws := Cond.code y cc nL none :: tc_tb) B.pre
  have hown : s.vm.findClass y.cls = some m.cls := findClass_of_methodNamed B.named
  have hin : meth.name = "<init>" := by rw [← hyn]; exact (name_of_methodNamed B.named B.method).1
  have hlocks := B.notSynchronized
  have hD := hD0.self (sz := s.heap.size)
  have hA : ∀ q : Nat, s.heap.size ≤ q → va_A [(h0, .inr (ci, fs))] s.heap.size q := fun q h => Or.inr h
  have hS : va_S (va_A [(h0, .inr (ci, fs))] s.heap.size) s.heap s.heap [] := va_S.rf
  have hl := lv_entry ([.ref h0]) (n := nL) hnL
  rw [lg_entry_eq]
  have X : ki_Cx rm cc nL y.cls cA (p, l, e, rm, s, m, ([.ref h0] : List Value).toArray, below, meth, c, (0, 0), MQ below (va_Qv (fun _ : List Nat => True) (fun u t => va_P D tc_cl (Wf cA h0 u) t.heap ∧ va_D (va_A [(h0, .inr (ci, fs))] s.heap.size) (Wf cA h0 u)) (va_A [(h0, .inr (ci, fs))] s.heap.size)) ([.ref h0] : List Value).toArray s rm.cells rm.slots (va_A [(h0, .inr (ci, fs))] s.heap.size), Cond.code y cc nL none :: tc_tb, D, fun _ _ => 0, cA, va_A [(h0, .inr (ci, fs))] s.heap.size) := ⟨rfl, ⟨hx, hb, hml, hown, hts⟩, hK, hA, fun w hw => List.mem_cons_of_mem _ hw, rfl⟩
  refine body _ cA h0 s.heap.size X hin ⟨rfl, hE, rfl⟩ ?_ s.heap [] _ hP hD hS hl
  intro pc L u hd H locs ls hP hD hS hl
  exact W.vret hx hb hr (fun t ht hW => ⟨⟨u, rfl, trivial, by rw [ht]; exact hP, hD⟩, hS.F ht⟩) hS.2.2 hd
/-- new C(): the cells of the new object come behind the others -/
theorem ki_join {D : va_G} {A : Nat → Prop} {q : Nat} {x : va_E} {w1 : va_W} {H H1 : Heap} (hP : va_P D tc_cl (ws ++ [(q, x)]) H) (hD : va_D A (ws ++ [(q, x)])) (hk : ∀ a : Nat, a < H.size → ¬ va_A [(q, x)] H.size a → H1[a]? = H[a]?) (hF : ∀ a, va_A [(q, x)] H.size a → A a) (hP1 : va_P D tc_cl w1 H1) (hD1 : va_D (va_A [(q, x)] H.size) w1) : va_P D tc_cl (ws ++ w1) H1 ∧ va_D A (ws ++ w1) := by
  have at1 : ∀ (k : Nat) (p : Nat × va_E), ws[k]? = some p → (ws ++ [(q, x)])[k]? = some p := fun k p h => by
    rw [List.getElem?_append_left (List.getElem?_eq_some_iff.mp h).1]
    exact h
  have at2 : (ws ++ [(q, x)])[ws.length]? = some (q, x) := by
    rw [List.getElem?_append_right (Nat.le_refl _), Nat.sub_self]
    rfl
  have hPw : va_P D tc_cl ws H := fun k p h => hP k p (at1 k p h)
  have far : ∀ (k : Nat) (p : Nat × va_E), ws[k]? = some p → ¬ va_A [(q, x)] H.size p.1 := by
    intro k p h g
    rcases g with ⟨k2, e2, h2⟩ | g
    · have hk2 : k2 = 0 := by
        have := (List.getElem?_eq_some_iff.mp h2).1
        simp at this
        exact this
      subst hk2
      have e3 : q = p.1 := congrArg Prod.fst (Option.some.inj h2)
      have := hD.1 k ws.length p (q, x) (at1 k p h) at2 e3.symm
      have := (List.getElem?_eq_some_iff.mp h).1
      omega
    · have := (hPw k p h).lt
      omega
  refine ⟨(hPw.kept (fun k p h => hk p.1 ((hPw k p h).lt) (far k p h))).app hP1, va_D.app ⟨fun i j p p2 h1 h2 e => hD.1 i j p p2 (at1 i p h1) (at1 j p2 h2) e, fun k p h => hD.2 k p (at1 k p h)⟩ (hD1.weaken (fun _ _ _ h => hF _ h)) (fun i j p p2 h1 h2 e => far i p h1 (by rw [e]; exact hD1.2 j p2 h2))⟩
theorem ki_free {A : Nat → Prop} {q : Nat} {x : va_E} {H0 H : Heap} {locs : List Loc} (hD : va_D A (ws ++ [(q, x)])) (hS : va_S A H0 H locs) (hA : ∀ a, H0.size ≤ a → A a) : ∀ a, va_A [(q, x)] H.size a → A a := by
  intro a g
  rcases g with ⟨k2, e2, h2⟩ | g
  · have hk2 : k2 = 0 := by
      have := (List.getElem?_eq_some_iff.mp h2).1
      simp at this
      exact this
    subst hk2
    have e3 : q = a := congrArg Prod.fst (Option.some.inj h2)
    rw [← e3]
    exact hD.2 ws.length (q, x) (by
      rw [List.getElem?_append_right (Nat.le_refl _), Nat.sub_self]
      rfl)
  · exact hA a (Nat.le_trans hS.1 g)
theorem ki_last {D : va_G} {A : Nat → Prop} {q : Nat} {x : va_E} {H : Heap} (hP : va_P D tc_cl (ws ++ [(q, x)]) H) : va_P D tc_cl [(q, x)] H ∧ va_D (fun _ => True) [(q, x)] := by
  refine ⟨fun k p h => hP (ws.length + k) p ?_, ⟨fun i j p p2 h1 h2 _ => ?_, fun _ _ _ => trivial⟩⟩
  · rw [List.getElem?_append_right (by omega), Nat.add_sub_cancel_left]
    exact h
  · have h3 := (List.getElem?_eq_some_iff.mp h1).1
    have h4 := (List.getElem?_eq_some_iff.mp h2).1
    simp at h3 h4
    omega
/-- of a nest mate -/
theorem ki_mkN {ixc ixm ci N nL' : Nat} {C host : String} {T : u_T} {ty0 : Nat → FieldType} {y : MethodName} {cc' : ByteArray} {rm : Room} {fs : List Value} {Wf : (Nat → ClassId) → Nat → List Nat → va_W} (X : ki_Cx R cc nL own cA Z) (hM : ki_Met y cc' nL' rm ci fs (fun _ _ _ => True) Wf) (hc : tc_cl[ci]? = some (C, T, N)) (hin : ∀ w ∈ u_ws C T N, w ∈ tc_tb) (hty : ∀ k, k < N → parseFieldDescriptor (T k).2.2.1 = some (ty0 k)) (hfs : ∀ j, j < N → defaultValue (ty0 j) = vp_V fs j) (w1 : Cond.classLink own ixc C ∈ tc_tb) (w2 : Cond.instantiable C N ∈ tc_tb) (w3 : Cond.initialized C ∈ tc_tb) (w4 : Cond.code y cc' nL' none ∈ tc_tb) (w5 : Cond.instanceMethod y ∈ tc_tb) (hyc : y.cls = C) (hyn : y.name = "<init>") (hNw : ki_Nw (.methodLinkNest own ixm y host) Z) (hdy : y.cls ≠ "java/lang/invoke/MethodHandle" ∧ y.cls ≠ "java/lang/invoke/VarHandle" ∧ (parseMethodDescriptor y.desc).map (fun d => d.parameters.length) = some 0) (hR : rm.frames + 1 ≤ R.frames ∧ 8 + (nL' + 11) + rm.locals ≤ R.locals) (hcs : n.1 + 1 + rm.cells ≤ R.cells ∧ n.2 + N + rm.slots ≤ R.slots) (d1 : decode cc pc = .ok (.new ixc, 3)) (d2 : decode cc (pc + 3) = .ok (.dup, 1)) (d3 : decode cc (pc + 3 + 1) = .ok (.invokespecial ixm, 3)) (hKr : (K.map fun v => v.category).sum ≤ 7) (h : ∀ (q : Nat) (u : List Nat), ki_At nL Z (pc + 3 + 1 + 3) L (.ref q :: K) (ws ++ Wf cA q u) (n.1 + 1 + rm.cells, n.2 + N + rm.slots)) : ki_At nL Z pc L K ws n := by
  obtain ⟨p, l, e, R', s, m, args, below, meth, c, n0, Q, Ts, D, ad, cA', A⟩ := Z
  obtain ⟨rfl, ⟨hx, hb, hml, hown, hts⟩, hK, hA, hTs, rfl⟩ := X
  intro H locs ls hP hD hS hl
  refine va_new (ci := ci) (fs := fs) (C := C) (T := T) (N := N) hx hb hts (fun w hw => hTs w (hin w hw)) ty0 hty hown (hts _ (hTs _ w1)) (hts _ (hTs _ w2)) (hts _ (hTs _ w3)) hK hP hD hS hA hc hfs (by omega) (by omega) d1 (fun q H hP hD hS => ?_)
  refine lv_dup hx hb d2 rfl ?_
  have hF := ki_free hD hS hA
  obtain ⟨hPc, hDc⟩ := ki_last (A := A) hP
  refine va_callv (va_runIN (As := []) (rest := .ref q :: K) ⟨hx, hb, hml, hown, hts⟩ (hM l D cA' q H.size) ⟨va_cnB 0 hts (tc_goodIn hTs w4) rfl rfl rfl hNw (by rw [hyc]; exact hts _ (hTs _ w3)) hdy hR, hyn, hts _ (hTs _ w5)⟩ ⟨fun a U g mk z => by obtain ⟨z0, z1, z2, z3, z4⟩ := z; exact ⟨z0, z1, z2, va_K.moved (u := U) (U := U.calling g mk a) (Vm.Alike.refl U.vm) z3, z4⟩, fun U hU hW => ⟨rfl, by rw [hU], by rw [hU]; exact hPc, va_K.moved hW.alike hK, hDc, trivial⟩⟩ rfl rfl hl.1 rfl (by simpa [F0, Value.category] using (show 1 + (K.map fun v => v.category).sum ≤ 8 by omega)) d3 hcs) hS (fun a _ g => hF a g) hF (fun u t H1 locs1 ht hvm hw hB hz1 hk1 hS1 => ?_)
  obtain ⟨hP1, hD1⟩ := hB
  rw [ht] at hP1
  obtain ⟨hP2, hD2⟩ := ki_join hP hD hk1 hF hP1 hD1
  exact h q u H1 locs1 ls hP2 hD2 hS1 hl
/-- of any other -/
theorem ki_mkP {ixc ixm ci N nL' : Nat} {C : String} {T : u_T} {ty0 : Nat → FieldType} {y : MethodName} {cc' : ByteArray} {rm : Room} {fs : List Value} {E : Nat → Nat → State → Prop} {Wf : (Nat → ClassId) → Nat → List Nat → va_W} (X : ki_Cx R cc nL own cA Z) (hM : ki_Met y cc' nL' rm ci fs E Wf) (hc : tc_cl[ci]? = some (C, T, N)) (hin : ∀ w ∈ u_ws C T N, w ∈ tc_tb) (hty : ∀ k, k < N → parseFieldDescriptor (T k).2.2.1 = some (ty0 k)) (hfs : ∀ j, j < N → defaultValue (ty0 j) = vp_V fs j) (w1 : Cond.classLink own ixc C ∈ tc_tb) (w2 : Cond.instantiable C N ∈ tc_tb) (w3 : Cond.initialized C ∈ tc_tb) (w4 : Cond.code y cc' nL' none ∈ tc_tb) (w5 : Cond.instanceMethod y ∈ tc_tb) (w6 : Cond.methodLink own ixm y ∈ tc_tb) (hyc : y.cls = C) (hyn : y.name = "<init>") (hdy : y.cls ≠ "java/lang/invoke/MethodHandle" ∧ y.cls ≠ "java/lang/invoke/VarHandle" ∧ (parseMethodDescriptor y.desc).map (fun d => d.parameters.length) = some 0) (hR : rm.frames + 1 ≤ R.frames ∧ 8 + (nL' + 11) + rm.locals ≤ R.locals) (hcs : n.1 + 1 + rm.cells ≤ R.cells ∧ n.2 + N + rm.slots ≤ R.slots) (hE1 : ∀ q sz U g mk a, E q sz U → E q sz (State.calling U g mk a)) (hE2 : ki_Ec E (.inr (ci, fs)) Z) (d1 : decode cc pc = .ok (.new ixc, 3)) (d2 : decode cc (pc + 3) = .ok (.dup, 1)) (d3 : decode cc (pc + 3 + 1) = .ok (.invokespecial ixm, 3)) (hKr : (K.map fun v => v.category).sum ≤ 7) (h : ∀ (q : Nat) (u : List Nat), ki_At nL Z (pc + 3 + 1 + 3) L (.ref q :: K) (ws ++ Wf cA q u) (n.1 + 1 + rm.cells, n.2 + N + rm.slots)) : ki_At nL Z pc L K ws n := by
  obtain ⟨p, l, e, R', s, m, args, below, meth, c, n0, Q, Ts, D, ad, cA', A⟩ := Z
  obtain ⟨rfl, ⟨hx, hb, hml, hown, hts⟩, hK, hA, hTs, rfl⟩ := X
  intro H locs ls hP hD hS hl
  refine va_new (ci := ci) (fs := fs) (C := C) (T := T) (N := N) hx hb hts (fun w hw => hTs w (hin w hw)) ty0 hty hown (hts _ (hTs _ w1)) (hts _ (hTs _ w2)) (hts _ (hTs _ w3)) hK hP hD hS hA hc hfs (by omega) (by omega) d1 (fun q H hP hD hS => ?_)
  refine lv_dup hx hb d2 rfl ?_
  have hF := ki_free hD hS hA
  obtain ⟨hPc, hDc⟩ := ki_last (A := A) hP
  refine va_callv (va_runI (As := []) (rest := .ref q :: K) ⟨hx, hb, hml, hown, hts⟩ (hM l D cA' q H.size) (cwI 0 hts (tc_goodIn hTs w4) rfl rfl rfl (by rw [hyc]; exact hts _ (hTs _ w3)) (hts _ (hTs _ w6)) (hts _ (hTs _ w5)) hyn hdy hR) ⟨fun a U g mk z => by obtain ⟨z0, z1, z2, z3, z4, z5⟩ := z; exact ⟨z0, z1, z2, va_K.moved (u := U) (U := U.calling g mk a) (Vm.Alike.refl U.vm) z3, z4, hE1 _ _ _ _ _ _ z5⟩, fun U hU hW => ⟨rfl, by rw [hU], by rw [hU]; exact hPc, va_K.moved hW.alike hK, hDc, hE2 q H locs U hS hF hU hW⟩⟩ rfl rfl hl.1 rfl (by simpa [F0, Value.category] using (show 1 + (K.map fun v => v.category).sum ≤ 8 by omega)) d3 hcs) hS (fun a _ g => hF a g) hF (fun u t H1 locs1 ht hvm hw hB hz1 hk1 hS1 => ?_)
  obtain ⟨hP1, hD1⟩ := hB
  rw [ht] at hP1
  obtain ⟨hP2, hD2⟩ := ki_join hP hD hk1 hF hP1 hD1
  exact h q u H1 locs1 ls hP2 hD2 hS1 hl
end KIMET
