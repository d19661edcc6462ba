/-! fields, arrays, statics, constants, switches -/
def tc_fld (ci k : Nat) (q : Nat × Nat) : Option (Nat × Nat) := match q.1 with
  | 0 => (match tc_lay[q.2]? with
    | some (.inl o) => (match Nat.beq o.1 ci with
      | true => o.2[k]?
      | false => none)
    | _ => none)
  | _ => none
theorem tc_fld_spec {ci k : Nat} {q f : Nat × Nat} (h : tc_fld ci k q = some f) : ∃ (i : Nat) (fs : List (Nat × Nat)), q = (0, i) ∧ tc_lay[i]? = some (.inl (ci, fs)) ∧ fs[k]? = some f := by
  obtain ⟨q1, i⟩ := q
  simp only [tc_fld] at h
  split at h
  · split at h
    · rename_i o ho
      split at h
      · rename_i hb
        obtain ⟨o1, fs⟩ := o
        have e : o1 = ci := Nat.eq_of_beq_eq_true hb
        subst e
        exact ⟨i, fs, rfl, ho, h⟩
      · cases h
    · cases h
  · cases h
def tc_arr (q : Nat × Nat) : Option (Nat × Nat) := match q.1 with
  | 0 => (match tc_lay[q.2]? with
    | some (.inr a) => some a
    | _ => none)
  | _ => none
theorem tc_arr_spec {q a : Nat × Nat} (h : tc_arr q = some a) : ∃ i : Nat, q = (0, i) ∧ tc_lay[i]? = some (.inr a) := by
  obtain ⟨q1, i⟩ := q
  simp only [tc_arr] at h
  split at h
  · split at h
    · rename_i o ho
      cases h
      exact ⟨i, rfl, ho⟩
    · cases h
  · cases h
theorem tc_cell_o {ad : Nat → Nat → Nat} {cA : Nat → ClassId} {S : tc_S} {i ci : Nat} {fs : List (Nat × Nat)} : tc_cell ad cA S i (.inl (ci, fs)) = (ad 0 i, .inr (ci, fs.mapIdx (fun k f => tc_v ad (tc_fv S i k f)))) := rfl
theorem tc_cell_i {ad : Nat → Nat → Nat} {cA : Nat → ClassId} {S : tc_S} {i n : Nat} : tc_cell ad cA S i (.inr (0, n)) = (ad 0 i, .inl (cA 0, n, .inl (S.1 i))) := rfl
theorem tc_cell_z {ad : Nat → Nat → Nat} {cA : Nat → ClassId} {S : tc_S} {i n : Nat} : tc_cell ad cA S i (.inr (1, n)) = (ad 0 i, .inl (cA 1, n, .inl (S.1 i))) := rfl
theorem tc_cell_j {ad : Nat → Nat → Nat} {cA : Nat → ClassId} {S : tc_S} {i n : Nat} : tc_cell ad cA S i (.inr (2, n)) = (ad 0 i, .inl (cA 2, n, .inr (.inl (S.2.1 i)))) := rfl
theorem tc_ui_self (S : tc_S) (i k : Nat) (x : Int32) : (tc_ui S i k x).1 i = upd (S.1 i) k x := if_pos rfl
theorem tc_ul_self (S : tc_S) (i k : Nat) (x : Int64) : (tc_ul S i k x).2.1 i = vp_updL (S.2.1 i) k x := if_pos rfl
theorem tc_put_i {ad : Nat → Nat → Nat} {S : tc_S} {i k c0 : Nat} {x : Int32} {fs : List (Nat × Nat)} (hk : fs[k]? = some (0, c0)) : fs.mapIdx (fun k' f => tc_v ad (tc_fv (tc_ui S i k x) i k' f)) = (fs.mapIdx (fun k' f => tc_v ad (tc_fv S i k' f))).set k (.int x) := by
  apply List.ext_getElem?
  intro j
  rw [List.getElem?_set, List.getElem?_mapIdx, List.getElem?_mapIdx, List.length_mapIdx]
  have hl := (List.getElem?_eq_some_iff.mp hk).1
  by_cases hj : k = j
  · subst hj
    rw [if_pos rfl, if_pos hl, hk]
    simp only [Option.map_some, tc_fv, tc_ui_self, upd, if_pos, tc_v]
  · rw [if_neg hj]
    cases hf : fs[j]? with
    | none => rfl
    | some f =>
      have e : (tc_ui S i k x).1 i j = S.1 i j := by
        rw [tc_ui_self]
        exact if_neg (fun e => hj e.symm)
      have e2 : (tc_ui S i k x).2 = S.2 := rfl
      simp only [Option.map_some, tc_fv, e, e2]
theorem tc_put_j {ad : Nat → Nat → Nat} {S : tc_S} {i k c0 : Nat} {x : Int64} {fs : List (Nat × Nat)} (hk : fs[k]? = some (1, c0)) : fs.mapIdx (fun k' f => tc_v ad (tc_fv (tc_ul S i k x) i k' f)) = (fs.mapIdx (fun k' f => tc_v ad (tc_fv S i k' f))).set k (.long x) := by
  apply List.ext_getElem?
  intro j
  rw [List.getElem?_set, List.getElem?_mapIdx, List.getElem?_mapIdx, List.length_mapIdx]
  have hl := (List.getElem?_eq_some_iff.mp hk).1
  by_cases hj : k = j
  · subst hj
    rw [if_pos rfl, if_pos hl, hk]
    simp only [Option.map_some, tc_fv, tc_ul_self, vp_updL, if_pos, tc_v]
  · rw [if_neg hj]
    cases hf : fs[j]? with
    | none => rfl
    | some f =>
      have e : (tc_ul S i k x).2.1 i j = S.2.1 i j := by
        rw [tc_ul_self]
        exact if_neg (fun e => hj e.symm)
      have e1 : (tc_ul S i k x).1 = S.1 := rfl
      have e2 : (tc_ul S i k x).2.2 = S.2.2 := rfl
      simp only [Option.map_some, tc_fv, e, e1, e2]
section TCHEAP
variable {R : Room} {cc : ByteArray} {nL : Nat} {own : String} {Z : tc_Z} {pc : Nat} {k kt kf : tc_B}
def tb_getf (ci f : Nat) (k : tc_B) : tc_B := fun L K S => match K with
  | .inr (.inr q) :: r => (match tc_fld ci f q with
    | some t => k L (tc_fv S q.2 f t :: r) S
    | none => False)
  | _ => False
theorem to_getf {ci f ix N : Nat} {C : String} {T : u_T} (X : tc_Cx R cc nL own Z) (hc : tc_cl[ci]? = some (C, T, N)) (hf : f < N) (hin : ∀ w ∈ u_ws C T N, w ∈ tc_tb) (hw : Cond.fieldLink own ix (T f).1 (T f).2.1 (T f).2.2.1 ∈ tc_tb) (hd : decode cc pc = .ok (.getfield ix, 3)) (h : tc_Ok nL Z (pc + 3) k) : tc_Ok nL Z pc (tb_getf ci f k) := by
  obtain ⟨p, l, e, R', s, m, args, below, meth, c, n, Q, Ts, D, ad, cA, A⟩ := Z
  obtain ⟨rfl, ⟨hx, hb, hml, hown, hts⟩, hK, hA, hSt, hTs, hn⟩ := X
  intro L K S hb9 H locs ls hP hD hS hl
  simp only [tb_getf] at hb9
  split at hb9
  · split at hb9
    · rename_i q r o t ht
      obtain ⟨i, fs, rfl, h1, h2⟩ := tc_fld_spec ht
      exact va_get (D := D) (ci := ci) (v := tc_v ad (tc_fv S i f t)) (C := C) (T := T) (N := N) hx hb hts (fun w hw => hTs w (hin w hw)) hown hK hP i (tc_W_at h1) hc f hf (hts _ (hTs _ hw)) (fun _ h9 => h9) (by rw [List.getElem?_mapIdx, h2]; rfl) hd (h _ _ _ hb9 H locs ls hP hD hS hl)
    · exact hb9.elim
  · exact hb9.elim
def tb_putI (ci f : Nat) (k : tc_B) : tc_B := fun L K S => match K with
  | .inl x :: .inr (.inr q) :: r => (match tc_fld ci f q with
    | some (0, _) => k L r (tc_ui S q.2 f x)
    | _ => False)
  | _ => False
def tb_putZ (ci f : Nat) (k : tc_B) : tc_B := fun L K S => match K with
  | .inl x :: .inr (.inr q) :: r => (match tc_fld ci f q with
    | some (0, _) => (narrow .boolean (.int x) = .int x ∧ fits .boolean (.int x) = true) ∧ k L r (tc_ui S q.2 f x)
    | _ => False)
  | _ => False
def tb_putJ (ci f : Nat) (k : tc_B) : tc_B := fun L K S => match K with
  | .inr (.inl x) :: .inr (.inr q) :: r => (match tc_fld ci f q with
    | some (1, _) => k L r (tc_ul S q.2 f x)
    | _ => False)
  | _ => False
def tb_putR (ci f : Nat) (k : tc_B) : tc_B := fun L K S => match K with
  | .inr (.inr (1, x)) :: .inr (.inr q) :: r => (match tc_fld ci f q with
    | some (3, _) => k L r (tc_ur S x)
    | _ => False)
  | _ => False
theorem to_putI {ci f ix N : Nat} {C : String} {T : u_T} {ty0 : Nat → FieldType} (X : tc_Cx R cc nL own Z) (hc : tc_cl[ci]? = some (C, T, N)) (hf : f < N) (hin : ∀ w ∈ u_ws C T N, w ∈ tc_tb) (hty : ∀ k, k < N → parseFieldDescriptor (T k).2.2.1 = some (ty0 k)) (hnm : ∀ a, a < N → ∀ b, b < N → a ≠ b → (T a).2.1 ≠ (T b).2.1) (hfin : (T f).2.2.2 = false) (ht : ty0 f = .int) (hw : Cond.fieldLink own ix (T f).1 (T f).2.1 (T f).2.2.1 ∈ tc_tb) (hd : decode cc pc = .ok (.putfield ix, 3)) (h : tc_Ok nL Z (pc + 3) k) : tc_Ok nL Z pc (tb_putI ci f k) := by
  obtain ⟨p, l, e, R', s, m, args, below, meth, c, n, Q, Ts, D, ad, cA, A⟩ := Z
  obtain ⟨rfl, ⟨hx, hb, hml, hown, hts⟩, hK, hA, hSt, hTs, hn⟩ := X
  intro L K S hb9 H locs ls hP hD hS hl
  simp only [tb_putI] at hb9
  split at hb9
  · split at hb9
    · rename_i x q r o z ht9
      obtain ⟨i, fs, rfl, h1, h2⟩ := tc_fld_spec ht9
      have hset : (tc_W ad cA S).set i (ad 0 i, .inr (ci, (fs.mapIdx (fun k' f => tc_v ad (tc_fv S i k' f))).set f (.int x))) = tc_W ad cA (tc_ui S i f x) := tc_W_set h1 (by rw [tc_cell_o, tc_put_i h2]) (fun j c' hj _ => tc_cell_ui hj)
      refine va_put (D := D) (ci := ci) (v := .int x) (ty := .int) (C := C) (T := T) (N := N) hx hb hts (fun w hw => hTs w (hin w hw)) ty0 hty hnm hown hK hP hD hS i (tc_W_at h1) hc f hf (hts _ (hTs _ hw)) (fun _ h9 => h9) hfin (by rw [hty f hf, ht]) rfl rfl (by rw [List.length_mapIdx]; exact (List.getElem?_eq_some_iff.mp h2).1) hd (fun H1 locs1 hP1 hD1 hS1 => ?_)
      rw [hset] at hP1 hD1
      exact h _ _ _ hb9 H1 locs1 ls hP1 hD1 hS1 hl
    · exact hb9.elim
  · exact hb9.elim
theorem to_putZ {ci f ix N : Nat} {C : String} {T : u_T} {ty0 : Nat → FieldType} (X : tc_Cx R cc nL own Z) (hc : tc_cl[ci]? = some (C, T, N)) (hf : f < N) (hin : ∀ w ∈ u_ws C T N, w ∈ tc_tb) (hty : ∀ k, k < N → parseFieldDescriptor (T k).2.2.1 = some (ty0 k)) (hnm : ∀ a, a < N → ∀ b, b < N → a ≠ b → (T a).2.1 ≠ (T b).2.1) (hfin : (T f).2.2.2 = false) (ht : ty0 f = .boolean) (hw : Cond.fieldLink own ix (T f).1 (T f).2.1 (T f).2.2.1 ∈ tc_tb) (hd : decode cc pc = .ok (.putfield ix, 3)) (h : tc_Ok nL Z (pc + 3) k) : tc_Ok nL Z pc (tb_putZ ci f k) := by
  obtain ⟨p, l, e, R', s, m, args, below, meth, c, n, Q, Ts, D, ad, cA, A⟩ := Z
  obtain ⟨rfl, ⟨hx, hb, hml, hown, hts⟩, hK, hA, hSt, hTs, hn⟩ := X
  intro L K S hb9 H locs ls hP hD hS hl
  simp only [tb_putZ] at hb9
  split at hb9
  · split at hb9
    · rename_i x q r o z ht9
      obtain ⟨i, fs, rfl, h1, h2⟩ := tc_fld_spec ht9
      have hset : (tc_W ad cA S).set i (ad 0 i, .inr (ci, (fs.mapIdx (fun k' f => tc_v ad (tc_fv S i k' f))).set f (.int x))) = tc_W ad cA (tc_ui S i f x) := tc_W_set h1 (by rw [tc_cell_o, tc_put_i h2]) (fun j c' hj _ => tc_cell_ui hj)
      refine va_put (D := D) (ci := ci) (v := .int x) (ty := .boolean) (C := C) (T := T) (N := N) hx hb hts (fun w hw => hTs w (hin w hw)) ty0 hty hnm hown hK hP hD hS i (tc_W_at h1) hc f hf (hts _ (hTs _ hw)) (fun _ h9 => h9) hfin (by rw [hty f hf, ht]) hb9.1.1 hb9.1.2 (by rw [List.length_mapIdx]; exact (List.getElem?_eq_some_iff.mp h2).1) hd (fun H1 locs1 hP1 hD1 hS1 => ?_)
      rw [hset] at hP1 hD1
      exact h _ _ _ hb9.2 H1 locs1 ls hP1 hD1 hS1 hl
    · exact hb9.elim
  · exact hb9.elim
theorem to_putJ {ci f ix N : Nat} {C : String} {T : u_T} {ty0 : Nat → FieldType} (X : tc_Cx R cc nL own Z) (hc : tc_cl[ci]? = some (C, T, N)) (hf : f < N) (hin : ∀ w ∈ u_ws C T N, w ∈ tc_tb) (hty : ∀ k, k < N → parseFieldDescriptor (T k).2.2.1 = some (ty0 k)) (hnm : ∀ a, a < N → ∀ b, b < N → a ≠ b → (T a).2.1 ≠ (T b).2.1) (hfin : (T f).2.2.2 = false) (ht : ty0 f = .long) (hw : Cond.fieldLink own ix (T f).1 (T f).2.1 (T f).2.2.1 ∈ tc_tb) (hd : decode cc pc = .ok (.putfield ix, 3)) (h : tc_Ok nL Z (pc + 3) k) : tc_Ok nL Z pc (tb_putJ ci f k) := by
  obtain ⟨p, l, e, R', s, m, args, below, meth, c, n, Q, Ts, D, ad, cA, A⟩ := Z
  obtain ⟨rfl, ⟨hx, hb, hml, hown, hts⟩, hK, hA, hSt, hTs, hn⟩ := X
  intro L K S hb9 H locs ls hP hD hS hl
  simp only [tb_putJ] at hb9
  split at hb9
  · split at hb9
    · rename_i x q r o z ht9
      obtain ⟨i, fs, rfl, h1, h2⟩ := tc_fld_spec ht9
      have hset : (tc_W ad cA S).set i (ad 0 i, .inr (ci, (fs.mapIdx (fun k' f => tc_v ad (tc_fv S i k' f))).set f (.long x))) = tc_W ad cA (tc_ul S i f x) := tc_W_set h1 (by rw [tc_cell_o, tc_put_j h2]) (fun j c' hj _ => tc_cell_ul hj)
      refine va_put (D := D) (ci := ci) (v := .long x) (ty := .long) (C := C) (T := T) (N := N) hx hb hts (fun w hw => hTs w (hin w hw)) ty0 hty hnm hown hK hP hD hS i (tc_W_at h1) hc f hf (hts _ (hTs _ hw)) (fun _ h9 => h9) hfin (by rw [hty f hf, ht]) rfl rfl (by rw [List.length_mapIdx]; exact (List.getElem?_eq_some_iff.mp h2).1) hd (fun H1 locs1 hP1 hD1 hS1 => ?_)
      rw [hset] at hP1 hD1
      exact h _ _ _ hb9 H1 locs1 ls hP1 hD1 hS1 hl
    · exact hb9.elim
  · exact hb9.elim
-- arrays
def tb_iald (k : tc_B) : tc_B := fun L K S => match K with
  | .inl i :: .inr (.inr q) :: r => (match tc_arr q with
    | some (0, n) => vp_in i n ∧ k L (.inl (S.1 q.2 i.toNatClampNeg) :: r) S
    | _ => False)
  | _ => False
def tb_zald (k : tc_B) : tc_B := fun L K S => match K with
  | .inl i :: .inr (.inr q) :: r => (match tc_arr q with
    | some (1, n) => vp_in i n ∧ k L (.inl (S.1 q.2 i.toNatClampNeg) :: r) S
    | _ => False)
  | _ => False
def tb_jald (k : tc_B) : tc_B := fun L K S => match K with
  | .inl i :: .inr (.inr q) :: r => (match tc_arr q with
    | some (2, n) => vp_in i n ∧ k L (.inr (.inl (S.2.1 q.2 i.toNatClampNeg)) :: r) S
    | _ => False)
  | _ => False
theorem to_iald (X : tc_Cx R cc nL own Z) (hd : decode cc pc = .ok (.iaload, 1)) (h : tc_Ok nL Z (pc + 1) k) : tc_Ok nL Z pc (tb_iald k) := by
  obtain ⟨p, l, e, R', s, m, args, below, meth, c, n, Q, Ts, D, ad, cA, A⟩ := Z
  obtain ⟨rfl, ⟨hx, hb, hml, hown, hts⟩, hK, hA, hSt, hTs, hn⟩ := X
  intro L K S hb9 H locs ls hP hD hS hl
  simp only [tb_iald] at hb9
  split at hb9
  · split at hb9
    · rename_i x q r o nn ht9
      obtain ⟨i, rfl, h1⟩ := tc_arr_spec ht9
      exact va_iald hx hb hK hP i 0 (tc_W_at h1) rfl hb9.1 hd (h _ _ _ hb9.2 H locs ls hP hD hS hl)
    · exact hb9.elim
  · exact hb9.elim
theorem to_zald (X : tc_Cx R cc nL own Z) (hd : decode cc pc = .ok (.baload, 1)) (h : tc_Ok nL Z (pc + 1) k) : tc_Ok nL Z pc (tb_zald k) := by
  obtain ⟨p, l, e, R', s, m, args, below, meth, c, n, Q, Ts, D, ad, cA, A⟩ := Z
  obtain ⟨rfl, ⟨hx, hb, hml, hown, hts⟩, hK, hA, hSt, hTs, hn⟩ := X
  intro L K S hb9 H locs ls hP hD hS hl
  simp only [tb_zald] at hb9
  split at hb9
  · split at hb9
    · rename_i x q r o nn ht9
      obtain ⟨i, rfl, h1⟩ := tc_arr_spec ht9
      exact va_zald hx hb hK hP i 1 (tc_W_at h1) rfl hb9.1 hd (h _ _ _ hb9.2 H locs ls hP hD hS hl)
    · exact hb9.elim
  · exact hb9.elim
theorem to_jald (X : tc_Cx R cc nL own Z) (hd : decode cc pc = .ok (.laload, 1)) (h : tc_Ok nL Z (pc + 1) k) : tc_Ok nL Z pc (tb_jald k) := by
  obtain ⟨p, l, e, R', s, m, args, below, meth, c, n, Q, Ts, D, ad, cA, A⟩ := Z
  obtain ⟨rfl, ⟨hx, hb, hml, hown, hts⟩, hK, hA, hSt, hTs, hn⟩ := X
  intro L K S hb9 H locs ls hP hD hS hl
  simp only [tb_jald] at hb9
  split at hb9
  · split at hb9
    · rename_i x q r o nn ht9
      obtain ⟨i, rfl, h1⟩ := tc_arr_spec ht9
      exact va_lald hx hb hK hP i 2 (tc_W_at h1) rfl hb9.1 hd (h _ _ _ hb9.2 H locs ls hP hD hS hl)
    · exact hb9.elim
  · exact hb9.elim
def tb_iast (k : tc_B) : tc_B := fun L K S => match K with
  | .inl x :: .inl i :: .inr (.inr q) :: r => (match tc_arr q with
    | some (0, n) => vp_in i n ∧ k L r (tc_ui S q.2 i.toNatClampNeg x)
    | _ => False)
  | _ => False
def tb_zast (k : tc_B) : tc_B := fun L K S => match K with
  | .inl x :: .inl i :: .inr (.inr q) :: r => (match tc_arr q with
    | some (1, n) => vp_in i n ∧ k L r (tc_ui S q.2 i.toNatClampNeg (vp_nar .boolean x))
    | _ => False)
  | _ => False
def tb_jast (k : tc_B) : tc_B := fun L K S => match K with
  | .inr (.inl x) :: .inl i :: .inr (.inr q) :: r => (match tc_arr q with
    | some (2, n) => vp_in i n ∧ k L r (tc_ul S q.2 i.toNatClampNeg x)
    | _ => False)
  | _ => False
theorem to_iast (X : tc_Cx R cc nL own Z) (hd : decode cc pc = .ok (.iastore, 1)) (h : tc_Ok nL Z (pc + 1) k) : tc_Ok nL Z pc (tb_iast k) := by
  obtain ⟨p, l, e, R', s, m, args, below, meth, c, n, Q, Ts, D, ad, cA, A⟩ := Z
  obtain ⟨rfl, ⟨hx, hb, hml, hown, hts⟩, hK, hA, hSt, hTs, hn⟩ := X
  intro L K S hb9 H locs ls hP hD hS hl
  simp only [tb_iast] at hb9
  split at hb9
  · split at hb9
    · rename_i x y q r o nn ht9
      obtain ⟨i, rfl, h1⟩ := tc_arr_spec ht9
      have hset : (tc_W ad cA S).set i (ad 0 i, .inl (cA 0, nn, .inl (upd (S.1 i) y.toNatClampNeg x))) = tc_W ad cA (tc_ui S i y.toNatClampNeg x) := tc_W_set h1 (by rw [tc_cell_i, tc_ui_self]) (fun j c' hj _ => tc_cell_ui hj)
      refine va_iast hx hb hK hP hD hS i 0 (tc_W_at h1) rfl hb9.1 hd (fun H1 locs1 hP1 hD1 hS1 => ?_)
      rw [hset] at hP1 hD1
      exact h _ _ _ hb9.2 H1 locs1 ls hP1 hD1 hS1 hl
    · exact hb9.elim
  · exact hb9.elim
theorem to_zast (X : tc_Cx R cc nL own Z) (hd : decode cc pc = .ok (.bastore, 1)) (h : tc_Ok nL Z (pc + 1) k) : tc_Ok nL Z pc (tb_zast k) := by
  obtain ⟨p, l, e, R', s, m, args, below, meth, c, n, Q, Ts, D, ad, cA, A⟩ := Z
  obtain ⟨rfl, ⟨hx, hb, hml, hown, hts⟩, hK, hA, hSt, hTs, hn⟩ := X
  intro L K S hb9 H locs ls hP hD hS hl
  simp only [tb_zast] at hb9
  split at hb9
  · split at hb9
    · rename_i x y q r o nn ht9
      obtain ⟨i, rfl, h1⟩ := tc_arr_spec ht9
      have hset : (tc_W ad cA S).set i (ad 0 i, .inl (cA 1, nn, .inl (upd (S.1 i) y.toNatClampNeg (vp_nar .boolean x)))) = tc_W ad cA (tc_ui S i y.toNatClampNeg (vp_nar .boolean x)) := tc_W_set h1 (by rw [tc_cell_z, tc_ui_self]) (fun j c' hj _ => tc_cell_ui hj)
      refine va_zast hx hb hK hP hD hS i 1 (tc_W_at h1) rfl hb9.1 hd (fun H1 locs1 hP1 hD1 hS1 => ?_)
      rw [hset] at hP1 hD1
      exact h _ _ _ hb9.2 H1 locs1 ls hP1 hD1 hS1 hl
    · exact hb9.elim
  · exact hb9.elim
theorem to_jast (X : tc_Cx R cc nL own Z) (hd : decode cc pc = .ok (.lastore, 1)) (h : tc_Ok nL Z (pc + 1) k) : tc_Ok nL Z pc (tb_jast k) := by
  obtain ⟨p, l, e, R', s, m, args, below, meth, c, n, Q, Ts, D, ad, cA, A⟩ := Z
  obtain ⟨rfl, ⟨hx, hb, hml, hown, hts⟩, hK, hA, hSt, hTs, hn⟩ := X
  intro L K S hb9 H locs ls hP hD hS hl
  simp only [tb_jast] at hb9
  split at hb9
  · split at hb9
    · rename_i x y q r o nn ht9
      obtain ⟨i, rfl, h1⟩ := tc_arr_spec ht9
      have hset : (tc_W ad cA S).set i (ad 0 i, .inl (cA 2, nn, .inr (.inl (vp_updL (S.2.1 i) y.toNatClampNeg x)))) = tc_W ad cA (tc_ul S i y.toNatClampNeg x) := tc_W_set h1 (by rw [tc_cell_j, tc_ul_self]) (fun j c' hj _ => tc_cell_ul hj)
      refine va_last hx hb hK hP hD hS i 2 (tc_W_at h1) rfl hb9.1 hd (fun H1 locs1 hP1 hD1 hS1 => ?_)
      rw [hset] at hP1 hD1
      exact h _ _ _ hb9.2 H1 locs1 ls hP1 hD1 hS1 hl
    · exact hb9.elim
  · exact hb9.elim
def tb_alen (k : tc_B) : tc_B := fun L K S => match K with
  | .inr (.inr q) :: r => (match tc_arr q with
    | some (0, n) => k L (.inl (Int32.ofNat n) :: r) S
    | _ => False)
  | _ => False
theorem to_alen (X : tc_Cx R cc nL own Z) (hd : decode cc pc = .ok (.arraylength, 1)) (h : tc_Ok nL Z (pc + 1) k) : tc_Ok nL Z pc (tb_alen k) := by
  obtain ⟨p, l, e, R', s, m, args, below, meth, c, n, Q, Ts, D, ad, cA, A⟩ := Z
  obtain ⟨rfl, ⟨hx, hb, hml, hown, hts⟩, hK, hA, hSt, hTs, hn⟩ := X
  intro L K S hb9 H locs ls hP hD hS hl
  simp only [tb_alen] at hb9
  split at hb9
  · split at hb9
    · rename_i q r o nn ht9
      obtain ⟨i, rfl, h1⟩ := tc_arr_spec ht9
      exact va_alen (ty := .int) hx hb hK hP i 0 (tc_W_at h1) rfl rfl hd (h _ _ _ hb9 H locs ls hP hD hS hl)
    · exact hb9.elim
  · exact hb9.elim
-- statics and constants
def tb_gets (z : tc_V) (k : tc_B) : tc_B := fun L K S => k L (z :: K) S
theorem to_gets {C f d : String} {ix : Nat} {z : tc_V} (X : tc_Cx R cc nL own Z) (hz : (C, f, d, z) ∈ tc_zs) (hw : Cond.fieldLink own ix C f d ∈ tc_tb) (hd : decode cc pc = .ok (.getstatic ix, 3)) (h : tc_Ok nL Z (pc + 3) k) : tc_Ok nL Z pc (tb_gets z k) := by
  obtain ⟨p, l, e, R', s, m, args, below, meth, c, n, Q, Ts, D, ad, cA, A⟩ := Z
  obtain ⟨rfl, ⟨hx, hb, hml, hown, hts⟩, hK, hA, hSt, hTs, hn⟩ := X
  intro L K S hb9 H locs ls hP hD hS hl
  exact va_gets hx hb (hSt.1 _ hz) hS hown (hts _ (hTs _ hw)) (fun _ h9 => h9) hd (h _ _ _ hb9 H locs ls hP hD hS hl)
def tb_getE (kd N : Nat) (f : Nat → tc_V) (k : tc_B) : tc_B := fun L K S => match K with
  | .inr (.inr q) :: r => (match Nat.beq q.1 kd with
    | true => q.2 < N ∧ k L (f q.2 :: r) S
    | false => False)
  | _ => False
theorem to_getE {kd N ix : Nat} {o fn d : String} {f : Nat → tc_V} (X : tc_Cx R cc nL own Z) (hz : ((kd, N), o, fn, d, f) ∈ tc_fs) (hw : Cond.fieldLink own ix o fn d ∈ tc_tb) (hd : decode cc pc = .ok (.getfield ix, 3)) (h : tc_Ok nL Z (pc + 3) k) : tc_Ok nL Z pc (tb_getE kd N f k) := by
  obtain ⟨p, l, e, R', s, m, args, below, meth, c, n, Q, Ts, D, ad, cA, A⟩ := Z
  obtain ⟨rfl, ⟨hx, hb, hml, hown, hts⟩, hK, hA, hSt, hTs, hn⟩ := X
  intro L K S hb9 H locs ls hP hD hS hl
  simp only [tb_getE] at hb9
  split at hb9
  · split at hb9
    · rename_i q r o hq
      obtain ⟨q1, i⟩ := q
      have e9 : q1 = kd := Nat.eq_of_beq_eq_true hq
      subst e9
      exact vk_getf hx hb (hSt.2.2.2.2.1 _ hz i hb9.1) hS hown (hts _ (hTs _ hw)) (fun _ h9 => h9) hd (h _ _ _ hb9.2 H locs ls hP hD hS hl)
    · exact hb9.elim
  · exact hb9.elim
def tb_aaldR (k : tc_B) : tc_B := fun L K S => match K with
  | .inl i :: .inr (.inr (4, 0)) :: r => vp_in i 4 ∧ k L (.inr (.inr (1, i.toNatClampNeg)) :: r) S
  | _ => False
def tb_aaldC (k : tc_B) : tc_B := fun L K S => match K with
  | .inl i :: .inr (.inr (4, 1)) :: r => vp_in i 6 ∧ k L (.inr (.inr (2, i.toNatClampNeg)) :: r) S
  | _ => False
theorem to_aaldR (X : tc_Cx R cc nL own Z) (hd : decode cc pc = .ok (.aaload, 1)) (h : tc_Ok nL Z (pc + 1) k) : tc_Ok nL Z pc (tb_aaldR k) := by
  obtain ⟨p, l, e, R', s, m, args, below, meth, c, n, Q, Ts, D, ad, cA, A⟩ := Z
  obtain ⟨rfl, ⟨hx, hb, hml, hown, hts⟩, hK, hA, hSt, hTs, hn⟩ := X
  intro L K S hb9 H locs ls hP hD hS hl
  simp only [tb_aaldR] at hb9
  split at hb9
  · exact vb_tq hx hb hSt.2.2.2.2.2.1 hS hb9.1 rfl hd (h _ _ _ hb9.2 H locs ls hP hD hS hl)
  · exact hb9.elim
theorem to_aaldC (X : tc_Cx R cc nL own Z) (hd : decode cc pc = .ok (.aaload, 1)) (h : tc_Ok nL Z (pc + 1) k) : tc_Ok nL Z pc (tb_aaldC k) := by
  obtain ⟨p, l, e, R', s, m, args, below, meth, c, n, Q, Ts, D, ad, cA, A⟩ := Z
  obtain ⟨rfl, ⟨hx, hb, hml, hown, hts⟩, hK, hA, hSt, hTs, hn⟩ := X
  intro L K S hb9 H locs ls hP hD hS hl
  simp only [tb_aaldC] at hb9
  split at hb9
  · exact vb_tq hx hb hSt.2.2.2.2.2.2.1 hS hb9.1 rfl hd (h _ _ _ hb9.2 H locs ls hP hD hS hl)
  · exact hb9.elim
def tb_alenR (k : tc_B) : tc_B := fun L K S => match K with
  | .inr (.inr (4, 0)) :: r => k L (.inl 4 :: r) S
  | _ => False
def tb_alenC (k : tc_B) : tc_B := fun L K S => match K with
  | .inr (.inr (4, 1)) :: r => k L (.inl 6 :: r) S
  | _ => False
theorem to_alenR (X : tc_Cx R cc nL own Z) (hd : decode cc pc = .ok (.arraylength, 1)) (h : tc_Ok nL Z (pc + 1) k) : tc_Ok nL Z pc (tb_alenR k) := by
  obtain ⟨p, l, e, R', s, m, args, below, meth, c, n, Q, Ts, D, ad, cA, A⟩ := Z
  obtain ⟨rfl, ⟨hx, hb, hml, hown, hts⟩, hK, hA, hSt, hTs, hn⟩ := X
  intro L K S hb9 H locs ls hP hD hS hl
  simp only [tb_alenR] at hb9
  split at hb9
  · exact va_tlen hx hb hSt.2.2.2.2.2.1 hS (by decide) hd (h _ _ _ hb9 H locs ls hP hD hS hl)
  · exact hb9.elim
theorem to_alenC (X : tc_Cx R cc nL own Z) (hd : decode cc pc = .ok (.arraylength, 1)) (h : tc_Ok nL Z (pc + 1) k) : tc_Ok nL Z pc (tb_alenC k) := by
  obtain ⟨p, l, e, R', s, m, args, below, meth, c, n, Q, Ts, D, ad, cA, A⟩ := Z
  obtain ⟨rfl, ⟨hx, hb, hml, hown, hts⟩, hK, hA, hSt, hTs, hn⟩ := X
  intro L K S hb9 H locs ls hP hD hS hl
  simp only [tb_alenC] at hb9
  split at hb9
  · exact va_tlen hx hb hSt.2.2.2.2.2.2.1 hS (by decide) hd (h _ _ _ hb9 H locs ls hP hD hS hl)
  · exact hb9.elim
def tb_acmpR (kt kf : tc_B) : tc_B := fun L K S => match K with
  | .inr (.inr (1, y)) :: .inr (.inr (1, x)) :: r => x < 4 ∧ y < 4 ∧ (x = y → kf L r S) ∧ (¬ x = y → kt L r S)
  | _ => False
def tb_acmpC (kt kf : tc_B) : tc_B := fun L K S => match K with
  | .inr (.inr (2, y)) :: .inr (.inr (2, x)) :: r => x < 6 ∧ y < 6 ∧ (x = y → kf L r S) ∧ (¬ x = y → kt L r S)
  | _ => False
theorem to_acmpR {off : Int} {tgt : Nat} (X : tc_Cx R cc nL own Z) (hd : decode cc pc = .ok (.if_acmp .ne off, 3)) (hg : (pc : Int) + off = (tgt : Int)) (ht : tc_Ok nL Z tgt kt) (hf : tc_Ok nL Z (pc + 3) kf) : tc_Ok nL Z pc (tb_acmpR kt kf) := by
  obtain ⟨p, l, e, R', s, m, args, below, meth, c, n, Q, Ts, D, ad, cA, A⟩ := Z
  obtain ⟨rfl, ⟨hx, hb, hml, hown, hts⟩, hK, hA, hSt, hTs, hn⟩ := X
  intro L K S hb9 H locs ls hP hD hS hl
  simp only [tb_acmpR] at hb9
  split at hb9
  · rename_i y x r
    obtain ⟨b1, b2, b3, b4⟩ := hb9
    exact lv_acmp_ne (rx := some (ad 1 x)) (ry := some (ad 1 y)) hx hb hd hg (fun z => ht _ _ _ (b4 (fun e9 => z (by rw [e9]))) H locs ls hP hD hS hl) (fun z => hf _ _ _ (b3 (hSt.2.2.2.2.2.2.2.1 x y b1 b2 (Option.some.inj z))) H locs ls hP hD hS hl)
  · exact hb9.elim
theorem to_acmpC {off : Int} {tgt : Nat} (X : tc_Cx R cc nL own Z) (hd : decode cc pc = .ok (.if_acmp .ne off, 3)) (hg : (pc : Int) + off = (tgt : Int)) (ht : tc_Ok nL Z tgt kt) (hf : tc_Ok nL Z (pc + 3) kf) : tc_Ok nL Z pc (tb_acmpC kt kf) := by
  obtain ⟨p, l, e, R', s, m, args, below, meth, c, n, Q, Ts, D, ad, cA, A⟩ := Z
  obtain ⟨rfl, ⟨hx, hb, hml, hown, hts⟩, hK, hA, hSt, hTs, hn⟩ := X
  intro L K S hb9 H locs ls hP hD hS hl
  simp only [tb_acmpC] at hb9
  split at hb9
  · rename_i y x r
    obtain ⟨b1, b2, b3, b4⟩ := hb9
    exact lv_acmp_ne (rx := some (ad 2 x)) (ry := some (ad 2 y)) hx hb hd hg (fun z => ht _ _ _ (b4 (fun e9 => z (by rw [e9]))) H locs ls hP hD hS hl) (fun z => hf _ _ _ (b3 (hSt.2.2.2.2.2.2.2.2.1 x y b1 b2 (Option.some.inj z))) H locs ls hP hD hS hl)
  · exact hb9.elim
-- Math
def tb_mmax (k : tc_B) : tc_B := fun L K S => match K with
  | .inl y :: .inl x :: r => (match Nat.ble ((r.map tc_cat).sum + 13) 21 with
    | true => k L (.inl (if x < y then y else x) :: r) S
    | false => False)
  | _ => False
def tb_mabs (k : tc_B) : tc_B := fun L K S => match K with
  | .inr (.inl x) :: r => (match Nat.ble ((r.map tc_cat).sum + 13) 21 with
    | true => k L (.inr (.inl (if 0 < x then x else -x)) :: r) S
    | false => False)
  | _ => False
theorem tc_sumc (ad : Nat → Nat → Nat) (r : List tc_V) : ((r.map (tc_v ad)).map fun v => v.category).sum = (r.map tc_cat).sum := by
  rw [List.map_map]
  congr 1
  exact List.map_congr_left (fun v _ => tc_cat_v ad v)
theorem to_mmax {ix : Nat} (X : tc_Cx R cc nL own Z) (hR : 1 ≤ R.frames ∧ 21 ≤ R.locals) (h1 : Cond.methodLink own ix Lib.Math.max.name ∈ tc_tb) (h2 : Cond.static Lib.Math.max.name ∈ tc_tb) (h3 : Cond.initialized "java/lang/Math" ∈ tc_tb) (h4 : Cond.code Lib.Math.max.name Lib.Math.max.code 2 (some .int) ∈ tc_tb) (hd : decode cc pc = .ok (.invokestatic ix, 3)) (h : tc_Ok nL Z (pc + 3) k) : tc_Ok nL Z pc (tb_mmax k) := by
  obtain ⟨p, l, e, R', s, m, args, below, meth, c, n, Q, Ts, D, ad, cA, A⟩ := Z
  obtain ⟨rfl, ⟨hx, hb, hml, hown, hts⟩, hK, hA, hSt, hTs, hn⟩ := X
  intro L K S hb9 H locs ls hP hD hS hl
  simp only [tb_mmax] at hb9
  split at hb9
  · split at hb9
    · rename_i y x r o hle
      exact va_mmax hx hb (by rw [hml, hl.1]) hown (hts _ (hTs _ h1)) (hts _ (hTs _ h2)) (hts _ (hTs _ h3)) (hts _ (hTs _ h4)) hR.1 (by have q1 := Nat.le_of_ble_eq_true hle; have q2 := hR.2; rw [tc_sumc]; omega) hn.1 hn.2 hd (h _ _ _ hb9 H locs ls hP hD hS hl)
    · exact hb9.elim
  · exact hb9.elim
theorem to_mabs {ix : Nat} (X : tc_Cx R cc nL own Z) (hR : 1 ≤ R.frames ∧ 21 ≤ R.locals) (h1 : Cond.methodLink own ix Lib.MathLoose.abs_long.x ∈ tc_tb) (h2 : Cond.static Lib.MathLoose.abs_long.x ∈ tc_tb) (h3 : Cond.initialized "java/lang/Math" ∈ tc_tb) (h4 : Cond.code Lib.MathLoose.abs_long.x Lib.MathLoose.abs_long.code 2 (some .long) ∈ tc_tb) (hd : decode cc pc = .ok (.invokestatic ix, 3)) (h : tc_Ok nL Z (pc + 3) k) : tc_Ok nL Z pc (tb_mabs k) := by
  obtain ⟨p, l, e, R', s, m, args, below, meth, c, n, Q, Ts, D, ad, cA, A⟩ := Z
  obtain ⟨rfl, ⟨hx, hb, hml, hown, hts⟩, hK, hA, hSt, hTs, hn⟩ := X
  intro L K S hb9 H locs ls hP hD hS hl
  simp only [tb_mabs] at hb9
  split at hb9
  · split at hb9
    · rename_i x r o hle
      exact va_mabs_long hx hb (by rw [hml, hl.1]) hown (hts _ (hTs _ h1)) (hts _ (hTs _ h2)) (hts _ (hTs _ h3)) (hts _ (hTs _ h4)) hR.1 (by have q1 := Nat.le_of_ble_eq_true hle; have q2 := hR.2; rw [tc_sumc]; omega) hn.1 hn.2 hd (h _ _ _ hb9 H locs ls hP hD hS hl)
    · exact hb9.elim
  · exact hb9.elim
-- switches
def tc_sw (x : Int32) (r : List tc_V) (L : tc_L) (S : tc_S) : Int32 → List tc_B → Prop
  | _, [] => True
  | i, k :: ks => (x = i → k L r S) ∧ tc_sw x r L S (i + 1) ks
def tb_tsw (lo hi : Int32) (ks : List tc_B) (kd : tc_B) : tc_B := fun L K S => match K with
  | .inl x :: r => ((x < lo ∨ hi < x) → kd L r S) ∧ tc_sw x r L S lo ks
  | _ => False
def tc_swOk (nL : Nat) (Z : tc_Z) : List Nat → List tc_B → Prop
  | [], [] => True
  | t :: ts, k :: ks => tc_Ok nL Z t k ∧ tc_swOk nL Z ts ks
  | _, _ => False
theorem tc_sw_at {x : Int32} {r : List tc_V} {L : tc_L} {S : tc_S} {Z : tc_Z} : ∀ (ks : List tc_B) (ts : List Nat) (lo : Int32) (j t : Nat), tc_sw x r L S lo ks → tc_swOk nL Z ts ks → ts[j]? = some t → x = lo + Int32.ofNat j → tc_At nL Z t L r S := by
  intro ks
  induction ks with
  | nil =>
    intro ts lo j t h1 h2 h3 h4
    cases ts with
    | nil => simp at h3
    | cons a b => exact h2.elim
  | cons k ks ih =>
    intro ts lo j t h1 h2 h3 h4
    cases ts with
    | nil => exact h2.elim
    | cons a b =>
      cases j with
      | zero =>
        simp at h3
        subst h3
        exact h2.1 _ _ _ (h1.1 (by rw [h4]; simp))
      | succ j =>
        simp at h3
        refine ih b (lo + 1) j t h1.2 h2.2 h3 ?_
        rw [h4, show Int32.ofNat (j + 1) = nI (j + 1) from rfl, nI_succ, Int32.add_assoc, Int32.add_comm 1]
        rfl
theorem to_tsw {dflt lo hi : Int} {offs : Array Int} {len td : Nat} {lo' hi' : Int32} {ks : List tc_B} {kd : tc_B} (ts : List Nat) (X : tc_Cx R cc nL own Z) (hd : decode cc pc = .ok (.tableswitch dflt lo hi offs, len)) (hlo : lo'.toInt = lo) (hhi : hi'.toInt = hi) (h0 : 0 ≤ lo ∧ hi < 1000000) (hts9 : offs.toList.map (fun o => (pc : Int) + o) = ts.map Int.ofNat) (hlen : hi < lo + ts.length) (hdt : (pc : Int) + dflt = (td : Int)) (hdf : tc_Ok nL Z td kd) (h : tc_swOk nL Z ts ks) : tc_Ok nL Z pc (tb_tsw lo' hi' ks kd) := by
  intro L K S hb9
  simp only [tb_tsw] at hb9
  split at hb9
  · rename_i x r
    by_cases hout : x < lo' ∨ hi' < x
    · have h2 := hdf _ _ _ (hb9.1 hout)
      obtain ⟨p, l, e, R', s, m, args, below, meth, c, n, Q, Ts, D, ad, cA, A⟩ := Z
      obtain ⟨rfl, ⟨hx, hb, hml, hown, hts⟩, hK, hA, hSt, hTs, hn⟩ := X
      intro H locs ls hP hD hS hl
      refine lv_tableOut hx hb hd ?_ hdt (h2 H locs ls hP hD hS hl)
      rcases hout with q | q
      · exact Or.inl (by rw [← hlo]; exact Int32.lt_iff_toInt_lt.mp q)
      · exact Or.inr (by rw [← hhi]; exact Int32.lt_iff_toInt_lt.mp q)
    · have q1 : ¬ x.toInt < lo := by rw [← hlo]; exact fun q => hout (Or.inl (Int32.lt_iff_toInt_lt.mpr q))
      have q2 : ¬ hi < x.toInt := by rw [← hhi]; exact fun q => hout (Or.inr (Int32.lt_iff_toInt_lt.mpr q))
      obtain ⟨j, hj⟩ : ∃ j : Nat, x.toInt - lo = j := ⟨(x.toInt - lo).toNat, by omega⟩
      have hjl : j < ts.length := by omega
      obtain ⟨t, ht⟩ : ∃ t, ts[j]? = some t := ⟨ts[j], List.getElem?_eq_getElem hjl⟩
      have ho : (offs.toList.map (fun o => (pc : Int) + o))[j]? = some (Int.ofNat t) := by
        rw [hts9, List.getElem?_map, ht]
        rfl
      rw [List.getElem?_map] at ho
      cases hof : offs.toList[j]? with
      | none => rw [hof] at ho; cases ho
      | some off =>
        rw [hof] at ho
        have hpc : (pc : Int) + off = (t : Int) := Option.some.inj ho
        have hxe : x = lo' + Int32.ofNat j := by
          apply Int32.toInt_inj.mp
          have e1 : (Int32.ofNat j).toInt = (j : Int) := nI_toInt (by omega)
          rw [Jvm.Kit.i32_add (by rw [e1]; omega) (by rw [e1]; omega), e1, hlo]
          omega
        have h2 := tc_sw_at ks ts lo' j t hb9.2 h ht hxe
        obtain ⟨p, l, e, R', s, m, args, below, meth, c, n, Q, Ts, D, ad, cA, A⟩ := Z
        obtain ⟨rfl, ⟨hx, hb, hml, hown, hts⟩, hK, hA, hSt, hTs, hn⟩ := X
        intro H locs ls hP hD hS hl
        refine lv_tableIn (off := off) (tgt := t) hx hb hd q1 q2 ?_ hpc (h2 H locs ls hP hD hS hl)
        rw [hj]
        show offs[((j : Int)).toNat]? = some off
        rw [Int.toNat_natCast, ← Array.getElem?_toList]
        exact hof
  · exact hb9.elim
end TCHEAP
