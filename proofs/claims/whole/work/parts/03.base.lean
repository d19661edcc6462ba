/-! A walk is not written out instruction by instruction: each instruction is a small function on predicates (tb_..: what must hold ahead of it so that what is asked for holds behind it), and one law (to_..) says that the machine does so. A method's blocks are made of them (by a program); what a block asks is then plain mathematics over tc_S. -/
/-- values: an int, a long, a reference (its kind, its number) -/
abbrev tc_V : Type := Int32 ⊕ Int64 ⊕ (Nat × Nat)
/-- the state: what the cells of ints hold, what the cells of longs hold (a cell, a place), the rule -/
abbrev tc_S : Type := (Nat → Nat → Int32) × (Nat → Nat → Int64) × Nat
abbrev tc_L : Type := List (Nat × tc_V)
abbrev tc_B : Type := tc_L → List tc_V → tc_S → Prop
abbrev tc_Q : Type := Option tc_V → tc_S → Prop
abbrev tc_I (x : Int32) : tc_V := .inl x
abbrev tc_J (x : Int64) : tc_V := .inr (.inl x)
abbrev tc_R (k i : Nat) : tc_V := .inr (.inr (k, i))
def tc_v (ad : Nat → Nat → Nat) : tc_V → Value
  | .inl x => .int x
  | .inr (.inl x) => .long x
  | .inr (.inr q) => .ref (ad q.1 q.2)
def tc_cat : tc_V → Nat
  | .inr (.inl _) => 2
  | _ => 1
theorem tc_cat_v (ad : Nat → Nat → Nat) (v : tc_V) : (tc_v ad v).category = tc_cat v := by
  rcases v with x | x | q <;> rfl
def tc_ui (S : tc_S) (i k : Nat) (x : Int32) : tc_S := (fun j => if j = i then upd (S.1 j) k x else S.1 j, S.2)
def tc_ul (S : tc_S) (i k : Nat) (x : Int64) : tc_S := (S.1, fun j => if j = i then vp_updL (S.2.1 j) k x else S.2.1 j, S.2.2)
def tc_ur (S : tc_S) (r : Nat) : tc_S := (S.1, S.2.1, r)
/-- the classes of the world's objects -/
abbrev tc_cl : List vw_C := [(RX0, TX0, 7), (RX1, TX1, 3), (RX2, TX2, 4), (RX4, TX4, 2), (RX5, TX5, 3), (RX6, TX6, 2), (RX7, TX7, 7), (RX9, TX9, 2), (RX10, TX10, 14), (RX11, TX11, 30)]
/-- the kinds of arrays: 0 int, 1 boolean, 2 long -/
abbrev tc_ty (cA : Nat → ClassId) : List (ClassId × FieldType) := [(cA 0, .int), (cA 1, .boolean), (cA 2, .long)]
abbrev tc_C : Type := (Nat × List (Nat × Nat)) ⊕ (Nat × Nat)
/-- the world's cells: an object (its class, its fields: 0 an int, 1 a long, 2 a cell, 3 the rule) or an array (its kind, its length) -/
def tc_lay : List tc_C := [
  .inl (8, [(2, 1), (2, 2), (2, 3), (2, 4), (2, 5), (2, 6), (2, 7), (2, 8), (2, 9), (2, 10), (2, 11), (2, 12), (2, 13), (3, 0)]),
  .inl (1, [(2, 14), (2, 15), (2, 16)]),
  .inl (7, [(2, 17), (0, 0)]),
  .inl (4, [(2, 18), (0, 0), (0, 0)]),
  .inl (2, [(2, 19), (2, 20), (0, 0), (0, 0)]),
  .inl (0, [(2, 21), (0, 0), (2, 22), (2, 23), (2, 24), (2, 25), (2, 26)]),
  .inl (6, [(2, 27), (2, 28), (2, 29), (2, 30), (2, 31), (2, 32), (0, 0)]),
  .inl (3, [(1, 0), (1, 0)]),
  .inl (3, [(1, 0), (1, 0)]),
  .inl (5, [(2, 33), (0, 0)]),
  .inr (2, 5), .inr (0, 5), .inr (0, 3), .inr (0, 4),
  .inr (0, 160), .inr (0, 4), .inr (0, 40),
  .inr (0, 24), .inr (0, 3),
  .inr (0, 40), .inr (1, 40),
  .inr (0, 9), .inr (0, 10), .inr (0, 10), .inr (0, 10), .inr (0, 10), .inr (0, 10),
  .inr (0, 101), .inr (0, 101), .inr (0, 40), .inr (0, 40), .inr (0, 40), .inr (0, 40),
  .inr (0, 100),
  .inl (9, [(2, 35), (2, 36), (2, 37), (2, 38), (0, 0), (2, 39), (0, 0), (0, 0), (2, 40), (0, 0), (1, 0), (1, 0), (2, 41), (2, 42), (2, 43), (2, 44), (2, 45), (2, 46), (0, 0), (0, 0), (0, 0), (2, 47), (2, 48), (2, 49), (2, 50), (0, 0), (0, 0), (0, 0), (2, 51), (0, 0)]),
  .inr (0, 160), .inr (0, 40), .inr (0, 4), .inr (0, 24), .inr (0, 60), .inr (0, 3), .inr (1, 101),
  .inr (0, 10), .inr (0, 10), .inr (0, 10), .inr (0, 10), .inr (0, 10),
  .inr (0, 101), .inr (0, 101), .inr (0, 101), .inr (0, 101), .inr (0, 100)]
def tc_fv (S : tc_S) (i k : Nat) (f : Nat × Nat) : tc_V := match f.1 with
  | 0 => .inl (S.1 i k)
  | 1 => .inr (.inl (S.2.1 i k))
  | 2 => .inr (.inr (0, f.2))
  | _ => .inr (.inr (1, S.2.2))
def tc_cell (ad : Nat → Nat → Nat) (cA : Nat → ClassId) (S : tc_S) (i : Nat) (c : tc_C) : Nat × va_E := (ad 0 i, match c with
  | .inl o => .inr (o.1, o.2.mapIdx (fun k f => tc_v ad (tc_fv S i k f)))
  | .inr a => .inl (cA a.1, a.2, if a.1 = 2 then .inr (.inl (S.2.1 i)) else .inl (S.1 i)))
def tc_W (ad : Nat → Nat → Nat) (cA : Nat → ClassId) (S : tc_S) : va_W := tc_lay.mapIdx (fun i c => tc_cell ad cA S i c)
theorem tc_W_at {ad : Nat → Nat → Nat} {cA : Nat → ClassId} {S : tc_S} {i : Nat} {c : tc_C} (h : tc_lay[i]? = some c) : (tc_W ad cA S)[i]? = some (tc_cell ad cA S i c) := by
  simp only [tc_W, List.getElem?_mapIdx, h, Option.map_some]
theorem tc_W_set {ad : Nat → Nat → Nat} {cA : Nat → ClassId} {S S' : tc_S} {i : Nat} {c : tc_C} {q : Nat × va_E} (h : tc_lay[i]? = some c) (hq : tc_cell ad cA S' i c = q) (ho : ∀ (j : Nat) (c' : tc_C), j ≠ i → tc_lay[j]? = some c' → tc_cell ad cA S' j c' = tc_cell ad cA S j c') : (tc_W ad cA S).set i q = tc_W ad cA S' := by
  apply List.ext_getElem?
  intro j
  rw [List.getElem?_set]
  by_cases hj : i = j
  · subst hj
    have h1 : i < (tc_W ad cA S).length := by
      have := (List.getElem?_eq_some_iff.mp (tc_W_at (ad := ad) (cA := cA) (S := S) h)).1
      exact this
    rw [if_pos rfl, if_pos h1, tc_W_at h, hq]
  · rw [if_neg hj]
    cases hc : tc_lay[j]? with
    | none => simp only [tc_W, List.getElem?_mapIdx, hc, Option.map_none]
    | some c' => rw [tc_W_at hc, tc_W_at hc, ho j c' (fun e => hj e.symm) hc]
theorem tc_cell_ui {ad : Nat → Nat → Nat} {cA : Nat → ClassId} {S : tc_S} {i k j : Nat} {x : Int32} {c : tc_C} (h : j ≠ i) : tc_cell ad cA (tc_ui S i k x) j c = tc_cell ad cA S j c := by
  have e : (tc_ui S i k x).1 j = S.1 j := if_neg h
  have e2 : (tc_ui S i k x).2 = S.2 := rfl
  have ef : ∀ k', tc_fv (tc_ui S i k x) j k' = tc_fv S j k' := by
    intro k'
    funext f
    simp only [tc_fv, e, e2]
  simp only [tc_cell, e, e2, ef]
theorem tc_cell_ul {ad : Nat → Nat → Nat} {cA : Nat → ClassId} {S : tc_S} {i k j : Nat} {x : Int64} {c : tc_C} (h : j ≠ i) : tc_cell ad cA (tc_ul S i k x) j c = tc_cell ad cA S j c := by
  have e : (tc_ul S i k x).2.1 j = S.2.1 j := if_neg h
  have e1 : (tc_ul S i k x).1 = S.1 := rfl
  have e2 : (tc_ul S i k x).2.2 = S.2.2 := rfl
  have ef : ∀ k', tc_fv (tc_ul S i k x) j k' = tc_fv S j k' := by
    intro k'
    funext f
    simp only [tc_fv, e, e1, e2]
  simp only [tc_cell, e, e1, ef]
/-- the rule stands in cell 0 alone -/
theorem tc_lay_r : ∀ (j : Nat) (c : tc_C), j ≠ 0 → tc_lay[j]? = some c → (match c with
    | .inl o => o.2.all (fun f => f.1 != 3)
    | .inr _ => true) = true := by
  intro j c hj h
  have h0 : (tc_lay.drop 1).all (fun c => match c with
    | .inl o => o.2.all (fun f => f.1 != 3)
    | .inr _ => true) = true := by decide +kernel
  obtain ⟨i, rfl⟩ : ∃ i, j = i + 1 := ⟨j - 1, by omega⟩
  have h1 : (tc_lay.drop 1)[i]? = some c := by
    rw [List.getElem?_drop, Nat.add_comm]
    exact h
  exact List.all_eq_true.mp h0 c (List.mem_of_getElem? h1)
/-- what never changes: statics, constants, their texts -/
def tc_zs : List (String × String × String × tc_V) := [("ToldChances$Rule", "SQUARE", "LToldChances$Rule;", tc_R 1 0), ("ToldChances$Rule", "LINE", "LToldChances$Rule;", tc_R 1 1), ("ToldChances$Rule", "EDGE", "LToldChances$Rule;", tc_R 1 2), ("ToldChances$Rule", "CUBE", "LToldChances$Rule;", tc_R 1 3),
  ("ToldChances$Command", "TELL", "LToldChances$Command;", tc_R 2 0), ("ToldChances$Command", "DROP", "LToldChances$Command;", tc_R 2 1), ("ToldChances$Command", "YES", "LToldChances$Command;", tc_R 2 2), ("ToldChances$Command", "NO", "LToldChances$Command;", tc_R 2 3), ("ToldChances$Command", "OPEN", "LToldChances$Command;", tc_R 2 4), ("ToldChances$Command", "WEIGH", "LToldChances$Command;", tc_R 2 5),
  ("ToldChances", "RULES", "[LToldChances$Rule;", tc_R 4 0), ("ToldChances", "COMMANDS", "[LToldChances$Command;", tc_R 4 1), ("java/lang/String", "COMPACT_STRINGS", "Z", tc_I 1)]
/-- fields of constants: kind and how many, declarer, name, descriptor, what they hold -/
def tc_fs : List ((Nat × Nat) × String × String × String × (Nat → tc_V)) := [((1, 4), "ToldChances$Rule", "number", "I", fun i => tc_I (nI i)), ((1, 4), "ToldChances$Rule", "word", "Ljava/lang/String;", fun i => tc_R 3 i),
  ((2, 6), "ToldChances$Command", "word", "Ljava/lang/String;", fun i => tc_R 3 (4 + i)), ((2, 6), "ToldChances$Command", "numbers", "I", fun i => tc_I ([3, 2, 1, 1, 1, 2].getD i 0)), ((2, 6), "ToldChances$Command", "first", "I", fun i => tc_I ([3, 3, 39, 39, 39, 3].getD i 0)), ((2, 6), "ToldChances$Command", "second", "I", fun i => tc_I ([39, 39, 0, 0, 0, 9].getD i 0)), ((2, 6), "ToldChances$Command", "third", "I", fun i => tc_I ([100, 0, 0, 0, 0, 0].getD i 0))]
def tc_len : List Nat := [6, 4, 4, 4, 4, 4, 3, 2, 4, 5]
def tc_byt : List (List Int32) := [[115, 113, 117, 97, 114, 101], [108, 105, 110, 101], [101, 100, 103, 101], [99, 117, 98, 101], [116, 101, 108, 108], [100, 114, 111, 112], [121, 101, 115], [110, 111], [111, 112, 101, 110], [119, 101, 105, 103, 104]]
def tc_St (ad : Nat → Nat → Nat) (A : Nat → Prop) (U : State) (H : Heap) : Prop :=
  (∀ z ∈ tc_zs, va_Z z.1 z.2.1 z.2.2.1 (tc_v ad z.2.2.2) A U H) ∧ (∀ i, i < 4 → va_O "ToldChances$Rule" (ad 1 i) A U H) ∧ (∀ i, i < 6 → va_O "ToldChances$Command" (ad 2 i) A U H) ∧ vk_S 10 tc_len tc_byt (ad 3) (ad 6) A U H ∧
  (∀ f ∈ tc_fs, ∀ i, i < f.1.2 → va_OF f.2.1 f.2.2.1 f.2.2.2.1 (tc_v ad (f.2.2.2.2 i)) (ad f.1.1 i) A U H) ∧
  va_T (.object "ToldChances$Rule") (ad 4 0) 4 (fun j => .ref (ad 1 j)) A U H ∧ va_T (.object "ToldChances$Command") (ad 4 1) 6 (fun j => .ref (ad 2 j)) A U H ∧
  (∀ i j, i < 4 → j < 4 → ad 1 i = ad 1 j → i = j) ∧ (∀ i j, i < 6 → j < 6 → ad 2 i = ad 2 j → i = j) ∧ va_Zq "jdk/internal/util/Preconditions" "SIOOBE_FORMATTER" "Ljava/util/function/BiFunction;" A U H
theorem tc_St.moved {ad : Nat → Nat → Nat} {A : Nat → Prop} {u U : State} {H : Heap} (hvm : u.vm.Alike U.vm) (h : tc_St ad A u H) : tc_St ad A U H := by
  obtain ⟨h1, h2, h3, h4, h5, h6, h7, h8, h9, h10⟩ := h
  exact ⟨fun z hz => (h1 z hz).moved hvm, fun i hi => (h2 i hi).moved hvm, fun i hi => (h3 i hi).moved hvm, h4.moved hvm, fun f hf i hi => (h5 f hf i hi).moved hvm, h6.moved hvm, h7.moved hvm, h8, h9, h10.moved hvm⟩
theorem tc_St.kept {ad : Nat → Nat → Nat} {A : Nat → Prop} {U : State} {H H1 : Heap} (h : tc_St ad A U H) (hq : ∀ a : Nat, a < H.size → ¬ A a → H1[a]? = H[a]?) : tc_St ad A U H1 := by
  obtain ⟨h1, h2, h3, h4, h5, h6, h7, h8, h9, h10⟩ := h
  exact ⟨fun z hz => (h1 z hz).kept hq, fun i hi => (h2 i hi).kept hq, fun i hi => (h3 i hi).kept hq, h4.kept hq, fun f hf i hi => (h5 f hf i hi).kept hq, h6.kept hq, h7.kept hq, h8, h9, h10.kept hq⟩
theorem tc_St.narrow {ad : Nat → Nat → Nat} {A B : Nat → Prop} {U : State} {H : Heap} (h : tc_St ad A U H) (hAB : ∀ q, B q → A q) : tc_St ad B U H := by
  obtain ⟨h1, h2, h3, h4, h5, h6, h7, h8, h9, h10⟩ := h
  exact ⟨fun z hz => (h1 z hz).narrow hAB, fun i hi => (h2 i hi).narrow hAB, fun i hi => (h3 i hi).narrow hAB, h4.narrow hAB, fun f hf i hi => (h5 f hf i hi).narrow hAB, h6.narrow hAB, h7.narrow hAB, h8, h9, h10.narrow hAB⟩
/-- where a method stands: all that doesn't change while it runs -/
abbrev tc_Z : Type := Program × Launch × Env × Room × State × MethodId × Array Value × List Frame × Method × Code × (Nat × Nat) × (State → Prop) × List Cond × va_G × (Nat → Nat → Nat) × (Nat → ClassId) × (Nat → Prop)
def tc_Cx (R : Room) (cc : ByteArray) (nL : Nat) (own : String) (Z : tc_Z) : Prop := match Z with
  | (p, _, _, R', s, m, args, _, _, c, n, _, Ts, D, ad, cA, A) => R' = R ∧ CallFix p m c cc nL s args Ts own ∧ va_K D tc_cl (tc_ty cA) s ∧ (∀ q, s.heap.size ≤ q → A q) ∧ tc_St ad A s s.heap ∧ (∀ w ∈ tc_tb, w ∈ Ts) ∧ (n.1 ≤ R.cells ∧ n.2 ≤ R.slots)
abbrev tc_cL (ad : Nat → Nat → Nat) (L : tc_L) : List (Nat × Value) := L.map (fun q => (q.1, tc_v ad q.2))
def tc_At (nL : Nat) (Z : tc_Z) (pc : Nat) : tc_B := fun L K S => match Z with
  | (p, l, e, R, s, m, args, below, meth, c, n, Q, _, D, ad, cA, A) => ∀ (H : Heap) (locs : List Loc) (ls : Array Slot), va_P D tc_cl (tc_W ad cA S) H → va_D A (tc_W ad cA S) → va_S A s.heap H locs → lv_has ls nL (tc_cL ad L) → W p l e R s m args below meth c H locs n.1 n.2 Q (F0 m pc ls (K.map (tc_v ad)))
def tc_Ok (nL : Nat) (Z : tc_Z) (pc : Nat) (b : tc_B) : Prop := ∀ L K S, b L K S → tc_At nL Z pc L K S
/-! locals -/
def tc_lk : tc_L → Nat → Option tc_V
  | [], _ => none
  | (j, v) :: r, i => match Nat.beq j i with
    | true => some v
    | false => tc_lk r i
theorem tc_lk_mem {L : tc_L} {i : Nat} {v : tc_V} (h : tc_lk L i = some v) : (i, v) ∈ L := by
  induction L with
  | nil => cases h
  | cons q r ih =>
    obtain ⟨j, w⟩ := q
    simp only [tc_lk] at h
    split at h
    · rename_i e
      have : j = i := Nat.eq_of_beq_eq_true e
      subst this
      cases h
      exact List.mem_cons_self
    · exact List.mem_cons_of_mem _ (ih h)
theorem tc_ld {ad : Nat → Nat → Nat} {ls : Array Slot} {nL : Nat} {L : tc_L} (hl : lv_has ls nL (tc_cL ad L)) {i : Nat} {v : tc_V} (h : tc_lk L i = some v) : ls[i]? = some (.val (tc_v ad v)) :=
  hl.2.2 (i, tc_v ad v) (List.mem_map.mpr ⟨(i, v), tc_lk_mem h, rfl⟩)
def tc_st1 (L : tc_L) (i : Nat) (v : tc_V) : tc_L := (i, v) :: L.filter (fun q => !(q.1 == i) && !(q.1 + 1 == i && tc_cat q.2 == 2))
def tc_st2 (L : tc_L) (i : Nat) (v : tc_V) : tc_L := (i, v) :: L.filter (fun q => !(q.1 == i) && (!(q.1 == i + 1) && !(q.1 + 1 == i && tc_cat q.2 == 2)))
theorem tc_st1_c (ad : Nat → Nat → Nat) (L : tc_L) (i : Nat) (v : tc_V) : (i, tc_v ad v) :: (tc_cL ad L).filter (fun q => !(q.1 == i) && !(q.1 + 1 == i && q.2.category == 2)) = tc_cL ad (tc_st1 L i v) := by
  simp only [tc_st1, tc_cL, List.map_cons, List.filter_map, Function.comp_def, tc_cat_v]
theorem tc_st2_c (ad : Nat → Nat → Nat) (L : tc_L) (i : Nat) (v : tc_V) : (i, tc_v ad v) :: (tc_cL ad L).filter (fun q => !(q.1 == i) && (!(q.1 == i + 1) && !(q.1 + 1 == i && q.2.category == 2))) = tc_cL ad (tc_st2 L i v) := by
  simp only [tc_st2, tc_cL, List.map_cons, List.filter_map, Function.comp_def, tc_cat_v]
def tc_mask (live : List Nat) (L : tc_L) : tc_L := live.filterMap (fun i => (tc_lk L i).map (fun v => (i, v)))
theorem tc_mask_has {ad : Nat → Nat → Nat} {ls : Array Slot} {nL : Nat} {L : tc_L} (hl : lv_has ls nL (tc_cL ad L)) (live : List Nat) : lv_has ls nL (tc_cL ad (tc_mask live L)) := by
  refine ⟨hl.1, hl.2.1, fun q hq => ?_⟩
  obtain ⟨q', hq', rfl⟩ := List.mem_map.mp hq
  obtain ⟨i, -, hi⟩ := List.mem_filterMap.mp hq'
  cases hv : tc_lk L i with
  | none => rw [hv] at hi; cases hi
  | some v =>
    rw [hv] at hi
    cases hi
    exact tc_ld hl hv
def tc_num : Nat → List tc_V → tc_L
  | _, [] => []
  | i, v :: r => (i, v) :: tc_num (i + tc_cat v) r
theorem tc_num_c (ad : Nat → Nat → Nat) : ∀ (vs : List tc_V) (i : Nat), lv_args i (vs.map (tc_v ad)) = tc_cL ad (tc_num i vs) := by
  intro vs
  induction vs with
  | nil => intro i; rfl
  | cons v r ih =>
    intro i
    simp only [List.map_cons, lv_args, tc_num, tc_cat_v]
    rw [ih]
    rcases v with x | x | q <;> rfl
theorem tc_sl_len (ad : Nat → Nat → Nat) (vs : List tc_V) : (lg_sl (vs.map (tc_v ad))).length = (vs.map tc_cat).sum := by
  induction vs with
  | nil => rfl
  | cons v r ih =>
    have e : lg_sl ((v :: r).map (tc_v ad)) = (if (tc_v ad v).category = 2 then [.val (tc_v ad v), .second] else [.val (tc_v ad v)]) ++ lg_sl (r.map (tc_v ad)) := by
      simp only [lg_sl, List.map_cons, List.flatMap_cons]
    rw [e, List.length_append, ih, List.map_cons, List.sum_cons, tc_cat_v]
    rcases v with x | x | q <;> rfl
