/-! the state behind the two constructors -/
def sw_i (i : Nat) : Nat → Int32 := if i = 14 then kf (-9) 160 else if i = 15 then kf 1 4 else if i = 35 then kf (-9) 160 else if i = 37 then kf 1 4 else if i = 39 then kg 60 else fun _ => 0
def sw_l (i : Nat) : Nat → Int64 := if i = 7 then fun k => if k = 1 then 1 else 0 else if i = 8 then fun k => if k = 1 then 1 else 0 else if i = 34 then fun k => if k = 11 then 1 else 0 else fun _ => 0
def sw_S : tc_S := (sw_i, sw_l, 0)
theorem sw_cs : ∀ n, hCs (fun _ => 0) n = [] := by
  intro n
  induction n with
  | zero => rfl
  | succ n ih => simp only [hCs, if_true]; exact ih
theorem sw_Rel : Rel sw_S := by
  refine ⟨⟨rfl, rfl, rfl⟩, ⟨fun i hi => Or.inl (if_pos hi), fun t ht => ⟨1, by decide, if_pos ht⟩, fun e _ => Or.inl rfl⟩, ⟨rfl, rfl, ⟨0, by decide, rfl⟩, fun i => ⟨0, by decide, rfl⟩⟩, ⟨by decide, rfl⟩, ⟨fun c => Or.inl rfl, ?_, ?_, ?_⟩, fun r _ => Or.inl rfl, ?_⟩
  · show (hCs (fun _ => 0) 100).length ≤ 9
    rw [sw_cs]; decide
  · show (0 : Int32) = nI (hCs (fun _ => 0) 100).length
    rw [sw_cs]; rfl
  · intro i a h
    have h' : (hCs (fun _ => 0) 100)[i]? = some a := h
    rw [sw_cs] at h'
    simp at h'
  · intro i x h
    show kg 60 i = x
    have hi : i < 60 := (List.getElem?_eq_some_iff.mp h).1
    unfold kg
    rw [if_pos hi, List.getD_eq_getElem?_getD, h]
    rfl
def sw_a (h0 h1 : Nat) (u v : List Nat) : List Nat := [h0, (u.getD 0 0), (u.getD 4 0), (u.getD 6 0), (u.getD 8 0), (u.getD 11 0), (u.getD 18 0), (u.getD 25 0), (u.getD 26 0), (u.getD 27 0), (u.getD 29 0), (u.getD 30 0), (u.getD 31 0), (u.getD 32 0), (u.getD 1 0), (u.getD 2 0), (u.getD 3 0), (u.getD 5 0), (u.getD 7 0), (u.getD 9 0), (u.getD 10 0), (u.getD 12 0), (u.getD 13 0), (u.getD 14 0), (u.getD 15 0), (u.getD 16 0), (u.getD 17 0), (u.getD 19 0), (u.getD 20 0), (u.getD 21 0), (u.getD 22 0), (u.getD 23 0), (u.getD 24 0), (u.getD 28 0), h1, (v.getD 0 0), (v.getD 1 0), (v.getD 2 0), (v.getD 3 0), (v.getD 4 0), (v.getD 5 0), (v.getD 6 0), (v.getD 7 0), (v.getD 8 0), (v.getD 9 0), (v.getD 10 0), (v.getD 11 0), (v.getD 12 0), (v.getD 13 0), (v.getD 14 0), (v.getD 15 0), (v.getD 16 0)]
def sw_p : List Nat := [0, 1, 5, 7, 9, 12, 19, 26, 27, 28, 30, 31, 32, 33, 2, 3, 4, 6, 8, 10, 11, 13, 14, 15, 16, 17, 18, 20, 21, 22, 23, 24, 25, 29, 34, 35, 36, 37, 38, 39, 40, 41, 42, 43, 44, 45, 46, 47, 48, 49, 50, 51]
def sw_ad (h0 h1 b : Nat) (u v : List Nat) (r1 r2 r3 r4 r6 : Nat → Nat) : Nat → Nat → Nat := fun k => if k = 0 then fun i => (sw_a h0 h1 u v).getD i 0 else if k = 1 then r1 else if k = 2 then r2 else if k = 3 then r3 else if k = 4 then r4 else if k = 5 then fun _ => b else r6
theorem sw_nd : va_nd sw_p = true := by decide +kernel
theorem sw_fm {α : Type} {ws : List α} : ∀ (is : List Nat) (ws' : List α), is.map (fun i => ws[i]?) = ws'.map some → is.filterMap (fun i => ws[i]?) = ws' := by
  intro is
  induction is with
  | nil =>
    intro ws' h
    cases ws' with
    | nil => rfl
    | cons a r => simp at h
  | cons i is ih =>
    intro ws' h
    cases ws' with
    | nil => simp at h
    | cons a r =>
      simp only [List.map_cons, List.cons.injEq] at h
      simp only [List.filterMap_cons, h.1]
      rw [ih r h.2]
