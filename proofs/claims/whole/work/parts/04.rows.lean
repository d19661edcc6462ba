/-! one row an instruction -/
section TCROWS
variable {R : Room} {cc : ByteArray} {nL : Nat} {own : String} {Z : tc_Z} {pc : Nat} {k kt kf : tc_B}
def tb_cut (P : tc_B) (live : List Nat) : tc_B := fun L K S => P (tc_mask live L) K S
theorem to_cut {P : tc_B} (live : List Nat) (h : tc_Ok nL Z pc P) : tc_Ok nL Z pc (tb_cut P live) := by
  obtain ⟨p, l, e, R', s, m, args, below, meth, c, n, Q, Ts, D, ad, cA, A⟩ := Z
  intro L K S hb9 H locs ls hP hD hS hl
  exact h _ _ _ hb9 H locs ls hP hD hS (tc_mask_has hl live)
theorem to_at {L : tc_L} {K : List tc_V} {S : tc_S} {b : tc_B} (h : tc_Ok nL Z pc b) (hb : b L K S) : tc_At nL Z pc L K S := h L K S hb
-- constants
def tb_i (x : Int32) (k : tc_B) : tc_B := fun L K S => k L (.inl x :: K) S
def tb_j (x : Int64) (k : tc_B) : tc_B := fun L K S => k L (.inr (.inl x) :: K) S
theorem to_iconst {n : Int} {x : Int32} (X : tc_Cx R cc nL own Z) (hd : decode cc pc = .ok (.iconst n, 1)) (hv : Int32.ofInt n = x) (h : tc_Ok nL Z (pc + 1) k) : tc_Ok nL Z pc (tb_i x k) := by
  obtain ⟨p, l, e, R', s, m, args, below, meth, c, n, Q, Ts, D, ad, cA, A⟩ := Z
  obtain ⟨rfl, ⟨hx, hb, hml, hown, hts⟩, hK, hA, hSt, hTs, hn⟩ := X
  intro L K S hb9 H locs ls hP hD hS hl
  exact lv_iconst hx hb hd hv (h _ _ _ hb9 H locs ls hP hD hS hl)
theorem to_bipush {n : Int} {x : Int32} (X : tc_Cx R cc nL own Z) (hd : decode cc pc = .ok (.bipush n, 2)) (hv : (Int8.ofInt n).toInt32 = x) (h : tc_Ok nL Z (pc + 2) k) : tc_Ok nL Z pc (tb_i x k) := by
  obtain ⟨p, l, e, R', s, m, args, below, meth, c, n, Q, Ts, D, ad, cA, A⟩ := Z
  obtain ⟨rfl, ⟨hx, hb, hml, hown, hts⟩, hK, hA, hSt, hTs, hn⟩ := X
  intro L K S hb9 H locs ls hP hD hS hl
  exact lv_bipush hx hb hd hv (h _ _ _ hb9 H locs ls hP hD hS hl)
theorem to_sipush {n : Int} {x : Int32} (X : tc_Cx R cc nL own Z) (hd : decode cc pc = .ok (.sipush n, 3)) (hv : (Int16.ofInt n).toInt32 = x) (h : tc_Ok nL Z (pc + 3) k) : tc_Ok nL Z pc (tb_i x k) := by
  obtain ⟨p, l, e, R', s, m, args, below, meth, c, n, Q, Ts, D, ad, cA, A⟩ := Z
  obtain ⟨rfl, ⟨hx, hb, hml, hown, hts⟩, hK, hA, hSt, hTs, hn⟩ := X
  intro L K S hb9 H locs ls hP hD hS hl
  exact lv_sipush hx hb hd hv (h _ _ _ hb9 H locs ls hP hD hS hl)
theorem to_lconst {n : Fin 2} {x : Int64} (X : tc_Cx R cc nL own Z) (hd : decode cc pc = .ok (.lconst n, 1)) (hv : Int64.ofNat (n : Nat) = x) (h : tc_Ok nL Z (pc + 1) k) : tc_Ok nL Z pc (tb_j x k) := by
  obtain ⟨p, l, e, R', s, m, args, below, meth, c, n, Q, Ts, D, ad, cA, A⟩ := Z
  obtain ⟨rfl, ⟨hx, hb, hml, hown, hts⟩, hK, hA, hSt, hTs, hn⟩ := X
  intro L K S hb9 H locs ls hP hD hS hl
  exact lv_lconst hx hb hd hv (h _ _ _ hb9 H locs ls hP hD hS hl)
theorem to_ldc2 {ix : Nat} {x : Int64} (X : tc_Cx R cc nL own Z) (hw : Cond.constantLong own ix x ∈ tc_tb) (hd : decode cc pc = .ok (.ldc2_w ix, 3)) (h : tc_Ok nL Z (pc + 3) k) : tc_Ok nL Z pc (tb_j x k) := by
  obtain ⟨p, l, e, R', s, m, args, below, meth, c, n, Q, Ts, D, ad, cA, A⟩ := Z
  obtain ⟨rfl, ⟨hx, hb, hml, hown, hts⟩, hK, hA, hSt, hTs, hn⟩ := X
  intro L K S hb9 H locs ls hP hD hS hl
  exact lv_ldc2 hx hb hown (hts _ (hTs _ hw)) hd (h _ _ _ hb9 H locs ls hP hD hS hl)
-- locals
def tb_iload (i : Nat) (k : tc_B) : tc_B := fun L K S => match tc_lk L i with
  | some (.inl x) => k L (.inl x :: K) S
  | _ => False
def tb_lload (i : Nat) (k : tc_B) : tc_B := fun L K S => match tc_lk L i with
  | some (.inr (.inl x)) => k L (.inr (.inl x) :: K) S
  | _ => False
def tb_aload (i : Nat) (k : tc_B) : tc_B := fun L K S => match tc_lk L i with
  | some (.inr (.inr x)) => k L (.inr (.inr x) :: K) S
  | _ => False
theorem to_iload_n {i : Fin 4} {j : Nat} (X : tc_Cx R cc nL own Z) (hd : decode cc pc = .ok (.iload_n i, 1)) (hi : (i : Nat) = j) (h : tc_Ok nL Z (pc + 1) k) : tc_Ok nL Z pc (tb_iload j k) := by
  obtain ⟨p, l, e, R', s, m, args, below, meth, c, n, Q, Ts, D, ad, cA, A⟩ := Z
  obtain ⟨rfl, ⟨hx, hb, hml, hown, hts⟩, hK, hA, hSt, hTs, hn⟩ := X
  intro L K S hb9 H locs ls hP hD hS hl
  simp only [tb_iload] at hb9
  split at hb9
  · exact lv_iload_n hx hb hd hi (tc_ld hl (by assumption)) (h _ _ _ hb9 H locs ls hP hD hS hl)
  · exact hb9.elim
theorem to_iload {j : Nat} (X : tc_Cx R cc nL own Z) (hd : decode cc pc = .ok (.iload j, 2)) (h : tc_Ok nL Z (pc + 2) k) : tc_Ok nL Z pc (tb_iload j k) := by
  obtain ⟨p, l, e, R', s, m, args, below, meth, c, n, Q, Ts, D, ad, cA, A⟩ := Z
  obtain ⟨rfl, ⟨hx, hb, hml, hown, hts⟩, hK, hA, hSt, hTs, hn⟩ := X
  intro L K S hb9 H locs ls hP hD hS hl
  simp only [tb_iload] at hb9
  split at hb9
  · exact lv_iload hx hb hd (tc_ld hl (by assumption)) (h _ _ _ hb9 H locs ls hP hD hS hl)
  · exact hb9.elim
theorem to_lload_n {i : Fin 4} {j : Nat} (X : tc_Cx R cc nL own Z) (hd : decode cc pc = .ok (.lload_n i, 1)) (hi : (i : Nat) = j) (h : tc_Ok nL Z (pc + 1) k) : tc_Ok nL Z pc (tb_lload j k) := by
  obtain ⟨p, l, e, R', s, m, args, below, meth, c, n, Q, Ts, D, ad, cA, A⟩ := Z
  obtain ⟨rfl, ⟨hx, hb, hml, hown, hts⟩, hK, hA, hSt, hTs, hn⟩ := X
  intro L K S hb9 H locs ls hP hD hS hl
  simp only [tb_lload] at hb9
  split at hb9
  · exact lv_lload_n hx hb hd hi (tc_ld hl (by assumption)) (h _ _ _ hb9 H locs ls hP hD hS hl)
  · exact hb9.elim
theorem to_lload {j : Nat} (X : tc_Cx R cc nL own Z) (hd : decode cc pc = .ok (.lload j, 2)) (h : tc_Ok nL Z (pc + 2) k) : tc_Ok nL Z pc (tb_lload j k) := by
  obtain ⟨p, l, e, R', s, m, args, below, meth, c, n, Q, Ts, D, ad, cA, A⟩ := Z
  obtain ⟨rfl, ⟨hx, hb, hml, hown, hts⟩, hK, hA, hSt, hTs, hn⟩ := X
  intro L K S hb9 H locs ls hP hD hS hl
  simp only [tb_lload] at hb9
  split at hb9
  · exact lv_lload hx hb hd (tc_ld hl (by assumption)) (h _ _ _ hb9 H locs ls hP hD hS hl)
  · exact hb9.elim
theorem to_aload_n {i : Fin 4} {j : Nat} (X : tc_Cx R cc nL own Z) (hd : decode cc pc = .ok (.aload_n i, 1)) (hi : (i : Nat) = j) (h : tc_Ok nL Z (pc + 1) k) : tc_Ok nL Z pc (tb_aload j k) := by
  obtain ⟨p, l, e, R', s, m, args, below, meth, c, n, Q, Ts, D, ad, cA, A⟩ := Z
  obtain ⟨rfl, ⟨hx, hb, hml, hown, hts⟩, hK, hA, hSt, hTs, hn⟩ := X
  intro L K S hb9 H locs ls hP hD hS hl
  simp only [tb_aload] at hb9
  split at hb9
  · exact lv_aload_n hx hb hd hi (tc_ld hl (by assumption)) (h _ _ _ hb9 H locs ls hP hD hS hl)
  · exact hb9.elim
theorem to_aload {j : Nat} (X : tc_Cx R cc nL own Z) (hd : decode cc pc = .ok (.aload j, 2)) (h : tc_Ok nL Z (pc + 2) k) : tc_Ok nL Z pc (tb_aload j k) := by
  obtain ⟨p, l, e, R', s, m, args, below, meth, c, n, Q, Ts, D, ad, cA, A⟩ := Z
  obtain ⟨rfl, ⟨hx, hb, hml, hown, hts⟩, hK, hA, hSt, hTs, hn⟩ := X
  intro L K S hb9 H locs ls hP hD hS hl
  simp only [tb_aload] at hb9
  split at hb9
  · exact lv_aload hx hb hd (tc_ld hl (by assumption)) (h _ _ _ hb9 H locs ls hP hD hS hl)
  · exact hb9.elim
def tb_istore (i : Nat) (k : tc_B) : tc_B := fun L K S => match K with
  | .inl x :: r => k (tc_st1 L i (.inl x)) r S
  | _ => False
def tb_lstore (i : Nat) (k : tc_B) : tc_B := fun L K S => match K with
  | .inr (.inl x) :: r => k (tc_st2 L i (.inr (.inl x))) r S
  | _ => False
def tb_astore (i : Nat) (k : tc_B) : tc_B := fun L K S => match K with
  | .inr (.inr x) :: r => k (tc_st1 L i (.inr (.inr x))) r S
  | _ => False
theorem to_istore_n {i : Fin 4} {j : Nat} (X : tc_Cx R cc nL own Z) (hd : decode cc pc = .ok (.istore_n i, 1)) (hi : (i : Nat) = j) (hj : j < nL) (h : tc_Ok nL Z (pc + 1) k) : tc_Ok nL Z pc (tb_istore j k) := by
  obtain ⟨p, l, e, R', s, m, args, below, meth, c, n, Q, Ts, D, ad, cA, A⟩ := Z
  obtain ⟨rfl, ⟨hx, hb, hml, hown, hts⟩, hK, hA, hSt, hTs, hn⟩ := X
  intro L K S hb9 H locs ls hP hD hS hl
  simp only [tb_istore] at hb9
  split at hb9
  · rename_i x r
    exact lv_istore_n hx hb hd hi hl hj (tc_st1_c ad L j (.inl x)) (fun ls' hl' => h _ _ _ hb9 H locs ls' hP hD hS hl')
  · exact hb9.elim
theorem to_istore {j : Nat} (X : tc_Cx R cc nL own Z) (hd : decode cc pc = .ok (.istore j, 2)) (hj : j < nL) (h : tc_Ok nL Z (pc + 2) k) : tc_Ok nL Z pc (tb_istore j k) := by
  obtain ⟨p, l, e, R', s, m, args, below, meth, c, n, Q, Ts, D, ad, cA, A⟩ := Z
  obtain ⟨rfl, ⟨hx, hb, hml, hown, hts⟩, hK, hA, hSt, hTs, hn⟩ := X
  intro L K S hb9 H locs ls hP hD hS hl
  simp only [tb_istore] at hb9
  split at hb9
  · rename_i x r
    exact lv_istore hx hb hd hl hj (tc_st1_c ad L j (.inl x)) (fun ls' hl' => h _ _ _ hb9 H locs ls' hP hD hS hl')
  · exact hb9.elim
theorem to_lstore_n {i : Fin 4} {j : Nat} (X : tc_Cx R cc nL own Z) (hd : decode cc pc = .ok (.lstore_n i, 1)) (hi : (i : Nat) = j) (hj : j + 1 < nL) (h : tc_Ok nL Z (pc + 1) k) : tc_Ok nL Z pc (tb_lstore j k) := by
  obtain ⟨p, l, e, R', s, m, args, below, meth, c, n, Q, Ts, D, ad, cA, A⟩ := Z
  obtain ⟨rfl, ⟨hx, hb, hml, hown, hts⟩, hK, hA, hSt, hTs, hn⟩ := X
  intro L K S hb9 H locs ls hP hD hS hl
  simp only [tb_lstore] at hb9
  split at hb9
  · rename_i x r
    exact lv_lstore_n hx hb hd hi hl hj (tc_st2_c ad L j (.inr (.inl x))) (fun ls' hl' => h _ _ _ hb9 H locs ls' hP hD hS hl')
  · exact hb9.elim
theorem to_lstore {j : Nat} (X : tc_Cx R cc nL own Z) (hd : decode cc pc = .ok (.lstore j, 2)) (hj : j + 1 < nL) (h : tc_Ok nL Z (pc + 2) k) : tc_Ok nL Z pc (tb_lstore j k) := by
  obtain ⟨p, l, e, R', s, m, args, below, meth, c, n, Q, Ts, D, ad, cA, A⟩ := Z
  obtain ⟨rfl, ⟨hx, hb, hml, hown, hts⟩, hK, hA, hSt, hTs, hn⟩ := X
  intro L K S hb9 H locs ls hP hD hS hl
  simp only [tb_lstore] at hb9
  split at hb9
  · rename_i x r
    exact lv_lstore hx hb hd hl hj (tc_st2_c ad L j (.inr (.inl x))) (fun ls' hl' => h _ _ _ hb9 H locs ls' hP hD hS hl')
  · exact hb9.elim
theorem to_astore_n {i : Fin 4} {j : Nat} (X : tc_Cx R cc nL own Z) (hd : decode cc pc = .ok (.astore_n i, 1)) (hi : (i : Nat) = j) (hj : j < nL) (h : tc_Ok nL Z (pc + 1) k) : tc_Ok nL Z pc (tb_astore j k) := by
  obtain ⟨p, l, e, R', s, m, args, below, meth, c, n, Q, Ts, D, ad, cA, A⟩ := Z
  obtain ⟨rfl, ⟨hx, hb, hml, hown, hts⟩, hK, hA, hSt, hTs, hn⟩ := X
  intro L K S hb9 H locs ls hP hD hS hl
  simp only [tb_astore] at hb9
  split at hb9
  · rename_i x r
    exact lv_astore_n hx hb hd hi hl hj (tc_st1_c ad L j (.inr (.inr x))) (fun ls' hl' => h _ _ _ hb9 H locs ls' hP hD hS hl')
  · exact hb9.elim
def tb_iinc (i : Nat) (d : Int32) (k : tc_B) : tc_B := fun L K S => match tc_lk L i with
  | some (.inl x) => k (tc_st1 L i (.inl (x + d))) K S
  | _ => False
theorem to_iinc {j : Nat} {n : Int} {d : Int32} (X : tc_Cx R cc nL own Z) (hd : decode cc pc = .ok (.iinc j n, 3)) (hv : Int32.ofInt n = d) (hj : j < nL) (h : tc_Ok nL Z (pc + 3) k) : tc_Ok nL Z pc (tb_iinc j d k) := by
  obtain ⟨p, l, e, R', s, m, args, below, meth, c, n, Q, Ts, D, ad, cA, A⟩ := Z
  obtain ⟨rfl, ⟨hx, hb, hml, hown, hts⟩, hK, hA, hSt, hTs, hn⟩ := X
  intro L K S hb9 H locs ls hP hD hS hl
  simp only [tb_iinc] at hb9
  split at hb9
  · rename_i x hx9
    obtain ⟨i9, hi9⟩ := List.getElem?_of_mem (List.mem_map.mpr ⟨(j, .inl x), tc_lk_mem hx9, rfl⟩ : (j, tc_v ad (.inl x)) ∈ tc_cL ad L)
    exact lv_iinc (v := x + d) hx hb hd hl hi9 (by rw [hv]) hj (tc_st1_c ad L j (.inl (x + d))) (fun ls' hl' => h _ _ _ hb9 H locs ls' hP hD hS hl')
  · exact hb9.elim
-- arithmetic
def tb_ii (f : Int32 → Int32 → Int32) (k : tc_B) : tc_B := fun L K S => match K with
  | .inl y :: .inl x :: r => k L (.inl (f x y) :: r) S
  | _ => False
def tb_jj (f : Int64 → Int64 → Int64) (k : tc_B) : tc_B := fun L K S => match K with
  | .inr (.inl y) :: .inr (.inl x) :: r => k L (.inr (.inl (f x y)) :: r) S
  | _ => False
def tb_iadd (k : tc_B) : tc_B := tb_ii (fun x y => x + y) k
def tb_isub (k : tc_B) : tc_B := tb_ii (fun x y => x - y) k
def tb_imul (k : tc_B) : tc_B := tb_ii (fun x y => x * y) k
def tb_iand (k : tc_B) : tc_B := tb_ii (fun x y => x &&& y) k
def tb_ladd (k : tc_B) : tc_B := tb_jj (fun x y => x + y) k
def tb_lsub (k : tc_B) : tc_B := tb_jj (fun x y => x - y) k
def tb_lmul (k : tc_B) : tc_B := tb_jj (fun x y => x * y) k
theorem to_iadd (X : tc_Cx R cc nL own Z) (hd : decode cc pc = .ok (.iadd, 1)) (h : tc_Ok nL Z (pc + 1) k) : tc_Ok nL Z pc (tb_iadd k) := by
  obtain ⟨p, l, e, R', s, m, args, below, meth, c, n, Q, Ts, D, ad, cA, A⟩ := Z
  obtain ⟨rfl, ⟨hx, hb, hml, hown, hts⟩, hK, hA, hSt, hTs, hn⟩ := X
  intro L K S hb9 H locs ls hP hD hS hl
  simp only [tb_iadd, tb_ii] at hb9
  split at hb9
  · exact lv_iadd hx hb hd (h _ _ _ hb9 H locs ls hP hD hS hl)
  · exact hb9.elim
theorem to_isub (X : tc_Cx R cc nL own Z) (hd : decode cc pc = .ok (.isub, 1)) (h : tc_Ok nL Z (pc + 1) k) : tc_Ok nL Z pc (tb_isub k) := by
  obtain ⟨p, l, e, R', s, m, args, below, meth, c, n, Q, Ts, D, ad, cA, A⟩ := Z
  obtain ⟨rfl, ⟨hx, hb, hml, hown, hts⟩, hK, hA, hSt, hTs, hn⟩ := X
  intro L K S hb9 H locs ls hP hD hS hl
  simp only [tb_isub, tb_ii] at hb9
  split at hb9
  · exact lv_isub hx hb hd (h _ _ _ hb9 H locs ls hP hD hS hl)
  · exact hb9.elim
theorem to_imul (X : tc_Cx R cc nL own Z) (hd : decode cc pc = .ok (.imul, 1)) (h : tc_Ok nL Z (pc + 1) k) : tc_Ok nL Z pc (tb_imul k) := by
  obtain ⟨p, l, e, R', s, m, args, below, meth, c, n, Q, Ts, D, ad, cA, A⟩ := Z
  obtain ⟨rfl, ⟨hx, hb, hml, hown, hts⟩, hK, hA, hSt, hTs, hn⟩ := X
  intro L K S hb9 H locs ls hP hD hS hl
  simp only [tb_imul, tb_ii] at hb9
  split at hb9
  · exact lv_imul hx hb hd (h _ _ _ hb9 H locs ls hP hD hS hl)
  · exact hb9.elim
theorem to_iand (X : tc_Cx R cc nL own Z) (hd : decode cc pc = .ok (.iand, 1)) (h : tc_Ok nL Z (pc + 1) k) : tc_Ok nL Z pc (tb_iand k) := by
  obtain ⟨p, l, e, R', s, m, args, below, meth, c, n, Q, Ts, D, ad, cA, A⟩ := Z
  obtain ⟨rfl, ⟨hx, hb, hml, hown, hts⟩, hK, hA, hSt, hTs, hn⟩ := X
  intro L K S hb9 H locs ls hP hD hS hl
  simp only [tb_iand, tb_ii] at hb9
  split at hb9
  · exact lv_iand hx hb hd (h _ _ _ hb9 H locs ls hP hD hS hl)
  · exact hb9.elim
theorem to_ladd (X : tc_Cx R cc nL own Z) (hd : decode cc pc = .ok (.ladd, 1)) (h : tc_Ok nL Z (pc + 1) k) : tc_Ok nL Z pc (tb_ladd k) := by
  obtain ⟨p, l, e, R', s, m, args, below, meth, c, n, Q, Ts, D, ad, cA, A⟩ := Z
  obtain ⟨rfl, ⟨hx, hb, hml, hown, hts⟩, hK, hA, hSt, hTs, hn⟩ := X
  intro L K S hb9 H locs ls hP hD hS hl
  simp only [tb_ladd, tb_jj] at hb9
  split at hb9
  · exact lv_ladd hx hb hd (h _ _ _ hb9 H locs ls hP hD hS hl)
  · exact hb9.elim
theorem to_lsub (X : tc_Cx R cc nL own Z) (hd : decode cc pc = .ok (.lsub, 1)) (h : tc_Ok nL Z (pc + 1) k) : tc_Ok nL Z pc (tb_lsub k) := by
  obtain ⟨p, l, e, R', s, m, args, below, meth, c, n, Q, Ts, D, ad, cA, A⟩ := Z
  obtain ⟨rfl, ⟨hx, hb, hml, hown, hts⟩, hK, hA, hSt, hTs, hn⟩ := X
  intro L K S hb9 H locs ls hP hD hS hl
  simp only [tb_lsub, tb_jj] at hb9
  split at hb9
  · exact lv_lsub hx hb hd (h _ _ _ hb9 H locs ls hP hD hS hl)
  · exact hb9.elim
theorem to_lmul (X : tc_Cx R cc nL own Z) (hd : decode cc pc = .ok (.lmul, 1)) (h : tc_Ok nL Z (pc + 1) k) : tc_Ok nL Z pc (tb_lmul k) := by
  obtain ⟨p, l, e, R', s, m, args, below, meth, c, n, Q, Ts, D, ad, cA, A⟩ := Z
  obtain ⟨rfl, ⟨hx, hb, hml, hown, hts⟩, hK, hA, hSt, hTs, hn⟩ := X
  intro L K S hb9 H locs ls hP hD hS hl
  simp only [tb_lmul, tb_jj] at hb9
  split at hb9
  · exact lv_lmul hx hb hd (h _ _ _ hb9 H locs ls hP hD hS hl)
  · exact hb9.elim
def tb_idiv (k : tc_B) : tc_B := fun L K S => match K with
  | .inl y :: .inl x :: r => ¬ y = 0 ∧ k L (.inl (x / y) :: r) S
  | _ => False
def tb_ldiv (k : tc_B) : tc_B := fun L K S => match K with
  | .inr (.inl y) :: .inr (.inl x) :: r => ¬ y = 0 ∧ k L (.inr (.inl (x / y)) :: r) S
  | _ => False
def tb_lrem (k : tc_B) : tc_B := fun L K S => match K with
  | .inr (.inl y) :: .inr (.inl x) :: r => ¬ y = 0 ∧ k L (.inr (.inl (x - x / y * y)) :: r) S
  | _ => False
def tb_lneg (k : tc_B) : tc_B := fun L K S => match K with
  | .inr (.inl x) :: r => k L (.inr (.inl (-x)) :: r) S
  | _ => False
def tb_lshl (k : tc_B) : tc_B := fun L K S => match K with
  | .inl y :: .inr (.inl x) :: r => k L (.inr (.inl (x <<< (y.toInt64 &&& 63))) :: r) S
  | _ => False
def tb_i2l (k : tc_B) : tc_B := fun L K S => match K with
  | .inl x :: r => k L (.inr (.inl x.toInt64) :: r) S
  | _ => False
def tb_l2i (k : tc_B) : tc_B := fun L K S => match K with
  | .inr (.inl x) :: r => k L (.inl x.toInt32 :: r) S
  | _ => False
def tb_lcmp (k : tc_B) : tc_B := fun L K S => match K with
  | .inr (.inl y) :: .inr (.inl x) :: r => k L (.inl (lg_cmp x y) :: r) S
  | _ => False
theorem to_idiv (X : tc_Cx R cc nL own Z) (hd : decode cc pc = .ok (.idiv, 1)) (h : tc_Ok nL Z (pc + 1) k) : tc_Ok nL Z pc (tb_idiv k) := by
  obtain ⟨p, l, e, R', s, m, args, below, meth, c, n, Q, Ts, D, ad, cA, A⟩ := Z
  obtain ⟨rfl, ⟨hx, hb, hml, hown, hts⟩, hK, hA, hSt, hTs, hn⟩ := X
  intro L K S hb9 H locs ls hP hD hS hl
  simp only [tb_idiv] at hb9
  split at hb9
  · exact lv_idiv hx hb hd hb9.1 (h _ _ _ hb9.2 H locs ls hP hD hS hl)
  · exact hb9.elim
theorem to_ldiv (X : tc_Cx R cc nL own Z) (hd : decode cc pc = .ok (.ldiv, 1)) (h : tc_Ok nL Z (pc + 1) k) : tc_Ok nL Z pc (tb_ldiv k) := by
  obtain ⟨p, l, e, R', s, m, args, below, meth, c, n, Q, Ts, D, ad, cA, A⟩ := Z
  obtain ⟨rfl, ⟨hx, hb, hml, hown, hts⟩, hK, hA, hSt, hTs, hn⟩ := X
  intro L K S hb9 H locs ls hP hD hS hl
  simp only [tb_ldiv] at hb9
  split at hb9
  · exact lv_ldiv hx hb hd hb9.1 (h _ _ _ hb9.2 H locs ls hP hD hS hl)
  · exact hb9.elim
theorem to_lrem (X : tc_Cx R cc nL own Z) (hd : decode cc pc = .ok (.lrem, 1)) (h : tc_Ok nL Z (pc + 1) k) : tc_Ok nL Z pc (tb_lrem k) := by
  obtain ⟨p, l, e, R', s, m, args, below, meth, c, n, Q, Ts, D, ad, cA, A⟩ := Z
  obtain ⟨rfl, ⟨hx, hb, hml, hown, hts⟩, hK, hA, hSt, hTs, hn⟩ := X
  intro L K S hb9 H locs ls hP hD hS hl
  simp only [tb_lrem] at hb9
  split at hb9
  · exact lv_lrem hx hb hd hb9.1 (h _ _ _ hb9.2 H locs ls hP hD hS hl)
  · exact hb9.elim
theorem to_lneg (X : tc_Cx R cc nL own Z) (hd : decode cc pc = .ok (.lneg, 1)) (h : tc_Ok nL Z (pc + 1) k) : tc_Ok nL Z pc (tb_lneg k) := by
  obtain ⟨p, l, e, R', s, m, args, below, meth, c, n, Q, Ts, D, ad, cA, A⟩ := Z
  obtain ⟨rfl, ⟨hx, hb, hml, hown, hts⟩, hK, hA, hSt, hTs, hn⟩ := X
  intro L K S hb9 H locs ls hP hD hS hl
  simp only [tb_lneg] at hb9
  split at hb9
  · exact lv_lneg hx hb hd (h _ _ _ hb9 H locs ls hP hD hS hl)
  · exact hb9.elim
theorem to_lshl (X : tc_Cx R cc nL own Z) (hd : decode cc pc = .ok (.lshl, 1)) (h : tc_Ok nL Z (pc + 1) k) : tc_Ok nL Z pc (tb_lshl k) := by
  obtain ⟨p, l, e, R', s, m, args, below, meth, c, n, Q, Ts, D, ad, cA, A⟩ := Z
  obtain ⟨rfl, ⟨hx, hb, hml, hown, hts⟩, hK, hA, hSt, hTs, hn⟩ := X
  intro L K S hb9 H locs ls hP hD hS hl
  simp only [tb_lshl] at hb9
  split at hb9
  · exact lv_lshl hx hb hd rfl (h _ _ _ hb9 H locs ls hP hD hS hl)
  · exact hb9.elim
theorem to_i2l (X : tc_Cx R cc nL own Z) (hd : decode cc pc = .ok (.i2l, 1)) (h : tc_Ok nL Z (pc + 1) k) : tc_Ok nL Z pc (tb_i2l k) := by
  obtain ⟨p, l, e, R', s, m, args, below, meth, c, n, Q, Ts, D, ad, cA, A⟩ := Z
  obtain ⟨rfl, ⟨hx, hb, hml, hown, hts⟩, hK, hA, hSt, hTs, hn⟩ := X
  intro L K S hb9 H locs ls hP hD hS hl
  simp only [tb_i2l] at hb9
  split at hb9
  · exact lv_i2l hx hb hd rfl (h _ _ _ hb9 H locs ls hP hD hS hl)
  · exact hb9.elim
theorem to_l2i (X : tc_Cx R cc nL own Z) (hd : decode cc pc = .ok (.l2i, 1)) (h : tc_Ok nL Z (pc + 1) k) : tc_Ok nL Z pc (tb_l2i k) := by
  obtain ⟨p, l, e, R', s, m, args, below, meth, c, n, Q, Ts, D, ad, cA, A⟩ := Z
  obtain ⟨rfl, ⟨hx, hb, hml, hown, hts⟩, hK, hA, hSt, hTs, hn⟩ := X
  intro L K S hb9 H locs ls hP hD hS hl
  simp only [tb_l2i] at hb9
  split at hb9
  · exact lv_l2i hx hb hd rfl (h _ _ _ hb9 H locs ls hP hD hS hl)
  · exact hb9.elim
theorem to_lcmp (X : tc_Cx R cc nL own Z) (hd : decode cc pc = .ok (.lcmp, 1)) (h : tc_Ok nL Z (pc + 1) k) : tc_Ok nL Z pc (tb_lcmp k) := by
  obtain ⟨p, l, e, R', s, m, args, below, meth, c, n, Q, Ts, D, ad, cA, A⟩ := Z
  obtain ⟨rfl, ⟨hx, hb, hml, hown, hts⟩, hK, hA, hSt, hTs, hn⟩ := X
  intro L K S hb9 H locs ls hP hD hS hl
  simp only [tb_lcmp] at hb9
  split at hb9
  · exact W.lcmp hx hb hd (h _ _ _ hb9 H locs ls hP hD hS hl)
  · exact hb9.elim
-- the stack
def tb_dup (k : tc_B) : tc_B := fun L K S => match K with
  | .inl x :: r => k L (.inl x :: .inl x :: r) S
  | .inr (.inr x) :: r => k L (.inr (.inr x) :: .inr (.inr x) :: r) S
  | _ => False
def tb_pop (k : tc_B) : tc_B := fun L K S => match K with
  | .inl _ :: r => k L r S
  | .inr (.inr _) :: r => k L r S
  | _ => False
/-- over an array and an index -/
def tb_dup2 (k : tc_B) : tc_B := fun L K S => match K with
  | .inl x :: .inr (.inr y) :: r => k L (.inl x :: .inr (.inr y) :: .inl x :: .inr (.inr y) :: r) S
  | _ => False
theorem to_dup (X : tc_Cx R cc nL own Z) (hd : decode cc pc = .ok (.dup, 1)) (h : tc_Ok nL Z (pc + 1) k) : tc_Ok nL Z pc (tb_dup k) := by
  obtain ⟨p, l, e, R', s, m, args, below, meth, c, n, Q, Ts, D, ad, cA, A⟩ := Z
  obtain ⟨rfl, ⟨hx, hb, hml, hown, hts⟩, hK, hA, hSt, hTs, hn⟩ := X
  intro L K S hb9 H locs ls hP hD hS hl
  simp only [tb_dup] at hb9
  split at hb9
  · exact lv_dup hx hb hd rfl (h _ _ _ hb9 H locs ls hP hD hS hl)
  · exact lv_dup hx hb hd rfl (h _ _ _ hb9 H locs ls hP hD hS hl)
  · exact hb9.elim
theorem to_pop (X : tc_Cx R cc nL own Z) (hd : decode cc pc = .ok (.pop, 1)) (h : tc_Ok nL Z (pc + 1) k) : tc_Ok nL Z pc (tb_pop k) := by
  obtain ⟨p, l, e, R', s, m, args, below, meth, c, n, Q, Ts, D, ad, cA, A⟩ := Z
  obtain ⟨rfl, ⟨hx, hb, hml, hown, hts⟩, hK, hA, hSt, hTs, hn⟩ := X
  intro L K S hb9 H locs ls hP hD hS hl
  simp only [tb_pop] at hb9
  split at hb9
  · exact lv_pop hx hb hd rfl (h _ _ _ hb9 H locs ls hP hD hS hl)
  · exact lv_pop hx hb hd rfl (h _ _ _ hb9 H locs ls hP hD hS hl)
  · exact hb9.elim
theorem to_dup2 (X : tc_Cx R cc nL own Z) (hd : decode cc pc = .ok (.dup2, 1)) (h : tc_Ok nL Z (pc + 1) k) : tc_Ok nL Z pc (tb_dup2 k) := by
  obtain ⟨p, l, e, R', s, m, args, below, meth, c, n, Q, Ts, D, ad, cA, A⟩ := Z
  obtain ⟨rfl, ⟨hx, hb, hml, hown, hts⟩, hK, hA, hSt, hTs, hn⟩ := X
  intro L K S hb9 H locs ls hP hD hS hl
  simp only [tb_dup2] at hb9
  split at hb9
  · exact lv_dup2_11 hx hb hd rfl rfl (h _ _ _ hb9 H locs ls hP hD hS hl)
  · exact hb9.elim
-- branches
def tb_if (c : Int32 → Prop) (kt kf : tc_B) : tc_B := fun L K S => match K with
  | .inl x :: r => (c x → kt L r S) ∧ (¬ c x → kf L r S)
  | _ => False
def tb_icmp (c : Int32 → Int32 → Prop) (kt kf : tc_B) : tc_B := fun L K S => match K with
  | .inl y :: .inl x :: r => (c x y → kt L r S) ∧ (¬ c x y → kf L r S)
  | _ => False
def tb_if_eq (kt kf : tc_B) : tc_B := tb_if (fun x => x = 0) kt kf
theorem to_if_eq {off : Int} {tgt : Nat} (X : tc_Cx R cc nL own Z) (hd : decode cc pc = .ok (.ifCond .eq off, 3)) (hg : (pc : Int) + off = (tgt : Int)) (ht : tc_Ok nL Z tgt kt) (hf : tc_Ok nL Z (pc + 3) kf) : tc_Ok nL Z pc (tb_if_eq kt kf) := by
  obtain ⟨p, l, e, R', s, m, args, below, meth, c, n, Q, Ts, D, ad, cA, A⟩ := Z
  obtain ⟨rfl, ⟨hx, hb, hml, hown, hts⟩, hK, hA, hSt, hTs, hn⟩ := X
  intro L K S hb9 H locs ls hP hD hS hl
  simp only [tb_if_eq, tb_if] at hb9
  split at hb9
  · exact lv_if_eq hx hb hd hg (fun z => ht _ _ _ (hb9.1 z) H locs ls hP hD hS hl) (fun z => hf _ _ _ (hb9.2 z) H locs ls hP hD hS hl)
  · exact hb9.elim
def tb_if_ne (kt kf : tc_B) : tc_B := tb_if (fun x => x = 0) kf kt
theorem to_if_ne {off : Int} {tgt : Nat} (X : tc_Cx R cc nL own Z) (hd : decode cc pc = .ok (.ifCond .ne off, 3)) (hg : (pc : Int) + off = (tgt : Int)) (ht : tc_Ok nL Z tgt kt) (hf : tc_Ok nL Z (pc + 3) kf) : tc_Ok nL Z pc (tb_if_ne kt kf) := by
  obtain ⟨p, l, e, R', s, m, args, below, meth, c, n, Q, Ts, D, ad, cA, A⟩ := Z
  obtain ⟨rfl, ⟨hx, hb, hml, hown, hts⟩, hK, hA, hSt, hTs, hn⟩ := X
  intro L K S hb9 H locs ls hP hD hS hl
  simp only [tb_if_ne, tb_if] at hb9
  split at hb9
  · exact lv_if_ne hx hb hd hg (fun z => ht _ _ _ (hb9.2 z) H locs ls hP hD hS hl) (fun z => hf _ _ _ (hb9.1 z) H locs ls hP hD hS hl)
  · exact hb9.elim
def tb_if_lt (kt kf : tc_B) : tc_B := tb_if (fun x => x < 0) kt kf
theorem to_if_lt {off : Int} {tgt : Nat} (X : tc_Cx R cc nL own Z) (hd : decode cc pc = .ok (.ifCond .lt off, 3)) (hg : (pc : Int) + off = (tgt : Int)) (ht : tc_Ok nL Z tgt kt) (hf : tc_Ok nL Z (pc + 3) kf) : tc_Ok nL Z pc (tb_if_lt kt kf) := by
  obtain ⟨p, l, e, R', s, m, args, below, meth, c, n, Q, Ts, D, ad, cA, A⟩ := Z
  obtain ⟨rfl, ⟨hx, hb, hml, hown, hts⟩, hK, hA, hSt, hTs, hn⟩ := X
  intro L K S hb9 H locs ls hP hD hS hl
  simp only [tb_if_lt, tb_if] at hb9
  split at hb9
  · exact lv_if_lt hx hb hd hg (fun z => ht _ _ _ (hb9.1 z) H locs ls hP hD hS hl) (fun z => hf _ _ _ (hb9.2 z) H locs ls hP hD hS hl)
  · exact hb9.elim
def tb_if_ge (kt kf : tc_B) : tc_B := tb_if (fun x => 0 ≤ x) kt kf
theorem to_if_ge {off : Int} {tgt : Nat} (X : tc_Cx R cc nL own Z) (hd : decode cc pc = .ok (.ifCond .ge off, 3)) (hg : (pc : Int) + off = (tgt : Int)) (ht : tc_Ok nL Z tgt kt) (hf : tc_Ok nL Z (pc + 3) kf) : tc_Ok nL Z pc (tb_if_ge kt kf) := by
  obtain ⟨p, l, e, R', s, m, args, below, meth, c, n, Q, Ts, D, ad, cA, A⟩ := Z
  obtain ⟨rfl, ⟨hx, hb, hml, hown, hts⟩, hK, hA, hSt, hTs, hn⟩ := X
  intro L K S hb9 H locs ls hP hD hS hl
  simp only [tb_if_ge, tb_if] at hb9
  split at hb9
  · exact lv_if_ge hx hb hd hg (fun z => ht _ _ _ (hb9.1 z) H locs ls hP hD hS hl) (fun z => hf _ _ _ (hb9.2 z) H locs ls hP hD hS hl)
  · exact hb9.elim
def tb_if_gt (kt kf : tc_B) : tc_B := tb_if (fun x => 0 < x) kt kf
theorem to_if_gt {off : Int} {tgt : Nat} (X : tc_Cx R cc nL own Z) (hd : decode cc pc = .ok (.ifCond .gt off, 3)) (hg : (pc : Int) + off = (tgt : Int)) (ht : tc_Ok nL Z tgt kt) (hf : tc_Ok nL Z (pc + 3) kf) : tc_Ok nL Z pc (tb_if_gt kt kf) := by
  obtain ⟨p, l, e, R', s, m, args, below, meth, c, n, Q, Ts, D, ad, cA, A⟩ := Z
  obtain ⟨rfl, ⟨hx, hb, hml, hown, hts⟩, hK, hA, hSt, hTs, hn⟩ := X
  intro L K S hb9 H locs ls hP hD hS hl
  simp only [tb_if_gt, tb_if] at hb9
  split at hb9
  · exact lv_if_gt hx hb hd hg (fun z => ht _ _ _ (hb9.1 z) H locs ls hP hD hS hl) (fun z => hf _ _ _ (hb9.2 z) H locs ls hP hD hS hl)
  · exact hb9.elim
def tb_if_le (kt kf : tc_B) : tc_B := tb_if (fun x => x ≤ 0) kt kf
theorem to_if_le {off : Int} {tgt : Nat} (X : tc_Cx R cc nL own Z) (hd : decode cc pc = .ok (.ifCond .le off, 3)) (hg : (pc : Int) + off = (tgt : Int)) (ht : tc_Ok nL Z tgt kt) (hf : tc_Ok nL Z (pc + 3) kf) : tc_Ok nL Z pc (tb_if_le kt kf) := by
  obtain ⟨p, l, e, R', s, m, args, below, meth, c, n, Q, Ts, D, ad, cA, A⟩ := Z
  obtain ⟨rfl, ⟨hx, hb, hml, hown, hts⟩, hK, hA, hSt, hTs, hn⟩ := X
  intro L K S hb9 H locs ls hP hD hS hl
  simp only [tb_if_le, tb_if] at hb9
  split at hb9
  · exact lv_if_le hx hb hd hg (fun z => ht _ _ _ (hb9.1 z) H locs ls hP hD hS hl) (fun z => hf _ _ _ (hb9.2 z) H locs ls hP hD hS hl)
  · exact hb9.elim
def tb_icmp_eq (kt kf : tc_B) : tc_B := tb_icmp (fun x y => x = y) kt kf
theorem to_icmp_eq {off : Int} {tgt : Nat} (X : tc_Cx R cc nL own Z) (hd : decode cc pc = .ok (.if_icmp .eq off, 3)) (hg : (pc : Int) + off = (tgt : Int)) (ht : tc_Ok nL Z tgt kt) (hf : tc_Ok nL Z (pc + 3) kf) : tc_Ok nL Z pc (tb_icmp_eq kt kf) := by
  obtain ⟨p, l, e, R', s, m, args, below, meth, c, n, Q, Ts, D, ad, cA, A⟩ := Z
  obtain ⟨rfl, ⟨hx, hb, hml, hown, hts⟩, hK, hA, hSt, hTs, hn⟩ := X
  intro L K S hb9 H locs ls hP hD hS hl
  simp only [tb_icmp_eq, tb_icmp] at hb9
  split at hb9
  · exact lv_icmp_eq hx hb hd hg (fun z => ht _ _ _ (hb9.1 z) H locs ls hP hD hS hl) (fun z => hf _ _ _ (hb9.2 z) H locs ls hP hD hS hl)
  · exact hb9.elim
def tb_icmp_ne (kt kf : tc_B) : tc_B := tb_icmp (fun x y => x = y) kf kt
theorem to_icmp_ne {off : Int} {tgt : Nat} (X : tc_Cx R cc nL own Z) (hd : decode cc pc = .ok (.if_icmp .ne off, 3)) (hg : (pc : Int) + off = (tgt : Int)) (ht : tc_Ok nL Z tgt kt) (hf : tc_Ok nL Z (pc + 3) kf) : tc_Ok nL Z pc (tb_icmp_ne kt kf) := by
  obtain ⟨p, l, e, R', s, m, args, below, meth, c, n, Q, Ts, D, ad, cA, A⟩ := Z
  obtain ⟨rfl, ⟨hx, hb, hml, hown, hts⟩, hK, hA, hSt, hTs, hn⟩ := X
  intro L K S hb9 H locs ls hP hD hS hl
  simp only [tb_icmp_ne, tb_icmp] at hb9
  split at hb9
  · exact lv_icmp_ne hx hb hd hg (fun z => ht _ _ _ (hb9.2 z) H locs ls hP hD hS hl) (fun z => hf _ _ _ (hb9.1 z) H locs ls hP hD hS hl)
  · exact hb9.elim
def tb_icmp_lt (kt kf : tc_B) : tc_B := tb_icmp (fun x y => x < y) kt kf
theorem to_icmp_lt {off : Int} {tgt : Nat} (X : tc_Cx R cc nL own Z) (hd : decode cc pc = .ok (.if_icmp .lt off, 3)) (hg : (pc : Int) + off = (tgt : Int)) (ht : tc_Ok nL Z tgt kt) (hf : tc_Ok nL Z (pc + 3) kf) : tc_Ok nL Z pc (tb_icmp_lt kt kf) := by
  obtain ⟨p, l, e, R', s, m, args, below, meth, c, n, Q, Ts, D, ad, cA, A⟩ := Z
  obtain ⟨rfl, ⟨hx, hb, hml, hown, hts⟩, hK, hA, hSt, hTs, hn⟩ := X
  intro L K S hb9 H locs ls hP hD hS hl
  simp only [tb_icmp_lt, tb_icmp] at hb9
  split at hb9
  · exact lv_icmp_lt hx hb hd hg (fun z => ht _ _ _ (hb9.1 z) H locs ls hP hD hS hl) (fun z => hf _ _ _ (hb9.2 z) H locs ls hP hD hS hl)
  · exact hb9.elim
def tb_icmp_ge (kt kf : tc_B) : tc_B := tb_icmp (fun x y => y ≤ x) kt kf
theorem to_icmp_ge {off : Int} {tgt : Nat} (X : tc_Cx R cc nL own Z) (hd : decode cc pc = .ok (.if_icmp .ge off, 3)) (hg : (pc : Int) + off = (tgt : Int)) (ht : tc_Ok nL Z tgt kt) (hf : tc_Ok nL Z (pc + 3) kf) : tc_Ok nL Z pc (tb_icmp_ge kt kf) := by
  obtain ⟨p, l, e, R', s, m, args, below, meth, c, n, Q, Ts, D, ad, cA, A⟩ := Z
  obtain ⟨rfl, ⟨hx, hb, hml, hown, hts⟩, hK, hA, hSt, hTs, hn⟩ := X
  intro L K S hb9 H locs ls hP hD hS hl
  simp only [tb_icmp_ge, tb_icmp] at hb9
  split at hb9
  · exact lv_icmp_ge hx hb hd hg (fun z => ht _ _ _ (hb9.1 z) H locs ls hP hD hS hl) (fun z => hf _ _ _ (hb9.2 z) H locs ls hP hD hS hl)
  · exact hb9.elim
def tb_icmp_gt (kt kf : tc_B) : tc_B := tb_icmp (fun x y => y < x) kt kf
theorem to_icmp_gt {off : Int} {tgt : Nat} (X : tc_Cx R cc nL own Z) (hd : decode cc pc = .ok (.if_icmp .gt off, 3)) (hg : (pc : Int) + off = (tgt : Int)) (ht : tc_Ok nL Z tgt kt) (hf : tc_Ok nL Z (pc + 3) kf) : tc_Ok nL Z pc (tb_icmp_gt kt kf) := by
  obtain ⟨p, l, e, R', s, m, args, below, meth, c, n, Q, Ts, D, ad, cA, A⟩ := Z
  obtain ⟨rfl, ⟨hx, hb, hml, hown, hts⟩, hK, hA, hSt, hTs, hn⟩ := X
  intro L K S hb9 H locs ls hP hD hS hl
  simp only [tb_icmp_gt, tb_icmp] at hb9
  split at hb9
  · exact lv_icmp_gt hx hb hd hg (fun z => ht _ _ _ (hb9.1 z) H locs ls hP hD hS hl) (fun z => hf _ _ _ (hb9.2 z) H locs ls hP hD hS hl)
  · exact hb9.elim
def tb_icmp_le (kt kf : tc_B) : tc_B := tb_icmp (fun x y => x ≤ y) kt kf
theorem to_icmp_le {off : Int} {tgt : Nat} (X : tc_Cx R cc nL own Z) (hd : decode cc pc = .ok (.if_icmp .le off, 3)) (hg : (pc : Int) + off = (tgt : Int)) (ht : tc_Ok nL Z tgt kt) (hf : tc_Ok nL Z (pc + 3) kf) : tc_Ok nL Z pc (tb_icmp_le kt kf) := by
  obtain ⟨p, l, e, R', s, m, args, below, meth, c, n, Q, Ts, D, ad, cA, A⟩ := Z
  obtain ⟨rfl, ⟨hx, hb, hml, hown, hts⟩, hK, hA, hSt, hTs, hn⟩ := X
  intro L K S hb9 H locs ls hP hD hS hl
  simp only [tb_icmp_le, tb_icmp] at hb9
  split at hb9
  · exact lv_icmp_le hx hb hd hg (fun z => ht _ _ _ (hb9.1 z) H locs ls hP hD hS hl) (fun z => hf _ _ _ (hb9.2 z) H locs ls hP hD hS hl)
  · exact hb9.elim
theorem to_goto {off : Int} {tgt : Nat} (X : tc_Cx R cc nL own Z) (hd : decode cc pc = .ok (.goto off, 3)) (hg : (pc : Int) + off = (tgt : Int)) (h : tc_Ok nL Z tgt k) : tc_Ok nL Z pc k := by
  obtain ⟨p, l, e, R', s, m, args, below, meth, c, n, Q, Ts, D, ad, cA, A⟩ := Z
  obtain ⟨rfl, ⟨hx, hb, hml, hown, hts⟩, hK, hA, hSt, hTs, hn⟩ := X
  intro L K S hb9 H locs ls hP hD hS hl
  exact lv_goto hx hb hd hg (h _ _ _ hb9 H locs ls hP hD hS hl)
end TCROWS
