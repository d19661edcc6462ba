/-! the cells, one by one -/
def sw_F (ad : Nat → Nat → Nat) (S : tc_S) (i : Nat) : Nat → List Value → List (Nat × Nat) → Prop
  | _, [], [] => True
  | k, x :: xs, f :: fs => x = tc_v ad (tc_fv S i k f) ∧ sw_F ad S i (k + 1) xs fs
  | _, _, _ => False
theorem sw_Fm {ad : Nat → Nat → Nat} {S : tc_S} {i : Nat} : ∀ (fs : List (Nat × Nat)) (xs : List Value) (n : Nat), sw_F ad S i n xs fs → xs = fs.mapIdx (fun k f => tc_v ad (tc_fv S i (k + n) f)) := by
  intro fs
  induction fs with
  | nil =>
    intro xs n h
    cases xs with
    | nil => rfl
    | cons x xs => exact h.elim
  | cons f fs ih =>
    intro xs n h
    cases xs with
    | nil => exact h.elim
    | cons x xs =>
      obtain ⟨h1, h2⟩ := h
      have e : (fun (k : Nat) (f : Nat × Nat) => tc_v ad (tc_fv S i (k + (n + 1)) f)) = fun k f => tc_v ad (tc_fv S i (k + 1 + n) f) := by
        funext k f
        rw [Nat.add_right_comm k 1 n, Nat.add_assoc]
      rw [List.mapIdx_cons, h1, ih xs (n + 1) h2, Nat.zero_add, e]
section SWK
variable {h0 h1 b : Nat} {u v : List Nat} {r1 r2 r3 r4 r6 : Nat → Nat} {cA : Nat → ClassId}
theorem sw_k0 : (kwX10_init (r1 0) cA h0 u ++ kwX11_init cA h1 v)[0]? = some (tc_cell (sw_ad h0 h1 b u v r1 r2 r3 r4 r6) cA sw_S 0 (.inl (8, [(2, 1), (2, 2), (2, 3), (2, 4), (2, 5), (2, 6), (2, 7), (2, 8), (2, 9), (2, 10), (2, 11), (2, 12), (2, 13), (3, 0)]))) := rfl
theorem sw_k1 : (kwX10_init (r1 0) cA h0 u ++ kwX11_init cA h1 v)[1]? = some (tc_cell (sw_ad h0 h1 b u v r1 r2 r3 r4 r6) cA sw_S 1 (.inl (1, [(2, 14), (2, 15), (2, 16)]))) := rfl
theorem sw_k2 : (kwX10_init (r1 0) cA h0 u ++ kwX11_init cA h1 v)[5]? = some (tc_cell (sw_ad h0 h1 b u v r1 r2 r3 r4 r6) cA sw_S 2 (.inl (7, [(2, 17), (0, 0)]))) := rfl
theorem sw_k3 : (kwX10_init (r1 0) cA h0 u ++ kwX11_init cA h1 v)[7]? = some (tc_cell (sw_ad h0 h1 b u v r1 r2 r3 r4 r6) cA sw_S 3 (.inl (4, [(2, 18), (0, 0), (0, 0)]))) := rfl
theorem sw_k4 : (kwX10_init (r1 0) cA h0 u ++ kwX11_init cA h1 v)[9]? = some (tc_cell (sw_ad h0 h1 b u v r1 r2 r3 r4 r6) cA sw_S 4 (.inl (2, [(2, 19), (2, 20), (0, 0), (0, 0)]))) := rfl
theorem sw_k5 : (kwX10_init (r1 0) cA h0 u ++ kwX11_init cA h1 v)[12]? = some (tc_cell (sw_ad h0 h1 b u v r1 r2 r3 r4 r6) cA sw_S 5 (.inl (0, [(2, 21), (0, 0), (2, 22), (2, 23), (2, 24), (2, 25), (2, 26)]))) := rfl
theorem sw_k6 : (kwX10_init (r1 0) cA h0 u ++ kwX11_init cA h1 v)[19]? = some (tc_cell (sw_ad h0 h1 b u v r1 r2 r3 r4 r6) cA sw_S 6 (.inl (6, [(2, 27), (2, 28), (2, 29), (2, 30), (2, 31), (2, 32), (0, 0)]))) := rfl
theorem sw_k7 : (kwX10_init (r1 0) cA h0 u ++ kwX11_init cA h1 v)[26]? = some (tc_cell (sw_ad h0 h1 b u v r1 r2 r3 r4 r6) cA sw_S 7 (.inl (3, [(1, 0), (1, 0)]))) := rfl
theorem sw_k8 : (kwX10_init (r1 0) cA h0 u ++ kwX11_init cA h1 v)[27]? = some (tc_cell (sw_ad h0 h1 b u v r1 r2 r3 r4 r6) cA sw_S 8 (.inl (3, [(1, 0), (1, 0)]))) := rfl
theorem sw_k9 : (kwX10_init (r1 0) cA h0 u ++ kwX11_init cA h1 v)[28]? = some (tc_cell (sw_ad h0 h1 b u v r1 r2 r3 r4 r6) cA sw_S 9 (.inl (5, [(2, 33), (0, 0)]))) := rfl
theorem sw_k10 : (kwX10_init (r1 0) cA h0 u ++ kwX11_init cA h1 v)[30]? = some (tc_cell (sw_ad h0 h1 b u v r1 r2 r3 r4 r6) cA sw_S 10 (.inr (2, 5))) := rfl
theorem sw_k11 : (kwX10_init (r1 0) cA h0 u ++ kwX11_init cA h1 v)[31]? = some (tc_cell (sw_ad h0 h1 b u v r1 r2 r3 r4 r6) cA sw_S 11 (.inr (0, 5))) := rfl
theorem sw_k12 : (kwX10_init (r1 0) cA h0 u ++ kwX11_init cA h1 v)[32]? = some (tc_cell (sw_ad h0 h1 b u v r1 r2 r3 r4 r6) cA sw_S 12 (.inr (0, 3))) := rfl
theorem sw_k13 : (kwX10_init (r1 0) cA h0 u ++ kwX11_init cA h1 v)[33]? = some (tc_cell (sw_ad h0 h1 b u v r1 r2 r3 r4 r6) cA sw_S 13 (.inr (0, 4))) := rfl
theorem sw_k14 : (kwX10_init (r1 0) cA h0 u ++ kwX11_init cA h1 v)[2]? = some (tc_cell (sw_ad h0 h1 b u v r1 r2 r3 r4 r6) cA sw_S 14 (.inr (0, 160))) := rfl
theorem sw_k15 : (kwX10_init (r1 0) cA h0 u ++ kwX11_init cA h1 v)[3]? = some (tc_cell (sw_ad h0 h1 b u v r1 r2 r3 r4 r6) cA sw_S 15 (.inr (0, 4))) := rfl
theorem sw_k16 : (kwX10_init (r1 0) cA h0 u ++ kwX11_init cA h1 v)[4]? = some (tc_cell (sw_ad h0 h1 b u v r1 r2 r3 r4 r6) cA sw_S 16 (.inr (0, 40))) := rfl
theorem sw_k17 : (kwX10_init (r1 0) cA h0 u ++ kwX11_init cA h1 v)[6]? = some (tc_cell (sw_ad h0 h1 b u v r1 r2 r3 r4 r6) cA sw_S 17 (.inr (0, 24))) := rfl
theorem sw_k18 : (kwX10_init (r1 0) cA h0 u ++ kwX11_init cA h1 v)[8]? = some (tc_cell (sw_ad h0 h1 b u v r1 r2 r3 r4 r6) cA sw_S 18 (.inr (0, 3))) := rfl
theorem sw_k19 : (kwX10_init (r1 0) cA h0 u ++ kwX11_init cA h1 v)[10]? = some (tc_cell (sw_ad h0 h1 b u v r1 r2 r3 r4 r6) cA sw_S 19 (.inr (0, 40))) := rfl
theorem sw_k20 : (kwX10_init (r1 0) cA h0 u ++ kwX11_init cA h1 v)[11]? = some (tc_cell (sw_ad h0 h1 b u v r1 r2 r3 r4 r6) cA sw_S 20 (.inr (1, 40))) := rfl
theorem sw_k21 : (kwX10_init (r1 0) cA h0 u ++ kwX11_init cA h1 v)[13]? = some (tc_cell (sw_ad h0 h1 b u v r1 r2 r3 r4 r6) cA sw_S 21 (.inr (0, 9))) := rfl
theorem sw_k22 : (kwX10_init (r1 0) cA h0 u ++ kwX11_init cA h1 v)[14]? = some (tc_cell (sw_ad h0 h1 b u v r1 r2 r3 r4 r6) cA sw_S 22 (.inr (0, 10))) := rfl
theorem sw_k23 : (kwX10_init (r1 0) cA h0 u ++ kwX11_init cA h1 v)[15]? = some (tc_cell (sw_ad h0 h1 b u v r1 r2 r3 r4 r6) cA sw_S 23 (.inr (0, 10))) := rfl
theorem sw_k24 : (kwX10_init (r1 0) cA h0 u ++ kwX11_init cA h1 v)[16]? = some (tc_cell (sw_ad h0 h1 b u v r1 r2 r3 r4 r6) cA sw_S 24 (.inr (0, 10))) := rfl
theorem sw_k25 : (kwX10_init (r1 0) cA h0 u ++ kwX11_init cA h1 v)[17]? = some (tc_cell (sw_ad h0 h1 b u v r1 r2 r3 r4 r6) cA sw_S 25 (.inr (0, 10))) := rfl
theorem sw_k26 : (kwX10_init (r1 0) cA h0 u ++ kwX11_init cA h1 v)[18]? = some (tc_cell (sw_ad h0 h1 b u v r1 r2 r3 r4 r6) cA sw_S 26 (.inr (0, 10))) := rfl
theorem sw_k27 : (kwX10_init (r1 0) cA h0 u ++ kwX11_init cA h1 v)[20]? = some (tc_cell (sw_ad h0 h1 b u v r1 r2 r3 r4 r6) cA sw_S 27 (.inr (0, 101))) := rfl
theorem sw_k28 : (kwX10_init (r1 0) cA h0 u ++ kwX11_init cA h1 v)[21]? = some (tc_cell (sw_ad h0 h1 b u v r1 r2 r3 r4 r6) cA sw_S 28 (.inr (0, 101))) := rfl
theorem sw_k29 : (kwX10_init (r1 0) cA h0 u ++ kwX11_init cA h1 v)[22]? = some (tc_cell (sw_ad h0 h1 b u v r1 r2 r3 r4 r6) cA sw_S 29 (.inr (0, 40))) := rfl
theorem sw_k30 : (kwX10_init (r1 0) cA h0 u ++ kwX11_init cA h1 v)[23]? = some (tc_cell (sw_ad h0 h1 b u v r1 r2 r3 r4 r6) cA sw_S 30 (.inr (0, 40))) := rfl
theorem sw_k31 : (kwX10_init (r1 0) cA h0 u ++ kwX11_init cA h1 v)[24]? = some (tc_cell (sw_ad h0 h1 b u v r1 r2 r3 r4 r6) cA sw_S 31 (.inr (0, 40))) := rfl
theorem sw_k32 : (kwX10_init (r1 0) cA h0 u ++ kwX11_init cA h1 v)[25]? = some (tc_cell (sw_ad h0 h1 b u v r1 r2 r3 r4 r6) cA sw_S 32 (.inr (0, 40))) := rfl
theorem sw_k33 : (kwX10_init (r1 0) cA h0 u ++ kwX11_init cA h1 v)[29]? = some (tc_cell (sw_ad h0 h1 b u v r1 r2 r3 r4 r6) cA sw_S 33 (.inr (0, 100))) := rfl
theorem sw_f34 : ([.ref (v.getD 0 0), .ref (v.getD 1 0), .ref (v.getD 2 0), .ref (v.getD 3 0), .int 0, .ref (v.getD 4 0), .int 0, .int 0, .ref (v.getD 5 0), .int 0, .long 0, .long 1, .ref (v.getD 6 0), .ref (v.getD 7 0), .ref (v.getD 8 0), .ref (v.getD 9 0), .ref (v.getD 10 0), .ref (v.getD 11 0), .int 0, .int 0, .int 0, .ref (v.getD 12 0), .ref (v.getD 13 0), .ref (v.getD 14 0), .ref (v.getD 15 0), .int 0, .int 0, .int 0, .ref (v.getD 16 0), .int 0] : List Value) = [(2, 35), (2, 36), (2, 37), (2, 38), (0, 0), (2, 39), (0, 0), (0, 0), (2, 40), (0, 0), (1, 0), (1, 0), (2, 41), (2, 42), (2, 43), (2, 44), (2, 45), (2, 46), (0, 0), (0, 0), (0, 0), (2, 47), (2, 48), (2, 49), (2, 50), (0, 0), (0, 0), (0, 0), (2, 51), (0, 0)].mapIdx (fun k f => tc_v (sw_ad h0 h1 b u v r1 r2 r3 r4 r6) (tc_fv sw_S 34 k f)) :=
  sw_Fm _ _ 0 ⟨rfl, rfl, rfl, rfl, rfl, rfl, rfl, rfl, rfl, rfl, rfl, rfl, rfl, rfl, rfl, rfl, rfl, rfl, rfl, rfl, rfl, rfl, rfl, rfl, rfl, rfl, rfl, rfl, rfl, rfl, trivial⟩
theorem sw_g34 : (kwX10_init (r1 0) cA h0 u ++ kwX11_init cA h1 v)[34]? = some (h1, .inr (9, [.ref (v.getD 0 0), .ref (v.getD 1 0), .ref (v.getD 2 0), .ref (v.getD 3 0), .int 0, .ref (v.getD 4 0), .int 0, .int 0, .ref (v.getD 5 0), .int 0, .long 0, .long 1, .ref (v.getD 6 0), .ref (v.getD 7 0), .ref (v.getD 8 0), .ref (v.getD 9 0), .ref (v.getD 10 0), .ref (v.getD 11 0), .int 0, .int 0, .int 0, .ref (v.getD 12 0), .ref (v.getD 13 0), .ref (v.getD 14 0), .ref (v.getD 15 0), .int 0, .int 0, .int 0, .ref (v.getD 16 0), .int 0])) := rfl
theorem sw_k34 : (kwX10_init (r1 0) cA h0 u ++ kwX11_init cA h1 v)[34]? = some (tc_cell (sw_ad h0 h1 b u v r1 r2 r3 r4 r6) cA sw_S 34 (.inl (9, [(2, 35), (2, 36), (2, 37), (2, 38), (0, 0), (2, 39), (0, 0), (0, 0), (2, 40), (0, 0), (1, 0), (1, 0), (2, 41), (2, 42), (2, 43), (2, 44), (2, 45), (2, 46), (0, 0), (0, 0), (0, 0), (2, 47), (2, 48), (2, 49), (2, 50), (0, 0), (0, 0), (0, 0), (2, 51), (0, 0)]))) := by
  rw [sw_g34, tc_cell_o, ← sw_f34]
  rfl
theorem sw_k35 : (kwX10_init (r1 0) cA h0 u ++ kwX11_init cA h1 v)[35]? = some (tc_cell (sw_ad h0 h1 b u v r1 r2 r3 r4 r6) cA sw_S 35 (.inr (0, 160))) := rfl
theorem sw_k36 : (kwX10_init (r1 0) cA h0 u ++ kwX11_init cA h1 v)[36]? = some (tc_cell (sw_ad h0 h1 b u v r1 r2 r3 r4 r6) cA sw_S 36 (.inr (0, 40))) := rfl
theorem sw_k37 : (kwX10_init (r1 0) cA h0 u ++ kwX11_init cA h1 v)[37]? = some (tc_cell (sw_ad h0 h1 b u v r1 r2 r3 r4 r6) cA sw_S 37 (.inr (0, 4))) := rfl
theorem sw_k38 : (kwX10_init (r1 0) cA h0 u ++ kwX11_init cA h1 v)[38]? = some (tc_cell (sw_ad h0 h1 b u v r1 r2 r3 r4 r6) cA sw_S 38 (.inr (0, 24))) := rfl
theorem sw_k39 : (kwX10_init (r1 0) cA h0 u ++ kwX11_init cA h1 v)[39]? = some (tc_cell (sw_ad h0 h1 b u v r1 r2 r3 r4 r6) cA sw_S 39 (.inr (0, 60))) := rfl
theorem sw_k40 : (kwX10_init (r1 0) cA h0 u ++ kwX11_init cA h1 v)[40]? = some (tc_cell (sw_ad h0 h1 b u v r1 r2 r3 r4 r6) cA sw_S 40 (.inr (0, 3))) := rfl
theorem sw_k41 : (kwX10_init (r1 0) cA h0 u ++ kwX11_init cA h1 v)[41]? = some (tc_cell (sw_ad h0 h1 b u v r1 r2 r3 r4 r6) cA sw_S 41 (.inr (1, 101))) := rfl
theorem sw_k42 : (kwX10_init (r1 0) cA h0 u ++ kwX11_init cA h1 v)[42]? = some (tc_cell (sw_ad h0 h1 b u v r1 r2 r3 r4 r6) cA sw_S 42 (.inr (0, 10))) := rfl
theorem sw_k43 : (kwX10_init (r1 0) cA h0 u ++ kwX11_init cA h1 v)[43]? = some (tc_cell (sw_ad h0 h1 b u v r1 r2 r3 r4 r6) cA sw_S 43 (.inr (0, 10))) := rfl
theorem sw_k44 : (kwX10_init (r1 0) cA h0 u ++ kwX11_init cA h1 v)[44]? = some (tc_cell (sw_ad h0 h1 b u v r1 r2 r3 r4 r6) cA sw_S 44 (.inr (0, 10))) := rfl
theorem sw_k45 : (kwX10_init (r1 0) cA h0 u ++ kwX11_init cA h1 v)[45]? = some (tc_cell (sw_ad h0 h1 b u v r1 r2 r3 r4 r6) cA sw_S 45 (.inr (0, 10))) := rfl
theorem sw_k46 : (kwX10_init (r1 0) cA h0 u ++ kwX11_init cA h1 v)[46]? = some (tc_cell (sw_ad h0 h1 b u v r1 r2 r3 r4 r6) cA sw_S 46 (.inr (0, 10))) := rfl
theorem sw_k47 : (kwX10_init (r1 0) cA h0 u ++ kwX11_init cA h1 v)[47]? = some (tc_cell (sw_ad h0 h1 b u v r1 r2 r3 r4 r6) cA sw_S 47 (.inr (0, 101))) := rfl
theorem sw_k48 : (kwX10_init (r1 0) cA h0 u ++ kwX11_init cA h1 v)[48]? = some (tc_cell (sw_ad h0 h1 b u v r1 r2 r3 r4 r6) cA sw_S 48 (.inr (0, 101))) := rfl
theorem sw_k49 : (kwX10_init (r1 0) cA h0 u ++ kwX11_init cA h1 v)[49]? = some (tc_cell (sw_ad h0 h1 b u v r1 r2 r3 r4 r6) cA sw_S 49 (.inr (0, 101))) := rfl
theorem sw_k50 : (kwX10_init (r1 0) cA h0 u ++ kwX11_init cA h1 v)[50]? = some (tc_cell (sw_ad h0 h1 b u v r1 r2 r3 r4 r6) cA sw_S 50 (.inr (0, 101))) := rfl
theorem sw_k51 : (kwX10_init (r1 0) cA h0 u ++ kwX11_init cA h1 v)[51]? = some (tc_cell (sw_ad h0 h1 b u v r1 r2 r3 r4 r6) cA sw_S 51 (.inr (0, 100))) := rfl
end SWK
def sw_Q (ws : va_W) (ad : Nat → Nat → Nat) (cA : Nat → ClassId) (S : tc_S) : Nat → List Nat → List tc_C → Prop
  | _, [], [] => True
  | i, p :: ps, c :: cs => ws[p]? = some (tc_cell ad cA S i c) ∧ sw_Q ws ad cA S (i + 1) ps cs
  | _, _, _ => False
theorem sw_Qm {ws : va_W} {ad : Nat → Nat → Nat} {cA : Nat → ClassId} {S : tc_S} : ∀ (cs : List tc_C) (ps : List Nat) (i : Nat), sw_Q ws ad cA S i ps cs → ps.map (fun i => ws[i]?) = (cs.mapIdx (fun k c => tc_cell ad cA S (k + i) c)).map some := by
  intro cs
  induction cs with
  | nil =>
    intro ps i h
    cases ps with
    | nil => rfl
    | cons p ps => exact h.elim
  | cons c cs ih =>
    intro ps i h
    cases ps with
    | nil => exact h.elim
    | cons p ps =>
      obtain ⟨h1, h2⟩ := h
      have e : (fun (k : Nat) (c : tc_C) => tc_cell ad cA S (k + (i + 1)) c) = fun k c => tc_cell ad cA S (k + 1 + i) c := by
        funext k c
        rw [Nat.add_right_comm k 1 i, Nat.add_assoc]
      rw [List.map_cons, List.mapIdx_cons, List.map_cons, h1, ih ps (i + 1) h2, Nat.zero_add, e]
theorem sw_all {h0 h1 b : Nat} {u v : List Nat} {r1 r2 r3 r4 r6 : Nat → Nat} {cA : Nat → ClassId} : sw_p.map (fun i => (kwX10_init (r1 0) cA h0 u ++ kwX11_init cA h1 v)[i]?) = (tc_W (sw_ad h0 h1 b u v r1 r2 r3 r4 r6) cA sw_S).map some :=
  sw_Qm tc_lay sw_p 0 ⟨sw_k0, sw_k1, sw_k2, sw_k3, sw_k4, sw_k5, sw_k6, sw_k7, sw_k8, sw_k9, sw_k10, sw_k11, sw_k12, sw_k13, sw_k14, sw_k15, sw_k16, sw_k17, sw_k18, sw_k19, sw_k20, sw_k21, sw_k22, sw_k23, sw_k24, sw_k25, sw_k26, sw_k27, sw_k28, sw_k29, sw_k30, sw_k31, sw_k32, sw_k33, sw_k34, sw_k35, sw_k36, sw_k37, sw_k38, sw_k39, sw_k40, sw_k41, sw_k42, sw_k43, sw_k44, sw_k45, sw_k46, sw_k47, sw_k48, sw_k49, sw_k50, sw_k51, trivial⟩
