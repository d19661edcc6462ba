/-! pools: from the top of a stack: least, greatest, how many, how many yes -/
abbrev hP : Type := Nat × Nat × Nat × Nat
def hJn (a b : hP) : hP := (a.1, b.2.1, a.2.2.1 + b.2.2.1, a.2.2.2 + b.2.2.2)
def hMg (b : hP) : List hP → List hP
  | [] => [b]
  | a :: r => if b.2.2.2 * a.2.2.1 ≤ a.2.2.2 * b.2.2.1 then hMg (hJn a b) r else b :: a :: r
def hPc (l : List (Nat × Bool)) (p : Nat) : Nat := (l.filter (fun c => c.1 == p)).length
def hPy (l : List (Nat × Bool)) (p : Nat) : Nat := (l.filter (fun c => c.1 == p && c.2)).length
def hPs (l : List (Nat × Bool)) : Nat → List hP
  | 0 => []
  | n + 1 => if hPc l n = 0 then hPs l n else hMg (n, n, hPc l n, hPy l n) (hPs l n)
theorem hPc_push (l : List (Nat × Bool)) (c : Nat × Bool) (p : Nat) : hPc (l ++ [c]) p = hPc l p + if c.1 = p then 1 else 0 := by
  unfold hPc
  rw [List.filter_append, List.length_append]
  by_cases h : c.1 = p <;> simp [h]
theorem hPy_push (l : List (Nat × Bool)) (c : Nat × Bool) (p : Nat) : hPy (l ++ [c]) p = hPy l p + if c.1 = p ∧ c.2 = true then 1 else 0 := by
  unfold hPy
  rw [List.filter_append, List.length_append]
  by_cases h : c.1 = p
  · cases h2 : c.2 <;> simp [h, h2]
  · simp [h]
theorem hPy_le (l : List (Nat × Bool)) (p : Nat) : hPy l p ≤ hPc l p := by
  unfold hPy hPc
  induction l with
  | nil => simp
  | cons c l ih =>
    by_cases h : c.1 = p
    · cases h2 : c.2 <;> simp [h, h2] <;> omega
    · simp [h]
      exact ih
def hLt (l : List (Nat × Bool)) (n : Nat) : Nat := (l.filter (fun c => decide (c.1 < n))).length
theorem hLt_succ (l : List (Nat × Bool)) (n : Nat) : hLt l (n + 1) = hLt l n + hPc l n := by
  unfold hLt hPc
  induction l with
  | nil => rfl
  | cons c l ih =>
    by_cases h1 : c.1 < n
    · have h2 : c.1 < n + 1 := by omega
      have h3 : ¬ c.1 = n := by omega
      simp [h1, h2, h3]
      omega
    · by_cases h3 : c.1 = n
      · have h2 : c.1 < n + 1 := by omega
        simp [h1, h2, h3]
        omega
      · have h2 : ¬ c.1 < n + 1 := by omega
        simp [h1, h2, h3]
        omega
theorem hLt_le (l : List (Nat × Bool)) (n : Nat) : hLt l n ≤ l.length := List.length_filter_le _ _
/-- each pool has cases, no more yes than cases; together they have N -/
def hPk (st : List hP) (N : Nat) : Prop := (∀ a ∈ st, 1 ≤ a.2.2.1 ∧ a.2.2.2 ≤ a.2.2.1) ∧ (st.map (fun a => a.2.2.1)).sum = N
theorem hPk_len {st : List hP} {N : Nat} (h : hPk st N) : st.length ≤ N := by
  obtain ⟨h1, h2⟩ := h
  induction st generalizing N with
  | nil => simp
  | cons a st ih =>
    have := ih (fun b hb => h1 b (List.mem_cons_of_mem _ hb)) rfl
    have := h1 a List.mem_cons_self
    simp only [List.map_cons, List.sum_cons, List.length_cons] at h2 ⊢
    omega
theorem hPk_mem {st : List hP} {N : Nat} (h : hPk st N) {a : hP} (ha : a ∈ st) : a.2.2.1 ≤ N := by
  obtain ⟨h1, h2⟩ := h
  induction st generalizing N with
  | nil => cases ha
  | cons b st ih =>
    simp only [List.map_cons, List.sum_cons] at h2
    rcases List.mem_cons.mp ha with rfl | hm
    · omega
    · have := ih hm (fun c hc => h1 c (List.mem_cons_of_mem _ hc)) rfl
      omega
theorem hPk_join {a b : hP} {r : List hP} {N : Nat} (h : hPk (b :: a :: r) N) : hPk (hJn a b :: r) N := by
  obtain ⟨h1, h2⟩ := h
  have ha := h1 a (by simp)
  have hb := h1 b (by simp)
  refine ⟨fun c hc => ?_, ?_⟩
  · rcases List.mem_cons.mp hc with rfl | hm
    · unfold hJn
      simp only
      omega
    · exact h1 c (by simp [hm])
  · simp only [List.map_cons, List.sum_cons, hJn] at h2 ⊢
    omega
theorem hPk_mg : ∀ (r : List hP) (b : hP) (N : Nat), hPk (b :: r) N → hPk (hMg b r) N := by
  intro r
  induction r with
  | nil => intro b N h; exact h
  | cons a r ih =>
    intro b N h
    simp only [hMg]
    split
    · exact ih _ _ (hPk_join h)
    · exact h
theorem hPs_ok (l : List (Nat × Bool)) : ∀ n, hPk (hPs l n) (hLt l n) := by
  intro n
  induction n with
  | zero => exact ⟨fun a ha => (by cases ha), by simp only [hPs, hLt, Nat.not_lt_zero, decide_false, List.map_nil, List.sum_nil]; exact (congrArg List.length (List.filter_eq_nil_iff.mpr (fun _ _ => Bool.false_ne_true))).symm⟩
  | succ n ih =>
    rw [hLt_succ]
    simp only [hPs]
    split
    · rename_i z
      rw [z]
      exact ih
    · rename_i z
      refine hPk_mg _ _ _ ⟨fun a ha => ?_, ?_⟩
      · rcases List.mem_cons.mp ha with rfl | hm
        · have := hPy_le l n
          simp only
          omega
        · exact ih.1 a hm
      · simp only [List.map_cons, List.sum_cons, ih.2]
        omega
/-- the rows hold the pools, from the bottom on -/
def hPr (r0 r1 r2 r3 : Nat → Int32) (st : List hP) : Prop := ∀ i a, st.reverse[i]? = some a → r0 i = nI a.1 ∧ r1 i = nI a.2.1 ∧ r2 i = nI a.2.2.1 ∧ r3 i = nI a.2.2.2
theorem hPr_push {r0 r1 r2 r3 : Nat → Int32} {st : List hP} {a : hP} {n : Nat} (h : hPr r0 r1 r2 r3 st) (hn : n = st.length) : hPr (upd r0 n (nI a.1)) (upd r1 n (nI a.2.1)) (upd r2 n (nI a.2.2.1)) (upd r3 n (nI a.2.2.2)) (a :: st) := by
  intro i b hb
  rw [List.reverse_cons] at hb
  by_cases hi : i = n
  · subst hi
    rw [List.getElem?_append_right (by simp [hn]), List.length_reverse, hn, Nat.sub_self] at hb
    have e : a = b := Option.some.inj hb
    rw [h_upd, h_upd, h_upd, h_upd, e]
    exact ⟨rfl, rfl, rfl, rfl⟩
  · have hil : i < st.length := by
      have := (List.getElem?_eq_some_iff.mp hb).1
      simp at this
      omega
    rw [List.getElem?_append_left (by simp [hil])] at hb
    rw [h_updn hi, h_updn hi, h_updn hi, h_updn hi]
    exact h i b hb
theorem hPr_top {r0 r1 r2 r3 : Nat → Int32} {r : List hP} {b : hP} (h : hPr r0 r1 r2 r3 (b :: r)) : r0 r.length = nI b.1 ∧ r1 r.length = nI b.2.1 ∧ r2 r.length = nI b.2.2.1 ∧ r3 r.length = nI b.2.2.2 := h r.length b (by rw [List.reverse_cons, List.getElem?_append_right (by simp), List.length_reverse, Nat.sub_self]; rfl)
theorem hPr_pop {r0 r1 r2 r3 : Nat → Int32} {r : List hP} {b : hP} (h : hPr r0 r1 r2 r3 (b :: r)) : hPr r0 r1 r2 r3 r := by
  intro i a ha
  refine h i a ?_
  have hil := (List.getElem?_eq_some_iff.mp ha).1
  rw [List.reverse_cons, List.getElem?_append_left hil]
  exact ha
/-- the two on top are made one -/
theorem hPr_join {r0 r1 r2 r3 : Nat → Int32} {r : List hP} {a b : hP} (h : hPr r0 r1 r2 r3 (b :: a :: r)) : hPr r0 (upd r1 r.length (nI b.2.1)) (upd r2 r.length (nI (a.2.2.1 + b.2.2.1))) (upd r3 r.length (nI (a.2.2.2 + b.2.2.2))) (hJn a b :: r) := by
  have ha := hPr_top (hPr_pop h)
  have hr := hPr_pop (hPr_pop h)
  have := hPr_push (a := hJn a b) hr rfl
  intro i c hc
  obtain ⟨t0, t1, t2, t3⟩ := this i c hc
  refine ⟨?_, t1, t2, t3⟩
  by_cases hi : i = r.length
  · rw [hi, ha.1]
    rw [hi, h_upd] at t0
    exact t0
  · rw [h_updn hi] at t0
    exact t0
section HPOOL
variable {q : tc_Q} {S : tc_S} {x1 x2 x3 : Int32} {t : Nat}
def cPo (S S' : tc_S) (st : List hP) : Prop := hS [6, 27, 28, 29, 30, 31, 32] S S' ∧ S'.1 6 6 = nI st.length ∧ hPr (S'.1 29) (S'.1 30) (S'.1 31) (S'.1 32) st
theorem s_byChance {l : List (Nat × Bool)} (hc : cC S l) (h : ∀ S', hS [27, 28] S S' → (∀ p, p ≤ 100 → S'.1 27 p = nI (hPc l p) ∧ S'.1 28 p = nI (hPy l p)) → q none S') : RX7_sortByChance [tc_R 0 6, tc_R 0 4] S q := by
  refine inX7_sortByChance (fun P h2 h30 h74 => ?_)
  obtain ⟨c1, c2, c3, c4, c5⟩ := hc
  have loop2 : ∀ d n S', n + d = l.length → hS [27, 28] S S' → (∀ p, p ≤ 100 → S'.1 27 p = nI (hPc (l.take n) p) ∧ S'.1 28 p = nI (hPy (l.take n) p)) → P 30 [(0, tc_R 0 6), (1, tc_R 0 4), (2, tc_I (nI n))] [] S' := by
    intro d
    induction d with
    | zero =>
      intro n S' hn hs hv
      refine h30 _ _ ?_
      unfold fmX7_sortByChance_30
      rw [hs.1 4 (by decide), c3]
      rw [List.take_of_length_le (by omega)] at hv
      exact ⟨fun _ => h S' hs hv, fun z => absurd (nI_le (by omega) (by omega)) z⟩
    | succ d ih =>
      intro n S' hn hs hv
      obtain ⟨c, hcn⟩ : ∃ c, l[n]? = some c := ⟨l[n], List.getElem?_eq_getElem (by omega)⟩
      have hp := c2 c (List.mem_of_getElem? hcn)
      have tk := h_take hcn
      have e20 : S'.1 20 n = h01 c.2 := by rw [hs.1 20 (by decide)]; exact (c5 n c hcn).2
      refine h30 _ _ ?_
      unfold fmX7_sortByChance_30
      rw [hs.1 4 (by decide), c3, hs.1 19 (by decide), nI_clamp (by omega), (c5 n c hcn).1, nI_clamp (by omega)]
      simp only [h_row, Nat.reduceEqDiff, reduceIte, e20]
      have hin : vp_in (nI c.1) 101 := vp_in_nI (by omega) (by decide)
      have hin2 : vp_in (nI n) 40 := vp_in_nI (by omega) (by decide)
      have fin : ∀ S2, hS [27, 28] S S2 → (∀ p, p ≤ 100 → S2.1 27 p = nI (hPc (l.take n ++ [c]) p) ∧ S2.1 28 p = nI (hPy (l.take n ++ [c]) p)) → P 74 [(0, tc_R 0 6), (1, tc_R 0 4), (2, tc_I (nI n))] [] S2 := by
        intro S2 hs2 hv2
        rw [← tk] at hv2
        have := ih (n + 1) S2 (by omega) hs2 hv2
        rw [nI_succ n] at this
        exact h74 _ _ this
      refine ⟨fun z => absurd z (nI_ge (by omega) (by omega)), fun _ => ⟨hin2, hin, hin, hin2, fun z => fin _ (hs.ui (by decide)) (fun p hp2 => ?_), fun z => ⟨hin, hin, fin _ ((hs.ui (by decide)).ui (by decide)) (fun p hp2 => ?_)⟩⟩⟩
      · have hc2 : c.2 = false := by
          cases h9 : c.2
          · rfl
          · rw [h9] at z; exact absurd z (by decide)
        obtain ⟨v1, v2⟩ := hv p hp2
        simp only [h_row, Nat.reduceEqDiff, reduceIte, h_updE, hPc_push, hPy_push, hc2, Bool.false_eq_true, and_false, if_false, Nat.add_zero]
        refine ⟨?_, v2⟩
        by_cases e : p = c.1
        · subst e
          simp only [if_true]
          rw [v1, nI_1]
        · rw [if_neg e, if_neg (fun e2 => e e2.symm), Nat.add_zero]
          exact v1
      · have hc2 : c.2 = true := by
          cases h9 : c.2
          · rw [h9] at z; exact absurd rfl z
          · rfl
        obtain ⟨v1, v2⟩ := hv p hp2
        simp only [h_row, Nat.reduceEqDiff, reduceIte, h_updE, hPc_push, hPy_push, hc2, and_true]
        by_cases e : p = c.1
        · subst e
          simp only [if_true]
          rw [v1, v2, nI_1, nI_1]
          exact ⟨rfl, rfl⟩
        · rw [if_neg e, if_neg e, if_neg (fun e2 => e e2.symm), Nat.add_zero, Nat.add_zero]
          exact ⟨v1, v2⟩
  have loop1 : ∀ d n S', n + d = 101 → hS [27, 28] S S' → (∀ p, p < n → S'.1 27 p = 0 ∧ S'.1 28 p = 0) → P 2 [(0, tc_R 0 6), (1, tc_R 0 4), (2, tc_I (nI n))] [] S' := by
    intro d
    induction d with
    | zero =>
      intro n S' hn hs hz
      have e : n = 101 := by omega
      subst e
      refine h2 _ _ ⟨fun _ => loop2 l.length 0 S' (by omega) hs (fun p hp => ?_), fun z => absurd (nI_lt (show 100 < 101 by omega) (by decide)) z⟩
      rw [List.take_zero]
      exact hz p (by omega)
    | succ d ih =>
      intro n S' hn hs hz
      have hin : vp_in (nI n) 101 := vp_in_nI (by omega) (by decide)
      refine h2 _ _ ⟨fun z => absurd z (nI_nlt (show n ≤ 100 by omega) (by decide)), fun _ => ⟨hin, hin, ?_⟩⟩
      rw [nI_clamp (by omega)]
      have := ih (n + 1) _ (by omega) ((hs.ui (i := 27) (k := n) (x := 0) (by decide)).ui (i := 28) (k := n) (x := 0) (by decide)) (by
        intro k hk
        simp only [h_row, Nat.reduceEqDiff, reduceIte, h_updE]
        by_cases e : k = n
        · simp [e]
        · simp only [if_neg e]
          exact hz k (by omega))
      rw [nI_succ n] at this
      exact this
  exact loop1 101 0 S rfl (hS.rf _ S) (fun k hk => absurd hk (by omega))
theorem h_mle {a b c d : Nat} (ha : a ≤ 40) (hb : b ≤ 40) (hc : c ≤ 40) (hd : d ≤ 40) : nI a * nI b ≤ nI c * nI d ↔ a * b ≤ c * d := by
  have h1 : a * b ≤ 40 * 40 := Nat.mul_le_mul ha hb
  have h2 : c * d ≤ 40 * 40 := Nat.mul_le_mul hc hd
  rw [h_mul, h_mul]
  exact nI_leI (by omega) (by omega)
/-- from the top on, as long as the upper share is not greater -/
theorem s_mergeLoop {S0 : tc_S} {N : Nat} (hN : N ≤ 40) (P : Nat → tc_B) (h67 : ∀ (x2 : Int32) (S : tc_S), fmX7_addPool_67 P q x2 S → P 67 [(0, tc_R 0 6), (2, tc_I x2)] [] S) : ∀ (r : List hP) (b : hP) (S : tc_S), hPk (b :: r) N → cPo S0 S (b :: r) → (∀ S', cPo S0 S' (hMg b r) → S'.1 27 = S.1 27 → S'.1 28 = S.1 28 → q none S') → P 67 [(0, tc_R 0 6), (2, tc_I (nI r.length))] [] S := by
  intro r
  induction r with
  | nil =>
    intro b S hk hp hq
    exact h67 _ _ ⟨fun _ => hq S hp rfl rfl, fun z => absurd (nI_le (Nat.le_refl 0) (by decide)) z⟩
  | cons a r ih =>
    intro b S hk hp hq
    have hlen := hPk_len hk
    simp only [List.length_cons] at hlen
    have tb := hPr_top hp.2.2
    have ta := hPr_top (hPr_pop hp.2.2)
    have hb := hk.1 b (by simp)
    have ha := hk.1 a (by simp)
    have mb := hPk_mem hk (a := b) (by simp)
    have ma := hPk_mem hk (a := a) (by simp)
    simp only [List.length_cons] at tb ⊢
    have i1 : vp_in (nI (r.length + 1)) 40 := vp_in_nI (by omega) (by decide)
    have i0 : vp_in (nI r.length) 40 := vp_in_nI (by omega) (by decide)
    refine h67 _ _ ⟨fun z => absurd z (nI_nle (by omega) (by omega)), fun _ => inX7_isShareGreater (fun P2 => ?_)⟩
    unfold fmX7_isShareGreater_0
    rw [nI_pred, nI_clamp (by omega), nI_clamp (by omega), tb.2.2.2, ta.2.2.1, ta.2.2.2, tb.2.2.1, h_mle (by omega) (by omega) (by omega) (by omega)]
    refine ⟨i1, i0, i0, i1, fun z => ⟨h_n0, sgX7_addPool_76 (h_b0 (inX7_mergeDown (fun P3 => ?_)))⟩, fun z => ⟨h_n1, sgX7_addPool_76 (h_b1 (hq S ?_ rfl rfl))⟩⟩
    · unfold fmX7_mergeDown_0
      rw [nI_pred, nI_clamp (by omega), nI_clamp (by omega)]
      simp only [h_row, Nat.reduceEqDiff, reduceIte, tb.2.1, ta.2.2.1, tb.2.2.1, ta.2.2.2, tb.2.2.2, nI_add, hp.2.1, List.length_cons, nI_pred]
      refine ⟨i1, i0, i0, i1, i0, i0, i1, i0, sgX7_addPool_84 ?_⟩
      unfold fmX7_addPool_84
      rw [h_sub1]
      refine ih (hJn a b) _ (hPk_join hk) ⟨(((hp.1.ui (by decide)).ui (by decide)).ui (by decide)).ui (by decide), ?_, ?_⟩ (fun S' hp' e27 e28 => hq S' ?_ ?_ ?_)
      · simp only [h_row, Nat.reduceEqDiff, reduceIte, h_updE, List.length_cons]
      · simp only [h_row, Nat.reduceEqDiff, reduceIte]
        exact hPr_join hp.2.2
      · simp only [hMg, if_pos z]
        exact hp'
      · rw [e27]
        simp only [h_row, Nat.reduceEqDiff, reduceIte]
      · rw [e28]
        simp only [h_row, Nat.reduceEqDiff, reduceIte]
    · simp only [hMg, if_neg z]
      exact hp
theorem s_addPool {S0 : tc_S} {st : List hP} {N p n y : Nat} (hN : N + n ≤ 40) (hn : 1 ≤ n) (hy : y ≤ n) (hp : p ≤ 100) (hk : hPk st N) (hpo : cPo S0 S st) (e27 : S.1 27 p = nI n) (e28 : S.1 28 p = nI y) (h : ∀ S', cPo S0 S' (hMg (p, p, n, y) st) → S'.1 27 = S.1 27 → S'.1 28 = S.1 28 → q none S') : RX7_addPool [tc_R 0 6, tc_I (nI p)] S q := by
  refine inX7_addPool (fun P h67 => ?_)
  have hlen := hPk_len hk
  have i0 : vp_in (nI st.length) 40 := vp_in_nI (by omega) (by decide)
  have ip : vp_in (nI p) 101 := vp_in_nI (by omega) (by decide)
  unfold fmX7_addPool_0
  simp only [h_row, Nat.reduceEqDiff, reduceIte, hpo.2.1, h_updE, nI_1, nI_pred]
  rw [nI_clamp (show st.length < 2 ^ 31 by omega), nI_clamp (show p < 2 ^ 31 by omega), e27, e28]
  refine ⟨i0, i0, ip, i0, ip, i0, ?_⟩
  refine s_mergeLoop (N := n + N) (S0 := S0) (by omega) P h67 st (p, p, n, y) _ ⟨fun a ha => ?_, ?_⟩ ⟨((((hpo.1.ui (by decide)).ui (by decide)).ui (by decide)).ui (by decide)).ui (by decide), ?_, ?_⟩ (fun S' hp' e1 e2 => h S' hp' ?_ ?_)
  · rcases List.mem_cons.mp ha with rfl | hm
    · exact ⟨hn, hy⟩
    · exact hk.1 a hm
  · simp only [List.map_cons, List.sum_cons, hk.2]
  · simp only [h_row, Nat.reduceEqDiff, reduceIte, h_updE, List.length_cons]
  · simp only [h_row, Nat.reduceEqDiff, reduceIte]
    exact hPr_push (a := (p, p, n, y)) hpo.2.2 rfl
  · rw [e1]
    simp only [h_row, Nat.reduceEqDiff, reduceIte]
  · rw [e2]
    simp only [h_row, Nat.reduceEqDiff, reduceIte]
theorem s_fill {l : List (Nat × Bool)} (hc : cC S l) (h : ∀ S', cPo S S' (hPs l 101) → q none S') : RX7_fill [tc_R 0 6, tc_R 0 4] S q := by
  refine inX7_fill (fun P h12 h41 => s_byChance hc (fun S1 hs1 hv => sgX7_fill_5 ?_))
  have loop : ∀ d n S', n + d = 101 → cPo S S' (hPs l n) → S'.1 27 = S1.1 27 → S'.1 28 = S1.1 28 → P 12 [(0, tc_R 0 6), (2, tc_I (nI n))] [] S' := by
    intro d
    induction d with
    | zero =>
      intro n S' hn hp e27 e28
      have e : n = 101 := by omega
      subst e
      exact h12 _ _ ⟨fun _ => h S' hp, fun z => absurd (nI_lt (show 100 < 101 by omega) (by decide)) z⟩
    | succ d ih =>
      intro n S' hn hp e27 e28
      obtain ⟨v1, v2⟩ := hv n (by omega)
      have hok := hPs_ok l n
      have hlen := hPk_len hok
      have hle := hLt_le l (n + 1)
      have hsu := hLt_succ l n
      have c40 := hc.1
      have hpy := hPy_le l n
      refine h12 _ _ ⟨fun z => absurd z (nI_nlt (show n ≤ 100 by omega) (by decide)), fun _ => ?_⟩
      rw [nI_clamp (by omega), e27, v1, hp.2.1]
      refine ⟨vp_in_nI (by omega) (by decide), fun z => h41 _ _ ?_, fun z => ?_⟩
      · have z0 := (nI_leI (b := 0) (by omega) (by decide)).mp z
        have := ih (n + 1) S' (by omega) (by simp only [hPs, if_pos (show hPc l n = 0 by omega)]; exact hp) e27 e28
        rw [nI_succ n] at this
        exact this
      · have zp : 0 < hPc l n := by
          rcases Nat.eq_zero_or_pos (hPc l n) with g | g
          · exact absurd (by rw [g]; exact nI_le (Nat.le_refl 0) (by decide)) z
          · exact g
        refine ⟨fun z2 => absurd z2 (nI_ge (show (hPs l n).length < 40 by omega) (by decide)), fun _ => s_addPool (S0 := S) (N := hLt l n) (n := hPc l n) (y := hPy l n) (by omega) zp hpy (by omega) hok hp (by rw [e27, v1]) (by rw [e28, v2]) (fun S2 hp2 f1 f2 => h41 _ _ ?_)⟩
        have := ih (n + 1) S2 (by omega) (by simp only [hPs, if_neg (show ¬ hPc l n = 0 by omega)]; exact hp2) (by rw [f1, e27]) (by rw [f2, e28])
        rw [nI_succ n] at this
        exact this
  refine loop 101 0 _ rfl ⟨(hs1.wk (by decide)).ui (by decide), ?_, fun i a ha => ?_⟩ ?_ ?_
  · simp only [h_row, reduceIte, h_updE]
    rfl
  · simp [hPs] at ha
  · simp only [h_row, Nat.reduceEqDiff, reduceIte]
  · simp only [h_row, Nat.reduceEqDiff, reduceIte]
end HPOOL
