/-! the class's book -/
/-- S and S' differ in the cells of w alone -/
def hS (w : List Nat) (S S' : tc_S) : Prop := (∀ j, j ∉ w → S'.1 j = S.1 j) ∧ (∀ j, j ∉ w → S'.2.1 j = S.2.1 j) ∧ S'.2.2 = S.2.2
theorem hS.rf (w : List Nat) (S : tc_S) : hS w S S := ⟨fun _ _ => rfl, fun _ _ => rfl, rfl⟩
theorem hS.tr {w w1 w2 : List Nat} {S S1 S2 : tc_S} (h1 : hS w1 S S1) (h2 : hS w2 S1 S2) (a : ∀ j ∈ w1, j ∈ w) (b : ∀ j ∈ w2, j ∈ w) : hS w S S2 :=
  ⟨fun j hj => (h2.1 j (fun z => hj (b j z))).trans (h1.1 j (fun z => hj (a j z))), fun j hj => (h2.2.1 j (fun z => hj (b j z))).trans (h1.2.1 j (fun z => hj (a j z))), h2.2.2.trans h1.2.2⟩
theorem hS.wk {w w1 : List Nat} {S S1 : tc_S} (h1 : hS w1 S S1) (a : ∀ j ∈ w1, j ∈ w) : hS w S S1 := hS.tr h1 (hS.rf w S1) a (fun _ h => h)
theorem h_ui {S : tc_S} {i k j : Nat} {x : Int32} (h : j ≠ i) : (tc_ui S i k x).1 j = S.1 j := if_neg h
theorem h_ul {S : tc_S} {i k j : Nat} {x : Int64} (h : j ≠ i) : (tc_ul S i k x).2.1 j = S.2.1 j := if_neg h
theorem h_upd {f : Nat → Int32} {k : Nat} {x : Int32} : upd f k x k = x := if_pos rfl
theorem h_updn {f : Nat → Int32} {k j : Nat} {x : Int32} (h : j ≠ k) : upd f k x j = f j := if_neg h
theorem hS.ui {w : List Nat} {S S' : tc_S} (h : hS w S S') {i k : Nat} {x : Int32} (hi : i ∈ w) : hS w S (tc_ui S' i k x) :=
  ⟨fun j hj => (h_ui (fun e => hj (by rw [e]; exact hi))).trans (h.1 j hj), fun j hj => h.2.1 j hj, h.2.2⟩
theorem hS.ul {w : List Nat} {S S' : tc_S} (h : hS w S S') {i k : Nat} {x : Int64} (hi : i ∈ w) : hS w S (tc_ul S' i k x) :=
  ⟨fun j hj => h.1 j hj, fun j hj => (h_ul (fun e => hj (by rw [e]; exact hi))).trans (h.2.1 j hj), h.2.2⟩
/-- the book of the class, of the model -/
abbrev cB (S : tc_S) : Prop := hB (S.1 14) (S.1 15) (S.1 16)
abbrev mB (S : tc_S) : Prop := hB (S.1 35) (S.1 37) (S.1 36)
/-- the cases among the events below n, by number -/
def hL (ch wt st : Nat → Int32) (t : Nat) : Nat → List (Nat × Bool)
  | 0 => []
  | n + 1 => if st n = 0 ∨ hT ch wt t n = -9 then hL ch wt st t n else hL ch wt st t n ++ [((hT ch wt t n).toNatClampNeg, decide (st n = 1))]
abbrev cL (S : tc_S) (t n : Nat) : List (Nat × Bool) := hL (S.1 14) (S.1 15) (S.1 16) t n
abbrev mL (S : tc_S) (t n : Nat) : List (Nat × Bool) := hL (S.1 35) (S.1 37) (S.1 36) t n
def hY (l : List (Nat × Bool)) : Nat := (l.filter (fun c => c.2)).length
theorem hL_len (ch wt st : Nat → Int32) (t : Nat) : ∀ n, (hL ch wt st t n).length ≤ n := by
  intro n
  induction n with
  | zero => exact Nat.le_refl 0
  | succ n ih =>
    simp only [hL]
    split
    · omega
    · rw [List.length_append]
      simp
      exact ih
theorem hL_ok {ch wt st : Nat → Int32} (hb : hB ch wt st) {t : Nat} (ht : t < 5) : ∀ n, n ≤ 40 → ∀ c ∈ hL ch wt st t n, c.1 ≤ 100 := by
  intro n
  induction n with
  | zero => intro _ c hc; cases hc
  | succ n ih =>
    intro hn c hc
    simp only [hL] at hc
    split at hc
    · exact ih (by omega) c hc
    · rename_i hne
      rcases List.mem_append.mp hc with h | h
      · exact ih (by omega) c h
      · rcases hT_nat hb ht (show n < 40 by omega) with h1 | ⟨p, hp, h1⟩
        · exact absurd (Or.inr h1) hne
        · simp at h
          rw [h, h1, nI_clamp (by omega)]
          exact hp
theorem hY_le (l : List (Nat × Bool)) : hY l ≤ l.length := List.length_filter_le _ _
section HBOOK
variable {q : tc_Q} {S : tc_S} {t e : Nat}
theorem s_mixed (hb : cB S) (he : e < 40) (h : q (some (tc_I (hMx (S.1 14) (S.1 15) e))) S) : RX1_mixedChance [tc_R 0 1, tc_I (nI e)] S q := by
  refine inX1_mixedChance (fun P h7 h57 => ?_)
  have loop : ∀ d n, n + d = 4 → P 7 [(0, tc_R 0 1), (1, tc_I (nI e)), (2, tc_I (hMs (S.1 14) (S.1 15) e n).1), (3, tc_I (hMs (S.1 14) (S.1 15) e n).2), (4, tc_I (nI n))] [] S := by
    intro d
    induction d with
    | zero =>
      intro n hn
      have e4 : n = 4 := by omega
      subst e4
      refine h7 _ _ _ _ _ ⟨fun _ => ⟨fun z => ?_, fun z => ⟨h_2ne hb he z, ?_⟩⟩, fun z => absurd (nI_le (Nat.le_refl 4) (by decide)) z⟩
      · unfold hMx at h
        rw [if_pos z] at h
        exact h
      · unfold hMx at h
        rw [if_neg z] at h
        exact h
    | succ d ih =>
      intro n hn
      refine h7 _ _ _ _ _ ⟨fun z => absurd z (nI_ge (show n < 4 by omega) (by decide)), fun _ => ?_⟩
      have ih' := ih (n + 1) (by omega)
      rw [h_ixa, nI_clamp (by omega)]
      refine ⟨vp_in_nI (by omega) (by decide), fun z => ?_, fun z => ⟨vp_in_nI (by omega) (by decide), vp_in_nI (by omega) (by decide), ?_⟩⟩
      · refine h57 _ _ _ _ _ ?_
        simp only [hMs, if_pos z] at ih'
        rw [nI_succ] at ih'
        exact ih'
      · refine h57 _ _ _ _ _ ?_
        simp only [hMs, if_neg z] at ih'
        rw [nI_succ] at ih'
        rw [nI_clamp (by omega)]
        exact ih'
  exact loop 4 0 rfl
theorem s_told (hb : cB S) (ht : t < 5) (he : e < 40) (h : q (some (tc_I (hT (S.1 14) (S.1 15) t e))) S) : RX1_chanceOf [tc_R 0 1, tc_I (nI t), tc_I (nI e)] S q := by
  refine inX1_chanceOf (fun P => ⟨fun z => ?_, fun z => ?_⟩)
  · have e4 : t = 4 := (nI_eq (by omega) (by decide)).mp z
    subst e4
    exact s_mixed hb he (sgX1_chanceOf_10 h)
  · have ne4 : ¬ t = 4 := fun e4 => z (by rw [e4]; rfl)
    rw [h_ixa, nI_clamp (by omega)]
    unfold hT at h
    rw [if_neg ne4] at h
    exact ⟨vp_in_nI (by omega) (by decide), h⟩
theorem s_case (hb : cB S) (ht : t < 5) (he : e < 40) (h0 : (S.1 16 e = 0 ∨ hT (S.1 14) (S.1 15) t e = -9) → q (some (tc_I 0)) S) (h1 : ¬ (S.1 16 e = 0 ∨ hT (S.1 14) (S.1 15) t e = -9) → q (some (tc_I 1)) S) : RX1_isCase [tc_R 0 1, tc_I (nI t), tc_I (nI e)] S q := by
  refine inX1_isCase (fun P => ?_)
  unfold fmX1_isCase_0
  rw [nI_clamp (by omega)]
  refine ⟨vp_in_nI he (by decide), fun z => ⟨h_n0, h0 (Or.inl z)⟩, fun z => s_told hb ht he (sgX1_isCase_15 ⟨fun z2 => ⟨h_n0, h0 (Or.inr z2)⟩, fun z2 => ⟨h_n1, h1 (fun z3 => z3.elim z z2)⟩⟩)⟩
/-- what gather leaves behind -/
def cG (S S' : tc_S) (l : List (Nat × Bool)) : Prop := hS [4, 19, 20] S S' ∧ S'.1 4 2 = nI l.length ∧ S'.1 4 3 = nI (hY l) ∧ ∀ i c, l[i]? = some c → S'.1 19 i = nI c.1 ∧ S'.1 20 i = if c.2 then 1 else 0
theorem h_nb0 : vp_nar .boolean 0 = 0 := by decide +kernel
theorem h_nb1 : vp_nar .boolean 1 = 1 := by decide +kernel
theorem cG_push {S S' : tc_S} {l : List (Nat × Bool)} {p : Nat} {b : Bool} {x y : Int32} (h : cG S S' l) (hx : x = nI p) (hy : y = if b then 1 else 0) (S2 : tc_S) (h2 : S2 = tc_ui (tc_ui S' 19 l.length x) 20 l.length y) (S3 : tc_S) (h3 : S3 = if b then tc_ui S2 4 3 (nI (hY l) + 1) else S2) : cG S (tc_ui S3 4 2 (nI l.length + 1)) (l ++ [(p, b)]) := by
  obtain ⟨g1, g2, g3, g4⟩ := h
  have s2 : hS [4, 19, 20] S S2 := by rw [h2]; exact (g1.ui (by decide)).ui (by decide)
  have s3 : hS [4, 19, 20] S S3 := by
    rw [h3]
    split
    · exact s2.ui (by decide)
    · exact s2
  have r19 : S3.1 19 = upd (S'.1 19) l.length x := by
    have e2 : S2.1 19 = upd (S'.1 19) l.length x := by rw [h2, h_ui (by decide), tc_ui_self]
    rw [h3]
    split
    · rw [h_ui (by decide), e2]
    · exact e2
  have r20 : S3.1 20 = upd (S'.1 20) l.length y := by
    have e2 : S2.1 20 = upd (S'.1 20) l.length y := by rw [h2, tc_ui_self, h_ui (by decide)]
    rw [h3]
    split
    · rw [h_ui (by decide), e2]
    · exact e2
  refine ⟨s3.ui (by decide), ?_, ?_, ?_⟩
  · rw [tc_ui_self, h_upd, List.length_append, nI_1]
    rfl
  · rw [tc_ui_self, h_updn (by decide), h3]
    cases b with
    | true =>
      simp only [if_true]
      rw [tc_ui_self, h_upd, nI_1]
      simp [hY]
    | false =>
      simp only [Bool.false_eq_true, if_false]
      rw [h2, h_ui (by decide), h_ui (by decide), g3]
      simp [hY]
  · intro i c hc
    rw [h_ui (by decide), h_ui (by decide), r19, r20]
    by_cases hi : i = l.length
    · subst hi
      rw [h_upd, h_upd]
      rw [List.getElem?_append_right (Nat.le_refl _), Nat.sub_self] at hc
      have hc' : (p, b) = c := Option.some.inj hc
      rw [← hc']
      exact ⟨hx, hy⟩
    · rw [h_updn hi, h_updn hi]
      have hl : i < l.length := by
        have := (List.getElem?_eq_some_iff.mp hc).1
        rw [List.length_append] at this
        simp at this
        omega
      rw [List.getElem?_append_left hl] at hc
      exact g4 i c hc
theorem s_gather (hb : cB S) (ht : t < 5) (h : ∀ S', cG S S' (cL S t 40) → q none S') : RX2_gather [tc_R 0 4, tc_R 0 1, tc_I (nI t)] S q := by
  refine inX2_gather (fun P h12 h65 h88 h98 => ?_)
  have loop : ∀ d n S', n + d = 40 → cG S S' (cL S t n) → P 12 [(0, tc_R 0 4), (1, tc_R 0 1), (2, tc_I (nI t)), (3, tc_I (nI n))] [] S' := by
    intro d
    induction d with
    | zero =>
      intro n S' hn hg
      have e4 : n = 40 := by omega
      subst e4
      exact h12 _ _ _ ⟨fun _ => h S' hg, fun z => absurd (nI_le (Nat.le_refl 40) (by decide)) z⟩
    | succ d ih =>
      intro n S' hn hg
      have hn40 : n < 40 := by omega
      have r14 : S'.1 14 = S.1 14 := hg.1.1 14 (by decide)
      have r15 : S'.1 15 = S.1 15 := hg.1.1 15 (by decide)
      have r16 : S'.1 16 = S.1 16 := hg.1.1 16 (by decide)
      have hb' : cB S' := by unfold cB; rw [r14, r15, r16]; exact hb
      refine h12 _ _ _ ⟨fun z => absurd z (nI_ge hn40 (by decide)), fun _ => s_case hb' ht hn40 (fun z => ?_) (fun z => ?_)⟩
      · refine sgX2_gather_24 (h_b0 (h98 _ _ _ ?_))
        rw [r14, r15, r16] at z
        have := ih (n + 1) S' (by omega) (by
          have e : cL S t (n + 1) = cL S t n := by simp only [hL, if_pos z]
          rw [e]
          exact hg)
        rw [nI_succ] at this
        exact this
      · refine sgX2_gather_24 (h_b1 (s_told hb' ht hn40 (sgX2_gather_41 ?_)))
        rw [r14, r15, r16] at z
        rw [r14, r15]
        unfold fmX2_gather_41
        have hll := hL_len (S.1 14) (S.1 15) (S.1 16) t n
        have hlen : (cL S t n).length < 40 := by unfold cL; omega
        rw [hg.2.1, nI_clamp (by omega), nI_clamp (by omega)]
        obtain ⟨p, hp, h1⟩ : ∃ p, p ≤ 100 ∧ hT (S.1 14) (S.1 15) t n = nI p := by
          rcases hT_nat hb ht hn40 with h1 | h1
          · exact absurd (Or.inr h1) z
          · exact h1
        have hin := vp_in_nI hlen (by decide)
        have e : cL S t (n + 1) = cL S t n ++ [(p, decide (S.1 16 n = 1))] := by
          simp only [hL, if_neg z]
          rw [h1, nI_clamp (show p < 2 ^ 31 by omega)]
        refine ⟨hin, vp_in_nI hn40 (by decide), fun z1 => h65 _ _ _ _ _ ?_, fun z1 => h65 _ _ _ _ _ ?_⟩
        · rw [h_ui (by decide), r16] at z1
          unfold fmX2_gather_65
          simp only [h_ui (show (4 : Nat) ≠ 20 by decide), h_ui (show (4 : Nat) ≠ 19 by decide), hg.2.1, nI_clamp (show (cL S t n).length < 2 ^ 31 by omega), tc_ui_self, h_upd, h_nb1]
          refine ⟨hin, hin, fun z2 => absurd z2 (by decide), fun _ => h88 _ _ _ (h98 _ _ _ ?_)⟩
          have := ih (n + 1) _ (by omega) (by
            rw [e]
            exact cG_push hg h1 (show (1 : Int32) = if (decide (S.1 16 n = 1)) then 1 else 0 by simp [z1]) _ rfl _ rfl)
          rw [nI_succ] at this
          simp only [z1, decide_true, if_true] at this
          rw [hg.2.2.1] 
          simp only [h_ui (show (4 : Nat) ≠ 20 by decide), h_ui (show (4 : Nat) ≠ 19 by decide), tc_ui_self, h_updn (show (2 : Nat) ≠ 3 by decide), hg.2.1]
          exact this
        · rw [h_ui (by decide), r16] at z1
          unfold fmX2_gather_65
          simp only [h_ui (show (4 : Nat) ≠ 20 by decide), h_ui (show (4 : Nat) ≠ 19 by decide), hg.2.1, nI_clamp (show (cL S t n).length < 2 ^ 31 by omega), tc_ui_self, h_upd, h_nb0]
          refine ⟨hin, hin, fun _ => h88 _ _ _ (h98 _ _ _ ?_), fun z2 => absurd trivial z2⟩
          have := ih (n + 1) _ (by omega) (by
            rw [e]
            exact cG_push hg h1 (show (0 : Int32) = if (decide (S.1 16 n = 1)) then 1 else 0 by simp [z1]) _ rfl _ rfl)
          rw [nI_succ] at this
          simp only [z1, decide_false, Bool.false_eq_true, if_false] at this
          simp only [h_ui (show (4 : Nat) ≠ 20 by decide), h_ui (show (4 : Nat) ≠ 19 by decide), hg.2.1]
          exact this
  refine loop 40 0 _ rfl ⟨((hS.rf _ S).ui (by decide)).ui (by decide), ?_, ?_, fun i c hc => by cases hc⟩
  · rw [tc_ui_self, h_updn (by decide), tc_ui_self, h_upd]; rfl
  · rw [tc_ui_self, h_upd]; rfl
end HBOOK
