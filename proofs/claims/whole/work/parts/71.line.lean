/-! line -/
theorem hNr_le (c : Nat → Nat) (n g : Nat) : ∀ d p v, p ≤ n → (hNr c n g d p v).2 ≤ n := by
  intro d
  induction d with
  | zero => intro p v h; exact h
  | succ d ih =>
    intro p v h
    simp only [hNr]
    split
    · rename_i z
      split
      · exact ih _ _ (by omega)
      · exact h
    · exact h
theorem hNm_le (c : Nat → Nat) (n w : Nat) : ∀ d i p, p ≤ n → (hNm c n w d i p).2 ≤ n := by
  intro d
  induction d with
  | zero => intro i p h; exact h
  | succ d ih =>
    intro i p h
    simp only [hNm]
    split
    · rename_i z
      have h1 := hNr_le c n (hGt w i) 3 (p + 1) 0 (by omega)
      split
      · rename_i v p' e
        rw [e] at h1
        have h2 := ih (i + 1) p' h1
        split
        · rename_i e2
          rw [e2] at h2
          exact h2
        · rename_i e2
          rw [e2] at h2
          exact h2
      · rename_i e
        rw [e] at h1
        exact h1
    · exact h
theorem hLn_le {f : Nat → Int32} {c : Nat → Nat} {n w : Nat} (hw : w < 6) (hn : n ≤ 24) : (hLn f c n w).2 ≤ 24 := by
  have h1 := hWd_le (4 + w) (by omega)
  have h2 := hSh_le f n (hWd (4 + w))
  have h3 := hSh_n f n (hWd (4 + w))
  unfold hLn
  split
  · simp only
    omega
  · have h4 := hNm_le c n w (hMn w) 0 (hWd (4 + w)).length (by omega)
    split
    · rename_i e
      rw [e] at h4
      simp only at h4 ⊢
      omega
    · rename_i e
      rw [e] at h4
      simp only at h4 ⊢
      omega
theorem hLn_no {f : Nat → Int32} {c : Nat → Nat} {n w : Nat} (hw : w < 6) (h : ¬ hMt f n w) : hLn f c n w = (none, 0) := by
  have hp := hW_pos w hw
  rw [hW_eq w hw] at hp
  have e : hSh f n (hWd (4 + w)) = 0 := by
    unfold hSh
    obtain ⟨d, hd⟩ : ∃ d, (hWd (4 + w)).length = d + 1 := ⟨(hWd (4 + w)).length - 1, by omega⟩
    rw [hd]
    simp only [hShF]
    rw [if_neg (fun g => h (by unfold hMt; rw [hW_eq w hw]; exact g))]
  unfold hLn
  rw [e, if_pos hp]
theorem hLn_len {f : Nat → Int32} {c : Nat → Nat} {n w p : Nat} {vs : List Nat} (h : hLn f c n w = (some vs, p)) : vs.length = hMn w := by
  unfold hLn at h
  split at h
  · simp at h
  · split at h
    · rename_i e
      have := hNm_len c n w _ _ _ _ _ e
      simp only [Prod.mk.injEq] at h
      split at h
      · have e3 := Option.some.inj h.1
        rw [← e3]
        exact this
      · exact absurd h.1 (by simp)
    · simp at h
theorem h_vs {row : Nat → Int32} {vs : List Nat} {m j : Nat} (h : ∀ j v, vs[j]? = some v → row j = nI v) (hl : vs.length = m) (hj : j < m) : row j = nI (vs.getD j 0) := by
  refine h j _ ?_
  rw [List.getD_eq_getElem?_getD, List.getElem?_eq_getElem (by omega)]
  rfl
def aDo (ch wt st : Nat → Int32) (w : Nat) (a b c : Int32) : Int32 := if w = 0 then aTell ch a b c else if w = 1 then aDrop ch a b else if w = 2 then aSet st a else if w = 3 then aSet st a else if w = 4 then aSet st a else aWei wt a b
def uDo (ch wt st w : Nat) (S : tc_S) (a b c : Int32) : tc_S := if w = 0 then uTell ch S a b c else if w = 1 then uDrop ch S a b else if w = 2 then uSet st S a 1 else if w = 3 then uSet st S a 2 else if w = 4 then uSet st S a 0 else uWei wt S a b
section HDO
variable {q : tc_Q} {S : tc_S} {c : Nat → Nat} {n w p : Nat}
theorem hS.ui2 {v : List Nat} {A B : tc_S} (h : hS v A B) (i k : Nat) (x : Int32) : hS v (tc_ui A i k x) (tc_ui B i k x) := by
  refine ⟨fun j hj => ?_, h.2.1, h.2.2⟩
  rw [h_row, h_row, h.1 j hj]
theorem hS.do2 {v : List Nat} {A B : tc_S} (h : hS v A B) (ch wt st w : Nat) (a b c : Int32) : hS v (uDo ch wt st w A a b c) (uDo ch wt st w B a b c) := by
  unfold uDo uTell uDrop uSet uWei
  repeat' split
  all_goals first
    | exact h
    | exact h.ui2 _ _ _
theorem tc_ui_comm (S : tc_S) {i j k l : Nat} {x y : Int32} (h : i ≠ j) : tc_ui (tc_ui S i k x) j l y = tc_ui (tc_ui S j l y) i k x := by
  unfold tc_ui
  refine Prod.ext ?_ rfl
  funext m
  simp only
  by_cases e1 : m = i
  · have e2 : ¬ m = j := fun e => h (e1.symm.trans e)
    simp only [if_pos e1, if_neg e2]
  · simp only [if_neg e1]
theorem uDo_comm {ch wt st : Nat} (S : tc_S) (a b c : Int32) {i k : Nat} {x : Int32} (h1 : ch ≠ i) (h2 : wt ≠ i) (h3 : st ≠ i) : tc_ui (uDo ch wt st w S a b c) i k x = uDo ch wt st w (tc_ui S i k x) a b c := by
  unfold uDo uTell uDrop uSet uWei
  repeat' split
  all_goals first
    | rfl
    | exact tc_ui_comm S h1
    | exact tc_ui_comm S h2
    | exact tc_ui_comm S h3
theorem uDo_r {ch wt st d : Nat} {S : tc_S} {a b c : Int32} (h1 : d ≠ ch) (h2 : d ≠ wt) (h3 : d ≠ st) : (uDo ch wt st w S a b c).1 d = S.1 d := by
  unfold uDo
  repeat' split
  all_goals first
    | exact uTell_r h1
    | exact uDrop_r h1
    | exact uSet_r h3
    | exact uWei_r h2
theorem Rel.rDo (h : Rel S) (hw : w < 6) (a b c : Int32) : Rel (uDo 35 37 36 w (uDo 14 15 16 w S a b c) a b c) := by
  rcases (show w = 0 ∨ w = 1 ∨ w = 2 ∨ w = 3 ∨ w = 4 ∨ w = 5 by omega) with rfl | rfl | rfl | rfl | rfl | rfl
  · exact h.rTell a b c
  · exact h.rDrop a b
  · exact h.rSet a 1 (by decide)
  · exact h.rSet a 2 (by decide)
  · exact h.rSet a 0 (by decide)
  · exact h.rWei a b
theorem s_perform {vs : List Nat} (hw : w < 6) (hl : vs.length = hMn w) (hv : ∀ j v, vs[j]? = some v → S.1 18 j = nI v) (h : q (some (tc_I (aDo (S.1 14) (S.1 15) (S.1 16) w (nI (vs.getD 0 0)) (nI (vs.getD 1 0)) (nI (vs.getD 2 0))))) (uDo 14 15 16 w S (nI (vs.getD 0 0)) (nI (vs.getD 1 0)) (nI (vs.getD 2 0)))) : RX10_perform [tc_R 0 0, tc_R 2 w] S q := by
  refine inX10_perform (fun P => ?_)
  unfold fmX10_perform_0
  rw [h_c0, h_c1, h_c2]
  rcases (show w = 0 ∨ w = 1 ∨ w = 2 ∨ w = 3 ∨ w = 4 ∨ w = 5 by omega) with rfl | rfl | rfl | rfl | rfl | rfl
  · refine ⟨by decide, by decide, fun _ => ⟨h_v0, h_v1, h_v2, ?_⟩, fun z => absurd rfl z⟩
    rw [h_vs hv hl (j := 0) (by decide), h_vs hv hl (j := 1) (by decide), h_vs hv hl (j := 2) (by decide)]
    exact s_tell (sgX10_perform_28 h)
  · refine ⟨by decide, by decide, fun z => absurd z (by decide), fun _ => ⟨by decide, by decide, fun _ => ⟨h_v0, h_v1, ?_⟩, fun z => absurd rfl z⟩⟩
    rw [h_vs hv hl (j := 0) (by decide), h_vs hv hl (j := 1) (by decide)]
    exact s_drop (sgX10_perform_46 h)
  · refine ⟨by decide, by decide, fun z => absurd z (by decide), fun _ => ⟨by decide, by decide, fun z => absurd z (by decide), fun _ => ⟨by decide, by decide, fun _ => ⟨h_v0, ?_⟩, fun z => absurd rfl z⟩⟩⟩
    rw [h_vs hv hl (j := 0) (by decide)]
    exact s_yes (sgX10_perform_61 h)
  · refine ⟨by decide, by decide, fun z => absurd z (by decide), fun _ => ⟨by decide, by decide, fun z => absurd z (by decide), fun _ => ⟨by decide, by decide, fun z => absurd z (by decide), fun _ => ⟨by decide, by decide, fun _ => ⟨h_v0, ?_⟩, fun z => absurd rfl z⟩⟩⟩⟩
    rw [h_vs hv hl (j := 0) (by decide)]
    exact s_no (sgX10_perform_76 h)
  · refine ⟨by decide, by decide, fun z => absurd z (by decide), fun _ => ⟨by decide, by decide, fun z => absurd z (by decide), fun _ => ⟨by decide, by decide, fun z => absurd z (by decide), fun _ => ⟨by decide, by decide, fun z => absurd z (by decide), fun _ => ⟨by decide, by decide, fun _ => ⟨h_v0, ?_⟩, fun z => absurd rfl z⟩⟩⟩⟩⟩
    rw [h_vs hv hl (j := 0) (by decide)]
    exact s_open (sgX10_perform_91 h)
  · refine ⟨by decide, by decide, fun z => absurd z (by decide), fun _ => ⟨by decide, by decide, fun z => absurd z (by decide), fun _ => ⟨by decide, by decide, fun z => absurd z (by decide), fun _ => ⟨by decide, by decide, fun z => absurd z (by decide), fun _ => ⟨by decide, by decide, fun z => absurd z (by decide), fun _ => ⟨h_v0, h_v1, ?_⟩⟩⟩⟩⟩⟩
    rw [h_vs hv hl (j := 0) (by decide), h_vs hv hl (j := 1) (by decide)]
    exact s_weigh (sgX10_perform_102 h)
theorem m_does {vs : List Nat} (hw : w < 6) (h7 : S.1 34 7 = nI w) (hl : vs.length = hMn w) (hv : ∀ j v, vs[j]? = some v → S.1 40 j = nI v) (h : q (some (tc_I (aDo (S.1 35) (S.1 37) (S.1 36) w (nI (vs.getD 0 0)) (nI (vs.getD 1 0)) (nI (vs.getD 2 0))))) (uDo 35 37 36 w S (nI (vs.getD 0 0)) (nI (vs.getD 1 0)) (nI (vs.getD 2 0)))) : RX11_does [tc_R 0 34] S q := by
  refine inX11_does (fun P => ?_)
  unfold fmX11_does_0
  rw [h7, h_c0, h_c1, h_c2]
  have out : w ≤ 4 → ¬ (nI w < 0 ∨ (4 : Int32) < nI w) := by
    intro h4 z
    rcases z with z | z
    · exact nI_pos (by omega) z
    · exact nI_nlt h4 (by decide) z
  rcases (show w = 0 ∨ w = 1 ∨ w = 2 ∨ w = 3 ∨ w = 4 ∨ w = 5 by omega) with rfl | rfl | rfl | rfl | rfl | rfl
  · refine ⟨fun z => absurd z (out (by decide)), fun _ => ⟨h_v0, h_v1, h_v2, ?_⟩, fun z => absurd z (by decide), fun z => absurd z (by decide), fun z => absurd z (by decide), fun z => absurd z (by decide), trivial⟩
    rw [h_vs hv hl (j := 0) (by decide), h_vs hv hl (j := 1) (by decide), h_vs hv hl (j := 2) (by decide)]
    exact m_tell (sgX11_does_62 h)
  · refine ⟨fun z => absurd z (out (by decide)), fun z => absurd z (by decide), fun _ => ⟨h_v0, h_v1, ?_⟩, fun z => absurd z (by decide), fun z => absurd z (by decide), fun z => absurd z (by decide), trivial⟩
    rw [h_vs hv hl (j := 0) (by decide), h_vs hv hl (j := 1) (by decide)]
    exact m_drop (sgX11_does_79 h)
  · refine ⟨fun z => absurd z (out (by decide)), fun z => absurd z (by decide), fun z => absurd z (by decide), fun _ => ⟨h_v0, ?_⟩, fun z => absurd z (by decide), fun z => absurd z (by decide), trivial⟩
    rw [h_vs hv hl (j := 0) (by decide)]
    exact m_yes (sgX11_does_90 h)
  · refine ⟨fun z => absurd z (out (by decide)), fun z => absurd z (by decide), fun z => absurd z (by decide), fun z => absurd z (by decide), fun _ => ⟨h_v0, ?_⟩, fun z => absurd z (by decide), trivial⟩
    rw [h_vs hv hl (j := 0) (by decide)]
    exact m_no (sgX11_does_101 h)
  · refine ⟨fun z => absurd z (out (by decide)), fun z => absurd z (by decide), fun z => absurd z (by decide), fun z => absurd z (by decide), fun z => absurd z (by decide), fun _ => ⟨h_v0, ?_⟩, trivial⟩
    rw [h_vs hv hl (j := 0) (by decide)]
    exact m_open (sgX11_does_112 h)
  · refine ⟨fun _ => ⟨h_v0, h_v1, ?_⟩, fun z => absurd z (by decide), fun z => absurd z (by decide), fun z => absurd z (by decide), fun z => absurd z (by decide), fun z => absurd z (by decide), trivial⟩
    rw [h_vs hv hl (j := 0) (by decide), h_vs hv hl (j := 1) (by decide)]
    exact m_weigh (sgX11_does_129 h)
/-- the farthest place -/
def hFa (f : Nat → Nat) : Nat → Nat
  | 0 => 0
  | i + 1 => if hFa f i < f i then f i else hFa f i
theorem hFa_le {f : Nat → Nat} {B : Nat} : ∀ i, (∀ j, j < i → f j ≤ B) → hFa f i ≤ B := by
  intro i
  induction i with
  | zero => intro _; exact Nat.zero_le B
  | succ i ih =>
    intro h
    simp only [hFa]
    split
    · exact h i (by omega)
    · exact ih (fun j hj => h j (by omega))
theorem hFa_one {f : Nat → Nat} {w : Nat} : ∀ i, (∀ j, j < i → j ≠ w → f j = 0) → hFa f i = if w < i then f w else 0 := by
  intro i
  induction i with
  | zero => intro _; rfl
  | succ i ih =>
    intro h
    have ih' := ih (fun j hj => h j (by omega))
    simp only [hFa]
    by_cases e : i = w
    · subst e
      rw [if_neg (by omega)] at ih'
      rw [ih', if_pos (show i < i + 1 by omega)]
      split <;> omega
    · rw [h i (by omega) e, if_neg (by omega), ih']
      by_cases g : w < i
      · rw [if_pos g, if_pos (by omega)]
      · rw [if_neg g, if_neg (by omega)]
theorem s_line (h21 : S.1 2 1 = nI n) (hn : n ≤ 24) (hc : ∀ i, S.1 17 i = nI (c i) ∧ c i ≤ 127) (h1 : ∀ w, w < 6 → ∀ vs p S', hLn (S.1 17) c n w = (some vs, p) → hS [3, 18] S S' → q (some (tc_I (aDo (S.1 14) (S.1 15) (S.1 16) w (nI (vs.getD 0 0)) (nI (vs.getD 1 0)) (nI (vs.getD 2 0)) + 1000))) (uDo 14 15 16 w (tc_ui S' 2 1 0) (nI (vs.getD 0 0)) (nI (vs.getD 1 0)) (nI (vs.getD 2 0)))) (h0 : (∀ j, j < 6 → (hLn (S.1 17) c n j).1 = none) → ∀ S', hS [3, 18] S S' → q (some (tc_I (-100 - nI (hFa (fun j => (hLn (S.1 17) c n j).2) 6)))) S') : RX10_line [tc_R 0 0] S q := by
  refine inX10_line (fun P h4 => ?_)
  have hle : ∀ j, j < 6 → (hLn (S.1 17) c n j).2 ≤ 24 := fun j hj => hLn_le hj hn
  have loop : ∀ d i S', i + d = 6 → hS [3, 18] S S' → (∀ j, j < i → (hLn (S.1 17) c n j).1 = none) → P 4 [(0, tc_R 0 0), (1, tc_I (nI (hFa (fun j => (hLn (S.1 17) c n j).2) i))), (2, tc_I (nI i))] [] S' := by
    intro d
    induction d with
    | zero =>
      intro i S' hi s' hno
      have e : i = 6 := by omega
      subst e
      exact h4 _ _ _ ⟨fun _ => h0 hno S' s', fun z => absurd (nI_le (Nat.le_refl 6) (by decide)) z⟩
    | succ d ih =>
      intro i S' hi s' hno
      have hi6 : i < 6 := by omega
      have e17 : S'.1 17 = S.1 17 := s'.1 17 (by decide)
      refine h4 _ _ _ ⟨fun z => absurd z (nI_ge hi6 (by decide)), fun _ => ⟨vp_in_nI hi6 (by decide), ?_⟩⟩
      rw [nI_clamp (by omega)]
      refine s_reach (n := n) (c := c) hi6 (by rw [s'.1 2 (by decide)]; exact h21) hn (by rw [e17]; exact hc) (fun vs p S2 hr s2 e1 hv => sgX10_line_28 ?_) (fun p S2 hr s2 e1 => sgX10_line_28 ?_)
      · rw [e17] at hr
        refine ⟨fun z => absurd (e1.symm.trans z) (by decide), fun _ => inX9_clear (fun P2 => sgX10_line_46 ⟨vp_in_nI hi6 (by decide), ?_⟩)⟩
        rw [nI_clamp (by omega)]
        have s02 := s'.tt s2
        refine s_perform hi6 (hLn_len hr) (fun j v hj => ?_) (sgX10_line_56 ?_)
        · rw [show (tc_ui S2 2 1 0).1 18 = S2.1 18 from rfl]
          exact hv j v hj
        · have e14 : (tc_ui S2 2 1 0).1 14 = S.1 14 := s02.1 14 (by decide)
          have e15 : (tc_ui S2 2 1 0).1 15 = S.1 15 := s02.1 15 (by decide)
          have e16 : (tc_ui S2 2 1 0).1 16 = S.1 16 := s02.1 16 (by decide)
          rw [e14, e15, e16]
          exact h1 i hi6 vs p S2 hr s02
      · rw [e17] at hr
        refine ⟨fun _ => ?_, fun z => absurd e1 z⟩
        have hF := hFa_le (f := fun j => (hLn (S.1 17) c n j).2) (B := 24) i (fun j hj => hle j (by omega))
        have hp := hle i hi6
        rw [hr] at hp
        have := ih (i + 1) S2 (by omega) (s'.tt s2) (fun j hj => by
          rcases Nat.lt_or_ge j i with g | g
          · exact hno j g
          · rw [show j = i by omega, hr])
        rw [nI_succ i] at this
        have e : (if nI (hFa (fun j => (hLn (S.1 17) c n j).2) i) < nI p then nI p else nI (hFa (fun j => (hLn (S.1 17) c n j).2) i)) = nI (hFa (fun j => (hLn (S.1 17) c n j).2) (i + 1)) := by
          simp only [hFa, hr]
          by_cases g : hFa (fun j => (hLn (S.1 17) c n j).2) i < p
          · rw [if_pos g, if_pos (nI_lt g (by omega))]
          · rw [if_neg g, if_neg (fun z => g ((nI_ltI (by omega) (by omega)).mp z))]
        rw [e]
        exact this
  exact loop 6 0 S rfl (hS.rf _ S) (fun j hj => absurd hj (by omega))
theorem p_line (hR : Rel S) (h : ∀ (x9 : Int32) S1, (∀ q2 : tc_Q, (∀ S2, Rel S2 → q2 (some (tc_I x9)) S2) → RX11_line [tc_R 0 34] S1 q2) → q (some (tc_I x9)) S1) : RX10_line [tc_R 0 0] S q := by
  obtain ⟨c1, c2, ⟨n, hn, c3⟩, c4⟩ := hR.2.2.1
  have hg := hR.2.2.2.2.2.2
  obtain ⟨c, hc⟩ : ∃ c : Nat → Nat, ∀ i, S.1 17 i = nI (c i) ∧ c i ≤ 127 := by
    refine ⟨fun i => (S.1 17 i).toNatClampNeg, fun i => ?_⟩
    obtain ⟨k, hk, e⟩ := c4 i
    simp only [e]
    rw [nI_clamp (by omega)]
    exact ⟨rfl, hk⟩
  refine s_line c3 hn hc (fun w hw vs p S' hr s' => h _ _ (fun q2 h2 => ?_)) (fun hno S' s' => h _ _ (fun q2 h2 => ?_))
  · have hmt : hMt (S.1 17) n w := by
      refine Classical.byContradiction (fun g => ?_)
      rw [hLn_no hw g] at hr
      exact absurd (congrArg Prod.fst hr) (by simp)
    generalize hS1 : uDo 14 15 16 w (tc_ui S' 2 1 0) (nI (vs.getD 0 0)) (nI (vs.getD 1 0)) (nI (vs.getD 2 0)) = S1
    have far : ∀ d, d ∉ [2, 3, 14, 15, 16, 18] → S1.1 d = S.1 d := by
      intro d hd
      simp only [List.mem_cons, List.not_mem_nil, or_false, not_or] at hd
      obtain ⟨d1, d2, d3, d4, d5, d6⟩ := hd
      rw [← hS1, uDo_r d3 d4 d5, h_ui d1, s'.1 d (by simp [d2, d6])]
    have e34 : S1.1 34 = S.1 34 := far 34 (by decide)
    have e38 : S1.1 38 = S.1 17 := (far 38 (by decide)).trans c1
    refine inX11_line (fun P => m_readsLine (n := n) (c := c) (by rw [e34]; exact c2.trans c3) hn (by rw [far 39 (by decide)]; exact hg) (by rw [e38]; exact hc) (fun hno S2 s2 e6 => ?_) (fun w' hw' hm' vs' p' S2 hr' s2 e7 hv => sgX11_line_4 (h_b1 ?_)) (fun w' hw' hm' p' S2 hr' s2 e6 => ?_))
    · rw [e38] at hno
      exact absurd hmt (hno w hw)
    · rw [e38] at hm' hr'
      have ew := hMt_one hw' hw hm' hmt
      subst ew
      rw [hr] at hr'
      have ev : vs = vs' := Option.some.inj (congrArg Prod.fst hr')
      subst ev
      refine m_does hw (by simp only [h_row, reduceIte, h_updE, Nat.reduceEqDiff]; exact e7) (hLn_len hr) (fun j v hj => hv j v hj) (sgX11_line_24 ?_)
      have a35 : (tc_ui S2 34 4 0).1 35 = S.1 14 := by rw [h_ui (by decide), s2.1.1 35 (by decide), far 35 (by decide)]; exact hR.1.1
      have a37 : (tc_ui S2 34 4 0).1 37 = S.1 15 := by rw [h_ui (by decide), s2.1.1 37 (by decide), far 37 (by decide)]; exact hR.1.2.1
      have a36 : (tc_ui S2 34 4 0).1 36 = S.1 16 := by rw [h_ui (by decide), s2.1.1 36 (by decide), far 36 (by decide)]; exact hR.1.2.2
      rw [a35, a37, a36]
      have hA := (hR.t0).rDo hw (nI (vs.getD 0 0)) (nI (vs.getD 1 0)) (nI (vs.getD 2 0))
      refine h2 _ (hA.fr ?_ ?_ ?_)
      · refine hS.do2 ?_ _ _ _ _ _ _ _
        rw [← uDo_comm _ _ _ _ (by decide) (by decide) (by decide)]
        refine hS.ui2 ?_ _ _ _
        have t1 := (hS.ui2 s' 2 1 0).do2 14 15 16 w' (nI (vs.getD 0 0)) (nI (vs.getD 1 0)) (nI (vs.getD 2 0))
        rw [hS1] at t1
        exact t1.tr s2.1 (by decide) (by decide)
      · rw [uDo_r (by decide) (by decide) (by decide), uDo_r (by decide) (by decide) (by decide), uDo_r (by decide) (by decide) (by decide)]
        simp only [h_row, reduceIte, h_updE, Nat.reduceEqDiff]
      · rw [uDo_r (by decide) (by decide) (by decide), uDo_r (by decide) (by decide) (by decide), uDo_r (by decide) (by decide) (by decide)]
        simp only [h_row, reduceIte, h_updE, Nat.reduceEqDiff]
        rw [s2.2.2, e34]
    · rw [e38] at hm' hr'
      have ew := hMt_one hw' hw hm' hmt
      subst ew
      rw [hr] at hr'
      exact absurd (congrArg Prod.fst hr') (by simp)
  · have hR' : Rel S' := hR.fr (s'.wk (by decide)) (by rw [s'.1 34 (by decide)]) (by rw [s'.1 34 (by decide)])
    have e38 : S'.1 38 = S.1 17 := (s'.1 38 (by decide)).trans c1
    refine inX11_line (fun P => m_readsLine (n := n) (c := c) (by rw [s'.1 34 (by decide)]; exact c2.trans c3) hn (by rw [s'.1 39 (by decide)]; exact hg) (by rw [e38]; exact hc) (fun hno2 S2 s2 e6 => sgX11_line_4 (h_b0 ?_)) (fun w hw hm vs p S2 hr s2 e7 hv => ?_) (fun w hw hm p S2 hr s2 e6 => sgX11_line_4 (h_b0 ?_)))
    · rw [e38] at hno2
      have e : hFa (fun j => (hLn (S.1 17) c n j).2) 6 = 0 := by
        rw [hFa_one (w := 6) 6 (fun j hj _ => by rw [hLn_no hj (hno2 j hj)])]
        rfl
      rw [e] at h2
      rw [e6]
      exact h2 _ (hR'.fr (s2.1.wk (by decide)) s2.2.1 s2.2.2)
    · rw [e38] at hr
      have := hno w hw
      rw [hr] at this
      exact absurd this (by simp)
    · rw [e38] at hm hr
      have e : hFa (fun j => (hLn (S.1 17) c n j).2) 6 = p := by
        rw [hFa_one (w := w) 6 (fun j hj hjw => by rw [hLn_no hj (fun g => hjw (hMt_one hj hw g hm))]), if_pos hw, hr]
      rw [e] at h2
      rw [e6]
      exact h2 _ (hR'.fr (s2.1.wk (by decide)) s2.2.1 s2.2.2)
end HDO
