/-! rank -/
/-- how many of the tellers below n are ahead of t; c: how many cases, s: the sum of misses -/
def hAh (c s : Nat → Nat) (t : Nat) : Nat → Nat
  | 0 => 0
  | n + 1 => hAh c s t n + if 0 < c n ∧ (s n * c t < s t * c n ∨ (s n * c t = s t * c n ∧ n < t)) then 1 else 0
theorem hAh_le (c s : Nat → Nat) (t : Nat) : ∀ n, hAh c s t n ≤ n := by
  intro n
  induction n with
  | zero => exact Nat.le_refl 0
  | succ n ih =>
    simp only [hAh]
    split <;> omega
def hRk (c s : Nat → Nat) (k : Int32) : Nat → Int32
  | 0 => -1
  | d + 1 => if 0 < c (4 - d) ∧ nI (hAh c s (4 - d) 5) = k then nI (4 - d) else hRk c s k d
abbrev cN (S : tc_S) (t : Nat) : Nat := (cL S t 40).length
abbrev cM (S : tc_S) (t : Nat) : Nat := hMS S.2.2 (cL S t 40)
theorem cN_le (S : tc_S) (t : Nat) : cN S t ≤ 40 := hL_len _ _ _ _ _
theorem cM_le {S : tc_S} (hb : cB S) {t : Nat} (ht : t < 5) : cM S t ≤ 40000000 := by
  have h := hMS_le (r := S.2.2) (hL_ok hb ht 40 (Nat.le_refl 40))
  have h2 := cN_le S t
  unfold cN cL at h2
  unfold cM cL
  omega
/-- the class's rows of counts and sums -/
def cK (S S' : tc_S) (n : Nat) : Prop := ∀ u, u < n → S'.1 11 u = nI (cN S u) ∧ S'.2.1 10 u = lN (cM S u)
section HRANK
variable {q : tc_Q} {S : tc_S} {t : Nat} {x1 : Int32}
theorem h_mulb {a b : Nat} (ha : a ≤ 40000000) (hb : b ≤ 40) : a * b < 2 ^ 63 := by
  have : a * b ≤ 40000000 * 40 := Nat.mul_le_mul ha hb
  omega
theorem s_ahead {S' : tc_S} (hb : cB S) (hk : cK S S' 5) (ht : t < 5) (h : q (some (tc_I (nI (hAh (cN S) (cM S) t 5)))) S') : RX10_tellersAheadOf [tc_R 0 0, tc_I (nI t)] S' q := by
  refine inX10_tellersAheadOf (fun P h4 h76 h79 => ?_)
  have loop : ∀ d n, n + d = 5 → P 4 [(0, tc_R 0 0), (1, tc_I (nI t)), (2, tc_I (nI (hAh (cN S) (cM S) t n))), (3, tc_I (nI n))] [] S' := by
    intro d
    induction d with
    | zero =>
      intro n hn
      have e : n = 5 := by omega
      subst e
      exact h4 _ _ _ _ ⟨fun _ => h, fun z => absurd (nI_lt (show 4 < 5 by omega) (by decide)) z⟩
    | succ d ih =>
      intro n hn
      have ih' := ih (n + 1) (by omega)
      rw [nI_succ n] at ih'
      have hn5 : n < 5 := by omega
      have inc : (0 < cN S n ∧ (cM S n * cN S t < cM S t * cN S n ∨ (cM S n * cN S t = cM S t * cN S n ∧ n < t))) → P 79 [(0, tc_R 0 0), (1, tc_I (nI t)), (2, tc_I (nI (hAh (cN S) (cM S) t n) + 1)), (3, tc_I (nI n))] [] S' := by
        intro hc
        have e : hAh (cN S) (cM S) t (n + 1) = hAh (cN S) (cM S) t n + 1 := by
          show hAh (cN S) (cM S) t n + (if _ then 1 else 0) = _
          rw [if_pos hc]
        rw [e, nI_succ] at ih'
        exact h79 _ _ _ _ ih'
      have stay : ¬ (0 < cN S n ∧ (cM S n * cN S t < cM S t * cN S n ∨ (cM S n * cN S t = cM S t * cN S n ∧ n < t))) → P 79 [(0, tc_R 0 0), (1, tc_I (nI t)), (2, tc_I (nI (hAh (cN S) (cM S) t n))), (3, tc_I (nI n))] [] S' := by
        intro hc
        have e : hAh (cN S) (cM S) t (n + 1) = hAh (cN S) (cM S) t n := by
          show hAh (cN S) (cM S) t n + (if _ then 1 else 0) = _
          rw [if_neg hc]
          rfl
        rw [e] at ih'
        exact h79 _ _ _ _ ih'
      refine h4 _ _ _ _ ⟨fun z => absurd z (nI_nlt (show n ≤ 4 by omega) (by decide)), fun _ => ⟨fun z => stay ?_, fun z => ?_⟩⟩
      · have e : n = t := (nI_eq (by omega) (by omega)).mp z
        subst e
        omega
      · have hcn := cN_le S n
        have hct := cN_le S t
        have hmn := cM_le hb hn5
        have hmt := cM_le hb ht
        have p1 := h_mulb hmn hct
        have p2 := h_mulb hmt hcn
        rw [nI_clamp (by omega), nI_clamp (by omega), (hk n hn5).1, (hk n hn5).2, (hk t ht).1, (hk t ht).2, nI_l (by omega), nI_l (by omega), lN_mul, lN_mul]
        refine ⟨vp_in_nI hn5 (by decide), fun z0 => stay ?_, fun z0 => ⟨vp_in_nI hn5 (by decide), vp_in_nI ht (by decide), vp_in_nI ht (by decide), vp_in_nI hn5 (by decide), fun z1 => h76 _ _ _ _ (inc ?_), fun z1 => ⟨fun z2 => ⟨fun z3 => stay ?_, fun z3 => h76 _ _ _ _ (inc ?_)⟩, fun z2 => stay ?_⟩⟩⟩
        · have := (nI_leI (b := 0) (by omega) (by decide)).mp z0
          omega
        · have g := (l_lt p1 p2).mp ((lg_cmp_lt _ _).mp z1)
          refine ⟨?_, Or.inl g⟩
          rcases Nat.eq_zero_or_pos (cN S n) with g0 | g0
          · exact absurd (by rw [g0]; exact nI_le (Nat.le_refl 0) (by decide)) z0
          · exact g0
        · have g := (l_eq p1 p2).mp ((lg_cmp_eq _ _).mp z2)
          have := (nI_leI (by omega) (by omega)).mp z3
          omega
        · have g := (l_eq p1 p2).mp ((lg_cmp_eq _ _).mp z2)
          refine ⟨?_, Or.inr ⟨g, ?_⟩⟩
          · rcases Nat.eq_zero_or_pos (cN S n) with g0 | g0
            · exact absurd (by rw [g0]; exact nI_le (Nat.le_refl 0) (by decide)) z0
            · exact g0
          · rcases Nat.lt_or_ge n t with g0 | g0
            · exact g0
            · exact absurd (nI_le g0 (by omega)) z3
        · have g1 : ¬ cM S n * cN S t < cM S t * cN S n := fun g => z1 ((lg_cmp_lt _ _).mpr ((l_lt p1 p2).mpr g))
          have g2 : ¬ cM S n * cN S t = cM S t * cN S n := fun g => z2 ((lg_cmp_eq _ _).mpr ((l_eq p1 p2).mpr g))
          omega
  exact loop 5 0 rfl
theorem s_rank (hb : cB S) (hr4 : S.2.2 < 4) (h : ∀ S', hS [4, 10, 11, 19, 20] S S' → q (some (tc_I (hRk (cN S) (cM S) x1 5))) S') : RX10_rank [tc_R 0 0, tc_I x1] S q := by
  refine inX10_rank (fun P h2 h57 h82 => ?_)
  have loop2 : ∀ S', hS [4, 10, 11, 19, 20] S S' → cK S S' 5 → ∀ d n, n + d = 5 → (q (some (tc_I (hRk (cN S) (cM S) x1 d))) S') → P 57 [(0, tc_R 0 0), (1, tc_I x1), (2, tc_I (nI n))] [] S' := by
    intro S' hs hk d
    induction d with
    | zero =>
      intro n hn hq
      have e : n = 5 := by omega
      subst e
      exact h57 _ _ _ ⟨fun _ => hq, fun z => absurd (nI_lt (show 4 < 5 by omega) (by decide)) z⟩
    | succ d ih =>
      intro n hn hq
      have hn4 : 4 - d = n := by omega
      have hcn := cN_le S n
      simp only [hRk, hn4] at hq
      have nx : ¬ (0 < cN S n ∧ nI (hAh (cN S) (cM S) n 5) = x1) → P 82 [(0, tc_R 0 0), (1, tc_I x1), (2, tc_I (nI n))] [] S' := by
        intro hc
        rw [if_neg hc] at hq
        have := ih (n + 1) (by omega) hq
        rw [nI_succ n] at this
        exact h82 _ _ _ this
      refine h57 _ _ _ ⟨fun z => absurd z (nI_nlt (show n ≤ 4 by omega) (by decide)), fun _ => ?_⟩
      rw [nI_clamp (by omega), (hk n (by omega)).1]
      refine ⟨vp_in_nI (by omega) (by decide), fun z => nx ?_, fun z => s_ahead hb hk (by omega) (sgX10_rank_76 ⟨fun z2 => ?_, fun z2 => nx (fun g => z2 g.2)⟩)⟩
      · have := (nI_leI (b := 0) (by omega) (by decide)).mp z
        omega
      · have g0 : 0 < cN S n := by
          rcases Nat.eq_zero_or_pos (cN S n) with g0 | g0
          · exact absurd (by rw [g0]; exact nI_le (Nat.le_refl 0) (by decide)) z
          · exact g0
        rw [if_pos ⟨g0, z2⟩] at hq
        exact hq
  have loop1 : ∀ d n S', n + d = 5 → hS [4, 10, 11, 19, 20] S S' → cK S S' n → P 2 [(0, tc_R 0 0), (1, tc_I x1), (2, tc_I (nI n))] [] S' := by
    intro d
    induction d with
    | zero =>
      intro n S' hn hs hk
      have e : n = 5 := by omega
      subst e
      exact h2 _ _ _ ⟨fun _ => loop2 S' hs hk 5 0 rfl (h S' hs), fun z => absurd (nI_lt (show 4 < 5 by omega) (by decide)) z⟩
    | succ d ih =>
      intro n S' hn hs hk
      have hb' := hs.cB (by decide) (by decide) (by decide) hb
      have hcl := hs.cL (by decide) (by decide) (by decide) n 40
      refine h2 _ _ _ ⟨fun z => absurd z (nI_nlt (show n ≤ 4 by omega) (by decide)), fun _ => s_gather hb' (by omega) (fun S2 hg => sgX10_rank_19 ⟨vp_in_nI (by omega) (by decide), ?_⟩)⟩
      have hc := cG_cC hb' (by omega) hg
      rw [hcl] at hc hg
      have hr2 : S2.2.2 = S.2.2 := by rw [hg.1.2.2, hs.2.2]
      rw [nI_clamp (by omega), hc.2.2.1]
      have hc2 : cC (tc_ui S2 11 n (nI (cN S n))) (cL S n 40) := by
        refine ⟨hc.1, hc.2.1, ?_, ?_, ?_⟩
        · rw [h_ui (by decide)]; exact hc.2.2.1
        · rw [h_ui (by decide)]; exact hc.2.2.2.1
        · rw [h_ui (by decide), h_ui (by decide)]; exact hc.2.2.2.2
      show RX2_missSum [tc_R 0 4, tc_R 1 S2.2.2] _ _
      rw [hr2]
      refine s_missSum hr4 hc2 (sgX10_rank_48 ⟨vp_in_nI (by omega) (by decide), ?_⟩)
      rw [nI_clamp (by omega)]
      have hs2 : hS [4, 10, 11, 19, 20] S (tc_ul (tc_ui S2 11 n (nI (cN S n))) 10 n (lN (cM S n))) := ((hs.tr hg.1 (by decide) (by decide)).ui (by decide)).ul (by decide)
      have := ih (n + 1) _ (by omega) hs2 (by
        intro u hu
        have e11 : (tc_ul (tc_ui S2 11 n (nI (cN S n))) 10 n (lN (cM S n))).1 11 = upd (S'.1 11) n (nI (cN S n)) := by
          show (tc_ui S2 11 n (nI (cN S n))).1 11 = _
          rw [tc_ui_self, hg.1.1 11 (by decide)]
        have e10 : (tc_ul (tc_ui S2 11 n (nI (cN S n))) 10 n (lN (cM S n))).2.1 10 = vp_updL (S'.2.1 10) n (lN (cM S n)) := by
          rw [tc_ul_self]
          show vp_updL (S2.2.1 10) _ _ = _
          rw [hg.1.2.1 10 (by decide)]
        rw [e11, e10]
        by_cases hun : u = n
        · subst hun
          exact ⟨h_upd, if_pos rfl⟩
        · exact ⟨by rw [h_updn hun]; exact (hk u (by omega)).1, by rw [show vp_updL (S'.2.1 10) n (lN (cM S n)) u = S'.2.1 10 u from if_neg hun]; exact (hk u (by omega)).2⟩)
      rw [nI_succ n] at this
      exact this
  exact loop1 5 0 S rfl (hS.rf _ S) (fun u hu => absurd hu (by omega))
-- the model's
abbrev mN (S : tc_S) (t : Nat) : Nat := (mL S t 40).length
abbrev mM (S : tc_S) (r t : Nat) : Nat := hMS r (mL S t 40)
theorem mN_le (S : tc_S) (t : Nat) : mN S t ≤ 40 := hL_len _ _ _ _ _
theorem mM_le {S : tc_S} (hb : mB S) {r t : Nat} (ht : t < 5) : mM S r t ≤ 40000000 := by
  have h := hMS_le (r := r) (hL_ok hb ht 40 (Nat.le_refl 40))
  have h2 := mN_le S t
  unfold mN mL at h2
  unfold mM mL
  omega
theorem m_casesN (hb : mB S) (ht : t < 5) (h : q (some (tc_I (nI (mN S t)))) S) : RX11_cases [tc_R 0 34, tc_I (nI t)] S q := m_cases hb ht h
theorem m_missesN {r : Nat} (hb : mB S) (ht : t < 5) (hr : r < 4) (hru : S.1 34 9 = nI r) (h : q (some (tc_J (lN (mM S r t)))) S) : RX11_misses [tc_R 0 34, tc_I (nI t)] S q := m_misses hb ht hr hru h
theorem m_ahead {r u : Nat} (hb : mB S) (hr4 : r < 4) (hru : S.1 34 9 = nI r) (ht : t < 5) (hu : u < 5) (h1 : (mM S r u * mN S t < mM S r t * mN S u ∨ (mM S r u * mN S t = mM S r t * mN S u ∧ u < t)) → q (some (tc_I 1)) S) (h0 : ¬ (mM S r u * mN S t < mM S r t * mN S u ∨ (mM S r u * mN S t = mM S r t * mN S u ∧ u < t)) → q (some (tc_I 0)) S) : RX11_isAhead [tc_R 0 34, tc_I (nI u), tc_I (nI t)] S q := by
  have hcn := mN_le S u
  have hct := mN_le S t
  have hmn := mM_le (r := r) hb hu
  have hmt := mM_le (r := r) hb ht
  have p1 := h_mulb hmn hct
  have p2 := h_mulb hmt hcn
  refine inX11_isAhead (fun P => m_missesN hb hu hr4 hru (sgX11_isAhead_5 (m_casesN hb ht (sgX11_isAhead_10 (m_missesN hb ht hr4 hru (sgX11_isAhead_18 (m_casesN hb hu (sgX11_isAhead_23 ?_))))))))
  unfold fmX11_isAhead_23
  rw [nI_l (by omega), nI_l (by omega), lN_mul, lN_mul]
  refine ⟨fun z => ⟨fun z2 => ⟨h_n0, h0 ?_⟩, fun z2 => ⟨h_n1, h1 ?_⟩⟩, fun z => ⟨fun z2 => ⟨h_n0, h0 ?_⟩, fun z2 => ⟨h_n1, h1 ?_⟩⟩⟩
  · have g := (l_eq p1 p2).mp ((lg_cmp_eq _ _).mp z)
    have g2 := (nI_leI (by omega) (by omega)).mp z2
    omega
  · have g := (l_eq p1 p2).mp ((lg_cmp_eq _ _).mp z)
    refine Or.inr ⟨g, ?_⟩
    rcases Nat.lt_or_ge u t with g0 | g0
    · exact g0
    · exact absurd (nI_le g0 (by omega)) z2
  · have g := (l_le p2 p1).mp ((lg_cmp_ge _ _).mp z2)
    have g2 : ¬ mM S r u * mN S t = mM S r t * mN S u := fun g => z ((lg_cmp_eq _ _).mpr ((l_eq p1 p2).mpr g))
    omega
  · have g : ¬ mM S r t * mN S u ≤ mM S r u * mN S t := fun g => z2 ((lg_cmp_ge _ _).mpr ((l_le p2 p1).mpr g))
    exact Or.inl (by omega)
theorem m_rank {r : Nat} (hb : mB S) (hr4 : r < 4) (hru : S.1 34 9 = nI r) (h : q (some (tc_I (hRk (mN S) (mM S r) x1 5))) S) : RX11_rank [tc_R 0 34, tc_I x1] S q := by
  refine inX11_rank (fun P h2 h12 h42 h43 h66 => ?_)
  have loop2 : ∀ d n, n + d = 5 → (q (some (tc_I (hRk (mN S) (mM S r) x1 d))) S) → P 2 [(0, tc_R 0 34), (1, tc_I x1), (2, tc_I (nI n))] [] S := by
    intro d
    induction d with
    | zero =>
      intro n hn hq
      have e : n = 5 := by omega
      subst e
      exact h2 _ _ _ ⟨fun _ => hq, fun z => absurd (nI_lt (show 4 < 5 by omega) (by decide)) z⟩
    | succ d ih =>
      intro n hn hq
      have hn4 : 4 - d = n := by omega
      have hcn := mN_le S n
      simp only [hRk, hn4] at hq
      have nx : ¬ (0 < mN S n ∧ nI (hAh (mN S) (mM S r) n 5) = x1) → P 66 [(0, tc_R 0 34), (1, tc_I x1), (2, tc_I (nI n))] [] S := by
        intro hc
        rw [if_neg hc] at hq
        have := ih (n + 1) (by omega) hq
        rw [nI_succ n] at this
        exact h66 _ _ _ this
      have loop3 : ∀ d3 u, u + d3 = 5 → P 12 [(0, tc_R 0 34), (1, tc_I x1), (2, tc_I (nI n)), (3, tc_I (nI (hAh (mN S) (mM S r) n u))), (4, tc_I (nI u))] [] S := by
        intro d3
        induction d3 with
        | zero =>
          intro u hu
          have e : u = 5 := by omega
          subst e
          refine h12 _ _ _ _ _ ⟨fun _ => m_casesN hb (by omega) (sgX11_rank_56 ⟨fun z => nx ?_, fun z => ⟨fun z2 => ?_, fun z2 => nx (fun g => z2 g.2)⟩⟩), fun z => absurd (nI_lt (show 4 < 5 by omega) (by decide)) z⟩
          · have := (nI_leI (b := 0) (by omega) (by decide)).mp z
            omega
          · have g0 : 0 < mN S n := by
              rcases Nat.eq_zero_or_pos (mN S n) with g0 | g0
              · exact absurd (by rw [g0]; exact nI_le (Nat.le_refl 0) (by decide)) z
              · exact g0
            rw [if_pos ⟨g0, z2⟩] at hq
            exact hq
        | succ d3 ih3 =>
          intro u hu
          have ih' := ih3 (u + 1) (by omega)
          rw [nI_succ u] at ih'
          have hcu := mN_le S u
          have inc : (0 < mN S u ∧ (mM S r u * mN S n < mM S r n * mN S u ∨ (mM S r u * mN S n = mM S r n * mN S u ∧ u < n))) → P 43 [(0, tc_R 0 34), (1, tc_I x1), (2, tc_I (nI n)), (4, tc_I (nI u))] [tc_I 1, tc_I (nI (hAh (mN S) (mM S r) n u))] S := by
            intro hc
            have e : hAh (mN S) (mM S r) n (u + 1) = hAh (mN S) (mM S r) n u + 1 := by
              show hAh (mN S) (mM S r) n u + (if _ then 1 else 0) = _
              rw [if_pos hc]
            rw [e, nI_succ (hAh _ _ _ _)] at ih'
            exact h43 _ _ _ _ _ _ ih'
          have stay : ¬ (0 < mN S u ∧ (mM S r u * mN S n < mM S r n * mN S u ∨ (mM S r u * mN S n = mM S r n * mN S u ∧ u < n))) → P 42 [(0, tc_R 0 34), (1, tc_I x1), (2, tc_I (nI n)), (4, tc_I (nI u))] [tc_I (nI (hAh (mN S) (mM S r) n u))] S := by
            intro hc
            have e : hAh (mN S) (mM S r) n (u + 1) = hAh (mN S) (mM S r) n u := by
              show hAh (mN S) (mM S r) n u + (if _ then 1 else 0) = _
              rw [if_neg hc]
              rfl
            rw [e] at ih'
            refine h42 _ _ _ _ _ (h43 _ _ _ _ _ _ ?_)
            unfold fmX11_rank_43
            rw [Int32.add_zero]
            exact ih'
          refine h12 _ _ _ _ _ ⟨fun z => absurd z (nI_nlt (show u ≤ 4 by omega) (by decide)), fun _ => m_casesN hb (by omega) (sgX11_rank_25 ⟨fun z => stay ?_, fun z => m_ahead hb hr4 hru (by omega) (by omega) (fun g => sgX11_rank_35 (h_b1 (inc ⟨?_, g⟩))) (fun g => sgX11_rank_35 (h_b0 (stay (fun g2 => g g2.2))))⟩)⟩
          · have := (nI_leI (b := 0) (by omega) (by decide)).mp z
            omega
          · rcases Nat.eq_zero_or_pos (mN S u) with g0 | g0
            · exact absurd (by rw [g0]; exact nI_le (Nat.le_refl 0) (by decide)) z
            · exact g0
      exact h2 _ _ _ ⟨fun z => absurd z (nI_nlt (show n ≤ 4 by omega) (by decide)), fun _ => loop3 5 0 rfl⟩
  exact loop2 5 0 rfl h
theorem p_rank (hR : Rel S) (h : ∀ (x9 : Int32) S1, (∀ q2 : tc_Q, (∀ S2, Rel S2 → q2 (some (tc_I x9)) S2) → RX11_rank [tc_R 0 34, tc_I x1] S1 q2) → q (some (tc_I x9)) S1) : RX10_rank [tc_R 0 0, tc_I x1] S q := by
  obtain ⟨r1, r2⟩ := hR.2.2.2.1
  refine s_rank hR.2.1 r1 (fun S' hs => h _ _ (fun q2 h2 => ?_))
  have hR' := hR.fr (hs.wk (by decide)) (by rw [hs.1 34 (by decide)]) (by rw [hs.1 34 (by decide)])
  have hru : S'.1 34 9 = nI S.2.2 := by rw [hs.1 34 (by decide)]; exact r2
  refine m_rank hR'.mb r1 hru ?_
  have e1 : mN S' = cN S := by
    funext t
    show (mL S' t 40).length = (cL S t 40).length
    rw [hR'.cl, hs.cL (by decide) (by decide) (by decide)]
  have e2 : mM S' S.2.2 = cM S := by
    funext t
    show hMS S.2.2 (mL S' t 40) = hMS S.2.2 (cL S t 40)
    rw [hR'.cl, hs.cL (by decide) (by decide) (by decide)]
  rw [e1, e2]
  exact h2 _ hR'
end HRANK
