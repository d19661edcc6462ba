/-! words on the tape; rule -/
/-- how many codes, from the place k on, are those of the word -/
def hShF (f : Nat → Int32) (n : Nat) (W : List Int32) : Nat → Nat → Nat
  | 0, k => k
  | d + 1, k => if k < n ∧ f k = W.getD k 0 then hShF f n W d (k + 1) else k
def hSh (f : Nat → Int32) (n : Nat) (W : List Int32) : Nat := hShF f n W W.length 0
def hSp (f : Nat → Int32) (n : Nat) (W : List Int32) : Prop := n = W.length ∧ hSh f n W = n
theorem hShF_ge (f : Nat → Int32) (n : Nat) (W : List Int32) : ∀ d k, k ≤ hShF f n W d k ∧ hShF f n W d k ≤ k + d := by
  intro d
  induction d with
  | zero => intro k; exact ⟨Nat.le_refl _, Nat.le_refl _⟩
  | succ d ih =>
    intro k
    simp only [hShF]
    split
    · have := ih (k + 1)
      omega
    · omega
theorem hSh_le (f : Nat → Int32) (n : Nat) (W : List Int32) : hSh f n W ≤ W.length := by
  have := (hShF_ge f n W W.length 0).2
  unfold hSh
  omega
theorem hShF_n (f : Nat → Int32) (n : Nat) (W : List Int32) : ∀ d k, k ≤ n → hShF f n W d k ≤ n := by
  intro d
  induction d with
  | zero => intro k h; exact h
  | succ d ih =>
    intro k h
    simp only [hShF]
    split
    · rename_i z
      exact ih (k + 1) (by omega)
    · exact h
theorem hSh_n (f : Nat → Int32) (n : Nat) (W : List Int32) : hSh f n W ≤ n := hShF_n f n W _ 0 (Nat.zero_le n)
theorem hWd_get : ∀ r, r < 10 → ∀ i, i < tc_len.getD r 0 → tc_ch r i = (hWd r).getD i 0 := by decide
theorem hWd_m9 : ∀ r, r < 10 → ∀ i, i < tc_len.getD r 0 → ¬ -9 = (hWd r).getD i 0 := by decide
section HTAPE
variable {q : tc_Q} {S : tc_S} {n r w k : Nat}
theorem s_codeAt (h21 : S.1 2 1 = nI n) (hn : n ≤ 24) (hk : k < 2 ^ 31) (h : q (some (tc_I (if k < n then S.1 17 k else -9))) S) : RX9_codeAt [tc_R 0 2, tc_I (nI k)] S q := by
  refine inX9_codeAt (fun P => ?_)
  unfold fmX9_codeAt_0
  rw [h21, nI_clamp hk]
  refine ⟨fun z => absurd z (nI_pos hk), fun _ => ⟨fun z => ?_, fun z => ?_⟩⟩
  · have := (nI_leI (by omega) hk).mp z
    rw [if_neg (by omega)] at h
    exact h
  · have hkn : k < n := by
      rcases Nat.lt_or_ge k n with g | g
      · exact g
      · exact absurd (nI_le g hk) z
    rw [if_pos hkn] at h
    exact ⟨vp_in_nI (by omega) (by decide), h⟩
theorem s_shared (h21 : S.1 2 1 = nI n) (hn : n ≤ 24) (hr : r < 10) (h : q (some (tc_I (nI (hSh (S.1 17) n (hWd r))))) S) : RX9_sharedWith [tc_R 0 2, tc_R 3 r] S q := by
  refine inX9_sharedWith (fun P h2 => ?_)
  have hlen := hWd_len r hr
  have hle := hWd_le r hr
  have loop : ∀ d i, i + d = (hWd r).length → q (some (tc_I (nI (hShF (S.1 17) n (hWd r) d i)))) S → P 2 [(0, tc_R 0 2), (1, tc_R 3 r), (2, tc_I (nI i))] [] S := by
    intro d
    induction d with
    | zero =>
      intro i hi hq
      exact h2 _ _ _ ⟨hr, ⟨hr, sgX9_sharedWith_7 ⟨fun _ => hq, fun z => absurd (nI_le (by omega) (by omega)) z⟩⟩⟩
    | succ d ih =>
      intro i hi hq
      have hg := hWd_get r hr i (by omega)
      refine h2 _ _ _ ⟨hr, ⟨hr, sgX9_sharedWith_7 ⟨fun z => absurd z (nI_ge (by omega) (by omega)), fun _ => s_codeAt h21 hn (by omega) (sgX9_sharedWith_15 ⟨hr, ⟨hr, vp_in_nI (by omega) (by omega), sgX9_sharedWith_20 ?_⟩⟩)⟩⟩⟩
      rw [nI_clamp (by omega), hg]
      simp only [hShF] at hq
      by_cases hin : i < n
      · rw [if_pos hin]
        simp only [hin, true_and] at hq
        refine ⟨fun z => ?_, fun z => ?_⟩
        · rw [if_pos z] at hq
          have := ih (i + 1) (by omega) hq
          rw [nI_succ i] at this
          exact this
        · rw [if_neg z] at hq
          exact hq
      · rw [if_neg hin]
        rw [if_neg (fun z => hin z.1)] at hq
        exact ⟨fun z => absurd z (hWd_m9 r hr i (by omega)), fun _ => hq⟩
  exact loop _ 0 (Nat.zero_add _) h
theorem s_spells (h21 : S.1 2 1 = nI n) (hn : n ≤ 24) (hr : r < 10) (h1 : hSp (S.1 17) n (hWd r) → q (some (tc_I 1)) S) (h0 : ¬ hSp (S.1 17) n (hWd r) → q (some (tc_I 0)) S) : RX9_spells [tc_R 0 2, tc_R 3 r] S q := by
  have hlen := hWd_len r hr
  have hle := hWd_le r hr
  have hs := hSh_le (S.1 17) n (hWd r)
  refine inX9_spells (fun P => ⟨hr, ⟨hr, sgX9_spells_8 ?_⟩⟩)
  rw [h21, ← hlen]
  refine ⟨fun z => s_shared h21 hn hr (sgX9_spells_16 ?_), fun z => ⟨h_n0, h0 (fun g => z (by rw [← g.1]))⟩⟩
  have e := (nI_eq (by omega) (by omega)).mp z
  unfold fmX9_spells_16
  rw [h21]
  refine ⟨fun z2 => ⟨h_n1, h1 ⟨e, (nI_eq (by omega) (by omega)).mp z2⟩⟩, fun z2 => ⟨h_n0, h0 (fun g => z2 (by rw [g.2]))⟩⟩
theorem m_onTape (h44 : S.1 34 4 = nI n) (hn : n ≤ 24) (hg : ∀ i x, hSg[i]? = some x → S.1 39 i = x) (hw : w < 10) (h1 : hSp (S.1 38) n (hWm w) → q (some (tc_I 1)) S) (h0 : ¬ hSp (S.1 38) n (hWm w) → q (some (tc_I 0)) S) : RX11_isOnTape [tc_R 0 34, tc_I (nI w)] S q := by
  have hle := hWm_le w hw
  have ix : ∀ i, (6 * nI w + nI i : Int32) = nI (6 * w + i) := fun i => by rw [show (6 : Int32) = nI 6 from rfl, h_mul, nI_add]
  refine inX11_isOnTape (fun P h16 => m_wordLong hw hg (sgX11_isOnTape_5 ?_))
  unfold fmX11_isOnTape_5
  rw [h44]
  refine ⟨fun z => ?_, fun z => ⟨h_n0, h0 (fun g => z (by rw [← g.1]))⟩⟩
  have e := (nI_eq (by omega) (by omega)).mp z
  have loop : ∀ d i, i + d = n → (hShF (S.1 38) n (hWm w) d i = n → q (some (tc_I 1)) S) → (¬ hShF (S.1 38) n (hWm w) d i = n → q (some (tc_I 0)) S) → P 16 [(0, tc_R 0 34), (1, tc_I (nI w)), (2, tc_I (nI i))] [] S := by
    intro d
    induction d with
    | zero =>
      intro i hi y1 y0
      refine h16 _ _ _ ?_
      unfold fmX11_isOnTape_16
      rw [h44]
      exact ⟨fun _ => ⟨h_n1, y1 hi⟩, fun z => absurd (nI_le (by omega) (by omega)) z⟩
    | succ d ih =>
      intro i hi y1 y0
      refine h16 _ _ _ ?_
      unfold fmX11_isOnTape_16
      rw [h44, ix, nI_clamp (by omega), nI_clamp (by omega), hg _ _ (hWm_at w hw i (by omega))]
      simp only [hShF, show i < n by omega, true_and] at y1 y0
      refine ⟨fun z => absurd z (nI_ge (by omega) (by omega)), fun _ => ⟨vp_in_nI (by omega) (by decide), vp_in_nI (by omega) (by decide), fun z => ?_, fun z => ⟨h_n0, ?_⟩⟩⟩
      · rw [if_pos z] at y1 y0
        have := ih (i + 1) (by omega) y1 y0
        rw [nI_succ i] at this
        exact this
      · rw [if_neg z] at y0
        exact y0 (by omega)
  refine loop n 0 (Nat.zero_add n) (fun g => h1 ⟨e.symm, ?_⟩) (fun g => h0 (fun g2 => g ?_))
  · unfold hSh
    rw [e]
    exact g
  · have := g2.2
    unfold hSh at this
    rw [e] at this
    exact this
theorem s_rule (h21 : S.1 2 1 = nI n) (hn : n ≤ 24) (h1 : ∀ i, i < 4 → (∀ j, j < i → ¬ hSp (S.1 17) n (hWd j)) → hSp (S.1 17) n (hWd i) → q (some (tc_I (nI i))) (tc_ui (tc_ur S i) 2 1 0)) (h0 : (∀ j, j < 4 → ¬ hSp (S.1 17) n (hWd j)) → q (some (tc_I (-1))) S) : RX10_rule [tc_R 0 0] S q := by
  refine inX10_rule (fun P h2 => ?_)
  have loop : ∀ d i, i + d = 4 → (∀ j, j < i → ¬ hSp (S.1 17) n (hWd j)) → P 2 [(0, tc_R 0 0), (1, tc_I (nI i))] [] S := by
    intro d
    induction d with
    | zero =>
      intro i hi hj
      have e : i = 4 := by omega
      subst e
      exact h2 _ _ ⟨fun _ => h0 hj, fun z => absurd (nI_le (Nat.le_refl 4) (by decide)) z⟩
    | succ d ih =>
      intro i hi hj
      refine h2 _ _ ⟨fun z => absurd z (nI_ge (show i < 4 by omega) (by decide)), fun _ => ?_⟩
      rw [nI_clamp (by omega)]
      refine ⟨vp_in_nI (by omega) (by decide), by omega, s_spells h21 hn (by omega) (fun g => sgX10_rule_25 (h_b1 ⟨vp_in_nI (by omega) (by decide), ?_⟩)) (fun g => sgX10_rule_25 (h_b0 ?_))⟩
      · rw [nI_clamp (by omega)]
        exact inX9_clear (fun P2 => sgX10_rule_44 ⟨show i < 4 by omega, h1 i (by omega) hj g⟩)
      · have := ih (i + 1) (by omega) (fun j h3 => by
          rcases Nat.lt_or_ge j i with g2 | g2
          · exact hj j g2
          · rw [show j = i by omega]
            exact g)
        rw [nI_succ i] at this
        exact this
  exact loop 4 0 rfl (fun j hj => absurd hj (by omega))
theorem m_rule (h44 : S.1 34 4 = nI n) (hn : n ≤ 24) (hg : ∀ i x, hSg[i]? = some x → S.1 39 i = x) (h1 : ∀ i, i < 4 → (∀ j, j < i → ¬ hSp (S.1 38) n (hWd j)) → hSp (S.1 38) n (hWd i) → q (some (tc_I (nI i))) (tc_ui (tc_ui S 34 9 (nI i)) 34 4 0)) (h0 : (∀ j, j < 4 → ¬ hSp (S.1 38) n (hWd j)) → q (some (tc_I (-1))) S) : RX11_rule [tc_R 0 34] S q := by
  refine inX11_rule (fun P h2 => ?_)
  have loop : ∀ d i, i + d = 4 → (∀ j, j < i → ¬ hSp (S.1 38) n (hWd j)) → P 2 [(0, tc_R 0 34), (1, tc_I (nI i))] [] S := by
    intro d
    induction d with
    | zero =>
      intro i hi hj
      have e : i = 4 := by omega
      subst e
      exact h2 _ _ ⟨fun _ => h0 hj, fun z => absurd (nI_le (Nat.le_refl 4) (by decide)) z⟩
    | succ d ih =>
      intro i hi hj
      refine h2 _ _ ⟨fun z => absurd z (nI_ge (show i < 4 by omega) (by decide)), fun _ => ?_⟩
      rw [show (6 : Int32) = nI 6 from rfl, nI_add]
      refine m_onTape h44 hn hg (by omega) (fun g => sgX11_rule_15 (h_b1 ?_)) (fun g => sgX11_rule_15 (h_b0 ?_))
      · rw [hWm_r i (by omega)] at g
        exact h1 i (by omega) hj g
      · rw [hWm_r i (by omega)] at g
        have := ih (i + 1) (by omega) (fun j h3 => by
          rcases Nat.lt_or_ge j i with g2 | g2
          · exact hj j g2
          · rw [show j = i by omega]
            exact g)
        rw [nI_succ i] at this
        exact this
  exact loop 4 0 rfl (fun j hj => absurd hj (by omega))
theorem Rel.ru (h : Rel S) {i : Nat} (hi : i < 4) : Rel (tc_ui (tc_ui (tc_ui (tc_ur S i) 2 1 0) 34 9 (nI i)) 34 4 0) := by
  obtain ⟨a, b, ⟨c1, c2, c3, c4⟩, d, e, f, g⟩ := h
  refine ⟨a, b, ⟨c1, ?_, ⟨0, by decide, ?_⟩, c4⟩, ⟨hi, ?_⟩, e, f, g⟩
  · simp only [h_row, Nat.reduceEqDiff, reduceIte, h_updE]
  · simp only [h_row, Nat.reduceEqDiff, reduceIte, h_updE]
    rfl
  · simp only [h_row, Nat.reduceEqDiff, reduceIte, h_updE]
    rfl
theorem p_rule (hR : Rel S) (h : ∀ (x9 : Int32) S1, (∀ q2 : tc_Q, (∀ S2, Rel S2 → q2 (some (tc_I x9)) S2) → RX11_rule [tc_R 0 34] S1 q2) → q (some (tc_I x9)) S1) : RX10_rule [tc_R 0 0] S q := by
  obtain ⟨c1, c2, ⟨n, hn, c3⟩, c4⟩ := hR.2.2.1
  have hg := hR.2.2.2.2.2.2
  refine s_rule c3 hn (fun i hi hj hs => h _ _ (fun q2 h2 => ?_)) (fun hj => h _ _ (fun q2 h2 => ?_))
  · refine m_rule (n := n) (S := tc_ui (tc_ur S i) 2 1 0) (c2.trans c3) hn hg (fun k hk hkj hks => ?_) (fun hkj => ?_)
    · have e38 : (tc_ui (tc_ur S i) 2 1 0).1 38 = S.1 17 := c1
      rw [e38] at hks hkj
      have : k = i := by
        rcases Nat.lt_trichotomy k i with g | g | g
        · exact absurd hks (hj k g)
        · exact g
        · exact absurd hs (hkj i g)
      subst this
      exact h2 _ (hR.ru hi)
    · have e38 : (tc_ui (tc_ur S i) 2 1 0).1 38 = S.1 17 := c1
      rw [e38] at hkj
      exact absurd hs (hkj i hi)
  · refine m_rule (n := n) (c2.trans c3) hn hg (fun k hk hkj hks => ?_) (fun hkj => h2 _ hR)
    rw [c1] at hks
    exact absurd hks (hj k hk)
end HTAPE
