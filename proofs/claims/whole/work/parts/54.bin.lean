/-! bin, many -/
section HBIN
variable {q : tc_Q} {S : tc_S} {x1 x2 x3 : Int32} {t e : Nat}
theorem s_hasBin {n : Nat} (hc5 : S.1 5 1 = nI n) (hn : n < 100) (h1 : ∀ k, k ≤ n → x2 = nI k → q (some (tc_I 1)) S) (h0 : ¬ hR (n + 1) x2 → q (some (tc_I 0)) S) : RX0_hasBin [tc_R 0 5, tc_I x2] S q := by
  refine inX0_hasBin (fun P => ?_)
  unfold fmX0_hasBin_0
  rw [hc5]
  cases b : hr (n + 1) x2 with
  | false =>
    have nb := hr_f (by omega) b
    exact h_chl0 (by omega) nb ⟨h_n0, h0 nb⟩ ⟨h_n0, h0 nb⟩
  | true =>
    obtain ⟨k, hk, rfl⟩ := hr_t (by omega) b
    exact h_chl1 (by omega) hk ⟨h_n1, h1 k (by omega) rfl⟩
theorem p_bin (hR : Rel S) (h : ∀ (x9 : Int32) S1, (∀ q2 : tc_Q, (∀ S2, Rel S2 → q2 (some (tc_I x9)) S2) → RX11_bin [tc_R 0 34, tc_I x1, tc_I x2, tc_I x3] S1 q2) → q (some (tc_I x9)) S1) : RX10_bin [tc_R 0 0, tc_I x1, tc_I x2, tc_I x3] S q := by
  refine inX10_bin (fun P => ?_)
  have hcut := hR.2.2.2.2.1
  obtain ⟨k1, k2, k3, k4⟩ := id hcut
  cases b1 : hr 5 x1 with
  | false =>
    have n1 := hr_f (by decide) b1
    exact s_teller0 n1 (sgX10_bin_4 (h_b0 (h _ _ (fun q2 h2 => inX11_bin (fun _ => m_any0 n1 (sgX11_bin_4 (h_b0 (h2 _ hR))))))))
  | true =>
    obtain ⟨t, ht, rfl⟩ := hr_t (by decide) b1
    refine s_teller1 ht (sgX10_bin_4 (h_b1 (s_hasBin k3 (by omega) (fun k hk ek => ?_) (fun nk => ?_))))
    · subst ek
      refine sgX10_bin_15 (h_b1 ?_)
      -- the model, up to its switch
      have mod : ∀ S1, Rel S1 → S1.1 41 = S.1 41 → ∀ q2 : tc_Q, (∀ S2, mBi S1 S2 (mL S1 t 40) → Rel S2 → fmX11_bin_26 (fun _ _ _ _ => True) q2 (nI t) (nI k) x3 S2) → RX11_bin [tc_R 0 34, tc_I (nI t), tc_I (nI k), tc_I x3] S1 q2 := by
        intro S1 hR1 e41 q2 h2
        refine inX11_bin (fun P2 => m_any1 ht (sgX11_bin_4 (h_b1 (m_cuts (sgX11_bin_13 ?_)))))
        unfold fmX11_bin_13
        rw [e41]
        refine m_within1 (by omega) (by omega) (sgX11_bin_16 (h_b1 (m_counts hR1.mb (by rw [e41]; exact k2) ht (fun S2 hw => sgX11_bin_26 ?_))))
        exact h2 S2 hw (hR1.fr (hw.1.wk (by decide)) hw.2.1.1 hw.2.1.2.1)
      cases b3 : hr 5 x3 with
      | false =>
        have n3 := hr_f (by decide) b3
        have hh : q (some (tc_I (-2))) S := h _ _ (fun q2 h2 => mod S hR rfl q2 (fun S2 hw hR2 => ⟨fun _ => h2 _ hR2, fun z => absurd ⟨0, by decide, z⟩ n3, fun z => absurd ⟨1, by decide, z⟩ n3, fun z => absurd ⟨2, by decide, z⟩ n3, fun z => absurd ⟨3, by decide, z⟩ n3, fun z => absurd ⟨4, by decide, z⟩ n3, trivial⟩))
        exact h_gl0 (n := 4) (by decide) n3 hh hh
      | true =>
        obtain ⟨w, hw5, rfl⟩ := hr_t (by decide) b3
        have nout : ¬ (nI w < 0 ∨ (4 : Int32) < nI w) := by
          intro z
          rcases z with z | z
          · exact nI_pos (by omega) z
          · exact nI_nlt (show w ≤ 4 by omega) (by decide) z
        have eqw : ∀ {j : Nat}, j < 5 → nI w = nI j → w = j := fun hj z => (nI_eq (by omega) (by omega)).mp z
        refine h_gl1 (n := 4) (by decide) hw5 ⟨fun z => ?_, fun z => ⟨fun z2 => ?_, fun z2 => ?_⟩⟩
        · have e3 := eqw (j := 3) (by decide) z
          subst e3
          refine s_least hcut hk (sgX10_bin_45 (h _ _ (fun q2 h2 => mod S hR rfl q2 (fun S2 hw hR2 => ⟨fun z => absurd z nout, fun z => absurd (eqw (j := 0) (by decide) z) (by decide), fun z => absurd (eqw (j := 1) (by decide) z) (by decide), fun z => absurd (eqw (j := 2) (by decide) z) (by decide), fun _ => ?_, fun z => absurd (eqw (j := 4) (by decide) z) (by decide), trivial⟩))))
          have e41 : S2.1 41 = S.1 41 := hw.1.1 41 (by decide)
          refine m_least (by unfold cF; rw [e41]; exact k2) (by unfold cF; rw [e41]; exact hk) (sgX11_bin_86 ?_)
          unfold fmX11_bin_86 cF
          rw [e41]
          exact h2 _ hR2
        · have e4 := eqw (j := 4) (by decide) z2
          subst e4
          refine s_greatest hcut hk (sgX10_bin_59 (h _ _ (fun q2 h2 => mod S hR rfl q2 (fun S2 hw hR2 => ⟨fun z => absurd z nout, fun z => absurd (eqw (j := 0) (by decide) z) (by decide), fun z => absurd (eqw (j := 1) (by decide) z) (by decide), fun z => absurd (eqw (j := 2) (by decide) z) (by decide), fun z => absurd (eqw (j := 3) (by decide) z) (by decide), fun _ => ?_, trivial⟩))))
          have e41 : S2.1 41 = S.1 41 := hw.1.1 41 (by decide)
          refine m_greatest (by unfold cF; rw [e41]; exact k2) (by unfold cF; rw [e41]; exact hk) (sgX11_bin_92 ?_)
          unfold fmX11_bin_92 cF
          rw [e41]
          exact h2 _ hR2
        · refine s_gather hR.2.1 ht (fun S1 hg => sgX10_bin_72 (s_sortIn (l := cL S t 40) (by rw [hg.1.1 5 (by decide), hg.1.1 21 (by decide), hg.1.1 41 (by decide)]; exact hcut) (cG_cC hR.2.1 ht hg) (fun S2 hb => sgX10_bin_83 ?_)))
          have hs : hS [4, 19, 20, 22, 23, 24, 25, 26] S S2 := hg.1.tr hb.1 (by decide) (by decide)
          have hR2 := hR.fr (hs.wk (by decide)) (by rw [hs.1 34 (by decide)]) (by rw [hs.1 34 (by decide)])
          have e41 : S2.1 41 = S.1 41 := hs.1 41 (by decide)
          have hml : mL S2 t 40 = cL S t 40 := by rw [hR2.cl, hs.cL (by decide) (by decide) (by decide)]
          have hbi := hb.2 k (by omega)
          rw [hg.1.1 41 (by decide)] at hbi
          have hin : vp_in (nI k) 10 := vp_in_nI (by omega) (by decide)
          have fin : ∀ v : Int32, (w = 0 → v = nI (hBn (S.1 41) g0 k (cL S t 40))) → (w = 1 → v = nI (hBn (S.1 41) g1 k (cL S t 40))) → (w = 2 → v = nI (hBn (S.1 41) g2 k (cL S t 40))) → q (some (tc_I v)) S2 := by
            intro v v0 v1 v2
            refine h _ _ (fun q2 h2 => mod S2 hR2 e41 q2 (fun S3 hm hR3 => ?_))
            have hmi := hm.2.2 k (by omega)
            rw [e41, hml] at hmi
            unfold fmX11_bin_26
            rw [nI_clamp (by omega), hmi.1, hmi.2.1, hmi.2.2.1]
            refine ⟨fun z => absurd z nout, fun z => ⟨hin, ?_⟩, fun z => ⟨hin, ?_⟩, fun z => ⟨hin, ?_⟩, fun z3 => absurd z3 z, fun z4 => absurd z4 z2, trivial⟩
            · rw [← v0 (eqw (j := 0) (by decide) z)]; exact h2 _ hR3
            · rw [← v1 (eqw (j := 1) (by decide) z)]; exact h2 _ hR3
            · rw [← v2 (eqw (j := 2) (by decide) z)]; exact h2 _ hR3
          unfold fmX10_bin_83
          rw [nI_clamp (by omega), hbi.1, hbi.2.1, hbi.2.2.1]
          refine ⟨fun z0 => ⟨hin, fin _ (fun _ => rfl) (fun e => ?_) (fun e => ?_)⟩, fun z0 => ⟨fun z1 => ⟨hin, fin _ (fun e => ?_) (fun _ => rfl) (fun e => ?_)⟩, fun z1 => ⟨hin, fin _ (fun e => ?_) (fun e => ?_) (fun _ => rfl)⟩⟩⟩
          · have := eqw (j := 0) (by decide) z0; omega
          · have := eqw (j := 0) (by decide) z0; omega
          · exact absurd (by rw [e]; rfl) z0
          · have := eqw (j := 1) (by decide) z1; omega
          · exact absurd (by rw [e]; rfl) z0
          · exact absurd (by rw [e]; rfl) z1
    · refine sgX10_bin_15 (h_b0 (h _ _ (fun q2 h2 => inX11_bin (fun P2 => m_any1 ht (sgX11_bin_4 (h_b1 (m_cuts (sgX11_bin_13 (m_within0 (by omega) nk (sgX11_bin_16 (h_b0 (h2 _ hR)))))))))))) 
theorem s_countState {v : Int32} (h : q (some (tc_I (nI (hCt (fun e => decide (S.1 16 e = v)) 40)))) S) : RX1_countState [tc_R 0 1, tc_I v] S q := by
  refine inX1_countState (fun P h4 h23 => ?_)
  have loop : ∀ d n, n + d = 40 → P 4 [(0, tc_R 0 1), (1, tc_I v), (2, tc_I (nI (hCt (fun e => decide (S.1 16 e = v)) n))), (3, tc_I (nI n))] [] S := by
    intro d
    induction d with
    | zero =>
      intro n hn
      have e : n = 40 := by omega
      subst e
      exact h4 _ _ _ _ ⟨fun _ => h, fun z => absurd (nI_le (Nat.le_refl 40) (by decide)) z⟩
    | succ d ih =>
      intro n hn
      have ih' := ih (n + 1) (by omega)
      rw [nI_succ n] at ih'
      refine h4 _ _ _ _ ⟨fun z => absurd z (nI_ge (show n < 40 by omega) (by decide)), fun _ => ?_⟩
      rw [nI_clamp (by omega)]
      refine ⟨vp_in_nI (by omega) (by decide), fun z => h23 _ _ _ _ ?_, fun z => h23 _ _ _ _ ?_⟩
      · rw [hCt_t (by simp [z]), nI_succ (hCt _ _)] at ih'
        exact ih'
      · rw [hCt_f (by simp [z])] at ih'
        exact ih'
  exact loop 40 0 rfl
theorem s_countTold (h : q (some (tc_I (nI (hCt (fun i => decide (¬ S.1 14 i = -9)) 160)))) S) : RX1_countTold [tc_R 0 1] S q := by
  refine inX1_countTold (fun P h4 h27 => ?_)
  have loop : ∀ d n, n + d = 160 → P 4 [(0, tc_R 0 1), (1, tc_I (nI (hCt (fun i => decide (¬ S.1 14 i = -9)) n))), (2, tc_I (nI n))] [] S := by
    intro d
    induction d with
    | zero =>
      intro n hn
      have e : n = 160 := by omega
      subst e
      exact h4 _ _ _ ⟨fun _ => h, fun z => absurd (nI_le (Nat.le_refl 160) (by decide)) z⟩
    | succ d ih =>
      intro n hn
      have ih' := ih (n + 1) (by omega)
      rw [nI_succ n] at ih'
      refine h4 _ _ _ ⟨fun z => absurd z (nI_ge (show n < 160 by omega) (by decide)), fun _ => ?_⟩
      rw [nI_clamp (by omega)]
      refine ⟨vp_in_nI (by omega) (by decide), fun z => h27 _ _ _ ?_, fun z => h27 _ _ _ ?_⟩
      · rw [hCt_f (by simp [z])] at ih'
        exact ih'
      · rw [hCt_t (by simp [z]), nI_succ (hCt _ _)] at ih'
        exact ih'
  exact loop 160 0 rfl
/-- the cases of tellers below n -/
def hAll (f : Nat → Nat) : Nat → Nat
  | 0 => 0
  | n + 1 => hAll f n + f n
theorem s_countCases (hb : cB S) (h : q (some (tc_I (nI (hAll (fun t => (cL S t 40).length) 4)))) S) : RX1_countCases [tc_R 0 1] S q := by
  refine inX1_countCases (fun P h4 h11 h29 => ?_)
  have loop : ∀ d n, n + d = 4 → P 4 [(0, tc_R 0 1), (1, tc_I (nI (hAll (fun t => (cL S t 40).length) n))), (2, tc_I (nI n))] [] S := by
    intro d
    induction d with
    | zero =>
      intro n hn
      have e : n = 4 := by omega
      subst e
      exact h4 _ _ _ ⟨fun _ => h, fun z => absurd (nI_le (Nat.le_refl 4) (by decide)) z⟩
    | succ d ih =>
      intro n hn
      have ih' := ih (n + 1) (by omega)
      rw [nI_succ n] at ih'
      refine h4 _ _ _ ⟨fun z => absurd z (nI_ge (show n < 4 by omega) (by decide)), fun _ => ?_⟩
      have loop2 : ∀ d2 m, m + d2 = 40 → P 11 [(0, tc_R 0 1), (1, tc_I (nI (hAll (fun t => (cL S t 40).length) n + (cL S n m).length))), (2, tc_I (nI n)), (3, tc_I (nI m))] [] S := by
        intro d2
        induction d2 with
        | zero =>
          intro m hm
          have e : m = 40 := by omega
          subst e
          exact h11 _ _ _ _ ⟨fun _ => ih', fun z => absurd (nI_le (Nat.le_refl 40) (by decide)) z⟩
        | succ d2 ih2 =>
          intro m hm
          have ih2' := ih2 (m + 1) (by omega)
          rw [nI_succ m] at ih2'
          refine h11 _ _ _ _ ⟨fun z => absurd z (nI_ge (show m < 40 by omega) (by decide)), fun _ => s_case hb (by omega) (by omega) (fun g => sgX1_countCases_23 (h_b0 (h29 _ _ _ _ ?_))) (fun g => sgX1_countCases_23 (h_b1 (h29 _ _ _ _ ?_)))⟩
          · have e : cL S n (m + 1) = cL S n m := by simp only [hL, if_pos g]
            rw [e] at ih2'
            exact ih2'
          · have e : (cL S n (m + 1)).length = (cL S n m).length + 1 := by
              simp only [hL, if_neg g, List.length_append]
              rfl
            rw [e, ← Nat.add_assoc, nI_succ (hAll _ _ + _)] at ih2'
            exact ih2'
      exact loop2 40 0 rfl
  exact loop 4 0 rfl
theorem hCt_app (p : Nat → Bool) (a : Nat) : ∀ d, hCt p (a + d) = hCt p a + hCt (fun i => p (a + i)) d := by
  intro d
  induction d with
  | zero => rfl
  | succ d ih =>
    rw [show a + (d + 1) = (a + d) + 1 by omega]
    simp only [hCt, ih]
    omega
theorem p_many (hR : Rel S) (h : ∀ (x9 : Int32) S1, (∀ q2 : tc_Q, (∀ S2, Rel S2 → q2 (some (tc_I x9)) S2) → RX11_many [tc_R 0 34, tc_I x1] S1 q2) → q (some (tc_I x9)) S1) : RX10_many [tc_R 0 0, tc_I x1] S q := by
  have hb := hR.2.1
  have hm := hR.mb
  have mod : ∀ q2 : tc_Q, (∀ P : Nat → tc_B, (((x1 < 0 ∨ 5 < x1) → q2 (some (tc_I (-2))) S) ∧ (x1 = 0 → q2 (some (tc_I (nI (hCt (fun e => decide (S.1 16 e = 1)) 40)))) S) ∧ (x1 = (0 + 1) → q2 (some (tc_I (nI (hCt (fun e => decide (S.1 16 e = 2)) 40)))) S) ∧ (x1 = ((0 + 1) + 1) → q2 (some (tc_I (nI (hCt (fun i => decide (¬ S.1 14 i = -9)) 160)))) S) ∧ (x1 = (((0 + 1) + 1) + 1) → q2 (some (tc_I (S.1 2 1))) S) ∧ (x1 = ((((0 + 1) + 1) + 1) + 1) → q2 (some (tc_I (S.1 5 1))) S) ∧ (x1 = (((((0 + 1) + 1) + 1) + 1) + 1) → q2 (some (tc_I (nI (hAll (fun t => (cL S t 40).length) 4)))) S))) → RX11_many [tc_R 0 34, tc_I x1] S q2 := by
    intro q2 h2
    refine inX11_many (fun P h13 h37 h56 h67 h76 h108 => ?_)
    obtain ⟨y0, y1, y2, y3, y4, y5, y6⟩ := h2 P
    have loop3 : ∀ d n, n + d = 4 → P 67 [(0, tc_R 0 34), (1, tc_I x1), (2, tc_I (nI (hCt (fun e => decide (S.1 16 e = 1)) 40))), (3, tc_I (nI (hCt (fun e => decide (S.1 16 e = 2)) 40))), (4, tc_I (nI (hCt (fun i => decide (¬ S.1 14 i = -9)) (n * 40)))), (5, tc_I (nI (hAll (fun t => (cL S t 40).length) n))), (6, tc_I (nI n))] [] S := by
      intro d
      induction d with
      | zero =>
        intro n hn
        have e : n = 4 := by omega
        subst e
        refine h67 _ _ _ _ _ _ _ ⟨fun _ => ⟨y0, y1, y2, y3, fun z => ?_, fun z => m_cuts (sgX11_many_188 ?_), y6, trivial⟩, fun z => absurd (nI_le (Nat.le_refl 4) (by decide)) z⟩
        · rw [hR.2.2.1.2.1]
          exact y4 z
        · unfold fmX11_many_188
          rw [← hR.2.2.2.2.1.2.2.1]
          exact y5 z
      | succ d ih =>
        intro n hn
        have ih' := ih (n + 1) (by omega)
        rw [nI_succ n, show (n + 1) * 40 = n * 40 + 40 by omega, hCt_app] at ih'
        refine h67 _ _ _ _ _ _ _ ⟨fun z => absurd z (nI_ge (show n < 4 by omega) (by decide)), fun _ => ?_⟩
        have loop4 : ∀ d2 m, m + d2 = 40 → P 76 [(0, tc_R 0 34), (1, tc_I x1), (2, tc_I (nI (hCt (fun e => decide (S.1 16 e = 1)) 40))), (3, tc_I (nI (hCt (fun e => decide (S.1 16 e = 2)) 40))), (4, tc_I (nI (hCt (fun i => decide (¬ S.1 14 i = -9)) (n * 40) + hCt (fun i => decide (¬ S.1 14 (n * 40 + i) = -9)) m))), (5, tc_I (nI (hAll (fun t => (cL S t 40).length) n))), (6, tc_I (nI n)), (7, tc_I (nI m))] [] S := by
          intro d2
          induction d2 with
          | zero =>
            intro m hm2
            have e : m = 40 := by omega
            subst e
            refine h76 _ _ _ _ _ _ _ _ ⟨fun _ => m_cases hm (by omega) (sgX11_many_125 ?_), fun z => absurd (nI_le (Nat.le_refl 40) (by decide)) z⟩
            unfold fmX11_many_125
            rw [hR.cl, nI_add]
            exact ih'
          | succ d2 ih2 =>
            intro m hm2
            have ih2' := ih2 (m + 1) (by omega)
            rw [nI_succ m] at ih2'
            refine h76 _ _ _ _ _ _ _ _ ⟨fun z => absurd z (nI_ge (show m < 40 by omega) (by decide)), fun _ => ?_⟩
            rw [h_ixb, nI_clamp (by omega), hR.1.1]
            refine ⟨vp_in_nI (by omega) (by decide), fun z => h108 _ _ _ _ _ _ _ _ _ ?_, fun z => h108 _ _ _ _ _ _ _ _ _ ?_⟩
            · rw [hCt_f (p := fun i => decide (¬ S.1 14 (n * 40 + i) = -9)) (by simp [z])] at ih2'
              unfold fmX11_many_108
              rw [Int32.add_zero]
              exact ih2'
            · rw [hCt_t (p := fun i => decide (¬ S.1 14 (n * 40 + i) = -9)) (by simp [z]), ← Nat.add_assoc, nI_succ (hCt _ _ + hCt _ _)] at ih2'
              exact ih2'
        exact loop4 40 0 rfl
    have loop1 : ∀ d n, n + d = 40 → P 13 [(0, tc_R 0 34), (1, tc_I x1), (2, tc_I (nI (hCt (fun e => decide (S.1 16 e = 1)) n))), (3, tc_I (nI (hCt (fun e => decide (S.1 16 e = 2)) n))), (4, tc_I 0), (5, tc_I 0), (6, tc_I (nI n))] [] S := by
      intro d
      induction d with
      | zero =>
        intro n hn
        have e : n = 40 := by omega
        subst e
        exact h13 _ _ _ _ _ _ _ ⟨fun _ => loop3 4 0 rfl, fun z => absurd (nI_le (Nat.le_refl 40) (by decide)) z⟩
      | succ d ih =>
        intro n hn
        have ih' := ih (n + 1) (by omega)
        rw [nI_succ n] at ih'
        refine h13 _ _ _ _ _ _ _ ⟨fun z => absurd z (nI_ge (show n < 40 by omega) (by decide)), fun _ => ?_⟩
        have step : ∀ v : Int32, v = nI (if S.1 16 n = 1 then 1 else 0) → P 37 [(0, tc_R 0 34), (1, tc_I x1), (3, tc_I (nI (hCt (fun e => decide (S.1 16 e = 2)) n))), (4, tc_I 0), (5, tc_I 0), (6, tc_I (nI n))] [tc_I v, tc_I (nI (hCt (fun e => decide (S.1 16 e = 1)) n))] S := by
          intro v hv
          have e1 : nI (hCt (fun e => decide (S.1 16 e = 1)) n) + v = nI (hCt (fun e => decide (S.1 16 e = 1)) (n + 1)) := by
            rw [hv, nI_add]
            simp only [hCt, decide_eq_true_eq]
          refine h37 _ _ _ _ _ _ _ _ ?_
          unfold fmX11_many_37
          rw [nI_clamp (by omega), e1, hR.1.2.2]
          refine ⟨vp_in_nI (by omega) (by decide), fun z => h56 _ _ _ _ _ _ _ _ ?_, fun z => h56 _ _ _ _ _ _ _ _ ?_⟩
          · rw [hCt_t (p := fun e => decide (S.1 16 e = 2)) (by simp [z]), nI_succ (hCt (fun e => decide (S.1 16 e = 2)) n)] at ih'
            exact ih'
          · rw [hCt_f (p := fun e => decide (S.1 16 e = 2)) (by simp [z])] at ih'
            unfold fmX11_many_56
            rw [Int32.add_zero]
            exact ih'
        rw [nI_clamp (by omega), hR.1.2.2]
        exact ⟨vp_in_nI (by omega) (by decide), fun z => step 1 (by rw [if_pos z]; rfl), fun z => step 0 (by rw [if_neg z]; rfl)⟩
    exact loop1 40 0 rfl
  have out : ∀ {j : Nat}, j < 6 → x1 = nI j → ¬ (x1 < 0 ∨ (5 : Int32) < x1) := by
    intro j hj e z
    rw [e] at z
    rcases z with z | z
    · exact nI_pos (by omega) z
    · exact nI_nlt (show j ≤ 5 by omega) (by decide) z
  have ne : ∀ {j k : Nat}, j < 6 → k < 6 → x1 = nI j → x1 = nI k → j = k := fun hj hk e1 e2 => (nI_eq (by omega) (by omega)).mp (e1.symm.trans e2)
  refine inX10_many (fun P => ⟨fun z => h _ _ (fun q2 h2 => mod q2 (fun _ => ⟨fun _ => h2 _ hR, fun e => ?_, fun e => ?_, fun e => ?_, fun e => ?_, fun e => ?_, fun e => ?_⟩)), fun z => s_countState (sgX10_many_48 (h _ _ (fun q2 h2 => mod q2 (fun _ => ⟨fun e => ?_, fun _ => h2 _ hR, fun e => ?_, fun e => ?_, fun e => ?_, fun e => ?_, fun e => ?_⟩)))), fun z => s_countState (sgX10_many_57 (h _ _ (fun q2 h2 => mod q2 (fun _ => ⟨fun e => ?_, fun e => ?_, fun _ => h2 _ hR, fun e => ?_, fun e => ?_, fun e => ?_, fun e => ?_⟩)))), fun z => s_countTold (sgX10_many_65 (h _ _ (fun q2 h2 => mod q2 (fun _ => ⟨fun e => ?_, fun e => ?_, fun e => ?_, fun _ => h2 _ hR, fun e => ?_, fun e => ?_, fun e => ?_⟩)))), fun z => h _ _ (fun q2 h2 => mod q2 (fun _ => ⟨fun e => ?_, fun e => ?_, fun e => ?_, fun e => ?_, fun _ => h2 _ hR, fun e => ?_, fun e => ?_⟩)), fun z => h _ _ (fun q2 h2 => mod q2 (fun _ => ⟨fun e => ?_, fun e => ?_, fun e => ?_, fun e => ?_, fun e => ?_, fun _ => h2 _ hR, fun e => ?_⟩)), fun z => s_countCases hb (sgX10_many_89 (h _ _ (fun q2 h2 => mod q2 (fun _ => ⟨fun e => ?_, fun e => ?_, fun e => ?_, fun e => ?_, fun e => ?_, fun e => ?_, fun _ => h2 _ hR⟩)))), trivial⟩)
  all_goals first
    | exact absurd z (out (j := 0) (by decide) e)
    | exact absurd z (out (j := 1) (by decide) e)
    | exact absurd z (out (j := 2) (by decide) e)
    | exact absurd z (out (j := 3) (by decide) e)
    | exact absurd z (out (j := 4) (by decide) e)
    | exact absurd z (out (j := 5) (by decide) e)
    | exact absurd e (out (j := 0) (by decide) z)
    | exact absurd e (out (j := 1) (by decide) z)
    | exact absurd e (out (j := 2) (by decide) z)
    | exact absurd e (out (j := 3) (by decide) z)
    | exact absurd e (out (j := 4) (by decide) z)
    | exact absurd e (out (j := 5) (by decide) z)
    | exact absurd (e.symm.trans z) (by decide)
end HBIN
