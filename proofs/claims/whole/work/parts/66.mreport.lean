/-! report in the model -/
theorem hWm_r : ∀ r, r < 4 → hWm (6 + r) = hWd r := by decide
def mT (S S' : tc_S) : Prop := hS [34, 51] S S' ∧ S'.1 34 4 = S.1 34 4 ∧ S'.1 34 9 = S.1 34 9
theorem mT.tr {S S1 S2 : tc_S} (h1 : mT S S1) (h2 : mT S1 S2) : mT S S2 := ⟨h1.1.tt h2.1, h2.2.1.trans h1.2.1, h2.2.2.trans h1.2.2⟩
theorem mS.t {S S' : tc_S} (h : mS S S') : mT S S' := ⟨h.1, h.2.2.1, h.2.2.2⟩
section MREPORT
variable {q : tc_Q} {S : tc_S} {x1 x2 : Int32} {t r p : Nat}
theorem m_writesReport (hb : mB S) (hr4 : r < 4) (hru : S.1 34 9 = nI r) (hg : ∀ i x, hSg[i]? = some x → S.1 39 i = x) (ht : t < 5) (h : ∀ S', mT S S' → mX S' (hTx r t (mL S t 40)) → q none S') : RX11_writesReport [tc_R 0 34, tc_I (nI t)] S q := by
  refine inX11_writesReport (fun P h27 h129 h137 h175 h191 h195 h196 h222 h225 => ?_)
  have s0 : mT S (tc_ui S 34 29 0) := ⟨(hS.rf _ S).ui (by decide), by simp only [h_row, reduceIte, h_updE, Nat.reduceEqDiff], by simp only [h_row, reduceIte, h_updE, Nat.reduceEqDiff]⟩
  have x0 : mX (tc_ui S 34 29 0) [] := ⟨by simp only [h_row, reduceIte, h_updE]; rfl, fun i a ha => by simp at ha⟩
  have hwl := hWd_le r (by omega)
  have hml := hTm_len r (mL S t 40)
  have hcl : ∀ n, (mL S t n).length ≤ n := hL_len (S.1 35) (S.1 37) (S.1 36) t
  have hc40 := hcl 40
  have tail : ∀ S6, mT S S6 → mX S6 ([84] ++ [48 + nI t] ++ [32] ++ hWd r ++ [32] ++ hTm r (mL S t 40)) → P 129 [(0, tc_R 0 34), (1, tc_I (nI t))] [] S6 := by
    intro S6 s6 x6
    refine h129 _ _ (m_put x6 (by simp; omega) (fun S7 s7 x7 => sgX11_writesReport_135 ?_))
    have loop : ∀ d n S', n + d = 40 → mT S S' → mX S' ([84] ++ [48 + nI t] ++ [32] ++ hWd r ++ [32] ++ hTm r (mL S t 40) ++ [32] ++ (mL S t n).map hSi) → P 137 [(0, tc_R 0 34), (1, tc_I (nI t)), (2, tc_I (nI n))] [] S' := by
      intro d
      induction d with
      | zero =>
        intro n S' hn hs hx
        have e : n = 40 := by omega
        subst e
        exact h137 _ _ _ ⟨fun _ => h S' hs hx, fun z => absurd (nI_le (Nat.le_refl 40) (by decide)) z⟩
      | succ d ih =>
        intro n S' hn hs hx
        have hn40 : n < 40 := by omega
        have hb' := hs.1.mB (by decide) (by decide) (by decide) hb
        have e35 := hs.1.1 35 (by decide)
        have e36 := hs.1.1 36 (by decide)
        have e37 := hs.1.1 37 (by decide)
        refine h137 _ _ _ ⟨fun z => absurd z (nI_ge hn40 (by decide)), fun _ => m_case hb' ht hn40 (fun g => sgX11_writesReport_149 (h_b0 (h225 _ _ _ ?_))) (fun g => sgX11_writesReport_149 (h_b1 (m_told hb' ht hn40 (sgX11_writesReport_158 ?_))))⟩
        · rw [e35, e36, e37] at g
          have := ih (n + 1) S' (by omega) hs (by rw [mL_no g]; exact hx)
          rw [nI_succ n] at this
          exact this
        · rw [e35, e36, e37] at g
          obtain ⟨p, hp, e8, e9⟩ := mL_yes hb ht hn40 g
          have g0 : ¬ S.1 36 n = 0 := fun z => g (Or.inl z)
          have st2 := h_st2 hb hn40 g0
          have hln := hcl n
          have fin : ∀ x, x = hSi (p, decide (S.1 36 n = 1)) → P 222 [(0, tc_R 0 34), (1, tc_I (nI t)), (2, tc_I (nI n))] [tc_I x, tc_R 0 34] S' := by
            intro x ex
            refine h222 _ _ _ _ (m_put hx (by simp; omega) (fun S8 s8 x8 => h225 _ _ _ ?_))
            have := ih (n + 1) S8 (by omega) (hs.tr s8.t) (by
              rw [e9, List.map_append, ← List.append_assoc, List.map_singleton, ← ex]
              exact x8)
            rw [nI_succ n] at this
            exact this
          unfold fmX11_writesReport_158
          rw [e35, e37, e8, nI_clamp (by omega), e36]
          have hin : vp_in (nI n) 40 := vp_in_nI hn40 (by decide)
          have good : ¬ p = 50 → decide (50 < p) = decide (S.1 36 n = 1) → P 191 [(0, tc_R 0 34), (1, tc_I (nI t)), (2, tc_I (nI n)), (3, tc_I (nI p))] [] S' := by
            intro g1 g2
            refine h191 _ _ _ _ (h196 _ _ _ _ _ ⟨fun z => absurd ((nI_eq (b := 50) (by omega) (by decide)).mp z) g1, fun _ => h_b1 (fin _ ?_)⟩)
            unfold hSi
            rw [if_neg g1, if_pos g2]
          have bad : (¬ p = 50 → ¬ decide (50 < p) = decide (S.1 36 n = 1)) → P 195 [(0, tc_R 0 34), (1, tc_I (nI t)), (2, tc_I (nI n)), (3, tc_I (nI p))] [] S' := by
            intro g2
            refine h195 _ _ _ _ (h196 _ _ _ _ _ ⟨fun z => fin _ ?_, fun z => h_b0 (fin _ ?_)⟩)
            · unfold hSi
              rw [if_pos ((nI_eq (b := 50) (by omega) (by decide)).mp z)]
            · have g1 : ¬ p = 50 := fun e => z (by rw [e]; rfl)
              unfold hSi
              rw [if_neg g1, if_neg (g2 g1)]
          have at175 : (50 < p → ¬ S.1 36 n = 1) → P 175 [(0, tc_R 0 34), (1, tc_I (nI t)), (2, tc_I (nI n)), (3, tc_I (nI p))] [] S' := by
            intro g1
            refine h175 _ _ _ _ ⟨fun z => bad (fun g2 => ?_), fun z => ⟨hin, ?_⟩⟩
            · have z1 := (nI_leI (a := 50) (by decide) (by omega)).mp z
              have z2 : 50 < p := by omega
              simp [z2, g1 z2]
            · have z1 : p < 50 := by
                rcases Nat.lt_or_ge p 50 with g2 | g2
                · exact g2
                · exact absurd (nI_le g2 (by omega)) z
              rw [nI_clamp (by omega), e36]
              refine ⟨fun z2 => good (by omega) ?_, fun z2 => bad (fun _ => ?_)⟩
              · have := st2.mp z2
                simp [this]
                omega
              · have : S.1 36 n = 1 := Decidable.not_not.mp (fun g3 => z2 (st2.mpr g3))
                simp [this]
                omega
          refine ⟨fun z => at175 (fun g1 => ?_), fun z => ⟨hin, fun z2 => ?_, fun z2 => at175 (fun _ => z2)⟩⟩
          · have := (nI_leI (b := 50) (by omega) (by decide)).mp z
            omega
          · have z1 : 50 < p := by
              rcases Nat.lt_or_ge 50 p with g2 | g2
              · exact g2
              · exact absurd (nI_le g2 (by decide)) z
            exact good (by omega) (by simp [z1, z2])
    exact loop 40 0 S7 rfl (s6.tr s7.t) (by simpa [hL] using x7)
  refine m_put x0 (by simp) (fun S1 s1 x1 => sgX11_writesReport_11 (m_put x1 (by simp) (fun S2 s2 x2 => sgX11_writesReport_19 (m_put x2 (by simp) (fun S3 s3 x3 => sgX11_writesReport_25 ?_)))))
  have s03 : mT S S3 := ((s0.tr s1.t).tr s2.t).tr s3.t
  have wl : ∀ d i S', i + d = (hWd r).length → mT S S' → mX S' ([84] ++ [48 + nI t] ++ [32] ++ (hWd r).take i) → P 27 [(0, tc_R 0 34), (1, tc_I (nI t)), (2, tc_I (nI i))] [] S' := by
    intro d
    induction d with
    | zero =>
      intro i S' hi hs hx
      have hg' : ∀ i x, hSg[i]? = some x → S'.1 39 i = x := by rw [hs.1.1 39 (by decide)]; exact hg
      have e9 : S'.1 34 9 = nI r := hs.2.2.trans hru
      rw [List.take_of_length_le (by omega)] at hx
      refine h27 _ _ _ ?_
      unfold fmX11_writesReport_27
      rw [e9, show (6 : Int32) = nI 6 from rfl, nI_add]
      refine m_wordLong (by omega) hg' (sgX11_writesReport_39 ?_)
      rw [hWm_r r hr4]
      refine ⟨fun _ => m_put hx (by simp; omega) (fun S4 s4 x4 => sgX11_writesReport_75 ?_), fun z => absurd (nI_le (by omega) (by omega)) z⟩
      have s04 : mT S S4 := hs.tr s4.t
      have hb4 := s04.1.mB (by decide) (by decide) (by decide) hb
      have hm4 : mL S4 t 40 = mL S t 40 := s04.1.mL (by decide) (by decide) (by decide) t 40
      refine m_cases hb4 ht (sgX11_writesReport_80 ?_)
      rw [hm4]
      refine ⟨fun z => ?_, fun z => ?_⟩
      · have hl := (nI_eq (b := 0) (by omega) (by decide)).mp z
        refine m_put x4 (by simp; omega) (fun S5 s5 x5 => sgX11_writesReport_89 (tail S5 (s04.tr s5.t) ?_))
        unfold hTm
        rw [if_pos hl]
        exact x5
      · have hl : 0 < (mL S t 40).length := by
          rcases Nat.eq_zero_or_pos (mL S t 40).length with g | g
          · exact absurd (by rw [g]; rfl) z
          · exact g
        have hru4 : S4.1 34 9 = nI r := s04.2.2.trans hru
        refine m_misses hb4 ht hr4 hru4 (sgX11_writesReport_98 (m_cases hb4 ht (sgX11_writesReport_103 ?_)))
        have hms : hMS r (mL S t 40) ≤ 40000000 := by
          have := hMS_le (r := r) (l := mL S t 40) (hL_ok hb ht 40 (Nat.le_refl 40))
          omega
        obtain ⟨m1, m2, m3⟩ := h_mean hl hc40 hms
        unfold fmX11_writesReport_103
        rw [hm4, nI_l (by omega), lN_lI (hMS _ _)]
        refine m_frac (by omega) hl (by omega) (sgX11_writesReport_107 ?_)
        generalize hS5 : mP S4 (mkRat (hMS r (mL S t 40)) (mL S t 40).length) = S5
        have s5 : mT S4 S5 := by rw [← hS5]; exact ⟨(mP_s _ _).wk (by decide), rfl, rfl⟩
        have x5 : mX S5 ([84] ++ [48 + nI t] ++ [32] ++ hWd r ++ [32]) := by rw [← hS5]; exact x4
        have hf : mF S5 (mkRat (hMS r (mL S t 40)) (mL S t 40).length) := by rw [← hS5]; exact mF_put _ _
        unfold fmX11_writesReport_107
        rw [hf.1, m1]
        refine m_putNumber m2 x5 (by simp; omega) (fun S6 s6 x6 => sgX11_writesReport_115 ?_)
        have n7 := hDn_len (mkRat (hMS r (mL S t 40)) (mL S t 40).length).num.natAbs
        refine m_put x6 (by simp; omega) (fun S7 s7 x7 => sgX11_writesReport_121 ?_)
        have l7 : S7.2.1 34 11 = S5.2.1 34 11 := by rw [s7.2.1, s6.2.1]
        unfold fmX11_writesReport_121
        rw [l7, hf.2]
        refine m_putNumber m3 x7 (by simp; omega) (fun S8 s8 x8 => tail S8 ((((s04.tr s5).tr s6.t).tr s7.t).tr s8.t) ?_)
        unfold hTm
        rw [if_neg (by omega)]
        simp only [List.append_assoc] at x8 ⊢
        exact x8
    | succ d ih =>
      intro i S' hi hs hx
      have hg' : ∀ i x, hSg[i]? = some x → S'.1 39 i = x := by rw [hs.1.1 39 (by decide)]; exact hg
      have e9 : S'.1 34 9 = nI r := hs.2.2.trans hru
      have hat := hWm_at (6 + r) (by omega) i (by omega)
      refine h27 _ _ _ ?_
      unfold fmX11_writesReport_27
      rw [e9, show (6 : Int32) = nI 6 from rfl, nI_add]
      refine m_wordLong (by omega) hg' (sgX11_writesReport_39 ?_)
      unfold fmX11_writesReport_39
      rw [hWm_r r hr4, e9, show (6 : Int32) = nI 6 from rfl, nI_add, h_mul, nI_add, nI_clamp (by omega), hg' _ _ hat, hWm_r r hr4]
      refine ⟨fun z => absurd z (nI_ge (by omega) (by omega)), fun _ => ⟨vp_in_nI (by omega) (by decide), m_put hx (by simp; omega) (fun S4 s4 x4 => sgX11_writesReport_63 ?_)⟩⟩
      have hat2 : (hWd r)[i]? = some ((hWd r).getD i 0) := by
        rw [List.getD_eq_getElem?_getD, List.getElem?_eq_getElem (by omega)]
        rfl
      rw [List.append_assoc, ← h_take hat2] at x4
      have := ih (i + 1) S4 (by omega) (hs.tr s4.t) x4
      rw [nI_succ i] at this
      exact this
  exact wl _ 0 S3 (Nat.zero_add _) s03 (by simpa using x3)
theorem p_report (hR : Rel S) (h : ∀ (x9 : Int32) S1, (∀ q2 : tc_Q, (∀ S2, Rel S2 → q2 (some (tc_I x9)) S2) → RX11_report [tc_R 0 34, tc_I x1, tc_I x2] S1 q2) → q (some (tc_I x9)) S1) : RX10_report [tc_R 0 0, tc_I x1, tc_I x2] S q := by
  refine inX10_report (fun P => ?_)
  cases b1 : hr 5 x1 with
  | false =>
    have n1 := hr_f (by decide) b1
    exact s_teller0 n1 (sgX10_report_4 (h_b0 (h _ _ (fun q2 h2 => inX11_report (fun _ => m_any0 n1 (sgX11_report_4 (h_b0 (h2 _ hR))))))))
  | true =>
    obtain ⟨t, ht, rfl⟩ := hr_t (by decide) b1
    refine s_teller1 ht (sgX10_report_4 (h_b1 ⟨fun z => ?_, fun z => ⟨fun z2 => ?_, fun z2 => ?_⟩⟩))
    · exact h _ _ (fun q2 h2 => inX11_report (fun _ => m_any1 ht (sgX11_report_4 (h_b1 (inX11_within (fun _ => ⟨fun _ => ⟨h_n0, sgX11_report_16 (h_b0 (h2 _ hR))⟩, fun z3 => absurd z z3⟩))))))
    · obtain ⟨r1, r2⟩ := hR.2.2.2.1
      refine s_writeReport hR.2.1 r1 ht (fun S1 s1 x1 => sgX10_report_28 ?_)
      have hR1 : Rel S1 := hR.fr (s1.wk (by decide)) (by rw [s1.1 34 (by decide)]) (by rw [s1.1 34 (by decide)])
      have hm1 : mL S1 t 40 = cL S t 40 := by rw [hR1.cl, s1.cL (by decide) (by decide) (by decide)]
      have hlen : (hTx S.2.2 t (cL S t 40)).length ≤ 100 := by
        have a1 := hWd_le S.2.2 (by omega)
        have a2 := hTm_len S.2.2 (cL S t 40)
        have a3 : (cL S t 40).length ≤ 40 := hL_len (S.1 14) (S.1 15) (S.1 16) t 40
        unfold hTx
        simp only [List.length_append, List.length_singleton, List.length_map]
        omega
      generalize hT : hTx S.2.2 t (cL S t 40) = T at x1 hlen
      have mod : ∀ q2 : tc_Q, (∀ S2, Rel S2 → mX S2 T → fmX11_report_27 P q2 (nI t) x2 S2) → RX11_report [tc_R 0 34, tc_I (nI t), tc_I x2] S1 q2 := by
        intro q2 h2
        refine inX11_report (fun _ => m_any1 ht (sgX11_report_4 (h_b1 (inX11_within (fun _ => ⟨fun z3 => absurd z3 z, fun _ => ⟨fun z3 => ?_, fun _ => ⟨h_n1, sgX11_report_16 (h_b1 (m_writesReport hR1.mb r1 (by rw [s1.1 34 (by decide)]; exact r2) hR1.2.2.2.2.2.2 ht (fun S2 s2 x2 => sgX11_report_27 ?_)))⟩⟩⟩)))))
        · exfalso
          rw [Int32.lt_iff_toInt_lt] at z2 z3
          have e1 : (99 : Int32).toInt = 99 := rfl
          have e2 : (100 : Int32).toInt = 100 := rfl
          omega
        · rw [hm1, hT] at x2
          exact h2 S2 (hR1.fr (s2.1.wk (by decide)) s2.2.1 s2.2.2) x2
      unfold fmX10_report_28
      rw [x1.1]
      have h01 : (0 : Int32) ≤ -1 → False := by decide
      refine ⟨fun e => h _ _ (fun q2 h2 => mod q2 (fun S2 hR2 x2 => ?_)), fun e => ?_⟩
      · refine ⟨fun z3 => absurd (by rw [e] at z3; exact z3) h01, fun _ => ?_⟩
        rw [x2.1]
        exact h2 _ hR2
      · have hx0 : ¬ x2 < 0 := by
          intro z3
          rw [Int32.lt_iff_toInt_lt] at z z3
          have e1 : (-1 : Int32).toInt = -1 := rfl
          have e2 : (0 : Int32).toInt = 0 := rfl
          exact e (Int32.toInt_inj.mp (by omega))
        obtain ⟨k, hk0, rfl⟩ := nI_of hx0
        have hk : k < 100 := (nI_ltI (b := 100) hk0 (by decide)).mp z2
        have zk : (0 : Int32) ≤ nI k := nI_le (a := 0) (Nat.zero_le k) hk0
        have hin : vp_in (nI k) 100 := vp_in_nI hk (by decide)
        refine ⟨fun z3 => h _ _ (fun q2 h2 => mod q2 (fun S2 hR2 x2 => ⟨fun _ => ⟨fun _ => h2 _ hR2, fun z4 => ?_⟩, fun z4 => absurd zk z4⟩)), fun z3 => ⟨hin, ?_⟩⟩
        · exact absurd (by rw [x2.1]; exact z3) z4
        · have hkT : k < T.length := by
            rcases Nat.lt_or_ge k T.length with g | g
            · exact g
            · exact absurd (nI_le g (by omega)) z3
          have eT : T[k]? = some T[k] := List.getElem?_eq_getElem hkT
          rw [nI_clamp hk0, x1.2 k _ eT]
          refine h _ _ (fun q2 h2 => mod q2 (fun S2 hR2 x2 => ⟨fun _ => ⟨fun z4 => absurd (by rw [← x2.1]; exact z4) z3, fun _ => ⟨hin, ?_⟩⟩, fun z4 => absurd zk z4⟩))
          rw [nI_clamp hk0, x2.2 k _ eT]
          exact h2 _ hR2
    · refine h _ _ (fun q2 h2 => inX11_report (fun _ => m_any1 ht (sgX11_report_4 (h_b1 (inX11_within (fun _ => ⟨fun z3 => absurd z3 z, fun _ => ⟨fun _ => ⟨h_n0, sgX11_report_16 (h_b0 (h2 _ hR))⟩, fun z3 => ?_⟩⟩))))))
      exfalso
      refine z2 ?_
      rw [Int32.lt_iff_toInt_lt] at z3 ⊢
      have e1 : (99 : Int32).toInt = 99 := rfl
      have e2 : (100 : Int32).toInt = 100 := rfl
      omega
end MREPORT
