/-! flat -/
def pE (st : List hP) (i : Nat) : hP := (st.reverse[i]?).getD (0, 0, 0, 0)
def pC (st : List hP) (i : Nat) : Nat := (pE st i).2.2.1
def pF (st : List hP) (i : Nat) : Int := (((pE st i).2.2.2 * ((pE st i).2.2.1 - (pE st i).2.2.2) : Nat) : Int)
theorem pE_mem {st : List hP} {i : Nat} (h : i < st.length) : st.reverse[i]? = some (pE st i) ∧ pE st i ∈ st := by
  have h1 : i < st.reverse.length := by simp; exact h
  have e : st.reverse[i]? = some (st.reverse[i]'h1) := List.getElem?_eq_getElem h1
  have e2 : pE st i = st.reverse[i]'h1 := by unfold pE; rw [e]; rfl
  rw [e2]
  exact ⟨e, List.mem_reverse.mp (List.getElem_mem h1)⟩
theorem pC_sum (st : List hP) : hSu (pC st) st.length = (st.map (fun a => a.2.2.1)).sum := by
  induction st with
  | nil => rfl
  | cons a r ih =>
    simp only [List.length_cons, hSu, List.map_cons, List.sum_cons, ← ih]
    rw [Nat.add_comm]
    congr 1
    · unfold pC pE
      rw [List.reverse_cons, List.getElem?_append_right (by simp), List.length_reverse, Nat.sub_self]
      rfl
    · refine hSu_congr _ (fun k hk => ?_)
      unfold pC pE
      rw [List.reverse_cons, List.getElem?_append_left (by simp; exact hk)]
theorem h_nsub {a b : Nat} (h : b ≤ a) : nI a - nI b = nI (a - b) := (Int32.ofNat_sub a b h).symm
theorem pF_le {st : List hP} {N : Nat} (hk : hPk st N) {i : Nat} (hi : i < st.length) : (pF st i).natAbs ≤ 1 * pC st i * pC st i := by
  have := hk.1 _ (pE_mem hi).2
  unfold pF pC
  rw [Int.natAbs_natCast, Nat.one_mul]
  exact Nat.mul_le_mul (by omega) (by omega)
section HFLAT
variable {q : tc_Q} {S : tc_S} {x1 x2 x3 : Int32} {t n N : Nat}
theorem s_findFlat {st : List hP} (hp1 : S.1 6 6 = nI st.length) (hp2 : hPr (S.1 29) (S.1 30) (S.1 31) (S.1 32) st) (hk : hPk st N) (hN : N ≤ 40) (hn0 : 0 < n) (hn : n ≤ 40) (h : ∀ S', hS [7] S S' → hF7 S' (hQ (pF st) (pC st) st.length / (n : Rat)) → q none S') : RX7_findFlat [tc_R 0 6, tc_I (nI n), tc_R 0 7] S q := by
  have hlen := hPk_len hk
  have hsum : hSu (pC st) st.length ≤ 40 := by rw [pC_sum, hk.2]; exact hN
  have hPl := hPi_lt hsum
  have hP0 := hPi_pos (pC st) st.length
  have hI := rI_Q (f := pF st) (c := pC st) (K := st.length) (b := 1) (fun k hk2 => pF_le hk hk2)
  have hsm : ∀ j, j ≤ st.length → hSu (pC st) j ≤ 40 := by
    intro j hj
    have : ∀ d, hSu (pC st) j ≤ hSu (pC st) (j + d) := by
      intro d
      induction d with
      | zero => exact Nat.le_refl _
      | succ d ih =>
        have e : hSu (pC st) (j + (d + 1)) = hSu (pC st) (j + d) + pC st (j + d) := rfl
        omega
    have := this (st.length - j)
    rw [show j + (st.length - j) = st.length by omega] at this
    omega
  refine inX7_findFlat (fun P h8 => ?_)
  have loop : ∀ d i S', i + d = st.length → hS [7] S S' → hF7 S' (hQ (pF st) (pC st) i) → P 8 [(0, tc_R 0 6), (1, tc_I (nI n)), (2, tc_R 0 7), (3, tc_I (nI i))] [] S' := by
    intro d
    induction d with
    | zero =>
      intro i S' hi hs hf
      have e : i = st.length := by omega
      subst e
      refine h8 _ _ _ ?_
      unfold fmX7_findFlat_8
      rw [hs.1 6 (by decide), hp1, nI_l (by omega)]
      refine ⟨fun _ => s_divI7 hf (hI _ (Nat.le_refl _)) hP0 hn0 ?_ ?_ (sgX7_findFlat_61 (h _ (hs.tr (hP7_s _ _) (by decide) (by decide)) (hF7_put _ _))), fun z => absurd (nI_le (Nat.le_refl _) (by omega)) z⟩
      · have := Nat.mul_le_mul (show hPi (pC st) st.length ≤ 2300000 by omega) hn
        omega
      · have := Nat.mul_le_mul (show 1 * hSu (pC st) st.length ≤ 40 by omega) (show hPi (pC st) st.length ≤ 2300000 by omega)
        omega
    | succ d ih =>
      intro i S' hi hs hf
      have hil : i < st.length := by omega
      obtain ⟨e1, e2⟩ := pE_mem hil
      obtain ⟨v0, v1, v2, v3⟩ := hp2 i _ e1
      have hm := hk.1 _ e2
      have hmN := hPk_mem hk e2
      refine h8 _ _ _ ?_
      unfold fmX7_findFlat_8
      rw [hs.1 6 (by decide), hp1, nI_clamp (by omega), hs.1 31 (by decide), hs.1 32 (by decide), v2, v3, h_nsub hm.2, nI_l (by omega), nI_l (by omega), nI_l (by omega), nI_l (by omega), lN_mul, lN_lI (_ * _), show (((pE st i).2.2.2 * ((pE st i).2.2.1 - (pE st i).2.2.2) : Nat) : Int) = pF st i from rfl, show (pE st i).2.2.1 = pC st i from rfl]
      have hin : vp_in (nI i) 40 := vp_in_nI (by omega) (by decide)
      refine ⟨fun z => absurd z (nI_ge hil (by omega)), fun _ => ⟨hin, hin, hin, hin, ?_⟩⟩
      have hs1 := hsm i (by omega)
      have hc : pC st i ≤ 40 := by unfold pC; omega
      have hc0 : 0 < pC st i := by unfold pC; omega
      have hdv := hPi_dvd (c := pC st) (k := i) st.length hil hc0
      have hle := pF_le hk hil
      have hB : (1 * hSu (pC st) i + 1 * pC st i) * hPi (pC st) st.length < 2 ^ 63 := by
        have := Nat.mul_le_mul (show 1 * hSu (pC st) i + 1 * pC st i ≤ 80 by omega) (show hPi (pC st) st.length ≤ 2300000 by omega)
        omega
      have hgo : P 8 [(0, tc_R 0 6), (1, tc_I (nI n)), (2, tc_R 0 7), (3, tc_I (nI i + 1))] [] (hP7 S' (hQ (pF st) (pC st) i + mkRat (pF st i) (pC st i))) := by
        have := ih (i + 1) _ (by omega) (hs.tr (hP7_s S' (hQ (pF st) (pC st) i + mkRat (pF st i) (pC st i))) (by decide) (by decide)) (hF7_put _ _)
        rw [nI_succ i] at this
        exact this
      refine s_addI7 hf (hI i (by omega)) hdv hP0 (by omega) hle hB (fun _ => ?_)
      exact sgX7_findFlat_49 hgo
  refine s_become7 (u := 0) (d := 1) (by decide) (by decide) (by decide) (sgX7_findFlat_6 (loop st.length 0 _ (by omega) (hP7_s _ _) ?_))
  have := hF7_put S (mkRat 0 1)
  rw [Rat.zero_mkRat] at this ⊢
  exact this
theorem m_noF (h : q none (mP S 0)) : RX11_noFraction [tc_R 0 34] S q := inX11_noFraction (fun _ => h)
theorem m_flatLoop {st : List hP} {j : Nat} (hj : j < 2) (hp1 : S.1 34 20 = nI st.length) (hp2 : hPr (S.1 47) (S.1 48) (S.1 49) (S.1 50) st) (hk : hPk st N) (hN : N ≤ 40) (hn0 : 0 < n) (hn : n ≤ 40) (P : Nat → tc_B) (h47 : ∀ (x2 : Int32) (y3 : Int64) (x5 : Int32) (S : tc_S), fmX11_flat_47 P q x2 y3 x5 S → P 47 [(0, tc_R 0 34), (2, tc_I x2), (3, tc_J y3), (5, tc_I x5)] [] S) (h : ∀ S', hS [34] S S' → S'.1 = S.1 → q (some (tc_J (hPick (hQ (pF st) (pC st) st.length / (n : Rat)) j))) S') : ∀ d i S', i + d = st.length → hS [34] S S' → S'.1 = S.1 → mF S' (hQ (pF st) (pC st) i / (n : Rat)) → P 47 [(0, tc_R 0 34), (2, tc_I (nI j)), (3, tc_J (lN n)), (5, tc_I (nI i))] [] S' := by
  have hlen := hPk_len hk
  have hsum : hSu (pC st) st.length ≤ 40 := by rw [pC_sum, hk.2]; exact hN
  have hPl := hPi_lt hsum
  have hP0 := hPi_pos (pC st) st.length
  have hI := rI_Q (f := pF st) (c := pC st) (K := st.length) (b := 1) (fun k hk2 => pF_le hk hk2)
  have hsm : ∀ j, j ≤ st.length → hSu (pC st) j ≤ 40 := by
    intro j hj
    have : ∀ d, hSu (pC st) j ≤ hSu (pC st) (j + d) := by
      intro d
      induction d with
      | zero => exact Nat.le_refl _
      | succ d ih =>
        have e : hSu (pC st) (j + (d + 1)) = hSu (pC st) (j + d) + pC st (j + d) := rfl
        omega
    have := this (st.length - j)
    rw [show j + (st.length - j) = st.length by omega] at this
    omega
  intro d
  induction d with
  | zero =>
    intro i S' hi hs h1 hf
    have e : i = st.length := by omega
    subst e
    refine h47 _ _ _ _ ?_
    unfold fmX11_flat_47
    rw [h1, hp1]
    exact ⟨fun _ => m_part hf hj (sgX11_flat_106 (h S' hs h1)), fun z => absurd (nI_le (Nat.le_refl _) (by omega)) z⟩
  | succ d ih =>
    intro i S' hi hs h1 hf
    have hil : i < st.length := by omega
    obtain ⟨e1, e2⟩ := pE_mem hil
    obtain ⟨v0, v1, v2, v3⟩ := hp2 i _ e1
    have hm := hk.1 _ e2
    have hmN := hPk_mem hk e2
    refine h47 _ _ _ _ ?_
    unfold fmX11_flat_47
    rw [h1, hp1, nI_clamp (by omega), v2, v3, h_nsub hm.2, nI_l (by omega), nI_l (by omega), nI_l (by omega), lN_mul, lN_mul, lN_lI ((pE st i).2.2.2 * _), show (((pE st i).2.2.2 * ((pE st i).2.2.1 - (pE st i).2.2.2) : Nat) : Int) = pF st i from rfl, show (pE st i).2.2.1 = pC st i from rfl]
    have hin : vp_in (nI i) 101 := vp_in_nI (by omega) (by decide)
    refine ⟨fun z => absurd z (nI_ge hil (by omega)), fun _ => ⟨hin, hin, hin, hin, ?_⟩⟩
    have hs1 := hsm i (by omega)
    have hc : pC st i ≤ 40 := by unfold pC; omega
    have hc0 : 0 < pC st i := by unfold pC; omega
    have hle := pF_le hk hil
    have hle2 : (pF st i).natAbs ≤ 40 * (pC st i * n) := by
      have a1 := Nat.mul_le_mul_right (pC st i) (show 1 * pC st i ≤ 40 by omega)
      have a2 := Nat.mul_le_mul_left (40 * pC st i) (show 1 ≤ n by omega)
      rw [Nat.mul_one, Nat.mul_assoc] at a2
      omega
    have hi2 : rI (hQ (pF st) (pC st) i / (n : Rat)) (hPi (pC st) st.length * n) 40 := rI_div (hI i (by omega)) (by
      have := Nat.mul_le_mul_left 40 (show 1 ≤ n by omega)
      omega)
    have hD0 : 0 < hPi (pC st) st.length * n := Nat.mul_pos hP0 hn0
    have hd0 : 0 < pC st i * n := Nat.mul_pos hc0 hn0
    have hB : (40 + 40) * (hPi (pC st) st.length * n * (pC st i * n)) < 2 ^ 63 := by
      have a1 := Nat.mul_le_mul (show hPi (pC st) st.length ≤ 2300000 by omega) hn
      have a2 := Nat.mul_le_mul hc hn
      have := Nat.mul_le_mul a1 a2
      omega
    have er : hQ (pF st) (pC st) i / (n : Rat) + mkRat (pF st i) (pC st i * n) = hQ (pF st) (pC st) (i + 1) / (n : Rat) := by
      rw [h_mkdiv, Rat.div_def, Rat.div_def, ← Rat.add_mul, ← Rat.div_def]
      rfl
    refine m_addsI hf hi2 hD0 hd0 hle2 (by decide) hB (sgX11_flat_95 ?_)
    rw [er]
    have := ih (i + 1) _ (by omega) (hs.tr (mP_s S' (hQ (pF st) (pC st) (i + 1) / (n : Rat))) (by decide) (by decide)) h1 (mF_put _ _)
    rw [nI_succ i] at this
    exact this
theorem p_flat (hR : Rel S) (h : ∀ (x9 : Int64) S1, (∀ q2 : tc_Q, (∀ S2, Rel S2 → q2 (some (tc_J x9)) S2) → RX11_flat [tc_R 0 34, tc_I x1, tc_I x2] S1 q2) → q (some (tc_J x9)) S1) : RX10_flat [tc_R 0 0, tc_I x1, tc_I x2] S q := by
  refine inX10_flat (fun P => ?_)
  cases b1 : hr 5 x1 with
  | false =>
    have n1 := hr_f (by decide) b1
    exact s_teller0 n1 (sgX10_flat_4 (h_b0 (h _ _ (fun q2 h2 => inX11_flat (fun _ _ => m_any0 n1 (sgX11_flat_4 (h_b0 (h2 _ hR))))))))
  | true =>
    obtain ⟨t, ht, rfl⟩ := hr_t (by decide) b1
    refine s_teller1 ht (sgX10_flat_4 (h_b1 ?_))
    cases b2 : hr 2 x2 with
    | false =>
      have n2 := hr_f (by decide) b2
      exact s_which0 n2 (sgX10_flat_11 (h_b0 (h _ _ (fun q2 h2 => inX11_flat (fun _ _ => m_any1 ht (sgX11_flat_4 (h_b1 (m_within0 (n := 1) (by decide) n2 (sgX11_flat_13 (h_b0 (h2 _ hR)))))))))))
    | true =>
      obtain ⟨j, hj, rfl⟩ := hr_t (by decide) b2
      refine s_which1 hj (sgX10_flat_11 (h_b1 (s_gather hR.2.1 ht (fun S' hg => sgX10_flat_30 ?_))))
      have hR' : Rel S' := hR.fr (hg.1.wk (by decide)) (by rw [hg.1.1 34 (by decide)]) (by rw [hg.1.1 34 (by decide)])
      have hm : mL S' t 40 = cL S t 40 := by rw [hR'.cl, hg.1.cL (by decide) (by decide) (by decide)]
      have hc := cG_cC hR.2.1 ht hg
      generalize cL S t 40 = l at hg hm hc
      have hlen := hc.1
      unfold fmX10_flat_30
      rw [hc.2.2.1]
      refine ⟨fun z => ?_, fun z => ?_⟩
      · have hl0 : l.length = 0 := (nI_eq (by omega) (by decide)).mp z
        refine h _ _ (fun q2 h2 => inX11_flat (fun _ _ => m_any1 ht (sgX11_flat_4 (h_b1 (m_within1 (n := 1) (by decide) hj (sgX11_flat_13 (h_b1 (m_cases hR'.mb ht (sgX11_flat_21 ?_)))))))))
        rw [hm, hl0]
        exact h_b0 (h2 _ hR')
      · have hl0 : 0 < l.length := by
          rcases Nat.eq_zero_or_pos l.length with g | g
          · exact absurd (by rw [g]; rfl) z
          · exact g
        refine s_fill hc (fun S2 hp => sgX10_flat_55 ?_)
        have hok := hPs_ok l 101
        have hle := hLt_le l 101
        unfold fmX10_flat_55
        rw [hp.1.1 4 (by decide), hc.2.2.1]
        refine s_findFlat hp.2.1 hp.2.2 hok (by omega) hl0 hlen (fun S3 hs3 hf => sgX10_flat_73 (s_pick hf hj (sgX10_flat_81 (h _ _ (fun q2 h2 => ?_)))))
        have hs : hS hScr S' S3 := hp.1.tr hs3 (by decide) (by decide)
        have e34 : S3.1 34 = S'.1 34 := by rw [hs3.1 34 (by decide), hp.1.1 34 (by decide)]
        have hR3 : Rel S3 := hR'.fr hs (by rw [e34]) (by rw [e34])
        have hm3 : mL S3 t 40 = l := by rw [hs.mL (by decide) (by decide) (by decide), hm]
        refine inX11_flat (fun P47 h47 => m_any1 ht (sgX11_flat_4 (h_b1 (m_within1 (n := 1) (by decide) hj (sgX11_flat_13 (h_b1 (m_cases hR3.mb ht (sgX11_flat_21 ?_))))))))
        unfold fmX11_flat_21
        rw [hm3]
        refine ⟨fun z2 => absurd z2 z, fun _ => m_findPools hR3.mb ht (fun S4 hp4 => sgX11_flat_33 ?_)⟩
        rw [hm3] at hp4
        have hR4 := hR3.fr (hp4.1.wk (by decide)) hp4.2.1.1 hp4.2.1.2
        have hm4 : mL S4 t 40 = l := by rw [hp4.1.mL (by decide) (by decide) (by decide), hm3]
        refine m_cases hR4.mb ht (sgX11_flat_38 (m_noF (sgX11_flat_44 ?_)))
        unfold fmX11_flat_44
        rw [hm4, nI_l (by omega)]
        refine m_flatLoop (S := S4) hj hp4.2.2.1 hp4.2.2.2 hok (by omega) hl0 hlen P47 h47 (fun S5 hs5 e5 => h2 _ (hR4.fr (hs5.wk (by decide)) (by rw [e5]) (by rw [e5]))) (hPs l 101).length 0 _ (by omega) (mP_s _ _) rfl ?_
        have := mF_put S4 0
        simp only [hQ, Rat.div_def, Rat.zero_mul]
        exact this
end HFLAT
