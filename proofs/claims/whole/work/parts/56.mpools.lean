/-! pools in the model -/
theorem h_sub2 {p : Nat} : nI (p + 2) - 2 = nI p := by
  have := (Int32.ofNat_sub (p + 2) 2 (by omega)).symm
  rw [show p + 2 - 2 = p by omega] at this
  exact this
theorem h_mlt {a b c d : Nat} (ha : a ≤ 40) (hb : b ≤ 40) (hc : c ≤ 40) (hd : d ≤ 40) : nI a * nI b < nI c * nI d ↔ ¬ c * d ≤ a * b := by
  rw [← h_mle hc hd ha hb]
  exact ⟨fun h1 h2 => absurd h1 (Int32.not_lt.mpr h2), fun h1 => Int32.not_le.mp h1⟩
section MPOOL
variable {q : tc_Q} {S : tc_S} {x1 x2 x3 : Int32} {t : Nat}
def mPo (S S' : tc_S) (st : List hP) : Prop := hS [34, 47, 48, 49, 50] S S' ∧ (S'.1 34 4 = S.1 34 4 ∧ S'.1 34 9 = S.1 34 9) ∧ S'.1 34 20 = nI st.length ∧ hPr (S'.1 47) (S'.1 48) (S'.1 49) (S'.1 50) st
theorem m_mergeLoop {S0 : tc_S} {N : Nat} (hN : N ≤ 40) (P : Nat → tc_B) (h156 : ∀ (x1 x2 : Int32) (S : tc_S), fmX11_findPools_156 P q x1 x2 S → P 156 [(0, tc_R 0 34), (1, tc_I x1), (2, tc_I x2)] [] S) : ∀ (r : List hP) (b : hP) (S : tc_S), hPk (b :: r) N → mPo S0 S (b :: r) → (∀ S', mPo S0 S' (hMg b r) → P 184 [(0, tc_R 0 34), (1, tc_I x1), (2, tc_I x2)] [] S') → P 156 [(0, tc_R 0 34), (1, tc_I x1), (2, tc_I x2)] [] S := by
  intro r
  induction r with
  | nil =>
    intro b S hk hp hq
    refine h156 _ _ _ ?_
    unfold fmX11_findPools_156
    rw [hp.2.2.1]
    exact ⟨fun _ => hq S hp, fun z => absurd (nI_le (Nat.le_refl 1) (by decide)) z⟩
  | cons a r ih =>
    intro b S hk hp hq
    have hlen := hPk_len hk
    simp only [List.length_cons] at hlen
    have tb := hPr_top hp.2.2.2
    have ta := hPr_top (hPr_pop hp.2.2.2)
    have hb := hk.1 b (by simp)
    have ha := hk.1 a (by simp)
    have mb := hPk_mem hk (a := b) (by simp)
    have ma := hPk_mem hk (a := a) (by simp)
    have e20 := hp.2.2.1
    simp only [List.length_cons] at tb e20 ⊢
    have e2 : S.1 34 20 - 2 = nI r.length := by rw [e20]; exact h_sub2
    have i1 : vp_in (nI (r.length + 1)) 101 := vp_in_nI (by omega) (by decide)
    have i0 : vp_in (nI r.length) 101 := vp_in_nI (by omega) (by decide)
    refine h156 _ _ _ ⟨fun z => absurd ((nI_leI (b := 1) (show r.length + 1 + 1 < 2 ^ 31 by omega) (by decide)).mp (by rw [← e20]; exact z)) (by omega), fun _ => ?_⟩
    rw [e2]
    refine inX11_isFlat (fun P2 => ?_)
    unfold fmX11_isFlat_0
    rw [nI_1, nI_clamp (by omega), nI_clamp (by omega), tb.2.2.2, ta.2.2.1, ta.2.2.2, tb.2.2.1, h_mlt (by omega) (by omega) (by omega) (by omega)]
    refine ⟨i1, i0, i0, i1, fun z => ⟨h_n0, sgX11_findPools_174 (h_b0 (hq S ?_))⟩, fun z => ⟨h_n1, sgX11_findPools_174 (h_b1 (inX11_joinsLast (fun P3 => ?_)))⟩⟩
    · simp only [hMg, if_neg z]
      exact hp
    · unfold fmX11_joinsLast_0
      rw [e2, nI_1, nI_clamp (by omega), nI_clamp (by omega)]
      simp only [h_row, Nat.reduceEqDiff, reduceIte, tb.2.1, ta.2.2.1, tb.2.2.1, ta.2.2.2, tb.2.2.2, nI_add, e20, nI_pred]
      refine ⟨i1, i0, i0, i1, i0, i0, i1, i0, sgX11_findPools_181 ?_⟩
      unfold fmX11_findPools_181
      refine ih (hJn a b) _ (hPk_join hk) ⟨(((hp.1.ui (by decide)).ui (by decide)).ui (by decide)).ui (by decide), ⟨?_, ?_⟩, ?_, ?_⟩ (fun S' hp' => hq S' ?_)
      · simp only [h_row, Nat.reduceEqDiff, reduceIte, h_updE]
        exact hp.2.1.1
      · simp only [h_row, Nat.reduceEqDiff, reduceIte, h_updE]
        exact hp.2.1.2
      · simp only [h_row, Nat.reduceEqDiff, reduceIte, h_updE, List.length_cons]
      · simp only [h_row, Nat.reduceEqDiff, reduceIte]
        exact hPr_join hp.2.2.2
      · simp only [hMg, if_pos (Decidable.not_not.mp z)]
        exact hp'
theorem m_findPools (hb : mB S) (ht : t < 5) (h : ∀ S', mPo S S' (hPs (mL S t 40) 101) → q none S') : RX11_findPools [tc_R 0 34, tc_I (nI t)] S q := by
  refine inX11_findPools (fun P h7 h21 h53 h54 h67 h91 h92 h156 h184 => ?_)
  have hlen : ∀ n, (mL S t n).length ≤ n := hL_len (S.1 35) (S.1 37) (S.1 36) t
  have inner : ∀ (S' : tc_S), hS [34, 47, 48, 49, 50] S S' → ∀ p, p ≤ 100 → P 21 [(0, tc_R 0 34), (1, tc_I (nI t)), (2, tc_I (nI p)), (3, tc_I (nI (hPc (mL S t 40) p))), (4, tc_I (nI (hPy (mL S t 40) p))), (5, tc_I (nI 40))] [] S' → ∀ d n, n + d = 40 → P 21 [(0, tc_R 0 34), (1, tc_I (nI t)), (2, tc_I (nI p)), (3, tc_I (nI (hPc (mL S t n) p))), (4, tc_I (nI (hPy (mL S t n) p))), (5, tc_I (nI n))] [] S' := by
    intro S' hs p hp hend d
    induction d with
    | zero =>
      intro n hn
      have e : n = 40 := by omega
      subst e
      exact hend
    | succ d ih =>
      intro n hn
      have ih' := ih (n + 1) (by omega)
      rw [nI_succ n] at ih'
      have hn40 : n < 40 := by omega
      have hb' := hs.mB (by decide) (by decide) (by decide) hb
      have e35 := hs.1 35 (by decide)
      have e36 := hs.1 36 (by decide)
      have e37 := hs.1 37 (by decide)
      have to92 : ∀ (v a : Int32), a = nI (hPc (mL S t (n + 1)) p) → nI (hPy (mL S t n) p) + v = nI (hPy (mL S t (n + 1)) p) → P 92 [(0, tc_R 0 34), (1, tc_I (nI t)), (2, tc_I (nI p)), (3, tc_I a), (5, tc_I (nI n))] [tc_I v, tc_I (nI (hPy (mL S t n) p))] S' := by
        intro v a ha hv
        refine h92 _ _ _ _ _ _ _ ?_
        unfold fmX11_findPools_92
        rw [ha, hv]
        exact ih'
      have no : hPc (mL S t (n + 1)) p = hPc (mL S t n) p → hPy (mL S t (n + 1)) p = hPy (mL S t n) p → P 53 [(0, tc_R 0 34), (1, tc_I (nI t)), (2, tc_I (nI p)), (3, tc_I (nI (hPc (mL S t n) p))), (4, tc_I (nI (hPy (mL S t n) p))), (5, tc_I (nI n))] [] S' := by
        intro e1 e2
        refine h53 _ _ _ _ _ _ (h54 _ _ _ _ _ _ _ (h_b0 (h67 _ _ _ _ _ _ _ _ (h_b0 (h91 _ _ _ _ _ _ (to92 _ _ ?_ ?_))))))
        · rw [e1, Int32.add_zero]
        · rw [e2, Int32.add_zero]
      refine h21 _ _ _ _ _ _ ⟨fun z => absurd z (nI_ge hn40 (by decide)), fun _ => m_case hb' ht hn40 (fun g => sgX11_findPools_35 (h_b0 (no ?_ ?_))) (fun g => sgX11_findPools_35 (h_b1 (m_told hb' ht hn40 (sgX11_findPools_45 ?_))))⟩
      · rw [e35, e36, e37] at g
        rw [mL_no g]
      · rw [e35, e36, e37] at g
        rw [mL_no g]
      · rw [e35, e36, e37] at g
        obtain ⟨c, hc, e8, e9⟩ := mL_yes hb ht hn40 g
        unfold fmX11_findPools_45
        rw [e35, e37, e8]
        refine ⟨fun z => ?_, fun z => no ?_ ?_⟩
        · have ec : c = p := (nI_eq (by omega) (by omega)).mp z
          subst ec
          refine h54 _ _ _ _ _ _ _ (h_b1 (h67 _ _ _ _ _ _ _ _ (h_b1 ⟨vp_in_nI hn40 (by decide), fun z2 => ?_, fun z2 => ?_⟩)))
          · rw [nI_clamp (by omega), e36] at z2
            refine to92 _ _ ?_ ?_
            · rw [e9, hPc_push, if_pos rfl]
              exact nI_1 _
            · rw [e9, hPy_push, if_pos ⟨rfl, by simp [z2]⟩]
              exact nI_1 _
          · rw [nI_clamp (by omega), e36] at z2
            refine h91 _ _ _ _ _ _ (to92 _ _ ?_ ?_)
            · rw [e9, hPc_push, if_pos rfl]
              exact nI_1 _
            · rw [e9, hPy_push, if_neg (fun g => z2 (by simpa using g.2)), Int32.add_zero]
              rfl
        · rw [e9, hPc_push, if_neg (fun ec => z (by rw [← ec]))]
          rfl
        · rw [e9, hPy_push, if_neg (fun ec => z (by rw [← ec.1]))]
          rfl
  have loop : ∀ d n S', n + d = 101 → mPo S S' (hPs (mL S t 40) n) → P 7 [(0, tc_R 0 34), (1, tc_I (nI t)), (2, tc_I (nI n))] [] S' := by
    intro d
    induction d with
    | zero =>
      intro n S' hn hp
      have e : n = 101 := by omega
      subst e
      exact h7 _ _ _ ⟨fun _ => h S' hp, fun z => absurd (nI_lt (show 100 < 101 by omega) (by decide)) z⟩
    | succ d ih =>
      intro n S' hn hp
      have hok := hPs_ok (mL S t 40) n
      have hln := hPk_len hok
      have hle := hLt_le (mL S t 40) (n + 1)
      have hsu := hLt_succ (mL S t 40) n
      have c40 := hlen 40
      have hpy := hPy_le (mL S t 40) n
      have i0 : vp_in (nI (hPs (mL S t 40) n).length) 101 := vp_in_nI (by omega) (by decide)
      refine h7 _ _ _ ⟨fun z => absurd z (nI_nlt (show n ≤ 100 by omega) (by decide)), fun _ => inner S' hp.1 n (by omega) (h21 _ _ _ _ _ _ ⟨fun _ => ⟨fun z => h184 _ _ _ ?_, fun z => ?_⟩, fun z => absurd (nI_le (Nat.le_refl 40) (by decide)) z⟩) 40 0 rfl⟩
      · have z0 := (nI_leI (b := 0) (by omega) (by decide)).mp z
        have := ih (n + 1) S' (by omega) (by simp only [hPs, if_pos (show hPc (mL S t 40) n = 0 by omega)]; exact hp)
        rw [nI_succ n] at this
        exact this
      · have zp : 0 < hPc (mL S t 40) n := by
          rcases Nat.eq_zero_or_pos (hPc (mL S t 40) n) with g | g
          · exact absurd (by rw [g]; exact nI_le (Nat.le_refl 0) (by decide)) z
          · exact g
        simp only [h_row, Nat.reduceEqDiff, reduceIte, hp.2.2.1, h_updE, nI_1]
        rw [nI_clamp (show (hPs (mL S t 40) n).length < 2 ^ 31 by omega)]
        refine ⟨i0, i0, i0, i0, ?_⟩
        refine m_mergeLoop (N := hPc (mL S t 40) n + hLt (mL S t 40) n) (S0 := S) (by omega) P h156 (hPs (mL S t 40) n) (n, n, hPc (mL S t 40) n, hPy (mL S t 40) n) _ ⟨fun a ha => ?_, ?_⟩ ⟨((((hp.1.ui (by decide)).ui (by decide)).ui (by decide)).ui (by decide)).ui (by decide), ⟨?_, ?_⟩, ?_, ?_⟩ (fun S2 hp2 => h184 _ _ _ ?_)
        · rcases List.mem_cons.mp ha with rfl | hm
          · exact ⟨zp, hpy⟩
          · exact hok.1 a hm
        · simp only [List.map_cons, List.sum_cons, hok.2]
        · simp only [h_row, Nat.reduceEqDiff, reduceIte, h_updE]
          exact hp.2.1.1
        · simp only [h_row, Nat.reduceEqDiff, reduceIte, h_updE]
          exact hp.2.1.2
        · simp only [h_row, Nat.reduceEqDiff, reduceIte, h_updE, List.length_cons]
        · simp only [h_row, Nat.reduceEqDiff, reduceIte]
          exact hPr_push (a := (n, n, hPc (mL S t 40) n, hPy (mL S t 40) n)) hp.2.2.2 rfl
        · have := ih (n + 1) S2 (by omega) (by simp only [hPs, if_neg (show ¬ hPc (mL S t 40) n = 0 by omega)]; exact hp2)
          rw [nI_succ n] at this
          exact this
  refine loop 101 0 _ rfl ⟨(hS.rf _ S).ui (by decide), ⟨?_, ?_⟩, ?_, fun i a ha => ?_⟩
  · simp only [h_row, Nat.reduceEqDiff, reduceIte, h_updE]
  · simp only [h_row, Nat.reduceEqDiff, reduceIte, h_updE]
  · simp only [h_row, Nat.reduceEqDiff, reduceIte, h_updE]
    rfl
  · simp [hPs] at ha
theorem p_pools (hR : Rel S) (h : ∀ (x9 : Int32) S1, (∀ q2 : tc_Q, (∀ S2, Rel S2 → q2 (some (tc_I x9)) S2) → RX11_pools [tc_R 0 34, tc_I x1] S1 q2) → q (some (tc_I x9)) S1) : RX10_pools [tc_R 0 0, tc_I x1] S q := by
  refine inX10_pools (fun P => ?_)
  cases b1 : hr 5 x1 with
  | false =>
    have n1 := hr_f (by decide) b1
    exact s_teller0 n1 (sgX10_pools_4 (h_b0 (h _ _ (fun q2 h2 => inX11_pools (fun _ => m_any0 n1 (sgX11_pools_4 (h_b0 (h2 _ hR))))))))
  | true =>
    obtain ⟨t, ht, rfl⟩ := hr_t (by decide) b1
    refine s_teller1 ht (sgX10_pools_4 (h_b1 (s_gather hR.2.1 ht (fun S' hg => sgX10_pools_21 (s_fill (cG_cC hR.2.1 ht hg) (fun S2 hp => sgX10_pools_32 ?_))))))
    have hs : hS hScr S S2 := hg.1.tr hp.1 (by decide) (by decide)
    have e34 : S2.1 34 = S.1 34 := by rw [hp.1.1 34 (by decide), hg.1.1 34 (by decide)]
    have hR' : Rel S2 := hR.fr hs (by rw [e34]) (by rw [e34])
    have hm : mL S2 t 40 = cL S t 40 := by rw [hR'.cl, hs.cL (by decide) (by decide) (by decide)]
    unfold fmX10_pools_32
    rw [hp.2.1]
    refine h _ _ (fun q2 h2 => inX11_pools (fun _ => m_any1 ht (sgX11_pools_4 (h_b1 (m_findPools hR'.mb ht (fun S3 hp3 => sgX11_pools_14 ?_))))))
    unfold fmX11_pools_14
    rw [hp3.2.2.1, hm]
    exact h2 _ (hR'.fr (hp3.1.wk (by decide)) hp3.2.1.1 hp3.2.1.2)
theorem m_withinP {n : Nat} (hn : n ≤ 40) (h1 : ∀ k, k < n → x2 = nI k → q (some (tc_I 1)) S) (h0 : ¬ hR n x2 → q (some (tc_I 0)) S) : RX11_within [tc_I x2, tc_I 0, tc_I (nI n - 1)] S q := by
  by_cases hx : hR n x2
  · obtain ⟨k, hk, rfl⟩ := hx
    obtain ⟨m, rfl⟩ : ∃ m, n = m + 1 := ⟨n - 1, by omega⟩
    rw [nI_pred]
    exact m_within1 (by omega) hk (h1 k hk rfl)
  · rcases Nat.eq_zero_or_pos n with g | g
    · subst g
      refine inX11_within (fun _ => ⟨fun _ => ⟨h_n0, h0 hx⟩, fun z => ⟨fun _ => ⟨h_n0, h0 hx⟩, fun z2 => ?_⟩⟩)
      exfalso
      obtain ⟨j, hj, rfl⟩ := nI_of z
      refine z2 ?_
      have e : (nI 0 - 1 : Int32) = -1 := by decide
      rw [e]
      have h3 : (-1 : Int32) < 0 := by decide
      exact Int32.lt_of_lt_of_le h3 (Int32.not_lt.mp z)
    · obtain ⟨m, rfl⟩ : ∃ m, n = m + 1 := ⟨n - 1, by omega⟩
      rw [nI_pred]
      exact m_within0 (by omega) hx (h0 hx)
theorem p_pool (hR : Rel S) (h : ∀ (x9 : Int32) S1, (∀ q2 : tc_Q, (∀ S2, Rel S2 → q2 (some (tc_I x9)) S2) → RX11_pool [tc_R 0 34, tc_I x1, tc_I x2, tc_I x3] S1 q2) → q (some (tc_I x9)) S1) : RX10_pool [tc_R 0 0, tc_I x1, tc_I x2, tc_I x3] S q := by
  refine inX10_pool (fun P => ?_)
  cases b1 : hr 5 x1 with
  | false =>
    have n1 := hr_f (by decide) b1
    exact s_teller0 n1 (sgX10_pool_4 (h_b0 (h _ _ (fun q2 h2 => inX11_pool (fun _ => m_any0 n1 (sgX11_pool_4 (h_b0 (h2 _ hR))))))))
  | true =>
    obtain ⟨t, ht, rfl⟩ := hr_t (by decide) b1
    refine s_teller1 ht (sgX10_pool_4 (h_b1 (s_gather hR.2.1 ht (fun S' hg => sgX10_pool_21 (s_fill (cG_cC hR.2.1 ht hg) (fun S2 hp => sgX10_pool_32 ?_))))))
    have hs : hS hScr S S2 := hg.1.tr hp.1 (by decide) (by decide)
    have e34 : S2.1 34 = S.1 34 := by rw [hp.1.1 34 (by decide), hg.1.1 34 (by decide)]
    have hR' : Rel S2 := hR.fr hs (by rw [e34]) (by rw [e34])
    have hm : mL S2 t 40 = cL S t 40 := by rw [hR'.cl, hs.cL (by decide) (by decide) (by decide)]
    have hln := hPk_len (hPs_ok (cL S t 40) 101)
    have hle := hLt_le (cL S t 40) 101
    have c40 : (cL S t 40).length ≤ 40 := hL_len (S.1 14) (S.1 15) (S.1 16) t 40
    generalize hst : hPs (cL S t 40) 101 = st at hp hln
    have hl40 : st.length ≤ 40 := by omega
    have mod : ∀ q2 : tc_Q, (∀ S3, mPo S2 S3 st → Rel S3 → (¬ (∃ k, k < st.length ∧ x2 = nI k) → q2 (some (tc_I (-1))) S3) ∧ (∀ k, k < st.length → x2 = nI k → fmX11_pool_25 P q2 (nI t) x2 x3 1 S3)) → RX11_pool [tc_R 0 34, tc_I (nI t), tc_I x2, tc_I x3] S2 q2 := by
      intro q2 h2
      refine inX11_pool (fun _ => m_any1 ht (sgX11_pool_4 (h_b1 (m_findPools hR'.mb ht (fun S3 hp3 => sgX11_pool_14 ?_)))))
      rw [hm, hst] at hp3
      obtain ⟨y0, y1⟩ := h2 S3 hp3 (hR'.fr (hp3.1.wk (by decide)) hp3.2.1.1 hp3.2.1.2)
      unfold fmX11_pool_14
      rw [hp3.2.2.1]
      exact m_withinP hl40 (fun k hk e => sgX11_pool_25 (y1 k hk e)) (fun g => sgX11_pool_25 (h_b0 (y0 g)))
    have none' : ¬ (∃ k, k < st.length ∧ x2 = nI k) → q (some (tc_I (-1))) S2 := fun g => h _ _ (fun q2 h2 => mod q2 (fun S3 _ hR3 => ⟨fun _ => h2 _ hR3, fun k hk e => absurd ⟨k, hk, e⟩ g⟩))
    unfold fmX10_pool_32
    rw [hp.2.1]
    refine ⟨fun z => none' (fun ⟨j, hj, e⟩ => nI_pos (show j < 2 ^ 31 by omega) (by rw [← e]; exact z)), fun z => ⟨fun z2 => ?_, fun z2 => none' (fun ⟨j, hj, e⟩ => z2 (by rw [e]; exact nI_lt hj (by omega)))⟩⟩
    obtain ⟨k, hk0, rfl⟩ := nI_of z
    have hk : k < st.length := (nI_ltI hk0 (by omega)).mp z2
    obtain ⟨a, ha⟩ : ∃ a, st.reverse[k]? = some a := ⟨st.reverse[k]'(by simp; omega), List.getElem?_eq_getElem (by simp; omega)⟩
    obtain ⟨v0, v1, v2, v3⟩ := hp.2.2 k a ha
    have out : (¬ ∃ w, w < 4 ∧ x3 = nI w) → q (some (tc_I (-2))) S2 := by
      intro g
      refine h _ _ (fun q2 h2 => mod q2 (fun S3 _ hR3 => ⟨fun g2 => absurd ⟨k, hk, rfl⟩ g2, fun k2 hk2 e => h_b1 ⟨fun _ => h2 _ hR3, fun e => absurd ⟨0, by decide, e⟩ g, fun e => absurd ⟨1, by decide, e⟩ g, fun e => absurd ⟨2, by decide, e⟩ g, fun e => absurd ⟨3, by decide, e⟩ g, trivial⟩⟩))
    have win : ∀ w, w < 4 → x3 = nI w → q (some (tc_I (if w = 0 then nI a.1 else if w = 1 then nI a.2.1 else if w = 2 then nI a.2.2.1 else nI a.2.2.2))) S2 := by
      intro w hw e
      refine h _ _ (fun q2 h2 => mod q2 (fun S3 hp3 hR3 => ⟨fun g2 => absurd ⟨k, hk, rfl⟩ g2, fun k2 hk2 e2 => h_b1 ?_⟩))
      obtain ⟨u0, u1, u2, u3⟩ := hp3.2.2.2 k a ha
      have i : vp_in (nI k) 101 := vp_in_nI (by omega) (by decide)
      have e3 : ∀ {j}, j < 4 → x3 = nI j → w = j := fun hj g => (nI_eq (by omega) (by omega)).mp (e.symm.trans g)
      rw [nI_clamp (by omega), u0, u1, u2, u3]
      refine ⟨fun z3 => ?_, fun g => ⟨i, ?_⟩, fun g => ⟨i, ?_⟩, fun g => ⟨i, ?_⟩, fun g => ⟨i, ?_⟩, trivial⟩
      · exfalso
        rw [e] at z3
        rcases z3 with z3 | z3
        · exact nI_pos (by omega) z3
        · exact nI_nlt (show w ≤ 3 by omega) (by decide) z3
      · have := h2 _ hR3
        rw [e3 (j := 0) (by decide) g] at this
        exact this
      · have := h2 _ hR3
        rw [e3 (j := 1) (by decide) g] at this
        exact this
      · have := h2 _ hR3
        rw [e3 (j := 2) (by decide) g] at this
        exact this
      · have := h2 _ hR3
        rw [e3 (j := 3) (by decide) g] at this
        exact this
    refine ⟨fun z3 => out (fun ⟨w, hw, e⟩ => nI_pos (show w < 2 ^ 31 by omega) (by rw [← e]; exact z3)), fun z3 => ⟨fun z4 => ?_, fun z4 => out (fun ⟨w, hw, e⟩ => z4 (by rw [e]; exact nI_le (show w ≤ 3 by omega) (by decide)))⟩⟩
    obtain ⟨w, hw0, rfl⟩ := nI_of z3
    have hw : w < 4 := by
      have := (nI_leI (b := 3) hw0 (by decide)).mp z4
      omega
    refine inX7_tellOf (fun P2 => ?_)
    have i : vp_in (nI k) 40 := vp_in_nI (by omega) (by decide)
    have wv := win w hw rfl
    unfold fmX7_tellOf_0
    rw [nI_clamp (by omega), v0, v1, v2, v3]
    refine ⟨fun g => ⟨i, sgX10_pool_70 ?_⟩, fun g0 => ⟨fun g => ⟨i, sgX10_pool_70 ?_⟩, fun g1 => ⟨fun g => ⟨i, sgX10_pool_70 ?_⟩, fun g2 => ⟨i, sgX10_pool_70 ?_⟩⟩⟩⟩
    · rw [if_pos ((nI_eq (b := 0) hw0 (by decide)).mp g)] at wv
      exact wv
    · rw [(nI_eq (b := 1) hw0 (by decide)).mp g] at wv
      exact wv
    · rw [(nI_eq (b := 2) hw0 (by decide)).mp g] at wv
      exact wv
    · rw [if_neg (fun e => g0 (by rw [e]; rfl)), if_neg (fun e => g1 (by rw [e]; rfl)), if_neg (fun e => g2 (by rw [e]; rfl))] at wv
      exact wv
end MPOOL
