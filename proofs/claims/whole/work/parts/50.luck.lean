/-! luck -/
def hCh (n : Nat) : Nat → Nat
  | 0 => 1
  | k + 1 => hCh n k * (n - k) / (k + 1)
theorem hCh_ok : ∀ n, n < 41 → ∀ k, k < n + 1 → hCh n (n - k) = hCh n k ∧ hCh n k < 2 ^ 40 := by decide +kernel
theorem h_shl : ∀ n, n < 41 → (1 : Int64) <<< ((nI n).toInt64 &&& 63) = lN (2 ^ n) := by decide +kernel
def hSm (f : Nat → Nat) (a : Nat) : Nat → Nat
  | 0 => 0
  | d + 1 => hSm f a d + f (a + d)
theorem hSm_front (f : Nat → Nat) : ∀ d a, hSm f a (d + 1) = f a + hSm f (a + 1) d := by
  intro d
  induction d with
  | zero => intro a; simp [hSm]
  | succ d ih =>
    intro a
    rw [show hSm f a (d + 1 + 1) = hSm f a (d + 1) + f (a + (d + 1)) from rfl, ih, show hSm f (a + 1) (d + 1) = hSm f (a + 1) d + f (a + 1 + d) from rfl, Nat.add_assoc, show a + (d + 1) = a + 1 + d by omega]
theorem hSm_le (f : Nat → Nat) (B a : Nat) : ∀ d, (∀ i, i < d → f (a + i) ≤ B) → hSm f a d ≤ d * B := by
  intro d
  induction d with
  | zero => intro _; simp [hSm]
  | succ d ih =>
    intro h
    have h1 := ih (fun i hi => h i (by omega))
    have h2 := h d (by omega)
    simp only [hSm, Nat.add_mul]
    omega
theorem h_m1 {h : Nat} (hh : h < 2 ^ 31) : nI h + (-1) < nI h := by
  rw [Int32.lt_iff_toInt_lt, Int32.toInt_add, nI_toInt hh]
  have e : (-1 : Int32).toInt = -1 := by decide
  rw [e]
  unfold Int.bmod
  simp only
  split <;> omega
section HLUCK
variable {q : tc_Q} {S : tc_S} {x1 x2 x3 : Int32} {t u n h0 : Nat}
theorem s_ways (hn : n < 41) (hh : h0 ≤ n) (h : q (some (tc_J (lN (hSm (hCh n) h0 (n + 1 - h0))))) S) : RX10_waysWithAtLeast [tc_I (nI h0), tc_I (nI n)] S q := by
  refine inX10_waysWithAtLeast (fun P h8 h45 => ?_)
  have stop : P 8 [(0, tc_I (nI h0)), (1, tc_I (nI n)), (2, tc_J (lN (hCh n (n - h0 + 1)))), (4, tc_J (lN (hSm (hCh n) h0 (n + 1 - h0)))), (6, tc_I (nI h0 + (-1)))] [] S := h8 _ _ _ _ _ _ ⟨fun _ => h45 _ _ h, fun z => absurd (h_m1 (by omega)) z⟩
  have loop : ∀ j k, k = h0 + j → k ≤ n → P 8 [(0, tc_I (nI h0)), (1, tc_I (nI n)), (2, tc_J (lN (hCh n (n - k)))), (4, tc_J (lN (hSm (hCh n) (k + 1) (n - k)))), (6, tc_I (nI k))] [] S := by
    intro j
    induction j with
    | zero =>
      intro k hk hkn
      have e : k = h0 := by omega
      subst e
      obtain ⟨c1, c2⟩ := hCh_ok n hn k (by omega)
      refine h8 _ _ _ _ _ _ ⟨fun z => absurd z (nI_nlt (Nat.le_refl k) (by omega)), fun _ => ⟨fun z => absurd z (nI_pos (by omega)), fun _ => ?_⟩⟩
      rw [show nI n - nI k = nI (n - k) from (Int32.ofNat_sub n k hkn).symm, nI_1, nI_l (by omega), nI_l (by omega), lN_add, lN_mul]
      refine ⟨l_ne0 (by omega) (by omega), ?_⟩
      rw [l_div (by rw [c1]; have : hCh n k * k ≤ 2 ^ 40 * 40 := Nat.mul_le_mul (by omega) (by omega); omega) (by omega)]
      have e2 : hCh n (n - k) * k / (n - k + 1) = hCh n (n - k + 1) := by
        show _ = hCh n (n - k) * (n - (n - k)) / (n - k + 1)
        rw [show n - (n - k) = k by omega]
      have e3 : hSm (hCh n) (k + 1) (n - k) + hCh n (n - k) = hSm (hCh n) k (n + 1 - k) := by
        rw [show n + 1 - k = n - k + 1 by omega, hSm_front, c1, Nat.add_comm]
      rw [e2, e3]
      exact stop
    | succ j ih =>
      intro k hk hkn
      obtain ⟨k', rfl⟩ : ∃ k', k = k' + 1 := ⟨k - 1, by omega⟩
      obtain ⟨c1, c2⟩ := hCh_ok n hn (k' + 1) (by omega)
      refine h8 _ _ _ _ _ _ ⟨fun z => absurd z (nI_nlt (show h0 ≤ k' + 1 by omega) (by omega)), fun _ => ⟨fun z => absurd z (nI_pos (by omega)), fun _ => ?_⟩⟩
      rw [show nI n - nI (k' + 1) = nI (n - (k' + 1)) from (Int32.ofNat_sub n (k' + 1) hkn).symm, nI_1, nI_l (by omega), nI_l (by omega), lN_add, lN_mul]
      refine ⟨l_ne0 (by omega) (by omega), ?_⟩
      rw [l_div (by rw [c1]; have : hCh n (k' + 1) * (k' + 1) ≤ 2 ^ 40 * 40 := Nat.mul_le_mul (by omega) (by omega); omega) (by omega)]
      have e2 : hCh n (n - (k' + 1)) * (k' + 1) / (n - (k' + 1) + 1) = hCh n (n - k') := by
        rw [show n - k' = n - (k' + 1) + 1 by omega]
        show _ = hCh n (n - (k' + 1)) * (n - (n - (k' + 1))) / (n - (k' + 1) + 1)
        rw [show n - (n - (k' + 1)) = k' + 1 by omega]
      have e3 : hSm (hCh n) (k' + 1 + 1) (n - (k' + 1)) + hCh n (n - (k' + 1)) = hSm (hCh n) (k' + 1) (n - k') := by
        rw [show n - k' = n - (k' + 1) + 1 by omega, hSm_front, c1, Nat.add_comm]
      have e4 : nI (k' + 1) + (-1) = nI k' := by
        rw [nI_succ]
        have : nI k' + 1 + (-1) = nI k' + (1 + (-1)) := Int32.add_assoc _ _ _
        rw [this]
        exact Int32.add_zero _
      rw [e2, e3, e4]
      exact ih k' (by omega) (by omega)
  have := loop (n - h0) n (by omega) (Nat.le_refl n)
  rw [Nat.sub_self] at this
  exact this
theorem m_choose {k : Nat} (hn : n < 41) (hk : k ≤ n) (h : q (some (tc_J (lN (hCh n k)))) S) : RX11_choose [tc_I (nI n), tc_I (nI k)] S q := by
  refine inX11_choose (fun P h5 => ?_)
  have loop : ∀ d i, i + d = k → P 5 [(0, tc_I (nI n)), (1, tc_I (nI k)), (2, tc_J (lN (hCh n i))), (4, tc_I (nI i))] [] S := by
    intro d
    induction d with
    | zero =>
      intro i hi
      have e : i = k := by omega
      subst e
      exact h5 _ _ _ _ _ ⟨fun _ => h, fun z => absurd (nI_le (Nat.le_refl i) (by omega)) z⟩
    | succ d ih =>
      intro i hi
      obtain ⟨c1, c2⟩ := hCh_ok n hn i (by omega)
      refine h5 _ _ _ _ _ ⟨fun z => absurd z (nI_ge (show i < k by omega) (by omega)), fun _ => ?_⟩
      rw [show nI n - nI i = nI (n - i) from (Int32.ofNat_sub n i (by omega)).symm, nI_1, nI_l (by omega), nI_l (by omega), lN_mul]
      refine ⟨l_ne0 (by omega) (by omega), ?_⟩
      rw [l_div (by have : hCh n i * (n - i) ≤ 2 ^ 40 * 40 := Nat.mul_le_mul (by omega) (by omega); omega) (by omega)]
      exact ih (i + 1) (by omega)
  exact loop k 0 (by omega)
theorem p_luck (hR : Rel S) (h : ∀ (x9 : Int64) S1, (∀ q2 : tc_Q, (∀ S2, Rel S2 → q2 (some (tc_J x9)) S2) → RX11_luck [tc_R 0 34, tc_I x1, tc_I x2, tc_I x3] S1 q2) → q (some (tc_J x9)) S1) : RX10_luck [tc_R 0 0, tc_I x1, tc_I x2, tc_I x3] S q := by
  refine inX10_luck (fun P => ?_)
  cases b1 : hr 5 x1 with
  | false =>
    have n1 := hr_f (by decide) b1
    exact s_teller0 n1 (sgX10_luck_4 (h_b0 (h _ _ (fun q2 h2 => inX11_luck (fun _ _ _ => m_any0 n1 (sgX11_luck_4 (h_b0 (h2 _ hR))))))))
  | true =>
    obtain ⟨t, ht, rfl⟩ := hr_t (by decide) b1
    refine s_teller1 ht (sgX10_luck_4 (h_b1 ?_))
    cases b2 : hr 5 x2 with
    | false =>
      have n2 := hr_f (by decide) b2
      exact s_teller0 n2 (sgX10_luck_11 (h_b0 (h _ _ (fun q2 h2 => inX11_luck (fun _ _ _ => m_any1 ht (sgX11_luck_4 (h_b1 (m_any0 n2 (sgX11_luck_11 (h_b0 (h2 _ hR)))))))))))
    | true =>
      obtain ⟨u, hu, rfl⟩ := hr_t (by decide) b2
      obtain ⟨r1, r2⟩ := hR.2.2.2.1
      refine s_teller1 hu (sgX10_luck_11 (h_b1 ?_))
      cases b3 : hr 2 x3 with
      | false =>
        have n3 := hr_f (by decide) b3
        exact s_which0 n3 (sgX10_luck_18 (h_b0 (h _ _ (fun q2 h2 => inX11_luck (fun _ _ _ => m_any1 ht (sgX11_luck_4 (h_b1 (m_any1 hu (sgX11_luck_11 (h_b1 (m_within0 (n := 1) (by decide) n3 (sgX11_luck_20 (h_b0 (h2 _ hR))))))))))))))
      | true =>
        obtain ⟨j, hj, rfl⟩ := hr_t (by decide) b3
        refine s_which1 hj (sgX10_luck_18 (h_b1 (s_wins hR.2.1 r1 ht hu (fun S' hw => sgX10_luck_31 ?_))))
        have hR' : Rel S' := hR.fr (hw.1.wk (by decide)) (by rw [hw.1.1 34 (by decide)]) (by rw [hw.1.1 34 (by decide)])
        have rows : S'.1 35 = S.1 14 ∧ S'.1 37 = S.1 15 ∧ S'.1 36 = S.1 16 := ⟨by rw [hw.1.1 35 (by decide), hR.1.1], by rw [hw.1.1 37 (by decide), hR.1.2.1], by rw [hw.1.1 36 (by decide), hR.1.2.2]⟩
        have hru : S'.1 34 9 = nI S.2.2 := by rw [hw.1.1 34 (by decide)]; exact r2
        obtain ⟨hs, w0, w1, w2⟩ := hw
        have hsum := hW_sum S.2.2 (S.1 14) (S.1 15) (S.1 16) t u 40
        have hle := hCt_le (hBo (S.1 14) (S.1 15) (S.1 16) t u) 40
        simp only [cW] at w0 w1 w2
        obtain ⟨a, ea⟩ : ∃ a, a = hCt (hW0 S.2.2 (S.1 14) (S.1 15) (S.1 16) t u) 40 := ⟨_, rfl⟩
        obtain ⟨b, eb⟩ : ∃ b, b = hCt (hW1 S.2.2 (S.1 14) (S.1 15) (S.1 16) t u) 40 := ⟨_, rfl⟩
        rw [← ea] at w0 hsum
        rw [← eb] at w1 hsum
        unfold fmX10_luck_31
        rw [h_c0, h_c1, w0, w1, nI_add]
        have emax : (if nI a < nI b then nI b else nI a) = nI (max a b) := by
          by_cases g : a < b
          · rw [if_pos (nI_lt g (by omega)), Nat.max_eq_right (by omega)]
          · rw [if_neg (nI_nlt (by omega) (by omega)), Nat.max_eq_left (by omega)]
        rw [emax]
        have hsb : hSm (hCh (a + b)) (max a b) (a + b + 1 - max a b) ≤ 41 * 2 ^ 40 := by
          refine Nat.le_trans (hSm_le (hCh (a + b)) (2 ^ 40) (max a b) _ (fun i hi => ?_)) (Nat.mul_le_mul_right _ (by omega))
          have := (hCh_ok (a + b) (by omega) (max a b + i) (by omega)).2
          omega
        have hp2 : (2 : Nat) ^ (a + b) ≤ 2 ^ 40 := Nat.pow_le_pow_right (by decide) (by omega)
        refine ⟨h_v0, h_v1, h_v0, h_v1, s_ways (by omega) (by omega) (sgX10_luck_74 ?_)⟩
        unfold fmX10_luck_74
        rw [h_shl (a + b) (by omega), lN_lI (hSm _ _ _)]
        refine s_become7 (by omega) (Nat.pow_pos (by decide)) (by omega) (sgX10_luck_81 (s_pick (hF7_put _ _) hj (sgX10_luck_89 (h _ _ (fun q2 h2 => ?_)))))
        generalize hq7 : mkRat (hSm (hCh (a + b)) (max a b) (a + b + 1 - max a b)) (2 ^ (a + b)) = fr at h2 ⊢
        have hs7 := hP7_s S' fr
        have hR2 := hR'.fr (hs7.wk (by decide)) (by rw [hs7.1 34 (by decide)]) (by rw [hs7.1 34 (by decide)])
        refine inX11_luck (fun P2 h69 h71 => m_any1 ht (sgX11_luck_4 (h_b1 (m_any1 hu (sgX11_luck_11 (h_b1 (m_within1 (n := 1) (by decide) hj (sgX11_luck_20 (h_b1 (m_compares hR2.mb r1 (by rw [hs7.1 34 (by decide)]; exact hru) ht hu (fun S2 hw2 => sgX11_luck_33 ?_)))))))))))
        obtain ⟨hs2, f4, f9, g25, g26, g27⟩ := hw2
        have hR3 := hR2.fr (hs2.wk (by decide)) f4 f9
        simp only [mW, hs7.1 35 (by decide), hs7.1 37 (by decide), hs7.1 36 (by decide), rows.1, rows.2.1, rows.2.2, ← ea, ← eb] at g26 g27
        have loop : ∀ d k, k + d = a + b + 1 → max a b ≤ k → P2 71 [(0, tc_R 0 34), (3, tc_I (nI j)), (4, tc_I (nI (a + b))), (5, tc_J (lN (hSm (hCh (a + b)) (max a b) (k - max a b)))), (7, tc_I (nI k))] [] S2 := by
          intro d
          induction d with
          | zero =>
            intro k hk hm
            have e : k = a + b + 1 := by omega
            subst e
            refine h71 _ _ _ _ _ ⟨fun _ => ?_, fun z => absurd (nI_lt (by omega) (by omega)) z⟩
            rw [h_shl (a + b) (by omega), lN_lI (hSm _ _ _)]
            refine m_frac (by omega) (Nat.pow_pos (by decide)) (by omega) (sgX11_luck_106 (m_part (mF_put _ _) hj (sgX11_luck_111 ?_)))
            unfold fmX11_luck_111
            rw [hq7]
            exact h2 _ (hR3.fr ((mP_s _ _).wk (by decide)) rfl rfl)
          | succ d ih =>
            intro k hk hm
            refine h71 _ _ _ _ _ ⟨fun z => absurd z (nI_nlt (by omega) (by omega)), fun _ => m_choose (by omega) (by omega) (sgX11_luck_87 ?_)⟩
            have := ih (k + 1) (by omega) (by omega)
            rw [show k + 1 - max a b = (k - max a b) + 1 by omega] at this
            unfold fmX11_luck_87
            rw [lN_add, nI_1]
            have e5 : hSm (hCh (a + b)) (max a b) (k - max a b + 1) = hSm (hCh (a + b)) (max a b) (k - max a b) + hCh (a + b) k := by
              show _ + hCh (a + b) (max a b + (k - max a b)) = _
              rw [show max a b + (k - max a b) = k by omega]
            rw [e5] at this
            exact this
        have start := loop (a + b + 1 - max a b) (max a b) (by omega) (Nat.le_refl _)
        rw [Nat.sub_self] at start
        unfold fmX11_luck_33
        rw [g26, g27, nI_add]
        refine ⟨fun z => h69 _ _ _ _ _ ?_, fun z => h69 _ _ _ _ _ ?_⟩
        · have := (nI_leI (by omega) (by omega)).mp z
          rw [Nat.max_eq_right this] at start
          exact start
        · have : ¬ a ≤ b := fun g => z (nI_le g (by omega))
          rw [Nat.max_eq_left (by omega)] at start
          exact start
end HLUCK
