/-! joined -/
section PJOINED
variable {q : tc_Q} {S : tc_S} {B : Nat → Nat → Nat} {n Y K k p t : Nat} {x1 x2 x3 : Int32}
theorem m_joinGo {j : Nat} (hj : j < 2) (hK : K = (hCs (S.1 41) 100).length + 1) (hk : k + 1 < K) (h18 : S.1 34 18 = nI n) (h19 : S.1 34 19 = nI Y) (hza : ∀ j, j < K → S.1 42 j = nI (B 0 j) ∧ S.1 43 j = nI (B 1 j) ∧ S.1 44 j = nI (B 2 j) ∧ S.1 45 j = nI (B 3 j) ∧ S.1 46 j = nI (B 4 j)) (hok : zOk B n Y K) (P : Nat → tc_B) (h : ∀ S', hS [34, 42, 43] S S' → S'.1 34 = S.1 34 → q (some (tc_J (hPick (zL B n k) j))) S') : fmX11_joined_47 P q x1 (nI k) (nI j) S := by
  have hz : zR (S.1 42) (S.1 43) (S.1 44) (S.1 45) (S.1 46) B K := fun j hj => ⟨(hza j hj).1, fun _ => (hza j hj).2⟩
  have hn0 := hok.2.2.2.1
  have hn := hok.2.2.2.2.1
  have h10 := hok.2.2.2.2.2
  have n2 : n * n ≤ 1600 := Nat.mul_le_mul hn hn
  have n3 : n * n * n ≤ 64000 := Nat.mul_le_mul n2 hn
  refine m_noF (sgX11_joined_51 ?_)
  have b1 := zP_b hok (g := 1) (p := 1) (e := 1) (D2 := zM n 1) (A := 0) (r := 0) (by decide) (zM_b1 (by decide)) (by decide) (Nat.dvd_refl _) (zM_pos hn0) (rI_0 _) (by
    show (0 + 1 + 1) * (9300000 * (n * n * n * (n * n * n))) < 2 ^ 63
    have := Nat.mul_le_mul n3 n3
    omega)
  refine m_addPart (p := 1) (g := 1) (by decide) hK h18 h19 hz hok (by decide) (by decide) (mF_put S 0) b1.1 (fun S1 hs1 e1 hf1 => sgX11_joined_57 ?_)
  rw [zP_v (by decide), Rat.zero_add] at hf1
  have e1' : S1.1 = S.1 := e1
  have c0 := zOk_c hok (show k < K by omega)
  have c1 := zOk_c hok hk
  have i0 : vp_in (nI k) 10 := vp_in_nI (by omega) (by decide)
  have i1 : vp_in (nI k + 1) 10 := by rw [← nI_succ]; exact vp_in_nI (by omega) (by decide)
  have r0 := (hz k (by omega)).1
  have r1 := (hz (k + 1) hk).1
  have y0 := (hza k (by omega)).2.1
  have y1 := (hza (k + 1) hk).2.1
  unfold fmX11_joined_57
  rw [← nI_succ] at i1 ⊢
  rw [nI_clamp (by omega), nI_clamp (by omega)]
  simp only [h_row, Nat.reduceEqDiff, reduceIte, e1', r0, r1, y0, y1, nI_add]
  refine ⟨i0, i1, i0, i0, i1, i0, i1, ?_⟩
  generalize hS2 : tc_ui (tc_ui (tc_ui S1 42 k (nI (B 0 k + B 0 (k + 1)))) 43 k (nI (B 1 k + B 1 (k + 1)))) 42 (k + 1) 0 = S2
  have hs2 : hS [34, 42, 43] S S2 := by
    rw [← hS2]
    exact ((((((mP_s S 0).tt hs1).wk (w := [34, 42, 43]) (by decide)).ui (by decide)).ui (by decide)).ui (by decide))
  have e34 : S2.1 34 = S.1 34 := by
    rw [← hS2]
    simp only [h_row, Nat.reduceEqDiff, reduceIte, e1']
  have hf2 : mF S2 (zV B n Y K 1) := by
    rw [← hS2]
    exact hf1
  have hz2 : zR (S2.1 42) (S2.1 43) (S2.1 44) (S2.1 45) (S2.1 46) (zJ B k) K := by
    intro j hj
    rw [← hS2]
    simp only [h_row, Nat.reduceEqDiff, reduceIte, h_updE, e1']
    obtain ⟨z0, zz⟩ := hz j hj
    unfold zJ
    by_cases g1 : j = k + 1
    · simp only [if_pos g1]
      exact ⟨rfl, fun z => absurd z (by decide)⟩
    · by_cases g2 : j = k
      · subst g2
        simp only [if_neg g1]
        refine ⟨by simp, fun _ => ?_⟩
        obtain ⟨_, z1, z2, z3, z4⟩ := hza j hj
        simp [z2, z3, z4]
      · simp only [if_neg g1, if_neg g2]
        exact ⟨z0, zz⟩
  refine m_addPart (p := 1) (g := -1) (B := zJ B k) (by decide) (by rw [hs2.1 41 (by decide)]; exact hK) (by rw [e34]; exact h18) (by rw [e34]; exact h19) hz2 (zJ_ok hok hk) (by decide) (by decide) hf2 (zJ_b hok hk) (fun S3 hs3 e3 hf3 => sgX11_joined_106 ?_)
  rw [zP_n (by decide), z_loss hok hk] at hf3
  exact m_part hf3 hj (sgX11_joined_111 (h S3 (hs2.tr hs3 (by decide) (by decide)) (by rw [e3]; exact e34)))
theorem p_joined (hR : Rel S) (h : ∀ (x9 : Int64) S1, (∀ q2 : tc_Q, (∀ S2, Rel S2 → q2 (some (tc_J x9)) S2) → RX11_joined [tc_R 0 34, tc_I x1, tc_I x2, tc_I x3] S1 q2) → q (some (tc_J x9)) S1) : RX10_joined [tc_R 0 0, tc_I x1, tc_I x2, tc_I x3] S q := by
  refine inX10_joined (fun P => ?_)
  have hcut := hR.2.2.2.2.1
  cases b1 : hr 5 x1 with
  | false =>
    have n1 := hr_f (by decide) b1
    exact s_teller0 n1 (sgX10_joined_4 (h_b0 (h _ _ (fun q2 h2 => inX11_joined (fun _ => m_any0 n1 (sgX11_joined_4 (h_b0 (h2 _ hR))))))))
  | true =>
    obtain ⟨t, ht, rfl⟩ := hr_t (by decide) b1
    obtain ⟨C, hC⟩ : ∃ C, (hCs (S.1 41) 100).length = C := ⟨_, rfl⟩
    have h9 : C ≤ 9 := by rw [← hC]; exact hcut.2.1
    have h5 : S.1 5 1 = nI C := by rw [← hC]; exact hcut.2.2.1
    have lost : ¬ (∃ k, k < C ∧ x2 = nI k) → q (some (tc_J (-9223372036854775808))) S := by
      intro g
      refine h _ _ (fun q2 h2 => inX11_joined (fun _ => m_any1 ht (sgX11_joined_4 (h_b1 (m_cuts (sgX11_joined_13 ?_))))))
      rw [hC]
      exact m_withinP (by omega) (fun k hk e => absurd ⟨k, hk, e⟩ g) (fun _ => sgX11_joined_18 (h_b0 (h2 _ hR)))
    refine s_teller1 ht (sgX10_joined_4 (h_b1 (s_hasBin (n := C) h5 (by omega) (fun k hk e => sgX10_joined_15 (h_b1 ?_)) (fun g => sgX10_joined_15 (h_b0 (lost (fun ⟨k, hk, e⟩ => g ⟨k, by omega, e⟩)))))))
    subst e
    rw [h5]
    refine ⟨fun z => lost (fun ⟨k2, hk2, e⟩ => ?_), fun z => ?_⟩
    · have a1 := (nI_eq (by omega) (by omega)).mp z
      have a2 := (nI_eq (by omega) (by omega)).mp e
      omega
    · have hkC : k < C := by
        rcases Nat.lt_or_ge k C with g | g
        · exact g
        · exact absurd (by rw [show k = C by omega]) z
      cases b3 : hr 2 x3 with
      | false =>
        have n3 := hr_f (by decide) b3
        refine s_which0 n3 (sgX10_joined_33 (h_b0 (h _ _ (fun q2 h2 => inX11_joined (fun _ => m_any1 ht (sgX11_joined_4 (h_b1 (m_cuts (sgX11_joined_13 ?_)))))))))
        rw [hC]
        exact m_withinP (by omega) (fun _ _ _ => sgX11_joined_18 (h_b1 (m_within0 (n := 1) (by decide) n3 (sgX11_joined_27 (h_b0 (h2 _ hR)))))) (fun g => absurd ⟨k, hkC, rfl⟩ g)
      | true =>
        obtain ⟨j, hj, rfl⟩ := hr_t (by decide) b3
        refine s_which1 hj (sgX10_joined_33 (h_b1 (s_sortCases hR ht (fun hl S1 hs => sgX10_joined_41 (h_b0 (h _ _ (fun q2 h2 => ?_)))) (fun hl S1 hs e2 e3 hb => sgX10_joined_41 (h_b1 ?_)))))
        · have hR' : Rel S1 := hR.fr (hs.wk (by decide)) (by rw [hs.1 34 (by decide)]) (by rw [hs.1 34 (by decide)])
          refine inX11_joined (fun _ => m_any1 ht (sgX11_joined_4 (h_b1 (m_cuts (sgX11_joined_13 ?_)))))
          rw [hs.1 41 (by decide), hC]
          refine m_withinP (by omega) (fun _ _ _ => sgX11_joined_18 (h_b1 (m_within1 (n := 1) (by decide) hj (sgX11_joined_27 (h_b1 (m_cases hR'.mb ht (sgX11_joined_35 ?_))))))) (fun g => absurd ⟨k, hkC, rfl⟩ g)
          rw [hR'.cl, hs.cL (by decide) (by decide) (by decide), hl]
          exact h_b0 (h2 _ hR')
        · have hlen : (cL S t 40).length ≤ 40 := hL_len (S.1 14) (S.1 15) (S.1 16) t 40
          have hok := hBl_ok (f := S.1 41) (l := cL S t 40) (hL_ok hR.2.1 ht 40 (Nat.le_refl 40)) hR.2.2.2.2.1.2.1 hl hlen
          have hz := hBi_R (K := (hCs (S.1 41) 100).length + 1) hb (by omega)
          generalize hl' : cL S t 40 = l at *
          refine s_joinLoss e2 hz hok (by omega) (fun S2 hs2 e12 hf => sgX10_joined_64 (s_pick hf hj (sgX10_joined_72 (h _ _ (fun q2 h2 => ?_)))))
          have hs3 : hS hScr S S2 := hs.tr hs2 (by decide) (by decide)
          have hR2 : Rel S2 := hR.fr hs3 (by rw [e12, hs.1 34 (by decide)]) (by rw [e12, hs.1 34 (by decide)])
          have hm2 : mL S2 t 40 = l := by rw [hR2.cl, hs3.cL (by decide) (by decide) (by decide), hl']
          have e41 : S2.1 41 = S.1 41 := hs3.1 41 (by decide)
          refine inX11_joined (fun P2 => m_any1 ht (sgX11_joined_4 (h_b1 (m_cuts (sgX11_joined_13 ?_)))))
          rw [e41, hC]
          refine m_withinP (by omega) (fun _ _ _ => sgX11_joined_18 (h_b1 (m_within1 (n := 1) (by decide) hj (sgX11_joined_27 (h_b1 (m_cases hR2.mb ht (sgX11_joined_35 ?_))))))) (fun g => absurd ⟨k, hkC, rfl⟩ g)
          unfold fmX11_joined_35
          rw [hm2]
          refine ⟨fun z => absurd z (nI_ne0 hl (by omega)), fun _ => m_counts hR2.mb (by rw [e41, hC]; exact h9) ht (fun S3 hb3 => sgX11_joined_47 ?_)⟩
          rw [hm2] at hb3
          have e41' : S3.1 41 = S.1 41 := by rw [hb3.1.1 41 (by decide), e41]
          have hR3 := hR2.fr (hb3.1.wk (by decide)) hb3.2.1.1 hb3.2.1.2.1
          have hbb := hb3.2.2
          rw [e41] at hbb
          exact m_joinGo hj (by rw [e41']) (by omega) hb3.2.1.2.2.1 hb3.2.1.2.2.2 (fun i hi => hbb i (by omega)) hok P2 (fun S4 hs4 e4 => h2 _ (hR3.fr (hs4.wk (by decide)) (by rw [e4]) (by rw [e4])))
end PJOINED
