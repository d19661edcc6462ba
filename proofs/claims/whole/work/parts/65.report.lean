/-! report -/
def hSi (c : Nat × Bool) : Int32 := if c.1 = 50 then 61 else if decide (50 < c.1) = c.2 then 43 else 45
/-- the mean miss as text -/
def hTm (r : Nat) (l : List (Nat × Bool)) : List Int32 := if l.length = 0 then [45] else hDn (mkRat (hMS r l) l.length).num.natAbs ++ [47] ++ hDn (mkRat (hMS r l) l.length).den
def hTx (r t : Nat) (l : List (Nat × Bool)) : List Int32 := [84] ++ [48 + nI t] ++ [32] ++ hWd r ++ [32] ++ hTm r l ++ [32] ++ l.map hSi
theorem hTm_len (r : Nat) (l : List (Nat × Bool)) : (hTm r l).length ≤ 19 := by
  unfold hTm
  split
  · decide
  · have h1 := hDn_len (mkRat (hMS r l) l.length).num.natAbs
    have h2 := hDn_len (mkRat (hMS r l) l.length).den
    simp only [List.length_append, List.length_singleton]
    omega
theorem h_mean {a n : Nat} (hn : 0 < n) (hn40 : n ≤ 40) (ha : a ≤ 40000000) : lI (mkRat (a : Int) n).num = lN (mkRat (a : Int) n).num.natAbs ∧ (mkRat (a : Int) n).num.natAbs < 1000000000 ∧ (mkRat (a : Int) n).den < 1000000000 := by
  rw [Rat.num_mkRat, Rat.den_mkRat, if_neg (by omega), if_neg (by omega), Int.natAbs_natCast, ← Int.natCast_ediv, Int.natAbs_natCast, lN_lI]
  refine ⟨rfl, ?_, ?_⟩
  · exact Nat.lt_of_le_of_lt (Nat.div_le_self _ _) (by omega)
  · exact Nat.lt_of_le_of_lt (Nat.div_le_self _ _) (by omega)
section HREPORT
variable {q : tc_Q} {S : tc_S} {x1 x2 : Int32} {t r p : Nat}
theorem s_signOf {b : Bool} (hp : p ≤ 100) (h : q (some (tc_I (hSi (p, b)))) S) : RX10_signOf [tc_I (nI p), tc_I (h01 b)] S q := by
  refine inX10_signOf (fun P h20 => ?_)
  unfold hSi at h
  refine ⟨fun z => ?_, fun z => ⟨fun z2 => h20 _ _ _ ?_, fun z2 => h20 _ _ _ ?_⟩⟩
  · rw [if_pos ((nI_eq (b := 50) (by omega) (by decide)).mp z)] at h
    exact h
  · have e1 : ¬ p = 50 := fun e => z (by rw [e]; rfl)
    have e2 := (nI_leI (b := 50) (by omega) (by decide)).mp z2
    simp only [if_neg e1, show ¬ 50 < p by omega, decide_false] at h
    cases b
    · exact ⟨fun _ => h, fun z => absurd rfl z⟩
    · exact ⟨fun z => absurd z (by decide), fun _ => h⟩
  · have e1 : ¬ p = 50 := fun e => z (by rw [e]; rfl)
    have e2 : 50 < p := by
      rcases Nat.lt_or_ge 50 p with g | g
      · exact g
      · exact absurd (nI_le g (by decide)) z2
    simp only [if_neg e1, e2, decide_true] at h
    cases b
    · exact ⟨fun z => absurd z (by decide), fun _ => h⟩
    · exact ⟨fun _ => h, fun z => absurd rfl z⟩
theorem s_writeReport (hb : cB S) (hr4 : S.2.2 < 4) (ht : t < 5) (h : ∀ S', hS [4, 7, 9, 19, 20, 33] S S' → cX S' (hTx S.2.2 t (cL S t 40)) → q none S') : RX10_writeReport [tc_R 0 0, tc_I (nI t)] S q := by
  refine inX10_writeReport (fun P h116 h127 => inX6_clear (fun P2 => sgX10_writeReport_7 ?_))
  have s0 : hS [9, 33] S (tc_ui S 9 1 0) := (hS.rf _ S).ui (by decide)
  have x0 : cX (tc_ui S 9 1 0) [] := ⟨by simp only [h_row, reduceIte, h_updE]; rfl, fun i a ha => by simp at ha⟩
  have hwl := hWd_le S.2.2 (by omega)
  have hml := hTm_len S.2.2 (cL S t 40)
  have hcl : (cL S t 40).length ≤ 40 := hL_len (S.1 14) (S.1 15) (S.1 16) t 40
  refine s_put x0 (by simp) (fun S1 s1 x1 => sgX10_writeReport_16 (s_put x1 (by simp) (fun S2 s2 x2 => sgX10_writeReport_27 (s_put x2 (by simp) (fun S3 s3 x3 => sgX10_writeReport_36 ?_)))))
  have s03 : hS [9, 33] S S3 := ((s0.tt s1).tt s2).tt s3
  have e3 : S3.2.2 = S.2.2 := s03.2.2
  unfold fmX10_writeReport_36
  rw [e3]
  refine ⟨hr4, s_putWord (by omega) x3 (by simp) (fun S4 s4 x4 => sgX10_writeReport_50 (s_put x4 (by simp; omega) (fun S5 s5 x5 => sgX10_writeReport_59 ?_)))⟩
  have s05 : hS [9, 33] S S5 := (s03.tt s4).tt s5
  have hb5 := s05.cB (by decide) (by decide) (by decide) hb
  have hl5 : cL S5 t 40 = cL S t 40 := s05.cL (by decide) (by decide) (by decide) t 40
  have e5 : S5.2.2 = S.2.2 := s05.2.2
  have tail : ∀ S6, hS [4, 7, 9, 19, 20, 33] S S6 → cC S6 (cL S t 40) → cX S6 ([84] ++ [48 + nI t] ++ [32] ++ hWd S.2.2 ++ [32] ++ hTm S.2.2 (cL S t 40)) → P 116 [(0, tc_R 0 0)] [] S6 := by
    intro S6 s6 hc6 x6
    refine h116 _ (s_put x6 (by simp; omega) (fun S7 s7 x7 => sgX10_writeReport_125 ?_))
    obtain ⟨c1, c2, c3, c4, c5⟩ := hc6
    have loop : ∀ d n S', n + d = (cL S t 40).length → hS [9, 33] S6 S' → cX S' ([84] ++ [48 + nI t] ++ [32] ++ hWd S.2.2 ++ [32] ++ hTm S.2.2 (cL S t 40) ++ [32] ++ ((cL S t 40).take n).map hSi) → P 127 [(0, tc_R 0 0), (2, tc_I (nI n))] [] S' := by
      intro d
      induction d with
      | zero =>
        intro n S' hn hs hx
        refine h127 _ _ ?_
        unfold fmX10_writeReport_127
        rw [hs.1 4 (by decide), c3]
        refine ⟨fun _ => h S' (s6.tr hs (by decide) (by decide)) ?_, fun z => absurd (nI_le (by omega) (by omega)) z⟩
        rw [List.take_of_length_le (by omega)] at hx
        exact hx
      | succ d ih =>
        intro n S' hn hs hx
        obtain ⟨c, hcn⟩ : ∃ c, (cL S t 40)[n]? = some c := ⟨(cL S t 40)[n], List.getElem?_eq_getElem (by omega)⟩
        have hp := c2 c (List.mem_of_getElem? hcn)
        have hin : vp_in (nI n) 40 := vp_in_nI (by omega) (by decide)
        refine h127 _ _ ?_
        unfold fmX10_writeReport_127
        rw [hs.1 4 (by decide), c3, hs.1 19 (by decide), hs.1 20 (by decide), nI_clamp (by omega), (c5 n c hcn).1, (c5 n c hcn).2]
        refine ⟨fun z => absurd z (nI_ge (by omega) (by omega)), fun _ => ⟨hin, hin, s_signOf hp (sgX10_writeReport_163 (s_put hx (by simp; omega) (fun S8 s8 x8 => sgX10_writeReport_166 ?_)))⟩⟩
        have tk : ((cL S t 40).take (n + 1)).map hSi = ((cL S t 40).take n).map hSi ++ [hSi c] := by
          rw [h_take hcn, List.map_append]
          rfl
        rw [List.append_assoc, ← tk] at x8
        have := ih (n + 1) S8 (by omega) (hs.tt s8) x8
        rw [nI_succ n] at this
        exact this
    exact loop _ 0 S7 (Nat.zero_add _) s7 (by simpa using x7)
  refine s_meanMiss hb5 (by rw [e5]; exact hr4) ht (fun hl S6 hg => sgX10_writeReport_64 (h_b0 ?_)) (fun hl S6 hg => sgX10_writeReport_64 (h_b1 ?_))
  · rw [hl5] at hl
    have x6 : cX S6 ([84] ++ [48 + nI t] ++ [32] ++ hWd S.2.2 ++ [32]) := by
      unfold cX
      rw [hg.1.1 9 (by decide), hg.1.1 33 (by decide)]
      exact x5
    have hc6 := cG_cC hb5 ht hg
    rw [hl5] at hc6
    refine s_put x6 (by simp; omega) (fun S7 s7 x7 => tail S7 ((s05.tr hg.1 (w := [4, 7, 9, 19, 20, 33]) (by decide) (by decide)).tr s7 (by decide) (by decide)) ?_ ?_)
    · unfold cC
      rw [s7.1 4 (by decide), s7.1 19 (by decide), s7.1 20 (by decide)]
      exact hc6
    · unfold hTm
      rw [if_pos hl]
      exact x7
  · rw [hl5] at hl
    have hc6 := cG_cC hb5 ht hg
    rw [hl5] at hc6
    have hms : hMS S.2.2 (cL S t 40) ≤ 40000000 := by
      have := hMS_le (r := S.2.2) hc6.2.1
      omega
    obtain ⟨m1, m2, m3⟩ := h_mean hl hcl hms
    rw [e5, hl5]
    generalize hS6' : hP7 S6 (mkRat (hMS S.2.2 (cL S t 40)) (cL S t 40).length) = S6'
    have sP : hS [7] S6 S6' := by rw [← hS6']; exact hP7_s _ _
    have hf : hF7 S6' (mkRat (hMS S.2.2 (cL S t 40)) (cL S t 40).length) := by rw [← hS6']; exact hF7_put _ _
    have s06 : hS [4, 7, 9, 19, 20, 33] S S6' := (s05.tr hg.1 (w := [4, 7, 9, 19, 20, 33]) (by decide) (by decide)).tr sP (by decide) (by decide)
    have x6 : cX S6' ([84] ++ [48 + nI t] ++ [32] ++ hWd S.2.2 ++ [32]) := by
      unfold cX
      rw [sP.1 9 (by decide), sP.1 33 (by decide), hg.1.1 9 (by decide), hg.1.1 33 (by decide)]
      exact x5
    rw [hf.1, m1]
    refine s_putNumber m2 x6 (by simp; omega) (fun S7 s7 x7 => sgX10_writeReport_81 ?_)
    have n7 := hDn_len (mkRat (hMS S.2.2 (cL S t 40)) (cL S t 40).length).num.natAbs
    refine s_put x7 (by simp; omega) (fun S8 s8 x8 => sgX10_writeReport_90 ?_)
    have l7 : S8.2.1 7 = S6'.2.1 7 := by rw [s8.2.1 7 (by decide), s7.2.1 7 (by decide)]
    unfold fmX10_writeReport_90
    rw [l7, hf.2]
    refine s_putNumber m3 x8 (by simp; omega) (fun S9 s9 x9 => sgX10_writeReport_104 (tail S9 (s06.tr ((s7.tt s8).tt s9) (by decide) (by decide)) ?_ ?_))
    · have s69 := (s7.tt s8).tt s9
      unfold cC
      rw [s69.1 4 (by decide), s69.1 19 (by decide), s69.1 20 (by decide), sP.1 4 (by decide), sP.1 19 (by decide), sP.1 20 (by decide)]
      exact hc6
    · unfold hTm
      rw [if_neg (by omega)]
      simp only [List.append_assoc] at x9 ⊢
      exact x9
end HREPORT
