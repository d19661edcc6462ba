/-! both systems, call by call: what the class answers in S the model answers behind it, and they are related again -/
theorem h_rows {S : tc_S} {i j k : Nat} {x y : Int32} : ∀ c, c ≠ i → c ≠ j → (tc_ui (tc_ui S i k x) j k y).1 c = S.1 c := fun c h1 h2 => by rw [h_ui h2, h_ui h1]
theorem Rel.ch {S : tc_S} (h : Rel S) {i : Nat} {x : Int32} (hi : i < 160) (hx : x = -9 ∨ ∃ p, p ≤ 100 ∧ x = nI p) : Rel (tc_ui (tc_ui S 14 i x) 35 i x) := by
  obtain ⟨⟨a1, a2, a3⟩, b, ⟨c1, c2, c3, c4⟩, ⟨d1, d2⟩, e, f, g⟩ := h
  have r := h_rows (S := S) (i := 14) (j := 35) (k := i) (x := x) (y := x)
  have e35 : (tc_ui (tc_ui S 14 i x) 35 i x).1 35 = upd (S.1 14) i x := by rw [tc_ui_self, h_ui (by decide), a1]
  have e14 : (tc_ui (tc_ui S 14 i x) 35 i x).1 14 = upd (S.1 14) i x := by rw [h_ui (by decide), tc_ui_self]
  unfold Rel cB
  rw [e35, e14, r 37 (by decide) (by decide), r 15 (by decide) (by decide), r 36 (by decide) (by decide), r 16 (by decide) (by decide), r 38 (by decide) (by decide), r 17 (by decide) (by decide), r 2 (by decide) (by decide), r 34 (by decide) (by decide), r 5 (by decide) (by decide), r 21 (by decide) (by decide), r 41 (by decide) (by decide), r 13 (by decide) (by decide), r 39 (by decide) (by decide)]
  refine ⟨⟨rfl, a2, a3⟩, ⟨fun k hk => ?_, b.2⟩, ⟨c1, c2, c3, c4⟩, ⟨d1, d2⟩, e, f, g⟩
  by_cases hki : k = i
  · rw [hki, h_upd]; exact hx
  · rw [h_updn hki]; exact b.1 k hk
theorem Rel.st {S : tc_S} (h : Rel S) {i : Nat} {x : Int32} (hi : i < 40) (hx : x = 0 ∨ x = 1 ∨ x = 2) : Rel (tc_ui (tc_ui S 16 i x) 36 i x) := by
  obtain ⟨⟨a1, a2, a3⟩, b, ⟨c1, c2, c3, c4⟩, ⟨d1, d2⟩, e, f, g⟩ := h
  have r := h_rows (S := S) (i := 16) (j := 36) (k := i) (x := x) (y := x)
  have e35 : (tc_ui (tc_ui S 16 i x) 36 i x).1 36 = upd (S.1 16) i x := by rw [tc_ui_self, h_ui (by decide), a3]
  have e14 : (tc_ui (tc_ui S 16 i x) 36 i x).1 16 = upd (S.1 16) i x := by rw [h_ui (by decide), tc_ui_self]
  unfold Rel cB
  rw [e35, e14, r 37 (by decide) (by decide), r 15 (by decide) (by decide), r 35 (by decide) (by decide), r 14 (by decide) (by decide), r 38 (by decide) (by decide), r 17 (by decide) (by decide), r 2 (by decide) (by decide), r 34 (by decide) (by decide), r 5 (by decide) (by decide), r 21 (by decide) (by decide), r 41 (by decide) (by decide), r 13 (by decide) (by decide), r 39 (by decide) (by decide)]
  refine ⟨⟨a1, a2, rfl⟩, ⟨b.1, b.2.1, fun k hk => ?_⟩, ⟨c1, c2, c3, c4⟩, ⟨d1, d2⟩, e, f, g⟩
  by_cases hki : k = i
  · rw [hki, h_upd]; exact hx
  · rw [h_updn hki]; exact b.2.2 k hk
theorem Rel.wt {S : tc_S} (h : Rel S) {i : Nat} {x : Int32} (hi : i < 4) (hx : ∃ w, w ≤ 9 ∧ x = nI w) : Rel (tc_ui (tc_ui S 15 i x) 37 i x) := by
  obtain ⟨⟨a1, a2, a3⟩, b, ⟨c1, c2, c3, c4⟩, ⟨d1, d2⟩, e, f, g⟩ := h
  have r := h_rows (S := S) (i := 15) (j := 37) (k := i) (x := x) (y := x)
  have e35 : (tc_ui (tc_ui S 15 i x) 37 i x).1 37 = upd (S.1 15) i x := by rw [tc_ui_self, h_ui (by decide), a2]
  have e14 : (tc_ui (tc_ui S 15 i x) 37 i x).1 15 = upd (S.1 15) i x := by rw [h_ui (by decide), tc_ui_self]
  unfold Rel cB
  rw [e35, e14, r 36 (by decide) (by decide), r 16 (by decide) (by decide), r 35 (by decide) (by decide), r 14 (by decide) (by decide), r 38 (by decide) (by decide), r 17 (by decide) (by decide), r 2 (by decide) (by decide), r 34 (by decide) (by decide), r 5 (by decide) (by decide), r 21 (by decide) (by decide), r 41 (by decide) (by decide), r 13 (by decide) (by decide), r 39 (by decide) (by decide)]
  refine ⟨⟨a1, rfl, a3⟩, ⟨b.1, fun k hk => ?_, b.2.2⟩, ⟨c1, c2, c3, c4⟩, ⟨d1, d2⟩, e, f, g⟩
  by_cases hki : k = i
  · rw [hki, h_upd]; exact hx
  · rw [h_updn hki]; exact b.2.1 k hk
theorem Rel.rTell {S : tc_S} (h : Rel S) (x1 x2 x3 : Int32) : Rel (uTell 35 (uTell 14 S x1 x2 x3) x1 x2 x3) := by
  unfold uTell
  split
  · rename_i z
    obtain ⟨t, ht, rfl⟩ := hr_t (by decide) z.1
    obtain ⟨e, he, rfl⟩ := hr_t (by decide) z.2.1
    obtain ⟨p, hp, rfl⟩ := hr_t (by decide) z.2.2
    rw [nI_clamp (by omega), nI_clamp (by omega)]
    exact h.ch (by omega) (Or.inr ⟨p, by omega, rfl⟩)
  · exact h
theorem Rel.rDrop {S : tc_S} (h : Rel S) (x1 x2 : Int32) : Rel (uDrop 35 (uDrop 14 S x1 x2) x1 x2) := by
  unfold uDrop
  split
  · rename_i z
    obtain ⟨t, ht, rfl⟩ := hr_t (by decide) z.1
    obtain ⟨e, he, rfl⟩ := hr_t (by decide) z.2
    rw [nI_clamp (by omega), nI_clamp (by omega)]
    exact h.ch (by omega) (Or.inl rfl)
  · exact h
theorem Rel.rSet {S : tc_S} (h : Rel S) (x1 v : Int32) (hv : v = 0 ∨ v = 1 ∨ v = 2) : Rel (uSet 36 (uSet 16 S x1 v) x1 v) := by
  unfold uSet
  split
  · rename_i z
    obtain ⟨e, he, rfl⟩ := hr_t (by decide) z
    rw [nI_clamp (by omega)]
    exact h.st he hv
  · exact h
theorem Rel.rWei {S : tc_S} (h : Rel S) (x1 x2 : Int32) : Rel (uWei 37 (uWei 15 S x1 x2) x1 x2) := by
  unfold uWei
  split
  · rename_i z
    obtain ⟨t, ht, rfl⟩ := hr_t (by decide) z.1
    obtain ⟨w, hw, rfl⟩ := hr_t (by decide) z.2
    rw [nI_clamp (by omega)]
    exact h.wt ht ⟨w, by omega, rfl⟩
  · exact h
theorem uTell_r {c d : Nat} {S : tc_S} {x1 x2 x3 : Int32} (h : d ≠ c) : (uTell c S x1 x2 x3).1 d = S.1 d := by
  unfold uTell
  split
  · exact h_ui h
  · rfl
theorem uDrop_r {c d : Nat} {S : tc_S} {x1 x2 : Int32} (h : d ≠ c) : (uDrop c S x1 x2).1 d = S.1 d := by
  unfold uDrop
  split
  · exact h_ui h
  · rfl
theorem uSet_r {c d : Nat} {S : tc_S} {x1 x2 : Int32} (h : d ≠ c) : (uSet c S x1 x2).1 d = S.1 d := by
  unfold uSet
  split
  · exact h_ui h
  · rfl
theorem uWei_r {c d : Nat} {S : tc_S} {x1 x2 : Int32} (h : d ≠ c) : (uWei c S x1 x2).1 d = S.1 d := by
  unfold uWei
  split
  · exact h_ui h
  · rfl
section HPAIR
variable {q : tc_Q} {S : tc_S} {x1 x2 x3 : Int32}
theorem p_tell (hR : Rel S) (h : ∀ (x9 : Int32) S1, (∀ q2 : tc_Q, (∀ S2, Rel S2 → q2 (some (tc_I x9)) S2) → RX11_tell [tc_R 0 34, tc_I x1, tc_I x2, tc_I x3] S1 q2) → q (some (tc_I x9)) S1) : RX10_tell [tc_R 0 0, tc_I x1, tc_I x2, tc_I x3] S q := by
  refine s_tell (h _ _ (fun q2 h2 => m_tell ?_))
  rw [uTell_r (by decide), hR.1.1]
  exact h2 _ (hR.rTell x1 x2 x3)
theorem p_drop (hR : Rel S) (h : ∀ (x9 : Int32) S1, (∀ q2 : tc_Q, (∀ S2, Rel S2 → q2 (some (tc_I x9)) S2) → RX11_drop [tc_R 0 34, tc_I x1, tc_I x2] S1 q2) → q (some (tc_I x9)) S1) : RX10_drop [tc_R 0 0, tc_I x1, tc_I x2] S q := by
  refine s_drop (h _ _ (fun q2 h2 => m_drop ?_))
  rw [uDrop_r (by decide), hR.1.1]
  exact h2 _ (hR.rDrop x1 x2)
theorem p_yes (hR : Rel S) (h : ∀ (x9 : Int32) S1, (∀ q2 : tc_Q, (∀ S2, Rel S2 → q2 (some (tc_I x9)) S2) → RX11_yes [tc_R 0 34, tc_I x1] S1 q2) → q (some (tc_I x9)) S1) : RX10_yes [tc_R 0 0, tc_I x1] S q := by
  refine s_yes (h _ _ (fun q2 h2 => m_yes ?_))
  rw [uSet_r (by decide), hR.1.2.2]
  exact h2 _ (hR.rSet x1 1 (by decide))
theorem p_no (hR : Rel S) (h : ∀ (x9 : Int32) S1, (∀ q2 : tc_Q, (∀ S2, Rel S2 → q2 (some (tc_I x9)) S2) → RX11_no [tc_R 0 34, tc_I x1] S1 q2) → q (some (tc_I x9)) S1) : RX10_no [tc_R 0 0, tc_I x1] S q := by
  refine s_no (h _ _ (fun q2 h2 => m_no ?_))
  rw [uSet_r (by decide), hR.1.2.2]
  exact h2 _ (hR.rSet x1 2 (by decide))
theorem p_open (hR : Rel S) (h : ∀ (x9 : Int32) S1, (∀ q2 : tc_Q, (∀ S2, Rel S2 → q2 (some (tc_I x9)) S2) → RX11_open [tc_R 0 34, tc_I x1] S1 q2) → q (some (tc_I x9)) S1) : RX10_open [tc_R 0 0, tc_I x1] S q := by
  refine s_open (h _ _ (fun q2 h2 => m_open ?_))
  rw [uSet_r (by decide), hR.1.2.2]
  exact h2 _ (hR.rSet x1 0 (by decide))
theorem p_weigh (hR : Rel S) (h : ∀ (x9 : Int32) S1, (∀ q2 : tc_Q, (∀ S2, Rel S2 → q2 (some (tc_I x9)) S2) → RX11_weigh [tc_R 0 34, tc_I x1, tc_I x2] S1 q2) → q (some (tc_I x9)) S1) : RX10_weigh [tc_R 0 0, tc_I x1, tc_I x2] S q := by
  refine s_weigh (h _ _ (fun q2 h2 => m_weigh ?_))
  rw [uWei_r (by decide), hR.1.2.1]
  exact h2 _ (hR.rWei x1 x2)
theorem p_told (hR : Rel S) (h : ∀ (x9 : Int32) S1, (∀ q2 : tc_Q, (∀ S2, Rel S2 → q2 (some (tc_I x9)) S2) → RX11_told [tc_R 0 34, tc_I x1, tc_I x2] S1 q2) → q (some (tc_I x9)) S1) : RX10_told [tc_R 0 0, tc_I x1, tc_I x2] S q := by
  refine inX10_told (fun P => ?_)
  cases b1 : hr 5 x1 with
  | false =>
    have n1 := hr_f (by decide) b1
    exact s_teller0 n1 (sgX10_told_4 (h_b0 (h _ _ (fun q2 h2 => inX11_told (fun _ => m_any0 n1 (sgX11_told_4 (h_b0 (h2 _ hR))))))))
  | true =>
    obtain ⟨t, ht, rfl⟩ := hr_t (by decide) b1
    refine s_teller1 ht (sgX10_told_4 (h_b1 ?_))
    cases b2 : hr 40 x2 with
    | false =>
      have n2 := hr_f (by decide) b2
      exact s_event0 n2 (sgX10_told_11 (h_b0 (h _ _ (fun q2 h2 => inX11_told (fun _ => m_any1 ht (sgX11_told_4 (h_b1 (m_event0 n2 (sgX11_told_11 (h_b0 (h2 _ hR)))))))))))
    | true =>
      obtain ⟨e, he, rfl⟩ := hr_t (by decide) b2
      refine s_event1 he (sgX10_told_11 (h_b1 (s_told hR.2.1 ht he (sgX10_told_25 (h _ _ (fun q2 h2 => inX11_told (fun _ => m_any1 ht (sgX11_told_4 (h_b1 (m_event1 he (sgX11_told_11 (h_b1 (m_told hR.mb ht he (sgX11_told_20 ?_))))))))))))))
      unfold fmX11_told_20
      rw [hR.1.1, hR.1.2.1]
      exact h2 _ hR
theorem p_came (hR : Rel S) (h : ∀ (x9 : Int32) S1, (∀ q2 : tc_Q, (∀ S2, Rel S2 → q2 (some (tc_I x9)) S2) → RX11_came [tc_R 0 34, tc_I x1] S1 q2) → q (some (tc_I x9)) S1) : RX10_came [tc_R 0 0, tc_I x1] S q := by
  refine inX10_came (fun P => ?_)
  cases b1 : hr 40 x1 with
  | false =>
    have n1 := hr_f (by decide) b1
    exact s_event0 n1 (sgX10_came_4 (h_b0 (h _ _ (fun q2 h2 => inX11_came (fun _ => m_event0 n1 (sgX11_came_4 (h_b0 (h2 _ hR))))))))
  | true =>
    obtain ⟨e, he, rfl⟩ := hr_t (by decide) b1
    refine s_event1 he (sgX10_came_4 (h_b1 ⟨vp_in_nI he (by decide), h _ _ (fun q2 h2 => inX11_came (fun _ => m_event1 he (sgX11_came_4 (h_b1 ⟨vp_in_nI he (by decide), ?_⟩))))⟩))
    rw [hR.1.2.2]
    exact h2 _ hR
/-- the tape grows alike -/
theorem Rel.tp {S : tc_S} (h : Rel S) {n c m : Nat} (hc : c ≤ 127) (hm : m ≤ 24) : Rel (tc_ui (tc_ui (tc_ui (tc_ui S 17 n (nI c)) 2 1 (nI m)) 38 n (nI c)) 34 4 (nI m)) := by
  obtain ⟨⟨a1, a2, a3⟩, b, ⟨c1, c2, c3, c4⟩, ⟨d1, d2⟩, e, f, g⟩ := h
  have r : ∀ j, j ≠ 17 → j ≠ 2 → j ≠ 38 → j ≠ 34 → (tc_ui (tc_ui (tc_ui (tc_ui S 17 n (nI c)) 2 1 (nI m)) 38 n (nI c)) 34 4 (nI m)).1 j = S.1 j := fun j h1 h2 h3 h4 => by rw [h_ui h4, h_ui h3, h_ui h2, h_ui h1]
  have e17 : (tc_ui (tc_ui (tc_ui (tc_ui S 17 n (nI c)) 2 1 (nI m)) 38 n (nI c)) 34 4 (nI m)).1 17 = upd (S.1 17) n (nI c) := by rw [h_ui (by decide), h_ui (by decide), h_ui (by decide), tc_ui_self]
  have e38 : (tc_ui (tc_ui (tc_ui (tc_ui S 17 n (nI c)) 2 1 (nI m)) 38 n (nI c)) 34 4 (nI m)).1 38 = upd (S.1 17) n (nI c) := by rw [h_ui (by decide), tc_ui_self, h_ui (by decide), h_ui (by decide), c1]
  have e2 : (tc_ui (tc_ui (tc_ui (tc_ui S 17 n (nI c)) 2 1 (nI m)) 38 n (nI c)) 34 4 (nI m)).1 2 = upd (S.1 2) 1 (nI m) := by rw [h_ui (by decide), h_ui (by decide), tc_ui_self, h_ui (by decide)]
  have e34 : (tc_ui (tc_ui (tc_ui (tc_ui S 17 n (nI c)) 2 1 (nI m)) 38 n (nI c)) 34 4 (nI m)).1 34 = upd (S.1 34) 4 (nI m) := by rw [tc_ui_self, h_ui (by decide), h_ui (by decide), h_ui (by decide)]
  unfold Rel cB
  rw [e17, e38, e2, e34, r 35 (by decide) (by decide) (by decide) (by decide), r 14 (by decide) (by decide) (by decide) (by decide), r 37 (by decide) (by decide) (by decide) (by decide), r 15 (by decide) (by decide) (by decide) (by decide), r 36 (by decide) (by decide) (by decide) (by decide), r 16 (by decide) (by decide) (by decide) (by decide), r 5 (by decide) (by decide) (by decide) (by decide), r 21 (by decide) (by decide) (by decide) (by decide), r 41 (by decide) (by decide) (by decide) (by decide), r 13 (by decide) (by decide) (by decide) (by decide), r 39 (by decide) (by decide) (by decide) (by decide)]
  refine ⟨⟨a1, a2, a3⟩, b, ⟨rfl, by rw [h_upd, h_upd], ⟨m, hm, h_upd⟩, fun i => ?_⟩, ⟨d1, by rw [h_updn (by decide)]; exact d2⟩, e, f, g⟩
  by_cases hi : i = n
  · exact ⟨c, hc, by rw [hi, h_upd]⟩
  · obtain ⟨c', h1, h2⟩ := c4 i
    exact ⟨c', h1, by rw [h_updn hi]; exact h2⟩
/-- the tape is empty -/
theorem Rel.t0 {S : tc_S} (h : Rel S) : Rel (tc_ui (tc_ui S 2 1 0) 34 4 0) := by
  obtain ⟨⟨a1, a2, a3⟩, b, ⟨c1, c2, c3, c4⟩, ⟨d1, d2⟩, e, f, g⟩ := h
  have r : ∀ j, j ≠ 2 → j ≠ 34 → (tc_ui (tc_ui S 2 1 0) 34 4 0).1 j = S.1 j := fun j h2 h4 => by rw [h_ui h4, h_ui h2]
  have e2 : (tc_ui (tc_ui S 2 1 0) 34 4 0).1 2 = upd (S.1 2) 1 0 := by rw [h_ui (by decide), tc_ui_self]
  have e34 : (tc_ui (tc_ui S 2 1 0) 34 4 0).1 34 = upd (S.1 34) 4 0 := by rw [tc_ui_self, h_ui (by decide)]
  unfold Rel cB
  rw [r 17 (by decide) (by decide), r 38 (by decide) (by decide), e2, e34, r 35 (by decide) (by decide), r 14 (by decide) (by decide), r 37 (by decide) (by decide), r 15 (by decide) (by decide), r 36 (by decide) (by decide), r 16 (by decide) (by decide), r 5 (by decide) (by decide), r 21 (by decide) (by decide), r 41 (by decide) (by decide), r 13 (by decide) (by decide), r 39 (by decide) (by decide)]
  exact ⟨⟨a1, a2, a3⟩, b, ⟨c1, by rw [h_upd, h_upd], ⟨0, by decide, h_upd⟩, c4⟩, ⟨d1, by rw [h_updn (by decide)]; exact d2⟩, e, f, g⟩
theorem p_wipe (hR : Rel S) (h : ∀ (x9 : Int32) S1, (∀ q2 : tc_Q, (∀ S2, Rel S2 → q2 (some (tc_I x9)) S2) → RX11_wipe [tc_R 0 34] S1 q2) → q (some (tc_I x9)) S1) : RX10_wipe [tc_R 0 0] S q := by
  refine inX10_wipe (fun P => inX9_clear (fun P2 => sgX10_wipe_7 (h _ _ (fun q2 h2 => inX11_wipe (fun P3 => ?_)))))
  unfold fmX11_wipe_0
  rw [h_ui (by decide), hR.2.2.1.2.1]
  exact h2 _ hR.t0
theorem p_key (hR : Rel S) (h : ∀ (x9 : Int32) S1, (∀ q2 : tc_Q, (∀ S2, Rel S2 → q2 (some (tc_I x9)) S2) → RX11_key [tc_R 0 34, tc_I x1] S1 q2) → q (some (tc_I x9)) S1) : RX10_key [tc_R 0 0, tc_I x1] S q := by
  refine inX10_key (fun P => ?_)
  cases b1 : hr 128 x1 with
  | false =>
    have n1 := hr_f (by decide) b1
    have hh : q (some (tc_I (-2))) S := h _ _ (fun q2 h2 => inX11_key (fun _ => m_within0 (n := 127) (by decide) n1 (sgX11_key_7 (h_b0 (h2 _ hR)))))
    exact h_gl0 (n := 127) (by decide) n1 hh hh
  | true =>
    obtain ⟨c, hc, rfl⟩ := hr_t (by decide) b1
    obtain ⟨n, hn, en⟩ := hR.2.2.1.2.2.1
    have e4 : S.1 34 4 = nI n := by rw [hR.2.2.1.2.1, en]
    refine h_gl1 (n := 127) (by decide) hc (inX9_put (fun P2 => ?_))
    unfold fmX9_put_0
    simp only [h_ui (show (2 : Nat) ≠ 17 by decide), en]
    rw [nI_clamp (by omega)]
    refine ⟨fun z => ?_, fun z => ?_⟩
    · have hlt : n < 24 := (nI_ltI (b := 24) (by omega) (by decide)).mp z
      refine ⟨vp_in_nI hlt (by decide), h_n1, sgX10_key_21 (h_b1 ?_)⟩
      rw [tc_ui_self, h_upd]
      refine h _ _ (fun q2 h2 => inX11_key (fun _ => m_within1 (n := 127) (by decide) hc (sgX11_key_7 (h_b1 ?_))))
      simp only [h_ui (show (34 : Nat) ≠ 38 by decide), h_ui (show (34 : Nat) ≠ 2 by decide), h_ui (show (34 : Nat) ≠ 17 by decide), e4, tc_ui_self, h_upd]
      rw [nI_clamp (by omega)]
      refine ⟨fun z2 => ?_, fun z2 => ⟨vp_in_nI hlt (by decide), ?_⟩⟩
      · have := (nI_eq (b := 24) (by omega) (by decide)).mp z2
        omega
      · have e9 := h2 _ (hR.tp (n := n) (c := c) (m := n + 1) (by omega) (by omega))
        rw [← nI_1] at e9
        exact e9
    · have hge : n = 24 := by
        rcases Nat.lt_or_ge n 24 with g | g
        · exact absurd (nI_lt g (by decide)) z
        · omega
      refine ⟨h_n0, sgX10_key_21 (h_b0 (h _ _ (fun q2 h2 => inX11_key (fun _ => m_within1 (n := 127) (by decide) hc (sgX11_key_7 (h_b1 ⟨fun _ => h2 _ hR, fun z2 => absurd ?_ z2⟩))))))⟩
      rw [e4, hge]
      rfl
end HPAIR
