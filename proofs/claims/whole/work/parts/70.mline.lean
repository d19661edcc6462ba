/-! the model reads a line -/
def hMt (f : Nat → Int32) (n w : Nat) : Prop := 0 < n ∧ f 0 = (hWm w).getD 0 0
def mR (S S' : tc_S) : Prop := hS [34, 40] S S' ∧ S'.1 34 4 = S.1 34 4 ∧ S'.1 34 9 = S.1 34 9
theorem mR.rf (S : tc_S) : mR S S := ⟨hS.rf _ S, rfl, rfl⟩
theorem mR.tr {S S1 S2 : tc_S} (h1 : mR S S1) (h2 : mR S1 S2) : mR S S2 := ⟨h1.1.tt h2.1, h2.2.1.trans h1.2.1, h2.2.2.trans h1.2.2⟩
theorem mR.u6 {S S' : tc_S} (h : mR S S') {x : Int32} : mR S (tc_ui S' 34 6 x) := ⟨h.1.ui (by decide), by simp only [h_row, reduceIte, h_updE, Nat.reduceEqDiff]; exact h.2.1, by simp only [h_row, reduceIte, h_updE, Nat.reduceEqDiff]; exact h.2.2⟩
theorem mR.u7 {S S' : tc_S} (h : mR S S') {x : Int32} : mR S (tc_ui S' 34 7 x) := ⟨h.1.ui (by decide), by simp only [h_row, reduceIte, h_updE, Nat.reduceEqDiff]; exact h.2.1, by simp only [h_row, reduceIte, h_updE, Nat.reduceEqDiff]; exact h.2.2⟩
theorem hW_ne : ∀ i, i < 6 → ∀ j, j < 6 → i ≠ j → ¬ (hWm i).getD 0 0 = (hWm j).getD 0 0 := by decide
theorem hW_pos : ∀ w, w < 6 → 0 < (hWm w).length := by decide
theorem hMt_one {f : Nat → Int32} {n i j : Nat} (hi : i < 6) (hj : j < 6) (h1 : hMt f n i) (h2 : hMt f n j) : i = j := by
  rcases Nat.decEq i j with g | g
  · exact absurd (h1.2.symm.trans h2.2) (hW_ne i hi j hj g)
  · exact g
section MLINE
variable {q : tc_Q} {S : tc_S} {c : Nat → Nat} {n w p : Nat}
/-- 6 words are tried -/
theorem m_word8 (h44 : S.1 34 4 = nI n) (hn : n ≤ 24) (hg : ∀ i x, hSg[i]? = some x → S.1 39 i = x) (P : Nat → tc_B) (h8 : ∀ (x1 : Int32) (S : tc_S), fmX11_readsWord_8 P q x1 S → P 8 [(0, tc_R 0 34), (1, tc_I x1)] [] S) (h48 : ∀ (x1 : Int32) (s0 : Int32) (S : tc_S), fmX11_readsWord_48 P q x1 s0 S → P 48 [(0, tc_R 0 34), (1, tc_I x1)] [tc_I s0, tc_R 0 34] S) (hA : (∀ w, w < 6 → ¬ hMt (S.1 38) n w) → ∀ S2, mR S S2 → S2.1 34 7 = -9 → P 57 [(0, tc_R 0 34)] [] S2) (hB : ∀ w, w < 6 → hMt (S.1 38) n w → ∀ S2, mR S S2 → S2.1 34 7 = nI w → P 57 [(0, tc_R 0 34)] [] S2) : ∀ d x S', x + d = 6 → mR S S' → ((∀ w, w < x → ¬ hMt (S.1 38) n w) ∧ S'.1 34 7 = -9 ∨ ∃ w, w < x ∧ hMt (S.1 38) n w ∧ S'.1 34 7 = nI w) → P 8 [(0, tc_R 0 34), (1, tc_I (nI x))] [] S' := by
  intro d
  induction d with
  | zero =>
    intro x S' hx hs hcur
    have e : x = 6 := by omega
    subst e
    refine h8 _ _ ⟨fun _ => ?_, fun z => absurd (nI_le (Nat.le_refl 6) (by decide)) z⟩
    rcases hcur with ⟨g1, g2⟩ | ⟨w, g1, g2, g3⟩
    · exact hA g1 S' hs g2
    · exact hB w g1 g2 S' hs g3
  | succ d ih =>
    intro x S' hx hs hcur
    have e44 : S'.1 34 4 = nI n := hs.2.1.trans h44
    refine h8 _ _ ⟨fun z => absurd z (nI_ge (show x < 6 by omega) (by decide)), fun _ => ?_⟩
    rw [e44]
    refine ⟨fun z => ?_, fun z => ?_⟩
    · have n0 := (nI_leI (b := 0) (by omega) (by decide)).mp z
      have no : ∀ w, ¬ hMt (S.1 38) n w := fun w g => by have := g.1; omega
      rcases hcur with ⟨g1, g2⟩ | ⟨w, g1, g2, g3⟩
      · exact hA (fun w _ => no w) S' hs g2
      · exact absurd g2 (no w)
    · have n0 : 0 < n := by
        rcases Nat.eq_zero_or_pos n with g | g
        · exact absurd (by rw [g]; exact nI_le (Nat.le_refl 0) (by decide)) z
        · exact g
      have ix : (6 * nI x : Int32) = nI (6 * x) := by rw [show (6 : Int32) = nI 6 from rfl, h_mul]
      have hat := hWm_at x (by omega) 0 (by decide)
      rw [Nat.add_zero] at hat
      rw [ix, nI_clamp (by omega), h_c0, hs.1.1 39 (by decide), hg _ _ hat, hs.1.1 38 (by decide)]
      refine ⟨vp_in_nI (n := 0) (by decide) (by decide), vp_in_nI (by omega) (by decide), fun z2 => h48 _ _ _ ?_, fun z2 => h48 _ _ _ ?_⟩
      · have := ih (x + 1) (tc_ui S' 34 7 (nI x)) (by omega) hs.u7 (Or.inr ⟨x, by omega, ⟨n0, z2⟩, by simp only [h_row, reduceIte, h_updE]⟩)
        rw [nI_succ x] at this
        exact this
      · have := ih (x + 1) (tc_ui S' 34 7 (S'.1 34 7)) (by omega) hs.u7 (by
          simp only [h_row, reduceIte, h_updE]
          rcases hcur with ⟨g1, g2⟩ | ⟨w, g1, g2, g3⟩
          · refine Or.inl ⟨fun w hw g => ?_, g2⟩
            rcases Nat.lt_or_ge w x with g3 | g3
            · exact g1 w g3 g
            · rw [show w = x by omega] at g
              exact z2 g.2
          · exact Or.inr ⟨w, by omega, g2, g3⟩)
        rw [nI_succ x] at this
        exact this
theorem m_readsWord (h44 : S.1 34 4 = nI n) (hn : n ≤ 24) (hg : ∀ i x, hSg[i]? = some x → S.1 39 i = x) (hA : (∀ w, w < 6 → ¬ hMt (S.1 38) n w) → ∀ S', mR S S' → S'.1 34 6 = nI 0 → q (some (tc_I 0)) S') (hB1 : ∀ w, w < 6 → hMt (S.1 38) n w → ¬ hSh (S.1 38) n (hWm w) < (hWm w).length → ∀ S', mR S S' → S'.1 34 7 = nI w → S'.1 34 6 = nI (hWm w).length → q (some (tc_I 1)) S') (hB0 : ∀ w, w < 6 → hMt (S.1 38) n w → hSh (S.1 38) n (hWm w) < (hWm w).length → ∀ S', mR S S' → S'.1 34 6 = nI (hSh (S.1 38) n (hWm w)) → q (some (tc_I 0)) S') : RX11_readsWord [tc_R 0 34] S q := by
  refine inX11_readsWord (fun P h8 h48 h57 h83 h84 => ?_)
  refine m_word8 h44 hn hg P h8 h48 (fun hno S2 s2 e7 => h57 _ ?_) (fun w hw hm S2 s2 e7 => h57 _ ?_) 6 0 _ rfl (mR.rf S).u7 (Or.inl ⟨fun w hw => absurd hw (by omega), by simp only [h_row, reduceIte, h_updE]⟩)
  · have e7' : (tc_ui S2 34 6 0).1 34 7 = -9 := by simp only [h_row, reduceIte, h_updE, Nat.reduceEqDiff]; exact e7
    have e6 : (tc_ui S2 34 6 0).1 34 6 = 0 := by simp only [h_row, reduceIte, h_updE]
    have e4 : (tc_ui S2 34 6 0).1 34 4 = nI n := s2.u6.2.1.trans h44
    unfold fmX11_readsWord_57
    rw [e7']
    refine ⟨fun _ => h83 _ _ (h84 _ _ ?_), fun z => absurd rfl z⟩
    unfold fmX11_readsWord_84
    rw [e7', e6, e4]
    have fin := hA hno _ s2.u6 e6
    exact ⟨fun z => absurd z (by decide), fun _ => ⟨fun _ => ⟨h_n0, fin⟩, fun _ => ⟨fun _ => ⟨h_n0, fin⟩, fun z => absurd rfl z⟩⟩⟩
  · have hle := hWm_le w (by omega)
    have e7' : (tc_ui S2 34 6 0).1 34 7 = nI w := by simp only [h_row, reduceIte, h_updE, Nat.reduceEqDiff]; exact e7
    have s3 := s2.u6 (x := 0)
    unfold fmX11_readsWord_57
    rw [e7']
    have w9 : ¬ nI w = -9 := h_neg9 w (by omega)
    refine ⟨fun z => absurd z w9, fun _ => m_wordLong (by omega) (by rw [s3.1.1 39 (by decide)]; exact hg) (h83 _ _ ?_)⟩
    have loop : ∀ d i S', i + d = (hWm w).length → i ≤ n → mR S S' → S'.1 34 7 = nI w → S'.1 34 6 = nI i → (∀ S4, ¬ hShF (S.1 38) n (hWm w) d i < (hWm w).length → mR S S4 → S4.1 34 7 = nI w → S4.1 34 6 = nI (hWm w).length → q (some (tc_I 1)) S4) → (∀ S4, hShF (S.1 38) n (hWm w) d i < (hWm w).length → mR S S4 → S4.1 34 6 = nI (hShF (S.1 38) n (hWm w) d i) → q (some (tc_I 0)) S4) → P 84 [(0, tc_R 0 34), (1, tc_I (nI (hWm w).length))] [] S' := by
      intro d
      induction d with
      | zero =>
        intro i S' hi hin s' a7 a6 y1 y0
        refine h84 _ _ ?_
        unfold fmX11_readsWord_84
        rw [a6]
        refine ⟨fun _ => ⟨h_n1, y1 S' (by simp only [hShF]; omega) s' a7 (by rw [a6]; congr 1)⟩, fun z => absurd (nI_le (by omega) (by omega)) z⟩
      | succ d ih =>
        intro i S' hi hin s' a7 a6 y1 y0
        have a4 : S'.1 34 4 = nI n := s'.2.1.trans h44
        have ix : (6 * nI w + nI i : Int32) = nI (6 * w + i) := by rw [show (6 : Int32) = nI 6 from rfl, h_mul, nI_add]
        have stop : ¬ (i < n ∧ S.1 38 i = (hWm w).getD i 0) → q (some (tc_I 0)) S' := by
          intro g
          have e : hShF (S.1 38) n (hWm w) (d + 1) i = i := by simp only [hShF, if_neg g]
          rw [e] at y0
          exact y0 S' (by omega) s' a6
        refine h84 _ _ ?_
        unfold fmX11_readsWord_84
        rw [a6, a7, a4]
        refine ⟨fun z => absurd z (nI_ge (show i < (hWm w).length by omega) (by omega)), fun _ => ⟨fun z => ⟨h_n0, stop (fun g => ?_)⟩, fun z => ⟨fun z2 => absurd z2 w9, fun _ => ?_⟩⟩⟩
        · have := (nI_eq (by omega) (by omega)).mp z
          omega
        · have hilt : i < n := by
            rcases Nat.lt_or_ge i n with g2 | g2
            · exact g2
            · exact absurd (by rw [show i = n by omega]) z
          rw [ix, nI_clamp (by omega), nI_clamp (by omega), s'.1.1 39 (by decide), hg _ _ (hWm_at w (by omega) i (by omega)), s'.1.1 38 (by decide)]
          refine ⟨vp_in_nI (by omega) (by decide), vp_in_nI (by omega) (by decide), fun z2 => ?_, fun z2 => ⟨h_n0, stop (fun g => z2 g.2)⟩⟩
          have e : hShF (S.1 38) n (hWm w) (d + 1) i = hShF (S.1 38) n (hWm w) d (i + 1) := by simp only [hShF, if_pos (show i < n ∧ S.1 38 i = (hWm w).getD i 0 from ⟨hilt, z2⟩)]
          rw [e] at y1 y0
          rw [← nI_succ]
          exact ih (i + 1) _ (by omega) (by omega) s'.u6 (by simp only [h_row, reduceIte, h_updE, Nat.reduceEqDiff]; exact a7) (by simp only [h_row, reduceIte, h_updE]) y1 y0
    exact loop (hWm w).length 0 _ (Nat.zero_add _) (Nat.zero_le n) s3 e7' (by simp only [h_row, reduceIte, h_updE]; rfl) (fun S4 g s4 a7 a6 => hB1 w hw hm g S4 s4 a7 a6) (fun S4 g s4 a6 => hB0 w hw hm g S4 s4 a6)
theorem m_readsLine (h44 : S.1 34 4 = nI n) (hn : n ≤ 24) (hg : ∀ i x, hSg[i]? = some x → S.1 39 i = x) (hc : ∀ i, S.1 38 i = nI (c i) ∧ c i ≤ 127) (hA : (∀ w, w < 6 → ¬ hMt (S.1 38) n w) → ∀ S', mR S S' → S'.1 34 6 = nI 0 → q (some (tc_I 0)) S') (hB1 : ∀ w, w < 6 → hMt (S.1 38) n w → ∀ vs p S', hLn (S.1 38) c n w = (some vs, p) → mR S S' → S'.1 34 7 = nI w → (∀ j v, vs[j]? = some v → S'.1 40 j = nI v) → q (some (tc_I 1)) S') (hB0 : ∀ w, w < 6 → hMt (S.1 38) n w → ∀ p S', hLn (S.1 38) c n w = (none, p) → mR S S' → S'.1 34 6 = nI p → q (some (tc_I 0)) S') : RX11_readsLine [tc_R 0 34] S q := by
  refine inX11_readsLine (fun P h11 => m_readsWord h44 hn hg (fun hno S' s' e6 => sgX11_readsLine_4 (h_b0 ⟨h_n0, hA hno S' s' e6⟩)) (fun w hw hm hge S1 s1 e7 e6 => sgX11_readsLine_4 (h_b1 ?_)) (fun w hw hm hlt S1 s1 e6 => sgX11_readsLine_4 (h_b0 ⟨h_n0, hB0 w hw hm _ S1 ?_ s1 e6⟩)))
  · have hle := hWm_le w (by omega)
    have hM := hMn_le w hw
    have hsn := hSh_n (S.1 38) n (hWm w)
    have y1 := hB1 w hw hm
    have y0 := hB0 w hw hm
    unfold hLn at y1 y0
    rw [← hW_eq w hw, if_neg hge] at y1 y0
    have loop : ∀ d i p S', i + d = hMn w → p ≤ n → mR S S' → S'.1 34 7 = nI w → S'.1 34 6 = nI p → (∀ vs p' S2, hNm c n w d i p = (some vs, p') → p' ≤ n → mR S S2 → S2.1 34 7 = nI w → S2.1 34 6 = nI p' → (∀ j, j < i → S2.1 40 j = S'.1 40 j) → (∀ j v, vs[j]? = some v → S2.1 40 (i + j) = nI v) → (S2.1 34 6 = S2.1 34 4 → narrow .boolean (.int 1) = .int 1 ∧ q (some (tc_I 1)) S2) ∧ (¬ S2.1 34 6 = S2.1 34 4 → narrow .boolean (.int 0) = .int 0 ∧ q (some (tc_I 0)) S2)) → (∀ p' S2, hNm c n w d i p = (none, p') → mR S S2 → S2.1 34 6 = nI p' → q (some (tc_I 0)) S2) → P 11 [(0, tc_R 0 34), (1, tc_I (nI i))] [] S' := by
      intro d
      induction d with
      | zero =>
        intro i p S' hi hp s' a7 a6 z1 z0
        refine h11 _ _ ?_
        unfold fmX11_readsLine_11
        rw [a7]
        exact m_manyN hw (sgX11_readsLine_19 ⟨fun _ => z1 [] p S' rfl hp s' a7 a6 (fun _ _ => rfl) (fun j v hv => by simp at hv), fun z => absurd (nI_le (by omega) (by omega)) z⟩)
      | succ d ih =>
        intro i p S' hi hp s' a7 a6 z1 z0
        have a4 : S'.1 34 4 = nI n := s'.2.1.trans h44
        simp only [hNm] at z1 z0
        refine h11 _ _ ?_
        unfold fmX11_readsLine_11
        rw [a7]
        refine m_manyN hw (sgX11_readsLine_19 ⟨fun z => absurd z (nI_ge (by omega) (by omega)), fun _ => m_readsNumber (c := c) (p := p) hw (show i < hMn w by omega) a4 a7 hn (by rw [s'.1.1 38 (by decide)]; exact hc) hp a6 (fun g => sgX11_readsLine_27 (h_b0 ⟨h_n0, ?_⟩)) (fun v p' S3 hpn h32 hr hf hv => sgX11_readsLine_27 (h_b1 ?_)) (fun p' S3 hpn h32 hr hf => sgX11_readsLine_27 (h_b0 ⟨h_n0, ?_⟩))⟩)
        · rw [if_neg g] at z0
          exact z0 p S' rfl s' a6
        · rw [if_pos ⟨hpn, h32⟩, hr] at z1 z0
          simp only at z1 z0
          obtain ⟨⟨f1, f2, f3, f4⟩, f5, f6, f7⟩ := hf
          have := ih (i + 1) p' S3 (by omega) f6 (s'.tr ⟨f1, f2, f3⟩) (f4.trans a7) f5 (fun vs p'' S4 hm2 hp'' s4 b7 b6 b3 b4 => by
            rw [hm2] at z1
            refine z1 (v :: vs) p'' S4 rfl hp'' s4 b7 b6 (fun j hj => ?_) (fun j u hu => ?_)
            · rw [b3 j (by omega), f7 j (by omega)]
            · cases j with
              | zero =>
                have : v = u := by simpa using hu
                rw [← this, Nat.add_zero, b3 i (by omega), hv]
              | succ j =>
                have := b4 j u (by simpa using hu)
                rw [← this, show i + (j + 1) = i + 1 + j by omega]) (fun p'' S4 hm2 s4 b6 => by
            rw [hm2] at z0
            exact z0 p'' S4 rfl s4 b6)
          rw [nI_succ i] at this
          exact this
        · rw [if_pos ⟨hpn, h32⟩, hr] at z0
          obtain ⟨⟨f1, f2, f3, f4⟩, f5, f6, f7⟩ := hf
          exact z0 p' S3 rfl (s'.tr ⟨f1, f2, f3⟩) f5
    refine loop (hMn w) 0 (hWm w).length S1 (by omega) (by omega) s1 e7 e6 (fun vs p' S2 hm2 hp' s2 b7 b6 _ b4 => ?_) (fun p' S2 hm2 s2 b6 => ?_)
    · rw [hm2] at y1 y0
      simp only at y1 y0
      rw [b6, s2.2.1, h44]
      refine ⟨fun z => ⟨h_n1, ?_⟩, fun z => ⟨h_n0, ?_⟩⟩
      · have e := (nI_eq (by omega) (by omega)).mp z
        rw [if_pos e] at y1
        exact y1 vs p' S2 rfl s2 b7 (fun j v hv => by
          have := b4 j v hv
          rw [Nat.zero_add] at this
          exact this)
      · have e : ¬ p' = n := fun e => z (by rw [e])
        rw [if_neg e] at y0
        exact y0 p' S2 rfl s2 b6
    · rw [hm2] at y0
      exact y0 p' S2 rfl s2 b6
  · unfold hLn
    rw [← hW_eq w hw, if_pos hlt]
end MLINE
