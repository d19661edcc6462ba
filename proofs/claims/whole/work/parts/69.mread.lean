/-! lines in the model -/
theorem hW_eq : ∀ w, w < 6 → hWm w = hWd (4 + w) := by decide
section MREAD
variable {q : tc_Q} {S : tc_S} {c : Nat → Nat} {n w p g idx : Nat}
def nFm (n : Nat) (S S' : tc_S) (p idx : Nat) : Prop := (hS [34, 40] S S' ∧ S'.1 34 4 = S.1 34 4 ∧ S'.1 34 9 = S.1 34 9 ∧ S'.1 34 7 = S.1 34 7) ∧ S'.1 34 6 = nI p ∧ p ≤ n ∧ ∀ j, j ≠ idx → S'.1 40 j = S.1 40 j
theorem m_isFig (h44 : S.1 34 4 = nI n) (hn : n ≤ 24) (hc : ∀ i, S.1 38 i = nI (c i) ∧ c i ≤ 127) (h34 : S.1 34 6 = nI p) (hp : p ≤ n) (h1 : (p < n ∧ 48 ≤ c p ∧ c p ≤ 57) → q (some (tc_I 1)) S) (h0 : ¬ (p < n ∧ 48 ≤ c p ∧ c p ≤ 57) → q (some (tc_I 0)) S) : RX11_isFigure [tc_R 0 34] S q := by
  refine inX11_isFigure (fun P => ?_)
  have hcp := (hc p).2
  unfold fmX11_isFigure_0
  rw [h44, h34, nI_clamp (by omega), (hc p).1]
  refine ⟨fun z => ⟨h_n0, h0 (fun g => ?_)⟩, fun z => ⟨vp_in_nI ?_ (by decide), inX11_within (fun _ => ⟨fun z2 => ⟨h_n0, sgX11_isFigure_27 (h_b0 ⟨h_n0, h0 (fun g => ?_)⟩)⟩, fun z2 => ⟨fun z3 => ⟨h_n0, sgX11_isFigure_27 (h_b0 ⟨h_n0, h0 (fun g => ?_)⟩)⟩, fun z3 => ⟨h_n1, sgX11_isFigure_27 (h_b1 ⟨h_n1, h1 ⟨?_, ?_, ?_⟩⟩)⟩⟩⟩)⟩⟩
  · have := (nI_leI (by omega) (by omega)).mp z
    omega
  · rcases Nat.lt_or_ge p n with g | g
    · omega
    · exact absurd (nI_le g (by omega)) z
  · exact nI_nlt g.2.1 (by omega) z2
  · exact nI_nlt g.2.2 (by decide) z3
  · rcases Nat.lt_or_ge p n with g | g
    · exact g
    · exact absurd (nI_le g (by omega)) z
  · rcases Nat.lt_or_ge (c p) 48 with g2 | g2
    · exact absurd (nI_lt g2 (by decide)) z2
    · exact g2
  · rcases Nat.lt_or_ge 57 (c p) with g2 | g2
    · exact absurd (nI_lt g2 (by omega)) z3
    · exact g2
theorem m_greatestN {i : Nat} (hw : w < 6) (hi : i < hMn w) (h : q (some (tc_I (nI (hGt w i)))) S) : RX11_greatest [tc_I (nI w), tc_I (nI i)] S q := by
  refine inX11_greatest (fun P => ?_)
  have hM := hMn_le w hw
  rcases (show w = 0 ∨ w = 1 ∨ w = 2 ∨ w = 3 ∨ w = 4 ∨ w = 5 by omega) with rfl | rfl | rfl | rfl | rfl | rfl
  · refine ⟨fun z => absurd z (by decide), fun _ => ⟨fun z => absurd z (by decide), fun _ => ⟨fun z => absurd z (by decide), fun _ => ?_⟩⟩⟩
    have h3 : i < 3 := hi
    rcases (show i = 0 ∨ i = 1 ∨ i = 2 by omega) with rfl | rfl | rfl
    · exact ⟨fun _ => h, fun z => absurd rfl z⟩
    · exact ⟨fun z => absurd z (by decide), fun _ => ⟨fun z => absurd z (by decide), fun _ => ⟨fun _ => h, fun z => absurd rfl z⟩⟩⟩
    · exact ⟨fun z => absurd z (by decide), fun _ => ⟨fun z => absurd z (by decide), fun _ => ⟨fun z => absurd z (by decide), fun _ => h⟩⟩⟩
  · refine ⟨fun z => absurd z (by decide), fun _ => ⟨fun z => absurd z (by decide), fun _ => ⟨fun z => absurd z (by decide), fun _ => ?_⟩⟩⟩
    have h3 : i < 2 := hi
    rcases (show i = 0 ∨ i = 1 by omega) with rfl | rfl
    · exact ⟨fun _ => h, fun z => absurd rfl z⟩
    · exact ⟨fun z => absurd z (by decide), fun _ => ⟨fun z => absurd z (by decide), fun _ => ⟨fun _ => h, fun z => absurd rfl z⟩⟩⟩
  · have h3 : i < 1 := hi
    have e : i = 0 := by omega
    subst e
    exact ⟨fun _ => h, fun z => absurd rfl z⟩
  · have h3 : i < 1 := hi
    have e : i = 0 := by omega
    subst e
    exact ⟨fun z => absurd z (by decide), fun _ => ⟨fun _ => h, fun z => absurd rfl z⟩⟩
  · have h3 : i < 1 := hi
    have e : i = 0 := by omega
    subst e
    exact ⟨fun z => absurd z (by decide), fun _ => ⟨fun z => absurd z (by decide), fun _ => ⟨fun _ => h, fun z => absurd rfl z⟩⟩⟩
  · refine ⟨fun z => absurd z (by decide), fun _ => ⟨fun z => absurd z (by decide), fun _ => ⟨fun z => absurd z (by decide), fun _ => ?_⟩⟩⟩
    have h3 : i < 2 := hi
    rcases (show i = 0 ∨ i = 1 by omega) with rfl | rfl
    · exact ⟨fun _ => h, fun z => absurd rfl z⟩
    · exact ⟨fun z => absurd z (by decide), fun _ => ⟨fun _ => h, fun z => absurd rfl z⟩⟩
theorem m_manyN (hw : w < 6) (h : q (some (tc_I (nI (hMn w)))) S) : RX11_manyNumbers [tc_I (nI w)] S q := by
  refine inX11_manyNumbers (fun P h18 => ?_)
  rcases (show w = 0 ∨ w = 1 ∨ w = 2 ∨ w = 3 ∨ w = 4 ∨ w = 5 by omega) with rfl | rfl | rfl | rfl | rfl | rfl
  · exact ⟨fun _ => h, fun z => absurd rfl z⟩
  · exact ⟨fun z => absurd z (by decide), fun _ => ⟨fun _ => h18 _ h, fun z => absurd rfl z⟩⟩
  · exact ⟨fun z => absurd z (by decide), fun _ => ⟨fun z => absurd z (by decide), fun _ => ⟨fun z => absurd z (by decide), fun _ => h⟩⟩⟩
  · exact ⟨fun z => absurd z (by decide), fun _ => ⟨fun z => absurd z (by decide), fun _ => ⟨fun z => absurd z (by decide), fun _ => h⟩⟩⟩
  · exact ⟨fun z => absurd z (by decide), fun _ => ⟨fun z => absurd z (by decide), fun _ => ⟨fun z => absurd z (by decide), fun _ => h⟩⟩⟩
  · exact ⟨fun z => absurd z (by decide), fun _ => ⟨fun z => absurd z (by decide), fun _ => ⟨fun _ => h18 _ h, fun z => absurd rfl z⟩⟩⟩
theorem m_readsNumber (hw : w < 6) (hidx : idx < hMn w) (h44 : S.1 34 4 = nI n) (h7 : S.1 34 7 = nI w) (hn : n ≤ 24) (hc : ∀ i, S.1 38 i = nI (c i) ∧ c i ≤ 127) (hp : p ≤ n) (h34 : S.1 34 6 = nI p) (hno : ¬ (p < n ∧ c p = 32) → q (some (tc_I 0)) S) (h1 : ∀ v p' S', p < n → c p = 32 → hNr c n (hGt w idx) 3 (p + 1) 0 = (some v, p') → nFm n S S' p' idx → S'.1 40 idx = nI v → q (some (tc_I 1)) S') (h0 : ∀ p' S', p < n → c p = 32 → hNr c n (hGt w idx) 3 (p + 1) 0 = (none, p') → nFm n S S' p' idx → q (some (tc_I 0)) S') : RX11_readsNumber [tc_R 0 34, tc_I (nI idx)] S q := by
  have hM := hMn_le w hw
  have hg := hGt_le w hw idx (by omega)
  refine inX11_readsNumber (fun P h41 h117 => ?_)
  have hin : vp_in (nI idx) 3 := vp_in_nI (by omega) (by decide)
  have put : ∀ S' p v, nFm n S S' p idx → nFm n S (tc_ui S' 40 idx (nI v)) p idx ∧ (tc_ui S' 40 idx (nI v)).1 40 idx = nI v := by
    intro S' p v hf
    obtain ⟨⟨f1, f2, f3, f4⟩, f5, f6, f7⟩ := hf
    refine ⟨⟨⟨f1.ui (by decide), f2, f3, f4⟩, f5, f6, fun j hj => ?_⟩, ?_⟩
    · simp only [h_row, reduceIte, h_updE, if_neg hj]
      exact f7 j hj
    · simp only [h_row, reduceIte, h_updE]
  have loop : ∀ d p v S', d ≤ 3 → p ≤ n → v ≤ hGt w idx → nFm n S S' p idx → (∀ v' p' S2, hNr c n (hGt w idx) d p v = (some v', p') → nFm n S S2 p' idx → S2.1 40 idx = nI v' → q (some (tc_I 1)) S2) → (∀ p' S2, hNr c n (hGt w idx) d p v = (none, p') → nFm n S S2 p' idx → q (some (tc_I 0)) S2) → P 41 [(0, tc_R 0 34), (1, tc_I (nI idx)), (2, tc_I (nI v)), (3, tc_I (nI (3 - d)))] [] S' := by
    intro d
    induction d with
    | zero =>
      intro p v S' hd hp hv hf y1 y0
      have fin : P 117 [(0, tc_R 0 34), (1, tc_I (nI idx)), (2, tc_I (nI v)), (3, tc_I (nI 3))] [] S' := by
        refine h117 _ _ _ _ ⟨hin, fun z => absurd z (by decide), fun _ => ⟨h_n1, ?_⟩⟩
        rw [nI_clamp (by omega)]
        obtain ⟨p1, p2⟩ := put S' p v hf
        exact y1 v p _ rfl p1 p2
      have e44 : S'.1 34 4 = nI n := hf.1.2.1.trans h44
      refine h41 _ _ _ _ (m_isFig e44 hn (by rw [hf.1.1.1 38 (by decide)]; exact hc) hf.2.1 hp (fun g => sgX11_readsNumber_45 (h_b1 ⟨fun _ => fin, fun z => absurd (nI_le (Nat.le_refl 3) (by decide)) z⟩)) (fun g => sgX11_readsNumber_45 (h_b0 fin)))
    | succ d ih =>
      intro p v S' hd hp hv hf y1 y0
      have hf0 := hf
      obtain ⟨⟨f1, f2, f3, f4⟩, f5, f6, f7⟩ := hf
      have e44 : S'.1 34 4 = nI n := f2.trans h44
      have e7 : S'.1 34 7 = nI w := f4.trans h7
      have ec : ∀ i, S'.1 38 i = nI (c i) ∧ c i ≤ 127 := by rw [f1.1 38 (by decide)]; exact hc
      have hcp := (hc p).2
      simp only [hNr] at y1 y0
      refine h41 _ _ _ _ (m_isFig e44 hn ec f5 hp (fun g2 => sgX11_readsNumber_45 (h_b1 ⟨fun z => absurd z (nI_ge (show 3 - (d + 1) < 3 by omega) (by decide)), fun _ => ?_⟩)) (fun g2 => sgX11_readsNumber_45 (h_b0 ?_)))
      · rw [if_pos g2] at y1 y0
        rw [f5, e7]
        refine ⟨vp_in_nI (by omega) (by decide), m_greatestN hw hidx (sgX11_readsNumber_78 ?_)⟩
        have ev : (10 : Int32) * nI v + nI (c p) - 48 = nI (v * 10 + c p - 48) := by
          rw [show (10 : Int32) = nI 10 from rfl, h_mul, nI_add, Nat.mul_comm 10]
          exact h_nsub (a := v * 10 + c p) (b := 48) (by omega)
        unfold fmX11_readsNumber_78
        rw [f5, nI_clamp (by omega), (ec p).1, ev]
        refine ⟨fun z3 => ⟨vp_in_nI (by omega) (by decide), ?_⟩, fun z3 => ⟨h_n0, ?_⟩⟩
        · have hv' := (nI_leI (by omega) (by omega)).mp z3
          rw [if_pos hv'] at y1 y0
          rw [← nI_succ, ← nI_succ, show 3 - (d + 1) + 1 = 3 - d by omega]
          refine ih (p + 1) _ _ (by omega) (by omega) hv' ⟨⟨f1.ui (by decide), ?_, ?_, ?_⟩, ?_, by omega, ?_⟩ y1 y0
          · simp only [h_row, reduceIte, h_updE, Nat.reduceEqDiff]
            exact f2
          · simp only [h_row, reduceIte, h_updE, Nat.reduceEqDiff]
            exact f3
          · simp only [h_row, reduceIte, h_updE, Nat.reduceEqDiff]
            exact f4
          · simp only [h_row, reduceIte, h_updE]
          · simp only [h_row, reduceIte, Nat.reduceEqDiff]
            exact f7
        · have hv' : ¬ v * 10 + c p - 48 ≤ hGt w idx := fun e => z3 (nI_le e (by omega))
          rw [if_neg hv'] at y0
          exact y0 p S' rfl hf0
      · rw [if_neg g2] at y1 y0
        refine h117 _ _ _ _ ⟨hin, fun z => ⟨h_n0, ?_⟩, fun z => ⟨h_n1, ?_⟩⟩
        · rw [nI_clamp (by omega)]
          have z0 := (nI_leI (b := 0) (by omega) (by decide)).mp z
          rw [if_pos (by omega)] at y0
          exact y0 p _ rfl (put S' p v hf0).1
        · rw [nI_clamp (by omega)]
          have z0 : ¬ d = 2 := fun e => z (by rw [e]; exact nI_le (Nat.le_refl 0) (by decide))
          rw [if_neg z0] at y1
          obtain ⟨p1, p2⟩ := put S' p v hf0
          exact y1 v p _ rfl p1 p2
  have hcp := (hc p).2
  unfold fmX11_readsNumber_0
  rw [h34, h44, nI_clamp (by omega), (hc p).1]
  refine ⟨fun z => ⟨h_n0, hno (fun g2 => ?_)⟩, fun z => ?_⟩
  · have := (nI_eq (by omega) (by omega)).mp z
    omega
  · have hpn : p < n := by
      rcases Nat.lt_or_ge p n with g2 | g2
      · exact g2
      · exact absurd (by rw [show p = n by omega]) z
    refine ⟨vp_in_nI (by omega) (by decide), fun z2 => ?_, fun z2 => ⟨h_n0, hno (fun g2 => z2 (by rw [g2.2]; rfl))⟩⟩
    have c32 : c p = 32 := (nI_eq (b := 32) (by omega) (by decide)).mp z2
    rw [← nI_succ]
    refine loop 3 (p + 1) 0 _ (Nat.le_refl 3) (by omega) (Nat.zero_le _) ⟨⟨(hS.rf _ S).ui (by decide), ?_, ?_, ?_⟩, ?_, by omega, ?_⟩ (fun v p' S2 hr hf hv => h1 v p' S2 hpn c32 hr hf hv) (fun p' S2 hr hf => h0 p' S2 hpn c32 hr hf)
    · simp only [h_row, reduceIte, h_updE, Nat.reduceEqDiff]
    · simp only [h_row, reduceIte, h_updE, Nat.reduceEqDiff]
    · simp only [h_row, reduceIte, h_updE, Nat.reduceEqDiff]
    · simp only [h_row, reduceIte, h_updE]
    · intro j hj
      simp only [h_row, reduceIte, Nat.reduceEqDiff]
end MREAD
