/-! cut -/
theorem h_ge1 {n : Nat} {x : Int32} {A B C : Prop} (hn : n < 2 ^ 31) (hx : ¬ ∃ c, 1 ≤ c ∧ c ≤ n ∧ x = nI c) (h : A) (h2 : C) : (x < 1 → A) ∧ (¬ x < 1 → (x ≤ nI n → B) ∧ (¬ x ≤ nI n → C)) := by
  refine ⟨fun _ => h, fun z => ⟨fun z2 => ?_, fun _ => h2⟩⟩
  have z0 : ¬ x < 0 := by
    intro z3
    refine z (Int32.lt_iff_toInt_lt.mpr ?_)
    have := Int32.lt_iff_toInt_lt.mp z3
    have e0 : (0 : Int32).toInt = 0 := by decide
    have e1 : (1 : Int32).toInt = 1 := by decide
    omega
  obtain ⟨j, hj, rfl⟩ := nI_of z0
  refine absurd ⟨j, ?_, (nI_leI hj hn).mp z2, rfl⟩ hx
  rcases Nat.eq_zero_or_pos j with rfl | g
  · exact absurd (nI_lt (show 0 < 1 by omega) (by decide)) z
  · exact g
theorem h_ge2 {n : Nat} {x : Int32} {A B C : Prop} (hn : n < 2 ^ 31) (hx : ¬ ∃ c, 1 ≤ c ∧ c ≤ n ∧ x = nI c) (h : A) (h2 : B) : (x < 1 → A) ∧ (¬ x < 1 → (nI n < x → B) ∧ (¬ nI n < x → C)) := by
  have := h_ge1 (B := False) hn hx h h2
  refine ⟨this.1, fun z => ⟨fun _ => h2, fun z2 => ?_⟩⟩
  exact absurd (((this.2 z).1 (Int32.not_lt.mp z2))) (fun f => f)
section HCUTP
variable {q : tc_Q} {S : tc_S} {x1 : Int32} {c : Nat}
/-- how the cuts lie about c -/
theorem hCs_at (f : Nat → Int32) {m : Nat} (hm : m < 100) : hCs f 100 = hCs f m ++ ((if f (m + 1) = 0 then [] else [m + 1]) ++ hCr f (m + 1) (99 - m)) := by
  have e : hCs f (m + 1) = hCs f m ++ (if f (m + 1) = 0 then [] else [m + 1]) := by
    simp only [hCs]
    split
    · rw [List.append_nil]
    · rfl
  rw [← List.append_assoc, ← e, ← hCs_app, show m + 1 + (99 - m) = 100 by omega]
theorem hCs_updAt (f : Nat → Int32) {m : Nat} (hm : m < 100) (v : Int32) : hCs (upd f (m + 1) v) 100 = hCs f m ++ ((if v = 0 then [] else [m + 1]) ++ hCr f (m + 1) (99 - m)) := by
  rw [hCs_at _ hm, h_upd, hCs_congr m (fun i hi => h_updn (show i ≠ m + 1 by omega)), hCr_congr _ (fun i hi => h_updn (show i ≠ m + 1 by omega))]
theorem Rel.cut {S S1 : tc_S} (h : Rel S) {v : Int32} (hv : v = 0 ∨ v = 1) (hs : hS [5, 21] S S1) (hc : hCut (S1.1 5) (S1.1 21) (upd (S.1 41) c v)) : Rel (tc_ui S1 41 c v) := by
  obtain ⟨⟨a1, a2, a3⟩, b, ⟨c1, c2, c3, c4⟩, ⟨d1, d2⟩, e, f, g⟩ := h
  have r : ∀ j, j ≠ 41 → j ∉ [5, 21] → (tc_ui S1 41 c v).1 j = S.1 j := fun j h1 h2 => by rw [h_ui h1]; exact hs.1 j h2
  have e5 : (tc_ui S1 41 c v).1 5 = S1.1 5 := h_ui (by decide)
  have e21 : (tc_ui S1 41 c v).1 21 = S1.1 21 := h_ui (by decide)
  have e41 : (tc_ui S1 41 c v).1 41 = upd (S.1 41) c v := by rw [tc_ui_self, hs.1 41 (by decide)]
  have er : (tc_ui S1 41 c v).2.2 = S.2.2 := hs.2.2
  unfold Rel cB
  rw [r 35 (by decide) (by decide), r 14 (by decide) (by decide), r 37 (by decide) (by decide), r 15 (by decide) (by decide), r 36 (by decide) (by decide), r 16 (by decide) (by decide), r 38 (by decide) (by decide), r 17 (by decide) (by decide), r 2 (by decide) (by decide), r 34 (by decide) (by decide), er, e5, e21, e41, r 13 (by decide) (by decide), r 39 (by decide) (by decide)]
  exact ⟨⟨a1, a2, a3⟩, b, ⟨c1, c2, c3, c4⟩, ⟨d1, d2⟩, hc, f, g⟩
theorem m_within9 {n : Nat} (hn : n < 2 ^ 31) (h1 : 1 ≤ c) (h2 : c ≤ n) (h : q (some (tc_I 1)) S) : RX11_within [tc_I (nI c), tc_I 1, tc_I (nI n)] S q := inX11_within (fun _ => ⟨fun z => absurd z (nI_nlt (a := c) (b := 1) h1 (by omega)), fun _ => ⟨fun z => absurd z (nI_nlt h2 hn), fun _ => ⟨h_n1, h⟩⟩⟩)
theorem p_cut (hR : Rel S) (h : ∀ (x9 : Int32) S1, (∀ q2 : tc_Q, (∀ S2, Rel S2 → q2 (some (tc_I x9)) S2) → RX11_cut [tc_R 0 34, tc_I x1] S1 q2) → q (some (tc_I x9)) S1) : RX10_cut [tc_R 0 0, tc_I x1] S q := by
  refine inX10_cut (fun P => ?_)
  by_cases hx : ∃ c, 1 ≤ c ∧ c ≤ 100 ∧ x1 = nI c
  · obtain ⟨c, hc1, hc100, rfl⟩ := hx
    obtain ⟨m, rfl⟩ : ∃ m, c = m + 1 := ⟨c - 1, by omega⟩
    have hm : m < 100 := by omega
    have hcut := hR.2.2.2.2.1
    obtain ⟨k1, k2, k3, k4⟩ := id hcut
    have hat := hCs_at (S.1 41) hm
    refine ⟨fun z => absurd z (nI_nlt (a := m + 1) (b := 1) (by omega) (by omega)), fun _ => ⟨fun _ => inX0_flipCut (fun P2 h31 => s_binOf hcut (by omega) (sgX0_flipCut_5 ?_)), fun z => absurd (nI_le (by omega) (by decide)) z⟩⟩
    by_cases hz : S.1 41 (m + 1) = 0
    · -- there is none: put in
      rw [if_pos hz, List.nil_append] at hat
      have eb : hCs (S.1 41) (m + 1) = hCs (S.1 41) m := by simp only [hCs, if_pos hz]
      have hmle := hCs_len_le (S.1 41) (show m ≤ 100 by omega)
      rw [eb]
      have put : P2 31 [(0, tc_R 0 5), (1, tc_I (nI (m + 1))), (2, tc_I (nI (hCs (S.1 41) m).length))] [] S := by
        refine h31 _ _ _ ?_
        unfold fmX0_flipCut_31
        rw [k3]
        refine ⟨fun z => ?_, fun z => ?_⟩
        · have hlt : (hCs (S.1 41) 100).length < 9 := (nI_ltI (b := 9) (by omega) (by decide)).mp z
          refine s_insert k3 hlt (by omega) (fun S1 hs h51 hpt hlo hhi => sgX0_flipCut_48 ⟨h_n1, sgX10_cut_22 (h_b1 ?_)⟩)
          have enew := hCs_updAt (S.1 41) hm 1
          rw [if_neg (by decide)] at enew
          have elen : (hCs (upd (S.1 41) (m + 1) 1) 100).length = (hCs (S.1 41) 100).length + 1 := by
            rw [enew, hat]
            simp
            omega
          have hc' : hCut (S1.1 5) (S1.1 21) (upd (S.1 41) (m + 1) 1) := by
            refine ⟨fun i => ?_, by omega, by rw [h51, elen], fun i a hia => ?_⟩
            · by_cases e : i = m + 1
              · rw [e, h_upd]; exact Or.inr rfl
              · rw [h_updn e]; exact k1 i
            · rw [enew] at hia
              rcases Nat.lt_trichotomy i (hCs (S.1 41) m).length with g | g | g
              · rw [List.getElem?_append_left g] at hia
                rw [hlo i g]
                refine k4 i a ?_
                rw [hat, List.getElem?_append_left g]
                exact hia
              · rw [List.getElem?_append_right (by omega), g, Nat.sub_self] at hia
                have : m + 1 = a := Option.some.inj hia
                rw [g, hpt, this]
              · obtain ⟨i', rfl⟩ : ∃ i', i = i' + 1 := ⟨i - 1, by omega⟩
                have hil := (List.getElem?_eq_some_iff.mp hia).1
                rw [← enew, elen] at hil
                rw [List.getElem?_append_right (by omega), show i' + 1 - (hCs (S.1 41) m).length = (i' - (hCs (S.1 41) m).length) + 1 by omega] at hia
                rw [hhi i' (by omega) (by omega)]
                refine k4 i' a ?_
                rw [hat, List.getElem?_append_right (by omega)]
                exact hia
          rw [h51]
          refine h _ _ (fun q2 h2 => inX11_cut (fun P3 h34 h53 => m_within9 (by decide) hc1 hc100 (sgX11_cut_7 (h_b1 ?_))))
          have e41 := hs.1 41 (by decide)
          rw [nI_clamp (by omega), e41]
          refine ⟨vp_in_nI (by omega) (by decide), fun _ => m_cuts (sgX11_cut_26 ?_), fun z9 => absurd hz z9⟩
          rw [e41]
          refine ⟨fun z9 => ?_, fun _ => h34 _ _ ?_⟩
          · have := (nI_eq (b := 9) (by omega) (by decide)).mp z9
            omega
          · unfold fmX11_cut_34
            rw [nI_clamp (by omega), e41]
            refine ⟨vp_in_nI (by omega) (by decide), fun _ => h53 _ _ _ ?_, fun z9 => absurd hz z9⟩
            unfold fmX11_cut_53
            rw [nI_clamp (by omega), h_nb1]
            refine ⟨vp_in_nI (by omega) (by decide), m_cuts (sgX11_cut_58 ?_)⟩
            unfold fmX11_cut_58
            rw [tc_ui_self, e41, elen]
            exact h2 _ (hR.cut (Or.inr rfl) hs hc')
        · refine ⟨h_n0, sgX10_cut_22 (h_b0 (h _ _ (fun q2 h2 => inX11_cut (fun P3 h34 h53 => m_within9 (by decide) hc1 hc100 (sgX11_cut_7 (h_b1 ?_))))))⟩
          have h9 : (hCs (S.1 41) 100).length = 9 := by
            rcases Nat.lt_or_ge (hCs (S.1 41) 100).length 9 with g | g
            · exact absurd (nI_lt g (by decide)) z
            · omega
          rw [nI_clamp (by omega)]
          refine ⟨vp_in_nI (by omega) (by decide), fun _ => m_cuts (sgX11_cut_26 ⟨fun _ => h2 _ hR, fun z9 => absurd (by rw [h9]; rfl) z9⟩), fun z9 => absurd hz z9⟩
      refine ⟨fun _ => put, fun z => ?_⟩
      have hpos : 0 < (hCs (S.1 41) m).length := by
        rcases Nat.eq_zero_or_pos (hCs (S.1 41) m).length with g | g
        · exact absurd (by rw [g]; exact nI_le (Nat.le_refl 0) (by decide)) z
        · exact g
      obtain ⟨j, hj⟩ : ∃ j, (hCs (S.1 41) m).length = j + 1 := ⟨(hCs (S.1 41) m).length - 1, by omega⟩
      rw [hj, nI_pred, nI_clamp (by omega)]
      rw [hj] at put
      refine ⟨vp_in_nI (by omega) (by decide), fun z2 => ?_, fun _ => put⟩
      obtain ⟨a, ha⟩ : ∃ a, (hCs (S.1 41) m)[j]? = some a := ⟨_, List.getElem?_eq_getElem (by omega)⟩
      have ham := hCs_mem (S.1 41) m a (List.mem_of_getElem? ha)
      rw [k4 j a (by rw [hat, List.getElem?_append_left (by omega)]; exact ha)] at z2
      have := (nI_eq (by omega) (by omega)).mp z2
      omega
    · -- there is one: take it away
      rw [if_neg hz] at hat
      have eb : hCs (S.1 41) (m + 1) = hCs (S.1 41) m ++ [m + 1] := by simp only [hCs, if_neg hz]
      have elen0 : (hCs (S.1 41) 100).length = (hCs (S.1 41) m).length + 1 + (hCr (S.1 41) (m + 1) (99 - m)).length := by
        rw [hat]
        simp
        omega
      unfold fmX0_flipCut_5
      rw [eb, List.length_append, List.length_cons, List.length_nil, Nat.zero_add, nI_pred, nI_clamp (by omega)]
      refine ⟨fun z => absurd z (nI_nle (by omega) (by omega)), fun _ => ⟨vp_in_nI (by omega) (by decide), fun _ => ?_, fun z => ?_⟩⟩
      · obtain ⟨n, hn⟩ : ∃ n, (hCs (S.1 41) 100).length = n + 1 := ⟨(hCs (S.1 41) 100).length - 1, by omega⟩
        rw [hn] at k3
        refine s_remove k3 (by omega) (by omega) (fun S1 hs h51 hlo hhi => sgX0_flipCut_29 ⟨h_n1, sgX10_cut_22 (h_b1 ?_)⟩)
        have enew := hCs_updAt (S.1 41) hm 0
        rw [if_pos rfl, List.nil_append] at enew
        have elen : (hCs (upd (S.1 41) (m + 1) 0) 100).length = n := by
          rw [enew, List.length_append]
          omega
        have hc' : hCut (S1.1 5) (S1.1 21) (upd (S.1 41) (m + 1) 0) := by
          refine ⟨fun i => ?_, by omega, by rw [h51, elen], fun i a hia => ?_⟩
          · by_cases e : i = m + 1
            · rw [e, h_upd]; exact Or.inl rfl
            · rw [h_updn e]; exact k1 i
          · have hil := (List.getElem?_eq_some_iff.mp hia).1
            rw [elen] at hil
            rw [enew] at hia
            rcases Nat.lt_or_ge i (hCs (S.1 41) m).length with g | g
            · rw [List.getElem?_append_left g] at hia
              rw [hlo i g]
              refine k4 i a ?_
              rw [hat, List.getElem?_append_left g]
              exact hia
            · rw [List.getElem?_append_right g] at hia
              rw [hhi i g hil]
              refine k4 (i + 1) a ?_
              rw [hat, List.getElem?_append_right (by omega), show i + 1 - (hCs (S.1 41) m).length = (i - (hCs (S.1 41) m).length) + 1 by omega]
              exact hia
        rw [h51]
        refine h _ _ (fun q2 h2 => inX11_cut (fun P3 h34 h53 => m_within9 (by decide) hc1 hc100 (sgX11_cut_7 (h_b1 ?_))))
        have e41 := hs.1 41 (by decide)
        rw [nI_clamp (by omega), e41]
        refine ⟨vp_in_nI (by omega) (by decide), fun z9 => absurd z9 hz, fun _ => h34 _ _ ?_⟩
        unfold fmX11_cut_34
        rw [nI_clamp (by omega), e41]
        refine ⟨vp_in_nI (by omega) (by decide), fun z9 => absurd z9 hz, fun _ => h53 _ _ _ ?_⟩
        unfold fmX11_cut_53
        rw [nI_clamp (by omega), h_nb0]
        refine ⟨vp_in_nI (by omega) (by decide), m_cuts (sgX11_cut_58 ?_)⟩
        unfold fmX11_cut_58
        rw [tc_ui_self, e41, elen]
        exact h2 _ (hR.cut (Or.inl rfl) hs hc')
      · refine absurd ?_ z
        refine k4 _ (m + 1) ?_
        rw [hat, List.getElem?_append_right (Nat.le_refl _), Nat.sub_self]
        rfl
  · have hh : q (some (tc_I (-2))) S := h _ _ (fun q2 h2 => inX11_cut (fun _ _ _ => inX11_within (fun _ => h_ge2 (n := 100) (by decide) hx ⟨h_n0, sgX11_cut_7 (h_b0 (h2 _ hR))⟩ ⟨h_n0, sgX11_cut_7 (h_b0 (h2 _ hR))⟩)))
    exact h_ge1 (n := 100) (by decide) hx hh hh
end HCUTP
