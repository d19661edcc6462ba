/-! miss, score, lure, honest, rank -/
theorem Rel.cl {S : tc_S} (h : Rel S) (t n : Nat) : mL S t n = cL S t n := by
  unfold mL cL
  rw [h.1.1, h.1.2.1, h.1.2.2]
theorem hS.cB {w : List Nat} {S S' : tc_S} (h : hS w S S') (a : 14 ∉ w) (b : 15 ∉ w) (c : 16 ∉ w) (hb : cB S) : cB S' := by
  show hB (S'.1 14) (S'.1 15) (S'.1 16)
  rw [h.1 14 a, h.1 15 b, h.1 16 c]
  exact hb
theorem hS.mB {w : List Nat} {S S' : tc_S} (h : hS w S S') (a : 35 ∉ w) (b : 36 ∉ w) (c : 37 ∉ w) (hb : mB S) : mB S' := by
  show hB (S'.1 35) (S'.1 37) (S'.1 36)
  rw [h.1 35 a, h.1 36 b, h.1 37 c]
  exact hb
theorem hS.cL {w : List Nat} {S S' : tc_S} (h : hS w S S') (a : 14 ∉ w) (b : 15 ∉ w) (c : 16 ∉ w) (t n : Nat) : cL S' t n = cL S t n := by
  show hL (S'.1 14) (S'.1 15) (S'.1 16) t n = hL (S.1 14) (S.1 15) (S.1 16) t n
  rw [h.1 14 a, h.1 15 b, h.1 16 c]
theorem hS.mL {w : List Nat} {S S' : tc_S} (h : hS w S S') (a : 35 ∉ w) (b : 36 ∉ w) (c : 37 ∉ w) (t n : Nat) : mL S' t n = mL S t n := by
  show hL (S'.1 35) (S'.1 37) (S'.1 36) t n = hL (S.1 35) (S.1 37) (S.1 36) t n
  rw [h.1 35 a, h.1 36 b, h.1 37 c]
theorem l_lt {a b : Nat} (ha : a < 2 ^ 63) (hb : b < 2 ^ 63) : lN a < lN b ↔ a < b := by
  rw [Int64.lt_iff_toInt_lt, l_toInt ha, l_toInt hb]
  omega
theorem l_eq {a b : Nat} (ha : a < 2 ^ 63) (hb : b < 2 ^ 63) : lN a = lN b ↔ a = b := by
  constructor
  · intro h
    have e := congrArg Int64.toInt h
    rw [l_toInt ha, l_toInt hb] at e
    omega
  · intro h; rw [h]
theorem l_le {a b : Nat} (ha : a < 2 ^ 63) (hb : b < 2 ^ 63) : lN a ≤ lN b ↔ a ≤ b := by
  rw [Int64.le_iff_toInt_le, l_toInt ha, l_toInt hb]
  omega
theorem hSb_le {r b p : Nat} (hb : b ≤ 100) (hp : p ≤ 100) : hSb r b p ≤ 100000000 := by
  have h1 := hMi_le (r := r) hp true
  have h2 := hMi_le (r := r) hp false
  have h3 : b * hMi r p true ≤ b * 1000000 := Nat.mul_le_mul_left b h1
  have h4 : (100 - b) * hMi r p false ≤ (100 - b) * 1000000 := Nat.mul_le_mul_left _ h2
  unfold hSb
  omega
theorem hLuF_le (r b : Nat) : ∀ n, hLuF r b n ≤ n := by
  intro n
  induction n with
  | zero => exact Nat.le_refl 0
  | succ n ih =>
    simp only [hLuF]
    split <;> omega
theorem hHonF_le (r : Nat) : ∀ n, hHonF r n ≤ n := by
  intro n
  induction n with
  | zero => exact Nat.le_refl 0
  | succ n ih =>
    simp only [hHonF]
    split <;> omega
section HRULE
variable {q : tc_Q} {S : tc_S} {x1 x2 : Int32} {r b p t : Nat}
theorem p_miss (hR : Rel S) (h : ∀ (x9 : Int32) S1, (∀ q2 : tc_Q, (∀ S2, Rel S2 → q2 (some (tc_I x9)) S2) → RX11_miss [tc_R 0 34, tc_I x1, tc_I x2] S1 q2) → q (some (tc_I x9)) S1) : RX10_miss [tc_R 0 0, tc_I x1, tc_I x2] S q := by
  refine inX10_miss (fun P h34 => ?_)
  cases b1 : hr 101 x1 with
  | false =>
    have n1 := hr_f (by decide) b1
    exact s_chance0 n1 (sgX10_miss_4 (h_b0 (h _ _ (fun q2 h2 => inX11_miss (fun _ _ => m_within0 (n := 100) (by decide) n1 (sgX11_miss_7 (h_b0 (h2 _ hR))))))))
  | true =>
    obtain ⟨p, hp, rfl⟩ := hr_t (by decide) b1
    refine s_chance1 hp (sgX10_miss_4 (h_b1 ?_))
    cases b2 : hr 2 x2 with
    | false =>
      have n2 := hr_f (by decide) b2
      have hh : q (some (tc_I (-2))) S := h _ _ (fun q2 h2 => inX11_miss (fun _ _ => m_within1 (n := 100) (by decide) hp (sgX11_miss_7 (h_b1 (m_within0 (n := 1) (by decide) n2 (sgX11_miss_16 (h_b0 (h2 _ hR))))))))
      exact h_gl0 (n := 1) (by decide) n2 hh hh
    | true =>
      obtain ⟨c, hc, rfl⟩ := hr_t (by decide) b2
      obtain ⟨r1, r2⟩ := hR.2.2.2.1
      have go : ∀ y : Bool, P 34 [] [tc_I (h01 y), tc_I (nI p), tc_R 1 S.2.2] S ∨ True → (nI c = 1 ↔ y = true) → P 34 [] [tc_I (h01 y), tc_I (nI p), tc_R 1 S.2.2] S := by
        intro y _ hy
        refine h34 _ _ _ _ ⟨r1, s_miss r1 (by omega) (sgX10_miss_37 (h _ _ (fun q2 h2 => inX11_miss (fun P2 h31 => m_within1 (n := 100) (by decide) hp (sgX11_miss_7 (h_b1 (m_within1 (n := 1) (by decide) hc (sgX11_miss_16 (h_b1 ?_)))))))))⟩
        have go2 : P2 31 [] [tc_I (h01 y), tc_I (nI p), tc_R 0 34] S := h31 _ _ _ (m_miss r1 r2 (by omega) (sgX11_miss_34 (h2 _ hR)))
        refine ⟨fun z => ?_, fun z => ?_⟩
        · rw [hy.mp z] at go2
          exact go2
        · have : y = false := by
            cases y with
            | true => exact absurd (hy.mpr rfl) z
            | false => rfl
          rw [this] at go2
          exact go2
      refine h_gl1 (n := 1) (by decide) hc ⟨fun z => go true (Or.inr trivial) ⟨fun _ => rfl, fun _ => z⟩, fun z => go false (Or.inr trivial) ⟨fun z2 => absurd z2 z, fun z2 => by cases z2⟩⟩
theorem s_bel (hr4 : S.2.2 < 4) (hb : b ≤ 100) (hp : p ≤ 100) (h : q (some (tc_I (nI (hSb S.2.2 b p)))) S) : RX10_believedMiss [tc_R 0 0, tc_I (nI b), tc_I (nI p)] S q := by
  refine inX10_believedMiss (fun P => ⟨hr4, s_miss (y := true) hr4 hp (sgX10_believedMiss_10 ⟨hr4, s_miss (y := false) hr4 hp (sgX10_believedMiss_24 ?_)⟩)⟩)
  unfold fmX10_believedMiss_24
  rw [h_far hb, h_mul, h_mul, nI_add]
  exact h
theorem m_bel (hr4 : r < 4) (hru : S.1 34 9 = nI r) (hb : b ≤ 100) (hp : p ≤ 100) (h : q (some (tc_I (nI (hSb r b p)))) S) : RX11_sumBy [tc_R 0 34, tc_I (nI b), tc_I (nI p)] S q := by
  refine inX11_sumBy (fun P => m_miss (y := true) hr4 hru hp (sgX11_sumBy_7 (m_miss (y := false) hr4 hru hp (sgX11_sumBy_18 ?_))))
  unfold fmX11_sumBy_18
  rw [h_far hb, h_mul, h_mul, nI_add]
  exact h
theorem s_lure (hr4 : S.2.2 < 4) (hb : b ≤ 100) (h : q (some (tc_I (nI (hLu S.2.2 b)))) S) : RX10_leastBest [tc_R 0 0, tc_I (nI b)] S q := by
  refine inX10_leastBest (fun P h12 h40 => ?_)
  have loop : ∀ d n, n + d = 100 → P 12 [(0, tc_R 0 0), (1, tc_I (nI b)), (2, tc_I (nI (hLuF S.2.2 b n))), (3, tc_I (nI (hSb S.2.2 b (hLuF S.2.2 b n)))), (4, tc_I (nI (n + 1)))] [] S := by
    intro d
    induction d with
    | zero =>
      intro n hn
      have e : n = 100 := by omega
      subst e
      exact h12 _ _ _ _ _ ⟨fun _ => h, fun z => absurd (nI_lt (show 100 < 100 + 1 by omega) (by decide)) z⟩
    | succ d ih =>
      intro n hn
      have ih' := ih (n + 1) (by omega)
      rw [nI_succ (n + 1)] at ih'
      have hl := hLuF_le S.2.2 b n
      refine h12 _ _ _ _ _ ⟨fun z => absurd z (nI_nlt (show n + 1 ≤ 100 by omega) (by decide)), fun _ => s_bel hr4 hb (by omega) (sgX10_leastBest_26 ?_)⟩
      have b1 := hSb_le (r := S.2.2) hb (show n + 1 ≤ 100 by omega)
      have b2 := hSb_le (r := S.2.2) hb (show hLuF S.2.2 b n ≤ 100 by omega)
      refine ⟨fun z => h40 _ _ _ _ _ ?_, fun z => h40 _ _ _ _ _ ?_⟩
      · have z' := (nI_leI (by omega) (by omega)).mp z
        have e : hLuF S.2.2 b (n + 1) = hLuF S.2.2 b n := by
          show (if _ then _ else _) = _
          rw [if_neg (by omega)]
        rw [e] at ih'
        exact ih'
      · have z' : hSb S.2.2 b (n + 1) < hSb S.2.2 b (hLuF S.2.2 b n) := by
          rcases Nat.lt_or_ge (hSb S.2.2 b (n + 1)) (hSb S.2.2 b (hLuF S.2.2 b n)) with g | g
          · exact g
          · exact absurd (nI_le g (by omega)) z
        have e : hLuF S.2.2 b (n + 1) = n + 1 := by
          show (if _ then _ else _) = _
          rw [if_pos z']
        rw [e] at ih'
        exact ih'
  exact s_bel hr4 hb (Nat.zero_le _) (sgX10_leastBest_8 (loop 100 0 rfl))
theorem m_lure (hr4 : r < 4) (hru : S.1 34 9 = nI r) (hb : b ≤ 100) (h : q (some (tc_I (nI (hLu r b)))) S) : RX11_lureOf [tc_R 0 34, tc_I (nI b)] S q := by
  refine inX11_lureOf (fun P h4 h30 => ?_)
  have loop : ∀ d n, n + d = 100 → P 4 [(0, tc_R 0 34), (1, tc_I (nI b)), (2, tc_I (nI (hLuF r b n))), (3, tc_I (nI (n + 1)))] [] S := by
    intro d
    induction d with
    | zero =>
      intro n hn
      have e : n = 100 := by omega
      subst e
      exact h4 _ _ _ _ ⟨fun _ => h, fun z => absurd (nI_lt (show 100 < 100 + 1 by omega) (by decide)) z⟩
    | succ d ih =>
      intro n hn
      have ih' := ih (n + 1) (by omega)
      rw [nI_succ (n + 1)] at ih'
      have hl := hLuF_le r b n
      refine h4 _ _ _ _ ⟨fun z => absurd z (nI_nlt (show n + 1 ≤ 100 by omega) (by decide)), fun _ => m_bel hr4 hru hb (by omega) (sgX11_lureOf_16 (m_bel hr4 hru hb (by omega) (sgX11_lureOf_22 ?_)))⟩
      have b1 := hSb_le (r := r) hb (show n + 1 ≤ 100 by omega)
      have b2 := hSb_le (r := r) hb (show hLuF r b n ≤ 100 by omega)
      refine ⟨fun z => h30 _ _ _ _ ?_, fun z => h30 _ _ _ _ ?_⟩
      · have z' := (nI_leI (by omega) (by omega)).mp z
        have e : hLuF r b (n + 1) = hLuF r b n := by
          show (if _ then _ else _) = _
          rw [if_neg (by omega)]
        rw [e] at ih'
        exact ih'
      · have z' : hSb r b (n + 1) < hSb r b (hLuF r b n) := by
          rcases Nat.lt_or_ge (hSb r b (n + 1)) (hSb r b (hLuF r b n)) with g | g
          · exact g
          · exact absurd (nI_le g (by omega)) z
        have e : hLuF r b (n + 1) = n + 1 := by
          show (if _ then _ else _) = _
          rw [if_pos z']
        rw [e] at ih'
        exact ih'
  exact loop 100 0 rfl
theorem p_lure (hR : Rel S) (h : ∀ (x9 : Int32) S1, (∀ q2 : tc_Q, (∀ S2, Rel S2 → q2 (some (tc_I x9)) S2) → RX11_lure [tc_R 0 34, tc_I x1] S1 q2) → q (some (tc_I x9)) S1) : RX10_lure [tc_R 0 0, tc_I x1] S q := by
  refine inX10_lure (fun P => ?_)
  cases b1 : hr 101 x1 with
  | false =>
    have n1 := hr_f (by decide) b1
    exact s_chance0 n1 (sgX10_lure_4 (h_b0 (h _ _ (fun q2 h2 => inX11_lure (fun _ => m_within0 (n := 100) (by decide) n1 (sgX11_lure_7 (h_b0 (h2 _ hR))))))))
  | true =>
    obtain ⟨b, hb, rfl⟩ := hr_t (by decide) b1
    obtain ⟨r1, r2⟩ := hR.2.2.2.1
    exact s_chance1 hb (sgX10_lure_4 (h_b1 (s_lure r1 (by omega) (sgX10_lure_12 (h _ _ (fun q2 h2 => inX11_lure (fun _ => m_within1 (n := 100) (by decide) hb (sgX11_lure_7 (h_b1 (m_lure r1 r2 (by omega) (sgX11_lure_15 (h2 _ hR))))))))))))
theorem s_countHonest (hr4 : S.2.2 < 4) (h : q (some (tc_I (nI (hHonF S.2.2 101)))) S) : RX10_countHonest [tc_R 0 0] S q := by
  refine inX10_countHonest (fun P h4 h32 => ?_)
  have loop : ∀ d n, n + d = 101 → P 4 [(0, tc_R 0 0), (1, tc_I (nI (hHonF S.2.2 n))), (2, tc_I (nI n))] [] S := by
    intro d
    induction d with
    | zero =>
      intro n hn
      have e : n = 101 := by omega
      subst e
      exact h4 _ _ _ ⟨fun _ => h, fun z => absurd (nI_lt (show 100 < 101 by omega) (by decide)) z⟩
    | succ d ih =>
      intro n hn
      have ih' := ih (n + 1) (by omega)
      rw [nI_succ n] at ih'
      have hl := hLuF_le S.2.2 n 100
      have b1 := hSb_le (r := S.2.2) (show n ≤ 100 by omega) (show n ≤ 100 by omega)
      have b2 := hSb_le (r := S.2.2) (show n ≤ 100 by omega) (show hLu S.2.2 n ≤ 100 from hl)
      refine h4 _ _ _ ⟨fun z => absurd z (nI_nlt (show n ≤ 100 by omega) (by decide)), fun _ => s_bel hr4 (by omega) (by omega) (sgX10_countHonest_16 (s_lure hr4 (by omega) (sgX10_countHonest_23 (s_bel hr4 (by omega) hl (sgX10_countHonest_26 ⟨fun z => h32 _ _ _ ?_, fun z => h32 _ _ _ ?_⟩)))))⟩
      · have z' := (nI_eq (by omega) (by omega)).mp z
        have e : hHonF S.2.2 (n + 1) = hHonF S.2.2 n + 1 := by
          show hHonF S.2.2 n + (if _ then 1 else 0) = _
          rw [if_pos z']
        rw [e, nI_succ] at ih'
        exact ih'
      · have e : hHonF S.2.2 (n + 1) = hHonF S.2.2 n := by
          show hHonF S.2.2 n + (if _ then 1 else 0) = _
          rw [if_neg (fun z' => z (by rw [z']))]
          rfl
        rw [e] at ih'
        exact ih'
  exact loop 101 0 rfl
theorem m_honest (hr4 : r < 4) (hru : S.1 34 9 = nI r) (h : q (some (tc_I (nI (hHonF r 101)))) S) : RX11_honest [tc_R 0 34] S q := by
  refine inX11_honest (fun P h4 h35 => ?_)
  have loop : ∀ d n, n + d = 101 → P 4 [(0, tc_R 0 34), (1, tc_I (nI (hHonF r n))), (2, tc_I (nI n))] [] S := by
    intro d
    induction d with
    | zero =>
      intro n hn
      have e : n = 101 := by omega
      subst e
      exact h4 _ _ _ ⟨fun _ => h, fun z => absurd (nI_lt (show 100 < 101 by omega) (by decide)) z⟩
    | succ d ih =>
      intro n hn
      have ih' := ih (n + 1) (by omega)
      rw [nI_succ n] at ih'
      have hl := hLuF_le r n 100
      have b1 := hSb_le (r := r) (show n ≤ 100 by omega) (show n ≤ 100 by omega)
      have b2 := hSb_le (r := r) (show n ≤ 100 by omega) (show hLu r n ≤ 100 from hl)
      refine h4 _ _ _ ⟨fun z => absurd z (nI_nlt (show n ≤ 100 by omega) (by decide)), fun _ => m_bel hr4 hru (by omega) (by omega) (sgX11_honest_17 (m_lure hr4 hru (by omega) (sgX11_honest_24 (m_bel hr4 hru (by omega) hl (sgX11_honest_27 ⟨fun z => h35 _ _ _ _ ?_, fun z => h35 _ _ _ _ ?_⟩)))))⟩
      · have z' := (nI_eq (by omega) (by omega)).mp z
        have e : hHonF r (n + 1) = hHonF r n + 1 := by
          show hHonF r n + (if _ then 1 else 0) = _
          rw [if_pos z']
        rw [e, nI_succ (hHonF r n)] at ih'
        exact ih'
      · have e : hHonF r (n + 1) = hHonF r n := by
          show hHonF r n + (if _ then 1 else 0) = _
          rw [if_neg (fun z' => z (by rw [z']))]
          rfl
        rw [e] at ih'
        unfold fmX11_honest_35
        rw [Int32.add_zero]
        exact ih'
  exact loop 101 0 rfl
theorem Rel.hon {S : tc_S} (h : Rel S) {r : Nat} (hr4 : r < 4) : Rel (tc_ui S 13 r (nI (hHonF r 101))) := by
  obtain ⟨⟨a1, a2, a3⟩, b, ⟨c1, c2, c3, c4⟩, ⟨d1, d2⟩, e, f, g⟩ := h
  have rr : ∀ j, j ≠ 13 → (tc_ui S 13 r (nI (hHonF r 101))).1 j = S.1 j := fun j h2 => h_ui h2
  unfold Rel cB
  rw [rr 17 (by decide), rr 38 (by decide), rr 2 (by decide), rr 34 (by decide), rr 35 (by decide), rr 14 (by decide), rr 37 (by decide), rr 15 (by decide), rr 36 (by decide), rr 16 (by decide), rr 5 (by decide), rr 21 (by decide), rr 41 (by decide), tc_ui_self, rr 39 (by decide)]
  refine ⟨⟨a1, a2, a3⟩, b, ⟨c1, c2, c3, c4⟩, ⟨d1, d2⟩, e, fun k hk => ?_, g⟩
  by_cases hkr : k = r
  · rw [hkr, h_upd]; exact Or.inr rfl
  · rw [h_updn hkr]; exact f k hk
theorem p_honest (hR : Rel S) (h : ∀ (x9 : Int32) S1, (∀ q2 : tc_Q, (∀ S2, Rel S2 → q2 (some (tc_I x9)) S2) → RX11_honest [tc_R 0 34] S1 q2) → q (some (tc_I x9)) S1) : RX10_honest [tc_R 0 0] S q := by
  refine inX10_honest (fun P h31 => ?_)
  obtain ⟨r1, r2⟩ := hR.2.2.2.1
  have fin : ∀ S1, Rel S1 → S1.2.2 = S.2.2 → S1.1 13 S.2.2 = nI (hHonF S.2.2 101) → S1.1 34 9 = nI S.2.2 → P 31 [(0, tc_R 0 0)] [] S1 := by
    intro S1 hR1 e1 e2 e3
    refine h31 _ ?_
    unfold fmX10_honest_31
    rw [e1, nI_clamp (by omega), e2]
    exact ⟨r1, vp_in_nI r1 (by decide), h _ _ (fun q2 h2 => m_honest r1 e3 (h2 _ hR1))⟩
  unfold fmX10_honest_0
  rw [nI_clamp (by omega)]
  refine ⟨r1, vp_in_nI r1 (by decide), fun z => ⟨r1, s_countHonest r1 (sgX10_honest_30 ⟨vp_in_nI r1 (by decide), ?_⟩)⟩, fun z => fin S hR rfl ?_ r2⟩
  · rw [nI_clamp (by omega)]
    exact fin _ (hR.hon r1) rfl (by rw [tc_ui_self, h_upd]) (by rw [h_ui (by decide)]; exact r2)
  · rcases hR.2.2.2.2.2.1 S.2.2 r1 with g | g
    · exact absurd g z
    · exact g
/-- 0: the upper, else the lower number -/
def hPick (r : Rat) (j : Nat) : Int64 := if j = 0 then lI r.num else lN r.den
theorem s_pick {j : Nat} {f : Rat} (hf : hF7 S f) (hj : j < 2) (h : q (some (tc_J (hPick f j))) S) : RX4_pick [tc_R 0 7, tc_I (nI j)] S q := by
  refine inX4_pick (fun P => ?_)
  unfold fmX4_pick_0 hPick at *
  rw [hf.1, hf.2]
  refine ⟨fun z => ?_, fun z => ?_⟩
  · have e : j = 0 := (nI_eq (by omega) (by decide)).mp z
    rw [if_pos e] at h
    exact h
  · rw [if_neg (fun e => z (by rw [e]; rfl))] at h
    exact h
theorem m_part {j : Nat} {f : Rat} (hf : mF S f) (hj : j < 2) (h : q (some (tc_J (hPick f j))) S) : RX11_part [tc_R 0 34, tc_I (nI j)] S q := by
  refine inX11_part (fun P => ?_)
  unfold fmX11_part_0 hPick at *
  rw [hf.1, hf.2]
  refine ⟨fun z => ?_, fun z => ?_⟩
  · have e : j = 0 := (nI_eq (by omega) (by decide)).mp z
    rw [if_pos e] at h
    exact h
  · rw [if_neg (fun e => z (by rw [e]; rfl))] at h
    exact h
/-- findMeanMiss: the cases are gathered; the mean, if there is one, lies in result -/
theorem s_meanMiss (hb : cB S) (hr4 : S.2.2 < 4) (ht : t < 5) (h0 : (cL S t 40).length = 0 → ∀ S', cG S S' (cL S t 40) → q (some (tc_I 0)) S') (h1 : 0 < (cL S t 40).length → ∀ S', cG S S' (cL S t 40) → q (some (tc_I 1)) (hP7 S' (mkRat (hMS S.2.2 (cL S t 40)) (cL S t 40).length))) : RX10_findMeanMiss [tc_R 0 0, tc_I (nI t)] S q := by
  refine inX10_findMeanMiss (fun P => s_gather hb ht (fun S' hg => sgX10_findMeanMiss_12 ?_))
  have hc := cG_cC hb ht hg
  have hrr : S'.2.2 = S.2.2 := hg.1.2.2
  have hle := hMS_le (r := S.2.2) hc.2.1
  have hlen := hc.1
  unfold fmX10_findMeanMiss_12
  rw [hc.2.2.1, hrr]
  refine ⟨fun z => ⟨h_n0, h0 ((nI_eq (by omega) (by decide)).mp z) S' hg⟩, fun z => ?_⟩
  have hpos : 0 < (cL S t 40).length := by
    rcases Nat.eq_zero_or_pos (cL S t 40).length with g | g
    · exact absurd (by rw [g]; rfl) z
    · exact g
  refine s_missSum hr4 hc (sgX10_findMeanMiss_39 ?_)
  unfold fmX10_findMeanMiss_39
  rw [hc.2.2.1, nI_l (by omega), lN_lI (hMS _ _)]
  exact s_become7 (by omega) hpos (by omega) (sgX10_findMeanMiss_50 ⟨h_n1, h1 hpos S' hg⟩)
theorem p_score (hR : Rel S) (h : ∀ (x9 : Int64) S1, (∀ q2 : tc_Q, (∀ S2, Rel S2 → q2 (some (tc_J x9)) S2) → RX11_score [tc_R 0 34, tc_I x1, tc_I x2] S1 q2) → q (some (tc_J x9)) S1) : RX10_score [tc_R 0 0, tc_I x1, tc_I x2] S q := by
  refine inX10_score (fun P => ?_)
  cases b1 : hr 5 x1 with
  | false =>
    have n1 := hr_f (by decide) b1
    exact s_teller0 n1 (sgX10_score_4 (h_b0 (h _ _ (fun q2 h2 => inX11_score (fun _ => m_any0 n1 (sgX11_score_4 (h_b0 (h2 _ hR))))))))
  | true =>
    obtain ⟨t, ht, rfl⟩ := hr_t (by decide) b1
    refine s_teller1 ht (sgX10_score_4 (h_b1 ?_))
    cases b2 : hr 2 x2 with
    | false =>
      have n2 := hr_f (by decide) b2
      exact s_which0 n2 (sgX10_score_11 (h_b0 (h _ _ (fun q2 h2 => inX11_score (fun _ => m_any1 ht (sgX11_score_4 (h_b1 (m_within0 (n := 1) (by decide) n2 (sgX11_score_13 (h_b0 (h2 _ hR)))))))))))
    | true =>
      obtain ⟨j, hj, rfl⟩ := hr_t (by decide) b2
      obtain ⟨r1, r2⟩ := hR.2.2.2.1
      refine s_which1 hj (sgX10_score_11 (h_b1 (s_meanMiss hR.2.1 r1 ht (fun hl S' hg => sgX10_score_19 (h_b0 (h _ _ (fun q2 h2 => ?_)))) (fun hl S' hg => sgX10_score_19 (h_b1 (s_pick (hF7_put _ _) hj (sgX10_score_34 (h _ _ (fun q2 h2 => ?_)))))))))
      · have hR' : Rel S' := hR.fr (hg.1.wk (by decide)) (by rw [hg.1.1 34 (by decide)]) (by rw [hg.1.1 34 (by decide)])
        refine inX11_score (fun _ => m_any1 ht (sgX11_score_4 (h_b1 (m_within1 (n := 1) (by decide) hj (sgX11_score_13 (h_b1 (m_cases hR'.mb ht (sgX11_score_21 ?_))))))))
        rw [hR'.cl, hg.1.cL (by decide) (by decide) (by decide), hl]
        exact h_b0 (h2 _ hR')
      · have hs : hS [7, 4, 19, 20] S (hP7 S' (mkRat (hMS S.2.2 (cL S t 40)) (cL S t 40).length)) := hg.1.tr (hP7_s S' _) (by decide) (by decide)
        have hR' := hR.fr (hs.wk (by decide)) (by rw [hs.1 34 (by decide)]) (by rw [hs.1 34 (by decide)])
        have hru : (hP7 S' (mkRat (hMS S.2.2 (cL S t 40)) (cL S t 40).length)).1 34 9 = nI S.2.2 := by rw [hs.1 34 (by decide)]; exact r2
        have hm : mL (hP7 S' (mkRat (hMS S.2.2 (cL S t 40)) (cL S t 40).length)) t 40 = cL S t 40 := by rw [hR'.cl, hs.cL (by decide) (by decide) (by decide)]
        have hok : ∀ c ∈ cL S t 40, c.1 ≤ 100 := hL_ok hR.2.1 ht 40 (Nat.le_refl 40)
        have hle := hMS_le (r := S.2.2) hok
        have hlen : (cL S t 40).length ≤ 40 := hL_len (S.1 14) (S.1 15) (S.1 16) t 40
        refine inX11_score (fun _ => m_any1 ht (sgX11_score_4 (h_b1 (m_within1 (n := 1) (by decide) hj (sgX11_score_13 (h_b1 (m_cases hR'.mb ht (sgX11_score_21 ?_))))))))
        unfold fmX11_score_21
        rw [hm]
        refine ⟨fun z => absurd z (nI_ne0 hl (by omega)), fun _ => m_misses hR'.mb ht r1 hru (sgX11_score_34 (m_cases hR'.mb ht (sgX11_score_39 ?_)))⟩
        unfold fmX11_score_39
        rw [hm, nI_l (by omega), lN_lI (hMS _ _)]
        refine m_frac (by omega) hl (by omega) (sgX11_score_43 (m_part (mF_put _ _) hj (sgX11_score_48 (h2 _ ?_))))
        exact hR'.fr ((mP_s _ _).wk (by decide)) rfl rfl
end HRULE
