/-! misses, sums of them; the model's book -/
def hFar (p : Nat) (y : Bool) : Nat := if y then 100 - p else p
def hMi (r p : Nat) (y : Bool) : Nat := match r with
  | 0 => hFar p y * hFar p y
  | 1 => hFar p y
  | 2 => if hFar p y = 50 then 50 else if 50 < hFar p y then 100 else 0
  | _ => hFar p y * hFar p y * hFar p y
theorem hFar_le {p : Nat} (hp : p ≤ 100) (y : Bool) : hFar p y ≤ 100 := by
  unfold hFar
  split <;> omega
theorem hMi_le {r p : Nat} (hp : p ≤ 100) (y : Bool) : hMi r p y ≤ 1000000 := by
  have h := hFar_le hp y
  have h1 : hFar p y * hFar p y ≤ 100 * 100 := Nat.mul_le_mul h h
  have h2 : hFar p y * hFar p y * hFar p y ≤ 100 * 100 * 100 := Nat.mul_le_mul h1 h
  unfold hMi
  split
  · omega
  · omega
  · split
    · omega
    · split <;> omega
  · omega
abbrev h01 (b : Bool) : Int32 := if b then 1 else 0
theorem h_far {p : Nat} (hp : p ≤ 100) : (100 : Int32) - nI p = nI (100 - p) := (Int32.ofNat_sub 100 p hp).symm
section HMISS
variable {q : tc_Q} {S : tc_S} {r p : Nat} {y : Bool}
theorem s_miss (hr : r < 4) (hp : p ≤ 100) (h : q (some (tc_I (nI (hMi r p y)))) S) : RX8_missOf [tc_R 1 r, tc_I (nI p), tc_I (h01 y)] S q := by
  refine inX8_missOf (fun P h12 => ?_)
  have hf := hFar_le hp y
  have go : P 12 [(0, tc_R 1 r)] [tc_I (nI (hFar p y))] S := by
    refine h12 _ _ _ ⟨hr, by decide, fun z => ?_, fun z => ⟨hr, by decide, fun z1 => ?_, fun z1 => ⟨hr, by decide, fun z2 => ?_, fun z2 => ?_⟩⟩⟩
    · subst z
      rw [h_mul]
      exact h
    · subst z1
      exact h
    · subst z2
      rw [h_mul, h_mul]
      exact h
    · have e2 : r = 2 := by omega
      subst e2
      refine ⟨fun z3 => ?_, fun z3 => ⟨fun z4 => ?_, fun z4 => ?_⟩⟩
      · have e : hFar p y = 50 := (nI_eq (by omega) (by decide)).mp z3
        simp only [hMi, if_pos e] at h
        exact h
      · have ne : ¬ hFar p y = 50 := fun e => z3 (by rw [e]; rfl)
        have le : hFar p y ≤ 50 := (nI_leI (by omega) (by decide)).mp z4
        simp only [hMi, if_neg ne, if_neg (show ¬ 50 < hFar p y by omega)] at h
        exact h
      · have ne : ¬ hFar p y = 50 := fun e => z3 (by rw [e]; rfl)
        have gt : 50 < hFar p y := by
          rcases Nat.lt_or_ge 50 (hFar p y) with g | g
          · exact g
          · exact absurd (nI_le g (by decide)) z4
        simp only [hMi, if_neg ne, if_pos gt] at h
        exact h
  cases y with
  | true =>
    refine h_b1 ?_
    rw [h_far hp]
    exact go
  | false => exact h_b0 go
theorem m_miss (hr : r < 4) (hS : S.1 34 9 = nI r) (hp : p ≤ 100) (h : q (some (tc_I (nI (hMi r p y)))) S) : RX11_missOf [tc_R 0 34, tc_I (nI p), tc_I (h01 y)] S q := by
  refine inX11_missOf (fun P h12 => ?_)
  have hf := hFar_le hp y
  have go : P 12 [(0, tc_R 0 34)] [tc_I (nI (hFar p y))] S := by
    refine h12 _ _ ?_
    unfold fmX11_missOf_12
    rw [hS]
    refine ⟨fun z => ?_, fun z => ?_, fun z => ?_, fun z => ?_, trivial⟩
    · have e3 : r = 3 := by
        rcases z with z | z
        · exact absurd z (nI_pos (by omega))
        · have := (nI_ltI (a := 2) (b := r) (by decide) (by omega)).mp z
          omega
      subst e3
      rw [h_mul, h_mul]
      exact h
    · have e0 : r = 0 := (nI_eq (by omega) (by decide)).mp z
      subst e0
      rw [h_mul]
      exact h
    · have e1 : r = 1 := (nI_eq (b := 1) (by omega) (by decide)).mp z
      subst e1
      exact h
    · have e2 : r = 2 := (nI_eq (b := 2) (by omega) (by decide)).mp z
      subst e2
      refine ⟨fun z4 => ⟨fun z3 => ?_, fun z3 => ?_⟩, fun z4 => ?_⟩
      · have e : hFar p y = 50 := (nI_eq (by omega) (by decide)).mp z3
        simp only [hMi, if_pos e] at h
        exact h
      · have ne : ¬ hFar p y = 50 := fun e => z3 (by rw [e]; rfl)
        have le : hFar p y ≤ 50 := (nI_leI (by omega) (by decide)).mp z4
        simp only [hMi, if_neg ne, if_neg (show ¬ 50 < hFar p y by omega)] at h
        exact h
      · have gt : 50 < hFar p y := by
          rcases Nat.lt_or_ge 50 (hFar p y) with g | g
          · exact g
          · exact absurd (nI_le g (by decide)) z4
        simp only [hMi, if_neg (show ¬ hFar p y = 50 by omega), if_pos gt] at h
        exact h
  cases y with
  | true =>
    refine h_b1 ?_
    rw [h_far hp]
    exact go
  | false => exact h_b0 go
end HMISS
def hMS (r : Nat) (l : List (Nat × Bool)) : Nat := (l.map (fun c => hMi r c.1 c.2)).sum
theorem hMS_push (r : Nat) (l : List (Nat × Bool)) (c : Nat × Bool) : hMS r (l ++ [c]) = hMS r l + hMi r c.1 c.2 := by simp [hMS]
theorem hMS_le {r : Nat} {l : List (Nat × Bool)} (h : ∀ c ∈ l, c.1 ≤ 100) : hMS r l ≤ 1000000 * l.length := by
  induction l with
  | nil => simp [hMS]
  | cons c l ih =>
    have h1 := ih (fun c hc => h c (List.mem_cons_of_mem _ hc))
    have h2 := hMi_le (r := r) (h c List.mem_cons_self) c.2
    simp only [hMS, List.map_cons, List.sum_cons, List.length_cons] at h1 ⊢
    omega
theorem h_take {α : Type} {l : List α} {i : Nat} {c : α} (h : l[i]? = some c) : l.take (i + 1) = l.take i ++ [c] := by
  rw [List.take_succ, h]
  rfl
section HSUM
variable {q : tc_Q} {S : tc_S} {r t e : Nat}
/-- the cases as they lie in the class's cells -/
def cC (S : tc_S) (l : List (Nat × Bool)) : Prop := l.length ≤ 40 ∧ (∀ c ∈ l, c.1 ≤ 100) ∧ S.1 4 2 = nI l.length ∧ S.1 4 3 = nI (hY l) ∧ ∀ i c, l[i]? = some c → S.1 19 i = nI c.1 ∧ S.1 20 i = h01 c.2
theorem cG_cC {S S' : tc_S} (hb : cB S) (ht : t < 5) (h : cG S S' (cL S t 40)) : cC S' (cL S t 40) := ⟨hL_len _ _ _ _ _, hL_ok hb ht 40 (Nat.le_refl 40), h.2.1, h.2.2.1, h.2.2.2⟩
theorem s_missSum {l : List (Nat × Bool)} (hr : r < 4) (hc : cC S l) (h : q (some (tc_J (lN (hMS r l)))) S) : RX2_missSum [tc_R 0 4, tc_R 1 r] S q := by
  refine inX2_missSum (fun P h5 => ?_)
  obtain ⟨c1, c2, c3, c4, c5⟩ := hc
  have loop : ∀ d n, n + d = l.length → P 5 [(0, tc_R 0 4), (1, tc_R 1 r), (2, tc_J (lN (hMS r (l.take n)))), (4, tc_I (nI n))] [] S := by
    intro d
    induction d with
    | zero =>
      intro n hn
      refine h5 _ _ _ _ ⟨fun _ => ?_, fun z => absurd (by rw [c3]; exact nI_le (by omega) (by omega)) z⟩
      rw [List.take_of_length_le (by omega)]
      exact h
    | succ d ih =>
      intro n hn
      obtain ⟨c, hcn⟩ : ∃ c, l[n]? = some c := ⟨l[n], List.getElem?_eq_getElem (by omega)⟩
      refine h5 _ _ _ _ ⟨fun z => absurd z (by rw [c3]; exact nI_ge (by omega) (by omega)), fun _ => ?_⟩
      rw [nI_clamp (by omega), (c5 n c hcn).1, (c5 n c hcn).2]
      refine ⟨vp_in_nI (by omega) (by decide), vp_in_nI (by omega) (by decide), hr, s_miss hr (c2 c (List.mem_of_getElem? hcn)) (sgX2_missSum_33 ?_)⟩
      have := ih (n + 1) (by omega)
      rw [h_take hcn, hMS_push, ← lN_add, nI_succ] at this
      have hle := hMi_le (r := r) (c2 c (List.mem_of_getElem? hcn)) c.2
      unfold fmX2_missSum_33
      rw [nI_l (by omega)]
      exact this
  exact loop l.length 0 (by omega)
-- the model's
theorem m_told (hb : mB S) (ht : t < 5) (he : e < 40) (h : q (some (tc_I (hT (S.1 35) (S.1 37) t e))) S) : RX11_toldBy [tc_R 0 34, tc_I (nI t), tc_I (nI e)] S q := by
  refine inX11_toldBy (fun P h25 h67 h89 => ?_)
  have loop : ∀ d n, n + d = 4 → t = 4 → P 25 [(0, tc_R 0 34), (2, tc_I (nI e)), (3, tc_I (hMs (S.1 35) (S.1 37) e n).1), (4, tc_I (hMs (S.1 35) (S.1 37) e n).2), (5, tc_I (nI n))] [] S := by
    intro d
    induction d with
    | zero =>
      intro n hn ht4
      have e4 : n = 4 := by omega
      subst e4
      simp only [hT, if_pos ht4, hMx] at h
      refine h25 _ _ _ _ _ ⟨fun _ => ⟨fun z => ?_, fun z => ⟨h_2ne hb he z, ?_⟩⟩, fun z => absurd (nI_le (Nat.le_refl 4) (by decide)) z⟩
      · rw [if_pos z] at h
        exact h
      · rw [if_neg z] at h
        exact h
    | succ d ih =>
      intro n hn ht4
      refine h25 _ _ _ _ _ ⟨fun z => absurd z (nI_ge (show n < 4 by omega) (by decide)), fun _ => ?_⟩
      have ih' := ih (n + 1) (by omega) ht4
      rw [h_ixb, nI_clamp (by omega), nI_clamp (by omega)]
      rw [nI_succ] at ih'
      refine ⟨vp_in_nI (by omega) (by decide), fun z => h67 _ _ _ _ _ _ _ ⟨fun _ => h89 _ _ _ _ _ _ ?_, fun z2 => absurd z z2⟩, fun z => ⟨vp_in_nI (by omega) (by decide), h67 _ _ _ _ _ _ _ ⟨fun z2 => absurd z2 z, fun _ => ?_⟩⟩⟩
      · simp only [hMs, if_pos z] at ih'
        unfold fmX11_toldBy_89
        rw [Int32.add_zero, Int32.add_zero]
        exact ih'
      · rw [nI_clamp (by omega)]
        refine ⟨vp_in_nI (by omega) (by decide), h89 _ _ _ _ _ _ ?_⟩
        simp only [hMs, if_neg z] at ih'
        exact ih'
  refine ⟨fun z => ?_, fun z => ?_⟩
  · have h4 : 4 ≤ t := (nI_leI (a := 4) (by decide) (by omega)).mp z
    exact loop 4 0 rfl (by omega)
  · have n4 : ¬ t = 4 := fun e4 => z (by rw [e4]; exact nI_le (Nat.le_refl 4) (by decide))
    rw [h_ixb, nI_clamp (by omega)]
    simp only [hT, if_neg n4] at h
    exact ⟨vp_in_nI (by omega) (by decide), h⟩
theorem m_case (hb : mB S) (ht : t < 5) (he : e < 40) (h0 : (S.1 36 e = 0 ∨ hT (S.1 35) (S.1 37) t e = -9) → q (some (tc_I 0)) S) (h1 : ¬ (S.1 36 e = 0 ∨ hT (S.1 35) (S.1 37) t e = -9) → q (some (tc_I 1)) S) : RX11_isCase [tc_R 0 34, tc_I (nI t), tc_I (nI e)] S q := by
  refine inX11_isCase (fun P => ?_)
  unfold fmX11_isCase_0
  rw [nI_clamp (by omega)]
  refine ⟨vp_in_nI he (by decide), fun z => ⟨h_n0, h0 (Or.inl z)⟩, fun z => m_told hb ht he (sgX11_isCase_15 ⟨fun z2 => ⟨h_n0, h0 (Or.inr z2)⟩, fun z2 => ⟨h_n1, h1 (fun z3 => z3.elim z z2)⟩⟩)⟩
theorem mL_no (hz : S.1 36 e = 0 ∨ hT (S.1 35) (S.1 37) t e = -9) : mL S t (e + 1) = mL S t e := by simp only [hL, if_pos hz]
theorem mL_yes (hb : mB S) (ht : t < 5) (he : e < 40) (hz : ¬ (S.1 36 e = 0 ∨ hT (S.1 35) (S.1 37) t e = -9)) : ∃ p, p ≤ 100 ∧ hT (S.1 35) (S.1 37) t e = nI p ∧ mL S t (e + 1) = mL S t e ++ [(p, decide (S.1 36 e = 1))] := by
  rcases hT_nat hb ht he with h1 | ⟨p, hp, h1⟩
  · exact absurd (Or.inr h1) hz
  · refine ⟨p, hp, h1, ?_⟩
    simp only [hL, if_neg hz]
    rw [h1, nI_clamp (show p < 2 ^ 31 by omega)]
theorem m_cases (hb : mB S) (ht : t < 5) (h : q (some (tc_I (nI (mL S t 40).length))) S) : RX11_cases [tc_R 0 34, tc_I (nI t)] S q := by
  refine inX11_cases (fun P h4 h25 => ?_)
  have loop : ∀ d n, n + d = 40 → P 4 [(0, tc_R 0 34), (1, tc_I (nI t)), (2, tc_I (nI (mL S t n).length)), (3, tc_I (nI n))] [] S := by
    intro d
    induction d with
    | zero =>
      intro n hn
      have e4 : n = 40 := by omega
      subst e4
      exact h4 _ _ _ _ ⟨fun _ => h, fun z => absurd (nI_le (Nat.le_refl 40) (by decide)) z⟩
    | succ d ih =>
      intro n hn
      have ih' := ih (n + 1) (by omega)
      rw [nI_succ] at ih'
      refine h4 _ _ _ _ ⟨fun z => absurd z (nI_ge (show n < 40 by omega) (by decide)), fun _ => m_case hb ht (by omega) (fun z => sgX11_cases_17 (h_b0 (h25 _ _ _ _ _ ?_))) (fun z => sgX11_cases_17 (h_b1 (h25 _ _ _ _ _ ?_)))⟩
      · unfold fmX11_cases_25
        rw [mL_no z] at ih'
        rw [Int32.add_zero]
        exact ih'
      · obtain ⟨p, -, -, e9⟩ := mL_yes hb ht (by omega) z
        unfold fmX11_cases_25
        rw [e9, List.length_append] at ih'
        rw [nI_1]
        exact ih'
  exact loop 40 0 rfl
theorem m_misses (hb : mB S) (ht : t < 5) (hr : r < 4) (hru : S.1 34 9 = nI r) (h : q (some (tc_J (lN (hMS r (mL S t 40))))) S) : RX11_misses [tc_R 0 34, tc_I (nI t)] S q := by
  refine inX11_misses (fun P h5 h47 h55 => ?_)
  have loop : ∀ d n, n + d = 40 → P 5 [(0, tc_R 0 34), (1, tc_I (nI t)), (2, tc_J (lN (hMS r (mL S t n)))), (4, tc_I (nI n))] [] S := by
    intro d
    induction d with
    | zero =>
      intro n hn
      have e4 : n = 40 := by omega
      subst e4
      exact h5 _ _ _ _ ⟨fun _ => h, fun z => absurd (nI_le (Nat.le_refl 40) (by decide)) z⟩
    | succ d ih =>
      intro n hn
      have ih' := ih (n + 1) (by omega)
      rw [nI_succ] at ih'
      refine h5 _ _ _ _ ⟨fun z => absurd z (nI_ge (show n < 40 by omega) (by decide)), fun _ => m_case hb ht (by omega) (fun z => sgX11_misses_20 (h_b0 (h55 _ _ _ _ _ ?_))) (fun z => sgX11_misses_20 (h_b1 (m_told hb ht (by omega) (sgX11_misses_31 ?_))))⟩
      · unfold fmX11_misses_55
        rw [mL_no z] at ih'
        rw [Int64.add_zero]
        exact ih'
      · obtain ⟨p, hp, e8, e9⟩ := mL_yes hb ht (by omega) z
        have hle := hMi_le (r := r) hp (decide (S.1 36 n = 1))
        have go : ∀ b : Bool, b = decide (S.1 36 n = 1) → P 47 [(0, tc_R 0 34), (1, tc_I (nI t)), (4, tc_I (nI n))] [tc_I (h01 b), tc_I (nI p), tc_R 0 34, tc_J (lN (hMS r (mL S t n)))] S := by
          intro b hbb
          refine h47 _ _ _ _ _ _ (m_miss hr hru hp (sgX11_misses_50 (h55 _ _ _ _ _ ?_)))
          rw [e9, hMS_push, ← lN_add, ← hbb] at ih'
          unfold fmX11_misses_55
          rw [nI_l (by rw [hbb]; omega)]
          exact ih'
        unfold fmX11_misses_31
        rw [e8, nI_clamp (by omega)]
        exact ⟨vp_in_nI (by omega) (by decide), fun z1 => go true (by simp [z1]), fun z1 => go false (by simp [z1])⟩
  exact loop 40 0 rfl
end HSUM
