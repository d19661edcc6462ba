/-! plain facts -/
theorem h_mul (a b : Nat) : nI a * nI b = nI (a * b) := (Int32.ofNat_mul a b).symm
theorem h_40 : (40 : Int32) = nI 40 := rfl
theorem h_ixa (t e : Nat) : (nI t * 40) + nI e = nI (t * 40 + e) := by rw [h_40, h_mul, nI_add]
theorem h_ixb (t e : Nat) : (40 * nI t) + nI e = nI (t * 40 + e) := by rw [h_40, h_mul, nI_add, Nat.mul_comm]
/-- x is one of 0 .. n - 1 -/
def hR (n : Nat) (x : Int32) : Prop := ∃ j, j < n ∧ x = nI j
theorem hR_of {n : Nat} {x : Int32} (hn : n < 2 ^ 31) (h0 : ¬ x < 0) (h1 : ¬ nI n ≤ x) : hR n x := by
  obtain ⟨j, hj, rfl⟩ := nI_of h0
  refine ⟨j, ?_, rfl⟩
  rcases Nat.lt_or_ge j n with h | h
  · exact h
  · exact absurd (nI_le h hj) h1
theorem hR_lt {n : Nat} {x : Int32} (hn : n < 2 ^ 31) (h : hR n x) : ¬ x < 0 ∧ ¬ nI n ≤ x := by
  obtain ⟨j, hj, rfl⟩ := h
  exact ⟨nI_pos (by omega), nI_ge hj hn⟩
theorem h_n0 : narrow .boolean (.int 0) = .int 0 := by decide +kernel
theorem h_n1 : narrow .boolean (.int 1) = .int 1 := by decide +kernel
theorem h_f0 : fits .boolean (.int 0) = true := by decide +kernel
theorem h_f1 : fits .boolean (.int 1) = true := by decide +kernel
theorem h_b0 {A B : Prop} (h : A) : ((0 : Int32) = 0 → A) ∧ (¬ (0 : Int32) = 0 → B) := ⟨fun _ => h, fun z => absurd rfl z⟩
theorem h_b1 {A B : Prop} (h : B) : ((1 : Int32) = 0 → A) ∧ (¬ (1 : Int32) = 0 → B) := ⟨fun z => absurd z (by decide), fun _ => h⟩
/-- a check 0 ≤ x < n, as javac writes it -/
theorem h_chk0 {n : Nat} {x : Int32} {A B C : Prop} (hn : n < 2 ^ 31) (hx : ¬ hR n x) (h : A) (h2 : B) : (x < 0 → A) ∧ (¬ x < 0 → (nI n ≤ x → B) ∧ (¬ nI n ≤ x → C)) :=
  ⟨fun _ => h, fun z => ⟨fun _ => h2, fun z2 => absurd (hR_of hn z z2) hx⟩⟩
theorem h_chk1 {n j : Nat} {A B C : Prop} (hn : n < 2 ^ 31) (hx : j < n) (h : C) : (nI j < 0 → A) ∧ (¬ nI j < 0 → (nI n ≤ nI j → B) ∧ (¬ nI n ≤ nI j → C)) :=
  ⟨fun z => absurd z (nI_pos (by omega)), fun _ => ⟨fun z => absurd z (nI_ge hx hn), fun _ => h⟩⟩
/-- a check 0 ≤ x ≤ m -/
theorem h_chl0 {n : Nat} {x : Int32} {A B C : Prop} (hn : n + 1 < 2 ^ 31) (hx : ¬ hR (n + 1) x) (h : A) (h2 : B) : (x < 0 → A) ∧ (¬ x < 0 → (nI n < x → B) ∧ (¬ nI n < x → C)) := by
  refine ⟨fun _ => h, fun z => ⟨fun _ => h2, fun z2 => ?_⟩⟩
  obtain ⟨j, hj, rfl⟩ := nI_of z
  exact absurd ⟨j, by
    rcases Nat.lt_or_ge j (n + 1) with g | g
    · exact g
    · exact absurd (nI_lt (by omega) hj) z2, rfl⟩ hx
theorem h_chl1 {n j : Nat} {A B C : Prop} (hn : n + 1 < 2 ^ 31) (hx : j < n + 1) (h : C) : (nI j < 0 → A) ∧ (¬ nI j < 0 → (nI n < nI j → B) ∧ (¬ nI n < nI j → C)) :=
  ⟨fun z => absurd z (nI_pos (by omega)), fun _ => ⟨fun z => absurd z (nI_nlt (by omega) (by omega)), fun _ => h⟩⟩
section HCHK
variable {q : tc_Q} {S : tc_S} {x : Int32} {j : Nat}
theorem s_plain1 (hj : j < 4) (h : q (some (tc_I 1)) S) : RX10_isPlainTeller [tc_I (nI j)] S q := inX10_isPlainTeller (fun _ => h_chk1 (n := 4) (by decide) hj ⟨h_n1, h⟩)
theorem s_plain0 (hx : ¬ hR 4 x) (h : q (some (tc_I 0)) S) : RX10_isPlainTeller [tc_I x] S q := inX10_isPlainTeller (fun _ => h_chk0 (n := 4) (by decide) hx ⟨h_n0, h⟩ ⟨h_n0, h⟩)
theorem s_event1 (hj : j < 40) (h : q (some (tc_I 1)) S) : RX10_isEvent [tc_I (nI j)] S q := inX10_isEvent (fun _ => h_chk1 (n := 40) (by decide) hj ⟨h_n1, h⟩)
theorem s_event0 (hx : ¬ hR 40 x) (h : q (some (tc_I 0)) S) : RX10_isEvent [tc_I x] S q := inX10_isEvent (fun _ => h_chk0 (n := 40) (by decide) hx ⟨h_n0, h⟩ ⟨h_n0, h⟩)
theorem s_teller1 (hj : j < 5) (h : q (some (tc_I 1)) S) : RX10_isTeller [tc_I (nI j)] S q := inX10_isTeller (fun _ => h_chl1 (n := 4) (by decide) hj ⟨h_n1, h⟩)
theorem s_teller0 (hx : ¬ hR 5 x) (h : q (some (tc_I 0)) S) : RX10_isTeller [tc_I x] S q := inX10_isTeller (fun _ => h_chl0 (n := 4) (by decide) hx ⟨h_n0, h⟩ ⟨h_n0, h⟩)
theorem s_chance1 (hj : j < 101) (h : q (some (tc_I 1)) S) : RX10_isChance [tc_I (nI j)] S q := inX10_isChance (fun _ => h_chl1 (n := 100) (by decide) hj ⟨h_n1, h⟩)
theorem s_chance0 (hx : ¬ hR 101 x) (h : q (some (tc_I 0)) S) : RX10_isChance [tc_I x] S q := inX10_isChance (fun _ => h_chl0 (n := 100) (by decide) hx ⟨h_n0, h⟩ ⟨h_n0, h⟩)
theorem s_which1 (hj : j < 2) (h : q (some (tc_I 1)) S) : RX10_isWhich [tc_I (nI j)] S q := inX10_isWhich (fun P h9 => by
  have hh : P 9 [] [] S := h9 S ⟨h_n1, h⟩
  refine ⟨fun _ => hh, fun z => ⟨fun _ => hh, fun z2 => ?_⟩⟩
  rcases (show j = 0 ∨ j = 1 by omega) with rfl | rfl
  · exact absurd rfl z
  · exact absurd rfl z2)
theorem s_which0 (hx : ¬ hR 2 x) (h : q (some (tc_I 0)) S) : RX10_isWhich [tc_I x] S q := inX10_isWhich (fun P h9 => ⟨fun z => absurd ⟨0, by decide, z⟩ hx, fun _ => ⟨fun z => absurd ⟨1, by decide, z⟩ hx, fun _ => ⟨h_n0, h⟩⟩⟩)
-- the model's
theorem m_within1 {n : Nat} (hn : n + 1 < 2 ^ 31) (hj : j < n + 1) (h : q (some (tc_I 1)) S) : RX11_within [tc_I (nI j), tc_I 0, tc_I (nI n)] S q := inX11_within (fun _ => h_chl1 hn hj ⟨h_n1, h⟩)
theorem m_within0 {n : Nat} (hn : n + 1 < 2 ^ 31) (hx : ¬ hR (n + 1) x) (h : q (some (tc_I 0)) S) : RX11_within [tc_I x, tc_I 0, tc_I (nI n)] S q := inX11_within (fun _ => h_chl0 hn hx ⟨h_n0, h⟩ ⟨h_n0, h⟩)
theorem m_one1 (hj : j < 4) (h : q (some (tc_I 1)) S) : RX11_isOne [tc_I (nI j)] S q := inX11_isOne (fun _ => m_within1 (n := 3) (by decide) hj (sgX11_isOne_6 ⟨h_n1, h⟩))
theorem m_one0 (hx : ¬ hR 4 x) (h : q (some (tc_I 0)) S) : RX11_isOne [tc_I x] S q := inX11_isOne (fun _ => m_within0 (n := 3) (by decide) hx (sgX11_isOne_6 ⟨h_n0, h⟩))
theorem m_any1 (hj : j < 5) (h : q (some (tc_I 1)) S) : RX11_isAny [tc_I (nI j)] S q := inX11_isAny (fun _ => m_within1 (n := 4) (by decide) hj (sgX11_isAny_6 ⟨h_n1, h⟩))
theorem m_any0 (hx : ¬ hR 5 x) (h : q (some (tc_I 0)) S) : RX11_isAny [tc_I x] S q := inX11_isAny (fun _ => m_within0 (n := 4) (by decide) hx (sgX11_isAny_6 ⟨h_n0, h⟩))
theorem m_event1 (hj : j < 40) (h : q (some (tc_I 1)) S) : RX11_isEvent [tc_I (nI j)] S q := inX11_isEvent (fun _ => m_within1 (n := 39) (by decide) hj (sgX11_isEvent_7 ⟨h_n1, h⟩))
theorem m_event0 (hx : ¬ hR 40 x) (h : q (some (tc_I 0)) S) : RX11_isEvent [tc_I x] S q := inX11_isEvent (fun _ => m_within0 (n := 39) (by decide) hx (sgX11_isEvent_7 ⟨h_n0, h⟩))
end HCHK
/-! what is told: chances (-9: none), weights, states -/
def hMs (ch wt : Nat → Int32) (e : Nat) : Nat → Int32 × Int32
  | 0 => (0, 0)
  | n + 1 => if ch (n * 40 + e) = -9 then hMs ch wt e n else ((hMs ch wt e n).1 + wt n * ch (n * 40 + e), (hMs ch wt e n).2 + wt n)
def hMx (ch wt : Nat → Int32) (e : Nat) : Int32 := if (hMs ch wt e 4).2 = 0 then -9 else (2 * (hMs ch wt e 4).1 + (hMs ch wt e 4).2) / (2 * (hMs ch wt e 4).2)
def hT (ch wt : Nat → Int32) (t e : Nat) : Int32 := if t = 4 then hMx ch wt e else ch (t * 40 + e)
/-- the book is in order -/
def hB (ch wt st : Nat → Int32) : Prop := (∀ i, i < 160 → ch i = -9 ∨ ∃ p, p ≤ 100 ∧ ch i = nI p) ∧ (∀ t, t < 4 → ∃ w, w ≤ 9 ∧ wt t = nI w) ∧ ∀ e, e < 40 → st e = 0 ∨ st e = 1 ∨ st e = 2
theorem h_neg9 (p : Nat) (h : p < 2 ^ 31) : ¬ nI p = -9 := by
  intro z
  have h1 := nI_pos h
  rw [z] at h1
  exact h1 (by decide)
theorem hMs_nat {ch wt st : Nat → Int32} (hb : hB ch wt st) {e : Nat} (he : e < 40) : ∀ n, n ≤ 4 → ∃ s a, (hMs ch wt e n) = (nI s, nI a) ∧ s ≤ 100 * a ∧ a ≤ 9 * n := by
  intro n
  induction n with
  | zero => intro _; exact ⟨0, 0, rfl, by omega, by omega⟩
  | succ n ih =>
    intro hn
    obtain ⟨s, a, h1, h2, h3⟩ := ih (by omega)
    simp only [hMs]
    split
    · exact ⟨s, a, h1, h2, by omega⟩
    · rename_i hne
      rcases hb.1 (n * 40 + e) (by omega) with h4 | ⟨p, hp, h4⟩
      · exact absurd h4 hne
      · obtain ⟨w, hw, h5⟩ := hb.2.1 n (by omega)
        refine ⟨s + w * p, a + w, ?_, ?_, by omega⟩
        · rw [h1, h4, h5]
          simp only [h_mul, nI_add]
        · have : w * p ≤ w * 100 := Nat.mul_le_mul_left w hp
          omega
theorem h_div (a b : Nat) (ha : a < 2 ^ 31) (hb : b < 2 ^ 31) : nI a / nI b = nI (a / b) := (Int32.ofNat_div ha hb).symm
theorem hMx_nat {ch wt st : Nat → Int32} (hb : hB ch wt st) {e : Nat} (he : e < 40) : hMx ch wt e = -9 ∨ ∃ p, p ≤ 100 ∧ hMx ch wt e = nI p := by
  obtain ⟨s, a, h1, h2, h3⟩ := hMs_nat hb he 4 (by omega)
  unfold hMx
  rw [h1]
  simp only
  split
  · exact Or.inl rfl
  · rename_i hne
    have ha : 0 < a := by
      rcases Nat.eq_zero_or_pos a with rfl | h
      · exact absurd rfl hne
      · exact h
    refine Or.inr ⟨(2 * s + a) / (2 * a), ?_, ?_⟩
    · have : (2 * s + a) < (2 * a) * 101 := by omega
      have := Nat.div_lt_of_lt_mul this
      omega
    · rw [show (2 : Int32) = nI 2 from rfl, h_mul, h_mul, nI_add, h_div _ _ (by omega) (by omega)]
theorem h_2ne {ch wt st : Nat → Int32} (hb : hB ch wt st) {e : Nat} (he : e < 40) (h : ¬ (hMs ch wt e 4).2 = 0) : ¬ (2 * (hMs ch wt e 4).2 : Int32) = 0 := by
  obtain ⟨s, a, h1, h2, h3⟩ := hMs_nat hb he 4 (by omega)
  rw [h1] at h ⊢
  simp only at h ⊢
  rw [show (2 : Int32) = nI 2 from rfl, h_mul]
  refine nI_ne0 ?_ (by omega)
  rcases Nat.eq_zero_or_pos a with rfl | h9
  · exact absurd rfl h
  · omega
theorem hT_nat {ch wt st : Nat → Int32} (hb : hB ch wt st) {t e : Nat} (ht : t < 5) (he : e < 40) : hT ch wt t e = -9 ∨ ∃ p, p ≤ 100 ∧ hT ch wt t e = nI p := by
  unfold hT
  split
  · exact hMx_nat hb he
  · exact hb.1 (t * 40 + e) (by omega)
