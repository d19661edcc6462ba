/-! the relation of the two systems; calls that change what is told -/
def hCs (f : Nat → Int32) : Nat → List Nat
  | 0 => []
  | n + 1 => if f (n + 1) = 0 then hCs f n else hCs f n ++ [n + 1]
def hSb (r b p : Nat) : Nat := b * hMi r p true + (100 - b) * hMi r p false
def hLuF (r b : Nat) : Nat → Nat
  | 0 => 0
  | n + 1 => if hSb r b (n + 1) < hSb r b (hLuF r b n) then n + 1 else hLuF r b n
def hLu (r b : Nat) : Nat := hLuF r b 100
def hHonF (r : Nat) : Nat → Nat
  | 0 => 0
  | n + 1 => hHonF r n + if hSb r n n = hSb r n (hLu r n) then 1 else 0
def hSg : List Int32 := [116, 101, 108, 108, 0, 0, 100, 114, 111, 112, 0, 0, 121, 101, 115, 0, 0, 0, 110, 111, 0, 0, 0, 0, 111, 112, 101, 110, 0, 0, 119, 101, 105, 103, 104, 0, 115, 113, 117, 97, 114, 101, 108, 105, 110, 101, 0, 0, 101, 100, 103, 101, 0, 0, 99, 117, 98, 101, 0, 0]
/-- the cuts, in the class's row and in the model's marks -/
def hCut (c5 c21 c41 : Nat → Int32) : Prop := (∀ c, c41 c = 0 ∨ c41 c = 1) ∧ (hCs c41 100).length ≤ 9 ∧ c5 1 = nI (hCs c41 100).length ∧ ∀ i a, (hCs c41 100)[i]? = some a → c21 i = nI a
def Rel (S : tc_S) : Prop := (S.1 35 = S.1 14 ∧ S.1 37 = S.1 15 ∧ S.1 36 = S.1 16) ∧ cB S ∧ (S.1 38 = S.1 17 ∧ S.1 34 4 = S.1 2 1 ∧ (∃ n, n ≤ 24 ∧ S.1 2 1 = nI n) ∧ ∀ i, ∃ c, c ≤ 127 ∧ S.1 17 i = nI c) ∧ (S.2.2 < 4 ∧ S.1 34 9 = nI S.2.2) ∧ hCut (S.1 5) (S.1 21) (S.1 41) ∧ (∀ r, r < 4 → S.1 13 r = 0 ∨ S.1 13 r = nI (hHonF r 101)) ∧ ∀ i x, hSg[i]? = some x → S.1 39 i = x
/-- what is written over and over, and read within one call alone -/
abbrev hScr : List Nat := [3, 4, 6, 7, 8, 9, 10, 11, 12, 18, 19, 20, 22, 23, 24, 25, 26, 27, 28, 29, 30, 31, 32, 33, 34, 40, 42, 43, 44, 45, 46, 47, 48, 49, 50, 51]
theorem Rel.fr {S S' : tc_S} (h : Rel S) (hs : hS hScr S S') (h4 : S'.1 34 4 = S.1 34 4) (h9 : S'.1 34 9 = S.1 34 9) : Rel S' := by
  obtain ⟨⟨a1, a2, a3⟩, b, ⟨c1, c2, c3, c4⟩, ⟨d1, d2⟩, e, f, g⟩ := h
  have r : ∀ j, j ∉ hScr → S'.1 j = S.1 j := hs.1
  unfold Rel cB
  rw [r 35 (by decide), r 14 (by decide), r 37 (by decide), r 15 (by decide), r 36 (by decide), r 16 (by decide), r 38 (by decide), r 17 (by decide), r 2 (by decide), h4, h9, hs.2.2, r 5 (by decide), r 21 (by decide), r 41 (by decide), r 13 (by decide), r 39 (by decide)]
  exact ⟨⟨a1, a2, a3⟩, b, ⟨c1, c2, c3, c4⟩, ⟨d1, d2⟩, e, f, g⟩
theorem Rel.mb {S : tc_S} (h : Rel S) : mB S := by
  unfold mB
  rw [h.1.1, h.1.2.1, h.1.2.2]
  exact h.2.1
def hr (n : Nat) (x : Int32) : Bool := decide (¬ x < 0) && decide (¬ nI n ≤ x)
theorem hr_t {n : Nat} {x : Int32} (hn : n < 2 ^ 31) (h : hr n x = true) : ∃ j, j < n ∧ x = nI j := by
  simp only [hr, Bool.and_eq_true, decide_eq_true_eq] at h
  exact hR_of hn h.1 h.2
theorem hr_f {n : Nat} {x : Int32} (hn : n < 2 ^ 31) (h : hr n x = false) : ¬ hR n x := by
  intro z
  have := hR_lt hn z
  simp [hr, this.1, this.2] at h
theorem hr_nI {n j : Nat} (hn : n < 2 ^ 31) (h : j < n) : hr n (nI j) = true := by
  have := hR_lt hn ⟨j, h, rfl⟩
  simp [hr, this.1, this.2]
theorem h_gl0 {n : Nat} {x : Int32} {A B C : Prop} (hn : n + 1 < 2 ^ 31) (hx : ¬ hR (n + 1) x) (h : A) (h2 : C) : (x < 0 → A) ∧ (¬ x < 0 → (x ≤ nI n → B) ∧ (¬ x ≤ nI n → C)) := by
  refine ⟨fun _ => h, fun z => ⟨fun z2 => ?_, fun _ => h2⟩⟩
  obtain ⟨j, hj, rfl⟩ := nI_of z
  exact absurd ⟨j, by
    have := (nI_leI hj (by omega)).mp z2
    omega, rfl⟩ hx
theorem h_gl1 {n j : Nat} {A B C : Prop} (hn : n + 1 < 2 ^ 31) (hx : j < n + 1) (h : B) : (nI j < 0 → A) ∧ (¬ nI j < 0 → (nI j ≤ nI n → B) ∧ (¬ nI j ≤ nI n → C)) :=
  ⟨fun z => absurd z (nI_pos (by omega)), fun _ => ⟨fun _ => h, fun z => absurd (nI_le (by omega) (by omega)) z⟩⟩
/-- what tell, drop, yes .. answer and leave, in the cell c -/
def aTell (ch : Nat → Int32) (x1 x2 x3 : Int32) : Int32 := if hr 4 x1 = true ∧ hr 40 x2 = true then (if hr 101 x3 = true then ch (x1.toNatClampNeg * 40 + x2.toNatClampNeg) else -2) else -1
def uTell (c : Nat) (S : tc_S) (x1 x2 x3 : Int32) : tc_S := if hr 4 x1 = true ∧ hr 40 x2 = true ∧ hr 101 x3 = true then tc_ui S c (x1.toNatClampNeg * 40 + x2.toNatClampNeg) x3 else S
def aDrop (ch : Nat → Int32) (x1 x2 : Int32) : Int32 := if hr 4 x1 = true ∧ hr 40 x2 = true then ch (x1.toNatClampNeg * 40 + x2.toNatClampNeg) else -1
def uDrop (c : Nat) (S : tc_S) (x1 x2 : Int32) : tc_S := if hr 4 x1 = true ∧ hr 40 x2 = true then tc_ui S c (x1.toNatClampNeg * 40 + x2.toNatClampNeg) (-9) else S
def aSet (st : Nat → Int32) (x1 : Int32) : Int32 := if hr 40 x1 = true then st x1.toNatClampNeg else -1
def uSet (c : Nat) (S : tc_S) (x1 v : Int32) : tc_S := if hr 40 x1 = true then tc_ui S c x1.toNatClampNeg v else S
def aWei (wt : Nat → Int32) (x1 x2 : Int32) : Int32 := if hr 4 x1 = true then (if hr 10 x2 = true then wt x1.toNatClampNeg else -2) else -1
def uWei (c : Nat) (S : tc_S) (x1 x2 : Int32) : tc_S := if hr 4 x1 = true ∧ hr 10 x2 = true then tc_ui S c x1.toNatClampNeg x2 else S
section HCALL
variable {q : tc_Q} {S : tc_S} {x1 x2 x3 : Int32}
theorem s_tell (h : q (some (tc_I (aTell (S.1 14) x1 x2 x3))) (uTell 14 S x1 x2 x3)) : RX10_tell [tc_R 0 0, tc_I x1, tc_I x2, tc_I x3] S q := by
  refine inX10_tell (fun P => ?_)
  unfold aTell uTell at h
  cases b1 : hr 4 x1 with
  | false =>
    simp [b1] at h
    exact s_plain0 (hr_f (by decide) b1) (sgX10_tell_4 (h_b0 h))
  | true =>
    obtain ⟨t, ht, rfl⟩ := hr_t (by decide) b1
    refine s_plain1 ht (sgX10_tell_4 (h_b1 ?_))
    cases b2 : hr 40 x2 with
    | false =>
      simp [b1, b2] at h
      exact s_event0 (hr_f (by decide) b2) (sgX10_tell_11 (h_b0 h))
    | true =>
      obtain ⟨e, he, rfl⟩ := hr_t (by decide) b2
      refine s_event1 he (sgX10_tell_11 (h_b1 ?_))
      cases b3 : hr 101 x3 with
      | false =>
        simp [b1, b2, b3] at h
        exact s_chance0 (hr_f (by decide) b3) (sgX10_tell_20 (h_b0 h))
      | true =>
        obtain ⟨p, hp, rfl⟩ := hr_t (by decide) b3
        simp only [b1, b2, b3, and_self, if_true] at h
        refine s_chance1 hp (sgX10_tell_20 (h_b1 (inX1_swapChance (fun P2 => ?_))))
        unfold fmX1_swapChance_0
        rw [h_ixa, nI_clamp (by omega)]
        rw [nI_clamp (by omega), nI_clamp (by omega)] at h
        exact ⟨vp_in_nI (by omega) (by decide), vp_in_nI (by omega) (by decide), sgX10_tell_36 h⟩
theorem m_tell (h : q (some (tc_I (aTell (S.1 35) x1 x2 x3))) (uTell 35 S x1 x2 x3)) : RX11_tell [tc_R 0 34, tc_I x1, tc_I x2, tc_I x3] S q := by
  refine inX11_tell (fun P => ?_)
  unfold aTell uTell at h
  cases b1 : hr 4 x1 with
  | false =>
    simp [b1] at h
    exact m_one0 (hr_f (by decide) b1) (sgX11_tell_4 (h_b0 h))
  | true =>
    obtain ⟨t, ht, rfl⟩ := hr_t (by decide) b1
    refine m_one1 ht (sgX11_tell_4 (h_b1 ?_))
    cases b2 : hr 40 x2 with
    | false =>
      simp [b1, b2] at h
      exact m_event0 (hr_f (by decide) b2) (sgX11_tell_11 (h_b0 h))
    | true =>
      obtain ⟨e, he, rfl⟩ := hr_t (by decide) b2
      refine m_event1 he (sgX11_tell_11 (h_b1 ?_))
      cases b3 : hr 101 x3 with
      | false =>
        simp [b1, b2, b3] at h
        exact m_within0 (n := 100) (by decide) (hr_f (by decide) b3) (sgX11_tell_23 (h_b0 h))
      | true =>
        obtain ⟨p, hp, rfl⟩ := hr_t (by decide) b3
        simp only [b1, b2, b3, and_self, if_true] at h
        refine m_within1 (n := 100) (by decide) hp (sgX11_tell_23 (h_b1 ?_))
        rw [h_ixb, nI_clamp (by omega)]
        rw [nI_clamp (by omega), nI_clamp (by omega)] at h
        exact ⟨vp_in_nI (by omega) (by decide), vp_in_nI (by omega) (by decide), h⟩
theorem s_drop (h : q (some (tc_I (aDrop (S.1 14) x1 x2))) (uDrop 14 S x1 x2)) : RX10_drop [tc_R 0 0, tc_I x1, tc_I x2] S q := by
  refine inX10_drop (fun P => ?_)
  unfold aDrop uDrop at h
  cases b1 : hr 4 x1 with
  | false =>
    simp [b1] at h
    exact s_plain0 (hr_f (by decide) b1) (sgX10_drop_4 (h_b0 h))
  | true =>
    obtain ⟨t, ht, rfl⟩ := hr_t (by decide) b1
    refine s_plain1 ht (sgX10_drop_4 (h_b1 ?_))
    cases b2 : hr 40 x2 with
    | false =>
      simp [b1, b2] at h
      exact s_event0 (hr_f (by decide) b2) (sgX10_drop_11 (h_b0 h))
    | true =>
      obtain ⟨e, he, rfl⟩ := hr_t (by decide) b2
      simp only [b1, b2, and_self, if_true] at h
      refine s_event1 he (sgX10_drop_11 (h_b1 (inX1_swapChance (fun P2 => ?_))))
      unfold fmX1_swapChance_0
      rw [h_ixa, nI_clamp (by omega)]
      rw [nI_clamp (by omega), nI_clamp (by omega)] at h
      exact ⟨vp_in_nI (by omega) (by decide), vp_in_nI (by omega) (by decide), sgX10_drop_27 h⟩
theorem m_drop (h : q (some (tc_I (aDrop (S.1 35) x1 x2))) (uDrop 35 S x1 x2)) : RX11_drop [tc_R 0 34, tc_I x1, tc_I x2] S q := by
  refine inX11_drop (fun P => ?_)
  unfold aDrop uDrop at h
  cases b1 : hr 4 x1 with
  | false =>
    simp [b1] at h
    exact m_one0 (hr_f (by decide) b1) (sgX11_drop_4 (h_b0 h))
  | true =>
    obtain ⟨t, ht, rfl⟩ := hr_t (by decide) b1
    refine m_one1 ht (sgX11_drop_4 (h_b1 ?_))
    cases b2 : hr 40 x2 with
    | false =>
      simp [b1, b2] at h
      exact m_event0 (hr_f (by decide) b2) (sgX11_drop_11 (h_b0 h))
    | true =>
      obtain ⟨e, he, rfl⟩ := hr_t (by decide) b2
      simp only [b1, b2, and_self, if_true] at h
      refine m_event1 he (sgX11_drop_11 (h_b1 ?_))
      rw [h_ixb, nI_clamp (by omega)]
      rw [nI_clamp (by omega), nI_clamp (by omega)] at h
      exact ⟨vp_in_nI (by omega) (by decide), vp_in_nI (by omega) (by decide), h⟩
theorem s_yes (h : q (some (tc_I (aSet (S.1 16) x1))) (uSet 16 S x1 1)) : RX10_yes [tc_R 0 0, tc_I x1] S q := by
  refine inX10_yes (fun P => ?_)
  unfold aSet uSet at h
  cases b1 : hr 40 x1 with
  | false => simp [b1] at h; exact s_event0 (hr_f (by decide) b1) (sgX10_yes_4 (h_b0 h))
  | true =>
    obtain ⟨e, he, rfl⟩ := hr_t (by decide) b1
    simp only [b1, if_true] at h
    rw [nI_clamp (by omega)] at h
    refine s_event1 he (sgX10_yes_4 (h_b1 (inX1_swapState (fun P2 => ?_))))
    unfold fmX1_swapState_0
    rw [nI_clamp (by omega)]
    exact ⟨vp_in_nI he (by decide), vp_in_nI he (by decide), sgX10_yes_16 h⟩
theorem s_no (h : q (some (tc_I (aSet (S.1 16) x1))) (uSet 16 S x1 2)) : RX10_no [tc_R 0 0, tc_I x1] S q := by
  refine inX10_no (fun P => ?_)
  unfold aSet uSet at h
  cases b1 : hr 40 x1 with
  | false => simp [b1] at h; exact s_event0 (hr_f (by decide) b1) (sgX10_no_4 (h_b0 h))
  | true =>
    obtain ⟨e, he, rfl⟩ := hr_t (by decide) b1
    simp only [b1, if_true] at h
    rw [nI_clamp (by omega)] at h
    refine s_event1 he (sgX10_no_4 (h_b1 (inX1_swapState (fun P2 => ?_))))
    unfold fmX1_swapState_0
    rw [nI_clamp (by omega)]
    exact ⟨vp_in_nI he (by decide), vp_in_nI he (by decide), sgX10_no_16 h⟩
theorem s_open (h : q (some (tc_I (aSet (S.1 16) x1))) (uSet 16 S x1 0)) : RX10_open [tc_R 0 0, tc_I x1] S q := by
  refine inX10_open (fun P => ?_)
  unfold aSet uSet at h
  cases b1 : hr 40 x1 with
  | false => simp [b1] at h; exact s_event0 (hr_f (by decide) b1) (sgX10_open_4 (h_b0 h))
  | true =>
    obtain ⟨e, he, rfl⟩ := hr_t (by decide) b1
    simp only [b1, if_true] at h
    rw [nI_clamp (by omega)] at h
    refine s_event1 he (sgX10_open_4 (h_b1 (inX1_swapState (fun P2 => ?_))))
    unfold fmX1_swapState_0
    rw [nI_clamp (by omega)]
    exact ⟨vp_in_nI he (by decide), vp_in_nI he (by decide), sgX10_open_16 h⟩
theorem m_becomes {v : Int32} (h : q (some (tc_I (aSet (S.1 36) x1))) (uSet 36 S x1 v)) : RX11_becomes [tc_R 0 34, tc_I x1, tc_I v] S q := by
  refine inX11_becomes (fun P => ?_)
  unfold aSet uSet at h
  cases b1 : hr 40 x1 with
  | false => simp [b1] at h; exact m_event0 (hr_f (by decide) b1) (sgX11_becomes_4 (h_b0 h))
  | true =>
    obtain ⟨e, he, rfl⟩ := hr_t (by decide) b1
    simp only [b1, if_true] at h
    refine m_event1 he (sgX11_becomes_4 (h_b1 ⟨vp_in_nI he (by decide), vp_in_nI he (by decide), h⟩))
theorem m_yes (h : q (some (tc_I (aSet (S.1 36) x1))) (uSet 36 S x1 1)) : RX11_yes [tc_R 0 34, tc_I x1] S q := inX11_yes (fun _ => m_becomes (sgX11_yes_6 h))
theorem m_no (h : q (some (tc_I (aSet (S.1 36) x1))) (uSet 36 S x1 2)) : RX11_no [tc_R 0 34, tc_I x1] S q := inX11_no (fun _ => m_becomes (sgX11_no_6 h))
theorem m_open (h : q (some (tc_I (aSet (S.1 36) x1))) (uSet 36 S x1 0)) : RX11_open [tc_R 0 34, tc_I x1] S q := inX11_open (fun _ => m_becomes (sgX11_open_6 h))
theorem s_weigh (h : q (some (tc_I (aWei (S.1 15) x1 x2))) (uWei 15 S x1 x2)) : RX10_weigh [tc_R 0 0, tc_I x1, tc_I x2] S q := by
  refine inX10_weigh (fun P => ?_)
  unfold aWei uWei at h
  cases b1 : hr 4 x1 with
  | false => simp [b1] at h; exact s_plain0 (hr_f (by decide) b1) (sgX10_weigh_4 (h_b0 h))
  | true =>
    obtain ⟨t, ht, rfl⟩ := hr_t (by decide) b1
    refine s_plain1 ht (sgX10_weigh_4 (h_b1 ?_))
    cases b2 : hr 10 x2 with
    | false =>
      simp [b1, b2] at h
      exact h_gl0 (n := 9) (by decide) (hr_f (by decide) b2) h h
    | true =>
      obtain ⟨w, hw, rfl⟩ := hr_t (by decide) b2
      simp only [b1, b2, and_self, if_true] at h
      refine h_gl1 (n := 9) (by decide) hw (inX1_swapWeight (fun P2 => ⟨vp_in_nI ht (by decide), vp_in_nI ht (by decide), sgX10_weigh_31 h⟩))
theorem m_weigh (h : q (some (tc_I (aWei (S.1 37) x1 x2))) (uWei 37 S x1 x2)) : RX11_weigh [tc_R 0 34, tc_I x1, tc_I x2] S q := by
  refine inX11_weigh (fun P => ?_)
  unfold aWei uWei at h
  cases b1 : hr 4 x1 with
  | false => simp [b1] at h; exact m_one0 (hr_f (by decide) b1) (sgX11_weigh_4 (h_b0 h))
  | true =>
    obtain ⟨t, ht, rfl⟩ := hr_t (by decide) b1
    refine m_one1 ht (sgX11_weigh_4 (h_b1 ?_))
    cases b2 : hr 10 x2 with
    | false =>
      simp [b1, b2] at h
      exact m_within0 (n := 9) (by decide) (hr_f (by decide) b2) (sgX11_weigh_16 (h_b0 h))
    | true =>
      obtain ⟨w, hw, rfl⟩ := hr_t (by decide) b2
      simp only [b1, b2, and_self, if_true] at h
      refine m_within1 (n := 9) (by decide) hw (sgX11_weigh_16 (h_b1 ⟨vp_in_nI ht (by decide), vp_in_nI ht (by decide), h⟩))
end HCALL
