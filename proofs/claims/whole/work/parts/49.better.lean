/-! better, luck -/
def hCt (p : Nat → Bool) : Nat → Nat
  | 0 => 0
  | n + 1 => hCt p n + if p n then 1 else 0
theorem hCt_le (p : Nat → Bool) : ∀ n, hCt p n ≤ n := by
  intro n
  induction n with
  | zero => exact Nat.le_refl 0
  | succ n ih =>
    simp only [hCt]
    split <;> omega
theorem hCt_t {p : Nat → Bool} {n : Nat} (h : p n = true) : hCt p (n + 1) = hCt p n + 1 := by simp [hCt, h]
theorem hCt_f {p : Nat → Bool} {n : Nat} (h : p n = false) : hCt p (n + 1) = hCt p n := by simp [hCt, h]
/-- a case of both; what each misses by -/
def hBo (ch wt st : Nat → Int32) (t u e : Nat) : Bool := decide (¬ (st e = 0 ∨ hT ch wt t e = -9)) && decide (¬ (st e = 0 ∨ hT ch wt u e = -9))
def hMe (r : Nat) (ch wt st : Nat → Int32) (t e : Nat) : Nat := hMi r (hT ch wt t e).toNatClampNeg (decide (st e = 1))
def hW0 (r : Nat) (ch wt st : Nat → Int32) (t u e : Nat) : Bool := hBo ch wt st t u e && decide (hMe r ch wt st t e < hMe r ch wt st u e)
def hW1 (r : Nat) (ch wt st : Nat → Int32) (t u e : Nat) : Bool := hBo ch wt st t u e && decide (hMe r ch wt st u e < hMe r ch wt st t e)
def hW2 (r : Nat) (ch wt st : Nat → Int32) (t u e : Nat) : Bool := hBo ch wt st t u e && decide (hMe r ch wt st t e = hMe r ch wt st u e)
theorem hW_sum (r : Nat) (ch wt st : Nat → Int32) (t u : Nat) : ∀ n, hCt (hBo ch wt st t u) n = hCt (hW0 r ch wt st t u) n + hCt (hW1 r ch wt st t u) n + hCt (hW2 r ch wt st t u) n := by
  intro n
  induction n with
  | zero => rfl
  | succ n ih =>
    simp only [hCt, ih, hW0, hW1, hW2]
    rcases Bool.eq_false_or_eq_true (hBo ch wt st t u n) with hb9 | hb9
    · simp only [hb9, Bool.true_and, if_true, decide_eq_true_eq]
      split <;> split <;> split <;> omega
    · simp [hb9]
abbrev cW (f : Nat → (Nat → Int32) → (Nat → Int32) → (Nat → Int32) → Nat → Nat → Nat → Bool) (S : tc_S) (t u n : Nat) : Nat := hCt (f S.2.2 (S.1 14) (S.1 15) (S.1 16) t u) n
abbrev mW (f : Nat → (Nat → Int32) → (Nat → Int32) → (Nat → Int32) → Nat → Nat → Nat → Bool) (r : Nat) (S : tc_S) (t u n : Nat) : Nat := hCt (f r (S.1 35) (S.1 37) (S.1 36) t u) n
section HBET
variable {q : tc_Q} {S : tc_S} {x1 x2 x3 : Int32} {t u : Nat}
def cWi (S S' : tc_S) (t u n : Nat) : Prop := hS [12] S S' ∧ S'.1 12 0 = nI (cW hW0 S t u n) ∧ S'.1 12 1 = nI (cW hW1 S t u n) ∧ S'.1 12 2 = nI (cW hW2 S t u n)
theorem h_v0 : vp_in 0 3 := vp_in_nI (n := 0) (by decide) (by decide)
theorem h_v1 : vp_in 1 3 := vp_in_nI (n := 1) (by decide) (by decide)
theorem h_v2 : vp_in 2 3 := vp_in_nI (n := 2) (by decide) (by decide)
theorem h_c0 : (0 : Int32).toNatClampNeg = 0 := by decide
theorem h_c1 : (1 : Int32).toNatClampNeg = 1 := by decide
theorem h_c2 : (2 : Int32).toNatClampNeg = 2 := by decide
theorem s_wins (hb : cB S) (hr4 : S.2.2 < 4) (ht : t < 5) (hu : u < 5) (h : ∀ S', cWi S S' t u 40 → q none S') : RX10_countWins [tc_R 0 0, tc_I (nI t), tc_I (nI u)] S q := by
  refine inX10_countWins (fun P h23 h71 h136 h149 => ?_)
  have loop : ∀ d n S', n + d = 40 → cWi S S' t u n → P 23 [(0, tc_R 0 0), (1, tc_I (nI t)), (2, tc_I (nI u)), (3, tc_I (nI n))] [] S' := by
    intro d
    induction d with
    | zero =>
      intro n S' hn hw
      have e : n = 40 := by omega
      subst e
      exact h23 _ _ _ _ ⟨fun _ => h S' hw, fun z => absurd (nI_le (Nat.le_refl 40) (by decide)) z⟩
    | succ d ih =>
      intro n S' hn hw
      have hn40 : n < 40 := by omega
      have hb' := hw.1.cB (by decide) (by decide) (by decide) hb
      have e14 := hw.1.1 14 (by decide)
      have e15 := hw.1.1 15 (by decide)
      have e16 := hw.1.1 16 (by decide)
      have er := hw.1.2.2
      obtain ⟨hs, w0, w1, w2⟩ := hw
      have stay : hBo (S.1 14) (S.1 15) (S.1 16) t u n = false → P 149 [(0, tc_R 0 0), (1, tc_I (nI t)), (2, tc_I (nI u)), (3, tc_I (nI n))] [] S' := by
        intro hf
        refine h149 _ _ _ _ ?_
        have := ih (n + 1) S' (by omega) ⟨hs, by rw [w0]; simp only [cW]; rw [hCt_f (by simp [hW0, hf])], by rw [w1]; simp only [cW]; rw [hCt_f (by simp [hW1, hf])], by rw [w2]; simp only [cW]; rw [hCt_f (by simp [hW2, hf])]⟩
        rw [nI_succ n] at this
        exact this
      refine h23 _ _ _ _ ⟨fun z => absurd z (nI_ge hn40 (by decide)), fun _ => s_case hb' ht hn40 (fun g => sgX10_countWins_38 (h_b0 (stay ?_))) (fun g => sgX10_countWins_38 (h_b1 (s_case hb' hu hn40 (fun g2 => sgX10_countWins_50 (h_b0 (stay ?_))) (fun g2 => sgX10_countWins_50 (h_b1 ?_)))))⟩
      · rw [e14, e15, e16] at g
        simp [hBo, g]
      · rw [e14, e15, e16] at g2
        simp [hBo, g2]
      · rw [e14, e15, e16] at g g2
        have hbo : hBo (S.1 14) (S.1 15) (S.1 16) t u n = true := by
          simp only [hBo, g, g2]
          rfl
        obtain ⟨p, hp, h1⟩ : ∃ p, p ≤ 100 ∧ hT (S.1 14) (S.1 15) t n = nI p := (hT_nat hb ht hn40).resolve_left (fun z => g (Or.inr z))
        obtain ⟨p2, hp2, h2⟩ : ∃ p, p ≤ 100 ∧ hT (S.1 14) (S.1 15) u n = nI p := (hT_nat hb hu hn40).resolve_left (fun z => g2 (Or.inr z))
        have m1 : hMe S.2.2 (S.1 14) (S.1 15) (S.1 16) t n = hMi S.2.2 p (decide (S.1 16 n = 1)) := by unfold hMe; rw [h1, nI_clamp (by omega)]
        have m2 : hMe S.2.2 (S.1 14) (S.1 15) (S.1 16) u n = hMi S.2.2 p2 (decide (S.1 16 n = 1)) := by unfold hMe; rw [h2, nI_clamp (by omega)]
        have l1 := hMi_le (r := S.2.2) hp (decide (S.1 16 n = 1))
        have l2 := hMi_le (r := S.2.2) hp2 (decide (S.1 16 n = 1))
        have hc0 := hCt_le (hW0 S.2.2 (S.1 14) (S.1 15) (S.1 16) t u) n
        have go : ∀ b : Bool, b = decide (S.1 16 n = 1) → P 71 [(0, tc_R 0 0), (1, tc_I (nI t)), (2, tc_I (nI u)), (3, tc_I (nI n))] [tc_I (h01 b)] S' := by
          intro b hbb
          refine h71 _ _ _ _ _ (s_told hb' ht hn40 (sgX10_countWins_86 ?_))
          rw [e14, e15, h1, er]
          refine ⟨hr4, s_miss hr4 hp (sgX10_countWins_91 (s_told hb' hu hn40 (sgX10_countWins_106 ?_)))⟩
          rw [e14, e15, h2, er]
          refine ⟨hr4, s_miss hr4 hp2 (sgX10_countWins_111 ?_)⟩
          rw [hbb, ← m1, ← m2]
          rw [← m1] at l1
          rw [← m2] at l2
          refine ⟨fun z => ⟨fun z2 => h136 _ _ _ _ _ ?_, fun z2 => h136 _ _ _ _ _ ?_⟩, fun z => h136 _ _ _ _ _ ?_⟩
          · have g5 := (nI_leI (by omega) (by omega)).mp z
            have g6 := (nI_leI (by omega) (by omega)).mp z2
            unfold fmX10_countWins_136
            rw [h_c2, w2]
            refine ⟨h_v2, h_v2, h149 _ _ _ _ ?_⟩
            have := ih (n + 1) (tc_ui S' 12 2 (nI (cW hW2 S t u n) + 1)) (by omega) ⟨hs.ui (by decide), by rw [tc_ui_self, h_updn (by decide), w0]; simp only [cW]; rw [hCt_f (by simp [hW0, hbo]; omega)], by rw [tc_ui_self, h_updn (by decide), w1]; simp only [cW]; rw [hCt_f (by simp [hW1, hbo]; omega)], by rw [tc_ui_self, h_upd]; simp only [cW]; rw [hCt_t (by simp [hW2, hbo]; omega), nI_succ]⟩
            rw [nI_succ n] at this
            exact this
          · have g5 := (nI_leI (by omega) (by omega)).mp z
            have g6 : ¬ hMe S.2.2 (S.1 14) (S.1 15) (S.1 16) t n ≤ hMe S.2.2 (S.1 14) (S.1 15) (S.1 16) u n := fun g6 => z2 (nI_le g6 (by omega))
            unfold fmX10_countWins_136
            rw [h_c1, w1]
            refine ⟨h_v1, h_v1, h149 _ _ _ _ ?_⟩
            have := ih (n + 1) (tc_ui S' 12 1 (nI (cW hW1 S t u n) + 1)) (by omega) ⟨hs.ui (by decide), by rw [tc_ui_self, h_updn (by decide), w0]; simp only [cW]; rw [hCt_f (by simp [hW0, hbo]; omega)], by rw [tc_ui_self, h_upd]; simp only [cW]; rw [hCt_t (by simp [hW1, hbo]; omega), nI_succ], by rw [tc_ui_self, h_updn (by decide), w2]; simp only [cW]; rw [hCt_f (by simp [hW2, hbo]; omega)]⟩
            rw [nI_succ n] at this
            exact this
          · have g5 : ¬ hMe S.2.2 (S.1 14) (S.1 15) (S.1 16) u n ≤ hMe S.2.2 (S.1 14) (S.1 15) (S.1 16) t n := fun g6 => z (nI_le g6 (by omega))
            unfold fmX10_countWins_136
            rw [h_c0, w0]
            refine ⟨h_v0, h_v0, h149 _ _ _ _ ?_⟩
            have := ih (n + 1) (tc_ui S' 12 0 (nI (cW hW0 S t u n) + 1)) (by omega) ⟨hs.ui (by decide), by rw [tc_ui_self, h_upd]; simp only [cW]; rw [hCt_t (by simp [hW0, hbo]; omega), nI_succ], by rw [tc_ui_self, h_updn (by decide), w1]; simp only [cW]; rw [hCt_f (by simp [hW1, hbo]; omega)], by rw [tc_ui_self, h_updn (by decide), w2]; simp only [cW]; rw [hCt_f (by simp [hW2, hbo]; omega)]⟩
            rw [nI_succ n] at this
            exact this
        rw [nI_clamp (by omega), e16]
        exact ⟨vp_in_nI hn40 (by decide), fun z => go true (by simp [z]), fun z => go false (by simp [z])⟩
  unfold fmX10_countWins_0
  rw [h_c0, h_c1, h_c2]
  refine ⟨h_v0, h_v1, h_v2, loop 40 0 _ rfl ⟨(((hS.rf _ S).ui (by decide)).ui (by decide)).ui (by decide), ?_, ?_, ?_⟩⟩
  · rw [tc_ui_self, h_updn (by decide), tc_ui_self, h_updn (by decide), tc_ui_self, h_upd]; rfl
  · rw [tc_ui_self, h_updn (by decide), tc_ui_self, h_upd]; rfl
  · rw [tc_ui_self, h_upd]; rfl
-- the model's
def mWi (r : Nat) (S S' : tc_S) (t u n : Nat) : Prop := hS [34] S S' ∧ S'.1 34 4 = S.1 34 4 ∧ S'.1 34 9 = S.1 34 9 ∧ S'.1 34 25 = nI (hCt (hBo (S.1 35) (S.1 37) (S.1 36) t u) n) ∧ S'.1 34 26 = nI (mW hW0 r S t u n) ∧ S'.1 34 27 = nI (mW hW1 r S t u n)
theorem m_compares {r : Nat} (hb : mB S) (hr4 : r < 4) (hru : S.1 34 9 = nI r) (ht : t < 5) (hu : u < 5) (h : ∀ S', mWi r S S' t u 40 → q none S') : RX11_compares [tc_R 0 34, tc_I (nI t), tc_I (nI u)] S q := by
  refine inX11_compares (fun P h17 h63 h90 h122 h143 h147 => ?_)
  have loop : ∀ d n S', n + d = 40 → mWi r S S' t u n → P 17 [(0, tc_R 0 34), (1, tc_I (nI t)), (2, tc_I (nI u)), (3, tc_I (nI n))] [] S' := by
    intro d
    induction d with
    | zero =>
      intro n S' hn hw
      have e : n = 40 := by omega
      subst e
      exact h17 _ _ _ _ ⟨fun _ => h S' hw, fun z => absurd (nI_le (Nat.le_refl 40) (by decide)) z⟩
    | succ d ih =>
      intro n S' hn hw
      have hn40 : n < 40 := by omega
      obtain ⟨hs, f4, f9, w2, w0, w1⟩ := hw
      have hb' := hs.mB (by decide) (by decide) (by decide) hb
      have e14 := hs.1 35 (by decide)
      have e15 := hs.1 37 (by decide)
      have e16 := hs.1 36 (by decide)
      have hru' : S'.1 34 9 = nI r := by rw [f9, hru]
      have stay : hBo (S.1 35) (S.1 37) (S.1 36) t u n = false → P 147 [(0, tc_R 0 34), (1, tc_I (nI t)), (2, tc_I (nI u)), (3, tc_I (nI n))] [] S' := by
        intro hf
        refine h147 _ _ _ _ ?_
        have := ih (n + 1) S' (by omega) ⟨hs, f4, f9, by rw [w2, hCt_f hf], by rw [w0]; simp only [mW]; rw [hCt_f (by simp [hW0, hf])], by rw [w1]; simp only [mW]; rw [hCt_f (by simp [hW1, hf])]⟩
        rw [nI_succ n] at this
        exact this
      refine h17 _ _ _ _ ⟨fun z => absurd z (nI_ge hn40 (by decide)), fun _ => m_case hb' ht hn40 (fun g => sgX11_compares_29 (h_b0 (stay ?_))) (fun g => sgX11_compares_29 (h_b1 (m_case hb' hu hn40 (fun g2 => sgX11_compares_38 (h_b0 (stay ?_))) (fun g2 => sgX11_compares_38 (h_b1 (m_told hb' ht hn40 (sgX11_compares_48 ?_)))))))⟩
      · rw [e14, e15, e16] at g
        simp [hBo, g]
      · rw [e14, e15, e16] at g2
        simp [hBo, g2]
      · rw [e14, e15, e16] at g g2
        have hbo : hBo (S.1 35) (S.1 37) (S.1 36) t u n = true := by
          simp only [hBo, g, g2]
          rfl
        obtain ⟨p, hp, h1⟩ : ∃ p, p ≤ 100 ∧ hT (S.1 35) (S.1 37) t n = nI p := (hT_nat hb ht hn40).resolve_left (fun z => g (Or.inr z))
        obtain ⟨p2, hp2, h2⟩ : ∃ p, p ≤ 100 ∧ hT (S.1 35) (S.1 37) u n = nI p := (hT_nat hb hu hn40).resolve_left (fun z => g2 (Or.inr z))
        have m1 : hMe r (S.1 35) (S.1 37) (S.1 36) t n = hMi r p (decide (S.1 36 n = 1)) := by unfold hMe; rw [h1, nI_clamp (by omega)]
        have m2 : hMe r (S.1 35) (S.1 37) (S.1 36) u n = hMi r p2 (decide (S.1 36 n = 1)) := by unfold hMe; rw [h2, nI_clamp (by omega)]
        have l1 := hMi_le (r := r) hp (decide (S.1 36 n = 1))
        have l2 := hMi_le (r := r) hp2 (decide (S.1 36 n = 1))
        have fin : ∀ v0 v1 : Int32, v0 = nI (if hW0 r (S.1 35) (S.1 37) (S.1 36) t u n then 1 else 0) → v1 = nI (if hW1 r (S.1 35) (S.1 37) (S.1 36) t u n then 1 else 0) → P 143 [(0, tc_R 0 34), (1, tc_I (nI t)), (2, tc_I (nI u)), (3, tc_I (nI n))] [tc_I v1, tc_I (nI (mW hW1 r S t u n)), tc_R 0 34] (tc_ui (tc_ui S' 34 25 (S'.1 34 25 + 1)) 34 26 (nI (mW hW0 r S t u n) + v0)) := by
          intro v0 v1 hv0 hv1
          refine h143 _ _ _ _ _ _ (h147 _ _ _ _ ?_)
          have := ih (n + 1) (tc_ui (tc_ui (tc_ui S' 34 25 (S'.1 34 25 + 1)) 34 26 (nI (mW hW0 r S t u n) + v0)) 34 27 (nI (mW hW1 r S t u n) + v1)) (by omega) ⟨((hs.ui (by decide)).ui (by decide)).ui (by decide), ?_, ?_, ?_, ?_, ?_⟩
          · rw [nI_succ n] at this
            exact this
          · rw [tc_ui_self, h_updn (by decide), tc_ui_self, h_updn (by decide), tc_ui_self, h_updn (by decide), f4]
          · rw [tc_ui_self, h_updn (by decide), tc_ui_self, h_updn (by decide), tc_ui_self, h_updn (by decide), f9]
          · rw [tc_ui_self, h_updn (by decide), tc_ui_self, h_updn (by decide), tc_ui_self, h_upd, w2, nI_1, hCt_t hbo]
          · rw [tc_ui_self, h_updn (by decide), tc_ui_self, h_upd, hv0, nI_add]
            rfl
          · rw [tc_ui_self, h_upd, hv1, nI_add]
            rfl
        have go2 : ∀ b : Bool, b = decide (S.1 36 n = 1) → P 90 [(0, tc_R 0 34), (1, tc_I (nI t)), (2, tc_I (nI u)), (3, tc_I (nI n)), (4, tc_I (nI (hMe r (S.1 35) (S.1 37) (S.1 36) t n)))] [tc_I (h01 b), tc_I (nI p2), tc_R 0 34] S' := by
          intro b hbb
          refine h90 _ _ _ _ _ _ _ (m_miss hr4 hru' hp2 (sgX11_compares_93 ?_))
          rw [hbb, ← m2]
          rw [← m1] at l1
          rw [← m2] at l2
          have e26 : (tc_ui S' 34 25 (S'.1 34 25 + 1)).1 34 26 = nI (mW hW0 r S t u n) := by rw [tc_ui_self, h_updn (by decide), w0]
          have e27 : ∀ v, (tc_ui (tc_ui S' 34 25 (S'.1 34 25 + 1)) 34 26 v).1 34 27 = nI (mW hW1 r S t u n) := by
            intro v
            rw [tc_ui_self, h_updn (by decide), tc_ui_self, h_updn (by decide), w1]
          unfold fmX11_compares_93
          rw [e26]
          refine ⟨fun z => h122 _ _ _ _ _ _ _ _ ?_, fun z => h122 _ _ _ _ _ _ _ _ ?_⟩
          · have g5 := (nI_leI (by omega) (by omega)).mp z
            have z0 : (0 : Int32) = nI (if hW0 r (S.1 35) (S.1 37) (S.1 36) t u n then 1 else 0) := by
              rw [show hW0 r (S.1 35) (S.1 37) (S.1 36) t u n = false by simp [hW0]; omega]
              rfl
            unfold fmX11_compares_122
            rw [e27]
            refine ⟨fun z2 => fin 0 0 z0 ?_, fun z2 => fin 0 1 z0 ?_⟩
            · have g6 := (nI_leI (by omega) (by omega)).mp z2
              rw [show hW1 r (S.1 35) (S.1 37) (S.1 36) t u n = false by simp [hW1]; omega]
              rfl
            · have g6 : ¬ hMe r (S.1 35) (S.1 37) (S.1 36) t n ≤ hMe r (S.1 35) (S.1 37) (S.1 36) u n := fun g6 => z2 (nI_le g6 (by omega))
              rw [show hW1 r (S.1 35) (S.1 37) (S.1 36) t u n = true by simp [hW1, hbo]; omega]
              rfl
          · have g5 : ¬ hMe r (S.1 35) (S.1 37) (S.1 36) u n ≤ hMe r (S.1 35) (S.1 37) (S.1 36) t n := fun g6 => z (nI_le g6 (by omega))
            have z0 : (1 : Int32) = nI (if hW0 r (S.1 35) (S.1 37) (S.1 36) t u n then 1 else 0) := by
              rw [show hW0 r (S.1 35) (S.1 37) (S.1 36) t u n = true by simp [hW0, hbo]; omega]
              rfl
            unfold fmX11_compares_122
            rw [e27]
            refine ⟨fun z2 => fin 1 0 z0 ?_, fun z2 => absurd (nI_le (by omega) (by omega)) z2⟩
            rw [show hW1 r (S.1 35) (S.1 37) (S.1 36) t u n = false by simp [hW1]; omega]
            rfl
        have go : ∀ b : Bool, b = decide (S.1 36 n = 1) → P 63 [(0, tc_R 0 34), (1, tc_I (nI t)), (2, tc_I (nI u)), (3, tc_I (nI n))] [tc_I (h01 b), tc_I (nI p), tc_R 0 34] S' := by
          intro b hbb
          refine h63 _ _ _ _ _ _ (m_miss hr4 hru' hp (sgX11_compares_66 (m_told hb' hu hn40 (sgX11_compares_75 ?_))))
          unfold fmX11_compares_75
          rw [e14, e15, h2, hbb, ← m1, nI_clamp (by omega), e16]
          exact ⟨vp_in_nI hn40 (by decide), fun z => go2 true (by simp [z]), fun z => go2 false (by simp [z])⟩
        unfold fmX11_compares_48
        rw [e14, e15, h1, nI_clamp (by omega), e16]
        exact ⟨vp_in_nI hn40 (by decide), fun z => go true (by simp [z]), fun z => go false (by simp [z])⟩
  refine loop 40 0 _ rfl ⟨(((hS.rf _ S).ui (by decide)).ui (by decide)).ui (by decide), ?_, ?_, ?_, ?_, ?_⟩
  · rw [tc_ui_self, h_updn (by decide), tc_ui_self, h_updn (by decide), tc_ui_self, h_updn (by decide)]
  · rw [tc_ui_self, h_updn (by decide), tc_ui_self, h_updn (by decide), tc_ui_self, h_updn (by decide)]
  · rw [tc_ui_self, h_updn (by decide), tc_ui_self, h_updn (by decide), tc_ui_self, h_upd]; rfl
  · rw [tc_ui_self, h_updn (by decide), tc_ui_self, h_upd]; rfl
  · rw [tc_ui_self, h_upd]; rfl
theorem p_better (hR : Rel S) (h : ∀ (x9 : Int32) S1, (∀ q2 : tc_Q, (∀ S2, Rel S2 → q2 (some (tc_I x9)) S2) → RX11_better [tc_R 0 34, tc_I x1, tc_I x2, tc_I x3] S1 q2) → q (some (tc_I x9)) S1) : RX10_better [tc_R 0 0, tc_I x1, tc_I x2, tc_I x3] S q := by
  refine inX10_better (fun P => ?_)
  cases b1 : hr 5 x1 with
  | false =>
    have n1 := hr_f (by decide) b1
    exact s_teller0 n1 (sgX10_better_4 (h_b0 (h _ _ (fun q2 h2 => inX11_better (fun _ => m_any0 n1 (sgX11_better_4 (h_b0 (h2 _ hR))))))))
  | true =>
    obtain ⟨t, ht, rfl⟩ := hr_t (by decide) b1
    refine s_teller1 ht (sgX10_better_4 (h_b1 ?_))
    cases b2 : hr 5 x2 with
    | false =>
      have n2 := hr_f (by decide) b2
      exact s_teller0 n2 (sgX10_better_11 (h_b0 (h _ _ (fun q2 h2 => inX11_better (fun _ => m_any1 ht (sgX11_better_4 (h_b1 (m_any0 n2 (sgX11_better_11 (h_b0 (h2 _ hR)))))))))))
    | true =>
      obtain ⟨u, hu, rfl⟩ := hr_t (by decide) b2
      obtain ⟨r1, r2⟩ := hR.2.2.2.1
      refine s_teller1 hu (sgX10_better_11 (h_b1 ?_))
      cases b3 : hr 4 x3 with
      | false =>
        have n3 := hr_f (by decide) b3
        have hh : q (some (tc_I (-2))) S := h _ _ (fun q2 h2 => inX11_better (fun _ => m_any1 ht (sgX11_better_4 (h_b1 (m_any1 hu (sgX11_better_11 (h_b1 (m_compares hR.mb r1 r2 ht hu (fun S' hw => sgX11_better_22 ⟨fun _ => h2 _ (hR.fr (hw.1.wk (by decide)) hw.2.1 hw.2.2.1), fun z => absurd ⟨0, by decide, z⟩ n3, fun z => absurd ⟨1, by decide, z⟩ n3, fun z => absurd ⟨2, by decide, z⟩ n3, fun z => absurd ⟨3, by decide, z⟩ n3, trivial⟩)))))))))
        exact h_gl0 (n := 3) (by decide) n3 hh hh
      | true =>
        obtain ⟨k, hk, rfl⟩ := hr_t (by decide) b3
        refine h_gl1 (n := 3) (by decide) hk (s_wins hR.2.1 r1 ht hu (fun S' hw => sgX10_better_34 ?_))
        have hR' : Rel S' := hR.fr (hw.1.wk (by decide)) (by rw [hw.1.1 34 (by decide)]) (by rw [hw.1.1 34 (by decide)])
        have hru : S'.1 34 9 = nI S.2.2 := by rw [hw.1.1 34 (by decide)]; exact r2
        have rows : S'.1 35 = S.1 14 ∧ S'.1 37 = S.1 15 ∧ S'.1 36 = S.1 16 := ⟨by rw [hw.1.1 35 (by decide), hR.1.1], by rw [hw.1.1 37 (by decide), hR.1.2.1], by rw [hw.1.1 36 (by decide), hR.1.2.2]⟩
        obtain ⟨hs, w0, w1, w2⟩ := hw
        have hsum := hW_sum S.2.2 (S.1 14) (S.1 15) (S.1 16) t u 40
        have hle := hCt_le (hBo (S.1 14) (S.1 15) (S.1 16) t u) 40
        have fin : ∀ v : Int32, (k = 0 → v = nI (hCt (hBo (S.1 14) (S.1 15) (S.1 16) t u) 40)) → (k = 1 → v = nI (cW hW0 S t u 40)) → (k = 2 → v = nI (cW hW1 S t u 40)) → (k = 3 → v = nI (cW hW2 S t u 40)) → q (some (tc_I v)) S' := by
          intro v v0 v1 v2 v3
          refine h _ _ (fun q2 h2 => inX11_better (fun _ => m_any1 ht (sgX11_better_4 (h_b1 (m_any1 hu (sgX11_better_11 (h_b1 (m_compares hR'.mb r1 hru ht hu (fun S2 hw2 => sgX11_better_22 ?_)))))))))
          obtain ⟨hs2, f4, f9, g25, g26, g27⟩ := hw2
          have hR2 := hR'.fr (hs2.wk (by decide)) f4 f9
          rw [rows.1, rows.2.1, rows.2.2] at g25
          simp only [mW, rows.1, rows.2.1, rows.2.2] at g26 g27
          unfold fmX11_better_22
          rw [g25, g26, g27]
          refine ⟨fun z => ?_, fun z => ?_, fun z => ?_, fun z => ?_, fun z => ?_, trivial⟩
          · rcases z with z | z
            · exact absurd z (nI_pos (by omega))
            · exact absurd z (nI_nlt (show k ≤ 3 by omega) (by decide))
          · have e := (nI_eq (b := 0) (by omega) (by decide)).mp z
            rw [← v0 e]
            exact h2 _ hR2
          · have e := (nI_eq (b := 1) (by omega) (by decide)).mp z
            have e9 := v1 e
            simp only [cW] at e9
            rw [← e9]
            exact h2 _ hR2
          · have e := (nI_eq (b := 2) (by omega) (by decide)).mp z
            have e9 := v2 e
            simp only [cW] at e9
            rw [← e9]
            exact h2 _ hR2
          · have e := (nI_eq (b := 3) (by omega) (by decide)).mp z
            have e9 := v3 e
            simp only [cW] at e9
            have e5 : nI (hCt (hBo (S.1 14) (S.1 15) (S.1 16) t u) 40) - nI (hCt (hW0 S.2.2 (S.1 14) (S.1 15) (S.1 16) t u) 40) - nI (hCt (hW1 S.2.2 (S.1 14) (S.1 15) (S.1 16) t u) 40) = v := by
              rw [e9, show nI (hCt (hBo (S.1 14) (S.1 15) (S.1 16) t u) 40) - nI (hCt (hW0 S.2.2 (S.1 14) (S.1 15) (S.1 16) t u) 40) = nI (hCt (hBo (S.1 14) (S.1 15) (S.1 16) t u) 40 - hCt (hW0 S.2.2 (S.1 14) (S.1 15) (S.1 16) t u) 40) from (Int32.ofNat_sub _ _ (by omega)).symm]
              rw [show nI (hCt (hBo (S.1 14) (S.1 15) (S.1 16) t u) 40 - hCt (hW0 S.2.2 (S.1 14) (S.1 15) (S.1 16) t u) 40) - nI (hCt (hW1 S.2.2 (S.1 14) (S.1 15) (S.1 16) t u) 40) = nI (hCt (hBo (S.1 14) (S.1 15) (S.1 16) t u) 40 - hCt (hW0 S.2.2 (S.1 14) (S.1 15) (S.1 16) t u) 40 - hCt (hW1 S.2.2 (S.1 14) (S.1 15) (S.1 16) t u) 40) from (Int32.ofNat_sub _ _ (by omega)).symm]
              congr 1
              omega
            rw [e5]
            exact h2 _ hR2
        unfold fmX10_better_34
        rw [h_c0, h_c1, h_c2, w0, w1, w2]
        refine ⟨fun z => ⟨h_v0, h_v1, h_v2, fin _ (fun _ => ?_) (fun e => ?_) (fun e => ?_) (fun e => ?_)⟩, fun z => ?_⟩
        · simp only [cW]
          rw [nI_add, nI_add, hsum]
        · have := (nI_eq (b := 0) (by omega) (by decide)).mp z
          omega
        · have := (nI_eq (b := 0) (by omega) (by decide)).mp z
          omega
        · have := (nI_eq (b := 0) (by omega) (by decide)).mp z
          omega
        · obtain ⟨k', rfl⟩ : ∃ k', k = k' + 1 := by
            cases k with
            | zero => exact absurd rfl z
            | succ k' => exact ⟨k', rfl⟩
          rw [nI_pred, nI_clamp (by omega)]
          refine ⟨vp_in_nI (by omega) (by decide), ?_⟩
          rcases (show k' = 0 ∨ k' = 1 ∨ k' = 2 by omega) with rfl | rfl | rfl
          · rw [w0]; exact fin _ (fun e => by omega) (fun _ => rfl) (fun e => by omega) (fun e => by omega)
          · rw [w1]; exact fin _ (fun e => by omega) (fun e => by omega) (fun _ => rfl) (fun e => by omega)
          · rw [w2]; exact fin _ (fun e => by omega) (fun e => by omega) (fun e => by omega) (fun _ => rfl)
end HBET
