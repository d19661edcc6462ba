/-! what lies in the bins -/
theorem h_row (S : tc_S) (i k j : Nat) (x : Int32) : (tc_ui S i k x).1 j = if j = i then upd (S.1 j) k x else S.1 j := rfl
theorem h_updE (f : Nat → Int32) (k j : Nat) (x : Int32) : upd f k x j = if j = k then x else f j := rfl
def hBn (f : Nat → Int32) (g : Nat × Bool → Nat) (k : Nat) (l : List (Nat × Bool)) : Nat := (l.map (fun c => if k = (hCs f c.1).length then g c else 0)).sum
theorem hBn_push (f : Nat → Int32) (g : Nat × Bool → Nat) (k : Nat) (l : List (Nat × Bool)) (c : Nat × Bool) : hBn f g k (l ++ [c]) = hBn f g k l + if k = (hCs f c.1).length then g c else 0 := by simp [hBn]
theorem hBn_le {f : Nat → Int32} {g : Nat × Bool → Nat} {k B : Nat} {l : List (Nat × Bool)} (h : ∀ c ∈ l, g c ≤ B) : hBn f g k l ≤ B * l.length := by
  induction l with
  | nil => simp [hBn]
  | cons c l ih =>
    have h1 := ih (fun c hc => h c (List.mem_cons_of_mem _ hc))
    have h2 := h c List.mem_cons_self
    simp only [hBn, List.map_cons, List.sum_cons, List.length_cons] at h1 ⊢
    split <;> rw [Nat.mul_add] <;> omega
def g0 (_ : Nat × Bool) : Nat := 1
def g1 (c : Nat × Bool) : Nat := if c.2 then 1 else 0
def g2 (c : Nat × Bool) : Nat := c.1
def g3 (c : Nat × Bool) : Nat := c.1 * c.1
def g4 (c : Nat × Bool) : Nat := if c.2 then c.1 else 0
/-- five rows of bins, from the cell b on -/
def hBi (f : Nat → Int32) (r0 r1 r2 r3 r4 : Nat → Int32) (l : List (Nat × Bool)) : Prop := ∀ k, k < 10 → r0 k = nI (hBn f g0 k l) ∧ r1 k = nI (hBn f g1 k l) ∧ r2 k = nI (hBn f g2 k l) ∧ r3 k = nI (hBn f g3 k l) ∧ r4 k = nI (hBn f g4 k l)
theorem hBi_push {f r0 r1 r2 r3 r4 r0' r1' r2' r3' r4' : Nat → Int32} {l : List (Nat × Bool)} {c : Nat × Bool} {b : Nat} (h : hBi f r0 r1 r2 r3 r4 l) (hb : b = (hCs f c.1).length) (e0 : r0' = upd r0 b (r0 b + 1)) (e1 : r1' = if c.2 then upd r1 b (r1 b + 1) else r1) (e2 : r2' = upd r2 b (r2 b + nI c.1)) (e3 : r3' = upd r3 b (r3 b + nI c.1 * nI c.1)) (e4 : r4' = if c.2 then upd r4 b (r4 b + nI c.1) else r4) : hBi f r0' r1' r2' r3' r4' (l ++ [c]) := by
  intro k hk
  obtain ⟨h0, h1, h2, h3, h4⟩ := h k hk
  simp only [hBn_push, ← hb]
  by_cases hkb : k = b
  · subst hkb
    simp only [if_true]
    refine ⟨?_, ?_, ?_, ?_, ?_⟩
    · rw [e0, h_upd, h0, nI_1]; rfl
    · rw [e1]
      cases h9 : c.2 with
      | false =>
        rw [show g1 c = 0 by simp [g1, h9]]
        simpa using h1
      | true =>
        rw [show g1 c = 1 by simp [g1, h9]]
        simp only [if_true]
        rw [h_upd, h1, nI_1]
    · rw [e2, h_upd, h2, nI_add]; rfl
    · rw [e3, h_upd, h3, h_mul, nI_add]; rfl
    · rw [e4]
      cases h9 : c.2 with
      | false =>
        rw [show g4 c = 0 by simp [g4, h9]]
        simpa using h4
      | true =>
        rw [show g4 c = c.1 by simp [g4, h9]]
        simp only [if_true]
        rw [h_upd, h4, nI_add]
  · simp only [if_neg hkb, Nat.add_zero]
    refine ⟨by rw [e0, h_updn hkb]; exact h0, ?_, by rw [e2, h_updn hkb]; exact h2, by rw [e3, h_updn hkb]; exact h3, ?_⟩
    · rw [e1]
      split
      · rw [h_updn hkb]; exact h1
      · exact h1
    · rw [e4]
      split
      · rw [h_updn hkb]; exact h4
      · exact h4
section HBINS
variable {q : tc_Q} {S : tc_S} {x1 : Int32} {t : Nat}
/-- what sortIn leaves -/
def cBi (S S' : tc_S) (l : List (Nat × Bool)) : Prop := hS [22, 23, 24, 25, 26] S S' ∧ hBi (S.1 41) (S'.1 22) (S'.1 23) (S'.1 24) (S'.1 25) (S'.1 26) l
theorem s_sortIn {l : List (Nat × Bool)} (hcut : hCut (S.1 5) (S.1 21) (S.1 41)) (hc : cC S l) (h : ∀ S', cBi S S' l → q none S') : RX0_sortIn [tc_R 0 5, tc_R 0 4] S q := by
  refine inX0_sortIn (fun P h2 h54 h142 => ?_)
  obtain ⟨c1, c2, c3, c4, c5⟩ := hc
  have loop2 : ∀ d n S', n + d = l.length → cBi S S' (l.take n) → P 54 [(0, tc_R 0 5), (1, tc_R 0 4), (2, tc_I (nI n))] [] S' := by
    intro d
    induction d with
    | zero =>
      intro n S' hn hb
      refine h54 _ _ ?_
      unfold fmX0_sortIn_54
      rw [hb.1.1 4 (by decide), c3]
      refine ⟨fun _ => h S' ?_, fun z => absurd (nI_le (by omega) (by omega)) z⟩
      rw [List.take_of_length_le (by omega)] at hb
      exact hb
    | succ d ih =>
      intro n S' hn hb
      obtain ⟨c, hcn⟩ : ∃ c, l[n]? = some c := ⟨l[n], List.getElem?_eq_getElem (by omega)⟩
      have hp := c2 c (List.mem_of_getElem? hcn)
      refine h54 _ _ ?_
      unfold fmX0_sortIn_54
      rw [hb.1.1 4 (by decide), c3, hb.1.1 19 (by decide), nI_clamp (by omega), (c5 n c hcn).1]
      refine ⟨fun z => absurd z (nI_ge (by omega) (by omega)), fun _ => ⟨vp_in_nI (by omega) (by decide), s_binOf (by rw [hb.1.1 5 (by decide), hb.1.1 21 (by decide), hb.1.1 41 (by decide)]; exact hcut) hp (sgX0_sortIn_74 ?_)⟩⟩
      rw [hb.1.1 41 (by decide)]
      have hle := hCs_len_le (S.1 41) hp
      have h9 := hcut.2.1
      have hin : vp_in (nI (hCs (S.1 41) c.1).length) 10 := vp_in_nI (by omega) (by decide)
      have e20 : S'.1 20 n = h01 c.2 := by rw [hb.1.1 20 (by decide)]; exact (c5 n c hcn).2
      unfold fmX0_sortIn_74
      rw [nI_clamp (by omega), nI_clamp (by omega)]
      simp only [h_row, Nat.reduceEqDiff, reduceIte, e20]
      have tk := h_take hcn
      have fin : ∀ S2, cBi S S2 (l.take n ++ [c]) → P 54 [(0, tc_R 0 5), (1, tc_R 0 4), (2, tc_I (nI n + 1))] [] S2 := by
        intro S2 h2
        rw [← tk] at h2
        have := ih (n + 1) S2 (by omega) h2
        rw [nI_succ n] at this
        exact this
      refine ⟨hin, hin, hin, hin, hin, hin, vp_in_nI (by omega) (by decide), fun z => h142 _ _ ?_, fun z => ⟨hin, hin, hin, hin, h142 _ _ ?_⟩⟩
      · have hc2 : c.2 = false := by
          cases h9 : c.2
          · rfl
          · rw [h9] at z; exact absurd z (by decide)
        exact fin _ (by
          refine ⟨((hb.1.ui (i := 22) (by decide)).ui (i := 24) (by decide)).ui (i := 25) (by decide), hBi_push hb.2 rfl ?_ ?_ ?_ ?_ ?_⟩
          · simp only [h_row, Nat.reduceEqDiff, reduceIte]
          · simp only [h_row, Nat.reduceEqDiff, reduceIte, hc2, Bool.false_eq_true]
          · simp only [h_row, Nat.reduceEqDiff, reduceIte]
          · simp only [h_row, Nat.reduceEqDiff, reduceIte]
          · simp only [h_row, Nat.reduceEqDiff, reduceIte, hc2, Bool.false_eq_true])
      · have hc2 : c.2 = true := by
          cases h9 : c.2
          · rw [h9] at z; exact absurd rfl z
          · rfl
        exact fin _ (by
          refine ⟨((((hb.1.ui (i := 22) (by decide)).ui (i := 24) (by decide)).ui (i := 25) (by decide)).ui (i := 23) (by decide)).ui (i := 26) (by decide), hBi_push hb.2 rfl ?_ ?_ ?_ ?_ ?_⟩
          · simp only [h_row, Nat.reduceEqDiff, reduceIte]
          · simp only [h_row, Nat.reduceEqDiff, reduceIte, hc2]
          · simp only [h_row, Nat.reduceEqDiff, reduceIte]
          · simp only [h_row, Nat.reduceEqDiff, reduceIte]
          · simp only [h_row, Nat.reduceEqDiff, reduceIte, hc2])
  have loop1 : ∀ d n S', n + d = 10 → hS [22, 23, 24, 25, 26] S S' → (∀ k, k < n → S'.1 22 k = 0 ∧ S'.1 23 k = 0 ∧ S'.1 24 k = 0 ∧ S'.1 25 k = 0 ∧ S'.1 26 k = 0) → P 2 [(0, tc_R 0 5), (1, tc_R 0 4), (2, tc_I (nI n))] [] S' := by
    intro d
    induction d with
    | zero =>
      intro n S' hn hs hz
      have e : n = 10 := by omega
      subst e
      refine h2 _ _ ⟨fun _ => loop2 l.length 0 S' (by omega) ⟨hs, fun k hk => ?_⟩, fun z => absurd (nI_le (Nat.le_refl 10) (by decide)) z⟩
      obtain ⟨z0, z1, z2, z3, z4⟩ := hz k hk
      rw [List.take_zero]
      exact ⟨z0, z1, z2, z3, z4⟩
    | succ d ih =>
      intro n S' hn hs hz
      refine h2 _ _ ⟨fun z => absurd z (nI_ge (show n < 10 by omega) (by decide)), fun _ => ?_⟩
      have hin : vp_in (nI n) 10 := vp_in_nI (by omega) (by decide)
      rw [nI_clamp (by omega)]
      refine ⟨hin, hin, hin, hin, hin, ?_⟩
      have := ih (n + 1) _ (by omega) (((((hs.ui (i := 22) (k := n) (x := 0) (by decide)).ui (i := 23) (k := n) (x := 0) (by decide)).ui (i := 24) (k := n) (x := 0) (by decide)).ui (i := 25) (k := n) (x := 0) (by decide)).ui (i := 26) (k := n) (x := 0) (by decide)) (by
        intro k hk
        simp only [h_row, Nat.reduceEqDiff, reduceIte, h_updE]
        by_cases e : k = n
        · simp [e]
        · simp only [if_neg e]
          exact hz k (by omega))
      rw [nI_succ n] at this
      exact this
  exact loop1 10 0 S rfl (hS.rf _ S) (fun k hk => absurd hk (by omega))
/-- what counts leaves -/
def mBi (S S' : tc_S) (l : List (Nat × Bool)) : Prop := hS [34, 42, 43, 44, 45, 46] S S' ∧ (S'.1 34 4 = S.1 34 4 ∧ S'.1 34 9 = S.1 34 9 ∧ S'.1 34 18 = nI l.length ∧ S'.1 34 19 = nI (hY l)) ∧ hBi (S.1 41) (S'.1 42) (S'.1 43) (S'.1 44) (S'.1 45) (S'.1 46) l
theorem m_counts (hb : mB S) (h9 : (hCs (S.1 41) 100).length ≤ 9) (ht : t < 5) (h : ∀ S', mBi S S' (mL S t 40) → q none S') : RX11_counts [tc_R 0 34, tc_I (nI t)] S q := by
  refine inX11_counts (fun P h2 h61 h98 h189 => ?_)
  have loop2 : ∀ d n S', n + d = 40 → mBi S S' (mL S t n) → P 61 [(0, tc_R 0 34), (1, tc_I (nI t)), (2, tc_I (nI n))] [] S' := by
    intro d
    induction d with
    | zero =>
      intro n S' hn hw
      have e : n = 40 := by omega
      subst e
      exact h61 _ _ _ ⟨fun _ => h S' hw, fun z => absurd (nI_le (Nat.le_refl 40) (by decide)) z⟩
    | succ d ih =>
      intro n S' hn hw
      have hn40 : n < 40 := by omega
      have hb' := hw.1.mB (by decide) (by decide) (by decide) hb
      have e35 := hw.1.1 35 (by decide)
      have e36 := hw.1.1 36 (by decide)
      have e37 := hw.1.1 37 (by decide)
      refine h61 _ _ _ ⟨fun z => absurd z (nI_ge hn40 (by decide)), fun _ => m_case hb' ht hn40 (fun g => sgX11_counts_73 (h_b0 (h189 _ _ _ ?_))) (fun g => sgX11_counts_73 (h_b1 (m_told hb' ht hn40 (sgX11_counts_82 ?_))))⟩
      · rw [e35, e36, e37] at g
        have := ih (n + 1) S' (by omega) (by rw [mL_no g]; exact hw)
        rw [nI_succ n] at this
        exact this
      · rw [e35, e36, e37] at g
        obtain ⟨p, hp, e8, e9⟩ := mL_yes hb ht hn40 g
        have hle := hCs_len_le (S.1 41) hp
        have hin : vp_in (nI (hCs (S.1 41) p).length) 10 := vp_in_nI (by omega) (by decide)
        have go : ∀ b : Bool, b = decide (S.1 36 n = 1) → P 98 [(0, tc_R 0 34), (1, tc_I (nI t)), (2, tc_I (nI n)), (3, tc_I (nI p))] [tc_I (h01 b)] S' := by
          intro b hbb
          refine h98 _ _ _ _ _ (m_binOf hp (sgX11_counts_105 ?_))
          rw [hw.1.1 41 (by decide)]
          unfold fmX11_counts_105
          rw [nI_clamp (by omega)]
          simp only [h_row, Nat.reduceEqDiff, reduceIte]
          refine ⟨hin, hin, hin, hin, hin, hin, hin, hin, hin, hin, h189 _ _ _ ?_⟩
          have hlen := hL_len (S.1 35) (S.1 37) (S.1 36) t n
          have fin : ∀ S2, mBi S S2 (mL S t n ++ [(p, decide (S.1 36 n = 1))]) → P 61 [(0, tc_R 0 34), (1, tc_I (nI t)), (2, tc_I (nI n + 1))] [] S2 := by
            intro S2 h2
            rw [← e9] at h2
            have := ih (n + 1) S2 (by omega) h2
            rw [nI_succ n] at this
            exact this
          exact fin _ (by
            refine ⟨((((((hw.1.ui (i := 42) (by decide)).ui (i := 43) (by decide)).ui (i := 44) (by decide)).ui (i := 45) (by decide)).ui (i := 46) (by decide)).ui (i := 34) (by decide)).ui (i := 34) (by decide), ⟨?_, ?_, ?_, ?_⟩, hBi_push (b := (hCs (S.1 41) p).length) hw.2.2 rfl ?_ ?_ ?_ ?_ ?_⟩
            · simp only [h_row, Nat.reduceEqDiff, reduceIte, h_updE]
              exact hw.2.1.1
            · simp only [h_row, Nat.reduceEqDiff, reduceIte, h_updE]
              exact hw.2.1.2.1
            · simp only [h_row, Nat.reduceEqDiff, reduceIte, h_updE, hw.2.1.2.2.1]
              rw [nI_1, List.length_append]
              rfl
            · simp only [h_row, Nat.reduceEqDiff, reduceIte, h_updE, hw.2.1.2.2.2, hY_push, ← hbb]
              cases b
              · exact Int32.add_zero _
              · exact nI_1 _
            · simp only [h_row, Nat.reduceEqDiff, reduceIte]
            · simp only [h_row, Nat.reduceEqDiff, reduceIte, ← hbb]
              cases b
              · simp only [h01, Bool.false_eq_true, if_false, Int32.add_zero]
                funext k
                rw [h_updE]
                split
                · rename_i e; rw [e]
                · rfl
              · simp only [h01, if_true]
            · simp only [h_row, Nat.reduceEqDiff, reduceIte]
            · simp only [h_row, Nat.reduceEqDiff, reduceIte]
            · simp only [h_row, Nat.reduceEqDiff, reduceIte, ← hbb]
              cases b
              · simp only [h01, Bool.false_eq_true, if_false, Int32.mul_zero, Int32.add_zero]
                funext k
                rw [h_updE]
                split
                · rename_i e; rw [e]
                · rfl
              · simp only [h01, if_true, Int32.mul_one])
        unfold fmX11_counts_82
        rw [e35, e37, e8, nI_clamp (by omega), e36]
        exact ⟨vp_in_nI hn40 (by decide), fun z => go true (by simp [z]), fun z => go false (by simp [z])⟩
  have loop1 : ∀ d n S', n + d = 10 → hS [34, 42, 43, 44, 45, 46] S S' → S'.1 34 4 = S.1 34 4 → S'.1 34 9 = S.1 34 9 → (∀ k, k < n → S'.1 42 k = 0 ∧ S'.1 43 k = 0 ∧ S'.1 44 k = 0 ∧ S'.1 45 k = 0 ∧ S'.1 46 k = 0) → P 2 [(0, tc_R 0 34), (1, tc_I (nI t)), (2, tc_I (nI n))] [] S' := by
    intro d
    induction d with
    | zero =>
      intro n S' hn hs f4 f9 hz
      have e : n = 10 := by omega
      subst e
      refine h2 _ _ _ ⟨fun _ => loop2 40 0 _ rfl ⟨(hs.ui (by decide)).ui (by decide), ⟨?_, ?_, ?_, ?_⟩, fun k hk => ?_⟩, fun z => absurd (nI_le (Nat.le_refl 10) (by decide)) z⟩
      · simp only [h_row, Nat.reduceEqDiff, reduceIte, h_updE]; exact f4
      · simp only [h_row, Nat.reduceEqDiff, reduceIte, h_updE]; exact f9
      · simp only [h_row, Nat.reduceEqDiff, reduceIte, h_updE]; rfl
      · simp only [h_row, Nat.reduceEqDiff, reduceIte, h_updE]; rfl
      · simp only [h_row, Nat.reduceEqDiff, reduceIte]
        exact hz k hk
    | succ d ih =>
      intro n S' hn hs f4 f9 hz
      refine h2 _ _ _ ⟨fun z => absurd z (nI_ge (show n < 10 by omega) (by decide)), fun _ => ?_⟩
      have hin : vp_in (nI n) 10 := vp_in_nI (by omega) (by decide)
      rw [nI_clamp (by omega)]
      refine ⟨hin, hin, hin, hin, hin, ?_⟩
      have := ih (n + 1) _ (by omega) (((((hs.ui (i := 42) (k := n) (x := 0) (by decide)).ui (i := 43) (k := n) (x := 0) (by decide)).ui (i := 44) (k := n) (x := 0) (by decide)).ui (i := 45) (k := n) (x := 0) (by decide)).ui (i := 46) (k := n) (x := 0) (by decide)) (by simp only [h_row, Nat.reduceEqDiff, reduceIte]; exact f4) (by simp only [h_row, Nat.reduceEqDiff, reduceIte]; exact f9) (by
        intro k hk
        simp only [h_row, Nat.reduceEqDiff, reduceIte, h_updE]
        by_cases e : k = n
        · simp [e]
        · simp only [if_neg e]
          exact hz k (by omega))
      rw [nI_succ n] at this
      exact this
  exact loop1 10 0 S rfl (hS.rf _ S) rfl rfl (fun k hk => absurd hk (by omega))
end HBINS
