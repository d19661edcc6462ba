/-! lines: what a text says -/
def hMn (w : Nat) : Nat := [3, 2, 1, 1, 1, 2].getD w 0
def hGt (w i : Nat) : Nat := if i = 0 then [3, 3, 39, 39, 39, 3].getD w 0 else if i = 1 then [39, 39, 0, 0, 0, 9].getD w 0 else [100, 0, 0, 0, 0, 0].getD w 0
theorem hMn_le : ∀ w, w < 6 → hMn w ≤ 3 ∧ 1 ≤ hMn w := by decide
theorem hGt_le : ∀ w, w < 6 → ∀ i, i < 3 → hGt w i ≤ 100 := by decide
theorem hMn_I : ∀ w, w < 6 → ([3, 2, 1, 1, 1, 2] : List Int32).getD w 0 = nI (hMn w) := by decide
theorem hGt_I : ∀ w, w < 6 → ([3, 3, 39, 39, 39, 3] : List Int32).getD w 0 = nI (hGt w 0) ∧ ([39, 39, 0, 0, 0, 9] : List Int32).getD w 0 = nI (hGt w 1) ∧ ([100, 0, 0, 0, 0, 0] : List Int32).getD w 0 = nI (hGt w 2) := by decide
/-- a number of at most three figures, none of them too much; and where it stops -/
def hNr (c : Nat → Nat) (n g : Nat) : Nat → Nat → Nat → Option Nat × Nat
  | 0, p, v => (some v, p)
  | d + 1, p, v => if p < n ∧ 48 ≤ c p ∧ c p ≤ 57 then (if v * 10 + c p - 48 ≤ g then hNr c n g d (p + 1) (v * 10 + c p - 48) else (none, p)) else (if d = 2 then none else some v, p)
def hNm (c : Nat → Nat) (n w : Nat) : Nat → Nat → Nat → Option (List Nat) × Nat
  | 0, _, p => (some [], p)
  | d + 1, i, p => if p < n ∧ c p = 32 then (match hNr c n (hGt w i) 3 (p + 1) 0 with
    | (some v, p') => (match hNm c n w d (i + 1) p' with
      | (some vs, p'') => (some (v :: vs), p'')
      | (none, p'') => (none, p''))
    | (none, p') => (none, p')) else (none, p)
def hLn (f : Nat → Int32) (c : Nat → Nat) (n w : Nat) : Option (List Nat) × Nat := if hSh f n (hWd (4 + w)) < (hWd (4 + w)).length then (none, hSh f n (hWd (4 + w))) else (match hNm c n w (hMn w) 0 (hWd (4 + w)).length with
  | (some vs, p) => (if p = n then some vs else none, p)
  | (none, p) => (none, p))
theorem hNm_len (c : Nat → Nat) (n w : Nat) : ∀ d i p vs p', hNm c n w d i p = (some vs, p') → vs.length = d := by
  intro d
  induction d with
  | zero =>
    intro i p vs p' h
    simp only [hNm, Prod.mk.injEq, Option.some.injEq] at h
    rw [← h.1]
    rfl
  | succ d ih =>
    intro i p vs p' h
    simp only [hNm] at h
    split at h
    · split at h
      · split at h
        · rename_i e2
          have := ih _ _ _ _ e2
          simp only [Prod.mk.injEq, Option.some.injEq] at h
          rw [← h.1, List.length_cons, this]
        · simp at h
      · simp at h
    · simp at h
section HREAD
variable {q : tc_Q} {S : tc_S} {c : Nat → Nat} {n w p g idx : Nat}
def nFr (n : Nat) (S S' : tc_S) (p idx : Nat) : Prop := hS [3, 18] S S' ∧ S'.1 3 1 = S.1 3 1 ∧ S'.1 3 2 = nI p ∧ p ≤ n ∧ ∀ j, j ≠ idx → S'.1 18 j = S.1 18 j
theorem s_readNumber (hidx : idx < 3) (hg : g ≤ 100) (h21 : S.1 2 1 = nI n) (hn : n ≤ 24) (hc : ∀ i, S.1 17 i = nI (c i) ∧ c i ≤ 127) (hp : p ≤ n) (h32 : S.1 3 2 = nI p) (h1 : ∀ v p' S', hNr c n g 3 p 0 = (some v, p') → nFr n S S' p' idx → S'.1 18 idx = nI v → q (some (tc_I 1)) S') (h0 : ∀ p' S', hNr c n g 3 p 0 = (none, p') → nFr n S S' p' idx → q (some (tc_I 0)) S') : RX5_readNumber [tc_R 0 3, tc_R 0 2, tc_I (nI idx), tc_I (nI g)] S q := by
  refine inX5_readNumber (fun P h6 h36 => ?_)
  have hin : vp_in (nI idx) 3 := vp_in_nI hidx (by decide)
  have put : ∀ S' p v, nFr n S S' p idx → nFr n S (tc_ui S' 18 idx (nI v)) p idx ∧ (tc_ui S' 18 idx (nI v)).1 18 idx = nI v := by
    intro S' p v hf
    obtain ⟨f1, f2, f3, f4, f5⟩ := hf
    refine ⟨⟨f1.ui (by decide), f2, f3, f4, fun j hj => ?_⟩, ?_⟩
    · simp only [h_row, reduceIte, h_updE, if_neg hj]
      exact f5 j hj
    · simp only [h_row, reduceIte, h_updE]
  have loop : ∀ d p v S', d ≤ 3 → p ≤ n → v ≤ g → nFr n S S' p idx → (∀ v' p' S2, hNr c n g d p v = (some v', p') → nFr n S S2 p' idx → S2.1 18 idx = nI v' → q (some (tc_I 1)) S2) → (∀ p' S2, hNr c n g d p v = (none, p') → nFr n S S2 p' idx → q (some (tc_I 0)) S2) → P 6 [(0, tc_R 0 3), (1, tc_R 0 2), (2, tc_I (nI idx)), (3, tc_I (nI g)), (4, tc_I (nI v)), (5, tc_I (nI (3 - d)))] [] S' := by
    intro d
    induction d with
    | zero =>
      intro p v S' hd hp hv hf y1 y0
      refine h6 _ _ _ _ _ ⟨fun _ => ⟨hin, h_n1, ?_⟩, fun z => absurd (nI_le (Nat.le_refl 3) (by decide)) z⟩
      rw [nI_clamp (by omega)]
      obtain ⟨p1, p2⟩ := put S' p v hf
      exact y1 v p _ rfl p1 p2
    | succ d ih =>
      intro p v S' hd hp hv hf y1 y0
      obtain ⟨f1, f2, f3, f4, f5⟩ := hf
      have e21 : S'.1 2 1 = nI n := by rw [f1.1 2 (by decide)]; exact h21
      refine h6 _ _ _ _ _ ⟨fun z => absurd z (nI_ge (show 3 - (d + 1) < 3 by omega) (by decide)), fun _ => ?_⟩
      rw [f3]
      refine s_codeAt e21 hn (by omega) (sgX5_readNumber_20 ?_)
      rw [f1.1 17 (by decide), (hc p).1]
      have hcp := (hc p).2
      simp only [hNr] at y1 y0
      have stop : ¬ (p < n ∧ 48 ≤ c p ∧ c p ≤ 57) → P 36 [(0, tc_R 0 3), (2, tc_I (nI idx)), (4, tc_I (nI v)), (5, tc_I (nI (3 - (d + 1))))] [] S' := by
        intro g2
        rw [if_neg g2] at y1 y0
        refine h36 _ _ _ _ ⟨hin, fun z => ⟨h_n0, ?_⟩, fun z => ⟨h_n1, ?_⟩⟩
        · rw [nI_clamp (by omega)]
          have z0 := (nI_leI (b := 0) (by omega) (by decide)).mp z
          rw [if_pos (by omega)] at y0
          exact y0 p _ rfl (put S' p v ⟨f1, f2, f3, f4, f5⟩).1
        · rw [nI_clamp (by omega)]
          have z0 : ¬ d = 2 := fun e => z (by rw [e]; exact nI_le (Nat.le_refl 0) (by decide))
          rw [if_neg z0] at y1
          obtain ⟨p1, p2⟩ := put S' p v ⟨f1, f2, f3, f4, f5⟩
          exact y1 v p _ rfl p1 p2
      by_cases hpn : p < n
      · rw [if_pos hpn]
        refine ⟨fun z => stop (fun g2 => nI_nlt g2.2.1 (by omega) z), fun z => ⟨fun z2 => ?_, fun z2 => stop (fun g2 => z2 (nI_le g2.2.2 (by decide)))⟩⟩
        have c48 : 48 ≤ c p := by
          rcases Nat.lt_or_ge (c p) 48 with g2 | g2
          · exact absurd (nI_lt g2 (by decide)) z
          · exact g2
        have c57 := (nI_leI (b := 57) (by omega) (by decide)).mp z2
        rw [if_pos ⟨hpn, c48, c57⟩] at y1 y0
        have ev : nI v * 10 + nI (c p) - 48 = nI (v * 10 + c p - 48) := by
          rw [show (10 : Int32) = nI 10 from rfl, h_mul, nI_add]
          exact h_nsub (a := v * 10 + c p) (b := 48) (by omega)
        rw [ev]
        refine ⟨fun z3 => ?_, fun z3 => ⟨h_n0, ?_⟩⟩
        · have hv' := (nI_leI (by omega) (by omega)).mp z3
          rw [if_pos hv'] at y1 y0
          rw [← nI_succ, f3, ← nI_succ, show 3 - (d + 1) + 1 = 3 - d by omega]
          refine ih (p + 1) _ _ (by omega) (by omega) hv' ⟨f1.ui (by decide), ?_, ?_, by omega, ?_⟩ y1 y0
          · simp only [h_row, reduceIte, h_updE, Nat.reduceEqDiff]
            exact f2
          · simp only [h_row, reduceIte, h_updE]
          · simp only [h_row, reduceIte, Nat.reduceEqDiff]
            exact f5
        · have hv' : ¬ v * 10 + c p - 48 ≤ g := fun e => z3 (nI_le e (by omega))
          rw [if_neg hv'] at y0
          exact y0 p S' rfl ⟨f1, f2, f3, f4, f5⟩
      · rw [if_neg hpn]
        exact ⟨fun _ => stop (fun g2 => hpn g2.1), fun z => absurd (by decide) z⟩
  exact loop 3 p 0 S (Nat.le_refl 3) hp (Nat.zero_le g) ⟨hS.rf _ S, rfl, h32, hp, fun _ _ => rfl⟩ h1 h0
theorem s_greatestN {i : Nat} (hw : w < 6) (hi : i < 3) (h : q (some (tc_I (nI (hGt w i)))) S) : RX3_greatest [tc_R 2 w, tc_I (nI i)] S q := by
  obtain ⟨g0, g1, g2⟩ := hGt_I w hw
  refine inX3_greatest (fun P => ?_)
  unfold fmX3_greatest_0
  rw [g0, g1, g2]
  rcases (show i = 0 ∨ i = 1 ∨ i = 2 by omega) with rfl | rfl | rfl
  · exact ⟨fun _ => ⟨hw, h⟩, fun z => absurd rfl z⟩
  · exact ⟨fun z => absurd z (by decide), fun _ => ⟨fun _ => ⟨hw, h⟩, fun z => absurd rfl z⟩⟩
  · exact ⟨fun z => absurd z (by decide), fun _ => ⟨fun z => absurd z (by decide), fun _ => ⟨hw, h⟩⟩⟩
theorem s_reach (hw : w < 6) (h21 : S.1 2 1 = nI n) (hn : n ≤ 24) (hc : ∀ i, S.1 17 i = nI (c i) ∧ c i ≤ 127) (h1 : ∀ vs p S', hLn (S.1 17) c n w = (some vs, p) → hS [3, 18] S S' → S'.1 3 1 = 1 → (∀ j v, vs[j]? = some v → S'.1 18 j = nI v) → q (some (tc_I (nI p))) S') (h0 : ∀ p S', hLn (S.1 17) c n w = (none, p) → hS [3, 18] S S' → S'.1 3 1 = 0 → q (some (tc_I (nI p))) S') : RX5_reach [tc_R 0 3, tc_R 0 2, tc_R 2 w] S q := by
  have hw10 : 4 + w < 10 := by omega
  have hlen := hWd_len (4 + w) hw10
  have hle := hWd_le (4 + w) hw10
  have hM := hMn_le w hw
  have hsl := hSh_le (S.1 17) n (hWd (4 + w))
  have hsn := hSh_n (S.1 17) n (hWd (4 + w))
  refine inX5_reach (fun P h38 h108 h125 => ⟨⟨h_n0, h_f0⟩, hw, s_shared (n := n) h21 hn hw10 (sgX5_reach_14 ⟨hw, hw10, ⟨hw10, sgX5_reach_28 ?_⟩⟩)⟩)
  have e17 : (tc_ui S 3 1 0).1 17 = S.1 17 := rfl
  rw [← hlen, e17]
  generalize hsh : hSh (S.1 17) n (hWd (4 + w)) = sh at *
  generalize hS1 : tc_ui (tc_ui S 3 1 0) 3 2 (nI sh) = S1
  have s1 : hS [3, 18] S S1 := by rw [← hS1]; exact ((hS.rf _ S).ui (by decide)).ui (by decide)
  have e31 : S1.1 3 1 = 0 := by rw [← hS1]; simp only [h_row, reduceIte, h_updE, Nat.reduceEqDiff]
  have e32 : S1.1 3 2 = nI sh := by rw [← hS1]; simp only [h_row, reduceIte, h_updE]
  rw [e32]
  unfold hLn at h1 h0
  rw [hsh] at h1 h0
  refine ⟨fun z => ?_, fun z => ?_⟩
  · have hge := (nI_leI (by omega) (by omega)).mp z
    rw [if_neg (by omega)] at h1 h0
    have esh : sh = (hWd (4 + w)).length := by omega
    have loop : ∀ d i p S', i + d = hMn w → p ≤ n → hS [3, 18] S S' → S'.1 3 1 = 0 → S'.1 3 2 = nI p → (∀ vs p' S2, hNm c n w d i p = (some vs, p') → p' ≤ n → hS [3, 18] S S2 → S2.1 3 1 = 0 → S2.1 3 2 = nI p' → (∀ j, j < i → S2.1 18 j = S'.1 18 j) → (∀ j v, vs[j]? = some v → S2.1 18 (i + j) = nI v) → P 108 [(0, tc_R 0 3), (1, tc_R 0 2)] [] S2) → (∀ p' S2, hNm c n w d i p = (none, p') → hS [3, 18] S S2 → S2.1 3 1 = 0 → S2.1 3 2 = nI p' → q (some (tc_I (nI p'))) S2) → P 38 [(0, tc_R 0 3), (1, tc_R 0 2), (2, tc_R 2 w), (3, tc_I (nI i))] [] S' := by
      intro d
      induction d with
      | zero =>
        intro i p S' hi hp s' e1 e2 y1 y0
        refine h38 _ _ _ ⟨hw, ?_⟩
        rw [hMn_I w hw]
        exact ⟨fun _ => y1 [] p S' rfl hp s' e1 e2 (fun _ _ => rfl) (fun j v hv => by simp at hv), fun z => absurd (nI_le (by omega) (by omega)) z⟩
      | succ d ih =>
        intro i p S' hi hp s' e1 e2 y1 y0
        have hi3 : i < 3 := by omega
        have e21 : S'.1 2 1 = nI n := by rw [s'.1 2 (by decide)]; exact h21
        have e17' : S'.1 17 = S.1 17 := s'.1 17 (by decide)
        refine h38 _ _ _ ⟨hw, ?_⟩
        rw [hMn_I w hw, e2]
        refine ⟨fun z => absurd z (nI_ge (by omega) (by omega)), fun _ => ⟨fun z => absurd z (nI_ge hi3 (by decide)), fun _ => s_codeAt e21 hn (by omega) (sgX5_reach_63 ?_)⟩⟩
        unfold fmX5_reach_63
        rw [e17', (hc p).1, e2]
        have hcp := (hc p).2
        simp only [hNm] at y1 y0
        by_cases hpn : p < n
        · rw [if_pos hpn]
          refine ⟨fun z => ⟨hw, s_greatestN hw hi3 (sgX5_reach_91 ?_)⟩, fun z => ?_⟩
          · have c32 : c p = 32 := (nI_eq (b := 32) (by omega) (by decide)).mp z
            rw [if_pos ⟨hpn, c32⟩] at y1 y0
            rw [← nI_succ]
            generalize hS2 : tc_ui S' 3 2 (nI (p + 1)) = S2
            have s2 : hS [3, 18] S S2 := by rw [← hS2]; exact s'.ui (by decide)
            have e31' : S2.1 3 1 = 0 := by rw [← hS2]; simp only [h_row, reduceIte, h_updE, Nat.reduceEqDiff]; exact e1
            have e32' : S2.1 3 2 = nI (p + 1) := by rw [← hS2]; simp only [h_row, reduceIte, h_updE]
            have e18 : S2.1 18 = S'.1 18 := by rw [← hS2]; simp only [h_row, reduceIte, Nat.reduceEqDiff]
            refine s_readNumber (n := n) (c := c) hi3 (hGt_le w hw i hi3) (by rw [s2.1 2 (by decide)]; exact h21) hn (by rw [s2.1 17 (by decide)]; exact hc) (show p + 1 ≤ n by omega) e32' (fun v p' S3 hr hf hv => sgX5_reach_94 (h_b1 ?_)) (fun p' S3 hr hf => sgX5_reach_94 (h_b0 ?_))
            · obtain ⟨f1, f2, f3, f4, f5⟩ := hf
              rw [hr] at y1 y0
              simp only at y1 y0
              have := ih (i + 1) p' S3 (by omega) f4 (s2.tt f1) (f2.trans e31') f3 (fun vs p'' S4 hm hp'' s4 a1 a2 a3 a4 => by
                rw [hm] at y1
                refine y1 (v :: vs) p'' S4 rfl hp'' s4 a1 a2 (fun j hj => ?_) (fun j u hu => ?_)
                · rw [a3 j (by omega), f5 j (by omega), e18]
                · cases j with
                  | zero =>
                    have : v = u := by simpa using hu
                    rw [← this, Nat.add_zero, a3 i (by omega), hv]
                  | succ j =>
                    have := a4 j u (by simpa using hu)
                    rw [← this, show i + (j + 1) = i + 1 + j by omega]) (fun p'' S4 hm s4 a1 a2 => by
                rw [hm] at y0
                exact y0 p'' S4 rfl s4 a1 a2)
              rw [nI_succ i] at this
              exact this
            · obtain ⟨f1, f2, f3, f4, f5⟩ := hf
              rw [hr] at y0
              rw [f3]
              exact y0 p' S3 rfl (s2.tt f1) (f2.trans e31') f3
          · have c32 : ¬ c p = 32 := fun e => z (by rw [e]; rfl)
            rw [if_neg (fun g2 => c32 g2.2)] at y0
            exact y0 p S' rfl s' e1 e2
        · rw [if_neg hpn]
          rw [if_neg (fun g2 => hpn g2.1)] at y0
          exact ⟨fun z => absurd z (by decide), fun _ => y0 p S' rfl s' e1 e2⟩
    refine loop (hMn w) 0 sh S1 (by omega) (by omega) s1 e31 e32 (fun vs p' S2 hm hp' s2 a1 a2 _ a4 => h108 _ ?_) (fun p' S2 hm s2 a1 a2 => ?_)
    · rw [esh] at hm
      rw [hm] at h1 h0
      simp only at h1 h0
      have e21 : S2.1 2 1 = nI n := by rw [s2.1 2 (by decide)]; exact h21
      unfold fmX5_reach_108
      rw [a2, e21]
      refine ⟨fun z => h125 _ _ ⟨⟨h_n1, h_f1⟩, ?_⟩, fun z => h125 _ _ ⟨⟨h_n0, h_f0⟩, ?_⟩⟩
      · have e := (nI_eq (by omega) (by omega)).mp z
        rw [if_pos e] at h1
        simp only [h_row, reduceIte, h_updE, Nat.reduceEqDiff]
        rw [a2]
        refine h1 vs p' _ rfl (s2.ui (by decide)) ?_ (fun j v hv => ?_)
        · simp only [h_row, reduceIte, h_updE]
        · simp only [h_row, reduceIte, Nat.reduceEqDiff]
          have := a4 j v hv
          rw [Nat.zero_add] at this
          exact this
      · have e : ¬ p' = n := fun e => z (by rw [e])
        rw [if_neg e] at h0
        simp only [h_row, reduceIte, h_updE, Nat.reduceEqDiff]
        rw [a2]
        refine h0 p' _ rfl (s2.ui (by decide)) ?_
        simp only [h_row, reduceIte, h_updE]
    · rw [esh] at hm
      rw [hm] at h0
      exact h0 p' S2 rfl s2 a1
  · have hlt : sh < (hWd (4 + w)).length := by
      rcases Nat.lt_or_ge sh (hWd (4 + w)).length with g2 | g2
      · exact g2
      · exact absurd (nI_le g2 (by omega)) z
    rw [if_pos hlt] at h0
    rw [e32]
    exact h0 sh S1 rfl s1 e31
end HREAD
