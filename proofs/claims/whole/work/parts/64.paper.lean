/-! reports: signs, words, numbers -/
def cX (S : tc_S) (l : List Int32) : Prop := S.1 9 1 = nI l.length ∧ ∀ i a, l[i]? = some a → S.1 33 i = a
def mX (S : tc_S) (l : List Int32) : Prop := S.1 34 29 = nI l.length ∧ ∀ i a, l[i]? = some a → S.1 51 i = a
def mS (S S' : tc_S) : Prop := hS [34, 51] S S' ∧ S'.2 = S.2 ∧ S'.1 34 4 = S.1 34 4 ∧ S'.1 34 9 = S.1 34 9
theorem mS.rf (S : tc_S) : mS S S := ⟨hS.rf _ S, rfl, rfl, rfl⟩
theorem mS.tr {S S1 S2 : tc_S} (h1 : mS S S1) (h2 : mS S1 S2) : mS S S2 := ⟨h1.1.tr h2.1 (fun _ h => h) (fun _ h => h), h2.2.1.trans h1.2.1, h2.2.2.1.trans h1.2.2.1, h2.2.2.2.trans h1.2.2.2⟩
theorem hX_push {f : Nat → Int32} {l : List Int32} {x : Int32} {n : Nat} (h : ∀ i a, l[i]? = some a → f i = a) (hn : n = l.length) : ∀ i a, (l ++ [x])[i]? = some a → upd f n x i = a := by
  intro i a ha
  by_cases hi : i = n
  · subst hi
    rw [List.getElem?_append_right (by omega), hn, Nat.sub_self] at ha
    rw [h_upd]
    exact Option.some.inj ha
  · have hil : i < l.length := by
      have := (List.getElem?_eq_some_iff.mp ha).1
      simp at this
      omega
    rw [List.getElem?_append_left hil] at ha
    rw [h_updn hi]
    exact h i a ha
def hWd (r : Nat) : List Int32 := tc_byt.getD r []
theorem hWd_len : ∀ r, r < 10 → (hWd r).length = tc_len.getD r 0 := by decide
theorem hWd_le : ∀ r, r < 10 → (hWd r).length ≤ 6 := by decide
theorem hWd_at : ∀ r, r < 10 → ∀ i, i < tc_len.getD r 0 → (hWd r)[i]? = some (tc_ch r i) := by decide
/-- the model's words: six commands, four rules -/
def hWm (w : Nat) : List Int32 := if w < 6 then hWd (w + 4) else hWd (w - 6)
theorem hWm_le : ∀ w, w < 10 → (hWm w).length ≤ 6 := by decide
theorem hWm_at : ∀ w, w < 10 → ∀ i, i < 6 → hSg[6 * w + i]? = some ((hWm w).getD i 0) := by decide
theorem hWm_nz : ∀ w, w < 10 → ∀ i, i < (hWm w).length → ¬ (hWm w).getD i 0 = 0 := by decide
theorem hWm_z : ∀ w, w < 10 → (hWm w).length < 6 → (hWm w).getD (hWm w).length 0 = 0 := by decide
/-- figures of a number, from the place e on -/
def hDg (v : Nat) : Nat → List Int32
  | 0 => [48 + nI (v / 10 ^ 0 % 10)]
  | e + 1 => (48 + nI (v / 10 ^ (e + 1) % 10)) :: hDg v e
def hEf (v : Nat) : Nat → Nat → Nat
  | 0, k => k
  | d + 1, k => if v / 10 ^ k < 10 then k else hEf v d (k + 1)
def hDn (v : Nat) : List Int32 := hDg v (hEf v 8 0)
theorem hEf_le (v : Nat) : ∀ d k, hEf v d k ≤ k + d := by
  intro d
  induction d with
  | zero => intro k; exact Nat.le_refl _
  | succ d ih =>
    intro k
    simp only [hEf]
    split
    · omega
    · have := ih (k + 1)
      omega
theorem hDg_len (v : Nat) : ∀ e, (hDg v e).length = e + 1 := by
  intro e
  induction e with
  | zero => rfl
  | succ e ih => simp only [hDg, List.length_cons, ih]
theorem hDn_len (v : Nat) : (hDn v).length ≤ 9 := by
  unfold hDn
  rw [hDg_len]
  have := hEf_le v 8 0
  omega
theorem l_lt' {a b : Nat} (ha : a < 2 ^ 63) (hb : b < 2 ^ 63) : lg_cmp (lN a) (lN b) < 0 ↔ a < b := by
  rw [lg_cmp_lt]
  exact l_lt ha hb
theorem l_le' {a b : Nat} (ha : a < 2 ^ 63) (hb : b < 2 ^ 63) : lg_cmp (lN a) (lN b) ≤ 0 ↔ a ≤ b := by
  rw [lg_cmp_le]
  exact l_le ha hb
theorem h_p10 : ∀ k, k < 10 → 0 < 10 ^ k ∧ 10 ^ k < 2 ^ 63 := by decide
theorem l_10 : (10 : Int64) = lN 10 := rfl
theorem l_fig {v k : Nat} (hv : v < 2 ^ 63) (hk : k < 10) : (48 : Int32) + (lN v / lN (10 ^ k) - lN v / lN (10 ^ k) / 10 * 10).toInt32 = 48 + nI (v / 10 ^ k % 10) := by
  have hp := h_p10 k hk
  have hd : v / 10 ^ k < 2 ^ 63 := Nat.lt_of_le_of_lt (Nat.div_le_self _ _) hv
  rw [l_div hv hp.2, l_10, l_rem hd (by decide)]
  congr 1
  exact Int64.toInt32_ofNat
section HPAPER
variable {q : tc_Q} {S : tc_S} {l : List Int32} {x : Int32} {r v w : Nat}
theorem s_put (hx : cX S l) (hl : l.length < 100) (h : ∀ S', hS [9, 33] S S' → cX S' (l ++ [x]) → q none S') : RX6_put [tc_R 0 9, tc_I x] S q := by
  refine inX6_put (fun P => ?_)
  unfold fmX6_put_0
  simp only [h_row, Nat.reduceEqDiff, reduceIte, hx.1, h_updE, nI_1]
  rw [nI_clamp (by omega)]
  refine ⟨fun z => absurd z (nI_ge (show l.length < 100 from hl) (by decide)), fun _ => ⟨vp_in_nI hl (by decide), h _ (((hS.rf _ S).ui (by decide)).ui (by decide)) ⟨?_, ?_⟩⟩⟩
  · simp only [h_row, Nat.reduceEqDiff, reduceIte, h_updE, List.length_append, List.length_singleton]
  · simp only [h_row, Nat.reduceEqDiff, reduceIte]
    exact hX_push hx.2 rfl
theorem m_put (hx : mX S l) (hl : l.length < 100) (h : ∀ S', mS S S' → mX S' (l ++ [x]) → q none S') : RX11_writes [tc_R 0 34, tc_I x] S q := by
  refine inX11_writes (fun P => ?_)
  unfold fmX11_writes_0
  simp only [h_row, Nat.reduceEqDiff, reduceIte, hx.1, h_updE, nI_1]
  rw [nI_clamp (by omega)]
  refine ⟨vp_in_nI hl (by decide), h _ ⟨((hS.rf _ S).ui (by decide)).ui (by decide), rfl, ?_, ?_⟩ ⟨?_, ?_⟩⟩
  · simp only [h_row, Nat.reduceEqDiff, reduceIte, h_updE]
  · simp only [h_row, Nat.reduceEqDiff, reduceIte, h_updE]
  · simp only [h_row, Nat.reduceEqDiff, reduceIte, h_updE, List.length_append, List.length_singleton]
  · simp only [h_row, Nat.reduceEqDiff, reduceIte]
    exact hX_push hx.2 rfl
theorem s_putWord (hr : r < 10) (hx : cX S l) (hl : l.length + 6 ≤ 100) (h : ∀ S', hS [9, 33] S S' → cX S' (l ++ hWd r) → q none S') : RX6_putWord [tc_R 0 9, tc_R 3 r] S q := by
  refine inX6_putWord (fun P h2 => ?_)
  have hlen := hWd_len r hr
  have hle := hWd_le r hr
  have loop : ∀ d i S', i + d = (hWd r).length → hS [9, 33] S S' → cX S' (l ++ (hWd r).take i) → P 2 [(0, tc_R 0 9), (1, tc_R 3 r), (2, tc_I (nI i))] [] S' := by
    intro d
    induction d with
    | zero =>
      intro i S' hi hs hx'
      refine h2 _ _ _ ⟨hr, ⟨hr, sgX6_putWord_7 ⟨fun _ => h S' hs ?_, fun z => absurd (nI_le (by omega) (by omega)) z⟩⟩⟩
      rw [List.take_of_length_le (by omega)] at hx'
      exact hx'
    | succ d ih =>
      intro i S' hi hs hx'
      have hat := hWd_at r hr i (by omega)
      refine h2 _ _ _ ⟨hr, ⟨hr, sgX6_putWord_7 ⟨fun z => absurd z (nI_ge (by omega) (by omega)), fun _ => ⟨hr, ⟨hr, vp_in_nI (by omega) (by omega), sgX6_putWord_16 ?_⟩⟩⟩⟩⟩
      rw [nI_clamp (by omega)]
      refine s_put hx' (by simp; omega) (fun S2 hs2 hx2 => sgX6_putWord_19 ?_)
      rw [List.append_assoc, ← h_take hat] at hx2
      have := ih (i + 1) S2 (by omega) (hs.tt hs2) hx2
      rw [nI_succ i] at this
      exact this
  exact loop _ 0 S (Nat.zero_add _) (hS.rf _ S) (by simpa using hx)
theorem s_putNumber (hv : v < 1000000000) (hx : cX S l) (hl : l.length + 9 ≤ 100) (h : ∀ S', hS [9, 33] S S' → cX S' (l ++ hDn v) → q none S') : RX6_putNumber [tc_R 0 9, tc_J (lN v)] S q := by
  refine inX6_putNumber (fun P h5 h34 h37 => ?_)
  have loop2 : ∀ e i l S', i + e ≤ 9 → hS [9, 33] S S' → cX S' l → l.length + e < 100 → (∀ S2, hS [9, 33] S S2 → cX S2 (l ++ hDg v e) → q none S2) → P 37 [(0, tc_R 0 9), (1, tc_J (lN v)), (3, tc_J (lN (10 ^ e))), (5, tc_I (nI i))] [] S' := by
    intro e
    induction e with
    | zero =>
      intro i l S' hi hs hx hl hq
      refine h37 _ _ _ _ ⟨fun z => absurd z (nI_ge (show i < 19 by omega) (by decide)), fun _ => ⟨fun z => absurd z (by decide), fun _ => ⟨by decide, by decide, ?_⟩⟩⟩
      rw [l_fig (k := 0) (by omega) (by decide)]
      refine s_put hx (by omega) (fun S2 hs2 hx2 => sgX6_putNumber_65 ⟨by decide, h37 _ _ _ _ ⟨fun _ => hq S2 (hs.tt hs2) hx2, fun _ => ⟨fun _ => hq S2 (hs.tt hs2) hx2, fun z => absurd (by decide) z⟩⟩⟩)
    | succ e ih =>
      intro i l S' hi hs hx hl hq
      have hp := h_p10 (e + 1) (by omega)
      have hp2 := h_p10 e (by omega)
      refine h37 _ _ _ _ ⟨fun z => absurd z (nI_ge (show i < 19 by omega) (by decide)), fun _ => ⟨fun z => absurd ((l_le' (b := 0) hp.2 (by decide)).mp z) (by omega), fun _ => ⟨l_ne0 hp.1 hp.2, by decide, ?_⟩⟩⟩
      rw [l_fig (by omega) (by omega)]
      refine s_put hx (by omega) (fun S2 hs2 hx2 => sgX6_putNumber_65 ⟨by decide, ?_⟩)
      rw [l_10, l_div hp.2 (by decide), Nat.pow_succ, Nat.mul_div_cancel _ (by decide), ← nI_succ]
      refine ih (i + 1) (l ++ [48 + nI (v / 10 ^ (e + 1) % 10)]) S2 (by omega) (hs.tt hs2) hx2 (by simp; omega) (fun S3 hs3 hx3 => hq S3 hs3 ?_)
      rw [List.append_assoc] at hx3
      exact hx3
  have loop1 : ∀ d k, k + d = 8 → P 34 [(0, tc_R 0 9), (1, tc_J (lN v)), (3, tc_J (lN (10 ^ hEf v d k)))] [] S → P 5 [(0, tc_R 0 9), (1, tc_J (lN v)), (3, tc_J (lN (10 ^ k))), (5, tc_I (nI (k + 1)))] [] S := by
    intro d
    induction d with
    | zero =>
      intro k hk hq
      have e : k = 8 := by omega
      subst e
      refine h5 _ _ _ _ ⟨fun z => absurd z (nI_ge (show 8 + 1 < 19 by omega) (by decide)), fun _ => ⟨by decide, fun _ => hq, fun z => absurd ?_ z⟩⟩
      rw [l_div (by omega) (by decide), l_10, l_lt' (Nat.lt_of_le_of_lt (Nat.div_le_self _ _) (by omega)) (by decide)]
      omega
    | succ d ih =>
      intro k hk hq
      have hp := h_p10 k (by omega)
      refine h5 _ _ _ _ ⟨fun z => absurd z (nI_ge (show k + 1 < 19 by omega) (by decide)), fun _ => ⟨l_ne0 hp.1 hp.2, ?_⟩⟩
      rw [l_div (by omega) hp.2, l_10, l_lt' (Nat.lt_of_le_of_lt (Nat.div_le_self _ _) (by omega)) (by decide)]
      simp only [hEf] at hq
      refine ⟨fun z => ?_, fun z => ?_⟩
      · rw [if_pos z] at hq
        exact hq
      · rw [if_neg z] at hq
        rw [lN_mul, ← Nat.pow_succ, ← nI_succ]
        exact ih (k + 1) (by omega) hq
  have he := hEf_le v 8 0
  refine loop1 8 0 rfl (h34 _ _ _ (loop2 (hEf v 8 0) 0 l S (by omega) (hS.rf _ S) hx (by omega) (fun S2 hs2 hx2 => h S2 hs2 hx2)))
theorem m_putNumber (hv : v < 1000000000) (hx : mX S l) (hl : l.length + 9 ≤ 100) (h : ∀ S', mS S S' → mX S' (l ++ hDn v) → q none S') : RX11_writesNumber [tc_R 0 34, tc_J (lN v)] S q := by
  refine inX11_writesNumber (fun P h2 h21 => ?_)
  have loop2 : ∀ e l S', e ≤ 9 → mS S S' → mX S' l → l.length + e < 100 → (∀ S2, mS S S2 → mX S2 (l ++ hDg v e) → q none S2) → P 21 [(0, tc_R 0 34), (1, tc_J (lN v)), (3, tc_J (lN (10 ^ e)))] [] S' := by
    intro e
    induction e with
    | zero =>
      intro l S' hi hs hx hl hq
      refine h21 _ _ _ ⟨fun z => absurd z (by decide), fun _ => ⟨by decide, by decide, ?_⟩⟩
      rw [l_fig (k := 0) (by omega) (by decide)]
      refine m_put hx (by omega) (fun S2 hs2 hx2 => sgX11_writesNumber_42 ⟨by decide, h21 _ _ _ ⟨fun _ => hq S2 (hs.tr hs2) hx2, fun z => absurd (by decide) z⟩⟩)
    | succ e ih =>
      intro l S' hi hs hx hl hq
      have hp := h_p10 (e + 1) (by omega)
      refine h21 _ _ _ ⟨fun z => absurd ((l_le' (b := 0) hp.2 (by decide)).mp z) (by omega), fun _ => ⟨l_ne0 hp.1 hp.2, by decide, ?_⟩⟩
      rw [l_fig (by omega) (by omega)]
      refine m_put hx (by omega) (fun S2 hs2 hx2 => sgX11_writesNumber_42 ⟨by decide, ?_⟩)
      rw [l_10, l_div hp.2 (by decide), Nat.pow_succ, Nat.mul_div_cancel _ (by decide)]
      refine ih (l ++ [48 + nI (v / 10 ^ (e + 1) % 10)]) S2 (by omega) (hs.tr hs2) hx2 (by simp; omega) (fun S3 hs3 hx3 => hq S3 hs3 ?_)
      rw [List.append_assoc] at hx3
      exact hx3
  have loop1 : ∀ d k, k + d = 8 → P 21 [(0, tc_R 0 34), (1, tc_J (lN v)), (3, tc_J (lN (10 ^ hEf v d k)))] [] S → P 2 [(0, tc_R 0 34), (1, tc_J (lN v)), (3, tc_J (lN (10 ^ k)))] [] S := by
    intro d
    induction d with
    | zero =>
      intro k hk hq
      have e : k = 8 := by omega
      subst e
      refine h2 _ _ _ ⟨by decide, fun _ => hq, fun z => absurd ?_ z⟩
      rw [l_div (by omega) (by decide), show (9 : Int64) = lN 9 from rfl, l_le' (Nat.lt_of_le_of_lt (Nat.div_le_self _ _) (by omega)) (by decide)]
      omega
    | succ d ih =>
      intro k hk hq
      have hp := h_p10 k (by omega)
      refine h2 _ _ _ ⟨l_ne0 hp.1 hp.2, ?_⟩
      rw [l_div (by omega) hp.2, show (9 : Int64) = lN 9 from rfl, l_le' (Nat.lt_of_le_of_lt (Nat.div_le_self _ _) (by omega)) (by decide)]
      simp only [hEf] at hq
      refine ⟨fun z => ?_, fun z => ?_⟩
      · rw [if_pos (by omega)] at hq
        exact hq
      · rw [if_neg (by omega)] at hq
        rw [l_10, lN_mul, ← Nat.pow_succ]
        exact ih (k + 1) (by omega) hq
  have he := hEf_le v 8 0
  exact loop1 8 0 rfl (loop2 (hEf v 8 0) l S (by omega) (mS.rf S) hx (by omega) (fun S2 hs2 hx2 => h S2 hs2 hx2))
theorem m_wordLong (hw : w < 10) (hg : ∀ i x, hSg[i]? = some x → S.1 39 i = x) (h : q (some (tc_I (nI (hWm w).length))) S) : RX11_wordLong [tc_R 0 34, tc_I (nI w)] S q := by
  refine inX11_wordLong (fun P h2 => ?_)
  have hle := hWm_le w hw
  have ix : ∀ i, (6 * nI w + nI i : Int32) = nI (6 * w + i) := fun i => by rw [show (6 : Int32) = nI 6 from rfl, h_mul, nI_add]
  have loop : ∀ d i, i + d = (hWm w).length → P 2 [(0, tc_R 0 34), (1, tc_I (nI w)), (2, tc_I (nI i))] [] S := by
    intro d
    induction d with
    | zero =>
      intro i hi
      have e : i = (hWm w).length := by omega
      subst e
      refine h2 _ _ _ ⟨fun _ => h, fun z => ?_⟩
      have h6 : (hWm w).length < 6 := by
        rcases Nat.lt_or_ge (hWm w).length 6 with g | g
        · exact g
        · exact absurd (nI_le g (by omega)) z
      rw [ix, nI_clamp (by omega), hg _ _ (hWm_at w hw _ h6)]
      exact ⟨vp_in_nI (by omega) (by decide), fun _ => h, fun z => absurd (hWm_z w hw h6) z⟩
    | succ d ih =>
      intro i hi
      refine h2 _ _ _ ⟨fun z => absurd z (nI_ge (show i < 6 by omega) (by decide)), fun _ => ?_⟩
      rw [ix, nI_clamp (by omega), hg _ _ (hWm_at w hw i (by omega))]
      refine ⟨vp_in_nI (by omega) (by decide), fun z => absurd z (hWm_nz w hw i (by omega)), fun _ => ?_⟩
      have := ih (i + 1) (by omega)
      rw [nI_succ i] at this
      exact this
  exact loop _ 0 (Nat.zero_add _)
end HPAPER
