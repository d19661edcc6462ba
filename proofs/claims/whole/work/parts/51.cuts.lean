/-! cuts -/
def hCr (f : Nat → Int32) (a : Nat) : Nat → List Nat
  | 0 => []
  | d + 1 => if f (a + d + 1) = 0 then hCr f a d else hCr f a d ++ [a + d + 1]
theorem hCs_app (f : Nat → Int32) (a : Nat) : ∀ d, hCs f (a + d) = hCs f a ++ hCr f a d := by
  intro d
  induction d with
  | zero => simp [hCr]
  | succ d ih =>
    rw [show a + (d + 1) = (a + d) + 1 by omega]
    simp only [hCs, hCr, ih]
    split
    · rfl
    · rw [List.append_assoc]
theorem hCr_mem (f : Nat → Int32) (a : Nat) : ∀ d x, x ∈ hCr f a d → a < x ∧ x ≤ a + d := by
  intro d
  induction d with
  | zero => intro x hx; cases hx
  | succ d ih =>
    intro x hx
    simp only [hCr] at hx
    split at hx
    · have := ih x hx
      omega
    · rcases List.mem_append.mp hx with h | h
      · have := ih x h
        omega
      · simp at h
        omega
theorem hCs_mem (f : Nat → Int32) : ∀ n x, x ∈ hCs f n → 1 ≤ x ∧ x ≤ n := by
  intro n x hx
  have e := hCs_app f 0 n
  rw [Nat.zero_add, show hCs f 0 = [] from rfl, List.nil_append] at e
  rw [e] at hx
  have := hCr_mem f 0 n x hx
  omega
theorem hCr_congr {f g : Nat → Int32} {a : Nat} : ∀ d, (∀ i, a < i → f i = g i) → hCr f a d = hCr g a d := by
  intro d
  induction d with
  | zero => intro _; rfl
  | succ d ih =>
    intro h
    simp only [hCr, ih h, h (a + d + 1) (by omega)]
theorem hCs_congr {f g : Nat → Int32} : ∀ n, (∀ i, i ≤ n → f i = g i) → hCs f n = hCs g n := by
  intro n
  induction n with
  | zero => intro _; rfl
  | succ n ih =>
    intro h
    simp only [hCs, ih (fun i hi => h i (by omega)), h (n + 1) (Nat.le_refl _)]
theorem hCs_len_le (f : Nat → Int32) {a b : Nat} (h : a ≤ b) : (hCs f a).length ≤ (hCs f b).length := by
  obtain ⟨d, rfl⟩ : ∃ d, b = a + d := ⟨b - a, by omega⟩
  rw [hCs_app, List.length_append]
  omega
/-- the i-th cut is at a: a chance p is not below it, if more than i cuts are not above p -/
theorem hCs_bin {f : Nat → Int32} {i a p : Nat} (hp : p ≤ 100) (h : (hCs f 100)[i]? = some a) : i < (hCs f p).length ↔ a ≤ p := by
  obtain ⟨d, hd⟩ : ∃ d, 100 = p + d := ⟨100 - p, by omega⟩
  rw [hd, hCs_app] at h
  by_cases hi : i < (hCs f p).length
  · rw [List.getElem?_append_left hi] at h
    have := hCs_mem f p a (List.mem_of_getElem? h)
    omega
  · rw [List.getElem?_append_right (by omega)] at h
    have := hCr_mem f p d a (List.mem_of_getElem? h)
    omega
section HCUT
variable {q : tc_Q} {S : tc_S} {x1 : Int32} {p c k : Nat}
abbrev cF (S : tc_S) : List Nat := hCs (S.1 41) 100
theorem s_binOf (hc : hCut (S.1 5) (S.1 21) (S.1 41)) (hp : p ≤ 100) (h : q (some (tc_I (nI (hCs (S.1 41) p).length))) S) : RX0_binOf [tc_R 0 5, tc_I (nI p)] S q := by
  refine inX0_binOf (fun P h2 => ?_)
  obtain ⟨c1, c2, c3, c4⟩ := hc
  have hle := hCs_len_le (S.1 41) hp
  have loop : ∀ d i, i + d = (hCs (S.1 41) p).length → P 2 [(0, tc_R 0 5), (1, tc_I (nI p)), (2, tc_I (nI i))] [] S := by
    intro d
    induction d with
    | zero =>
      intro i hi
      refine h2 _ _ _ ?_
      unfold fmX0_binOf_2
      rw [c3, nI_clamp (by omega)]
      have ei : i = (hCs (S.1 41) p).length := by omega
      refine ⟨fun _ => by rw [ei]; exact h, fun z => ?_⟩
      have hlt : i < (hCs (S.1 41) 100).length := by
        rcases Nat.lt_or_ge i (hCs (S.1 41) 100).length with g | g
        · exact g
        · exact absurd (nI_le g (by omega)) z
      obtain ⟨a, ha⟩ : ∃ a, (hCs (S.1 41) 100)[i]? = some a := ⟨_, List.getElem?_eq_getElem hlt⟩
      rw [c4 i a ha]
      have hb := hCs_bin hp ha
      have ham := hCs_mem (S.1 41) 100 a (List.mem_of_getElem? ha)
      refine ⟨vp_in_nI (by omega) (by decide), fun _ => by rw [ei]; exact h, fun z2 => absurd (nI_lt (show p < a by omega) (by omega)) z2⟩
    | succ d ih =>
      intro i hi
      refine h2 _ _ _ ?_
      unfold fmX0_binOf_2
      rw [c3, nI_clamp (by omega)]
      obtain ⟨a, ha⟩ : ∃ a, (hCs (S.1 41) 100)[i]? = some a := ⟨_, List.getElem?_eq_getElem (by omega)⟩
      have hb := hCs_bin hp ha
      have ham := hCs_mem (S.1 41) 100 a (List.mem_of_getElem? ha)
      refine ⟨fun z => absurd z (nI_ge (by omega) (by omega)), fun _ => ?_⟩
      rw [c4 i a ha]
      refine ⟨vp_in_nI (by omega) (by decide), fun z2 => absurd z2 (nI_nlt (hb.mp (by omega)) (by omega)), fun _ => ?_⟩
      have := ih (i + 1) (by omega)
      rw [nI_succ] at this
      exact this
  exact loop (hCs (S.1 41) p).length 0 (Nat.zero_add _)
theorem m_cuts (h : q (some (tc_I (nI (hCs (S.1 41) 100).length))) S) : RX11_cuts [tc_R 0 34] S q := by
  refine inX11_cuts (fun P h4 h25 => ?_)
  have loop : ∀ d n, n + d = 100 → P 4 [(0, tc_R 0 34), (1, tc_I (nI (hCs (S.1 41) n).length)), (2, tc_I (nI (n + 1)))] [] S := by
    intro d
    induction d with
    | zero =>
      intro n hn
      have e : n = 100 := by omega
      subst e
      exact h4 _ _ _ ⟨fun _ => h, fun z => absurd (nI_lt (show 100 < 101 by omega) (by decide)) z⟩
    | succ d ih =>
      intro n hn
      have ih' := ih (n + 1) (by omega)
      rw [nI_succ (n + 1)] at ih'
      refine h4 _ _ _ ⟨fun z => absurd z (nI_nlt (show n + 1 ≤ 100 by omega) (by decide)), fun _ => ?_⟩
      rw [nI_clamp (by omega)]
      refine ⟨vp_in_nI (by omega) (by decide), fun z => h25 _ _ _ _ ?_, fun z => h25 _ _ _ _ ?_⟩
      · simp only [hCs, if_pos z] at ih'
        unfold fmX11_cuts_25
        rw [Int32.add_zero]
        exact ih'
      · simp only [hCs, if_neg z, List.length_append] at ih'
        unfold fmX11_cuts_25
        rw [nI_1]
        exact ih'
  exact loop 100 0 rfl
theorem m_binOf (hp : p ≤ 100) (h : q (some (tc_I (nI (hCs (S.1 41) p).length))) S) : RX11_binOf [tc_R 0 34, tc_I (nI p)] S q := by
  refine inX11_binOf (fun P h4 h24 => ?_)
  have loop : ∀ d n, n + d = p → P 4 [(0, tc_R 0 34), (1, tc_I (nI p)), (2, tc_I (nI (hCs (S.1 41) n).length)), (3, tc_I (nI (n + 1)))] [] S := by
    intro d
    induction d with
    | zero =>
      intro n hn
      have e : n = p := by omega
      subst e
      exact h4 _ _ _ _ ⟨fun _ => h, fun z => absurd (nI_lt (show n < n + 1 by omega) (by omega)) z⟩
    | succ d ih =>
      intro n hn
      have ih' := ih (n + 1) (by omega)
      rw [nI_succ (n + 1)] at ih'
      refine h4 _ _ _ _ ⟨fun z => absurd z (nI_nlt (show n + 1 ≤ p by omega) (by omega)), fun _ => ?_⟩
      rw [nI_clamp (by omega)]
      refine ⟨vp_in_nI (by omega) (by decide), fun z => h24 _ _ _ _ _ ?_, fun z => h24 _ _ _ _ _ ?_⟩
      · simp only [hCs, if_pos z] at ih'
        unfold fmX11_binOf_24
        rw [Int32.add_zero]
        exact ih'
      · simp only [hCs, if_neg z, List.length_append] at ih'
        unfold fmX11_binOf_24
        rw [nI_1]
        exact ih'
  exact loop p 0 (by omega)
/-- the least and the greatest chance of bin k -/
def hLe (F : List Nat) (k : Nat) : Nat := if k = 0 then 0 else F.getD (k - 1) 0
def hGr (F : List Nat) (k : Nat) : Nat := if k = F.length then 100 else F.getD k 0 - 1
theorem s_least (hc : hCut (S.1 5) (S.1 21) (S.1 41)) (hk : k ≤ (cF S).length) (h : q (some (tc_I (nI (hLe (cF S) k)))) S) : RX0_leastOf [tc_R 0 5, tc_I (nI k)] S q := by
  obtain ⟨c1, c2, c3, c4⟩ := hc
  refine inX0_leastOf (fun P => ⟨fun z => ?_, fun z => ?_⟩)
  · have e : k = 0 := (nI_eq (by unfold cF at hk; omega) (by decide)).mp z
    simp only [hLe, if_pos e] at h
    exact h
  · have e : ¬ k = 0 := fun e => z (by rw [e]; rfl)
    obtain ⟨k', rfl⟩ : ∃ k', k = k' + 1 := ⟨k - 1, by omega⟩
    simp only [hLe, if_neg e, Nat.add_sub_cancel] at h
    unfold cF at hk h
    obtain ⟨a, ha⟩ : ∃ a, (hCs (S.1 41) 100)[k']? = some a := ⟨_, List.getElem?_eq_getElem (by omega)⟩
    rw [List.getD_eq_getElem?_getD, ha, Option.getD_some] at h
    rw [nI_pred, nI_clamp (by omega), c4 k' a ha]
    exact ⟨vp_in_nI (by omega) (by decide), h⟩
theorem s_greatest (hc : hCut (S.1 5) (S.1 21) (S.1 41)) (hk : k ≤ (cF S).length) (h : q (some (tc_I (nI (hGr (cF S) k)))) S) : RX0_greatestOf [tc_R 0 5, tc_I (nI k)] S q := by
  obtain ⟨c1, c2, c3, c4⟩ := hc
  refine inX0_greatestOf (fun P => ?_)
  unfold fmX0_greatestOf_0
  unfold cF at hk h
  rw [c3]
  refine ⟨fun z => ?_, fun z => ?_⟩
  · have e := (nI_eq (by omega) (by omega)).mp z
    simp only [hGr, if_pos e] at h
    exact h
  · have e : ¬ k = (hCs (S.1 41) 100).length := fun e => z (by rw [e])
    simp only [hGr, if_neg e] at h
    obtain ⟨a, ha⟩ : ∃ a, (hCs (S.1 41) 100)[k]? = some a := ⟨_, List.getElem?_eq_getElem (by omega)⟩
    have ham := hCs_mem (S.1 41) 100 a (List.mem_of_getElem? ha)
    rw [List.getD_eq_getElem?_getD, ha, Option.getD_some] at h
    rw [nI_clamp (by omega), c4 k a ha]
    refine ⟨vp_in_nI (by omega) (by decide), ?_⟩
    rw [show nI a - 1 = nI (a - 1) by
      obtain ⟨a', rfl⟩ : ∃ a', a = a' + 1 := ⟨a - 1, by omega⟩
      rw [nI_pred]
      rfl]
    exact h
theorem m_least (h9 : (cF S).length ≤ 9) (hk : k ≤ (cF S).length) (h : q (some (tc_I (nI (hLe (cF S) k)))) S) : RX11_leastIn [tc_R 0 34, tc_I (nI k)] S q := by
  refine inX11_leastIn (fun P h2 => ?_)
  unfold cF at *
  have key : ∀ p, p ≤ 100 → ((hCs (S.1 41) p).length < k ↔ p < hLe (hCs (S.1 41) 100) k) := by
    intro p hp
    unfold hLe
    by_cases e : k = 0
    · rw [if_pos e]
      omega
    · rw [if_neg e]
      obtain ⟨a, ha⟩ : ∃ a, (hCs (S.1 41) 100)[k - 1]? = some a := ⟨_, List.getElem?_eq_getElem (by omega)⟩
      have := hCs_bin hp ha
      rw [List.getD_eq_getElem?_getD, ha, Option.getD_some]
      omega
  have hL100 : hLe (hCs (S.1 41) 100) k ≤ 100 := by
    unfold hLe
    split
    · omega
    · obtain ⟨a, ha⟩ : ∃ a, (hCs (S.1 41) 100)[k - 1]? = some a := ⟨_, List.getElem?_eq_getElem (by omega)⟩
      rw [List.getD_eq_getElem?_getD, ha, Option.getD_some]
      exact (hCs_mem (S.1 41) 100 a (List.mem_of_getElem? ha)).2
  have loop : ∀ d p, p + d = hLe (hCs (S.1 41) 100) k → P 2 [(0, tc_R 0 34), (1, tc_I (nI k)), (2, tc_I (nI p))] [] S := by
    intro d
    induction d with
    | zero =>
      intro p hp
      have hkk := key p (by omega)
      have hbl := hCs_len_le (S.1 41) (show p ≤ 100 by omega)
      have ep : p = hLe (hCs (S.1 41) 100) k := by omega
      refine h2 _ _ _ (m_binOf (by omega) (sgX11_leastIn_7 ⟨fun _ => by rw [ep]; exact h, fun z => absurd (nI_le (by omega) (by omega)) z⟩))
    | succ d ih =>
      intro p hp
      have hkk := key p (by omega)
      have hbl := hCs_len_le (S.1 41) (show p ≤ 100 by omega)
      refine h2 _ _ _ (m_binOf (by omega) (sgX11_leastIn_7 ⟨fun z => absurd z (nI_ge (by omega) (by omega)), fun _ => ?_⟩))
      have := ih (p + 1) (by omega)
      rw [nI_succ] at this
      exact this
  exact loop (hLe (hCs (S.1 41) 100) k) 0 (Nat.zero_add _)
theorem h_sub1 {p : Nat} : nI (p + 1) + (-1) = nI p := by
  rw [nI_succ]
  have : nI p + 1 + (-1) = nI p + (1 + (-1)) := Int32.add_assoc _ _ _
  rw [this]
  exact Int32.add_zero _
theorem m_greatest (h9 : (cF S).length ≤ 9) (hk : k ≤ (cF S).length) (h : q (some (tc_I (nI (hGr (cF S) k)))) S) : RX11_greatestIn [tc_R 0 34, tc_I (nI k)] S q := by
  refine inX11_greatestIn (fun P h3 => ?_)
  unfold cF at *
  have key : ∀ p, p ≤ 100 → (k < (hCs (S.1 41) p).length ↔ hGr (hCs (S.1 41) 100) k < p) := by
    intro p hp
    have hbl := hCs_len_le (S.1 41) hp
    unfold hGr
    by_cases e : k = (hCs (S.1 41) 100).length
    · rw [if_pos e]
      omega
    · rw [if_neg e]
      obtain ⟨a, ha⟩ : ∃ a, (hCs (S.1 41) 100)[k]? = some a := ⟨_, List.getElem?_eq_getElem (by omega)⟩
      have := hCs_bin hp ha
      have := hCs_mem (S.1 41) 100 a (List.mem_of_getElem? ha)
      rw [List.getD_eq_getElem?_getD, ha, Option.getD_some]
      omega
  have hL100 : hGr (hCs (S.1 41) 100) k ≤ 100 := by
    unfold hGr
    split
    · omega
    · obtain ⟨a, ha⟩ : ∃ a, (hCs (S.1 41) 100)[k]? = some a := ⟨_, List.getElem?_eq_getElem (by omega)⟩
      rw [List.getD_eq_getElem?_getD, ha, Option.getD_some]
      have := (hCs_mem (S.1 41) 100 a (List.mem_of_getElem? ha)).2
      omega
  have loop : ∀ d p, p = hGr (hCs (S.1 41) 100) k + d → p ≤ 100 → P 3 [(0, tc_R 0 34), (1, tc_I (nI k)), (2, tc_I (nI p))] [] S := by
    intro d
    induction d with
    | zero =>
      intro p hp hp100
      have hkk := key p (by omega)
      have hbl := hCs_len_le (S.1 41) (show p ≤ 100 by omega)
      have ep : p = hGr (hCs (S.1 41) 100) k := by omega
      refine h3 _ _ _ (m_binOf (by omega) (sgX11_greatestIn_8 ⟨fun _ => by rw [ep]; exact h, fun z => absurd (nI_le (by omega) (by omega)) z⟩))
    | succ d ih =>
      intro p hp hp100
      have hkk := key p (by omega)
      have hbl := hCs_len_le (S.1 41) (show p ≤ 100 by omega)
      refine h3 _ _ _ (m_binOf (by omega) (sgX11_greatestIn_8 ⟨fun z => absurd z (nI_ge (by omega) (by omega)), fun _ => ?_⟩))
      obtain ⟨p', rfl⟩ : ∃ p', p = p' + 1 := ⟨p - 1, by omega⟩
      rw [h_sub1]
      exact ih p' (by omega) (by omega)
  exact loop (100 - hGr (hCs (S.1 41) 100) k) 100 (by omega) (Nat.le_refl _)
/-- a cut put in -/
theorem s_insert {n : Nat} (hc5 : S.1 5 1 = nI n) (hn : n < 9) (hp : p ≤ n) (h : ∀ S', hS [5, 21] S S' → S'.1 5 1 = nI (n + 1) → S'.1 21 p = x1 → (∀ i, i < p → S'.1 21 i = S.1 21 i) → (∀ i, p ≤ i → i < n → S'.1 21 (i + 1) = S.1 21 i) → q none S') : RX0_insertCut [tc_R 0 5, tc_I (nI p), tc_I x1] S q := by
  refine inX0_insertCut (fun P h5 => ?_)
  unfold fmX0_insertCut_0
  rw [hc5]
  have loop : ∀ d i S', i = p + d → i ≤ n → hS [5, 21] S S' → S'.1 5 1 = nI n → (∀ k, k ≤ i → S'.1 21 k = S.1 21 k) → (∀ k, i ≤ k → k < n → S'.1 21 (k + 1) = S.1 21 k) → P 5 [(0, tc_R 0 5), (1, tc_I (nI p)), (2, tc_I x1), (3, tc_I (nI i))] [] S' := by
    intro d
    induction d with
    | zero =>
      intro i S' hi hin hs h51 hlo hhi
      have e : i = p := by omega
      subst e
      refine h5 _ _ _ _ ⟨fun _ => ?_, fun z => absurd (nI_le (Nat.le_refl i) (by omega)) z⟩
      rw [nI_clamp (by omega), h_ui (by decide), h51, nI_1]
      refine ⟨vp_in_nI (by omega) (by decide), h _ ((hs.ui (by decide)).ui (by decide)) (by rw [tc_ui_self, h_upd]) (by rw [h_ui (by decide), tc_ui_self, h_upd]) (fun k hk => ?_) (fun k hk hk2 => ?_)⟩
      · rw [h_ui (by decide), tc_ui_self, h_updn (by omega)]
        exact hlo k (by omega)
      · rw [h_ui (by decide), tc_ui_self, h_updn (by omega)]
        exact hhi k hk hk2
    | succ d ih =>
      intro i S' hi hin hs h51 hlo hhi
      obtain ⟨i', rfl⟩ : ∃ i', i = i' + 1 := ⟨i - 1, by omega⟩
      refine h5 _ _ _ _ ⟨fun z => absurd z (nI_ge (by omega) (by omega)), fun _ => ?_⟩
      rw [nI_pred, nI_clamp (by omega), nI_clamp (by omega), h_sub1]
      refine ⟨vp_in_nI (by omega) (by decide), vp_in_nI (by omega) (by decide), ih i' _ (by omega) (by omega) (hs.ui (by decide)) (by rw [h_ui (by decide)]; exact h51) (fun k hk => ?_) (fun k hk hk2 => ?_)⟩
      · rw [tc_ui_self, h_updn (by omega)]
        exact hlo k (by omega)
      · rw [tc_ui_self]
        by_cases e : k = i'
        · rw [e, h_upd, hlo i' (by omega)]
        · rw [h_updn (by omega)]
          exact hhi k (by omega) hk2
  exact loop (n - p) n S (by omega) (Nat.le_refl _) (hS.rf _ S) hc5 (fun _ _ => rfl) (fun k hk hk2 => by omega)
/-- a cut taken away -/
theorem s_remove {n : Nat} (hc5 : S.1 5 1 = nI (n + 1)) (hn : n < 9) (hp : p ≤ n) (h : ∀ S', hS [5, 21] S S' → S'.1 5 1 = nI n → (∀ i, i < p → S'.1 21 i = S.1 21 i) → (∀ i, p ≤ i → i < n → S'.1 21 i = S.1 21 (i + 1)) → q none S') : RX0_removeCut [tc_R 0 5, tc_I (nI p)] S q := by
  refine inX0_removeCut (fun P h12 => ?_)
  unfold fmX0_removeCut_0
  rw [hc5, nI_pred]
  have loop : ∀ d i S', i + d = n → p ≤ i → hS [5, 21] S S' → S'.1 5 1 = nI n → (∀ k, k < p → S'.1 21 k = S.1 21 k) → (∀ k, p ≤ k → k < i → S'.1 21 k = S.1 21 (k + 1)) → (∀ k, i ≤ k → S'.1 21 k = S.1 21 k) → P 12 [(0, tc_R 0 5), (2, tc_I (nI i))] [] S' := by
    intro d
    induction d with
    | zero =>
      intro i S' hi hpi hs h51 hlo hmid hhi
      have e : i = n := by omega
      subst e
      refine h12 _ _ ?_
      unfold fmX0_removeCut_12
      rw [h51]
      exact ⟨fun _ => h S' hs h51 hlo hmid, fun z => absurd (nI_le (Nat.le_refl i) (by omega)) z⟩
    | succ d ih =>
      intro i S' hi hpi hs h51 hlo hmid hhi
      refine h12 _ _ ?_
      unfold fmX0_removeCut_12
      rw [h51]
      refine ⟨fun z => absurd z (nI_ge (by omega) (by omega)), fun _ => ?_⟩
      rw [nI_1, nI_clamp (by omega), nI_clamp (by omega)]
      refine ⟨vp_in_nI (by omega) (by decide), vp_in_nI (by omega) (by decide), ih (i + 1) _ (by omega) (by omega) (hs.ui (by decide)) (by rw [h_ui (by decide)]; exact h51) (fun k hk => ?_) (fun k hk hk2 => ?_) (fun k hk => ?_)⟩
      · rw [tc_ui_self, h_updn (by omega)]
        exact hlo k hk
      · rw [tc_ui_self]
        by_cases e : k = i
        · rw [e, h_upd, hhi (i + 1) (by omega)]
        · rw [h_updn e]
          exact hmid k hk (by omega)
      · rw [tc_ui_self, h_updn (by omega)]
        exact hhi k (by omega)
  exact loop (n - p) p _ (by omega) (Nat.le_refl _) ((hS.rf _ S).ui (by decide)) (by rw [tc_ui_self, h_upd]) (fun _ _ => by rw [h_ui (by decide)]) (fun k hk hk2 => by omega) (fun _ _ => by rw [h_ui (by decide)])
end HCUT
