/-! split -/
def zBl (f : Nat → Int32) (l : List (Nat × Bool)) : Nat → Nat → Nat := fun i k => if i = 0 then hBn f g0 k l else if i = 1 then hBn f g1 k l else if i = 2 then hBn f g2 k l else if i = 3 then hBn f g3 k l else hBn f g4 k l
theorem hSu_add (c e : Nat → Nat) : ∀ K, hSu (fun k => c k + e k) K = hSu c K + hSu e K := by
  intro K
  induction K with
  | zero => rfl
  | succ K ih => simp only [hSu, ih]; omega
theorem hSu_one {j v : Nat} : ∀ K, j < K → hSu (fun k => if k = j then v else 0) K = v := by
  have z : ∀ K, K ≤ j → hSu (fun k => if k = j then v else 0) K = 0 := by
    intro K
    induction K with
    | zero => intro _; rfl
    | succ K ih =>
      intro h
      simp only [hSu, ih (by omega)]
      rw [if_neg (by omega)]
  intro K
  induction K with
  | zero => intro h; omega
  | succ K ih =>
    intro h
    simp only [hSu]
    by_cases e : K = j
    · rw [if_pos e, z K (by omega)]
      omega
    · rw [if_neg e, ih (by omega)]
      omega
theorem hBn_sum {f : Nat → Int32} {g : Nat × Bool → Nat} {K : Nat} {l : List (Nat × Bool)} (h : ∀ c ∈ l, (hCs f c.1).length < K) : hSu (fun k => hBn f g k l) K = (l.map g).sum := by
  induction l with
  | nil =>
    have : ∀ K, hSu (fun k => hBn f g k []) K = 0 := by
      intro K
      induction K with
      | zero => rfl
      | succ K ih => simp only [hSu, ih]; rfl
    exact this K
  | cons c l ih =>
    have e : (fun k => hBn f g k (c :: l)) = fun k => (if k = (hCs f c.1).length then g c else 0) + hBn f g k l := by
      funext k
      simp only [hBn, List.map_cons, List.sum_cons]
    rw [e, hSu_add, hSu_one K (h c List.mem_cons_self), ih (fun a ha => h a (List.mem_cons_of_mem _ ha))]
    simp only [List.map_cons, List.sum_cons]
theorem hBn_lew {f : Nat → Int32} {g h : Nat × Bool → Nat} {k m : Nat} {l : List (Nat × Bool)} (hh : ∀ c ∈ l, g c ≤ m * h c) : hBn f g k l ≤ m * hBn f h k l := by
  induction l with
  | nil => simp [hBn]
  | cons c l ih =>
    have h1 := ih (fun a ha => hh a (List.mem_cons_of_mem _ ha))
    have h2 := hh c List.mem_cons_self
    simp only [hBn, List.map_cons, List.sum_cons] at h1 ⊢
    rw [Nat.mul_add]
    split <;> omega
theorem hS.tt {w : List Nat} {S S1 S2 : tc_S} (h1 : hS w S S1) (h2 : hS w S1 S2) : hS w S S2 := h1.tr h2 (fun _ h => h) (fun _ h => h)
theorem h_g0 (l : List (Nat × Bool)) : (l.map g0).sum = l.length := by
  induction l with
  | nil => rfl
  | cons c l ih => simp only [List.map_cons, List.sum_cons, ih, List.length_cons, g0]; omega
theorem h_g1 (l : List (Nat × Bool)) : (l.map g1).sum = hY l := by
  induction l with
  | nil => rfl
  | cons c l ih =>
    simp only [List.map_cons, List.sum_cons, ih, hY, g1]
    cases h : c.2 <;> simp [h] <;> omega
theorem hBl_ok {f : Nat → Int32} {l : List (Nat × Bool)} (hl : ∀ c ∈ l, c.1 ≤ 100) (h9 : (hCs f 100).length ≤ 9) (h0 : 0 < l.length) (h40 : l.length ≤ 40) : zOk (zBl f l) l.length (hY l) ((hCs f 100).length + 1) := by
  have hb : ∀ c ∈ l, (hCs f c.1).length < (hCs f 100).length + 1 := fun c hc => by
    have := hCs_len_le f (hl c hc)
    omega
  refine ⟨fun k hk => ⟨?_, ?_, ?_, ?_⟩, ?_, ?_, h0, h40, by omega⟩
  · have := hBn_lew (f := f) (g := g1) (h := g0) (k := k) (m := 1) (l := l) (fun c _ => by unfold g1 g0; split <;> omega)
    rw [Nat.one_mul] at this
    exact this
  · exact hBn_lew (f := f) (g := g2) (h := g0) (k := k) (m := 100) (l := l) (fun c hc => by have := hl c hc; unfold g2 g0; omega)
  · exact hBn_lew (f := f) (g := g3) (h := g0) (k := k) (m := 10000) (l := l) (fun c hc => by
      have := hl c hc
      have := Nat.mul_le_mul this this
      unfold g3 g0
      omega)
  · exact hBn_lew (f := f) (g := g4) (h := g0) (k := k) (m := 100) (l := l) (fun c hc => by have := hl c hc; unfold g4 g0; split <;> omega)
  · have := hBn_sum (f := f) (g := g0) hb
    rw [h_g0] at this
    exact this
  · have := hBn_sum (f := f) (g := g1) hb
    rw [h_g1] at this
    exact this
theorem hBi_R {f r0 r1 r2 r3 r4 : Nat → Int32} {l : List (Nat × Bool)} {K : Nat} (h : hBi f r0 r1 r2 r3 r4 l) (hK : K ≤ 10) : zR r0 r1 r2 r3 r4 (zBl f l) K := fun k hk => ⟨(h k (by omega)).1, fun _ => (h k (by omega)).2⟩
section PSPLIT
variable {q : tc_Q} {S : tc_S} {B : Nat → Nat → Nat} {n Y K k p t : Nat} {x1 x2 x3 : Int32}
theorem s_joinParts {C : Nat} (h5 : S.1 5 1 = nI C) (h42 : S.1 4 2 = nI n) (h43 : S.1 4 3 = nI Y) (hz : zR (S.1 22) (S.1 23) (S.1 24) (S.1 25) (S.1 26) B (C + 1)) (hok : zOk B n Y (C + 1)) (h : ∀ S', hS [7, 8] S S' → S'.1 = S.1 → hF7 S' (zW B n Y (C + 1) 5) → q none S') : RX10_joinParts [tc_R 0 0] S q := by
  refine inX10_joinParts (fun P h11 h42' h47 h74 => ?_)
  have loop : ∀ d i S', i + d = 5 → hS [7, 8] S S' → S'.1 = S.1 → hF7 S' (zW B n Y (C + 1) i) → P 11 [(0, tc_R 0 0), (1, tc_I (nI i))] [] S' := by
    intro d
    induction d with
    | zero =>
      intro i S' hi hs h1 hf
      have e : i = 5 := by omega
      subst e
      exact h11 _ _ ⟨fun _ => h S' hs h1 hf, fun z => absurd (nI_le (Nat.le_refl 5) (by decide)) z⟩
    | succ d ih =>
      intro i S' hi hs h1 hf
      refine h11 _ _ ⟨fun z => absurd z (nI_ge (show i < 5 by omega) (by decide)), fun _ => s_findPart8 (by rw [h1]; exact h5) (by rw [h1]; exact h42) (by rw [h1]; exact h43) (by rw [h1]; exact hz) hok (show i < 5 by omega) (fun S2 hs2 h12 hO hf2 => sgX10_joinParts_32 ?_)⟩
      obtain ⟨D, hD0, hD, hw, hv⟩ := zW_D hok (show i < 5 by omega)
      have hf72 : hF7 S2 (zW B n Y (C + 1) i) := by
        unfold hF7
        rw [hO]
        exact hf
      have hnum := rI_num hv hD0
      have hBB : (2 * i + 2) * D < 2 ^ 63 := by
        have := Nat.mul_le_mul (show 2 * i + 2 ≤ 10 by omega) (show D ≤ 2 ^ 49 by omega)
        omega
      have go : ∀ (u : Int) (v : Rat), u.natAbs ≤ 2 * (zV B n Y (C + 1) i).den → mkRat u (zV B n Y (C + 1) i).den = v → zW B n Y (C + 1) (i + 1) = zW B n Y (C + 1) i + v → P 74 [(0, tc_R 0 0), (1, tc_I (nI i))] [tc_J (lI u), tc_R 0 7] S2 := by
        intro u v hu ev ew
        refine h74 _ _ _ ?_
        unfold fmX10_joinParts_74
        rw [hf2.2]
        refine s_addI7 hf72 hw (rI_den hv hD0) hD0 hD hu hBB (fun _ => sgX10_joinParts_84 ?_)
        have := ih (i + 1) (hP7 S2 (zW B n Y (C + 1) i + mkRat u (zV B n Y (C + 1) i).den)) (by omega) ((hs.tt (hs2.wk (by decide))).tt ((hP7_s _ _).wk (by decide))) (h12.trans h1) (by rw [ev, ← ew]; exact hF7_put _ _)
        rw [nI_succ i] at this
        exact this
      have plus : ¬ (i = 1 ∨ i = 4) → P 47 [(0, tc_R 0 0), (1, tc_I (nI i))] [tc_I 0] S2 := by
        intro g
        refine h47 _ _ _ (h_b0 ?_)
        rw [hf2.1]
        exact go _ _ hnum (Rat.mkRat_self _) (zW_p g)
      have minus : (i = 1 ∨ i = 4) → P 42 [(0, tc_R 0 0), (1, tc_I (nI i))] [] S2 := by
        intro g
        refine h42' _ _ (h47 _ _ _ (h_b1 ?_))
        rw [hf2.1, lI_neg]
        refine go _ (-(zV B n Y (C + 1) i)) (by rw [Int.natAbs_neg]; exact hnum) ?_ (zW_n g)
        rw [← Rat.neg_mkRat, Rat.mkRat_self]
      refine ⟨fun z => minus (Or.inl ((nI_eq (b := 1) (by omega) (by decide)).mp z)), fun z => ⟨fun z2 => minus (Or.inr ((nI_eq (b := 4) (by omega) (by decide)).mp z2)), fun z2 => plus (fun g => ?_)⟩⟩
      rcases g with rfl | rfl
      · exact z rfl
      · exact z2 rfl
  refine s_become7 (u := 0) (d := 1) (by decide) (by decide) (by decide) (sgX10_joinParts_9 (loop 5 0 _ rfl ((hP7_s _ _).wk (by decide)) rfl ?_))
  have := hF7_put S (mkRat 0 1)
  rw [Rat.zero_mkRat] at this ⊢
  exact this
/-- the whole of the model's split, once the cases are counted -/
theorem m_splitGo {j : Nat} (hj : j < 2) (hp : p < 6) (hK : K = (hCs (S.1 41) 100).length + 1) (h18 : S.1 34 18 = nI n) (h19 : S.1 34 19 = nI Y) (hz : zR (S.1 42) (S.1 43) (S.1 44) (S.1 45) (S.1 46) B K) (hok : zOk B n Y K) (P : Nat → tc_B) (h90 : ∀ (x3 : Int32) (S : tc_S), fmX11_split_90 P q x3 S → P 90 [(0, tc_R 0 34), (3, tc_I x3)] [] S) (h : ∀ S', hS [34] S S' → S'.1 = S.1 → q (some (tc_J (hPick (if p = 5 then zW B n Y K 5 else zV B n Y K p) j))) S') : fmX11_split_42 P q x1 (nI p) (nI j) S := by
  have hY := zOk_Y hok
  have hn0 := hok.2.2.2.1
  have hn := hok.2.2.2.2.1
  have hP0 := hPi_pos (B 0) K
  have fin : ∀ S', hS [34] S S' → S'.1 = S.1 → mF S' (if p = 5 then zW B n Y K 5 else zV B n Y K p) → P 90 [(0, tc_R 0 34), (3, tc_I (nI j))] [] S' := fun S' hs h1 hf => h90 _ _ (m_part hf hj (sgX11_split_95 (h S' hs h1)))
  have n2 : n * n ≤ 1600 := Nat.mul_le_mul hn hn
  have n3 : n * n * n ≤ 64000 := Nat.mul_le_mul n2 hn
  refine m_noF (sgX11_split_46 ⟨fun z => ?_, fun z => ?_⟩)
  · have e5 : p = 5 := by
      have := (nI_leI (a := 5) (b := p) (by decide) (by omega)).mp z
      omega
    refine m_addDoubt (r := 0) h18 h19 hn hn0 hY (mF_put S 0) (fun S1 hs1 e1 hf1 => sgX11_split_66 ?_)
    have r1 : rI (zV B n Y K 0) (hPi (B 0) K * zM n 1) 1 := rI_wk (rI_V0 hok) (Nat.dvd_mul_left_of_dvd (Nat.dvd_mul_right (n * n) n) _) (Nat.mul_pos hP0 (zM_pos hn0)) (Nat.le_refl 1)
    have b1 := zP_b hok (g := -1) (p := 1) (e := 1) (D2 := zM n 1) (A := 1) (by decide) (zM_b1 (by decide)) (by decide) (Nat.dvd_refl _) (zM_pos hn0) r1 (by
      show (1 + 1 + 1) * (9300000 * (n * n * n * (n * n * n))) < 2 ^ 63
      have := Nat.mul_le_mul n3 n3
      omega)
    refine m_addPart (p := 1) (g := -1) (by decide) (by rw [e1]; exact hK) (by rw [e1]; exact h18) (by rw [e1]; exact h19) (by rw [e1]; exact hz) hok (by decide) (by decide) hf1 b1.1 (fun S2 hs2 e2 hf2 => sgX11_split_72 ?_)
    have v2 : mF S2 (zV B n Y K 0 + -(zV B n Y K 1)) := by
      rw [zP_n (by decide)] at hf2
      exact hf2
    have dx : hPi (B 0) K * n ∣ hPi (B 0) K * zM n 2 := Nat.mul_dvd_mul_left _ (Nat.dvd_mul_left n 10000)
    have pM2 : 0 < hPi (B 0) K * zM n 2 := Nat.mul_pos hP0 (zM_pos hn0)
    have r2 := rI_wk (rI_X hok) dx pM2 (Nat.le_refl 2)
    have b2 := zP_b hok (g := 1) (p := 2) (e := 1) (D2 := zM n 2) (A := 2) (by decide) (zM_b1 (by decide)) (by decide) (Nat.dvd_refl _) (zM_pos hn0) r2 (by
      show (2 + 1 + 1) * (9300000 * (10000 * n * (10000 * n))) < 2 ^ 63
      have : 10000 * n * (10000 * n) = 100000000 * (n * n) := by rw [Nat.mul_mul_mul_comm]
      omega)
    have e12 : S2.1 = S.1 := e2.trans e1
    refine m_addPart (p := 2) (g := 1) (by decide) (by rw [e12]; exact hK) (by rw [e12]; exact h18) (by rw [e12]; exact h19) (by rw [e12]; exact hz) hok (by decide) (by decide) v2 b2.1 (fun S3 hs3 e3 hf3 => sgX11_split_78 ?_)
    have b3 := zP_b hok (g := 1) (p := 3) (e := 1) (D2 := zM n 2) (A := 3) (by decide) (zM_b1 (by decide)) (by decide) (Nat.dvd_refl _) (zM_pos hn0) b2.2 (by
      show (3 + 1 + 1) * (9300000 * (10000 * n * (10000 * n))) < 2 ^ 63
      have : 10000 * n * (10000 * n) = 100000000 * (n * n) := by rw [Nat.mul_mul_mul_comm]
      omega)
    have e13 : S3.1 = S.1 := e3.trans e12
    refine m_addPart (p := 3) (g := 1) (by decide) (by rw [e13]; exact hK) (by rw [e13]; exact h18) (by rw [e13]; exact h19) (by rw [e13]; exact hz) hok (by decide) (by decide) hf3 b3.1 (fun S4 hs4 e4 hf4 => sgX11_split_84 ?_)
    have b4 := zP_b hok (g := -1) (p := 4) (e := 2) (D2 := zM n 2) (A := 4) (by decide) (zM_b n 4) (by decide) ⟨100, by
      show 10000 * n = 100 * n * 100
      omega⟩ (zM_pos hn0) b3.2 (by
      show (4 + 2 + 2) * (9300000 * (10000 * n * (100 * n))) < 2 ^ 63
      have : 10000 * n * (100 * n) = 1000000 * (n * n) := by rw [Nat.mul_mul_mul_comm]
      omega)
    have e14 : S4.1 = S.1 := e4.trans e13
    refine m_addPart (p := 4) (g := -1) (by decide) (by rw [e14]; exact hK) (by rw [e14]; exact h18) (by rw [e14]; exact h19) (by rw [e14]; exact hz) hok (by decide) (by decide) hf4 b4.1 (fun S5 hs5 e5' hf5 => ?_)
    refine fin S5 ((((((mP_s _ _).tt hs1).tt hs2).tt hs3).tt hs4).tt hs5) (e5'.trans e14) ?_
    rw [if_pos e5, zW_n (i := 4) (by decide), zW_p (i := 3) (by decide), zW_p (i := 2) (by decide), zW_2]
    rw [zP_v (by decide), zP_v (by decide), zP_n (by decide)] at hf5
    exact hf5
  · have hp5 : p < 5 := by
      rcases Nat.lt_or_ge p 5 with g | g
      · exact g
      · exact absurd (nI_le g (by omega)) z
    have fin2 : ∀ S', hS [34] S S' → S'.1 = S.1 → mF S' (zV B n Y K p) → P 90 [(0, tc_R 0 34), (3, tc_I (nI j))] [] S' := fun S' hs h1 hf => fin S' hs h1 (by rw [if_neg (by omega)]; exact hf)
    rcases Nat.eq_zero_or_pos p with g0 | g0
    · subst g0
      exact m_addDoubt (r := 0) h18 h19 hn hn0 hY (mF_put S 0) (fun S1 hs1 e1 hf1 => sgX11_split_57 (fin2 S1 ((mP_s _ _).tt hs1) e1 hf1))
    · have b1 := zP_b hok (g := 1) (p := p) (e := 2) (D2 := zM n p) (A := 0) (r := 0) (by decide) (zM_b n p) (by decide) (Nat.dvd_refl _) (zM_pos hn0) (rI_0 _) (by
        have := Nat.mul_le_mul (zM_le (p := p) hn) (zM_le (p := p) hn)
        omega)
      refine m_addPart (p := p) (g := 1) (by decide) hK h18 h19 hz hok g0 hp5 (mF_put S 0) b1.1 (fun S1 hs1 e1 hf1 => sgX11_split_57 (fin2 S1 ((mP_s _ _).tt hs1) e1 ?_))
      rw [zP_v g0, Rat.zero_add] at hf1
      exact hf1
theorem s_sortCases (hR : Rel S) (ht : t < 5) (h0 : (cL S t 40).length = 0 → ∀ S', hS [4, 19, 20] S S' → q (some (tc_I 0)) S') (h1 : 0 < (cL S t 40).length → ∀ S', hS [4, 19, 20, 22, 23, 24, 25, 26] S S' → S'.1 4 2 = nI (cL S t 40).length → S'.1 4 3 = nI (hY (cL S t 40)) → hBi (S.1 41) (S'.1 22) (S'.1 23) (S'.1 24) (S'.1 25) (S'.1 26) (cL S t 40) → q (some (tc_I 1)) S') : RX10_sortCases [tc_R 0 0, tc_I (nI t)] S q := by
  refine inX10_sortCases (fun P => s_gather hR.2.1 ht (fun S1 hg => sgX10_sortCases_12 ?_))
  have hc := cG_cC hR.2.1 ht hg
  have hlen := hc.1
  unfold fmX10_sortCases_12
  rw [hc.2.2.1]
  refine ⟨fun z => ⟨h_n0, h0 ((nI_eq (by omega) (by decide)).mp z) S1 hg.1⟩, fun z => ?_⟩
  have hl0 : 0 < (cL S t 40).length := by
    rcases Nat.eq_zero_or_pos (cL S t 40).length with g | g
    · exact absurd (by rw [g]; rfl) z
    · exact g
  refine s_sortIn (by rw [hg.1.1 5 (by decide), hg.1.1 21 (by decide), hg.1.1 41 (by decide)]; exact hR.2.2.2.2.1) hc (fun S2 hb => sgX10_sortCases_35 ⟨h_n1, h1 hl0 S2 (hg.1.tr hb.1 (by decide) (by decide)) ?_ ?_ ?_⟩)
  · rw [hb.1.1 4 (by decide)]
    exact hc.2.2.1
  · rw [hb.1.1 4 (by decide)]
    exact hc.2.2.2.1
  · have := hb.2
    rw [hg.1.1 41 (by decide)] at this
    exact this
theorem p_split (hR : Rel S) (h : ∀ (x9 : Int64) S1, (∀ q2 : tc_Q, (∀ S2, Rel S2 → q2 (some (tc_J x9)) S2) → RX11_split [tc_R 0 34, tc_I x1, tc_I x2, tc_I x3] S1 q2) → q (some (tc_J x9)) S1) : RX10_split [tc_R 0 0, tc_I x1, tc_I x2, tc_I x3] S q := by
  refine inX10_split (fun P h63 => ?_)
  cases b1 : hr 5 x1 with
  | false =>
    have n1 := hr_f (by decide) b1
    exact s_teller0 n1 (sgX10_split_4 (h_b0 (h _ _ (fun q2 h2 => inX11_split (fun _ _ => m_any0 n1 (sgX11_split_4 (h_b0 (h2 _ hR))))))))
  | true =>
    obtain ⟨t, ht, rfl⟩ := hr_t (by decide) b1
    refine s_teller1 ht (sgX10_split_4 (h_b1 ?_))
    cases b2 : hr 6 x2 with
    | false =>
      have n2 := hr_f (by decide) b2
      have lost : q (some (tc_J (-9223372036854775808))) S := h _ _ (fun q2 h2 => inX11_split (fun _ _ => m_any1 ht (sgX11_split_4 (h_b1 (m_within0 (n := 5) (by decide) n2 (sgX11_split_13 (h_b0 (h2 _ hR))))))))
      exact h_chl0 (n := 5) (by decide) n2 lost lost
    | true =>
      obtain ⟨p, hp, rfl⟩ := hr_t (by decide) b2
      refine h_chl1 (n := 5) (by decide) hp ?_
      cases b3 : hr 2 x3 with
      | false =>
        have n3 := hr_f (by decide) b3
        exact s_which0 n3 (sgX10_split_20 (h_b0 (h _ _ (fun q2 h2 => inX11_split (fun _ _ => m_any1 ht (sgX11_split_4 (h_b1 (m_within1 (n := 5) (by decide) hp (sgX11_split_13 (h_b1 (m_within0 (n := 1) (by decide) n3 (sgX11_split_22 (h_b0 (h2 _ hR))))))))))))))
      | true =>
        obtain ⟨j, hj, rfl⟩ := hr_t (by decide) b3
        have hcut := hR.2.2.2.2.1
        refine s_which1 hj (sgX10_split_20 (h_b1 (s_sortCases hR ht (fun hl S1 hs => sgX10_split_28 (h_b0 (h _ _ (fun q2 h2 => ?_)))) (fun hl S1 hs e2 e3 hb => sgX10_split_28 (h_b1 ?_)))))
        · have hR' : Rel S1 := hR.fr (hs.wk (by decide)) (by rw [hs.1 34 (by decide)]) (by rw [hs.1 34 (by decide)])
          refine inX11_split (fun _ _ => m_any1 ht (sgX11_split_4 (h_b1 (m_within1 (n := 5) (by decide) hp (sgX11_split_13 (h_b1 (m_within1 (n := 1) (by decide) hj (sgX11_split_22 (h_b1 (m_cases hR'.mb ht (sgX11_split_30 ?_)))))))))))
          rw [hR'.cl, hs.cL (by decide) (by decide) (by decide), hl]
          exact h_b0 (h2 _ hR')
        · have hlen : (cL S t 40).length ≤ 40 := hL_len (S.1 14) (S.1 15) (S.1 16) t 40
          have hok := hBl_ok (f := S.1 41) (l := cL S t 40) (hL_ok hR.2.1 ht 40 (Nat.le_refl 40)) hcut.2.1 hl hlen
          have hz := hBi_R (K := (hCs (S.1 41) 100).length + 1) hb (by have := hcut.2.1; omega)
          have e5 : S1.1 5 1 = nI (hCs (S.1 41) 100).length := by rw [hs.1 5 (by decide)]; exact hcut.2.2.1
          generalize hl' : cL S t 40 = l at *
          have fin : ∀ S2, hS [7, 8] S1 S2 → S2.1 = S1.1 → hF7 S2 (if p = 5 then zW (zBl (S.1 41) l) l.length (hY l) ((hCs (S.1 41) 100).length + 1) 5 else zV (zBl (S.1 41) l) l.length (hY l) ((hCs (S.1 41) 100).length + 1) p) → P 63 [(0, tc_R 0 0), (3, tc_I (nI j))] [] S2 := by
            intro S2 hs2 e12 hf
            refine h63 _ _ (s_pick hf hj (sgX10_split_71 (h _ _ (fun q2 h2 => ?_))))
            have hs3 : hS hScr S S2 := hs.tr hs2 (by decide) (by decide)
            have hR2 : Rel S2 := hR.fr hs3 (by rw [e12, hs.1 34 (by decide)]) (by rw [e12, hs.1 34 (by decide)])
            have hm2 : mL S2 t 40 = l := by rw [hR2.cl, hs3.cL (by decide) (by decide) (by decide), hl']
            have e41 : S2.1 41 = S.1 41 := hs3.1 41 (by decide)
            refine inX11_split (fun P2 h90 => m_any1 ht (sgX11_split_4 (h_b1 (m_within1 (n := 5) (by decide) hp (sgX11_split_13 (h_b1 (m_within1 (n := 1) (by decide) hj (sgX11_split_22 (h_b1 (m_cases hR2.mb ht (sgX11_split_30 ?_)))))))))))
            unfold fmX11_split_30
            rw [hm2]
            refine ⟨fun z => absurd z (nI_ne0 hl (by omega)), fun _ => m_counts hR2.mb (by rw [e41]; exact hcut.2.1) ht (fun S3 hb3 => sgX11_split_42 ?_)⟩
            rw [hm2] at hb3
            have e41' : S3.1 41 = S.1 41 := by rw [hb3.1.1 41 (by decide), e41]
            have hz3 := hBi_R (K := (hCs (S.1 41) 100).length + 1) hb3.2.2 (by have := hcut.2.1; omega)
            rw [e41] at hz3
            have hR3 := hR2.fr (hb3.1.wk (by decide)) hb3.2.1.1 hb3.2.1.2.1
            exact m_splitGo hj hp (by rw [e41']) hb3.2.1.2.2.1 hb3.2.1.2.2.2 hz3 hok P2 h90 (fun S4 hs4 e4 => h2 _ (hR3.fr (hs4.wk (by decide)) (by rw [e4]) (by rw [e4])))
          refine ⟨fun z => ?_, fun z => ?_⟩
          · have ep : p = 5 := (nI_eq (b := 5) (by omega) (by decide)).mp z
            refine s_joinParts e5 e2 e3 hz hok (fun S2 hs2 e12 hf => sgX10_split_44 (fin S2 hs2 e12 ?_))
            rw [if_pos ep]
            exact hf
          · have ep : ¬ p = 5 := fun e => z (by rw [e]; rfl)
            refine s_findPart7 e5 e2 e3 hz hok (show p < 5 by omega) (fun S2 hs2 e12 _ hf => fin S2 (hs2.wk (by decide)) e12 ?_)
            rw [if_neg ep]
            exact hf
end PSPLIT
