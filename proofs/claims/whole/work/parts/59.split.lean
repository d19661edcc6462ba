/-! the parts of the squared miss, over bins: B 0 counts, B 1 yes, B 2 sums, B 3 sums of squares, B 4 sums where yes -/
def zT (B : Nat → Nat → Nat) (n Y p k : Nat) : Int := if p = 1 then ((B 1 k : Int) * n - (Y : Int) * B 0 k) * ((B 1 k : Int) * n - (Y : Int) * B 0 k) else if p = 2 then ((B 2 k : Int) - 100 * B 1 k) * ((B 2 k : Int) - 100 * B 1 k) else if p = 3 then (B 0 k : Int) * B 3 k - (B 2 k : Int) * B 2 k else 2 * ((B 0 k : Int) * B 4 k - (B 2 k : Int) * B 1 k)
def zM (n p : Nat) : Nat := if p = 1 then n * n * n else if p = 4 then 100 * n else 10000 * n
def zb (n p : Nat) : Nat := if p = 1 then n * n else if p = 4 then 200 else 10000
def zOk (B : Nat → Nat → Nat) (n Y K : Nat) : Prop := (∀ k, k < K → B 1 k ≤ B 0 k ∧ B 2 k ≤ 100 * B 0 k ∧ B 3 k ≤ 10000 * B 0 k ∧ B 4 k ≤ 100 * B 0 k) ∧ hSu (B 0) K = n ∧ hSu (B 1) K = Y ∧ 0 < n ∧ n ≤ 40 ∧ K ≤ 10
def zR (r0 r1 r2 r3 r4 : Nat → Int32) (B : Nat → Nat → Nat) (K : Nat) : Prop := ∀ k, k < K → r0 k = nI (B 0 k) ∧ (0 < B 0 k → r1 k = nI (B 1 k) ∧ r2 k = nI (B 2 k) ∧ r3 k = nI (B 3 k) ∧ r4 k = nI (B 4 k))
/-- a part's value -/
def zV (B : Nat → Nat → Nat) (n Y K p : Nat) : Rat := if p = 0 then mkRat ((Y : Int) * ((n : Int) - Y)) (n * n) else hQ (zT B n Y p) (B 0) K / ((zM n p : Nat) : Rat)
theorem hSu_le {c e : Nat → Nat} : ∀ K, (∀ k, k < K → c k ≤ e k) → hSu c K ≤ hSu e K := by
  intro K
  induction K with
  | zero => intro _; exact Nat.le_refl _
  | succ K ih =>
    intro h
    have h1 := ih (fun k hk => h k (by omega))
    have h2 := h K (by omega)
    simp only [hSu]
    omega
theorem hSu_mono {c : Nat → Nat} {j K : Nat} (h : j ≤ K) : hSu c j ≤ hSu c K := by
  have : ∀ d, hSu c j ≤ hSu c (j + d) := by
    intro d
    induction d with
    | zero => exact Nat.le_refl _
    | succ d ih =>
      have e : hSu c (j + (d + 1)) = hSu c (j + d) + c (j + d) := rfl
      omega
  have := this (K - j)
  rw [show j + (K - j) = K by omega] at this
  exact this
theorem zOk_Y {B : Nat → Nat → Nat} {n Y K : Nat} (h : zOk B n Y K) : Y ≤ n := by
  rw [← h.2.1, ← h.2.2.1]
  exact hSu_le K (fun k hk => (h.1 k hk).1)
theorem zOk_c {B : Nat → Nat → Nat} {n Y K k : Nat} (h : zOk B n Y K) (hk : k < K) : B 0 k ≤ n := by
  rw [← h.2.1]
  exact hSu_mem K hk
theorem h_dif {a b N : Nat} (ha : a ≤ N) (hb : b ≤ N) : ((a : Int) - b).natAbs ≤ N := by omega
theorem zT_le {B : Nat → Nat → Nat} {n Y K k : Nat} (h : zOk B n Y K) (hk : k < K) (p : Nat) : (zT B n Y p k).natAbs ≤ zb n p * B 0 k * B 0 k := by
  obtain ⟨h1, h2, h3, h4⟩ := h.1 k hk
  have hY := zOk_Y h
  unfold zT zb
  by_cases e1 : p = 1
  · rw [if_pos e1, if_pos e1, Int.natAbs_mul]
    have a1 : (((B 1 k : Int)) * n - (Y : Int) * B 0 k).natAbs ≤ n * B 0 k := by
      rw [← Int.natCast_mul, ← Int.natCast_mul]
      refine h_dif ?_ (Nat.mul_le_mul_right _ hY)
      rw [Nat.mul_comm]
      exact Nat.mul_le_mul_left n h1
    have := Nat.mul_le_mul a1 a1
    rw [show n * B 0 k * (n * B 0 k) = n * n * B 0 k * B 0 k by simp only [Nat.mul_assoc, Nat.mul_left_comm]] at this
    exact this
  · rw [if_neg e1, if_neg e1]
    by_cases e2 : p = 2
    · rw [if_pos e2, if_neg (by omega), Int.natAbs_mul]
      have a1 : ((B 2 k : Int) - 100 * B 1 k).natAbs ≤ 100 * B 0 k := by omega
      have := Nat.mul_le_mul a1 a1
      rw [show 100 * B 0 k * (100 * B 0 k) = 10000 * B 0 k * B 0 k by rw [Nat.mul_mul_mul_comm, Nat.mul_assoc 10000]] at this
      exact this
    · rw [if_neg e2]
      by_cases e3 : p = 3
      · rw [if_pos e3, if_neg (by omega), ← Int.natCast_mul, ← Int.natCast_mul]
        refine h_dif ?_ ?_
        · rw [Nat.mul_comm]
          exact Nat.mul_le_mul_right _ h3
        · have := Nat.mul_le_mul h2 h2
          rw [show 100 * B 0 k * (100 * B 0 k) = 10000 * B 0 k * B 0 k by rw [Nat.mul_mul_mul_comm, Nat.mul_assoc 10000]] at this
          exact this
      · rw [if_neg e3, Int.natAbs_mul, ← Int.natCast_mul, ← Int.natCast_mul]
        have a1 : ((B 0 k * B 4 k : Nat) : Int) - ((B 2 k * B 1 k : Nat) : Int) |>.natAbs |>.le (100 * B 0 k * B 0 k) := by
          refine h_dif ?_ (Nat.mul_le_mul h2 h1)
          rw [Nat.mul_comm]
          exact Nat.mul_le_mul_right _ h4
        have a2 := Nat.mul_le_mul_left 2 a1
        have a3 : 2 * (100 * B 0 k * B 0 k) = 200 * B 0 k * B 0 k := by rw [← Nat.mul_assoc, ← Nat.mul_assoc]
        rw [a3] at a2
        refine Nat.le_trans a2 (Nat.mul_le_mul_right _ (Nat.mul_le_mul_right _ ?_))
        split <;> omega
theorem zM_b (n p : Nat) : zb n p * n ≤ 2 * zM n p := by
  unfold zb zM
  split
  · omega
  · split <;> omega
theorem zM_b1 {n p : Nat} (hp : p < 4) : zb n p * n ≤ 1 * zM n p := by
  unfold zb zM
  split
  · omega
  · rw [if_neg (by omega), if_neg (by omega), Nat.one_mul]
    exact Nat.le_refl _
theorem zM_pos {n p : Nat} (h : 0 < n) : 0 < zM n p := by
  unfold zM
  split
  · exact Nat.mul_pos (Nat.mul_pos h h) h
  · split <;> omega
theorem zM_le {n p : Nat} (h : n ≤ 40) : zM n p ≤ 400000 := by
  unfold zM
  split
  · have := Nat.mul_le_mul (Nat.mul_le_mul h h) h
    omega
  · split <;> omega
theorem rI_T {B : Nat → Nat → Nat} {n Y K : Nat} (h : zOk B n Y K) (p j : Nat) (hj : j ≤ K) : rI (hQ (zT B n Y p) (B 0) j) (hPi (B 0) K) (zb n p * n) := by
  refine rI_wk (rI_Q (b := zb n p) (fun k hk => zT_le h hk p) j hj) (Nat.dvd_refl _) (hPi_pos _ _) (Nat.mul_le_mul_left _ ?_)
  have := hSu_mono (c := B 0) hj
  rw [h.2.1] at this
  exact this
theorem h_i100 : (100 : Int64) = lI 100 := rfl
theorem h_i2 : (2 : Int64) = lI 2 := rfl
section ZCLASS
variable {q : tc_Q} {S : tc_S} {B : Nat → Nat → Nat} {n Y K k p : Nat}
theorem s_scale (hp : 1 ≤ p) (hp5 : p < 5) (h : q (some (tc_J (lN (zM n p)))) S) : RX0_scaleOf [tc_I (nI p), tc_J (lN n)] S q := by
  refine inX0_scaleOf (fun P => ?_)
  unfold zM at h
  rcases (show p = 1 ∨ p = 2 ∨ p = 3 ∨ p = 4 by omega) with rfl | rfl | rfl | rfl
  · refine ⟨fun _ => ?_, fun z => absurd rfl z⟩
    rw [lN_mul, lN_mul]
    exact h
  · refine ⟨fun z => absurd z (by decide), fun _ => ⟨fun z => absurd z (by decide), fun _ => ?_⟩⟩
    rw [show (10000 : Int64) = lN 10000 from rfl, lN_mul]
    exact h
  · refine ⟨fun z => absurd z (by decide), fun _ => ⟨fun z => absurd z (by decide), fun _ => ?_⟩⟩
    rw [show (10000 : Int64) = lN 10000 from rfl, lN_mul]
    exact h
  · refine ⟨fun z => absurd z (by decide), fun _ => ⟨fun _ => ?_, fun z => absurd rfl z⟩⟩
    rw [show (100 : Int64) = lN 100 from rfl, lN_mul]
    exact h
theorem zR_b {r0 r1 r2 r3 r4 : Nat → Int32} (hz : zR r0 r1 r2 r3 r4 B K) (hok : zOk B n Y K) (hk : k < K) (hc0 : 0 < B 0 k) : (r0 k).toInt64 = lI (B 0 k) ∧ (r1 k).toInt64 = lI (B 1 k) ∧ (r2 k).toInt64 = lI (B 2 k) ∧ (r3 k).toInt64 = lI (B 3 k) ∧ (r4 k).toInt64 = lI (B 4 k) := by
  obtain ⟨z0, zz⟩ := hz k hk
  obtain ⟨z1, z2, z3, z4⟩ := zz hc0
  obtain ⟨h1, h2, h3, h4⟩ := hok.1 k hk
  have h5 := zOk_c hok hk
  have h6 := hok.2.2.2.2.1
  rw [z0, z1, z2, z3, z4, nI_l (by omega), nI_l (by omega), nI_l (by omega), nI_l (by omega), nI_l (by omega), lN_lI, lN_lI, lN_lI, lN_lI, lN_lI]
  exact ⟨rfl, rfl, rfl, rfl, rfl⟩
theorem s_binTerm (hz : zR (S.1 22) (S.1 23) (S.1 24) (S.1 25) (S.1 26) B K) (hok : zOk B n Y K) (hk : k < K) (hc0 : 0 < B 0 k) (hp : 1 ≤ p) (hp5 : p < 5) (h : q (some (tc_J (lI (zT B n Y p k)))) S) : RX0_binTerm [tc_R 0 5, tc_I (nI p), tc_I (nI k), tc_J (lN n), tc_J (lN Y)] S q := by
  obtain ⟨e0, e1, e2, e3, e4⟩ := zR_b hz hok hk hc0
  have h10 := hok.2.2.2.2.2
  have hin : vp_in (nI k) 10 := vp_in_nI (by omega) (by decide)
  refine inX0_binTerm (fun P => ?_)
  unfold fmX0_binTerm_0
  rw [nI_clamp (by omega), e0, e1, e2, e3, e4, lN_lI n, lN_lI Y, h_i100, h_i2]
  simp only [lI_mul, lI_sub]
  refine ⟨hin, hin, hin, ?_⟩
  unfold zT at h
  rcases (show p = 1 ∨ p = 2 ∨ p = 3 ∨ p = 4 by omega) with rfl | rfl | rfl | rfl
  · refine ⟨fun _ => inX0_squared (fun P2 => sgX0_binTerm_45 ?_), fun z => absurd rfl z⟩
    unfold fmX0_binTerm_45
    rw [lI_mul]
    exact h
  · refine ⟨fun z => absurd z (by decide), fun _ => ⟨fun _ => inX0_squared (fun P2 => sgX0_binTerm_63 ?_), fun z => absurd rfl z⟩⟩
    unfold fmX0_binTerm_63
    rw [lI_mul]
    exact h
  · exact ⟨fun z => absurd z (by decide), fun _ => ⟨fun z => absurd z (by decide), fun _ => ⟨fun _ => ⟨hin, h⟩, fun z => absurd rfl z⟩⟩⟩
  · exact ⟨fun z => absurd z (by decide), fun _ => ⟨fun z => absurd z (by decide), fun _ => ⟨fun z => absurd z (by decide), fun _ => ⟨hin, h⟩⟩⟩⟩
theorem s_findPart7 {C : Nat} (h5 : S.1 5 1 = nI C) (h42 : S.1 4 2 = nI n) (h43 : S.1 4 3 = nI Y) (hz : zR (S.1 22) (S.1 23) (S.1 24) (S.1 25) (S.1 26) B (C + 1)) (hok : zOk B n Y (C + 1)) (hp5 : p < 5) (h : ∀ S', hS [7] S S' → S'.1 = S.1 → S'.2.1 8 = S.2.1 8 → hF7 S' (zV B n Y (C + 1) p) → q none S') : RX0_findPart [tc_R 0 5, tc_I (nI p), tc_R 0 4, tc_R 0 7] S q := by
  have hY := zOk_Y hok
  have hC : C ≤ 9 := by have := hok.2.2.2.2.2; omega
  have hn0 := hok.2.2.2.1
  have hn := hok.2.2.2.2.1
  have hsum : hSu (B 0) (C + 1) ≤ 40 := by rw [hok.2.1]; exact hn
  have hPl := hPi_lt hsum
  have hP0 := hPi_pos (B 0) (C + 1)
  refine inX0_findPart (fun P h45 h87 => ?_)
  unfold fmX0_findPart_0
  rw [h42, h43, nI_l (by omega), nI_l (by omega)]
  refine ⟨fun z => ?_, fun z => ?_⟩
  · have e : p = 0 := (nI_eq (by omega) (by decide)).mp z
    rw [lN_mul, lN_lI Y, lN_lI n, lI_sub, lI_mul, ← lN_lI n]
    have hnn : 0 < n * n := Nat.mul_pos hn0 hn0
    have hnn2 : n * n ≤ 40 * 40 := Nat.mul_le_mul hn hn
    refine s_become7 ?_ hnn (by omega) (sgX0_findPart_35 (h _ (hP7_s _ _) rfl (h_ul (by decide)) ?_))
    · rw [Int.natAbs_mul]
      have := Nat.mul_le_mul (show (Y : Int).natAbs ≤ 40 by omega) (show ((n : Int) - Y).natAbs ≤ 40 by omega)
      omega
    · unfold zV
      rw [if_pos e]
      exact hF7_put _ _
  · have hp : 1 ≤ p := by
      rcases Nat.eq_zero_or_pos p with g | g
      · exact absurd (by rw [g]; rfl) z
      · exact g
    have hM := zM_le (p := p) hn
    have hb2 := zM_b n p
    have loop : ∀ d k S', k + d = C + 1 → hS [7] S S' → S'.1 = S.1 → S'.2.1 8 = S.2.1 8 → hF7 S' (hQ (zT B n Y p) (B 0) k) → P 45 [(0, tc_R 0 5), (1, tc_I (nI p)), (3, tc_R 0 7), (4, tc_J (lN n)), (6, tc_J (lN Y)), (8, tc_I (nI k))] [] S' := by
      intro d
      induction d with
      | zero =>
        intro k S' hk hs h1 hO hf
        have e : k = C + 1 := by omega
        subst e
        refine h45 _ _ _ _ _ ?_
        unfold fmX0_findPart_45
        rw [h1, h5]
        refine ⟨fun _ => s_scale hp hp5 (sgX0_findPart_100 (s_divI7 hf (rI_T hok p (C + 1) (Nat.le_refl _)) hP0 (zM_pos hn0) ?_ ?_ (sgX0_findPart_103 (h _ (hs.tr (hP7_s _ _) (by decide) (by decide)) h1 ((h_ul (by decide)).trans hO) ?_)))), fun z => absurd (nI_lt (show C < C + 1 by omega) (by omega)) z⟩
        · have := Nat.mul_le_mul (show hPi (B 0) (C + 1) ≤ 2300000 by omega) hM
          omega
        · have := Nat.mul_le_mul (show zb n p * n ≤ 800000 by omega) (show hPi (B 0) (C + 1) ≤ 2300000 by omega)
          omega
        · unfold zV
          rw [if_neg (by omega)]
          exact hF7_put _ _
      | succ d ih =>
        intro k S' hk hs h1 hO hf
        have hkK : k < C + 1 := by omega
        have hck := zOk_c hok hkK
        have e0 := (hz k hkK).1
        have hin : vp_in (nI k) 10 := vp_in_nI (by omega) (by decide)
        have go : ∀ S2, hS [7] S S2 → S2.1 = S.1 → S2.2.1 8 = S.2.1 8 → hF7 S2 (hQ (zT B n Y p) (B 0) (k + 1)) → P 87 [(0, tc_R 0 5), (1, tc_I (nI p)), (3, tc_R 0 7), (4, tc_J (lN n)), (6, tc_J (lN Y)), (8, tc_I (nI k))] [] S2 := by
          intro S2 hs2 h2 hO2 hf2
          have := ih (k + 1) S2 (by omega) hs2 h2 hO2 hf2
          rw [nI_succ k] at this
          exact h87 _ _ _ _ _ this
        have hpos : ¬ nI (B 0 k) ≤ 0 → 0 < B 0 k := by
          intro z
          rcases Nat.eq_zero_or_pos (B 0 k) with g | g
          · exact absurd (by rw [g]; exact nI_le (Nat.le_refl 0) (by decide)) z
          · exact g
        refine h45 _ _ _ _ _ ?_
        unfold fmX0_findPart_45
        rw [h1, h5, nI_clamp (by omega), e0]
        refine ⟨fun z => absurd z (nI_nlt (show k ≤ C by omega) (by omega)), fun _ => ⟨hin, fun z => go S' hs h1 hO ?_, fun z => s_binTerm (by rw [h1]; exact hz) hok hkK (hpos z) hp hp5 (sgX0_findPart_76 ?_)⟩⟩
        · have g := (nI_leI (b := 0) (by omega) (by decide)).mp z
          simp only [hQ]
          rw [show B 0 k = 0 by omega, Rat.mkRat_zero, Rat.add_zero]
          exact hf
        · have hc0 := hpos z
          unfold fmX0_findPart_76
          rw [h1, nI_clamp (by omega), e0, nI_l (by omega)]
          refine ⟨hin, s_addI7 hf (rI_T hok p k (by omega)) (hPi_dvd (c := B 0) (k := k) (C + 1) hkK hc0) hP0 (by omega) (zT_le hok hkK p) ?_ (fun _ => ?_)⟩
          · have a1 := Nat.mul_le_mul_left (zb n p) hck
            have := Nat.mul_le_mul (show zb n p * n + zb n p * B 0 k ≤ 1600000 by omega) (show hPi (B 0) (C + 1) ≤ 2300000 by omega)
            omega
          · exact go _ (hs.tr (hP7_s _ _) (by decide) (by decide)) h1 ((h_ul (by decide)).trans hO) (hF7_put _ _)
    refine s_become7 (u := 0) (d := 1) (by decide) (by decide) (by decide) (sgX0_findPart_42 (loop (C + 1) 0 _ (by omega) (hP7_s _ _) rfl (h_ul (by decide)) ?_))
    have := hF7_put S (mkRat 0 1)
    rw [Rat.zero_mkRat] at this ⊢
    exact this
theorem s_findPart8 {C : Nat} (h5 : S.1 5 1 = nI C) (h42 : S.1 4 2 = nI n) (h43 : S.1 4 3 = nI Y) (hz : zR (S.1 22) (S.1 23) (S.1 24) (S.1 25) (S.1 26) B (C + 1)) (hok : zOk B n Y (C + 1)) (hp5 : p < 5) (h : ∀ S', hS [8] S S' → S'.1 = S.1 → S'.2.1 7 = S.2.1 7 → hF8 S' (zV B n Y (C + 1) p) → q none S') : RX0_findPart [tc_R 0 5, tc_I (nI p), tc_R 0 4, tc_R 0 8] S q := by
  have hY := zOk_Y hok
  have hC : C ≤ 9 := by have := hok.2.2.2.2.2; omega
  have hn0 := hok.2.2.2.1
  have hn := hok.2.2.2.2.1
  have hsum : hSu (B 0) (C + 1) ≤ 40 := by rw [hok.2.1]; exact hn
  have hPl := hPi_lt hsum
  have hP0 := hPi_pos (B 0) (C + 1)
  refine inX0_findPart_b (fun P h45 h87 => ?_)
  unfold fmX0_findPart_0_b
  rw [h42, h43, nI_l (by omega), nI_l (by omega)]
  refine ⟨fun z => ?_, fun z => ?_⟩
  · have e : p = 0 := (nI_eq (by omega) (by decide)).mp z
    rw [lN_mul, lN_lI Y, lN_lI n, lI_sub, lI_mul, ← lN_lI n]
    have hnn : 0 < n * n := Nat.mul_pos hn0 hn0
    have hnn2 : n * n ≤ 40 * 40 := Nat.mul_le_mul hn hn
    refine s_become8 ?_ hnn (by omega) (sgX0_findPart_35_b (h _ (hP8_s _ _) rfl (h_ul (by decide)) ?_))
    · rw [Int.natAbs_mul]
      have := Nat.mul_le_mul (show (Y : Int).natAbs ≤ 40 by omega) (show ((n : Int) - Y).natAbs ≤ 40 by omega)
      omega
    · unfold zV
      rw [if_pos e]
      exact hF8_put _ _
  · have hp : 1 ≤ p := by
      rcases Nat.eq_zero_or_pos p with g | g
      · exact absurd (by rw [g]; rfl) z
      · exact g
    have hM := zM_le (p := p) hn
    have hb2 := zM_b n p
    have loop : ∀ d k S', k + d = C + 1 → hS [8] S S' → S'.1 = S.1 → S'.2.1 7 = S.2.1 7 → hF8 S' (hQ (zT B n Y p) (B 0) k) → P 45 [(0, tc_R 0 5), (1, tc_I (nI p)), (3, tc_R 0 8), (4, tc_J (lN n)), (6, tc_J (lN Y)), (8, tc_I (nI k))] [] S' := by
      intro d
      induction d with
      | zero =>
        intro k S' hk hs h1 hO hf
        have e : k = C + 1 := by omega
        subst e
        refine h45 _ _ _ _ _ ?_
        unfold fmX0_findPart_45_b
        rw [h1, h5]
        refine ⟨fun _ => s_scale hp hp5 (sgX0_findPart_100_b (s_divI8 hf (rI_T hok p (C + 1) (Nat.le_refl _)) hP0 (zM_pos hn0) ?_ ?_ (sgX0_findPart_103_b (h _ (hs.tr (hP8_s _ _) (by decide) (by decide)) h1 ((h_ul (by decide)).trans hO) ?_)))), fun z => absurd (nI_lt (show C < C + 1 by omega) (by omega)) z⟩
        · have := Nat.mul_le_mul (show hPi (B 0) (C + 1) ≤ 2300000 by omega) hM
          omega
        · have := Nat.mul_le_mul (show zb n p * n ≤ 800000 by omega) (show hPi (B 0) (C + 1) ≤ 2300000 by omega)
          omega
        · unfold zV
          rw [if_neg (by omega)]
          exact hF8_put _ _
      | succ d ih =>
        intro k S' hk hs h1 hO hf
        have hkK : k < C + 1 := by omega
        have hck := zOk_c hok hkK
        have e0 := (hz k hkK).1
        have hin : vp_in (nI k) 10 := vp_in_nI (by omega) (by decide)
        have go : ∀ S2, hS [8] S S2 → S2.1 = S.1 → S2.2.1 7 = S.2.1 7 → hF8 S2 (hQ (zT B n Y p) (B 0) (k + 1)) → P 87 [(0, tc_R 0 5), (1, tc_I (nI p)), (3, tc_R 0 8), (4, tc_J (lN n)), (6, tc_J (lN Y)), (8, tc_I (nI k))] [] S2 := by
          intro S2 hs2 h2 hO2 hf2
          have := ih (k + 1) S2 (by omega) hs2 h2 hO2 hf2
          rw [nI_succ k] at this
          exact h87 _ _ _ _ _ this
        have hpos : ¬ nI (B 0 k) ≤ 0 → 0 < B 0 k := by
          intro z
          rcases Nat.eq_zero_or_pos (B 0 k) with g | g
          · exact absurd (by rw [g]; exact nI_le (Nat.le_refl 0) (by decide)) z
          · exact g
        refine h45 _ _ _ _ _ ?_
        unfold fmX0_findPart_45_b
        rw [h1, h5, nI_clamp (by omega), e0]
        refine ⟨fun z => absurd z (nI_nlt (show k ≤ C by omega) (by omega)), fun _ => ⟨hin, fun z => go S' hs h1 hO ?_, fun z => s_binTerm (by rw [h1]; exact hz) hok hkK (hpos z) hp hp5 (sgX0_findPart_76_b ?_)⟩⟩
        · have g := (nI_leI (b := 0) (by omega) (by decide)).mp z
          simp only [hQ]
          rw [show B 0 k = 0 by omega, Rat.mkRat_zero, Rat.add_zero]
          exact hf
        · have hc0 := hpos z
          unfold fmX0_findPart_76_b
          rw [h1, nI_clamp (by omega), e0, nI_l (by omega)]
          refine ⟨hin, s_addI8 hf (rI_T hok p k (by omega)) (hPi_dvd (c := B 0) (k := k) (C + 1) hkK hc0) hP0 (by omega) (zT_le hok hkK p) ?_ (fun _ => ?_)⟩
          · have a1 := Nat.mul_le_mul_left (zb n p) hck
            have := Nat.mul_le_mul (show zb n p * n + zb n p * B 0 k ≤ 1600000 by omega) (show hPi (B 0) (C + 1) ≤ 2300000 by omega)
            omega
          · exact go _ (hs.tr (hP8_s _ _) (by decide) (by decide)) h1 ((h_ul (by decide)).trans hO) (hF8_put _ _)
    refine s_become8 (u := 0) (d := 1) (by decide) (by decide) (by decide) (sgX0_findPart_42_b (loop (C + 1) 0 _ (by omega) (hP8_s _ _) rfl (h_ul (by decide)) ?_))
    have := hF8_put S (mkRat 0 1)
    rw [Rat.zero_mkRat] at this ⊢
    exact this
end ZCLASS
section ZMODEL
variable {q : tc_Q} {S : tc_S} {B : Nat → Nat → Nat} {n Y K k p : Nat}
theorem m_whole (h18 : S.1 34 18 = nI n) (hn : n ≤ 40) (hp : 1 ≤ p) (hp5 : p < 5) (h : q (some (tc_J (lN (zM n p)))) S) : RX11_wholeOf [tc_R 0 34, tc_I (nI p)] S q := by
  refine inX11_wholeOf (fun P => ?_)
  unfold zM at h
  unfold fmX11_wholeOf_0
  rw [h18, nI_l (by omega)]
  rcases (show p = 1 ∨ p = 2 ∨ p = 3 ∨ p = 4 by omega) with rfl | rfl | rfl | rfl
  · refine ⟨fun _ => ?_, fun z => absurd rfl z⟩
    rw [lN_mul, lN_mul]
    exact h
  · refine ⟨fun z => absurd z (by decide), fun _ => ⟨fun z => absurd z (by decide), fun _ => ?_⟩⟩
    rw [show (10000 : Int64) = lN 10000 from rfl, lN_mul]
    exact h
  · refine ⟨fun z => absurd z (by decide), fun _ => ⟨fun z => absurd z (by decide), fun _ => ?_⟩⟩
    rw [show (10000 : Int64) = lN 10000 from rfl, lN_mul]
    exact h
  · refine ⟨fun z => absurd z (by decide), fun _ => ⟨fun _ => ?_, fun z => absurd rfl z⟩⟩
    rw [show (100 : Int64) = lN 100 from rfl, lN_mul]
    exact h
theorem m_inBin (h18 : S.1 34 18 = nI n) (h19 : S.1 34 19 = nI Y) (hz : zR (S.1 42) (S.1 43) (S.1 44) (S.1 45) (S.1 46) B K) (hok : zOk B n Y K) (hk : k < K) (hc0 : 0 < B 0 k) (hp : 1 ≤ p) (hp5 : p < 5) (h : q (some (tc_J (lI (zT B n Y p k)))) S) : RX11_inBin [tc_R 0 34, tc_I (nI p), tc_I (nI k)] S q := by
  obtain ⟨e0, e1, e2, e3, e4⟩ := zR_b hz hok hk hc0
  have h10 := hok.2.2.2.2.2
  have hY := zOk_Y hok
  have hn := hok.2.2.2.2.1
  have hin : vp_in (nI k) 10 := vp_in_nI (by omega) (by decide)
  refine inX11_inBin (fun P h59 => ?_)
  unfold fmX11_inBin_0
  rw [nI_clamp (by omega), e0, e1, e2, h18, h19, nI_l (by omega), nI_l (by omega), lN_lI n, lN_lI Y, h_i100]
  simp only [lI_mul, lI_sub]
  refine ⟨hin, hin, hin, ?_⟩
  unfold zT at h
  rcases (show p = 1 ∨ p = 2 ∨ p = 3 ∨ p = 4 by omega) with rfl | rfl | rfl | rfl
  · refine ⟨fun _ => h59 _ _ _ _ _ _ _ ⟨fun z => ?_, fun _ => ?_, fun z => absurd z (by decide), fun z => absurd z (by decide), trivial⟩, fun z => absurd rfl z⟩
    · rcases z with z | z
      · exact absurd z (by decide)
      · exact absurd z (by decide)
    · rw [lI_mul]
      exact h
  · refine ⟨fun z => absurd z (by decide), fun _ => h59 _ _ _ _ _ _ _ ⟨fun z => ?_, fun z => absurd z (by decide), fun _ => ?_, fun z => absurd z (by decide), trivial⟩⟩
    · rcases z with z | z
      · exact absurd z (by decide)
      · exact absurd z (by decide)
    · rw [lI_mul]
      exact h
  · refine ⟨fun z => absurd z (by decide), fun _ => h59 _ _ _ _ _ _ _ ⟨fun z => ?_, fun z => absurd z (by decide), fun z => absurd z (by decide), fun _ => ⟨hin, ?_⟩, trivial⟩⟩
    · rcases z with z | z
      · exact absurd z (by decide)
      · exact absurd z (by decide)
    · rw [nI_clamp (by omega), e3, lI_mul, lI_mul, lI_sub]
      exact h
  · refine ⟨fun z => absurd z (by decide), fun _ => h59 _ _ _ _ _ _ _ ⟨fun _ => ⟨hin, ?_⟩, fun z => absurd z (by decide), fun z => absurd z (by decide), fun z => absurd z (by decide), trivial⟩⟩
    rw [nI_clamp (by omega), e4, lI_mul, lI_mul, lI_sub, h_i2, lI_mul]
    exact h
/-- a part, from 1 on, is added with a sign; what goes on over the bins is told from outside -/
theorem m_addPart {x2 : Int32} {g : Int} {r : Rat} (hx : x2.toInt64 = lI g) (hK : K = (hCs (S.1 41) 100).length + 1) (h18 : S.1 34 18 = nI n) (h19 : S.1 34 19 = nI Y) (hz : zR (S.1 42) (S.1 43) (S.1 44) (S.1 45) (S.1 46) B K) (hok : zOk B n Y K) (hp : 1 ≤ p) (hp5 : p < 5) (hr : mF S r) (hb : ∀ k, k < K → 0 < B 0 k → ∃ D A b, 0 < D ∧ rI (r + hQ (fun k => g * zT B n Y p k) (fun k => B 0 k * zM n p) k) D A ∧ (g * zT B n Y p k).natAbs ≤ b * (B 0 k * zM n p) ∧ 0 < A + b ∧ (A + b) * (D * (B 0 k * zM n p)) < 2 ^ 63) (h : ∀ S', hS [34] S S' → S'.1 = S.1 → mF S' (r + hQ (fun k => g * zT B n Y p k) (fun k => B 0 k * zM n p) K) → q none S') : RX11_addPart [tc_R 0 34, tc_I (nI p), tc_I x2] S q := by
  have h10 := hok.2.2.2.2.2
  have hn := hok.2.2.2.2.1
  have hn0 := hok.2.2.2.1
  refine inX11_addPart (fun P h37 h84 => ⟨fun z => absurd ((nI_eq (b := 0) (by omega) (by decide)).mp z) (by omega), fun _ => ?_⟩)
  have loop : ∀ d k S', k + d = K → hS [34] S S' → S'.1 = S.1 → mF S' (r + hQ (fun k => g * zT B n Y p k) (fun k => B 0 k * zM n p) k) → P 37 [(0, tc_R 0 34), (1, tc_I (nI p)), (2, tc_I x2), (5, tc_I (nI k))] [] S' := by
    intro d
    induction d with
    | zero =>
      intro k S' hk hs h1 hf
      have e : k = K := by omega
      subst e
      refine h37 _ _ _ _ (m_cuts (sgX11_addPart_43 ?_))
      rw [h1]
      exact ⟨fun _ => h S' hs h1 hf, fun z => absurd (nI_lt (by omega) (by omega)) z⟩
    | succ d ih =>
      intro k S' hk hs h1 hf
      have hkK : k < K := by omega
      have hck := zOk_c hok hkK
      have e0 := (hz k hkK).1
      have hin : vp_in (nI k) 10 := vp_in_nI (by omega) (by decide)
      have go : ∀ S2, hS [34] S S2 → S2.1 = S.1 → mF S2 (r + hQ (fun k => g * zT B n Y p k) (fun k => B 0 k * zM n p) (k + 1)) → P 84 [(0, tc_R 0 34), (1, tc_I (nI p)), (2, tc_I x2), (5, tc_I (nI k))] [] S2 := by
        intro S2 hs2 h2 hf2
        have := ih (k + 1) S2 (by omega) hs2 h2 hf2
        rw [nI_succ k] at this
        exact h84 _ _ _ _ this
      have hpos : ¬ nI (B 0 k) ≤ 0 → 0 < B 0 k := by
        intro z
        rcases Nat.eq_zero_or_pos (B 0 k) with g | g
        · exact absurd (by rw [g]; exact nI_le (Nat.le_refl 0) (by decide)) z
        · exact g
      refine h37 _ _ _ _ (m_cuts (sgX11_addPart_43 ?_))
      unfold fmX11_addPart_43
      rw [h1, nI_clamp (by omega), e0]
      refine ⟨fun z => absurd z (nI_nlt (by omega) (by omega)), fun _ => ⟨hin, fun z => go S' hs h1 ?_, fun z => m_inBin (by rw [h1]; exact h18) (by rw [h1]; exact h19) (by rw [h1]; exact hz) hok hkK (hpos z) hp hp5 (sgX11_addPart_66 ?_)⟩⟩
      · have g0 := (nI_leI (b := 0) (by omega) (by decide)).mp z
        simp only [hQ]
        rw [show B 0 k = 0 by omega, Nat.zero_mul, Rat.mkRat_zero, Rat.add_zero]
        exact hf
      · have hc0 := hpos z
        obtain ⟨D, A, b, hD0, hi, hu, hAb, hB⟩ := hb k hkK hc0
        unfold fmX11_addPart_66
        rw [h1, nI_clamp (by omega), e0, nI_l (by omega), hx, lI_mul]
        refine ⟨hin, m_whole (by rw [h1]; exact h18) hn hp hp5 (sgX11_addPart_80 ?_)⟩
        unfold fmX11_addPart_80
        rw [lN_mul]
        refine m_addsI hf hi hD0 (Nat.mul_pos hc0 (zM_pos hn0)) hu hAb hB ?_
        refine go _ (hs.tr (mP_s _ _) (by decide) (by decide)) h1 ?_
        simp only [hQ]
        rw [← Rat.add_assoc]
        exact mF_put _ _
  refine loop K 0 S (by omega) (hS.rf _ _) rfl ?_
  simp only [hQ]
  rw [Rat.add_zero]
  exact hr
theorem m_addDoubt {r : Rat} (h18 : S.1 34 18 = nI n) (h19 : S.1 34 19 = nI Y) (hn : n ≤ 40) (hn0 : 0 < n) (hY : Y ≤ n) (hr : mF S 0) (h : ∀ S', hS [34] S S' → S'.1 = S.1 → mF S' (mkRat ((Y : Int) * ((n : Int) - Y)) (n * n)) → q none S') : RX11_addPart [tc_R 0 34, tc_I 0, tc_I 1] S q := by
  refine inX11_addPart (fun P h37 h84 => ⟨fun _ => ?_, fun z => absurd rfl z⟩)
  rw [h18, h19, nI_l (by omega), nI_l (by omega), lN_mul, lN_lI Y, lN_lI n, lI_sub, show (1 : Int32).toInt64 = lI 1 from rfl, lI_mul, lI_mul, Int.one_mul, ← lN_lI n]
  have hnn : 0 < n * n := Nat.mul_pos hn0 hn0
  have hnn2 : n * n ≤ 40 * 40 := Nat.mul_le_mul hn hn
  refine m_addsI (D := 1) (A := 0) (B := 1) hr (rI_0 1) (by decide) hnn ?_ (by decide) (by omega) (sgX11_addPart_33 (h _ (mP_s _ _) rfl ?_))
  · rw [Int.natAbs_mul, Nat.one_mul]
    exact Nat.mul_le_mul (by omega) (by omega)
  · have := mF_put S (0 + mkRat ((Y : Int) * ((n : Int) - Y)) (n * n))
    rw [Rat.zero_add] at this ⊢
    exact this
end ZMODEL
