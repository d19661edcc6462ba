/-! sums of fractions over one lower number -/
def rI (r : Rat) (D B : Nat) : Prop := ∃ N : Int, r = mkRat N D ∧ N.natAbs ≤ B * D
theorem h_mkmul {N : Int} {D : Nat} (hD : 0 < D) : mkRat N D * (D : Rat) = (N : Rat) := by
  have hd0 : (D : Rat) ≠ 0 := by
    intro z
    have := Rat.natCast_eq_zero_iff.mp z
    omega
  rw [Rat.mkRat_eq_div]
  exact Rat.div_mul_cancel hd0
theorem h_mkdiv (N : Int) (D m : Nat) : mkRat N (D * m) = mkRat N D / (m : Rat) := by
  rw [Rat.mkRat_eq_div, Rat.mkRat_eq_div, Rat.natCast_mul, Rat.div_def, Rat.div_def, Rat.div_def, Rat.inv_mul_rev, Rat.mul_assoc, Rat.mul_comm (m : Rat)⁻¹]
theorem h_mkadd (a b : Int) {D : Nat} (hD : 0 < D) : mkRat a D + mkRat b D = mkRat (a + b) D := by
  rw [Rat.mkRat_add_mkRat _ _ (by omega) (by omega), ← Int.add_mul, Rat.mkRat_mul_right (by omega)]
theorem rI_mk {u : Int} {d D B : Nat} (hd : d ∣ D) (hD : 0 < D) (h : u.natAbs ≤ B * d) : rI (mkRat u d) D B := by
  obtain ⟨c, rfl⟩ := hd
  have hc : c ≠ 0 := by
    intro z
    rw [z] at hD
    simp at hD
  refine ⟨u * c, (Rat.mkRat_mul_right hc).symm, ?_⟩
  rw [Int.natAbs_mul, Int.natAbs_natCast, ← Nat.mul_assoc]
  exact Nat.mul_le_mul_right c h
theorem rI_0 (D : Nat) : rI 0 D 0 := ⟨0, by simp, by simp⟩
theorem rI_add {r s : Rat} {D A B : Nat} (hD : 0 < D) (h1 : rI r D A) (h2 : rI s D B) : rI (r + s) D (A + B) := by
  obtain ⟨N, rfl, hN⟩ := h1
  obtain ⟨M, rfl, hM⟩ := h2
  refine ⟨N + M, h_mkadd N M hD, ?_⟩
  rw [Nat.add_mul]
  omega
theorem rI_neg {r : Rat} {D B : Nat} (h : rI r D B) : rI (-r) D B := by
  obtain ⟨N, rfl, hN⟩ := h
  exact ⟨-N, Rat.neg_mkRat N D, by omega⟩
theorem rI_wk {r : Rat} {D E A B : Nat} (h : rI r D A) (hd : D ∣ E) (hE : 0 < E) (hB : A ≤ B) : rI r E B := by
  obtain ⟨N, rfl, hN⟩ := h
  exact rI_mk hd hE (Nat.le_trans hN (Nat.mul_le_mul_right D hB))
theorem rI_div {r : Rat} {D A B m : Nat} (h : rI r D A) (hB : A ≤ B * m) : rI (r / (m : Rat)) (D * m) B := by
  obtain ⟨N, rfl, hN⟩ := h
  refine ⟨N, (h_mkdiv N D m).symm, ?_⟩
  have := Nat.mul_le_mul_right D hB
  rw [Nat.mul_assoc, Nat.mul_comm m D] at this
  omega
theorem rI_den {r : Rat} {D B : Nat} (h : rI r D B) (hD : 0 < D) : r.den ∣ D := by
  obtain ⟨N, rfl, hN⟩ := h
  rw [Rat.den_mkRat, if_neg (by omega)]
  exact Nat.div_dvd_of_dvd (Nat.gcd_dvd_left _ _)
theorem rI_le {r : Rat} {D B : Nat} (h : rI r D B) (hD : 0 < D) : r ≤ (B : Rat) ∧ -(B : Rat) ≤ r := by
  obtain ⟨N, rfl, hN⟩ := h
  have hd : (0 : Rat) < (D : Rat) := Rat.natCast_pos.mpr hD
  constructor
  · refine Rat.le_of_mul_le_mul_right (c := (D : Rat)) ?_ hd
    rw [h_mkmul hD]
    have : (N : Rat) ≤ (((B * D : Nat) : Int) : Rat) := Rat.intCast_le_intCast.mpr (by omega)
    rw [Rat.intCast_natCast, Rat.natCast_mul] at this
    exact this
  · refine Rat.le_of_mul_le_mul_right (c := (D : Rat)) ?_ hd
    rw [h_mkmul hD, Rat.neg_mul]
    have : ((-((B * D : Nat) : Int) : Int) : Rat) ≤ (N : Rat) := Rat.intCast_le_intCast.mpr (by omega)
    rw [Rat.intCast_neg, Rat.intCast_natCast, Rat.natCast_mul] at this
    exact this
theorem rI_num {r : Rat} {D B : Nat} (h : rI r D B) (hD : 0 < D) : r.num.natAbs ≤ B * r.den := by
  have h1 := rI_le h hD
  have e := Rat.mkRat_self r
  exact h_val r.den_pos (by rw [e]; exact h1.1) (by rw [e]; exact h1.2)
section RSUM
variable {q : tc_Q} {S : tc_S} {r : Rat} {u : Int} {d D A B : Nat}
theorem s_addI7 (hr : hF7 S r) (hi : rI r D A) (hd : d ∣ D) (hD0 : 0 < D) (hD : D < 2 ^ 49) (hu : u.natAbs ≤ B * d) (hB : (A + B) * D < 2 ^ 63) (h : rI (r + mkRat u d) D (A + B) → q none (hP7 S (r + mkRat u d))) : RX4_add [tc_R 0 7, tc_J (lI u), tc_J (lN d)] S q := by
  have hi2 := rI_add hD0 hi (rI_mk hd hD0 hu)
  have hle := rI_le hi2 hD0
  have hd0 : 0 < d := Nat.pos_of_dvd_of_pos hd hD0
  have hl : Nat.lcm r.den d ≤ D := Nat.le_of_dvd hD0 (Nat.lcm_dvd (rI_den hi hD0) hd)
  have hdl := Nat.le_of_dvd hD0 hd
  exact s_add7 hr hd0 (by omega) (by omega) hle.1 hle.2 (Nat.lt_of_le_of_lt (Nat.mul_le_mul_left _ hl) hB) (h hi2)
theorem s_addI8 (hr : hF8 S r) (hi : rI r D A) (hd : d ∣ D) (hD0 : 0 < D) (hD : D < 2 ^ 49) (hu : u.natAbs ≤ B * d) (hB : (A + B) * D < 2 ^ 63) (h : rI (r + mkRat u d) D (A + B) → q none (hP8 S (r + mkRat u d))) : RX4_add [tc_R 0 8, tc_J (lI u), tc_J (lN d)] S q := by
  have hi2 := rI_add hD0 hi (rI_mk hd hD0 hu)
  have hle := rI_le hi2 hD0
  have hd0 : 0 < d := Nat.pos_of_dvd_of_pos hd hD0
  have hl : Nat.lcm r.den d ≤ D := Nat.le_of_dvd hD0 (Nat.lcm_dvd (rI_den hi hD0) hd)
  have hdl := Nat.le_of_dvd hD0 hd
  exact s_add8 hr hd0 (by omega) (by omega) hle.1 hle.2 (Nat.lt_of_le_of_lt (Nat.mul_le_mul_left _ hl) hB) (h hi2)
theorem m_addsI (hr : mF S r) (hi : rI r D A) (hD0 : 0 < D) (hd0 : 0 < d) (hu : u.natAbs ≤ B * d) (hp : 0 < A + B) (hB : (A + B) * (D * d) < 2 ^ 63) (h : q none (mP S (r + mkRat u d))) : RX11_adds [tc_R 0 34, tc_J (lI u), tc_J (lN d)] S q := by
  have hDd : 0 < D * d := Nat.mul_pos hD0 hd0
  have hi2 := rI_add hDd (rI_wk hi (Nat.dvd_mul_right D d) hDd (Nat.le_refl _)) (rI_mk (Nat.dvd_mul_left d D) hDd hu)
  have hle := rI_le hi2 hDd
  have hl : r.den * d ≤ D * d := Nat.mul_le_mul_right d (Nat.le_of_dvd hD0 (rI_den hi hD0))
  have h2 := Nat.mul_le_mul_left (A + B) hl
  have h3 := Nat.mul_le_mul_right (r.den * d) (show 1 ≤ A + B from hp)
  exact m_adds hr hd0 (by omega) hle.1 hle.2 (by omega) h
theorem s_divI7 {m : Nat} (hr : hF7 S r) (hi : rI r D A) (hD0 : 0 < D) (hm : 0 < m) (hD : D * m < 2 ^ 49) (hN : A * D < 2 ^ 63) (h : q none (hP7 S (r / (m : Rat)))) : RX4_divideBy [tc_R 0 7, tc_J (lN m)] S q := by
  have hl := Nat.le_of_dvd hD0 (rI_den hi hD0)
  have h1 := Nat.mul_le_mul_right m hl
  have h2 := Nat.mul_le_mul_left A hl
  have h3 := rI_num hi hD0
  exact s_divideBy7 hr hm (by omega) (by omega) h
theorem s_divI8 {m : Nat} (hr : hF8 S r) (hi : rI r D A) (hD0 : 0 < D) (hm : 0 < m) (hD : D * m < 2 ^ 49) (hN : A * D < 2 ^ 63) (h : q none (hP8 S (r / (m : Rat)))) : RX4_divideBy [tc_R 0 8, tc_J (lN m)] S q := by
  have hl := Nat.le_of_dvd hD0 (rI_den hi hD0)
  have h1 := Nat.mul_le_mul_right m hl
  have h2 := Nat.mul_le_mul_left A hl
  have h3 := rI_num hi hD0
  exact s_divideBy8 hr hm (by omega) (by omega) h
end RSUM
/-- sums over places below a number -/
def hSu (c : Nat → Nat) : Nat → Nat
  | 0 => 0
  | k + 1 => hSu c k + c k
def hQ (f : Nat → Int) (c : Nat → Nat) : Nat → Rat
  | 0 => 0
  | k + 1 => hQ f c k + mkRat (f k) (c k)
def hPi (c : Nat → Nat) : Nat → Nat
  | 0 => 1
  | k + 1 => hPi c k * (if c k = 0 then 1 else c k)
theorem hSu_congr {c e : Nat → Nat} : ∀ K, (∀ k, k < K → c k = e k) → hSu c K = hSu e K := by
  intro K
  induction K with
  | zero => intro _; rfl
  | succ K ih => intro h; simp only [hSu, ih (fun k hk => h k (by omega)), h K (by omega)]
theorem hPi_pos (c : Nat → Nat) : ∀ K, 0 < hPi c K := by
  intro K
  induction K with
  | zero => exact Nat.one_pos
  | succ K ih =>
    simp only [hPi]
    refine Nat.mul_pos ih ?_
    split <;> omega
theorem hPi_dvd {c : Nat → Nat} {k : Nat} : ∀ K, k < K → 0 < c k → c k ∣ hPi c K := by
  intro K
  induction K with
  | zero => intro h; omega
  | succ K ih =>
    intro h h0
    simp only [hPi]
    by_cases e : k = K
    · subst e
      rw [if_neg (by omega)]
      exact Nat.dvd_mul_left _ _
    · exact Nat.dvd_mul_right_of_dvd (ih (by omega) h0) _
theorem h_c3 : ∀ x, x < 41 → (if x = 0 then 1 else x) ^ 3 ≤ 3 ^ x := by decide
theorem h_c6 : ∀ x, x < 41 → x ^ 6 ≤ 65 * 3 ^ x := by decide
theorem hSu_mem {c : Nat → Nat} {k : Nat} : ∀ K, k < K → c k ≤ hSu c K := by
  intro K
  induction K with
  | zero => intro h; omega
  | succ K ih =>
    intro h
    simp only [hSu]
    by_cases e : k = K
    · subst e; omega
    · have := ih (by omega); omega
theorem hPi_3 {c : Nat → Nat} : ∀ K, hSu c K ≤ 40 → hPi c K ^ 3 ≤ 3 ^ hSu c K := by
  intro K
  induction K with
  | zero => intro _; exact Nat.le_refl 1
  | succ K ih =>
    intro h
    simp only [hPi, hSu] at h ⊢
    rw [Nat.mul_pow, Nat.pow_add]
    exact Nat.mul_le_mul (ih (by omega)) (h_c3 _ (by omega))
theorem hPi_4 {c : Nat → Nat} {j : Nat} : ∀ K, j < K → hSu c K ≤ 40 → (c j * hPi c K) ^ 3 ≤ 65 * 3 ^ hSu c K := by
  intro K
  induction K with
  | zero => intro h; omega
  | succ K ih =>
    intro hj h
    have h3 : hPi c K ^ 3 ≤ 3 ^ hSu c K := hPi_3 K (by simp only [hSu] at h; omega)
    simp only [hPi, hSu] at h ⊢
    by_cases e : j = K
    · subst e
      rcases Nat.eq_zero_or_pos (c j) with g | g
      · rw [g, Nat.zero_mul]
        exact Nat.zero_le _
      · rw [if_neg (by omega), Nat.pow_add, show (c j * (hPi c j * c j)) ^ 3 = c j ^ 6 * hPi c j ^ 3 by
          rw [Nat.mul_pow, Nat.mul_pow, Nat.mul_left_comm, ← Nat.pow_add, Nat.mul_comm]]
        have := Nat.mul_le_mul (h_c6 (c j) (by omega)) h3
        rw [Nat.mul_assoc, Nat.mul_comm (3 ^ c j)] at this
        exact this
    · have := Nat.mul_le_mul (ih (by omega) (by omega)) (h_c3 (c K) (by omega))
      rw [← Nat.mul_pow, Nat.mul_assoc, Nat.mul_assoc, ← Nat.pow_add] at this
      exact this
theorem hPi_lt {c : Nat → Nat} {K : Nat} (h : hSu c K ≤ 40) : hPi c K < 2300000 := by
  rcases Nat.lt_or_ge (hPi c K) 2300000 with g | g
  · exact g
  · have h1 := hPi_3 K h
    have h2 : 2300000 ^ 3 ≤ hPi c K ^ 3 := Nat.pow_le_pow_left g 3
    have h3 : 3 ^ hSu c K ≤ 3 ^ 40 := Nat.pow_le_pow_right (by decide) h
    have h4 : 3 ^ 40 < 2300000 ^ 3 := by decide
    omega
theorem hPi_lt2 {c : Nat → Nat} {K j : Nat} (hj : j < K) (h : hSu c K ≤ 40) : c j * hPi c K < 9300000 := by
  rcases Nat.lt_or_ge (c j * hPi c K) 9300000 with g | g
  · exact g
  · have h1 := hPi_4 K hj h
    have h2 : 9300000 ^ 3 ≤ (c j * hPi c K) ^ 3 := Nat.pow_le_pow_left g 3
    have h3 : 3 ^ hSu c K ≤ 3 ^ 40 := Nat.pow_le_pow_right (by decide) h
    have h4 : 65 * 3 ^ 40 < 9300000 ^ 3 := by decide
    omega
theorem hQ_div (f : Nat → Int) (c : Nat → Nat) (m : Nat) : ∀ K, hQ f (fun k => c k * m) K = hQ f c K / (m : Rat) := by
  intro K
  induction K with
  | zero => simp [hQ, Rat.div_def]
  | succ K ih => simp only [hQ, ih, h_mkdiv, Rat.div_def, Rat.add_mul]
/-- partial sums over one lower number -/
theorem rI_Qd {f : Nat → Int} {c : Nat → Nat} {K b D : Nat} (hD : 0 < D) (hd : ∀ k, k < K → 0 < c k → c k ∣ D) (hb : ∀ k, k < K → (f k).natAbs ≤ b * c k * c k) : ∀ j, j ≤ K → rI (hQ f c j) D (b * hSu c j) := by
  intro j
  induction j with
  | zero => intro _; exact rI_0 _
  | succ j ih =>
    intro hj
    simp only [hQ, hSu]
    rw [Nat.mul_add]
    rcases Nat.eq_zero_or_pos (c j) with g | g
    · rw [g, Rat.mkRat_zero, Rat.add_zero, Nat.mul_zero, Nat.add_zero]
      exact ih (by omega)
    · exact rI_add hD (ih (by omega)) (rI_mk (hd j (by omega) g) hD (hb j (by omega)))
theorem rI_Q {f : Nat → Int} {c : Nat → Nat} {K b : Nat} (hb : ∀ k, k < K → (f k).natAbs ≤ b * c k * c k) : ∀ j, j ≤ K → rI (hQ f c j) (hPi c K) (b * hSu c j) := rI_Qd (hPi_pos c K) (fun k hk h0 => hPi_dvd K hk h0) hb
