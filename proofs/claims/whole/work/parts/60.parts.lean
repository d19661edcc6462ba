/-! the parts joined -/
theorem hQ_neg (f : Nat → Int) (c : Nat → Nat) : ∀ K, hQ (fun k => -1 * f k) c K = -hQ f c K := by
  intro K
  induction K with
  | zero => rfl
  | succ K ih =>
    simp only [hQ, ih]
    rw [Rat.neg_add, Rat.neg_mkRat, Int.neg_one_mul]
theorem hQ_one (f : Nat → Int) (c : Nat → Nat) (K : Nat) : hQ (fun k => 1 * f k) c K = hQ f c K := by
  congr 1
  funext k
  rw [Int.one_mul]
/-- the sum of y y / c -/
def zA (B : Nat → Nat → Nat) : Nat → Rat := hQ (fun k => (B 1 k : Int) * B 1 k) (B 0)
theorem z_sq {c y n Y : Nat} (hc : 0 < c) : mkRat (((y : Int) * n - (Y : Int) * c) * ((y : Int) * n - (Y : Int) * c)) c = (n : Rat) * n * mkRat ((y : Int) * y) c - 2 * n * Y * y + (Y : Rat) * Y * c := by
  have hi : (c : Rat) * (c : Rat)⁻¹ = 1 := Rat.mul_inv_cancel _ (by
    intro z
    have := Rat.natCast_eq_zero_iff.mp z
    omega)
  rw [Rat.mkRat_eq_div, Rat.mkRat_eq_div, Rat.div_def, Rat.div_def]
  simp only [Rat.intCast_mul, Rat.intCast_sub, Rat.intCast_natCast]
  generalize (c : Rat) = C at hi ⊢
  generalize C⁻¹ = D at hi ⊢
  generalize (y : Rat) = y'
  generalize (n : Rat) = n'
  generalize (Y : Rat) = Y'
  grind
theorem z_sum {B : Nat → Nat → Nat} {n Y K : Nat} (h : zOk B n Y K) : ∀ j, j ≤ K → hQ (zT B n Y 1) (B 0) j = (n : Rat) * n * zA B j - 2 * n * Y * (hSu (B 1) j : Nat) + (Y : Rat) * Y * (hSu (B 0) j : Nat) := by
  intro j
  induction j with
  | zero =>
    intro _
    simp only [hQ, zA, hSu]
    have : ((0 : Nat) : Rat) = 0 := rfl
    rw [this]
    grind
  | succ j ih =>
    intro hj
    have ih' := ih (by omega)
    have h1 := (h.1 j (by omega)).1
    have hz : zT B n Y 1 j = ((B 1 j : Int) * n - (Y : Int) * B 0 j) * ((B 1 j : Int) * n - (Y : Int) * B 0 j) := rfl
    simp only [hQ, zA, hSu, hz] at ih' ⊢
    rw [ih', Rat.natCast_add, Rat.natCast_add]
    rcases Nat.eq_zero_or_pos (B 0 j) with g | g
    · have g1 : B 1 j = 0 := by omega
      rw [g, g1, Rat.mkRat_zero, Rat.mkRat_zero]
      have : ((0 : Nat) : Rat) = 0 := rfl
      rw [this]
      simp only [Rat.add_zero]
    · rw [z_sq g]
      generalize hQ (fun k => (B 1 k : Int) * B 1 k) (B 0) j = a
      generalize mkRat ((B 1 j : Int) * B 1 j) (B 0 j) = b
      generalize ((hSu (B 1) j : Nat) : Rat) = s1
      generalize ((hSu (B 0) j : Nat) : Rat) = s0
      generalize ((B 1 j : Nat) : Rat) = y1
      generalize ((B 0 j : Nat) : Rat) = c1
      generalize (n : Rat) = n'
      generalize (Y : Rat) = Y'
      grind
theorem z_id {B : Nat → Nat → Nat} {n Y K : Nat} (h : zOk B n Y K) : zV B n Y K 0 + -(zV B n Y K 1) = ((Y : Rat) + -(zA B K)) / (n : Rat) := by
  have hs := z_sum h K (Nat.le_refl K)
  rw [h.2.1, h.2.2.1] at hs
  have hi : (n : Rat) * (n : Rat)⁻¹ = 1 := Rat.mul_inv_cancel _ (by
    intro z
    have := Rat.natCast_eq_zero_iff.mp z
    have := h.2.2.2.1
    omega)
  have e0 : zV B n Y K 0 = (Y : Rat) * ((n : Rat) - Y) * ((n : Rat)⁻¹ * (n : Rat)⁻¹) := by
    show mkRat ((Y : Int) * ((n : Int) - Y)) (n * n) = _
    rw [Rat.mkRat_eq_div, Rat.div_def, Rat.natCast_mul, Rat.inv_mul_rev]
    simp only [Rat.intCast_mul, Rat.intCast_sub, Rat.intCast_natCast]
  have e1 : zV B n Y K 1 = hQ (zT B n Y 1) (B 0) K * ((n : Rat)⁻¹ * ((n : Rat)⁻¹ * (n : Rat)⁻¹)) := by
    show hQ (zT B n Y 1) (B 0) K / ((n * n * n : Nat) : Rat) = _
    rw [Rat.div_def, Rat.natCast_mul, Rat.natCast_mul, Rat.inv_mul_rev, Rat.inv_mul_rev]
  rw [e0, e1, hs, Rat.div_def]
  generalize (n : Rat)⁻¹ = D at hi ⊢
  generalize (n : Rat) = n' at hi ⊢
  generalize (Y : Rat) = Y'
  generalize zA B K = a
  grind
/-- what is joined, part by part -/
def zW (B : Nat → Nat → Nat) (n Y K : Nat) : Nat → Rat
  | 0 => 0
  | i + 1 => zW B n Y K i + (if i = 1 ∨ i = 4 then -(zV B n Y K i) else zV B n Y K i)
section ZPARTS
variable {B : Nat → Nat → Nat} {n Y K : Nat}
theorem rI_V0 (h : zOk B n Y K) : rI (zV B n Y K 0) (n * n) 1 := by
  have hY := zOk_Y h
  have hn0 := h.2.2.2.1
  refine rI_mk (Nat.dvd_refl _) (Nat.mul_pos hn0 hn0) ?_
  rw [Int.natAbs_mul, Nat.one_mul]
  exact Nat.mul_le_mul (by omega) (by omega)
theorem rI_V (h : zOk B n Y K) {p e : Nat} (hp : 1 ≤ p) (he : zb n p * n ≤ e * zM n p) : rI (zV B n Y K p) (hPi (B 0) K * zM n p) e := by
  unfold zV
  rw [if_neg (by omega)]
  exact rI_div (rI_T h p K (Nat.le_refl K)) he
theorem rI_X (h : zOk B n Y K) : rI (zV B n Y K 0 + -(zV B n Y K 1)) (hPi (B 0) K * n) 2 := by
  rw [z_id h]
  have hP0 := hPi_pos (B 0) K
  have hY := zOk_Y h
  have a1 : rI (Y : Rat) (hPi (B 0) K) Y := by
    have := rI_mk (u := (Y : Int)) (d := 1) (B := Y) (Nat.one_dvd (hPi (B 0) K)) hP0 (by omega)
    rw [Rat.mkRat_eq_div, Rat.intCast_natCast, show ((1 : Nat) : Rat) = 1 from rfl, Rat.div_def, Rat.inv_eq_of_mul_eq_one (Rat.mul_one 1), Rat.mul_one] at this
    exact this
  have a2 : rI (zA B K) (hPi (B 0) K) (1 * hSu (B 0) K) := rI_Q (b := 1) (fun k hk => by
    have := (h.1 k hk).1
    rw [Int.natAbs_mul, Nat.one_mul]
    exact Nat.mul_le_mul (by omega) (by omega)) K (Nat.le_refl K)
  rw [h.2.1] at a2
  exact rI_div (rI_add hP0 a1 (rI_neg a2)) (by omega)
theorem zW_2 : zW B n Y K 2 = zV B n Y K 0 + -(zV B n Y K 1) := by
  simp only [zW]
  rw [if_neg (by decide), if_pos (by decide), Rat.zero_add]
theorem zW_p {i : Nat} (hi : ¬ (i = 1 ∨ i = 4)) : zW B n Y K (i + 1) = zW B n Y K i + zV B n Y K i := by
  show zW B n Y K i + (if i = 1 ∨ i = 4 then -(zV B n Y K i) else zV B n Y K i) = _
  rw [if_neg hi]
theorem zW_n {i : Nat} (hi : i = 1 ∨ i = 4) : zW B n Y K (i + 1) = zW B n Y K i + -(zV B n Y K i) := by
  show zW B n Y K i + (if i = 1 ∨ i = 4 then -(zV B n Y K i) else zV B n Y K i) = _
  rw [if_pos hi]
theorem zW_D (h : zOk B n Y K) {i : Nat} (hi : i < 5) : ∃ D, 0 < D ∧ D < 2 ^ 49 ∧ rI (zW B n Y K i) D (2 * i) ∧ rI (zV B n Y K i) D 2 := by
  have hP0 := hPi_pos (B 0) K
  have hn0 := h.2.2.2.1
  have hn := h.2.2.2.2.1
  have hPl := hPi_lt (show hSu (B 0) K ≤ 40 by rw [h.2.1]; exact hn)
  have v0 := rI_V0 h
  have hM : ∀ p, 0 < hPi (B 0) K * zM n p ∧ hPi (B 0) K * zM n p < 2 ^ 49 := by
    intro p
    refine ⟨Nat.mul_pos hP0 (zM_pos hn0), ?_⟩
    have := Nat.mul_le_mul (show hPi (B 0) K ≤ 2300000 by omega) (zM_le (p := p) hn)
    omega
  have dn : n * n ∣ hPi (B 0) K * zM n 1 := Nat.dvd_mul_left_of_dvd (Nat.dvd_mul_right (n * n) n) _
  have dx : hPi (B 0) K * n ∣ hPi (B 0) K * zM n 2 := Nat.mul_dvd_mul_left _ (Nat.dvd_mul_left n 10000)
  have d4 : hPi (B 0) K * zM n 4 ∣ hPi (B 0) K * zM n 2 := Nat.mul_dvd_mul_left _ ⟨100, by
    show 10000 * n = 100 * n * 100
    omega⟩
  have w2 : rI (zW B n Y K 2) (hPi (B 0) K * zM n 2) 4 := by
    rw [zW_2]
    exact rI_wk (rI_X h) dx (hM 2).1 (by decide)
  have v2 : rI (zV B n Y K 2) (hPi (B 0) K * zM n 2) 2 := rI_V h (by decide) (zM_b n 2)
  have v3 : rI (zV B n Y K 3) (hPi (B 0) K * zM n 2) 2 := rI_V h (p := 3) (by decide) (zM_b n 3)
  have w3 : rI (zW B n Y K 3) (hPi (B 0) K * zM n 2) 6 := by
    rw [zW_p (by decide)]
    exact rI_add (hM 2).1 w2 v2
  have w4 : rI (zW B n Y K 4) (hPi (B 0) K * zM n 2) 8 := by
    rw [zW_p (by decide)]
    exact rI_add (hM 2).1 w3 v3
  rcases (show i = 0 ∨ i = 1 ∨ i = 2 ∨ i = 3 ∨ i = 4 by omega) with rfl | rfl | rfl | rfl | rfl
  · have := Nat.mul_le_mul hn hn
    exact ⟨n * n, Nat.mul_pos hn0 hn0, by omega, rI_0 _, rI_wk v0 (Nat.dvd_refl _) (Nat.mul_pos hn0 hn0) (by decide)⟩
  · refine ⟨_, (hM 1).1, (hM 1).2, ?_, rI_V h (by decide) (zM_b n 1)⟩
    have : zW B n Y K 1 = zV B n Y K 0 := by
      simp only [zW]
      rw [if_neg (by decide), Rat.zero_add]
    rw [this]
    exact rI_wk v0 dn (hM 1).1 (by decide)
  · exact ⟨_, (hM 2).1, (hM 2).2, w2, v2⟩
  · exact ⟨_, (hM 2).1, (hM 2).2, w3, v3⟩
  · exact ⟨_, (hM 2).1, (hM 2).2, w4, rI_wk (rI_V h (p := 4) (by decide) (zM_b n 4)) d4 (hM 2).1 (by decide)⟩
/-- what a part adds, bin by bin, stays small -/
theorem zP_b (h : zOk B n Y K) {r : Rat} {g : Int} {p e D2 A : Nat} (hg : g.natAbs = 1) (he : zb n p * n ≤ e * zM n p) (he0 : 0 < e) (hD2 : zM n p ∣ D2) (hD0 : 0 < D2) (hr : rI r (hPi (B 0) K * D2) A) (hbd : (A + e + e) * (9300000 * (D2 * zM n p)) < 2 ^ 63) : (∀ k, k < K → 0 < B 0 k → ∃ D A b, 0 < D ∧ rI (r + hQ (fun k => g * zT B n Y p k) (fun k => B 0 k * zM n p) k) D A ∧ (g * zT B n Y p k).natAbs ≤ b * (B 0 k * zM n p) ∧ 0 < A + b ∧ (A + b) * (D * (B 0 k * zM n p)) < 2 ^ 63) ∧ rI (r + hQ (fun k => g * zT B n Y p k) (fun k => B 0 k * zM n p) K) (hPi (B 0) K * D2) (A + e) := by
  have hP0 := hPi_pos (B 0) K
  have hn := h.2.2.2.2.1
  have hsum : hSu (B 0) K ≤ 40 := by rw [h.2.1]; exact hn
  have hT : ∀ k, k < K → (g * zT B n Y p k).natAbs ≤ zb n p * B 0 k * B 0 k := by
    intro k hk
    rw [Int.natAbs_mul, hg, Nat.one_mul]
    exact zT_le h hk p
  have part : ∀ k, k ≤ K → rI (r + hQ (fun k => g * zT B n Y p k) (fun k => B 0 k * zM n p) k) (hPi (B 0) K * D2) (A + e) := by
    intro k hk
    refine rI_add (Nat.mul_pos hP0 hD0) hr ?_
    rw [hQ_div]
    have hsu : zb n p * hSu (B 0) k ≤ zb n p * n := by
      refine Nat.mul_le_mul_left _ ?_
      have := hSu_mono (c := B 0) hk
      rw [h.2.1] at this
      exact this
    exact rI_wk (rI_div (rI_Q (b := zb n p) hT k hk) (Nat.le_trans hsu he)) (Nat.mul_dvd_mul_left _ hD2) (Nat.mul_pos hP0 hD0) (Nat.le_refl _)
  refine ⟨fun k hk hc => ⟨_, _, e, Nat.mul_pos hP0 hD0, part k (by omega), ?_, by omega, ?_⟩, part K (Nat.le_refl K)⟩
  · have a1 := hT k hk
    have a2 := Nat.mul_le_mul_left (zb n p) (zOk_c h hk)
    have a3 := Nat.mul_le_mul_right (B 0 k) (Nat.le_trans a2 he)
    rw [Nat.mul_assoc e, Nat.mul_comm (zM n p)] at a3
    exact Nat.le_trans a1 a3
  · have a1 := hPi_lt2 (c := B 0) hk hsum
    have a2 : hPi (B 0) K * D2 * (B 0 k * zM n p) = (B 0 k * hPi (B 0) K) * (D2 * zM n p) := by
      rw [Nat.mul_mul_mul_comm, Nat.mul_comm (hPi (B 0) K)]
    rw [a2]
    exact Nat.lt_of_le_of_lt (Nat.mul_le_mul_left _ (Nat.mul_le_mul_right _ (by omega))) hbd
theorem zP_v {p : Nat} (hp : 1 ≤ p) : hQ (fun k => 1 * zT B n Y p k) (fun k => B 0 k * zM n p) K = zV B n Y K p := by
  rw [hQ_one, hQ_div]
  unfold zV
  rw [if_neg (by omega)]
theorem zP_n {p : Nat} (hp : 1 ≤ p) : hQ (fun k => -1 * zT B n Y p k) (fun k => B 0 k * zM n p) K = -(zV B n Y K p) := by
  rw [hQ_neg, hQ_div]
  unfold zV
  rw [if_neg (by omega)]
end ZPARTS
