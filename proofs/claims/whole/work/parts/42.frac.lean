/-! fractions: a Rat in two longs -/
def lI (z : Int) : Int64 := Int64.ofInt z
theorem lN_lI (n : Nat) : lN n = lI n := Int64.ofInt_eq_ofNat.symm
theorem lI_add (a b : Int) : lI a + lI b = lI (a + b) := (Int64.ofInt_add a b).symm
theorem lI_sub (a b : Int) : lI a - lI b = lI (a - b) := (Int64.ofInt_sub a b).symm
theorem lI_mul (a b : Int) : lI a * lI b = lI (a * b) := (Int64.ofInt_mul a b).symm
theorem lI_neg (a : Int) : - lI a = lI (-a) := (Int64.ofInt_neg a).symm
theorem lI_toInt {z : Int} (h : z.natAbs < 2 ^ 63) : (lI z).toInt = z := Int64.toInt_ofInt_of_le (by omega) (by omega)
theorem l_toInt {n : Nat} (h : n < 2 ^ 63) : (lN n).toInt = n := Int64.toInt_ofNat_of_lt h
theorem l_ne0 {n : Nat} (h0 : 0 < n) (h : n < 2 ^ 63) : ¬ lN n = 0 := by
  intro z
  have e := l_toInt h
  rw [z] at e
  have e0 : (0 : Int64).toInt = 0 := by decide
  omega
theorem l_nle0 {n : Nat} (h0 : 0 < n) (h : n < 2 ^ 63) : ¬ lN n ≤ 0 := by
  intro z
  have e := l_toInt h
  have e0 : (0 : Int64).toInt = 0 := by decide
  have := Int64.le_iff_toInt_le.mp z
  omega
theorem l_div {a b : Nat} (ha : a < 2 ^ 63) (hb : b < 2 ^ 63) : lN a / lN b = lN (a / b) := (Int64.ofNat_div ha hb).symm
theorem l_rem {a b : Nat} (ha : a < 2 ^ 63) (hb : b < 2 ^ 63) : lN a - lN a / lN b * lN b = lN (a % b) := by
  rw [l_div ha hb, lN_mul, lN_sub (Nat.div_mul_le_self a b)]
  congr 1
  have := Nat.div_add_mod a b
  rw [Nat.mul_comm] at this
  omega
theorem l_abs {u : Int} (h : u.natAbs < 2 ^ 63) : (if 0 < lI u then lI u else - lI u) = lN u.natAbs := by
  have e0 : (0 : Int64).toInt = 0 := by decide
  have e := lI_toInt h
  split
  · rename_i z
    have := Int64.lt_iff_toInt_lt.mp z
    rw [lN_lI]
    congr 1
    omega
  · rename_i z
    have : ¬ 0 < u := fun z2 => z (Int64.lt_iff_toInt_lt.mpr (by omega))
    rw [lN_lI, lI_neg]
    congr 1
    omega
theorem l_divI {u : Int} {g : Nat} (hu : u.natAbs < 2 ^ 63) (hg : g < 2 ^ 63) (hd : g ∣ u.natAbs) : lI u / lN g = lI (u / (g : Int)) := by
  have e1 : (Int64.minValue).toInt = -2 ^ 63 := by decide
  have e2 : (Int64.maxValue).toInt = 2 ^ 63 - 1 := by decide
  have e3 : u.tdiv (g : Int) = u / (g : Int) := Int.tdiv_eq_ediv_of_dvd (Int.ofNat_dvd_left.mpr hd)
  rw [lN_lI]
  unfold lI
  rw [← Int64.ofInt_tdiv (by omega) (by omega) (by omega) (by omega), e3]
theorem h_val {N : Int} {D B : Nat} (hD : 0 < D) (h1 : mkRat N D ≤ (B : Rat)) (h2 : -(B : Rat) ≤ mkRat N D) : N.natAbs ≤ B * D := by
  have hd : (0 : Rat) < (D : Rat) := by exact_mod_cast hD
  have hd0 : (D : Rat) ≠ 0 := by
    intro z
    rw [z] at hd
    exact absurd hd (by decide)
  have e : mkRat N D * (D : Rat) = (N : Rat) := by
    rw [Rat.mkRat_eq_div]
    exact Rat.div_mul_cancel hd0
  have g1 := Rat.mul_le_mul_of_nonneg_right h1 (Rat.le_of_lt hd)
  have g2 := Rat.mul_le_mul_of_nonneg_right h2 (Rat.le_of_lt hd)
  rw [e] at g1 g2
  have g3 : (N : Rat) ≤ ((B * D : Nat) : Int) := by
    rw [Int.natCast_mul]
    simpa [Rat.intCast_natCast] using g1
  have g4 : ((-(B * D : Nat) : Int) : Rat) ≤ (N : Rat) := by
    rw [Int.natCast_mul]
    simpa [Rat.neg_mul, Rat.intCast_natCast] using g2
  have g5 : N ≤ ((B * D : Nat) : Int) := by exact_mod_cast g3
  have g6 : (-(B * D : Nat) : Int) ≤ N := by exact_mod_cast g4
  omega

theorem s_gcd {q : tc_Q} {S : tc_S} {a b : Nat} (ha : a < 2 ^ 63) (hb : b < 2 ^ 49) (h : q (some (tc_J (lN (Nat.gcd a b)))) S) : RX4_sharedBy [tc_J (lN a), tc_J (lN b)] S q := by
  refine inX4_sharedBy (fun P h9 h44 => ?_)
  have loop : ∀ n, (∀ x y k m, y ≤ n → Nat.gcd x y = Nat.gcd a b → x < 2 ^ 63 → y < 2 ^ m → m ≤ 49 → k + 2 * m ≤ 98 → P 9 [(4, tc_J (lN x)), (6, tc_J (lN y)), (8, tc_I (nI k))] [] S) ∧ (∀ x y k m, y ≤ n → Nat.gcd x y = Nat.gcd a b → y < x → x < 2 ^ m → m ≤ 49 → k + 2 * m ≤ 99 → P 9 [(4, tc_J (lN x)), (6, tc_J (lN y)), (8, tc_I (nI k))] [] S) := by
    have p49 : ∀ m, m ≤ 49 → (2 : Nat) ^ m ≤ 2 ^ 49 := fun m hm => Nat.pow_le_pow_right (by decide) hm
    have stop : ∀ x y k, y = 0 → k < 100 → Nat.gcd x y = Nat.gcd a b → x < 2 ^ 63 → P 9 [(4, tc_J (lN x)), (6, tc_J (lN y)), (8, tc_I (nI k))] [] S := by
      intro x y k hy hk hg hx
      subst hy
      rw [Nat.gcd_zero_right] at hg
      refine h9 _ _ _ _ ⟨fun z => absurd z (nI_ge hk (by decide)), fun _ => ⟨fun _ => h44 _ _ ?_, fun z => absurd ((lg_cmp_eq _ _).mpr rfl) z⟩⟩
      rw [hg]
      exact h
    have step : ∀ x y k, 0 < y → k < 100 → x < 2 ^ 63 → y < 2 ^ 63 → P 9 [(4, tc_J (lN y)), (6, tc_J (lN (x % y))), (8, tc_I (nI (k + 1)))] [] S → P 9 [(4, tc_J (lN x)), (6, tc_J (lN y)), (8, tc_I (nI k))] [] S := by
      intro x y k hy hk hx hy2 hp
      have hy0 : ¬ lN y = 0 := l_ne0 hy hy2
      refine h9 _ _ _ _ ⟨fun z => absurd z (nI_ge hk (by decide)), fun _ => ⟨fun z => absurd ((lg_cmp_eq _ _).mp z) hy0, fun _ => ⟨hy0, ?_⟩⟩⟩
      rw [l_rem hx hy2, ← nI_succ]
      exact hp
    intro n
    induction n with
    | zero =>
      refine ⟨fun x y k m hy hg hx hym hm hk => stop x y k (Nat.le_zero.mp hy) (by omega) hg hx, fun x y k m hy hg hyx hx hm hk => stop x y k (Nat.le_zero.mp hy) (by omega) hg ?_⟩
      have := p49 m hm
      omega
    | succ n ih =>
      constructor
      · intro x y k m hy hg hx hym hm hk
        rcases Nat.eq_zero_or_pos y with h0 | h0
        · exact stop x y k h0 (by omega) hg hx
        · have := p49 m hm
          refine step x y k h0 (by omega) hx (by omega) (ih.2 y (x % y) (k + 1) m ?_ ?_ (Nat.mod_lt x h0) hym hm (by omega))
          · have := Nat.mod_lt x h0
            omega
          · rw [← hg, Nat.gcd_comm x y, Nat.gcd_rec y x, Nat.gcd_comm]
      · intro x y k m hy hg hyx hx hm hk
        have := p49 m hm
        rcases Nat.eq_zero_or_pos y with h0 | h0
        · exact stop x y k h0 (by omega) hg (by omega)
        · obtain ⟨m', rfl⟩ : ∃ m', m = m' + 1 := by
            cases m with
            | zero => simp at hx; omega
            | succ m' => exact ⟨m', rfl⟩
          refine step x y k h0 (by omega) (by omega) (by omega) (ih.1 y (x % y) (k + 1) m' ?_ ?_ (by omega) ?_ (by omega) (by omega))
          · have := Nat.mod_lt x h0
            omega
          · rw [← hg, Nat.gcd_comm x y, Nat.gcd_rec y x, Nat.gcd_comm]
          · have h1 : x % y < y := Nat.mod_lt x h0
            have h2 : y + x % y ≤ x := by
              have := Nat.div_add_mod x y
              have h3 : 1 ≤ x / y := (Nat.le_div_iff_mul_le h0).mpr (by omega)
              have h4 : y * 1 ≤ y * (x / y) := Nat.mul_le_mul_left y h3
              omega
            rw [Nat.pow_succ] at hx
            omega
  exact (loop b).1 a b 0 49 (Nat.le_refl b) rfl ha hb (by decide) (by decide)

/-- cell 7 holds r -/
def hF7 (S : tc_S) (r : Rat) : Prop := S.2.1 7 0 = lI r.num ∧ S.2.1 7 1 = lN r.den
def hP7 (S : tc_S) (r : Rat) : tc_S := tc_ul (tc_ul S 7 0 (lI r.num)) 7 1 (lN r.den)
theorem hF7_put (S : tc_S) (r : Rat) : hF7 (hP7 S r) r := by
  unfold hF7 hP7
  constructor
  · rw [tc_ul_self]
    show (if (0 : Nat) = 1 then _ else _) = _
    rw [if_neg (by decide), tc_ul_self]
    exact if_pos rfl
  · rw [tc_ul_self]
    exact if_pos rfl
theorem hP7_s (S : tc_S) (r : Rat) : hS [7] S (hP7 S r) := ((hS.rf _ S).ul (by decide)).ul (by decide)
theorem s_become7 {q : tc_Q} {S : tc_S} {u : Int} {d : Nat} (hu : u.natAbs < 2 ^ 63) (hd : 0 < d) (hd2 : d < 2 ^ 49) (h : q none (hP7 S (mkRat u d))) : RX4_become [tc_R 0 7, tc_J (lI u), tc_J (lN d)] S q := by
  refine inX4_become (fun P => ?_)
  unfold fmX4_become_0
  rw [l_abs hu]
  refine s_gcd hu hd2 (sgX4_become_8 ?_)
  have hg : 0 < Nat.gcd u.natAbs d := Nat.gcd_pos_of_pos_right _ hd
  have hgd : Nat.gcd u.natAbs d ≤ d := Nat.gcd_le_right _ hd
  refine ⟨fun z => absurd ((lg_cmp_le _ _).mp z) (l_nle0 hd (by omega)), fun _ => ⟨fun z => absurd ((lg_cmp_le _ _).mp z) (l_nle0 hg (by omega)), fun _ => ⟨l_ne0 hg (by omega), l_ne0 hg (by omega), ?_⟩⟩⟩
  rw [l_divI hu (by omega) (Nat.gcd_dvd_left _ _), l_div (by omega) (by omega)]
  have e1 : (mkRat u d).num = u / ((Nat.gcd u.natAbs d : Nat) : Int) := by rw [Rat.num_mkRat, if_neg (by omega), Nat.gcd_comm]
  have e2 : (mkRat u d).den = d / Nat.gcd u.natAbs d := by rw [Rat.den_mkRat, if_neg (by omega), Nat.gcd_comm]
  unfold hP7 at h
  rw [e1, e2] at h
  exact h
theorem s_add7 {q : tc_Q} {S : tc_S} {r : Rat} {u : Int} {d : Nat} (hr : hF7 S r) (hd : 0 < d) (hd2 : d < 2 ^ 49) (hD : Nat.lcm r.den d < 2 ^ 49) {B : Nat} (hv1 : r + mkRat u d ≤ (B : Rat)) (hv2 : -(B : Rat) ≤ r + mkRat u d) (hN : B * Nat.lcm r.den d < 2 ^ 63) (h : q none (hP7 S (r + mkRat u d))) : RX4_add [tc_R 0 7, tc_J (lI u), tc_J (lN d)] S q := by
  refine inX4_add (fun P => ?_)
  unfold fmX4_add_0
  have hrd : 0 < r.den := r.den_pos
  obtain ⟨g, hg⟩ : ∃ g, g = Nat.gcd r.den d := ⟨_, rfl⟩
  have hg0 : 0 < g := by rw [hg]; exact Nat.gcd_pos_of_pos_right _ hd
  have hgd : g ∣ d := by rw [hg]; exact Nat.gcd_dvd_right _ _
  have hgr : g ∣ r.den := by rw [hg]; exact Nat.gcd_dvd_left _ _
  obtain ⟨d', rfl⟩ := hgd
  obtain ⟨e', he⟩ := hgr
  have hlcm : Nat.lcm r.den (g * d') = r.den * d' := by
    unfold Nat.lcm
    rw [← hg, Nat.mul_left_comm, Nat.mul_div_cancel_left _ hg0]
  rw [hlcm] at hD hN
  have hd'0 : 0 < d' := by
    rcases Nat.eq_zero_or_pos d' with rfl | z
    · simp at hd
    · exact z
  have hrd2 : r.den < 2 ^ 49 := Nat.lt_of_le_of_lt (Nat.le_mul_of_pos_right _ hd'0) hD
  have hgle : g ≤ r.den := Nat.le_of_dvd hrd ⟨e', he⟩
  rw [hr.2]
  refine s_gcd (by omega) hd2 (sgX4_add_8 ?_)
  rw [← hg]
  refine ⟨fun z => absurd ((lg_cmp_le _ _).mp z) (l_nle0 hg0 (by omega)), fun _ => ⟨l_ne0 hg0 (by omega), l_ne0 hg0 (by omega), ?_⟩⟩
  rw [l_div (by omega) (by omega), hr.1, hr.2, l_div (by omega) (by omega), Nat.mul_div_cancel_left _ hg0]
  have e1 : r.den / g = e' := by rw [he, Nat.mul_div_cancel_left _ hg0]
  rw [e1, lN_mul, lN_lI d', lN_lI e', lI_mul, lI_mul, lI_add]
  have hsum : r + mkRat u (g * d') = mkRat (r.num * (d' : Int) + u * (e' : Int)) (r.den * d') := by
    conv => lhs; rw [← Rat.mkRat_self r]
    rw [Rat.mkRat_add_mkRat _ _ (by omega) (by omega)]
    rw [Rat.mkRat_eq_iff (by have := Nat.mul_pos hrd hd; omega) (by have := Nat.mul_pos hrd hd'0; omega)]
    have he2 : (r.den : Int) = (g : Int) * (e' : Int) := by rw [he, Int.natCast_mul]
    simp only [Int.natCast_mul, he2]
    grind
  have hNN : (r.num * (d' : Int) + u * (e' : Int)).natAbs < 2 ^ 63 := by
    refine Nat.lt_of_le_of_lt ?_ hN
    rw [hsum] at hv1 hv2
    exact h_val (Nat.mul_pos hrd hd'0) hv1 hv2
  refine s_become7 hNN (Nat.mul_pos hrd hd'0) hD (sgX4_add_51_v1 ?_)
  show q none _
  rw [← hsum]
  exact h
theorem s_divideBy7 {q : tc_Q} {S : tc_S} {r : Rat} {k : Nat} (hr : hF7 S r) (hk : 0 < k) (hD : r.den * k < 2 ^ 49) (hN : r.num.natAbs < 2 ^ 63) (h : q none (hP7 S (r / (k : Rat)))) : RX4_divideBy [tc_R 0 7, tc_J (lN k)] S q := by
  refine inX4_divideBy (fun P => ?_)
  unfold fmX4_divideBy_0
  rw [hr.1, hr.2, lN_mul]
  refine s_become7 hN (Nat.mul_pos r.den_pos hk) hD (sgX4_divideBy_14 ?_)
  show q none _
  have e : mkRat r.num (r.den * k) = r / (k : Rat) := by
    rw [Rat.mkRat_eq_div]
    conv => rhs; rw [← Rat.mkRat_self r, Rat.mkRat_eq_div]
    have h1 : (r.den : Rat) ≠ 0 := by
      have := r.den_pos
      exact_mod_cast (by omega : r.den ≠ 0)
    have h2 : (k : Rat) ≠ 0 := by exact_mod_cast (by omega : k ≠ 0)
    rw [Rat.natCast_mul]
    grind
  rw [e]
  exact h

/-- cell 8 holds r -/
def hF8 (S : tc_S) (r : Rat) : Prop := S.2.1 8 0 = lI r.num ∧ S.2.1 8 1 = lN r.den
def hP8 (S : tc_S) (r : Rat) : tc_S := tc_ul (tc_ul S 8 0 (lI r.num)) 8 1 (lN r.den)
theorem hF8_put (S : tc_S) (r : Rat) : hF8 (hP8 S r) r := by
  unfold hF8 hP8
  constructor
  · rw [tc_ul_self]
    show (if (0 : Nat) = 1 then _ else _) = _
    rw [if_neg (by decide), tc_ul_self]
    exact if_pos rfl
  · rw [tc_ul_self]
    exact if_pos rfl
theorem hP8_s (S : tc_S) (r : Rat) : hS [8] S (hP8 S r) := ((hS.rf _ S).ul (by decide)).ul (by decide)
theorem s_become8 {q : tc_Q} {S : tc_S} {u : Int} {d : Nat} (hu : u.natAbs < 2 ^ 63) (hd : 0 < d) (hd2 : d < 2 ^ 49) (h : q none (hP8 S (mkRat u d))) : RX4_become [tc_R 0 8, tc_J (lI u), tc_J (lN d)] S q := by
  refine inX4_become_b (fun P => ?_)
  unfold fmX4_become_0_b
  rw [l_abs hu]
  refine s_gcd hu hd2 (sgX4_become_8_b ?_)
  have hg : 0 < Nat.gcd u.natAbs d := Nat.gcd_pos_of_pos_right _ hd
  have hgd : Nat.gcd u.natAbs d ≤ d := Nat.gcd_le_right _ hd
  refine ⟨fun z => absurd ((lg_cmp_le _ _).mp z) (l_nle0 hd (by omega)), fun _ => ⟨fun z => absurd ((lg_cmp_le _ _).mp z) (l_nle0 hg (by omega)), fun _ => ⟨l_ne0 hg (by omega), l_ne0 hg (by omega), ?_⟩⟩⟩
  rw [l_divI hu (by omega) (Nat.gcd_dvd_left _ _), l_div (by omega) (by omega)]
  have e1 : (mkRat u d).num = u / ((Nat.gcd u.natAbs d : Nat) : Int) := by rw [Rat.num_mkRat, if_neg (by omega), Nat.gcd_comm]
  have e2 : (mkRat u d).den = d / Nat.gcd u.natAbs d := by rw [Rat.den_mkRat, if_neg (by omega), Nat.gcd_comm]
  unfold hP8 at h
  rw [e1, e2] at h
  exact h
theorem s_add8 {q : tc_Q} {S : tc_S} {r : Rat} {u : Int} {d : Nat} (hr : hF8 S r) (hd : 0 < d) (hd2 : d < 2 ^ 49) (hD : Nat.lcm r.den d < 2 ^ 49) {B : Nat} (hv1 : r + mkRat u d ≤ (B : Rat)) (hv2 : -(B : Rat) ≤ r + mkRat u d) (hN : B * Nat.lcm r.den d < 2 ^ 63) (h : q none (hP8 S (r + mkRat u d))) : RX4_add [tc_R 0 8, tc_J (lI u), tc_J (lN d)] S q := by
  refine inX4_add_b (fun P => ?_)
  unfold fmX4_add_0_b
  have hrd : 0 < r.den := r.den_pos
  obtain ⟨g, hg⟩ : ∃ g, g = Nat.gcd r.den d := ⟨_, rfl⟩
  have hg0 : 0 < g := by rw [hg]; exact Nat.gcd_pos_of_pos_right _ hd
  have hgd : g ∣ d := by rw [hg]; exact Nat.gcd_dvd_right _ _
  have hgr : g ∣ r.den := by rw [hg]; exact Nat.gcd_dvd_left _ _
  obtain ⟨d', rfl⟩ := hgd
  obtain ⟨e', he⟩ := hgr
  have hlcm : Nat.lcm r.den (g * d') = r.den * d' := by
    unfold Nat.lcm
    rw [← hg, Nat.mul_left_comm, Nat.mul_div_cancel_left _ hg0]
  rw [hlcm] at hD hN
  have hd'0 : 0 < d' := by
    rcases Nat.eq_zero_or_pos d' with rfl | z
    · simp at hd
    · exact z
  have hrd2 : r.den < 2 ^ 49 := Nat.lt_of_le_of_lt (Nat.le_mul_of_pos_right _ hd'0) hD
  have hgle : g ≤ r.den := Nat.le_of_dvd hrd ⟨e', he⟩
  rw [hr.2]
  refine s_gcd (by omega) hd2 (sgX4_add_8_b ?_)
  rw [← hg]
  refine ⟨fun z => absurd ((lg_cmp_le _ _).mp z) (l_nle0 hg0 (by omega)), fun _ => ⟨l_ne0 hg0 (by omega), l_ne0 hg0 (by omega), ?_⟩⟩
  rw [l_div (by omega) (by omega), hr.1, hr.2, l_div (by omega) (by omega), Nat.mul_div_cancel_left _ hg0]
  have e1 : r.den / g = e' := by rw [he, Nat.mul_div_cancel_left _ hg0]
  rw [e1, lN_mul, lN_lI d', lN_lI e', lI_mul, lI_mul, lI_add]
  have hsum : r + mkRat u (g * d') = mkRat (r.num * (d' : Int) + u * (e' : Int)) (r.den * d') := by
    conv => lhs; rw [← Rat.mkRat_self r]
    rw [Rat.mkRat_add_mkRat _ _ (by omega) (by omega)]
    rw [Rat.mkRat_eq_iff (by have := Nat.mul_pos hrd hd; omega) (by have := Nat.mul_pos hrd hd'0; omega)]
    have he2 : (r.den : Int) = (g : Int) * (e' : Int) := by rw [he, Int.natCast_mul]
    simp only [Int.natCast_mul, he2]
    grind
  have hNN : (r.num * (d' : Int) + u * (e' : Int)).natAbs < 2 ^ 63 := by
    refine Nat.lt_of_le_of_lt ?_ hN
    rw [hsum] at hv1 hv2
    exact h_val (Nat.mul_pos hrd hd'0) hv1 hv2
  refine s_become8 hNN (Nat.mul_pos hrd hd'0) hD (sgX4_add_51_b_v1 ?_)
  show q none _
  rw [← hsum]
  exact h
theorem s_divideBy8 {q : tc_Q} {S : tc_S} {r : Rat} {k : Nat} (hr : hF8 S r) (hk : 0 < k) (hD : r.den * k < 2 ^ 49) (hN : r.num.natAbs < 2 ^ 63) (h : q none (hP8 S (r / (k : Rat)))) : RX4_divideBy [tc_R 0 8, tc_J (lN k)] S q := by
  refine inX4_divideBy_b (fun P => ?_)
  unfold fmX4_divideBy_0_b
  rw [hr.1, hr.2, lN_mul]
  refine s_become8 hN (Nat.mul_pos r.den_pos hk) hD (sgX4_divideBy_14_b ?_)
  show q none _
  have e : mkRat r.num (r.den * k) = r / (k : Rat) := by
    rw [Rat.mkRat_eq_div]
    conv => rhs; rw [← Rat.mkRat_self r, Rat.mkRat_eq_div]
    have h1 : (r.den : Rat) ≠ 0 := by
      have := r.den_pos
      exact_mod_cast (by omega : r.den ≠ 0)
    have h2 : (k : Rat) ≠ 0 := by exact_mod_cast (by omega : k ≠ 0)
    rw [Rat.natCast_mul]
    grind
  rw [e]
  exact h

/-- the model's fraction is r -/
def mF (S : tc_S) (r : Rat) : Prop := S.2.1 34 10 = lI r.num ∧ S.2.1 34 11 = lN r.den
def mP (S : tc_S) (r : Rat) : tc_S := tc_ul (tc_ul S 34 10 (lI r.num)) 34 11 (lN r.den)
theorem mF_put (S : tc_S) (r : Rat) : mF (mP S r) r := by
  unfold mF mP
  constructor
  · rw [tc_ul_self]
    show (if (10 : Nat) = 11 then _ else _) = _
    rw [if_neg (by decide), tc_ul_self]
    exact if_pos rfl
  · rw [tc_ul_self]
    exact if_pos rfl
theorem mP_s (S : tc_S) (r : Rat) : hS [34] S (mP S r) := ((hS.rf _ S).ul (by decide)).ul (by decide)
theorem mP_1 (S : tc_S) (r : Rat) : (mP S r).1 = S.1 := rfl
theorem m_frac {q : tc_Q} {S : tc_S} {u : Int} {d : Nat} (hu : u.natAbs < 2 ^ 63) (hd : 0 < d) (hd2 : d < 2 ^ 63) (h : q none (mP S (mkRat u d))) : RX11_becomesFraction [tc_R 0 34, tc_J (lI u), tc_J (lN d)] S q := by
  refine inX11_becomesFraction (fun P h12 h17 => ?_)
  have hg : 0 < Nat.gcd u.natAbs d := Nat.gcd_pos_of_pos_right _ hd
  have hgd : Nat.gcd u.natAbs d ≤ d := Nat.gcd_le_right _ hd
  have e1 : (mkRat u d).num = u / ((Nat.gcd u.natAbs d : Nat) : Int) := by rw [Rat.num_mkRat, if_neg (by omega), Nat.gcd_comm]
  have e2 : (mkRat u d).den = d / Nat.gcd u.natAbs d := by rw [Rat.den_mkRat, if_neg (by omega), Nat.gcd_comm]
  unfold mP at h
  rw [e1, e2] at h
  have loop : ∀ n x y, y ≤ n → x < 2 ^ 63 → y < 2 ^ 63 → Nat.gcd x y = Nat.gcd u.natAbs d → P 17 [(0, tc_R 0 34), (1, tc_J (lI u)), (3, tc_J (lN d)), (5, tc_J (lN x)), (7, tc_J (lN y))] [] S := by
    have stop : ∀ x y, y = 0 → Nat.gcd x y = Nat.gcd u.natAbs d → P 17 [(0, tc_R 0 34), (1, tc_J (lI u)), (3, tc_J (lN d)), (5, tc_J (lN x)), (7, tc_J (lN y))] [] S := by
      intro x y hy hg2
      subst hy
      rw [Nat.gcd_zero_right] at hg2
      subst hg2
      refine h17 _ _ _ _ _ ⟨fun _ => ⟨l_ne0 hg (by omega), l_ne0 hg (by omega), ?_⟩, fun z => absurd ((lg_cmp_eq _ _).mpr rfl) z⟩
      rw [l_divI hu (by omega) (Nat.gcd_dvd_left _ _), l_div (by omega) (by omega)]
      exact h
    intro n
    induction n with
    | zero => intro x y hy hx hy2 hg2; exact stop x y (Nat.le_zero.mp hy) hg2
    | succ n ih =>
      intro x y hy hx hy2 hg2
      rcases Nat.eq_zero_or_pos y with h0 | h0
      · exact stop x y h0 hg2
      · refine h17 _ _ _ _ _ ⟨fun z => absurd ((lg_cmp_eq _ _).mp z) (l_ne0 h0 hy2), fun _ => ⟨l_ne0 h0 hy2, ?_⟩⟩
        rw [l_rem hx hy2]
        have := Nat.mod_lt x h0
        refine ih y (x % y) (by omega) hy2 (by omega) ?_
        rw [← hg2, Nat.gcd_comm x y, Nat.gcd_rec y x, Nat.gcd_comm]
  have e0 : (0 : Int64).toInt = 0 := by decide
  have e := lI_toInt hu
  refine ⟨fun z => h12 _ _ _ _ ?_, fun z => h12 _ _ _ _ ?_⟩
  · have z2 := Int64.le_iff_toInt_le.mp ((lg_cmp_ge _ _).mp z)
    have eq9 : lI u = lN u.natAbs := by
      rw [lN_lI]
      congr 1
      omega
    have := loop d u.natAbs d (Nat.le_refl d) hu hd2 rfl
    rw [← eq9] at this
    exact this
  · have z2 : ¬ 0 ≤ u := fun z3 => z ((lg_cmp_ge _ _).mpr (Int64.le_iff_toInt_le.mpr (by omega)))
    have eq9 : - lI u = lN u.natAbs := by
      rw [lN_lI, lI_neg]
      congr 1
      omega
    have := loop d u.natAbs d (Nat.le_refl d) hu hd2 rfl
    rw [← eq9] at this
    exact this
theorem m_adds {q : tc_Q} {S : tc_S} {r : Rat} {u : Int} {d : Nat} (hr : mF S r) (hd : 0 < d) (hD : r.den * d < 2 ^ 63) {B : Nat} (hv1 : r + mkRat u d ≤ (B : Rat)) (hv2 : -(B : Rat) ≤ r + mkRat u d) (hN : B * (r.den * d) < 2 ^ 63) (h : q none (mP S (r + mkRat u d))) : RX11_adds [tc_R 0 34, tc_J (lI u), tc_J (lN d)] S q := by
  refine inX11_adds (fun P => ?_)
  unfold fmX11_adds_0
  have hrd : 0 < r.den := r.den_pos
  rw [hr.1, hr.2, lN_mul, lN_lI d, lN_lI r.den, lI_mul, lI_mul, lI_add]
  have hsum : r + mkRat u d = mkRat (r.num * (d : Int) + u * (r.den : Int)) (r.den * d) := by
    conv => lhs; rw [← Rat.mkRat_self r]
    rw [Rat.mkRat_add_mkRat _ _ (by omega) (by omega)]
  have hNN : (r.num * (d : Int) + u * (r.den : Int)).natAbs < 2 ^ 63 := by
    refine Nat.lt_of_le_of_lt ?_ hN
    rw [hsum] at hv1 hv2
    exact h_val (Nat.mul_pos hrd hd) hv1 hv2
  refine m_frac hNN (Nat.mul_pos hrd hd) hD (sgX11_adds_23 ?_)
  show q none _
  rw [← hsum]
  exact h
