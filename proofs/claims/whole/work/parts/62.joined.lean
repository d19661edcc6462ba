/-! what is lost as two bins are joined -/
def zJ (B : Nat → Nat → Nat) (k : Nat) : Nat → Nat → Nat := fun i j => if j = k + 1 then 0 else if j = k then (if i = 0 ∨ i = 1 then B i k + B i (k + 1) else B i k) else B i j
theorem hSu_mg {c : Nat → Nat} {k : Nat} : ∀ d, hSu (fun j => if j = k + 1 then 0 else if j = k then c k + c (k + 1) else c j) (k + 2 + d) = hSu c (k + 2 + d) := by
  have low : ∀ K, K ≤ k → hSu (fun j => if j = k + 1 then 0 else if j = k then c k + c (k + 1) else c j) K = hSu c K := fun K hK => hSu_congr K (fun j hj => by rw [if_neg (by omega), if_neg (by omega)])
  intro d
  induction d with
  | zero =>
    simp only [Nat.add_zero, hSu, low k (Nat.le_refl k)]
    rw [if_neg (by omega), if_pos trivial, if_pos trivial]
    omega
  | succ d ih =>
    have e1 : ∀ c : Nat → Nat, hSu c (k + 2 + (d + 1)) = hSu c (k + 2 + d) + c (k + 2 + d) := fun _ => rfl
    rw [e1, e1, ih, if_neg (by omega), if_neg (by omega)]
theorem hQ_congr {f f' : Nat → Int} {c c' : Nat → Nat} : ∀ K, (∀ k, k < K → f k = f' k ∧ c k = c' k) → hQ f c K = hQ f' c' K := by
  intro K
  induction K with
  | zero => intro _; rfl
  | succ K ih => intro h; simp only [hQ, ih (fun k hk => h k (by omega)), (h K (by omega)).1, (h K (by omega)).2]
theorem hQ_mg {f f' : Nat → Int} {c c' : Nat → Nat} {k : Nat} (h : ∀ j, j ≠ k → j ≠ k + 1 → f j = f' j ∧ c j = c' j) (h1 : c' (k + 1) = 0) : ∀ d, hQ f c (k + 2 + d) - hQ f' c' (k + 2 + d) = mkRat (f k) (c k) + mkRat (f (k + 1)) (c (k + 1)) - mkRat (f' k) (c' k) := by
  have low := hQ_congr k (fun j (hj : j < k) => h j (by omega) (by omega))
  intro d
  induction d with
  | zero =>
    simp only [Nat.add_zero, hQ, low, h1, Rat.mkRat_zero]
    generalize hQ f' c' k = a
    generalize mkRat (f k) (c k) = b
    generalize mkRat (f (k + 1)) (c (k + 1)) = e
    generalize mkRat (f' k) (c' k) = g
    grind
  | succ d ih =>
    have e1 : ∀ (f : Nat → Int) (c : Nat → Nat), hQ f c (k + 2 + (d + 1)) = hQ f c (k + 2 + d) + mkRat (f (k + 2 + d)) (c (k + 2 + d)) := fun _ _ => rfl
    obtain ⟨g1, g2⟩ := h (k + 2 + d) (by omega) (by omega)
    rw [e1, e1, g1, g2, ← ih]
    generalize hQ f' c' (k + 2 + d) = a
    generalize hQ f c (k + 2 + d) = b
    generalize mkRat (f' (k + 2 + d)) (c' (k + 2 + d)) = e
    grind
theorem zJ_ok {B : Nat → Nat → Nat} {n Y K k : Nat} (h : zOk B n Y K) (hk : k + 1 < K) : zOk (zJ B k) n Y K := by
  obtain ⟨d, rfl⟩ : ∃ d, K = k + 2 + d := ⟨K - (k + 2), by omega⟩
  refine ⟨fun j hj => ?_, ?_, ?_, h.2.2.2⟩
  · have b0 := h.1 j hj
    have b1 := h.1 (k + 1) hk
    unfold zJ
    by_cases e1 : j = k + 1
    · simp [e1]
    · by_cases e2 : j = k
      · subst e2
        simp only [if_neg e1, if_true]
        simp
        omega
      · simp only [if_neg e1, if_neg e2]
        exact b0
  · rw [← h.2.1, ← hSu_mg (c := B 0) (k := k) d]
    rfl
  · rw [← h.2.2.1, ← hSu_mg (c := B 1) (k := k) d]
    rfl
theorem z_join {c d y x n Y : Nat} (hc : 0 < c) (hd : 0 < d) (hn : 0 < n) : (mkRat (((y : Int) * n - (Y : Int) * c) * ((y : Int) * n - (Y : Int) * c)) c + mkRat (((x : Int) * n - (Y : Int) * d) * ((x : Int) * n - (Y : Int) * d)) d - mkRat ((((y + x : Nat) : Int) * n - (Y : Int) * (c + d : Nat)) * (((y + x : Nat) : Int) * n - (Y : Int) * (c + d : Nat))) (c + d)) / ((n * n * n : Nat) : Rat) = mkRat (((y : Int) * d - (x : Int) * c) * ((y : Int) * d - (x : Int) * c)) (c * d * (c + d) * n) := by
  have ne : ∀ {m : Nat}, 0 < m → (m : Rat) * (m : Rat)⁻¹ = 1 := fun {m} hm => Rat.mul_inv_cancel _ (by
    intro z
    have := Rat.natCast_eq_zero_iff.mp z
    omega)
  have i1 := ne hc
  have i2 := ne hd
  have i3 := ne hn
  have i4 := ne (show 0 < c + d by omega)
  rw [z_sq hc, z_sq hd, z_sq (show 0 < c + d by omega)]
  simp only [Rat.mkRat_eq_div, Rat.div_def, Rat.natCast_mul, Rat.inv_mul_rev, Rat.natCast_add, Rat.intCast_mul, Rat.intCast_sub, Rat.intCast_natCast, Rat.natCast_add] at i4 ⊢
  generalize (n : Rat)⁻¹ = ni at i3 ⊢
  generalize (c : Rat)⁻¹ = ci at i1 ⊢
  generalize (d : Rat)⁻¹ = di at i2 ⊢
  generalize ((c : Rat) + (d : Rat))⁻¹ = ei at i4 ⊢
  generalize (n : Rat) = n' at i3 ⊢
  generalize (c : Rat) = c' at i1 i4 ⊢
  generalize (d : Rat) = d' at i2 i4 ⊢
  generalize (y : Rat) = y'
  generalize (x : Rat) = x'
  generalize (Y : Rat) = Y'
  grind
/-- the loss -/
def zL (B : Nat → Nat → Nat) (n k : Nat) : Rat := if B 0 k = 0 ∨ B 0 (k + 1) = 0 then 0 else mkRat (((B 1 k : Int) * B 0 (k + 1) - (B 1 (k + 1) : Int) * B 0 k) * ((B 1 k : Int) * B 0 (k + 1) - (B 1 (k + 1) : Int) * B 0 k)) (B 0 k * B 0 (k + 1) * (B 0 k + B 0 (k + 1)) * n)
theorem z_loss {B : Nat → Nat → Nat} {n Y K k : Nat} (h : zOk B n Y K) (hk : k + 1 < K) : zV B n Y K 1 + -(zV (zJ B k) n Y K 1) = zL B n k := by
  obtain ⟨d, rfl⟩ : ∃ d, K = k + 2 + d := ⟨K - (k + 2), by omega⟩
  have hm := hQ_mg (f := zT B n Y 1) (f' := zT (zJ B k) n Y 1) (c := B 0) (c' := zJ B k 0) (k := k) (fun j h1 h2 => by
    have e : ∀ i, zJ B k i j = B i j := fun i => by unfold zJ; rw [if_neg h2, if_neg h1]
    refine ⟨?_, (e 0).symm⟩
    show ((B 1 j : Int) * n - (Y : Int) * B 0 j) * ((B 1 j : Int) * n - (Y : Int) * B 0 j) = ((zJ B k 1 j : Int) * n - (Y : Int) * zJ B k 0 j) * ((zJ B k 1 j : Int) * n - (Y : Int) * zJ B k 0 j)
    rw [e, e]) (by simp [zJ]) d
  have e0 : zJ B k 0 k = B 0 k + B 0 (k + 1) := by simp [zJ]
  have e1 : zJ B k 1 k = B 1 k + B 1 (k + 1) := by simp [zJ]
  have t : ∀ (B : Nat → Nat → Nat) j, zT B n Y 1 j = ((B 1 j : Int) * n - (Y : Int) * B 0 j) * ((B 1 j : Int) * n - (Y : Int) * B 0 j) := fun _ _ => rfl
  rw [t, t, t, e0, e1] at hm
  have hv : ∀ B : Nat → Nat → Nat, zV B n Y (k + 2 + d) 1 = hQ (zT B n Y 1) (B 0) (k + 2 + d) * ((n * n * n : Nat) : Rat)⁻¹ := fun _ => rfl
  have b0 := (h.1 k (by omega)).1
  have b1 := (h.1 (k + 1) (by omega)).1
  rw [hv, hv, ← Rat.neg_mul, ← Rat.add_mul, ← Rat.sub_eq_add_neg, hm, ← Rat.div_def]
  unfold zL
  rcases Nat.eq_zero_or_pos (B 0 k) with g | g
  · rw [if_pos (Or.inl g), g, show B 1 k = 0 by omega, Rat.mkRat_zero, Nat.zero_add, Nat.zero_add, Rat.zero_add, Rat.sub_self, Rat.div_def, Rat.zero_mul]
  · rcases Nat.eq_zero_or_pos (B 0 (k + 1)) with g1 | g1
    · rw [if_pos (Or.inr g1), g1, show B 1 (k + 1) = 0 by omega, Rat.mkRat_zero, Nat.add_zero, Nat.add_zero, Rat.add_zero, Rat.sub_self, Rat.div_def, Rat.zero_mul]
    · rw [if_neg (by omega)]
      exact z_join g g1 h.2.2.2.1
theorem zJ_b {B : Nat → Nat → Nat} {n Y K k : Nat} (h : zOk B n Y K) (hk : k + 1 < K) : ∀ j, j < K → 0 < zJ B k 0 j → ∃ D A b, 0 < D ∧ rI (zV B n Y K 1 + hQ (fun j => -1 * zT (zJ B k) n Y 1 j) (fun j => zJ B k 0 j * zM n 1) j) D A ∧ (-1 * zT (zJ B k) n Y 1 j).natAbs ≤ b * (zJ B k 0 j * zM n 1) ∧ 0 < A + b ∧ (A + b) * (D * (zJ B k 0 j * zM n 1)) < 2 ^ 63 := by
  have hJ := zJ_ok h hk
  have hP0 := hPi_pos (B 0) K
  have hn := h.2.2.2.2.1
  have hn0 := h.2.2.2.1
  have hsum : hSu (B 0) K ≤ 40 := by rw [h.2.1]; exact hn
  have hPl := hPi_lt hsum
  have hM0 := zM_pos (n := n) (p := 1) hn0
  have hMl : zM n 1 ≤ 64000 := Nat.mul_le_mul (Nat.mul_le_mul hn hn) hn
  have he : zb n 1 * n ≤ 1 * zM n 1 := zM_b1 (by decide)
  have hr : rI (zV B n Y K 1) (hPi (B 0) K * zM n 1) 1 := rI_V h (by decide) he
  have hT : ∀ j, j < K → (-1 * zT (zJ B k) n Y 1 j).natAbs ≤ zb n 1 * zJ B k 0 j * zJ B k 0 j := by
    intro j hj
    rw [Int.natAbs_mul, show (-1 : Int).natAbs = 1 from rfl, Nat.one_mul]
    exact zT_le hJ hj 1
  have hsj : ∀ j, j ≤ K → zb n 1 * hSu (zJ B k 0) j ≤ zb n 1 * n := by
    intro j hj
    refine Nat.mul_le_mul_left _ ?_
    have := hSu_mono (c := zJ B k 0) hj
    rw [hJ.2.1] at this
    exact this
  intro j hj hc
  have hcj := zOk_c hJ hj
  have hu : (-1 * zT (zJ B k) n Y 1 j).natAbs ≤ 1 * (zJ B k 0 j * zM n 1) := by
    have a1 := hT j hj
    have a3 := Nat.mul_le_mul_right (zJ B k 0 j) (Nat.le_trans (Nat.mul_le_mul_left (zb n 1) hcj) he)
    rw [Nat.mul_assoc 1, Nat.mul_comm (zM n 1)] at a3
    exact Nat.le_trans a1 a3
  have same : ∀ i, i ≠ k → i ≠ k + 1 → zJ B k 0 i = B 0 i := fun i h1 h2 => by unfold zJ; rw [if_neg h2, if_neg h1]
  rcases Nat.lt_or_ge k j with hkj | hkj
  · have hjk : j ≠ k + 1 := by
      intro e
      rw [e] at hc
      simp [zJ] at hc
    generalize hm : (if B 0 k + B 0 (k + 1) = 0 then 1 else B 0 k + B 0 (k + 1)) = m
    have hm0 : 0 < m := by rw [← hm]; split <;> omega
    have hm40 : m ≤ 40 := by
      have := zOk_c hJ (show k < K by omega)
      have e0 : zJ B k 0 k = B 0 k + B 0 (k + 1) := by simp [zJ]
      rw [e0] at this
      rw [← hm]
      split <;> omega
    have hd : ∀ i, i < K → 0 < zJ B k 0 i → zJ B k 0 i ∣ hPi (B 0) K * m := by
      intro i hi hi0
      by_cases g1 : i = k + 1
      · rw [g1] at hi0
        simp [zJ] at hi0
      · by_cases g2 : i = k
        · have e0 : zJ B k 0 k = B 0 k + B 0 (k + 1) := by simp [zJ]
          rw [g2, e0] at hi0 ⊢
          rw [← hm, if_neg (by omega)]
          exact Nat.dvd_mul_left _ _
        · rw [same i g2 g1] at hi0 ⊢
          exact Nat.dvd_mul_right_of_dvd (hPi_dvd K hi hi0) _
    have hDm : 0 < hPi (B 0) K * m := Nat.mul_pos hP0 hm0
    have hD : 0 < hPi (B 0) K * m * zM n 1 := Nat.mul_pos hDm hM0
    refine ⟨hPi (B 0) K * m * zM n 1, 1 + 1, 1, hD, rI_add hD (rI_wk hr (Nat.mul_dvd_mul_right (Nat.dvd_mul_right _ _) _) hD (Nat.le_refl _)) ?_, hu, by decide, ?_⟩
    · rw [hQ_div]
      exact rI_div (rI_Qd hDm hd hT j (by omega)) (Nat.le_trans (hsj j (by omega)) he)
    · rw [same j (by omega) hjk]
      have a1 := hPi_lt2 (c := B 0) hj hsum
      have a2 : hPi (B 0) K * m * zM n 1 * (B 0 j * zM n 1) = (B 0 j * hPi (B 0) K) * (m * (zM n 1 * zM n 1)) := by
        simp only [Nat.mul_assoc, Nat.mul_left_comm, Nat.mul_comm]
      rw [a2]
      have := Nat.mul_le_mul (show B 0 j * hPi (B 0) K ≤ 9300000 by omega) (Nat.mul_le_mul hm40 (Nat.mul_le_mul hMl hMl))
      omega
  · have hD : 0 < hPi (B 0) K * zM n 1 := Nat.mul_pos hP0 hM0
    refine ⟨hPi (B 0) K * zM n 1, 1 + 1, 1, hD, rI_add hD hr ?_, hu, by decide, ?_⟩
    · rw [hQ_div]
      refine rI_div (rI_Qd (K := j) hP0 (fun i hi hi0 => ?_) (fun i hi => hT i (by omega)) j (Nat.le_refl j)) (Nat.le_trans (hsj j (by omega)) he)
      rw [same i (by omega) (by omega)] at hi0 ⊢
      exact hPi_dvd K (by omega) hi0
    · have := Nat.mul_le_mul (Nat.mul_le_mul (show hPi (B 0) K ≤ 2300000 by omega) hMl) (Nat.mul_le_mul (Nat.le_trans hcj hn) hMl)
      omega
section PJOIN
variable {q : tc_Q} {S : tc_S} {B : Nat → Nat → Nat} {n Y K k p t : Nat} {x1 x2 x3 : Int32}
theorem l_eq0 {c : Nat} (hc : c < 2 ^ 63) : lg_cmp (lN c) 0 = 0 ↔ c = 0 := by
  rw [lg_cmp_eq]
  exact l_eq (b := 0) hc (by decide)
theorem s_joinLoss (h42 : S.1 4 2 = nI n) (hz : zR (S.1 22) (S.1 23) (S.1 24) (S.1 25) (S.1 26) B K) (hok : zOk B n Y K) (hk : k + 1 < K) (h : ∀ S', hS [7] S S' → S'.1 = S.1 → hF7 S' (zL B n k) → q none S') : RX0_findJoinLoss [tc_R 0 5, tc_I (nI k), tc_R 0 4, tc_R 0 7] S q := by
  have hn := hok.2.2.2.2.1
  have hn0 := hok.2.2.2.1
  have h10 := hok.2.2.2.2.2
  have c0 := zOk_c hok (show k < K by omega)
  have c1 := zOk_c hok hk
  have e0 := (hz k (by omega)).1
  have e1 := (hz (k + 1) hk).1
  have i0 : vp_in (nI k) 10 := vp_in_nI (by omega) (by decide)
  have i1 : vp_in (nI k + 1) 10 := by rw [← nI_succ]; exact vp_in_nI (by omega) (by decide)
  refine inX0_findJoinLoss (fun P h34 => ?_)
  have zero : zL B n k = 0 → P 34 [(3, tc_R 0 7)] [] S := by
    intro e
    refine h34 _ (s_become7 (u := 0) (d := 1) (by decide) (by decide) (by decide) (sgX0_findJoinLoss_40 (h _ (hP7_s _ _) rfl ?_)))
    rw [e, Rat.zero_mkRat]
    exact hF7_put S 0
  unfold fmX0_findJoinLoss_0
  rw [← nI_succ, nI_clamp (by omega), nI_clamp (by omega), e0, e1, nI_l (by omega), nI_l (by omega), l_eq0 (by omega), l_eq0 (by omega)]
  rw [← nI_succ] at i1
  refine ⟨i0, i1, fun z => zero ?_, fun z => ⟨fun z1 => zero ?_, fun z1 => ⟨i0, i1, ?_⟩⟩⟩
  · unfold zL
    rw [if_pos (Or.inl z)]
  · unfold zL
    rw [if_pos (Or.inr z1)]
  · obtain ⟨_, y0, _, _, _⟩ := zR_b hz hok (show k < K by omega) (by omega)
    obtain ⟨_, y1, _, _, _⟩ := zR_b hz hok hk (by omega)
    rw [y0, y1, lN_lI (B 0 k), lN_lI (B 0 (k + 1)), lI_mul, lI_mul, lI_sub]
    refine inX0_squared (fun P2 => sgX0_findJoinLoss_68 ?_)
    unfold fmX0_findJoinLoss_68
    rw [lI_mul, h42, nI_l (by omega), lN_lI n, lI_mul, lI_add, lI_mul, lI_mul]
    have ed : (B 0 k : Int) * B 0 (k + 1) * ((B 0 k : Int) + B 0 (k + 1)) * (n : Int) = ((B 0 k * B 0 (k + 1) * (B 0 k + B 0 (k + 1)) * n : Nat) : Int) := by
      simp only [Int.natCast_mul, Int.natCast_add]
    rw [ed, ← lN_lI]
    have b0 := (hok.1 k (by omega)).1
    have b1 := (hok.1 (k + 1) hk).1
    have p1 : 0 < B 0 k * B 0 (k + 1) * (B 0 k + B 0 (k + 1)) * n := Nat.mul_pos (Nat.mul_pos (Nat.mul_pos (by omega) (by omega)) (by omega)) hn0
    have p2 := Nat.mul_le_mul (Nat.mul_le_mul (Nat.mul_le_mul (show B 0 k ≤ 40 by omega) (show B 0 (k + 1) ≤ 40 by omega)) (show B 0 k + B 0 (k + 1) ≤ 80 by omega)) hn
    refine s_become7 ?_ p1 (by omega) (sgX0_findJoinLoss_88 (h _ (hP7_s _ _) rfl ?_))
    · rw [Int.natAbs_mul]
      have a1 : ((B 1 k : Int) * B 0 (k + 1) - (B 1 (k + 1) : Int) * B 0 k).natAbs ≤ 1600 := by
        rw [← Int.natCast_mul, ← Int.natCast_mul]
        exact h_dif (Nat.mul_le_mul (show B 1 k ≤ 40 by omega) (show B 0 (k + 1) ≤ 40 by omega)) (Nat.mul_le_mul (show B 1 (k + 1) ≤ 40 by omega) (show B 0 k ≤ 40 by omega))
      have := Nat.mul_le_mul a1 a1
      omega
    · unfold zL
      rw [if_neg (by omega)]
      exact hF7_put _ _
end PJOIN
