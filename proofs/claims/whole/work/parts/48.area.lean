/-! area -/
def hHf (a b : Nat) : Nat := if b < a then 2 else if a = b then 1 else 0
def hIn (p : Nat) (l : List (Nat × Bool)) : Nat := (l.map (fun c => if c.2 then 0 else hHf p c.1)).sum
def hHv (l m : List (Nat × Bool)) : Nat := (l.map (fun c => if c.2 then hIn c.1 m else 0)).sum
def hNo (l : List (Nat × Bool)) : Nat := (l.filter (fun c => !c.2)).length
theorem hIn_push (p : Nat) (l : List (Nat × Bool)) (c : Nat × Bool) : hIn p (l ++ [c]) = hIn p l + if c.2 then 0 else hHf p c.1 := by simp [hIn]
theorem hHv_push (l m : List (Nat × Bool)) (c : Nat × Bool) : hHv (l ++ [c]) m = hHv l m + if c.2 then hIn c.1 m else 0 := by simp [hHv]
theorem hNo_push (l : List (Nat × Bool)) (c : Nat × Bool) : hNo (l ++ [c]) = hNo l + if c.2 then 0 else 1 := by
  unfold hNo
  rw [List.filter_append, List.length_append]
  cases h : c.2 <;> simp [h]
theorem hY_push (l : List (Nat × Bool)) (c : Nat × Bool) : hY (l ++ [c]) = hY l + if c.2 then 1 else 0 := by
  unfold hY
  rw [List.filter_append, List.length_append]
  cases h : c.2 <;> simp [h]
theorem hYN (l : List (Nat × Bool)) : hY l + hNo l = l.length := by
  induction l with
  | nil => rfl
  | cons c l ih =>
    unfold hY hNo at *
    cases h : c.2
    · simp [h]; omega
    · simp [h]; omega
theorem hHf_le (a b : Nat) : hHf a b ≤ 2 := by
  unfold hHf
  split
  · omega
  · split <;> omega
theorem hIn_le (p : Nat) (l : List (Nat × Bool)) : hIn p l ≤ 2 * hNo l := by
  induction l with
  | nil => simp [hIn]
  | cons c l ih =>
    have h2 := hHf_le p c.1
    unfold hIn hNo at *
    cases h : c.2
    · simp [h]; omega
    · simp [h]; omega
theorem hHv_le (l m : List (Nat × Bool)) : hHv l m ≤ hY l * (2 * hNo m) := by
  induction l with
  | nil => simp [hHv]
  | cons c l ih =>
    have h2 := hIn_le c.1 m
    unfold hHv hY at *
    cases h : c.2
    · simp [h]; omega
    · simp [h, Nat.add_mul]; omega
section HAREA
variable {q : tc_Q} {S : tc_S} {x1 x2 : Int32} {t : Nat}
theorem s_cmp {a b : Nat} (ha : a ≤ 100) (hb : b ≤ 100) (h : ∀ v : Int32, 1 + v = nI (hHf a b) → q (some (tc_I v)) S) : RJ6_compare_7cf53 [tc_I (nI a), tc_I (nI b)] S q := by
  refine inJ6_compare_7cf53 (fun P => ⟨fun z => ⟨fun z2 => h _ ?_, fun z2 => h _ ?_⟩, fun z => h _ ?_⟩)
  · have e := (nI_eq (by omega) (by omega)).mp z2
    unfold hHf
    rw [if_neg (by omega), if_pos e]
    rfl
  · have g := (nI_leI (by omega) (by omega)).mp z
    have e : ¬ a = b := fun e => z2 (by rw [e])
    unfold hHf
    rw [if_pos (by omega)]
    rfl
  · have g : ¬ b ≤ a := fun g => z (nI_le g (by omega))
    unfold hHf
    rw [if_neg (by omega), if_neg (by omega)]
    decide
theorem s_halves {l : List (Nat × Bool)} (hc : cC S l) (h : q (some (tc_J (lN (hHv l l)))) S) : RX2_halvesWellRanked [tc_R 0 4] S q := by
  refine inX2_halvesWellRanked (fun P h4 h15 h65 => ?_)
  obtain ⟨c1, c2, c3, c4, c5⟩ := hc
  have loop : ∀ d n, n + d = l.length → P 4 [(0, tc_R 0 4), (1, tc_J (lN (hHv (l.take n) l))), (3, tc_I (nI n))] [] S := by
    intro d
    induction d with
    | zero =>
      intro n hn
      refine h4 _ _ _ ⟨fun _ => ?_, fun z => absurd (by rw [c3]; exact nI_le (by omega) (by omega)) z⟩
      rw [List.take_of_length_le (by omega)]
      exact h
    | succ d ih =>
      intro n hn
      obtain ⟨c, hcn⟩ : ∃ c, l[n]? = some c := ⟨l[n], List.getElem?_eq_getElem (by omega)⟩
      have ih' := ih (n + 1) (by omega)
      rw [h_take hcn, hHv_push, nI_succ] at ih'
      refine h4 _ _ _ ⟨fun z => absurd z (by rw [c3]; exact nI_ge (by omega) (by omega)), fun _ => ?_⟩
      have loop2 : ∀ d2 m, m + d2 = l.length → P 15 [(0, tc_R 0 4), (1, tc_J (lN (hHv (l.take n) l + if c.2 then hIn c.1 (l.take m) else 0))), (3, tc_I (nI n)), (4, tc_I (nI m))] [] S := by
        intro d2
        induction d2 with
        | zero =>
          intro m hm
          refine h15 _ _ _ _ ⟨fun _ => ?_, fun z => absurd (by rw [c3]; exact nI_le (by omega) (by omega)) z⟩
          have em : l.take m = l := List.take_of_length_le (by omega)
          rw [em]
          exact ih'
        | succ d2 ih2 =>
          intro m hm
          obtain ⟨f, hfm⟩ : ∃ f, l[m]? = some f := ⟨l[m], List.getElem?_eq_getElem (by omega)⟩
          have ih2' := ih2 (m + 1) (by omega)
          rw [h_take hfm, hIn_push, nI_succ m] at ih2'
          refine h15 _ _ _ _ ⟨fun z => absurd z (by rw [c3]; exact nI_ge (by omega) (by omega)), fun _ => ?_⟩
          rw [nI_clamp (by omega), nI_clamp (by omega), (c5 n c hcn).2, (c5 m f hfm).2, (c5 n c hcn).1, (c5 m f hfm).1]
          have hn40 : vp_in (nI n) 40 := vp_in_nI (by omega) (by decide)
          have hm40 : vp_in (nI m) 40 := vp_in_nI (by omega) (by decide)
          cases hc2 : c.2 with
          | false =>
            simp only [hc2, Bool.false_eq_true, if_false] at ih2' ⊢
            exact ⟨hn40, h_b0 (h65 _ _ _ _ ih2')⟩
          | true =>
            simp only [hc2, if_true] at ih2' ⊢
            refine ⟨hn40, h_b1 ⟨hm40, ?_⟩⟩
            cases hf2 : f.2 with
            | true =>
              simp only [hf2, if_true, Nat.add_zero] at ih2' ⊢
              exact h_b1 (h65 _ _ _ _ ih2')
            | false =>
              simp only [hf2, Bool.false_eq_true, if_false] at ih2' ⊢
              refine h_b0 ⟨hn40, hm40, s_cmp (c2 c (List.mem_of_getElem? hcn)) (c2 f (List.mem_of_getElem? hfm)) (fun v hv => sgX2_halvesWellRanked_61 (h65 _ _ _ _ ?_))⟩
              unfold fmX2_halvesWellRanked_65
              have hle := hHf_le c.1 f.1
              rw [hv, nI_l (by omega), lN_add, Nat.add_assoc]
              exact ih2'
      have := loop2 l.length 0 (by omega)
      have e0 : (hHv (l.take n) l + if c.2 then hIn c.1 (l.take 0) else 0) = hHv (l.take n) l := by
        rw [List.take_zero]
        split
        · rfl
        · rfl
      rw [e0] at this
      exact this
  exact loop l.length 0 (by omega)
theorem h_st2 (hb : mB S) {e : Nat} (he : e < 40) (h0 : ¬ S.1 36 e = 0) : S.1 36 e = 2 ↔ ¬ S.1 36 e = 1 := by
  rcases hb.2.2 e he with g | g | g
  · exact absurd g h0
  · rw [g]; decide
  · rw [g]; decide
theorem m_area {j : Nat} (hb : mB S) (ht : t < 5) (hj : j < 2) (h0 : hY (mL S t 40) * hNo (mL S t 40) = 0 → q (some (tc_J (-9223372036854775808))) S) (h1 : 0 < hY (mL S t 40) * hNo (mL S t 40) → q (some (tc_J (hPick (mkRat (hHv (mL S t 40) (mL S t 40)) (2 * (hY (mL S t 40) * hNo (mL S t 40)))) j))) (mP S (mkRat (hHv (mL S t 40) (mL S t 40)) (2 * (hY (mL S t 40) * hNo (mL S t 40)))))) : RX11_area [tc_R 0 34, tc_I (nI t), tc_I (nI j)] S q := by
  refine inX11_area (fun P h28 h38 h128 h131 => m_any1 ht (sgX11_area_4 (h_b1 (m_within1 (n := 1) (by decide) hj (sgX11_area_13 (h_b1 ?_))))))
  have hlen : (mL S t 40).length ≤ 40 := hL_len _ _ _ _ _
  have hyn := hYN (mL S t 40)
  have hprod : hY (mL S t 40) * hNo (mL S t 40) ≤ 40 * 40 := Nat.mul_le_mul (by omega) (by omega)
  have hhv := hHv_le (mL S t 40) (mL S t 40)
  rw [Nat.mul_left_comm] at hhv
  have loop : ∀ d n, n + d = 40 → P 28 [(0, tc_R 0 34), (1, tc_I (nI t)), (2, tc_I (nI j)), (3, tc_I (nI (hY (mL S t n) * hNo (mL S t 40)))), (4, tc_I (nI (hHv (mL S t n) (mL S t 40)))), (5, tc_I (nI n))] [] S := by
    intro d
    induction d with
    | zero =>
      intro n hn
      have e : n = 40 := by omega
      subst e
      refine h28 _ _ _ _ _ _ ⟨fun _ => ⟨fun z => h0 ((nI_eq (by omega) (by decide)).mp z), fun z => ?_⟩, fun z => absurd (nI_le (Nat.le_refl 40) (by decide)) z⟩
      have hpos : 0 < hY (mL S t 40) * hNo (mL S t 40) := by
        rcases Nat.eq_zero_or_pos (hY (mL S t 40) * hNo (mL S t 40)) with g | g
        · exact absurd (by rw [g]; rfl) z
        · exact g
      rw [nI_l (by omega), nI_l (by omega), show (2 : Int64) = lN 2 from rfl, lN_mul, lN_lI (hHv _ _)]
      exact m_frac (by omega) (by omega) (by omega) (sgX11_area_164 (m_part (mF_put _ _) hj (sgX11_area_169 (h1 hpos))))
    | succ d ih =>
      intro n hn
      have ih' := ih (n + 1) (by omega)
      rw [nI_succ n] at ih'
      refine h28 _ _ _ _ _ _ ⟨fun z => absurd z (nI_ge (show n < 40 by omega) (by decide)), fun _ => ?_⟩
      by_cases hz : S.1 36 n = 0 ∨ hT (S.1 35) (S.1 37) t n = -9
      · rw [mL_no hz] at ih'
        have loop2 : ∀ d2 m, m + d2 = 40 → P 38 [(0, tc_R 0 34), (1, tc_I (nI t)), (2, tc_I (nI j)), (3, tc_I (nI (hY (mL S t n) * hNo (mL S t 40)))), (4, tc_I (nI (hHv (mL S t n) (mL S t 40)))), (5, tc_I (nI n)), (6, tc_I (nI m))] [] S := by
          intro d2
          induction d2 with
          | zero =>
            intro m hm
            have e : m = 40 := by omega
            subst e
            exact h38 _ _ _ _ _ _ _ ⟨fun _ => ih', fun z => absurd (nI_le (Nat.le_refl 40) (by decide)) z⟩
          | succ d2 ih2 =>
            intro m hm
            have ih2' := ih2 (m + 1) (by omega)
            rw [nI_succ m] at ih2'
            exact h38 _ _ _ _ _ _ _ ⟨fun z => absurd z (nI_ge (show m < 40 by omega) (by decide)), fun _ => m_case hb ht (by omega) (fun _ => sgX11_area_52 (h_b0 (h131 _ _ _ _ _ _ _ ih2'))) (fun g => absurd hz g)⟩
        exact loop2 40 0 rfl
      · obtain ⟨p, hp, e8, e9⟩ := mL_yes hb ht (show n < 40 by omega) hz
        rw [e9, hY_push, hHv_push] at ih'
        have hst0 : ¬ S.1 36 n = 0 := fun g => hz (Or.inl g)
        by_cases hyes : S.1 36 n = 1
        · simp only [hyes, decide_true, if_true] at ih'
          have loop2 : ∀ d2 m, m + d2 = 40 → P 38 [(0, tc_R 0 34), (1, tc_I (nI t)), (2, tc_I (nI j)), (3, tc_I (nI (hY (mL S t n) * hNo (mL S t 40) + hNo (mL S t m)))), (4, tc_I (nI (hHv (mL S t n) (mL S t 40) + hIn p (mL S t m)))), (5, tc_I (nI n)), (6, tc_I (nI m))] [] S := by
            intro d2
            induction d2 with
            | zero =>
              intro m hm
              have e : m = 40 := by omega
              subst e
              refine h38 _ _ _ _ _ _ _ ⟨fun _ => ?_, fun z => absurd (nI_le (Nat.le_refl 40) (by decide)) z⟩
              rw [Nat.add_mul, Nat.one_mul] at ih'
              exact ih'
            | succ d2 ih2 =>
              intro m hm
              have ih2' := ih2 (m + 1) (by omega)
              rw [nI_succ m] at ih2'
              have hm40 : m < 40 := by omega
              refine h38 _ _ _ _ _ _ _ ⟨fun z => absurd z (nI_ge hm40 (by decide)), fun _ => m_case hb ht (by omega) (fun g => absurd g hz) (fun _ => sgX11_area_52 (h_b1 (m_case hb ht hm40 (fun g => ?_) (fun g => ?_))))⟩
              · rw [mL_no g] at ih2'
                exact sgX11_area_62 (h_b0 (h131 _ _ _ _ _ _ _ ih2'))
              · obtain ⟨p2, hp2, f8, f9⟩ := mL_yes hb ht hm40 g
                rw [f9, hNo_push, hIn_push] at ih2'
                refine sgX11_area_62 (h_b1 ?_)
                rw [nI_clamp (by omega), nI_clamp (by omega)]
                have hm0 : ¬ S.1 36 m = 0 := fun g2 => g (Or.inl g2)
                refine ⟨vp_in_nI (by omega) (by decide), fun _ => ⟨vp_in_nI hm40 (by decide), fun z2 => ?_, fun z2 => ?_⟩, fun z => absurd hyes z⟩
                · have nyes := (h_st2 hb hm40 hm0).mp z2
                  simp only [nyes, decide_false, Bool.false_eq_true, if_false] at ih2'
                  refine m_told hb ht (by omega) (sgX11_area_94 (m_told hb ht hm40 (sgX11_area_101 ?_)))
                  rw [e8, f8]
                  have fin : ∀ v : Int32, v = nI (hHf p p2) → P 128 [(0, tc_R 0 34), (1, tc_I (nI t)), (2, tc_I (nI j)), (3, tc_I (nI (hY (mL S t n) * hNo (mL S t 40) + hNo (mL S t m)) + 1)), (5, tc_I (nI n)), (6, tc_I (nI m))] [tc_I v, tc_I (nI (hHv (mL S t n) (mL S t 40) + hIn p (mL S t m)))] S := by
                    intro v hv
                    refine h128 _ _ _ _ _ _ _ _ (h131 _ _ _ _ _ _ _ ?_)
                    unfold fmX11_area_131
                    rw [hv, nI_add, nI_1, Nat.add_assoc, Nat.add_assoc]
                    exact ih2'
                  have hd : ∀ (_ : p2 ≤ p), nI p - nI p2 = nI (p - p2) := fun g => (Int32.ofNat_sub p p2 g).symm
                  refine ⟨fun z3 => ⟨fun z4 => fin 1 ?_, fun z4 => fin 0 ?_⟩, fun z3 => fin 2 ?_⟩
                  · have : p = p2 := by
                      have z5 : nI p = nI p2 := by
                        have := congrArg (fun x => x + nI p2) z4
                        simpa using this
                      exact (nI_eq (by omega) (by omega)).mp z5
                    unfold hHf
                    rw [if_neg (by omega), if_pos this]
                    rfl
                  · rcases Nat.lt_or_ge p p2 with g5 | g5
                    · unfold hHf
                      rw [if_neg (by omega), if_neg (by omega)]
                      rfl
                    · rw [hd g5] at z3 z4
                      have := (nI_leI (b := 0) (by omega) (by decide)).mp z3
                      exact absurd (by rw [show p - p2 = 0 by omega]; rfl) z4
                  · rcases Nat.lt_or_ge p2 p with g5 | g5
                    · unfold hHf
                      rw [if_pos g5]
                      rfl
                    · refine absurd ?_ z3
                      rw [Int32.le_iff_toInt_le, Int32.toInt_sub, nI_toInt (by omega), nI_toInt (by omega)]
                      have e0 : (0 : Int32).toInt = 0 := by decide
                      rw [e0]
                      unfold Int.bmod
                      simp only
                      split <;> omega
                · have yes2 : S.1 36 m = 1 := by
                    by_cases g7 : S.1 36 m = 1
                    · exact g7
                    · exact absurd ((h_st2 hb hm40 hm0).mpr g7) z2
                  simp only [yes2, decide_true, if_true, Nat.add_zero] at ih2'
                  exact h131 _ _ _ _ _ _ _ ih2'
          have := loop2 40 0 rfl
          exact this
        · simp only [hyes, decide_false, Bool.false_eq_true, if_false, Nat.add_zero] at ih'
          have loop2 : ∀ d2 m, m + d2 = 40 → P 38 [(0, tc_R 0 34), (1, tc_I (nI t)), (2, tc_I (nI j)), (3, tc_I (nI (hY (mL S t n) * hNo (mL S t 40)))), (4, tc_I (nI (hHv (mL S t n) (mL S t 40)))), (5, tc_I (nI n)), (6, tc_I (nI m))] [] S := by
            intro d2
            induction d2 with
            | zero =>
              intro m hm
              have e : m = 40 := by omega
              subst e
              exact h38 _ _ _ _ _ _ _ ⟨fun _ => ih', fun z => absurd (nI_le (Nat.le_refl 40) (by decide)) z⟩
            | succ d2 ih2 =>
              intro m hm
              have ih2' := ih2 (m + 1) (by omega)
              rw [nI_succ m] at ih2'
              have hm40 : m < 40 := by omega
              refine h38 _ _ _ _ _ _ _ ⟨fun z => absurd z (nI_ge hm40 (by decide)), fun _ => m_case hb ht (by omega) (fun g => absurd g hz) (fun _ => sgX11_area_52 (h_b1 (m_case hb ht hm40 (fun _ => sgX11_area_62 (h_b0 (h131 _ _ _ _ _ _ _ ih2'))) (fun _ => sgX11_area_62 (h_b1 ?_)))))⟩
              rw [nI_clamp (by omega)]
              exact ⟨vp_in_nI (by omega) (by decide), fun z => absurd z hyes, fun _ => h131 _ _ _ _ _ _ _ ih2'⟩
          exact loop2 40 0 rfl
  have e0 : hY (mL S t 0) * hNo (mL S t 40) = 0 := by simp [hL, hY]
  have := loop 40 0 rfl
  rw [e0] at this
  exact this
theorem p_area (hR : Rel S) (h : ∀ (x9 : Int64) S1, (∀ q2 : tc_Q, (∀ S2, Rel S2 → q2 (some (tc_J x9)) S2) → RX11_area [tc_R 0 34, tc_I x1, tc_I x2] S1 q2) → q (some (tc_J x9)) S1) : RX10_area [tc_R 0 0, tc_I x1, tc_I x2] S q := by
  refine inX10_area (fun P => ?_)
  cases b1 : hr 5 x1 with
  | false =>
    have n1 := hr_f (by decide) b1
    exact s_teller0 n1 (sgX10_area_4 (h_b0 (h _ _ (fun q2 h2 => inX11_area (fun _ _ _ _ _ => m_any0 n1 (sgX11_area_4 (h_b0 (h2 _ hR))))))))
  | true =>
    obtain ⟨t, ht, rfl⟩ := hr_t (by decide) b1
    refine s_teller1 ht (sgX10_area_4 (h_b1 ?_))
    cases b2 : hr 2 x2 with
    | false =>
      have n2 := hr_f (by decide) b2
      exact s_which0 n2 (sgX10_area_11 (h_b0 (h _ _ (fun q2 h2 => inX11_area (fun _ _ _ _ _ => m_any1 ht (sgX11_area_4 (h_b1 (m_within0 (n := 1) (by decide) n2 (sgX11_area_13 (h_b0 (h2 _ hR)))))))))))
    | true =>
      obtain ⟨j, hj, rfl⟩ := hr_t (by decide) b2
      refine s_which1 hj (sgX10_area_11 (h_b1 (s_gather hR.2.1 ht (fun S' hg => sgX10_area_30 ?_))))
      have hR' : Rel S' := hR.fr (hg.1.wk (by decide)) (by rw [hg.1.1 34 (by decide)]) (by rw [hg.1.1 34 (by decide)])
      have hm : mL S' t 40 = cL S t 40 := by rw [hR'.cl, hg.1.cL (by decide) (by decide) (by decide)]
      have hc := cG_cC hR.2.1 ht hg
      generalize cL S t 40 = l at hg hm hc
      have hyn := hYN l
      have hlen := hc.1
      have eno : nI l.length - nI (hY l) = nI (hNo l) := by
        have := (Int32.ofNat_sub l.length (hY l) (by omega)).symm
        rw [show hNo l = l.length - hY l by omega]
        exact this
      have lost : hY l * hNo l = 0 → q (some (tc_J (-9223372036854775808))) S' := by
        intro g
        refine h _ _ (fun q2 h2 => m_area hR'.mb ht hj (fun _ => h2 _ hR') (fun g2 => ?_))
        rw [hm] at g2
        omega
      unfold fmX10_area_30
      rw [hc.2.2.1, hc.2.2.2.1, eno]
      refine ⟨fun z => lost ?_, fun z => ⟨fun z2 => lost ?_, fun z2 => s_halves hc (sgX10_area_75 ?_)⟩⟩
      · have : hY l = 0 := (nI_eq (by omega) (by decide)).mp z
        rw [this, Nat.zero_mul]
      · have : hNo l = 0 := (nI_eq (by omega) (by decide)).mp z2
        rw [this, Nat.mul_zero]
      · have y0 : 0 < hY l := by
          rcases Nat.eq_zero_or_pos (hY l) with g | g
          · exact absurd (by rw [g]; rfl) z
          · exact g
        have n0 : 0 < hNo l := by
          rcases Nat.eq_zero_or_pos (hNo l) with g | g
          · exact absurd (by rw [g]; rfl) z2
          · exact g
        have hpos := Nat.mul_pos y0 n0
        have hprod : hY l * hNo l ≤ 40 * 40 := Nat.mul_le_mul (by omega) (by omega)
        have hhv := hHv_le l l
        rw [Nat.mul_left_comm] at hhv
        unfold fmX10_area_75
        rw [hc.2.2.2.1, nI_l (by omega), nI_l (by omega), show (2 : Int64) = lN 2 from rfl, lN_mul, lN_mul, lN_lI (hHv _ _), Nat.mul_assoc]
        refine s_become7 (by omega) (by omega) (by omega) (sgX10_area_93 (s_pick (hF7_put _ _) hj (sgX10_area_101 (h _ _ (fun q2 h2 => ?_)))))
        have hs := hP7_s S' (mkRat (hHv l l) (2 * (hY l * hNo l)))
        have hR2 := hR'.fr (hs.wk (by decide)) (by rw [hs.1 34 (by decide)]) (by rw [hs.1 34 (by decide)])
        have hm2 : mL (hP7 S' (mkRat (hHv l l) (2 * (hY l * hNo l)))) t 40 = l := by rw [hs.mL (by decide) (by decide) (by decide), hm]
        refine m_area hR2.mb ht hj (fun g => ?_) (fun _ => ?_)
        · rw [hm2] at g
          omega
        · rw [hm2]
          exact h2 _ (hR2.fr ((mP_s _ _).wk (by decide)) rfl rfl)
end HAREA
