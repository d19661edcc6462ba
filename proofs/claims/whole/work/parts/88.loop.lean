/-! the law's loop -/
theorem lc_end {sL i : Nat} (hs : sL ≤ 2048) (hi : i ≤ 3000) (h : sL < i + 4) : nI sL - 4 < nI i := by
  rcases Nat.lt_or_ge sL 4 with h4 | h4
  · have h0 : nI sL - 4 < 0 := by
      rcases (show sL = 0 ∨ sL = 1 ∨ sL = 2 ∨ sL = 3 by omega) with rfl | rfl | rfl | rfl <;> decide
    have h1 := nI_pos (n := i) (by omega)
    rw [Int32.lt_iff_toInt_lt] at h0 h1 ⊢
    omega
  · obtain ⟨k, rfl⟩ : ∃ k, sL = k + 4 := ⟨sL - 4, by omega⟩
    have e : nI (k + 4) - 4 = nI k := by
      rw [← nI_add]
      exact Int32.add_sub_cancel _ _
    rw [e]
    exact nI_lt (by omega) (by omega)
theorem lc_v {sL i k : Nat} {x : Int32} (hx : nI k = x) (hs : sL ≤ 2048) (h : i + k < sL) : vp_in (nI i + x) sL := by
  rw [← hx, nI_add]
  exact vp_in_nI h (by omega)
section LAWCASE
variable {xs : Nat → Int32} {sL : Nat} {P : Nat → tc_B} {q : tc_Q} {x3 : Int32} {S : tc_S}
theorem lc_tell (hR : Rel S) (v1 : vp_in (x3 + 1) sL) (v2 : vp_in (x3 + 2) sL) (v3 : vp_in (x3 + 3) sL) (hn : ∀ S2, Rel S2 → P 1017 [(0, tc_R 5 0), (1, tc_R 0 0), (2, tc_R 0 34), (3, tc_I x3)] [] S2) : RX10_tell [tc_R 0 0, tc_I (xs (x3 + 1).toNatClampNeg), tc_I (xs (x3 + 2).toNatClampNeg), tc_I (xs (x3 + 3).toNatClampNeg)] S (fun r S' => bkL_law_183 xs sL P q [(0, tc_R 5 0), (1, tc_R 0 0), (2, tc_R 0 34), (3, tc_I x3)] (r.toList ++ []) S') :=
  p_tell hR (fun x9 S1 h2 => sgL_law_183 ⟨v1, v2, v3, h2 _ (fun S2 hR2 => sgL_law_202 ⟨fun _ => hn S2 hR2, fun z => absurd rfl z⟩)⟩)
theorem lc_drop (hR : Rel S) (v1 : vp_in (x3 + 1) sL) (v2 : vp_in (x3 + 2) sL) (hn : ∀ S2, Rel S2 → P 1017 [(0, tc_R 5 0), (1, tc_R 0 0), (2, tc_R 0 34), (3, tc_I x3)] [] S2) : RX10_drop [tc_R 0 0, tc_I (xs (x3 + 1).toNatClampNeg), tc_I (xs (x3 + 2).toNatClampNeg)] S (fun r S' => bkL_law_221 xs sL P q [(0, tc_R 5 0), (1, tc_R 0 0), (2, tc_R 0 34), (3, tc_I x3)] (r.toList ++ []) S') :=
  p_drop hR (fun x9 S1 h2 => sgL_law_221 ⟨v1, v2, h2 _ (fun S2 hR2 => sgL_law_235 ⟨fun _ => hn S2 hR2, fun z => absurd rfl z⟩)⟩)
theorem lc_yes (hR : Rel S) (v1 : vp_in (x3 + 1) sL) (hn : ∀ S2, Rel S2 → P 1017 [(0, tc_R 5 0), (1, tc_R 0 0), (2, tc_R 0 34), (3, tc_I x3)] [] S2) : RX10_yes [tc_R 0 0, tc_I (xs (x3 + 1).toNatClampNeg)] S (fun r S' => bkL_law_249 xs sL P q [(0, tc_R 5 0), (1, tc_R 0 0), (2, tc_R 0 34), (3, tc_I x3)] (r.toList ++ []) S') :=
  p_yes hR (fun x9 S1 h2 => sgL_law_249 ⟨v1, h2 _ (fun S2 hR2 => sgL_law_258 ⟨fun _ => hn S2 hR2, fun z => absurd rfl z⟩)⟩)
theorem lc_no (hR : Rel S) (v1 : vp_in (x3 + 1) sL) (hn : ∀ S2, Rel S2 → P 1017 [(0, tc_R 5 0), (1, tc_R 0 0), (2, tc_R 0 34), (3, tc_I x3)] [] S2) : RX10_no [tc_R 0 0, tc_I (xs (x3 + 1).toNatClampNeg)] S (fun r S' => bkL_law_272 xs sL P q [(0, tc_R 5 0), (1, tc_R 0 0), (2, tc_R 0 34), (3, tc_I x3)] (r.toList ++ []) S') :=
  p_no hR (fun x9 S1 h2 => sgL_law_272 ⟨v1, h2 _ (fun S2 hR2 => sgL_law_281 ⟨fun _ => hn S2 hR2, fun z => absurd rfl z⟩)⟩)
theorem lc_open (hR : Rel S) (v1 : vp_in (x3 + 1) sL) (hn : ∀ S2, Rel S2 → P 1017 [(0, tc_R 5 0), (1, tc_R 0 0), (2, tc_R 0 34), (3, tc_I x3)] [] S2) : RX10_open [tc_R 0 0, tc_I (xs (x3 + 1).toNatClampNeg)] S (fun r S' => bkL_law_295 xs sL P q [(0, tc_R 5 0), (1, tc_R 0 0), (2, tc_R 0 34), (3, tc_I x3)] (r.toList ++ []) S') :=
  p_open hR (fun x9 S1 h2 => sgL_law_295 ⟨v1, h2 _ (fun S2 hR2 => sgL_law_304 ⟨fun _ => hn S2 hR2, fun z => absurd rfl z⟩)⟩)
theorem lc_weigh (hR : Rel S) (v1 : vp_in (x3 + 1) sL) (v2 : vp_in (x3 + 2) sL) (hn : ∀ S2, Rel S2 → P 1017 [(0, tc_R 5 0), (1, tc_R 0 0), (2, tc_R 0 34), (3, tc_I x3)] [] S2) : RX10_weigh [tc_R 0 0, tc_I (xs (x3 + 1).toNatClampNeg), tc_I (xs (x3 + 2).toNatClampNeg)] S (fun r S' => bkL_law_323 xs sL P q [(0, tc_R 5 0), (1, tc_R 0 0), (2, tc_R 0 34), (3, tc_I x3)] (r.toList ++ []) S') :=
  p_weigh hR (fun x9 S1 h2 => sgL_law_323 ⟨v1, v2, h2 _ (fun S2 hR2 => sgL_law_337 ⟨fun _ => hn S2 hR2, fun z => absurd rfl z⟩)⟩)
theorem lc_told (hR : Rel S) (v1 : vp_in (x3 + 1) sL) (v2 : vp_in (x3 + 2) sL) (hn : ∀ S2, Rel S2 → P 1017 [(0, tc_R 5 0), (1, tc_R 0 0), (2, tc_R 0 34), (3, tc_I x3)] [] S2) : RX10_told [tc_R 0 0, tc_I (xs (x3 + 1).toNatClampNeg), tc_I (xs (x3 + 2).toNatClampNeg)] S (fun r S' => bkL_law_356 xs sL P q [(0, tc_R 5 0), (1, tc_R 0 0), (2, tc_R 0 34), (3, tc_I x3)] (r.toList ++ []) S') :=
  p_told hR (fun x9 S1 h2 => sgL_law_356 ⟨v1, v2, h2 _ (fun S2 hR2 => sgL_law_370 ⟨fun _ => hn S2 hR2, fun z => absurd rfl z⟩)⟩)
theorem lc_came (hR : Rel S) (v1 : vp_in (x3 + 1) sL) (hn : ∀ S2, Rel S2 → P 1017 [(0, tc_R 5 0), (1, tc_R 0 0), (2, tc_R 0 34), (3, tc_I x3)] [] S2) : RX10_came [tc_R 0 0, tc_I (xs (x3 + 1).toNatClampNeg)] S (fun r S' => bkL_law_384 xs sL P q [(0, tc_R 5 0), (1, tc_R 0 0), (2, tc_R 0 34), (3, tc_I x3)] (r.toList ++ []) S') :=
  p_came hR (fun x9 S1 h2 => sgL_law_384 ⟨v1, h2 _ (fun S2 hR2 => sgL_law_393 ⟨fun _ => hn S2 hR2, fun z => absurd rfl z⟩)⟩)
theorem lc_key (hR : Rel S) (v1 : vp_in (x3 + 1) sL) (hn : ∀ S2, Rel S2 → P 1017 [(0, tc_R 5 0), (1, tc_R 0 0), (2, tc_R 0 34), (3, tc_I x3)] [] S2) : RX10_key [tc_R 0 0, tc_I (xs (x3 + 1).toNatClampNeg)] S (fun r S' => bkL_law_407 xs sL P q [(0, tc_R 5 0), (1, tc_R 0 0), (2, tc_R 0 34), (3, tc_I x3)] (r.toList ++ []) S') :=
  p_key hR (fun x9 S1 h2 => sgL_law_407 ⟨v1, h2 _ (fun S2 hR2 => sgL_law_416 ⟨fun _ => hn S2 hR2, fun z => absurd rfl z⟩)⟩)
theorem lc_wipe (hR : Rel S) (hn : ∀ S2, Rel S2 → P 1017 [(0, tc_R 5 0), (1, tc_R 0 0), (2, tc_R 0 34), (3, tc_I x3)] [] S2) : RX10_wipe [tc_R 0 0] S (fun r S' => bkL_law_425 xs sL P q [(0, tc_R 5 0), (1, tc_R 0 0), (2, tc_R 0 34), (3, tc_I x3)] (r.toList ++ []) S') :=
  p_wipe hR (fun x9 S1 h2 => sgL_law_425 (h2 _ (fun S2 hR2 => sgL_law_429 ⟨fun _ => hn S2 hR2, fun z => absurd rfl z⟩)))
theorem lc_line (hR : Rel S) (hn : ∀ S2, Rel S2 → P 1017 [(0, tc_R 5 0), (1, tc_R 0 0), (2, tc_R 0 34), (3, tc_I x3)] [] S2) : RX10_line [tc_R 0 0] S (fun r S' => bkL_law_438 xs sL P q [(0, tc_R 5 0), (1, tc_R 0 0), (2, tc_R 0 34), (3, tc_I x3)] (r.toList ++ []) S') :=
  p_line hR (fun x9 S1 h2 => sgL_law_438 (h2 _ (fun S2 hR2 => sgL_law_442 ⟨fun _ => hn S2 hR2, fun z => absurd rfl z⟩)))
theorem lc_rule (hR : Rel S) (hn : ∀ S2, Rel S2 → P 1017 [(0, tc_R 5 0), (1, tc_R 0 0), (2, tc_R 0 34), (3, tc_I x3)] [] S2) : RX10_rule [tc_R 0 0] S (fun r S' => bkL_law_451 xs sL P q [(0, tc_R 5 0), (1, tc_R 0 0), (2, tc_R 0 34), (3, tc_I x3)] (r.toList ++ []) S') :=
  p_rule hR (fun x9 S1 h2 => sgL_law_451 (h2 _ (fun S2 hR2 => sgL_law_455 ⟨fun _ => hn S2 hR2, fun z => absurd rfl z⟩)))
theorem lc_miss (hR : Rel S) (v1 : vp_in (x3 + 1) sL) (v2 : vp_in (x3 + 2) sL) (hn : ∀ S2, Rel S2 → P 1017 [(0, tc_R 5 0), (1, tc_R 0 0), (2, tc_R 0 34), (3, tc_I x3)] [] S2) : RX10_miss [tc_R 0 0, tc_I (xs (x3 + 1).toNatClampNeg), tc_I (xs (x3 + 2).toNatClampNeg)] S (fun r S' => bkL_law_474 xs sL P q [(0, tc_R 5 0), (1, tc_R 0 0), (2, tc_R 0 34), (3, tc_I x3)] (r.toList ++ []) S') :=
  p_miss hR (fun x9 S1 h2 => sgL_law_474 ⟨v1, v2, h2 _ (fun S2 hR2 => sgL_law_488 ⟨fun _ => hn S2 hR2, fun z => absurd rfl z⟩)⟩)
theorem lc_score (hR : Rel S) (v1 : vp_in (x3 + 1) sL) (v2 : vp_in (x3 + 2) sL) (hn : ∀ S2, Rel S2 → P 1017 [(0, tc_R 5 0), (1, tc_R 0 0), (2, tc_R 0 34), (3, tc_I x3)] [] S2) : RX10_score [tc_R 0 0, tc_I (xs (x3 + 1).toNatClampNeg), tc_I (xs (x3 + 2).toNatClampNeg)] S (fun r S' => bkL_law_507 xs sL P q [(0, tc_R 5 0), (1, tc_R 0 0), (2, tc_R 0 34), (3, tc_I x3)] (r.toList ++ []) S') :=
  p_score hR (fun x9 S1 h2 => sgL_law_507 ⟨v1, v2, h2 _ (fun S2 hR2 => sgL_law_521 ⟨fun _ => hn S2 hR2, fun z => absurd ((lg_cmp_eq _ _).mpr rfl) z⟩)⟩)
theorem lc_rank (hR : Rel S) (v1 : vp_in (x3 + 1) sL) (hn : ∀ S2, Rel S2 → P 1017 [(0, tc_R 5 0), (1, tc_R 0 0), (2, tc_R 0 34), (3, tc_I x3)] [] S2) : RX10_rank [tc_R 0 0, tc_I (xs (x3 + 1).toNatClampNeg)] S (fun r S' => bkL_law_536 xs sL P q [(0, tc_R 5 0), (1, tc_R 0 0), (2, tc_R 0 34), (3, tc_I x3)] (r.toList ++ []) S') :=
  p_rank hR (fun x9 S1 h2 => sgL_law_536 ⟨v1, h2 _ (fun S2 hR2 => sgL_law_545 ⟨fun _ => hn S2 hR2, fun z => absurd rfl z⟩)⟩)
theorem lc_lure (hR : Rel S) (v1 : vp_in (x3 + 1) sL) (hn : ∀ S2, Rel S2 → P 1017 [(0, tc_R 5 0), (1, tc_R 0 0), (2, tc_R 0 34), (3, tc_I x3)] [] S2) : RX10_lure [tc_R 0 0, tc_I (xs (x3 + 1).toNatClampNeg)] S (fun r S' => bkL_law_559 xs sL P q [(0, tc_R 5 0), (1, tc_R 0 0), (2, tc_R 0 34), (3, tc_I x3)] (r.toList ++ []) S') :=
  p_lure hR (fun x9 S1 h2 => sgL_law_559 ⟨v1, h2 _ (fun S2 hR2 => sgL_law_568 ⟨fun _ => hn S2 hR2, fun z => absurd rfl z⟩)⟩)
theorem lc_honest (hR : Rel S) (hn : ∀ S2, Rel S2 → P 1017 [(0, tc_R 5 0), (1, tc_R 0 0), (2, tc_R 0 34), (3, tc_I x3)] [] S2) : RX10_honest [tc_R 0 0] S (fun r S' => bkL_law_577 xs sL P q [(0, tc_R 5 0), (1, tc_R 0 0), (2, tc_R 0 34), (3, tc_I x3)] (r.toList ++ []) S') :=
  p_honest hR (fun x9 S1 h2 => sgL_law_577 (h2 _ (fun S2 hR2 => sgL_law_581 ⟨fun _ => hn S2 hR2, fun z => absurd rfl z⟩)))
theorem lc_cut (hR : Rel S) (v1 : vp_in (x3 + 1) sL) (hn : ∀ S2, Rel S2 → P 1017 [(0, tc_R 5 0), (1, tc_R 0 0), (2, tc_R 0 34), (3, tc_I x3)] [] S2) : RX10_cut [tc_R 0 0, tc_I (xs (x3 + 1).toNatClampNeg)] S (fun r S' => bkL_law_595 xs sL P q [(0, tc_R 5 0), (1, tc_R 0 0), (2, tc_R 0 34), (3, tc_I x3)] (r.toList ++ []) S') :=
  p_cut hR (fun x9 S1 h2 => sgL_law_595 ⟨v1, h2 _ (fun S2 hR2 => sgL_law_604 ⟨fun _ => hn S2 hR2, fun z => absurd rfl z⟩)⟩)
theorem lc_bin (hR : Rel S) (v1 : vp_in (x3 + 1) sL) (v2 : vp_in (x3 + 2) sL) (v3 : vp_in (x3 + 3) sL) (hn : ∀ S2, Rel S2 → P 1017 [(0, tc_R 5 0), (1, tc_R 0 0), (2, tc_R 0 34), (3, tc_I x3)] [] S2) : RX10_bin [tc_R 0 0, tc_I (xs (x3 + 1).toNatClampNeg), tc_I (xs (x3 + 2).toNatClampNeg), tc_I (xs (x3 + 3).toNatClampNeg)] S (fun r S' => bkL_law_628 xs sL P q [(0, tc_R 5 0), (1, tc_R 0 0), (2, tc_R 0 34), (3, tc_I x3)] (r.toList ++ []) S') :=
  p_bin hR (fun x9 S1 h2 => sgL_law_628 ⟨v1, v2, v3, h2 _ (fun S2 hR2 => sgL_law_647 ⟨fun _ => hn S2 hR2, fun z => absurd rfl z⟩)⟩)
theorem lc_split (hR : Rel S) (v1 : vp_in (x3 + 1) sL) (v2 : vp_in (x3 + 2) sL) (v3 : vp_in (x3 + 3) sL) (hn : ∀ S2, Rel S2 → P 1017 [(0, tc_R 5 0), (1, tc_R 0 0), (2, tc_R 0 34), (3, tc_I x3)] [] S2) : RX10_split [tc_R 0 0, tc_I (xs (x3 + 1).toNatClampNeg), tc_I (xs (x3 + 2).toNatClampNeg), tc_I (xs (x3 + 3).toNatClampNeg)] S (fun r S' => bkL_law_671 xs sL P q [(0, tc_R 5 0), (1, tc_R 0 0), (2, tc_R 0 34), (3, tc_I x3)] (r.toList ++ []) S') :=
  p_split hR (fun x9 S1 h2 => sgL_law_671 ⟨v1, v2, v3, h2 _ (fun S2 hR2 => sgL_law_690 ⟨fun _ => hn S2 hR2, fun z => absurd ((lg_cmp_eq _ _).mpr rfl) z⟩)⟩)
theorem lc_joined (hR : Rel S) (v1 : vp_in (x3 + 1) sL) (v2 : vp_in (x3 + 2) sL) (v3 : vp_in (x3 + 3) sL) (hn : ∀ S2, Rel S2 → P 1017 [(0, tc_R 5 0), (1, tc_R 0 0), (2, tc_R 0 34), (3, tc_I x3)] [] S2) : RX10_joined [tc_R 0 0, tc_I (xs (x3 + 1).toNatClampNeg), tc_I (xs (x3 + 2).toNatClampNeg), tc_I (xs (x3 + 3).toNatClampNeg)] S (fun r S' => bkL_law_715 xs sL P q [(0, tc_R 5 0), (1, tc_R 0 0), (2, tc_R 0 34), (3, tc_I x3)] (r.toList ++ []) S') :=
  p_joined hR (fun x9 S1 h2 => sgL_law_715 ⟨v1, v2, v3, h2 _ (fun S2 hR2 => sgL_law_734 ⟨fun _ => hn S2 hR2, fun z => absurd ((lg_cmp_eq _ _).mpr rfl) z⟩)⟩)
theorem lc_area (hR : Rel S) (v1 : vp_in (x3 + 1) sL) (v2 : vp_in (x3 + 2) sL) (hn : ∀ S2, Rel S2 → P 1017 [(0, tc_R 5 0), (1, tc_R 0 0), (2, tc_R 0 34), (3, tc_I x3)] [] S2) : RX10_area [tc_R 0 0, tc_I (xs (x3 + 1).toNatClampNeg), tc_I (xs (x3 + 2).toNatClampNeg)] S (fun r S' => bkL_law_754 xs sL P q [(0, tc_R 5 0), (1, tc_R 0 0), (2, tc_R 0 34), (3, tc_I x3)] (r.toList ++ []) S') :=
  p_area hR (fun x9 S1 h2 => sgL_law_754 ⟨v1, v2, h2 _ (fun S2 hR2 => sgL_law_768 ⟨fun _ => hn S2 hR2, fun z => absurd ((lg_cmp_eq _ _).mpr rfl) z⟩)⟩)
theorem lc_pools (hR : Rel S) (v1 : vp_in (x3 + 1) sL) (hn : ∀ S2, Rel S2 → P 1017 [(0, tc_R 5 0), (1, tc_R 0 0), (2, tc_R 0 34), (3, tc_I x3)] [] S2) : RX10_pools [tc_R 0 0, tc_I (xs (x3 + 1).toNatClampNeg)] S (fun r S' => bkL_law_783 xs sL P q [(0, tc_R 5 0), (1, tc_R 0 0), (2, tc_R 0 34), (3, tc_I x3)] (r.toList ++ []) S') :=
  p_pools hR (fun x9 S1 h2 => sgL_law_783 ⟨v1, h2 _ (fun S2 hR2 => sgL_law_792 ⟨fun _ => hn S2 hR2, fun z => absurd rfl z⟩)⟩)
theorem lc_pool (hR : Rel S) (v1 : vp_in (x3 + 1) sL) (v2 : vp_in (x3 + 2) sL) (v3 : vp_in (x3 + 3) sL) (hn : ∀ S2, Rel S2 → P 1017 [(0, tc_R 5 0), (1, tc_R 0 0), (2, tc_R 0 34), (3, tc_I x3)] [] S2) : RX10_pool [tc_R 0 0, tc_I (xs (x3 + 1).toNatClampNeg), tc_I (xs (x3 + 2).toNatClampNeg), tc_I (xs (x3 + 3).toNatClampNeg)] S (fun r S' => bkL_law_816 xs sL P q [(0, tc_R 5 0), (1, tc_R 0 0), (2, tc_R 0 34), (3, tc_I x3)] (r.toList ++ []) S') :=
  p_pool hR (fun x9 S1 h2 => sgL_law_816 ⟨v1, v2, v3, h2 _ (fun S2 hR2 => sgL_law_835 ⟨fun _ => hn S2 hR2, fun z => absurd rfl z⟩)⟩)
theorem lc_flat (hR : Rel S) (v1 : vp_in (x3 + 1) sL) (v2 : vp_in (x3 + 2) sL) (hn : ∀ S2, Rel S2 → P 1017 [(0, tc_R 5 0), (1, tc_R 0 0), (2, tc_R 0 34), (3, tc_I x3)] [] S2) : RX10_flat [tc_R 0 0, tc_I (xs (x3 + 1).toNatClampNeg), tc_I (xs (x3 + 2).toNatClampNeg)] S (fun r S' => bkL_law_854 xs sL P q [(0, tc_R 5 0), (1, tc_R 0 0), (2, tc_R 0 34), (3, tc_I x3)] (r.toList ++ []) S') :=
  p_flat hR (fun x9 S1 h2 => sgL_law_854 ⟨v1, v2, h2 _ (fun S2 hR2 => sgL_law_868 ⟨fun _ => hn S2 hR2, fun z => absurd ((lg_cmp_eq _ _).mpr rfl) z⟩)⟩)
theorem lc_better (hR : Rel S) (v1 : vp_in (x3 + 1) sL) (v2 : vp_in (x3 + 2) sL) (v3 : vp_in (x3 + 3) sL) (hn : ∀ S2, Rel S2 → P 1017 [(0, tc_R 5 0), (1, tc_R 0 0), (2, tc_R 0 34), (3, tc_I x3)] [] S2) : RX10_better [tc_R 0 0, tc_I (xs (x3 + 1).toNatClampNeg), tc_I (xs (x3 + 2).toNatClampNeg), tc_I (xs (x3 + 3).toNatClampNeg)] S (fun r S' => bkL_law_893 xs sL P q [(0, tc_R 5 0), (1, tc_R 0 0), (2, tc_R 0 34), (3, tc_I x3)] (r.toList ++ []) S') :=
  p_better hR (fun x9 S1 h2 => sgL_law_893 ⟨v1, v2, v3, h2 _ (fun S2 hR2 => sgL_law_912 ⟨fun _ => hn S2 hR2, fun z => absurd rfl z⟩)⟩)
theorem lc_luck (hR : Rel S) (v1 : vp_in (x3 + 1) sL) (v2 : vp_in (x3 + 2) sL) (v3 : vp_in (x3 + 3) sL) (hn : ∀ S2, Rel S2 → P 1017 [(0, tc_R 5 0), (1, tc_R 0 0), (2, tc_R 0 34), (3, tc_I x3)] [] S2) : RX10_luck [tc_R 0 0, tc_I (xs (x3 + 1).toNatClampNeg), tc_I (xs (x3 + 2).toNatClampNeg), tc_I (xs (x3 + 3).toNatClampNeg)] S (fun r S' => bkL_law_936 xs sL P q [(0, tc_R 5 0), (1, tc_R 0 0), (2, tc_R 0 34), (3, tc_I x3)] (r.toList ++ []) S') :=
  p_luck hR (fun x9 S1 h2 => sgL_law_936 ⟨v1, v2, v3, h2 _ (fun S2 hR2 => sgL_law_955 ⟨fun _ => hn S2 hR2, fun z => absurd ((lg_cmp_eq _ _).mpr rfl) z⟩)⟩)
theorem lc_report (hR : Rel S) (v1 : vp_in (x3 + 1) sL) (v2 : vp_in (x3 + 2) sL) (hn : ∀ S2, Rel S2 → P 1017 [(0, tc_R 5 0), (1, tc_R 0 0), (2, tc_R 0 34), (3, tc_I x3)] [] S2) : RX10_report [tc_R 0 0, tc_I (xs (x3 + 1).toNatClampNeg), tc_I (xs (x3 + 2).toNatClampNeg)] S (fun r S' => bkL_law_975 xs sL P q [(0, tc_R 5 0), (1, tc_R 0 0), (2, tc_R 0 34), (3, tc_I x3)] (r.toList ++ []) S') :=
  p_report hR (fun x9 S1 h2 => sgL_law_975 ⟨v1, v2, h2 _ (fun S2 hR2 => sgL_law_989 ⟨fun _ => hn S2 hR2, fun z => absurd rfl z⟩)⟩)
theorem lc_many (hR : Rel S) (v1 : vp_in (x3 + 1) sL) (hn : ∀ S2, Rel S2 → P 1017 [(0, tc_R 5 0), (1, tc_R 0 0), (2, tc_R 0 34), (3, tc_I x3)] [] S2) : RX10_many [tc_R 0 0, tc_I (xs (x3 + 1).toNatClampNeg)] S (fun r S' => bkL_law_1003 xs sL P q [(0, tc_R 5 0), (1, tc_R 0 0), (2, tc_R 0 34), (3, tc_I x3)] (r.toList ++ []) S') :=
  p_many hR (fun x9 S1 h2 => sgL_law_1003 ⟨v1, h2 _ (fun S2 hR2 => sgL_law_1012 ⟨fun _ => hn S2 hR2, fun z => absurd rfl z⟩)⟩)
end LAWCASE
theorem law_loop {Z : tc_Z} {q : tc_Q} {xs : Nat → Int32} {sL : Nat} (X : tc_Cx ({ frames := 10, cells := 52, slots := 1871, locals := 348 } : Room) cL_law 4 RL Z) (Y : tc_Sc xs sL Z) (hr : tc_Rt 1 cL_law 4 Z q) (hq : ∀ S, q (some (tc_I 1)) S) (hL : sL ≤ 2048) : ∀ (n i : Nat) (S : tc_S), i ≤ sL + 4 → sL ≤ i + n → Rel S → tc_At 4 Z 18 [(0, tc_R 5 0), (1, tc_R 0 0), (2, tc_R 0 34), (3, tc_I (nI i))] [] S := by
  intro n
  induction n with
  | zero =>
    intro i S hi hn hR
    exact okL_law_18 X Y hr _ _ _ (sgL_law_18 ⟨fun _ => ⟨h_n1, hq S⟩, fun z => absurd (lc_end hL (by omega) (by omega)) z⟩)
  | succ n ih =>
    intro i S hi hn hR
    rcases Nat.lt_or_ge sL (i + 4) with h4 | h4
    · exact okL_law_18 X Y hr _ _ _ (sgL_law_18 ⟨fun _ => ⟨h_n1, hq S⟩, fun z => absurd (lc_end hL (by omega) h4) z⟩)
    · have hn : ∀ S2, Rel S2 → tc_At 4 Z 1017 [(0, tc_R 5 0), (1, tc_R 0 0), (2, tc_R 0 34), (3, tc_I (nI i))] [] S2 := fun S2 hR2 => okL_law_1017 X Y hr _ _ _ (sgL_law_1017 (by
        have := ih (i + 4) S2 (by omega) (by omega) hR2
        rw [← nI_add] at this
        exact this))
      have v0 : vp_in (nI i) sL := vp_in_nI (by omega) (by omega)
      have v1 : vp_in (nI i + 1) sL := lc_v (k := 1) rfl hL (by omega)
      have v2 : vp_in (nI i + 2) sL := lc_v (k := 2) rfl hL (by omega)
      have v3 : vp_in (nI i + 3) sL := lc_v (k := 3) rfl hL (by omega)
      exact okL_law_18 X Y hr _ _ _ (sgL_law_18 ⟨fun _ => ⟨h_n1, hq S⟩, fun _ => ⟨v0, fun _ => hn S hR, fun _ => ⟨v1, v2, v3, lc_tell hR v1 v2 v3 hn⟩, fun _ => ⟨v1, v2, lc_drop hR v1 v2 hn⟩, fun _ => ⟨v1, lc_yes hR v1 hn⟩, fun _ => ⟨v1, lc_no hR v1 hn⟩, fun _ => ⟨v1, lc_open hR v1 hn⟩, fun _ => ⟨v1, v2, lc_weigh hR v1 v2 hn⟩, fun _ => ⟨v1, v2, lc_told hR v1 v2 hn⟩, fun _ => ⟨v1, lc_came hR v1 hn⟩, fun _ => ⟨v1, lc_key hR v1 hn⟩, fun _ => lc_wipe hR hn, fun _ => lc_line hR hn, fun _ => lc_rule hR hn, fun _ => ⟨v1, v2, lc_miss hR v1 v2 hn⟩, fun _ => ⟨v1, v2, lc_score hR v1 v2 hn⟩, fun _ => ⟨v1, lc_rank hR v1 hn⟩, fun _ => ⟨v1, lc_lure hR v1 hn⟩, fun _ => lc_honest hR hn, fun _ => ⟨v1, lc_cut hR v1 hn⟩, fun _ => ⟨v1, v2, v3, lc_bin hR v1 v2 v3 hn⟩, fun _ => ⟨v1, v2, v3, lc_split hR v1 v2 v3 hn⟩, fun _ => ⟨v1, v2, v3, lc_joined hR v1 v2 v3 hn⟩, fun _ => ⟨v1, v2, lc_area hR v1 v2 hn⟩, fun _ => ⟨v1, lc_pools hR v1 hn⟩, fun _ => ⟨v1, v2, v3, lc_pool hR v1 v2 v3 hn⟩, fun _ => ⟨v1, v2, lc_flat hR v1 v2 hn⟩, fun _ => ⟨v1, v2, v3, lc_better hR v1 v2 v3 hn⟩, fun _ => ⟨v1, v2, v3, lc_luck hR v1 v2 v3 hn⟩, fun _ => ⟨v1, v2, lc_report hR v1 v2 hn⟩, fun _ => ⟨v1, lc_many hR v1 hn⟩, trivial⟩⟩)
