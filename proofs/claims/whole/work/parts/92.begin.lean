/-! THE CLAIM OUT OF ONE WALK OF THE LAW'S BODY. Your part is whole_start (and what it stands on); all else here is the same for every law, but numbers. -/
def R_law : String := "ToldChancesLaw"
def lw_P (b : Addr) (xs : List Int32) (args : Array Value) (s : State) : Prop := args = #[.ref b] ∧ s.IntsAt b xs ∧ xs.length ≤ 2048 ∧ (Jvm.Cond.and given_1 narrow_1).before args s = true
def lw_Q (_ : Array Value) (s : State) (o : Outcome) (t : State) : Prop := o = .returned (some (.int 1)) ∧ Framed s o t [] 52 1871
def lw_Z (below : List Frame) (a : Array Value) (s : State) : State → Prop := fun t => ∃ o, t.status = .running ∧ Ended t below o ∧ lw_Q a s o t
/-- the law's own end, with 1 on the stack, nothing written that was there before, its room as the claim has it -/
theorem lw_ret {p : Program} {l : Launch} {e : Env} {s : State} {m : MethodId} {below : List Frame} {meth : Method} {c : Code} {b : Nat} (hx : p.tables.exec = Jvm.exec) (hb : c.code = code) (hr : meth.sig.returnType = ret) (hlocks : meth.locks = false) {pc : Nat} {H : Heap} {ls : Array Slot} (hdg : decode code pc = .ok (.ireturn, 1)) : W p l e room_1 s m #[Value.ref b] below meth c H [] 52 1871 (lw_Z below #[Value.ref b] s) (F0 m pc ls [.int 1]) := by
  intro T hT X
  obtain ⟨fs, hret, hrun, hended, hW, hframe⟩ := X.leave (v := some (.int 1)) (hlocks := hlocks) (fun h => by rw [hr] at h; cases h)
  have hmeth' : T.vm.method? m = some meth := X.method'
  refine ⟨T.setFrames fs, ?_, .returned (some (.int 1)), hrun, hended, rfl, ⟨_, rfl⟩, hW, hframe⟩
  jvm_step X.here [X.here.top, hx, hb, hdg, hmeth', hr, ret, narrow_b1]
  (try refine ⟨rfl, ?_⟩); (try refine ⟨rfl, ?_⟩)
  first | (intro acts; rw [hret _ acts rfl rfl rfl]) | rw [hret _ _ rfl rfl rfl]
  exact Steps.refl _
/-- what holds at the law's entry: the machine, the code, the tables' words (any of lw_tbl by 'hts w (by decide +kernel)'), the script of L ints xs at the cell b, what the Statement gives of the start (any of its parts by flat_of_before) -/
def lw_At (p : Program) (s : State) (m : MethodId) (meth : Method) (c : Code) (b L : Nat) (xs : Nat → Int32) : Prop :=
  p.tables.exec = Jvm.exec ∧ c.code = code ∧ meth.sig.returnType = ret ∧ c.maxLocals = 4 ∧ s.vm.findClass R_law = some m.cls ∧ (∀ w ∈ lw_tbl, w.before #[Value.ref b] s = true) ∧ va_X b L xs s s.heap ∧ b < s.heap.size ∧ meth.locks = false ∧ (Jvm.Cond.and given_1 narrow_1).before #[Value.ref b] s = true
theorem wl_1 : Cond.classLink RL 7 RX10 ∈ tc_tb := tc_tb1 20 (by decide +kernel) (by decide +kernel)
theorem wl_2 : Cond.methodLink RL 9 yX10_init ∈ tc_tb := tc_tb1 22 (by decide +kernel) (by decide +kernel)
theorem wl_3 : Cond.instanceMethod yX10_init ∈ tc_tb := tc_tb1 23 (by decide +kernel) (by decide +kernel)
theorem wl_4 : Cond.code yX10_init cX10_init 1 none ∈ tc_tb := tc_tb1 24 (by decide +kernel) (by decide +kernel)
theorem wl_5 : Cond.classLink RL 10 RX11 ∈ tc_tb := tc_tb4 7 (by decide +kernel) (by decide +kernel)
theorem wl_6 : Cond.methodLink RL 12 yX11_init ∈ tc_tb := tc_tb4 9 (by decide +kernel) (by decide +kernel)
theorem wl_7 : Cond.instanceMethod yX11_init ∈ tc_tb := tc_tb4 10 (by decide +kernel) (by decide +kernel)
theorem wl_8 : Cond.code yX11_init cX11_init 2 none ∈ tc_tb := tc_tb4 11 (by decide +kernel) (by decide +kernel)
theorem wl_E1 (rr q sz : Nat) (U : State) : ∀ g mk a, kE10 rr q sz U → kE10 rr q sz (State.calling U g mk a) := by
  intro g mk a h
  obtain ⟨⟨h1, h2, h3, h4, h5, h6, h7⟩, h8⟩ := h
  exact ⟨⟨va_Nw.same (U := State.calling U g mk a) rfl rfl h1, va_Nw.same (U := State.calling U g mk a) rfl rfl h2, va_Nw.same (U := State.calling U g mk a) rfl rfl h3, va_Nw.same (U := State.calling U g mk a) rfl rfl h4, va_Nw.same (U := State.calling U g mk a) rfl rfl h5, va_Nw.same (U := State.calling U g mk a) rfl rfl h6, va_Nw.same (U := State.calling U g mk a) rfl rfl h7⟩, va_Z.moved (u := U) (U := State.calling U g mk a) (Vm.Alike.refl U.vm) h8⟩
theorem wl_E2 {rr q : Nat} {s U : State} {A : Nat → Prop} {args : Array Value} {H : Heap} {locs : List Loc} (hts : ∀ w ∈ lw_tbl, w.before args s = true) (hz : va_Z "ToldChances$Rule" "SQUARE" "LToldChances$Rule;" (.ref rr) A s s.heap) (hS : va_S A s.heap H locs) (hF : ∀ a, va_A [(q, .inr (8, [.null, .null, .null, .null, .null, .null, .null, .null, .null, .null, .null, .null, .null, .null]))] H.size a → A a) (hU : U.heap = H) (hW : s.WarmedH U.vm) : kE10 rr q H.size U := by
  refine ⟨⟨va_Nw.warmM hW (va_Nw.of rfl (hts _ (tw_1 49 (by decide +kernel)))), va_Nw.warmM hW (va_Nw.of rfl (hts _ (tw_1 64 (by decide +kernel)))), va_Nw.warmM hW (va_Nw.of rfl (hts _ (tw_1 82 (by decide +kernel)))), va_Nw.warmM hW (va_Nw.of rfl (hts _ (tw_1 113 (by decide +kernel)))), va_Nw.warmM hW (va_Nw.of rfl (hts _ (tw_1 145 (by decide +kernel)))), va_Nw.warmM hW (va_Nw.of rfl (hts _ (tw_1 174 (by decide +kernel)))), va_Nw.warmM hW (va_Nw.of rfl (hts _ (tw_1 189 (by decide +kernel))))⟩, ?_⟩
  rw [hU]
  exact ((hz.kept hS.2.1).narrow hF).moved hW.alike
set_option maxRecDepth 100000 in
set_option maxHeartbeats 4000000 in
theorem whole_start {p : Program} {e : Env} {s : State} {m : MethodId} {below : List Frame} {meth : Method} {c : Code} (l : Launch) (hflags : l.flags = flags0) {b L : Nat} {xs : Nat → Int32} (hL : L ≤ 2048) (C0 : lw_At p s m meth c b L xs) : W p l e room_1 s m #[Value.ref b] below meth c s.heap [] 0 0 (lw_Z below #[Value.ref b] s) (entryFrame m ([Value.ref b] : List Value).toArray 4) := by
  obtain ⟨hx, hb, hr, hml, hown, hts, hX, hbl, hlocks, hgv⟩ := id C0
  have hown' : s.vm.findClass RL = some m.cls := hown
  have htb : ∀ w ∈ tc_tb, w.before #[Value.ref b] s = true := fun w hw => hts w (tc_tb_lw hw)
  have hA0 : ∀ a : Nat, a < s.heap.size → ¬ (fun q : Nat => s.heap.size ≤ q) a := fun a h => Nat.not_le.mpr h
  obtain ⟨r1, r2, r3, r4, r6, hSt⟩ := sg_St (A := fun q : Nat => s.heap.size ≤ q) hts hgv hA0
  obtain ⟨D, cA, hK⟩ := sg_K htb
  have hz : va_Z "ToldChances$Rule" "SQUARE" "LToldChances$Rule;" (.ref (r1 0)) (fun q : Nat => s.heap.size ≤ q) s s.heap := (hSt (sw_ad 0 0 b [] [] r1 r2 r3 r4 r6) rfl rfl rfl rfl rfl).1 ("ToldChances$Rule", "SQUARE", "LToldChances$Rule;", tc_R 1 0) List.mem_cons_self
  have hS : va_S (fun q : Nat => s.heap.size ≤ q) s.heap s.heap [] := va_S.rf
  have hP : va_P D tc_cl [] s.heap := fun k q h => by simp at h
  have hD : va_D (fun q : Nat => s.heap.size ≤ q) [] := ⟨fun i j p q h => by simp at h, fun k q h => by simp at h⟩
  have hl := lv_entry ([.ref b]) (n := 4) (Nat.le_of_ble_eq_true rfl)
  rw [lg_entry_eq]
  generalize (lg_sl ([.ref b]) ++ List.replicate (4 - (lg_sl ([.ref b])).length) Slot.unset).toArray = ls at hl ⊢
  have hl : lv_has ls 4 [(0, .ref b)] := hl
  have X0 : ki_Cx room_1 cL_law 4 RL cA (p, l, e, room_1, s, m, #[Value.ref b], below, meth, c, (52, 1871), lw_Z below #[Value.ref b] s, lw_tbl, D, fun _ _ => 0, cA, fun q : Nat => s.heap.size ≤ q) := ⟨rfl, ⟨hx, hb, hml, hown', hts⟩, hK, fun q h => h, fun w hw => tc_tb_lw hw, rfl⟩
  refine ki_mkP (pc := 0) (K := []) (ws := []) (n := (0, 0)) (L := [(0, .ref b)]) (ixm := 9) X0 (kmX10_init (r1 0)) rfl inX10 tyX10_ok (fun j hj => by
      match j, hj with
      | 0, _ => rfl
      | 1, _ => rfl
      | 2, _ => rfl
      | 3, _ => rfl
      | 4, _ => rfl
      | 5, _ => rfl
      | 6, _ => rfl
      | 7, _ => rfl
      | 8, _ => rfl
      | 9, _ => rfl
      | 10, _ => rfl
      | 11, _ => rfl
      | 12, _ => rfl
      | 13, _ => rfl
      | k + 14, h => exact absurd h (by omega)) wl_1 wq_RX10 wn_RX10 wl_4 wl_3 wl_2 rfl rfl ⟨by decide +kernel, by decide +kernel, by decide +kernel⟩ ⟨Nat.le_of_ble_eq_true rfl, Nat.le_of_ble_eq_true rfl⟩ ⟨Nat.le_of_ble_eq_true rfl, Nat.le_of_ble_eq_true rfl⟩ (fun q sz U g mk a h9 => wl_E1 (r1 0) q sz U g mk a h9) (fun q H locs U h1 h2 h3 h4 => wl_E2 hts hz h1 h2 h3 h4) dL_law_0 dL_law_3 dL_law_4 (Nat.le_of_ble_eq_true rfl) (fun h0 u => ?_) s.heap [] ls hP hD hS hl
  clear hl hP hD hS
  intro H locs ls hP hD hS hl
  have hP : va_P D tc_cl (kwX10_init (r1 0) cA h0 u) H := hP
  have hD : va_D (fun q : Nat => s.heap.size ≤ q) (kwX10_init (r1 0) cA h0 u) := hD
  refine lv_astore_n (lv' := [(1, .ref h0), (0, .ref b)]) hx hb dL_law_7 rfl hl (by decide) rfl (fun ls hl => ?_)
  refine ki_mkP (pc := 8) (K := []) (ws := kwX10_init (r1 0) cA h0 u) (n := (34, 895)) (L := [(1, .ref h0), (0, .ref b)]) (ixm := 12) X0 kmX11_init rfl inX11 tyX11_ok (fun j hj => by
      match j, hj with
      | 0, _ => rfl
      | 1, _ => rfl
      | 2, _ => rfl
      | 3, _ => rfl
      | 4, _ => rfl
      | 5, _ => rfl
      | 6, _ => rfl
      | 7, _ => rfl
      | 8, _ => rfl
      | 9, _ => rfl
      | 10, _ => rfl
      | 11, _ => rfl
      | 12, _ => rfl
      | 13, _ => rfl
      | 14, _ => rfl
      | 15, _ => rfl
      | 16, _ => rfl
      | 17, _ => rfl
      | 18, _ => rfl
      | 19, _ => rfl
      | 20, _ => rfl
      | 21, _ => rfl
      | 22, _ => rfl
      | 23, _ => rfl
      | 24, _ => rfl
      | 25, _ => rfl
      | 26, _ => rfl
      | 27, _ => rfl
      | 28, _ => rfl
      | 29, _ => rfl
      | k + 30, h => exact absurd h (by omega)) wl_5 wq_RX11 wn_RX11 wl_8 wl_7 wl_6 rfl rfl ⟨by decide +kernel, by decide +kernel, by decide +kernel⟩ ⟨Nat.le_of_ble_eq_true rfl, Nat.le_of_ble_eq_true rfl⟩ ⟨Nat.le_of_ble_eq_true rfl, Nat.le_of_ble_eq_true rfl⟩ (fun _ _ _ _ _ _ h9 => h9) (ki_Ec_t _ _) dL_law_8 dL_law_11 dL_law_12 (Nat.le_of_ble_eq_true rfl) (fun h1 v => ?_) H locs ls hP hD hS hl
  clear hl hP hD hS
  intro H locs ls hP hD hS hl
  refine lv_astore_n (lv' := [(2, .ref h1), (1, .ref h0), (0, .ref b)]) hx hb dL_law_15 rfl hl (by decide) rfl (fun ls hl => ?_)
  refine lv_iconst (v := nI 0) hx hb dL_law_16 (by decide) ?_
  refine lv_istore_n (lv' := [(3, .int (nI 0)), (2, .ref h1), (1, .ref h0), (0, .ref b)]) hx hb dL_law_17 rfl hl (by decide) rfl (fun ls hl => ?_)
  have hP2 := hP.sub sw_p (sw_fm sw_p _ (sw_all (h0 := h0) (h1 := h1) (b := b) (u := u) (v := v) (r1 := r1) (r2 := r2) (r3 := r3) (r4 := r4) (r6 := r6) (cA := cA)))
  have hD2 := hD.sub sw_p sw_nd (sw_all (h0 := h0) (h1 := h1) (b := b) (u := u) (v := v) (r1 := r1) (r2 := r2) (r3 := r3) (r4 := r4) (r6 := r6) (cA := cA))
  have X : tc_Cx ({ frames := 10, cells := 52, slots := 1871, locals := 348 } : Room) cL_law 4 RL (p, l, e, room_1, s, m, #[Value.ref b], below, meth, c, (52, 1871), lw_Z below #[Value.ref b] s, lw_tbl, D, sw_ad h0 h1 b u v r1 r2 r3 r4 r6, cA, fun q : Nat => s.heap.size ≤ q) := ⟨rfl, ⟨hx, hb, hml, hown', hts⟩, hK, fun q h => h, hSt _ rfl rfl rfl rfl rfl, fun w hw => tc_tb_lw hw, Nat.le_of_ble_eq_true rfl, Nat.le_of_ble_eq_true rfl⟩
  have Y : tc_Sc xs L (p, l, e, room_1, s, m, #[Value.ref b], below, meth, c, (52, 1871), lw_Z below #[Value.ref b] s, lw_tbl, D, sw_ad h0 h1 b u v r1 r2 r3 r4 r6, cA, fun q : Nat => s.heap.size ≤ q) := ⟨hX, hbl, Nat.not_le.mpr hbl⟩
  have hrt : tc_Rt 1 cL_law 4 (p, l, e, room_1, s, m, #[Value.ref b], below, meth, c, (52, 1871), lw_Z below #[Value.ref b] s, lw_tbl, D, sw_ad h0 h1 b u v r1 r2 r3 r4 r6, cA, fun q : Nat => s.heap.size ≤ q) (fun r _ => r = some (tc_I 1)) := by
    intro pc L9 x S hq hz9 hd H locs ls hP hD hS hl
    have e9 : x = 1 := Sum.inl.inj (Option.some.inj hq)
    subst e9
    exact va_forget (fun q h => hS.2.2 q h) (lw_ret hx hb hr hlocks hd)
  exact law_loop X Y hrt (fun _ => rfl) hL L 0 sw_S (by omega) (by omega) sw_Rel H locs ls hP2 hD2 hS (lv_sub hl [3, 2, 1, 0] rfl)
