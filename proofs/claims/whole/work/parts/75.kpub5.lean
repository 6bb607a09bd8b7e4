section KP
variable {h : rx_H} {v : Nat → Nat} {u : Nat → Nat → Nat} {np L : Nat} {t : Nat → Nat} {cs : Nat → Int32}
theorem k_alike_bad (hc : cIv h v u np L t cs) (hv : wfV v) {p s q x : Int32} (hb : (isS v p s && isS v q x) = false) : rx_Cl 78 [.ref 1, .int p, .int s, .int q, .int x] h (kP h (v, u, np, L, t, rfs 0 cs) (.int (rcode 0))) := by
  have b1 := hc.1
  apply en_X7_alike _ _ _ _ _ 60 []
  cases c : isS v p s with
  | false =>
    simp (disch := first | decide | omega) only [rx_W, rx_wp_succ, rx_nx_stop, rx_nx_go, rx_lx_some, rx_fx_some, rx_ax_some, rx_qx_some, rx_ox_some, rx_vx_ref, rx_ix_ref, rx_ld_0, rx_ld_2, rx_ld_3, rx_cx_some, rx_nl, List.getElem?_cons_zero, List.getElem?_cons_succ, List.set_cons_zero, List.set_cons_succ, List.length_cons, List.length_nil, List.take_succ_cons, List.take_zero, List.drop_succ_cons, List.drop_zero, List.reverse_cons, List.reverse_nil, List.nil_append, List.cons_append, Option.toList_some, Option.toList_none, true_and, and_true, and_self, true_or, or_true, false_and, and_false, false_or, or_false, not_false_eq_true, Nat.reduceAdd, Nat.reduceLT, Nat.reduceLeDiff, Nat.reduceBEq, Nat.reduceEqDiff, Bool.or_false, Bool.false_or, if_true, if_false, Bool.false_eq_true, nq_eq, nq_lt, nq_le, nq_in_t, nq_bd, nq_ft, nq_clamp, nq_shl31, nq_shr31, nq_bitb, nq_add, nq_mul, fa_and, fa_or, nq_b0, nq_b1, nq_b01, ↓ni_lt_t, ↓ni_lt_f, ↓ni_le_t, ↓ni_le_f, ↓ni_eq_t, ↓ni_eq_f, ↓ni_beq_t, ↓ni_beq_f, it_X7_alike, q_X7_isState hc hv, c, b1, bO]
    refine k_ref hc (c := 0) (by omega) rfl (fun h' y1 y2 => ?_)
    simp (disch := first | decide | omega) only [rx_W, rx_wp_succ, rx_nx_stop, rx_nx_go, rx_lx_some, rx_fx_some, rx_ax_some, rx_qx_some, rx_ox_some, rx_vx_ref, rx_ix_ref, rx_ld_0, rx_ld_2, rx_ld_3, rx_cx_some, rx_nl, List.getElem?_cons_zero, List.getElem?_cons_succ, List.set_cons_zero, List.set_cons_succ, List.length_cons, List.length_nil, List.take_succ_cons, List.take_zero, List.drop_succ_cons, List.drop_zero, List.reverse_cons, List.reverse_nil, List.nil_append, List.cons_append, Option.toList_some, Option.toList_none, true_and, and_true, and_self, true_or, or_true, false_and, and_false, false_or, or_false, not_false_eq_true, Nat.reduceAdd, Nat.reduceLT, Nat.reduceLeDiff, Nat.reduceBEq, Nat.reduceEqDiff, Bool.or_false, Bool.false_or, if_true, if_false, Bool.false_eq_true, it_X7_alike]
    exact ⟨rfl, y1, y2⟩
  | true =>
    rw [c, Bool.true_and] at hb
    simp (disch := first | decide | omega) only [rx_W, rx_wp_succ, rx_nx_stop, rx_nx_go, rx_lx_some, rx_fx_some, rx_ax_some, rx_qx_some, rx_ox_some, rx_vx_ref, rx_ix_ref, rx_ld_0, rx_ld_2, rx_ld_3, rx_cx_some, rx_nl, List.getElem?_cons_zero, List.getElem?_cons_succ, List.set_cons_zero, List.set_cons_succ, List.length_cons, List.length_nil, List.take_succ_cons, List.take_zero, List.drop_succ_cons, List.drop_zero, List.reverse_cons, List.reverse_nil, List.nil_append, List.cons_append, Option.toList_some, Option.toList_none, true_and, and_true, and_self, true_or, or_true, false_and, and_false, false_or, or_false, not_false_eq_true, Nat.reduceAdd, Nat.reduceLT, Nat.reduceLeDiff, Nat.reduceBEq, Nat.reduceEqDiff, Bool.or_false, Bool.false_or, if_true, if_false, Bool.false_eq_true, nq_eq, nq_lt, nq_le, nq_in_t, nq_bd, nq_ft, nq_clamp, nq_shl31, nq_shr31, nq_bitb, nq_add, nq_mul, fa_and, fa_or, nq_b0, nq_b1, nq_b01, ↓ni_lt_t, ↓ni_lt_f, ↓ni_le_t, ↓ni_le_f, ↓ni_eq_t, ↓ni_eq_f, ↓ni_beq_t, ↓ni_beq_f, it_X7_alike, q_X7_isState hc hv, c, hb, b1, bO]
    refine k_ref hc (c := 0) (by omega) rfl (fun h' y1 y2 => ?_)
    simp (disch := first | decide | omega) only [rx_W, rx_wp_succ, rx_nx_stop, rx_nx_go, rx_lx_some, rx_fx_some, rx_ax_some, rx_qx_some, rx_ox_some, rx_vx_ref, rx_ix_ref, rx_ld_0, rx_ld_2, rx_ld_3, rx_cx_some, rx_nl, List.getElem?_cons_zero, List.getElem?_cons_succ, List.set_cons_zero, List.set_cons_succ, List.length_cons, List.length_nil, List.take_succ_cons, List.take_zero, List.drop_succ_cons, List.drop_zero, List.reverse_cons, List.reverse_nil, List.nil_append, List.cons_append, Option.toList_some, Option.toList_none, true_and, and_true, and_self, true_or, or_true, false_and, and_false, false_or, or_false, not_false_eq_true, Nat.reduceAdd, Nat.reduceLT, Nat.reduceLeDiff, Nat.reduceBEq, Nat.reduceEqDiff, Bool.or_false, Bool.false_or, if_true, if_false, Bool.false_eq_true, it_X7_alike]
    exact ⟨rfl, y1, y2⟩
variable {p q : Nat}
/-- compare, as the class's own -/
theorem k_cmp (hc : cIv h v u np L t cs) (hv : wfV v) (hp : p < 4) (hq : q < 4) : rx_Cl 2 [.ref 56, .ref (66 + 8 * p), .ref (66 + 8 * q)] h (fun r h' => r = none ∧ FC h h' ∧ cIv h' v u np L t cs ∧ ∃ nd Lk, rx_rd h' 56 = some (kO nd (v (41 * p))) ∧ aN h' 59 16 Lk ∧ ∀ s, s < v (41 * p) → Lk s < 2 ^ 16 ∧ ∀ x, x < v (41 * q) → ((Lk s).testBit (v (41 * p) + x) = true ↔ alk (v (41 * p)) (wq v p) (v (41 * q)) (wq v q) s x)) := by
  have hc' := hc
  obtain ⟨b1, -, b3, -, -, b6, -, b8, b9, b10⟩ := hc'
  obtain ⟨n0, n8, nw, -⟩ := hv p hp
  obtain ⟨m0, m8, mw, -⟩ := hv q hq
  refine rx_Cl_imp (c_X0_compare b8 (b3 p hp) (by omega) n0 n8 nw (b3 q hq) (by omega) m0 m8 mw) (fun r h' ⟨e, y1, y2, y3⟩ => ⟨e, FC_fr y1 (by simp), cIv_w y1 (by simp) hc (tI_sm (Sm_fr y1 (by simp)) b6) y2 (pgI_sm (Sm_fr y1 (by simp)) b9) (dr_sm (Sm_fr y1 (by simp)) b10), y3⟩)
theorem k_alike_ok (hc : cIv h v u np L t cs) (hv : wfV v) (hp : p < 4) (hq : q < 4) {s x : Nat} (hs : s < v (41 * p)) (hx : x < v (41 * q)) {b : Bool} (hb : b = true ↔ alk (v (41 * p)) (wq v p) (v (41 * q)) (wq v q) s x) : rx_Cl 78 [.ref 1, .int (nI p), .int (nI s), .int (nI q), .int (nI x)] h (kP h (v, u, np, L, t, cs) (.int (nI b.toNat))) := by
  have hc' := hc
  obtain ⟨b1, ⟨⟨fP, p1, p2⟩, -⟩, -, -, -, -, -, ⟨nd, sc, Ld, Im, Lk, Nb, k1, -⟩, -⟩ := hc'
  have q1 := p2 p hp
  have q2 := p2 q hq
  have n8 := (hv p hp).2.1
  have m8 := (hv q hq).2.1
  apply en_X7_alike _ _ _ _ _ 60 []
  simp (disch := first | decide | omega) only [rx_W, rx_wp_succ, rx_nx_stop, rx_nx_go, rx_lx_some, rx_fx_some, rx_ax_some, rx_qx_some, rx_ox_some, rx_vx_ref, rx_ix_ref, rx_ld_0, rx_ld_2, rx_ld_3, rx_cx_some, rx_nl, List.getElem?_cons_zero, List.getElem?_cons_succ, List.set_cons_zero, List.set_cons_succ, List.length_cons, List.length_nil, List.take_succ_cons, List.take_zero, List.drop_succ_cons, List.drop_zero, List.reverse_cons, List.reverse_nil, List.nil_append, List.cons_append, Option.toList_some, Option.toList_none, true_and, and_true, and_self, true_or, or_true, false_and, and_false, false_or, or_false, not_false_eq_true, Nat.reduceAdd, Nat.reduceLT, Nat.reduceLeDiff, Nat.reduceBEq, Nat.reduceEqDiff, Bool.or_false, Bool.false_or, if_true, if_false, Bool.false_eq_true, nq_eq, nq_lt, nq_le, nq_in_t, nq_bd, nq_ft, nq_clamp, nq_shl31, nq_shr31, nq_bitb, nq_add, nq_mul, fa_and, fa_or, nq_b0, nq_b1, nq_b01, ↓ni_lt_t, ↓ni_lt_f, ↓ni_le_t, ↓ni_le_f, ↓ni_eq_t, ↓ni_eq_f, ↓ni_beq_t, ↓ni_beq_f, it_X7_alike, q_X7_isState hc hv, isS_of hv hp hs, isS_of hv hq hx, b1, bO, p1, rwO, q1, q2, k1, kO]
  refine rx_Cl_imp (k_cmp hc hv hp hq) (fun r h' ⟨e, y1, y2, nd', Lk', y3, y4, y5⟩ => ?_)
  subst e
  have b1' := y2.1
  obtain ⟨g1, g2⟩ := y5 s hs
  have g3 := bool_iff ((g2 x hx).trans hb.symm)
  simp (disch := first | decide | omega) only [rx_W, rx_wp_succ, rx_nx_stop, rx_nx_go, rx_lx_some, rx_fx_some, rx_ax_some, rx_qx_some, rx_ox_some, rx_vx_ref, rx_ix_ref, rx_ld_0, rx_ld_2, rx_ld_3, rx_cx_some, rx_nl, List.getElem?_cons_zero, List.getElem?_cons_succ, List.set_cons_zero, List.set_cons_succ, List.length_cons, List.length_nil, List.take_succ_cons, List.take_zero, List.drop_succ_cons, List.drop_zero, List.reverse_cons, List.reverse_nil, List.nil_append, List.cons_append, Option.toList_some, Option.toList_none, true_and, and_true, and_self, true_or, or_true, false_and, and_false, false_or, or_false, not_false_eq_true, Nat.reduceAdd, Nat.reduceLT, Nat.reduceLeDiff, Nat.reduceBEq, Nat.reduceEqDiff, Bool.or_false, Bool.false_or, if_true, if_false, Bool.false_eq_true, nq_eq, nq_lt, nq_le, nq_in_t, nq_bd, nq_ft, nq_clamp, nq_shl31, nq_shr31, nq_bitb, nq_add, nq_mul, fa_and, fa_or, nq_b0, nq_b1, nq_b01, ↓ni_lt_t, ↓ni_lt_f, ↓ni_le_t, ↓ni_le_f, ↓ni_eq_t, ↓ni_eq_f, ↓ni_beq_t, ↓ni_beq_f, it_X7_alike, b1', bO, y3, kO, q_X0_across y3 y4, g1, g3]
  cases b with
  | true =>
    simp (disch := first | decide | omega) only [rx_W, rx_wp_succ, rx_nx_stop, rx_nx_go, rx_lx_some, rx_fx_some, rx_ax_some, rx_qx_some, rx_ox_some, rx_vx_ref, rx_ix_ref, rx_ld_0, rx_ld_2, rx_ld_3, rx_cx_some, rx_nl, List.getElem?_cons_zero, List.getElem?_cons_succ, List.set_cons_zero, List.set_cons_succ, List.length_cons, List.length_nil, List.take_succ_cons, List.take_zero, List.drop_succ_cons, List.drop_zero, List.reverse_cons, List.reverse_nil, List.nil_append, List.cons_append, Option.toList_some, Option.toList_none, true_and, and_true, and_self, true_or, or_true, false_and, and_false, false_or, or_false, not_false_eq_true, Nat.reduceAdd, Nat.reduceLT, Nat.reduceLeDiff, Nat.reduceBEq, Nat.reduceEqDiff, Bool.or_false, Bool.false_or, if_true, if_false, Bool.false_eq_true, nq_eq, nq_lt, nq_le, nq_in_t, nq_bd, nq_ft, nq_clamp, nq_shl31, nq_shr31, nq_bitb, nq_add, nq_mul, fa_and, fa_or, nq_b0, nq_b1, nq_b01, ↓ni_lt_t, ↓ni_lt_f, ↓ni_le_t, ↓ni_le_f, ↓ni_eq_t, ↓ni_eq_f, ↓ni_beq_t, ↓ni_beq_f, it_X7_alike, Bool.toNat_true]
    exact ⟨rfl, y1, y2⟩
  | false =>
    simp (disch := first | decide | omega) only [rx_W, rx_wp_succ, rx_nx_stop, rx_nx_go, rx_lx_some, rx_fx_some, rx_ax_some, rx_qx_some, rx_ox_some, rx_vx_ref, rx_ix_ref, rx_ld_0, rx_ld_2, rx_ld_3, rx_cx_some, rx_nl, List.getElem?_cons_zero, List.getElem?_cons_succ, List.set_cons_zero, List.set_cons_succ, List.length_cons, List.length_nil, List.take_succ_cons, List.take_zero, List.drop_succ_cons, List.drop_zero, List.reverse_cons, List.reverse_nil, List.nil_append, List.cons_append, Option.toList_some, Option.toList_none, true_and, and_true, and_self, true_or, or_true, false_and, and_false, false_or, or_false, not_false_eq_true, Nat.reduceAdd, Nat.reduceLT, Nat.reduceLeDiff, Nat.reduceBEq, Nat.reduceEqDiff, Bool.or_false, Bool.false_or, if_true, if_false, Bool.false_eq_true, nq_eq, nq_lt, nq_le, nq_in_t, nq_bd, nq_ft, nq_clamp, nq_shl31, nq_shr31, nq_bitb, nq_add, nq_mul, fa_and, fa_or, nq_b0, nq_b1, nq_b01, ↓ni_lt_t, ↓ni_lt_f, ↓ni_le_t, ↓ni_le_f, ↓ni_eq_t, ↓ni_eq_f, ↓ni_beq_t, ↓ni_beq_f, it_X7_alike, Bool.toNat_false]
    exact ⟨rfl, y1, y2⟩
theorem wfP_press {n : Nat} {w : Nat → Nat} {R : Nat} {A : Nat → Nat} (hw : wfP n w) (hs : pSpec n w R A) : wfP (nuF R A n) (prW n w R A n) := by
  obtain ⟨h1, h2, h3, h4, h5⟩ := hw
  have nl := nuF_le (R := R) (A := A) n
  refine ⟨nuF_pos hs h1 h2 h3, by omega, fun j _ => prW_lt hs h2 h3 n j, fun a c x y z => prW_0 n _ (by omega), Nat.le_trans (prW_tot_le h2) h5⟩
theorem k_presses_bad (hc : cIv h v u np L t cs) {p : Int32} (hb : inR p 4 = false) : rx_Cl 75 [.ref 1, .int p] h (kP h (v, u, np, L, t, rfs 0 cs) (.int (rcode 0))) := by
  have b1 := hc.1
  apply en_X7_presses _ _ 60 []
  simp (disch := first | decide | omega) only [rx_W, rx_wp_succ, rx_nx_stop, rx_nx_go, rx_lx_some, rx_fx_some, rx_ax_some, rx_qx_some, rx_ox_some, rx_vx_ref, rx_ix_ref, rx_ld_0, rx_ld_2, rx_ld_3, rx_cx_some, rx_nl, List.getElem?_cons_zero, List.getElem?_cons_succ, List.set_cons_zero, List.set_cons_succ, List.length_cons, List.length_nil, List.take_succ_cons, List.take_zero, List.drop_succ_cons, List.drop_zero, List.reverse_cons, List.reverse_nil, List.nil_append, List.cons_append, Option.toList_some, Option.toList_none, true_and, and_true, and_self, true_or, or_true, false_and, and_false, false_or, or_false, not_false_eq_true, Nat.reduceAdd, Nat.reduceLT, Nat.reduceLeDiff, Nat.reduceBEq, Nat.reduceEqDiff, Bool.or_false, Bool.false_or, if_true, if_false, Bool.false_eq_true, nq_eq, nq_lt, nq_le, nq_in_t, nq_bd, nq_ft, nq_clamp, nq_shl31, nq_shr31, nq_bitb, nq_add, nq_mul, fa_and, fa_or, nq_b0, nq_b1, nq_b01, ↓ni_lt_t, ↓ni_lt_f, ↓ni_le_t, ↓ni_le_f, ↓ni_eq_t, ↓ni_eq_f, ↓ni_beq_t, ↓ni_beq_f, it_X7_presses, q_X7_isProcess, hb, b1, bO]
  refine k_ref hc (c := 0) (by omega) rfl (fun h' y1 y2 => ?_)
  simp (disch := first | decide | omega) only [rx_W, rx_wp_succ, rx_nx_stop, rx_nx_go, rx_lx_some, rx_fx_some, rx_ax_some, rx_qx_some, rx_ox_some, rx_vx_ref, rx_ix_ref, rx_ld_0, rx_ld_2, rx_ld_3, rx_cx_some, rx_nl, List.getElem?_cons_zero, List.getElem?_cons_succ, List.set_cons_zero, List.set_cons_succ, List.length_cons, List.length_nil, List.take_succ_cons, List.take_zero, List.drop_succ_cons, List.drop_zero, List.reverse_cons, List.reverse_nil, List.nil_append, List.cons_append, Option.toList_some, Option.toList_none, true_and, and_true, and_self, true_or, or_true, false_and, and_false, false_or, or_false, not_false_eq_true, Nat.reduceAdd, Nat.reduceLT, Nat.reduceLeDiff, Nat.reduceBEq, Nat.reduceEqDiff, Bool.or_false, Bool.false_or, if_true, if_false, Bool.false_eq_true, it_X7_presses]
  exact ⟨rfl, y1, y2⟩
theorem k_presses_ok (hc : cIv h v u np L t cs) (hv : wfV v) (hnp : np ≤ 5) (hp : p < 4) {R : Nat} {A : Nat → Nat} (hs : pSpec (v (41 * p)) (wq v p) R A) : rx_Cl 75 [.ref 1, .int (nI p)] h (kP h (setP v p (nuF R A (v (41 * p))) (prW (v (41 * p)) (wq v p) R A (v (41 * p))), pU u np v, pN np, L, t, cs) (.int (nI (nuF R A (v (41 * p)))))) := by
  have b1 := hc.1
  obtain ⟨n0, n8, nw, -⟩ := hv p hp
  apply en_X7_presses _ _ 60 []
  simp (disch := first | decide | omega) only [rx_W, rx_wp_succ, rx_nx_stop, rx_nx_go, rx_lx_some, rx_fx_some, rx_ax_some, rx_qx_some, rx_ox_some, rx_vx_ref, rx_ix_ref, rx_ld_0, rx_ld_2, rx_ld_3, rx_cx_some, rx_nl, List.getElem?_cons_zero, List.getElem?_cons_succ, List.set_cons_zero, List.set_cons_succ, List.length_cons, List.length_nil, List.take_succ_cons, List.take_zero, List.drop_succ_cons, List.drop_zero, List.reverse_cons, List.reverse_nil, List.nil_append, List.cons_append, Option.toList_some, Option.toList_none, true_and, and_true, and_self, true_or, or_true, false_and, and_false, false_or, or_false, not_false_eq_true, Nat.reduceAdd, Nat.reduceLT, Nat.reduceLeDiff, Nat.reduceBEq, Nat.reduceEqDiff, Bool.or_false, Bool.false_or, if_true, if_false, Bool.false_eq_true, nq_eq, nq_lt, nq_le, nq_in_t, nq_bd, nq_ft, nq_clamp, nq_shl31, nq_shr31, nq_bitb, nq_add, nq_mul, fa_and, fa_or, nq_b0, nq_b1, nq_b01, ↓ni_lt_t, ↓ni_lt_f, ↓ni_le_t, ↓ni_le_f, ↓ni_eq_t, ↓ni_eq_f, ↓ni_beq_t, ↓ni_beq_f, it_X7_presses, q_X7_isProcess, inR_of hp, b1, bO]
  refine rx_Cl_imp (k_leave hc hnp hp) (fun r h2 ⟨e, y1, y2, y3⟩ => ?_)
  subst e
  have y2' := y2
  obtain ⟨c1, ⟨⟨fP, p1, p2⟩, -⟩, c3, -, -, c6, -, c8, c9, c10⟩ := y2'
  have q1 := p2 p hp
  have pp := c3 p hp
  have c8' := c8
  obtain ⟨nd, sc, Ld, Im, Lk, Nb, k1, -⟩ := c8'
  simp (disch := first | decide | omega) only [rx_W, rx_wp_succ, rx_nx_stop, rx_nx_go, rx_lx_some, rx_fx_some, rx_ax_some, rx_qx_some, rx_ox_some, rx_vx_ref, rx_ix_ref, rx_ld_0, rx_ld_2, rx_ld_3, rx_cx_some, rx_nl, List.getElem?_cons_zero, List.getElem?_cons_succ, List.set_cons_zero, List.set_cons_succ, List.length_cons, List.length_nil, List.take_succ_cons, List.take_zero, List.drop_succ_cons, List.drop_zero, List.reverse_cons, List.reverse_nil, List.nil_append, List.cons_append, Option.toList_some, Option.toList_none, true_and, and_true, and_self, true_or, or_true, false_and, and_false, false_or, or_false, not_false_eq_true, Nat.reduceAdd, Nat.reduceLT, Nat.reduceLeDiff, Nat.reduceBEq, Nat.reduceEqDiff, Bool.or_false, Bool.false_or, if_true, if_false, Bool.false_eq_true, nq_eq, nq_lt, nq_le, nq_in_t, nq_bd, nq_ft, nq_clamp, nq_shl31, nq_shr31, nq_bitb, nq_add, nq_mul, fa_and, fa_or, nq_b0, nq_b1, nq_b01, ↓ni_lt_t, ↓ni_lt_f, ↓ni_le_t, ↓ni_le_f, ↓ni_eq_t, ↓ni_eq_f, ↓ni_beq_t, ↓ni_beq_f, it_X7_presses, c1, bO, p1, rwO, q1, k1, kO]
  refine rx_Cl_imp (c_X0_lookInto c8 pp (by omega) n0 n8 nw) (fun r h3 ⟨e, z1, z2, nd3, sc3, Lk3, z3, z4, z5⟩ => ?_)
  subst e
  have d1 := rd_fr z1 (by simp) c1
  have e1 := rd_fr z1 (by simp) p1
  have pp3 := pW_fr z1 (by simp; omega) (by simp; omega) pp
  obtain ⟨n9, w9, dr⟩ := dr_sm (Sm_fr z1 (by simp)) c10
  have z2' := z2
  obtain ⟨_, _, _, _, _, Nb3, _, _, _, _, kNb⟩ := z2'
  simp (disch := first | decide | omega) only [rx_W, rx_wp_succ, rx_nx_stop, rx_nx_go, rx_lx_some, rx_fx_some, rx_ax_some, rx_qx_some, rx_ox_some, rx_vx_ref, rx_ix_ref, rx_ld_0, rx_ld_2, rx_ld_3, rx_cx_some, rx_nl, List.getElem?_cons_zero, List.getElem?_cons_succ, List.set_cons_zero, List.set_cons_succ, List.length_cons, List.length_nil, List.take_succ_cons, List.take_zero, List.drop_succ_cons, List.drop_zero, List.reverse_cons, List.reverse_nil, List.nil_append, List.cons_append, Option.toList_some, Option.toList_none, true_and, and_true, and_self, true_or, or_true, false_and, and_false, false_or, or_false, not_false_eq_true, Nat.reduceAdd, Nat.reduceLT, Nat.reduceLeDiff, Nat.reduceBEq, Nat.reduceEqDiff, Bool.or_false, Bool.false_or, if_true, if_false, Bool.false_eq_true, nq_eq, nq_lt, nq_le, nq_in_t, nq_bd, nq_ft, nq_clamp, nq_shl31, nq_shr31, nq_bitb, nq_add, nq_mul, fa_and, fa_or, nq_b0, nq_b1, nq_b01, ↓ni_lt_t, ↓ni_lt_f, ↓ni_le_t, ↓ni_le_f, ↓ni_eq_t, ↓ni_eq_f, ↓ni_beq_t, ↓ni_beq_f, it_X7_presses, d1, bO, e1, rwO, q1, z3, kO]
  refine rx_Cl_imp (c_X0_press pp3 (by omega) z3 z4 kNb (fun i hi => (z5 i hi).2) n0 n8 nw dr) (fun r h4 ⟨e, w1, R', A', w2, w3, w4⟩ => ?_)
  subst e
  obtain ⟨q5, q6⟩ := pSpec_one hs w2 n8 nw
  have q7 : prW (v (41 * p)) (wq v p) R A (v (41 * p)) = prW (v (41 * p)) (wq v p) R' A' (v (41 * p)) := funext q6
  have wfN := wfP_press (hv p hp) hs
  rw [← q5, ← q7] at w4
  have f4 := Fr_trans z1 w1 (C := [56, 57, 58, 59, 60, 64, 65]) (by simp) (by simp)
  have d4 := rd_fr f4 (by simp) c1
  have e4 := rd_fr f4 (by simp) p1
  have pp4 := pW_fr w1 (by simp; omega) (by simp; omega) pp3
  have kI4 : kI h4 := by
    obtain ⟨nd, sc, Ld, Im, Lk, Nb, k1, k2, k3, k4, -⟩ := z2
    obtain ⟨Nb', k5⟩ := w3
    exact ⟨nd, sc, Ld, Im, Lk, Nb', rd_fr w1 (by simp) k1, aN_fr w1 (by simp) k2, aN_fr w1 (by simp) k3, aN_fr w1 (by simp) k4, k5⟩
  have ci4 := cIv_w f4 (by simp) y2 (tI_sm (Sm_fr f4 (by simp)) c6) kI4 (pgI_sm (Sm_fr f4 (by simp)) c9) ⟨_, _, w4⟩
  have oF4 : oF h4 (68 + 8 * p) := oF_sm (a := 66) (b := 97) (Sm_fr f4 (by simp)) (by omega) (by omega) y3
  simp (disch := first | decide | omega) only [rx_W, rx_wp_succ, rx_nx_stop, rx_nx_go, rx_lx_some, rx_fx_some, rx_ax_some, rx_qx_some, rx_ox_some, rx_vx_ref, rx_ix_ref, rx_ld_0, rx_ld_2, rx_ld_3, rx_cx_some, rx_nl, List.getElem?_cons_zero, List.getElem?_cons_succ, List.set_cons_zero, List.set_cons_succ, List.length_cons, List.length_nil, List.take_succ_cons, List.take_zero, List.drop_succ_cons, List.drop_zero, List.reverse_cons, List.reverse_nil, List.nil_append, List.cons_append, Option.toList_some, Option.toList_none, true_and, and_true, and_self, true_or, or_true, false_and, and_false, false_or, or_false, not_false_eq_true, Nat.reduceAdd, Nat.reduceLT, Nat.reduceLeDiff, Nat.reduceBEq, Nat.reduceEqDiff, Bool.or_false, Bool.false_or, if_true, if_false, Bool.false_eq_true, nq_eq, nq_lt, nq_le, nq_in_t, nq_bd, nq_ft, nq_clamp, nq_shl31, nq_shr31, nq_bitb, nq_add, nq_mul, fa_and, fa_or, nq_b0, nq_b1, nq_b01, ↓ni_lt_t, ↓ni_lt_f, ↓ni_le_t, ↓ni_le_f, ↓ni_eq_t, ↓ni_eq_f, ↓ni_beq_t, ↓ni_beq_f, it_X7_presses, d4, bO, e4, rwO, q1, pp4.1, pp4.2.2]
  refine rx_Cl_imp (c_X4_become pp4 w4 (by omega)) (fun r h5 ⟨e, x1, x2⟩ => ?_)
  subst e
  obtain ⟨g1, g2⟩ := k_set hv wfN hp ci4 oF4 x1 x2
  have g2' := g2
  obtain ⟨i1, ⟨⟨fP5, i2, i3⟩, -⟩, -⟩ := g2'
  have q8 := i3 p hp
  simp (disch := first | decide | omega) only [rx_W, rx_wp_succ, rx_nx_stop, rx_nx_go, rx_lx_some, rx_fx_some, rx_ax_some, rx_qx_some, rx_ox_some, rx_vx_ref, rx_ix_ref, rx_ld_0, rx_ld_2, rx_ld_3, rx_cx_some, rx_nl, List.getElem?_cons_zero, List.getElem?_cons_succ, List.set_cons_zero, List.set_cons_succ, List.length_cons, List.length_nil, List.take_succ_cons, List.take_zero, List.drop_succ_cons, List.drop_zero, List.reverse_cons, List.reverse_nil, List.nil_append, List.cons_append, Option.toList_some, Option.toList_none, true_and, and_true, and_self, true_or, or_true, false_and, and_false, false_or, or_false, not_false_eq_true, Nat.reduceAdd, Nat.reduceLT, Nat.reduceLeDiff, Nat.reduceBEq, Nat.reduceEqDiff, Bool.or_false, Bool.false_or, if_true, if_false, Bool.false_eq_true, nq_eq, nq_lt, nq_le, nq_in_t, nq_bd, nq_ft, nq_clamp, nq_shl31, nq_shr31, nq_bitb, nq_add, nq_mul, fa_and, fa_or, nq_b0, nq_b1, nq_b01, ↓ni_lt_t, ↓ni_lt_f, ↓ni_le_t, ↓ni_le_f, ↓ni_eq_t, ↓ni_eq_f, ↓ni_beq_t, ↓ni_beq_f, it_X7_presses, i1, bO, i2, rwO, q8, x2.1, x2.2.2]
  exact ⟨rfl, FC_trans y1 (FC_trans (FC_fr f4 (by simp)) g1), g2⟩
/-! together -/
theorem k_together_bad (hc : cIv h v u np L t cs) {p q s r : Int32} (hb : inT p q s r = false) : rx_Cl 74 [.ref 1, .int p, .int q, .int s, .int r] h (kP h (v, u, np, L, t, rfs 0 cs) (.int (rcode 0))) := by
  have b1 := hc.1
  unfold inT at hb
  apply en_X7_together _ _ _ _ _ 60 []
  have fin : ∀ K : Option Value → rx_H → Prop, (∀ h', FC h h' → cIv h' v u np L t (rfs 0 cs) → K (some (.int (rcode 0))) h') → rx_Cl 95 [.ref 1, .int (-2)] h K := fun K hK => k_ref hc (c := 0) (by omega) rfl hK
  cases c1 : inR p 4 with
  | false =>
    simp (disch := first | decide | omega) only [rx_W, rx_wp_succ, rx_nx_stop, rx_nx_go, rx_lx_some, rx_fx_some, rx_ax_some, rx_qx_some, rx_ox_some, rx_vx_ref, rx_ix_ref, rx_ld_0, rx_ld_2, rx_ld_3, rx_cx_some, rx_nl, List.getElem?_cons_zero, List.getElem?_cons_succ, List.set_cons_zero, List.set_cons_succ, List.length_cons, List.length_nil, List.take_succ_cons, List.take_zero, List.drop_succ_cons, List.drop_zero, List.reverse_cons, List.reverse_nil, List.nil_append, List.cons_append, Option.toList_some, Option.toList_none, true_and, and_true, and_self, true_or, or_true, false_and, and_false, false_or, or_false, not_false_eq_true, Nat.reduceAdd, Nat.reduceLT, Nat.reduceLeDiff, Nat.reduceBEq, Nat.reduceEqDiff, Bool.or_false, Bool.false_or, if_true, if_false, Bool.false_eq_true, nq_eq, nq_lt, nq_le, nq_in_t, nq_bd, nq_ft, nq_clamp, nq_shl31, nq_shr31, nq_bitb, nq_add, nq_mul, fa_and, fa_or, nq_b0, nq_b1, nq_b01, ↓ni_lt_t, ↓ni_lt_f, ↓ni_le_t, ↓ni_le_f, ↓ni_eq_t, ↓ni_eq_f, ↓ni_beq_t, ↓ni_beq_f, it_X7_together, q_X7_isProcess, c1, b1, bO]
    refine fin _ (fun h' y1 y2 => ?_)
    simp (disch := first | decide | omega) only [rx_W, rx_wp_succ, rx_nx_stop, rx_nx_go, rx_lx_some, rx_fx_some, rx_ax_some, rx_qx_some, rx_ox_some, rx_vx_ref, rx_ix_ref, rx_ld_0, rx_ld_2, rx_ld_3, rx_cx_some, rx_nl, List.getElem?_cons_zero, List.getElem?_cons_succ, List.set_cons_zero, List.set_cons_succ, List.length_cons, List.length_nil, List.take_succ_cons, List.take_zero, List.drop_succ_cons, List.drop_zero, List.reverse_cons, List.reverse_nil, List.nil_append, List.cons_append, Option.toList_some, Option.toList_none, true_and, and_true, and_self, true_or, or_true, false_and, and_false, false_or, or_false, not_false_eq_true, Nat.reduceAdd, Nat.reduceLT, Nat.reduceLeDiff, Nat.reduceBEq, Nat.reduceEqDiff, Bool.or_false, Bool.false_or, if_true, if_false, Bool.false_eq_true, it_X7_together]
    exact ⟨rfl, y1, y2⟩
  | true =>
    rw [c1, Bool.true_and] at hb
    cases c2 : inR q 4 with
    | false =>
      simp (disch := first | decide | omega) only [rx_W, rx_wp_succ, rx_nx_stop, rx_nx_go, rx_lx_some, rx_fx_some, rx_ax_some, rx_qx_some, rx_ox_some, rx_vx_ref, rx_ix_ref, rx_ld_0, rx_ld_2, rx_ld_3, rx_cx_some, rx_nl, List.getElem?_cons_zero, List.getElem?_cons_succ, List.set_cons_zero, List.set_cons_succ, List.length_cons, List.length_nil, List.take_succ_cons, List.take_zero, List.drop_succ_cons, List.drop_zero, List.reverse_cons, List.reverse_nil, List.nil_append, List.cons_append, Option.toList_some, Option.toList_none, true_and, and_true, and_self, true_or, or_true, false_and, and_false, false_or, or_false, not_false_eq_true, Nat.reduceAdd, Nat.reduceLT, Nat.reduceLeDiff, Nat.reduceBEq, Nat.reduceEqDiff, Bool.or_false, Bool.false_or, if_true, if_false, Bool.false_eq_true, nq_eq, nq_lt, nq_le, nq_in_t, nq_bd, nq_ft, nq_clamp, nq_shl31, nq_shr31, nq_bitb, nq_add, nq_mul, fa_and, fa_or, nq_b0, nq_b1, nq_b01, ↓ni_lt_t, ↓ni_lt_f, ↓ni_le_t, ↓ni_le_f, ↓ni_eq_t, ↓ni_eq_f, ↓ni_beq_t, ↓ni_beq_f, it_X7_together, q_X7_isProcess, c1, c2, b1, bO]
      refine fin _ (fun h' y1 y2 => ?_)
      simp (disch := first | decide | omega) only [rx_W, rx_wp_succ, rx_nx_stop, rx_nx_go, rx_lx_some, rx_fx_some, rx_ax_some, rx_qx_some, rx_ox_some, rx_vx_ref, rx_ix_ref, rx_ld_0, rx_ld_2, rx_ld_3, rx_cx_some, rx_nl, List.getElem?_cons_zero, List.getElem?_cons_succ, List.set_cons_zero, List.set_cons_succ, List.length_cons, List.length_nil, List.take_succ_cons, List.take_zero, List.drop_succ_cons, List.drop_zero, List.reverse_cons, List.reverse_nil, List.nil_append, List.cons_append, Option.toList_some, Option.toList_none, true_and, and_true, and_self, true_or, or_true, false_and, and_false, false_or, or_false, not_false_eq_true, Nat.reduceAdd, Nat.reduceLT, Nat.reduceLeDiff, Nat.reduceBEq, Nat.reduceEqDiff, Bool.or_false, Bool.false_or, if_true, if_false, Bool.false_eq_true, it_X7_together]
      exact ⟨rfl, y1, y2⟩
    | true =>
      rw [c2, Bool.true_and] at hb
      cases c3 : inR s 16 with
      | false =>
        simp (disch := first | decide | omega) only [rx_W, rx_wp_succ, rx_nx_stop, rx_nx_go, rx_lx_some, rx_fx_some, rx_ax_some, rx_qx_some, rx_ox_some, rx_vx_ref, rx_ix_ref, rx_ld_0, rx_ld_2, rx_ld_3, rx_cx_some, rx_nl, List.getElem?_cons_zero, List.getElem?_cons_succ, List.set_cons_zero, List.set_cons_succ, List.length_cons, List.length_nil, List.take_succ_cons, List.take_zero, List.drop_succ_cons, List.drop_zero, List.reverse_cons, List.reverse_nil, List.nil_append, List.cons_append, Option.toList_some, Option.toList_none, true_and, and_true, and_self, true_or, or_true, false_and, and_false, false_or, or_false, not_false_eq_true, Nat.reduceAdd, Nat.reduceLT, Nat.reduceLeDiff, Nat.reduceBEq, Nat.reduceEqDiff, Bool.or_false, Bool.false_or, if_true, if_false, Bool.false_eq_true, nq_eq, nq_lt, nq_le, nq_in_t, nq_bd, nq_ft, nq_clamp, nq_shl31, nq_shr31, nq_bitb, nq_add, nq_mul, fa_and, fa_or, nq_b0, nq_b1, nq_b01, ↓ni_lt_t, ↓ni_lt_f, ↓ni_le_t, ↓ni_le_f, ↓ni_eq_t, ↓ni_eq_f, ↓ni_beq_t, ↓ni_beq_f, it_X7_together, q_X7_isProcess, q_X7_isLetterSet, c1, c2, c3, b1, bO]
        refine fin _ (fun h' y1 y2 => ?_)
        simp (disch := first | decide | omega) only [rx_W, rx_wp_succ, rx_nx_stop, rx_nx_go, rx_lx_some, rx_fx_some, rx_ax_some, rx_qx_some, rx_ox_some, rx_vx_ref, rx_ix_ref, rx_ld_0, rx_ld_2, rx_ld_3, rx_cx_some, rx_nl, List.getElem?_cons_zero, List.getElem?_cons_succ, List.set_cons_zero, List.set_cons_succ, List.length_cons, List.length_nil, List.take_succ_cons, List.take_zero, List.drop_succ_cons, List.drop_zero, List.reverse_cons, List.reverse_nil, List.nil_append, List.cons_append, Option.toList_some, Option.toList_none, true_and, and_true, and_self, true_or, or_true, false_and, and_false, false_or, or_false, not_false_eq_true, Nat.reduceAdd, Nat.reduceLT, Nat.reduceLeDiff, Nat.reduceBEq, Nat.reduceEqDiff, Bool.or_false, Bool.false_or, if_true, if_false, Bool.false_eq_true, it_X7_together]
        exact ⟨rfl, y1, y2⟩
      | true =>
        rw [c3, Bool.true_and] at hb
        simp (disch := first | decide | omega) only [rx_W, rx_wp_succ, rx_nx_stop, rx_nx_go, rx_lx_some, rx_fx_some, rx_ax_some, rx_qx_some, rx_ox_some, rx_vx_ref, rx_ix_ref, rx_ld_0, rx_ld_2, rx_ld_3, rx_cx_some, rx_nl, List.getElem?_cons_zero, List.getElem?_cons_succ, List.set_cons_zero, List.set_cons_succ, List.length_cons, List.length_nil, List.take_succ_cons, List.take_zero, List.drop_succ_cons, List.drop_zero, List.reverse_cons, List.reverse_nil, List.nil_append, List.cons_append, Option.toList_some, Option.toList_none, true_and, and_true, and_self, true_or, or_true, false_and, and_false, false_or, or_false, not_false_eq_true, Nat.reduceAdd, Nat.reduceLT, Nat.reduceLeDiff, Nat.reduceBEq, Nat.reduceEqDiff, Bool.or_false, Bool.false_or, if_true, if_false, Bool.false_eq_true, nq_eq, nq_lt, nq_le, nq_in_t, nq_bd, nq_ft, nq_clamp, nq_shl31, nq_shr31, nq_bitb, nq_add, nq_mul, fa_and, fa_or, nq_b0, nq_b1, nq_b01, ↓ni_lt_t, ↓ni_lt_f, ↓ni_le_t, ↓ni_le_f, ↓ni_eq_t, ↓ni_eq_f, ↓ni_beq_t, ↓ni_beq_f, it_X7_together, q_X7_isProcess, q_X7_isLetterSet, c1, c2, c3, hb, b1, bO]
        refine fin _ (fun h' y1 y2 => ?_)
        simp (disch := first | decide | omega) only [rx_W, rx_wp_succ, rx_nx_stop, rx_nx_go, rx_lx_some, rx_fx_some, rx_ax_some, rx_qx_some, rx_ox_some, rx_vx_ref, rx_ix_ref, rx_ld_0, rx_ld_2, rx_ld_3, rx_cx_some, rx_nl, List.getElem?_cons_zero, List.getElem?_cons_succ, List.set_cons_zero, List.set_cons_succ, List.length_cons, List.length_nil, List.take_succ_cons, List.take_zero, List.drop_succ_cons, List.drop_zero, List.reverse_cons, List.reverse_nil, List.nil_append, List.cons_append, Option.toList_some, Option.toList_none, true_and, and_true, and_self, true_or, or_true, false_and, and_false, false_or, or_false, not_false_eq_true, Nat.reduceAdd, Nat.reduceLT, Nat.reduceLeDiff, Nat.reduceBEq, Nat.reduceEqDiff, Bool.or_false, Bool.false_or, if_true, if_false, Bool.false_eq_true, it_X7_together]
        exact ⟨rfl, y1, y2⟩
theorem wfP_tog {wp wr : Nat → Nat} {set : Nat} (hg : gd (GG wp wr set 40) = true) : wfP (GG wp wr set 40).1 (GG wp wr set 40).2.2.1 := by
  obtain ⟨i1, i2, i3, i4, i5⟩ := GG_I wp wr set 40 (by omega)
  unfold gd at hg
  rw [Bool.and_eq_true, decide_eq_true_eq] at hg
  exact ⟨i1, i2, fun j _ => i4 j, fun a c x y z => i5 _ (by omega), hg.2⟩
variable {s r : Nat}
theorem k_together_full (hc : cIv h v u np L t cs) (hv : wfV v) (hp : p < 4) (hq : q < 4) (hs : s < 16) (hr : r < 4) (hg : gd (GG (wq v p) (wq v q) s 40) = false) : rx_Cl 74 [.ref 1, .int (nI p), .int (nI q), .int (nI s), .int (nI r)] h (kP h (v, u, np, L, t, rfs 2 cs) (.int (rcode 2))) := by
  have hc' := hc
  obtain ⟨b1, ⟨⟨fP, p1, p2⟩, -⟩, b3, -, -, b6, -, b8, b9, n9, w9, b10⟩ := hc'
  have q1 := p2 p hp
  have q2 := p2 q hq
  have b9' := b9
  obtain ⟨⟨f0, ft0, g1⟩, -⟩ := b9'
  apply en_X7_together _ _ _ _ _ 60 []
  simp (disch := first | decide | omega) only [rx_W, rx_wp_succ, rx_nx_stop, rx_nx_go, rx_lx_some, rx_fx_some, rx_ax_some, rx_qx_some, rx_ox_some, rx_vx_ref, rx_ix_ref, rx_ld_0, rx_ld_2, rx_ld_3, rx_cx_some, rx_nl, List.getElem?_cons_zero, List.getElem?_cons_succ, List.set_cons_zero, List.set_cons_succ, List.length_cons, List.length_nil, List.take_succ_cons, List.take_zero, List.drop_succ_cons, List.drop_zero, List.reverse_cons, List.reverse_nil, List.nil_append, List.cons_append, Option.toList_some, Option.toList_none, true_and, and_true, and_self, true_or, or_true, false_and, and_false, false_or, or_false, not_false_eq_true, Nat.reduceAdd, Nat.reduceLT, Nat.reduceLeDiff, Nat.reduceBEq, Nat.reduceEqDiff, Bool.or_false, Bool.false_or, if_true, if_false, Bool.false_eq_true, nq_eq, nq_lt, nq_le, nq_in_t, nq_bd, nq_ft, nq_clamp, nq_shl31, nq_shr31, nq_bitb, nq_add, nq_mul, fa_and, fa_or, nq_b0, nq_b1, nq_b01, ↓ni_lt_t, ↓ni_lt_f, ↓ni_le_t, ↓ni_le_f, ↓ni_eq_t, ↓ni_eq_f, ↓ni_beq_t, ↓ni_beq_f, it_X7_together, q_X7_isProcess, q_X7_isLetterSet, inR_of hp, inR_of hq, inR_of hs, inR_of hr, b1, bO, p1, rwO, q1, q2, g1, pgO]
  refine rx_Cl_imp (c_X2_builds b9 b10 (b3 p hp) (b3 q hq) (by omega) (by omega) (wfP_256 (hv p hp)) (wfP_256 (hv q hq)) hs) (fun x h2 ⟨e, y1, y2, n, w, y3, y4⟩ => ?_)
  subst e
  rw [hg]
  have ci2 := cIv_w y1 (by simp) hc (tI_sm (Sm_fr y1 (by simp)) b6) (kI_sm (Sm_fr y1 (by simp)) b8) y2 ⟨n, w, y3⟩
  have d1 := ci2.1
  simp (disch := first | decide | omega) only [rx_W, rx_wp_succ, rx_nx_stop, rx_nx_go, rx_lx_some, rx_fx_some, rx_ax_some, rx_qx_some, rx_ox_some, rx_vx_ref, rx_ix_ref, rx_ld_0, rx_ld_2, rx_ld_3, rx_cx_some, rx_nl, List.getElem?_cons_zero, List.getElem?_cons_succ, List.set_cons_zero, List.set_cons_succ, List.length_cons, List.length_nil, List.take_succ_cons, List.take_zero, List.drop_succ_cons, List.drop_zero, List.reverse_cons, List.reverse_nil, List.nil_append, List.cons_append, Option.toList_some, Option.toList_none, true_and, and_true, and_self, true_or, or_true, false_and, and_false, false_or, or_false, not_false_eq_true, Nat.reduceAdd, Nat.reduceLT, Nat.reduceLeDiff, Nat.reduceBEq, Nat.reduceEqDiff, Bool.or_false, Bool.false_or, if_true, if_false, Bool.false_eq_true, nq_eq, nq_lt, nq_le, nq_in_t, nq_bd, nq_ft, nq_clamp, nq_shl31, nq_shr31, nq_bitb, nq_add, nq_mul, fa_and, fa_or, nq_b0, nq_b1, nq_b01, ↓ni_lt_t, ↓ni_lt_f, ↓ni_le_t, ↓ni_le_f, ↓ni_eq_t, ↓ni_eq_f, ↓ni_beq_t, ↓ni_beq_f, it_X7_together, d1, bO, Bool.toNat_false]
  refine k_ref ci2 (c := 2) (by omega) rfl (fun h' z1 z2 => ?_)
  simp (disch := first | decide | omega) only [rx_W, rx_wp_succ, rx_nx_stop, rx_nx_go, rx_lx_some, rx_fx_some, rx_ax_some, rx_qx_some, rx_ox_some, rx_vx_ref, rx_ix_ref, rx_ld_0, rx_ld_2, rx_ld_3, rx_cx_some, rx_nl, List.getElem?_cons_zero, List.getElem?_cons_succ, List.set_cons_zero, List.set_cons_succ, List.length_cons, List.length_nil, List.take_succ_cons, List.take_zero, List.drop_succ_cons, List.drop_zero, List.reverse_cons, List.reverse_nil, List.nil_append, List.cons_append, Option.toList_some, Option.toList_none, true_and, and_true, and_self, true_or, or_true, false_and, and_false, false_or, or_false, not_false_eq_true, Nat.reduceAdd, Nat.reduceLT, Nat.reduceLeDiff, Nat.reduceBEq, Nat.reduceEqDiff, Bool.or_false, Bool.false_or, if_true, if_false, Bool.false_eq_true, it_X7_together]
  exact ⟨rfl, FC_trans (FC_fr y1 (by simp)) z1, z2⟩
theorem k_together_ok (hc : cIv h v u np L t cs) (hv : wfV v) (hn : np ≤ 5) (hp : p < 4) (hq : q < 4) (hs : s < 16) (hr : r < 4) (hg : gd (GG (wq v p) (wq v q) s 40) = true) : rx_Cl 74 [.ref 1, .int (nI p), .int (nI q), .int (nI s), .int (nI r)] h (kP h (setP v r (GG (wq v p) (wq v q) s 40).1 (GG (wq v p) (wq v q) s 40).2.2.1, pU u np v, pN np, L, t, cs) (.int (nI (GG (wq v p) (wq v q) s 40).1))) := by
  have hc' := hc
  obtain ⟨b1, ⟨⟨fP, p1, p2⟩, -⟩, b3, -, -, b6, -, b8, b9, n9, w9, b10⟩ := hc'
  have q1 := p2 p hp
  have q2 := p2 q hq
  have b9' := b9
  obtain ⟨⟨f0, ft0, g1⟩, -⟩ := b9'
  apply en_X7_together _ _ _ _ _ 60 []
  simp (disch := first | decide | omega) only [rx_W, rx_wp_succ, rx_nx_stop, rx_nx_go, rx_lx_some, rx_fx_some, rx_ax_some, rx_qx_some, rx_ox_some, rx_vx_ref, rx_ix_ref, rx_ld_0, rx_ld_2, rx_ld_3, rx_cx_some, rx_nl, List.getElem?_cons_zero, List.getElem?_cons_succ, List.set_cons_zero, List.set_cons_succ, List.length_cons, List.length_nil, List.take_succ_cons, List.take_zero, List.drop_succ_cons, List.drop_zero, List.reverse_cons, List.reverse_nil, List.nil_append, List.cons_append, Option.toList_some, Option.toList_none, true_and, and_true, and_self, true_or, or_true, false_and, and_false, false_or, or_false, not_false_eq_true, Nat.reduceAdd, Nat.reduceLT, Nat.reduceLeDiff, Nat.reduceBEq, Nat.reduceEqDiff, Bool.or_false, Bool.false_or, if_true, if_false, Bool.false_eq_true, nq_eq, nq_lt, nq_le, nq_in_t, nq_bd, nq_ft, nq_clamp, nq_shl31, nq_shr31, nq_bitb, nq_add, nq_mul, fa_and, fa_or, nq_b0, nq_b1, nq_b01, ↓ni_lt_t, ↓ni_lt_f, ↓ni_le_t, ↓ni_le_f, ↓ni_eq_t, ↓ni_eq_f, ↓ni_beq_t, ↓ni_beq_f, it_X7_together, q_X7_isProcess, q_X7_isLetterSet, inR_of hp, inR_of hq, inR_of hs, inR_of hr, b1, bO, p1, rwO, q1, q2, g1, pgO]
  refine rx_Cl_imp (c_X2_builds b9 b10 (b3 p hp) (b3 q hq) (by omega) (by omega) (wfP_256 (hv p hp)) (wfP_256 (hv q hq)) hs) (fun x h2 ⟨e, y1, y2, n, w, y3, y4⟩ => ?_)
  subst e
  have y5 := y4 hg
  rw [y5.1, y5.2] at y3
  clear y5 y4
  have wfN := wfP_tog hg
  rw [hg]
  have ci2 := cIv_w y1 (by simp) hc (tI_sm (Sm_fr y1 (by simp)) b6) (kI_sm (Sm_fr y1 (by simp)) b8) y2 ⟨_, _, y3⟩
  have d1 := ci2.1
  generalize (GG (wq v p) (wq v q) s 40).1 = n5 at *
  generalize (GG (wq v p) (wq v q) s 40).2.2.1 = w5 at *
  simp (disch := first | decide | omega) only [rx_W, rx_wp_succ, rx_nx_stop, rx_nx_go, rx_lx_some, rx_fx_some, rx_ax_some, rx_qx_some, rx_ox_some, rx_vx_ref, rx_ix_ref, rx_ld_0, rx_ld_2, rx_ld_3, rx_cx_some, rx_nl, List.getElem?_cons_zero, List.getElem?_cons_succ, List.set_cons_zero, List.set_cons_succ, List.length_cons, List.length_nil, List.take_succ_cons, List.take_zero, List.drop_succ_cons, List.drop_zero, List.reverse_cons, List.reverse_nil, List.nil_append, List.cons_append, Option.toList_some, Option.toList_none, true_and, and_true, and_self, true_or, or_true, false_and, and_false, false_or, or_false, not_false_eq_true, Nat.reduceAdd, Nat.reduceLT, Nat.reduceLeDiff, Nat.reduceBEq, Nat.reduceEqDiff, Bool.or_false, Bool.false_or, if_true, if_false, Bool.false_eq_true, nq_eq, nq_lt, nq_le, nq_in_t, nq_bd, nq_ft, nq_clamp, nq_shl31, nq_shr31, nq_bitb, nq_add, nq_mul, fa_and, fa_or, nq_b0, nq_b1, nq_b01, ↓ni_lt_t, ↓ni_lt_f, ↓ni_le_t, ↓ni_le_f, ↓ni_eq_t, ↓ni_eq_f, ↓ni_beq_t, ↓ni_beq_f, it_X7_together, d1, bO, Bool.toNat_true]
  have kl := k_leave ci2 hn hr
  -- the draft stays over leavePast
  have kl2 : rx_Cl 93 [.ref 1, .int (nI r)] h2 (fun x h' => x = none ∧ FC h2 h' ∧ cIv h' v (pU u np v) (pN np) L t cs ∧ oF h' (68 + 8 * r) ∧ pW h' 64 n5 w5) := by
    have ci2' := ci2
    obtain ⟨c1, ⟨⟨fP2, i1, i2⟩, fO2, i3, i4⟩, c3, c4, c5, -⟩ := ci2'
    have c5' := c5
    obtain ⟨nx, rn, rw, fR, -, a2, -⟩ := c5'
    have kk : rx_Cl 93 [.ref 1, .int (nI r)] h2 (fun x h' => pW h' 64 n5 w5) := by
      apply en_X7_leavePast _ _ 60 []
      simp (disch := first | decide | omega) only [rx_W, rx_wp_succ, rx_nx_stop, rx_nx_go, rx_lx_some, rx_fx_some, rx_ax_some, rx_qx_some, rx_ox_some, rx_vx_ref, rx_ix_ref, rx_ld_0, rx_ld_2, rx_ld_3, rx_cx_some, rx_nl, List.getElem?_cons_zero, List.getElem?_cons_succ, List.set_cons_zero, List.set_cons_succ, List.length_cons, List.length_nil, List.take_succ_cons, List.take_zero, List.drop_succ_cons, List.drop_zero, List.reverse_cons, List.reverse_nil, List.nil_append, List.cons_append, Option.toList_some, Option.toList_none, true_and, and_true, and_self, true_or, or_true, false_and, and_false, false_or, or_false, not_false_eq_true, Nat.reduceAdd, Nat.reduceLT, Nat.reduceLeDiff, Nat.reduceBEq, Nat.reduceEqDiff, Bool.or_false, Bool.false_or, if_true, if_false, Bool.false_eq_true, nq_eq, nq_lt, nq_le, nq_in_t, nq_bd, nq_ft, nq_clamp, nq_shl31, nq_shr31, nq_bitb, nq_add, nq_mul, fa_and, fa_or, nq_b0, nq_b1, nq_b01, ↓ni_lt_t, ↓ni_lt_f, ↓ni_le_t, ↓ni_le_f, ↓ni_eq_t, ↓ni_eq_f, ↓ni_beq_t, ↓ni_beq_f, it_X7_leavePast, c1, bO, a2, psO]
      refine rx_Cl_imp (c_X3_keep c5 hn i1 i2 c3) (fun x h' ⟨e, z1, z2⟩ => ?_)
      subst e
      have s1 : Sm h2 h' 0 3 := Sm_fr z1 (fun i hi => by have := psA_rg hi; omega)
      have s2 : Sm h2 h' 46 109 := Sm_fr z1 (fun i hi => by have := psA_rg hi; omega)
      have c1' := (s1 1 (by omega) (by omega)).trans c1
      have i3' := (s1 3 (by omega) (by omega)).trans i3
      have q4 := i4 r hr
      obtain ⟨fr, sb, lo, n, O, R, N, F, A, hfr, ho, hr', hz⟩ := oS_sm s2 (by omega) (by omega) (oI_oS (c4 r hr))
      simp (disch := first | decide | omega) only [rx_W, rx_wp_succ, rx_nx_stop, rx_nx_go, rx_lx_some, rx_fx_some, rx_ax_some, rx_qx_some, rx_ox_some, rx_vx_ref, rx_ix_ref, rx_ld_0, rx_ld_2, rx_ld_3, rx_cx_some, rx_nl, List.getElem?_cons_zero, List.getElem?_cons_succ, List.set_cons_zero, List.set_cons_succ, List.length_cons, List.length_nil, List.take_succ_cons, List.take_zero, List.drop_succ_cons, List.drop_zero, List.reverse_cons, List.reverse_nil, List.nil_append, List.cons_append, Option.toList_some, Option.toList_none, true_and, and_true, and_self, true_or, or_true, false_and, and_false, false_or, or_false, not_false_eq_true, Nat.reduceAdd, Nat.reduceLT, Nat.reduceLeDiff, Nat.reduceBEq, Nat.reduceEqDiff, Bool.or_false, Bool.false_or, if_true, if_false, Bool.false_eq_true, nq_eq, nq_lt, nq_le, nq_in_t, nq_bd, nq_ft, nq_clamp, nq_shl31, nq_shr31, nq_bitb, nq_add, nq_mul, fa_and, fa_or, nq_b0, nq_b1, nq_b01, ↓ni_lt_t, ↓ni_lt_f, ↓ni_le_t, ↓ni_le_f, ↓ni_eq_t, ↓ni_eq_f, ↓ni_beq_t, ↓ni_beq_f, it_X7_leavePast, c1', bO, i3', rwO, q4, ho.1, ho.2, rx_ft]
      exact pW_fr (A := [68 + 8 * r]) (Fr_up (Fr_rfl _ _) (by simp)) (by simp; omega) (by simp; omega) (pW_sm s2 (by omega) (by omega) y3)
    obtain ⟨hl, x1, hh1, m1, m2⟩ := kl
    obtain ⟨-, x2, hh2, m3, m4⟩ := kk
    obtain ⟨e1, e2⟩ := rx_R_det m1 _ _ m3
    subst e1
    subst e2
    exact ⟨hl, _, _, m1, m2.1, m2.2.1, m2.2.2.1, m2.2.2.2, m4⟩
  refine rx_Cl_imp kl2 (fun x h3 ⟨e, z1, z2, z3, z4⟩ => ?_)
  subst e
  have z2' := z2
  obtain ⟨j1, ⟨⟨fP3, j2, j3⟩, -⟩, j4, -⟩ := z2'
  have q3 := j3 r hr
  have pp3 := j4 r hr
  simp (disch := first | decide | omega) only [rx_W, rx_wp_succ, rx_nx_stop, rx_nx_go, rx_lx_some, rx_fx_some, rx_ax_some, rx_qx_some, rx_ox_some, rx_vx_ref, rx_ix_ref, rx_ld_0, rx_ld_2, rx_ld_3, rx_cx_some, rx_nl, List.getElem?_cons_zero, List.getElem?_cons_succ, List.set_cons_zero, List.set_cons_succ, List.length_cons, List.length_nil, List.take_succ_cons, List.take_zero, List.drop_succ_cons, List.drop_zero, List.reverse_cons, List.reverse_nil, List.nil_append, List.cons_append, Option.toList_some, Option.toList_none, true_and, and_true, and_self, true_or, or_true, false_and, and_false, false_or, or_false, not_false_eq_true, Nat.reduceAdd, Nat.reduceLT, Nat.reduceLeDiff, Nat.reduceBEq, Nat.reduceEqDiff, Bool.or_false, Bool.false_or, if_true, if_false, Bool.false_eq_true, nq_eq, nq_lt, nq_le, nq_in_t, nq_bd, nq_ft, nq_clamp, nq_shl31, nq_shr31, nq_bitb, nq_add, nq_mul, fa_and, fa_or, nq_b0, nq_b1, nq_b01, ↓ni_lt_t, ↓ni_lt_f, ↓ni_le_t, ↓ni_le_f, ↓ni_eq_t, ↓ni_eq_f, ↓ni_beq_t, ↓ni_beq_f, it_X7_together, j1, bO, j2, rwO, q3, pp3.1, pp3.2.2]
  refine rx_Cl_imp (c_X4_become pp3 z4 (by omega)) (fun x h4 ⟨e, x1, x2⟩ => ?_)
  subst e
  obtain ⟨g5, g6⟩ := k_set hv wfN hr z2 z3 x1 x2
  have g6' := g6
  obtain ⟨l1, ⟨⟨fP5, l2, l3⟩, -⟩, -⟩ := g6'
  have q8 := l3 r hr
  simp (disch := first | decide | omega) only [rx_W, rx_wp_succ, rx_nx_stop, rx_nx_go, rx_lx_some, rx_fx_some, rx_ax_some, rx_qx_some, rx_ox_some, rx_vx_ref, rx_ix_ref, rx_ld_0, rx_ld_2, rx_ld_3, rx_cx_some, rx_nl, List.getElem?_cons_zero, List.getElem?_cons_succ, List.set_cons_zero, List.set_cons_succ, List.length_cons, List.length_nil, List.take_succ_cons, List.take_zero, List.drop_succ_cons, List.drop_zero, List.reverse_cons, List.reverse_nil, List.nil_append, List.cons_append, Option.toList_some, Option.toList_none, true_and, and_true, and_self, true_or, or_true, false_and, and_false, false_or, or_false, not_false_eq_true, Nat.reduceAdd, Nat.reduceLT, Nat.reduceLeDiff, Nat.reduceBEq, Nat.reduceEqDiff, Bool.or_false, Bool.false_or, if_true, if_false, Bool.false_eq_true, nq_eq, nq_lt, nq_le, nq_in_t, nq_bd, nq_ft, nq_clamp, nq_shl31, nq_shr31, nq_bitb, nq_add, nq_mul, fa_and, fa_or, nq_b0, nq_b1, nq_b01, ↓ni_lt_t, ↓ni_lt_f, ↓ni_le_t, ↓ni_le_f, ↓ni_eq_t, ↓ni_eq_f, ↓ni_beq_t, ↓ni_beq_f, it_X7_together, l1, bO, l2, rwO, q8, x2.1, x2.2.2]
  exact ⟨rfl, FC_trans (FC_fr y1 (by simp)) (FC_trans z1 g5), g6⟩
end KP
