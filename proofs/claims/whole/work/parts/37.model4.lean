theorem l_X8_ofP {h : rx_H} {v : Nat → Nat} (hm : mN h v) {p : Nat} {w2 : Int32} (hp : p < 4) (hn : v (41 * p) ≤ 8) (hw : ∀ j, j < 40 → wq v p j < 256) (Q : Option Value → rx_H → Prop) (hq : rx_R 142 50 [.ref 98, .int (nI p), .int w2, .int (nI (fb_sm (fun s => bc (wq v p (s * 5 + 4))) (v (41 * p)))), .int (nI (un (ofS (wq v p)) (v (41 * p)))), .int (nI (v (41 * p)))] [] h Q) : ∀ j i, i + j = v (41 * p) → rx_R 142 8 [.ref 98, .int (nI p), .int w2, .int (nI (fb_sm (fun s => bc (wq v p (s * 5 + 4))) i)), .int (nI (un (ofS (wq v p)) i)), .int (nI i)] [] h Q
  | 0, i, e => by
    have e' : i = v (41 * p) := by omega
    subst e'
    obtain ⟨pa, le, pl, fo, z, h1⟩ := hm.1
    apply rx_wp_sound 60 [8, 50]
    simp (disch := first | decide | omega) only [rx_W, rx_wp_succ, rx_nx_stop, rx_nx_go, rx_lx_some, rx_fx_some, rx_ax_some, rx_qx_some, rx_ox_some, rx_vx_ref, rx_ix_ref, rx_ld_0, rx_ld_2, rx_ld_3, rx_cx_some, rx_nl, List.getElem?_cons_zero, List.getElem?_cons_succ, List.set_cons_zero, List.set_cons_succ, List.length_cons, List.length_nil, List.take_succ_cons, List.take_zero, List.drop_succ_cons, List.drop_zero, List.reverse_cons, List.reverse_nil, List.nil_append, List.cons_append, Option.toList_some, Option.toList_none, true_and, and_true, and_self, true_or, or_true, false_and, and_false, false_or, or_false, not_false_eq_true, Nat.reduceAdd, Nat.reduceLT, Nat.reduceLeDiff, Nat.reduceBEq, Nat.reduceEqDiff, Bool.or_false, Bool.false_or, if_true, if_false, Bool.false_eq_true, nq_eq, nq_lt, nq_le, nq_in_t, nq_bd, nq_ft, nq_clamp, nq_shl31, nq_shr31, nq_bitb, nq_add, nq_mul, fa_and, fa_or, nq_b0, nq_b1, nq_b01, ↓ni_lt_t, ↓ni_lt_f, ↓ni_le_t, ↓ni_le_f, ↓ni_eq_t, ↓ni_eq_f, ↓ni_beq_t, ↓ni_beq_f, it_X8_ofProcess, q_X8_many hm, h1, mO]
    exact hq
  | j + 1, i, e => by
    have ih := l_X8_ofP hm hp hn hw Q hq j (i + 1) (by omega)
    have hw1 := hw (i * 5 + 4) (by omega)
    rw [un_succ] at ih
    obtain ⟨pa, le, pl, fo, z, h1⟩ := hm.1
    apply rx_wp_sound 60 [8, 50]
    simp (disch := first | decide | omega) only [rx_W, rx_wp_succ, rx_nx_stop, rx_nx_go, rx_lx_some, rx_fx_some, rx_ax_some, rx_qx_some, rx_ox_some, rx_vx_ref, rx_ix_ref, rx_ld_0, rx_ld_2, rx_ld_3, rx_cx_some, rx_nl, List.getElem?_cons_zero, List.getElem?_cons_succ, List.set_cons_zero, List.set_cons_succ, List.length_cons, List.length_nil, List.take_succ_cons, List.take_zero, List.drop_succ_cons, List.drop_zero, List.reverse_cons, List.reverse_nil, List.nil_append, List.cons_append, Option.toList_some, Option.toList_none, true_and, and_true, and_self, true_or, or_true, false_and, and_false, false_or, or_false, not_false_eq_true, Nat.reduceAdd, Nat.reduceLT, Nat.reduceLeDiff, Nat.reduceBEq, Nat.reduceEqDiff, Bool.or_false, Bool.false_or, if_true, if_false, Bool.false_eq_true, nq_eq, nq_lt, nq_le, nq_in_t, nq_bd, nq_ft, nq_clamp, nq_shl31, nq_shr31, nq_bitb, nq_add, nq_mul, fa_and, fa_or, nq_b0, nq_b1, nq_b01, ↓ni_lt_t, ↓ni_lt_f, ↓ni_le_t, ↓ni_le_f, ↓ni_eq_t, ↓ni_eq_f, ↓ni_beq_t, ↓ni_beq_f, it_X8_ofProcess, q_X8_many hm, q_X8_ones, q_X8_leadsOf hm, q_X8_offers hm hp _ hw, h1, mO]
    exact ih
