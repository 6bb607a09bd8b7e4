def rcJ (w : Nat → Nat) (x : Nat) : Nat := un (fun k => if x.testBit (k / 5) then w k else 0) 40
theorem l_X8_reach_in {h : rx_H} {v : Nat → Nat} (hm : mN h v) {p set : Nat} (hp : p < 4) (Q : Option Value → rx_H → Prop) (hset : set < 256) (hq : rx_R 132 60 [.ref 98, .int (nI p), .int (nI set), .int (nI 1), .int (nI (set ||| rcJ (wq v p) set)), .int (nI 40)] [] h Q) : ∀ j i, i + j = 40 → rx_R 132 14 [.ref 98, .int (nI p), .int (nI set), .int (nI 1), .int (nI (set ||| un (fun k => if set.testBit (k / 5) then wq v p k else 0) i)), .int (nI i)] [] h Q
  | 0, i, e => by
    have e' : i = 40 := by omega
    subst e'
    obtain ⟨pa, le, pl, fo, z, h1⟩ := hm.1
    apply rx_wp_sound 60 [14, 60]
    simp (disch := first | decide | omega) only [rx_W, rx_wp_succ, rx_nx_stop, rx_nx_go, rx_lx_some, rx_fx_some, rx_ax_some, rx_qx_some, rx_ox_some, rx_vx_ref, rx_ix_ref, rx_ld_0, rx_ld_2, rx_ld_3, rx_cx_some, rx_nl, List.getElem?_cons_zero, List.getElem?_cons_succ, List.set_cons_zero, List.set_cons_succ, List.length_cons, List.length_nil, List.take_succ_cons, List.take_zero, List.drop_succ_cons, List.drop_zero, List.reverse_cons, List.reverse_nil, List.nil_append, List.cons_append, Option.toList_some, Option.toList_none, true_and, and_true, and_self, true_or, or_true, false_and, and_false, false_or, or_false, not_false_eq_true, Nat.reduceAdd, Nat.reduceLT, Nat.reduceLeDiff, Nat.reduceBEq, Nat.reduceEqDiff, Bool.or_false, Bool.false_or, if_true, if_false, Bool.false_eq_true, nq_eq, nq_lt, nq_le, nq_in_t, nq_bd, nq_ft, nq_clamp, nq_shl31, nq_shr31, nq_bitb, nq_add, nq_mul, fa_and, fa_or, nq_b0, nq_b1, nq_b01, ↓ni_lt_t, ↓ni_lt_f, ↓ni_le_t, ↓ni_le_f, ↓ni_eq_t, ↓ni_eq_f, ↓ni_beq_t, ↓ni_beq_f, it_X8_reachable, h1, mO]
    exact hq
  | j + 1, i, e => by
    have ih := l_X8_reach_in hm hp Q hset hq j (i + 1) (by omega)
    rw [un_succ] at ih
    have e5 : i / 5 * 5 + (i - i / 5 * 5) = i := by omega
    obtain ⟨pa, le, pl, fo, z, h1⟩ := hm.1
    apply rx_wp_sound 60 [14, 60]
    simp (disch := first | decide | omega) only [rx_W, rx_wp_succ, rx_nx_stop, rx_nx_go, rx_lx_some, rx_fx_some, rx_ax_some, rx_qx_some, rx_ox_some, rx_vx_ref, rx_ix_ref, rx_ld_0, rx_ld_2, rx_ld_3, rx_cx_some, rx_nl, List.getElem?_cons_zero, List.getElem?_cons_succ, List.set_cons_zero, List.set_cons_succ, List.length_cons, List.length_nil, List.take_succ_cons, List.take_zero, List.drop_succ_cons, List.drop_zero, List.reverse_cons, List.reverse_nil, List.nil_append, List.cons_append, Option.toList_some, Option.toList_none, true_and, and_true, and_self, true_or, or_true, false_and, and_false, false_or, or_false, not_false_eq_true, Nat.reduceAdd, Nat.reduceLT, Nat.reduceLeDiff, Nat.reduceBEq, Nat.reduceEqDiff, Bool.or_false, Bool.false_or, if_true, if_false, Bool.false_eq_true, nq_eq, nq_lt, nq_le, nq_in_t, nq_bd, nq_ft, nq_clamp, nq_shl31, nq_shr31, nq_bitb, nq_add, nq_mul, fa_and, fa_or, nq_b0, nq_b1, nq_b01, ↓ni_lt_t, ↓ni_lt_f, ↓ni_le_t, ↓ni_le_f, ↓ni_eq_t, ↓ni_eq_f, ↓ni_beq_t, ↓ni_beq_f, it_X8_reachable, q_X8_has, q_X8_leadsOf hm, h1, mO, nq_div, nq_sub, e5]
    split
    · next h1 => rw [if_neg (by rw [h1]; simp), ← Nat.or_assoc] at ih; exact ih
    · next h1 => rw [if_pos (by simpa using h1), ← Nat.or_assoc] at ih; exact ih
