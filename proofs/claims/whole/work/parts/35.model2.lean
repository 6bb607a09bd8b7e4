theorem l_X8_lost_in {h : rx_H} {v : Nat → Nat} (hm : mN h v) {p set : Nat} (hp : p < 4) (hn : v (41 * p) ≤ 8) (hw : ∀ j, j < 40 → wq v p j < 256) (hset : set < 256) (Q : Option Value → rx_H → Prop) (hq : rx_R 141 73 [.ref 98, .int (nI p), .int (nI set), .int (nI 1), .int (nI (lsJ (wq v p) (v (41 * p)) set)), .int (nI (v (41 * p)))] [] h Q) : ∀ j i, i + j = v (41 * p) → rx_R 141 22 [.ref 98, .int (nI p), .int (nI set), .int (nI 1), .int (nI (un (fun s => if set.testBit s && !decide (wq v p (s * 5 + 4) &&& set = 0) then 2 ^ s else 0) i)), .int (nI i)] [] h Q
  | 0, i, e => by
    have e' : i = v (41 * p) := by omega
    subst e'
    obtain ⟨pa, le, pl, fo, z, h1⟩ := hm.1
    apply rx_wp_sound 60 [22, 73]
    simp (disch := first | decide | omega) only [rx_W, rx_wp_succ, rx_nx_stop, rx_nx_go, rx_lx_some, rx_fx_some, rx_ax_some, rx_qx_some, rx_ox_some, rx_vx_ref, rx_ix_ref, rx_ld_0, rx_ld_2, rx_ld_3, rx_cx_some, rx_nl, List.getElem?_cons_zero, List.getElem?_cons_succ, List.set_cons_zero, List.set_cons_succ, List.length_cons, List.length_nil, List.take_succ_cons, List.take_zero, List.drop_succ_cons, List.drop_zero, List.reverse_cons, List.reverse_nil, List.nil_append, List.cons_append, Option.toList_some, Option.toList_none, true_and, and_true, and_self, true_or, or_true, false_and, and_false, false_or, or_false, not_false_eq_true, Nat.reduceAdd, Nat.reduceLT, Nat.reduceLeDiff, Nat.reduceBEq, Nat.reduceEqDiff, Bool.or_false, Bool.false_or, if_true, if_false, Bool.false_eq_true, nq_eq, nq_lt, nq_le, nq_in_t, nq_bd, nq_ft, nq_clamp, nq_shl31, nq_shr31, nq_bitb, nq_add, nq_mul, fa_and, fa_or, nq_b0, nq_b1, nq_b01, ↓ni_lt_t, ↓ni_lt_f, ↓ni_le_t, ↓ni_le_f, ↓ni_eq_t, ↓ni_eq_f, ↓ni_beq_t, ↓ni_beq_f, it_X8_losts, q_X8_many hm, h1, mO]
    exact hq
  | j + 1, i, e => by
    have hw1 := hw (i * 5 + 4) (by omega)
    have b1 : wq v p (i * 5 + 4) &&& set < 256 := Nat.and_lt_two_pow (n := 8) _ hset
    have ih := l_X8_lost_in hm hp hn hw hset Q hq j (i + 1) (by omega)
    rw [un_succ] at ih
    obtain ⟨pa, le, pl, fo, z, h1⟩ := hm.1
    apply rx_wp_sound 60 [22, 73]
    simp (disch := first | decide | omega) only [rx_W, rx_wp_succ, rx_nx_stop, rx_nx_go, rx_lx_some, rx_fx_some, rx_ax_some, rx_qx_some, rx_ox_some, rx_vx_ref, rx_ix_ref, rx_ld_0, rx_ld_2, rx_ld_3, rx_cx_some, rx_nl, List.getElem?_cons_zero, List.getElem?_cons_succ, List.set_cons_zero, List.set_cons_succ, List.length_cons, List.length_nil, List.take_succ_cons, List.take_zero, List.drop_succ_cons, List.drop_zero, List.reverse_cons, List.reverse_nil, List.nil_append, List.cons_append, Option.toList_some, Option.toList_none, true_and, and_true, and_self, true_or, or_true, false_and, and_false, false_or, or_false, not_false_eq_true, Nat.reduceAdd, Nat.reduceLT, Nat.reduceLeDiff, Nat.reduceBEq, Nat.reduceEqDiff, Bool.or_false, Bool.false_or, if_true, if_false, Bool.false_eq_true, nq_eq, nq_lt, nq_le, nq_in_t, nq_bd, nq_ft, nq_clamp, nq_shl31, nq_shr31, nq_bitb, nq_add, nq_mul, fa_and, fa_or, nq_b0, nq_b1, nq_b01, ↓ni_lt_t, ↓ni_lt_f, ↓ni_le_t, ↓ni_le_f, ↓ni_eq_t, ↓ni_eq_f, ↓ni_beq_t, ↓ni_beq_f, it_X8_losts, q_X8_many hm, q_X8_has, q_X8_leadsOf hm, h1, mO, Nat.one_mul]
    split
    · next h2 => rw [if_neg (by rw [h2]; simp)] at ih; exact ih
    · next h2 =>
      have h2 : set.testBit i = true := by simpa using h2
      split
      · next h3 => rw [if_neg (by rw [h3]; simp)] at ih; exact ih
      · next h3 => rw [if_pos (by simp [h2, h3])] at ih; exact ih
