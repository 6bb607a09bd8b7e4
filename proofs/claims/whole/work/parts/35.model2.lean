theorem l_X8_lost_in {h : rx_H} {v : Nat → Nat} (hm : mN h v) {p set : Nat} (hp : p < 4) (hn : v (41 * p) ≤ 8) (hw : ∀ j, j < 40 → wq v p j < 256) (hset : set < 256) (Q : Option Value → rx_H → Prop) (hq : rx_R 141 73 [.ref 98, .int (nI p), .int (nI set), .int (nI 1), .int (nI (lsJ (wq v p) (v (41 * p)) set)), .int (nI (v (41 * p)))] [] h Q) : ∀ j i, i + j = v (41 * p) → rx_R 141 22 [.ref 98, .int (nI p), .int (nI set), .int (nI 1), .int (nI (un (fun s => if set.testBit s && !decide (wq v p (s * 5 + 4) &&& set = 0) then 2 ^ s else 0) i)), .int (nI i)] [] h Q
  | 0, i, e => by
    have e' : i = v (41 * p) := by omega
    subst e'
    obtain ⟨pa, le, pl, fo, z, h1⟩ := hm.1
    apply rx_wp_sound 60 [22, 73]
    simp (disch := first | decide | omega) only [rx_W, rx_wp_succ, rx_nx_stop, rx_nx_go, rx_lx_some, rx_fx_some, rx_ax_some, rx_qx_some, rx_ox_some, rx_vx_ref, rx_ix_ref, rx_ld_0, rx_ld_2, rx_ld_3, rx_cx_some, rx_nl, List.getElem?_cons_zero, List.getElem?_cons_succ, List.set_cons_zero, List.set_cons_succ, List.length_cons, List.length_nil, List.take_succ_cons, List.take_zero, List.drop_succ_cons, List.drop_zero, List.reverse_cons, List.reverse_nil, List.nil_append, List.cons_append, Option.toList_some, Option.toList_none, true_and, and_true, and_self, true_or, or_true, false_and, and_false, false_or, or_false, not_false_eq_true, Nat.reduceAdd, Nat.reduceLT, Nat.reduceLeDiff, Nat.reduceBEq, Nat.reduceEqDiff, Bool.or_false, Bool.false_or, if_true, if_false, Bool.false_eq_true, nq_eq, nq_lt, nq_le, nq_in_t, nq_bd, nq_ft, nq_clamp, nq_shl31, nq_shr31, nq_bitb, nq_add, nq_mul, fa_and, fa_or, nq_b0, nq_b1, nq_b01, ↓ni_lt_t, ↓ni_lt_f, ↓ni_le_t, ↓ni_le_f, ↓ni_eq_t, ↓ni_eq_f, ↓ni_beq_t, ↓ni_beq_f, it_X8_losts, q_X8_many hm, h1, mO]
    exact hq
  | j + 1, i, e => by
    have hw1 := hw (i * 5 + 4) (by omega)
    have b1 : wq v p (i * 5 + 4) &&& set < 256 := Nat.and_lt_two_pow (n := 8) _ hset
    have ih := l_X8_lost_in hm hp hn hw hset Q hq j (i + 1) (by omega)
    rw [un_succ] at ih
    obtain ⟨pa, le, pl, fo, z, h1⟩ := hm.1
    apply rx_wp_sound 60 [22, 73]
    simp (disch := first | decide | omega) only [rx_W, rx_wp_succ, rx_nx_stop, rx_nx_go, rx_lx_some, rx_fx_some, rx_ax_some, rx_qx_some, rx_ox_some, rx_vx_ref, rx_ix_ref, rx_ld_0, rx_ld_2, rx_ld_3, rx_cx_some, rx_nl, List.getElem?_cons_zero, List.getElem?_cons_succ, List.set_cons_zero, List.set_cons_succ, List.length_cons, List.length_nil, List.take_succ_cons, List.take_zero, List.drop_succ_cons, List.drop_zero, List.reverse_cons, List.reverse_nil, List.nil_append, List.cons_append, Option.toList_some, Option.toList_none, true_and, and_true, and_self, true_or, or_true, false_and, and_false, false_or, or_false, not_false_eq_true, Nat.reduceAdd, Nat.reduceLT, Nat.reduceLeDiff, Nat.reduceBEq, Nat.reduceEqDiff, Bool.or_false, Bool.false_or, if_true, if_false, Bool.false_eq_true, nq_eq, nq_lt, nq_le, nq_in_t, nq_bd, nq_ft, nq_clamp, nq_shl31, nq_shr31, nq_bitb, nq_add, nq_mul, fa_and, fa_or, nq_b0, nq_b1, nq_b01, ↓ni_lt_t, ↓ni_lt_f, ↓ni_le_t, ↓ni_le_f, ↓ni_eq_t, ↓ni_eq_f, ↓ni_beq_t, ↓ni_beq_f, it_X8_losts, q_X8_many hm, q_X8_has, q_X8_leadsOf hm, h1, mO, Nat.one_mul]
    split
    · next h2 => rw [if_neg (by rw [h2]; simp)] at ih; exact ih
    · next h2 =>
      have h2 : set.testBit i = true := by simpa using h2
      split
      · next h3 => rw [if_neg (by rw [h3]; simp)] at ih; exact ih
      · next h3 => rw [if_pos (by simp [h2, h3])] at ih; exact ih
theorem l_X8_lost_end {h : rx_H} {n p X : Nat} {w : Nat → Nat} {x y : Value} (Q : Option Value → rx_H → Prop) (hq : Q (some (.int (nI (lst n w)))) h) (h1 : isLost w n X) : rx_R 141 12 [.ref 98, .int (nI p), .int (nI X), .int (nI 0), x, y] [] h Q := by
  have e := isLost_one h1 (lst_lost n w)
  subst e
  apply rx_wp_sound 60 [12, 22]
  simp (disch := first | decide | omega) only [rx_W, rx_wp_succ, rx_nx_stop, rx_nx_go, rx_lx_some, rx_fx_some, rx_ax_some, rx_qx_some, rx_ox_some, rx_vx_ref, rx_ix_ref, rx_ld_0, rx_ld_2, rx_ld_3, rx_cx_some, rx_nl, List.getElem?_cons_zero, List.getElem?_cons_succ, List.set_cons_zero, List.set_cons_succ, List.length_cons, List.length_nil, List.take_succ_cons, List.take_zero, List.drop_succ_cons, List.drop_zero, List.reverse_cons, List.reverse_nil, List.nil_append, List.cons_append, Option.toList_some, Option.toList_none, true_and, and_true, and_self, true_or, or_true, false_and, and_false, false_or, or_false, not_false_eq_true, Nat.reduceAdd, Nat.reduceLT, Nat.reduceLeDiff, Nat.reduceBEq, Nat.reduceEqDiff, Bool.or_false, Bool.false_or, if_true, if_false, Bool.false_eq_true, nq_eq, nq_lt, nq_le, nq_in_t, nq_bd, nq_ft, nq_clamp, nq_shl31, nq_shr31, nq_bitb, nq_add, nq_mul, fa_and, fa_or, nq_b0, nq_b1, nq_b01, ↓ni_lt_t, ↓ni_lt_f, ↓ni_le_t, ↓ni_le_f, ↓ni_eq_t, ↓ni_eq_f, ↓ni_beq_t, ↓ni_beq_f, it_X8_losts]
  exact hq
theorem l_X8_lost {h : rx_H} {v : Nat → Nat} (hm : mN h v) {p : Nat} (hp : p < 4) (hn : v (41 * p) ≤ 8) (hw : ∀ j, j < 40 → wq v p j < 256) (Q : Option Value → rx_H → Prop) (hq : Q (some (.int (nI (lst (v (41 * p)) (wq v p))))) h) : ∀ k X x y, X < 2 ^ v (41 * p) → (∀ T, good (wq v p) (v (41 * p)) T → sub T X) → cnt (v (41 * p)) X < k → rx_R 141 12 [.ref 98, .int (nI p), .int (nI X), .int (nI 1), x, y] [] h Q
  | 0, X, x, y, _, _, h3 => by omega
  | k + 1, X, x, y, h1, h2, h3 => by
    have p8 : 2 ^ v (41 * p) ≤ 2 ^ 8 := Nat.pow_le_pow_right (by omega) hn
    have s1 := lsJ_sub (wq v p) (v (41 * p)) X
    have s2 := sub_lt s1 h1
    have s3 := fun T hT => lsJ_good hT (h2 T hT)
    apply rx_wp_sound 60 [12, 22]
    simp (disch := first | decide | omega) only [rx_W, rx_wp_succ, rx_nx_stop, rx_nx_go, rx_lx_some, rx_fx_some, rx_ax_some, rx_qx_some, rx_ox_some, rx_vx_ref, rx_ix_ref, rx_ld_0, rx_ld_2, rx_ld_3, rx_cx_some, rx_nl, List.getElem?_cons_zero, List.getElem?_cons_succ, List.set_cons_zero, List.set_cons_succ, List.length_cons, List.length_nil, List.take_succ_cons, List.take_zero, List.drop_succ_cons, List.drop_zero, List.reverse_cons, List.reverse_nil, List.nil_append, List.cons_append, Option.toList_some, Option.toList_none, true_and, and_true, and_self, true_or, or_true, false_and, and_false, false_or, or_false, not_false_eq_true, Nat.reduceAdd, Nat.reduceLT, Nat.reduceLeDiff, Nat.reduceBEq, Nat.reduceEqDiff, Bool.or_false, Bool.false_or, if_true, if_false, Bool.false_eq_true, nq_eq, nq_lt, nq_le, nq_in_t, nq_bd, nq_ft, nq_clamp, nq_shl31, nq_shr31, nq_bitb, nq_add, nq_mul, fa_and, fa_or, nq_b0, nq_b1, nq_b01, ↓ni_lt_t, ↓ni_lt_f, ↓ni_le_t, ↓ni_le_f, ↓ni_eq_t, ↓ni_eq_f, ↓ni_beq_t, ↓ni_beq_f, it_X8_losts]
    refine l_X8_lost_in hm hp hn hw (by omega) Q ?_ (v (41 * p)) 0 (by omega)
    apply rx_wp_sound 60 [12, 22]
    simp (disch := first | decide | omega) only [rx_W, rx_wp_succ, rx_nx_stop, rx_nx_go, rx_lx_some, rx_fx_some, rx_ax_some, rx_qx_some, rx_ox_some, rx_vx_ref, rx_ix_ref, rx_ld_0, rx_ld_2, rx_ld_3, rx_cx_some, rx_nl, List.getElem?_cons_zero, List.getElem?_cons_succ, List.set_cons_zero, List.set_cons_succ, List.length_cons, List.length_nil, List.take_succ_cons, List.take_zero, List.drop_succ_cons, List.drop_zero, List.reverse_cons, List.reverse_nil, List.nil_append, List.cons_append, Option.toList_some, Option.toList_none, true_and, and_true, and_self, true_or, or_true, false_and, and_false, false_or, or_false, not_false_eq_true, Nat.reduceAdd, Nat.reduceLT, Nat.reduceLeDiff, Nat.reduceBEq, Nat.reduceEqDiff, Bool.or_false, Bool.false_or, if_true, if_false, Bool.false_eq_true, nq_eq, nq_lt, nq_le, nq_in_t, nq_bd, nq_ft, nq_clamp, nq_shl31, nq_shr31, nq_bitb, nq_add, nq_mul, fa_and, fa_or, nq_b0, nq_b1, nq_b01, ↓ni_lt_t, ↓ni_lt_f, ↓ni_le_t, ↓ni_le_f, ↓ni_eq_t, ↓ni_eq_f, ↓ni_beq_t, ↓ni_beq_f, it_X8_losts]
    by_cases e : lsJ (wq v p) (v (41 * p)) X = X
    · simp (disch := first | decide | omega) only [rx_W, rx_wp_succ, rx_nx_stop, rx_nx_go, rx_lx_some, rx_fx_some, rx_ax_some, rx_qx_some, rx_ox_some, rx_vx_ref, rx_ix_ref, rx_ld_0, rx_ld_2, rx_ld_3, rx_cx_some, rx_nl, List.getElem?_cons_zero, List.getElem?_cons_succ, List.set_cons_zero, List.set_cons_succ, List.length_cons, List.length_nil, List.take_succ_cons, List.take_zero, List.drop_succ_cons, List.drop_zero, List.reverse_cons, List.reverse_nil, List.nil_append, List.cons_append, Option.toList_some, Option.toList_none, true_and, and_true, and_self, true_or, or_true, false_and, and_false, false_or, or_false, not_false_eq_true, Nat.reduceAdd, Nat.reduceLT, Nat.reduceLeDiff, Nat.reduceBEq, Nat.reduceEqDiff, Bool.or_false, Bool.false_or, if_true, if_false, Bool.false_eq_true, e]
      exact l_X8_lost_end Q hq ⟨lsJ_fix e, h2⟩
    · simp (disch := first | decide | omega) only [rx_W, rx_wp_succ, rx_nx_stop, rx_nx_go, rx_lx_some, rx_fx_some, rx_ax_some, rx_qx_some, rx_ox_some, rx_vx_ref, rx_ix_ref, rx_ld_0, rx_ld_2, rx_ld_3, rx_cx_some, rx_nl, List.getElem?_cons_zero, List.getElem?_cons_succ, List.set_cons_zero, List.set_cons_succ, List.length_cons, List.length_nil, List.take_succ_cons, List.take_zero, List.drop_succ_cons, List.drop_zero, List.reverse_cons, List.reverse_nil, List.nil_append, List.cons_append, Option.toList_some, Option.toList_none, true_and, and_true, and_self, true_or, or_true, false_and, and_false, false_or, or_false, not_false_eq_true, Nat.reduceAdd, Nat.reduceLT, Nat.reduceLeDiff, Nat.reduceBEq, Nat.reduceEqDiff, Bool.or_false, Bool.false_or, if_true, if_false, Bool.false_eq_true, e]
      have := cnt_strict s1 h1 (fun z => e z.symm)
      exact l_X8_lost hm hp hn hw Q hq k _ _ _ s2 s3 (by omega)
theorem q_X8_losts {h : rx_H} {v : Nat → Nat} (hm : mN h v) {p : Nat} (hp : p < 4) (hn : v (41 * p) ≤ 8) (hw : ∀ j, j < 40 → wq v p j < 256) (Q : Option Value → rx_H → Prop) : rx_Cl 141 [.ref 98, .int (nI p)] h Q = Q (some (.int (nI (lst (v (41 * p)) (wq v p))))) h := by
  have p1 := Nat.one_le_two_pow (n := v (41 * p))
  have p8 : 2 ^ v (41 * p) ≤ 2 ^ 8 := Nat.pow_le_pow_right (by omega) hn
  have b1 := cnt_le (v (41 * p)) (2 ^ v (41 * p) - 1)
  refine rx_Cl_eq ?_ Q
  obtain ⟨pa, le, pl, fo, z, h1⟩ := hm.1
  apply en_X8_losts _ _ 40 [12]
  simp (disch := first | decide | omega) only [rx_W, rx_wp_succ, rx_nx_stop, rx_nx_go, rx_lx_some, rx_fx_some, rx_ax_some, rx_qx_some, rx_ox_some, rx_vx_ref, rx_ix_ref, rx_ld_0, rx_ld_2, rx_ld_3, rx_cx_some, rx_nl, List.getElem?_cons_zero, List.getElem?_cons_succ, List.set_cons_zero, List.set_cons_succ, List.length_cons, List.length_nil, List.take_succ_cons, List.take_zero, List.drop_succ_cons, List.drop_zero, List.reverse_cons, List.reverse_nil, List.nil_append, List.cons_append, Option.toList_some, Option.toList_none, true_and, and_true, and_self, true_or, or_true, false_and, and_false, false_or, or_false, not_false_eq_true, Nat.reduceAdd, Nat.reduceLT, Nat.reduceLeDiff, Nat.reduceBEq, Nat.reduceEqDiff, Bool.or_false, Bool.false_or, if_true, if_false, Bool.false_eq_true, nq_eq, nq_lt, nq_le, nq_in_t, nq_bd, nq_ft, nq_clamp, nq_shl31, nq_shr31, nq_bitb, nq_add, nq_mul, fa_and, fa_or, nq_b0, nq_b1, nq_b01, ↓ni_lt_t, ↓ni_lt_f, ↓ni_le_t, ↓ni_le_f, ↓ni_eq_t, ↓ni_eq_f, ↓ni_beq_t, ↓ni_beq_f, it_X8_losts, q_X8_many hm, h1, mO, Nat.one_mul, nq_sub]
  exact l_X8_lost hm hp hn hw _ ⟨rfl, rfl⟩ (v (41 * p) + 1) _ _ _ (by omega) (fun T t1 => good_full t1) (by omega)
theorem l_X8_offered {h : rx_H} {v : Nat → Nat} (hm : mN h v) {p m : Nat} (hp : p < 4) (hn : v (41 * p) ≤ 8) (hw : ∀ j, j < 40 → wq v p j < 256) (hset : m < 2 ^ 31) (Q : Option Value → rx_H → Prop) (hq : Q (some (.int (nI (poN (wq v p) (v (41 * p)) m)))) h) : ∀ j i, i + j = v (41 * p) → rx_R 154 5 [.ref 98, .int (nI p), .int (nI m), .int (nI (un (fun s => if m.testBit s then ofS (wq v p) s else 0) i)), .int (nI i)] [] h Q
  | 0, i, e => by
    have e' : i = v (41 * p) := by omega
    subst e'
    obtain ⟨pa, le, pl, fo, z, h1⟩ := hm.1
    apply rx_wp_sound 40 [5]
    simp (disch := first | decide | omega) only [rx_W, rx_wp_succ, rx_nx_stop, rx_nx_go, rx_lx_some, rx_fx_some, rx_ax_some, rx_qx_some, rx_ox_some, rx_vx_ref, rx_ix_ref, rx_ld_0, rx_ld_2, rx_ld_3, rx_cx_some, rx_nl, List.getElem?_cons_zero, List.getElem?_cons_succ, List.set_cons_zero, List.set_cons_succ, List.length_cons, List.length_nil, List.take_succ_cons, List.take_zero, List.drop_succ_cons, List.drop_zero, List.reverse_cons, List.reverse_nil, List.nil_append, List.cons_append, Option.toList_some, Option.toList_none, true_and, and_true, and_self, true_or, or_true, false_and, and_false, false_or, or_false, not_false_eq_true, Nat.reduceAdd, Nat.reduceLT, Nat.reduceLeDiff, Nat.reduceBEq, Nat.reduceEqDiff, Bool.or_false, Bool.false_or, if_true, if_false, Bool.false_eq_true, nq_eq, nq_lt, nq_le, nq_in_t, nq_bd, nq_ft, nq_clamp, nq_shl31, nq_shr31, nq_bitb, nq_add, nq_mul, fa_and, fa_or, nq_b0, nq_b1, nq_b01, ↓ni_lt_t, ↓ni_lt_f, ↓ni_le_t, ↓ni_le_f, ↓ni_eq_t, ↓ni_eq_f, ↓ni_beq_t, ↓ni_beq_f, it_X8_offered, q_X8_many hm, h1, mO]
    exact hq
  | j + 1, i, e => by
    have ih := l_X8_offered hm hp hn hw hset Q hq j (i + 1) (by omega)
    rw [un_succ] at ih
    obtain ⟨pa, le, pl, fo, z, h1⟩ := hm.1
    apply rx_wp_sound 40 [5]
    simp (disch := first | decide | omega) only [rx_W, rx_wp_succ, rx_nx_stop, rx_nx_go, rx_lx_some, rx_fx_some, rx_ax_some, rx_qx_some, rx_ox_some, rx_vx_ref, rx_ix_ref, rx_ld_0, rx_ld_2, rx_ld_3, rx_cx_some, rx_nl, List.getElem?_cons_zero, List.getElem?_cons_succ, List.set_cons_zero, List.set_cons_succ, List.length_cons, List.length_nil, List.take_succ_cons, List.take_zero, List.drop_succ_cons, List.drop_zero, List.reverse_cons, List.reverse_nil, List.nil_append, List.cons_append, Option.toList_some, Option.toList_none, true_and, and_true, and_self, true_or, or_true, false_and, and_false, false_or, or_false, not_false_eq_true, Nat.reduceAdd, Nat.reduceLT, Nat.reduceLeDiff, Nat.reduceBEq, Nat.reduceEqDiff, Bool.or_false, Bool.false_or, if_true, if_false, Bool.false_eq_true, nq_eq, nq_lt, nq_le, nq_in_t, nq_bd, nq_ft, nq_clamp, nq_shl31, nq_shr31, nq_bitb, nq_add, nq_mul, fa_and, fa_or, nq_b0, nq_b1, nq_b01, ↓ni_lt_t, ↓ni_lt_f, ↓ni_le_t, ↓ni_le_f, ↓ni_eq_t, ↓ni_eq_f, ↓ni_beq_t, ↓ni_beq_f, it_X8_offered, q_X8_many hm, q_X8_has, q_X8_offers hm hp _ hw, h1, mO]
    split
    · next h1 => rw [if_neg (by rw [h1]; simp)] at ih; exact ih
    · next h1 => rw [if_pos (by simpa using h1)] at ih; exact ih
theorem q_X8_offered {h : rx_H} {v : Nat → Nat} (hm : mN h v) {p m : Nat} (hp : p < 4) (hn : v (41 * p) ≤ 8) (hw : ∀ j, j < 40 → wq v p j < 256) (hset : m < 2 ^ 31) (Q : Option Value → rx_H → Prop) : rx_Cl 154 [.ref 98, .int (nI p), .int (nI m)] h Q = Q (some (.int (nI (poN (wq v p) (v (41 * p)) m)))) h := by
  refine rx_Cl_eq ?_ Q
  apply en_X8_offered _ _ _ 40 [5]
  simp (disch := first | decide | omega) only [rx_W, rx_wp_succ, rx_nx_stop, rx_nx_go, rx_lx_some, rx_fx_some, rx_ax_some, rx_qx_some, rx_ox_some, rx_vx_ref, rx_ix_ref, rx_ld_0, rx_ld_2, rx_ld_3, rx_cx_some, rx_nl, List.getElem?_cons_zero, List.getElem?_cons_succ, List.set_cons_zero, List.set_cons_succ, List.length_cons, List.length_nil, List.take_succ_cons, List.take_zero, List.drop_succ_cons, List.drop_zero, List.reverse_cons, List.reverse_nil, List.nil_append, List.cons_append, Option.toList_some, Option.toList_none, true_and, and_true, and_self, true_or, or_true, false_and, and_false, false_or, or_false, not_false_eq_true, Nat.reduceAdd, Nat.reduceLT, Nat.reduceLeDiff, Nat.reduceBEq, Nat.reduceEqDiff, Bool.or_false, Bool.false_or, if_true, if_false, Bool.false_eq_true, nq_eq, nq_lt, nq_le, nq_in_t, nq_bd, nq_ft, nq_clamp, nq_shl31, nq_shr31, nq_bitb, nq_add, nq_mul, fa_and, fa_or, nq_b0, nq_b1, nq_b01, ↓ni_lt_t, ↓ni_lt_f, ↓ni_le_t, ↓ni_le_f, ↓ni_eq_t, ↓ni_eq_f, ↓ni_beq_t, ↓ni_beq_f, it_X8_offered]
  exact l_X8_offered hm hp hn hw hset _ ⟨rfl, rfl⟩ (v (41 * p)) 0 (by omega)
theorem l_X8_fewest {h : rx_H} {v : Nat → Nat} (hm : mN h v) {p m : Nat} (hp : p < 4) (hn : v (41 * p) ≤ 8) (hw : ∀ j, j < 40 → wq v p j < 256) (hset : m < 2 ^ v (41 * p)) (Q : Option Value → rx_H → Prop) (hq : Q (some (.int (fwI (v (41 * p)) (wq v p) m (v (41 * p))))) h) : ∀ j i x, i + j = v (41 * p) → rx_R 153 5 [.ref 98, .int (nI p), .int (nI m), .int (fwI (v (41 * p)) (wq v p) m i), .int (nI i), x] [] h Q
  | 0, i, x, e => by
    have e' : i = v (41 * p) := by omega
    subst e'
    obtain ⟨pa, le, pl, fo, z, h1⟩ := hm.1
    apply rx_wp_sound 60 [5]
    simp (disch := first | decide | omega) only [rx_W, rx_wp_succ, rx_nx_stop, rx_nx_go, rx_lx_some, rx_fx_some, rx_ax_some, rx_qx_some, rx_ox_some, rx_vx_ref, rx_ix_ref, rx_ld_0, rx_ld_2, rx_ld_3, rx_cx_some, rx_nl, List.getElem?_cons_zero, List.getElem?_cons_succ, List.set_cons_zero, List.set_cons_succ, List.length_cons, List.length_nil, List.take_succ_cons, List.take_zero, List.drop_succ_cons, List.drop_zero, List.reverse_cons, List.reverse_nil, List.nil_append, List.cons_append, Option.toList_some, Option.toList_none, true_and, and_true, and_self, true_or, or_true, false_and, and_false, false_or, or_false, not_false_eq_true, Nat.reduceAdd, Nat.reduceLT, Nat.reduceLeDiff, Nat.reduceBEq, Nat.reduceEqDiff, Bool.or_false, Bool.false_or, if_true, if_false, Bool.false_eq_true, nq_eq, nq_lt, nq_le, nq_in_t, nq_bd, nq_ft, nq_clamp, nq_shl31, nq_shr31, nq_bitb, nq_add, nq_mul, fa_and, fa_or, nq_b0, nq_b1, nq_b01, ↓ni_lt_t, ↓ni_lt_f, ↓ni_le_t, ↓ni_le_f, ↓ni_eq_t, ↓ni_eq_f, ↓ni_beq_t, ↓ni_beq_f, it_X8_fewest, q_X8_many hm, h1, mO]
    exact hq
  | j + 1, i, x, e => by
    have ih := fun x => l_X8_fewest hm hp hn hw hset Q hq j (i + 1) x (by omega)
    rw [fwI_succ] at ih
    obtain ⟨pa, le, pl, fo, z, h0⟩ := hm.1
    have p8 : 2 ^ v (41 * p) ≤ 2 ^ 8 := Nat.pow_le_pow_right (by omega) hn
    have b1 : m &&& stb (v (41 * p)) (wq v p) < 2 ^ v (41 * p) := Nat.and_lt_two_pow _ (stb_lt _ _)
    have b2 := ofS_lt (wq v p) i
    have b3 := stb_lt (v (41 * p)) (wq v p)
    apply rx_wp_sound 60 [5]
    simp (disch := first | decide | omega) only [rx_W, rx_wp_succ, rx_nx_stop, rx_nx_go, rx_lx_some, rx_fx_some, rx_ax_some, rx_qx_some, rx_ox_some, rx_vx_ref, rx_ix_ref, rx_ld_0, rx_ld_2, rx_ld_3, rx_cx_some, rx_nl, List.getElem?_cons_zero, List.getElem?_cons_succ, List.set_cons_zero, List.set_cons_succ, List.length_cons, List.length_nil, List.take_succ_cons, List.take_zero, List.drop_succ_cons, List.drop_zero, List.reverse_cons, List.reverse_nil, List.nil_append, List.cons_append, Option.toList_some, Option.toList_none, true_and, and_true, and_self, true_or, or_true, false_and, and_false, false_or, or_false, not_false_eq_true, Nat.reduceAdd, Nat.reduceLT, Nat.reduceLeDiff, Nat.reduceBEq, Nat.reduceEqDiff, Bool.or_false, Bool.false_or, if_true, if_false, Bool.false_eq_true, nq_eq, nq_lt, nq_le, nq_in_t, nq_bd, nq_ft, nq_clamp, nq_shl31, nq_shr31, nq_bitb, nq_add, nq_mul, fa_and, fa_or, nq_b0, nq_b1, nq_b01, ↓ni_lt_t, ↓ni_lt_f, ↓ni_le_t, ↓ni_le_f, ↓ni_eq_t, ↓ni_eq_f, ↓ni_beq_t, ↓ni_beq_f, it_X8_fewest, q_X8_many hm, q_X8_has, q_X8_ones, q_X8_offers hm hp _ hw, q_X8_stables hm hp hn hw, h0, mO]
    split
    · next h1 => rw [if_neg (by rw [h1]; simp)] at ih; exact ih _
    · next h1 =>
      have h1 : (m &&& stb (v (41 * p)) (wq v p)).testBit i = true := by simpa using h1
      split
      · next h2 => rw [if_pos ⟨h1, Or.inl h2⟩] at ih; exact ih _
      · next h2 =>
        split
        · next h3 => rw [if_neg (by rintro ⟨-, z | z⟩; exact h2 z; exact Int32.not_lt.mpr h3 z)] at ih; exact ih _
        · next h3 => rw [if_pos ⟨h1, Or.inr (Int32.not_le.mp h3)⟩] at ih; exact ih _
theorem q_X8_fewest {h : rx_H} {v : Nat → Nat} (hm : mN h v) {p m : Nat} (hp : p < 4) (hn : v (41 * p) ≤ 8) (hw : ∀ j, j < 40 → wq v p j < 256) (hset : m < 2 ^ v (41 * p)) (Q : Option Value → rx_H → Prop) : rx_Cl 153 [.ref 98, .int (nI p), .int (nI m)] h Q = Q (some (.int (fwI (v (41 * p)) (wq v p) m (v (41 * p))))) h := by
  refine rx_Cl_eq ?_ Q
  apply en_X8_fewest _ _ _ 40 [5]
  simp (disch := first | decide | omega) only [rx_W, rx_wp_succ, rx_nx_stop, rx_nx_go, rx_lx_some, rx_fx_some, rx_ax_some, rx_qx_some, rx_ox_some, rx_vx_ref, rx_ix_ref, rx_ld_0, rx_ld_2, rx_ld_3, rx_cx_some, rx_nl, List.getElem?_cons_zero, List.getElem?_cons_succ, List.set_cons_zero, List.set_cons_succ, List.length_cons, List.length_nil, List.take_succ_cons, List.take_zero, List.drop_succ_cons, List.drop_zero, List.reverse_cons, List.reverse_nil, List.nil_append, List.cons_append, Option.toList_some, Option.toList_none, true_and, and_true, and_self, true_or, or_true, false_and, and_false, false_or, or_false, not_false_eq_true, Nat.reduceAdd, Nat.reduceLT, Nat.reduceLeDiff, Nat.reduceBEq, Nat.reduceEqDiff, Bool.or_false, Bool.false_or, if_true, if_false, Bool.false_eq_true, nq_eq, nq_lt, nq_le, nq_in_t, nq_bd, nq_ft, nq_clamp, nq_shl31, nq_shr31, nq_bitb, nq_add, nq_mul, fa_and, fa_or, nq_b0, nq_b1, nq_b01, ↓ni_lt_t, ↓ni_lt_f, ↓ni_le_t, ↓ni_le_f, ↓ni_eq_t, ↓ni_eq_f, ↓ni_beq_t, ↓ni_beq_f, it_X8_fewest]
  exact l_X8_fewest hm hp hn hw hset _ ⟨rfl, rfl⟩ (v (41 * p)) 0 _ (by omega)
