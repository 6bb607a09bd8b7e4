/-! ===== the reference: its object, small readers ===== -/
def mO (pa le pl fo : Int32) (z : Int64) : rx_C := .inr (8, [.ref 99, .ref 100, .ref 101, .int pa, .ref 102, .ref 103, .int le, .ref 104, .ref 105, .ref 106, .int pl, .ref 107, .ref 108, .ref 109, .int fo, .long z])
def mN (h : rx_H) (v : Nat → Nat) : Prop := (∃ pa le pl fo z, rx_rd h 98 = some (mO pa le pl fo z)) ∧ aN h 99 164 v
def wq (v : Nat → Nat) (p : Nat) : Nat → Nat := fun k => v (41 * p + 1 + k)
theorem q_X8_many {h : rx_H} {v : Nat → Nat} (hm : mN h v) {p : Nat} (hp : p < 4) (Q : Option Value → rx_H → Prop) : rx_Cl 110 [.ref 98, .int (nI p)] h Q = Q (some (.int (nI (v (41 * p))))) h := by
  obtain ⟨⟨pa, le, pl, fo, z, h1⟩, f, h2, h3⟩ := hm
  refine rx_Cl_eq ?_ Q
  apply en_X8_many _ _ 40 []
  simp (disch := first | decide | omega) only [rx_W, rx_wp_succ, rx_nx_stop, rx_nx_go, rx_lx_some, rx_fx_some, rx_ax_some, rx_qx_some, rx_ox_some, rx_vx_ref, rx_ix_ref, rx_ld_0, rx_ld_2, rx_ld_3, rx_cx_some, rx_nl, List.getElem?_cons_zero, List.getElem?_cons_succ, List.set_cons_zero, List.set_cons_succ, List.length_cons, List.length_nil, List.take_succ_cons, List.take_zero, List.drop_succ_cons, List.drop_zero, List.reverse_cons, List.reverse_nil, List.nil_append, List.cons_append, Option.toList_some, Option.toList_none, true_and, and_true, and_self, true_or, or_true, false_and, and_false, false_or, or_false, not_false_eq_true, Nat.reduceAdd, Nat.reduceLT, Nat.reduceLeDiff, Nat.reduceBEq, Nat.reduceEqDiff, Bool.or_false, Bool.false_or, if_true, if_false, Bool.false_eq_true, nq_eq, nq_lt, nq_le, nq_in_t, nq_bd, nq_ft, nq_clamp, nq_shl31, nq_shr31, nq_bitb, nq_add, nq_mul, fa_and, fa_or, nq_b0, nq_b1, nq_b01, ↓ni_lt_t, ↓ni_lt_f, ↓ni_le_t, ↓ni_le_f, ↓ni_eq_t, ↓ni_eq_f, ↓ni_beq_t, ↓ni_beq_f, it_X8_many, h1, h2, h3, mO]
theorem q_X8_at {p s b : Nat} (h : rx_H) (Q : Option Value → rx_H → Prop) : rx_Cl 112 [.int (nI p), .int (nI s), .int (nI b)] h Q = Q (some (.int (nI (41 * p + 1 + 5 * s + b)))) h := by
  refine rx_Cl_eq ?_ Q
  apply en_X8_at _ _ _ 40 []
  simp (disch := first | decide | omega) only [rx_W, rx_wp_succ, rx_nx_stop, rx_nx_go, rx_lx_some, rx_fx_some, rx_ax_some, rx_qx_some, rx_ox_some, rx_vx_ref, rx_ix_ref, rx_ld_0, rx_ld_2, rx_ld_3, rx_cx_some, rx_nl, List.getElem?_cons_zero, List.getElem?_cons_succ, List.set_cons_zero, List.set_cons_succ, List.length_cons, List.length_nil, List.take_succ_cons, List.take_zero, List.drop_succ_cons, List.drop_zero, List.reverse_cons, List.reverse_nil, List.nil_append, List.cons_append, Option.toList_some, Option.toList_none, true_and, and_true, and_self, true_or, or_true, false_and, and_false, false_or, or_false, not_false_eq_true, Nat.reduceAdd, Nat.reduceLT, Nat.reduceLeDiff, Nat.reduceBEq, Nat.reduceEqDiff, Bool.or_false, Bool.false_or, if_true, if_false, Bool.false_eq_true, nq_eq, nq_lt, nq_le, nq_in_t, nq_bd, nq_ft, nq_clamp, nq_shl31, nq_shr31, nq_bitb, nq_add, nq_mul, fa_and, fa_or, nq_b0, nq_b1, nq_b01, ↓ni_lt_t, ↓ni_lt_f, ↓ni_le_t, ↓ni_le_f, ↓ni_eq_t, ↓ni_eq_f, ↓ni_beq_t, ↓ni_beq_f, it_X8_at]
theorem q_X8_leadsOf {h : rx_H} {v : Nat → Nat} (hm : mN h v) {p s b : Nat} (hp : p < 4) (hs : s < 8) (hb : b < 5) (Q : Option Value → rx_H → Prop) : rx_Cl 113 [.ref 98, .int (nI p), .int (nI s), .int (nI b)] h Q = Q (some (.int (nI (wq v p (s * 5 + b))))) h := by
  obtain ⟨⟨pa, le, pl, fo, z, h1⟩, f, h2, h3⟩ := hm
  have e : wq v p (s * 5 + b) = v (41 * p + 1 + 5 * s + b) := by unfold wq; congr 1; omega
  rw [e]
  refine rx_Cl_eq ?_ Q
  apply en_X8_leadsOf _ _ _ _ 40 []
  simp (disch := first | decide | omega) only [rx_W, rx_wp_succ, rx_nx_stop, rx_nx_go, rx_lx_some, rx_fx_some, rx_ax_some, rx_qx_some, rx_ox_some, rx_vx_ref, rx_ix_ref, rx_ld_0, rx_ld_2, rx_ld_3, rx_cx_some, rx_nl, List.getElem?_cons_zero, List.getElem?_cons_succ, List.set_cons_zero, List.set_cons_succ, List.length_cons, List.length_nil, List.take_succ_cons, List.take_zero, List.drop_succ_cons, List.drop_zero, List.reverse_cons, List.reverse_nil, List.nil_append, List.cons_append, Option.toList_some, Option.toList_none, true_and, and_true, and_self, true_or, or_true, false_and, and_false, false_or, or_false, not_false_eq_true, Nat.reduceAdd, Nat.reduceLT, Nat.reduceLeDiff, Nat.reduceBEq, Nat.reduceEqDiff, Bool.or_false, Bool.false_or, if_true, if_false, Bool.false_eq_true, nq_eq, nq_lt, nq_le, nq_in_t, nq_bd, nq_ft, nq_clamp, nq_shl31, nq_shr31, nq_bitb, nq_add, nq_mul, fa_and, fa_or, nq_b0, nq_b1, nq_b01, ↓ni_lt_t, ↓ni_lt_f, ↓ni_le_t, ↓ni_le_f, ↓ni_eq_t, ↓ni_eq_f, ↓ni_beq_t, ↓ni_beq_f, it_X8_leadsOf, q_X8_at, h1, h2, h3, mO]
theorem l_X8_offers {h : rx_H} {v : Nat → Nat} (hm : mN h v) {p s : Nat} (hp : p < 4) (hs : s < 8) (hw : ∀ j, j < 40 → wq v p j < 256) (Q : Option Value → rx_H → Prop) (hq : Q (some (.int (nI (ofS (wq v p) s)))) h) : ∀ j i, i + j = 4 → rx_R 139 5 [.ref 98, .int (nI p), .int (nI s), .int (nI (un (fun a => if wq v p (s * 5 + a) = 0 then 0 else 2 ^ a) i)), .int (nI i)] [] h Q
  | 0, i, e => by
    have e' : i = 4 := by omega
    subst e'
    apply rx_wp_sound 60 [5]
    simp (disch := first | decide | omega) only [rx_W, rx_wp_succ, rx_nx_stop, rx_nx_go, rx_lx_some, rx_fx_some, rx_ax_some, rx_qx_some, rx_ox_some, rx_vx_ref, rx_ix_ref, rx_ld_0, rx_ld_2, rx_ld_3, rx_cx_some, rx_nl, List.getElem?_cons_zero, List.getElem?_cons_succ, List.set_cons_zero, List.set_cons_succ, List.length_cons, List.length_nil, List.take_succ_cons, List.take_zero, List.drop_succ_cons, List.drop_zero, List.reverse_cons, List.reverse_nil, List.nil_append, List.cons_append, Option.toList_some, Option.toList_none, true_and, and_true, and_self, true_or, or_true, false_and, and_false, false_or, or_false, not_false_eq_true, Nat.reduceAdd, Nat.reduceLT, Nat.reduceLeDiff, Nat.reduceBEq, Nat.reduceEqDiff, Bool.or_false, Bool.false_or, if_true, if_false, Bool.false_eq_true, nq_eq, nq_lt, nq_le, nq_in_t, nq_bd, nq_ft, nq_clamp, nq_shl31, nq_shr31, nq_bitb, nq_add, nq_mul, fa_and, fa_or, nq_b0, nq_b1, nq_b01, ↓ni_lt_t, ↓ni_lt_f, ↓ni_le_t, ↓ni_le_f, ↓ni_eq_t, ↓ni_eq_f, ↓ni_beq_t, ↓ni_beq_f, it_X8_offers]
    exact hq
  | j + 1, i, e => by
    have hw1 := hw (s * 5 + i) (by omega)
    have ih := l_X8_offers hm hp hs hw Q hq j (i + 1) (by omega)
    rw [un_succ] at ih
    obtain ⟨pa, le, pl, fo, z, h1⟩ := hm.1
    apply rx_wp_sound 60 [5]
    simp (disch := first | decide | omega) only [rx_W, rx_wp_succ, rx_nx_stop, rx_nx_go, rx_lx_some, rx_fx_some, rx_ax_some, rx_qx_some, rx_ox_some, rx_vx_ref, rx_ix_ref, rx_ld_0, rx_ld_2, rx_ld_3, rx_cx_some, rx_nl, List.getElem?_cons_zero, List.getElem?_cons_succ, List.set_cons_zero, List.set_cons_succ, List.length_cons, List.length_nil, List.take_succ_cons, List.take_zero, List.drop_succ_cons, List.drop_zero, List.reverse_cons, List.reverse_nil, List.nil_append, List.cons_append, Option.toList_some, Option.toList_none, true_and, and_true, and_self, true_or, or_true, false_and, and_false, false_or, or_false, not_false_eq_true, Nat.reduceAdd, Nat.reduceLT, Nat.reduceLeDiff, Nat.reduceBEq, Nat.reduceEqDiff, Bool.or_false, Bool.false_or, if_true, if_false, Bool.false_eq_true, nq_eq, nq_lt, nq_le, nq_in_t, nq_bd, nq_ft, nq_clamp, nq_shl31, nq_shr31, nq_bitb, nq_add, nq_mul, fa_and, fa_or, nq_b0, nq_b1, nq_b01, ↓ni_lt_t, ↓ni_lt_f, ↓ni_le_t, ↓ni_le_f, ↓ni_eq_t, ↓ni_eq_f, ↓ni_beq_t, ↓ni_beq_f, it_X8_offers, q_X8_leadsOf hm, h1, mO, Nat.one_mul]
    split
    · next h1 => rw [if_pos h1] at ih; exact ih
    · next h1 => rw [if_neg h1] at ih; exact ih
theorem q_X8_offers {h : rx_H} {v : Nat → Nat} (hm : mN h v) {p s : Nat} (hp : p < 4) (hs : s < 8) (hw : ∀ j, j < 40 → wq v p j < 256) (Q : Option Value → rx_H → Prop) : rx_Cl 139 [.ref 98, .int (nI p), .int (nI s)] h Q = Q (some (.int (nI (ofS (wq v p) s)))) h := by
  refine rx_Cl_eq ?_ Q
  apply en_X8_offers _ _ _ 40 [5]
  simp (disch := first | decide | omega) only [rx_W, rx_wp_succ, rx_nx_stop, rx_nx_go, rx_lx_some, rx_fx_some, rx_ax_some, rx_qx_some, rx_ox_some, rx_vx_ref, rx_ix_ref, rx_ld_0, rx_ld_2, rx_ld_3, rx_cx_some, rx_nl, List.getElem?_cons_zero, List.getElem?_cons_succ, List.set_cons_zero, List.set_cons_succ, List.length_cons, List.length_nil, List.take_succ_cons, List.take_zero, List.drop_succ_cons, List.drop_zero, List.reverse_cons, List.reverse_nil, List.nil_append, List.cons_append, Option.toList_some, Option.toList_none, true_and, and_true, and_self, true_or, or_true, false_and, and_false, false_or, or_false, not_false_eq_true, Nat.reduceAdd, Nat.reduceLT, Nat.reduceLeDiff, Nat.reduceBEq, Nat.reduceEqDiff, Bool.or_false, Bool.false_or, if_true, if_false, Bool.false_eq_true, nq_eq, nq_lt, nq_le, nq_in_t, nq_bd, nq_ft, nq_clamp, nq_shl31, nq_shr31, nq_bitb, nq_add, nq_mul, fa_and, fa_or, nq_b0, nq_b1, nq_b01, ↓ni_lt_t, ↓ni_lt_f, ↓ni_le_t, ↓ni_le_f, ↓ni_eq_t, ↓ni_eq_f, ↓ni_beq_t, ↓ni_beq_f, it_X8_offers]
  exact l_X8_offers hm hp hs hw _ ⟨rfl, rfl⟩ 4 0 (by omega)
theorem l_X8_stables {h : rx_H} {v : Nat → Nat} (hm : mN h v) {p : Nat} (hp : p < 4) (hn : v (41 * p) ≤ 8) (hw : ∀ j, j < 40 → wq v p j < 256) (Q : Option Value → rx_H → Prop) (hq : Q (some (.int (nI (stb (v (41 * p)) (wq v p))))) h) : ∀ j i, i + j = v (41 * p) → rx_R 140 4 [.ref 98, .int (nI p), .int (nI (un (fun s => if wq v p (s * 5 + 4) = 0 then 2 ^ s else 0) i)), .int (nI i)] [] h Q
  | 0, i, e => by
    have e' : i = v (41 * p) := by omega
    subst e'
    obtain ⟨pa, le, pl, fo, z, h1⟩ := hm.1
    apply rx_wp_sound 60 [4]
    simp (disch := first | decide | omega) only [rx_W, rx_wp_succ, rx_nx_stop, rx_nx_go, rx_lx_some, rx_fx_some, rx_ax_some, rx_qx_some, rx_ox_some, rx_vx_ref, rx_ix_ref, rx_ld_0, rx_ld_2, rx_ld_3, rx_cx_some, rx_nl, List.getElem?_cons_zero, List.getElem?_cons_succ, List.set_cons_zero, List.set_cons_succ, List.length_cons, List.length_nil, List.take_succ_cons, List.take_zero, List.drop_succ_cons, List.drop_zero, List.reverse_cons, List.reverse_nil, List.nil_append, List.cons_append, Option.toList_some, Option.toList_none, true_and, and_true, and_self, true_or, or_true, false_and, and_false, false_or, or_false, not_false_eq_true, Nat.reduceAdd, Nat.reduceLT, Nat.reduceLeDiff, Nat.reduceBEq, Nat.reduceEqDiff, Bool.or_false, Bool.false_or, if_true, if_false, Bool.false_eq_true, nq_eq, nq_lt, nq_le, nq_in_t, nq_bd, nq_ft, nq_clamp, nq_shl31, nq_shr31, nq_bitb, nq_add, nq_mul, fa_and, fa_or, nq_b0, nq_b1, nq_b01, ↓ni_lt_t, ↓ni_lt_f, ↓ni_le_t, ↓ni_le_f, ↓ni_eq_t, ↓ni_eq_f, ↓ni_beq_t, ↓ni_beq_f, it_X8_stables, q_X8_many hm, h1, mO]
    exact hq
  | j + 1, i, e => by
    have hw1 := hw (i * 5 + 4) (by omega)
    have ih := l_X8_stables hm hp hn hw Q hq j (i + 1) (by omega)
    rw [un_succ] at ih
    obtain ⟨pa, le, pl, fo, z, h1⟩ := hm.1
    apply rx_wp_sound 60 [4]
    simp (disch := first | decide | omega) only [rx_W, rx_wp_succ, rx_nx_stop, rx_nx_go, rx_lx_some, rx_fx_some, rx_ax_some, rx_qx_some, rx_ox_some, rx_vx_ref, rx_ix_ref, rx_ld_0, rx_ld_2, rx_ld_3, rx_cx_some, rx_nl, List.getElem?_cons_zero, List.getElem?_cons_succ, List.set_cons_zero, List.set_cons_succ, List.length_cons, List.length_nil, List.take_succ_cons, List.take_zero, List.drop_succ_cons, List.drop_zero, List.reverse_cons, List.reverse_nil, List.nil_append, List.cons_append, Option.toList_some, Option.toList_none, true_and, and_true, and_self, true_or, or_true, false_and, and_false, false_or, or_false, not_false_eq_true, Nat.reduceAdd, Nat.reduceLT, Nat.reduceLeDiff, Nat.reduceBEq, Nat.reduceEqDiff, Bool.or_false, Bool.false_or, if_true, if_false, Bool.false_eq_true, nq_eq, nq_lt, nq_le, nq_in_t, nq_bd, nq_ft, nq_clamp, nq_shl31, nq_shr31, nq_bitb, nq_add, nq_mul, fa_and, fa_or, nq_b0, nq_b1, nq_b01, ↓ni_lt_t, ↓ni_lt_f, ↓ni_le_t, ↓ni_le_f, ↓ni_eq_t, ↓ni_eq_f, ↓ni_beq_t, ↓ni_beq_f, it_X8_stables, q_X8_many hm, q_X8_leadsOf hm, h1, mO, Nat.one_mul]
    split
    · next h1 => rw [if_pos h1] at ih; exact ih
    · next h1 => rw [if_neg h1] at ih; exact ih
theorem q_X8_stables {h : rx_H} {v : Nat → Nat} (hm : mN h v) {p : Nat} (hp : p < 4) (hn : v (41 * p) ≤ 8) (hw : ∀ j, j < 40 → wq v p j < 256) (Q : Option Value → rx_H → Prop) : rx_Cl 140 [.ref 98, .int (nI p)] h Q = Q (some (.int (nI (stb (v (41 * p)) (wq v p))))) h := by
  refine rx_Cl_eq ?_ Q
  apply en_X8_stables _ _ 40 [4]
  simp (disch := first | decide | omega) only [rx_W, rx_wp_succ, rx_nx_stop, rx_nx_go, rx_lx_some, rx_fx_some, rx_ax_some, rx_qx_some, rx_ox_some, rx_vx_ref, rx_ix_ref, rx_ld_0, rx_ld_2, rx_ld_3, rx_cx_some, rx_nl, List.getElem?_cons_zero, List.getElem?_cons_succ, List.set_cons_zero, List.set_cons_succ, List.length_cons, List.length_nil, List.take_succ_cons, List.take_zero, List.drop_succ_cons, List.drop_zero, List.reverse_cons, List.reverse_nil, List.nil_append, List.cons_append, Option.toList_some, Option.toList_none, true_and, and_true, and_self, true_or, or_true, false_and, and_false, false_or, or_false, not_false_eq_true, Nat.reduceAdd, Nat.reduceLT, Nat.reduceLeDiff, Nat.reduceBEq, Nat.reduceEqDiff, Bool.or_false, Bool.false_or, if_true, if_false, Bool.false_eq_true, nq_eq, nq_lt, nq_le, nq_in_t, nq_bd, nq_ft, nq_clamp, nq_shl31, nq_shr31, nq_bitb, nq_add, nq_mul, fa_and, fa_or, nq_b0, nq_b1, nq_b01, ↓ni_lt_t, ↓ni_lt_f, ↓ni_le_t, ↓ni_le_f, ↓ni_eq_t, ↓ni_eq_f, ↓ni_beq_t, ↓ni_beq_f, it_X8_stables]
  exact l_X8_stables hm hp hn hw _ ⟨rfl, rfl⟩ (v (41 * p)) 0 (by omega)
theorem l_X8_ledTo {h : rx_H} {v : Nat → Nat} (hm : mN h v) {p b set : Nat} (hp : p < 4) (hb : b < 5) (hset : set < 256) (Q : Option Value → rx_H → Prop) (hq : Q (some (.int (nI (led (wq v p) b 8 set)))) h) : ∀ j i, i + j = 8 → rx_R 138 6 [.ref 98, .int (nI p), .int (nI set), .int (nI b), .int (nI (un (fun s => if set.testBit s then wq v p (s * 5 + b) else 0) i)), .int (nI i)] [] h Q
  | 0, i, e => by
    have e' : i = 8 := by omega
    subst e'
    apply rx_wp_sound 60 [6]
    simp (disch := first | decide | omega) only [rx_W, rx_wp_succ, rx_nx_stop, rx_nx_go, rx_lx_some, rx_fx_some, rx_ax_some, rx_qx_some, rx_ox_some, rx_vx_ref, rx_ix_ref, rx_ld_0, rx_ld_2, rx_ld_3, rx_cx_some, rx_nl, List.getElem?_cons_zero, List.getElem?_cons_succ, List.set_cons_zero, List.set_cons_succ, List.length_cons, List.length_nil, List.take_succ_cons, List.take_zero, List.drop_succ_cons, List.drop_zero, List.reverse_cons, List.reverse_nil, List.nil_append, List.cons_append, Option.toList_some, Option.toList_none, true_and, and_true, and_self, true_or, or_true, false_and, and_false, false_or, or_false, not_false_eq_true, Nat.reduceAdd, Nat.reduceLT, Nat.reduceLeDiff, Nat.reduceBEq, Nat.reduceEqDiff, Bool.or_false, Bool.false_or, if_true, if_false, Bool.false_eq_true, nq_eq, nq_lt, nq_le, nq_in_t, nq_bd, nq_ft, nq_clamp, nq_shl31, nq_shr31, nq_bitb, nq_add, nq_mul, fa_and, fa_or, nq_b0, nq_b1, nq_b01, ↓ni_lt_t, ↓ni_lt_f, ↓ni_le_t, ↓ni_le_f, ↓ni_eq_t, ↓ni_eq_f, ↓ni_beq_t, ↓ni_beq_f, it_X8_ledTo]
    exact hq
  | j + 1, i, e => by
    have ih := l_X8_ledTo hm hp hb hset Q hq j (i + 1) (by omega)
    rw [un_succ] at ih
    obtain ⟨pa, le, pl, fo, z, h1⟩ := hm.1
    apply rx_wp_sound 60 [6]
    simp (disch := first | decide | omega) only [rx_W, rx_wp_succ, rx_nx_stop, rx_nx_go, rx_lx_some, rx_fx_some, rx_ax_some, rx_qx_some, rx_ox_some, rx_vx_ref, rx_ix_ref, rx_ld_0, rx_ld_2, rx_ld_3, rx_cx_some, rx_nl, List.getElem?_cons_zero, List.getElem?_cons_succ, List.set_cons_zero, List.set_cons_succ, List.length_cons, List.length_nil, List.take_succ_cons, List.take_zero, List.drop_succ_cons, List.drop_zero, List.reverse_cons, List.reverse_nil, List.nil_append, List.cons_append, Option.toList_some, Option.toList_none, true_and, and_true, and_self, true_or, or_true, false_and, and_false, false_or, or_false, not_false_eq_true, Nat.reduceAdd, Nat.reduceLT, Nat.reduceLeDiff, Nat.reduceBEq, Nat.reduceEqDiff, Bool.or_false, Bool.false_or, if_true, if_false, Bool.false_eq_true, nq_eq, nq_lt, nq_le, nq_in_t, nq_bd, nq_ft, nq_clamp, nq_shl31, nq_shr31, nq_bitb, nq_add, nq_mul, fa_and, fa_or, nq_b0, nq_b1, nq_b01, ↓ni_lt_t, ↓ni_lt_f, ↓ni_le_t, ↓ni_le_f, ↓ni_eq_t, ↓ni_eq_f, ↓ni_beq_t, ↓ni_beq_f, it_X8_ledTo, q_X8_has, q_X8_leadsOf hm, h1, mO]
    split
    · next h1 => rw [if_neg (by rw [h1]; simp)] at ih; exact ih
    · next h1 => rw [if_pos (by simpa using h1)] at ih; exact ih
theorem q_X8_ledTo {h : rx_H} {v : Nat → Nat} (hm : mN h v) {p b set : Nat} (hp : p < 4) (hb : b < 5) (hset : set < 256) (Q : Option Value → rx_H → Prop) : rx_Cl 138 [.ref 98, .int (nI p), .int (nI set), .int (nI b)] h Q = Q (some (.int (nI (led (wq v p) b 8 set)))) h := by
  refine rx_Cl_eq ?_ Q
  apply en_X8_ledTo _ _ _ _ 40 [6]
  simp (disch := first | decide | omega) only [rx_W, rx_wp_succ, rx_nx_stop, rx_nx_go, rx_lx_some, rx_fx_some, rx_ax_some, rx_qx_some, rx_ox_some, rx_vx_ref, rx_ix_ref, rx_ld_0, rx_ld_2, rx_ld_3, rx_cx_some, rx_nl, List.getElem?_cons_zero, List.getElem?_cons_succ, List.set_cons_zero, List.set_cons_succ, List.length_cons, List.length_nil, List.take_succ_cons, List.take_zero, List.drop_succ_cons, List.drop_zero, List.reverse_cons, List.reverse_nil, List.nil_append, List.cons_append, Option.toList_some, Option.toList_none, true_and, and_true, and_self, true_or, or_true, false_and, and_false, false_or, or_false, not_false_eq_true, Nat.reduceAdd, Nat.reduceLT, Nat.reduceLeDiff, Nat.reduceBEq, Nat.reduceEqDiff, Bool.or_false, Bool.false_or, if_true, if_false, Bool.false_eq_true, nq_eq, nq_lt, nq_le, nq_in_t, nq_bd, nq_ft, nq_clamp, nq_shl31, nq_shr31, nq_bitb, nq_add, nq_mul, fa_and, fa_or, nq_b0, nq_b1, nq_b01, ↓ni_lt_t, ↓ni_lt_f, ↓ni_le_t, ↓ni_le_f, ↓ni_eq_t, ↓ni_eq_f, ↓ni_beq_t, ↓ni_beq_f, it_X8_ledTo]
  exact l_X8_ledTo hm hp hb hset _ ⟨rfl, rfl⟩ 8 0 (by omega)
theorem l_X8_movesOf {h : rx_H} {v : Nat → Nat} (hm : mN h v) {p : Nat} (hp : p < 4) (hw : ∀ j, j < 40 → wq v p j < 256) (Q : Option Value → rx_H → Prop) (hq : Q (some (.int (nI (tot (wq v p))))) h) : ∀ j i, i + j = 40 → rx_R 116 4 [.ref 98, .int (nI p), .int (nI (fb_sm (fun j => bc (wq v p j)) i)), .int (nI (i + 1))] [] h Q
  | 0, i, e => by
    have e' : i = 40 := by omega
    subst e'
    apply rx_wp_sound 60 [4]
    simp (disch := first | decide | omega) only [rx_W, rx_wp_succ, rx_nx_stop, rx_nx_go, rx_lx_some, rx_fx_some, rx_ax_some, rx_qx_some, rx_ox_some, rx_vx_ref, rx_ix_ref, rx_ld_0, rx_ld_2, rx_ld_3, rx_cx_some, rx_nl, List.getElem?_cons_zero, List.getElem?_cons_succ, List.set_cons_zero, List.set_cons_succ, List.length_cons, List.length_nil, List.take_succ_cons, List.take_zero, List.drop_succ_cons, List.drop_zero, List.reverse_cons, List.reverse_nil, List.nil_append, List.cons_append, Option.toList_some, Option.toList_none, true_and, and_true, and_self, true_or, or_true, false_and, and_false, false_or, or_false, not_false_eq_true, Nat.reduceAdd, Nat.reduceLT, Nat.reduceLeDiff, Nat.reduceBEq, Nat.reduceEqDiff, Bool.or_false, Bool.false_or, if_true, if_false, Bool.false_eq_true, nq_eq, nq_lt, nq_le, nq_in_t, nq_bd, nq_ft, nq_clamp, nq_shl31, nq_shr31, nq_bitb, nq_add, nq_mul, fa_and, fa_or, nq_b0, nq_b1, nq_b01, ↓ni_lt_t, ↓ni_lt_f, ↓ni_le_t, ↓ni_le_f, ↓ni_eq_t, ↓ni_eq_f, ↓ni_beq_t, ↓ni_beq_f, it_X8_movesOf]
    exact hq
  | j + 1, i, e => by
    have hw1 := hw i (by omega)
    have ih := l_X8_movesOf hm hp hw Q hq j (i + 1) (by omega)
    obtain ⟨⟨pa, le, pl, fo, z, h1⟩, f, h2, h3⟩ := hm
    have h4 := h3 (41 * p + (i + 1)) (by omega)
    have e2 : v (41 * p + (i + 1)) = wq v p i := by unfold wq; congr 1; omega
    rw [e2] at h4
    apply rx_wp_sound 60 [4]
    simp (disch := first | decide | omega) only [rx_W, rx_wp_succ, rx_nx_stop, rx_nx_go, rx_lx_some, rx_fx_some, rx_ax_some, rx_qx_some, rx_ox_some, rx_vx_ref, rx_ix_ref, rx_ld_0, rx_ld_2, rx_ld_3, rx_cx_some, rx_nl, List.getElem?_cons_zero, List.getElem?_cons_succ, List.set_cons_zero, List.set_cons_succ, List.length_cons, List.length_nil, List.take_succ_cons, List.take_zero, List.drop_succ_cons, List.drop_zero, List.reverse_cons, List.reverse_nil, List.nil_append, List.cons_append, Option.toList_some, Option.toList_none, true_and, and_true, and_self, true_or, or_true, false_and, and_false, false_or, or_false, not_false_eq_true, Nat.reduceAdd, Nat.reduceLT, Nat.reduceLeDiff, Nat.reduceBEq, Nat.reduceEqDiff, Bool.or_false, Bool.false_or, if_true, if_false, Bool.false_eq_true, nq_eq, nq_lt, nq_le, nq_in_t, nq_bd, nq_ft, nq_clamp, nq_shl31, nq_shr31, nq_bitb, nq_add, nq_mul, fa_and, fa_or, nq_b0, nq_b1, nq_b01, ↓ni_lt_t, ↓ni_lt_f, ↓ni_le_t, ↓ni_le_f, ↓ni_eq_t, ↓ni_eq_f, ↓ni_beq_t, ↓ni_beq_f, it_X8_movesOf, q_X8_ones, h1, h2, h4, mO]
    exact ih
theorem q_X8_movesOf {h : rx_H} {v : Nat → Nat} (hm : mN h v) {p : Nat} (hp : p < 4) (hw : ∀ j, j < 40 → wq v p j < 256) (Q : Option Value → rx_H → Prop) : rx_Cl 116 [.ref 98, .int (nI p)] h Q = Q (some (.int (nI (tot (wq v p))))) h := by
  refine rx_Cl_eq ?_ Q
  apply en_X8_movesOf _ _ 40 [4]
  simp (disch := first | decide | omega) only [rx_W, rx_wp_succ, rx_nx_stop, rx_nx_go, rx_lx_some, rx_fx_some, rx_ax_some, rx_qx_some, rx_ox_some, rx_vx_ref, rx_ix_ref, rx_ld_0, rx_ld_2, rx_ld_3, rx_cx_some, rx_nl, List.getElem?_cons_zero, List.getElem?_cons_succ, List.set_cons_zero, List.set_cons_succ, List.length_cons, List.length_nil, List.take_succ_cons, List.take_zero, List.drop_succ_cons, List.drop_zero, List.reverse_cons, List.reverse_nil, List.nil_append, List.cons_append, Option.toList_some, Option.toList_none, true_and, and_true, and_self, true_or, or_true, false_and, and_false, false_or, or_false, not_false_eq_true, Nat.reduceAdd, Nat.reduceLT, Nat.reduceLeDiff, Nat.reduceBEq, Nat.reduceEqDiff, Bool.or_false, Bool.false_or, if_true, if_false, Bool.false_eq_true, nq_eq, nq_lt, nq_le, nq_in_t, nq_bd, nq_ft, nq_clamp, nq_shl31, nq_shr31, nq_bitb, nq_add, nq_mul, fa_and, fa_or, nq_b0, nq_b1, nq_b01, ↓ni_lt_t, ↓ni_lt_f, ↓ni_le_t, ↓ni_le_f, ↓ni_eq_t, ↓ni_eq_f, ↓ni_beq_t, ↓ni_beq_f, it_X8_movesOf]
  exact l_X8_movesOf hm hp hw _ ⟨rfl, rfl⟩ 40 0 (by omega)
/-! ===== rows beyond the states are empty ===== -/
def zr (n : Nat) (w : Nat → Nat) : Prop := ∀ s b, n ≤ s → s < 8 → b < 5 → w (s * 5 + b) = 0
theorem led_8 {n b : Nat} {w : Nat → Nat} (hn : n ≤ 8) (hb : b < 5) (hz : zr n w) (set : Nat) : led w b 8 set = led w b n set := by
  apply bit_ext
  intro t
  rw [led_bit, led_bit]
  constructor
  · rintro ⟨s, s1, s2, s3⟩
    by_cases h : s < n
    · exact ⟨s, h, s2, s3⟩
    · rw [hz s b (by omega) s1 hb] at s3
      simp at s3
  · rintro ⟨s, s1, s2, s3⟩
    exact ⟨s, by omega, s2, s3⟩
theorem l_X8_onS {h : rx_H} {v : Nat → Nat} (hm : mN h v) {p n from0 : Nat} (hp : p < 4) (hn : n ≤ 8) (hz : zr n (wq v p)) (hw : ∀ j, j < 40 → wq v p j < 2 ^ n) (Q : Option Value → rx_H → Prop) (hq : ∀ S, isClo (led (wq v p) 4 n) from0 S → S < 2 ^ n → Q (some (.int (nI S))) h) : ∀ j set x, n ≤ cnt n set + j → sub from0 set → (∀ T, sub from0 T → sub (led (wq v p) 4 n T) T → sub set T) → set < 2 ^ n → rx_R 137 5 [.ref 98, .int (nI p), .int (nI from0), .int (nI set), .int (nI 1), x] [] h Q := by
  intro j
  induction j with
  | zero =>
    intro set x hj h1 h2 h3
    have p8 : 2 ^ n ≤ 2 ^ 8 := Nat.pow_le_pow_right (by omega) hn
    have l1 := led_lt 4 (by omega) hn hw set
    have full := (itn_clo (led_mono (wq v p) 4 n) (led_lt 4 (by omega) hn hw) 0 set h3 hj).1
    have e1 : set ||| led (wq v p) 4 n set = set := sub_eq_or full.2.1
    obtain ⟨pa, le, pl, fo, z, h1'⟩ := hm.1
    apply rx_wp_sound 60 []
    simp (disch := first | decide | omega) only [rx_W, rx_wp_succ, rx_nx_stop, rx_nx_go, rx_lx_some, rx_fx_some, rx_ax_some, rx_qx_some, rx_ox_some, rx_vx_ref, rx_ix_ref, rx_ld_0, rx_ld_2, rx_ld_3, rx_cx_some, rx_nl, List.getElem?_cons_zero, List.getElem?_cons_succ, List.set_cons_zero, List.set_cons_succ, List.length_cons, List.length_nil, List.take_succ_cons, List.take_zero, List.drop_succ_cons, List.drop_zero, List.reverse_cons, List.reverse_nil, List.nil_append, List.cons_append, Option.toList_some, Option.toList_none, true_and, and_true, and_self, true_or, or_true, false_and, and_false, false_or, or_false, not_false_eq_true, Nat.reduceAdd, Nat.reduceLT, Nat.reduceLeDiff, Nat.reduceBEq, Nat.reduceEqDiff, Bool.or_false, Bool.false_or, if_true, if_false, Bool.false_eq_true, nq_eq, nq_lt, nq_le, nq_in_t, nq_bd, nq_ft, nq_clamp, nq_shl31, nq_shr31, nq_bitb, nq_add, nq_mul, fa_and, fa_or, nq_b0, nq_b1, nq_b01, ↓ni_lt_t, ↓ni_lt_f, ↓ni_le_t, ↓ni_le_f, ↓ni_eq_t, ↓ni_eq_f, ↓ni_beq_t, ↓ni_beq_f, it_X8_onSilently, q_X8_ledTo hm, led_8 hn (by omega : 4 < 5) hz, h1', mO, e1]
    exact hq set ⟨h1, full.2.1, h2⟩ h3
  | succ j ih =>
    intro set x hj h1 h2 h3
    have p8 : 2 ^ n ≤ 2 ^ 8 := Nat.pow_le_pow_right (by omega) hn
    have l1 := led_lt 4 (by omega) hn hw set
    have l2 : set ||| led (wq v p) 4 n set < 2 ^ n := Nat.or_lt_two_pow h3 l1
    obtain ⟨pa, le, pl, fo, z, h1'⟩ := hm.1
    by_cases e : set ||| led (wq v p) 4 n set = set
    · apply rx_wp_sound 60 []
      simp (disch := first | decide | omega) only [rx_W, rx_wp_succ, rx_nx_stop, rx_nx_go, rx_lx_some, rx_fx_some, rx_ax_some, rx_qx_some, rx_ox_some, rx_vx_ref, rx_ix_ref, rx_ld_0, rx_ld_2, rx_ld_3, rx_cx_some, rx_nl, List.getElem?_cons_zero, List.getElem?_cons_succ, List.set_cons_zero, List.set_cons_succ, List.length_cons, List.length_nil, List.take_succ_cons, List.take_zero, List.drop_succ_cons, List.drop_zero, List.reverse_cons, List.reverse_nil, List.nil_append, List.cons_append, Option.toList_some, Option.toList_none, true_and, and_true, and_self, true_or, or_true, false_and, and_false, false_or, or_false, not_false_eq_true, Nat.reduceAdd, Nat.reduceLT, Nat.reduceLeDiff, Nat.reduceBEq, Nat.reduceEqDiff, Bool.or_false, Bool.false_or, if_true, if_false, Bool.false_eq_true, nq_eq, nq_lt, nq_le, nq_in_t, nq_bd, nq_ft, nq_clamp, nq_shl31, nq_shr31, nq_bitb, nq_add, nq_mul, fa_and, fa_or, nq_b0, nq_b1, nq_b01, ↓ni_lt_t, ↓ni_lt_f, ↓ni_le_t, ↓ni_le_f, ↓ni_eq_t, ↓ni_eq_f, ↓ni_beq_t, ↓ni_beq_f, it_X8_onSilently, q_X8_ledTo hm, led_8 hn (by omega : 4 < 5) hz, h1', mO, e]
      exact hq set ⟨h1, or_eq_sub e, h2⟩ h3
    · apply rx_wp_sound 60 [5]
      simp (disch := first | decide | omega) only [rx_W, rx_wp_succ, rx_nx_stop, rx_nx_go, rx_lx_some, rx_fx_some, rx_ax_some, rx_qx_some, rx_ox_some, rx_vx_ref, rx_ix_ref, rx_ld_0, rx_ld_2, rx_ld_3, rx_cx_some, rx_nl, List.getElem?_cons_zero, List.getElem?_cons_succ, List.set_cons_zero, List.set_cons_succ, List.length_cons, List.length_nil, List.take_succ_cons, List.take_zero, List.drop_succ_cons, List.drop_zero, List.reverse_cons, List.reverse_nil, List.nil_append, List.cons_append, Option.toList_some, Option.toList_none, true_and, and_true, and_self, true_or, or_true, false_and, and_false, false_or, or_false, not_false_eq_true, Nat.reduceAdd, Nat.reduceLT, Nat.reduceLeDiff, Nat.reduceBEq, Nat.reduceEqDiff, Bool.or_false, Bool.false_or, if_true, if_false, Bool.false_eq_true, nq_eq, nq_lt, nq_le, nq_in_t, nq_bd, nq_ft, nq_clamp, nq_shl31, nq_shr31, nq_bitb, nq_add, nq_mul, fa_and, fa_or, nq_b0, nq_b1, nq_b01, ↓ni_lt_t, ↓ni_lt_f, ↓ni_le_t, ↓ni_le_f, ↓ni_eq_t, ↓ni_eq_f, ↓ni_beq_t, ↓ni_beq_f, it_X8_onSilently, q_X8_ledTo hm, led_8 hn (by omega : 4 < 5) hz, h1', mO, e]
      have hc := cnt_strict (sub_or_l set (led (wq v p) 4 n set)) l2 e
      exact ih _ _ (by omega) (sub_trans h1 (sub_or_l _ _)) (fun T t1 t2 => sub_or (h2 T t1 t2) (sub_trans (led_mono _ 4 n _ _ (h2 T t1 t2)) t2)) l2
theorem q_X8_onSilently {h : rx_H} {v : Nat → Nat} (hm : mN h v) {p n from0 : Nat} (hp : p < 4) (hn : n ≤ 8) (hz : zr n (wq v p)) (hw : ∀ j, j < 40 → wq v p j < 2 ^ n) (hf : from0 < 2 ^ n) (Q : Option Value → rx_H → Prop) : rx_Cl 137 [.ref 98, .int (nI p), .int (nI from0)] h Q = Q (some (.int (nI (sil n (wq v p) from0)))) h := by
  refine rx_Cl_eq ?_ Q
  apply en_X8_onSilently _ _ _ 40 [5]
  simp (disch := first | decide | omega) only [rx_W, rx_wp_succ, rx_nx_stop, rx_nx_go, rx_lx_some, rx_fx_some, rx_ax_some, rx_qx_some, rx_ox_some, rx_vx_ref, rx_ix_ref, rx_ld_0, rx_ld_2, rx_ld_3, rx_cx_some, rx_nl, List.getElem?_cons_zero, List.getElem?_cons_succ, List.set_cons_zero, List.set_cons_succ, List.length_cons, List.length_nil, List.take_succ_cons, List.take_zero, List.drop_succ_cons, List.drop_zero, List.reverse_cons, List.reverse_nil, List.nil_append, List.cons_append, Option.toList_some, Option.toList_none, true_and, and_true, and_self, true_or, or_true, false_and, and_false, false_or, or_false, not_false_eq_true, Nat.reduceAdd, Nat.reduceLT, Nat.reduceLeDiff, Nat.reduceBEq, Nat.reduceEqDiff, Bool.or_false, Bool.false_or, if_true, if_false, Bool.false_eq_true, nq_eq, nq_lt, nq_le, nq_in_t, nq_bd, nq_ft, nq_clamp, nq_shl31, nq_shr31, nq_bitb, nq_add, nq_mul, fa_and, fa_or, nq_b0, nq_b1, nq_b01, ↓ni_lt_t, ↓ni_lt_f, ↓ni_le_t, ↓ni_le_f, ↓ni_eq_t, ↓ni_eq_f, ↓ni_beq_t, ↓ni_beq_f, it_X8_onSilently]
  refine l_X8_onS hm hp hn hz hw _ (fun S s1 s2 => ⟨?_, rfl⟩) n from0 _ (by omega) (sub_rfl _) (fun T t1 _ => t1) hf
  rw [isClo_one s1 (sil_clo hn hw hf).1]
