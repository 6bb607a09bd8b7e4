/-! ===== Outlook: onwardFrom, setsHolding ===== -/
def onF (R : Nat → Nat) (n set : Nat) : Nat := un (fun s => if set.testBit s then R s else 0) n
theorem onF_bit (R : Nat → Nat) (n set t : Nat) : (onF R n set).testBit t = true ↔ ∃ s, s < n ∧ set.testBit s = true ∧ (R s).testBit t = true := by
  unfold onF
  rw [un_bit]
  constructor
  · rintro ⟨i, h1, h2⟩
    split at h2
    · next h3 => exact ⟨i, h1, h3, h2⟩
    · simp at h2
  · rintro ⟨s, h1, h2, h3⟩
    exact ⟨s, h1, by rw [if_pos h2]; exact h3⟩
theorem onF_lt {R : Nat → Nat} {n m : Nat} (hR : ∀ s, s < n → R s < 2 ^ m) (set : Nat) : onF R n set < 2 ^ m := un_lt n (fun i hi => by
  split
  · exact hR i hi
  · exact Nat.two_pow_pos m)
theorem l_X1_onwardFrom {h : rx_H} {q n fr sb lo : Nat} {R : Nat → Nat} (ho : oO h q fr sb lo n) (ha : aN h (q + 2) 8 R) (hn : n ≤ 8) {set : Nat} (hset : set < 2 ^ 31) (Q : Option Value → rx_H → Prop) (hq : Q (some (.int (nI (onF R n set)))) h) : ∀ j i, i + j = n → rx_R 23 4 [.ref q, .int (nI set), .int (nI (un (fun s => if set.testBit s then R s else 0) i)), .int (nI i)] [] h Q
  | 0, i, e => by
    have e' : i = n := by omega
    subst e'
    apply rx_wp_sound 40 [4]
    simp (disch := first | decide | omega) only [rx_W, rx_wp_succ, rx_nx_stop, rx_nx_go, rx_lx_some, rx_fx_some, rx_ax_some, rx_qx_some, rx_ox_some, rx_vx_ref, rx_ix_ref, rx_ld_0, rx_ld_2, rx_ld_3, rx_cx_some, rx_nl, List.getElem?_cons_zero, List.getElem?_cons_succ, List.set_cons_zero, List.set_cons_succ, List.length_cons, List.length_nil, List.take_succ_cons, List.take_zero, List.drop_succ_cons, List.drop_zero, List.reverse_cons, List.reverse_nil, List.nil_append, List.cons_append, Option.toList_some, Option.toList_none, true_and, and_true, and_self, true_or, or_true, false_and, and_false, false_or, or_false, not_false_eq_true, Nat.reduceAdd, Nat.reduceLT, Nat.reduceLeDiff, Nat.reduceBEq, Nat.reduceEqDiff, Bool.or_false, Bool.false_or, if_true, if_false, Bool.false_eq_true, nq_eq, nq_lt, nq_le, nq_in_t, nq_bd, nq_ft, nq_clamp, nq_shl31, nq_shr31, nq_bitb, nq_add, nq_mul, fa_and, fa_or, nq_b0, nq_b1, nq_b01, ↓ni_lt_t, ↓ni_lt_f, ↓ni_le_t, ↓ni_le_f, ↓ni_eq_t, ↓ni_eq_f, ↓ni_beq_t, ↓ni_beq_f, it_X1_onwardFrom, ho.1, ho.2]
    exact hq
  | j + 1, i, e => by
    have ih := l_X1_onwardFrom ho ha hn hset Q hq j (i + 1) (by omega)
    obtain ⟨f, a1, a2⟩ := ha
    rw [un_succ] at ih
    apply rx_wp_sound 40 [4]
    simp (disch := first | decide | omega) only [rx_W, rx_wp_succ, rx_nx_stop, rx_nx_go, rx_lx_some, rx_fx_some, rx_ax_some, rx_qx_some, rx_ox_some, rx_vx_ref, rx_ix_ref, rx_ld_0, rx_ld_2, rx_ld_3, rx_cx_some, rx_nl, List.getElem?_cons_zero, List.getElem?_cons_succ, List.set_cons_zero, List.set_cons_succ, List.length_cons, List.length_nil, List.take_succ_cons, List.take_zero, List.drop_succ_cons, List.drop_zero, List.reverse_cons, List.reverse_nil, List.nil_append, List.cons_append, Option.toList_some, Option.toList_none, true_and, and_true, and_self, true_or, or_true, false_and, and_false, false_or, or_false, not_false_eq_true, Nat.reduceAdd, Nat.reduceLT, Nat.reduceLeDiff, Nat.reduceBEq, Nat.reduceEqDiff, Bool.or_false, Bool.false_or, if_true, if_false, Bool.false_eq_true, nq_eq, nq_lt, nq_le, nq_in_t, nq_bd, nq_ft, nq_clamp, nq_shl31, nq_shr31, nq_bitb, nq_add, nq_mul, fa_and, fa_or, nq_b0, nq_b1, nq_b01, ↓ni_lt_t, ↓ni_lt_f, ↓ni_le_t, ↓ni_le_f, ↓ni_eq_t, ↓ni_eq_f, ↓ni_beq_t, ↓ni_beq_f, it_X1_onwardFrom, q_X7_has, ho.1, ho.2, a1, a2]
    split
    · next h1 => rw [if_neg (by rw [h1]; simp), Nat.or_zero] at ih; exact ih
    · next h1 => rw [if_pos (by simpa using h1)] at ih; exact ih
theorem q_X1_onwardFrom {h : rx_H} {q n fr sb lo : Nat} {R : Nat → Nat} (ho : oO h q fr sb lo n) (ha : aN h (q + 2) 8 R) (hn : n ≤ 8) {set : Nat} (hset : set < 2 ^ 31) (Q : Option Value → rx_H → Prop) : rx_Cl 23 [.ref q, .int (nI set)] h Q = Q (some (.int (nI (onF R n set)))) h := by
  refine rx_Cl_eq ?_ Q
  apply en_X1_onwardFrom _ _ 40 [4]
  simp (disch := first | decide | omega) only [rx_W, rx_wp_succ, rx_nx_stop, rx_nx_go, rx_lx_some, rx_fx_some, rx_ax_some, rx_qx_some, rx_ox_some, rx_vx_ref, rx_ix_ref, rx_ld_0, rx_ld_2, rx_ld_3, rx_cx_some, rx_nl, List.getElem?_cons_zero, List.getElem?_cons_succ, List.set_cons_zero, List.set_cons_succ, List.length_cons, List.length_nil, List.take_succ_cons, List.take_zero, List.drop_succ_cons, List.drop_zero, List.reverse_cons, List.reverse_nil, List.nil_append, List.cons_append, Option.toList_some, Option.toList_none, true_and, and_true, and_self, true_or, or_true, false_and, and_false, false_or, or_false, not_false_eq_true, Nat.reduceAdd, Nat.reduceLT, Nat.reduceLeDiff, Nat.reduceBEq, Nat.reduceEqDiff, Bool.or_false, Bool.false_or, if_true, if_false, Bool.false_eq_true, nq_eq, nq_lt, nq_le, nq_in_t, nq_bd, nq_ft, nq_clamp, nq_shl31, nq_shr31, nq_bitb, nq_add, nq_mul, fa_and, fa_or, nq_b0, nq_b1, nq_b01, ↓ni_lt_t, ↓ni_lt_f, ↓ni_le_t, ↓ni_le_f, ↓ni_eq_t, ↓ni_eq_f, ↓ni_beq_t, ↓ni_beq_f, it_X1_onwardFrom]
  exact l_X1_onwardFrom ho ha hn hset _ ⟨rfl, rfl⟩ n 0 (by omega)
def shO (l : Nat) : Nat := un (fun o => if o &&& l = l then 2 ^ o else 0) 16
theorem shO_bit (l o : Nat) : (shO l).testBit o = true ↔ o < 16 ∧ o &&& l = l := by
  unfold shO
  rw [un_bit]
  constructor
  · rintro ⟨i, h1, h2⟩
    split at h2
    · next h3 => rw [← (bit_pow i o).mp h2]; exact ⟨h1, h3⟩
    · simp at h2
  · rintro ⟨h1, h2⟩
    exact ⟨o, h1, by rw [if_pos h2]; exact (bit_pow o o).mpr rfl⟩
theorem l_X1_setsHolding {l : Nat} (hl : l < 16) (h : rx_H) (Q : Option Value → rx_H → Prop) (hq : Q (some (.int (nI (shO l)))) h) : ∀ j i, i + j = 16 → rx_R 24 4 [.int (nI l), .int (nI (un (fun o => if o &&& l = l then 2 ^ o else 0) i)), .int (nI i)] [] h Q
  | 0, i, e => by
    have e' : i = 16 := by omega
    subst e'
    apply rx_wp_sound 40 [4]
    simp (disch := first | decide | omega) only [rx_W, rx_wp_succ, rx_nx_stop, rx_nx_go, rx_lx_some, rx_fx_some, rx_ax_some, rx_qx_some, rx_ox_some, rx_vx_ref, rx_ix_ref, rx_ld_0, rx_ld_2, rx_ld_3, rx_cx_some, rx_nl, List.getElem?_cons_zero, List.getElem?_cons_succ, List.set_cons_zero, List.set_cons_succ, List.length_cons, List.length_nil, List.take_succ_cons, List.take_zero, List.drop_succ_cons, List.drop_zero, List.reverse_cons, List.reverse_nil, List.nil_append, List.cons_append, Option.toList_some, Option.toList_none, true_and, and_true, and_self, true_or, or_true, false_and, and_false, false_or, or_false, not_false_eq_true, Nat.reduceAdd, Nat.reduceLT, Nat.reduceLeDiff, Nat.reduceBEq, Nat.reduceEqDiff, Bool.or_false, Bool.false_or, if_true, if_false, Bool.false_eq_true, nq_eq, nq_lt, nq_le, nq_in_t, nq_bd, nq_ft, nq_clamp, nq_shl31, nq_shr31, nq_bitb, nq_add, nq_mul, fa_and, fa_or, nq_b0, nq_b1, nq_b01, ↓ni_lt_t, ↓ni_lt_f, ↓ni_le_t, ↓ni_le_f, ↓ni_eq_t, ↓ni_eq_f, ↓ni_beq_t, ↓ni_beq_f, it_X1_setsHolding]
    exact hq
  | j + 1, i, e => by
    have ih := l_X1_setsHolding hl h Q hq j (i + 1) (by omega)
    rw [un_succ] at ih
    have b1 : i &&& l < 16 := Nat.and_lt_two_pow (n := 4) _ hl
    apply rx_wp_sound 40 [4]
    simp (disch := first | decide | omega) only [rx_W, rx_wp_succ, rx_nx_stop, rx_nx_go, rx_lx_some, rx_fx_some, rx_ax_some, rx_qx_some, rx_ox_some, rx_vx_ref, rx_ix_ref, rx_ld_0, rx_ld_2, rx_ld_3, rx_cx_some, rx_nl, List.getElem?_cons_zero, List.getElem?_cons_succ, List.set_cons_zero, List.set_cons_succ, List.length_cons, List.length_nil, List.take_succ_cons, List.take_zero, List.drop_succ_cons, List.drop_zero, List.reverse_cons, List.reverse_nil, List.nil_append, List.cons_append, Option.toList_some, Option.toList_none, true_and, and_true, and_self, true_or, or_true, false_and, and_false, false_or, or_false, not_false_eq_true, Nat.reduceAdd, Nat.reduceLT, Nat.reduceLeDiff, Nat.reduceBEq, Nat.reduceEqDiff, Bool.or_false, Bool.false_or, if_true, if_false, Bool.false_eq_true, nq_eq, nq_lt, nq_le, nq_in_t, nq_bd, nq_ft, nq_clamp, nq_shl31, nq_shr31, nq_bitb, nq_add, nq_mul, fa_and, fa_or, nq_b0, nq_b1, nq_b01, ↓ni_lt_t, ↓ni_lt_f, ↓ni_le_t, ↓ni_le_f, ↓ni_eq_t, ↓ni_eq_f, ↓ni_beq_t, ↓ni_beq_f, it_X1_setsHolding, Nat.one_mul]
    split
    · next h1 => rw [if_pos h1] at ih; exact ih
    · next h1 => rw [if_neg h1, Nat.or_zero] at ih; exact ih
theorem q_X1_setsHolding {l : Nat} (hl : l < 16) (h : rx_H) (Q : Option Value → rx_H → Prop) : rx_Cl 24 [.int (nI l)] h Q = Q (some (.int (nI (shO l)))) h := by
  refine rx_Cl_eq ?_ Q
  apply en_X1_setsHolding _ 40 [4]
  simp (disch := first | decide | omega) only [rx_W, rx_wp_succ, rx_nx_stop, rx_nx_go, rx_lx_some, rx_fx_some, rx_ax_some, rx_qx_some, rx_ox_some, rx_vx_ref, rx_ix_ref, rx_ld_0, rx_ld_2, rx_ld_3, rx_cx_some, rx_nl, List.getElem?_cons_zero, List.getElem?_cons_succ, List.set_cons_zero, List.set_cons_succ, List.length_cons, List.length_nil, List.take_succ_cons, List.take_zero, List.drop_succ_cons, List.drop_zero, List.reverse_cons, List.reverse_nil, List.nil_append, List.cons_append, Option.toList_some, Option.toList_none, true_and, and_true, and_self, true_or, or_true, false_and, and_false, false_or, or_false, not_false_eq_true, Nat.reduceAdd, Nat.reduceLT, Nat.reduceLeDiff, Nat.reduceBEq, Nat.reduceEqDiff, Bool.or_false, Bool.false_or, if_true, if_false, Bool.false_eq_true, nq_eq, nq_lt, nq_le, nq_in_t, nq_bd, nq_ft, nq_clamp, nq_shl31, nq_shr31, nq_bitb, nq_add, nq_mul, fa_and, fa_or, nq_b0, nq_b1, nq_b01, ↓ni_lt_t, ↓ni_lt_f, ↓ni_le_t, ↓ni_le_f, ↓ni_eq_t, ↓ni_eq_f, ↓ni_beq_t, ↓ni_beq_f, it_X1_setsHolding]
  exact l_X1_setsHolding hl h _ ⟨rfl, rfl⟩ 16 0 (by omega)
