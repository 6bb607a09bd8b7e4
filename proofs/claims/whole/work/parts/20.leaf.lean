/-! ===== rows for rewriting small numbers ===== -/
theorem nq_lits : (0 : Int32) = nI 0 ∧ (1 : Int32) = nI 1 ∧ (2 : Int32) = nI 2 ∧ (3 : Int32) = nI 3 ∧ (4 : Int32) = nI 4 ∧ (5 : Int32) = nI 5 ∧ (6 : Int32) = nI 6 ∧ (7 : Int32) = nI 7 ∧ (8 : Int32) = nI 8 ∧ (10 : Int32) = nI 10 ∧ (15 : Int32) = nI 15 ∧ (16 : Int32) = nI 16 ∧ (20 : Int32) = nI 20 ∧ (24 : Int32) = nI 24 ∧ (32 : Int32) = nI 32 ∧ (40 : Int32) = nI 40 ∧ (41 : Int32) = nI 41 ∧ (48 : Int32) = nI 48 ∧ (59 : Int32) = nI 59 ∧ (64 : Int32) = nI 64 ∧ (97 : Int32) = nI 97 ∧ (100 : Int32) = nI 100 ∧ (105 : Int32) = nI 105 ∧ (127 : Int32) = nI 127 ∧ (164 : Int32) = nI 164 ∧ (255 : Int32) = nI 255 ∧ (256 : Int32) = nI 256 ∧ (656 : Int32) = nI 656 ∧ (820 : Int32) = nI 820 ∧ (2048 : Int32) = nI 2048 ∧ (65536 : Int32) = nI 65536 :=
  ⟨rfl, rfl, rfl, rfl, rfl, rfl, rfl, rfl, rfl, rfl, rfl, rfl, rfl, rfl, rfl, rfl, rfl, rfl, rfl, rfl, rfl, rfl, rfl, rfl, rfl, rfl, rfl, rfl, rfl, rfl, rfl⟩
theorem nq_in_t {a n : Nat} (h : a < n) (ha : a < 2 ^ 31) : (¬ (nI a < nI 0 ∨ n ≤ (nI a).toNatClampNeg)) = True := eq_true ((nq_in ha).mpr h)
theorem nq_in_t0 {a n : Nat} (h : a < n) (ha : a < 2 ^ 31) : (¬ (nI a < 0 ∨ n ≤ (nI a).toNatClampNeg)) = True := eq_true ((nq_in ha).mpr h)
theorem nq_b0 (b : Bool) : (nI b.toNat = nI 0) = (b = false) := by
  cases b <;> simp [nq_eq]
theorem nq_b1 (b : Bool) : (nI b.toNat = nI 1) = (b = true) := by
  cases b <;> simp [nq_eq]
theorem nq_b01 (b : Bool) : (nI b.toNat = nI 0 ∨ nI b.toNat = nI 1) = True := by
  cases b <;> simp [nq_eq]
theorem nq_01 (a : Nat) (h : a ≤ 1) : (nI a = nI 0 ∨ nI a = nI 1) = True := by
  rcases a with _ | _ | a
  · simp
  · simp
  · omega
theorem nq_bitb {a k : Nat} (ha : a < 2 ^ 31) (hk : k < 32) : nI a >>> (nI k &&& nI 31) &&& nI 1 = nI (a.testBit k).toNat := by
  have := nq_bit ha hk
  rw [show nI 31 = 31 from rfl, show nI 1 = 1 from rfl, this]
  cases a.testBit k <;> rfl
theorem nq_fal : (decide False) = false := rfl
/-- how many below n -/
def ctb (p : Nat → Bool) : Nat → Nat
  | 0 => 0
  | n + 1 => ctb p n + (p n).toNat
theorem ctb_le (p : Nat → Bool) : ∀ n, ctb p n ≤ n
  | 0 => Nat.le_refl _
  | n + 1 => by
    have := ctb_le p n
    have h2 : (p n).toNat ≤ 1 := Bool.toNat_le _
    show ctb p n + (p n).toNat ≤ n + 1
    omega
/-! ===== the leaves of both ===== -/
theorem q_X7_has {a k : Nat} (ha : a < 2 ^ 31) (hk : k < 32) (h : rx_H) (Q : Option Value → rx_H → Prop) : rx_Cl 103 [.int (nI a), .int (nI k)] h Q = Q (some (.int (nI (a.testBit k).toNat))) h := by
  refine rx_Cl_eq ?_ Q
  apply en_X7_has _ _ 40 []
  simp (disch := omega) only [rx_W, rx_wp_succ, rx_nx_nil, rx_nx_cons, rx_cut_cons, rx_cut_nil, rx_lx_some, rx_fx_some, rx_ax_some, rx_qx_some, rx_ox_some, rx_vx_ref, rx_ix_ref, rx_ld_0, rx_ld_2, rx_ld_3, rx_cx_some, rx_nl, List.getElem?_cons_zero, List.getElem?_cons_succ, List.set_cons_zero, List.set_cons_succ, List.length_cons, List.length_nil, List.take_succ_cons, List.take_zero, List.drop_succ_cons, List.drop_zero, List.reverse_cons, List.reverse_nil, List.nil_append, List.cons_append, Option.toList_some, Option.toList_none, true_and, and_true, and_self, not_false_eq_true, Nat.reduceAdd, Nat.reduceLT, Nat.reduceLeDiff, Nat.reduceBEq, Nat.reduceEqDiff, Bool.or_false, Bool.false_or, if_true, if_false, Bool.false_eq_true, it_X7_has, nq_bit, nq_lits]
  cases a.testBit k <;> simp [nq_eq]
theorem q_X8_has {a k : Nat} (ha : a < 2 ^ 31) (hk : k < 32) (h : rx_H) (Q : Option Value → rx_H → Prop) : rx_Cl 106 [.int (nI a), .int (nI k)] h Q = Q (some (.int (nI (a.testBit k).toNat))) h := by
  refine rx_Cl_eq ?_ Q
  apply en_X8_has _ _ 40 []
  simp (disch := omega) only [rx_W, rx_wp_succ, rx_nx_nil, rx_nx_cons, rx_cut_cons, rx_cut_nil, rx_lx_some, rx_fx_some, rx_ax_some, rx_qx_some, rx_ox_some, rx_vx_ref, rx_ix_ref, rx_ld_0, rx_ld_2, rx_ld_3, rx_cx_some, rx_nl, List.getElem?_cons_zero, List.getElem?_cons_succ, List.set_cons_zero, List.set_cons_succ, List.length_cons, List.length_nil, List.take_succ_cons, List.take_zero, List.drop_succ_cons, List.drop_zero, List.reverse_cons, List.reverse_nil, List.nil_append, List.cons_append, Option.toList_some, Option.toList_none, true_and, and_true, and_self, not_false_eq_true, Nat.reduceAdd, Nat.reduceLT, Nat.reduceLeDiff, Nat.reduceBEq, Nat.reduceEqDiff, Bool.or_false, Bool.false_or, if_true, if_false, Bool.false_eq_true, it_X8_has, nq_bit, nq_lits]
  cases a.testBit k <;> simp [nq_eq]
theorem q_X7_isProcess (p : Int32) (h : rx_H) (Q : Option Value → rx_H → Prop) : rx_Cl 99 [.int p] h Q = Q (some (.int (nI (decide (0 ≤ p ∧ p < 4)).toNat))) h := by
  refine rx_Cl_eq ?_ Q
  apply en_X7_isProcess _ 40 []
  simp only [rx_W, rx_wp_succ, rx_nx_nil, rx_nx_cons, rx_cut_cons, rx_cut_nil, rx_lx_some, rx_fx_some, rx_ax_some, rx_qx_some, rx_ox_some, rx_vx_ref, rx_ix_ref, rx_ld_0, rx_ld_2, rx_ld_3, rx_cx_some, rx_nl, List.getElem?_cons_zero, List.getElem?_cons_succ, List.set_cons_zero, List.set_cons_succ, List.length_cons, List.length_nil, List.take_succ_cons, List.take_zero, List.drop_succ_cons, List.drop_zero, List.reverse_cons, List.reverse_nil, List.nil_append, List.cons_append, Option.toList_some, Option.toList_none, true_and, and_true, and_self, not_false_eq_true, Nat.reduceAdd, Nat.reduceLT, Nat.reduceLeDiff, Nat.reduceBEq, Nat.reduceEqDiff, Bool.or_false, Bool.false_or, if_true, if_false, Bool.false_eq_true, it_X7_isProcess]
  trace_state
  sorry
theorem l_X8_ones {a : Nat} (ha : a < 2 ^ 31) (h : rx_H) (Q : Option Value → rx_H → Prop) (hq : Q (some (.int (nI (ctb a.testBit 8)))) h) : ∀ j i, i + j = 8 → rx_R 107 4 [.int (nI a), .int (nI (ctb a.testBit i)), .int (nI i)] [] h Q
  | 0, i, e => by
    have e' : i = 8 := by omega
    subst e'
    apply rx_wp_sound 40 [4]
    simp (disch := omega) only [rx_W, rx_wp_succ, rx_nx_nil, rx_nx_cons, rx_cut_cons, rx_cut_nil, rx_lx_some, rx_fx_some, rx_ax_some, rx_qx_some, rx_ox_some, rx_vx_ref, rx_ix_ref, rx_ld_0, rx_ld_2, rx_ld_3, rx_cx_some, rx_nl, List.getElem?_cons_zero, List.getElem?_cons_succ, List.set_cons_zero, List.set_cons_succ, List.length_cons, List.length_nil, List.take_succ_cons, List.take_zero, List.drop_succ_cons, List.drop_zero, List.reverse_cons, List.reverse_nil, List.nil_append, List.cons_append, Option.toList_some, Option.toList_none, true_and, and_true, and_self, not_false_eq_true, Nat.reduceAdd, Nat.reduceLT, Nat.reduceLeDiff, Nat.reduceBEq, Nat.reduceEqDiff, Bool.or_false, Bool.false_or, if_true, if_false, Bool.false_eq_true, it_X8_ones, nq_lits, nq_le, if_pos, if_neg]
    trace_state
    sorry
  | j + 1, i, e => by
    apply rx_wp_sound 40 [4]
    simp (disch := omega) only [rx_W, rx_wp_succ, rx_nx_nil, rx_nx_cons, rx_cut_cons, rx_cut_nil, rx_lx_some, rx_fx_some, rx_ax_some, rx_qx_some, rx_ox_some, rx_vx_ref, rx_ix_ref, rx_ld_0, rx_ld_2, rx_ld_3, rx_cx_some, rx_nl, List.getElem?_cons_zero, List.getElem?_cons_succ, List.set_cons_zero, List.set_cons_succ, List.length_cons, List.length_nil, List.take_succ_cons, List.take_zero, List.drop_succ_cons, List.drop_zero, List.reverse_cons, List.reverse_nil, List.nil_append, List.cons_append, Option.toList_some, Option.toList_none, true_and, and_true, and_self, not_false_eq_true, Nat.reduceAdd, Nat.reduceLT, Nat.reduceLeDiff, Nat.reduceBEq, Nat.reduceEqDiff, Bool.or_false, Bool.false_or, if_true, if_false, Bool.false_eq_true, it_X8_ones, nq_lits, nq_le, nq_bitb, nq_add, if_pos, if_neg]
    trace_state
    sorry
