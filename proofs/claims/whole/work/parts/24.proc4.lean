theorem c_X4_become {h : rx_H} {o o2 n n2 : Nat} {w w2 : Nat → Nat} (hp : pW h o n w) (hp2 : pW h o2 n2 w2) (h12 : ¬ o2 = o ∧ ¬ o2 = o + 1 ∧ ¬ o2 + 1 = o) : rx_Cl 37 [.ref o, .ref o2] h (fun r h' => r = none ∧ Fr h h' [o, o + 1] ∧ pW h' o n2 w2) := by
  obtain ⟨h1, ⟨f, h2, hf⟩, h3⟩ := hp
  obtain ⟨g1, ⟨g, g2, hg⟩, g3⟩ := hp2
  obtain ⟨e1, e2, e3⟩ := h12
  apply en_X4_become _ _ 60 []
  simp (disch := first | decide | omega) only [rx_W, rx_wp_succ, rx_nx_stop, rx_nx_go, rx_lx_some, rx_fx_some, rx_ax_some, rx_qx_some, rx_ox_some, rx_vx_ref, rx_ix_ref, rx_ld_0, rx_ld_2, rx_ld_3, rx_cx_some, rx_nl, List.getElem?_cons_zero, List.getElem?_cons_succ, List.set_cons_zero, List.set_cons_succ, List.length_cons, List.length_nil, List.take_succ_cons, List.take_zero, List.drop_succ_cons, List.drop_zero, List.reverse_cons, List.reverse_nil, List.nil_append, List.cons_append, Option.toList_some, Option.toList_none, true_and, and_true, and_self, true_or, or_true, false_and, and_false, false_or, or_false, not_false_eq_true, Nat.reduceAdd, Nat.reduceLT, Nat.reduceLeDiff, Nat.reduceBEq, Nat.reduceEqDiff, Bool.or_false, Bool.false_or, if_true, if_false, Bool.false_eq_true, nq_eq, nq_lt, nq_le, nq_in_t, nq_bd, nq_ft, nq_clamp, nq_shl31, nq_shr31, nq_bitb, nq_add, nq_mul, fa_and, fa_or, nq_b0, nq_b1, nq_b01, ↓ni_lt_t, ↓ni_lt_f, ↓ni_le_t, ↓ni_le_f, ↓ni_eq_t, ↓ni_eq_f, ↓ni_beq_t, ↓ni_beq_f, it_X4_become, h1, h2, h3, g1, g2, g3, e1, e2, e3, rd_eq, rd_ne, rx_fit, rx_cpx, nI_pos, Nat.zero_add]
  refine ⟨Fr_up (Fr_up (Fr_up (Fr_rfl _ _) (by simp)) (by simp)) (by simp), ?_, ⟨_, rd_eq _ _ _, fun j hj => ?_⟩, h3⟩
  · rw [rd_ne (by omega), rd_eq]
  · unfold va_cpy
    rw [if_pos (by omega)]
    simp only [Nat.zero_add, Nat.sub_zero]
    exact hg j hj
/-- moves of kind k become moves of kind i, in the first m states -/
def turnW (k i m : Nat) (w : Nat → Nat) : Nat → Nat := fun j => if j / 5 < m then (if j % 5 = i then w j ||| w (j / 5 * 5 + k) else if j % 5 = k then 0 else w j) else w j
theorem turnW_0 (k i : Nat) (w : Nat → Nat) : turnW k i 0 w = w := by
  funext j
  unfold turnW
  rw [if_neg (by omega)]
theorem turnW_succ {k i m : Nat} (hk : k < 5) (hi : i < 5) (hne : ¬ k = i) (w : Nat → Nat) : va_up (va_up (turnW k i m w) (m * 5 + i) (w (m * 5 + i) ||| w (m * 5 + k))) (m * 5 + k) 0 = turnW k i (m + 1) w := by
  funext j
  unfold va_up turnW
  by_cases h1 : j = m * 5 + k
  · rw [if_pos h1, if_pos (by omega), if_neg (by omega), if_pos (by omega)]
  · rw [if_neg h1]
    by_cases h2 : j = m * 5 + i
    · rw [if_pos h2, if_pos (by omega), if_pos (by omega)]
      rw [show j / 5 * 5 + k = m * 5 + k by omega, h2]
    · rw [if_neg h2]
      by_cases h3 : j / 5 < m
      · have h4 : j / 5 < m + 1 := by omega
        rw [if_pos h3, if_pos h4]
      · rw [if_neg h3]
        by_cases h4 : j / 5 < m + 1
        · rw [if_pos h4, if_neg (by omega), if_neg (by omega)]
        · rw [if_neg h4]
theorem turnW_at {k i m s b : Nat} (w : Nat → Nat) (hb : b < 5) (hs : m ≤ s) : turnW k i m w (s * 5 + b) = w (s * 5 + b) := by
  unfold turnW
  rw [if_neg (by omega)]
theorem turnW_lt {k i m N : Nat} {w : Nat → Nat} (hk : k < 5) (hw : ∀ j, j < 40 → w j < 2 ^ N) : ∀ j, j < 40 → turnW k i m w j < 2 ^ N := by
  intro j hj
  unfold turnW
  split
  · split
    · exact Nat.or_lt_two_pow (hw _ hj) (hw _ (by omega))
    · split
      · exact Nat.two_pow_pos N
      · exact hw _ hj
  · exact hw _ hj
theorem l_X4_turn {h0 : rx_H} {o n k i : Nat} {w : Nat → Nat} (hn : n ≤ 8) (hw : ∀ j, j < 40 → w j < 256) (hk : k < 5) (hi : i < 5) (hne : ¬ k = i) (Q : Option Value → rx_H → Prop) (hq : ∀ h, Fr h0 h [o, o + 1] → pW h o n (turnW k i n w) → Q none h) : ∀ j m h, m + j = n → Fr h0 h [o, o + 1] → pW h o n (turnW k i m w) → rx_R 42 8 [.ref o, .int (nI k), .int (nI i), .int (nI m)] [] h Q
  | 0, m, h, e, hf, hp => by
    have e' : m = n := by omega
    subst e'
    apply rx_wp_sound 40 [8]
    simp (disch := first | decide | omega) only [rx_W, rx_wp_succ, rx_nx_stop, rx_nx_go, rx_lx_some, rx_fx_some, rx_ax_some, rx_qx_some, rx_ox_some, rx_vx_ref, rx_ix_ref, rx_ld_0, rx_ld_2, rx_ld_3, rx_cx_some, rx_nl, List.getElem?_cons_zero, List.getElem?_cons_succ, List.set_cons_zero, List.set_cons_succ, List.length_cons, List.length_nil, List.take_succ_cons, List.take_zero, List.drop_succ_cons, List.drop_zero, List.reverse_cons, List.reverse_nil, List.nil_append, List.cons_append, Option.toList_some, Option.toList_none, true_and, and_true, and_self, true_or, or_true, false_and, and_false, false_or, or_false, not_false_eq_true, Nat.reduceAdd, Nat.reduceLT, Nat.reduceLeDiff, Nat.reduceBEq, Nat.reduceEqDiff, Bool.or_false, Bool.false_or, if_true, if_false, Bool.false_eq_true, nq_eq, nq_lt, nq_le, nq_in_t, nq_bd, nq_ft, nq_clamp, nq_shl31, nq_shr31, nq_bitb, nq_add, nq_mul, fa_and, fa_or, nq_b0, nq_b1, nq_b01, ↓ni_lt_t, ↓ni_lt_f, ↓ni_le_t, ↓ni_le_f, ↓ni_eq_t, ↓ni_eq_f, ↓ni_beq_t, ↓ni_beq_f, it_X4_turn, hp.1, hp.2.2]
    exact hq h hf hp
  | j + 1, m, h, e, hf, hp => by
    have w1 := turnW_lt (m := m) (i := i) (N := 8) hk hw
    have t1 := turnW_at (k := k) (i := i) (m := m) (s := m) w hi (Nat.le_refl _)
    have t2 := turnW_at (k := k) (i := i) (m := m) (s := m) w hk (Nat.le_refl _)
    have b1 := hw (m * 5 + i) (by omega)
    have b2 := hw (m * 5 + k) (by omega)
    apply rx_wp_sound 40 [8]
    simp (disch := first | decide | omega) only [rx_W, rx_wp_succ, rx_nx_stop, rx_nx_go, rx_lx_some, rx_fx_some, rx_ax_some, rx_qx_some, rx_ox_some, rx_vx_ref, rx_ix_ref, rx_ld_0, rx_ld_2, rx_ld_3, rx_cx_some, rx_nl, List.getElem?_cons_zero, List.getElem?_cons_succ, List.set_cons_zero, List.set_cons_succ, List.length_cons, List.length_nil, List.take_succ_cons, List.take_zero, List.drop_succ_cons, List.drop_zero, List.reverse_cons, List.reverse_nil, List.nil_append, List.cons_append, Option.toList_some, Option.toList_none, true_and, and_true, and_self, true_or, or_true, false_and, and_false, false_or, or_false, not_false_eq_true, Nat.reduceAdd, Nat.reduceLT, Nat.reduceLeDiff, Nat.reduceBEq, Nat.reduceEqDiff, Bool.or_false, Bool.false_or, if_true, if_false, Bool.false_eq_true, nq_eq, nq_lt, nq_le, nq_in_t, nq_bd, nq_ft, nq_clamp, nq_shl31, nq_shr31, nq_bitb, nq_add, nq_mul, fa_and, fa_or, nq_b0, nq_b1, nq_b01, ↓ni_lt_t, ↓ni_lt_f, ↓ni_le_t, ↓ni_le_f, ↓ni_eq_t, ↓ni_eq_f, ↓ni_beq_t, ↓ni_beq_f, it_X4_turn, q_X4_targets hp, hp.1, hp.2.2, t1, t2]
    refine rx_Cl_imp (c_X4_setTargets hp (by omega) (by rw [t1]; exact b1) (or_256 b1 b2)) (fun r h1 ⟨e1, f1, p1⟩ => ?_)
    subst e1
    simp (disch := first | decide | omega) only [rx_W, rx_wp_succ, rx_nx_stop, rx_nx_go, rx_lx_some, rx_fx_some, rx_ax_some, rx_qx_some, rx_ox_some, rx_vx_ref, rx_ix_ref, rx_ld_0, rx_ld_2, rx_ld_3, rx_cx_some, rx_nl, List.getElem?_cons_zero, List.getElem?_cons_succ, List.set_cons_zero, List.set_cons_succ, List.length_cons, List.length_nil, List.take_succ_cons, List.take_zero, List.drop_succ_cons, List.drop_zero, List.reverse_cons, List.reverse_nil, List.nil_append, List.cons_append, Option.toList_some, Option.toList_none, true_and, and_true, and_self, true_or, or_true, false_and, and_false, false_or, or_false, not_false_eq_true, Nat.reduceAdd, Nat.reduceLT, Nat.reduceLeDiff, Nat.reduceBEq, Nat.reduceEqDiff, Bool.or_false, Bool.false_or, if_true, if_false, Bool.false_eq_true, nq_eq, nq_lt, nq_le, nq_in_t, nq_bd, nq_ft, nq_clamp, nq_shl31, nq_shr31, nq_bitb, nq_add, nq_mul, fa_and, fa_or, nq_b0, nq_b1, nq_b01, ↓ni_lt_t, ↓ni_lt_f, ↓ni_le_t, ↓ni_le_f, ↓ni_eq_t, ↓ni_eq_f, ↓ni_beq_t, ↓ni_beq_f, it_X4_turn, p1.1, p1.2.2]
    have v2 : va_up (turnW k i m w) (m * 5 + i) (w (m * 5 + i) ||| w (m * 5 + k)) (m * 5 + k) < 256 := by
      unfold va_up
      rw [if_neg (by omega), t2]
      exact b2
    refine rx_Cl_imp (c_X4_setTargets p1 (v := 0) (by omega) v2 (by omega)) (fun r h2 ⟨e2, f2, p2⟩ => ?_)
    subst e2
    simp (disch := first | decide | omega) only [rx_W, rx_wp_succ, rx_nx_stop, rx_nx_go, rx_lx_some, rx_fx_some, rx_ax_some, rx_qx_some, rx_ox_some, rx_vx_ref, rx_ix_ref, rx_ld_0, rx_ld_2, rx_ld_3, rx_cx_some, rx_nl, List.getElem?_cons_zero, List.getElem?_cons_succ, List.set_cons_zero, List.set_cons_succ, List.length_cons, List.length_nil, List.take_succ_cons, List.take_zero, List.drop_succ_cons, List.drop_zero, List.reverse_cons, List.reverse_nil, List.nil_append, List.cons_append, Option.toList_some, Option.toList_none, true_and, and_true, and_self, true_or, or_true, false_and, and_false, false_or, or_false, not_false_eq_true, Nat.reduceAdd, Nat.reduceLT, Nat.reduceLeDiff, Nat.reduceBEq, Nat.reduceEqDiff, Bool.or_false, Bool.false_or, if_true, if_false, Bool.false_eq_true, nq_eq, nq_lt, nq_le, nq_in_t, nq_bd, nq_ft, nq_clamp, nq_shl31, nq_shr31, nq_bitb, nq_add, nq_mul, fa_and, fa_or, nq_b0, nq_b1, nq_b01, ↓ni_lt_t, ↓ni_lt_f, ↓ni_le_t, ↓ni_le_f, ↓ni_eq_t, ↓ni_eq_f, ↓ni_beq_t, ↓ni_beq_f, it_X4_turn]
    rw [turnW_succ hk hi hne] at p2
    exact l_X4_turn hn hw hk hi hne Q hq j (m + 1) h2 (by omega) (Fr_trans (Fr_trans hf f1 (fun _ z => z) (fun _ z => z)) f2 (fun _ z => z) (fun _ z => z)) p2
theorem c_X4_turn {h : rx_H} {o n k i : Nat} {w : Nat → Nat} (hp : pW h o n w) (hn : n ≤ 8) (hw : ∀ j, j < 40 → w j < 256) (hk : k < 5) (hi : i < 5) : rx_Cl 42 [.ref o, .int (nI k), .int (nI i)] h (fun r h' => r = none ∧ Fr h h' [o, o + 1] ∧ pW h' o n (if k = i then w else turnW k i n w)) := by
  apply en_X4_turn _ _ _ 40 [8]
  by_cases e : k = i
  · subst e
    simp (disch := first | decide | omega) only [rx_W, rx_wp_succ, rx_nx_stop, rx_nx_go, rx_lx_some, rx_fx_some, rx_ax_some, rx_qx_some, rx_ox_some, rx_vx_ref, rx_ix_ref, rx_ld_0, rx_ld_2, rx_ld_3, rx_cx_some, rx_nl, List.getElem?_cons_zero, List.getElem?_cons_succ, List.set_cons_zero, List.set_cons_succ, List.length_cons, List.length_nil, List.take_succ_cons, List.take_zero, List.drop_succ_cons, List.drop_zero, List.reverse_cons, List.reverse_nil, List.nil_append, List.cons_append, Option.toList_some, Option.toList_none, true_and, and_true, and_self, true_or, or_true, false_and, and_false, false_or, or_false, not_false_eq_true, Nat.reduceAdd, Nat.reduceLT, Nat.reduceLeDiff, Nat.reduceBEq, Nat.reduceEqDiff, Bool.or_false, Bool.false_or, if_true, if_false, Bool.false_eq_true, nq_eq, nq_lt, nq_le, nq_in_t, nq_bd, nq_ft, nq_clamp, nq_shl31, nq_shr31, nq_bitb, nq_add, nq_mul, fa_and, fa_or, nq_b0, nq_b1, nq_b01, ↓ni_lt_t, ↓ni_lt_f, ↓ni_le_t, ↓ni_le_f, ↓ni_eq_t, ↓ni_eq_f, ↓ni_beq_t, ↓ni_beq_f, it_X4_turn]
    exact ⟨Fr_rfl _ _, hp⟩
  · simp (disch := first | decide | omega) only [rx_W, rx_wp_succ, rx_nx_stop, rx_nx_go, rx_lx_some, rx_fx_some, rx_ax_some, rx_qx_some, rx_ox_some, rx_vx_ref, rx_ix_ref, rx_ld_0, rx_ld_2, rx_ld_3, rx_cx_some, rx_nl, List.getElem?_cons_zero, List.getElem?_cons_succ, List.set_cons_zero, List.set_cons_succ, List.length_cons, List.length_nil, List.take_succ_cons, List.take_zero, List.drop_succ_cons, List.drop_zero, List.reverse_cons, List.reverse_nil, List.nil_append, List.cons_append, Option.toList_some, Option.toList_none, true_and, and_true, and_self, true_or, or_true, false_and, and_false, false_or, or_false, not_false_eq_true, Nat.reduceAdd, Nat.reduceLT, Nat.reduceLeDiff, Nat.reduceBEq, Nat.reduceEqDiff, Bool.or_false, Bool.false_or, if_true, if_false, Bool.false_eq_true, nq_eq, nq_lt, nq_le, nq_in_t, nq_bd, nq_ft, nq_clamp, nq_shl31, nq_shr31, nq_bitb, nq_add, nq_mul, fa_and, fa_or, nq_b0, nq_b1, nq_b01, ↓ni_lt_t, ↓ni_lt_f, ↓ni_le_t, ↓ni_le_f, ↓ni_eq_t, ↓ni_eq_f, ↓ni_beq_t, ↓ni_beq_f, it_X4_turn, e]
    refine l_X4_turn hn hw hk hi e _ (fun h' f1 p1 => ⟨rfl, f1, p1⟩) n 0 h (by omega) (Fr_rfl _ _) ?_
    rw [turnW_0]
    exact hp
