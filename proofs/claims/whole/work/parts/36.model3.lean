def rcJ (w : Nat → Nat) (x : Nat) : Nat := un (fun k => if x.testBit (k / 5) then w k else 0) 40
theorem l_X8_reach_in {h : rx_H} {v : Nat → Nat} (hm : mN h v) {p set : Nat} (hp : p < 4) (Q : Option Value → rx_H → Prop) (hset : set < 256) (hq : rx_R 132 60 [.ref 98, .int (nI p), .int (nI set), .int (nI 1), .int (nI (set ||| rcJ (wq v p) set)), .int (nI 40)] [] h Q) : ∀ j i, i + j = 40 → rx_R 132 14 [.ref 98, .int (nI p), .int (nI set), .int (nI 1), .int (nI (set ||| un (fun k => if set.testBit (k / 5) then wq v p k else 0) i)), .int (nI i)] [] h Q
  | 0, i, e => by
    have e' : i = 40 := by omega
    subst e'
    obtain ⟨pa, le, pl, fo, z, h1⟩ := hm.1
    apply rx_wp_sound 60 [14, 60]
    simp (disch := first | decide | omega) only [rx_W, rx_wp_succ, rx_nx_stop, rx_nx_go, rx_lx_some, rx_fx_some, rx_ax_some, rx_qx_some, rx_ox_some, rx_vx_ref, rx_ix_ref, rx_ld_0, rx_ld_2, rx_ld_3, rx_cx_some, rx_nl, List.getElem?_cons_zero, List.getElem?_cons_succ, List.set_cons_zero, List.set_cons_succ, List.length_cons, List.length_nil, List.take_succ_cons, List.take_zero, List.drop_succ_cons, List.drop_zero, List.reverse_cons, List.reverse_nil, List.nil_append, List.cons_append, Option.toList_some, Option.toList_none, true_and, and_true, and_self, true_or, or_true, false_and, and_false, false_or, or_false, not_false_eq_true, Nat.reduceAdd, Nat.reduceLT, Nat.reduceLeDiff, Nat.reduceBEq, Nat.reduceEqDiff, Bool.or_false, Bool.false_or, if_true, if_false, Bool.false_eq_true, nq_eq, nq_lt, nq_le, nq_in_t, nq_bd, nq_ft, nq_clamp, nq_shl31, nq_shr31, nq_bitb, nq_add, nq_mul, fa_and, fa_or, nq_b0, nq_b1, nq_b01, ↓ni_lt_t, ↓ni_lt_f, ↓ni_le_t, ↓ni_le_f, ↓ni_eq_t, ↓ni_eq_f, ↓ni_beq_t, ↓ni_beq_f, it_X8_reachable, h1, mO]
    exact hq
  | j + 1, i, e => by
    have ih := l_X8_reach_in hm hp Q hset hq j (i + 1) (by omega)
    rw [un_succ] at ih
    have e5 : i / 5 * 5 + (i - i / 5 * 5) = i := by omega
    obtain ⟨pa, le, pl, fo, z, h1⟩ := hm.1
    apply rx_wp_sound 60 [14, 60]
    simp (disch := first | decide | omega) only [rx_W, rx_wp_succ, rx_nx_stop, rx_nx_go, rx_lx_some, rx_fx_some, rx_ax_some, rx_qx_some, rx_ox_some, rx_vx_ref, rx_ix_ref, rx_ld_0, rx_ld_2, rx_ld_3, rx_cx_some, rx_nl, List.getElem?_cons_zero, List.getElem?_cons_succ, List.set_cons_zero, List.set_cons_succ, List.length_cons, List.length_nil, List.take_succ_cons, List.take_zero, List.drop_succ_cons, List.drop_zero, List.reverse_cons, List.reverse_nil, List.nil_append, List.cons_append, Option.toList_some, Option.toList_none, true_and, and_true, and_self, true_or, or_true, false_and, and_false, false_or, or_false, not_false_eq_true, Nat.reduceAdd, Nat.reduceLT, Nat.reduceLeDiff, Nat.reduceBEq, Nat.reduceEqDiff, Bool.or_false, Bool.false_or, if_true, if_false, Bool.false_eq_true, nq_eq, nq_lt, nq_le, nq_in_t, nq_bd, nq_ft, nq_clamp, nq_shl31, nq_shr31, nq_bitb, nq_add, nq_mul, fa_and, fa_or, nq_b0, nq_b1, nq_b01, ↓ni_lt_t, ↓ni_lt_f, ↓ni_le_t, ↓ni_le_f, ↓ni_eq_t, ↓ni_eq_f, ↓ni_beq_t, ↓ni_beq_f, it_X8_reachable, q_X8_has, q_X8_leadsOf hm, h1, mO, nq_div, nq_sub, e5]
    split
    · next h1 => rw [if_neg (by rw [h1]; simp), ← Nat.or_assoc] at ih; exact ih
    · next h1 => rw [if_pos (by simpa using h1), ← Nat.or_assoc] at ih; exact ih
theorem rcJ_sucs {w : Nat → Nat} {n x : Nat} (hn : n ≤ 8) (hx : x < 2 ^ n) : rcJ w x = sucs w n x := by
  apply bit_ext
  intro t
  rw [sucs_bit]
  unfold rcJ
  rw [un_bit]
  constructor
  · rintro ⟨k, h1, h2⟩
    by_cases h3 : x.testBit (k / 5) = true
    · rw [if_pos h3] at h2
      have e5 : k / 5 * 5 + k % 5 = k := by omega
      exact ⟨k / 5, k % 5, bit_lt hx h3, by omega, h3, by rw [e5]; exact h2⟩
    · rw [if_neg h3] at h2
      simp at h2
  · rintro ⟨s, b, h1, h2, h3, h4⟩
    have e5 : (s * 5 + b) / 5 = s := by omega
    exact ⟨s * 5 + b, by omega, by rw [e5, if_pos h3]; exact h4⟩
theorem l_X8_reach {h : rx_H} {v : Nat → Nat} (hm : mN h v) {p : Nat} (hp : p < 4) (hn : v (41 * p) ≤ 8) (hw : ∀ j, j < 40 → wq v p j < 2 ^ v (41 * p)) (Q : Option Value → rx_H → Prop) (hq : ∀ S, isClo (sucs (wq v p) (v (41 * p))) 1 S → S < 2 ^ v (41 * p) → Q (some (.int (nI S))) h) : ∀ k set x y, cnt (v (41 * p)) set + k = v (41 * p) → sub 1 set → (∀ T, sub 1 T → sub (sucs (wq v p) (v (41 * p)) T) T → sub set T) → set < 2 ^ v (41 * p) → rx_R 132 4 [.ref 98, .int (nI p), .int (nI set), .int (nI 1), x, y] [] h Q := by
  intro k
  induction k using Nat.strongRecOn with
  | ind k ih =>
    intro set x y h0 h1 h2 h3
    have p8 : 2 ^ v (41 * p) ≤ 2 ^ 8 := Nat.pow_le_pow_right (by omega) hn
    have s1 := sucs_lt hn hw set
    have s2 : set ||| sucs (wq v p) (v (41 * p)) set < 2 ^ v (41 * p) := Nat.or_lt_two_pow h3 s1
    have e0 := rcJ_sucs (w := wq v p) hn h3
    apply rx_wp_sound 60 [4, 14]
    simp (disch := first | decide | omega) only [rx_W, rx_wp_succ, rx_nx_stop, rx_nx_go, rx_lx_some, rx_fx_some, rx_ax_some, rx_qx_some, rx_ox_some, rx_vx_ref, rx_ix_ref, rx_ld_0, rx_ld_2, rx_ld_3, rx_cx_some, rx_nl, List.getElem?_cons_zero, List.getElem?_cons_succ, List.set_cons_zero, List.set_cons_succ, List.length_cons, List.length_nil, List.take_succ_cons, List.take_zero, List.drop_succ_cons, List.drop_zero, List.reverse_cons, List.reverse_nil, List.nil_append, List.cons_append, Option.toList_some, Option.toList_none, true_and, and_true, and_self, true_or, or_true, false_and, and_false, false_or, or_false, not_false_eq_true, Nat.reduceAdd, Nat.reduceLT, Nat.reduceLeDiff, Nat.reduceBEq, Nat.reduceEqDiff, Bool.or_false, Bool.false_or, if_true, if_false, Bool.false_eq_true, nq_eq, nq_lt, nq_le, nq_in_t, nq_bd, nq_ft, nq_clamp, nq_shl31, nq_shr31, nq_bitb, nq_add, nq_mul, fa_and, fa_or, nq_b0, nq_b1, nq_b01, ↓ni_lt_t, ↓ni_lt_f, ↓ni_le_t, ↓ni_le_f, ↓ni_eq_t, ↓ni_eq_f, ↓ni_beq_t, ↓ni_beq_f, it_X8_reachable]
    have g := fun hq => l_X8_reach_in (set := set) hm hp Q (by omega) hq 40 0 (by omega)
    rw [show ∀ f, un f 0 = 0 from fun _ => rfl, Nat.or_zero] at g
    refine g ?_
    rw [e0]
    apply rx_wp_sound 60 [4, 14]
    simp (disch := first | decide | omega) only [rx_W, rx_wp_succ, rx_nx_stop, rx_nx_go, rx_lx_some, rx_fx_some, rx_ax_some, rx_qx_some, rx_ox_some, rx_vx_ref, rx_ix_ref, rx_ld_0, rx_ld_2, rx_ld_3, rx_cx_some, rx_nl, List.getElem?_cons_zero, List.getElem?_cons_succ, List.set_cons_zero, List.set_cons_succ, List.length_cons, List.length_nil, List.take_succ_cons, List.take_zero, List.drop_succ_cons, List.drop_zero, List.reverse_cons, List.reverse_nil, List.nil_append, List.cons_append, Option.toList_some, Option.toList_none, true_and, and_true, and_self, true_or, or_true, false_and, and_false, false_or, or_false, not_false_eq_true, Nat.reduceAdd, Nat.reduceLT, Nat.reduceLeDiff, Nat.reduceBEq, Nat.reduceEqDiff, Bool.or_false, Bool.false_or, if_true, if_false, Bool.false_eq_true, nq_eq, nq_lt, nq_le, nq_in_t, nq_bd, nq_ft, nq_clamp, nq_shl31, nq_shr31, nq_bitb, nq_add, nq_mul, fa_and, fa_or, nq_b0, nq_b1, nq_b01, ↓ni_lt_t, ↓ni_lt_f, ↓ni_le_t, ↓ni_le_f, ↓ni_eq_t, ↓ni_eq_f, ↓ni_beq_t, ↓ni_beq_f, it_X8_reachable]
    by_cases e : set ||| sucs (wq v p) (v (41 * p)) set = set
    · simp (disch := first | decide | omega) only [rx_W, rx_wp_succ, rx_nx_stop, rx_nx_go, rx_lx_some, rx_fx_some, rx_ax_some, rx_qx_some, rx_ox_some, rx_vx_ref, rx_ix_ref, rx_ld_0, rx_ld_2, rx_ld_3, rx_cx_some, rx_nl, List.getElem?_cons_zero, List.getElem?_cons_succ, List.set_cons_zero, List.set_cons_succ, List.length_cons, List.length_nil, List.take_succ_cons, List.take_zero, List.drop_succ_cons, List.drop_zero, List.reverse_cons, List.reverse_nil, List.nil_append, List.cons_append, Option.toList_some, Option.toList_none, true_and, and_true, and_self, true_or, or_true, false_and, and_false, false_or, or_false, not_false_eq_true, Nat.reduceAdd, Nat.reduceLT, Nat.reduceLeDiff, Nat.reduceBEq, Nat.reduceEqDiff, Bool.or_false, Bool.false_or, if_true, if_false, Bool.false_eq_true, e]
      apply rx_wp_sound 60 [14]
      simp (disch := first | decide | omega) only [rx_W, rx_wp_succ, rx_nx_stop, rx_nx_go, rx_lx_some, rx_fx_some, rx_ax_some, rx_qx_some, rx_ox_some, rx_vx_ref, rx_ix_ref, rx_ld_0, rx_ld_2, rx_ld_3, rx_cx_some, rx_nl, List.getElem?_cons_zero, List.getElem?_cons_succ, List.set_cons_zero, List.set_cons_succ, List.length_cons, List.length_nil, List.take_succ_cons, List.take_zero, List.drop_succ_cons, List.drop_zero, List.reverse_cons, List.reverse_nil, List.nil_append, List.cons_append, Option.toList_some, Option.toList_none, true_and, and_true, and_self, true_or, or_true, false_and, and_false, false_or, or_false, not_false_eq_true, Nat.reduceAdd, Nat.reduceLT, Nat.reduceLeDiff, Nat.reduceBEq, Nat.reduceEqDiff, Bool.or_false, Bool.false_or, if_true, if_false, Bool.false_eq_true, nq_eq, nq_lt, nq_le, nq_in_t, nq_bd, nq_ft, nq_clamp, nq_shl31, nq_shr31, nq_bitb, nq_add, nq_mul, fa_and, fa_or, nq_b0, nq_b1, nq_b01, ↓ni_lt_t, ↓ni_lt_f, ↓ni_le_t, ↓ni_le_f, ↓ni_eq_t, ↓ni_eq_f, ↓ni_beq_t, ↓ni_beq_f, it_X8_reachable]
      exact hq set ⟨h1, or_eq_sub e, h2⟩ h3
    · simp (disch := first | decide | omega) only [rx_W, rx_wp_succ, rx_nx_stop, rx_nx_go, rx_lx_some, rx_fx_some, rx_ax_some, rx_qx_some, rx_ox_some, rx_vx_ref, rx_ix_ref, rx_ld_0, rx_ld_2, rx_ld_3, rx_cx_some, rx_nl, List.getElem?_cons_zero, List.getElem?_cons_succ, List.set_cons_zero, List.set_cons_succ, List.length_cons, List.length_nil, List.take_succ_cons, List.take_zero, List.drop_succ_cons, List.drop_zero, List.reverse_cons, List.reverse_nil, List.nil_append, List.cons_append, Option.toList_some, Option.toList_none, true_and, and_true, and_self, true_or, or_true, false_and, and_false, false_or, or_false, not_false_eq_true, Nat.reduceAdd, Nat.reduceLT, Nat.reduceLeDiff, Nat.reduceBEq, Nat.reduceEqDiff, Bool.or_false, Bool.false_or, if_true, if_false, Bool.false_eq_true, e]
      have c1 := cnt_strict (sub_or_l set (sucs (wq v p) (v (41 * p)) set)) s2 e
      have c2 := cnt_le (v (41 * p)) (set ||| sucs (wq v p) (v (41 * p)) set)
      exact ih (v (41 * p) - cnt (v (41 * p)) (set ||| sucs (wq v p) (v (41 * p)) set)) (by omega) _ _ _ (by omega) (sub_trans h1 (sub_or_l _ _)) (fun T t1 t2 => sub_or (h2 T t1 t2) (sub_trans (sucs_mono (wq v p) (v (41 * p)) _ _ (h2 T t1 t2)) t2)) s2
theorem c_X8_reachable {h : rx_H} {v : Nat → Nat} (hm : mN h v) {p : Nat} (hp : p < 4) (hn0 : 1 ≤ v (41 * p)) (hn : v (41 * p) ≤ 8) (hw : ∀ j, j < 40 → wq v p j < 2 ^ v (41 * p)) : rx_Cl 132 [.ref 98, .int (nI p)] h (fun r h' => h' = h ∧ ∃ S, isClo (sucs (wq v p) (v (41 * p))) 1 S ∧ S < 2 ^ v (41 * p) ∧ r = some (.int (nI S))) := by
  have c2 := cnt_le (v (41 * p)) 1
  apply en_X8_reachable _ _ 40 [4]
  simp (disch := first | decide | omega) only [rx_W, rx_wp_succ, rx_nx_stop, rx_nx_go, rx_lx_some, rx_fx_some, rx_ax_some, rx_qx_some, rx_ox_some, rx_vx_ref, rx_ix_ref, rx_ld_0, rx_ld_2, rx_ld_3, rx_cx_some, rx_nl, List.getElem?_cons_zero, List.getElem?_cons_succ, List.set_cons_zero, List.set_cons_succ, List.length_cons, List.length_nil, List.take_succ_cons, List.take_zero, List.drop_succ_cons, List.drop_zero, List.reverse_cons, List.reverse_nil, List.nil_append, List.cons_append, Option.toList_some, Option.toList_none, true_and, and_true, and_self, true_or, or_true, false_and, and_false, false_or, or_false, not_false_eq_true, Nat.reduceAdd, Nat.reduceLT, Nat.reduceLeDiff, Nat.reduceBEq, Nat.reduceEqDiff, Bool.or_false, Bool.false_or, if_true, if_false, Bool.false_eq_true, nq_eq, nq_lt, nq_le, nq_in_t, nq_bd, nq_ft, nq_clamp, nq_shl31, nq_shr31, nq_bitb, nq_add, nq_mul, fa_and, fa_or, nq_b0, nq_b1, nq_b01, ↓ni_lt_t, ↓ni_lt_f, ↓ni_le_t, ↓ni_le_f, ↓ni_eq_t, ↓ni_eq_f, ↓ni_beq_t, ↓ni_beq_f, it_X8_reachable]
  exact l_X8_reach hm hp hn hw _ (fun S h1 h2 => ⟨rfl, S, h1, h2, rfl⟩) (v (41 * p) - cnt (v (41 * p)) 1) 1 _ _ (by omega) (sub_rfl 1) (fun T t1 _ => t1) (Nat.one_lt_two_pow (by omega))
