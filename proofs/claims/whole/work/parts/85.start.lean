theorem v0_n {p : Nat} (hp : p < 4) : v0 (41 * p) = 1 := by
  unfold v0
  rw [if_pos (by omega)]
theorem v0_w (p : Nat) {j : Nat} (hj : j < 40) : wq v0 p j = 0 := by
  unfold wq v0
  rw [if_neg (by omega)]
theorem wfV_v0 : wfV v0 := fun p hp => by
  rw [v0_n hp]
  exact wfP_cong (wfP_new (by omega) (by omega)) (fun j hj => (v0_w p hj).symm)
theorem cN_cIv {h h' : rx_H} (hn : cN h) (s : Sm h h' 1 97) (e1 : h'.1 = 110) (e2 : h'.2.1 ≤ 1048576) : cIv h' v0 (fun _ _ => 0) 0 0 (fun _ => 0) (fun _ => 0) := by
  obtain ⟨b1, b2, b3, b4, b5, b6, b7, b8, b9, b10⟩ := hn
  refine ⟨(s 1 (by omega) (by omega)).trans b1, cPR_sm (Sm_sub s (by omega) (by omega)) b2, fun p hp => ?_, fun p hp => Or.inl (oF_sm s (by omega) (by omega) (b4 p hp)), psI_sm (Sm_sub s (by omega) (by omega)) b5, tI_sm (Sm_sub s (by omega) (by omega)) b6, ?_, kI_sm (Sm_sub s (by omega) (by omega)) b8, pgI_sm (Sm_sub s (by omega) (by omega)) b9, ⟨1, fun _ => 0, pW_sm s (by omega) (by omega) b10⟩⟩
  · rw [v0_n hp]
    exact pW_cong (pW_sm s (by omega) (by omega) (b3 p hp)) (fun j hj => (v0_w p hj).symm)
  · obtain ⟨a1, a2, a3, a4, a5, a6, a7⟩ := sN_sm (Sm_sub s (by omega) (by omega)) b7
    refine ⟨[], fun _ => 0, fun _ => 0, ⟨53, 54, 55, 0, a1, ⟨⟨by omega, by omega, by omega, by omega, by omega, by omega⟩, by omega, by omega, by omega, by omega, by omega, by omega⟩, ⟨by omega, by omega, by omega, by omega, by simp, fun _ => 0, fun _ => 0, fun _ => 0, a5, a6, a7, fun i e he => by simp at he⟩, ⟨fun _ => 0, ⟨fun _ => 0, a4, fun _ _ => rfl⟩, fun x hx => ?_⟩⟩, fun i e he => by simp at he, a3, a2⟩
    simp [inL]
/-- the law answers true, and stays within its room -/
theorem law_pure {N sl : Nat} {f : Nat → Int32} {m : Nat → Option rx_C} (hN : N ≤ 2560) (hs : sl ≤ 10000) (h0 : m 0 = some (.inl (0, N, .inl f))) : rx_Cl 172 [.ref 0] (1, sl, m) (fun r h' => r = some (.int (nI 1)) ∧ h'.1 ≤ 140 ∧ h'.2.1 ≤ 1441792) := by
  apply en_L_law _ 60 [18]
  simp (disch := first | decide | omega) only [rx_W, rx_wp_succ, rx_nx_stop, rx_nx_go, rx_lx_some, rx_fx_some, rx_ax_some, rx_qx_some, rx_ox_some, rx_vx_ref, rx_ix_ref, rx_ld_0, rx_ld_2, rx_ld_3, rx_cx_some, rx_nl, List.getElem?_cons_zero, List.getElem?_cons_succ, List.set_cons_zero, List.set_cons_succ, List.length_cons, List.length_nil, List.take_succ_cons, List.take_zero, List.drop_succ_cons, List.drop_zero, List.reverse_cons, List.reverse_nil, List.nil_append, List.cons_append, Option.toList_some, Option.toList_none, true_and, and_true, and_self, true_or, or_true, false_and, and_false, false_or, or_false, not_false_eq_true, Nat.reduceAdd, Nat.reduceLT, Nat.reduceLeDiff, Nat.reduceBEq, Nat.reduceEqDiff, Bool.or_false, Bool.false_or, if_true, if_false, Bool.false_eq_true, nq_eq, nq_lt, nq_le, nq_in_t, nq_bd, nq_ft, nq_clamp, nq_shl31, nq_shr31, nq_bitb, nq_add, nq_mul, fa_and, fa_or, nq_b0, nq_b1, nq_b01, ↓ni_lt_t, ↓ni_lt_f, ↓ni_le_t, ↓ni_le_f, ↓ni_eq_t, ↓ni_eq_f, ↓ni_beq_t, ↓ni_beq_f, it_L_law, it_L_law_1, it_L_law_2, it_L_law_3, it_L_law_4, it_L_law_5, it_L_law_6, it_L_law_7, it_L_law_8, it_L_law_9, nw_t]
  refine rx_Cl_imp (i_X7 (mu_eq _ _ _)) (fun r h' hh => ?_)
  obtain ⟨e', m1, e2, y0, y1⟩ := hh
  subst e'
  subst e2
  simp (disch := first | decide | omega) only [rx_W, rx_wp_succ, rx_nx_stop, rx_nx_go, rx_lx_some, rx_fx_some, rx_ax_some, rx_qx_some, rx_ox_some, rx_vx_ref, rx_ix_ref, rx_ld_0, rx_ld_2, rx_ld_3, rx_cx_some, rx_nl, List.getElem?_cons_zero, List.getElem?_cons_succ, List.set_cons_zero, List.set_cons_succ, List.length_cons, List.length_nil, List.take_succ_cons, List.take_zero, List.drop_succ_cons, List.drop_zero, List.reverse_cons, List.reverse_nil, List.nil_append, List.cons_append, Option.toList_some, Option.toList_none, true_and, and_true, and_self, true_or, or_true, false_and, and_false, false_or, or_false, not_false_eq_true, Nat.reduceAdd, Nat.reduceLT, Nat.reduceLeDiff, Nat.reduceBEq, Nat.reduceEqDiff, Bool.or_false, Bool.false_or, if_true, if_false, Bool.false_eq_true, nq_eq, nq_lt, nq_le, nq_in_t, nq_bd, nq_ft, nq_clamp, nq_shl31, nq_shr31, nq_bitb, nq_add, nq_mul, fa_and, fa_or, nq_b0, nq_b1, nq_b01, ↓ni_lt_t, ↓ni_lt_f, ↓ni_le_t, ↓ni_le_f, ↓ni_eq_t, ↓ni_eq_f, ↓ni_beq_t, ↓ni_beq_f, it_L_law, it_L_law_1, it_L_law_2, it_L_law_3, it_L_law_4, it_L_law_5, it_L_law_6, it_L_law_7, it_L_law_8, it_L_law_9, nw_t]
  refine rx_Cl_imp (i_X8 (u := fun _ _ => 0) (t := fun _ => 0) (mu_eq _ _ _)) (fun r h' hh => ?_)
  obtain ⟨e', m2, e2, z0, z1⟩ := hh
  subst e'
  subst e2
  simp (disch := first | decide | omega) only [rx_W, rx_wp_succ, rx_nx_stop, rx_nx_go, rx_lx_some, rx_fx_some, rx_ax_some, rx_qx_some, rx_ox_some, rx_vx_ref, rx_ix_ref, rx_ld_0, rx_ld_2, rx_ld_3, rx_cx_some, rx_nl, List.getElem?_cons_zero, List.getElem?_cons_succ, List.set_cons_zero, List.set_cons_succ, List.length_cons, List.length_nil, List.take_succ_cons, List.take_zero, List.drop_succ_cons, List.drop_zero, List.reverse_cons, List.reverse_nil, List.nil_append, List.cons_append, Option.toList_some, Option.toList_none, true_and, and_true, and_self, true_or, or_true, false_and, and_false, false_or, or_false, not_false_eq_true, Nat.reduceAdd, Nat.reduceLT, Nat.reduceLeDiff, Nat.reduceBEq, Nat.reduceEqDiff, Bool.or_false, Bool.false_or, if_true, if_false, Bool.false_eq_true, nq_eq, nq_lt, nq_le, nq_in_t, nq_bd, nq_ft, nq_clamp, nq_shl31, nq_shr31, nq_bitb, nq_add, nq_mul, fa_and, fa_or, nq_b0, nq_b1, nq_b01, ↓ni_lt_t, ↓ni_lt_f, ↓ni_le_t, ↓ni_le_f, ↓ni_eq_t, ↓ni_eq_f, ↓ni_beq_t, ↓ni_beq_f, it_L_law, it_L_law_1, it_L_law_2, it_L_law_3, it_L_law_4, it_L_law_5, it_L_law_6, it_L_law_7, it_L_law_8, it_L_law_9]
  refine l_law (N := N) (f := f) hN _ (fun h S hI => ?_) N 0 _ (v0, fun _ _ => 0, 0, 0, fun _ => 0, fun _ => 0) (by omega) (by omega) ⟨?_, ?_, z1, ?_⟩
  · obtain ⟨-, hc, -⟩ := hI
    obtain ⟨l, fF, fW, ⟨P1, P2, P3, kk, -, -, ⟨q1, q2, q3, q4, -⟩, -⟩, -⟩ := hc.2.2.2.2.2.2.1
    have p8 : 2 ^ kk ≤ 2 ^ 10 := Nat.pow_le_pow_right (by omega) q1
    exact ⟨rfl, by omega, by omega⟩
  · rw [rd_t, z0 0 (by omega), mu_ne (by omega), y0, mu_ne (by omega)]
    exact h0
  · refine cN_cIv y1 (fun x a b => ?_) rfl ?_
    · rw [rd_t, z0 x (by omega), mu_ne (by omega)]
      rfl
    · show sl + 11 + 6925 + 16 + 134436 ≤ 1048576
      omega
  · show wfS v0 (fun _ _ => 0) 0 0 (fun _ => 0)
    exact ⟨wfV_v0, fun i hi => by omega, by omega, by omega, fun i hi => by omega⟩
